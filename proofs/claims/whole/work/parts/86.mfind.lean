/-! the model: find, similar -/
theorem nb_of {x : Int32} (h1 : ¬ x < nI 1) (h50 : x ≤ nI 50) : ∃ k, 1 ≤ k ∧ k ≤ 50 ∧ x = nI k := by
  obtain ⟨k, hk, rfl⟩ := nI_of (x := x) (fun z => h1 (Int32.lt_trans z (by decide)))
  exact ⟨k, Nat.le_of_not_lt (fun z => h1 (nI_lt (a := k) (b := 1) z (by decide))), (nI_leI hk (by decide)).mp h50, rfl⟩
section MFIND
variable {l : jL} {h : jH} {m : Nat} {A : Nat → Nat} {md : dsT} {nt : Nat} {B : Nat → Nat} {fk th : Nat} {fp : Int32} {L : List hiT}
set_option maxHeartbeats 1000000 in
theorem c_M_find (I : mdI h m A nt B md fk fp L th) (hk : (md.map (·.1)).Nodup) (x : Int32) (tv0 : Nat → tmT) (E : Nat × Nat × qsT) (hE : E = qs_all B nt tv0) : Cn l yX12_find cX12_find 2 (some .int) 6 0 0 [.ref m, .int x] h (fun r h1 => fr (mdS m A) h h1 ∧ ((∃ k, 1 ≤ k ∧ k ≤ 50 ∧ x = nI k ∧ ∃ L', mdI h1 m A nt B md E.1 (qs_fp E) L' 0 ∧ ((E.1 ≠ 0 ∧ L' = [] ∧ r = some (.int (-1))) ∨ (E.1 = 0 ∧ E.2.2.1 ≤ 16 ∧ (∀ j, j < E.2.2.1 → tmOK B (E.2.2.2.2 j)) ∧ topR k (md.filterMap (hitM md (tsL E.2.2.2.2 E.2.2.1) (-1))) L' ∧ r = some (.int (nI L'.length))))) ∨ ((∀ k, 1 ≤ k → k ≤ 50 → x ≠ nI k) ∧ (∃ y, r = some (.int y)) ∧ mdI h1 m A nt B md fk fp L 1))) := by
  obtain ⟨g, N, Q, M, T, D9, KN, e1, e2, ML, e0⟩ := I
  refine Cn.of (own := RX12) rfl (by decide) (by exact Nat.le_of_ble_eq_true rfl) (by decide) (fun K hK C D _ => ?_)
  have m1 := M.1
  have Kbad : (∀ k, 1 ≤ k → k ≤ 50 → x ≠ nI k) → J K 0 0 17 (jv_l [(1, .int x), (0, .ref m)]) [.int (nI 1), .ref m] h := by
    intro hno
    have X1 := mdI_th M T D9 KN e1 e2 ML 1 rfl
    first | refine J_mput C fl_X12_68 (by first | assumption | exact jv_up_at _ _ _) (by decide) (by rfl) (by rfl) dX12_find_17 ?_ | refine J_put C fl_X12_68 (by first | assumption | exact jv_up_at _ _ _ | (simp [jv_up, *]; done)) (by exact Nat.le_of_ble_eq_true rfl) (by rfl) (by rfl) dX12_find_17 ?_
    first | refine J_aload_n C rfl dX12_find_20 ?_ | refine J_aload_nq C rfl dX12_find_20 ?_ | refine J_aload_nN C rfl dX12_find_20 ?_
    refine J_get C fl_X12_68 (by first | assumption | exact jv_up_at _ _ _ | (simp [jv_up, *]; done)) (by rfl) dX12_find_21 ?_
    rw [show va_up g 0 (nI 1) 0 = nI 1 from if_pos rfl]
    refine J_nif_le C (by first | omega | (dsimp only; omega)) 29 (by decide) dX12_find_24 (fun z => ?_) (fun z => ?_)
    · omega
    · refine J_iconst C (v := nI 0) (by decide) dX12_find_27 ?_
      refine J_iret C D ⟨X1.2.2, Or.inr ⟨hno, ⟨_, rfl⟩, X1.1⟩⟩ (by omega) (by omega) dX12_find_28
  first | refine J_aload_n C rfl dX12_find_0 ?_ | refine J_aload_nq C rfl dX12_find_0 ?_ | refine J_aload_nN C rfl dX12_find_0 ?_
  refine J_iload_n C rfl dX12_find_1 ?_
  refine J_iconst C (v := nI 1) (by decide) dX12_find_2 ?_
  refine J_icmp_lt C 12 (by decide) dX12_find_3 (fun z1 => ?_) (fun z1 => ?_)
  · refine J_iconst C (v := nI 1) (by decide) dX12_find_12 ?_
    refine J_goto C 17 (by decide) dX12_find_13 ?_
    refine J_sub (by exact (And.intro rfl (And.intro rfl trivial))) (Kbad (fun k h1 hk e => by rw [e] at z1; exact absurd (nI_ltI (by omega) (by decide) |>.mp z1) (by omega)))
  · refine J_iload_n C rfl dX12_find_6 ?_
    refine J_bipush C (v := nI 50) (by decide) dX12_find_7 ?_
    refine J_icmp_le C 16 (by decide) dX12_find_9 (fun z2 => ?_) (fun z2 => ?_)
    · obtain ⟨k, k1, k2, rfl⟩ := nb_of z1 z2
      have X1 := mdI_th M T D9 KN e1 e2 ML 0 rfl
      have M0 := X1.2.1
      have M2 := mdl_s M0 (va_up (va_up g 0 (nI 0)) 19 (nI 0))
      refine J_iconst C (v := nI 0) (by decide) dX12_find_16 ?_
      first | refine J_mput C fl_X12_68 (by first | assumption | exact jv_up_at _ _ _) (by decide) (by rfl) (by rfl) dX12_find_17 ?_ | refine J_put C fl_X12_68 (by first | assumption | exact jv_up_at _ _ _ | (simp [jv_up, *]; done)) (by exact Nat.le_of_ble_eq_true rfl) (by rfl) (by rfl) dX12_find_17 ?_
      first | refine J_aload_n C rfl dX12_find_20 ?_ | refine J_aload_nq C rfl dX12_find_20 ?_ | refine J_aload_nN C rfl dX12_find_20 ?_
      refine J_get C fl_X12_68 (by first | assumption | exact jv_up_at _ _ _ | (simp [jv_up, *]; done)) (by rfl) dX12_find_21 ?_
      rw [show va_up g 0 (nI 0) 0 = nI 0 from if_pos rfl]
      refine J_nif_le C (by first | omega | (dsimp only; omega)) 29 (by decide) dX12_find_24 (fun z => ?_) (fun z => ?_)
      · first | refine J_aload_n C rfl dX12_find_29 ?_ | refine J_aload_nq C rfl dX12_find_29 ?_ | refine J_aload_nN C rfl dX12_find_29 ?_
        refine J_iconst C (v := nI 0) (by decide) dX12_find_30 ?_
        first | refine J_mput C fl_X12_184 (by first | assumption | exact jv_up_at _ _ _) (by decide) (by rfl) (by rfl) dX12_find_31 ?_ | refine J_put C fl_X12_184 (by first | assumption | exact jv_up_at _ _ _ | (simp [jv_up, *]; done)) (by exact Nat.le_of_ble_eq_true rfl) (by rfl) (by rfl) dX12_find_31 ?_
        first | refine J_aload_n C rfl dX12_find_34 ?_ | refine J_aload_nq C rfl dX12_find_34 ?_ | refine J_aload_nN C rfl dX12_find_34 ?_
        refine J_callV C (c_M_isQuery M2 T tv0 E hE) cw_X12_187 (by first | assumption | exact jv_up_at _ _ _ | (simp [jv_up, *]; done)) rfl rfl rfl rfl (by exact Nat.le_of_ble_eq_true rfl) (by decide) (by omega) (by omega) dX12_find_35 ?_
        rintro _ h3 ⟨rfl, g3, N3, Q3, S3, g316, g317, hT3⟩
        obtain ⟨s1, s2, s3, s4, s5⟩ := S3
        have m3 := s2.1
        have D3 : mdD g3 N3 Q3 md := mdD_congr (g := g) D9 (s3 3 (by decide) (by decide) (by decide) (by decide)) (s4 4 (by decide) (by decide) (by decide) (by decide)) (s4 5 (by decide) (by decide) (by decide) (by decide)) (s5 6 (by decide))
        have KN3 : mdKn g3 N3 Q3 md := by
          unfold mdKn known at KN ⊢
          rw [s3 22 (by decide) (by decide) (by decide) (by decide), s4 26 (by decide) (by decide) (by decide) (by decide), s4 23 (by decide) (by decide) (by decide) (by decide), s4 24 (by decide) (by decide) (by decide) (by decide), s5 25 (by decide)]
          exact KN
        have T3 : mdT g3 N3 nt B := by
          unfold mdT at T ⊢
          rw [s3 1 (by decide) (by decide) (by decide) (by decide), s4 2 (by decide) (by decide) (by decide) (by decide)]
          exact T
        have F3 : fr (mdS m A) h h3 := fr_tr (fr_tr X1.2.2 (fr_up (Or.inl rfl))) s1
        have g30 : g3 0 = nI 0 := s3 0 (by decide) (by decide) (by decide) (by decide)
        refine J_bif_eq C 50 (by decide) dX12_find_38 (fun z3 => ?_) (fun z3 => ?_)
        · have hE0 : E.1 ≠ 0 := of_decide_eq_false z3
          refine J_iconst C (v := (-1)) (by decide) dX12_find_50 ?_
          refine J_iret C D ⟨F3, Or.inl ⟨k, k1, k2, rfl, [], ⟨g3, N3, Q3, s2, T3, D3, KN3, g316, g317, ⟨s3 19 (by decide) (by decide) (by decide) (by decide), by decide, fun i x hi => by cases hi⟩, g30⟩, Or.inl ⟨hE0, rfl, rfl⟩⟩⟩ (by omega) (by omega) dX12_find_51
        · have hE0 : E.1 = 0 := of_decide_eq_true z3
          obtain ⟨g39, hc, HT⟩ := hT3 hE0
          have hlen : (tsL E.2.2.2.2 E.2.2.1).length = E.2.2.1 := by unfold tsL; rw [List.length_map, List.length_range]
          first | refine J_aload_n C rfl dX12_find_41 ?_ | refine J_aload_nq C rfl dX12_find_41 ?_ | refine J_aload_nN C rfl dX12_find_41 ?_
          refine J_iload_n C rfl dX12_find_42 ?_
          refine J_iconst C (v := (-1)) (by decide) dX12_find_43 ?_
          refine J_callV C (c_M_pick s2 D3 KN3 hk (T := tsL E.2.2.2.2 E.2.2.1) (by rw [hlen]; exact g39) (by omega) (fun j t hj => by have hjl := (List.getElem?_eq_some_iff.mp hj).1; rw [hlen] at hjl; unfold tsL at hj; rw [List.getElem?_map, List.getElem?_range hjl] at hj; cases hj; exact tsM_of (HT j hjl).1 (HT j hjl).2) k k2 (-1)) cw_X12_190 (by first | assumption | exact jv_up_at _ _ _ | (simp [jv_up, *]; done)) rfl rfl rfl rfl (by exact Nat.le_of_ble_eq_true rfl) (by decide) (by omega) (by omega) dX12_find_44 ?_
          rintro _ h4 ⟨F4, g4, N4, Q4, L', M4, tp, rfl, ML4, g4k, n4k, q4k, KN4⟩
          refine J_goto C 51 (by decide) dX12_find_47 ?_
          refine J_iret C D ⟨fr_tr F3 F4, Or.inl ⟨k, k1, k2, rfl, L', ⟨g4, N4, Q4, M4, ?_, mdD_congr (g := g3) D3 (g4k 3 (by decide) (by decide)) (n4k 4 (by decide) (by decide) (by decide) (by decide) (by decide) (by decide)) (n4k 5 (by decide) (by decide) (by decide) (by decide) (by decide) (by decide)) (q4k 6 (by decide)), KN4, (g4k 16 (by decide) (by decide)).trans g316, (g4k 17 (by decide) (by decide)).trans g317, ML4, (g4k 0 (by decide) (by decide)).trans g30⟩, Or.inr ⟨hE0, hc, fun j hj => (HT j hj).2, tp, rfl⟩⟩⟩ (by omega) (by omega) dX12_find_51
          unfold mdT at T3 ⊢
          rw [g4k 1 (by decide) (by decide), n4k 2 (by decide) (by decide) (by decide) (by decide) (by decide) (by decide)]
          exact T3
      · omega
    · refine J_iconst C (v := nI 1) (by decide) dX12_find_12 ?_
      refine J_goto C 17 (by decide) dX12_find_13 ?_
      refine J_sub (by exact (And.intro rfl (And.intro rfl trivial))) (Kbad (fun j h1 hj e => z2 (by rw [e]; exact nI_le hj (by decide))))
set_option maxHeartbeats 2000000 in
theorem c_M_similar (I : mdI h m A nt B md fk fp L th) (hk : (md.map (·.1)).Nodup) (x y : Int32) : Cn l yX12_similar cX12_similar 8 (some .int) 6 0 0 [.ref m, .int x, .int y] h (fun r h1 => fr (mdS m A) h h1 ∧ ((∃ k0 we k L', 1 ≤ k ∧ k ≤ 50 ∧ y = nI k ∧ x = nI k0 ∧ k0 < 10000 ∧ (k0, we) ∈ md ∧ mdI h1 m A nt B md fk fp L' 0 ∧ topR k (md.filterMap (hitM md (simT we) (nI k0))) L' ∧ r = some (.int (nI L'.length))) ∨ (((∀ k, 1 ≤ k → k ≤ 50 → y ≠ nI k) ∨ ∀ p ∈ md, x ≠ nI p.1) ∧ (∃ z, r = some (.int z)) ∧ mdI h1 m A nt B md fk fp L 1))) := by
  obtain ⟨g, N, Q, M, T, D9, KN, e1, e2, ML, e0⟩ := I
  obtain ⟨t1, t2, t3⟩ := id D9
  refine Cn.of (own := RX12) rfl (by decide) (by exact Nat.le_of_ble_eq_true rfl) (by decide) (fun K hK C D _ => ?_)
  have m1 := M.1
  have Kbad : ∀ w : Int32, ((∀ k, 1 ≤ k → k ≤ 50 → y ≠ nI k) ∨ ∀ p ∈ md, x ≠ nI p.1) → J K 0 0 38 (jv_l [(3, .int w), (2, .int y), (1, .int x), (0, .ref m)]) [.int (nI 1), .ref m] h := by
    intro w hno
    have X1 := mdI_th M T D9 KN e1 e2 ML 1 rfl
    first | refine J_mput C fl_X12_68 (by first | assumption | exact jv_up_at _ _ _) (by decide) (by rfl) (by rfl) dX12_similar_38 ?_ | refine J_put C fl_X12_68 (by first | assumption | exact jv_up_at _ _ _ | (simp [jv_up, *]; done)) (by exact Nat.le_of_ble_eq_true rfl) (by rfl) (by rfl) dX12_similar_38 ?_
    first | refine J_aload_n C rfl dX12_similar_41 ?_ | refine J_aload_nq C rfl dX12_similar_41 ?_ | refine J_aload_nN C rfl dX12_similar_41 ?_
    refine J_get C fl_X12_68 (by first | assumption | exact jv_up_at _ _ _ | (simp [jv_up, *]; done)) (by rfl) dX12_similar_42 ?_
    rw [show va_up g 0 (nI 1) 0 = nI 1 from if_pos rfl]
    refine J_nif_le C (by first | omega | (dsimp only; omega)) 50 (by decide) dX12_similar_45 (fun z => ?_) (fun z => ?_)
    · omega
    · refine J_iconst C (v := nI 0) (by decide) dX12_similar_48 ?_
      refine J_iret C D ⟨X1.2.2, Or.inr ⟨hno, ⟨_, rfl⟩, X1.1⟩⟩ (by omega) (by omega) dX12_similar_49
  -- a document that is there
  have Kgo : ∀ (k d : Nat) (p : Nat × List Int64), 1 ≤ k → k ≤ 50 → y = nI k → md[d]? = some p → x = nI p.1 → J K 0 0 37 (jv_l [(3, .int (nI d)), (2, .int y), (1, .int x), (0, .ref m)]) [.ref m] h := by
    intro k d p k1 k2 hy hd hx
    subst hy
    subst hx
    obtain ⟨p1, p2, p3, p4, p5⟩ := t3 d p hd
    have hdl := (List.getElem?_eq_some_iff.mp hd).1
    have X1 := mdI_th M T D9 KN e1 e2 ML 0 rfl
    have M0 := X1.2.1
    have M2 := mdl_s M0 (va_up (va_up g 0 (nI 0)) 9 (nI 0))
    have loop : ∀ (n j : Nat) (g' : Nat → Int32) (N' : Nat → Nat → Int32) (Q' : Nat → Nat → Int64) (h' : jH), j + n = p.2.length → fr (mdS m A) h h' → mdl h' m A g' N' Q' → (∀ i, i ≠ 0 → i ≠ 9 → g' i = g i) → g' 0 = nI 0 → g' 9 = nI (frs p.2 j).length → (∀ i, i ≠ 12 → i ≠ 13 → i ≠ 14 → N' i = N i) → (∀ i, i ≠ 10 → Q' i = Q i) → (∀ i t, ((frs p.2 j).map (fun u => ((0, min (p.2.count u) 9, fun w => decide (w = u)) : tsT)))[i]? = some t → tsM N' Q' i t) → J K 0 0 58 (jv_l [(4, .int (nI j)), (3, .int (nI d)), (2, .int (nI k)), (1, .int (nI p.1)), (0, .ref m)]) [] h' := by
      intro n
      induction n with
      | zero =>
        intro j g' N' Q' h' hj F M' gk g0 g9 nk qk TM
        have hj : j = p.2.length := hj
        have m1' := M'.1
        have a5 := M'.2.1 5 _ rfl
        rw [nk 5 (by decide) (by decide) (by decide)] at a5
        have D' : mdD g' N' Q' md := mdD_congr (g := g) D9 (gk 3 (by decide) (by decide)) (nk 4 (by decide) (by decide) (by decide)) (nk 5 (by decide) (by decide) (by decide)) (qk 6 (by decide))
        have KN' : mdKn g' N' Q' md := by
          unfold mdKn known at KN ⊢
          rw [gk 22 (by decide) (by decide), nk 26 (by decide) (by decide) (by decide), nk 23 (by decide) (by decide) (by decide), nk 24 (by decide) (by decide) (by decide), qk 25 (by decide)]
          exact KN
        have hfl : (frs p.2 p.2.length).length ≤ p.2.length := nodup_sub_len (frs_nodup _ _) (fun w hw => (frs_all p.2 w).mp hw)
        refine J_iload C rfl dX12_similar_58 ?_
        first | refine J_aload_n C rfl dX12_similar_60 ?_ | refine J_aload_nq C rfl dX12_similar_60 ?_ | refine J_aload_nN C rfl dX12_similar_60 ?_
        refine J_get C fl_X12_16 (by first | assumption | exact jv_up_at _ _ _ | (simp [jv_up, *]; done)) (by rfl) dX12_similar_61 ?_
        refine J_iload_n C rfl dX12_similar_64 ?_
        refine J_iald C (by first | assumption | exact jv_up_at _ _ _ | (simp [jv_up, *]; done)) rfl (by omega) (by omega) dX12_similar_65 ?_
        rw [p3]
        refine J_nicmp_ge C (by first | omega | (dsimp only; omega)) (by first | omega | (dsimp only; omega)) 173 (by decide) dX12_similar_66 (fun z => ?_) (fun z => ?_)
        · first | refine J_aload_n C rfl dX12_similar_173 ?_ | refine J_aload_nq C rfl dX12_similar_173 ?_ | refine J_aload_nN C rfl dX12_similar_173 ?_
          refine J_iload_n C rfl dX12_similar_174 ?_
          refine J_iload_n C rfl dX12_similar_175 ?_
          refine J_callV C (c_M_pick M' D' KN' hk (T := simT p.2) (by unfold simT; rw [List.length_map, ← hj]; exact g9) (by unfold simT; rw [List.length_map]; omega) (fun i t hi => TM i t (by rw [hj]; exact hi)) k k2 (nI p.1)) cw_X12_190 (by first | assumption | exact jv_up_at _ _ _ | (simp [jv_up, *]; done)) rfl rfl rfl rfl (by exact Nat.le_of_ble_eq_true rfl) (by decide) (by omega) (by omega) dX12_similar_176 ?_
          rintro _ h4 ⟨F4, g4, N4, Q4, L', M4, tp, rfl, ML4, g4k, n4k, q4k, KN4⟩
          refine J_iret C D ⟨fr_tr F F4, Or.inl ⟨p.1, p.2, k, L', k1, k2, rfl, rfl, p2, List.mem_of_getElem? hd, ⟨g4, N4, Q4, M4, ?_, mdD_congr (g := g') D' (g4k 3 (by decide) (by decide)) (n4k 4 (by decide) (by decide) (by decide) (by decide) (by decide) (by decide)) (n4k 5 (by decide) (by decide) (by decide) (by decide) (by decide) (by decide)) (q4k 6 (by decide)), KN4, (g4k 16 (by decide) (by decide)).trans ((gk 16 (by decide) (by decide)).trans e1), (g4k 17 (by decide) (by decide)).trans ((gk 17 (by decide) (by decide)).trans e2), ML4, (g4k 0 (by decide) (by decide)).trans g0⟩, tp, rfl⟩⟩ (by omega) (by omega) dX12_similar_179
          unfold mdT at T ⊢
          rw [g4k 1 (by decide) (by decide), gk 1 (by decide) (by decide), n4k 2 (by decide) (by decide) (by decide) (by decide) (by decide) (by decide), nk 2 (by decide) (by decide) (by decide)]
          exact T
        · omega
      | succ n ih =>
        intro j g' N' Q' h' hj F M' gk g0 g9 nk qk TM
        have hxk := List.getElem?_eq_getElem (l := p.2) (i := j) (by omega)
        generalize p.2[j]'(by omega) = u at hxk
        have hu := p5 j u hxk
        have m1' := M'.1
        have a5 := M'.2.1 5 _ rfl
        have a6 := M'.2.1 6 _ rfl
        have a10 := M'.2.1 10 _ rfl
        rw [nk 5 (by decide) (by decide) (by decide)] at a5
        rw [qk 6 (by decide)] at a6
        have D' : mdD g' N' Q' md := mdD_congr (g := g) D9 (gk 3 (by decide) (by decide)) (nk 4 (by decide) (by decide) (by decide)) (nk 5 (by decide) (by decide) (by decide)) (qk 6 (by decide))
        have hf1 : frs p.2 (j + 1) = frs p.2 j ++ if u ∈ p.2.take j then [] else [u] := by
          show frs p.2 j ++ (match p.2[j]? with | some u => if u ∈ p.2.take j then [] else [u] | none => []) = _
          rw [hxk]
        have hfl : (frs p.2 j).length ≤ p.2.length := nodup_sub_len (frs_nodup _ _) (fun w hw => List.mem_of_mem_take ((frs_mem p.2 j w).mp hw))
        have hfl2 : (frs p.2 (j + 1)).length ≤ p.2.length := nodup_sub_len (frs_nodup _ _) (fun w hw => List.mem_of_mem_take ((frs_mem p.2 (j + 1) w).mp hw))
        refine J_iload C rfl dX12_similar_58 ?_
        first | refine J_aload_n C rfl dX12_similar_60 ?_ | refine J_aload_nq C rfl dX12_similar_60 ?_ | refine J_aload_nN C rfl dX12_similar_60 ?_
        refine J_get C fl_X12_16 (by first | assumption | exact jv_up_at _ _ _ | (simp [jv_up, *]; done)) (by rfl) dX12_similar_61 ?_
        refine J_iload_n C rfl dX12_similar_64 ?_
        refine J_iald C (by first | assumption | exact jv_up_at _ _ _ | (simp [jv_up, *]; done)) rfl (by omega) (by omega) dX12_similar_65 ?_
        rw [p3]
        refine J_nicmp_ge C (by first | omega | (dsimp only; omega)) (by first | omega | (dsimp only; omega)) 173 (by decide) dX12_similar_66 (fun z => ?_) (fun z => ?_)
        · omega
        · first | refine J_aload_n C rfl dX12_similar_69 ?_ | refine J_aload_nq C rfl dX12_similar_69 ?_ | refine J_aload_nN C rfl dX12_similar_69 ?_
          refine J_iload_n C rfl dX12_similar_70 ?_
          refine J_iload C rfl dX12_similar_71 ?_
          refine J_callV C (c_M_isFirst M' D' hd hxk) cw_X12_98 (by first | assumption | exact jv_up_at _ _ _ | (simp [jv_up, *]; done)) rfl rfl rfl rfl (by exact Nat.le_of_ble_eq_true rfl) (by decide) (by omega) (by omega) dX12_similar_73 ?_
          rintro _ h9 ⟨rfl, e9⟩
          replace e9 := e9.symm
          subst e9
          refine J_bif_eq C 167 (by decide) dX12_similar_76 (fun z2 => ?_) (fun z2 => ?_)
          · have z2 : u ∈ p.2.take j := Decidable.of_not_not (of_decide_eq_false z2)
            rw [if_pos z2, List.append_nil] at hf1
            first | refine J_niinc (b := 1) C rfl (by decide) dX12_similar_167 ?_ | refine J_iinc C rfl (by decide) dX12_similar_167 ?_
            refine J_goto C 58 (by decide) dX12_similar_170 ?_
            refine J_sub (by exact (And.intro rfl (And.intro rfl (And.intro rfl (And.intro rfl (And.intro rfl trivial)))))) (ih (j + 1) g' N' Q' h' (by omega) F M' gk g0 (by rw [hf1]; exact g9) nk qk (by rw [hf1]; exact TM))
          · have z2 : u ∉ p.2.take j := of_decide_eq_true z2
            rw [if_neg z2] at hf1
            have hl1 : (frs p.2 (j + 1)).length = (frs p.2 j).length + 1 := by rw [hf1, List.length_append]; rfl
            have hcnt : p.2.count u ≤ p.2.length := List.count_le_length
            generalize hc : (frs p.2 j).length = c at *
            have M3 := mdl_Q M' 10 (u := vp_updL (Q' 10) c u) rfl rfl
            have m3 := M3.1
            have a123 := M3.2.1 12 _ rfl
            have M4 := mdl_N M3 12 (u := upd (N' 12) c (jv_b false)) rfl rfl
            have m4 := M4.1
            have a134 := M4.2.1 13 _ rfl
            have M5 := mdl_N M4 13 (u := upd (N' 13) c (nI 0)) rfl rfl
            have m5 := M5.1
            have a145 := M5.2.1 14 _ rfl
            have M6 := mdl_N M5 14 (u := upd (N' 14) c (nI (min (p.2.count u) 9))) rfl rfl
            have m6 := M6.1
            have M7 := mdl_s M6 (va_up g' 9 (nI (c + 1)))
            first | refine J_aload_n C rfl dX12_similar_79 ?_ | refine J_aload_nq C rfl dX12_similar_79 ?_ | refine J_aload_nN C rfl dX12_similar_79 ?_
            refine J_get C fl_X12_19 (by first | assumption | exact jv_up_at _ _ _ | (simp [jv_up, *]; done)) (by rfl) dX12_similar_80 ?_
            refine J_sipush C (v := nI 200) (by decide) dX12_similar_83 ?_
            refine J_iload_n C rfl dX12_similar_86 ?_
            first | refine J_nimul C dX12_similar_87 ?_ | refine J_imul C dX12_similar_87 ?_
            refine J_iload C rfl dX12_similar_88 ?_
            first | refine J_niadd C dX12_similar_90 ?_ | refine J_iadd C dX12_similar_90 ?_
            refine J_lald C (by first | assumption | exact jv_up_at _ _ _ | (simp [jv_up, *]; done)) rfl (by omega) (by omega) dX12_similar_91 ?_
            rw [hu]
            refine J_lstore C (by decide) dX12_similar_92 ?_
            first | refine J_aload_n C rfl dX12_similar_94 ?_ | refine J_aload_nq C rfl dX12_similar_94 ?_ | refine J_aload_nN C rfl dX12_similar_94 ?_
            refine J_iload_n C rfl dX12_similar_95 ?_
            refine J_lload C rfl dX12_similar_96 ?_
            refine J_callV C (c_M_times M' D' hd u) cw_X12_88 (by first | assumption | exact jv_up_at _ _ _ | (simp [jv_up, *]; done)) rfl rfl rfl rfl (by exact Nat.le_of_ble_eq_true rfl) (by decide) (by omega) (by omega) dX12_similar_98 ?_
            rintro _ h9 ⟨rfl, e9⟩
            replace e9 := e9.symm
            subst e9
            refine J_istore C (by decide) dX12_similar_101 ?_
            first | refine J_aload_n C rfl dX12_similar_103 ?_ | refine J_aload_nq C rfl dX12_similar_103 ?_ | refine J_aload_nN C rfl dX12_similar_103 ?_
            refine J_get C fl_X12_26 (by first | assumption | exact jv_up_at _ _ _ | (simp [jv_up, *]; done)) (by rfl) dX12_similar_104 ?_
            first | refine J_aload_n C rfl dX12_similar_107 ?_ | refine J_aload_nq C rfl dX12_similar_107 ?_ | refine J_aload_nN C rfl dX12_similar_107 ?_
            refine J_get C fl_X12_154 (by first | assumption | exact jv_up_at _ _ _ | (simp [jv_up, *]; done)) (by rfl) dX12_similar_108 ?_
            rw [g9]
            refine J_lload C rfl dX12_similar_111 ?_
            refine J_last C (by first | assumption | exact jv_up_at _ _ _ | (simp [jv_up, *]; done)) rfl (by omega) (by omega) dX12_similar_113 ?_
            first | refine J_aload_n C rfl dX12_similar_114 ?_ | refine J_aload_nq C rfl dX12_similar_114 ?_ | refine J_aload_nN C rfl dX12_similar_114 ?_
            refine J_get C fl_X12_32 (by first | assumption | exact jv_up_at _ _ _ | (simp [jv_up, *]; done)) (by rfl) dX12_similar_115 ?_
            first | refine J_aload_n C rfl dX12_similar_118 ?_ | refine J_aload_nq C rfl dX12_similar_118 ?_ | refine J_aload_nN C rfl dX12_similar_118 ?_
            refine J_get C fl_X12_154 (by first | assumption | exact jv_up_at _ _ _ | (simp [jv_up, *]; done)) (by rfl) dX12_similar_119 ?_
            rw [g9]
            refine J_iconst C (v := nI 0) (by decide) dX12_similar_122 ?_
            refine J_zast C (by first | assumption | exact jv_up_at _ _ _ | (simp [jv_up, *]; done)) rfl (by omega) (by omega) dX12_similar_123 ?_
            rw [show vp_nar .boolean (nI 0) = jv_b false from rfl]
            first | refine J_aload_n C rfl dX12_similar_124 ?_ | refine J_aload_nq C rfl dX12_similar_124 ?_ | refine J_aload_nN C rfl dX12_similar_124 ?_
            refine J_get C fl_X12_36 (by first | assumption | exact jv_up_at _ _ _ | (simp [jv_up, *]; done)) (by rfl) dX12_similar_125 ?_
            first | refine J_aload_n C rfl dX12_similar_128 ?_ | refine J_aload_nq C rfl dX12_similar_128 ?_ | refine J_aload_nN C rfl dX12_similar_128 ?_
            refine J_get C fl_X12_154 (by first | assumption | exact jv_up_at _ _ _ | (simp [jv_up, *]; done)) (by rfl) dX12_similar_129 ?_
            rw [g9]
            refine J_iconst C (v := nI 0) (by decide) dX12_similar_132 ?_
            refine J_iast C (by first | assumption | exact jv_up_at _ _ _ | (simp [jv_up, *]; done)) rfl (by omega) (by omega) dX12_similar_133 ?_
            have K156 : J K 0 0 156 (jv_l [(4, .int (nI j)), (3, .int (nI d)), (2, .int (nI k)), (1, .int (nI p.1)), (0, .ref m)]) [.int (nI (min (p.2.count u) 9)), .int (nI c), .ref (A 14)] (jv_up (jv_up (jv_up h' (A 10) (.inl (3, 200, .inr (.inl (vp_updL (Q' 10) c u))))) (A 12) (.inl (2, 200, .inl (upd (N' 12) c (jv_b false))))) (A 13) (.inl (0, 200, .inl (upd (N' 13) c (nI 0))))) := by
              refine J_iast C (by first | assumption | exact jv_up_at _ _ _ | (simp [jv_up, *]; done)) rfl (by omega) (by omega) dX12_similar_156 ?_
              first | refine J_aload_n C rfl dX12_similar_157 ?_ | refine J_aload_nq C rfl dX12_similar_157 ?_ | refine J_aload_nN C rfl dX12_similar_157 ?_
              refine J_dup C rfl dX12_similar_158 ?_
              refine J_get C fl_X12_154 (by first | assumption | exact jv_up_at _ _ _ | (simp [jv_up, *]; done)) (by rfl) dX12_similar_159 ?_
              refine J_iconst C (v := nI 1) (by decide) dX12_similar_162 ?_
              rw [g9]
              first | refine J_niadd C dX12_similar_163 ?_ | refine J_iadd C dX12_similar_163 ?_
              first | refine J_mput C fl_X12_154 (by first | assumption | exact jv_up_at _ _ _) (by decide) (by rfl) (by rfl) dX12_similar_164 ?_ | refine J_put C fl_X12_154 (by first | assumption | exact jv_up_at _ _ _ | (simp [jv_up, *]; done)) (by exact Nat.le_of_ble_eq_true rfl) (by rfl) (by rfl) dX12_similar_164 ?_
              first | refine J_niinc (b := 1) C rfl (by decide) dX12_similar_167 ?_ | refine J_iinc C rfl (by decide) dX12_similar_167 ?_
              refine J_goto C 58 (by decide) dX12_similar_170 ?_
              refine J_sub (by exact (And.intro rfl (And.intro rfl (And.intro rfl (And.intro rfl (And.intro rfl trivial)))))) (ih (j + 1) _ _ _ _ (by omega) (fr_tr (fr_tr (fr_tr (fr_tr (fr_tr F (mdS_up 10 rfl _)) (mdS_up 12 rfl _)) (mdS_up 13 rfl _)) (mdS_up 14 rfl _)) (fr_up (Or.inl rfl))) M7 (fun i i1 i2 => (if_neg i2).trans (gk i i1 i2)) g0 (by rw [hl1]; exact if_pos rfl) (fun i i1 i2 i3 => ((if_neg i3).trans ((if_neg i2).trans (if_neg i1))).trans (nk i i1 i2 i3)) (fun i i1 => (if_neg i1).trans (qk i i1)) (fun i t hi => ?_))
              rw [hf1, List.map_append] at hi
              have hml : ((frs p.2 j).map (fun u => ((0, min (p.2.count u) 9, fun w => decide (w = u)) : tsT))).length = c := by rw [List.length_map, hc]
              have e14 : ∀ i, va_up (va_up (va_up N' 12 (upd (N' 12) c (jv_b false))) 13 (upd (N' 13) c (nI 0))) 14 (upd (N' 14) c (nI (min (p.2.count u) 9))) 14 i = upd (N' 14) c (nI (min (p.2.count u) 9)) i := fun _ => rfl
              have e13 : ∀ i, va_up (va_up (va_up N' 12 (upd (N' 12) c (jv_b false))) 13 (upd (N' 13) c (nI 0))) 14 (upd (N' 14) c (nI (min (p.2.count u) 9))) 13 i = upd (N' 13) c (nI 0) i := fun _ => rfl
              have e12 : ∀ i, va_up (va_up (va_up N' 12 (upd (N' 12) c (jv_b false))) 13 (upd (N' 13) c (nI 0))) 14 (upd (N' 14) c (nI (min (p.2.count u) 9))) 12 i = upd (N' 12) c (jv_b false) i := fun _ => rfl
              have e11 : ∀ i, va_up (va_up (va_up N' 12 (upd (N' 12) c (jv_b false))) 13 (upd (N' 13) c (nI 0))) 14 (upd (N' 14) c (nI (min (p.2.count u) 9))) 11 i = N' 11 i := fun _ => rfl
              have e10 : ∀ i, va_up Q' 10 (vp_updL (Q' 10) c u) 10 i = if i = c then u else Q' 10 i := fun _ => rfl
              unfold tsM
              rw [e14, e13, e12, e11, e10]
              by_cases ce : i = c
              · rw [List.getElem?_append_right (by omega), hml, ce, Nat.sub_self] at hi
                cases hi
                rw [ce, pk_us, pk_us, pk_us, if_pos rfl]
                exact ⟨rfl, Nat.zero_le _, rfl, false, 0, rfl, fun q => (by cases q), fun w => rfl⟩
              · have hil := (List.getElem?_eq_some_iff.mp hi).1
                rw [List.length_append, hml] at hil
                have hil : i < c + 1 := hil
                rw [List.getElem?_append_left (by omega)] at hi
                rw [pk_un ce, pk_un ce, pk_un ce, if_neg ce]
                exact TM i t hi
            first | refine J_aload_n C rfl dX12_similar_134 ?_ | refine J_aload_nq C rfl dX12_similar_134 ?_ | refine J_aload_nN C rfl dX12_similar_134 ?_
            refine J_get C fl_X12_39 (by first | assumption | exact jv_up_at _ _ _ | (simp [jv_up, *]; done)) (by rfl) dX12_similar_135 ?_
            first | refine J_aload_n C rfl dX12_similar_138 ?_ | refine J_aload_nq C rfl dX12_similar_138 ?_ | refine J_aload_nN C rfl dX12_similar_138 ?_
            refine J_get C fl_X12_154 (by first | assumption | exact jv_up_at _ _ _ | (simp [jv_up, *]; done)) (by rfl) dX12_similar_139 ?_
            rw [g9]
            refine J_iload C rfl dX12_similar_142 ?_
            refine J_bipush C (v := nI 9) (by decide) dX12_similar_144 ?_
            refine J_nicmp_le C (by first | omega | (dsimp only; omega)) (by first | omega | (dsimp only; omega)) 154 (by decide) dX12_similar_146 (fun z5 => ?_) (fun z5 => ?_)
            · rw [show min (p.2.count u) 9 = p.2.count u by omega] at K156
              refine J_iload C rfl dX12_similar_154 ?_
              refine J_sub (by exact (And.intro rfl (And.intro rfl (And.intro rfl (And.intro rfl (And.intro rfl trivial)))))) (K156)
            · rw [show min (p.2.count u) 9 = 9 by omega] at K156
              refine J_bipush C (v := nI 9) (by decide) dX12_similar_149 ?_
              refine J_goto C 156 (by decide) dX12_similar_151 ?_
              refine J_sub (by exact (And.intro rfl (And.intro rfl (And.intro rfl (And.intro rfl (And.intro rfl trivial)))))) (K156)
    refine J_iconst C (v := nI 0) (by decide) dX12_similar_37 ?_
    first | refine J_mput C fl_X12_68 (by first | assumption | exact jv_up_at _ _ _) (by decide) (by rfl) (by rfl) dX12_similar_38 ?_ | refine J_put C fl_X12_68 (by first | assumption | exact jv_up_at _ _ _ | (simp [jv_up, *]; done)) (by exact Nat.le_of_ble_eq_true rfl) (by rfl) (by rfl) dX12_similar_38 ?_
    first | refine J_aload_n C rfl dX12_similar_41 ?_ | refine J_aload_nq C rfl dX12_similar_41 ?_ | refine J_aload_nN C rfl dX12_similar_41 ?_
    refine J_get C fl_X12_68 (by first | assumption | exact jv_up_at _ _ _ | (simp [jv_up, *]; done)) (by rfl) dX12_similar_42 ?_
    rw [show va_up g 0 (nI 0) 0 = nI 0 from if_pos rfl]
    refine J_nif_le C (by first | omega | (dsimp only; omega)) 50 (by decide) dX12_similar_45 (fun z => ?_) (fun z => ?_)
    · first | refine J_aload_n C rfl dX12_similar_50 ?_ | refine J_aload_nq C rfl dX12_similar_50 ?_ | refine J_aload_nN C rfl dX12_similar_50 ?_
      refine J_iconst C (v := nI 0) (by decide) dX12_similar_51 ?_
      first | refine J_mput C fl_X12_154 (by first | assumption | exact jv_up_at _ _ _) (by decide) (by rfl) (by rfl) dX12_similar_52 ?_ | refine J_put C fl_X12_154 (by first | assumption | exact jv_up_at _ _ _ | (simp [jv_up, *]; done)) (by exact Nat.le_of_ble_eq_true rfl) (by rfl) (by rfl) dX12_similar_52 ?_
      refine J_iconst C (v := nI 0) (by decide) dX12_similar_55 ?_
      refine J_istore C (by decide) dX12_similar_56 ?_
      refine J_sub (by exact (And.intro rfl (And.intro rfl (And.intro rfl (And.intro rfl (And.intro rfl trivial)))))) (loop p.2.length 0 _ N Q _ (by omega) (fr_tr X1.2.2 (fr_up (Or.inl rfl))) M2 (fun i i1 i2 => (if_neg i2).trans (if_neg i1)) rfl rfl (fun _ _ _ _ => rfl) (fun _ _ => rfl) (fun i t hi => by cases hi))
    · omega
  have K16 : ∀ w : Int32, mxP md x w → J K 0 0 16 (jv_l [(2, .int y), (1, .int x), (0, .ref m)]) [.int w] h := by
    intro w hw
    refine J_istore_n C (by decide) dX12_similar_16 ?_
    first | refine J_aload_n C rfl dX12_similar_17 ?_ | refine J_aload_nq C rfl dX12_similar_17 ?_ | refine J_aload_nN C rfl dX12_similar_17 ?_
    refine J_iload_n C rfl dX12_similar_18 ?_
    refine J_iconst C (v := nI 1) (by decide) dX12_similar_19 ?_
    refine J_icmp_lt C 33 (by decide) dX12_similar_20 (fun z1 => ?_) (fun z1 => ?_)
    · refine J_iconst C (v := nI 1) (by decide) dX12_similar_33 ?_
      refine J_goto C 38 (by decide) dX12_similar_34 ?_
      refine J_sub (by exact (And.intro rfl (And.intro rfl (And.intro rfl (And.intro rfl trivial))))) (Kbad w (Or.inl (fun k h1 hk e => by rw [e] at z1; exact absurd (nI_ltI (by omega) (by decide) |>.mp z1) (by omega))))
    · refine J_iload_n C rfl dX12_similar_23 ?_
      refine J_bipush C (v := nI 50) (by decide) dX12_similar_24 ?_
      refine J_icmp_gt C 33 (by decide) dX12_similar_26 (fun z2 => ?_) (fun z2 => ?_)
      · refine J_iconst C (v := nI 1) (by decide) dX12_similar_33 ?_
        refine J_goto C 38 (by decide) dX12_similar_34 ?_
        refine J_sub (by exact (And.intro rfl (And.intro rfl (And.intro rfl (And.intro rfl trivial))))) (Kbad w (Or.inl (fun k h1 hk e => by rw [e] at z2; exact absurd (nI_ltI (by decide) (by omega) |>.mp z2) (by omega))))
      · obtain ⟨k, k1, k2, hy⟩ := nb_of z1 (Int32.not_lt.mp z2)
        refine J_iload_n C rfl dX12_similar_29 ?_
        rcases hw with ⟨d, p, hd, hpx, rfl⟩ | ⟨hno, rfl⟩
        · have hdl := (List.getElem?_eq_some_iff.mp hd).1
          refine J_nif_ge C (by omega) 37 (by decide) dX12_similar_30 ?_
          refine J_sub (by exact (And.intro rfl (And.intro rfl (And.intro rfl (And.intro rfl trivial))))) (Kgo k d p k1 k2 hy hd hpx.symm)
        · refine J_if_ge C 37 (by decide) dX12_similar_30 (fun z3 => ?_) (fun z3 => ?_)
          · exact absurd z3 (by decide)
          · refine J_iconst C (v := nI 1) (by decide) dX12_similar_33 ?_
            refine J_goto C 38 (by decide) dX12_similar_34 ?_
            refine J_sub (by exact (And.intro rfl (And.intro rfl (And.intro rfl (And.intro rfl trivial))))) (Kbad (-1) (Or.inr (fun p hp e => hno p hp e.symm)))
  refine J_iload_n C rfl dX12_similar_0 ?_
  refine J_callS C (c_M_isNumber x) cw_X12_119 rfl rfl (by exact Nat.le_of_ble_eq_true rfl) (by decide) (by omega) (by omega) dX12_similar_1 ?_
  rintro _ h9 ⟨e9, (⟨rfl, k, hk1, hx⟩ | ⟨rfl, hno⟩)⟩
  · replace e9 := e9.symm
    subst e9
    refine J_bif_eq C 15 (by decide) dX12_similar_4 (fun z => ?_) (fun z => ?_)
    · cases z
    · first | refine J_aload_n C rfl dX12_similar_7 ?_ | refine J_aload_nq C rfl dX12_similar_7 ?_ | refine J_aload_nN C rfl dX12_similar_7 ?_
      refine J_iload_n C rfl dX12_similar_8 ?_
      refine J_callV C (c_M_placeOf M D9 x) cw_X12_123 (by first | assumption | exact jv_up_at _ _ _ | (simp [jv_up, *]; done)) rfl rfl rfl rfl (by exact Nat.le_of_ble_eq_true rfl) (by decide) (by omega) (by omega) dX12_similar_9 ?_
      rintro _ h9 ⟨e9, i, rfl, hi⟩
      replace e9 := e9.symm
      subst e9
      refine J_goto C 16 (by decide) dX12_similar_12 ?_
      refine J_sub (by exact (And.intro rfl (And.intro rfl (And.intro rfl trivial)))) (K16 i hi)
  · replace e9 := e9.symm
    subst e9
    refine J_bif_eq C 15 (by decide) dX12_similar_4 (fun z => ?_) (fun z => ?_)
    · have hno2 : ∀ p ∈ md, nI p.1 ≠ x := fun p hp e => by
        obtain ⟨d, hd⟩ := List.getElem?_of_mem hp
        exact hno p.1 (t3 d p hd).2.1 e.symm
      refine J_iconst C (v := (-1)) (by decide) dX12_similar_15 ?_
      refine J_sub (by exact (And.intro rfl (And.intro rfl (And.intro rfl trivial)))) (K16 (-1) (Or.inr ⟨hno2, rfl⟩))
    · cases z
end MFIND
