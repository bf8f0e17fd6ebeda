/-! the model: put, drop, about -/
theorem set_perm {α : Type} : ∀ {L : List α} {d : Nat} {a : α} (b : α), L[d]? = some a → (L.set d b ++ [a]).Perm (L ++ [b])
  | [], _, _, _, h => by cases h
  | x :: t, 0, a, b, h => by
    cases h
    show (b :: (t ++ [x])).Perm (x :: (t ++ [b]))
    exact (List.Perm.cons b (List.perm_append_singleton x t)).trans ((List.Perm.swap x b t).trans (List.Perm.cons x (List.perm_append_singleton b t).symm))
  | x :: t, d + 1, a, b, h => by
    rw [List.getElem?_cons_succ] at h
    exact List.Perm.cons x (set_perm b h)
theorem mdRem_perm {md : dsT} (hk : (md.map (·.1)).Nodup) {d : Nat} {a p : Nat × List Int64} (hd : md[d]? = some a) (hp : md[md.length - 1]? = some p) : (mdRem md d p).Perm (stDrop a.1 md) := by
  have hdl := (List.getElem?_eq_some_iff.mp hd).1
  have e1 : md.set d p = mdRem md d p ++ [p] := by
    unfold mdRem
    have h1 : (md.set d p)[md.length - 1]? = some p := by
      rw [List.getElem?_set]
      by_cases c : d = md.length - 1
      · rw [if_pos c, if_pos (by omega)]
      · rw [if_neg c]; exact hp
    have h2 := List.take_add_one (l := md.set d p) (i := md.length - 1)
    rw [h1, show md.length - 1 + 1 = md.length by omega, ← List.length_set (as := md) (i := d) (a := p), List.take_length] at h2
    rw [List.length_set] at h2
    exact h2
  have p1 := set_perm p hd
  rw [e1] at p1
  have p2 : (mdRem md d p ++ [a]).Perm md := by
    have q : ((mdRem md d p ++ [a]) ++ [p]).Perm (md ++ [p]) := by
      refine List.Perm.trans ?_ p1
      rw [List.append_assoc, List.append_assoc]
      exact List.Perm.append_left _ (List.Perm.swap p a [])
    exact (List.perm_append_right_iff [p]).mp q
  have hn : ((mdRem md d p ++ [a]).map (·.1)).Nodup := ((p2.map (·.1)).nodup_iff).mpr hk
  rw [List.map_append] at hn
  obtain ⟨n1, n2, n3⟩ := List.nodup_append.mp hn
  have p3 := stDrop_perm p2 a.1
  unfold stDrop at p3 ⊢
  rw [List.filter_append] at p3
  have e2 : (mdRem md d p).filter (fun q => decide (q.1 ≠ a.1)) = mdRem md d p := List.filter_eq_self.mpr (fun q hq => decide_eq_true (n3 q.1 (List.mem_map.mpr ⟨q, hq, rfl⟩) a.1 (List.mem_map.mpr ⟨a, List.mem_cons_self, rfl⟩)))
  have e3 : [a].filter (fun q => decide (q.1 ≠ a.1)) = [] := by
    rw [List.filter_cons_of_neg (by simp)]
    rfl
  rw [e2, e3, List.append_nil] at p3
  exact p3
section MPUT2
variable {l : jL} {h : jH} {m : Nat} {A : Nat → Nat} {g : Nat → Int32} {N : Nat → Nat → Int32} {Q : Nat → Nat → Int64} {md : dsT} {nt : Nat} {B : Nat → Nat} {fk th : Nat} {fp : Int32} {L : List hiT}
theorem mdI_mk {h1 : jH} (T : mdT g N nt B) (e1 : g 16 = nI fk) (e2 : g 17 = fp) (ML : mdL g N L) {g' : Nat → Int32} {N' : Nat → Nat → Int32} {Q' : Nat → Nat → Int64} {md' : dsT} (M' : mdl h1 m A g' N' Q') (hg : ∀ i, i = 1 ∨ i = 16 ∨ i = 17 ∨ i = 19 → g' i = g i) (hN : ∀ i, i = 2 ∨ i = 20 ∨ i = 21 → N' i = N i) (D' : mdD g' N' Q' md') (KN' : mdKn g' N' Q' md') {th : Nat} (h0 : g' 0 = nI th) : mdI h1 m A nt B md' fk fp L th := by
  refine ⟨g', N', Q', M', ?_, D', KN', (hg 16 (by decide)).trans e1, (hg 17 (by decide)).trans e2, ?_, h0⟩
  · unfold mdT at T ⊢
    rw [hg 1 (by decide), hN 2 (by decide)]
    exact T
  · unfold mdL at ML ⊢
    rw [hg 19 (by decide), hN 20 (by decide), hN 21 (by decide)]
    exact ML
theorem c_M_drop (I : mdI h m A nt B md fk fp L th) (hk : (md.map (·.1)).Nodup) (x : Int32) : Cn l yX12_drop cX12_drop 3 (some .boolean) 2 0 0 [.ref m, .int x] h (fun r h1 => fr (mdS m A) h h1 ∧ ((∃ k, k < 10000 ∧ x = nI k ∧ (((∀ p ∈ md, p.1 ≠ k) ∧ r = some (.int (jv_b false)) ∧ mdI h1 m A nt B md fk fp L 0) ∨ ((∃ p ∈ md, p.1 = k) ∧ r = some (.int (jv_b true)) ∧ ∃ md', md'.Perm (stDrop k md) ∧ mdI h1 m A nt B md' fk fp L 0))) ∨ ((∀ k, k < 10000 → x ≠ nI k) ∧ (∃ y, r = some (.int y)) ∧ mdI h1 m A nt B md fk fp L 1))) := by
  obtain ⟨g, N, Q, M, T, D9, KN, e1, e2, ML, e0⟩ := I
  obtain ⟨t1, t2, t3⟩ := id D9
  refine Cn.of (own := RX12) rfl (by decide) (by exact Nat.le_of_ble_eq_true rfl) (by decide) (fun K hK C D _ => ?_)
  have m1 := M.1
  first | refine J_aload_n C rfl dX12_drop_0 ?_ | refine J_aload_nq C rfl dX12_drop_0 ?_ | refine J_aload_nN C rfl dX12_drop_0 ?_
  refine J_iload_n C rfl dX12_drop_1 ?_
  refine J_callS C (c_M_isNumber x) cw_X12_119 rfl rfl (by exact Nat.le_of_ble_eq_true rfl) (by decide) (by omega) (by omega) dX12_drop_2 ?_
  rintro _ h9 ⟨e9, (⟨rfl, k, hk1, rfl⟩ | ⟨rfl, hno⟩)⟩
  · replace e9 := e9.symm
    subst e9
    refine J_bif_eq C 12 (by decide) dX12_drop_5 (fun z => ?_) (fun z => ?_)
    · cases z
    · have X := mdI_th M T D9 KN e1 e2 ML 0 rfl
      have M0 := X.2.1
      obtain ⟨h0, eh0⟩ : ∃ h0, h0 = jv_up h m (mdO A (va_up g 0 (nI 0))) := ⟨_, rfl⟩
      refine J_iconst C (v := nI 0) (by decide) dX12_drop_8 ?_
      refine J_goto C 13 (by decide) dX12_drop_9 ?_
      first | refine J_mput C fl_X12_68 (by first | assumption | exact jv_up_at _ _ _) (by decide) (by rfl) (by rfl) dX12_drop_13 ?_ | refine J_put C fl_X12_68 (by first | assumption | exact jv_up_at _ _ _ | (simp [jv_up, *]; done)) (by exact Nat.le_of_ble_eq_true rfl) (by rfl) (by rfl) dX12_drop_13 ?_
      refine J_eq (st1 := []) (h1 := h0) rfl eh0 ?_
      rw [← eh0] at X M0
      clear eh0
      have m0 := M0.1
      first | refine J_aload_n C rfl dX12_drop_16 ?_ | refine J_aload_nq C rfl dX12_drop_16 ?_ | refine J_aload_nN C rfl dX12_drop_16 ?_
      refine J_get C fl_X12_68 (by first | assumption | exact jv_up_at _ _ _ | (simp [jv_up, *]; done)) (by rfl) dX12_drop_17 ?_
      rw [show va_up g 0 (nI 0) 0 = nI 0 from if_pos rfl]
      refine J_nif_le C (by first | omega | (dsimp only; omega)) 27 (by decide) dX12_drop_20 (fun z2 => ?_) (fun z2 => ?_)
      · first | refine J_aload_n C rfl dX12_drop_27 ?_ | refine J_aload_nq C rfl dX12_drop_27 ?_ | refine J_aload_nN C rfl dX12_drop_27 ?_
        refine J_iload_n C rfl dX12_drop_28 ?_
        refine J_callV C (c_M_placeOf M0 D9 (nI k)) cw_X12_123 (by first | assumption | exact jv_up_at _ _ _ | (simp [jv_up, *]; done)) rfl rfl rfl rfl (by exact Nat.le_of_ble_eq_true rfl) (by decide) (by omega) (by omega) dX12_drop_29 ?_
        rintro _ h9 ⟨e9, i, rfl, (⟨d, p, hd, hpk, rfl⟩ | ⟨hno, rfl⟩)⟩
        · replace e9 := e9.symm
          subst e9
          have hdl := (List.getElem?_eq_some_iff.mp hd).1
          have hp10 := (t3 d p hd).2.1
          have hpk := nI_inj (by omega) (by omega) hpk
          have hp := List.getElem?_eq_getElem (l := md) (i := md.length - 1) (by omega)
          generalize md[md.length - 1]'(by omega) = pl at hp
          refine J_istore_n C (by decide) dX12_drop_32 ?_
          refine J_iload_n C rfl dX12_drop_33 ?_
          refine J_nif_lt C (by omega) 42 dX12_drop_34 (by decide) ?_
          first | refine J_aload_n C rfl dX12_drop_37 ?_ | refine J_aload_nq C rfl dX12_drop_37 ?_ | refine J_aload_nN C rfl dX12_drop_37 ?_
          refine J_iload_n C rfl dX12_drop_38 ?_
          refine J_callV C (c_M_remove M0 D9 hdl hp) cw_X12_126 (by first | assumption | exact jv_up_at _ _ _ | (simp [jv_up, *]; done)) rfl rfl rfl rfl (by exact Nat.le_of_ble_eq_true rfl) (by decide) (by omega) (by omega) dX12_drop_39 ?_
          rintro _ h2 ⟨rfl, F, g', N', Q', M', g1, g2, n1, q1, D'⟩
          have pp := mdRem_perm hk hd hp
          rw [hpk] at pp
          refine J_iload_n C rfl dX12_drop_42 ?_
          refine J_nif_lt C (by omega) 50 dX12_drop_43 (by decide) ?_
          refine J_iconst C (v := nI 1) (by decide) dX12_drop_46 ?_
          refine J_goto C 51 (by decide) dX12_drop_47 ?_
          refine J_zret C D (Or.inr rfl) ⟨fr_tr X.2.2 F, Or.inl ⟨k, hk1, rfl, Or.inr ⟨⟨p, List.mem_of_getElem? hd, hpk⟩, rfl, _, pp, mdI_mk T e1 e2 ML M' (fun i hi => (g1 i (by omega) (by omega)).trans (if_neg (by omega))) (fun i hi => n1 i (by omega) (by omega)) D' (Or.inl g2) (g1 0 (by decide) (by decide))⟩⟩⟩ (by omega) (by omega) dX12_drop_51
        · replace e9 := e9.symm
          subst e9
          refine J_istore_n C (by decide) dX12_drop_32 ?_
          refine J_iload_n C rfl dX12_drop_33 ?_
          refine J_if_lt C 42 (by decide) dX12_drop_34 (fun z3 => ?_) (fun z3 => ?_)
          · refine J_iload_n C rfl dX12_drop_42 ?_
            refine J_if_lt C 50 (by decide) dX12_drop_43 (fun z4 => ?_) (fun z4 => ?_)
            · refine J_iconst C (v := nI 0) (by decide) dX12_drop_50 ?_
              refine J_zret C D (Or.inl rfl) ⟨X.2.2, Or.inl ⟨k, hk1, rfl, Or.inl ⟨fun p hp e => hno p hp (by rw [e]), rfl, X.1⟩⟩⟩ (by omega) (by omega) dX12_drop_51
            · exact absurd (by decide) z4
          · exact absurd (by decide) z3
      · omega
  · replace e9 := e9.symm
    subst e9
    refine J_bif_eq C 12 (by decide) dX12_drop_5 (fun z => ?_) (fun z => ?_)
    · have X := mdI_th M T D9 KN e1 e2 ML 1 rfl
      refine J_iconst C (v := nI 1) (by decide) dX12_drop_12 ?_
      first | refine J_mput C fl_X12_68 (by first | assumption | exact jv_up_at _ _ _) (by decide) (by rfl) (by rfl) dX12_drop_13 ?_ | refine J_put C fl_X12_68 (by first | assumption | exact jv_up_at _ _ _ | (simp [jv_up, *]; done)) (by exact Nat.le_of_ble_eq_true rfl) (by rfl) (by rfl) dX12_drop_13 ?_
      first | refine J_aload_n C rfl dX12_drop_16 ?_ | refine J_aload_nq C rfl dX12_drop_16 ?_ | refine J_aload_nN C rfl dX12_drop_16 ?_
      refine J_get C fl_X12_68 (by first | assumption | exact jv_up_at _ _ _ | (simp [jv_up, *]; done)) (by rfl) dX12_drop_17 ?_
      rw [show va_up g 0 (nI 1) 0 = nI 1 from if_pos rfl]
      refine J_nif_le C (by first | omega | (dsimp only; omega)) 27 (by decide) dX12_drop_20 (fun z2 => ?_) (fun z2 => ?_)
      · omega
      · refine J_iconst C (v := (-1)) (by decide) dX12_drop_23 ?_
        refine J_goto C 32 (by decide) dX12_drop_24 ?_
        refine J_istore_n C (by decide) dX12_drop_32 ?_
        refine J_iload_n C rfl dX12_drop_33 ?_
        refine J_if_lt C 42 (by decide) dX12_drop_34 (fun z3 => ?_) (fun z3 => ?_)
        · refine J_iload_n C rfl dX12_drop_42 ?_
          refine J_if_lt C 50 (by decide) dX12_drop_43 (fun z4 => ?_) (fun z4 => ?_)
          · refine J_iconst C (v := nI 0) (by decide) dX12_drop_50 ?_
            refine J_zret C D (Or.inl rfl) ⟨X.2.2, Or.inr ⟨hno, ⟨_, rfl⟩, X.1⟩⟩ (by omega) (by omega) dX12_drop_51
          · exact absurd (by decide) z4
        · exact absurd (by decide) z3
    · cases z
set_option maxHeartbeats 1000000 in
theorem c_M_put (I : mdI h m A nt B md fk fp L th) (hk : (md.map (·.1)).Nodup) (x : Int32) : Cn l yX12_put cX12_put 4 (some .int) 3 0 0 [.ref m, .int x] h (fun r h1 => fr (mdS m A) h h1 ∧ ((∃ k, k < 10000 ∧ x = nI k ∧ (((∀ p ∈ md, p.1 ≠ k) ∧ 120 ≤ md.length ∧ r = some (.int (-1)) ∧ mdI h1 m A nt B md fk fp L 0) ∨ (((∃ p ∈ md, p.1 = k) ∨ md.length < 120) ∧ r = some (.int (nI (sp_text B nt).length)) ∧ ∃ md', md'.Perm (stPut k (sp_text B nt) md) ∧ mdI h1 m A nt B md' fk fp L 0))) ∨ ((∀ k, k < 10000 → x ≠ nI k) ∧ (∃ y, r = some (.int y)) ∧ mdI h1 m A nt B md fk fp L 1))) := by
  obtain ⟨g, N, Q, M, T, D9, KN, e1, e2, ML, e0⟩ := I
  obtain ⟨t1, t2, t3⟩ := id D9
  have htl : (sp_text B nt).length ≤ 200 := sp_wds_len _ _ _ _
  refine Cn.of (own := RX12) rfl (by decide) (by exact Nat.le_of_ble_eq_true rfl) (by decide) (fun K hK C D _ => ?_)
  have m1 := M.1
  have K55 : ∀ (k : Nat) (h1 : jH) (g1 : Nat → Int32) (N1 : Nat → Nat → Int32) (Q1 : Nat → Nat → Int64) (md1 : dsT), k < 10000 → x = nI k → ((∃ p ∈ md, p.1 = k) ∨ md.length < 120) → fr (mdS m A) h h1 → mdl h1 m A g1 N1 Q1 → (∀ i, i ≠ 0 → i ≠ 3 → i ≠ 22 → g1 i = g i) → g1 0 = nI 0 → (∀ i, i ≠ 4 → i ≠ 5 → N1 i = N i) → mdD g1 N1 Q1 md1 → md1.length < 120 → md1.Perm (stDrop k md) → J K 0 0 55 (jv_l [(1, .int x), (0, .ref m)]) [] h1 := by
    intro k h1 g1 N1 Q1 md1 hk1 hx hor F1 M1 gk g0 nk D1 hl1 pp
    subst hx
    have m11 := M1.1
    have T1 : mdT g1 N1 nt B := by
      unfold mdT at T ⊢
      rw [gk 1 (by decide) (by decide) (by decide), nk 2 (by decide) (by decide)]
      exact T
    first | refine J_aload_n C rfl dX12_put_55 ?_ | refine J_aload_nq C rfl dX12_put_55 ?_ | refine J_aload_nN C rfl dX12_put_55 ?_
    refine J_callV C (c_M_readWords M1 T1) cw_X12_130 (by first | assumption | exact jv_up_at _ _ _ | (simp [jv_up, *]; done)) rfl rfl rfl rfl (by exact Nat.le_of_ble_eq_true rfl) (by decide) (by omega) (by omega) dX12_put_56 ?_
    rintro _ h2 ⟨rfl, F2, g2, Q2, M2, g2k, q2k, w1, w2⟩
    generalize sp_text B nt = tx at *
    have m2 := M2.1
    have g23 : g2 3 = nI md1.length := (g2k 3 (by decide)).trans D1.1
    have M3 := mdl_s M2 (va_up g2 22 (nI 0))
    have m3 := M3.1
    have g33 : va_up g2 22 (nI 0) 3 = nI md1.length := g23
    have g37 : va_up g2 22 (nI 0) 7 = nI tx.length := w1
    have a43 := M3.2.1 4 _ rfl
    have M4 := mdl_N M3 4 (u := upd (N1 4) md1.length (nI k)) rfl rfl
    have m4 := M4.1
    have a54 := M4.2.1 5 _ rfl
    have M5 := mdl_N M4 5 (u := upd (N1 5) md1.length (nI tx.length)) rfl rfl
    first | refine J_aload_n C rfl dX12_put_59 ?_ | refine J_aload_nq C rfl dX12_put_59 ?_ | refine J_aload_nN C rfl dX12_put_59 ?_
    refine J_iconst C (v := nI 0) (by decide) dX12_put_60 ?_
    first | refine J_mput C fl_X12_94 (by first | assumption | exact jv_up_at _ _ _) (by decide) (by rfl) (by rfl) dX12_put_61 ?_ | refine J_put C fl_X12_94 (by first | assumption | exact jv_up_at _ _ _ | (simp [jv_up, *]; done)) (by exact Nat.le_of_ble_eq_true rfl) (by rfl) (by rfl) dX12_put_61 ?_
    first | refine J_aload_n C rfl dX12_put_64 ?_ | refine J_aload_nq C rfl dX12_put_64 ?_ | refine J_aload_nN C rfl dX12_put_64 ?_
    refine J_get C fl_X12_85 (by first | assumption | exact jv_up_at _ _ _ | (simp [jv_up, *]; done)) (by rfl) dX12_put_65 ?_
    rw [g33]
    refine J_istore_n C (by decide) dX12_put_68 ?_
    first | refine J_aload_n C rfl dX12_put_69 ?_ | refine J_aload_nq C rfl dX12_put_69 ?_ | refine J_aload_nN C rfl dX12_put_69 ?_
    refine J_get C fl_X12_13 (by first | assumption | exact jv_up_at _ _ _ | (simp [jv_up, *]; done)) (by rfl) dX12_put_70 ?_
    refine J_iload_n C rfl dX12_put_73 ?_
    refine J_iload_n C rfl dX12_put_74 ?_
    refine J_iast C (by first | assumption | exact jv_up_at _ _ _ | (simp [jv_up, *]; done)) rfl (by omega) (by omega) dX12_put_75 ?_
    first | refine J_aload_n C rfl dX12_put_76 ?_ | refine J_aload_nq C rfl dX12_put_76 ?_ | refine J_aload_nN C rfl dX12_put_76 ?_
    refine J_get C fl_X12_16 (by first | assumption | exact jv_up_at _ _ _ | (simp [jv_up, *]; done)) (by rfl) dX12_put_77 ?_
    refine J_iload_n C rfl dX12_put_80 ?_
    first | refine J_aload_n C rfl dX12_put_81 ?_ | refine J_aload_nq C rfl dX12_put_81 ?_ | refine J_aload_nN C rfl dX12_put_81 ?_
    refine J_get C fl_X12_71 (by first | assumption | exact jv_up_at _ _ _ | (simp [jv_up, *]; done)) (by rfl) dX12_put_82 ?_
    rw [g37]
    refine J_iast C (by first | assumption | exact jv_up_at _ _ _ | (simp [jv_up, *]; done)) rfl (by omega) (by omega) dX12_put_85 ?_
    generalize hN5 : va_up (va_up N1 4 (upd (N1 4) md1.length (nI k))) 5 (upd (N1 5) md1.length (nI tx.length)) = N5 at M5
    have n54 : N5 4 = upd (N1 4) md1.length (nI k) := by rw [← hN5]; rfl
    have n55 : N5 5 = upd (N1 5) md1.length (nI tx.length) := by rw [← hN5]; rfl
    have n5k : ∀ i, i ≠ 4 → i ≠ 5 → N5 i = N1 i := fun i i1 i2 => by rw [← hN5]; exact (if_neg i2).trans (if_neg i1)
    have FF : fr (mdS m A) h _ := fr_tr (fr_tr (fr_tr (fr_tr F1 F2) (fr_up (x := mdO A (va_up g2 22 (nI 0))) (Or.inl rfl))) (mdS_up 4 rfl (.inl (0, 120, .inl (upd (N1 4) md1.length (nI k)))))) (mdS_up 5 rfl (.inl (0, 120, .inl (upd (N1 5) md1.length (nI tx.length)))))
    have loop : ∀ (n i : Nat) (Q' : Nat → Nat → Int64) (h' : jH), i + n = tx.length → fr (mdS m A) h h' → mdl h' m A (va_up g2 22 (nI 0)) N5 Q' → (∀ i, i ≠ 6 → Q' i = Q2 i) → (∀ y, y < 200 * md1.length → Q' 6 y = Q2 6 y) → (∀ i2 w, i2 < i → tx[i2]? = some w → Q' 6 (200 * md1.length + i2) = w) → J K 0 0 88 (jv_l [(3, .int (nI i)), (2, .int (nI md1.length)), (1, .int (nI k)), (0, .ref m)]) [] h' := by
      intro n
      induction n with
      | zero =>
        intro i Q' h' hi F M' q1 q2 q3
        have hi : i = tx.length := hi
        have m1' := M'.1
        refine J_iload_n C rfl dX12_put_88 ?_
        first | refine J_aload_n C rfl dX12_put_89 ?_ | refine J_aload_nq C rfl dX12_put_89 ?_ | refine J_aload_nN C rfl dX12_put_89 ?_
        refine J_get C fl_X12_71 (by first | assumption | exact jv_up_at _ _ _ | (simp [jv_up, *]; done)) (by rfl) dX12_put_90 ?_
        rw [g37]
        refine J_nicmp_ge C (by first | omega | (dsimp only; omega)) (by first | omega | (dsimp only; omega)) 120 (by decide) dX12_put_93 (fun z => ?_) (fun z => ?_)
        · have M9 := mdl_s M' (va_up (va_up g2 22 (nI 0)) 3 (nI (md1.length + 1)))
          first | refine J_aload_n C rfl dX12_put_120 ?_ | refine J_aload_nq C rfl dX12_put_120 ?_ | refine J_aload_nN C rfl dX12_put_120 ?_
          refine J_dup C rfl dX12_put_121 ?_
          refine J_get C fl_X12_85 (by first | assumption | exact jv_up_at _ _ _ | (simp [jv_up, *]; done)) (by rfl) dX12_put_122 ?_
          refine J_iconst C (v := nI 1) (by decide) dX12_put_125 ?_
          rw [g33]
          first | refine J_niadd C dX12_put_126 ?_ | refine J_iadd C dX12_put_126 ?_
          first | refine J_mput C fl_X12_85 (by first | assumption | exact jv_up_at _ _ _) (by decide) (by rfl) (by rfl) dX12_put_127 ?_ | refine J_put C fl_X12_85 (by first | assumption | exact jv_up_at _ _ _ | (simp [jv_up, *]; done)) (by exact Nat.le_of_ble_eq_true rfl) (by rfl) (by rfl) dX12_put_127 ?_
          first | refine J_aload_n C rfl dX12_put_130 ?_ | refine J_aload_nq C rfl dX12_put_130 ?_ | refine J_aload_nN C rfl dX12_put_130 ?_
          refine J_get C fl_X12_71 (by first | assumption | exact jv_up_at _ _ _ | (simp [jv_up, *]; done)) (by rfl) dX12_put_131 ?_
          rw [show va_up (va_up g2 22 (nI 0)) 3 (nI (md1.length + 1)) 7 = nI tx.length from w1]
          refine J_iret C D ⟨fr_tr F (fr_up (Or.inl rfl)), Or.inl ⟨k, hk1, rfl, Or.inr ⟨hor, rfl, md1 ++ [(k, tx)], (List.perm_append_singleton _ _).trans (List.Perm.cons _ pp), ?_⟩⟩⟩ (by omega) (by omega) dX12_put_134
          refine mdI_mk T e1 e2 ML M9 (fun i hi => ?_) (fun i hi => (n5k i (by omega) (by omega)).trans (nk i (by omega) (by omega))) ?_ (Or.inl rfl) ?_
          · exact ((if_neg (by omega)).trans (if_neg (by omega))).trans ((g2k i (by omega)).trans (gk i (by omega) (by omega) (by omega)))
          · refine ⟨by rw [List.length_append, List.length_singleton]; exact if_pos rfl, by rw [List.length_append, List.length_singleton]; omega, fun d2 p2 hd2 => ?_⟩
            by_cases c : d2 = md1.length
            · subst c
              rw [List.getElem?_append_right (Nat.le_refl _), Nat.sub_self] at hd2
              cases hd2
              rw [n54, n55, pk_us, pk_us]
              exact ⟨rfl, hk1, rfl, htl, fun i2 w hw => q3 i2 w (by have := (List.getElem?_eq_some_iff.mp hw).1; have h9 : i2 < tx.length := this; omega) hw⟩
            · have hl := (List.getElem?_eq_some_iff.mp hd2).1
              rw [List.length_append, List.length_singleton] at hl
              rw [List.getElem?_append_left (by omega)] at hd2
              obtain ⟨r1, r2, r3, r4, r5⟩ := D1.2.2 d2 p2 hd2
              rw [n54, n55, pk_un c, pk_un c]
              refine ⟨r1, r2, r3, r4, fun k2 w hk2 => ?_⟩
              have hk2l := (List.getElem?_eq_some_iff.mp hk2).1
              rw [q2 _ (by omega), q2k 6 (by decide)]
              exact r5 k2 w hk2
          · exact ((if_neg (by decide)).trans (if_neg (by decide))).trans ((g2k 0 (by decide)).trans g0)
        · omega
      | succ n ih =>
        intro i Q' h' hi F M' q1 q2 q3
        have hxk := List.getElem?_eq_getElem (l := tx) (i := i) (by omega)
        generalize tx[i]'(by omega) = u at hxk
        have m1' := M'.1
        have a6 := M'.2.1 6 _ rfl
        have a8 := M'.2.1 8 _ rfl
        rw [q1 8 (by decide)] at a8
        refine J_iload_n C rfl dX12_put_88 ?_
        first | refine J_aload_n C rfl dX12_put_89 ?_ | refine J_aload_nq C rfl dX12_put_89 ?_ | refine J_aload_nN C rfl dX12_put_89 ?_
        refine J_get C fl_X12_71 (by first | assumption | exact jv_up_at _ _ _ | (simp [jv_up, *]; done)) (by rfl) dX12_put_90 ?_
        rw [g37]
        refine J_nicmp_ge C (by first | omega | (dsimp only; omega)) (by first | omega | (dsimp only; omega)) 120 (by decide) dX12_put_93 (fun z => ?_) (fun z => ?_)
        · omega
        · first | refine J_aload_n C rfl dX12_put_96 ?_ | refine J_aload_nq C rfl dX12_put_96 ?_ | refine J_aload_nN C rfl dX12_put_96 ?_
          refine J_get C fl_X12_19 (by first | assumption | exact jv_up_at _ _ _ | (simp [jv_up, *]; done)) (by rfl) dX12_put_97 ?_
          refine J_sipush C (v := nI 200) (by decide) dX12_put_100 ?_
          refine J_iload_n C rfl dX12_put_103 ?_
          first | refine J_nimul C dX12_put_104 ?_ | refine J_imul C dX12_put_104 ?_
          refine J_iload_n C rfl dX12_put_105 ?_
          first | refine J_niadd C dX12_put_106 ?_ | refine J_iadd C dX12_put_106 ?_
          first | refine J_aload_n C rfl dX12_put_107 ?_ | refine J_aload_nq C rfl dX12_put_107 ?_ | refine J_aload_nN C rfl dX12_put_107 ?_
          refine J_get C fl_X12_23 (by first | assumption | exact jv_up_at _ _ _ | (simp [jv_up, *]; done)) (by rfl) dX12_put_108 ?_
          refine J_iload_n C rfl dX12_put_111 ?_
          refine J_lald C (by first | assumption | exact jv_up_at _ _ _ | (simp [jv_up, *]; done)) rfl (by omega) (by omega) dX12_put_112 ?_
          rw [w2 i u hxk]
          refine J_last C (by first | assumption | exact jv_up_at _ _ _ | (simp [jv_up, *]; done)) rfl (by omega) (by omega) dX12_put_113 ?_
          have M6 := mdl_Q M' 6 (u := vp_updL (Q' 6) (200 * md1.length + i) u) rfl rfl
          first | refine J_niinc (b := 1) C rfl (by decide) dX12_put_114 ?_ | refine J_iinc C rfl (by decide) dX12_put_114 ?_
          refine J_goto C 88 (by decide) dX12_put_117 ?_
          refine J_sub (by exact (And.intro rfl (And.intro rfl (And.intro rfl (And.intro rfl trivial))))) (ih (i + 1) _ _ (by omega) (fr_tr F (mdS_up 6 rfl _)) M6 (fun i hi => (if_neg hi).trans (q1 i hi)) (fun y hy => (if_neg (by omega)).trans (q2 y hy)) (fun i2 w hi2 hw => ?_))
          show (if 200 * md1.length + i2 = 200 * md1.length + i then u else Q' 6 (200 * md1.length + i2)) = w
          by_cases c : i2 = i
          · subst c
            rw [if_pos rfl]
            rw [hxk] at hw
            exact Option.some.inj hw
          · rw [if_neg (by omega)]
            exact q3 i2 w (by omega) hw
    refine J_iconst C (v := nI 0) (by decide) dX12_put_86 ?_
    refine J_istore_n C (by decide) dX12_put_87 ?_
    refine J_sub (by exact (And.intro rfl (And.intro rfl (And.intro rfl (And.intro rfl trivial))))) (loop tx.length 0 Q2 _ (by omega) FF M5 (fun _ _ => rfl) (fun _ _ => rfl) (fun i2 w hi2 => absurd hi2 (Nat.not_lt_zero i2)))
  first | refine J_aload_n C rfl dX12_put_0 ?_ | refine J_aload_nq C rfl dX12_put_0 ?_ | refine J_aload_nN C rfl dX12_put_0 ?_
  refine J_iload_n C rfl dX12_put_1 ?_
  refine J_callS C (c_M_isNumber x) cw_X12_119 rfl rfl (by exact Nat.le_of_ble_eq_true rfl) (by decide) (by omega) (by omega) dX12_put_2 ?_
  rintro _ h9 ⟨e9, (⟨rfl, k, hk1, rfl⟩ | ⟨rfl, hno⟩)⟩
  · replace e9 := e9.symm
    subst e9
    refine J_bif_eq C 12 (by decide) dX12_put_5 (fun z => ?_) (fun z => ?_)
    · cases z
    · have X := mdI_th M T D9 KN e1 e2 ML 0 rfl
      have M0 := X.2.1
      obtain ⟨h0, eh0⟩ : ∃ h0, h0 = jv_up h m (mdO A (va_up g 0 (nI 0))) := ⟨_, rfl⟩
      refine J_iconst C (v := nI 0) (by decide) dX12_put_8 ?_
      refine J_goto C 13 (by decide) dX12_put_9 ?_
      first | refine J_mput C fl_X12_68 (by first | assumption | exact jv_up_at _ _ _) (by decide) (by rfl) (by rfl) dX12_put_13 ?_ | refine J_put C fl_X12_68 (by first | assumption | exact jv_up_at _ _ _ | (simp [jv_up, *]; done)) (by exact Nat.le_of_ble_eq_true rfl) (by rfl) (by rfl) dX12_put_13 ?_
      refine J_eq (st1 := []) (h1 := h0) rfl eh0 ?_
      rw [← eh0] at X M0
      clear eh0
      have m0 := M0.1
      first | refine J_aload_n C rfl dX12_put_16 ?_ | refine J_aload_nq C rfl dX12_put_16 ?_ | refine J_aload_nN C rfl dX12_put_16 ?_
      refine J_get C fl_X12_68 (by first | assumption | exact jv_up_at _ _ _ | (simp [jv_up, *]; done)) (by rfl) dX12_put_17 ?_
      rw [show va_up g 0 (nI 0) 0 = nI 0 from if_pos rfl]
      refine J_nif_le C (by first | omega | (dsimp only; omega)) 25 (by decide) dX12_put_20 (fun z2 => ?_) (fun z2 => ?_)
      · first | refine J_aload_n C rfl dX12_put_25 ?_ | refine J_aload_nq C rfl dX12_put_25 ?_ | refine J_aload_nN C rfl dX12_put_25 ?_
        refine J_iload_n C rfl dX12_put_26 ?_
        refine J_callV C (c_M_placeOf M0 D9 (nI k)) cw_X12_123 (by first | assumption | exact jv_up_at _ _ _ | (simp [jv_up, *]; done)) rfl rfl rfl rfl (by exact Nat.le_of_ble_eq_true rfl) (by decide) (by omega) (by omega) dX12_put_27 ?_
        rintro _ h9 ⟨e9, i, rfl, (⟨d, p, hd, hpk, rfl⟩ | ⟨hno, rfl⟩)⟩
        · replace e9 := e9.symm
          subst e9
          have hdl := (List.getElem?_eq_some_iff.mp hd).1
          have hp10 := (t3 d p hd).2.1
          have hpk := nI_inj (by omega) (by omega) hpk
          have hp := List.getElem?_eq_getElem (l := md) (i := md.length - 1) (by omega)
          generalize md[md.length - 1]'(by omega) = pl at hp
          refine J_istore_n C (by decide) dX12_put_30 ?_
          refine J_iload_n C rfl dX12_put_31 ?_
          refine J_nif_ge C (by omega) 46 (by decide) dX12_put_32 ?_
          refine J_iload_n C rfl dX12_put_46 ?_
          refine J_nif_lt C (by omega) 55 dX12_put_47 (by decide) ?_
          first | refine J_aload_n C rfl dX12_put_50 ?_ | refine J_aload_nq C rfl dX12_put_50 ?_ | refine J_aload_nN C rfl dX12_put_50 ?_
          refine J_iload_n C rfl dX12_put_51 ?_
          refine J_callV C (c_M_remove M0 D9 hdl hp) cw_X12_126 (by first | assumption | exact jv_up_at _ _ _ | (simp [jv_up, *]; done)) rfl rfl rfl rfl (by exact Nat.le_of_ble_eq_true rfl) (by decide) (by omega) (by omega) dX12_put_52 ?_
          rintro _ h2 ⟨rfl, F, g', N', Q', M', g1, g2, n1, q1, D'⟩
          have pp := mdRem_perm hk hd hp
          rw [hpk] at pp
          refine J_sub (by exact (And.intro rfl (And.intro rfl trivial))) (K55 k h2 g' N' Q' _ hk1 rfl (Or.inl ⟨p, List.mem_of_getElem? hd, hpk⟩) (fr_tr X.2.2 F) M' (fun i i0 i1 i2 => (g1 i i1 i2).trans (if_neg i0)) (g1 0 (by decide) (by decide)) n1 D' (by unfold mdRem; rw [List.length_take, List.length_set]; omega) pp)
        · replace e9 := e9.symm
          subst e9
          have hnoN : ∀ p ∈ md, p.1 ≠ k := fun p hp e => hno p hp (by rw [e])
          have K46 : md.length < 120 → J K 0 0 46 (jv_l [(2, .int (-1)), (1, .int (nI k)), (0, .ref m)]) [] h0 := by
            intro hl
            refine J_iload_n C rfl dX12_put_46 ?_
            refine J_if_lt C 55 (by decide) dX12_put_47 (fun z4 => ?_) (fun z4 => ?_)
            · refine J_sub (by exact (And.intro rfl (And.intro rfl trivial))) (K55 k h0 _ N Q md hk1 rfl (Or.inr hl) X.2.2 M0 (fun i i0 _ _ => if_neg i0) (if_pos rfl) (fun _ _ _ => rfl) D9 hl (List.Perm.of_eq (stDrop_no hnoN).symm))
            · exact absurd (by decide) z4
          refine J_istore_n C (by decide) dX12_put_30 ?_
          refine J_iload_n C rfl dX12_put_31 ?_
          refine J_if_ge C 46 (by decide) dX12_put_32 (fun z3 => ?_) (fun z3 => ?_)
          · exact absurd z3 (by decide)
          · first | refine J_aload_n C rfl dX12_put_35 ?_ | refine J_aload_nq C rfl dX12_put_35 ?_ | refine J_aload_nN C rfl dX12_put_35 ?_
            refine J_get C fl_X12_85 (by first | assumption | exact jv_up_at _ _ _ | (simp [jv_up, *]; done)) (by rfl) dX12_put_36 ?_
            refine J_bipush C (v := nI 120) (by decide) dX12_put_39 ?_
            rw [show va_up g 0 (nI 0) 3 = nI md.length from t1]
            refine J_nicmp_ne C (by first | omega | (dsimp only; omega)) (by first | omega | (dsimp only; omega)) 46 (by decide) dX12_put_41 (fun z5 => ?_) (fun z5 => ?_)
            · refine J_sub (by exact (And.intro rfl (And.intro rfl (And.intro rfl trivial)))) (K46 (by omega))
            · refine J_iconst C (v := (-1)) (by decide) dX12_put_44 ?_
              refine J_iret C D ⟨X.2.2, Or.inl ⟨k, hk1, rfl, Or.inl ⟨hnoN, by omega, rfl, X.1⟩⟩⟩ (by omega) (by omega) dX12_put_45
      · omega
  · replace e9 := e9.symm
    subst e9
    refine J_bif_eq C 12 (by decide) dX12_put_5 (fun z => ?_) (fun z => ?_)
    · have X := mdI_th M T D9 KN e1 e2 ML 1 rfl
      refine J_iconst C (v := nI 1) (by decide) dX12_put_12 ?_
      first | refine J_mput C fl_X12_68 (by first | assumption | exact jv_up_at _ _ _) (by decide) (by rfl) (by rfl) dX12_put_13 ?_ | refine J_put C fl_X12_68 (by first | assumption | exact jv_up_at _ _ _ | (simp [jv_up, *]; done)) (by exact Nat.le_of_ble_eq_true rfl) (by rfl) (by rfl) dX12_put_13 ?_
      first | refine J_aload_n C rfl dX12_put_16 ?_ | refine J_aload_nq C rfl dX12_put_16 ?_ | refine J_aload_nN C rfl dX12_put_16 ?_
      refine J_get C fl_X12_68 (by first | assumption | exact jv_up_at _ _ _ | (simp [jv_up, *]; done)) (by rfl) dX12_put_17 ?_
      rw [show va_up g 0 (nI 1) 0 = nI 1 from if_pos rfl]
      refine J_nif_le C (by first | omega | (dsimp only; omega)) 25 (by decide) dX12_put_20 (fun z2 => ?_) (fun z2 => ?_)
      · omega
      · refine J_iconst C (v := nI 0) (by decide) dX12_put_23 ?_
        refine J_iret C D ⟨X.2.2, Or.inr ⟨hno, ⟨_, rfl⟩, X.1⟩⟩ (by omega) (by omega) dX12_put_24
    · cases z
end MPUT2
