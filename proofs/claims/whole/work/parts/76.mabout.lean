/-! the model: about -/
section MABOUT
variable {l : jL} {h : jH} {m : Nat} {A : Nat → Nat} {md : dsT} {nt : Nat} {B : Nat → Nat} {fk th : Nat} {fp : Int32} {L : List hiT} {V : List Int64}
theorem dsC_take {md : dsT} {i : Nat} {p : Nat × List Int64} (h : md[i]? = some p) (w : Int64) : dsC (md.take (i + 1)) w = dsC (md.take i) w + p.2.count w := by
  unfold dsC
  rw [List.take_add_one, h, List.map_append, List.sum_append]
  rfl
set_option maxHeartbeats 1000000 in
theorem c_M_about (I : mdI h m A nt B md fk fp L th) (x : Int32) : Cn l yX12_about cX12_about 4 (some .int) 7 0 0 [.ref m, .int x] h (fun r h1 => fr (mdS m A) h h1 ∧ ((∃ k, k ≤ 2 ∧ x = nI k ∧ r = some (.int (aboutA md (sp_text B nt)[0]? k)) ∧ mdI h1 m A nt B md fk fp L 0) ∨ ((∀ k, k ≤ 2 → x ≠ nI k) ∧ (∃ y, r = some (.int y)) ∧ mdI h1 m A nt B md fk fp L 1))) := by
  obtain ⟨g, N, Q, M, T, D9, KN, e1, e2, ML, e0⟩ := I
  obtain ⟨t1, t2, t3⟩ := id D9
  have htl : (sp_text B nt).length ≤ 200 := sp_wds_len _ _ _ _
  refine Cn.of (own := RX12) rfl (by decide) (by exact Nat.le_of_ble_eq_true rfl) (by decide) (fun K hK C D _ => ?_)
  have m1 := M.1
  have Kbad : (∀ k, k ≤ 2 → x ≠ nI k) → J K 0 0 15 (jv_l [(1, .int x), (0, .ref m)]) [.int (nI 1), .ref m] h := by
    intro hno
    have X1 := mdI_th M T D9 KN e1 e2 ML 1 rfl
    first | refine J_mput C fl_X12_68 (by first | assumption | exact jv_up_at _ _ _) (by decide) (by rfl) (by rfl) dX12_about_15 ?_ | refine J_put C fl_X12_68 (by first | assumption | exact jv_up_at _ _ _ | (simp [jv_up, *]; done)) (by exact Nat.le_of_ble_eq_true rfl) (by rfl) (by rfl) dX12_about_15 ?_
    first | refine J_aload_n C rfl dX12_about_18 ?_ | refine J_aload_nq C rfl dX12_about_18 ?_ | refine J_aload_nN C rfl dX12_about_18 ?_
    refine J_get C fl_X12_68 (by first | assumption | exact jv_up_at _ _ _ | (simp [jv_up, *]; done)) (by rfl) dX12_about_19 ?_
    rw [show va_up g 0 (nI 1) 0 = nI 1 from if_pos rfl]
    refine J_nif_le C (by first | omega | (dsimp only; omega)) 27 (by decide) dX12_about_22 (fun z => ?_) (fun z => ?_)
    · omega
    · refine J_iconst C (v := nI 0) (by decide) dX12_about_25 ?_
      refine J_iret C D ⟨X1.2.2, Or.inr ⟨hno, ⟨_, rfl⟩, X1.1⟩⟩ (by omega) (by omega) dX12_about_26
  first | refine J_aload_n C rfl dX12_about_0 ?_ | refine J_aload_nq C rfl dX12_about_0 ?_ | refine J_aload_nN C rfl dX12_about_0 ?_
  refine J_iload_n C rfl dX12_about_1 ?_
  refine J_if_lt C 10 (by decide) dX12_about_2 (fun z1 => ?_) (fun z1 => ?_)
  · refine J_iconst C (v := nI 1) (by decide) dX12_about_10 ?_
    refine J_goto C 15 (by decide) dX12_about_11 ?_
    refine J_sub (by exact (And.intro rfl (And.intro rfl trivial))) (Kbad (fun k hk e => by rw [e] at z1; exact nI_pos (by omega) z1))
  · obtain ⟨k, hk, rfl⟩ := nI_of z1
    refine J_iload_n C rfl dX12_about_5 ?_
    refine J_iconst C (v := nI 2) (by decide) dX12_about_6 ?_
    refine J_nicmp_le C (by first | omega | (dsimp only; omega)) (by first | omega | (dsimp only; omega)) 14 (by decide) dX12_about_7 (fun z2 => ?_) (fun z2 => ?_)
    · have X1 := mdI_th M T D9 KN e1 e2 ML 0 rfl
      have M0 := X1.2.1
      refine J_iconst C (v := nI 0) (by decide) dX12_about_14 ?_
      first | refine J_mput C fl_X12_68 (by first | assumption | exact jv_up_at _ _ _) (by decide) (by rfl) (by rfl) dX12_about_15 ?_ | refine J_put C fl_X12_68 (by first | assumption | exact jv_up_at _ _ _ | (simp [jv_up, *]; done)) (by exact Nat.le_of_ble_eq_true rfl) (by rfl) (by rfl) dX12_about_15 ?_
      first | refine J_aload_n C rfl dX12_about_18 ?_ | refine J_aload_nq C rfl dX12_about_18 ?_ | refine J_aload_nN C rfl dX12_about_18 ?_
      refine J_get C fl_X12_68 (by first | assumption | exact jv_up_at _ _ _ | (simp [jv_up, *]; done)) (by rfl) dX12_about_19 ?_
      rw [show va_up g 0 (nI 0) 0 = nI 0 from if_pos rfl]
      obtain ⟨h0, eh0⟩ : ∃ h0, h0 = jv_up h m (mdO A (va_up g 0 (nI 0))) := ⟨_, rfl⟩
      refine J_eq (st1 := [.int (nI 0)]) (h1 := h0) rfl eh0 ?_
      rw [← eh0] at X1 M0
      clear eh0
      have m0 := M0.1
      refine J_nif_le C (by first | omega | (dsimp only; omega)) 27 (by decide) dX12_about_22 (fun z => ?_) (fun z => ?_)
      · first | refine J_aload_n C rfl dX12_about_27 ?_ | refine J_aload_nq C rfl dX12_about_27 ?_ | refine J_aload_nN C rfl dX12_about_27 ?_
        refine J_callV C (c_M_readWords M0 T) cw_X12_130 (by first | assumption | exact jv_up_at _ _ _ | (simp [jv_up, *]; done)) rfl rfl rfl rfl (by exact Nat.le_of_ble_eq_true rfl) (by decide) (by omega) (by omega) dX12_about_28 ?_
        rintro _ h2 ⟨rfl, F2, g2, Q2, M2, g2k, q2k, w1, w2⟩
        have m2 := M2.1
        have g23 : g2 3 = nI md.length := (g2k 3 (by decide)).trans t1
        have D2 : mdD g2 N Q2 md := mdD_congr (g := g) D9 (g2k 3 (by decide)) rfl rfl (q2k 6 (by decide))
        have KN2 : mdKn g2 N Q2 md := by
          unfold mdKn known at KN ⊢
          rw [g2k 22 (by decide), q2k 25 (by decide)]
          exact KN
        have FF := fr_tr X1.2.2 F2
        have mk : ∀ {h3 : jH} {g' : Nat → Int32} {N' : Nat → Nat → Int32} {Q' : Nat → Nat → Int64}, mdl h3 m A g' N' Q' → (∀ i, i ≠ 22 → g' i = g2 i) → (∀ i, i ≠ 23 → i ≠ 24 → i ≠ 26 → N' i = N i) → mdD g' N' Q' md → mdKn g' N' Q' md → mdI h3 m A nt B md fk fp L 0 := fun M' g' n' D' K' => mdI_mk T e1 e2 ML M' (fun i hi => (g' i (by omega)).trans ((g2k i (by omega)).trans (if_neg (by omega)))) (fun i hi => n' i (by omega) (by omega) (by omega)) D' K' ((g' 0 (by decide)).trans ((g2k 0 (by decide)).trans (if_pos rfl)))
        first | refine J_aload_n C rfl dX12_about_31 ?_ | refine J_aload_nq C rfl dX12_about_31 ?_ | refine J_aload_nN C rfl dX12_about_31 ?_
        refine J_get C fl_X12_71 (by first | assumption | exact jv_up_at _ _ _ | (simp [jv_up, *]; done)) (by rfl) dX12_about_32 ?_
        rw [w1]
        refine J_if_ne C 40 (by decide) dX12_about_35 (fun z3 => ?_) (fun z3 => ?_)
        · have hpos : (sp_text B nt).length ≠ 0 := fun e => z3 (by rw [e]; rfl)
          have hw := List.getElem?_eq_getElem (l := sp_text B nt) (i := 0) (by omega)
          generalize (sp_text B nt)[0]'(by omega) = w at hw
          have hw8 := w2 0 w hw
          have a8 := M2.2.1 8 _ rfl
          have loop : ∀ (n i : Nat), i + n = md.length → J K 0 0 44 (jv_l [(3, .int (nI i)), (2, .int (nI (dsC (md.take i) w))), (1, .int (nI k)), (0, .ref m)]) [] h2 := by
            intro n
            induction n with
            | zero =>
              intro i hi
              have hi : i = md.length := hi
              refine J_iload_n C rfl dX12_about_44 ?_
              first | refine J_aload_n C rfl dX12_about_45 ?_ | refine J_aload_nq C rfl dX12_about_45 ?_ | refine J_aload_nN C rfl dX12_about_45 ?_
              refine J_get C fl_X12_85 (by first | assumption | exact jv_up_at _ _ _ | (simp [jv_up, *]; done)) (by rfl) dX12_about_46 ?_
              rw [g23]
              refine J_nicmp_ge C (by first | omega | (dsimp only; omega)) (by first | omega | (dsimp only; omega)) 72 (by decide) dX12_about_49 (fun z4 => ?_) (fun z4 => ?_)
              · rw [hi, List.take_length]
                refine J_iload_n C rfl dX12_about_72 ?_
                refine J_if_ne C 89 (by decide) dX12_about_73 (fun z5 => ?_) (fun z5 => ?_)
                · have k0 : k ≠ 0 := fun e => z5 (by rw [e]; rfl)
                  refine J_iload_n C rfl dX12_about_89 ?_
                  refine J_iconst C (v := nI 1) (by decide) dX12_about_90 ?_
                  refine J_nicmp_ne C (by first | omega | (dsimp only; omega)) (by first | omega | (dsimp only; omega)) 107 (by decide) dX12_about_91 (fun z6 => ?_) (fun z6 => ?_)
                  · refine J_iload_n C rfl dX12_about_107 ?_
                    refine J_iret C D ⟨FF, Or.inl ⟨k, z2, rfl, by rw [hw, show k = 2 by omega]; rfl, mk M2 (fun _ _ => rfl) (fun _ _ _ _ => rfl) D2 KN2⟩⟩ (by omega) (by omega) dX12_about_108
                  · first | refine J_aload_n C rfl dX12_about_94 ?_ | refine J_aload_nq C rfl dX12_about_94 ?_ | refine J_aload_nN C rfl dX12_about_94 ?_
                    first | refine J_aload_n C rfl dX12_about_95 ?_ | refine J_aload_nq C rfl dX12_about_95 ?_ | refine J_aload_nN C rfl dX12_about_95 ?_
                    refine J_get C fl_X12_23 (by first | assumption | exact jv_up_at _ _ _ | (simp [jv_up, *]; done)) (by rfl) dX12_about_96 ?_
                    refine J_iconst C (v := nI 0) (by decide) dX12_about_99 ?_
                    refine J_lald C (by first | assumption | exact jv_up_at _ _ _ | (simp [jv_up, *]; done)) rfl (by omega) (by omega) dX12_about_100 ?_
                    rw [hw8]
                    refine J_callV C (c_M_rarity M2 D2 KN2 w) cw_X12_141 (by first | assumption | exact jv_up_at _ _ _ | (simp [jv_up, *]; done)) rfl rfl rfl rfl (by exact Nat.le_of_ble_eq_true rfl) (by decide) (by omega) (by omega) dX12_about_101 ?_
                    rintro _ h3 ⟨rfl, F3, N', Q', M3, n1, q1, kn⟩
                    refine J_goto C 108 (by decide) dX12_about_104 ?_
                    refine J_iret C D ⟨fr_tr FF F3, Or.inl ⟨k, z2, rfl, by rw [hw, z6]; rfl, mk M3 (fun i hi => if_neg hi) n1 (mdD_congr (g := g2) D2 rfl (n1 4 (by decide) (by decide) (by decide)) (n1 5 (by decide) (by decide) (by decide)) (q1 6 (by decide))) (Or.inr ⟨rfl, kn⟩)⟩⟩ (by omega) (by omega) dX12_about_108
                · have k0 : k = 0 := nI_inj (b := 0) (by omega) (by decide) z5
                  first | refine J_aload_n C rfl dX12_about_76 ?_ | refine J_aload_nq C rfl dX12_about_76 ?_ | refine J_aload_nN C rfl dX12_about_76 ?_
                  first | refine J_aload_n C rfl dX12_about_77 ?_ | refine J_aload_nq C rfl dX12_about_77 ?_ | refine J_aload_nN C rfl dX12_about_77 ?_
                  refine J_get C fl_X12_23 (by first | assumption | exact jv_up_at _ _ _ | (simp [jv_up, *]; done)) (by rfl) dX12_about_78 ?_
                  refine J_iconst C (v := nI 0) (by decide) dX12_about_81 ?_
                  refine J_lald C (by first | assumption | exact jv_up_at _ _ _ | (simp [jv_up, *]; done)) rfl (by omega) (by omega) dX12_about_82 ?_
                  rw [hw8]
                  refine J_callV C (c_M_having M2 D2 KN2 w) cw_X12_115 (by first | assumption | exact jv_up_at _ _ _ | (simp [jv_up, *]; done)) rfl rfl rfl rfl (by exact Nat.le_of_ble_eq_true rfl) (by decide) (by omega) (by omega) dX12_about_83 ?_
                  rintro _ h3 ⟨rfl, F3, N', Q', M3, n1, q1, kn⟩
                  refine J_goto C 108 (by decide) dX12_about_86 ?_
                  refine J_iret C D ⟨fr_tr FF F3, Or.inl ⟨k, z2, rfl, by rw [hw, k0]; rfl, mk M3 (fun i hi => if_neg hi) n1 (mdD_congr (g := g2) D2 rfl (n1 4 (by decide) (by decide) (by decide)) (n1 5 (by decide) (by decide) (by decide)) (q1 6 (by decide))) (Or.inr ⟨rfl, kn⟩)⟩⟩ (by omega) (by omega) dX12_about_108
              · omega
            | succ n ih =>
              intro i hi
              have hx := List.getElem?_eq_getElem (l := md) (i := i) (by omega)
              generalize md[i]'(by omega) = p at hx
              have L0 := ih (i + 1) (by omega)
              rw [dsC_take hx] at L0
              refine J_iload_n C rfl dX12_about_44 ?_
              first | refine J_aload_n C rfl dX12_about_45 ?_ | refine J_aload_nq C rfl dX12_about_45 ?_ | refine J_aload_nN C rfl dX12_about_45 ?_
              refine J_get C fl_X12_85 (by first | assumption | exact jv_up_at _ _ _ | (simp [jv_up, *]; done)) (by rfl) dX12_about_46 ?_
              rw [g23]
              refine J_nicmp_ge C (by first | omega | (dsimp only; omega)) (by first | omega | (dsimp only; omega)) 72 (by decide) dX12_about_49 (fun z4 => ?_) (fun z4 => ?_)
              · omega
              · refine J_iload_n C rfl dX12_about_52 ?_
                first | refine J_aload_n C rfl dX12_about_53 ?_ | refine J_aload_nq C rfl dX12_about_53 ?_ | refine J_aload_nN C rfl dX12_about_53 ?_
                refine J_iload_n C rfl dX12_about_54 ?_
                first | refine J_aload_n C rfl dX12_about_55 ?_ | refine J_aload_nq C rfl dX12_about_55 ?_ | refine J_aload_nN C rfl dX12_about_55 ?_
                refine J_get C fl_X12_23 (by first | assumption | exact jv_up_at _ _ _ | (simp [jv_up, *]; done)) (by rfl) dX12_about_56 ?_
                refine J_iconst C (v := nI 0) (by decide) dX12_about_59 ?_
                refine J_lald C (by first | assumption | exact jv_up_at _ _ _ | (simp [jv_up, *]; done)) rfl (by omega) (by omega) dX12_about_60 ?_
                rw [hw8]
                refine J_callV C (c_M_times M2 D2 hx w) cw_X12_88 (by first | assumption | exact jv_up_at _ _ _ | (simp [jv_up, *]; done)) rfl rfl rfl rfl (by exact Nat.le_of_ble_eq_true rfl) (by decide) (by omega) (by omega) dX12_about_61 ?_
                rintro _ h9 ⟨rfl, e9⟩
                replace e9 := e9.symm
                subst e9
                first | refine J_niadd C dX12_about_64 ?_ | refine J_iadd C dX12_about_64 ?_
                refine J_istore_n C (by decide) dX12_about_65 ?_
                first | refine J_niinc (b := 1) C rfl (by decide) dX12_about_66 ?_ | refine J_iinc C rfl (by decide) dX12_about_66 ?_
                refine J_goto C 44 (by decide) dX12_about_69 ?_
                refine J_sub (by exact (And.intro rfl (And.intro rfl (And.intro rfl (And.intro rfl trivial))))) (L0)
          refine J_iconst C (v := nI 0) (by decide) dX12_about_40 ?_
          refine J_istore_n C (by decide) dX12_about_41 ?_
          refine J_iconst C (v := nI 0) (by decide) dX12_about_42 ?_
          refine J_istore_n C (by decide) dX12_about_43 ?_
          refine J_sub (by exact (And.intro rfl (And.intro rfl (And.intro rfl (And.intro rfl trivial))))) (loop md.length 0 (by omega))
        · have h0 : (sp_text B nt).length = 0 := nI_inj (b := 0) (by omega) (by decide) z3
          have hw : (sp_text B nt)[0]? = none := List.getElem?_eq_none (by omega)
          refine J_iconst C (v := (-1)) (by decide) dX12_about_38 ?_
          refine J_iret C D ⟨FF, Or.inl ⟨k, z2, rfl, by rw [hw]; rfl, mk M2 (fun _ _ => rfl) (fun _ _ _ _ => rfl) D2 KN2⟩⟩ (by omega) (by omega) dX12_about_39
      · omega
    · refine J_iconst C (v := nI 1) (by decide) dX12_about_10 ?_
      refine J_goto C 15 (by decide) dX12_about_11 ?_
      refine J_sub (by exact (And.intro rfl (And.intro rfl trivial))) (Kbad (fun j hj e => by have e := nI_inj (by omega) (by omega) e; omega))
end MABOUT
