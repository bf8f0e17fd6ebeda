section QY2
variable {l : jL} {h : jH} {a ta : Nat} {tt : Nat → Nat} {cur fk : Nat} {fp : Int32} {s : qsT} {b : Nat}
set_option maxHeartbeats 400000 in
theorem c_Query_nextTerm (Y : qy h a ta tt cur fk fp s) : Cn l yX6_nextTerm cX6_nextTerm 1 (some (.object "RankedSearch$Term")) 1 0 0 [.ref a] h (fun r h1 => ((16 ≤ s.1 ∧ r = some .null) ∨ (s.1 < 16 ∧ r = some (.ref (tt s.1)))) ∧ h1 = h) := by
  obtain ⟨y1, ⟨f, y2, y3⟩, y4, y5, y6, -⟩ := Y
  refine Cn.of (own := RX6) rfl (by decide) (by exact Nat.le_of_ble_eq_true rfl) (by decide) (fun K hK C D I => ?_)
  first | refine J_aload_n C rfl dX6_nextTerm_0 ?_ | refine J_aload_nq C rfl dX6_nextTerm_0 ?_ | refine J_aload_nN C rfl dX6_nextTerm_0 ?_
  refine J_get C fl_X6_29 (by first | assumption | exact jv_up_at _ _ _ | (simp [jv_up, *]; done)) (by rfl) dX6_nextTerm_1 ?_
  refine J_nif_lt C (by omega) 31 dX6_nextTerm_4 (by decide) ?_
  first | refine J_aload_n C rfl dX6_nextTerm_7 ?_ | refine J_aload_nq C rfl dX6_nextTerm_7 ?_ | refine J_aload_nN C rfl dX6_nextTerm_7 ?_
  refine J_get C fl_X6_29 (by first | assumption | exact jv_up_at _ _ _ | (simp [jv_up, *]; done)) (by rfl) dX6_nextTerm_8 ?_
  first | refine J_aload_n C rfl dX6_nextTerm_11 ?_ | refine J_aload_nq C rfl dX6_nextTerm_11 ?_ | refine J_aload_nN C rfl dX6_nextTerm_11 ?_
  refine J_get C fl_X6_11 (by first | assumption | exact jv_up_at _ _ _ | (simp [jv_up, *]; done)) (by rfl) dX6_nextTerm_12 ?_
  refine J_alen C (by first | assumption | exact jv_up_at _ _ _ | (simp [jv_up, *]; done)) (by decide) dX6_nextTerm_15 ?_
  refine J_nicmp_ge C (by first | omega | (dsimp only; omega)) (by first | omega | (dsimp only; omega)) 31 (by decide) dX6_nextTerm_16 (fun z1 => ?_) (fun z1 => ?_)
  · have hc : 16 ≤ s.1 := z1
    refine J_null C dX6_nextTerm_31 ?_
    refine J_aret (x := none) C D (Or.inl ⟨_, rfl⟩) ⟨Or.inl ⟨hc, rfl⟩, rfl⟩ (by omega) (by omega) dX6_nextTerm_32
  · have hc : s.1 < 16 := z1
    first | refine J_aload_n C rfl dX6_nextTerm_19 ?_ | refine J_aload_nq C rfl dX6_nextTerm_19 ?_ | refine J_aload_nN C rfl dX6_nextTerm_19 ?_
    refine J_get C fl_X6_11 (by first | assumption | exact jv_up_at _ _ _ | (simp [jv_up, *]; done)) (by rfl) dX6_nextTerm_20 ?_
    first | refine J_aload_n C rfl dX6_nextTerm_23 ?_ | refine J_aload_nq C rfl dX6_nextTerm_23 ?_ | refine J_aload_nN C rfl dX6_nextTerm_23 ?_
    refine J_get C fl_X6_29 (by first | assumption | exact jv_up_at _ _ _ | (simp [jv_up, *]; done)) (by rfl) dX6_nextTerm_24 ?_
    refine J_aald C y2 (Or.inr rfl) rfl hc (by decide) dX6_nextTerm_27 ?_
    rw [y3 _ hc]
    refine J_goto C 32 (by decide) dX6_nextTerm_28 ?_
    refine J_aret (x := some (tt s.1)) C D (Or.inl ⟨_, rfl⟩) ⟨Or.inr ⟨hc, rfl⟩, rfl⟩ (by omega) (by omega) dX6_nextTerm_32
set_option maxHeartbeats 400000 in
theorem c_Query_takeBetweenTerms (Y : qy h a ta tt cur fk fp s) (hb : b < 256) : Cn l yX6_takeBetweenTerms cX6_takeBetweenTerms 4 (some .int) 4 0 0 [.ref a, .int (nI b)] h (qy_post h a ta tt fk fp (qs_between s b)) := by
  have Y0 := Y
  obtain ⟨y1, ⟨f, y2, y3⟩, y4, y5, y6, y7, y8, y9⟩ := Y
  refine Cn.of (own := RX6) rfl (by decide) (by exact Nat.le_of_ble_eq_true rfl) (by decide) (fun K hK C D I => ?_)
  have K35 : ∀ sg : Bool, (sg = true ↔ (b = 43 ∨ b = 45)) → (sg = true ∨ sp_isl b = true) → J K 0 0 35 (jv_l [(0, .ref a), (1, .int (nI b)), (2, .int (jv_b sg))]) [] h := by
    intro sg hsg hor
    have hor2 : (b = 43 ∨ b = 45) ∨ sp_isl b = true := hor.elim (fun z => Or.inl (hsg.mp z)) Or.inr
    first | refine J_aload_n C rfl dX6_takeBetweenTerms_35 ?_ | refine J_aload_nq C rfl dX6_takeBetweenTerms_35 ?_ | refine J_aload_nN C rfl dX6_takeBetweenTerms_35 ?_
    refine J_callV C (c_Query_nextTerm Y0) cw_X6_76 (by first | assumption | exact jv_up_at _ _ _ | (simp [jv_up, *]; done)) rfl rfl rfl rfl (by exact Nat.le_of_ble_eq_true rfl) (by decide) (by omega) (by omega) dX6_takeBetweenTerms_36 ?_
    rintro _ h9 ⟨q9, e9⟩
    replace e9 := e9.symm
    subst e9
    rcases q9 with ⟨hc, rfl⟩ | ⟨hc, rfl⟩
    · first | refine J_astore_nq C (by decide) dX6_takeBetweenTerms_39 ?_ | refine J_astore_n C (by decide) dX6_takeBetweenTerms_39 ?_ | refine J_astore_nN C (by decide) dX6_takeBetweenTerms_39 ?_
      first | refine J_aload_n C rfl dX6_takeBetweenTerms_40 ?_ | refine J_aload_nq C rfl dX6_takeBetweenTerms_40 ?_ | refine J_aload_nN C rfl dX6_takeBetweenTerms_40 ?_
      refine J_ifnonnull (x := none) C 46 (by decide) dX6_takeBetweenTerms_41 (fun w z => ?_) (fun z => ?_)
      · cases z
      · refine J_iconst C (v := nI 3) (by decide) dX6_takeBetweenTerms_44 ?_
        refine J_iret C D (by rw [show qs_between s b = (3, s) by unfold qs_between; rw [if_pos hor2, if_pos hc]]; exact ⟨rfl, Nat.le_of_ble_eq_true rfl, ⟨cur, Y0, fun z => by cases z⟩, fr_rf _ _⟩) (by omega) (by omega) dX6_takeBetweenTerms_45
    · have X1 := qy_a Y0 (cnt := s.1) (cur' := tt s.1) (st := s.2.1) (fk' := fk) (fp' := fp) (by omega) y7 y9
      have t1 := X1.2.2.1 s.1 hc
      have X2 := (qy_t X1 hc (v := tm0) (by decide)).1
      have Y1 := qy_a Y0 (cnt := s.1 + 1) (cur' := tt s.1) (st := s.2.1) (fk' := fk) (fp' := fp) hc y7 y9
      have Y2 := qy_t Y1 hc (v := tm0) (by decide)
      have Y2c := Y2.1
      first | refine J_astore_nq C (by decide) dX6_takeBetweenTerms_39 ?_ | refine J_astore_n C (by decide) dX6_takeBetweenTerms_39 ?_ | refine J_astore_nN C (by decide) dX6_takeBetweenTerms_39 ?_
      first | refine J_aload_n C rfl dX6_takeBetweenTerms_40 ?_ | refine J_aload_nq C rfl dX6_takeBetweenTerms_40 ?_ | refine J_aload_nN C rfl dX6_takeBetweenTerms_40 ?_
      refine J_ifnonnull (x := some (tt s.1)) C 46 (by decide) dX6_takeBetweenTerms_41 (fun w z => ?_) (fun z => ?_)
      rotate_left
      · cases z
      first | refine J_aload_n C rfl dX6_takeBetweenTerms_46 ?_ | refine J_aload_nq C rfl dX6_takeBetweenTerms_46 ?_ | refine J_aload_nN C rfl dX6_takeBetweenTerms_46 ?_
      first | refine J_aload_n C rfl dX6_takeBetweenTerms_47 ?_ | refine J_aload_nq C rfl dX6_takeBetweenTerms_47 ?_ | refine J_aload_nN C rfl dX6_takeBetweenTerms_47 ?_
      refine J_put C fl_X6_18 (by first | assumption | exact jv_up_at _ _ _ | (simp [jv_up, *]; done)) (by exact Nat.le_of_ble_eq_true rfl) (by first | rfl | exact jv_nar_o _ _) (by first | rfl | exact jv_fit_o _ _) dX6_takeBetweenTerms_48 ?_
      first | refine J_aload_n C rfl dX6_takeBetweenTerms_51 ?_ | refine J_aload_nq C rfl dX6_takeBetweenTerms_51 ?_ | refine J_aload_nN C rfl dX6_takeBetweenTerms_51 ?_
      refine J_get C fl_X6_18 (by exact X1.1) (by rfl) dX6_takeBetweenTerms_52 ?_
      refine J_callV C (c_Term_begin _ _ (tt s.1) _ t1) cw_X6_80 (by first | assumption | exact jv_up_at _ _ _ | (simp [jv_up, *]; done)) rfl rfl rfl rfl (by exact Nat.le_of_ble_eq_true rfl) (by decide) (by omega) (by omega) dX6_takeBetweenTerms_55 ?_
      rintro _ _ ⟨rfl, rfl⟩
      first | refine J_aload_n C rfl dX6_takeBetweenTerms_58 ?_ | refine J_aload_nq C rfl dX6_takeBetweenTerms_58 ?_ | refine J_aload_nN C rfl dX6_takeBetweenTerms_58 ?_
      refine J_dup C rfl dX6_takeBetweenTerms_59 ?_
      refine J_get C fl_X6_29 (by exact X2) (by rfl) dX6_takeBetweenTerms_60 ?_
      refine J_iconst C (v := nI 1) (by decide) dX6_takeBetweenTerms_63 ?_
      first | refine J_niadd C dX6_takeBetweenTerms_64 ?_ | refine J_iadd C dX6_takeBetweenTerms_64 ?_
      refine J_put C fl_X6_29 (by exact X2) (by exact Nat.le_of_ble_eq_true rfl) (by rfl) (by rfl) dX6_takeBetweenTerms_65 ?_
      rw [jv_up_comm (qy_ne Y0 hc).1, jv_up_up]
      refine J_iload_n C rfl dX6_takeBetweenTerms_68 ?_
      refine J_bif_ne C 78 (by decide) dX6_takeBetweenTerms_69 (fun z2 => ?_) (fun z2 => ?_)
      · have hs2 := hsg.mp z2
        have hq : qs_between s b = (0, (s.1 + 1, 1, va_up s.2.2 s.1 (tm_sgn b))) := by unfold qs_between; rw [if_pos hor2, if_neg (by omega), if_pos hs2]
        have Y3 := qy_t Y1 hc (v := tm_sgn b) (by exact Nat.zero_le _)
        have K114 : J K 0 0 114 (jv_l [(0, .ref a), (1, .int (nI b)), (2, .int (jv_b sg))]) [] (jv_up (jv_up h a (qyO ta (s.1 + 1) (tt s.1) s.2.1 fk fp)) (tt s.1) (tm (tm_sgn b))) := by
          have Y3c := Y3.1
          first | refine J_aload_n C rfl dX6_takeBetweenTerms_114 ?_ | refine J_aload_nq C rfl dX6_takeBetweenTerms_114 ?_ | refine J_aload_nN C rfl dX6_takeBetweenTerms_114 ?_
          refine J_iconst C (v := nI 1) (by decide) dX6_takeBetweenTerms_115 ?_
          refine J_put C fl_X6_32 (by exact Y3c) (by exact Nat.le_of_ble_eq_true rfl) (by rfl) (by rfl) dX6_takeBetweenTerms_116 ?_
          refine J_iconst C (v := nI 0) (by decide) dX6_takeBetweenTerms_119 ?_
          refine J_iret C D (by rw [hq]; exact ⟨rfl, Nat.le_of_ble_eq_true rfl, ⟨tt s.1, qy_a Y3 hc (by decide) y9, fun _ _ => ⟨Nat.le_add_left 1 _, rfl⟩⟩, fr_tr (fr_tr (fr_up (Or.inl rfl)) (fr_up (Or.inr ⟨s.1, hc, rfl⟩))) (fr_up (Or.inl rfl))⟩) (by omega) (by omega) dX6_takeBetweenTerms_120
        first | refine J_aload_n C rfl dX6_takeBetweenTerms_78 ?_ | refine J_aload_nq C rfl dX6_takeBetweenTerms_78 ?_ | refine J_aload_nN C rfl dX6_takeBetweenTerms_78 ?_
        refine J_get C fl_X6_18 (by exact Y2c) (by rfl) dX6_takeBetweenTerms_79 ?_
        refine J_iload_n C rfl dX6_takeBetweenTerms_82 ?_
        refine J_bipush C (v := nI 43) (by decide) dX6_takeBetweenTerms_83 ?_
        have t3 := jv_up_at (jv_up h a (qyO ta (s.1 + 1) (tt s.1) s.2.1 fk fp)) (tt s.1) (tm tm0)
        rcases hs2 with rfl | rfl
        · refine J_nicmp_ne C (by first | omega | (dsimp only; omega)) (by first | omega | (dsimp only; omega)) 92 (by decide) dX6_takeBetweenTerms_85 (fun z3 => ?_) (fun z3 => ?_)
          · exact absurd rfl z3
          · refine J_iconst C (v := nI 1) (by decide) dX6_takeBetweenTerms_88 ?_
            refine J_goto C 93 (by decide) dX6_takeBetweenTerms_89 ?_
            refine J_put C fl_X6_83 (by first | assumption | exact jv_up_at _ _ _ | (simp [jv_up, *]; done)) (by exact Nat.le_of_ble_eq_true rfl) (by rfl) (by rfl) dX6_takeBetweenTerms_93 ?_
            have Y4 := qy_t Y1 hc (v := (true, false, false, lN 0, 0, 1)) (by exact Nat.zero_le _)
            rw [jv_up_up]
            first | refine J_aload_n C rfl dX6_takeBetweenTerms_96 ?_ | refine J_aload_nq C rfl dX6_takeBetweenTerms_96 ?_ | refine J_aload_nN C rfl dX6_takeBetweenTerms_96 ?_
            refine J_get C fl_X6_18 (by exact Y4.1) (by rfl) dX6_takeBetweenTerms_97 ?_
            refine J_iload_n C rfl dX6_takeBetweenTerms_100 ?_
            refine J_bipush C (v := nI 45) (by decide) dX6_takeBetweenTerms_101 ?_
            refine J_nicmp_ne C (by first | omega | (dsimp only; omega)) (by first | omega | (dsimp only; omega)) 110 (by decide) dX6_takeBetweenTerms_103 (fun z4 => ?_) (fun z4 => ?_)
            · refine J_iconst C (v := nI 0) (by decide) dX6_takeBetweenTerms_110 ?_
              refine J_put C fl_X6_87 (by first | assumption | exact jv_up_at _ _ _ | (simp [jv_up, *]; done)) (by exact Nat.le_of_ble_eq_true rfl) (by rfl) (by rfl) dX6_takeBetweenTerms_111 ?_
              rw [jv_up_up]
              exact J_sub (by exact (And.intro rfl (And.intro rfl (And.intro rfl trivial)))) (K114)
            · omega
        · refine J_nicmp_ne C (by first | omega | (dsimp only; omega)) (by first | omega | (dsimp only; omega)) 92 (by decide) dX6_takeBetweenTerms_85 (fun z3 => ?_) (fun z3 => ?_)
          · refine J_iconst C (v := nI 0) (by decide) dX6_takeBetweenTerms_92 ?_
            refine J_put C fl_X6_83 (by first | assumption | exact jv_up_at _ _ _ | (simp [jv_up, *]; done)) (by exact Nat.le_of_ble_eq_true rfl) (by rfl) (by rfl) dX6_takeBetweenTerms_93 ?_
            have Y4 := qy_t Y1 hc (v := (false, false, false, lN 0, 0, 1)) (by exact Nat.zero_le _)
            rw [jv_up_up]
            first | refine J_aload_n C rfl dX6_takeBetweenTerms_96 ?_ | refine J_aload_nq C rfl dX6_takeBetweenTerms_96 ?_ | refine J_aload_nN C rfl dX6_takeBetweenTerms_96 ?_
            refine J_get C fl_X6_18 (by exact Y4.1) (by rfl) dX6_takeBetweenTerms_97 ?_
            refine J_iload_n C rfl dX6_takeBetweenTerms_100 ?_
            refine J_bipush C (v := nI 45) (by decide) dX6_takeBetweenTerms_101 ?_
            refine J_nicmp_ne C (by first | omega | (dsimp only; omega)) (by first | omega | (dsimp only; omega)) 110 (by decide) dX6_takeBetweenTerms_103 (fun z4 => ?_) (fun z4 => ?_)
            · exact absurd rfl z4
            · refine J_iconst C (v := nI 1) (by decide) dX6_takeBetweenTerms_106 ?_
              refine J_goto C 111 (by decide) dX6_takeBetweenTerms_107 ?_
              refine J_put C fl_X6_87 (by first | assumption | exact jv_up_at _ _ _ | (simp [jv_up, *]; done)) (by exact Nat.le_of_ble_eq_true rfl) (by rfl) (by rfl) dX6_takeBetweenTerms_111 ?_
              rw [jv_up_up]
              exact J_sub (by exact (And.intro rfl (And.intro rfl (And.intro rfl trivial)))) (K114)
          · omega
      · have hs2 : ¬ (b = 43 ∨ b = 45) := fun w => by rw [hsg.mpr w] at z2; cases z2
        have hq : qs_between s b = qs_let (s.1 + 1, s.2.1, va_up s.2.2 s.1 tm0) b := by unfold qs_between; rw [if_pos hor2, if_neg (by omega), if_neg hs2]
        first | refine J_aload_n C rfl dX6_takeBetweenTerms_72 ?_ | refine J_aload_nq C rfl dX6_takeBetweenTerms_72 ?_ | refine J_aload_nN C rfl dX6_takeBetweenTerms_72 ?_
        refine J_iload_n C rfl dX6_takeBetweenTerms_73 ?_
        refine J_callV C (c_Query_takeLetter Y2 ⟨Nat.le_add_left 1 _, rfl⟩ hb) cw_X6_55 (by first | assumption | exact jv_up_at _ _ _ | (simp [jv_up, *]; done)) rfl rfl rfl rfl (by exact Nat.le_of_ble_eq_true rfl) (by decide) (by omega) (by omega) dX6_takeBetweenTerms_74 ?_
        intro r h1 hp
        obtain ⟨rfl, hp2, hp3, hp4⟩ := hp
        refine J_iret C D (by rw [hq]; exact ⟨rfl, hp2, hp3, fr_tr (fr_tr (fr_up (Or.inl rfl)) (fr_up (Or.inr ⟨s.1, hc, rfl⟩))) hp4⟩) (by omega) (by omega) dX6_takeBetweenTerms_77
  have K17 : ∀ sg : Bool, (sg = true ↔ (b = 43 ∨ b = 45)) → J K 0 0 17 (jv_l (lv_args 0 [.ref a, .int (nI b)])) [.int (jv_b sg)] h := by
    intro sg hsg
    refine J_istore_n C (by decide) dX6_takeBetweenTerms_17 ?_
    refine J_iload_n C rfl dX6_takeBetweenTerms_18 ?_
    refine J_bif_ne C 35 (by decide) dX6_takeBetweenTerms_19 (fun z1 => ?_) (fun z1 => ?_)
    · exact J_sub (by exact (And.intro rfl (And.intro rfl (And.intro rfl trivial)))) (K35 sg hsg (Or.inl z1))
    · refine J_iload_n C rfl dX6_takeBetweenTerms_22 ?_
      refine J_callS C (c_isLetter _ _ b (by omega)) cw_X6_70 rfl rfl (by exact Nat.le_of_ble_eq_true rfl) (by decide) (by omega) (by omega) dX6_takeBetweenTerms_23 ?_
      rintro _ _ ⟨rfl, rfl⟩
      refine J_bif_ne C 35 (by decide) dX6_takeBetweenTerms_26 (fun z2 => ?_) (fun z2 => ?_)
      · exact J_sub (by exact (And.intro rfl (And.intro rfl (And.intro rfl trivial)))) (K35 sg hsg (Or.inr z2))
      · first | refine J_aload_n C rfl dX6_takeBetweenTerms_29 ?_ | refine J_aload_nq C rfl dX6_takeBetweenTerms_29 ?_ | refine J_aload_nN C rfl dX6_takeBetweenTerms_29 ?_
        refine J_iload_n C rfl dX6_takeBetweenTerms_30 ?_
        refine J_callV C (c_Query_takeBlank Y0 hb) cw_X6_67 (by first | assumption | exact jv_up_at _ _ _ | (simp [jv_up, *]; done)) rfl rfl rfl rfl (by exact Nat.le_of_ble_eq_true rfl) (by decide) (by omega) (by omega) dX6_takeBetweenTerms_31 ?_
        intro r h1 hp
        obtain ⟨rfl, hp2⟩ := hp
        have hs2 : ¬ (b = 43 ∨ b = 45) := fun w => by rw [hsg.mpr w] at z1; cases z1
        refine J_iret C D (by rw [show qs_between s b = qs_blank s b by unfold qs_between; rw [if_neg]; rintro (w | w); exact hs2 w; rw [z2] at w; cases w]; exact ⟨rfl, hp2⟩) (by omega) (by omega) dX6_takeBetweenTerms_34
  refine J_iload_n C rfl dX6_takeBetweenTerms_0 ?_
  refine J_bipush C (v := nI 43) (by decide) dX6_takeBetweenTerms_1 ?_
  refine J_nicmp_eq C (by first | omega | (dsimp only; omega)) (by first | omega | (dsimp only; omega)) 12 (by decide) dX6_takeBetweenTerms_3 (fun z1 => ?_) (fun z1 => ?_)
  · refine J_iconst C (v := nI 1) (by decide) dX6_takeBetweenTerms_12 ?_
    refine J_goto C 17 (by decide) dX6_takeBetweenTerms_13 ?_
    exact K17 true ⟨fun _ => Or.inl z1, fun _ => rfl⟩
  · refine J_iload_n C rfl dX6_takeBetweenTerms_6 ?_
    refine J_bipush C (v := nI 45) (by decide) dX6_takeBetweenTerms_7 ?_
    refine J_nicmp_ne C (by first | omega | (dsimp only; omega)) (by first | omega | (dsimp only; omega)) 16 (by decide) dX6_takeBetweenTerms_9 (fun z2 => ?_) (fun z2 => ?_)
    · refine J_iconst C (v := nI 0) (by decide) dX6_takeBetweenTerms_16 ?_
      exact K17 false ⟨fun w => absurd w (by decide), fun w => by omega⟩
    · refine J_iconst C (v := nI 1) (by decide) dX6_takeBetweenTerms_12 ?_
      refine J_goto C 17 (by decide) dX6_takeBetweenTerms_13 ?_
      exact K17 true ⟨fun _ => Or.inr z2, fun _ => rfl⟩
set_option maxHeartbeats 400000 in
theorem c_Query_take (Y : qy h a ta tt cur fk fp s) (U : s.2.1 ≠ 0 → qy_cur tt cur s) (hb : b < 256) : Cn l yX6_take cX6_take 2 (some .int) 5 0 0 [.ref a, .int (nI b)] h (qy_post h a ta tt fk fp (qs_take s b)) := by
  have Y0 := Y
  obtain ⟨y1, y2, y4, y5, y6, y7, y8, y9⟩ := Y
  refine Cn.of (own := RX6) rfl (by decide) (by exact Nat.le_of_ble_eq_true rfl) (by decide) (fun K hK C D I => ?_)
  first | refine J_aload_n C rfl dX6_take_0 ?_ | refine J_aload_nq C rfl dX6_take_0 ?_ | refine J_aload_nN C rfl dX6_take_0 ?_
  refine J_get C fl_X6_32 (by first | assumption | exact jv_up_at _ _ _ | (simp [jv_up, *]; done)) (by rfl) dX6_take_1 ?_
  have ht : (nI s.2.1).toInt = (s.2.1 : Int) := nI_toInt (by omega)
  rcases (show s.2.1 = 0 ∨ s.2.1 = 1 ∨ s.2.1 = 2 ∨ s.2.1 = 3 ∨ s.2.1 = 4 ∨ s.2.1 = 5 by omega) with e | e | e | e | e | e
  · refine J_tableIn C (off := 36) 40 (by rw [ht]; omega) (by rw [ht]; omega) (by rw [ht, e]; rfl) (by decide) dX6_take_4 ?_
    first | refine J_aload_n C rfl dX6_take_40 ?_ | refine J_aload_nq C rfl dX6_take_40 ?_ | refine J_aload_nN C rfl dX6_take_40 ?_
    refine J_iload_n C rfl dX6_take_41 ?_
    refine J_callV C (c_Query_takeBetweenTerms Y0 hb) cw_X6_52 (by first | assumption | exact jv_up_at _ _ _ | (simp [jv_up, *]; done)) rfl rfl rfl rfl (by exact Nat.le_of_ble_eq_true rfl) (by decide) (by omega) (by omega) dX6_take_42 ?_
    intro r h1 hp
    obtain ⟨rfl, hp2⟩ := hp
    refine J_iret C D (by rw [show qs_take s b = qs_between s b by unfold qs_take; rw [if_pos e]]; exact ⟨rfl, hp2⟩) (by omega) (by omega) dX6_take_45
  · refine J_tableIn C (off := 42) 46 (by rw [ht]; omega) (by rw [ht]; omega) (by rw [ht, e]; rfl) (by decide) dX6_take_4 ?_
    first | refine J_aload_n C rfl dX6_take_46 ?_ | refine J_aload_nq C rfl dX6_take_46 ?_ | refine J_aload_nN C rfl dX6_take_46 ?_
    refine J_iload_n C rfl dX6_take_47 ?_
    refine J_callV C (c_Query_takeLetter Y0 (U (by omega)) hb) cw_X6_55 (by first | assumption | exact jv_up_at _ _ _ | (simp [jv_up, *]; done)) rfl rfl rfl rfl (by exact Nat.le_of_ble_eq_true rfl) (by decide) (by omega) (by omega) dX6_take_48 ?_
    intro r h1 hp
    obtain ⟨rfl, hp2⟩ := hp
    refine J_iret C D (by rw [show qs_take s b = qs_let s b by unfold qs_take; rw [if_neg (by omega), if_pos e]]; exact ⟨rfl, hp2⟩) (by omega) (by omega) dX6_take_51
  · refine J_tableIn C (off := 48) 52 (by rw [ht]; omega) (by rw [ht]; omega) (by rw [ht, e]; rfl) (by decide) dX6_take_4 ?_
    first | refine J_aload_n C rfl dX6_take_52 ?_ | refine J_aload_nq C rfl dX6_take_52 ?_ | refine J_aload_nN C rfl dX6_take_52 ?_
    refine J_iload_n C rfl dX6_take_53 ?_
    refine J_callV C (c_Query_takeBehindLetter Y0 (U (by omega)) hb) cw_X6_58 (by first | assumption | exact jv_up_at _ _ _ | (simp [jv_up, *]; done)) rfl rfl rfl rfl (by exact Nat.le_of_ble_eq_true rfl) (by decide) (by omega) (by omega) dX6_take_54 ?_
    intro r h1 hp
    obtain ⟨rfl, hp2⟩ := hp
    refine J_iret C D (by rw [show qs_take s b = qs_behind s b by unfold qs_take; rw [if_neg (by omega), if_neg (by omega), if_pos e]]; exact ⟨rfl, hp2⟩) (by omega) (by omega) dX6_take_57
  · refine J_tableIn C (off := 54) 58 (by rw [ht]; omega) (by rw [ht]; omega) (by rw [ht, e]; rfl) (by decide) dX6_take_4 ?_
    first | refine J_aload_n C rfl dX6_take_58 ?_ | refine J_aload_nq C rfl dX6_take_58 ?_ | refine J_aload_nN C rfl dX6_take_58 ?_
    refine J_iload_n C rfl dX6_take_59 ?_
    refine J_callV C (c_Query_takeBehindStar Y0 (U (by omega)) hb) cw_X6_61 (by first | assumption | exact jv_up_at _ _ _ | (simp [jv_up, *]; done)) rfl rfl rfl rfl (by exact Nat.le_of_ble_eq_true rfl) (by decide) (by omega) (by omega) dX6_take_60 ?_
    intro r h1 hp
    obtain ⟨rfl, hp2⟩ := hp
    refine J_iret C D (by rw [show qs_take s b = qs_star s b by unfold qs_take; rw [if_neg (by omega), if_neg (by omega), if_neg (by omega), if_pos e]]; exact ⟨rfl, hp2⟩) (by omega) (by omega) dX6_take_63
  · refine J_tableIn C (off := 60) 64 (by rw [ht]; omega) (by rw [ht]; omega) (by rw [ht, e]; rfl) (by decide) dX6_take_4 ?_
    first | refine J_aload_n C rfl dX6_take_64 ?_ | refine J_aload_nq C rfl dX6_take_64 ?_ | refine J_aload_nN C rfl dX6_take_64 ?_
    refine J_iload_n C rfl dX6_take_65 ?_
    refine J_callV C (c_Query_takeFigure Y0 (U (by omega)) hb) cw_X6_64 (by first | assumption | exact jv_up_at _ _ _ | (simp [jv_up, *]; done)) rfl rfl rfl rfl (by exact Nat.le_of_ble_eq_true rfl) (by decide) (by omega) (by omega) dX6_take_66 ?_
    intro r h1 hp
    obtain ⟨rfl, hp2⟩ := hp
    refine J_iret C D (by rw [show qs_take s b = qs_fig s b by unfold qs_take; rw [if_neg (by omega), if_neg (by omega), if_neg (by omega), if_neg (by omega), if_pos e]]; exact ⟨rfl, hp2⟩) (by omega) (by omega) dX6_take_69
  · refine J_tableOut C 70 (Or.inr (by rw [ht]; omega)) (by decide) dX6_take_4 ?_
    first | refine J_aload_n C rfl dX6_take_70 ?_ | refine J_aload_nq C rfl dX6_take_70 ?_ | refine J_aload_nN C rfl dX6_take_70 ?_
    refine J_iload_n C rfl dX6_take_71 ?_
    refine J_callV C (c_Query_takeBlank Y0 hb) cw_X6_67 (by first | assumption | exact jv_up_at _ _ _ | (simp [jv_up, *]; done)) rfl rfl rfl rfl (by exact Nat.le_of_ble_eq_true rfl) (by decide) (by omega) (by omega) dX6_take_72 ?_
    intro r h1 hp
    obtain ⟨rfl, hp2⟩ := hp
    refine J_iret C D (by rw [show qs_take s b = qs_blank s b by unfold qs_take; rw [if_neg (by omega), if_neg (by omega), if_neg (by omega), if_neg (by omega), if_neg (by omega)]]; exact ⟨rfl, hp2⟩) (by omega) (by omega) dX6_take_75
set_option maxHeartbeats 400000 in
theorem c_Query_note (Y : qy h a ta tt cur fk fp s) (k p : Nat) (hk : k ≤ 3) (hp : p ≤ 400) : Cn l yX6_note cX6_note 3 none 1 0 0 [.ref a, .int (nI k), .int (nI p)] h (fun r h1 => r = none ∧ h1 = if k = 0 then h else jv_up h a (qyO ta s.1 cur s.2.1 k (nI p))) := by
  have Y0 := Y
  obtain ⟨y1, -⟩ := Y
  refine Cn.of (own := RX6) rfl (by decide) (by exact Nat.le_of_ble_eq_true rfl) (by decide) (fun K hK C D I => ?_)
  refine J_iload_n C rfl dX6_note_0 ?_
  refine J_nif_eq C (by first | omega | (dsimp only; omega)) 14 (by decide) dX6_note_1 (fun z1 => ?_) (fun z1 => ?_)
  · refine J_vret C D ⟨rfl, by rw [if_pos z1]⟩ (by omega) (by omega) dX6_note_14
  · first | refine J_aload_n C rfl dX6_note_4 ?_ | refine J_aload_nq C rfl dX6_note_4 ?_ | refine J_aload_nN C rfl dX6_note_4 ?_
    refine J_iload_n C rfl dX6_note_5 ?_
    refine J_put C fl_X6_22 (by first | assumption | exact jv_up_at _ _ _ | (simp [jv_up, *]; done)) (by exact Nat.le_of_ble_eq_true rfl) (by rfl) (by rfl) dX6_note_6 ?_
    first | refine J_aload_n C rfl dX6_note_9 ?_ | refine J_aload_nq C rfl dX6_note_9 ?_ | refine J_aload_nN C rfl dX6_note_9 ?_
    refine J_iload_n C rfl dX6_note_10 ?_
    refine J_put C fl_X6_26 (by first | assumption | exact jv_up_at _ _ _ | (simp [jv_up, *]; done)) (by exact Nat.le_of_ble_eq_true rfl) (by rfl) (by rfl) dX6_note_11 ?_
    refine J_vret C D ⟨rfl, by rw [if_neg (by omega), jv_up_up]; rfl⟩ (by omega) (by omega) dX6_note_14
end QY2
