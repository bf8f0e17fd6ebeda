/-! Math.min, Math.max; Best: the k best hits in order, as a list -/
abbrev hiT : Type := Nat × Int32
/-- x goes before y -/
def hi_bt (x y : hiT) : Bool := decide (y.2 < x.2) || (decide (x.2 = y.2) && decide (x.1 < y.1))
abbrev bsO (an ap limit c : Nat) : jE := .inr (0, [.ref an, .ref ap, .int (nI limit), .int (nI c)])
/-- the cells of a Best with rows fN, fP -/
def bsF (h : jH) (a an ap limit c : Nat) (fN fP : Nat → Int32) : Prop := h a = some (bsO an ap limit c) ∧ h an = some (.inl (0, 50, .inl fN)) ∧ h ap = some (.inl (0, 50, .inl fP)) ∧ an ≠ ap ∧ c ≤ limit ∧ limit ≤ 50
def bs (h : jH) (a an ap limit : Nat) (L : List hiT) : Prop := ∃ fN fP, bsF h a an ap limit L.length fN fP ∧ ∀ i x, L[i]? = some x → fN i = nI x.1 ∧ fP i = x.2 ∧ x.1 < 10000
def bs_S (a an ap : Nat) : Nat → Prop := fun x => x = a ∨ x = an ∨ x = ap
section BEST
variable {l : jL} {h : jH} {a an ap limit c : Nat} {fN fP : Nat → Int32}
set_option maxHeartbeats 400000 in
theorem c_Best_init (hh : h a = some (.inr (0, [.null, .null, .int 0, .int 0]))) : Cn l yX0_init cX0_init 1 none 1 2 100 [.ref a] h (fun r h1 => r = none ∧ (∃ an ap, bs h1 a an ap 0 [] ∧ h an = none ∧ h ap = none) ∧ fr (fn a h) h h1) := by
  refine Cn.of (own := RX0) rfl (by decide) (by exact Nat.le_of_ble_eq_true rfl) (by decide) (fun K hK C D I => ?_)
  first | refine J_aload_n C rfl dX0_init_0 ?_ | refine J_aload_nq C rfl dX0_init_0 ?_ | refine J_aload_nN C rfl dX0_init_0 ?_
  refine J_objInit C ml_X0_3 oi_inst oi_code (by decide) (by exact Nat.le_of_ble_eq_true rfl) dX0_init_1 ?_
  first | refine J_aload_n C rfl dX0_init_4 ?_ | refine J_aload_nq C rfl dX0_init_4 ?_ | refine J_aload_nN C rfl dX0_init_4 ?_
  refine J_bipush C (v := nI 50) (by decide) dX0_init_5 ?_
  refine J_newI C ac_int (N := 50) rfl (by decide) (by decide) (by omega) (by omega) dX0_init_7 (fun an han => ?_)
  have n1 : a ≠ an := fun z => by rw [z, han] at hh; cases hh
  have hh1 := jv_up_of (x := .inl (0, 50, .inl (fun _ => 0))) n1 hh
  refine J_putF C I fl_X0_9 rfl rfl (by first | assumption | exact jv_up_at _ _ _ | (simp [jv_up, *]; done)) (by exact Nat.le_of_ble_eq_true rfl) (by first | rfl | exact jv_nar_a _ _) (by first | rfl | exact jv_fit_a _ _) fw_X0_9 dX0_init_9 ?_
  first | refine J_aload_n C rfl dX0_init_12 ?_ | refine J_aload_nq C rfl dX0_init_12 ?_ | refine J_aload_nN C rfl dX0_init_12 ?_
  refine J_bipush C (v := nI 50) (by decide) dX0_init_13 ?_
  refine J_newI C ac_int (N := 50) rfl (by decide) (by decide) (by omega) (by omega) dX0_init_15 (fun ap hap => ?_)
  have n2 : ap ≠ a := fun z => by rw [z, jv_up_at] at hap; cases hap
  have n3 : ap ≠ an := fun z => by rw [z, jv_up_ne n1.symm, jv_up_at] at hap; cases hap
  have hap0 : h ap = none := by rw [jv_up_ne n2, jv_up_ne n3] at hap; exact hap
  refine J_putF C I fl_X0_15 rfl rfl (by rw [jv_up_ne n2.symm]; exact jv_up_at _ _ _) (by exact Nat.le_of_ble_eq_true rfl) (by first | rfl | exact jv_nar_a _ _) (by first | rfl | exact jv_fit_a _ _) fw_X0_15 dX0_init_17 ?_
  refine J_vret C D ⟨rfl, ⟨an, ap, ⟨fun _ => 0, fun _ => 0, ⟨jv_up_at _ _ _, jv_up_of n1.symm (jv_up_of n3.symm (jv_up_of n1.symm (jv_up_at _ _ _))), jv_up_of n2 (jv_up_at _ _ _), n3.symm, Nat.le_refl _, Nat.zero_le _⟩, fun i x hx => by cases hx⟩, han, hap0⟩, fr_tr (fr_tr (fr_tr (fr_up (Or.inr han)) (fr_up (Or.inl rfl))) (fr_up (Or.inr hap0))) (fr_up (Or.inl rfl))⟩ (by omega) (by omega) dX0_init_20
theorem bsF_ne (B : bsF h a an ap limit c fN fP) : an ≠ a ∧ ap ≠ a := ⟨(jv_neA B.1 B.2.1).symm, (jv_neA B.1 B.2.2.1).symm⟩
set_option maxHeartbeats 400000 in
theorem c_Best_start (L : List hiT) (B : bs h a an ap limit L) (k : Nat) (hk : 1 ≤ k ∧ k ≤ 50) : Cn l yX0_start cX0_start 2 none 2 0 0 [.ref a, .int (nI k)] h (fun r h1 => r = none ∧ bs h1 a an ap k [] ∧ fr (bs_S a an ap) h h1) := by
  obtain ⟨fN, fP, B1, B2⟩ := B
  have n := bsF_ne B1
  obtain ⟨b1, b2, b3, b4, b5, b6⟩ := B1
  refine Cn.of (own := RX0) rfl (by decide) (by exact Nat.le_of_ble_eq_true rfl) (by decide) (fun K hK C D I => ?_)
  first | refine J_aload_n C rfl dX0_start_0 ?_ | refine J_aload_nq C rfl dX0_start_0 ?_ | refine J_aload_nN C rfl dX0_start_0 ?_
  refine J_iconst C (v := nI 0) (by decide) dX0_start_1 ?_
  refine J_iload_n C rfl dX0_start_2 ?_
  refine J_bipush C (v := nI 50) (by decide) dX0_start_3 ?_
  refine J_mmin C cw_X0_18 (by omega) (by decide) (by decide) (by exact Nat.le_of_ble_eq_true rfl) (by omega) (by omega) dX0_start_5 ?_
  refine J_mmax C cw_X0_24 (by decide) (by omega) (by decide) (by exact Nat.le_of_ble_eq_true rfl) (by omega) (by omega) dX0_start_8 ?_
  refine J_put C fl_X0_27 (by first | assumption | exact jv_up_at _ _ _ | (simp [jv_up, *]; done)) (by exact Nat.le_of_ble_eq_true rfl) (by rfl) (by rfl) dX0_start_11 ?_
  first | refine J_aload_n C rfl dX0_start_14 ?_ | refine J_aload_nq C rfl dX0_start_14 ?_ | refine J_aload_nN C rfl dX0_start_14 ?_
  refine J_iconst C (v := nI 0) (by decide) dX0_start_15 ?_
  refine J_put C fl_X0_31 (by first | assumption | exact jv_up_at _ _ _ | (simp [jv_up, *]; done)) (by exact Nat.le_of_ble_eq_true rfl) (by rfl) (by rfl) dX0_start_16 ?_
  rw [jv_up_up, show max 0 (min k 50) = k by omega]
  refine J_vret C D ⟨rfl, ⟨fN, fP, ⟨jv_up_at _ _ _, jv_up_of n.1 b2, jv_up_of n.2 b3, b4, Nat.zero_le _, hk.2⟩, fun i x hx => by cases hx⟩, fr_up (Or.inl rfl)⟩ (by omega) (by omega) dX0_start_19
set_option maxHeartbeats 400000 in
theorem c_Best_has (B : bsF h a an ap limit c fN fP) (x : Int32) : Cn l yX0_has cX0_has 2 (some .boolean) 1 0 0 [.ref a, .int x] h (fun r h1 => r = some (.int (jv_b (decide (0 ≤ x ∧ x < nI c)))) ∧ h1 = h) := by
  obtain ⟨b1, b2, b3, b4, b5, b6⟩ := B
  refine Cn.of (own := RX0) rfl (by decide) (by exact Nat.le_of_ble_eq_true rfl) (by decide) (fun K hK C D I => ?_)
  refine J_iload_n C rfl dX0_has_0 ?_
  refine J_if_lt C 16 (by decide) dX0_has_1 (fun z1 => ?_) (fun z1 => ?_)
  · refine J_iconst C (v := nI 0) (by decide) dX0_has_16 ?_
    refine J_zret C D (Or.inl rfl) ⟨by rw [decide_eq_false (fun w => absurd w.1 (Int32.not_le.mpr z1))]; rfl, rfl⟩ (by omega) (by omega) dX0_has_17
  · refine J_iload_n C rfl dX0_has_4 ?_
    first | refine J_aload_n C rfl dX0_has_5 ?_ | refine J_aload_nq C rfl dX0_has_5 ?_ | refine J_aload_nN C rfl dX0_has_5 ?_
    refine J_get C fl_X0_31 (by first | assumption | exact jv_up_at _ _ _ | (simp [jv_up, *]; done)) (by rfl) dX0_has_6 ?_
    refine J_icmp_ge C 16 (by decide) dX0_has_9 (fun z2 => ?_) (fun z2 => ?_)
    · refine J_iconst C (v := nI 0) (by decide) dX0_has_16 ?_
      refine J_zret C D (Or.inl rfl) ⟨by rw [decide_eq_false (fun w => absurd w.2 (Int32.not_lt.mpr z2))]; rfl, rfl⟩ (by omega) (by omega) dX0_has_17
    · refine J_iconst C (v := nI 1) (by decide) dX0_has_12 ?_
      refine J_goto C 17 (by decide) dX0_has_13 ?_
      refine J_zret C D (Or.inr rfl) ⟨by rw [decide_eq_true ⟨Int32.not_lt.mp z1, Int32.not_le.mp z2⟩]; rfl, rfl⟩ (by omega) (by omega) dX0_has_17
set_option maxHeartbeats 400000 in
theorem c_Best_numberAt (B : bsF h a an ap limit c fN fP) (i : Nat) (hi : i < 50) : Cn l yX0_numberAt cX0_numberAt 2 (some .int) 1 0 0 [.ref a, .int (nI i)] h (fun r h1 => r = some (.int (fN i)) ∧ h1 = h) := by
  obtain ⟨b1, b2, b3, b4, b5, b6⟩ := B
  refine Cn.of (own := RX0) rfl (by decide) (by exact Nat.le_of_ble_eq_true rfl) (by decide) (fun K hK C D I => ?_)
  refine J_iload_n C rfl dX0_numberAt_0 ?_
  refine J_nif_lt C (by omega) 22 dX0_numberAt_1 (by decide) ?_
  refine J_iload_n C rfl dX0_numberAt_4 ?_
  first | refine J_aload_n C rfl dX0_numberAt_5 ?_ | refine J_aload_nq C rfl dX0_numberAt_5 ?_ | refine J_aload_nN C rfl dX0_numberAt_5 ?_
  refine J_get C fl_X0_9 (by first | assumption | exact jv_up_at _ _ _ | (simp [jv_up, *]; done)) (by rfl) dX0_numberAt_6 ?_
  refine J_alen C (by first | assumption | exact jv_up_at _ _ _ | (simp [jv_up, *]; done)) (by decide) dX0_numberAt_9 ?_
  refine J_nicmp_ge C (by first | omega | (dsimp only; omega)) (by first | omega | (dsimp only; omega)) 22 (by decide) dX0_numberAt_10 (fun z1 => ?_) (fun z1 => ?_)
  · exact absurd z1 (Nat.not_le.mpr hi)
  · first | refine J_aload_n C rfl dX0_numberAt_13 ?_ | refine J_aload_nq C rfl dX0_numberAt_13 ?_ | refine J_aload_nN C rfl dX0_numberAt_13 ?_
    refine J_get C fl_X0_9 (by first | assumption | exact jv_up_at _ _ _ | (simp [jv_up, *]; done)) (by rfl) dX0_numberAt_14 ?_
    refine J_iload_n C rfl dX0_numberAt_17 ?_
    refine J_iald C (by first | assumption | exact jv_up_at _ _ _ | (simp [jv_up, *]; done)) rfl hi (by decide) dX0_numberAt_18 ?_
    refine J_goto C 23 (by decide) dX0_numberAt_19 ?_
    refine J_iret C D ⟨rfl, rfl⟩ (by omega) (by omega) dX0_numberAt_23
set_option maxHeartbeats 400000 in
theorem c_Best_pointsAt (B : bsF h a an ap limit c fN fP) (i : Nat) (hi : i < 50) : Cn l yX0_pointsAt cX0_pointsAt 2 (some .int) 1 0 0 [.ref a, .int (nI i)] h (fun r h1 => r = some (.int (fP i)) ∧ h1 = h) := by
  obtain ⟨b1, b2, b3, b4, b5, b6⟩ := B
  refine Cn.of (own := RX0) rfl (by decide) (by exact Nat.le_of_ble_eq_true rfl) (by decide) (fun K hK C D I => ?_)
  refine J_iload_n C rfl dX0_pointsAt_0 ?_
  refine J_nif_lt C (by omega) 22 dX0_pointsAt_1 (by decide) ?_
  refine J_iload_n C rfl dX0_pointsAt_4 ?_
  first | refine J_aload_n C rfl dX0_pointsAt_5 ?_ | refine J_aload_nq C rfl dX0_pointsAt_5 ?_ | refine J_aload_nN C rfl dX0_pointsAt_5 ?_
  refine J_get C fl_X0_15 (by first | assumption | exact jv_up_at _ _ _ | (simp [jv_up, *]; done)) (by rfl) dX0_pointsAt_6 ?_
  refine J_alen C (by first | assumption | exact jv_up_at _ _ _ | (simp [jv_up, *]; done)) (by decide) dX0_pointsAt_9 ?_
  refine J_nicmp_ge C (by first | omega | (dsimp only; omega)) (by first | omega | (dsimp only; omega)) 22 (by decide) dX0_pointsAt_10 (fun z1 => ?_) (fun z1 => ?_)
  · exact absurd z1 (Nat.not_le.mpr hi)
  · first | refine J_aload_n C rfl dX0_pointsAt_13 ?_ | refine J_aload_nq C rfl dX0_pointsAt_13 ?_ | refine J_aload_nN C rfl dX0_pointsAt_13 ?_
    refine J_get C fl_X0_15 (by first | assumption | exact jv_up_at _ _ _ | (simp [jv_up, *]; done)) (by rfl) dX0_pointsAt_14 ?_
    refine J_iload_n C rfl dX0_pointsAt_17 ?_
    refine J_iald C (by first | assumption | exact jv_up_at _ _ _ | (simp [jv_up, *]; done)) rfl hi (by decide) dX0_pointsAt_18 ?_
    refine J_goto C 23 (by decide) dX0_pointsAt_19 ?_
    refine J_iret C D ⟨rfl, rfl⟩ (by omega) (by omega) dX0_pointsAt_23
set_option maxHeartbeats 400000 in
theorem c_Best_goesBefore (B : bsF h a an ap limit c fN fP) (i : Nat) (hi : i < 50) (x y : hiT) (hx : x.1 < 10000) (hy : y.1 < 10000) (h1 : fN i = nI y.1) (h2 : fP i = y.2) : Cn l yX0_goesBefore cX0_goesBefore 5 (some .boolean) 2 0 0 [.ref a, .int (nI i), .int (nI x.1), .int x.2] h (fun r h1 => r = some (.int (jv_b (hi_bt x y))) ∧ h1 = h) := by
  have B0 := B
  obtain ⟨b1, b2, b3, b4, b5, b6⟩ := B
  refine Cn.of (own := RX0) rfl (by decide) (by exact Nat.le_of_ble_eq_true rfl) (by decide) (fun K hK C D I => ?_)
  first | refine J_aload_n C rfl dX0_goesBefore_0 ?_ | refine J_aload_nq C rfl dX0_goesBefore_0 ?_ | refine J_aload_nN C rfl dX0_goesBefore_0 ?_
  refine J_iload_n C rfl dX0_goesBefore_1 ?_
  refine J_callV C (c_Best_pointsAt B0 i hi) cw_X0_42 (by first | assumption | exact jv_up_at _ _ _ | (simp [jv_up, *]; done)) rfl rfl rfl rfl (by exact Nat.le_of_ble_eq_true rfl) (by decide) (by omega) (by omega) dX0_goesBefore_2 ?_
  rintro _ _ ⟨rfl, rfl⟩
  rw [h2]
  refine J_istore C (by decide) dX0_goesBefore_5 ?_
  refine J_iload_n C rfl dX0_goesBefore_7 ?_
  refine J_iload C rfl dX0_goesBefore_8 ?_
  refine J_icmp_gt C 28 (by decide) dX0_goesBefore_10 (fun z1 => ?_) (fun z1 => ?_)
  · refine J_iconst C (v := nI 1) (by decide) dX0_goesBefore_28 ?_
    refine J_goto C 33 (by decide) dX0_goesBefore_29 ?_
    refine J_zret C D (Or.inr rfl) ⟨by rw [show hi_bt x y = true by unfold hi_bt; rw [decide_eq_true z1]; rfl]; rfl, rfl⟩ (by omega) (by omega) dX0_goesBefore_33
  · refine J_iload_n C rfl dX0_goesBefore_13 ?_
    refine J_iload C rfl dX0_goesBefore_14 ?_
    refine J_icmp_ne C 32 (by decide) dX0_goesBefore_16 (fun z2 => ?_) (fun z2 => ?_)
    · refine J_iconst C (v := nI 0) (by decide) dX0_goesBefore_32 ?_
      refine J_zret C D (Or.inl rfl) ⟨by rw [show hi_bt x y = false by unfold hi_bt; rw [decide_eq_false z1, decide_eq_false z2]; rfl]; rfl, rfl⟩ (by omega) (by omega) dX0_goesBefore_33
    · refine J_iload_n C rfl dX0_goesBefore_19 ?_
      first | refine J_aload_n C rfl dX0_goesBefore_20 ?_ | refine J_aload_nq C rfl dX0_goesBefore_20 ?_ | refine J_aload_nN C rfl dX0_goesBefore_20 ?_
      refine J_iload_n C rfl dX0_goesBefore_21 ?_
      refine J_callV C (c_Best_numberAt B0 i hi) cw_X0_38 (by first | assumption | exact jv_up_at _ _ _ | (simp [jv_up, *]; done)) rfl rfl rfl rfl (by exact Nat.le_of_ble_eq_true rfl) (by decide) (by omega) (by omega) dX0_goesBefore_22 ?_
      rintro _ _ ⟨rfl, rfl⟩
      rw [h1]
      refine J_nicmp_ge C (by first | omega | (dsimp only; omega)) (by first | omega | (dsimp only; omega)) 32 (by decide) dX0_goesBefore_25 (fun z3 => ?_) (fun z3 => ?_)
      · refine J_iconst C (v := nI 0) (by decide) dX0_goesBefore_32 ?_
        refine J_zret C D (Or.inl rfl) ⟨by rw [show hi_bt x y = false by unfold hi_bt; rw [decide_eq_false z1, decide_eq_true z2, decide_eq_false (by omega)]; rfl]; rfl, rfl⟩ (by omega) (by omega) dX0_goesBefore_33
      · refine J_iconst C (v := nI 1) (by decide) dX0_goesBefore_28 ?_
        refine J_goto C 33 (by decide) dX0_goesBefore_29 ?_
        refine J_zret C D (Or.inr rfl) ⟨by rw [show hi_bt x y = true by unfold hi_bt; rw [decide_eq_false z1, decide_eq_true z2, decide_eq_true z3]; rfl]; rfl, rfl⟩ (by omega) (by omega) dX0_goesBefore_33
set_option maxHeartbeats 400000 in
theorem c_Best_set (B : bsF h a an ap limit c fN fP) (i : Nat) (hi : i < 50) (u v : Int32) : Cn l yX0_set cX0_set 4 none 1 0 0 [.ref a, .int (nI i), .int u, .int v] h (fun r h1 => r = none ∧ bsF h1 a an ap limit c (upd fN i u) (upd fP i v) ∧ fr (bs_S a an ap) h h1) := by
  have n := bsF_ne B
  obtain ⟨b1, b2, b3, b4, b5, b6⟩ := B
  refine Cn.of (own := RX0) rfl (by decide) (by exact Nat.le_of_ble_eq_true rfl) (by decide) (fun K hK C D I => ?_)
  refine J_iload_n C rfl dX0_set_0 ?_
  refine J_nif_lt C (by omega) 36 dX0_set_1 (by decide) ?_
  refine J_iload_n C rfl dX0_set_4 ?_
  first | refine J_aload_n C rfl dX0_set_5 ?_ | refine J_aload_nq C rfl dX0_set_5 ?_ | refine J_aload_nN C rfl dX0_set_5 ?_
  refine J_get C fl_X0_9 (by first | assumption | exact jv_up_at _ _ _ | (simp [jv_up, *]; done)) (by rfl) dX0_set_6 ?_
  refine J_alen C (by first | assumption | exact jv_up_at _ _ _ | (simp [jv_up, *]; done)) (by decide) dX0_set_9 ?_
  refine J_nicmp_ge C (by first | omega | (dsimp only; omega)) (by first | omega | (dsimp only; omega)) 36 (by decide) dX0_set_10 (fun z1 => ?_) (fun z1 => ?_)
  · exact absurd z1 (Nat.not_le.mpr hi)
  · refine J_iload_n C rfl dX0_set_13 ?_
    first | refine J_aload_n C rfl dX0_set_14 ?_ | refine J_aload_nq C rfl dX0_set_14 ?_ | refine J_aload_nN C rfl dX0_set_14 ?_
    refine J_get C fl_X0_15 (by first | assumption | exact jv_up_at _ _ _ | (simp [jv_up, *]; done)) (by rfl) dX0_set_15 ?_
    refine J_alen C (by first | assumption | exact jv_up_at _ _ _ | (simp [jv_up, *]; done)) (by decide) dX0_set_18 ?_
    refine J_nicmp_ge C (by first | omega | (dsimp only; omega)) (by first | omega | (dsimp only; omega)) 36 (by decide) dX0_set_19 (fun z2 => ?_) (fun z2 => ?_)
    · exact absurd z2 (Nat.not_le.mpr hi)
    · first | refine J_aload_n C rfl dX0_set_22 ?_ | refine J_aload_nq C rfl dX0_set_22 ?_ | refine J_aload_nN C rfl dX0_set_22 ?_
      refine J_get C fl_X0_9 (by first | assumption | exact jv_up_at _ _ _ | (simp [jv_up, *]; done)) (by rfl) dX0_set_23 ?_
      refine J_iload_n C rfl dX0_set_26 ?_
      refine J_iload_n C rfl dX0_set_27 ?_
      refine J_iast C (by first | assumption | exact jv_up_at _ _ _ | (simp [jv_up, *]; done)) rfl hi (by decide) dX0_set_28 ?_
      have b1' := jv_up_of (x := .inl (0, 50, .inl (upd fN i u))) n.1.symm b1
      have b3' := jv_up_of (x := .inl (0, 50, .inl (upd fN i u))) b4.symm b3
      first | refine J_aload_n C rfl dX0_set_29 ?_ | refine J_aload_nq C rfl dX0_set_29 ?_ | refine J_aload_nN C rfl dX0_set_29 ?_
      refine J_get C fl_X0_15 (by first | assumption | exact jv_up_at _ _ _ | (simp [jv_up, *]; done)) (by rfl) dX0_set_30 ?_
      refine J_iload_n C rfl dX0_set_33 ?_
      refine J_iload_n C rfl dX0_set_34 ?_
      refine J_iast C (by first | assumption | exact jv_up_at _ _ _ | (simp [jv_up, *]; done)) rfl hi (by decide) dX0_set_35 ?_
      refine J_vret C D ⟨rfl, ⟨jv_up_of n.2.symm b1', jv_up_of b4 (jv_up_at _ _ _), jv_up_at _ _ _, b4, b5, b6⟩, fr_tr (fr_up (Or.inr (Or.inl rfl))) (fr_up (Or.inr (Or.inr rfl)))⟩ (by omega) (by omega) dX0_set_36
end BEST
