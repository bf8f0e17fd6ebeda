/-! Term: needed, unwanted, open, letters, how many, weight -/
abbrev tmT : Type := Bool × Bool × Bool × Int64 × Nat × Nat
abbrev tm (v : tmT) : jE := .inr (8, [.int (jv_b v.1), .int (jv_b v.2.1), .int (jv_b v.2.2.1), .long v.2.2.2.1, .int (nI v.2.2.2.2.1), .int (nI v.2.2.2.2.2)])
abbrev tm0 : tmT := (false, false, false, lN 0, 0, 1)
set_option maxHeartbeats 4000000 in
theorem c_Term_init (l : jL) (h : jH) (a : Nat) : Cn l yX9_init cX9_init 1 none 1 0 0 [.ref a] h (fun r h1 => r = none ∧ h1 = h) := by
  refine Cn.of (own := RX9) rfl (by decide) (by exact Nat.le_of_ble_eq_true rfl) (by decide) (fun K hK C D I => ?_)
  first | refine J_aload_n C rfl dX9_init_0 ?_ | refine J_aload_nq C rfl dX9_init_0 ?_ | refine J_aload_nN C rfl dX9_init_0 ?_
  refine J_objInit C ml_X9_3 oi_inst oi_code (by decide) (by exact Nat.le_of_ble_eq_true rfl) dX9_init_1 ?_
  refine J_vret C D ⟨rfl, rfl⟩ (by omega) (by omega) dX9_init_4
set_option maxHeartbeats 4000000 in
theorem c_Term_begin (l : jL) (h : jH) (a : Nat) (v : tmT) (T1 : h a = some (tm v)) : Cn l yX9_begin cX9_begin 1 none 1 0 0 [.ref a] h (fun r h1 => r = none ∧ h1 = jv_up h a (tm tm0)) := by
  refine Cn.of (own := RX9) rfl (by decide) (by exact Nat.le_of_ble_eq_true rfl) (by decide) (fun K hK C D I => ?_)
  first | refine J_aload_n C rfl dX9_begin_0 ?_ | refine J_aload_nq C rfl dX9_begin_0 ?_ | refine J_aload_nN C rfl dX9_begin_0 ?_
  refine J_iconst C (v := nI 0) (by decide) dX9_begin_1 ?_
  refine J_put C fl_X9_9 (by first | assumption | exact jv_up_at _ _ _ | (simp [jv_up, *]; done)) (by exact Nat.le_of_ble_eq_true rfl) (by rfl) (by rfl) dX9_begin_2 ?_
  first | refine J_aload_n C rfl dX9_begin_5 ?_ | refine J_aload_nq C rfl dX9_begin_5 ?_ | refine J_aload_nN C rfl dX9_begin_5 ?_
  refine J_iconst C (v := nI 0) (by decide) dX9_begin_6 ?_
  refine J_put C fl_X9_15 (by first | assumption | exact jv_up_at _ _ _ | (simp [jv_up, *]; done)) (by exact Nat.le_of_ble_eq_true rfl) (by rfl) (by rfl) dX9_begin_7 ?_
  first | refine J_aload_n C rfl dX9_begin_10 ?_ | refine J_aload_nq C rfl dX9_begin_10 ?_ | refine J_aload_nN C rfl dX9_begin_10 ?_
  refine J_iconst C (v := nI 0) (by decide) dX9_begin_11 ?_
  refine J_put C fl_X9_18 (by first | assumption | exact jv_up_at _ _ _ | (simp [jv_up, *]; done)) (by exact Nat.le_of_ble_eq_true rfl) (by rfl) (by rfl) dX9_begin_12 ?_
  first | refine J_aload_n C rfl dX9_begin_15 ?_ | refine J_aload_nq C rfl dX9_begin_15 ?_ | refine J_aload_nN C rfl dX9_begin_15 ?_
  refine J_lconst C (v := lN 0) (by decide) dX9_begin_16 ?_
  refine J_put C fl_X9_21 (by first | assumption | exact jv_up_at _ _ _ | (simp [jv_up, *]; done)) (by exact Nat.le_of_ble_eq_true rfl) (by rfl) (by rfl) dX9_begin_17 ?_
  first | refine J_aload_n C rfl dX9_begin_20 ?_ | refine J_aload_nq C rfl dX9_begin_20 ?_ | refine J_aload_nN C rfl dX9_begin_20 ?_
  refine J_iconst C (v := nI 0) (by decide) dX9_begin_21 ?_
  refine J_put C fl_X9_25 (by first | assumption | exact jv_up_at _ _ _ | (simp [jv_up, *]; done)) (by exact Nat.le_of_ble_eq_true rfl) (by rfl) (by rfl) dX9_begin_22 ?_
  first | refine J_aload_n C rfl dX9_begin_25 ?_ | refine J_aload_nq C rfl dX9_begin_25 ?_ | refine J_aload_nN C rfl dX9_begin_25 ?_
  refine J_iconst C (v := nI 1) (by decide) dX9_begin_26 ?_
  refine J_put C fl_X9_29 (by first | assumption | exact jv_up_at _ _ _ | (simp [jv_up, *]; done)) (by exact Nat.le_of_ble_eq_true rfl) (by rfl) (by rfl) dX9_begin_27 ?_
  refine J_vret C D ⟨rfl, by simp only [jv_up_up]; rfl⟩ (by omega) (by omega) dX9_begin_30
set_option maxHeartbeats 4000000 in
theorem c_Term_append (l : jL) (h : jH) (a : Nat) (nd uw op : Bool) (L : Int64) (n wt : Nat) (hn : n ≤ 12) (T1 : h a = some (tm (nd, uw, op, L, n, wt))) (c : Nat) (hc : c < 32) : Cn l yX9_append cX9_append 2 (some .boolean) 2 0 0 [.ref a, .int (nI c)] h (fun r h1 => (12 ≤ n ∧ r = some (.int (jv_b false)) ∧ h1 = h) ∨ (n < 12 ∧ r = some (.int (jv_b true)) ∧ h1 = jv_up h a (tm (nd, uw, op, sp_with L n c, n + 1, wt)))) := by
  refine Cn.of (own := RX9) rfl (by decide) (by exact Nat.le_of_ble_eq_true rfl) (by decide) (fun K hK C D I => ?_)
  first | refine J_aload_n C rfl dX9_append_0 ?_ | refine J_aload_nq C rfl dX9_append_0 ?_ | refine J_aload_nN C rfl dX9_append_0 ?_
  refine J_get C fl_X9_25 (by first | assumption | exact jv_up_at _ _ _ | (simp [jv_up, *]; done)) (by rfl) dX9_append_1 ?_
  refine J_bipush C (v := nI 12) (by decide) dX9_append_4 ?_
  refine J_nicmp_lt C (by first | omega | (dsimp only; omega)) (by first | omega | (dsimp only; omega)) 11 (by decide) dX9_append_6 (fun z1 => ?_) (fun z1 => ?_)
  · first | refine J_aload_n C rfl dX9_append_11 ?_ | refine J_aload_nq C rfl dX9_append_11 ?_ | refine J_aload_nN C rfl dX9_append_11 ?_
    first | refine J_aload_n C rfl dX9_append_12 ?_ | refine J_aload_nq C rfl dX9_append_12 ?_ | refine J_aload_nN C rfl dX9_append_12 ?_
    refine J_get C fl_X9_21 (by first | assumption | exact jv_up_at _ _ _ | (simp [jv_up, *]; done)) (by rfl) dX9_append_13 ?_
    first | refine J_aload_n C rfl dX9_append_16 ?_ | refine J_aload_nq C rfl dX9_append_16 ?_ | refine J_aload_nN C rfl dX9_append_16 ?_
    refine J_get C fl_X9_25 (by first | assumption | exact jv_up_at _ _ _ | (simp [jv_up, *]; done)) (by rfl) dX9_append_17 ?_
    refine J_iload_n C rfl dX9_append_20 ?_
    refine J_callS C (c_with _ _ L n c z1 hc) cw_X9_32 rfl rfl (by exact Nat.le_of_ble_eq_true rfl) (by decide) (by omega) (by omega) dX9_append_21 ?_
    rintro _ _ ⟨rfl, rfl⟩
    refine J_put C fl_X9_21 (by first | assumption | exact jv_up_at _ _ _ | (simp [jv_up, *]; done)) (by exact Nat.le_of_ble_eq_true rfl) (by rfl) (by rfl) dX9_append_24 ?_
    first | refine J_aload_n C rfl dX9_append_27 ?_ | refine J_aload_nq C rfl dX9_append_27 ?_ | refine J_aload_nN C rfl dX9_append_27 ?_
    refine J_dup C rfl dX9_append_28 ?_
    refine J_get C fl_X9_25 (by first | assumption | exact jv_up_at _ _ _ | (simp [jv_up, *]; done)) (by rfl) dX9_append_29 ?_
    refine J_iconst C (v := nI 1) (by decide) dX9_append_32 ?_
    first | refine J_niadd C dX9_append_33 ?_ | refine J_iadd C dX9_append_33 ?_
    refine J_put C fl_X9_25 (by first | assumption | exact jv_up_at _ _ _ | (simp [jv_up, *]; done)) (by exact Nat.le_of_ble_eq_true rfl) (by rfl) (by rfl) dX9_append_34 ?_
    refine J_iconst C (v := nI 1) (by decide) dX9_append_37 ?_
    refine J_zret C D (Or.inr rfl) (Or.inr ⟨z1, rfl, by simp only [jv_up_up]; rfl⟩) (by omega) (by omega) dX9_append_38
  · refine J_iconst C (v := nI 0) (by decide) dX9_append_9 ?_
    refine J_zret C D (Or.inl rfl) (Or.inl ⟨z1, rfl, rfl⟩) (by omega) (by omega) dX9_append_10
set_option maxHeartbeats 4000000 in
theorem c_Term_last (l : jL) (h : jH) (a : Nat) (v : tmT) (hn : v.2.2.2.2.1 ≤ 12) (T1 : h a = some (tm v)) : Cn l yX9_lastLetters cX9_lastLetters 1 (some .long) 2 0 0 [.ref a] h (fun r h1 => r = some (.long (if v.2.2.1 then sp_last v.2.2.2.1 v.2.2.2.2.1 else v.2.2.2.1)) ∧ h1 = h) := by
  refine Cn.of (own := RX9) rfl (by decide) (by exact Nat.le_of_ble_eq_true rfl) (by decide) (fun K hK C D I => ?_)
  first | refine J_aload_n C rfl dX9_lastLetters_0 ?_ | refine J_aload_nq C rfl dX9_lastLetters_0 ?_ | refine J_aload_nN C rfl dX9_lastLetters_0 ?_
  refine J_get C fl_X9_18 (by first | assumption | exact jv_up_at _ _ _ | (simp [jv_up, *]; done)) (by rfl) dX9_lastLetters_1 ?_
  refine J_bif_eq C 21 (by decide) dX9_lastLetters_4 (fun z1 => ?_) (fun z1 => ?_)
  · first | refine J_aload_n C rfl dX9_lastLetters_21 ?_ | refine J_aload_nq C rfl dX9_lastLetters_21 ?_ | refine J_aload_nN C rfl dX9_lastLetters_21 ?_
    refine J_get C fl_X9_21 (by first | assumption | exact jv_up_at _ _ _ | (simp [jv_up, *]; done)) (by rfl) dX9_lastLetters_22 ?_
    refine J_lret C D ⟨by rw [z1]; rfl, rfl⟩ (by omega) (by omega) dX9_lastLetters_25
  · first | refine J_aload_n C rfl dX9_lastLetters_7 ?_ | refine J_aload_nq C rfl dX9_lastLetters_7 ?_ | refine J_aload_nN C rfl dX9_lastLetters_7 ?_
    refine J_get C fl_X9_21 (by first | assumption | exact jv_up_at _ _ _ | (simp [jv_up, *]; done)) (by rfl) dX9_lastLetters_8 ?_
    first | refine J_aload_n C rfl dX9_lastLetters_11 ?_ | refine J_aload_nq C rfl dX9_lastLetters_11 ?_ | refine J_aload_nN C rfl dX9_lastLetters_11 ?_
    refine J_get C fl_X9_25 (by first | assumption | exact jv_up_at _ _ _ | (simp [jv_up, *]; done)) (by rfl) dX9_lastLetters_12 ?_
    refine J_callS C (c_lastWithBeginning _ _ v.2.2.2.1 v.2.2.2.2.1 hn) cw_X9_38 rfl rfl (by exact Nat.le_of_ble_eq_true rfl) (by decide) (by omega) (by omega) dX9_lastLetters_15 ?_
    rintro _ _ ⟨rfl, rfl⟩
    refine J_goto C 25 (by decide) dX9_lastLetters_18 ?_
    refine J_lret C D ⟨by rw [z1]; rfl, rfl⟩ (by omega) (by omega) dX9_lastLetters_25
