/-! Tape: an object (bytes, length) and its row of 400 bytes -/
def tp_is (h : jH) (t tb n : Nat) (f : Nat → Int32) : Prop := h t = some (.inr (7, [.ref tb, .int (nI n)])) ∧ h tb = some (.inl (1, 400, .inl f)) ∧ n ≤ 400
/-- the bytes, 0 to 255 -/
def sp_B (f : Nat → Int32) (i : Nat) : Nat := (f i).toBitVec.toNat % 256
theorem sp_B_lt (f : Nat → Int32) (i : Nat) : sp_B f i < 256 := Nat.mod_lt _ (by decide)
theorem sp_B_and (f : Nat → Int32) (i : Nat) : f i &&& nI 255 = nI (sp_B f i) := pk_and (f i) 8 (by decide)
set_option maxHeartbeats 4000000 in
theorem c_Tape_init (l : jL) (h : jH) (t : Nat) (hh : h t = some (.inr (7, [.null, .int 0]))) : Cn l yX8_init cX8_init 1 none 1 1 400 [.ref t] h (fun r h1 => r = none ∧ ∃ tb, h tb = none ∧ tb ≠ t ∧ h1 = jv_up (jv_up h tb (.inl (1, 400, .inl (fun _ => 0)))) t (.inr (7, [.ref tb, .int 0]))) := by
  refine Cn.of (own := RX8) rfl (by decide) (by exact Nat.le_of_ble_eq_true rfl) (by decide) (fun K hK C D I => ?_)
  first | refine J_aload_n C rfl dX8_init_0 ?_ | refine J_aload_nq C rfl dX8_init_0 ?_ | refine J_aload_nN C rfl dX8_init_0 ?_
  refine J_objInit C ml_X8_3 oi_inst oi_code (by decide) (by exact Nat.le_of_ble_eq_true rfl) dX8_init_1 ?_
  first | refine J_aload_n C rfl dX8_init_4 ?_ | refine J_aload_nq C rfl dX8_init_4 ?_ | refine J_aload_nN C rfl dX8_init_4 ?_
  refine J_sipush C (v := nI 400) (by decide) dX8_init_5 ?_
  refine J_newB C ac_byte (N := 400) rfl (by decide) (by decide) (by omega) (by omega) dX8_init_8 (fun q hq => ?_)
  have hne : t ≠ q := fun z => by rw [z, hq] at hh; cases hh
  have hh2 := jv_up_of (x := .inl (1, 400, .inl (fun _ => 0))) hne hh
  refine J_putF C I fl_X8_9 rfl rfl (by first | assumption | exact jv_up_at _ _ _ | (simp [jv_up, *]; done)) (by exact Nat.le_of_ble_eq_true rfl) (by first | rfl | exact jv_nar_a _ _) (by first | rfl | exact jv_fit_a _ _) fw_X8_9 dX8_init_10 ?_
  refine J_vret C D ⟨rfl, q, hq, hne.symm, rfl⟩ (by omega) (by omega) dX8_init_13
set_option maxHeartbeats 4000000 in
theorem c_Tape_length (l : jL) (h : jH) (t tb n : Nat) (f : Nat → Int32) (T : tp_is h t tb n f) : Cn l yX8_length cX8_length 1 (some .int) 1 0 0 [.ref t] h (fun r h1 => r = some (.int (nI n)) ∧ h1 = h) := by
  obtain ⟨T1, T2, T3⟩ := T
  refine Cn.of (own := RX8) rfl (by decide) (by exact Nat.le_of_ble_eq_true rfl) (by decide) (fun K hK C D I => ?_)
  first | refine J_aload_n C rfl dX8_length_0 ?_ | refine J_aload_nq C rfl dX8_length_0 ?_ | refine J_aload_nN C rfl dX8_length_0 ?_
  refine J_get C fl_X8_15 (by first | assumption | exact jv_up_at _ _ _ | (simp [jv_up, *]; done)) (by rfl) dX8_length_1 ?_
  refine J_iret C D ⟨rfl, rfl⟩ (by omega) (by omega) dX8_length_4
set_option maxHeartbeats 4000000 in
theorem c_Tape_empty (l : jL) (h : jH) (t tb n : Nat) (f : Nat → Int32) (T : tp_is h t tb n f) : Cn l yX8_empty cX8_empty 1 none 1 0 0 [.ref t] h (fun r h1 => r = none ∧ h1 = jv_up h t (.inr (7, [.ref tb, .int (nI 0)]))) := by
  obtain ⟨T1, T2, T3⟩ := T
  refine Cn.of (own := RX8) rfl (by decide) (by exact Nat.le_of_ble_eq_true rfl) (by decide) (fun K hK C D I => ?_)
  first | refine J_aload_n C rfl dX8_empty_0 ?_ | refine J_aload_nq C rfl dX8_empty_0 ?_ | refine J_aload_nN C rfl dX8_empty_0 ?_
  refine J_iconst C (v := nI 0) (by decide) dX8_empty_1 ?_
  refine J_put C fl_X8_15 (by first | assumption | exact jv_up_at _ _ _ | (simp [jv_up, *]; done)) (by exact Nat.le_of_ble_eq_true rfl) (by rfl) (by rfl) dX8_empty_2 ?_
  refine J_vret C D ⟨rfl, rfl⟩ (by omega) (by omega) dX8_empty_5
def sp_byte (v : Int64) (i : Nat) : Int32 := (v >>> ((nI (8 * i)).toInt64 &&& 63)).toInt32.toInt8.toInt32
def sp_app (f : Nat → Int32) (n : Nat) (v : Int64) : Nat → Nat → Int32
  | 0 => f
  | i + 1 => upd (sp_app f n v i) (n + i) (vp_nar .byte (sp_byte v i))
set_option maxHeartbeats 4000000 in
theorem c_Tape_add (l : jL) (h : jH) (t tb n : Nat) (f : Nat → Int32) (T : tp_is h t tb n f) (hne : t ≠ tb) (hn : n < 400) (x : Int32) : Cn l yX8_add cX8_add 2 none 1 0 0 [.ref t, .int x] h (fun r h1 => r = none ∧ h1 = jv_up (jv_up h tb (.inl (1, 400, .inl (upd f n (vp_nar .byte x))))) t (.inr (7, [.ref tb, .int (nI (n + 1))]))) := by
  obtain ⟨T1, T2, T3⟩ := T
  refine Cn.of (own := RX8) rfl (by decide) (by exact Nat.le_of_ble_eq_true rfl) (by decide) (fun K hK C D I => ?_)
  have T1' := jv_up_of (x := .inl (1, 400, .inl (upd f n (vp_nar .byte x)))) hne T1
  first | refine J_aload_n C rfl dX8_add_0 ?_ | refine J_aload_nq C rfl dX8_add_0 ?_ | refine J_aload_nN C rfl dX8_add_0 ?_
  refine J_get C fl_X8_15 (by first | assumption | exact jv_up_at _ _ _ | (simp [jv_up, *]; done)) (by rfl) dX8_add_1 ?_
  refine J_nif_lt C (by omega) 39 dX8_add_4 (by decide) ?_
  first | refine J_aload_n C rfl dX8_add_7 ?_ | refine J_aload_nq C rfl dX8_add_7 ?_ | refine J_aload_nN C rfl dX8_add_7 ?_
  refine J_get C fl_X8_15 (by first | assumption | exact jv_up_at _ _ _ | (simp [jv_up, *]; done)) (by rfl) dX8_add_8 ?_
  first | refine J_aload_n C rfl dX8_add_11 ?_ | refine J_aload_nq C rfl dX8_add_11 ?_ | refine J_aload_nN C rfl dX8_add_11 ?_
  refine J_get C fl_X8_9 (by first | assumption | exact jv_up_at _ _ _ | (simp [jv_up, *]; done)) (by rfl) dX8_add_12 ?_
  refine J_alen C (by first | assumption | exact jv_up_at _ _ _ | (simp [jv_up, *]; done)) (by decide) dX8_add_15 ?_
  refine J_nicmp_ge C (by first | omega | (dsimp only; omega)) (by first | omega | (dsimp only; omega)) 39 (by decide) dX8_add_16 (fun z1 => ?_) (fun z1 => ?_)
  · omega
  · first | refine J_aload_n C rfl dX8_add_19 ?_ | refine J_aload_nq C rfl dX8_add_19 ?_ | refine J_aload_nN C rfl dX8_add_19 ?_
    refine J_get C fl_X8_9 (by first | assumption | exact jv_up_at _ _ _ | (simp [jv_up, *]; done)) (by rfl) dX8_add_20 ?_
    first | refine J_aload_n C rfl dX8_add_23 ?_ | refine J_aload_nq C rfl dX8_add_23 ?_ | refine J_aload_nN C rfl dX8_add_23 ?_
    refine J_get C fl_X8_15 (by first | assumption | exact jv_up_at _ _ _ | (simp [jv_up, *]; done)) (by rfl) dX8_add_24 ?_
    refine J_iload_n C rfl dX8_add_27 ?_
    refine J_bast C (by first | assumption | exact jv_up_at _ _ _ | (simp [jv_up, *]; done)) (j := n) rfl (by omega) (by decide) dX8_add_28 ?_
    first | refine J_aload_n C rfl dX8_add_29 ?_ | refine J_aload_nq C rfl dX8_add_29 ?_ | refine J_aload_nN C rfl dX8_add_29 ?_
    refine J_dup C rfl dX8_add_30 ?_
    refine J_get C fl_X8_15 (by first | assumption | exact jv_up_at _ _ _ | (simp [jv_up, *]; done)) (by rfl) dX8_add_31 ?_
    refine J_iconst C (v := nI 1) (by decide) dX8_add_34 ?_
    first | refine J_niadd C dX8_add_35 ?_ | refine J_iadd C dX8_add_35 ?_
    refine J_put C fl_X8_15 (by first | assumption | exact jv_up_at _ _ _ | (simp [jv_up, *]; done)) (by exact Nat.le_of_ble_eq_true rfl) (by rfl) (by rfl) dX8_add_36 ?_
    refine J_vret C D ⟨rfl, rfl⟩ (by omega) (by omega) dX8_add_39
set_option maxHeartbeats 4000000 in
theorem c_Tape_append (l : jL) (h : jH) (t tb n : Nat) (f : Nat → Int32) (T : tp_is h t tb n f) (hne : t ≠ tb) (k : Nat) (v : Int64) (hk : 1 ≤ k ∧ k ≤ 8) : Cn l yX8_append cX8_append 5 (some .boolean) 2 0 0 [.ref t, .int (nI k), .long v] h (fun r h1 => (400 < n + k ∧ r = some (.int (jv_b false)) ∧ h1 = h) ∨ (n + k ≤ 400 ∧ r = some (.int (jv_b true)) ∧ h1 = jv_up (jv_up h tb (.inl (1, 400, .inl (sp_app f n v k)))) t (.inr (7, [.ref tb, .int (nI (n + k))])))) := by
  obtain ⟨T1, T2, T3⟩ := T
  refine Cn.of (own := RX8) rfl (by decide) (by exact Nat.le_of_ble_eq_true rfl) (by decide) (fun K hK C D I => ?_)
  refine J_iload_n C rfl dX8_append_0 ?_
  first | refine J_aload_n C rfl dX8_append_1 ?_ | refine J_aload_nq C rfl dX8_append_1 ?_ | refine J_aload_nN C rfl dX8_append_1 ?_
  refine J_get C fl_X8_9 (by first | assumption | exact jv_up_at _ _ _ | (simp [jv_up, *]; done)) (by rfl) dX8_append_2 ?_
  refine J_alen C (by first | assumption | exact jv_up_at _ _ _ | (simp [jv_up, *]; done)) (by decide) dX8_append_5 ?_
  first | refine J_aload_n C rfl dX8_append_6 ?_ | refine J_aload_nq C rfl dX8_append_6 ?_ | refine J_aload_nN C rfl dX8_append_6 ?_
  refine J_get C fl_X8_15 (by first | assumption | exact jv_up_at _ _ _ | (simp [jv_up, *]; done)) (by rfl) dX8_append_7 ?_
  first | refine J_nisub C (by omega) dX8_append_10 ?_ | refine J_isub C dX8_append_10 ?_
  refine J_nicmp_le C (by first | omega | (dsimp only; omega)) (by first | omega | (dsimp only; omega)) 16 (by decide) dX8_append_11 (fun z1 => ?_) (fun z1 => ?_)
  · have loop : ∀ m i : Nat, i + m = k → J K 0 0 19 (jv_l [(0, .ref t), (1, .int (nI k)), (2, .long v), (4, .int (nI i))]) [] (jv_up (jv_up h tb (.inl (1, 400, .inl (sp_app f n v i)))) t (.inr (7, [.ref tb, .int (nI (n + i))]))) := by
      intro m
      induction m with
      | zero =>
        intro i hi
        refine J_iload C rfl dX8_append_19 ?_
        refine J_iload_n C rfl dX8_append_21 ?_
        refine J_nicmp_ge C (by first | omega | (dsimp only; omega)) (by first | omega | (dsimp only; omega)) 44 (by decide) dX8_append_22 (fun z2 => ?_) (fun z2 => ?_)
        · refine J_iconst C (v := nI 1) (by decide) dX8_append_44 ?_
          refine J_zret C D (Or.inr rfl) (Or.inr ⟨by omega, rfl, by rw [show i = k by omega]⟩) (by omega) (by omega) dX8_append_45
        · omega
      | succ m ih =>
        intro i hi
        have T' : tp_is (jv_up (jv_up h tb (.inl (1, 400, .inl (sp_app f n v i)))) t (.inr (7, [.ref tb, .int (nI (n + i))]))) t tb (n + i) (sp_app f n v i) := ⟨jv_up_at _ _ _, jv_up_of hne.symm (jv_up_at _ _ _), by omega⟩
        refine J_iload C rfl dX8_append_19 ?_
        refine J_iload_n C rfl dX8_append_21 ?_
        refine J_nicmp_ge C (by first | omega | (dsimp only; omega)) (by first | omega | (dsimp only; omega)) 44 (by decide) dX8_append_22 (fun z2 => ?_) (fun z2 => ?_)
        · omega
        · first | refine J_aload_n C rfl dX8_append_25 ?_ | refine J_aload_nq C rfl dX8_append_25 ?_ | refine J_aload_nN C rfl dX8_append_25 ?_
          refine J_lload_n C rfl dX8_append_26 ?_
          refine J_bipush C (v := nI 8) (by decide) dX8_append_27 ?_
          refine J_iload C rfl dX8_append_29 ?_
          first | refine J_nimul C dX8_append_31 ?_ | refine J_imul C dX8_append_31 ?_
          refine J_lshr C dX8_append_32 ?_
          refine J_l2i C dX8_append_33 ?_
          refine J_i2b C dX8_append_34 ?_
          refine J_callV C (c_Tape_add _ _ t tb (n + i) (sp_app f n v i) T' hne (by omega) (sp_byte v i)) cw_X8_19 (by first | assumption | exact jv_up_at _ _ _ | (simp [jv_up, *]; done)) rfl rfl rfl rfl (by exact Nat.le_of_ble_eq_true rfl) (by decide) (by omega) (by omega) dX8_append_35 ?_
          rintro _ _ ⟨rfl, rfl⟩
          first | refine J_niinc (b := 1) C rfl (by decide) dX8_append_38 ?_ | refine J_iinc C rfl (by decide) dX8_append_38 ?_
          refine J_goto C 19 (by decide) dX8_append_41 ?_
          rw [jv_up_comm hne, jv_up_up, jv_up_up]
          refine J_sub (by exact (And.intro rfl (And.intro rfl (And.intro rfl (And.intro rfl trivial))))) (ih (i + 1) (by omega))
    refine J_iconst C (v := nI 0) (by decide) dX8_append_16 ?_
    refine J_istore C (by decide) dX8_append_17 ?_
    have e0 : h = jv_up (jv_up h tb (.inl (1, 400, .inl (sp_app f n v 0)))) t (.inr (7, [.ref tb, .int (nI (n + 0))])) := by
      rw [show jv_up h tb (.inl (1, 400, .inl (sp_app f n v 0))) = h from jv_up_id T2]
      exact (jv_up_id T1).symm
    rw [e0]
    refine J_sub (by exact (And.intro rfl (And.intro rfl (And.intro rfl (And.intro rfl trivial))))) (loop k 0 (by omega))
  · refine J_iconst C (v := nI 0) (by decide) dX8_append_14 ?_
    refine J_zret C D (Or.inl rfl) (Or.inl ⟨by omega, rfl, rfl⟩) (by omega) (by omega) dX8_append_15
set_option maxHeartbeats 4000000 in
theorem c_Tape_byteAt (l : jL) (h : jH) (t tb n : Nat) (f : Nat → Int32) (T : tp_is h t tb n f) (i : Nat) (hi : i < n) : Cn l yX8_byteAt cX8_byteAt 2 (some .int) 1 0 0 [.ref t, .int (nI i)] h (fun r h1 => r = some (.int (nI (sp_B f i))) ∧ h1 = h) := by
  obtain ⟨T1, T2, T3⟩ := T
  refine Cn.of (own := RX8) rfl (by decide) (by exact Nat.le_of_ble_eq_true rfl) (by decide) (fun K hK C D I => ?_)
  refine J_iload_n C rfl dX8_byteAt_0 ?_
  refine J_nif_lt C (by omega) 34 dX8_byteAt_1 (by decide) ?_
  refine J_iload_n C rfl dX8_byteAt_4 ?_
  first | refine J_aload_n C rfl dX8_byteAt_5 ?_ | refine J_aload_nq C rfl dX8_byteAt_5 ?_ | refine J_aload_nN C rfl dX8_byteAt_5 ?_
  refine J_get C fl_X8_15 (by first | assumption | exact jv_up_at _ _ _ | (simp [jv_up, *]; done)) (by rfl) dX8_byteAt_6 ?_
  refine J_nicmp_ge C (by first | omega | (dsimp only; omega)) (by first | omega | (dsimp only; omega)) 34 (by decide) dX8_byteAt_9 (fun z1 => ?_) (fun z1 => ?_)
  · omega
  · refine J_iload_n C rfl dX8_byteAt_12 ?_
    first | refine J_aload_n C rfl dX8_byteAt_13 ?_ | refine J_aload_nq C rfl dX8_byteAt_13 ?_ | refine J_aload_nN C rfl dX8_byteAt_13 ?_
    refine J_get C fl_X8_9 (by first | assumption | exact jv_up_at _ _ _ | (simp [jv_up, *]; done)) (by rfl) dX8_byteAt_14 ?_
    refine J_alen C (by first | assumption | exact jv_up_at _ _ _ | (simp [jv_up, *]; done)) (by decide) dX8_byteAt_17 ?_
    refine J_nicmp_ge C (by first | omega | (dsimp only; omega)) (by first | omega | (dsimp only; omega)) 34 (by decide) dX8_byteAt_18 (fun z2 => ?_) (fun z2 => ?_)
    · omega
    · first | refine J_aload_n C rfl dX8_byteAt_21 ?_ | refine J_aload_nq C rfl dX8_byteAt_21 ?_ | refine J_aload_nN C rfl dX8_byteAt_21 ?_
      refine J_get C fl_X8_9 (by first | assumption | exact jv_up_at _ _ _ | (simp [jv_up, *]; done)) (by rfl) dX8_byteAt_22 ?_
      refine J_iload_n C rfl dX8_byteAt_25 ?_
      refine J_bald C (by first | assumption | exact jv_up_at _ _ _ | (simp [jv_up, *]; done)) rfl (by omega) (by decide) dX8_byteAt_26 ?_
      refine J_sipush C (v := nI 255) (by decide) dX8_byteAt_27 ?_
      refine J_iand C dX8_byteAt_30 ?_
      refine J_goto C 35 (by decide) dX8_byteAt_31 ?_
      rw [sp_B_and]
      refine J_iret C D ⟨rfl, rfl⟩ (by omega) (by omega) dX8_byteAt_35
def sp_wsf (B : Nat → Nat) : Nat → Nat → Nat
  | 0, i => i
  | k + 1, i => if sp_isl (B i) then i else sp_wsf B k (i + 1)
def sp_ws (B : Nat → Nat) (n i : Nat) : Nat := sp_wsf B (n - i) i
def sp_wef (B : Nat → Nat) : Nat → Nat → Nat
  | 0, i => i
  | k + 1, i => if sp_isl (B i) then sp_wef B k (i + 1) else i
def sp_we (B : Nat → Nat) (n i : Nat) : Nat := sp_wef B (n - i) i
set_option maxHeartbeats 4000000 in
theorem c_Tape_wordStart (l : jL) (h : jH) (t tb n : Nat) (f : Nat → Int32) (T : tp_is h t tb n f) (i : Nat) (hi : i ≤ n) : Cn l yX8_wordStart cX8_wordStart 3 (some .int) 3 0 0 [.ref t, .int (nI i)] h (fun r h1 => r = some (.int (nI (sp_ws (sp_B f) n i))) ∧ h1 = h) := by
  have T0 := T
  obtain ⟨T1, T2, T3⟩ := T
  refine Cn.of (own := RX8) rfl (by decide) (by exact Nat.le_of_ble_eq_true rfl) (by decide) (fun K hK C D I => ?_)
  have loop : ∀ m j : Nat, j + m = n → sp_wsf (sp_B f) m j = sp_ws (sp_B f) n i → J K 0 0 2 (jv_l [(0, .ref t), (2, .int (nI j))]) [] h := by
    intro m
    induction m with
    | zero =>
      intro j hj he
      refine J_iload_n C rfl dX8_wordStart_2 ?_
      first | refine J_aload_n C rfl dX8_wordStart_3 ?_ | refine J_aload_nq C rfl dX8_wordStart_3 ?_ | refine J_aload_nN C rfl dX8_wordStart_3 ?_
      refine J_get C fl_X8_15 (by first | assumption | exact jv_up_at _ _ _ | (simp [jv_up, *]; done)) (by rfl) dX8_wordStart_4 ?_
      refine J_nicmp_ge C (by first | omega | (dsimp only; omega)) (by first | omega | (dsimp only; omega)) 29 (by decide) dX8_wordStart_7 (fun z1 => ?_) (fun z1 => ?_)
      · first | refine J_aload_n C rfl dX8_wordStart_29 ?_ | refine J_aload_nq C rfl dX8_wordStart_29 ?_ | refine J_aload_nN C rfl dX8_wordStart_29 ?_
        refine J_get C fl_X8_15 (by first | assumption | exact jv_up_at _ _ _ | (simp [jv_up, *]; done)) (by rfl) dX8_wordStart_30 ?_
        refine J_iret C D ⟨by rw [← he, ← (show j = n by omega)]; rfl, rfl⟩ (by omega) (by omega) dX8_wordStart_33
      · omega
    | succ m ih =>
      intro j hj he
      unfold sp_wsf at he
      refine J_iload_n C rfl dX8_wordStart_2 ?_
      first | refine J_aload_n C rfl dX8_wordStart_3 ?_ | refine J_aload_nq C rfl dX8_wordStart_3 ?_ | refine J_aload_nN C rfl dX8_wordStart_3 ?_
      refine J_get C fl_X8_15 (by first | assumption | exact jv_up_at _ _ _ | (simp [jv_up, *]; done)) (by rfl) dX8_wordStart_4 ?_
      refine J_nicmp_ge C (by first | omega | (dsimp only; omega)) (by first | omega | (dsimp only; omega)) 29 (by decide) dX8_wordStart_7 (fun z1 => ?_) (fun z1 => ?_)
      · omega
      · first | refine J_aload_n C rfl dX8_wordStart_10 ?_ | refine J_aload_nq C rfl dX8_wordStart_10 ?_ | refine J_aload_nN C rfl dX8_wordStart_10 ?_
        refine J_iload_n C rfl dX8_wordStart_11 ?_
        refine J_callV C (c_Tape_byteAt _ h t tb n f T0 j (by omega)) cw_X8_23 (by first | assumption | exact jv_up_at _ _ _ | (simp [jv_up, *]; done)) rfl rfl rfl rfl (by exact Nat.le_of_ble_eq_true rfl) (by decide) (by omega) (by omega) dX8_wordStart_12 ?_
        rintro _ _ ⟨rfl, rfl⟩
        refine J_callS C (c_isLetter _ _ (sp_B f j) (by have := sp_B_lt f j; omega)) cw_X8_27 rfl rfl (by exact Nat.le_of_ble_eq_true rfl) (by decide) (by omega) (by omega) dX8_wordStart_15 ?_
        rintro _ _ ⟨rfl, rfl⟩
        refine J_bif_eq C 23 (by decide) dX8_wordStart_18 (fun z2 => ?_) (fun z2 => ?_)
        · rw [z2] at he
          first | refine J_niinc (b := 1) C rfl (by decide) dX8_wordStart_23 ?_ | refine J_iinc C rfl (by decide) dX8_wordStart_23 ?_
          refine J_goto C 2 (by decide) dX8_wordStart_26 ?_
          refine J_sub (by exact (And.intro rfl (And.intro rfl trivial))) (ih (j + 1) (by omega) he)
        · rw [z2] at he
          refine J_iload_n C rfl dX8_wordStart_21 ?_
          refine J_iret C D ⟨by rw [← he]; rfl, rfl⟩ (by omega) (by omega) dX8_wordStart_22
  refine J_iload_n C rfl dX8_wordStart_0 ?_
  refine J_istore_n C (by decide) dX8_wordStart_1 ?_
  refine J_sub (by exact (And.intro rfl (And.intro rfl trivial))) (loop (n - i) i (by omega) rfl)
set_option maxHeartbeats 4000000 in
theorem c_Tape_wordEnd (l : jL) (h : jH) (t tb n : Nat) (f : Nat → Int32) (T : tp_is h t tb n f) (i : Nat) (hi : i ≤ n) : Cn l yX8_wordEnd cX8_wordEnd 3 (some .int) 3 0 0 [.ref t, .int (nI i)] h (fun r h1 => r = some (.int (nI (sp_we (sp_B f) n i))) ∧ h1 = h) := by
  have T0 := T
  obtain ⟨T1, T2, T3⟩ := T
  refine Cn.of (own := RX8) rfl (by decide) (by exact Nat.le_of_ble_eq_true rfl) (by decide) (fun K hK C D I => ?_)
  have loop : ∀ m j : Nat, j + m = n → sp_wef (sp_B f) m j = sp_we (sp_B f) n i → J K 0 0 2 (jv_l [(0, .ref t), (2, .int (nI j))]) [] h := by
    intro m
    induction m with
    | zero =>
      intro j hj he
      refine J_iload_n C rfl dX8_wordEnd_2 ?_
      first | refine J_aload_n C rfl dX8_wordEnd_3 ?_ | refine J_aload_nq C rfl dX8_wordEnd_3 ?_ | refine J_aload_nN C rfl dX8_wordEnd_3 ?_
      refine J_get C fl_X8_15 (by first | assumption | exact jv_up_at _ _ _ | (simp [jv_up, *]; done)) (by rfl) dX8_wordEnd_4 ?_
      refine J_nicmp_ge C (by first | omega | (dsimp only; omega)) (by first | omega | (dsimp only; omega)) 29 (by decide) dX8_wordEnd_7 (fun z1 => ?_) (fun z1 => ?_)
      · first | refine J_aload_n C rfl dX8_wordEnd_29 ?_ | refine J_aload_nq C rfl dX8_wordEnd_29 ?_ | refine J_aload_nN C rfl dX8_wordEnd_29 ?_
        refine J_get C fl_X8_15 (by first | assumption | exact jv_up_at _ _ _ | (simp [jv_up, *]; done)) (by rfl) dX8_wordEnd_30 ?_
        refine J_iret C D ⟨by rw [← he, ← (show j = n by omega)]; rfl, rfl⟩ (by omega) (by omega) dX8_wordEnd_33
      · omega
    | succ m ih =>
      intro j hj he
      unfold sp_wef at he
      refine J_iload_n C rfl dX8_wordEnd_2 ?_
      first | refine J_aload_n C rfl dX8_wordEnd_3 ?_ | refine J_aload_nq C rfl dX8_wordEnd_3 ?_ | refine J_aload_nN C rfl dX8_wordEnd_3 ?_
      refine J_get C fl_X8_15 (by first | assumption | exact jv_up_at _ _ _ | (simp [jv_up, *]; done)) (by rfl) dX8_wordEnd_4 ?_
      refine J_nicmp_ge C (by first | omega | (dsimp only; omega)) (by first | omega | (dsimp only; omega)) 29 (by decide) dX8_wordEnd_7 (fun z1 => ?_) (fun z1 => ?_)
      · omega
      · first | refine J_aload_n C rfl dX8_wordEnd_10 ?_ | refine J_aload_nq C rfl dX8_wordEnd_10 ?_ | refine J_aload_nN C rfl dX8_wordEnd_10 ?_
        refine J_iload_n C rfl dX8_wordEnd_11 ?_
        refine J_callV C (c_Tape_byteAt _ h t tb n f T0 j (by omega)) cw_X8_23 (by first | assumption | exact jv_up_at _ _ _ | (simp [jv_up, *]; done)) rfl rfl rfl rfl (by exact Nat.le_of_ble_eq_true rfl) (by decide) (by omega) (by omega) dX8_wordEnd_12 ?_
        rintro _ _ ⟨rfl, rfl⟩
        refine J_callS C (c_isLetter _ _ (sp_B f j) (by have := sp_B_lt f j; omega)) cw_X8_27 rfl rfl (by exact Nat.le_of_ble_eq_true rfl) (by decide) (by omega) (by omega) dX8_wordEnd_15 ?_
        rintro _ _ ⟨rfl, rfl⟩
        refine J_bif_ne C 23 (by decide) dX8_wordEnd_18 (fun z2 => ?_) (fun z2 => ?_)
        · rw [z2] at he
          first | refine J_niinc (b := 1) C rfl (by decide) dX8_wordEnd_23 ?_ | refine J_iinc C rfl (by decide) dX8_wordEnd_23 ?_
          refine J_goto C 2 (by decide) dX8_wordEnd_26 ?_
          refine J_sub (by exact (And.intro rfl (And.intro rfl trivial))) (ih (j + 1) (by omega) he)
        · rw [z2] at he
          refine J_iload_n C rfl dX8_wordEnd_21 ?_
          refine J_iret C D ⟨by rw [← he]; rfl, rfl⟩ (by omega) (by omega) dX8_wordEnd_22
  refine J_iload_n C rfl dX8_wordEnd_0 ?_
  refine J_istore_n C (by decide) dX8_wordEnd_1 ?_
  refine J_sub (by exact (And.intro rfl (And.intro rfl trivial))) (loop (n - i) i (by omega) rfl)
/-- the first k letters from s on -/
def sp_lo (B : Nat → Nat) (s : Nat) : Nat → Int64
  | 0 => lN 0
  | i + 1 => sp_with (sp_lo B s i) i (sp_let (B (s + i)))
def sp_word (B : Nat → Nat) (s e : Nat) : Int64 := sp_lo B s (min 12 (e - s))
set_option maxHeartbeats 4000000 in
theorem c_Tape_lettersOf (l : jL) (h : jH) (t tb n : Nat) (f : Nat → Int32) (T : tp_is h t tb n f) (s e : Nat) (hs : s ≤ e) (he : e ≤ n) : Cn l yX8_lettersOf cX8_lettersOf 6 (some .long) 3 0 0 [.ref t, .int (nI s), .int (nI e)] h (fun r h1 => r = some (.long (sp_word (sp_B f) s e)) ∧ h1 = h) := by
  have T0 := T
  obtain ⟨T1, T2, T3⟩ := T
  refine Cn.of (own := RX8) rfl (by decide) (by exact Nat.le_of_ble_eq_true rfl) (by decide) (fun K hK C D I => ?_)
  have loop : ∀ m i : Nat, i + m = min 12 (e - s) → J K 0 0 5 (jv_l [(0, .ref t), (1, .int (nI s)), (2, .int (nI e)), (3, .long (sp_lo (sp_B f) s i)), (5, .int (nI i))]) [] h := by
    intro m
    induction m with
    | zero =>
      intro i hi
      refine J_iload C rfl dX8_lettersOf_5 ?_
      refine J_bipush C (v := nI 12) (by decide) dX8_lettersOf_7 ?_
      refine J_nicmp_ge C (by first | omega | (dsimp only; omega)) (by first | omega | (dsimp only; omega)) 44 (by decide) dX8_lettersOf_9 (fun z1 => ?_) (fun z1 => ?_)
      · refine J_lload_n C rfl dX8_lettersOf_44 ?_
        refine J_lret C D ⟨by rw [show i = min 12 (e - s) by omega]; rfl, rfl⟩ (by omega) (by omega) dX8_lettersOf_45
      · refine J_iload_n C rfl dX8_lettersOf_12 ?_
        refine J_iload C rfl dX8_lettersOf_13 ?_
        first | refine J_niadd C dX8_lettersOf_15 ?_ | refine J_iadd C dX8_lettersOf_15 ?_
        refine J_iload_n C rfl dX8_lettersOf_16 ?_
        refine J_nicmp_ge C (by first | omega | (dsimp only; omega)) (by first | omega | (dsimp only; omega)) 44 (by decide) dX8_lettersOf_17 (fun z2 => ?_) (fun z2 => ?_)
        · refine J_lload_n C rfl dX8_lettersOf_44 ?_
          refine J_lret C D ⟨by rw [show i = min 12 (e - s) by omega]; rfl, rfl⟩ (by omega) (by omega) dX8_lettersOf_45
        · omega
    | succ m ih =>
      intro i hi
      refine J_iload C rfl dX8_lettersOf_5 ?_
      refine J_bipush C (v := nI 12) (by decide) dX8_lettersOf_7 ?_
      refine J_nicmp_ge C (by first | omega | (dsimp only; omega)) (by first | omega | (dsimp only; omega)) 44 (by decide) dX8_lettersOf_9 (fun z1 => ?_) (fun z1 => ?_)
      · omega
      · refine J_iload_n C rfl dX8_lettersOf_12 ?_
        refine J_iload C rfl dX8_lettersOf_13 ?_
        first | refine J_niadd C dX8_lettersOf_15 ?_ | refine J_iadd C dX8_lettersOf_15 ?_
        refine J_iload_n C rfl dX8_lettersOf_16 ?_
        refine J_nicmp_ge C (by first | omega | (dsimp only; omega)) (by first | omega | (dsimp only; omega)) 44 (by decide) dX8_lettersOf_17 (fun z2 => ?_) (fun z2 => ?_)
        · omega
        · refine J_lload_n C rfl dX8_lettersOf_20 ?_
          refine J_iload C rfl dX8_lettersOf_21 ?_
          first | refine J_aload_n C rfl dX8_lettersOf_23 ?_ | refine J_aload_nq C rfl dX8_lettersOf_23 ?_ | refine J_aload_nN C rfl dX8_lettersOf_23 ?_
          refine J_iload_n C rfl dX8_lettersOf_24 ?_
          refine J_iload C rfl dX8_lettersOf_25 ?_
          first | refine J_niadd C dX8_lettersOf_27 ?_ | refine J_iadd C dX8_lettersOf_27 ?_
          refine J_callV C (c_Tape_byteAt _ h t tb n f T0 (s + i) (by omega)) cw_X8_23 (by first | assumption | exact jv_up_at _ _ _ | (simp [jv_up, *]; done)) rfl rfl rfl rfl (by exact Nat.le_of_ble_eq_true rfl) (by decide) (by omega) (by omega) dX8_lettersOf_28 ?_
          rintro _ _ ⟨rfl, rfl⟩
          refine J_callS C (c_letterOf _ _ (sp_B f (s + i)) (by have := sp_B_lt f (s + i); omega)) cw_X8_33 rfl rfl (by exact Nat.le_of_ble_eq_true rfl) (by decide) (by omega) (by omega) dX8_lettersOf_31 ?_
          rintro _ _ ⟨rfl, rfl⟩
          refine J_callS C (c_with _ _ (sp_lo (sp_B f) s i) i (sp_let (sp_B f (s + i))) (by omega) (by have := sp_let_lt (sp_B f (s + i)); omega)) cw_X8_36 rfl rfl (by exact Nat.le_of_ble_eq_true rfl) (by decide) (by omega) (by omega) dX8_lettersOf_34 ?_
          rintro _ _ ⟨rfl, rfl⟩
          refine J_lstore_n C (by decide) dX8_lettersOf_37 ?_
          first | refine J_niinc (b := 1) C rfl (by decide) dX8_lettersOf_38 ?_ | refine J_iinc C rfl (by decide) dX8_lettersOf_38 ?_
          refine J_goto C 5 (by decide) dX8_lettersOf_41 ?_
          refine J_sub (by exact (And.intro rfl (And.intro rfl (And.intro rfl (And.intro rfl (And.intro rfl trivial)))))) (ih (i + 1) (by omega))
  refine J_lconst C (v := lN 0) (by decide) dX8_lettersOf_0 ?_
  refine J_lstore_n C (by decide) dX8_lettersOf_1 ?_
  refine J_iconst C (v := nI 0) (by decide) dX8_lettersOf_2 ?_
  refine J_istore C (by decide) dX8_lettersOf_3 ?_
  refine J_sub (by exact (And.intro rfl (And.intro rfl (And.intro rfl (And.intro rfl (And.intro rfl trivial)))))) (loop (min 12 (e - s)) 0 (by omega))
