/-! Letters: pure functions of a byte, of letters in a long -/
/-- 1 .. 26; 0 for what is no letter -/
def sp_let (b : Nat) : Nat := if 97 ≤ b ∧ b ≤ 122 then b - 96 else if 65 ≤ b ∧ b ≤ 90 then b - 64 else 0
theorem sp_let_lt (b : Nat) : sp_let b < 27 := by unfold sp_let; split <;> (try split) <;> omega
def sp_with (L : Int64) (p c : Nat) : Int64 := L ||| ((nI c).toInt64 <<< ((nI (5 * (11 - p))).toInt64 &&& 63))
def sp_last (L : Int64) (n : Nat) : Int64 := L ||| ((lN 1 <<< ((nI (5 * (12 - n))).toInt64 &&& 63)) - lN 1)
def sp_turn (L : Int64) : Nat → Int64
  | 0 => lN 0
  | i + 1 => sp_turn L i ||| (((L >>> ((nI (5 * (11 - i))).toInt64 &&& 63)) &&& 31) <<< ((nI (5 * i)).toInt64 &&& 63))
set_option maxHeartbeats 4000000 in
theorem c_letterOf (l : jL) (h : jH) (b : Nat) (hb : b < 1000) : Cn l yX2_letterOf cX2_letterOf 1 (some .int) 1 0 0 [.int (nI b)] h (fun r h1 => r = some (.int (nI (sp_let b))) ∧ h1 = h) := by
  refine Cn.of (own := RX2) rfl (by decide) (by exact Nat.le_of_ble_eq_true rfl) (by decide) (fun K hK C D I => ?_)
  refine J_iload_n C rfl dX2_letterOf_0 ?_
  refine J_bipush C (v := nI 97) (by decide) dX2_letterOf_1 ?_
  refine J_nicmp_lt C (by first | omega | (dsimp only; omega)) (by first | omega | (dsimp only; omega)) 19 (by decide) dX2_letterOf_3 (fun z1 => ?_) (fun z1 => ?_)
  · have K1 : J K 0 0 19 (jv_l (lv_args 0 [.int (nI b)])) [] h := by
      refine J_iload_n C rfl dX2_letterOf_19 ?_
      refine J_bipush C (v := nI 65) (by decide) dX2_letterOf_20 ?_
      refine J_nicmp_lt C (by first | omega | (dsimp only; omega)) (by first | omega | (dsimp only; omega)) 38 (by decide) dX2_letterOf_22 (fun z2 => ?_) (fun z2 => ?_)
      · refine J_iconst C (v := nI 0) (by decide) dX2_letterOf_38 ?_
        refine J_iret C D ⟨by rw [show sp_let b = 0 by unfold sp_let; split <;> (try split) <;> omega], rfl⟩ (by omega) (by omega) dX2_letterOf_39
      · refine J_iload_n C rfl dX2_letterOf_25 ?_
        refine J_bipush C (v := nI 90) (by decide) dX2_letterOf_26 ?_
        refine J_nicmp_gt C (by first | omega | (dsimp only; omega)) (by first | omega | (dsimp only; omega)) 38 (by decide) dX2_letterOf_28 (fun z3 => ?_) (fun z3 => ?_)
        · refine J_iconst C (v := nI 0) (by decide) dX2_letterOf_38 ?_
          refine J_iret C D ⟨by rw [show sp_let b = 0 by unfold sp_let; split <;> (try split) <;> omega], rfl⟩ (by omega) (by omega) dX2_letterOf_39
        · refine J_iload_n C rfl dX2_letterOf_31 ?_
          refine J_bipush C (v := nI 65) (by decide) dX2_letterOf_32 ?_
          first | refine J_nisub C (by omega) dX2_letterOf_34 ?_ | refine J_isub C dX2_letterOf_34 ?_
          refine J_iconst C (v := nI 1) (by decide) dX2_letterOf_35 ?_
          first | refine J_niadd C dX2_letterOf_36 ?_ | refine J_iadd C dX2_letterOf_36 ?_
          refine J_iret C D ⟨by rw [show sp_let b = b - 65 + 1 by unfold sp_let; split <;> (try split) <;> omega], rfl⟩ (by omega) (by omega) dX2_letterOf_37
    exact K1
  · refine J_iload_n C rfl dX2_letterOf_6 ?_
    refine J_bipush C (v := nI 122) (by decide) dX2_letterOf_7 ?_
    refine J_nicmp_gt C (by first | omega | (dsimp only; omega)) (by first | omega | (dsimp only; omega)) 19 (by decide) dX2_letterOf_9 (fun z2 => ?_) (fun z2 => ?_)
    · refine J_iload_n C rfl dX2_letterOf_19 ?_
      refine J_bipush C (v := nI 65) (by decide) dX2_letterOf_20 ?_
      refine J_nicmp_lt C (by first | omega | (dsimp only; omega)) (by first | omega | (dsimp only; omega)) 38 (by decide) dX2_letterOf_22 (fun z4 => ?_) (fun z4 => ?_)
      · omega
      · refine J_iload_n C rfl dX2_letterOf_25 ?_
        refine J_bipush C (v := nI 90) (by decide) dX2_letterOf_26 ?_
        refine J_nicmp_gt C (by first | omega | (dsimp only; omega)) (by first | omega | (dsimp only; omega)) 38 (by decide) dX2_letterOf_28 (fun z3 => ?_) (fun z3 => ?_)
        · refine J_iconst C (v := nI 0) (by decide) dX2_letterOf_38 ?_
          refine J_iret C D ⟨by rw [show sp_let b = 0 by unfold sp_let; split <;> (try split) <;> omega], rfl⟩ (by omega) (by omega) dX2_letterOf_39
        · omega
    · refine J_iload_n C rfl dX2_letterOf_12 ?_
      refine J_bipush C (v := nI 97) (by decide) dX2_letterOf_13 ?_
      first | refine J_nisub C (by omega) dX2_letterOf_15 ?_ | refine J_isub C dX2_letterOf_15 ?_
      refine J_iconst C (v := nI 1) (by decide) dX2_letterOf_16 ?_
      first | refine J_niadd C dX2_letterOf_17 ?_ | refine J_iadd C dX2_letterOf_17 ?_
      refine J_iret C D ⟨by rw [show sp_let b = b - 97 + 1 by unfold sp_let; split <;> (try split) <;> omega], rfl⟩ (by omega) (by omega) dX2_letterOf_18
def sp_isl (b : Nat) : Bool := decide (0 < sp_let b)
set_option maxHeartbeats 4000000 in
theorem c_isLetter (l : jL) (h : jH) (b : Nat) (hb : b < 1000) : Cn l yX2_isLetter cX2_isLetter 1 (some .boolean) 2 0 0 [.int (nI b)] h (fun r h1 => r = some (.int (jv_b (sp_isl b))) ∧ h1 = h) := by
  refine Cn.of (own := RX2) rfl (by decide) (by exact Nat.le_of_ble_eq_true rfl) (by decide) (fun K hK C D I => ?_)
  have := sp_let_lt b
  refine J_iload_n C rfl dX2_isLetter_0 ?_
  refine J_callS C (c_letterOf _ h b hb) cw_X2_9 rfl rfl (by exact Nat.le_of_ble_eq_true rfl) (by decide) (by omega) (by omega) dX2_isLetter_1 ?_
  rintro _ _ ⟨rfl, rfl⟩
  refine J_nif_eq C (by first | omega | (dsimp only; omega)) 11 (by decide) dX2_isLetter_4 (fun z1 => ?_) (fun z1 => ?_)
  · refine J_iconst C (v := nI 0) (by decide) dX2_isLetter_11 ?_
    refine J_zret C D (Or.inl rfl) ⟨by unfold sp_isl; rw [z1]; rfl, rfl⟩ (by omega) (by omega) dX2_isLetter_12
  · refine J_iconst C (v := nI 1) (by decide) dX2_isLetter_7 ?_
    refine J_goto C 12 (by decide) dX2_isLetter_8 ?_
    refine J_zret C D (Or.inr rfl) ⟨by unfold sp_isl; rw [decide_eq_true z1]; rfl, rfl⟩ (by omega) (by omega) dX2_isLetter_12
set_option maxHeartbeats 4000000 in
theorem c_with (l : jL) (h : jH) (L : Int64) (p c : Nat) (hp : p < 12) (hc : c < 32) : Cn l yX2_with cX2_with 4 (some .long) 1 0 0 [.long L, .int (nI p), .int (nI c)] h (fun r h1 => r = some (.long (sp_with L p c)) ∧ h1 = h) := by
  refine Cn.of (own := RX2) rfl (by decide) (by exact Nat.le_of_ble_eq_true rfl) (by decide) (fun K hK C D I => ?_)
  refine J_lload_n C rfl dX2_with_0 ?_
  refine J_iload_n C rfl dX2_with_1 ?_
  refine J_i2l C dX2_with_2 ?_
  refine J_iconst C (v := nI 5) (by decide) dX2_with_3 ?_
  refine J_bipush C (v := nI 11) (by decide) dX2_with_4 ?_
  refine J_iload_n C rfl dX2_with_6 ?_
  first | refine J_nisub C (by omega) dX2_with_7 ?_ | refine J_isub C dX2_with_7 ?_
  first | refine J_nimul C dX2_with_8 ?_ | refine J_imul C dX2_with_8 ?_
  refine J_lshl C dX2_with_9 ?_
  refine J_lor C dX2_with_10 ?_
  refine J_lret C D ⟨rfl, rfl⟩ (by omega) (by omega) dX2_with_11
set_option maxHeartbeats 4000000 in
theorem c_lastWithBeginning (l : jL) (h : jH) (L : Int64) (n : Nat) (hn : n ≤ 12) : Cn l yX2_lastWithBeginning cX2_lastWithBeginning 3 (some .long) 1 0 0 [.long L, .int (nI n)] h (fun r h1 => r = some (.long (sp_last L n)) ∧ h1 = h) := by
  refine Cn.of (own := RX2) rfl (by decide) (by exact Nat.le_of_ble_eq_true rfl) (by decide) (fun K hK C D I => ?_)
  refine J_lload_n C rfl dX2_lastWithBeginning_0 ?_
  refine J_lconst C (v := lN 1) (by decide) dX2_lastWithBeginning_1 ?_
  refine J_iconst C (v := nI 5) (by decide) dX2_lastWithBeginning_2 ?_
  refine J_bipush C (v := nI 12) (by decide) dX2_lastWithBeginning_3 ?_
  refine J_iload_n C rfl dX2_lastWithBeginning_5 ?_
  first | refine J_nisub C (by omega) dX2_lastWithBeginning_6 ?_ | refine J_isub C dX2_lastWithBeginning_6 ?_
  first | refine J_nimul C dX2_lastWithBeginning_7 ?_ | refine J_imul C dX2_lastWithBeginning_7 ?_
  refine J_lshl C dX2_lastWithBeginning_8 ?_
  refine J_lconst C (v := lN 1) (by decide) dX2_lastWithBeginning_9 ?_
  refine J_lsub C dX2_lastWithBeginning_10 ?_
  refine J_lor C dX2_lastWithBeginning_11 ?_
  refine J_lret C D ⟨rfl, rfl⟩ (by omega) (by omega) dX2_lastWithBeginning_12
set_option maxHeartbeats 4000000 in
theorem c_firstLowest (l : jL) (h : jH) (L : Int64) : Cn l yX2_firstLowest cX2_firstLowest 7 (some .long) 1 0 0 [.long L] h (fun r h1 => r = some (.long (sp_turn L 12)) ∧ h1 = h) := by
  refine Cn.of (own := RX2) rfl (by decide) (by exact Nat.le_of_ble_eq_true rfl) (by decide) (fun K hK C D I => ?_)
  have loop : ∀ n i : Nat, i + n = 12 → J K 0 0 5 (jv_l [(0, .long L), (2, .long (sp_turn L i)), (4, .int (nI i))]) [] h := by
    intro n
    induction n with
    | zero =>
      intro i hi
      refine J_iload C rfl dX2_firstLowest_5 ?_
      refine J_bipush C (v := nI 12) (by decide) dX2_firstLowest_7 ?_
      refine J_nicmp_ge C (by first | omega | (dsimp only; omega)) (by first | omega | (dsimp only; omega)) 43 (by decide) dX2_firstLowest_9 (fun z1 => ?_) (fun z1 => ?_)
      · refine J_lload_n C rfl dX2_firstLowest_43 ?_
        refine J_lret C D ⟨by rw [show i = 12 by omega], rfl⟩ (by omega) (by omega) dX2_firstLowest_44
      · omega
    | succ n ih =>
      intro i hi
      refine J_iload C rfl dX2_firstLowest_5 ?_
      refine J_bipush C (v := nI 12) (by decide) dX2_firstLowest_7 ?_
      refine J_nicmp_ge C (by first | omega | (dsimp only; omega)) (by first | omega | (dsimp only; omega)) 43 (by decide) dX2_firstLowest_9 (fun z1 => ?_) (fun z1 => ?_)
      · omega
      · refine J_lload_n C rfl dX2_firstLowest_12 ?_
        refine J_iconst C (v := nI 5) (by decide) dX2_firstLowest_13 ?_
        refine J_bipush C (v := nI 11) (by decide) dX2_firstLowest_14 ?_
        refine J_iload C rfl dX2_firstLowest_16 ?_
        first | refine J_nisub C (by omega) dX2_firstLowest_18 ?_ | refine J_isub C dX2_firstLowest_18 ?_
        first | refine J_nimul C dX2_firstLowest_19 ?_ | refine J_imul C dX2_firstLowest_19 ?_
        refine J_lshr C dX2_firstLowest_20 ?_
        refine J_ldc2 C kl_X2_15 dX2_firstLowest_21 ?_
        refine J_land C dX2_firstLowest_24 ?_
        refine J_lstore C (by decide) dX2_firstLowest_25 ?_
        refine J_lload_n C rfl dX2_firstLowest_27 ?_
        refine J_lload C rfl dX2_firstLowest_28 ?_
        refine J_iconst C (v := nI 5) (by decide) dX2_firstLowest_30 ?_
        refine J_iload C rfl dX2_firstLowest_31 ?_
        first | refine J_nimul C dX2_firstLowest_33 ?_ | refine J_imul C dX2_firstLowest_33 ?_
        refine J_lshl C dX2_firstLowest_34 ?_
        refine J_lor C dX2_firstLowest_35 ?_
        refine J_lstore_n C (by decide) dX2_firstLowest_36 ?_
        first | refine J_niinc (b := 1) C rfl (by decide) dX2_firstLowest_37 ?_ | refine J_iinc C rfl (by decide) dX2_firstLowest_37 ?_
        refine J_goto C 5 (by decide) dX2_firstLowest_40 ?_
        refine J_sub (by exact (And.intro rfl (And.intro rfl (And.intro rfl trivial)))) (ih (i + 1) (by omega))
  refine J_lconst C (v := lN 0) (by decide) dX2_firstLowest_0 ?_
  refine J_lstore_n C (by decide) dX2_firstLowest_1 ?_
  refine J_iconst C (v := nI 0) (by decide) dX2_firstLowest_2 ?_
  refine J_istore C (by decide) dX2_firstLowest_3 ?_
  refine J_sub (by exact (And.intro rfl (And.intro rfl (And.intro rfl trivial)))) (loop 12 0 (by omega))
