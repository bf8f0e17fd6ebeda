/-- what unlink leaves -/
def unlP (h : jH) (w p : Nat) (L : Int64) (hold tot t : Nat) (sp fst b n : Option Nat) (cb cn : Option Nat × Option Nat × Nat × Option Nat × Option Nat × Option Nat) (h1 : jH) : Prop :=
  h1 w = some (wdO L (hold - 1) (tot - t) (if b = none then n else fst) sp) ∧
  (∀ b0, b = some b0 → h1 b0 = some (psO cb.1 cb.2.1 cb.2.2.1 cb.2.2.2.1 n cb.2.2.2.2.2)) ∧
  (∀ n0, n = some n0 → h1 n0 = some (psO cn.1 cn.2.1 cn.2.2.1 b cn.2.2.2.2.1 cn.2.2.2.2.2)) ∧
  fr (fun x => x = w ∨ b = some x ∨ n = some x) h h1
abbrev psC (c : Option Nat × Option Nat × Nat × Option Nat × Option Nat × Option Nat) : jE := psO c.1 c.2.1 c.2.2.1 c.2.2.2.1 c.2.2.2.2.1 c.2.2.2.2.2
section UNLINK
variable {l : jL} {h : jH}
set_option maxHeartbeats 800000 in
theorem c_Word_unlink (w p : Nat) (L : Int64) (hold tot t : Nat) (sp fst pw pd b n nd : Option Nat) (cb cn : Option Nat × Option Nat × Nat × Option Nat × Option Nat × Option Nat) (hw : h w = some (wdO L hold tot fst sp)) (hp : h p = some (psO pw pd t b n nd)) (hb : ∀ b0, b = some b0 → h b0 = some (psC cb) ∧ b0 ≠ p) (hn : ∀ n0, n = some n0 → h n0 = some (psC cn) ∧ n0 ≠ p) (hbn : ∀ b0 n0, b = some b0 → n = some n0 → b0 ≠ n0) (h1 : 1 ≤ hold) (h2 : t ≤ tot) : Cn l yX10_unlink cX10_unlink 2 none 1 0 0 [.ref w, .ref p] h (fun r h1 => r = none ∧ unlP h w p L hold tot t sp fst b n cb cn h1) := by
  refine Cn.of (own := RX10) rfl (by decide) (by exact Nat.le_of_ble_eq_true rfl) (by decide) (fun K hK C D I => ?_)
  have n1 : w ≠ p := jv_neO hw hp (by decide)
  have K47 : ∀ h' : jH, h' w = some (wdO L hold tot (if b = none then n else fst) sp) → h' p = some (psO pw pd t b n nd) → (∀ b0, b = some b0 → h' b0 = some (psO cb.1 cb.2.1 cb.2.2.1 cb.2.2.2.1 n cb.2.2.2.2.2)) → (∀ n0, n = some n0 → h' n0 = some (psO cn.1 cn.2.1 cn.2.2.1 b cn.2.2.2.2.1 cn.2.2.2.2.2)) → fr (fun x => x = w ∨ b = some x ∨ n = some x) h h' → J K 0 0 47 (jv_l (lv_args 0 [.ref w, .ref p])) [] h' := by
    intro h' k1 k2 k3 k4 F
    have k2' := jv_up_of (x := wdO L (hold - 1) tot (if b = none then n else fst) sp) n1.symm k2
    first | refine J_aload_n C rfl dX10_unlink_47 ?_ | refine J_aload_nq C rfl dX10_unlink_47 ?_ | refine J_aload_nN C rfl dX10_unlink_47 ?_
    refine J_dup C rfl dX10_unlink_48 ?_
    refine J_get C fl_X10_13 (by first | assumption | exact jv_up_at _ _ _ | (simp [jv_up, *]; done)) (by rfl) dX10_unlink_49 ?_
    refine J_iconst C (v := nI 1) (by decide) dX10_unlink_52 ?_
    first | refine J_nisub C (by omega) dX10_unlink_53 ?_ | refine J_isub C dX10_unlink_53 ?_
    refine J_put C fl_X10_13 (by first | assumption | exact jv_up_at _ _ _ | (simp [jv_up, *]; done)) (by exact Nat.le_of_ble_eq_true rfl) (by rfl) (by rfl) dX10_unlink_54 ?_
    have e1 : (wdO L (hold - 1) tot (if b = none then n else fst) sp) = .inr (9, List.set [.long L, .int (nI hold), .int (nI tot), va_rf (if b = none then n else fst), va_rf sp] 1 (.int (nI (hold - 1)))) := rfl
    first | refine J_aload_n C rfl dX10_unlink_57 ?_ | refine J_aload_nq C rfl dX10_unlink_57 ?_ | refine J_aload_nN C rfl dX10_unlink_57 ?_
    refine J_dup C rfl dX10_unlink_58 ?_
    refine J_get C fl_X10_17 (by first | exact jv_up_at _ _ _ | exact k2') (by rfl) dX10_unlink_59 ?_
    first | refine J_aload_n C rfl dX10_unlink_62 ?_ | refine J_aload_nq C rfl dX10_unlink_62 ?_ | refine J_aload_nN C rfl dX10_unlink_62 ?_
    refine J_get C fl_X10_36 (by first | exact jv_up_at _ _ _ | exact k2') (by rfl) dX10_unlink_63 ?_
    first | refine J_nisub C (by omega) dX10_unlink_66 ?_ | refine J_isub C dX10_unlink_66 ?_
    refine J_put C fl_X10_17 (by first | exact jv_up_at _ _ _ | exact k2') (by exact Nat.le_of_ble_eq_true rfl) (by rfl) (by rfl) dX10_unlink_67 ?_
    rw [jv_up_up]
    refine J_vret C D ⟨rfl, jv_up_at _ _ _, fun b0 z => jv_up_of (jv_neO k1 (k3 b0 z) (by decide)).symm (k3 b0 z), fun n0 z => jv_up_of (jv_neO k1 (k4 n0 z) (by decide)).symm (k4 n0 z), fr_tr F (fr_up (Or.inl rfl))⟩ (by omega) (by omega) dX10_unlink_70
  have K29 : ∀ h' : jH, h' w = some (wdO L hold tot (if b = none then n else fst) sp) → h' p = some (psO pw pd t b n nd) → (∀ b0, b = some b0 → h' b0 = some (psO cb.1 cb.2.1 cb.2.2.1 cb.2.2.2.1 n cb.2.2.2.2.2)) → (∀ n0, n = some n0 → h' n0 = some (psC cn)) → fr (fun x => x = w ∨ b = some x ∨ n = some x) h h' → J K 0 0 29 (jv_l (lv_args 0 [.ref w, .ref p])) [] h' := by
    intro h' k1 k2 k3 k4 F
    first | refine J_aload_n C rfl dX10_unlink_29 ?_ | refine J_aload_nq C rfl dX10_unlink_29 ?_ | refine J_aload_nN C rfl dX10_unlink_29 ?_
    refine J_get C fl_X10_33 (by exact k2) (by rfl) dX10_unlink_30 ?_
    refine J_ifnull C 47 (by decide) dX10_unlink_33 (fun z => ?_) (fun n0 z => ?_)
    · exact K47 h' k1 k2 k3 (fun n0 w9 => by rw [z] at w9; cases w9) F
    · have k4' := k4 n0 z
      first | refine J_aload_n C rfl dX10_unlink_36 ?_ | refine J_aload_nq C rfl dX10_unlink_36 ?_ | refine J_aload_nN C rfl dX10_unlink_36 ?_
      refine J_get C fl_X10_33 (by exact k2) (by rfl) dX10_unlink_37 ?_
      rw [z]
      refine J_eq (st1 := [.ref n0]) rfl rfl ?_
      first | refine J_aload_n C rfl dX10_unlink_40 ?_ | refine J_aload_nq C rfl dX10_unlink_40 ?_ | refine J_aload_nN C rfl dX10_unlink_40 ?_
      refine J_get C fl_X10_28 (by exact k2) (by rfl) dX10_unlink_41 ?_
      refine J_put C fl_X10_28 (by exact k4') (by exact Nat.le_of_ble_eq_true rfl) (by first | rfl | exact jv_nar_o _ _) (by first | rfl | exact jv_fit_o _ _) dX10_unlink_44 ?_
      refine K47 _ (jv_up_of (jv_neO k1 k4' (by decide)) k1) (jv_up_of (hn n0 z).2.symm k2) (fun b0 w9 => jv_up_of (hbn b0 n0 w9 z) (k3 b0 w9)) (fun n1 w9 => ?_) (fr_tr F (fr_up (Or.inr (Or.inr z))))
      have : n0 = n1 := Option.some.inj (z.symm.trans w9)
      subst this
      exact jv_up_at _ _ _
  first | refine J_aload_n C rfl dX10_unlink_0 ?_ | refine J_aload_nq C rfl dX10_unlink_0 ?_ | refine J_aload_nN C rfl dX10_unlink_0 ?_
  refine J_get C fl_X10_28 (by first | assumption | exact jv_up_at _ _ _ | (simp [jv_up, *]; done)) (by rfl) dX10_unlink_1 ?_
  refine J_ifnonnull C 18 (by decide) dX10_unlink_4 (fun b0 z => ?_) (fun z => ?_)
  · have kb := hb b0 z
    first | refine J_aload_n C rfl dX10_unlink_18 ?_ | refine J_aload_nq C rfl dX10_unlink_18 ?_ | refine J_aload_nN C rfl dX10_unlink_18 ?_
    refine J_get C fl_X10_28 (by exact hp) (by rfl) dX10_unlink_19 ?_
    rw [z]
    refine J_eq (st1 := [.ref b0]) rfl rfl ?_
    first | refine J_aload_n C rfl dX10_unlink_22 ?_ | refine J_aload_nq C rfl dX10_unlink_22 ?_ | refine J_aload_nN C rfl dX10_unlink_22 ?_
    refine J_get C fl_X10_33 (by exact hp) (by rfl) dX10_unlink_23 ?_
    refine J_put C fl_X10_33 (by exact kb.1) (by exact Nat.le_of_ble_eq_true rfl) (by first | rfl | exact jv_nar_o _ _) (by first | rfl | exact jv_fit_o _ _) dX10_unlink_26 ?_
    refine K29 _ (by rw [if_neg (by rw [z]; exact fun w9 => by cases w9)]; exact jv_up_of (jv_neO hw kb.1 (by decide)) hw) (jv_up_of kb.2.symm hp) (fun b1 w9 => ?_) (fun n0 w9 => jv_up_of (hbn b0 n0 z w9).symm (hn n0 w9).1) (fr_up (Or.inr (Or.inl z)))
    have : b0 = b1 := Option.some.inj (z.symm.trans w9)
    subst this
    exact jv_up_at _ _ _
  · first | refine J_aload_n C rfl dX10_unlink_7 ?_ | refine J_aload_nq C rfl dX10_unlink_7 ?_ | refine J_aload_nN C rfl dX10_unlink_7 ?_
    first | refine J_aload_n C rfl dX10_unlink_8 ?_ | refine J_aload_nq C rfl dX10_unlink_8 ?_ | refine J_aload_nN C rfl dX10_unlink_8 ?_
    refine J_get C fl_X10_33 (by exact hp) (by rfl) dX10_unlink_9 ?_
    refine J_put C fl_X10_20 (by exact hw) (by exact Nat.le_of_ble_eq_true rfl) (by first | rfl | exact jv_nar_o _ _) (by first | rfl | exact jv_fit_o _ _) dX10_unlink_12 ?_
    refine J_goto C 29 (by decide) dX10_unlink_15 ?_
    refine K29 _ (by rw [if_pos z]; exact jv_up_at _ _ _) (jv_up_of n1.symm hp) (fun b1 w9 => by rw [z] at w9; cases w9) (fun n0 w9 => jv_up_of (jv_neO hw (hn n0 w9).1 (by decide)).symm (hn n0 w9).1) (fr_up (Or.inl rfl))
end UNLINK
