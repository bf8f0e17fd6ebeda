/-! Word, Posting, Document: their cells, their small methods -/
abbrev wdO (L : Int64) (hold tot : Nat) (first spare : Option Nat) : jE := .inr (9, [.long L, .int (nI hold), .int (nI tot), va_rf first, va_rf spare])
abbrev psO (w d : Option Nat) (t : Nat) (bf nx nd : Option Nat) : jE := .inr (4, [va_rf w, va_rf d, .int (nI t), va_rf bf, va_rf nx, va_rf nd])
/-- what a search writes into a document: met, barred, terms met, points, next met -/
abbrev sfT : Type := Bool × Bool × Int32 × Int32 × Option Nat
abbrev dcO (num len : Nat) (first : Option Nat) (s : sfT) : jE := .inr (1, [.int (nI num), .int (nI len), va_rf first, .int (jv_b s.1), .int (jv_b s.2.1), .int s.2.2.1, .int s.2.2.2.1, va_rf s.2.2.2.2])
section CELLS
variable {l : jL} {h : jH}
set_option maxHeartbeats 400000 in
theorem c_Document_init (a num : Nat) (hh : h a = some (.inr (1, [.int 0, .int 0, .null, .int 0, .int 0, .int 0, .int 0, .null]))) : Cn l yX1_init cX1_init 2 none 1 0 0 [.ref a, .int (nI num)] h (fun r h1 => r = none ∧ h1 = jv_up h a (dcO num 0 none (false, false, 0, 0, none))) := by
  refine Cn.of (own := RX1) rfl (by decide) (by exact Nat.le_of_ble_eq_true rfl) (by decide) (fun K hK C D I => ?_)
  first | refine J_aload_n C rfl dX1_init_0 ?_ | refine J_aload_nq C rfl dX1_init_0 ?_ | refine J_aload_nN C rfl dX1_init_0 ?_
  refine J_objInit C ml_X1_1 oi_inst oi_code (by decide) (by exact Nat.le_of_ble_eq_true rfl) dX1_init_1 ?_
  first | refine J_aload_n C rfl dX1_init_4 ?_ | refine J_aload_nq C rfl dX1_init_4 ?_ | refine J_aload_nN C rfl dX1_init_4 ?_
  refine J_iload_n C rfl dX1_init_5 ?_
  refine J_putF C I fl_X1_7 rfl rfl (by first | assumption | exact jv_up_at _ _ _ | (simp [jv_up, *]; done)) (by exact Nat.le_of_ble_eq_true rfl) (by rfl) (by rfl) fw_X1_7 dX1_init_6 ?_
  refine J_vret C D ⟨rfl, rfl⟩ (by omega) (by omega) dX1_init_9
set_option maxHeartbeats 400000 in
theorem c_Posting_init (a : Nat) : Cn l yX5_init cX5_init 1 none 1 0 0 [.ref a] h (fun r h1 => r = none ∧ h1 = h) := by
  refine Cn.of (own := RX5) rfl (by decide) (by exact Nat.le_of_ble_eq_true rfl) (by decide) (fun K hK C D I => ?_)
  first | refine J_aload_n C rfl dX5_init_0 ?_ | refine J_aload_nq C rfl dX5_init_0 ?_ | refine J_aload_nN C rfl dX5_init_0 ?_
  refine J_objInit C ml_X5_1 oi_inst oi_code (by decide) (by exact Nat.le_of_ble_eq_true rfl) dX5_init_1 ?_
  refine J_vret C D ⟨rfl, rfl⟩ (by omega) (by omega) dX5_init_4
set_option maxHeartbeats 400000 in
theorem c_Word_init (a : Nat) : Cn l yX10_init cX10_init 1 none 1 0 0 [.ref a] h (fun r h1 => r = none ∧ h1 = h) := by
  refine Cn.of (own := RX10) rfl (by decide) (by exact Nat.le_of_ble_eq_true rfl) (by decide) (fun K hK C D I => ?_)
  first | refine J_aload_n C rfl dX10_init_0 ?_ | refine J_aload_nq C rfl dX10_init_0 ?_ | refine J_aload_nN C rfl dX10_init_0 ?_
  refine J_objInit C ml_X10_1 oi_inst oi_code (by decide) (by exact Nat.le_of_ble_eq_true rfl) dX10_init_1 ?_
  refine J_vret C D ⟨rfl, rfl⟩ (by omega) (by omega) dX10_init_4
def sp_imp (t len : Nat) : Nat := 256 * t / (t + 1 + len / 8)
set_option maxHeartbeats 400000 in
theorem c_Posting_impact (p dd t len num : Nat) (w bf nx nd fi : Option Nat) (s : sfT) (hp : h p = some (psO w (some dd) t bf nx nd)) (hd : h dd = some (dcO num len fi s)) (ht : t ≤ 1000) (hl : len ≤ 1000) : Cn l yX5_impact cX5_impact 2 (some .int) 1 0 0 [.ref p] h (fun r h1 => r = some (.int (nI (sp_imp t len))) ∧ h1 = h) := by
  refine Cn.of (own := RX5) rfl (by decide) (by exact Nat.le_of_ble_eq_true rfl) (by decide) (fun K hK C D I => ?_)
  first | refine J_aload_n C rfl dX5_impact_0 ?_ | refine J_aload_nq C rfl dX5_impact_0 ?_ | refine J_aload_nN C rfl dX5_impact_0 ?_
  refine J_get C fl_X5_7 (by first | assumption | exact jv_up_at _ _ _ | (simp [jv_up, *]; done)) (by rfl) dX5_impact_1 ?_
  refine J_ifnonnull (x := some dd) C 11 (by decide) dX5_impact_4 (fun _ _ => ?_) (fun z => by cases z)
  first | refine J_aload_n C rfl dX5_impact_11 ?_ | refine J_aload_nq C rfl dX5_impact_11 ?_ | refine J_aload_nN C rfl dX5_impact_11 ?_
  refine J_get C fl_X5_13 (by first | assumption | exact jv_up_at _ _ _ | (simp [jv_up, *]; done)) (by rfl) dX5_impact_12 ?_
  refine J_iconst C (v := nI 1) (by decide) dX5_impact_15 ?_
  first | refine J_niadd C dX5_impact_16 ?_ | refine J_iadd C dX5_impact_16 ?_
  first | refine J_aload_n C rfl dX5_impact_17 ?_ | refine J_aload_nq C rfl dX5_impact_17 ?_ | refine J_aload_nN C rfl dX5_impact_17 ?_
  refine J_get C fl_X5_7 (by first | assumption | exact jv_up_at _ _ _ | (simp [jv_up, *]; done)) (by rfl) dX5_impact_18 ?_
  refine J_get C fl_X5_17 (by first | assumption | exact jv_up_at _ _ _ | (simp [jv_up, *]; done)) (by rfl) dX5_impact_21 ?_
  refine J_bipush C (v := nI 8) (by decide) dX5_impact_24 ?_
  refine J_nidiv C (by omega) (by decide) (by decide) dX5_impact_26 ?_
  first | refine J_niadd C dX5_impact_27 ?_ | refine J_iadd C dX5_impact_27 ?_
  refine J_istore_n C (by decide) dX5_impact_28 ?_
  refine J_iload_n C rfl dX5_impact_29 ?_
  refine J_iconst C (v := nI 1) (by decide) dX5_impact_30 ?_
  refine J_nicmp_ge C (by first | omega | (dsimp only; omega)) (by first | omega | (dsimp only; omega)) 38 (by decide) dX5_impact_31 (fun z1 => ?_) (fun z1 => ?_)
  · refine J_sipush C (v := nI 256) (by decide) dX5_impact_38 ?_
    first | refine J_aload_n C rfl dX5_impact_41 ?_ | refine J_aload_nq C rfl dX5_impact_41 ?_ | refine J_aload_nN C rfl dX5_impact_41 ?_
    refine J_get C fl_X5_13 (by first | assumption | exact jv_up_at _ _ _ | (simp [jv_up, *]; done)) (by rfl) dX5_impact_42 ?_
    first | refine J_nimul C dX5_impact_45 ?_ | refine J_imul C dX5_impact_45 ?_
    refine J_iload_n C rfl dX5_impact_46 ?_
    refine J_nidiv C (by omega) (by omega) (by omega) dX5_impact_47 ?_
    refine J_iret C D ⟨rfl, rfl⟩ (by omega) (by omega) dX5_impact_48
  · omega
set_option maxHeartbeats 400000 in
theorem c_Word_begin (a : Nat) (L0 L : Int64) (x y z u : Value) (hh : h a = some (.inr (9, [.long L0, x, y, z, u]))) : Cn l yX10_begin cX10_begin 3 none 1 0 0 [.ref a, .long L] h (fun r h1 => r = none ∧ h1 = jv_up h a (wdO L 0 0 none none)) := by
  refine Cn.of (own := RX10) rfl (by decide) (by exact Nat.le_of_ble_eq_true rfl) (by decide) (fun K hK C D I => ?_)
  first | refine J_aload_n C rfl dX10_begin_0 ?_ | refine J_aload_nq C rfl dX10_begin_0 ?_ | refine J_aload_nN C rfl dX10_begin_0 ?_
  refine J_lload_n C rfl dX10_begin_1 ?_
  refine J_put C fl_X10_7 (by first | assumption | exact jv_up_at _ _ _ | (simp [jv_up, *]; done)) (by exact Nat.le_of_ble_eq_true rfl) (by rfl) (by rfl) dX10_begin_2 ?_
  first | refine J_aload_n C rfl dX10_begin_5 ?_ | refine J_aload_nq C rfl dX10_begin_5 ?_ | refine J_aload_nN C rfl dX10_begin_5 ?_
  refine J_iconst C (v := nI 0) (by decide) dX10_begin_6 ?_
  refine J_put C fl_X10_13 (by first | assumption | exact jv_up_at _ _ _ | (simp [jv_up, *]; done)) (by exact Nat.le_of_ble_eq_true rfl) (by rfl) (by rfl) dX10_begin_7 ?_
  first | refine J_aload_n C rfl dX10_begin_10 ?_ | refine J_aload_nq C rfl dX10_begin_10 ?_ | refine J_aload_nN C rfl dX10_begin_10 ?_
  refine J_iconst C (v := nI 0) (by decide) dX10_begin_11 ?_
  refine J_put C fl_X10_17 (by first | assumption | exact jv_up_at _ _ _ | (simp [jv_up, *]; done)) (by exact Nat.le_of_ble_eq_true rfl) (by rfl) (by rfl) dX10_begin_12 ?_
  first | refine J_aload_n C rfl dX10_begin_15 ?_ | refine J_aload_nq C rfl dX10_begin_15 ?_ | refine J_aload_nN C rfl dX10_begin_15 ?_
  refine J_null C dX10_begin_16 ?_
  refine J_put C fl_X10_20 (by first | assumption | exact jv_up_at _ _ _ | (simp [jv_up, *]; done)) (by exact Nat.le_of_ble_eq_true rfl) (by first | rfl | exact jv_nar_o _ _) (by first | rfl | exact jv_fit_o _ _) dX10_begin_17 ?_
  first | refine J_aload_n C rfl dX10_begin_20 ?_ | refine J_aload_nq C rfl dX10_begin_20 ?_ | refine J_aload_nN C rfl dX10_begin_20 ?_
  refine J_null C dX10_begin_21 ?_
  refine J_put C fl_X10_24 (by first | assumption | exact jv_up_at _ _ _ | (simp [jv_up, *]; done)) (by exact Nat.le_of_ble_eq_true rfl) (by first | rfl | exact jv_nar_o _ _) (by first | rfl | exact jv_fit_o _ _) dX10_begin_22 ?_
  refine J_vret C D ⟨rfl, by simp only [jv_up_up]; rfl⟩ (by omega) (by omega) dX10_begin_25
set_option maxHeartbeats 400000 in
theorem c_Word_link0 (w p : Nat) (L : Int64) (hold tot t : Nat) (sp pw pd bf nx nd : Option Nat) (hw : h w = some (wdO L hold tot none sp)) (hp : h p = some (psO pw pd t bf nx nd)) : Cn l yX10_link cX10_link 2 none 1 0 0 [.ref w, .ref p] h (fun r h1 => r = none ∧ h1 = jv_up (jv_up h p (psO pw pd t none none nd)) w (wdO L (hold + 1) tot (some p) sp)) := by
  refine Cn.of (own := RX10) rfl (by decide) (by exact Nat.le_of_ble_eq_true rfl) (by decide) (fun K hK C D I => ?_)
  have n1 : w ≠ p := jv_neO hw hp (by decide)
  first | refine J_aload_n C rfl dX10_link_0 ?_ | refine J_aload_nq C rfl dX10_link_0 ?_ | refine J_aload_nN C rfl dX10_link_0 ?_
  refine J_null C dX10_link_1 ?_
  refine J_put C fl_X10_28 (by first | assumption | exact jv_up_at _ _ _ | (simp [jv_up, *]; done)) (by exact Nat.le_of_ble_eq_true rfl) (by first | rfl | exact jv_nar_o _ _) (by first | rfl | exact jv_fit_o _ _) dX10_link_2 ?_
  have hw1 := jv_up_of (x := psO pw pd t none nx nd) n1 hw
  first | refine J_aload_n C rfl dX10_link_5 ?_ | refine J_aload_nq C rfl dX10_link_5 ?_ | refine J_aload_nN C rfl dX10_link_5 ?_
  first | refine J_aload_n C rfl dX10_link_6 ?_ | refine J_aload_nq C rfl dX10_link_6 ?_ | refine J_aload_nN C rfl dX10_link_6 ?_
  refine J_get C fl_X10_20 (by first | assumption | exact jv_up_at _ _ _ | (simp [jv_up, *]; done)) (by rfl) dX10_link_7 ?_
  refine J_put C fl_X10_33 (by first | assumption | exact jv_up_at _ _ _ | (simp [jv_up, *]; done)) (by exact Nat.le_of_ble_eq_true rfl) (by first | rfl | exact jv_nar_o _ _) (by first | rfl | exact jv_fit_o _ _) dX10_link_10 ?_
  rw [jv_up_up]
  have hw2 := jv_up_of (x := psO pw pd t none none nd) n1 hw
  first | refine J_aload_n C rfl dX10_link_13 ?_ | refine J_aload_nq C rfl dX10_link_13 ?_ | refine J_aload_nN C rfl dX10_link_13 ?_
  refine J_get C fl_X10_20 (by exact hw2) (by rfl) dX10_link_14 ?_
  refine J_ifnull (x := none) C 28 (by decide) dX10_link_17 (fun _ => ?_) (fun _ z => by cases z)
  first | refine J_aload_n C rfl dX10_link_28 ?_ | refine J_aload_nq C rfl dX10_link_28 ?_ | refine J_aload_nN C rfl dX10_link_28 ?_
  first | refine J_aload_n C rfl dX10_link_29 ?_ | refine J_aload_nq C rfl dX10_link_29 ?_ | refine J_aload_nN C rfl dX10_link_29 ?_
  refine J_put C fl_X10_20 (by exact hw2) (by exact Nat.le_of_ble_eq_true rfl) (by first | rfl | exact jv_nar_o _ _) (by first | rfl | exact jv_fit_o _ _) dX10_link_30 ?_
  first | refine J_aload_n C rfl dX10_link_33 ?_ | refine J_aload_nq C rfl dX10_link_33 ?_ | refine J_aload_nN C rfl dX10_link_33 ?_
  refine J_dup C rfl dX10_link_34 ?_
  refine J_get C fl_X10_13 (by first | assumption | exact jv_up_at _ _ _ | (simp [jv_up, *]; done)) (by rfl) dX10_link_35 ?_
  refine J_iconst C (v := nI 1) (by decide) dX10_link_38 ?_
  first | refine J_niadd C dX10_link_39 ?_ | refine J_iadd C dX10_link_39 ?_
  refine J_put C fl_X10_13 (by first | assumption | exact jv_up_at _ _ _ | (simp [jv_up, *]; done)) (by exact Nat.le_of_ble_eq_true rfl) (by rfl) (by rfl) dX10_link_40 ?_
  rw [jv_up_up]
  refine J_vret C D ⟨rfl, rfl⟩ (by omega) (by omega) dX10_link_43
set_option maxHeartbeats 400000 in
theorem c_Word_link1 (w p q : Nat) (L : Int64) (hold tot t tq : Nat) (sp pw pd bf nx nd qw qd qb qn qnd : Option Nat) (hw : h w = some (wdO L hold tot (some q) sp)) (hp : h p = some (psO pw pd t bf nx nd)) (hq : h q = some (psO qw qd tq qb qn qnd)) (hne : p ≠ q) : Cn l yX10_link cX10_link 2 none 1 0 0 [.ref w, .ref p] h (fun r h1 => r = none ∧ h1 = jv_up (jv_up (jv_up h p (psO pw pd t none (some q) nd)) q (psO qw qd tq (some p) qn qnd)) w (wdO L (hold + 1) tot (some p) sp)) := by
  refine Cn.of (own := RX10) rfl (by decide) (by exact Nat.le_of_ble_eq_true rfl) (by decide) (fun K hK C D I => ?_)
  have n1 : w ≠ p := jv_neO hw hp (by decide)
  have n2 : w ≠ q := jv_neO hw hq (by decide)
  first | refine J_aload_n C rfl dX10_link_0 ?_ | refine J_aload_nq C rfl dX10_link_0 ?_ | refine J_aload_nN C rfl dX10_link_0 ?_
  refine J_null C dX10_link_1 ?_
  refine J_put C fl_X10_28 (by first | assumption | exact jv_up_at _ _ _ | (simp [jv_up, *]; done)) (by exact Nat.le_of_ble_eq_true rfl) (by first | rfl | exact jv_nar_o _ _) (by first | rfl | exact jv_fit_o _ _) dX10_link_2 ?_
  have hw1 := jv_up_of (x := psO pw pd t none nx nd) n1 hw
  first | refine J_aload_n C rfl dX10_link_5 ?_ | refine J_aload_nq C rfl dX10_link_5 ?_ | refine J_aload_nN C rfl dX10_link_5 ?_
  first | refine J_aload_n C rfl dX10_link_6 ?_ | refine J_aload_nq C rfl dX10_link_6 ?_ | refine J_aload_nN C rfl dX10_link_6 ?_
  refine J_get C fl_X10_20 (by first | assumption | exact jv_up_at _ _ _ | (simp [jv_up, *]; done)) (by rfl) dX10_link_7 ?_
  refine J_put C fl_X10_33 (by first | assumption | exact jv_up_at _ _ _ | (simp [jv_up, *]; done)) (by exact Nat.le_of_ble_eq_true rfl) (by first | rfl | exact jv_nar_o _ _) (by first | rfl | exact jv_fit_o _ _) dX10_link_10 ?_
  rw [jv_up_up]
  have hw2 := jv_up_of (x := psO pw pd t none (some q) nd) n1 hw
  have hq2 := jv_up_of (x := psO pw pd t none (some q) nd) hne.symm hq
  first | refine J_aload_n C rfl dX10_link_13 ?_ | refine J_aload_nq C rfl dX10_link_13 ?_ | refine J_aload_nN C rfl dX10_link_13 ?_
  refine J_get C fl_X10_20 (by exact hw2) (by rfl) dX10_link_14 ?_
  refine J_ifnull (x := some q) C 28 (by decide) dX10_link_17 (fun z => by cases z) (fun _ _ => ?_)
  first | refine J_aload_n C rfl dX10_link_20 ?_ | refine J_aload_nq C rfl dX10_link_20 ?_ | refine J_aload_nN C rfl dX10_link_20 ?_
  refine J_get C fl_X10_20 (by exact hw2) (by rfl) dX10_link_21 ?_
  first | refine J_aload_n C rfl dX10_link_24 ?_ | refine J_aload_nq C rfl dX10_link_24 ?_ | refine J_aload_nN C rfl dX10_link_24 ?_
  refine J_put C fl_X10_28 (by exact hq2) (by exact Nat.le_of_ble_eq_true rfl) (by first | rfl | exact jv_nar_o _ _) (by first | rfl | exact jv_fit_o _ _) dX10_link_25 ?_
  have hw3 := jv_up_of (x := psO qw qd tq (some p) qn qnd) n2 hw2
  first | refine J_aload_n C rfl dX10_link_28 ?_ | refine J_aload_nq C rfl dX10_link_28 ?_ | refine J_aload_nN C rfl dX10_link_28 ?_
  first | refine J_aload_n C rfl dX10_link_29 ?_ | refine J_aload_nq C rfl dX10_link_29 ?_ | refine J_aload_nN C rfl dX10_link_29 ?_
  refine J_put C fl_X10_20 (by exact hw3) (by exact Nat.le_of_ble_eq_true rfl) (by first | rfl | exact jv_nar_o _ _) (by first | rfl | exact jv_fit_o _ _) dX10_link_30 ?_
  first | refine J_aload_n C rfl dX10_link_33 ?_ | refine J_aload_nq C rfl dX10_link_33 ?_ | refine J_aload_nN C rfl dX10_link_33 ?_
  refine J_dup C rfl dX10_link_34 ?_
  refine J_get C fl_X10_13 (by first | assumption | exact jv_up_at _ _ _ | (simp [jv_up, *]; done)) (by rfl) dX10_link_35 ?_
  refine J_iconst C (v := nI 1) (by decide) dX10_link_38 ?_
  first | refine J_niadd C dX10_link_39 ?_ | refine J_iadd C dX10_link_39 ?_
  refine J_put C fl_X10_13 (by first | assumption | exact jv_up_at _ _ _ | (simp [jv_up, *]; done)) (by exact Nat.le_of_ble_eq_true rfl) (by rfl) (by rfl) dX10_link_40 ?_
  rw [jv_up_up]
  refine J_vret C D ⟨rfl, rfl⟩ (by omega) (by omega) dX10_link_43
end CELLS
