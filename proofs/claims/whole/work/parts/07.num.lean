section JNUM
variable {K : jT} {cc : ByteArray} {nL fr mc ms cells slots pc : Nat} {own : String} {lv : Nat → Option Value} {rest : List Value} {h : jH}
theorem jv_nar_o (n : String) (r : Option Nat) : narrow (.object n) (va_rf r) = va_rf r := by cases r <;> rfl
theorem jv_fit_o (n : String) (r : Option Nat) : fits (.object n) (va_rf r) = true := by cases r <;> rfl
theorem jv_nar_a (n : FieldType) (r : Option Nat) : narrow (.array n) (va_rf r) = va_rf r := by cases r <;> rfl
theorem jv_fit_a (n : FieldType) (r : Option Nat) : fits (.array n) (va_rf r) = true := by cases r <;> rfl
theorem J_niadd (C : JC K cc nL own fr mc ms) {a b : Nat} (d : decode cc pc = .ok (.iadd, 1)) (k : J K cells slots (pc + 1) lv (.int (nI (a + b)) :: rest) h) : J K cells slots pc lv (.int (nI b) :: .int (nI a) :: rest) h := J_iadd C d (by rw [nI_add]; exact k)
theorem J_nimul (C : JC K cc nL own fr mc ms) {a b : Nat} (d : decode cc pc = .ok (.imul, 1)) (k : J K cells slots (pc + 1) lv (.int (nI (a * b)) :: rest) h) : J K cells slots pc lv (.int (nI b) :: .int (nI a) :: rest) h := J_imul C d (by rw [pk_mul]; exact k)
theorem J_nisub (C : JC K cc nL own fr mc ms) {a b : Nat} (hb : b ≤ a) (d : decode cc pc = .ok (.isub, 1)) (k : J K cells slots (pc + 1) lv (.int (nI (a - b)) :: rest) h) : J K cells slots pc lv (.int (nI b) :: .int (nI a) :: rest) h := J_isub C d (by rw [pk_sub hb]; exact k)
theorem J_nidiv (C : JC K cc nL own fr mc ms) {a b : Nat} (ha : a < 2147483648) (h0 : 0 < b) (hb : b < 2147483648) (d : decode cc pc = .ok (.idiv, 1)) (k : J K cells slots (pc + 1) lv (.int (nI (a / b)) :: rest) h) : J K cells slots pc lv (.int (nI b) :: .int (nI a) :: rest) h := J_idiv C (nI_ne0 h0 hb) d (by rw [pk_div ha h0 hb]; exact k)
theorem J_niinc (C : JC K cc nL own fr mc ms) {i a b : Nat} (hv : lv i = some (.int (nI a))) (hn : i < nL) (d : decode cc pc = .ok (.iinc i (b : Int), 3)) (k : J K cells slots (pc + 3) (jv_u1 lv i (.int (nI (a + b)))) rest h) : J K cells slots pc lv rest h := by
  refine J_iinc C hv hn d ?_
  rw [show Int32.ofInt (b : Int) = nI b from rfl, nI_add]
  exact k
theorem J_ni2l (C : JC K cc nL own fr mc ms) {a : Nat} (ha : a < 2147483648) (d : decode cc pc = .ok (.i2l, 1)) (k : J K cells slots (pc + 1) lv (.long (lN a) :: rest) h) : J K cells slots pc lv (.int (nI a) :: rest) h := J_i2l C d (by rw [nI_l ha]; exact k)
theorem J_nicmp_lt (C : JC K cc nL own fr mc ms) {a b : Nat} (ha : a < 2147483648) (hb : b < 2147483648) {off : Int} (tgt : Nat) (ht : (pc : Int) + off = (tgt : Int)) (d : decode cc pc = .ok (.if_icmp .lt off, 3)) (kt : a < b → J K cells slots tgt lv rest h) (kf : b ≤ a → J K cells slots (pc + 3) lv rest h) : J K cells slots pc lv (.int (nI b) :: .int (nI a) :: rest) h :=
  J_icmp_lt C tgt ht d (fun z => kt ((nI_ltI ha hb).mp z)) (fun z => kf (Nat.not_lt.mp (fun w => z ((nI_ltI ha hb).mpr w))))
theorem J_nicmp_ge (C : JC K cc nL own fr mc ms) {a b : Nat} (ha : a < 2147483648) (hb : b < 2147483648) {off : Int} (tgt : Nat) (ht : (pc : Int) + off = (tgt : Int)) (d : decode cc pc = .ok (.if_icmp .ge off, 3)) (kt : b ≤ a → J K cells slots tgt lv rest h) (kf : a < b → J K cells slots (pc + 3) lv rest h) : J K cells slots pc lv (.int (nI b) :: .int (nI a) :: rest) h :=
  J_icmp_ge C tgt ht d (fun z => kt ((nI_leI hb ha).mp z)) (fun z => kf (Nat.not_le.mp (fun w => z ((nI_leI hb ha).mpr w))))
theorem J_nicmp_gt (C : JC K cc nL own fr mc ms) {a b : Nat} (ha : a < 2147483648) (hb : b < 2147483648) {off : Int} (tgt : Nat) (ht : (pc : Int) + off = (tgt : Int)) (d : decode cc pc = .ok (.if_icmp .gt off, 3)) (kt : b < a → J K cells slots tgt lv rest h) (kf : a ≤ b → J K cells slots (pc + 3) lv rest h) : J K cells slots pc lv (.int (nI b) :: .int (nI a) :: rest) h :=
  J_icmp_gt C tgt ht d (fun z => kt ((nI_ltI hb ha).mp z)) (fun z => kf (Nat.not_lt.mp (fun w => z ((nI_ltI hb ha).mpr w))))
theorem J_nicmp_le (C : JC K cc nL own fr mc ms) {a b : Nat} (ha : a < 2147483648) (hb : b < 2147483648) {off : Int} (tgt : Nat) (ht : (pc : Int) + off = (tgt : Int)) (d : decode cc pc = .ok (.if_icmp .le off, 3)) (kt : a ≤ b → J K cells slots tgt lv rest h) (kf : b < a → J K cells slots (pc + 3) lv rest h) : J K cells slots pc lv (.int (nI b) :: .int (nI a) :: rest) h :=
  J_icmp_le C tgt ht d (fun z => kt ((nI_leI ha hb).mp z)) (fun z => kf (Nat.not_le.mp (fun w => z ((nI_leI ha hb).mpr w))))
theorem J_nicmp_eq (C : JC K cc nL own fr mc ms) {a b : Nat} (ha : a < 2147483648) (hb : b < 2147483648) {off : Int} (tgt : Nat) (ht : (pc : Int) + off = (tgt : Int)) (d : decode cc pc = .ok (.if_icmp .eq off, 3)) (kt : a = b → J K cells slots tgt lv rest h) (kf : a ≠ b → J K cells slots (pc + 3) lv rest h) : J K cells slots pc lv (.int (nI b) :: .int (nI a) :: rest) h :=
  J_icmp_eq C tgt ht d (fun z => kt ((nI_eq ha hb).mp z)) (fun z => kf (fun w => z ((nI_eq ha hb).mpr w)))
theorem J_nicmp_ne (C : JC K cc nL own fr mc ms) {a b : Nat} (ha : a < 2147483648) (hb : b < 2147483648) {off : Int} (tgt : Nat) (ht : (pc : Int) + off = (tgt : Int)) (d : decode cc pc = .ok (.if_icmp .ne off, 3)) (kt : a ≠ b → J K cells slots tgt lv rest h) (kf : a = b → J K cells slots (pc + 3) lv rest h) : J K cells slots pc lv (.int (nI b) :: .int (nI a) :: rest) h :=
  J_icmp_ne C tgt ht d (fun z => kt (fun w => z ((nI_eq ha hb).mpr w))) (fun z => kf ((nI_eq ha hb).mp z))
theorem J_nif_lt (C : JC K cc nL own fr mc ms) {a : Nat} (ha : a < 2147483648) {off : Int} (tgt : Nat) (d : decode cc pc = .ok (.ifCond .lt off, 3)) (ht : (pc : Int) + off = (tgt : Int)) (kf : J K cells slots (pc + 3) lv rest h) : J K cells slots pc lv (.int (nI a) :: rest) h :=
  J_if_lt C tgt ht d (fun z => absurd z (nI_pos ha)) (fun _ => kf)
theorem J_nif_ge (C : JC K cc nL own fr mc ms) {a : Nat} (ha : a < 2147483648) {off : Int} (tgt : Nat) (ht : (pc : Int) + off = (tgt : Int)) (d : decode cc pc = .ok (.ifCond .ge off, 3)) (kt : J K cells slots tgt lv rest h) : J K cells slots pc lv (.int (nI a) :: rest) h :=
  J_if_ge C tgt ht d (fun _ => kt) (fun z => absurd (nI_pos' ha) z)
theorem J_nif_eq (C : JC K cc nL own fr mc ms) {a : Nat} (ha : a < 2147483648) {off : Int} (tgt : Nat) (ht : (pc : Int) + off = (tgt : Int)) (d : decode cc pc = .ok (.ifCond .eq off, 3)) (kt : a = 0 → J K cells slots tgt lv rest h) (kf : 0 < a → J K cells slots (pc + 3) lv rest h) : J K cells slots pc lv (.int (nI a) :: rest) h :=
  J_if_eq C tgt ht d (fun z => kt ((nI_eq ha (by decide)).mp (z.trans nI_0.symm))) (fun z => kf (Nat.pos_of_ne_zero (fun w => z (by rw [w]; exact nI_0))))
theorem J_nif_ne (C : JC K cc nL own fr mc ms) {a : Nat} (ha : a < 2147483648) {off : Int} (tgt : Nat) (ht : (pc : Int) + off = (tgt : Int)) (d : decode cc pc = .ok (.ifCond .ne off, 3)) (kt : 0 < a → J K cells slots tgt lv rest h) (kf : a = 0 → J K cells slots (pc + 3) lv rest h) : J K cells slots pc lv (.int (nI a) :: rest) h :=
  J_if_ne C tgt ht d (fun z => kt (Nat.pos_of_ne_zero (fun w => z (by rw [w]; exact nI_0)))) (fun z => kf ((nI_eq ha (by decide)).mp (z.trans nI_0.symm)))
theorem J_nif_gt (C : JC K cc nL own fr mc ms) {a : Nat} (ha : a < 2147483648) {off : Int} (tgt : Nat) (ht : (pc : Int) + off = (tgt : Int)) (d : decode cc pc = .ok (.ifCond .gt off, 3)) (kt : 0 < a → J K cells slots tgt lv rest h) (kf : a = 0 → J K cells slots (pc + 3) lv rest h) : J K cells slots pc lv (.int (nI a) :: rest) h := by
  refine J_if_gt C tgt ht d (fun z => kt (Nat.pos_of_ne_zero (fun w => ?_))) (fun z => kf (Nat.eq_zero_of_not_pos (fun w => z ?_)))
  · subst w; exact absurd z (by decide)
  · have := nI_lt w ha; rw [nI_0] at this; exact this
theorem J_nif_le (C : JC K cc nL own fr mc ms) {a : Nat} (ha : a < 2147483648) {off : Int} (tgt : Nat) (ht : (pc : Int) + off = (tgt : Int)) (d : decode cc pc = .ok (.ifCond .le off, 3)) (kt : a = 0 → J K cells slots tgt lv rest h) (kf : 0 < a → J K cells slots (pc + 3) lv rest h) : J K cells slots pc lv (.int (nI a) :: rest) h := by
  refine J_if_le C tgt ht d (fun z => kt (Nat.eq_zero_of_not_pos (fun w => ?_))) (fun z => kf (Nat.pos_of_ne_zero (fun w => z ?_)))
  · exact nI_nle w ha z
  · subst w; decide
/-- a boolean as the machine has it -/
def jv_b (p : Bool) : Int32 := if p then 1 else 0
theorem J_bif_eq (C : JC K cc nL own fr mc ms) {p : Bool} {off : Int} (tgt : Nat) (ht : (pc : Int) + off = (tgt : Int)) (d : decode cc pc = .ok (.ifCond .eq off, 3)) (kt : p = false → J K cells slots tgt lv rest h) (kf : p = true → J K cells slots (pc + 3) lv rest h) : J K cells slots pc lv (.int (jv_b p) :: rest) h := by
  refine J_if_eq C tgt ht d (fun z => kt ?_) (fun z => kf ?_) <;> cases p <;> first | rfl | exact absurd z (by decide)
theorem J_bif_ne (C : JC K cc nL own fr mc ms) {p : Bool} {off : Int} (tgt : Nat) (ht : (pc : Int) + off = (tgt : Int)) (d : decode cc pc = .ok (.ifCond .ne off, 3)) (kt : p = true → J K cells slots tgt lv rest h) (kf : p = false → J K cells slots (pc + 3) lv rest h) : J K cells slots pc lv (.int (jv_b p) :: rest) h := by
  refine J_if_ne C tgt ht d (fun z => kt ?_) (fun z => kf ?_) <;> cases p <;> first | rfl | exact absurd z (by decide)
theorem jv_b_or (p : Bool) : jv_b p = 0 ∨ jv_b p = 1 := by cases p <;> decide
theorem jv_nar_b (p : Bool) : narrow .boolean (.int (jv_b p)) = .int (jv_b p) := by cases p <;> rfl
theorem jv_fit_b (p : Bool) : fits .boolean (.int (jv_b p)) = true := by cases p <;> rfl
theorem jv_var_b (p : Bool) : vp_nar .boolean (jv_b p) = jv_b p := by cases p <;> rfl
end JNUM
