/-! the model: what it holds; small methods -/
/-- its tape -/
def mdT (g : Nat → Int32) (N : Nat → Nat → Int32) (nt : Nat) (B : Nat → Nat) : Prop := g 1 = nI nt ∧ nt ≤ 400 ∧ ∀ i, i < nt → N 2 i = nI (B i) ∧ B i < 256
/-- its documents -/
def mdD (g : Nat → Int32) (N : Nat → Nat → Int32) (Q : Nat → Nat → Int64) (md : dsT) : Prop :=
  g 3 = nI md.length ∧ md.length ≤ 120 ∧ ∀ d p, md[d]? = some p → N 4 d = nI p.1 ∧ p.1 < 10000 ∧ N 5 d = nI p.2.length ∧ p.2.length ≤ 200 ∧ ∀ k w, p.2[k]? = some w → Q 6 (200 * d + k) = w
theorem take_cnt {ws : List Int64} {i : Nat} {u w : Int64} (h : ws[i]? = some u) : (ws.take (i + 1)).count w = (ws.take i).count w + if u = w then 1 else 0 := by
  rw [List.take_add_one, h, Option.toList_some, List.count_append, List.count_singleton]
  by_cases c : u = w
  · rw [if_pos c, c]; simp
  · rw [if_neg c, if_neg (fun z => c (beq_iff_eq.mp z))]
theorem w_55 {p : Nat} (hp : p < 12) : 55 - 5 * p = 5 * (11 - p) := by omega
section MBASE
variable {l : jL} {h : jH} {m : Nat} {A : Nat → Nat} {g : Nat → Int32} {N : Nat → Nat → Int32} {Q : Nat → Nat → Int64} {md : dsT} {nt : Nat} {B : Nat → Nat}
theorem c_M_letterOf (b : Nat) (hb : b < 1000) : Cn l yX12_letterOf cX12_letterOf 1 (some .int) 1 0 0 [.int (nI b)] h (fun r h1 => r = some (.int (nI (sp_let b))) ∧ h1 = h) := by
  refine Cn.of (own := RX12) rfl (by decide) (by exact Nat.le_of_ble_eq_true rfl) (by decide) (fun K hK C D _ => ?_)
  have K19 : ¬ (97 ≤ b ∧ b ≤ 122) → J K 0 0 19 (jv_l [(0, .int (nI b))]) [] h := by
    intro hn
    refine J_iload_n C rfl dX12_letterOf_19 ?_
    refine J_bipush C (v := nI 65) (by decide) dX12_letterOf_20 ?_
    refine J_nicmp_lt C (by first | omega | (dsimp only; omega)) (by first | omega | (dsimp only; omega)) 38 (by decide) dX12_letterOf_22 (fun z1 => ?_) (fun z1 => ?_)
    · refine J_iconst C (v := nI 0) (by decide) dX12_letterOf_38 ?_
      refine J_iret C D ⟨by unfold sp_let; rw [if_neg hn, if_neg (by omega)], rfl⟩ (by omega) (by omega) dX12_letterOf_39
    · refine J_iload_n C rfl dX12_letterOf_25 ?_
      refine J_bipush C (v := nI 90) (by decide) dX12_letterOf_26 ?_
      refine J_nicmp_gt C (by first | omega | (dsimp only; omega)) (by first | omega | (dsimp only; omega)) 38 (by decide) dX12_letterOf_28 (fun z2 => ?_) (fun z2 => ?_)
      · refine J_iconst C (v := nI 0) (by decide) dX12_letterOf_38 ?_
        refine J_iret C D ⟨by unfold sp_let; rw [if_neg hn, if_neg (by omega)], rfl⟩ (by omega) (by omega) dX12_letterOf_39
      · refine J_iload_n C rfl dX12_letterOf_31 ?_
        refine J_bipush C (v := nI 64) (by decide) dX12_letterOf_32 ?_
        first | refine J_nisub C (by omega) dX12_letterOf_34 ?_ | refine J_isub C dX12_letterOf_34 ?_
        refine J_goto C 39 (by decide) dX12_letterOf_35 ?_
        refine J_iret C D ⟨by unfold sp_let; rw [if_neg hn, if_pos (by omega)], rfl⟩ (by omega) (by omega) dX12_letterOf_39
  refine J_iload_n C rfl dX12_letterOf_0 ?_
  refine J_bipush C (v := nI 97) (by decide) dX12_letterOf_1 ?_
  refine J_nicmp_lt C (by first | omega | (dsimp only; omega)) (by first | omega | (dsimp only; omega)) 19 (by decide) dX12_letterOf_3 (fun z1 => ?_) (fun z1 => ?_)
  · refine J_sub (by exact (And.intro rfl trivial)) (K19 (by omega))
  · refine J_iload_n C rfl dX12_letterOf_6 ?_
    refine J_bipush C (v := nI 122) (by decide) dX12_letterOf_7 ?_
    refine J_nicmp_gt C (by first | omega | (dsimp only; omega)) (by first | omega | (dsimp only; omega)) 19 (by decide) dX12_letterOf_9 (fun z2 => ?_) (fun z2 => ?_)
    · refine J_sub (by exact (And.intro rfl trivial)) (K19 (by omega))
    · refine J_iload_n C rfl dX12_letterOf_12 ?_
      refine J_bipush C (v := nI 96) (by decide) dX12_letterOf_13 ?_
      first | refine J_nisub C (by omega) dX12_letterOf_15 ?_ | refine J_isub C dX12_letterOf_15 ?_
      refine J_goto C 39 (by decide) dX12_letterOf_16 ?_
      refine J_iret C D ⟨by unfold sp_let; rw [if_pos (by omega)], rfl⟩ (by omega) (by omega) dX12_letterOf_39
theorem c_M_with (L : Int64) (p c : Nat) (hp : p < 12) : Cn l yX12_with cX12_with 4 (some .long) 1 0 0 [.long L, .int (nI p), .int (nI c)] h (fun r h1 => r = some (.long (sp_with L p c)) ∧ h1 = h) := by
  refine Cn.of (own := RX12) rfl (by decide) (by exact Nat.le_of_ble_eq_true rfl) (by decide) (fun K hK C D _ => ?_)
  refine J_lload_n C rfl dX12_with_0 ?_
  refine J_iload_n C rfl dX12_with_1 ?_
  refine J_i2l C dX12_with_2 ?_
  refine J_bipush C (v := nI 55) (by decide) dX12_with_3 ?_
  refine J_iconst C (v := nI 5) (by decide) dX12_with_5 ?_
  refine J_iload_n C rfl dX12_with_6 ?_
  first | refine J_nimul C dX12_with_7 ?_ | refine J_imul C dX12_with_7 ?_
  first | refine J_nisub C (by omega) dX12_with_8 ?_ | refine J_isub C dX12_with_8 ?_
  refine J_lshl C dX12_with_9 ?_
  refine J_lor C dX12_with_10 ?_
  refine J_lret C D ⟨by unfold sp_with; rw [w_55 hp], rfl⟩ (by omega) (by omega) dX12_with_11
theorem c_M_byteAt (M : mdl h m A g N Q) (T : mdT g N nt B) (i : Nat) (hi : i < 1000) : Cn l yX12_byteAt cX12_byteAt 2 (some .int) 1 0 0 [.ref m, .int (nI i)] h (fun r h1 => r = some (.int (if i < nt then nI (B i) else -1)) ∧ h1 = h) := by
  have m1 := M.1
  have a2 := M.2.1 2 _ rfl
  obtain ⟨t1, t2, t3⟩ := T
  refine Cn.of (own := RX12) rfl (by decide) (by exact Nat.le_of_ble_eq_true rfl) (by decide) (fun K hK C D _ => ?_)
  refine J_iload_n C rfl dX12_byteAt_0 ?_
  first | refine J_aload_n C rfl dX12_byteAt_1 ?_ | refine J_aload_nq C rfl dX12_byteAt_1 ?_ | refine J_aload_nN C rfl dX12_byteAt_1 ?_
  refine J_get C fl_X12_74 (by first | assumption | exact jv_up_at _ _ _ | (simp [jv_up, *]; done)) (by rfl) dX12_byteAt_2 ?_
  rw [t1]
  refine J_nicmp_ge C (by first | omega | (dsimp only; omega)) (by first | omega | (dsimp only; omega)) 17 (by decide) dX12_byteAt_5 (fun z1 => ?_) (fun z1 => ?_)
  · refine J_iconst C (v := (-1)) (by decide) dX12_byteAt_17 ?_
    refine J_iret C D ⟨by rw [if_neg (by omega)], rfl⟩ (by omega) (by omega) dX12_byteAt_18
  · first | refine J_aload_n C rfl dX12_byteAt_8 ?_ | refine J_aload_nq C rfl dX12_byteAt_8 ?_ | refine J_aload_nN C rfl dX12_byteAt_8 ?_
    refine J_get C fl_X12_7 (by first | assumption | exact jv_up_at _ _ _ | (simp [jv_up, *]; done)) (by rfl) dX12_byteAt_9 ?_
    refine J_iload_n C rfl dX12_byteAt_12 ?_
    refine J_iald C (by first | assumption | exact jv_up_at _ _ _ | (simp [jv_up, *]; done)) rfl (by omega) (by omega) dX12_byteAt_13 ?_
    refine J_goto C 18 (by decide) dX12_byteAt_14 ?_
    refine J_iret C D ⟨by rw [if_pos z1, (t3 i z1).1], rfl⟩ (by omega) (by omega) dX12_byteAt_18
theorem c_M_isNumber (x : Int32) : Cn l yX12_isNumber cX12_isNumber 1 (some .boolean) 1 0 0 [.int x] h (fun r h1 => h1 = h ∧ ((r = some (.int (jv_b true)) ∧ ∃ k, k < 10000 ∧ x = nI k) ∨ (r = some (.int (jv_b false)) ∧ ∀ k, k < 10000 → x ≠ nI k))) := by
  refine Cn.of (own := RX12) rfl (by decide) (by exact Nat.le_of_ble_eq_true rfl) (by decide) (fun K hK C D _ => ?_)
  refine J_iload_n C rfl dX12_isNumber_0 ?_
  refine J_if_lt C 15 (by decide) dX12_isNumber_1 (fun z1 => ?_) (fun z1 => ?_)
  · refine J_iconst C (v := nI 0) (by decide) dX12_isNumber_15 ?_
    refine J_zret C D (Or.inl rfl) ⟨rfl, Or.inr ⟨rfl, fun k hk e => by rw [e] at z1; exact nI_pos (by omega) z1⟩⟩ (by omega) (by omega) dX12_isNumber_16
  · obtain ⟨k, hk, rfl⟩ := nI_of z1
    refine J_iload_n C rfl dX12_isNumber_4 ?_
    refine J_sipush C (v := nI 9999) (by decide) dX12_isNumber_5 ?_
    refine J_nicmp_gt C (by first | omega | (dsimp only; omega)) (by first | omega | (dsimp only; omega)) 15 (by decide) dX12_isNumber_8 (fun z2 => ?_) (fun z2 => ?_)
    · refine J_iconst C (v := nI 0) (by decide) dX12_isNumber_15 ?_
      refine J_zret C D (Or.inl rfl) ⟨rfl, Or.inr ⟨rfl, fun m hm e => by have e := nI_inj (by omega) (by omega) e; omega⟩⟩ (by omega) (by omega) dX12_isNumber_16
    · refine J_iconst C (v := nI 1) (by decide) dX12_isNumber_11 ?_
      refine J_goto C 16 (by decide) dX12_isNumber_12 ?_
      refine J_zret C D (Or.inr rfl) ⟨rfl, Or.inl ⟨rfl, k, by omega, rfl⟩⟩ (by omega) (by omega) dX12_isNumber_16
theorem c_M_thrown (M : mdl h m A g N Q) : Cn l yX12_thrown cX12_thrown 1 (some .int) 1 0 0 [.ref m] h (fun r h1 => r = some (.int (g 0)) ∧ h1 = h) := by
  have m1 := M.1
  refine Cn.of (own := RX12) rfl (by decide) (by exact Nat.le_of_ble_eq_true rfl) (by decide) (fun K hK C D _ => ?_)
  first | refine J_aload_n C rfl dX12_thrown_0 ?_ | refine J_aload_nq C rfl dX12_thrown_0 ?_ | refine J_aload_nN C rfl dX12_thrown_0 ?_
  refine J_get C fl_X12_68 (by first | assumption | exact jv_up_at _ _ _ | (simp [jv_up, *]; done)) (by rfl) dX12_thrown_1 ?_
  refine J_iret C D ⟨rfl, rfl⟩ (by omega) (by omega) dX12_thrown_4
/-- the place of the document with number X, any int, or -1 -/
def mxP (md : dsT) (X r : Int32) : Prop := (∃ d p, md[d]? = some p ∧ nI p.1 = X ∧ r = nI d) ∨ ((∀ p ∈ md, nI p.1 ≠ X) ∧ r = -1)
theorem c_M_placeOf (M : mdl h m A g N Q) (D9 : mdD g N Q md) (X : Int32) : Cn l yX12_placeOf cX12_placeOf 4 (some .int) 1 0 0 [.ref m, .int X] h (fun r h1 => h1 = h ∧ ∃ i, r = some (.int i) ∧ mxP md X i) := by
  have m1 := M.1
  have a4 := M.2.1 4 _ rfl
  obtain ⟨t1, t2, t3⟩ := D9
  refine Cn.of (own := RX12) rfl (by decide) (by exact Nat.le_of_ble_eq_true rfl) (by decide) (fun K hK C D _ => ?_)
  have loop : ∀ (n i : Nat) (it : Int32), i + n = md.length → mxP (md.take i) X it → J K 0 0 4 (jv_l [(3, .int (nI i)), (2, .int it), (1, .int X), (0, .ref m)]) [] h := by
    intro n
    induction n with
    | zero =>
      intro i it hi hp
      have hi : i = md.length := hi
      refine J_iload_n C rfl dX12_placeOf_4 ?_
      first | refine J_aload_n C rfl dX12_placeOf_5 ?_ | refine J_aload_nq C rfl dX12_placeOf_5 ?_ | refine J_aload_nN C rfl dX12_placeOf_5 ?_
      refine J_get C fl_X12_85 (by first | assumption | exact jv_up_at _ _ _ | (simp [jv_up, *]; done)) (by rfl) dX12_placeOf_6 ?_
      rw [t1]
      refine J_nicmp_ge C (by first | omega | (dsimp only; omega)) (by first | omega | (dsimp only; omega)) 34 (by decide) dX12_placeOf_9 (fun z => ?_) (fun z => ?_)
      · refine J_iload_n C rfl dX12_placeOf_34 ?_
        refine J_iret C D ⟨rfl, it, rfl, by rw [hi, List.take_length] at hp; exact hp⟩ (by omega) (by omega) dX12_placeOf_35
      · omega
    | succ n ih =>
      intro i it hi hp
      have hx := List.getElem?_eq_getElem (l := md) (i := i) (by omega)
      generalize md[i]'(by omega) = p at hx
      have hp4 := (t3 i p hx).1
      refine J_iload_n C rfl dX12_placeOf_4 ?_
      first | refine J_aload_n C rfl dX12_placeOf_5 ?_ | refine J_aload_nq C rfl dX12_placeOf_5 ?_ | refine J_aload_nN C rfl dX12_placeOf_5 ?_
      refine J_get C fl_X12_85 (by first | assumption | exact jv_up_at _ _ _ | (simp [jv_up, *]; done)) (by rfl) dX12_placeOf_6 ?_
      rw [t1]
      refine J_nicmp_ge C (by first | omega | (dsimp only; omega)) (by first | omega | (dsimp only; omega)) 34 (by decide) dX12_placeOf_9 (fun z => ?_) (fun z => ?_)
      · omega
      · first | refine J_aload_n C rfl dX12_placeOf_12 ?_ | refine J_aload_nq C rfl dX12_placeOf_12 ?_ | refine J_aload_nN C rfl dX12_placeOf_12 ?_
        refine J_get C fl_X12_13 (by first | assumption | exact jv_up_at _ _ _ | (simp [jv_up, *]; done)) (by rfl) dX12_placeOf_13 ?_
        refine J_iload_n C rfl dX12_placeOf_16 ?_
        refine J_iald C (by first | assumption | exact jv_up_at _ _ _ | (simp [jv_up, *]; done)) rfl (by omega) (by omega) dX12_placeOf_17 ?_
        rw [hp4]
        have ht : md.take (i + 1) = md.take i ++ [p] := by rw [List.take_add_one, hx]; rfl
        refine J_iload_n C rfl dX12_placeOf_18 ?_
        refine J_icmp_ne C 26 (by decide) dX12_placeOf_19 (fun z1 => ?_) (fun z1 => ?_)
        · refine J_iload_n C rfl dX12_placeOf_26 ?_
          refine J_istore_n C (by decide) dX12_placeOf_27 ?_
          first | refine J_niinc (b := 1) C rfl (by decide) dX12_placeOf_28 ?_ | refine J_iinc C rfl (by decide) dX12_placeOf_28 ?_
          refine J_goto C 4 (by decide) dX12_placeOf_31 ?_
          refine J_sub (by exact (And.intro rfl (And.intro rfl (And.intro rfl (And.intro rfl trivial))))) (ih (i + 1) it (by omega) ?_)
          rw [ht]
          rcases hp with ⟨d, q, q1, q2, q3⟩ | ⟨q1, q2⟩
          · exact Or.inl ⟨d, q, by rw [List.getElem?_append_left (List.getElem?_eq_some_iff.mp q1).1]; exact q1, q2, q3⟩
          · exact Or.inr ⟨fun q hq => (List.mem_append.mp hq).elim (q1 q) (fun z => by rw [List.mem_singleton.mp z]; exact z1), q2⟩
        · refine J_iload_n C rfl dX12_placeOf_22 ?_
          refine J_goto C 27 (by decide) dX12_placeOf_23 ?_
          refine J_istore_n C (by decide) dX12_placeOf_27 ?_
          first | refine J_niinc (b := 1) C rfl (by decide) dX12_placeOf_28 ?_ | refine J_iinc C rfl (by decide) dX12_placeOf_28 ?_
          refine J_goto C 4 (by decide) dX12_placeOf_31 ?_
          refine J_sub (by exact (And.intro rfl (And.intro rfl (And.intro rfl (And.intro rfl trivial))))) (ih (i + 1) (nI i) (by omega) ?_)
          rw [ht]
          refine Or.inl ⟨i, p, ?_, z1, rfl⟩
          have hl : (md.take i).length = i := by rw [List.length_take]; omega
          rw [List.getElem?_append_right (by omega), hl, Nat.sub_self]
          rfl
  refine J_iconst C (v := (-1)) (by decide) dX12_placeOf_0 ?_
  refine J_istore_n C (by decide) dX12_placeOf_1 ?_
  refine J_iconst C (v := nI 0) (by decide) dX12_placeOf_2 ?_
  refine J_istore_n C (by decide) dX12_placeOf_3 ?_
  refine J_sub (by exact (And.intro rfl (And.intro rfl (And.intro rfl (And.intro rfl trivial))))) (loop md.length 0 (-1) (by omega) (Or.inr ⟨fun p hp => (by cases hp), rfl⟩))
theorem c_M_times (M : mdl h m A g N Q) (D9 : mdD g N Q md) {d : Nat} {p : Nat × List Int64} (hd : md[d]? = some p) (w : Int64) : Cn l yX12_times cX12_times 6 (some .int) 1 0 0 [.ref m, .int (nI d), .long w] h (fun r h1 => r = some (.int (nI (p.2.count w))) ∧ h1 = h) := by
  have m1 := M.1
  have a5 := M.2.1 5 _ rfl
  have a6 := M.2.1 6 _ rfl
  obtain ⟨t1, t2, t3⟩ := D9
  obtain ⟨p1, p2, p3, p4, p5⟩ := t3 d p hd
  have hdl := (List.getElem?_eq_some_iff.mp hd).1
  refine Cn.of (own := RX12) rfl (by decide) (by exact Nat.le_of_ble_eq_true rfl) (by decide) (fun K hK C D _ => ?_)
  have loop : ∀ (n i : Nat), i + n = p.2.length → J K 0 0 10 (jv_l [(5, .int (nI (200 * d + i))), (4, .int (nI ((p.2.take i).count w))), (2, .long w), (1, .int (nI d)), (0, .ref m)]) [] h := by
    intro n
    induction n with
    | zero =>
      intro i hi
      have hi : i = p.2.length := hi
      refine J_iload C rfl dX12_times_10 ?_
      refine J_sipush C (v := nI 200) (by decide) dX12_times_12 ?_
      refine J_iload_n C rfl dX12_times_15 ?_
      first | refine J_nimul C dX12_times_16 ?_ | refine J_imul C dX12_times_16 ?_
      first | refine J_aload_n C rfl dX12_times_17 ?_ | refine J_aload_nq C rfl dX12_times_17 ?_ | refine J_aload_nN C rfl dX12_times_17 ?_
      refine J_get C fl_X12_16 (by first | assumption | exact jv_up_at _ _ _ | (simp [jv_up, *]; done)) (by rfl) dX12_times_18 ?_
      refine J_iload_n C rfl dX12_times_21 ?_
      refine J_iald C (by first | assumption | exact jv_up_at _ _ _ | (simp [jv_up, *]; done)) rfl (by omega) (by omega) dX12_times_22 ?_
      rw [p3]
      first | refine J_niadd C dX12_times_23 ?_ | refine J_iadd C dX12_times_23 ?_
      refine J_nicmp_ge C (by first | omega | (dsimp only; omega)) (by first | omega | (dsimp only; omega)) 56 (by decide) dX12_times_24 (fun z => ?_) (fun z => ?_)
      · refine J_iload C rfl dX12_times_56 ?_
        refine J_iret C D ⟨by rw [hi, List.take_length], rfl⟩ (by omega) (by omega) dX12_times_58
      · omega
    | succ n ih =>
      intro i hi
      have hx := List.getElem?_eq_getElem (l := p.2) (i := i) (by omega)
      generalize p.2[i]'(by omega) = u at hx
      have hu := p5 i u hx
      refine J_iload C rfl dX12_times_10 ?_
      refine J_sipush C (v := nI 200) (by decide) dX12_times_12 ?_
      refine J_iload_n C rfl dX12_times_15 ?_
      first | refine J_nimul C dX12_times_16 ?_ | refine J_imul C dX12_times_16 ?_
      first | refine J_aload_n C rfl dX12_times_17 ?_ | refine J_aload_nq C rfl dX12_times_17 ?_ | refine J_aload_nN C rfl dX12_times_17 ?_
      refine J_get C fl_X12_16 (by first | assumption | exact jv_up_at _ _ _ | (simp [jv_up, *]; done)) (by rfl) dX12_times_18 ?_
      refine J_iload_n C rfl dX12_times_21 ?_
      refine J_iald C (by first | assumption | exact jv_up_at _ _ _ | (simp [jv_up, *]; done)) rfl (by omega) (by omega) dX12_times_22 ?_
      rw [p3]
      first | refine J_niadd C dX12_times_23 ?_ | refine J_iadd C dX12_times_23 ?_
      refine J_nicmp_ge C (by first | omega | (dsimp only; omega)) (by first | omega | (dsimp only; omega)) 56 (by decide) dX12_times_24 (fun z => ?_) (fun z => ?_)
      · omega
      · first | refine J_aload_n C rfl dX12_times_27 ?_ | refine J_aload_nq C rfl dX12_times_27 ?_ | refine J_aload_nN C rfl dX12_times_27 ?_
        refine J_get C fl_X12_19 (by first | assumption | exact jv_up_at _ _ _ | (simp [jv_up, *]; done)) (by rfl) dX12_times_28 ?_
        refine J_iload C rfl dX12_times_31 ?_
        refine J_lald C (by first | assumption | exact jv_up_at _ _ _ | (simp [jv_up, *]; done)) rfl (by omega) (by omega) dX12_times_33 ?_
        rw [hu]
        refine J_lload_n C rfl dX12_times_34 ?_
        refine J_lcmp C dX12_times_35 ?_
        have hc := take_cnt (w := w) hx
        refine J_if_ne C 46 (by decide) dX12_times_36 (fun z1 => ?_) (fun z1 => ?_)
        · have z1 : ¬ u = w := fun e => z1 ((lg_cmp_eq _ _).mpr e)
          rw [if_neg z1, Nat.add_zero] at hc
          have L0 := ih (i + 1) (by omega)
          rw [hc] at L0
          refine J_iload C rfl dX12_times_46 ?_
          refine J_istore C (by decide) dX12_times_48 ?_
          first | refine J_niinc (b := 1) C rfl (by decide) dX12_times_50 ?_ | refine J_iinc C rfl (by decide) dX12_times_50 ?_
          refine J_goto C 10 (by decide) dX12_times_53 ?_
          refine J_sub (by exact (And.intro rfl (And.intro rfl (And.intro rfl (And.intro rfl (And.intro rfl trivial)))))) (L0)
        · have z1 := (lg_cmp_eq _ _).mp z1
          rw [if_pos z1] at hc
          have L0 := ih (i + 1) (by omega)
          rw [hc] at L0
          refine J_iload C rfl dX12_times_39 ?_
          refine J_iconst C (v := nI 1) (by decide) dX12_times_41 ?_
          first | refine J_niadd C dX12_times_42 ?_ | refine J_iadd C dX12_times_42 ?_
          refine J_goto C 48 (by decide) dX12_times_43 ?_
          refine J_istore C (by decide) dX12_times_48 ?_
          first | refine J_niinc (b := 1) C rfl (by decide) dX12_times_50 ?_ | refine J_iinc C rfl (by decide) dX12_times_50 ?_
          refine J_goto C 10 (by decide) dX12_times_53 ?_
          refine J_sub (by exact (And.intro rfl (And.intro rfl (And.intro rfl (And.intro rfl (And.intro rfl trivial)))))) (L0)
  refine J_iconst C (v := nI 0) (by decide) dX12_times_0 ?_
  refine J_istore C (by decide) dX12_times_1 ?_
  refine J_sipush C (v := nI 200) (by decide) dX12_times_3 ?_
  refine J_iload_n C rfl dX12_times_6 ?_
  first | refine J_nimul C dX12_times_7 ?_ | refine J_imul C dX12_times_7 ?_
  refine J_istore C (by decide) dX12_times_8 ?_
  refine J_sub (by exact (And.intro rfl (And.intro rfl (And.intro rfl (And.intro rfl (And.intro rfl trivial)))))) (loop p.2.length 0 (by omega))
theorem c_M_impact (M : mdl h m A g N Q) (D9 : mdD g N Q md) {d : Nat} {p : Nat × List Int64} (hd : md[d]? = some p) (w : Int64) : Cn l yX12_impact cX12_impact 5 (some .int) 2 0 0 [.ref m, .int (nI d), .long w] h (fun r h1 => r = some (.int (nI (sp_imp (p.2.count w) p.2.length))) ∧ h1 = h) := by
  have m1 := M.1
  have a5 := M.2.1 5 _ rfl
  obtain ⟨t1, t2, t3⟩ := id D9
  obtain ⟨p1, p2, p3, p4, p5⟩ := t3 d p hd
  have hdl := (List.getElem?_eq_some_iff.mp hd).1
  have hc : p.2.count w ≤ p.2.length := List.count_le_length
  refine Cn.of (own := RX12) rfl (by decide) (by exact Nat.le_of_ble_eq_true rfl) (by decide) (fun K hK C D _ => ?_)
  first | refine J_aload_n C rfl dX12_impact_0 ?_ | refine J_aload_nq C rfl dX12_impact_0 ?_ | refine J_aload_nN C rfl dX12_impact_0 ?_
  refine J_iload_n C rfl dX12_impact_1 ?_
  refine J_lload_n C rfl dX12_impact_2 ?_
  refine J_callV C (c_M_times M D9 hd w) cw_X12_88 (by first | assumption | exact jv_up_at _ _ _ | (simp [jv_up, *]; done)) rfl rfl rfl rfl (by exact Nat.le_of_ble_eq_true rfl) (by decide) (by omega) (by omega) dX12_impact_3 ?_
  rintro _ h9 ⟨rfl, e9⟩
  replace e9 := e9.symm
  subst e9
  refine J_istore C (by decide) dX12_impact_6 ?_
  refine J_sipush C (v := nI 256) (by decide) dX12_impact_8 ?_
  refine J_iload C rfl dX12_impact_11 ?_
  first | refine J_nimul C dX12_impact_13 ?_ | refine J_imul C dX12_impact_13 ?_
  refine J_iload C rfl dX12_impact_14 ?_
  refine J_iconst C (v := nI 1) (by decide) dX12_impact_16 ?_
  first | refine J_niadd C dX12_impact_17 ?_ | refine J_iadd C dX12_impact_17 ?_
  first | refine J_aload_n C rfl dX12_impact_18 ?_ | refine J_aload_nq C rfl dX12_impact_18 ?_ | refine J_aload_nN C rfl dX12_impact_18 ?_
  refine J_get C fl_X12_16 (by first | assumption | exact jv_up_at _ _ _ | (simp [jv_up, *]; done)) (by rfl) dX12_impact_19 ?_
  refine J_iload_n C rfl dX12_impact_22 ?_
  refine J_iald C (by first | assumption | exact jv_up_at _ _ _ | (simp [jv_up, *]; done)) rfl (by omega) (by omega) dX12_impact_23 ?_
  rw [p3]
  refine J_bipush C (v := nI 8) (by decide) dX12_impact_24 ?_
  refine J_nidiv C (by omega) (by decide) (by decide) dX12_impact_26 ?_
  first | refine J_niadd C dX12_impact_27 ?_ | refine J_iadd C dX12_impact_27 ?_
  refine J_nidiv C (by omega) (by omega) (by omega) dX12_impact_28 ?_
  refine J_iret C D ⟨by unfold sp_imp; rfl, rfl⟩ (by omega) (by omega) dX12_impact_29
def sp_dg : Nat → Nat → Nat
  | 0, _ => 0
  | n + 1, q => if q = 0 then 0 else sp_dg n (q / 2) + 1
theorem sp_dg_bit : ∀ q, q ≤ 120 → sp_dg 8 q = sp_bit q 31 0 := by decide
theorem c_M_digitsOf (M : mdl h m A g N Q) (D9 : mdD g N Q md) (hv : Nat) (hh : hv ≤ 120) : Cn l yX12_digitsOf cX12_digitsOf 4 (some .int) 1 0 0 [.ref m, .int (nI hv)] h (fun r h1 => r = some (.int (nI (sp_rar md.length hv))) ∧ h1 = h) := by
  have m1 := M.1
  obtain ⟨t1, t2, t3⟩ := D9
  refine Cn.of (own := RX12) rfl (by decide) (by exact Nat.le_of_ble_eq_true rfl) (by decide) (fun K hK C D _ => ?_)
  have loop : ∀ (n k q : Nat), q < 2 ^ n → n ≤ 8 → k + sp_dg n q = sp_rar md.length hv → J K 0 0 17 (jv_l [(3, .int (nI k)), (2, .int (nI q)), (1, .int (nI hv)), (0, .ref m)]) [] h := by
    intro n
    induction n with
    | zero =>
      intro k q hq hn he
      have hq : q = 0 := by omega
      subst hq
      refine J_iload_n C rfl dX12_digitsOf_17 ?_
      refine J_nif_le C (by first | omega | (dsimp only; omega)) 31 (by decide) dX12_digitsOf_18 (fun z => ?_) (fun z => ?_)
      · refine J_iload_n C rfl dX12_digitsOf_31 ?_
        refine J_iret C D ⟨by rw [← he]; rfl, rfl⟩ (by omega) (by omega) dX12_digitsOf_32
      · exact absurd z (Nat.lt_irrefl 0)
    | succ n ih =>
      intro k q hq hn he
      have hq2 : q < 2 ^ 8 := Nat.lt_of_lt_of_le hq (Nat.pow_le_pow_right (by decide) hn)
      refine J_iload_n C rfl dX12_digitsOf_17 ?_
      refine J_nif_le C (by first | omega | (dsimp only; omega)) 31 (by decide) dX12_digitsOf_18 (fun z => ?_) (fun z => ?_)
      · refine J_iload_n C rfl dX12_digitsOf_31 ?_
        refine J_iret C D ⟨by rw [← he]; unfold sp_dg; rw [if_pos (by omega)]; rfl, rfl⟩ (by omega) (by omega) dX12_digitsOf_32
      · first | refine J_niinc (b := 1) C rfl (by decide) dX12_digitsOf_21 ?_ | refine J_iinc C rfl (by decide) dX12_digitsOf_21 ?_
        refine J_iload_n C rfl dX12_digitsOf_24 ?_
        refine J_iconst C (v := nI 2) (by decide) dX12_digitsOf_25 ?_
        refine J_nidiv C (by omega) (by decide) (by decide) dX12_digitsOf_26 ?_
        refine J_istore_n C (by decide) dX12_digitsOf_27 ?_
        refine J_goto C 17 (by decide) dX12_digitsOf_28 ?_
        unfold sp_dg at he
        rw [if_neg (by omega)] at he
        refine J_sub (by exact (And.intro rfl (And.intro rfl (And.intro rfl (And.intro rfl trivial))))) (ih (k + 1) (q / 2) (by rw [Nat.pow_succ] at hq; omega) (by omega) (by omega))
  refine J_iload_n C rfl dX12_digitsOf_0 ?_
  refine J_if_ne C 8 (by decide) dX12_digitsOf_1 (fun z => ?_) (fun z => ?_)
  · have hv0 : hv ≠ 0 := fun e => z (by rw [e]; rfl)
    first | refine J_aload_n C rfl dX12_digitsOf_8 ?_ | refine J_aload_nq C rfl dX12_digitsOf_8 ?_ | refine J_aload_nN C rfl dX12_digitsOf_8 ?_
    refine J_get C fl_X12_85 (by first | assumption | exact jv_up_at _ _ _ | (simp [jv_up, *]; done)) (by rfl) dX12_digitsOf_9 ?_
    refine J_iload_n C rfl dX12_digitsOf_12 ?_
    rw [t1]
    refine J_nidiv C (by omega) (by omega) (by omega) dX12_digitsOf_13 ?_
    have hq : md.length / hv ≤ 120 := Nat.le_trans (Nat.div_le_self _ _) t2
    refine J_istore_n C (by decide) dX12_digitsOf_14 ?_
    refine J_iconst C (v := nI 0) (by decide) dX12_digitsOf_15 ?_
    refine J_istore_n C (by decide) dX12_digitsOf_16 ?_
    refine J_sub (by exact (And.intro rfl (And.intro rfl (And.intro rfl (And.intro rfl trivial))))) (loop 8 0 (md.length / hv) (by omega) (by decide) (by unfold sp_rar; rw [if_neg (by omega), sp_dg_bit _ hq, Nat.zero_add]))
  · have hv0 : hv = 0 := nI_inj (b := 0) (by omega) (by decide) z
    refine J_iconst C (v := nI 0) (by decide) dX12_digitsOf_4 ?_
    refine J_goto C 14 (by decide) dX12_digitsOf_5 ?_
    refine J_istore_n C (by decide) dX12_digitsOf_14 ?_
    refine J_iconst C (v := nI 0) (by decide) dX12_digitsOf_15 ?_
    refine J_istore_n C (by decide) dX12_digitsOf_16 ?_
    refine J_sub (by exact (And.intro rfl (And.intro rfl (And.intro rfl (And.intro rfl trivial))))) (loop 8 0 0 (by decide) (by decide) (by rw [hv0]; rfl))
end MBASE
