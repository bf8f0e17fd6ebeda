/-! the model: reading a query, its small steps -/
/-- what is left of the query's reading from byte i on, in state s -/
def qR (B : Nat → Nat) (nt : Nat) (E : Nat × Nat × qsT) (i : Nat) (s : qsT) : Prop :=
  E.1 = (qs_end nt (qs_run B (nt - i) i s)).1 ∧ qs_fp E = qs_fp (qs_end nt (qs_run B (nt - i) i s)) ∧ (E.1 = 0 → E.2.2.1 = (qs_end nt (qs_run B (nt - i) i s)).2.2.1 ∧ E.2.2.2.2 = (qs_end nt (qs_run B (nt - i) i s)).2.2.2.2)
section QR
variable {B : Nat → Nat} {nt i : Nat} {E : Nat × Nat × qsT} {s s' : qsT}
theorem qR_step (R : qR B nt E i s) (hi : i < nt) (h : qs_take s (B i) = (0, s')) : qR B nt E (i + 1) s' := by
  have e : qs_run B (nt - i) i s = qs_run B (nt - (i + 1)) (i + 1) s' := by
    rw [show nt - i = (nt - (i + 1)) + 1 by omega]
    show (if (qs_take s (B i)).1 = 0 then _ else _) = _
    rw [h]
    rfl
  unfold qR at R ⊢
  rw [e] at R
  exact R
theorem qR_fault (R : qR B nt E i s) (hi : i < nt) {f : Nat} (h : (qs_take s (B i)).1 = f) (hf : f ≠ 0) : E.1 = f ∧ qs_fp E = nI i := by
  have e : qs_run B (nt - i) i s = (f, i, (qs_take s (B i)).2) := by
    rw [show nt - i = (nt - (i + 1)) + 1 by omega]
    show (if (qs_take s (B i)).1 = 0 then _ else _) = _
    rw [h, if_neg hf]
  have e2 : qs_end nt (f, i, (qs_take s (B i)).2) = (f, i, (qs_take s (B i)).2) := by
    unfold qs_end
    exact if_neg (fun z => hf z.1)
  unfold qR at R
  rw [e, e2] at R
  refine ⟨R.1, R.2.1.trans ?_⟩
  unfold qs_fp
  exact if_neg hf
theorem qR_end (R : qR B nt E nt s) (hs : s.2.1 ≠ 1 ∧ s.2.1 ≠ 4) : E.1 = 0 ∧ qs_fp E = -1 ∧ E.2.2.1 = s.1 ∧ E.2.2.2.2 = s.2.2 := by
  unfold qR at R
  rw [Nat.sub_self] at R
  have e2 : qs_end nt (qs_run B 0 nt s) = (0, nt, s) := by
    unfold qs_end
    exact if_neg (fun z => z.2.elim hs.1 hs.2)
  rw [e2] at R
  exact ⟨R.1, R.2.1, R.2.2 R.1⟩
theorem qR_cut (R : qR B nt E nt s) (hs : s.2.1 = 1 ∨ s.2.1 = 4) : E.1 = 1 ∧ qs_fp E = nI nt := by
  unfold qR at R
  rw [Nat.sub_self] at R
  have e2 : qs_end nt (qs_run B 0 nt s) = (1, nt, s) := by
    unfold qs_end
    exact if_pos ⟨rfl, hs⟩
  rw [e2] at R
  exact ⟨R.1, R.2.1⟩
/-- a state behind a term, at its end or at a blank, counts as a blank state -/
theorem qR_blank {c st : Nat} {tv : Nat → tmT} (R : qR B nt E i (c, st, tv)) (hst : st = 2 ∨ st = 3 ∨ st = 5) (hi : i = nt ∨ (i < nt ∧ B i ≤ 32)) : qR B nt E i (c, 0, tv) := by
  have hnl : ∀ b, b ≤ 32 → sp_isl b = false := fun b hb => by
    cases q : sp_isl b with
    | false => rfl
    | true =>
      have := (isl_iff b).mp q
      unfold sp_let at this
      rw [if_neg (by omega), if_neg (by omega)] at this
      exact absurd this (Nat.lt_irrefl 0)
  rcases hi with hi | ⟨hi, hb⟩
  · subst hi
    obtain ⟨a1, a2, a3, a4⟩ := qR_end R (show st ≠ 1 ∧ st ≠ 4 by omega)
    unfold qR
    rw [Nat.sub_self]
    have e2 : qs_end i (qs_run B 0 i (c, 0, tv)) = (0, i, (c, 0, tv)) := by
      unfold qs_end
      exact if_neg (fun z => z.2.elim (fun q => by cases q) (fun q => by cases q))
    rw [e2]
    exact ⟨a1, a2, fun _ => ⟨a3, a4⟩⟩
  · have hn := hnl (B i) hb
    have t1 : qs_take (c, st, tv) (B i) = (0, (c, 0, tv)) := by
      have bl : ∀ st, qs_blank (c, st, tv) (B i) = (0, (c, 0, tv)) := fun st => if_neg (by omega)
      have sr : ∀ st, qs_star (c, st, tv) (B i) = (0, (c, 0, tv)) := fun st => by
        unfold qs_star
        rw [if_neg (by omega)]
        exact bl st
      rcases hst with q | q | q <;> subst q
      · show qs_behind (c, 2, tv) (B i) = _
        unfold qs_behind
        rw [hn, if_neg Bool.false_ne_true, if_neg (by omega)]
        exact sr 2
      · exact sr 3
      · exact bl 5
    have t2 : qs_take (c, 0, tv) (B i) = (0, (c, 0, tv)) := by
      show qs_between (c, 0, tv) (B i) = _
      unfold qs_between
      rw [hn, if_neg (by simp; omega)]
      exact if_neg (by omega)
    have R1 := qR_step R hi t1
    have e : qs_run B (nt - i) i (c, 0, tv) = qs_run B (nt - (i + 1)) (i + 1) (c, 0, tv) := by
      rw [show nt - i = (nt - (i + 1)) + 1 by omega]
      show (if (qs_take (c, 0, tv) (B i)).1 = 0 then _ else _) = _
      rw [t2]
      rfl
    unfold qR at R1 ⊢
    rw [e]
    exact R1
theorem qR_skip {c : Nat} {tv : Nat → tmT} (R : qR B nt E i (c, 0, tv)) (hi : i < nt) (hb : B i ≤ 32) : qR B nt E (i + 1) (c, 0, tv) := by
  refine qR_step R hi ?_
  have hn : sp_isl (B i) = false := by
    cases q : sp_isl (B i) with
    | false => rfl
    | true =>
      have := (isl_iff (B i)).mp q
      unfold sp_let at this
      rw [if_neg (by omega), if_neg (by omega)] at this
      exact absurd this (Nat.lt_irrefl 0)
  show qs_between (c, 0, tv) (B i) = _
  unfold qs_between
  rw [hn, if_neg (by simp; omega)]
  exact if_neg (by omega)
end QR
section PARSE
variable {l : jL} {h : jH} {m : Nat} {A : Nat → Nat} {g : Nat → Int32} {N : Nat → Nat → Int32} {Q : Nat → Nat → Int64} {nt : Nat} {B : Nat → Nat}
def bdG (g : Nat → Int32) (b : Bool) (w : Int32) : Nat → Int32 := if b then g else va_up (va_up g 16 w) 17 (g 15)
theorem c_M_bad (M : mdl h m A g N Q) (b : Bool) (w : Int32) : Cn l yX12_bad cX12_bad 3 (some .boolean) 1 0 0 [.ref m, .int (jv_b b), .int w] h (fun r h1 => r = some (.int (jv_b (!b))) ∧ fr (mdS m A) h h1 ∧ mdl h1 m A (bdG g b w) N Q) := by
  refine Cn.of (own := RX12) rfl (by decide) (by exact Nat.le_of_ble_eq_true rfl) (by decide) (fun K hK C D _ => ?_)
  have m1 := M.1
  first | refine J_aload_n C rfl dX12_bad_0 ?_ | refine J_aload_nq C rfl dX12_bad_0 ?_ | refine J_aload_nN C rfl dX12_bad_0 ?_
  refine J_iload_n C rfl dX12_bad_1 ?_
  refine J_bif_eq C 12 (by decide) dX12_bad_2 (fun z => ?_) (fun z => ?_)
  · subst z
    refine J_iload_n C rfl dX12_bad_12 ?_
    first | refine J_mput C fl_X12_151 (by first | assumption | exact jv_up_at _ _ _) (by decide) (by rfl) (by rfl) dX12_bad_13 ?_ | refine J_put C fl_X12_151 (by first | assumption | exact jv_up_at _ _ _ | (simp [jv_up, *]; done)) (by exact Nat.le_of_ble_eq_true rfl) (by rfl) (by rfl) dX12_bad_13 ?_
    first | refine J_aload_n C rfl dX12_bad_16 ?_ | refine J_aload_nq C rfl dX12_bad_16 ?_ | refine J_aload_nN C rfl dX12_bad_16 ?_
    refine J_iload_n C rfl dX12_bad_17 ?_
    refine J_bif_eq C 28 (by decide) dX12_bad_18 (fun z => ?_) (fun z => ?_)
    · first | refine J_aload_n C rfl dX12_bad_28 ?_ | refine J_aload_nq C rfl dX12_bad_28 ?_ | refine J_aload_nN C rfl dX12_bad_28 ?_
      refine J_get C fl_X12_144 (by first | assumption | exact jv_up_at _ _ _ | (simp [jv_up, *]; done)) (by rfl) dX12_bad_29 ?_
      first | refine J_mput C fl_X12_42 (by first | assumption | exact jv_up_at _ _ _) (by decide) (by rfl) (by rfl) dX12_bad_32 ?_ | refine J_put C fl_X12_42 (by first | assumption | exact jv_up_at _ _ _ | (simp [jv_up, *]; done)) (by exact Nat.le_of_ble_eq_true rfl) (by rfl) (by rfl) dX12_bad_32 ?_
      refine J_iload_n C rfl dX12_bad_35 ?_
      refine J_bif_ne C 43 (by decide) dX12_bad_36 (fun z => ?_) (fun z => ?_)
      · cases z
      · refine J_iconst C (v := nI 1) (by decide) dX12_bad_39 ?_
        refine J_goto C 44 (by decide) dX12_bad_40 ?_
        refine J_zret C D (Or.inr rfl) ⟨rfl, fr_tr (fr_up (Or.inl rfl)) (fr_up (Or.inl rfl)), mdl_s (mdl_s M _) _⟩ (by omega) (by omega) dX12_bad_44
    · cases z
  · subst z
    have e1 : va_up (va_up g 16 (g 16)) 17 (g 17) = g := by
      funext i
      unfold va_up
      by_cases c : i = 17
      · rw [if_pos c, c]
      · rw [if_neg c]
        by_cases c2 : i = 16
        · rw [if_pos c2, c2]
        · rw [if_neg c2]
    have M2 := mdl_s (mdl_s M (va_up g 16 (g 16))) (va_up (va_up g 16 (g 16)) 17 (g 17))
    first | refine J_aload_n C rfl dX12_bad_5 ?_ | refine J_aload_nq C rfl dX12_bad_5 ?_ | refine J_aload_nN C rfl dX12_bad_5 ?_
    refine J_get C fl_X12_151 (by first | assumption | exact jv_up_at _ _ _ | (simp [jv_up, *]; done)) (by rfl) dX12_bad_6 ?_
    refine J_goto C 13 (by decide) dX12_bad_9 ?_
    first | refine J_mput C fl_X12_151 (by first | assumption | exact jv_up_at _ _ _) (by decide) (by rfl) (by rfl) dX12_bad_13 ?_ | refine J_put C fl_X12_151 (by first | assumption | exact jv_up_at _ _ _ | (simp [jv_up, *]; done)) (by exact Nat.le_of_ble_eq_true rfl) (by rfl) (by rfl) dX12_bad_13 ?_
    first | refine J_aload_n C rfl dX12_bad_16 ?_ | refine J_aload_nq C rfl dX12_bad_16 ?_ | refine J_aload_nN C rfl dX12_bad_16 ?_
    refine J_iload_n C rfl dX12_bad_17 ?_
    refine J_bif_eq C 28 (by decide) dX12_bad_18 (fun z => ?_) (fun z => ?_)
    · cases z
    · first | refine J_aload_n C rfl dX12_bad_21 ?_ | refine J_aload_nq C rfl dX12_bad_21 ?_ | refine J_aload_nN C rfl dX12_bad_21 ?_
      refine J_get C fl_X12_42 (by first | assumption | exact jv_up_at _ _ _ | (simp [jv_up, *]; done)) (by rfl) dX12_bad_22 ?_
      refine J_goto C 32 (by decide) dX12_bad_25 ?_
      first | refine J_mput C fl_X12_42 (by first | assumption | exact jv_up_at _ _ _) (by decide) (by rfl) (by rfl) dX12_bad_32 ?_ | refine J_put C fl_X12_42 (by first | assumption | exact jv_up_at _ _ _ | (simp [jv_up, *]; done)) (by exact Nat.le_of_ble_eq_true rfl) (by rfl) (by rfl) dX12_bad_32 ?_
      refine J_iload_n C rfl dX12_bad_35 ?_
      refine J_bif_ne C 43 (by decide) dX12_bad_36 (fun z => ?_) (fun z => ?_)
      · refine J_iconst C (v := nI 0) (by decide) dX12_bad_43 ?_
        refine J_zret C D (Or.inl rfl) ⟨rfl, fr_tr (fr_up (Or.inl rfl)) (fr_up (Or.inl rfl)), by show mdl _ m A g N Q; rw [e1] at M2; exact M2⟩ (by omega) (by omega) dX12_bad_44
      · cases z
theorem c_M_isBlank (M : mdl h m A g N Q) (T : mdT g N nt B) {i : Nat} (h15 : g 15 = nI i) (hi : i ≤ 500) : Cn l yX12_isBlank cX12_isBlank 1 (some .boolean) 1 0 0 [.ref m] h (fun r h1 => r = some (.int (jv_b (decide (i < nt ∧ B i ≤ 32)))) ∧ h1 = h) := by
  obtain ⟨t1, t2, t3⟩ := T
  refine Cn.of (own := RX12) rfl (by decide) (by exact Nat.le_of_ble_eq_true rfl) (by decide) (fun K hK C D _ => ?_)
  have m1 := M.1
  have a2 := M.2.1 2 _ rfl
  have Kno : ¬ (i < nt ∧ B i ≤ 32) → J K 0 0 29 (jv_l [(0, .ref m)]) [] h := by
    intro hn
    refine J_iconst C (v := nI 0) (by decide) dX12_isBlank_29 ?_
    refine J_zret C D (Or.inl rfl) ⟨by rw [decide_eq_false hn]; rfl, rfl⟩ (by omega) (by omega) dX12_isBlank_30
  first | refine J_aload_n C rfl dX12_isBlank_0 ?_ | refine J_aload_nq C rfl dX12_isBlank_0 ?_ | refine J_aload_nN C rfl dX12_isBlank_0 ?_
  refine J_get C fl_X12_144 (by first | assumption | exact jv_up_at _ _ _ | (simp [jv_up, *]; done)) (by rfl) dX12_isBlank_1 ?_
  first | refine J_aload_n C rfl dX12_isBlank_4 ?_ | refine J_aload_nq C rfl dX12_isBlank_4 ?_ | refine J_aload_nN C rfl dX12_isBlank_4 ?_
  refine J_get C fl_X12_74 (by first | assumption | exact jv_up_at _ _ _ | (simp [jv_up, *]; done)) (by rfl) dX12_isBlank_5 ?_
  rw [h15, t1]
  refine J_nicmp_ge C (by first | omega | (dsimp only; omega)) (by first | omega | (dsimp only; omega)) 29 (by decide) dX12_isBlank_8 (fun z => ?_) (fun z => ?_)
  · refine J_sub (by exact (And.intro rfl trivial)) (Kno (by omega))
  · obtain ⟨b1, b2⟩ := t3 i z
    first | refine J_aload_n C rfl dX12_isBlank_11 ?_ | refine J_aload_nq C rfl dX12_isBlank_11 ?_ | refine J_aload_nN C rfl dX12_isBlank_11 ?_
    refine J_get C fl_X12_7 (by first | assumption | exact jv_up_at _ _ _ | (simp [jv_up, *]; done)) (by rfl) dX12_isBlank_12 ?_
    first | refine J_aload_n C rfl dX12_isBlank_15 ?_ | refine J_aload_nq C rfl dX12_isBlank_15 ?_ | refine J_aload_nN C rfl dX12_isBlank_15 ?_
    refine J_get C fl_X12_144 (by first | assumption | exact jv_up_at _ _ _ | (simp [jv_up, *]; done)) (by rfl) dX12_isBlank_16 ?_
    rw [h15]
    refine J_iald C (by first | assumption | exact jv_up_at _ _ _ | (simp [jv_up, *]; done)) rfl (by omega) (by omega) dX12_isBlank_19 ?_
    rw [b1]
    refine J_bipush C (v := nI 32) (by decide) dX12_isBlank_20 ?_
    refine J_nicmp_gt C (by first | omega | (dsimp only; omega)) (by first | omega | (dsimp only; omega)) 29 (by decide) dX12_isBlank_22 (fun z2 => ?_) (fun z2 => ?_)
    · refine J_sub (by exact (And.intro rfl trivial)) (Kno (by omega))
    · refine J_iconst C (v := nI 1) (by decide) dX12_isBlank_25 ?_
      refine J_goto C 30 (by decide) dX12_isBlank_26 ?_
      refine J_zret C D (Or.inr rfl) ⟨by rw [decide_eq_true ⟨z, z2⟩]; rfl, rfl⟩ (by omega) (by omega) dX12_isBlank_30
theorem c_M_skip (M : mdl h m A g N Q) (T : mdT g N nt B) {i : Nat} (h15 : g 15 = nI i) (hi : i ≤ nt) : Cn l yX12_skip cX12_skip 1 none 2 0 0 [.ref m] h (fun r h1 => r = none ∧ fr (mdS m A) h h1 ∧ ∃ i' g', i ≤ i' ∧ i' ≤ nt ∧ (∀ j, i ≤ j → j < i' → B j ≤ 32) ∧ (i' = nt ∨ 32 < B i') ∧ mdl h1 m A g' N Q ∧ g' 15 = nI i' ∧ ∀ k, k ≠ 15 → g' k = g k) := by
  obtain ⟨t1, t2, t3⟩ := id T
  refine Cn.of (own := RX12) rfl (by decide) (by exact Nat.le_of_ble_eq_true rfl) (by decide) (fun K hK C D _ => ?_)
  have loop : ∀ (n i' : Nat) (g' : Nat → Int32) (h' : jH), i' + n = nt → i ≤ i' → fr (mdS m A) h h' → (∀ j, i ≤ j → j < i' → B j ≤ 32) → mdl h' m A g' N Q → g' 15 = nI i' → (∀ k, k ≠ 15 → g' k = g k) → J K 0 0 0 (jv_l [(0, .ref m)]) [] h' := by
    intro n
    induction n with
    | zero =>
      intro i' g' h' hi1 hi2 F hb M' g15 gk
      have hi1 : i' = nt := hi1
      have m1' := M'.1
      have T' : mdT g' N nt B := ⟨(gk 1 (by decide)).trans t1, t2, t3⟩
      first | refine J_aload_n C rfl dX12_skip_0 ?_ | refine J_aload_nq C rfl dX12_skip_0 ?_ | refine J_aload_nN C rfl dX12_skip_0 ?_
      refine J_callV C (c_M_isBlank M' T' g15 (by omega)) cw_X12_147 (by first | assumption | exact jv_up_at _ _ _ | (simp [jv_up, *]; done)) rfl rfl rfl rfl (by exact Nat.le_of_ble_eq_true rfl) (by decide) (by omega) (by omega) dX12_skip_1 ?_
      rintro _ h9 ⟨rfl, e9⟩
      replace e9 := e9.symm
      subst e9
      refine J_bif_eq C 20 (by decide) dX12_skip_4 (fun z => ?_) (fun z => ?_)
      · refine J_vret C D ⟨rfl, F, i', g', hi2, by omega, hb, Or.inl hi1, M', g15, gk⟩ (by omega) (by omega) dX12_skip_20
      · have := (of_decide_eq_true z).1
        omega
    | succ n ih =>
      intro i' g' h' hi1 hi2 F hb M' g15 gk
      have m1' := M'.1
      have T' : mdT g' N nt B := ⟨(gk 1 (by decide)).trans t1, t2, t3⟩
      first | refine J_aload_n C rfl dX12_skip_0 ?_ | refine J_aload_nq C rfl dX12_skip_0 ?_ | refine J_aload_nN C rfl dX12_skip_0 ?_
      refine J_callV C (c_M_isBlank M' T' g15 (by omega)) cw_X12_147 (by first | assumption | exact jv_up_at _ _ _ | (simp [jv_up, *]; done)) rfl rfl rfl rfl (by exact Nat.le_of_ble_eq_true rfl) (by decide) (by omega) (by omega) dX12_skip_1 ?_
      rintro _ h9 ⟨rfl, e9⟩
      replace e9 := e9.symm
      subst e9
      refine J_bif_eq C 20 (by decide) dX12_skip_4 (fun z => ?_) (fun z => ?_)
      · have z := of_decide_eq_false z
        refine J_vret C D ⟨rfl, F, i', g', hi2, by omega, hb, Or.inr (by omega), M', g15, gk⟩ (by omega) (by omega) dX12_skip_20
      · have z := of_decide_eq_true z
        first | refine J_aload_n C rfl dX12_skip_7 ?_ | refine J_aload_nq C rfl dX12_skip_7 ?_ | refine J_aload_nN C rfl dX12_skip_7 ?_
        refine J_dup C rfl dX12_skip_8 ?_
        refine J_get C fl_X12_144 (by first | assumption | exact jv_up_at _ _ _ | (simp [jv_up, *]; done)) (by rfl) dX12_skip_9 ?_
        refine J_iconst C (v := nI 1) (by decide) dX12_skip_12 ?_
        rw [g15]
        first | refine J_niadd C dX12_skip_13 ?_ | refine J_iadd C dX12_skip_13 ?_
        first | refine J_mput C fl_X12_144 (by first | assumption | exact jv_up_at _ _ _) (by decide) (by rfl) (by rfl) dX12_skip_14 ?_ | refine J_put C fl_X12_144 (by first | assumption | exact jv_up_at _ _ _ | (simp [jv_up, *]; done)) (by exact Nat.le_of_ble_eq_true rfl) (by rfl) (by rfl) dX12_skip_14 ?_
        refine J_goto C 0 (by decide) dX12_skip_17 ?_
        refine J_sub (by exact (And.intro rfl trivial)) (ih (i' + 1) _ _ (by omega) (by omega) (fr_tr F (fr_up (Or.inl rfl))) (fun j h1 h2 => (Nat.lt_succ_iff_lt_or_eq.mp h2).elim (hb j h1) (fun e => e ▸ z.2)) (mdl_s M' (va_up g' 15 (nI (i' + 1)))) (if_pos rfl) (fun k hk => (if_neg hk).trans (gk k hk)))
  have := loop (nt - i) i g h (by omega) (Nat.le_refl _) (fr_rf _ _) (fun j h1 h2 => by omega) M h15 (fun _ _ => rfl)
  refine J_sub (by exact (And.intro rfl trivial)) (this)
theorem c_M_isTermStart (M : mdl h m A g N Q) (T : mdT g N nt B) {i : Nat} (h15 : g 15 = nI i) (hi : i < nt) : Cn l yX12_isTermStart cX12_isTermStart 1 (some .boolean) 2 0 0 [.ref m] h (fun r h1 => r = some (.int (jv_b (decide (0 < sp_let (B i) ∨ B i = 43 ∨ B i = 45)))) ∧ h1 = h) := by
  obtain ⟨t1, t2, t3⟩ := T
  obtain ⟨b1, b2⟩ := t3 i hi
  have hlt := sp_let_lt (B i)
  refine Cn.of (own := RX12) rfl (by decide) (by exact Nat.le_of_ble_eq_true rfl) (by decide) (fun K hK C D _ => ?_)
  have m1 := M.1
  have a2 := M.2.1 2 _ rfl
  have Kyes : (0 < sp_let (B i) ∨ B i = 43 ∨ B i = 45) → J K 0 0 43 (jv_l [(0, .ref m)]) [] h := by
    intro hn
    refine J_iconst C (v := nI 1) (by decide) dX12_isTermStart_43 ?_
    refine J_goto C 48 (by decide) dX12_isTermStart_44 ?_
    refine J_zret C D (Or.inr rfl) ⟨by rw [decide_eq_true hn]; rfl, rfl⟩ (by omega) (by omega) dX12_isTermStart_48
  first | refine J_aload_n C rfl dX12_isTermStart_0 ?_ | refine J_aload_nq C rfl dX12_isTermStart_0 ?_ | refine J_aload_nN C rfl dX12_isTermStart_0 ?_
  refine J_get C fl_X12_7 (by first | assumption | exact jv_up_at _ _ _ | (simp [jv_up, *]; done)) (by rfl) dX12_isTermStart_1 ?_
  first | refine J_aload_n C rfl dX12_isTermStart_4 ?_ | refine J_aload_nq C rfl dX12_isTermStart_4 ?_ | refine J_aload_nN C rfl dX12_isTermStart_4 ?_
  refine J_get C fl_X12_144 (by first | assumption | exact jv_up_at _ _ _ | (simp [jv_up, *]; done)) (by rfl) dX12_isTermStart_5 ?_
  rw [h15]
  refine J_iald C (by first | assumption | exact jv_up_at _ _ _ | (simp [jv_up, *]; done)) rfl (by omega) (by omega) dX12_isTermStart_8 ?_
  rw [b1]
  refine J_callS C (c_M_letterOf (B i) (by omega)) cw_X12_77 rfl rfl (by exact Nat.le_of_ble_eq_true rfl) (by decide) (by omega) (by omega) dX12_isTermStart_9 ?_
  rintro _ h9 ⟨rfl, e9⟩
  replace e9 := e9.symm
  subst e9
  refine J_if_gt C 43 (by decide) dX12_isTermStart_12 (fun z => ?_) (fun z => ?_)
  · have zp : 0 < sp_let (B i) := Nat.pos_of_ne_zero (fun c => by rw [c] at z; exact absurd z (by decide))
    refine J_sub (by exact (And.intro rfl trivial)) (Kyes (Or.inl zp))
  · have z0 : ¬ 0 < sp_let (B i) := fun q => z (nI_lt (a := 0) q (by omega))
    first | refine J_aload_n C rfl dX12_isTermStart_15 ?_ | refine J_aload_nq C rfl dX12_isTermStart_15 ?_ | refine J_aload_nN C rfl dX12_isTermStart_15 ?_
    refine J_get C fl_X12_7 (by first | assumption | exact jv_up_at _ _ _ | (simp [jv_up, *]; done)) (by rfl) dX12_isTermStart_16 ?_
    first | refine J_aload_n C rfl dX12_isTermStart_19 ?_ | refine J_aload_nq C rfl dX12_isTermStart_19 ?_ | refine J_aload_nN C rfl dX12_isTermStart_19 ?_
    refine J_get C fl_X12_144 (by first | assumption | exact jv_up_at _ _ _ | (simp [jv_up, *]; done)) (by rfl) dX12_isTermStart_20 ?_
    rw [h15]
    refine J_iald C (by first | assumption | exact jv_up_at _ _ _ | (simp [jv_up, *]; done)) rfl (by omega) (by omega) dX12_isTermStart_23 ?_
    rw [b1]
    refine J_bipush C (v := nI 43) (by decide) dX12_isTermStart_24 ?_
    refine J_nicmp_eq C (by first | omega | (dsimp only; omega)) (by first | omega | (dsimp only; omega)) 43 (by decide) dX12_isTermStart_26 (fun z2 => ?_) (fun z2 => ?_)
    · refine J_sub (by exact (And.intro rfl trivial)) (Kyes (Or.inr (Or.inl z2)))
    · first | refine J_aload_n C rfl dX12_isTermStart_29 ?_ | refine J_aload_nq C rfl dX12_isTermStart_29 ?_ | refine J_aload_nN C rfl dX12_isTermStart_29 ?_
      refine J_get C fl_X12_7 (by first | assumption | exact jv_up_at _ _ _ | (simp [jv_up, *]; done)) (by rfl) dX12_isTermStart_30 ?_
      first | refine J_aload_n C rfl dX12_isTermStart_33 ?_ | refine J_aload_nq C rfl dX12_isTermStart_33 ?_ | refine J_aload_nN C rfl dX12_isTermStart_33 ?_
      refine J_get C fl_X12_144 (by first | assumption | exact jv_up_at _ _ _ | (simp [jv_up, *]; done)) (by rfl) dX12_isTermStart_34 ?_
      rw [h15]
      refine J_iald C (by first | assumption | exact jv_up_at _ _ _ | (simp [jv_up, *]; done)) rfl (by omega) (by omega) dX12_isTermStart_37 ?_
      rw [b1]
      refine J_bipush C (v := nI 45) (by decide) dX12_isTermStart_38 ?_
      refine J_nicmp_ne C (by first | omega | (dsimp only; omega)) (by first | omega | (dsimp only; omega)) 47 (by decide) dX12_isTermStart_40 (fun z3 => ?_) (fun z3 => ?_)
      · refine J_iconst C (v := nI 0) (by decide) dX12_isTermStart_47 ?_
        refine J_zret C D (Or.inl rfl) ⟨by rw [decide_eq_false (by omega)]; rfl, rfl⟩ (by omega) (by omega) dX12_isTermStart_48
      · refine J_sub (by exact (And.intro rfl trivial)) (Kyes (Or.inr (Or.inr z3)))
end PARSE
