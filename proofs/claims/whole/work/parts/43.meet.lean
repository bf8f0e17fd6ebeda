/-! Search: the documents met, newest first -/
abbrev srO (fst : Option Nat) (nd : Int32) : jE := .inr (6, [va_rf fst, .int nd])
/-- M met, newest first; st: barred, terms met, points -/
def sm (h : jH) (s : Nat) (M : List Nat) (nd : Int32) (D : List Nat) (sf : Nat → sfT) (st : Nat → Bool × Int32 × Int32) : Prop :=
  h s = some (srO M[0]? nd) ∧ M.Nodup ∧ (∀ d ∈ M, d ∈ D) ∧ (∀ d ∈ D, (sf d).1 = decide (d ∈ M)) ∧ ∀ i d, M[i]? = some d → sf d = (true, (st d).1, (st d).2.1, (st d).2.2, M[i+1]?)
section MEET
variable {l : jL} {h h1 : jH} {b da dd dc x xa xd xc s : Nat} {DL W SW SP M : List Nat} {lt : Nat → Int64} {num len : Nat → Nat} {PD QW : Nat → List Nat} {tot : Nat → Nat} {tm pa : Nat → Nat → Nat} {nx : Nat → Nat → Option Nat} {fi : Nat → Option Nat} {sf : Nat → sfT} {n : Nat} {nd : Int32} {st : Nat → Bool × Int32 × Int32}
/-- a search writes into documents and into itself -/
theorem lib0_srch (B : lib0 l h b da dd dc x xa xd xc DL W SW SP lt num len PD QW tot tm pa nx fi sf n) {sf2 : Nat → sfT} {fs6 : List Value} (hs : h s = some (.inr (6, fs6))) (hd : gD h1 DL num len fi sf2) (F : fr (fun y => y = s ∨ y ∈ DL) h h1) :
    lib0 l h1 b da dd dc x xa xd xc DL W SW SP lt num len PD QW tot tm pa nx fi sf2 n := by
  obtain ⟨b1, b2, b3, b4, b5, b6, b7, b8, b9, b10, b11⟩ := B
  have keep : ∀ {y c : Nat} {fs : List Value}, h y = some (.inr (c, fs)) → c ≠ 6 → c ≠ 1 → h1 y = h y := by
    intro y c fs e h3 h4
    refine F y (fun z => ?_)
    rcases z with z | z
    · exact jv_neO e hs h3 z
    · exact jv_neO e (b7 y z) h4 rfl
  have keepA : ∀ {y n : Nat} {f : Nat → Option Nat}, h y = some (alA n f) → h1 y = h y := by
    intro y n f e
    refine F y (fun z => ?_)
    rcases z with z | z
    · exact jv_neA hs e z.symm
    · exact jv_neA (b7 y z) e rfl
  obtain ⟨⟨xf, xa1⟩, xd1⟩ := al_ad b3.2.1
  obtain ⟨⟨df, da1⟩, dd1⟩ := al_ad b2
  refine ⟨(keep b1 (by decide) (by decide)).trans b1, al_up b2 (keep da1 (by decide) (by decide)) (fun hc => ?_) (fun y hy => ⟨_, hd y hy⟩), lx_up b3 (keep b3.1 (by decide) (by decide)) (keep xa1 (by decide) (by decide)) (fun hc => ?_) (fun u hu => ?_) (fun u hu => ?_), b4, fun u hu => ?_, fun u hu2 j v hv => ?_, hd, b8, ⟨fun j q hj => ?_, b9.2⟩, b10, b11⟩
  · obtain ⟨f, f1⟩ := dd1 hc
    exact keepA f1
  · obtain ⟨f, f1⟩ := xd1 hc
    exact keepA f1
  · obtain ⟨c1, c2, c3, c4, c5⟩ := b3.2.2.1 u hu
    exact ⟨c1, c2, c3, c4, (keep c5 (by decide) (by decide)).trans c5⟩
  · obtain ⟨j, hj⟩ := List.getElem?_of_mem hu
    obtain ⟨c1, c2, c3, c4, c5⟩ := b3.2.2.2.2.1 j u hj
    exact keep c5 (by decide) (by decide)
  · obtain ⟨sp9, h9⟩ := b5 u hu
    exact ⟨sp9, (keep h9 (by decide) (by decide)).trans h9⟩
  · have h9 := b6 u hu2 j v hv
    exact (keep h9 (by decide) (by decide)).trans h9
  · obtain ⟨t9, p1, p2, p3⟩ := b9.1 j q hj
    exact ⟨t9, p1, p2, (keep p3 (by decide) (by decide)).trans p3⟩
def meP (h : jH) (s : Nat) (M : List Nat) (nd : Int32) (D : List Nat) (num len : Nat → Nat) (fi : Nat → Option Nat) (st : Nat → Bool × Int32 × Int32) (d : Nat) (h1 : jH) : Prop :=
  fr (fun y => y = s ∨ y ∈ D) h h1 ∧ ∃ sf', sm h1 s (if d ∈ M then M else d :: M) nd D sf' (if d ∈ M then st else va_up st d (false, 0, 0)) ∧ gD h1 D num len fi sf'
set_option maxHeartbeats 400000 in
theorem c_Search_meet (S : sm h s M nd DL sf st) (G : gD h DL num len fi sf) {d : Nat} (hd : d ∈ DL) : Cn l yX7_meet cX7_meet 2 none 1 0 0 [.ref s, .ref d] h (fun r h1 => r = none ∧ meP h s M nd DL num len fi st d h1) := by
  obtain ⟨s1, s2, s3, s4, s5⟩ := S
  have gd := G d hd
  have nsd : s ≠ d := jv_neO s1 gd (by decide)
  refine Cn.of (own := RX7) rfl (by decide) (by exact Nat.le_of_ble_eq_true rfl) (by decide) (fun K hK C D I => ?_)
  first | refine J_aload_n C rfl dX7_meet_0 ?_ | refine J_aload_nq C rfl dX7_meet_0 ?_ | refine J_aload_nN C rfl dX7_meet_0 ?_
  refine J_get C fl_X7_135 (by first | assumption | exact jv_up_at _ _ _ | (simp [jv_up, *]; done)) (by rfl) dX7_meet_1 ?_
  refine J_bif_eq C 8 (by decide) dX7_meet_4 (fun z => ?_) (fun z => ?_)
  · have hm : d ∉ M := fun q => by
      rw [s4 d hd] at z
      exact absurd q (of_decide_eq_false z)
    first | refine J_aload_n C rfl dX7_meet_8 ?_ | refine J_aload_nq C rfl dX7_meet_8 ?_ | refine J_aload_nN C rfl dX7_meet_8 ?_
    refine J_iconst C (v := nI 1) (by decide) dX7_meet_9 ?_
    refine J_put C fl_X7_135 (by first | assumption | exact jv_up_at _ _ _ | (simp [jv_up, *]; done)) (by exact Nat.le_of_ble_eq_true rfl) (by rfl) (by rfl) dX7_meet_10 ?_
    first | refine J_aload_n C rfl dX7_meet_13 ?_ | refine J_aload_nq C rfl dX7_meet_13 ?_ | refine J_aload_nN C rfl dX7_meet_13 ?_
    refine J_iconst C (v := nI 0) (by decide) dX7_meet_14 ?_
    refine J_put C fl_X7_36 (by first | assumption | exact jv_up_at _ _ _ | (simp [jv_up, *]; done)) (by exact Nat.le_of_ble_eq_true rfl) (by rfl) (by rfl) dX7_meet_15 ?_
    first | refine J_aload_n C rfl dX7_meet_18 ?_ | refine J_aload_nq C rfl dX7_meet_18 ?_ | refine J_aload_nN C rfl dX7_meet_18 ?_
    refine J_iconst C (v := nI 0) (by decide) dX7_meet_19 ?_
    refine J_put C fl_X7_123 (by first | assumption | exact jv_up_at _ _ _ | (simp [jv_up, *]; done)) (by exact Nat.le_of_ble_eq_true rfl) (by rfl) (by rfl) dX7_meet_20 ?_
    first | refine J_aload_n C rfl dX7_meet_23 ?_ | refine J_aload_nq C rfl dX7_meet_23 ?_ | refine J_aload_nN C rfl dX7_meet_23 ?_
    refine J_iconst C (v := nI 0) (by decide) dX7_meet_24 ?_
    refine J_put C fl_X7_126 (by first | assumption | exact jv_up_at _ _ _ | (simp [jv_up, *]; done)) (by exact Nat.le_of_ble_eq_true rfl) (by rfl) (by rfl) dX7_meet_25 ?_
    rw [jv_up_up, jv_up_up, jv_up_up]
    have s12 := jv_up_of (x := dcO (num d) (len d) (fi d) (true, false, 0, 0, (sf d).2.2.2.2)) nsd s1
    first | refine J_aload_n C rfl dX7_meet_28 ?_ | refine J_aload_nq C rfl dX7_meet_28 ?_ | refine J_aload_nN C rfl dX7_meet_28 ?_
    first | refine J_aload_n C rfl dX7_meet_29 ?_ | refine J_aload_nq C rfl dX7_meet_29 ?_ | refine J_aload_nN C rfl dX7_meet_29 ?_
    refine J_get C fl_X7_138 (by exact s12) (by rfl) dX7_meet_30 ?_
    refine J_put C fl_X7_141 (by first | assumption | exact jv_up_at _ _ _ | (simp [jv_up, *]; done)) (by exact Nat.le_of_ble_eq_true rfl) (by first | rfl | exact jv_nar_o _ _) (by first | rfl | exact jv_fit_o _ _) dX7_meet_33 ?_
    rw [jv_up_up]
    have s13 := jv_up_of (x := dcO (num d) (len d) (fi d) (true, false, 0, 0, M[0]?)) nsd s1
    first | refine J_aload_n C rfl dX7_meet_36 ?_ | refine J_aload_nq C rfl dX7_meet_36 ?_ | refine J_aload_nN C rfl dX7_meet_36 ?_
    first | refine J_aload_n C rfl dX7_meet_37 ?_ | refine J_aload_nq C rfl dX7_meet_37 ?_ | refine J_aload_nN C rfl dX7_meet_37 ?_
    refine J_put C fl_X7_138 (by exact s13) (by exact Nat.le_of_ble_eq_true rfl) (by first | rfl | exact jv_nar_o _ _) (by first | rfl | exact jv_fit_o _ _) dX7_meet_38 ?_
    refine J_vret C D ⟨rfl, fr_tr (fr_up (Or.inr hd)) (fr_up (Or.inl rfl)), va_up sf d (true, false, 0, 0, M[0]?), ?_, ?_⟩ (by omega) (by omega) dX7_meet_41
    · rw [if_neg hm, if_neg hm]
      refine ⟨jv_up_at _ _ _, List.nodup_cons.mpr ⟨hm, s2⟩, fun e he => (List.mem_cons.mp he).elim (fun z => z ▸ hd) (s3 e), fun e he => ?_, fun i e hi => ?_⟩
      · by_cases c : e = d
        · subst c
          rw [show va_up sf e (true, false, 0, 0, M[0]?) e = (true, false, 0, 0, M[0]?) from if_pos rfl]
          exact (decide_eq_true List.mem_cons_self).symm
        · rw [show va_up sf d (true, false, 0, 0, M[0]?) e = sf e from if_neg c, s4 e he]
          exact decide_eq_decide.mpr ⟨List.mem_cons_of_mem _, fun q => (List.mem_cons.mp q).elim (fun z => absurd z c) id⟩
      · cases i with
        | zero =>
          cases hi
          rw [show va_up sf d (true, false, 0, 0, M[0]?) d = (true, false, 0, 0, M[0]?) from if_pos rfl, show va_up st d (false, 0, 0) d = (false, 0, 0) from if_pos rfl]
          rfl
        | succ i =>
          rw [List.getElem?_cons_succ] at hi
          have c : e ≠ d := fun z => hm (z ▸ List.mem_of_getElem? hi)
          rw [show va_up sf d (true, false, 0, 0, M[0]?) e = sf e from if_neg c, show va_up st d (false, 0, 0) e = st e from if_neg c, List.getElem?_cons_succ]
          exact s5 i e hi
    · intro e he
      by_cases c : e = d
      · subst c
        rw [show va_up sf e (true, false, 0, 0, M[0]?) e = (true, false, 0, 0, M[0]?) from if_pos rfl]
        exact jv_up_of nsd.symm (jv_up_at _ _ _)
      · rw [show va_up sf d (true, false, 0, 0, M[0]?) e = sf e from if_neg c]
        exact jv_up_of (jv_neO s1 (G e he) (by decide)).symm (jv_up_of c (G e he))
  · have hm : d ∈ M := by
      rw [s4 d hd] at z
      exact of_decide_eq_true z
    refine J_vret C D ⟨rfl, fr_rf _ _, sf, by rw [if_pos hm, if_pos hm]; exact ⟨s1, s2, s3, s4, s5⟩, G⟩ (by omega) (by omega) dX7_meet_7
end MEET
