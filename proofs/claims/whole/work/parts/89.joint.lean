/-! both at once: the class and the model, side by side -/
theorem mdR_of {N : Nat → Nat → Int32} {Q : Nat → Nat → Int64} {k : Nat} (h : mdK k = true) : ∃ kd v, mdR N Q k = some (kd, v) ∧ (kd = 0 ∨ kd = 2 ∨ kd = 3) := by
  have : k ∈ [2, 4, 5, 6, 8, 10, 11, 12, 13, 14, 18, 20, 21, 23, 24, 25, 26] := List.contains_iff_mem.mp h
  simp only [List.mem_cons, List.not_mem_nil, or_false] at this
  rcases this with rfl | rfl | rfl | rfl | rfl | rfl | rfl | rfl | rfl | rfl | rfl | rfl | rfl | rfl | rfl | rfl | rfl <;> exact ⟨_, _, rfl, by decide⟩
section JOINT
variable {l : jL} {h h1 : jH} {r t tb b q ta s a an ap nt m o : Nat} {tt A : Nat → Nat} {f : Nat → Int32} {ds md : dsT} {V : List Int64} {j fk th : Nat} {fp : Int32} {L : List hiT} {g : Nat → Int64}
/-- no thing of the class -/
def notR (h : jH) (an ap y : Nat) : Prop := (∃ fs, h y = some (.inr (11, fs))) ∨ ((∃ kd v, h y = some (.inl (kd, v)) ∧ kd ≠ 4 ∧ kd ≠ 1 ∧ kd ≠ 5) ∧ y ≠ an ∧ y ≠ ap)
theorem notR_m (M : mdI h m A nt (sp_B f) md fk fp L th) (hs : ∀ k, mdK k = true → A k ≠ an ∧ A k ≠ ap ∧ A k ≠ o) : ∀ y, mdS m A y → notR h an ap y := by
  obtain ⟨g, N, Q, M, -⟩ := M
  rintro y (rfl | ⟨k, hk, rfl⟩)
  · exact Or.inl ⟨_, M.1⟩
  · obtain ⟨kd, v, e, hkd⟩ := mdR_of (N := N) (Q := Q) hk
    exact Or.inr ⟨⟨kd, v, M.2.1 k _ e, by omega, by omega, by omega⟩, (hs k hk).1, (hs k hk).2.1⟩
/-- the class keeps what isn't its own -/
theorem rk_out (I : rkI l h r t tb b q ta tt s a an ap nt f ds V j fk fp L) (F : fr (rkS h t tb q tt s a an ap) h h1) {y : Nat} (n : notR h an ap y) : h1 y = h y := by
  obtain ⟨i1, ⟨i2, i3, -⟩, -, ⟨cur, qs, y1, ⟨g, y2, -⟩, y4, -⟩, ⟨nd, i5⟩, ⟨lim, fN, fP, ⟨b1, b2, b3, -⟩, -⟩, -⟩ := I
  refine F y ?_
  rcases n with ⟨fs, e⟩ | ⟨⟨kd, v, e, k4, k1, k5⟩, nan, nap⟩
  · rintro (z | z | (z | z | z) | (z | ⟨i, hi, z⟩) | z | z)
    · exact lc_no e (by decide) z
    · exact jv_neO e i5 (by decide) z
    · exact jv_neO e b1 (by decide) z
    · exact jv_neA e b2 z
    · exact jv_neA e b3 z
    · exact jv_neO e y1 (by decide) z
    · exact jv_neO e (y4 i hi) (by decide) z
    · exact jv_neO e i2 (by decide) z
    · exact jv_neA e i3 z
  · rintro (z | z | (z | z | z) | (z | ⟨i, hi, z⟩) | z | z)
    · exact lc_noA e k4 z
    · exact jv_neA i5 e z.symm
    · exact jv_neA b1 e z.symm
    · exact nan z
    · exact nap z
    · exact jv_neA y1 e z.symm
    · exact jv_neA (y4 i hi) e z.symm
    · exact jv_neA i2 e z.symm
    · rw [z, i3] at e
      cases e
      exact k1 rfl
/-- and stays where none of its own changed -/
theorem rk_stay (I : rkI l h r t tb b q ta tt s a an ap nt f ds V j fk fp L) {S : Nat → Prop} (F : fr S h h1) (hS : ∀ y, S y → notR h an ap y) : rkI l h1 r t tb b q ta tt s a an ap nt f ds V j fk fp L := by
  have no : ∀ {y c : Nat} {fs : List Value}, h y = some (.inr (c, fs)) → c ≠ 11 → h1 y = h y := fun {y c fs} e hc => F y (fun z => by
    rcases hS y z with ⟨fs', e'⟩ | ⟨⟨kd, v, e', -⟩, -⟩
    · rw [e'] at e; cases e; exact hc rfl
    · rw [e'] at e; cases e)
  have noA : ∀ {y k : Nat} {v : vp_A}, h y = some (.inl (k, v)) → (k = 4 ∨ k = 1 ∨ k = 5) ∨ y = an ∨ y = ap → h1 y = h y := fun {y k v} e hk => F y (fun z => by
    rcases hS y z with ⟨fs', e'⟩ | ⟨⟨kd, v', e', k4, k1, k5⟩, nan, nap⟩
    · rw [e'] at e; cases e
    · rw [e'] at e
      cases e
      rcases hk with (c | c | c) | c | c
      · exact k4 c
      · exact k1 c
      · exact k5 c
      · exact nan c
      · exact nap c)
  have K := libI_keep (h1 := h1) I.2.2.1 (fun y hy he => F y (fun z => by
    rcases hS y z with ⟨fs', e'⟩ | ⟨⟨kd, v', e', k4, k1, k5⟩, nan, nap⟩
    · exact lc_no e' (by decide) hy
    · exact lc_noA e' k4 hy))
  obtain ⟨i1, ⟨i2, i3, i3b⟩, i4, ⟨cur, qs, i9⟩, ⟨nd, i5⟩, ⟨lim, i6⟩, i7⟩ := I
  obtain ⟨y1, ⟨g, y2, y3⟩, y4, y5⟩ := id i9
  obtain ⟨fN, fP, ⟨b1, b2, b3, -⟩, -⟩ := id i6
  refine ⟨(no i1 (by decide)).trans i1, ⟨(no i2 (by decide)).trans i2, (noA i3 (Or.inl (by decide))).trans i3, i3b⟩, K, ⟨cur, qs, qy_up2 i9 (no y1 (by decide)) (noA y2 (Or.inl (by decide))) (fun i hi => no (y4 i hi) (by decide))⟩, ⟨nd, (no i5 (by decide)).trans i5⟩, ⟨lim, bs_up i6 (fun y hy => ?_)⟩, i7⟩
  rcases hy with rfl | rfl | rfl
  · exact no b1 (by decide)
  · exact noA b2 (Or.inr (Or.inl rfl))
  · exact noA b3 (Or.inr (Or.inr rfl))
/-- the model stays where none of its own changed -/
theorem md_stay {B : Nat → Nat} (M : mdI h m A nt B md fk fp L th) (e : ∀ y, mdS m A y → h1 y = h y) : mdI h1 m A nt B md fk fp L th := by
  obtain ⟨g, N, Q, M, R⟩ := M
  exact ⟨g, N, Q, mdl_keep M e, R⟩
theorem md_zero {B B' : Nat → Nat} (M : mdI h m A 0 B md fk fp L th) : mdI h m A 0 B' md fk fp L th := by
  obtain ⟨g, N, Q, M, ⟨t1, t2, t3⟩, R⟩ := M
  exact ⟨g, N, Q, M, ⟨t1, t2, fun i hi => absurd hi (Nat.not_lt_zero i)⟩, R⟩
/-- BOTH -/
def jn (l : jL) (h : jH) (r t tb b q ta : Nat) (tt : Nat → Nat) (s a an ap nt : Nat) (f : Nat → Int32) (ds : dsT) (V : List Int64) (j fk : Nat) (fp : Int32) (L : List hiT) (m : Nat) (A : Nat → Nat) (md : dsT) (th o : Nat) (g : Nat → Int64) : Prop :=
  rkI l h r t tb b q ta tt s a an ap nt f ds V j fk fp L ∧ mdI h m A nt (sp_B f) md fk fp L th ∧ md.Perm ds ∧ (∀ p ∈ ds, ∀ w ∈ p.2, isWd w) ∧ h o = some (.inl (3, 1, .inr (.inl g))) ∧ ∀ k, mdK k = true → A k ≠ an ∧ A k ≠ ap ∧ A k ≠ o
/-- where the class has gone, and the answer been laid down: the model as it was, all of the class -/
theorem jn_o (M : mdI h m A nt (sp_B f) md fk fp L th) (ho : h o = some (.inl (3, 1, .inr (.inl g)))) (hs : ∀ k, mdK k = true → A k ≠ an ∧ A k ≠ ap ∧ A k ≠ o) (I : rkI l h r t tb b q ta tt s a an ap nt f ds V j fk fp L) {h2 : jH} (F : fr (rkS h t tb q tt s a an ap) h h2) {nt' : Nat} {f' : Nat → Int32} {ds' : dsT} {V' : List Int64} {j' fk' : Nat} {fp' : Int32} {L' : List hiT} (I2 : rkI l h2 r t tb b q ta tt s a an ap nt' f' ds' V' j' fk' fp' L') (g' : Nat → Int64) : rkI l (jv_up h2 o (.inl (3, 1, .inr (.inl g')))) r t tb b q ta tt s a an ap nt' f' ds' V' j' fk' fp' L' ∧ mdI (jv_up h2 o (.inl (3, 1, .inr (.inl g')))) m A nt (sp_B f) md fk fp L th := by
  have hmS := notR_m M hs
  have noo : o ≠ an ∧ o ≠ ap := by
    obtain ⟨i1, ⟨i2, i3, -⟩, -, -, -, ⟨lim, fN, fP, ⟨b1, b2, b3, -⟩, -⟩, -⟩ := I
    exact ⟨(fun z => by rw [z, b2] at ho; cases ho), (fun z => by rw [z, b3] at ho; cases ho)⟩
  have nO : notR h an ap o := Or.inr ⟨⟨3, _, ho, by decide, by decide, by decide⟩, noo⟩
  have ho2 := (rk_out I F nO).trans ho
  refine ⟨rk_stay (S := fun y => y = o) I2 (fr_up rfl) (fun y hy => by rw [hy]; exact Or.inr ⟨⟨3, _, ho2, by decide, by decide, by decide⟩, noo⟩), md_stay M (fun y hy => ?_)⟩
  have h2y := rk_out I F (hmS y hy)
  refine (jv_up_ne (fun z => ?_)).trans h2y
  rcases hy with rfl | ⟨k, hk, rfl⟩
  · obtain ⟨g, N, Q, M, -⟩ := M
    exact jv_neA M.1 ho z
  · exact (hs k hk).2.2 z
end JOINT
