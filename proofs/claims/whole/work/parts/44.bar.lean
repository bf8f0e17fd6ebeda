/-! Search: what a word does to the met documents -/
abbrev srT : Type := List Nat × (Nat → Bool × Int32 × Int32)
def srM (p : srT) (d : Nat) : srT := (if d ∈ p.1 then p.1 else d :: p.1, if d ∈ p.1 then p.2 else va_up p.2 d (false, 0, 0))
def srBar (p : srT) (d : Nat) : srT := ((srM p d).1, va_up (srM p d).2 d (true, ((srM p d).2 d).2))
section BAR
variable {l : jL} {h h1 : jH} {b da dd dc x xa xd xc s : Nat} {DL W SW SP M : List Nat} {lt : Nat → Int64} {num len : Nat → Nat} {PD QW : Nat → List Nat} {tot : Nat → Nat} {tm pa : Nat → Nat → Nat} {nx : Nat → Nat → Option Nat} {fi : Nat → Option Nat} {sf : Nat → sfT} {n : Nat} {nd : Int32} {st : Nat → Bool × Int32 × Int32}
/-- writing barred, terms and points of a met document -/
theorem sm_set (S : sm h s M nd DL sf st) (G : gD h DL num len fi sf) {d : Nat} (hd : d ∈ M) (v : Bool × Int32 × Int32) : sm (jv_up h d (dcO (num d) (len d) (fi d) (true, v.1, v.2.1, v.2.2, (sf d).2.2.2.2))) s M nd DL (va_up sf d (true, v.1, v.2.1, v.2.2, (sf d).2.2.2.2)) (va_up st d v) ∧ gD (jv_up h d (dcO (num d) (len d) (fi d) (true, v.1, v.2.1, v.2.2, (sf d).2.2.2.2))) DL num len fi (va_up sf d (true, v.1, v.2.1, v.2.2, (sf d).2.2.2.2)) := by
  obtain ⟨s1, s2, s3, s4, s5⟩ := S
  have gd := G d (s3 d hd)
  have nsd : s ≠ d := jv_neO s1 gd (by decide)
  refine ⟨⟨jv_up_of nsd s1, s2, s3, fun e he => ?_, fun i e hi => ?_⟩, fun e he => ?_⟩
  · by_cases c : e = d
    · subst c
      rw [show va_up sf e (true, v.1, v.2.1, v.2.2, (sf e).2.2.2.2) e = (true, v.1, v.2.1, v.2.2, (sf e).2.2.2.2) from if_pos rfl]
      exact (decide_eq_true hd).symm
    · rw [show va_up sf d (true, v.1, v.2.1, v.2.2, (sf d).2.2.2.2) e = sf e from if_neg c]
      exact s4 e he
  · by_cases c : e = d
    · subst c
      rw [show va_up sf e (true, v.1, v.2.1, v.2.2, (sf e).2.2.2.2) e = (true, v.1, v.2.1, v.2.2, (sf e).2.2.2.2) from if_pos rfl, show va_up st e v e = v from if_pos rfl, s5 i e hi]
    · rw [show va_up sf d (true, v.1, v.2.1, v.2.2, (sf d).2.2.2.2) e = sf e from if_neg c, show va_up st d v e = st e from if_neg c]
      exact s5 i e hi
  · by_cases c : e = d
    · subst c
      rw [jv_up_at, show va_up sf e (true, v.1, v.2.1, v.2.2, (sf e).2.2.2.2) e = (true, v.1, v.2.1, v.2.2, (sf e).2.2.2.2) from if_pos rfl]
    · rw [show va_up sf d (true, v.1, v.2.1, v.2.2, (sf d).2.2.2.2) e = sf e from if_neg c]
      exact jv_up_of c (G e he)
theorem sm_sf (S : sm h s M nd DL sf st) {d : Nat} (hd : d ∈ M) : ∃ z, sf d = (true, (st d).1, (st d).2.1, (st d).2.2, z) := by
  obtain ⟨i, hi⟩ := List.getElem?_of_mem hd
  exact ⟨_, S.2.2.2.2 i d hi⟩
theorem srM_mem (p : srT) (d : Nat) : d ∈ (srM p d).1 := by
  unfold srM
  by_cases c : d ∈ p.1
  · show d ∈ (if _ then _ else _)
    rw [if_pos c]; exact c
  · show d ∈ (if _ then _ else _)
    rw [if_neg c]; exact List.mem_cons_self
end BAR
