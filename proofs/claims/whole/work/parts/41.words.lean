/-! the store and the documents' lists of words -/
def gA (W D : List Nat) (lt : Nat → Int64) (PD : Nat → List Nat) (tm : Nat → Nat → Nat) (len : Nat → Nat) (wl : Nat → List Int64) : Prop :=
  ∀ v ∈ D, len v = (wl v).length ∧ (∀ u ∈ W, (v ∈ PD u ↔ lt u ∈ wl v) ∧ (v ∈ PD u → tm u v = (wl v).count (lt u))) ∧ ∀ L ∈ wl v, ∃ u ∈ W, lt u = L
section WORDS
variable {W W' D : List Nat} {lt : Nat → Int64} {PD PD' : Nat → List Nat} {tm tm' : Nat → Nat → Nat} {len : Nat → Nat} {wl : Nat → List Int64}
theorem gA_forget (A : gA W D lt PD tm len wl) (e : Nat) (y1 : ∀ u, u ∈ W' ↔ u ∈ W ∧ PD' u ≠ []) (y2 : ∀ u ∈ W, ∀ v, v ≠ e → (v ∈ PD' u ↔ v ∈ PD u)) (y3 : ∀ u ∈ W', e ∉ PD' u) : gA W' D lt PD' tm (va_up len e 0) (va_up wl e []) := by
  intro v hv
  obtain ⟨a1, a2, a3⟩ := A v hv
  by_cases c : v = e
  · subst c
    rw [show va_up len v 0 v = 0 from if_pos rfl, show va_up wl v [] v = [] from if_pos rfl]
    exact ⟨rfl, fun u hu => ⟨⟨fun z => absurd z (y3 u hu), fun z => by cases z⟩, fun z => absurd z (y3 u hu)⟩, fun L hL => by cases hL⟩
  · rw [show va_up len e 0 v = len v from if_neg c, show va_up wl e [] v = wl v from if_neg c]
    refine ⟨a1, fun u hu => ?_, fun L hL => ?_⟩
    · have hu1 := ((y1 u).mp hu).1
      exact ⟨(y2 u hu1 v c).trans (a2 u hu1).1, fun z => (a2 u hu1).2 ((y2 u hu1 v c).mp z)⟩
    · obtain ⟨u, hu, hL2⟩ := a3 L hL
      have hm := (y2 u hu v c).mpr ((a2 u hu).1.mpr (hL2 ▸ hL))
      exact ⟨u, (y1 u).mpr ⟨hu, fun z => by rw [z] at hm; cases hm⟩, hL2⟩
theorem gA_enter (A : gA W D lt PD tm len wl) {L : Int64} {w p : Nat} (e1 : ∀ u ∈ W, lt u ≠ L) (e2 : w ∉ W) : gA (W.take p ++ w :: W.drop p) D (va_up lt w L) (va_up PD w []) tm len wl := by
  intro v hv
  obtain ⟨a1, a2, a3⟩ := A v hv
  refine ⟨a1, fun u hu => ?_, fun M hM => ?_⟩
  · rcases ins_mem hu with c | c
    · subst c
      rw [show va_up PD u [] u = [] from if_pos rfl, show va_up lt u L u = L from if_pos rfl]
      refine ⟨⟨(fun z => by cases z), fun z => ?_⟩, (fun z => by cases z)⟩
      obtain ⟨u2, h2, h3⟩ := a3 L z
      exact absurd h3 (e1 u2 h2)
    · have nq : u ≠ w := fun z => e2 (z ▸ c)
      rw [show va_up PD w [] u = PD u from if_neg nq, show va_up lt w L u = lt u from if_neg nq]
      exact a2 u c
  · obtain ⟨u, hu, h3⟩ := a3 M hM
    have nq : u ≠ w := fun z => e2 (z ▸ hu)
    exact ⟨u, ins_of hu, by rw [show va_up lt w L u = lt u from if_neg nq]; exact h3⟩
theorem gA_count (A : gA W D lt PD tm len wl) {w e : Nat} (hw : w ∈ W) (inj : ∀ u ∈ W, lt u = lt w → u = w) (y1 : ∀ u, u ≠ w → PD' u = PD u) (y3 : ∀ v, v ∈ PD' w ↔ v = e ∨ v ∈ PD w) (y4 : tm' w e = (if e ∈ PD w then tm w e else 0) + 1) (y5 : ∀ u v, (u ≠ w ∨ v ≠ e) → tm' u v = tm u v) : gA W D lt PD' tm' (va_up len e (len e + 1)) (va_up wl e (wl e ++ [lt w])) := by
  intro v hv
  obtain ⟨a1, a2, a3⟩ := A v hv
  by_cases c : v = e
  · subst c
    rw [show va_up len v (len v + 1) v = len v + 1 from if_pos rfl, show va_up wl v (wl v ++ [lt w]) v = wl v ++ [lt w] from if_pos rfl]
    refine ⟨by rw [List.length_append, a1]; rfl, fun u hu => ?_, fun L hL => ?_⟩
    · obtain ⟨q1, q2⟩ := a2 u hu
      by_cases c2 : u = w
      · subst c2
        refine ⟨⟨fun _ => List.mem_append_right _ List.mem_cons_self, fun _ => (y3 v).mpr (Or.inl rfl)⟩, fun _ => ?_⟩
        rw [y4, List.count_append, List.count_singleton_self]
        by_cases c3 : v ∈ PD u
        · rw [if_pos c3, q2 c3]
        · rw [if_neg c3, List.count_eq_zero_of_not_mem (fun z => c3 (q1.mpr z))]
      · have hl : lt u ≠ lt w := fun z => c2 (inj u hu z)
        rw [y1 u c2, y5 u v (Or.inl c2), List.count_append]
        have h0 : [lt w].count (lt u) = 0 := List.count_eq_zero_of_not_mem (fun z => hl (List.mem_singleton.mp z))
        rw [h0, Nat.add_zero]
        refine ⟨⟨fun z => List.mem_append_left _ (q1.mp z), fun z => ?_⟩, q2⟩
        rcases List.mem_append.mp z with z | z
        · exact q1.mpr z
        · exact absurd (List.mem_singleton.mp z) hl
    · rcases List.mem_append.mp hL with z | z
      · exact a3 L z
      · exact ⟨w, hw, (List.mem_singleton.mp z).symm⟩
  · rw [show va_up len e (len e + 1) v = len v from if_neg c, show va_up wl e (wl e ++ [lt w]) v = wl v from if_neg c]
    refine ⟨a1, fun u hu => ?_, a3⟩
    obtain ⟨q1, q2⟩ := a2 u hu
    rw [y5 u v (Or.inr c)]
    by_cases c2 : u = w
    · subst c2
      have hm : v ∈ PD' u ↔ v ∈ PD u := (y3 v).trans ⟨fun z => z.elim (fun z => absurd z c) id, Or.inr⟩
      exact ⟨hm.trans q1, fun z => q2 (hm.mp z)⟩
    · rw [y1 u c2]
      exact ⟨q1, q2⟩
theorem gA_drop (A : gA W D lt PD tm len wl) (i : Nat) : gA W (D.eraseIdx i) lt PD tm len wl := fun v hv => A v (List.mem_of_mem_eraseIdx hv)
theorem gA_open (A : gA W D lt PD tm len wl) {q : Nat} (hq : q ∉ D) (hP : ∀ u ∈ W, ∀ v ∈ PD u, v ∈ D) : gA W (D ++ [q]) lt PD tm (va_up len q 0) (va_up wl q []) := by
  intro v hv
  by_cases c : v = q
  · subst c
    rw [show va_up len v 0 v = 0 from if_pos rfl, show va_up wl v [] v = [] from if_pos rfl]
    exact ⟨rfl, fun u hu => ⟨⟨fun z => absurd (hP u hu v z) hq, fun z => by cases z⟩, fun z => absurd (hP u hu v z) hq⟩, fun L hL => by cases hL⟩
  · rw [show va_up len q 0 v = len v from if_neg c, show va_up wl q [] v = wl v from if_neg c]
    exact A v ((List.mem_append.mp hv).elim id (fun z => absurd (List.mem_singleton.mp z) c))
end WORDS
/-- the words of a tape from place i on, at most k -/
def sp_wds (B : Nat → Nat) (n : Nat) : Nat → Nat → List Int64
  | 0, _ => []
  | k + 1, i => if n ≤ i then [] else sp_word B i (sp_we B n i) :: sp_wds B n k (sp_ws B n (sp_we B n i))
def sp_text (B : Nat → Nat) (n : Nat) : List Int64 := sp_wds B n 200 (sp_ws B n 0)
theorem sp_wsf_le (B : Nat → Nat) : ∀ k i, i ≤ sp_wsf B k i ∧ sp_wsf B k i ≤ i + k
  | 0, i => ⟨Nat.le_refl _, Nat.le_refl _⟩
  | k + 1, i => by
    unfold sp_wsf
    split
    · omega
    · have := sp_wsf_le B k (i + 1)
      omega
theorem sp_wef_le (B : Nat → Nat) : ∀ k i, i ≤ sp_wef B k i ∧ sp_wef B k i ≤ i + k
  | 0, i => ⟨Nat.le_refl _, Nat.le_refl _⟩
  | k + 1, i => by
    unfold sp_wef
    split
    · have := sp_wef_le B k (i + 1)
      omega
    · omega
theorem sp_ws_le (B : Nat → Nat) {n i : Nat} (h : i ≤ n) : i ≤ sp_ws B n i ∧ sp_ws B n i ≤ n := by
  have := sp_wsf_le B (n - i) i
  unfold sp_ws
  omega
theorem sp_we_le (B : Nat → Nat) {n i : Nat} (h : i ≤ n) : i ≤ sp_we B n i ∧ sp_we B n i ≤ n := by
  have := sp_wef_le B (n - i) i
  unfold sp_we
  omega
