/-! the best of a row of hits -/
theorem hi_bt_iff (x y : hiT) : hi_bt x y = true ↔ y.2 < x.2 ∨ (x.2 = y.2 ∧ x.1 < y.1) := by
  unfold hi_bt
  simp only [Bool.or_eq_true, Bool.and_eq_true, decide_eq_true_eq]
theorem hi_trans {x y z : hiT} (h : hi_bt x y = true) (g : hi_bt y z = true) : hi_bt x z = true := by
  rw [hi_bt_iff] at h g ⊢
  rcases h with h | ⟨h, h2⟩
  · rcases g with g | ⟨g, g2⟩
    · exact Or.inl (Int32.lt_trans g h)
    · exact Or.inl (g ▸ h)
  · rcases g with g | ⟨g, g2⟩
    · exact Or.inl (h ▸ g)
    · exact Or.inr ⟨h.trans g, Nat.lt_trans h2 g2⟩
theorem hi_asymm {x y : hiT} (h : hi_bt x y = true) (g : hi_bt y x = true) : False := by
  have := hi_trans h g
  rw [hi_bt_iff] at this
  rcases this with z | z
  · exact Int32.lt_irrefl z
  · exact Nat.lt_irrefl _ z.2
theorem hi_total {x y : hiT} (h : x.1 ≠ y.1) (g : ¬ hi_bt x y = true) : hi_bt y x = true := by
  rw [hi_bt_iff] at g ⊢
  by_cases c : x.2 < y.2
  · exact Or.inl c
  · by_cases c2 : x.2 = y.2
    · rcases Nat.lt_or_gt_of_ne h with z | z
      · exact absurd (Or.inr ⟨c2, z⟩) g
      · exact Or.inr ⟨c2.symm, z⟩
    · have : y.2 < x.2 := by
        have h1 := Int32.not_lt.mp c
        rcases Int32.le_iff_lt_or_eq.mp h1 with z | z
        · exact z
        · exact absurd z.symm c2
      exact absurd (Or.inl this) g
abbrev hiS (R : List hiT) : Prop := R.Pairwise (fun x y => hi_bt x y = true)
def topR (k : Nat) (H R : List hiT) : Prop := hiS R ∧ R.length = min k H.length ∧ ∃ rest, H.Perm (R ++ rest) ∧ ∀ y ∈ R, ∀ x ∈ rest, hi_bt y x = true
theorem topR_perm {k : Nat} {H H' R : List hiT} (p : H.Perm H') (h : topR k H R) : topR k H' R := by
  obtain ⟨h1, h2, rest, h3, h4⟩ := h
  exact ⟨h1, by rw [← p.length_eq]; exact h2, rest, p.symm.trans h3, h4⟩
theorem topR_nil (k : Nat) : topR k [] [] := ⟨List.Pairwise.nil, by show 0 = min k 0; omega, [], List.Perm.refl _, fun y hy => by cases hy⟩
theorem topR_uniq : ∀ {R R' : List hiT} {k : Nat} {H : List hiT}, topR k H R → topR k H R' → R = R'
  | [], R', k, H, ⟨_, h2, _⟩, ⟨_, g2, _⟩ => by
    have h2 : 0 = min k H.length := h2
    rw [← h2] at g2
    exact (List.length_eq_zero_iff.mp g2).symm
  | y :: R, [], k, H, ⟨_, h2, _⟩, ⟨_, g2, _⟩ => by
    have g2 : 0 = min k H.length := g2
    rw [← g2] at h2
    cases h2
  | y :: R, z :: R', k, H, ⟨h1, h2, rest, h3, h4⟩, ⟨g1, g2, rest', g3, g4⟩ => by
    obtain ⟨a1, a2⟩ := List.pairwise_cons.mp h1
    obtain ⟨b1, b2⟩ := List.pairwise_cons.mp g1
    have hyz : y = z := by
      by_cases c : y = z
      · exact c
      · have hz : z ∈ y :: (R ++ rest) := h3.mem_iff.mp (g3.mem_iff.mpr List.mem_cons_self)
        have hy : y ∈ z :: (R' ++ rest') := g3.mem_iff.mp (h3.mem_iff.mpr List.mem_cons_self)
        have k1 : hi_bt y z = true := by
          rcases List.mem_cons.mp hz with e | e
          · exact absurd e.symm c
          · rcases List.mem_append.mp e with e | e
            · exact a1 z e
            · exact h4 y List.mem_cons_self z e
        have k2 : hi_bt z y = true := by
          rcases List.mem_cons.mp hy with e | e
          · exact absurd e c
          · rcases List.mem_append.mp e with e | e
            · exact b1 y e
            · exact g4 z List.mem_cons_self y e
        exact (hi_asymm k1 k2).elim
    subst hyz
    have hp : (R ++ rest).Perm (R' ++ rest') := List.Perm.cons_inv (h3.symm.trans g3)
    have l1 := h3.length_eq
    rw [List.cons_append, List.length_cons] at l1
    rw [List.length_cons] at h2 g2
    have e := topR_uniq (k := k - 1) (H := R ++ rest) (R := R) (R' := R') ⟨a2, by omega, rest, List.Perm.refl _, fun y9 hy => h4 y9 (List.mem_cons_of_mem _ hy)⟩ ⟨b2, by omega, rest', hp, fun y9 hy => g4 y9 (List.mem_cons_of_mem _ hy)⟩
    rw [e]
/-- the best first, then the best of the others -/
theorem topR_cons {k : Nat} {H T R : List hiT} {y : hiT} (p : H.Perm (y :: T)) (h : ∀ x ∈ T, hi_bt y x = true) (t : topR k T R) : topR (k + 1) H (y :: R) := by
  obtain ⟨h1, h2, rest, h3, h4⟩ := t
  have l1 := p.length_eq
  rw [List.length_cons] at l1
  refine ⟨List.pairwise_cons.mpr ⟨fun x hx => h x (h3.mem_iff.mpr (List.mem_append_left _ hx)), h1⟩, by rw [List.length_cons]; omega, rest, p.trans (List.Perm.cons y h3), fun z hz x hx => ?_⟩
  rcases List.mem_cons.mp hz with e | e
  · rw [e]
    exact h x (h3.mem_iff.mpr (List.mem_append_right _ hx))
  · exact h4 z e x hx
/-- where x goes in a row in order -/
theorem hi_bp_spec (x : hiT) {R : List hiT} (hs : hiS R) (hx : ∀ y ∈ R, y.1 ≠ x.1) : ∀ p, p ≤ R.length → (∀ (i : Nat) (y : hiT), p ≤ i → R[i]? = some y → hi_bt x y = true) → (∀ (i : Nat) (y : hiT), i < hi_bp x R p → R[i]? = some y → hi_bt y x = true) ∧ ∀ (i : Nat) (y : hiT), hi_bp x R p ≤ i → R[i]? = some y → hi_bt x y = true
  | 0, _, h => ⟨fun i y hi => absurd hi (Nat.not_lt_zero i), h⟩
  | p + 1, hp, h => by
    have hR : R[p]? = some (R.getD p (0, 0)) := by rw [List.getD_eq_getElem?_getD, List.getElem?_eq_getElem (by omega)]; rfl
    unfold hi_bp
    by_cases c : hi_bt x (R.getD p (0, 0)) = true
    · rw [if_pos c]
      refine hi_bp_spec x hs hx p (by omega) (fun i y hi hy => ?_)
      by_cases e : i = p
      · rw [e, hR] at hy
        cases hy
        exact c
      · exact h i y (by omega) hy
    · rw [if_neg c]
      refine ⟨fun i y hi hy => ?_, h⟩
      have hpx := hi_total (hx _ (List.mem_of_getElem? hR)).symm c
      by_cases e : i = p
      · rw [e, hR] at hy
        cases hy
        exact hpx
      · have hi2 : i < p := by omega
        obtain ⟨q1, q2⟩ := List.getElem?_eq_some_iff.mp hy
        obtain ⟨q3, q4⟩ := List.getElem?_eq_some_iff.mp hR
        have := List.pairwise_iff_getElem.mp hs i p q1 q3 hi2
        rw [q2, q4] at this
        exact hi_trans this hpx
theorem topR_step {k : Nat} {H R : List hiT} {x : hiT} (h : topR k H R) (hx : ∀ y ∈ H, y.1 ≠ x.1) : topR k (x :: H) (hi_bo k R x) := by
  obtain ⟨h1, h2, rest, h3, h4⟩ := h
  have hxR : ∀ y ∈ R, y.1 ≠ x.1 := fun y hy => hx y (h3.mem_iff.mpr (List.mem_append_left _ hy))
  obtain ⟨s1, s2⟩ := hi_bp_spec x h1 hxR R.length (Nat.le_refl _) (fun i y hi hy => by rw [List.getElem?_eq_none hi] at hy; cases hy)
  have hple := hi_bp_le x R R.length
  have hl := h3.length_eq
  rw [List.length_append] at hl
  unfold hi_bo
  generalize hp : hi_bp x R R.length = p at *
  by_cases c : k ≤ p
  · rw [if_pos c]
    refine ⟨h1, by rw [List.length_cons]; omega, x :: rest, (List.Perm.cons x h3).trans List.perm_middle.symm, fun y hy z hz => ?_⟩
    rcases List.mem_cons.mp hz with e | e
    · rw [e]
      obtain ⟨i, hi⟩ := List.getElem?_of_mem hy
      have := (List.getElem?_eq_some_iff.mp hi).1
      exact s1 i y (by omega) hi
    · exact h4 y hy z e
  · rw [if_neg c]
    have hmt : ∀ y ∈ R.take p, hi_bt y x = true := by
      intro y hy
      obtain ⟨i, hi⟩ := List.getElem?_of_mem hy
      rw [List.getElem?_take] at hi
      split at hi
      · rename_i c2
        exact s1 i y c2 hi
      · cases hi
    have hmd : ∀ y ∈ R.drop p, hi_bt x y = true := by
      intro y hy
      obtain ⟨i, hi⟩ := List.getElem?_of_mem hy
      rw [List.getElem?_drop] at hi
      exact s2 (p + i) y (by omega) hi
    have hsplit := h1
    rw [← List.take_append_drop p R] at hsplit
    obtain ⟨t1, t2, t3⟩ := List.pairwise_append.mp hsplit
    have hS' : hiS (R.take p ++ x :: R.drop p) := by
      refine List.pairwise_append.mpr ⟨t1, List.pairwise_cons.mpr ⟨hmd, t2⟩, fun a ha b hb => ?_⟩
      rcases List.mem_cons.mp hb with e | e
      · rw [e]; exact hmt a ha
      · exact t3 a ha b e
    have hperm : (R.take p ++ x :: R.drop p).Perm (x :: R) := by
      refine List.perm_middle.trans ?_
      rw [List.take_append_drop]
    generalize hR' : R.take p ++ x :: R.drop p = R' at *
    have hlen := hperm.length_eq
    rw [List.length_cons] at hlen
    have hxr : ∀ z ∈ rest, hi_bt x z = true := by
      intro z hz
      have : 0 < rest.length := List.length_pos_of_mem hz
      have hpR : p < R.length := by omega
      have hg := List.getElem?_eq_getElem hpR
      exact hi_trans (s2 p _ (Nat.le_refl _) hg) (h4 _ (List.mem_of_getElem? hg) z hz)
    have hS2 := hS'
    rw [← List.take_append_drop k R'] at hS2
    obtain ⟨u1, u2, u3⟩ := List.pairwise_append.mp hS2
    refine ⟨u1, by rw [List.length_take, List.length_cons]; omega, R'.drop k ++ rest, ?_, fun y hy z hz => ?_⟩
    · rw [← List.append_assoc, List.take_append_drop]
      exact (List.Perm.cons x h3).trans (hperm.symm.append_right rest)
    · rcases List.mem_append.mp hz with e | e
      · exact u3 y hy z e
      · have := hperm.mem_iff.mp (List.mem_of_mem_take hy)
        rcases List.mem_cons.mp this with q | q
        · rw [q]; exact hxr z e
        · exact h4 y q z e
/-- all hits offered one by one -/
theorem topR_fold {α : Type} (k : Nat) (hit : α → Option hiT) (g : List hiT → α → List hiT) (hg : ∀ L d, g L d = match hit d with | none => L | some x => hi_bo k L x) : ∀ (M : List α) (H R : List hiT), topR k H R → ((M.filterMap hit).map (·.1) ++ H.map (·.1)).Nodup → topR k (M.filterMap hit ++ H) (M.foldl g R)
  | [], H, R, t, _ => t
  | d :: M, H, R, t, hn => by
    rw [List.foldl_cons, hg]
    cases e : hit d with
    | none =>
      rw [List.filterMap_cons_none e] at hn ⊢
      exact topR_fold k hit g hg M H R t hn
    | some x =>
      rw [List.filterMap_cons_some e] at hn ⊢
      have hn2 : (x.1 :: ((M.filterMap hit).map (·.1) ++ H.map (·.1))).Nodup := hn
      obtain ⟨n1, n2⟩ := List.nodup_cons.mp hn2
      have := topR_fold k hit g hg M (x :: H) (hi_bo k R x) (topR_step t (fun y hy z => n1 (List.mem_append_right _ (List.mem_map.mpr ⟨y, hy, z⟩)))) ((List.perm_middle.nodup_iff).mpr (List.nodup_cons.mpr ⟨n1, n2⟩))
      exact topR_perm List.perm_middle this
