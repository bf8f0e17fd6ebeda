/-! the model: its things -/
abbrev mdO (A : Nat → Nat) (g : Nat → Int32) : jE := .inr (11, [.int (g 0), .int (g 1), .ref (A 2), .int (g 3), .ref (A 4), .ref (A 5), .ref (A 6), .int (g 7), .ref (A 8), .int (g 9), .ref (A 10), .ref (A 11), .ref (A 12), .ref (A 13), .ref (A 14), .int (g 15), .int (g 16), .int (g 17), .ref (A 18), .int (g 19), .ref (A 20), .ref (A 21), .int (g 22), .ref (A 23), .ref (A 24), .ref (A 25), .ref (A 26)])
/-- its arrays, by their field -/
def mdR (N : Nat → Nat → Int32) (Q : Nat → Nat → Int64) : Nat → Option (Nat × vp_A)
  | 2 => some (0, 400, .inl (N 2))
  | 4 => some (0, 120, .inl (N 4))
  | 5 => some (0, 120, .inl (N 5))
  | 6 => some (3, 24000, .inr (.inl (Q 6)))
  | 8 => some (3, 200, .inr (.inl (Q 8)))
  | 10 => some (3, 200, .inr (.inl (Q 10)))
  | 11 => some (0, 200, .inl (N 11))
  | 12 => some (2, 200, .inl (N 12))
  | 13 => some (0, 200, .inl (N 13))
  | 14 => some (0, 200, .inl (N 14))
  | 18 => some (0, 120, .inl (N 18))
  | 20 => some (0, 50, .inl (N 20))
  | 21 => some (0, 50, .inl (N 21))
  | 23 => some (2, 24000, .inl (N 23))
  | 24 => some (0, 24000, .inl (N 24))
  | 25 => some (3, 32768, .inr (.inl (Q 25)))
  | 26 => some (0, 32768, .inl (N 26))
  | _ => none
def mdK (k : Nat) : Bool := [2, 4, 5, 6, 8, 10, 11, 12, 13, 14, 18, 20, 21, 23, 24, 25, 26].contains k
def mdF (k : Nat) : Bool := [0, 1, 3, 7, 9, 15, 16, 17, 19, 22].contains k
def mdl (h : jH) (m : Nat) (A : Nat → Nat) (g : Nat → Int32) (N : Nat → Nat → Int32) (Q : Nat → Nat → Int64) : Prop :=
  h m = some (mdO A g) ∧ (∀ k x, mdR N Q k = some x → h (A k) = some (.inl x)) ∧ ∀ i k, mdK i = true → mdK k = true → A i = A k → i = k
theorem mdK_of {N : Nat → Nat → Int32} {Q : Nat → Nat → Int64} {k : Nat} {x : Nat × vp_A} (h : mdR N Q k = some x) : mdK k = true := by
  unfold mdR at h
  split at h <;> first | rfl | cases h
/-- what it may touch -/
def mdS (m : Nat) (A : Nat → Nat) : Nat → Prop := fun y => y = m ∨ ∃ k, mdK k = true ∧ y = A k
section MODEL
variable {h h1 : jH} {m : Nat} {A : Nat → Nat} {g : Nat → Int32} {N : Nat → Nat → Int32} {Q : Nat → Nat → Int64}
theorem mdl_s (M : mdl h m A g N Q) (g' : Nat → Int32) : mdl (jv_up h m (mdO A g')) m A g' N Q :=
  ⟨jv_up_at _ _ _, fun k x e => jv_up_of (jv_neA M.1 (M.2.1 k x e)).symm (M.2.1 k x e), M.2.2⟩
theorem mdl_a (M : mdl h m A g N Q) (k : Nat) {x y : Nat × vp_A} {N' : Nat → Nat → Int32} {Q' : Nat → Nat → Int64} (hk : mdR N' Q' k = some y) (h0 : mdR N Q k = some x) (ho : ∀ i, i ≠ k → mdR N' Q' i = mdR N Q i) : mdl (jv_up h (A k) (.inl y)) m A g N' Q' := by
  refine ⟨jv_up_of (jv_neA M.1 (M.2.1 k x h0)) M.1, fun i z e => ?_, M.2.2⟩
  by_cases c : i = k
  · subst c
    rw [hk] at e
    cases e
    exact jv_up_at _ _ _
  · rw [ho i c] at e
    exact jv_up_of (fun q => c (M.2.2 i k (mdK_of e) (mdK_of h0) q)) (M.2.1 i z e)
theorem mdR_N (k : Nat) (u : Nat → Int32) {i : Nat} (c : i ≠ k) : mdR (va_up N k u) Q i = mdR N Q i := by
  unfold mdR
  split <;> first | rfl | (rw [show va_up N k u _ = N _ from if_neg c])
theorem mdR_Q (k : Nat) (u : Nat → Int64) {i : Nat} (c : i ≠ k) : mdR N (va_up Q k u) i = mdR N Q i := by
  unfold mdR
  split <;> first | rfl | (rw [show va_up Q k u _ = Q _ from if_neg c])
/-- an int or boolean array written -/
theorem mdl_N (M : mdl h m A g N Q) (k : Nat) {kd n : Nat} {u : Nat → Int32} (h0 : mdR N Q k = some (kd, n, .inl (N k))) (h1 : mdR (va_up N k u) Q k = some (kd, n, .inl u)) : mdl (jv_up h (A k) (.inl (kd, n, .inl u))) m A g (va_up N k u) Q :=
  mdl_a M k h1 h0 (fun i c => mdR_N k u c)
theorem mdl_Q (M : mdl h m A g N Q) (k : Nat) {kd n : Nat} {u : Nat → Int64} (h0 : mdR N Q k = some (kd, n, .inr (.inl (Q k)))) (h1 : mdR N (va_up Q k u) k = some (kd, n, .inr (.inl u))) : mdl (jv_up h (A k) (.inl (kd, n, .inr (.inl u)))) m A g N (va_up Q k u) :=
  mdl_a M k h1 h0 (fun i c => mdR_Q k u c)
theorem mdl_keep (M : mdl h m A g N Q) (e : ∀ y, mdS m A y → h1 y = h y) : mdl h1 m A g N Q :=
  ⟨(e m (Or.inl rfl)).trans M.1, fun k x q => (e _ (Or.inr ⟨k, mdK_of q, rfl⟩)).trans (M.2.1 k x q), M.2.2⟩
variable {K : jT} {cc : ByteArray} {nL fr0 mc ms cells slots pc : Nat} {own : String} {lv : Nat → Option Value} {rest : List Value}
theorem J_mput (C : JC K cc nL own fr0 mc ms) {i k : Nat} {ty : FieldType} (F : FL own i 11 k ty false) {v : Int32} (hh : h m = some (mdO A g)) (hk : mdF k = true) (hn : narrow ty (.int v) = .int v) (hfit : fits ty (.int v) = true) (d : decode cc pc = .ok (.putfield i, 3)) (kk : J K cells slots (pc + 3) lv rest (jv_up h m (mdO A (va_up g k v)))) : J K cells slots pc lv (.int v :: .ref m :: rest) h := by
  have hk2 : k = 0 ∨ k = 1 ∨ k = 3 ∨ k = 7 ∨ k = 9 ∨ k = 15 ∨ k = 16 ∨ k = 17 ∨ k = 19 ∨ k = 22 := by
    simp only [mdF, List.contains_cons, List.contains_nil, Bool.or_false, Bool.or_eq_true, beq_iff_eq] at hk
    exact hk
  refine J_put C F hh (by rcases hk2 with e | e | e | e | e | e | e | e | e | e <;> subst e <;> exact Nat.le_of_ble_eq_true rfl) hn hfit d ?_
  rcases hk2 with e | e | e | e | e | e | e | e | e | e <;> subst e <;> exact kk
end MODEL
