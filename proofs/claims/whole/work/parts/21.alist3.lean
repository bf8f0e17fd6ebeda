theorem ins_get {α : Type} {p : Nat} {L : List α} {x : α} (hp : p ≤ L.length) {i : Nat} {z : α} (h : (L.take p ++ x :: L.drop p)[i]? = some z) : (i < p ∧ L[i]? = some z) ∨ (i = p ∧ z = x) ∨ (p < i ∧ L[i - 1]? = some z) := by
  have hlen : (L.take p).length = p := by rw [List.length_take]; omega
  by_cases h1 : i < p
  · rw [List.getElem?_append_left (by omega), List.getElem?_take, if_pos h1] at h
    exact Or.inl ⟨h1, h⟩
  · rw [List.getElem?_append_right (by omega), hlen] at h
    by_cases h2 : i = p
    · subst h2
      rw [Nat.sub_self] at h
      exact Or.inr (Or.inl ⟨rfl, by cases h; rfl⟩)
    · rw [show i - p = (i - 1 - p) + 1 by omega, List.getElem?_cons_succ, List.getElem?_drop] at h
      exact Or.inr (Or.inr ⟨by omega, by rw [show p + (i - 1 - p) = i - 1 by omega] at h; exact h⟩)
theorem ins_len {α : Type} {p : Nat} {L : List α} {x : α} (hp : p ≤ L.length) : (L.take p ++ x :: L.drop p).length = L.length + 1 := by
  rw [List.length_append, List.length_cons, List.length_take, List.length_drop]; omega
theorem ins_mem {α : Type} {p : Nat} {L : List α} {x y : α} (h : y ∈ L.take p ++ x :: L.drop p) : y = x ∨ y ∈ L := by
  rcases List.mem_append.mp h with h | h
  · exact Or.inr (List.mem_of_mem_take h)
  · rcases List.mem_cons.mp h with h | h
    · exact Or.inl h
    · exact Or.inr (List.mem_of_mem_drop h)
def alS (h : jH) (a d : Nat) : Nat → Prop := fun x => x = a ∨ x = d ∨ h x = none
def capS (cap cap' n : Nat) : Prop := cap' = cap ∨ (cap' = gcap cap ∧ n = cap)
section ALIST3
variable {l : jL} {h : jH} {ci a d cap : Nat} {L : List Nat}
/-- the cells of a list over an array -/
theorem al_of {h1 : jH} {ci a d cap : Nat} {L : List Nat} {mcn : Int32} {f : Nat → Option Nat} (a1 : h1 a = some (alO mcn d L.length)) (a2 : ∀ x ∈ L, ∃ fs, h1 x = some (.inr (ci, fs))) (c1 : 10 ≤ cap) (c2 : cap ≤ 60000) (c3 : L.length ≤ cap) (f1 : h1 d = some (alA cap f)) (f2 : ∀ i x, L[i]? = some x → f i = some x) : al l h1 ci a d cap L := ⟨mcn, a1, a2, Or.inr ⟨c1, c2, c3, f, f1, f2⟩⟩
theorem gcap_le (hc : cap ≤ 40000) : 10 ≤ cap ∨ cap = 0 → 10 ≤ gcap cap ∧ gcap cap ≤ 60000 ∧ cap < gcap cap := by
  intro z; unfold gcap; split <;> omega
/-- what add leaves -/
def addP (l : jL) (h : jH) (ci a d cap n : Nat) (L' : List Nat) (h1 : jH) : Prop := (∃ d' cap', al l h1 ci a d' cap' L' ∧ capS cap cap' n ∧ (d' = d ∨ h d' = none)) ∧ fr (alS h a d) h h1
set_option maxHeartbeats 400000 in
theorem c_AL_addP (O : okci ci) (hci : ci ≠ 12) {mcn : Int32} (a1 : h a = some (alO mcn d L.length)) (a2 : ∀ x ∈ L, ∃ fs, h x = some (.inr (ci, fs))) (a3 : (cap = 0 ∧ L = [] ∧ d = l.2.1) ∨ (10 ≤ cap ∧ cap ≤ 60000 ∧ L.length ≤ cap ∧ ∃ f, h d = some (alA cap f) ∧ ∀ i x, L[i]? = some x → f i = some x)) (hcap : cap ≤ 40000) (M : Nat) (hM : L.length = cap → gcap cap ≤ M) (x : Nat) (fs : List Value) (hx : h x = some (.inr (ci, fs))) : Cn l yJx4a65c_add_72be8 cJx4a65c_add_72be8 4 none 5 1 M [.ref a, .ref x, .ref d, .int (nI L.length)] h (fun r h1 => r = none ∧ addP l h ci a d cap L.length (L ++ [x]) h1) := by
  obtain ⟨q9, o1, o2⟩ := O
  refine Cn.of (own := RJx4a65c) rfl (by decide) (by exact Nat.le_of_ble_eq_true rfl) (by decide) (fun K hK C D I => ?_)
  have K11 : ∀ (cells slots : Nat) (h' : jH) (arr cap' : Nat) (g : Nat → Option Nat) (mcn' : Int32), cells ≤ 1 → slots ≤ M → h' a = some (alO mcn' arr L.length) → h' arr = some (alA cap' g) → L.length < cap' → 10 ≤ cap' → cap' ≤ 60000 → (∀ i y, L[i]? = some y → g i = some y) → (∀ y ∈ L, ∃ fs, h' y = some (.inr (ci, fs))) → h' x = some (.inr (ci, fs)) → capS cap cap' L.length → (arr = d ∨ h arr = none) → fr (alS h a d) h h' → J K cells slots 11 (jv_l [(0, .ref a), (1, .ref x), (2, .ref arr), (3, .int (nI L.length))]) [] h' := by
    intro cells slots h' arr cap' g mcn' hc hs b1 b2 b3 b4 b5 b6 b7 b8 b9 b10 F
    have n1 : arr ≠ a := (jv_neA b1 b2).symm
    first | refine J_aload_n C rfl dJx4a65c_add_72be8_11 ?_ | refine J_aload_nq C rfl dJx4a65c_add_72be8_11 ?_ | refine J_aload_nN C rfl dJx4a65c_add_72be8_11 ?_
    refine J_iload_n C rfl dJx4a65c_add_72be8_12 ?_
    first | refine J_aload_n C rfl dJx4a65c_add_72be8_13 ?_ | refine J_aload_nq C rfl dJx4a65c_add_72be8_13 ?_ | refine J_aload_nN C rfl dJx4a65c_add_72be8_13 ?_
    refine J_aast C b2 b8 o1 o2 rfl b3 (by omega) dJx4a65c_add_72be8_14 ?_
    have b1' := jv_up_of (x := alA cap' (va_up g L.length (some x))) n1.symm b1
    first | refine J_aload_n C rfl dJx4a65c_add_72be8_15 ?_ | refine J_aload_nq C rfl dJx4a65c_add_72be8_15 ?_ | refine J_aload_nN C rfl dJx4a65c_add_72be8_15 ?_
    refine J_iload_n C rfl dJx4a65c_add_72be8_16 ?_
    refine J_iconst C (v := nI 1) (by decide) dJx4a65c_add_72be8_17 ?_
    first | refine J_niadd C dJx4a65c_add_72be8_18 ?_ | refine J_iadd C dJx4a65c_add_72be8_18 ?_
    refine J_put C fl_Jx4a65c_48 (by first | assumption | exact jv_up_at _ _ _ | (simp [jv_up, *]; done)) (by exact Nat.le_of_ble_eq_true rfl) (by rfl) (by rfl) dJx4a65c_add_72be8_19 ?_
    refine J_vret C D ⟨rfl, ⟨arr, cap', al_of (mcn := mcn') (f := va_up g L.length (some x)) ?_ ?_ b4 b5 ?_ ?_ ?_, b9, b10⟩, ?_⟩ (by omega) (by omega) dJx4a65c_add_72be8_22
    · rw [jv_up_at]; rw [List.length_append]; rfl
    · intro y hy
      have hy2 : ∃ fs, h' y = some (.inr (ci, fs)) := by
        rcases List.mem_append.mp hy with hy | hy
        · exact b7 y hy
        · rw [List.mem_singleton.mp hy]; exact ⟨fs, b8⟩
      obtain ⟨fs2, h2⟩ := hy2
      exact ⟨fs2, jv_up_of (jv_neO h2 b1 hci) (jv_up_of (jv_neA h2 b2) h2)⟩
    · rw [List.length_append]; exact b3
    · exact jv_up_of n1 (jv_up_at _ _ _)
    · intro i y hy
      by_cases q : i = L.length
      · subst q
        rw [List.getElem?_append_right (Nat.le_refl _), Nat.sub_self] at hy
        cases hy
        exact if_pos rfl
      · have hi : i < L.length := by
          have := (List.getElem?_eq_some_iff.mp hy).1
          rw [List.length_append, List.length_singleton] at this
          omega
        rw [List.getElem?_append_left hi] at hy
        exact (if_neg q).trans (b6 i y hy)
    · refine fr_tr F (fr_tr (fr_up ?_) (fr_up (Or.inl rfl)))
      rcases b10 with rfl | b10
      · exact Or.inr (Or.inl rfl)
      · exact Or.inr (Or.inr b10)
  have hgr : ∀ (hgrow : (cap = 0 ∧ L = [] ∧ d = l.2.1) ∨ (10 ≤ cap ∧ cap ≤ 40000 ∧ L.length = cap ∧ ∃ f, h d = some (alA cap f) ∧ ∀ i x, L[i]? = some x → f i = some x)), J K 0 0 6 (jv_l [(0, .ref a), (1, .ref x), (2, .ref d), (3, .int (nI L.length))]) [] h := by
    intro hgrow
    have gc := gcap_le hcap (by rcases hgrow with ⟨q, _⟩ | ⟨q, _⟩ <;> omega)
    have hlen : L.length = cap := by rcases hgrow with ⟨q, rfl, _⟩ | ⟨_, _, q, _⟩; exact q.symm; exact q
    first | refine J_aload_n C rfl dJx4a65c_add_72be8_6 ?_ | refine J_aload_nq C rfl dJx4a65c_add_72be8_6 ?_ | refine J_aload_nN C rfl dJx4a65c_add_72be8_6 ?_
    refine J_callV C (c_AL_grow0 ⟨q9, o1, o2⟩ a1 a2 (by rw [hK]; exact hgrow) M (hM hlen)) cw_Jx4a65c_129 (by first | assumption | exact jv_up_at _ _ _ | (simp [jv_up, *]; done)) rfl rfl rfl rfl (by exact Nat.le_of_ble_eq_true rfl) (by decide) (by omega) (by omega) dJx4a65c_add_72be8_7 ?_
    rintro _ _ ⟨q, g, rfl, hq, rfl, hgg⟩
    refine J_astore_n C (by decide) dJx4a65c_add_72be8_10 ?_
    have nq : ∀ {z : Nat} {e : jE}, h z = some e → z ≠ q := fun hx z => by rw [z, hq] at hx; cases hx
    refine J_sub (by exact (And.intro rfl (And.intro rfl (And.intro rfl (And.intro rfl trivial))))) (K11 _ _ _ q (gcap cap) g mcn (by omega) (by omega) (jv_up_at _ _ _) (jv_up_of (nq a1).symm (jv_up_at _ _ _)) (by omega) gc.1 gc.2.1 hgg (fun y hy => ?_) ?_ (Or.inr ⟨rfl, hlen⟩) (Or.inr hq) (fr_tr (fr_up (Or.inr (Or.inr hq))) (fr_up (Or.inl rfl))))
    · obtain ⟨fs2, h2⟩ := a2 y hy
      exact ⟨fs2, jv_up_of (jv_neO h2 a1 hci) (jv_up_of (nq h2) h2)⟩
    · exact jv_up_of (jv_neO hx a1 hci) (jv_up_of (nq hx) hx)
  rcases a3 with ⟨e1, e2, e3⟩ | ⟨c1, c2, c3, f, f1, f2⟩
  · have e4 : L.length = 0 := by rw [e2]; rfl
    refine J_iload_n C rfl dJx4a65c_add_72be8_0 ?_
    first | refine J_aload_n C rfl dJx4a65c_add_72be8_1 ?_ | refine J_aload_nq C rfl dJx4a65c_add_72be8_1 ?_ | refine J_aload_nN C rfl dJx4a65c_add_72be8_1 ?_
    refine J_alenE C (by rw [hK]; exact e3) dJx4a65c_add_72be8_2 ?_
    refine J_nicmp_ne C (by omega) (by decide) 11 (by decide) dJx4a65c_add_72be8_3 (fun z => absurd e4 z) (fun _ => ?_)
    exact J_sub (by exact (And.intro rfl (And.intro rfl (And.intro rfl (And.intro rfl trivial))))) (hgr (Or.inl ⟨e1, e2, e3⟩))
  · refine J_iload_n C rfl dJx4a65c_add_72be8_0 ?_
    first | refine J_aload_n C rfl dJx4a65c_add_72be8_1 ?_ | refine J_aload_nq C rfl dJx4a65c_add_72be8_1 ?_ | refine J_aload_nN C rfl dJx4a65c_add_72be8_1 ?_
    refine J_alen C (by first | assumption | exact jv_up_at _ _ _ | (simp [jv_up, *]; done)) (by decide) dJx4a65c_add_72be8_2 ?_
    refine J_nicmp_ne C (by omega) (by show cap < _; omega) 11 (by decide) dJx4a65c_add_72be8_3 (fun z => ?_) (fun z => ?_)
    · have z : L.length ≠ cap := z
      exact J_sub (by exact (And.intro rfl (And.intro rfl (And.intro rfl (And.intro rfl trivial))))) (K11 0 0 h d cap f mcn (by omega) (by omega) a1 f1 (by omega) c1 c2 f2 a2 hx (Or.inl rfl) (Or.inl rfl) (fr_rf _ _))
    · have z : L.length = cap := z
      exact J_sub (by exact (And.intro rfl (And.intro rfl (And.intro rfl (And.intro rfl trivial))))) (hgr (Or.inr ⟨c1, hcap, z, f, f1, f2⟩))
set_option maxHeartbeats 400000 in
theorem c_AL_add (O : okci ci) (hci : ci ≠ 12) (A : al l h ci a d cap L) (hcap : cap ≤ 40000) (M : Nat) (hM : L.length = cap → gcap cap ≤ M) (x : Nat) (fs : List Value) (hx : h x = some (.inr (ci, fs))) : Cn l yJx4a65c_add_9ea2d cJx4a65c_add_9ea2d 2 (some .boolean) 6 1 M [.ref a, .ref x] h (fun r h1 => r = some (.int (nI 1)) ∧ addP l h ci a d cap L.length (L ++ [x]) h1) := by
  obtain ⟨mcn, a1, a2, a3⟩ := A
  refine Cn.of (own := RJx4a65c) rfl (by decide) (by exact Nat.le_of_ble_eq_true rfl) (by decide) (fun K hK C D I => ?_)
  have up : ∀ {z : Nat} {e : jE}, h z = some (.inr (ci, fs)) → z ≠ a := fun hz => jv_neO hz a1 hci
  first | refine J_aload_n C rfl dJx4a65c_add_9ea2d_0 ?_ | refine J_aload_nq C rfl dJx4a65c_add_9ea2d_0 ?_ | refine J_aload_nN C rfl dJx4a65c_add_9ea2d_0 ?_
  refine J_dup C rfl dJx4a65c_add_9ea2d_1 ?_
  refine J_get C fl_Jx4a65c_63 (by first | assumption | exact jv_up_at _ _ _ | (simp [jv_up, *]; done)) (by rfl) dJx4a65c_add_9ea2d_2 ?_
  refine J_iconst C (v := nI 1) (by decide) dJx4a65c_add_9ea2d_5 ?_
  first | refine J_niadd C dJx4a65c_add_9ea2d_6 ?_ | refine J_iadd C dJx4a65c_add_9ea2d_6 ?_
  refine J_put C fl_Jx4a65c_63 (by first | assumption | exact jv_up_at _ _ _ | (simp [jv_up, *]; done)) (by exact Nat.le_of_ble_eq_true rfl) (by rfl) (by rfl) dJx4a65c_add_9ea2d_7 ?_
  first | refine J_aload_n C rfl dJx4a65c_add_9ea2d_10 ?_ | refine J_aload_nq C rfl dJx4a65c_add_9ea2d_10 ?_ | refine J_aload_nN C rfl dJx4a65c_add_9ea2d_10 ?_
  first | refine J_aload_n C rfl dJx4a65c_add_9ea2d_11 ?_ | refine J_aload_nq C rfl dJx4a65c_add_9ea2d_11 ?_ | refine J_aload_nN C rfl dJx4a65c_add_9ea2d_11 ?_
  first | refine J_aload_n C rfl dJx4a65c_add_9ea2d_12 ?_ | refine J_aload_nq C rfl dJx4a65c_add_9ea2d_12 ?_ | refine J_aload_nN C rfl dJx4a65c_add_9ea2d_12 ?_
  refine J_get C fl_Jx4a65c_9 (by first | assumption | exact jv_up_at _ _ _ | (simp [jv_up, *]; done)) (by rfl) dJx4a65c_add_9ea2d_13 ?_
  first | refine J_aload_n C rfl dJx4a65c_add_9ea2d_16 ?_ | refine J_aload_nq C rfl dJx4a65c_add_9ea2d_16 ?_ | refine J_aload_nN C rfl dJx4a65c_add_9ea2d_16 ?_
  refine J_get C fl_Jx4a65c_48 (by first | assumption | exact jv_up_at _ _ _ | (simp [jv_up, *]; done)) (by rfl) dJx4a65c_add_9ea2d_17 ?_
  refine J_callV C (c_AL_addP (mcn := mcn + nI 1) (cap := cap) (L := L) O hci (jv_up_at _ _ _) (fun y hy => ?_) ?_ hcap M hM x fs ?_) cw_Jx4a65c_131 (jv_up_at _ _ _) rfl rfl rfl rfl (by exact Nat.le_of_ble_eq_true rfl) (by decide) (by omega) (by omega) dJx4a65c_add_9ea2d_20 ?_
  · obtain ⟨fs2, h2⟩ := a2 y hy
    exact ⟨fs2, jv_up_of (jv_neO h2 a1 hci) h2⟩
  · rw [hK]
    rcases a3 with e | ⟨c1, c2, c3, f, f1, f2⟩
    · exact Or.inl e
    · exact Or.inr ⟨c1, c2, c3, f, jv_up_of (jv_neA a1 f1).symm f1, f2⟩
  · exact jv_up_of (jv_neO hx a1 hci) hx
  · rintro _ h1 ⟨rfl, ⟨d', cap', A1, S1, N1⟩, F1⟩
    rw [hK] at A1
    refine J_iconst C (v := nI 1) (by decide) dJx4a65c_add_9ea2d_23 ?_
    refine J_zret C D (Or.inr rfl) ⟨rfl, ⟨d', cap', A1, S1, ?_⟩, ?_⟩ (by omega) (by omega) dJx4a65c_add_9ea2d_24
    · rcases N1 with N1 | N1
      · exact Or.inl N1
      · refine Or.inr ?_
        by_cases w : d' = a
        · rw [w, jv_up_at] at N1; cases N1
        · rw [jv_up_ne w] at N1; exact N1
    · refine fr_tr (fr_up (Or.inl rfl)) (fr_mono F1 (fun z hz => ?_))
      rcases hz with hz | hz | hz
      · exact Or.inl hz
      · exact Or.inr (Or.inl hz)
      · by_cases w : z = a
        · exact Or.inl w
        · rw [jv_up_ne w] at hz; exact Or.inr (Or.inr hz)
end ALIST3
