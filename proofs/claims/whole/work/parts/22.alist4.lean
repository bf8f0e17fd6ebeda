section ALIST4
variable {l : jL} {h : jH} {ci a d cap : Nat} {L : List Nat}
set_option maxHeartbeats 400000 in
theorem c_AL_range {mcn : Int32} (n : Nat) (a1 : h a = some (alO mcn d n)) (hn : n < 1000000) (i : Nat) (hi : i ≤ n) : Cn l yJx4a65c_rangeCheckForAdd_d00df cJx4a65c_rangeCheckForAdd_d00df 2 none 1 0 0 [.ref a, .int (nI i)] h (fun r h1 => r = none ∧ h1 = h) := by
  refine Cn.of (own := RJx4a65c) rfl (by decide) (by exact Nat.le_of_ble_eq_true rfl) (by decide) (fun K hK C D I => ?_)
  refine J_iload_n C rfl dJx4a65c_rangeCheckForAdd_d00df_0 ?_
  first | refine J_aload_n C rfl dJx4a65c_rangeCheckForAdd_d00df_1 ?_ | refine J_aload_nq C rfl dJx4a65c_rangeCheckForAdd_d00df_1 ?_ | refine J_aload_nN C rfl dJx4a65c_rangeCheckForAdd_d00df_1 ?_
  refine J_get C fl_Jx4a65c_48 (by first | assumption | exact jv_up_at _ _ _ | (simp [jv_up, *]; done)) (by rfl) dJx4a65c_rangeCheckForAdd_d00df_2 ?_
  refine J_nicmp_gt C (by first | omega | (dsimp only; omega)) (by first | omega | (dsimp only; omega)) 12 (by decide) dJx4a65c_rangeCheckForAdd_d00df_5 (fun z1 => ?_) (fun z1 => ?_)
  · omega
  · refine J_iload_n C rfl dJx4a65c_rangeCheckForAdd_d00df_8 ?_
    refine J_nif_ge C (by omega) 25 (by decide) dJx4a65c_rangeCheckForAdd_d00df_9 ?_
    refine J_vret C D ⟨rfl, rfl⟩ (by omega) (by omega) dJx4a65c_rangeCheckForAdd_d00df_25
set_option maxHeartbeats 800000 in
theorem c_AL_ins (O : okci ci) (hci : ci ≠ 12) (A : al l h ci a d cap L) (hcap : cap ≤ 40000) (M : Nat) (hM : L.length = cap → gcap cap ≤ M) (p : Nat) (hp : p ≤ L.length) (x : Nat) (fs : List Value) (hx : h x = some (.inr (ci, fs))) : Cn l yJx4a65c_add_7a177 cJx4a65c_add_7a177 5 none 5 1 M [.ref a, .int (nI p), .ref x] h (fun r h1 => r = none ∧ addP l h ci a d cap L.length (L.take p ++ x :: L.drop p) h1) := by
  obtain ⟨q9, o1, o2⟩ := O
  obtain ⟨mcn, a1, a2, a3⟩ := A
  have hlen0 : L.length ≤ 60000 := by rcases a3 with ⟨_, rfl, _⟩ | ⟨_, c2, c3, _⟩; exact Nat.zero_le _; omega
  refine Cn.of (own := RJx4a65c) rfl (by decide) (by exact Nat.le_of_ble_eq_true rfl) (by decide) (fun K hK C D I => ?_)
  have K38 : ∀ (cells slots : Nat) (h' : jH) (arr cap' : Nat) (g : Nat → Option Nat) (mcn' : Int32), cells ≤ 1 → slots ≤ M → h' a = some (alO mcn' arr L.length) → h' arr = some (alA cap' g) → L.length < cap' → 10 ≤ cap' → cap' ≤ 60000 → (∀ i y, L[i]? = some y → g i = some y) → (∀ y ∈ L, ∃ fs, h' y = some (.inr (ci, fs))) → h' x = some (.inr (ci, fs)) → capS cap cap' L.length → (arr = d ∨ h arr = none) → fr (alS h a d) h h' → J K cells slots 38 (jv_l [(0, .ref a), (1, .int (nI p)), (2, .ref x), (3, .int (nI L.length)), (4, .ref arr)]) [] h' := by
    intro cells slots h' arr cap' g mcn' hc hs b1 b2 b3 b4 b5 b6 b7 b8 b9 b10 F
    have n1 : arr ≠ a := (jv_neA b1 b2).symm
    first | refine J_aload C rfl dJx4a65c_add_7a177_38 ?_ | refine J_aloadq C rfl dJx4a65c_add_7a177_38 ?_ | refine J_aloadN C rfl dJx4a65c_add_7a177_38 ?_
    refine J_iload_n C rfl dJx4a65c_add_7a177_40 ?_
    first | refine J_aload C rfl dJx4a65c_add_7a177_41 ?_ | refine J_aloadq C rfl dJx4a65c_add_7a177_41 ?_ | refine J_aloadN C rfl dJx4a65c_add_7a177_41 ?_
    refine J_iload_n C rfl dJx4a65c_add_7a177_43 ?_
    refine J_iconst C (v := nI 1) (by decide) dJx4a65c_add_7a177_44 ?_
    first | refine J_niadd C dJx4a65c_add_7a177_45 ?_ | refine J_iadd C dJx4a65c_add_7a177_45 ?_
    refine J_iload_n C rfl dJx4a65c_add_7a177_46 ?_
    refine J_iload_n C rfl dJx4a65c_add_7a177_47 ?_
    first | refine J_nisub C (by omega) dJx4a65c_add_7a177_48 ?_ | refine J_isub C dJx4a65c_add_7a177_48 ?_
    refine J_copyq C (sp := p) (dp := p + 1) (n := L.length - p) ml_ac_Jx4a65c_112 ac_native ac_static ac_init b2 b2 o1 o2 (by omega) (by omega) (by omega) (by omega) (fun j hj y hy => ?_) (by decide) (by exact Nat.le_of_ble_eq_true rfl) dJx4a65c_add_7a177_49 ?_
    · have hj2 := List.getElem?_eq_getElem (l := L) (i := p + j) (by omega)
      rw [b6 _ _ hj2] at hy
      exact b7 y (List.mem_of_getElem? (i := p + j) (by rw [hj2]; exact hy))
    · have b2' := jv_up_at h' arr (alA cap' (va_cpy g g p (p + 1) (L.length - p)))
      have b8' := jv_up_of (x := alA cap' (va_cpy g g p (p + 1) (L.length - p))) (jv_neA b8 b2) b8
      first | refine J_aload C rfl dJx4a65c_add_7a177_52 ?_ | refine J_aloadq C rfl dJx4a65c_add_7a177_52 ?_ | refine J_aloadN C rfl dJx4a65c_add_7a177_52 ?_
      refine J_iload_n C rfl dJx4a65c_add_7a177_54 ?_
      first | refine J_aload_n C rfl dJx4a65c_add_7a177_55 ?_ | refine J_aload_nq C rfl dJx4a65c_add_7a177_55 ?_ | refine J_aload_nN C rfl dJx4a65c_add_7a177_55 ?_
      refine J_aast C b2' b8' o1 o2 rfl (by omega) (by omega) dJx4a65c_add_7a177_56 ?_
      rw [jv_up_up]
      have b1' := jv_up_of (x := alA cap' (va_up (va_cpy g g p (p + 1) (L.length - p)) p (some x))) n1.symm b1
      first | refine J_aload_n C rfl dJx4a65c_add_7a177_57 ?_ | refine J_aload_nq C rfl dJx4a65c_add_7a177_57 ?_ | refine J_aload_nN C rfl dJx4a65c_add_7a177_57 ?_
      refine J_iload_n C rfl dJx4a65c_add_7a177_58 ?_
      refine J_iconst C (v := nI 1) (by decide) dJx4a65c_add_7a177_59 ?_
      first | refine J_niadd C dJx4a65c_add_7a177_60 ?_ | refine J_iadd C dJx4a65c_add_7a177_60 ?_
      refine J_put C fl_Jx4a65c_48 (by first | assumption | exact jv_up_at _ _ _ | (simp [jv_up, *]; done)) (by exact Nat.le_of_ble_eq_true rfl) (by rfl) (by rfl) dJx4a65c_add_7a177_61 ?_
      refine J_vret C D ⟨rfl, ⟨arr, cap', al_of (mcn := mcn') (f := va_up (va_cpy g g p (p + 1) (L.length - p)) p (some x)) ?_ ?_ b4 b5 ?_ ?_ ?_, b9, b10⟩, ?_⟩ (by omega) (by omega) dJx4a65c_add_7a177_64
      · rw [jv_up_at, ins_len hp]; rfl
      · intro y hy
        have hy2 : ∃ fs, h' y = some (.inr (ci, fs)) := by
          rcases ins_mem hy with rfl | hy
          · exact ⟨fs, b8⟩
          · exact b7 y hy
        obtain ⟨fs2, h2⟩ := hy2
        exact ⟨fs2, jv_up_of (jv_neO h2 b1 hci) (jv_up_of (jv_neA h2 b2) h2)⟩
      · rw [ins_len hp]; exact b3
      · exact jv_up_of n1 (jv_up_at _ _ _)
      · intro i y hy
        have hi := (List.getElem?_eq_some_iff.mp hy).1
        rw [ins_len hp] at hi
        rcases ins_get hp hy with ⟨q1, q2⟩ | ⟨q1, q2⟩ | ⟨q1, q2⟩
        · rw [show va_up (va_cpy g g p (p + 1) (L.length - p)) p (some x) i = va_cpy g g p (p + 1) (L.length - p) i from if_neg (by omega), pk_cpy_out (Or.inl (by omega))]
          exact b6 i y q2
        · rw [q1, q2]; exact if_pos rfl
        · rw [show va_up (va_cpy g g p (p + 1) (L.length - p)) p (some x) i = va_cpy g g p (p + 1) (L.length - p) i from if_neg (by omega), pk_cpy_in (by omega) (by omega), show p + (i - (p + 1)) = i - 1 by omega]
          exact b6 (i - 1) y q2
      · refine fr_tr F (fr_tr (fr_up ?_) (fr_up (Or.inl rfl)))
        rcases b10 with rfl | b10
        · exact Or.inr (Or.inl rfl)
        · exact Or.inr (Or.inr b10)
  have hh0 : jv_up h a (alO (mcn + nI 1) d L.length) a = some (alO (mcn + nI 1) d L.length) := jv_up_at _ _ _
  have el : ∀ y ∈ L, ∃ fs, jv_up h a (alO (mcn + nI 1) d L.length) y = some (.inr (ci, fs)) := fun y hy => by
    obtain ⟨fs2, h2⟩ := a2 y hy
    exact ⟨fs2, jv_up_of (jv_neO h2 a1 hci) h2⟩
  have hx0 : jv_up h a (alO (mcn + nI 1) d L.length) x = some (.inr (ci, fs)) := jv_up_of (jv_neO hx a1 hci) hx
  have hgr : ∀ (hgrow : (cap = 0 ∧ L = [] ∧ d = l.2.1) ∨ (10 ≤ cap ∧ cap ≤ 40000 ∧ L.length = cap ∧ ∃ f, jv_up h a (alO (mcn + nI 1) d L.length) d = some (alA cap f) ∧ ∀ i x, L[i]? = some x → f i = some x)), J K 0 0 32 (jv_l [(0, .ref a), (1, .int (nI p)), (2, .ref x), (3, .int (nI L.length))]) [] (jv_up h a (alO (mcn + nI 1) d L.length)) := by
    intro hgrow
    have gc := gcap_le hcap (by rcases hgrow with ⟨q, _⟩ | ⟨q, _⟩ <;> omega)
    have hlen : L.length = cap := by rcases hgrow with ⟨q, rfl, _⟩ | ⟨_, _, q, _⟩; exact q.symm; exact q
    first | refine J_aload_n C rfl dJx4a65c_add_7a177_32 ?_ | refine J_aload_nq C rfl dJx4a65c_add_7a177_32 ?_ | refine J_aload_nN C rfl dJx4a65c_add_7a177_32 ?_
    refine J_callV C (c_AL_grow0 ⟨q9, o1, o2⟩ hh0 el (by rw [hK]; exact hgrow) M (hM hlen)) cw_Jx4a65c_129 (by first | assumption | exact jv_up_at _ _ _ | (simp [jv_up, *]; done)) rfl rfl rfl rfl (by exact Nat.le_of_ble_eq_true rfl) (by decide) (by omega) (by omega) dJx4a65c_add_7a177_33 ?_
    rintro _ _ ⟨q, g, rfl, hq, rfl, hgg⟩
    refine J_astore C (by decide) dJx4a65c_add_7a177_36 ?_
    have nq : ∀ {z : Nat} {e : jE}, jv_up h a (alO (mcn + nI 1) d L.length) z = some e → z ≠ q := fun hx z => by rw [z, hq] at hx; cases hx
    have hq0 : h q = none := by rw [jv_up_ne (nq hh0).symm] at hq; exact hq
    refine J_sub (by exact (And.intro rfl (And.intro rfl (And.intro rfl (And.intro rfl (And.intro rfl trivial)))))) (K38 _ _ _ q (gcap cap) g (mcn + nI 1) (by omega) (by omega) (jv_up_at _ _ _) (jv_up_of (nq hh0).symm (jv_up_at _ _ _)) (by omega) gc.1 gc.2.1 hgg (fun y hy => ?_) ?_ (Or.inr ⟨rfl, hlen⟩) (Or.inr hq0) (fr_tr (fr_tr (fr_up (Or.inl rfl)) (fr_up (Or.inr (Or.inr hq0)))) (fr_up (Or.inl rfl))))
    · obtain ⟨fs2, h2⟩ := el y hy
      exact ⟨fs2, jv_up_of (jv_neO h2 hh0 hci) (jv_up_of (nq h2) h2)⟩
    · exact jv_up_of (jv_neO hx0 hh0 hci) (jv_up_of (nq hx0) hx0)
  first | refine J_aload_n C rfl dJx4a65c_add_7a177_0 ?_ | refine J_aload_nq C rfl dJx4a65c_add_7a177_0 ?_ | refine J_aload_nN C rfl dJx4a65c_add_7a177_0 ?_
  refine J_iload_n C rfl dJx4a65c_add_7a177_1 ?_
  refine J_callV C (c_AL_range L.length a1 (by omega) p hp) cw_Jx4a65c_135 (by first | assumption | exact jv_up_at _ _ _ | (simp [jv_up, *]; done)) rfl rfl rfl rfl (by exact Nat.le_of_ble_eq_true rfl) (by decide) (by omega) (by omega) dJx4a65c_add_7a177_2 ?_
  rintro _ _ ⟨rfl, rfl⟩
  rcases a3 with ⟨e1, e2, e3⟩ | ⟨c1, c2, c3, f, f1, f2⟩
  · have e4 : L.length = 0 := by rw [e2]; rfl
    first | refine J_aload_n C rfl dJx4a65c_add_7a177_5 ?_ | refine J_aload_nq C rfl dJx4a65c_add_7a177_5 ?_ | refine J_aload_nN C rfl dJx4a65c_add_7a177_5 ?_
    refine J_dup C rfl dJx4a65c_add_7a177_6 ?_
    refine J_get C fl_Jx4a65c_63 (by first | assumption | exact jv_up_at _ _ _ | (simp [jv_up, *]; done)) (by rfl) dJx4a65c_add_7a177_7 ?_
    refine J_iconst C (v := nI 1) (by decide) dJx4a65c_add_7a177_10 ?_
    first | refine J_niadd C dJx4a65c_add_7a177_11 ?_ | refine J_iadd C dJx4a65c_add_7a177_11 ?_
    refine J_put C fl_Jx4a65c_63 (by first | assumption | exact jv_up_at _ _ _ | (simp [jv_up, *]; done)) (by exact Nat.le_of_ble_eq_true rfl) (by rfl) (by rfl) dJx4a65c_add_7a177_12 ?_
    first | refine J_aload_n C rfl dJx4a65c_add_7a177_15 ?_ | refine J_aload_nq C rfl dJx4a65c_add_7a177_15 ?_ | refine J_aload_nN C rfl dJx4a65c_add_7a177_15 ?_
    refine J_get C fl_Jx4a65c_48 (by first | assumption | exact jv_up_at _ _ _ | (simp [jv_up, *]; done)) (by rfl) dJx4a65c_add_7a177_16 ?_
    refine J_dup C rfl dJx4a65c_add_7a177_19 ?_
    refine J_istore_n C (by decide) dJx4a65c_add_7a177_20 ?_
    first | refine J_aload_n C rfl dJx4a65c_add_7a177_21 ?_ | refine J_aload_nq C rfl dJx4a65c_add_7a177_21 ?_ | refine J_aload_nN C rfl dJx4a65c_add_7a177_21 ?_
    refine J_get C fl_Jx4a65c_9 (by first | assumption | exact jv_up_at _ _ _ | (simp [jv_up, *]; done)) (by rfl) dJx4a65c_add_7a177_22 ?_
    refine J_dup C rfl dJx4a65c_add_7a177_25 ?_
    first | refine J_astoreq C (by decide) dJx4a65c_add_7a177_26 ?_ | refine J_astore C (by decide) dJx4a65c_add_7a177_26 ?_ | refine J_astoreN C (by decide) dJx4a65c_add_7a177_26 ?_
    refine J_alenE C (by rw [hK]; exact e3) dJx4a65c_add_7a177_28 ?_
    refine J_nicmp_ne C (by omega) (by decide) 38 (by decide) dJx4a65c_add_7a177_29 (fun z => absurd e4 z) (fun _ => ?_)
    exact J_sub (by exact (And.intro rfl (And.intro rfl (And.intro rfl (And.intro rfl trivial))))) (hgr (Or.inl ⟨e1, e2, e3⟩))
  · have f1' := jv_up_of (x := alO (mcn + nI 1) d L.length) (jv_neA a1 f1).symm f1
    first | refine J_aload_n C rfl dJx4a65c_add_7a177_5 ?_ | refine J_aload_nq C rfl dJx4a65c_add_7a177_5 ?_ | refine J_aload_nN C rfl dJx4a65c_add_7a177_5 ?_
    refine J_dup C rfl dJx4a65c_add_7a177_6 ?_
    refine J_get C fl_Jx4a65c_63 (by first | assumption | exact jv_up_at _ _ _ | (simp [jv_up, *]; done)) (by rfl) dJx4a65c_add_7a177_7 ?_
    refine J_iconst C (v := nI 1) (by decide) dJx4a65c_add_7a177_10 ?_
    first | refine J_niadd C dJx4a65c_add_7a177_11 ?_ | refine J_iadd C dJx4a65c_add_7a177_11 ?_
    refine J_put C fl_Jx4a65c_63 (by first | assumption | exact jv_up_at _ _ _ | (simp [jv_up, *]; done)) (by exact Nat.le_of_ble_eq_true rfl) (by rfl) (by rfl) dJx4a65c_add_7a177_12 ?_
    first | refine J_aload_n C rfl dJx4a65c_add_7a177_15 ?_ | refine J_aload_nq C rfl dJx4a65c_add_7a177_15 ?_ | refine J_aload_nN C rfl dJx4a65c_add_7a177_15 ?_
    refine J_get C fl_Jx4a65c_48 (by first | assumption | exact jv_up_at _ _ _ | (simp [jv_up, *]; done)) (by rfl) dJx4a65c_add_7a177_16 ?_
    refine J_dup C rfl dJx4a65c_add_7a177_19 ?_
    refine J_istore_n C (by decide) dJx4a65c_add_7a177_20 ?_
    first | refine J_aload_n C rfl dJx4a65c_add_7a177_21 ?_ | refine J_aload_nq C rfl dJx4a65c_add_7a177_21 ?_ | refine J_aload_nN C rfl dJx4a65c_add_7a177_21 ?_
    refine J_get C fl_Jx4a65c_9 (by first | assumption | exact jv_up_at _ _ _ | (simp [jv_up, *]; done)) (by rfl) dJx4a65c_add_7a177_22 ?_
    refine J_dup C rfl dJx4a65c_add_7a177_25 ?_
    first | refine J_astoreq C (by decide) dJx4a65c_add_7a177_26 ?_ | refine J_astore C (by decide) dJx4a65c_add_7a177_26 ?_ | refine J_astoreN C (by decide) dJx4a65c_add_7a177_26 ?_
    refine J_alen C (by first | assumption | exact jv_up_at _ _ _ | (simp [jv_up, *]; done)) (by decide) dJx4a65c_add_7a177_28 ?_
    refine J_nicmp_ne C (by omega) (by show cap < _; omega) 38 (by decide) dJx4a65c_add_7a177_29 (fun z => ?_) (fun z => ?_)
    · have z : L.length ≠ cap := z
      exact J_sub (by exact (And.intro rfl (And.intro rfl (And.intro rfl (And.intro rfl (And.intro rfl trivial)))))) (K38 0 0 _ d cap f (mcn + nI 1) (by omega) (by omega) hh0 f1' (by omega) c1 c2 f2 el hx0 (Or.inl rfl) (Or.inl rfl) (fr_up (Or.inl rfl)))
    · have z : L.length = cap := z
      exact J_sub (by exact (And.intro rfl (And.intro rfl (And.intro rfl (And.intro rfl trivial))))) (hgr (Or.inr ⟨c1, hcap, z, f, f1', f2⟩))
def remP (l : jL) (h : jH) (ci a d cap : Nat) (L' : List Nat) (h1 : jH) : Prop := al l h1 ci a d cap L' ∧ fr (fun x => x = a ∨ x = d) h h1
set_option maxHeartbeats 400000 in
theorem c_AL_fast (O : okci ci) (hci : ci ≠ 12) {mcn : Int32} (a1 : h a = some (alO mcn d L.length)) (a2 : ∀ x ∈ L, ∃ fs, h x = some (.inr (ci, fs))) (c1 : 10 ≤ cap) (c2 : cap ≤ 60000) (c3 : L.length ≤ cap) (f : Nat → Option Nat) (f1 : h d = some (alA cap f)) (f2 : ∀ i x, L[i]? = some x → f i = some x) (p : Nat) (hp : p < L.length) : Cn l yJx4a65c_fastRemove_b59b0 cJx4a65c_fastRemove_b59b0 4 none 1 0 0 [.ref a, .ref d, .int (nI p)] h (fun r h1 => r = none ∧ remP l h ci a d cap (L.eraseIdx p) h1) := by
  obtain ⟨q9, o1, o2⟩ := O
  have n1 : d ≠ a := (jv_neA a1 f1).symm
  refine Cn.of (own := RJx4a65c) rfl (by decide) (by exact Nat.le_of_ble_eq_true rfl) (by decide) (fun K hK C D I => ?_)
  have K34 : ∀ (g : Nat → Option Nat) (h' : jH), h' a = some (alO (mcn + nI 1) d L.length) → h' d = some (alA cap g) → (∀ y ∈ L, ∃ fs, h' y = some (.inr (ci, fs))) → (∀ i, i < p → g i = f i) → (∀ i, p ≤ i → i < L.length - 1 → g i = f (i + 1)) → fr (fun x => x = a ∨ x = d) h h' → J K 0 0 34 (jv_l [(0, .ref a), (1, .ref d), (2, .int (nI p)), (3, .int (nI (L.length - 1)))]) [] h' := by
    intro g h' b1 b2 b3 b4 b5 F
    first | refine J_aload_n C rfl dJx4a65c_fastRemove_b59b0_34 ?_ | refine J_aload_nq C rfl dJx4a65c_fastRemove_b59b0_34 ?_ | refine J_aload_nN C rfl dJx4a65c_fastRemove_b59b0_34 ?_
    first | refine J_aload_n C rfl dJx4a65c_fastRemove_b59b0_35 ?_ | refine J_aload_nq C rfl dJx4a65c_fastRemove_b59b0_35 ?_ | refine J_aload_nN C rfl dJx4a65c_fastRemove_b59b0_35 ?_
    refine J_iload_n C rfl dJx4a65c_fastRemove_b59b0_36 ?_
    refine J_dup_x1 C rfl rfl dJx4a65c_fastRemove_b59b0_37 ?_
    refine J_put C fl_Jx4a65c_48 (by first | assumption | exact jv_up_at _ _ _ | (simp [jv_up, *]; done)) (by exact Nat.le_of_ble_eq_true rfl) (by rfl) (by rfl) dJx4a65c_fastRemove_b59b0_38 ?_
    refine J_null C dJx4a65c_fastRemove_b59b0_41 ?_
    refine J_aastN C (jv_up_of n1 b2) rfl (by omega) (by omega) dJx4a65c_fastRemove_b59b0_42 ?_
    refine J_vret C D ⟨rfl, al_of (mcn := mcn + nI 1) (f := va_up g (L.length - 1) none) ?_ ?_ c1 c2 ?_ (jv_up_at _ _ _) ?_, ?_⟩ (by omega) (by omega) dJx4a65c_fastRemove_b59b0_43
    · rw [jv_up_ne n1.symm, jv_up_at, List.length_eraseIdx, if_pos hp]; rfl
    · intro y hy
      obtain ⟨fs2, h2⟩ := b3 y (List.mem_of_mem_eraseIdx hy)
      exact ⟨fs2, jv_up_of (jv_neA h2 b2) (jv_up_of (jv_neO h2 b1 hci) h2)⟩
    · rw [List.length_eraseIdx, if_pos hp]; omega
    · intro i y hy
      have hi := (List.getElem?_eq_some_iff.mp hy).1
      rw [List.length_eraseIdx, if_pos hp] at hi
      rw [List.getElem?_eraseIdx] at hy
      rw [show va_up g (L.length - 1) none i = g i from if_neg (by omega)]
      by_cases w : i < p
      · rw [if_pos w] at hy; rw [b4 i w]; exact f2 i y hy
      · rw [if_neg w] at hy; rw [b5 i (by omega) hi]; exact f2 (i + 1) y hy
    · exact fr_tr F (fr_tr (fr_up (Or.inl rfl)) (fr_up (Or.inr rfl)))
  have b1 : jv_up h a (alO (mcn + nI 1) d L.length) a = some (alO (mcn + nI 1) d L.length) := jv_up_at _ _ _
  have b2 := jv_up_of (x := alO (mcn + nI 1) d L.length) n1 f1
  have b3 : ∀ y ∈ L, ∃ fs, jv_up h a (alO (mcn + nI 1) d L.length) y = some (.inr (ci, fs)) := fun y hy => by
    obtain ⟨fs2, h2⟩ := a2 y hy
    exact ⟨fs2, jv_up_of (jv_neO h2 a1 hci) h2⟩
  first | refine J_aload_n C rfl dJx4a65c_fastRemove_b59b0_0 ?_ | refine J_aload_nq C rfl dJx4a65c_fastRemove_b59b0_0 ?_ | refine J_aload_nN C rfl dJx4a65c_fastRemove_b59b0_0 ?_
  refine J_dup C rfl dJx4a65c_fastRemove_b59b0_1 ?_
  refine J_get C fl_Jx4a65c_63 (by first | assumption | exact jv_up_at _ _ _ | (simp [jv_up, *]; done)) (by rfl) dJx4a65c_fastRemove_b59b0_2 ?_
  refine J_iconst C (v := nI 1) (by decide) dJx4a65c_fastRemove_b59b0_5 ?_
  first | refine J_niadd C dJx4a65c_fastRemove_b59b0_6 ?_ | refine J_iadd C dJx4a65c_fastRemove_b59b0_6 ?_
  refine J_put C fl_Jx4a65c_63 (by first | assumption | exact jv_up_at _ _ _ | (simp [jv_up, *]; done)) (by exact Nat.le_of_ble_eq_true rfl) (by rfl) (by rfl) dJx4a65c_fastRemove_b59b0_7 ?_
  first | refine J_aload_n C rfl dJx4a65c_fastRemove_b59b0_10 ?_ | refine J_aload_nq C rfl dJx4a65c_fastRemove_b59b0_10 ?_ | refine J_aload_nN C rfl dJx4a65c_fastRemove_b59b0_10 ?_
  refine J_get C fl_Jx4a65c_48 (by first | assumption | exact jv_up_at _ _ _ | (simp [jv_up, *]; done)) (by rfl) dJx4a65c_fastRemove_b59b0_11 ?_
  refine J_iconst C (v := nI 1) (by decide) dJx4a65c_fastRemove_b59b0_14 ?_
  first | refine J_nisub C (by omega) dJx4a65c_fastRemove_b59b0_15 ?_ | refine J_isub C dJx4a65c_fastRemove_b59b0_15 ?_
  refine J_dup C rfl dJx4a65c_fastRemove_b59b0_16 ?_
  refine J_istore_n C (by decide) dJx4a65c_fastRemove_b59b0_17 ?_
  refine J_iload_n C rfl dJx4a65c_fastRemove_b59b0_18 ?_
  refine J_nicmp_le C (by first | omega | (dsimp only; omega)) (by first | omega | (dsimp only; omega)) 34 (by decide) dJx4a65c_fastRemove_b59b0_19 (fun z1 => ?_) (fun z1 => ?_)
  · exact J_sub (by exact (And.intro rfl (And.intro rfl (And.intro rfl (And.intro rfl trivial))))) (K34 f _ b1 b2 b3 (fun _ _ => rfl) (fun i q1 q2 => by omega) (fr_up (Or.inl rfl)))
  · first | refine J_aload_n C rfl dJx4a65c_fastRemove_b59b0_22 ?_ | refine J_aload_nq C rfl dJx4a65c_fastRemove_b59b0_22 ?_ | refine J_aload_nN C rfl dJx4a65c_fastRemove_b59b0_22 ?_
    refine J_iload_n C rfl dJx4a65c_fastRemove_b59b0_23 ?_
    refine J_iconst C (v := nI 1) (by decide) dJx4a65c_fastRemove_b59b0_24 ?_
    first | refine J_niadd C dJx4a65c_fastRemove_b59b0_25 ?_ | refine J_iadd C dJx4a65c_fastRemove_b59b0_25 ?_
    first | refine J_aload_n C rfl dJx4a65c_fastRemove_b59b0_26 ?_ | refine J_aload_nq C rfl dJx4a65c_fastRemove_b59b0_26 ?_ | refine J_aload_nN C rfl dJx4a65c_fastRemove_b59b0_26 ?_
    refine J_iload_n C rfl dJx4a65c_fastRemove_b59b0_27 ?_
    refine J_iload_n C rfl dJx4a65c_fastRemove_b59b0_28 ?_
    refine J_iload_n C rfl dJx4a65c_fastRemove_b59b0_29 ?_
    first | refine J_nisub C (by omega) dJx4a65c_fastRemove_b59b0_30 ?_ | refine J_isub C dJx4a65c_fastRemove_b59b0_30 ?_
    refine J_copyq C (sp := p + 1) (dp := p) (n := L.length - 1 - p) ml_ac_Jx4a65c_112 ac_native ac_static ac_init b2 b2 o1 o2 (by omega) (by omega) (by omega) (by omega) (fun j hj y hy => ?_) (by decide) (by exact Nat.le_of_ble_eq_true rfl) dJx4a65c_fastRemove_b59b0_31 ?_
    · have hj2 := List.getElem?_eq_getElem (l := L) (i := p + 1 + j) (by omega)
      rw [f2 _ _ hj2] at hy
      exact b3 y (List.mem_of_getElem? (i := p + 1 + j) (by rw [hj2]; exact hy))
    · exact J_sub (by exact (And.intro rfl (And.intro rfl (And.intro rfl (And.intro rfl trivial))))) (K34 (va_cpy f f (p + 1) p (L.length - 1 - p)) _ (jv_up_of n1.symm b1) (jv_up_at _ _ _) (fun y hy => by obtain ⟨fs2, h2⟩ := b3 y hy; exact ⟨fs2, jv_up_of (jv_neA h2 b2) h2⟩) (fun i hi => pk_cpy_out (Or.inl hi)) (fun i q1 q2 => by rw [pk_cpy_in q1 (by omega), show p + 1 + (i - p) = i + 1 by omega]) (fr_tr (fr_up (Or.inl rfl)) (fr_up (Or.inr rfl))))
set_option maxHeartbeats 400000 in
theorem c_AL_rem (O : okci ci) (hci : ci ≠ 12) (A : al l h ci a d cap L) (p x : Nat) (hx : L[p]? = some x) : Cn l yJx4a65c_remove_915e3 cJx4a65c_remove_915e3 4 (some (.object "java/lang/Object")) 3 0 0 [.ref a, .int (nI p)] h (fun r h1 => r = some (.ref x) ∧ remP l h ci a d cap (L.eraseIdx p) h1) := by
  have A0 := A
  obtain ⟨c1, c2, c3, hi, -⟩ := al_some A hx
  obtain ⟨mcn, a1, a2, a3⟩ := A
  rcases a3 with ⟨_, rfl, _⟩ | ⟨-, -, -, f, f1, f2⟩
  · cases hx
  refine Cn.of (own := RJx4a65c) rfl (by decide) (by exact Nat.le_of_ble_eq_true rfl) (by decide) (fun K hK C D I => ?_)
  refine J_iload_n C rfl dJx4a65c_remove_915e3_0 ?_
  first | refine J_aload_n C rfl dJx4a65c_remove_915e3_1 ?_ | refine J_aload_nq C rfl dJx4a65c_remove_915e3_1 ?_ | refine J_aload_nN C rfl dJx4a65c_remove_915e3_1 ?_
  refine J_get C fl_Jx4a65c_48 (by first | assumption | exact jv_up_at _ _ _ | (simp [jv_up, *]; done)) (by rfl) dJx4a65c_remove_915e3_2 ?_
  refine J_callS C (c_OCheck p L.length hi (by omega)) cw_Jx4a65c_118 rfl rfl (by exact Nat.le_of_ble_eq_true rfl) (by decide) (by omega) (by omega) dJx4a65c_remove_915e3_5 ?_
  rintro _ _ ⟨rfl, rfl⟩
  refine J_pop C rfl dJx4a65c_remove_915e3_8 ?_
  first | refine J_aload_n C rfl dJx4a65c_remove_915e3_9 ?_ | refine J_aload_nq C rfl dJx4a65c_remove_915e3_9 ?_ | refine J_aload_nN C rfl dJx4a65c_remove_915e3_9 ?_
  refine J_get C fl_Jx4a65c_9 (by first | assumption | exact jv_up_at _ _ _ | (simp [jv_up, *]; done)) (by rfl) dJx4a65c_remove_915e3_10 ?_
  first | refine J_astore_nq C (by decide) dJx4a65c_remove_915e3_13 ?_ | refine J_astore_n C (by decide) dJx4a65c_remove_915e3_13 ?_ | refine J_astore_nN C (by decide) dJx4a65c_remove_915e3_13 ?_
  first | refine J_aload_n C rfl dJx4a65c_remove_915e3_14 ?_ | refine J_aload_nq C rfl dJx4a65c_remove_915e3_14 ?_ | refine J_aload_nN C rfl dJx4a65c_remove_915e3_14 ?_
  refine J_iload_n C rfl dJx4a65c_remove_915e3_15 ?_
  refine J_aald C f1 (Or.inl rfl) rfl (by omega) (by omega) dJx4a65c_remove_915e3_16 ?_
  rw [f2 p x hx]
  first | refine J_astore_nq C (by decide) dJx4a65c_remove_915e3_17 ?_ | refine J_astore_n C (by decide) dJx4a65c_remove_915e3_17 ?_ | refine J_astore_nN C (by decide) dJx4a65c_remove_915e3_17 ?_
  first | refine J_aload_n C rfl dJx4a65c_remove_915e3_18 ?_ | refine J_aload_nq C rfl dJx4a65c_remove_915e3_18 ?_ | refine J_aload_nN C rfl dJx4a65c_remove_915e3_18 ?_
  first | refine J_aload_n C rfl dJx4a65c_remove_915e3_19 ?_ | refine J_aload_nq C rfl dJx4a65c_remove_915e3_19 ?_ | refine J_aload_nN C rfl dJx4a65c_remove_915e3_19 ?_
  refine J_iload_n C rfl dJx4a65c_remove_915e3_20 ?_
  refine J_callV C (c_AL_fast O hci a1 a2 c1 c2 c3 f f1 f2 p hi) cw_Jx4a65c_144 (by first | assumption | exact jv_up_at _ _ _ | (simp [jv_up, *]; done)) rfl rfl rfl rfl (by exact Nat.le_of_ble_eq_true rfl) (by decide) (by omega) (by omega) dJx4a65c_remove_915e3_21 ?_
  rintro _ h1 ⟨rfl, hr⟩
  rw [hK] at hr
  first | refine J_aload_n C rfl dJx4a65c_remove_915e3_24 ?_ | refine J_aload_nq C rfl dJx4a65c_remove_915e3_24 ?_ | refine J_aload_nN C rfl dJx4a65c_remove_915e3_24 ?_
  refine J_aret (x := some x) C D (Or.inl ⟨_, rfl⟩) ⟨rfl, hr⟩ (by omega) (by omega) dJx4a65c_remove_915e3_25
end ALIST4
