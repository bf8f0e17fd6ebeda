section ALIST2
variable {l : jL} {h : jH} {ci a d cap : Nat} {L : List Nat}
/-- the class of the elements: castable to Object -/
def okci (ci : Nat) : Prop := ∃ q9 : vw_C, jv_cl[ci]? = some q9 ∧ Cond.castable q9.1 "java/lang/Object" ∈ jv_NL
theorem okci_1 : okci 1 := ⟨_, rfl, ca_RankedSearch_Document__java_lang_Object⟩
theorem okci_9 : okci 9 := ⟨_, rfl, ca_RankedSearch_Word__java_lang_Object⟩
set_option maxHeartbeats 400000 in
theorem c_copyOf3 (O : okci ci) (f : Nat → Option Nat) (hd : h d = some (alA cap f)) (n M : Nat) (hn : cap ≤ n) (hn2 : n < 100000) (hM : n ≤ M) (hel : ∀ j y, j < cap → f j = some y → ∃ fs, h y = some (.inr (ci, fs))) : Cn l yJ7_copyOf_6403c cJ7_copyOf_6403c 4 (some (.array (.object "java/lang/Object"))) 1 1 M [.ref d, .int (nI n), .ref l.2.2] h (fun r h1 => ∃ q g, r = some (.ref q) ∧ h q = none ∧ h1 = jv_up h q (alA n g) ∧ ∀ j, j < cap → g j = f j) := by
  obtain ⟨q9, o1, o2⟩ := O
  refine Cn.of (own := RJ7) rfl (by decide) (by exact Nat.le_of_ble_eq_true rfl) (by decide) (fun K hK C D I => ?_)
  first | refine J_aload_n C rfl dJ7_copyOf_6403c_0 ?_ | refine J_aload_nq C rfl dJ7_copyOf_6403c_0 ?_ | refine J_aload_nN C rfl dJ7_copyOf_6403c_0 ?_
  refine J_ldcM C wc_J7_110 dJ7_copyOf_6403c_1 ?_
  rw [hK]
  refine J_acmp_ne (rx := some l.2.2) (ry := some l.2.2) C 13 (by decide) dJ7_copyOf_6403c_3 (fun z => absurd rfl z) (fun _ => ?_)
  refine J_iload_n C rfl dJ7_copyOf_6403c_6 ?_
  refine J_newq C 4 (CC := "java/lang/Object") (fun _ => rfl) wc_J7_2 ao_Object (N := n) rfl (by omega) (by omega) (by omega) dJ7_copyOf_6403c_7 (fun q hq => ?_)
  have nq : ∀ {x : Nat} {e : jE}, h x = some e → x ≠ q := fun hx z => by rw [z, hq] at hx; cases hx
  have hd1 := jv_up_of (x := alA n (fun _ => none)) (nq hd) hd
  refine J_goto C 24 (by decide) dJ7_copyOf_6403c_10 ?_
  first | refine J_astore_nq C (by decide) dJ7_copyOf_6403c_24 ?_ | refine J_astore_n C (by decide) dJ7_copyOf_6403c_24 ?_ | refine J_astore_nN C (by decide) dJ7_copyOf_6403c_24 ?_
  first | refine J_aload_n C rfl dJ7_copyOf_6403c_25 ?_ | refine J_aload_nq C rfl dJ7_copyOf_6403c_25 ?_ | refine J_aload_nN C rfl dJ7_copyOf_6403c_25 ?_
  refine J_iconst C (v := nI 0) (by decide) dJ7_copyOf_6403c_26 ?_
  first | refine J_aload_n C rfl dJ7_copyOf_6403c_27 ?_ | refine J_aload_nq C rfl dJ7_copyOf_6403c_27 ?_ | refine J_aload_nN C rfl dJ7_copyOf_6403c_27 ?_
  refine J_iconst C (v := nI 0) (by decide) dJ7_copyOf_6403c_28 ?_
  first | refine J_aload_n C rfl dJ7_copyOf_6403c_29 ?_ | refine J_aload_nq C rfl dJ7_copyOf_6403c_29 ?_ | refine J_aload_nN C rfl dJ7_copyOf_6403c_29 ?_
  refine J_alen C (by first | assumption | exact jv_up_at _ _ _ | (simp [jv_up, *]; done)) (by decide) dJ7_copyOf_6403c_30 ?_
  refine J_iload_n C rfl dJ7_copyOf_6403c_31 ?_
  refine J_mmin C cw_J7_304 (by show cap < _; omega) (by omega) (by decide) (by exact Nat.le_of_ble_eq_true rfl) (by omega) (by omega) dJ7_copyOf_6403c_32 ?_
  rw [show min (cap, (Sum.inr (Sum.inr (Sum.inr (Sum.inr f))) : (Nat → Int32) ⊕ (Nat → Int64) ⊕ (Nat → UInt32) ⊕ (Nat → UInt64) ⊕ (Nat → Option Nat))).1 n = cap from Nat.min_eq_left hn]
  refine J_copyq C (sp := 0) (dp := 0) (n := cap) ml_ac_J7_150 ac_native ac_static ac_init hd1 (jv_up_at _ _ _) o1 o2 (by omega) (by omega) (by omega) (by omega) (fun j hj y hy => ?_) (by decide) (by exact Nat.le_of_ble_eq_true rfl) dJ7_copyOf_6403c_35 ?_
  · rw [Nat.zero_add] at hy
    obtain ⟨fs, hfs⟩ := hel j y hj hy
    exact ⟨fs, jv_up_of (nq hfs) hfs⟩
  · rw [jv_up_up]
    first | refine J_aload_n C rfl dJ7_copyOf_6403c_38 ?_ | refine J_aload_nq C rfl dJ7_copyOf_6403c_38 ?_ | refine J_aload_nN C rfl dJ7_copyOf_6403c_38 ?_
    refine J_aret (x := some q) C D (Or.inr ⟨_, rfl⟩) ⟨q, _, rfl, hq, rfl, fun j hj => ?_⟩ (by omega) (by omega) dJ7_copyOf_6403c_39
    rw [pk_cpy_in (Nat.zero_le _) (by omega), Nat.sub_zero, Nat.zero_add]
set_option maxHeartbeats 400000 in
theorem c_copyOf2 (O : okci ci) (f : Nat → Option Nat) (hd : h d = some (alA cap f)) (n M : Nat) (hn : cap ≤ n) (hn2 : n < 100000) (hM : n ≤ M) (hel : ∀ j y, j < cap → f j = some y → ∃ fs, h y = some (.inr (ci, fs))) : Cn l yJ7_copyOf_1904c cJ7_copyOf_1904c 2 (some (.array (.object "java/lang/Object"))) 2 1 M [.ref d, .int (nI n)] h (fun r h1 => ∃ q g, r = some (.ref q) ∧ h q = none ∧ h1 = jv_up h q (alA n g) ∧ ∀ j, j < cap → g j = f j) := by
  refine Cn.of (own := RJ7) rfl (by decide) (by exact Nat.le_of_ble_eq_true rfl) (by decide) (fun K hK C D I => ?_)
  first | refine J_aload_n C rfl dJ7_copyOf_1904c_0 ?_ | refine J_aload_nq C rfl dJ7_copyOf_1904c_0 ?_ | refine J_aload_nN C rfl dJ7_copyOf_1904c_0 ?_
  refine J_iload_n C rfl dJ7_copyOf_1904c_1 ?_
  first | refine J_aload_n C rfl dJ7_copyOf_1904c_2 ?_ | refine J_aload_nq C rfl dJ7_copyOf_1904c_2 ?_ | refine J_aload_nN C rfl dJ7_copyOf_1904c_2 ?_
  refine J_getC C gc_link gc_decl gc_sel gc_inst gc_nat hd (by decide) (by exact Nat.le_of_ble_eq_true rfl) dJ7_copyOf_1904c_3 ?_
  refine J_callS C (c_copyOf3 (l := jv_lk K) O f hd n M hn hn2 hM hel) cw_J7_300 rfl rfl (by exact Nat.le_of_ble_eq_true rfl) (by decide) (by omega) (by omega) dJ7_copyOf_1904c_6 ?_
  rintro _ _ ⟨q, g, rfl, hq, rfl, hg⟩
  refine J_aret (x := some q) C D (Or.inr ⟨_, rfl⟩) ⟨q, g, rfl, hq, rfl, hg⟩ (by omega) (by omega) dJ7_copyOf_1904c_9
/-- what grow leaves: a new array, its start the same -/
def growP (h : jH) (a cap : Nat) (mcn : Int32) (L : List Nat) : Option Value → jH → Prop := fun r h1 =>
  ∃ q g, r = some (.ref q) ∧ h q = none ∧ h1 = jv_up (jv_up h q (alA (gcap cap) g)) a (alO mcn q L.length) ∧ ∀ i x, L[i]? = some x → g i = some x
set_option maxHeartbeats 400000 in
theorem c_AL_grow (O : okci ci) {mcn : Int32} (a1 : h a = some (alO mcn d L.length)) (a2 : ∀ x ∈ L, ∃ fs, h x = some (.inr (ci, fs))) (a3 : (cap = 0 ∧ L = [] ∧ d = l.2.1) ∨ (10 ≤ cap ∧ cap ≤ 40000 ∧ L.length = cap ∧ ∃ f, h d = some (alA cap f) ∧ ∀ i x, L[i]? = some x → f i = some x)) (M : Nat) (hM : gcap cap ≤ M) : Cn l yJx4a65c_grow_92f84 cJx4a65c_grow_92f84 4 (some (.array (.object "java/lang/Object"))) 3 1 M [.ref a, .int (nI (L.length + 1))] h (growP h a cap mcn L) := by
  refine Cn.of (own := RJx4a65c) rfl (by decide) (by exact Nat.le_of_ble_eq_true rfl) (by decide) (fun K hK C D I => ?_)
  have nq : ∀ {q x : Nat} {e : jE}, h q = none → h x = some e → x ≠ q := fun hq hx z => by rw [z, hq] at hx; cases hx
  rcases a3 with ⟨rfl, rfl, rfl⟩ | ⟨c1, c2, c3, f, f1, f2⟩
  · first | refine J_aload_n C rfl dJx4a65c_grow_92f84_0 ?_ | refine J_aload_nq C rfl dJx4a65c_grow_92f84_0 ?_ | refine J_aload_nN C rfl dJx4a65c_grow_92f84_0 ?_
    refine J_get C fl_Jx4a65c_9 (by first | assumption | exact jv_up_at _ _ _ | (simp [jv_up, *]; done)) (by rfl) dJx4a65c_grow_92f84_1 ?_
    refine J_alenE C (by rw [hK]) dJx4a65c_grow_92f84_4 ?_
    refine J_istore_n C (by decide) dJx4a65c_grow_92f84_5 ?_
    refine J_iload_n C rfl dJx4a65c_grow_92f84_6 ?_
    refine J_nif_gt C (by decide) 20 (by decide) dJx4a65c_grow_92f84_7 (fun z => absurd z (Nat.lt_irrefl 0)) (fun _ => ?_)
    first | refine J_aload_n C rfl dJx4a65c_grow_92f84_10 ?_ | refine J_aload_nq C rfl dJx4a65c_grow_92f84_10 ?_ | refine J_aload_nN C rfl dJx4a65c_grow_92f84_10 ?_
    refine J_get C fl_Jx4a65c_9 (by first | assumption | exact jv_up_at _ _ _ | (simp [jv_up, *]; done)) (by rfl) dJx4a65c_grow_92f84_11 ?_
    refine J_getsE C al_empty dJx4a65c_grow_92f84_14 ?_
    rw [hK]
    refine J_acmp_eq (rx := some l.2.1) (ry := some l.2.1) C 45 (by decide) dJx4a65c_grow_92f84_17 (fun _ => ?_) (fun z => absurd rfl z)
    first | refine J_aload_n C rfl dJx4a65c_grow_92f84_45 ?_ | refine J_aload_nq C rfl dJx4a65c_grow_92f84_45 ?_ | refine J_aload_nN C rfl dJx4a65c_grow_92f84_45 ?_
    refine J_bipush C (v := nI 10) (by decide) dJx4a65c_grow_92f84_46 ?_
    refine J_iload_n C rfl dJx4a65c_grow_92f84_48 ?_
    refine J_mmax C cw_Jx4a65c_79 (by decide) (by decide) (by decide) (by exact Nat.le_of_ble_eq_true rfl) (by omega) (by omega) dJx4a65c_grow_92f84_49 ?_
    have hM : 10 ≤ M := hM
    refine J_newq C 4 (CC := "java/lang/Object") (fun _ => rfl) wc_Jx4a65c_7 ao_Object (N := 10) rfl (by decide) (by omega) (by omega) dJx4a65c_grow_92f84_52 (fun q hq => ?_)
    have a1' := jv_up_of (x := alA 10 (fun _ => none)) (nq hq a1) a1
    refine J_dup_x1 C rfl rfl dJx4a65c_grow_92f84_55 ?_
    refine J_put C fl_Jx4a65c_9 (by first | assumption | exact jv_up_at _ _ _ | (simp [jv_up, *]; done)) (by exact Nat.le_of_ble_eq_true rfl) (by first | rfl | exact jv_nar_a _ _) (by first | rfl | exact jv_fit_a _ _) dJx4a65c_grow_92f84_56 ?_
    refine J_aret (x := some q) C D (Or.inr ⟨_, rfl⟩) ⟨q, fun _ => none, rfl, hq, rfl, fun i x hx => by cases hx⟩ (by omega) (by omega) dJx4a65c_grow_92f84_59
  · first | refine J_aload_n C rfl dJx4a65c_grow_92f84_0 ?_ | refine J_aload_nq C rfl dJx4a65c_grow_92f84_0 ?_ | refine J_aload_nN C rfl dJx4a65c_grow_92f84_0 ?_
    refine J_get C fl_Jx4a65c_9 (by first | assumption | exact jv_up_at _ _ _ | (simp [jv_up, *]; done)) (by rfl) dJx4a65c_grow_92f84_1 ?_
    refine J_alen C (by first | assumption | exact jv_up_at _ _ _ | (simp [jv_up, *]; done)) (by decide) dJx4a65c_grow_92f84_4 ?_
    refine J_istore_n C (by decide) dJx4a65c_grow_92f84_5 ?_
    refine J_iload_n C rfl dJx4a65c_grow_92f84_6 ?_
    refine J_nif_gt C (by show cap < _; omega) 20 (by decide) dJx4a65c_grow_92f84_7 (fun _ => ?_) (fun z => absurd z (by show ¬ cap = 0; omega))
    have hg : gcap cap = cap + cap / 2 := by unfold gcap; rw [if_neg (by omega)]
    refine J_iload_n C rfl dJx4a65c_grow_92f84_20 ?_
    refine J_iload_n C rfl dJx4a65c_grow_92f84_21 ?_
    refine J_iload_n C rfl dJx4a65c_grow_92f84_22 ?_
    refine J_nisub C (by show cap ≤ _; omega) dJx4a65c_grow_92f84_23 ?_
    refine J_iload_n C rfl dJx4a65c_grow_92f84_24 ?_
    refine J_iconst C (v := nI 1) (by decide) dJx4a65c_grow_92f84_25 ?_
    refine J_ishr C dJx4a65c_grow_92f84_26 ?_
    have hs : nI cap >>> (nI 1 &&& 31) = nI (cap / 2) := pk_shrN (by omega) (nI 1 &&& 31) 1 (by decide)
    dsimp only
    rw [hs]
    refine J_callS C (c_newLength cap (L.length + 1 - cap) (cap / 2) (by omega) (by omega) (by omega)) cw_Jx4a65c_73 rfl rfl (by exact Nat.le_of_ble_eq_true rfl) (by decide) (by omega) (by omega) dJx4a65c_grow_92f84_27 ?_
    rintro _ _ ⟨rfl, rfl⟩
    rw [show cap + max (L.length + 1 - cap) (cap / 2) = gcap cap by rw [hg]; omega]
    refine J_istore_n C (by decide) dJx4a65c_grow_92f84_30 ?_
    first | refine J_aload_n C rfl dJx4a65c_grow_92f84_31 ?_ | refine J_aload_nq C rfl dJx4a65c_grow_92f84_31 ?_ | refine J_aload_nN C rfl dJx4a65c_grow_92f84_31 ?_
    first | refine J_aload_n C rfl dJx4a65c_grow_92f84_32 ?_ | refine J_aload_nq C rfl dJx4a65c_grow_92f84_32 ?_ | refine J_aload_nN C rfl dJx4a65c_grow_92f84_32 ?_
    refine J_get C fl_Jx4a65c_9 (by first | assumption | exact jv_up_at _ _ _ | (simp [jv_up, *]; done)) (by rfl) dJx4a65c_grow_92f84_33 ?_
    refine J_iload_n C rfl dJx4a65c_grow_92f84_36 ?_
    refine J_callS C (c_copyOf2 O f f1 (gcap cap) M (by omega) (by omega) hM (fun j y hj hy => a2 y (List.mem_of_getElem? (i := j) (by have hx := List.getElem?_eq_getElem (l := L) (i := j) (by omega); rw [f2 j _ hx] at hy; rw [hx]; exact hy)))) cw_Jx4a65c_66 rfl rfl (by exact Nat.le_of_ble_eq_true rfl) (by decide) (by omega) (by omega) dJx4a65c_grow_92f84_37 ?_
    rintro _ _ ⟨q, g, rfl, hq, rfl, hgg⟩
    have a1' := jv_up_of (x := alA (gcap cap) g) (nq hq a1) a1
    refine J_dup_x1 C rfl rfl dJx4a65c_grow_92f84_40 ?_
    refine J_put C fl_Jx4a65c_9 (by first | assumption | exact jv_up_at _ _ _ | (simp [jv_up, *]; done)) (by exact Nat.le_of_ble_eq_true rfl) (by first | rfl | exact jv_nar_a _ _) (by first | rfl | exact jv_fit_a _ _) dJx4a65c_grow_92f84_41 ?_
    refine J_aret (x := some q) C D (Or.inr ⟨_, rfl⟩) ⟨q, g, rfl, hq, rfl, fun i x hx => ?_⟩ (by omega) (by omega) dJx4a65c_grow_92f84_44
    rw [hgg i (by rw [← c3]; exact (List.getElem?_eq_some_iff.mp hx).1)]
    exact f2 i x hx
set_option maxHeartbeats 400000 in
theorem c_AL_grow0 (O : okci ci) {mcn : Int32} (a1 : h a = some (alO mcn d L.length)) (a2 : ∀ x ∈ L, ∃ fs, h x = some (.inr (ci, fs))) (a3 : (cap = 0 ∧ L = [] ∧ d = l.2.1) ∨ (10 ≤ cap ∧ cap ≤ 40000 ∧ L.length = cap ∧ ∃ f, h d = some (alA cap f) ∧ ∀ i x, L[i]? = some x → f i = some x)) (M : Nat) (hM : gcap cap ≤ M) : Cn l yJx4a65c_grow_d5877 cJx4a65c_grow_d5877 1 (some (.array (.object "java/lang/Object"))) 4 1 M [.ref a] h (growP h a cap mcn L) := by
  refine Cn.of (own := RJx4a65c) rfl (by decide) (by exact Nat.le_of_ble_eq_true rfl) (by decide) (fun K hK C D I => ?_)
  first | refine J_aload_n C rfl dJx4a65c_grow_d5877_0 ?_ | refine J_aload_nq C rfl dJx4a65c_grow_d5877_0 ?_ | refine J_aload_nN C rfl dJx4a65c_grow_d5877_0 ?_
  first | refine J_aload_n C rfl dJx4a65c_grow_d5877_1 ?_ | refine J_aload_nq C rfl dJx4a65c_grow_d5877_1 ?_ | refine J_aload_nN C rfl dJx4a65c_grow_d5877_1 ?_
  refine J_get C fl_Jx4a65c_48 (by first | assumption | exact jv_up_at _ _ _ | (simp [jv_up, *]; done)) (by rfl) dJx4a65c_grow_d5877_2 ?_
  refine J_iconst C (v := nI 1) (by decide) dJx4a65c_grow_d5877_5 ?_
  first | refine J_niadd C dJx4a65c_grow_d5877_6 ?_ | refine J_iadd C dJx4a65c_grow_d5877_6 ?_
  refine J_callV C (c_AL_grow O a1 a2 (by rw [hK]; exact a3) M hM) cw_Jx4a65c_69 (by first | assumption | exact jv_up_at _ _ _ | (simp [jv_up, *]; done)) rfl rfl rfl rfl (by exact Nat.le_of_ble_eq_true rfl) (by decide) (by omega) (by omega) dJx4a65c_grow_d5877_7 ?_
  rintro _ _ ⟨q, g, rfl, hq, rfl, hgg⟩
  refine J_aret (x := some q) C D (Or.inr ⟨_, rfl⟩) ⟨q, g, rfl, hq, rfl, hgg⟩ (by omega) (by omega) dJx4a65c_grow_d5877_10
end ALIST2
