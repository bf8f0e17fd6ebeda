/-! ArrayList: over an array of Objects -/
abbrev alO (mcn : Int32) (d n : Nat) : jE := .inr (12, [.int mcn, .ref d, .int (nI n)])
abbrev alA (cap : Nat) (f : Nat → Option Nat) : jE := .inl (4, cap, .inr (.inr (.inr (.inr f))))
/-- a list of objects of class ci, its array at d of cap places (0: the shared empty one) -/
def al (l : jL) (h : jH) (ci a d cap : Nat) (L : List Nat) : Prop :=
  ∃ mcn, h a = some (alO mcn d L.length) ∧ (∀ x ∈ L, ∃ fs, h x = some (.inr (ci, fs))) ∧
  ((cap = 0 ∧ L = [] ∧ d = l.2.1) ∨ (10 ≤ cap ∧ cap ≤ 60000 ∧ L.length ≤ cap ∧ ∃ f, h d = some (alA cap f) ∧ ∀ i x, L[i]? = some x → f i = some x))
def gcap (cap : Nat) : Nat := if cap = 0 then 10 else cap + cap / 2
section ALIST
variable {l : jL} {h : jH} {ci a d cap : Nat} {L : List Nat}
set_option maxHeartbeats 400000 in
theorem c_AC_init (a : Nat) : Cn l yJxa1e45_init_da8c8 cJxa1e45_init_da8c8 1 none 1 0 0 [.ref a] h (fun r h1 => r = none ∧ h1 = h) := by
  refine Cn.of (own := RJxa1e45) rfl (by decide) (by exact Nat.le_of_ble_eq_true rfl) (by decide) (fun K hK C D I => ?_)
  first | refine J_aload_n C rfl dJxa1e45_init_da8c8_0 ?_ | refine J_aload_nq C rfl dJxa1e45_init_da8c8_0 ?_ | refine J_aload_nN C rfl dJxa1e45_init_da8c8_0 ?_
  refine J_objInit C ml_Jxa1e45_1 oi_inst oi_code (by decide) (by exact Nat.le_of_ble_eq_true rfl) dJxa1e45_init_da8c8_1 ?_
  refine J_vret C D ⟨rfl, rfl⟩ (by omega) (by omega) dJxa1e45_init_da8c8_4
set_option maxHeartbeats 400000 in
theorem c_ALs_init (x y z : Value) (hh : h a = some (.inr (12, [x, y, z]))) : Cn l yJxc12de_init_da8c8 cJxc12de_init_da8c8 1 none 2 0 0 [.ref a] h (fun r h1 => r = none ∧ h1 = jv_up h a (.inr (12, [.int (nI 0), y, z]))) := by
  refine Cn.of (own := RJxc12de) rfl (by decide) (by exact Nat.le_of_ble_eq_true rfl) (by decide) (fun K hK C D I => ?_)
  first | refine J_aload_n C rfl dJxc12de_init_da8c8_0 ?_ | refine J_aload_nq C rfl dJxc12de_init_da8c8_0 ?_ | refine J_aload_nN C rfl dJxc12de_init_da8c8_0 ?_
  refine J_callI C (c_AC_init a) cw_Jxc12de_1 rfl rfl (by exact Nat.le_of_ble_eq_true rfl) (by decide) (by omega) (by omega) dJxc12de_init_da8c8_1 ?_
  rintro _ _ ⟨rfl, rfl⟩
  first | refine J_aload_n C rfl dJxc12de_init_da8c8_4 ?_ | refine J_aload_nq C rfl dJxc12de_init_da8c8_4 ?_ | refine J_aload_nN C rfl dJxc12de_init_da8c8_4 ?_
  refine J_iconst C (v := nI 0) (by decide) dJxc12de_init_da8c8_5 ?_
  refine J_put C fl_Jxc12de_7 (by first | assumption | exact jv_up_at _ _ _ | (simp [jv_up, *]; done)) (by exact Nat.le_of_ble_eq_true rfl) (by rfl) (by rfl) dJxc12de_init_da8c8_6 ?_
  refine J_vret C D ⟨rfl, rfl⟩ (by omega) (by omega) dJxc12de_init_da8c8_9
set_option maxHeartbeats 400000 in
theorem c_AL_init (hh : h a = some (.inr (12, [.int 0, .null, .int 0]))) : Cn l yJx4a65c_init_da8c8 cJx4a65c_init_da8c8 1 none 3 0 0 [.ref a] h (fun r h1 => r = none ∧ h1 = jv_up h a (alO 0 l.2.1 0)) := by
  refine Cn.of (own := RJx4a65c) rfl (by decide) (by exact Nat.le_of_ble_eq_true rfl) (by decide) (fun K hK C D I => ?_)
  first | refine J_aload_n C rfl dJx4a65c_init_da8c8_0 ?_ | refine J_aload_nq C rfl dJx4a65c_init_da8c8_0 ?_ | refine J_aload_nN C rfl dJx4a65c_init_da8c8_0 ?_
  refine J_callI C (c_ALs_init _ _ _ hh) cw_Jx4a65c_1 rfl rfl (by exact Nat.le_of_ble_eq_true rfl) (by decide) (by omega) (by omega) dJx4a65c_init_da8c8_1 ?_
  rintro _ _ ⟨rfl, rfl⟩
  first | refine J_aload_n C rfl dJx4a65c_init_da8c8_4 ?_ | refine J_aload_nq C rfl dJx4a65c_init_da8c8_4 ?_ | refine J_aload_nN C rfl dJx4a65c_init_da8c8_4 ?_
  refine J_getsE C al_empty dJx4a65c_init_da8c8_5 ?_
  rw [hK]
  refine J_put C fl_Jx4a65c_9 (by first | assumption | exact jv_up_at _ _ _ | (simp [jv_up, *]; done)) (by exact Nat.le_of_ble_eq_true rfl) (by first | rfl | exact jv_nar_a _ _) (by first | rfl | exact jv_fit_a _ _) dJx4a65c_init_da8c8_8 ?_
  refine J_vret C D ⟨rfl, by rw [jv_up_up]; rfl⟩ (by omega) (by omega) dJx4a65c_init_da8c8_11
set_option maxHeartbeats 400000 in
theorem c_AL_size (A : al l h ci a d cap L) : Cn l yJx4a65c_size_8abf5 cJx4a65c_size_8abf5 1 (some .int) 1 0 0 [.ref a] h (fun r h1 => r = some (.int (nI L.length)) ∧ h1 = h) := by
  obtain ⟨mcn, a1, a2, a3⟩ := A
  refine Cn.of (own := RJx4a65c) rfl (by decide) (by exact Nat.le_of_ble_eq_true rfl) (by decide) (fun K hK C D I => ?_)
  first | refine J_aload_n C rfl dJx4a65c_size_8abf5_0 ?_ | refine J_aload_nq C rfl dJx4a65c_size_8abf5_0 ?_ | refine J_aload_nN C rfl dJx4a65c_size_8abf5_0 ?_
  refine J_get C fl_Jx4a65c_48 (by first | assumption | exact jv_up_at _ _ _ | (simp [jv_up, *]; done)) (by rfl) dJx4a65c_size_8abf5_1 ?_
  refine J_iret C D ⟨rfl, rfl⟩ (by omega) (by omega) dJx4a65c_size_8abf5_4
set_option maxHeartbeats 400000 in
theorem c_PCheck (i n : Nat) (hi : i < n) (hn : n < 1000000) : Cn l yJ3_checkIndex_8e157 cJ3_checkIndex_8e157 3 (some .int) 1 0 0 [.int (nI i), .int (nI n), .null] h (fun r h1 => r = some (.int (nI i)) ∧ h1 = h) := by
  refine Cn.of (own := RJ3) rfl (by decide) (by exact Nat.le_of_ble_eq_true rfl) (by decide) (fun K hK C D I => ?_)
  refine J_iload_n C rfl dJ3_checkIndex_8e157_0 ?_
  refine J_nif_lt C (by omega) 9 dJ3_checkIndex_8e157_1 (by decide) ?_
  refine J_iload_n C rfl dJ3_checkIndex_8e157_4 ?_
  refine J_iload_n C rfl dJ3_checkIndex_8e157_5 ?_
  refine J_nicmp_lt C (by first | omega | (dsimp only; omega)) (by first | omega | (dsimp only; omega)) 16 (by decide) dJ3_checkIndex_8e157_6 (fun z1 => ?_) (fun z1 => ?_)
  · refine J_iload_n C rfl dJ3_checkIndex_8e157_16 ?_
    refine J_iret C D ⟨rfl, rfl⟩ (by omega) (by omega) dJ3_checkIndex_8e157_17
  · omega
set_option maxHeartbeats 400000 in
theorem c_OCheck (i n : Nat) (hi : i < n) (hn : n < 1000000) : Cn l yJ15_checkIndex_7cf53 cJ15_checkIndex_7cf53 2 (some .int) 2 0 0 [.int (nI i), .int (nI n)] h (fun r h1 => r = some (.int (nI i)) ∧ h1 = h) := by
  refine Cn.of (own := RJ15) rfl (by decide) (by exact Nat.le_of_ble_eq_true rfl) (by decide) (fun K hK C D I => ?_)
  refine J_iload_n C rfl dJ15_checkIndex_7cf53_0 ?_
  refine J_iload_n C rfl dJ15_checkIndex_7cf53_1 ?_
  refine J_null C dJ15_checkIndex_7cf53_2 ?_
  refine J_callS C (c_PCheck i n hi hn) cw_J15_105 rfl rfl (by exact Nat.le_of_ble_eq_true rfl) (by decide) (by omega) (by omega) dJ15_checkIndex_7cf53_3 ?_
  rintro _ _ ⟨rfl, rfl⟩
  refine J_iret C D ⟨rfl, rfl⟩ (by omega) (by omega) dJ15_checkIndex_7cf53_6
set_option maxHeartbeats 400000 in
theorem c_AL_elem {mcn : Int32} {n : Nat} {f : Nat → Option Nat} (a1 : h a = some (alO mcn d n)) (a2 : h d = some (alA cap f)) (hcap : cap ≤ 60000) (i : Nat) (hi : i < cap) : Cn l yJx4a65c_elementData_915e3 cJx4a65c_elementData_915e3 2 (some (.object "java/lang/Object")) 1 0 0 [.ref a, .int (nI i)] h (fun r h1 => r = some (va_rf (f i)) ∧ h1 = h) := by
  refine Cn.of (own := RJx4a65c) rfl (by decide) (by exact Nat.le_of_ble_eq_true rfl) (by decide) (fun K hK C D I => ?_)
  first | refine J_aload_n C rfl dJx4a65c_elementData_915e3_0 ?_ | refine J_aload_nq C rfl dJx4a65c_elementData_915e3_0 ?_ | refine J_aload_nN C rfl dJx4a65c_elementData_915e3_0 ?_
  refine J_get C fl_Jx4a65c_9 (by first | assumption | exact jv_up_at _ _ _ | (simp [jv_up, *]; done)) (by rfl) dJx4a65c_elementData_915e3_1 ?_
  refine J_iload_n C rfl dJx4a65c_elementData_915e3_4 ?_
  refine J_aald C a2 (Or.inl rfl) rfl hi (by omega) dJx4a65c_elementData_915e3_5 ?_
  refine J_aret C D (Or.inl ⟨_, rfl⟩) ⟨rfl, rfl⟩ (by omega) (by omega) dJx4a65c_elementData_915e3_6
theorem al_some (A : al l h ci a d cap L) {i x : Nat} (hx : L[i]? = some x) : 10 ≤ cap ∧ cap ≤ 60000 ∧ L.length ≤ cap ∧ i < L.length ∧ ∃ f, h d = some (alA cap f) ∧ f i = some x := by
  obtain ⟨mcn, a1, a2, a3⟩ := A
  rcases a3 with ⟨_, rfl, _⟩ | ⟨c1, c2, c3, f, f1, f2⟩
  · cases hx
  · exact ⟨c1, c2, c3, (List.getElem?_eq_some_iff.mp hx).1, f, f1, f2 i x hx⟩
set_option maxHeartbeats 400000 in
theorem c_AL_get (A : al l h ci a d cap L) (i x : Nat) (hx : L[i]? = some x) : Cn l yJx4a65c_get_915e3 cJx4a65c_get_915e3 2 (some (.object "java/lang/Object")) 3 0 0 [.ref a, .int (nI i)] h (fun r h1 => r = some (.ref x) ∧ h1 = h) := by
  obtain ⟨c1, c2, c3, hi, f, f1, f2⟩ := al_some A hx
  obtain ⟨mcn, a1, -⟩ := A
  refine Cn.of (own := RJx4a65c) rfl (by decide) (by exact Nat.le_of_ble_eq_true rfl) (by decide) (fun K hK C D I => ?_)
  refine J_iload_n C rfl dJx4a65c_get_915e3_0 ?_
  first | refine J_aload_n C rfl dJx4a65c_get_915e3_1 ?_ | refine J_aload_nq C rfl dJx4a65c_get_915e3_1 ?_ | refine J_aload_nN C rfl dJx4a65c_get_915e3_1 ?_
  refine J_get C fl_Jx4a65c_48 (by first | assumption | exact jv_up_at _ _ _ | (simp [jv_up, *]; done)) (by rfl) dJx4a65c_get_915e3_2 ?_
  refine J_callS C (c_OCheck i L.length hi (by omega)) cw_Jx4a65c_118 rfl rfl (by exact Nat.le_of_ble_eq_true rfl) (by decide) (by omega) (by omega) dJx4a65c_get_915e3_5 ?_
  rintro _ _ ⟨rfl, rfl⟩
  refine J_pop C rfl dJx4a65c_get_915e3_8 ?_
  first | refine J_aload_n C rfl dJx4a65c_get_915e3_9 ?_ | refine J_aload_nq C rfl dJx4a65c_get_915e3_9 ?_ | refine J_aload_nN C rfl dJx4a65c_get_915e3_9 ?_
  refine J_iload_n C rfl dJx4a65c_get_915e3_10 ?_
  refine J_callV C (c_AL_elem a1 f1 c2 i (by omega)) cw_Jx4a65c_123 (by first | assumption | exact jv_up_at _ _ _ | (simp [jv_up, *]; done)) rfl rfl rfl rfl (by exact Nat.le_of_ble_eq_true rfl) (by decide) (by omega) (by omega) dJx4a65c_get_915e3_11 ?_
  rintro _ _ ⟨rfl, rfl⟩
  refine J_aret C D (Or.inl ⟨_, rfl⟩) ⟨by rw [f2]; rfl, rfl⟩ (by omega) (by omega) dJx4a65c_get_915e3_14
set_option maxHeartbeats 400000 in
theorem c_newLength (n m p : Nat) (hn : 1 ≤ n ∧ n < 100000) (hm : m < 100000) (hp : p < 100000) : Cn l yJ8_newLength_cabcc cJ8_newLength_cabcc 4 (some .int) 2 0 0 [.int (nI n), .int (nI m), .int (nI p)] h (fun r h1 => r = some (.int (nI (n + max m p))) ∧ h1 = h) := by
  refine Cn.of (own := RJ8) rfl (by decide) (by exact Nat.le_of_ble_eq_true rfl) (by decide) (fun K hK C D I => ?_)
  refine J_iload_n C rfl dJ8_newLength_cabcc_0 ?_
  refine J_iload_n C rfl dJ8_newLength_cabcc_1 ?_
  refine J_iload_n C rfl dJ8_newLength_cabcc_2 ?_
  refine J_mmax C cw_J8_194 (by omega) (by omega) (by decide) (by exact Nat.le_of_ble_eq_true rfl) (by omega) (by omega) dJ8_newLength_cabcc_3 ?_
  first | refine J_niadd C dJ8_newLength_cabcc_6 ?_ | refine J_iadd C dJ8_newLength_cabcc_6 ?_
  refine J_istore_n C (by decide) dJ8_newLength_cabcc_7 ?_
  refine J_iconst C (v := nI 0) (by decide) dJ8_newLength_cabcc_8 ?_
  refine J_iload_n C rfl dJ8_newLength_cabcc_9 ?_
  refine J_nicmp_ge C (by first | omega | (dsimp only; omega)) (by first | omega | (dsimp only; omega)) 21 (by decide) dJ8_newLength_cabcc_10 (fun z1 => ?_) (fun z1 => ?_)
  · omega
  · refine J_iload_n C rfl dJ8_newLength_cabcc_13 ?_
    refine J_ldc C kc_J8_200 dJ8_newLength_cabcc_14 ?_
    refine J_icmp_gt C 21 (by decide) dJ8_newLength_cabcc_16 (fun z2 => ?_) (fun z2 => ?_)
    · refine absurd z2 ?_
      rw [show (2147483639 : Int32) = nI 2147483639 from rfl, nI_ltI (by decide) (by omega)]
      omega
    · refine J_iload_n C rfl dJ8_newLength_cabcc_19 ?_
      refine J_iret C D ⟨rfl, rfl⟩ (by omega) (by omega) dJ8_newLength_cabcc_20
end ALIST
