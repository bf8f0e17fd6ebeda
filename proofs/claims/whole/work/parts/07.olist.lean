section JLIST
variable {K : jT} {cc : ByteArray} {nL fr mc ms cells slots pc : Nat} {own : String} {lv : Nat → Option Value} {rest : List Value} {h : jH}
theorem J_dup_x1 (C : JC K cc nL own fr mc ms) {v w : Value} (hv : v.category = 1) (hw : w.category = 1) (d : decode cc pc = .ok (.dup_x1, 1)) (k : J K cells slots (pc + 1) lv (v :: w :: v :: rest) h) : J K cells slots pc lv (v :: w :: rest) h := by
  obtain ⟨p, l, e, R, s, m, args, below, meth, c, G, A, Q⟩ := K
  intro H locs ls hl hR hA hS
  exact lv_dup_x1 C.1 C.2.1 d hv hw (k H locs ls hl hR hA hS)
theorem J_getsE (C : JC K cc nL own fr mc ms) {i : Nat} (hw : Cond.fieldLink own i "java/util/ArrayList" "DEFAULTCAPACITY_EMPTY_ELEMENTDATA" "[Ljava/lang/Object;" ∈ jv_T) (d : decode cc pc = .ok (.getstatic i, 3)) (kk : J K cells slots (pc + 3) lv (va_rf (some (jv_lk K).2.1) :: rest) h) : J K cells slots pc lv rest h := by
  obtain ⟨p, l, e, R, s, m, args, below, meth, c, G, A, Q⟩ := K
  intro H locs ls hl hR hA hS
  obtain ⟨hexec, hb, c3, hown, hts, hK, hRoom, c8, hA0, c10, -⟩ := C
  exact va_gets hexec hb c8.2.2.1 hS hown (hts _ hw) (fun _ z => z) d (kk H locs ls hl hR hA hS)
theorem J_alenE (C : JC K cc nL own fr mc ms) {a : Nat} (ha : a = (jv_lk K).2.1) (d : decode cc pc = .ok (.arraylength, 1)) (kk : J K cells slots (pc + 1) lv (.int (nI 0) :: rest) h) : J K cells slots pc lv (.ref a :: rest) h := by
  obtain ⟨p, l, e, R, s, m, args, below, meth, c, G, A, Q⟩ := K
  intro H locs ls hl hR hA hS
  subst ha
  obtain ⟨hexec, hb, c3, hown, hts, hK, hRoom, c8, hA0, c10, -⟩ := C
  obtain ⟨cell, t1, t2, t3, t4, t5, t6, t7⟩ := c8.2.2.2.1.kept hS.2.1
  exact W.alen hexec hb t1 t2 t5 rfl rfl d (kk H locs ls hl hR hA hS)
theorem J_ldcM (C : JC K cc nL own fr mc ms) {i : Nat} (hw : Cond.classLink own i "[Ljava/lang/Object;" ∈ jv_T) (d : decode cc pc = .ok (.ldc i, 2)) (kk : J K cells slots (pc + 2) lv (va_rf (some (jv_lk K).2.2) :: rest) h) : J K cells slots pc lv rest h := by
  obtain ⟨p, l, e, R, s, m, args, below, meth, c, G, A, Q⟩ := K
  intro H locs ls hl hR hA hS
  obtain ⟨hexec, hb, c3, hown, hts, hK, hRoom, c8, hA0, c10, -⟩ := C
  exact va_ldcM hexec hb hown (hts _ hw) c8.2.2.2.2 d (kk H locs ls hl hR hA hS)
abbrev gcN : MethodName := ⟨"java/lang/Object", "getClass", "()Ljava/lang/Class;"⟩
theorem J_getC (C : JC K cc nL own fr mc ms) {i a n : Nat} {x : (Nat → Int32) ⊕ (Nat → Int64) ⊕ (Nat → UInt32) ⊕ (Nat → UInt64) ⊕ (Nat → Option Nat)} (hw : Cond.methodLink own i gcN ∈ jv_T) (hw2 : Cond.declares gcN ∈ jv_NL) (hw3 : Cond.selects "[Ljava/lang/Object;" gcN gcN ∈ jv_T) (hw4 : Cond.instanceMethod gcN ∈ jv_T) (hw5 : Cond.native gcN ∈ jv_T) (ha : h a = some (.inl (4, n, x))) (hfr : 1 ≤ fr) (hW : (rest.map fun v => v.category).sum ≤ 8) (d : decode cc pc = .ok (.invokevirtual i, 3)) (kk : J K cells slots (pc + 3) lv (va_rf (some (jv_lk K).2.2) :: rest) h) : J K cells slots pc lv (.ref a :: rest) h := by
  obtain ⟨p, l, e, R, s, m, args, below, meth, c, G, A, Q⟩ := K
  intro H locs ls hl hR hA hS
  obtain ⟨hexec, hb, c3, hown, hts, hK, hRoom, c8, hA0, c10, -⟩ := C
  have hcell := hR a _ ha
  refine va_getC hexec hb hl.1.symm hown (hts _ hw) (c10.use hw2) (hts _ hw3) (hts _ hw4) (hts _ hw5) c8.2.2.2.2 ⟨_, hcell, ?_, ?_⟩ (by rw [hRoom]; exact hfr) (by rw [hRoom]; show _ ≤ 50 * fr; omega) d (kk H locs ls hl hR hA hS)
  · rcases x with x | x | x | x | x <;> rfl
  · have h4 := (hK.2 4 (G.2.1 4, .object "java/lang/Object") rfl).2
    have h5 := va_nmO (nm := "[Ljava/lang/Object;") h4 (by decide)
    rcases x with x | x | x | x | x <;> exact h5
theorem J_copyq (C : JC K cc nL own fr mc ms) {i a0 a n0 n1 ci : Nat} {q9 : vw_C} {f g : Nat → Option Nat} (hlink : Cond.methodLink own i arraycopyName ∈ jv_T) (hnat : Cond.native arraycopyName ∈ jv_T) (hstat : Cond.static arraycopyName ∈ jv_T) (hini : Cond.initialized "java/lang/System" ∈ jv_T)
    (ha0 : h a0 = some (.inl (4, n0, .inr (.inr (.inr (.inr f)))))) (ha1 : h a = some (.inl (4, n1, .inr (.inr (.inr (.inr g)))))) (hc : jv_cl[ci]? = some q9) (hca : Cond.castable q9.1 "java/lang/Object" ∈ jv_NL) {sp dp n : Nat} (h1 : sp + n ≤ n0) (h2 : dp + n ≤ n1) (hn0 : n0 < 1000000) (hn1 : n1 < 1000000)
    (hel : ∀ j : Nat, j < n → ∀ y : Nat, f (sp + j) = some y → ∃ fs, h y = some (.inr (ci, fs))) (hfr : 1 ≤ fr) (hW : (rest.map fun v => v.category).sum ≤ 8) (d : decode cc pc = .ok (.invokestatic i, 3))
    (kk : J K cells slots (pc + 3) lv rest (jv_up h a (.inl (4, n1, .inr (.inr (.inr (.inr (va_cpy f g sp dp n)))))))) : J K cells slots pc lv (.int (nI n) :: .int (nI dp) :: .ref a :: .int (nI sp) :: .ref a0 :: rest) h := by
  obtain ⟨p, l, e, R, s, m, args, below, meth, c, G, A, Q⟩ := K
  intro H locs ls hl hR hA hS
  obtain ⟨hexec, hb, c3, hown, hts, hK, hRoom, c8, hA0, c10, -⟩ := C
  have cl1 : (nI sp).toNatClampNeg = sp := nI_clamp (by omega)
  have cl2 : (nI dp).toNatClampNeg = dp := nI_clamp (by omega)
  have cl3 : (nI n).toNatClampNeg = n := nI_clamp (by omega)
  have ti1 : (nI sp).toInt = (sp : Int) := nI_toInt (by omega)
  have ti2 : (nI dp).toInt = (dp : Int) := nI_toInt (by omega)
  have ti3 : (nI n).toInt = (n : Int) := nI_toInt (by omega)
  have hAa := hA a (by rw [ha1]; exact fun z => by cases z)
  intro T hT X
  have hc0 : H[a0]? = some (vp_cell (G.2.1 4) (n0, .inr (.inr (.inr (.inr f))))) := hR a0 _ ha0
  have hc1 : H[a]? = some (vp_cell (G.2.1 4) (n1, .inr (.inr (.inr (.inr g))))) := hR a _ ha1
  have ht : (jv_tys G)[4]? = some (G.2.1 4, .object "java/lang/Object") := rfl
  obtain ⟨-, k0, hk0, cm0, hkk0⟩ := (hK.2 4 _ ht).1 n0 (fun j => va_rf (f j))
  obtain ⟨-, k1, hk1, cm1, hkk1⟩ := (hK.2 4 _ ht).1 n1 (fun j => va_rf (g j))
  have hnw : nativeFrameWords "java/lang/System" "arraycopy" 5 ≤ 30 := by decide
  obtain ⟨vm', X', step⟩ := X.arraycopy hexec hown (hts _ hlink) (hts _ hnat) (hts _ hstat) (hts _ hini) (src := a0) (dst := a) (cs := vp_cell (G.2.1 4) (n0, .inr (.inr (.inr (.inr f))))) (cd := vp_cell (G.2.1 4) (n1, .inr (.inr (.inr (.inr g))))) (srcPos := nI sp) (destPos := nI dp) (n := nI n) (by rw [hT]; exact hc0) (by rw [hT]; exact hc1)
    (fun _ h => by cases h) (fun _ h => by cases h) (fun h => by cases h) (fun h => by cases h) hk0 hk1 hkk0 hkk1 rfl (nI_pos (by omega)) (nI_pos (by omega)) (nI_pos (by omega))
    (by rw [ti1, ti3]; show ¬ _ > ((arrV (G.2.1 4) n0 (fun j => va_rf (f j))).slots.size : Int); rw [arrV_size]; omega)
    (by rw [ti2, ti3]; show ¬ _ > ((arrV (G.2.1 4) n1 (fun j => va_rf (g j))).slots.size : Int); rw [arrV_size]; omega)
    (fun vm₁ hal j hj => by
      rw [cl3] at hj
      have e : (vp_cell (G.2.1 4) (n0, .inr (.inr (.inr (.inr f))))).slots.getD ((nI sp).toNatClampNeg + j) .null = va_rf (f (sp + j)) := by
        show (arrV (G.2.1 4) n0 (fun j => va_rf (f j))).slots.getD _ _ = _
        rw [cl1, Array.getD_eq_getD_getElem?, arrV_read _ _ (by omega)]
        rfl
      rw [e]
      cases hy : f (sp + j) with
      | none => exact ⟨rfl, trivial⟩
      | some y =>
        obtain ⟨fs, hfs⟩ := hel j hj y hy
        obtain ⟨cellV, g1, g2, g3⟩ := va_recv hK (hR.one hfs) hc (q0 := 0) rfl
        obtain ⟨kA, comp, r1, r2, r3, -⟩ := (hK.2 4 _ ht).2
        cases hk1.symm.trans r1
        cases hkk1.symm.trans r2
        obtain ⟨kC, hkC, -⟩ := Vm.findClass_spec g3
        obtain ⟨kE, hkE, -⟩ := Vm.findClass_spec r3
        obtain ⟨kC', hkC', -⟩ := hal.2.2 _ _ hkC
        obtain ⟨kE', hkE', -⟩ := hal.2.2 _ _ hkE
        refine ⟨rfl, cellV, (show T.heap[y]? = some cellV by rw [hT]; exact g1), (fun q h => by rw [h] at g2; cases g2), ⟨kC', hkC'⟩, ?_, ?_⟩
        · exact ⟨kE', hkE'⟩
        · show vm₁.assignable _ _ = true
          rw [hal.assignable]
          obtain ⟨c0, t1, f1, f2, f3⟩ := Cond.castable_spec (c10.use (args := args) hca)
          cases f1.symm.trans g3
          cases f2.symm.trans r3
          exact f3)
    (g := F0 m pc ls (.int (nI n) :: .int (nI dp) :: .ref a :: .int (nI sp) :: .ref a0 :: rest)) rfl hl.1 (rest := rest) rfl (by rw [hb]; exact d) (by rw [hRoom]; exact hfr) (by rw [hRoom]; show 2 * 0 + _ + (nativeFrameWords "java/lang/System" "arraycopy" 5 + 11) ≤ 50 * fr; omega)
  have e1 : copied (vp_cell (G.2.1 4) (n0, .inr (.inr (.inr (.inr f))))) (vp_cell (G.2.1 4) (n1, .inr (.inr (.inr (.inr g))))) (nI sp) (nI dp) (nI n) = vp_cell (G.2.1 4) (n1, .inr (.inr (.inr (.inr (va_cpy f g sp dp n))))) := by
    rw [vp_cell_q, vp_cell_q, vp_cell_q]
    show (arrV (G.2.1 4) n1 (fun j => va_rf (g j))).storeRun (nI dp).toNatClampNeg ((arrV (G.2.1 4) n0 (fun j => va_rf (f j))).stretch (nI sp).toNatClampNeg (nI n).toNatClampNeg) = _
    rw [cl1, cl2, cl3]
    exact va_copied (fun z => va_rf z) (G.2.1 4) (G.2.1 4) f g h1
  rw [e1] at X' step
  have hl9 : a < H.size := (Array.getElem?_eq_some_iff.mp hc1).1
  have hheap : ((T.setVm vm').setCell a (vp_cell (G.2.1 4) (n1, .inr (.inr (.inr (.inr (va_cpy f g sp dp n))))))).heap = H.setIfInBounds a (vp_cell (G.2.1 4) (n1, .inr (.inr (.inr (.inr (va_cpy f g sp dp n)))))) := by rw [← hT]; rfl
  have oq : ∀ q : Nat, q ≠ a → (H.setIfInBounds a (vp_cell (G.2.1 4) (n1, .inr (.inr (.inr (.inr (va_cpy f g sp dp n)))))))[q]? = H[q]? := fun q hq => by simp [Array.getElem?_setIfInBounds, Ne.symm hq]
  obtain ⟨t, a1, b1⟩ := kk _ _ ls hl (hR.put (show (H.setIfInBounds a _)[a]? = some _ by simp [Array.getElem?_setIfInBounds, hl9]) oq) (jv_dom hA hAa) ⟨by simp; exact hS.1, fun q g1 g2 => by
      rw [oq q (fun e => g2 (by rw [e]; exact hAa))]
      exact hS.2.1 q g1 g2, fun q hq => by
      rcases List.mem_append.mp hq with h | h
      · exact hS.2.2 q h
      · obtain ⟨z, -, hz⟩ := List.mem_map.mp h
        rw [← hz]
        exact hAa⟩ _ hheap X'
  exact ⟨t, step t a1, b1⟩
end JLIST
