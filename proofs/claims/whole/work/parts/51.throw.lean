/-! methods that throw: 'new X(text)' and out; a callee that throws, passed on or caught -/
def jv_strs : List (Nat × String) := [(46, "n is not 1 to 8"), (189, "number is not 0 to 9999"), (98, "what is not 0 to 2"), (191, "k is not 1 to 50"), (169, "there is no such document"), (180, "no document was found at this place")]
/-- the texts' objects -/
def jv_S (U : State) : Prop := ∀ q ∈ jv_strs, ∃ a, vk_R RX11 q.1 q.2 a U
theorem jv_S.warm {s U : State} (hW : s.WarmedH U.vm) (h : jv_S s) : jv_S U := fun q hq => (h q hq).imp fun _ ha => vk_R.warm hW ha
theorem jv_str {args : Array Value} {s : State} {own tx : String} {k : Nat} (h : (Cond.stringRef own k tx).before args s = true) : ∃ a, vk_R own k tx a s := by
  have h1 := h
  simp only [Cond.before, Cond.holds, Cond.value] at h
  cases hc : s.vm.findClass own with
  | none => simp [hc] at h
  | some cur =>
    cases hr : s.resolvedAt? own k with
    | none => simp [hc, hr] at h
    | some r =>
      cases r with
      | string a =>
        refine ⟨a, vk_R.of h1 ?_⟩
        rw [State.resolvedAt?] at hr
        simp only [Option.bind_eq_bind] at hr
        simp only [Term.eval, Option.bind_eq_bind]
        rw [hc] at hr ⊢
        simp only [Option.bind_some] at hr ⊢
        cases hk : s.vm.classes[cur]? with
        | none => rw [hk] at hr; cases hr
        | some kk =>
          rw [hk] at hr
          simp only [Option.bind_some] at hr ⊢
          rw [hr]
          rfl
      | _ => simp [hc, hr] at h
theorem jv_S.of {args : Array Value} {s : State} (h : ∀ w ∈ tables_1, w.before args s = true) : jv_S s := by
  intro q hq
  have hm : ∀ q ∈ jv_strs, Cond.stringRef RX11 q.1 q.2 ∈ tables_1 := by decide +kernel
  exact jv_str (h _ (hm q hq))
def jv_PcS (G : jG) (As : List Value) (h : jH) (sz : Nat) : Array Value → State → Prop := va_Pc As (fun U => U.heap.size = sz ∧ jv_R G h U.heap ∧ jv_K G U ∧ jv_X G (jv_A h sz) U U.heap ∧ jv_N U ∧ jv_S U)
theorem jv_PcS_blind {G : jG} {As : List Value} {h : jH} {sz : Nat} : FrameBlind (jv_PcS G As h sz) := by
  intro a U g mk q
  obtain ⟨q0, q1, q2, q3, q4, q5, q6⟩ := q
  exact ⟨q0, q1, q2, va_K.moved (u := U) (U := U.calling g mk a) (Vm.Alike.refl U.vm) q3, jv_X.moved (u := U) (U := U.calling g mk a) (Vm.Alike.refl U.vm) q4, jv_N.warm (s := U) (U := U.calling g mk a) (State.WarmedH.refl U) q5, jv_S.warm (s := U) (U := U.calling g mk a) (State.WarmedH.refl U) q6⟩
/-- the world behind a throw -/
def jv_XA (G : jG) (A : Nat → Prop) (px : String → jH → Prop) : String → State → State → Prop := fun E st t => (∃ h1, px E h1 ∧ jv_R G h1 t.heap ∧ ∀ q, h1 q ≠ none → A q) ∧ va_F A st t
/-- THE CONTRACT of a method that returns or throws -/
def Cx (l : jL) (y : MethodName) (cc : ByteArray) (nL : Nat) (ret : Option FieldType) (fr mc ms : Nat) (As : List Value) (h : jH) (post : Option Value → jH → Prop) (px : String → jH → Prop) : Prop :=
  l.1.stackTraces = false → ∀ (G : jG) (sz : Nat), G.2.2 = l.2 → vx_Met l.1 y (Cond.code y cc nL ret :: jv_T) ({ frames := fr, cells := mc, slots := ms, locals := 50 * fr } : Room) (jv_PcS G As h sz) (jv_Qc G h sz post) (jv_XA G (jv_A h sz) px) mc ms (jv_A h sz)
/-- a throw's end -/
def JX (K : jT) (mc ms : Nat) (px : String → jH → Prop) : Prop := match K with
  | (p, l, e, R, s, m, args, below, meth, c, G, A, Q) => (∀ x ∈ c.exceptionTable.toList, False) ∧ meth.locks = false ∧ jv_S s ∧ ∀ t, vx_MQ below (fun _ _ _ _ => False) (jv_XA G A px) args s mc ms A t → Q t
def JS (K : jT) : Prop := match K with
  | (p, l, e, R, s, m, args, below, meth, c, G, A, Q) => jv_S s
theorem JX.toS {K : jT} {mc ms : Nat} {px : String → jH → Prop} (X : JX K mc ms px) : JS K := by
  obtain ⟨p, l, e, R, s, m, args, below, meth, c, G, A, Q⟩ := K
  exact X.2.2.1
theorem Cx.of {l : jL} {y : MethodName} {cc : ByteArray} {nL : Nat} {ret : Option FieldType} {fr mc ms : Nat} {As : List Value} {h : jH} {post : Option Value → jH → Prop} {px : String → jH → Prop} {own : String} (ho : y.cls = own) (hy : plainName own = true) (hn : (lg_sl As).length ≤ nL) (hfr : fr ≤ 1600)
    (body : ∀ K : jT, jv_lk K = l → JC K cc nL own fr mc ms → JR K ret mc ms h post → JX K mc ms px → J K 0 0 0 (jv_l (lv_args 0 As)) [] h) : Cx l y cc nL ret fr mc ms As h post px := by
  subst ho
  intro hst G sz hG
  refine vx_ofW (cc := cc) (maxL := nL) (ret := ret) hy rfl ?_
  intro p e s m args below meth c s₁ B hml htab hv
  obtain ⟨rfl, hsz, hR, hK, hX, hN, hSt⟩ := hv
  subst hsz
  have hts := atoms_spec (ws := Cond.code y cc nL ret :: jv_T) B.pre
  have hl := lv_entry As (n := nL) hn
  rw [lg_entry_eq]
  generalize (lg_sl As ++ List.replicate (nL - (lg_sl As).length) Slot.unset).toArray = ls at hl ⊢
  have h2 : jv_has ls c.maxLocals (jv_l (lv_args 0 As)) := by
    rw [hml]
    exact ⟨hl.1, hl.2.1, fun i v e => hl.2.2 (i, v) (jv_args_at _ i v e)⟩
  refine body (p, l.1, e, _, s, m, As.toArray, below, meth, c, G, jv_A h s.heap.size, vx_MQ below (jv_Qc G h s.heap.size post) (jv_XA G (jv_A h s.heap.size) px) As.toArray s mc ms (jv_A h s.heap.size)) (by show (l.1, G.2.2) = l; rw [hG]) ⟨B.exec, B.bytes, hml, findClass_of_methodNamed B.named, fun w hw => hts w (List.mem_cons_of_mem _ hw), hK, rfl, hX, fun q hq => Or.inr hq, hN, hfr, hst⟩ ⟨B.notSynchronized, B.returns, fun q => Iff.rfl, fun t ht => ?_⟩ ⟨htab, B.notSynchronized, hSt, fun t ht => ?_⟩ s.heap [] ls h2 hR (fun q hq => Or.inl hq) va_S.rf
  · obtain ⟨o, b1, b2, b3, b4⟩ := ht
    exact ⟨o, b1, b2, Or.inl ⟨b3, b4⟩⟩
  · obtain ⟨o, b1, b2, b3⟩ := ht
    rcases b3 with b3 | b3
    · exact b3.1.elim
    · exact ⟨o, b1, b2, Or.inr b3⟩
/-- the words of a throw of class cls -/
def JTW (ik ic : Nat) (cls : String) : Prop := Bundle.fit cls = true ∧ Cond.classLink RX11 ik cls ∈ jv_T ∧ Cond.initialized cls ∈ jv_T ∧
  (∀ w ∈ vx_atS RX11 ic cls ["java/lang/RuntimeException", "java/lang/Exception"], w ∈ jv_T ∨ w ∈ jv_NL) ∧ ∀ w ∈ Cond.classLink RX11 ik cls :: Cond.initialized cls :: vx_atS RX11 ic cls ["java/lang/RuntimeException", "java/lang/Exception"], vx_ot w = true
theorem jtw_names : ∀ n ∈ ["java/lang/RuntimeException", "java/lang/Exception"], Bundle.fit n = true := by decide +kernel
theorem jtw_at {L : List Cond} (ps : List Nat) (hp : L = ps.filterMap (fun i => tables_1[i]?)) (h : L.all (fun w => goodWord w || jv_kind w) = true) : ∀ w ∈ L, w ∈ jv_T ∨ w ∈ jv_NL := by
  intro w hw
  have h1 := List.all_eq_true.mp h w hw
  have hw2 := hw
  rw [hp] at hw2
  obtain ⟨i, -, hi⟩ := List.mem_filterMap.mp hw2
  simp only [Bool.or_eq_true] at h1
  rcases h1 with h1 | h1
  · exact Or.inl (jv_Tt i hi h1)
  · exact Or.inr (jv_Nm i hi h1)
def jtw_I : List Nat := [13, 314, 323, 326, 329, 331, 315, 316, 41, 42, 317, 322, 327, 347, 304, 348, 306, 349, 308, 318, 320, 310, 343, 344, 346, 310, 334, 335, 336, 337, 296, 337, 338, 339, 340, 298, 340, 341, 342, 343, 300, 333, 293, 294, 301, 302, 303, 305, 307, 309, 313, 312, 311]
theorem jtw_iae : JTW 44 48 "java/lang/IllegalArgumentException" := ⟨by decide +kernel, jv_Tt 292 (by decide +kernel) rfl, jv_Tt 16 (by decide +kernel) rfl, jtw_at jtw_I (by decide +kernel) (by decide +kernel), by decide +kernel⟩
def jtw_J : List Nat := [13, 314, 323, 326, 329, 331, 315, 316, 41, 42, 317, 322, 327, 347, 304, 348, 306, 349, 308, 318, 320, 310, 343, 344, 346, 310, 852, 853, 854, 337, 296, 337, 338, 339, 340, 298, 340, 341, 342, 343, 300, 1113, 608, 609, 610, 325, 611, 612, 613, 614, 313, 312, 615]
theorem jtw_ioo : JTW 178 182 "java/lang/IndexOutOfBoundsException" := ⟨by decide +kernel, jv_Tt 1111 (by decide +kernel) rfl, jv_Tt 26 (by decide +kernel) rfl, jtw_at jtw_J (by decide +kernel) (by decide +kernel), by decide +kernel⟩
section THROW
variable {K : jT} {cc : ByteArray} {nL : Nat} {own : String} {fr mc ms cells slots pc : Nat} {lv : Nat → Option Value} {rest : List Value} {h : jH} {px : String → jH → Prop}
theorem J_throw (C : JC K cc nL RX11 fr mc ms) (X : JX K mc ms px) {ik is ic : Nat} {cls text : String} (W9 : JTW ik ic cls) (hst : (is, text) ∈ jv_strs) (hp : px cls h) (hfr : 6 ≤ fr) (hc : cells + 1 ≤ mc) (hs : slots + 6 ≤ ms) (hrest : (rest.map fun v => v.category).sum ≤ 8)
    (d0 : decode cc pc = .ok (.new ik, 3)) (d3 : decode cc (pc + 3) = .ok (.dup, 1)) (d4 : decode cc (pc + 4) = .ok (.ldc is, 2)) (d6 : decode cc (pc + 6) = .ok (.invokespecial ic, 3)) (d9 : decode cc (pc + 9) = .ok (.athrow, 1)) : J K cells slots pc lv rest h := by
  obtain ⟨p, l, e, R, s, m, args, below, meth, c, G, A, Q⟩ := K
  intro H locs ls hl hR hA hS
  obtain ⟨hexec, hb9, c3, hown, hts, hK, hRoom, c8, hA0, c10, c11, c12⟩ := C
  obtain ⟨x1, x2, x3, x4⟩ := X
  obtain ⟨w1, w2, w3, w4, w5⟩ := W9
  obtain ⟨sa, hsa⟩ := x3 _ hst
  refine W_mono x4 (vx_throwS hexec hb9 c12 (own := RX11) (cls := cls) (text := text) (names := ["java/lang/RuntimeException", "java/lang/Exception"]) (ik := ik) (is := is) (ic := ic) (sa := sa) (A := A) hown w1 jtw_names (hts _ w2) (hts _ w3) hsa (fun w hw => ?_) w5 c8.1 c8.2.1 hS hl.1 d0 d3 d4 d6 d9 (fun x hx => (x1 x hx).elim) ?_ ?_ ?_ ?_ x2 (fun t ht hz hk => ⟨⟨h, hp, fun a x9 ha => (hR a x9 ha).kept (hk a (hR a x9 ha).lt), hA⟩, Nat.le_trans hS.1 hz, fun q hq hn => (hk q (Nat.lt_of_lt_of_le hq hS.1)).trans (hS.2.1 q hq hn)⟩) hS.2.2 hc hs)
  · rcases w4 w hw with z | z
    · exact hts w z
    · exact c10.use z
  · rw [hRoom]; show 2 + 3 < fr; omega
  · rw [hRoom]; show _ + (13 * (2 + 1) + 43) ≤ 50 * fr; omega
  · rw [hRoom]; exact hc
  · rw [hRoom]; exact hs
end THROW
