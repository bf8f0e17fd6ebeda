/-! calls of methods that throw: passed on, or caught; methods with a table -/
section XCALL
variable {K : jT} {cc : ByteArray} {nL : Nat} {own : String} {fr mc ms cells slots pc : Nat} {lv : Nat → Option Value} {rest : List Value} {h : jH} {px : String → jH → Prop}
theorem jx_after {p : Program} {l : Launch} {e : Env} {R : Room} {s : State} {m : MethodId} {args : Array Value} {below : List Frame} {meth : Method} {c : Code} {H : Heap} {locs : List Loc} {Q : State → Prop} {ls : Array Slot} {G : jG} {A : Nat → Prop} {mc2 ms2 : Nat} {st0 : List Value} {a : Array Value} {post : Option Value → jH → Prop} {px2 : String → jH → Prop}
    (hr : vx_Run p l e R s m args below meth c H locs cells slots mc2 ms2 (F0 m pc ls st0) rest (jv_Qc G h H.size post a) (jv_XA G (jv_A h H.size) px2) (jv_A h H.size)) (hA : ∀ q, h q ≠ none → A q) (hS : va_S A s.heap H locs) (hA0 : ∀ q, s.heap.size ≤ q → A q)
    (kx : ∀ (E : String) (ce : Cell) (q9 : Addr) (h1 : jH), px2 E h1 → ∀ (H1 : Heap) (locs1 : List Loc), jv_R G h1 H1 → (∀ q, h1 q ≠ none → A q) → va_S A s.heap H1 locs1 → H1[q9]? = some ce → ce.vm = .none → s.vm.findClass E = some ce.cls → vx_W p l e R s m args below meth c H1 locs1 (cells + mc2) (slots + ms2) Q (F0 m pc ls rest) q9)
    (kk : ∀ (r : Option Value) (h1 : jH), post r h1 → ∀ (H1 : Heap) (locs1 : List Loc), jv_R G h1 H1 → (∀ q, h1 q ≠ none → A q) → va_S A s.heap H1 locs1 → W p l e R s m args below meth c H1 locs1 (cells + mc2) (slots + ms2) Q (F0 m (pc + 3) ls (r.toList ++ rest))) : W p l e R s m args below meth c H locs cells slots Q (F0 m pc ls st0) := by
  have hAA : ∀ q, jv_A h H.size q → A q := fun q z => z.elim (hA q) (fun w => hA0 q (Nat.le_trans hS.1 w))
  intro T hT X
  rcases hr T hT X with ⟨v, st₀, t, T', L, h0, X', hL, e1, e2, ⟨⟨r, h1, hv, hp, hR1, hd1⟩, hF⟩, st⟩ | ⟨q, st₀, t, T', L, E, ce, h0, X', hL, e1, e2, ⟨⟨h1, hp, hR1, hd1⟩, hF⟩, hce, hcv, hcl, st⟩
  · cases hv
    obtain ⟨-, -, k3⟩ := vx_keep h0 e1 hS (fun q _ z => hAA q z) hAA hL hF
    obtain ⟨t2, a1, b1⟩ := kk v h1 hp T'.heap (locs ++ L) (by rw [e1]; exact hR1) (fun q hq => hAA q (hd1 q hq)) k3 T' rfl X'
    exact ⟨t2, st t2 a1, b1⟩
  · obtain ⟨-, -, k3⟩ := vx_keep h0 e1 hS (fun q _ z => hAA q z) hAA hL hF
    obtain ⟨t2, a1, b1⟩ := kx E ce q h1 hp T'.heap (locs ++ L) (by rw [e1]; exact hR1) (fun q hq => hAA q (hd1 q hq)) k3 (by rw [e1]; exact hce) hcv hcl T' rfl X'
    exact ⟨t2, st.trans a1, b1⟩
theorem jx_pre {p : Program} {l : Launch} {e : Env} {R : Room} {s : State} {m : MethodId} {args : Array Value} {below : List Frame} {meth : Method} {c : Code} {H : Heap} {locs : List Loc} {Q : State → Prop} {G : jG} {A : Nat → Prop} (C : JC (p, l, e, R, s, m, args, below, meth, c, G, A, Q) cc nL own fr mc ms) (hSt : jv_S s) (hR : jv_R G h H) (hA : ∀ q, h q ≠ none → A q) (hS : va_S A s.heap H locs) (As : List Value) : ∀ U : State, U.heap = H → s.WarmedH U.vm → jv_PcS G As h H.size As.toArray U := by
  intro U hU hW
  obtain ⟨q0, q1, q2, q3, q4, q5⟩ := jv_pre (Q := Q) C hR hA hS As U hU hW
  exact ⟨q0, q1, q2, q3, q4, q5, hSt.warm hW⟩
/-- a call whose throw goes on to the caller -/
theorem J_xcallS (C : JC K cc nL own fr mc ms) (X : JX K mc ms px) {i n nl fr2 mc2 ms2 : Nat} {y : MethodName} {bytes : ByteArray} {ret : Option FieldType} {As st : List Value} {post : Option Value → jH → Prop} {px2 : String → jH → Prop} (hM : Cx (jv_lk K) y bytes nl ret fr2 mc2 ms2 As h post px2) (cw : CWS own i y bytes nl ret n) (hn : As.length = n) (hst : st = As.reverse ++ rest) (hW : (rest.map fun v => v.category).sum ≤ 8) (hfr : fr2 < fr) (hc : cells + mc2 ≤ mc) (hs : slots + ms2 ≤ ms) (d : decode cc pc = .ok (.invokestatic i, 3))
    (kx : ∀ (E : String) (h1 : jH), px2 E h1 → px E h1)
    (kk : ∀ (r : Option Value) (h1 : jH), post r h1 → J K (cells + mc2) (slots + ms2) (pc + 3) lv (r.toList ++ rest) h1) : J K cells slots pc lv st h := by
  obtain ⟨p, l, e, R, s, m, args, below, meth, c, G, A, Q⟩ := K
  intro H locs ls hl hR hA hS
  have C0 := C
  obtain ⟨hexec, hb9, c3, hown, hts, hK, hRoom, c8, hA0, c10, -⟩ := C
  obtain ⟨x1, x2, x3, x4⟩ := X
  obtain ⟨⟨w1, w2, w3, w4⟩, w5, w6⟩ := cw
  refine jx_after (vx_runS (Ts := jv_T) (rest := rest) (As := As) ⟨hexec, hb9, rfl, hown, hts⟩ (hM C0.2.2.2.2.2.2.2.2.2.2.2 G H.size rfl) (va_cwS (ws' := jv_T) n hts (jv_goodIn (fun w hw => ?_)) rfl rfl rfl w3 ?_) ⟨jv_PcS_blind, jx_pre C0 x3 hR hA hS As⟩ rfl hn hl.1 hst (lv_room hW) d (by rw [hRoom]; exact ⟨hc, hs⟩)) hA hS hA0 (fun E ce q9 h1 hp H1 locs1 hR1 hA1 hS1 hce hcv hcl => ?_) (fun r h1 hp H1 locs1 hR1 hA1 hS1 => kk r h1 hp H1 locs1 ls hl hR1 hA1 hS1)
  · rcases List.mem_append.mp hw with hw | hw
    · simp only [List.mem_cons, List.not_mem_nil, or_false] at hw
      rcases hw with rfl | rfl | rfl
      · exact w5
      · exact w6
      · exact w2
    · exact jv_code_all w1 w hw
  · rw [hRoom]
    exact ⟨hfr, by show 8 + (nl + 11) + 50 * fr2 ≤ 50 * fr; omega⟩
  · intro T hT X9
    obtain ⟨t, a1, b1⟩ := vx_out (Qc := fun _ _ _ _ => False) (XC := jv_XA G A px) (free := A) (mc := mc) (ms := ms) (fun x hx => (x1 x hx).elim) x2 hce hcv hcl (fun t ht _ => ⟨⟨h1, kx E h1 hp, by rw [ht]; exact hR1, hA1⟩, hS1.F ht⟩) hS1.2.2 hc hs T hT X9
    exact ⟨t, a1, x4 t b1⟩
def JH (K : jT) (hh : List (Nat × Nat × Nat × Nat)) : Prop := match K with
  | (p, l, e, R, s, m, args, below, meth, c, G, A, Q) => c.exceptionTable.toList = tableOf hh
/-- a call whose throw is caught -/
theorem J_ccallV (C : JC K cc nL own fr mc ms) (X : JS K) {a0 b0 hp0 ct0 : Nat} (T9 : JH K [(a0, b0, hp0, ct0)]) {i n b ci nl fr2 mc2 ms2 : Nat} {y : MethodName} {bytes : ByteArray} {ret : Option FieldType} {As fs st : List Value} {q9 : vw_C} {post : Option Value → jH → Prop} {px2 : String → jH → Prop} {cls : String} (hM : Cx (jv_lk K) y bytes nl ret fr2 mc2 ms2 (.ref b :: As) h post px2) (cw : CWV own i y bytes nl ret n) (hb : h b = some (.inr (ci, fs))) (hq : jv_cl[ci]? = some q9) (hq2 : q9.1 = y.cls) (hn : As.length = n) (hst : st = As.reverse ++ .ref b :: rest) (hW : (rest.map fun v => v.category).sum ≤ 8) (hfr : fr2 < fr) (hc : cells + mc2 ≤ mc) (hs : slots + ms2 ≤ ms) (d : decode cc pc = .ok (.invokevirtual i, 3))
    (hcov : a0 ≤ pc ∧ pc < b0) (hct : ct0 ≠ 0) (hlink : Cond.classLink own ct0 cls ∈ jv_T) (hcast : Cond.castable cls cls ∈ jv_NL) (hE : ∀ (E : String) (h1 : jH), px2 E h1 → E = cls)
    (kx : ∀ (q : Nat) (h1 : jH), px2 cls h1 → J K (cells + mc2) (slots + ms2) hp0 lv [.ref q] h1)
    (kk : ∀ (r : Option Value) (h1 : jH), post r h1 → J K (cells + mc2) (slots + ms2) (pc + 3) lv (r.toList ++ rest) h1) : J K cells slots pc lv st h := by
  obtain ⟨p, l, e, R, s, m, args, below, meth, c, G, A, Q⟩ := K
  intro H locs ls hl hR hA hS
  have C0 := C
  obtain ⟨hexec, hb9, c3, hown, hts, hK, hRoom, c8, hA0, c10, -⟩ := C
  obtain ⟨⟨w1, w2, w3, w4⟩, w5, w6, w7⟩ := cw
  have hrecv := va_recv hK (hR.one hb) hq (q0 := 0) rfl
  rw [hq2] at hrecv
  refine jx_after (vx_runV (Ts := jv_T) (rest := rest) (As := As) ⟨hexec, hb9, rfl, hown, hts⟩ (hM C0.2.2.2.2.2.2.2.2.2.2.2 G H.size rfl) (cwV (ws' := jv_T) n hts (jv_goodIn (fun w hw => ?_)) rfl rfl rfl ⟨rfl, w3⟩ ?_) ⟨jv_PcS_blind, hrecv, jx_pre C0 X hR hA hS (.ref b :: As)⟩ rfl hn hl.1 hst (lv_room hW) d (by rw [hRoom]; exact ⟨hc, hs⟩)) hA hS hA0 (fun E ce q9 h1 hp H1 locs1 hR1 hA1 hS1 hce hcv hcl => ?_) (fun r h1 hp H1 locs1 hR1 hA1 hS1 => kk r h1 hp H1 locs1 ls hl hR1 hA1 hS1)
  · rcases List.mem_append.mp hw with hw | hw
    · simp only [List.mem_cons, List.not_mem_nil, or_false] at hw
      rcases hw with rfl | rfl | rfl | rfl
      · exact w5
      · exact w6
      · exact w7
      · exact w2
    · exact jv_code_all w1 w hw
  · rw [hRoom]
    exact ⟨hfr, by show 8 + (nl + 11) + 50 * fr2 ≤ 50 * fr; omega⟩
  · have hE1 := hE E h1 hp
    subst hE1
    exact vx_catch (E := E) (name := E) hown [] ⟨a0, b0, hp0, ct0⟩ [] T9 (fun z hz => by cases hz) (by show (decide _ && decide _) = true; rw [decide_eq_true hcov.1, decide_eq_true hcov.2]; rfl) hct (hts _ hlink) (c10.use hcast) hce hcv hcl (kx q9 h1 hp H1 locs1 ls hl hR1 hA1 hS1)
/-- a method with a table, that returns -/
def Ch (l : jL) (y : MethodName) (cc : ByteArray) (nL : Nat) (ret : Option FieldType) (hh : List (Nat × Nat × Nat × Nat)) (fr mc ms : Nat) (As : List Value) (h : jH) (post : Option Value → jH → Prop) : Prop :=
  l.1.stackTraces = false → ∀ (G : jG) (sz : Nat), G.2.2 = l.2 → Met l.1 y (Cond.codeWith y cc nL ret hh :: jv_T) ({ frames := fr, cells := mc, slots := ms, locals := 50 * fr } : Room) (jv_PcS G As h sz) (jv_Qc G h sz post) mc ms (jv_A h sz)
theorem Met.ofWH {l : Launch} {y : MethodName} {ws ws' : List Cond} {rm : Room} {Pc : Array Value → State → Prop} {Qc : Array Value → State → Outcome → State → Prop} {mc ms : Nat} {free : Addr → Prop} {cc : ByteArray} {maxL : Nat} {ret : Option FieldType} {hh : List (Nat × Nat × Nat × Nat)}
    (hy : plainName y.cls = true) (hw : ws = Cond.codeWith y cc maxL ret hh :: ws')
    (body : ∀ p e s m args below meth c s₁, BodyLoose p l y (headSpec ws rm) cc maxL ret e s m args below meth c s₁ → c.maxLocals = maxL → Pc args s →
      W p l e (headSpec ws rm).room s m args below meth c s.heap [] 0 0 (MQ below Qc args s mc ms free) (entryFrame m args maxL)) : Met l y ws rm Pc Qc mc ms free := by
  refine MetFree.of_bodyS (code := cc) (maxLocals := maxL) (ret := ret) hy ?_ ?_
  · intro args s m h hn
    obtain ⟨m9, meth, c, hn9, h1, h2, h3, h4, -, h5, h6, -⟩ := Cond.codeWith_spec (atoms_spec (ws := ws) h _ (by rw [hw]; exact List.mem_cons_self))
    cases hn.symm.trans hn9
    exact ⟨meth, c, h1, h2, h3, h4, h5, h6⟩
  · intro p e s m args below meth c s₁ B hml hP _
    have hh0 : s₁.heap = s.heap := by rw [B.state]; rfl
    obtain ⟨t, a1, o, b1, b2, b3⟩ := body p e s m args below meth c s₁ B hml hP s₁ hh0 (Stand.of_body B)
    exact ⟨t, o, a1, b1, b2, b3⟩
theorem Ch.of {l : jL} {y : MethodName} {cc : ByteArray} {nL : Nat} {ret : Option FieldType} {hh : List (Nat × Nat × Nat × Nat)} {fr mc ms : Nat} {As : List Value} {h : jH} {post : Option Value → jH → Prop} {own : String} (ho : y.cls = own) (hy : plainName own = true) (hn : (lg_sl As).length ≤ nL) (hfr : fr ≤ 1600)
    (body : ∀ K : jT, jv_lk K = l → JC K cc nL own fr mc ms → JR K ret mc ms h post → JS K → JH K hh → J K 0 0 0 (jv_l (lv_args 0 As)) [] h) : Ch l y cc nL ret hh fr mc ms As h post := by
  subst ho
  intro hst G sz hG
  refine Met.ofWH (cc := cc) (maxL := nL) (ret := ret) hy rfl ?_
  intro p e s m args below meth c s₁ B hml hv
  obtain ⟨rfl, hsz, hR, hK, hX, hN, hSt⟩ := hv
  subst hsz
  have hts := atoms_spec (ws := Cond.codeWith y cc nL ret hh :: jv_T) B.pre
  have hl := lv_entry As (n := nL) hn
  rw [lg_entry_eq]
  generalize (lg_sl As ++ List.replicate (nL - (lg_sl As).length) Slot.unset).toArray = ls at hl ⊢
  have h2 : jv_has ls c.maxLocals (jv_l (lv_args 0 As)) := by
    rw [hml]
    exact ⟨hl.1, hl.2.1, fun i v e => hl.2.2 (i, v) (jv_args_at _ i v e)⟩
  exact body (p, l.1, e, _, s, m, As.toArray, below, meth, c, G, jv_A h s.heap.size, _) (by show (l.1, G.2.2) = l; rw [hG]) ⟨B.exec, B.bytes, hml, findClass_of_methodNamed B.named, fun w hw => hts w (List.mem_cons_of_mem _ hw), hK, rfl, hX, fun q hq => Or.inr hq, hN, hfr, hst⟩ ⟨B.notSynchronized, B.returns, fun q => Iff.rfl, fun t ht => ht⟩ hSt (vx_table (x := y) B (hts _ List.mem_cons_self)) s.heap [] ls h2 hR (fun q hq => Or.inl hq) va_S.rf
/-- a static call of a method with a table -/
theorem J_callSW (C : JC K cc nL own fr mc ms) (X : JS K) {i n nl fr2 mc2 ms2 : Nat} {y : MethodName} {bytes : ByteArray} {ret : Option FieldType} {hh : List (Nat × Nat × Nat × Nat)} {As st : List Value} {post : Option Value → jH → Prop} (hM : Ch (jv_lk K) y bytes nl ret hh fr2 mc2 ms2 As h post) (w1 : Cond.codeWith y bytes nl ret hh ∈ jv_T) (w2 : Cond.initialized y.cls ∈ jv_T) (w3 : y.cls ≠ "java/lang/invoke/MethodHandle" ∧ y.cls ≠ "java/lang/invoke/VarHandle" ∧ (parseMethodDescriptor y.desc).map (fun d => d.parameters.length) = some n) (w4 : nl ≤ 31) (w5 : Cond.methodLink own i y ∈ jv_T) (w6 : Cond.static y ∈ jv_T) (hn : As.length = n) (hst : st = As.reverse ++ rest) (hW : (rest.map fun v => v.category).sum ≤ 8) (hfr : fr2 < fr) (hc : cells + mc2 ≤ mc) (hs : slots + ms2 ≤ ms) (d : decode cc pc = .ok (.invokestatic i, 3))
    (kk : ∀ (r : Option Value) (h1 : jH), post r h1 → J K (cells + mc2) (slots + ms2) (pc + 3) lv (r.toList ++ rest) h1) : J K cells slots pc lv st h := by
  obtain ⟨p, l, e, R, s, m, args, below, meth, c, G, A, Q⟩ := K
  intro H locs ls hl hR hA hS
  have C0 := C
  obtain ⟨hexec, hb9, c3, hown, hts, hK, hRoom, c8, hA0, c10, -⟩ := C
  refine jv_after (vx_runSW (Ts := jv_T) (rest := rest) (As := As) ⟨hexec, hb9, rfl, hown, hts⟩ (hM C0.2.2.2.2.2.2.2.2.2.2.2 G H.size rfl) (vx_cwSW (ws' := jv_T) n hts (jv_goodIn (fun w hw => ?_)) rfl rfl rfl w3 ?_) ⟨jv_PcS_blind, jx_pre C0 X hR hA hS As⟩ rfl hn hl.1 hst (lv_room hW) d (by rw [hRoom]; exact ⟨hc, hs⟩)) hA hS hA0 (fun r h1 hp H1 locs1 hR1 hA1 hS1 => kk r h1 hp H1 locs1 ls hl hR1 hA1 hS1)
  · rcases List.mem_append.mp hw with hw | hw
    · simp only [List.mem_cons, List.not_mem_nil, or_false] at hw
      rcases hw with rfl | rfl | rfl
      · exact w5
      · exact w6
      · exact w2
    · rcases List.mem_cons.mp hw with rfl | hw
      · exact w1
      · exact hw
  · rw [hRoom]
    exact ⟨hfr, by show 8 + (nl + 11) + 50 * fr2 ≤ 50 * fr; omega⟩
end XCALL
