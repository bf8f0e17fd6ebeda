/-! THE WORLD AS ONE FUNCTION: an address to what lies there; a judgement J over the kit's W, whose rows speak of that function alone. -/
abbrev jE : Type := (Nat × vp_A) ⊕ (Nat × List Value)
abbrev jH : Type := Nat → Option jE
/-- classes and slots, array classes by kind, the empty list's shared array -/
abbrev jG : Type := va_G × (Nat → ClassId) × Nat × Nat
def jv_cl : List vw_C := [(RX0, TX0, 4), (RX1, TX1, 8), (RX3, TX3, 2), (RX4, TX4, 4), (RX5, TX5, 6), (RX6, TX6, 6), (RX7, TX7, 2), (RX8, TX8, 2), (RX9, TX9, 6), (RX10, TX10, 5), (RX11, TX11, 5), (RX12, TX12, 27), (RJx4a65c, TJx4a65c, 3)]
def jv_aty : Nat → FieldType := fun k => match k with
  | 0 => .int
  | 1 => .byte
  | 2 => .boolean
  | 3 => .long
  | 4 => .object "java/lang/Object"
  | _ => .object "RankedSearch$Term"
def jv_tys (G : jG) : List (ClassId × FieldType) := [(G.2.1 0, .int), (G.2.1 1, .byte), (G.2.1 2, .boolean), (G.2.1 3, .long), (G.2.1 4, .object "java/lang/Object"), (G.2.1 5, .object "RankedSearch$Term")]
def jv_cv (G : jG) : jE → va_E
  | .inl x => .inl (G.2.1 x.1, x.2)
  | .inr o => .inr o
def jv_R (G : jG) (h : jH) (H : Heap) : Prop := ∀ (a : Nat) (x : jE), h a = some x → va_at G.1 jv_cl (a, jv_cv G x) H
def jv_K (G : jG) (U : State) : Prop := va_K G.1 jv_cl (jv_tys G) U
def jv_A (h : jH) (sz : Nat) : Nat → Prop := fun q => h q ≠ none ∨ sz ≤ q
/-- what lies outside: two statics of Throwable, the empty list's array and the static that holds it -/
def jv_X (G : jG) (A : Nat → Prop) (U : State) (H : Heap) : Prop :=
  vx_Zq Bundle.tN "UNASSIGNED_STACK" Bundle.steD A U H ∧ vx_Zq Bundle.tN "SUPPRESSED_SENTINEL" Bundle.listD A U H ∧
  va_Z "java/util/ArrayList" "DEFAULTCAPACITY_EMPTY_ELEMENTDATA" "[Ljava/lang/Object;" (.ref G.2.2.1) A U H ∧ va_T (.object "java/lang/Object") G.2.2.1 0 (fun _ => .null) A U H ∧ va_Mi "[Ljava/lang/Object;" G.2.2.2 U
theorem jv_X.moved {G : jG} {A : Nat → Prop} {u U : State} {H : Heap} (hvm : u.vm.Alike U.vm) (h : jv_X G A u H) : jv_X G A U H := ⟨vx_Zq.moved hvm h.1, vx_Zq.moved hvm h.2.1, va_Z.moved hvm h.2.2.1, va_T.moved hvm h.2.2.2.1, va_Mi.moved hvm h.2.2.2.2⟩
theorem jv_X.kept {G : jG} {A : Nat → Prop} {U : State} {H H1 : Heap} (h : jv_X G A U H) (hq : ∀ a : Nat, a < H.size → ¬ A a → H1[a]? = H[a]?) : jv_X G A U H1 := ⟨vx_Zq.kept h.1 hq, vx_Zq.kept h.2.1 hq, va_Z.kept h.2.2.1 hq, va_T.kept h.2.2.2.1 hq, h.2.2.2.2⟩
theorem jv_X.narrow {G : jG} {A B : Nat → Prop} {U : State} {H : Heap} (h : jv_X G A U H) (hAB : ∀ q, B q → A q) : jv_X G B U H := ⟨vx_Zq.narrow h.1 hAB, vx_Zq.narrow h.2.1 hAB, va_Z.narrow h.2.2.1 hAB, va_T.narrow h.2.2.2.1 hAB, h.2.2.2.2⟩
-- the words, all of them, for every method
def jv_T : List Cond := lw_tbl.filter goodWord
theorem jv_Tm {w : Cond} (h : w ∈ lw_tbl) (hg : goodWord w = true) : w ∈ jv_T := List.mem_filter.mpr ⟨h, hg⟩
theorem jv_Tt {w : Cond} (i : Nat) (h : tables_1[i]? = some w) (hg : goodWord w = true) : w ∈ jv_T := jv_Tm (List.mem_append_right _ (List.mem_of_getElem? h)) hg
theorem jv_Tp {w : Cond} (i : Nat) (h : (k2_sels lw_privs)[i]? = some w) (hg : goodWord w = true) : w ∈ jv_T := jv_Tm (List.mem_append_left _ (List.mem_of_getElem? h)) hg
theorem jv_good {w : Cond} (h : w ∈ jv_T) : (w.onTables && w.keeps) = true ∨ ∃ ty, w = .arrayClass ty := good_of_word (List.mem_filter.mp h).2
-- words that the kit's lists don't take: kept by a warmer machine, kind by kind
def jv_kind : Cond → Bool
  | .fieldLinkNest _ _ _ _ _ _ => true
  | .methodLinkNest _ _ _ _ => true
  | .castable _ _ => true
  | .declares _ => true
  | .arrayOver (.object _) => true
  | _ => false
def jv_NL : List Cond := tables_1.filter jv_kind
def jv_N (U : State) : Prop := ∀ w ∈ jv_NL, va_Nw w U
theorem jv_Nm {w : Cond} (i : Nat) (h : tables_1[i]? = some w) (hg : jv_kind w = true) : w ∈ jv_NL := List.mem_filter.mpr ⟨List.mem_of_getElem? h, hg⟩
theorem jv_N.warm {s U : State} (hW : s.WarmedH U.vm) (h : jv_N s) : jv_N U := by
  intro w hw
  have h1 := h w hw
  have hk := (List.mem_filter.mp hw).2
  cases w with
  | arrayOver ty => cases ty with
    | object C => exact va_AO.moved hW.alike h1
    | _ => exact absurd (show false = true from hk) Bool.false_ne_true
  | fieldLinkNest _ _ _ _ _ _ => exact va_Nw.warmF hW h1
  | methodLinkNest _ _ _ _ => exact va_Nw.warmM hW h1
  | castable _ _ => exact va_Nw.warmC hW h1
  | declares _ => exact va_Nw.warmD hW h1
  | _ => exact absurd (show false = true from hk) Bool.false_ne_true
theorem jv_N.use {s : State} (h : jv_N s) {w : Cond} (hw : w ∈ jv_NL) {args : Array Value} : w.before args s = true := by
  have h1 := h w hw
  have hk := (List.mem_filter.mp hw).2
  cases w with
  | arrayOver ty => cases ty with
    | object C => exact va_AO.use h1
    | _ => exact absurd (show false = true from hk) Bool.false_ne_true
  | fieldLinkNest _ _ _ _ _ _ => exact va_Nw.use rfl h1
  | methodLinkNest _ _ _ _ => exact va_Nw.use rfl h1
  | castable _ _ => exact va_Nw.use rfl h1
  | declares _ => exact va_Nw.use rfl h1
  | _ => exact absurd (show false = true from hk) Bool.false_ne_true
-- locals: a function
def jv_c1 : Option Value → Option Value
  | some (.long _) => none
  | some (.double _) => none
  | x => x
def jv_u1 (lv : Nat → Option Value) (i : Nat) (v : Value) : Nat → Option Value := fun j => bif Nat.beq j i then some v else bif Nat.beq (j + 1) i then jv_c1 (lv j) else lv j
def jv_u2 (lv : Nat → Option Value) (i : Nat) (v : Value) : Nat → Option Value := fun j => bif Nat.beq j i then some v else bif Nat.beq j (i + 1) then none else bif Nat.beq (j + 1) i then jv_c1 (lv j) else lv j
def jv_l : List (Nat × Value) → Nat → Option Value
  | [], _ => none
  | q :: t, i => bif Nat.beq i q.1 then some q.2 else jv_l t i
def jv_has (ls : Array Slot) (nL : Nat) (lv : Nat → Option Value) : Prop := ls.size = nL ∧ lv_wf ls ∧ ∀ (i : Nat) (v : Value), lv i = some v → ls[i]? = some (.val v)
def jv_ok : List (Nat × Value) → (Nat → Option Value) → Prop
  | [], _ => True
  | q :: t, f => f q.1 = some q.2 ∧ jv_ok t f
theorem jv_ok_at : ∀ {L : List (Nat × Value)} {f : Nat → Option Value}, jv_ok L f → ∀ (i : Nat) (v : Value), jv_l L i = some v → f i = some v
  | [], _, _, _, _, h => by cases h
  | q :: t, f, h, i, v, e => by
    unfold jv_l at e
    cases hb : Nat.beq i q.1 with
    | true =>
      rw [hb] at e
      have := Nat.eq_of_beq_eq_true hb
      subst this
      cases e
      exact h.1
    | false =>
      rw [hb] at e
      exact jv_ok_at h.2 i v e
theorem jv_has.sub {ls : Array Slot} {nL : Nat} {lv : Nat → Option Value} (h : jv_has ls nL lv) {L : List (Nat × Value)} (hL : jv_ok L lv) : jv_has ls nL (jv_l L) := ⟨h.1, h.2.1, fun i v e => h.2.2 i v (jv_ok_at hL i v e)⟩
theorem jv_has.lst {ls : Array Slot} {nL : Nat} {lv : Nat → Option Value} (h : jv_has ls nL lv) : lv_has ls nL ((List.range nL).filterMap (fun i => (lv i).map (fun v => (i, v)))) := by
  refine ⟨h.1, h.2.1, fun q hq => ?_⟩
  obtain ⟨i, -, hi⟩ := List.mem_filterMap.mp hq
  cases hv : lv i with
  | none => rw [hv] at hi; cases hi
  | some v => rw [hv] at hi; cases hi; exact h.2.2 i v hv
theorem jv_has.mem {ls : Array Slot} {nL : Nat} {lv : Nat → Option Value} (h : jv_has ls nL lv) {i : Nat} {v : Value} (e : lv i = some v) : (i, v) ∈ (List.range nL).filterMap (fun i => (lv i).map (fun v => (i, v))) := by
  have h1 := h.2.2 i v e
  have h2 : i < nL := by rw [← h.1]; exact lv_lt h1
  exact List.mem_filterMap.mpr ⟨i, List.mem_range.mpr h2, by rw [e]; rfl⟩
theorem jv_c1_some {x : Option Value} {v : Value} (h : jv_c1 x = some v) : x = some v ∧ v.category ≠ 2 := by
  unfold jv_c1 at h
  split at h
  · cases h
  · cases h
  · subst h
    refine ⟨rfl, ?_⟩
    cases v <;> simp_all [Value.category]
theorem jv_has.st1 {ls ls' : Array Slot} {nL i : Nat} {v : Value} {lv : Nat → Option Value} (h : jv_has ls nL lv) (h' : lv_has ls' nL ((i, v) :: ((List.range nL).filterMap (fun i => (lv i).map (fun v => (i, v)))).filter (fun q => !(q.1 == i) && !(q.1 + 1 == i && q.2.category == 2)))) : jv_has ls' nL (jv_u1 lv i v) := by
  refine ⟨h'.1, h'.2.1, fun j w e => ?_⟩
  unfold jv_u1 at e
  cases hb : Nat.beq j i with
  | true =>
    rw [hb] at e
    have := Nat.eq_of_beq_eq_true hb
    subst this
    cases e
    exact h'.2.2 (j, v) List.mem_cons_self
  | false =>
    rw [hb] at e
    have hne : j ≠ i := fun z => by subst z; rw [Nat.beq_refl] at hb; cases hb
    have key : lv j = some w ∧ (j + 1 = i → w.category ≠ 2) := by
      cases hc : Nat.beq (j + 1) i with
      | true =>
        rw [hc] at e
        have e := jv_c1_some e
        exact ⟨e.1, fun _ => e.2⟩
      | false =>
        rw [hc] at e
        exact ⟨e, fun z => by rw [z, Nat.beq_refl] at hc; cases hc⟩
    refine h'.2.2 (j, w) (List.mem_cons_of_mem _ (List.mem_filter.mpr ⟨h.mem key.1, ?_⟩))
    have h2 := key.2
    simp only [Bool.and_eq_true, Bool.not_eq_true', beq_eq_false_iff_ne, ne_eq, Bool.and_eq_false_iff]
    refine ⟨hne, ?_⟩
    by_cases z : j + 1 = i
    · exact Or.inr (h2 z)
    · exact Or.inl z
theorem jv_has.st2 {ls ls' : Array Slot} {nL i : Nat} {v : Value} {lv : Nat → Option Value} (h : jv_has ls nL lv) (h' : lv_has ls' nL ((i, v) :: ((List.range nL).filterMap (fun i => (lv i).map (fun v => (i, v)))).filter (fun q => !(q.1 == i) && (!(q.1 == i + 1) && !(q.1 + 1 == i && q.2.category == 2))))) : jv_has ls' nL (jv_u2 lv i v) := by
  refine ⟨h'.1, h'.2.1, fun j w e => ?_⟩
  unfold jv_u2 at e
  cases hb : Nat.beq j i with
  | true =>
    rw [hb] at e
    have := Nat.eq_of_beq_eq_true hb
    subst this
    cases e
    exact h'.2.2 (j, v) List.mem_cons_self
  | false =>
    rw [hb] at e
    have hne : j ≠ i := fun z => by subst z; rw [Nat.beq_refl] at hb; cases hb
    cases hb2 : Nat.beq j (i + 1) with
    | true => rw [hb2] at e; cases e
    | false =>
      rw [hb2] at e
      have hne2 : j ≠ i + 1 := fun z => by subst z; rw [Nat.beq_refl] at hb2; cases hb2
      have key : lv j = some w ∧ (j + 1 = i → w.category ≠ 2) := by
        cases hc : Nat.beq (j + 1) i with
        | true =>
          rw [hc] at e
          have e := jv_c1_some e
          exact ⟨e.1, fun _ => e.2⟩
        | false =>
          rw [hc] at e
          exact ⟨e, fun z => by rw [z, Nat.beq_refl] at hc; cases hc⟩
      refine h'.2.2 (j, w) (List.mem_cons_of_mem _ (List.mem_filter.mpr ⟨h.mem key.1, ?_⟩))
      have h2 := key.2
      simp only [Bool.and_eq_true, Bool.not_eq_true', beq_eq_false_iff_ne, ne_eq, Bool.and_eq_false_iff]
      refine ⟨hne, hne2, ?_⟩
      by_cases z : j + 1 = i
      · exact Or.inr (h2 z)
      · exact Or.inl z
-- the heap function
def jv_up (h : jH) (a : Nat) (x : jE) : jH := fun q => if q = a then some x else h q
theorem jv_up_at (h : jH) (a : Nat) (x : jE) : jv_up h a x a = some x := if_pos rfl
theorem jv_up_ne {h : jH} {a b : Nat} {x : jE} (e : b ≠ a) : jv_up h a x b = h b := if_neg e
theorem jv_up_of {h : jH} {a b : Nat} {x y : jE} (e : b ≠ a) (hb : h b = some y) : jv_up h a x b = some y := (if_neg e).trans hb
theorem jv_up_up (h : jH) (a : Nat) (x y : jE) : jv_up (jv_up h a x) a y = jv_up h a y := by
  funext q
  unfold jv_up
  by_cases e : q = a
  · rw [if_pos e, if_pos e]
  · rw [if_neg e, if_neg e, if_neg e]
theorem jv_up_id {h : jH} {a : Nat} {x : jE} (e : h a = some x) : jv_up h a x = h := by
  funext q
  unfold jv_up
  by_cases z : q = a
  · rw [if_pos z, z, e]
  · rw [if_neg z]
theorem jv_up_comm {h : jH} {a b : Nat} {x y : jE} (e : a ≠ b) : jv_up (jv_up h a x) b y = jv_up (jv_up h b y) a x := by
  funext q
  unfold jv_up
  by_cases z : q = b
  · rw [if_pos z, if_neg (fun w => e (w.symm.trans z)), if_pos z]
  · rw [if_neg z, if_neg z]
theorem jv_R.one {G : jG} {h : jH} {H : Heap} (hR : jv_R G h H) {a : Nat} {x : jE} (e : h a = some x) : va_P G.1 jv_cl [(a, jv_cv G x)] H := by
  intro k q hk
  have hz : k < 1 := (List.getElem?_eq_some_iff.mp hk).1
  rw [show k = 0 by omega] at hk
  cases hk
  exact hR a x e
theorem jv_R.put {G : jG} {h : jH} {H H1 : Heap} {a : Nat} {x : jE} (hR : jv_R G h H) (he : va_at G.1 jv_cl (a, jv_cv G x) H1) (oq : ∀ q : Nat, q ≠ a → H1[q]? = H[q]?) : jv_R G (jv_up h a x) H1 := by
  intro b y hb
  by_cases z : b = a
  · subst z
    rw [jv_up_at] at hb
    cases hb
    exact he
  · rw [jv_up_ne z] at hb
    exact (hR b y hb).kept (oq b z)
theorem jv_R.grow {G : jG} {h : jH} {H H1 : Heap} {x : jE} (hR : jv_R G h H) (he : va_at G.1 jv_cl (H.size, jv_cv G x) H1) (oq : ∀ q : Nat, q < H.size → H1[q]? = H[q]?) : jv_R G (jv_up h H.size x) H1 := by
  intro b y hb
  by_cases z : b = H.size
  · subst z
    rw [jv_up_at] at hb
    cases hb
    exact he
  · rw [jv_up_ne z] at hb
    exact (hR b y hb).kept (oq b (hR b y hb).lt)
theorem jv_R.fresh {G : jG} {h : jH} {H : Heap} (hR : jv_R G h H) {q : Nat} (hq : H.size ≤ q) : h q = none := by
  cases e : h q with
  | none => rfl
  | some x => exact absurd (hR q x e).lt (Nat.not_lt.mpr hq)
theorem jv_dom {h : jH} {A : Nat → Prop} {a : Nat} {x : jE} (hA : ∀ q, h q ≠ none → A q) (ha : A a) : ∀ q, jv_up h a x q ≠ none → A q := by
  intro q hq
  by_cases z : q = a
  · rw [z]; exact ha
  · rw [jv_up_ne z] at hq; exact hA q hq
-- the judgement
abbrev jT : Type := Program × Launch × Env × Room × State × MethodId × Array Value × List Frame × Method × Code × jG × (Nat → Prop) × (State → Prop)
def J (K : jT) (cells slots pc : Nat) (lv : Nat → Option Value) (st : List Value) (h : jH) : Prop := match K with
  | (p, l, e, R, s, m, args, below, meth, c, G, A, Q) => ∀ (H : Heap) (locs : List Loc) (ls : Array Slot), jv_has ls c.maxLocals lv → jv_R G h H → (∀ q, h q ≠ none → A q) → va_S A s.heap H locs → W p l e R s m args below meth c H locs cells slots Q (F0 m pc ls st)
/-- what is known in a method's body, all along -/
def JC (K : jT) (cc : ByteArray) (nL : Nat) (own : String) (fr mc ms : Nat) : Prop := match K with
  | (p, l, e, R, s, m, args, below, meth, c, G, A, Q) => p.tables.exec = Jvm.exec ∧ c.code = cc ∧ c.maxLocals = nL ∧ s.vm.findClass own = some m.cls ∧ (∀ w ∈ jv_T, w.before args s = true) ∧ jv_K G s ∧ R = ({ frames := fr, cells := mc, slots := ms, locals := 50 * fr } : Room) ∧ jv_X G A s s.heap ∧ (∀ q, s.heap.size ≤ q → A q) ∧ jv_N s ∧ fr ≤ 1600 ∧ l.stackTraces = false
/-- a method's end -/
def JR (K : jT) (ret : Option FieldType) (mc ms : Nat) (h0 : jH) (post : Option Value → jH → Prop) : Prop := match K with
  | (p, l, e, R, s, m, args, below, meth, c, G, A, Q) => meth.locks = false ∧ meth.sig.returnType = ret ∧ (∀ q, jv_A h0 s.heap.size q ↔ A q) ∧ ∀ t, MQ below (fun _ st oc t => (∃ r h1, oc = .returned r ∧ post r h1 ∧ jv_R G h1 t.heap ∧ ∀ q, h1 q ≠ none → A q) ∧ va_F A st t) args s mc ms A t → Q t
/-- the name of the method -/
def JI (K : jT) (nm : String) : Prop := match K with
  | (p, l, e, R, s, m, args, below, meth, c, G, A, Q) => meth.name = nm
/-- the empty list's array, as K has it; the launch beside it -/
abbrev jL : Type := Launch × Nat × Nat
def jv_lk (K : jT) : jL := match K with
  | (p, l, e, R, s, m, args, below, meth, c, G, A, Q) => (l, G.2.2)
def jv_Pc (G : jG) (As : List Value) (h : jH) (sz : Nat) : Array Value → State → Prop := va_Pc As (fun U => U.heap.size = sz ∧ jv_R G h U.heap ∧ jv_K G U ∧ jv_X G (jv_A h sz) U U.heap ∧ jv_N U)
def jv_Qc (G : jG) (h : jH) (sz : Nat) (post : Option Value → jH → Prop) : Array Value → State → Outcome → State → Prop := fun _ st oc t => (∃ r h1, oc = .returned r ∧ post r h1 ∧ jv_R G h1 t.heap ∧ ∀ q, h1 q ≠ none → jv_A h sz q) ∧ va_F (jv_A h sz) st t
/-- THE CONTRACT: called with As over the world h, it returns, and post says what and over which world -/
def Cn (l : jL) (y : MethodName) (cc : ByteArray) (nL : Nat) (ret : Option FieldType) (fr mc ms : Nat) (As : List Value) (h : jH) (post : Option Value → jH → Prop) : Prop :=
  l.1.stackTraces = false → ∀ (G : jG) (sz : Nat), G.2.2 = l.2 → Met l.1 y (Cond.code y cc nL ret :: jv_T) ({ frames := fr, cells := mc, slots := ms, locals := 50 * fr } : Room) (jv_Pc G As h sz) (jv_Qc G h sz post) mc ms (jv_A h sz)
theorem jv_Pc_blind {G : jG} {As : List Value} {h : jH} {sz : Nat} : FrameBlind (jv_Pc G As h sz) := by
  intro a U g mk q
  obtain ⟨q0, q1, q2, q3, q4, q5⟩ := q
  exact ⟨q0, q1, q2, va_K.moved (u := U) (U := U.calling g mk a) (Vm.Alike.refl U.vm) q3, jv_X.moved (u := U) (U := U.calling g mk a) (Vm.Alike.refl U.vm) q4, jv_N.warm (s := U) (U := U.calling g mk a) (State.WarmedH.refl U) q5⟩
theorem jv_args_at : ∀ (L : List (Nat × Value)) (i : Nat) (v : Value), jv_l L i = some v → (i, v) ∈ L
  | [], _, _, h => by cases h
  | q :: t, i, v, e => by
    unfold jv_l at e
    cases hb : Nat.beq i q.1 with
    | true =>
      rw [hb] at e
      have := Nat.eq_of_beq_eq_true hb
      subst this
      cases e
      exact List.mem_cons_self
    | false =>
      rw [hb] at e
      exact List.mem_cons_of_mem _ (jv_args_at t i v e)
/-- a contract, by its body -/
theorem Cn.of {l : jL} {y : MethodName} {cc : ByteArray} {nL : Nat} {ret : Option FieldType} {fr mc ms : Nat} {As : List Value} {h : jH} {post : Option Value → jH → Prop} {own : String} (ho : y.cls = own) (hy : plainName own = true) (hn : (lg_sl As).length ≤ nL) (hfr : fr ≤ 1600)
    (body : ∀ K : jT, jv_lk K = l → JC K cc nL own fr mc ms → JR K ret mc ms h post → JI K y.name → J K 0 0 0 (jv_l (lv_args 0 As)) [] h) : Cn l y cc nL ret fr mc ms As h post := by
  subst ho
  intro hst G sz hG
  refine Met.ofW (cc := cc) (maxL := nL) (ret := ret) hy rfl ?_
  intro p e s m args below meth c s₁ B hml hv
  obtain ⟨rfl, hsz, hR, hK, hX, hN⟩ := hv
  subst hsz
  have hts := atoms_spec (ws := Cond.code y cc nL ret :: jv_T) B.pre
  have hl := lv_entry As (n := nL) hn
  rw [lg_entry_eq]
  generalize (lg_sl As ++ List.replicate (nL - (lg_sl As).length) Slot.unset).toArray = ls at hl ⊢
  have h2 : jv_has ls c.maxLocals (jv_l (lv_args 0 As)) := by
    rw [hml]
    exact ⟨hl.1, hl.2.1, fun i v e => hl.2.2 (i, v) (jv_args_at _ i v e)⟩
  refine body (p, l.1, e, _, s, m, As.toArray, below, meth, c, G, jv_A h s.heap.size, _) (by show (l.1, G.2.2) = l; rw [hG]) ⟨B.exec, B.bytes, hml, findClass_of_methodNamed B.named, fun w hw => hts w (List.mem_cons_of_mem _ hw), hK, rfl, hX, fun q hq => Or.inr hq, hN, hfr, hst⟩ ⟨B.notSynchronized, B.returns, fun q => Iff.rfl, fun t ht => ht⟩ (name_of_methodNamed B.named B.method).1 s.heap [] ls h2 hR (fun q hq => Or.inl hq) va_S.rf
section JROWS
variable {K : jT} {cc : ByteArray} {nL fr mc ms cells slots pc : Nat} {own : String} {lv : Nat → Option Value} {rest : List Value} {h : jH}

theorem J_iadd (C : JC K cc nL own fr mc ms) {x y : Int32} (d : decode cc pc = .ok (.iadd, 1)) (k : J K cells slots (pc + 1) lv (.int (x + y) :: rest) h) : J K cells slots pc lv (.int y :: .int x :: rest) h := by
  obtain ⟨p, l, e, R, s, m, args, below, meth, c, G, A, Q⟩ := K
  intro H locs ls hl hR hA hS
  exact lv_iadd C.1 C.2.1 d (k H locs ls hl hR hA hS)
theorem J_isub (C : JC K cc nL own fr mc ms) {x y : Int32} (d : decode cc pc = .ok (.isub, 1)) (k : J K cells slots (pc + 1) lv (.int (x - y) :: rest) h) : J K cells slots pc lv (.int y :: .int x :: rest) h := by
  obtain ⟨p, l, e, R, s, m, args, below, meth, c, G, A, Q⟩ := K
  intro H locs ls hl hR hA hS
  exact lv_isub C.1 C.2.1 d (k H locs ls hl hR hA hS)
theorem J_imul (C : JC K cc nL own fr mc ms) {x y : Int32} (d : decode cc pc = .ok (.imul, 1)) (k : J K cells slots (pc + 1) lv (.int (x * y) :: rest) h) : J K cells slots pc lv (.int y :: .int x :: rest) h := by
  obtain ⟨p, l, e, R, s, m, args, below, meth, c, G, A, Q⟩ := K
  intro H locs ls hl hR hA hS
  exact lv_imul C.1 C.2.1 d (k H locs ls hl hR hA hS)
theorem J_iand (C : JC K cc nL own fr mc ms) {x y : Int32} (d : decode cc pc = .ok (.iand, 1)) (k : J K cells slots (pc + 1) lv (.int (x &&& y) :: rest) h) : J K cells slots pc lv (.int y :: .int x :: rest) h := by
  obtain ⟨p, l, e, R, s, m, args, below, meth, c, G, A, Q⟩ := K
  intro H locs ls hl hR hA hS
  exact lv_iand C.1 C.2.1 d (k H locs ls hl hR hA hS)
theorem J_ior (C : JC K cc nL own fr mc ms) {x y : Int32} (d : decode cc pc = .ok (.ior, 1)) (k : J K cells slots (pc + 1) lv (.int (x ||| y) :: rest) h) : J K cells slots pc lv (.int y :: .int x :: rest) h := by
  obtain ⟨p, l, e, R, s, m, args, below, meth, c, G, A, Q⟩ := K
  intro H locs ls hl hR hA hS
  exact lv_ior C.1 C.2.1 d (k H locs ls hl hR hA hS)
theorem J_ishl (C : JC K cc nL own fr mc ms) {x y : Int32} (d : decode cc pc = .ok (.ishl, 1)) (k : J K cells slots (pc + 1) lv (.int (x <<< (y &&& 31)) :: rest) h) : J K cells slots pc lv (.int y :: .int x :: rest) h := by
  obtain ⟨p, l, e, R, s, m, args, below, meth, c, G, A, Q⟩ := K
  intro H locs ls hl hR hA hS
  exact lv_ishl C.1 C.2.1 d (k H locs ls hl hR hA hS)
theorem J_ishr (C : JC K cc nL own fr mc ms) {x y : Int32} (d : decode cc pc = .ok (.ishr, 1)) (k : J K cells slots (pc + 1) lv (.int (x >>> (y &&& 31)) :: rest) h) : J K cells slots pc lv (.int y :: .int x :: rest) h := by
  obtain ⟨p, l, e, R, s, m, args, below, meth, c, G, A, Q⟩ := K
  intro H locs ls hl hR hA hS
  exact lv_ishr C.1 C.2.1 d (k H locs ls hl hR hA hS)
theorem J_idiv (C : JC K cc nL own fr mc ms) {x y : Int32} (hne : ¬ y = 0) (d : decode cc pc = .ok (.idiv, 1)) (k : J K cells slots (pc + 1) lv (.int (x / y) :: rest) h) : J K cells slots pc lv (.int y :: .int x :: rest) h := by
  obtain ⟨p, l, e, R, s, m, args, below, meth, c, G, A, Q⟩ := K
  intro H locs ls hl hR hA hS
  exact lv_idiv C.1 C.2.1 d hne (k H locs ls hl hR hA hS)
theorem J_lsub (C : JC K cc nL own fr mc ms) {x y : Int64} (d : decode cc pc = .ok (.lsub, 1)) (k : J K cells slots (pc + 1) lv (.long (x - y) :: rest) h) : J K cells slots pc lv (.long y :: .long x :: rest) h := by
  obtain ⟨p, l, e, R, s, m, args, below, meth, c, G, A, Q⟩ := K
  intro H locs ls hl hR hA hS
  exact lv_lsub C.1 C.2.1 d (k H locs ls hl hR hA hS)
theorem J_land (C : JC K cc nL own fr mc ms) {x y : Int64} (d : decode cc pc = .ok (.land, 1)) (k : J K cells slots (pc + 1) lv (.long (x &&& y) :: rest) h) : J K cells slots pc lv (.long y :: .long x :: rest) h := by
  obtain ⟨p, l, e, R, s, m, args, below, meth, c, G, A, Q⟩ := K
  intro H locs ls hl hR hA hS
  exact lv_land C.1 C.2.1 d (k H locs ls hl hR hA hS)
theorem J_lor (C : JC K cc nL own fr mc ms) {x y : Int64} (d : decode cc pc = .ok (.lor, 1)) (k : J K cells slots (pc + 1) lv (.long (x ||| y) :: rest) h) : J K cells slots pc lv (.long y :: .long x :: rest) h := by
  obtain ⟨p, l, e, R, s, m, args, below, meth, c, G, A, Q⟩ := K
  intro H locs ls hl hR hA hS
  exact lv_lor C.1 C.2.1 d (k H locs ls hl hR hA hS)
theorem J_lxor (C : JC K cc nL own fr mc ms) {x y : Int64} (d : decode cc pc = .ok (.lxor, 1)) (k : J K cells slots (pc + 1) lv (.long (x ^^^ y) :: rest) h) : J K cells slots pc lv (.long y :: .long x :: rest) h := by
  obtain ⟨p, l, e, R, s, m, args, below, meth, c, G, A, Q⟩ := K
  intro H locs ls hl hR hA hS
  exact lv_lxor C.1 C.2.1 d (k H locs ls hl hR hA hS)
theorem J_lshl (C : JC K cc nL own fr mc ms) {x : Int64} {y : Int32} (d : decode cc pc = .ok (.lshl, 1)) (k : J K cells slots (pc + 1) lv (.long (x <<< (y.toInt64 &&& 63)) :: rest) h) : J K cells slots pc lv (.int y :: .long x :: rest) h := by
  obtain ⟨p, l, e, R, s, m, args, below, meth, c, G, A, Q⟩ := K
  intro H locs ls hl hR hA hS
  exact lv_lshl C.1 C.2.1 d rfl (k H locs ls hl hR hA hS)
theorem J_lshr (C : JC K cc nL own fr mc ms) {x : Int64} {y : Int32} (d : decode cc pc = .ok (.lshr, 1)) (k : J K cells slots (pc + 1) lv (.long (x >>> (y.toInt64 &&& 63)) :: rest) h) : J K cells slots pc lv (.int y :: .long x :: rest) h := by
  obtain ⟨p, l, e, R, s, m, args, below, meth, c, G, A, Q⟩ := K
  intro H locs ls hl hR hA hS
  exact lv_lshr C.1 C.2.1 d rfl (k H locs ls hl hR hA hS)
theorem J_lushr (C : JC K cc nL own fr mc ms) {x : Int64} {y : Int32} (d : decode cc pc = .ok (.lushr, 1)) (k : J K cells slots (pc + 1) lv (.long (x.toUInt64 >>> (y.toInt64.toUInt64 &&& Int64.toUInt64 63)).toInt64 :: rest) h) : J K cells slots pc lv (.int y :: .long x :: rest) h := by
  obtain ⟨p, l, e, R, s, m, args, below, meth, c, G, A, Q⟩ := K
  intro H locs ls hl hR hA hS
  exact lv_lushr C.1 C.2.1 d rfl (k H locs ls hl hR hA hS)
theorem J_i2l (C : JC K cc nL own fr mc ms) {x : Int32} (d : decode cc pc = .ok (.i2l, 1)) (k : J K cells slots (pc + 1) lv (.long x.toInt64 :: rest) h) : J K cells slots pc lv (.int x :: rest) h := by
  obtain ⟨p, l, e, R, s, m, args, below, meth, c, G, A, Q⟩ := K
  intro H locs ls hl hR hA hS
  exact lv_i2l C.1 C.2.1 d rfl (k H locs ls hl hR hA hS)
theorem J_l2i (C : JC K cc nL own fr mc ms) {x : Int64} (d : decode cc pc = .ok (.l2i, 1)) (k : J K cells slots (pc + 1) lv (.int x.toInt32 :: rest) h) : J K cells slots pc lv (.long x :: rest) h := by
  obtain ⟨p, l, e, R, s, m, args, below, meth, c, G, A, Q⟩ := K
  intro H locs ls hl hR hA hS
  exact lv_l2i C.1 C.2.1 d rfl (k H locs ls hl hR hA hS)
theorem J_i2b (C : JC K cc nL own fr mc ms) {x : Int32} (d : decode cc pc = .ok (.i2b, 1)) (k : J K cells slots (pc + 1) lv (.int x.toInt8.toInt32 :: rest) h) : J K cells slots pc lv (.int x :: rest) h := by
  obtain ⟨p, l, e, R, s, m, args, below, meth, c, G, A, Q⟩ := K
  intro H locs ls hl hR hA hS
  exact lv_i2b C.1 C.2.1 d rfl (k H locs ls hl hR hA hS)
theorem J_iconst (C : JC K cc nL own fr mc ms) {n : Int} {v : Int32} (hv : Int32.ofInt n = v) (d : decode cc pc = .ok (.iconst n, 1)) (k : J K cells slots (pc + 1) lv (.int v :: rest) h) : J K cells slots pc lv (rest) h := by
  obtain ⟨p, l, e, R, s, m, args, below, meth, c, G, A, Q⟩ := K
  intro H locs ls hl hR hA hS
  exact lv_iconst C.1 C.2.1 d hv (k H locs ls hl hR hA hS)
theorem J_bipush (C : JC K cc nL own fr mc ms) {n : Int} {v : Int32} (hv : (Int8.ofInt n).toInt32 = v) (d : decode cc pc = .ok (.bipush n, 2)) (k : J K cells slots (pc + 2) lv (.int v :: rest) h) : J K cells slots pc lv (rest) h := by
  obtain ⟨p, l, e, R, s, m, args, below, meth, c, G, A, Q⟩ := K
  intro H locs ls hl hR hA hS
  exact lv_bipush C.1 C.2.1 d hv (k H locs ls hl hR hA hS)
theorem J_sipush (C : JC K cc nL own fr mc ms) {n : Int} {v : Int32} (hv : (Int16.ofInt n).toInt32 = v) (d : decode cc pc = .ok (.sipush n, 3)) (k : J K cells slots (pc + 3) lv (.int v :: rest) h) : J K cells slots pc lv (rest) h := by
  obtain ⟨p, l, e, R, s, m, args, below, meth, c, G, A, Q⟩ := K
  intro H locs ls hl hR hA hS
  exact lv_sipush C.1 C.2.1 d hv (k H locs ls hl hR hA hS)
theorem J_lconst (C : JC K cc nL own fr mc ms) {n : Fin 2} {v : Int64} (hv : Int64.ofNat (n : Nat) = v) (d : decode cc pc = .ok (.lconst n, 1)) (k : J K cells slots (pc + 1) lv (.long v :: rest) h) : J K cells slots pc lv (rest) h := by
  obtain ⟨p, l, e, R, s, m, args, below, meth, c, G, A, Q⟩ := K
  intro H locs ls hl hR hA hS
  exact lv_lconst C.1 C.2.1 d hv (k H locs ls hl hR hA hS)
theorem J_null (C : JC K cc nL own fr mc ms)  (d : decode cc pc = .ok (.aconst_null, 1)) (k : J K cells slots (pc + 1) lv (.null :: rest) h) : J K cells slots pc lv (rest) h := by
  obtain ⟨p, l, e, R, s, m, args, below, meth, c, G, A, Q⟩ := K
  intro H locs ls hl hR hA hS
  exact lv_null C.1 C.2.1 d (k H locs ls hl hR hA hS)
theorem J_ldc (C : JC K cc nL own fr mc ms) {i : Nat} {v : Int32} (hw : Cond.constant own i v ∈ jv_T) (d : decode cc pc = .ok (.ldc i, 2)) (k : J K cells slots (pc + 2) lv (.int v :: rest) h) : J K cells slots pc lv (rest) h := by
  obtain ⟨p, l, e, R, s, m, args, below, meth, c, G, A, Q⟩ := K
  intro H locs ls hl hR hA hS
  exact lv_ldc C.1 C.2.1 C.2.2.2.1 (C.2.2.2.2.1 _ hw) d (k H locs ls hl hR hA hS)
theorem J_ldc2 (C : JC K cc nL own fr mc ms) {i : Nat} {v : Int64} (hw : Cond.constantLong own i v ∈ jv_T) (d : decode cc pc = .ok (.ldc2_w i, 3)) (k : J K cells slots (pc + 3) lv (.long v :: rest) h) : J K cells slots pc lv (rest) h := by
  obtain ⟨p, l, e, R, s, m, args, below, meth, c, G, A, Q⟩ := K
  intro H locs ls hl hR hA hS
  exact lv_ldc2 C.1 C.2.1 C.2.2.2.1 (C.2.2.2.2.1 _ hw) d (k H locs ls hl hR hA hS)
theorem J_iload_n (C : JC K cc nL own fr mc ms) {i : Fin 4} {x : Int32} (hv : lv (i : Nat) = some (.int x)) (d : decode cc pc = .ok (.iload_n i, 1)) (k : J K cells slots (pc + 1) lv (.int x :: rest) h) : J K cells slots pc lv (rest) h := by
  obtain ⟨p, l, e, R, s, m, args, below, meth, c, G, A, Q⟩ := K
  intro H locs ls hl hR hA hS
  exact lv_iload_n C.1 C.2.1 d rfl (hl.2.2 _ _ hv) (k H locs ls hl hR hA hS)
theorem J_iload (C : JC K cc nL own fr mc ms) {i : Nat} {x : Int32} (hv : lv i = some (.int x)) (d : decode cc pc = .ok (.iload i, 2)) (k : J K cells slots (pc + 2) lv (.int x :: rest) h) : J K cells slots pc lv (rest) h := by
  obtain ⟨p, l, e, R, s, m, args, below, meth, c, G, A, Q⟩ := K
  intro H locs ls hl hR hA hS
  exact lv_iload C.1 C.2.1 d (hl.2.2 _ _ hv) (k H locs ls hl hR hA hS)
theorem J_lload_n (C : JC K cc nL own fr mc ms) {i : Fin 4} {x : Int64} (hv : lv (i : Nat) = some (.long x)) (d : decode cc pc = .ok (.lload_n i, 1)) (k : J K cells slots (pc + 1) lv (.long x :: rest) h) : J K cells slots pc lv (rest) h := by
  obtain ⟨p, l, e, R, s, m, args, below, meth, c, G, A, Q⟩ := K
  intro H locs ls hl hR hA hS
  exact lv_lload_n C.1 C.2.1 d rfl (hl.2.2 _ _ hv) (k H locs ls hl hR hA hS)
theorem J_lload (C : JC K cc nL own fr mc ms) {i : Nat} {x : Int64} (hv : lv i = some (.long x)) (d : decode cc pc = .ok (.lload i, 2)) (k : J K cells slots (pc + 2) lv (.long x :: rest) h) : J K cells slots pc lv (rest) h := by
  obtain ⟨p, l, e, R, s, m, args, below, meth, c, G, A, Q⟩ := K
  intro H locs ls hl hR hA hS
  exact lv_lload C.1 C.2.1 d (hl.2.2 _ _ hv) (k H locs ls hl hR hA hS)
theorem J_aload_n (C : JC K cc nL own fr mc ms) {i : Fin 4} {x : Nat} (hv : lv (i : Nat) = some (.ref x)) (d : decode cc pc = .ok (.aload_n i, 1)) (k : J K cells slots (pc + 1) lv (.ref x :: rest) h) : J K cells slots pc lv (rest) h := by
  obtain ⟨p, l, e, R, s, m, args, below, meth, c, G, A, Q⟩ := K
  intro H locs ls hl hR hA hS
  exact lv_aload_n C.1 C.2.1 d rfl (hl.2.2 _ _ hv) (k H locs ls hl hR hA hS)
theorem J_aload (C : JC K cc nL own fr mc ms) {i : Nat} {x : Nat} (hv : lv i = some (.ref x)) (d : decode cc pc = .ok (.aload i, 2)) (k : J K cells slots (pc + 2) lv (.ref x :: rest) h) : J K cells slots pc lv (rest) h := by
  obtain ⟨p, l, e, R, s, m, args, below, meth, c, G, A, Q⟩ := K
  intro H locs ls hl hR hA hS
  exact lv_aload C.1 C.2.1 d (hl.2.2 _ _ hv) (k H locs ls hl hR hA hS)
theorem J_aload_nN (C : JC K cc nL own fr mc ms) {i : Fin 4} (hv : lv (i : Nat) = some .null) (d : decode cc pc = .ok (.aload_n i, 1)) (k : J K cells slots (pc + 1) lv (.null :: rest) h) : J K cells slots pc lv (rest) h := by
  obtain ⟨p, l, e, R, s, m, args, below, meth, c, G, A, Q⟩ := K
  intro H locs ls hl hR hA hS
  exact lv_aload_nN C.1 C.2.1 d rfl (hl.2.2 _ _ hv) (k H locs ls hl hR hA hS)
theorem J_aload_nq (C : JC K cc nL own fr mc ms) {i : Fin 4} {x : Option Nat} (hv : lv (i : Nat) = some (va_rf x)) (d : decode cc pc = .ok (.aload_n i, 1)) (k : J K cells slots (pc + 1) lv (va_rf x :: rest) h) : J K cells slots pc lv rest h := by
  cases x with
  | none => exact J_aload_nN C hv d k
  | some a => exact J_aload_n C hv d k
theorem J_aloadN (C : JC K cc nL own fr mc ms) {i : Nat} (hv : lv i = some .null) (d : decode cc pc = .ok (.aload i, 2)) (k : J K cells slots (pc + 2) lv (.null :: rest) h) : J K cells slots pc lv (rest) h := by
  obtain ⟨p, l, e, R, s, m, args, below, meth, c, G, A, Q⟩ := K
  intro H locs ls hl hR hA hS
  exact lv_aloadN C.1 C.2.1 d (hl.2.2 _ _ hv) (k H locs ls hl hR hA hS)
theorem J_aloadq (C : JC K cc nL own fr mc ms) {i : Nat} {x : Option Nat} (hv : lv i = some (va_rf x)) (d : decode cc pc = .ok (.aload i, 2)) (k : J K cells slots (pc + 2) lv (va_rf x :: rest) h) : J K cells slots pc lv rest h := by
  cases x with
  | none => exact J_aloadN C hv d k
  | some a => exact J_aload C hv d k
theorem J_istore_n (C : JC K cc nL own fr mc ms) {i : Fin 4} {x : Int32} (hn : (i : Nat) < nL) (d : decode cc pc = .ok (.istore_n i, 1)) (k : J K cells slots (pc + 1) (jv_u1 lv (i : Nat) (.int x)) rest h) : J K cells slots pc lv (.int x :: rest) h := by
  obtain ⟨p, l, e, R, s, m, args, below, meth, c, G, A, Q⟩ := K
  intro H locs ls hl hR hA hS
  exact lv_istore_n C.1 C.2.1 d rfl hl.lst (C.2.2.1 ▸ hn) rfl (fun ls1 hl1 => k H locs ls1 (hl.st1 hl1) hR hA hS)
theorem J_lstore_n (C : JC K cc nL own fr mc ms) {i : Fin 4} {x : Int64} (hn : (i : Nat) + 1 < nL) (d : decode cc pc = .ok (.lstore_n i, 1)) (k : J K cells slots (pc + 1) (jv_u2 lv (i : Nat) (.long x)) rest h) : J K cells slots pc lv (.long x :: rest) h := by
  obtain ⟨p, l, e, R, s, m, args, below, meth, c, G, A, Q⟩ := K
  intro H locs ls hl hR hA hS
  exact lv_lstore_n C.1 C.2.1 d rfl hl.lst (C.2.2.1 ▸ hn) rfl (fun ls1 hl1 => k H locs ls1 (hl.st2 hl1) hR hA hS)
theorem J_astore_n (C : JC K cc nL own fr mc ms) {i : Fin 4} {x : Nat} (hn : (i : Nat) < nL) (d : decode cc pc = .ok (.astore_n i, 1)) (k : J K cells slots (pc + 1) (jv_u1 lv (i : Nat) (.ref x)) rest h) : J K cells slots pc lv (.ref x :: rest) h := by
  obtain ⟨p, l, e, R, s, m, args, below, meth, c, G, A, Q⟩ := K
  intro H locs ls hl hR hA hS
  exact lv_astore_n C.1 C.2.1 d rfl hl.lst (C.2.2.1 ▸ hn) rfl (fun ls1 hl1 => k H locs ls1 (hl.st1 hl1) hR hA hS)
theorem J_istore (C : JC K cc nL own fr mc ms) {i : Nat} {x : Int32} (hn : i < nL) (d : decode cc pc = .ok (.istore i, 2)) (k : J K cells slots (pc + 2) (jv_u1 lv i (.int x)) rest h) : J K cells slots pc lv (.int x :: rest) h := by
  obtain ⟨p, l, e, R, s, m, args, below, meth, c, G, A, Q⟩ := K
  intro H locs ls hl hR hA hS
  exact lv_istore C.1 C.2.1 d hl.lst (C.2.2.1 ▸ hn) rfl (fun ls1 hl1 => k H locs ls1 (hl.st1 hl1) hR hA hS)
theorem J_lstore (C : JC K cc nL own fr mc ms) {i : Nat} {x : Int64} (hn : i + 1 < nL) (d : decode cc pc = .ok (.lstore i, 2)) (k : J K cells slots (pc + 2) (jv_u2 lv i (.long x)) rest h) : J K cells slots pc lv (.long x :: rest) h := by
  obtain ⟨p, l, e, R, s, m, args, below, meth, c, G, A, Q⟩ := K
  intro H locs ls hl hR hA hS
  exact lv_lstore C.1 C.2.1 d hl.lst (C.2.2.1 ▸ hn) rfl (fun ls1 hl1 => k H locs ls1 (hl.st2 hl1) hR hA hS)
theorem J_astore (C : JC K cc nL own fr mc ms) {i : Nat} {x : Nat} (hn : i < nL) (d : decode cc pc = .ok (.astore i, 2)) (k : J K cells slots (pc + 2) (jv_u1 lv i (.ref x)) rest h) : J K cells slots pc lv (.ref x :: rest) h := by
  obtain ⟨p, l, e, R, s, m, args, below, meth, c, G, A, Q⟩ := K
  intro H locs ls hl hR hA hS
  exact lv_astore C.1 C.2.1 d hl.lst (C.2.2.1 ▸ hn) rfl (fun ls1 hl1 => k H locs ls1 (hl.st1 hl1) hR hA hS)
theorem J_astore_nN (C : JC K cc nL own fr mc ms) {i : Fin 4} (hn : (i : Nat) < nL) (d : decode cc pc = .ok (.astore_n i, 1)) (k : J K cells slots (pc + 1) (jv_u1 lv (i : Nat) .null) rest h) : J K cells slots pc lv (.null :: rest) h := by
  obtain ⟨p, l, e, R, s, m, args, below, meth, c, G, A, Q⟩ := K
  intro H locs ls hl hR hA hS
  exact lv_astore_nN C.1 C.2.1 d rfl hl.lst (C.2.2.1 ▸ hn) rfl (fun ls1 hl1 => k H locs ls1 (hl.st1 hl1) hR hA hS)
theorem J_astore_nq (C : JC K cc nL own fr mc ms) {i : Fin 4} {x : Option Nat} (hn : (i : Nat) < nL) (d : decode cc pc = .ok (.astore_n i, 1)) (k : J K cells slots (pc + 1) (jv_u1 lv (i : Nat) (va_rf x)) rest h) : J K cells slots pc lv (va_rf x :: rest) h := by
  cases x with
  | none => exact J_astore_nN C hn d k
  | some a => exact J_astore_n C hn d k
theorem J_astoreN (C : JC K cc nL own fr mc ms) {i : Nat} (hn : i < nL) (d : decode cc pc = .ok (.astore i, 2)) (k : J K cells slots (pc + 2) (jv_u1 lv i .null) rest h) : J K cells slots pc lv (.null :: rest) h := by
  obtain ⟨p, l, e, R, s, m, args, below, meth, c, G, A, Q⟩ := K
  intro H locs ls hl hR hA hS
  exact lv_astoreN C.1 C.2.1 d hl.lst (C.2.2.1 ▸ hn) rfl (fun ls1 hl1 => k H locs ls1 (hl.st1 hl1) hR hA hS)
theorem J_astoreq (C : JC K cc nL own fr mc ms) {i : Nat} {x : Option Nat} (hn : i < nL) (d : decode cc pc = .ok (.astore i, 2)) (k : J K cells slots (pc + 2) (jv_u1 lv i (va_rf x)) rest h) : J K cells slots pc lv (va_rf x :: rest) h := by
  cases x with
  | none => exact J_astoreN C hn d k
  | some a => exact J_astore C hn d k
theorem J_iinc (C : JC K cc nL own fr mc ms) {i : Nat} {n : Int} {x : Int32} (hv : lv i = some (.int x)) (hn : i < nL) (d : decode cc pc = .ok (.iinc i n, 3)) (k : J K cells slots (pc + 3) (jv_u1 lv i (.int (x + Int32.ofInt n))) rest h) : J K cells slots pc lv rest h := by
  obtain ⟨p, l, e, R, s, m, args, below, meth, c, G, A, Q⟩ := K
  intro H locs ls hl hR hA hS
  obtain ⟨q, hq⟩ := List.getElem?_of_mem (hl.mem hv)
  exact lv_iinc C.1 C.2.1 d hl.lst hq rfl (C.2.2.1 ▸ hn) rfl (fun ls1 hl1 => k H locs ls1 (hl.st1 hl1) hR hA hS)
theorem J_dup (C : JC K cc nL own fr mc ms) {v : Value} (hc : v.category = 1) (d : decode cc pc = .ok (.dup, 1)) (k : J K cells slots (pc + 1) lv (v :: v :: rest) h) : J K cells slots pc lv (v :: rest) h := by
  obtain ⟨p, l, e, R, s, m, args, below, meth, c, G, A, Q⟩ := K
  intro H locs ls hl hR hA hS
  exact lv_dup C.1 C.2.1 d hc (k H locs ls hl hR hA hS)
theorem J_pop (C : JC K cc nL own fr mc ms) {v : Value} (hc : v.category = 1) (d : decode cc pc = .ok (.pop, 1)) (k : J K cells slots (pc + 1) lv (rest) h) : J K cells slots pc lv (v :: rest) h := by
  obtain ⟨p, l, e, R, s, m, args, below, meth, c, G, A, Q⟩ := K
  intro H locs ls hl hR hA hS
  exact lv_pop C.1 C.2.1 d hc (k H locs ls hl hR hA hS)
theorem J_dup2 (C : JC K cc nL own fr mc ms) {v w : Value} (hc : v.category = 1) (hc2 : w.category = 1) (d : decode cc pc = .ok (.dup2, 1)) (k : J K cells slots (pc + 1) lv (v :: w :: v :: w :: rest) h) : J K cells slots pc lv (v :: w :: rest) h := by
  obtain ⟨p, l, e, R, s, m, args, below, meth, c, G, A, Q⟩ := K
  intro H locs ls hl hR hA hS
  exact lv_dup2_11 C.1 C.2.1 d hc hc2 (k H locs ls hl hR hA hS)
theorem J_lcmp (C : JC K cc nL own fr mc ms) {x y : Int64} (d : decode cc pc = .ok (.lcmp, 1)) (k : J K cells slots (pc + 1) lv (.int (lg_cmp x y) :: rest) h) : J K cells slots pc lv (.long y :: .long x :: rest) h := by
  obtain ⟨p, l, e, R, s, m, args, below, meth, c, G, A, Q⟩ := K
  intro H locs ls hl hR hA hS
  exact W.lcmp C.1 C.2.1 d (k H locs ls hl hR hA hS)
theorem J_goto (C : JC K cc nL own fr mc ms) {off : Int} (tgt : Nat) (ht : (pc : Int) + off = (tgt : Int)) (d : decode cc pc = .ok (.goto off, 3)) (k : J K cells slots tgt lv rest h) : J K cells slots pc lv (rest) h := by
  obtain ⟨p, l, e, R, s, m, args, below, meth, c, G, A, Q⟩ := K
  intro H locs ls hl hR hA hS
  exact lv_goto C.1 C.2.1 d ht (k H locs ls hl hR hA hS)
theorem J_icmp_eq (C : JC K cc nL own fr mc ms) {x y : Int32} {off : Int} (tgt : Nat) (ht : (pc : Int) + off = (tgt : Int)) (d : decode cc pc = .ok (.if_icmp .eq off, 3)) (kt : x = y → J K cells slots tgt lv rest h) (kf : ¬ x = y → J K cells slots (pc + 3) lv rest h) : J K cells slots pc lv (.int y :: .int x :: rest) h := by
  obtain ⟨p, l, e, R, s, m, args, below, meth, c, G, A, Q⟩ := K
  intro H locs ls hl hR hA hS
  exact lv_icmp_eq C.1 C.2.1 d ht (fun z => kt z H locs ls hl hR hA hS) (fun z => kf z H locs ls hl hR hA hS)
theorem J_if_eq (C : JC K cc nL own fr mc ms) {x : Int32} {off : Int} (tgt : Nat) (ht : (pc : Int) + off = (tgt : Int)) (d : decode cc pc = .ok (.ifCond .eq off, 3)) (kt : x = 0 → J K cells slots tgt lv rest h) (kf : ¬ x = 0 → J K cells slots (pc + 3) lv rest h) : J K cells slots pc lv (.int x :: rest) h := by
  obtain ⟨p, l, e, R, s, m, args, below, meth, c, G, A, Q⟩ := K
  intro H locs ls hl hR hA hS
  exact lv_if_eq C.1 C.2.1 d ht (fun z => kt z H locs ls hl hR hA hS) (fun z => kf z H locs ls hl hR hA hS)
theorem J_icmp_ne (C : JC K cc nL own fr mc ms) {x y : Int32} {off : Int} (tgt : Nat) (ht : (pc : Int) + off = (tgt : Int)) (d : decode cc pc = .ok (.if_icmp .ne off, 3)) (kt : ¬ x = y → J K cells slots tgt lv rest h) (kf : x = y → J K cells slots (pc + 3) lv rest h) : J K cells slots pc lv (.int y :: .int x :: rest) h := by
  obtain ⟨p, l, e, R, s, m, args, below, meth, c, G, A, Q⟩ := K
  intro H locs ls hl hR hA hS
  exact lv_icmp_ne C.1 C.2.1 d ht (fun z => kt z H locs ls hl hR hA hS) (fun z => kf z H locs ls hl hR hA hS)
theorem J_if_ne (C : JC K cc nL own fr mc ms) {x : Int32} {off : Int} (tgt : Nat) (ht : (pc : Int) + off = (tgt : Int)) (d : decode cc pc = .ok (.ifCond .ne off, 3)) (kt : ¬ x = 0 → J K cells slots tgt lv rest h) (kf : x = 0 → J K cells slots (pc + 3) lv rest h) : J K cells slots pc lv (.int x :: rest) h := by
  obtain ⟨p, l, e, R, s, m, args, below, meth, c, G, A, Q⟩ := K
  intro H locs ls hl hR hA hS
  exact lv_if_ne C.1 C.2.1 d ht (fun z => kt z H locs ls hl hR hA hS) (fun z => kf z H locs ls hl hR hA hS)
theorem J_icmp_lt (C : JC K cc nL own fr mc ms) {x y : Int32} {off : Int} (tgt : Nat) (ht : (pc : Int) + off = (tgt : Int)) (d : decode cc pc = .ok (.if_icmp .lt off, 3)) (kt : x < y → J K cells slots tgt lv rest h) (kf : ¬ x < y → J K cells slots (pc + 3) lv rest h) : J K cells slots pc lv (.int y :: .int x :: rest) h := by
  obtain ⟨p, l, e, R, s, m, args, below, meth, c, G, A, Q⟩ := K
  intro H locs ls hl hR hA hS
  exact lv_icmp_lt C.1 C.2.1 d ht (fun z => kt z H locs ls hl hR hA hS) (fun z => kf z H locs ls hl hR hA hS)
theorem J_if_lt (C : JC K cc nL own fr mc ms) {x : Int32} {off : Int} (tgt : Nat) (ht : (pc : Int) + off = (tgt : Int)) (d : decode cc pc = .ok (.ifCond .lt off, 3)) (kt : x < 0 → J K cells slots tgt lv rest h) (kf : ¬ x < 0 → J K cells slots (pc + 3) lv rest h) : J K cells slots pc lv (.int x :: rest) h := by
  obtain ⟨p, l, e, R, s, m, args, below, meth, c, G, A, Q⟩ := K
  intro H locs ls hl hR hA hS
  exact lv_if_lt C.1 C.2.1 d ht (fun z => kt z H locs ls hl hR hA hS) (fun z => kf z H locs ls hl hR hA hS)
theorem J_icmp_ge (C : JC K cc nL own fr mc ms) {x y : Int32} {off : Int} (tgt : Nat) (ht : (pc : Int) + off = (tgt : Int)) (d : decode cc pc = .ok (.if_icmp .ge off, 3)) (kt : y ≤ x → J K cells slots tgt lv rest h) (kf : ¬ y ≤ x → J K cells slots (pc + 3) lv rest h) : J K cells slots pc lv (.int y :: .int x :: rest) h := by
  obtain ⟨p, l, e, R, s, m, args, below, meth, c, G, A, Q⟩ := K
  intro H locs ls hl hR hA hS
  exact lv_icmp_ge C.1 C.2.1 d ht (fun z => kt z H locs ls hl hR hA hS) (fun z => kf z H locs ls hl hR hA hS)
theorem J_if_ge (C : JC K cc nL own fr mc ms) {x : Int32} {off : Int} (tgt : Nat) (ht : (pc : Int) + off = (tgt : Int)) (d : decode cc pc = .ok (.ifCond .ge off, 3)) (kt : 0 ≤ x → J K cells slots tgt lv rest h) (kf : ¬ 0 ≤ x → J K cells slots (pc + 3) lv rest h) : J K cells slots pc lv (.int x :: rest) h := by
  obtain ⟨p, l, e, R, s, m, args, below, meth, c, G, A, Q⟩ := K
  intro H locs ls hl hR hA hS
  exact lv_if_ge C.1 C.2.1 d ht (fun z => kt z H locs ls hl hR hA hS) (fun z => kf z H locs ls hl hR hA hS)
theorem J_icmp_gt (C : JC K cc nL own fr mc ms) {x y : Int32} {off : Int} (tgt : Nat) (ht : (pc : Int) + off = (tgt : Int)) (d : decode cc pc = .ok (.if_icmp .gt off, 3)) (kt : y < x → J K cells slots tgt lv rest h) (kf : ¬ y < x → J K cells slots (pc + 3) lv rest h) : J K cells slots pc lv (.int y :: .int x :: rest) h := by
  obtain ⟨p, l, e, R, s, m, args, below, meth, c, G, A, Q⟩ := K
  intro H locs ls hl hR hA hS
  exact lv_icmp_gt C.1 C.2.1 d ht (fun z => kt z H locs ls hl hR hA hS) (fun z => kf z H locs ls hl hR hA hS)
theorem J_if_gt (C : JC K cc nL own fr mc ms) {x : Int32} {off : Int} (tgt : Nat) (ht : (pc : Int) + off = (tgt : Int)) (d : decode cc pc = .ok (.ifCond .gt off, 3)) (kt : 0 < x → J K cells slots tgt lv rest h) (kf : ¬ 0 < x → J K cells slots (pc + 3) lv rest h) : J K cells slots pc lv (.int x :: rest) h := by
  obtain ⟨p, l, e, R, s, m, args, below, meth, c, G, A, Q⟩ := K
  intro H locs ls hl hR hA hS
  exact lv_if_gt C.1 C.2.1 d ht (fun z => kt z H locs ls hl hR hA hS) (fun z => kf z H locs ls hl hR hA hS)
theorem J_icmp_le (C : JC K cc nL own fr mc ms) {x y : Int32} {off : Int} (tgt : Nat) (ht : (pc : Int) + off = (tgt : Int)) (d : decode cc pc = .ok (.if_icmp .le off, 3)) (kt : x ≤ y → J K cells slots tgt lv rest h) (kf : ¬ x ≤ y → J K cells slots (pc + 3) lv rest h) : J K cells slots pc lv (.int y :: .int x :: rest) h := by
  obtain ⟨p, l, e, R, s, m, args, below, meth, c, G, A, Q⟩ := K
  intro H locs ls hl hR hA hS
  exact lv_icmp_le C.1 C.2.1 d ht (fun z => kt z H locs ls hl hR hA hS) (fun z => kf z H locs ls hl hR hA hS)
theorem J_if_le (C : JC K cc nL own fr mc ms) {x : Int32} {off : Int} (tgt : Nat) (ht : (pc : Int) + off = (tgt : Int)) (d : decode cc pc = .ok (.ifCond .le off, 3)) (kt : x ≤ 0 → J K cells slots tgt lv rest h) (kf : ¬ x ≤ 0 → J K cells slots (pc + 3) lv rest h) : J K cells slots pc lv (.int x :: rest) h := by
  obtain ⟨p, l, e, R, s, m, args, below, meth, c, G, A, Q⟩ := K
  intro H locs ls hl hR hA hS
  exact lv_if_le C.1 C.2.1 d ht (fun z => kt z H locs ls hl hR hA hS) (fun z => kf z H locs ls hl hR hA hS)
theorem J_acmp_eq (C : JC K cc nL own fr mc ms) {rx ry : Option Nat} {off : Int} (tgt : Nat) (ht : (pc : Int) + off = (tgt : Int)) (d : decode cc pc = .ok (.if_acmp .eq off, 3)) (kt : rx = ry → J K cells slots tgt lv rest h) (kf : ¬ rx = ry → J K cells slots (pc + 3) lv rest h) : J K cells slots pc lv (va_rf ry :: va_rf rx :: rest) h := by
  obtain ⟨p, l, e, R, s, m, args, below, meth, c, G, A, Q⟩ := K
  intro H locs ls hl hR hA hS
  exact lv_acmp_eq C.1 C.2.1 d ht (fun z => kt z H locs ls hl hR hA hS) (fun z => kf z H locs ls hl hR hA hS)
theorem J_acmp_ne (C : JC K cc nL own fr mc ms) {rx ry : Option Nat} {off : Int} (tgt : Nat) (ht : (pc : Int) + off = (tgt : Int)) (d : decode cc pc = .ok (.if_acmp .ne off, 3)) (kt : ¬ rx = ry → J K cells slots tgt lv rest h) (kf : rx = ry → J K cells slots (pc + 3) lv rest h) : J K cells slots pc lv (va_rf ry :: va_rf rx :: rest) h := by
  obtain ⟨p, l, e, R, s, m, args, below, meth, c, G, A, Q⟩ := K
  intro H locs ls hl hR hA hS
  exact lv_acmp_ne C.1 C.2.1 d ht (fun z => kt z H locs ls hl hR hA hS) (fun z => kf z H locs ls hl hR hA hS)
theorem J_ifnull (C : JC K cc nL own fr mc ms) {x : Option Nat} {off : Int} (tgt : Nat) (ht : (pc : Int) + off = (tgt : Int)) (d : decode cc pc = .ok (.ifnull off, 3)) (kt : x = none → J K cells slots tgt lv rest h) (kf : ∀ a, x = some a → J K cells slots (pc + 3) lv rest h) : J K cells slots pc lv (va_rf x :: rest) h := by
  obtain ⟨p, l, e, R, s, m, args, below, meth, c, G, A, Q⟩ := K
  intro H locs ls hl hR hA hS
  cases x with
  | none => exact lv_ifnullN C.1 C.2.1 d ht (kt rfl H locs ls hl hR hA hS)
  | some a => exact lv_ifnull C.1 C.2.1 d (kf a rfl H locs ls hl hR hA hS)
theorem J_ifnonnull (C : JC K cc nL own fr mc ms) {x : Option Nat} {off : Int} (tgt : Nat) (ht : (pc : Int) + off = (tgt : Int)) (d : decode cc pc = .ok (.ifnonnull off, 3)) (kt : ∀ a, x = some a → J K cells slots tgt lv rest h) (kf : x = none → J K cells slots (pc + 3) lv rest h) : J K cells slots pc lv (va_rf x :: rest) h := by
  obtain ⟨p, l, e, R, s, m, args, below, meth, c, G, A, Q⟩ := K
  intro H locs ls hl hR hA hS
  cases x with
  | none => exact lv_ifnonnullN C.1 C.2.1 d (kf rfl H locs ls hl hR hA hS)
  | some a => exact lv_ifnonnull C.1 C.2.1 d ht (kt a rfl H locs ls hl hR hA hS)
theorem J_sub {L : List (Nat × Value)} (hL : jv_ok L lv) {st : List Value} (k : J K cells slots pc (jv_l L) st h) : J K cells slots pc lv st h := by
  obtain ⟨p, l, e, R, s, m, args, below, meth, c, G, A, Q⟩ := K
  intro H locs ls hl hR hA hS
  exact k H locs ls (hl.sub hL) hR hA hS
theorem J_widen {c1 s1 : Nat} {st : List Value} (h1 : cells ≤ c1) (h2 : slots ≤ s1) (k : J K c1 s1 pc lv st h) : J K cells slots pc lv st h := by
  obtain ⟨p, l, e, R, s, m, args, below, meth, c, G, A, Q⟩ := K
  intro H locs ls hl hR hA hS
  exact W.widen h1 h2 (k H locs ls hl hR hA hS)
theorem J_eq {st st1 : List Value} {h1 : jH} (e1 : st1 = st) (e2 : h1 = h) (k : J K cells slots pc lv st1 h1) : J K cells slots pc lv st h := by
  subst e1; subst e2; exact k
theorem J_tableOut (C : JC K cc nL own fr mc ms) {dflt lo hi : Int} {offs : Array Int} {len : Nat} {x : Int32} (tgt : Nat) (z : x.toInt < lo ∨ hi < x.toInt) (ht : (pc : Int) + dflt = (tgt : Int)) (d : decode cc pc = .ok (.tableswitch dflt lo hi offs, len)) (k : J K cells slots tgt lv rest h) : J K cells slots pc lv (.int x :: rest) h := by
  obtain ⟨p, l, e, R, s, m, args, below, meth, c, G, A, Q⟩ := K
  intro H locs ls hl hR hA hS
  exact lv_tableOut C.1 C.2.1 d z ht (k H locs ls hl hR hA hS)
theorem J_tableIn (C : JC K cc nL own fr mc ms) {dflt lo hi : Int} {offs : Array Int} {len : Nat} {x : Int32} {off : Int} (tgt : Nat) (h1 : ¬ x.toInt < lo) (h2 : ¬ hi < x.toInt) (ho : offs[(x.toInt - lo).toNat]? = some off) (ht : (pc : Int) + off = (tgt : Int)) (d : decode cc pc = .ok (.tableswitch dflt lo hi offs, len)) (k : J K cells slots tgt lv rest h) : J K cells slots pc lv (.int x :: rest) h := by
  obtain ⟨p, l, e, R, s, m, args, below, meth, c, G, A, Q⟩ := K
  intro H locs ls hl hR hA hS
  exact lv_tableIn C.1 C.2.1 d h1 h2 ho ht (k H locs ls hl hR hA hS)
theorem J_lookup (C : JC K cc nL own fr mc ms) {dflt : Int} {ps : Array (Int × Int)} {len : Nat} {x : Int32} {off : Int} (tgt : Nat) (hp : (ps.toList.zip (ps.toList.drop 1)).all (fun (a, next) => a.1 < next.1) = true) (ho : Op.lookupswitch.offset ps.toList dflt x.toInt = off) (ht : (pc : Int) + off = (tgt : Int)) (d : decode cc pc = .ok (.lookupswitch dflt ps, len)) (k : J K cells slots tgt lv rest h) : J K cells slots pc lv (.int x :: rest) h := by
  obtain ⟨p, l, e, R, s, m, args, below, meth, c, G, A, Q⟩ := K
  intro H locs ls hl hR hA hS
  exact lv_lookup C.1 C.2.1 d hp ho ht (k H locs ls hl hR hA hS)
end JROWS
