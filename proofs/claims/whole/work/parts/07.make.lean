section JMAKE
variable {K : jT} {cc : ByteArray} {nL fr mc ms cells slots pc : Nat} {own : String} {lv : Nat → Option Value} {rest : List Value} {h : jH}
theorem J_aast (C : JC K cc nL own fr mc ms) {a n v ci : Nat} {q9 : vw_C} {vs : List Value} {f : Nat → Option Nat} (hh : h a = some (.inl (4, n, .inr (.inr (.inr (.inr f)))))) (hv : h v = some (.inr (ci, vs))) (hc : jv_cl[ci]? = some q9) (hca : Cond.castable q9.1 "java/lang/Object" ∈ jv_NL) {i : Int32} {j : Nat} (hi : i = nI j) (hj : j < n) (hn : n < 2147483648) (d : decode cc pc = .ok (.aastore, 1)) (kk : J K cells slots (pc + 1) lv rest (jv_up h a (.inl (4, n, .inr (.inr (.inr (.inr (va_up f j (some v)))))))) ) : J K cells slots pc lv (.ref v :: .int i :: .ref a :: rest) h := by
  obtain ⟨p, l, e, R, s, m, args, below, meth, c, G, A, Q⟩ := K
  intro H locs ls hl hR hA hS
  subst hi
  have hin : vp_in (nI j) n := vp_in_nI hj hn
  have hlt : (nI j).toNatClampNeg < n := by rw [nI_clamp (by omega)]; exact hj
  have h0 : ¬ nI j < 0 := fun q => hin (Or.inl q)
  have hK := C.2.2.2.2.2.1
  have ha := hR a _ hh
  have hAa := hA a (by rw [hh]; exact fun z => by cases z)
  obtain ⟨r', hr', cellV, g1, g2, g3, -⟩ := hR v _ hv
  have hcls := (hK.1 ci q9 hc).2
  obtain ⟨kA, comp, k1, k2, k3, -⟩ := (hK.2 4 (G.2.1 4, .object "java/lang/Object") rfl).2
  obtain ⟨kE, hkE, -⟩ := Vm.findClass_spec k3
  obtain ⟨c0, t1, f1, f2, f3⟩ := Cond.castable_spec (C.2.2.2.2.2.2.2.2.2.1.use (args := args) hca)
  cases hcls.1.symm.trans f1
  cases k3.symm.trans f2
  obtain ⟨kC, hkC, -⟩ := hcls.2
  refine W.aast C.1 C.2.1 ha (fun q h => by cases h) (fun h => by cases h) k1 k2 rfl hkE ⟨h0, by show _ < (arrV _ _ _).slots.size; rw [arrV_size]; exact hlt⟩ g1 (fun q h => by rw [g3] at h; cases h) (by rw [g2]; exact hkC) (by rw [g2]; exact f3) rfl rfl d fun H1 e z oq => ?_
  refine kk H1 _ ls hl (hR.put ?_ oq) (jv_dom hA hAa) (hS.put z oq hAa)
  show H1[a]? = some (vp_cell _ _)
  rw [e]
  show some ((vp_cell (G.2.1 4) (n, .inr (.inr (.inr (.inr f))))).setSlot _ _) = some (vp_cell (G.2.1 4) (n, .inr (.inr (.inr (.inr (va_up f j (some v)))))))
  rw [vp_cell_q, vp_cell_q, arrV_store, nI_clamp (by omega)]
  congr 2
  funext q
  by_cases hq : q = j
  · subst hq
    simp [updV, va_up, va_rf]
  · simp [updV, va_up, hq]
theorem J_aastN (C : JC K cc nL own fr mc ms) {a n : Nat} {f : Nat → Option Nat} (hh : h a = some (.inl (4, n, .inr (.inr (.inr (.inr f)))))) {i : Int32} {j : Nat} (hi : i = nI j) (hj : j < n) (hn : n < 2147483648) (d : decode cc pc = .ok (.aastore, 1)) (kk : J K cells slots (pc + 1) lv rest (jv_up h a (.inl (4, n, .inr (.inr (.inr (.inr (va_up f j none))))))) ) : J K cells slots pc lv (.null :: .int i :: .ref a :: rest) h := by
  obtain ⟨p, l, e, R, s, m, args, below, meth, c, G, A, Q⟩ := K
  intro H locs ls hl hR hA hS
  subst hi
  have hin : vp_in (nI j) n := vp_in_nI hj hn
  have hK := C.2.2.2.2.2.1
  have ha := hR a _ hh
  have hAa := hA a (by rw [hh]; exact fun z => by cases z)
  refine va_WaastN C.1 C.2.1 ha ((hK.2 4 (G.2.1 4, .object "java/lang/Object") rfl).1 n (fun j => va_rf (f j))) (fun q => by cases q) (by show ¬ (_ < 0 ∨ (arrV _ _ _).slots.size ≤ _); rw [arrV_size]; exact hin) rfl rfl d fun H1 e z oq => ?_
  refine kk H1 _ ls hl (hR.put ?_ oq) (jv_dom hA hAa) (hS.put z oq hAa)
  show H1[a]? = some (vp_cell _ _)
  rw [e]
  show some ((vp_cell (G.2.1 4) (n, .inr (.inr (.inr (.inr f))))).setSlot _ _) = some (vp_cell (G.2.1 4) (n, .inr (.inr (.inr (.inr (va_up f j none))))))
  rw [vp_cell_q, vp_cell_q, arrV_store, nI_clamp (by omega)]
  congr 2
  funext q
  by_cases hq : q = j
  · subst hq
    simp [updV, va_up, va_rf]
  · simp [updV, va_up, hq]
theorem J_aastT (C : JC K cc nL own fr mc ms) {a n v : Nat} {vs : List Value} {f : Nat → Option Nat} (hh : h a = some (.inl (5, n, .inr (.inr (.inr (.inr f)))))) (hv : h v = some (.inr (8, vs))) {i : Int32} {j : Nat} (hi : i = nI j) (hj : j < n) (hn : n < 2147483648) (d : decode cc pc = .ok (.aastore, 1)) (kk : J K cells slots (pc + 1) lv rest (jv_up h a (.inl (5, n, .inr (.inr (.inr (.inr (va_up f j (some v)))))))) ) : J K cells slots pc lv (.ref v :: .int i :: .ref a :: rest) h := by
  obtain ⟨p, l, e, R, s, m, args, below, meth, c, G, A, Q⟩ := K
  intro H locs ls hl hR hA hS
  subst hi
  have hin : vp_in (nI j) n := vp_in_nI hj hn
  have hlt : (nI j).toNatClampNeg < n := by rw [nI_clamp (by omega)]; exact hj
  have h0 : ¬ nI j < 0 := fun q => hin (Or.inl q)
  have hK := C.2.2.2.2.2.1
  have ha := hR a _ hh
  have hAa := hA a (by rw [hh]; exact fun z => by cases z)
  obtain ⟨r', hr', cellV, g1, g2, g3, -⟩ := hR v _ hv
  have hcls := (hK.1 8 (RX9, TX9, 6) rfl).2
  obtain ⟨kA, comp, k1, k2, k3, -⟩ := (hK.2 5 (G.2.1 5, .object "RankedSearch$Term") rfl).2
  have hcomp : comp = G.1.1 8 := Option.some.inj (k3.symm.trans hcls.1)
  subst hcomp
  obtain ⟨kC, hkC, -⟩ := hcls.2
  refine W.aast C.1 C.2.1 ha (fun q h => by cases h) (fun h => by cases h) k1 k2 rfl hkC ⟨h0, by show _ < (arrV _ _ _).slots.size; rw [arrV_size]; exact hlt⟩ g1 (fun q h => by rw [g3] at h; cases h) (by rw [g2]; exact hkC) (by rw [g2]; exact va_assign hcls) rfl rfl d fun H1 e z oq => ?_
  refine kk H1 _ ls hl (hR.put ?_ oq) (jv_dom hA hAa) (hS.put z oq hAa)
  show H1[a]? = some (vp_cell _ _)
  rw [e]
  show some ((vp_cell (G.2.1 5) (n, .inr (.inr (.inr (.inr f))))).setSlot _ _) = some (vp_cell (G.2.1 5) (n, .inr (.inr (.inr (.inr (va_up f j (some v)))))))
  rw [vp_cell_q, vp_cell_q, arrV_store, nI_clamp (by omega)]
  congr 2
  funext q
  by_cases hq : q = j
  · subst hq
    simp [updV, va_up, va_rf]
  · simp [updV, va_up, hq]
-- making
def NW (own : String) (i ci N : Nat) (fs : List Value) : Prop :=
  ∃ (CC : String) (T : u_T), jv_cl[ci]? = some (CC, T, N) ∧ Cond.classLink own i CC ∈ jv_T ∧ Cond.instantiable CC N ∈ jv_T ∧ Cond.initialized CC ∈ jv_T ∧ (∀ w ∈ u_ws CC T N, w ∈ jv_T) ∧
  ∃ ty0 : Nat → FieldType, (∀ k, k < N → parseFieldDescriptor (T k).2.2.1 = some (ty0 k)) ∧ ∀ j, j < N → defaultValue (ty0 j) = vp_V fs j
theorem J_new (C : JC K cc nL own fr mc ms) {i ci N : Nat} {fs : List Value} (F : NW own i ci N fs) (hc : cells + 1 ≤ mc) (hs : slots + N ≤ ms) (d : decode cc pc = .ok (.new i, 3)) (kk : ∀ q : Nat, h q = none → J K (cells + 1) (slots + N) (pc + 3) lv (.ref q :: rest) (jv_up h q (.inr (ci, fs)))) : J K cells slots pc lv rest h := by
  obtain ⟨p, l, e, R, s, m, args, below, meth, c, G, A, Q⟩ := K
  intro H locs ls hl hR hA hS
  obtain ⟨CC, T, hq, w1, w2, w3, hin, ty0, hty, hfs⟩ := F
  obtain ⟨hexec, hb, c3, hown, hts, hK, hRoom, c8, hA0, c10, -⟩ := C
  have hKn := hK.1 ci _ hq
  have hAq : A H.size := hA0 _ hS.1
  refine W.newcK hexec hb hown (hts _ w1) (hts _ w2) (hts _ w3) rfl d (by rw [hRoom]; exact hc) (by rw [hRoom]; exact hs) hKn.2.1 rfl fun H1 kC hkC e1 z1 o1 => ?_
  exact kk H.size (hR.fresh (Nat.le_refl _)) H1 _ ls hl (hR.grow ⟨_, hq, (u_born ty0 hts hin hKn hkC e1 hty).to hfs⟩ o1) (jv_dom hA hAq) ⟨Nat.le_trans hS.1 (by omega), fun x h1 h2 => (o1 x (Nat.lt_of_lt_of_le h1 hS.1)).trans (hS.2.1 x h1 h2), hS.2.2⟩
theorem J_newa (C : JC K cc nL own fr mc ms) {atype : ArrayType} (kd : Nat) {a0 : vp_A} (hw : Cond.arrayClass (newarray.typeOf atype) ∈ jv_T) (hkd : ∀ G : jG, (jv_tys G)[kd]? = some (G.2.1 kd, newarray.typeOf atype)) (hra : ∀ (U : State) (cA : ClassId), va_RA U cA (newarray.typeOf atype) ↔ U.vm.findClass ("[" ++ (newarray.typeOf atype).toString) = some cA) {n : Int32} {N : Nat} (ha : ∀ cA : ClassId, vp_cell cA a0 = arrV cA N (fun _ => defaultValue (newarray.typeOf atype))) (hn : n = nI N) (hN : N * componentBytes (newarray.typeOf atype) ≤ 536870912) (hN2 : N < 2147483648) (hc : cells + 1 ≤ mc) (hs : slots + N ≤ ms) (d : decode cc pc = .ok (.newarray atype, 2)) (kk : ∀ q : Nat, h q = none → J K (cells + 1) (slots + N) (pc + 2) lv (.ref q :: rest) (jv_up h q (.inl (kd, a0)))) : J K cells slots pc lv (.int n :: rest) h := by
  obtain ⟨p, l, e, R, s, m, args, below, meth, c, G, A, Q⟩ := K
  intro H locs ls hl hR hA hS
  subst hn
  obtain ⟨hexec, hb, c3, hown, hts, hK, hRoom, c8, hA0, c10, -⟩ := C
  have hAq : A H.size := hA0 _ hS.1
  refine va_newaK hexec hb (hts _ hw) rfl d rfl (nI_pos hN2) (nI_clamp hN2) hN (by rw [hRoom]; exact hc) (by rw [hRoom]; exact hs) rfl fun H1 cA e1 z1 o1 hAr hNm => ?_
  have hcA : cA = G.2.1 kd := Option.some.inj (hNm.symm.trans ((hra s _).mp (hK.2 kd _ (hkd G)).2))
  subst hcA
  exact kk H.size (hR.fresh (Nat.le_refl _)) H1 _ ls hl (hR.grow (by show H1[H.size]? = some (vp_cell _ _); rw [ha]; exact e1) o1) (jv_dom hA hAq) ⟨Nat.le_trans hS.1 (by omega), fun x h1 h2 => (o1 x (Nat.lt_of_lt_of_le h1 hS.1)).trans (hS.2.1 x h1 h2), hS.2.2⟩
theorem J_newI (C : JC K cc nL own fr mc ms) (hw : Cond.arrayClass .int ∈ jv_T) {n : Int32} {N : Nat} (hn : n = nI N) (hN : N * componentBytes .int ≤ 536870912) (hN2 : N < 2147483648) (hc : cells + 1 ≤ mc) (hs : slots + N ≤ ms) (d : decode cc pc = .ok (.newarray .int, 2)) (kk : ∀ q : Nat, h q = none → J K (cells + 1) (slots + N) (pc + 2) lv (.ref q :: rest) (jv_up h q (.inl (0, N, .inl (fun _ => 0))))) : J K cells slots pc lv (.int n :: rest) h := J_newa (atype := .int) C 0 hw (fun _ => rfl) (fun _ _ => Iff.rfl) (fun _ => rfl) hn hN hN2 hc hs d kk
theorem J_newB (C : JC K cc nL own fr mc ms) (hw : Cond.arrayClass .byte ∈ jv_T) {n : Int32} {N : Nat} (hn : n = nI N) (hN : N * componentBytes .byte ≤ 536870912) (hN2 : N < 2147483648) (hc : cells + 1 ≤ mc) (hs : slots + N ≤ ms) (d : decode cc pc = .ok (.newarray .byte, 2)) (kk : ∀ q : Nat, h q = none → J K (cells + 1) (slots + N) (pc + 2) lv (.ref q :: rest) (jv_up h q (.inl (1, N, .inl (fun _ => 0))))) : J K cells slots pc lv (.int n :: rest) h := J_newa (atype := .byte) C 1 hw (fun _ => rfl) (fun _ _ => Iff.rfl) (fun _ => rfl) hn hN hN2 hc hs d kk
theorem J_newZ (C : JC K cc nL own fr mc ms) (hw : Cond.arrayClass .boolean ∈ jv_T) {n : Int32} {N : Nat} (hn : n = nI N) (hN : N * componentBytes .boolean ≤ 536870912) (hN2 : N < 2147483648) (hc : cells + 1 ≤ mc) (hs : slots + N ≤ ms) (d : decode cc pc = .ok (.newarray .boolean, 2)) (kk : ∀ q : Nat, h q = none → J K (cells + 1) (slots + N) (pc + 2) lv (.ref q :: rest) (jv_up h q (.inl (2, N, .inl (fun _ => 0))))) : J K cells slots pc lv (.int n :: rest) h := J_newa (atype := .boolean) C 2 hw (fun _ => rfl) (fun _ _ => Iff.rfl) (fun _ => rfl) hn hN hN2 hc hs d kk
theorem J_newJ (C : JC K cc nL own fr mc ms) (hw : Cond.arrayClass .long ∈ jv_T) {n : Int32} {N : Nat} (hn : n = nI N) (hN : N * componentBytes .long ≤ 536870912) (hN2 : N < 2147483648) (hc : cells + 1 ≤ mc) (hs : slots + N ≤ ms) (d : decode cc pc = .ok (.newarray .long, 2)) (kk : ∀ q : Nat, h q = none → J K (cells + 1) (slots + N) (pc + 2) lv (.ref q :: rest) (jv_up h q (.inl (3, N, .inr (.inl (fun _ => 0)))))) : J K cells slots pc lv (.int n :: rest) h := J_newa (atype := .long) C 3 hw (fun _ => rfl) (fun _ _ => Iff.rfl) (fun _ => rfl) hn hN hN2 hc hs d kk
theorem J_newq (C : JC K cc nL own fr mc ms) (kd : Nat) {CC : String} {i : Nat} (hkd : ∀ G : jG, (jv_tys G)[kd]? = some (G.2.1 kd, .object CC)) (hw : Cond.classLink own i CC ∈ jv_T) (hw2 : Cond.arrayOver (.object CC) ∈ jv_NL) {n : Int32} {N : Nat} (hn : n = nI N) (hN : N * 4 ≤ 536870912) (hc : cells + 1 ≤ mc) (hs : slots + N ≤ ms) (d : decode cc pc = .ok (.anewarray i, 3)) (kk : ∀ q : Nat, h q = none → J K (cells + 1) (slots + N) (pc + 3) lv (.ref q :: rest) (jv_up h q (.inl (kd, N, .inr (.inr (.inr (.inr (fun _ => none)))))))) : J K cells slots pc lv (.int n :: rest) h := by
  obtain ⟨p, l, e, R, s, m, args, below, meth, c, G, A, Q⟩ := K
  intro H locs ls hl hR hA hS
  subst hn
  obtain ⟨hexec, hb, c3, hown, hts, hK, hRoom, c8, hA0, c10, -⟩ := C
  have hAq : A H.size := hA0 _ hS.1
  have hN2 : N < 2 ^ 31 := by omega
  refine W.anew hexec hb hown (hts _ hw) (c10.use hw2) rfl d rfl (nI_pos hN2) (by rw [nI_clamp hN2]; exact hN) (by rw [hRoom]; exact hc) (by rw [hRoom, nI_clamp hN2]; exact hs) fun cA kA comp f1 f2 f3 f4 => ?_
  rw [nI_clamp hN2]
  obtain ⟨kA2, comp2, g1, g2, g3, g4⟩ := (hK.2 kd _ (hkd G)).2
  have hcA : cA = G.2.1 kd := Option.some.inj (f1.symm.trans g4)
  subst hcA
  generalize hH1 : H.push ({ cls := G.2.1 kd, slots := Array.replicate N .null, vm := .none } : Cell) = H1
  have z1 : H1.size = H.size + 1 := by rw [← hH1, Array.size_push]
  have e1 : H1[H.size]? = some (arrV (G.2.1 kd) N (fun _ => .null)) := by rw [← hH1, Array.getElem?_push_size, ← arrV_new]
  have o1 : ∀ q : Nat, q < H.size → H1[q]? = H[q]? := fun q hq => by rw [← hH1, Array.getElem?_push, if_neg (Nat.ne_of_lt hq)]
  exact kk H.size (hR.fresh (Nat.le_refl _)) H1 _ ls hl (hR.grow (by show H1[H.size]? = some (vp_cell _ _); exact e1) o1) (jv_dom hA hAq) ⟨Nat.le_trans hS.1 (by omega), fun x h1 h2 => (o1 x (Nat.lt_of_lt_of_le h1 hS.1)).trans (hS.2.1 x h1 h2), hS.2.2⟩
theorem J_objInit (C : JC K cc nL own fr mc ms) {i a : Nat} (hw : Cond.methodLink own i objectInit ∈ jv_T) (hw2 : Cond.instanceMethod objectInit ∈ jv_T) (hw3 : Cond.code objectInit ⟨#[0xb1]⟩ 1 none ∈ jv_T) (hfr : 1 ≤ fr) (hW : (rest.map fun v => v.category).sum ≤ 8) (d : decode cc pc = .ok (.invokespecial i, 3)) (kk : J K cells slots (pc + 3) lv rest h) : J K cells slots pc lv (.ref a :: rest) h := by
  obtain ⟨p, l, e, R, s, m, args, below, meth, c, G, A, Q⟩ := K
  intro H locs ls hl hR hA hS
  obtain ⟨hexec, hb, c3, hown, hts, hK, hRoom, c8, hA0, c10, -⟩ := C
  have hz : 2 * (F0 m pc ls (.ref a :: rest)).monitorRoom + (rest.map fun v => v.category).sum ≤ 8 := lv_room hW
  exact W.objInit hexec hb hown (hts _ hw) (hts _ hw2) (hts _ hw3) rfl hl.1 rfl d (by rw [hRoom]; exact hfr) (by rw [hRoom]; show _ ≤ 50 * fr; omega) (kk H locs ls hl hR hA hS)
-- ends
theorem W_mono {p : Program} {l : Launch} {e : Env} {R : Room} {s : State} {m : MethodId} {args : Array Value} {below : List Frame} {meth : Method} {c : Code} {H : Heap} {locs : List Loc} {Q Q' : State → Prop} {g : JFrame} (hQ : ∀ t, Q t → Q' t) (k : W p l e R s m args below meth c H locs cells slots Q g) : W p l e R s m args below meth c H locs cells slots Q' g := by
  intro T hT X
  obtain ⟨t, a, b⟩ := k T hT X
  exact ⟨t, a, hQ t b⟩
theorem jv_end {G : jG} {A : Nat → Prop} {s : State} {H : Heap} {locs : List Loc} {post : Option Value → jH → Prop} {v : Option Value} (hp : post v h) (hR : jv_R G h H) (hA : ∀ q, h q ≠ none → A q) (hS : va_S A s.heap H locs) : ∀ t : State, t.heap = H → s.WarmedH t.vm → (fun (_ : Array Value) (st : State) (oc : Outcome) (t : State) => (∃ r h1, oc = .returned r ∧ post r h1 ∧ jv_R G h1 t.heap ∧ ∀ q, h1 q ≠ none → A q) ∧ va_F A st t) (#[] : Array Value) s (.returned v) t := fun t ht _ => ⟨⟨v, h, rfl, hp, by rw [ht]; exact hR, hA⟩, hS.F ht⟩
theorem J_iret (C : JC K cc nL own fr mc ms) {h0 : jH} {post : Option Value → jH → Prop} (D : JR K (some .int) mc ms h0 post) {x : Int32} (hp : post (some (.int x)) h) (hc : cells ≤ mc) (hs : slots ≤ ms) (d : decode cc pc = .ok (.ireturn, 1)) : J K cells slots pc lv [.int x] h := by
  obtain ⟨p, l, e, R, s, m, args, below, meth, c, G, A, Q⟩ := K
  intro H locs ls hl hR hA hS
  obtain ⟨d1, d2, d3, d4⟩ := D
  exact W_mono d4 (W.widen hc hs (W.iret C.1 C.2.1 d2 (jv_end hp hR hA hS) hS.2.2 d d1))
theorem J_zret (C : JC K cc nL own fr mc ms) {h0 : jH} {post : Option Value → jH → Prop} (D : JR K (some .boolean) mc ms h0 post) {x : Int32} (hx : x = 0 ∨ x = 1) (hp : post (some (.int x)) h) (hc : cells ≤ mc) (hs : slots ≤ ms) (d : decode cc pc = .ok (.ireturn, 1)) : J K cells slots pc lv [.int x] h := by
  obtain ⟨p, l, e, R, s, m, args, below, meth, c, G, A, Q⟩ := K
  intro H locs ls hl hR hA hS
  obtain ⟨d1, d2, d3, d4⟩ := D
  have hn : narrow .boolean (.int x) = .int x := by rcases hx with rfl | rfl <;> rfl
  exact W_mono d4 (W.widen hc hs (W.zret C.1 C.2.1 d2 hn (jv_end hp hR hA hS) hS.2.2 d d1))
theorem J_lret (C : JC K cc nL own fr mc ms) {h0 : jH} {post : Option Value → jH → Prop} (D : JR K (some .long) mc ms h0 post) {x : Int64} (hp : post (some (.long x)) h) (hc : cells ≤ mc) (hs : slots ≤ ms) (d : decode cc pc = .ok (.lreturn, 1)) : J K cells slots pc lv [.long x] h := by
  obtain ⟨p, l, e, R, s, m, args, below, meth, c, G, A, Q⟩ := K
  intro H locs ls hl hR hA hS
  obtain ⟨d1, d2, d3, d4⟩ := D
  exact W_mono d4 (W.widen hc hs (W.lret C.1 C.2.1 d2 (jv_end hp hR hA hS) hS.2.2 d d1))
theorem J_vret (C : JC K cc nL own fr mc ms) {h0 : jH} {post : Option Value → jH → Prop} (D : JR K none mc ms h0 post) (hp : post none h) (hc : cells ≤ mc) (hs : slots ≤ ms) (d : decode cc pc = .ok (.return_, 1)) : J K cells slots pc lv [] h := by
  obtain ⟨p, l, e, R, s, m, args, below, meth, c, G, A, Q⟩ := K
  intro H locs ls hl hR hA hS
  obtain ⟨d1, d2, d3, d4⟩ := D
  exact W_mono d4 (W.widen hc hs (W.vret C.1 C.2.1 d2 (jv_end hp hR hA hS) hS.2.2 d d1))
theorem J_aret (C : JC K cc nL own fr mc ms) {rt : FieldType} {h0 : jH} {post : Option Value → jH → Prop} (D : JR K (some rt) mc ms h0 post) {x : Option Nat} (hrt : (∃ n, rt = .object n) ∨ ∃ t, rt = .array t) (hp : post (some (va_rf x)) h) (hc : cells ≤ mc) (hs : slots ≤ ms) (d : decode cc pc = .ok (.areturn, 1)) : J K cells slots pc lv [va_rf x] h := by
  obtain ⟨p, l, e, R, s, m, args, below, meth, c, G, A, Q⟩ := K
  intro H locs ls hl hR hA hS
  obtain ⟨d1, d2, d3, d4⟩ := D
  exact W_mono d4 (W.widen hc hs (W.aret C.1 C.2.1 d2 hrt (by cases x with | none => exact Or.inl rfl | some a => exact Or.inr ⟨a, rfl⟩) (jv_end hp hR hA hS) hS.2.2 d d1))
-- calls
theorem jv_after {p : Program} {l : Launch} {e : Env} {R : Room} {s : State} {m : MethodId} {args : Array Value} {below : List Frame} {meth : Method} {c : Code} {H : Heap} {locs : List Loc} {Q : State → Prop} {ls : Array Slot} {G : jG} {A : Nat → Prop} {mc2 ms2 : Nat} {st0 : List Value} {a : Array Value} {post : Option Value → jH → Prop}
    (hr : va_Run p l e R s m args below meth c H locs cells slots mc2 ms2 (F0 m pc ls st0) rest (jv_Qc G h H.size post a) (jv_A h H.size)) (hA : ∀ q, h q ≠ none → A q) (hS : va_S A s.heap H locs) (hA0 : ∀ q, s.heap.size ≤ q → A q)
    (kk : ∀ (r : Option Value) (h1 : jH), post r h1 → ∀ (H1 : Heap) (locs1 : List Loc), jv_R G h1 H1 → (∀ q, h1 q ≠ none → A q) → va_S A s.heap H1 locs1 → W p l e R s m args below meth c H1 locs1 (cells + mc2) (slots + ms2) Q (F0 m (pc + 3) ls (r.toList ++ rest))) : W p l e R s m args below meth c H locs cells slots Q (F0 m pc ls st0) := by
  have hAA : ∀ q, jv_A h H.size q → A q := fun q z => z.elim (hA q) (fun w => hA0 q (Nat.le_trans hS.1 w))
  intro T hT X
  obtain ⟨v, st₀, t, T', L, h0, X', hL, e1, e2, ⟨⟨r, h1, hv, hp, hR1, hd1⟩, hz, hk⟩, st⟩ := hr T hT X
  cases hv
  rw [h0] at hz hk
  obtain ⟨t2, a1, b1⟩ := kk v h1 hp T'.heap (locs ++ L) (by rw [e1]; exact hR1) (fun q hq => hAA q (hd1 q hq))
    ⟨Nat.le_trans hS.1 (by rw [e1]; exact hz), fun q h1 h2 => by rw [e1, hk q (Nat.lt_of_lt_of_le h1 hS.1) (fun z => h2 (hAA q z))]; exact hS.2.1 q h1 h2, fun q hq => by
      rcases List.mem_append.mp hq with h | h
      · exact hS.2.2 q h
      · exact hAA _ (hL q h)⟩ T' rfl X'
  exact ⟨t2, st t2 a1, b1⟩
theorem jv_goodIn {ws : List Cond} (h : ∀ w ∈ ws, w ∈ jv_T) : GoodIn jv_T ws := fun w hw => ⟨h w hw, jv_good (h w hw)⟩
/-- what a call's word list needs -/
def CB (y : MethodName) (bytes : ByteArray) (nl : Nat) (ret : Option FieldType) (n : Nat) : Prop :=
  Cond.code y bytes nl ret ∈ jv_T ∧ Cond.initialized y.cls ∈ jv_T ∧ (y.cls ≠ "java/lang/invoke/MethodHandle" ∧ y.cls ≠ "java/lang/invoke/VarHandle" ∧ (parseMethodDescriptor y.desc).map (fun d => d.parameters.length) = some n) ∧ nl ≤ 31
def CWV (own : String) (i : Nat) (y : MethodName) (bytes : ByteArray) (nl : Nat) (ret : Option FieldType) (n : Nat) : Prop := CB y bytes nl ret n ∧ Cond.methodLink own i y ∈ jv_T ∧ Cond.instanceMethod y ∈ jv_T ∧ Cond.selects y.cls y y ∈ jv_T
def CWS (own : String) (i : Nat) (y : MethodName) (bytes : ByteArray) (nl : Nat) (ret : Option FieldType) (n : Nat) : Prop := CB y bytes nl ret n ∧ Cond.methodLink own i y ∈ jv_T ∧ Cond.static y ∈ jv_T
def CWI (own : String) (i : Nat) (y : MethodName) (bytes : ByteArray) (nl : Nat) (n : Nat) : Prop := CB y bytes nl none n ∧ Cond.instanceMethod y ∈ jv_T ∧ y.name = "<init>" ∧ (Cond.methodLink own i y ∈ jv_T ∨ ∃ host : String, Cond.methodLinkNest own i y host ∈ jv_NL)
theorem jv_code_all {y : MethodName} {bytes : ByteArray} {nl : Nat} {ret : Option FieldType} (h : Cond.code y bytes nl ret ∈ jv_T) : ∀ w ∈ Cond.code y bytes nl ret :: jv_T, w ∈ jv_T := fun w hw => (List.mem_cons.mp hw).elim (fun e => by rw [e]; exact h) id
theorem jv_pre {p : Program} {l : Launch} {e : Env} {R : Room} {s : State} {m : MethodId} {args : Array Value} {below : List Frame} {meth : Method} {c : Code} {H : Heap} {locs : List Loc} {Q : State → Prop} {G : jG} {A : Nat → Prop} (C : JC (p, l, e, R, s, m, args, below, meth, c, G, A, Q) cc nL own fr mc ms) (hR : jv_R G h H) (hA : ∀ q, h q ≠ none → A q) (hS : va_S A s.heap H locs) (As : List Value) : ∀ U : State, U.heap = H → s.WarmedH U.vm → jv_Pc G As h H.size As.toArray U := by
  intro U hU hW
  have hAA : ∀ q, jv_A h H.size q → A q := fun q z => z.elim (hA q) (fun w => C.2.2.2.2.2.2.2.2.1 q (Nat.le_trans hS.1 w))
  refine ⟨rfl, by rw [hU], by rw [hU]; exact hR, va_K.moved hW.alike C.2.2.2.2.2.1, ?_, jv_N.warm hW C.2.2.2.2.2.2.2.2.2.1⟩
  rw [hU]
  exact jv_X.moved hW.alike ((C.2.2.2.2.2.2.2.1.kept hS.2.1).narrow hAA)
theorem J_callV (C : JC K cc nL own fr mc ms) {i n b ci nl fr2 mc2 ms2 : Nat} {y : MethodName} {bytes : ByteArray} {ret : Option FieldType} {As fs st : List Value} {q9 : vw_C} {post : Option Value → jH → Prop} (hM : Cn (jv_lk K) y bytes nl ret fr2 mc2 ms2 (.ref b :: As) h post) (cw : CWV own i y bytes nl ret n) (hb : h b = some (.inr (ci, fs))) (hq : jv_cl[ci]? = some q9) (hq2 : q9.1 = y.cls) (hn : As.length = n) (hst : st = As.reverse ++ .ref b :: rest) (hW : (rest.map fun v => v.category).sum ≤ 8) (hfr : fr2 < fr) (hc : cells + mc2 ≤ mc) (hs : slots + ms2 ≤ ms) (d : decode cc pc = .ok (.invokevirtual i, 3))
    (kk : ∀ (r : Option Value) (h1 : jH), post r h1 → J K (cells + mc2) (slots + ms2) (pc + 3) lv (r.toList ++ rest) h1) : J K cells slots pc lv st h := by
  obtain ⟨p, l, e, R, s, m, args, below, meth, c, G, A, Q⟩ := K
  intro H locs ls hl hR hA hS
  have C0 := C
  obtain ⟨hexec, hb9, c3, hown, hts, hK, hRoom, c8, hA0, c10, -⟩ := C
  obtain ⟨⟨w1, w2, w3, w4⟩, w5, w6, w7⟩ := cw
  have hrecv := va_recv hK (hR.one hb) hq (q0 := 0) rfl
  rw [hq2] at hrecv
  refine jv_after (va_runV (Ts := jv_T) (rest := rest) (As := As) ⟨hexec, hb9, rfl, hown, hts⟩ (hM C0.2.2.2.2.2.2.2.2.2.2.2 G H.size rfl) (cwV (ws' := jv_T) n hts (jv_goodIn (fun w hw => ?_)) rfl rfl rfl ⟨rfl, w3⟩ ?_) ⟨jv_Pc_blind, hrecv, jv_pre C0 hR hA hS (.ref b :: As)⟩ rfl hn hl.1 hst (lv_room hW) d (by rw [hRoom]; exact ⟨hc, hs⟩)) hA hS hA0 (fun r h1 hp H1 locs1 hR1 hA1 hS1 => kk r h1 hp H1 locs1 ls hl hR1 hA1 hS1)
  · rcases List.mem_append.mp hw with hw | hw
    · simp only [List.mem_cons, List.not_mem_nil, or_false] at hw
      rcases hw with rfl | rfl | rfl | rfl
      · exact w5
      · exact w6
      · exact w7
      · exact w2
    · exact jv_code_all w1 w hw
  · rw [hRoom]
    exact ⟨hfr, by show 8 + (nl + 11) + 50 * fr2 ≤ 50 * fr; omega⟩
theorem J_callS (C : JC K cc nL own fr mc ms) {i n nl fr2 mc2 ms2 : Nat} {y : MethodName} {bytes : ByteArray} {ret : Option FieldType} {As st : List Value} {post : Option Value → jH → Prop} (hM : Cn (jv_lk K) y bytes nl ret fr2 mc2 ms2 As h post) (cw : CWS own i y bytes nl ret n) (hn : As.length = n) (hst : st = As.reverse ++ rest) (hW : (rest.map fun v => v.category).sum ≤ 8) (hfr : fr2 < fr) (hc : cells + mc2 ≤ mc) (hs : slots + ms2 ≤ ms) (d : decode cc pc = .ok (.invokestatic i, 3))
    (kk : ∀ (r : Option Value) (h1 : jH), post r h1 → J K (cells + mc2) (slots + ms2) (pc + 3) lv (r.toList ++ rest) h1) : J K cells slots pc lv st h := by
  obtain ⟨p, l, e, R, s, m, args, below, meth, c, G, A, Q⟩ := K
  intro H locs ls hl hR hA hS
  have C0 := C
  obtain ⟨hexec, hb9, c3, hown, hts, hK, hRoom, c8, hA0, c10, -⟩ := C
  obtain ⟨⟨w1, w2, w3, w4⟩, w5, w6⟩ := cw
  refine jv_after (va_runS (Ts := jv_T) (rest := rest) (As := As) ⟨hexec, hb9, rfl, hown, hts⟩ (hM C0.2.2.2.2.2.2.2.2.2.2.2 G H.size rfl) (va_cwS (ws' := jv_T) n hts (jv_goodIn (fun w hw => ?_)) rfl rfl rfl w3 ?_) ⟨jv_Pc_blind, jv_pre C0 hR hA hS As⟩ rfl hn hl.1 hst (lv_room hW) d (by rw [hRoom]; exact ⟨hc, hs⟩)) hA hS hA0 (fun r h1 hp H1 locs1 hR1 hA1 hS1 => kk r h1 hp H1 locs1 ls hl hR1 hA1 hS1)
  · rcases List.mem_append.mp hw with hw | hw
    · simp only [List.mem_cons, List.not_mem_nil, or_false] at hw
      rcases hw with rfl | rfl | rfl
      · exact w5
      · exact w6
      · exact w2
    · exact jv_code_all w1 w hw
  · rw [hRoom]
    exact ⟨hfr, by show 8 + (nl + 11) + 50 * fr2 ≤ 50 * fr; omega⟩
theorem J_callI (C : JC K cc nL own fr mc ms) {i n b nl fr2 mc2 ms2 : Nat} {y : MethodName} {bytes : ByteArray} {As st : List Value} {post : Option Value → jH → Prop} (hM : Cn (jv_lk K) y bytes nl none fr2 mc2 ms2 (.ref b :: As) h post) (cw : CWI own i y bytes nl n) (hn : As.length = n) (hst : st = As.reverse ++ .ref b :: rest) (hW : (rest.map fun v => v.category).sum ≤ 8) (hfr : fr2 < fr) (hc : cells + mc2 ≤ mc) (hs : slots + ms2 ≤ ms) (d : decode cc pc = .ok (.invokespecial i, 3))
    (kk : ∀ (r : Option Value) (h1 : jH), post r h1 → J K (cells + mc2) (slots + ms2) (pc + 3) lv (r.toList ++ rest) h1) : J K cells slots pc lv st h := by
  obtain ⟨p, l, e, R, s, m, args, below, meth, c, G, A, Q⟩ := K
  intro H locs ls hl hR hA hS
  have C0 := C
  obtain ⟨hexec, hb9, c3, hown, hts, hK, hRoom, c8, hA0, c10, -⟩ := C
  obtain ⟨⟨w1, w2, w3, w4⟩, w5, w6, w7⟩ := cw
  have hroom : fr2 + 1 ≤ R.frames ∧ 8 + (nl + 11) + 50 * fr2 ≤ R.locals := by
    rw [hRoom]
    exact ⟨hfr, by show 8 + (nl + 11) + 50 * fr2 ≤ 50 * fr; omega⟩
  rcases w7 with w7 | ⟨host, w7⟩
  · exact jv_after (va_runI (Ts := jv_T) (rest := rest) (As := As) ⟨hexec, hb9, rfl, hown, hts⟩ (hM C0.2.2.2.2.2.2.2.2.2.2.2 G H.size rfl) (cwI (ws' := jv_T) n hts (jv_goodIn (jv_code_all w1)) rfl rfl rfl (hts _ w2) (hts _ w7) (hts _ w5) w6 w3 hroom) ⟨jv_Pc_blind, jv_pre C0 hR hA hS (.ref b :: As)⟩ rfl hn hl.1 hst (lv_room hW) d (by rw [hRoom]; exact ⟨hc, hs⟩)) hA hS hA0 (fun r h1 hp H1 locs1 hR1 hA1 hS1 => kk r h1 hp H1 locs1 ls hl hR1 hA1 hS1)
  · exact jv_after (va_runIN (Ts := jv_T) (rest := rest) (As := As) ⟨hexec, hb9, rfl, hown, hts⟩ (hM C0.2.2.2.2.2.2.2.2.2.2.2 G H.size rfl) ⟨va_cnB (host := host) (ws' := jv_T) n hts (jv_goodIn (jv_code_all w1)) rfl rfl rfl (c10 _ w7) (hts _ w2) w3 hroom, w6, hts _ w5⟩ ⟨jv_Pc_blind, jv_pre C0 hR hA hS (.ref b :: As)⟩ rfl hn hl.1 hst (lv_room hW) d (by rw [hRoom]; exact ⟨hc, hs⟩)) hA hS hA0 (fun r h1 hp H1 locs1 hR1 hA1 hS1 => kk r h1 hp H1 locs1 ls hl hR1 hA1 hS1)
end JMAKE
