-- fields: a link of the class 'own', by its place; the field's class and slot
def FL (own : String) (i ci k : Nat) (ty : FieldType) (fin : Bool) : Prop :=
  ∃ (q : vw_C) (ref : String), jv_cl[ci]? = some q ∧ k < q.2.2 ∧ (ref = (q.2.1 k).1 ∨ Cond.sameField ref (q.2.1 k).1 (q.2.1 k).2.1 (q.2.1 k).2.2.1 ∈ jv_T) ∧ (Cond.fieldLink own i ref (q.2.1 k).2.1 (q.2.1 k).2.2.1 ∈ jv_T ∨ ∃ host : String, Cond.fieldLinkNest own i ref (q.2.1 k).2.1 (q.2.1 k).2.2.1 host ∈ jv_NL) ∧
  parseFieldDescriptor (q.2.1 k).2.2.1 = some ty ∧ (q.2.1 k).2.2.2 = fin ∧ (∀ w ∈ u_ws q.1 q.2.1 q.2.2, w ∈ jv_T) ∧ (∃ ty0 : Nat → FieldType, ∀ k, k < q.2.2 → parseFieldDescriptor (q.2.1 k).2.2.1 = some (ty0 k)) ∧
  (∀ a, a < q.2.2 → ∀ b, b < q.2.2 → a ≠ b → (q.2.1 a).2.1 ≠ (q.2.1 b).2.1)
theorem jv_same {s : State} {args : Array Value} {ref o n d : String} (h : ref = o ∨ Cond.sameField ref o n d ∈ jv_T) (hts : ∀ w ∈ jv_T, w.before args s = true) : ∀ x, s.fieldFound? o n d = some x → s.fieldFound? ref n d = some x := by
  rcases h with rfl | h
  · exact fun _ z => z
  · exact u_same (hts _ h)
section JHEAP
variable {K : jT} {cc : ByteArray} {nL fr mc ms cells slots pc : Nat} {own : String} {lv : Nat → Option Value} {rest : List Value} {h : jH}
theorem J_get (C : JC K cc nL own fr mc ms) {i ci k : Nat} {ty : FieldType} {fin : Bool} (F : FL own i ci k ty fin) {a : Nat} {fs : List Value} {v : Value} (hh : h a = some (.inr (ci, fs))) (hv : fs[k]? = some v) (d : decode cc pc = .ok (.getfield i, 3)) (kk : J K cells slots (pc + 3) lv (v :: rest) h) : J K cells slots pc lv (.ref a :: rest) h := by
  obtain ⟨p, l, e, R, s, m, args, below, meth, c, G, A, Q⟩ := K
  intro H locs ls hl hR hA hS
  obtain ⟨⟨CC, T, N⟩, ref, hc, hk, hsm, hlk, -, -, hin, -, -⟩ := F
  obtain ⟨c1, c2, c3, c4, c5, c6, c7, c8, c9, c10, -⟩ := C
  have hP := hR.one hh
  rcases hlk with hlk | ⟨host, hlk⟩
  · exact va_get c1 c2 c5 hin c4 c6 hP 0 rfl hc k hk (c5 _ hlk) (jv_same hsm c5) hv d (kk H locs ls hl hR hA hS)
  · exact va_getN c1 c2 c5 hin c4 c6 hP 0 rfl hc k hk (c10.use hlk) (jv_same hsm c5) hv d (kk H locs ls hl hR hA hS)
theorem J_put (C : JC K cc nL own fr mc ms) {i ci k : Nat} {ty : FieldType} (F : FL own i ci k ty false) {a : Nat} {fs : List Value} {v : Value} (hh : h a = some (.inr (ci, fs))) (hl9 : k < fs.length) (hn : narrow ty v = v) (hfit : fits ty v = true) (d : decode cc pc = .ok (.putfield i, 3)) (kk : J K cells slots (pc + 3) lv rest (jv_up h a (.inr (ci, fs.set k v)))) : J K cells slots pc lv (v :: .ref a :: rest) h := by
  obtain ⟨p, l, e, R, s, m, args, below, meth, c, G, A, Q⟩ := K
  intro H locs ls hl hR hA hS
  obtain ⟨⟨CC, T, N⟩, ref, hc, hk, hsm, hlk, hty, hfin, hin, ⟨ty0, hty0⟩, hnm⟩ := F
  obtain ⟨hexec, hb, c3, hown, hts, hK, c7, c8, c9, c10, -⟩ := C
  have hP := hR.one hh
  have hap := va_apart (own := own) hts hin ty0 hty0 hnm hK hc
  obtain ⟨r, h1, cell, q1, q2, q3, q4⟩ := hP 0 _ rfl
  have hr : r = (CC, T, N) := Option.some.inj (h1.symm.trans hc)
  subst hr
  obtain ⟨hS2, hfc, kC, hkC, hkind⟩ := hK.1 ci _ hc
  obtain ⟨cf, kf, fi, f, hi, hsl⟩ := hS2 k hk
  have hlay := hts _ (hin _ (u_in_lay hk))
  unfold u_lay at hlay
  rw [if_neg (by rw [hfin]; decide)] at hlay
  have hst := (u_facts hfc hkC (u_lays hts hin hk) hi).1
  have h6 := u_store hfc hkC hkind hlay hi hty hn hfit
  have go : ∀ H' : Heap, H'[a]? = some (cell.setSlot f.slot v) → H'.size = H.size → (∀ q, q ≠ a → H'[q]? = H[q]?) → W p l e R s m args below meth c H' (locs ++ [⟨a, f.slot⟩]) cells slots Q (F0 m (pc + 3) ls rest) := by
    intro H' e1 e2 e3
    rw [hsl] at e1 ⊢
    exact kk H' _ ls hl (hR.put ⟨_, hc, t_OB.to (V := updV (vp_V fs) k v) ⟨_, e1, q2, q3, t_set q4 hap hk v⟩ (fun j _ => vp_updV_set hl9 v j)⟩ e3) (jv_dom hA (hA a (by rw [hh]; exact fun z => by cases z))) (hS.put e2 e3 (hA a (by rw [hh]; exact fun z => by cases z)))
  rcases hlk with hlk | ⟨host, hlk⟩
  · exact W.putK hexec hb (f := f) ⟨hown, hts _ hlk, ⟨_, _, _, jv_same hsm hts _ hi⟩, hst⟩ (by rw [q2]; exact h6) q1 q3 (by rw [hsl]; exact k2_hasslot (q4 k hk)) rfl rfl d go
  · exact va_WputK hexec hb (f := f) hown (c10.use hlk) (jv_same hsm hts _ hi) hst (by rw [q2]; exact h6) q1 q3 (by rw [hsl]; exact k2_hasslot (q4 k hk)) rfl rfl d go
theorem J_putF (C : JC K cc nL own fr mc ms) (I : JI K "<init>") {i ci k : Nat} {ty : FieldType} (F : FL own i ci k ty true) {q9 : vw_C} (hq9 : jv_cl[ci]? = some q9) (hdecl : (q9.2.1 k).1 = own) {a : Nat} {fs : List Value} {v : Value} (hh : h a = some (.inr (ci, fs))) (hl9 : k < fs.length) (hn : narrow ty v = v) (hfit : fits ty v = true) (hw9 : Cond.fieldLink own i (q9.2.1 k).1 (q9.2.1 k).2.1 (q9.2.1 k).2.2.1 ∈ jv_T) (d : decode cc pc = .ok (.putfield i, 3)) (kk : J K cells slots (pc + 3) lv rest (jv_up h a (.inr (ci, fs.set k v)))) : J K cells slots pc lv (v :: .ref a :: rest) h := by
  obtain ⟨p, l, e, R, s, m, args, below, meth, c, G, A, Q⟩ := K
  intro H locs ls hl hR hA hS
  obtain ⟨⟨CC, T, N⟩, ref, hc, hk, -, -, hty, hfin, hin, ⟨ty0, hty0⟩, hnm⟩ := F
  cases Option.some.inj (hq9.symm.trans hc)
  obtain ⟨hexec, hb, c3, hown, hts, hK, c7, c8, c9, c10, -⟩ := C
  have hP := hR.one hh
  have hap := va_apart (own := own) hts hin ty0 hty0 hnm hK hc
  obtain ⟨r, h1, cell, q1, q2, q3, q4⟩ := hP 0 _ rfl
  have hr : r = (CC, T, N) := Option.some.inj (h1.symm.trans hc)
  subst hr
  obtain ⟨hS2, hfc, kC, hkC, hkind⟩ := hK.1 ci _ hc
  obtain ⟨cf, kf, fi, f, hi, hsl⟩ := hS2 k hk
  have hlay := hts _ (hin _ (u_in_lay hk))
  unfold u_lay at hlay
  rw [if_pos hfin] at hlay
  have hst := (u_facts hfc hkC (u_lays hts hin hk) hi).1
  have hcf : m.cls = cf := by
    obtain ⟨_, _, c', _, _, _, -, -, hf', -, -, -, hown2, -⟩ := Cond.laysFinal_spec hlay
    have e1 : c' = cf := by have := hi.symm.trans hf'; simp at this; exact this.1.symm
    rw [hdecl] at hown2
    rw [← e1]; exact Option.some.inj (hown.symm.trans hown2)
  have h6 := u_fits hfc hkC hkind (Or.inr hlay) hi hty hn hfit
  refine W.putFinK hexec hb hown (hts _ hw9) hi hst hcf I (by rw [q2]; exact h6) q1 q3 (by rw [hsl]; exact k2_hasslot (q4 k hk)) rfl rfl d fun H' e1 e2 e3 => ?_
  rw [hsl] at e1 ⊢
  exact kk H' _ ls hl (hR.put ⟨_, hc, t_OB.to (V := updV (vp_V fs) k v) ⟨_, e1, q2, q3, t_set q4 hap hk v⟩ (fun j _ => vp_updV_set hl9 v j)⟩ e3) (jv_dom hA (hA a (by rw [hh]; exact fun z => by cases z))) (hS.put e2 e3 (hA a (by rw [hh]; exact fun z => by cases z)))
-- arrays: reads
theorem J_iald (C : JC K cc nL own fr mc ms) {a n : Nat} {f : Nat → Int32} (hh : h a = some (.inl (0, n, .inl f))) {i : Int32} {j : Nat} (hi : i = nI j) (hj : j < n) (hn : n < 2147483648) (d : decode cc pc = .ok (.iaload, 1)) (kk : J K cells slots (pc + 1) lv (.int (f j) :: rest) h) : J K cells slots pc lv (.int i :: .ref a :: rest) h := by
  obtain ⟨p, l, e, R, s, m, args, below, meth, c, G, A, Q⟩ := K
  intro H locs ls hl hR hA hS
  subst hi
  exact va_iald C.1 C.2.1 C.2.2.2.2.2.1 (hR.one hh) 0 0 rfl rfl (vp_in_nI hj hn) d (by rw [nI_clamp (by omega)]; exact kk H locs ls hl hR hA hS)
theorem J_bald (C : JC K cc nL own fr mc ms) {a n : Nat} {f : Nat → Int32} (hh : h a = some (.inl (1, n, .inl f))) {i : Int32} {j : Nat} (hi : i = nI j) (hj : j < n) (hn : n < 2147483648) (d : decode cc pc = .ok (.baload, 1)) (kk : J K cells slots (pc + 1) lv (.int (f j) :: rest) h) : J K cells slots pc lv (.int i :: .ref a :: rest) h := by
  obtain ⟨p, l, e, R, s, m, args, below, meth, c, G, A, Q⟩ := K
  intro H locs ls hl hR hA hS
  subst hi
  exact va_bald C.1 C.2.1 C.2.2.2.2.2.1 (hR.one hh) 0 1 rfl rfl (vp_in_nI hj hn) d (by rw [nI_clamp (by omega)]; exact kk H locs ls hl hR hA hS)
theorem J_zald (C : JC K cc nL own fr mc ms) {a n : Nat} {f : Nat → Int32} (hh : h a = some (.inl (2, n, .inl f))) {i : Int32} {j : Nat} (hi : i = nI j) (hj : j < n) (hn : n < 2147483648) (d : decode cc pc = .ok (.baload, 1)) (kk : J K cells slots (pc + 1) lv (.int (f j) :: rest) h) : J K cells slots pc lv (.int i :: .ref a :: rest) h := by
  obtain ⟨p, l, e, R, s, m, args, below, meth, c, G, A, Q⟩ := K
  intro H locs ls hl hR hA hS
  subst hi
  exact va_zald C.1 C.2.1 C.2.2.2.2.2.1 (hR.one hh) 0 2 rfl rfl (vp_in_nI hj hn) d (by rw [nI_clamp (by omega)]; exact kk H locs ls hl hR hA hS)
theorem J_lald (C : JC K cc nL own fr mc ms) {a n : Nat} {f : Nat → Int64} (hh : h a = some (.inl (3, n, .inr (.inl f)))) {i : Int32} {j : Nat} (hi : i = nI j) (hj : j < n) (hn : n < 2147483648) (d : decode cc pc = .ok (.laload, 1)) (kk : J K cells slots (pc + 1) lv (.long (f j) :: rest) h) : J K cells slots pc lv (.int i :: .ref a :: rest) h := by
  obtain ⟨p, l, e, R, s, m, args, below, meth, c, G, A, Q⟩ := K
  intro H locs ls hl hR hA hS
  subst hi
  exact va_lald C.1 C.2.1 C.2.2.2.2.2.1 (hR.one hh) 0 3 rfl rfl (vp_in_nI hj hn) d (by rw [nI_clamp (by omega)]; exact kk H locs ls hl hR hA hS)
theorem J_aald (C : JC K cc nL own fr mc ms) {a n kd : Nat} {f : Nat → Option Nat} (hh : h a = some (.inl (kd, n, .inr (.inr (.inr (.inr f)))))) (hkd : kd = 4 ∨ kd = 5) {i : Int32} {j : Nat} (hi : i = nI j) (hj : j < n) (hn : n < 2147483648) (d : decode cc pc = .ok (.aaload, 1)) (kk : J K cells slots (pc + 1) lv (va_rf (f j) :: rest) h) : J K cells slots pc lv (.int i :: .ref a :: rest) h := by
  obtain ⟨p, l, e, R, s, m, args, below, meth, c, G, A, Q⟩ := K
  intro H locs ls hl hR hA hS
  subst hi
  rcases hkd with rfl | rfl
  · exact va_aldq C.1 C.2.1 C.2.2.2.2.2.1 (hR.one hh) 0 4 rfl rfl (vp_in_nI hj hn) d (by rw [nI_clamp (by omega)]; exact kk H locs ls hl hR hA hS)
  · exact va_aldq C.1 C.2.1 C.2.2.2.2.2.1 (hR.one hh) 0 5 rfl rfl (vp_in_nI hj hn) d (by rw [nI_clamp (by omega)]; exact kk H locs ls hl hR hA hS)
theorem J_alen (C : JC K cc nL own fr mc ms) {a kd : Nat} {x : vp_A} (hh : h a = some (.inl (kd, x))) (hkd : kd < 6) (d : decode cc pc = .ok (.arraylength, 1)) (kk : J K cells slots (pc + 1) lv (.int (nI x.1) :: rest) h) : J K cells slots pc lv (.ref a :: rest) h := by
  obtain ⟨p, l, e, R, s, m, args, below, meth, c, G, A, Q⟩ := K
  intro H locs ls hl hR hA hS
  match kd, hkd with
  | 0, _ => exact va_alen C.1 C.2.1 C.2.2.2.2.2.1 (hR.one hh) 0 0 rfl rfl rfl d (kk H locs ls hl hR hA hS)
  | 1, _ => exact va_alen C.1 C.2.1 C.2.2.2.2.2.1 (hR.one hh) 0 1 rfl rfl rfl d (kk H locs ls hl hR hA hS)
  | 2, _ => exact va_alen C.1 C.2.1 C.2.2.2.2.2.1 (hR.one hh) 0 2 rfl rfl rfl d (kk H locs ls hl hR hA hS)
  | 3, _ => exact va_alen C.1 C.2.1 C.2.2.2.2.2.1 (hR.one hh) 0 3 rfl rfl rfl d (kk H locs ls hl hR hA hS)
  | 4, _ => exact va_alen C.1 C.2.1 C.2.2.2.2.2.1 (hR.one hh) 0 4 rfl rfl rfl d (kk H locs ls hl hR hA hS)
  | 5, _ => exact va_alen C.1 C.2.1 C.2.2.2.2.2.1 (hR.one hh) 0 5 rfl rfl rfl d (kk H locs ls hl hR hA hS)
-- arrays: writes
theorem J_iast (C : JC K cc nL own fr mc ms) {a n : Nat} {f : Nat → Int32} (hh : h a = some (.inl (0, n, .inl f))) {i x : Int32} {j : Nat} (hi : i = nI j) (hj : j < n) (hn : n < 2147483648) (d : decode cc pc = .ok (.iastore, 1)) (kk : J K cells slots (pc + 1) lv rest (jv_up h a (.inl (0, n, .inl (upd f j x))))) : J K cells slots pc lv (.int x :: .int i :: .ref a :: rest) h := by
  obtain ⟨p, l, e, R, s, m, args, below, meth, c, G, A, Q⟩ := K
  intro H locs ls hl hR hA hS
  subst hi
  have hin : vp_in (nI j) n := vp_in_nI hj hn
  have hK := C.2.2.2.2.2.1
  have ha := hR a _ hh
  have hAa := hA a (by rw [hh]; exact fun z => by cases z)
  refine W.iast C.1 C.2.1 ha ((hK.2 0 _ rfl).1 n (fun j => .int (f j))) (fun q => by cases q) (by show ¬ (_ < 0 ∨ (arrV _ _ _).slots.size ≤ _); rw [arrV_size]; exact hin) rfl rfl d fun H1 e z oq => ?_
  refine kk H1 _ ls hl (hR.put ?_ oq) (jv_dom hA hAa) (hS.put z oq hAa)
  show H1[a]? = some (vp_cell _ _)
  rw [e]
  show some ((vp_cell (G.2.1 0) (n, .inl f)).setSlot _ _) = some (vp_cell (G.2.1 0) (n, .inl (upd f j x)))
  rw [vp_cell_i, vp_cell_i, arrV_store, nI_clamp (by omega)]
  congr 2
  funext q
  by_cases hq : q = j
  · subst hq
    simp [updV, upd]
  · simp [updV, upd, hq]
theorem J_bast (C : JC K cc nL own fr mc ms) {a n : Nat} {f : Nat → Int32} (hh : h a = some (.inl (1, n, .inl f))) {i x : Int32} {j : Nat} (hi : i = nI j) (hj : j < n) (hn : n < 2147483648) (d : decode cc pc = .ok (.bastore, 1)) (kk : J K cells slots (pc + 1) lv rest (jv_up h a (.inl (1, n, .inl (upd f j (vp_nar .byte x)))))) : J K cells slots pc lv (.int x :: .int i :: .ref a :: rest) h := by
  obtain ⟨p, l, e, R, s, m, args, below, meth, c, G, A, Q⟩ := K
  intro H locs ls hl hR hA hS
  subst hi
  have hin : vp_in (nI j) n := vp_in_nI hj hn
  have hK := C.2.2.2.2.2.1
  have ha := hR a _ hh
  have hAa := hA a (by rw [hh]; exact fun z => by cases z)
  refine W.bast C.1 C.2.1 ha ((hK.2 1 _ rfl).1 n (fun j => .int (f j))) (fun q => by cases q) (by show ¬ (_ < 0 ∨ (arrV _ _ _).slots.size ≤ _); rw [arrV_size]; exact hin) rfl rfl d fun H1 e z oq => ?_
  refine kk H1 _ ls hl (hR.put ?_ oq) (jv_dom hA hAa) (hS.put z oq hAa)
  show H1[a]? = some (vp_cell _ _)
  rw [e]
  show some ((vp_cell (G.2.1 1) (n, .inl f)).setSlot _ _) = some (vp_cell (G.2.1 1) (n, .inl (upd f j (vp_nar .byte x))))
  rw [vp_cell_i, vp_cell_i, arrV_store, nI_clamp (by omega)]
  congr 2
  funext q
  by_cases hq : q = j
  · subst hq
    simp [updV, upd, vp_nar]
    rfl
  · simp [updV, upd, hq]
theorem J_zast (C : JC K cc nL own fr mc ms) {a n : Nat} {f : Nat → Int32} (hh : h a = some (.inl (2, n, .inl f))) {i x : Int32} {j : Nat} (hi : i = nI j) (hj : j < n) (hn : n < 2147483648) (d : decode cc pc = .ok (.bastore, 1)) (kk : J K cells slots (pc + 1) lv rest (jv_up h a (.inl (2, n, .inl (upd f j (vp_nar .boolean x)))))) : J K cells slots pc lv (.int x :: .int i :: .ref a :: rest) h := by
  obtain ⟨p, l, e, R, s, m, args, below, meth, c, G, A, Q⟩ := K
  intro H locs ls hl hR hA hS
  subst hi
  have hin : vp_in (nI j) n := vp_in_nI hj hn
  have hK := C.2.2.2.2.2.1
  have ha := hR a _ hh
  have hAa := hA a (by rw [hh]; exact fun z => by cases z)
  refine W.zast C.1 C.2.1 ha ((hK.2 2 _ rfl).1 n (fun j => .int (f j))) (fun q => by cases q) (by show ¬ (_ < 0 ∨ (arrV _ _ _).slots.size ≤ _); rw [arrV_size]; exact hin) rfl rfl d fun H1 e z oq => ?_
  refine kk H1 _ ls hl (hR.put ?_ oq) (jv_dom hA hAa) (hS.put z oq hAa)
  show H1[a]? = some (vp_cell _ _)
  rw [e]
  show some ((vp_cell (G.2.1 2) (n, .inl f)).setSlot _ _) = some (vp_cell (G.2.1 2) (n, .inl (upd f j (vp_nar .boolean x))))
  rw [vp_cell_i, vp_cell_i, arrV_store, nI_clamp (by omega)]
  congr 2
  funext q
  by_cases hq : q = j
  · subst hq
    simp [updV, upd, vp_nar]
    rfl
  · simp [updV, upd, hq]
theorem J_last (C : JC K cc nL own fr mc ms) {a n : Nat} {f : Nat → Int64} (hh : h a = some (.inl (3, n, .inr (.inl f)))) {i : Int32} {x : Int64} {j : Nat} (hi : i = nI j) (hj : j < n) (hn : n < 2147483648) (d : decode cc pc = .ok (.lastore, 1)) (kk : J K cells slots (pc + 1) lv rest (jv_up h a (.inl (3, n, .inr (.inl (vp_updL f j x)))))) : J K cells slots pc lv (.long x :: .int i :: .ref a :: rest) h := by
  obtain ⟨p, l, e, R, s, m, args, below, meth, c, G, A, Q⟩ := K
  intro H locs ls hl hR hA hS
  subst hi
  have hin : vp_in (nI j) n := vp_in_nI hj hn
  have hK := C.2.2.2.2.2.1
  have ha := hR a _ hh
  have hAa := hA a (by rw [hh]; exact fun z => by cases z)
  refine W.last C.1 C.2.1 ha ((hK.2 3 _ rfl).1 n (fun j => .long (f j))) (fun q => by cases q) (by show ¬ (_ < 0 ∨ (arrV _ _ _).slots.size ≤ _); rw [arrV_size]; exact hin) rfl rfl d fun H1 e z oq => ?_
  refine kk H1 _ ls hl (hR.put ?_ oq) (jv_dom hA hAa) (hS.put z oq hAa)
  show H1[a]? = some (vp_cell _ _)
  rw [e]
  show some ((vp_cell (G.2.1 3) (n, .inr (.inl f))).setSlot _ _) = some (vp_cell (G.2.1 3) (n, .inr (.inl (vp_updL f j x))))
  rw [vp_cell_l, vp_cell_l, arrV_store, nI_clamp (by omega)]
  congr 2
  funext q
  by_cases hq : q = j
  · subst hq
    simp [updV, vp_updL]
  · simp [updV, vp_updL, hq]
end JHEAP
