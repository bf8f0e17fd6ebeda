/-! RankedSearch: its state -/
def libI (l : jL) (h : jH) (b : Nat) (ds : dsT) (V : List Int64) (j : Nat) : Prop :=
  ∃ DL num wl da dd dc x xa xd xc W SW SP lt len PD QW tot tm pa nx fi sf n, lib0 l h b da dd dc x xa xd xc DL W SW SP lt num len PD QW tot tm pa nx fi sf n ∧ (∀ u ∈ W, PD u ≠ []) ∧ gF DL QW fi pa ∧ gA W DL lt PD tm len wl ∧ n = (DL.map len).sum ∧ (∀ d ∈ DL, (sf d).1 = false) ∧ (dc ≤ 200 ∧ xc ≤ 19510 ∧ W.length ≤ 200 * j) ∧ (dsOf DL num wl).Perm ds ∧ V = W.map lt
def dsI (ds : dsT) : Prop := (ds.map (·.1)).Nodup ∧ (∀ p ∈ ds, p.1 < 10000 ∧ p.2.length ≤ 200) ∧ ds.length ≤ 120
abbrev rkO (t b q s a : Nat) : jE := .inr (10, [.ref t, .ref b, .ref q, .ref s, .ref a])
def rkI (l : jL) (h : jH) (r t tb b q ta : Nat) (tt : Nat → Nat) (s a an ap nt : Nat) (f : Nat → Int32) (ds : dsT) (V : List Int64) (j fk : Nat) (fp : Int32) (L : List hiT) : Prop :=
  h r = some (rkO t b q s a) ∧ tp_is h t tb nt f ∧ libI l h b ds V j ∧ (∃ cur qs, qy h q ta tt cur fk fp qs) ∧ (∃ nd, h s = some (srO none nd)) ∧ (∃ lim, bs h a an ap lim L) ∧ dsI ds
/-- what it may touch -/
def rkS (h : jH) (t tb q : Nat) (tt : Nat → Nat) (s a an ap : Nat) : Nat → Prop := fun y => lc h y ∨ y = s ∨ bs_S a an ap y ∨ qy_S q tt y ∨ y = t ∨ y = tb
/-- no thing of the library -/
theorem lc_no {h : jH} {y c : Nat} {fs : List Value} (e : h y = some (.inr (c, fs))) (hc : c ≠ 1 ∧ c ≠ 2 ∧ c ≠ 3 ∧ c ≠ 4 ∧ c ≠ 9 ∧ c ≠ 12) : ¬ lc h y := by
  unfold lc
  rw [e]
  intro z
  have z : c = 1 ∨ c = 2 ∨ c = 3 ∨ c = 4 ∨ c = 9 ∨ c = 12 := z
  omega
theorem lc_noA {h : jH} {y k : Nat} {v : vp_A} (e : h y = some (.inl (k, v))) (hc : k ≠ 4) : ¬ lc h y := by
  unfold lc
  rw [e]
  exact hc
theorem qy_up2 {h h1 : jH} {a ta : Nat} {tt : Nat → Nat} {cur fk : Nat} {fp : Int32} {s : qsT} (Y : qy h a ta tt cur fk fp s) (e1 : h1 a = h a) (e2 : h1 ta = h ta) (e3 : ∀ i, i < 16 → h1 (tt i) = h (tt i)) : qy h1 a ta tt cur fk fp s := by
  obtain ⟨y1, ⟨f, y2, y3⟩, y4, y5⟩ := Y
  exact ⟨e1.trans y1, ⟨f, e2.trans y2, y3⟩, fun i hi => (e3 i hi).trans (y4 i hi), y5⟩
section RANK
variable {l : jL} {h h1 : jH} {b da dd dc x xa xd xc s : Nat} {DL W SW SP M : List Nat} {lt : Nat → Int64} {num len : Nat → Nat} {PD QW : Nat → List Nat} {tot : Nat → Nat} {tm pa : Nat → Nat → Nat} {nx : Nat → Nat → Option Nat} {fi : Nat → Option Nat} {sf : Nat → sfT} {n : Nat}
/-- the library where none of its things changed -/
theorem lib0_keep (B : lib0 l h b da dd dc x xa xd xc DL W SW SP lt num len PD QW tot tm pa nx fi sf n) (e : ∀ y, lc h y → (∃ z, h y = some z) → h1 y = h y) : lib0 l h1 b da dd dc x xa xd xc DL W SW SP lt num len PD QW tot tm pa nx fi sf n := by
  obtain ⟨b1, b2, b3, b4, b5, b6, b7, b8, b9, b10, b11⟩ := B
  obtain ⟨⟨xf, xa1⟩, xd1⟩ := al_ad b3.2.1
  obtain ⟨⟨df, da1⟩, dd1⟩ := al_ad b2
  have keep : ∀ {y c : Nat} {fs : List Value}, h y = some (.inr (c, fs)) → (c = 1 ∨ c = 2 ∨ c = 3 ∨ c = 4 ∨ c = 9 ∨ c = 12) → h1 y = h y := fun q hc => e _ (lc_O q hc) ⟨_, q⟩
  refine ⟨(keep b1 (by decide)).trans b1, al_up b2 (keep da1 (by decide)) (fun hc => ?_) (fun y hy => ⟨_, (keep (b7 y hy) (by decide)).trans (b7 y hy)⟩), lx_up b3 (keep b3.1 (by decide)) (keep xa1 (by decide)) (fun hc => ?_) (fun u hu => ?_) (fun u hu => ?_), b4, fun u hu => ?_, fun u hu2 j v hv => ?_, fun y hy => (keep (b7 y hy) (by decide)).trans (b7 y hy), b8, ⟨fun j q hj => ?_, b9.2⟩, b10, b11⟩
  · obtain ⟨f, f1⟩ := dd1 hc
    exact e _ (lc_A f1) ⟨_, f1⟩
  · obtain ⟨f, f1⟩ := xd1 hc
    exact e _ (lc_A f1) ⟨_, f1⟩
  · obtain ⟨c1, c2, c3, c4, c5⟩ := b3.2.2.1 u hu
    exact ⟨c1, c2, c3, c4, (keep c5 (by decide)).trans c5⟩
  · obtain ⟨j, hj⟩ := List.getElem?_of_mem hu
    obtain ⟨c1, c2, c3, c4, c5⟩ := b3.2.2.2.2.1 j u hj
    exact keep c5 (by decide)
  · obtain ⟨sp9, h9⟩ := b5 u hu
    exact ⟨sp9, (keep h9 (by decide)).trans h9⟩
  · have h9 := b6 u hu2 j v hv
    exact (keep h9 (by decide)).trans h9
  · obtain ⟨t9, p1, p2, p3⟩ := b9.1 j q hj
    exact ⟨t9, p1, p2, (keep p3 (by decide)).trans p3⟩
variable {r t tb q ta a an ap nt : Nat} {tt : Nat → Nat} {f : Nat → Int32} {ds : dsT} {V : List Int64} {j fk : Nat} {fp : Int32} {L : List hiT}
theorem libI_keep (B : libI l h b ds V j) (e : ∀ y, lc h y → (∃ z, h y = some z) → h1 y = h y) : libI l h1 b ds V j := by
  obtain ⟨DL, num, wl, da, dd, dc, x, xa, xd, xc, W, SW, SP, lt, len, PD, QW, tot, tm, pa, nx, fi, sf, n, B, Bs⟩ := B
  exact ⟨DL, num, wl, da, dd, dc, x, xa, xd, xc, W, SW, SP, lt, len, PD, QW, tot, tm, pa, nx, fi, sf, n, lib0_keep B e, Bs⟩
/-- no things of the library: all others -/
theorem rk_no (I : rkI l h r t tb b q ta tt s a an ap nt f ds V j fk fp L) : ¬ lc h r ∧ ¬ lc h t ∧ ¬ lc h tb ∧ ¬ lc h q ∧ ¬ lc h ta ∧ (∀ i, i < 16 → ¬ lc h (tt i)) ∧ ¬ lc h s ∧ ∀ y, bs_S a an ap y → ¬ lc h y := by
  obtain ⟨i1, ⟨i2, i3, -⟩, -, ⟨cur, qs, y1, ⟨g, y2, -⟩, y4, -⟩, ⟨nd, i5⟩, ⟨lim, fN, fP, ⟨b1, b2, b3, -⟩, -⟩, -⟩ := I
  refine ⟨lc_no i1 (by decide), lc_no i2 (by decide), lc_noA i3 (by decide), lc_no y1 (by decide), lc_noA y2 (by decide), fun i hi => lc_no (y4 i hi) (by decide), lc_no i5 (by decide), ?_⟩
  rintro y (rfl | rfl | rfl)
  · exact lc_no b1 (by decide)
  · exact lc_noA b2 (by decide)
  · exact lc_noA b3 (by decide)
/-- a change of the library -/
theorem rk_lib (I : rkI l h r t tb b q ta tt s a an ap nt f ds V j fk fp L) (F : fr (lc h) h h1) {ds' : dsT} {V' : List Int64} {j' : Nat} (B : libI l h1 b ds' V' j') (D' : dsI ds') : rkI l h1 r t tb b q ta tt s a an ap nt f ds' V' j' fk fp L ∧ fr (rkS h t tb q tt s a an ap) h h1 := by
  obtain ⟨n1, n2, n3, n4, n5, n6, n7, n8⟩ := rk_no I
  obtain ⟨i1, ⟨i2, i3, i3b⟩, i4, ⟨cur, qs, y1, ⟨g, y2, y3⟩, y4, y5⟩, ⟨nd, i5⟩, ⟨lim, i6⟩, i7⟩ := I
  refine ⟨⟨(F r n1).trans i1, ⟨(F t n2).trans i2, (F tb n3).trans i3, i3b⟩, B, ⟨cur, qs, (F q n4).trans y1, ⟨g, (F ta n5).trans y2, y3⟩, fun i hi => (F _ (n6 i hi)).trans (y4 i hi), y5⟩, ⟨nd, (F s n7).trans i5⟩, ⟨lim, bs_up i6 (fun y hy => F y (n8 y hy))⟩, D'⟩, fr_mono F (fun y hy => Or.inl hy)⟩
/-- no change of the library -/
theorem rk_keepL (I : rkI l h r t tb b q ta tt s a an ap nt f ds V j fk fp L) {S : Nat → Prop} (F : fr S h h1) (hS : ∀ y, S y → (∃ z, h y = some z) → ¬ lc h y) : libI l h1 b ds V j :=
  libI_keep I.2.2.1 (fun y hy he => F y (fun z => hS y z he hy))
/-- the tape changed -/
theorem rk_tape (I : rkI l h r t tb b q ta tt s a an ap nt f ds V j fk fp L) (F : fr (fun y => y = t ∨ y = tb) h h1) {nt' : Nat} {f' : Nat → Int32} (T : tp_is h1 t tb nt' f') : rkI l h1 r t tb b q ta tt s a an ap nt' f' ds V j fk fp L ∧ fr (rkS h t tb q tt s a an ap) h h1 := by
  obtain ⟨n1, n2, n3, n4, n5, n6, n7, n8⟩ := rk_no I
  have K := rk_keepL I F (fun y hy _ => by rcases hy with rfl | rfl; exact n2; exact n3)
  obtain ⟨i1, ⟨i2, i3, i3b⟩, i4, ⟨cur, qs, i9⟩, ⟨nd, i5⟩, ⟨lim, i6⟩, i7⟩ := I
  obtain ⟨fN, fP, ⟨b1, b2, b3, -⟩, -⟩ := id i6
  refine ⟨⟨(F r (fun z => z.elim (jv_neO i1 i2 (by decide)) (jv_neA i1 i3))).trans i1, T, K, ⟨cur, qs, qy_up2 i9 (F q (fun z => z.elim (jv_neO i9.1 i2 (by decide)) (jv_neA i9.1 i3))) (F ta ?_) (fun i hi => F _ (fun z => z.elim (jv_neO (i9.2.2.1 i hi) i2 (by decide)) (jv_neA (i9.2.2.1 i hi) i3)))⟩, ⟨nd, (F s (fun z => z.elim (jv_neO i5 i2 (by decide)) (jv_neA i5 i3))).trans i5⟩, ⟨lim, bs_up i6 (fun y hy => F y ?_)⟩, i7⟩, fr_mono F (fun y hy => Or.inr (Or.inr (Or.inr (Or.inr hy))))⟩
  · obtain ⟨y1, ⟨g, y2, y3⟩, y4, y5⟩ := i9
    rintro (z | z)
    · exact jv_neA i2 y2 z.symm
    · rw [z, i3] at y2; cases y2
  · rintro (rfl | rfl)
    · exact bs_no i6 i2 (by decide) hy
    · rcases hy with z | z | z
      · exact jv_neA b1 i3 z.symm
      · rw [z, b2] at i3; cases i3
      · rw [z, b3] at i3; cases i3
/-- the query read -/
theorem rk_query (I : rkI l h r t tb b q ta tt s a an ap nt f ds V j fk fp L) (F : fr (qy_S q tt) h h1) {fk' : Nat} {fp' : Int32} (Q : ∃ cur qs, qy h1 q ta tt cur fk' fp' qs) : rkI l h1 r t tb b q ta tt s a an ap nt f ds V j fk' fp' L ∧ fr (rkS h t tb q tt s a an ap) h h1 := by
  obtain ⟨n1, n2, n3, n4, n5, n6, n7, n8⟩ := rk_no I
  have K := rk_keepL I F (fun y hy _ => by
    rcases hy with rfl | ⟨i, hi, rfl⟩
    · exact n4
    · exact n6 i hi)
  obtain ⟨i1, ⟨i2, i3, i3b⟩, i4, ⟨cur, qs, i9⟩, ⟨nd, i5⟩, ⟨lim, i6⟩, i7⟩ := I
  have no : ∀ {y c : Nat} {fs : List Value}, h y = some (.inr (c, fs)) → c ≠ 5 ∧ c ≠ 8 → h1 y = h y := fun e hc => F _ (fun z => by
    rcases z with z | ⟨i, hi, z⟩
    · exact jv_neO e i9.1 hc.1 z
    · exact jv_neO e (i9.2.2.1 i hi) hc.2 z)
  have noA : ∀ {y : Nat} {v : Nat × vp_A}, h y = some (.inl v) → h1 y = h y := fun e => F _ (fun z => by
    rcases z with z | ⟨i, hi, z⟩
    · exact jv_neA i9.1 e z.symm
    · exact jv_neA (i9.2.2.1 i hi) e z.symm)
  refine ⟨⟨(no i1 (by decide)).trans i1, ⟨(no i2 (by decide)).trans i2, (noA i3).trans i3, i3b⟩, K, Q, ⟨nd, (no i5 (by decide)).trans i5⟩, ⟨lim, bs_up i6 (fun y hy => ?_)⟩, i7⟩, fr_mono F (fun y hy => Or.inr (Or.inr (Or.inr (Or.inl hy))))⟩
  obtain ⟨fN, fP, ⟨b1, b2, b3, -⟩, -⟩ := i6
  rcases hy with rfl | rfl | rfl
  · exact no b1 (by decide)
  · exact noA b2
  · exact noA b3
/-- the finds changed -/
theorem rk_best (I : rkI l h r t tb b q ta tt s a an ap nt f ds V j fk fp L) (F : fr (bs_S a an ap) h h1) {L' : List hiT} {lim : Nat} (Q : bs h1 a an ap lim L') : rkI l h1 r t tb b q ta tt s a an ap nt f ds V j fk fp L' ∧ fr (rkS h t tb q tt s a an ap) h h1 := by
  obtain ⟨n1, n2, n3, n4, n5, n6, n7, n8⟩ := rk_no I
  have K := rk_keepL I F (fun y hy _ => n8 y hy)
  obtain ⟨i1, ⟨i2, i3, i3b⟩, i4, ⟨cur, qs, i9⟩, ⟨nd, i5⟩, ⟨lim, i6⟩, i7⟩ := I
  have no : ∀ {y c : Nat} {fs : List Value}, h y = some (.inr (c, fs)) → c ≠ 0 → h1 y = h y := fun e hc => F _ (bs_no i6 e hc)
  have noA : ∀ {y k : Nat} {v : vp_A}, h y = some (.inl (k, v)) → k ≠ 0 → h1 y = h y := fun e hk => F _ (fun z => by
    obtain ⟨fN, fP, ⟨b1, b2, b3, -⟩, -⟩ := i6
    rcases z with z | z | z
    · exact jv_neA b1 e z.symm
    · rw [z, b2] at e; cases e; exact hk rfl
    · rw [z, b3] at e; cases e; exact hk rfl)
  obtain ⟨y1, ⟨g, y2, y3⟩, y4, y5⟩ := id i9
  exact ⟨⟨(no i1 (by decide)).trans i1, ⟨(no i2 (by decide)).trans i2, (noA i3 (by decide)).trans i3, i3b⟩, K, ⟨cur, qs, qy_up2 i9 (no y1 (by decide)) (noA y2 (by decide)) (fun i hi => no (y4 i hi) (by decide))⟩, ⟨nd, (no i5 (by decide)).trans i5⟩, ⟨_, Q⟩, i7⟩, fr_mono F (fun y hy => Or.inr (Or.inr (Or.inl hy)))⟩
end RANK
