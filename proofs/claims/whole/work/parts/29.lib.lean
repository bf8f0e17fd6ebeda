/-! Library: what it holds, and what it may touch -/
abbrev lbO (da x n : Nat) (sp : Option Nat) : jE := .inr (3, [.ref da, .ref x, .int (nI n), va_rf sp])
/-- what the program's store may touch, told by kind -/
def lc (h : jH) : Nat → Prop := fun y => match h y with
  | none => True
  | some (.inl (k, _)) => k = 4
  | some (.inr (c, _)) => c = 1 ∨ c = 2 ∨ c = 3 ∨ c = 4 ∨ c = 9 ∨ c = 12
theorem lc_O {h : jH} {y c : Nat} {fs : List Value} (e : h y = some (.inr (c, fs))) (hc : c = 1 ∨ c = 2 ∨ c = 3 ∨ c = 4 ∨ c = 9 ∨ c = 12) : lc h y := by unfold lc; rw [e]; exact hc
theorem lc_A {h : jH} {y n : Nat} {f : Nat → Option Nat} (e : h y = some (alA n f)) : lc h y := by unfold lc; rw [e]
theorem lc_N {h : jH} {y : Nat} (e : h y = none) : lc h y := by unfold lc; rw [e]; trivial
theorem lc_tr {h h1 h2 : jH} (a : fr (lc h) h h1) (b : fr (lc h1) h1 h2) : fr (lc h) h h2 := fun y hy => by
  have e := a y hy
  exact (b y (by unfold lc at hy ⊢; rw [e]; exact hy)).trans e
def gS (h : jH) (SP : List Nat) : Prop := (∀ i p, SP[i]? = some p → ∃ t b n, h p = some (psO none none t b n SP[i+1]?)) ∧ SP.Nodup
def lib0 (l : jL) (h : jH) (b da dd dc x xa xd xc : Nat) (D W SW SP : List Nat) (lt : Nat → Int64) (num len : Nat → Nat) (PD QW : Nat → List Nat) (tot : Nat → Nat) (tm pa : Nat → Nat → Nat) (nx : Nat → Nat → Option Nat) (fi : Nat → Option Nat) (sf : Nat → sfT) (n : Nat) : Prop :=
  h b = some (lbO da x n SP[0]?) ∧ al l h 1 da dd dc D ∧ lx l h x xa xd xc W SW lt ∧ (da ≠ xa ∧ (dc ≠ 0 → xc ≠ 0 → dd ≠ xd)) ∧ gW h W lt PD tot pa ∧ gP h W PD tm pa nx ∧ gD h D num len fi sf ∧ gL W D PD QW pa nx ∧ gS h SP ∧ gT W PD tm tot ∧ D.Nodup
section LIB
variable {l : jL} {h h1 : jH}
theorem al_up {ci a d cap : Nat} {L : List Nat} (A : al l h ci a d cap L) (ha : h1 a = h a) (hd : cap ≠ 0 → h1 d = h d) (hL : ∀ y ∈ L, ∃ fs, h1 y = some (.inr (ci, fs))) : al l h1 ci a d cap L := by
  obtain ⟨mcn, a1, a2, a3⟩ := A
  refine ⟨mcn, ha.trans a1, hL, ?_⟩
  rcases a3 with e | ⟨c1, c2, c3, f, f1, f2⟩
  · exact Or.inl e
  · exact Or.inr ⟨c1, c2, c3, f, (hd (by omega)).trans f1, f2⟩
theorem lx_up {x a d cap : Nat} {W SW : List Nat} {lt : Nat → Int64} (X : lx l h x a d cap W SW lt) (hx : h1 x = h x) (ha : h1 a = h a) (hd : cap ≠ 0 → h1 d = h d) (hW : ∀ w ∈ W, ∃ hold tot fst sp, h1 w = some (wdO (lt w) hold tot fst sp)) (hS : ∀ w ∈ SW, h1 w = h w) : lx l h1 x a d cap W SW lt := by
  obtain ⟨x1, x2, x3, x4, x5, x6, x7⟩ := X
  refine ⟨hx.trans x1, al_up x2 ha hd (fun y hy => ?_), hW, x4, fun i w hi => ?_, x6, x7⟩
  · obtain ⟨b1, b2, b3, b4, b5⟩ := hW y hy
    exact ⟨_, b5⟩
  · obtain ⟨L, b2, b3, b4, b5⟩ := x5 i w hi
    exact ⟨L, b2, b3, b4, (hS w (List.mem_of_getElem? hi)).trans b5⟩
theorem lx_nodup {x a d cap : Nat} {W SW : List Nat} {lt : Nat → Int64} (X : lx l h x a d cap W SW lt) : W.Nodup := by
  obtain ⟨x1, x2, x3, x4, x5, x6, x7⟩ := X
  refine List.pairwise_iff_getElem.mpr (fun i j hi hj hij z => ?_)
  have := x4 i j W[i] W[j] hij (List.getElem?_eq_getElem hi) (List.getElem?_eq_getElem hj)
  rw [z] at this
  exact Int64.lt_irrefl this
variable {b da dd dc x xa xd xc : Nat} {D W SW SP : List Nat} {lt : Nat → Int64} {num len : Nat → Nat} {PD QW : Nat → List Nat} {tot : Nat → Nat} {tm pa : Nat → Nat → Nat} {nx : Nat → Nat → Option Nat} {fi : Nat → Option Nat} {sf : Nat → sfT} {n : Nat}
/-- unlinking one posting -/
theorem lib0_unl (B : lib0 l h b da dd dc x xa xd xc D W SW SP lt num len PD QW tot tm pa nx fi sf n) {w i e t : Nat} {rest : List Nat} (he : e ∈ D) (hq : QW e = w :: rest) (hi : (PD w)[i]? = some e) (ht : t = tm w e) {L : Int64} (hL : L = lt w) {hold tt : Nat} (hh : hold = (PD w).length) (htt : tt = tot w) {sp fst bf nn : Option Nat} (hsp : h w = some (wdO L hold tt fst sp)) (hf : fst = (PD w)[0]?.map (pa w)) (hb : bf = prv (PD w) (pa w) i) (hn : nn = nxt (PD w) (pa w) i)
    (U : unlP h w (pa w e) L hold tt t sp fst bf nn (cellAt PD tm pa nx w (i-1)) (cellAt PD tm pa nx w (i+1)) h1) :
    lib0 l h1 b da dd dc x xa xd xc D W SW SP lt num len (va_up PD w ((PD w).eraseIdx i)) (va_up QW e rest) (va_up tot w (tot w - tm w e)) tm pa nx fi sf n ∧ h1 (pa w e) = h (pa w e) ∧ h1 w = some (wdO (lt w) ((PD w).length - 1) (tot w - tm w e) (((PD w).eraseIdx i)[0]?.map (pa w)) sp) ∧ fr (lc h) h h1 ∧ ∀ u ∈ W, ∀ v ∈ va_up PD w ((PD w).eraseIdx i) u, pa u v ≠ pa w e := by
  obtain ⟨b1, b2, b3, b4, b5, b6, b7, b8, b9, b10, b11⟩ := B
  have hqe := (b8.2 e he).2 0 w (by rw [hq]; rfl)
  have hw : w ∈ W := hqe.1
  have hnw := (b8.1 w hw).1
  have hne : w ∉ rest := by
    have := (b8.2 e he).1
    rw [hq] at this
    exact (List.nodup_cons.mp this).1
  obtain ⟨g1, g2, g3, g4, g5, g6⟩ := g_unl b5 b6 b7 (fun u hu => (b8.1 u hu).1) hw hi ht hL hh htt hsp hf hb hn U
  have oth : ∀ y, (∀ fs, h y ≠ some (.inr (9, fs))) → (∀ fs, h y ≠ some (.inr (4, fs))) → h1 y = h y := fun y hy1 hy2 => g5 y (fun z => hy1 _ (z ▸ hsp)) hy2
  have ob : ∀ {y : Nat} {z : jE}, h y = some z → (∀ fs, z ≠ .inr (9, fs)) → (∀ fs, z ≠ .inr (4, fs)) → h1 y = h y := fun {y z} e z1 z2 => oth y (fun fs q => z1 fs (Option.some.inj (e.symm.trans q))) (fun fs q => z2 fs (Option.some.inj (e.symm.trans q)))
  have upw : va_up PD w ((PD w).eraseIdx i) w = (PD w).eraseIdx i := if_pos rfl
  have upo : ∀ u, u ≠ w → va_up PD w ((PD w).eraseIdx i) u = PD u := fun u hu => if_neg hu
  have uqe : va_up QW e rest e = rest := if_pos rfl
  have uqo : ∀ v, v ≠ e → va_up QW e rest v = QW v := fun v hv => if_neg hv
  have okA : ∀ {ci a d cap : Nat} {L : List Nat}, al l h ci a d cap L → h1 a = h a ∧ (cap ≠ 0 → h1 d = h d) := by
    intro ci a d cap L A
    obtain ⟨mcn, a1, a2, a3⟩ := id A
    exact ⟨ob a1 (fun fs z => by cases z) (fun fs z => by cases z), fun hc => by obtain ⟨f, f1⟩ := al_dA A hc; exact ob f1 (fun fs z => by cases z) (fun fs z => by cases z)⟩
  have hD : ∀ v ∈ D, h1 v = h v := fun v hv => ob (b7 v hv) (fun fs z => by cases z) (fun fs z => by cases z)
  have hunl : ∀ v, v ∈ (PD w).eraseIdx i ↔ v ∈ PD w ∧ v ≠ e := fun v => mem_erase_iff hnw hi v
  have okD := okA b2
  have okX := okA b3.2.1
  have hSW : ∀ u ∈ SW, h1 u = h u := by
    intro u hu
    obtain ⟨j, hj⟩ := List.getElem?_of_mem hu
    obtain ⟨L9, b92, b93, b94, b95⟩ := b3.2.2.2.2.1 j u hj
    exact g5 u (fun z => b3.2.2.2.2.2.2 u hu (z ▸ hw)) (fun fs z => by rw [b95] at z; cases z)
  have hSP : ∀ p ∈ SP, h1 p = h p := by
    intro p hp
    obtain ⟨j, hj⟩ := List.getElem?_of_mem hp
    obtain ⟨t9, p1, p2, p3⟩ := b9.1 j p hj
    have nb : ∀ k v : Nat, (PD w)[k]? = some v → p ≠ pa w v := by
      intro k v hv z
      have := b6 w hw k v hv
      rw [← z, p3] at this
      have := (psO_inj this).1
      cases this
    refine U.2.2.2 p (fun z => ?_)
    rcases z with z | z | z
    · rw [z, hsp] at p3; cases p3
    · rw [hb] at z
      unfold prv at z
      by_cases c : i = 0
      · rw [if_pos c] at z; cases z
      · rw [if_neg c] at z
        obtain ⟨v, v1, v2⟩ := Option.map_eq_some_iff.mp z
        exact nb _ v v1 v2.symm
    · rw [hn] at z
      unfold nxt at z
      obtain ⟨v, v1, v2⟩ := Option.map_eq_some_iff.mp z
      exact nb _ v v1 v2.symm
  refine ⟨⟨(ob b1 (fun fs z => by cases z) (fun fs z => by cases z)).trans b1, al_up b2 okD.1 okD.2 (fun y hy => ⟨_, g3 y hy⟩), lx_up b3 (ob b3.1 (fun fs z => by cases z) (fun fs z => by cases z)) okX.1 okX.2 (fun u hu => ?_) hSW, b4, g1, g2, g3, ⟨fun u hu => ?_, fun v hv => ?_⟩, ⟨fun j p hj => ?_, b9.2⟩, fun u hu => ?_, b11⟩, g4, g6, fun y hy => ?_, fun u hu v hv z => ?_⟩
  · obtain ⟨sp9, h9⟩ := g1 u hu
    exact ⟨_, _, _, _, h9⟩
  · by_cases c : u = w
    · subst c
      rw [upw]
      refine ⟨nodup_erase hnw i, fun v hv => ?_⟩
      obtain ⟨hv1, hv2⟩ := (hunl v).mp hv
      rw [uqo v hv2]
      exact (b8.1 u hu).2 v hv1
    · rw [upo u c]
      refine ⟨(b8.1 u hu).1, fun v hv => ?_⟩
      obtain ⟨q1, q2⟩ := (b8.1 u hu).2 v hv
      refine ⟨q1, ?_⟩
      by_cases c2 : v = e
      · subst c2
        rw [uqe]
        rw [hq] at q2
        exact (List.mem_cons.mp q2).elim (fun z => absurd z c) id
      · rw [uqo v c2]; exact q2
  · by_cases c : v = e
    · subst c
      rw [uqe]
      have hnd := (b8.2 v hv).1
      rw [hq] at hnd
      refine ⟨(List.nodup_cons.mp hnd).2, fun j u hj => ?_⟩
      obtain ⟨q1, q2, q3⟩ := (b8.2 v hv).2 (j + 1) u (by rw [hq, List.getElem?_cons_succ]; exact hj)
      rw [hq, List.getElem?_cons_succ] at q3
      refine ⟨q1, ?_, q3⟩
      rw [upo u (fun z => hne (z ▸ List.mem_of_getElem? hj))]
      exact q2
    · rw [uqo v c]
      refine ⟨(b8.2 v hv).1, fun j u hj => ?_⟩
      obtain ⟨q1, q2, q3⟩ := (b8.2 v hv).2 j u hj
      refine ⟨q1, ?_, q3⟩
      by_cases c2 : u = w
      · subst c2
        rw [upw]
        exact (hunl v).mpr ⟨q2, c⟩
      · rw [upo u c2]; exact q2
  · obtain ⟨t9, p1, p2, p3⟩ := b9.1 j p hj
    exact ⟨t9, p1, p2, (hSP p (List.mem_of_getElem? hj)).trans p3⟩
  · by_cases c : u = w
    · subst c
      rw [upw, show va_up tot u (tot u - tm u e) u = tot u - tm u e from if_pos rfl]
      have := sum_erase (tm u) (PD u) i e hi
      have h10 := b10 u hu
      omega
    · rw [upo u c, show va_up tot w (tot w - tm w e) u = tot u from if_neg c]
      exact b10 u hu
  · refine oth y (fun fs z => hy (lc_O z ?_)) (fun fs z => hy (lc_O z ?_)) <;> simp
  · obtain ⟨z1, z2⟩ : u = w ∧ v = e := by
      by_cases c : u = w
      · subst c
        rw [upw] at hv
        have := gP_inj b6 hu ((hunl v).mp hv).1 hw (List.mem_of_getElem? hi) z
        exact this
      · rw [upo u c] at hv
        exact gP_inj b6 hu hv hw (List.mem_of_getElem? hi) z
    subst z1
    rw [upw] at hv
    exact ((hunl v).mp hv).2 z2
end LIB
