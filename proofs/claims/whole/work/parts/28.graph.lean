/-! the graph of words, documents and postings: chains as lists -/
def prv (L : List Nat) (f : Nat → Nat) (i : Nat) : Option Nat := if i = 0 then none else (L[i-1]?).map f
def nxt (L : List Nat) (f : Nat → Nat) (i : Nat) : Option Nat := (L[i+1]?).map f
def gW (h : jH) (W : List Nat) (lt : Nat → Int64) (PD : Nat → List Nat) (tot : Nat → Nat) (pa : Nat → Nat → Nat) : Prop := ∀ w ∈ W, ∃ sp, h w = some (wdO (lt w) (PD w).length (tot w) ((PD w)[0]?.map (pa w)) sp)
def gP (h : jH) (W : List Nat) (PD : Nat → List Nat) (tm pa : Nat → Nat → Nat) (nx : Nat → Nat → Option Nat) : Prop := ∀ w ∈ W, ∀ i e, (PD w)[i]? = some e → h (pa w e) = some (psO (some w) (some e) (tm w e) (prv (PD w) (pa w) i) (nxt (PD w) (pa w) i) (nx w e))
def gD (h : jH) (D : List Nat) (num len : Nat → Nat) (fi : Nat → Option Nat) (sf : Nat → sfT) : Prop := ∀ e ∈ D, h e = some (dcO (num e) (len e) (fi e) (sf e))
/-- the chains agree: a document's words, a word's documents -/
def gL (W D : List Nat) (PD QW : Nat → List Nat) (pa : Nat → Nat → Nat) (nx : Nat → Nat → Option Nat) : Prop :=
  (∀ w ∈ W, (PD w).Nodup ∧ ∀ e ∈ PD w, e ∈ D ∧ w ∈ QW e) ∧ ∀ e ∈ D, (QW e).Nodup ∧ ∀ j w, (QW e)[j]? = some w → w ∈ W ∧ e ∈ PD w ∧ nx w e = (QW e)[j+1]?.map (fun u => pa u e)
def gT (W : List Nat) (PD : Nat → List Nat) (tm : Nat → Nat → Nat) (tot : Nat → Nat) : Prop := ∀ w ∈ W, tot w = ((PD w).map (tm w)).sum
theorem va_rf_inj {a b : Option Nat} (h : va_rf a = va_rf b) : a = b := by
  cases a <;> cases b <;> first | rfl | (cases h; rfl) | cases h
theorem psO_inj {w d w' d' : Option Nat} {t t' : Nat} {b n x b' n' x' : Option Nat} (h : some (psO w d t b n x) = some (psO w' d' t' b' n' x')) : w = w' ∧ d = d' := by
  injection h with h
  injection h with h
  injection h with _ h
  injection h with h1 h
  injection h with h2 h
  exact ⟨va_rf_inj h1, va_rf_inj h2⟩
theorem gP_inj {h : jH} {W : List Nat} {PD : Nat → List Nat} {tm pa : Nat → Nat → Nat} {nx : Nat → Nat → Option Nat} (P : gP h W PD tm pa nx) {w w' e e' : Nat} (hw : w ∈ W) (he : e ∈ PD w) (hw' : w' ∈ W) (he' : e' ∈ PD w') (z : pa w e = pa w' e') : w = w' ∧ e = e' := by
  obtain ⟨i, hi⟩ := List.getElem?_of_mem he
  obtain ⟨j, hj⟩ := List.getElem?_of_mem he'
  have h1 := P w hw i e hi
  have h2 := P w' hw' j e' hj
  rw [z, h2] at h1
  have := psO_inj h1
  exact ⟨(Option.some.inj this.1).symm, (Option.some.inj this.2).symm⟩
theorem nodup_idx {L : List Nat} (hn : L.Nodup) {i j x : Nat} (hi : L[i]? = some x) (hj : L[j]? = some x) : i = j := by
  have h1 := (List.getElem?_eq_some_iff.mp hi)
  have h2 := (List.getElem?_eq_some_iff.mp hj)
  obtain ⟨a1, a2⟩ := h1
  obtain ⟨b1, b2⟩ := h2
  have hp := List.pairwise_iff_getElem.mp hn
  rcases Nat.lt_trichotomy i j with c | c | c
  · exact absurd (a2.trans b2.symm) (hp i j a1 b1 c)
  · exact c
  · exact absurd (b2.trans a2.symm) (hp j i b1 a1 c)
theorem sum_erase (f : Nat → Nat) : ∀ (L : List Nat) (i e : Nat), L[i]? = some e → ((L.eraseIdx i).map f).sum + f e = (L.map f).sum
  | [], _, _, h => by cases h
  | y :: t, 0, e, h => by cases h; simp [Nat.add_comm]
  | y :: t, i + 1, e, h => by
    rw [List.getElem?_cons_succ] at h
    have := sum_erase f t i e h
    simp only [List.eraseIdx_cons_succ, List.map_cons, List.sum_cons]
    omega
theorem mem_erase_iff {L : List Nat} (hn : L.Nodup) {i e : Nat} (hi : L[i]? = some e) (x : Nat) : x ∈ L.eraseIdx i ↔ x ∈ L ∧ x ≠ e := by
  constructor
  · intro hx
    refine ⟨List.mem_of_mem_eraseIdx hx, fun z => ?_⟩
    subst z
    obtain ⟨j, hj⟩ := List.getElem?_of_mem hx
    rw [List.getElem?_eraseIdx] at hj
    by_cases c : j < i
    · rw [if_pos c] at hj; have := nodup_idx hn hj hi; omega
    · rw [if_neg c] at hj; have := nodup_idx hn hj hi; omega
  · rintro ⟨hx, hne⟩
    obtain ⟨j, hj⟩ := List.getElem?_of_mem hx
    have hji : j ≠ i := fun z => by subst z; rw [hi] at hj; cases hj; exact hne rfl
    rcases Nat.lt_or_gt_of_ne hji with c | c
    · exact List.mem_of_getElem? (i := j) (by rw [List.getElem?_eraseIdx, if_pos c]; exact hj)
    · exact List.mem_of_getElem? (i := j - 1) (by rw [List.getElem?_eraseIdx, if_neg (by omega), show j - 1 + 1 = j by omega]; exact hj)
theorem nodup_erase {L : List Nat} (hn : L.Nodup) (i : Nat) : (L.eraseIdx i).Nodup := hn.sublist (List.eraseIdx_sublist L i)
section GRAPH
variable {h h1 : jH} {W D : List Nat} {lt : Nat → Int64} {PD QW : Nat → List Nat} {tot num len : Nat → Nat} {tm pa : Nat → Nat → Nat} {nx : Nat → Nat → Option Nat} {fi : Nat → Option Nat} {sf : Nat → sfT}
/-- the neighbour's cell, as unlink wants it -/
def cellAt (PD : Nat → List Nat) (tm pa : Nat → Nat → Nat) (nx : Nat → Nat → Option Nat) (w i : Nat) : Option Nat × Option Nat × Nat × Option Nat × Option Nat × Option Nat := match (PD w)[i]? with
  | some e => (some w, some e, tm w e, prv (PD w) (pa w) i, nxt (PD w) (pa w) i, nx w e)
  | none => (none, none, 0, none, none, none)
theorem cellAt_some (w i e : Nat) (he : (PD w)[i]? = some e) : cellAt PD tm pa nx w i = (some w, some e, tm w e, prv (PD w) (pa w) i, nxt (PD w) (pa w) i, nx w e) := by
  unfold cellAt; rw [he]
/-- one posting out of its word's chain -/
theorem g_unl (GW : gW h W lt PD tot pa) (GP : gP h W PD tm pa nx) (GD : gD h D num len fi sf) (hN : ∀ w ∈ W, (PD w).Nodup) {w i e t : Nat} (hw : w ∈ W) (hi : (PD w)[i]? = some e) (ht : t = tm w e) {L : Int64} (hL : L = lt w) {hold tt : Nat} (hh : hold = (PD w).length) (htt : tt = tot w) {sp fst b n : Option Nat} (hsp : h w = some (wdO L hold tt fst sp)) (hf : fst = (PD w)[0]?.map (pa w)) (hb : b = prv (PD w) (pa w) i) (hn : n = nxt (PD w) (pa w) i)
    (U : unlP h w (pa w e) L hold tt t sp fst b n (cellAt PD tm pa nx w (i-1)) (cellAt PD tm pa nx w (i+1)) h1) :
    gW h1 W lt (va_up PD w ((PD w).eraseIdx i)) (va_up tot w (tot w - tm w e)) pa ∧ gP h1 W (va_up PD w ((PD w).eraseIdx i)) tm pa nx ∧ gD h1 D num len fi sf ∧ h1 (pa w e) = h (pa w e) ∧ (∀ y, y ≠ w → (∀ fs, h y ≠ some (.inr (4, fs))) → h1 y = h y) ∧ h1 w = some (wdO (lt w) ((PD w).length - 1) (tot w - tm w e) (((PD w).eraseIdx i)[0]?.map (pa w)) sp) := by
  subst ht; subst hL; subst hh; subst htt
  obtain ⟨u1, u2, u3, u4⟩ := U
  have hil := (List.getElem?_eq_some_iff.mp hi).1
  have hposn : ∀ u ∈ W, ∀ j v, (PD u)[j]? = some v → ∃ fs, h (pa u v) = some (.inr (4, fs)) := fun u hu j v hv => ⟨_, GP u hu j v hv⟩
  have hwc : ∃ fs, h w = some (.inr (9, fs)) := ⟨_, hsp⟩
  have hbp : ∀ y, b = some y → ∃ v, 0 < i ∧ (PD w)[i-1]? = some v ∧ y = pa w v := by
    intro y hy
    rw [hb] at hy
    unfold prv at hy
    by_cases c : i = 0
    · rw [if_pos c] at hy; cases hy
    · rw [if_neg c] at hy
      obtain ⟨v, v1, v2⟩ := Option.map_eq_some_iff.mp hy
      exact ⟨v, by omega, v1, v2.symm⟩
  have hnp : ∀ y, n = some y → ∃ v, (PD w)[i+1]? = some v ∧ y = pa w v := by
    intro y hy
    rw [hn] at hy
    unfold nxt at hy
    obtain ⟨v, v1, v2⟩ := Option.map_eq_some_iff.mp hy
    exact ⟨v, v1, v2.symm⟩
  have out : ∀ y, y ≠ w → (∀ fs, h y ≠ some (.inr (4, fs))) → h1 y = h y := by
    intro y hy hc
    refine u4 y (fun z => ?_)
    rcases z with z | z | z
    · exact hy z
    · obtain ⟨v, _, v1, rfl⟩ := hbp y z
      obtain ⟨fs, hfs⟩ := hposn w hw _ _ v1
      exact hc fs hfs
    · obtain ⟨v, v1, rfl⟩ := hnp y z
      obtain ⟨fs, hfs⟩ := hposn w hw _ _ v1
      exact hc fs hfs
  have far : ∀ u ∈ W, ∀ j v, (PD u)[j]? = some v → (u ≠ w ∨ (j ≠ i + 1 ∧ (j + 1 ≠ i))) → h1 (pa u v) = h (pa u v) := by
    intro u hu j v hv hd
    refine u4 _ (fun z => ?_)
    rcases z with z | z | z
    · obtain ⟨fs, hfs⟩ := hposn u hu j v hv
      obtain ⟨gs, hgs⟩ := hwc
      exact jv_neO hfs hgs (by decide) z
    · obtain ⟨v', c, v1, v2⟩ := hbp _ z
      obtain ⟨e1, e2⟩ := gP_inj GP hu (List.mem_of_getElem? hv) hw (List.mem_of_getElem? v1) v2
      rcases hd with hd | hd
      · exact hd e1
      · subst e1; subst e2
        have := nodup_idx (hN u hu) hv v1
        omega
    · obtain ⟨v', v1, v2⟩ := hnp _ z
      obtain ⟨e1, e2⟩ := gP_inj GP hu (List.mem_of_getElem? hv) hw (List.mem_of_getElem? v1) v2
      rcases hd with hd | hd
      · exact hd e1
      · subst e1; subst e2
        have := nodup_idx (hN u hu) hv v1
        omega
  have upw : va_up PD w ((PD w).eraseIdx i) w = (PD w).eraseIdx i := if_pos rfl
  have upo : ∀ u, u ≠ w → va_up PD w ((PD w).eraseIdx i) u = PD u := fun u hu => if_neg hu
  have hfirst : (if b = none then n else fst) = ((PD w).eraseIdx i)[0]?.map (pa w) := by
    rw [List.getElem?_eraseIdx]
    by_cases c : i = 0
    · have : b = none := by rw [hb]; unfold prv; rw [if_pos c]
      rw [if_pos this, if_neg (by omega), hn, c]; rfl
    · have hp0 := List.getElem?_eq_getElem (l := PD w) (i := i - 1) (by omega)
      have : b ≠ none := by rw [hb]; unfold prv; rw [if_neg c, hp0]; exact fun z => by cases z
      rw [if_neg this, if_pos (by omega), hf]
  have hw1 : h1 w = some (wdO (lt w) ((PD w).length - 1) (tot w - tm w e) (((PD w).eraseIdx i)[0]?.map (pa w)) sp) := by rw [u1, hfirst]
  refine ⟨fun u hu => ?_, fun u hu j v hv => ?_, fun v hv => ?_, ?_, out, hw1⟩
  · by_cases c : u = w
    · subst c
      refine ⟨sp, ?_⟩
      rw [upw, hw1, List.length_eraseIdx, if_pos hil, show va_up tot u (tot u - tm u e) u = tot u - tm u e from if_pos rfl]
    · obtain ⟨sp2, h2⟩ := GW u hu
      refine ⟨sp2, ?_⟩
      rw [upo u c, show va_up tot w (tot w - tm w e) u = tot u from if_neg c]
      exact (out u c (fun fs z => by rw [h2] at z; cases z)).trans h2
  · by_cases c : u = w
    · subst c
      rw [upw] at hv ⊢
      rw [List.getElem?_eraseIdx] at hv
      by_cases c1 : j < i
      · rw [if_pos c1] at hv
        by_cases c2 : j + 1 = i
        · -- the one before
          have hbv : b = some (pa u v) := by rw [hb]; unfold prv; rw [if_neg (by omega), show i - 1 = j by omega, hv]; rfl
          rw [u2 _ hbv, show i - 1 = j by omega, cellAt_some u j v hv]
          show some (psO (some u) (some v) (tm u v) (prv (PD u) (pa u) j) n (nx u v)) = _
          have e1 : prv ((PD u).eraseIdx i) (pa u) j = prv (PD u) (pa u) j := by
            unfold prv
            by_cases c3 : j = 0
            · rw [if_pos c3, if_pos c3]
            · rw [if_neg c3, if_neg c3, List.getElem?_eraseIdx, if_pos (by omega)]
          have e2 : nxt ((PD u).eraseIdx i) (pa u) j = n := by
            rw [hn]; unfold nxt
            rw [List.getElem?_eraseIdx, if_neg (by omega), c2]
          rw [e1, e2]
        · rw [far u hu j v hv (Or.inr ⟨by omega, c2⟩), GP u hu j v hv]
          have e1 : prv ((PD u).eraseIdx i) (pa u) j = prv (PD u) (pa u) j := by
            unfold prv
            by_cases c3 : j = 0
            · rw [if_pos c3, if_pos c3]
            · rw [if_neg c3, if_neg c3, List.getElem?_eraseIdx, if_pos (by omega)]
          have e2 : nxt ((PD u).eraseIdx i) (pa u) j = nxt (PD u) (pa u) j := by
            unfold nxt
            rw [List.getElem?_eraseIdx, if_pos (by omega)]
          rw [e1, e2]
      · rw [if_neg c1] at hv
        by_cases c2 : j = i
        · subst c2
          have hnv : n = some (pa u v) := by rw [hn]; unfold nxt; rw [hv]; rfl
          rw [u3 _ hnv, cellAt_some u (j+1) v hv]
          show some (psO (some u) (some v) (tm u v) b (nxt (PD u) (pa u) (j+1)) (nx u v)) = _
          have e1 : prv ((PD u).eraseIdx j) (pa u) j = b := by
            rw [hb]; unfold prv
            by_cases c3 : j = 0
            · rw [if_pos c3, if_pos c3]
            · rw [if_neg c3, if_neg c3, List.getElem?_eraseIdx, if_pos (by omega)]
          have e2 : nxt ((PD u).eraseIdx j) (pa u) j = nxt (PD u) (pa u) (j+1) := by
            unfold nxt
            rw [List.getElem?_eraseIdx, if_neg (by omega)]
          rw [e1, e2]
        · rw [far u hu (j+1) v hv (Or.inr ⟨by omega, by omega⟩), GP u hu (j+1) v hv]
          have e1 : prv ((PD u).eraseIdx i) (pa u) j = prv (PD u) (pa u) (j+1) := by
            unfold prv
            rw [if_neg (by omega), if_neg (by omega), List.getElem?_eraseIdx, if_neg (by omega), show j - 1 + 1 = j + 1 - 1 by omega]
          have e2 : nxt ((PD u).eraseIdx i) (pa u) j = nxt (PD u) (pa u) (j+1) := by
            unfold nxt
            rw [List.getElem?_eraseIdx, if_neg (by omega)]
          rw [e1, e2]
    · rw [upo u c] at hv ⊢
      rw [far u hu j v hv (Or.inl c)]
      exact GP u hu j v hv
  · refine (out v (fun z => ?_) (fun fs z => ?_)).trans (GD v hv)
    · have := GD v hv
      rw [z, hsp] at this
      cases this
    · rw [GD v hv] at z
      cases z
  · exact far w hw i e hi (Or.inr ⟨by omega, by omega⟩)
end GRAPH
