/-! what a library shows: documents by their numbers, words in order -/
abbrev dsT : Type := List (Nat × List Int64)
def dsOf (D : List Nat) (num : Nat → Nat) (wl : Nat → List Int64) : dsT := D.map (fun e => (num e, wl e))
/-- how many documents have a word -/
def dsH (ds : dsT) (L : Int64) : Nat := ds.countP (fun p => decide (L ∈ p.2))
/-- how often a word stands in all of them -/
def dsC (ds : dsT) (L : Int64) : Nat := (ds.map (fun p => p.2.count L)).sum
def dsN (ds : dsT) : Nat := (ds.map (fun p => p.2.length)).sum
/-- the words of the documents in their order -/
def isLex (ds : dsT) (V : List Int64) : Prop := V.Pairwise (· < ·) ∧ ∀ L, L ∈ V ↔ ∃ p ∈ ds, L ∈ p.2
theorem lex_uniq : ∀ {V V' : List Int64}, V.Pairwise (· < ·) → V'.Pairwise (· < ·) → (∀ L, L ∈ V ↔ L ∈ V') → V = V'
  | [], [], _, _, _ => rfl
  | [], b :: t, _, _, e => absurd ((e b).mpr List.mem_cons_self) List.not_mem_nil
  | a :: t, [], _, _, e => absurd ((e a).mp List.mem_cons_self) List.not_mem_nil
  | a :: t, b :: t', h, h', e => by
    obtain ⟨h1, h2⟩ := List.pairwise_cons.mp h
    obtain ⟨h3, h4⟩ := List.pairwise_cons.mp h'
    have hab : a = b := by
      rcases List.mem_cons.mp ((e a).mp List.mem_cons_self) with z | z
      · exact z
      · rcases List.mem_cons.mp ((e b).mpr List.mem_cons_self) with z2 | z2
        · exact z2.symm
        · exact absurd (h3 a z) (fun q => Int64.lt_irrefl (Int64.lt_trans q (h1 b z2)))
    subst hab
    rw [lex_uniq h2 h4 (fun L => ⟨fun z => ?_, fun z => ?_⟩)]
    · rcases List.mem_cons.mp ((e L).mp (List.mem_cons_of_mem _ z)) with q | q
      · subst q; exact absurd (h1 L z) Int64.lt_irrefl
      · exact q
    · rcases List.mem_cons.mp ((e L).mpr (List.mem_cons_of_mem _ z)) with q | q
      · subst q; exact absurd (h3 L z) Int64.lt_irrefl
      · exact q
theorem isLex_uniq {ds : dsT} {V V' : List Int64} (h : isLex ds V) (h' : isLex ds V') : V = V' := lex_uniq h.1 h'.1 (fun L => (h.2 L).trans (h'.2 L).symm)
theorem isLex_perm {ds ds' : dsT} (p : ds.Perm ds') {V : List Int64} (h : isLex ds V) : isLex ds' V := ⟨h.1, fun L => (h.2 L).trans ⟨fun ⟨q, q1, q2⟩ => ⟨q, p.mem_iff.mp q1, q2⟩, fun ⟨q, q1, q2⟩ => ⟨q, p.mem_iff.mpr q1, q2⟩⟩⟩
theorem dsH_perm {ds ds' : dsT} (p : ds.Perm ds') (L : Int64) : dsH ds L = dsH ds' L := p.countP_eq _
theorem dsC_perm {ds ds' : dsT} (p : ds.Perm ds') (L : Int64) : dsC ds L = dsC ds' L := (p.map _).sum_nat
theorem dsN_perm {ds ds' : dsT} (p : ds.Perm ds') : dsN ds = dsN ds' := (p.map _).sum_nat
section FACTS
variable {l : jL} {h h1 : jH} {b da dd dc x xa xd xc : Nat} {DL W SW SP : List Nat} {lt : Nat → Int64} {num len : Nat → Nat} {PD QW : Nat → List Nat} {tot : Nat → Nat} {tm pa : Nat → Nat → Nat} {nx : Nat → Nat → Option Nat} {fi : Nat → Option Nat} {sf : Nat → sfT} {n : Nat} {wl : Nat → List Int64}
theorem lf_lex (B : lib0 l h b da dd dc x xa xd xc DL W SW SP lt num len PD QW tot tm pa nx fi sf n) (hne : ∀ u ∈ W, PD u ≠ []) (A : gA W DL lt PD tm len wl) : isLex (dsOf DL num wl) (W.map lt) := by
  refine ⟨?_, fun L => ⟨fun hL => ?_, fun hL => ?_⟩⟩
  · rw [List.pairwise_map]
    exact List.pairwise_iff_getElem.mpr (fun i j hi hj hij => B.2.2.1.2.2.2.1 i j W[i] W[j] hij (List.getElem?_eq_getElem hi) (List.getElem?_eq_getElem hj))
  · obtain ⟨u, hu, rfl⟩ := List.mem_map.mp hL
    cases hp : PD u with
    | nil => exact absurd hp (hne u hu)
    | cons v r =>
      have hv : v ∈ PD u := by rw [hp]; exact List.mem_cons_self
      have hvD := ((B.2.2.2.2.2.2.2.1.1 u hu).2 v hv).1
      exact ⟨(num v, wl v), List.mem_map.mpr ⟨v, hvD, rfl⟩, ((A v hvD).2.1 u hu).1.mp hv⟩
  · obtain ⟨p, hp, hL2⟩ := hL
    obtain ⟨v, hv, rfl⟩ := List.mem_map.mp hp
    obtain ⟨u, hu, rfl⟩ := (A v hv).2.2 L hL2
    exact List.mem_map.mpr ⟨u, hu, rfl⟩
theorem lf_perm (B : lib0 l h b da dd dc x xa xd xc DL W SW SP lt num len PD QW tot tm pa nx fi sf n) (A : gA W DL lt PD tm len wl) {u : Nat} (hu : u ∈ W) : (PD u).Perm (DL.filter (fun v => decide (lt u ∈ wl v))) := by
  have hl := B.2.2.2.2.2.2.2.1.1 u hu
  refine (List.perm_ext_iff_of_nodup hl.1 (List.Pairwise.filter _ B.2.2.2.2.2.2.2.2.2.2)).mpr (fun v => ?_)
  rw [List.mem_filter]
  constructor
  · intro hv
    have := (hl.2 v hv).1
    exact ⟨this, decide_eq_true (((A v this).2.1 u hu).1.mp hv)⟩
  · rintro ⟨hv, hd⟩
    exact ((A v hv).2.1 u hu).1.mpr (of_decide_eq_true hd)
theorem lf_hold (B : lib0 l h b da dd dc x xa xd xc DL W SW SP lt num len PD QW tot tm pa nx fi sf n) (A : gA W DL lt PD tm len wl) {u : Nat} (hu : u ∈ W) : (PD u).length = dsH (dsOf DL num wl) (lt u) := by
  rw [(lf_perm B A hu).length_eq]
  unfold dsH dsOf
  rw [List.countP_map, List.countP_eq_length_filter]
  rfl
theorem sum_filter_zero (f : Nat → Nat) (p : Nat → Bool) : ∀ (L : List Nat), (∀ v ∈ L, p v = false → f v = 0) → ((L.filter p).map f).sum = (L.map f).sum
  | [], _ => rfl
  | v :: t, h => by
    have ih := sum_filter_zero f p t (fun u hu => h u (List.mem_cons_of_mem _ hu))
    cases c : p v with
    | true => rw [List.filter_cons_of_pos c, List.map_cons, List.map_cons, List.sum_cons, List.sum_cons, ih]
    | false =>
      rw [List.filter_cons_of_neg (by rw [c]; exact Bool.false_ne_true), List.map_cons, List.sum_cons, h v List.mem_cons_self c, ih, Nat.zero_add]
theorem lf_tot (B : lib0 l h b da dd dc x xa xd xc DL W SW SP lt num len PD QW tot tm pa nx fi sf n) (A : gA W DL lt PD tm len wl) {u : Nat} (hu : u ∈ W) : tot u = dsC (dsOf DL num wl) (lt u) := by
  rw [B.2.2.2.2.2.2.2.2.2.1 u hu]
  have e1 : (PD u).map (tm u) = (PD u).map (fun v => (wl v).count (lt u)) := by
    refine List.map_congr_left (fun v hv => ?_)
    have hvD := ((B.2.2.2.2.2.2.2.1.1 u hu).2 v hv).1
    exact ((A v hvD).2.1 u hu).2 hv
  rw [e1, ((lf_perm B A hu).map _).sum_nat, sum_filter_zero]
  · unfold dsC dsOf
    rw [List.map_map]
    rfl
  · intro v hv hc
    exact List.count_eq_zero_of_not_mem (of_decide_eq_false hc)
theorem lf_len (A : gA W DL lt PD tm len wl) : (DL.map len).sum = dsN (dsOf DL num wl) := by
  unfold dsN dsOf
  rw [List.map_map]
  exact congrArg List.sum (List.map_congr_left (fun v hv => (A v hv).1))
end FACTS
