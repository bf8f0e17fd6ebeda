/-! what a search gives to each document -/
abbrev svT : Type := Bool × Int32 × Int32
def vl (p : srT) (d : Nat) : svT := if d ∈ p.1 then p.2 d else (false, 0, 0)
def svBar (v : svT) : svT := (true, v.2)
def svRew (g bit : Int32) (i : Nat) (v : svT) : svT := (v.1, v.2.1 ||| bit, v.2.2 + g * nI i)
theorem vl_M (p : srT) (d e : Nat) : vl (srM p d) e = vl p e := by
  unfold vl srM
  by_cases c : d ∈ p.1
  · simp only [if_pos c]
  · simp only [if_neg c]
    by_cases c2 : e = d
    · subst c2
      rw [if_pos List.mem_cons_self, if_neg c]
      exact if_pos rfl
    · by_cases c3 : e ∈ p.1
      · rw [if_pos (List.mem_cons_of_mem _ c3), if_pos c3]
        exact if_neg c2
      · rw [if_neg (fun z => (List.mem_cons.mp z).elim c2 c3), if_neg c3]
theorem vl_set (p : srT) (d e : Nat) (v : svT) : vl ((srM p d).1, va_up (srM p d).2 d v) e = if e = d then v else vl p e := by
  by_cases c : e = d
  · subst c
    rw [if_pos rfl]
    unfold vl
    rw [if_pos (srM_mem p e)]
    exact if_pos rfl
  · rw [if_neg c, ← vl_M p d e]
    unfold vl
    by_cases c2 : e ∈ (srM p d).1
    · rw [if_pos c2, if_pos c2]
      exact if_neg c
    · rw [if_neg c2, if_neg c2]
theorem vl_at (p : srT) (d : Nat) : (srM p d).2 d = vl p d := by
  rw [← vl_M p d d]
  unfold vl
  rw [if_pos (srM_mem p d)]
theorem vl_bar (p : srT) (d e : Nat) : vl (srBar p d) e = if e = d then svBar (vl p e) else vl p e := by
  show vl ((srM p d).1, va_up (srM p d).2 d _) e = _
  rw [vl_set]
  by_cases c : e = d
  · rw [if_pos c, if_pos c, vl_at, c]; rfl
  · rw [if_neg c, if_neg c]
theorem vl_rew (g bit : Int32) (imp : Nat → Nat) (p : srT) (d e : Nat) : vl (srRew g bit imp p d) e = if e = d then svRew g bit (imp e) (vl p e) else vl p e := by
  show vl ((srM p d).1, va_up (srM p d).2 d _) e = _
  rw [vl_set]
  by_cases c : e = d
  · rw [if_pos c, if_pos c, vl_at, c]; rfl
  · rw [if_neg c, if_neg c]
theorem vl_fold (g : srT → Nat → srT) (U : Nat → svT → svT) (e : Nat) (hg : ∀ p d, vl (g p d) e = if e = d then U e (vl p e) else vl p e) : ∀ (L : List Nat) (p : srT), L.Nodup → vl (L.foldl g p) e = if e ∈ L then U e (vl p e) else vl p e
  | [], p, _ => by rw [if_neg List.not_mem_nil]; rfl
  | d :: t, p, hn => by
    obtain ⟨n1, n2⟩ := List.nodup_cons.mp hn
    rw [List.foldl_cons, vl_fold g U e hg t (g p d) n2, hg]
    by_cases c : e = d
    · subst c
      rw [if_neg n1, if_pos rfl, if_pos List.mem_cons_self]
    · rw [if_neg c]
      by_cases c2 : e ∈ t
      · rw [if_pos c2, if_pos (List.mem_cons_of_mem _ c2)]
      · rw [if_neg c2, if_neg (fun z => (List.mem_cons.mp z).elim c c2)]
theorem vl_folds {α : Type} (g : srT → α → srT) (U : svT → α → svT) (e : Nat) : ∀ (L : List α) (p : srT), (∀ p, ∀ w ∈ L, vl (g p w) e = U (vl p e) w) → vl (L.foldl g p) e = L.foldl U (vl p e)
  | [], p, _ => rfl
  | d :: t, p, hg => by
    rw [List.foldl_cons, List.foldl_cons, vl_folds g U e t (g p d) (fun p w hw => hg p w (List.mem_cons_of_mem _ hw)), hg p d List.mem_cons_self]
/-- all met documents are documents -/
def mI (D : List Nat) (p : srT) : Prop := p.1.Nodup ∧ ∀ d ∈ p.1, d ∈ D
theorem mI_M {D : List Nat} {p : srT} (h : mI D p) {d : Nat} (hd : d ∈ D) (st : Nat → svT) : mI D ((srM p d).1, st) := by
  unfold mI srM
  by_cases c : d ∈ p.1
  · simp only [if_pos c]; exact h
  · simp only [if_neg c]
    exact ⟨List.nodup_cons.mpr ⟨c, h.1⟩, fun e he => (List.mem_cons.mp he).elim (fun z => z ▸ hd) (h.2 e)⟩
theorem mI_fold {α : Type} {D : List Nat} (g : srT → α → srT) : ∀ (L : List α) (p : srT), (∀ p, mI D p → ∀ w ∈ L, mI D (g p w)) → mI D p → mI D (L.foldl g p)
  | [], p, _, h => h
  | d :: t, p, hg, h => mI_fold g t (g p d) (fun p hp w hw => hg p hp w (List.mem_cons_of_mem _ hw)) (hg p h d List.mem_cons_self)
/-- the words of the lexicon from lo to hi -/
def rgV (V : List Int64) (lo hi : Int64) : List Int64 := V.filter (fun w => decide (¬ w < lo ∧ w ≤ hi))
theorem rgW_map (W : List Nat) (lt : Nat → Int64) (lo hi : Int64) : (rgW W lt lo hi).map lt = rgV (W.map lt) lo hi := by
  unfold rgW rgV
  rw [List.filter_map]
  rfl
def svWord (ds : dsT) (uw : Bool) (bit : Int32) (wt : Nat) (ws : List Int64) (v : svT) (w : Int64) : svT :=
  if w ∈ ws then (if uw then svBar v else svRew (nI (wt * sp_rar ds.length (dsH ds w))) bit (sp_imp (ws.count w) ws.length) v) else v
def svTerm (ds : dsT) (V : List Int64) (v : tmT) (bit : Int32) (ws : List Int64) (s : svT) : svT := (rgV V v.2.2.2.1 (tmLast v)).foldl (svWord ds v.2.1 bit v.2.2.2.2.2 ws) s
def svAll (ds : dsT) (V : List Int64) (tv : Nat → tmT) (ws : List Int64) : Nat → svT
  | 0 => (false, 0, 0)
  | i + 1 => svTerm ds V (tv i) (sbit i) ws (svAll ds V tv ws i)
def hitOf (nd : Int32) (k : Nat) (v : svT) : Option hiT := if v.1 = false ∧ v.2.1 &&& nd = nd ∧ ¬ v.2.2 ≤ 0 then some (k, v.2.2) else none
def hitQ (ds : dsT) (V : List Int64) (tv : Nat → tmT) (cnt : Nat) (p : Nat × List Int64) : Option hiT := hitOf (srN tv cnt) p.1 (svAll ds V tv p.2 cnt)
theorem dl_ext {D M : List Nat} (hD : D.Nodup) (hM : M.Nodup) (hs : ∀ d ∈ M, d ∈ D) : D.Perm (M ++ D.filter (fun d => decide (d ∉ M))) := by
  refine (List.perm_ext_iff_of_nodup hD (List.nodup_append.mpr ⟨hM, List.Nodup.sublist List.filter_sublist hD, fun a ha b hb z => ?_⟩)).mpr (fun v => ?_)
  · have := (of_decide_eq_true (List.mem_filter.mp hb).2 : b ∉ M)
    exact this (z ▸ ha)
  · rw [List.mem_append, List.mem_filter]
    constructor
    · intro hv
      by_cases c : v ∈ M
      · exact Or.inl c
      · exact Or.inr ⟨hv, decide_eq_true c⟩
    · rintro (z | z)
      · exact hs v z
      · exact z.1
theorem fm_sub {D M : List Nat} (hD : D.Nodup) (hM : M.Nodup) (hs : ∀ d ∈ M, d ∈ D) {β : Type} (f : Nat → Option β) (hf : ∀ d ∈ D, d ∉ M → f d = none) : (M.filterMap f).Perm (D.filterMap f) := by
  have p := dl_ext hD hM hs
  have p2 := p.filterMap f
  rw [List.filterMap_append] at p2
  have e1 : (D.filter (fun d => decide (d ∉ M))).filterMap f = [] := by
    rw [List.filterMap_eq_nil_iff]
    intro d hd
    have := List.mem_filter.mp hd
    exact hf d this.1 (of_decide_eq_true this.2)
  rw [e1, List.append_nil] at p2
  exact p2.symm
theorem fm_congr {α β : Type} {f g : α → Option β} : ∀ {L : List α}, (∀ d ∈ L, f d = g d) → L.filterMap f = L.filterMap g
  | [], _ => rfl
  | d :: t, h => by
    have ih := fm_congr (L := t) (fun e he => h e (List.mem_cons_of_mem _ he))
    have hd := h d List.mem_cons_self
    cases e : f d with
    | none => rw [List.filterMap_cons_none e, List.filterMap_cons_none (by rw [← hd]; exact e), ih]
    | some x => rw [List.filterMap_cons_some e, List.filterMap_cons_some (by rw [← hd]; exact e), ih]
theorem fm_fst (num : Nat → Nat) (f : Nat → Option hiT) (hf : ∀ d x, f d = some x → x.1 = num d) : ∀ M : List Nat, ((M.filterMap f).map (·.1)).Sublist (M.map num)
  | [] => List.Sublist.refl _
  | d :: t => by
    cases e : f d with
    | none =>
      rw [List.filterMap_cons_none e]
      exact (fm_fst num f hf t).cons _
    | some x =>
      rw [List.filterMap_cons_some e, List.map_cons, List.map_cons, hf d x e]
      exact (fm_fst num f hf t).cons_cons _
/-- a harvest -/
theorem hv_top {D : List Nat} (hD : D.Nodup) {num : Nat → Nat} (hnum : (D.map num).Nodup) {p : srT} (hp : mI D p) (k : Nat) (nd : Int32) : topR k (D.filterMap (fun d => hitOf nd (num d) (vl p d))) (p.1.foldl (srHv k nd num p.2) []) := by
  have ef : ∀ d ∈ p.1, hitOf nd (num d) (p.2 d) = hitOf nd (num d) (vl p d) := fun d hd => by
    unfold vl
    rw [if_pos hd]
  have hnM : (p.1.map num).Nodup := by
    have q := (((dl_ext hD hp.1 hp.2).map num).nodup_iff).mp hnum
    rw [List.map_append] at q
    exact (List.nodup_append.mp q).1
  have t := topR_fold k (fun d => hitOf nd (num d) (p.2 d)) (srHv k nd num p.2) (fun L d => by
    unfold srHv hitOf
    split <;> rfl) p.1 [] [] (topR_nil k) (by
    rw [List.map_nil, List.append_nil]
    exact List.Nodup.sublist (fm_fst num _ (fun d x e => by
      unfold hitOf at e
      split at e
      · cases e; rfl
      · cases e) p.1) hnM)
  rw [List.append_nil, fm_congr ef] at t
  refine topR_perm (fm_sub hD hp.1 hp.2 _ (fun d hd hm => ?_)) t
  unfold vl hitOf
  rw [if_neg hm]
  exact if_neg (fun z => z.2.2 (Int32.le_refl _))
section LINK
variable {l : jL} {h : jH} {b da dd dc x xa xd xc : Nat} {DL W SW SP : List Nat} {lt : Nat → Int64} {num len : Nat → Nat} {PD QW : Nat → List Nat} {tot : Nat → Nat} {tm pa : Nat → Nat → Nat} {nx : Nat → Nat → Option Nat} {fi : Nat → Option Nat} {sf : Nat → sfT} {n : Nat} {wl : Nat → List Int64} {ds : dsT}
theorem rgW_mem {W : List Nat} {lt : Nat → Int64} {lo hi : Int64} {w : Nat} (h : w ∈ rgW W lt lo hi) : w ∈ W := (List.mem_filter.mp h).1
theorem lk_word (B : lib0 l h b da dd dc x xa xd xc DL W SW SP lt num len PD QW tot tm pa nx fi sf n) (A : gA W DL lt PD tm len wl) (P : (dsOf DL num wl).Perm ds) (uw : Bool) (bit : Int32) (wt : Nat) {e w : Nat} (he : e ∈ DL) (hw : w ∈ W) (p : srT) :
    vl (srW uw bit (fun w => nI (wt * sp_rar DL.length (PD w).length)) PD (fun w d => sp_imp (tm w d) (len d)) p w) e = svWord ds uw bit wt (wl e) (vl p e) (lt w) := by
  have hn := (B.2.2.2.2.2.2.2.1.1 w hw).1
  obtain ⟨a1, a2, a3⟩ := A e he
  have hDL : DL.length = ds.length := by rw [← P.length_eq]; exact (List.length_map _).symm
  have hh : (PD w).length = dsH ds (lt w) := by rw [lf_hold B A hw, dsH_perm P]
  unfold srW svWord
  cases uw with
  | true =>
    rw [if_pos rfl, vl_fold srBar (fun _ v => svBar v) e (fun p d => vl_bar p d e) (PD w) p hn]
    by_cases c : e ∈ PD w
    · rw [if_pos c, if_pos ((a2 w hw).1.mp c), if_pos rfl]
    · rw [if_neg c, if_neg (fun z => c ((a2 w hw).1.mpr z))]
  | false =>
    rw [if_neg Bool.false_ne_true, vl_fold (srRew (nI (wt * sp_rar DL.length (PD w).length)) bit (fun d => sp_imp (tm w d) (len d))) (fun d v => svRew (nI (wt * sp_rar DL.length (PD w).length)) bit (sp_imp (tm w d) (len d)) v) e (fun p d => vl_rew _ _ (fun d => sp_imp (tm w d) (len d)) p d e) (PD w) p hn]
    by_cases c : e ∈ PD w
    · rw [if_pos c, if_pos ((a2 w hw).1.mp c), if_neg Bool.false_ne_true, hh, hDL, (a2 w hw).2 c, a1]
    · rw [if_neg c, if_neg (fun z => c ((a2 w hw).1.mpr z))]
theorem lk_term (B : lib0 l h b da dd dc x xa xd xc DL W SW SP lt num len PD QW tot tm pa nx fi sf n) (A : gA W DL lt PD tm len wl) (P : (dsOf DL num wl).Perm ds) (v : tmT) (bit : Int32) {e : Nat} (he : e ∈ DL) (p : srT) : vl (srF DL.length W lt PD (fun w d => sp_imp (tm w d) (len d)) v bit p) e = svTerm ds (W.map lt) v bit (wl e) (vl p e) := by
  unfold srF svTerm
  rw [vl_folds _ (fun s w => svWord ds v.2.1 bit v.2.2.2.2.2 (wl e) s (lt w)) e _ _ (fun p w hw => lk_word B A P _ _ _ he (rgW_mem hw) p), ← rgW_map, List.foldl_map]
theorem lk_all (B : lib0 l h b da dd dc x xa xd xc DL W SW SP lt num len PD QW tot tm pa nx fi sf n) (A : gA W DL lt PD tm len wl) (P : (dsOf DL num wl).Perm ds) (tv : Nat → tmT) (st : Nat → svT) {e : Nat} (he : e ∈ DL) : ∀ i, vl (srQ (fun i => srF DL.length W lt PD (fun w d => sp_imp (tm w d) (len d)) (tv i) (sbit i)) ([], st) i) e = svAll ds (W.map lt) tv (wl e) i
  | 0 => rfl
  | i + 1 => (lk_term B A P (tv i) (sbit i) he _).trans (congrArg (svTerm ds (W.map lt) (tv i) (sbit i) (wl e)) (lk_all B A P tv st he i))
theorem lk_mI (B : lib0 l h b da dd dc x xa xd xc DL W SW SP lt num len PD QW tot tm pa nx fi sf n) (uw : Bool) (bit : Int32) (g : Nat → Int32) (imp : Nat → Nat → Nat) {w : Nat} (hw : w ∈ W) {p : srT} (hp : mI DL p) : mI DL (srW uw bit g PD imp p w) := by
  have hD := fun d hd => ((B.2.2.2.2.2.2.2.1.1 w hw).2 d hd).1
  unfold srW
  cases uw with
  | true => rw [if_pos rfl]; exact mI_fold srBar _ p (fun p hp d hd => mI_M hp (hD d hd) _) hp
  | false => rw [if_neg Bool.false_ne_true]; exact mI_fold _ _ p (fun p hp d hd => mI_M hp (hD d hd) _) hp
theorem lk_mIall (B : lib0 l h b da dd dc x xa xd xc DL W SW SP lt num len PD QW tot tm pa nx fi sf n) (tv : Nat → tmT) (st : Nat → svT) (imp : Nat → Nat → Nat) : ∀ i, mI DL (srQ (fun i => srF DL.length W lt PD imp (tv i) (sbit i)) ([], st) i)
  | 0 => ⟨List.nodup_nil, fun d hd => by cases hd⟩
  | i + 1 => mI_fold _ _ _ (fun p hp w hw => lk_mI B _ _ _ _ (rgW_mem hw) hp) (lk_mIall B tv st imp i)
/-- what a find finds -/
theorem lk_find (B : lib0 l h b da dd dc x xa xd xc DL W SW SP lt num len PD QW tot tm pa nx fi sf n) (A : gA W DL lt PD tm len wl) (P : (dsOf DL num wl).Perm ds) (hk : (ds.map (·.1)).Nodup) (tv : Nat → tmT) (cnt : Nat) (st : Nat → svT) (k : Nat) (p : srT) (hp : p = srQ (fun i => srF DL.length W lt PD (fun w d => sp_imp (tm w d) (len d)) (tv i) (sbit i)) ([], st) cnt) : topR k (ds.filterMap (hitQ ds (W.map lt) tv cnt)) (p.1.foldl (srHv k (srN tv cnt) num p.2) []) := by
  have hnum : (DL.map num).Nodup := by
    have h1 := ((P.map (·.1)).nodup_iff).mpr hk
    unfold dsOf at h1
    rw [List.map_map] at h1
    exact h1
  have t := hv_top B.2.2.2.2.2.2.2.2.2.2 hnum (p := p) (by rw [hp]; exact lk_mIall B tv st _ cnt) k (srN tv cnt)
  refine topR_perm (P.filterMap _) ?_
  unfold dsOf
  rw [List.filterMap_map]
  rw [fm_congr (g := (hitQ ds (W.map lt) tv cnt) ∘ fun e => (num e, wl e)) (fun d hd => by
    show hitOf _ (num d) (vl p d) = hitOf (srN tv cnt) (num d) (svAll ds (W.map lt) tv (wl d) cnt)
    rw [hp, lk_all B A P tv st hd cnt])] at t
  exact t
end LINK
