/-! the program's hits are the model's -/
def tsOf (v : tmT) : tsT := (if v.1 then 1 else if v.2.1 then 2 else 0, v.2.2.2.2.2, fun w => if v.2.2.1 then decide ((w ^^^ v.2.2.2.1) >>> ((nI (60 - 5 * v.2.2.2.2.1)).toInt64 &&& 63) = lN 0) else decide (w = v.2.2.2.1))
theorem tsM_of {N : Nat → Nat → Int32} {Q : Nat → Nat → Int64} {j : Nat} {v : tmT} {B : Nat → Nat} (h : tmM N Q j v) (o : tmOK B v) : tsM N Q j (tsOf v) := by
  obtain ⟨h1, h2, h3, h4, h5⟩ := h
  refine ⟨h1, ?_, h5, v.2.2.1, v.2.2.2.2.1, h4, fun _ => ⟨h3, o.2.1, o.2.2.1⟩, fun w => by rw [h2]; rfl⟩
  show (if v.1 then 1 else if v.2.1 then 2 else 0) ≤ 2
  split
  · decide
  · split <;> decide
theorem frs_mem (ws : List Int64) : ∀ k w, w ∈ frs ws k ↔ w ∈ ws.take k
  | 0, w => by rw [List.take_zero]; exact Iff.rfl
  | k + 1, w => by
    show w ∈ frs ws k ++ (match ws[k]? with | some u => if u ∈ ws.take k then [] else [u] | none => []) ↔ _
    rw [List.take_add_one, List.mem_append, List.mem_append, frs_mem ws k w]
    cases e : ws[k]? with
    | none => exact Iff.rfl
    | some u =>
      show (_ ∨ w ∈ (if u ∈ ws.take k then [] else [u])) ↔ (_ ∨ w ∈ [u])
      by_cases c : u ∈ ws.take k
      · rw [if_pos c]
        exact ⟨fun z => z.elim Or.inl (fun q => by cases q), fun z => z.elim Or.inl (fun q => Or.inl (by rw [List.mem_singleton.mp q]; exact c))⟩
      · rw [if_neg c]
theorem frs_nodup (ws : List Int64) : ∀ k, (frs ws k).Nodup
  | 0 => List.nodup_nil
  | k + 1 => by
    show (frs ws k ++ (match ws[k]? with | some u => if u ∈ ws.take k then [] else [u] | none => [])).Nodup
    cases e : ws[k]? with
    | none => rw [List.append_nil]; exact frs_nodup ws k
    | some u =>
      show (frs ws k ++ (if u ∈ ws.take k then [] else [u])).Nodup
      by_cases c : u ∈ ws.take k
      · rw [if_pos c, List.append_nil]; exact frs_nodup ws k
      · rw [if_neg c]
        refine List.nodup_append.mpr ⟨frs_nodup ws k, List.nodup_cons.mpr ⟨List.not_mem_nil, List.nodup_nil⟩, fun a ha b hb z => ?_⟩
        rw [List.mem_singleton.mp hb] at z
        exact c ((frs_mem ws k u).mp (z ▸ ha))
theorem frs_all (ws : List Int64) (w : Int64) : w ∈ frs ws ws.length ↔ w ∈ ws := by rw [frs_mem, List.take_length]
theorem mscA_f {t : tsT} (wo : Int64 → Nat) (h : t.1 ≠ 2) : ∀ (fs : List Int64) (s : Int32), mscA t wo s fs = (fs.filter t.2.2).foldl (fun a w => a + nI (t.2.1 * wo w)) s
  | [], _ => rfl
  | w :: r, s => by
    show mscA t wo (if t.2.2 w then (if t.1 = 2 then s else s + nI (t.2.1 * wo w)) else s) r = _
    rw [if_neg h]
    cases e : t.2.2 w with
    | true =>
      rw [if_pos rfl, List.filter_cons_of_pos e, List.foldl_cons]
      exact mscA_f wo h r _
    | false =>
      rw [if_neg Bool.false_ne_true, List.filter_cons_of_neg (by rw [e]; exact Bool.false_ne_true)]
      exact mscA_f wo h r _
theorem mscA_2 {t : tsT} (wo : Int64 → Nat) (h : t.1 = 2) : ∀ (fs : List Int64) (s : Int32), mscA t wo s fs = s
  | [], _ => rfl
  | w :: r, s => by
    show mscA t wo (if t.2.2 w then (if t.1 = 2 then s else _) else s) r = _
    rw [if_pos h]
    have : (if t.2.2 w = true then s else s) = s := by split <;> rfl
    rw [this]
    exact mscA_2 wo h r s
theorem msc_snoc (fs : List Int64) (wo : Int64 → Nat) (t : tsT) : ∀ (T : List tsT) (s : Int32), msc fs wo (T ++ [t]) s = (msc fs wo T s).bind (fun a => msc fs wo [t] a)
  | [], s => rfl
  | u :: r, s => by
    show (if _ then none else msc fs wo (r ++ [t]) _) = (if _ then none else msc fs wo r _).bind _
    split
    · rfl
    · exact msc_snoc fs wo t r _
theorem sv_uw (ds : dsT) (bit : Int32) (wt : Nat) (ws : List Int64) : ∀ (R : List Int64) (s : svT), R.foldl (svWord ds true bit wt ws) s = (s.1 || R.any (fun w => decide (w ∈ ws)), s.2)
  | [], s => by rw [List.foldl_nil, List.any_nil, Bool.or_false]
  | w :: r, s => by
    rw [List.foldl_cons, sv_uw ds bit wt ws r, List.any_cons]
    unfold svWord
    by_cases c : w ∈ ws
    · rw [if_pos c, if_pos rfl, decide_eq_true c]
      unfold svBar
      simp
    · rw [if_neg c, decide_eq_false c]
      simp
theorem sv_rw (ds : dsT) (bit : Int32) (wt : Nat) (ws : List Int64) : ∀ (R : List Int64) (s : svT), R.foldl (svWord ds false bit wt ws) s = (s.1, if R.any (fun w => decide (w ∈ ws)) then s.2.1 ||| bit else s.2.1, (R.filter (fun w => decide (w ∈ ws))).foldl (fun a w => a + nI (wt * (sp_rar ds.length (dsH ds w) * sp_imp (ws.count w) ws.length))) s.2.2)
  | [], s => by rw [List.foldl_nil, List.any_nil, if_neg Bool.false_ne_true]; rfl
  | w :: r, s => by
    rw [List.foldl_cons, sv_rw ds bit wt ws r, List.any_cons]
    unfold svWord
    by_cases c : w ∈ ws
    · rw [if_pos c, if_neg Bool.false_ne_true, decide_eq_true c, Bool.true_or, if_pos rfl, List.filter_cons_of_pos (by exact decide_eq_true c), List.foldl_cons]
      unfold svRew
      have e1 : ∀ x : Int32, (x ||| bit) ||| bit = x ||| bit := fun x => by rw [Int32.or_assoc, Int32.or_self]
      have e2 : nI (wt * sp_rar ds.length (dsH ds w)) * nI (sp_imp (ws.count w) ws.length) = nI (wt * (sp_rar ds.length (dsH ds w) * sp_imp (ws.count w) ws.length)) := by rw [pk_mul, Nat.mul_assoc]
      rw [e2]
      split
      · rw [e1]
      · rfl
    · rw [if_neg c, decide_eq_false c, Bool.false_or, List.filter_cons_of_neg (by rw [decide_eq_false c]; exact Bool.false_ne_true)]
/-- a document's words in a term's range, both ways -/
theorem lk_rng {ds : dsT} {V : List Int64} (X : isLex ds V) {p : Nat × List Int64} (hp : p ∈ ds) (hw : ∀ w ∈ p.2, isWd w) {B : Nat → Nat} {v : tmT} (o : tmOK B v) : ((rgV V v.2.2.2.1 (tmLast v)).filter (fun w => decide (w ∈ p.2))).Perm ((frs p.2 p.2.length).filter (tsOf v).2.2) := by
  have hV : V.Nodup := List.Pairwise.imp (fun {a b} h z => by rw [z] at h; exact Int64.lt_irrefl h) X.1
  refine (List.perm_ext_iff_of_nodup (List.Nodup.sublist List.filter_sublist (List.Nodup.sublist List.filter_sublist hV)) (List.Nodup.sublist List.filter_sublist (frs_nodup _ _))).mpr (fun w => ?_)
  rw [List.mem_filter, List.mem_filter, List.mem_filter, frs_all]
  have key : w ∈ p.2 → ((¬ w < v.2.2.2.1 ∧ w ≤ tmLast v) ↔ (tsOf v).2.2 w = true) := by
    intro hwp
    obtain ⟨o1, o2, o3, o4, s0, o5⟩ := o
    unfold tmLast tsOf
    dsimp only
    cases v.2.2.1 with
    | true =>
      rw [if_pos rfl, if_pos rfl, o5, decide_eq_true_eq]
      exact (rg_open B s0 _ ⟨o2, o3⟩ (hw w hwp)).symm
    | false =>
      rw [if_neg Bool.false_ne_true, if_neg Bool.false_ne_true, decide_eq_true_eq]
      exact ⟨fun z => Int64.le_antisymm z.2 (Int64.not_lt.mp z.1), fun z => by rw [z]; exact ⟨Int64.lt_irrefl, Int64.le_refl _⟩⟩
  constructor
  · rintro ⟨⟨h1, h2⟩, h3⟩
    have h3 := of_decide_eq_true h3
    exact ⟨h3, (key h3).mp (of_decide_eq_true h2)⟩
  · rintro ⟨h1, h2⟩
    exact ⟨⟨(X.2 w).mpr ⟨p, hp, h1⟩, decide_eq_true ((key h1).mpr h2)⟩, decide_eq_true h1⟩
theorem any_filter {α : Type} (L : List α) (f : α → Bool) : L.any f = true ↔ L.filter f ≠ [] := by
  constructor
  · intro e z
    obtain ⟨x, h1, h2⟩ := List.any_eq_true.mp e
    have := List.mem_filter.mpr ⟨h1, h2⟩
    rw [z] at this
    cases this
  · intro z
    cases e : L.any f with
    | true => rfl
    | false =>
      exfalso
      refine z (List.filter_eq_nil_iff.mpr (fun x hx q => ?_))
      rw [List.any_eq_true.mpr ⟨x, hx, q⟩] at e
      cases e
/-- a term's work, as the model does it -/
theorem lk_tm {ds : dsT} {V : List Int64} (X : isLex ds V) {p : Nat × List Int64} (hp : p ∈ ds) (hw : ∀ w ∈ p.2, isWd w) {B : Nat → Nat} {v : tmT} (o : tmOK B v) (bit : Int32) (s : svT) : svTerm ds V v bit p.2 s = if v.2.1 then (s.1 || (frs p.2 p.2.length).any (tsOf v).2.2, s.2) else (s.1, if (frs p.2 p.2.length).any (tsOf v).2.2 then s.2.1 ||| bit else s.2.1, ((frs p.2 p.2.length).filter (tsOf v).2.2).foldl (fun a w => a + nI (v.2.2.2.2.2 * woM ds p w)) s.2.2) := by
  have P := lk_rng X hp hw o
  have ha : (rgV V v.2.2.2.1 (tmLast v)).any (fun w => decide (w ∈ p.2)) = (frs p.2 p.2.length).any (tsOf v).2.2 := by
    rw [Bool.eq_iff_iff, any_filter, any_filter]
    exact ⟨fun h z => h (by rw [z] at P; exact P.eq_nil), fun h z => h (by rw [z] at P; exact P.symm.eq_nil)⟩
  unfold svTerm
  cases v.2.1 with
  | true => rw [if_pos rfl, sv_uw, ha]
  | false =>
    rw [if_neg Bool.false_ne_true, sv_rw, ha]
    congr 2
    exact P.foldl_eq' (fun x _ y _ z => by rw [Int32.add_assoc, Int32.add_comm (nI _) (nI _), ← Int32.add_assoc]) _
