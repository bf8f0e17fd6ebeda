/-! the program's hits are the model's: whole queries, and likeness -/
theorem sb_is : ∀ i, i < 16 → sbit i = nI (2 ^ i) := by decide +kernel
theorem nb_or {a b : Nat} (ha : a < 2 ^ 32) (hb : b < 2 ^ 32) : nI a ||| nI b = nI (a ||| b) := by
  apply Int32.toBitVec_inj.mp
  apply BitVec.eq_of_toNat_eq
  rw [Int32.toBitVec_or, BitVec.toNat_or]
  show (BitVec.ofNat 32 a).toNat ||| (BitVec.ofNat 32 b).toNat = (BitVec.ofNat 32 (a ||| b)).toNat
  rw [BitVec.toNat_ofNat, BitVec.toNat_ofNat, BitVec.toNat_ofNat, Nat.mod_eq_of_lt ha, Nat.mod_eq_of_lt hb, Nat.mod_eq_of_lt (Nat.or_lt_two_pow ha hb)]
theorem nb_and {a b : Nat} (ha : a < 2 ^ 32) (hb : b < 2 ^ 32) : nI a &&& nI b = nI (a &&& b) := by
  apply Int32.toBitVec_inj.mp
  apply BitVec.eq_of_toNat_eq
  rw [Int32.toBitVec_and, BitVec.toNat_and]
  show (BitVec.ofNat 32 a).toNat &&& (BitVec.ofNat 32 b).toNat = (BitVec.ofNat 32 (a &&& b)).toNat
  rw [BitVec.toNat_ofNat, BitVec.toNat_ofNat, BitVec.toNat_ofNat, Nat.mod_eq_of_lt ha, Nat.mod_eq_of_lt hb, Nat.mod_eq_of_lt (Nat.and_lt_two_pow _ hb)]
def tsL (tv : Nat → tmT) (i : Nat) : List tsT := (List.range i).map (fun j => tsOf (tv j))
theorem tsL_succ (tv : Nat → tmT) (i : Nat) : tsL tv (i + 1) = tsL tv i ++ [tsOf (tv i)] := by
  unfold tsL
  rw [List.range_succ, List.map_append]
  rfl
theorem ts_sg {v : tmT} {B : Nat → Nat} (o : tmOK B v) : ((tsOf v).1 = 1 ↔ v.1 = true) ∧ ((tsOf v).1 = 2 ↔ v.2.1 = true) := by
  have o1 := o.1
  unfold tsOf
  dsimp only
  cases h1 : v.1 <;> cases h2 : v.2.1 <;> simp [h1, h2] at o1 ⊢
section LINK2
variable {ds : dsT} {V : List Int64} {p : Nat × List Int64} {B : Nat → Nat} {tv : Nat → tmT}
def anM (p : Nat × List Int64) (v : tmT) : Bool := (frs p.2 p.2.length).any (tsOf v).2.2
theorem lk_inv (X : isLex ds V) (hp : p ∈ ds) (hw : ∀ w ∈ p.2, isWd w) : ∀ i, i ≤ 16 → (∀ j, j < i → tmOK B (tv j)) → ∃ x y, x < 2 ^ 16 ∧ y < 2 ^ 16 ∧ (svAll ds V tv p.2 i).2.1 = nI x ∧ srN tv i = nI y ∧ (∀ j, x.testBit j = true ↔ (j < i ∧ (tv j).2.1 = false ∧ anM p (tv j) = true)) ∧ (∀ j, y.testBit j = true ↔ (j < i ∧ (tv j).1 = true)) ∧ ((svAll ds V tv p.2 i).1 = true ↔ ∃ j, j < i ∧ (tv j).2.1 = true ∧ anM p (tv j) = true) ∧ ((msc (frs p.2 p.2.length) (woM ds p) (tsL tv i) 0 = none ∧ ∃ j, j < i ∧ (((tv j).1 = true ∧ anM p (tv j) = false) ∨ ((tv j).2.1 = true ∧ anM p (tv j) = true))) ∨ (msc (frs p.2 p.2.length) (woM ds p) (tsL tv i) 0 = some (svAll ds V tv p.2 i).2.2 ∧ ∀ j, j < i → ¬ (((tv j).1 = true ∧ anM p (tv j) = false) ∨ ((tv j).2.1 = true ∧ anM p (tv j) = true))))
  | 0, _, _ => ⟨0, 0, by decide, by decide, rfl, rfl, fun j => (by rw [Nat.zero_testBit]; exact ⟨fun z => (by cases z), fun z => absurd z.1 (Nat.not_lt_zero j)⟩), fun j => (by rw [Nat.zero_testBit]; exact ⟨fun z => (by cases z), fun z => absurd z.1 (Nat.not_lt_zero j)⟩), ⟨fun z => (by cases z), fun ⟨j, z, _⟩ => absurd z (Nat.not_lt_zero j)⟩, Or.inr ⟨rfl, fun j z => absurd z (Nat.not_lt_zero j)⟩⟩
  | i + 1, hi, ok => by
    obtain ⟨x, y, x1, y1, e1, e2, e3, e4, e5, e6⟩ := lk_inv X hp hw i (by omega) (fun j hj => ok j (by omega))
    have o := ok i (by omega)
    have sg := ts_sg o
    have st : svAll ds V tv p.2 (i + 1) = _ := lk_tm X hp hw o (sbit i) (svAll ds V tv p.2 i)
    have sb := sb_is i (by omega)
    have p2 : 2 ^ i < 2 ^ 16 := Nat.pow_lt_pow_right (by decide) (by omega)
    have lsucc : ∀ (P : Nat → Prop), (∃ j, j < i + 1 ∧ P j) ↔ ((∃ j, j < i ∧ P j) ∨ P i) := fun P => ⟨fun ⟨j, h1, h2⟩ => (Nat.lt_succ_iff_lt_or_eq.mp h1).elim (fun q => Or.inl ⟨j, q, h2⟩) (fun q => Or.inr (q ▸ h2)), fun z => z.elim (fun ⟨j, h1, h2⟩ => ⟨j, by omega, h2⟩) (fun z => ⟨i, by omega, z⟩)⟩
    have hn : srN tv (i + 1) = if (tv i).1 then srN tv i ||| sbit i else srN tv i := rfl
    -- the needed bits
    obtain ⟨y', yl, ye, yb⟩ : ∃ y', y' < 2 ^ 16 ∧ srN tv (i + 1) = nI y' ∧ ∀ j, y'.testBit j = true ↔ (j < i + 1 ∧ (tv j).1 = true) := by
      rw [hn]
      cases c : (tv i).1 with
      | true =>
        rw [if_pos rfl, e2, sb, nb_or (by omega) (by omega)]
        refine ⟨y ||| 2 ^ i, Nat.or_lt_two_pow y1 p2, rfl, fun j => ?_⟩
        rw [Nat.testBit_or, Bool.or_eq_true, e4, Nat.testBit_two_pow, decide_eq_true_eq]
        constructor
        · rintro (z | z)
          · exact ⟨by omega, z.2⟩
          · subst z; exact ⟨by omega, c⟩
        · rintro ⟨z1, z2⟩
          by_cases q : i = j
          · exact Or.inr q
          · exact Or.inl ⟨by omega, z2⟩
      | false =>
        rw [if_neg Bool.false_ne_true, e2]
        refine ⟨y, y1, rfl, fun j => ?_⟩
        rw [e4]
        constructor
        · rintro z; exact ⟨by omega, z.2⟩
        · rintro ⟨z1, z2⟩
          have : j ≠ i := fun q => by rw [q, c] at z2; cases z2
          exact ⟨by omega, z2⟩
    have ms : msc (frs p.2 p.2.length) (woM ds p) (tsL tv (i + 1)) 0 = (msc (frs p.2 p.2.length) (woM ds p) (tsL tv i) 0).bind (fun a => msc (frs p.2 p.2.length) (woM ds p) [tsOf (tv i)] a) := by rw [tsL_succ, msc_snoc]
    have m1 : ∀ a, msc (frs p.2 p.2.length) (woM ds p) [tsOf (tv i)] a = if ((tv i).1 = true ∧ anM p (tv i) = false) ∨ ((tv i).2.1 = true ∧ anM p (tv i) = true) then none else some (mscA (tsOf (tv i)) (woM ds p) a (frs p.2 p.2.length)) := fun a => by
      show (if ((tsOf (tv i)).1 = 1 ∧ anM p (tv i) = false) ∨ ((tsOf (tv i)).1 = 2 ∧ anM p (tv i) = true) then none else some _) = _
      simp only [sg.1, sg.2]
    cases c : (tv i).2.1 with
    | true =>
      rw [c, if_pos rfl] at st
      rw [st]
      refine ⟨x, y', x1, yl, e1, ye, fun j => ?_, yb, ?_, ?_⟩
      · rw [e3]
        constructor
        · rintro z; exact ⟨by omega, z.2⟩
        · rintro ⟨z1, z2, z3⟩
          have : j ≠ i := fun q => by rw [q, c] at z2; cases z2
          exact ⟨by omega, z2, z3⟩
      · rw [lsucc, Bool.or_eq_true, e5]
        exact ⟨fun z => z.elim Or.inl (fun z => Or.inr ⟨c, z⟩), fun z => z.elim Or.inl (fun z => Or.inr z.2)⟩
      · rw [ms, lsucc]
        rcases e6 with ⟨n1, n2⟩ | ⟨n1, n2⟩
        · exact Or.inl ⟨by rw [n1]; rfl, Or.inl n2⟩
        · rw [n1]
          show (msc _ _ [tsOf (tv i)] _ = none ∧ _) ∨ (msc _ _ [tsOf (tv i)] _ = _ ∧ _)
          rw [m1]
          by_cases q : ((tv i).1 = true ∧ anM p (tv i) = false) ∨ ((tv i).2.1 = true ∧ anM p (tv i) = true)
          · rw [if_pos q]
            exact Or.inl ⟨rfl, Or.inr q⟩
          · rw [if_neg q, mscA_2 _ (sg.2.mpr c)]
            exact Or.inr ⟨rfl, fun j hj => (Nat.lt_succ_iff_lt_or_eq.mp hj).elim (n2 j) (fun z => z ▸ q)⟩
    | false =>
      rw [c, if_neg Bool.false_ne_true] at st
      rw [st]
      have hx : ∃ x', x' < 2 ^ 16 ∧ (if (frs p.2 p.2.length).any (tsOf (tv i)).2.2 = true then (svAll ds V tv p.2 i).2.1 ||| sbit i else (svAll ds V tv p.2 i).2.1) = nI x' ∧ ∀ j, x'.testBit j = true ↔ (j < i + 1 ∧ (tv j).2.1 = false ∧ anM p (tv j) = true) := by
        cases d : (frs p.2 p.2.length).any (tsOf (tv i)).2.2 with
        | true =>
          have d : anM p (tv i) = true := d
          rw [if_pos rfl, e1, sb, nb_or (by omega) (by omega)]
          refine ⟨x ||| 2 ^ i, Nat.or_lt_two_pow x1 p2, rfl, fun j => ?_⟩
          rw [Nat.testBit_or, Bool.or_eq_true, e3, Nat.testBit_two_pow, decide_eq_true_eq]
          constructor
          · rintro (z | z)
            · exact ⟨by omega, z.2⟩
            · subst z; exact ⟨by omega, c, d⟩
          · rintro ⟨z1, z2⟩
            by_cases q : i = j
            · exact Or.inr q
            · exact Or.inl ⟨by omega, z2⟩
        | false =>
          have d : anM p (tv i) = false := d
          rw [if_neg Bool.false_ne_true, e1]
          refine ⟨x, x1, rfl, fun j => ?_⟩
          rw [e3]
          constructor
          · rintro z; exact ⟨by omega, z.2⟩
          · rintro ⟨z1, z2, z3⟩
            have : j ≠ i := fun q => by rw [q, d] at z3; cases z3
            exact ⟨by omega, z2, z3⟩
      obtain ⟨x', xl, xe, xb⟩ := hx
      refine ⟨x', y', xl, yl, xe, ye, xb, yb, ?_, ?_⟩
      · rw [lsucc, e5]
        exact ⟨Or.inl, fun z => z.elim id (fun z => by rw [c] at z; cases z.1)⟩
      · rw [ms, lsucc]
        rcases e6 with ⟨n1, n2⟩ | ⟨n1, n2⟩
        · exact Or.inl ⟨by rw [n1]; rfl, Or.inl n2⟩
        · rw [n1]
          show (msc _ _ [tsOf (tv i)] _ = none ∧ _) ∨ (msc _ _ [tsOf (tv i)] _ = _ ∧ _)
          rw [m1]
          by_cases q : ((tv i).1 = true ∧ anM p (tv i) = false) ∨ ((tv i).2.1 = true ∧ anM p (tv i) = true)
          · rw [if_pos q]
            exact Or.inl ⟨rfl, Or.inr q⟩
          · rw [if_neg q, mscA_f _ (fun z => by rw [sg.2.mp z] at c; cases c)]
            exact Or.inr ⟨rfl, fun j hj => (Nat.lt_succ_iff_lt_or_eq.mp hj).elim (n2 j) (fun z => z ▸ q)⟩
/-- a document is a hit with the same score, both ways -/
theorem lk_hit (X : isLex ds V) (hp : p ∈ ds) (hw : ∀ w ∈ p.2, isWd w) (hk : p.1 < 10000) {cnt : Nat} (hc : cnt ≤ 16) (ok : ∀ j, j < cnt → tmOK B (tv j)) : hitQ ds V tv cnt p = hitM ds (tsL tv cnt) (-1) p := by
  obtain ⟨x, y, x1, y1, e1, e2, e3, e4, e5, e6⟩ := lk_inv X hp hw cnt hc ok
  have hne : ¬ nI p.1 = -1 := fun z => nI_pos (n := p.1) (by omega) (by rw [z]; decide)
  unfold hitQ hitM hitOf scM mscV
  rw [if_neg hne, e1, e2, nb_and (by omega) (by omega)]
  rcases e6 with ⟨n1, j, j1, j2⟩ | ⟨n1, n2⟩
  · rw [n1, if_neg (fun z => ?_)]
    · rfl
    · obtain ⟨z1, z2, -⟩ := z
      rcases j2 with ⟨j3, j4⟩ | j2
      · have := (e4 j).mpr ⟨j1, j3⟩
        have z2 : x &&& y = y := nI_inj (Nat.lt_of_le_of_lt Nat.and_le_left (by omega)) (by omega) z2
        rw [← z2, Nat.testBit_and, Bool.and_eq_true] at this
        have := ((e3 j).mp this.1).2.2
        rw [j4] at this
        cases this
      · rw [(e5.mpr ⟨j, j1, j2⟩)] at z1
        cases z1
  · rw [n1]
    have c1 : (svAll ds V tv p.2 cnt).1 = false := by
      cases e : (svAll ds V tv p.2 cnt).1 with
      | false => rfl
      | true =>
        obtain ⟨j, j1, j2⟩ := e5.mp e
        exact absurd (Or.inr j2) (n2 j j1)
    have c2 : x &&& y = y := by
      apply Nat.eq_of_testBit_eq
      intro j
      rw [Nat.testBit_and]
      cases e : y.testBit j with
      | false => rw [Bool.and_false]
      | true =>
        rw [Bool.and_true]
        obtain ⟨j1, j2⟩ := (e4 j).mp e
        refine (e3 j).mpr ⟨j1, ?_, ?_⟩
        · cases q : (tv j).2.1 with
          | false => rfl
          | true => exact absurd ⟨j2, q⟩ (ok j j1).1
        · cases q : anM p (tv j) with
          | true => rfl
          | false => exact absurd (Or.inl ⟨j2, q⟩) (n2 j j1)
    show _ = if (if (svAll ds V tv p.2 cnt).2.2 ≤ 0 then (-1 : Int32) else (svAll ds V tv p.2 cnt).2.2) ≤ 0 then none else some (p.1, if (svAll ds V tv p.2 cnt).2.2 ≤ 0 then (-1 : Int32) else (svAll ds V tv p.2 cnt).2.2)
    rw [c2]
    by_cases q : (svAll ds V tv p.2 cnt).2.2 ≤ 0
    · rw [if_neg (fun z => z.2.2 q), if_pos q, if_pos (by decide)]
    · rw [if_pos ⟨c1, rfl, q⟩, if_neg q, if_neg q]
end LINK2
/-! likeness -/
def simT (we : List Int64) : List tsT := (frs we we.length).map (fun u => (0, min (we.count u) 9, fun w => decide (w = u)))
theorem filter_one {u : Int64} : ∀ {L : List Int64}, L.Nodup → L.filter (fun w => decide (w = u)) = if u ∈ L then [u] else []
  | [], _ => by rw [if_neg List.not_mem_nil]; rfl
  | w :: t, h => by
    obtain ⟨h1, h2⟩ := List.nodup_cons.mp h
    have ih := filter_one (u := u) h2
    by_cases c : w = u
    · subst c
      rw [List.filter_cons_of_pos (by simp), ih, if_neg h1, if_pos List.mem_cons_self]
    · rw [List.filter_cons_of_neg (by simp [c]), ih]
      by_cases c2 : u ∈ t
      · rw [if_pos c2, if_pos (List.mem_cons_of_mem _ c2)]
      · rw [if_neg c2, if_neg (fun z => (List.mem_cons.mp z).elim (fun q => c q.symm) c2)]
theorem msc_sim (ws we : List Int64) (wo : Int64 → Nat) : ∀ (L : List Int64) (s : Int32), msc (frs ws ws.length) wo (L.map (fun u => (0, min (we.count u) 9, fun w => decide (w = u)))) s = some (L.foldl (fun a u => if u ∈ ws then a + nI (min (we.count u) 9 * wo u) else a) s)
  | [], s => rfl
  | u :: r, s => by
    rw [List.map_cons, List.foldl_cons]
    unfold msc
    rw [if_neg (fun z => z.elim (fun z => absurd z.1 (show ¬ (0 : Nat) = 1 by decide)) (fun z => absurd z.1 (show ¬ (0 : Nat) = 2 by decide))), mscA_f wo (show (0 : Nat) ≠ 2 by decide), msc_sim ws we wo r]
    dsimp only
    rw [filter_one (frs_nodup _ _)]
    by_cases c : u ∈ ws
    · rw [if_pos ((frs_all ws u).mpr c), if_pos c]
      rfl
    · rw [if_neg (fun z => c ((frs_all ws u).mp z)), if_neg c]
      rfl
theorem sv_sim (ds : dsT) (we : List Int64) (p : Nat × List Int64) : ∀ (U : List Int64) (s : svT), (U.foldl (svSimW ds we p.2) s).2.2 = U.foldl (fun a u => if u ∈ p.2 then a + nI (min (we.count u) 9 * woM ds p u) else a) s.2.2
  | [], _ => rfl
  | u :: r, s => by
    rw [List.foldl_cons, List.foldl_cons, sv_sim ds we p r]
    unfold svSimW
    by_cases c : u ∈ p.2
    · rw [if_pos c, if_pos c]
      unfold svRew woM
      rw [pk_mul, Nat.mul_assoc]
    · rw [if_neg c, if_neg c]
theorem lk_like {ds : dsT} {U we : List Int64} (hU : U.Nodup) (hm : ∀ w, w ∈ U ↔ w ∈ we) {p : Nat × List Int64} (hk : p.1 < 10000) {k0 : Nat} (hk0 : k0 < 10000) : hitS ds U k0 we p = hitM ds (simT we) (nI k0) p := by
  have P : U.Perm (frs we we.length) := (List.perm_ext_iff_of_nodup hU (frs_nodup _ _)).mpr (fun w => (hm w).trans (frs_all we w).symm)
  have e1 : U.foldl (fun a u => if u ∈ p.2 then a + nI (min (we.count u) 9 * woM ds p u) else a) 0 = (frs we we.length).foldl (fun a u => if u ∈ p.2 then a + nI (min (we.count u) 9 * woM ds p u) else a) 0 := P.foldl_eq' (fun x _ y _ z => by
    by_cases c1 : x ∈ p.2 <;> by_cases c2 : y ∈ p.2 <;> simp only [c1, c2, if_true, if_false]
    rw [Int32.add_assoc, Int32.add_comm (nI _) (nI _), ← Int32.add_assoc]) _
  unfold hitS hitM scM
  by_cases c : p.1 = k0
  · have c3 : nI p.1 = nI k0 := by rw [c]
    rw [if_pos c, if_pos c3, if_pos (show (-1 : Int32) ≤ 0 by decide)]
  · have c2 : ¬ nI p.1 = nI k0 := fun z => c (nI_inj (by omega) (by omega) z)
    rw [if_neg c, if_neg c2]
    have ms : mscV (frs p.2 p.2.length) (woM ds p) (simT we) = if (frs we we.length).foldl (fun a u => if u ∈ p.2 then a + nI (min (we.count u) 9 * woM ds p u) else a) 0 ≤ 0 then -1 else (frs we we.length).foldl (fun a u => if u ∈ p.2 then a + nI (min (we.count u) 9 * woM ds p u) else a) 0 := by
      unfold mscV simT
      rw [msc_sim]
    rw [ms, ← e1]
    have h1 : (svSim ds U we p.2).1 = false := svSim_bar ds we p.2 U _
    have h2 : (svSim ds U we p.2).2.2 = U.foldl (fun a u => if u ∈ p.2 then a + nI (min (we.count u) 9 * woM ds p u) else a) 0 := sv_sim ds we p U _
    unfold hitOf
    rw [h2, h1]
    by_cases q : U.foldl (fun a u => if u ∈ p.2 then a + nI (min (we.count u) 9 * woM ds p u) else a) 0 ≤ 0
    · rw [if_neg (fun z => z.2.2 q), if_pos q, if_pos (by decide)]
    · rw [if_pos ⟨rfl, Int32.and_zero, q⟩, if_neg q, if_neg q]
