section LINK
variable {l : jL} {h h1 : jH} {b da dd dc x xa xd xc : Nat} {DL W SW SP : List Nat} {lt : Nat → Int64} {num len : Nat → Nat} {PD QW : Nat → List Nat} {tot : Nat → Nat} {tm pa : Nat → Nat → Nat} {nx : Nat → Nat → Option Nat} {fi : Nat → Option Nat} {sf : Nat → sfT} {n : Nat}
theorem map_ne {f g : Nat → Nat} {L : List Nat} (hh : ∀ v ∈ L, g v = f v) (k : Nat) : (L[k]?).map g = (L[k]?).map f := by
  cases e : L[k]? with
  | none => rfl
  | some v => exact congrArg some (hh v (List.mem_of_getElem? e))
theorem lib0_link (B : lib0 l h b da dd dc x xa xd xc DL W SW SP lt num len PD QW tot tm pa nx fi sf n) {w e p : Nat} (hw : w ∈ W) (he : e ∈ DL) (hn : e ∉ PD w) (hfi : fi e = (QW e)[0]?.map (fun u => pa u e)) {pw pd bf nn nd : Option Nat} {t : Nat} (hp : h p = some (psO pw pd t bf nn nd)) (hu : ∀ u ∈ W, ∀ v ∈ PD u, pa u v ≠ p) (hs : p ∉ SP) {sp : Option Nat}
    (k1 : h1 p = some (psO (some w) (some e) 0 none ((PD w)[0]?.map (pa w)) (fi e)))
    (k2 : h1 w = some (wdO (lt w) ((PD w).length + 1) (tot w) (some p) sp))
    (k3 : ∀ v, (PD w)[0]? = some v → h1 (pa w v) = some (psO (some w) (some v) (tm w v) (some p) (nxt (PD w) (pa w) 0) (nx w v)))
    (k4 : h1 e = some (dcO (num e) (len e) (some p) (sf e)))
    (F : fr (fun y => y = p ∨ y = w ∨ y = e ∨ ∃ v, (PD w)[0]? = some v ∧ y = pa w v) h h1) :
    lib0 l h1 b da dd dc x xa xd xc DL W SW SP lt num len (va_up PD w (e :: PD w)) (va_up QW e (w :: QW e)) tot (up2 tm w e 0) (up2 pa w e p) (up2 nx w e (fi e)) (va_up fi e (some p)) sf n ∧ fr (lc h) h h1 := by
  obtain ⟨b1, b2, b3, b4, b5, b6, b7, b8, b9, b10, b11⟩ := B
  obtain ⟨ws, hwc⟩ := b5 w hw
  have hec := b7 e he
  have fst : ∀ v, (PD w)[0]? = some v → h (pa w v) = some (psO (some w) (some v) (tm w v) (prv (PD w) (pa w) 0) (nxt (PD w) (pa w) 0) (nx w v)) := fun v hv => b6 w hw 0 v hv
  have keep : ∀ {y c : Nat} {fs : List Value}, h y = some (.inr (c, fs)) → (c = 4 → y ≠ p ∧ ∀ v, (PD w)[0]? = some v → y ≠ pa w v) → (c = 9 → y ≠ w) → (c = 1 → y ≠ e) → h1 y = h y := by
    intro y c fs e9 c4 c9 c1
    refine F y (fun z => ?_)
    rcases z with z | z | z | ⟨v, v1, z⟩
    · by_cases q : c = 4
      · exact (c4 q).1 z
      · exact jv_neO e9 hp q z
    · by_cases q : c = 9
      · exact c9 q z
      · exact jv_neO e9 hwc q z
    · by_cases q : c = 1
      · exact c1 q z
      · exact jv_neO e9 hec q z
    · by_cases q : c = 4
      · exact (c4 q).2 v v1 z
      · exact jv_neO e9 (fst v v1) q z
  have keepA : ∀ {y n : Nat} {f : Nat → Option Nat}, h y = some (alA n f) → h1 y = h y := by
    intro y n f e9
    refine F y (fun z => ?_)
    rcases z with z | z | z | ⟨v, v1, z⟩
    · exact jv_neA hp e9 z.symm
    · exact jv_neA hwc e9 z.symm
    · exact jv_neA hec e9 z.symm
    · exact jv_neA (fst v v1) e9 z.symm
  have keepP : ∀ u ∈ W, ∀ j v, (PD u)[j]? = some v → (u ≠ w ∨ j ≠ 0) → h1 (pa u v) = h (pa u v) := by
    intro u hu2 j v hv hd
    refine keep (b6 u hu2 j v hv) (fun _ => ⟨hu u hu2 v (List.mem_of_getElem? hv), fun v0 hv0 z => ?_⟩) (fun q => by cases q) (fun q => by cases q)
    obtain ⟨z1, z2⟩ := gP_inj b6 hu2 (List.mem_of_getElem? hv) hw (List.mem_of_getElem? hv0) z
    rcases hd with hd | hd
    · exact hd z1
    · subst z1; subst z2
      exact hd (nodup_idx (b8.1 u hu2).1 hv hv0)
  obtain ⟨⟨xf, xa1⟩, xd1⟩ := al_ad b3.2.1
  obtain ⟨⟨df, da1⟩, dd1⟩ := al_ad b2
  have n4 : ∀ {P : Prop}, (2:Nat) = 4 → P := fun q => by cases q
  have upw : va_up PD w (e :: PD w) w = e :: PD w := if_pos rfl
  have upo : ∀ u, u ≠ w → va_up PD w (e :: PD w) u = PD u := fun u hu => if_neg hu
  have uqe : va_up QW e (w :: QW e) e = w :: QW e := if_pos rfl
  have uqo : ∀ v, v ≠ e → va_up QW e (w :: QW e) v = QW v := fun v hv => if_neg hv
  have paw : ∀ v ∈ PD w, up2 pa w e p w v = pa w v := fun v hv => up2_ne (Or.inr (fun z => hn (z ▸ hv)))
  have pao : ∀ u, u ≠ w → up2 pa w e p u = pa u := fun u hu => funext (fun v => up2_ne (Or.inl hu))
  have hwq : w ∉ QW e := fun z => by
    obtain ⟨j, hj⟩ := List.getElem?_of_mem z
    exact hn ((b8.2 e he).2 j w hj).2.1
  have hd9 : gD h1 DL num len (va_up fi e (some p)) sf := by
    intro v hv
    by_cases c : v = e
    · subst c
      rw [k4, show va_up fi v (some p) v = some p from if_pos rfl]
    · rw [show va_up fi e (some p) v = fi v from if_neg c]
      exact (keep (b7 v hv) (fun q => by cases q) (fun q => by cases q) (fun _ => c)).trans (b7 v hv)
  have hW9 : gW h1 W lt (va_up PD w (e :: PD w)) tot (up2 pa w e p) := by
    intro u hu2
    by_cases c : u = w
    · subst c
      refine ⟨sp, ?_⟩
      rw [upw, k2]
      show _ = some (wdO (lt u) (e :: PD u).length (tot u) (some (up2 pa u e p u e)) sp)
      rw [up2_at]
      rfl
    · obtain ⟨sp9, h9⟩ := b5 u hu2
      refine ⟨sp9, ?_⟩
      rw [upo u c, pao u c]
      exact (keep h9 (fun q => by cases q) (fun _ => c) (fun q => by cases q)).trans h9
  refine ⟨⟨(keep b1 (fun q => by cases q) (fun q => by cases q) (fun q => by cases q)).trans b1, al_up b2 (keep da1 (fun q => by cases q) (fun q => by cases q) (fun q => by cases q)) (fun hc => ?_) (fun y hy => ⟨_, hd9 y hy⟩), lx_up b3 (keep b3.1 (fun q => by cases q) (fun q => by cases q) (fun q => by cases q)) (keep xa1 (fun q => by cases q) (fun q => by cases q) (fun q => by cases q)) (fun hc => ?_) (fun u hu2 => ?_) (fun u hu2 => ?_), b4, hW9, fun u hu2 j v hv => ?_, hd9, ⟨fun u hu2 => ?_, fun v hv => ?_⟩, ⟨fun j q hj => ?_, b9.2⟩, fun u hu2 => ?_, b11⟩, fun y hy => F y (fun z => ?_)⟩
  · obtain ⟨f, f1⟩ := dd1 hc
    exact keepA f1
  · obtain ⟨f, f1⟩ := xd1 hc
    exact keepA f1
  · obtain ⟨sp9, h9⟩ := hW9 u hu2
    exact ⟨_, _, _, _, h9⟩
  · obtain ⟨j, hj⟩ := List.getElem?_of_mem hu2
    obtain ⟨c1, c2, c3, c4, c5⟩ := b3.2.2.2.2.1 j u hj
    exact keep c5 (fun q => by cases q) (fun _ z => b3.2.2.2.2.2.2 u hu2 (z ▸ hw)) (fun q => by cases q)
  · by_cases c : u = w
    · subst c
      rw [upw] at hv ⊢
      cases j with
      | zero =>
        cases hv
        rw [up2_at, up2_at, up2_at, k1]
        have e1 : prv (e :: PD u) (up2 pa u e p u) 0 = none := rfl
        have e2 : nxt (e :: PD u) (up2 pa u e p u) 0 = (PD u)[0]?.map (pa u) := by
          unfold nxt
          rw [List.getElem?_cons_succ]
          exact map_ne paw 0
        rw [e1, e2]
      | succ j =>
        rw [List.getElem?_cons_succ] at hv
        have hve : v ≠ e := fun z => hn (z ▸ List.mem_of_getElem? hv)
        have e2 : nxt (e :: PD u) (up2 pa u e p u) (j + 1) = nxt (PD u) (pa u) j := by
          unfold nxt
          rw [List.getElem?_cons_succ]
          exact map_ne paw (j+1)
        rw [e2, up2_ne (Or.inr hve), up2_ne (Or.inr hve), up2_ne (Or.inr hve)]
        cases j with
        | zero =>
          rw [k3 v hv]
          have e1 : prv (e :: PD u) (up2 pa u e p u) (0 + 1) = some p := by
            show some (up2 pa u e p u e) = some p
            rw [up2_at]
          rw [e1]
        | succ j =>
          rw [keepP u hu2 (j+1) v hv (Or.inr (by omega)), b6 u hu2 (j+1) v hv]
          have e1 : prv (e :: PD u) (up2 pa u e p u) (j + 1 + 1) = prv (PD u) (pa u) (j + 1) := by
            unfold prv
            rw [if_neg (by omega), if_neg (by omega), show j + 1 + 1 - 1 = j + 1 by omega, show j + 1 - 1 = j by omega, List.getElem?_cons_succ]
            exact map_ne paw j
          rw [e1]
    · rw [upo u c] at hv ⊢
      rw [pao u c, up2_ne (Or.inl c), up2_ne (Or.inl c)]
      rw [keepP u hu2 j v hv (Or.inl c)]
      exact b6 u hu2 j v hv
  · by_cases c : u = w
    · subst c
      rw [upw]
      refine ⟨List.nodup_cons.mpr ⟨hn, (b8.1 u hu2).1⟩, fun v hv => ?_⟩
      rcases List.mem_cons.mp hv with z | z
      · subst z
        exact ⟨he, by rw [uqe]; exact List.mem_cons_self⟩
      · rw [uqo v (fun q => hn (q ▸ z))]
        exact (b8.1 u hu2).2 v z
    · rw [upo u c]
      refine ⟨(b8.1 u hu2).1, fun v hv => ?_⟩
      obtain ⟨q1, q2⟩ := (b8.1 u hu2).2 v hv
      refine ⟨q1, ?_⟩
      by_cases c2 : v = e
      · subst c2
        rw [uqe]
        exact List.mem_cons_of_mem _ q2
      · rw [uqo v c2]; exact q2
  · by_cases c : v = e
    · subst c
      rw [uqe]
      refine ⟨List.nodup_cons.mpr ⟨hwq, (b8.2 v hv).1⟩, fun j u hj => ?_⟩
      have pq : ∀ u ∈ QW v, up2 pa w v p u v = pa u v := fun u hu9 => up2_ne (Or.inl (fun z => hwq (z ▸ hu9)))
      cases j with
      | zero =>
        cases hj
        refine ⟨hw, by rw [upw]; exact List.mem_cons_self, ?_⟩
        rw [up2_at, List.getElem?_cons_succ, hfi]
        exact (map_ne (f := fun u => pa u v) (g := fun u => up2 pa w v p u v) pq 0).symm
      | succ j =>
        rw [List.getElem?_cons_succ] at hj
        obtain ⟨q1, q2, q3⟩ := (b8.2 v hv).2 j u hj
        have huw : u ≠ w := fun z => hwq (z ▸ List.mem_of_getElem? hj)
        refine ⟨q1, by rw [upo u huw]; exact q2, ?_⟩
        rw [up2_ne (Or.inl huw), q3, List.getElem?_cons_succ]
        exact (map_ne (f := fun u => pa u v) (g := fun u => up2 pa w v p u v) pq (j+1)).symm
    · rw [uqo v c]
      refine ⟨(b8.2 v hv).1, fun j u hj => ?_⟩
      obtain ⟨q1, q2, q3⟩ := (b8.2 v hv).2 j u hj
      refine ⟨q1, ?_, ?_⟩
      · by_cases c2 : u = w
        · subst c2
          rw [upw]
          exact List.mem_cons_of_mem _ q2
        · rw [upo u c2]; exact q2
      · rw [up2_ne (Or.inr c), q3]
        exact (map_ne (f := fun u => pa u v) (g := fun u => up2 pa w e p u v) (fun u _ => up2_ne (Or.inr c)) (j+1)).symm
  · obtain ⟨t9, p1, p2, p3⟩ := b9.1 j q hj
    refine ⟨t9, p1, p2, (keep p3 (fun _ => ⟨fun z => hs (z ▸ List.mem_of_getElem? hj), fun v hv z => ?_⟩) (fun q => by cases q) (fun q => by cases q)).trans p3⟩
    have := fst v hv
    rw [← z, p3] at this
    have := (psO_inj this).1
    cases this
  · by_cases c : u = w
    · subst c
      rw [upw]
      show tot u = up2 tm u e 0 u e + ((PD u).map (up2 tm u e 0 u)).sum
      rw [up2_at, Nat.zero_add, b10 u hu2]
      have hh : ∀ v ∈ PD u, tm u v = up2 tm u e 0 u v := fun v hv => by
        have hve : v ≠ e := fun z => hn (z ▸ hv)
        exact (up2_ne (Or.inr hve)).symm
      exact congrArg List.sum (List.map_congr_left hh)
    · rw [upo u c]
      rw [b10 u hu2]
      have hh : ∀ v ∈ PD u, tm u v = up2 tm w e 0 u v := fun v hv => (up2_ne (Or.inl c)).symm
      exact congrArg List.sum (List.map_congr_left hh)
  · rcases z with z | z | z | ⟨v, v1, z⟩
    · exact hy (lc_O (z ▸ hp) (by simp))
    · exact hy (lc_O (z ▸ hwc) (by simp))
    · exact hy (lc_O (z ▸ hec) (by simp))
    · exact hy (lc_O (z ▸ fst v v1) (by simp))
end LINK
