section RELEASE
variable {l : jL} {h h1 : jH} {b da dd dc x xa xd xc : Nat} {DL W SW SP : List Nat} {lt : Nat → Int64} {num len : Nat → Nat} {PD QW : Nat → List Nat} {tot : Nat → Nat} {tm pa : Nat → Nat → Nat} {nx : Nat → Nat → Option Nat} {fi : Nat → Option Nat} {sf : Nat → sfT} {n : Nat}
theorem al_ad {ci a d cap : Nat} {L : List Nat} (A : al l h ci a d cap L) : (∃ fs, h a = some (.inr (12, fs))) ∧ (cap ≠ 0 → ∃ f, h d = some (alA cap f)) := by
  obtain ⟨mcn, a1, a2, a3⟩ := id A
  exact ⟨⟨_, a1⟩, fun hc => al_dA A hc⟩
theorem alA_ne {a c n m : Nat} {f g : Nat → Option Nat} (_ : h a = some (alA n f)) (_ : h c = some (alA m g)) (hne : a ≠ c) : a ≠ c := hne
/-- a word without documents leaves the list -/
theorem lib0_strike (B : lib0 l h b da dd dc x xa xd xc DL W SW SP lt num len PD QW tot tm pa nx fi sf n) {k w : Nat} (hk : W[k]? = some w) (hp : PD w = []) (X1 : lx l h1 x xa xd xc (W.eraseIdx k) (w :: SW) lt) (F : fr (fun y => y = x ∨ y = xa ∨ y = xd ∨ y = w) h h1) (hxd : xc ≠ 0) :
    lib0 l h1 b da dd dc x xa xd xc DL (W.eraseIdx k) (w :: SW) SP lt num len PD QW tot tm pa nx fi sf n ∧ fr (lc h) h h1 ∧ ∀ u, u ∈ W.eraseIdx k ↔ u ∈ W ∧ u ≠ w := by
  obtain ⟨b1, b2, b3, b4, b5, b6, b7, b8, b9, b10, b11⟩ := B
  have hm : ∀ u, u ∈ W.eraseIdx k ↔ u ∈ W ∧ u ≠ w := fun u => mem_erase_iff (lx_nodup b3) hk u
  obtain ⟨⟨xf, xa1⟩, xd1⟩ := al_ad b3.2.1
  obtain ⟨xdf, xd1⟩ := xd1 hxd
  obtain ⟨⟨df, da1⟩, dd1⟩ := al_ad b2
  obtain ⟨ws, hw⟩ := b5 w (List.mem_of_getElem? hk)
  have keep : ∀ {y c : Nat} {fs : List Value}, h y = some (.inr (c, fs)) → c ≠ 2 → c ≠ 12 → (c = 9 → y ≠ w) → h1 y = h y := by
    intro y c fs e h2 h12 h9
    refine F y (fun z => ?_)
    rcases z with z | z | z | z
    · exact jv_neO e b3.1 h2 z
    · exact jv_neO e xa1 h12 z
    · exact jv_neA e xd1 z
    · by_cases q : c = 9
      · exact h9 q z
      · exact jv_neO e hw q z
  refine ⟨⟨(keep b1 (by decide) (by decide) (fun q => by cases q)).trans b1, al_up b2 ?_ (fun hc => ?_) (fun y hy => ⟨_, (keep (b7 y hy) (by decide) (by decide) (fun q => by cases q)).trans (b7 y hy)⟩), X1, b4, fun u hu => ?_, fun u hu j v hv => ?_, fun v hv => (keep (b7 v hv) (by decide) (by decide) (fun q => by cases q)).trans (b7 v hv), ⟨fun u hu => b8.1 u ((hm u).mp hu).1, fun v hv => ⟨(b8.2 v hv).1, fun j u hj => ?_⟩⟩, ⟨fun j p hj => ?_, b9.2⟩, fun u hu => b10 u ((hm u).mp hu).1, b11⟩, fun y hy => F y (fun z => ?_), hm⟩
  · refine F da (fun z => ?_)
    rcases z with z | z | z | z
    · exact jv_neO da1 b3.1 (by decide) z
    · exact b4.1 z
    · exact jv_neA da1 xd1 z
    · exact jv_neO da1 hw (by decide) z
  · obtain ⟨f9, d9⟩ := dd1 hc
    refine F dd (fun z => ?_)
    rcases z with z | z | z | z
    · exact jv_neA b3.1 d9 z.symm
    · exact jv_neA xa1 d9 z.symm
    · exact b4.2 hc hxd z
    · exact jv_neA hw d9 z.symm
  · obtain ⟨sp9, h9⟩ := b5 u ((hm u).mp hu).1
    exact ⟨sp9, (keep h9 (by decide) (by decide) (fun _ => ((hm u).mp hu).2)).trans h9⟩
  · have h9 := b6 u ((hm u).mp hu).1 j v hv
    exact (keep h9 (by decide) (by decide) (fun q => by cases q)).trans h9
  · obtain ⟨q1, q2, q3⟩ := (b8.2 v hv).2 j u hj
    exact ⟨(hm u).mpr ⟨q1, fun z => by rw [z, hp] at q2; cases q2⟩, q2, q3⟩
  · obtain ⟨t9, p1, p2, p3⟩ := b9.1 j p hj
    exact ⟨t9, p1, p2, (keep p3 (by decide) (by decide) (fun q => by cases q)).trans p3⟩
  · rcases z with z | z | z | z
    · exact hy (lc_O (z ▸ b3.1) (by simp))
    · exact hy (lc_O (z ▸ xa1) (by simp))
    · exact hy (lc_A (z ▸ xd1))
    · exact hy (lc_O (z ▸ hw) (by simp))
/-- a posting goes to the spare ones -/
theorem lib0_spare (B : lib0 l h b da dd dc x xa xd xc DL W SW SP lt num len PD QW tot tm pa nx fi sf n) {p t : Nat} {pw pd bf nn nd : Option Nat} (hp : h p = some (psO pw pd t bf nn nd)) (hu : ∀ u ∈ W, ∀ v ∈ PD u, pa u v ≠ p) (hs : p ∉ SP) :
    lib0 l (jv_up (jv_up h p (psO none none t bf nn SP[0]?)) b (lbO da x n (some p))) b da dd dc x xa xd xc DL W SW (p :: SP) lt num len PD QW tot tm pa nx fi sf n ∧ fr (lc h) h (jv_up (jv_up h p (psO none none t bf nn SP[0]?)) b (lbO da x n (some p))) := by
  obtain ⟨b1, b2, b3, b4, b5, b6, b7, b8, b9, b10, b11⟩ := B
  have F : fr (fun y => y = p ∨ y = b) h (jv_up (jv_up h p (psO none none t bf nn SP[0]?)) b (lbO da x n (some p))) := fr_tr (fr_up (Or.inl rfl)) (fr_up (Or.inr rfl))
  have keep : ∀ {y c : Nat} {fs : List Value}, h y = some (.inr (c, fs)) → c ≠ 3 → (c = 4 → y ≠ p) → jv_up (jv_up h p (psO none none t bf nn SP[0]?)) b (lbO da x n (some p)) y = h y := by
    intro y c fs e h3 h4
    refine F y (fun z => ?_)
    rcases z with z | z
    · by_cases q : c = 4
      · exact h4 q z
      · exact jv_neO e hp q z
    · exact jv_neO e b1 h3 z
  have keepA : ∀ {y n : Nat} {f : Nat → Option Nat}, h y = some (alA n f) → jv_up (jv_up h p (psO none none t bf nn SP[0]?)) b (lbO da x n (some p)) y = h y := by
    intro y n f e
    exact (jv_up_ne (jv_neA b1 e).symm).trans (jv_up_ne (jv_neA hp e).symm)
  obtain ⟨⟨xf, xa1⟩, xd1⟩ := al_ad b3.2.1
  obtain ⟨⟨df, da1⟩, dd1⟩ := al_ad b2
  have hd : ∀ v ∈ DL, _ := fun v hv => (keep (b7 v hv) (by decide) (fun q => by cases q)).trans (b7 v hv)
  have hpb : p ≠ b := jv_neO hp b1 (by decide)
  refine ⟨⟨jv_up_at _ _ _, al_up b2 (keep da1 (by decide) (fun q => by cases q)) (fun hc => ?_) (fun y hy => ⟨_, hd y hy⟩), lx_up b3 (keep b3.1 (by decide) (fun q => by cases q)) (keep xa1 (by decide) (fun q => by cases q)) (fun hc => ?_) (fun u hu => ?_) (fun u hu => ?_), b4, fun u hu => ?_, fun u hu2 j v hv => ?_, hd, b8, ⟨fun j q hj => ?_, List.nodup_cons.mpr ⟨hs, b9.2⟩⟩, b10, b11⟩, fun y hy => F y (fun z => ?_)⟩
  · obtain ⟨f, f1⟩ := dd1 hc
    exact (jv_up_ne (jv_neA b1 f1).symm).trans (jv_up_ne (jv_neA hp f1).symm)
  · obtain ⟨f, f1⟩ := xd1 hc
    exact (jv_up_ne (jv_neA b1 f1).symm).trans (jv_up_ne (jv_neA hp f1).symm)
  · obtain ⟨c1, c2, c3, c4, c5⟩ := b3.2.2.1 u hu
    exact ⟨c1, c2, c3, c4, (keep c5 (by decide) (fun q => by cases q)).trans c5⟩
  · obtain ⟨j, hj⟩ := List.getElem?_of_mem hu
    obtain ⟨c1, c2, c3, c4, c5⟩ := b3.2.2.2.2.1 j u hj
    exact keep c5 (by decide) (fun q => by cases q)
  · obtain ⟨sp9, h9⟩ := b5 u hu
    exact ⟨sp9, (keep h9 (by decide) (fun q => by cases q)).trans h9⟩
  · have h9 := b6 u hu2 j v hv
    exact (keep h9 (by decide) (fun _ => hu u hu2 v (List.mem_of_getElem? hv))).trans h9
  · cases j with
    | zero =>
      cases hj
      exact ⟨t, bf, nn, jv_up_of hpb (jv_up_at _ _ _)⟩
    | succ j =>
      rw [List.getElem?_cons_succ] at hj
      obtain ⟨t9, p1, p2, p3⟩ := b9.1 j q hj
      exact ⟨t9, p1, p2, (keep p3 (by decide) (fun _ z => hs (z ▸ List.mem_of_getElem? hj))).trans p3⟩
  · rcases z with z | z
    · exact hy (lc_O (z ▸ hp) (by simp))
    · exact hy (lc_O (z ▸ b1) (by simp))
theorem lib0_pNS (B : lib0 l h b da dd dc x xa xd xc DL W SW SP lt num len PD QW tot tm pa nx fi sf n) {w e : Nat} (hw : w ∈ W) (he : e ∈ PD w) : pa w e ∉ SP := by
  obtain ⟨b1, b2, b3, b4, b5, b6, b7, b8, b9, b10, b11⟩ := B
  intro z
  obtain ⟨j, hj⟩ := List.getElem?_of_mem z
  obtain ⟨t9, p1, p2, p3⟩ := b9.1 j _ hj
  obtain ⟨i, hi⟩ := List.getElem?_of_mem he
  rw [b6 w hw i e hi] at p3
  have := (psO_inj p3).1
  cases this
def relP (l : jL) (h : jH) (b da dd dc x xa xd xc : Nat) (DL W SW SP : List Nat) (lt : Nat → Int64) (num len : Nat → Nat) (PD QW : Nat → List Nat) (tot : Nat → Nat) (tm pa : Nat → Nat → Nat) (nx : Nat → Nat → Option Nat) (fi : Nat → Option Nat) (sf : Nat → sfT) (n e w i : Nat) (rest : List Nat) (h1 : jH) : Prop :=
  fr (lc h) h h1 ∧ ∃ W' SW', lib0 l h1 b da dd dc x xa xd xc DL W' SW' (pa w e :: SP) lt num len (va_up PD w ((PD w).eraseIdx i)) (va_up QW e rest) (va_up tot w (tot w - tm w e)) tm pa nx fi sf n ∧ (∀ u, u ∈ W' ↔ u ∈ W ∧ va_up PD w ((PD w).eraseIdx i) u ≠ []) ∧ W'.length ≤ W.length
set_option maxHeartbeats 800000 in
theorem c_Lib_release (B : lib0 l h b da dd dc x xa xd xc DL W SW SP lt num len PD QW tot tm pa nx fi sf n) (hne : ∀ u ∈ W, PD u ≠ []) {w i e : Nat} {rest : List Nat} (he : e ∈ DL) (hq : QW e = w :: rest) (hi : (PD w)[i]? = some e) : Cn l yX4_release cX4_release 3 none 7 0 0 [.ref b, .ref (pa w e)] h (fun r h1 => r = none ∧ relP l h b da dd dc x xa xd xc DL W SW SP lt num len PD QW tot tm pa nx fi sf n e w i rest h1) := by
  have B0 := B
  obtain ⟨b1, b2, b3, b4, b5, b6, b7, b8, b9, b10, b11⟩ := B
  have hqe := (b8.2 e he).2 0 w (by rw [hq]; rfl)
  have hw : w ∈ W := hqe.1
  have hnw := (b8.1 w hw).1
  have hp := b6 w hw i e hi
  obtain ⟨wsp, hwc⟩ := b5 w hw
  refine Cn.of (own := RX4) rfl (by decide) (by exact Nat.le_of_ble_eq_true rfl) (by decide) (fun K hK C D I => ?_)
  have K29 : ∀ (h' : jH) (W' SW' : List Nat) (r : Option Nat), fr (lc h) h h' → lib0 l h' b da dd dc x xa xd xc DL W' SW' SP lt num len (va_up PD w ((PD w).eraseIdx i)) (va_up QW e rest) (va_up tot w (tot w - tm w e)) tm pa nx fi sf n → h' (pa w e) = h (pa w e) → (∀ u ∈ W', ∀ v ∈ va_up PD w ((PD w).eraseIdx i) u, pa u v ≠ pa w e) → (∀ u, u ∈ W' ↔ u ∈ W ∧ va_up PD w ((PD w).eraseIdx i) u ≠ []) → W'.length ≤ W.length → J K 0 0 29 (jv_l [(2, .ref w), (1, .ref (pa w e)), (0, .ref b)]) [] h' := by
    intro h' W' SW' r k1 k2 k3 k4 k5 k6
    have k3 := k3.trans hp
    have kb := k2.1
    have npb : pa w e ≠ b := jv_neO k3 kb (by decide)
    first | refine J_aload_n C rfl dX4_release_29 ?_ | refine J_aload_nq C rfl dX4_release_29 ?_ | refine J_aload_nN C rfl dX4_release_29 ?_
    refine J_null C dX4_release_30 ?_
    refine J_put C fl_X4_121 (by first | assumption | exact jv_up_at _ _ _ | (simp [jv_up, *]; done)) (by exact Nat.le_of_ble_eq_true rfl) (by first | rfl | exact jv_nar_o _ _) (by first | rfl | exact jv_fit_o _ _) dX4_release_31 ?_
    first | refine J_aload_n C rfl dX4_release_34 ?_ | refine J_aload_nq C rfl dX4_release_34 ?_ | refine J_aload_nN C rfl dX4_release_34 ?_
    refine J_null C dX4_release_35 ?_
    refine J_put C fl_X4_96 (by first | assumption | exact jv_up_at _ _ _ | (simp [jv_up, *]; done)) (by exact Nat.le_of_ble_eq_true rfl) (by first | rfl | exact jv_nar_o _ _) (by first | rfl | exact jv_fit_o _ _) dX4_release_36 ?_
    have kb2 := jv_up_of (x := psO none none (tm w e) (prv (PD w) (pa w) i) (nxt (PD w) (pa w) i) (nx w e)) npb.symm kb
    first | refine J_aload_n C rfl dX4_release_39 ?_ | refine J_aload_nq C rfl dX4_release_39 ?_ | refine J_aload_nN C rfl dX4_release_39 ?_
    first | refine J_aload_n C rfl dX4_release_40 ?_ | refine J_aload_nq C rfl dX4_release_40 ?_ | refine J_aload_nN C rfl dX4_release_40 ?_
    refine J_get C fl_X4_143 (by first | exact jv_up_at _ _ _ | exact jv_up_of npb.symm (jv_up_of npb.symm kb)) (by rfl) dX4_release_41 ?_
    refine J_put C fl_X4_126 (by first | exact jv_up_at _ _ _ | exact jv_up_of npb.symm (jv_up_of npb.symm (jv_up_of npb.symm kb))) (by exact Nat.le_of_ble_eq_true rfl) (by first | rfl | exact jv_nar_o _ _) (by first | rfl | exact jv_fit_o _ _) dX4_release_44 ?_
    first | refine J_aload_n C rfl dX4_release_47 ?_ | refine J_aload_nq C rfl dX4_release_47 ?_ | refine J_aload_nN C rfl dX4_release_47 ?_
    first | refine J_aload_n C rfl dX4_release_48 ?_ | refine J_aload_nq C rfl dX4_release_48 ?_ | refine J_aload_nN C rfl dX4_release_48 ?_
    refine J_put C fl_X4_143 (by first | exact jv_up_at _ _ _ | exact jv_up_of npb.symm (jv_up_of npb.symm (jv_up_of npb.symm kb))) (by exact Nat.le_of_ble_eq_true rfl) (by first | rfl | exact jv_nar_o _ _) (by first | rfl | exact jv_fit_o _ _) dX4_release_49 ?_
    rw [jv_up_up, jv_up_up]
    obtain ⟨s1, s2⟩ := lib0_spare k2 k3 k4 (lib0_pNS B0 hw (List.mem_of_getElem? hi))
    refine J_vret C D ⟨rfl, lc_tr k1 s2, W', SW', s1, k5, k6⟩ (by omega) (by omega) dX4_release_52
  first | refine J_aload_n C rfl dX4_release_0 ?_ | refine J_aload_nq C rfl dX4_release_0 ?_ | refine J_aload_nN C rfl dX4_release_0 ?_
  refine J_get C fl_X4_121 (by first | assumption | exact jv_up_at _ _ _ | (simp [jv_up, *]; done)) (by rfl) dX4_release_1 ?_
  first | refine J_astore_nq C (by decide) dX4_release_4 ?_ | refine J_astore_n C (by decide) dX4_release_4 ?_ | refine J_astore_nN C (by decide) dX4_release_4 ?_
  first | refine J_aload_n C rfl dX4_release_5 ?_ | refine J_aload_nq C rfl dX4_release_5 ?_ | refine J_aload_nN C rfl dX4_release_5 ?_
  refine J_ifnull (x := some w) C 29 (by decide) dX4_release_6 (fun z => by cases z) (fun _ _ => ?_)
  first | refine J_aload_n C rfl dX4_release_9 ?_ | refine J_aload_nq C rfl dX4_release_9 ?_ | refine J_aload_nN C rfl dX4_release_9 ?_
  first | refine J_aload_n C rfl dX4_release_10 ?_ | refine J_aload_nq C rfl dX4_release_10 ?_ | refine J_aload_nN C rfl dX4_release_10 ?_
  have hil := (List.getElem?_eq_some_iff.mp hi).1
  have nbP : ∀ b0, prv (PD w) (pa w) i = some b0 → h b0 = some (psC (cellAt PD tm pa nx w (i-1))) ∧ b0 ≠ pa w e := by
    intro b0 z
    unfold prv at z
    by_cases c : i = 0
    · rw [if_pos c] at z; cases z
    · rw [if_neg c] at z
      obtain ⟨v, v1, v2⟩ := Option.map_eq_some_iff.mp z
      subst v2
      refine ⟨?_, fun q => ?_⟩
      · rw [cellAt_some w (i-1) v v1]; exact b6 w hw (i-1) v v1
      · have := (gP_inj b6 hw (List.mem_of_getElem? v1) hw (List.mem_of_getElem? hi) q).2
        subst this
        have := nodup_idx hnw v1 hi
        omega
  have nnP : ∀ n0, nxt (PD w) (pa w) i = some n0 → h n0 = some (psC (cellAt PD tm pa nx w (i+1))) ∧ n0 ≠ pa w e := by
    intro n0 z
    unfold nxt at z
    obtain ⟨v, v1, v2⟩ := Option.map_eq_some_iff.mp z
    subst v2
    refine ⟨?_, fun q => ?_⟩
    · rw [cellAt_some w (i+1) v v1]; exact b6 w hw (i+1) v v1
    · have := (gP_inj b6 hw (List.mem_of_getElem? v1) hw (List.mem_of_getElem? hi) q).2
      subst this
      have := nodup_idx hnw v1 hi
      omega
  have nbn : ∀ b0 n0, prv (PD w) (pa w) i = some b0 → nxt (PD w) (pa w) i = some n0 → b0 ≠ n0 := by
    intro b0 n0 z z2 q
    unfold prv at z
    unfold nxt at z2
    by_cases c : i = 0
    · rw [if_pos c] at z; cases z
    · rw [if_neg c] at z
      obtain ⟨v, v1, v2⟩ := Option.map_eq_some_iff.mp z
      obtain ⟨v', v1', v2'⟩ := Option.map_eq_some_iff.mp z2
      subst v2; subst v2'
      have := (gP_inj b6 hw (List.mem_of_getElem? v1) hw (List.mem_of_getElem? v1') q).2
      subst this
      have := nodup_idx hnw v1 v1'
      omega
  have hsum : tm w e ≤ tot w := by
    have := sum_erase (tm w) (PD w) i e hi
    have h10 := b10 w hw
    omega
  refine J_callV C (c_Word_unlink w (pa w e) (lt w) (PD w).length (tot w) (tm w e) wsp ((PD w)[0]?.map (pa w)) (some w) (some e) (prv (PD w) (pa w) i) (nxt (PD w) (pa w) i) (nx w e) (cellAt PD tm pa nx w (i-1)) (cellAt PD tm pa nx w (i+1)) hwc hp nbP nnP nbn (by omega) hsum) cw_X4_136 (by first | assumption | exact jv_up_at _ _ _ | (simp [jv_up, *]; done)) rfl rfl rfl rfl (by exact Nat.le_of_ble_eq_true rfl) (by decide) (by omega) (by omega) dX4_release_11 ?_
  rintro _ h2 ⟨rfl, U⟩
  obtain ⟨u1, u2, u3, u4, u5⟩ := lib0_unl B0 he hq hi rfl rfl rfl rfl hwc rfl rfl rfl U
  first | refine J_aload_n C rfl dX4_release_14 ?_ | refine J_aload_nq C rfl dX4_release_14 ?_ | refine J_aload_nN C rfl dX4_release_14 ?_
  refine J_get C fl_X4_92 (by first | assumption | exact jv_up_at _ _ _ | (simp [jv_up, *]; done)) (by rfl) dX4_release_15 ?_
  have upw : va_up PD w ((PD w).eraseIdx i) w = (PD w).eraseIdx i := if_pos rfl
  refine J_ifnonnull C 29 (by decide) dX4_release_18 (fun f0 z => ?_) (fun z => ?_)
  · refine J_sub (by exact (And.intro rfl (And.intro rfl (And.intro rfl trivial)))) (K29 h2 W SW none u4 u1 u2 u5 (fun u => ⟨fun hu => ⟨hu, ?_⟩, fun hu => hu.1⟩) (Nat.le_refl _))
    by_cases c : u = w
    · subst c
      rw [upw]
      intro q
      rw [q] at z
      cases z
    · rw [show va_up PD w ((PD w).eraseIdx i) u = PD u from if_neg c]
      exact hne u hu
  · have hnil : (PD w).eraseIdx i = [] := by
      cases q : (PD w).eraseIdx i with
      | nil => rfl
      | cons y t => rw [q] at z; cases z
    obtain ⟨k, hk⟩ := List.getElem?_of_mem hw
    have u13 := u1.2.2.1
    have u1b := u1.1
    have u1x := u13.1
    have X1 := u13
    rw [← hK] at X1
    first | refine J_aload_n C rfl dX4_release_21 ?_ | refine J_aload_nq C rfl dX4_release_21 ?_ | refine J_aload_nN C rfl dX4_release_21 ?_
    refine J_get C fl_X4_21 (by first | assumption | exact jv_up_at _ _ _ | (simp [jv_up, *]; done)) (by rfl) dX4_release_22 ?_
    first | refine J_aload_n C rfl dX4_release_25 ?_ | refine J_aload_nq C rfl dX4_release_25 ?_ | refine J_aload_nN C rfl dX4_release_25 ?_
    refine J_callV C (c_Lex_strike X1 k w hk ((PD w).length - 1) (tot w - tm w e) (((PD w).eraseIdx i)[0]?.map (pa w)) wsp u3) cw_X4_139 (by first | assumption | exact jv_up_at _ _ _ | (simp [jv_up, *]; done)) rfl rfl rfl rfl (by exact Nat.le_of_ble_eq_true rfl) (by decide) (by omega) (by omega) dX4_release_26 ?_
    rintro _ h3 ⟨rfl, Y1, Y2, Y3⟩
    rw [hK] at Y1
    have hxc : xc ≠ 0 := by
      obtain ⟨mcn, a1, a2, a3⟩ := u13.2.1
      rcases a3 with ⟨_, q, _⟩ | ⟨c1, _⟩
      · rw [q] at hw; cases hw
      · omega
    obtain ⟨s1, s2, s3⟩ := lib0_strike u1 hk (upw.trans hnil) Y1 Y3 hxc
    refine J_sub (by exact (And.intro rfl (And.intro rfl (And.intro rfl trivial)))) (K29 h3 _ _ none (lc_tr u4 s2) s1 ?_ (fun u hu => u5 u ((s3 u).mp hu).1) (fun u => ⟨fun hu => ?_, fun hu => ?_⟩) (by rw [List.length_eraseIdx]; split <;> omega))
    · refine (Y3 _ (fun z => ?_)).trans u2
      have hp2 := u2.trans hp
      obtain ⟨⟨xf, xa1⟩, xd1⟩ := al_ad u13.2.1
      obtain ⟨xdf, xd1⟩ := xd1 hxc
      rcases z with z | z | z | z
      · exact jv_neO hp2 u13.1 (by decide) z
      · exact jv_neO hp2 xa1 (by decide) z
      · exact jv_neA hp2 xd1 z
      · exact jv_neO hp2 u3 (by decide) z
    · obtain ⟨q1, q2⟩ := (s3 u).mp hu
      refine ⟨q1, ?_⟩
      rw [show va_up PD w ((PD w).eraseIdx i) u = PD u from if_neg q2]
      exact hne u q1
    · refine (s3 u).mpr ⟨hu.1, fun q => ?_⟩
      subst q
      exact hu.2 (upw.trans hnil)
end RELEASE
