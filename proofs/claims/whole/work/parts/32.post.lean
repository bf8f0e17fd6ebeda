section POST
variable {l : jL} {h h1 : jH} {b da dd dc x xa xd xc : Nat} {DL W SW SP : List Nat} {lt : Nat → Int64} {num len : Nat → Nat} {PD QW : Nat → List Nat} {tot : Nat → Nat} {tm pa : Nat → Nat → Nat} {nx : Nat → Nat → Option Nat} {fi : Nat → Option Nat} {sf : Nat → sfT} {n : Nat}
def up2 {α : Type} (f : Nat → Nat → α) (w e : Nat) (v : α) : Nat → Nat → α := fun a c => if a = w ∧ c = e then v else f a c
theorem up2_at {α : Type} (f : Nat → Nat → α) (w e : Nat) (v : α) : up2 f w e v w e = v := if_pos ⟨rfl, rfl⟩
theorem up2_ne {α : Type} {f : Nat → Nat → α} {w e a c : Nat} {v : α} (hh : a ≠ w ∨ c ≠ e) : up2 f w e v a c = f a c := if_neg (fun z => hh.elim (fun q => q z.1) (fun q => q z.2))
/-- only the library's own cell and new cells -/
theorem lib0_own (B : lib0 l h b da dd dc x xa xd xc DL W SW SP lt num len PD QW tot tm pa nx fi sf n) {SP2 : List Nat} (hs : gS h SP2) (hb : h1 b = some (lbO da x n SP2[0]?)) (F : fr (fun y => y = b ∨ h y = none) h h1) : lib0 l h1 b da dd dc x xa xd xc DL W SW SP2 lt num len PD QW tot tm pa nx fi sf n ∧ fr (lc h) h h1 := by
  obtain ⟨b1, b2, b3, b4, b5, b6, b7, b8, b9, b10, b11⟩ := B
  have keep : ∀ {y c : Nat} {fs : List Value}, h y = some (.inr (c, fs)) → c ≠ 3 → h1 y = h y := by
    intro y c fs e h3
    refine F y (fun z => ?_)
    rcases z with z | z
    · exact jv_neO e b1 h3 z
    · rw [e] at z; cases z
  have keepA : ∀ {y n : Nat} {f : Nat → Option Nat}, h y = some (alA n f) → h1 y = h y := by
    intro y n f e
    refine F y (fun z => ?_)
    rcases z with z | z
    · exact jv_neA b1 e z.symm
    · rw [e] at z; cases z
  obtain ⟨⟨xf, xa1⟩, xd1⟩ := al_ad b3.2.1
  obtain ⟨⟨df, da1⟩, dd1⟩ := al_ad b2
  have hd : ∀ v ∈ DL, _ := fun v hv => (keep (b7 v hv) (by decide)).trans (b7 v hv)
  refine ⟨⟨hb, al_up b2 (keep da1 (by decide)) (fun hc => ?_) (fun y hy => ⟨_, hd y hy⟩), lx_up b3 (keep b3.1 (by decide)) (keep xa1 (by decide)) (fun hc => ?_) (fun u hu => ?_) (fun u hu => ?_), b4, fun u hu => ?_, fun u hu2 j v hv => ?_, hd, b8, ⟨fun j q hj => ?_, hs.2⟩, b10, b11⟩, fun y hy => F y (fun z => ?_)⟩
  · obtain ⟨f, f1⟩ := dd1 hc
    exact keepA f1
  · obtain ⟨f, f1⟩ := xd1 hc
    exact keepA f1
  · obtain ⟨c1, c2, c3, c4, c5⟩ := b3.2.2.1 u hu
    exact ⟨c1, c2, c3, c4, (keep c5 (by decide)).trans c5⟩
  · obtain ⟨j, hj⟩ := List.getElem?_of_mem hu
    obtain ⟨c1, c2, c3, c4, c5⟩ := b3.2.2.2.2.1 j u hj
    exact keep c5 (by decide)
  · obtain ⟨sp9, h9⟩ := b5 u hu
    exact ⟨sp9, (keep h9 (by decide)).trans h9⟩
  · have h9 := b6 u hu2 j v hv
    exact (keep h9 (by decide)).trans h9
  · obtain ⟨t9, p1, p2, p3⟩ := hs.1 j q hj
    exact ⟨t9, p1, p2, (keep p3 (by decide)).trans p3⟩
  · rcases z with z | z
    · exact hy (lc_O (z ▸ b1) (by simp))
    · exact hy (lc_N z)
def tkL (l : jL) (h : jH) (b da dd dc x xa xd xc : Nat) (D W SW : List Nat) (lt : Nat → Int64) (num len : Nat → Nat) (PD QW : Nat → List Nat) (tot : Nat → Nat) (tm pa : Nat → Nat → Nat) (nx : Nat → Nat → Option Nat) (fi : Nat → Option Nat) (sf : Nat → sfT) (n p : Nat) (h1 : jH) : Prop :=
  ∃ SP', lib0 l h1 b da dd dc x xa xd xc D W SW SP' lt num len PD QW tot tm pa nx fi sf n ∧ fr (lc h) h h1 ∧ (∃ t bf nn nd, h1 p = some (psO none none t bf nn nd)) ∧ p ∉ SP' ∧ ∀ u ∈ W, ∀ v ∈ PD u, pa u v ≠ p
set_option maxHeartbeats 400000 in
theorem c_Lib_take (B : lib0 l h b da dd dc x xa xd xc DL W SW SP lt num len PD QW tot tm pa nx fi sf n) : Cn l yX4_takePosting cX4_takePosting 2 (some (.object "RankedSearch$Posting")) 2 1 6 [.ref b] h (fun r h1 => ∃ p, r = some (.ref p) ∧ tkL l h b da dd dc x xa xd xc DL W SW lt num len PD QW tot tm pa nx fi sf n p h1) := by
  have B0 := B
  obtain ⟨b1, b2, b3, b4, b5, b6, b7, b8, b9, b10, b11⟩ := B
  refine Cn.of (own := RX4) rfl (by decide) (by exact Nat.le_of_ble_eq_true rfl) (by decide) (fun K hK C D I => ?_)
  first | refine J_aload_n C rfl dX4_takePosting_0 ?_ | refine J_aload_nq C rfl dX4_takePosting_0 ?_ | refine J_aload_nN C rfl dX4_takePosting_0 ?_
  refine J_get C fl_X4_143 (by first | assumption | exact jv_up_at _ _ _ | (simp [jv_up, *]; done)) (by rfl) dX4_takePosting_1 ?_
  refine J_ifnonnull C 15 (by decide) dX4_takePosting_4 (fun p z => ?_) (fun z => ?_)
  · cases SP with
    | nil => cases z
    | cons p' SP' =>
      cases z
      obtain ⟨t9, p1, p2, p3⟩ := b9.1 0 p rfl
      have npb : p ≠ b := jv_neO p3 b1 (by decide)
      first | refine J_aload_n C rfl dX4_takePosting_15 ?_ | refine J_aload_nq C rfl dX4_takePosting_15 ?_ | refine J_aload_nN C rfl dX4_takePosting_15 ?_
      refine J_get C fl_X4_143 (by first | assumption | exact jv_up_at _ _ _ | (simp [jv_up, *]; done)) (by rfl) dX4_takePosting_16 ?_
      first | refine J_astore_nq C (by decide) dX4_takePosting_19 ?_ | refine J_astore_n C (by decide) dX4_takePosting_19 ?_ | refine J_astore_nN C (by decide) dX4_takePosting_19 ?_
      first | refine J_aload_n C rfl dX4_takePosting_20 ?_ | refine J_aload_nq C rfl dX4_takePosting_20 ?_ | refine J_aload_nN C rfl dX4_takePosting_20 ?_
      first | refine J_aload_n C rfl dX4_takePosting_21 ?_ | refine J_aload_nq C rfl dX4_takePosting_21 ?_ | refine J_aload_nN C rfl dX4_takePosting_21 ?_
      refine J_eq (st1 := [.ref p, .ref b]) rfl rfl ?_
      refine J_get C fl_X4_126 (by first | assumption | exact jv_up_at _ _ _ | (simp [jv_up, *]; done)) (by rfl) dX4_takePosting_22 ?_
      refine J_put C fl_X4_143 (by first | assumption | exact jv_up_at _ _ _ | (simp [jv_up, *]; done)) (by exact Nat.le_of_ble_eq_true rfl) (by first | rfl | exact jv_nar_o _ _) (by first | rfl | exact jv_fit_o _ _) dX4_takePosting_25 ?_
      first | refine J_aload_n C rfl dX4_takePosting_28 ?_ | refine J_aload_nq C rfl dX4_takePosting_28 ?_ | refine J_aload_nN C rfl dX4_takePosting_28 ?_
      have hs : gS h SP' := ⟨fun j q hj => by
        have := b9.1 (j + 1) q (by rw [List.getElem?_cons_succ]; exact hj)
        rw [List.getElem?_cons_succ] at this
        exact this, (List.nodup_cons.mp b9.2).2⟩
      obtain ⟨s1, s2⟩ := lib0_own B0 hs (jv_up_at h b (lbO da x n SP'[0]?)) (fr_up (Or.inl rfl))
      refine J_aret (x := some p) C D (Or.inl ⟨_, rfl⟩) ⟨p, rfl, SP', s1, s2, ⟨t9, p1, p2, _, jv_up_of npb p3⟩, (List.nodup_cons.mp b9.2).1, fun u hu v hv z => ?_⟩ (by omega) (by omega) dX4_takePosting_29
      obtain ⟨i, hi⟩ := List.getElem?_of_mem hv
      have := b6 u hu i v hi
      rw [z, p3] at this
      have := (psO_inj this).1
      cases this
  · cases SP with
    | cons p' SP' => cases z
    | nil =>
      refine J_new C nw_X4_97 (by omega) (by omega) dX4_takePosting_7 (fun q hq => ?_)
      refine J_dup C rfl dX4_takePosting_10 ?_
      refine J_callI C (c_Posting_init q) cw_X4_146 rfl rfl (by exact Nat.le_of_ble_eq_true rfl) (by decide) (by omega) (by omega) dX4_takePosting_11 ?_
      rintro _ h9 ⟨rfl, e9⟩
      replace e9 := e9.symm
      subst e9
      have nqb : b ≠ q := fun z => by rw [z, hq] at b1; cases b1
      obtain ⟨s1, s2⟩ := lib0_own (h1 := jv_up h q (psO none none 0 none none none)) B0 b9 (jv_up_of nqb b1) (fr_up (Or.inr hq))
      refine J_aret (x := some q) C D (Or.inl ⟨_, rfl⟩) ⟨q, rfl, [], s1, s2, ⟨0, none, none, none, jv_up_at _ _ _⟩, List.not_mem_nil, fun u hu v hv z => ?_⟩ (by omega) (by omega) dX4_takePosting_14
      obtain ⟨i, hi⟩ := List.getElem?_of_mem hv
      have := b6 u hu i v hi
      rw [z, hq] at this
      cases this
end POST
