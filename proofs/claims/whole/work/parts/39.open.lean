section OPEN
variable {l : jL} {h h1 : jH} {b da dd dc x xa xd xc : Nat} {DL W SW SP : List Nat} {lt : Nat → Int64} {num len : Nat → Nat} {PD QW : Nat → List Nat} {tot : Nat → Nat} {tm pa : Nat → Nat → Nat} {nx : Nat → Nat → Option Nat} {fi : Nat → Option Nat} {sf : Nat → sfT} {n : Nat}
abbrev sf0 : sfT := (false, false, 0, 0, none)
def opP (l : jL) (h : jH) (b da dc x xa xd xc : Nat) (D W SW SP : List Nat) (lt : Nat → Int64) (num len : Nat → Nat) (PD QW : Nat → List Nat) (tot : Nat → Nat) (tm pa : Nat → Nat → Nat) (nx : Nat → Nat → Option Nat) (fi : Nat → Option Nat) (sf : Nat → sfT) (n q N : Nat) (h1 : jH) : Prop :=
  fr (lc h) h h1 ∧ q ∉ D ∧ ∃ dd' dc', lib0 l h1 b da dd' dc' x xa xd xc (D ++ [q]) W SW SP lt (va_up num q N) (va_up len q 0) PD (va_up QW q []) tot tm pa nx (va_up fi q none) (va_up sf q sf0) n ∧ capS dc dc' D.length
theorem lib0_open (B : lib0 l h b da dd dc x xa xd xc DL W SW SP lt num len PD QW tot tm pa nx fi sf n) {q N : Nat} (hq : h q = none) {h3 : jH} (he2 : jv_up h q (dcO N 0 none sf0) l.2.1 = none) (A : addP l (jv_up h q (dcO N 0 none sf0)) 1 da dd dc DL.length (DL ++ [q]) h3) :
    opP l h b da dc x xa xd xc DL W SW SP lt num len PD QW tot tm pa nx fi sf n q N h3 := by
  obtain ⟨b1, b2, b3, b4, b5, b6, b7, b8, b9, b10, b11⟩ := B
  obtain ⟨⟨dd', dc', A1, A2, A3⟩, F⟩ := A
  obtain ⟨⟨xf, xa1⟩, xd1⟩ := al_ad b3.2.1
  obtain ⟨⟨df, da1⟩, dd1⟩ := al_ad b2
  have qe : q ≠ l.2.1 := fun z => by rw [← z, jv_up_at] at he2; cases he2
  have he : h l.2.1 = none := by rw [jv_up_ne qe.symm] at he2; exact he2
  have qn : ∀ {y : Nat} {z : jE}, h y = some z → y ≠ q := fun e z => by rw [z, hq] at e; cases e
  have ddc : (∃ f, h dd = some (alA dc f)) ∨ (h dd = none ∧ dd = l.2.1) := by
    by_cases c : dc = 0
    · obtain ⟨mcn, a1, a2, a3⟩ := id b2
      rcases a3 with ⟨_, _, z⟩ | ⟨c1, _⟩
      · exact Or.inr ⟨z ▸ he, z⟩
      · omega
    · exact Or.inl (dd1 c)
  have keep : ∀ {y c : Nat} {fs : List Value}, h y = some (.inr (c, fs)) → (c = 12 → y ≠ da) → h3 y = h y := by
    intro y c fs e9 c3
    refine (F y (fun z => ?_)).trans (jv_up_ne (qn e9))
    rcases z with z | z | z
    · by_cases k : c = 12
      · exact c3 k z
      · exact jv_neO e9 da1 k z
    · rcases ddc with ⟨f, f1⟩ | ⟨f1, _⟩
      · exact jv_neA e9 f1 z
      · rw [z, f1] at e9; cases e9
    · rw [jv_up_ne (qn e9), e9] at z; cases z
  have hD : ∀ v, v ∈ DL → v ≠ q := fun v hv => qn (b7 v hv)
  have hnd : q ∉ DL := fun z => hD q z rfl
  have h3q : h3 q = some (dcO N 0 none sf0) := by
    refine (F q (fun z => ?_)).trans (jv_up_at _ _ _)
    rcases z with z | z | z
    · exact qn da1 z.symm
    · rcases ddc with ⟨f, f1⟩ | ⟨f1, f2⟩
      · exact qn f1 z.symm
      · exact qe (z.trans f2)
    · rw [jv_up_at] at z; cases z
  have hxd : xc ≠ 0 → xd ≠ dd := fun hc z => by
    obtain ⟨f, f1⟩ := xd1 hc
    by_cases c : dc = 0
    · rcases ddc with ⟨g, g1⟩ | ⟨g1, _⟩
      · obtain ⟨mcn, a1, a2, a3⟩ := id b2
        rcases a3 with ⟨_, _, y⟩ | ⟨c1, _⟩
        · rw [y, he] at g1; cases g1
        · omega
      · rw [z, g1] at f1; cases f1
    · exact b4.2 c hc z.symm
  have memD : ∀ v, v ∈ DL ++ [q] → v ∈ DL ∨ v = q := fun v hv => (List.mem_append.mp hv).imp id (fun z => List.mem_singleton.mp z)
  have hd9 : gD h3 (DL ++ [q]) (va_up num q N) (va_up len q 0) (va_up fi q none) (va_up sf q sf0) := by
    intro v hv
    rcases memD v hv with z | z
    · have nq := hD v z
      rw [show va_up num q N v = num v from if_neg nq, show va_up len q 0 v = len v from if_neg nq, show va_up fi q none v = fi v from if_neg nq, show va_up sf q sf0 v = sf v from if_neg nq]
      exact (keep (b7 v z) (fun k => by cases k)).trans (b7 v z)
    · subst z
      rw [show va_up num v N v = N from if_pos rfl, show va_up len v 0 v = 0 from if_pos rfl, show va_up fi v none v = none from if_pos rfl, show va_up sf v sf0 v = sf0 from if_pos rfl]
      exact h3q
  refine ⟨fun y hy => ?_, hnd, dd', dc', ⟨(keep b1 (fun q => by cases q)).trans b1, A1, lx_up b3 (keep b3.1 (fun q => by cases q)) (keep xa1 (fun _ => b4.1.symm)) (fun hc => ?_) (fun u hu => ?_) (fun u hu => ?_), ⟨b4.1, fun _ hc z => ?_⟩, fun u hu => ?_, fun u hu j v hv => ?_, hd9, ⟨fun u hu => ⟨(b8.1 u hu).1, fun v hv => ?_⟩, fun v hv => ?_⟩, ⟨fun j p hj => ?_, b9.2⟩, b10, ?_⟩, A2⟩
  · have nq : y ≠ q := fun z => hy (lc_N (z ▸ hq))
    refine (F y (fun z => ?_)).trans (jv_up_ne nq)
    rcases z with z | z | z
    · exact hy (lc_O (z ▸ da1) (by simp))
    · rcases ddc with ⟨f, f1⟩ | ⟨f1, _⟩
      · exact hy (lc_A (z ▸ f1))
      · exact hy (lc_N (z ▸ f1))
    · rw [jv_up_ne nq] at z
      exact hy (lc_N z)
  · obtain ⟨f, f1⟩ := xd1 hc
    refine (F xd (fun z => ?_)).trans (jv_up_ne (qn f1))
    rcases z with z | z | z
    · exact jv_neA da1 f1 z.symm
    · exact hxd hc z
    · rw [jv_up_ne (qn f1), f1] at z; cases z
  · obtain ⟨c1, c2, c3, c4, c5⟩ := b3.2.2.1 u hu
    exact ⟨c1, c2, c3, c4, (keep c5 (fun q => by cases q)).trans c5⟩
  · obtain ⟨j, hj⟩ := List.getElem?_of_mem hu
    obtain ⟨c1, c2, c3, c4, c5⟩ := b3.2.2.2.2.1 j u hj
    exact keep c5 (fun q => by cases q)
  · rcases A3 with k | k
    · exact hxd hc (z.symm.trans k)
    · obtain ⟨f, f1⟩ := xd1 hc
      rw [z, jv_up_ne (qn f1), f1] at k
      cases k
  · obtain ⟨sp9, h9⟩ := b5 u hu
    exact ⟨sp9, (keep h9 (fun q => by cases q)).trans h9⟩
  · have h9 := b6 u hu j v hv
    exact (keep h9 (fun q => by cases q)).trans h9
  · obtain ⟨q1, q2⟩ := (b8.1 u hu).2 v hv
    exact ⟨List.mem_append_left _ q1, by rw [show va_up QW q [] v = QW v from if_neg (hD v q1)]; exact q2⟩
  · rcases memD v hv with z | z
    · rw [show va_up QW q [] v = QW v from if_neg (hD v z)]
      exact b8.2 v z
    · rw [z, show va_up QW q [] q = [] from if_pos rfl]
      exact ⟨List.nodup_nil, fun j u hj => by cases hj⟩
  · obtain ⟨t9, p1, p2, p3⟩ := b9.1 j p hj
    exact ⟨t9, p1, p2, (keep p3 (fun q => by cases q)).trans p3⟩
  · refine List.nodup_append.mpr ⟨b11, List.nodup_cons.mpr ⟨List.not_mem_nil, List.nodup_nil⟩, fun a ha c hc z => ?_⟩
    rw [List.mem_singleton.mp hc] at z
    exact hD a ha z
set_option maxHeartbeats 800000 in
theorem c_Lib_open (B : lib0 l h b da dd dc x xa xd xc DL W SW SP lt num len PD QW tot tm pa nx fi sf n) (hN : ∀ e ∈ DL, num e < 10000) (N : Nat) (hN2 : N < 10000) (hdc : dc ≤ 40000) (M : Nat) (hM : DL.length = dc → gcap dc ≤ M) : Cn l yX4_openDocument cX4_openDocument 4 (some (.object "RankedSearch$Document")) 7 2 (8 + M) [.ref b, .int (nI N)] h (fun r h1 => (∃ e, e ∈ DL ∧ num e = N ∧ r = some (va_rf (some e)) ∧ h1 = h) ∨ ((∀ e ∈ DL, num e ≠ N) ∧ 120 ≤ DL.length ∧ r = some (va_rf none) ∧ h1 = h) ∨ ((∀ e ∈ DL, num e ≠ N) ∧ DL.length < 120 ∧ ∃ q, r = some (va_rf (some q)) ∧ opP l h b da dc x xa xd xc DL W SW SP lt num len PD QW tot tm pa nx fi sf n q N h1)) := by
  have bb := B.1
  have hlen := al_len B.2.1
  obtain ⟨mcn, a1, a2, a3⟩ := id B.2.1
  refine Cn.of (own := RX4) rfl (by decide) (by exact Nat.le_of_ble_eq_true rfl) (by decide) (fun K hK C D I => ?_)
  have B0 := B
  rw [← hK] at B0
  have A0 := B0.2.1
  first | refine J_aload_n C rfl dX4_openDocument_0 ?_ | refine J_aload_nq C rfl dX4_openDocument_0 ?_ | refine J_aload_nN C rfl dX4_openDocument_0 ?_
  refine J_iload_n C rfl dX4_openDocument_1 ?_
  refine J_callV C (c_Lib_documentOf B0 hN N hN2) cw_X4_37 (by first | assumption | exact jv_up_at _ _ _ | (simp [jv_up, *]; done)) rfl rfl rfl rfl (by exact Nat.le_of_ble_eq_true rfl) (by decide) (by omega) (by omega) dX4_openDocument_2 ?_
  rintro _ h9 ⟨o, rfl, e9, P⟩
  replace e9 := e9.symm
  subst e9
  first | refine J_astore_nq C (by decide) dX4_openDocument_5 ?_ | refine J_astore_n C (by decide) dX4_openDocument_5 ?_ | refine J_astore_nN C (by decide) dX4_openDocument_5 ?_
  first | refine J_aload_n C rfl dX4_openDocument_6 ?_ | refine J_aload_nq C rfl dX4_openDocument_6 ?_ | refine J_aload_nN C rfl dX4_openDocument_6 ?_
  rcases P with ⟨e, p1, p2, p3⟩ | ⟨p1, p2⟩
  · subst p3
    refine J_ifnonnull (x := some e) C 22 (by decide) dX4_openDocument_7 (fun _ _ => ?_) (fun z => by cases z)
    first | refine J_aload_n C rfl dX4_openDocument_22 ?_ | refine J_aload_nq C rfl dX4_openDocument_22 ?_ | refine J_aload_nN C rfl dX4_openDocument_22 ?_
    refine J_aret (x := some e) C D (Or.inl ⟨_, rfl⟩) (Or.inl ⟨e, p1, p2, rfl, rfl⟩) (by omega) (by omega) dX4_openDocument_23
  · subst p2
    refine J_ifnonnull (x := none) C 22 (by decide) dX4_openDocument_7 (fun _ z => by cases z) (fun _ => ?_)
    first | refine J_aload_n C rfl dX4_openDocument_10 ?_ | refine J_aload_nq C rfl dX4_openDocument_10 ?_ | refine J_aload_nN C rfl dX4_openDocument_10 ?_
    refine J_get C fl_X4_12 (by first | assumption | exact jv_up_at _ _ _ | (simp [jv_up, *]; done)) (by rfl) dX4_openDocument_11 ?_
    refine J_callV C (c_AL_size A0) cw_X4_25 (by first | assumption | exact jv_up_at _ _ _ | (simp [jv_up, *]; done)) rfl rfl rfl rfl (by exact Nat.le_of_ble_eq_true rfl) (by decide) (by omega) (by omega) dX4_openDocument_14 ?_
    rintro _ h9 ⟨rfl, e9⟩
    replace e9 := e9.symm
    subst e9
    refine J_bipush C (v := nI 120) (by decide) dX4_openDocument_17 ?_
    refine J_nicmp_lt C (by first | omega | (dsimp only; omega)) (by first | omega | (dsimp only; omega)) 24 (by decide) dX4_openDocument_19 (fun z => ?_) (fun z => ?_)
    · refine J_new C nw_X4_40 (by omega) (by omega) dX4_openDocument_24 (fun q hq => ?_)
      have nqb : b ≠ q := fun z => by rw [z, hq] at bb; cases bb
      have nqa : da ≠ q := fun z => by rw [z, hq] at a1; cases a1
      refine J_dup C rfl dX4_openDocument_27 ?_
      refine J_iload_n C rfl dX4_openDocument_28 ?_
      refine J_callI C (c_Document_init q N (jv_up_at _ _ _)) cw_X4_42 rfl rfl (by exact Nat.le_of_ble_eq_true rfl) (by decide) (by omega) (by omega) dX4_openDocument_29 ?_
      rintro _ h9 ⟨rfl, e9⟩
      subst e9
      rw [jv_up_up]
      have bb2 := jv_up_of (x := dcO N 0 none sf0) nqb bb
      have a12 := jv_up_of (x := dcO N 0 none sf0) nqa a1
      refine J_e0 C (fun he0 => ?_)
      rw [hK] at he0
      have hel : ∀ y ∈ DL, ∃ fs, jv_up h q (dcO N 0 none sf0) y = some (.inr (1, fs)) := fun y hy => by
        obtain ⟨fs, hfs⟩ := a2 y hy
        exact ⟨fs, jv_up_of (fun z => by rw [z, hq] at hfs; cases hfs) hfs⟩
      have A2 : al l (jv_up h q (dcO N 0 none sf0)) 1 da dd dc DL := al_up B.2.1 (jv_up_ne nqa) (fun hc => by
        obtain ⟨f, f1⟩ := al_dA B.2.1 hc
        exact jv_up_ne (fun z => by rw [z, hq] at f1; cases f1)) hel
      rw [← hK] at A2
      first | refine J_astore_nq C (by decide) dX4_openDocument_32 ?_ | refine J_astore_n C (by decide) dX4_openDocument_32 ?_ | refine J_astore_nN C (by decide) dX4_openDocument_32 ?_
      first | refine J_aload_n C rfl dX4_openDocument_33 ?_ | refine J_aload_nq C rfl dX4_openDocument_33 ?_ | refine J_aload_nN C rfl dX4_openDocument_33 ?_
      refine J_get C fl_X4_12 (by first | assumption | exact jv_up_at _ _ _ | (simp [jv_up, *]; done)) (by rfl) dX4_openDocument_34 ?_
      first | refine J_aload_n C rfl dX4_openDocument_37 ?_ | refine J_aload_nq C rfl dX4_openDocument_37 ?_ | refine J_aload_nN C rfl dX4_openDocument_37 ?_
      refine J_callV C (c_AL_add okci_1 (by decide) A2 hdc M hM q _ (jv_up_at _ _ _)) cw_X4_45 (by first | assumption | exact jv_up_at _ _ _ | (simp [jv_up, *]; done)) rfl rfl rfl rfl (by exact Nat.le_of_ble_eq_true rfl) (by decide) (by omega) (by omega) dX4_openDocument_38 ?_
      rintro _ h3 ⟨rfl, A3⟩
      rw [hK] at A3
      refine J_pop C rfl dX4_openDocument_41 ?_
      first | refine J_aload_n C rfl dX4_openDocument_42 ?_ | refine J_aload_nq C rfl dX4_openDocument_42 ?_ | refine J_aload_nN C rfl dX4_openDocument_42 ?_
      refine J_aret (x := some q) C D (Or.inl ⟨_, rfl⟩) (Or.inr (Or.inr ⟨p1, z, q, rfl, lib0_open B hq he0 A3⟩)) (by omega) (by omega) dX4_openDocument_43
    · first | refine J_aload_n C rfl dX4_openDocument_22 ?_ | refine J_aload_nq C rfl dX4_openDocument_22 ?_ | refine J_aload_nN C rfl dX4_openDocument_22 ?_
      refine J_aret (x := none) C D (Or.inl ⟨_, rfl⟩) (Or.inr (Or.inl ⟨p1, z, rfl, rfl⟩)) (by omega) (by omega) dX4_openDocument_23
end OPEN
