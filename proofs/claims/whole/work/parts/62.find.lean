/-! RankedSearch: find -/
section FIND
variable {l : jL} {h h1 h2 : jH} {r t tb b q ta s a an ap nt : Nat} {tt : Nat → Nat} {f : Nat → Int32} {ds : dsT} {V : List Int64} {j fk : Nat} {fp : Int32} {L : List hiT}
theorem rkS_tr (A : fr (rkS h t tb q tt s a an ap) h h1) (B : fr (rkS h1 t tb q tt s a an ap) h1 h2) : fr (rkS h t tb q tt s a an ap) h h2 := fun y hy => by
  have e := A y hy
  refine (B y (fun z => hy ?_)).trans e
  rcases z with z | z
  · refine Or.inl ?_
    unfold lc at z ⊢
    rw [e] at z
    exact z
  · exact Or.inr z
/-- behind a search -/
theorem rk_srch (I : rkI l h r t tb b q ta tt s a an ap nt f ds V j fk fp L) {lim : Nat} {da dd dc x xa xd xc : Nat} {DL W SW SP M : List Nat} {lt : Nat → Int64} {num len : Nat → Nat} {PD QW : Nat → List Nat} {tot : Nat → Nat} {tm pa : Nat → Nat → Nat} {nx : Nat → Nat → Option Nat} {fi : Nat → Option Nat} {sf : Nat → sfT} {n : Nat} {wl : Nat → List Int64} {nd : Int32} {st : Nat → svT}
    (B : lib0 l h b da dd dc x xa xd xc DL W SW SP lt num len PD QW tot tm pa nx fi sf n) (B2 : ∀ u ∈ W, PD u ≠ []) (B3 : gF DL QW fi pa) (B4 : gA W DL lt PD tm len wl) (B5 : n = (DL.map len).sum) (B7 : dc ≤ 200 ∧ xc ≤ 19510 ∧ W.length ≤ 200 * j) (B8 : (dsOf DL num wl).Perm ds) (hV : V = W.map lt) {L0 : List hiT} (P : hvP h s a an ap lim M nd DL num len fi st L0 h1) :
    rkI l h1 r t tb b q ta tt s a an ap nt f ds V j fk fp (M.foldl (srHv lim nd num st) L0) ∧ fr (rkS h t tb q tt s a an ap) h h1 := by
  obtain ⟨n1, n2, n3, n4, n5, n6, n7, n8⟩ := rk_no I
  obtain ⟨i1, ⟨i2, i3, i3b⟩, i4, ⟨cur, qs, i9⟩, ⟨nd0, i5⟩, ⟨lim0, i6⟩, i7⟩ := I
  obtain ⟨F, Bb, hs, sf', G, hf⟩ := P
  have G0 := B.2.2.2.2.2.2.1
  have no : ∀ {y c : Nat} {fs : List Value}, h y = some (.inr (c, fs)) → c ≠ 6 ∧ c ≠ 1 ∧ c ≠ 0 → h1 y = h y := fun e hc => F _ (fun z => by
    rcases z with z | z | z
    · exact jv_neO e i5 hc.1 z
    · exact jv_neO e (G0 _ z) hc.2.1 rfl
    · exact bs_no i6 e hc.2.2 z)
  have noA : ∀ {y k : Nat} {v : vp_A}, h y = some (.inl (k, v)) → k ≠ 0 → h1 y = h y := fun e hk => F _ (fun z => by
    rcases z with z | z | z
    · exact jv_neA i5 e z.symm
    · exact jv_neA (G0 _ z) e rfl
    · obtain ⟨fN, fP, ⟨b1, b2, b3, -⟩, -⟩ := i6
      rcases z with z | z | z
      · exact jv_neA b1 e z.symm
      · rw [z, b2] at e; cases e; exact hk rfl
      · rw [z, b3] at e; cases e; exact hk rfl)
  have hm : ∃ h' : jH, ∀ y, h' y = if y = s ∨ y ∈ DL then h1 y else h y := ⟨fun y => if y = s ∨ y ∈ DL then h1 y else h y, fun _ => rfl⟩
  obtain ⟨h', eh⟩ := hm
  have F' : fr (fun y => y = s ∨ y ∈ DL) h h' := fun y hy => by rw [eh, if_neg hy]
  have G' : gD h' DL num len fi sf' := fun d hd => by rw [eh, if_pos (Or.inr hd)]; exact G d hd
  have Y' := lib0_srch B i5 G' F'
  have Y := lib0_keep (h1 := h1) Y' (fun y hy he => by
    by_cases c : y = s ∨ y ∈ DL
    · rw [eh, if_pos c]
    · have e1 : h' y = h y := by rw [eh, if_neg c]
      rw [e1]
      refine F y (fun z => ?_)
      rcases z with z | z | z
      · exact c (Or.inl z)
      · exact c (Or.inr z)
      · refine n8 y z ?_
        unfold lc at hy ⊢
        rw [← e1]
        exact hy)
  obtain ⟨y1, ⟨g, y2, y3⟩, y4, y5⟩ := id i9
  refine ⟨⟨(no i1 (by decide)).trans i1, ⟨(no i2 (by decide)).trans i2, (noA i3 (by decide)).trans i3, i3b⟩, ⟨DL, num, wl, da, dd, dc, x, xa, xd, xc, W, SW, SP, lt, len, PD, QW, tot, tm, pa, nx, fi, sf', n, Y, B2, B3, B4, B5, hf, B7, B8, hV⟩, ⟨cur, qs, qy_up2 i9 (no y1 (by decide)) (noA y2 (by decide)) (fun i hi => no (y4 i hi) (by decide))⟩, ⟨_, hs⟩, ⟨_, Bb⟩, i7⟩, fr_mono F (fun y hy => ?_)⟩
  rcases hy with z | z | z
  · exact Or.inr (Or.inl z)
  · exact Or.inl (lc_O (G0 y z) (Or.inl rfl))
  · exact Or.inr (Or.inr (Or.inl z))
def findP (l : jL) (h : jH) (r t tb b q ta : Nat) (tt : Nat → Nat) (s a an ap nt : Nat) (f : Nat → Int32) (ds : dsT) (V : List Int64) (j k : Nat) (E : Nat × Nat × qsT) (r9 : Option Value) (h1 : jH) : Prop :=
  ∃ L', rkI l h1 r t tb b q ta tt s a an ap nt f ds V j E.1 (qs_fp E) L' ∧ fr (rkS h t tb q tt s a an ap) h h1 ∧
    ((E.1 ≠ 0 ∧ L' = [] ∧ r9 = some (.int (-1))) ∨ (E.1 = 0 ∧ topR k (ds.filterMap (hitQ ds V E.2.2.2.2 E.2.2.1)) L' ∧ r9 = some (.int (nI L'.length))))
set_option maxHeartbeats 1000000 in
theorem c_R_find (I : rkI l h r t tb b q ta tt s a an ap nt f ds V j fk fp L) (x : Int32) : Cx l yX11_find cX11_find 2 (some .int) 8 1 6 [.ref r, .int x] h (fun r9 h1 => ∃ k, 1 ≤ k ∧ k ≤ 50 ∧ x = nI k ∧ ∃ tv0, findP l h r t tb b q ta tt s a an ap nt f ds V j k (qs_all (sp_B f) nt tv0) r9 h1) (fun E h1 => E = eIA ∧ h1 = h ∧ ∀ k, 1 ≤ k → k ≤ 50 → x ≠ nI k) := by
  have i1 := I.1
  obtain ⟨lim, BB⟩ := I.2.2.2.2.2.1
  obtain ⟨fN, fP, ⟨bb1, -⟩, -⟩ := id BB
  refine Cx.of (own := RX11) rfl (by decide) (by exact Nat.le_of_ble_eq_true rfl) (by decide) (fun K hK C D X => ?_)
  refine J_iload_n C rfl dX11_find_0 ?_
  refine J_xcallS C X (c_R_findable x) cw_X11_143 rfl rfl (by exact Nat.le_of_ble_eq_true rfl) (by decide) (by omega) (by omega) dX11_find_1 (fun E h1 hp => hp) ?_
  rintro _ h9 ⟨rfl, e9, k, hk1, hk2, rfl⟩
  replace e9 := e9.symm
  subst e9
  first | refine J_aload_n C rfl dX11_find_4 ?_ | refine J_aload_nq C rfl dX11_find_4 ?_ | refine J_aload_nN C rfl dX11_find_4 ?_
  refine J_get C fl_X11_40 (by first | assumption | exact jv_up_at _ _ _ | (simp [jv_up, *]; done)) (by rfl) dX11_find_5 ?_
  refine J_iload_n C rfl dX11_find_8 ?_
  refine J_callV C (c_Best_start L BB k ⟨hk1, hk2⟩) cw_X11_146 (by first | assumption | exact jv_up_at _ _ _ | (simp [jv_up, *]; done)) rfl rfl rfl rfl (by exact Nat.le_of_ble_eq_true rfl) (by decide) (by omega) (by omega) dX11_find_9 ?_
  rintro _ h1 ⟨rfl, Q1, F1⟩
  obtain ⟨I1, R1⟩ := rk_best I F1 Q1
  have i11 := I1.1
  have T := I1.2.1
  obtain ⟨cur, qs, Y⟩ := I1.2.2.2.1
  have y1 := Y.1
  first | refine J_aload_n C rfl dX11_find_12 ?_ | refine J_aload_nq C rfl dX11_find_12 ?_ | refine J_aload_nN C rfl dX11_find_12 ?_
  refine J_get C fl_X11_26 (by first | assumption | exact jv_up_at _ _ _ | (simp [jv_up, *]; done)) (by rfl) dX11_find_13 ?_
  first | refine J_aload_n C rfl dX11_find_16 ?_ | refine J_aload_nq C rfl dX11_find_16 ?_ | refine J_aload_nN C rfl dX11_find_16 ?_
  refine J_get C fl_X11_12 (by first | assumption | exact jv_up_at _ _ _ | (simp [jv_up, *]; done)) (by rfl) dX11_find_17 ?_
  refine J_callV C (c_Query_read Y T) cw_X11_149 (by first | assumption | exact jv_up_at _ _ _ | (simp [jv_up, *]; done)) rfl rfl rfl rfl (by exact Nat.le_of_ble_eq_true rfl) (by decide) (by omega) (by omega) dX11_find_20 ?_
  rintro _ h2 ⟨rfl, ⟨cur1, Y2⟩, F2⟩
  obtain ⟨I2, R2⟩ := rk_query I1 F2 ⟨cur1, _, Y2⟩
  have R02 := rkS_tr R1 R2
  have i12 := I2.1
  have y21 := Y2.1
  have hE3 := Y2.2.2.2.2.2.2.2
  generalize hE : qs_all (sp_B f) nt qs.2.2 = E at *
  first | refine J_aload_n C rfl dX11_find_23 ?_ | refine J_aload_nq C rfl dX11_find_23 ?_ | refine J_aload_nN C rfl dX11_find_23 ?_
  refine J_get C fl_X11_26 (by first | assumption | exact jv_up_at _ _ _ | (simp [jv_up, *]; done)) (by rfl) dX11_find_24 ?_
  refine J_get C fl_X11_153 (by first | assumption | exact jv_up_at _ _ _ | (simp [jv_up, *]; done)) (by rfl) dX11_find_27 ?_
  refine J_nif_eq C (by omega) 35 (by decide) dX11_find_30 (fun z => ?_) (fun z => ?_)
  · obtain ⟨lim2, BB2⟩ := id I2.2.2.2.2.2.1
    obtain ⟨nd0, s1⟩ := id I2.2.2.2.2.1
    have DI := I2.2.2.2.2.2.2
    obtain ⟨DL, num, wl, da, dd, dc, x9, xa, xd, xc, W, SW, SP, lt, len, PD, QW, tot, tm, pa, nx, fi, sf, n, B, B2, B3, B4, B5, B6, B7, B8, hV⟩ := id I2.2.2.1
    have hDw : ∀ e ∈ DL, num e < 10000 ∧ (wl e).length ≤ 200 := fun e he => DI.2.1 _ (B8.mem_iff.mp (List.mem_map.mpr ⟨e, he, rfl⟩))
    have ht : ∀ w ∈ W, ∀ d ∈ PD w, tm w d ≤ 1000 ∧ len d ≤ 1000 := fun w hw d hd => by
      have hdD := ((B.2.2.2.2.2.2.2.1.1 w hw).2 d hd).1
      have q1 := ((B4 d hdD).2.1 w hw).2 hd
      have q2 := (B4 d hdD).1
      have q3 := (hDw d hdD).2
      have q4 : (wl d).count (lt w) ≤ (wl d).length := List.count_le_length
      omega
    have hpd : ∀ w ∈ W, (PD w).length ≤ 60000 := fun w hw => by
      have q1 := lf_hold B B4 hw
      rw [dsH_perm B8] at q1
      have q2 : dsH ds (lt w) ≤ ds.length := List.countP_le_length
      have := DI.2.2
      omega
    have S0 : sm h2 s [] nd0 DL sf (fun _ => (false, 0, 0)) := ⟨s1, List.nodup_nil, fun d hd => (by cases hd), fun d hd => (B6 d hd).trans (decide_eq_false List.not_mem_nil).symm, fun i d hd => (by cases hd)⟩
    have BK := B
    rw [← hK] at BK
    have hlk : bs h2 a an ap k [] := by
      obtain ⟨gN, gP, ⟨c1, c2⟩, c3⟩ := BB2
      obtain ⟨lm, hlm⟩ : ∃ lm, lm = lim2 := ⟨_, rfl⟩
      have Q2 := bs_up Q1 (h1 := h2) (fun y hy => F2 y (fun z => by
        rcases z with z | ⟨i, hi, z⟩
        · exact bs_no Q1 y1 (by decide) (z ▸ hy)
        · exact bs_no Q1 (Y.2.2.1 i hi) (by decide) (z ▸ hy)))
      exact Q2
    first | refine J_aload_n C rfl dX11_find_35 ?_ | refine J_aload_nq C rfl dX11_find_35 ?_ | refine J_aload_nN C rfl dX11_find_35 ?_
    refine J_get C fl_X11_33 (by first | assumption | exact jv_up_at _ _ _ | (simp [jv_up, *]; done)) (by rfl) dX11_find_36 ?_
    first | refine J_aload_n C rfl dX11_find_39 ?_ | refine J_aload_nq C rfl dX11_find_39 ?_ | refine J_aload_nN C rfl dX11_find_39 ?_
    refine J_get C fl_X11_26 (by first | assumption | exact jv_up_at _ _ _ | (simp [jv_up, *]; done)) (by rfl) dX11_find_40 ?_
    first | refine J_aload_n C rfl dX11_find_43 ?_ | refine J_aload_nq C rfl dX11_find_43 ?_ | refine J_aload_nN C rfl dX11_find_43 ?_
    refine J_get C fl_X11_19 (by first | assumption | exact jv_up_at _ _ _ | (simp [jv_up, *]; done)) (by rfl) dX11_find_44 ?_
    first | refine J_aload_n C rfl dX11_find_47 ?_ | refine J_aload_nq C rfl dX11_find_47 ?_ | refine J_aload_nN C rfl dX11_find_47 ?_
    refine J_get C fl_X11_40 (by first | assumption | exact jv_up_at _ _ _ | (simp [jv_up, *]; done)) (by rfl) dX11_find_48 ?_
    refine J_callV C (c_Search_suiting BK S0 Y2 hlk ht hpd (fun d hd => (hDw d hd).1)) cw_X11_156 (by first | assumption | exact jv_up_at _ _ _ | (simp [jv_up, *]; done)) rfl rfl rfl rfl (by exact Nat.le_of_ble_eq_true rfl) (by decide) (by omega) (by omega) dX11_find_51 ?_
    rintro _ h3 ⟨rfl, P⟩
    obtain ⟨I3, R3⟩ := rk_srch I2 B B2 B3 B4 B5 B7 B8 hV P
    have tp := lk_find B B4 B8 DI.1 E.2.2.2.2 E.2.2.1 (fun _ => (false, 0, 0)) k _ rfl
    rw [← hV] at tp
    have R9 := rkS_tr R02 R3
    have i13 := I3.1
    obtain ⟨lim3, gN, gP, ⟨b31, -⟩, -⟩ := id I3.2.2.2.2.2.1
    first | refine J_aload_n C rfl dX11_find_54 ?_ | refine J_aload_nq C rfl dX11_find_54 ?_ | refine J_aload_nN C rfl dX11_find_54 ?_
    refine J_get C fl_X11_40 (by first | assumption | exact jv_up_at _ _ _ | (simp [jv_up, *]; done)) (by rfl) dX11_find_55 ?_
    refine J_get C fl_X11_160 (by first | assumption | exact jv_up_at _ _ _ | (simp [jv_up, *]; done)) (by rfl) dX11_find_58 ?_
    refine J_iret C D ⟨k, hk1, hk2, rfl, qs.2.2, by rw [hE]; exact ⟨_, I3, R9, Or.inr ⟨z, tp, rfl⟩⟩⟩ (by omega) (by omega) dX11_find_61
  · refine J_iconst C (v := (-1)) (by decide) dX11_find_33 ?_
    refine J_iret C D ⟨k, hk1, hk2, rfl, qs.2.2, by rw [hE]; exact ⟨[], I2, R02, Or.inl ⟨by omega, rfl, rfl⟩⟩⟩ (by omega) (by omega) dX11_find_34
end FIND
