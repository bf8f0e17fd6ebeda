/-! RankedSearch: similar -/
def svSimW (ds : dsT) (we ws : List Int64) (v : svT) (w : Int64) : svT :=
  if w ∈ ws then svRew (nI (min (we.count w) 9 * sp_rar ds.length (dsH ds w))) (nI 0) (sp_imp (ws.count w) ws.length) v else v
def svSim (ds : dsT) (U we ws : List Int64) : svT := U.foldl (svSimW ds we ws) (false, 0, 0)
def hitS (ds : dsT) (U : List Int64) (k0 : Nat) (we : List Int64) (p : Nat × List Int64) : Option hiT := if p.1 = k0 then none else hitOf 0 p.1 (svSim ds U we p.2)
theorem svSim_bar (ds : dsT) (we ws : List Int64) : ∀ (U : List Int64) (v : svT), (U.foldl (svSimW ds we ws) v).1 = v.1
  | [], _ => rfl
  | w :: t, v => by
    rw [List.foldl_cons, svSim_bar ds we ws t]
    unfold svSimW
    split <;> rfl
section SIMLINK
variable {l : jL} {h : jH} {b da dd dc x xa xd xc : Nat} {DL W SW SP : List Nat} {lt : Nat → Int64} {num len : Nat → Nat} {PD QW : Nat → List Nat} {tot : Nat → Nat} {tm pa : Nat → Nat → Nat} {nx : Nat → Nat → Option Nat} {fi : Nat → Option Nat} {sf : Nat → sfT} {n : Nat} {wl : Nat → List Int64} {ds : dsT}
theorem lk_simU (B : lib0 l h b da dd dc x xa xd xc DL W SW SP lt num len PD QW tot tm pa nx fi sf n) (A : gA W DL lt PD tm len wl) {e : Nat} (he : e ∈ DL) : ((QW e).map lt).Nodup ∧ ∀ w, w ∈ (QW e).map lt ↔ w ∈ wl e := by
  obtain ⟨g1, g2⟩ := B.2.2.2.2.2.2.2.1.2 e he
  have hin : ∀ w ∈ QW e, w ∈ W ∧ e ∈ PD w := fun w hw => by
    obtain ⟨i, hi⟩ := List.getElem?_of_mem hw
    exact ⟨(g2 i w hi).1, (g2 i w hi).2.1⟩
  refine ⟨?_, fun w => ⟨fun hw => ?_, fun hw => ?_⟩⟩
  · unfold List.Nodup
    rw [List.pairwise_map]
    exact List.Pairwise.imp_of_mem (fun {u v} hu hv hne z => hne (lx_inj B.2.2.1 (hin u hu).1 (hin v hv).1 z)) g1
  · obtain ⟨u, hu, rfl⟩ := List.mem_map.mp hw
    exact ((A e he).2.1 u (hin u hu).1).1.mp (hin u hu).2
  · obtain ⟨u, hu, rfl⟩ := (A e he).2.2 w hw
    have := ((A e he).2.1 u hu).1.mpr hw
    exact List.mem_map.mpr ⟨u, ((B.2.2.2.2.2.2.2.1.1 u hu).2 e this).2, rfl⟩
theorem lk_sim (B : lib0 l h b da dd dc x xa xd xc DL W SW SP lt num len PD QW tot tm pa nx fi sf n) (A : gA W DL lt PD tm len wl) (P : (dsOf DL num wl).Perm ds) (hk : (ds.map (·.1)).Nodup) {e : Nat} (he : e ∈ DL) (st : Nat → svT) (k : Nat) (p : srT) (hp : p = (QW e).foldl (srE DL.length PD tm len e) (srBar ([], st) e)) : topR k (ds.filterMap (hitS ds ((QW e).map lt) (num e) (wl e))) (p.1.foldl (srHv k 0 num p.2) []) := by
  have hnum : (DL.map num).Nodup := by
    have h1 := ((P.map (·.1)).nodup_iff).mpr hk
    unfold dsOf at h1
    rw [List.map_map] at h1
    exact h1
  obtain ⟨g1, g2⟩ := B.2.2.2.2.2.2.2.1.2 e he
  have hin : ∀ w ∈ QW e, w ∈ W ∧ e ∈ PD w := fun w hw => by
    obtain ⟨i, hi⟩ := List.getElem?_of_mem hw
    exact ⟨(g2 i w hi).1, (g2 i w hi).2.1⟩
  have hDL : DL.length = ds.length := by rw [← P.length_eq]; exact (List.length_map _).symm
  have hM : mI DL p := by
    rw [hp]
    refine mI_fold _ _ _ (fun p hp w hw => ?_) (mI_M ⟨List.nodup_nil, fun d hd => by cases hd⟩ he _)
    exact mI_fold _ _ p (fun p hp d hd => mI_M hp ((B.2.2.2.2.2.2.2.1.1 w (hin w hw).1).2 d hd).1 _) hp
  have hv : ∀ d ∈ DL, vl p d = ((QW e).map lt).foldl (svSimW ds (wl e) (wl d)) (if d = e then (true, 0, 0) else (false, 0, 0)) := by
    intro d hd
    obtain ⟨a1, a2, a3⟩ := A d hd
    rw [hp, vl_folds _ (fun s w => svSimW ds (wl e) (wl d) s (lt w)) d _ _ (fun p w hw => ?_), vl_bar, List.foldl_map]
    · rfl
    · have hw1 := (hin w hw).1
      have hh : (PD w).length = dsH ds (lt w) := by rw [lf_hold B A hw1, dsH_perm P]
      have hte : tm w e = (wl e).count (lt w) := ((A e he).2.1 w hw1).2 (hin w hw).2
      unfold srE svSimW
      rw [vl_fold (srRew (nI (min (tm w e) 9 * sp_rar DL.length (PD w).length)) (nI 0) (fun d => sp_imp (tm w d) (len d))) (fun d v => svRew (nI (min (tm w e) 9 * sp_rar DL.length (PD w).length)) (nI 0) (sp_imp (tm w d) (len d)) v) d (fun p d2 => vl_rew _ _ (fun d => sp_imp (tm w d) (len d)) p d2 d) (PD w) p (B.2.2.2.2.2.2.2.1.1 w hw1).1]
      by_cases c : d ∈ PD w
      · rw [if_pos c, if_pos ((a2 w hw1).1.mp c), hh, hDL, (a2 w hw1).2 c, a1, hte]
      · rw [if_neg c, if_neg (fun z => c ((a2 w hw1).1.mpr z))]
  have hne : ∀ d ∈ DL, d ≠ e → num d ≠ num e := fun d hd hc z => by
    obtain ⟨i, hi⟩ := List.getElem?_of_mem he
    obtain ⟨m, hm⟩ := List.getElem?_of_mem hd
    have h1 : (DL.map num)[i]? = some (num e) := by rw [List.getElem?_map, hi]; rfl
    have h2 : (DL.map num)[m]? = some (num e) := by rw [List.getElem?_map, hm]; exact congrArg some z
    have := nodup_idx hnum h1 h2
    rw [this, hm] at hi
    exact hc (Option.some.inj hi)
  have t := hv_top B.2.2.2.2.2.2.2.2.2.2 hnum hM k 0
  refine topR_perm (P.filterMap _) ?_
  unfold dsOf
  rw [List.filterMap_map]
  rw [fm_congr (g := (hitS ds ((QW e).map lt) (num e) (wl e)) ∘ fun e => (num e, wl e)) (fun d hd => by
    show hitOf 0 (num d) (vl p d) = if num d = num e then none else hitOf 0 (num d) (svSim ds ((QW e).map lt) (wl e) (wl d))
    rw [hv d hd]
    by_cases c : d = e
    · subst c
      rw [if_pos rfl, if_pos rfl]
      unfold hitOf
      refine if_neg (fun z => ?_)
      rw [svSim_bar] at z
      cases z.1
    · rw [if_neg c, if_neg (hne d hd c)]
      rfl)] at t
  exact t
end SIMLINK
section SIMILAR
variable {l : jL} {h h1 h2 : jH} {r t tb b q ta s a an ap nt : Nat} {tt : Nat → Nat} {f : Nat → Int32} {ds : dsT} {V : List Int64} {j fk : Nat} {fp : Int32} {L : List hiT}
set_option maxHeartbeats 1000000 in
theorem c_R_similar (I : rkI l h r t tb b q ta tt s a an ap nt f ds V j fk fp L) (x y : Int32) : Cx l yX11_similar cX11_similar 4 (some .int) 8 2 12 [.ref r, .int x, .int y] h (fun r9 h1 => ∃ k0 we k U L', 1 ≤ k ∧ k ≤ 50 ∧ y = nI k ∧ x = nI k0 ∧ (k0, we) ∈ ds ∧ U.Nodup ∧ (∀ w, w ∈ U ↔ w ∈ we) ∧ rkI l h1 r t tb b q ta tt s a an ap nt f ds V j fk fp L' ∧ fr (rkS h t tb q tt s a an ap) h h1 ∧ topR k (ds.filterMap (hitS ds U k0 we)) L' ∧ r9 = some (.int (nI L'.length))) (fun E h1 => E = eIA ∧ h1 = h ∧ ((∀ k, 1 ≤ k → k ≤ 50 → y ≠ nI k) ∨ ∀ p ∈ ds, x ≠ nI p.1)) := by
  have i1 := I.1
  obtain ⟨lim, BB⟩ := I.2.2.2.2.2.1
  obtain ⟨fN, fP, ⟨bb1, -⟩, -⟩ := id BB
  have DI := I.2.2.2.2.2.2
  obtain ⟨nd0, s1⟩ := id I.2.2.2.2.1
  obtain ⟨DL, num, wl, da, dd, dc, x9, xa, xd, xc, W, SW, SP, lt, len, PD, QW, tot, tm, pa, nx, fi, sf, n, B, B2, B3, B4, B5, B6, B7, B8, hV⟩ := id I.2.2.1
  have b1 := B.1
  refine Cx.of (own := RX11) rfl (by decide) (by exact Nat.le_of_ble_eq_true rfl) (by decide) (fun K hK C D X => ?_)
  have bK := B
  rw [← hK] at bK
  refine J_iload_n C rfl dX11_similar_0 ?_
  refine J_xcallS C X (c_R_findable y) cw_X11_143 rfl rfl (by exact Nat.le_of_ble_eq_true rfl) (by decide) (by omega) (by omega) dX11_similar_1 (fun E h1 hp => ⟨hp.1, hp.2.1, Or.inl hp.2.2⟩) ?_
  rintro _ h9 ⟨rfl, e9, k, hk1, hk2, rfl⟩
  replace e9 := e9.symm
  subst e9
  first | refine J_aload_n C rfl dX11_similar_4 ?_ | refine J_aload_nq C rfl dX11_similar_4 ?_ | refine J_aload_nN C rfl dX11_similar_4 ?_
  refine J_get C fl_X11_19 (by first | assumption | exact jv_up_at _ _ _ | (simp [jv_up, *]; done)) (by rfl) dX11_similar_5 ?_
  refine J_iload_n C rfl dX11_similar_8 ?_
  refine J_callV C (c_Lib_documentOfX bK x) cw_X11_166 (by first | assumption | exact jv_up_at _ _ _ | (simp [jv_up, *]; done)) rfl rfl rfl rfl (by exact Nat.le_of_ble_eq_true rfl) (by decide) (by omega) (by omega) dX11_similar_9 ?_
  rintro _ h9 ⟨o, rfl, e9, (⟨e, he, hex, rfl⟩ | ⟨hno, rfl⟩)⟩
  · replace e9 := e9.symm
    subst e9
    first | refine J_astore_nq C (by decide) dX11_similar_12 ?_ | refine J_astore_n C (by decide) dX11_similar_12 ?_ | refine J_astore_nN C (by decide) dX11_similar_12 ?_
    first | refine J_aload_n C rfl dX11_similar_13 ?_ | refine J_aload_nq C rfl dX11_similar_13 ?_ | refine J_aload_nN C rfl dX11_similar_13 ?_
    refine J_ifnonnull (x := some e) C 27 (by decide) dX11_similar_14 (fun _ _ => ?_) (fun z => by cases z)
    first | refine J_aload_n C rfl dX11_similar_27 ?_ | refine J_aload_nq C rfl dX11_similar_27 ?_ | refine J_aload_nN C rfl dX11_similar_27 ?_
    refine J_get C fl_X11_40 (by first | assumption | exact jv_up_at _ _ _ | (simp [jv_up, *]; done)) (by rfl) dX11_similar_28 ?_
    refine J_iload_n C rfl dX11_similar_31 ?_
    refine J_callV C (c_Best_start L BB k ⟨hk1, hk2⟩) cw_X11_146 (by first | assumption | exact jv_up_at _ _ _ | (simp [jv_up, *]; done)) rfl rfl rfl rfl (by exact Nat.le_of_ble_eq_true rfl) (by decide) (by omega) (by omega) dX11_similar_32 ?_
    rintro _ h1 ⟨rfl, Q1, F1⟩
    obtain ⟨I1, R1⟩ := rk_best I F1 Q1
    have i11 := I1.1
    obtain ⟨n1, n2, n3, n4, n5, n6, n7, n8⟩ := rk_no I
    have Y := lib0_keep (h1 := h1) B (fun y hy _ => F1 y (fun z => n8 y z hy))
    have s11 : h1 s = some (srO none nd0) := (F1 s (bs_no BB s1 (by decide))).trans s1
    have hDw : ∀ e ∈ DL, num e < 10000 ∧ (wl e).length ≤ 200 := fun e he => DI.2.1 _ (B8.mem_iff.mp (List.mem_map.mpr ⟨e, he, rfl⟩))
    have ht : ∀ w ∈ W, ∀ d ∈ PD w, tm w d ≤ 1000 ∧ len d ≤ 1000 := fun w hw d hd => by
      have hdD := ((B.2.2.2.2.2.2.2.1.1 w hw).2 d hd).1
      have q1 := ((B4 d hdD).2.1 w hw).2 hd
      have q2 := (B4 d hdD).1
      have q3 := (hDw d hdD).2
      have q4 : (wl d).count (lt w) ≤ (wl d).length := List.count_le_length
      omega
    have hpd : ∀ w ∈ W, (PD w).length ≤ 60000 := fun w hw => by
      have q1 := lf_hold B B4 hw
      rw [dsH_perm B8] at q1
      have q2 : dsH ds (lt w) ≤ ds.length := List.countP_le_length
      have := DI.2.2
      omega
    have S0 : sm h1 s [] nd0 DL sf (fun _ => (false, 0, 0)) := ⟨s11, List.nodup_nil, fun d hd => (by cases hd), fun d hd => (B6 d hd).trans (decide_eq_false List.not_mem_nil).symm, fun i d hd => (by cases hd)⟩
    have YK := Y
    rw [← hK] at YK
    first | refine J_aload_n C rfl dX11_similar_35 ?_ | refine J_aload_nq C rfl dX11_similar_35 ?_ | refine J_aload_nN C rfl dX11_similar_35 ?_
    refine J_get C fl_X11_33 (by first | assumption | exact jv_up_at _ _ _ | (simp [jv_up, *]; done)) (by rfl) dX11_similar_36 ?_
    first | refine J_aload_n C rfl dX11_similar_39 ?_ | refine J_aload_nq C rfl dX11_similar_39 ?_ | refine J_aload_nN C rfl dX11_similar_39 ?_
    first | refine J_aload_n C rfl dX11_similar_40 ?_ | refine J_aload_nq C rfl dX11_similar_40 ?_ | refine J_aload_nN C rfl dX11_similar_40 ?_
    refine J_get C fl_X11_19 (by first | assumption | exact jv_up_at _ _ _ | (simp [jv_up, *]; done)) (by rfl) dX11_similar_41 ?_
    first | refine J_aload_n C rfl dX11_similar_44 ?_ | refine J_aload_nq C rfl dX11_similar_44 ?_ | refine J_aload_nN C rfl dX11_similar_44 ?_
    refine J_get C fl_X11_40 (by first | assumption | exact jv_up_at _ _ _ | (simp [jv_up, *]; done)) (by rfl) dX11_similar_45 ?_
    refine J_callV C (c_Search_resem YK S0 Q1 he (B3 e he) ht hpd (fun d hd => (hDw d hd).1)) cw_X11_171 (by first | assumption | exact jv_up_at _ _ _ | (simp [jv_up, *]; done)) rfl rfl rfl rfl (by exact Nat.le_of_ble_eq_true rfl) (by decide) (by omega) (by omega) dX11_similar_48 ?_
    rintro _ h3 ⟨rfl, P⟩
    obtain ⟨I3, R3⟩ := rk_srch I1 Y B2 B3 B4 B5 B7 B8 hV P
    have tp := lk_sim B B4 B8 DI.1 he (fun _ => (false, 0, 0)) k _ rfl
    have hU := lk_simU B B4 he
    have R9 := rkS_tr R1 R3
    have i13 := I3.1
    obtain ⟨lim3, gN, gP, ⟨b31, -⟩, -⟩ := id I3.2.2.2.2.2.1
    first | refine J_aload_n C rfl dX11_similar_51 ?_ | refine J_aload_nq C rfl dX11_similar_51 ?_ | refine J_aload_nN C rfl dX11_similar_51 ?_
    refine J_get C fl_X11_40 (by first | assumption | exact jv_up_at _ _ _ | (simp [jv_up, *]; done)) (by rfl) dX11_similar_52 ?_
    refine J_get C fl_X11_160 (by first | assumption | exact jv_up_at _ _ _ | (simp [jv_up, *]; done)) (by rfl) dX11_similar_55 ?_
    refine J_iret C D ⟨num e, wl e, k, _, _, hk1, hk2, rfl, hex.symm, B8.mem_iff.mp (List.mem_map.mpr ⟨e, he, rfl⟩), hU.1, hU.2, I3, R9, tp, rfl⟩ (by omega) (by omega) dX11_similar_58
  · replace e9 := e9.symm
    subst e9
    first | refine J_astore_nq C (by decide) dX11_similar_12 ?_ | refine J_astore_n C (by decide) dX11_similar_12 ?_ | refine J_astore_nN C (by decide) dX11_similar_12 ?_
    first | refine J_aload_n C rfl dX11_similar_13 ?_ | refine J_aload_nq C rfl dX11_similar_13 ?_ | refine J_aload_nN C rfl dX11_similar_13 ?_
    refine J_ifnonnull (x := none) C 27 (by decide) dX11_similar_14 (fun q z => by cases z) (fun _ => ?_)
    refine J_throw C X (is := 169) (text := "there is no such document") jtw_iae (by decide +kernel) ⟨rfl, rfl, Or.inr (fun p hp z => by obtain ⟨v, hv, rfl⟩ := List.mem_map.mp (B8.mem_iff.mpr hp); exact hno v hv z.symm)⟩ (by omega) (by omega) (by omega) (by decide) dX11_similar_17 dX11_similar_20 dX11_similar_21 dX11_similar_23 dX11_similar_26
end SIMILAR
