/-! RankedSearch: put and drop -/
def stDrop (k : Nat) (ds : dsT) : dsT := ds.filter (fun p => decide (p.1 ≠ k))
def stPut (k : Nat) (tx : List Int64) (ds : dsT) : dsT := (k, tx) :: stDrop k ds
theorem stDrop_perm {ds ds' : dsT} (p : ds.Perm ds') (k : Nat) : (stDrop k ds).Perm (stDrop k ds') := p.filter _
theorem stDrop_no {k : Nat} {ds : dsT} (h : ∀ p ∈ ds, p.1 ≠ k) : stDrop k ds = ds := List.filter_eq_self.mpr (fun p hp => decide_eq_true (h p hp))
theorem stDrop_I {k : Nat} {ds : dsT} (D : dsI ds) : dsI (stDrop k ds) ∧ k ∉ (stDrop k ds).map (·.1) := by
  have hsub : (stDrop k ds).Sublist ds := List.filter_sublist
  refine ⟨⟨List.Nodup.sublist (hsub.map _) D.1, fun p hp => D.2.1 p (hsub.subset hp), Nat.le_trans hsub.length_le D.2.2⟩, fun z => ?_⟩
  obtain ⟨p, hp, e⟩ := List.mem_map.mp z
  exact of_decide_eq_true (List.mem_filter.mp hp).2 e
theorem sp_wds_len (B : Nat → Nat) (n : Nat) : ∀ k i, (sp_wds B n k i).length ≤ k
  | 0, _ => Nat.le_refl _
  | k + 1, i => by
    unfold sp_wds
    split
    · exact Nat.zero_le _
    · exact Nat.succ_le_succ (sp_wds_len B n k _)
section PURE
variable {DL : List Nat} {num : Nat → Nat} {wl : Nat → List Int64}
theorem dl_split (hn : DL.Nodup) {e k : Nat} (he : e ∈ DL) (hk : num e = k) (inj : ∀ v ∈ DL, num v = k → v = e) : DL.Perm (e :: DL.filter (fun v => decide (num v ≠ k))) := by
  have hnf : (DL.filter (fun v => decide (num v ≠ k))).Nodup := List.Nodup.sublist List.filter_sublist hn
  refine (List.perm_ext_iff_of_nodup hn (List.nodup_cons.mpr ⟨fun z => (of_decide_eq_true (List.mem_filter.mp z).2 : num e ≠ k) hk, hnf⟩)).mpr (fun v => ?_)
  rw [List.mem_cons, List.mem_filter]
  constructor
  · intro hv
    by_cases c : num v = k
    · exact Or.inl (inj v hv c)
    · exact Or.inr ⟨hv, decide_eq_true c⟩
  · rintro (z | z)
    · rw [z]; exact he
    · exact z.1
theorem ds_filter (k : Nat) : stDrop k (dsOf DL num wl) = dsOf (DL.filter (fun v => decide (num v ≠ k))) num wl := by
  unfold stDrop dsOf
  rw [List.filter_map]
  rfl
theorem put_perm (hn : DL.Nodup) {e k : Nat} (he : e ∈ DL) (hk : num e = k) (inj : ∀ v ∈ DL, num v = k → v = e) (tx : List Int64) : (dsOf DL num (va_up wl e tx)).Perm (stPut k tx (dsOf DL num wl)) := by
  have p := (dl_split hn he hk inj).map (fun v => (num v, va_up wl e tx v))
  unfold stPut
  rw [ds_filter]
  refine p.trans (List.Perm.of_eq ?_)
  rw [List.map_cons, show va_up wl e tx e = tx from if_pos rfl, hk]
  refine congrArg _ (List.map_congr_left (fun v hv => ?_))
  have c : v ≠ e := fun z => of_decide_eq_true (List.mem_filter.mp hv).2 (z ▸ hk)
  rw [show va_up wl e tx v = wl v from if_neg c]
theorem open_perm {q k : Nat} (hq : q ∉ DL) (hno : ∀ v ∈ DL, num v ≠ k) (tx tx0 : List Int64) : (dsOf (DL ++ [q]) (va_up num q k) (va_up (va_up wl q tx0) q tx)).Perm (stPut k tx (dsOf DL num wl)) := by
  unfold stPut
  rw [stDrop_no (fun p hp => by
    obtain ⟨v, hv, rfl⟩ := List.mem_map.mp hp
    exact hno v hv)]
  unfold dsOf
  rw [List.map_append, List.map_cons, List.map_nil, show va_up num q k q = k from if_pos rfl, show va_up (va_up wl q tx0) q tx q = tx from if_pos rfl]
  have e1 : DL.map (fun v => (va_up num q k v, va_up (va_up wl q tx0) q tx v)) = DL.map (fun v => (num v, wl v)) := by
    refine List.map_congr_left (fun v hv => ?_)
    have c : v ≠ q := fun z => hq (z ▸ hv)
    rw [show va_up num q k v = num v from if_neg c, show va_up (va_up wl q tx0) q tx v = va_up wl q tx0 v from if_neg c, show va_up wl q tx0 v = wl v from if_neg c]
  rw [e1]
  exact List.perm_append_singleton _ _
theorem drop_perm (hn : DL.Nodup) {i e k : Nat} (hi : DL[i]? = some e) (hk : num e = k) (inj : ∀ v ∈ DL, num v = k → v = e) : (dsOf (DL.eraseIdx i) num wl).Perm (stDrop k (dsOf DL num wl)) := by
  rw [ds_filter]
  refine List.Perm.map _ ((List.perm_ext_iff_of_nodup (List.Nodup.sublist (List.eraseIdx_sublist _ _) hn) (List.Nodup.sublist List.filter_sublist hn)).mpr (fun v => ?_))
  rw [mem_erase_iff hn hi, List.mem_filter]
  constructor
  · rintro ⟨h1, h2⟩
    exact ⟨h1, decide_eq_true (fun z => h2 (inj v h1 z))⟩
  · rintro ⟨h1, h2⟩
    exact ⟨h1, fun z => of_decide_eq_true h2 (z ▸ hk)⟩
theorem ds_inj {ds : dsT} (D : dsI ds) (p : (dsOf DL num wl).Perm ds) (hn : DL.Nodup) {k e : Nat} (he : e ∈ DL) (hk : num e = k) : ∀ v ∈ DL, num v = k → v = e := by
  have hm : (DL.map num).Nodup := by
    have h1 := ((p.map (·.1)).nodup_iff).mpr D.1
    unfold dsOf at h1
    rw [List.map_map] at h1
    exact h1
  intro v hv hvk
  obtain ⟨i, hi⟩ := List.getElem?_of_mem he
  obtain ⟨m, hm2⟩ := List.getElem?_of_mem hv
  have h1 : (DL.map num)[i]? = some k := by rw [List.getElem?_map, hi]; exact congrArg some hk
  have h2 : (DL.map num)[m]? = some k := by rw [List.getElem?_map, hm2]; exact congrArg some hvk
  have := nodup_idx hm h1 h2
  rw [this, hm2] at hi
  exact Option.some.inj hi
end PURE
section PUTM
variable {l : jL} {h : jH} {r t tb b q ta s a an ap nt : Nat} {tt : Nat → Nat} {f : Nat → Int32} {ds : dsT} {V : List Int64} {j fk : Nat} {fp : Int32} {L : List hiT}
theorem libI_rw {h1 : jH} {da dd dc x xa xc : Nat} {DL : List Nat} {num : Nat → Nat} {wl : Nat → List Int64} {sf : Nat → sfT} {n e m j' : Nat} {ds' : dsT} (R : rwS l h1 b da dd dc x xa xc DL num wl sf n e m) (hn : n = dsN (dsOf DL num wl)) (hsf : ∀ d ∈ DL, (sf d).1 = false) (hdc : dc ≤ 200) (hxc : xc ≤ 19510) (hm : m ≤ 200 * j') (p : (dsOf DL num wl).Perm ds') : ∃ V', libI l h1 b ds' V' j' := by
  obtain ⟨W, SW, SP, lt, len, PD, QW, tot, tm, pa, nx, fi, xd, B, r2, r3, r4, r5, r6⟩ := R
  exact ⟨_, DL, num, wl, da, dd, dc, x, xa, xd, xc, W, SW, SP, lt, len, PD, QW, tot, tm, pa, nx, fi, sf, n, B, r2, r3, r4, by rw [lf_len r4]; exact hn, hsf, ⟨hdc, hxc, by omega⟩, p, rfl⟩
theorem sum_le {α : Type} {L : List α} {f : α → Nat} {v : α} (h : v ∈ L) : f v ≤ (L.map f).sum := by
  induction L with
  | nil => cases h
  | cons u t ih =>
    rw [List.map_cons, List.sum_cons]
    rcases List.mem_cons.mp h with e | e
    · rw [e]; omega
    · have := ih e; omega
theorem dsN_put {k : Nat} {tx w : List Int64} {ds : dsT} (hn : (ds.map (·.1)).Nodup) (h : (k, w) ∈ ds) : dsN (stPut k tx ds) = dsN ds - w.length + tx.length := by
  induction ds with
  | nil => cases h
  | cons p t ih =>
    obtain ⟨n1, n2⟩ := List.nodup_cons.mp hn
    rcases List.mem_cons.mp h with e | e
    · subst e
      have : stDrop k ((k, w) :: t) = t := by
        unfold stDrop
        rw [List.filter_cons_of_neg (by simp)]
        exact stDrop_no (fun p hp z => n1 (List.mem_map.mpr ⟨p, hp, z⟩))
      unfold stPut
      rw [this]
      unfold dsN
      simp only [List.map_cons, List.sum_cons]
      omega
    · have hpk : p.1 ≠ k := fun z => n1 (List.mem_map.mpr ⟨_, e, z.symm⟩)
      have ih := ih n2 e
      have hle : w.length ≤ dsN t := sum_le (f := fun p => p.2.length) e
      have : stDrop k (p :: t) = p :: stDrop k t := by
        unfold stDrop
        exact List.filter_cons_of_pos (by simpa using hpk)
      unfold stPut at ih ⊢
      rw [this]
      unfold dsN at ih hle ⊢
      simp only [List.map_cons, List.sum_cons] at ih ⊢
      omega
set_option maxHeartbeats 1000000 in
theorem c_R_put (I : rkI l h r t tb b q ta tt s a an ap nt f ds V j fk fp L) (hj : j ≤ 63) (x : Int32) : Cx l yX11_put cX11_put 3 (some .int) 10 603 80500 [.ref r, .int x] h (fun r9 h1 => ∃ k, k < 10000 ∧ x = nI k ∧ (((∀ p ∈ ds, p.1 ≠ k) ∧ 120 ≤ ds.length ∧ r9 = some (.int (-1)) ∧ h1 = h) ∨ (((∃ p ∈ ds, p.1 = k) ∨ ds.length < 120) ∧ r9 = some (.int (nI (sp_text (sp_B f) nt).length)) ∧ ∃ V', rkI l h1 r t tb b q ta tt s a an ap nt f (stPut k (sp_text (sp_B f) nt) ds) V' (j + 1) fk fp L ∧ fr (rkS h t tb q tt s a an ap) h h1))) (fun E h1 => E = eIA ∧ h1 = h ∧ ∀ k, k < 10000 → x ≠ nI k) := by
  have i1 := I.1
  have T := I.2.1
  have DI := I.2.2.2.2.2.2
  obtain ⟨n1, n2, n3, n4, n5, n6, n7, n8⟩ := rk_no I
  have htl : (sp_text (sp_B f) nt).length ≤ 200 := sp_wds_len _ _ _ _
  obtain ⟨DL, num, wl, da, dd, dc, x9, xa, xd, xc, W, SW, SP, lt, len, PD, QW, tot, tm, pa, nx, fi, sf, n, B, B2, B3, B4, B5, B6, B7, B8, rfl⟩ := I.2.2.1
  have b1 := B.1
  have hDL : DL.length = ds.length := by rw [← B8.length_eq]; exact (List.length_map _).symm
  have hnd := B.2.2.2.2.2.2.2.2.2.2
  have hN : ∀ e ∈ DL, num e < 10000 := fun e he => (DI.2.1 _ (B8.mem_iff.mp (List.mem_map.mpr ⟨e, he, rfl⟩))).1
  have hnN : n = dsN (dsOf DL num wl) := by rw [B5, lf_len B4]
  refine Cx.of (own := RX11) rfl (by decide) (by exact Nat.le_of_ble_eq_true rfl) (by decide) (fun K hK C D X => ?_)
  have bK := B
  rw [← hK] at bK
  refine J_iload_n C rfl dX11_put_0 ?_
  refine J_xcallS C X (c_R_number x) cw_X11_62 rfl rfl (by exact Nat.le_of_ble_eq_true rfl) (by decide) (by omega) (by omega) dX11_put_1 (fun E h1 hp => hp) ?_
  rintro _ h9 ⟨rfl, e9, k, hk, rfl⟩
  replace e9 := e9.symm
  subst e9
  first | refine J_aload_n C rfl dX11_put_4 ?_ | refine J_aload_nq C rfl dX11_put_4 ?_ | refine J_aload_nN C rfl dX11_put_4 ?_
  refine J_get C fl_X11_19 (by first | assumption | exact jv_up_at _ _ _ | (simp [jv_up, *]; done)) (by rfl) dX11_put_5 ?_
  refine J_iload_n C rfl dX11_put_8 ?_
  refine J_callV C (c_Lib_open bK hN k hk (by omega) 200 (fun z => by unfold gcap; have := DI.2.2; split <;> omega)) cw_X11_66 (by first | assumption | exact jv_up_at _ _ _ | (simp [jv_up, *]; done)) rfl rfl rfl rfl (by exact Nat.le_of_ble_eq_true rfl) (by decide) (by omega) (by omega) dX11_put_9 ?_
  rintro _ h2 (⟨e, he, hek, rfl, e9⟩ | ⟨hno, hfull, rfl, e9⟩ | ⟨hno, hroom, q9, rfl, F2, hq9, dd', dc', Y, hcap⟩)
  · replace e9 := e9.symm
    subst e9
    have T1 := T
    have inj := ds_inj DI B8 hnd he hek
    have hln : len e ≤ n := by rw [B5]; exact sum_le he
    first | refine J_astore_nq C (by decide) dX11_put_12 ?_ | refine J_astore_n C (by decide) dX11_put_12 ?_ | refine J_astore_nN C (by decide) dX11_put_12 ?_
    first | refine J_aload_n C rfl dX11_put_13 ?_ | refine J_aload_nq C rfl dX11_put_13 ?_ | refine J_aload_nN C rfl dX11_put_13 ?_
    refine J_ifnonnull (x := some e) C 19 (by decide) dX11_put_14 (fun _ _ => ?_) (fun z => by cases z)
    first | refine J_aload_n C rfl dX11_put_19 ?_ | refine J_aload_nq C rfl dX11_put_19 ?_ | refine J_aload_nN C rfl dX11_put_19 ?_
    refine J_get C fl_X11_19 (by first | assumption | exact jv_up_at _ _ _ | (simp [jv_up, *]; done)) (by rfl) dX11_put_20 ?_
    first | refine J_aload_n C rfl dX11_put_23 ?_ | refine J_aload_nq C rfl dX11_put_23 ?_ | refine J_aload_nN C rfl dX11_put_23 ?_
    first | refine J_aload_n C rfl dX11_put_24 ?_ | refine J_aload_nq C rfl dX11_put_24 ?_ | refine J_aload_nN C rfl dX11_put_24 ?_
    refine J_get C fl_X11_12 (by first | assumption | exact jv_up_at _ _ _ | (simp [jv_up, *]; done)) (by rfl) dX11_put_25 ?_
    refine J_callV C (c_Lib_rewrite bK B2 B3 B4 he hln T 19510 B7.2.1 (by omega) (by decide)) cw_X11_70 (by first | assumption | exact jv_up_at _ _ _ | (simp [jv_up, *]; done)) rfl rfl rfl rfl (by exact Nat.le_of_ble_eq_true rfl) (by decide) (by omega) (by omega) dX11_put_28 ?_
    rintro _ h3 ⟨rfl, F, m, xc', R, hx1, hx2, hm⟩
    rw [hK] at R
    obtain ⟨W', SW', SP', lt', len', PD', QW', tot', tm', pa', nx', fi', xd', Y, r2, r3, r4, r5, r6⟩ := id R
    have ge := Y.2.2.2.2.2.2.1 e he
    have hle' : len' e = (sp_text (sp_B f) nt).length := by
      have := (r4 e he).1
      rw [show va_up wl e (sp_text (sp_B f) nt) e = sp_text (sp_B f) nt from if_pos rfl] at this
      exact this
    have pp := put_perm hnd he hek inj (sp_text (sp_B f) nt) (wl := wl)
    have pq : (dsOf DL num (va_up wl e (sp_text (sp_B f) nt))).Perm (stPut k (sp_text (sp_B f) nt) ds) := pp.trans (List.Perm.cons _ (stDrop_perm B8 k))
    have hmem : (k, wl e) ∈ dsOf DL num wl := List.mem_map.mpr ⟨e, he, by rw [hek]⟩
    have hnod : ((dsOf DL num wl).map (·.1)).Nodup := ((B8.map (·.1)).nodup_iff).mpr DI.1
    obtain ⟨V', LI⟩ := libI_rw (j' := j + 1) R (by rw [dsN_perm pp, dsN_put hnod hmem, ← hnN, (B4 e he).1]) B6 B7.1 hx2 (by omega) pq
    have D2 : dsI (stPut k (sp_text (sp_B f) nt) ds) := ⟨List.nodup_cons.mpr ⟨(stDrop_I DI).2, (stDrop_I DI).1.1⟩, fun p hp => (List.mem_cons.mp hp).elim (fun z => by rw [z]; exact ⟨hk, htl⟩) ((stDrop_I DI).1.2.1 p), by rw [← pq.length_eq]; unfold dsOf; rw [List.length_map, hDL]; exact DI.2.2⟩
    have RK := rk_lib I F LI D2
    first | refine J_aload_n C rfl dX11_put_31 ?_ | refine J_aload_nq C rfl dX11_put_31 ?_ | refine J_aload_nN C rfl dX11_put_31 ?_
    refine J_get C fl_X11_74 (by first | assumption | exact jv_up_at _ _ _ | (simp [jv_up, *]; done)) (by rfl) dX11_put_32 ?_
    refine J_iret C D ⟨k, hk, rfl, Or.inr ⟨Or.inl ⟨_, B8.mem_iff.mp hmem, rfl⟩, by rw [hle'], V', RK.1, RK.2⟩⟩ (by omega) (by omega) dX11_put_35
  · replace e9 := e9.symm
    subst e9
    first | refine J_astore_nq C (by decide) dX11_put_12 ?_ | refine J_astore_n C (by decide) dX11_put_12 ?_ | refine J_astore_nN C (by decide) dX11_put_12 ?_
    first | refine J_aload_n C rfl dX11_put_13 ?_ | refine J_aload_nq C rfl dX11_put_13 ?_ | refine J_aload_nN C rfl dX11_put_13 ?_
    refine J_ifnonnull (x := none) C 19 (by decide) dX11_put_14 (fun q z => by cases z) (fun _ => ?_)
    refine J_iconst C (v := (-1)) (by decide) dX11_put_17 ?_
    refine J_iret C D ⟨k, hk, rfl, Or.inl ⟨fun p hp z => by obtain ⟨v, hv, rfl⟩ := List.mem_map.mp (B8.mem_iff.mpr hp); exact hno v hv z, by omega, rfl, rfl⟩⟩ (by omega) (by omega) dX11_put_18
  · rw [hK] at Y
    have T2 : tp_is h2 t tb nt f := tp_keep T F2 n2 n3
    have i12 := (F2 r n1).trans i1
    have y1 := Y.1
    have A2 := gA_open B4 hq9 (fun u hu v hv => ((B.2.2.2.2.2.2.2.1.1 u hu).2 v hv).1)
    have G2 : gF (DL ++ [q9]) (va_up QW q9 []) (va_up fi q9 none) pa := by
      intro v hv
      by_cases c : v = q9
      · rw [c, show va_up fi q9 none q9 = none from if_pos rfl, show va_up QW q9 [] q9 = [] from if_pos rfl]; rfl
      · rw [show va_up fi q9 none v = fi v from if_neg c, show va_up QW q9 [] v = QW v from if_neg c]
        exact B3 v ((List.mem_append.mp hv).elim id (fun z => absurd (List.mem_singleton.mp z) c))
    have hq2 : q9 ∈ DL ++ [q9] := List.mem_append_right _ List.mem_cons_self
    have YK := Y
    rw [← hK] at YK
    first | refine J_astore_nq C (by decide) dX11_put_12 ?_ | refine J_astore_n C (by decide) dX11_put_12 ?_ | refine J_astore_nN C (by decide) dX11_put_12 ?_
    first | refine J_aload_n C rfl dX11_put_13 ?_ | refine J_aload_nq C rfl dX11_put_13 ?_ | refine J_aload_nN C rfl dX11_put_13 ?_
    refine J_ifnonnull (x := some q9) C 19 (by decide) dX11_put_14 (fun _ _ => ?_) (fun z => by cases z)
    first | refine J_aload_n C rfl dX11_put_19 ?_ | refine J_aload_nq C rfl dX11_put_19 ?_ | refine J_aload_nN C rfl dX11_put_19 ?_
    refine J_get C fl_X11_19 (by first | assumption | exact jv_up_at _ _ _ | (simp [jv_up, *]; done)) (by rfl) dX11_put_20 ?_
    first | refine J_aload_n C rfl dX11_put_23 ?_ | refine J_aload_nq C rfl dX11_put_23 ?_ | refine J_aload_nN C rfl dX11_put_23 ?_
    first | refine J_aload_n C rfl dX11_put_24 ?_ | refine J_aload_nq C rfl dX11_put_24 ?_ | refine J_aload_nN C rfl dX11_put_24 ?_
    refine J_get C fl_X11_12 (by first | assumption | exact jv_up_at _ _ _ | (simp [jv_up, *]; done)) (by rfl) dX11_put_25 ?_
    refine J_callV C (c_Lib_rewrite YK B2 G2 A2 hq2 (by rw [show va_up len q9 0 q9 = 0 from if_pos rfl]; exact Nat.zero_le _) T2 19510 B7.2.1 (by omega) (by decide)) cw_X11_70 (by first | assumption | exact jv_up_at _ _ _ | (simp [jv_up, *]; done)) rfl rfl rfl rfl (by exact Nat.le_of_ble_eq_true rfl) (by decide) (by omega) (by omega) dX11_put_28 ?_
    rintro _ h3 ⟨rfl, F, m, xc', R, hx1, hx2, hm⟩
    rw [hK] at R
    obtain ⟨W', SW', SP', lt', len', PD', QW', tot', tm', pa', nx', fi', xd', Y3, r2, r3, r4, r5, r6⟩ := id R
    have ge := Y3.2.2.2.2.2.2.1 q9 hq2
    have hle' : len' q9 = (sp_text (sp_B f) nt).length := by
      have := (r4 q9 hq2).1
      rw [show va_up (va_up wl q9 []) q9 (sp_text (sp_B f) nt) q9 = sp_text (sp_B f) nt from if_pos rfl] at this
      exact this
    have hnoD : ∀ p ∈ ds, p.1 ≠ k := fun p hp z => by
      obtain ⟨v, hv, rfl⟩ := List.mem_map.mp (B8.mem_iff.mpr hp)
      exact hno v hv z
    have pp := open_perm (wl := wl) hq9 hno (sp_text (sp_B f) nt) []
    have pq : (dsOf (DL ++ [q9]) (va_up num q9 k) (va_up (va_up wl q9 []) q9 (sp_text (sp_B f) nt))).Perm (stPut k (sp_text (sp_B f) nt) ds) := pp.trans (List.Perm.cons _ (stDrop_perm B8 k))
    have hno2 : ∀ p ∈ dsOf DL num wl, p.1 ≠ k := fun p hp => hnoD p (B8.mem_iff.mp hp)
    have hdc' : dc' ≤ 200 := by
      rcases hcap with z | ⟨z, z2⟩
      · omega
      · rw [z]
        unfold gcap
        split <;> omega
    obtain ⟨V', LI⟩ := libI_rw (j' := j + 1) R (by
      rw [dsN_perm pp, show va_up len q9 0 q9 = 0 from if_pos rfl]
      unfold stPut
      rw [stDrop_no hno2, hnN]
      unfold dsN
      rw [List.map_cons, List.sum_cons]
      show _ - 0 + _ = (sp_text (sp_B f) nt).length + _
      omega) (fun d hd => by
      by_cases c : d = q9
      · rw [c, show va_up sf q9 sf0 q9 = sf0 from if_pos rfl]
      · rw [show va_up sf q9 sf0 d = sf d from if_neg c]
        exact B6 d ((List.mem_append.mp hd).elim id (fun z => absurd (List.mem_singleton.mp z) c))) hdc' hx2 (by omega) pq
    have D2 : dsI (stPut k (sp_text (sp_B f) nt) ds) := ⟨List.nodup_cons.mpr ⟨(stDrop_I DI).2, (stDrop_I DI).1.1⟩, fun p hp => (List.mem_cons.mp hp).elim (fun z => by rw [z]; exact ⟨hk, htl⟩) ((stDrop_I DI).1.2.1 p), by unfold stPut; rw [stDrop_no hnoD, List.length_cons]; omega⟩
    have RK := rk_lib I (lc_tr F2 F) LI D2
    first | refine J_aload_n C rfl dX11_put_31 ?_ | refine J_aload_nq C rfl dX11_put_31 ?_ | refine J_aload_nN C rfl dX11_put_31 ?_
    refine J_get C fl_X11_74 (by first | assumption | exact jv_up_at _ _ _ | (simp [jv_up, *]; done)) (by rfl) dX11_put_32 ?_
    refine J_iret C D ⟨k, hk, rfl, Or.inr ⟨Or.inr (by omega), by rw [hle'], V', RK.1, RK.2⟩⟩ (by omega) (by omega) dX11_put_35
theorem c_R_drop (I : rkI l h r t tb b q ta tt s a an ap nt f ds V j fk fp L) (x : Int32) : Cx l yX11_drop cX11_drop 2 (some .boolean) 10 1 6 [.ref r, .int x] h (fun r9 h1 => ∃ k, k < 10000 ∧ x = nI k ∧ (((∀ p ∈ ds, p.1 ≠ k) ∧ r9 = some (.int (jv_b false)) ∧ h1 = h) ∨ ((∃ p ∈ ds, p.1 = k) ∧ r9 = some (.int (jv_b true)) ∧ ∃ V', rkI l h1 r t tb b q ta tt s a an ap nt f (stDrop k ds) V' j fk fp L ∧ fr (rkS h t tb q tt s a an ap) h h1))) (fun E h1 => E = eIA ∧ h1 = h ∧ ∀ k, k < 10000 → x ≠ nI k) := by
  have i1 := I.1
  have DI := I.2.2.2.2.2.2
  obtain ⟨DL, num, wl, da, dd, dc, x9, xa, xd, xc, W, SW, SP, lt, len, PD, QW, tot, tm, pa, nx, fi, sf, n, B, B2, B3, B4, B5, B6, B7, B8, rfl⟩ := I.2.2.1
  have b1 := B.1
  have hnd := B.2.2.2.2.2.2.2.2.2.2
  have hN : ∀ e ∈ DL, num e < 10000 := fun e he => (DI.2.1 _ (B8.mem_iff.mp (List.mem_map.mpr ⟨e, he, rfl⟩))).1
  refine Cx.of (own := RX11) rfl (by decide) (by exact Nat.le_of_ble_eq_true rfl) (by decide) (fun K hK C D X => ?_)
  have bK := B
  rw [← hK] at bK
  refine J_iload_n C rfl dX11_drop_0 ?_
  refine J_xcallS C X (c_R_number x) cw_X11_62 rfl rfl (by exact Nat.le_of_ble_eq_true rfl) (by decide) (by omega) (by omega) dX11_drop_1 (fun E h1 hp => hp) ?_
  rintro _ h9 ⟨rfl, e9, k, hk, rfl⟩
  replace e9 := e9.symm
  subst e9
  first | refine J_aload_n C rfl dX11_drop_4 ?_ | refine J_aload_nq C rfl dX11_drop_4 ?_ | refine J_aload_nN C rfl dX11_drop_4 ?_
  refine J_get C fl_X11_19 (by first | assumption | exact jv_up_at _ _ _ | (simp [jv_up, *]; done)) (by rfl) dX11_drop_5 ?_
  refine J_iload_n C rfl dX11_drop_8 ?_
  refine J_callV C (c_Lib_remove bK B2 B3 (fun e he => by rw [B5]; exact sum_le he) hN k hk) cw_X11_79 (by first | assumption | exact jv_up_at _ _ _ | (simp [jv_up, *]; done)) rfl rfl rfl rfl (by exact Nat.le_of_ble_eq_true rfl) (by decide) (by omega) (by omega) dX11_drop_9 ?_
  rintro _ h2 (⟨rfl, i, e, hi, hek, F, W', SW', SP', PD', tot', Y, y1, y2, y3⟩ | ⟨rfl, hno, e9⟩)
  · rw [hK] at Y
    have he := List.mem_of_getElem? hi
    have inj := ds_inj DI B8 hnd he hek
    have hmE := mem_erase_iff hnd hi
    have A2 : gA W' (DL.eraseIdx i) lt PD' tm (va_up len e 0) (va_up wl e []) := gA_drop (gA_forget B4 e y1 y2 (fun u hu z => by
      have := ((Y.2.2.2.2.2.2.2.1.1 u hu).2 e z).1
      exact (hmE e).mp this |>.2 rfl)) i
    have wle : ∀ v ∈ DL.eraseIdx i, va_up wl e [] v = wl v := fun v hv => if_neg ((hmE v).mp hv).2
    have lne : ∀ v ∈ DL.eraseIdx i, va_up len e 0 v = len v := fun v hv => if_neg ((hmE v).mp hv).2
    have A3 : gA W' (DL.eraseIdx i) lt PD' tm (va_up len e 0) wl := fun v hv => by
      have := A2 v hv
      rw [wle v hv] at this
      exact this
    have G3 : gF (DL.eraseIdx i) (va_up QW e []) (va_up fi e none) pa := fun v hv => by
      have c := ((hmE v).mp hv)
      rw [show va_up fi e none v = fi v from if_neg c.2, show va_up QW e [] v = QW v from if_neg c.2]
      exact B3 v c.1
    have pp := drop_perm (wl := wl) hnd hi hek inj
    have hsum := sum_erase len DL i e hi
    have hs2 : ((DL.eraseIdx i).map (va_up len e 0)).sum = ((DL.eraseIdx i).map len).sum := congrArg List.sum (List.map_congr_left lne)
    have LI : libI l h2 b (stDrop k ds) (W'.map lt) j := ⟨DL.eraseIdx i, num, wl, da, dd, dc, x9, xa, xd, xc, W', SW', SP', lt, _, PD', _, tot', tm, pa, nx, _, sf, _, Y, fun u hu => ((y1 u).mp hu).2, G3, A3, by rw [hs2, B5]; omega, fun d hd => B6 d ((hmE d).mp hd).1, ⟨B7.1, B7.2.1, by omega⟩, pp.trans (stDrop_perm B8 k), rfl⟩
    have RK := rk_lib I F LI (stDrop_I DI).1
    refine J_zret C D (Or.inr rfl) ⟨k, hk, rfl, Or.inr ⟨⟨_, B8.mem_iff.mp (List.mem_map.mpr ⟨e, he, rfl⟩), hek⟩, rfl, _, RK.1, RK.2⟩⟩ (by omega) (by omega) dX11_drop_12
  · replace e9 := e9.symm
    subst e9
    refine J_zret C D (Or.inl rfl) ⟨k, hk, rfl, Or.inl ⟨fun p hp z => by obtain ⟨v, hv, rfl⟩ := List.mem_map.mp (B8.mem_iff.mpr hp); exact hno v hv z, rfl, rfl⟩⟩ (by omega) (by omega) dX11_drop_12
end PUTM
