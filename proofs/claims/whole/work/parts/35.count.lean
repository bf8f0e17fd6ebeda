def gF (D : List Nat) (QW : Nat → List Nat) (fi : Nat → Option Nat) (pa : Nat → Nat → Nat) : Prop := ∀ v ∈ D, fi v = (QW v)[0]?.map (fun u => pa u v)
section COUNT
variable {l : jL} {h h1 : jH} {b da dd dc x xa xd xc : Nat} {DL W SW SP : List Nat} {lt : Nat → Int64} {num len : Nat → Nat} {PD QW : Nat → List Nat} {tot : Nat → Nat} {tm pa : Nat → Nat → Nat} {nx : Nat → Nat → Option Nat} {fi : Nat → Option Nat} {sf : Nat → sfT} {n : Nat}
theorem sum_up {f : Nat → Nat} {L : List Nat} (hn : L.Nodup) {e : Nat} (he : e ∈ L) {g : Nat → Nat} (h1 : g e = f e + 1) (h2 : ∀ v, v ≠ e → g v = f v) : (L.map g).sum = (L.map f).sum + 1 := by
  obtain ⟨i, hi⟩ := List.getElem?_of_mem he
  have a1 := sum_erase f L i e hi
  have a2 := sum_erase g L i e hi
  have hh : ∀ v ∈ L.eraseIdx i, g v = f v := fun v hv => h2 v ((mem_erase_iff hn hi v).mp hv).2
  rw [List.map_congr_left hh] at a2
  omega
theorem lib0_cnt (B : lib0 l h b da dd dc x xa xd xc DL W SW SP lt num len PD QW tot tm pa nx fi sf n) {w e i : Nat} (hw : w ∈ W) (he : e ∈ DL) (hi : (PD w)[i]? = some e) {sp : Option Nat} (hsp : h w = some (wdO (lt w) (PD w).length (tot w) ((PD w)[0]?.map (pa w)) sp))
    (k1 : h1 (pa w e) = some (psO (some w) (some e) (tm w e + 1) (prv (PD w) (pa w) i) (nxt (PD w) (pa w) i) (nx w e)))
    (k2 : h1 w = some (wdO (lt w) (PD w).length (tot w + 1) ((PD w)[0]?.map (pa w)) sp))
    (k3 : h1 e = some (dcO (num e) (len e + 1) (fi e) (sf e)))
    (k4 : h1 b = some (lbO da x (n + 1) SP[0]?))
    (F : fr (fun y => y = pa w e ∨ y = w ∨ y = e ∨ y = b) h h1) :
    lib0 l h1 b da dd dc x xa xd xc DL W SW SP lt num (va_up len e (len e + 1)) PD QW (va_up tot w (tot w + 1)) (up2 tm w e (tm w e + 1)) pa nx fi sf (n + 1) ∧ fr (lc h) h h1 := by
  obtain ⟨b1, b2, b3, b4, b5, b6, b7, b8, b9, b10, b11⟩ := B
  have hp := b6 w hw i e hi
  have hec := b7 e he
  have keep : ∀ {y c : Nat} {fs : List Value}, h y = some (.inr (c, fs)) → c ≠ 3 → (c = 4 → y ≠ pa w e) → (c = 9 → y ≠ w) → (c = 1 → y ≠ e) → h1 y = h y := by
    intro y c fs e9 c3 c4 c9 c1
    refine F y (fun z => ?_)
    rcases z with z | z | z | z
    · by_cases q : c = 4
      · exact c4 q z
      · exact jv_neO e9 hp q z
    · by_cases q : c = 9
      · exact c9 q z
      · exact jv_neO e9 hsp q z
    · by_cases q : c = 1
      · exact c1 q z
      · exact jv_neO e9 hec q z
    · exact jv_neO e9 b1 c3 z
  have keepA : ∀ {y n : Nat} {f : Nat → Option Nat}, h y = some (alA n f) → h1 y = h y := by
    intro y n f e9
    refine F y (fun z => ?_)
    rcases z with z | z | z | z
    · exact jv_neA hp e9 z.symm
    · exact jv_neA hsp e9 z.symm
    · exact jv_neA hec e9 z.symm
    · exact jv_neA b1 e9 z.symm
  obtain ⟨⟨xf, xa1⟩, xd1⟩ := al_ad b3.2.1
  obtain ⟨⟨df, da1⟩, dd1⟩ := al_ad b2
  have hd9 : gD h1 DL num (va_up len e (len e + 1)) fi sf := by
    intro v hv
    by_cases c : v = e
    · subst c
      rw [k3, show va_up len v (len v + 1) v = len v + 1 from if_pos rfl]
    · rw [show va_up len e (len e + 1) v = len v from if_neg c]
      exact (keep (b7 v hv) (by decide) (fun q => by cases q) (fun q => by cases q) (fun _ => c)).trans (b7 v hv)
  have hW9 : gW h1 W lt PD (va_up tot w (tot w + 1)) pa := by
    intro u hu2
    by_cases c : u = w
    · subst c
      refine ⟨sp, ?_⟩
      rw [k2, show va_up tot u (tot u + 1) u = tot u + 1 from if_pos rfl]
    · obtain ⟨sp9, h9⟩ := b5 u hu2
      refine ⟨sp9, ?_⟩
      rw [show va_up tot w (tot w + 1) u = tot u from if_neg c]
      exact (keep h9 (by decide) (fun q => by cases q) (fun _ => c) (fun q => by cases q)).trans h9
  refine ⟨⟨k4, al_up b2 (keep da1 (by decide) (fun q => by cases q) (fun q => by cases q) (fun q => by cases q)) (fun hc => ?_) (fun y hy => ⟨_, hd9 y hy⟩), lx_up b3 (keep b3.1 (by decide) (fun q => by cases q) (fun q => by cases q) (fun q => by cases q)) (keep xa1 (by decide) (fun q => by cases q) (fun q => by cases q) (fun q => by cases q)) (fun hc => ?_) (fun u hu2 => ?_) (fun u hu2 => ?_), b4, hW9, fun u hu2 j v hv => ?_, hd9, b8, ⟨fun j q hj => ?_, b9.2⟩, fun u hu2 => ?_, b11⟩, fun y hy => F y (fun z => ?_)⟩
  · obtain ⟨f, f1⟩ := dd1 hc
    exact keepA f1
  · obtain ⟨f, f1⟩ := xd1 hc
    exact keepA f1
  · obtain ⟨sp9, h9⟩ := hW9 u hu2
    exact ⟨_, _, _, _, h9⟩
  · obtain ⟨j, hj⟩ := List.getElem?_of_mem hu2
    obtain ⟨c1, c2, c3, c4, c5⟩ := b3.2.2.2.2.1 j u hj
    exact keep c5 (by decide) (fun q => by cases q) (fun _ z => b3.2.2.2.2.2.2 u hu2 (z ▸ hw)) (fun q => by cases q)
  · by_cases c : u = w ∧ v = e
    · obtain ⟨c1, c2⟩ := c
      subst c1; subst c2
      have := nodup_idx (b8.1 u hu2).1 hv hi
      subst this
      rw [k1, up2_at]
    · have c' : u ≠ w ∨ v ≠ e := by
        by_cases q : u = w
        · exact Or.inr (fun z => c ⟨q, z⟩)
        · exact Or.inl q
      rw [up2_ne c']
      have h9 := b6 u hu2 j v hv
      refine (keep h9 (by decide) (fun _ z => ?_) (fun q => by cases q) (fun q => by cases q)).trans h9
      exact c (gP_inj b6 hu2 (List.mem_of_getElem? hv) hw (List.mem_of_getElem? hi) z)
  · obtain ⟨t9, p1, p2, p3⟩ := b9.1 j q hj
    refine ⟨t9, p1, p2, (keep p3 (by decide) (fun _ z => ?_) (fun q => by cases q) (fun q => by cases q)).trans p3⟩
    rw [z, hp] at p3
    have := (psO_inj p3).1
    cases this
  · by_cases c : u = w
    · subst c
      rw [show va_up tot u (tot u + 1) u = tot u + 1 from if_pos rfl, b10 u hu2]
      exact (sum_up (b8.1 u hu2).1 (List.mem_of_getElem? hi) (up2_at _ _ _ _) (fun v hv => up2_ne (Or.inr hv))).symm
    · rw [show va_up tot w (tot w + 1) u = tot u from if_neg c, b10 u hu2]
      have hh : ∀ v ∈ PD u, tm u v = up2 tm w e (tm w e + 1) u v := fun v hv => (up2_ne (Or.inl c)).symm
      exact congrArg List.sum (List.map_congr_left hh)
  · rcases z with z | z | z | z
    · exact hy (lc_O (z ▸ hp) (by simp))
    · exact hy (lc_O (z ▸ hsp) (by simp))
    · exact hy (lc_O (z ▸ hec) (by simp))
    · exact hy (lc_O (z ▸ b1) (by simp))
def cnP (l : jL) (h : jH) (b da dd dc x xa xd xc : Nat) (D W SW : List Nat) (lt : Nat → Int64) (num len : Nat → Nat) (PD : Nat → List Nat) (tot : Nat → Nat) (tm : Nat → Nat → Nat) (sf : Nat → sfT) (n e w : Nat) (h1 : jH) : Prop :=
  fr (lc h) h h1 ∧ ∃ SP' PD' QW' tm' pa' nx' fi', lib0 l h1 b da dd dc x xa xd xc D W SW SP' lt num (va_up len e (len e + 1)) PD' QW' (va_up tot w (tot w + 1)) tm' pa' nx' fi' sf (n + 1) ∧ gF D QW' fi' pa' ∧ (∀ u, u ≠ w → PD' u = PD u) ∧ (PD' w)[0]? = some e ∧ (∀ v, v ∈ PD' w ↔ v = e ∨ v ∈ PD w) ∧ (tm' w e = (if e ∈ PD w then tm w e else 0) + 1) ∧ ∀ u v, (u ≠ w ∨ v ≠ e) → tm' u v = tm u v
set_option maxHeartbeats 800000 in
theorem c_Lib_count (B : lib0 l h b da dd dc x xa xd xc DL W SW SP lt num len PD QW tot tm pa nx fi sf n) (G : gF DL QW fi pa) {w e : Nat} (hw : w ∈ W) (he : e ∈ DL) (hn : e ∈ PD w → (PD w)[0]? = some e) : Cn l yX4_count cX4_count 4 none 4 1 6 [.ref b, .ref e, .ref w] h (fun r h1 => r = none ∧ cnP l h b da dd dc x xa xd xc DL W SW lt num len PD tot tm sf n e w h1) := by
  refine Cn.of (own := RX4) rfl (by decide) (by exact Nat.le_of_ble_eq_true rfl) (by decide) (fun K hK C D I => ?_)
  have K24 : ∀ (c s : Nat) (h' : jH) (SP' : List Nat) (PD' QW' : Nat → List Nat) (tm' pa' : Nat → Nat → Nat) (nx' : Nat → Nat → Option Nat) (fi' : Nat → Option Nat), c ≤ 1 → s ≤ 6 → fr (lc h) h h' → lib0 l h' b da dd dc x xa xd xc DL W SW SP' lt num len PD' QW' tot tm' pa' nx' fi' sf n → gF DL QW' fi' pa' → (∀ u, u ≠ w → PD' u = PD u) → (PD' w)[0]? = some e → (∀ v, v ∈ PD' w ↔ v = e ∨ v ∈ PD w) → tm' w e = (if e ∈ PD w then tm w e else 0) → (∀ u v, (u ≠ w ∨ v ≠ e) → tm' u v = tm u v) → J K c s 24 (jv_l [(3, .ref (pa' w e)), (2, .ref w), (1, .ref e), (0, .ref b)]) [] h' := by
    intro c s h' SP' PD' QW' tm' pa' nx' fi' hc hs F Y G2 y1 y2 y3 y4 y5
    have yb := Y.1
    have yp := Y.2.2.2.2.2.1 w hw 0 e y2
    have ye := Y.2.2.2.2.2.2.1 e he
    obtain ⟨sp, yw⟩ := Y.2.2.2.2.1 w hw
    have npw : pa' w e ≠ w := jv_neO yp yw (by decide)
    have npe : pa' w e ≠ e := jv_neO yp ye (by decide)
    have npb : pa' w e ≠ b := jv_neO yp yb (by decide)
    have nwe : w ≠ e := jv_neO yw ye (by decide)
    have nwb : w ≠ b := jv_neO yw yb (by decide)
    have neb : e ≠ b := jv_neO ye yb (by decide)
    first | refine J_aload_n C rfl dX4_count_24 ?_ | refine J_aload_nq C rfl dX4_count_24 ?_ | refine J_aload_nN C rfl dX4_count_24 ?_
    refine J_dup C rfl dX4_count_25 ?_
    refine J_get C fl_X4_106 (by first | assumption | exact jv_up_at _ _ _ | (simp [jv_up, *]; done)) (by rfl) dX4_count_26 ?_
    refine J_iconst C (v := nI 1) (by decide) dX4_count_29 ?_
    first | refine J_niadd C dX4_count_30 ?_ | refine J_iadd C dX4_count_30 ?_
    refine J_put C fl_X4_106 (by first | assumption | exact jv_up_at _ _ _ | (simp [jv_up, *]; done)) (by exact Nat.le_of_ble_eq_true rfl) (by rfl) (by rfl) dX4_count_31 ?_
    have yw2 := jv_up_of (x := psO (some w) (some e) (tm' w e + 1) (prv (PD' w) (pa' w) 0) (nxt (PD' w) (pa' w) 0) (nx' w e)) npw.symm yw
    first | refine J_aload_n C rfl dX4_count_34 ?_ | refine J_aload_nq C rfl dX4_count_34 ?_ | refine J_aload_nN C rfl dX4_count_34 ?_
    refine J_dup C rfl dX4_count_35 ?_
    refine J_get C fl_X4_109 (by first | assumption | exact jv_up_at _ _ _ | (simp [jv_up, *]; done)) (by rfl) dX4_count_36 ?_
    refine J_iconst C (v := nI 1) (by decide) dX4_count_39 ?_
    first | refine J_niadd C dX4_count_40 ?_ | refine J_iadd C dX4_count_40 ?_
    refine J_put C fl_X4_109 (by first | assumption | exact jv_up_at _ _ _ | (simp [jv_up, *]; done)) (by exact Nat.le_of_ble_eq_true rfl) (by rfl) (by rfl) dX4_count_41 ?_
    have ye2 := jv_up_of (x := wdO (lt w) (PD' w).length (tot w + 1) ((PD' w)[0]?.map (pa' w)) sp) nwe.symm (jv_up_of (x := psO (some w) (some e) (tm' w e + 1) (prv (PD' w) (pa' w) 0) (nxt (PD' w) (pa' w) 0) (nx' w e)) npe.symm ye)
    first | refine J_aload_n C rfl dX4_count_44 ?_ | refine J_aload_nq C rfl dX4_count_44 ?_ | refine J_aload_nN C rfl dX4_count_44 ?_
    refine J_dup C rfl dX4_count_45 ?_
    refine J_get C fl_X4_112 (by first | assumption | exact jv_up_at _ _ _ | (simp [jv_up, *]; done)) (by rfl) dX4_count_46 ?_
    refine J_iconst C (v := nI 1) (by decide) dX4_count_49 ?_
    first | refine J_niadd C dX4_count_50 ?_ | refine J_iadd C dX4_count_50 ?_
    refine J_put C fl_X4_112 (by first | assumption | exact jv_up_at _ _ _ | (simp [jv_up, *]; done)) (by exact Nat.le_of_ble_eq_true rfl) (by rfl) (by rfl) dX4_count_51 ?_
    have yb2 := jv_up_of (x := dcO (num e) (len e + 1) (fi' e) (sf e)) neb.symm (jv_up_of (x := wdO (lt w) (PD' w).length (tot w + 1) ((PD' w)[0]?.map (pa' w)) sp) nwb.symm (jv_up_of (x := psO (some w) (some e) (tm' w e + 1) (prv (PD' w) (pa' w) 0) (nxt (PD' w) (pa' w) 0) (nx' w e)) npb.symm yb))
    first | refine J_aload_n C rfl dX4_count_54 ?_ | refine J_aload_nq C rfl dX4_count_54 ?_ | refine J_aload_nN C rfl dX4_count_54 ?_
    refine J_dup C rfl dX4_count_55 ?_
    refine J_get C fl_X4_114 (by first | assumption | exact jv_up_at _ _ _ | (simp [jv_up, *]; done)) (by rfl) dX4_count_56 ?_
    refine J_iconst C (v := nI 1) (by decide) dX4_count_59 ?_
    first | refine J_niadd C dX4_count_60 ?_ | refine J_iadd C dX4_count_60 ?_
    refine J_put C fl_X4_114 (by first | assumption | exact jv_up_at _ _ _ | (simp [jv_up, *]; done)) (by exact Nat.le_of_ble_eq_true rfl) (by rfl) (by rfl) dX4_count_61 ?_
    have s := lib0_cnt Y hw he y2 yw (jv_up_of npb (jv_up_of npe (jv_up_of npw (jv_up_at _ _ _)))) (jv_up_of nwb (jv_up_of nwe (jv_up_at _ _ _))) (jv_up_of neb (jv_up_at _ _ _)) (jv_up_at _ _ _) (fr_tr (fr_tr (fr_tr (fr_up (Or.inl rfl)) (fr_up (Or.inr (Or.inl rfl)))) (fr_up (Or.inr (Or.inr (Or.inl rfl))))) (fr_up (Or.inr (Or.inr (Or.inr rfl)))))
    refine J_vret C D ⟨rfl, lc_tr F s.2, SP', PD', QW', _, pa', nx', fi', s.1, G2, y1, y2, y3, by rw [up2_at, y4], fun u v hh => by rw [up2_ne hh]; exact y5 u v hh⟩ (by omega) (by omega) dX4_count_64
  have K17 : ∀ z : Option Nat, e ∉ PD w → J K 0 0 17 (jv_l [(2, .ref w), (1, .ref e), (0, .ref b)]) [] h := by
    intro z hne
    have bb := B.1
    have B1 := B
    rw [← hK] at B1
    first | refine J_aload_n C rfl dX4_count_17 ?_ | refine J_aload_nq C rfl dX4_count_17 ?_ | refine J_aload_nN C rfl dX4_count_17 ?_
    first | refine J_aload_n C rfl dX4_count_18 ?_ | refine J_aload_nq C rfl dX4_count_18 ?_ | refine J_aload_nN C rfl dX4_count_18 ?_
    first | refine J_aload_n C rfl dX4_count_19 ?_ | refine J_aload_nq C rfl dX4_count_19 ?_ | refine J_aload_nN C rfl dX4_count_19 ?_
    refine J_callV C (c_Lib_post B1 hw he hne (G e he)) cw_X4_102 (by first | assumption | exact jv_up_at _ _ _ | (simp [jv_up, *]; done)) rfl rfl rfl rfl (by exact Nat.le_of_ble_eq_true rfl) (by decide) (by omega) (by omega) dX4_count_20 ?_
    rintro _ h2 ⟨p, rfl, F, SP', A⟩
    rw [hK] at A
    first | refine J_astore_nq C (by decide) dX4_count_23 ?_ | refine J_astore_n C (by decide) dX4_count_23 ?_ | refine J_astore_nN C (by decide) dX4_count_23 ?_
    have upw : va_up PD w (e :: PD w) w = e :: PD w := if_pos rfl
    refine J_sub (L := [(3, .ref (up2 pa w e p w e)), (2, .ref w), (1, .ref e), (0, .ref b)]) ?_ (K24 _ _ h2 SP' _ _ _ _ _ _ (by omega) (by omega) F A ?_ (fun u hu => if_neg hu) (by rw [upw]; rfl) (fun v => by rw [upw]; exact List.mem_cons) (by rw [up2_at, if_neg hne]) (fun u v hh => up2_ne hh))
    · rw [up2_at]
      exact ⟨rfl, rfl, rfl, rfl, trivial⟩
    · have hwq : w ∉ QW e := fun z => by
        obtain ⟨j, hj⟩ := List.getElem?_of_mem z
        exact hne ((B.2.2.2.2.2.2.2.1.2 e he).2 j w hj).2.1
      intro v hv
      by_cases c : v = e
      · subst c
        rw [show va_up fi v (some p) v = some p from if_pos rfl, show va_up QW v (w :: QW v) v = w :: QW v from if_pos rfl]
        show some p = some (up2 pa w v p w v)
        rw [up2_at]
      · rw [show va_up fi e (some p) v = fi v from if_neg c, show va_up QW e (w :: QW e) v = QW v from if_neg c, G v hv]
        exact (map_ne (f := fun u => pa u v) (g := fun u => up2 pa w e p u v) (fun u _ => up2_ne (Or.inr c)) 0).symm
  obtain ⟨sp, hwc⟩ := B.2.2.2.2.1 w hw
  first | refine J_aload_n C rfl dX4_count_0 ?_ | refine J_aload_nq C rfl dX4_count_0 ?_ | refine J_aload_nN C rfl dX4_count_0 ?_
  refine J_get C fl_X4_92 (by first | assumption | exact jv_up_at _ _ _ | (simp [jv_up, *]; done)) (by rfl) dX4_count_1 ?_
  first | refine J_astore_nq C (by decide) dX4_count_4 ?_ | refine J_astore_n C (by decide) dX4_count_4 ?_ | refine J_astore_nN C (by decide) dX4_count_4 ?_
  first | refine J_aload_n C rfl dX4_count_5 ?_ | refine J_aload_nq C rfl dX4_count_5 ?_ | refine J_aload_nN C rfl dX4_count_5 ?_
  refine J_ifnull C 17 (by decide) dX4_count_6 (fun z => ?_) (fun q z => ?_)
  · have hne : e ∉ PD w := by
      intro hm
      rw [hn hm] at z
      cases z
    refine J_sub (by exact (And.intro rfl (And.intro rfl (And.intro rfl trivial)))) (K17 none hne)
  · obtain ⟨v0, hv0, rfl⟩ := Option.map_eq_some_iff.mp z
    rw [z]
    have hq := B.2.2.2.2.2.1 w hw 0 v0 hv0
    have hec := B.2.2.2.2.2.2.1 e he
    first | refine J_aload_n C rfl dX4_count_9 ?_ | refine J_aload_nq C rfl dX4_count_9 ?_ | refine J_aload_nN C rfl dX4_count_9 ?_
    refine J_get C fl_X4_96 (by first | assumption | exact jv_up_at _ _ _ | (simp [jv_up, *]; done)) (by rfl) dX4_count_10 ?_
    first | refine J_aload_n C rfl dX4_count_13 ?_ | refine J_aload_nq C rfl dX4_count_13 ?_ | refine J_aload_nN C rfl dX4_count_13 ?_
    by_cases c : v0 = e
    · subst c
      refine J_acmp_eq (rx := some v0) (ry := some v0) C 24 (by decide) dX4_count_14 (fun _ => ?_) (fun z => absurd rfl z)
      have hm := List.mem_of_getElem? hv0
      refine J_sub (by exact (And.intro rfl (And.intro rfl (And.intro rfl (And.intro rfl trivial))))) (K24 0 0 h SP PD QW tm pa nx fi (by omega) (by omega) (fr_rf _ _) B G (fun _ _ => rfl) hv0 (fun v => ⟨Or.inr, fun q => q.elim (fun q => q ▸ hm) id⟩) (by rw [if_pos hm]) (fun _ _ _ => rfl))
    · refine J_acmp_eq (rx := some v0) (ry := some e) C 24 (by decide) dX4_count_14 (fun z => absurd (Option.some.inj z) c) (fun _ => ?_)
      refine J_sub (by exact (And.intro rfl (And.intro rfl (And.intro rfl trivial)))) (K17 none (fun hm => c (Option.some.inj (hv0.symm.trans (hn hm)))))
end COUNT
