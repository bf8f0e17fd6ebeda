/-! RankedSearch: the plain methods -/
abbrev eIA : String := "java/lang/IllegalArgumentException"
abbrev eIO : String := "java/lang/IndexOutOfBoundsException"
theorem nI_inj {a b : Nat} (ha : a < 2 ^ 31) (hb : b < 2 ^ 31) (e : nI a = nI b) : a = b := by
  have := congrArg Int32.toNatClampNeg e
  rwa [nI_clamp ha, nI_clamp hb] at this
section SIMPLE
variable {l : jL} {h : jH} {r t tb b q ta s a an ap nt : Nat} {tt : Nat → Nat} {f : Nat → Int32} {ds : dsT} {V : List Int64} {j fk : Nat} {fp : Int32} {L : List hiT}
theorem c_R_number (x : Int32) : Cx l yX11_requireNumber cX11_requireNumber 1 none 6 1 6 [.int x] h (fun r h1 => r = none ∧ h1 = h ∧ ∃ k, k < 10000 ∧ x = nI k) (fun E h1 => E = eIA ∧ h1 = h ∧ ∀ k, k < 10000 → x ≠ nI k) := by
  refine Cx.of (own := RX11) rfl (by decide) (by exact Nat.le_of_ble_eq_true rfl) (by decide) (fun K hK C D X => ?_)
  refine J_iload_n C rfl dX11_requireNumber_0 ?_
  refine J_if_lt C 11 (by decide) dX11_requireNumber_1 (fun z1 => ?_) (fun z1 => ?_)
  · refine J_throw C X (is := 189) (text := "number is not 0 to 9999") jtw_iae (by decide +kernel) ⟨rfl, rfl, fun k hk e => by rw [e] at z1; exact nI_pos (by omega) z1⟩ (by omega) (by omega) (by omega) (by decide) dX11_requireNumber_11 dX11_requireNumber_14 dX11_requireNumber_15 dX11_requireNumber_17 dX11_requireNumber_20
  · obtain ⟨k, hk, rfl⟩ := nI_of z1
    refine J_iload_n C rfl dX11_requireNumber_4 ?_
    refine J_sipush C (v := nI 9999) (by decide) dX11_requireNumber_5 ?_
    refine J_nicmp_le C (by first | omega | (dsimp only; omega)) (by first | omega | (dsimp only; omega)) 21 (by decide) dX11_requireNumber_8 (fun z2 => ?_) (fun z2 => ?_)
    · refine J_vret C D ⟨rfl, rfl, k, by omega, rfl⟩ (by omega) (by omega) dX11_requireNumber_21
    · refine J_throw C X (is := 189) (text := "number is not 0 to 9999") jtw_iae (by decide +kernel) ⟨rfl, rfl, fun m hm e => by have e := nI_inj (by omega) (by omega) e; omega⟩ (by omega) (by omega) (by omega) (by decide) dX11_requireNumber_11 dX11_requireNumber_14 dX11_requireNumber_15 dX11_requireNumber_17 dX11_requireNumber_20
theorem c_R_findable (x : Int32) : Cx l yX11_requireFindable cX11_requireFindable 1 none 6 1 6 [.int x] h (fun r h1 => r = none ∧ h1 = h ∧ ∃ k, 1 ≤ k ∧ k ≤ 50 ∧ x = nI k) (fun E h1 => E = eIA ∧ h1 = h ∧ ∀ k, 1 ≤ k → k ≤ 50 → x ≠ nI k) := by
  refine Cx.of (own := RX11) rfl (by decide) (by exact Nat.le_of_ble_eq_true rfl) (by decide) (fun K hK C D X => ?_)
  refine J_iload_n C rfl dX11_requireFindable_0 ?_
  refine J_iconst C (v := nI 1) (by decide) dX11_requireFindable_1 ?_
  refine J_icmp_lt C 11 (by decide) dX11_requireFindable_2 (fun z1 => ?_) (fun z1 => ?_)
  · refine J_throw C X (is := 191) (text := "k is not 1 to 50") jtw_iae (by decide +kernel) ⟨rfl, rfl, fun k h1 hk e => by rw [e] at z1; exact absurd (nI_ltI (by omega) (by decide) |>.mp z1) (by omega)⟩ (by omega) (by omega) (by omega) (by decide) dX11_requireFindable_11 dX11_requireFindable_14 dX11_requireFindable_15 dX11_requireFindable_17 dX11_requireFindable_20
  · obtain ⟨k, hk, rfl⟩ := nI_of (x := x) (fun z => z1 (Int32.lt_trans z (by decide)))
    have z1 : 1 ≤ k := Nat.le_of_not_lt (fun z => z1 (nI_lt (a := k) (b := 1) z (by decide)))
    refine J_iload_n C rfl dX11_requireFindable_5 ?_
    refine J_bipush C (v := nI 50) (by decide) dX11_requireFindable_6 ?_
    refine J_nicmp_le C (by first | omega | (dsimp only; omega)) (by first | omega | (dsimp only; omega)) 21 (by decide) dX11_requireFindable_8 (fun z2 => ?_) (fun z2 => ?_)
    · refine J_vret C D ⟨rfl, rfl, k, z1, z2, rfl⟩ (by omega) (by omega) dX11_requireFindable_21
    · refine J_throw C X (is := 191) (text := "k is not 1 to 50") jtw_iae (by decide +kernel) ⟨rfl, rfl, fun m h1 hm e => by have e := nI_inj (by omega) (by omega) e; omega⟩ (by omega) (by omega) (by omega) (by decide) dX11_requireFindable_11 dX11_requireFindable_14 dX11_requireFindable_15 dX11_requireFindable_17 dX11_requireFindable_20
theorem c_R_feed (I : rkI l h r t tb b q ta tt s a an ap nt f ds V j fk fp L) (x : Int32) (v : Int64) : Cx l yX11_feed cX11_feed 4 (some .int) 6 1 6 [.ref r, .int x, .long v] h (fun r9 h1 => ∃ k, 1 ≤ k ∧ k ≤ 8 ∧ x = nI k ∧ ((400 < nt + k ∧ r9 = some (.int (-1)) ∧ h1 = h) ∨ (nt + k ≤ 400 ∧ r9 = some (.int (nI (nt + k))) ∧ rkI l h1 r t tb b q ta tt s a an ap (nt + k) (sp_app f nt v k) ds V j fk fp L ∧ fr (rkS h t tb q tt s a an ap) h h1))) (fun E h1 => E = eIA ∧ h1 = h ∧ ∀ k, 1 ≤ k → k ≤ 8 → x ≠ nI k) := by
  have i1 := I.1
  have T := I.2.1
  have T1 := T.1
  have ntb : t ≠ tb := jv_neA T.1 T.2.1
  refine Cx.of (own := RX11) rfl (by decide) (by exact Nat.le_of_ble_eq_true rfl) (by decide) (fun K hK C D X => ?_)
  refine J_iload_n C rfl dX11_feed_0 ?_
  refine J_iconst C (v := nI 1) (by decide) dX11_feed_1 ?_
  refine J_icmp_lt C 11 (by decide) dX11_feed_2 (fun z1 => ?_) (fun z1 => ?_)
  · refine J_throw C X (is := 46) (text := "n is not 1 to 8") jtw_iae (by decide +kernel) ⟨rfl, rfl, fun k h1 hk e => by rw [e] at z1; exact absurd (nI_ltI (by omega) (by decide) |>.mp z1) (by omega)⟩ (by omega) (by omega) (by omega) (by decide) dX11_feed_11 dX11_feed_14 dX11_feed_15 dX11_feed_17 dX11_feed_20
  · obtain ⟨k, hk, rfl⟩ := nI_of (x := x) (fun z => z1 (Int32.lt_trans z (by decide)))
    have z1 : 1 ≤ k := Nat.le_of_not_lt (fun z => z1 (nI_lt (a := k) (b := 1) z (by decide)))
    refine J_iload_n C rfl dX11_feed_5 ?_
    refine J_bipush C (v := nI 8) (by decide) dX11_feed_6 ?_
    refine J_nicmp_le C (by first | omega | (dsimp only; omega)) (by first | omega | (dsimp only; omega)) 21 (by decide) dX11_feed_8 (fun z2 => ?_) (fun z2 => ?_)
    · first | refine J_aload_n C rfl dX11_feed_21 ?_ | refine J_aload_nq C rfl dX11_feed_21 ?_ | refine J_aload_nN C rfl dX11_feed_21 ?_
      refine J_get C fl_X11_12 (by first | assumption | exact jv_up_at _ _ _ | (simp [jv_up, *]; done)) (by rfl) dX11_feed_22 ?_
      refine J_iload_n C rfl dX11_feed_25 ?_
      refine J_lload_n C rfl dX11_feed_26 ?_
      refine J_callV C (c_Tape_append _ _ t tb nt f T ntb k v ⟨z1, z2⟩) cw_X11_51 (by first | assumption | exact jv_up_at _ _ _ | (simp [jv_up, *]; done)) rfl rfl rfl rfl (by exact Nat.le_of_ble_eq_true rfl) (by decide) (by omega) (by omega) dX11_feed_27 ?_
      rintro _ h1 (⟨c, rfl, rfl⟩ | ⟨c, rfl, rfl⟩)
      · refine J_bif_eq C 43 (by decide) dX11_feed_30 (fun z3 => ?_) (fun z3 => ?_)
        · refine J_iconst C (v := (-1)) (by decide) dX11_feed_43 ?_
          refine J_iret C D ⟨k, z1, z2, rfl, Or.inl ⟨c, rfl, rfl⟩⟩ (by omega) (by omega) dX11_feed_44
        · cases z3
      · refine J_bif_eq C 43 (by decide) dX11_feed_30 (fun z3 => ?_) (fun z3 => ?_)
        · cases z3
        · have T2 : tp_is (jv_up (jv_up h tb (.inl (1, 400, .inl (sp_app f nt v k)))) t (.inr (7, [.ref tb, .int (nI (nt + k))]))) t tb (nt + k) (sp_app f nt v k) := ⟨jv_up_at _ _ _, jv_up_of ntb.symm (jv_up_at _ _ _), c⟩
          have T21 := T2.1
          have R9 := rk_tape I (fr_tr (fr_up (Or.inr rfl)) (fr_up (Or.inl rfl))) T2
          have i2 := R9.1.1
          first | refine J_aload_n C rfl dX11_feed_33 ?_ | refine J_aload_nq C rfl dX11_feed_33 ?_ | refine J_aload_nN C rfl dX11_feed_33 ?_
          refine J_get C fl_X11_12 (by first | assumption | exact jv_up_at _ _ _ | (simp [jv_up, *]; done)) (by rfl) dX11_feed_34 ?_
          refine J_callV C (c_Tape_length _ _ t tb (nt + k) (sp_app f nt v k) T2) cw_X11_55 (by first | assumption | exact jv_up_at _ _ _ | (simp [jv_up, *]; done)) rfl rfl rfl rfl (by exact Nat.le_of_ble_eq_true rfl) (by decide) (by omega) (by omega) dX11_feed_37 ?_
          rintro _ h9 ⟨rfl, e9⟩
          replace e9 := e9.symm
          subst e9
          refine J_goto C 44 (by decide) dX11_feed_40 ?_
          refine J_iret C D ⟨k, z1, z2, rfl, Or.inr ⟨c, rfl, R9.1, R9.2⟩⟩ (by omega) (by omega) dX11_feed_44
    · refine J_throw C X (is := 46) (text := "n is not 1 to 8") jtw_iae (by decide +kernel) ⟨rfl, rfl, fun m h1 hm e => by have e := nI_inj (by omega) (by omega) e; omega⟩ (by omega) (by omega) (by omega) (by decide) dX11_feed_11 dX11_feed_14 dX11_feed_15 dX11_feed_17 dX11_feed_20
theorem c_R_wipe (I : rkI l h r t tb b q ta tt s a an ap nt f ds V j fk fp L) : Cn l yX11_wipe cX11_wipe 2 (some .int) 2 0 0 [.ref r] h (fun r9 h1 => r9 = some (.int (nI nt)) ∧ rkI l h1 r t tb b q ta tt s a an ap 0 f ds V j fk fp L ∧ fr (rkS h t tb q tt s a an ap) h h1) := by
  have i1 := I.1
  have T := I.2.1
  have T1 := T.1
  have ntb : t ≠ tb := jv_neA T.1 T.2.1
  refine Cn.of (own := RX11) rfl (by decide) (by exact Nat.le_of_ble_eq_true rfl) (by decide) (fun K hK C D _ => ?_)
  first | refine J_aload_n C rfl dX11_wipe_0 ?_ | refine J_aload_nq C rfl dX11_wipe_0 ?_ | refine J_aload_nN C rfl dX11_wipe_0 ?_
  refine J_get C fl_X11_12 (by first | assumption | exact jv_up_at _ _ _ | (simp [jv_up, *]; done)) (by rfl) dX11_wipe_1 ?_
  refine J_callV C (c_Tape_length _ _ t tb nt f T) cw_X11_55 (by first | assumption | exact jv_up_at _ _ _ | (simp [jv_up, *]; done)) rfl rfl rfl rfl (by exact Nat.le_of_ble_eq_true rfl) (by decide) (by omega) (by omega) dX11_wipe_4 ?_
  rintro _ h9 ⟨rfl, e9⟩
  replace e9 := e9.symm
  subst e9
  refine J_istore_n C (by decide) dX11_wipe_7 ?_
  first | refine J_aload_n C rfl dX11_wipe_8 ?_ | refine J_aload_nq C rfl dX11_wipe_8 ?_ | refine J_aload_nN C rfl dX11_wipe_8 ?_
  refine J_get C fl_X11_12 (by first | assumption | exact jv_up_at _ _ _ | (simp [jv_up, *]; done)) (by rfl) dX11_wipe_9 ?_
  refine J_callV C (c_Tape_empty _ _ t tb nt f T) cw_X11_59 (by first | assumption | exact jv_up_at _ _ _ | (simp [jv_up, *]; done)) rfl rfl rfl rfl (by exact Nat.le_of_ble_eq_true rfl) (by decide) (by omega) (by omega) dX11_wipe_12 ?_
  rintro _ h1 ⟨rfl, rfl⟩
  refine J_iload_n C rfl dX11_wipe_15 ?_
  refine J_iret C D ⟨rfl, rk_tape I (fr_up (Or.inl rfl)) ⟨jv_up_at _ _ _, jv_up_of ntb.symm T.2.1, Nat.zero_le _⟩⟩ (by omega) (by omega) dX11_wipe_16
theorem c_R_fault (I : rkI l h r t tb b q ta tt s a an ap nt f ds V j fk fp L) : Cn l yX11_fault cX11_fault 1 (some .int) 1 0 0 [.ref r] h (fun r9 h1 => r9 = some (.int (nI fk)) ∧ h1 = h) := by
  have i1 := I.1
  obtain ⟨cur, qs, Y⟩ := I.2.2.2.1
  have y1 := Y.1
  refine Cn.of (own := RX11) rfl (by decide) (by exact Nat.le_of_ble_eq_true rfl) (by decide) (fun K hK C D _ => ?_)
  first | refine J_aload_n C rfl dX11_fault_0 ?_ | refine J_aload_nq C rfl dX11_fault_0 ?_ | refine J_aload_nN C rfl dX11_fault_0 ?_
  refine J_get C fl_X11_26 (by first | assumption | exact jv_up_at _ _ _ | (simp [jv_up, *]; done)) (by rfl) dX11_fault_1 ?_
  refine J_get C fl_X11_153 (by first | assumption | exact jv_up_at _ _ _ | (simp [jv_up, *]; done)) (by rfl) dX11_fault_4 ?_
  refine J_iret C D ⟨rfl, rfl⟩ (by omega) (by omega) dX11_fault_7
theorem c_R_place (I : rkI l h r t tb b q ta tt s a an ap nt f ds V j fk fp L) : Cn l yX11_place cX11_place 1 (some .int) 1 0 0 [.ref r] h (fun r9 h1 => r9 = some (.int fp) ∧ h1 = h) := by
  have i1 := I.1
  obtain ⟨cur, qs, Y⟩ := I.2.2.2.1
  have y1 := Y.1
  refine Cn.of (own := RX11) rfl (by decide) (by exact Nat.le_of_ble_eq_true rfl) (by decide) (fun K hK C D _ => ?_)
  first | refine J_aload_n C rfl dX11_place_0 ?_ | refine J_aload_nq C rfl dX11_place_0 ?_ | refine J_aload_nN C rfl dX11_place_0 ?_
  refine J_get C fl_X11_26 (by first | assumption | exact jv_up_at _ _ _ | (simp [jv_up, *]; done)) (by rfl) dX11_place_1 ?_
  refine J_get C fl_X11_163 (by first | assumption | exact jv_up_at _ _ _ | (simp [jv_up, *]; done)) (by rfl) dX11_place_4 ?_
  refine J_iret C D ⟨rfl, rfl⟩ (by omega) (by omega) dX11_place_7
theorem c_R_hit (I : rkI l h r t tb b q ta tt s a an ap nt f ds V j fk fp L) (x : Int32) : Cx l yX11_hit cX11_hit 2 (some .int) 6 1 6 [.ref r, .int x] h (fun r9 h1 => h1 = h ∧ ∃ k y, x = nI k ∧ L[k]? = some y ∧ r9 = some (.int (nI y.1))) (fun E h1 => E = eIO ∧ h1 = h ∧ ∀ k, k < L.length → x ≠ nI k) := by
  have i1 := I.1
  obtain ⟨lim, fN, fP, B, B2⟩ := I.2.2.2.2.2.1
  have b1 := B.1
  have hL : L.length ≤ 50 := Nat.le_trans B.2.2.2.2.1 B.2.2.2.2.2
  refine Cx.of (own := RX11) rfl (by decide) (by exact Nat.le_of_ble_eq_true rfl) (by decide) (fun K hK C D X => ?_)
  first | refine J_aload_n C rfl dX11_hit_0 ?_ | refine J_aload_nq C rfl dX11_hit_0 ?_ | refine J_aload_nN C rfl dX11_hit_0 ?_
  refine J_get C fl_X11_40 (by first | assumption | exact jv_up_at _ _ _ | (simp [jv_up, *]; done)) (by rfl) dX11_hit_1 ?_
  refine J_iload_n C rfl dX11_hit_4 ?_
  refine J_callV C (c_Best_has B x) cw_X11_175 (by first | assumption | exact jv_up_at _ _ _ | (simp [jv_up, *]; done)) rfl rfl rfl rfl (by exact Nat.le_of_ble_eq_true rfl) (by decide) (by omega) (by omega) dX11_hit_5 ?_
  rintro _ h9 ⟨rfl, e9⟩
  replace e9 := e9.symm
  subst e9
  refine J_bif_ne C 21 (by decide) dX11_hit_8 (fun z => ?_) (fun z => ?_)
  · have z := of_decide_eq_true z
    obtain ⟨k, hk, rfl⟩ := nI_of (x := x) (Int32.not_lt.mpr z.1)
    have hkl : k < L.length := nI_ltI (by omega) (by omega) |>.mp z.2
    have hx := List.getElem?_eq_getElem hkl
    first | refine J_aload_n C rfl dX11_hit_21 ?_ | refine J_aload_nq C rfl dX11_hit_21 ?_ | refine J_aload_nN C rfl dX11_hit_21 ?_
    refine J_get C fl_X11_40 (by first | assumption | exact jv_up_at _ _ _ | (simp [jv_up, *]; done)) (by rfl) dX11_hit_22 ?_
    refine J_iload_n C rfl dX11_hit_25 ?_
    refine J_callV C (c_Best_numberAt B k (by omega)) cw_X11_183 (by first | assumption | exact jv_up_at _ _ _ | (simp [jv_up, *]; done)) rfl rfl rfl rfl (by exact Nat.le_of_ble_eq_true rfl) (by decide) (by omega) (by omega) dX11_hit_26 ?_
    rintro _ h9 ⟨rfl, e9⟩
    replace e9 := e9.symm
    subst e9
    refine J_iret C D ⟨rfl, k, _, rfl, hx, by rw [(B2 k _ hx).1]⟩ (by omega) (by omega) dX11_hit_29
  · have z := of_decide_eq_false z
    refine J_throw C X (is := 180) (text := "no document was found at this place") jtw_ioo (by decide +kernel) ⟨rfl, rfl, fun k hk e => z (by rw [e]; exact ⟨nI_pos' (by omega), nI_lt hk (by omega)⟩)⟩ (by omega) (by omega) (by omega) (by decide) dX11_hit_11 dX11_hit_14 dX11_hit_15 dX11_hit_17 dX11_hit_20
theorem c_R_score (I : rkI l h r t tb b q ta tt s a an ap nt f ds V j fk fp L) (x : Int32) : Cx l yX11_score cX11_score 2 (some .int) 6 1 6 [.ref r, .int x] h (fun r9 h1 => h1 = h ∧ ∃ k y, x = nI k ∧ L[k]? = some y ∧ r9 = some (.int y.2)) (fun E h1 => E = eIO ∧ h1 = h ∧ ∀ k, k < L.length → x ≠ nI k) := by
  have i1 := I.1
  obtain ⟨lim, fN, fP, B, B2⟩ := I.2.2.2.2.2.1
  have b1 := B.1
  have hL : L.length ≤ 50 := Nat.le_trans B.2.2.2.2.1 B.2.2.2.2.2
  refine Cx.of (own := RX11) rfl (by decide) (by exact Nat.le_of_ble_eq_true rfl) (by decide) (fun K hK C D X => ?_)
  first | refine J_aload_n C rfl dX11_score_0 ?_ | refine J_aload_nq C rfl dX11_score_0 ?_ | refine J_aload_nN C rfl dX11_score_0 ?_
  refine J_get C fl_X11_40 (by first | assumption | exact jv_up_at _ _ _ | (simp [jv_up, *]; done)) (by rfl) dX11_score_1 ?_
  refine J_iload_n C rfl dX11_score_4 ?_
  refine J_callV C (c_Best_has B x) cw_X11_175 (by first | assumption | exact jv_up_at _ _ _ | (simp [jv_up, *]; done)) rfl rfl rfl rfl (by exact Nat.le_of_ble_eq_true rfl) (by decide) (by omega) (by omega) dX11_score_5 ?_
  rintro _ h9 ⟨rfl, e9⟩
  replace e9 := e9.symm
  subst e9
  refine J_bif_ne C 21 (by decide) dX11_score_8 (fun z => ?_) (fun z => ?_)
  · have z := of_decide_eq_true z
    obtain ⟨k, hk, rfl⟩ := nI_of (x := x) (Int32.not_lt.mpr z.1)
    have hkl : k < L.length := nI_ltI (by omega) (by omega) |>.mp z.2
    have hx := List.getElem?_eq_getElem hkl
    first | refine J_aload_n C rfl dX11_score_21 ?_ | refine J_aload_nq C rfl dX11_score_21 ?_ | refine J_aload_nN C rfl dX11_score_21 ?_
    refine J_get C fl_X11_40 (by first | assumption | exact jv_up_at _ _ _ | (simp [jv_up, *]; done)) (by rfl) dX11_score_22 ?_
    refine J_iload_n C rfl dX11_score_25 ?_
    refine J_callV C (c_Best_pointsAt B k (by omega)) cw_X11_186 (by first | assumption | exact jv_up_at _ _ _ | (simp [jv_up, *]; done)) rfl rfl rfl rfl (by exact Nat.le_of_ble_eq_true rfl) (by decide) (by omega) (by omega) dX11_score_26 ?_
    rintro _ h9 ⟨rfl, e9⟩
    replace e9 := e9.symm
    subst e9
    refine J_iret C D ⟨rfl, k, _, rfl, hx, by rw [(B2 k _ hx).2.1]⟩ (by omega) (by omega) dX11_score_29
  · have z := of_decide_eq_false z
    refine J_throw C X (is := 180) (text := "no document was found at this place") jtw_ioo (by decide +kernel) ⟨rfl, rfl, fun k hk e => z (by rw [e]; exact ⟨nI_pos' (by omega), nI_lt hk (by omega)⟩)⟩ (by omega) (by omega) (by omega) (by decide) dX11_score_11 dX11_score_14 dX11_score_15 dX11_score_17 dX11_score_20
end SIMPLE
