/-! RankedSearch: told, word, about -/
theorem dsH_none {ds : dsT} {V : List Int64} (X : isLex ds V) {L : Int64} (h : L ∉ V) : dsH ds L = 0 ∧ dsC ds L = 0 := by
  have hn : ∀ p ∈ ds, L ∉ p.2 := fun p hp z => h ((X.2 L).mpr ⟨p, hp, z⟩)
  refine ⟨?_, ?_⟩
  · unfold dsH
    rw [List.countP_eq_zero]
    intro p hp
    simp only [decide_eq_true_eq]
    exact hn p hp
  · unfold dsC
    have e1 : ds.map (fun p => p.2.count L) = ds.map (fun _ => 0) := List.map_congr_left (fun p hp => List.count_eq_zero_of_not_mem (hn p hp))
    rw [e1]
    clear e1 hn X h
    induction ds with
    | nil => rfl
    | cons p t ih => rw [List.map_cons, List.sum_cons, ih]
theorem text_head (B : Nat → Nat) (n : Nat) : (sp_text B n)[0]? = if n ≤ sp_ws B n 0 then none else some (sp_word B (sp_ws B n 0) (sp_we B n (sp_ws B n 0))) := by
  unfold sp_text
  show (if n ≤ sp_ws B n 0 then _ else _)[0]? = _
  split <;> rfl
section TOLD
variable {l : jL} {h : jH} {r t tb b q ta s a an ap nt : Nat} {tt : Nat → Nat} {f : Nat → Int32} {ds : dsT} {V : List Int64} {j fk : Nat} {fp : Int32} {L : List hiT}
theorem libI_lex (B : libI l h b ds V j) : isLex ds V := by
  obtain ⟨DL, num, wl, da, dd, dc, x, xa, xd, xc, W, SW, SP, lt, len, PD, QW, tot, tm, pa, nx, fi, sf, n, B, B2, B3, B4, B5, B6, B7, B8, rfl⟩ := B
  exact isLex_perm B8 (lf_lex B B2 B4)
def toldA (ds : dsT) (V : List Int64) : Nat → Nat
  | 0 => ds.length
  | 1 => V.length
  | _ => dsN ds
set_option maxHeartbeats 400000 in
theorem c_R_told (I : rkI l h r t tb b q ta tt s a an ap nt f ds V j fk fp L) (x : Int32) : Cx l yX11_told cX11_told 2 (some .int) 6 1 6 [.ref r, .int x] h (fun r9 h1 => h1 = h ∧ ∃ k, k ≤ 2 ∧ x = nI k ∧ r9 = some (.int (nI (toldA ds V k)))) (fun E h1 => E = eIA ∧ h1 = h ∧ ∀ k, k ≤ 2 → x ≠ nI k) := by
  have i1 := I.1
  obtain ⟨DL, num, wl, da, dd, dc, x9, xa, xd, xc, W, SW, SP, lt, len, PD, QW, tot, tm, pa, nx, fi, sf, n, B, B2, B3, B4, B5, B6, B7, B8, rfl⟩ := I.2.2.1
  have b1 := B.1
  have hDL : DL.length = ds.length := by rw [← B8.length_eq]; exact (List.length_map _).symm
  have hnN : n = dsN ds := by rw [B5, lf_len B4, dsN_perm B8]
  refine Cx.of (own := RX11) rfl (by decide) (by exact Nat.le_of_ble_eq_true rfl) (by decide) (fun K hK C D X => ?_)
  have bK := B
  have xK := B.2.2.1
  have x1 := xK.1
  rw [← hK] at bK xK
  refine J_iload_n C rfl dX11_told_0 ?_
  by_cases hx : ∃ k, k ≤ 2 ∧ x = nI k
  · obtain ⟨k, hk, rfl⟩ := hx
    have ht : (nI k).toInt = k := nI_toInt (by omega)
    rcases (show k = 0 ∨ k = 1 ∨ k = 2 by omega) with e | e | e
    · refine J_tableIn C (off := 27) 28 (by rw [ht]; omega) (by rw [ht]; omega) (by rw [ht, e]; rfl) (by decide) dX11_told_1 ?_
      first | refine J_aload_n C rfl dX11_told_28 ?_ | refine J_aload_nq C rfl dX11_told_28 ?_ | refine J_aload_nN C rfl dX11_told_28 ?_
      refine J_get C fl_X11_19 (by first | assumption | exact jv_up_at _ _ _ | (simp [jv_up, *]; done)) (by rfl) dX11_told_29 ?_
      refine J_callV C (c_Lib_documentCount bK) cw_X11_83 (by first | assumption | exact jv_up_at _ _ _ | (simp [jv_up, *]; done)) rfl rfl rfl rfl (by exact Nat.le_of_ble_eq_true rfl) (by decide) (by omega) (by omega) dX11_told_32 ?_
      rintro _ h9 ⟨rfl, e9⟩
      replace e9 := e9.symm
      subst e9
      refine J_iret C D ⟨rfl, k, hk, rfl, by rw [e, hDL]; rfl⟩ (by omega) (by omega) dX11_told_35
    · refine J_tableIn C (off := 35) 36 (by rw [ht]; omega) (by rw [ht]; omega) (by rw [ht, e]; rfl) (by decide) dX11_told_1 ?_
      first | refine J_aload_n C rfl dX11_told_36 ?_ | refine J_aload_nq C rfl dX11_told_36 ?_ | refine J_aload_nN C rfl dX11_told_36 ?_
      refine J_get C fl_X11_19 (by first | assumption | exact jv_up_at _ _ _ | (simp [jv_up, *]; done)) (by rfl) dX11_told_37 ?_
      refine J_get C fl_X11_86 (by first | assumption | exact jv_up_at _ _ _ | (simp [jv_up, *]; done)) (by rfl) dX11_told_40 ?_
      refine J_callV C (c_Lex_size xK) cw_X11_90 (by first | assumption | exact jv_up_at _ _ _ | (simp [jv_up, *]; done)) rfl rfl rfl rfl (by exact Nat.le_of_ble_eq_true rfl) (by decide) (by omega) (by omega) dX11_told_43 ?_
      rintro _ h9 ⟨rfl, e9⟩
      replace e9 := e9.symm
      subst e9
      refine J_iret C D ⟨rfl, k, hk, rfl, by rw [e]; show _ = some (Value.int (nI (W.map lt).length)); rw [List.length_map]⟩ (by omega) (by omega) dX11_told_46
    · refine J_tableIn C (off := 46) 47 (by rw [ht]; omega) (by rw [ht]; omega) (by rw [ht, e]; rfl) (by decide) dX11_told_1 ?_
      first | refine J_aload_n C rfl dX11_told_47 ?_ | refine J_aload_nq C rfl dX11_told_47 ?_ | refine J_aload_nN C rfl dX11_told_47 ?_
      refine J_get C fl_X11_19 (by first | assumption | exact jv_up_at _ _ _ | (simp [jv_up, *]; done)) (by rfl) dX11_told_48 ?_
      refine J_get C fl_X11_95 (by first | assumption | exact jv_up_at _ _ _ | (simp [jv_up, *]; done)) (by rfl) dX11_told_51 ?_
      refine J_iret C D ⟨rfl, k, hk, rfl, by rw [e, hnN]; rfl⟩ (by omega) (by omega) dX11_told_54
  · have z : x.toInt < 0 ∨ 2 < x.toInt := by
      by_cases z : x < 0
      · exact Or.inl (Int32.lt_iff_toInt_lt.mp z)
      · obtain ⟨k, hk, rfl⟩ := nI_of z
        rw [nI_toInt hk]
        refine Or.inr ?_
        have : ¬ k ≤ 2 := fun q => hx ⟨k, q, rfl⟩
        omega
    refine J_tableOut C 55 z (by decide) dX11_told_1 ?_
    refine J_throw C X (is := 98) (text := "what is not 0 to 2") jtw_iae (by decide +kernel) ⟨rfl, rfl, fun k hk e => hx ⟨k, hk, e⟩⟩ (by omega) (by omega) (by omega) (by decide) dX11_told_55 dX11_told_58 dX11_told_59 dX11_told_61 dX11_told_64
theorem c_R_word (I : rkI l h r t tb b q ta tt s a an ap nt f ds V j fk fp L) (x : Int32) : Cn l yX11_word cX11_word 3 (some .long) 5 0 0 [.ref r, .int x] h (fun r9 h1 => h1 = h ∧ ((r9 = some (.long (-1)) ∧ ∀ k, k < V.length → x ≠ nI k) ∨ ∃ k w, x = nI k ∧ V[k]? = some w ∧ r9 = some (.long (sp_turn w 12)))) := by
  have i1 := I.1
  obtain ⟨DL, num, wl, da, dd, dc, x9, xa, xd, xc, W, SW, SP, lt, len, PD, QW, tot, tm, pa, nx, fi, sf, n, B, B2, B3, B4, B5, B6, B7, B8, rfl⟩ := I.2.2.1
  have b1 := B.1
  have hWl := al_len B.2.2.1.2.1
  refine Cn.of (own := RX11) rfl (by decide) (by exact Nat.le_of_ble_eq_true rfl) (by decide) (fun K hK C D _ => ?_)
  have xK := B.2.2.1
  have x1 := xK.1
  rw [← hK] at xK
  first | refine J_aload_n C rfl dX11_word_0 ?_ | refine J_aload_nq C rfl dX11_word_0 ?_ | refine J_aload_nN C rfl dX11_word_0 ?_
  refine J_get C fl_X11_19 (by first | assumption | exact jv_up_at _ _ _ | (simp [jv_up, *]; done)) (by rfl) dX11_word_1 ?_
  refine J_get C fl_X11_86 (by first | assumption | exact jv_up_at _ _ _ | (simp [jv_up, *]; done)) (by rfl) dX11_word_4 ?_
  refine J_iload_n C rfl dX11_word_7 ?_
  refine J_callV C (c_Lex_wordAt xK x) cw_X11_100 (by first | assumption | exact jv_up_at _ _ _ | (simp [jv_up, *]; done)) rfl rfl rfl rfl (by exact Nat.le_of_ble_eq_true rfl) (by decide) (by omega) (by omega) dX11_word_8 ?_
  rintro _ h9 ⟨rfl, e9⟩
  replace e9 := e9.symm
  subst e9
  have hw : (wat W x = none ∧ ∀ k, k < W.length → x ≠ nI k) ∨ ∃ k w, x = nI k ∧ W[k]? = some w ∧ wat W x = some w := by
    by_cases z : x < 0
    · exact Or.inl ⟨if_pos z, fun k hk e => by rw [e] at z; exact nI_pos (by omega) z⟩
    · obtain ⟨k, hk, rfl⟩ := nI_of z
      rw [wat_nI W hk]
      cases hwk : W[k]? with
      | none => exact Or.inl ⟨rfl, fun m hm e => by
          have := nI_inj hk (by omega) e
          have := List.getElem?_eq_none_iff.mp hwk
          omega⟩
      | some w => exact Or.inr ⟨k, w, rfl, hwk, rfl⟩
  first | refine J_astore_nq C (by decide) dX11_word_11 ?_ | refine J_astore_n C (by decide) dX11_word_11 ?_ | refine J_astore_nN C (by decide) dX11_word_11 ?_
  first | refine J_aload_n C rfl dX11_word_12 ?_ | refine J_aload_nq C rfl dX11_word_12 ?_ | refine J_aload_nN C rfl dX11_word_12 ?_
  rcases hw with ⟨e, hno⟩ | ⟨k, w, rfl, hk, e⟩
  · rw [e]
    refine J_ifnonnull (x := none) C 22 (by decide) dX11_word_13 (fun q z => by cases z) (fun _ => ?_)
    refine J_ldc2 C kl_X11_104 dX11_word_16 ?_
    refine J_goto C 29 (by decide) dX11_word_19 ?_
    refine J_lret C D ⟨rfl, Or.inl ⟨rfl, fun k hk => hno k (by rw [List.length_map] at hk; exact hk)⟩⟩ (by omega) (by omega) dX11_word_29
  · rw [e]
    obtain ⟨sp, hwc⟩ := B.2.2.2.2.1 w (List.mem_of_getElem? hk)
    refine J_ifnonnull (x := some w) C 22 (by decide) dX11_word_13 (fun _ _ => ?_) (fun z => by cases z)
    first | refine J_aload_n C rfl dX11_word_22 ?_ | refine J_aload_nq C rfl dX11_word_22 ?_ | refine J_aload_nN C rfl dX11_word_22 ?_
    refine J_get C fl_X11_106 (by first | assumption | exact jv_up_at _ _ _ | (simp [jv_up, *]; done)) (by rfl) dX11_word_23 ?_
    refine J_callS C (c_firstLowest _ _ (lt w)) cw_X11_112 rfl rfl (by exact Nat.le_of_ble_eq_true rfl) (by decide) (by omega) (by omega) dX11_word_26 ?_
    rintro _ h9 ⟨rfl, e9⟩
    replace e9 := e9.symm
    subst e9
    refine J_lret C D ⟨rfl, Or.inr ⟨k, lt w, rfl, by rw [List.getElem?_map, hk]; rfl, rfl⟩⟩ (by omega) (by omega) dX11_word_29
end TOLD
