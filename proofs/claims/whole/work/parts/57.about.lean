/-! RankedSearch: about -/
def aboutA (ds : dsT) (o : Option Int64) (k : Nat) : Int32 := match o with
  | none => -1
  | some w => nI (if k = 0 then dsH ds w else if k = 1 then sp_rar ds.length (dsH ds w) else dsC ds w)
section ABOUT
variable {l : jL} {h : jH} {r t tb b q ta s a an ap nt : Nat} {tt : Nat → Nat} {f : Nat → Int32} {ds : dsT} {V : List Int64} {j fk : Nat} {fp : Int32} {L : List hiT}
set_option maxHeartbeats 400000 in
theorem c_R_about (I : rkI l h r t tb b q ta tt s a an ap nt f ds V j fk fp L) (x : Int32) : Cx l yX11_about cX11_about 4 (some .int) 8 1 6 [.ref r, .int x] h (fun r9 h1 => h1 = h ∧ ∃ k, k ≤ 2 ∧ x = nI k ∧ r9 = some (.int (aboutA ds (sp_text (sp_B f) nt)[0]? k))) (fun E h1 => E = eIA ∧ h1 = h ∧ ∀ k, k ≤ 2 → x ≠ nI k) := by
  have i1 := I.1
  have T := I.2.1
  have T1 := T.1
  have hnt := T.2.2
  have XL := libI_lex I.2.2.1
  have hds := I.2.2.2.2.2.2.2.2
  obtain ⟨DL, num, wl, da, dd, dc, x9, xa, xd, xc, W, SW, SP, lt, len, PD, QW, tot, tm, pa, nx, fi, sf, n, B, B2, B3, B4, B5, B6, B7, B8, rfl⟩ := I.2.2.1
  have b1 := B.1
  have hDL : DL.length = ds.length := by rw [← B8.length_eq]; exact (List.length_map _).symm
  refine Cx.of (own := RX11) rfl (by decide) (by exact Nat.le_of_ble_eq_true rfl) (by decide) (fun K hK C D X => ?_)
  have bK := B
  have xK := B.2.2.1
  have x1 := xK.1
  rw [← hK] at bK xK
  refine J_iload_n C rfl dX11_about_0 ?_
  refine J_if_lt C 9 (by decide) dX11_about_1 (fun z1 => ?_) (fun z1 => ?_)
  · refine J_throw C X (is := 98) (text := "what is not 0 to 2") jtw_iae (by decide +kernel) ⟨rfl, rfl, fun k hk e => by rw [e] at z1; exact nI_pos (by omega) z1⟩ (by omega) (by omega) (by omega) (by decide) dX11_about_9 dX11_about_12 dX11_about_13 dX11_about_15 dX11_about_18
  · obtain ⟨k, hk, rfl⟩ := nI_of z1
    have ht : (nI k).toInt = k := nI_toInt (by omega)
    refine J_iload_n C rfl dX11_about_4 ?_
    refine J_iconst C (v := nI 2) (by decide) dX11_about_5 ?_
    refine J_nicmp_le C (by first | omega | (dsimp only; omega)) (by first | omega | (dsimp only; omega)) 19 (by decide) dX11_about_6 (fun z2 => ?_) (fun z2 => ?_)
    · have ws := sp_ws_le (sp_B f) (Nat.zero_le nt)
      have we := sp_we_le (sp_B f) ws.2
      first | refine J_aload_n C rfl dX11_about_19 ?_ | refine J_aload_nq C rfl dX11_about_19 ?_ | refine J_aload_nN C rfl dX11_about_19 ?_
      refine J_get C fl_X11_12 (by first | assumption | exact jv_up_at _ _ _ | (simp [jv_up, *]; done)) (by rfl) dX11_about_20 ?_
      refine J_iconst C (v := nI 0) (by decide) dX11_about_23 ?_
      refine J_callV C (c_Tape_wordStart _ _ t tb nt f T 0 (Nat.zero_le _)) cw_X11_118 (by first | assumption | exact jv_up_at _ _ _ | (simp [jv_up, *]; done)) rfl rfl rfl rfl (by exact Nat.le_of_ble_eq_true rfl) (by decide) (by omega) (by omega) dX11_about_24 ?_
      rintro _ h9 ⟨rfl, e9⟩
      replace e9 := e9.symm
      subst e9
      refine J_istore_n C (by decide) dX11_about_27 ?_
      refine J_iload_n C rfl dX11_about_28 ?_
      first | refine J_aload_n C rfl dX11_about_29 ?_ | refine J_aload_nq C rfl dX11_about_29 ?_ | refine J_aload_nN C rfl dX11_about_29 ?_
      refine J_get C fl_X11_12 (by first | assumption | exact jv_up_at _ _ _ | (simp [jv_up, *]; done)) (by rfl) dX11_about_30 ?_
      refine J_callV C (c_Tape_length _ _ t tb nt f T) cw_X11_55 (by first | assumption | exact jv_up_at _ _ _ | (simp [jv_up, *]; done)) rfl rfl rfl rfl (by exact Nat.le_of_ble_eq_true rfl) (by decide) (by omega) (by omega) dX11_about_33 ?_
      rintro _ h9 ⟨rfl, e9⟩
      replace e9 := e9.symm
      subst e9
      refine J_nicmp_lt C (by first | omega | (dsimp only; omega)) (by first | omega | (dsimp only; omega)) 41 (by decide) dX11_about_36 (fun z3 => ?_) (fun z3 => ?_)
      · have hh : (sp_text (sp_B f) nt)[0]? = some (sp_word (sp_B f) (sp_ws (sp_B f) nt 0) (sp_we (sp_B f) nt (sp_ws (sp_B f) nt 0))) := by rw [text_head, if_neg (by omega)]
        have we2 := we.2
        first | refine J_aload_n C rfl dX11_about_41 ?_ | refine J_aload_nq C rfl dX11_about_41 ?_ | refine J_aload_nN C rfl dX11_about_41 ?_
        refine J_get C fl_X11_19 (by first | assumption | exact jv_up_at _ _ _ | (simp [jv_up, *]; done)) (by rfl) dX11_about_42 ?_
        refine J_get C fl_X11_86 (by first | assumption | exact jv_up_at _ _ _ | (simp [jv_up, *]; done)) (by rfl) dX11_about_45 ?_
        first | refine J_aload_n C rfl dX11_about_48 ?_ | refine J_aload_nq C rfl dX11_about_48 ?_ | refine J_aload_nN C rfl dX11_about_48 ?_
        refine J_get C fl_X11_12 (by first | assumption | exact jv_up_at _ _ _ | (simp [jv_up, *]; done)) (by rfl) dX11_about_49 ?_
        refine J_iload_n C rfl dX11_about_52 ?_
        first | refine J_aload_n C rfl dX11_about_53 ?_ | refine J_aload_nq C rfl dX11_about_53 ?_ | refine J_aload_nN C rfl dX11_about_53 ?_
        refine J_get C fl_X11_12 (by first | assumption | exact jv_up_at _ _ _ | (simp [jv_up, *]; done)) (by rfl) dX11_about_54 ?_
        refine J_iload_n C rfl dX11_about_57 ?_
        refine J_callV C (c_Tape_wordEnd _ _ t tb nt f T (sp_ws (sp_B f) nt 0) ws.2) cw_X11_122 (by first | assumption | exact jv_up_at _ _ _ | (simp [jv_up, *]; done)) rfl rfl rfl rfl (by exact Nat.le_of_ble_eq_true rfl) (by decide) (by omega) (by omega) dX11_about_58 ?_
        rintro _ h9 ⟨rfl, e9⟩
        replace e9 := e9.symm
        subst e9
        refine J_callV C (c_Tape_lettersOf _ _ t tb nt f T (sp_ws (sp_B f) nt 0) (sp_we (sp_B f) nt (sp_ws (sp_B f) nt 0)) we.1 we.2) cw_X11_125 (by first | assumption | exact jv_up_at _ _ _ | (simp [jv_up, *]; done)) rfl rfl rfl rfl (by exact Nat.le_of_ble_eq_true rfl) (by decide) (by omega) (by omega) dX11_about_61 ?_
        rintro _ h9 ⟨rfl, e9⟩
        replace e9 := e9.symm
        subst e9
        generalize sp_word (sp_B f) (sp_ws (sp_B f) nt 0) (sp_we (sp_B f) nt (sp_ws (sp_B f) nt 0)) = w0 at hh
        refine J_callV C (c_Lex_wordOf xK w0) cw_X11_129 (by first | assumption | exact jv_up_at _ _ _ | (simp [jv_up, *]; done)) rfl rfl rfl rfl (by exact Nat.le_of_ble_eq_true rfl) (by decide) (by omega) (by omega) dX11_about_64 ?_
        rintro _ h9 ⟨e9, (⟨w, hw, hl, rfl⟩ | ⟨hno, rfl⟩)⟩
        · replace e9 := e9.symm
          subst e9
          obtain ⟨sp, hwc⟩ := B.2.2.2.2.1 w hw
          have hp := lf_hold B B4 hw
          rw [dsH_perm B8] at hp
          have hc := lf_tot B B4 hw
          rw [dsC_perm B8] at hc
          have hle : dsH ds (lt w) ≤ ds.length := List.countP_le_length
          first | refine J_astore_nq C (by decide) dX11_about_67 ?_ | refine J_astore_n C (by decide) dX11_about_67 ?_ | refine J_astore_nN C (by decide) dX11_about_67 ?_
          first | refine J_aload_n C rfl dX11_about_68 ?_ | refine J_aload_nq C rfl dX11_about_68 ?_ | refine J_aload_nN C rfl dX11_about_68 ?_
          refine J_ifnonnull (x := some w) C 74 (by decide) dX11_about_69 (fun _ _ => ?_) (fun z => by cases z)
          refine J_iload_n C rfl dX11_about_74 ?_
          rcases (show k = 0 ∨ k = 1 ∨ k = 2 by omega) with e | e | e
          · refine J_lookup C (off := 25) 100 (by decide) (by rw [ht, e]; rfl) (by decide) dX11_about_75 ?_
            first | refine J_aload_n C rfl dX11_about_100 ?_ | refine J_aload_nq C rfl dX11_about_100 ?_ | refine J_aload_nN C rfl dX11_about_100 ?_
            refine J_get C fl_X11_133 (by first | assumption | exact jv_up_at _ _ _ | (simp [jv_up, *]; done)) (by rfl) dX11_about_101 ?_
            refine J_iret C D ⟨rfl, k, z2, rfl, by rw [hh, e, hp, hl]; rfl⟩ (by omega) (by omega) dX11_about_104
          · refine J_lookup C (off := 30) 105 (by decide) (by rw [ht, e]; rfl) (by decide) dX11_about_75 ?_
            first | refine J_aload_n C rfl dX11_about_105 ?_ | refine J_aload_nq C rfl dX11_about_105 ?_ | refine J_aload_nN C rfl dX11_about_105 ?_
            refine J_get C fl_X11_19 (by first | assumption | exact jv_up_at _ _ _ | (simp [jv_up, *]; done)) (by rfl) dX11_about_106 ?_
            first | refine J_aload_n C rfl dX11_about_109 ?_ | refine J_aload_nq C rfl dX11_about_109 ?_ | refine J_aload_nN C rfl dX11_about_109 ?_
            refine J_callV C (c_Lib_rarity bK hw (by omega)) cw_X11_136 (by first | assumption | exact jv_up_at _ _ _ | (simp [jv_up, *]; done)) rfl rfl rfl rfl (by exact Nat.le_of_ble_eq_true rfl) (by decide) (by omega) (by omega) dX11_about_110 ?_
            rintro _ h9 ⟨rfl, e9⟩
            replace e9 := e9.symm
            subst e9
            refine J_iret C D ⟨rfl, k, z2, rfl, by rw [hh, e, hp, hl, hDL]; rfl⟩ (by omega) (by omega) dX11_about_113
          · refine J_lookup C (off := 39) 114 (by decide) (by rw [ht, e]; rfl) (by decide) dX11_about_75 ?_
            first | refine J_aload_n C rfl dX11_about_114 ?_ | refine J_aload_nq C rfl dX11_about_114 ?_ | refine J_aload_nN C rfl dX11_about_114 ?_
            refine J_get C fl_X11_140 (by first | assumption | exact jv_up_at _ _ _ | (simp [jv_up, *]; done)) (by rfl) dX11_about_115 ?_
            refine J_iret C D ⟨rfl, k, z2, rfl, by rw [hh, e, hc, hl]; rfl⟩ (by omega) (by omega) dX11_about_118
        · replace e9 := e9.symm
          subst e9
          have hz := dsH_none XL (L := w0) (fun z => by
            obtain ⟨u, hu, z⟩ := List.mem_map.mp z
            exact hno u hu z)
          have hzA : some (Value.int (nI 0)) = some (Value.int (aboutA ds (sp_text (sp_B f) nt)[0]? k)) := by
            rw [hh]
            show _ = some (Value.int (nI (if k = 0 then dsH ds w0 else if k = 1 then sp_rar ds.length (dsH ds w0) else dsC ds w0)))
            rw [hz.1, hz.2]
            rcases (show k = 0 ∨ k = 1 ∨ k = 2 by omega) with e | e | e <;> subst e <;> rfl
          first | refine J_astore_nq C (by decide) dX11_about_67 ?_ | refine J_astore_n C (by decide) dX11_about_67 ?_ | refine J_astore_nN C (by decide) dX11_about_67 ?_
          first | refine J_aload_n C rfl dX11_about_68 ?_ | refine J_aload_nq C rfl dX11_about_68 ?_ | refine J_aload_nN C rfl dX11_about_68 ?_
          refine J_ifnonnull (x := none) C 74 (by decide) dX11_about_69 (fun q z => by cases z) (fun _ => ?_)
          refine J_iconst C (v := nI 0) (by decide) dX11_about_72 ?_
          refine J_iret C D ⟨rfl, k, z2, rfl, hzA⟩ (by omega) (by omega) dX11_about_73
      · refine J_iconst C (v := (-1)) (by decide) dX11_about_39 ?_
        refine J_iret C D ⟨rfl, k, z2, rfl, by rw [text_head, if_pos z3]; rfl⟩ (by omega) (by omega) dX11_about_40
    · refine J_throw C X (is := 98) (text := "what is not 0 to 2") jtw_iae (by decide +kernel) ⟨rfl, rfl, fun m hm e => by have e := nI_inj (by omega) (by omega) e; omega⟩ (by omega) (by omega) (by omega) (by decide) dX11_about_9 dX11_about_12 dX11_about_13 dX11_about_15 dX11_about_18
end ABOUT
