/-! the law's helpers: a call, its answer laid down, a throw caught -/
theorem in_RL : Cond.initialized RL ∈ jv_T := jv_Tt 0 (by decide +kernel) rfl
theorem wl_feed : Cond.codeWith yL_feed cL_feed 6 (some .int) [(0, 11, 14, 13)] ∈ jv_T := jv_Tt 286 (by decide +kernel) rfl
theorem wk_feed : Cond.methodLink RL 50 yL_feed ∈ jv_T := jv_Tt 284 (by decide +kernel) rfl
theorem ws_feed : Cond.static yL_feed ∈ jv_T := jv_Tt 285 (by decide +kernel) rfl
theorem wl_put : Cond.codeWith yL_put cL_put 4 (some .int) [(0, 9, 12, 13)] ∈ jv_T := jv_Tt 368 (by decide +kernel) rfl
theorem wk_put : Cond.methodLink RL 64 yL_put ∈ jv_T := jv_Tt 366 (by decide +kernel) rfl
theorem ws_put : Cond.static yL_put ∈ jv_T := jv_Tt 367 (by decide +kernel) rfl
theorem wl_drop : Cond.codeWith yL_drop cL_drop 4 (some .int) [(0, 16, 19, 13)] ∈ jv_T := jv_Tt 908 (by decide +kernel) rfl
theorem wk_drop : Cond.methodLink RL 68 yL_drop ∈ jv_T := jv_Tt 906 (by decide +kernel) rfl
theorem ws_drop : Cond.static yL_drop ∈ jv_T := jv_Tt 907 (by decide +kernel) rfl
theorem wl_told : Cond.codeWith yL_told cL_told 4 (some .int) [(0, 9, 12, 13)] ∈ jv_T := jv_Tt 920 (by decide +kernel) rfl
theorem wk_told : Cond.methodLink RL 71 yL_told ∈ jv_T := jv_Tt 918 (by decide +kernel) rfl
theorem ws_told : Cond.static yL_told ∈ jv_T := jv_Tt 919 (by decide +kernel) rfl
theorem wl_about : Cond.codeWith yL_about cL_about 4 (some .int) [(0, 9, 12, 13)] ∈ jv_T := jv_Tt 936 (by decide +kernel) rfl
theorem wk_about : Cond.methodLink RL 79 yL_about ∈ jv_T := jv_Tt 934 (by decide +kernel) rfl
theorem ws_about : Cond.static yL_about ∈ jv_T := jv_Tt 935 (by decide +kernel) rfl
theorem wl_find : Cond.codeWith yL_find cL_find 4 (some .int) [(0, 9, 12, 13)] ∈ jv_T := jv_Tt 954 (by decide +kernel) rfl
theorem wk_find : Cond.methodLink RL 82 yL_find ∈ jv_T := jv_Tt 952 (by decide +kernel) rfl
theorem ws_find : Cond.static yL_find ∈ jv_T := jv_Tt 953 (by decide +kernel) rfl
theorem wl_similar : Cond.codeWith yL_similar cL_similar 5 (some .int) [(0, 10, 13, 13)] ∈ jv_T := jv_Tt 1087 (by decide +kernel) rfl
theorem wk_similar : Cond.methodLink RL 93 yL_similar ∈ jv_T := jv_Tt 1085 (by decide +kernel) rfl
theorem ws_similar : Cond.static yL_similar ∈ jv_T := jv_Tt 1086 (by decide +kernel) rfl
theorem wl_hit : Cond.codeWith yL_hit cL_hit 4 (some .int) [(0, 9, 12, 39)] ∈ jv_T := jv_Tt 1101 (by decide +kernel) rfl
theorem wk_hit : Cond.methodLink RL 97 yL_hit ∈ jv_T := jv_Tt 1099 (by decide +kernel) rfl
theorem ws_hit : Cond.static yL_hit ∈ jv_T := jv_Tt 1100 (by decide +kernel) rfl
theorem wl_score : Cond.codeWith yL_score cL_score 4 (some .int) [(0, 9, 12, 39)] ∈ jv_T := jv_Tt 1117 (by decide +kernel) rfl
theorem wk_score : Cond.methodLink RL 100 yL_score ∈ jv_T := jv_Tt 1115 (by decide +kernel) rfl
theorem ws_score : Cond.static yL_score ∈ jv_T := jv_Tt 1116 (by decide +kernel) rfl
section WRAP
variable {l : jL} {h : jH} {r o : Nat} {x y : Int32} {v : Int64} {post : Option Value → jH → Prop} {px : String → jH → Prop} {fs : List Value} {g : Nat → Int64}
theorem c_L_feed (hM : Cx l yX11_feed cX11_feed 4 (some .int) 6 1 6 [.ref r, .int x, .long v] h post px) (hE : ∀ E h1, px E h1 → E = eIA) (hr : h r = some (.inr (10, fs))) (hO : ∀ r9 h1, post r9 h1 → (∃ w, r9 = some (.int w)) ∧ h1 o = some (.inl (3, 1, .inr (.inl g)))) : Ch l yL_feed cL_feed 6 (some .int) [(0, 11, 14, 13)] 7 1 6 [.ref r, .int x, .long v, .ref o] h (fun q h1 => (∃ w h2, q = some (.int (nI 0)) ∧ post (some (.int w)) h2 ∧ h1 = jv_up h2 o (.inl (3, 1, .inr (.inl (vp_updL g 0 w.toInt64))))) ∨ (q = some (.int (nI 1)) ∧ px eIA h1)) := by
  refine Ch.of (own := RL) rfl (by decide) (by exact Nat.le_of_ble_eq_true rfl) (by decide) (fun K hK C D S T9 => ?_)
  rw [← hK] at hM
  first | refine J_aload C rfl dL_feed_0 ?_ | refine J_aloadq C rfl dL_feed_0 ?_ | refine J_aloadN C rfl dL_feed_0 ?_
  refine J_iconst C (v := nI 0) (by decide) dL_feed_2 ?_
  first | refine J_aload_n C rfl dL_feed_3 ?_ | refine J_aload_nq C rfl dL_feed_3 ?_ | refine J_aload_nN C rfl dL_feed_3 ?_
  refine J_iload_n C rfl dL_feed_4 ?_
  refine J_lload_n C rfl dL_feed_5 ?_
  refine J_ccallV C S T9 hM cw_L_7 hr rfl rfl rfl rfl (by exact Nat.le_of_ble_eq_true rfl) (by decide) (by omega) (by omega) dL_feed_6 (by decide) (by decide) wc_L_13 ca_java_lang_IllegalArgumentException__java_lang_IllegalArgumentException hE ?_ ?_
  · intro q h1 e
    first | refine J_astoreq C (by decide) dL_feed_14 ?_ | refine J_astore C (by decide) dL_feed_14 ?_ | refine J_astoreN C (by decide) dL_feed_14 ?_
    refine J_iconst C (v := nI 1) (by decide) dL_feed_16 ?_
    refine J_iret C D (Or.inr ⟨rfl, e⟩) (by omega) (by omega) dL_feed_17
  · intro r9 h1 e
    obtain ⟨⟨w, rfl⟩, ho⟩ := hO _ _ e
    refine J_i2l C dL_feed_9 ?_
    refine J_last C ho (j := 0) rfl (by decide) (by decide) dL_feed_10 ?_
    refine J_goto C 18 (by decide) dL_feed_11 ?_
    refine J_iconst C (v := nI 0) (by decide) dL_feed_18 ?_
    refine J_iret C D (Or.inl ⟨_, _, rfl, e, rfl⟩) (by omega) (by omega) dL_feed_19
theorem c_L_put (hM : Cx l yX11_put cX11_put 3 (some .int) 10 603 80500 [.ref r, .int x] h post px) (hE : ∀ E h1, px E h1 → E = eIA) (hr : h r = some (.inr (10, fs))) (hO : ∀ r9 h1, post r9 h1 → (∃ w, r9 = some (.int w)) ∧ h1 o = some (.inl (3, 1, .inr (.inl g)))) : Ch l yL_put cL_put 4 (some .int) [(0, 9, 12, 13)] 11 603 80500 [.ref r, .int x, .ref o] h (fun q h1 => (∃ w h2, q = some (.int (nI 0)) ∧ post (some (.int w)) h2 ∧ h1 = jv_up h2 o (.inl (3, 1, .inr (.inl (vp_updL g 0 w.toInt64))))) ∨ (q = some (.int (nI 1)) ∧ px eIA h1)) := by
  refine Ch.of (own := RL) rfl (by decide) (by exact Nat.le_of_ble_eq_true rfl) (by decide) (fun K hK C D S T9 => ?_)
  rw [← hK] at hM
  first | refine J_aload_n C rfl dL_put_0 ?_ | refine J_aload_nq C rfl dL_put_0 ?_ | refine J_aload_nN C rfl dL_put_0 ?_
  refine J_iconst C (v := nI 0) (by decide) dL_put_1 ?_
  first | refine J_aload_n C rfl dL_put_2 ?_ | refine J_aload_nq C rfl dL_put_2 ?_ | refine J_aload_nN C rfl dL_put_2 ?_
  refine J_iload_n C rfl dL_put_3 ?_
  refine J_ccallV C S T9 hM cw_L_15 hr rfl rfl rfl rfl (by exact Nat.le_of_ble_eq_true rfl) (by decide) (by omega) (by omega) dL_put_4 (by decide) (by decide) wc_L_13 ca_java_lang_IllegalArgumentException__java_lang_IllegalArgumentException hE ?_ ?_
  · intro q h1 e
    first | refine J_astore_nq C (by decide) dL_put_12 ?_ | refine J_astore_n C (by decide) dL_put_12 ?_ | refine J_astore_nN C (by decide) dL_put_12 ?_
    refine J_iconst C (v := nI 1) (by decide) dL_put_13 ?_
    refine J_iret C D (Or.inr ⟨rfl, e⟩) (by omega) (by omega) dL_put_14
  · intro r9 h1 e
    obtain ⟨⟨w, rfl⟩, ho⟩ := hO _ _ e
    refine J_i2l C dL_put_7 ?_
    refine J_last C ho (j := 0) rfl (by decide) (by decide) dL_put_8 ?_
    refine J_goto C 15 (by decide) dL_put_9 ?_
    refine J_iconst C (v := nI 0) (by decide) dL_put_15 ?_
    refine J_iret C D (Or.inl ⟨_, _, rfl, e, rfl⟩) (by omega) (by omega) dL_put_16
theorem c_L_drop (hM : Cx l yX11_drop cX11_drop 2 (some .boolean) 10 1 6 [.ref r, .int x] h post px) (hE : ∀ E h1, px E h1 → E = eIA) (hr : h r = some (.inr (10, fs))) (hO : ∀ r9 h1, post r9 h1 → (∃ b9, r9 = some (.int (jv_b b9))) ∧ h1 o = some (.inl (3, 1, .inr (.inl g)))) : Ch l yL_drop cL_drop 4 (some .int) [(0, 16, 19, 13)] 11 1 6 [.ref r, .int x, .ref o] h (fun q h1 => (∃ b9 h2, q = some (.int (nI 0)) ∧ post (some (.int (jv_b b9))) h2 ∧ h1 = jv_up h2 o (.inl (3, 1, .inr (.inl (vp_updL g 0 (lN (if b9 then 1 else 0))))))) ∨ (q = some (.int (nI 1)) ∧ px eIA h1)) := by
  refine Ch.of (own := RL) rfl (by decide) (by exact Nat.le_of_ble_eq_true rfl) (by decide) (fun K hK C D S T9 => ?_)
  rw [← hK] at hM
  first | refine J_aload_n C rfl dL_drop_0 ?_ | refine J_aload_nq C rfl dL_drop_0 ?_ | refine J_aload_nN C rfl dL_drop_0 ?_
  refine J_iconst C (v := nI 0) (by decide) dL_drop_1 ?_
  first | refine J_aload_n C rfl dL_drop_2 ?_ | refine J_aload_nq C rfl dL_drop_2 ?_ | refine J_aload_nN C rfl dL_drop_2 ?_
  refine J_iload_n C rfl dL_drop_3 ?_
  refine J_ccallV C S T9 hM cw_L_19 hr rfl rfl rfl rfl (by exact Nat.le_of_ble_eq_true rfl) (by decide) (by omega) (by omega) dL_drop_4 (by decide) (by decide) wc_L_13 ca_java_lang_IllegalArgumentException__java_lang_IllegalArgumentException hE ?_ ?_
  · intro q h1 e
    first | refine J_astore_nq C (by decide) dL_drop_19 ?_ | refine J_astore_n C (by decide) dL_drop_19 ?_ | refine J_astore_nN C (by decide) dL_drop_19 ?_
    refine J_iconst C (v := nI 1) (by decide) dL_drop_20 ?_
    refine J_iret C D (Or.inr ⟨rfl, e⟩) (by omega) (by omega) dL_drop_21
  · intro r9 h1 e
    obtain ⟨⟨w, rfl⟩, ho⟩ := hO _ _ e
    refine J_bif_eq C 14 (by decide) dL_drop_7 (fun z => ?_) (fun z => ?_)
    · subst z
      refine J_lconst C (v := lN 0) (by decide) dL_drop_14 ?_
      refine J_last C ho (j := 0) rfl (by decide) (by decide) dL_drop_15 ?_
      refine J_goto C 22 (by decide) dL_drop_16 ?_
      refine J_iconst C (v := nI 0) (by decide) dL_drop_22 ?_
      refine J_iret C D (Or.inl ⟨_, _, rfl, e, rfl⟩) (by omega) (by omega) dL_drop_23
    · subst z
      refine J_lconst C (v := lN 1) (by decide) dL_drop_10 ?_
      refine J_goto C 15 (by decide) dL_drop_11 ?_
      refine J_last C ho (j := 0) rfl (by decide) (by decide) dL_drop_15 ?_
      refine J_goto C 22 (by decide) dL_drop_16 ?_
      refine J_iconst C (v := nI 0) (by decide) dL_drop_22 ?_
      refine J_iret C D (Or.inl ⟨_, _, rfl, e, rfl⟩) (by omega) (by omega) dL_drop_23
theorem c_L_told (hM : Cx l yX11_told cX11_told 2 (some .int) 6 1 6 [.ref r, .int x] h post px) (hE : ∀ E h1, px E h1 → E = eIA) (hr : h r = some (.inr (10, fs))) (hO : ∀ r9 h1, post r9 h1 → (∃ w, r9 = some (.int w)) ∧ h1 o = some (.inl (3, 1, .inr (.inl g)))) : Ch l yL_told cL_told 4 (some .int) [(0, 9, 12, 13)] 7 1 6 [.ref r, .int x, .ref o] h (fun q h1 => (∃ w h2, q = some (.int (nI 0)) ∧ post (some (.int w)) h2 ∧ h1 = jv_up h2 o (.inl (3, 1, .inr (.inl (vp_updL g 0 w.toInt64))))) ∨ (q = some (.int (nI 1)) ∧ px eIA h1)) := by
  refine Ch.of (own := RL) rfl (by decide) (by exact Nat.le_of_ble_eq_true rfl) (by decide) (fun K hK C D S T9 => ?_)
  rw [← hK] at hM
  first | refine J_aload_n C rfl dL_told_0 ?_ | refine J_aload_nq C rfl dL_told_0 ?_ | refine J_aload_nN C rfl dL_told_0 ?_
  refine J_iconst C (v := nI 0) (by decide) dL_told_1 ?_
  first | refine J_aload_n C rfl dL_told_2 ?_ | refine J_aload_nq C rfl dL_told_2 ?_ | refine J_aload_nN C rfl dL_told_2 ?_
  refine J_iload_n C rfl dL_told_3 ?_
  refine J_ccallV C S T9 hM cw_L_23 hr rfl rfl rfl rfl (by exact Nat.le_of_ble_eq_true rfl) (by decide) (by omega) (by omega) dL_told_4 (by decide) (by decide) wc_L_13 ca_java_lang_IllegalArgumentException__java_lang_IllegalArgumentException hE ?_ ?_
  · intro q h1 e
    first | refine J_astore_nq C (by decide) dL_told_12 ?_ | refine J_astore_n C (by decide) dL_told_12 ?_ | refine J_astore_nN C (by decide) dL_told_12 ?_
    refine J_iconst C (v := nI 1) (by decide) dL_told_13 ?_
    refine J_iret C D (Or.inr ⟨rfl, e⟩) (by omega) (by omega) dL_told_14
  · intro r9 h1 e
    obtain ⟨⟨w, rfl⟩, ho⟩ := hO _ _ e
    refine J_i2l C dL_told_7 ?_
    refine J_last C ho (j := 0) rfl (by decide) (by decide) dL_told_8 ?_
    refine J_goto C 15 (by decide) dL_told_9 ?_
    refine J_iconst C (v := nI 0) (by decide) dL_told_15 ?_
    refine J_iret C D (Or.inl ⟨_, _, rfl, e, rfl⟩) (by omega) (by omega) dL_told_16
theorem c_L_about (hM : Cx l yX11_about cX11_about 4 (some .int) 8 1 6 [.ref r, .int x] h post px) (hE : ∀ E h1, px E h1 → E = eIA) (hr : h r = some (.inr (10, fs))) (hO : ∀ r9 h1, post r9 h1 → (∃ w, r9 = some (.int w)) ∧ h1 o = some (.inl (3, 1, .inr (.inl g)))) : Ch l yL_about cL_about 4 (some .int) [(0, 9, 12, 13)] 9 1 6 [.ref r, .int x, .ref o] h (fun q h1 => (∃ w h2, q = some (.int (nI 0)) ∧ post (some (.int w)) h2 ∧ h1 = jv_up h2 o (.inl (3, 1, .inr (.inl (vp_updL g 0 w.toInt64))))) ∨ (q = some (.int (nI 1)) ∧ px eIA h1)) := by
  refine Ch.of (own := RL) rfl (by decide) (by exact Nat.le_of_ble_eq_true rfl) (by decide) (fun K hK C D S T9 => ?_)
  rw [← hK] at hM
  first | refine J_aload_n C rfl dL_about_0 ?_ | refine J_aload_nq C rfl dL_about_0 ?_ | refine J_aload_nN C rfl dL_about_0 ?_
  refine J_iconst C (v := nI 0) (by decide) dL_about_1 ?_
  first | refine J_aload_n C rfl dL_about_2 ?_ | refine J_aload_nq C rfl dL_about_2 ?_ | refine J_aload_nN C rfl dL_about_2 ?_
  refine J_iload_n C rfl dL_about_3 ?_
  refine J_ccallV C S T9 hM cw_L_26 hr rfl rfl rfl rfl (by exact Nat.le_of_ble_eq_true rfl) (by decide) (by omega) (by omega) dL_about_4 (by decide) (by decide) wc_L_13 ca_java_lang_IllegalArgumentException__java_lang_IllegalArgumentException hE ?_ ?_
  · intro q h1 e
    first | refine J_astore_nq C (by decide) dL_about_12 ?_ | refine J_astore_n C (by decide) dL_about_12 ?_ | refine J_astore_nN C (by decide) dL_about_12 ?_
    refine J_iconst C (v := nI 1) (by decide) dL_about_13 ?_
    refine J_iret C D (Or.inr ⟨rfl, e⟩) (by omega) (by omega) dL_about_14
  · intro r9 h1 e
    obtain ⟨⟨w, rfl⟩, ho⟩ := hO _ _ e
    refine J_i2l C dL_about_7 ?_
    refine J_last C ho (j := 0) rfl (by decide) (by decide) dL_about_8 ?_
    refine J_goto C 15 (by decide) dL_about_9 ?_
    refine J_iconst C (v := nI 0) (by decide) dL_about_15 ?_
    refine J_iret C D (Or.inl ⟨_, _, rfl, e, rfl⟩) (by omega) (by omega) dL_about_16
theorem c_L_find (hM : Cx l yX11_find cX11_find 2 (some .int) 8 1 6 [.ref r, .int x] h post px) (hE : ∀ E h1, px E h1 → E = eIA) (hr : h r = some (.inr (10, fs))) (hO : ∀ r9 h1, post r9 h1 → (∃ w, r9 = some (.int w)) ∧ h1 o = some (.inl (3, 1, .inr (.inl g)))) : Ch l yL_find cL_find 4 (some .int) [(0, 9, 12, 13)] 9 1 6 [.ref r, .int x, .ref o] h (fun q h1 => (∃ w h2, q = some (.int (nI 0)) ∧ post (some (.int w)) h2 ∧ h1 = jv_up h2 o (.inl (3, 1, .inr (.inl (vp_updL g 0 w.toInt64))))) ∨ (q = some (.int (nI 1)) ∧ px eIA h1)) := by
  refine Ch.of (own := RL) rfl (by decide) (by exact Nat.le_of_ble_eq_true rfl) (by decide) (fun K hK C D S T9 => ?_)
  rw [← hK] at hM
  first | refine J_aload_n C rfl dL_find_0 ?_ | refine J_aload_nq C rfl dL_find_0 ?_ | refine J_aload_nN C rfl dL_find_0 ?_
  refine J_iconst C (v := nI 0) (by decide) dL_find_1 ?_
  first | refine J_aload_n C rfl dL_find_2 ?_ | refine J_aload_nq C rfl dL_find_2 ?_ | refine J_aload_nN C rfl dL_find_2 ?_
  refine J_iload_n C rfl dL_find_3 ?_
  refine J_ccallV C S T9 hM cw_L_29 hr rfl rfl rfl rfl (by exact Nat.le_of_ble_eq_true rfl) (by decide) (by omega) (by omega) dL_find_4 (by decide) (by decide) wc_L_13 ca_java_lang_IllegalArgumentException__java_lang_IllegalArgumentException hE ?_ ?_
  · intro q h1 e
    first | refine J_astore_nq C (by decide) dL_find_12 ?_ | refine J_astore_n C (by decide) dL_find_12 ?_ | refine J_astore_nN C (by decide) dL_find_12 ?_
    refine J_iconst C (v := nI 1) (by decide) dL_find_13 ?_
    refine J_iret C D (Or.inr ⟨rfl, e⟩) (by omega) (by omega) dL_find_14
  · intro r9 h1 e
    obtain ⟨⟨w, rfl⟩, ho⟩ := hO _ _ e
    refine J_i2l C dL_find_7 ?_
    refine J_last C ho (j := 0) rfl (by decide) (by decide) dL_find_8 ?_
    refine J_goto C 15 (by decide) dL_find_9 ?_
    refine J_iconst C (v := nI 0) (by decide) dL_find_15 ?_
    refine J_iret C D (Or.inl ⟨_, _, rfl, e, rfl⟩) (by omega) (by omega) dL_find_16
theorem c_L_similar (hM : Cx l yX11_similar cX11_similar 4 (some .int) 8 2 12 [.ref r, .int x, .int y] h post px) (hE : ∀ E h1, px E h1 → E = eIA) (hr : h r = some (.inr (10, fs))) (hO : ∀ r9 h1, post r9 h1 → (∃ w, r9 = some (.int w)) ∧ h1 o = some (.inl (3, 1, .inr (.inl g)))) : Ch l yL_similar cL_similar 5 (some .int) [(0, 10, 13, 13)] 9 2 12 [.ref r, .int x, .int y, .ref o] h (fun q h1 => (∃ w h2, q = some (.int (nI 0)) ∧ post (some (.int w)) h2 ∧ h1 = jv_up h2 o (.inl (3, 1, .inr (.inl (vp_updL g 0 w.toInt64))))) ∨ (q = some (.int (nI 1)) ∧ px eIA h1)) := by
  refine Ch.of (own := RL) rfl (by decide) (by exact Nat.le_of_ble_eq_true rfl) (by decide) (fun K hK C D S T9 => ?_)
  rw [← hK] at hM
  first | refine J_aload_n C rfl dL_similar_0 ?_ | refine J_aload_nq C rfl dL_similar_0 ?_ | refine J_aload_nN C rfl dL_similar_0 ?_
  refine J_iconst C (v := nI 0) (by decide) dL_similar_1 ?_
  first | refine J_aload_n C rfl dL_similar_2 ?_ | refine J_aload_nq C rfl dL_similar_2 ?_ | refine J_aload_nN C rfl dL_similar_2 ?_
  refine J_iload_n C rfl dL_similar_3 ?_
  refine J_iload_n C rfl dL_similar_4 ?_
  refine J_ccallV C S T9 hM cw_L_32 hr rfl rfl rfl rfl (by exact Nat.le_of_ble_eq_true rfl) (by decide) (by omega) (by omega) dL_similar_5 (by decide) (by decide) wc_L_13 ca_java_lang_IllegalArgumentException__java_lang_IllegalArgumentException hE ?_ ?_
  · intro q h1 e
    first | refine J_astoreq C (by decide) dL_similar_13 ?_ | refine J_astore C (by decide) dL_similar_13 ?_ | refine J_astoreN C (by decide) dL_similar_13 ?_
    refine J_iconst C (v := nI 1) (by decide) dL_similar_15 ?_
    refine J_iret C D (Or.inr ⟨rfl, e⟩) (by omega) (by omega) dL_similar_16
  · intro r9 h1 e
    obtain ⟨⟨w, rfl⟩, ho⟩ := hO _ _ e
    refine J_i2l C dL_similar_8 ?_
    refine J_last C ho (j := 0) rfl (by decide) (by decide) dL_similar_9 ?_
    refine J_goto C 17 (by decide) dL_similar_10 ?_
    refine J_iconst C (v := nI 0) (by decide) dL_similar_17 ?_
    refine J_iret C D (Or.inl ⟨_, _, rfl, e, rfl⟩) (by omega) (by omega) dL_similar_18
theorem c_L_hit (hM : Cx l yX11_hit cX11_hit 2 (some .int) 6 1 6 [.ref r, .int x] h post px) (hE : ∀ E h1, px E h1 → E = eIO) (hr : h r = some (.inr (10, fs))) (hO : ∀ r9 h1, post r9 h1 → (∃ w, r9 = some (.int w)) ∧ h1 o = some (.inl (3, 1, .inr (.inl g)))) : Ch l yL_hit cL_hit 4 (some .int) [(0, 9, 12, 39)] 7 1 6 [.ref r, .int x, .ref o] h (fun q h1 => (∃ w h2, q = some (.int (nI 0)) ∧ post (some (.int w)) h2 ∧ h1 = jv_up h2 o (.inl (3, 1, .inr (.inl (vp_updL g 0 w.toInt64))))) ∨ (q = some (.int (nI 1)) ∧ px eIO h1)) := by
  refine Ch.of (own := RL) rfl (by decide) (by exact Nat.le_of_ble_eq_true rfl) (by decide) (fun K hK C D S T9 => ?_)
  rw [← hK] at hM
  first | refine J_aload_n C rfl dL_hit_0 ?_ | refine J_aload_nq C rfl dL_hit_0 ?_ | refine J_aload_nN C rfl dL_hit_0 ?_
  refine J_iconst C (v := nI 0) (by decide) dL_hit_1 ?_
  first | refine J_aload_n C rfl dL_hit_2 ?_ | refine J_aload_nq C rfl dL_hit_2 ?_ | refine J_aload_nN C rfl dL_hit_2 ?_
  refine J_iload_n C rfl dL_hit_3 ?_
  refine J_ccallV C S T9 hM cw_L_36 hr rfl rfl rfl rfl (by exact Nat.le_of_ble_eq_true rfl) (by decide) (by omega) (by omega) dL_hit_4 (by decide) (by decide) wc_L_39 ca_java_lang_IndexOutOfBoundsException__java_lang_IndexOutOfBoundsException hE ?_ ?_
  · intro q h1 e
    first | refine J_astore_nq C (by decide) dL_hit_12 ?_ | refine J_astore_n C (by decide) dL_hit_12 ?_ | refine J_astore_nN C (by decide) dL_hit_12 ?_
    refine J_iconst C (v := nI 1) (by decide) dL_hit_13 ?_
    refine J_iret C D (Or.inr ⟨rfl, e⟩) (by omega) (by omega) dL_hit_14
  · intro r9 h1 e
    obtain ⟨⟨w, rfl⟩, ho⟩ := hO _ _ e
    refine J_i2l C dL_hit_7 ?_
    refine J_last C ho (j := 0) rfl (by decide) (by decide) dL_hit_8 ?_
    refine J_goto C 15 (by decide) dL_hit_9 ?_
    refine J_iconst C (v := nI 0) (by decide) dL_hit_15 ?_
    refine J_iret C D (Or.inl ⟨_, _, rfl, e, rfl⟩) (by omega) (by omega) dL_hit_16
theorem c_L_score (hM : Cx l yX11_score cX11_score 2 (some .int) 6 1 6 [.ref r, .int x] h post px) (hE : ∀ E h1, px E h1 → E = eIO) (hr : h r = some (.inr (10, fs))) (hO : ∀ r9 h1, post r9 h1 → (∃ w, r9 = some (.int w)) ∧ h1 o = some (.inl (3, 1, .inr (.inl g)))) : Ch l yL_score cL_score 4 (some .int) [(0, 9, 12, 39)] 7 1 6 [.ref r, .int x, .ref o] h (fun q h1 => (∃ w h2, q = some (.int (nI 0)) ∧ post (some (.int w)) h2 ∧ h1 = jv_up h2 o (.inl (3, 1, .inr (.inl (vp_updL g 0 w.toInt64))))) ∨ (q = some (.int (nI 1)) ∧ px eIO h1)) := by
  refine Ch.of (own := RL) rfl (by decide) (by exact Nat.le_of_ble_eq_true rfl) (by decide) (fun K hK C D S T9 => ?_)
  rw [← hK] at hM
  first | refine J_aload_n C rfl dL_score_0 ?_ | refine J_aload_nq C rfl dL_score_0 ?_ | refine J_aload_nN C rfl dL_score_0 ?_
  refine J_iconst C (v := nI 0) (by decide) dL_score_1 ?_
  first | refine J_aload_n C rfl dL_score_2 ?_ | refine J_aload_nq C rfl dL_score_2 ?_ | refine J_aload_nN C rfl dL_score_2 ?_
  refine J_iload_n C rfl dL_score_3 ?_
  refine J_ccallV C S T9 hM cw_L_41 hr rfl rfl rfl rfl (by exact Nat.le_of_ble_eq_true rfl) (by decide) (by omega) (by omega) dL_score_4 (by decide) (by decide) wc_L_39 ca_java_lang_IndexOutOfBoundsException__java_lang_IndexOutOfBoundsException hE ?_ ?_
  · intro q h1 e
    first | refine J_astore_nq C (by decide) dL_score_12 ?_ | refine J_astore_n C (by decide) dL_score_12 ?_ | refine J_astore_nN C (by decide) dL_score_12 ?_
    refine J_iconst C (v := nI 1) (by decide) dL_score_13 ?_
    refine J_iret C D (Or.inr ⟨rfl, e⟩) (by omega) (by omega) dL_score_14
  · intro r9 h1 e
    obtain ⟨⟨w, rfl⟩, ho⟩ := hO _ _ e
    refine J_i2l C dL_score_7 ?_
    refine J_last C ho (j := 0) rfl (by decide) (by decide) dL_score_8 ?_
    refine J_goto C 15 (by decide) dL_score_9 ?_
    refine J_iconst C (v := nI 0) (by decide) dL_score_15 ?_
    refine J_iret C D (Or.inl ⟨_, _, rfl, e, rfl⟩) (by omega) (by omega) dL_score_16
end WRAP
