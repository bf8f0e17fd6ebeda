/-! a call in the law, both sides -/
section SAME
variable {ds md : dsT} {V : List Int64}
theorem hitM_perm (P : md.Perm ds) (T : List tsT) (W : Int32) (p : Nat × List Int64) : hitM md T W p = hitM ds T W p := by
  have e : woM md p = woM ds p := by
    funext u
    unfold woM
    rw [P.length_eq, dsH_perm P]
  unfold hitM scM
  rw [e]
theorem hits_perm (P : md.Perm ds) (T : List tsT) (W : Int32) : (md.filterMap (hitM md T W)).Perm (ds.filterMap (hitM ds T W)) := by
  have e : hitM md T W = hitM ds T W := funext (hitM_perm P T W)
  rw [e]
  exact P.filterMap _
theorem fd_same (P : md.Perm ds) (X : isLex ds V) (wd : ∀ p ∈ ds, ∀ w ∈ p.2, isWd w) (hk : ∀ p ∈ ds, p.1 < 10000) {B : Nat → Nat} {tv : Nat → tmT} {cnt k : Nat} (hc : cnt ≤ 16) (ok : ∀ j, j < cnt → tmOK B (tv j)) {L L2 : List hiT} (t1 : topR k (ds.filterMap (hitQ ds V tv cnt)) L) (t2 : topR k (md.filterMap (hitM md (tsL tv cnt) (-1))) L2) : L2 = L := by
  have e : ds.filterMap (hitQ ds V tv cnt) = ds.filterMap (hitM ds (tsL tv cnt) (-1)) := fm_congr (fun p hp => lk_hit X hp (wd p hp) (hk p hp) hc ok)
  rw [e] at t1
  exact topR_uniq (topR_perm (hits_perm P _ _) t2) t1
theorem sm_same (P : md.Perm ds) (hk : ∀ p ∈ ds, p.1 < 10000) {k0 k : Nat} (hk0 : k0 < 10000) {U we : List Int64} (hU : U.Nodup) (hm : ∀ w, w ∈ U ↔ w ∈ we) {L L2 : List hiT} (t1 : topR k (ds.filterMap (hitS ds U k0 we)) L) (t2 : topR k (md.filterMap (hitM md (simT we) (nI k0))) L2) : L2 = L := by
  have e : ds.filterMap (hitS ds U k0 we) = ds.filterMap (hitM ds (simT we) (nI k0)) := fm_congr (fun p hp => lk_like hU hm (hk p hp) hk0)
  rw [e] at t1
  exact topR_uniq (topR_perm (hits_perm P _ _) t2) t1
theorem ky_uniq : ∀ {L : dsT}, (L.map (·.1)).Nodup → ∀ {k : Nat} {a b : List Int64}, (k, a) ∈ L → (k, b) ∈ L → a = b
  | [], _, _, _, _, h, _ => by cases h
  | p :: L, n, k, a, b, h, h' => by
    have n := List.nodup_cons.mp n
    rcases List.mem_cons.mp h with e | h1 <;> rcases List.mem_cons.mp h' with e' | h2
    · exact congrArg Prod.snd (e.trans e'.symm)
    · exact absurd (List.mem_map.mpr ⟨_, h2, (congrArg Prod.fst e).symm ▸ rfl⟩) n.1
    · exact absurd (List.mem_map.mpr ⟨_, h1, (congrArg Prod.fst e').symm ▸ rfl⟩) n.1
    · exact ky_uniq n.2 h1 h2
end SAME
section CALLS
variable {K : jT} {sb N i r m o c th cells slots : Nat} {xs : Nat → Int32} {h : jH} {g : Nat → Int64}
set_option maxHeartbeats 1000000 in
theorem k_feed (C : JC K cL_law 7 RL 1600 600128 7301098) (S : JS K) (Y : JY K sb N xs) (hi : i + 3 < N) (hN : N ≤ 256) (hc : cells + 603 ≤ 600128) (hs : slots + 80500 ≤ 7301098) (hcc : c ≤ 63) (X : jx (jv_lk K) h r m o c th g) (kk : ∀ h2 th g, jx (jv_lk K) h2 r m o (c + 1) th g → J K (cells + 603) (slots + 80500) 736 (jv_l [(4, .int (nI i)), (3, .ref o), (2, .ref m), (1, .ref r), (0, .ref sb)]) [] h2) : J K cells slots 104 (jv_l [(4, .int (nI i)), (3, .ref o), (2, .ref m), (1, .ref r), (0, .ref sb)]) [] h := by
  obtain ⟨t, tb, b, q, ta, tt, s, a, an, ap, nt, f, ds, V, j, fk, fp, L, A, md, X0, hj⟩ := X
  obtain ⟨I, M, P, wd, ho, sep⟩ := id X0
  have dd : dsI ds := I.2.2.2.2.2.2
  first | refine J_aload_n C rfl dL_law_104 ?_ | refine J_aload_nq C rfl dL_law_104 ?_ | refine J_aload_nN C rfl dL_law_104 ?_
  first | refine J_aload_n C rfl dL_law_105 ?_ | refine J_aload_nq C rfl dL_law_105 ?_ | refine J_aload_nN C rfl dL_law_105 ?_
  refine J_iload C rfl dL_law_106 ?_
  refine J_iconst C (v := nI 1) (by decide) dL_law_108 ?_
  first | refine J_niadd C dL_law_109 ?_ | refine J_iadd C dL_law_109 ?_
  refine J_sld C Y (j := i + 1) rfl (by omega) hN dL_law_110 ?_
  first | refine J_aload_n C rfl dL_law_111 ?_ | refine J_aload_nq C rfl dL_law_111 ?_ | refine J_aload_nN C rfl dL_law_111 ?_
  refine J_iload C rfl dL_law_112 ?_
  refine J_iconst C (v := nI 2) (by decide) dL_law_114 ?_
  first | refine J_niadd C dL_law_115 ?_ | refine J_iadd C dL_law_115 ?_
  refine J_sld C Y (j := i + 2) rfl (by omega) hN dL_law_116 ?_
  first | refine J_ni2l C (by omega) dL_law_117 ?_ | refine J_i2l C dL_law_117 ?_
  refine J_bipush C (v := nI 32) (by decide) dL_law_118 ?_
  refine J_lshl C dL_law_120 ?_
  first | refine J_aload_n C rfl dL_law_121 ?_ | refine J_aload_nq C rfl dL_law_121 ?_ | refine J_aload_nN C rfl dL_law_121 ?_
  refine J_iload C rfl dL_law_122 ?_
  refine J_iconst C (v := nI 3) (by decide) dL_law_124 ?_
  first | refine J_niadd C dL_law_125 ?_ | refine J_iadd C dL_law_125 ?_
  refine J_sld C Y (j := i + 3) rfl (by omega) hN dL_law_126 ?_
  first | refine J_ni2l C (by omega) dL_law_127 ?_ | refine J_i2l C dL_law_127 ?_
  refine J_ldc2 C kl_L_48 dL_law_128 ?_
  refine J_land C dL_law_131 ?_
  refine J_lor C dL_law_132 ?_
  first | refine J_aload_n C rfl dL_law_133 ?_ | refine J_aload_nq C rfl dL_law_133 ?_ | refine J_aload_nN C rfl dL_law_133 ?_
  refine J_callSW (n := 4) C S (c_L_feed (g := g) (c_R_feed I _ _) (fun E h1 e => e.1) I.1 ?_) wl_feed in_RL (by decide +kernel) (by decide) wk_feed ws_feed rfl rfl (by exact Nat.le_of_ble_eq_true rfl) (by decide) (by omega) (by omega) dL_law_134 ?_
  · rintro r9 h1 ⟨k, -, -, -, ⟨-, rfl, rfl⟩ | ⟨-, rfl, I2, F⟩⟩
    · exact ⟨⟨_, rfl⟩, jn_out X0 (Or.inl rfl)⟩
    · exact ⟨⟨_, rfl⟩, jn_out X0 (Or.inr F)⟩
  · rintro q1 h1 (⟨w, h2, rfl, ⟨k, k1, k2, ek, ⟨en, ew, rfl⟩ | ⟨en, ew, I2, F⟩⟩, rfl⟩ | ⟨rfl, -, rfl, e⟩)
    · cases ew
      obtain ⟨I3, M3⟩ := jn_o M ho sep I (fr_rf _ _) I (vp_updL g 0 (-1 : Int32).toInt64)
      refine t_feed C Y hi hN (by omega) (by omega) (md_m M3).choose_spec (c_M_feed M3 _ _) ?_ (fun h2 th g X9 => J_widen (by omega) (by omega) (kk h2 th g X9))
      rintro r9 h3 ⟨F3, ⟨k', k1', k2', ek', ⟨en', rfl, M4⟩ | ⟨en', rfl, M4⟩⟩ | ⟨e', -, -⟩⟩
      · exact ⟨_, 0, _, rfl, jx_mk I3 M3 sep (jv_up_at _ _ _) F3 M4 P wd (by omega), Or.inl ⟨rfl, rfl, rfl⟩⟩
      · have := nI_inj (by omega) (by omega) (ek.symm.trans ek')
        omega
      · exact absurd ek (e' k k1 k2)
    · cases ew
      obtain ⟨I3, M3⟩ := jn_o M ho sep I F I2 (vp_updL g 0 (nI (nt + k)).toInt64)
      refine t_feed C Y hi hN (by omega) (by omega) (md_m M3).choose_spec (c_M_feed M3 _ _) ?_ (fun h2 th g X9 => J_widen (by omega) (by omega) (kk h2 th g X9))
      rintro r9 h3 ⟨F3, ⟨k', k1', k2', ek', ⟨en', rfl, M4⟩ | ⟨en', rfl, M4⟩⟩ | ⟨e', -, -⟩⟩
      · have := nI_inj (by omega) (by omega) (ek.symm.trans ek')
        omega
      · have ekk := nI_inj (by omega) (by omega) (ek.symm.trans ek')
        subst ekk
        exact ⟨_, 0, _, rfl, jx_mk I3 M3 sep (jv_up_at _ _ _) F3 M4 P wd (by omega), Or.inl ⟨rfl, rfl, rfl⟩⟩
      · exact absurd ek (e' k k1 k2)
    · refine t_feed C Y hi hN (by omega) (by omega) (md_m M).choose_spec (c_M_feed M _ _) ?_ (fun h2 th g X9 => J_widen (by omega) (by omega) (kk h2 th g X9))
      rintro r9 h3 ⟨F3, ⟨k', k1', k2', ek', -⟩ | ⟨e', ⟨y, rfl⟩, M4⟩⟩
      · exact absurd ek' (e k' k1' k2')
      · exact ⟨_, 1, _, rfl, jx_mk I M sep ho F3 M4 P wd (by omega), Or.inr ⟨rfl, rfl⟩⟩
set_option maxHeartbeats 1000000 in
theorem k_put (C : JC K cL_law 7 RL 1600 600128 7301098) (S : JS K) (Y : JY K sb N xs) (hi : i + 3 < N) (hN : N ≤ 256) (hc : cells + 603 ≤ 600128) (hs : slots + 80500 ≤ 7301098) (hcc : c ≤ 63) (X : jx (jv_lk K) h r m o c th g) (kk : ∀ h2 th g, jx (jv_lk K) h2 r m o (c + 1) th g → J K (cells + 603) (slots + 80500) 736 (jv_l [(4, .int (nI i)), (3, .ref o), (2, .ref m), (1, .ref r), (0, .ref sb)]) [] h2) : J K cells slots 217 (jv_l [(4, .int (nI i)), (3, .ref o), (2, .ref m), (1, .ref r), (0, .ref sb)]) [] h := by
  obtain ⟨t, tb, b, q, ta, tt, s, a, an, ap, nt, f, ds, V, j, fk, fp, L, A, md, X0, hj⟩ := X
  obtain ⟨I, M, P, wd, ho, sep⟩ := id X0
  have dd : dsI ds := I.2.2.2.2.2.2
  first | refine J_aload_n C rfl dL_law_217 ?_ | refine J_aload_nq C rfl dL_law_217 ?_ | refine J_aload_nN C rfl dL_law_217 ?_
  first | refine J_aload_n C rfl dL_law_218 ?_ | refine J_aload_nq C rfl dL_law_218 ?_ | refine J_aload_nN C rfl dL_law_218 ?_
  refine J_iload C rfl dL_law_219 ?_
  refine J_iconst C (v := nI 1) (by decide) dL_law_221 ?_
  first | refine J_niadd C dL_law_222 ?_ | refine J_iadd C dL_law_222 ?_
  refine J_sld C Y (j := i + 1) rfl (by omega) hN dL_law_223 ?_
  first | refine J_aload_n C rfl dL_law_224 ?_ | refine J_aload_nq C rfl dL_law_224 ?_ | refine J_aload_nN C rfl dL_law_224 ?_
  refine J_callSW (n := 3) C S (c_L_put (g := g) (c_R_put I (by omega) _) (fun E h1 e => e.1) I.1 ?_) wl_put in_RL (by decide +kernel) (by decide) wk_put ws_put rfl rfl (by exact Nat.le_of_ble_eq_true rfl) (by decide) (by omega) (by omega) dL_law_225 ?_
  · rintro r9 h1 ⟨k, -, -, ⟨-, -, rfl, rfl⟩ | ⟨-, rfl, V', I2, F⟩⟩
    · exact ⟨⟨_, rfl⟩, jn_out X0 (Or.inl rfl)⟩
    · exact ⟨⟨_, rfl⟩, jn_out X0 (Or.inr F)⟩
  · rintro q1 h1 (⟨w, h2, rfl, ⟨k, k1, ek, ⟨en, e120, ew, rfl⟩ | ⟨en, ew, V', I2, F⟩⟩, rfl⟩ | ⟨rfl, -, rfl, e⟩)
    · cases ew
      obtain ⟨I3, M3⟩ := jn_o M ho sep I (fr_rf _ _) I (vp_updL g 0 (-1 : Int32).toInt64)
      refine t_put C Y hi hN (by omega) (by omega) (md_m M3).choose_spec (c_M_put M3 (jn_keys X0) _) ?_ (fun h2 th g X9 => J_widen (by omega) (by omega) (kk h2 th g X9))
      rintro r9 h3 ⟨F3, ⟨k', k1', ek', ⟨en', e120', rfl, M4⟩ | ⟨en', rfl, md', P', M4⟩⟩ | ⟨e', -, -⟩⟩
      · exact ⟨_, 0, _, rfl, jx_mk I3 M3 sep (jv_up_at _ _ _) F3 M4 P wd (by omega), Or.inl ⟨rfl, rfl, rfl⟩⟩
      · have ekk := nI_inj (by omega) (by omega) (ek.symm.trans ek')
        subst ekk
        rcases en' with ⟨p, hp, hpk⟩ | hl
        · exact absurd hpk (en p (P.mem_iff.mp hp))
        · rw [P.length_eq] at hl
          omega
      · exact absurd ek (e' k k1)
    · cases ew
      obtain ⟨I3, M3⟩ := jn_o M ho sep I F I2 (vp_updL g 0 (nI (sp_text (sp_B f) nt).length).toInt64)
      refine t_put C Y hi hN (by omega) (by omega) (md_m M3).choose_spec (c_M_put M3 (jn_keys X0) _) ?_ (fun h2 th g X9 => J_widen (by omega) (by omega) (kk h2 th g X9))
      rintro r9 h3 ⟨F3, ⟨k', k1', ek', ⟨en', e120', rfl, M4⟩ | ⟨en', rfl, md', P', M4⟩⟩ | ⟨e', -, -⟩⟩
      · have ekk := nI_inj (by omega) (by omega) (ek.symm.trans ek')
        subst ekk
        rcases en with ⟨p, hp, hpk⟩ | hl
        · exact absurd hpk (en' p (P.mem_iff.mpr hp))
        · rw [P.length_eq] at e120'
          omega
      · have ekk := nI_inj (by omega) (by omega) (ek.symm.trans ek')
        subst ekk
        refine ⟨_, 0, _, rfl, jx_mk I3 M3 sep (jv_up_at _ _ _) F3 M4 (P'.trans (List.Perm.cons _ (stDrop_perm P k))) (fun p hp => ?_) (by omega), Or.inl ⟨rfl, rfl, rfl⟩⟩
        rcases List.mem_cons.mp hp with rfl | hp
        · exact text_isWd f nt
        · exact wd p (List.mem_filter.mp hp).1
      · exact absurd ek (e' k k1)
    · refine t_put C Y hi hN (by omega) (by omega) (md_m M).choose_spec (c_M_put M (jn_keys X0) _) ?_ (fun h2 th g X9 => J_widen (by omega) (by omega) (kk h2 th g X9))
      rintro r9 h3 ⟨F3, ⟨k', k1', ek', -⟩ | ⟨e', ⟨y, rfl⟩, M4⟩⟩
      · exact absurd ek' (e k' k1')
      · exact ⟨_, 1, _, rfl, jx_mk I M sep ho F3 M4 P wd (by omega), Or.inr ⟨rfl, rfl⟩⟩
set_option maxHeartbeats 1000000 in
theorem k_drop (C : JC K cL_law 7 RL 1600 600128 7301098) (S : JS K) (Y : JY K sb N xs) (hi : i + 3 < N) (hN : N ≤ 256) (hc : cells + 603 ≤ 600128) (hs : slots + 80500 ≤ 7301098) (hcc : c ≤ 63) (X : jx (jv_lk K) h r m o c th g) (kk : ∀ h2 th g, jx (jv_lk K) h2 r m o (c + 1) th g → J K (cells + 603) (slots + 80500) 736 (jv_l [(4, .int (nI i)), (3, .ref o), (2, .ref m), (1, .ref r), (0, .ref sb)]) [] h2) : J K cells slots 273 (jv_l [(4, .int (nI i)), (3, .ref o), (2, .ref m), (1, .ref r), (0, .ref sb)]) [] h := by
  obtain ⟨t, tb, b, q, ta, tt, s, a, an, ap, nt, f, ds, V, j, fk, fp, L, A, md, X0, hj⟩ := X
  obtain ⟨I, M, P, wd, ho, sep⟩ := id X0
  have dd : dsI ds := I.2.2.2.2.2.2
  first | refine J_aload_n C rfl dL_law_273 ?_ | refine J_aload_nq C rfl dL_law_273 ?_ | refine J_aload_nN C rfl dL_law_273 ?_
  first | refine J_aload_n C rfl dL_law_274 ?_ | refine J_aload_nq C rfl dL_law_274 ?_ | refine J_aload_nN C rfl dL_law_274 ?_
  refine J_iload C rfl dL_law_275 ?_
  refine J_iconst C (v := nI 1) (by decide) dL_law_277 ?_
  first | refine J_niadd C dL_law_278 ?_ | refine J_iadd C dL_law_278 ?_
  refine J_sld C Y (j := i + 1) rfl (by omega) hN dL_law_279 ?_
  first | refine J_aload_n C rfl dL_law_280 ?_ | refine J_aload_nq C rfl dL_law_280 ?_ | refine J_aload_nN C rfl dL_law_280 ?_
  refine J_callSW (n := 3) C S (c_L_drop (g := g) (c_R_drop I _) (fun E h1 e => e.1) I.1 ?_) wl_drop in_RL (by decide +kernel) (by decide) wk_drop ws_drop rfl rfl (by exact Nat.le_of_ble_eq_true rfl) (by decide) (by omega) (by omega) dL_law_281 ?_
  · rintro r9 h1 ⟨k, -, -, ⟨-, rfl, rfl⟩ | ⟨-, rfl, V', I2, F⟩⟩
    · exact ⟨⟨_, rfl⟩, jn_out X0 (Or.inl rfl)⟩
    · exact ⟨⟨_, rfl⟩, jn_out X0 (Or.inr F)⟩
  · rintro q1 h1 (⟨w, h2, rfl, ⟨k, k1, ek, ⟨en, ew, rfl⟩ | ⟨en, ew, V', I2, F⟩⟩, rfl⟩ | ⟨rfl, -, rfl, e⟩)
    · have ew : w = false := by cases w with
        | false => rfl
        | true => exact absurd ew (by decide)
      subst ew
      obtain ⟨I3, M3⟩ := jn_o M ho sep I (fr_rf _ _) I (vp_updL g 0 (lN (if false then 1 else 0)))
      refine t_drop C Y hi hN (by omega) (by omega) (md_m M3).choose_spec (c_M_drop M3 (jn_keys X0) _) ?_ (fun h2 th g X9 => J_widen (by omega) (by omega) (kk h2 th g X9))
      rintro r9 h3 ⟨F3, ⟨k', k1', ek', ⟨en', rfl, M4⟩ | ⟨en', rfl, md', P', M4⟩⟩ | ⟨e', -, -⟩⟩
      · exact ⟨_, 0, _, rfl, jx_mk I3 M3 sep (jv_up_at _ _ _) F3 M4 P wd (by omega), Or.inl ⟨rfl, rfl, false, rfl, rfl⟩⟩
      · have ekk := nI_inj (by omega) (by omega) (ek.symm.trans ek')
        subst ekk
        obtain ⟨p, hp, hpk⟩ := en'
        exact absurd hpk (en p (P.mem_iff.mp hp))
      · exact absurd ek (e' k k1)
    · have ew : w = true := by cases w with
        | true => rfl
        | false => exact absurd ew (by decide)
      subst ew
      obtain ⟨I3, M3⟩ := jn_o M ho sep I F I2 (vp_updL g 0 (lN (if true then 1 else 0)))
      refine t_drop C Y hi hN (by omega) (by omega) (md_m M3).choose_spec (c_M_drop M3 (jn_keys X0) _) ?_ (fun h2 th g X9 => J_widen (by omega) (by omega) (kk h2 th g X9))
      rintro r9 h3 ⟨F3, ⟨k', k1', ek', ⟨en', rfl, M4⟩ | ⟨en', rfl, md', P', M4⟩⟩ | ⟨e', -, -⟩⟩
      · have ekk := nI_inj (by omega) (by omega) (ek.symm.trans ek')
        subst ekk
        obtain ⟨p, hp, hpk⟩ := en
        exact absurd hpk (en' p (P.mem_iff.mpr hp))
      · have ekk := nI_inj (by omega) (by omega) (ek.symm.trans ek')
        subst ekk
        exact ⟨_, 0, _, rfl, jx_mk I3 M3 sep (jv_up_at _ _ _) F3 M4 (P'.trans (stDrop_perm P k)) (fun p hp => wd p (List.mem_filter.mp hp).1) (by omega), Or.inl ⟨rfl, rfl, true, rfl, rfl⟩⟩
      · exact absurd ek (e' k k1)
    · refine t_drop C Y hi hN (by omega) (by omega) (md_m M).choose_spec (c_M_drop M (jn_keys X0) _) ?_ (fun h2 th g X9 => J_widen (by omega) (by omega) (kk h2 th g X9))
      rintro r9 h3 ⟨F3, ⟨k', k1', ek', -⟩ | ⟨e', ⟨y, rfl⟩, M4⟩⟩
      · exact absurd ek' (e k' k1')
      · exact ⟨y, 1, _, rfl, jx_mk I M sep ho F3 M4 P wd (by omega), Or.inr ⟨rfl, rfl⟩⟩
set_option maxHeartbeats 1000000 in
theorem k_told (C : JC K cL_law 7 RL 1600 600128 7301098) (S : JS K) (Y : JY K sb N xs) (hi : i + 3 < N) (hN : N ≤ 256) (hc : cells + 603 ≤ 600128) (hs : slots + 80500 ≤ 7301098) (hcc : c ≤ 63) (X : jx (jv_lk K) h r m o c th g) (kk : ∀ h2 th g, jx (jv_lk K) h2 r m o (c + 1) th g → J K (cells + 603) (slots + 80500) 736 (jv_l [(4, .int (nI i)), (3, .ref o), (2, .ref m), (1, .ref r), (0, .ref sb)]) [] h2) : J K cells slots 336 (jv_l [(4, .int (nI i)), (3, .ref o), (2, .ref m), (1, .ref r), (0, .ref sb)]) [] h := by
  obtain ⟨t, tb, b, q, ta, tt, s, a, an, ap, nt, f, ds, V, j, fk, fp, L, A, md, X0, hj⟩ := X
  obtain ⟨I, M, P, wd, ho, sep⟩ := id X0
  have dd : dsI ds := I.2.2.2.2.2.2
  have hV : V.length ≤ 30000 := by have := libI_len I.2.2.1; omega
  first | refine J_aload_n C rfl dL_law_336 ?_ | refine J_aload_nq C rfl dL_law_336 ?_ | refine J_aload_nN C rfl dL_law_336 ?_
  first | refine J_aload_n C rfl dL_law_337 ?_ | refine J_aload_nq C rfl dL_law_337 ?_ | refine J_aload_nN C rfl dL_law_337 ?_
  refine J_iload C rfl dL_law_338 ?_
  refine J_iconst C (v := nI 1) (by decide) dL_law_340 ?_
  first | refine J_niadd C dL_law_341 ?_ | refine J_iadd C dL_law_341 ?_
  refine J_sld C Y (j := i + 1) rfl (by omega) hN dL_law_342 ?_
  first | refine J_aload_n C rfl dL_law_343 ?_ | refine J_aload_nq C rfl dL_law_343 ?_ | refine J_aload_nN C rfl dL_law_343 ?_
  refine J_callSW (n := 3) C S (c_L_told (g := g) (c_R_told I _) (fun E h1 e => e.1) I.1 ?_) wl_told in_RL (by decide +kernel) (by decide) wk_told ws_told rfl rfl (by exact Nat.le_of_ble_eq_true rfl) (by decide) (by omega) (by omega) dL_law_344 ?_
  · rintro r9 h1 ⟨rfl, k, -, -, rfl⟩
    exact ⟨⟨_, rfl⟩, jn_out X0 (Or.inl rfl)⟩
  · rintro q1 h1 (⟨w, h2, rfl, ⟨rfl, k, k1, ek, ew⟩, rfl⟩ | ⟨rfl, -, rfl, e⟩)
    · cases ew
      obtain ⟨I3, M3⟩ := jn_o M ho sep I (fr_rf _ _) I (vp_updL g 0 (nI (toldA ds V k)).toInt64)
      refine t_told C Y hi hN (by omega) (by omega) (md_m M3).choose_spec (c_M_told M3 (jn_pos X0) (jn_lex X0) hV _) ?_ (fun h2 th g X9 => J_widen (by omega) (by omega) (kk h2 th g X9))
      rintro r9 h3 ⟨F3, ⟨k', k1', ek', rfl, M4⟩ | ⟨e', -, -⟩⟩
      · have ekk := nI_inj (by omega) (by omega) (ek.symm.trans ek')
        subst ekk
        exact ⟨_, 0, _, rfl, jx_mk I3 M3 sep (jv_up_at _ _ _) F3 M4 P wd (by omega), Or.inl ⟨rfl, rfl, by rw [toldA_perm P]; rfl⟩⟩
      · exact absurd ek (e' k k1)
    · refine t_told C Y hi hN (by omega) (by omega) (md_m M).choose_spec (c_M_told M (jn_pos X0) (jn_lex X0) hV _) ?_ (fun h2 th g X9 => J_widen (by omega) (by omega) (kk h2 th g X9))
      rintro r9 h3 ⟨F3, ⟨k', k1', ek', -⟩ | ⟨e', ⟨y, rfl⟩, M4⟩⟩
      · exact absurd ek' (e k' k1')
      · exact ⟨_, 1, _, rfl, jx_mk I M sep ho F3 M4 P wd (by omega), Or.inr ⟨rfl, rfl⟩⟩
set_option maxHeartbeats 1000000 in
theorem k_about (C : JC K cL_law 7 RL 1600 600128 7301098) (S : JS K) (Y : JY K sb N xs) (hi : i + 3 < N) (hN : N ≤ 256) (hc : cells + 603 ≤ 600128) (hs : slots + 80500 ≤ 7301098) (hcc : c ≤ 63) (X : jx (jv_lk K) h r m o c th g) (kk : ∀ h2 th g, jx (jv_lk K) h2 r m o (c + 1) th g → J K (cells + 603) (slots + 80500) 736 (jv_l [(4, .int (nI i)), (3, .ref o), (2, .ref m), (1, .ref r), (0, .ref sb)]) [] h2) : J K cells slots 418 (jv_l [(4, .int (nI i)), (3, .ref o), (2, .ref m), (1, .ref r), (0, .ref sb)]) [] h := by
  obtain ⟨t, tb, b, q, ta, tt, s, a, an, ap, nt, f, ds, V, j, fk, fp, L, A, md, X0, hj⟩ := X
  obtain ⟨I, M, P, wd, ho, sep⟩ := id X0
  have dd : dsI ds := I.2.2.2.2.2.2
  first | refine J_aload_n C rfl dL_law_418 ?_ | refine J_aload_nq C rfl dL_law_418 ?_ | refine J_aload_nN C rfl dL_law_418 ?_
  first | refine J_aload_n C rfl dL_law_419 ?_ | refine J_aload_nq C rfl dL_law_419 ?_ | refine J_aload_nN C rfl dL_law_419 ?_
  refine J_iload C rfl dL_law_420 ?_
  refine J_iconst C (v := nI 1) (by decide) dL_law_422 ?_
  first | refine J_niadd C dL_law_423 ?_ | refine J_iadd C dL_law_423 ?_
  refine J_sld C Y (j := i + 1) rfl (by omega) hN dL_law_424 ?_
  first | refine J_aload_n C rfl dL_law_425 ?_ | refine J_aload_nq C rfl dL_law_425 ?_ | refine J_aload_nN C rfl dL_law_425 ?_
  refine J_callSW (n := 3) C S (c_L_about (g := g) (c_R_about I _) (fun E h1 e => e.1) I.1 ?_) wl_about in_RL (by decide +kernel) (by decide) wk_about ws_about rfl rfl (by exact Nat.le_of_ble_eq_true rfl) (by decide) (by omega) (by omega) dL_law_426 ?_
  · rintro r9 h1 ⟨rfl, k, -, -, rfl⟩
    exact ⟨⟨_, rfl⟩, jn_out X0 (Or.inl rfl)⟩
  · rintro q1 h1 (⟨w, h2, rfl, ⟨rfl, k, k1, ek, ew⟩, rfl⟩ | ⟨rfl, -, rfl, e⟩)
    · cases ew
      obtain ⟨I3, M3⟩ := jn_o M ho sep I (fr_rf _ _) I (vp_updL g 0 (aboutA ds (sp_text (sp_B f) nt)[0]? k).toInt64)
      refine t_about C Y hi hN (by omega) (by omega) (md_m M3).choose_spec (c_M_about M3 _) ?_ (fun h2 th g X9 => J_widen (by omega) (by omega) (kk h2 th g X9))
      rintro r9 h3 ⟨F3, ⟨k', k1', ek', rfl, M4⟩ | ⟨e', -, -⟩⟩
      · have ekk := nI_inj (by omega) (by omega) (ek.symm.trans ek')
        subst ekk
        exact ⟨_, 0, _, rfl, jx_mk I3 M3 sep (jv_up_at _ _ _) F3 M4 P wd (by omega), Or.inl ⟨rfl, rfl, by rw [aboutA_perm P]; rfl⟩⟩
      · exact absurd ek (e' k k1)
    · refine t_about C Y hi hN (by omega) (by omega) (md_m M).choose_spec (c_M_about M _) ?_ (fun h2 th g X9 => J_widen (by omega) (by omega) (kk h2 th g X9))
      rintro r9 h3 ⟨F3, ⟨k', k1', ek', -⟩ | ⟨e', ⟨y, rfl⟩, M4⟩⟩
      · exact absurd ek' (e k' k1')
      · exact ⟨_, 1, _, rfl, jx_mk I M sep ho F3 M4 P wd (by omega), Or.inr ⟨rfl, rfl⟩⟩
set_option maxHeartbeats 1000000 in
theorem k_hit (C : JC K cL_law 7 RL 1600 600128 7301098) (S : JS K) (Y : JY K sb N xs) (hi : i + 3 < N) (hN : N ≤ 256) (hc : cells + 603 ≤ 600128) (hs : slots + 80500 ≤ 7301098) (hcc : c ≤ 63) (X : jx (jv_lk K) h r m o c th g) (kk : ∀ h2 th g, jx (jv_lk K) h2 r m o (c + 1) th g → J K (cells + 603) (slots + 80500) 736 (jv_l [(4, .int (nI i)), (3, .ref o), (2, .ref m), (1, .ref r), (0, .ref sb)]) [] h2) : J K cells slots 624 (jv_l [(4, .int (nI i)), (3, .ref o), (2, .ref m), (1, .ref r), (0, .ref sb)]) [] h := by
  obtain ⟨t, tb, b, q, ta, tt, s, a, an, ap, nt, f, ds, V, j, fk, fp, L, A, md, X0, hj⟩ := X
  obtain ⟨I, M, P, wd, ho, sep⟩ := id X0
  have dd : dsI ds := I.2.2.2.2.2.2
  have hL : L.length ≤ 50 := by
    obtain ⟨lim, fN, fP, B, -⟩ := I.2.2.2.2.2.1
    exact Nat.le_trans B.2.2.2.2.1 B.2.2.2.2.2
  first | refine J_aload_n C rfl dL_law_624 ?_ | refine J_aload_nq C rfl dL_law_624 ?_ | refine J_aload_nN C rfl dL_law_624 ?_
  first | refine J_aload_n C rfl dL_law_625 ?_ | refine J_aload_nq C rfl dL_law_625 ?_ | refine J_aload_nN C rfl dL_law_625 ?_
  refine J_iload C rfl dL_law_626 ?_
  refine J_iconst C (v := nI 1) (by decide) dL_law_628 ?_
  first | refine J_niadd C dL_law_629 ?_ | refine J_iadd C dL_law_629 ?_
  refine J_sld C Y (j := i + 1) rfl (by omega) hN dL_law_630 ?_
  first | refine J_aload_n C rfl dL_law_631 ?_ | refine J_aload_nq C rfl dL_law_631 ?_ | refine J_aload_nN C rfl dL_law_631 ?_
  refine J_callSW (n := 3) C S (c_L_hit (g := g) (c_R_hit I _) (fun E h1 e => e.1) I.1 ?_) wl_hit in_RL (by decide +kernel) (by decide) wk_hit ws_hit rfl rfl (by exact Nat.le_of_ble_eq_true rfl) (by decide) (by omega) (by omega) dL_law_632 ?_
  · rintro r9 h1 ⟨rfl, k, y, -, -, rfl⟩
    exact ⟨⟨_, rfl⟩, jn_out X0 (Or.inl rfl)⟩
  · rintro q1 h1 (⟨w, h2, rfl, ⟨rfl, k, y9, ek, el, ew⟩, rfl⟩ | ⟨rfl, -, rfl, e⟩)
    · cases ew
      obtain ⟨I3, M3⟩ := jn_o M ho sep I (fr_rf _ _) I (vp_updL g 0 (nI y9.1).toInt64)
      have kl := (List.getElem?_eq_some_iff.mp el).1
      refine t_hit C Y hi hN (by omega) (by omega) (md_m M3).choose_spec (c_M_hit M3 _) ?_ (fun h2 th g X9 => J_widen (by omega) (by omega) (kk h2 th g X9))
      rintro r9 h3 ⟨F3, ⟨k', y', ek', el', rfl, M4⟩ | ⟨e', -, -⟩⟩
      · have kl' := (List.getElem?_eq_some_iff.mp el').1
        have ekk := nI_inj (by omega) (by omega) (ek.symm.trans ek')
        subst ekk
        cases el.symm.trans el'
        exact ⟨_, 0, _, rfl, jx_mk I3 M3 sep (jv_up_at _ _ _) F3 M4 P wd (by omega), Or.inl ⟨rfl, rfl, rfl⟩⟩
      · exact absurd ek (e' k kl)
    · refine t_hit C Y hi hN (by omega) (by omega) (md_m M).choose_spec (c_M_hit M _) ?_ (fun h2 th g X9 => J_widen (by omega) (by omega) (kk h2 th g X9))
      rintro r9 h3 ⟨F3, ⟨k', y', ek', el', -⟩ | ⟨e', ⟨y, rfl⟩, M4⟩⟩
      · exact absurd ek' (e k' (List.getElem?_eq_some_iff.mp el').1)
      · exact ⟨_, 1, _, rfl, jx_mk I M sep ho F3 M4 P wd (by omega), Or.inr ⟨rfl, rfl⟩⟩
set_option maxHeartbeats 1000000 in
theorem k_score (C : JC K cL_law 7 RL 1600 600128 7301098) (S : JS K) (Y : JY K sb N xs) (hi : i + 3 < N) (hN : N ≤ 256) (hc : cells + 603 ≤ 600128) (hs : slots + 80500 ≤ 7301098) (hcc : c ≤ 63) (X : jx (jv_lk K) h r m o c th g) (kk : ∀ h2 th g, jx (jv_lk K) h2 r m o (c + 1) th g → J K (cells + 603) (slots + 80500) 736 (jv_l [(4, .int (nI i)), (3, .ref o), (2, .ref m), (1, .ref r), (0, .ref sb)]) [] h2) : J K cells slots 680 (jv_l [(4, .int (nI i)), (3, .ref o), (2, .ref m), (1, .ref r), (0, .ref sb)]) [] h := by
  obtain ⟨t, tb, b, q, ta, tt, s, a, an, ap, nt, f, ds, V, j, fk, fp, L, A, md, X0, hj⟩ := X
  obtain ⟨I, M, P, wd, ho, sep⟩ := id X0
  have dd : dsI ds := I.2.2.2.2.2.2
  have hL : L.length ≤ 50 := by
    obtain ⟨lim, fN, fP, B, -⟩ := I.2.2.2.2.2.1
    exact Nat.le_trans B.2.2.2.2.1 B.2.2.2.2.2
  first | refine J_aload_n C rfl dL_law_680 ?_ | refine J_aload_nq C rfl dL_law_680 ?_ | refine J_aload_nN C rfl dL_law_680 ?_
  first | refine J_aload_n C rfl dL_law_681 ?_ | refine J_aload_nq C rfl dL_law_681 ?_ | refine J_aload_nN C rfl dL_law_681 ?_
  refine J_iload C rfl dL_law_682 ?_
  refine J_iconst C (v := nI 1) (by decide) dL_law_684 ?_
  first | refine J_niadd C dL_law_685 ?_ | refine J_iadd C dL_law_685 ?_
  refine J_sld C Y (j := i + 1) rfl (by omega) hN dL_law_686 ?_
  first | refine J_aload_n C rfl dL_law_687 ?_ | refine J_aload_nq C rfl dL_law_687 ?_ | refine J_aload_nN C rfl dL_law_687 ?_
  refine J_callSW (n := 3) C S (c_L_score (g := g) (c_R_score I _) (fun E h1 e => e.1) I.1 ?_) wl_score in_RL (by decide +kernel) (by decide) wk_score ws_score rfl rfl (by exact Nat.le_of_ble_eq_true rfl) (by decide) (by omega) (by omega) dL_law_688 ?_
  · rintro r9 h1 ⟨rfl, k, y, -, -, rfl⟩
    exact ⟨⟨_, rfl⟩, jn_out X0 (Or.inl rfl)⟩
  · rintro q1 h1 (⟨w, h2, rfl, ⟨rfl, k, y9, ek, el, ew⟩, rfl⟩ | ⟨rfl, -, rfl, e⟩)
    · cases ew
      obtain ⟨I3, M3⟩ := jn_o M ho sep I (fr_rf _ _) I (vp_updL g 0 (y9.2).toInt64)
      have kl := (List.getElem?_eq_some_iff.mp el).1
      refine t_score C Y hi hN (by omega) (by omega) (md_m M3).choose_spec (c_M_score M3 _) ?_ (fun h2 th g X9 => J_widen (by omega) (by omega) (kk h2 th g X9))
      rintro r9 h3 ⟨F3, ⟨k', y', ek', el', rfl, M4⟩ | ⟨e', -, -⟩⟩
      · have kl' := (List.getElem?_eq_some_iff.mp el').1
        have ekk := nI_inj (by omega) (by omega) (ek.symm.trans ek')
        subst ekk
        cases el.symm.trans el'
        exact ⟨_, 0, _, rfl, jx_mk I3 M3 sep (jv_up_at _ _ _) F3 M4 P wd (by omega), Or.inl ⟨rfl, rfl, rfl⟩⟩
      · exact absurd ek (e' k kl)
    · refine t_score C Y hi hN (by omega) (by omega) (md_m M).choose_spec (c_M_score M _) ?_ (fun h2 th g X9 => J_widen (by omega) (by omega) (kk h2 th g X9))
      rintro r9 h3 ⟨F3, ⟨k', y', ek', el', -⟩ | ⟨e', ⟨y, rfl⟩, M4⟩⟩
      · exact absurd ek' (e k' (List.getElem?_eq_some_iff.mp el').1)
      · exact ⟨_, 1, _, rfl, jx_mk I M sep ho F3 M4 P wd (by omega), Or.inr ⟨rfl, rfl⟩⟩
set_option maxHeartbeats 1000000 in
theorem k_find (C : JC K cL_law 7 RL 1600 600128 7301098) (S : JS K) (Y : JY K sb N xs) (hi : i + 3 < N) (hN : N ≤ 256) (hc : cells + 603 ≤ 600128) (hs : slots + 80500 ≤ 7301098) (hcc : c ≤ 63) (X : jx (jv_lk K) h r m o c th g) (kk : ∀ h2 th g, jx (jv_lk K) h2 r m o (c + 1) th g → J K (cells + 603) (slots + 80500) 736 (jv_l [(4, .int (nI i)), (3, .ref o), (2, .ref m), (1, .ref r), (0, .ref sb)]) [] h2) : J K cells slots 474 (jv_l [(4, .int (nI i)), (3, .ref o), (2, .ref m), (1, .ref r), (0, .ref sb)]) [] h := by
  obtain ⟨t, tb, b, q, ta, tt, s, a, an, ap, nt, f, ds, V, j, fk, fp, L, A, md, X0, hj⟩ := X
  obtain ⟨I, M, P, wd, ho, sep⟩ := id X0
  have dd : dsI ds := I.2.2.2.2.2.2
  first | refine J_aload_n C rfl dL_law_474 ?_ | refine J_aload_nq C rfl dL_law_474 ?_ | refine J_aload_nN C rfl dL_law_474 ?_
  first | refine J_aload_n C rfl dL_law_475 ?_ | refine J_aload_nq C rfl dL_law_475 ?_ | refine J_aload_nN C rfl dL_law_475 ?_
  refine J_iload C rfl dL_law_476 ?_
  refine J_iconst C (v := nI 1) (by decide) dL_law_478 ?_
  first | refine J_niadd C dL_law_479 ?_ | refine J_iadd C dL_law_479 ?_
  refine J_sld C Y (j := i + 1) rfl (by omega) hN dL_law_480 ?_
  first | refine J_aload_n C rfl dL_law_481 ?_ | refine J_aload_nq C rfl dL_law_481 ?_ | refine J_aload_nN C rfl dL_law_481 ?_
  refine J_callSW (n := 3) C S (c_L_find (g := g) (c_R_find I _) (fun E h1 e => e.1) I.1 ?_) wl_find in_RL (by decide +kernel) (by decide) wk_find ws_find rfl rfl (by exact Nat.le_of_ble_eq_true rfl) (by decide) (by omega) (by omega) dL_law_482 ?_
  · rintro r9 h1 ⟨k, -, -, -, tv0, L', I2, F, ⟨-, -, rfl⟩ | ⟨-, -, rfl⟩⟩
    · exact ⟨⟨_, rfl⟩, jn_out X0 (Or.inr F)⟩
    · exact ⟨⟨_, rfl⟩, jn_out X0 (Or.inr F)⟩
  · rintro q1 h1 (⟨w, h2, rfl, ⟨k, k1, k2, ek, tv0, L', I2, F, e⟩, rfl⟩ | ⟨rfl, -, rfl, e⟩)
    · generalize hE : qs_all (sp_B f) nt tv0 = E at I2 e
      rcases e with ⟨e0, eL, ew⟩ | ⟨e0, eT, ew⟩
      · subst eL
        cases ew
        obtain ⟨I3, M3⟩ := jn_o M ho sep I F I2 (vp_updL g 0 (-1 : Int32).toInt64)
        refine t_find C Y hi hN (by omega) (by omega) (md_m M3).choose_spec (c_M_find M3 (jn_keys X0) _ tv0 E hE.symm) ?_ (fun h2 th g X9 => J_widen (by omega) (by omega) (kk h2 th g X9))
        rintro r9 h3 ⟨F3, ⟨k', k1', k2', ek', L2, M4, ⟨e0', rfl, rfl⟩ | ⟨e0', -, -, -, -⟩⟩ | ⟨e', -, -⟩⟩
        · exact ⟨_, 0, _, rfl, jx_mk I3 M3 sep (jv_up_at _ _ _) F3 M4 P wd (by omega), Or.inl ⟨rfl, rfl, rfl⟩⟩
        · exact absurd e0' e0
        · exact absurd ek (e' k k1 k2)
      · cases ew
        obtain ⟨I3, M3⟩ := jn_o M ho sep I F I2 (vp_updL g 0 (nI L'.length).toInt64)
        refine t_find C Y hi hN (by omega) (by omega) (md_m M3).choose_spec (c_M_find M3 (jn_keys X0) _ tv0 E hE.symm) ?_ (fun h2 th g X9 => J_widen (by omega) (by omega) (kk h2 th g X9))
        rintro r9 h3 ⟨F3, ⟨k', k1', k2', ek', L2, M4, ⟨e0', -, -⟩ | ⟨-, ec, eo, eT', rfl⟩⟩ | ⟨e', -, -⟩⟩
        · exact absurd e0 e0'
        · have ekk := nI_inj (by omega) (by omega) (ek.symm.trans ek')
          subst ekk
          have eq := fd_same P (libI_lex I.2.2.1) wd (fun p hp => (dd.2.1 p hp).1) ec eo eT eT'
          subst eq
          exact ⟨_, 0, _, rfl, jx_mk I3 M3 sep (jv_up_at _ _ _) F3 M4 P wd (by omega), Or.inl ⟨rfl, rfl, rfl⟩⟩
        · exact absurd ek (e' k k1 k2)
    · refine t_find C Y hi hN (by omega) (by omega) (md_m M).choose_spec (c_M_find M (jn_keys X0) _ (fun _ => (false, false, false, 0, 0, 0)) _ rfl) ?_ (fun h2 th g X9 => J_widen (by omega) (by omega) (kk h2 th g X9))
      rintro r9 h3 ⟨F3, ⟨k', k1', k2', ek', -⟩ | ⟨e', ⟨y, rfl⟩, M4⟩⟩
      · exact absurd ek' (e k' k1' k2')
      · exact ⟨_, 1, _, rfl, jx_mk I M sep ho F3 M4 P wd (by omega), Or.inr ⟨rfl, rfl⟩⟩
set_option maxHeartbeats 1000000 in
theorem k_similar (C : JC K cL_law 7 RL 1600 600128 7301098) (S : JS K) (Y : JY K sb N xs) (hi : i + 3 < N) (hN : N ≤ 256) (hc : cells + 603 ≤ 600128) (hs : slots + 80500 ≤ 7301098) (hcc : c ≤ 63) (X : jx (jv_lk K) h r m o c th g) (kk : ∀ h2 th g, jx (jv_lk K) h2 r m o (c + 1) th g → J K (cells + 603) (slots + 80500) 736 (jv_l [(4, .int (nI i)), (3, .ref o), (2, .ref m), (1, .ref r), (0, .ref sb)]) [] h2) : J K cells slots 556 (jv_l [(4, .int (nI i)), (3, .ref o), (2, .ref m), (1, .ref r), (0, .ref sb)]) [] h := by
  obtain ⟨t, tb, b, q, ta, tt, s, a, an, ap, nt, f, ds, V, j, fk, fp, L, A, md, X0, hj⟩ := X
  obtain ⟨I, M, P, wd, ho, sep⟩ := id X0
  have dd : dsI ds := I.2.2.2.2.2.2
  first | refine J_aload_n C rfl dL_law_556 ?_ | refine J_aload_nq C rfl dL_law_556 ?_ | refine J_aload_nN C rfl dL_law_556 ?_
  first | refine J_aload_n C rfl dL_law_557 ?_ | refine J_aload_nq C rfl dL_law_557 ?_ | refine J_aload_nN C rfl dL_law_557 ?_
  refine J_iload C rfl dL_law_558 ?_
  refine J_iconst C (v := nI 1) (by decide) dL_law_560 ?_
  first | refine J_niadd C dL_law_561 ?_ | refine J_iadd C dL_law_561 ?_
  refine J_sld C Y (j := i + 1) rfl (by omega) hN dL_law_562 ?_
  first | refine J_aload_n C rfl dL_law_563 ?_ | refine J_aload_nq C rfl dL_law_563 ?_ | refine J_aload_nN C rfl dL_law_563 ?_
  refine J_iload C rfl dL_law_564 ?_
  refine J_iconst C (v := nI 2) (by decide) dL_law_566 ?_
  first | refine J_niadd C dL_law_567 ?_ | refine J_iadd C dL_law_567 ?_
  refine J_sld C Y (j := i + 2) rfl (by omega) hN dL_law_568 ?_
  first | refine J_aload_n C rfl dL_law_569 ?_ | refine J_aload_nq C rfl dL_law_569 ?_ | refine J_aload_nN C rfl dL_law_569 ?_
  refine J_callSW (n := 4) C S (c_L_similar (g := g) (c_R_similar I _ _) (fun E h1 e => e.1) I.1 ?_) wl_similar in_RL (by decide +kernel) (by decide) wk_similar ws_similar rfl rfl (by exact Nat.le_of_ble_eq_true rfl) (by decide) (by omega) (by omega) dL_law_570 ?_
  · rintro r9 h1 ⟨k0, we, k, U, L', -, -, -, -, -, -, -, I2, F, -, rfl⟩
    exact ⟨⟨_, rfl⟩, jn_out X0 (Or.inr F)⟩
  · rintro q1 h1 (⟨w, h2, rfl, ⟨k0, we, k, U, L', k1, k2, ek, ek0, hwe, hU, hUm, I2, F, eT, ew⟩, rfl⟩ | ⟨rfl, -, rfl, e⟩)
    · cases ew
      obtain ⟨I3, M3⟩ := jn_o M ho sep I F I2 (vp_updL g 0 (nI L'.length).toInt64)
      refine t_similar C Y hi hN (by omega) (by omega) (md_m M3).choose_spec (c_M_similar M3 (jn_keys X0) _ _) ?_ (fun h2 th g X9 => J_widen (by omega) (by omega) (kk h2 th g X9))
      rintro r9 h3 ⟨F3, ⟨k0', we', k', L2, k1', k2', ek', ek0', hk0', hwe', M4, eT', rfl⟩ | ⟨e', -, -⟩⟩
      · have hk0 := (dd.2.1 _ hwe).1
        have ekk := nI_inj (by omega) (by omega) (ek.symm.trans ek')
        subst ekk
        have ekk := nI_inj (by omega) (by omega) (ek0.symm.trans ek0')
        subst ekk
        have ewe := ky_uniq dd.1 hwe (P.mem_iff.mp hwe')
        subst ewe
        have eq := sm_same P (fun p hp => (dd.2.1 p hp).1) hk0' hU hUm eT eT'
        subst eq
        exact ⟨_, 0, _, rfl, jx_mk I3 M3 sep (jv_up_at _ _ _) F3 M4 P wd (by omega), Or.inl ⟨rfl, rfl, rfl⟩⟩
      · rcases e' with e' | e'
        · exact absurd ek (e' k k1 k2)
        · exact absurd ek0 (e' _ (P.mem_iff.mpr hwe))
    · refine t_similar C Y hi hN (by omega) (by omega) (md_m M).choose_spec (c_M_similar M (jn_keys X0) _ _) ?_ (fun h2 th g X9 => J_widen (by omega) (by omega) (kk h2 th g X9))
      rintro r9 h3 ⟨F3, ⟨k0', we', k', L2, k1', k2', ek', ek0', hk0', hwe', -⟩ | ⟨e', ⟨y, rfl⟩, M4⟩⟩
      · rcases e with e | e
        · exact absurd ek' (e k' k1' k2')
        · exact absurd ek0' (e _ (P.mem_iff.mp hwe'))
      · exact ⟨_, 1, _, rfl, jx_mk I M sep ho F3 M4 P wd (by omega), Or.inr ⟨rfl, rfl⟩⟩
end CALLS
