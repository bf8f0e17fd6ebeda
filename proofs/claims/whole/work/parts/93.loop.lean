/-! the law: the calls that do not throw; its loop -/
section LOOP
variable {K : jT} {sb N i r m o c th cells slots : Nat} {xs : Nat → Int32} {h : jH} {g : Nat → Int64}
theorem k_wipe (C : JC K cL_law 7 RL 1600 600128 7301098) (S : JS K) (Y : JY K sb N xs) (hi : i + 3 < N) (hN : N ≤ 256) (hc : cells + 603 ≤ 600128) (hs : slots + 80500 ≤ 7301098) (hcc : c ≤ 63) (X : jx (jv_lk K) h r m o c th g) (kk : ∀ h2 th g, jx (jv_lk K) h2 r m o (c + 1) th g → J K (cells + 603) (slots + 80500) 736 (jv_l [(4, .int (nI i)), (3, .ref o), (2, .ref m), (1, .ref r), (0, .ref sb)]) [] h2) : J K cells slots 204 (jv_l [(4, .int (nI i)), (3, .ref o), (2, .ref m), (1, .ref r), (0, .ref sb)]) [] h := by
  obtain ⟨t, tb, b, q, ta, tt, s, a, an, ap, nt, f, ds, V, j, fk, fp, L, A, md, X0, hj⟩ := X
  obtain ⟨I, M, P, wd, ho, sep⟩ := id X0
  first | refine J_aload_n C rfl dL_law_204 ?_ | refine J_aload_nq C rfl dL_law_204 ?_ | refine J_aload_nN C rfl dL_law_204 ?_
  refine J_callV C (c_R_wipe I) cw_L_60 I.1 rfl rfl rfl rfl (by exact Nat.le_of_ble_eq_true rfl) (by decide) (by omega) (by omega) dL_law_205 ?_
  rintro _ h1 ⟨rfl, I2, F⟩
  have M2 := md_stay M (fun y hy => rk_out I F (notR_m M sep y hy))
  have ho2 := jn_out X0 (Or.inr F)
  first | refine J_aload_n C rfl dL_law_208 ?_ | refine J_aload_nq C rfl dL_law_208 ?_ | refine J_aload_nN C rfl dL_law_208 ?_
  refine J_callV C (c_M_wipe M2) cw_L_63 (md_m M2).choose_spec rfl rfl rfl rfl (by exact Nat.le_of_ble_eq_true rfl) (by decide) (by omega) (by omega) dL_law_209 ?_
  rintro _ h2 ⟨F3, rfl, M3⟩
  refine J_icmp_eq C 736 (by decide) dL_law_212 (fun _ => ?_) (fun z => absurd rfl z)
  exact J_widen (by omega) (by omega) (kk _ _ _ (jx_mk I2 M2 sep ho2 F3 (M3 (sp_B f)) P wd (by omega)))
theorem k_fault (C : JC K cL_law 7 RL 1600 600128 7301098) (S : JS K) (Y : JY K sb N xs) (hi : i + 3 < N) (hN : N ≤ 256) (hc : cells + 603 ≤ 600128) (hs : slots + 80500 ≤ 7301098) (hcc : c ≤ 63) (X : jx (jv_lk K) h r m o c th g) (kk : ∀ h2 th g, jx (jv_lk K) h2 r m o (c + 1) th g → J K (cells + 603) (slots + 80500) 736 (jv_l [(4, .int (nI i)), (3, .ref o), (2, .ref m), (1, .ref r), (0, .ref sb)]) [] h2) : J K cells slots 530 (jv_l [(4, .int (nI i)), (3, .ref o), (2, .ref m), (1, .ref r), (0, .ref sb)]) [] h := by
  obtain ⟨t, tb, b, q, ta, tt, s, a, an, ap, nt, f, ds, V, j, fk, fp, L, A, md, X0, hj⟩ := X
  obtain ⟨I, M, P, wd, ho, sep⟩ := id X0
  first | refine J_aload_n C rfl dL_law_530 ?_ | refine J_aload_nq C rfl dL_law_530 ?_ | refine J_aload_nN C rfl dL_law_530 ?_
  refine J_callV C (c_R_fault I) cw_L_85 I.1 rfl rfl rfl rfl (by exact Nat.le_of_ble_eq_true rfl) (by decide) (by omega) (by omega) dL_law_531 ?_
  rintro _ h1 ⟨rfl, e1⟩; replace e1 := e1.symm; subst e1
  first | refine J_aload_n C rfl dL_law_534 ?_ | refine J_aload_nq C rfl dL_law_534 ?_ | refine J_aload_nN C rfl dL_law_534 ?_
  refine J_callV C (c_M_fault M) cw_L_88 (md_m M).choose_spec rfl rfl rfl rfl (by exact Nat.le_of_ble_eq_true rfl) (by decide) (by omega) (by omega) dL_law_535 ?_
  rintro _ h2 ⟨F3, rfl, M3⟩
  refine J_icmp_eq C 736 (by decide) dL_law_538 (fun _ => ?_) (fun z => absurd rfl z)
  exact J_widen (by omega) (by omega) (kk _ _ _ (jx_mk I M sep ho F3 M3 P wd (by omega)))
theorem k_place (C : JC K cL_law 7 RL 1600 600128 7301098) (S : JS K) (Y : JY K sb N xs) (hi : i + 3 < N) (hN : N ≤ 256) (hc : cells + 603 ≤ 600128) (hs : slots + 80500 ≤ 7301098) (hcc : c ≤ 63) (X : jx (jv_lk K) h r m o c th g) (kk : ∀ h2 th g, jx (jv_lk K) h2 r m o (c + 1) th g → J K (cells + 603) (slots + 80500) 736 (jv_l [(4, .int (nI i)), (3, .ref o), (2, .ref m), (1, .ref r), (0, .ref sb)]) [] h2) : J K cells slots 543 (jv_l [(4, .int (nI i)), (3, .ref o), (2, .ref m), (1, .ref r), (0, .ref sb)]) [] h := by
  obtain ⟨t, tb, b, q, ta, tt, s, a, an, ap, nt, f, ds, V, j, fk, fp, L, A, md, X0, hj⟩ := X
  obtain ⟨I, M, P, wd, ho, sep⟩ := id X0
  first | refine J_aload_n C rfl dL_law_543 ?_ | refine J_aload_nq C rfl dL_law_543 ?_ | refine J_aload_nN C rfl dL_law_543 ?_
  refine J_callV C (c_R_place I) cw_L_89 I.1 rfl rfl rfl rfl (by exact Nat.le_of_ble_eq_true rfl) (by decide) (by omega) (by omega) dL_law_544 ?_
  rintro _ h1 ⟨rfl, e1⟩; replace e1 := e1.symm; subst e1
  first | refine J_aload_n C rfl dL_law_547 ?_ | refine J_aload_nq C rfl dL_law_547 ?_ | refine J_aload_nN C rfl dL_law_547 ?_
  refine J_callV C (c_M_place M) cw_L_92 (md_m M).choose_spec rfl rfl rfl rfl (by exact Nat.le_of_ble_eq_true rfl) (by decide) (by omega) (by omega) dL_law_548 ?_
  rintro _ h2 ⟨F3, rfl, M3⟩
  refine J_icmp_eq C 736 (by decide) dL_law_551 (fun _ => ?_) (fun z => absurd rfl z)
  exact J_widen (by omega) (by omega) (kk _ _ _ (jx_mk I M sep ho F3 M3 P wd (by omega)))
theorem k_word (C : JC K cL_law 7 RL 1600 600128 7301098) (S : JS K) (Y : JY K sb N xs) (hi : i + 3 < N) (hN : N ≤ 256) (hc : cells + 603 ≤ 600128) (hs : slots + 80500 ≤ 7301098) (hcc : c ≤ 63) (X : jx (jv_lk K) h r m o c th g) (kk : ∀ h2 th g, jx (jv_lk K) h2 r m o (c + 1) th g → J K (cells + 603) (slots + 80500) 736 (jv_l [(4, .int (nI i)), (3, .ref o), (2, .ref m), (1, .ref r), (0, .ref sb)]) [] h2) : J K cells slots 392 (jv_l [(4, .int (nI i)), (3, .ref o), (2, .ref m), (1, .ref r), (0, .ref sb)]) [] h := by
  obtain ⟨t, tb, b, q, ta, tt, s, a, an, ap, nt, f, ds, V, j, fk, fp, L, A, md, X0, hj⟩ := X
  obtain ⟨I, M, P, wd, ho, sep⟩ := id X0
  have hV : V.length ≤ 30000 := by have := libI_len I.2.2.1; omega
  first | refine J_aload_n C rfl dL_law_392 ?_ | refine J_aload_nq C rfl dL_law_392 ?_ | refine J_aload_nN C rfl dL_law_392 ?_
  first | refine J_aload_n C rfl dL_law_393 ?_ | refine J_aload_nq C rfl dL_law_393 ?_ | refine J_aload_nN C rfl dL_law_393 ?_
  refine J_iload C rfl dL_law_394 ?_
  refine J_iconst C (v := nI 1) (by decide) dL_law_396 ?_
  first | refine J_niadd C dL_law_397 ?_ | refine J_iadd C dL_law_397 ?_
  refine J_sld C Y (j := i + 1) rfl (by omega) hN dL_law_398 ?_
  refine J_callV C (c_R_word I (xs (i + 1))) cw_L_74 I.1 rfl rfl rfl rfl (by exact Nat.le_of_ble_eq_true rfl) (by decide) (by omega) (by omega) dL_law_399 ?_
  rintro r9 h1 ⟨e1, e⟩; replace e1 := e1.symm; subst e1
  have key : ∀ v : Int64, r9 = some (.long v) → (∀ r8 : Option Value, ((r8 = some (.long (-1)) ∧ ∀ k, k < V.length → xs (i + 1) ≠ nI k) ∨ ∃ k w, xs (i + 1) = nI k ∧ V[k]? = some w ∧ r8 = some (.long (sp_turn w 12))) → r8 = some (.long v)) → J K (cells + 0) (slots + 0) 402 (jv_l [(4, .int (nI i)), (3, .ref o), (2, .ref m), (1, .ref r), (0, .ref sb)]) (r9.toList ++ []) h := by
    rintro v rfl hv
    first | refine J_aload_n C rfl dL_law_402 ?_ | refine J_aload_nq C rfl dL_law_402 ?_ | refine J_aload_nN C rfl dL_law_402 ?_
    first | refine J_aload_n C rfl dL_law_403 ?_ | refine J_aload_nq C rfl dL_law_403 ?_ | refine J_aload_nN C rfl dL_law_403 ?_
    refine J_iload C rfl dL_law_404 ?_
    refine J_iconst C (v := nI 1) (by decide) dL_law_406 ?_
    first | refine J_niadd C dL_law_407 ?_ | refine J_iadd C dL_law_407 ?_
    refine J_sld C Y (j := i + 1) rfl (by omega) hN dL_law_408 ?_
    refine J_callV C (c_M_word M (jn_pos X0) (jn_lex X0) hV (xs (i + 1))) cw_L_78 (md_m M).choose_spec rfl rfl rfl rfl (by exact Nat.le_of_ble_eq_true rfl) (by decide) (by omega) (by omega) dL_law_409 ?_
    rintro r8 h2 ⟨F3, M3, e8⟩
    cases hv r8 e8
    refine J_lcmp C dL_law_412 ?_
    rw [lg_self]
    refine J_if_eq C 736 (by decide) dL_law_413 (fun _ => ?_) (fun z => absurd rfl z)
    exact J_widen (by omega) (by omega) (kk _ _ _ (jx_mk I M sep ho F3 M3 P wd (by omega)))
  rcases e with ⟨rfl, e⟩ | ⟨k, w, ek, ew, rfl⟩
  · refine key _ rfl (fun r8 e8 => ?_)
    rcases e8 with ⟨rfl, -⟩ | ⟨k, w, ek, ew, -⟩
    · rfl
    · exact absurd ek (e k (List.getElem?_eq_some_iff.mp ew).1)
  · have kl := (List.getElem?_eq_some_iff.mp ew).1
    refine key _ rfl (fun r8 e8 => ?_)
    rcases e8 with ⟨-, e8⟩ | ⟨k', w', ek', ew', rfl⟩
    · exact absurd ek (e8 k kl)
    · have kl' := (List.getElem?_eq_some_iff.mp ew').1
      have ekk := nI_inj (by omega) (by omega) (ek.symm.trans ek')
      subst ekk
      cases ew.symm.trans ew'
      rfl
theorem i_and15 (x : Int32) : ∃ k, k < 16 ∧ x &&& nI 15 = nI k := by
  have h15 : (15 : Nat) = 2 ^ 4 - 1 := rfl
  refine ⟨x.toBitVec.toNat % 16, Nat.mod_lt _ (by decide), ?_⟩
  apply Int32.toBitVec_inj.mp
  apply BitVec.eq_of_toNat_eq
  rw [Int32.toBitVec_and, BitVec.toNat_and]
  show x.toBitVec.toNat &&& 15 = (BitVec.ofNat 32 (x.toBitVec.toNat % 16)).toNat
  rw [BitVec.toNat_ofNat, h15, Nat.and_two_pow_sub_one_eq_mod]
  exact (Nat.mod_eq_of_lt (Nat.lt_of_lt_of_le (Nat.mod_lt _ (by decide)) (by decide))).symm
set_option maxHeartbeats 1000000 in
theorem k_step (C : JC K cL_law 7 RL 1600 600128 7301098) (S : JS K) (Y : JY K sb N xs) (hi : i + 3 < N) (hN : N ≤ 256) (hc : cells + 603 ≤ 600128) (hs : slots + 80500 ≤ 7301098) (hcc : c ≤ 63) (X : jx (jv_lk K) h r m o c th g) (kk : ∀ h2 th g, jx (jv_lk K) h2 r m o (c + 1) th g → J K (cells + 603) (slots + 80500) 736 (jv_l [(4, .int (nI i)), (3, .ref o), (2, .ref m), (1, .ref r), (0, .ref sb)]) [] h2) : J K cells slots 32 (jv_l [(4, .int (nI i)), (3, .ref o), (2, .ref m), (1, .ref r), (0, .ref sb)]) [] h := by
  first | refine J_aload_n C rfl dL_law_32 ?_ | refine J_aload_nq C rfl dL_law_32 ?_ | refine J_aload_nN C rfl dL_law_32 ?_
  refine J_iload C rfl dL_law_33 ?_
  refine J_sld C Y (j := i) rfl (by omega) hN dL_law_35 ?_
  refine J_bipush C (v := nI 15) (by decide) dL_law_36 ?_
  refine J_iand C dL_law_38 ?_
  obtain ⟨k, hk, e⟩ := i_and15 (xs i)
  rw [e]
  have ht : (nI k).toInt = k := nI_toInt (by omega)
  rcases (show k = 0 ∨ k = 1 ∨ k = 2 ∨ k = 3 ∨ k = 4 ∨ k = 5 ∨ k = 6 ∨ k = 7 ∨ k = 8 ∨ k = 9 ∨ k = 10 ∨ k = 11 ∨ k = 12 ∨ 12 < k by omega) with e | e | e | e | e | e | e | e | e | e | e | e | e | e
  · refine J_tableIn C (off := 65) 104 (by rw [ht]; omega) (by rw [ht]; omega) (by rw [ht, e]; rfl) (by decide) dL_law_39 ?_
    exact k_feed C S Y hi hN hc hs hcc X kk
  · refine J_tableIn C (off := 165) 204 (by rw [ht]; omega) (by rw [ht]; omega) (by rw [ht, e]; rfl) (by decide) dL_law_39 ?_
    exact k_wipe C S Y hi hN hc hs hcc X kk
  · refine J_tableIn C (off := 178) 217 (by rw [ht]; omega) (by rw [ht]; omega) (by rw [ht, e]; rfl) (by decide) dL_law_39 ?_
    exact k_put C S Y hi hN hc hs hcc X kk
  · refine J_tableIn C (off := 234) 273 (by rw [ht]; omega) (by rw [ht]; omega) (by rw [ht, e]; rfl) (by decide) dL_law_39 ?_
    exact k_drop C S Y hi hN hc hs hcc X kk
  · refine J_tableIn C (off := 297) 336 (by rw [ht]; omega) (by rw [ht]; omega) (by rw [ht, e]; rfl) (by decide) dL_law_39 ?_
    exact k_told C S Y hi hN hc hs hcc X kk
  · refine J_tableIn C (off := 353) 392 (by rw [ht]; omega) (by rw [ht]; omega) (by rw [ht, e]; rfl) (by decide) dL_law_39 ?_
    exact k_word C S Y hi hN hc hs hcc X kk
  · refine J_tableIn C (off := 379) 418 (by rw [ht]; omega) (by rw [ht]; omega) (by rw [ht, e]; rfl) (by decide) dL_law_39 ?_
    exact k_about C S Y hi hN hc hs hcc X kk
  · refine J_tableIn C (off := 435) 474 (by rw [ht]; omega) (by rw [ht]; omega) (by rw [ht, e]; rfl) (by decide) dL_law_39 ?_
    exact k_find C S Y hi hN hc hs hcc X kk
  · refine J_tableIn C (off := 491) 530 (by rw [ht]; omega) (by rw [ht]; omega) (by rw [ht, e]; rfl) (by decide) dL_law_39 ?_
    exact k_fault C S Y hi hN hc hs hcc X kk
  · refine J_tableIn C (off := 504) 543 (by rw [ht]; omega) (by rw [ht]; omega) (by rw [ht, e]; rfl) (by decide) dL_law_39 ?_
    exact k_place C S Y hi hN hc hs hcc X kk
  · refine J_tableIn C (off := 517) 556 (by rw [ht]; omega) (by rw [ht]; omega) (by rw [ht, e]; rfl) (by decide) dL_law_39 ?_
    exact k_similar C S Y hi hN hc hs hcc X kk
  · refine J_tableIn C (off := 585) 624 (by rw [ht]; omega) (by rw [ht]; omega) (by rw [ht, e]; rfl) (by decide) dL_law_39 ?_
    exact k_hit C S Y hi hN hc hs hcc X kk
  · refine J_tableIn C (off := 641) 680 (by rw [ht]; omega) (by rw [ht]; omega) (by rw [ht, e]; rfl) (by decide) dL_law_39 ?_
    exact k_score C S Y hi hN hc hs hcc X kk
  · refine J_tableOut C 736 (Or.inr (by rw [ht]; omega)) (by decide) dL_law_39 ?_
    obtain ⟨t, tb, b, q, ta, tt, s, a, an, ap, nt, f, ds, V, j, fk, fp, L, A, md, X0, hj⟩ := X
    exact J_widen (by omega) (by omega) (kk _ _ _ ⟨t, tb, b, q, ta, tt, s, a, an, ap, nt, f, ds, V, j, fk, fp, L, A, md, X0, by omega⟩)
end LOOP
section LOOP2
variable {K : jT} {sb N r m o : Nat} {xs : Nat → Int32}
theorem law_loop (C : JC K cL_law 7 RL 1600 600128 7301098) (S : JS K) (Y : JY K sb N xs) (hN : N ≤ 256) (fin : ∀ cells slots lv h, cells ≤ 600128 → slots ≤ 7301098 → J K cells slots 743 lv [.int 1] h) : ∀ w c i cells slots h th g, i = 4 * c → i ≤ N → N < i + 4 * w → cells ≤ 100 + 603 * c → slots ≤ 200000 + 80500 * c → jx (jv_lk K) h r m o c th g → J K cells slots 23 (jv_l [(4, .int (nI i)), (3, .ref o), (2, .ref m), (1, .ref r), (0, .ref sb)]) [] h := by
  intro w
  induction w with
  | zero => intro c i cells slots h th g e1 e2 e3; omega
  | succ w ih =>
    intro c i cells slots h th g e1 e2 e3 e4 e5 X
    refine J_iload C rfl dL_law_23 ?_
    first | refine J_aload_n C rfl dL_law_25 ?_ | refine J_aload_nq C rfl dL_law_25 ?_ | refine J_aload_nN C rfl dL_law_25 ?_
    refine J_slen C Y dL_law_26 ?_
    by_cases hb : i + 4 ≤ N
    · refine J_iconst C (v := nI 4) (by decide) dL_law_27 ?_
      refine J_nisub C (by omega) dL_law_28 ?_
      refine J_nicmp_gt C (by omega) (by omega) 742 (by decide) dL_law_29 (fun z => ?_) (fun z => ?_)
      · omega
      · refine k_step (c := c) C S Y (by omega) hN (by omega) (by omega) (by omega) X (fun h2 th g X2 => ?_)
        refine J_niinc (b := 4) C rfl (by decide) dL_law_736 ?_
        refine J_goto C 23 (by decide) dL_law_739 ?_
        refine J_sub (by exact (And.intro rfl (And.intro rfl (And.intro rfl (And.intro rfl (And.intro rfl trivial)))))) (ih (c + 1) (i + 4) _ _ _ _ _ (by omega) (by omega) (by omega) (by omega) (by omega) X2)
    · have key : J K cells slots 742 (jv_l [(4, .int (nI i)), (3, .ref o), (2, .ref m), (1, .ref r), (0, .ref sb)]) [] h := by
        refine J_iconst C (v := 1) (by decide) dL_law_742 ?_
        exact fin _ _ _ _ (by omega) (by omega)
      refine J_iconst C (v := nI 4) (by decide) dL_law_27 ?_
      by_cases h4 : 4 ≤ N
      · refine J_nisub C (by omega) dL_law_28 ?_
        refine J_nicmp_gt C (by omega) (by omega) 742 (by decide) dL_law_29 (fun z => ?_) (fun z => ?_)
        · exact key
        · omega
      · have i0 : i = 0 := by omega
        refine J_isub C dL_law_28 ?_
        refine J_icmp_gt C 742 (by decide) dL_law_29 (fun z => key) (fun z => ?_)
        exfalso
        subst i0
        have : N = 0 ∨ N = 1 ∨ N = 2 ∨ N = 3 := by omega
        rcases this with rfl | rfl | rfl | rfl <;> exact z (by decide)
end LOOP2
