/-! the law, behind a helper's call -/
section TAIL
variable {K : jT} {sb N i q0 r m o c cells slots : Nat} {xs : Nat → Int32} {h1 : jH} {fs : List Value} {q : Int32} {post2 : Option Value → jH → Prop}
theorem t_feed (C : JC K cL_law 7 RL 1600 600128 7301098) (Y : JY K sb N xs) (hi : i + 3 < N) (hN : N ≤ 256) (hc : cells ≤ 600128) (hs : slots ≤ 7301098) (hm : h1 m = some (.inr (11, fs))) (cM : Cn (jv_lk K) yX12_feed cX12_feed 5 (some .int) 1 0 0 [.ref m, .int (xs (i + 1)), .long ((xs (i + 2)).toInt64 <<< ((nI 32).toInt64 &&& 63) ||| (xs (i + 3)).toInt64 &&& 4294967295)] h1 post2) (hp : ∀ r9 h2, post2 r9 h2 → ∃ y th g, r9 = some (.int y) ∧ jx (jv_lk K) h2 r m o c th g ∧ Ag q y th g) (kk : ∀ h2 th g, jx (jv_lk K) h2 r m o c th g → J K cells slots 736 (jv_l [(4, .int (nI i)), (3, .ref o), (2, .ref m), (1, .ref r), (0, .ref sb)]) [] h2) : J K cells slots 137 (jv_l [(4, .int (nI i)), (3, .ref o), (2, .ref m), (1, .ref r), (0, .ref sb)]) [.int q] h1 := by
  refine J_istore C (by decide) dL_law_137 ?_
  first | refine J_aload_n C rfl dL_law_139 ?_ | refine J_aload_nq C rfl dL_law_139 ?_ | refine J_aload_nN C rfl dL_law_139 ?_
  first | refine J_aload_n C rfl dL_law_140 ?_ | refine J_aload_nq C rfl dL_law_140 ?_ | refine J_aload_nN C rfl dL_law_140 ?_
  refine J_iload C rfl dL_law_141 ?_
  refine J_iconst C (v := nI 1) (by decide) dL_law_143 ?_
  first | refine J_niadd C dL_law_144 ?_ | refine J_iadd C dL_law_144 ?_
  refine J_sld C Y (j := i + 1) rfl (by omega) hN dL_law_145 ?_
  first | refine J_aload_n C rfl dL_law_146 ?_ | refine J_aload_nq C rfl dL_law_146 ?_ | refine J_aload_nN C rfl dL_law_146 ?_
  refine J_iload C rfl dL_law_147 ?_
  refine J_iconst C (v := nI 2) (by decide) dL_law_149 ?_
  first | refine J_niadd C dL_law_150 ?_ | refine J_iadd C dL_law_150 ?_
  refine J_sld C Y (j := i + 2) rfl (by omega) hN dL_law_151 ?_
  first | refine J_ni2l C (by omega) dL_law_152 ?_ | refine J_i2l C dL_law_152 ?_
  refine J_bipush C (v := nI 32) (by decide) dL_law_153 ?_
  refine J_lshl C dL_law_155 ?_
  first | refine J_aload_n C rfl dL_law_156 ?_ | refine J_aload_nq C rfl dL_law_156 ?_ | refine J_aload_nN C rfl dL_law_156 ?_
  refine J_iload C rfl dL_law_157 ?_
  refine J_iconst C (v := nI 3) (by decide) dL_law_159 ?_
  first | refine J_niadd C dL_law_160 ?_ | refine J_iadd C dL_law_160 ?_
  refine J_sld C Y (j := i + 3) rfl (by omega) hN dL_law_161 ?_
  first | refine J_ni2l C (by omega) dL_law_162 ?_ | refine J_i2l C dL_law_162 ?_
  refine J_ldc2 C kl_L_48 dL_law_163 ?_
  refine J_land C dL_law_166 ?_
  refine J_lor C dL_law_167 ?_
  refine J_callV C cM cw_L_55 hm rfl rfl rfl rfl (by exact Nat.le_of_ble_eq_true rfl) (by decide) (by omega) (by omega) dL_law_168 ?_
  intro r9 h2 e2
  obtain ⟨y, th, g, rfl, X2, ag⟩ := hp r9 h2 e2
  obtain ⟨⟨fs2, hm2⟩, -, ho, cT⟩ := jx_th X2
  refine J_istore C (by decide) dL_law_171 ?_
  first | refine J_aload_n C rfl dL_law_173 ?_ | refine J_aload_nq C rfl dL_law_173 ?_ | refine J_aload_nN C rfl dL_law_173 ?_
  refine J_callV C cT cw_L_56 hm2 rfl rfl rfl rfl (by exact Nat.le_of_ble_eq_true rfl) (by decide) (by omega) (by omega) dL_law_174 ?_
  rintro _ h3 ⟨rfl, e3⟩; replace e3 := e3.symm; subst e3
  rcases ag with ⟨rfl, rfl, eg⟩ | ⟨rfl, rfl⟩
  · refine J_iload C rfl dL_law_177 ?_
    refine J_icmp_eq C 184 (by decide) dL_law_179 (fun _ => ?_) (fun z => absurd rfl z)
    refine J_iload C rfl dL_law_184 ?_
    refine J_if_ne C 201 (by decide) dL_law_186 (fun z => absurd rfl z) (fun _ => ?_)
    first | refine J_aload_n C rfl dL_law_189 ?_ | refine J_aload_nq C rfl dL_law_189 ?_ | refine J_aload_nN C rfl dL_law_189 ?_
    refine J_iconst C (v := nI 0) (by decide) dL_law_190 ?_
    refine J_lald C ho (j := 0) rfl (by decide) (by decide) dL_law_191 ?_
    refine J_iload C rfl dL_law_192 ?_
    first | refine J_ni2l C (by omega) dL_law_194 ?_ | refine J_i2l C dL_law_194 ?_
    refine J_lcmp C dL_law_195 ?_
    rw [eg, lg_self]
    refine J_if_eq C 201 (by decide) dL_law_196 (fun _ => ?_) (fun z => absurd rfl z)
    refine J_goto C 736 (by decide) dL_law_201 ?_
    refine J_sub (by exact (And.intro rfl (And.intro rfl (And.intro rfl (And.intro rfl (And.intro rfl trivial)))))) (kk _ 0 g X2)
  · refine J_iload C rfl dL_law_177 ?_
    refine J_icmp_eq C 184 (by decide) dL_law_179 (fun _ => ?_) (fun z => absurd rfl z)
    refine J_iload C rfl dL_law_184 ?_
    refine J_if_ne C 201 (by decide) dL_law_186 (fun _ => ?_) (fun z => absurd z (by decide))
    refine J_goto C 736 (by decide) dL_law_201 ?_
    refine J_sub (by exact (And.intro rfl (And.intro rfl (And.intro rfl (And.intro rfl (And.intro rfl trivial)))))) (kk _ 1 g X2)
theorem t_put (C : JC K cL_law 7 RL 1600 600128 7301098) (Y : JY K sb N xs) (hi : i + 3 < N) (hN : N ≤ 256) (hc : cells ≤ 600128) (hs : slots ≤ 7301098) (hm : h1 m = some (.inr (11, fs))) (cM : Cn (jv_lk K) yX12_put cX12_put 4 (some .int) 3 0 0 [.ref m, .int (xs (i + 1))] h1 post2) (hp : ∀ r9 h2, post2 r9 h2 → ∃ y th g, r9 = some (.int y) ∧ jx (jv_lk K) h2 r m o c th g ∧ Ag q y th g) (kk : ∀ h2 th g, jx (jv_lk K) h2 r m o c th g → J K cells slots 736 (jv_l [(4, .int (nI i)), (3, .ref o), (2, .ref m), (1, .ref r), (0, .ref sb)]) [] h2) : J K cells slots 228 (jv_l [(4, .int (nI i)), (3, .ref o), (2, .ref m), (1, .ref r), (0, .ref sb)]) [.int q] h1 := by
  refine J_istore C (by decide) dL_law_228 ?_
  first | refine J_aload_n C rfl dL_law_230 ?_ | refine J_aload_nq C rfl dL_law_230 ?_ | refine J_aload_nN C rfl dL_law_230 ?_
  first | refine J_aload_n C rfl dL_law_231 ?_ | refine J_aload_nq C rfl dL_law_231 ?_ | refine J_aload_nN C rfl dL_law_231 ?_
  refine J_iload C rfl dL_law_232 ?_
  refine J_iconst C (v := nI 1) (by decide) dL_law_234 ?_
  first | refine J_niadd C dL_law_235 ?_ | refine J_iadd C dL_law_235 ?_
  refine J_sld C Y (j := i + 1) rfl (by omega) hN dL_law_236 ?_
  refine J_callV C cM cw_L_67 hm rfl rfl rfl rfl (by exact Nat.le_of_ble_eq_true rfl) (by decide) (by omega) (by omega) dL_law_237 ?_
  intro r9 h2 e2
  obtain ⟨y, th, g, rfl, X2, ag⟩ := hp r9 h2 e2
  obtain ⟨⟨fs2, hm2⟩, -, ho, cT⟩ := jx_th X2
  refine J_istore C (by decide) dL_law_240 ?_
  first | refine J_aload_n C rfl dL_law_242 ?_ | refine J_aload_nq C rfl dL_law_242 ?_ | refine J_aload_nN C rfl dL_law_242 ?_
  refine J_callV C cT cw_L_56 hm2 rfl rfl rfl rfl (by exact Nat.le_of_ble_eq_true rfl) (by decide) (by omega) (by omega) dL_law_243 ?_
  rintro _ h3 ⟨rfl, e3⟩; replace e3 := e3.symm; subst e3
  rcases ag with ⟨rfl, rfl, eg⟩ | ⟨rfl, rfl⟩
  · refine J_iload C rfl dL_law_246 ?_
    refine J_icmp_eq C 253 (by decide) dL_law_248 (fun _ => ?_) (fun z => absurd rfl z)
    refine J_iload C rfl dL_law_253 ?_
    refine J_if_ne C 270 (by decide) dL_law_255 (fun z => absurd rfl z) (fun _ => ?_)
    first | refine J_aload_n C rfl dL_law_258 ?_ | refine J_aload_nq C rfl dL_law_258 ?_ | refine J_aload_nN C rfl dL_law_258 ?_
    refine J_iconst C (v := nI 0) (by decide) dL_law_259 ?_
    refine J_lald C ho (j := 0) rfl (by decide) (by decide) dL_law_260 ?_
    refine J_iload C rfl dL_law_261 ?_
    first | refine J_ni2l C (by omega) dL_law_263 ?_ | refine J_i2l C dL_law_263 ?_
    refine J_lcmp C dL_law_264 ?_
    rw [eg, lg_self]
    refine J_if_eq C 270 (by decide) dL_law_265 (fun _ => ?_) (fun z => absurd rfl z)
    refine J_goto C 736 (by decide) dL_law_270 ?_
    refine J_sub (by exact (And.intro rfl (And.intro rfl (And.intro rfl (And.intro rfl (And.intro rfl trivial)))))) (kk _ 0 g X2)
  · refine J_iload C rfl dL_law_246 ?_
    refine J_icmp_eq C 253 (by decide) dL_law_248 (fun _ => ?_) (fun z => absurd rfl z)
    refine J_iload C rfl dL_law_253 ?_
    refine J_if_ne C 270 (by decide) dL_law_255 (fun _ => ?_) (fun z => absurd z (by decide))
    refine J_goto C 736 (by decide) dL_law_270 ?_
    refine J_sub (by exact (And.intro rfl (And.intro rfl (And.intro rfl (And.intro rfl (And.intro rfl trivial)))))) (kk _ 1 g X2)
theorem t_drop (C : JC K cL_law 7 RL 1600 600128 7301098) (Y : JY K sb N xs) (hi : i + 3 < N) (hN : N ≤ 256) (hc : cells ≤ 600128) (hs : slots ≤ 7301098) (hm : h1 m = some (.inr (11, fs))) (cM : Cn (jv_lk K) yX12_drop cX12_drop 3 (some .boolean) 2 0 0 [.ref m, .int (xs (i + 1))] h1 post2) (hp : ∀ r9 h2, post2 r9 h2 → ∃ y th g, r9 = some (.int y) ∧ jx (jv_lk K) h2 r m o c th g ∧ ((q = nI 0 ∧ th = 0 ∧ ∃ b9, y = jv_b b9 ∧ g 0 = lN (if b9 then 1 else 0)) ∨ (q = nI 1 ∧ th = 1))) (kk : ∀ h2 th g, jx (jv_lk K) h2 r m o c th g → J K cells slots 736 (jv_l [(4, .int (nI i)), (3, .ref o), (2, .ref m), (1, .ref r), (0, .ref sb)]) [] h2) : J K cells slots 284 (jv_l [(4, .int (nI i)), (3, .ref o), (2, .ref m), (1, .ref r), (0, .ref sb)]) [.int q] h1 := by
  refine J_istore C (by decide) dL_law_284 ?_
  first | refine J_aload_n C rfl dL_law_286 ?_ | refine J_aload_nq C rfl dL_law_286 ?_ | refine J_aload_nN C rfl dL_law_286 ?_
  first | refine J_aload_n C rfl dL_law_287 ?_ | refine J_aload_nq C rfl dL_law_287 ?_ | refine J_aload_nN C rfl dL_law_287 ?_
  refine J_iload C rfl dL_law_288 ?_
  refine J_iconst C (v := nI 1) (by decide) dL_law_290 ?_
  first | refine J_niadd C dL_law_291 ?_ | refine J_iadd C dL_law_291 ?_
  refine J_sld C Y (j := i + 1) rfl (by omega) hN dL_law_292 ?_
  refine J_callV C cM cw_L_70 hm rfl rfl rfl rfl (by exact Nat.le_of_ble_eq_true rfl) (by decide) (by omega) (by omega) dL_law_293 ?_
  intro r9 h2 e2
  obtain ⟨y, th, g, rfl, X2, ag⟩ := hp r9 h2 e2
  obtain ⟨⟨fs2, hm2⟩, -, ho, cT⟩ := jx_th X2
  refine J_istore C (by decide) dL_law_296 ?_
  first | refine J_aload_n C rfl dL_law_298 ?_ | refine J_aload_nq C rfl dL_law_298 ?_ | refine J_aload_nN C rfl dL_law_298 ?_
  refine J_callV C cT cw_L_56 hm2 rfl rfl rfl rfl (by exact Nat.le_of_ble_eq_true rfl) (by decide) (by omega) (by omega) dL_law_299 ?_
  rintro _ h3 ⟨rfl, e3⟩; replace e3 := e3.symm; subst e3
  rcases ag with ⟨rfl, rfl, b9, rfl, eg⟩ | ⟨rfl, rfl⟩
  · refine J_iload C rfl dL_law_302 ?_
    refine J_icmp_eq C 309 (by decide) dL_law_304 (fun _ => ?_) (fun z => absurd rfl z)
    refine J_iload C rfl dL_law_309 ?_
    refine J_if_ne C 333 (by decide) dL_law_311 (fun z => absurd rfl z) (fun _ => ?_)
    first | refine J_aload_n C rfl dL_law_314 ?_ | refine J_aload_nq C rfl dL_law_314 ?_ | refine J_aload_nN C rfl dL_law_314 ?_
    refine J_iconst C (v := nI 0) (by decide) dL_law_315 ?_
    refine J_lald C ho (j := 0) rfl (by decide) (by decide) dL_law_316 ?_
    refine J_iload C rfl dL_law_317 ?_
    refine J_bif_eq C 326 (by decide) dL_law_319 (fun z => ?_) (fun z => ?_)
    · subst z
      refine J_lconst C (v := lN 0) (by decide) dL_law_326 ?_
      refine J_lcmp C dL_law_327 ?_
      rw [eg]
      refine J_if_eq C 333 (by decide) dL_law_328 (fun _ => ?_) (fun z => absurd (lg_self _) z)
      refine J_goto C 736 (by decide) dL_law_333 ?_
      refine J_sub (by exact (And.intro rfl (And.intro rfl (And.intro rfl (And.intro rfl (And.intro rfl trivial)))))) (kk _ 0 g X2)
    · subst z
      refine J_lconst C (v := lN 1) (by decide) dL_law_322 ?_
      refine J_goto C 327 (by decide) dL_law_323 ?_
      refine J_lcmp C dL_law_327 ?_
      rw [eg]
      refine J_if_eq C 333 (by decide) dL_law_328 (fun _ => ?_) (fun z => absurd (lg_self _) z)
      refine J_goto C 736 (by decide) dL_law_333 ?_
      refine J_sub (by exact (And.intro rfl (And.intro rfl (And.intro rfl (And.intro rfl (And.intro rfl trivial)))))) (kk _ 0 g X2)
  · refine J_iload C rfl dL_law_302 ?_
    refine J_icmp_eq C 309 (by decide) dL_law_304 (fun _ => ?_) (fun z => absurd rfl z)
    refine J_iload C rfl dL_law_309 ?_
    refine J_if_ne C 333 (by decide) dL_law_311 (fun _ => ?_) (fun z => absurd z (by decide))
    refine J_goto C 736 (by decide) dL_law_333 ?_
    refine J_sub (by exact (And.intro rfl (And.intro rfl (And.intro rfl (And.intro rfl (And.intro rfl trivial)))))) (kk _ 1 g X2)
theorem t_told (C : JC K cL_law 7 RL 1600 600128 7301098) (Y : JY K sb N xs) (hi : i + 3 < N) (hN : N ≤ 256) (hc : cells ≤ 600128) (hs : slots ≤ 7301098) (hm : h1 m = some (.inr (11, fs))) (cM : Cn (jv_lk K) yX12_told cX12_told 6 (some .int) 2 0 0 [.ref m, .int (xs (i + 1))] h1 post2) (hp : ∀ r9 h2, post2 r9 h2 → ∃ y th g, r9 = some (.int y) ∧ jx (jv_lk K) h2 r m o c th g ∧ Ag q y th g) (kk : ∀ h2 th g, jx (jv_lk K) h2 r m o c th g → J K cells slots 736 (jv_l [(4, .int (nI i)), (3, .ref o), (2, .ref m), (1, .ref r), (0, .ref sb)]) [] h2) : J K cells slots 347 (jv_l [(4, .int (nI i)), (3, .ref o), (2, .ref m), (1, .ref r), (0, .ref sb)]) [.int q] h1 := by
  refine J_istore C (by decide) dL_law_347 ?_
  first | refine J_aload_n C rfl dL_law_349 ?_ | refine J_aload_nq C rfl dL_law_349 ?_ | refine J_aload_nN C rfl dL_law_349 ?_
  first | refine J_aload_n C rfl dL_law_350 ?_ | refine J_aload_nq C rfl dL_law_350 ?_ | refine J_aload_nN C rfl dL_law_350 ?_
  refine J_iload C rfl dL_law_351 ?_
  refine J_iconst C (v := nI 1) (by decide) dL_law_353 ?_
  first | refine J_niadd C dL_law_354 ?_ | refine J_iadd C dL_law_354 ?_
  refine J_sld C Y (j := i + 1) rfl (by omega) hN dL_law_355 ?_
  refine J_callV C cM cw_L_73 hm rfl rfl rfl rfl (by exact Nat.le_of_ble_eq_true rfl) (by decide) (by omega) (by omega) dL_law_356 ?_
  intro r9 h2 e2
  obtain ⟨y, th, g, rfl, X2, ag⟩ := hp r9 h2 e2
  obtain ⟨⟨fs2, hm2⟩, -, ho, cT⟩ := jx_th X2
  refine J_istore C (by decide) dL_law_359 ?_
  first | refine J_aload_n C rfl dL_law_361 ?_ | refine J_aload_nq C rfl dL_law_361 ?_ | refine J_aload_nN C rfl dL_law_361 ?_
  refine J_callV C cT cw_L_56 hm2 rfl rfl rfl rfl (by exact Nat.le_of_ble_eq_true rfl) (by decide) (by omega) (by omega) dL_law_362 ?_
  rintro _ h3 ⟨rfl, e3⟩; replace e3 := e3.symm; subst e3
  rcases ag with ⟨rfl, rfl, eg⟩ | ⟨rfl, rfl⟩
  · refine J_iload C rfl dL_law_365 ?_
    refine J_icmp_eq C 372 (by decide) dL_law_367 (fun _ => ?_) (fun z => absurd rfl z)
    refine J_iload C rfl dL_law_372 ?_
    refine J_if_ne C 389 (by decide) dL_law_374 (fun z => absurd rfl z) (fun _ => ?_)
    first | refine J_aload_n C rfl dL_law_377 ?_ | refine J_aload_nq C rfl dL_law_377 ?_ | refine J_aload_nN C rfl dL_law_377 ?_
    refine J_iconst C (v := nI 0) (by decide) dL_law_378 ?_
    refine J_lald C ho (j := 0) rfl (by decide) (by decide) dL_law_379 ?_
    refine J_iload C rfl dL_law_380 ?_
    first | refine J_ni2l C (by omega) dL_law_382 ?_ | refine J_i2l C dL_law_382 ?_
    refine J_lcmp C dL_law_383 ?_
    rw [eg, lg_self]
    refine J_if_eq C 389 (by decide) dL_law_384 (fun _ => ?_) (fun z => absurd rfl z)
    refine J_goto C 736 (by decide) dL_law_389 ?_
    refine J_sub (by exact (And.intro rfl (And.intro rfl (And.intro rfl (And.intro rfl (And.intro rfl trivial)))))) (kk _ 0 g X2)
  · refine J_iload C rfl dL_law_365 ?_
    refine J_icmp_eq C 372 (by decide) dL_law_367 (fun _ => ?_) (fun z => absurd rfl z)
    refine J_iload C rfl dL_law_372 ?_
    refine J_if_ne C 389 (by decide) dL_law_374 (fun _ => ?_) (fun z => absurd z (by decide))
    refine J_goto C 736 (by decide) dL_law_389 ?_
    refine J_sub (by exact (And.intro rfl (And.intro rfl (And.intro rfl (And.intro rfl (And.intro rfl trivial)))))) (kk _ 1 g X2)
theorem t_about (C : JC K cL_law 7 RL 1600 600128 7301098) (Y : JY K sb N xs) (hi : i + 3 < N) (hN : N ≤ 256) (hc : cells ≤ 600128) (hs : slots ≤ 7301098) (hm : h1 m = some (.inr (11, fs))) (cM : Cn (jv_lk K) yX12_about cX12_about 4 (some .int) 7 0 0 [.ref m, .int (xs (i + 1))] h1 post2) (hp : ∀ r9 h2, post2 r9 h2 → ∃ y th g, r9 = some (.int y) ∧ jx (jv_lk K) h2 r m o c th g ∧ Ag q y th g) (kk : ∀ h2 th g, jx (jv_lk K) h2 r m o c th g → J K cells slots 736 (jv_l [(4, .int (nI i)), (3, .ref o), (2, .ref m), (1, .ref r), (0, .ref sb)]) [] h2) : J K cells slots 429 (jv_l [(4, .int (nI i)), (3, .ref o), (2, .ref m), (1, .ref r), (0, .ref sb)]) [.int q] h1 := by
  refine J_istore C (by decide) dL_law_429 ?_
  first | refine J_aload_n C rfl dL_law_431 ?_ | refine J_aload_nq C rfl dL_law_431 ?_ | refine J_aload_nN C rfl dL_law_431 ?_
  first | refine J_aload_n C rfl dL_law_432 ?_ | refine J_aload_nq C rfl dL_law_432 ?_ | refine J_aload_nN C rfl dL_law_432 ?_
  refine J_iload C rfl dL_law_433 ?_
  refine J_iconst C (v := nI 1) (by decide) dL_law_435 ?_
  first | refine J_niadd C dL_law_436 ?_ | refine J_iadd C dL_law_436 ?_
  refine J_sld C Y (j := i + 1) rfl (by omega) hN dL_law_437 ?_
  refine J_callV C cM cw_L_81 hm rfl rfl rfl rfl (by exact Nat.le_of_ble_eq_true rfl) (by decide) (by omega) (by omega) dL_law_438 ?_
  intro r9 h2 e2
  obtain ⟨y, th, g, rfl, X2, ag⟩ := hp r9 h2 e2
  obtain ⟨⟨fs2, hm2⟩, -, ho, cT⟩ := jx_th X2
  refine J_istore C (by decide) dL_law_441 ?_
  first | refine J_aload_n C rfl dL_law_443 ?_ | refine J_aload_nq C rfl dL_law_443 ?_ | refine J_aload_nN C rfl dL_law_443 ?_
  refine J_callV C cT cw_L_56 hm2 rfl rfl rfl rfl (by exact Nat.le_of_ble_eq_true rfl) (by decide) (by omega) (by omega) dL_law_444 ?_
  rintro _ h3 ⟨rfl, e3⟩; replace e3 := e3.symm; subst e3
  rcases ag with ⟨rfl, rfl, eg⟩ | ⟨rfl, rfl⟩
  · refine J_iload C rfl dL_law_447 ?_
    refine J_icmp_eq C 454 (by decide) dL_law_449 (fun _ => ?_) (fun z => absurd rfl z)
    refine J_iload C rfl dL_law_454 ?_
    refine J_if_ne C 471 (by decide) dL_law_456 (fun z => absurd rfl z) (fun _ => ?_)
    first | refine J_aload_n C rfl dL_law_459 ?_ | refine J_aload_nq C rfl dL_law_459 ?_ | refine J_aload_nN C rfl dL_law_459 ?_
    refine J_iconst C (v := nI 0) (by decide) dL_law_460 ?_
    refine J_lald C ho (j := 0) rfl (by decide) (by decide) dL_law_461 ?_
    refine J_iload C rfl dL_law_462 ?_
    first | refine J_ni2l C (by omega) dL_law_464 ?_ | refine J_i2l C dL_law_464 ?_
    refine J_lcmp C dL_law_465 ?_
    rw [eg, lg_self]
    refine J_if_eq C 471 (by decide) dL_law_466 (fun _ => ?_) (fun z => absurd rfl z)
    refine J_goto C 736 (by decide) dL_law_471 ?_
    refine J_sub (by exact (And.intro rfl (And.intro rfl (And.intro rfl (And.intro rfl (And.intro rfl trivial)))))) (kk _ 0 g X2)
  · refine J_iload C rfl dL_law_447 ?_
    refine J_icmp_eq C 454 (by decide) dL_law_449 (fun _ => ?_) (fun z => absurd rfl z)
    refine J_iload C rfl dL_law_454 ?_
    refine J_if_ne C 471 (by decide) dL_law_456 (fun _ => ?_) (fun z => absurd z (by decide))
    refine J_goto C 736 (by decide) dL_law_471 ?_
    refine J_sub (by exact (And.intro rfl (And.intro rfl (And.intro rfl (And.intro rfl (And.intro rfl trivial)))))) (kk _ 1 g X2)
theorem t_find (C : JC K cL_law 7 RL 1600 600128 7301098) (Y : JY K sb N xs) (hi : i + 3 < N) (hN : N ≤ 256) (hc : cells ≤ 600128) (hs : slots ≤ 7301098) (hm : h1 m = some (.inr (11, fs))) (cM : Cn (jv_lk K) yX12_find cX12_find 2 (some .int) 6 0 0 [.ref m, .int (xs (i + 1))] h1 post2) (hp : ∀ r9 h2, post2 r9 h2 → ∃ y th g, r9 = some (.int y) ∧ jx (jv_lk K) h2 r m o c th g ∧ Ag q y th g) (kk : ∀ h2 th g, jx (jv_lk K) h2 r m o c th g → J K cells slots 736 (jv_l [(4, .int (nI i)), (3, .ref o), (2, .ref m), (1, .ref r), (0, .ref sb)]) [] h2) : J K cells slots 485 (jv_l [(4, .int (nI i)), (3, .ref o), (2, .ref m), (1, .ref r), (0, .ref sb)]) [.int q] h1 := by
  refine J_istore C (by decide) dL_law_485 ?_
  first | refine J_aload_n C rfl dL_law_487 ?_ | refine J_aload_nq C rfl dL_law_487 ?_ | refine J_aload_nN C rfl dL_law_487 ?_
  first | refine J_aload_n C rfl dL_law_488 ?_ | refine J_aload_nq C rfl dL_law_488 ?_ | refine J_aload_nN C rfl dL_law_488 ?_
  refine J_iload C rfl dL_law_489 ?_
  refine J_iconst C (v := nI 1) (by decide) dL_law_491 ?_
  first | refine J_niadd C dL_law_492 ?_ | refine J_iadd C dL_law_492 ?_
  refine J_sld C Y (j := i + 1) rfl (by omega) hN dL_law_493 ?_
  refine J_callV C cM cw_L_84 hm rfl rfl rfl rfl (by exact Nat.le_of_ble_eq_true rfl) (by decide) (by omega) (by omega) dL_law_494 ?_
  intro r9 h2 e2
  obtain ⟨y, th, g, rfl, X2, ag⟩ := hp r9 h2 e2
  obtain ⟨⟨fs2, hm2⟩, -, ho, cT⟩ := jx_th X2
  refine J_istore C (by decide) dL_law_497 ?_
  first | refine J_aload_n C rfl dL_law_499 ?_ | refine J_aload_nq C rfl dL_law_499 ?_ | refine J_aload_nN C rfl dL_law_499 ?_
  refine J_callV C cT cw_L_56 hm2 rfl rfl rfl rfl (by exact Nat.le_of_ble_eq_true rfl) (by decide) (by omega) (by omega) dL_law_500 ?_
  rintro _ h3 ⟨rfl, e3⟩; replace e3 := e3.symm; subst e3
  rcases ag with ⟨rfl, rfl, eg⟩ | ⟨rfl, rfl⟩
  · refine J_iload C rfl dL_law_503 ?_
    refine J_icmp_eq C 510 (by decide) dL_law_505 (fun _ => ?_) (fun z => absurd rfl z)
    refine J_iload C rfl dL_law_510 ?_
    refine J_if_ne C 527 (by decide) dL_law_512 (fun z => absurd rfl z) (fun _ => ?_)
    first | refine J_aload_n C rfl dL_law_515 ?_ | refine J_aload_nq C rfl dL_law_515 ?_ | refine J_aload_nN C rfl dL_law_515 ?_
    refine J_iconst C (v := nI 0) (by decide) dL_law_516 ?_
    refine J_lald C ho (j := 0) rfl (by decide) (by decide) dL_law_517 ?_
    refine J_iload C rfl dL_law_518 ?_
    first | refine J_ni2l C (by omega) dL_law_520 ?_ | refine J_i2l C dL_law_520 ?_
    refine J_lcmp C dL_law_521 ?_
    rw [eg, lg_self]
    refine J_if_eq C 527 (by decide) dL_law_522 (fun _ => ?_) (fun z => absurd rfl z)
    refine J_goto C 736 (by decide) dL_law_527 ?_
    refine J_sub (by exact (And.intro rfl (And.intro rfl (And.intro rfl (And.intro rfl (And.intro rfl trivial)))))) (kk _ 0 g X2)
  · refine J_iload C rfl dL_law_503 ?_
    refine J_icmp_eq C 510 (by decide) dL_law_505 (fun _ => ?_) (fun z => absurd rfl z)
    refine J_iload C rfl dL_law_510 ?_
    refine J_if_ne C 527 (by decide) dL_law_512 (fun _ => ?_) (fun z => absurd z (by decide))
    refine J_goto C 736 (by decide) dL_law_527 ?_
    refine J_sub (by exact (And.intro rfl (And.intro rfl (And.intro rfl (And.intro rfl (And.intro rfl trivial)))))) (kk _ 1 g X2)
theorem t_similar (C : JC K cL_law 7 RL 1600 600128 7301098) (Y : JY K sb N xs) (hi : i + 3 < N) (hN : N ≤ 256) (hc : cells ≤ 600128) (hs : slots ≤ 7301098) (hm : h1 m = some (.inr (11, fs))) (cM : Cn (jv_lk K) yX12_similar cX12_similar 8 (some .int) 6 0 0 [.ref m, .int (xs (i + 1)), .int (xs (i + 2))] h1 post2) (hp : ∀ r9 h2, post2 r9 h2 → ∃ y th g, r9 = some (.int y) ∧ jx (jv_lk K) h2 r m o c th g ∧ Ag q y th g) (kk : ∀ h2 th g, jx (jv_lk K) h2 r m o c th g → J K cells slots 736 (jv_l [(4, .int (nI i)), (3, .ref o), (2, .ref m), (1, .ref r), (0, .ref sb)]) [] h2) : J K cells slots 573 (jv_l [(4, .int (nI i)), (3, .ref o), (2, .ref m), (1, .ref r), (0, .ref sb)]) [.int q] h1 := by
  refine J_istore C (by decide) dL_law_573 ?_
  first | refine J_aload_n C rfl dL_law_575 ?_ | refine J_aload_nq C rfl dL_law_575 ?_ | refine J_aload_nN C rfl dL_law_575 ?_
  first | refine J_aload_n C rfl dL_law_576 ?_ | refine J_aload_nq C rfl dL_law_576 ?_ | refine J_aload_nN C rfl dL_law_576 ?_
  refine J_iload C rfl dL_law_577 ?_
  refine J_iconst C (v := nI 1) (by decide) dL_law_579 ?_
  first | refine J_niadd C dL_law_580 ?_ | refine J_iadd C dL_law_580 ?_
  refine J_sld C Y (j := i + 1) rfl (by omega) hN dL_law_581 ?_
  first | refine J_aload_n C rfl dL_law_582 ?_ | refine J_aload_nq C rfl dL_law_582 ?_ | refine J_aload_nN C rfl dL_law_582 ?_
  refine J_iload C rfl dL_law_583 ?_
  refine J_iconst C (v := nI 2) (by decide) dL_law_585 ?_
  first | refine J_niadd C dL_law_586 ?_ | refine J_iadd C dL_law_586 ?_
  refine J_sld C Y (j := i + 2) rfl (by omega) hN dL_law_587 ?_
  refine J_callV C cM cw_L_96 hm rfl rfl rfl rfl (by exact Nat.le_of_ble_eq_true rfl) (by decide) (by omega) (by omega) dL_law_588 ?_
  intro r9 h2 e2
  obtain ⟨y, th, g, rfl, X2, ag⟩ := hp r9 h2 e2
  obtain ⟨⟨fs2, hm2⟩, -, ho, cT⟩ := jx_th X2
  refine J_istore C (by decide) dL_law_591 ?_
  first | refine J_aload_n C rfl dL_law_593 ?_ | refine J_aload_nq C rfl dL_law_593 ?_ | refine J_aload_nN C rfl dL_law_593 ?_
  refine J_callV C cT cw_L_56 hm2 rfl rfl rfl rfl (by exact Nat.le_of_ble_eq_true rfl) (by decide) (by omega) (by omega) dL_law_594 ?_
  rintro _ h3 ⟨rfl, e3⟩; replace e3 := e3.symm; subst e3
  rcases ag with ⟨rfl, rfl, eg⟩ | ⟨rfl, rfl⟩
  · refine J_iload C rfl dL_law_597 ?_
    refine J_icmp_eq C 604 (by decide) dL_law_599 (fun _ => ?_) (fun z => absurd rfl z)
    refine J_iload C rfl dL_law_604 ?_
    refine J_if_ne C 621 (by decide) dL_law_606 (fun z => absurd rfl z) (fun _ => ?_)
    first | refine J_aload_n C rfl dL_law_609 ?_ | refine J_aload_nq C rfl dL_law_609 ?_ | refine J_aload_nN C rfl dL_law_609 ?_
    refine J_iconst C (v := nI 0) (by decide) dL_law_610 ?_
    refine J_lald C ho (j := 0) rfl (by decide) (by decide) dL_law_611 ?_
    refine J_iload C rfl dL_law_612 ?_
    first | refine J_ni2l C (by omega) dL_law_614 ?_ | refine J_i2l C dL_law_614 ?_
    refine J_lcmp C dL_law_615 ?_
    rw [eg, lg_self]
    refine J_if_eq C 621 (by decide) dL_law_616 (fun _ => ?_) (fun z => absurd rfl z)
    refine J_goto C 736 (by decide) dL_law_621 ?_
    refine J_sub (by exact (And.intro rfl (And.intro rfl (And.intro rfl (And.intro rfl (And.intro rfl trivial)))))) (kk _ 0 g X2)
  · refine J_iload C rfl dL_law_597 ?_
    refine J_icmp_eq C 604 (by decide) dL_law_599 (fun _ => ?_) (fun z => absurd rfl z)
    refine J_iload C rfl dL_law_604 ?_
    refine J_if_ne C 621 (by decide) dL_law_606 (fun _ => ?_) (fun z => absurd z (by decide))
    refine J_goto C 736 (by decide) dL_law_621 ?_
    refine J_sub (by exact (And.intro rfl (And.intro rfl (And.intro rfl (And.intro rfl (And.intro rfl trivial)))))) (kk _ 1 g X2)
theorem t_hit (C : JC K cL_law 7 RL 1600 600128 7301098) (Y : JY K sb N xs) (hi : i + 3 < N) (hN : N ≤ 256) (hc : cells ≤ 600128) (hs : slots ≤ 7301098) (hm : h1 m = some (.inr (11, fs))) (cM : Cn (jv_lk K) yX12_hit cX12_hit 2 (some .int) 1 0 0 [.ref m, .int (xs (i + 1))] h1 post2) (hp : ∀ r9 h2, post2 r9 h2 → ∃ y th g, r9 = some (.int y) ∧ jx (jv_lk K) h2 r m o c th g ∧ Ag q y th g) (kk : ∀ h2 th g, jx (jv_lk K) h2 r m o c th g → J K cells slots 736 (jv_l [(4, .int (nI i)), (3, .ref o), (2, .ref m), (1, .ref r), (0, .ref sb)]) [] h2) : J K cells slots 635 (jv_l [(4, .int (nI i)), (3, .ref o), (2, .ref m), (1, .ref r), (0, .ref sb)]) [.int q] h1 := by
  refine J_istore C (by decide) dL_law_635 ?_
  first | refine J_aload_n C rfl dL_law_637 ?_ | refine J_aload_nq C rfl dL_law_637 ?_ | refine J_aload_nN C rfl dL_law_637 ?_
  first | refine J_aload_n C rfl dL_law_638 ?_ | refine J_aload_nq C rfl dL_law_638 ?_ | refine J_aload_nN C rfl dL_law_638 ?_
  refine J_iload C rfl dL_law_639 ?_
  refine J_iconst C (v := nI 1) (by decide) dL_law_641 ?_
  first | refine J_niadd C dL_law_642 ?_ | refine J_iadd C dL_law_642 ?_
  refine J_sld C Y (j := i + 1) rfl (by omega) hN dL_law_643 ?_
  refine J_callV C cM cw_L_99 hm rfl rfl rfl rfl (by exact Nat.le_of_ble_eq_true rfl) (by decide) (by omega) (by omega) dL_law_644 ?_
  intro r9 h2 e2
  obtain ⟨y, th, g, rfl, X2, ag⟩ := hp r9 h2 e2
  obtain ⟨⟨fs2, hm2⟩, -, ho, cT⟩ := jx_th X2
  refine J_istore C (by decide) dL_law_647 ?_
  first | refine J_aload_n C rfl dL_law_649 ?_ | refine J_aload_nq C rfl dL_law_649 ?_ | refine J_aload_nN C rfl dL_law_649 ?_
  refine J_callV C cT cw_L_56 hm2 rfl rfl rfl rfl (by exact Nat.le_of_ble_eq_true rfl) (by decide) (by omega) (by omega) dL_law_650 ?_
  rintro _ h3 ⟨rfl, e3⟩; replace e3 := e3.symm; subst e3
  rcases ag with ⟨rfl, rfl, eg⟩ | ⟨rfl, rfl⟩
  · refine J_iload C rfl dL_law_653 ?_
    refine J_icmp_eq C 660 (by decide) dL_law_655 (fun _ => ?_) (fun z => absurd rfl z)
    refine J_iload C rfl dL_law_660 ?_
    refine J_if_ne C 677 (by decide) dL_law_662 (fun z => absurd rfl z) (fun _ => ?_)
    first | refine J_aload_n C rfl dL_law_665 ?_ | refine J_aload_nq C rfl dL_law_665 ?_ | refine J_aload_nN C rfl dL_law_665 ?_
    refine J_iconst C (v := nI 0) (by decide) dL_law_666 ?_
    refine J_lald C ho (j := 0) rfl (by decide) (by decide) dL_law_667 ?_
    refine J_iload C rfl dL_law_668 ?_
    first | refine J_ni2l C (by omega) dL_law_670 ?_ | refine J_i2l C dL_law_670 ?_
    refine J_lcmp C dL_law_671 ?_
    rw [eg, lg_self]
    refine J_if_eq C 677 (by decide) dL_law_672 (fun _ => ?_) (fun z => absurd rfl z)
    refine J_goto C 736 (by decide) dL_law_677 ?_
    refine J_sub (by exact (And.intro rfl (And.intro rfl (And.intro rfl (And.intro rfl (And.intro rfl trivial)))))) (kk _ 0 g X2)
  · refine J_iload C rfl dL_law_653 ?_
    refine J_icmp_eq C 660 (by decide) dL_law_655 (fun _ => ?_) (fun z => absurd rfl z)
    refine J_iload C rfl dL_law_660 ?_
    refine J_if_ne C 677 (by decide) dL_law_662 (fun _ => ?_) (fun z => absurd z (by decide))
    refine J_goto C 736 (by decide) dL_law_677 ?_
    refine J_sub (by exact (And.intro rfl (And.intro rfl (And.intro rfl (And.intro rfl (And.intro rfl trivial)))))) (kk _ 1 g X2)
theorem t_score (C : JC K cL_law 7 RL 1600 600128 7301098) (Y : JY K sb N xs) (hi : i + 3 < N) (hN : N ≤ 256) (hc : cells ≤ 600128) (hs : slots ≤ 7301098) (hm : h1 m = some (.inr (11, fs))) (cM : Cn (jv_lk K) yX12_score cX12_score 2 (some .int) 1 0 0 [.ref m, .int (xs (i + 1))] h1 post2) (hp : ∀ r9 h2, post2 r9 h2 → ∃ y th g, r9 = some (.int y) ∧ jx (jv_lk K) h2 r m o c th g ∧ Ag q y th g) (kk : ∀ h2 th g, jx (jv_lk K) h2 r m o c th g → J K cells slots 736 (jv_l [(4, .int (nI i)), (3, .ref o), (2, .ref m), (1, .ref r), (0, .ref sb)]) [] h2) : J K cells slots 691 (jv_l [(4, .int (nI i)), (3, .ref o), (2, .ref m), (1, .ref r), (0, .ref sb)]) [.int q] h1 := by
  refine J_istore C (by decide) dL_law_691 ?_
  first | refine J_aload_n C rfl dL_law_693 ?_ | refine J_aload_nq C rfl dL_law_693 ?_ | refine J_aload_nN C rfl dL_law_693 ?_
  first | refine J_aload_n C rfl dL_law_694 ?_ | refine J_aload_nq C rfl dL_law_694 ?_ | refine J_aload_nN C rfl dL_law_694 ?_
  refine J_iload C rfl dL_law_695 ?_
  refine J_iconst C (v := nI 1) (by decide) dL_law_697 ?_
  first | refine J_niadd C dL_law_698 ?_ | refine J_iadd C dL_law_698 ?_
  refine J_sld C Y (j := i + 1) rfl (by omega) hN dL_law_699 ?_
  refine J_callV C cM cw_L_102 hm rfl rfl rfl rfl (by exact Nat.le_of_ble_eq_true rfl) (by decide) (by omega) (by omega) dL_law_700 ?_
  intro r9 h2 e2
  obtain ⟨y, th, g, rfl, X2, ag⟩ := hp r9 h2 e2
  obtain ⟨⟨fs2, hm2⟩, -, ho, cT⟩ := jx_th X2
  refine J_istore C (by decide) dL_law_703 ?_
  first | refine J_aload_n C rfl dL_law_705 ?_ | refine J_aload_nq C rfl dL_law_705 ?_ | refine J_aload_nN C rfl dL_law_705 ?_
  refine J_callV C cT cw_L_56 hm2 rfl rfl rfl rfl (by exact Nat.le_of_ble_eq_true rfl) (by decide) (by omega) (by omega) dL_law_706 ?_
  rintro _ h3 ⟨rfl, e3⟩; replace e3 := e3.symm; subst e3
  rcases ag with ⟨rfl, rfl, eg⟩ | ⟨rfl, rfl⟩
  · refine J_iload C rfl dL_law_709 ?_
    refine J_icmp_eq C 716 (by decide) dL_law_711 (fun _ => ?_) (fun z => absurd rfl z)
    refine J_iload C rfl dL_law_716 ?_
    refine J_if_ne C 733 (by decide) dL_law_718 (fun z => absurd rfl z) (fun _ => ?_)
    first | refine J_aload_n C rfl dL_law_721 ?_ | refine J_aload_nq C rfl dL_law_721 ?_ | refine J_aload_nN C rfl dL_law_721 ?_
    refine J_iconst C (v := nI 0) (by decide) dL_law_722 ?_
    refine J_lald C ho (j := 0) rfl (by decide) (by decide) dL_law_723 ?_
    refine J_iload C rfl dL_law_724 ?_
    first | refine J_ni2l C (by omega) dL_law_726 ?_ | refine J_i2l C dL_law_726 ?_
    refine J_lcmp C dL_law_727 ?_
    rw [eg, lg_self]
    refine J_if_eq C 733 (by decide) dL_law_728 (fun _ => ?_) (fun z => absurd rfl z)
    refine J_goto C 736 (by decide) dL_law_733 ?_
    refine J_sub (by exact (And.intro rfl (And.intro rfl (And.intro rfl (And.intro rfl (And.intro rfl trivial)))))) (kk _ 0 g X2)
  · refine J_iload C rfl dL_law_709 ?_
    refine J_icmp_eq C 716 (by decide) dL_law_711 (fun _ => ?_) (fun z => absurd rfl z)
    refine J_iload C rfl dL_law_716 ?_
    refine J_if_ne C 733 (by decide) dL_law_718 (fun _ => ?_) (fun z => absurd z (by decide))
    refine J_goto C 736 (by decide) dL_law_733 ?_
    refine J_sub (by exact (And.intro rfl (And.intro rfl (And.intro rfl (And.intro rfl (And.intro rfl trivial)))))) (kk _ 1 g X2)
end TAIL
