/-! the model: reading a term -/
def tmM (N : Nat → Nat → Int32) (Q : Nat → Nat → Int64) (j : Nat) (v : tmT) : Prop := N 13 j = nI (if v.1 then 1 else if v.2.1 then 2 else 0) ∧ Q 10 j = v.2.2.2.1 ∧ N 11 j = nI v.2.2.2.2.1 ∧ N 12 j = jv_b v.2.2.1 ∧ N 14 j = nI v.2.2.2.2.2
def tmOK (B : Nat → Nat) (v : tmT) : Prop := ¬ (v.1 = true ∧ v.2.1 = true) ∧ 1 ≤ v.2.2.2.2.1 ∧ v.2.2.2.2.1 ≤ 12 ∧ v.2.2.2.2.2 ≤ 9 ∧ ∃ s0, v.2.2.2.1 = sp_lo B s0 v.2.2.2.2.1
theorem vu_vu {α : Type} (f : Nat → α) (k : Nat) (a b : α) : va_up (va_up f k a) k b = va_up f k b := by
  funext i
  unfold va_up
  by_cases c : i = k
  · rw [if_pos c, if_pos c]
  · rw [if_neg c, if_neg c, if_neg c]
theorem vu_at {α : Type} (f : Nat → α) (k : Nat) (a : α) : va_up f k a k = a := if_pos rfl
/-- a letter that goes into a term -/
theorem qs_let_ok {c st : Nat} {tv : Nat → tmT} {v : tmT} {b : Nat} (hb : 0 < sp_let b) (hn : v.2.2.2.2.1 < 12) : qs_let (c + 1, st, va_up tv c v) b = (0, (c + 1, 2, va_up tv c (tm_app v b))) := by
  unfold qs_let
  rw [if_pos ((isl_iff b).mpr hb)]
  show (if 12 ≤ (va_up tv c v (c + 1 - 1)).2.2.2.2.1 then _ else _) = _
  rw [Nat.add_sub_cancel, vu_at, if_neg (by omega), vu_vu]
  show (0, (c + 1, 2, va_up tv c (tm_app (va_up tv c v c) b))) = _
  rw [vu_at]
theorem qs_let_long {c st : Nat} {tv : Nat → tmT} {v : tmT} {b : Nat} (hb : 0 < sp_let b) (hn : 12 ≤ v.2.2.2.2.1) : (qs_let (c + 1, st, va_up tv c v) b).1 = 2 := by
  unfold qs_let
  rw [if_pos ((isl_iff b).mpr hb)]
  have e : (va_up tv c v (c + 1 - 1)) = v := by rw [Nat.add_sub_cancel, vu_at]
  rw [if_pos (by show 12 ≤ (va_up tv c v (c + 1 - 1)).2.2.2.2.1; rw [e]; exact hn)]
theorem let_no {b : Nat} (hb : 0 < sp_let b) : b ≠ 43 ∧ b ≠ 45 ∧ b ≠ 42 ∧ b ≠ 94 ∧ 32 < b := by
  unfold sp_let at hb
  split at hb
  · omega
  · split at hb <;> omega
section TERMB
variable {l : jL} {h : jH} {m : Nat} {A : Nat → Nat} {g : Nat → Int32} {N : Nat → Nat → Int32} {Q : Nat → Nat → Int64} {nt i c : Nat} {B : Nat → Nat} {E : Nat × Nat × qsT} {tv : Nat → tmT}
/-- while a term is read -/
def tS0 (h : jH) (m : Nat) (A : Nat → Nat) (g : Nat → Int32) (N : Nat → Nat → Int32) (Q : Nat → Nat → Int64) (c : Nat) (h' : jH) (g' : Nat → Int32) (N' : Nat → Nat → Int32) (Q' : Nat → Nat → Int64) : Prop :=
  fr (mdS m A) h h' ∧ mdl h' m A g' N' Q' ∧ (∀ k, k ≠ 9 → k ≠ 15 → k ≠ 16 → k ≠ 17 → g' k = g k) ∧ (∀ k, k ≠ 11 → k ≠ 12 → k ≠ 13 → k ≠ 14 → N' k = N k) ∧ (∀ k j, j ≠ c → N' k j = N k j) ∧ (∀ k, k ≠ 10 → Q' k = Q k) ∧ ∀ j, j ≠ c → Q' 10 j = Q 10 j
variable {h' : jH} {g' : Nat → Int32} {N' : Nat → Nat → Int32} {Q' : Nat → Nat → Int64}
theorem tS0_g (S : tS0 h m A g N Q c h' g' N' Q') (k : Nat) (v : Int32) (hk : k = 9 ∨ k = 15 ∨ k = 16 ∨ k = 17) : tS0 h m A g N Q c (jv_up h' m (mdO A (va_up g' k v))) (va_up g' k v) N' Q' := by
  obtain ⟨s1, s2, s3, s4, s5, s6, s7⟩ := S
  exact ⟨fr_tr s1 (fr_up (Or.inl rfl)), mdl_s s2 _, fun j j1 j2 j3 j4 => (if_neg (by omega)).trans (s3 j j1 j2 j3 j4), s4, s5, s6, s7⟩
theorem tS0_N (S : tS0 h m A g N Q c h' g' N' Q') (k kd : Nat) (v : Int32) (hk : k = 11 ∨ k = 12 ∨ k = 13 ∨ k = 14) (hr : mdR N' Q' k = some (kd, 200, .inl (N' k))) : tS0 h m A g N Q c (jv_up h' (A k) (.inl (kd, 200, .inl (upd (N' k) c v)))) g' (va_up N' k (upd (N' k) c v)) Q' := by
  obtain ⟨s1, s2, s3, s4, s5, s6, s7⟩ := S
  have hr2 : mdR (va_up N' k (upd (N' k) c v)) Q' k = some (kd, 200, .inl (upd (N' k) c v)) := by
    rcases hk with e | e | e | e <;> subst e <;> (cases hr; rfl)
  refine ⟨fr_tr s1 (mdS_up k (mdK_of hr) _), mdl_N s2 k hr hr2, s3, fun j j1 j2 j3 j4 => (if_neg (by omega)).trans (s4 j j1 j2 j3 j4), fun k2 j hj => ?_, s6, s7⟩
  by_cases q : k2 = k
  · rw [q, vu_at, pk_un hj]; exact s5 k j hj
  · rw [show va_up N' k (upd (N' k) c v) k2 = N' k2 from if_neg q]; exact s5 k2 j hj
theorem tS0_Q (S : tS0 h m A g N Q c h' g' N' Q') (v : Int64) : tS0 h m A g N Q c (jv_up h' (A 10) (.inl (3, 200, .inr (.inl (vp_updL (Q' 10) c v))))) g' N' (va_up Q' 10 (vp_updL (Q' 10) c v)) := by
  obtain ⟨s1, s2, s3, s4, s5, s6, s7⟩ := S
  exact ⟨fr_tr s1 (mdS_up 10 rfl _), mdl_Q s2 10 rfl rfl, s3, s4, s5, fun k hk => (if_neg hk).trans (s6 k hk), fun j hj => by rw [vu_at]; exact (if_neg hj).trans (s7 j hj)⟩
def tEnd (B : Nat → Nat) (nt : Nat) (E : Nat × Nat × qsT) (h : jH) (m : Nat) (A : Nat → Nat) (g : Nat → Int32) (N : Nat → Nat → Int32) (Q : Nat → Nat → Int64) (i c : Nat) (tv : Nat → tmT) (r : Option Value) (h1 : jH) : Prop :=
  ∃ bad : Bool, r = some (.int (jv_b bad)) ∧ ∃ g' N' Q', tS0 h m A g N Q c h1 g' N' Q' ∧ (bad = true → E.1 ≠ 0 ∧ g' 16 = nI E.1 ∧ g' 17 = qs_fp E) ∧ (bad = false → ∃ i' v, i < i' ∧ i' ≤ nt ∧ g' 15 = nI i' ∧ g' 9 = nI (c + 1) ∧ g' 16 = nI 0 ∧ g' 17 = -1 ∧ qR B nt E i' (c + 1, 0, va_up tv c v) ∧ tmM N' Q' c v ∧ tmOK B v)
theorem tS0_bad (S : tS0 h m A g N Q c h' g' N' Q') {h2 : jH} (F : fr (mdS m A) h' h2) {b : Bool} {w : Int32} (M2 : mdl h2 m A (bdG g' b w) N' Q') : tS0 h m A g N Q c h2 (bdG g' b w) N' Q' := by
  obtain ⟨s1, s2, s3, s4, s5, s6, s7⟩ := S
  refine ⟨fr_tr s1 F, M2, fun j j1 j2 j3 j4 => ?_, s4, s5, s6, s7⟩
  unfold bdG
  cases b with
  | true => exact s3 j j1 j2 j3 j4
  | false => exact ((if_neg j4).trans (if_neg j3)).trans (s3 j j1 j2 j3 j4)
set_option maxHeartbeats 4000000 in
theorem c_M_term (M : mdl h m A g N Q) (T : mdT g N nt B) (h15 : g 15 = nI i) (h9 : g 9 = nI c) (hc : c < 16) (hi : i < nt) (hst : 0 < sp_let (B i) ∨ B i = 43 ∨ B i = 45) (R : qR B nt E i (c, 0, tv)) (e16 : g 16 = nI 0) (e17 : g 17 = -1) : Cn l yX12_isTermBad cX12_isTermBad 3 (some .boolean) 3 0 0 [.ref m] h (tEnd B nt E h m A g N Q i c tv) := by
  obtain ⟨t1, t2, t3⟩ := id T
  refine Cn.of (own := RX12) rfl (by decide) (by exact Nat.le_of_ble_eq_true rfl) (by decide) (fun K hK C D _ => ?_)
  have m1 := M.1
  have TT : ∀ {h' g' N' Q'}, tS0 h m A g N Q c h' g' N' Q' → mdT g' N' nt B := fun S => by
    unfold mdT at T ⊢
    rw [S.2.2.1 1 (by decide) (by decide) (by decide) (by decide), S.2.2.2.1 2 (by decide) (by decide) (by decide) (by decide)]
    exact T
  -- the end
  have KEnd : ∀ (i' st : Nat) (v : tmT) (h' : jH) (g' : Nat → Int32) (N' : Nat → Nat → Int32) (Q' : Nat → Nat → Int64), tS0 h m A g N Q c h' g' N' Q' → g' 16 = nI 0 → g' 17 = -1 → g' 15 = nI i' → g' 9 = nI c → i < i' → i' ≤ nt → qR B nt E i' (c + 1, st, va_up tv c v) → (st = 2 ∨ st = 3 ∨ st = 5) → (i' < nt → 32 < B i' → (qs_take (c + 1, st, va_up tv c v) (B i')).1 = 1) → tmM N' Q' c v → tmOK B v → J K 0 0 369 (jv_l [(1, .int (nI c)), (0, .ref m)]) [] h' := by
    intro i' st v h' g' N' Q' S g16 g17 g15 g9 hi1 hi2 R' hst' hf TM OK
    have m1' := S.2.1.1
    have S2 := tS0_g S 9 (nI (c + 1)) (Or.inl rfl)
    have m2 := S2.2.1.1
    have T2 := TT S2
    have g215 : va_up g' 9 (nI (c + 1)) 15 = nI i' := g15
    have g21 : va_up g' 9 (nI (c + 1)) 1 = nI nt := T2.1
    have Kb : ∀ b : Bool, b = decide (i' = nt ∨ B i' ≤ 32) → J K 0 0 403 (jv_l [(1, .int (nI c)), (0, .ref m)]) [.int (jv_b b), .ref m] (jv_up h' m (mdO A (va_up g' 9 (nI (c + 1))))) := by
      intro b hb
      refine J_iconst C (v := nI 1) (by decide) dX12_isTermBad_403 ?_
      refine J_callV C (c_M_bad S2.2.1 b (nI 1)) cw_X12_160 (by first | assumption | exact jv_up_at _ _ _ | (simp [jv_up, *]; done)) rfl rfl rfl rfl (by exact Nat.le_of_ble_eq_true rfl) (by decide) (by omega) (by omega) dX12_isTermBad_404 ?_
      rintro _ h3 ⟨rfl, F3, M3⟩
      have S3 := tS0_bad S2 F3 M3
      refine J_zret C D (by cases b <;> first | exact Or.inl rfl | exact Or.inr rfl) ⟨!b, rfl, _, _, _, S3, fun hbad => ?_, fun hbad => ?_⟩ (by omega) (by omega) dX12_isTermBad_407
      · have hb0 : b = false := by cases b <;> first | rfl | cases hbad
        subst hb0
        have hn := of_decide_eq_false hb.symm
        have f := qR_fault R' (by omega) (hf (by omega) (by omega)) (by decide)
        refine ⟨by rw [f.1]; decide, ?_, ?_⟩
        · rw [f.1]; rfl
        · rw [f.2]; exact g15
      · have hb1 : b = true := by cases b <;> first | rfl | cases hbad
        subst hb1
        have hy := of_decide_eq_true hb.symm
        exact ⟨i', v, hi1, hi2, g15, rfl, g16, g17, qR_blank R' hst' (by omega), TM, OK⟩
    first | refine J_aload_n C rfl dX12_isTermBad_369 ?_ | refine J_aload_nq C rfl dX12_isTermBad_369 ?_ | refine J_aload_nN C rfl dX12_isTermBad_369 ?_
    refine J_dup C rfl dX12_isTermBad_370 ?_
    refine J_get C fl_X12_154 (by first | assumption | exact jv_up_at _ _ _ | (simp [jv_up, *]; done)) (by rfl) dX12_isTermBad_371 ?_
    refine J_iconst C (v := nI 1) (by decide) dX12_isTermBad_374 ?_
    rw [g9]
    first | refine J_niadd C dX12_isTermBad_375 ?_ | refine J_iadd C dX12_isTermBad_375 ?_
    first | refine J_mput C fl_X12_154 (by first | assumption | exact jv_up_at _ _ _) (by decide) (by rfl) (by rfl) dX12_isTermBad_376 ?_ | refine J_put C fl_X12_154 (by first | assumption | exact jv_up_at _ _ _ | (simp [jv_up, *]; done)) (by exact Nat.le_of_ble_eq_true rfl) (by rfl) (by rfl) dX12_isTermBad_376 ?_
    first | refine J_aload_n C rfl dX12_isTermBad_379 ?_ | refine J_aload_nq C rfl dX12_isTermBad_379 ?_ | refine J_aload_nN C rfl dX12_isTermBad_379 ?_
    first | refine J_aload_n C rfl dX12_isTermBad_380 ?_ | refine J_aload_nq C rfl dX12_isTermBad_380 ?_ | refine J_aload_nN C rfl dX12_isTermBad_380 ?_
    refine J_get C fl_X12_144 (by first | assumption | exact jv_up_at _ _ _ | (simp [jv_up, *]; done)) (by rfl) dX12_isTermBad_381 ?_
    first | refine J_aload_n C rfl dX12_isTermBad_384 ?_ | refine J_aload_nq C rfl dX12_isTermBad_384 ?_ | refine J_aload_nN C rfl dX12_isTermBad_384 ?_
    refine J_get C fl_X12_74 (by first | assumption | exact jv_up_at _ _ _ | (simp [jv_up, *]; done)) (by rfl) dX12_isTermBad_385 ?_
    rw [g215, g21]
    refine J_nicmp_eq C (by first | omega | (dsimp only; omega)) (by first | omega | (dsimp only; omega)) 398 (by decide) dX12_isTermBad_388 (fun z => ?_) (fun z => ?_)
    · refine J_iconst C (v := nI 1) (by decide) dX12_isTermBad_398 ?_
      refine J_goto C 403 (by decide) dX12_isTermBad_399 ?_
      refine J_sub (by exact (And.intro rfl (And.intro rfl trivial))) (Kb true (decide_eq_true (Or.inl z)).symm)
    · first | refine J_aload_n C rfl dX12_isTermBad_391 ?_ | refine J_aload_nq C rfl dX12_isTermBad_391 ?_ | refine J_aload_nN C rfl dX12_isTermBad_391 ?_
      refine J_callV C (c_M_isBlank S2.2.1 T2 g215 (by omega)) cw_X12_147 (by first | assumption | exact jv_up_at _ _ _ | (simp [jv_up, *]; done)) rfl rfl rfl rfl (by exact Nat.le_of_ble_eq_true rfl) (by decide) (by omega) (by omega) dX12_isTermBad_392 ?_
      rintro _ h9 ⟨rfl, e9⟩
      replace e9 := e9.symm
      subst e9
      refine J_bif_eq C 402 (by decide) dX12_isTermBad_395 (fun z2 => ?_) (fun z2 => ?_)
      · have z2 := of_decide_eq_false z2
        refine J_iconst C (v := nI 0) (by decide) dX12_isTermBad_402 ?_
        refine J_sub (by exact (And.intro rfl (And.intro rfl trivial))) (Kb false (decide_eq_false (by omega)).symm)
      · have z2 := of_decide_eq_true z2
        refine J_iconst C (v := nI 1) (by decide) dX12_isTermBad_398 ?_
        refine J_goto C 403 (by decide) dX12_isTermBad_399 ?_
        refine J_sub (by exact (And.intro rfl (And.intro rfl trivial))) (Kb true (decide_eq_true (Or.inr z2.2)).symm)
  -- the weight
  have K270 : ∀ (i' st : Nat) (v : tmT) (h' : jH) (g' : Nat → Int32) (N' : Nat → Nat → Int32) (Q' : Nat → Nat → Int64), tS0 h m A g N Q c h' g' N' Q' → g' 16 = nI 0 → g' 17 = -1 → g' 15 = nI i' → g' 9 = nI c → i < i' → i' ≤ nt → qR B nt E i' (c + 1, st, va_up tv c v) → (st = 2 ∨ st = 3) → (i' < nt → B i' = 94 → qs_take (c + 1, st, va_up tv c v) (B i') = (0, (c + 1, 4, va_up tv c v))) → (i' < nt → B i' ≠ 94 → 32 < B i' → (qs_take (c + 1, st, va_up tv c v) (B i')).1 = 1) → tmM (va_up N' 14 (upd (N' 14) c (nI 1))) Q' c v → tmOK B v → v.2.2.2.2.2 = 1 → J K 0 0 270 (jv_l [(1, .int (nI c)), (0, .ref m)]) [] h' := by
    intro i' st v h' g' N' Q' S g16 g17 g15 g9 hi1 hi2 R' hst' hq hf TM OK hw
    have m1' := S.2.1.1
    have a14 := S.2.1.2.1 14 _ rfl
    have S2 := tS0_N S 14 0 (nI 1) (by decide) rfl
    have m2 := S2.2.1.1
    have T2 := TT S2
    first | refine J_aload_n C rfl dX12_isTermBad_270 ?_ | refine J_aload_nq C rfl dX12_isTermBad_270 ?_ | refine J_aload_nN C rfl dX12_isTermBad_270 ?_
    refine J_get C fl_X12_39 (by first | assumption | exact jv_up_at _ _ _ | (simp [jv_up, *]; done)) (by rfl) dX12_isTermBad_271 ?_
    refine J_iload_n C rfl dX12_isTermBad_274 ?_
    refine J_iconst C (v := nI 1) (by decide) dX12_isTermBad_275 ?_
    refine J_iast C (by first | assumption | exact jv_up_at _ _ _ | (simp [jv_up, *]; done)) rfl (by omega) (by omega) dX12_isTermBad_276 ?_
    first | refine J_aload_n C rfl dX12_isTermBad_277 ?_ | refine J_aload_nq C rfl dX12_isTermBad_277 ?_ | refine J_aload_nN C rfl dX12_isTermBad_277 ?_
    first | refine J_aload_n C rfl dX12_isTermBad_278 ?_ | refine J_aload_nq C rfl dX12_isTermBad_278 ?_ | refine J_aload_nN C rfl dX12_isTermBad_278 ?_
    refine J_get C fl_X12_144 (by first | assumption | exact jv_up_at _ _ _ | (simp [jv_up, *]; done)) (by rfl) dX12_isTermBad_279 ?_
    rw [g15]
    refine J_callV C (c_M_byteAt S2.2.1 T2 i' (by omega)) cw_X12_157 (by first | assumption | exact jv_up_at _ _ _ | (simp [jv_up, *]; done)) rfl rfl rfl rfl (by exact Nat.le_of_ble_eq_true rfl) (by decide) (by omega) (by omega) dX12_isTermBad_282 ?_
    rintro _ h9 ⟨rfl, e9⟩
    replace e9 := e9.symm
    subst e9
    refine J_bipush C (v := nI 94) (by decide) dX12_isTermBad_285 ?_
    by_cases c94 : i' < nt ∧ B i' = 94
    · rw [if_pos c94.1]
      have b2 := (t3 i' c94.1).2
      refine J_nicmp_ne C (by first | omega | (dsimp only; omega)) (by first | omega | (dsimp only; omega)) 369 (by decide) dX12_isTermBad_287 (fun z => ?_) (fun z => ?_)
      · exact absurd c94.2 z
      · have R2 := qR_step R' c94.1 (hq c94.1 c94.2)
        have S3 := tS0_g S2 15 (nI (i' + 1)) (by decide)
        have m3 := S3.2.1.1
        have T3 := TT S3
        have a143 := S3.2.1.2.1 14 _ rfl
        have a23 := S3.2.1.2.1 2 _ rfl
        have g315 : va_up g' 15 (nI (i' + 1)) 15 = nI (i' + 1) := if_pos rfl
        have Kb : ∀ b : Bool, (b = true → i' + 1 < nt ∧ 49 ≤ B (i' + 1) ∧ B (i' + 1) ≤ 57) → (b = false → ¬ (i' + 1 < nt ∧ 49 ≤ B (i' + 1) ∧ B (i' + 1) ≤ 57)) → J K 0 0 332 (jv_l [(1, .int (nI c)), (0, .ref m)]) [.int (jv_b b), .ref m] (jv_up (jv_up h' (A 14) (.inl (0, 200, .inl (upd (N' 14) c (nI 1))))) m (mdO A (va_up g' 15 (nI (i' + 1))))) := by
          intro b hb1 hb0
          refine J_iconst C (v := nI 1) (by decide) dX12_isTermBad_332 ?_
          refine J_callV C (c_M_bad S3.2.1 b (nI 1)) cw_X12_160 (by first | assumption | exact jv_up_at _ _ _ | (simp [jv_up, *]; done)) rfl rfl rfl rfl (by exact Nat.le_of_ble_eq_true rfl) (by decide) (by omega) (by omega) dX12_isTermBad_333 ?_
          rintro _ h4 ⟨rfl, F4, M4⟩
          have S4 := tS0_bad S3 F4 M4
          refine J_bif_eq C 341 (by decide) dX12_isTermBad_336 (fun z2 => ?_) (fun z2 => ?_)
          · have hb : b = true := by cases b <;> first | rfl | cases z2
            subst hb
            have hy := hb1 rfl
            obtain ⟨y1, y2⟩ := t3 (i' + 1) hy.1
            have m4 := S4.2.1.1
            have a144 := S4.2.1.2.1 14 _ rfl
            have a24 := S4.2.1.2.1 2 _ rfl
            have n2e : va_up N' 14 (upd (N' 14) c (nI 1)) 2 = N 2 := S2.2.2.2.1 2 (by decide) (by decide) (by decide) (by decide)
            have R3 := qR_step R2 hy.1 (s' := (c + 1, 5, va_up tv c (tm_wt v (B (i' + 1) - 48)))) (by
              show qs_fig (c + 1, 4, va_up tv c v) (B (i' + 1)) = _
              unfold qs_fig
              rw [if_neg (by omega)]
              show (0, (c + 1, 5, va_up (va_up tv c v) (c + 1 - 1) (tm_wt (va_up tv c v (c + 1 - 1)) (B (i' + 1) - 48)))) = _
              rw [Nat.add_sub_cancel, vu_at, vu_vu])
            have S5 := tS0_N S4 14 0 (nI (B (i' + 1) - 48)) (by decide) rfl
            have m5 := S5.2.1.1
            have S6 := tS0_g S5 15 (nI (i' + 1 + 1)) (by decide)
            first | refine J_aload_n C rfl dX12_isTermBad_341 ?_ | refine J_aload_nq C rfl dX12_isTermBad_341 ?_ | refine J_aload_nN C rfl dX12_isTermBad_341 ?_
            refine J_get C fl_X12_39 (by first | assumption | exact jv_up_at _ _ _ | (simp [jv_up, *]; done)) (by rfl) dX12_isTermBad_342 ?_
            refine J_iload_n C rfl dX12_isTermBad_345 ?_
            first | refine J_aload_n C rfl dX12_isTermBad_346 ?_ | refine J_aload_nq C rfl dX12_isTermBad_346 ?_ | refine J_aload_nN C rfl dX12_isTermBad_346 ?_
            refine J_get C fl_X12_7 (by first | assumption | exact jv_up_at _ _ _ | (simp [jv_up, *]; done)) (by rfl) dX12_isTermBad_347 ?_
            first | refine J_aload_n C rfl dX12_isTermBad_350 ?_ | refine J_aload_nq C rfl dX12_isTermBad_350 ?_ | refine J_aload_nN C rfl dX12_isTermBad_350 ?_
            refine J_get C fl_X12_144 (by first | assumption | exact jv_up_at _ _ _ | (simp [jv_up, *]; done)) (by rfl) dX12_isTermBad_351 ?_
            rw [show bdG (va_up g' 15 (nI (i' + 1))) true (nI 1) 15 = nI (i' + 1) from rfl]
            refine J_iald C (by first | assumption | exact jv_up_at _ _ _ | (simp [jv_up, *]; done)) rfl (by omega) (by omega) dX12_isTermBad_354 ?_
            rw [n2e, y1]
            refine J_bipush C (v := nI 48) (by decide) dX12_isTermBad_355 ?_
            first | refine J_nisub C (by omega) dX12_isTermBad_357 ?_ | refine J_isub C dX12_isTermBad_357 ?_
            refine J_iast C (by first | assumption | exact jv_up_at _ _ _ | (simp [jv_up, *]; done)) rfl (by omega) (by omega) dX12_isTermBad_358 ?_
            first | refine J_aload_n C rfl dX12_isTermBad_359 ?_ | refine J_aload_nq C rfl dX12_isTermBad_359 ?_ | refine J_aload_nN C rfl dX12_isTermBad_359 ?_
            refine J_dup C rfl dX12_isTermBad_360 ?_
            refine J_get C fl_X12_144 (by first | assumption | exact jv_up_at _ _ _ | (simp [jv_up, *]; done)) (by rfl) dX12_isTermBad_361 ?_
            refine J_iconst C (v := nI 1) (by decide) dX12_isTermBad_364 ?_
            rw [show bdG (va_up g' 15 (nI (i' + 1))) true (nI 1) 15 = nI (i' + 1) from rfl]
            first | refine J_niadd C dX12_isTermBad_365 ?_ | refine J_iadd C dX12_isTermBad_365 ?_
            first | refine J_mput C fl_X12_144 (by first | assumption | exact jv_up_at _ _ _) (by decide) (by rfl) (by rfl) dX12_isTermBad_366 ?_ | refine J_put C fl_X12_144 (by first | assumption | exact jv_up_at _ _ _ | (simp [jv_up, *]; done)) (by exact Nat.le_of_ble_eq_true rfl) (by rfl) (by rfl) dX12_isTermBad_366 ?_
            refine J_sub (by exact (And.intro rfl (And.intro rfl trivial))) (KEnd (i' + 1 + 1) 5 (tm_wt v (B (i' + 1) - 48)) _ _ _ _ S6 g16 g17 (if_pos rfl) g9 (by omega) (by omega) R3 (by decide) (fun _ hb => by show (qs_blank _ _).1 = 1; unfold qs_blank; rw [if_pos hb]) ⟨TM.1, TM.2.1, TM.2.2.1, TM.2.2.2.1, pk_us⟩ ⟨OK.1, OK.2.1, OK.2.2.1, by show B (i' + 1) - 48 ≤ 9; omega, OK.2.2.2.2⟩)
          · have hb : b = false := by cases b <;> first | rfl | cases z2
            subst hb
            have hn := hb0 rfl
            have f : E.1 = 1 ∧ qs_fp E = nI (i' + 1) := by
              by_cases ce : i' + 1 = nt
              · have R9 := R2
                rw [ce] at R9
                have := qR_cut R9 (Or.inr rfl)
                rw [ce]; exact this
              · exact qR_fault R2 (by omega) (by
                  show (qs_fig (c + 1, 4, va_up tv c v) (B (i' + 1))).1 = 1
                  unfold qs_fig
                  rw [if_pos (by omega)]) (by decide)
            refine J_iconst C (v := nI 1) (by decide) dX12_isTermBad_339 ?_
            refine J_zret C D (Or.inr rfl) ⟨true, rfl, _, _, _, S4, fun _ => ⟨by rw [f.1]; decide, by rw [f.1]; rfl, by rw [f.2]; rfl⟩, fun q => by cases q⟩ (by omega) (by omega) dX12_isTermBad_340
        first | refine J_aload_n C rfl dX12_isTermBad_290 ?_ | refine J_aload_nq C rfl dX12_isTermBad_290 ?_ | refine J_aload_nN C rfl dX12_isTermBad_290 ?_
        refine J_dup C rfl dX12_isTermBad_291 ?_
        refine J_get C fl_X12_144 (by first | assumption | exact jv_up_at _ _ _ | (simp [jv_up, *]; done)) (by rfl) dX12_isTermBad_292 ?_
        refine J_iconst C (v := nI 1) (by decide) dX12_isTermBad_295 ?_
        rw [g15]
        first | refine J_niadd C dX12_isTermBad_296 ?_ | refine J_iadd C dX12_isTermBad_296 ?_
        first | refine J_mput C fl_X12_144 (by first | assumption | exact jv_up_at _ _ _) (by decide) (by rfl) (by rfl) dX12_isTermBad_297 ?_ | refine J_put C fl_X12_144 (by first | assumption | exact jv_up_at _ _ _ | (simp [jv_up, *]; done)) (by exact Nat.le_of_ble_eq_true rfl) (by rfl) (by rfl) dX12_isTermBad_297 ?_
        first | refine J_aload_n C rfl dX12_isTermBad_300 ?_ | refine J_aload_nq C rfl dX12_isTermBad_300 ?_ | refine J_aload_nN C rfl dX12_isTermBad_300 ?_
        first | refine J_aload_n C rfl dX12_isTermBad_301 ?_ | refine J_aload_nq C rfl dX12_isTermBad_301 ?_ | refine J_aload_nN C rfl dX12_isTermBad_301 ?_
        first | refine J_aload_n C rfl dX12_isTermBad_302 ?_ | refine J_aload_nq C rfl dX12_isTermBad_302 ?_ | refine J_aload_nN C rfl dX12_isTermBad_302 ?_
        refine J_get C fl_X12_144 (by first | assumption | exact jv_up_at _ _ _ | (simp [jv_up, *]; done)) (by rfl) dX12_isTermBad_303 ?_
        rw [g315]
        refine J_callV C (c_M_byteAt S3.2.1 T3 (i' + 1) (by omega)) cw_X12_157 (by first | assumption | exact jv_up_at _ _ _ | (simp [jv_up, *]; done)) rfl rfl rfl rfl (by exact Nat.le_of_ble_eq_true rfl) (by decide) (by omega) (by omega) dX12_isTermBad_306 ?_
        rintro _ h9 ⟨rfl, e9⟩
        replace e9 := e9.symm
        subst e9
        refine J_bipush C (v := nI 49) (by decide) dX12_isTermBad_309 ?_
        by_cases ce : i' + 1 < nt
        · rw [if_pos ce]
          have y2 := (t3 (i' + 1) ce).2
          refine J_nicmp_lt C (by first | omega | (dsimp only; omega)) (by first | omega | (dsimp only; omega)) 331 (by decide) dX12_isTermBad_311 (fun z3 => ?_) (fun z3 => ?_)
          · refine J_iconst C (v := nI 0) (by decide) dX12_isTermBad_331 ?_
            refine J_sub (by exact (And.intro rfl (And.intro rfl trivial))) (Kb false (fun q => by cases q) (fun _ => by omega))
          · first | refine J_aload_n C rfl dX12_isTermBad_314 ?_ | refine J_aload_nq C rfl dX12_isTermBad_314 ?_ | refine J_aload_nN C rfl dX12_isTermBad_314 ?_
            first | refine J_aload_n C rfl dX12_isTermBad_315 ?_ | refine J_aload_nq C rfl dX12_isTermBad_315 ?_ | refine J_aload_nN C rfl dX12_isTermBad_315 ?_
            refine J_get C fl_X12_144 (by first | assumption | exact jv_up_at _ _ _ | (simp [jv_up, *]; done)) (by rfl) dX12_isTermBad_316 ?_
            rw [g315]
            refine J_callV C (c_M_byteAt S3.2.1 T3 (i' + 1) (by omega)) cw_X12_157 (by first | assumption | exact jv_up_at _ _ _ | (simp [jv_up, *]; done)) rfl rfl rfl rfl (by exact Nat.le_of_ble_eq_true rfl) (by decide) (by omega) (by omega) dX12_isTermBad_319 ?_
            rintro _ h9 ⟨rfl, e9⟩
            replace e9 := e9.symm
            subst e9
            rw [if_pos ce]
            refine J_bipush C (v := nI 57) (by decide) dX12_isTermBad_322 ?_
            refine J_nicmp_gt C (by first | omega | (dsimp only; omega)) (by first | omega | (dsimp only; omega)) 331 (by decide) dX12_isTermBad_324 (fun z4 => ?_) (fun z4 => ?_)
            · refine J_iconst C (v := nI 0) (by decide) dX12_isTermBad_331 ?_
              refine J_sub (by exact (And.intro rfl (And.intro rfl trivial))) (Kb false (fun q => by cases q) (fun _ => by omega))
            · refine J_iconst C (v := nI 1) (by decide) dX12_isTermBad_327 ?_
              refine J_goto C 332 (by decide) dX12_isTermBad_328 ?_
              refine J_sub (by exact (And.intro rfl (And.intro rfl trivial))) (Kb true (fun _ => by omega) (fun q => by cases q))
        · rw [if_neg ce]
          refine J_icmp_lt C 331 (by decide) dX12_isTermBad_311 (fun z3 => ?_) (fun z3 => ?_)
          · refine J_iconst C (v := nI 0) (by decide) dX12_isTermBad_331 ?_
            refine J_sub (by exact (And.intro rfl (And.intro rfl trivial))) (Kb false (fun q => by cases q) (fun _ => by omega))
          · exact absurd (by decide) z3
    · have K369 : J K 0 0 369 (jv_l [(1, .int (nI c)), (0, .ref m)]) [] (jv_up h' (A 14) (.inl (0, 200, .inl (upd (N' 14) c (nI 1))))) := KEnd i' st v _ _ _ _ S2 g16 g17 g15 g9 hi1 hi2 R' (by omega) (fun h1 h2 => hf h1 (fun q => c94 ⟨h1, q⟩) h2) TM OK
      by_cases ce : i' < nt
      · rw [if_pos ce]
        have y2 := (t3 i' ce).2
        refine J_nicmp_ne C (by first | omega | (dsimp only; omega)) (by first | omega | (dsimp only; omega)) 369 (by decide) dX12_isTermBad_287 (fun z => ?_) (fun z => ?_)
        · refine J_sub (by exact (And.intro rfl (And.intro rfl trivial))) (K369)
        · exact absurd ⟨ce, z⟩ c94
      · rw [if_neg ce]
        refine J_icmp_ne C 369 (by decide) dX12_isTermBad_287 (fun z => ?_) (fun z => ?_)
        · refine J_sub (by exact (And.intro rfl (And.intro rfl trivial))) (K369)
        · exact absurd z (by decide)
  -- behind the letters
  have K213 : ∀ (i' n s0 : Nat) (nd uw : Bool) (h' : jH) (g' : Nat → Int32) (N' : Nat → Nat → Int32) (Q' : Nat → Nat → Int64), tS0 h m A g N Q c h' g' N' Q' → g' 16 = nI 0 → g' 17 = -1 → g' 15 = nI i' → g' 9 = nI c → i < i' → i' ≤ nt → 1 ≤ n → n ≤ 12 → ¬ (nd = true ∧ uw = true) → qR B nt E i' (c + 1, 2, va_up tv c (nd, uw, false, sp_lo B s0 n, n, 1)) → (i' < nt → ¬ 0 < sp_let (B i')) → N' 13 c = nI (if nd then 1 else if uw then 2 else 0) → Q' 10 c = sp_lo B s0 n → J K 0 0 213 (jv_l [(2, .int (nI n)), (1, .int (nI c)), (0, .ref m)]) [] h' := by
    intro i' n s0 nd uw h' g' N' Q' S g16 g17 g15 g9 hi1 hi2 hn1 hn2 hnu R' hnl sg lw
    have m1' := S.2.1.1
    have a11 := S.2.1.2.1 11 _ rfl
    have S2 := tS0_N S 11 0 (nI n) (by decide) rfl
    have m2 := S2.2.1.1
    have T2 := TT S2
    have hil : i' < nt → sp_isl (B i') = false := fun q => by
      cases e : sp_isl (B i') with
      | false => rfl
      | true => exact absurd ((isl_iff _).mp e) (hnl q)
    first | refine J_aload_n C rfl dX12_isTermBad_213 ?_ | refine J_aload_nq C rfl dX12_isTermBad_213 ?_ | refine J_aload_nN C rfl dX12_isTermBad_213 ?_
    refine J_get C fl_X12_29 (by first | assumption | exact jv_up_at _ _ _ | (simp [jv_up, *]; done)) (by rfl) dX12_isTermBad_214 ?_
    refine J_iload_n C rfl dX12_isTermBad_217 ?_
    refine J_iload_n C rfl dX12_isTermBad_218 ?_
    refine J_iast C (by first | assumption | exact jv_up_at _ _ _ | (simp [jv_up, *]; done)) rfl (by omega) (by omega) dX12_isTermBad_219 ?_
    first | refine J_aload_n C rfl dX12_isTermBad_220 ?_ | refine J_aload_nq C rfl dX12_isTermBad_220 ?_ | refine J_aload_nN C rfl dX12_isTermBad_220 ?_
    refine J_get C fl_X12_32 (by first | assumption | exact jv_up_at _ _ _ | (simp [jv_up, *]; done)) (by rfl) dX12_isTermBad_221 ?_
    refine J_iload_n C rfl dX12_isTermBad_224 ?_
    first | refine J_aload_n C rfl dX12_isTermBad_225 ?_ | refine J_aload_nq C rfl dX12_isTermBad_225 ?_ | refine J_aload_nN C rfl dX12_isTermBad_225 ?_
    first | refine J_aload_n C rfl dX12_isTermBad_226 ?_ | refine J_aload_nq C rfl dX12_isTermBad_226 ?_ | refine J_aload_nN C rfl dX12_isTermBad_226 ?_
    refine J_get C fl_X12_144 (by first | assumption | exact jv_up_at _ _ _ | (simp [jv_up, *]; done)) (by rfl) dX12_isTermBad_227 ?_
    rw [g15]
    refine J_callV C (c_M_byteAt S2.2.1 T2 i' (by omega)) cw_X12_157 (by first | assumption | exact jv_up_at _ _ _ | (simp [jv_up, *]; done)) rfl rfl rfl rfl (by exact Nat.le_of_ble_eq_true rfl) (by decide) (by omega) (by omega) dX12_isTermBad_230 ?_
    rintro _ h9 ⟨rfl, e9⟩
    replace e9 := e9.symm
    subst e9
    refine J_bipush C (v := nI 42) (by decide) dX12_isTermBad_233 ?_
    have a122 := S2.2.1.2.1 12 _ rfl
    by_cases c42 : i' < nt ∧ B i' = 42
    · rw [if_pos c42.1]
      have b2 := (t3 i' c42.1).2
      have S3 := tS0_N S2 12 2 (jv_b true) (by decide) rfl
      have m3 := S3.2.1.1
      have S4 := tS0_g S3 15 (nI (i' + 1)) (by decide)
      have R2 := qR_step R' c42.1 (s' := (c + 1, 3, va_up tv c (nd, uw, true, sp_lo B s0 n, n, 1))) (by
        show qs_behind (c + 1, 2, va_up tv c (nd, uw, false, sp_lo B s0 n, n, 1)) (B i') = _
        unfold qs_behind
        rw [hil c42.1, if_neg Bool.false_ne_true, if_pos c42.2]
        show (0, (c + 1, 3, va_up (va_up tv c (nd, uw, false, sp_lo B s0 n, n, 1)) (c + 1 - 1) (tm_open (va_up tv c (nd, uw, false, sp_lo B s0 n, n, 1) (c + 1 - 1))))) = _
        rw [Nat.add_sub_cancel, vu_at, vu_vu]
        rfl)
      refine J_nicmp_ne C (by first | omega | (dsimp only; omega)) (by first | omega | (dsimp only; omega)) 242 (by decide) dX12_isTermBad_235 (fun z => ?_) (fun z => ?_)
      · exact absurd c42.2 z
      · refine J_iconst C (v := nI 1) (by decide) dX12_isTermBad_238 ?_
        refine J_goto C 243 (by decide) dX12_isTermBad_239 ?_
        refine J_zast C (by first | assumption | exact jv_up_at _ _ _ | (simp [jv_up, *]; done)) rfl (by omega) (by omega) dX12_isTermBad_243 ?_
        rw [show vp_nar .boolean (nI 1) = jv_b true from rfl]
        first | refine J_aload_n C rfl dX12_isTermBad_244 ?_ | refine J_aload_nq C rfl dX12_isTermBad_244 ?_ | refine J_aload_nN C rfl dX12_isTermBad_244 ?_
        first | refine J_aload_n C rfl dX12_isTermBad_245 ?_ | refine J_aload_nq C rfl dX12_isTermBad_245 ?_ | refine J_aload_nN C rfl dX12_isTermBad_245 ?_
        refine J_get C fl_X12_32 (by first | assumption | exact jv_up_at _ _ _ | (simp [jv_up, *]; done)) (by rfl) dX12_isTermBad_246 ?_
        refine J_iload_n C rfl dX12_isTermBad_249 ?_
        refine J_zald C (by first | assumption | exact jv_up_at _ _ _ | (simp [jv_up, *]; done)) rfl (by omega) (by omega) dX12_isTermBad_250 ?_
        rw [pk_us]
        refine J_bif_eq C 263 (by decide) dX12_isTermBad_251 (fun z2 => ?_) (fun z2 => ?_)
        · cases z2
        · first | refine J_aload_n C rfl dX12_isTermBad_254 ?_ | refine J_aload_nq C rfl dX12_isTermBad_254 ?_ | refine J_aload_nN C rfl dX12_isTermBad_254 ?_
          refine J_get C fl_X12_144 (by first | assumption | exact jv_up_at _ _ _ | (simp [jv_up, *]; done)) (by rfl) dX12_isTermBad_255 ?_
          rw [g15]
          refine J_iconst C (v := nI 1) (by decide) dX12_isTermBad_258 ?_
          first | refine J_niadd C dX12_isTermBad_259 ?_ | refine J_iadd C dX12_isTermBad_259 ?_
          refine J_goto C 267 (by decide) dX12_isTermBad_260 ?_
          first | refine J_mput C fl_X12_144 (by first | assumption | exact jv_up_at _ _ _) (by decide) (by rfl) (by rfl) dX12_isTermBad_267 ?_ | refine J_put C fl_X12_144 (by first | assumption | exact jv_up_at _ _ _ | (simp [jv_up, *]; done)) (by exact Nat.le_of_ble_eq_true rfl) (by rfl) (by rfl) dX12_isTermBad_267 ?_
          refine J_sub (by exact (And.intro rfl (And.intro rfl trivial))) (K270 (i' + 1) 3 (nd, uw, true, sp_lo B s0 n, n, 1) _ _ _ _ S4 g16 g17 (if_pos rfl) g9 (by omega) (by omega) R2 (by decide) (fun h1 h2 => by show qs_star _ _ = _; exact if_pos h2) (fun h1 h2 h3 => by show (qs_star _ _).1 = _; unfold qs_star; rw [if_neg h2]; show (qs_blank _ _).1 = _; unfold qs_blank; rw [if_pos h3]) ⟨sg, lw, pk_us, pk_us, pk_us⟩ ⟨hnu, hn1, hn2, show 1 ≤ 9 by decide, s0, rfl⟩ rfl)
    · have S3 := tS0_N S2 12 2 (jv_b false) (by decide) rfl
      have m3 := S3.2.1.1
      have S4 := tS0_g S3 15 (nI i') (by decide)
      have K242b : J K 0 0 242 (jv_l [(2, .int (nI n)), (1, .int (nI c)), (0, .ref m)]) [.int (nI c), .ref (A 12)] (jv_up h' (A 11) (.inl (0, 200, .inl (upd (N' 11) c (nI n))))) := by
        refine J_iconst C (v := nI 0) (by decide) dX12_isTermBad_242 ?_
        refine J_zast C (by first | assumption | exact jv_up_at _ _ _ | (simp [jv_up, *]; done)) rfl (by omega) (by omega) dX12_isTermBad_243 ?_
        rw [show vp_nar .boolean (nI 0) = jv_b false from rfl]
        first | refine J_aload_n C rfl dX12_isTermBad_244 ?_ | refine J_aload_nq C rfl dX12_isTermBad_244 ?_ | refine J_aload_nN C rfl dX12_isTermBad_244 ?_
        first | refine J_aload_n C rfl dX12_isTermBad_245 ?_ | refine J_aload_nq C rfl dX12_isTermBad_245 ?_ | refine J_aload_nN C rfl dX12_isTermBad_245 ?_
        refine J_get C fl_X12_32 (by first | assumption | exact jv_up_at _ _ _ | (simp [jv_up, *]; done)) (by rfl) dX12_isTermBad_246 ?_
        refine J_iload_n C rfl dX12_isTermBad_249 ?_
        refine J_zald C (by first | assumption | exact jv_up_at _ _ _ | (simp [jv_up, *]; done)) rfl (by omega) (by omega) dX12_isTermBad_250 ?_
        rw [pk_us]
        refine J_bif_eq C 263 (by decide) dX12_isTermBad_251 (fun z2 => ?_) (fun z2 => ?_)
        · first | refine J_aload_n C rfl dX12_isTermBad_263 ?_ | refine J_aload_nq C rfl dX12_isTermBad_263 ?_ | refine J_aload_nN C rfl dX12_isTermBad_263 ?_
          refine J_get C fl_X12_144 (by first | assumption | exact jv_up_at _ _ _ | (simp [jv_up, *]; done)) (by rfl) dX12_isTermBad_264 ?_
          rw [g15]
          first | refine J_mput C fl_X12_144 (by first | assumption | exact jv_up_at _ _ _) (by decide) (by rfl) (by rfl) dX12_isTermBad_267 ?_ | refine J_put C fl_X12_144 (by first | assumption | exact jv_up_at _ _ _ | (simp [jv_up, *]; done)) (by exact Nat.le_of_ble_eq_true rfl) (by rfl) (by rfl) dX12_isTermBad_267 ?_
          refine J_sub (by exact (And.intro rfl (And.intro rfl trivial))) (K270 i' 2 (nd, uw, false, sp_lo B s0 n, n, 1) _ _ _ _ S4 g16 g17 (if_pos rfl) g9 (by omega) (by omega) R' (by decide) (fun h1 h2 => by show qs_behind _ _ = _; unfold qs_behind; rw [hil h1, if_neg Bool.false_ne_true, if_neg (fun q => c42 ⟨h1, q⟩)]; exact if_pos h2) (fun h1 h2 h3 => by show (qs_behind _ _).1 = _; unfold qs_behind; rw [hil h1, if_neg Bool.false_ne_true, if_neg (fun q => c42 ⟨h1, q⟩)]; unfold qs_star; rw [if_neg h2]; unfold qs_blank; rw [if_pos h3]) ⟨sg, lw, pk_us, pk_us, pk_us⟩ ⟨hnu, hn1, hn2, show 1 ≤ 9 by decide, s0, rfl⟩ rfl)
        · cases z2
      by_cases ce : i' < nt
      · rw [if_pos ce]
        have y2 := (t3 i' ce).2
        refine J_nicmp_ne C (by first | omega | (dsimp only; omega)) (by first | omega | (dsimp only; omega)) 242 (by decide) dX12_isTermBad_235 (fun z => ?_) (fun z => ?_)
        · refine J_sub (by exact (And.intro rfl (And.intro rfl (And.intro rfl trivial)))) (K242b)
        · exact absurd ⟨ce, z⟩ c42
      · rw [if_neg ce]
        refine J_icmp_ne C 242 (by decide) dX12_isTermBad_235 (fun z => ?_) (fun z => ?_)
        · refine J_sub (by exact (And.intro rfl (And.intro rfl (And.intro rfl trivial)))) (K242b)
        · exact absurd z (by decide)
  -- the letters
  have loop : ∀ (r i' n s0 : Nat) (nd uw : Bool) (h' : jH) (g' : Nat → Int32) (N' : Nat → Nat → Int32) (Q' : Nat → Nat → Int64), i' + r = nt → tS0 h m A g N Q c h' g' N' Q' → g' 16 = nI 0 → g' 17 = -1 → g' 15 = nI i' → g' 9 = nI c → i ≤ i' → (1 ≤ n → i < i') → n ≤ 12 → s0 + n = i' → ¬ (nd = true ∧ uw = true) → (n = 0 → i' < nt ∧ 0 < sp_let (B i')) → (∀ b, b = B i' → 0 < sp_let b → i' < nt → n < 12 → qR B nt E (i' + 1) (c + 1, 2, va_up tv c (nd, uw, false, sp_lo B s0 (n + 1), n + 1, 1))) → (1 ≤ n → qR B nt E i' (c + 1, 2, va_up tv c (nd, uw, false, sp_lo B s0 n, n, 1))) → N' 13 c = nI (if nd then 1 else if uw then 2 else 0) → Q' 10 c = sp_lo B s0 n → J K 0 0 122 (jv_l [(2, .int (nI n)), (1, .int (nI c)), (0, .ref m)]) [] h' := by
    intro r
    induction r with
    | zero =>
      intro i' n s0 nd uw h' g' N' Q' hr S g16 g17 g15 g9 hi1 hi2 hn hs0 hnu hn0 R1 R2 sg lw
      have hr : i' = nt := hr
      have m1' := S.2.1.1
      have g1 := (TT S).1
      have hn1 : 1 ≤ n := Nat.pos_of_ne_zero (fun e => by have := (hn0 e).1; omega)
      first | refine J_aload_n C rfl dX12_isTermBad_122 ?_ | refine J_aload_nq C rfl dX12_isTermBad_122 ?_ | refine J_aload_nN C rfl dX12_isTermBad_122 ?_
      refine J_get C fl_X12_144 (by first | assumption | exact jv_up_at _ _ _ | (simp [jv_up, *]; done)) (by rfl) dX12_isTermBad_123 ?_
      rw [g15]
      first | refine J_aload_n C rfl dX12_isTermBad_126 ?_ | refine J_aload_nq C rfl dX12_isTermBad_126 ?_ | refine J_aload_nN C rfl dX12_isTermBad_126 ?_
      refine J_get C fl_X12_74 (by first | assumption | exact jv_up_at _ _ _ | (simp [jv_up, *]; done)) (by rfl) dX12_isTermBad_127 ?_
      rw [g1]
      refine J_nicmp_ge C (by first | omega | (dsimp only; omega)) (by first | omega | (dsimp only; omega)) 213 (by decide) dX12_isTermBad_130 (fun z => ?_) (fun z => ?_)
      · refine J_sub (by exact (And.intro rfl (And.intro rfl (And.intro rfl trivial)))) (K213 i' n s0 nd uw h' g' N' Q' S g16 g17 g15 g9 (hi2 hn1) (by omega) hn1 hn hnu (R2 hn1) (fun q => by omega) sg lw)
      · omega
    | succ r ih =>
      intro i' n s0 nd uw h' g' N' Q' hr S g16 g17 g15 g9 hi1 hi2 hn hs0 hnu hn0 R1 R2 sg lw
      have m1' := S.2.1.1
      have g1 := (TT S).1
      have a2 := S.2.1.2.1 2 _ rfl
      have n2 : N' 2 = N 2 := S.2.2.2.1 2 (by decide) (by decide) (by decide) (by decide)
      rw [n2] at a2
      obtain ⟨b1, b2⟩ := t3 i' (by omega)
      have hlt := sp_let_lt (B i')
      first | refine J_aload_n C rfl dX12_isTermBad_122 ?_ | refine J_aload_nq C rfl dX12_isTermBad_122 ?_ | refine J_aload_nN C rfl dX12_isTermBad_122 ?_
      refine J_get C fl_X12_144 (by first | assumption | exact jv_up_at _ _ _ | (simp [jv_up, *]; done)) (by rfl) dX12_isTermBad_123 ?_
      rw [g15]
      first | refine J_aload_n C rfl dX12_isTermBad_126 ?_ | refine J_aload_nq C rfl dX12_isTermBad_126 ?_ | refine J_aload_nN C rfl dX12_isTermBad_126 ?_
      refine J_get C fl_X12_74 (by first | assumption | exact jv_up_at _ _ _ | (simp [jv_up, *]; done)) (by rfl) dX12_isTermBad_127 ?_
      rw [g1]
      refine J_nicmp_ge C (by first | omega | (dsimp only; omega)) (by first | omega | (dsimp only; omega)) 213 (by decide) dX12_isTermBad_130 (fun z => ?_) (fun z => ?_)
      · omega
      · first | refine J_aload_n C rfl dX12_isTermBad_133 ?_ | refine J_aload_nq C rfl dX12_isTermBad_133 ?_ | refine J_aload_nN C rfl dX12_isTermBad_133 ?_
        refine J_get C fl_X12_7 (by first | assumption | exact jv_up_at _ _ _ | (simp [jv_up, *]; done)) (by rfl) dX12_isTermBad_134 ?_
        first | refine J_aload_n C rfl dX12_isTermBad_137 ?_ | refine J_aload_nq C rfl dX12_isTermBad_137 ?_ | refine J_aload_nN C rfl dX12_isTermBad_137 ?_
        refine J_get C fl_X12_144 (by first | assumption | exact jv_up_at _ _ _ | (simp [jv_up, *]; done)) (by rfl) dX12_isTermBad_138 ?_
        rw [g15]
        refine J_iald C (by first | assumption | exact jv_up_at _ _ _ | (simp [jv_up, *]; done)) rfl (by omega) (by omega) dX12_isTermBad_141 ?_
        rw [b1]
        refine J_callS C (c_M_letterOf (B i') (by omega)) cw_X12_77 rfl rfl (by exact Nat.le_of_ble_eq_true rfl) (by decide) (by omega) (by omega) dX12_isTermBad_142 ?_
        rintro _ h9 ⟨rfl, e9⟩
        replace e9 := e9.symm
        subst e9
        refine J_nif_le C (by first | omega | (dsimp only; omega)) 213 (by decide) dX12_isTermBad_145 (fun z2 => ?_) (fun z2 => ?_)
        · have hn1 : 1 ≤ n := Nat.pos_of_ne_zero (fun e => by have := (hn0 e).2; omega)
          refine J_sub (by exact (And.intro rfl (And.intro rfl (And.intro rfl trivial)))) (K213 i' n s0 nd uw h' g' N' Q' S g16 g17 g15 g9 (hi2 hn1) (by omega) hn1 hn hnu (R2 hn1) (fun _ => by omega) sg lw)
        · have Kb : ∀ b : Bool, b = decide (n < 12) → J K 0 0 160 (jv_l [(2, .int (nI n)), (1, .int (nI c)), (0, .ref m)]) [.int (jv_b b), .ref m] h' := by
            intro b hb
            refine J_iconst C (v := nI 2) (by decide) dX12_isTermBad_160 ?_
            refine J_callV C (c_M_bad S.2.1 b (nI 2)) cw_X12_160 (by first | assumption | exact jv_up_at _ _ _ | (simp [jv_up, *]; done)) rfl rfl rfl rfl (by exact Nat.le_of_ble_eq_true rfl) (by decide) (by omega) (by omega) dX12_isTermBad_161 ?_
            rintro _ h3 ⟨rfl, F3, M3⟩
            have S3 := tS0_bad S F3 M3
            refine J_bif_eq C 169 (by decide) dX12_isTermBad_164 (fun z3 => ?_) (fun z3 => ?_)
            · have hb1 : b = true := by cases b <;> first | rfl | cases z3
              subst hb1
              have hy := of_decide_eq_true hb.symm
              have m3 := S3.2.1.1
              have g315 : bdG g' true (nI 2) 15 = nI i' := g15
              have a103 := S3.2.1.2.1 10 _ rfl
              have a23 := S3.2.1.2.1 2 _ rfl
              rw [n2] at a23
              have S4 := tS0_Q S3 (sp_with (sp_lo B s0 n) n (sp_let (B i')))
              have m4 := S4.2.1.1
              have S5 := tS0_g S4 15 (nI (i' + 1)) (by decide)
              have R3 := R1 _ rfl z2 (by omega) hy
              have e1 : sp_with (sp_lo B s0 n) n (sp_let (B i')) = sp_lo B s0 (n + 1) := by rw [← hs0]; rfl
              first | refine J_aload_n C rfl dX12_isTermBad_169 ?_ | refine J_aload_nq C rfl dX12_isTermBad_169 ?_ | refine J_aload_nN C rfl dX12_isTermBad_169 ?_
              refine J_get C fl_X12_26 (by first | assumption | exact jv_up_at _ _ _ | (simp [jv_up, *]; done)) (by rfl) dX12_isTermBad_170 ?_
              refine J_iload_n C rfl dX12_isTermBad_173 ?_
              first | refine J_aload_n C rfl dX12_isTermBad_174 ?_ | refine J_aload_nq C rfl dX12_isTermBad_174 ?_ | refine J_aload_nN C rfl dX12_isTermBad_174 ?_
              refine J_get C fl_X12_26 (by first | assumption | exact jv_up_at _ _ _ | (simp [jv_up, *]; done)) (by rfl) dX12_isTermBad_175 ?_
              refine J_iload_n C rfl dX12_isTermBad_178 ?_
              refine J_lald C (by first | assumption | exact jv_up_at _ _ _ | (simp [jv_up, *]; done)) rfl (by omega) (by omega) dX12_isTermBad_179 ?_
              rw [lw]
              refine J_iload_n C rfl dX12_isTermBad_180 ?_
              first | refine J_aload_n C rfl dX12_isTermBad_181 ?_ | refine J_aload_nq C rfl dX12_isTermBad_181 ?_ | refine J_aload_nN C rfl dX12_isTermBad_181 ?_
              refine J_get C fl_X12_7 (by first | assumption | exact jv_up_at _ _ _ | (simp [jv_up, *]; done)) (by rfl) dX12_isTermBad_182 ?_
              first | refine J_aload_n C rfl dX12_isTermBad_185 ?_ | refine J_aload_nq C rfl dX12_isTermBad_185 ?_ | refine J_aload_nN C rfl dX12_isTermBad_185 ?_
              refine J_get C fl_X12_144 (by first | assumption | exact jv_up_at _ _ _ | (simp [jv_up, *]; done)) (by rfl) dX12_isTermBad_186 ?_
              rw [g315]
              refine J_iald C (by first | assumption | exact jv_up_at _ _ _ | (simp [jv_up, *]; done)) rfl (by omega) (by omega) dX12_isTermBad_189 ?_
              rw [b1]
              refine J_callS C (c_M_letterOf (B i') (by omega)) cw_X12_77 rfl rfl (by exact Nat.le_of_ble_eq_true rfl) (by decide) (by omega) (by omega) dX12_isTermBad_190 ?_
              rintro _ h9 ⟨rfl, e9⟩
              replace e9 := e9.symm
              subst e9
              refine J_callS C (c_M_with (sp_lo B s0 n) n (sp_let (B i')) hy) cw_X12_81 rfl rfl (by exact Nat.le_of_ble_eq_true rfl) (by decide) (by omega) (by omega) dX12_isTermBad_193 ?_
              rintro _ h9 ⟨rfl, e9⟩
              replace e9 := e9.symm
              subst e9
              refine J_last C (by first | assumption | exact jv_up_at _ _ _ | (simp [jv_up, *]; done)) rfl (by omega) (by omega) dX12_isTermBad_196 ?_
              first | refine J_niinc (b := 1) C rfl (by decide) dX12_isTermBad_197 ?_ | refine J_iinc C rfl (by decide) dX12_isTermBad_197 ?_
              first | refine J_aload_n C rfl dX12_isTermBad_200 ?_ | refine J_aload_nq C rfl dX12_isTermBad_200 ?_ | refine J_aload_nN C rfl dX12_isTermBad_200 ?_
              refine J_dup C rfl dX12_isTermBad_201 ?_
              refine J_get C fl_X12_144 (by first | assumption | exact jv_up_at _ _ _ | (simp [jv_up, *]; done)) (by rfl) dX12_isTermBad_202 ?_
              refine J_iconst C (v := nI 1) (by decide) dX12_isTermBad_205 ?_
              rw [g315]
              first | refine J_niadd C dX12_isTermBad_206 ?_ | refine J_iadd C dX12_isTermBad_206 ?_
              first | refine J_mput C fl_X12_144 (by first | assumption | exact jv_up_at _ _ _) (by decide) (by rfl) (by rfl) dX12_isTermBad_207 ?_ | refine J_put C fl_X12_144 (by first | assumption | exact jv_up_at _ _ _ | (simp [jv_up, *]; done)) (by exact Nat.le_of_ble_eq_true rfl) (by rfl) (by rfl) dX12_isTermBad_207 ?_
              refine J_goto C 122 (by decide) dX12_isTermBad_210 ?_
              refine J_sub (by exact (And.intro rfl (And.intro rfl (And.intro rfl trivial)))) (ih (i' + 1) (n + 1) s0 nd uw _ _ _ _ (by omega) S5 g16 g17 (if_pos rfl) g9 (by omega) (fun _ => by omega) (by omega) (by omega) hnu (fun q => by omega) (fun b hb1 hb2 hb3 hb4 => ?_) (fun _ => R3) sg (by rw [vu_at, ← e1]; exact if_pos rfl))
              refine qR_step R3 hb3 ?_
              subst hb1
              show qs_behind (c + 1, 2, va_up tv c (nd, uw, false, sp_lo B s0 (n + 1), n + 1, 1)) (B (i' + 1)) = _
              unfold qs_behind
              rw [if_pos ((isl_iff _).mpr hb2), qs_let_ok hb2 hb4]
              show (0, (c + 1, 2, va_up tv c (nd, uw, false, sp_with (sp_lo B s0 (n + 1)) (n + 1) (sp_let (B (i' + 1))), n + 1 + 1, 1))) = _
              rw [show i' + 1 = s0 + (n + 1) by omega]
              rfl
            · have hb1 : b = false := by cases b <;> first | rfl | cases z3
              subst hb1
              have hn12 := of_decide_eq_false hb.symm
              have f := qR_fault (R2 (by omega)) (by omega) (f := 2) (by
                show (qs_behind (c + 1, 2, va_up tv c (nd, uw, false, sp_lo B s0 n, n, 1)) (B i')).1 = 2
                unfold qs_behind
                rw [if_pos ((isl_iff _).mpr z2)]
                exact qs_let_long z2 (by show 12 ≤ n; omega)) (by decide)
              refine J_iconst C (v := nI 1) (by decide) dX12_isTermBad_167 ?_
              refine J_zret C D (Or.inr rfl) ⟨true, rfl, _, _, _, S3, fun _ => ⟨by rw [f.1]; decide, by rw [f.1]; rfl, by rw [f.2]; exact g15⟩, fun q => by cases q⟩ (by omega) (by omega) dX12_isTermBad_168
          first | refine J_aload_n C rfl dX12_isTermBad_148 ?_ | refine J_aload_nq C rfl dX12_isTermBad_148 ?_ | refine J_aload_nN C rfl dX12_isTermBad_148 ?_
          refine J_iload_n C rfl dX12_isTermBad_149 ?_
          refine J_bipush C (v := nI 12) (by decide) dX12_isTermBad_150 ?_
          refine J_nicmp_ge C (by first | omega | (dsimp only; omega)) (by first | omega | (dsimp only; omega)) 159 (by decide) dX12_isTermBad_152 (fun z4 => ?_) (fun z4 => ?_)
          · refine J_iconst C (v := nI 0) (by decide) dX12_isTermBad_159 ?_
            refine J_sub (by exact (And.intro rfl (And.intro rfl (And.intro rfl trivial)))) (Kb false (decide_eq_false (by omega)).symm)
          · refine J_iconst C (v := nI 1) (by decide) dX12_isTermBad_155 ?_
            refine J_goto C 160 (by decide) dX12_isTermBad_156 ?_
            refine J_sub (by exact (And.intro rfl (And.intro rfl (And.intro rfl trivial)))) (Kb true (decide_eq_true z4).symm)
  have S0 : tS0 h m A g N Q c h g N Q := ⟨fr_rf _ _, M, fun _ _ _ _ _ => rfl, fun _ _ _ _ _ => rfl, fun _ _ _ => rfl, fun _ _ => rfl, fun _ _ => rfl⟩
  have a13 := M.2.1 13 _ rfl
  obtain ⟨b1, b2⟩ := t3 i hi
  -- behind the sign
  have K72 : ∀ (i1 : Nat) (nd uw : Bool) (h' : jH) (g' : Nat → Int32) (N' : Nat → Nat → Int32) (Q' : Nat → Nat → Int64), tS0 h m A g N Q c h' g' N' Q' → g' 16 = nI 0 → g' 17 = -1 → g' 15 = nI i1 → g' 9 = nI c → i ≤ i1 → i1 ≤ nt → ¬ (nd = true ∧ uw = true) → N' 13 c = nI (if nd then 1 else if uw then 2 else 0) → ((i1 = i ∧ 0 < sp_let (B i) ∧ nd = false ∧ uw = false) ∨ (i1 = i + 1 ∧ ∃ b0, nd = decide (b0 = 43) ∧ uw = decide (b0 = 45) ∧ qR B nt E i1 (c + 1, 1, va_up tv c (tm_sgn b0)))) → J K 0 0 72 (jv_l [(1, .int (nI c)), (0, .ref m)]) [] h' := by
    intro i1 nd uw h' g' N' Q' S g16 g17 g15 g9 hi1 hi2 hnu sg hor
    have m1' := S.2.1.1
    have a10 := S.2.1.2.1 10 _ rfl
    have S2 := tS0_Q S (lN 0)
    have m2 := S2.2.1.1
    have g1 := (TT S2).1
    have a2 := S2.2.1.2.1 2 _ rfl
    rw [S2.2.2.2.1 2 (by decide) (by decide) (by decide) (by decide)] at a2
    first | refine J_aload_n C rfl dX12_isTermBad_72 ?_ | refine J_aload_nq C rfl dX12_isTermBad_72 ?_ | refine J_aload_nN C rfl dX12_isTermBad_72 ?_
    refine J_get C fl_X12_26 (by first | assumption | exact jv_up_at _ _ _ | (simp [jv_up, *]; done)) (by rfl) dX12_isTermBad_73 ?_
    refine J_iload_n C rfl dX12_isTermBad_76 ?_
    refine J_lconst C (v := lN 0) (by decide) dX12_isTermBad_77 ?_
    refine J_last C (by first | assumption | exact jv_up_at _ _ _ | (simp [jv_up, *]; done)) rfl (by omega) (by omega) dX12_isTermBad_78 ?_
    have Kb : ∀ b : Bool, b = decide (i1 < nt ∧ 0 < sp_let (B i1)) → J K 0 0 113 (jv_l [(2, .int (nI 0)), (1, .int (nI c)), (0, .ref m)]) [.int (jv_b b), .ref m] (jv_up h' (A 10) (.inl (3, 200, .inr (.inl (vp_updL (Q' 10) c (lN 0)))))) := by
      intro b hb
      refine J_iconst C (v := nI 1) (by decide) dX12_isTermBad_113 ?_
      refine J_callV C (c_M_bad S2.2.1 b (nI 1)) cw_X12_160 (by first | assumption | exact jv_up_at _ _ _ | (simp [jv_up, *]; done)) rfl rfl rfl rfl (by exact Nat.le_of_ble_eq_true rfl) (by decide) (by omega) (by omega) dX12_isTermBad_114 ?_
      rintro _ h3 ⟨rfl, F3, M3⟩
      have S3 := tS0_bad S2 F3 M3
      refine J_bif_eq C 122 (by decide) dX12_isTermBad_117 (fun z3 => ?_) (fun z3 => ?_)
      · have hb1 : b = true := by cases b <;> first | rfl | cases z3
        subst hb1
        have hy := of_decide_eq_true hb.symm
        refine J_sub (by exact (And.intro rfl (And.intro rfl (And.intro rfl trivial)))) (loop (nt - i1) i1 0 i1 nd uw _ _ _ _ (by omega) S3 g16 g17 g15 g9 hi1 (fun q => by omega) (by decide) rfl hnu (fun _ => hy) (fun b9 hb9 hl hlt _ => ?_) (fun q => by omega) sg (by rw [vu_at]; exact if_pos rfl))
        subst hb9
        rcases hor with ⟨e1, e2, e3, e4⟩ | ⟨e1, b0, e3, e4, R1⟩
        · subst e1
          subst e3
          subst e4
          refine qR_step R hi ?_
          have hl2 := let_no hl
          show qs_between (c, 0, tv) (B i1) = _
          unfold qs_between
          rw [if_pos (Or.inr ((isl_iff _).mpr hl)), if_neg (by show ¬ 16 ≤ c; omega), if_neg (by omega)]
          show qs_let (c + 1, 0, va_up tv c tm0) (B i1) = _
          rw [qs_let_ok hl (by decide)]
          rfl
        · refine qR_step R1 hlt ?_
          show qs_let (c + 1, 1, va_up tv c (tm_sgn b0)) (B i1) = _
          rw [qs_let_ok hl (show 0 < 12 by decide), e3, e4]
          rfl
      · have hb1 : b = false := by cases b <;> first | rfl | cases z3
        subst hb1
        have hn := of_decide_eq_false hb.symm
        rcases hor with ⟨e1, e2, e3, e4⟩ | ⟨e1, b0, e3, e4, R1⟩
        · exact absurd ⟨by omega, by rw [e1]; exact e2⟩ hn
        · have f : E.1 = 1 ∧ qs_fp E = nI i1 := by
            by_cases ce : i1 = nt
            · have R9 := R1
              rw [ce] at R9
              have := qR_cut R9 (Or.inl rfl)
              rw [ce]; exact this
            · exact qR_fault R1 (by omega) (by
                show (qs_let (c + 1, 1, va_up tv c (tm_sgn b0)) (B i1)).1 = 1
                unfold qs_let
                rw [if_neg (fun q => hn ⟨by omega, (isl_iff _).mp q⟩)]) (by decide)
          refine J_iconst C (v := nI 1) (by decide) dX12_isTermBad_120 ?_
          refine J_zret C D (Or.inr rfl) ⟨true, rfl, _, _, _, S3, fun _ => ⟨by rw [f.1]; decide, by rw [f.1]; rfl, by rw [f.2]; exact g15⟩, fun q => by cases q⟩ (by omega) (by omega) dX12_isTermBad_121
    refine J_iconst C (v := nI 0) (by decide) dX12_isTermBad_79 ?_
    refine J_istore_n C (by decide) dX12_isTermBad_80 ?_
    first | refine J_aload_n C rfl dX12_isTermBad_81 ?_ | refine J_aload_nq C rfl dX12_isTermBad_81 ?_ | refine J_aload_nN C rfl dX12_isTermBad_81 ?_
    first | refine J_aload_n C rfl dX12_isTermBad_82 ?_ | refine J_aload_nq C rfl dX12_isTermBad_82 ?_ | refine J_aload_nN C rfl dX12_isTermBad_82 ?_
    refine J_get C fl_X12_144 (by first | assumption | exact jv_up_at _ _ _ | (simp [jv_up, *]; done)) (by rfl) dX12_isTermBad_83 ?_
    rw [show g' 15 = nI i1 from g15]
    first | refine J_aload_n C rfl dX12_isTermBad_86 ?_ | refine J_aload_nq C rfl dX12_isTermBad_86 ?_ | refine J_aload_nN C rfl dX12_isTermBad_86 ?_
    refine J_get C fl_X12_74 (by first | assumption | exact jv_up_at _ _ _ | (simp [jv_up, *]; done)) (by rfl) dX12_isTermBad_87 ?_
    rw [g1]
    refine J_nicmp_ge C (by first | omega | (dsimp only; omega)) (by first | omega | (dsimp only; omega)) 112 (by decide) dX12_isTermBad_90 (fun z => ?_) (fun z => ?_)
    · refine J_iconst C (v := nI 0) (by decide) dX12_isTermBad_112 ?_
      refine J_sub (by exact (And.intro rfl (And.intro rfl (And.intro rfl trivial)))) (Kb false (decide_eq_false (by omega)).symm)
    · obtain ⟨y1, y2⟩ := t3 i1 z
      have hlt := sp_let_lt (B i1)
      first | refine J_aload_n C rfl dX12_isTermBad_93 ?_ | refine J_aload_nq C rfl dX12_isTermBad_93 ?_ | refine J_aload_nN C rfl dX12_isTermBad_93 ?_
      refine J_get C fl_X12_7 (by first | assumption | exact jv_up_at _ _ _ | (simp [jv_up, *]; done)) (by rfl) dX12_isTermBad_94 ?_
      first | refine J_aload_n C rfl dX12_isTermBad_97 ?_ | refine J_aload_nq C rfl dX12_isTermBad_97 ?_ | refine J_aload_nN C rfl dX12_isTermBad_97 ?_
      refine J_get C fl_X12_144 (by first | assumption | exact jv_up_at _ _ _ | (simp [jv_up, *]; done)) (by rfl) dX12_isTermBad_98 ?_
      rw [show g' 15 = nI i1 from g15]
      refine J_iald C (by first | assumption | exact jv_up_at _ _ _ | (simp [jv_up, *]; done)) rfl (by omega) (by omega) dX12_isTermBad_101 ?_
      rw [y1]
      refine J_callS C (c_M_letterOf (B i1) (by omega)) cw_X12_77 rfl rfl (by exact Nat.le_of_ble_eq_true rfl) (by decide) (by omega) (by omega) dX12_isTermBad_102 ?_
      rintro _ h9 ⟨rfl, e9⟩
      replace e9 := e9.symm
      subst e9
      refine J_nif_le C (by first | omega | (dsimp only; omega)) 112 (by decide) dX12_isTermBad_105 (fun z2 => ?_) (fun z2 => ?_)
      · refine J_iconst C (v := nI 0) (by decide) dX12_isTermBad_112 ?_
        refine J_sub (by exact (And.intro rfl (And.intro rfl (And.intro rfl trivial)))) (Kb false (decide_eq_false (by omega)).symm)
      · refine J_iconst C (v := nI 1) (by decide) dX12_isTermBad_108 ?_
        refine J_goto C 113 (by decide) dX12_isTermBad_109 ?_
        refine J_sub (by exact (And.intro rfl (And.intro rfl (And.intro rfl trivial)))) (Kb true (decide_eq_true ⟨z, z2⟩).symm)
  -- the sign
  have K45 : ∀ (nd uw : Bool), nd = decide (B i = 43) → uw = decide (B i = 45) → J K 0 0 45 (jv_l [(1, .int (nI c)), (0, .ref m)]) [.int (nI (if nd then 1 else if uw then 2 else 0)), .int (nI c), .ref (A 13)] h := by
    intro nd uw hnd huw
    have hnu : ¬ (nd = true ∧ uw = true) := fun q => by
      rw [hnd] at q
      rw [huw] at q
      have q1 := of_decide_eq_true q.1
      have q2 := of_decide_eq_true q.2
      omega
    have S1 := tS0_N S0 13 0 (nI (if nd then 1 else if uw then 2 else 0)) (by decide) rfl
    have m1' := S1.2.1.1
    refine J_iast C (by first | assumption | exact jv_up_at _ _ _ | (simp [jv_up, *]; done)) rfl (by omega) (by omega) dX12_isTermBad_45 ?_
    first | refine J_aload_n C rfl dX12_isTermBad_46 ?_ | refine J_aload_nq C rfl dX12_isTermBad_46 ?_ | refine J_aload_nN C rfl dX12_isTermBad_46 ?_
    first | refine J_aload_n C rfl dX12_isTermBad_47 ?_ | refine J_aload_nq C rfl dX12_isTermBad_47 ?_ | refine J_aload_nN C rfl dX12_isTermBad_47 ?_
    refine J_get C fl_X12_36 (by first | assumption | exact jv_up_at _ _ _ | (simp [jv_up, *]; done)) (by rfl) dX12_isTermBad_48 ?_
    refine J_iload_n C rfl dX12_isTermBad_51 ?_
    refine J_iald C (by first | assumption | exact jv_up_at _ _ _ | (simp [jv_up, *]; done)) rfl (by omega) (by omega) dX12_isTermBad_52 ?_
    rw [pk_us]
    by_cases sgn : B i = 43 ∨ B i = 45
    · have S2 := tS0_g S1 15 (nI (i + 1)) (by decide)
      have R1 : qR B nt E (i + 1) (c + 1, 1, va_up tv c (tm_sgn (B i))) := qR_step R hi (by
        show qs_between (c, 0, tv) (B i) = _
        unfold qs_between
        rw [if_pos (Or.inl sgn), if_neg (by show ¬ 16 ≤ c; omega), if_pos sgn])
      have hp : 0 < (if nd then 1 else if uw then 2 else 0) := by
        rcases sgn with q | q
        · rw [hnd, decide_eq_true q, if_pos rfl]; decide
        · rw [huw, decide_eq_true q]; cases nd <;> decide
      have hp2 : (if nd then 1 else if uw then 2 else 0) ≤ 2 := by cases nd <;> cases uw <;> decide
      generalize hx : (if nd then 1 else if uw then 2 else 0) = x9 at *
      refine J_nif_le C (by first | omega | (dsimp only; omega)) 65 (by decide) dX12_isTermBad_53 (fun z => ?_) (fun z => ?_)
      · omega
      · first | refine J_aload_n C rfl dX12_isTermBad_56 ?_ | refine J_aload_nq C rfl dX12_isTermBad_56 ?_ | refine J_aload_nN C rfl dX12_isTermBad_56 ?_
        refine J_get C fl_X12_144 (by first | assumption | exact jv_up_at _ _ _ | (simp [jv_up, *]; done)) (by rfl) dX12_isTermBad_57 ?_
        rw [h15]
        refine J_iconst C (v := nI 1) (by decide) dX12_isTermBad_60 ?_
        first | refine J_niadd C dX12_isTermBad_61 ?_ | refine J_iadd C dX12_isTermBad_61 ?_
        refine J_goto C 69 (by decide) dX12_isTermBad_62 ?_
        first | refine J_mput C fl_X12_144 (by first | assumption | exact jv_up_at _ _ _) (by decide) (by rfl) (by rfl) dX12_isTermBad_69 ?_ | refine J_put C fl_X12_144 (by first | assumption | exact jv_up_at _ _ _ | (simp [jv_up, *]; done)) (by exact Nat.le_of_ble_eq_true rfl) (by rfl) (by rfl) dX12_isTermBad_69 ?_
        refine J_sub (by exact (And.intro rfl (And.intro rfl trivial))) (K72 (i + 1) nd uw _ _ _ _ S2 e16 e17 (if_pos rfl) h9 (by omega) (by omega) hnu (by rw [vu_at, pk_us, hx]) (Or.inr ⟨rfl, B i, hnd, huw, R1⟩))
    · have S2 := tS0_g S1 15 (nI i) (by decide)
      have n1 : nd = false := by rw [hnd, decide_eq_false (fun q => sgn (Or.inl q))]
      have n2 : uw = false := by rw [huw, decide_eq_false (fun q => sgn (Or.inr q))]
      subst n1
      subst n2
      have hx0 : (if false = true then 1 else if false = true then 2 else 0) = 0 := rfl
      generalize hx : (if false = true then 1 else if false = true then 2 else 0) = x9 at *
      refine J_nif_le C (by first | omega | (dsimp only; omega)) 65 (by decide) dX12_isTermBad_53 (fun z => ?_) (fun z => ?_)
      · first | refine J_aload_n C rfl dX12_isTermBad_65 ?_ | refine J_aload_nq C rfl dX12_isTermBad_65 ?_ | refine J_aload_nN C rfl dX12_isTermBad_65 ?_
        refine J_get C fl_X12_144 (by first | assumption | exact jv_up_at _ _ _ | (simp [jv_up, *]; done)) (by rfl) dX12_isTermBad_66 ?_
        rw [h15]
        first | refine J_mput C fl_X12_144 (by first | assumption | exact jv_up_at _ _ _) (by decide) (by rfl) (by rfl) dX12_isTermBad_69 ?_ | refine J_put C fl_X12_144 (by first | assumption | exact jv_up_at _ _ _ | (simp [jv_up, *]; done)) (by exact Nat.le_of_ble_eq_true rfl) (by rfl) (by rfl) dX12_isTermBad_69 ?_
        refine J_sub (by exact (And.intro rfl (And.intro rfl trivial))) (K72 i false false _ _ _ _ S2 e16 e17 (if_pos rfl) h9 (Nat.le_refl _) (by omega) hnu (by rw [vu_at, pk_us, hx]) (Or.inl ⟨rfl, hst.resolve_right sgn, rfl, rfl⟩))
      · omega
  first | refine J_aload_n C rfl dX12_isTermBad_0 ?_ | refine J_aload_nq C rfl dX12_isTermBad_0 ?_ | refine J_aload_nN C rfl dX12_isTermBad_0 ?_
  refine J_get C fl_X12_154 (by first | assumption | exact jv_up_at _ _ _ | (simp [jv_up, *]; done)) (by rfl) dX12_isTermBad_1 ?_
  rw [h9]
  refine J_istore_n C (by decide) dX12_isTermBad_4 ?_
  first | refine J_aload_n C rfl dX12_isTermBad_5 ?_ | refine J_aload_nq C rfl dX12_isTermBad_5 ?_ | refine J_aload_nN C rfl dX12_isTermBad_5 ?_
  refine J_get C fl_X12_36 (by first | assumption | exact jv_up_at _ _ _ | (simp [jv_up, *]; done)) (by rfl) dX12_isTermBad_6 ?_
  refine J_iload_n C rfl dX12_isTermBad_9 ?_
  first | refine J_aload_n C rfl dX12_isTermBad_10 ?_ | refine J_aload_nq C rfl dX12_isTermBad_10 ?_ | refine J_aload_nN C rfl dX12_isTermBad_10 ?_
  first | refine J_aload_n C rfl dX12_isTermBad_11 ?_ | refine J_aload_nq C rfl dX12_isTermBad_11 ?_ | refine J_aload_nN C rfl dX12_isTermBad_11 ?_
  refine J_get C fl_X12_144 (by first | assumption | exact jv_up_at _ _ _ | (simp [jv_up, *]; done)) (by rfl) dX12_isTermBad_12 ?_
  rw [h15]
  refine J_callV C (c_M_byteAt M T i (by omega)) cw_X12_157 (by first | assumption | exact jv_up_at _ _ _ | (simp [jv_up, *]; done)) rfl rfl rfl rfl (by exact Nat.le_of_ble_eq_true rfl) (by decide) (by omega) (by omega) dX12_isTermBad_15 ?_
  rintro _ h99 ⟨rfl, e99⟩
  replace e99 := e99.symm
  subst e99
  rw [if_pos hi]
  refine J_bipush C (v := nI 43) (by decide) dX12_isTermBad_18 ?_
  refine J_nicmp_ne C (by first | omega | (dsimp only; omega)) (by first | omega | (dsimp only; omega)) 27 (by decide) dX12_isTermBad_20 (fun z => ?_) (fun z => ?_)
  · first | refine J_aload_n C rfl dX12_isTermBad_27 ?_ | refine J_aload_nq C rfl dX12_isTermBad_27 ?_ | refine J_aload_nN C rfl dX12_isTermBad_27 ?_
    first | refine J_aload_n C rfl dX12_isTermBad_28 ?_ | refine J_aload_nq C rfl dX12_isTermBad_28 ?_ | refine J_aload_nN C rfl dX12_isTermBad_28 ?_
    refine J_get C fl_X12_144 (by first | assumption | exact jv_up_at _ _ _ | (simp [jv_up, *]; done)) (by rfl) dX12_isTermBad_29 ?_
    rw [h15]
    refine J_callV C (c_M_byteAt M T i (by omega)) cw_X12_157 (by first | assumption | exact jv_up_at _ _ _ | (simp [jv_up, *]; done)) rfl rfl rfl rfl (by exact Nat.le_of_ble_eq_true rfl) (by decide) (by omega) (by omega) dX12_isTermBad_32 ?_
    rintro _ h99 ⟨rfl, e99⟩
    replace e99 := e99.symm
    subst e99
    rw [if_pos hi]
    refine J_bipush C (v := nI 45) (by decide) dX12_isTermBad_35 ?_
    refine J_nicmp_ne C (by first | omega | (dsimp only; omega)) (by first | omega | (dsimp only; omega)) 44 (by decide) dX12_isTermBad_37 (fun z2 => ?_) (fun z2 => ?_)
    · refine J_iconst C (v := nI 0) (by decide) dX12_isTermBad_44 ?_
      refine J_sub (by exact (And.intro rfl (And.intro rfl trivial))) (K45 false false (decide_eq_false z).symm (decide_eq_false z2).symm)
    · refine J_iconst C (v := nI 2) (by decide) dX12_isTermBad_40 ?_
      refine J_goto C 45 (by decide) dX12_isTermBad_41 ?_
      refine J_sub (by exact (And.intro rfl (And.intro rfl trivial))) (K45 false true (decide_eq_false z).symm (decide_eq_true z2).symm)
  · refine J_iconst C (v := nI 1) (by decide) dX12_isTermBad_23 ?_
    refine J_goto C 45 (by decide) dX12_isTermBad_24 ?_
    refine J_sub (by exact (And.intro rfl (And.intro rfl trivial))) (K45 true false (decide_eq_true z).symm (decide_eq_false (by omega)).symm)
end TERMB
