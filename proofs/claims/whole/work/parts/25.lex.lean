section JCAST
variable {K : jT} {cc : ByteArray} {nL fr0 mc ms cells slots pc : Nat} {own : String} {lv : Nat → Option Value} {rest : List Value} {h : jH}
theorem J_cast (C : JC K cc nL own fr0 mc ms) {i ci a : Nat} {q9 : vw_C} {fs : List Value} (hh : h a = some (.inr (ci, fs))) (hq : jv_cl[ci]? = some q9) (hw : Cond.classLink own i q9.1 ∈ jv_T) (d : decode cc pc = .ok (.checkcast i, 3)) (kk : J K cells slots (pc + 3) lv (.ref a :: rest) h) : J K cells slots pc lv (.ref a :: rest) h := by
  obtain ⟨p, l, e, R, s, m, args, below, meth, c, G, A, Q⟩ := K
  intro H locs ls hl hR hA hS
  obtain ⟨hexec, hb, c3, hown, hts, hK, hRoom, c8, hA0, c10, -⟩ := C
  exact va_castS hexec hb hown (hts _ hw) (hK.1 ci q9 hq).2 (va_recv hK (hR.one hh) hq (q0 := 0) rfl) d (kk H locs ls hl hR hA hS)
theorem J_e0 (C : JC K cc nL own fr0 mc ms) {st : List Value} (k : h (jv_lk K).2.1 = none → J K cells slots pc lv st h) : J K cells slots pc lv st h := by
  obtain ⟨p, l, e, R, s, m, args, below, meth, c, G, A, Q⟩ := K
  intro H locs ls hl hR hA hS
  have c8 := C.2.2.2.2.2.2.2.1
  refine k ?_ H locs ls hl hR hA hS
  obtain ⟨cell, t1, t2, t3, t4, t5, t6, t7⟩ := c8.2.2.2.1
  cases e9 : h G.2.2.1 with
  | none => exact e9
  | some x => exact absurd (hA G.2.2.1 (by rw [e9]; exact fun z => by cases z)) t7
end JCAST
/-! Lexicon: the words in order, and a chain of spare ones -/
abbrev lxO (a : Nat) (sp : Option Nat) : jE := .inr (2, [.ref a, va_rf sp])
def lx (l : jL) (h : jH) (x a d cap : Nat) (W SW : List Nat) (lt : Nat → Int64) : Prop :=
  h x = some (lxO a SW[0]?) ∧ al l h 9 a d cap W ∧ (∀ w ∈ W, ∃ hold tot fst sp, h w = some (wdO (lt w) hold tot fst sp)) ∧
  (∀ (i j u v : Nat), i < j → W[i]? = some u → W[j]? = some v → lt u < lt v) ∧
  (∀ i w, SW[i]? = some w → ∃ L hold tot fst, h w = some (wdO L hold tot fst SW[i+1]?)) ∧ SW.Nodup ∧ ∀ w ∈ SW, w ∉ W
/-- the place of an int in a list: none if it isn't one -/
def wat (W : List Nat) (x : Int32) : Option Nat := if x < 0 then none else W[x.toNatClampNeg]?
theorem wat_nI (W : List Nat) {j : Nat} (hj : j < 2147483648) : wat W (nI j) = W[j]? := by unfold wat; rw [if_neg (nI_pos hj), nI_clamp hj]
section LEX
variable {l : jL} {h : jH} {x a d cap : Nat} {W SW : List Nat} {lt : Nat → Int64}
theorem al_len {ci : Nat} {L : List Nat} (A : al l h ci a d cap L) : L.length ≤ 60000 := by
  obtain ⟨mcn, a1, a2, a3⟩ := A
  rcases a3 with ⟨_, rfl, _⟩ | ⟨_, c2, c3, _⟩
  · exact Nat.zero_le _
  · omega
set_option maxHeartbeats 400000 in
theorem c_Lex_init (x : Nat) (hh : h x = some (.inr (2, [.null, .null]))) : Cn l yX3_init cX3_init 1 none 4 1 3 [.ref x] h (fun r h1 => r = none ∧ ∃ a, h a = none ∧ h1 = jv_up (jv_up h a (alO 0 l.2.1 0)) x (lxO a none)) := by
  refine Cn.of (own := RX3) rfl (by decide) (by exact Nat.le_of_ble_eq_true rfl) (by decide) (fun K hK C D I => ?_)
  first | refine J_aload_n C rfl dX3_init_0 ?_ | refine J_aload_nq C rfl dX3_init_0 ?_ | refine J_aload_nN C rfl dX3_init_0 ?_
  refine J_objInit C ml_X3_3 oi_inst oi_code (by decide) (by exact Nat.le_of_ble_eq_true rfl) dX3_init_1 ?_
  first | refine J_aload_n C rfl dX3_init_4 ?_ | refine J_aload_nq C rfl dX3_init_4 ?_ | refine J_aload_nN C rfl dX3_init_4 ?_
  refine J_new C nw_X3_9 (by omega) (by omega) dX3_init_5 (fun q hq => ?_)
  have n1 : x ≠ q := fun z => by rw [z, hq] at hh; cases hh
  refine J_dup C rfl dX3_init_8 ?_
  refine J_callI C (c_AL_init (jv_up_at _ _ _)) cw_X3_11 rfl rfl (by exact Nat.le_of_ble_eq_true rfl) (by decide) (by omega) (by omega) dX3_init_9 ?_
  rintro _ _ ⟨rfl, rfl⟩
  rw [hK, jv_up_up]
  have hh1 := jv_up_of (x := alO 0 l.2.1 0) n1 hh
  refine J_putF C I fl_X3_12 rfl rfl (by first | assumption | exact jv_up_at _ _ _ | (simp [jv_up, *]; done)) (by exact Nat.le_of_ble_eq_true rfl) (by first | rfl | exact jv_nar_o _ _) (by first | rfl | exact jv_fit_o _ _) fw_X3_12 dX3_init_12 ?_
  refine J_vret C D ⟨rfl, q, hq, rfl⟩ (by omega) (by omega) dX3_init_15
set_option maxHeartbeats 400000 in
theorem c_Lex_size (X : lx l h x a d cap W SW lt) : Cn l yX3_size cX3_size 1 (some .int) 2 0 0 [.ref x] h (fun r h1 => r = some (.int (nI W.length)) ∧ h1 = h) := by
  obtain ⟨x1, x2, -⟩ := X
  obtain ⟨mcn, a1, -⟩ := id x2
  refine Cn.of (own := RX3) rfl (by decide) (by exact Nat.le_of_ble_eq_true rfl) (by decide) (fun K hK C D I => ?_)
  rw [← hK] at x2
  first | refine J_aload_n C rfl dX3_size_0 ?_ | refine J_aload_nq C rfl dX3_size_0 ?_ | refine J_aload_nN C rfl dX3_size_0 ?_
  refine J_get C fl_X3_12 (by first | assumption | exact jv_up_at _ _ _ | (simp [jv_up, *]; done)) (by rfl) dX3_size_1 ?_
  refine J_callV C (c_AL_size x2) cw_X3_18 (by first | assumption | exact jv_up_at _ _ _ | (simp [jv_up, *]; done)) rfl rfl rfl rfl (by exact Nat.le_of_ble_eq_true rfl) (by decide) (by omega) (by omega) dX3_size_4 ?_
  rintro _ _ ⟨rfl, rfl⟩
  refine J_iret C D ⟨rfl, rfl⟩ (by omega) (by omega) dX3_size_7
set_option maxHeartbeats 400000 in
theorem c_Lex_wordAt (X : lx l h x a d cap W SW lt) (i : Int32) : Cn l yX3_wordAt cX3_wordAt 2 (some (.object "RankedSearch$Word")) 4 0 0 [.ref x, .int i] h (fun r h1 => r = some (va_rf (wat W i)) ∧ h1 = h) := by
  obtain ⟨x1, x2, x3, -⟩ := X
  obtain ⟨mcn, a1, -⟩ := id x2
  have hlen := al_len x2
  refine Cn.of (own := RX3) rfl (by decide) (by exact Nat.le_of_ble_eq_true rfl) (by decide) (fun K hK C D I => ?_)
  rw [← hK] at x2
  refine J_iload_n C rfl dX3_wordAt_0 ?_
  refine J_if_lt C 29 (by decide) dX3_wordAt_1 (fun z1 => ?_) (fun z1 => ?_)
  · refine J_null C dX3_wordAt_29 ?_
    refine J_aret (x := none) C D (Or.inl ⟨_, rfl⟩) ⟨by unfold wat; rw [if_pos z1], rfl⟩ (by omega) (by omega) dX3_wordAt_30
  · obtain ⟨j, hj, rfl⟩ := nI_of z1
    refine J_iload_n C rfl dX3_wordAt_4 ?_
    first | refine J_aload_n C rfl dX3_wordAt_5 ?_ | refine J_aload_nq C rfl dX3_wordAt_5 ?_ | refine J_aload_nN C rfl dX3_wordAt_5 ?_
    refine J_get C fl_X3_12 (by first | assumption | exact jv_up_at _ _ _ | (simp [jv_up, *]; done)) (by rfl) dX3_wordAt_6 ?_
    refine J_callV C (c_AL_size x2) cw_X3_18 (by first | assumption | exact jv_up_at _ _ _ | (simp [jv_up, *]; done)) rfl rfl rfl rfl (by exact Nat.le_of_ble_eq_true rfl) (by decide) (by omega) (by omega) dX3_wordAt_9 ?_
    rintro _ _ ⟨rfl, rfl⟩
    rw [wat_nI W hj] at D
    refine J_nicmp_ge C (by first | omega | (dsimp only; omega)) (by first | omega | (dsimp only; omega)) 29 (by decide) dX3_wordAt_12 (fun z2 => ?_) (fun z2 => ?_)
    · refine J_null C dX3_wordAt_29 ?_
      refine J_aret (x := none) C D (Or.inl ⟨_, rfl⟩) ⟨by rw [List.getElem?_eq_none z2], rfl⟩ (by omega) (by omega) dX3_wordAt_30
    · have hx := List.getElem?_eq_getElem (l := W) (i := j) z2
      obtain ⟨h1, h2, h3, h4, h5⟩ := x3 _ (List.mem_of_getElem? hx)
      first | refine J_aload_n C rfl dX3_wordAt_15 ?_ | refine J_aload_nq C rfl dX3_wordAt_15 ?_ | refine J_aload_nN C rfl dX3_wordAt_15 ?_
      refine J_get C fl_X3_12 (by first | assumption | exact jv_up_at _ _ _ | (simp [jv_up, *]; done)) (by rfl) dX3_wordAt_16 ?_
      refine J_iload_n C rfl dX3_wordAt_19 ?_
      refine J_callV C (c_AL_get x2 j _ hx) cw_X3_22 (by first | assumption | exact jv_up_at _ _ _ | (simp [jv_up, *]; done)) rfl rfl rfl rfl (by exact Nat.le_of_ble_eq_true rfl) (by decide) (by omega) (by omega) dX3_wordAt_20 ?_
      rintro _ _ ⟨rfl, rfl⟩
      refine J_cast C h5 rfl wc_X3_26 dX3_wordAt_23 ?_
      refine J_goto C 30 (by decide) dX3_wordAt_26 ?_
      refine J_aret (x := some _) C D (Or.inl ⟨_, rfl⟩) ⟨by rw [hx], rfl⟩ (by omega) (by omega) dX3_wordAt_30
/-- the first place whose word isn't before L -/
def lbP (W : List Nat) (lt : Nat → Int64) (L : Int64) (p : Nat) : Prop := p ≤ W.length ∧ (∀ i u, i < p → W[i]? = some u → lt u < L) ∧ ∀ i u, p ≤ i → W[i]? = some u → ¬ lt u < L
set_option maxHeartbeats 400000 in
theorem c_Lex_placeOf (X : lx l h x a d cap W SW lt) (L : Int64) : Cn l yX3_placeOf cX3_placeOf 8 (some .int) 5 0 0 [.ref x, .long L] h (fun r h1 => ∃ p, r = some (.int (nI p)) ∧ lbP W lt L p ∧ h1 = h) := by
  have X0 := X
  obtain ⟨x1, x2, x3, x4, -⟩ := X
  obtain ⟨mcn, a1, -⟩ := id x2
  have hlen := al_len x2
  refine Cn.of (own := RX3) rfl (by decide) (by exact Nat.le_of_ble_eq_true rfl) (by decide) (fun K hK C D I => ?_)
  rw [← hK] at x2 X0
  have K78 : ∀ lo hi k : Nat, hi ≤ lo → lo ≤ hi → hi ≤ W.length → (∀ i u, i < lo → W[i]? = some u → lt u < L) → (∀ i u, hi ≤ i → W[i]? = some u → ¬ lt u < L) → J K 0 0 78 (jv_l [(0, .ref x), (1, .long L), (3, .int (nI lo)), (4, .int (nI hi)), (5, .int (nI k))]) [] h := by
    intro lo hi k q1 q2 q3 q4 q5
    refine J_iload_n C rfl dX3_placeOf_78 ?_
    refine J_iret C D ⟨lo, rfl, ⟨by omega, q4, fun i u q => q5 i u (by omega)⟩, rfl⟩ (by omega) (by omega) dX3_placeOf_79
  have loop : ∀ m k lo hi : Nat, k + m = 32 → hi - lo < 2 ^ m → lo ≤ hi → hi ≤ W.length → (∀ i u, i < lo → W[i]? = some u → lt u < L) → (∀ i u, hi ≤ i → W[i]? = some u → ¬ lt u < L) → J K 0 0 14 (jv_l [(0, .ref x), (1, .long L), (3, .int (nI lo)), (4, .int (nI hi)), (5, .int (nI k))]) [] h := by
    intro m
    induction m with
    | zero =>
      intro k lo hi q1 q2 q3 q4 q5 q6
      refine J_iload C rfl dX3_placeOf_14 ?_
      refine J_bipush C (v := nI 32) (by decide) dX3_placeOf_16 ?_
      refine J_nicmp_ge C (by first | omega | (dsimp only; omega)) (by first | omega | (dsimp only; omega)) 78 (by decide) dX3_placeOf_18 (fun z1 => ?_) (fun z1 => ?_)
      · refine J_sub (by exact (And.intro rfl (And.intro rfl (And.intro rfl (And.intro rfl (And.intro rfl trivial)))))) (K78 lo hi k (by omega) q3 q4 q5 q6)
      · omega
    | succ m ih =>
      intro k lo hi q1 q2 q3 q4 q5 q6
      refine J_iload C rfl dX3_placeOf_14 ?_
      refine J_bipush C (v := nI 32) (by decide) dX3_placeOf_16 ?_
      refine J_nicmp_ge C (by first | omega | (dsimp only; omega)) (by first | omega | (dsimp only; omega)) 78 (by decide) dX3_placeOf_18 (fun z1 => ?_) (fun z1 => ?_)
      · omega
      · refine J_iload_n C rfl dX3_placeOf_21 ?_
        refine J_iload C rfl dX3_placeOf_22 ?_
        refine J_nicmp_ge C (by first | omega | (dsimp only; omega)) (by first | omega | (dsimp only; omega)) 78 (by decide) dX3_placeOf_24 (fun z2 => ?_) (fun z2 => ?_)
        · refine J_sub (by exact (And.intro rfl (And.intro rfl (And.intro rfl (And.intro rfl (And.intro rfl trivial)))))) (K78 lo hi k (by omega) q3 q4 q5 q6)
        · refine J_iload_n C rfl dX3_placeOf_27 ?_
          refine J_iload C rfl dX3_placeOf_28 ?_
          refine J_iload_n C rfl dX3_placeOf_30 ?_
          first | refine J_nisub C (by omega) dX3_placeOf_31 ?_ | refine J_isub C dX3_placeOf_31 ?_
          refine J_iconst C (v := nI 2) (by decide) dX3_placeOf_32 ?_
          refine J_nidiv C (by omega) (by decide) (by decide) dX3_placeOf_33 ?_
          first | refine J_niadd C dX3_placeOf_34 ?_ | refine J_iadd C dX3_placeOf_34 ?_
          refine J_istore C (by decide) dX3_placeOf_35 ?_
          first | refine J_aload_n C rfl dX3_placeOf_37 ?_ | refine J_aload_nq C rfl dX3_placeOf_37 ?_ | refine J_aload_nN C rfl dX3_placeOf_37 ?_
          refine J_iload C rfl dX3_placeOf_38 ?_
          refine J_callV C (c_Lex_wordAt X0 (nI (lo + (hi - lo) / 2))) cw_X3_28 (by first | assumption | exact jv_up_at _ _ _ | (simp [jv_up, *]; done)) rfl rfl rfl rfl (by exact Nat.le_of_ble_eq_true rfl) (by decide) (by omega) (by omega) dX3_placeOf_40 ?_
          rintro _ _ ⟨rfl, rfl⟩
          have hm : lo + (hi - lo) / 2 < W.length := by omega
          have hx := List.getElem?_eq_getElem (l := W) (i := lo + (hi - lo) / 2) hm
          rw [wat_nI W (by omega), hx]
          obtain ⟨h1, h2, h3, h4, h5⟩ := x3 _ (List.mem_of_getElem? hx)
          have e1 : 2 ^ (m + 1) = 2 * 2 ^ m := by rw [Nat.pow_succ]; omega
          refine J_astore (x := W[lo + (hi - lo) / 2]) C (by decide) dX3_placeOf_43 ?_
          first | refine J_aload C rfl dX3_placeOf_45 ?_ | refine J_aloadq C rfl dX3_placeOf_45 ?_ | refine J_aloadN C rfl dX3_placeOf_45 ?_
          refine J_ifnull (x := some _) C 68 (by decide) dX3_placeOf_47 (fun z => by cases z) (fun _ _ => ?_)
          first | refine J_aload C rfl dX3_placeOf_50 ?_ | refine J_aloadq C rfl dX3_placeOf_50 ?_ | refine J_aloadN C rfl dX3_placeOf_50 ?_
          refine J_get C fl_X3_32 (by first | assumption | exact jv_up_at _ _ _ | (simp [jv_up, *]; done)) (by rfl) dX3_placeOf_52 ?_
          refine J_lload_n C rfl dX3_placeOf_55 ?_
          refine J_lcmp C dX3_placeOf_56 ?_
          refine J_if_ge C 68 (by decide) dX3_placeOf_57 (fun z3 => ?_) (fun z3 => ?_)
          · have z3 := (lg_cmp_ge _ _).mp z3
            refine J_iload C rfl dX3_placeOf_68 ?_
            refine J_istore C (by decide) dX3_placeOf_70 ?_
            first | refine J_niinc (b := 1) C rfl (by decide) dX3_placeOf_72 ?_ | refine J_iinc C rfl (by decide) dX3_placeOf_72 ?_
            refine J_goto C 14 (by decide) dX3_placeOf_75 ?_
            refine J_sub (by exact (And.intro rfl (And.intro rfl (And.intro rfl (And.intro rfl (And.intro rfl trivial)))))) (ih (k + 1) lo (lo + (hi - lo) / 2) (by omega) (by omega) (by omega) (by omega) q5 (fun i u w1 w2 => ?_))
            rcases Nat.lt_or_ge (lo + (hi - lo) / 2) i with w3 | w3
            · exact fun w4 => absurd (Int64.lt_trans (x4 _ i _ u w3 hx w2) w4) (Int64.not_lt.mpr z3)
            · have : i = lo + (hi - lo) / 2 := by omega
              subst this
              rw [hx] at w2; cases w2
              exact Int64.not_lt.mpr z3
          · have z3 : lt W[lo + (hi - lo) / 2] < L := Int64.not_le.mp (fun w => z3 ((lg_cmp_ge _ _).mpr w))
            refine J_iload C rfl dX3_placeOf_60 ?_
            refine J_iconst C (v := nI 1) (by decide) dX3_placeOf_62 ?_
            first | refine J_niadd C dX3_placeOf_63 ?_ | refine J_iadd C dX3_placeOf_63 ?_
            refine J_istore_n C (by decide) dX3_placeOf_64 ?_
            refine J_goto C 72 (by decide) dX3_placeOf_65 ?_
            first | refine J_niinc (b := 1) C rfl (by decide) dX3_placeOf_72 ?_ | refine J_iinc C rfl (by decide) dX3_placeOf_72 ?_
            refine J_goto C 14 (by decide) dX3_placeOf_75 ?_
            refine J_sub (by exact (And.intro rfl (And.intro rfl (And.intro rfl (And.intro rfl (And.intro rfl trivial)))))) (ih (k + 1) (lo + (hi - lo) / 2 + 1) hi (by omega) (by omega) (by omega) q4 (fun i u w1 w2 => ?_) q6)
            rcases Nat.lt_or_ge i (lo + (hi - lo) / 2) with w3 | w3
            · exact Int64.lt_trans (x4 i _ u _ w3 w2 hx) z3
            · have : i = lo + (hi - lo) / 2 := by omega
              subst this
              rw [hx] at w2; cases w2
              exact z3
  refine J_iconst C (v := nI 0) (by decide) dX3_placeOf_0 ?_
  refine J_istore_n C (by decide) dX3_placeOf_1 ?_
  first | refine J_aload_n C rfl dX3_placeOf_2 ?_ | refine J_aload_nq C rfl dX3_placeOf_2 ?_ | refine J_aload_nN C rfl dX3_placeOf_2 ?_
  refine J_get C fl_X3_12 (by first | assumption | exact jv_up_at _ _ _ | (simp [jv_up, *]; done)) (by rfl) dX3_placeOf_3 ?_
  refine J_callV C (c_AL_size x2) cw_X3_18 (by first | assumption | exact jv_up_at _ _ _ | (simp [jv_up, *]; done)) rfl rfl rfl rfl (by exact Nat.le_of_ble_eq_true rfl) (by decide) (by omega) (by omega) dX3_placeOf_6 ?_
  rintro _ _ ⟨rfl, rfl⟩
  refine J_istore C (by decide) dX3_placeOf_9 ?_
  refine J_iconst C (v := nI 0) (by decide) dX3_placeOf_11 ?_
  refine J_istore C (by decide) dX3_placeOf_12 ?_
  refine J_sub (by exact (And.intro rfl (And.intro rfl (And.intro rfl (And.intro rfl (And.intro rfl trivial)))))) (loop 32 0 0 W.length (by omega) (by omega) (by omega) (Nat.le_refl _) (fun i u w => absurd w (Nat.not_lt_zero _)) (fun i u w1 w2 => by rw [List.getElem?_eq_none w1] at w2; cases w2))
end LEX
