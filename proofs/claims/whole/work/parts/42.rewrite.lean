section REWRITE
variable {l : jL} {h h1 : jH} {b da dd dc x xa xd xc : Nat} {DL W SW SP : List Nat} {lt : Nat → Int64} {num len : Nat → Nat} {PD QW : Nat → List Nat} {tot : Nat → Nat} {tm pa : Nat → Nat → Nat} {nx : Nat → Nat → Option Nat} {fi : Nat → Option Nat} {sf : Nat → sfT} {n : Nat}
/-- the library while document e is being written; m words in the list, room for xc -/
def rwS (l : jL) (h : jH) (b da dd dc x xa xc : Nat) (D : List Nat) (num : Nat → Nat) (wl : Nat → List Int64) (sf : Nat → sfT) (n e m : Nat) : Prop :=
  ∃ W SW SP lt len PD QW tot tm pa nx fi xd, lib0 l h b da dd dc x xa xd xc D W SW SP lt num len PD QW tot tm pa nx fi sf n ∧ (∀ u ∈ W, PD u ≠ []) ∧ gF D QW fi pa ∧ gA W D lt PD tm len wl ∧ (∀ u ∈ W, e ∈ PD u → (PD u)[0]? = some e) ∧ W.length = m
theorem lx_inj {a d cap : Nat} (X : lx l h x a d cap W SW lt) {u v : Nat} (hu : u ∈ W) (hv : v ∈ W) (z : lt u = lt v) : u = v := by
  obtain ⟨i, hi⟩ := List.getElem?_of_mem hu
  obtain ⟨j, hj⟩ := List.getElem?_of_mem hv
  obtain ⟨x1, x2, x3, x4, -⟩ := X
  rcases Nat.lt_trichotomy i j with c | c | c
  · have := x4 i j u v c hi hj
    rw [z] at this
    exact absurd this Int64.lt_irrefl
  · subst c
    exact Option.some.inj (hi.symm.trans hj)
  · have := x4 j i v u c hj hi
    rw [z] at this
    exact absurd this Int64.lt_irrefl
/-- one word counted -/
theorem rw_cnt {w e : Nat} {wl : Nat → List Int64} {h2 : jH} (B : lib0 l h b da dd dc x xa xd xc DL W SW SP lt num len PD QW tot tm pa nx fi sf n) (hne : ∀ u ∈ W, u ≠ w → PD u ≠ []) (A : gA W DL lt PD tm len wl) (hf : ∀ u ∈ W, e ∈ PD u → (PD u)[0]? = some e) (hw : w ∈ W) (Z : cnP l h b da dd dc x xa xd xc DL W SW lt num len PD tot tm sf n e w h2) : fr (lc h) h h2 ∧ rwS l h2 b da dd dc x xa xc DL num (va_up wl e (wl e ++ [lt w])) sf (n + 1) e W.length := by
  obtain ⟨F, SP', PD', QW', tm', pa', nx', fi', Y, G, y1, y2, y3, y4, y5⟩ := Z
  refine ⟨F, W, SW, SP', lt, _, PD', QW', _, tm', pa', nx', fi', xd, Y, fun u hu z => ?_, G, gA_count A hw (fun u hu z => lx_inj B.2.2.1 hu hw z) y1 y3 y4 y5, fun u hu hm => ?_, rfl⟩
  · by_cases c : u = w
    · subst c
      rw [z] at y2
      cases y2
    · rw [y1 u c] at z
      exact hne u hu c z
  · by_cases c : u = w
    · subst c
      exact y2
    · rw [y1 u c] at hm ⊢
      exact hf u hu hm
theorem lx_cap {a d cap : Nat} (X : lx l h x a d cap W SW lt) : W.length ≤ cap := by
  obtain ⟨mcn, a1, a2, a3⟩ := X.2.1
  rcases a3 with ⟨q, r, _⟩ | ⟨_, _, c3, _⟩
  · rw [r]; exact Nat.zero_le _
  · exact c3
set_option maxHeartbeats 1000000 in
theorem c_Lib_rewrite (B : lib0 l h b da dd dc x xa xd xc DL W SW SP lt num len PD QW tot tm pa nx fi sf n) (hne : ∀ u ∈ W, PD u ≠ []) (G : gF DL QW fi pa) {wl : Nat → List Int64} (A : gA W DL lt PD tm len wl) {e : Nat} (he : e ∈ DL) (hln : len e ≤ n) {t tb nt : Nat} {f : Nat → Int32} (T : tp_is h t tb nt f) (CB : Nat) (hc1 : xc ≤ CB) (hc2 : 10 + 3 * (W.length + 200) / 2 ≤ CB) (hc3 : CB ≤ 40000) : Cn l yX4_rewrite cX4_rewrite 6 none 9 600 (2200 + 4 * (CB - xc)) [.ref b, .ref e, .ref t] h (fun r h1 => r = none ∧ fr (lc h) h h1 ∧ ∃ m xc', rwS l h1 b da dd dc x xa xc' DL num (va_up wl e (sp_text (sp_B f) nt)) sf (n - len e + (sp_text (sp_B f) nt).length) e m ∧ xc ≤ xc' ∧ xc' ≤ CB ∧ m ≤ W.length + 200) := by
  refine Cn.of (own := RX4) rfl (by decide) (by exact Nat.le_of_ble_eq_true rfl) (by decide) (fun K hK C D I => ?_)
  have tpl : ∀ h' : jH, fr (lc h) h h' → tp_is h' t tb nt f := fun h' F => tp_keep T F (fun z => by unfold lc at z; rw [T.1] at z; simp at z) (fun z => by unfold lc at z; rw [T.2.1] at z; cases z)
  have hnt := T.2.2
  have loop : ∀ (k j i c s m xc' : Nat) (ds : List Int64) (h' : jH), j + k = 200 → i ≤ nt → ds ++ sp_wds (sp_B f) nt k i = sp_text (sp_B f) nt → c ≤ 3 * j → s + 4 * (CB - xc') ≤ 11 * j + 4 * (CB - xc) → xc ≤ xc' → xc' ≤ CB → m ≤ W.length + j → fr (lc h) h h' → rwS l h' b da dd dc x xa xc' DL num (va_up wl e ds) sf (n - len e + ds.length) e m → J K c s 14 (jv_l [(4, .int (nI j)), (3, .int (nI i)), (2, .ref t), (1, .ref e), (0, .ref b)]) [] h' := by
    intro k
    induction k with
    | zero =>
      intro j i c s m xc' ds h' hj hi hds hc hs hx1 hx2 hm F S
      have hds2 : ds = sp_text (sp_B f) nt := by rw [← hds]; exact (List.append_nil ds).symm
      subst hds2
      refine J_iload C rfl dX4_rewrite_14 ?_
      refine J_sipush C (v := nI 200) (by decide) dX4_rewrite_16 ?_
      refine J_nicmp_ge C (by first | omega | (dsimp only; omega)) (by first | omega | (dsimp only; omega)) 69 (by decide) dX4_rewrite_19 (fun z => ?_) (fun z => ?_)
      · refine J_vret C D ⟨rfl, F, m, xc', S, hx1, hx2, by omega⟩ (by omega) (by omega) dX4_rewrite_69
      · omega
    | succ k ih =>
      intro j i c s m xc' ds h' hj hi hds hc hs hx1 hx2 hm F S
      have T' := tpl h' F
      have T1 := T'.1
      refine J_iload C rfl dX4_rewrite_14 ?_
      refine J_sipush C (v := nI 200) (by decide) dX4_rewrite_16 ?_
      refine J_nicmp_ge C (by first | omega | (dsimp only; omega)) (by first | omega | (dsimp only; omega)) 69 (by decide) dX4_rewrite_19 (fun z => ?_) (fun z => ?_)
      · omega
      · refine J_iload_n C rfl dX4_rewrite_22 ?_
        first | refine J_aload_n C rfl dX4_rewrite_23 ?_ | refine J_aload_nq C rfl dX4_rewrite_23 ?_ | refine J_aload_nN C rfl dX4_rewrite_23 ?_
        refine J_callV C (c_Tape_length _ _ t tb nt f T') cw_X4_62 (by first | assumption | exact jv_up_at _ _ _ | (simp [jv_up, *]; done)) rfl rfl rfl rfl (by exact Nat.le_of_ble_eq_true rfl) (by decide) (by omega) (by omega) dX4_rewrite_24 ?_
        rintro _ h9 ⟨rfl, e9⟩
        replace e9 := e9.symm
        subst e9
        refine J_nicmp_ge C (by first | omega | (dsimp only; omega)) (by first | omega | (dsimp only; omega)) 69 (by decide) dX4_rewrite_27 (fun z2 => ?_) (fun z2 => ?_)
        · have hds2 : ds = sp_text (sp_B f) nt := by
            rw [← hds]
            unfold sp_wds
            rw [if_pos z2, List.append_nil]
          subst hds2
          refine J_vret C D ⟨rfl, F, m, xc', S, hx1, hx2, by omega⟩ (by omega) (by omega) dX4_rewrite_69
        · obtain ⟨W1, SW1, SP1, lt1, len1, PD1, QW1, tot1, tm1, pa1, nx1, fi1, xd1, Y, y1, y2, y3, y4, y5⟩ := S
          have Yb := Y.1
          have Yx := Y.2.2.1.1
          have we := sp_we_le (sp_B f) hi
          have hsplit : sp_wds (sp_B f) nt (k + 1) i = sp_word (sp_B f) i (sp_we (sp_B f) nt i) :: sp_wds (sp_B f) nt k (sp_ws (sp_B f) nt (sp_we (sp_B f) nt i)) := by
            show (if nt ≤ i then _ else _) = _
            rw [if_neg (by omega)]
          rw [hsplit] at hds
          generalize hL : sp_word (sp_B f) i (sp_we (sp_B f) nt i) = L at hds
          generalize hwe : sp_we (sp_B f) nt i = q at *
          have ws := sp_ws_le (sp_B f) we.2
          have K56 : ∀ (c' s' m' xc2 : Nat) (h3 : jH), c' ≤ 3 * (j + 1) → s' + 4 * (CB - xc2) ≤ 11 * (j + 1) + 4 * (CB - xc) → xc ≤ xc2 → xc2 ≤ CB → m' ≤ W.length + (j + 1) → fr (lc h) h h3 → rwS l h3 b da dd dc x xa xc2 DL num (va_up wl e (ds ++ [L])) sf (n - len e + ds.length + 1) e m' → J K c' s' 56 (jv_l [(5, .int (nI q)), (4, .int (nI j)), (3, .int (nI i)), (2, .ref t), (1, .ref e), (0, .ref b)]) [] h3 := by
            intro c' s' m' xc2 h3 g1 g2 g3 g4 g5 g6 g7
            have T3 := tpl h3 g6
            have T31 := T3.1
            first | refine J_aload_n C rfl dX4_rewrite_56 ?_ | refine J_aload_nq C rfl dX4_rewrite_56 ?_ | refine J_aload_nN C rfl dX4_rewrite_56 ?_
            refine J_iload C rfl dX4_rewrite_57 ?_
            refine J_callV C (c_Tape_wordStart _ _ t tb nt f T3 q we.2) cw_X4_57 (by first | assumption | exact jv_up_at _ _ _ | (simp [jv_up, *]; done)) rfl rfl rfl rfl (by exact Nat.le_of_ble_eq_true rfl) (by decide) (by omega) (by omega) dX4_rewrite_59 ?_
            rintro _ h9 ⟨rfl, e9⟩
            replace e9 := e9.symm
            subst e9
            refine J_istore_n C (by decide) dX4_rewrite_62 ?_
            first | refine J_niinc (b := 1) C rfl (by decide) dX4_rewrite_63 ?_ | refine J_iinc C rfl (by decide) dX4_rewrite_63 ?_
            refine J_goto C 14 (by decide) dX4_rewrite_66 ?_
            refine J_sub (by exact (And.intro rfl (And.intro rfl (And.intro rfl (And.intro rfl (And.intro rfl trivial)))))) (ih (j + 1) (sp_ws (sp_B f) nt q) _ _ m' xc2 (ds ++ [L]) h3 (by omega) ws.2 (by rw [List.append_assoc]; exact hds) (by omega) (by omega) g3 g4 g5 g6 (by rw [List.length_append]; exact g7))
          obtain ⟨M, hM1, hM2⟩ : ∃ M, ((∀ u ∈ W1, lt1 u ≠ L) → W1.length = xc' → gcap xc' ≤ M) ∧ (M = 0 ∨ (M = gcap xc' ∧ (∀ u ∈ W1, lt1 u ≠ L) ∧ W1.length = xc')) := by
            by_cases hg : (∀ u ∈ W1, lt1 u ≠ L) ∧ W1.length = xc'
            · exact ⟨gcap xc', fun _ _ => Nat.le_refl _, Or.inr ⟨rfl, hg⟩⟩
            · exact ⟨0, fun a b => absurd ⟨a, b⟩ hg, Or.inl rfl⟩
          have hx10 : xc' = 0 ∨ 10 ≤ xc' := by
            obtain ⟨mcn, a1, a2, a3⟩ := Y.2.2.1.2.1
            rcases a3 with ⟨z, _⟩ | ⟨z, _⟩
            · exact Or.inl z
            · exact Or.inr z
          have hgc : W1.length = xc' → gcap xc' ≤ CB ∧ gcap xc' ≤ 4 * (gcap xc' - xc') ∧ xc' < gcap xc' := by
            intro z
            unfold gcap
            split <;> omega
          have hMx : M ≤ 4 * (CB - xc') := by
            rcases hM2 with z | ⟨z, _, z3⟩
            · omega
            · have := hgc z3
              omega
          refine J_e0 C (fun he0 => ?_)
          rw [hK] at he0
          have X1 := Y.2.2.1
          rw [← hK] at X1
          have we2 := we.2
          first | refine J_aload_n C rfl dX4_rewrite_30 ?_ | refine J_aload_nq C rfl dX4_rewrite_30 ?_ | refine J_aload_nN C rfl dX4_rewrite_30 ?_
          refine J_iload_n C rfl dX4_rewrite_31 ?_
          refine J_callV C (c_Tape_wordEnd _ _ t tb nt f T' i hi) cw_X4_65 (by first | assumption | exact jv_up_at _ _ _ | (simp [jv_up, *]; done)) rfl rfl rfl rfl (by exact Nat.le_of_ble_eq_true rfl) (by decide) (by omega) (by omega) dX4_rewrite_32 ?_
          rintro _ h9 ⟨rfl, e9⟩
          replace e9 := e9.symm
          subst e9
          rw [hwe]
          refine J_istore C (by decide) dX4_rewrite_35 ?_
          first | refine J_aload_n C rfl dX4_rewrite_37 ?_ | refine J_aload_nq C rfl dX4_rewrite_37 ?_ | refine J_aload_nN C rfl dX4_rewrite_37 ?_
          first | refine J_aload_n C rfl dX4_rewrite_38 ?_ | refine J_aload_nq C rfl dX4_rewrite_38 ?_ | refine J_aload_nN C rfl dX4_rewrite_38 ?_
          first | refine J_aload_n C rfl dX4_rewrite_39 ?_ | refine J_aload_nq C rfl dX4_rewrite_39 ?_ | refine J_aload_nN C rfl dX4_rewrite_39 ?_
          refine J_get C fl_X4_21 (by first | assumption | exact jv_up_at _ _ _ | (simp [jv_up, *]; done)) (by rfl) dX4_rewrite_40 ?_
          first | refine J_aload_n C rfl dX4_rewrite_43 ?_ | refine J_aload_nq C rfl dX4_rewrite_43 ?_ | refine J_aload_nN C rfl dX4_rewrite_43 ?_
          refine J_iload_n C rfl dX4_rewrite_44 ?_
          refine J_iload C rfl dX4_rewrite_45 ?_
          refine J_callV C (c_Tape_lettersOf _ _ t tb nt f T' i q we.1 we.2) cw_X4_68 (by first | assumption | exact jv_up_at _ _ _ | (simp [jv_up, *]; done)) rfl rfl rfl rfl (by exact Nat.le_of_ble_eq_true rfl) (by decide) (by omega) (by omega) dX4_rewrite_47 ?_
          rintro _ h9 ⟨rfl, e9⟩
          replace e9 := e9.symm
          subst e9
          rw [hL]
          refine J_callV C (c_Lex_enter X1 (by omega) M L hM1) cw_X4_72 (by first | assumption | exact jv_up_at _ _ _ | (simp [jv_up, *]; done)) rfl rfl rfl rfl (by exact Nat.le_of_ble_eq_true rfl) (by decide) (by omega) (by omega) dX4_rewrite_50 ?_
          rintro _ h2 ⟨w, rfl, (⟨e9, w1, w2⟩ | E)⟩
          · subst e9
            have hM0 : M = 0 := by
              rcases hM2 with z | ⟨_, z, _⟩
              · exact z
              · exact absurd w2 (z w w1)
            have Y2 := Y
            rw [← hK] at Y2
            refine J_callV C (c_Lib_count Y2 y2 w1 he (y4 w w1)) cw_X4_76 (by first | assumption | exact jv_up_at _ _ _ | (simp [jv_up, *]; done)) rfl rfl rfl rfl (by exact Nat.le_of_ble_eq_true rfl) (by decide) (by omega) (by omega) dX4_rewrite_53 ?_
            rintro _ h3 ⟨rfl, Z⟩
            rw [hK] at Z
            obtain ⟨F3, S3⟩ := rw_cnt Y (fun u hu _ => y1 u hu) y3 y4 w1 Z
            have uu : va_up (va_up wl e ds) e (va_up wl e ds e ++ [lt1 w]) = va_up wl e (ds ++ [L]) := by
              funext v
              unfold va_up
              by_cases c9 : v = e
              · rw [if_pos c9, if_pos c9, if_pos rfl, w2]
              · rw [if_neg c9, if_neg c9, if_neg c9]
            rw [uu] at S3
            refine J_sub (by exact (And.intro rfl (And.intro rfl (And.intro rfl (And.intro rfl (And.intro rfl (And.intro rfl trivial))))))) (K56 _ _ _ xc' h3 (by omega) (by omega) hx1 hx2 (by omega) (lc_tr F F3) S3)
          · rw [hK] at E
            obtain ⟨n1, n2, F2, p, xd2, xc2, SW2, n3, Y2, n4⟩ := lib0_enter Y he0 E
            have Y3 := Y2
            have Y2b := Y2.1
            rw [← hK] at Y3
            have hcap2 := lx_cap Y2.2.2.1
            rw [ins_len n3] at hcap2
            have pw : va_up PD1 w [] w = [] := if_pos rfl
            refine J_callV C (c_Lib_count Y3 y2 ins_me he (fun z => by rw [pw] at z; cases z)) cw_X4_76 (by first | assumption | exact jv_up_at _ _ _ | (simp [jv_up, *]; done)) rfl rfl rfl rfl (by exact Nat.le_of_ble_eq_true rfl) (by decide) (by omega) (by omega) dX4_rewrite_53 ?_
            rintro _ h3 ⟨rfl, Z⟩
            rw [hK] at Z
            obtain ⟨F3, S3⟩ := rw_cnt (wl := va_up wl e ds) Y2 (fun u hu hx => by
              rw [show va_up PD1 w [] u = PD1 u from if_neg hx]
              exact y1 u ((ins_mem hu).elim (fun z => absurd z hx) id)) (gA_enter y3 n1 n2) (fun u hu hm => by
              by_cases c9 : u = w
              · subst c9
                rw [pw] at hm; cases hm
              · rw [show va_up PD1 w [] u = PD1 u from if_neg c9] at hm ⊢
                exact y4 u ((ins_mem hu).elim (fun z => absurd z c9) id) hm) ins_me Z
            have uu : va_up (va_up wl e ds) e (va_up wl e ds e ++ [va_up lt1 w L w]) = va_up wl e (ds ++ [L]) := by
              funext v
              unfold va_up
              by_cases c9 : v = e
              · rw [if_pos c9, if_pos c9, if_pos rfl, if_pos rfl]
              · rw [if_neg c9, if_neg c9, if_neg c9]
            rw [uu, ins_len n3] at S3
            have hxx : M + 4 * (CB - xc2) ≤ 4 * (CB - xc') ∧ xc' ≤ xc2 ∧ xc2 ≤ CB := by
              rcases n4 with z | ⟨z, z2⟩
              · have hM0 : M = 0 := by
                  rcases hM2 with q9 | ⟨_, _, q9⟩
                  · exact q9
                  · omega
                omega
              · have := hgc z2
                rcases hM2 with q9 | ⟨q9, _, _⟩ <;> omega
            refine J_sub (by exact (And.intro rfl (And.intro rfl (And.intro rfl (And.intro rfl (And.intro rfl (And.intro rfl trivial))))))) (K56 _ _ _ xc2 h3 (by omega) (by omega) (by omega) hxx.2.2 (by omega) (lc_tr (lc_tr F F2) F3) S3)
  have T1 := T.1
  have B1 := B
  have bb := B.1
  rw [← hK] at B1
  first | refine J_aload_n C rfl dX4_rewrite_0 ?_ | refine J_aload_nq C rfl dX4_rewrite_0 ?_ | refine J_aload_nN C rfl dX4_rewrite_0 ?_
  first | refine J_aload_n C rfl dX4_rewrite_1 ?_ | refine J_aload_nq C rfl dX4_rewrite_1 ?_ | refine J_aload_nN C rfl dX4_rewrite_1 ?_
  refine J_callV C (c_Lib_forget B1 hne he (G e he) hln) cw_X4_49 (by first | assumption | exact jv_up_at _ _ _ | (simp [jv_up, *]; done)) rfl rfl rfl rfl (by exact Nat.le_of_ble_eq_true rfl) (by decide) (by omega) (by omega) dX4_rewrite_2 ?_
  rintro _ h2 ⟨rfl, F, W', SW', SP', PD', tot', Y, y1, y2, y3⟩
  rw [hK] at Y
  have T2 := tpl h2 F
  have T21 := T2.1
  have ws := sp_ws_le (sp_B f) (Nat.zero_le nt)
  have uqe : va_up QW e [] e = [] := if_pos rfl
  have no : ∀ u ∈ W', e ∉ PD' u := fun u hu z => by
    have := ((Y.2.2.2.2.2.2.2.1.1 u hu).2 e z).2
    rw [uqe] at this
    cases this
  first | refine J_aload_n C rfl dX4_rewrite_5 ?_ | refine J_aload_nq C rfl dX4_rewrite_5 ?_ | refine J_aload_nN C rfl dX4_rewrite_5 ?_
  refine J_iconst C (v := nI 0) (by decide) dX4_rewrite_6 ?_
  refine J_callV C (c_Tape_wordStart _ _ t tb nt f T2 0 (Nat.zero_le _)) cw_X4_57 (by first | assumption | exact jv_up_at _ _ _ | (simp [jv_up, *]; done)) rfl rfl rfl rfl (by exact Nat.le_of_ble_eq_true rfl) (by decide) (by omega) (by omega) dX4_rewrite_7 ?_
  rintro _ h9 ⟨rfl, e9⟩
  replace e9 := e9.symm
  subst e9
  refine J_istore_n C (by decide) dX4_rewrite_10 ?_
  refine J_iconst C (v := nI 0) (by decide) dX4_rewrite_11 ?_
  refine J_istore C (by decide) dX4_rewrite_12 ?_
  refine J_sub (by exact (And.intro rfl (And.intro rfl (And.intro rfl (And.intro rfl (And.intro rfl trivial)))))) (loop 200 0 (sp_ws (sp_B f) nt 0) _ _ W'.length xc [] h2 (by omega) ws.2 rfl (by omega) (by omega) (Nat.le_refl _) hc1 (by omega) F ⟨W', SW', SP', lt, _, PD', _, tot', tm, pa, nx, _, xd, Y, fun u hu => ((y1 u).mp hu).2, fun v hv => ?_, gA_forget A e y1 y2 no, fun u hu z => absurd z (no u hu), rfl⟩)
  by_cases c : v = e
  · rw [c, uqe, show va_up fi e none e = none from if_pos rfl]
    rfl
  · rw [show va_up fi e none v = fi v from if_neg c, show va_up QW e [] v = QW v from if_neg c]
    exact G v hv
end REWRITE
