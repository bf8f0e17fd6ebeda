/-! the model: reading a query -/
theorem qR_skips {B : Nat → Nat} {nt : Nat} {E : Nat × Nat × qsT} {c : Nat} {tv : Nat → tmT} : ∀ (n i : Nat), i + n ≤ nt → (∀ j, i ≤ j → j < i + n → B j ≤ 32) → qR B nt E i (c, 0, tv) → qR B nt E (i + n) (c, 0, tv)
  | 0, i, _, _, R => R
  | n + 1, i, hi, hb, R => by
    have := qR_skips n (i + 1) (by omega) (fun j h1 h2 => hb j (by omega) (by omega)) (qR_skip R (by omega) (hb i (Nat.le_refl _) (by omega)))
    rw [show i + (n + 1) = i + 1 + n by omega]
    exact this
section ISQ
variable {l : jL} {h : jH} {m : Nat} {A : Nat → Nat} {g : Nat → Int32} {N : Nat → Nat → Int32} {Q : Nat → Nat → Int64} {nt : Nat} {B : Nat → Nat}
/-- what changes while a query is read -/
def tQ (h : jH) (m : Nat) (A : Nat → Nat) (g : Nat → Int32) (N : Nat → Nat → Int32) (Q : Nat → Nat → Int64) (h' : jH) (g' : Nat → Int32) (N' : Nat → Nat → Int32) (Q' : Nat → Nat → Int64) : Prop :=
  fr (mdS m A) h h' ∧ mdl h' m A g' N' Q' ∧ (∀ k, k ≠ 9 → k ≠ 15 → k ≠ 16 → k ≠ 17 → g' k = g k) ∧ (∀ k, k ≠ 11 → k ≠ 12 → k ≠ 13 → k ≠ 14 → N' k = N k) ∧ ∀ k, k ≠ 10 → Q' k = Q k
set_option maxHeartbeats 1000000 in
theorem c_M_isQuery (M : mdl h m A g N Q) (T : mdT g N nt B) (tv0 : Nat → tmT) (E : Nat × Nat × qsT) (hE : E = qs_all B nt tv0) : Cn l yX12_isQuery cX12_isQuery 1 (some .boolean) 4 0 0 [.ref m] h (fun r h1 => r = some (.int (jv_b (decide (E.1 = 0)))) ∧ ∃ g' N' Q', tQ h m A g N Q h1 g' N' Q' ∧ g' 16 = nI E.1 ∧ g' 17 = qs_fp E ∧ (E.1 = 0 → g' 9 = nI E.2.2.1 ∧ E.2.2.1 ≤ 16 ∧ ∀ j, j < E.2.2.1 → tmM N' Q' j (E.2.2.2.2 j) ∧ tmOK B (E.2.2.2.2 j))) := by
  obtain ⟨t1, t2, t3⟩ := id T
  have R0 : qR B nt E 0 (0, 0, tv0) := by
    unfold qR
    rw [hE]
    exact ⟨rfl, rfl, fun _ => ⟨rfl, rfl⟩⟩
  clear hE
  refine Cn.of (own := RX12) rfl (by decide) (by exact Nat.le_of_ble_eq_true rfl) (by decide) (fun K hK C D _ => ?_)
  have m1 := M.1
  have TT : ∀ {h' g' N' Q'}, tQ h m A g N Q h' g' N' Q' → mdT g' N' nt B := fun S => by
    unfold mdT at T ⊢
    rw [S.2.2.1 1 (by decide) (by decide) (by decide) (by decide), S.2.2.2.1 2 (by decide) (by decide) (by decide) (by decide)]
    exact T
  have sg : ∀ {h' g' N' Q'} (S : tQ h m A g N Q h' g' N' Q') (k : Nat) (v : Int32), (k = 9 ∨ k = 15 ∨ k = 16 ∨ k = 17) → tQ h m A g N Q (jv_up h' m (mdO A (va_up g' k v))) (va_up g' k v) N' Q' := fun S k v hk => ⟨fr_tr S.1 (fr_up (Or.inl rfl)), mdl_s S.2.1 _, fun j j1 j2 j3 j4 => (if_neg (by omega)).trans (S.2.2.1 j j1 j2 j3 j4), S.2.2.2.1, S.2.2.2.2⟩
  have sb : ∀ {h' g' N' Q'} (S : tQ h m A g N Q h' g' N' Q') {h2 : jH} (F : fr (mdS m A) h' h2) {b : Bool} {w : Int32} (M2 : mdl h2 m A (bdG g' b w) N' Q'), tQ h m A g N Q h2 (bdG g' b w) N' Q' := by
    intro h' g' N' Q' S h2 F b w M2
    exact ⟨fr_tr S.1 F, M2, fun j j1 j2 j3 j4 => by
    unfold bdG
    cases b with
    | true => exact S.2.2.1 j j1 j2 j3 j4
    | false => exact ((if_neg j4).trans (if_neg j3)).trans (S.2.2.1 j j1 j2 j3 j4), S.2.2.2.1, S.2.2.2.2⟩
  have Kno : ∀ (h' : jH) (g' : Nat → Int32) (N' : Nat → Nat → Int32) (Q' : Nat → Nat → Int64), tQ h m A g N Q h' g' N' Q' → E.1 ≠ 0 → g' 16 = nI E.1 → g' 17 = qs_fp E → J K 0 0 76 (jv_l [(0, .ref m)]) [] h' := by
    intro h' g' N' Q' S hE g16 g17
    refine J_iconst C (v := nI 0) (by decide) dX12_isQuery_76 ?_
    refine J_zret C D (Or.inl rfl) ⟨by rw [decide_eq_false hE]; rfl, g', N', Q', S, g16, g17, fun q => absurd q hE⟩ (by omega) (by omega) dX12_isQuery_77
  have loop : ∀ (fuel i c : Nat) (tv : Nat → tmT) (h' : jH) (g' : Nat → Int32) (N' : Nat → Nat → Int32) (Q' : Nat → Nat → Int64), nt - i ≤ fuel → i ≤ nt → (i = nt ∨ 32 < B i) → c ≤ 16 → tQ h m A g N Q h' g' N' Q' → g' 16 = nI 0 → g' 17 = -1 → g' 15 = nI i → g' 9 = nI c → qR B nt E i (c, 0, tv) → (∀ j, j < c → tmM N' Q' j (tv j) ∧ tmOK B (tv j)) → J K 0 0 24 (jv_l [(0, .ref m)]) [] h' := by
    intro fuel
    induction fuel with
    | zero =>
      intro i c tv h' g' N' Q' hf hi hb hc S g16 g17 g15 g9 R HT
      have hi : i = nt := by omega
      subst hi
      have m1' := S.2.1.1
      have g1 := (TT S).1
      first | refine J_aload_n C rfl dX12_isQuery_24 ?_ | refine J_aload_nq C rfl dX12_isQuery_24 ?_ | refine J_aload_nN C rfl dX12_isQuery_24 ?_
      refine J_get C fl_X12_144 (by first | assumption | exact jv_up_at _ _ _ | (simp [jv_up, *]; done)) (by rfl) dX12_isQuery_25 ?_
      rw [g15]
      first | refine J_aload_n C rfl dX12_isQuery_28 ?_ | refine J_aload_nq C rfl dX12_isQuery_28 ?_ | refine J_aload_nN C rfl dX12_isQuery_28 ?_
      refine J_get C fl_X12_74 (by first | assumption | exact jv_up_at _ _ _ | (simp [jv_up, *]; done)) (by rfl) dX12_isQuery_29 ?_
      rw [g1]
      refine J_nicmp_ge C (by first | omega | (dsimp only; omega)) (by first | omega | (dsimp only; omega)) 85 (by decide) dX12_isQuery_32 (fun z => ?_) (fun z => ?_)
      · obtain ⟨a1, a2, a3, a4⟩ := qR_end R ⟨show (0 : Nat) ≠ 1 by decide, show (0 : Nat) ≠ 4 by decide⟩
        refine J_iconst C (v := nI 1) (by decide) dX12_isQuery_85 ?_
        refine J_zret C D (Or.inr rfl) ⟨by rw [decide_eq_true a1]; rfl, g', N', Q', S, by rw [a1]; exact g16, by rw [a2]; exact g17, fun _ => by rw [a3, a4]; exact ⟨g9, hc, HT⟩⟩ (by omega) (by omega) dX12_isQuery_86
      · omega
    | succ fuel ih =>
      intro i c tv h' g' N' Q' hf hi hb hc S g16 g17 g15 g9 R HT
      have m1' := S.2.1.1
      have T' := TT S
      have g1 := T'.1
      first | refine J_aload_n C rfl dX12_isQuery_24 ?_ | refine J_aload_nq C rfl dX12_isQuery_24 ?_ | refine J_aload_nN C rfl dX12_isQuery_24 ?_
      refine J_get C fl_X12_144 (by first | assumption | exact jv_up_at _ _ _ | (simp [jv_up, *]; done)) (by rfl) dX12_isQuery_25 ?_
      rw [g15]
      first | refine J_aload_n C rfl dX12_isQuery_28 ?_ | refine J_aload_nq C rfl dX12_isQuery_28 ?_ | refine J_aload_nN C rfl dX12_isQuery_28 ?_
      refine J_get C fl_X12_74 (by first | assumption | exact jv_up_at _ _ _ | (simp [jv_up, *]; done)) (by rfl) dX12_isQuery_29 ?_
      rw [g1]
      refine J_nicmp_ge C (by first | omega | (dsimp only; omega)) (by first | omega | (dsimp only; omega)) 85 (by decide) dX12_isQuery_32 (fun z => ?_) (fun z => ?_)
      · have hi : i = nt := by omega
        subst hi
        obtain ⟨a1, a2, a3, a4⟩ := qR_end R ⟨show (0 : Nat) ≠ 1 by decide, show (0 : Nat) ≠ 4 by decide⟩
        refine J_iconst C (v := nI 1) (by decide) dX12_isQuery_85 ?_
        refine J_zret C D (Or.inr rfl) ⟨by rw [decide_eq_true a1]; rfl, g', N', Q', S, by rw [a1]; exact g16, by rw [a2]; exact g17, fun _ => by rw [a3, a4]; exact ⟨g9, hc, HT⟩⟩ (by omega) (by omega) dX12_isQuery_86
      · have hb := hb.resolve_left (by omega)
        first | refine J_aload_n C rfl dX12_isQuery_35 ?_ | refine J_aload_nq C rfl dX12_isQuery_35 ?_ | refine J_aload_nN C rfl dX12_isQuery_35 ?_
        first | refine J_aload_n C rfl dX12_isQuery_36 ?_ | refine J_aload_nq C rfl dX12_isQuery_36 ?_ | refine J_aload_nN C rfl dX12_isQuery_36 ?_
        refine J_callV C (c_M_isTermStart S.2.1 T' g15 z) cw_X12_167 (by first | assumption | exact jv_up_at _ _ _ | (simp [jv_up, *]; done)) rfl rfl rfl rfl (by exact Nat.le_of_ble_eq_true rfl) (by decide) (by omega) (by omega) dX12_isQuery_37 ?_
        rintro _ h9 ⟨rfl, e9⟩
        replace e9 := e9.symm
        subst e9
        refine J_iconst C (v := nI 1) (by decide) dX12_isQuery_40 ?_
        refine J_callV C (c_M_bad S.2.1 (decide (0 < sp_let (B i) ∨ B i = 43 ∨ B i = 45)) (nI 1)) cw_X12_160 (by first | assumption | exact jv_up_at _ _ _ | (simp [jv_up, *]; done)) rfl rfl rfl rfl (by exact Nat.le_of_ble_eq_true rfl) (by decide) (by omega) (by omega) dX12_isQuery_41 ?_
        rintro _ h2 ⟨rfl, F2, M2⟩
        have S2 := sb S F2 M2
        by_cases hst : 0 < sp_let (B i) ∨ B i = 43 ∨ B i = 45
        · rw [decide_eq_true hst] at M2 S2 ⊢
          have m2 := M2.1
          have M2' : mdl h2 m A g' N' Q' := M2
          have S2' : tQ h m A g N Q h2 g' N' Q' := S2
          have m2' : h2 m = some (mdO A g') := M2.1
          clear m2
          refine J_bif_ne C 76 (by decide) dX12_isQuery_44 (fun z2 => ?_) (fun z2 => ?_)
          · cases z2
          · have Kc : ∀ b : Bool, b = decide (c < 16) → J K 0 0 62 (jv_l [(0, .ref m)]) [.int (jv_b b), .ref m] h2 := by
              intro b hb9
              refine J_iconst C (v := nI 3) (by decide) dX12_isQuery_62 ?_
              refine J_callV C (c_M_bad M2' b (nI 3)) cw_X12_160 (by first | assumption | exact jv_up_at _ _ _ | (simp [jv_up, *]; done)) rfl rfl rfl rfl (by exact Nat.le_of_ble_eq_true rfl) (by decide) (by omega) (by omega) dX12_isQuery_63 ?_
              rintro _ h3 ⟨rfl, F3, M3⟩
              have S3 := sb S2' F3 M3
              refine J_bif_ne C 76 (by decide) dX12_isQuery_66 (fun z3 => ?_) (fun z3 => ?_)
              · have hb1 : b = false := by cases b <;> first | rfl | cases z3
                subst hb1
                have hn := of_decide_eq_false hb9.symm
                have f := qR_fault R z (f := 3) (by
                  show (qs_between (c, 0, tv) (B i)).1 = 3
                  unfold qs_between
                  rw [if_pos (by rcases hst with q | q | q; exact Or.inr ((isl_iff _).mpr q); exact Or.inl (Or.inl q); exact Or.inl (Or.inr q)), if_pos (show 16 ≤ c by omega)]) (by decide)
                refine J_sub (by exact (And.intro rfl trivial)) (Kno h3 _ _ _ S3 (by rw [f.1]; decide) (by rw [f.1]; rfl) (by rw [f.2]; exact g15))
              · have hb1 : b = true := by cases b <;> first | rfl | cases z3
                subst hb1
                have hn := of_decide_eq_true hb9.symm
                have M3' : mdl h3 m A g' N' Q' := M3
                have S3' : tQ h m A g N Q h3 g' N' Q' := S3
                have m3' := M3'.1
                first | refine J_aload_n C rfl dX12_isQuery_69 ?_ | refine J_aload_nq C rfl dX12_isQuery_69 ?_ | refine J_aload_nN C rfl dX12_isQuery_69 ?_
                refine J_callV C (c_M_term M3' T' g15 g9 hn z hst R g16 g17) cw_X12_170 (by first | assumption | exact jv_up_at _ _ _ | (simp [jv_up, *]; done)) rfl rfl rfl rfl (by exact Nat.le_of_ble_eq_true rfl) (by decide) (by omega) (by omega) dX12_isQuery_70 ?_
                rintro _ h4 ⟨bad, rfl, g4, N4, Q4, S4, B1, B2⟩
                have S5 : tQ h m A g N Q h4 g4 N4 Q4 := ⟨fr_tr S3'.1 S4.1, S4.2.1, fun j j1 j2 j3 j4 => (S4.2.2.1 j j1 j2 j3 j4).trans (S3'.2.2.1 j j1 j2 j3 j4), fun j j1 j2 j3 j4 => (S4.2.2.2.1 j j1 j2 j3 j4).trans (S3'.2.2.2.1 j j1 j2 j3 j4), fun j j1 => (S4.2.2.2.2.2.1 j j1).trans (S3'.2.2.2.2 j j1)⟩
                have m4 := S5.2.1.1
                refine J_bif_eq C 78 (by decide) dX12_isQuery_73 (fun z4 => ?_) (fun z4 => ?_)
                · have hb0 : bad = false := by cases bad <;> first | rfl | cases z4
                  obtain ⟨i', v, i1, i2, g415, g49, g416, g417, R4, TM, OK⟩ := B2 hb0
                  first | refine J_aload_n C rfl dX12_isQuery_78 ?_ | refine J_aload_nq C rfl dX12_isQuery_78 ?_ | refine J_aload_nN C rfl dX12_isQuery_78 ?_
                  refine J_callV C (c_M_skip S5.2.1 (TT S5) g415 i2) cw_X12_164 (by first | assumption | exact jv_up_at _ _ _ | (simp [jv_up, *]; done)) rfl rfl rfl rfl (by exact Nat.le_of_ble_eq_true rfl) (by decide) (by omega) (by omega) dX12_isQuery_79 ?_
                  rintro _ h5 ⟨rfl, F5, i5, g5, k1, k2, k3, k4, M5, g515, g5k⟩
                  have S6 : tQ h m A g N Q h5 g5 N4 Q4 := ⟨fr_tr S5.1 F5, M5, fun j j1 j2 j3 j4 => (g5k j j2).trans (S5.2.2.1 j j1 j2 j3 j4), S5.2.2.2.1, S5.2.2.2.2⟩
                  have R5 := qR_skips (i5 - i') i' (by omega) (fun j j1 j2 => k3 j j1 (by omega)) R4
                  rw [show i' + (i5 - i') = i5 by omega] at R5
                  refine J_goto C 24 (by decide) dX12_isQuery_82 ?_
                  refine J_sub (by exact (And.intro rfl trivial)) (ih i5 (c + 1) (va_up tv c v) h5 g5 N4 Q4 (by omega) k2 k4 (by omega) S6 ((g5k 16 (by decide)).trans g416) ((g5k 17 (by decide)).trans g417) g515 ((g5k 9 (by decide)).trans g49) R5 (fun j hj => ?_))
                  by_cases q : j = c
                  · rw [q, vu_at]; exact ⟨TM, OK⟩
                  · rw [show va_up tv c v j = tv j from if_neg q]
                    obtain ⟨o1, o2⟩ := HT j (by omega)
                    refine ⟨?_, o2⟩
                    unfold tmM at o1 ⊢
                    rw [S4.2.2.2.2.1 13 j q, S4.2.2.2.2.1 11 j q, S4.2.2.2.2.1 12 j q, S4.2.2.2.2.1 14 j q, S4.2.2.2.2.2.2 j q]
                    exact o1
                · have hb0 : bad = true := by cases bad <;> first | rfl | cases z4
                  have := B1 hb0
                  refine J_sub (by exact (And.intro rfl trivial)) (Kno h4 g4 N4 Q4 S5 this.1 this.2.1 this.2.2)
            first | refine J_aload_n C rfl dX12_isQuery_47 ?_ | refine J_aload_nq C rfl dX12_isQuery_47 ?_ | refine J_aload_nN C rfl dX12_isQuery_47 ?_
            first | refine J_aload_n C rfl dX12_isQuery_48 ?_ | refine J_aload_nq C rfl dX12_isQuery_48 ?_ | refine J_aload_nN C rfl dX12_isQuery_48 ?_
            refine J_get C fl_X12_154 (by first | assumption | exact jv_up_at _ _ _ | (simp [jv_up, *]; done)) (by rfl) dX12_isQuery_49 ?_
            rw [g9]
            refine J_bipush C (v := nI 16) (by decide) dX12_isQuery_52 ?_
            refine J_nicmp_ge C (by first | omega | (dsimp only; omega)) (by first | omega | (dsimp only; omega)) 61 (by decide) dX12_isQuery_54 (fun z5 => ?_) (fun z5 => ?_)
            · refine J_iconst C (v := nI 0) (by decide) dX12_isQuery_61 ?_
              refine J_sub (by exact (And.intro rfl trivial)) (Kc false (decide_eq_false (by omega)).symm)
            · refine J_iconst C (v := nI 1) (by decide) dX12_isQuery_57 ?_
              refine J_goto C 62 (by decide) dX12_isQuery_58 ?_
              refine J_sub (by exact (And.intro rfl trivial)) (Kc true (decide_eq_true z5).symm)
        · rw [decide_eq_false hst] at M2 S2 ⊢
          refine J_bif_ne C 76 (by decide) dX12_isQuery_44 (fun z2 => ?_) (fun z2 => ?_)
          · have f := qR_fault R z (f := 1) (by
              show (qs_between (c, 0, tv) (B i)).1 = 1
              unfold qs_between
              rw [if_neg (fun q => hst (by rcases q with (q | q) | q; exact Or.inr (Or.inl q); exact Or.inr (Or.inr q); exact Or.inl ((isl_iff _).mp q)))]
              unfold qs_blank
              rw [if_pos hb]) (by decide)
            refine J_sub (by exact (And.intro rfl trivial)) (Kno h2 _ _ _ S2 (by rw [f.1]; decide) (by rw [f.1]; rfl) (by rw [f.2]; exact g15))
          · cases z2
  have S0 : tQ h m A g N Q h g N Q := ⟨fr_rf _ _, M, fun _ _ _ _ _ => rfl, fun _ _ _ _ _ => rfl, fun _ _ => rfl⟩
  have S1 := sg (sg (sg (sg S0 9 (nI 0) (by decide)) 15 (nI 0) (by decide)) 16 (nI 0) (by decide)) 17 (-1) (by decide)
  have m1' := S1.2.1.1
  first | refine J_aload_n C rfl dX12_isQuery_0 ?_ | refine J_aload_nq C rfl dX12_isQuery_0 ?_ | refine J_aload_nN C rfl dX12_isQuery_0 ?_
  refine J_iconst C (v := nI 0) (by decide) dX12_isQuery_1 ?_
  first | refine J_mput C fl_X12_154 (by first | assumption | exact jv_up_at _ _ _) (by decide) (by rfl) (by rfl) dX12_isQuery_2 ?_ | refine J_put C fl_X12_154 (by first | assumption | exact jv_up_at _ _ _ | (simp [jv_up, *]; done)) (by exact Nat.le_of_ble_eq_true rfl) (by rfl) (by rfl) dX12_isQuery_2 ?_
  first | refine J_aload_n C rfl dX12_isQuery_5 ?_ | refine J_aload_nq C rfl dX12_isQuery_5 ?_ | refine J_aload_nN C rfl dX12_isQuery_5 ?_
  refine J_iconst C (v := nI 0) (by decide) dX12_isQuery_6 ?_
  first | refine J_mput C fl_X12_144 (by first | assumption | exact jv_up_at _ _ _) (by decide) (by rfl) (by rfl) dX12_isQuery_7 ?_ | refine J_put C fl_X12_144 (by first | assumption | exact jv_up_at _ _ _ | (simp [jv_up, *]; done)) (by exact Nat.le_of_ble_eq_true rfl) (by rfl) (by rfl) dX12_isQuery_7 ?_
  first | refine J_aload_n C rfl dX12_isQuery_10 ?_ | refine J_aload_nq C rfl dX12_isQuery_10 ?_ | refine J_aload_nN C rfl dX12_isQuery_10 ?_
  refine J_iconst C (v := nI 0) (by decide) dX12_isQuery_11 ?_
  first | refine J_mput C fl_X12_151 (by first | assumption | exact jv_up_at _ _ _) (by decide) (by rfl) (by rfl) dX12_isQuery_12 ?_ | refine J_put C fl_X12_151 (by first | assumption | exact jv_up_at _ _ _ | (simp [jv_up, *]; done)) (by exact Nat.le_of_ble_eq_true rfl) (by rfl) (by rfl) dX12_isQuery_12 ?_
  first | refine J_aload_n C rfl dX12_isQuery_15 ?_ | refine J_aload_nq C rfl dX12_isQuery_15 ?_ | refine J_aload_nN C rfl dX12_isQuery_15 ?_
  refine J_iconst C (v := (-1)) (by decide) dX12_isQuery_16 ?_
  first | refine J_mput C fl_X12_42 (by first | assumption | exact jv_up_at _ _ _) (by decide) (by rfl) (by rfl) dX12_isQuery_17 ?_ | refine J_put C fl_X12_42 (by first | assumption | exact jv_up_at _ _ _ | (simp [jv_up, *]; done)) (by exact Nat.le_of_ble_eq_true rfl) (by rfl) (by rfl) dX12_isQuery_17 ?_
  first | refine J_aload_n C rfl dX12_isQuery_20 ?_ | refine J_aload_nq C rfl dX12_isQuery_20 ?_ | refine J_aload_nN C rfl dX12_isQuery_20 ?_
  refine J_callV C (c_M_skip S1.2.1 (TT S1) (i := 0) rfl (Nat.zero_le _)) cw_X12_164 (by first | assumption | exact jv_up_at _ _ _ | (simp [jv_up, *]; done)) rfl rfl rfl rfl (by exact Nat.le_of_ble_eq_true rfl) (by decide) (by omega) (by omega) dX12_isQuery_21 ?_
  rintro _ h5 ⟨rfl, F5, i5, g5, k1, k2, k3, k4, M5, g515, g5k⟩
  have S6 : tQ h m A g N Q h5 g5 N Q := ⟨fr_tr S1.1 F5, M5, fun j j1 j2 j3 j4 => (g5k j j2).trans (S1.2.2.1 j j1 j2 j3 j4), S1.2.2.2.1, S1.2.2.2.2⟩
  have R5 := qR_skips (i5 - 0) 0 (by omega) (fun j j1 j2 => k3 j j1 (by omega)) R0
  rw [show 0 + (i5 - 0) = i5 by omega] at R5
  refine J_sub (by exact (And.intro rfl trivial)) (loop nt i5 0 tv0 h5 g5 N Q (by omega) k2 k4 (by decide) S6 ((g5k 16 (by decide)).trans rfl) ((g5k 17 (by decide)).trans rfl) g515 ((g5k 9 (by decide)).trans rfl) R5 (fun j hj => absurd hj (Nat.not_lt_zero j)))
end ISQ
