section OFFER
variable {K : jT} {cc : ByteArray} {nL fr0 mc ms cells slots pc : Nat} {own : String} {lv : Nat → Option Value} {rest : List Value} {h : jH}
theorem J_nidec (C : JC K cc nL own fr0 mc ms) {i a : Nat} (hv : lv i = some (.int (nI (a + 1)))) (hn : i < nL) (d : decode cc pc = .ok (.iinc i (-1), 3)) (k : J K cells slots (pc + 3) (jv_u1 lv i (.int (nI a))) rest h) : J K cells slots pc lv rest h := by
  refine J_iinc C hv hn d ?_
  rw [show nI (a + 1) + Int32.ofInt (-1) = nI a from pk_m1 a]
  exact k
end OFFER
/-- how far up x goes from place p -/
def hi_bp (x : hiT) (L : List hiT) : Nat → Nat
  | 0 => 0
  | p + 1 => if hi_bt x (L.getD p (0, 0)) then hi_bp x L p else p + 1
theorem hi_bp_le (x : hiT) (L : List hiT) : ∀ p, hi_bp x L p ≤ p
  | 0 => Nat.le_refl _
  | p + 1 => by
    unfold hi_bp
    split
    · exact Nat.le_succ_of_le (hi_bp_le x L p)
    · exact Nat.le_refl _
def hi_bo (limit : Nat) (L : List hiT) (x : hiT) : List hiT := if limit ≤ hi_bp x L L.length then L else (L.take (hi_bp x L L.length) ++ x :: L.drop (hi_bp x L L.length)).take limit
theorem hi_bo_get {limit p : Nat} {L : List hiT} {x : hiT} (hp : p ≤ L.length) {i : Nat} {z : hiT} (h : ((L.take p ++ x :: L.drop p).take limit)[i]? = some z) : (i < p ∧ L[i]? = some z) ∨ (i = p ∧ z = x) ∨ (p < i ∧ L[i - 1]? = some z) := by
  rw [List.getElem?_take] at h
  by_cases hl : i < limit
  · rw [if_pos hl] at h
    have hlen : (L.take p).length = p := by rw [List.length_take]; omega
    by_cases h1 : i < p
    · rw [List.getElem?_append_left (by omega), List.getElem?_take, if_pos h1] at h
      exact Or.inl ⟨h1, h⟩
    · rw [List.getElem?_append_right (by omega), hlen] at h
      by_cases h2 : i = p
      · subst h2
        rw [Nat.sub_self] at h
        exact Or.inr (Or.inl ⟨rfl, by cases h; rfl⟩)
      · rw [show i - p = (i - 1 - p) + 1 by omega, List.getElem?_cons_succ, List.getElem?_drop] at h
        exact Or.inr (Or.inr ⟨by omega, by rw [show p + (i - 1 - p) = i - 1 by omega] at h; exact h⟩)
  · rw [if_neg hl] at h; cases h
section OFFER2
variable {l : jL} {h : jH} {a an ap limit : Nat} {L : List hiT}
set_option maxHeartbeats 800000 in
theorem c_Best_offer (B : bs h a an ap limit L) (x : hiT) (hx : x.1 < 10000) : Cn l yX0_offer cX0_offer 5 none 3 0 0 [.ref a, .int (nI x.1), .int x.2] h (fun r h1 => r = none ∧ bs h1 a an ap limit (hi_bo limit L x) ∧ fr (bs_S a an ap) h h1) := by
  have B0 := B
  obtain ⟨fN, fP, B1, B2⟩ := B
  have n := bsF_ne B1
  have B1' := B1
  obtain ⟨b1, b2, b3, b4, b5, b6⟩ := B1
  refine Cn.of (own := RX0) rfl (by decide) (by exact Nat.le_of_ble_eq_true rfl) (by decide) (fun K hK C D I => ?_)
  have hp := hi_bp_le x L L.length
  generalize hpe : hi_bp x L L.length = p at hp
  -- the shift
  have shift : ∀ (c2 : Nat) (hc2 : c2 ≤ limit) (hc3 : p < c2) (hc4 : c2 ≤ L.length + 1) (hlen : ((L.take p ++ x :: L.drop p).take limit).length = c2), limit ≤ p ∨ hi_bo limit L x = (L.take p ++ x :: L.drop p).take limit → ∀ (m i : Nat) (h1 : jH) (gN gP : Nat → Int32), i = p + m → i < c2 → bsF h1 a an ap limit c2 gN gP → fr (bs_S a an ap) h h1 → (∀ j, j ≤ i → gN j = fN j ∧ gP j = fP j) → (∀ j, i < j → j < c2 → gN j = fN (j - 1) ∧ gP j = fP (j - 1)) → J K 0 0 65 (jv_l [(0, .ref a), (1, .int (nI x.1)), (2, .int x.2), (3, .int (nI p)), (4, .int (nI i))]) [] h1 := by
    intro c2 hc2 hc3 hc4 hlen hbo m
    induction m with
    | zero =>
      intro i h1 gN gP hi hic G F g1 g2
      have w := G.1
      refine J_iload C rfl dX0_offer_65 ?_
      refine J_iload_n C rfl dX0_offer_67 ?_
      refine J_nicmp_le C (by first | omega | (dsimp only; omega)) (by first | omega | (dsimp only; omega)) 99 (by decide) dX0_offer_68 (fun z1 => ?_) (fun z1 => ?_)
      · first | refine J_aload_n C rfl dX0_offer_99 ?_ | refine J_aload_nq C rfl dX0_offer_99 ?_ | refine J_aload_nN C rfl dX0_offer_99 ?_
        refine J_iload_n C rfl dX0_offer_100 ?_
        refine J_iload_n C rfl dX0_offer_101 ?_
        refine J_iload_n C rfl dX0_offer_102 ?_
        refine J_callV C (c_Best_set G p (by omega) (nI x.1) x.2) cw_X0_45 (by first | assumption | exact jv_up_at _ _ _ | (simp [jv_up, *]; done)) rfl rfl rfl rfl (by exact Nat.le_of_ble_eq_true rfl) (by decide) (by omega) (by omega) dX0_offer_103 ?_
        rintro _ h2 ⟨rfl, G2, F2⟩
        refine J_vret C D ⟨rfl, ?_, fr_tr F F2⟩ (by omega) (by omega) dX0_offer_106
        rw [hbo.resolve_left (by omega)]
        refine ⟨_, _, by rw [hlen]; exact G2, fun j z hz => ?_⟩
        have hj := (List.getElem?_eq_some_iff.mp hz).1
        rcases hi_bo_get (by omega) hz with ⟨q1, q2⟩ | ⟨q1, q2⟩ | ⟨q1, q2⟩
        · rw [pk_un (by omega), pk_un (by omega), (g1 j (by omega)).1, (g1 j (by omega)).2]
          exact B2 j z q2
        · rw [q1, pk_us, pk_us, q2]; exact ⟨rfl, rfl, hx⟩
        · rw [pk_un (by omega), pk_un (by omega), (g2 j (by omega) (by omega)).1, (g2 j (by omega) (by omega)).2]
          exact B2 (j - 1) z q2
      · omega
    | succ m ih =>
      intro i h1 gN gP hi hic G F g1 g2
      have w := G.1
      refine J_iload C rfl dX0_offer_65 ?_
      refine J_iload_n C rfl dX0_offer_67 ?_
      refine J_nicmp_le C (by first | omega | (dsimp only; omega)) (by first | omega | (dsimp only; omega)) 99 (by decide) dX0_offer_68 (fun z1 => ?_) (fun z1 => ?_)
      · omega
      · first | refine J_aload_n C rfl dX0_offer_71 ?_ | refine J_aload_nq C rfl dX0_offer_71 ?_ | refine J_aload_nN C rfl dX0_offer_71 ?_
        refine J_iload C rfl dX0_offer_72 ?_
        first | refine J_aload_n C rfl dX0_offer_74 ?_ | refine J_aload_nq C rfl dX0_offer_74 ?_ | refine J_aload_nN C rfl dX0_offer_74 ?_
        refine J_iload C rfl dX0_offer_75 ?_
        refine J_iconst C (v := nI 1) (by decide) dX0_offer_77 ?_
        first | refine J_nisub C (by omega) dX0_offer_78 ?_ | refine J_isub C dX0_offer_78 ?_
        refine J_callV C (c_Best_numberAt G (i - 1) (by omega)) cw_X0_38 (by first | assumption | exact jv_up_at _ _ _ | (simp [jv_up, *]; done)) rfl rfl rfl rfl (by exact Nat.le_of_ble_eq_true rfl) (by decide) (by omega) (by omega) dX0_offer_79 ?_
        rintro _ _ ⟨rfl, rfl⟩
        first | refine J_aload_n C rfl dX0_offer_82 ?_ | refine J_aload_nq C rfl dX0_offer_82 ?_ | refine J_aload_nN C rfl dX0_offer_82 ?_
        refine J_iload C rfl dX0_offer_83 ?_
        refine J_iconst C (v := nI 1) (by decide) dX0_offer_85 ?_
        first | refine J_nisub C (by omega) dX0_offer_86 ?_ | refine J_isub C dX0_offer_86 ?_
        refine J_callV C (c_Best_pointsAt G (i - 1) (by omega)) cw_X0_42 (by first | assumption | exact jv_up_at _ _ _ | (simp [jv_up, *]; done)) rfl rfl rfl rfl (by exact Nat.le_of_ble_eq_true rfl) (by decide) (by omega) (by omega) dX0_offer_87 ?_
        rintro _ _ ⟨rfl, rfl⟩
        refine J_callV C (c_Best_set G i (by omega) (gN (i - 1)) (gP (i - 1))) cw_X0_45 (by first | assumption | exact jv_up_at _ _ _ | (simp [jv_up, *]; done)) rfl rfl rfl rfl (by exact Nat.le_of_ble_eq_true rfl) (by decide) (by omega) (by omega) dX0_offer_90 ?_
        rintro _ h2 ⟨rfl, G2, F2⟩
        refine J_nidec C (a := i - 1) (by show some _ = some _; rw [show i = i - 1 + 1 by omega]; rfl) (by decide) dX0_offer_93 ?_
        refine J_goto C 65 (by decide) dX0_offer_96 ?_
        refine J_sub (by exact (And.intro rfl (And.intro rfl (And.intro rfl (And.intro rfl (And.intro rfl trivial)))))) (ih (i - 1) h2 _ _ (by omega) (by omega) G2 (fr_tr F F2) (fun j hj => ?_) (fun j hj hj2 => ?_))
        · rw [pk_un (by omega), pk_un (by omega)]; exact g1 j (by omega)
        · by_cases q : j = i
          · rw [q, pk_us, pk_us]; exact g1 (i - 1) (by omega)
          · rw [pk_un q, pk_un q]; exact g2 j (by omega) hj2
  have K27 : J K 0 0 27 (jv_l [(0, .ref a), (1, .int (nI x.1)), (2, .int x.2), (3, .int (nI p))]) [] h := by
    refine J_iload_n C rfl dX0_offer_27 ?_
    first | refine J_aload_n C rfl dX0_offer_28 ?_ | refine J_aload_nq C rfl dX0_offer_28 ?_ | refine J_aload_nN C rfl dX0_offer_28 ?_
    refine J_get C fl_X0_27 (by first | assumption | exact jv_up_at _ _ _ | (simp [jv_up, *]; done)) (by rfl) dX0_offer_29 ?_
    refine J_nicmp_lt C (by first | omega | (dsimp only; omega)) (by first | omega | (dsimp only; omega)) 36 (by decide) dX0_offer_32 (fun z1 => ?_) (fun z1 => ?_)
    · have hbo : hi_bo limit L x = (L.take p ++ x :: L.drop p).take limit := by unfold hi_bo; rw [hpe, if_neg (by omega)]
      first | refine J_aload_n C rfl dX0_offer_36 ?_ | refine J_aload_nq C rfl dX0_offer_36 ?_ | refine J_aload_nN C rfl dX0_offer_36 ?_
      refine J_get C fl_X0_31 (by first | assumption | exact jv_up_at _ _ _ | (simp [jv_up, *]; done)) (by rfl) dX0_offer_37 ?_
      first | refine J_aload_n C rfl dX0_offer_40 ?_ | refine J_aload_nq C rfl dX0_offer_40 ?_ | refine J_aload_nN C rfl dX0_offer_40 ?_
      refine J_get C fl_X0_27 (by first | assumption | exact jv_up_at _ _ _ | (simp [jv_up, *]; done)) (by rfl) dX0_offer_41 ?_
      refine J_nicmp_ge C (by first | omega | (dsimp only; omega)) (by first | omega | (dsimp only; omega)) 57 (by decide) dX0_offer_44 (fun z2 => ?_) (fun z2 => ?_)
      · first | refine J_aload_n C rfl dX0_offer_57 ?_ | refine J_aload_nq C rfl dX0_offer_57 ?_ | refine J_aload_nN C rfl dX0_offer_57 ?_
        refine J_get C fl_X0_31 (by first | assumption | exact jv_up_at _ _ _ | (simp [jv_up, *]; done)) (by rfl) dX0_offer_58 ?_
        refine J_iconst C (v := nI 1) (by decide) dX0_offer_61 ?_
        first | refine J_nisub C (by omega) dX0_offer_62 ?_ | refine J_isub C dX0_offer_62 ?_
        refine J_istore C (by decide) dX0_offer_63 ?_
        have hlen : ((L.take p ++ x :: L.drop p).take limit).length = L.length := by
          rw [List.length_take, List.length_append, List.length_cons, List.length_take, List.length_drop]; omega
        refine J_sub (by exact (And.intro rfl (And.intro rfl (And.intro rfl (And.intro rfl (And.intro rfl trivial)))))) (shift L.length b5 (by omega) (by omega) hlen (Or.inr hbo) (L.length - 1 - p) (L.length - 1) h fN fP (by omega) (by omega) B1' (fr_rf _ _) (fun _ _ => ⟨rfl, rfl⟩) (fun j q1 q2 => by omega))
      · first | refine J_aload_n C rfl dX0_offer_47 ?_ | refine J_aload_nq C rfl dX0_offer_47 ?_ | refine J_aload_nN C rfl dX0_offer_47 ?_
        refine J_dup C rfl dX0_offer_48 ?_
        refine J_get C fl_X0_31 (by first | assumption | exact jv_up_at _ _ _ | (simp [jv_up, *]; done)) (by rfl) dX0_offer_49 ?_
        refine J_iconst C (v := nI 1) (by decide) dX0_offer_52 ?_
        first | refine J_niadd C dX0_offer_53 ?_ | refine J_iadd C dX0_offer_53 ?_
        refine J_put C fl_X0_31 (by first | assumption | exact jv_up_at _ _ _ | (simp [jv_up, *]; done)) (by exact Nat.le_of_ble_eq_true rfl) (by rfl) (by rfl) dX0_offer_54 ?_
        simp only [List.set]
        first | refine J_aload_n C rfl dX0_offer_57 ?_ | refine J_aload_nq C rfl dX0_offer_57 ?_ | refine J_aload_nN C rfl dX0_offer_57 ?_
        refine J_get C fl_X0_31 (by first | assumption | exact jv_up_at _ _ _ | (simp [jv_up, *]; done)) (by rfl) dX0_offer_58 ?_
        refine J_iconst C (v := nI 1) (by decide) dX0_offer_61 ?_
        first | refine J_nisub C (by omega) dX0_offer_62 ?_ | refine J_isub C dX0_offer_62 ?_
        refine J_istore C (by decide) dX0_offer_63 ?_
        have hlen : ((L.take p ++ x :: L.drop p).take limit).length = L.length + 1 := by
          rw [List.length_take, List.length_append, List.length_cons, List.length_take, List.length_drop]; omega
        refine J_sub (by exact (And.intro rfl (And.intro rfl (And.intro rfl (And.intro rfl (And.intro rfl trivial)))))) (shift (L.length + 1) (by omega) (by omega) (by omega) hlen (Or.inr hbo) (L.length - p) (L.length + 1 - 1) _ fN fP (by omega) (by omega) ⟨jv_up_at _ _ _, jv_up_of n.1 b2, jv_up_of n.2 b3, b4, by omega, b6⟩ (fr_up (Or.inl rfl)) (fun _ _ => ⟨rfl, rfl⟩) (fun j q1 q2 => by omega))
    · skip
      refine J_vret C D ⟨rfl, by unfold hi_bo; rw [hpe, if_pos z1]; exact B0, fr_rf _ _⟩ (by omega) (by omega) dX0_offer_35
  have down : ∀ i : Nat, i ≤ L.length → hi_bp x L i = p → J K 0 0 5 (jv_l [(0, .ref a), (1, .int (nI x.1)), (2, .int x.2), (3, .int (nI i))]) [] h := by
    intro i
    induction i with
    | zero =>
      intro hi he
      have he : 0 = p := he
      subst he
      refine J_iload_n C rfl dX0_offer_5 ?_
      refine J_nif_le C (by decide) 27 (by decide) dX0_offer_6 (fun z1 => ?_) (fun z1 => ?_)
      · refine J_sub (by exact (And.intro rfl (And.intro rfl (And.intro rfl (And.intro rfl trivial))))) (K27)
      · exact absurd z1 (Nat.lt_irrefl 0)
    | succ i ih =>
      intro hi he
      refine J_iload_n C rfl dX0_offer_5 ?_
      refine J_nif_le C (by omega) 27 (by decide) dX0_offer_6 (fun z1 => ?_) (fun z1 => ?_)
      · exact absurd z1 (Nat.succ_ne_zero i)
      · have hLi : L[i]? = some (L.getD i (0, 0)) := by rw [List.getD_eq_getElem?_getD, List.getElem?_eq_getElem (by omega)]; rfl
        have hb := B2 i _ hLi
        first | refine J_aload_n C rfl dX0_offer_9 ?_ | refine J_aload_nq C rfl dX0_offer_9 ?_ | refine J_aload_nN C rfl dX0_offer_9 ?_
        refine J_iload_n C rfl dX0_offer_10 ?_
        refine J_iconst C (v := nI 1) (by decide) dX0_offer_11 ?_
        refine J_nisub C (by omega) dX0_offer_12 ?_
        refine J_iload_n C rfl dX0_offer_13 ?_
        refine J_iload_n C rfl dX0_offer_14 ?_
        refine J_callV C (c_Best_goesBefore B1' i (by omega) x (L.getD i (0, 0)) hx hb.2.2 hb.1 hb.2.1) cw_X0_34 (by first | assumption | exact jv_up_at _ _ _ | (simp [jv_up, *]; done)) rfl rfl rfl rfl (by exact Nat.le_of_ble_eq_true rfl) (by decide) (by omega) (by omega) dX0_offer_15 ?_
        rintro _ _ ⟨rfl, rfl⟩
        unfold hi_bp at he
        refine J_bif_eq C 27 (by decide) dX0_offer_18 (fun z2 => ?_) (fun z2 => ?_)
        · rw [z2] at he
          have he : i + 1 = p := he
          rw [he]
          refine J_sub (by exact (And.intro rfl (And.intro rfl (And.intro rfl (And.intro rfl trivial))))) (K27)
        · rw [z2] at he
          refine J_nidec C (a := i) rfl (by decide) dX0_offer_21 ?_
          refine J_goto C 5 (by decide) dX0_offer_24 ?_
          refine J_sub (by exact (And.intro rfl (And.intro rfl (And.intro rfl (And.intro rfl trivial))))) (ih (by omega) he)
  first | refine J_aload_n C rfl dX0_offer_0 ?_ | refine J_aload_nq C rfl dX0_offer_0 ?_ | refine J_aload_nN C rfl dX0_offer_0 ?_
  refine J_get C fl_X0_31 (by first | assumption | exact jv_up_at _ _ _ | (simp [jv_up, *]; done)) (by rfl) dX0_offer_1 ?_
  refine J_istore_n C (by decide) dX0_offer_4 ?_
  refine J_sub (by exact (And.intro rfl (And.intro rfl (And.intro rfl (And.intro rfl trivial))))) (down L.length (Nat.le_refl _) hpe)
end OFFER2
