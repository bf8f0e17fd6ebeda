/-! the model: know -/
def cntP (md : dsT) (d : Nat) (ws : List Int64) (k : Nat) (w : Int64) : Nat := dsH (md.take d) w + if w ∈ ws.take k then 1 else 0
def known (N : Nat → Nat → Int32) (Q : Nat → Nat → Int64) (md : dsT) : Prop :=
  (∃ c Ws, (∀ k, k < 32768 → N 26 k = nI (c k)) ∧ hT (Q 25) c Ws ∧ ∀ w, hC (Q 25) c w (dsH md w)) ∧ ∀ d p, md[d]? = some p → ∀ k u, p.2[k]? = some u → N 23 (200 * d + k) = jv_b (decide (u ∉ p.2.take k)) ∧ (u ∉ p.2.take k → N 24 (200 * d + k) = nI (sp_rar md.length (dsH md u) * sp_imp (p.2.count u) p.2.length))
def mdKn (g : Nat → Int32) (N : Nat → Nat → Int32) (Q : Nat → Nat → Int64) (md : dsT) : Prop := g 22 = jv_b false ∨ (g 22 = jv_b true ∧ known N Q md)
theorem mdD_congr {g g' : Nat → Int32} {N N' : Nat → Nat → Int32} {Q Q' : Nat → Nat → Int64} {md : dsT} (D : mdD g N Q md) (e1 : g' 3 = g 3) (e2 : N' 4 = N 4) (e3 : N' 5 = N 5) (e4 : Q' 6 = Q 6) : mdD g' N' Q' md := by
  unfold mdD at D ⊢
  rw [e1, e2, e3, e4]
  exact D
theorem dsH_le (md : dsT) (w : Int64) : dsH md w ≤ md.length := List.countP_le_length
theorem hc_le {V : Nat → Int64} {c : Nat → Nat} {Ws : List Int64} (H : hT V c Ws) {n : Int64 → Nat} (C : ∀ w, hC V c w (n w)) {b : Nat} (hb : ∀ w, n w ≤ b) (s : Nat) (hs : s < 32768) : c s ≤ b := by
  by_cases c0 : c s = 0
  · omega
  · rcases C (V s) with ⟨k, hk, k1, k2, k3⟩ | ⟨k1, k2⟩
    · have := H.2.1 k s hk hs k1 c0 k2
      rw [this] at k3
      rw [k3]; exact hb _
    · exact absurd rfl (k1 s hs c0)
section KNOW
variable {l : jL} {h : jH} {m : Nat} {A : Nat → Nat} {g : Nat → Int32} {N : Nat → Nat → Int32} {Q : Nat → Nat → Int64} {md : dsT}
theorem c_M_isFirst (M : mdl h m A g N Q) (D9 : mdD g N Q md) {d k : Nat} {p : Nat × List Int64} {u : Int64} (hd : md[d]? = some p) (hk : p.2[k]? = some u) : Cn l yX12_isFirst cX12_isFirst 5 (some .boolean) 1 0 0 [.ref m, .int (nI d), .int (nI k)] h (fun r h1 => r = some (.int (jv_b (decide (u ∉ p.2.take k)))) ∧ h1 = h) := by
  have m1 := M.1
  have a6 := M.2.1 6 _ rfl
  obtain ⟨t1, t2, t3⟩ := D9
  obtain ⟨p1, p2, p3, p4, p5⟩ := t3 d p hd
  have hdl := (List.getElem?_eq_some_iff.mp hd).1
  have hkl := (List.getElem?_eq_some_iff.mp hk).1
  have hku := p5 k u hk
  refine Cn.of (own := RX12) rfl (by decide) (by exact Nat.le_of_ble_eq_true rfl) (by decide) (fun K hK C D _ => ?_)
  have loop : ∀ (n j : Nat) (b : Bool), j + n = k → b = decide (u ∉ p.2.take j) → J K 0 0 5 (jv_l [(4, .int (nI j)), (3, .int (jv_b b)), (2, .int (nI k)), (1, .int (nI d)), (0, .ref m)]) [] h := by
    intro n
    induction n with
    | zero =>
      intro j b hj hb
      have hj : j = k := hj
      refine J_iload C rfl dX12_isFirst_5 ?_
      refine J_iload_n C rfl dX12_isFirst_7 ?_
      refine J_nicmp_ge C (by first | omega | (dsimp only; omega)) (by first | omega | (dsimp only; omega)) 56 (by decide) dX12_isFirst_8 (fun z => ?_) (fun z => ?_)
      · refine J_iload_n C rfl dX12_isFirst_56 ?_
        refine J_zret C D (by cases b <;> first | exact Or.inl rfl | exact Or.inr rfl) ⟨by rw [hb, hj], rfl⟩ (by omega) (by omega) dX12_isFirst_57
      · omega
    | succ n ih =>
      intro j b hj hb
      have hx := List.getElem?_eq_getElem (l := p.2) (i := j) (by omega)
      generalize p.2[j]'(by omega) = v at hx
      have hv := p5 j v hx
      have ht : p.2.take (j + 1) = p.2.take j ++ [v] := by rw [List.take_add_one, hx]; rfl
      have hm : (u ∉ p.2.take (j + 1)) ↔ u ∉ p.2.take j ∧ v ≠ u := by
        rw [ht, List.mem_append, List.mem_singleton, not_or]
        exact ⟨fun z => ⟨z.1, fun e => z.2 e.symm⟩, fun z => ⟨z.1, fun e => z.2 e.symm⟩⟩
      refine J_iload C rfl dX12_isFirst_5 ?_
      refine J_iload_n C rfl dX12_isFirst_7 ?_
      refine J_nicmp_ge C (by first | omega | (dsimp only; omega)) (by first | omega | (dsimp only; omega)) 56 (by decide) dX12_isFirst_8 (fun z => ?_) (fun z => ?_)
      · omega
      · refine J_iload_n C rfl dX12_isFirst_11 ?_
        have K48 : ¬ (u ∉ p.2.take (j + 1)) → J K 0 0 48 (jv_l [(4, .int (nI j)), (2, .int (nI k)), (1, .int (nI d)), (0, .ref m)]) [] h := by
          intro hn
          refine J_iconst C (v := nI 0) (by decide) dX12_isFirst_48 ?_
          refine J_istore_n C (by decide) dX12_isFirst_49 ?_
          first | refine J_niinc (b := 1) C rfl (by decide) dX12_isFirst_50 ?_ | refine J_iinc C rfl (by decide) dX12_isFirst_50 ?_
          refine J_goto C 5 (by decide) dX12_isFirst_53 ?_
          refine J_sub (by exact (And.intro rfl (And.intro rfl (And.intro rfl (And.intro rfl (And.intro rfl trivial)))))) (ih (j + 1) false (by omega) (decide_eq_false hn).symm)
        refine J_bif_eq C 48 (by decide) dX12_isFirst_12 (fun z1 => ?_) (fun z1 => ?_)
        · have : ¬ u ∉ p.2.take j := of_decide_eq_false (hb.symm.trans z1)
          refine J_sub (by exact (And.intro rfl (And.intro rfl (And.intro rfl (And.intro rfl trivial))))) (K48 (fun q => this (hm.mp q).1))
        · have z2 : u ∉ p.2.take j := of_decide_eq_true (hb.symm.trans z1)
          first | refine J_aload_n C rfl dX12_isFirst_15 ?_ | refine J_aload_nq C rfl dX12_isFirst_15 ?_ | refine J_aload_nN C rfl dX12_isFirst_15 ?_
          refine J_get C fl_X12_19 (by first | assumption | exact jv_up_at _ _ _ | (simp [jv_up, *]; done)) (by rfl) dX12_isFirst_16 ?_
          refine J_sipush C (v := nI 200) (by decide) dX12_isFirst_19 ?_
          refine J_iload_n C rfl dX12_isFirst_22 ?_
          first | refine J_nimul C dX12_isFirst_23 ?_ | refine J_imul C dX12_isFirst_23 ?_
          refine J_iload C rfl dX12_isFirst_24 ?_
          first | refine J_niadd C dX12_isFirst_26 ?_ | refine J_iadd C dX12_isFirst_26 ?_
          refine J_lald C (by first | assumption | exact jv_up_at _ _ _ | (simp [jv_up, *]; done)) rfl (by omega) (by omega) dX12_isFirst_27 ?_
          rw [hv]
          first | refine J_aload_n C rfl dX12_isFirst_28 ?_ | refine J_aload_nq C rfl dX12_isFirst_28 ?_ | refine J_aload_nN C rfl dX12_isFirst_28 ?_
          refine J_get C fl_X12_19 (by first | assumption | exact jv_up_at _ _ _ | (simp [jv_up, *]; done)) (by rfl) dX12_isFirst_29 ?_
          refine J_sipush C (v := nI 200) (by decide) dX12_isFirst_32 ?_
          refine J_iload_n C rfl dX12_isFirst_35 ?_
          first | refine J_nimul C dX12_isFirst_36 ?_ | refine J_imul C dX12_isFirst_36 ?_
          refine J_iload_n C rfl dX12_isFirst_37 ?_
          first | refine J_niadd C dX12_isFirst_38 ?_ | refine J_iadd C dX12_isFirst_38 ?_
          refine J_lald C (by first | assumption | exact jv_up_at _ _ _ | (simp [jv_up, *]; done)) rfl (by omega) (by omega) dX12_isFirst_39 ?_
          rw [hku]
          refine J_lcmp C dX12_isFirst_40 ?_
          refine J_if_eq C 48 (by decide) dX12_isFirst_41 (fun z3 => ?_) (fun z3 => ?_)
          · refine J_sub (by exact (And.intro rfl (And.intro rfl (And.intro rfl (And.intro rfl trivial))))) (K48 (fun q => (hm.mp q).2 ((lg_cmp_eq _ _).mp z3)))
          · refine J_iconst C (v := nI 1) (by decide) dX12_isFirst_44 ?_
            refine J_goto C 49 (by decide) dX12_isFirst_45 ?_
            refine J_istore_n C (by decide) dX12_isFirst_49 ?_
            first | refine J_niinc (b := 1) C rfl (by decide) dX12_isFirst_50 ?_ | refine J_iinc C rfl (by decide) dX12_isFirst_50 ?_
            refine J_goto C 5 (by decide) dX12_isFirst_53 ?_
            refine J_sub (by exact (And.intro rfl (And.intro rfl (And.intro rfl (And.intro rfl (And.intro rfl trivial)))))) (ih (j + 1) true (by omega) (decide_eq_true (hm.mpr ⟨z2, fun e => z3 ((lg_cmp_eq _ _).mpr e)⟩)).symm)
  refine J_iconst C (v := nI 1) (by decide) dX12_isFirst_0 ?_
  refine J_istore_n C (by decide) dX12_isFirst_1 ?_
  refine J_iconst C (v := nI 0) (by decide) dX12_isFirst_2 ?_
  refine J_istore C (by decide) dX12_isFirst_3 ?_
  refine J_sub (by exact (And.intro rfl (And.intro rfl (And.intro rfl (And.intro rfl (And.intro rfl trivial)))))) (loop k 0 true (by omega) rfl)
theorem c_M_spot (M : mdl h m A g N Q) {c : Nat → Nat} {Ws : List Int64} (Hc : ∀ k, k < 32768 → N 26 k = nI (c k)) (Hb : ∀ k, k < 32768 → c k ≤ 1000) (H : hT (Q 25) c Ws) (w : Int64) : Cn l yX12_spot cX12_spot 4 (some .int) 1 0 0 [.ref m, .long w] h (fun r h1 => h1 = h ∧ ∃ s, s < 32768 ∧ r = some (.int (nI s)) ∧ hP (Q 25) c w s) := by
  have m1 := M.1
  have a25 := M.2.1 25 _ rfl
  have a26 := M.2.1 26 _ rfl
  obtain ⟨z0, hz0, hz1⟩ := hT_free H
  obtain ⟨iz, hiz, ez⟩ := pr_on w z0 hz0
  refine Cn.of (own := RX12) rfl (by decide) (by exact Nat.le_of_ble_eq_true rfl) (by decide) (fun K hK C D _ => ?_)
  have loop : ∀ (n i : Nat) (x : Int32), i + n = iz → x = nI (pr w i) → (∀ j, j < i → c (pr w j) ≠ 0 ∧ Q 25 (pr w j) ≠ w) → J K 0 0 17 (jv_l [(3, .int x), (1, .long w), (0, .ref m)]) [] h := by
    intro n
    induction n with
    | zero =>
      intro i x hi hx hj
      have hi : i = iz := hi
      subst hx
      have hc := Hc (pr w i) (pr_lt w i)
      have c0 : c (pr w i) = 0 := by rw [hi, ez]; exact hz1
      rw [c0] at hc
      have hpl := pr_lt w i
      first | refine J_aload_n C rfl dX12_spot_17 ?_ | refine J_aload_nq C rfl dX12_spot_17 ?_ | refine J_aload_nN C rfl dX12_spot_17 ?_
      refine J_get C fl_X12_65 (by first | assumption | exact jv_up_at _ _ _ | (simp [jv_up, *]; done)) (by rfl) dX12_spot_18 ?_
      refine J_iload_n C rfl dX12_spot_21 ?_
      refine J_iald C (by first | assumption | exact jv_up_at _ _ _ | (simp [jv_up, *]; done)) rfl (by omega) (by omega) dX12_spot_22 ?_
      rw [hc]
      refine J_nif_le C (by first | omega | (dsimp only; omega)) 48 (by decide) dX12_spot_23 (fun z => ?_) (fun z => ?_)
      · refine J_iload_n C rfl dX12_spot_48 ?_
        refine J_iret C D ⟨rfl, _, pr_lt w i, rfl, i, by omega, rfl, hj, Or.inl c0⟩ (by omega) (by omega) dX12_spot_49
      · exact absurd z (Nat.lt_irrefl 0)
    | succ n ih =>
      intro i x hi hx hj
      subst hx
      have hc := Hc (pr w i) (pr_lt w i)
      have hb := Hb (pr w i) (pr_lt w i)
      have hpl := pr_lt w i
      first | refine J_aload_n C rfl dX12_spot_17 ?_ | refine J_aload_nq C rfl dX12_spot_17 ?_ | refine J_aload_nN C rfl dX12_spot_17 ?_
      refine J_get C fl_X12_65 (by first | assumption | exact jv_up_at _ _ _ | (simp [jv_up, *]; done)) (by rfl) dX12_spot_18 ?_
      refine J_iload_n C rfl dX12_spot_21 ?_
      refine J_iald C (by first | assumption | exact jv_up_at _ _ _ | (simp [jv_up, *]; done)) rfl (by omega) (by omega) dX12_spot_22 ?_
      rw [hc]
      refine J_nif_le C (by first | omega | (dsimp only; omega)) 48 (by decide) dX12_spot_23 (fun z => ?_) (fun z => ?_)
      · refine J_iload_n C rfl dX12_spot_48 ?_
        refine J_iret C D ⟨rfl, _, pr_lt w i, rfl, i, by omega, rfl, hj, Or.inl (by omega)⟩ (by omega) (by omega) dX12_spot_49
      · first | refine J_aload_n C rfl dX12_spot_26 ?_ | refine J_aload_nq C rfl dX12_spot_26 ?_ | refine J_aload_nN C rfl dX12_spot_26 ?_
        refine J_get C fl_X12_62 (by first | assumption | exact jv_up_at _ _ _ | (simp [jv_up, *]; done)) (by rfl) dX12_spot_27 ?_
        refine J_iload_n C rfl dX12_spot_30 ?_
        refine J_lald C (by first | assumption | exact jv_up_at _ _ _ | (simp [jv_up, *]; done)) rfl (by omega) (by omega) dX12_spot_31 ?_
        refine J_lload_n C rfl dX12_spot_32 ?_
        refine J_lcmp C dX12_spot_33 ?_
        refine J_if_eq C 48 (by decide) dX12_spot_34 (fun z3 => ?_) (fun z3 => ?_)
        · refine J_iload_n C rfl dX12_spot_48 ?_
          refine J_iret C D ⟨rfl, _, pr_lt w i, rfl, i, by omega, rfl, hj, Or.inr ((lg_cmp_eq _ _).mp z3)⟩ (by omega) (by omega) dX12_spot_49
        · have he : nI (pr w i + 1) &&& nI 32767 = nI (pr w (i + 1)) := by
            rw [and_767 _ (by omega)]
            congr 1
            unfold pr
            omega
          refine J_iload_n C rfl dX12_spot_37 ?_
          refine J_iconst C (v := nI 1) (by decide) dX12_spot_38 ?_
          first | refine J_niadd C dX12_spot_39 ?_ | refine J_iadd C dX12_spot_39 ?_
          refine J_sipush C (v := nI 32767) (by decide) dX12_spot_40 ?_
          refine J_iand C dX12_spot_43 ?_
          refine J_istore_n C (by decide) dX12_spot_44 ?_
          refine J_goto C 17 (by decide) dX12_spot_45 ?_
          refine J_sub (by exact (And.intro rfl (And.intro rfl (And.intro rfl trivial)))) (ih (i + 1) _ (by omega) he (fun j hj2 => (Nat.lt_succ_iff_lt_or_eq.mp hj2).elim (hj j) (fun e => e ▸ ⟨by omega, fun e => z3 ((lg_cmp_eq _ _).mpr e)⟩)))
  refine J_lload_n C rfl dX12_spot_0 ?_
  refine J_lload_n C rfl dX12_spot_1 ?_
  refine J_bipush C (v := nI 17) (by decide) dX12_spot_2 ?_
  refine J_lushr C dX12_spot_4 ?_
  refine J_lxor C dX12_spot_5 ?_
  refine J_lload_n C rfl dX12_spot_6 ?_
  refine J_bipush C (v := nI 37) (by decide) dX12_spot_7 ?_
  refine J_lushr C dX12_spot_9 ?_
  refine J_lxor C dX12_spot_10 ?_
  refine J_ldc2 C kl_X12_92 dX12_spot_11 ?_
  refine J_land C dX12_spot_14 ?_
  refine J_l2i C dX12_spot_15 ?_
  refine J_istore_n C (by decide) dX12_spot_16 ?_
  refine J_sub (by exact (And.intro rfl (And.intro rfl (And.intro rfl trivial)))) (loop iz 0 _ (by omega) (by have := (mhN_is w); rw [show pr w 0 = mhN w from by unfold pr; omega]; exact this.2) (fun j hj => absurd hj (Nat.not_lt_zero j)))
end KNOW
