/-! Search: suiting and resembling -/
abbrev sbit (i : Nat) : Int32 := nI 1 <<< (nI i &&& 31)
/-- the terms one after the other: documents, and the bits that are needed -/
def srQ (F : Nat → srT → srT) (p : srT) : Nat → srT
  | 0 => p
  | i + 1 => F i (srQ F p i)
def srN (tv : Nat → tmT) : Nat → Int32
  | 0 => 0
  | i + 1 => if (tv i).1 then srN tv i ||| sbit i else srN tv i
theorem qy_up {h h1 : jH} {a ta : Nat} {tt : Nat → Nat} {cur fk : Nat} {fp : Int32} {s : qsT} (Y : qy h a ta tt cur fk fp s) (e : ∀ y : Nat, (∀ (c : Nat) (fs : List Value), h y = some (.inr (c, fs)) → c = 5 ∨ c = 8) → (∃ z, h y = some z) → h1 y = h y) : qy h1 a ta tt cur fk fp s := by
  obtain ⟨y1, ⟨f, y2, y3⟩, y4, y5⟩ := Y
  refine ⟨(e a (fun c fs z => ?_) ⟨_, y1⟩).trans y1, ⟨f, (e ta (fun c fs z => ?_) ⟨_, y2⟩).trans y2, y3⟩, fun i hi => (e _ (fun c fs z => ?_) ⟨_, y4 i hi⟩).trans (y4 i hi), y5⟩
  · rw [y1] at z; cases z; exact Or.inl rfl
  · rw [y2] at z; cases z
  · rw [y4 i hi] at z; cases z; exact Or.inr rfl
section SUIT
variable {l : jL} {h h1 : jH} {b da dd dc x xa xd xc s a an ap lim q ta cur fk : Nat} {tt : Nat → Nat} {fp : Int32} {qs : qsT} {DL W SW SP M : List Nat} {lt : Nat → Int64} {num len : Nat → Nat} {PD QW : Nat → List Nat} {tot : Nat → Nat} {tm pa : Nat → Nat → Nat} {nx : Nat → Nat → Option Nat} {fi : Nat → Option Nat} {sf : Nat → sfT} {n : Nat} {nd : Int32} {st : Nat → Bool × Int32 × Int32} {L : List hiT}
/-- what a search does not touch -/
theorem srP_up (G : gD h DL num len fi sf) (s1 : h s = some (srO M[0]? nd)) (F : fr (fun y => y = s ∨ y ∈ DL) h h1) {y : Nat} (hc : ∀ (c : Nat) (fs : List Value), h y = some (.inr (c, fs)) → c ≠ 6 ∧ c ≠ 1) (he : ∃ z, h y = some z) : h1 y = h y := by
  refine F y (fun z => ?_)
  rcases z with z | z
  · subst z
    exact (hc _ _ s1).1 rfl
  · exact (hc _ _ (G y z)).2 rfl
theorem srP_bs (G : gD h DL num len fi sf) (s1 : h s = some (srO M[0]? nd)) (F : fr (fun y => y = s ∨ y ∈ DL) h h1) (B : bs h a an ap lim L) : bs h1 a an ap lim L := by
  refine bs_up B (fun y hy => F y (fun z => ?_))
  rcases z with z | z
  · exact bs_no B s1 (by decide) (z ▸ hy)
  · exact bs_no B (G y z) (by decide) hy
theorem srP_qy (G : gD h DL num len fi sf) (s1 : h s = some (srO M[0]? nd)) (F : fr (fun y => y = s ∨ y ∈ DL) h h1) (Y : qy h q ta tt cur fk fp qs) : qy h1 q ta tt cur fk fp qs :=
  qy_up Y (fun _ hy he => srP_up G s1 F (fun c fs z => (hy c fs z).elim (fun e => e ▸ ⟨by decide, by decide⟩) (fun e => e ▸ ⟨by decide, by decide⟩)) he)
set_option maxHeartbeats 1000000 in
theorem c_Search_suiting (B : lib0 l h b da dd dc x xa xd xc DL W SW SP lt num len PD QW tot tm pa nx fi sf n) (S : sm h s M nd DL sf st) (Y : qy h q ta tt cur fk fp qs) (BB : bs h a an ap lim L) (ht : ∀ w ∈ W, ∀ d ∈ PD w, tm w d ≤ 1000 ∧ len d ≤ 1000) (hpd : ∀ w ∈ W, (PD w).length ≤ 60000) (hnm : ∀ d ∈ DL, num d < 10000) : Cn l yX7_suiting cX7_suiting 6 none 7 0 0 [.ref s, .ref q, .ref b, .ref a] h (fun r h1 => r = none ∧
    hvP h s a an ap lim (srQ (fun i => srF DL.length W lt PD (fun w d => sp_imp (tm w d) (len d)) (qs.2.2 i) (sbit i)) (M, st) qs.1).1 (srN qs.2.2 qs.1) DL num len fi (srQ (fun i => srF DL.length W lt PD (fun w d => sp_imp (tm w d) (len d)) (qs.2.2 i) (sbit i)) (M, st) qs.1).2 L h1) := by
  have s1 := S.1
  have G := B.2.2.2.2.2.2.1
  have hq := Y.1
  have hc16 := Y.2.2.2.2.1
  refine Cn.of (own := RX7) rfl (by decide) (by exact Nat.le_of_ble_eq_true rfl) (by decide) (fun K hK C D I => ?_)
  generalize hF : (fun i => srF DL.length W lt PD (fun w d => sp_imp (tm w d) (len d)) (qs.2.2 i) (sbit i)) = FW at *
  have loop : ∀ (m i : Nat) (h' : jH), i + m = qs.1 → srP h s (srN qs.2.2 i) DL num len fi (srQ FW (M, st) i) h' → J K 0 0 8 (jv_l [(4, .int (nI i)), (3, .ref a), (2, .ref b), (1, .ref q), (0, .ref s)]) [] h' := by
    intro m
    induction m with
    | zero =>
      intro i h' hi P
      obtain ⟨F, sf1, S1, G1⟩ := P
      have s11 := S1.1
      have Y1 := srP_qy G s1 F Y
      have hq1 := Y1.1
      have hie : i = qs.1 := hi
      subst hie
      refine J_iload C rfl dX7_suiting_8 ?_
      first | refine J_aload_n C rfl dX7_suiting_10 ?_ | refine J_aload_nq C rfl dX7_suiting_10 ?_ | refine J_aload_nN C rfl dX7_suiting_10 ?_
      refine J_get C fl_X7_15 (by first | assumption | exact jv_up_at _ _ _ | (simp [jv_up, *]; done)) (by rfl) dX7_suiting_11 ?_
      refine J_nicmp_ge C (by first | omega | (dsimp only; omega)) (by first | omega | (dsimp only; omega)) 47 (by decide) dX7_suiting_14 (fun z => ?_) (fun z => ?_)
      · first | refine J_aload_n C rfl dX7_suiting_47 ?_ | refine J_aload_nq C rfl dX7_suiting_47 ?_ | refine J_aload_nN C rfl dX7_suiting_47 ?_
        first | refine J_aload_n C rfl dX7_suiting_48 ?_ | refine J_aload_nq C rfl dX7_suiting_48 ?_ | refine J_aload_nN C rfl dX7_suiting_48 ?_
        refine J_callV C (c_Search_harvest S1 G1 (srP_bs G s1 F BB) hnm) cw_X7_28 (by first | assumption | exact jv_up_at _ _ _ | (simp [jv_up, *]; done)) rfl rfl rfl rfl (by exact Nat.le_of_ble_eq_true rfl) (by decide) (by omega) (by omega) dX7_suiting_49 ?_
        rintro _ h2 ⟨rfl, F2, P2⟩
        refine J_vret C D ⟨rfl, fr_tr (fr_mono F (fun y hy => hy.elim Or.inl (fun z => Or.inr (Or.inl z)))) F2, P2⟩ (by omega) (by omega) dX7_suiting_52
      · omega
    | succ m ih =>
      intro i h' hi P
      obtain ⟨F, sf1, S1, G1⟩ := P
      have s11 := S1.1
      have B1 := lib0_srch B s1 G1 F
      have Y1 := srP_qy G s1 F Y
      have hq1 := Y1.1
      rw [← hK] at B1
      refine J_iload C rfl dX7_suiting_8 ?_
      first | refine J_aload_n C rfl dX7_suiting_10 ?_ | refine J_aload_nq C rfl dX7_suiting_10 ?_ | refine J_aload_nN C rfl dX7_suiting_10 ?_
      refine J_get C fl_X7_15 (by first | assumption | exact jv_up_at _ _ _ | (simp [jv_up, *]; done)) (by rfl) dX7_suiting_11 ?_
      refine J_nicmp_ge C (by first | omega | (dsimp only; omega)) (by first | omega | (dsimp only; omega)) 47 (by decide) dX7_suiting_14 (fun z => ?_) (fun z => ?_)
      · omega
      · first | refine J_aload_n C rfl dX7_suiting_17 ?_ | refine J_aload_nq C rfl dX7_suiting_17 ?_ | refine J_aload_nN C rfl dX7_suiting_17 ?_
        refine J_iload C rfl dX7_suiting_18 ?_
        refine J_callV C (c_Query_termAt Y1 i (by omega)) cw_X7_20 (by first | assumption | exact jv_up_at _ _ _ | (simp [jv_up, *]; done)) rfl rfl rfl rfl (by exact Nat.le_of_ble_eq_true rfl) (by decide) (by omega) (by omega) dX7_suiting_20 ?_
        rintro _ h9 ⟨rfl, e9⟩
        replace e9 := e9.symm
        subst e9
        rw [if_pos (by omega)]
        first | refine J_astoreq C (by decide) dX7_suiting_23 ?_ | refine J_astore C (by decide) dX7_suiting_23 ?_ | refine J_astoreN C (by decide) dX7_suiting_23 ?_
        first | refine J_aload C rfl dX7_suiting_25 ?_ | refine J_aloadq C rfl dX7_suiting_25 ?_ | refine J_aloadN C rfl dX7_suiting_25 ?_
        refine J_ifnull (x := some (tt i)) C 41 (by decide) dX7_suiting_27 (fun z => by cases z) (fun _ _ => ?_)
        first | refine J_aload_n C rfl dX7_suiting_30 ?_ | refine J_aload_nq C rfl dX7_suiting_30 ?_ | refine J_aload_nN C rfl dX7_suiting_30 ?_
        first | refine J_aload C rfl dX7_suiting_31 ?_ | refine J_aloadq C rfl dX7_suiting_31 ?_ | refine J_aloadN C rfl dX7_suiting_31 ?_
        refine J_iconst C (v := nI 1) (by decide) dX7_suiting_33 ?_
        refine J_iload C rfl dX7_suiting_34 ?_
        refine J_ishl C dX7_suiting_36 ?_
        first | refine J_aload_n C rfl dX7_suiting_37 ?_ | refine J_aload_nq C rfl dX7_suiting_37 ?_ | refine J_aload_nN C rfl dX7_suiting_37 ?_
        refine J_callV C (c_Search_follow B1 S1 (v := qs.2.2 i) (Y1.2.2.1 i (by omega)) (Y1.2.2.2.2.2.2.1 i (by omega)) ht hpd (sbit i)) cw_X7_24 (by first | assumption | exact jv_up_at _ _ _ | (simp [jv_up, *]; done)) rfl rfl rfl rfl (by exact Nat.le_of_ble_eq_true rfl) (by decide) (by omega) (by omega) dX7_suiting_38 ?_
        rintro _ h2 ⟨rfl, F2, P2⟩
        have P3 : srP h s (srN qs.2.2 (i + 1)) DL num len fi (srQ FW (M, st) (i + 1)) h2 := ⟨fr_tr F F2, by rw [← hF]; rw [← hF] at P2; exact P2⟩
        first | refine J_niinc (b := 1) C rfl (by decide) dX7_suiting_41 ?_ | refine J_iinc C rfl (by decide) dX7_suiting_41 ?_
        refine J_goto C 8 (by decide) dX7_suiting_44 ?_
        refine J_sub (by exact (And.intro rfl (And.intro rfl (And.intro rfl (And.intro rfl (And.intro rfl trivial)))))) (ih (i + 1) h2 (by omega) P3)
  first | refine J_aload_n C rfl dX7_suiting_0 ?_ | refine J_aload_nq C rfl dX7_suiting_0 ?_ | refine J_aload_nN C rfl dX7_suiting_0 ?_
  refine J_iconst C (v := nI 0) (by decide) dX7_suiting_1 ?_
  refine J_put C fl_X7_9 (by first | assumption | exact jv_up_at _ _ _ | (simp [jv_up, *]; done)) (by exact Nat.le_of_ble_eq_true rfl) (by rfl) (by rfl) dX7_suiting_2 ?_
  refine J_iconst C (v := nI 0) (by decide) dX7_suiting_5 ?_
  refine J_istore C (by decide) dX7_suiting_6 ?_
  refine J_eq (st1 := []) (h1 := jv_up h s (srO M[0]? 0)) rfl rfl ?_
  have S2 := sm_nd S 0 G
  refine J_sub (by exact (And.intro rfl (And.intro rfl (And.intro rfl (And.intro rfl (And.intro rfl trivial)))))) (loop qs.1 0 _ (Nat.zero_add _) ⟨fr_up (Or.inl rfl), sf, S2.1, S2.2⟩)
end SUIT
