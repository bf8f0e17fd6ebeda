section REMOVE
variable {l : jL} {h h1 : jH} {b da dd dc x xa xd xc : Nat} {DL W SW SP : List Nat} {lt : Nat → Int64} {num len : Nat → Nat} {PD QW : Nat → List Nat} {tot : Nat → Nat} {tm pa : Nat → Nat → Nat} {nx : Nat → Nat → Option Nat} {fi : Nat → Option Nat} {sf : Nat → sfT} {n : Nat}
def rmP (l : jL) (h : jH) (b da dd dc x xa xd xc : Nat) (D W : List Nat) (lt : Nat → Int64) (num len : Nat → Nat) (PD QW : Nat → List Nat) (tm pa : Nat → Nat → Nat) (nx : Nat → Nat → Option Nat) (fi : Nat → Option Nat) (sf : Nat → sfT) (n e i : Nat) (h1 : jH) : Prop :=
  fr (lc h) h h1 ∧ ∃ W' SW' SP' PD' tot', lib0 l h1 b da dd dc x xa xd xc (D.eraseIdx i) W' SW' SP' lt num (va_up len e 0) PD' (va_up QW e []) tot' tm pa nx (va_up fi e none) sf (n - len e) ∧ (∀ u, u ∈ W' ↔ u ∈ W ∧ PD' u ≠ []) ∧ (∀ u ∈ W, ∀ v, v ≠ e → (v ∈ PD' u ↔ v ∈ PD u)) ∧ W'.length ≤ W.length
set_option maxHeartbeats 800000 in
theorem c_Lib_remove (B : lib0 l h b da dd dc x xa xd xc DL W SW SP lt num len PD QW tot tm pa nx fi sf n) (hne : ∀ u ∈ W, PD u ≠ []) (G : gF DL QW fi pa) (hln : ∀ e ∈ DL, len e ≤ n) (hN : ∀ e ∈ DL, num e < 10000) (N : Nat) (hN2 : N < 10000) : Cn l yX4_removeDocument cX4_removeDocument 4 (some .boolean) 9 0 0 [.ref b, .int (nI N)] h (fun r h1 => (r = some (.int (jv_b true)) ∧ ∃ i e, DL[i]? = some e ∧ num e = N ∧ rmP l h b da dd dc x xa xd xc DL W lt num len PD QW tm pa nx fi sf n e i h1) ∨ (r = some (.int (jv_b false)) ∧ (∀ e ∈ DL, num e ≠ N) ∧ h1 = h)) := by
  have bb := B.1
  have hlen := al_len B.2.1
  refine Cn.of (own := RX4) rfl (by decide) (by exact Nat.le_of_ble_eq_true rfl) (by decide) (fun K hK C D I => ?_)
  have B0 := B
  rw [← hK] at B0
  first | refine J_aload_n C rfl dX4_removeDocument_0 ?_ | refine J_aload_nq C rfl dX4_removeDocument_0 ?_ | refine J_aload_nN C rfl dX4_removeDocument_0 ?_
  refine J_iload_n C rfl dX4_removeDocument_1 ?_
  refine J_callV C (c_Lib_indexOf B0 hN N hN2) cw_X4_29 (by first | assumption | exact jv_up_at _ _ _ | (simp [jv_up, *]; done)) rfl rfl rfl rfl (by exact Nat.le_of_ble_eq_true rfl) (by decide) (by omega) (by omega) dX4_removeDocument_2 ?_
  rintro _ h9 ⟨i, rfl, P, e9⟩
  replace e9 := e9.symm
  subst e9
  refine J_istore_n C (by decide) dX4_removeDocument_5 ?_
  first | refine J_aload_n C rfl dX4_removeDocument_6 ?_ | refine J_aload_nq C rfl dX4_removeDocument_6 ?_ | refine J_aload_nN C rfl dX4_removeDocument_6 ?_
  refine J_iload_n C rfl dX4_removeDocument_7 ?_
  refine J_callV C (c_Lib_documentAt B0 i) cw_X4_33 (by first | assumption | exact jv_up_at _ _ _ | (simp [jv_up, *]; done)) rfl rfl rfl rfl (by exact Nat.le_of_ble_eq_true rfl) (by decide) (by omega) (by omega) dX4_removeDocument_8 ?_
  rintro _ h9 ⟨rfl, e9⟩
  replace e9 := e9.symm
  subst e9
  rcases P with ⟨j, e, p1, p2, p3⟩ | ⟨p1, p2⟩
  · have hj := (List.getElem?_eq_some_iff.mp p1).1
    subst p3
    rw [wat_nI DL (by omega), p1]
    have he := List.mem_of_getElem? p1
    first | refine J_astore_nq C (by decide) dX4_removeDocument_11 ?_ | refine J_astore_n C (by decide) dX4_removeDocument_11 ?_ | refine J_astore_nN C (by decide) dX4_removeDocument_11 ?_
    first | refine J_aload_n C rfl dX4_removeDocument_12 ?_ | refine J_aload_nq C rfl dX4_removeDocument_12 ?_ | refine J_aload_nN C rfl dX4_removeDocument_12 ?_
    refine J_ifnonnull (x := some e) C 18 (by decide) dX4_removeDocument_13 (fun _ _ => ?_) (fun z => by cases z)
    first | refine J_aload_n C rfl dX4_removeDocument_18 ?_ | refine J_aload_nq C rfl dX4_removeDocument_18 ?_ | refine J_aload_nN C rfl dX4_removeDocument_18 ?_
    first | refine J_aload_n C rfl dX4_removeDocument_19 ?_ | refine J_aload_nq C rfl dX4_removeDocument_19 ?_ | refine J_aload_nN C rfl dX4_removeDocument_19 ?_
    refine J_callV C (c_Lib_forget B0 hne he (G e he) (hln e he)) cw_X4_49 (by first | assumption | exact jv_up_at _ _ _ | (simp [jv_up, *]; done)) rfl rfl rfl rfl (by exact Nat.le_of_ble_eq_true rfl) (by decide) (by omega) (by omega) dX4_removeDocument_20 ?_
    rintro _ h2 ⟨rfl, F, W', SW', SP', PD', tot', Y, y1, y2, y3⟩
    have Yb := Y.1
    have A := Y.2.1
    obtain ⟨⟨df, da1⟩, -⟩ := al_ad A
    obtain ⟨mcn, a1, -⟩ := id A
    rw [hK] at Y
    first | refine J_aload_n C rfl dX4_removeDocument_23 ?_ | refine J_aload_nq C rfl dX4_removeDocument_23 ?_ | refine J_aload_nN C rfl dX4_removeDocument_23 ?_
    refine J_get C fl_X4_12 (by first | assumption | exact jv_up_at _ _ _ | (simp [jv_up, *]; done)) (by rfl) dX4_removeDocument_24 ?_
    refine J_iload_n C rfl dX4_removeDocument_27 ?_
    refine J_callV C (c_AL_rem okci_1 (by decide) A j e p1) cw_X4_53 (by first | assumption | exact jv_up_at _ _ _ | (simp [jv_up, *]; done)) rfl rfl rfl rfl (by exact Nat.le_of_ble_eq_true rfl) (by decide) (by omega) (by omega) dX4_removeDocument_28 ?_
    rintro _ h3 ⟨rfl, A1, F1⟩
    rw [hK] at A1
    obtain ⟨s1, s2⟩ := lib0_drop Y p1 (if_pos rfl) A1 F1
    refine J_pop C rfl dX4_removeDocument_31 ?_
    refine J_iconst C (v := nI 1) (by decide) dX4_removeDocument_32 ?_
    refine J_zret C D (Or.inr rfl) (Or.inl ⟨rfl, j, e, p1, p2, lc_tr F s2, W', SW', SP', PD', tot', s1, y1, y2, y3⟩) (by omega) (by omega) dX4_removeDocument_33
  · subst p2
    first | refine J_astore_nq C (by decide) dX4_removeDocument_11 ?_ | refine J_astore_n C (by decide) dX4_removeDocument_11 ?_ | refine J_astore_nN C (by decide) dX4_removeDocument_11 ?_
    first | refine J_aload_n C rfl dX4_removeDocument_12 ?_ | refine J_aload_nq C rfl dX4_removeDocument_12 ?_ | refine J_aload_nN C rfl dX4_removeDocument_12 ?_
    refine J_ifnonnull (x := none) C 18 (by decide) dX4_removeDocument_13 (fun _ z => by cases z) (fun _ => ?_)
    refine J_iconst C (v := nI 0) (by decide) dX4_removeDocument_16 ?_
    refine J_zret C D (Or.inl rfl) (Or.inr ⟨rfl, p1, rfl⟩) (by omega) (by omega) dX4_removeDocument_17
end REMOVE
