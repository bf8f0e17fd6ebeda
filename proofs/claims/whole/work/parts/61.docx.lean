/-! Library: a document by any int -/
section DOCX
variable {l : jL} {h h1 : jH} {b da dd dc x xa xd xc : Nat} {DL W SW SP : List Nat} {lt : Nat → Int64} {num len : Nat → Nat} {PD QW : Nat → List Nat} {tot : Nat → Nat} {tm pa : Nat → Nat → Nat} {nx : Nat → Nat → Option Nat} {fi : Nat → Option Nat} {sf : Nat → sfT} {n : Nat}
/-- the place of the document with number X, any int, or -1 -/
def ixX (DL : List Nat) (num : Nat → Nat) (X : Int32) (r : Int32) : Prop := (∃ j e, DL[j]? = some e ∧ nI (num e) = X ∧ r = nI j) ∨ ((∀ e ∈ DL, nI (num e) ≠ X) ∧ r = -1)
set_option maxHeartbeats 400000 in
theorem c_Lib_indexOfX (B : lib0 l h b da dd dc x xa xd xc DL W SW SP lt num len PD QW tot tm pa nx fi sf n) (X : Int32) : Cn l yX4_indexOf cX4_indexOf 4 (some .int) 5 0 0 [.ref b, .int X] h (fun r h1 => ∃ i, r = some (.int i) ∧ ixX DL num X i ∧ h1 = h) := by
  have B0 := B
  obtain ⟨x1, x2, x3, x4, x5, x6, x7, -⟩ := B
  obtain ⟨mcn, a1, -⟩ := id x2
  have hlen := al_len x2
  refine Cn.of (own := RX4) rfl (by decide) (by exact Nat.le_of_ble_eq_true rfl) (by decide) (fun K hK C D I => ?_)
  rw [← hK] at x2 B0
  have loop : ∀ (k j : Nat), j + k = DL.length → (∀ i e, i < j → DL[i]? = some e → nI (num e) ≠ X) → J K 0 0 2 (jv_l [(2, .int (nI j)), (1, .int X), (0, .ref b)]) [] h := by
    intro k
    induction k with
    | zero =>
      intro j hj hb
      refine J_iload_n C rfl dX4_indexOf_2 ?_
      first | refine J_aload_n C rfl dX4_indexOf_3 ?_ | refine J_aload_nq C rfl dX4_indexOf_3 ?_ | refine J_aload_nN C rfl dX4_indexOf_3 ?_
      refine J_get C fl_X4_12 (by first | assumption | exact jv_up_at _ _ _ | (simp [jv_up, *]; done)) (by rfl) dX4_indexOf_4 ?_
      refine J_callV C (c_AL_size x2) cw_X4_25 (by first | assumption | exact jv_up_at _ _ _ | (simp [jv_up, *]; done)) rfl rfl rfl rfl (by exact Nat.le_of_ble_eq_true rfl) (by decide) (by omega) (by omega) dX4_indexOf_7 ?_
      rintro _ h9 ⟨rfl, e9⟩
      replace e9 := e9.symm
      subst e9
      refine J_nicmp_ge C (by first | omega | (dsimp only; omega)) (by first | omega | (dsimp only; omega)) 39 (by decide) dX4_indexOf_10 (fun z => ?_) (fun z => ?_)
      · refine J_iconst C (v := (-1)) (by decide) dX4_indexOf_39 ?_
        refine J_iret C D ⟨_, rfl, Or.inr ⟨fun e he hh => ?_, rfl⟩, rfl⟩ (by omega) (by omega) dX4_indexOf_40
        obtain ⟨i, hi⟩ := List.getElem?_of_mem he
        have := (List.getElem?_eq_some_iff.mp hi).1
        exact hb i e (by omega) hi hh
      · omega
    | succ k ih =>
      intro j hj hb
      refine J_iload_n C rfl dX4_indexOf_2 ?_
      first | refine J_aload_n C rfl dX4_indexOf_3 ?_ | refine J_aload_nq C rfl dX4_indexOf_3 ?_ | refine J_aload_nN C rfl dX4_indexOf_3 ?_
      refine J_get C fl_X4_12 (by first | assumption | exact jv_up_at _ _ _ | (simp [jv_up, *]; done)) (by rfl) dX4_indexOf_4 ?_
      refine J_callV C (c_AL_size x2) cw_X4_25 (by first | assumption | exact jv_up_at _ _ _ | (simp [jv_up, *]; done)) rfl rfl rfl rfl (by exact Nat.le_of_ble_eq_true rfl) (by decide) (by omega) (by omega) dX4_indexOf_7 ?_
      rintro _ h9 ⟨rfl, e9⟩
      replace e9 := e9.symm
      subst e9
      refine J_nicmp_ge C (by first | omega | (dsimp only; omega)) (by first | omega | (dsimp only; omega)) 39 (by decide) dX4_indexOf_10 (fun z => ?_) (fun z => ?_)
      · omega
      · first | refine J_aload_n C rfl dX4_indexOf_13 ?_ | refine J_aload_nq C rfl dX4_indexOf_13 ?_ | refine J_aload_nN C rfl dX4_indexOf_13 ?_
        refine J_iload_n C rfl dX4_indexOf_14 ?_
        refine J_callV C (c_Lib_documentAt B0 (nI j)) cw_X4_33 (by first | assumption | exact jv_up_at _ _ _ | (simp [jv_up, *]; done)) rfl rfl rfl rfl (by exact Nat.le_of_ble_eq_true rfl) (by decide) (by omega) (by omega) dX4_indexOf_15 ?_
        rintro _ h9 ⟨rfl, e9⟩
        replace e9 := e9.symm
        subst e9
        have hx := List.getElem?_eq_getElem (l := DL) (i := j) (by omega)
        rw [wat_nI DL (by omega), hx]
        have h5 := x7 _ (List.mem_of_getElem? hx)
        first | refine J_astore_nq C (by decide) dX4_indexOf_18 ?_ | refine J_astore_n C (by decide) dX4_indexOf_18 ?_ | refine J_astore_nN C (by decide) dX4_indexOf_18 ?_
        first | refine J_aload_n C rfl dX4_indexOf_19 ?_ | refine J_aload_nq C rfl dX4_indexOf_19 ?_ | refine J_aload_nN C rfl dX4_indexOf_19 ?_
        refine J_ifnull (x := some _) C 33 (by decide) dX4_indexOf_20 (fun z => by cases z) (fun _ _ => ?_)
        first | refine J_aload_n C rfl dX4_indexOf_23 ?_ | refine J_aload_nq C rfl dX4_indexOf_23 ?_ | refine J_aload_nN C rfl dX4_indexOf_23 ?_
        refine J_get C fl_X4_89 (by first | assumption | exact jv_up_at _ _ _ | (simp [jv_up, *]; done)) (by rfl) dX4_indexOf_24 ?_
        refine J_iload_n C rfl dX4_indexOf_27 ?_
        refine J_icmp_ne C 33 (by decide) dX4_indexOf_28 (fun z2 => ?_) (fun z2 => ?_)
        · first | refine J_niinc (b := 1) C rfl (by decide) dX4_indexOf_33 ?_ | refine J_iinc C rfl (by decide) dX4_indexOf_33 ?_
          refine J_goto C 2 (by decide) dX4_indexOf_36 ?_
          refine J_sub (by exact (And.intro rfl (And.intro rfl (And.intro rfl trivial)))) (ih (j + 1) (by omega) (fun i e hi he => ?_))
          rcases Nat.lt_or_ge i j with q | q
          · exact hb i e q he
          · have : i = j := by omega
            subst this
            rw [hx] at he
            cases he
            exact z2
        · refine J_iload_n C rfl dX4_indexOf_31 ?_
          refine J_iret C D ⟨_, rfl, Or.inl ⟨j, _, hx, z2, rfl⟩, rfl⟩ (by omega) (by omega) dX4_indexOf_32
  refine J_iconst C (v := nI 0) (by decide) dX4_indexOf_0 ?_
  refine J_istore_n C (by decide) dX4_indexOf_1 ?_
  refine J_sub (by exact (And.intro rfl (And.intro rfl (And.intro rfl trivial)))) (loop DL.length 0 (by omega) (fun i e hi => absurd hi (Nat.not_lt_zero _)))
set_option maxHeartbeats 400000 in
theorem c_Lib_documentOfX (B : lib0 l h b da dd dc x xa xd xc DL W SW SP lt num len PD QW tot tm pa nx fi sf n) (X : Int32) : Cn l yX4_documentOf cX4_documentOf 2 (some (.object "RankedSearch$Document")) 6 0 0 [.ref b, .int X] h (fun r h1 => ∃ o, r = some (va_rf o) ∧ h1 = h ∧ ((∃ e, e ∈ DL ∧ nI (num e) = X ∧ o = some e) ∨ ((∀ e ∈ DL, nI (num e) ≠ X) ∧ o = none))) := by
  have B0 := B
  have bb := B.1
  have hlen := al_len B.2.1
  refine Cn.of (own := RX4) rfl (by decide) (by exact Nat.le_of_ble_eq_true rfl) (by decide) (fun K hK C D I => ?_)
  rw [← hK] at B0
  first | refine J_aload_n C rfl dX4_documentOf_0 ?_ | refine J_aload_nq C rfl dX4_documentOf_0 ?_ | refine J_aload_nN C rfl dX4_documentOf_0 ?_
  first | refine J_aload_n C rfl dX4_documentOf_1 ?_ | refine J_aload_nq C rfl dX4_documentOf_1 ?_ | refine J_aload_nN C rfl dX4_documentOf_1 ?_
  refine J_iload_n C rfl dX4_documentOf_2 ?_
  refine J_callV C (c_Lib_indexOfX B0 X) cw_X4_29 (by first | assumption | exact jv_up_at _ _ _ | (simp [jv_up, *]; done)) rfl rfl rfl rfl (by exact Nat.le_of_ble_eq_true rfl) (by decide) (by omega) (by omega) dX4_documentOf_3 ?_
  rintro _ h9 ⟨i, rfl, P, e9⟩
  replace e9 := e9.symm
  subst e9
  refine J_callV C (c_Lib_documentAt B0 i) cw_X4_33 (by first | assumption | exact jv_up_at _ _ _ | (simp [jv_up, *]; done)) rfl rfl rfl rfl (by exact Nat.le_of_ble_eq_true rfl) (by decide) (by omega) (by omega) dX4_documentOf_6 ?_
  rintro _ h9 ⟨rfl, e9⟩
  replace e9 := e9.symm
  subst e9
  rcases P with ⟨j, e, p1, p2, p3⟩ | ⟨p1, p2⟩
  · have hj := (List.getElem?_eq_some_iff.mp p1).1
    subst p3
    rw [wat_nI DL (by omega), p1]
    refine J_aret (x := some e) C D (Or.inl ⟨_, rfl⟩) ⟨_, rfl, rfl, Or.inl ⟨e, List.mem_of_getElem? p1, p2, rfl⟩⟩ (by omega) (by omega) dX4_documentOf_9
  · subst p2
    refine J_aret (x := none) C D (Or.inl ⟨_, rfl⟩) ⟨_, rfl, rfl, Or.inr ⟨p1, rfl⟩⟩ (by omega) (by omega) dX4_documentOf_9
end DOCX
