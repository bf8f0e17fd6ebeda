def qs_run (B : Nat → Nat) : Nat → Nat → qsT → Nat × Nat × qsT
  | 0, i, s => (0, i, s)
  | m + 1, i, s => if (qs_take s (B i)).1 = 0 then qs_run B m (i + 1) (qs_take s (B i)).2 else ((qs_take s (B i)).1, i, (qs_take s (B i)).2)
def qs_end (n : Nat) (E : Nat × Nat × qsT) : Nat × Nat × qsT := if E.1 = 0 ∧ (E.2.2.2.1 = 1 ∨ E.2.2.2.1 = 4) then (1, n, E.2.2) else E
def qs_fp (E : Nat × Nat × qsT) : Int32 := if E.1 = 0 then -1 else nI E.2.1
def qs_all (B : Nat → Nat) (n : Nat) (tv : Nat → tmT) : Nat × Nat × qsT := qs_end n (qs_run B n 0 (0, 0, tv))
theorem tp_keep {S : Nat → Prop} {h h1 : jH} {t tb n : Nat} {f : Nat → Int32} (T : tp_is h t tb n f) (F : fr S h h1) (h2 : ¬ S t) (h3 : ¬ S tb) : tp_is h1 t tb n f := ⟨(F t h2).trans T.1, (F tb h3).trans T.2.1, T.2.2⟩
theorem qy_tape {h : jH} {a ta : Nat} {tt : Nat → Nat} {cur fk : Nat} {fp : Int32} {s : qsT} (Y : qy h a ta tt cur fk fp s) {t tb n : Nat} {f : Nat → Int32} (T : tp_is h t tb n f) : ¬ qy_S a tt t ∧ ¬ qy_S a tt tb := by
  refine ⟨?_, ?_⟩
  · rintro (z | ⟨i, hi, z⟩)
    · exact jv_neO T.1 Y.1 (by decide) z
    · exact jv_neO T.1 (Y.2.2.1 i hi) (by decide) z
  · rintro (z | ⟨i, hi, z⟩)
    · exact jv_neA Y.1 T.2.1 z.symm
    · exact jv_neA (Y.2.2.1 i hi) T.2.1 z.symm
section QY3
variable {l : jL} {h : jH} {a ta : Nat} {tt : Nat → Nat} {cur fk : Nat} {fp : Int32} {s : qsT} {b : Nat}
set_option maxHeartbeats 400000 in
theorem c_Query_termAt (Y : qy h a ta tt cur fk fp s) (k : Nat) (hk : k < 1000) : Cn l yX6_termAt cX6_termAt 2 (some (.object "RankedSearch$Term")) 1 0 0 [.ref a, .int (nI k)] h (fun r h1 => r = some (va_rf (if k < s.1 then some (tt k) else none)) ∧ h1 = h) := by
  have Y0 := Y
  obtain ⟨y1, ⟨f, y2, y3⟩, y4, y5, y6, y7, y8, y9⟩ := Y
  refine Cn.of (own := RX6) rfl (by decide) (by exact Nat.le_of_ble_eq_true rfl) (by decide) (fun K hK C D I => ?_)
  refine J_iload_n C rfl dX6_termAt_0 ?_
  refine J_nif_lt C (by omega) 30 dX6_termAt_1 (by decide) ?_
  refine J_iload_n C rfl dX6_termAt_4 ?_
  first | refine J_aload_n C rfl dX6_termAt_5 ?_ | refine J_aload_nq C rfl dX6_termAt_5 ?_ | refine J_aload_nN C rfl dX6_termAt_5 ?_
  refine J_get C fl_X6_29 (by first | assumption | exact jv_up_at _ _ _ | (simp [jv_up, *]; done)) (by rfl) dX6_termAt_6 ?_
  refine J_nicmp_ge C (by first | omega | (dsimp only; omega)) (by first | omega | (dsimp only; omega)) 30 (by decide) dX6_termAt_9 (fun z1 => ?_) (fun z1 => ?_)
  · refine J_null C dX6_termAt_30 ?_
    refine J_aret (x := none) C D (Or.inl ⟨_, rfl⟩) ⟨by rw [if_neg (by omega)], rfl⟩ (by omega) (by omega) dX6_termAt_31
  · refine J_iload_n C rfl dX6_termAt_12 ?_
    first | refine J_aload_n C rfl dX6_termAt_13 ?_ | refine J_aload_nq C rfl dX6_termAt_13 ?_ | refine J_aload_nN C rfl dX6_termAt_13 ?_
    refine J_get C fl_X6_11 (by first | assumption | exact jv_up_at _ _ _ | (simp [jv_up, *]; done)) (by rfl) dX6_termAt_14 ?_
    refine J_alen C (by first | assumption | exact jv_up_at _ _ _ | (simp [jv_up, *]; done)) (by decide) dX6_termAt_17 ?_
    refine J_nicmp_ge C (by first | omega | (dsimp only; omega)) (by first | omega | (dsimp only; omega)) 30 (by decide) dX6_termAt_18 (fun z2 => ?_) (fun z2 => ?_)
    · exact absurd z2 (Nat.not_le.mpr (Nat.lt_of_lt_of_le z1 y6))
    · first | refine J_aload_n C rfl dX6_termAt_21 ?_ | refine J_aload_nq C rfl dX6_termAt_21 ?_ | refine J_aload_nN C rfl dX6_termAt_21 ?_
      refine J_get C fl_X6_11 (by first | assumption | exact jv_up_at _ _ _ | (simp [jv_up, *]; done)) (by rfl) dX6_termAt_22 ?_
      refine J_iload_n C rfl dX6_termAt_25 ?_
      refine J_aald C y2 (Or.inr rfl) rfl z2 (by decide) dX6_termAt_26 ?_
      rw [y3 _ z2]
      refine J_goto C 31 (by decide) dX6_termAt_27 ?_
      refine J_aret C D (Or.inl ⟨_, rfl⟩) ⟨by rw [if_pos z1], rfl⟩ (by omega) (by omega) dX6_termAt_31
set_option maxHeartbeats 400000 in
theorem c_Query_read (Y : qy h a ta tt cur fk fp s) {t tb n : Nat} {f : Nat → Int32} (T : tp_is h t tb n f) : Cn l yX6_read cX6_read 3 none 6 0 0 [.ref a, .ref t] h (fun r h1 => r = none ∧ (∃ cur1, qy h1 a ta tt cur1 (qs_all (sp_B f) n s.2.2).1 (qs_fp (qs_all (sp_B f) n s.2.2)) (qs_all (sp_B f) n s.2.2).2.2) ∧ fr (qy_S a tt) h h1) := by
  have hst := qy_tape Y T
  have hn := T.2.2
  refine Cn.of (own := RX6) rfl (by decide) (by exact Nat.le_of_ble_eq_true rfl) (by decide) (fun K hK C D I => ?_)
  have K89 : ∀ (h1 : jH) (i cur1 fk1 : Nat) (fp1 : Int32) (s1 : qsT), qy h1 a ta tt cur1 fk1 fp1 s1 → fr (qy_S a tt) h h1 → fk1 = (qs_all (sp_B f) n s.2.2).1 → fp1 = qs_fp (qs_all (sp_B f) n s.2.2) → s1 = (qs_all (sp_B f) n s.2.2).2.2 → J K 0 0 89 (jv_l [(0, .ref a), (1, .ref t), (2, .int (nI i))]) [] h1 := by
    intro h1 i cur1 fk1 fp1 s1 Y1 F1 e1 e2 e3
    refine J_vret C D ⟨rfl, ⟨cur1, by rw [← e1, ← e2, ← e3]; exact Y1⟩, F1⟩ (by omega) (by omega) dX6_read_89
  have K57 : ∀ (h1 : jH) (i cur1 fk1 : Nat) (fp1 : Int32) (s1 : qsT) (pl : Nat), i ≤ n → qy h1 a ta tt cur1 fk1 fp1 s1 → fr (qy_S a tt) h h1 → fp1 = qs_fp (fk1, pl, s1) → qs_all (sp_B f) n s.2.2 = qs_end n (fk1, pl, s1) → J K 0 0 57 (jv_l [(0, .ref a), (1, .ref t), (2, .int (nI i))]) [] h1 := by
    intro h1 i cur1 fk1 fp1 s1 pl hi Y1 F1 e1 e2
    have y := Y1.1
    have w1 := Y1.2.2.2.2.2.2.2
    have w2 := Y1.2.2.2.2.2.1
    have T1 := tp_keep T F1 hst.1 hst.2
    have T1a := T1.1
    have last : (s1.2.1 = 1 ∨ s1.2.1 = 4) → fk1 = 0 → J K 0 0 80 (jv_l [(0, .ref a), (1, .ref t), (2, .int (nI i))]) [] h1 := by
      intro hs hz
      first | refine J_aload_n C rfl dX6_read_80 ?_ | refine J_aload_nq C rfl dX6_read_80 ?_ | refine J_aload_nN C rfl dX6_read_80 ?_
      refine J_iconst C (v := nI 1) (by decide) dX6_read_81 ?_
      first | refine J_aload_n C rfl dX6_read_82 ?_ | refine J_aload_nq C rfl dX6_read_82 ?_ | refine J_aload_nN C rfl dX6_read_82 ?_
      refine J_callV C (c_Tape_length _ _ t tb n f T1) cw_X6_35 (by first | assumption | exact jv_up_at _ _ _ | (simp [jv_up, *]; done)) rfl rfl rfl rfl (by exact Nat.le_of_ble_eq_true rfl) (by decide) (by omega) (by omega) dX6_read_83 ?_
      rintro _ _ ⟨rfl, rfl⟩
      refine J_callV C (c_Query_note Y1 1 n (by decide) hn) cw_X6_48 (by first | assumption | exact jv_up_at _ _ _ | (simp [jv_up, *]; done)) rfl rfl rfl rfl (by exact Nat.le_of_ble_eq_true rfl) (by decide) (by omega) (by omega) dX6_read_86 ?_
      rintro _ _ ⟨rfl, rfl⟩
      rw [if_neg (by decide)]
      have e3 : qs_all (sp_B f) n s.2.2 = (1, n, s1) := by rw [e2]; unfold qs_end; rw [if_pos ⟨hz, hs⟩]
      exact K89 _ i cur1 1 (nI n) s1 (qy_a Y1 Y1.2.2.2.2.1 w2 (by decide)) (fr_tr F1 (fr_up (Or.inl rfl))) (by rw [e3]) (by rw [e3]; rfl) (by rw [e3])
    have ok : fk1 ≠ 0 ∨ (s1.2.1 ≠ 1 ∧ s1.2.1 ≠ 4) → qs_all (sp_B f) n s.2.2 = (fk1, pl, s1) := by
      intro hz
      rw [e2]; unfold qs_end; rw [if_neg]
      rintro ⟨q1, q2⟩
      have q1 : fk1 = 0 := q1
      have q2 : s1.2.1 = 1 ∨ s1.2.1 = 4 := q2
      omega
    first | refine J_aload_n C rfl dX6_read_57 ?_ | refine J_aload_nq C rfl dX6_read_57 ?_ | refine J_aload_nN C rfl dX6_read_57 ?_
    refine J_get C fl_X6_22 (by first | assumption | exact jv_up_at _ _ _ | (simp [jv_up, *]; done)) (by rfl) dX6_read_58 ?_
    refine J_nif_ne C (by first | omega | (dsimp only; omega)) 89 (by decide) dX6_read_61 (fun z1 => ?_) (fun z1 => ?_)
    · have e3 := ok (Or.inl (by omega))
      exact K89 _ i cur1 fk1 fp1 s1 Y1 F1 (by rw [e3]) (by rw [e3]; exact e1) (by rw [e3])
    · first | refine J_aload_n C rfl dX6_read_64 ?_ | refine J_aload_nq C rfl dX6_read_64 ?_ | refine J_aload_nN C rfl dX6_read_64 ?_
      refine J_get C fl_X6_32 (by first | assumption | exact jv_up_at _ _ _ | (simp [jv_up, *]; done)) (by rfl) dX6_read_65 ?_
      refine J_iconst C (v := nI 1) (by decide) dX6_read_68 ?_
      refine J_nicmp_eq C (by first | omega | (dsimp only; omega)) (by first | omega | (dsimp only; omega)) 80 (by decide) dX6_read_69 (fun z2 => ?_) (fun z2 => ?_)
      · exact last (Or.inl z2) z1
      · first | refine J_aload_n C rfl dX6_read_72 ?_ | refine J_aload_nq C rfl dX6_read_72 ?_ | refine J_aload_nN C rfl dX6_read_72 ?_
        refine J_get C fl_X6_32 (by first | assumption | exact jv_up_at _ _ _ | (simp [jv_up, *]; done)) (by rfl) dX6_read_73 ?_
        refine J_iconst C (v := nI 4) (by decide) dX6_read_76 ?_
        refine J_nicmp_ne C (by first | omega | (dsimp only; omega)) (by first | omega | (dsimp only; omega)) 89 (by decide) dX6_read_77 (fun z3 => ?_) (fun z3 => ?_)
        · have e3 := ok (Or.inr ⟨z2, z3⟩)
          exact K89 _ i cur1 fk1 fp1 s1 Y1 F1 (by rw [e3]) (by rw [e3]; exact e1) (by rw [e3])
        · exact last (Or.inr z3) z1
  have loop : ∀ (m i : Nat) (h1 : jH) (cur1 fk1 : Nat) (fp1 : Int32) (s1 : qsT) (pl : Nat), i + m = n → qy h1 a ta tt cur1 fk1 fp1 s1 → fr (qy_S a tt) h h1 → (fk1 = 0 → s1.2.1 ≠ 0 → qy_cur tt cur1 s1) → fp1 = qs_fp (fk1, pl, s1) → qs_all (sp_B f) n s.2.2 = qs_end n (if fk1 = 0 then qs_run (sp_B f) m i s1 else (fk1, pl, s1)) → J K 0 0 22 (jv_l [(0, .ref a), (1, .ref t), (2, .int (nI i))]) [] h1 := by
    intro m
    induction m with
    | zero =>
      intro i h1 cur1 fk1 fp1 s1 pl hi Y1 F1 U1 e1 e2
      have T1 := tp_keep T F1 hst.1 hst.2
      have T1a := T1.1
      refine J_iload_n C rfl dX6_read_22 ?_
      first | refine J_aload_n C rfl dX6_read_23 ?_ | refine J_aload_nq C rfl dX6_read_23 ?_ | refine J_aload_nN C rfl dX6_read_23 ?_
      refine J_callV C (c_Tape_length _ _ t tb n f T1) cw_X6_35 (by first | assumption | exact jv_up_at _ _ _ | (simp [jv_up, *]; done)) rfl rfl rfl rfl (by exact Nat.le_of_ble_eq_true rfl) (by decide) (by omega) (by omega) dX6_read_24 ?_
      rintro _ _ ⟨rfl, rfl⟩
      refine J_nicmp_ge C (by first | omega | (dsimp only; omega)) (by first | omega | (dsimp only; omega)) 57 (by decide) dX6_read_27 (fun z1 => ?_) (fun z1 => ?_)
      · refine K57 _ i cur1 fk1 fp1 s1 (if fk1 = 0 then i else pl) (by omega) Y1 F1 ?_ ?_
        · rw [e1]; unfold qs_fp; by_cases q : fk1 = 0
          · rw [if_pos q, if_pos q]
          · rw [if_neg q, if_neg q, if_neg q]
        · rw [e2]; by_cases q : fk1 = 0
          · rw [if_pos q, if_pos q, q]; rfl
          · rw [if_neg q, if_neg q]
      · omega
    | succ m ih =>
      intro i h1 cur1 fk1 fp1 s1 pl hi Y1 F1 U1 e1 e2
      have T1 := tp_keep T F1 hst.1 hst.2
      have T1a := T1.1
      have y := Y1.1
      have w1 := Y1.2.2.2.2.2.2.2
      refine J_iload_n C rfl dX6_read_22 ?_
      first | refine J_aload_n C rfl dX6_read_23 ?_ | refine J_aload_nq C rfl dX6_read_23 ?_ | refine J_aload_nN C rfl dX6_read_23 ?_
      refine J_callV C (c_Tape_length _ _ t tb n f T1) cw_X6_35 (by first | assumption | exact jv_up_at _ _ _ | (simp [jv_up, *]; done)) rfl rfl rfl rfl (by exact Nat.le_of_ble_eq_true rfl) (by decide) (by omega) (by omega) dX6_read_24 ?_
      rintro _ _ ⟨rfl, rfl⟩
      refine J_nicmp_ge C (by first | omega | (dsimp only; omega)) (by first | omega | (dsimp only; omega)) 57 (by decide) dX6_read_27 (fun z1 => ?_) (fun z1 => ?_)
      · omega
      · first | refine J_aload_n C rfl dX6_read_30 ?_ | refine J_aload_nq C rfl dX6_read_30 ?_ | refine J_aload_nN C rfl dX6_read_30 ?_
        refine J_get C fl_X6_22 (by first | assumption | exact jv_up_at _ _ _ | (simp [jv_up, *]; done)) (by rfl) dX6_read_31 ?_
        refine J_nif_ne C (by first | omega | (dsimp only; omega)) 57 (by decide) dX6_read_34 (fun z2 => ?_) (fun z2 => ?_)
        · refine K57 _ i cur1 fk1 fp1 s1 pl (by omega) Y1 F1 e1 ?_
          rw [e2, if_neg (by omega)]
        · rw [if_pos z2] at e2
          first | refine J_aload_n C rfl dX6_read_37 ?_ | refine J_aload_nq C rfl dX6_read_37 ?_ | refine J_aload_nN C rfl dX6_read_37 ?_
          first | refine J_aload_n C rfl dX6_read_38 ?_ | refine J_aload_nq C rfl dX6_read_38 ?_ | refine J_aload_nN C rfl dX6_read_38 ?_
          first | refine J_aload_n C rfl dX6_read_39 ?_ | refine J_aload_nq C rfl dX6_read_39 ?_ | refine J_aload_nN C rfl dX6_read_39 ?_
          refine J_iload_n C rfl dX6_read_40 ?_
          refine J_callV C (c_Tape_byteAt _ _ t tb n f T1 i z1) cw_X6_41 (by first | assumption | exact jv_up_at _ _ _ | (simp [jv_up, *]; done)) rfl rfl rfl rfl (by exact Nat.le_of_ble_eq_true rfl) (by decide) (by omega) (by omega) dX6_read_41 ?_
          rintro _ _ ⟨rfl, rfl⟩
          refine J_callV C (c_Query_take Y1 (U1 z2) (sp_B_lt f i)) cw_X6_45 (by first | assumption | exact jv_up_at _ _ _ | (simp [jv_up, *]; done)) rfl rfl rfl rfl (by exact Nat.le_of_ble_eq_true rfl) (by decide) (by omega) (by omega) dX6_read_44 ?_
          intro r h2 hp
          obtain ⟨rfl, hq, ⟨cur2, Y2, U2⟩, F2⟩ := hp
          have Y2a := Y2.1
          refine J_iload_n C rfl dX6_read_47 ?_
          refine J_callV C (c_Query_note Y2 (qs_take s1 (sp_B f i)).1 i hq (by omega)) cw_X6_48 (by first | assumption | exact jv_up_at _ _ _ | (simp [jv_up, *]; done)) rfl rfl rfl rfl (by exact Nat.le_of_ble_eq_true rfl) (by decide) (by omega) (by omega) dX6_read_48 ?_
          rintro _ _ ⟨rfl, rfl⟩
          first | refine J_niinc (b := 1) C rfl (by decide) dX6_read_51 ?_ | refine J_iinc C rfl (by decide) dX6_read_51 ?_
          refine J_goto C 22 (by decide) dX6_read_54 ?_
          unfold qs_run at e2
          by_cases q : (qs_take s1 (sp_B f i)).1 = 0
          · rw [if_pos q] at e2 ⊢
            refine J_sub (by exact (And.intro rfl (And.intro rfl (And.intro rfl trivial)))) (ih (i + 1) _ cur2 fk1 fp1 _ pl (by omega) Y2 (fr_tr F1 F2) (fun _ => U2 q) (by rw [e1]; unfold qs_fp; simp [z2]) (by rw [if_pos z2]; exact e2))
          · rw [if_neg q] at e2 ⊢
            refine J_sub (by exact (And.intro rfl (And.intro rfl (And.intro rfl trivial)))) (ih (i + 1) _ cur2 (qs_take s1 (sp_B f i)).1 (nI i) _ i (by omega) (qy_a Y2 Y2.2.2.2.2.1 Y2.2.2.2.2.2.1 hq) (fr_tr (fr_tr F1 F2) (fr_up (Or.inl rfl))) (fun w => absurd w q) (by unfold qs_fp; rw [if_neg q]) (by rw [if_neg q]; exact e2))
  have Y0 := Y
  obtain ⟨y1, -⟩ := Y
  first | refine J_aload_n C rfl dX6_read_0 ?_ | refine J_aload_nq C rfl dX6_read_0 ?_ | refine J_aload_nN C rfl dX6_read_0 ?_
  refine J_iconst C (v := nI 0) (by decide) dX6_read_1 ?_
  refine J_put C fl_X6_29 (by first | assumption | exact jv_up_at _ _ _ | (simp [jv_up, *]; done)) (by exact Nat.le_of_ble_eq_true rfl) (by rfl) (by rfl) dX6_read_2 ?_
  first | refine J_aload_n C rfl dX6_read_5 ?_ | refine J_aload_nq C rfl dX6_read_5 ?_ | refine J_aload_nN C rfl dX6_read_5 ?_
  refine J_iconst C (v := nI 0) (by decide) dX6_read_6 ?_
  refine J_put C fl_X6_32 (by first | assumption | exact jv_up_at _ _ _ | (simp [jv_up, *]; done)) (by exact Nat.le_of_ble_eq_true rfl) (by rfl) (by rfl) dX6_read_7 ?_
  first | refine J_aload_n C rfl dX6_read_10 ?_ | refine J_aload_nq C rfl dX6_read_10 ?_ | refine J_aload_nN C rfl dX6_read_10 ?_
  refine J_iconst C (v := nI 0) (by decide) dX6_read_11 ?_
  refine J_put C fl_X6_22 (by first | assumption | exact jv_up_at _ _ _ | (simp [jv_up, *]; done)) (by exact Nat.le_of_ble_eq_true rfl) (by rfl) (by rfl) dX6_read_12 ?_
  first | refine J_aload_n C rfl dX6_read_15 ?_ | refine J_aload_nq C rfl dX6_read_15 ?_ | refine J_aload_nN C rfl dX6_read_15 ?_
  refine J_iconst C (v := (-1)) (by decide) dX6_read_16 ?_
  refine J_put C fl_X6_26 (by first | assumption | exact jv_up_at _ _ _ | (simp [jv_up, *]; done)) (by exact Nat.le_of_ble_eq_true rfl) (by rfl) (by rfl) dX6_read_17 ?_
  refine J_iconst C (v := nI 0) (by decide) dX6_read_20 ?_
  refine J_istore_n C (by decide) dX6_read_21 ?_
  simp only [jv_up_up]
  refine J_sub (by exact (And.intro rfl (And.intro rfl (And.intro rfl trivial)))) (loop n 0 _ cur 0 (-1) (0, 0, s.2.2) 0 (by omega) (qy_a Y0 (by decide) (by decide) (by decide)) (fr_up (Or.inl rfl)) (fun _ w => absurd rfl w) rfl rfl)
end QY3
