/-! the model: told, word, about -/
section MTOLD
variable {l : jL} {h : jH} {m : Nat} {A : Nat → Nat} {md : dsT} {nt : Nat} {B : Nat → Nat} {fk th : Nat} {fp : Int32} {L : List hiT} {V : List Int64}
theorem dsN_take {md : dsT} {i : Nat} {p : Nat × List Int64} (h : md[i]? = some p) : dsN (md.take (i + 1)) = dsN (md.take i) + p.2.length := by
  unfold dsN
  rw [List.take_add_one, h, List.map_append, List.sum_append]
  rfl
theorem lex_nn {md : dsT} {V : List Int64} (PW : posW md) (X : isLex md V) {i : Nat} {w : Int64} (h : V[i]? = some w) : ¬ w < lN 0 := by
  obtain ⟨p, hp, hw⟩ := (X.2 w).mp (List.mem_of_getElem? h)
  exact Int64.not_lt.mpr (PW p hp w hw)
theorem lex_start {md : dsT} {V : List Int64} (PW : posW md) (X : isLex md V) : ∀ (j : Nat) (w : Int64), V[j]? = some w → ((-1 : Int64) < w ↔ 0 ≤ j) := fun j w hw => ⟨fun _ => Nat.zero_le _, fun _ => by
  have := Int64.not_lt.mp (lex_nn PW X hw)
  exact Int64.lt_of_lt_of_le (by decide) this⟩
set_option maxHeartbeats 1000000 in
theorem c_M_told (I : mdI h m A nt B md fk fp L th) (PW : posW md) (X : isLex md V) (hV : V.length ≤ 30000) (x : Int32) : Cn l yX12_told cX12_told 6 (some .int) 2 0 0 [.ref m, .int x] h (fun r h1 => fr (mdS m A) h h1 ∧ ((∃ k, k ≤ 2 ∧ x = nI k ∧ r = some (.int (nI (toldA md V k))) ∧ mdI h1 m A nt B md fk fp L 0) ∨ ((∀ k, k ≤ 2 → x ≠ nI k) ∧ (∃ y, r = some (.int y)) ∧ mdI h1 m A nt B md fk fp L 1))) := by
  obtain ⟨g, N, Q, M, T, D9, KN, e1, e2, ML, e0⟩ := I
  obtain ⟨t1, t2, t3⟩ := id D9
  refine Cn.of (own := RX12) rfl (by decide) (by exact Nat.le_of_ble_eq_true rfl) (by decide) (fun K hK C D _ => ?_)
  have m1 := M.1
  have Kbad : (∀ k, k ≤ 2 → x ≠ nI k) → J K 0 0 15 (jv_l [(1, .int x), (0, .ref m)]) [.int (nI 1), .ref m] h := by
    intro hno
    have X1 := mdI_th M T D9 KN e1 e2 ML 1 rfl
    first | refine J_mput C fl_X12_68 (by first | assumption | exact jv_up_at _ _ _) (by decide) (by rfl) (by rfl) dX12_told_15 ?_ | refine J_put C fl_X12_68 (by first | assumption | exact jv_up_at _ _ _ | (simp [jv_up, *]; done)) (by exact Nat.le_of_ble_eq_true rfl) (by rfl) (by rfl) dX12_told_15 ?_
    first | refine J_aload_n C rfl dX12_told_18 ?_ | refine J_aload_nq C rfl dX12_told_18 ?_ | refine J_aload_nN C rfl dX12_told_18 ?_
    refine J_get C fl_X12_68 (by first | assumption | exact jv_up_at _ _ _ | (simp [jv_up, *]; done)) (by rfl) dX12_told_19 ?_
    rw [show va_up g 0 (nI 1) 0 = nI 1 from if_pos rfl]
    refine J_nif_le C (by first | omega | (dsimp only; omega)) 27 (by decide) dX12_told_22 (fun z => ?_) (fun z => ?_)
    · omega
    · refine J_iconst C (v := nI 0) (by decide) dX12_told_25 ?_
      refine J_iret C D ⟨X1.2.2, Or.inr ⟨hno, ⟨_, rfl⟩, X1.1⟩⟩ (by omega) (by omega) dX12_told_26
  first | refine J_aload_n C rfl dX12_told_0 ?_ | refine J_aload_nq C rfl dX12_told_0 ?_ | refine J_aload_nN C rfl dX12_told_0 ?_
  refine J_iload_n C rfl dX12_told_1 ?_
  refine J_if_lt C 10 (by decide) dX12_told_2 (fun z1 => ?_) (fun z1 => ?_)
  · refine J_iconst C (v := nI 1) (by decide) dX12_told_10 ?_
    refine J_goto C 15 (by decide) dX12_told_11 ?_
    refine J_sub (by exact (And.intro rfl (And.intro rfl trivial))) (Kbad (fun k hk e => by rw [e] at z1; exact nI_pos (by omega) z1))
  · obtain ⟨k, hk, rfl⟩ := nI_of z1
    refine J_iload_n C rfl dX12_told_5 ?_
    refine J_iconst C (v := nI 2) (by decide) dX12_told_6 ?_
    refine J_nicmp_le C (by first | omega | (dsimp only; omega)) (by first | omega | (dsimp only; omega)) 14 (by decide) dX12_told_7 (fun z2 => ?_) (fun z2 => ?_)
    · have X1 := mdI_th M T D9 KN e1 e2 ML 0 rfl
      have M0 := X1.2.1
      refine J_iconst C (v := nI 0) (by decide) dX12_told_14 ?_
      first | refine J_mput C fl_X12_68 (by first | assumption | exact jv_up_at _ _ _) (by decide) (by rfl) (by rfl) dX12_told_15 ?_ | refine J_put C fl_X12_68 (by first | assumption | exact jv_up_at _ _ _ | (simp [jv_up, *]; done)) (by exact Nat.le_of_ble_eq_true rfl) (by rfl) (by rfl) dX12_told_15 ?_
      first | refine J_aload_n C rfl dX12_told_18 ?_ | refine J_aload_nq C rfl dX12_told_18 ?_ | refine J_aload_nN C rfl dX12_told_18 ?_
      refine J_get C fl_X12_68 (by first | assumption | exact jv_up_at _ _ _ | (simp [jv_up, *]; done)) (by rfl) dX12_told_19 ?_
      rw [show va_up g 0 (nI 0) 0 = nI 0 from if_pos rfl]
      obtain ⟨h0, eh0⟩ : ∃ h0, h0 = jv_up h m (mdO A (va_up g 0 (nI 0))) := ⟨_, rfl⟩
      refine J_eq (st1 := [.int (nI 0)]) (h1 := h0) rfl eh0 ?_
      rw [← eh0] at X1 M0
      clear eh0
      have m0 := M0.1
      have a5 := M0.2.1 5 _ rfl
      have g3 : va_up g 0 (nI 0) 3 = nI md.length := t1
      refine J_nif_le C (by first | omega | (dsimp only; omega)) 27 (by decide) dX12_told_22 (fun z => ?_) (fun z => ?_)
      · have fin : ∀ cnt : Nat, (k = 1 → cnt = V.length) → J K 0 0 91 (jv_l [(3, .int (nI cnt)), (2, .int (nI (dsN md))), (1, .int (nI k)), (0, .ref m)]) [] h0 := by
          intro cnt hc
          refine J_iload_n C rfl dX12_told_91 ?_
          refine J_if_ne C 102 (by decide) dX12_told_92 (fun z4 => ?_) (fun z4 => ?_)
          · have k0 : k ≠ 0 := fun e => z4 (by rw [e]; rfl)
            refine J_iload_n C rfl dX12_told_102 ?_
            refine J_iconst C (v := nI 1) (by decide) dX12_told_103 ?_
            refine J_nicmp_ne C (by first | omega | (dsimp only; omega)) (by first | omega | (dsimp only; omega)) 111 (by decide) dX12_told_104 (fun z5 => ?_) (fun z5 => ?_)
            · refine J_iload_n C rfl dX12_told_111 ?_
              refine J_iret C D ⟨X1.2.2, Or.inl ⟨k, z2, rfl, by rw [show k = 2 by omega]; rfl, X1.1⟩⟩ (by omega) (by omega) dX12_told_112
            · refine J_iload_n C rfl dX12_told_107 ?_
              refine J_goto C 112 (by decide) dX12_told_108 ?_
              refine J_iret C D ⟨X1.2.2, Or.inl ⟨k, z2, rfl, by rw [hc z5, z5]; rfl, X1.1⟩⟩ (by omega) (by omega) dX12_told_112
          · have k0 : k = 0 := nI_inj (b := 0) (by omega) (by decide) z4
            first | refine J_aload_n C rfl dX12_told_95 ?_ | refine J_aload_nq C rfl dX12_told_95 ?_ | refine J_aload_nN C rfl dX12_told_95 ?_
            refine J_get C fl_X12_85 (by first | assumption | exact jv_up_at _ _ _ | (simp [jv_up, *]; done)) (by rfl) dX12_told_96 ?_
            refine J_goto C 112 (by decide) dX12_told_99 ?_
            rw [g3]
            refine J_iret C D ⟨X1.2.2, Or.inl ⟨k, z2, rfl, by rw [k0]; rfl, X1.1⟩⟩ (by omega) (by omega) dX12_told_112
        have loop2 : ∀ (n i : Nat) (last : Int64), i + n = V.length → (V[i]? = some last ∨ (V[i]? = none ∧ last = -1)) → J K 0 0 65 (jv_l [(4, .long last), (3, .int (nI i)), (2, .int (nI (dsN md))), (1, .int (nI k)), (0, .ref m)]) [] h0 := by
          intro n
          induction n with
          | zero =>
            intro i last hi hl
            have hi : i = V.length := hi
            have hl := (hl.resolve_left (fun q => by have := (List.getElem?_eq_some_iff.mp q).1; omega)).2
            subst hl
            refine J_lload C rfl dX12_told_65 ?_
            refine J_lconst C (v := lN 0) (by decide) dX12_told_67 ?_
            refine J_lcmp C dX12_told_68 ?_
            refine J_if_lt C 91 (by decide) dX12_told_69 (fun z4 => ?_) (fun z4 => ?_)
            · refine J_sub (by exact (And.intro rfl (And.intro rfl (And.intro rfl (And.intro rfl trivial))))) (fin i (fun _ => hi))
            · exact absurd ((lg_cmp_lt _ _).mpr (by decide)) z4
          | succ n ih =>
            intro i last hi hl
            have hl := hl.resolve_right (fun q => by have := List.getElem?_eq_none_iff.mp q.1; omega)
            have hnn := lex_nn PW X hl
            refine J_lload C rfl dX12_told_65 ?_
            refine J_lconst C (v := lN 0) (by decide) dX12_told_67 ?_
            refine J_lcmp C dX12_told_68 ?_
            refine J_if_lt C 91 (by decide) dX12_told_69 (fun z4 => ?_) (fun z4 => ?_)
            · exact absurd ((lg_cmp_lt _ _).mp z4) hnn
            · refine J_iload_n C rfl dX12_told_72 ?_
              refine J_iconst C (v := nI 1) (by decide) dX12_told_73 ?_
              refine J_nicmp_ne C (by first | omega | (dsimp only; omega)) (by first | omega | (dsimp only; omega)) 91 (by decide) dX12_told_74 (fun z5 => ?_) (fun z5 => ?_)
              · refine J_sub (by exact (And.intro rfl (And.intro rfl (And.intro rfl (And.intro rfl trivial))))) (fin i (fun e => absurd e z5))
              · first | refine J_niinc (b := 1) C rfl (by decide) dX12_told_77 ?_ | refine J_iinc C rfl (by decide) dX12_told_77 ?_
                first | refine J_aload_n C rfl dX12_told_80 ?_ | refine J_aload_nq C rfl dX12_told_80 ?_ | refine J_aload_nN C rfl dX12_told_80 ?_
                refine J_lload C rfl dX12_told_81 ?_
                refine J_callV C (c_M_next M0 D9 PW last) cw_X12_135 (by first | assumption | exact jv_up_at _ _ _ | (simp [jv_up, *]; done)) rfl rfl rfl rfl (by exact Nat.le_of_ble_eq_true rfl) (by decide) (by omega) (by omega) dX12_told_83 ?_
                rintro _ h9 ⟨e9, next, rfl, hn⟩
                replace e9 := e9.symm
                subst e9
                refine J_lstore C (by decide) dX12_told_86 ?_
                refine J_goto C 65 (by decide) dX12_told_88 ?_
                refine J_sub (by exact (And.intro rfl (And.intro rfl (And.intro rfl (And.intro rfl (And.intro rfl trivial)))))) (ih (i + 1) next (by omega) (nx_lex X hn (nx_at X hl)))
        have loop1 : ∀ (n i : Nat), i + n = md.length → J K 0 0 31 (jv_l [(3, .int (nI i)), (2, .int (nI (dsN (md.take i)))), (1, .int (nI k)), (0, .ref m)]) [] h0 := by
          intro n
          induction n with
          | zero =>
            intro i hi
            have hi : i = md.length := hi
            refine J_iload_n C rfl dX12_told_31 ?_
            first | refine J_aload_n C rfl dX12_told_32 ?_ | refine J_aload_nq C rfl dX12_told_32 ?_ | refine J_aload_nN C rfl dX12_told_32 ?_
            refine J_get C fl_X12_85 (by first | assumption | exact jv_up_at _ _ _ | (simp [jv_up, *]; done)) (by rfl) dX12_told_33 ?_
            rw [g3]
            refine J_nicmp_ge C (by first | omega | (dsimp only; omega)) (by first | omega | (dsimp only; omega)) 54 (by decide) dX12_told_36 (fun z4 => ?_) (fun z4 => ?_)
            · rw [hi, List.take_length]
              refine J_iconst C (v := nI 0) (by decide) dX12_told_54 ?_
              refine J_istore_n C (by decide) dX12_told_55 ?_
              first | refine J_aload_n C rfl dX12_told_56 ?_ | refine J_aload_nq C rfl dX12_told_56 ?_ | refine J_aload_nN C rfl dX12_told_56 ?_
              refine J_ldc2 C kl_X12_133 dX12_told_57 ?_
              refine J_callV C (c_M_next M0 D9 PW (-1)) cw_X12_135 (by first | assumption | exact jv_up_at _ _ _ | (simp [jv_up, *]; done)) rfl rfl rfl rfl (by exact Nat.le_of_ble_eq_true rfl) (by decide) (by omega) (by omega) dX12_told_60 ?_
              rintro _ h9 ⟨e9, next, rfl, hn⟩
              replace e9 := e9.symm
              subst e9
              refine J_lstore C (by decide) dX12_told_63 ?_
              refine J_sub (by exact (And.intro rfl (And.intro rfl (And.intro rfl (And.intro rfl (And.intro rfl trivial)))))) (loop2 V.length 0 next (by omega) (nx_lex X hn (lex_start PW X)))
            · omega
          | succ n ih =>
            intro i hi
            have hx := List.getElem?_eq_getElem (l := md) (i := i) (by omega)
            generalize md[i]'(by omega) = p at hx
            obtain ⟨p1, p2, p3, p4, p5⟩ := t3 i p hx
            have L0 := ih (i + 1) (by omega)
            rw [dsN_take hx] at L0
            refine J_iload_n C rfl dX12_told_31 ?_
            first | refine J_aload_n C rfl dX12_told_32 ?_ | refine J_aload_nq C rfl dX12_told_32 ?_ | refine J_aload_nN C rfl dX12_told_32 ?_
            refine J_get C fl_X12_85 (by first | assumption | exact jv_up_at _ _ _ | (simp [jv_up, *]; done)) (by rfl) dX12_told_33 ?_
            rw [g3]
            refine J_nicmp_ge C (by first | omega | (dsimp only; omega)) (by first | omega | (dsimp only; omega)) 54 (by decide) dX12_told_36 (fun z4 => ?_) (fun z4 => ?_)
            · omega
            · refine J_iload_n C rfl dX12_told_39 ?_
              first | refine J_aload_n C rfl dX12_told_40 ?_ | refine J_aload_nq C rfl dX12_told_40 ?_ | refine J_aload_nN C rfl dX12_told_40 ?_
              refine J_get C fl_X12_16 (by first | assumption | exact jv_up_at _ _ _ | (simp [jv_up, *]; done)) (by rfl) dX12_told_41 ?_
              refine J_iload_n C rfl dX12_told_44 ?_
              refine J_iald C (by first | assumption | exact jv_up_at _ _ _ | (simp [jv_up, *]; done)) rfl (by omega) (by omega) dX12_told_45 ?_
              rw [p3]
              first | refine J_niadd C dX12_told_46 ?_ | refine J_iadd C dX12_told_46 ?_
              refine J_istore_n C (by decide) dX12_told_47 ?_
              first | refine J_niinc (b := 1) C rfl (by decide) dX12_told_48 ?_ | refine J_iinc C rfl (by decide) dX12_told_48 ?_
              refine J_goto C 31 (by decide) dX12_told_51 ?_
              refine J_sub (by exact (And.intro rfl (And.intro rfl (And.intro rfl (And.intro rfl trivial))))) (L0)
        refine J_iconst C (v := nI 0) (by decide) dX12_told_27 ?_
        refine J_istore_n C (by decide) dX12_told_28 ?_
        refine J_iconst C (v := nI 0) (by decide) dX12_told_29 ?_
        refine J_istore_n C (by decide) dX12_told_30 ?_
        refine J_sub (by exact (And.intro rfl (And.intro rfl (And.intro rfl (And.intro rfl trivial))))) (loop1 md.length 0 (by omega))
      · omega
    · refine J_iconst C (v := nI 1) (by decide) dX12_told_10 ?_
      refine J_goto C 15 (by decide) dX12_told_11 ?_
      refine J_sub (by exact (And.intro rfl (And.intro rfl trivial))) (Kbad (fun j hj e => by have e := nI_inj (by omega) (by omega) e; omega))
set_option maxHeartbeats 1000000 in
theorem c_M_word (I : mdI h m A nt B md fk fp L th) (PW : posW md) (X : isLex md V) (hV : V.length ≤ 30000) (x : Int32) : Cn l yX12_word cX12_word 7 (some .long) 2 0 0 [.ref m, .int x] h (fun r h1 => fr (mdS m A) h h1 ∧ mdI h1 m A nt B md fk fp L 0 ∧ ((r = some (.long (-1)) ∧ ∀ k, k < V.length → x ≠ nI k) ∨ ∃ k w, x = nI k ∧ V[k]? = some w ∧ r = some (.long (sp_turn w 12)))) := by
  obtain ⟨g, N, Q, M, T, D9, KN, e1, e2, ML, e0⟩ := I
  obtain ⟨t1, t2, t3⟩ := id D9
  refine Cn.of (own := RX12) rfl (by decide) (by exact Nat.le_of_ble_eq_true rfl) (by decide) (fun K hK C D _ => ?_)
  have m1 := M.1
  have X1 := mdI_th M T D9 KN e1 e2 ML 0 rfl
  have M0 := X1.2.1
  first | refine J_aload_n C rfl dX12_word_0 ?_ | refine J_aload_nq C rfl dX12_word_0 ?_ | refine J_aload_nN C rfl dX12_word_0 ?_
  refine J_iconst C (v := nI 0) (by decide) dX12_word_1 ?_
  first | refine J_mput C fl_X12_68 (by first | assumption | exact jv_up_at _ _ _) (by decide) (by rfl) (by rfl) dX12_word_2 ?_ | refine J_put C fl_X12_68 (by first | assumption | exact jv_up_at _ _ _ | (simp [jv_up, *]; done)) (by exact Nat.le_of_ble_eq_true rfl) (by rfl) (by rfl) dX12_word_2 ?_
  obtain ⟨h0, eh0⟩ : ∃ h0, h0 = jv_up h m (mdO A (va_up g 0 (nI 0))) := ⟨_, rfl⟩
  refine J_eq (st1 := []) (h1 := h0) rfl eh0 ?_
  rw [← eh0] at X1 M0
  clear eh0
  have m0 := M0.1
  refine J_iload_n C rfl dX12_word_5 ?_
  refine J_if_ge C 13 (by decide) dX12_word_6 (fun z1 => ?_) (fun z1 => ?_)
  · obtain ⟨k, hk, rfl⟩ := nI_of (x := x) (Int32.not_lt.mpr z1)
    have fin : ∀ (last : Int64), (V[k]? = some last ∨ (last = -1 ∧ V.length ≤ k)) → J K 0 0 48 (jv_l [(2, .long last), (1, .int (nI k)), (0, .ref m)]) [] h0 := by
      intro last hl
      refine J_lload_n C rfl dX12_word_48 ?_
      refine J_lconst C (v := lN 0) (by decide) dX12_word_49 ?_
      refine J_lcmp C dX12_word_50 ?_
      rcases hl with hl | ⟨hl, hkl⟩
      · refine J_if_ge C 58 (by decide) dX12_word_51 (fun z2 => ?_) (fun z2 => ?_)
        · have loop3 : ∀ n i : Nat, i + n = 12 → J K 0 0 64 (jv_l [(6, .int (nI i)), (4, .long (sp_turn last i)), (2, .long last), (0, .ref m)]) [] h0 := by
            intro n
            induction n with
            | zero =>
              intro i hi
              have hi : i = 12 := hi
              refine J_iload C rfl dX12_word_64 ?_
              refine J_bipush C (v := nI 12) (by decide) dX12_word_66 ?_
              refine J_nicmp_ge C (by first | omega | (dsimp only; omega)) (by first | omega | (dsimp only; omega)) 100 (by decide) dX12_word_68 (fun z3 => ?_) (fun z3 => ?_)
              · refine J_lload C rfl dX12_word_100 ?_
                refine J_lret C D ⟨X1.2.2, X1.1, Or.inr ⟨k, last, rfl, hl, by rw [hi]⟩⟩ (by omega) (by omega) dX12_word_102
              · omega
            | succ n ih =>
              intro i hi
              refine J_iload C rfl dX12_word_64 ?_
              refine J_bipush C (v := nI 12) (by decide) dX12_word_66 ?_
              refine J_nicmp_ge C (by first | omega | (dsimp only; omega)) (by first | omega | (dsimp only; omega)) 100 (by decide) dX12_word_68 (fun z3 => ?_) (fun z3 => ?_)
              · omega
              · have L0 := ih (i + 1) (by omega)
                unfold sp_turn at L0
                rw [← w_55 (p := i) (by omega)] at L0
                refine J_lload C rfl dX12_word_71 ?_
                refine J_lload_n C rfl dX12_word_73 ?_
                refine J_bipush C (v := nI 55) (by decide) dX12_word_74 ?_
                refine J_iconst C (v := nI 5) (by decide) dX12_word_76 ?_
                refine J_iload C rfl dX12_word_77 ?_
                first | refine J_nimul C dX12_word_79 ?_ | refine J_imul C dX12_word_79 ?_
                first | refine J_nisub C (by omega) dX12_word_80 ?_ | refine J_isub C dX12_word_80 ?_
                refine J_lshr C dX12_word_81 ?_
                refine J_ldc2 C kl_X12_139 dX12_word_82 ?_
                refine J_land C dX12_word_85 ?_
                refine J_iconst C (v := nI 5) (by decide) dX12_word_86 ?_
                refine J_iload C rfl dX12_word_87 ?_
                first | refine J_nimul C dX12_word_89 ?_ | refine J_imul C dX12_word_89 ?_
                refine J_lshl C dX12_word_90 ?_
                refine J_lor C dX12_word_91 ?_
                refine J_lstore C (by decide) dX12_word_92 ?_
                first | refine J_niinc (b := 1) C rfl (by decide) dX12_word_94 ?_ | refine J_iinc C rfl (by decide) dX12_word_94 ?_
                refine J_goto C 64 (by decide) dX12_word_97 ?_
                refine J_sub (by exact (And.intro rfl (And.intro rfl (And.intro rfl (And.intro rfl trivial))))) (L0)
          refine J_lconst C (v := lN 0) (by decide) dX12_word_58 ?_
          refine J_lstore C (by decide) dX12_word_59 ?_
          refine J_iconst C (v := nI 0) (by decide) dX12_word_61 ?_
          refine J_istore C (by decide) dX12_word_62 ?_
          refine J_sub (by exact (And.intro rfl (And.intro rfl (And.intro rfl (And.intro rfl trivial))))) (loop3 12 0 (by omega))
        · exact absurd ((lg_cmp_ge _ _).mpr (Int64.not_lt.mp (lex_nn PW X hl))) z2
      · subst hl
        refine J_if_ge C 58 (by decide) dX12_word_51 (fun z2 => ?_) (fun z2 => ?_)
        · exact absurd ((lg_cmp_ge _ _).mp z2) (by decide)
        · refine J_ldc2 C kl_X12_133 dX12_word_54 ?_
          refine J_lret C D ⟨X1.2.2, X1.1, Or.inl ⟨rfl, fun j hj e => by have e := nI_inj (by omega) (by omega) e; omega⟩⟩ (by omega) (by omega) dX12_word_57
    have loop : ∀ (n i : Nat) (last : Int64), i + n = V.length → i ≤ k → (V[i]? = some last ∨ (V[i]? = none ∧ last = -1)) → J K 0 0 24 (jv_l [(4, .int (nI i)), (2, .long last), (1, .int (nI k)), (0, .ref m)]) [] h0 := by
      intro n
      induction n with
      | zero =>
        intro i last hi hik hl
        have hi : i = V.length := hi
        have hl := (hl.resolve_left (fun q => by have := (List.getElem?_eq_some_iff.mp q).1; omega)).2
        subst hl
        refine J_iload C rfl dX12_word_24 ?_
        refine J_iload_n C rfl dX12_word_26 ?_
        refine J_nicmp_ge C (by first | omega | (dsimp only; omega)) (by first | omega | (dsimp only; omega)) 48 (by decide) dX12_word_27 (fun z4 => ?_) (fun z4 => ?_)
        · refine J_sub (by exact (And.intro rfl (And.intro rfl (And.intro rfl trivial)))) (fin (-1) (Or.inr ⟨rfl, by omega⟩))
        · refine J_lload_n C rfl dX12_word_30 ?_
          refine J_lconst C (v := lN 0) (by decide) dX12_word_31 ?_
          refine J_lcmp C dX12_word_32 ?_
          refine J_if_lt C 48 (by decide) dX12_word_33 (fun z5 => ?_) (fun z5 => ?_)
          · refine J_sub (by exact (And.intro rfl (And.intro rfl (And.intro rfl trivial)))) (fin (-1) (Or.inr ⟨rfl, by omega⟩))
          · exact absurd ((lg_cmp_lt _ _).mpr (by decide)) z5
      | succ n ih =>
        intro i last hi hik hl
        have hl := hl.resolve_right (fun q => by have := List.getElem?_eq_none_iff.mp q.1; omega)
        have hnn := lex_nn PW X hl
        refine J_iload C rfl dX12_word_24 ?_
        refine J_iload_n C rfl dX12_word_26 ?_
        refine J_nicmp_ge C (by first | omega | (dsimp only; omega)) (by first | omega | (dsimp only; omega)) 48 (by decide) dX12_word_27 (fun z4 => ?_) (fun z4 => ?_)
        · have : i = k := by omega
          subst this
          refine J_sub (by exact (And.intro rfl (And.intro rfl (And.intro rfl trivial)))) (fin last (Or.inl hl))
        · refine J_lload_n C rfl dX12_word_30 ?_
          refine J_lconst C (v := lN 0) (by decide) dX12_word_31 ?_
          refine J_lcmp C dX12_word_32 ?_
          refine J_if_lt C 48 (by decide) dX12_word_33 (fun z5 => ?_) (fun z5 => ?_)
          · exact absurd ((lg_cmp_lt _ _).mp z5) hnn
          · first | refine J_aload_n C rfl dX12_word_36 ?_ | refine J_aload_nq C rfl dX12_word_36 ?_ | refine J_aload_nN C rfl dX12_word_36 ?_
            refine J_lload_n C rfl dX12_word_37 ?_
            refine J_callV C (c_M_next M0 D9 PW last) cw_X12_135 (by first | assumption | exact jv_up_at _ _ _ | (simp [jv_up, *]; done)) rfl rfl rfl rfl (by exact Nat.le_of_ble_eq_true rfl) (by decide) (by omega) (by omega) dX12_word_38 ?_
            rintro _ h9 ⟨e9, next, rfl, hn⟩
            replace e9 := e9.symm
            subst e9
            refine J_lstore_n C (by decide) dX12_word_41 ?_
            first | refine J_niinc (b := 1) C rfl (by decide) dX12_word_42 ?_ | refine J_iinc C rfl (by decide) dX12_word_42 ?_
            refine J_goto C 24 (by decide) dX12_word_45 ?_
            refine J_sub (by exact (And.intro rfl (And.intro rfl (And.intro rfl (And.intro rfl trivial))))) (ih (i + 1) next (by omega) (by omega) (nx_lex X hn (nx_at X hl)))
    first | refine J_aload_n C rfl dX12_word_13 ?_ | refine J_aload_nq C rfl dX12_word_13 ?_ | refine J_aload_nN C rfl dX12_word_13 ?_
    refine J_ldc2 C kl_X12_133 dX12_word_14 ?_
    refine J_callV C (c_M_next M0 D9 PW (-1)) cw_X12_135 (by first | assumption | exact jv_up_at _ _ _ | (simp [jv_up, *]; done)) rfl rfl rfl rfl (by exact Nat.le_of_ble_eq_true rfl) (by decide) (by omega) (by omega) dX12_word_17 ?_
    rintro _ h9 ⟨e9, next, rfl, hn⟩
    replace e9 := e9.symm
    subst e9
    refine J_lstore_n C (by decide) dX12_word_20 ?_
    refine J_iconst C (v := nI 0) (by decide) dX12_word_21 ?_
    refine J_istore C (by decide) dX12_word_22 ?_
    refine J_sub (by exact (And.intro rfl (And.intro rfl (And.intro rfl (And.intro rfl trivial))))) (loop V.length 0 next (by omega) (Nat.zero_le _) (nx_lex X hn (lex_start PW X)))
  · refine J_ldc2 C kl_X12_133 dX12_word_9 ?_
    refine J_lret C D ⟨X1.2.2, X1.1, Or.inl ⟨rfl, fun k hk e => z1 (by rw [e]; exact nI_pos' (by omega))⟩⟩ (by omega) (by omega) dX12_word_12
end MTOLD
