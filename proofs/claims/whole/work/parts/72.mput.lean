/-! the model: readWords, remove, put, drop, having, rarity, about -/
section MPUT
variable {l : jL} {h : jH} {m : Nat} {A : Nat → Nat} {g : Nat → Int32} {N : Nat → Nat → Int32} {Q : Nat → Nat → Int64} {md : dsT} {nt : Nat} {B : Nat → Nat} {fk th : Nat} {fp : Int32} {L : List hiT}
/-- the words of the tape lie ready -/
def mdW (g : Nat → Int32) (Q : Nat → Nat → Int64) (ws : List Int64) : Prop := g 7 = nI ws.length ∧ ∀ i w, ws[i]? = some w → Q 8 i = w
set_option maxHeartbeats 1000000 in
theorem c_M_readWords (M : mdl h m A g N Q) (T : mdT g N nt B) : Cn l yX12_readWords cX12_readWords 6 none 2 0 0 [.ref m] h (fun r h1 => r = none ∧ fr (mdS m A) h h1 ∧ ∃ g' Q', mdl h1 m A g' N Q' ∧ (∀ k, k ≠ 7 → g' k = g k) ∧ (∀ k, k ≠ 8 → Q' k = Q k) ∧ mdW g' Q' (sp_text B nt)) := by
  obtain ⟨t1, t2, t3⟩ := id T
  have m1 := M.1
  have htx := rd_text B t2
  have htl : (sp_text B nt).length ≤ 200 := sp_wds_len _ _ _ _
  refine Cn.of (own := RX12) rfl (by decide) (by exact Nat.le_of_ble_eq_true rfl) (by decide) (fun K hK C D _ => ?_)
  have loop : ∀ (n k : Nat) (w : Int64) (c : Nat) (acc : List Int64) (g' : Nat → Int32) (Q' : Nat → Nat → Int64) (h' : jH), k + n = nt → c ≤ 400 → acc ++ rd B n k w c = sp_text B nt → fr (mdS m A) h h' → mdl h' m A g' N Q' → (∀ k, k ≠ 7 → g' k = g k) → (∀ k, k ≠ 8 → Q' k = Q k) → g' 7 = nI acc.length → (∀ i u, acc[i]? = some u → Q' 8 i = u) → c ≤ k → (c = 0 → w = lN 0) → J K 0 0 12 (jv_l [(4, .int (nI k)), (3, .int (nI c)), (1, .long w), (0, .ref m)]) [] h' := by
    intro n
    induction n with
    | zero =>
      intro k w c acc g' Q' h' hk hc he F M' g2 q2 g7 q8 hck hw0
      have hk : k = nt := hk
      have m1' := M'.1
      have g1 : g' 1 = nI nt := (g2 1 (by decide)).trans t1
      refine J_iload C rfl dX12_readWords_12 ?_
      first | refine J_aload_n C rfl dX12_readWords_14 ?_ | refine J_aload_nq C rfl dX12_readWords_14 ?_ | refine J_aload_nN C rfl dX12_readWords_14 ?_
      refine J_get C fl_X12_74 (by first | assumption | exact jv_up_at _ _ _ | (simp [jv_up, *]; done)) (by rfl) dX12_readWords_15 ?_
      rw [g1]
      refine J_nicmp_gt C (by first | omega | (dsimp only; omega)) (by first | omega | (dsimp only; omega)) 109 (by decide) dX12_readWords_18 (fun z1 => ?_) (fun z1 => ?_)
      · omega
      · refine J_iload C rfl dX12_readWords_21 ?_
        first | refine J_aload_n C rfl dX12_readWords_23 ?_ | refine J_aload_nq C rfl dX12_readWords_23 ?_ | refine J_aload_nN C rfl dX12_readWords_23 ?_
        refine J_get C fl_X12_74 (by first | assumption | exact jv_up_at _ _ _ | (simp [jv_up, *]; done)) (by rfl) dX12_readWords_24 ?_
        rw [g1]
        refine J_nicmp_ge C (by first | omega | (dsimp only; omega)) (by first | omega | (dsimp only; omega)) 43 (by decide) dX12_readWords_27 (fun z2 => ?_) (fun z2 => ?_)
        · have K103 : ∀ (h2 : jH), (∃ g' Q', mdl h2 m A g' N Q' ∧ (∀ k, k ≠ 7 → g' k = g k) ∧ (∀ k, k ≠ 8 → Q' k = Q k) ∧ mdW g' Q' (sp_text B nt)) → fr (mdS m A) h h2 → J K 0 0 103 (jv_l [(4, .int (nI k)), (0, .ref m)]) [] h2 := by
            intro h2 P F2
            obtain ⟨g3, Q3, M3, g4, q4, W4⟩ := id P
            have m3 := M3.1
            have g31 : g3 1 = nI nt := (g4 1 (by decide)).trans t1
            first | refine J_niinc (b := 1) C rfl (by decide) dX12_readWords_103 ?_ | refine J_iinc C rfl (by decide) dX12_readWords_103 ?_
            refine J_goto C 12 (by decide) dX12_readWords_106 ?_
            refine J_iload C rfl dX12_readWords_12 ?_
            first | refine J_aload_n C rfl dX12_readWords_14 ?_ | refine J_aload_nq C rfl dX12_readWords_14 ?_ | refine J_aload_nN C rfl dX12_readWords_14 ?_
            refine J_get C fl_X12_74 (by first | assumption | exact jv_up_at _ _ _ | (simp [jv_up, *]; done)) (by rfl) dX12_readWords_15 ?_
            rw [g31]
            refine J_nicmp_gt C (by first | omega | (dsimp only; omega)) (by first | omega | (dsimp only; omega)) 109 (by decide) dX12_readWords_18 (fun z3 => ?_) (fun z3 => ?_)
            · refine J_vret C D ⟨rfl, F2, P⟩ (by omega) (by omega) dX12_readWords_109
            · omega
          refine J_iconst C (v := nI 0) (by decide) dX12_readWords_43 ?_
          refine J_istore C (by decide) dX12_readWords_44 ?_
          refine J_iload C rfl dX12_readWords_46 ?_
          refine J_nif_le C (by first | omega | (dsimp only; omega)) 75 (by decide) dX12_readWords_48 (fun z4 => ?_) (fun z4 => ?_)
          · refine J_iload_n C rfl dX12_readWords_75 ?_
            refine J_nif_le C (by first | omega | (dsimp only; omega)) 103 (by decide) dX12_readWords_76 (fun z5 => ?_) (fun z5 => ?_)
            · have e0 : rd B 0 k w c = [] := if_neg (by omega)
              rw [e0, List.append_nil] at he
              refine J_sub (by exact (And.intro rfl (And.intro rfl trivial))) (K103 h' ⟨g', Q', M', g2, q2, by rw [← he]; exact ⟨g7, q8⟩⟩ F)
            · have e0 : rd B 0 k w c = [w] := if_pos z5
              rw [e0] at he
              have hlen : acc.length < 200 := by
                have := congrArg List.length he
                rw [List.length_append, List.length_singleton] at this
                omega
              have a8 := M'.2.1 8 _ rfl
              first | refine J_aload_n C rfl dX12_readWords_79 ?_ | refine J_aload_nq C rfl dX12_readWords_79 ?_ | refine J_aload_nN C rfl dX12_readWords_79 ?_
              refine J_get C fl_X12_23 (by first | assumption | exact jv_up_at _ _ _ | (simp [jv_up, *]; done)) (by rfl) dX12_readWords_80 ?_
              first | refine J_aload_n C rfl dX12_readWords_83 ?_ | refine J_aload_nq C rfl dX12_readWords_83 ?_ | refine J_aload_nN C rfl dX12_readWords_83 ?_
              refine J_get C fl_X12_71 (by first | assumption | exact jv_up_at _ _ _ | (simp [jv_up, *]; done)) (by rfl) dX12_readWords_84 ?_
              refine J_lload_n C rfl dX12_readWords_87 ?_
              rw [g7]
              refine J_last C (by first | assumption | exact jv_up_at _ _ _ | (simp [jv_up, *]; done)) rfl (by omega) (by omega) dX12_readWords_88 ?_
              have M2 := mdl_Q M' 8 (u := vp_updL (Q' 8) acc.length w) rfl rfl
              have m2 := M2.1
              first | refine J_aload_n C rfl dX12_readWords_89 ?_ | refine J_aload_nq C rfl dX12_readWords_89 ?_ | refine J_aload_nN C rfl dX12_readWords_89 ?_
              refine J_dup C rfl dX12_readWords_90 ?_
              refine J_get C fl_X12_71 (by first | assumption | exact jv_up_at _ _ _ | (simp [jv_up, *]; done)) (by rfl) dX12_readWords_91 ?_
              refine J_iconst C (v := nI 1) (by decide) dX12_readWords_94 ?_
              rw [g7]
              first | refine J_niadd C dX12_readWords_95 ?_ | refine J_iadd C dX12_readWords_95 ?_
              first | refine J_mput C fl_X12_71 (by first | assumption | exact jv_up_at _ _ _) (by decide) (by rfl) (by rfl) dX12_readWords_96 ?_ | refine J_put C fl_X12_71 (by first | assumption | exact jv_up_at _ _ _ | (simp [jv_up, *]; done)) (by exact Nat.le_of_ble_eq_true rfl) (by rfl) (by rfl) dX12_readWords_96 ?_
              refine J_lconst C (v := lN 0) (by decide) dX12_readWords_99 ?_
              refine J_lstore_n C (by decide) dX12_readWords_100 ?_
              refine J_iconst C (v := nI 0) (by decide) dX12_readWords_101 ?_
              refine J_istore_n C (by decide) dX12_readWords_102 ?_
              refine J_sub (by exact (And.intro rfl (And.intro rfl trivial))) (K103 _ ⟨_, _, mdl_s M2 (va_up g' 7 (nI (acc.length + 1))), fun k hk => (if_neg hk).trans (g2 k hk), fun k hk => (if_neg hk).trans (q2 k hk), by rw [← he, List.length_append, List.length_singleton]; exact if_pos rfl, fun i u hi => ?_⟩ (fr_tr (fr_tr F (mdS_up 8 rfl _)) (fr_up (Or.inl rfl))))
              show vp_updL (Q' 8) acc.length w i = u
              rw [← he] at hi
              by_cases c9 : i = acc.length
              · rw [c9, List.getElem?_append_right (Nat.le_refl _), Nat.sub_self] at hi
                cases hi
                rw [c9]
                exact if_pos rfl
              · have hil := (List.getElem?_eq_some_iff.mp hi).1
                rw [List.length_append, List.length_singleton] at hil
                rw [List.getElem?_append_left (by omega)] at hi
                exact (if_neg c9).trans (q8 i u hi)
          · omega
        · omega
    | succ n ih =>
      intro k w c acc g' Q' h' hk hc he F M' g2 q2 g7 q8 hck hw0
      have m1' := M'.1
      have a2 := M'.2.1 2 _ rfl
      have g1 : g' 1 = nI nt := (g2 1 (by decide)).trans t1
      obtain ⟨b1, b2⟩ := t3 k (by omega)
      have hlt := sp_let_lt (B k)
      refine J_iload C rfl dX12_readWords_12 ?_
      first | refine J_aload_n C rfl dX12_readWords_14 ?_ | refine J_aload_nq C rfl dX12_readWords_14 ?_ | refine J_aload_nN C rfl dX12_readWords_14 ?_
      refine J_get C fl_X12_74 (by first | assumption | exact jv_up_at _ _ _ | (simp [jv_up, *]; done)) (by rfl) dX12_readWords_15 ?_
      rw [g1]
      refine J_nicmp_gt C (by first | omega | (dsimp only; omega)) (by first | omega | (dsimp only; omega)) 109 (by decide) dX12_readWords_18 (fun z1 => ?_) (fun z1 => ?_)
      · omega
      · refine J_iload C rfl dX12_readWords_21 ?_
        first | refine J_aload_n C rfl dX12_readWords_23 ?_ | refine J_aload_nq C rfl dX12_readWords_23 ?_ | refine J_aload_nN C rfl dX12_readWords_23 ?_
        refine J_get C fl_X12_74 (by first | assumption | exact jv_up_at _ _ _ | (simp [jv_up, *]; done)) (by rfl) dX12_readWords_24 ?_
        rw [g1]
        refine J_nicmp_ge C (by first | omega | (dsimp only; omega)) (by first | omega | (dsimp only; omega)) 43 (by decide) dX12_readWords_27 (fun z2 => ?_) (fun z2 => ?_)
        · omega
        · first | refine J_aload_n C rfl dX12_readWords_30 ?_ | refine J_aload_nq C rfl dX12_readWords_30 ?_ | refine J_aload_nN C rfl dX12_readWords_30 ?_
          refine J_get C fl_X12_7 (by first | assumption | exact jv_up_at _ _ _ | (simp [jv_up, *]; done)) (by rfl) dX12_readWords_31 ?_
          refine J_iload C rfl dX12_readWords_34 ?_
          refine J_iald C (by first | assumption | exact jv_up_at _ _ _ | (simp [jv_up, *]; done)) rfl (by omega) (by omega) dX12_readWords_36 ?_
          rw [b1]
          refine J_callS C (c_M_letterOf (B k) (by omega)) cw_X12_77 rfl rfl (by exact Nat.le_of_ble_eq_true rfl) (by decide) (by omega) (by omega) dX12_readWords_37 ?_
          rintro _ h9 ⟨rfl, e9⟩
          replace e9 := e9.symm
          subst e9
          refine J_goto C 44 (by decide) dX12_readWords_40 ?_
          refine J_istore C (by decide) dX12_readWords_44 ?_
          refine J_iload C rfl dX12_readWords_46 ?_
          refine J_nif_le C (by first | omega | (dsimp only; omega)) 75 (by decide) dX12_readWords_48 (fun z4 => ?_) (fun z4 => ?_)
          · have hu : rd B (n + 1) k w c = if 0 < c then w :: rd B n (k + 1) (lN 0) 0 else rd B n (k + 1) (lN 0) 0 := by
              show (if 0 < sp_let (B k) then _ else _) = _
              rw [if_neg (by omega)]
            rw [hu] at he
            refine J_iload_n C rfl dX12_readWords_75 ?_
            refine J_nif_le C (by first | omega | (dsimp only; omega)) 103 (by decide) dX12_readWords_76 (fun z5 => ?_) (fun z5 => ?_)
            · rw [if_neg (by omega)] at he
              have hc0 : c = 0 := by omega
              subst hc0
              have hw := hw0 rfl
              subst hw
              first | refine J_niinc (b := 1) C rfl (by decide) dX12_readWords_103 ?_ | refine J_iinc C rfl (by decide) dX12_readWords_103 ?_
              refine J_goto C 12 (by decide) dX12_readWords_106 ?_
              refine J_sub (by exact (And.intro rfl (And.intro rfl (And.intro rfl (And.intro rfl trivial))))) (ih (k + 1) (lN 0) 0 acc g' Q' h' (by omega) (by omega) he F M' g2 q2 g7 q8 (Nat.zero_le _) (fun _ => rfl))
            · rw [if_pos z5] at he
              have hlen : acc.length < 200 := by
                have := congrArg List.length he
                rw [List.length_append, List.length_cons] at this
                omega
              have a8 := M'.2.1 8 _ rfl
              first | refine J_aload_n C rfl dX12_readWords_79 ?_ | refine J_aload_nq C rfl dX12_readWords_79 ?_ | refine J_aload_nN C rfl dX12_readWords_79 ?_
              refine J_get C fl_X12_23 (by first | assumption | exact jv_up_at _ _ _ | (simp [jv_up, *]; done)) (by rfl) dX12_readWords_80 ?_
              first | refine J_aload_n C rfl dX12_readWords_83 ?_ | refine J_aload_nq C rfl dX12_readWords_83 ?_ | refine J_aload_nN C rfl dX12_readWords_83 ?_
              refine J_get C fl_X12_71 (by first | assumption | exact jv_up_at _ _ _ | (simp [jv_up, *]; done)) (by rfl) dX12_readWords_84 ?_
              refine J_lload_n C rfl dX12_readWords_87 ?_
              rw [g7]
              refine J_last C (by first | assumption | exact jv_up_at _ _ _ | (simp [jv_up, *]; done)) rfl (by omega) (by omega) dX12_readWords_88 ?_
              have M2 := mdl_Q M' 8 (u := vp_updL (Q' 8) acc.length w) rfl rfl
              have m2 := M2.1
              first | refine J_aload_n C rfl dX12_readWords_89 ?_ | refine J_aload_nq C rfl dX12_readWords_89 ?_ | refine J_aload_nN C rfl dX12_readWords_89 ?_
              refine J_dup C rfl dX12_readWords_90 ?_
              refine J_get C fl_X12_71 (by first | assumption | exact jv_up_at _ _ _ | (simp [jv_up, *]; done)) (by rfl) dX12_readWords_91 ?_
              refine J_iconst C (v := nI 1) (by decide) dX12_readWords_94 ?_
              rw [g7]
              first | refine J_niadd C dX12_readWords_95 ?_ | refine J_iadd C dX12_readWords_95 ?_
              first | refine J_mput C fl_X12_71 (by first | assumption | exact jv_up_at _ _ _) (by decide) (by rfl) (by rfl) dX12_readWords_96 ?_ | refine J_put C fl_X12_71 (by first | assumption | exact jv_up_at _ _ _ | (simp [jv_up, *]; done)) (by exact Nat.le_of_ble_eq_true rfl) (by rfl) (by rfl) dX12_readWords_96 ?_
              refine J_lconst C (v := lN 0) (by decide) dX12_readWords_99 ?_
              refine J_lstore_n C (by decide) dX12_readWords_100 ?_
              refine J_iconst C (v := nI 0) (by decide) dX12_readWords_101 ?_
              refine J_istore_n C (by decide) dX12_readWords_102 ?_
              first | refine J_niinc (b := 1) C rfl (by decide) dX12_readWords_103 ?_ | refine J_iinc C rfl (by decide) dX12_readWords_103 ?_
              refine J_goto C 12 (by decide) dX12_readWords_106 ?_
              refine J_sub (by exact (And.intro rfl (And.intro rfl (And.intro rfl (And.intro rfl trivial))))) (ih (k + 1) (lN 0) 0 (acc ++ [w]) _ _ _ (by omega) (by omega) (by rw [List.append_assoc]; exact he) (fr_tr (fr_tr F (mdS_up 8 rfl _)) (fr_up (Or.inl rfl))) (mdl_s M2 (va_up g' 7 (nI (acc.length + 1)))) (fun k hk => (if_neg hk).trans (g2 k hk)) (fun k hk => (if_neg hk).trans (q2 k hk)) (by rw [List.length_append, List.length_singleton]; exact if_pos rfl) (fun i u hi => ?_) (Nat.zero_le _) (fun _ => rfl))
              show vp_updL (Q' 8) acc.length w i = u
              by_cases c9 : i = acc.length
              · rw [c9, List.getElem?_append_right (Nat.le_refl _), Nat.sub_self] at hi
                cases hi
                rw [c9]
                exact if_pos rfl
              · have hil := (List.getElem?_eq_some_iff.mp hi).1
                rw [List.length_append, List.length_singleton] at hil
                rw [List.getElem?_append_left (by omega)] at hi
                exact (if_neg c9).trans (q8 i u hi)
          · have hu : rd B (n + 1) k w c = rd B n (k + 1) (if c < 12 then sp_with w c (sp_let (B k)) else w) (c + 1) := by
              show (if 0 < sp_let (B k) then _ else _) = _
              rw [if_pos z4]
            rw [hu] at he
            refine J_iload_n C rfl dX12_readWords_51 ?_
            refine J_bipush C (v := nI 12) (by decide) dX12_readWords_52 ?_
            refine J_nicmp_ge C (by first | omega | (dsimp only; omega)) (by first | omega | (dsimp only; omega)) 67 (by decide) dX12_readWords_54 (fun z6 => ?_) (fun z6 => ?_)
            · rw [if_neg (by omega)] at he
              refine J_lload_n C rfl dX12_readWords_67 ?_
              refine J_lstore_n C (by decide) dX12_readWords_68 ?_
              first | refine J_niinc (b := 1) C rfl (by decide) dX12_readWords_69 ?_ | refine J_iinc C rfl (by decide) dX12_readWords_69 ?_
              refine J_goto C 103 (by decide) dX12_readWords_72 ?_
              first | refine J_niinc (b := 1) C rfl (by decide) dX12_readWords_103 ?_ | refine J_iinc C rfl (by decide) dX12_readWords_103 ?_
              refine J_goto C 12 (by decide) dX12_readWords_106 ?_
              refine J_sub (by exact (And.intro rfl (And.intro rfl (And.intro rfl (And.intro rfl trivial))))) (ih (k + 1) w (c + 1) acc g' Q' h' (by omega) (by omega) he F M' g2 q2 g7 q8 (by omega) (fun q => by omega))
            · rw [if_pos z6] at he
              refine J_lload_n C rfl dX12_readWords_57 ?_
              refine J_iload_n C rfl dX12_readWords_58 ?_
              refine J_iload C rfl dX12_readWords_59 ?_
              refine J_callS C (c_M_with w c (sp_let (B k)) z6) cw_X12_81 rfl rfl (by exact Nat.le_of_ble_eq_true rfl) (by decide) (by omega) (by omega) dX12_readWords_61 ?_
              rintro _ h9 ⟨rfl, e9⟩
              replace e9 := e9.symm
              subst e9
              refine J_goto C 68 (by decide) dX12_readWords_64 ?_
              refine J_lstore_n C (by decide) dX12_readWords_68 ?_
              first | refine J_niinc (b := 1) C rfl (by decide) dX12_readWords_69 ?_ | refine J_iinc C rfl (by decide) dX12_readWords_69 ?_
              refine J_goto C 103 (by decide) dX12_readWords_72 ?_
              first | refine J_niinc (b := 1) C rfl (by decide) dX12_readWords_103 ?_ | refine J_iinc C rfl (by decide) dX12_readWords_103 ?_
              refine J_goto C 12 (by decide) dX12_readWords_106 ?_
              refine J_sub (by exact (And.intro rfl (And.intro rfl (And.intro rfl (And.intro rfl trivial))))) (ih (k + 1) (sp_with w c (sp_let (B k))) (c + 1) acc g' Q' h' (by omega) (by omega) he F M' g2 q2 g7 q8 (by omega) (fun q => by omega))
  first | refine J_aload_n C rfl dX12_readWords_0 ?_ | refine J_aload_nq C rfl dX12_readWords_0 ?_ | refine J_aload_nN C rfl dX12_readWords_0 ?_
  refine J_iconst C (v := nI 0) (by decide) dX12_readWords_1 ?_
  first | refine J_mput C fl_X12_71 (by first | assumption | exact jv_up_at _ _ _) (by decide) (by rfl) (by rfl) dX12_readWords_2 ?_ | refine J_put C fl_X12_71 (by first | assumption | exact jv_up_at _ _ _ | (simp [jv_up, *]; done)) (by exact Nat.le_of_ble_eq_true rfl) (by rfl) (by rfl) dX12_readWords_2 ?_
  refine J_lconst C (v := lN 0) (by decide) dX12_readWords_5 ?_
  refine J_lstore_n C (by decide) dX12_readWords_6 ?_
  refine J_iconst C (v := nI 0) (by decide) dX12_readWords_7 ?_
  refine J_istore_n C (by decide) dX12_readWords_8 ?_
  refine J_iconst C (v := nI 0) (by decide) dX12_readWords_9 ?_
  refine J_istore C (by decide) dX12_readWords_10 ?_
  refine J_sub (by exact (And.intro rfl (And.intro rfl (And.intro rfl (And.intro rfl trivial))))) (loop nt 0 (lN 0) 0 [] _ Q _ (by omega) (by omega) (by rw [htx]; rfl) (fr_up (Or.inl rfl)) (mdl_s M (va_up g 7 (nI 0))) (fun k hk => if_neg hk) (fun _ _ => rfl) (if_pos rfl) (fun i u hi => by cases hi) (Nat.zero_le _) (fun _ => rfl))
theorem c_M_having (M : mdl h m A g N Q) (D9 : mdD g N Q md) (KN : mdKn g N Q md) (w : Int64) : Cn l yX12_having cX12_having 3 (some .int) 5 0 0 [.ref m, .long w] h (fun r h1 => r = some (.int (nI (dsH md w))) ∧ fr (mdS m A) h h1 ∧ ∃ N' Q', mdl h1 m A (va_up g 22 (nI 1)) N' Q' ∧ (∀ i, i ≠ 23 → i ≠ 24 → i ≠ 26 → N' i = N i) ∧ (∀ i, i ≠ 25 → Q' i = Q i) ∧ known N' Q' md) := by
  refine Cn.of (own := RX12) rfl (by decide) (by exact Nat.le_of_ble_eq_true rfl) (by decide) (fun K hK C D _ => ?_)
  have m1 := M.1
  first | refine J_aload_n C rfl dX12_having_0 ?_ | refine J_aload_nq C rfl dX12_having_0 ?_ | refine J_aload_nN C rfl dX12_having_0 ?_
  refine J_callV C (c_M_know M D9 KN) cw_X12_112 (by first | assumption | exact jv_up_at _ _ _ | (simp [jv_up, *]; done)) rfl rfl rfl rfl (by exact Nat.le_of_ble_eq_true rfl) (by decide) (by omega) (by omega) dX12_having_1 ?_
  rintro _ h1 ⟨rfl, F, N', Q', M', n1, q1, kn⟩
  have m1' := M'.1
  have a26 := M'.2.1 26 _ rfl
  obtain ⟨⟨c, Ws, c1, c2, c3⟩, k2⟩ := id kn
  have hcb : ∀ s, s < 32768 → c s ≤ 1000 := hc_le c2 c3 (fun w => by have := dsH_le md w; have := D9.2.1; omega)
  first | refine J_aload_n C rfl dX12_having_4 ?_ | refine J_aload_nq C rfl dX12_having_4 ?_ | refine J_aload_nN C rfl dX12_having_4 ?_
  refine J_get C fl_X12_65 (by first | assumption | exact jv_up_at _ _ _ | (simp [jv_up, *]; done)) (by rfl) dX12_having_5 ?_
  first | refine J_aload_n C rfl dX12_having_8 ?_ | refine J_aload_nq C rfl dX12_having_8 ?_ | refine J_aload_nN C rfl dX12_having_8 ?_
  refine J_lload_n C rfl dX12_having_9 ?_
  refine J_callV C (c_M_spot M' c1 hcb c2 w) cw_X12_102 (by first | assumption | exact jv_up_at _ _ _ | (simp [jv_up, *]; done)) rfl rfl rfl rfl (by exact Nat.le_of_ble_eq_true rfl) (by decide) (by omega) (by omega) dX12_having_10 ?_
  rintro _ h9 ⟨e9, s, hs, rfl, hP9⟩
  replace e9 := e9.symm
  subst e9
  refine J_iald C (by first | assumption | exact jv_up_at _ _ _ | (simp [jv_up, *]; done)) rfl (by omega) (by omega) dX12_having_13 ?_
  rw [c1 s hs, hP_cnt c2 hP9 (c3 w)]
  refine J_iret C D ⟨rfl, F, N', Q', M', n1, q1, kn⟩ (by omega) (by omega) dX12_having_14
theorem c_M_rarity (M : mdl h m A g N Q) (D9 : mdD g N Q md) (KN : mdKn g N Q md) (w : Int64) : Cn l yX12_rarity cX12_rarity 3 (some .int) 6 0 0 [.ref m, .long w] h (fun r h1 => r = some (.int (nI (sp_rar md.length (dsH md w)))) ∧ fr (mdS m A) h h1 ∧ ∃ N' Q', mdl h1 m A (va_up g 22 (nI 1)) N' Q' ∧ (∀ i, i ≠ 23 → i ≠ 24 → i ≠ 26 → N' i = N i) ∧ (∀ i, i ≠ 25 → Q' i = Q i) ∧ known N' Q' md) := by
  refine Cn.of (own := RX12) rfl (by decide) (by exact Nat.le_of_ble_eq_true rfl) (by decide) (fun K hK C D _ => ?_)
  have m1 := M.1
  first | refine J_aload_n C rfl dX12_rarity_0 ?_ | refine J_aload_nq C rfl dX12_rarity_0 ?_ | refine J_aload_nN C rfl dX12_rarity_0 ?_
  first | refine J_aload_n C rfl dX12_rarity_1 ?_ | refine J_aload_nq C rfl dX12_rarity_1 ?_ | refine J_aload_nN C rfl dX12_rarity_1 ?_
  refine J_lload_n C rfl dX12_rarity_2 ?_
  refine J_callV C (c_M_having M D9 KN w) cw_X12_115 (by first | assumption | exact jv_up_at _ _ _ | (simp [jv_up, *]; done)) rfl rfl rfl rfl (by exact Nat.le_of_ble_eq_true rfl) (by decide) (by omega) (by omega) dX12_rarity_3 ?_
  rintro _ h1 ⟨rfl, F, N', Q', M', n1, q1, kn⟩
  have m1' := M'.1
  refine J_callV C (c_M_digitsOf M' (mdD_congr (g := g) D9 rfl (n1 4 (by decide) (by decide) (by decide)) (n1 5 (by decide) (by decide) (by decide)) (q1 6 (by decide))) (dsH md w) (Nat.le_trans (dsH_le md w) D9.2.1)) cw_X12_106 (by first | assumption | exact jv_up_at _ _ _ | (simp [jv_up, *]; done)) rfl rfl rfl rfl (by exact Nat.le_of_ble_eq_true rfl) (by decide) (by omega) (by omega) dX12_rarity_6 ?_
  rintro _ h9 ⟨rfl, e9⟩
  replace e9 := e9.symm
  subst e9
  refine J_iret C D ⟨rfl, F, N', Q', M', n1, q1, kn⟩ (by omega) (by omega) dX12_rarity_9
/-- a document taken out: the last one in its place -/
def mdRem (md : dsT) (d : Nat) (p : Nat × List Int64) : dsT := (md.set d p).take (md.length - 1)
set_option maxHeartbeats 1000000 in
theorem c_M_remove (M : mdl h m A g N Q) (D9 : mdD g N Q md) {d : Nat} (hd : d < md.length) {p : Nat × List Int64} (hp : md[md.length - 1]? = some p) : Cn l yX12_remove cX12_remove 3 none 1 0 0 [.ref m, .int (nI d)] h (fun r h1 => r = none ∧ fr (mdS m A) h h1 ∧ ∃ g' N' Q', mdl h1 m A g' N' Q' ∧ (∀ i, i ≠ 3 → i ≠ 22 → g' i = g i) ∧ g' 22 = nI 0 ∧ (∀ i, i ≠ 4 → i ≠ 5 → N' i = N i) ∧ (∀ i, i ≠ 6 → Q' i = Q i) ∧ mdD g' N' Q' (mdRem md d p)) := by
  obtain ⟨t1, t2, t3⟩ := id D9
  have m1 := M.1
  obtain ⟨p1, p2, p3, p4, p5⟩ := t3 _ p hp
  refine Cn.of (own := RX12) rfl (by decide) (by exact Nat.le_of_ble_eq_true rfl) (by decide) (fun K hK C D _ => ?_)
  have M1 := mdl_s (mdl_s M (va_up g 22 (nI 0))) (va_up (va_up g 22 (nI 0)) 3 (nI (md.length - 1)))
  generalize hg : va_up (va_up g 22 (nI 0)) 3 (nI (md.length - 1)) = g9 at M1
  have g93 : g9 3 = nI (md.length - 1) := by rw [← hg]; rfl
  have M2 := mdl_N M1 4 (u := upd (N 4) d (N 4 (md.length - 1))) rfl rfl
  have M3 := mdl_N M2 5 (u := upd (N 5) d (N 5 (md.length - 1))) rfl rfl
  generalize hN9 : va_up (va_up N 4 (upd (N 4) d (N 4 (md.length - 1)))) 5 (upd (N 5) d (N 5 (md.length - 1))) = N9 at M3
  have n4 : N9 4 = upd (N 4) d (N 4 (md.length - 1)) := by rw [← hN9]; rfl
  have n5 : N9 5 = upd (N 5) d (N 5 (md.length - 1)) := by rw [← hN9]; rfl
  have n9 : ∀ i, i ≠ 4 → i ≠ 5 → N9 i = N i := fun i i1 i2 => by rw [← hN9]; exact (if_neg i2).trans (if_neg i1)
  have n5l : N9 5 (md.length - 1) = nI p.2.length := by
    rw [n5]
    by_cases c : md.length - 1 = d
    · rw [c, pk_us, ← c]; exact p3
    · rw [pk_un c]; exact p3
  have loop : ∀ (n k : Nat) (Q' : Nat → Nat → Int64) (h' : jH), k + n = p.2.length → fr (mdS m A) h h' → mdl h' m A g9 N9 Q' → (∀ i, i ≠ 6 → Q' i = Q i) → (∀ x, Q' 6 x = if 200 * d ≤ x ∧ x < 200 * d + k then Q 6 (200 * (md.length - 1) + (x - 200 * d)) else Q 6 x) → J K 0 0 47 (jv_l [(2, .int (nI k)), (1, .int (nI d)), (0, .ref m)]) [] h' := by
    intro n
    induction n with
    | zero =>
      intro k Q' h' hk F M' q1 q6
      have hk : k = p.2.length := hk
      have m1' := M'.1
      have a5 := M'.2.1 5 _ rfl
      refine J_iload_n C rfl dX12_remove_47 ?_
      first | refine J_aload_n C rfl dX12_remove_48 ?_ | refine J_aload_nq C rfl dX12_remove_48 ?_ | refine J_aload_nN C rfl dX12_remove_48 ?_
      refine J_get C fl_X12_16 (by first | assumption | exact jv_up_at _ _ _ | (simp [jv_up, *]; done)) (by rfl) dX12_remove_49 ?_
      first | refine J_aload_n C rfl dX12_remove_52 ?_ | refine J_aload_nq C rfl dX12_remove_52 ?_ | refine J_aload_nN C rfl dX12_remove_52 ?_
      refine J_get C fl_X12_85 (by first | assumption | exact jv_up_at _ _ _ | (simp [jv_up, *]; done)) (by rfl) dX12_remove_53 ?_
      rw [g93]
      refine J_iald C (by first | assumption | exact jv_up_at _ _ _ | (simp [jv_up, *]; done)) rfl (by omega) (by omega) dX12_remove_56 ?_
      rw [n5l]
      refine J_nicmp_ge C (by first | omega | (dsimp only; omega)) (by first | omega | (dsimp only; omega)) 93 (by decide) dX12_remove_57 (fun z => ?_) (fun z => ?_)
      · refine J_vret C D ⟨rfl, F, g9, N9, Q', M', fun i i1 i2 => by rw [← hg]; exact (if_neg i1).trans (if_neg i2), by rw [← hg]; rfl, n9, q1, ?_⟩ (by omega) (by omega) dX12_remove_93
        refine ⟨by rw [g93]; unfold mdRem; rw [List.length_take, List.length_set]; congr 1; omega, by unfold mdRem; rw [List.length_take, List.length_set]; omega, fun d2 p2 hd2 => ?_⟩
        unfold mdRem at hd2
        rw [List.getElem?_take] at hd2
        split at hd2
        · rename_i hlt
          rw [List.getElem?_set] at hd2
          by_cases c : d = d2
          · subst c
            rw [if_pos rfl, if_pos hd] at hd2
            cases hd2
            rw [n4, n5, pk_us, pk_us]
            refine ⟨p1, p2, p3, p4, fun k2 w hk2 => ?_⟩
            have hk2l := (List.getElem?_eq_some_iff.mp hk2).1
            rw [q6, if_pos (by omega), show 200 * d + k2 - 200 * d = k2 by omega]
            exact p5 k2 w hk2
          · rw [if_neg c] at hd2
            obtain ⟨r1, r2, r3, r4, r5⟩ := t3 d2 p2 hd2
            rw [n4, n5, pk_un (fun q => c q.symm), pk_un (fun q => c q.symm)]
            refine ⟨r1, r2, r3, r4, fun k2 w hk2 => ?_⟩
            have hk2l := (List.getElem?_eq_some_iff.mp hk2).1
            rw [q6, if_neg (by omega)]
            exact r5 k2 w hk2
        · cases hd2
      · omega
    | succ n ih =>
      intro k Q' h' hk F M' q1 q6
      have m1' := M'.1
      have a5 := M'.2.1 5 _ rfl
      have a6 := M'.2.1 6 _ rfl
      refine J_iload_n C rfl dX12_remove_47 ?_
      first | refine J_aload_n C rfl dX12_remove_48 ?_ | refine J_aload_nq C rfl dX12_remove_48 ?_ | refine J_aload_nN C rfl dX12_remove_48 ?_
      refine J_get C fl_X12_16 (by first | assumption | exact jv_up_at _ _ _ | (simp [jv_up, *]; done)) (by rfl) dX12_remove_49 ?_
      first | refine J_aload_n C rfl dX12_remove_52 ?_ | refine J_aload_nq C rfl dX12_remove_52 ?_ | refine J_aload_nN C rfl dX12_remove_52 ?_
      refine J_get C fl_X12_85 (by first | assumption | exact jv_up_at _ _ _ | (simp [jv_up, *]; done)) (by rfl) dX12_remove_53 ?_
      rw [g93]
      refine J_iald C (by first | assumption | exact jv_up_at _ _ _ | (simp [jv_up, *]; done)) rfl (by omega) (by omega) dX12_remove_56 ?_
      rw [n5l]
      refine J_nicmp_ge C (by first | omega | (dsimp only; omega)) (by first | omega | (dsimp only; omega)) 93 (by decide) dX12_remove_57 (fun z => ?_) (fun z => ?_)
      · omega
      · first | refine J_aload_n C rfl dX12_remove_60 ?_ | refine J_aload_nq C rfl dX12_remove_60 ?_ | refine J_aload_nN C rfl dX12_remove_60 ?_
        refine J_get C fl_X12_19 (by first | assumption | exact jv_up_at _ _ _ | (simp [jv_up, *]; done)) (by rfl) dX12_remove_61 ?_
        refine J_sipush C (v := nI 200) (by decide) dX12_remove_64 ?_
        refine J_iload_n C rfl dX12_remove_67 ?_
        first | refine J_nimul C dX12_remove_68 ?_ | refine J_imul C dX12_remove_68 ?_
        refine J_iload_n C rfl dX12_remove_69 ?_
        first | refine J_niadd C dX12_remove_70 ?_ | refine J_iadd C dX12_remove_70 ?_
        first | refine J_aload_n C rfl dX12_remove_71 ?_ | refine J_aload_nq C rfl dX12_remove_71 ?_ | refine J_aload_nN C rfl dX12_remove_71 ?_
        refine J_get C fl_X12_19 (by first | assumption | exact jv_up_at _ _ _ | (simp [jv_up, *]; done)) (by rfl) dX12_remove_72 ?_
        refine J_sipush C (v := nI 200) (by decide) dX12_remove_75 ?_
        first | refine J_aload_n C rfl dX12_remove_78 ?_ | refine J_aload_nq C rfl dX12_remove_78 ?_ | refine J_aload_nN C rfl dX12_remove_78 ?_
        refine J_get C fl_X12_85 (by first | assumption | exact jv_up_at _ _ _ | (simp [jv_up, *]; done)) (by rfl) dX12_remove_79 ?_
        rw [g93]
        first | refine J_nimul C dX12_remove_82 ?_ | refine J_imul C dX12_remove_82 ?_
        refine J_iload_n C rfl dX12_remove_83 ?_
        first | refine J_niadd C dX12_remove_84 ?_ | refine J_iadd C dX12_remove_84 ?_
        refine J_lald C (by first | assumption | exact jv_up_at _ _ _ | (simp [jv_up, *]; done)) rfl (by omega) (by omega) dX12_remove_85 ?_
        refine J_last C (by first | assumption | exact jv_up_at _ _ _ | (simp [jv_up, *]; done)) rfl (by omega) (by omega) dX12_remove_86 ?_
        have M2 := mdl_Q M' 6 (u := vp_updL (Q' 6) (200 * d + k) (Q' 6 (200 * (md.length - 1) + k))) rfl rfl
        first | refine J_niinc (b := 1) C rfl (by decide) dX12_remove_87 ?_ | refine J_iinc C rfl (by decide) dX12_remove_87 ?_
        refine J_goto C 47 (by decide) dX12_remove_90 ?_
        refine J_sub (by exact (And.intro rfl (And.intro rfl (And.intro rfl trivial)))) (ih (k + 1) _ _ (by omega) (fr_tr F (mdS_up 6 rfl _)) M2 (fun i hi => (if_neg hi).trans (q1 i hi)) (fun x => ?_))
        show (if x = 200 * d + k then Q' 6 (200 * (md.length - 1) + k) else Q' 6 x) = _
        by_cases c : x = 200 * d + k
        · rw [if_pos c, if_pos (by omega), q6, show x - 200 * d = k by omega]
          split
          · rename_i hh
            congr 1
            omega
          · rfl
        · rw [if_neg c, q6]
          by_cases c2 : 200 * d ≤ x ∧ x < 200 * d + k
          · rw [if_pos c2, if_pos (by omega)]
          · rw [if_neg c2, if_neg (by omega)]
  first | refine J_aload_n C rfl dX12_remove_0 ?_ | refine J_aload_nq C rfl dX12_remove_0 ?_ | refine J_aload_nN C rfl dX12_remove_0 ?_
  refine J_iconst C (v := nI 0) (by decide) dX12_remove_1 ?_
  first | refine J_mput C fl_X12_94 (by first | assumption | exact jv_up_at _ _ _) (by decide) (by rfl) (by rfl) dX12_remove_2 ?_ | refine J_put C fl_X12_94 (by first | assumption | exact jv_up_at _ _ _ | (simp [jv_up, *]; done)) (by exact Nat.le_of_ble_eq_true rfl) (by rfl) (by rfl) dX12_remove_2 ?_
  first | refine J_aload_n C rfl dX12_remove_5 ?_ | refine J_aload_nq C rfl dX12_remove_5 ?_ | refine J_aload_nN C rfl dX12_remove_5 ?_
  refine J_dup C rfl dX12_remove_6 ?_
  refine J_get C fl_X12_85 (by first | assumption | exact jv_up_at _ _ _ | (simp [jv_up, *]; done)) (by rfl) dX12_remove_7 ?_
  rw [show va_up g 22 (nI 0) 3 = nI md.length from t1]
  refine J_iconst C (v := nI 1) (by decide) dX12_remove_10 ?_
  first | refine J_nisub C (by omega) dX12_remove_11 ?_ | refine J_isub C dX12_remove_11 ?_
  first | refine J_mput C fl_X12_85 (by first | assumption | exact jv_up_at _ _ _) (by decide) (by rfl) (by rfl) dX12_remove_12 ?_ | refine J_put C fl_X12_85 (by first | assumption | exact jv_up_at _ _ _ | (simp [jv_up, *]; done)) (by exact Nat.le_of_ble_eq_true rfl) (by rfl) (by rfl) dX12_remove_12 ?_
  rw [hg]
  have m9 := M1.1
  have a49 := M1.2.1 4 _ rfl
  first | refine J_aload_n C rfl dX12_remove_15 ?_ | refine J_aload_nq C rfl dX12_remove_15 ?_ | refine J_aload_nN C rfl dX12_remove_15 ?_
  refine J_get C fl_X12_13 (by first | assumption | exact jv_up_at _ _ _ | (simp [jv_up, *]; done)) (by rfl) dX12_remove_16 ?_
  refine J_iload_n C rfl dX12_remove_19 ?_
  first | refine J_aload_n C rfl dX12_remove_20 ?_ | refine J_aload_nq C rfl dX12_remove_20 ?_ | refine J_aload_nN C rfl dX12_remove_20 ?_
  refine J_get C fl_X12_13 (by first | assumption | exact jv_up_at _ _ _ | (simp [jv_up, *]; done)) (by rfl) dX12_remove_21 ?_
  first | refine J_aload_n C rfl dX12_remove_24 ?_ | refine J_aload_nq C rfl dX12_remove_24 ?_ | refine J_aload_nN C rfl dX12_remove_24 ?_
  refine J_get C fl_X12_85 (by first | assumption | exact jv_up_at _ _ _ | (simp [jv_up, *]; done)) (by rfl) dX12_remove_25 ?_
  rw [g93]
  refine J_iald C (by first | assumption | exact jv_up_at _ _ _ | (simp [jv_up, *]; done)) rfl (by omega) (by omega) dX12_remove_28 ?_
  refine J_iast C (by first | assumption | exact jv_up_at _ _ _ | (simp [jv_up, *]; done)) rfl (by omega) (by omega) dX12_remove_29 ?_
  have m92 := M2.1
  have a59 := M2.2.1 5 _ rfl
  first | refine J_aload_n C rfl dX12_remove_30 ?_ | refine J_aload_nq C rfl dX12_remove_30 ?_ | refine J_aload_nN C rfl dX12_remove_30 ?_
  refine J_get C fl_X12_16 (by first | assumption | exact jv_up_at _ _ _ | (simp [jv_up, *]; done)) (by rfl) dX12_remove_31 ?_
  refine J_iload_n C rfl dX12_remove_34 ?_
  first | refine J_aload_n C rfl dX12_remove_35 ?_ | refine J_aload_nq C rfl dX12_remove_35 ?_ | refine J_aload_nN C rfl dX12_remove_35 ?_
  refine J_get C fl_X12_16 (by first | assumption | exact jv_up_at _ _ _ | (simp [jv_up, *]; done)) (by rfl) dX12_remove_36 ?_
  first | refine J_aload_n C rfl dX12_remove_39 ?_ | refine J_aload_nq C rfl dX12_remove_39 ?_ | refine J_aload_nN C rfl dX12_remove_39 ?_
  refine J_get C fl_X12_85 (by first | assumption | exact jv_up_at _ _ _ | (simp [jv_up, *]; done)) (by rfl) dX12_remove_40 ?_
  rw [g93]
  refine J_iald C (by first | assumption | exact jv_up_at _ _ _ | (simp [jv_up, *]; done)) rfl (by omega) (by omega) dX12_remove_43 ?_
  refine J_iast C (by first | assumption | exact jv_up_at _ _ _ | (simp [jv_up, *]; done)) rfl (by omega) (by omega) dX12_remove_44 ?_
  refine J_iconst C (v := nI 0) (by decide) dX12_remove_45 ?_
  refine J_istore_n C (by decide) dX12_remove_46 ?_
  refine J_sub (by exact (And.intro rfl (And.intro rfl (And.intro rfl trivial)))) (loop p.2.length 0 Q _ (by omega) (fr_tr (fr_tr (fr_tr (fr_up (Or.inl rfl)) (fr_up (Or.inl rfl))) (mdS_up 4 rfl _)) (mdS_up 5 rfl _)) M3 (fun _ _ => rfl) (fun x => by rw [if_neg (by omega)]))
end MPUT
