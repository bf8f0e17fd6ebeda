/-! Search: following a term -/
abbrev tmO (v : tmT) : jE := tm v
/-- the words of the row from lo to hi -/
def rgW (W : List Nat) (lt : Nat → Int64) (lo hi : Int64) : List Nat := W.filter (fun w => decide (¬ lt w < lo ∧ lt w ≤ hi))
/-- what a word of a term does -/
def srW (uw : Bool) (bit : Int32) (g : Nat → Int32) (PD : Nat → List Nat) (imp : Nat → Nat → Nat) (p : srT) (w : Nat) : srT :=
  if uw then (PD w).foldl srBar p else (PD w).foldl (srRew (g w) bit (imp w)) p
def tmLast (v : tmT) : Int64 := if v.2.2.1 then sp_last v.2.2.2.1 v.2.2.2.2.1 else v.2.2.2.1
/-- what a term does -/
def srF (n : Nat) (W : List Nat) (lt : Nat → Int64) (PD : Nat → List Nat) (imp : Nat → Nat → Nat) (v : tmT) (bit : Int32) (p : srT) : srT :=
  (rgW W lt v.2.2.2.1 (tmLast v)).foldl (srW v.2.1 bit (fun w => nI (v.2.2.2.2.2 * sp_rar n (PD w).length)) PD imp) p
section FOLLOW
variable {l : jL} {h h1 : jH} {b da dd dc x xa xd xc s : Nat} {DL W SW SP M : List Nat} {lt : Nat → Int64} {num len : Nat → Nat} {PD QW : Nat → List Nat} {tot : Nat → Nat} {tm pa : Nat → Nat → Nat} {nx : Nat → Nat → Option Nat} {fi : Nat → Option Nat} {sf : Nat → sfT} {n : Nat} {nd : Int32} {st : Nat → Bool × Int32 × Int32}
theorem sm_nd (S : sm h s M nd DL sf st) (nd' : Int32) (G : gD h DL num len fi sf) : sm (jv_up h s (srO M[0]? nd')) s M nd' DL sf st ∧ gD (jv_up h s (srO M[0]? nd')) DL num len fi sf :=
  ⟨⟨jv_up_at _ _ _, S.2⟩, fun d hd => jv_up_of (jv_neO (G d hd) S.1 (by decide)) (G d hd)⟩
theorem rgW_drop {lo hi : Int64} {p : Nat} (hp : lbP W lt lo p) : rgW W lt lo hi = (W.drop p).filter (fun w => decide (lt w ≤ hi)) := by
  unfold rgW
  conv => lhs; rw [← List.take_append_drop p W]
  rw [List.filter_append]
  have e1 : (W.take p).filter (fun w => decide (¬ lt w < lo ∧ lt w ≤ hi)) = [] := by
    rw [List.filter_eq_nil_iff]
    intro w hw
    obtain ⟨i, hi1⟩ := List.getElem?_of_mem hw
    rw [List.getElem?_take] at hi1
    split at hi1
    · rename_i c
      have := hp.2.1 i w c hi1
      intro z
      exact (of_decide_eq_true z).1 this
    · cases hi1
  rw [e1, List.nil_append]
  refine List.filter_congr (fun w hw => ?_)
  obtain ⟨i, hi1⟩ := List.getElem?_of_mem hw
  rw [List.getElem?_drop] at hi1
  have := hp.2.2 (p + i) w (by omega) hi1
  exact decide_eq_decide.mpr ⟨fun z => z.2, fun z => ⟨this, z⟩⟩
set_option maxHeartbeats 1000000 in
theorem c_Search_follow (B : lib0 l h b da dd dc x xa xd xc DL W SW SP lt num len PD QW tot tm pa nx fi sf n) (S : sm h s M nd DL sf st) {t : Nat} {v : tmT} (T : h t = some (tmO v)) (hv : v.2.2.2.2.1 ≤ 12) (ht : ∀ w ∈ W, ∀ d ∈ PD w, tm w d ≤ 1000 ∧ len d ≤ 1000) (hpd : ∀ w ∈ W, (PD w).length ≤ 60000) (bit : Int32) : Cn l yX7_follow cX7_follow 9 none 6 0 0 [.ref s, .ref t, .int bit, .ref b] h (fun r h1 => r = none ∧ srP h s (if v.1 then nd ||| bit else nd) DL num len fi (srF DL.length W lt PD (fun w d => sp_imp (tm w d) (len d)) v bit (M, st)) h1) := by
  have s1 := S.1
  have G := B.2.2.2.2.2.2.1
  have hlen := al_len B.2.2.1.2.1
  have hb := B.1
  have nst : s ≠ t := jv_neO s1 T (by decide)
  have hnot : ∀ {y c : Nat} {fs : List Value}, h y = some (.inr (c, fs)) → c ≠ 6 → c ≠ 1 → ¬ (y = s ∨ y ∈ DL) := by
    intro y c fs e c6 c1 z
    rcases z with z | z
    · exact jv_neO e s1 c6 z
    · exact jv_neO e (G y z) c1 rfl
  refine Cn.of (own := RX7) rfl (by decide) (by exact Nat.le_of_ble_eq_true rfl) (by decide) (fun K hK C D I => ?_)
  generalize hnd : (if v.1 then nd ||| bit else nd) = nd'
  generalize hF : srW v.2.1 bit (fun w => nI (v.2.2.2.2.2 * sp_rar DL.length (PD w).length)) PD (fun w d => sp_imp (tm w d) (len d)) = FW
  have loop : ∀ (R : List Nat) (i : Nat) (p : srT) (h' : jH), i ≤ W.length → W.drop i = R → srP h s nd' DL num len fi p h' → (R.filter (fun w => decide (lt w ≤ tmLast v))).foldl FW p = srF DL.length W lt PD (fun w d => sp_imp (tm w d) (len d)) v bit (M, st) → J K 0 0 40 (jv_l [(7, .int (nI i)), (5, .long (tmLast v)), (4, .ref x), (3, .ref b), (2, .int bit), (1, .ref t), (0, .ref s)]) [] h' := by
    intro R
    induction R with
    | nil =>
      intro i p h' hi9 hR P he
      have hi := List.drop_eq_nil_iff.mp hR
      obtain ⟨F, sf1, S1, G1⟩ := P
      have B1 := lib0_srch B s1 G1 F
      have X1 := B1.2.2.1
      have x11 := X1.1
      rw [← hK] at X1
      refine J_iload C rfl dX7_follow_40 ?_
      first | refine J_aload C rfl dX7_follow_42 ?_ | refine J_aloadq C rfl dX7_follow_42 ?_ | refine J_aloadN C rfl dX7_follow_42 ?_
      refine J_callV C (c_Lex_size X1) cw_X7_97 (by first | assumption | exact jv_up_at _ _ _ | (simp [jv_up, *]; done)) rfl rfl rfl rfl (by exact Nat.le_of_ble_eq_true rfl) (by decide) (by omega) (by omega) dX7_follow_44 ?_
      rintro _ h9 ⟨rfl, e9⟩
      replace e9 := e9.symm
      subst e9
      refine J_nicmp_ge C (by first | omega | (dsimp only; omega)) (by first | omega | (dsimp only; omega)) 118 (by decide) dX7_follow_47 (fun z => ?_) (fun z => ?_)
      · refine J_vret C D ⟨rfl, by rw [hnd, ← he]; exact ⟨F, sf1, S1, G1⟩⟩ (by omega) (by omega) dX7_follow_118
      · omega
    | cons w rest ih =>
      intro i p h' hi9 hR P he
      have hi : W[i]? = some w := by
        have := congrArg (fun L => L[0]?) hR
        rw [List.getElem?_drop] at this
        exact this
      have hilt := (List.getElem?_eq_some_iff.mp hi).1
      have hw := List.mem_of_getElem? hi
      have hrest : W.drop (i + 1) = rest := by
        rw [← List.tail_drop, hR]; rfl
      obtain ⟨F, sf1, S1, G1⟩ := P
      have B1 := lib0_srch B s1 G1 F
      have B1K := B1
      have s11 := S1.1
      have X1 := B1.2.2.1
      have x11 := X1.1
      have hb1 := B1.1
      have hT1 : h' t = some (tmO v) := (F t (hnot T (by decide) (by decide))).trans T
      obtain ⟨sp, hwc⟩ := B1.2.2.2.2.1 w hw
      rw [← hK] at X1 B1K
      refine J_iload C rfl dX7_follow_40 ?_
      first | refine J_aload C rfl dX7_follow_42 ?_ | refine J_aloadq C rfl dX7_follow_42 ?_ | refine J_aloadN C rfl dX7_follow_42 ?_
      refine J_callV C (c_Lex_size X1) cw_X7_97 (by first | assumption | exact jv_up_at _ _ _ | (simp [jv_up, *]; done)) rfl rfl rfl rfl (by exact Nat.le_of_ble_eq_true rfl) (by decide) (by omega) (by omega) dX7_follow_44 ?_
      rintro _ h9 ⟨rfl, e9⟩
      replace e9 := e9.symm
      subst e9
      refine J_nicmp_ge C (by first | omega | (dsimp only; omega)) (by first | omega | (dsimp only; omega)) 118 (by decide) dX7_follow_47 (fun z => ?_) (fun z => ?_)
      · omega
      · first | refine J_aload C rfl dX7_follow_50 ?_ | refine J_aloadq C rfl dX7_follow_50 ?_ | refine J_aloadN C rfl dX7_follow_50 ?_
        refine J_iload C rfl dX7_follow_52 ?_
        refine J_callV C (c_Lex_wordAt X1 (nI i)) cw_X7_101 (by first | assumption | exact jv_up_at _ _ _ | (simp [jv_up, *]; done)) rfl rfl rfl rfl (by exact Nat.le_of_ble_eq_true rfl) (by decide) (by omega) (by omega) dX7_follow_54 ?_
        rintro _ h9 ⟨rfl, e9⟩
        replace e9 := e9.symm
        subst e9
        rw [wat_nI W (by omega), hi]
        first | refine J_astoreq C (by decide) dX7_follow_57 ?_ | refine J_astore C (by decide) dX7_follow_57 ?_ | refine J_astoreN C (by decide) dX7_follow_57 ?_
        first | refine J_aload C rfl dX7_follow_59 ?_ | refine J_aloadq C rfl dX7_follow_59 ?_ | refine J_aloadN C rfl dX7_follow_59 ?_
        refine J_ifnull (x := some w) C 118 (by decide) dX7_follow_61 (fun z => by cases z) (fun _ _ => ?_)
        first | refine J_aload C rfl dX7_follow_64 ?_ | refine J_aloadq C rfl dX7_follow_64 ?_ | refine J_aloadN C rfl dX7_follow_64 ?_
        refine J_get C fl_X7_105 (by first | assumption | exact jv_up_at _ _ _ | (simp [jv_up, *]; done)) (by rfl) dX7_follow_66 ?_
        refine J_lload C rfl dX7_follow_69 ?_
        refine J_lcmp C dX7_follow_71 ?_
        refine J_if_le C 78 (by decide) dX7_follow_72 (fun z1 => ?_) (fun z1 => ?_)
        · have hle : lt w ≤ tmLast v := (lg_cmp_le _ _).mp z1
          have he2 : (rest.filter (fun w => decide (lt w ≤ tmLast v))).foldl FW (FW p w) = srF DL.length W lt PD (fun w d => sp_imp (tm w d) (len d)) v bit (M, st) := by
            rw [← he, List.filter_cons_of_pos (by exact decide_eq_true hle)]
            rfl
          have K112 : ∀ (h2 : jH), srP h s nd' DL num len fi (FW p w) h2 → J K 0 0 112 (jv_l [(7, .int (nI i)), (5, .long (tmLast v)), (4, .ref x), (3, .ref b), (2, .int bit), (1, .ref t), (0, .ref s)]) [] h2 := by
            intro h2 P2
            first | refine J_niinc (b := 1) C rfl (by decide) dX7_follow_112 ?_ | refine J_iinc C rfl (by decide) dX7_follow_112 ?_
            refine J_goto C 40 (by decide) dX7_follow_115 ?_
            refine J_sub (by exact (And.intro rfl (And.intro rfl (And.intro rfl (And.intro rfl (And.intro rfl (And.intro rfl (And.intro rfl trivial)))))))) (ih (i + 1) (FW p w) h2 (by omega) hrest P2 he2)
          first | refine J_aload_n C rfl dX7_follow_78 ?_ | refine J_aload_nq C rfl dX7_follow_78 ?_ | refine J_aload_nN C rfl dX7_follow_78 ?_
          refine J_get C fl_X7_108 (by first | assumption | exact jv_up_at _ _ _ | (simp [jv_up, *]; done)) (by rfl) dX7_follow_79 ?_
          refine J_bif_eq C 94 (by decide) dX7_follow_82 (fun z2 => ?_) (fun z2 => ?_)
          · first | refine J_aload_n C rfl dX7_follow_94 ?_ | refine J_aload_nq C rfl dX7_follow_94 ?_ | refine J_aload_nN C rfl dX7_follow_94 ?_
            first | refine J_aload C rfl dX7_follow_95 ?_ | refine J_aloadq C rfl dX7_follow_95 ?_ | refine J_aloadN C rfl dX7_follow_95 ?_
            first | refine J_aload_n C rfl dX7_follow_97 ?_ | refine J_aload_nq C rfl dX7_follow_97 ?_ | refine J_aload_nN C rfl dX7_follow_97 ?_
            refine J_get C fl_X7_115 (by first | assumption | exact jv_up_at _ _ _ | (simp [jv_up, *]; done)) (by rfl) dX7_follow_98 ?_
            first | refine J_aload_n C rfl dX7_follow_101 ?_ | refine J_aload_nq C rfl dX7_follow_101 ?_ | refine J_aload_nN C rfl dX7_follow_101 ?_
            first | refine J_aload C rfl dX7_follow_102 ?_ | refine J_aloadq C rfl dX7_follow_102 ?_ | refine J_aloadN C rfl dX7_follow_102 ?_
            refine J_callV C (c_Lib_rarity B1K hw (hpd w hw)) cw_X7_61 (by first | assumption | exact jv_up_at _ _ _ | (simp [jv_up, *]; done)) rfl rfl rfl rfl (by exact Nat.le_of_ble_eq_true rfl) (by decide) (by omega) (by omega) dX7_follow_104 ?_
            rintro _ h9 ⟨rfl, e9⟩
            replace e9 := e9.symm
            subst e9
            first | refine J_nimul C dX7_follow_107 ?_ | refine J_imul C dX7_follow_107 ?_
            refine J_iload_n C rfl dX7_follow_108 ?_
            refine J_callV C (c_Search_reward B1K S1 hw (ht w hw) (nI (v.2.2.2.2.2 * sp_rar DL.length (PD w).length)) bit) cw_X7_67 (by first | assumption | exact jv_up_at _ _ _ | (simp [jv_up, *]; done)) rfl rfl rfl rfl (by exact Nat.le_of_ble_eq_true rfl) (by decide) (by omega) (by omega) dX7_follow_109 ?_
            rintro _ h2 ⟨rfl, F2, P2⟩
            refine J_sub (by exact (And.intro rfl (And.intro rfl (And.intro rfl (And.intro rfl (And.intro rfl (And.intro rfl (And.intro rfl trivial)))))))) (K112 h2 ⟨fr_tr F F2, by rw [← hF]; unfold srW; rw [z2]; exact P2⟩)
          · first | refine J_aload_n C rfl dX7_follow_85 ?_ | refine J_aload_nq C rfl dX7_follow_85 ?_ | refine J_aload_nN C rfl dX7_follow_85 ?_
            first | refine J_aload C rfl dX7_follow_86 ?_ | refine J_aloadq C rfl dX7_follow_86 ?_ | refine J_aloadN C rfl dX7_follow_86 ?_
            refine J_callV C (c_Search_bar B1K S1 hw) cw_X7_111 (by first | assumption | exact jv_up_at _ _ _ | (simp [jv_up, *]; done)) rfl rfl rfl rfl (by exact Nat.le_of_ble_eq_true rfl) (by decide) (by omega) (by omega) dX7_follow_88 ?_
            rintro _ h2 ⟨rfl, F2, P2⟩
            refine J_goto C 112 (by decide) dX7_follow_91 ?_
            refine J_sub (by exact (And.intro rfl (And.intro rfl (And.intro rfl (And.intro rfl (And.intro rfl (And.intro rfl (And.intro rfl trivial)))))))) (K112 h2 ⟨fr_tr F F2, by rw [← hF]; unfold srW; rw [z2]; exact P2⟩)
        · have hgt : ¬ lt w ≤ tmLast v := fun z => z1 ((lg_cmp_le _ _).mpr z)
          have hnil : ((w :: rest).filter (fun w => decide (lt w ≤ tmLast v))) = [] := by
            rw [List.filter_eq_nil_iff]
            intro u hu z
            have z := of_decide_eq_true z
            rcases List.mem_cons.mp hu with rfl | hu
            · exact hgt z
            · obtain ⟨j, hj⟩ := List.getElem?_of_mem hu
              rw [← hrest, List.getElem?_drop] at hj
              have := B.2.2.1.2.2.2.1 i (i + 1 + j) w u (by omega) hi hj
              exact hgt (Int64.le_trans (Int64.le_of_lt this) z)
          rw [hnil] at he
          refine J_goto C 118 (by decide) dX7_follow_75 ?_
          refine J_vret C D ⟨rfl, by rw [hnd, ← he]; exact ⟨F, sf1, S1, G1⟩⟩ (by omega) (by omega) dX7_follow_118
  have K17 : ∀ h' : jH, srP h s nd' DL num len fi (M, st) h' → J K 0 0 17 (jv_l [(3, .ref b), (2, .int bit), (1, .ref t), (0, .ref s)]) [] h' := by
    intro h' P
    obtain ⟨F, sf1, S1, G1⟩ := P
    have B1 := lib0_srch B s1 G1 F
    have hb1 := B1.1
    have X1 := B1.2.2.1
    have x11 := X1.1
    have hT1 : h' t = some (tmO v) := (F t (hnot T (by decide) (by decide))).trans T
    rw [← hK] at X1
    first | refine J_aload_n C rfl dX7_follow_17 ?_ | refine J_aload_nq C rfl dX7_follow_17 ?_ | refine J_aload_nN C rfl dX7_follow_17 ?_
    refine J_get C fl_X7_79 (by first | assumption | exact jv_up_at _ _ _ | (simp [jv_up, *]; done)) (by rfl) dX7_follow_18 ?_
    first | refine J_astoreq C (by decide) dX7_follow_21 ?_ | refine J_astore C (by decide) dX7_follow_21 ?_ | refine J_astoreN C (by decide) dX7_follow_21 ?_
    first | refine J_aload_n C rfl dX7_follow_23 ?_ | refine J_aload_nq C rfl dX7_follow_23 ?_ | refine J_aload_nN C rfl dX7_follow_23 ?_
    refine J_callV C (c_Term_last _ _ t v hv hT1) cw_X7_83 (by first | assumption | exact jv_up_at _ _ _ | (simp [jv_up, *]; done)) rfl rfl rfl rfl (by exact Nat.le_of_ble_eq_true rfl) (by decide) (by omega) (by omega) dX7_follow_24 ?_
    rintro _ h9 ⟨rfl, e9⟩
    replace e9 := e9.symm
    subst e9
    rw [show (if v.2.2.1 = true then sp_last v.2.2.2.1 v.2.2.2.2.1 else v.2.2.2.1) = tmLast v from rfl]
    refine J_lstore C (by decide) dX7_follow_27 ?_
    first | refine J_aload C rfl dX7_follow_29 ?_ | refine J_aloadq C rfl dX7_follow_29 ?_ | refine J_aloadN C rfl dX7_follow_29 ?_
    first | refine J_aload_n C rfl dX7_follow_31 ?_ | refine J_aload_nq C rfl dX7_follow_31 ?_ | refine J_aload_nN C rfl dX7_follow_31 ?_
    refine J_get C fl_X7_87 (by first | assumption | exact jv_up_at _ _ _ | (simp [jv_up, *]; done)) (by rfl) dX7_follow_32 ?_
    refine J_callV C (c_Lex_placeOf X1 v.2.2.2.1) cw_X7_91 (by first | assumption | exact jv_up_at _ _ _ | (simp [jv_up, *]; done)) rfl rfl rfl rfl (by exact Nat.le_of_ble_eq_true rfl) (by decide) (by omega) (by omega) dX7_follow_35 ?_
    rintro _ h9 ⟨p, rfl, hp, e9⟩
    replace e9 := e9.symm
    subst e9
    refine J_istore C (by decide) dX7_follow_38 ?_
    refine J_sub (by exact (And.intro rfl (And.intro rfl (And.intro rfl (And.intro rfl (And.intro rfl (And.intro rfl (And.intro rfl trivial)))))))) (loop (W.drop p) p (M, st) h' hp.1 rfl ⟨F, sf1, S1, G1⟩ (by rw [← rgW_drop hp, ← hF]; rfl))
  first | refine J_aload_n C rfl dX7_follow_0 ?_ | refine J_aload_nq C rfl dX7_follow_0 ?_ | refine J_aload_nN C rfl dX7_follow_0 ?_
  refine J_get C fl_X7_74 (by first | assumption | exact jv_up_at _ _ _ | (simp [jv_up, *]; done)) (by rfl) dX7_follow_1 ?_
  refine J_bif_eq C 17 (by decide) dX7_follow_4 (fun z => ?_) (fun z => ?_)
  · rw [z] at hnd
    have hnd : nd = nd' := hnd
    subst hnd
    refine J_sub (by exact (And.intro rfl (And.intro rfl (And.intro rfl (And.intro rfl trivial))))) (K17 h ⟨fr_rf _ _, sf, S, G⟩)
  · rw [z] at hnd
    have hnd : nd ||| bit = nd' := hnd
    subst hnd
    first | refine J_aload_n C rfl dX7_follow_7 ?_ | refine J_aload_nq C rfl dX7_follow_7 ?_ | refine J_aload_nN C rfl dX7_follow_7 ?_
    refine J_dup C rfl dX7_follow_8 ?_
    refine J_get C fl_X7_9 (by first | assumption | exact jv_up_at _ _ _ | (simp [jv_up, *]; done)) (by rfl) dX7_follow_9 ?_
    refine J_iload_n C rfl dX7_follow_12 ?_
    refine J_ior C dX7_follow_13 ?_
    refine J_put C fl_X7_9 (by first | assumption | exact jv_up_at _ _ _ | (simp [jv_up, *]; done)) (by exact Nat.le_of_ble_eq_true rfl) (by rfl) (by rfl) dX7_follow_14 ?_
    refine J_eq (st1 := []) (h1 := jv_up h s (srO M[0]? (nd ||| bit))) rfl rfl ?_
    have := sm_nd S (nd ||| bit) G
    refine J_sub (by exact (And.intro rfl (And.intro rfl (And.intro rfl (And.intro rfl trivial))))) (K17 _ ⟨fr_up (Or.inl rfl), sf, this.1, this.2⟩)
end FOLLOW
