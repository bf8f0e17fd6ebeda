/-! the model: scoreOf -/
abbrev tsT : Type := Nat × Nat × (Int64 → Bool)
/-- a document's words, each once, in the order of their first places -/
def frs (ws : List Int64) : Nat → List Int64
  | 0 => []
  | k + 1 => frs ws k ++ match ws[k]? with
    | some u => if u ∈ ws.take k then [] else [u]
    | none => []
/-- the score over the first i terms; none where the document is no hit -/
def mscA (t : tsT) (wo : Int64 → Nat) (s : Int32) : List Int64 → Int32
  | [] => s
  | w :: r => mscA t wo (if t.2.2 w then (if t.1 = 2 then s else s + nI (t.2.1 * wo w)) else s) r
def msc (fs : List Int64) (wo : Int64 → Nat) : List tsT → Int32 → Option Int32
  | [], s => some s
  | t :: r, s => if (t.1 = 1 ∧ fs.any t.2.2 = false) ∨ (t.1 = 2 ∧ fs.any t.2.2 = true) then none else msc fs wo r (mscA t wo s fs)
def mscV (fs : List Int64) (wo : Int64 → Nat) (T : List tsT) : Int32 := match msc fs wo T 0 with
  | none => -1
  | some s => if s ≤ 0 then -1 else s
theorem mscA_app (t : tsT) (wo : Int64 → Nat) : ∀ (A C : List Int64) (s : Int32), mscA t wo s (A ++ C) = mscA t wo (mscA t wo s A) C
  | [], _, _ => rfl
  | w :: r, C, s => mscA_app t wo r C _
/-- what a term's places in the arrays say -/
def tsM (N : Nat → Nat → Int32) (Q : Nat → Nat → Int64) (j : Nat) (t : tsT) : Prop := N 13 j = nI t.1 ∧ t.1 ≤ 2 ∧ N 14 j = nI t.2.1 ∧ ∃ o c, N 12 j = jv_b o ∧ (o = true → N 11 j = nI c ∧ 1 ≤ c ∧ c ≤ 12) ∧ ∀ w, t.2.2 w = (if o then decide ((w ^^^ Q 10 j) >>> ((nI (60 - 5 * c)).toInt64 &&& 63) = lN 0) else decide (w = Q 10 j))
theorem jv_b01 (b : Bool) : jv_b b = 0 ∨ jv_b b = 1 := by cases b <;> first | exact Or.inl rfl | exact Or.inr rfl
section SCORE
variable {l : jL} {h : jH} {m : Nat} {A : Nat → Nat} {g : Nat → Int32} {N : Nat → Nat → Int32} {Q : Nat → Nat → Int64} {md : dsT}
theorem c_M_begins (w L : Int64) (c : Nat) (hc : 1 ≤ c ∧ c ≤ 12) : Cn l yX12_begins cX12_begins 5 (some .boolean) 1 0 0 [.long w, .long L, .int (nI c)] h (fun r h1 => r = some (.int (jv_b (decide ((w ^^^ L) >>> ((nI (60 - 5 * c)).toInt64 &&& 63) = lN 0)))) ∧ h1 = h) := by
  refine Cn.of (own := RX12) rfl (by decide) (by exact Nat.le_of_ble_eq_true rfl) (by decide) (fun K hK C D _ => ?_)
  refine J_iload C rfl dX12_begins_0 ?_
  refine J_nif_eq C (by omega) 21 (by decide) dX12_begins_2 (fun z => ?_) (fun z => ?_)
  · omega
  · refine J_lload_n C rfl dX12_begins_5 ?_
    refine J_lload_n C rfl dX12_begins_6 ?_
    refine J_lxor C dX12_begins_7 ?_
    refine J_bipush C (v := nI 60) (by decide) dX12_begins_8 ?_
    refine J_iconst C (v := nI 5) (by decide) dX12_begins_10 ?_
    refine J_iload C rfl dX12_begins_11 ?_
    first | refine J_nimul C dX12_begins_13 ?_ | refine J_imul C dX12_begins_13 ?_
    first | refine J_nisub C (by omega) dX12_begins_14 ?_ | refine J_isub C dX12_begins_14 ?_
    refine J_lshr C dX12_begins_15 ?_
    refine J_lconst C (v := lN 0) (by decide) dX12_begins_16 ?_
    refine J_lcmp C dX12_begins_17 ?_
    refine J_if_ne C 25 (by decide) dX12_begins_18 (fun z2 => ?_) (fun z2 => ?_)
    · refine J_iconst C (v := nI 0) (by decide) dX12_begins_25 ?_
      refine J_zret C D (Or.inl rfl) ⟨by rw [decide_eq_false (fun e => z2 ((lg_cmp_eq _ _).mpr e))]; rfl, rfl⟩ (by omega) (by omega) dX12_begins_26
    · refine J_iconst C (v := nI 1) (by decide) dX12_begins_21 ?_
      refine J_goto C 26 (by decide) dX12_begins_22 ?_
      refine J_zret C D (Or.inr rfl) ⟨by rw [decide_eq_true ((lg_cmp_eq _ _).mp z2)]; rfl, rfl⟩ (by omega) (by omega) dX12_begins_26
theorem c_M_stands (M : mdl h m A g N Q) {j : Nat} (hj : j < 200) {t : tsT} (S : tsM N Q j t) (w : Int64) : Cn l yX12_stands cX12_stands 4 (some .boolean) 2 0 0 [.ref m, .int (nI j), .long w] h (fun r h1 => r = some (.int (jv_b (t.2.2 w))) ∧ h1 = h) := by
  obtain ⟨s1, s2, s3, o, c, s4, s5, s6⟩ := S
  refine Cn.of (own := RX12) rfl (by decide) (by exact Nat.le_of_ble_eq_true rfl) (by decide) (fun K hK C D _ => ?_)
  have m1 := M.1
  have a10 := M.2.1 10 _ rfl
  have a11 := M.2.1 11 _ rfl
  have a12 := M.2.1 12 _ rfl
  first | refine J_aload_n C rfl dX12_stands_0 ?_ | refine J_aload_nq C rfl dX12_stands_0 ?_ | refine J_aload_nN C rfl dX12_stands_0 ?_
  refine J_get C fl_X12_32 (by first | assumption | exact jv_up_at _ _ _ | (simp [jv_up, *]; done)) (by rfl) dX12_stands_1 ?_
  refine J_iload_n C rfl dX12_stands_4 ?_
  refine J_zald C (by first | assumption | exact jv_up_at _ _ _ | (simp [jv_up, *]; done)) rfl (by omega) (by omega) dX12_stands_5 ?_
  rw [s4]
  refine J_bif_eq C 28 (by decide) dX12_stands_6 (fun z => ?_) (fun z => ?_)
  · subst z
    have e := s6 w
    rw [if_neg Bool.false_ne_true] at e
    refine J_lload_n C rfl dX12_stands_28 ?_
    first | refine J_aload_n C rfl dX12_stands_29 ?_ | refine J_aload_nq C rfl dX12_stands_29 ?_ | refine J_aload_nN C rfl dX12_stands_29 ?_
    refine J_get C fl_X12_26 (by first | assumption | exact jv_up_at _ _ _ | (simp [jv_up, *]; done)) (by rfl) dX12_stands_30 ?_
    refine J_iload_n C rfl dX12_stands_33 ?_
    refine J_lald C (by first | assumption | exact jv_up_at _ _ _ | (simp [jv_up, *]; done)) rfl (by omega) (by omega) dX12_stands_34 ?_
    refine J_lcmp C dX12_stands_35 ?_
    refine J_if_ne C 43 (by decide) dX12_stands_36 (fun z2 => ?_) (fun z2 => ?_)
    · refine J_iconst C (v := nI 0) (by decide) dX12_stands_43 ?_
      refine J_zret C D (Or.inl rfl) ⟨by rw [e, decide_eq_false (fun e => z2 ((lg_cmp_eq _ _).mpr e))]; rfl, rfl⟩ (by omega) (by omega) dX12_stands_44
    · refine J_iconst C (v := nI 1) (by decide) dX12_stands_39 ?_
      refine J_goto C 44 (by decide) dX12_stands_40 ?_
      refine J_zret C D (Or.inr rfl) ⟨by rw [e, decide_eq_true ((lg_cmp_eq _ _).mp z2)]; rfl, rfl⟩ (by omega) (by omega) dX12_stands_44
  · subst z
    have e := s6 w
    rw [if_pos rfl] at e
    obtain ⟨c1, c2, c3⟩ := s5 rfl
    refine J_lload_n C rfl dX12_stands_9 ?_
    first | refine J_aload_n C rfl dX12_stands_10 ?_ | refine J_aload_nq C rfl dX12_stands_10 ?_ | refine J_aload_nN C rfl dX12_stands_10 ?_
    refine J_get C fl_X12_26 (by first | assumption | exact jv_up_at _ _ _ | (simp [jv_up, *]; done)) (by rfl) dX12_stands_11 ?_
    refine J_iload_n C rfl dX12_stands_14 ?_
    refine J_lald C (by first | assumption | exact jv_up_at _ _ _ | (simp [jv_up, *]; done)) rfl (by omega) (by omega) dX12_stands_15 ?_
    first | refine J_aload_n C rfl dX12_stands_16 ?_ | refine J_aload_nq C rfl dX12_stands_16 ?_ | refine J_aload_nN C rfl dX12_stands_16 ?_
    refine J_get C fl_X12_29 (by first | assumption | exact jv_up_at _ _ _ | (simp [jv_up, *]; done)) (by rfl) dX12_stands_17 ?_
    refine J_iload_n C rfl dX12_stands_20 ?_
    refine J_iald C (by first | assumption | exact jv_up_at _ _ _ | (simp [jv_up, *]; done)) rfl (by omega) (by omega) dX12_stands_21 ?_
    rw [c1]
    refine J_callS C (c_M_begins w (Q 10 j) c ⟨c2, c3⟩) cw_X12_173 rfl rfl (by exact Nat.le_of_ble_eq_true rfl) (by decide) (by omega) (by omega) dX12_stands_22 ?_
    rintro _ h9 ⟨rfl, e9⟩
    replace e9 := e9.symm
    subst e9
    refine J_goto C 44 (by decide) dX12_stands_25 ?_
    refine J_zret C D (jv_b01 _) ⟨by rw [e], rfl⟩ (by omega) (by omega) dX12_stands_44
set_option maxHeartbeats 1000000 in
theorem c_M_scoreOf (M : mdl h m A g N Q) (D9 : mdD g N Q md) (KN : known N Q md) {T : List tsT} (g9 : g 9 = nI T.length) (hT : T.length ≤ 200) (TM : ∀ j t, T[j]? = some t → tsM N Q j t) {d : Nat} {p : Nat × List Int64} (hd : md[d]? = some p) : Cn l yX12_scoreOf cX12_scoreOf 8 (some .int) 3 0 0 [.ref m, .int (nI d)] h (fun r h1 => r = some (.int (mscV (frs p.2 p.2.length) (fun u => sp_rar md.length (dsH md u) * sp_imp (p.2.count u) p.2.length) T)) ∧ h1 = h) := by
  obtain ⟨t1, t2, t3⟩ := id D9
  obtain ⟨p1, p2, p3, p4, p5⟩ := t3 d p hd
  have hdl := (List.getElem?_eq_some_iff.mp hd).1
  have kn := KN.2 d p hd
  refine Cn.of (own := RX12) rfl (by decide) (by exact Nat.le_of_ble_eq_true rfl) (by decide) (fun K hK C D _ => ?_)
  have m1 := M.1
  have a5 := M.2.1 5 _ rfl
  have a6 := M.2.1 6 _ rfl
  have a13 := M.2.1 13 _ rfl
  have a14 := M.2.1 14 _ rfl
  have a23 := M.2.1 23 _ rfl
  have a24 := M.2.1 24 _ rfl
  generalize hwo : (fun u => sp_rar md.length (dsH md u) * sp_imp (p.2.count u) p.2.length) = wo at *
  have wo_is : ∀ u, sp_rar md.length (dsH md u) * sp_imp (p.2.count u) p.2.length = wo u := fun u => by rw [← hwo]
  generalize hfs : frs p.2 p.2.length = fs at *
  have outer : ∀ (R : List tsT) (j : Nat) (s : Int32), j ≤ T.length → T.drop j = R → msc fs wo T 0 = msc fs wo R s → J K 0 0 4 (jv_l [(3, .int (nI j)), (2, .int s), (1, .int (nI d)), (0, .ref m)]) [] h := by
    intro R
    induction R with
    | nil =>
      intro j s hjT hR he
      have hjl := List.drop_eq_nil_iff.mp hR
      have he : msc fs wo T 0 = some s := he
      have hv : mscV fs wo T = if s ≤ 0 then -1 else s := by unfold mscV; rw [he]
      refine J_iload_n C rfl dX12_scoreOf_4 ?_
      first | refine J_aload_n C rfl dX12_scoreOf_5 ?_ | refine J_aload_nq C rfl dX12_scoreOf_5 ?_ | refine J_aload_nN C rfl dX12_scoreOf_5 ?_
      refine J_get C fl_X12_154 (by first | assumption | exact jv_up_at _ _ _ | (simp [jv_up, *]; done)) (by rfl) dX12_scoreOf_6 ?_
      rw [g9]
      refine J_nicmp_ge C (by first | omega | (dsimp only; omega)) (by first | omega | (dsimp only; omega)) 154 (by decide) dX12_scoreOf_9 (fun z => ?_) (fun z => ?_)
      · refine J_iload_n C rfl dX12_scoreOf_154 ?_
        refine J_if_le C 162 (by decide) dX12_scoreOf_155 (fun z2 => ?_) (fun z2 => ?_)
        · refine J_iconst C (v := (-1)) (by decide) dX12_scoreOf_162 ?_
          refine J_iret C D ⟨by rw [hv, if_pos z2], rfl⟩ (by omega) (by omega) dX12_scoreOf_163
        · refine J_iload_n C rfl dX12_scoreOf_158 ?_
          refine J_goto C 163 (by decide) dX12_scoreOf_159 ?_
          refine J_iret C D ⟨by rw [hv, if_neg z2], rfl⟩ (by omega) (by omega) dX12_scoreOf_163
      · omega
    | cons t R ih =>
      intro j s hjT hR he
      have hj : T[j]? = some t := by
        have := congrArg (fun L => L[0]?) hR
        rw [List.getElem?_drop] at this
        exact this
      have hjl := (List.getElem?_eq_some_iff.mp hj).1
      have hrest : T.drop (j + 1) = R := by
        rw [← List.tail_drop, hR]; rfl
      have tm := TM j t hj
      obtain ⟨s1, s2, s3, -⟩ := id tm
      have inner : ∀ (n k : Nat) (s9 : Int32) (b : Bool), k + n = p.2.length → s9 = mscA t wo s (frs p.2 k) → b = (frs p.2 k).any t.2.2 → J K 0 0 18 (jv_l [(5, .int (nI k)), (4, .int (jv_b b)), (3, .int (nI j)), (2, .int s9), (1, .int (nI d)), (0, .ref m)]) [] h := by
        intro n
        induction n with
        | zero =>
          intro k s9 b hk hs hb
          have hk : k = p.2.length := hk
          rw [hk, hfs] at hs hb
          have Kno : ((t.1 = 1 ∧ fs.any t.2.2 = false) ∨ (t.1 = 2 ∧ fs.any t.2.2 = true)) → J K 0 0 146 (jv_l [(0, .ref m)]) [] h := by
            intro hc
            refine J_iconst C (v := (-1)) (by decide) dX12_scoreOf_146 ?_
            refine J_iret C D ⟨by unfold mscV; rw [he]; unfold msc; rw [if_pos hc], rfl⟩ (by omega) (by omega) dX12_scoreOf_147
          have Kyes : ¬ ((t.1 = 1 ∧ fs.any t.2.2 = false) ∨ (t.1 = 2 ∧ fs.any t.2.2 = true)) → J K 0 0 148 (jv_l [(3, .int (nI j)), (2, .int s9), (1, .int (nI d)), (0, .ref m)]) [] h := by
            intro hc
            first | refine J_niinc (b := 1) C rfl (by decide) dX12_scoreOf_148 ?_ | refine J_iinc C rfl (by decide) dX12_scoreOf_148 ?_
            refine J_goto C 4 (by decide) dX12_scoreOf_151 ?_
            refine J_sub (by exact (And.intro rfl (And.intro rfl (And.intro rfl (And.intro rfl trivial))))) (ih (j + 1) s9 (by omega) hrest (by rw [he, hs]; exact if_neg hc))
          have K131 : ¬ (t.1 = 1 ∧ fs.any t.2.2 = false) → J K 0 0 131 (jv_l [(4, .int (jv_b b)), (3, .int (nI j)), (2, .int s9), (1, .int (nI d)), (0, .ref m)]) [] h := by
            intro hc
            first | refine J_aload_n C rfl dX12_scoreOf_131 ?_ | refine J_aload_nq C rfl dX12_scoreOf_131 ?_ | refine J_aload_nN C rfl dX12_scoreOf_131 ?_
            refine J_get C fl_X12_36 (by first | assumption | exact jv_up_at _ _ _ | (simp [jv_up, *]; done)) (by rfl) dX12_scoreOf_132 ?_
            refine J_iload_n C rfl dX12_scoreOf_135 ?_
            refine J_iald C (by first | assumption | exact jv_up_at _ _ _ | (simp [jv_up, *]; done)) rfl (by omega) (by omega) dX12_scoreOf_136 ?_
            rw [s1]
            refine J_iconst C (v := nI 2) (by decide) dX12_scoreOf_137 ?_
            refine J_nicmp_ne C (by first | omega | (dsimp only; omega)) (by first | omega | (dsimp only; omega)) 148 (by decide) dX12_scoreOf_138 (fun z => ?_) (fun z => ?_)
            · refine J_sub (by exact (And.intro rfl (And.intro rfl (And.intro rfl (And.intro rfl trivial))))) (Kyes (by rintro (q | q); exact hc q; exact z q.1))
            · refine J_iload C rfl dX12_scoreOf_141 ?_
              refine J_bif_eq C 148 (by decide) dX12_scoreOf_143 (fun z2 => ?_) (fun z2 => ?_)
              · refine J_sub (by exact (And.intro rfl (And.intro rfl (And.intro rfl (And.intro rfl trivial))))) (Kyes (by rintro (q | q); exact hc q; exact absurd (hb.trans q.2) (by rw [z2]; exact Bool.false_ne_true)))
              · refine J_sub (by exact (And.intro rfl trivial)) (Kno (Or.inr ⟨z, hb.symm.trans z2⟩))
          refine J_iload C rfl dX12_scoreOf_18 ?_
          first | refine J_aload_n C rfl dX12_scoreOf_20 ?_ | refine J_aload_nq C rfl dX12_scoreOf_20 ?_ | refine J_aload_nN C rfl dX12_scoreOf_20 ?_
          refine J_get C fl_X12_16 (by first | assumption | exact jv_up_at _ _ _ | (simp [jv_up, *]; done)) (by rfl) dX12_scoreOf_21 ?_
          refine J_iload_n C rfl dX12_scoreOf_24 ?_
          refine J_iald C (by first | assumption | exact jv_up_at _ _ _ | (simp [jv_up, *]; done)) rfl (by omega) (by omega) dX12_scoreOf_25 ?_
          rw [p3]
          refine J_nicmp_ge C (by first | omega | (dsimp only; omega)) (by first | omega | (dsimp only; omega)) 116 (by decide) dX12_scoreOf_26 (fun z => ?_) (fun z => ?_)
          · first | refine J_aload_n C rfl dX12_scoreOf_116 ?_ | refine J_aload_nq C rfl dX12_scoreOf_116 ?_ | refine J_aload_nN C rfl dX12_scoreOf_116 ?_
            refine J_get C fl_X12_36 (by first | assumption | exact jv_up_at _ _ _ | (simp [jv_up, *]; done)) (by rfl) dX12_scoreOf_117 ?_
            refine J_iload_n C rfl dX12_scoreOf_120 ?_
            refine J_iald C (by first | assumption | exact jv_up_at _ _ _ | (simp [jv_up, *]; done)) rfl (by omega) (by omega) dX12_scoreOf_121 ?_
            rw [s1]
            refine J_iconst C (v := nI 1) (by decide) dX12_scoreOf_122 ?_
            refine J_nicmp_ne C (by first | omega | (dsimp only; omega)) (by first | omega | (dsimp only; omega)) 131 (by decide) dX12_scoreOf_123 (fun z2 => ?_) (fun z2 => ?_)
            · refine J_sub (by exact (And.intro rfl (And.intro rfl (And.intro rfl (And.intro rfl (And.intro rfl trivial)))))) (K131 (fun q => z2 q.1))
            · refine J_iload C rfl dX12_scoreOf_126 ?_
              refine J_bif_eq C 146 (by decide) dX12_scoreOf_128 (fun z3 => ?_) (fun z3 => ?_)
              · refine J_sub (by exact (And.intro rfl trivial)) (Kno (Or.inl ⟨z2, hb.symm.trans z3⟩))
              · refine J_sub (by exact (And.intro rfl (And.intro rfl (And.intro rfl (And.intro rfl (And.intro rfl trivial)))))) (K131 (fun q => absurd (hb.trans q.2) (by rw [z3]; exact fun e => by cases e)))
          · omega
        | succ n ih2 =>
          intro k s9 b hk hs hb
          have hxk := List.getElem?_eq_getElem (l := p.2) (i := k) (by omega)
          generalize p.2[k]'(by omega) = u at hxk
          have hu := p5 k u hxk
          obtain ⟨k1, k2⟩ := kn k u hxk
          rw [wo_is] at k2
          have hf1 : frs p.2 (k + 1) = frs p.2 k ++ if u ∈ p.2.take k then [] else [u] := by
            show frs p.2 k ++ (match p.2[k]? with | some u => if u ∈ p.2.take k then [] else [u] | none => []) = _
            rw [hxk]
          have K110 : ∀ (s10 : Int32) (b10 : Bool), s10 = mscA t wo s (frs p.2 (k + 1)) → b10 = (frs p.2 (k + 1)).any t.2.2 → J K 0 0 110 (jv_l [(5, .int (nI k)), (4, .int (jv_b b10)), (3, .int (nI j)), (2, .int s10), (1, .int (nI d)), (0, .ref m)]) [] h := by
            intro s10 b10 h1 h2
            first | refine J_niinc (b := 1) C rfl (by decide) dX12_scoreOf_110 ?_ | refine J_iinc C rfl (by decide) dX12_scoreOf_110 ?_
            refine J_goto C 18 (by decide) dX12_scoreOf_113 ?_
            refine J_sub (by exact (And.intro rfl (And.intro rfl (And.intro rfl (And.intro rfl (And.intro rfl (And.intro rfl trivial))))))) (ih2 (k + 1) s10 b10 (by omega) h1 h2)
          refine J_iload C rfl dX12_scoreOf_18 ?_
          first | refine J_aload_n C rfl dX12_scoreOf_20 ?_ | refine J_aload_nq C rfl dX12_scoreOf_20 ?_ | refine J_aload_nN C rfl dX12_scoreOf_20 ?_
          refine J_get C fl_X12_16 (by first | assumption | exact jv_up_at _ _ _ | (simp [jv_up, *]; done)) (by rfl) dX12_scoreOf_21 ?_
          refine J_iload_n C rfl dX12_scoreOf_24 ?_
          refine J_iald C (by first | assumption | exact jv_up_at _ _ _ | (simp [jv_up, *]; done)) rfl (by omega) (by omega) dX12_scoreOf_25 ?_
          rw [p3]
          refine J_nicmp_ge C (by first | omega | (dsimp only; omega)) (by first | omega | (dsimp only; omega)) 116 (by decide) dX12_scoreOf_26 (fun z => ?_) (fun z => ?_)
          · omega
          · first | refine J_aload_n C rfl dX12_scoreOf_29 ?_ | refine J_aload_nq C rfl dX12_scoreOf_29 ?_ | refine J_aload_nN C rfl dX12_scoreOf_29 ?_
            refine J_get C fl_X12_19 (by first | assumption | exact jv_up_at _ _ _ | (simp [jv_up, *]; done)) (by rfl) dX12_scoreOf_30 ?_
            refine J_sipush C (v := nI 200) (by decide) dX12_scoreOf_33 ?_
            refine J_iload_n C rfl dX12_scoreOf_36 ?_
            first | refine J_nimul C dX12_scoreOf_37 ?_ | refine J_imul C dX12_scoreOf_37 ?_
            refine J_iload C rfl dX12_scoreOf_38 ?_
            first | refine J_niadd C dX12_scoreOf_40 ?_ | refine J_iadd C dX12_scoreOf_40 ?_
            refine J_lald C (by first | assumption | exact jv_up_at _ _ _ | (simp [jv_up, *]; done)) rfl (by omega) (by omega) dX12_scoreOf_41 ?_
            rw [hu]
            refine J_lstore C (by decide) dX12_scoreOf_42 ?_
            first | refine J_aload_n C rfl dX12_scoreOf_44 ?_ | refine J_aload_nq C rfl dX12_scoreOf_44 ?_ | refine J_aload_nN C rfl dX12_scoreOf_44 ?_
            refine J_get C fl_X12_55 (by first | assumption | exact jv_up_at _ _ _ | (simp [jv_up, *]; done)) (by rfl) dX12_scoreOf_45 ?_
            refine J_sipush C (v := nI 200) (by decide) dX12_scoreOf_48 ?_
            refine J_iload_n C rfl dX12_scoreOf_51 ?_
            first | refine J_nimul C dX12_scoreOf_52 ?_ | refine J_imul C dX12_scoreOf_52 ?_
            refine J_iload C rfl dX12_scoreOf_53 ?_
            first | refine J_niadd C dX12_scoreOf_55 ?_ | refine J_iadd C dX12_scoreOf_55 ?_
            refine J_zald C (by first | assumption | exact jv_up_at _ _ _ | (simp [jv_up, *]; done)) rfl (by omega) (by omega) dX12_scoreOf_56 ?_
            rw [k1]
            refine J_bif_eq C 110 (by decide) dX12_scoreOf_57 (fun z2 => ?_) (fun z2 => ?_)
            · have z2 : u ∈ p.2.take k := Decidable.of_not_not (of_decide_eq_false z2)
              rw [if_pos z2, List.append_nil] at hf1
              refine J_sub (by exact (And.intro rfl (And.intro rfl (And.intro rfl (And.intro rfl (And.intro rfl (And.intro rfl trivial))))))) (K110 s9 b (by rw [hf1]; exact hs) (by rw [hf1]; exact hb))
            · have z2 : u ∉ p.2.take k := of_decide_eq_true z2
              rw [if_neg z2] at hf1
              first | refine J_aload_n C rfl dX12_scoreOf_60 ?_ | refine J_aload_nq C rfl dX12_scoreOf_60 ?_ | refine J_aload_nN C rfl dX12_scoreOf_60 ?_
              refine J_iload_n C rfl dX12_scoreOf_61 ?_
              refine J_lload C rfl dX12_scoreOf_62 ?_
              refine J_callV C (c_M_stands M (by omega) tm u) cw_X12_177 (by first | assumption | exact jv_up_at _ _ _ | (simp [jv_up, *]; done)) rfl rfl rfl rfl (by exact Nat.le_of_ble_eq_true rfl) (by decide) (by omega) (by omega) dX12_scoreOf_64 ?_
              rintro _ h9 ⟨rfl, e9⟩
              replace e9 := e9.symm
              subst e9
              refine J_bif_eq C 110 (by decide) dX12_scoreOf_67 (fun z3 => ?_) (fun z3 => ?_)
              · refine J_sub (by exact (And.intro rfl (And.intro rfl (And.intro rfl (And.intro rfl (And.intro rfl (And.intro rfl trivial))))))) (K110 s9 b (by rw [hf1, mscA_app, ← hs]; show _ = (if t.2.2 u then _ else s9); rw [z3, if_neg Bool.false_ne_true]) (by rw [hf1, List.any_append, ← hb, List.any_cons, z3]; simp))
              · have hb2 : true = (frs p.2 (k + 1)).any t.2.2 := by rw [hf1, List.any_append, List.any_cons, z3]; simp
                refine J_iconst C (v := nI 1) (by decide) dX12_scoreOf_70 ?_
                refine J_istore C (by decide) dX12_scoreOf_71 ?_
                first | refine J_aload_n C rfl dX12_scoreOf_73 ?_ | refine J_aload_nq C rfl dX12_scoreOf_73 ?_ | refine J_aload_nN C rfl dX12_scoreOf_73 ?_
                refine J_get C fl_X12_36 (by first | assumption | exact jv_up_at _ _ _ | (simp [jv_up, *]; done)) (by rfl) dX12_scoreOf_74 ?_
                refine J_iload_n C rfl dX12_scoreOf_77 ?_
                refine J_iald C (by first | assumption | exact jv_up_at _ _ _ | (simp [jv_up, *]; done)) rfl (by omega) (by omega) dX12_scoreOf_78 ?_
                rw [s1]
                refine J_iconst C (v := nI 2) (by decide) dX12_scoreOf_79 ?_
                refine J_nicmp_ne C (by first | omega | (dsimp only; omega)) (by first | omega | (dsimp only; omega)) 87 (by decide) dX12_scoreOf_80 (fun z4 => ?_) (fun z4 => ?_)
                · refine J_iload_n C rfl dX12_scoreOf_87 ?_
                  first | refine J_aload_n C rfl dX12_scoreOf_88 ?_ | refine J_aload_nq C rfl dX12_scoreOf_88 ?_ | refine J_aload_nN C rfl dX12_scoreOf_88 ?_
                  refine J_get C fl_X12_39 (by first | assumption | exact jv_up_at _ _ _ | (simp [jv_up, *]; done)) (by rfl) dX12_scoreOf_89 ?_
                  refine J_iload_n C rfl dX12_scoreOf_92 ?_
                  refine J_iald C (by first | assumption | exact jv_up_at _ _ _ | (simp [jv_up, *]; done)) rfl (by omega) (by omega) dX12_scoreOf_93 ?_
                  rw [s3]
                  first | refine J_aload_n C rfl dX12_scoreOf_94 ?_ | refine J_aload_nq C rfl dX12_scoreOf_94 ?_ | refine J_aload_nN C rfl dX12_scoreOf_94 ?_
                  refine J_get C fl_X12_58 (by first | assumption | exact jv_up_at _ _ _ | (simp [jv_up, *]; done)) (by rfl) dX12_scoreOf_95 ?_
                  refine J_sipush C (v := nI 200) (by decide) dX12_scoreOf_98 ?_
                  refine J_iload_n C rfl dX12_scoreOf_101 ?_
                  first | refine J_nimul C dX12_scoreOf_102 ?_ | refine J_imul C dX12_scoreOf_102 ?_
                  refine J_iload C rfl dX12_scoreOf_103 ?_
                  first | refine J_niadd C dX12_scoreOf_105 ?_ | refine J_iadd C dX12_scoreOf_105 ?_
                  refine J_iald C (by first | assumption | exact jv_up_at _ _ _ | (simp [jv_up, *]; done)) rfl (by omega) (by omega) dX12_scoreOf_106 ?_
                  rw [k2 z2]
                  first | refine J_nimul C dX12_scoreOf_107 ?_ | refine J_imul C dX12_scoreOf_107 ?_
                  first | refine J_niadd C dX12_scoreOf_108 ?_ | refine J_iadd C dX12_scoreOf_108 ?_
                  refine J_istore_n C (by decide) dX12_scoreOf_109 ?_
                  refine J_sub (by exact (And.intro rfl (And.intro rfl (And.intro rfl (And.intro rfl (And.intro rfl (And.intro rfl trivial))))))) (K110 _ true (by rw [hf1, mscA_app, ← hs]; show _ = (if t.2.2 u then (if t.1 = 2 then s9 else _) else s9); rw [z3, if_pos rfl, if_neg z4]) hb2)
                · refine J_iload_n C rfl dX12_scoreOf_83 ?_
                  refine J_goto C 109 (by decide) dX12_scoreOf_84 ?_
                  refine J_istore_n C (by decide) dX12_scoreOf_109 ?_
                  refine J_sub (by exact (And.intro rfl (And.intro rfl (And.intro rfl (And.intro rfl (And.intro rfl (And.intro rfl trivial))))))) (K110 s9 true (by rw [hf1, mscA_app, ← hs]; show _ = (if t.2.2 u then (if t.1 = 2 then s9 else _) else s9); rw [z3, if_pos rfl, if_pos z4]) hb2)
      refine J_iload_n C rfl dX12_scoreOf_4 ?_
      first | refine J_aload_n C rfl dX12_scoreOf_5 ?_ | refine J_aload_nq C rfl dX12_scoreOf_5 ?_ | refine J_aload_nN C rfl dX12_scoreOf_5 ?_
      refine J_get C fl_X12_154 (by first | assumption | exact jv_up_at _ _ _ | (simp [jv_up, *]; done)) (by rfl) dX12_scoreOf_6 ?_
      rw [g9]
      refine J_nicmp_ge C (by first | omega | (dsimp only; omega)) (by first | omega | (dsimp only; omega)) 154 (by decide) dX12_scoreOf_9 (fun z => ?_) (fun z => ?_)
      · omega
      · refine J_iconst C (v := nI 0) (by decide) dX12_scoreOf_12 ?_
        refine J_istore C (by decide) dX12_scoreOf_13 ?_
        refine J_iconst C (v := nI 0) (by decide) dX12_scoreOf_15 ?_
        refine J_istore C (by decide) dX12_scoreOf_16 ?_
        refine J_sub (by exact (And.intro rfl (And.intro rfl (And.intro rfl (And.intro rfl (And.intro rfl (And.intro rfl trivial))))))) (inner p.2.length 0 s false (by omega) rfl rfl)
  refine J_iconst C (v := nI 0) (by decide) dX12_scoreOf_0 ?_
  refine J_istore_n C (by decide) dX12_scoreOf_1 ?_
  refine J_iconst C (v := nI 0) (by decide) dX12_scoreOf_2 ?_
  refine J_istore_n C (by decide) dX12_scoreOf_3 ?_
  refine J_sub (by exact (And.intro rfl (And.intro rfl (And.intro rfl (And.intro rfl trivial))))) (outer T 0 0 (Nat.zero_le _) rfl rfl)
end SCORE
