section LEX2
variable {l : jL} {h : jH} {x a d cap : Nat} {W SW : List Nat} {lt : Nat → Int64}
theorem al_fr {h' : jH} {ci : Nat} {L : List Nat} {S : Nat → Prop} (A : al l h ci a d cap L) (F : fr S h h') (ha : ¬ S a) (hd : cap ≠ 0 → ¬ S d) (hL : ∀ y ∈ L, ¬ S y) : al l h' ci a d cap L := by
  obtain ⟨mcn, a1, a2, a3⟩ := A
  refine ⟨mcn, (F a ha).trans a1, fun y hy => ?_, ?_⟩
  · obtain ⟨fs, h2⟩ := a2 y hy
    exact ⟨fs, (F y (hL y hy)).trans h2⟩
  · rcases a3 with e | ⟨c1, c2, c3, f, f1, f2⟩
    · exact Or.inl e
    · exact Or.inr ⟨c1, c2, c3, f, (F d (hd (by omega))).trans f1, f2⟩
theorem al_dA {ci : Nat} {L : List Nat} (A : al l h ci a d cap L) (hc : cap ≠ 0) : ∃ f, h d = some (alA cap f) := by
  obtain ⟨mcn, a1, a2, a3⟩ := A
  rcases a3 with e | ⟨c1, c2, c3, f, f1, f2⟩
  · exact absurd e.1 hc
  · exact ⟨f, f1⟩
set_option maxHeartbeats 400000 in
theorem c_Lex_wordOf (X : lx l h x a d cap W SW lt) (L : Int64) : Cn l yX3_wordOf cX3_wordOf 4 (some (.object "RankedSearch$Word")) 6 0 0 [.ref x, .long L] h (fun r h1 => h1 = h ∧ ((∃ w, w ∈ W ∧ lt w = L ∧ r = some (va_rf (some w))) ∨ ((∀ w ∈ W, lt w ≠ L) ∧ r = some (va_rf none)))) := by
  have X0 := X
  obtain ⟨x1, x2, x3, x4, -⟩ := X
  have hlen := al_len x2
  refine Cn.of (own := RX3) rfl (by decide) (by exact Nat.le_of_ble_eq_true rfl) (by decide) (fun K hK C D I => ?_)
  rw [← hK] at X0
  first | refine J_aload_n C rfl dX3_wordOf_0 ?_ | refine J_aload_nq C rfl dX3_wordOf_0 ?_ | refine J_aload_nN C rfl dX3_wordOf_0 ?_
  first | refine J_aload_n C rfl dX3_wordOf_1 ?_ | refine J_aload_nq C rfl dX3_wordOf_1 ?_ | refine J_aload_nN C rfl dX3_wordOf_1 ?_
  refine J_lload_n C rfl dX3_wordOf_2 ?_
  refine J_callV C (c_Lex_placeOf X0 L) cw_X3_36 (by first | assumption | exact jv_up_at _ _ _ | (simp [jv_up, *]; done)) rfl rfl rfl rfl (by exact Nat.le_of_ble_eq_true rfl) (by decide) (by omega) (by omega) dX3_wordOf_3 ?_
  rintro _ _ ⟨p, rfl, ⟨p1, p2, p3⟩, rfl⟩
  have hno : (∀ u, W[p]? = some u → lt u ≠ L) → ∀ w ∈ W, lt w ≠ L := by
    intro hu w hw he
    obtain ⟨i, hi⟩ := List.getElem?_of_mem hw
    rcases Nat.lt_or_ge i p with q | q
    · exact absurd (p2 i w q hi) (by rw [he]; exact Int64.lt_irrefl)
    · rcases Nat.eq_or_lt_of_le q with q | q
      · subst q; exact hu w hi he
      · have hp := List.getElem?_eq_getElem (l := W) (i := p) (by have := (List.getElem?_eq_some_iff.mp hi).1; omega)
        have := x4 p i _ w q hp hi
        rw [he] at this
        exact p3 p _ (Nat.le_refl _) hp this
  refine J_callV C (c_Lex_wordAt X0 (nI p)) cw_X3_28 (by first | assumption | exact jv_up_at _ _ _ | (simp [jv_up, *]; done)) rfl rfl rfl rfl (by exact Nat.le_of_ble_eq_true rfl) (by decide) (by omega) (by omega) dX3_wordOf_6 ?_
  rintro _ _ ⟨rfl, rfl⟩
  rw [wat_nI W (by omega)]
  first | refine J_astore_nq C (by decide) dX3_wordOf_9 ?_ | refine J_astore_n C (by decide) dX3_wordOf_9 ?_ | refine J_astore_nN C (by decide) dX3_wordOf_9 ?_
  first | refine J_aload_n C rfl dX3_wordOf_10 ?_ | refine J_aload_nq C rfl dX3_wordOf_10 ?_ | refine J_aload_nN C rfl dX3_wordOf_10 ?_
  refine J_ifnull C 27 (by decide) dX3_wordOf_11 (fun z => ?_) (fun w z => ?_)
  · refine J_null C dX3_wordOf_27 ?_
    refine J_aret (x := none) C D (Or.inl ⟨_, rfl⟩) ⟨rfl, Or.inr ⟨hno (fun u hu => by rw [z] at hu; cases hu), rfl⟩⟩ (by omega) (by omega) dX3_wordOf_28
  · obtain ⟨h1, h2, h3, h4, h5⟩ := x3 _ (List.mem_of_getElem? z)
    first | refine J_aload_n C rfl dX3_wordOf_14 ?_ | refine J_aload_nq C rfl dX3_wordOf_14 ?_ | refine J_aload_nN C rfl dX3_wordOf_14 ?_
    rw [z]
    refine J_eq (st1 := [.ref w]) rfl rfl ?_
    refine J_get C fl_X3_32 (by first | assumption | exact jv_up_at _ _ _ | (simp [jv_up, *]; done)) (by rfl) dX3_wordOf_15 ?_
    refine J_lload_n C rfl dX3_wordOf_18 ?_
    refine J_lcmp C dX3_wordOf_19 ?_
    refine J_if_ne C 27 (by decide) dX3_wordOf_20 (fun z3 => ?_) (fun z3 => ?_)
    · refine J_null C dX3_wordOf_27 ?_
      refine J_aret (x := none) C D (Or.inl ⟨_, rfl⟩) ⟨rfl, Or.inr ⟨hno (fun u hu he => z3 ((lg_cmp_eq _ _).mpr (by rw [z] at hu; cases hu; exact he))), rfl⟩⟩ (by omega) (by omega) dX3_wordOf_28
    · have z3 := (lg_cmp_eq _ _).mp z3
      first | refine J_aload_n C rfl dX3_wordOf_23 ?_ | refine J_aload_nq C rfl dX3_wordOf_23 ?_ | refine J_aload_nN C rfl dX3_wordOf_23 ?_
      refine J_goto C 28 (by decide) dX3_wordOf_24 ?_
      refine J_aret (x := some w) C D (Or.inl ⟨_, rfl⟩) ⟨rfl, Or.inl ⟨w, List.mem_of_getElem? z, z3, rfl⟩⟩ (by omega) (by omega) dX3_wordOf_28
/-- a word taken: the chain's first, or a new one -/
def tkW (h : jH) (x a : Nat) (SW : List Nat) (w : Nat) (SW' : List Nat) (h1 : jH) : Prop :=
  (SW = w :: SW' ∧ h1 = jv_up h x (lxO a SW'[0]?)) ∨ (SW = [] ∧ SW' = [] ∧ h w = none ∧ h1 = jv_up h w (wdO (lN 0) 0 0 none none))
set_option maxHeartbeats 400000 in
theorem c_Lex_take (X : lx l h x a d cap W SW lt) : Cn l yX3_takeWord cX3_takeWord 2 (some (.object "RankedSearch$Word")) 2 1 5 [.ref x] h (fun r h1 => ∃ w SW', r = some (.ref w) ∧ tkW h x a SW w SW' h1) := by
  obtain ⟨x1, x2, x3, x4, x5, -⟩ := X
  refine Cn.of (own := RX3) rfl (by decide) (by exact Nat.le_of_ble_eq_true rfl) (by decide) (fun K hK C D I => ?_)
  first | refine J_aload_n C rfl dX3_takeWord_0 ?_ | refine J_aload_nq C rfl dX3_takeWord_0 ?_ | refine J_aload_nN C rfl dX3_takeWord_0 ?_
  refine J_get C fl_X3_55 (by first | assumption | exact jv_up_at _ _ _ | (simp [jv_up, *]; done)) (by rfl) dX3_takeWord_1 ?_
  refine J_ifnonnull C 15 (by decide) dX3_takeWord_4 (fun w z => ?_) (fun z => ?_)
  · obtain ⟨L, h1, h2, h3, h4⟩ := x5 0 w z
    first | refine J_aload_n C rfl dX3_takeWord_15 ?_ | refine J_aload_nq C rfl dX3_takeWord_15 ?_ | refine J_aload_nN C rfl dX3_takeWord_15 ?_
    refine J_get C fl_X3_55 (by first | assumption | exact jv_up_at _ _ _ | (simp [jv_up, *]; done)) (by rfl) dX3_takeWord_16 ?_
    rw [z]
    refine J_astore_n (x := w) C (by decide) dX3_takeWord_19 ?_
    first | refine J_aload_n C rfl dX3_takeWord_20 ?_ | refine J_aload_nq C rfl dX3_takeWord_20 ?_ | refine J_aload_nN C rfl dX3_takeWord_20 ?_
    first | refine J_aload_n C rfl dX3_takeWord_21 ?_ | refine J_aload_nq C rfl dX3_takeWord_21 ?_ | refine J_aload_nN C rfl dX3_takeWord_21 ?_
    refine J_get C fl_X3_59 (by first | assumption | exact jv_up_at _ _ _ | (simp [jv_up, *]; done)) (by rfl) dX3_takeWord_22 ?_
    refine J_put C fl_X3_55 (by first | assumption | exact jv_up_at _ _ _ | (simp [jv_up, *]; done)) (by exact Nat.le_of_ble_eq_true rfl) (by first | rfl | exact jv_nar_o _ _) (by first | rfl | exact jv_fit_o _ _) dX3_takeWord_25 ?_
    first | refine J_aload_n C rfl dX3_takeWord_28 ?_ | refine J_aload_nq C rfl dX3_takeWord_28 ?_ | refine J_aload_nN C rfl dX3_takeWord_28 ?_
    refine J_aret (x := some w) C D (Or.inl ⟨_, rfl⟩) ⟨w, SW.tail, rfl, Or.inl ⟨?_, ?_⟩⟩ (by omega) (by omega) dX3_takeWord_29
    · cases SW with
      | nil => cases z
      | cons y t => cases z; rfl
    · cases SW with
      | nil => cases z
      | cons y t => rfl
  · refine J_new C nw_X3_26 (by omega) (by omega) dX3_takeWord_7 (fun q hq => ?_)
    refine J_dup C rfl dX3_takeWord_10 ?_
    refine J_callI C (c_Word_init q) cw_X3_62 rfl rfl (by exact Nat.le_of_ble_eq_true rfl) (by decide) (by omega) (by omega) dX3_takeWord_11 ?_
    rintro _ _ ⟨rfl, rfl⟩
    refine J_aret (x := some q) C D (Or.inl ⟨_, rfl⟩) ⟨q, [], rfl, Or.inr ⟨?_, rfl, hq, rfl⟩⟩ (by omega) (by omega) dX3_takeWord_14
    cases SW with
    | nil => rfl
    | cons y t => cases z
/-- what enter leaves where the word is new -/
def entP (l : jL) (h : jH) (x a d cap : Nat) (W SW : List Nat) (lt : Nat → Int64) (L : Int64) (w : Nat) (h1 : jH) : Prop :=
  (∀ u ∈ W, lt u ≠ L) ∧ w ∉ W ∧ ∃ p d' cap' SW', p ≤ W.length ∧ lx l h1 x a d' cap' (W.take p ++ w :: W.drop p) SW' (va_up lt w L) ∧ h1 w = some (wdO L 0 0 none none) ∧ capS cap cap' W.length ∧
  (SW = w :: SW' ∨ (SW = [] ∧ SW' = [] ∧ h w = none)) ∧ (d' = d ∨ h d' = none) ∧ fr (fun y => y = x ∨ y = a ∨ y = d ∨ y = w ∨ h y = none) h h1
set_option maxHeartbeats 1000000 in
theorem c_Lex_enter (X : lx l h x a d cap W SW lt) (hcap : cap ≤ 40000) (M : Nat) (L : Int64) (hM : (∀ u ∈ W, lt u ≠ L) → W.length = cap → gcap cap ≤ M) : Cn l yX3_enter cX3_enter 6 (some (.object "RankedSearch$Word")) 7 2 (5 + M) [.ref x, .long L] h (fun r h1 => ∃ w, r = some (.ref w) ∧ ((h1 = h ∧ w ∈ W ∧ lt w = L) ∨ entP l h x a d cap W SW lt L w h1)) := by
  have X0 := X
  obtain ⟨x1, x2, x3, x4, x5, x6, x7⟩ := X
  have hlen := al_len x2
  refine Cn.of (own := RX3) rfl (by decide) (by exact Nat.le_of_ble_eq_true rfl) (by decide) (fun K hK C D I => ?_)
  have X1 := X0
  rw [← hK] at X1
  have K31 : ∀ (p : Nat) (wv : Option Nat), p ≤ W.length → (∀ i u, i < p → W[i]? = some u → lt u < L) → (∀ i u, p ≤ i → W[i]? = some u → L < lt u) → J K 0 0 31 (jv_l [(0, .ref x), (1, .long L), (3, .int (nI p))]) [] h := by
    intro p wv p1 p2 p3
    have hno : ∀ u ∈ W, lt u ≠ L := by
      intro u hu he
      obtain ⟨i, hi⟩ := List.getElem?_of_mem hu
      rcases Nat.lt_or_ge i p with q | q
      · have := p2 i u q hi; rw [he] at this; exact absurd this (Int64.lt_irrefl)
      · have := p3 i u q hi; rw [he] at this; exact absurd this (Int64.lt_irrefl)
    first | refine J_aload_n C rfl dX3_enter_31 ?_ | refine J_aload_nq C rfl dX3_enter_31 ?_ | refine J_aload_nN C rfl dX3_enter_31 ?_
    refine J_callV C (c_Lex_take X1) cw_X3_40 (by first | assumption | exact jv_up_at _ _ _ | (simp [jv_up, *]; done)) rfl rfl rfl rfl (by exact Nat.le_of_ble_eq_true rfl) (by decide) (by omega) (by omega) dX3_enter_32 ?_
    rintro _ h1 ⟨w, SW', rfl, T⟩
    have hwW : w ∉ W := by
      rcases T with ⟨rfl, _⟩ | ⟨_, _, hw, _⟩
      · exact x7 w List.mem_cons_self
      · intro z; obtain ⟨_, _, _, _, h5⟩ := x3 w z; rw [hw] at h5; cases h5
    have hxw : x ≠ w := by
      rcases T with ⟨rfl, _⟩ | ⟨_, _, hw, _⟩
      · obtain ⟨_, _, _, _, h5⟩ := x5 0 w rfl; exact jv_neO x1 h5 (by decide)
      · exact fun z => by rw [z, hw] at x1; cases x1
    have h1w : ∃ L0 q1 q2 q3 q4, h1 w = some (.inr (9, [.long L0, q1, q2, q3, q4])) := by
      rcases T with ⟨rfl, rfl⟩ | ⟨_, _, hw, rfl⟩
      · obtain ⟨L0, _, _, _, h5⟩ := x5 0 w rfl
        exact ⟨L0, _, _, _, _, jv_up_of hxw.symm h5⟩
      · exact ⟨_, _, _, _, _, jv_up_at _ _ _⟩
    obtain ⟨L0, q1, q2, q3, q4, h1w⟩ := h1w
    have hSW : SW = w :: SW' ∨ (SW = [] ∧ SW' = [] ∧ h w = none) := by
      rcases T with ⟨e, _⟩ | ⟨e1, e2, hw, _⟩
      · exact Or.inl e
      · exact Or.inr ⟨e1, e2, hw⟩
    have h1x : h1 x = some (lxO a SW'[0]?) := by
      rcases T with ⟨_, rfl⟩ | ⟨e1, e2, hw, rfl⟩
      · exact jv_up_at _ _ _
      · rw [e2, jv_up_ne hxw]; rw [e1] at x1; exact x1
    have F1 : fr (fun y => y = x ∨ y = w) h h1 := by
      rcases T with ⟨_, rfl⟩ | ⟨_, _, _, rfl⟩
      · exact fr_up (Or.inl rfl)
      · exact fr_up (Or.inr rfl)
    refine J_astore C (by decide) dX3_enter_35 ?_
    first | refine J_aload C rfl dX3_enter_37 ?_ | refine J_aloadq C rfl dX3_enter_37 ?_ | refine J_aloadN C rfl dX3_enter_37 ?_
    refine J_lload_n C rfl dX3_enter_39 ?_
    refine J_callV C (c_Word_begin w L0 L q1 q2 q3 q4 h1w) cw_X3_44 (by first | assumption | exact jv_up_at _ _ _ | (simp [jv_up, *]; done)) rfl rfl rfl rfl (by exact Nat.le_of_ble_eq_true rfl) (by decide) (by omega) (by omega) dX3_enter_40 ?_
    rintro _ _ ⟨rfl, rfl⟩
    have F2 : fr (fun y => y = x ∨ y = w) h (jv_up h1 w (wdO L 0 0 none none)) := fr_tr F1 (fr_up (Or.inr rfl))
    have hwd : h w = none ∨ ∃ fs, h w = some (.inr (9, fs)) := by
      rcases hSW with rfl | ⟨_, _, hw⟩
      · obtain ⟨L0, _, _, _, h5⟩ := x5 0 w rfl; exact Or.inr ⟨_, h5⟩
      · exact Or.inl hw
    obtain ⟨mcn, a1, a2, a3⟩ := id x2
    have haw : a ≠ w := by
      rcases hwd with z | ⟨fs, z⟩
      · exact fun e => by rw [e, z] at a1; cases a1
      · exact jv_neO a1 z (by decide)
    have hax : a ≠ x := jv_neO a1 x1 (by decide)
    have hdw : cap ≠ 0 → d ≠ w ∧ d ≠ x := by
      intro hc
      obtain ⟨f, hf⟩ := al_dA x2 hc
      refine ⟨?_, (jv_neA x1 hf).symm⟩
      rcases hwd with z | ⟨fs, z⟩
      · exact fun e => by rw [e, z] at hf; cases hf
      · exact (jv_neA z hf).symm
    have A2 : al l (jv_up h1 w (wdO L 0 0 none none)) 9 a d cap W := al_fr x2 F2 (fun z => z.elim hax haw) (fun hc z => z.elim (hdw hc).2 (hdw hc).1) (fun y hy z => by
      rcases z with z | z
      · obtain ⟨_, _, _, _, h5⟩ := x3 y hy; rw [z] at h5; rw [x1] at h5; cases h5
      · exact hwW (z ▸ hy))
    have A3 := A2
    rw [← hK] at A2
    have h2x : jv_up h1 w (wdO L 0 0 none none) x = some (lxO a SW'[0]?) := jv_up_of hxw h1x
    refine J_e0 C (fun he0 => ?_)
    rw [hK] at he0
    refine J_iload_n C rfl dX3_enter_43 ?_
    have h2a : ∃ fs, jv_up h1 w (wdO L 0 0 none none) a = some (.inr (12, fs)) := by
      obtain ⟨mcn2, b1, _⟩ := A3; exact ⟨_, b1⟩
    obtain ⟨fs2, h2a⟩ := h2a
    refine J_nif_lt C (by omega) 68 dX3_enter_44 (by decide) ?_
    refine J_iload_n C rfl dX3_enter_47 ?_
    first | refine J_aload_n C rfl dX3_enter_48 ?_ | refine J_aload_nq C rfl dX3_enter_48 ?_ | refine J_aload_nN C rfl dX3_enter_48 ?_
    refine J_get C fl_X3_12 (by exact h2x) (by rfl) dX3_enter_49 ?_
    refine J_callV C (c_AL_size A2) cw_X3_18 (by first | assumption | exact jv_up_at _ _ _ | (simp [jv_up, *]; done)) rfl rfl rfl rfl (by exact Nat.le_of_ble_eq_true rfl) (by decide) (by omega) (by omega) dX3_enter_52 ?_
    rintro _ _ ⟨rfl, rfl⟩
    refine J_nicmp_gt C (by first | omega | (dsimp only; omega)) (by first | omega | (dsimp only; omega)) 68 (by decide) dX3_enter_55 (fun z9 => ?_) (fun z9 => ?_)
    · omega
    first | refine J_aload_n C rfl dX3_enter_58 ?_ | refine J_aload_nq C rfl dX3_enter_58 ?_ | refine J_aload_nN C rfl dX3_enter_58 ?_
    refine J_get C fl_X3_12 (by exact h2x) (by rfl) dX3_enter_59 ?_
    refine J_iload_n C rfl dX3_enter_62 ?_
    first | refine J_aload C rfl dX3_enter_63 ?_ | refine J_aloadq C rfl dX3_enter_63 ?_ | refine J_aloadN C rfl dX3_enter_63 ?_
    refine J_callV C (c_AL_ins okci_9 (by decide) A2 hcap M (hM hno) p p1 w _ (jv_up_at _ _ _)) cw_X3_48 h2a rfl rfl rfl rfl (by exact Nat.le_of_ble_eq_true rfl) (by decide) (by omega) (by omega) dX3_enter_65 ?_
    rintro _ h3 ⟨rfl, ⟨d', cap', A4, S4, N4⟩, F4⟩
    rw [hK] at A4
    have hS4 : ∀ y, alS (jv_up h1 w (wdO L 0 0 none none)) a d y → y = a ∨ y = d ∨ h y = none := by
      intro y hy
      rcases hy with hy | hy | hy
      · exact Or.inl hy
      · exact Or.inr (Or.inl hy)
      · refine Or.inr (Or.inr ?_)
        by_cases w1 : y = x ∨ y = w
        · rcases w1 with rfl | rfl
          · rw [h2x] at hy; cases hy
          · rw [jv_up_at] at hy; cases hy
        · rw [F2 y w1] at hy; exact hy
    have keep : ∀ y fs, jv_up h1 w (wdO L 0 0 none none) y = some (.inr fs) → fs.1 ≠ 12 → h3 y = some (.inr fs) := by
      intro y fs hy hc
      refine (F4 y (fun z => ?_)).trans hy
      rcases z with z | z | z
      · rw [z, h2a] at hy; cases hy; exact hc rfl
      · by_cases hc0 : cap = 0
        · rcases a3 with ⟨_, _, e3⟩ | ⟨c1, _⟩
          · rw [z, e3, he0] at hy; cases hy
          · omega
        · obtain ⟨f, hf⟩ := al_dA A3 hc0
          rw [z, hf] at hy; cases hy
      · rw [z] at hy; cases hy
    first | refine J_aload C rfl dX3_enter_68 ?_ | refine J_aloadq C rfl dX3_enter_68 ?_ | refine J_aloadN C rfl dX3_enter_68 ?_
    refine J_aret (x := some w) C D (Or.inl ⟨_, rfl⟩) ⟨w, rfl, Or.inr ⟨hno, hwW, p, d', cap', SW', p1, ⟨?_, A4, ?_, ?_, ?_, ?_, ?_⟩, ?_, S4, hSW, ?_, ?_⟩⟩ (by omega) (by omega) dX3_enter_70
    · exact keep x _ h2x (show (2 : Nat) ≠ 12 by decide)
    · intro u hu
      rcases ins_mem hu with rfl | hu
      · rw [show va_up lt u L u = L from if_pos rfl]
        exact ⟨_, _, _, _, keep u _ (jv_up_at _ _ _) (show (9 : Nat) ≠ 12 by decide)⟩
      · obtain ⟨b1, b2, b3, b4, b5⟩ := x3 u hu
        rw [show va_up lt w L u = lt u from if_neg (fun (z : u = w) => hwW (by rw [← z]; exact hu))]
        refine ⟨b1, b2, b3, b4, keep u _ ((F2 u (fun z => z.elim (fun z => by rw [z, x1] at b5; cases b5) (fun z => hwW (z ▸ hu)))).trans b5) (show (9 : Nat) ≠ 12 by decide)⟩
    · intro i j u v hij hu hv
      have hlu : ∀ i u, W[i]? = some u → va_up lt w L u = lt u := fun i u hu => if_neg (fun (z : u = w) => hwW (by rw [← z]; exact List.mem_of_getElem? hu))
      have hlw : va_up lt w L w = L := if_pos rfl
      rcases ins_get p1 hu with ⟨e1, e2⟩ | ⟨e1, e2⟩ | ⟨e1, e2⟩ <;> rcases ins_get p1 hv with ⟨f1, f2⟩ | ⟨f1, f2⟩ | ⟨f1, f2⟩
      · rw [hlu _ _ e2, hlu _ _ f2]; exact x4 i j u v hij e2 f2
      · rw [hlu _ _ e2, f2, hlw]; exact p2 i u e1 e2
      · rw [hlu _ _ e2, hlu _ _ f2]; exact x4 i (j - 1) u v (by omega) e2 f2
      · omega
      · omega
      · rw [e2, hlw, hlu _ _ f2]; exact p3 (j - 1) v (by omega) f2
      · omega
      · omega
      · rw [hlu _ _ e2, hlu _ _ f2]; exact x4 (i - 1) (j - 1) u v (by omega) e2 f2
    · intro i u hu
      rcases hSW with rfl | ⟨_, rfl, _⟩
      · obtain ⟨b1, b2, b3, b4, b5⟩ := x5 (i + 1) u (by rw [List.getElem?_cons_succ]; exact hu)
        rw [List.getElem?_cons_succ] at b5
        have hne : u ≠ w := fun z => by
          rw [z] at hu
          exact (List.nodup_cons.mp x6).1 (List.mem_of_getElem? hu)
        exact ⟨b1, b2, b3, b4, keep u _ ((F2 u (fun z => z.elim (fun z => by rw [z, x1] at b5; cases b5) hne)).trans b5) (show (9 : Nat) ≠ 12 by decide)⟩
      · cases hu
    · rcases hSW with rfl | ⟨_, rfl, _⟩
      · exact (List.nodup_cons.mp x6).2
      · exact List.nodup_nil
    · intro u hu hm
      rcases hSW with rfl | ⟨_, rfl, _⟩
      · rcases ins_mem hm with rfl | hm
        · exact (List.nodup_cons.mp x6).1 hu
        · exact x7 u (List.mem_cons_of_mem _ hu) hm
      · cases hu
    · exact keep w _ (jv_up_at _ _ _) (show (9 : Nat) ≠ 12 by decide)
    · rcases N4 with N4 | N4
      · exact Or.inl N4
      · rcases hS4 d' (Or.inr (Or.inr N4)) with z | z | z
        · rw [z, h2a] at N4; cases N4
        · exact Or.inl z
        · exact Or.inr z
    · refine fr_tr (fr_mono F2 (fun y z => z.elim Or.inl (fun z => Or.inr (Or.inr (Or.inr (Or.inl z)))))) (fr_mono F4 (fun y z => ?_))
      rcases hS4 y z with z | z | z
      · exact Or.inr (Or.inl z)
      · exact Or.inr (Or.inr (Or.inl z))
      · exact Or.inr (Or.inr (Or.inr (Or.inr z)))
  first | refine J_aload_n C rfl dX3_enter_0 ?_ | refine J_aload_nq C rfl dX3_enter_0 ?_ | refine J_aload_nN C rfl dX3_enter_0 ?_
  refine J_lload_n C rfl dX3_enter_1 ?_
  refine J_callV C (c_Lex_placeOf X1 L) cw_X3_36 (by first | assumption | exact jv_up_at _ _ _ | (simp [jv_up, *]; done)) rfl rfl rfl rfl (by exact Nat.le_of_ble_eq_true rfl) (by decide) (by omega) (by omega) dX3_enter_2 ?_
  rintro _ _ ⟨p, rfl, ⟨p1, p2, p3⟩, rfl⟩
  refine J_istore_n C (by decide) dX3_enter_5 ?_
  first | refine J_aload_n C rfl dX3_enter_6 ?_ | refine J_aload_nq C rfl dX3_enter_6 ?_ | refine J_aload_nN C rfl dX3_enter_6 ?_
  refine J_iload_n C rfl dX3_enter_7 ?_
  refine J_callV C (c_Lex_wordAt X1 (nI p)) cw_X3_28 (by first | assumption | exact jv_up_at _ _ _ | (simp [jv_up, *]; done)) rfl rfl rfl rfl (by exact Nat.le_of_ble_eq_true rfl) (by decide) (by omega) (by omega) dX3_enter_8 ?_
  rintro _ _ ⟨rfl, rfl⟩
  rw [wat_nI W (by omega)]
  refine J_astoreq C (by decide) dX3_enter_11 ?_
  refine J_aloadq C rfl dX3_enter_13 ?_
  refine J_ifnull C 31 (by decide) dX3_enter_15 (fun z => ?_) (fun w z => ?_)
  · refine J_sub (by exact (And.intro rfl (And.intro rfl (And.intro rfl trivial)))) (K31 p none p1 p2 (fun i u q hu => ?_))
    have := (List.getElem?_eq_some_iff.mp hu).1
    rw [List.getElem?_eq_none_iff] at z
    omega
  · obtain ⟨b1, b2, b3, b4, b5⟩ := x3 _ (List.mem_of_getElem? z)
    refine J_aloadq C rfl dX3_enter_18 ?_
    rw [z]
    refine J_eq (st1 := [.ref w]) rfl rfl ?_
    refine J_get C fl_X3_32 (by first | assumption | exact jv_up_at _ _ _ | (simp [jv_up, *]; done)) (by rfl) dX3_enter_20 ?_
    refine J_lload_n C rfl dX3_enter_23 ?_
    refine J_lcmp C dX3_enter_24 ?_
    refine J_if_ne C 31 (by decide) dX3_enter_25 (fun z3 => ?_) (fun z3 => ?_)
    · refine J_sub (by exact (And.intro rfl (And.intro rfl (And.intro rfl trivial)))) (K31 p none p1 p2 (fun i u q hu => ?_))
      have hne : lt w ≠ L := fun e => z3 ((lg_cmp_eq _ _).mpr e)
      have hge : L < lt w := by
        have q9 := Int64.not_lt.mp (p3 p w (Nat.le_refl _) z)
        rcases Int64.le_iff_lt_or_eq.mp q9 with q | q
        · exact q
        · exact absurd q.symm hne
      rcases Nat.eq_or_lt_of_le q with e | e
      · subst e; rw [z] at hu; cases hu; exact hge
      · exact Int64.lt_trans hge (x4 p i w u e z hu)
    · have z3 := (lg_cmp_eq _ _).mp z3
      refine J_aloadq (x := some w) C rfl dX3_enter_28 ?_
      refine J_aret (x := some w) C D (Or.inl ⟨_, rfl⟩) ⟨w, rfl, Or.inl ⟨rfl, List.mem_of_getElem? z, z3⟩⟩ (by omega) (by omega) dX3_enter_30
end LEX2
