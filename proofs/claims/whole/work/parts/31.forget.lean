section FORGET
variable {l : jL} {h h1 : jH} {b da dd dc x xa xd xc : Nat} {DL W SW SP : List Nat} {lt : Nat → Int64} {num len : Nat → Nat} {PD QW : Nat → List Nat} {tot : Nat → Nat} {tm pa : Nat → Nat → Nat} {nx : Nat → Nat → Option Nat} {fi : Nat → Option Nat} {sf : Nat → sfT} {n : Nat}
/-- documents' own cells and the count of all words may change -/
theorem lib0_doc (B : lib0 l h b da dd dc x xa xd xc DL W SW SP lt num len PD QW tot tm pa nx fi sf n) {len2 : Nat → Nat} {fi2 : Nat → Option Nat} {sf2 : Nat → sfT} {n2 : Nat} (hb : h1 b = some (lbO da x n2 SP[0]?)) (hd : gD h1 DL num len2 fi2 sf2) (F : fr (fun y => y = b ∨ y ∈ DL) h h1) :
    lib0 l h1 b da dd dc x xa xd xc DL W SW SP lt num len2 PD QW tot tm pa nx fi2 sf2 n2 ∧ fr (lc h) h h1 := by
  obtain ⟨b1, b2, b3, b4, b5, b6, b7, b8, b9, b10, b11⟩ := B
  have keep : ∀ {y c : Nat} {fs : List Value}, h y = some (.inr (c, fs)) → c ≠ 3 → c ≠ 1 → h1 y = h y := by
    intro y c fs e h3 h4
    refine F y (fun z => ?_)
    rcases z with z | z
    · exact jv_neO e b1 h3 z
    · exact jv_neO e (b7 y z) h4 rfl
  have keepA : ∀ {y n : Nat} {f : Nat → Option Nat}, h y = some (alA n f) → h1 y = h y := by
    intro y n f e
    refine F y (fun z => ?_)
    rcases z with z | z
    · exact jv_neA b1 e z.symm
    · exact jv_neA (b7 y z) e rfl
  obtain ⟨⟨xf, xa1⟩, xd1⟩ := al_ad b3.2.1
  obtain ⟨⟨df, da1⟩, dd1⟩ := al_ad b2
  refine ⟨⟨hb, al_up b2 (keep da1 (by decide) (by decide)) (fun hc => ?_) (fun y hy => ⟨_, hd y hy⟩), lx_up b3 (keep b3.1 (by decide) (by decide)) (keep xa1 (by decide) (by decide)) (fun hc => ?_) (fun u hu => ?_) (fun u hu => ?_), b4, fun u hu => ?_, fun u hu2 j v hv => ?_, hd, b8, ⟨fun j q hj => ?_, b9.2⟩, b10, b11⟩, fun y hy => F y (fun z => ?_)⟩
  · obtain ⟨f, f1⟩ := dd1 hc
    exact keepA f1
  · obtain ⟨f, f1⟩ := xd1 hc
    exact keepA f1
  · obtain ⟨c1, c2, c3, c4, c5⟩ := b3.2.2.1 u hu
    exact ⟨c1, c2, c3, c4, (keep c5 (by decide) (by decide)).trans c5⟩
  · obtain ⟨j, hj⟩ := List.getElem?_of_mem hu
    obtain ⟨c1, c2, c3, c4, c5⟩ := b3.2.2.2.2.1 j u hj
    exact keep c5 (by decide) (by decide)
  · obtain ⟨sp9, h9⟩ := b5 u hu
    exact ⟨sp9, (keep h9 (by decide) (by decide)).trans h9⟩
  · have h9 := b6 u hu2 j v hv
    exact (keep h9 (by decide) (by decide)).trans h9
  · obtain ⟨t9, p1, p2, p3⟩ := b9.1 j q hj
    exact ⟨t9, p1, p2, (keep p3 (by decide) (by decide)).trans p3⟩
  · rcases z with z | z
    · exact hy (lc_O (z ▸ b1) (by simp))
    · exact hy (lc_O (b7 y z) (by simp))
def fgP (l : jL) (h : jH) (b da dd dc x xa xd xc : Nat) (D W : List Nat) (lt : Nat → Int64) (num len : Nat → Nat) (PD QW : Nat → List Nat) (tm pa : Nat → Nat → Nat) (nx : Nat → Nat → Option Nat) (fi : Nat → Option Nat) (sf : Nat → sfT) (n e : Nat) (Q : List Nat) (h1 : jH) : Prop :=
  fr (lc h) h h1 ∧ ∃ W' SW' SP' PD' tot', lib0 l h1 b da dd dc x xa xd xc D W' SW' SP' lt num len PD' (va_up QW e Q) tot' tm pa nx fi sf n ∧ (∀ u, u ∈ W' ↔ u ∈ W ∧ PD' u ≠ []) ∧ (∀ u ∈ W, ∀ v, v ≠ e → (v ∈ PD' u ↔ v ∈ PD u)) ∧ W'.length ≤ W.length
set_option maxHeartbeats 800000 in
theorem c_Lib_forget (B : lib0 l h b da dd dc x xa xd xc DL W SW SP lt num len PD QW tot tm pa nx fi sf n) (hne : ∀ u ∈ W, PD u ≠ []) {e : Nat} (he : e ∈ DL) (hfi : fi e = (QW e)[0]?.map (fun u => pa u e)) (hln : len e ≤ n) : Cn l yX4_forgetWords cX4_forgetWords 4 none 8 0 0 [.ref b, .ref e] h (fun r h1 => r = none ∧ fgP l h b da dd dc x xa xd xc DL W lt num (va_up len e 0) PD QW tm pa nx (va_up fi e none) sf (n - len e) e [] h1) := by
  refine Cn.of (own := RX4) rfl (by decide) (by exact Nat.le_of_ble_eq_true rfl) (by decide) (fun K hK C D I => ?_)
  have K5 : ∀ (Q : List Nat) (h' : jH), fgP l h b da dd dc x xa xd xc DL W lt num len PD QW tm pa nx fi sf n e Q h' → J K 0 0 5 (jv_l [(2, va_rf (Q[0]?.map (fun u => pa u e))), (1, .ref e), (0, .ref b)]) [] h' := by
    intro Q
    induction Q with
    | nil =>
      intro h' ⟨F, W', SW', SP', PD', tot', Y, y1, y2, y3⟩
      have yb := Y.1
      have ye := Y.2.2.2.2.2.2.1 e he
      have nbe : b ≠ e := jv_neO yb ye (by decide)
      first | refine J_aload_n C rfl dX4_forgetWords_5 ?_ | refine J_aload_nq C rfl dX4_forgetWords_5 ?_ | refine J_aload_nN C rfl dX4_forgetWords_5 ?_
      refine J_ifnull (x := none) C 24 (by decide) dX4_forgetWords_6 (fun _ => ?_) (fun q z => by cases z)
      first | refine J_aload_n C rfl dX4_forgetWords_24 ?_ | refine J_aload_nq C rfl dX4_forgetWords_24 ?_ | refine J_aload_nN C rfl dX4_forgetWords_24 ?_
      refine J_dup C rfl dX4_forgetWords_25 ?_
      refine J_get C fl_X4_114 (by first | assumption | exact jv_up_at _ _ _ | (simp [jv_up, *]; done)) (by rfl) dX4_forgetWords_26 ?_
      first | refine J_aload_n C rfl dX4_forgetWords_29 ?_ | refine J_aload_nq C rfl dX4_forgetWords_29 ?_ | refine J_aload_nN C rfl dX4_forgetWords_29 ?_
      refine J_get C fl_X4_112 (by first | assumption | exact jv_up_at _ _ _ | (simp [jv_up, *]; done)) (by rfl) dX4_forgetWords_30 ?_
      first | refine J_nisub C (by omega) dX4_forgetWords_33 ?_ | refine J_isub C dX4_forgetWords_33 ?_
      refine J_put C fl_X4_114 (by first | assumption | exact jv_up_at _ _ _ | (simp [jv_up, *]; done)) (by exact Nat.le_of_ble_eq_true rfl) (by rfl) (by rfl) dX4_forgetWords_34 ?_
      have ye2 := jv_up_of (x := lbO da x (n - len e) SP'[0]?) nbe.symm ye
      first | refine J_aload_n C rfl dX4_forgetWords_37 ?_ | refine J_aload_nq C rfl dX4_forgetWords_37 ?_ | refine J_aload_nN C rfl dX4_forgetWords_37 ?_
      refine J_iconst C (v := nI 0) (by decide) dX4_forgetWords_38 ?_
      refine J_put C fl_X4_112 (by first | assumption | exact jv_up_at _ _ _ | (simp [jv_up, *]; done)) (by exact Nat.le_of_ble_eq_true rfl) (by rfl) (by rfl) dX4_forgetWords_39 ?_
      first | refine J_aload_n C rfl dX4_forgetWords_42 ?_ | refine J_aload_nq C rfl dX4_forgetWords_42 ?_ | refine J_aload_nN C rfl dX4_forgetWords_42 ?_
      refine J_null C dX4_forgetWords_43 ?_
      refine J_put C fl_X4_125 (by first | assumption | exact jv_up_at _ _ _ | (simp [jv_up, *]; done)) (by exact Nat.le_of_ble_eq_true rfl) (by first | rfl | exact jv_nar_o _ _) (by first | rfl | exact jv_fit_o _ _) dX4_forgetWords_44 ?_
      rw [jv_up_up]
      have hu : ∀ v ∈ DL, jv_up (jv_up h' b (lbO da x (n - len e) SP'[0]?)) e (dcO (num e) 0 none (sf e)) v = some (dcO (num v) (va_up len e 0 v) (va_up fi e none v) (sf v)) := by
        intro v hv
        by_cases c : v = e
        · subst c
          rw [jv_up_at, show va_up len v 0 v = 0 from if_pos rfl, show va_up fi v none v = none from if_pos rfl]
        · rw [show va_up len e 0 v = len v from if_neg c, show va_up fi e none v = fi v from if_neg c]
          have hv9 := Y.2.2.2.2.2.2.1 v hv
          exact jv_up_of c (jv_up_of (jv_neO yb hv9 (by decide)).symm hv9)
      obtain ⟨s1, s2⟩ := lib0_doc Y (jv_up_of nbe (jv_up_at _ _ _)) hu (fr_tr (fr_up (Or.inl rfl)) (fr_up (Or.inr he)))
      refine J_vret C D ⟨rfl, lc_tr F s2, W', SW', SP', PD', tot', s1, y1, y2, y3⟩ (by omega) (by omega) dX4_forgetWords_47
    | cons w rest ih =>
      intro h' ⟨F, W', SW', SP', PD', tot', Y, y1, y2, y3⟩
      have yb := Y.1
      have uqe : va_up QW e (w :: rest) e = w :: rest := if_pos rfl
      obtain ⟨m1, m2, m3⟩ := (Y.2.2.2.2.2.2.2.1.2 e he).2 0 w (by rw [uqe]; rfl)
      obtain ⟨i, hi⟩ := List.getElem?_of_mem m2
      have hp := Y.2.2.2.2.2.1 w m1 i e hi
      rw [m3, uqe] at hp
      replace hp : h' (pa w e) = some (psO (some w) (some e) (tm w e) (prv (PD' w) (pa w) i) (nxt (PD' w) (pa w) i) (rest[0]?.map (fun u => pa u e))) := hp
      first | refine J_aload_n C rfl dX4_forgetWords_5 ?_ | refine J_aload_nq C rfl dX4_forgetWords_5 ?_ | refine J_aload_nN C rfl dX4_forgetWords_5 ?_
      refine J_ifnull (x := some (pa w e)) C 24 (by decide) dX4_forgetWords_6 (fun z => by cases z) (fun _ _ => ?_)
      first | refine J_aload_n C rfl dX4_forgetWords_9 ?_ | refine J_aload_nq C rfl dX4_forgetWords_9 ?_ | refine J_aload_nN C rfl dX4_forgetWords_9 ?_
      refine J_get C fl_X4_126 (by first | assumption | exact jv_up_at _ _ _ | (simp [jv_up, *]; done)) (by rfl) dX4_forgetWords_10 ?_
      first | refine J_astore_nq C (by decide) dX4_forgetWords_13 ?_ | refine J_astore_n C (by decide) dX4_forgetWords_13 ?_ | refine J_astore_nN C (by decide) dX4_forgetWords_13 ?_
      first | refine J_aload_n C rfl dX4_forgetWords_14 ?_ | refine J_aload_nq C rfl dX4_forgetWords_14 ?_ | refine J_aload_nN C rfl dX4_forgetWords_14 ?_
      first | refine J_aload_n C rfl dX4_forgetWords_15 ?_ | refine J_aload_nq C rfl dX4_forgetWords_15 ?_ | refine J_aload_nN C rfl dX4_forgetWords_15 ?_
      have Y2 := Y
      rw [← hK] at Y2
      refine J_callV C (c_Lib_release Y2 (fun u hu => ((y1 u).mp hu).2) he uqe hi) cw_X4_133 (by first | assumption | exact jv_up_at _ _ _ | (simp [jv_up, *]; done)) rfl rfl rfl rfl (by exact Nat.le_of_ble_eq_true rfl) (by decide) (by omega) (by omega) dX4_forgetWords_16 ?_
      rintro _ h2 ⟨rfl, F2, W2, SW2, Z, z1, z2⟩
      rw [hK] at Z
      have uu : va_up (va_up QW e (w :: rest)) e rest = va_up QW e rest := by
        funext v
        unfold va_up
        by_cases c : v = e
        · rw [if_pos c, if_pos c]
        · rw [if_neg c, if_neg c, if_neg c]
      rw [uu] at Z
      first | refine J_aload_n C rfl dX4_forgetWords_19 ?_ | refine J_aload_nq C rfl dX4_forgetWords_19 ?_ | refine J_aload_nN C rfl dX4_forgetWords_19 ?_
      first | refine J_astore_nq C (by decide) dX4_forgetWords_20 ?_ | refine J_astore_n C (by decide) dX4_forgetWords_20 ?_ | refine J_astore_nN C (by decide) dX4_forgetWords_20 ?_
      refine J_goto C 5 (by decide) dX4_forgetWords_21 ?_
      have upw : va_up PD' w ((PD' w).eraseIdx i) w = (PD' w).eraseIdx i := if_pos rfl
      refine J_sub (by exact (And.intro rfl (And.intro rfl (And.intro rfl trivial)))) (ih h2 ⟨lc_tr F F2, W2, SW2, _, _, _, Z, fun u => ⟨fun hu => ?_, fun hu => ?_⟩, fun u hu v hv => ?_, Nat.le_trans z2 y3⟩)
      · obtain ⟨q1, q2⟩ := (z1 u).mp hu
        exact ⟨((y1 u).mp q1).1, q2⟩
      · refine (z1 u).mpr ⟨(y1 u).mpr ⟨hu.1, ?_⟩, hu.2⟩
        by_cases c : u = w
        · subst c
          exact ((y1 u).mp m1).2
        · have := hu.2
          rw [show va_up PD' w ((PD' w).eraseIdx i) u = PD' u from if_neg c] at this
          exact this
      · by_cases c : u = w
        · subst c
          rw [upw]
          exact (mem_erase_iff (Y.2.2.2.2.2.2.2.1.1 u m1).1 hi v).trans ⟨fun q => (y2 u hu v hv).mp q.1, fun q => ⟨(y2 u hu v hv).mpr q, hv⟩⟩
        · rw [show va_up PD' w ((PD' w).eraseIdx i) u = PD' u from if_neg c]
          exact y2 u hu v hv
  have be := B.2.2.2.2.2.2.1 e he
  first | refine J_aload_n C rfl dX4_forgetWords_0 ?_ | refine J_aload_nq C rfl dX4_forgetWords_0 ?_ | refine J_aload_nN C rfl dX4_forgetWords_0 ?_
  refine J_get C fl_X4_125 (by first | assumption | exact jv_up_at _ _ _ | (simp [jv_up, *]; done)) (by rfl) dX4_forgetWords_1 ?_
  first | refine J_astore_nq C (by decide) dX4_forgetWords_4 ?_ | refine J_astore_n C (by decide) dX4_forgetWords_4 ?_ | refine J_astore_nN C (by decide) dX4_forgetWords_4 ?_
  rw [hfi]
  refine J_sub (by exact (And.intro rfl (And.intro rfl (And.intro rfl trivial)))) (K5 (QW e) h ⟨fr_rf _ _, W, SW, SP, PD, tot, ?_, fun u => ⟨fun hu => ⟨hu, hne u hu⟩, fun hu => hu.1⟩, fun _ _ _ _ => Iff.rfl, Nat.le_refl _⟩)
  have uu : va_up QW e (QW e) = QW := by
    funext v
    unfold va_up
    by_cases c : v = e
    · rw [if_pos c, c]
    · rw [if_neg c]
  rw [uu]
  exact B
end FORGET
