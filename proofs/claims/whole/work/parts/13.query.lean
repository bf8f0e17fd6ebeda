/-! Query: read byte by byte; the pure machine qs_ -/
def fr (S : Nat → Prop) (h h1 : jH) : Prop := ∀ x, ¬ S x → h1 x = h x
theorem fr_rf (S : Nat → Prop) (h : jH) : fr S h h := fun _ _ => rfl
theorem fr_tr {S : Nat → Prop} {h h1 h2 : jH} (a : fr S h h1) (b : fr S h1 h2) : fr S h h2 := fun x hx => (b x hx).trans (a x hx)
theorem fr_up {S : Nat → Prop} {h : jH} {a : Nat} {x : jE} (ha : S a) : fr S h (jv_up h a x) := fun y hy => jv_up_ne (fun z => hy (by rw [z]; exact ha))
theorem fr_mono {S S' : Nat → Prop} {h h1 : jH} (H : fr S h h1) (hs : ∀ x, S x → S' x) : fr S' h h1 := fun x hx => H x (fun z => hx (hs x z))
theorem jv_neO {h : jH} {a b ci cj : Nat} {fs gs : List Value} (ha : h a = some (.inr (ci, fs))) (hb : h b = some (.inr (cj, gs))) (hne : ci ≠ cj) : a ≠ b := by
  intro z
  subst z
  rw [ha] at hb
  injection hb with hb
  injection hb with hb
  injection hb with hb
  exact hne hb
theorem jv_neA {h : jH} {a b : Nat} {x : Nat × List Value} {y : Nat × vp_A} (ha : h a = some (.inr x)) (hb : h b = some (.inl y)) : a ≠ b := by
  intro z
  subst z
  rw [ha] at hb
  cases hb
abbrev qsT : Type := Nat × Nat × (Nat → tmT)
def tm_app (v : tmT) (b : Nat) : tmT := (v.1, v.2.1, v.2.2.1, sp_with v.2.2.2.1 v.2.2.2.2.1 (sp_let b), v.2.2.2.2.1 + 1, v.2.2.2.2.2)
def qs_blank (s : qsT) (b : Nat) : Nat × qsT := if 32 < b then (1, s) else (0, (s.1, 0, s.2.2))
def qs_let (s : qsT) (b : Nat) : Nat × qsT := if sp_isl b then (if 12 ≤ (s.2.2 (s.1 - 1)).2.2.2.2.1 then (2, s) else (0, (s.1, 2, va_up s.2.2 (s.1 - 1) (tm_app (s.2.2 (s.1 - 1)) b)))) else (1, s)
def qs_star (s : qsT) (b : Nat) : Nat × qsT := if b = 94 then (0, (s.1, 4, s.2.2)) else qs_blank s b
def tm_open (v : tmT) : tmT := (v.1, v.2.1, true, v.2.2.2)
def qs_behind (s : qsT) (b : Nat) : Nat × qsT := if sp_isl b then qs_let s b else if b = 42 then (0, (s.1, 3, va_up s.2.2 (s.1 - 1) (tm_open (s.2.2 (s.1 - 1))))) else qs_star s b
def tm_wt (v : tmT) (w : Nat) : tmT := (v.1, v.2.1, v.2.2.1, v.2.2.2.1, v.2.2.2.2.1, w)
def qs_fig (s : qsT) (b : Nat) : Nat × qsT := if b < 49 ∨ 57 < b then (1, s) else (0, (s.1, 5, va_up s.2.2 (s.1 - 1) (tm_wt (s.2.2 (s.1 - 1)) (b - 48))))
def tm_sgn (b : Nat) : tmT := (decide (b = 43), decide (b = 45), false, lN 0, 0, 1)
def qs_between (s : qsT) (b : Nat) : Nat × qsT :=
  if (b = 43 ∨ b = 45) ∨ sp_isl b then (if 16 ≤ s.1 then (3, s) else if b = 43 ∨ b = 45 then (0, (s.1 + 1, 1, va_up s.2.2 s.1 (tm_sgn b))) else qs_let (s.1 + 1, s.2.1, va_up s.2.2 s.1 tm0) b) else qs_blank s b
def qs_take (s : qsT) (b : Nat) : Nat × qsT :=
  if s.2.1 = 0 then qs_between s b else if s.2.1 = 1 then qs_let s b else if s.2.1 = 2 then qs_behind s b else if s.2.1 = 3 then qs_star s b else if s.2.1 = 4 then qs_fig s b else qs_blank s b
abbrev qyO (ta cnt cur st fk : Nat) (fp : Int32) : jE := .inr (5, [.ref ta, .int (nI cnt), .ref cur, .int (nI st), .int (nI fk), .int fp])
def qy (h : jH) (a ta : Nat) (tt : Nat → Nat) (cur fk : Nat) (fp : Int32) (s : qsT) : Prop :=
  h a = some (qyO ta s.1 cur s.2.1 fk fp) ∧ (∃ f, h ta = some (.inl (5, 16, .inr (.inr (.inr (.inr f))))) ∧ ∀ i, i < 16 → f i = some (tt i)) ∧
  (∀ i, i < 16 → h (tt i) = some (tm (s.2.2 i))) ∧ (∀ i j, i < 16 → j < 16 → tt i = tt j → i = j) ∧ s.1 ≤ 16 ∧ s.2.1 ≤ 5 ∧ (∀ i, i < 16 → (s.2.2 i).2.2.2.2.1 ≤ 12) ∧ fk ≤ 3
/-- the current term is the last -/
def qy_cur (tt : Nat → Nat) (cur : Nat) (s : qsT) : Prop := 1 ≤ s.1 ∧ cur = tt (s.1 - 1)
def qy_S (a : Nat) (tt : Nat → Nat) : Nat → Prop := fun x => x = a ∨ ∃ i, i < 16 ∧ x = tt i
theorem qy_a {h : jH} {a ta : Nat} {tt : Nat → Nat} {cur fk : Nat} {fp : Int32} {s : qsT} (Y : qy h a ta tt cur fk fp s) {cnt cur' st fk' : Nat} {fp' : Int32} (hc : cnt ≤ 16) (hst : st ≤ 5) (hfk : fk' ≤ 3) : qy (jv_up h a (qyO ta cnt cur' st fk' fp')) a ta tt cur' fk' fp' (cnt, st, s.2.2) := by
  obtain ⟨y1, ⟨f, y2, y3⟩, y4, y5, y6, y7, y8, y9⟩ := Y
  have n1 : ta ≠ a := fun z => by rw [z, y1] at y2; cases y2
  exact ⟨jv_up_at _ _ _, ⟨f, jv_up_of n1 y2, y3⟩, fun i hi => jv_up_of (jv_neO (y4 i hi) y1 (by decide)) (y4 i hi), y5, hc, hst, y8, hfk⟩
theorem qy_ne {h : jH} {a ta : Nat} {tt : Nat → Nat} {cur fk : Nat} {fp : Int32} {s : qsT} (Y : qy h a ta tt cur fk fp s) {i : Nat} (hi : i < 16) : tt i ≠ a ∧ tt i ≠ ta := by
  obtain ⟨y1, ⟨f, y2, y3⟩, y4, -⟩ := Y
  have h4 := y4 i hi
  exact ⟨jv_neO h4 y1 (by decide), jv_neA h4 y2⟩
theorem qy_t {h : jH} {a ta : Nat} {tt : Nat → Nat} {cur fk : Nat} {fp : Int32} {s : qsT} (Y : qy h a ta tt cur fk fp s) {k : Nat} (hk : k < 16) {v : tmT} (hv : v.2.2.2.2.1 ≤ 12) : qy (jv_up h (tt k) (tm v)) a ta tt cur fk fp (s.1, s.2.1, va_up s.2.2 k v) := by
  have n := qy_ne Y hk
  obtain ⟨y1, ⟨f, y2, y3⟩, y4, y5, y6, y7, y8, y9⟩ := Y
  refine ⟨jv_up_of n.1.symm y1, ⟨f, jv_up_of n.2.symm y2, y3⟩, fun i hi => ?_, y5, y6, y7, fun i hi => ?_, y9⟩
  · by_cases z : i = k
    · subst z
      rw [jv_up_at]
      show _ = some (tm (va_up s.2.2 i v i))
      rw [show va_up s.2.2 i v i = v from if_pos rfl]
    · rw [jv_up_ne (fun w => z (y5 i k hi hk w)), y4 i hi]
      show _ = some (tm (va_up s.2.2 k v i))
      rw [show va_up s.2.2 k v i = s.2.2 i from if_neg z]
  · by_cases z : i = k
    · subst z
      show (va_up s.2.2 i v i).2.2.2.2.1 ≤ 12
      rw [show va_up s.2.2 i v i = v from if_pos rfl]; exact hv
    · show (va_up s.2.2 k v i).2.2.2.2.1 ≤ 12
      rw [show va_up s.2.2 k v i = s.2.2 i from if_neg z]; exact y8 i hi
/-- what the taking methods answer and leave -/
def qy_post (h : jH) (a ta : Nat) (tt : Nat → Nat) (fk : Nat) (fp : Int32) (q : Nat × qsT) : Option Value → jH → Prop := fun r h1 =>
  r = some (.int (nI q.1)) ∧ q.1 ≤ 3 ∧ (∃ cur1, qy h1 a ta tt cur1 fk fp q.2 ∧ (q.1 = 0 → q.2.2.1 ≠ 0 → qy_cur tt cur1 q.2)) ∧ fr (qy_S a tt) h h1
section QY
variable {l : jL} {h : jH} {a ta : Nat} {tt : Nat → Nat} {cur fk : Nat} {fp : Int32} {s : qsT} {b : Nat}
set_option maxHeartbeats 400000 in
theorem c_Query_takeBlank (Y : qy h a ta tt cur fk fp s) (hb : b < 256) : Cn l yX6_takeBlank cX6_takeBlank 2 (some .int) 1 0 0 [.ref a, .int (nI b)] h (qy_post h a ta tt fk fp (qs_blank s b)) := by
  have Y0 := Y
  obtain ⟨y1, -⟩ := Y
  refine Cn.of (own := RX6) rfl (by decide) (by exact Nat.le_of_ble_eq_true rfl) (by decide) (fun K hK C D I => ?_)
  refine J_iload_n C rfl dX6_takeBlank_0 ?_
  refine J_bipush C (v := nI 32) (by decide) dX6_takeBlank_1 ?_
  refine J_nicmp_le C (by first | omega | (dsimp only; omega)) (by first | omega | (dsimp only; omega)) 8 (by decide) dX6_takeBlank_3 (fun z1 => ?_) (fun z1 => ?_)
  · first | refine J_aload_n C rfl dX6_takeBlank_8 ?_ | refine J_aload_nq C rfl dX6_takeBlank_8 ?_ | refine J_aload_nN C rfl dX6_takeBlank_8 ?_
    refine J_iconst C (v := nI 0) (by decide) dX6_takeBlank_9 ?_
    refine J_put C fl_X6_32 (by first | assumption | exact jv_up_at _ _ _ | (simp [jv_up, *]; done)) (by exact Nat.le_of_ble_eq_true rfl) (by rfl) (by rfl) dX6_takeBlank_10 ?_
    refine J_iconst C (v := nI 0) (by decide) dX6_takeBlank_13 ?_
    refine J_iret C D (by rw [show qs_blank s b = (0, (s.1, 0, s.2.2)) from if_neg (by omega)]; exact ⟨rfl, Nat.le_of_ble_eq_true rfl, ⟨cur, qy_a Y0 Y0.2.2.2.2.1 (by decide) Y0.2.2.2.2.2.2.2, fun _ z => absurd rfl z⟩, fr_up (Or.inl rfl)⟩) (by omega) (by omega) dX6_takeBlank_14
  · refine J_iconst C (v := nI 1) (by decide) dX6_takeBlank_6 ?_
    refine J_iret C D (by rw [show qs_blank s b = (1, s) from if_pos z1]; exact ⟨rfl, Nat.le_of_ble_eq_true rfl, ⟨cur, Y0, fun z => by cases z⟩, fr_rf _ _⟩) (by omega) (by omega) dX6_takeBlank_7
set_option maxHeartbeats 400000 in
theorem c_Query_takeLetter (Y : qy h a ta tt cur fk fp s) (U : qy_cur tt cur s) (hb : b < 256) : Cn l yX6_takeLetter cX6_takeLetter 2 (some .int) 3 0 0 [.ref a, .int (nI b)] h (qy_post h a ta tt fk fp (qs_let s b)) := by
  have Y0 := Y
  obtain ⟨y1, y2, y4, y5, y6, y7, y8, y9⟩ := Y
  obtain ⟨u1, u2⟩ := U
  have t1 : h cur = some (tm (s.2.2 (s.1 - 1))) := by rw [u2]; exact y4 _ (by omega)
  refine Cn.of (own := RX6) rfl (by decide) (by exact Nat.le_of_ble_eq_true rfl) (by decide) (fun K hK C D I => ?_)
  refine J_iload_n C rfl dX6_takeLetter_0 ?_
  refine J_callS C (c_isLetter _ _ b (by omega)) cw_X6_70 rfl rfl (by exact Nat.le_of_ble_eq_true rfl) (by decide) (by omega) (by omega) dX6_takeLetter_1 ?_
  rintro _ _ ⟨rfl, rfl⟩
  refine J_bif_ne C 9 (by decide) dX6_takeLetter_4 (fun z1 => ?_) (fun z1 => ?_)
  · first | refine J_aload_n C rfl dX6_takeLetter_9 ?_ | refine J_aload_nq C rfl dX6_takeLetter_9 ?_ | refine J_aload_nN C rfl dX6_takeLetter_9 ?_
    refine J_get C fl_X6_18 (by first | assumption | exact jv_up_at _ _ _ | (simp [jv_up, *]; done)) (by rfl) dX6_takeLetter_10 ?_
    refine J_iload_n C rfl dX6_takeLetter_13 ?_
    refine J_callS C (c_letterOf _ _ b (by omega)) cw_X6_90 rfl rfl (by exact Nat.le_of_ble_eq_true rfl) (by decide) (by omega) (by omega) dX6_takeLetter_14 ?_
    rintro _ _ ⟨rfl, rfl⟩
    refine J_callV C (c_Term_append _ _ cur _ _ _ _ (s.2.2 (s.1 - 1)).2.2.2.2.1 _ (y8 _ (by omega)) t1 (sp_let b) (by have := sp_let_lt b; omega)) cw_X6_93 (by first | assumption | exact jv_up_at _ _ _ | (simp [jv_up, *]; done)) rfl rfl rfl rfl (by exact Nat.le_of_ble_eq_true rfl) (by decide) (by omega) (by omega) dX6_takeLetter_17 ?_
    rintro _ _ (⟨w1, rfl, rfl⟩ | ⟨w1, rfl, rfl⟩)
    · refine J_bif_ne C 25 (by decide) dX6_takeLetter_20 (fun z2 => ?_) (fun z2 => ?_)
      · cases z2
      · refine J_iconst C (v := nI 2) (by decide) dX6_takeLetter_23 ?_
        refine J_iret C D (by rw [show qs_let s b = (2, s) by unfold qs_let; rw [z1, if_pos rfl, if_pos w1]]; exact ⟨rfl, Nat.le_of_ble_eq_true rfl, ⟨cur, Y0, fun z => by cases z⟩, fr_rf _ _⟩) (by omega) (by omega) dX6_takeLetter_24
    · refine J_bif_ne C 25 (by decide) dX6_takeLetter_20 (fun z2 => ?_) (fun z2 => ?_)
      · have Y1 := qy_t Y0 (k := s.1 - 1) (by omega) (v := tm_app (s.2.2 (s.1 - 1)) b) (by show _ + 1 ≤ 12; omega)
        rw [← u2] at Y1
        have Y2 := Y1
        obtain ⟨v1, -⟩ := Y2
        first | refine J_aload_n C rfl dX6_takeLetter_25 ?_ | refine J_aload_nq C rfl dX6_takeLetter_25 ?_ | refine J_aload_nN C rfl dX6_takeLetter_25 ?_
        refine J_iconst C (v := nI 2) (by decide) dX6_takeLetter_26 ?_
        refine J_put C fl_X6_32 (by exact v1) (by exact Nat.le_of_ble_eq_true rfl) (by rfl) (by rfl) dX6_takeLetter_27 ?_
        refine J_iconst C (v := nI 0) (by decide) dX6_takeLetter_30 ?_
        refine J_iret C D (by rw [show qs_let s b = (0, (s.1, 2, va_up s.2.2 (s.1 - 1) (tm_app (s.2.2 (s.1 - 1)) b))) by unfold qs_let; rw [z1, if_pos rfl, if_neg (by omega)]]; exact ⟨rfl, Nat.le_of_ble_eq_true rfl, ⟨cur, qy_a Y1 y6 (by decide) y9, fun _ _ => ⟨u1, u2⟩⟩, fr_tr (fr_up (Or.inr ⟨s.1 - 1, by omega, u2⟩)) (fr_up (Or.inl rfl))⟩) (by omega) (by omega) dX6_takeLetter_31
      · cases z2
  · refine J_iconst C (v := nI 1) (by decide) dX6_takeLetter_7 ?_
    refine J_iret C D (by rw [show qs_let s b = (1, s) by unfold qs_let; rw [z1]; rfl]; exact ⟨rfl, Nat.le_of_ble_eq_true rfl, ⟨cur, Y0, fun z => by cases z⟩, fr_rf _ _⟩) (by omega) (by omega) dX6_takeLetter_8
set_option maxHeartbeats 400000 in
theorem c_Query_takeBehindStar (Y : qy h a ta tt cur fk fp s) (U : qy_cur tt cur s) (hb : b < 256) : Cn l yX6_takeBehindStar cX6_takeBehindStar 2 (some .int) 2 0 0 [.ref a, .int (nI b)] h (qy_post h a ta tt fk fp (qs_star s b)) := by
  have Y0 := Y
  obtain ⟨y1, y2, y4, y5, y6, y7, y8, y9⟩ := Y
  refine Cn.of (own := RX6) rfl (by decide) (by exact Nat.le_of_ble_eq_true rfl) (by decide) (fun K hK C D I => ?_)
  refine J_iload_n C rfl dX6_takeBehindStar_0 ?_
  refine J_bipush C (v := nI 94) (by decide) dX6_takeBehindStar_1 ?_
  refine J_nicmp_ne C (by first | omega | (dsimp only; omega)) (by first | omega | (dsimp only; omega)) 13 (by decide) dX6_takeBehindStar_3 (fun z1 => ?_) (fun z1 => ?_)
  · first | refine J_aload_n C rfl dX6_takeBehindStar_13 ?_ | refine J_aload_nq C rfl dX6_takeBehindStar_13 ?_ | refine J_aload_nN C rfl dX6_takeBehindStar_13 ?_
    refine J_iload_n C rfl dX6_takeBehindStar_14 ?_
    refine J_callV C (c_Query_takeBlank Y0 hb) cw_X6_67 (by first | assumption | exact jv_up_at _ _ _ | (simp [jv_up, *]; done)) rfl rfl rfl rfl (by exact Nat.le_of_ble_eq_true rfl) (by decide) (by omega) (by omega) dX6_takeBehindStar_15 ?_
    intro r h1 hp
    obtain ⟨rfl, hp2⟩ := hp
    refine J_iret C D (by rw [show qs_star s b = qs_blank s b from if_neg z1]; exact ⟨rfl, hp2⟩) (by omega) (by omega) dX6_takeBehindStar_18
  · first | refine J_aload_n C rfl dX6_takeBehindStar_6 ?_ | refine J_aload_nq C rfl dX6_takeBehindStar_6 ?_ | refine J_aload_nN C rfl dX6_takeBehindStar_6 ?_
    refine J_iconst C (v := nI 4) (by decide) dX6_takeBehindStar_7 ?_
    refine J_put C fl_X6_32 (by first | assumption | exact jv_up_at _ _ _ | (simp [jv_up, *]; done)) (by exact Nat.le_of_ble_eq_true rfl) (by rfl) (by rfl) dX6_takeBehindStar_8 ?_
    refine J_iconst C (v := nI 0) (by decide) dX6_takeBehindStar_11 ?_
    refine J_iret C D (by rw [show qs_star s b = (0, (s.1, 4, s.2.2)) from if_pos z1]; exact ⟨rfl, Nat.le_of_ble_eq_true rfl, ⟨cur, qy_a Y0 y6 (by decide) y9, fun _ _ => U⟩, fr_up (Or.inl rfl)⟩) (by omega) (by omega) dX6_takeBehindStar_12
set_option maxHeartbeats 400000 in
theorem c_Query_takeBehindLetter (Y : qy h a ta tt cur fk fp s) (U : qy_cur tt cur s) (hb : b < 256) : Cn l yX6_takeBehindLetter cX6_takeBehindLetter 2 (some .int) 4 0 0 [.ref a, .int (nI b)] h (qy_post h a ta tt fk fp (qs_behind s b)) := by
  have Y0 := Y
  obtain ⟨y1, y2, y4, y5, y6, y7, y8, y9⟩ := Y
  have U0 := U
  obtain ⟨u1, u2⟩ := U
  have t1 : h cur = some (tm (s.2.2 (s.1 - 1))) := by rw [u2]; exact y4 _ (by omega)
  refine Cn.of (own := RX6) rfl (by decide) (by exact Nat.le_of_ble_eq_true rfl) (by decide) (fun K hK C D I => ?_)
  refine J_iload_n C rfl dX6_takeBehindLetter_0 ?_
  refine J_callS C (c_isLetter _ _ b (by omega)) cw_X6_70 rfl rfl (by exact Nat.le_of_ble_eq_true rfl) (by decide) (by omega) (by omega) dX6_takeBehindLetter_1 ?_
  rintro _ _ ⟨rfl, rfl⟩
  refine J_bif_eq C 13 (by decide) dX6_takeBehindLetter_4 (fun z1 => ?_) (fun z1 => ?_)
  · refine J_iload_n C rfl dX6_takeBehindLetter_13 ?_
    refine J_bipush C (v := nI 42) (by decide) dX6_takeBehindLetter_14 ?_
    refine J_nicmp_ne C (by first | omega | (dsimp only; omega)) (by first | omega | (dsimp only; omega)) 34 (by decide) dX6_takeBehindLetter_16 (fun z2 => ?_) (fun z2 => ?_)
    · first | refine J_aload_n C rfl dX6_takeBehindLetter_34 ?_ | refine J_aload_nq C rfl dX6_takeBehindLetter_34 ?_ | refine J_aload_nN C rfl dX6_takeBehindLetter_34 ?_
      refine J_iload_n C rfl dX6_takeBehindLetter_35 ?_
      refine J_callV C (c_Query_takeBehindStar Y0 U0 hb) cw_X6_61 (by first | assumption | exact jv_up_at _ _ _ | (simp [jv_up, *]; done)) rfl rfl rfl rfl (by exact Nat.le_of_ble_eq_true rfl) (by decide) (by omega) (by omega) dX6_takeBehindLetter_36 ?_
      intro r h1 hp
      obtain ⟨rfl, hp2⟩ := hp
      refine J_iret C D (by rw [show qs_behind s b = qs_star s b by unfold qs_behind; rw [z1, if_neg (by decide), if_neg z2]]; exact ⟨rfl, hp2⟩) (by omega) (by omega) dX6_takeBehindLetter_39
    · have Y1 := qy_t Y0 (k := s.1 - 1) (by omega) (v := tm_open (s.2.2 (s.1 - 1))) (by exact y8 _ (by omega))
      rw [← u2] at Y1
      have Y2 := Y1
      obtain ⟨v1, -⟩ := Y2
      first | refine J_aload_n C rfl dX6_takeBehindLetter_19 ?_ | refine J_aload_nq C rfl dX6_takeBehindLetter_19 ?_ | refine J_aload_nN C rfl dX6_takeBehindLetter_19 ?_
      refine J_get C fl_X6_18 (by first | assumption | exact jv_up_at _ _ _ | (simp [jv_up, *]; done)) (by rfl) dX6_takeBehindLetter_20 ?_
      refine J_iconst C (v := nI 1) (by decide) dX6_takeBehindLetter_23 ?_
      refine J_put C fl_X6_96 (by first | assumption | exact jv_up_at _ _ _ | (simp [jv_up, *]; done)) (by exact Nat.le_of_ble_eq_true rfl) (by rfl) (by rfl) dX6_takeBehindLetter_24 ?_
      refine J_eq rfl (show jv_up _ cur (tm (tm_open (s.2.2 (s.1 - 1)))) = _ from rfl) ?_
      first | refine J_aload_n C rfl dX6_takeBehindLetter_27 ?_ | refine J_aload_nq C rfl dX6_takeBehindLetter_27 ?_ | refine J_aload_nN C rfl dX6_takeBehindLetter_27 ?_
      refine J_iconst C (v := nI 3) (by decide) dX6_takeBehindLetter_28 ?_
      refine J_put C fl_X6_32 (by exact v1) (by exact Nat.le_of_ble_eq_true rfl) (by rfl) (by rfl) dX6_takeBehindLetter_29 ?_
      refine J_iconst C (v := nI 0) (by decide) dX6_takeBehindLetter_32 ?_
      refine J_iret C D (by rw [show qs_behind s b = (0, (s.1, 3, va_up s.2.2 (s.1 - 1) (tm_open (s.2.2 (s.1 - 1))))) by unfold qs_behind; rw [z1, if_neg (by decide), if_pos z2]]; exact ⟨rfl, Nat.le_of_ble_eq_true rfl, ⟨cur, qy_a Y1 y6 (by decide) y9, fun _ _ => ⟨u1, u2⟩⟩, fr_tr (fr_up (Or.inr ⟨s.1 - 1, by omega, u2⟩)) (fr_up (Or.inl rfl))⟩) (by omega) (by omega) dX6_takeBehindLetter_33
  · first | refine J_aload_n C rfl dX6_takeBehindLetter_7 ?_ | refine J_aload_nq C rfl dX6_takeBehindLetter_7 ?_ | refine J_aload_nN C rfl dX6_takeBehindLetter_7 ?_
    refine J_iload_n C rfl dX6_takeBehindLetter_8 ?_
    refine J_callV C (c_Query_takeLetter Y0 U0 hb) cw_X6_55 (by first | assumption | exact jv_up_at _ _ _ | (simp [jv_up, *]; done)) rfl rfl rfl rfl (by exact Nat.le_of_ble_eq_true rfl) (by decide) (by omega) (by omega) dX6_takeBehindLetter_9 ?_
    intro r h1 hp
    obtain ⟨rfl, hp2⟩ := hp
    refine J_iret C D (by rw [show qs_behind s b = qs_let s b by unfold qs_behind; rw [z1, if_pos rfl]]; exact ⟨rfl, hp2⟩) (by omega) (by omega) dX6_takeBehindLetter_12
set_option maxHeartbeats 400000 in
theorem c_Query_takeFigure (Y : qy h a ta tt cur fk fp s) (U : qy_cur tt cur s) (hb : b < 256) : Cn l yX6_takeFigure cX6_takeFigure 2 (some .int) 2 0 0 [.ref a, .int (nI b)] h (qy_post h a ta tt fk fp (qs_fig s b)) := by
  have Y0 := Y
  obtain ⟨y1, y2, y4, y5, y6, y7, y8, y9⟩ := Y
  have U0 := U
  obtain ⟨u1, u2⟩ := U
  have t1 : h cur = some (tm (s.2.2 (s.1 - 1))) := by rw [u2]; exact y4 _ (by omega)
  refine Cn.of (own := RX6) rfl (by decide) (by exact Nat.le_of_ble_eq_true rfl) (by decide) (fun K hK C D I => ?_)
  refine J_iload_n C rfl dX6_takeFigure_0 ?_
  refine J_bipush C (v := nI 49) (by decide) dX6_takeFigure_1 ?_
  refine J_nicmp_lt C (by first | omega | (dsimp only; omega)) (by first | omega | (dsimp only; omega)) 12 (by decide) dX6_takeFigure_3 (fun z1 => ?_) (fun z1 => ?_)
  · refine J_iconst C (v := nI 1) (by decide) dX6_takeFigure_12 ?_
    refine J_iret C D (by rw [show qs_fig s b = (1, s) from if_pos (Or.inl z1)]; exact ⟨rfl, Nat.le_of_ble_eq_true rfl, ⟨cur, Y0, fun z => by cases z⟩, fr_rf _ _⟩) (by omega) (by omega) dX6_takeFigure_13
  · refine J_iload_n C rfl dX6_takeFigure_6 ?_
    refine J_bipush C (v := nI 57) (by decide) dX6_takeFigure_7 ?_
    refine J_nicmp_le C (by first | omega | (dsimp only; omega)) (by first | omega | (dsimp only; omega)) 14 (by decide) dX6_takeFigure_9 (fun z2 => ?_) (fun z2 => ?_)
    · have Y1 := qy_t Y0 (k := s.1 - 1) (by omega) (v := tm_wt (s.2.2 (s.1 - 1)) (b - 48)) (by exact y8 _ (by omega))
      rw [← u2] at Y1
      have Y2 := Y1
      obtain ⟨v1, -⟩ := Y2
      first | refine J_aload_n C rfl dX6_takeFigure_14 ?_ | refine J_aload_nq C rfl dX6_takeFigure_14 ?_ | refine J_aload_nN C rfl dX6_takeFigure_14 ?_
      refine J_get C fl_X6_18 (by first | assumption | exact jv_up_at _ _ _ | (simp [jv_up, *]; done)) (by rfl) dX6_takeFigure_15 ?_
      refine J_iload_n C rfl dX6_takeFigure_18 ?_
      refine J_bipush C (v := nI 48) (by decide) dX6_takeFigure_19 ?_
      first | refine J_nisub C (by omega) dX6_takeFigure_21 ?_ | refine J_isub C dX6_takeFigure_21 ?_
      refine J_put C fl_X6_99 (by first | assumption | exact jv_up_at _ _ _ | (simp [jv_up, *]; done)) (by exact Nat.le_of_ble_eq_true rfl) (by rfl) (by rfl) dX6_takeFigure_22 ?_
      refine J_eq rfl (show jv_up _ cur (tm (tm_wt (s.2.2 (s.1 - 1)) (b - 48))) = _ from rfl) ?_
      first | refine J_aload_n C rfl dX6_takeFigure_25 ?_ | refine J_aload_nq C rfl dX6_takeFigure_25 ?_ | refine J_aload_nN C rfl dX6_takeFigure_25 ?_
      refine J_iconst C (v := nI 5) (by decide) dX6_takeFigure_26 ?_
      refine J_put C fl_X6_32 (by exact v1) (by exact Nat.le_of_ble_eq_true rfl) (by rfl) (by rfl) dX6_takeFigure_27 ?_
      refine J_iconst C (v := nI 0) (by decide) dX6_takeFigure_30 ?_
      refine J_iret C D (by rw [show qs_fig s b = (0, (s.1, 5, va_up s.2.2 (s.1 - 1) (tm_wt (s.2.2 (s.1 - 1)) (b - 48)))) from if_neg (by omega)]; exact ⟨rfl, Nat.le_of_ble_eq_true rfl, ⟨cur, qy_a Y1 y6 (by decide) y9, fun _ _ => ⟨u1, u2⟩⟩, fr_tr (fr_up (Or.inr ⟨s.1 - 1, by omega, u2⟩)) (fr_up (Or.inl rfl))⟩) (by omega) (by omega) dX6_takeFigure_31
    · refine J_iconst C (v := nI 1) (by decide) dX6_takeFigure_12 ?_
      refine J_iret C D (by rw [show qs_fig s b = (1, s) from if_pos (Or.inr z2)]; exact ⟨rfl, Nat.le_of_ble_eq_true rfl, ⟨cur, Y0, fun z => by cases z⟩, fr_rf _ _⟩) (by omega) (by omega) dX6_takeFigure_13
end QY
