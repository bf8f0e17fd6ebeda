section STRIKE
variable {l : jL} {h : jH} {x a d cap : Nat} {W SW : List Nat} {lt : Nat → Int64}
theorem lb_at (x4 : ∀ (i j u v : Nat), i < j → W[i]? = some u → W[j]? = some v → lt u < lt v) {p q w : Nat} (hq : W[q]? = some w) (P : lbP W lt (lt w) p) : p = q := by
  obtain ⟨p1, p2, p3⟩ := P
  rcases Nat.lt_trichotomy p q with e | e | e
  · have hp := List.getElem?_eq_getElem (l := W) (i := p) (by have := (List.getElem?_eq_some_iff.mp hq).1; omega)
    exact absurd (x4 p q _ w e hp hq) (p3 p _ (Nat.le_refl _) hp)
  · exact e
  · exact absurd (p2 q w e hq) Int64.lt_irrefl
set_option maxHeartbeats 800000 in
theorem c_Lex_strike (X : lx l h x a d cap W SW lt) (p w : Nat) (hp : W[p]? = some w) (hold tot : Nat) (fst sp : Option Nat) (hw : h w = some (wdO (lt w) hold tot fst sp)) : Cn l yX3_strike cX3_strike 3 none 6 0 0 [.ref x, .ref w] h (fun r h1 => r = none ∧ lx l h1 x a d cap (W.eraseIdx p) (w :: SW) lt ∧ h1 w = some (wdO (lt w) hold tot fst SW[0]?) ∧ fr (fun y => y = x ∨ y = a ∨ y = d ∨ y = w) h h1) := by
  have X0 := X
  obtain ⟨x1, x2, x3, x4, x5, x6, x7⟩ := X
  have hlen := al_len x2
  obtain ⟨mcn, a1, a2, a3⟩ := id x2
  have hwW := List.mem_of_getElem? hp
  obtain ⟨c1, c2, c3, hpl, f, f1, f2⟩ := al_some x2 hp
  refine Cn.of (own := RX3) rfl (by decide) (by exact Nat.le_of_ble_eq_true rfl) (by decide) (fun K hK C D I => ?_)
  have X1 := X0
  have x2K := x2
  rw [← hK] at X1 x2K
  first | refine J_aload_n C rfl dX3_strike_0 ?_ | refine J_aload_nq C rfl dX3_strike_0 ?_ | refine J_aload_nN C rfl dX3_strike_0 ?_
  first | refine J_aload_n C rfl dX3_strike_1 ?_ | refine J_aload_nq C rfl dX3_strike_1 ?_ | refine J_aload_nN C rfl dX3_strike_1 ?_
  refine J_get C fl_X3_32 (by first | assumption | exact jv_up_at _ _ _ | (simp [jv_up, *]; done)) (by rfl) dX3_strike_2 ?_
  refine J_callV C (c_Lex_placeOf X1 (lt w)) cw_X3_36 (by first | assumption | exact jv_up_at _ _ _ | (simp [jv_up, *]; done)) rfl rfl rfl rfl (by exact Nat.le_of_ble_eq_true rfl) (by decide) (by omega) (by omega) dX3_strike_5 ?_
  rintro _ h9 ⟨q, rfl, P, e9⟩
  replace e9 := e9.symm
  subst e9
  have hqp := lb_at x4 hp P
  subst hqp
  refine J_istore_n C (by decide) dX3_strike_8 ?_
  first | refine J_aload_n C rfl dX3_strike_9 ?_ | refine J_aload_nq C rfl dX3_strike_9 ?_ | refine J_aload_nN C rfl dX3_strike_9 ?_
  refine J_iload_n C rfl dX3_strike_10 ?_
  refine J_callV C (c_Lex_wordAt X1 (nI q)) cw_X3_28 (by first | assumption | exact jv_up_at _ _ _ | (simp [jv_up, *]; done)) rfl rfl rfl rfl (by exact Nat.le_of_ble_eq_true rfl) (by decide) (by omega) (by omega) dX3_strike_11 ?_
  rintro _ h9 ⟨rfl, e9⟩
  replace e9 := e9.symm
  subst e9
  rw [wat_nI W (by omega), hp]
  first | refine J_aload_n C rfl dX3_strike_14 ?_ | refine J_aload_nq C rfl dX3_strike_14 ?_ | refine J_aload_nN C rfl dX3_strike_14 ?_
  refine J_acmp_ne (rx := some w) (ry := some w) C 40 (by decide) dX3_strike_15 (fun z => absurd rfl z) (fun _ => ?_)
  first | refine J_aload_n C rfl dX3_strike_18 ?_ | refine J_aload_nq C rfl dX3_strike_18 ?_ | refine J_aload_nN C rfl dX3_strike_18 ?_
  refine J_get C fl_X3_12 (by first | assumption | exact jv_up_at _ _ _ | (simp [jv_up, *]; done)) (by rfl) dX3_strike_19 ?_
  refine J_iload_n C rfl dX3_strike_22 ?_
  refine J_callV C (c_AL_rem okci_9 (by decide) x2K q w hp) cw_X3_52 (by first | assumption | exact jv_up_at _ _ _ | (simp [jv_up, *]; done)) rfl rfl rfl rfl (by exact Nat.le_of_ble_eq_true rfl) (by decide) (by omega) (by omega) dX3_strike_23 ?_
  rintro _ h1 ⟨rfl, A1, F1⟩
  rw [hK] at A1
  have nxa : x ≠ a := jv_neO x1 a1 (by decide)
  have nxd : x ≠ d := jv_neA x1 f1
  have nwa : w ≠ a := jv_neO hw a1 (by decide)
  have nwd : w ≠ d := jv_neA hw f1
  have nxw : x ≠ w := jv_neO x1 hw (by decide)
  have h1x : h1 x = some (lxO a SW[0]?) := (F1 x (fun z => z.elim nxa nxd)).trans x1
  have h1w : h1 w = some (wdO (lt w) hold tot fst sp) := (F1 w (fun z => z.elim nwa nwd)).trans hw
  refine J_pop C rfl dX3_strike_26 ?_
  first | refine J_aload_n C rfl dX3_strike_27 ?_ | refine J_aload_nq C rfl dX3_strike_27 ?_ | refine J_aload_nN C rfl dX3_strike_27 ?_
  first | refine J_aload_n C rfl dX3_strike_28 ?_ | refine J_aload_nq C rfl dX3_strike_28 ?_ | refine J_aload_nN C rfl dX3_strike_28 ?_
  refine J_get C fl_X3_55 (by first | assumption | exact jv_up_at _ _ _ | (simp [jv_up, *]; done)) (by rfl) dX3_strike_29 ?_
  refine J_put C fl_X3_59 (by first | assumption | exact jv_up_at _ _ _ | (simp [jv_up, *]; done)) (by exact Nat.le_of_ble_eq_true rfl) (by first | rfl | exact jv_nar_o _ _) (by first | rfl | exact jv_fit_o _ _) dX3_strike_32 ?_
  have h1x2 := jv_up_of (x := wdO (lt w) hold tot fst SW[0]?) nxw h1x
  first | refine J_aload_n C rfl dX3_strike_35 ?_ | refine J_aload_nq C rfl dX3_strike_35 ?_ | refine J_aload_nN C rfl dX3_strike_35 ?_
  first | refine J_aload_n C rfl dX3_strike_36 ?_ | refine J_aload_nq C rfl dX3_strike_36 ?_ | refine J_aload_nN C rfl dX3_strike_36 ?_
  refine J_put C fl_X3_55 (by exact h1x2) (by exact Nat.le_of_ble_eq_true rfl) (by first | rfl | exact jv_nar_o _ _) (by first | rfl | exact jv_fit_o _ _) dX3_strike_37 ?_
  have F2 : fr (fun y => y = x ∨ y = w) h1 (jv_up (jv_up h1 w (wdO (lt w) hold tot fst SW[0]?)) x (lxO a (some w))) := fr_tr (fr_up (Or.inr rfl)) (fr_up (Or.inl rfl))
  have wd : ∀ u, u ≠ w → ∀ fs, h u = some (.inr (9, fs)) → jv_up (jv_up h1 w (wdO (lt w) hold tot fst SW[0]?)) x (lxO a (some w)) u = some (.inr (9, fs)) := by
    intro u hu fs hfs
    refine (F2 u (fun z => z.elim (fun z => jv_neO x1 hfs (by decide) z.symm) hu)).trans ((F1 u (fun z => z.elim (jv_neO hfs a1 (by decide)) (jv_neA hfs f1))).trans hfs)
  have hmem : ∀ u, u ∈ W.eraseIdx q → u ∈ W ∧ u ≠ w := by
    intro u hu
    refine ⟨List.mem_of_mem_eraseIdx hu, fun z => ?_⟩
    subst z
    obtain ⟨i, hi⟩ := List.getElem?_of_mem hu
    rw [List.getElem?_eraseIdx] at hi
    by_cases c : i < q
    · rw [if_pos c] at hi; exact absurd (x4 i q u u c hi hp) Int64.lt_irrefl
    · rw [if_neg c] at hi; exact absurd (x4 q (i + 1) u u (by omega) hp hi) Int64.lt_irrefl
  refine J_vret C D ⟨rfl, ⟨jv_up_at _ _ _, ?_, ?_, ?_, ?_, ?_, ?_⟩, ?_, ?_⟩ (by omega) (by omega) dX3_strike_40
  · obtain ⟨mcn1, b1, b2, b3⟩ := id A1
    refine al_fr A1 F2 (fun z => z.elim nxa.symm nwa.symm) (fun _ z => z.elim nxd.symm nwd.symm) (fun y hy z => ?_)
    obtain ⟨hy1, hy2⟩ := hmem y hy
    obtain ⟨_, _, _, _, b5⟩ := x3 y hy1
    exact z.elim (fun z => jv_neO x1 b5 (by decide) z.symm) hy2
  · intro u hu
    obtain ⟨hy1, hy2⟩ := hmem u hu
    obtain ⟨b1, b2, b3, b4, b5⟩ := x3 u hy1
    exact ⟨b1, b2, b3, b4, wd u hy2 _ b5⟩
  · intro i j u v hij hu hv
    rw [List.getElem?_eraseIdx] at hu hv
    by_cases c1 : i < q
    · rw [if_pos c1] at hu
      by_cases c2 : j < q
      · rw [if_pos c2] at hv; exact x4 i j u v hij hu hv
      · rw [if_neg c2] at hv; exact x4 i (j + 1) u v (by omega) hu hv
    · rw [if_neg c1] at hu
      rw [if_neg (by omega)] at hv
      exact x4 (i + 1) (j + 1) u v (by omega) hu hv
  · intro i u hu
    cases i with
    | zero =>
      cases hu
      refine ⟨lt w, hold, tot, fst, ?_⟩
      show _ = some (wdO (lt w) hold tot fst (w :: SW)[0 + 1]?)
      rw [List.getElem?_cons_succ, jv_up_ne nxw.symm, jv_up_at]
      rfl
    | succ i =>
      rw [List.getElem?_cons_succ] at hu
      obtain ⟨b1, b2, b3, b4, b5⟩ := x5 i u hu
      refine ⟨b1, b2, b3, b4, ?_⟩
      rw [List.getElem?_cons_succ]
      exact wd u (fun z => x7 u (List.mem_of_getElem? hu) (z ▸ hwW)) _ b5
  · exact List.nodup_cons.mpr ⟨fun z => x7 w z hwW, x6⟩
  · intro u hu hm
    obtain ⟨hy1, hy2⟩ := hmem u hm
    rcases List.mem_cons.mp hu with z | z
    · exact hy2 z
    · exact x7 u z hy1
  · rw [jv_up_ne nxw.symm, jv_up_at]; rfl
  · exact fr_tr (fr_mono F1 (fun y z => z.elim (fun z => Or.inr (Or.inl z)) (fun z => Or.inr (Or.inr (Or.inl z))))) (fr_mono F2 (fun y z => z.elim Or.inl (fun z => Or.inr (Or.inr (Or.inr z)))))
end STRIKE
