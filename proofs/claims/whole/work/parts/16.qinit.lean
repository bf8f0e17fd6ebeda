abbrev tmZ : tmT := (false, false, false, lN 0, 0, 0)
/-- new cells and one of its own -/
def fn (a : Nat) (h : jH) : Nat → Prop := fun x => x = a ∨ h x = none
set_option maxHeartbeats 400000 in
theorem c_Query_init (l : jL) (h : jH) (a : Nat) (hh : h a = some (.inr (5, [.null, .int 0, .null, .int 0, .int 0, .int 0]))) : Cn l yX6_init cX6_init 2 none 2 18 118 [.ref a] h (fun r h1 => r = none ∧ (∃ ta tt cur, qy h1 a ta tt cur 0 (-1) (0, 0, fun _ => tmZ) ∧ h ta = none ∧ ∀ i, i < 16 → h (tt i) = none) ∧ fr (fn a h) h h1) := by
  refine Cn.of (own := RX6) rfl (by decide) (by exact Nat.le_of_ble_eq_true rfl) (by decide) (fun K hK C D I => ?_)
  first | refine J_aload_n C rfl dX6_init_0 ?_ | refine J_aload_nq C rfl dX6_init_0 ?_ | refine J_aload_nN C rfl dX6_init_0 ?_
  refine J_objInit C ml_X6_3 oi_inst oi_code (by decide) (by exact Nat.le_of_ble_eq_true rfl) dX6_init_1 ?_
  first | refine J_aload_n C rfl dX6_init_4 ?_ | refine J_aload_nq C rfl dX6_init_4 ?_ | refine J_aload_nN C rfl dX6_init_4 ?_
  refine J_bipush C (v := nI 16) (by decide) dX6_init_5 ?_
  refine J_newq C 5 (CC := "RankedSearch$Term") (fun _ => rfl) wc_X6_9 ao_Term (N := 16) rfl (by decide) (by omega) (by omega) dX6_init_7 (fun ta hta => ?_)
  have nta : a ≠ ta := fun z => by rw [z, hta] at hh; cases hh
  have hh1 := jv_up_of (x := .inl (5, 16, .inr (.inr (.inr (.inr (fun _ => none)))))) nta hh
  refine J_putF C I fl_X6_11 rfl rfl (by first | assumption | exact jv_up_at _ _ _ | (simp [jv_up, *]; done)) (by exact Nat.le_of_ble_eq_true rfl) (by first | rfl | exact jv_nar_a _ _) (by first | rfl | exact jv_fit_a _ _) fw_X6_11 dX6_init_10 ?_
  first | refine J_aload_n C rfl dX6_init_13 ?_ | refine J_aload_nq C rfl dX6_init_13 ?_ | refine J_aload_nN C rfl dX6_init_13 ?_
  refine J_new C nw_X6_9 (by omega) (by omega) dX6_init_14 (fun cur hcur => ?_)
  have ncur : cur ≠ a := fun z => by rw [z, jv_up_at] at hcur; cases hcur
  have ncur2 : cur ≠ ta := fun z => by rw [z, jv_up_ne nta.symm, jv_up_at] at hcur; cases hcur
  have hcur0 : h cur = none := by rw [jv_up_ne ncur, jv_up_ne ncur2] at hcur; exact hcur
  refine J_dup C rfl dX6_init_17 ?_
  refine J_callI C (c_Term_init _ _ cur) cw_X6_17 rfl rfl (by exact Nat.le_of_ble_eq_true rfl) (by decide) (by omega) (by omega) dX6_init_18 ?_
  rintro _ _ ⟨rfl, rfl⟩
  refine J_put C fl_X6_18 (by first | exact jv_up_at _ _ _ | (rw [jv_up_ne ncur.symm]; exact jv_up_at _ _ _)) (by exact Nat.le_of_ble_eq_true rfl) (by first | rfl | exact jv_nar_o _ _) (by first | rfl | exact jv_fit_o _ _) dX6_init_21 ?_
  first | refine J_aload_n C rfl dX6_init_24 ?_ | refine J_aload_nq C rfl dX6_init_24 ?_ | refine J_aload_nN C rfl dX6_init_24 ?_
  refine J_iconst C (v := nI 0) (by decide) dX6_init_25 ?_
  refine J_put C fl_X6_22 (by first | exact jv_up_at _ _ _ | (rw [jv_up_ne ncur.symm]; exact jv_up_at _ _ _)) (by exact Nat.le_of_ble_eq_true rfl) (by rfl) (by rfl) dX6_init_26 ?_
  first | refine J_aload_n C rfl dX6_init_29 ?_ | refine J_aload_nq C rfl dX6_init_29 ?_ | refine J_aload_nN C rfl dX6_init_29 ?_
  refine J_iconst C (v := (-1)) (by decide) dX6_init_30 ?_
  refine J_put C fl_X6_26 (by first | exact jv_up_at _ _ _ | (rw [jv_up_ne ncur.symm]; exact jv_up_at _ _ _)) (by exact Nat.le_of_ble_eq_true rfl) (by rfl) (by rfl) dX6_init_31 ?_
  refine J_iconst C (v := nI 0) (by decide) dX6_init_34 ?_
  refine J_istore_n C (by decide) dX6_init_35 ?_
  have base : ∀ x, h x ≠ none → x ≠ a → x ≠ ta ∧ x ≠ cur := fun x hx _ => ⟨fun z => hx (by rw [z]; exact hta), fun z => hx (by rw [z]; exact hcur0)⟩
  have loop : ∀ (m i : Nat) (h1 : jH) (f : Nat → Option Nat) (tt : Nat → Nat), i + m = 16 → h1 a = some (qyO ta 0 cur 0 0 (-1)) → h1 ta = some (.inl (5, 16, .inr (.inr (.inr (.inr f))))) → (∀ j, j < i → f j = some (tt j)) → (∀ j, j < i → h1 (tt j) = some (tm tmZ)) → (∀ j k, j < i → k < i → tt j = tt k → j = k) → (∀ j, j < i → h (tt j) = none) → (fr (fn a h) h h1) → J K (2 + i) (22 + 6 * i) 36 (jv_l [(0, .ref a), (1, .int (nI i))]) [] h1 := by
    intro m
    induction m with
    | zero =>
      intro i h1 f tt hi y1 y2 y3 y4 y5 y6 y7
      have hi : i = 16 := hi
      subst hi
      refine J_iload_n C rfl dX6_init_36 ?_
      first | refine J_aload_n C rfl dX6_init_37 ?_ | refine J_aload_nq C rfl dX6_init_37 ?_ | refine J_aload_nN C rfl dX6_init_37 ?_
      refine J_get C fl_X6_11 (by first | assumption | exact jv_up_at _ _ _ | (simp [jv_up, *]; done)) (by rfl) dX6_init_38 ?_
      refine J_alen C (by first | assumption | exact jv_up_at _ _ _ | (simp [jv_up, *]; done)) (by decide) dX6_init_41 ?_
      refine J_nicmp_ge C (by first | omega | (dsimp only; omega)) (by first | omega | (dsimp only; omega)) 64 (by decide) dX6_init_42 (fun z1 => ?_) (fun z1 => ?_)
      · refine J_vret C D ⟨rfl, ⟨ta, tt, cur, ⟨y1, ⟨f, y2, y3⟩, y4, y5, by decide, by decide, fun _ _ => Nat.zero_le _, by decide⟩, hta, y6⟩, y7⟩ (by omega) (by omega) dX6_init_64
      · exact absurd z1 (Nat.lt_irrefl 16)
    | succ m ih =>
      intro i h1 f tt hi y1 y2 y3 y4 y5 y6 y7
      refine J_iload_n C rfl dX6_init_36 ?_
      first | refine J_aload_n C rfl dX6_init_37 ?_ | refine J_aload_nq C rfl dX6_init_37 ?_ | refine J_aload_nN C rfl dX6_init_37 ?_
      refine J_get C fl_X6_11 (by first | assumption | exact jv_up_at _ _ _ | (simp [jv_up, *]; done)) (by rfl) dX6_init_38 ?_
      refine J_alen C (by first | assumption | exact jv_up_at _ _ _ | (simp [jv_up, *]; done)) (by decide) dX6_init_41 ?_
      refine J_nicmp_ge C (by first | omega | (dsimp only; omega)) (by first | omega | (dsimp only; omega)) 64 (by decide) dX6_init_42 (fun z1 => ?_) (fun z1 => ?_)
      · exact absurd z1 (by show ¬ 16 ≤ i; omega)
      · first | refine J_aload_n C rfl dX6_init_45 ?_ | refine J_aload_nq C rfl dX6_init_45 ?_ | refine J_aload_nN C rfl dX6_init_45 ?_
        refine J_get C fl_X6_11 (by first | assumption | exact jv_up_at _ _ _ | (simp [jv_up, *]; done)) (by rfl) dX6_init_46 ?_
        refine J_iload_n C rfl dX6_init_49 ?_
        refine J_new C nw_X6_9 (by omega) (by omega) dX6_init_50 (fun q hq => ?_)
        have nq : ∀ {x : Nat} {e : jE}, h1 x = some e → x ≠ q := fun hx z => by rw [z, hq] at hx; cases hx
        have hq0 : h q = none := by
          by_cases w : h q = none
          · exact w
          · have := y7 q (fun z => z.elim (fun z => nq y1 z.symm) w)
            rw [hq] at this
            exact this.symm
        refine J_dup C rfl dX6_init_53 ?_
        refine J_callI C (c_Term_init _ _ q) cw_X6_17 rfl rfl (by exact Nat.le_of_ble_eq_true rfl) (by decide) (by omega) (by omega) dX6_init_54 ?_
        rintro _ _ ⟨rfl, rfl⟩
        refine J_aastT C (jv_up_of (nq y2) y2) (jv_up_at _ _ _) rfl (by omega) (by decide) dX6_init_57 ?_
        first | refine J_niinc (b := 1) C rfl (by decide) dX6_init_58 ?_ | refine J_iinc C rfl (by decide) dX6_init_58 ?_
        refine J_goto C 36 (by decide) dX6_init_61 ?_
        have y1' : jv_up (jv_up h1 q (tm tmZ)) ta (.inl (5, 16, .inr (.inr (.inr (.inr (va_up f i (some q))))))) a = some (qyO ta 0 cur 0 0 (-1)) := jv_up_of nta (jv_up_of (nq y1) y1)
        refine J_widen (c1 := 2 + (i + 1)) (s1 := 22 + 6 * (i + 1)) (by omega) (by omega) ?_
        have vi : ∀ j, j < i → va_up tt i q j = tt j := fun j hj => if_neg (by omega)
        have vq : va_up tt i q i = q := if_pos rfl
        refine J_sub (by exact (And.intro rfl (And.intro rfl trivial))) (ih (i + 1) _ (va_up f i (some q)) (va_up tt i q) (by omega) y1' (jv_up_at _ _ _) (fun j hj => ?_) (fun j hj => ?_) (fun j k hj hk => ?_) (fun j hj => ?_) ?_)
        · by_cases w : j = i
          · subst w; rw [vq]; exact if_pos rfl
          · rw [vi j (by omega)]; exact (if_neg w).trans (y3 j (by omega))
        · by_cases w : j = i
          · subst w; rw [vq]; exact jv_up_of (nq y2).symm (jv_up_at _ _ _)
          · have w2 := y4 j (by omega)
            rw [vi j (by omega)]; exact jv_up_of (fun z => by rw [z, y2] at w2; cases w2) (jv_up_of (nq w2) w2)
        · by_cases w : j = i
          · by_cases w2 : k = i
            · intro _; omega
            · have w3 := y4 k (by omega)
              rw [w, vq, vi k (by omega)]; intro z; exact absurd z.symm (nq w3)
          · have w3 := y4 j (by omega)
            by_cases w2 : k = i
            · rw [w2, vq, vi j (by omega)]; intro z; exact absurd z (nq w3)
            · rw [vi j (by omega), vi k (by omega)]; exact y5 j k (by omega) (by omega)
        · by_cases w : j = i
          · subst w; rw [vq]; exact hq0
          · rw [vi j (by omega)]; exact y6 j (by omega)
        · exact fr_tr y7 (fr_tr (fr_up (Or.inr hq0)) (fr_up (Or.inr hta)))
  simp only [List.set, jv_up_up]
  refine J_sub (by exact (And.intro rfl (And.intro rfl trivial))) (loop 16 0 _ (fun _ => none) (fun _ => 0) rfl (jv_up_at _ _ _) ?_ (fun _ z => absurd z (Nat.not_lt_zero _)) (fun _ z => absurd z (Nat.not_lt_zero _)) (fun _ _ z => absurd z (Nat.not_lt_zero _)) (fun _ z => absurd z (Nat.not_lt_zero _)) ?_)
  · exact jv_up_of nta.symm (jv_up_of ncur2.symm (jv_up_of nta.symm (jv_up_at _ _ _)))
  · exact fr_tr (fr_tr (fr_tr (fr_up (Or.inr hta)) (fr_up (Or.inl rfl))) (fr_up (Or.inr hcur0))) (fr_up (Or.inl rfl))
