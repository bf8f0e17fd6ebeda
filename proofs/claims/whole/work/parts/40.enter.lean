theorem ins_of {p : Nat} {L : List Nat} {x y : Nat} (h : y ∈ L) : y ∈ L.take p ++ x :: L.drop p := by
  rw [← List.take_append_drop p L] at h
  rcases List.mem_append.mp h with z | z
  · exact List.mem_append_left _ z
  · exact List.mem_append_right _ (List.mem_cons_of_mem _ z)
theorem ins_me {p : Nat} {L : List Nat} {x : Nat} : x ∈ L.take p ++ x :: L.drop p := List.mem_append_right _ List.mem_cons_self
section ENTER
variable {l : jL} {h h1 : jH} {b da dd dc x xa xd xc : Nat} {DL W SW SP : List Nat} {lt : Nat → Int64} {num len : Nat → Nat} {PD QW : Nat → List Nat} {tot : Nat → Nat} {tm pa : Nat → Nat → Nat} {nx : Nat → Nat → Option Nat} {fi : Nat → Option Nat} {sf : Nat → sfT} {n : Nat}
theorem lib0_enter (B : lib0 l h b da dd dc x xa xd xc DL W SW SP lt num len PD QW tot tm pa nx fi sf n) (he : h l.2.1 = none) {L : Int64} {w : Nat} (E : entP l h x xa xd xc W SW lt L w h1) :
    (∀ u ∈ W, lt u ≠ L) ∧ w ∉ W ∧ fr (lc h) h h1 ∧ ∃ p xd' xc' SW', p ≤ W.length ∧ lib0 l h1 b da dd dc x xa xd' xc' DL (W.take p ++ w :: W.drop p) SW' SP (va_up lt w L) num len (va_up PD w []) QW (va_up tot w 0) tm pa nx fi sf n ∧ capS xc xc' W.length := by
  obtain ⟨b1, b2, b3, b4, b5, b6, b7, b8, b9, b10, b11⟩ := B
  obtain ⟨e1, e2, p, xd', xc', SW', e3, X1, e4, e5, e6, e7, F⟩ := E
  obtain ⟨⟨xf, xa1⟩, xd1⟩ := al_ad b3.2.1
  obtain ⟨⟨df, da1⟩, dd1⟩ := al_ad b2
  have hwc : (∃ fs, h w = some (.inr (9, fs))) ∨ h w = none := by
    rcases e6 with e6 | ⟨_, _, e6⟩
    · obtain ⟨c1, c2, c3, c4, c5⟩ := b3.2.2.2.2.1 0 w (by rw [e6]; rfl)
      exact Or.inl ⟨_, c5⟩
    · exact Or.inr e6
  have xdc : (∃ f, h xd = some (alA xc f)) ∨ h xd = none := by
    by_cases c : xc = 0
    · obtain ⟨mcn, a1, a2, a3⟩ := id b3.2.1
      rcases a3 with ⟨_, _, z⟩ | ⟨c1, _⟩
      · exact Or.inr (z ▸ he)
      · omega
    · exact Or.inl (xd1 c)
  have keep : ∀ {y c : Nat} {fs : List Value}, h y = some (.inr (c, fs)) → c ≠ 2 → (c = 12 → y ≠ xa) → (c = 9 → y ≠ w) → h1 y = h y := by
    intro y c fs e9 c2 c12 c9
    refine F y (fun z => ?_)
    rcases z with z | z | z | z | z
    · exact jv_neO e9 b3.1 c2 z
    · by_cases q : c = 12
      · exact c12 q z
      · exact jv_neO e9 xa1 q z
    · rcases xdc with ⟨f, f1⟩ | f1
      · exact jv_neA e9 f1 z
      · rw [z, f1] at e9; cases e9
    · by_cases q : c = 9
      · exact c9 q z
      · rcases hwc with ⟨fs2, f1⟩ | f1
        · exact jv_neO e9 f1 q z
        · rw [z, f1] at e9; cases e9
    · rw [e9] at z; cases z
  have hdx : dc ≠ 0 → dd ≠ xd := fun hc z => by
    obtain ⟨f, f1⟩ := dd1 hc
    by_cases c : xc = 0
    · rcases xdc with ⟨g, g1⟩ | g1
      · obtain ⟨mcn, a1, a2, a3⟩ := id b3.2.1
        rcases a3 with ⟨_, _, y⟩ | ⟨c1, _⟩
        · rw [y, he] at g1; cases g1
        · omega
      · rw [z, g1] at f1; cases f1
    · exact b4.2 hc c z
  have uw : ∀ u ∈ W, u ≠ w := fun u hu z => e2 (z ▸ hu)
  have hd : ∀ v ∈ DL, _ := fun v hv => (keep (b7 v hv) (by decide) (fun q => by cases q) (fun q => by cases q)).trans (b7 v hv)
  refine ⟨e1, e2, fun y hy => F y (fun z => ?_), p, xd', xc', SW', e3, ⟨(keep b1 (by decide) (fun q => by cases q) (fun q => by cases q)).trans b1, al_up b2 (keep da1 (by decide) (fun _ => b4.1) (fun q => by cases q)) (fun hc => ?_) (fun y hy => ⟨_, hd y hy⟩), X1, ⟨b4.1, fun hc _ z => ?_⟩, fun u hu => ?_, fun u hu j v hv => ?_, hd, ⟨fun u hu => ?_, fun v hv => ⟨(b8.2 v hv).1, fun j u hj => ?_⟩⟩, ⟨fun j q hj => ?_, b9.2⟩, fun u hu => ?_, b11⟩, e5⟩
  · rcases z with z | z | z | z | z
    · exact hy (lc_O (z ▸ b3.1) (by simp))
    · exact hy (lc_O (z ▸ xa1) (by simp))
    · rcases xdc with ⟨f, f1⟩ | f1
      · exact hy (lc_A (z ▸ f1))
      · exact hy (lc_N (z ▸ f1))
    · rcases hwc with ⟨f, f1⟩ | f1
      · exact hy (lc_O (z ▸ f1) (by simp))
      · exact hy (lc_N (z ▸ f1))
    · exact hy (lc_N z)
  · obtain ⟨f, f1⟩ := dd1 hc
    refine F dd (fun z => ?_)
    rcases z with z | z | z | z | z
    · exact jv_neA b3.1 f1 z.symm
    · exact jv_neA xa1 f1 z.symm
    · exact hdx hc z
    · rcases hwc with ⟨fs2, f2⟩ | f2
      · exact jv_neA f2 f1 z.symm
      · rw [z, f2] at f1; cases f1
    · rw [f1] at z; cases z
  · rcases e7 with k | k
    · exact hdx hc (z.trans k)
    · obtain ⟨f, f1⟩ := dd1 hc
      rw [z, k] at f1; cases f1
  · rcases ins_mem hu with c | c
    · subst c
      refine ⟨none, ?_⟩
      rw [e4, show va_up lt u L u = L from if_pos rfl, show va_up PD u [] u = [] from if_pos rfl, show va_up tot u 0 u = 0 from if_pos rfl]
      rfl
    · have nq := uw u c
      obtain ⟨sp9, h9⟩ := b5 u c
      refine ⟨sp9, ?_⟩
      rw [show va_up lt w L u = lt u from if_neg nq, show va_up PD w [] u = PD u from if_neg nq, show va_up tot w 0 u = tot u from if_neg nq]
      exact (keep h9 (by decide) (fun q => by cases q) (fun _ => nq)).trans h9
  · rcases ins_mem hu with c | c
    · subst c
      rw [show va_up PD u [] u = [] from if_pos rfl] at hv
      cases hv
    · have nq := uw u c
      rw [show va_up PD w [] u = PD u from if_neg nq] at hv ⊢
      have h9 := b6 u c j v hv
      exact (keep h9 (by decide) (fun q => by cases q) (fun q => by cases q)).trans h9
  · rcases ins_mem hu with c | c
    · subst c
      rw [show va_up PD u [] u = [] from if_pos rfl]
      exact ⟨List.nodup_nil, fun v hv => by cases hv⟩
    · rw [show va_up PD w [] u = PD u from if_neg (uw u c)]
      exact b8.1 u c
  · obtain ⟨q1, q2, q3⟩ := (b8.2 v hv).2 j u hj
    exact ⟨ins_of q1, by rw [show va_up PD w [] u = PD u from if_neg (uw u q1)]; exact q2, q3⟩
  · obtain ⟨t9, p1, p2, p3⟩ := b9.1 j q hj
    exact ⟨t9, p1, p2, (keep p3 (by decide) (fun q => by cases q) (fun q => by cases q)).trans p3⟩
  · rcases ins_mem hu with c | c
    · subst c
      rw [show va_up PD u [] u = [] from if_pos rfl, show va_up tot u 0 u = 0 from if_pos rfl]
      rfl
    · rw [show va_up PD w [] u = PD u from if_neg (uw u c), show va_up tot w 0 u = tot u from if_neg (uw u c)]
      exact b10 u c
set_option maxHeartbeats 400000 in
theorem c_Lib_init (hh : h b = some (.inr (3, [.null, .null, .int 0, .null]))) : Cn l yX4_init cX4_init 1 none 5 3 8 [.ref b] h (fun r h1 => r = none ∧ fr (fn b h) h h1 ∧ ∃ da x xa, lib0 l h1 b da l.2.1 0 x xa l.2.1 0 [] [] [] [] (fun _ => lN 0) (fun _ => 0) (fun _ => 0) (fun _ => []) (fun _ => []) (fun _ => 0) (fun _ _ => 0) (fun _ _ => 0) (fun _ _ => none) (fun _ => none) (fun _ => sf0) 0) := by
  refine Cn.of (own := RX4) rfl (by decide) (by exact Nat.le_of_ble_eq_true rfl) (by decide) (fun K hK C D I => ?_)
  first | refine J_aload_n C rfl dX4_init_0 ?_ | refine J_aload_nq C rfl dX4_init_0 ?_ | refine J_aload_nN C rfl dX4_init_0 ?_
  refine J_objInit C ml_X4_3 oi_inst oi_code (by decide) (by exact Nat.le_of_ble_eq_true rfl) dX4_init_1 ?_
  first | refine J_aload_n C rfl dX4_init_4 ?_ | refine J_aload_nq C rfl dX4_init_4 ?_ | refine J_aload_nN C rfl dX4_init_4 ?_
  refine J_new C nw_X4_9 (by omega) (by omega) dX4_init_5 (fun da hda => ?_)
  have n1 : b ≠ da := fun z => by rw [z, hda] at hh; cases hh
  refine J_dup C rfl dX4_init_8 ?_
  refine J_callI C (c_AL_init (jv_up_at _ _ _)) cw_X4_11 rfl rfl (by exact Nat.le_of_ble_eq_true rfl) (by decide) (by omega) (by omega) dX4_init_9 ?_
  rintro _ _ ⟨rfl, rfl⟩
  rw [hK, jv_up_up]
  have hh1 := jv_up_of (x := alO 0 l.2.1 0) n1 hh
  refine J_putF C I fl_X4_12 rfl rfl (by first | assumption | exact jv_up_at _ _ _ | (simp [jv_up, *]; done)) (by exact Nat.le_of_ble_eq_true rfl) (by first | rfl | exact jv_nar_o _ _) (by first | rfl | exact jv_fit_o _ _) fw_X4_12 dX4_init_12 ?_
  first | refine J_aload_n C rfl dX4_init_15 ?_ | refine J_aload_nq C rfl dX4_init_15 ?_ | refine J_aload_nN C rfl dX4_init_15 ?_
  have F1 : fr (fn b h) h (jv_up (jv_up h da (alO 0 l.2.1 0)) b (.inr (3, [.ref da, .null, .int 0, .null]))) := fr_tr (fr_up (Or.inr hda)) (fr_up (Or.inl rfl))
  refine J_new C nw_X4_18 (by omega) (by omega) dX4_init_16 (fun x hx => ?_)
  have hx0 : h x = none := by
    by_cases c : x = b
    · rw [c, jv_up_at] at hx; cases hx
    · rw [jv_up_ne c] at hx
      by_cases c2 : x = da
      · rw [c2, jv_up_at] at hx; cases hx
      · rw [jv_up_ne c2] at hx; exact hx
  have nbx : b ≠ x := fun z => by rw [z, hx0] at hh; cases hh
  have ndx : da ≠ x := fun z => by
    rw [← z, jv_up_ne n1.symm, jv_up_at] at hx; cases hx
  refine J_dup C rfl dX4_init_19 ?_
  refine J_callI C (c_Lex_init x (jv_up_at _ _ _)) cw_X4_20 rfl rfl (by exact Nat.le_of_ble_eq_true rfl) (by decide) (by omega) (by omega) dX4_init_20 ?_
  rintro _ h2 ⟨rfl, xa, hxa, rfl⟩
  have nxa : x ≠ xa := fun z => by rw [← z, jv_up_at] at hxa; cases hxa
  have nbxa : b ≠ xa := fun z => by rw [← z, jv_up_ne nbx, jv_up_at] at hxa; cases hxa
  have ndxa : da ≠ xa := fun z => by rw [← z, jv_up_ne ndx, jv_up_ne n1.symm, jv_up_at] at hxa; cases hxa
  have hxa0 : h xa = none := by
    rw [jv_up_ne nxa.symm, jv_up_ne nbxa.symm, jv_up_ne ndxa.symm] at hxa; exact hxa
  rw [hK]
  have hb2 := jv_up_of (x := lxO xa none) nbx (jv_up_of (x := alO 0 l.2.1 0) nbxa (jv_up_of (x := .inr (2, [.null, .null])) nbx (jv_up_at (jv_up h da (alO 0 l.2.1 0)) b (.inr (3, [.ref da, .null, .int 0, .null])))))
  refine J_putF C I fl_X4_21 rfl rfl (by first | assumption | exact jv_up_at _ _ _ | (simp [jv_up, *]; done)) (by exact Nat.le_of_ble_eq_true rfl) (by first | rfl | exact jv_nar_o _ _) (by first | rfl | exact jv_fit_o _ _) fw_X4_21 dX4_init_23 ?_
  refine J_vret C D ⟨rfl, fr_tr (fr_tr (fr_tr (fr_tr F1 (fr_up (Or.inr hx0))) (fr_up (Or.inr hxa0))) (fr_up (Or.inr hx0))) (fr_up (Or.inl rfl)), da, x, xa, jv_up_at _ _ _, ⟨0, ?_, (fun y hy => by cases hy), Or.inl ⟨rfl, rfl, rfl⟩⟩, ⟨?_, ⟨0, ?_, (fun y hy => by cases hy), Or.inl ⟨rfl, rfl, rfl⟩⟩, (fun y hy => by cases hy), (fun i j u v _ hu => by cases hu), (fun i u hu => by cases hu), List.nodup_nil, (fun y hy => by cases hy)⟩, ⟨ndxa, fun hc => absurd rfl hc⟩, (fun y hy => by cases hy), (fun y hy => by cases hy), (fun y hy => by cases hy), ⟨(fun y hy => by cases hy), (fun y hy => by cases hy)⟩, ⟨(fun i u hu => by cases hu), List.nodup_nil⟩, (fun y hy => by cases hy), List.nodup_nil⟩ (by omega) (by omega) dX4_init_26
  · exact jv_up_of n1.symm (jv_up_of ndx (jv_up_of ndxa (jv_up_of ndx (jv_up_of n1.symm (jv_up_at _ _ _)))))
  · exact jv_up_of nbx.symm (jv_up_at _ _ _)
  · exact jv_up_of nbxa.symm (jv_up_of nxa.symm (jv_up_at _ _ _))
end ENTER
