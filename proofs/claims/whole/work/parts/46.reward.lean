def srRew (g bit : Int32) (imp : Nat → Nat) (p : srT) (d : Nat) : srT := ((srM p d).1, va_up (srM p d).2 d (((srM p d).2 d).1, ((srM p d).2 d).2.1 ||| bit, ((srM p d).2 d).2.2 + g * nI (imp d)))
section REWARD
variable {l : jL} {h h1 : jH} {b da dd dc x xa xd xc s : Nat} {DL W SW SP M : List Nat} {lt : Nat → Int64} {num len : Nat → Nat} {PD QW : Nat → List Nat} {tot : Nat → Nat} {tm pa : Nat → Nat → Nat} {nx : Nat → Nat → Option Nat} {fi : Nat → Option Nat} {sf : Nat → sfT} {n : Nat} {nd : Int32} {st : Nat → Bool × Int32 × Int32}
set_option maxHeartbeats 400000 in
theorem c_Search_reward (B : lib0 l h b da dd dc x xa xd xc DL W SW SP lt num len PD QW tot tm pa nx fi sf n) (S : sm h s M nd DL sf st) {w : Nat} (hw : w ∈ W) (ht : ∀ d ∈ PD w, tm w d ≤ 1000 ∧ len d ≤ 1000) (g bit : Int32) : Cn l yX7_reward cX7_reward 6 none 2 0 0 [.ref s, .ref w, .int g, .int bit] h (fun r h1 => r = none ∧ srP h s nd DL num len fi ((PD w).foldl (srRew g bit (fun d => sp_imp (tm w d) (len d))) (M, st)) h1) := by
  obtain ⟨sp, hwc⟩ := B.2.2.2.2.1 w hw
  have GP := B.2.2.2.2.2.1 w hw
  have hs := S.1
  have hnot : ∀ {y c : Nat} {fs : List Value}, h y = some (.inr (c, fs)) → c ≠ 6 → c ≠ 1 → ¬ (y = s ∨ y ∈ DL) := by
    intro y c fs e c6 c1 z
    rcases z with z | z
    · exact jv_neO e hs c6 z
    · exact jv_neO e (B.2.2.2.2.2.2.1 y z) c1 rfl
  refine Cn.of (own := RX7) rfl (by decide) (by exact Nat.le_of_ble_eq_true rfl) (by decide) (fun K hK C D I => ?_)
  have loop : ∀ (L : List Nat) (i : Nat) (p : srT) (h' : jH), (PD w).drop i = L → srP h s nd DL num len fi p h' → L.foldl (srRew g bit (fun d => sp_imp (tm w d) (len d))) p = (PD w).foldl (srRew g bit (fun d => sp_imp (tm w d) (len d))) (M, st) → J K 0 0 6 (jv_l [(4, va_rf ((PD w)[i]?.map (pa w))), (3, .int bit), (2, .int g), (1, .ref w), (0, .ref s)]) [] h' := by
    intro L
    induction L with
    | nil =>
      intro i p h' hL P he
      have : (PD w)[i]? = none := by
        have := List.drop_eq_nil_iff.mp hL
        exact List.getElem?_eq_none this
      rw [this]
      first | refine J_aload C rfl dX7_reward_6 ?_ | refine J_aloadq C rfl dX7_reward_6 ?_ | refine J_aloadN C rfl dX7_reward_6 ?_
      refine J_ifnull (x := none) C 67 (by decide) dX7_reward_8 (fun _ => ?_) (fun q z => by cases z)
      refine J_vret C D ⟨rfl, by rw [← he]; exact P⟩ (by omega) (by omega) dX7_reward_67
    | cons d rest ih =>
      intro i p h' hL P he
      have hi : (PD w)[i]? = some d := by
        have := congrArg (fun L => L[0]?) hL
        rw [List.getElem?_drop] at this
        exact this
      have hdm := List.mem_of_getElem? hi
      have hd : d ∈ DL := ((B.2.2.2.2.2.2.2.1.1 w hw).2 d hdm).1
      have hrest : (PD w).drop (i + 1) = rest := by
        rw [← List.tail_drop, hL]; rfl
      obtain ⟨F, sf1, S1, G1⟩ := P
      have hp0 := GP i d hi
      have hp := (F _ (hnot hp0 (by decide) (by decide))).trans hp0
      have s11 := S1.1
      rw [hi]
      first | refine J_aload C rfl dX7_reward_6 ?_ | refine J_aloadq C rfl dX7_reward_6 ?_ | refine J_aloadN C rfl dX7_reward_6 ?_
      refine J_ifnull (x := some (pa w d)) C 67 (by decide) dX7_reward_8 (fun z => by cases z) (fun _ _ => ?_)
      first | refine J_aload C rfl dX7_reward_11 ?_ | refine J_aloadq C rfl dX7_reward_11 ?_ | refine J_aloadN C rfl dX7_reward_11 ?_
      refine J_get C fl_X7_119 (by first | assumption | exact jv_up_at _ _ _ | (simp [jv_up, *]; done)) (by rfl) dX7_reward_13 ?_
      first | refine J_astoreq C (by decide) dX7_reward_16 ?_ | refine J_astore C (by decide) dX7_reward_16 ?_ | refine J_astoreN C (by decide) dX7_reward_16 ?_
      first | refine J_aload C rfl dX7_reward_18 ?_ | refine J_aloadq C rfl dX7_reward_18 ?_ | refine J_aloadN C rfl dX7_reward_18 ?_
      refine J_ifnull (x := some d) C 57 (by decide) dX7_reward_20 (fun z => by cases z) (fun _ _ => ?_)
      first | refine J_aload_n C rfl dX7_reward_23 ?_ | refine J_aload_nq C rfl dX7_reward_23 ?_ | refine J_aload_nN C rfl dX7_reward_23 ?_
      first | refine J_aload C rfl dX7_reward_24 ?_ | refine J_aloadq C rfl dX7_reward_24 ?_ | refine J_aloadN C rfl dX7_reward_24 ?_
      refine J_callV C (c_Search_meet S1 G1 hd) cw_X7_32 (by first | assumption | exact jv_up_at _ _ _ | (simp [jv_up, *]; done)) rfl rfl rfl rfl (by exact Nat.le_of_ble_eq_true rfl) (by decide) (by omega) (by omega) dX7_reward_26 ?_
      rintro _ h2 ⟨rfl, F2, sf2, S2, G2⟩
      have S2' : sm h2 s (srM p d).1 nd DL sf2 (srM p d).2 := S2
      obtain ⟨z, hz⟩ := sm_sf S2' (srM_mem p d)
      have gd := G2 d hd
      have hpd : pa w d ≠ d := jv_neO hp0 (B.2.2.2.2.2.2.1 d hd) (by decide)
      have hp2 := (F2 (pa w d) (hnot hp0 (by decide) (by decide))).trans hp
      obtain ⟨S3, G3⟩ := sm_set S2' G2 (srM_mem p d) (((srM p d).2 d).1, ((srM p d).2 d).2.1 ||| bit, ((srM p d).2 d).2.2 + g * nI (sp_imp (tm w d) (len d)))
      rw [hz] at gd S3 G3
      first | refine J_aload C rfl dX7_reward_29 ?_ | refine J_aloadq C rfl dX7_reward_29 ?_ | refine J_aloadN C rfl dX7_reward_29 ?_
      refine J_dup C rfl dX7_reward_31 ?_
      refine J_get C fl_X7_123 (by first | assumption | exact jv_up_at _ _ _ | (simp [jv_up, *]; done)) (by rfl) dX7_reward_32 ?_
      refine J_iload_n C rfl dX7_reward_35 ?_
      refine J_ior C dX7_reward_36 ?_
      refine J_put C fl_X7_123 (by first | assumption | exact jv_up_at _ _ _ | (simp [jv_up, *]; done)) (by exact Nat.le_of_ble_eq_true rfl) (by rfl) (by rfl) dX7_reward_37 ?_
      have gd2 := jv_up_at h2 d (dcO (num d) (len d) (fi d) (true, ((srM p d).2 d).1, ((srM p d).2 d).2.1 ||| bit, ((srM p d).2 d).2.2, z))
      have hp3 := jv_up_of (x := dcO (num d) (len d) (fi d) (true, ((srM p d).2 d).1, ((srM p d).2 d).2.1 ||| bit, ((srM p d).2 d).2.2, z)) hpd hp2
      first | refine J_aload C rfl dX7_reward_40 ?_ | refine J_aloadq C rfl dX7_reward_40 ?_ | refine J_aloadN C rfl dX7_reward_40 ?_
      refine J_dup C rfl dX7_reward_42 ?_
      refine J_get C fl_X7_126 (by first | assumption | exact jv_up_at _ _ _ | (simp [jv_up, *]; done)) (by rfl) dX7_reward_43 ?_
      refine J_iload_n C rfl dX7_reward_46 ?_
      first | refine J_aload C rfl dX7_reward_47 ?_ | refine J_aloadq C rfl dX7_reward_47 ?_ | refine J_aloadN C rfl dX7_reward_47 ?_
      refine J_callV C (c_Posting_impact (pa w d) d (tm w d) (len d) (num d) (some w) (prv (PD w) (pa w) i) (nxt (PD w) (pa w) i) (nx w d) (fi d) (true, ((srM p d).2 d).1, ((srM p d).2 d).2.1 ||| bit, ((srM p d).2 d).2.2, z) hp3 gd2 (ht d hdm).1 (ht d hdm).2) cw_X7_129 (by first | assumption | exact jv_up_at _ _ _ | (simp [jv_up, *]; done)) rfl rfl rfl rfl (by exact Nat.le_of_ble_eq_true rfl) (by decide) (by omega) (by omega) dX7_reward_49 ?_
      rintro _ h9 ⟨rfl, e9⟩
      replace e9 := e9.symm
      subst e9
      refine J_imul C dX7_reward_52 ?_
      refine J_iadd C dX7_reward_53 ?_
      refine J_put C fl_X7_126 (by first | assumption | exact jv_up_at _ _ _ | (simp [jv_up, *]; done)) (by exact Nat.le_of_ble_eq_true rfl) (by rfl) (by rfl) dX7_reward_54 ?_
      rw [jv_up_up]
      have hp4 := jv_up_of (x := dcO (num d) (len d) (fi d) (true, ((srM p d).2 d).1, ((srM p d).2 d).2.1 ||| bit, ((srM p d).2 d).2.2 + g * nI (sp_imp (tm w d) (len d)), z)) hpd hp2
      refine J_eq (st1 := []) (h1 := jv_up h2 d (dcO (num d) (len d) (fi d) (true, ((srM p d).2 d).1, ((srM p d).2 d).2.1 ||| bit, ((srM p d).2 d).2.2 + g * nI (sp_imp (tm w d) (len d)), z))) rfl rfl ?_
      first | refine J_aload C rfl dX7_reward_57 ?_ | refine J_aloadq C rfl dX7_reward_57 ?_ | refine J_aloadN C rfl dX7_reward_57 ?_
      refine J_get C fl_X7_132 (by first | assumption | exact jv_up_at _ _ _ | (simp [jv_up, *]; done)) (by rfl) dX7_reward_59 ?_
      first | refine J_astoreq C (by decide) dX7_reward_62 ?_ | refine J_astore C (by decide) dX7_reward_62 ?_ | refine J_astoreN C (by decide) dX7_reward_62 ?_
      refine J_goto C 6 (by decide) dX7_reward_64 ?_
      refine J_sub (by exact (And.intro rfl (And.intro rfl (And.intro rfl (And.intro rfl (And.intro rfl trivial)))))) (ih (i + 1) (srRew g bit (fun d => sp_imp (tm w d) (len d)) p d) _ hrest ⟨fr_tr (fr_tr F F2) (fr_up (Or.inr hd)), _, S3, G3⟩ he)
  first | refine J_aload_n C rfl dX7_reward_0 ?_ | refine J_aload_nq C rfl dX7_reward_0 ?_ | refine J_aload_nN C rfl dX7_reward_0 ?_
  refine J_get C fl_X7_118 (by first | assumption | exact jv_up_at _ _ _ | (simp [jv_up, *]; done)) (by rfl) dX7_reward_1 ?_
  first | refine J_astoreq C (by decide) dX7_reward_4 ?_ | refine J_astore C (by decide) dX7_reward_4 ?_ | refine J_astoreN C (by decide) dX7_reward_4 ?_
  refine J_sub (by exact (And.intro rfl (And.intro rfl (And.intro rfl (And.intro rfl (And.intro rfl trivial)))))) (loop (PD w) 0 (M, st) h rfl ⟨fr_rf _ _, sf, S, B.2.2.2.2.2.2.1⟩ rfl)
end REWARD
