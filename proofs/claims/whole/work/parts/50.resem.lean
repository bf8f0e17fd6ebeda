/-! Search: resembling -/
section RESEM
variable {l : jL} {h h1 : jH} {b da dd dc x xa xd xc s a an ap lim : Nat} {DL W SW SP M : List Nat} {lt : Nat → Int64} {num len : Nat → Nat} {PD QW : Nat → List Nat} {tot : Nat → Nat} {tm pa : Nat → Nat → Nat} {nx : Nat → Nat → Option Nat} {fi : Nat → Option Nat} {sf : Nat → sfT} {n : Nat} {nd : Int32} {st : Nat → Bool × Int32 × Int32} {L : List hiT}
/-- what a word of the pattern does -/
def srE (n : Nat) (PD : Nat → List Nat) (tm : Nat → Nat → Nat) (len : Nat → Nat) (e : Nat) (p : srT) (w : Nat) : srT :=
  (PD w).foldl (srRew (nI (min (tm w e) 9 * sp_rar n (PD w).length)) (nI 0) (fun d => sp_imp (tm w d) (len d))) p
set_option maxHeartbeats 1000000 in
theorem c_Search_resem (B : lib0 l h b da dd dc x xa xd xc DL W SW SP lt num len PD QW tot tm pa nx fi sf n) (S : sm h s M nd DL sf st) (BB : bs h a an ap lim L) {e : Nat} (hed : e ∈ DL) (hfi : fi e = (QW e)[0]?.map (fun u => pa u e)) (ht : ∀ w ∈ W, ∀ d ∈ PD w, tm w d ≤ 1000 ∧ len d ≤ 1000) (hpd : ∀ w ∈ W, (PD w).length ≤ 60000) (hnm : ∀ d ∈ DL, num d < 10000) : Cn l yX7_resembling cX7_resembling 6 none 5 0 0 [.ref s, .ref e, .ref b, .ref a] h (fun r h1 => r = none ∧
    hvP h s a an ap lim ((QW e).foldl (srE DL.length PD tm len e) (srBar (M, st) e)).1 0 DL num len fi ((QW e).foldl (srE DL.length PD tm len e) (srBar (M, st) e)).2 L h1) := by
  have s1 := S.1
  have G := B.2.2.2.2.2.2.1
  have ge := G e hed
  have nse : s ≠ e := jv_neO s1 ge (by decide)
  refine Cn.of (own := RX7) rfl (by decide) (by exact Nat.le_of_ble_eq_true rfl) (by decide) (fun K hK C D I => ?_)
  have loop : ∀ (R : List Nat) (i : Nat) (p : srT) (h' : jH), (QW e).drop i = R → srP h s 0 DL num len fi p h' → R.foldl (srE DL.length PD tm len e) p = (QW e).foldl (srE DL.length PD tm len e) (srBar (M, st) e) → J K 0 0 21 (jv_l [(4, va_rf ((QW e)[i]?.map (fun u => pa u e))), (3, .ref a), (2, .ref b), (1, .ref e), (0, .ref s)]) [] h' := by
    intro R
    induction R with
    | nil =>
      intro i p h' hR P he
      obtain ⟨F, sf1, S1, G1⟩ := P
      have s11 := S1.1
      have : (QW e)[i]? = none := List.getElem?_eq_none (List.drop_eq_nil_iff.mp hR)
      rw [this]
      first | refine J_aload C rfl dX7_resembling_21 ?_ | refine J_aloadq C rfl dX7_resembling_21 ?_ | refine J_aloadN C rfl dX7_resembling_21 ?_
      refine J_ifnull (x := none) C 72 (by decide) dX7_resembling_23 (fun _ => ?_) (fun q z => by cases z)
      first | refine J_aload_n C rfl dX7_resembling_72 ?_ | refine J_aload_nq C rfl dX7_resembling_72 ?_ | refine J_aload_nN C rfl dX7_resembling_72 ?_
      first | refine J_aload_n C rfl dX7_resembling_73 ?_ | refine J_aload_nq C rfl dX7_resembling_73 ?_ | refine J_aload_nN C rfl dX7_resembling_73 ?_
      refine J_callV C (c_Search_harvest S1 G1 (srP_bs G s1 F BB) hnm) cw_X7_28 (by first | assumption | exact jv_up_at _ _ _ | (simp [jv_up, *]; done)) rfl rfl rfl rfl (by exact Nat.le_of_ble_eq_true rfl) (by decide) (by omega) (by omega) dX7_resembling_74 ?_
      rintro _ h2 ⟨rfl, F2, P2⟩
      refine J_vret C D ⟨rfl, by rw [← he]; exact ⟨fr_tr (fr_mono F (fun y hy => hy.elim Or.inl (fun z => Or.inr (Or.inl z)))) F2, P2⟩⟩ (by omega) (by omega) dX7_resembling_77
    | cons w rest ih =>
      intro i p h' hR P he
      have hi : (QW e)[i]? = some w := by
        have := congrArg (fun L => L[0]?) hR
        rw [List.getElem?_drop] at this
        exact this
      have hrest : (QW e).drop (i + 1) = rest := by
        rw [← List.tail_drop, hR]; rfl
      obtain ⟨hw, hew, hnx⟩ := (B.2.2.2.2.2.2.2.1.2 e hed).2 i w hi
      obtain ⟨k, hk⟩ := List.getElem?_of_mem hew
      obtain ⟨F, sf1, S1, G1⟩ := P
      have s11 := S1.1
      have B1 := lib0_srch B s1 G1 F
      have hp := B1.2.2.2.2.2.1 w hw k e hk
      have hb1 := B1.1
      rw [hnx] at hp
      rw [← hK] at B1
      rw [hi]
      first | refine J_aload C rfl dX7_resembling_21 ?_ | refine J_aloadq C rfl dX7_resembling_21 ?_ | refine J_aloadN C rfl dX7_resembling_21 ?_
      refine J_ifnull (x := some (pa w e)) C 72 (by decide) dX7_resembling_23 (fun z => by cases z) (fun _ _ => ?_)
      first | refine J_aload C rfl dX7_resembling_26 ?_ | refine J_aloadq C rfl dX7_resembling_26 ?_ | refine J_aloadN C rfl dX7_resembling_26 ?_
      refine J_get C fl_X7_46 (by first | assumption | exact jv_up_at _ _ _ | (simp [jv_up, *]; done)) (by rfl) dX7_resembling_28 ?_
      first | refine J_astoreq C (by decide) dX7_resembling_31 ?_ | refine J_astore C (by decide) dX7_resembling_31 ?_ | refine J_astoreN C (by decide) dX7_resembling_31 ?_
      first | refine J_aload C rfl dX7_resembling_33 ?_ | refine J_aloadq C rfl dX7_resembling_33 ?_ | refine J_aloadN C rfl dX7_resembling_33 ?_
      refine J_ifnull (x := some w) C 62 (by decide) dX7_resembling_35 (fun z => by cases z) (fun _ _ => ?_)
      first | refine J_aload_n C rfl dX7_resembling_38 ?_ | refine J_aload_nq C rfl dX7_resembling_38 ?_ | refine J_aload_nN C rfl dX7_resembling_38 ?_
      first | refine J_aload C rfl dX7_resembling_39 ?_ | refine J_aloadq C rfl dX7_resembling_39 ?_ | refine J_aloadN C rfl dX7_resembling_39 ?_
      first | refine J_aload C rfl dX7_resembling_41 ?_ | refine J_aloadq C rfl dX7_resembling_41 ?_ | refine J_aloadN C rfl dX7_resembling_41 ?_
      refine J_get C fl_X7_52 (by first | assumption | exact jv_up_at _ _ _ | (simp [jv_up, *]; done)) (by rfl) dX7_resembling_43 ?_
      refine J_bipush C (v := nI 9) (by decide) dX7_resembling_46 ?_
      refine J_mmin C cw_X7_55 (by have := (ht w hw e hew).1; omega) (by omega) (by decide) (by exact Nat.le_of_ble_eq_true rfl) (by omega) (by omega) dX7_resembling_48 ?_
      first | refine J_aload_n C rfl dX7_resembling_51 ?_ | refine J_aload_nq C rfl dX7_resembling_51 ?_ | refine J_aload_nN C rfl dX7_resembling_51 ?_
      first | refine J_aload C rfl dX7_resembling_52 ?_ | refine J_aloadq C rfl dX7_resembling_52 ?_ | refine J_aloadN C rfl dX7_resembling_52 ?_
      refine J_callV C (c_Lib_rarity B1 hw (hpd w hw)) cw_X7_61 (by first | assumption | exact jv_up_at _ _ _ | (simp [jv_up, *]; done)) rfl rfl rfl rfl (by exact Nat.le_of_ble_eq_true rfl) (by decide) (by omega) (by omega) dX7_resembling_54 ?_
      rintro _ h9 ⟨rfl, e9⟩
      replace e9 := e9.symm
      subst e9
      first | refine J_nimul C dX7_resembling_57 ?_ | refine J_imul C dX7_resembling_57 ?_
      refine J_iconst C (v := nI 0) (by decide) dX7_resembling_58 ?_
      refine J_callV C (c_Search_reward B1 S1 hw (ht w hw) (nI (min (tm w e) 9 * sp_rar DL.length (PD w).length)) (nI 0)) cw_X7_67 (by first | assumption | exact jv_up_at _ _ _ | (simp [jv_up, *]; done)) rfl rfl rfl rfl (by exact Nat.le_of_ble_eq_true rfl) (by decide) (by omega) (by omega) dX7_resembling_59 ?_
      rintro _ h2 ⟨rfl, F2, P2⟩
      have hp2 : h2 (pa w e) = some (psO (some w) (some e) (tm w e) (prv (PD w) (pa w) k) (nxt (PD w) (pa w) k) ((QW e)[i+1]?.map (fun u => pa u e))) := by
        refine (srP_up G1 S1.1 F2 (fun c fs z => ?_) ⟨_, hp⟩).trans hp
        rw [hp] at z; cases z
        exact ⟨by decide, by decide⟩
      first | refine J_aload C rfl dX7_resembling_62 ?_ | refine J_aloadq C rfl dX7_resembling_62 ?_ | refine J_aloadN C rfl dX7_resembling_62 ?_
      refine J_get C fl_X7_71 (by first | assumption | exact jv_up_at _ _ _ | (simp [jv_up, *]; done)) (by rfl) dX7_resembling_64 ?_
      first | refine J_astoreq C (by decide) dX7_resembling_67 ?_ | refine J_astore C (by decide) dX7_resembling_67 ?_ | refine J_astoreN C (by decide) dX7_resembling_67 ?_
      refine J_goto C 21 (by decide) dX7_resembling_69 ?_
      refine J_sub (by exact (And.intro rfl (And.intro rfl (And.intro rfl (And.intro rfl (And.intro rfl trivial)))))) (ih (i + 1) (srE DL.length PD tm len e p w) h2 hrest ⟨fr_tr F F2, P2⟩ he)
  first | refine J_aload_n C rfl dX7_resembling_0 ?_ | refine J_aload_nq C rfl dX7_resembling_0 ?_ | refine J_aload_nN C rfl dX7_resembling_0 ?_
  refine J_iconst C (v := nI 0) (by decide) dX7_resembling_1 ?_
  refine J_put C fl_X7_9 (by first | assumption | exact jv_up_at _ _ _ | (simp [jv_up, *]; done)) (by exact Nat.le_of_ble_eq_true rfl) (by rfl) (by rfl) dX7_resembling_2 ?_
  refine J_eq (st1 := [])  (h1 := jv_up h s (srO M[0]? 0)) rfl rfl ?_
  obtain ⟨S1, G1⟩ := sm_nd S 0 G
  have s11 := S1.1
  first | refine J_aload_n C rfl dX7_resembling_5 ?_ | refine J_aload_nq C rfl dX7_resembling_5 ?_ | refine J_aload_nN C rfl dX7_resembling_5 ?_
  first | refine J_aload_n C rfl dX7_resembling_6 ?_ | refine J_aload_nq C rfl dX7_resembling_6 ?_ | refine J_aload_nN C rfl dX7_resembling_6 ?_
  refine J_callV C (c_Search_meet S1 G1 hed) cw_X7_32 (by first | assumption | exact jv_up_at _ _ _ | (simp [jv_up, *]; done)) rfl rfl rfl rfl (by exact Nat.le_of_ble_eq_true rfl) (by decide) (by omega) (by omega) dX7_resembling_7 ?_
  rintro _ h2 ⟨rfl, F2, sf2, S2, G2⟩
  have S2' : sm h2 s (srM (M, st) e).1 0 DL sf2 (srM (M, st) e).2 := S2
  obtain ⟨z, hz⟩ := sm_sf S2' (srM_mem (M, st) e)
  have gd := G2 e hed
  obtain ⟨S3, G3⟩ := sm_set S2' G2 (srM_mem (M, st) e) (true, ((srM (M, st) e).2 e).2)
  rw [hz] at S3 G3 gd
  first | refine J_aload_n C rfl dX7_resembling_10 ?_ | refine J_aload_nq C rfl dX7_resembling_10 ?_ | refine J_aload_nN C rfl dX7_resembling_10 ?_
  refine J_iconst C (v := nI 1) (by decide) dX7_resembling_11 ?_
  refine J_put C fl_X7_36 (by first | assumption | exact jv_up_at _ _ _ | (simp [jv_up, *]; done)) (by exact Nat.le_of_ble_eq_true rfl) (by rfl) (by rfl) dX7_resembling_12 ?_
  refine J_eq (st1 := []) (h1 := jv_up h2 e (dcO (num e) (len e) (fi e) (true, true, ((srM (M, st) e).2 e).2.1, ((srM (M, st) e).2 e).2.2, z))) rfl rfl ?_
  have g3 := G3 e hed
  rw [show va_up sf2 e (true, true, ((srM (M, st) e).2 e).2.1, ((srM (M, st) e).2 e).2.2, z) e = (true, true, ((srM (M, st) e).2 e).2.1, ((srM (M, st) e).2 e).2.2, z) from if_pos rfl] at g3
  first | refine J_aload_n C rfl dX7_resembling_15 ?_ | refine J_aload_nq C rfl dX7_resembling_15 ?_ | refine J_aload_nN C rfl dX7_resembling_15 ?_
  refine J_get C fl_X7_42 (by first | assumption | exact jv_up_at _ _ _ | (simp [jv_up, *]; done)) (by rfl) dX7_resembling_16 ?_
  first | refine J_astoreq C (by decide) dX7_resembling_19 ?_ | refine J_astore C (by decide) dX7_resembling_19 ?_ | refine J_astoreN C (by decide) dX7_resembling_19 ?_
  have L0 := loop (QW e) 0 (srBar (M, st) e) _ rfl ⟨fr_tr (fr_tr (fr_up (Or.inl rfl)) F2) (fr_up (Or.inr hed)), _, S3, G3⟩ rfl
  rw [← hfi] at L0
  refine J_sub (by exact (And.intro rfl (And.intro rfl (And.intro rfl (And.intro rfl (And.intro rfl trivial)))))) (L0)
end RESEM
