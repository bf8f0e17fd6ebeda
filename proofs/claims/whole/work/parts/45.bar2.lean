section BAR2
variable {l : jL} {h h1 : jH} {b da dd dc x xa xd xc s : Nat} {DL W SW SP M : List Nat} {lt : Nat → Int64} {num len : Nat → Nat} {PD QW : Nat → List Nat} {tot : Nat → Nat} {tm pa : Nat → Nat → Nat} {nx : Nat → Nat → Option Nat} {fi : Nat → Option Nat} {sf : Nat → sfT} {n : Nat} {nd : Int32} {st : Nat → Bool × Int32 × Int32}
/-- the state of a search after some steps -/
def srP (h : jH) (s : Nat) (nd : Int32) (D : List Nat) (num len : Nat → Nat) (fi : Nat → Option Nat) (p : srT) (h1 : jH) : Prop :=
  fr (fun y => y = s ∨ y ∈ D) h h1 ∧ ∃ sf', sm h1 s p.1 nd D sf' p.2 ∧ gD h1 D num len fi sf'
set_option maxHeartbeats 400000 in
theorem c_Search_bar (B : lib0 l h b da dd dc x xa xd xc DL W SW SP lt num len PD QW tot tm pa nx fi sf n) (S : sm h s M nd DL sf st) {w : Nat} (hw : w ∈ W) : Cn l yX7_bar cX7_bar 4 none 2 0 0 [.ref s, .ref w] h (fun r h1 => r = none ∧ srP h s nd DL num len fi ((PD w).foldl srBar (M, st)) h1) := by
  obtain ⟨sp, hwc⟩ := B.2.2.2.2.1 w hw
  have GP := B.2.2.2.2.2.1 w hw
  have hs := S.1
  have hnot : ∀ {y c : Nat} {fs : List Value}, h y = some (.inr (c, fs)) → c ≠ 6 → c ≠ 1 → ¬ (y = s ∨ y ∈ DL) := by
    intro y c fs e c6 c1 z
    rcases z with z | z
    · exact jv_neO e hs c6 z
    · exact jv_neO e (B.2.2.2.2.2.2.1 y z) c1 rfl
  refine Cn.of (own := RX7) rfl (by decide) (by exact Nat.le_of_ble_eq_true rfl) (by decide) (fun K hK C D I => ?_)
  have loop : ∀ (L : List Nat) (i : Nat) (p : srT) (h' : jH), (PD w).drop i = L → srP h s nd DL num len fi p h' → L.foldl srBar p = (PD w).foldl srBar (M, st) → J K 0 0 5 (jv_l [(2, va_rf ((PD w)[i]?.map (pa w))), (1, .ref w), (0, .ref s)]) [] h' := by
    intro L
    induction L with
    | nil =>
      intro i p h' hL P he
      have : (PD w)[i]? = none := by
        have := List.drop_eq_nil_iff.mp hL
        exact List.getElem?_eq_none this
      rw [this]
      first | refine J_aload_n C rfl dX7_bar_5 ?_ | refine J_aload_nq C rfl dX7_bar_5 ?_ | refine J_aload_nN C rfl dX7_bar_5 ?_
      refine J_ifnull (x := none) C 36 (by decide) dX7_bar_6 (fun _ => ?_) (fun q z => by cases z)
      refine J_vret C D ⟨rfl, by rw [← he]; exact P⟩ (by omega) (by omega) dX7_bar_36
    | cons d rest ih =>
      intro i p h' hL P he
      have hi : (PD w)[i]? = some d := by
        have := congrArg (fun L => L[0]?) hL
        rw [List.getElem?_drop] at this
        exact this
      have hd : d ∈ DL := ((B.2.2.2.2.2.2.2.1.1 w hw).2 d (List.mem_of_getElem? hi)).1
      have hrest : (PD w).drop (i + 1) = rest := by
        rw [← List.tail_drop, hL]; rfl
      obtain ⟨F, sf1, S1, G1⟩ := P
      have hp0 := GP i d hi
      have hp := (F _ (hnot hp0 (by decide) (by decide))).trans hp0
      have s11 := S1.1
      rw [hi]
      first | refine J_aload_n C rfl dX7_bar_5 ?_ | refine J_aload_nq C rfl dX7_bar_5 ?_ | refine J_aload_nN C rfl dX7_bar_5 ?_
      refine J_ifnull (x := some (pa w d)) C 36 (by decide) dX7_bar_6 (fun z => by cases z) (fun _ _ => ?_)
      first | refine J_aload_n C rfl dX7_bar_9 ?_ | refine J_aload_nq C rfl dX7_bar_9 ?_ | refine J_aload_nN C rfl dX7_bar_9 ?_
      refine J_get C fl_X7_119 (by first | assumption | exact jv_up_at _ _ _ | (simp [jv_up, *]; done)) (by rfl) dX7_bar_10 ?_
      first | refine J_astore_nq C (by decide) dX7_bar_13 ?_ | refine J_astore_n C (by decide) dX7_bar_13 ?_ | refine J_astore_nN C (by decide) dX7_bar_13 ?_
      first | refine J_aload_n C rfl dX7_bar_14 ?_ | refine J_aload_nq C rfl dX7_bar_14 ?_ | refine J_aload_nN C rfl dX7_bar_14 ?_
      refine J_ifnull (x := some d) C 28 (by decide) dX7_bar_15 (fun z => by cases z) (fun _ _ => ?_)
      first | refine J_aload_n C rfl dX7_bar_18 ?_ | refine J_aload_nq C rfl dX7_bar_18 ?_ | refine J_aload_nN C rfl dX7_bar_18 ?_
      first | refine J_aload_n C rfl dX7_bar_19 ?_ | refine J_aload_nq C rfl dX7_bar_19 ?_ | refine J_aload_nN C rfl dX7_bar_19 ?_
      refine J_callV C (c_Search_meet S1 G1 hd) cw_X7_32 (by first | assumption | exact jv_up_at _ _ _ | (simp [jv_up, *]; done)) rfl rfl rfl rfl (by exact Nat.le_of_ble_eq_true rfl) (by decide) (by omega) (by omega) dX7_bar_20 ?_
      rintro _ h2 ⟨rfl, F2, sf2, S2, G2⟩
      have S2' : sm h2 s (srM p d).1 nd DL sf2 (srM p d).2 := S2
      obtain ⟨z, hz⟩ := sm_sf S2' (srM_mem p d)
      have gd := G2 d hd
      first | refine J_aload_n C rfl dX7_bar_23 ?_ | refine J_aload_nq C rfl dX7_bar_23 ?_ | refine J_aload_nN C rfl dX7_bar_23 ?_
      refine J_iconst C (v := nI 1) (by decide) dX7_bar_24 ?_
      refine J_put C fl_X7_36 (by first | assumption | exact jv_up_at _ _ _ | (simp [jv_up, *]; done)) (by exact Nat.le_of_ble_eq_true rfl) (by rfl) (by rfl) dX7_bar_25 ?_
      obtain ⟨S3, G3⟩ := sm_set S2' G2 (srM_mem p d) (true, ((srM p d).2 d).2)
      rw [hz] at S3 G3 gd
      have hp2 : jv_up h2 d (dcO (num d) (len d) (fi d) (true, true, ((srM p d).2 d).2.1, ((srM p d).2 d).2.2, z)) (pa w d) = some (psO (some w) (some d) (tm w d) (prv (PD w) (pa w) i) (nxt (PD w) (pa w) i) (nx w d)) := by
        refine jv_up_of (jv_neO hp0 (B.2.2.2.2.2.2.1 d hd) (by decide)) ((F2 _ ?_).trans hp)
        exact hnot hp0 (by decide) (by decide)
      rw [hz]
      refine J_eq (st1 := []) (h1 := jv_up h2 d (dcO (num d) (len d) (fi d) (true, true, ((srM p d).2 d).2.1, ((srM p d).2 d).2.2, z))) rfl rfl ?_
      first | refine J_aload_n C rfl dX7_bar_28 ?_ | refine J_aload_nq C rfl dX7_bar_28 ?_ | refine J_aload_nN C rfl dX7_bar_28 ?_
      refine J_get C fl_X7_132 (by first | assumption | exact jv_up_at _ _ _ | (simp [jv_up, *]; done)) (by rfl) dX7_bar_29 ?_
      first | refine J_astore_nq C (by decide) dX7_bar_32 ?_ | refine J_astore_n C (by decide) dX7_bar_32 ?_ | refine J_astore_nN C (by decide) dX7_bar_32 ?_
      refine J_goto C 5 (by decide) dX7_bar_33 ?_
      refine J_sub (by exact (And.intro rfl (And.intro rfl (And.intro rfl trivial)))) (ih (i + 1) (srBar p d) _ hrest ⟨fr_tr (fr_tr F F2) (fr_up (Or.inr hd)), _, S3, G3⟩ he)
  first | refine J_aload_n C rfl dX7_bar_0 ?_ | refine J_aload_nq C rfl dX7_bar_0 ?_ | refine J_aload_nN C rfl dX7_bar_0 ?_
  refine J_get C fl_X7_118 (by first | assumption | exact jv_up_at _ _ _ | (simp [jv_up, *]; done)) (by rfl) dX7_bar_1 ?_
  first | refine J_astore_nq C (by decide) dX7_bar_4 ?_ | refine J_astore_n C (by decide) dX7_bar_4 ?_ | refine J_astore_nN C (by decide) dX7_bar_4 ?_
  refine J_sub (by exact (And.intro rfl (And.intro rfl (And.intro rfl trivial)))) (loop (PD w) 0 (M, st) h rfl ⟨fr_rf _ _, sf, S, B.2.2.2.2.2.2.1⟩ rfl)
end BAR2
