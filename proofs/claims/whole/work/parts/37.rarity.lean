/-- how many bits a number has, at most 31 -/
def sp_bit (q : Nat) : Nat → Nat → Nat
  | 0, k => k
  | m + 1, k => if q / 2 ^ k = 0 then k else sp_bit q m (k + 1)
def sp_rar (d hold : Nat) : Nat := if hold < 1 then 0 else sp_bit (d / hold) 31 0
theorem sp_smod : ∀ k : Nat, k < 32 → ((nI k &&& 31).toBitVec.smod 32).toNat = k := by decide +kernel
section RARITY
variable {l : jL} {h h1 : jH} {b da dd dc x xa xd xc : Nat} {DL W SW SP : List Nat} {lt : Nat → Int64} {num len : Nat → Nat} {PD QW : Nat → List Nat} {tot : Nat → Nat} {tm pa : Nat → Nat → Nat} {nx : Nat → Nat → Option Nat} {fi : Nat → Option Nat} {sf : Nat → sfT} {n : Nat}
set_option maxHeartbeats 400000 in
theorem c_Lib_rarity (B : lib0 l h b da dd dc x xa xd xc DL W SW SP lt num len PD QW tot tm pa nx fi sf n) {w : Nat} (hw : w ∈ W) (hl : (PD w).length ≤ 60000) : Cn l yX4_rarity cX4_rarity 4 (some .int) 2 0 0 [.ref b, .ref w] h (fun r h1 => r = some (.int (nI (sp_rar DL.length (PD w).length))) ∧ h1 = h) := by
  obtain ⟨x1, x2, x3, x4, x5, x6, x7, -⟩ := B
  obtain ⟨mcn, a1, -⟩ := id x2
  obtain ⟨sp, hwc⟩ := x5 w hw
  have hlen := al_len x2
  refine Cn.of (own := RX4) rfl (by decide) (by exact Nat.le_of_ble_eq_true rfl) (by decide) (fun K hK C D I => ?_)
  rw [← hK] at x2
  first | refine J_aload_n C rfl dX4_rarity_0 ?_ | refine J_aload_nq C rfl dX4_rarity_0 ?_ | refine J_aload_nN C rfl dX4_rarity_0 ?_
  refine J_get C fl_X4_80 (by first | assumption | exact jv_up_at _ _ _ | (simp [jv_up, *]; done)) (by rfl) dX4_rarity_1 ?_
  refine J_iconst C (v := nI 1) (by decide) dX4_rarity_4 ?_
  refine J_nicmp_ge C (by first | omega | (dsimp only; omega)) (by first | omega | (dsimp only; omega)) 10 (by decide) dX4_rarity_5 (fun z => ?_) (fun z => ?_)
  · first | refine J_aload_n C rfl dX4_rarity_10 ?_ | refine J_aload_nq C rfl dX4_rarity_10 ?_ | refine J_aload_nN C rfl dX4_rarity_10 ?_
    refine J_get C fl_X4_12 (by first | assumption | exact jv_up_at _ _ _ | (simp [jv_up, *]; done)) (by rfl) dX4_rarity_11 ?_
    refine J_callV C (c_AL_size x2) cw_X4_25 (by first | assumption | exact jv_up_at _ _ _ | (simp [jv_up, *]; done)) rfl rfl rfl rfl (by exact Nat.le_of_ble_eq_true rfl) (by decide) (by omega) (by omega) dX4_rarity_14 ?_
    rintro _ h9 ⟨rfl, e9⟩
    replace e9 := e9.symm
    subst e9
    first | refine J_aload_n C rfl dX4_rarity_17 ?_ | refine J_aload_nq C rfl dX4_rarity_17 ?_ | refine J_aload_nN C rfl dX4_rarity_17 ?_
    refine J_get C fl_X4_80 (by first | assumption | exact jv_up_at _ _ _ | (simp [jv_up, *]; done)) (by rfl) dX4_rarity_18 ?_
    refine J_nidiv C (by omega) (by omega) (by omega) dX4_rarity_21 ?_
    refine J_istore_n C (by decide) dX4_rarity_22 ?_
    refine J_iconst C (v := nI 0) (by decide) dX4_rarity_23 ?_
    refine J_istore_n C (by decide) dX4_rarity_24 ?_
    have hq : DL.length / (PD w).length ≤ 60000 := Nat.le_trans (Nat.div_le_self _ _) hlen
    have loop : ∀ (m k : Nat), k + m = 31 → sp_bit (DL.length / (PD w).length) 31 0 = sp_bit (DL.length / (PD w).length) m k → J K 0 0 25 (jv_l [(3, .int (nI k)), (2, .int (nI (DL.length / (PD w).length))), (1, .ref w), (0, .ref b)]) [] h := by
      intro m
      induction m with
      | zero =>
        intro k hk he
        refine J_iload_n C rfl dX4_rarity_25 ?_
        refine J_bipush C (v := nI 31) (by decide) dX4_rarity_26 ?_
        refine J_nicmp_ge C (by first | omega | (dsimp only; omega)) (by first | omega | (dsimp only; omega)) 43 (by decide) dX4_rarity_28 (fun z2 => ?_) (fun z2 => ?_)
        · refine J_iload_n C rfl dX4_rarity_43 ?_
          refine J_iret C D ⟨by unfold sp_rar; rw [if_neg (by omega), he]; rfl, rfl⟩ (by omega) (by omega) dX4_rarity_44
        · omega
      | succ m ih =>
        intro k hk he
        refine J_iload_n C rfl dX4_rarity_25 ?_
        refine J_bipush C (v := nI 31) (by decide) dX4_rarity_26 ?_
        refine J_nicmp_ge C (by first | omega | (dsimp only; omega)) (by first | omega | (dsimp only; omega)) 43 (by decide) dX4_rarity_28 (fun z2 => ?_) (fun z2 => ?_)
        · omega
        · refine J_iload_n C rfl dX4_rarity_31 ?_
          refine J_iload_n C rfl dX4_rarity_32 ?_
          refine J_ishr C dX4_rarity_33 ?_
          rw [pk_shrN (Nat.lt_of_le_of_lt hq (by decide)) (nI k &&& 31) k (sp_smod k (by omega))]
          have hq2 : DL.length / (PD w).length / 2 ^ k < 2147483648 := Nat.lt_of_le_of_lt (Nat.div_le_self _ _) (Nat.lt_of_le_of_lt hq (by decide))
          refine J_nif_eq C hq2 43 (by decide) dX4_rarity_34 (fun z3 => ?_) (fun z3 => ?_)
          · refine J_iload_n C rfl dX4_rarity_43 ?_
            refine J_iret C D ⟨by unfold sp_rar; rw [if_neg (by omega), he]; unfold sp_bit; rw [if_pos z3], rfl⟩ (by omega) (by omega) dX4_rarity_44
          · first | refine J_niinc (b := 1) C rfl (by decide) dX4_rarity_37 ?_ | refine J_iinc C rfl (by decide) dX4_rarity_37 ?_
            refine J_goto C 25 (by decide) dX4_rarity_40 ?_
            refine J_sub (by exact (And.intro rfl (And.intro rfl (And.intro rfl (And.intro rfl trivial))))) (ih (k + 1) (by omega) (by rw [he]; show (if _ then _ else _) = _; rw [if_neg (by omega)]))
    refine J_sub (by exact (And.intro rfl (And.intro rfl (And.intro rfl (And.intro rfl trivial))))) (loop 31 0 (by omega) rfl)
  · refine J_iconst C (v := nI 0) (by decide) dX4_rarity_8 ?_
    refine J_iret C D ⟨by unfold sp_rar; rw [if_pos z], rfl⟩ (by omega) (by omega) dX4_rarity_9
/-- a document without words leaves the list -/
theorem lib0_drop (B : lib0 l h b da dd dc x xa xd xc DL W SW SP lt num len PD QW tot tm pa nx fi sf n) {i e : Nat} (hi : DL[i]? = some e) (hq : QW e = []) (A1 : al l h1 1 da dd dc (DL.eraseIdx i)) (F : fr (fun y => y = da ∨ y = dd) h h1) :
    lib0 l h1 b da dd dc x xa xd xc (DL.eraseIdx i) W SW SP lt num len PD QW tot tm pa nx fi sf n ∧ fr (lc h) h h1 := by
  obtain ⟨b1, b2, b3, b4, b5, b6, b7, b8, b9, b10, b11⟩ := B
  have hdc : dc ≠ 0 := by
    obtain ⟨mcn, a1, a2, a3⟩ := id b2
    rcases a3 with ⟨_, q, _⟩ | ⟨c1, _⟩
    · rw [q] at hi; cases hi
    · omega
  obtain ⟨⟨xf, xa1⟩, xd1⟩ := al_ad b3.2.1
  obtain ⟨⟨df, da1⟩, dd1⟩ := al_ad b2
  obtain ⟨f9, dd1⟩ := dd1 hdc
  have hm : ∀ v, v ∈ DL.eraseIdx i ↔ v ∈ DL ∧ v ≠ e := fun v => mem_erase_iff b11 hi v
  have keep : ∀ {y c : Nat} {fs : List Value}, h y = some (.inr (c, fs)) → (c = 12 → y ≠ da) → h1 y = h y := by
    intro y c fs e9 c3
    refine F y (fun z => ?_)
    rcases z with z | z
    · by_cases q : c = 12
      · exact c3 q z
      · exact jv_neO e9 da1 q z
    · exact jv_neA e9 dd1 z
  refine ⟨⟨(keep b1 (fun q => by cases q)).trans b1, A1, lx_up b3 (keep b3.1 (fun q => by cases q)) (keep xa1 (fun _ => b4.1.symm)) (fun hc => ?_) (fun u hu => ?_) (fun u hu => ?_), b4, fun u hu => ?_, fun u hu j v hv => ?_, fun v hv => ?_, ⟨fun u hu => ⟨(b8.1 u hu).1, fun v hv => ?_⟩, fun v hv => b8.2 v ((hm v).mp hv).1⟩, ⟨fun j q hj => ?_, b9.2⟩, b10, nodup_erase b11 i⟩, fun y hy => F y (fun z => ?_)⟩
  · obtain ⟨f, f1⟩ := xd1 hc
    refine F xd (fun z => ?_)
    rcases z with z | z
    · exact jv_neA da1 f1 z.symm
    · exact b4.2 hdc hc z.symm
  · obtain ⟨c1, c2, c3, c4, c5⟩ := b3.2.2.1 u hu
    exact ⟨c1, c2, c3, c4, (keep c5 (fun q => by cases q)).trans c5⟩
  · obtain ⟨j, hj⟩ := List.getElem?_of_mem hu
    obtain ⟨c1, c2, c3, c4, c5⟩ := b3.2.2.2.2.1 j u hj
    exact keep c5 (fun q => by cases q)
  · obtain ⟨sp9, h9⟩ := b5 u hu
    exact ⟨sp9, (keep h9 (fun q => by cases q)).trans h9⟩
  · have h9 := b6 u hu j v hv
    exact (keep h9 (fun q => by cases q)).trans h9
  · have h9 := b7 v ((hm v).mp hv).1
    exact (keep h9 (fun q => by cases q)).trans h9
  · obtain ⟨q1, q2⟩ := (b8.1 u hu).2 v hv
    exact ⟨(hm v).mpr ⟨q1, fun z => by rw [z, hq] at q2; cases q2⟩, q2⟩
  · obtain ⟨t9, p1, p2, p3⟩ := b9.1 j q hj
    exact ⟨t9, p1, p2, (keep p3 (fun q => by cases q)).trans p3⟩
  · rcases z with z | z
    · exact hy (lc_O (z ▸ da1) (by simp))
    · exact hy (lc_A (z ▸ dd1))
end RARITY
