/-! the model: a new one -/
def dnP (h hk : jH) (m : Nat) (L : List (Nat × jE)) : Prop := exR m h hk ∧ (L.map (·.1)).Nodup ∧ ∀ p ∈ L, hk p.1 = some p.2 ∧ h p.1 = none ∧ p.1 ≠ m
theorem dn_step {h hk : jH} {m q : Nat} {L : List (Nat × jE)} {o o' x : jE} (D : dnP h hk m L) (hm : hk m = some o) (h0 : ∃ z, h m = some z) (hq : hk q = none) : dnP h (jv_up (jv_up hk q x) m o') m (L ++ [(q, x)]) ∧ jv_up (jv_up hk q x) m o' m = some o' := by
  obtain ⟨d1, d2, d3⟩ := D
  have nqm : q ≠ m := fun z => by rw [z, hm] at hq; cases hq
  refine ⟨⟨fun y z e n => ?_, ?_, fun p hp => ?_⟩, jv_up_at _ _ _⟩
  · have e1 := d1 y z e n
    exact jv_up_of n (jv_up_of (fun c => by rw [c, hq] at e1; cases e1) e1)
  · rw [List.map_append]
    refine List.nodup_append.mpr ⟨d2, List.nodup_cons.mpr ⟨List.not_mem_nil, List.nodup_nil⟩, fun a ha b hb z => ?_⟩
    obtain ⟨p, hp, rfl⟩ := List.mem_map.mp ha
    have t := (d3 p hp).1
    rw [z, show b = q from List.mem_singleton.mp hb, hq] at t
    cases t
  · rcases List.mem_append.mp hp with z | z
    · obtain ⟨e1, e2, e3⟩ := d3 p z
      exact ⟨jv_up_of e3 (jv_up_of (fun c => by rw [c, hq] at e1; cases e1) e1), e2, e3⟩
    · rw [List.mem_singleton.mp z]
      refine ⟨jv_up_of nqm (jv_up_at _ _ _), ?_, nqm⟩
      cases e : h q with
      | none => rfl
      | some z =>
        have := d1 q z e nqm
        rw [hq] at this
        cases this
theorem dn_put {h hk : jH} {m : Nat} {L : List (Nat × jE)} {o' : jE} (D : dnP h hk m L) : dnP h (jv_up hk m o') m L ∧ jv_up hk m o' m = some o' :=
  ⟨⟨fun y z e n => jv_up_of n (D.1 y z e n), D.2.1, fun p hp => ⟨jv_up_of (D.2.2 p hp).2.2 (D.2.2 p hp).1, (D.2.2 p hp).2⟩⟩, jv_up_at _ _ _⟩
def mdPos (k : Nat) : Nat := [2, 4, 5, 6, 8, 10, 11, 12, 13, 14, 18, 20, 21, 23, 24, 25, 26].idxOf k
theorem mdPos_lt (k : Nat) (h : mdK k = true) : mdPos k < 17 := by
  have : k ∈ [2, 4, 5, 6, 8, 10, 11, 12, 13, 14, 18, 20, 21, 23, 24, 25, 26] := List.contains_iff_mem.mp h
  exact List.idxOf_lt_length_iff.mpr this
theorem mdPos_inj {i k : Nat} (hi : mdK i = true) (hk : mdK k = true) (e : mdPos i = mdPos k) : i = k := by
  have key : ∀ i ∈ [2, 4, 5, 6, 8, 10, 11, 12, 13, 14, 18, 20, 21, 23, 24, 25, 26], ∀ k ∈ [2, 4, 5, 6, 8, 10, 11, 12, 13, 14, 18, 20, 21, 23, 24, 25, 26], mdPos i = mdPos k → i = k := by decide
  exact key i (List.contains_iff_mem.mp hi) k (List.contains_iff_mem.mp hk) e
set_option maxHeartbeats 4000000 in
theorem c_M_init {l : jL} {h : jH} {m : Nat} (hh : h m = some (.inr (11, [.int 0, .int 0, .null, .int 0, .null, .null, .null, .int 0, .null, .int 0, .null, .null, .null, .null, .null, .int 0, .int 0, .int 0, .null, .int 0, .null, .null, .int 0, .null, .null, .null, .null]))) : Cn l yX12_init cX12_init 1 none 2 17 139596 [.ref m] h (fun r h1 => r = none ∧ exR m h h1 ∧ ∃ A, (∀ k, mdK k = true → h (A k) = none) ∧ mdI h1 m A 0 (fun _ => 0) [] 0 (-1) [] 0) := by
  refine Cn.of (own := RX12) rfl (by decide) (by exact Nat.le_of_ble_eq_true rfl) (by decide) (fun K hK C D I => ?_)
  have h00 : ∃ z, h m = some z := ⟨_, hh⟩
  have S0 : dnP h h m [] := ⟨fun y z e n => e, List.nodup_nil, fun p hp => by cases hp⟩
  have o0 := hh
  first | refine J_aload_n C rfl dX12_init_0 ?_ | refine J_aload_nq C rfl dX12_init_0 ?_ | refine J_aload_nN C rfl dX12_init_0 ?_
  refine J_objInit C ml_X12_1 oi_inst oi_code (by decide) (by exact Nat.le_of_ble_eq_true rfl) dX12_init_1 ?_
  first | refine J_aload_n C rfl dX12_init_4 ?_ | refine J_aload_nq C rfl dX12_init_4 ?_ | refine J_aload_nN C rfl dX12_init_4 ?_
  refine J_sipush C (v := nI 400) (by decide) dX12_init_5 ?_
  refine J_newI C ac_int (N := 400) rfl (by decide) (by decide) (by omega) (by omega) dX12_init_8 (fun a2 ha2 => ?_)
  have Sn := dn_step (o' := .inr (11, [.int 0, .int 0, .ref a2, .int 0, .null, .null, .null, .int 0, .null, .int 0, .null, .null, .null, .null, .null, .int 0, .int 0, .int 0, .null, .int 0, .null, .null, .int 0, .null, .null, .null, .null])) (x := .inl (0, 400, .inl (fun _ => 0))) S0 o0 h00 ha2
  have nma2 : m ≠ a2 := fun z => by rw [← z, o0] at ha2; cases ha2
  have ou0 := jv_up_of (x := .inl (0, 400, .inl (fun _ => 0))) nma2 o0
  refine J_putF C I fl_X12_7 rfl rfl (by first | assumption | exact jv_up_at _ _ _ | (simp [jv_up, *]; done)) (by exact Nat.le_of_ble_eq_true rfl) (by first | rfl | exact jv_nar_a _ _) (by first | rfl | exact jv_fit_a _ _) fw_X12_7 dX12_init_10 ?_
  obtain ⟨h1, e1⟩ : ∃ hz, hz = jv_up (jv_up h a2 (.inl (0, 400, .inl (fun _ => 0)))) m (.inr (11, [.int 0, .int 0, .ref a2, .int 0, .null, .null, .null, .int 0, .null, .int 0, .null, .null, .null, .null, .null, .int 0, .int 0, .int 0, .null, .int 0, .null, .null, .int 0, .null, .null, .null, .null])) := ⟨_, rfl⟩
  rw [← e1] at Sn
  refine J_eq (st1 := []) (h1 := h1) rfl e1 ?_
  clear e1 ou0
  obtain ⟨S1, o1⟩ := Sn
  first | refine J_aload_n C rfl dX12_init_13 ?_ | refine J_aload_nq C rfl dX12_init_13 ?_ | refine J_aload_nN C rfl dX12_init_13 ?_
  refine J_bipush C (v := nI 120) (by decide) dX12_init_14 ?_
  refine J_newI C ac_int (N := 120) rfl (by decide) (by decide) (by omega) (by omega) dX12_init_16 (fun a4 ha4 => ?_)
  have Sn := dn_step (o' := .inr (11, [.int 0, .int 0, .ref a2, .int 0, .ref a4, .null, .null, .int 0, .null, .int 0, .null, .null, .null, .null, .null, .int 0, .int 0, .int 0, .null, .int 0, .null, .null, .int 0, .null, .null, .null, .null])) (x := .inl (0, 120, .inl (fun _ => 0))) S1 o1 h00 ha4
  have nma4 : m ≠ a4 := fun z => by rw [← z, o1] at ha4; cases ha4
  have ou1 := jv_up_of (x := .inl (0, 120, .inl (fun _ => 0))) nma4 o1
  refine J_putF C I fl_X12_13 rfl rfl (by first | assumption | exact jv_up_at _ _ _ | (simp [jv_up, *]; done)) (by exact Nat.le_of_ble_eq_true rfl) (by first | rfl | exact jv_nar_a _ _) (by first | rfl | exact jv_fit_a _ _) fw_X12_13 dX12_init_18 ?_
  obtain ⟨h2, e2⟩ : ∃ hz, hz = jv_up (jv_up h1 a4 (.inl (0, 120, .inl (fun _ => 0)))) m (.inr (11, [.int 0, .int 0, .ref a2, .int 0, .ref a4, .null, .null, .int 0, .null, .int 0, .null, .null, .null, .null, .null, .int 0, .int 0, .int 0, .null, .int 0, .null, .null, .int 0, .null, .null, .null, .null])) := ⟨_, rfl⟩
  rw [← e2] at Sn
  refine J_eq (st1 := []) (h1 := h2) rfl e2 ?_
  clear e2 ou1
  obtain ⟨S2, o2⟩ := Sn
  first | refine J_aload_n C rfl dX12_init_21 ?_ | refine J_aload_nq C rfl dX12_init_21 ?_ | refine J_aload_nN C rfl dX12_init_21 ?_
  refine J_bipush C (v := nI 120) (by decide) dX12_init_22 ?_
  refine J_newI C ac_int (N := 120) rfl (by decide) (by decide) (by omega) (by omega) dX12_init_24 (fun a5 ha5 => ?_)
  have Sn := dn_step (o' := .inr (11, [.int 0, .int 0, .ref a2, .int 0, .ref a4, .ref a5, .null, .int 0, .null, .int 0, .null, .null, .null, .null, .null, .int 0, .int 0, .int 0, .null, .int 0, .null, .null, .int 0, .null, .null, .null, .null])) (x := .inl (0, 120, .inl (fun _ => 0))) S2 o2 h00 ha5
  have nma5 : m ≠ a5 := fun z => by rw [← z, o2] at ha5; cases ha5
  have ou2 := jv_up_of (x := .inl (0, 120, .inl (fun _ => 0))) nma5 o2
  refine J_putF C I fl_X12_16 rfl rfl (by first | assumption | exact jv_up_at _ _ _ | (simp [jv_up, *]; done)) (by exact Nat.le_of_ble_eq_true rfl) (by first | rfl | exact jv_nar_a _ _) (by first | rfl | exact jv_fit_a _ _) fw_X12_16 dX12_init_26 ?_
  obtain ⟨h3, e3⟩ : ∃ hz, hz = jv_up (jv_up h2 a5 (.inl (0, 120, .inl (fun _ => 0)))) m (.inr (11, [.int 0, .int 0, .ref a2, .int 0, .ref a4, .ref a5, .null, .int 0, .null, .int 0, .null, .null, .null, .null, .null, .int 0, .int 0, .int 0, .null, .int 0, .null, .null, .int 0, .null, .null, .null, .null])) := ⟨_, rfl⟩
  rw [← e3] at Sn
  refine J_eq (st1 := []) (h1 := h3) rfl e3 ?_
  clear e3 ou2
  obtain ⟨S3, o3⟩ := Sn
  first | refine J_aload_n C rfl dX12_init_29 ?_ | refine J_aload_nq C rfl dX12_init_29 ?_ | refine J_aload_nN C rfl dX12_init_29 ?_
  refine J_sipush C (v := nI 24000) (by decide) dX12_init_30 ?_
  refine J_newJ C ac_long (N := 24000) rfl (by decide) (by decide) (by omega) (by omega) dX12_init_33 (fun a6 ha6 => ?_)
  have Sn := dn_step (o' := .inr (11, [.int 0, .int 0, .ref a2, .int 0, .ref a4, .ref a5, .ref a6, .int 0, .null, .int 0, .null, .null, .null, .null, .null, .int 0, .int 0, .int 0, .null, .int 0, .null, .null, .int 0, .null, .null, .null, .null])) (x := .inl (3, 24000, .inr (.inl (fun _ => 0)))) S3 o3 h00 ha6
  have nma6 : m ≠ a6 := fun z => by rw [← z, o3] at ha6; cases ha6
  have ou3 := jv_up_of (x := .inl (3, 24000, .inr (.inl (fun _ => 0)))) nma6 o3
  refine J_putF C I fl_X12_19 rfl rfl (by first | assumption | exact jv_up_at _ _ _ | (simp [jv_up, *]; done)) (by exact Nat.le_of_ble_eq_true rfl) (by first | rfl | exact jv_nar_a _ _) (by first | rfl | exact jv_fit_a _ _) fw_X12_19 dX12_init_35 ?_
  obtain ⟨h4, e4⟩ : ∃ hz, hz = jv_up (jv_up h3 a6 (.inl (3, 24000, .inr (.inl (fun _ => 0))))) m (.inr (11, [.int 0, .int 0, .ref a2, .int 0, .ref a4, .ref a5, .ref a6, .int 0, .null, .int 0, .null, .null, .null, .null, .null, .int 0, .int 0, .int 0, .null, .int 0, .null, .null, .int 0, .null, .null, .null, .null])) := ⟨_, rfl⟩
  rw [← e4] at Sn
  refine J_eq (st1 := []) (h1 := h4) rfl e4 ?_
  clear e4 ou3
  obtain ⟨S4, o4⟩ := Sn
  first | refine J_aload_n C rfl dX12_init_38 ?_ | refine J_aload_nq C rfl dX12_init_38 ?_ | refine J_aload_nN C rfl dX12_init_38 ?_
  refine J_sipush C (v := nI 200) (by decide) dX12_init_39 ?_
  refine J_newJ C ac_long (N := 200) rfl (by decide) (by decide) (by omega) (by omega) dX12_init_42 (fun a8 ha8 => ?_)
  have Sn := dn_step (o' := .inr (11, [.int 0, .int 0, .ref a2, .int 0, .ref a4, .ref a5, .ref a6, .int 0, .ref a8, .int 0, .null, .null, .null, .null, .null, .int 0, .int 0, .int 0, .null, .int 0, .null, .null, .int 0, .null, .null, .null, .null])) (x := .inl (3, 200, .inr (.inl (fun _ => 0)))) S4 o4 h00 ha8
  have nma8 : m ≠ a8 := fun z => by rw [← z, o4] at ha8; cases ha8
  have ou4 := jv_up_of (x := .inl (3, 200, .inr (.inl (fun _ => 0)))) nma8 o4
  refine J_putF C I fl_X12_23 rfl rfl (by first | assumption | exact jv_up_at _ _ _ | (simp [jv_up, *]; done)) (by exact Nat.le_of_ble_eq_true rfl) (by first | rfl | exact jv_nar_a _ _) (by first | rfl | exact jv_fit_a _ _) fw_X12_23 dX12_init_44 ?_
  obtain ⟨h5, e5⟩ : ∃ hz, hz = jv_up (jv_up h4 a8 (.inl (3, 200, .inr (.inl (fun _ => 0))))) m (.inr (11, [.int 0, .int 0, .ref a2, .int 0, .ref a4, .ref a5, .ref a6, .int 0, .ref a8, .int 0, .null, .null, .null, .null, .null, .int 0, .int 0, .int 0, .null, .int 0, .null, .null, .int 0, .null, .null, .null, .null])) := ⟨_, rfl⟩
  rw [← e5] at Sn
  refine J_eq (st1 := []) (h1 := h5) rfl e5 ?_
  clear e5 ou4
  obtain ⟨S5, o5⟩ := Sn
  first | refine J_aload_n C rfl dX12_init_47 ?_ | refine J_aload_nq C rfl dX12_init_47 ?_ | refine J_aload_nN C rfl dX12_init_47 ?_
  refine J_sipush C (v := nI 200) (by decide) dX12_init_48 ?_
  refine J_newJ C ac_long (N := 200) rfl (by decide) (by decide) (by omega) (by omega) dX12_init_51 (fun a10 ha10 => ?_)
  have Sn := dn_step (o' := .inr (11, [.int 0, .int 0, .ref a2, .int 0, .ref a4, .ref a5, .ref a6, .int 0, .ref a8, .int 0, .ref a10, .null, .null, .null, .null, .int 0, .int 0, .int 0, .null, .int 0, .null, .null, .int 0, .null, .null, .null, .null])) (x := .inl (3, 200, .inr (.inl (fun _ => 0)))) S5 o5 h00 ha10
  have nma10 : m ≠ a10 := fun z => by rw [← z, o5] at ha10; cases ha10
  have ou5 := jv_up_of (x := .inl (3, 200, .inr (.inl (fun _ => 0)))) nma10 o5
  refine J_putF C I fl_X12_26 rfl rfl (by first | assumption | exact jv_up_at _ _ _ | (simp [jv_up, *]; done)) (by exact Nat.le_of_ble_eq_true rfl) (by first | rfl | exact jv_nar_a _ _) (by first | rfl | exact jv_fit_a _ _) fw_X12_26 dX12_init_53 ?_
  obtain ⟨h6, e6⟩ : ∃ hz, hz = jv_up (jv_up h5 a10 (.inl (3, 200, .inr (.inl (fun _ => 0))))) m (.inr (11, [.int 0, .int 0, .ref a2, .int 0, .ref a4, .ref a5, .ref a6, .int 0, .ref a8, .int 0, .ref a10, .null, .null, .null, .null, .int 0, .int 0, .int 0, .null, .int 0, .null, .null, .int 0, .null, .null, .null, .null])) := ⟨_, rfl⟩
  rw [← e6] at Sn
  refine J_eq (st1 := []) (h1 := h6) rfl e6 ?_
  clear e6 ou5
  obtain ⟨S6, o6⟩ := Sn
  first | refine J_aload_n C rfl dX12_init_56 ?_ | refine J_aload_nq C rfl dX12_init_56 ?_ | refine J_aload_nN C rfl dX12_init_56 ?_
  refine J_sipush C (v := nI 200) (by decide) dX12_init_57 ?_
  refine J_newI C ac_int (N := 200) rfl (by decide) (by decide) (by omega) (by omega) dX12_init_60 (fun a11 ha11 => ?_)
  have Sn := dn_step (o' := .inr (11, [.int 0, .int 0, .ref a2, .int 0, .ref a4, .ref a5, .ref a6, .int 0, .ref a8, .int 0, .ref a10, .ref a11, .null, .null, .null, .int 0, .int 0, .int 0, .null, .int 0, .null, .null, .int 0, .null, .null, .null, .null])) (x := .inl (0, 200, .inl (fun _ => 0))) S6 o6 h00 ha11
  have nma11 : m ≠ a11 := fun z => by rw [← z, o6] at ha11; cases ha11
  have ou6 := jv_up_of (x := .inl (0, 200, .inl (fun _ => 0))) nma11 o6
  refine J_putF C I fl_X12_29 rfl rfl (by first | assumption | exact jv_up_at _ _ _ | (simp [jv_up, *]; done)) (by exact Nat.le_of_ble_eq_true rfl) (by first | rfl | exact jv_nar_a _ _) (by first | rfl | exact jv_fit_a _ _) fw_X12_29 dX12_init_62 ?_
  obtain ⟨h7, e7⟩ : ∃ hz, hz = jv_up (jv_up h6 a11 (.inl (0, 200, .inl (fun _ => 0)))) m (.inr (11, [.int 0, .int 0, .ref a2, .int 0, .ref a4, .ref a5, .ref a6, .int 0, .ref a8, .int 0, .ref a10, .ref a11, .null, .null, .null, .int 0, .int 0, .int 0, .null, .int 0, .null, .null, .int 0, .null, .null, .null, .null])) := ⟨_, rfl⟩
  rw [← e7] at Sn
  refine J_eq (st1 := []) (h1 := h7) rfl e7 ?_
  clear e7 ou6
  obtain ⟨S7, o7⟩ := Sn
  first | refine J_aload_n C rfl dX12_init_65 ?_ | refine J_aload_nq C rfl dX12_init_65 ?_ | refine J_aload_nN C rfl dX12_init_65 ?_
  refine J_sipush C (v := nI 200) (by decide) dX12_init_66 ?_
  refine J_newZ C ac_boolean (N := 200) rfl (by decide) (by decide) (by omega) (by omega) dX12_init_69 (fun a12 ha12 => ?_)
  have Sn := dn_step (o' := .inr (11, [.int 0, .int 0, .ref a2, .int 0, .ref a4, .ref a5, .ref a6, .int 0, .ref a8, .int 0, .ref a10, .ref a11, .ref a12, .null, .null, .int 0, .int 0, .int 0, .null, .int 0, .null, .null, .int 0, .null, .null, .null, .null])) (x := .inl (2, 200, .inl (fun _ => 0))) S7 o7 h00 ha12
  have nma12 : m ≠ a12 := fun z => by rw [← z, o7] at ha12; cases ha12
  have ou7 := jv_up_of (x := .inl (2, 200, .inl (fun _ => 0))) nma12 o7
  refine J_putF C I fl_X12_32 rfl rfl (by first | assumption | exact jv_up_at _ _ _ | (simp [jv_up, *]; done)) (by exact Nat.le_of_ble_eq_true rfl) (by first | rfl | exact jv_nar_a _ _) (by first | rfl | exact jv_fit_a _ _) fw_X12_32 dX12_init_71 ?_
  obtain ⟨h8, e8⟩ : ∃ hz, hz = jv_up (jv_up h7 a12 (.inl (2, 200, .inl (fun _ => 0)))) m (.inr (11, [.int 0, .int 0, .ref a2, .int 0, .ref a4, .ref a5, .ref a6, .int 0, .ref a8, .int 0, .ref a10, .ref a11, .ref a12, .null, .null, .int 0, .int 0, .int 0, .null, .int 0, .null, .null, .int 0, .null, .null, .null, .null])) := ⟨_, rfl⟩
  rw [← e8] at Sn
  refine J_eq (st1 := []) (h1 := h8) rfl e8 ?_
  clear e8 ou7
  obtain ⟨S8, o8⟩ := Sn
  first | refine J_aload_n C rfl dX12_init_74 ?_ | refine J_aload_nq C rfl dX12_init_74 ?_ | refine J_aload_nN C rfl dX12_init_74 ?_
  refine J_sipush C (v := nI 200) (by decide) dX12_init_75 ?_
  refine J_newI C ac_int (N := 200) rfl (by decide) (by decide) (by omega) (by omega) dX12_init_78 (fun a13 ha13 => ?_)
  have Sn := dn_step (o' := .inr (11, [.int 0, .int 0, .ref a2, .int 0, .ref a4, .ref a5, .ref a6, .int 0, .ref a8, .int 0, .ref a10, .ref a11, .ref a12, .ref a13, .null, .int 0, .int 0, .int 0, .null, .int 0, .null, .null, .int 0, .null, .null, .null, .null])) (x := .inl (0, 200, .inl (fun _ => 0))) S8 o8 h00 ha13
  have nma13 : m ≠ a13 := fun z => by rw [← z, o8] at ha13; cases ha13
  have ou8 := jv_up_of (x := .inl (0, 200, .inl (fun _ => 0))) nma13 o8
  refine J_putF C I fl_X12_36 rfl rfl (by first | assumption | exact jv_up_at _ _ _ | (simp [jv_up, *]; done)) (by exact Nat.le_of_ble_eq_true rfl) (by first | rfl | exact jv_nar_a _ _) (by first | rfl | exact jv_fit_a _ _) fw_X12_36 dX12_init_80 ?_
  obtain ⟨h9, e9⟩ : ∃ hz, hz = jv_up (jv_up h8 a13 (.inl (0, 200, .inl (fun _ => 0)))) m (.inr (11, [.int 0, .int 0, .ref a2, .int 0, .ref a4, .ref a5, .ref a6, .int 0, .ref a8, .int 0, .ref a10, .ref a11, .ref a12, .ref a13, .null, .int 0, .int 0, .int 0, .null, .int 0, .null, .null, .int 0, .null, .null, .null, .null])) := ⟨_, rfl⟩
  rw [← e9] at Sn
  refine J_eq (st1 := []) (h1 := h9) rfl e9 ?_
  clear e9 ou8
  obtain ⟨S9, o9⟩ := Sn
  first | refine J_aload_n C rfl dX12_init_83 ?_ | refine J_aload_nq C rfl dX12_init_83 ?_ | refine J_aload_nN C rfl dX12_init_83 ?_
  refine J_sipush C (v := nI 200) (by decide) dX12_init_84 ?_
  refine J_newI C ac_int (N := 200) rfl (by decide) (by decide) (by omega) (by omega) dX12_init_87 (fun a14 ha14 => ?_)
  have Sn := dn_step (o' := .inr (11, [.int 0, .int 0, .ref a2, .int 0, .ref a4, .ref a5, .ref a6, .int 0, .ref a8, .int 0, .ref a10, .ref a11, .ref a12, .ref a13, .ref a14, .int 0, .int 0, .int 0, .null, .int 0, .null, .null, .int 0, .null, .null, .null, .null])) (x := .inl (0, 200, .inl (fun _ => 0))) S9 o9 h00 ha14
  have nma14 : m ≠ a14 := fun z => by rw [← z, o9] at ha14; cases ha14
  have ou9 := jv_up_of (x := .inl (0, 200, .inl (fun _ => 0))) nma14 o9
  refine J_putF C I fl_X12_39 rfl rfl (by first | assumption | exact jv_up_at _ _ _ | (simp [jv_up, *]; done)) (by exact Nat.le_of_ble_eq_true rfl) (by first | rfl | exact jv_nar_a _ _) (by first | rfl | exact jv_fit_a _ _) fw_X12_39 dX12_init_89 ?_
  obtain ⟨h10, e10⟩ : ∃ hz, hz = jv_up (jv_up h9 a14 (.inl (0, 200, .inl (fun _ => 0)))) m (.inr (11, [.int 0, .int 0, .ref a2, .int 0, .ref a4, .ref a5, .ref a6, .int 0, .ref a8, .int 0, .ref a10, .ref a11, .ref a12, .ref a13, .ref a14, .int 0, .int 0, .int 0, .null, .int 0, .null, .null, .int 0, .null, .null, .null, .null])) := ⟨_, rfl⟩
  rw [← e10] at Sn
  refine J_eq (st1 := []) (h1 := h10) rfl e10 ?_
  clear e10 ou9
  obtain ⟨S10, o10⟩ := Sn
  first | refine J_aload_n C rfl dX12_init_92 ?_ | refine J_aload_nq C rfl dX12_init_92 ?_ | refine J_aload_nN C rfl dX12_init_92 ?_
  refine J_iconst C (v := (-1)) (by decide) dX12_init_93 ?_
  first | refine J_mput C fl_X12_42 (by first | assumption | exact jv_up_at _ _ _) (by decide) (by rfl) (by rfl) dX12_init_94 ?_ | refine J_put C fl_X12_42 (by first | assumption | exact jv_up_at _ _ _ | (simp [jv_up, *]; done)) (by exact Nat.le_of_ble_eq_true rfl) (by rfl) (by rfl) dX12_init_94 ?_
  have Sp := dn_put (o' := .inr (11, [.int 0, .int 0, .ref a2, .int 0, .ref a4, .ref a5, .ref a6, .int 0, .ref a8, .int 0, .ref a10, .ref a11, .ref a12, .ref a13, .ref a14, .int 0, .int 0, .int (-1), .null, .int 0, .null, .null, .int 0, .null, .null, .null, .null])) S10
  obtain ⟨hp, ep⟩ : ∃ hp, hp = jv_up h10 m (.inr (11, [.int 0, .int 0, .ref a2, .int 0, .ref a4, .ref a5, .ref a6, .int 0, .ref a8, .int 0, .ref a10, .ref a11, .ref a12, .ref a13, .ref a14, .int 0, .int 0, .int (-1), .null, .int 0, .null, .null, .int 0, .null, .null, .null, .null])) := ⟨_, rfl⟩
  rw [← ep] at Sp
  refine J_eq (st1 := []) (h1 := hp) rfl ep ?_
  clear ep
  obtain ⟨S10, o10⟩ := Sp
  first | refine J_aload_n C rfl dX12_init_97 ?_ | refine J_aload_nq C rfl dX12_init_97 ?_ | refine J_aload_nN C rfl dX12_init_97 ?_
  refine J_bipush C (v := nI 120) (by decide) dX12_init_98 ?_
  refine J_newI C ac_int (N := 120) rfl (by decide) (by decide) (by omega) (by omega) dX12_init_100 (fun a18 ha18 => ?_)
  have Sn := dn_step (o' := .inr (11, [.int 0, .int 0, .ref a2, .int 0, .ref a4, .ref a5, .ref a6, .int 0, .ref a8, .int 0, .ref a10, .ref a11, .ref a12, .ref a13, .ref a14, .int 0, .int 0, .int (-1), .ref a18, .int 0, .null, .null, .int 0, .null, .null, .null, .null])) (x := .inl (0, 120, .inl (fun _ => 0))) S10 o10 h00 ha18
  have nma18 : m ≠ a18 := fun z => by rw [← z, o10] at ha18; cases ha18
  have ou10 := jv_up_of (x := .inl (0, 120, .inl (fun _ => 0))) nma18 o10
  refine J_putF C I fl_X12_46 rfl rfl (by first | assumption | exact jv_up_at _ _ _ | (simp [jv_up, *]; done)) (by exact Nat.le_of_ble_eq_true rfl) (by first | rfl | exact jv_nar_a _ _) (by first | rfl | exact jv_fit_a _ _) fw_X12_46 dX12_init_102 ?_
  obtain ⟨h11, e11⟩ : ∃ hz, hz = jv_up (jv_up hp a18 (.inl (0, 120, .inl (fun _ => 0)))) m (.inr (11, [.int 0, .int 0, .ref a2, .int 0, .ref a4, .ref a5, .ref a6, .int 0, .ref a8, .int 0, .ref a10, .ref a11, .ref a12, .ref a13, .ref a14, .int 0, .int 0, .int (-1), .ref a18, .int 0, .null, .null, .int 0, .null, .null, .null, .null])) := ⟨_, rfl⟩
  rw [← e11] at Sn
  refine J_eq (st1 := []) (h1 := h11) rfl e11 ?_
  clear e11 ou10
  obtain ⟨S11, o11⟩ := Sn
  first | refine J_aload_n C rfl dX12_init_105 ?_ | refine J_aload_nq C rfl dX12_init_105 ?_ | refine J_aload_nN C rfl dX12_init_105 ?_
  refine J_bipush C (v := nI 50) (by decide) dX12_init_106 ?_
  refine J_newI C ac_int (N := 50) rfl (by decide) (by decide) (by omega) (by omega) dX12_init_108 (fun a20 ha20 => ?_)
  have Sn := dn_step (o' := .inr (11, [.int 0, .int 0, .ref a2, .int 0, .ref a4, .ref a5, .ref a6, .int 0, .ref a8, .int 0, .ref a10, .ref a11, .ref a12, .ref a13, .ref a14, .int 0, .int 0, .int (-1), .ref a18, .int 0, .ref a20, .null, .int 0, .null, .null, .null, .null])) (x := .inl (0, 50, .inl (fun _ => 0))) S11 o11 h00 ha20
  have nma20 : m ≠ a20 := fun z => by rw [← z, o11] at ha20; cases ha20
  have ou11 := jv_up_of (x := .inl (0, 50, .inl (fun _ => 0))) nma20 o11
  refine J_putF C I fl_X12_49 rfl rfl (by first | assumption | exact jv_up_at _ _ _ | (simp [jv_up, *]; done)) (by exact Nat.le_of_ble_eq_true rfl) (by first | rfl | exact jv_nar_a _ _) (by first | rfl | exact jv_fit_a _ _) fw_X12_49 dX12_init_110 ?_
  obtain ⟨h12, e12⟩ : ∃ hz, hz = jv_up (jv_up h11 a20 (.inl (0, 50, .inl (fun _ => 0)))) m (.inr (11, [.int 0, .int 0, .ref a2, .int 0, .ref a4, .ref a5, .ref a6, .int 0, .ref a8, .int 0, .ref a10, .ref a11, .ref a12, .ref a13, .ref a14, .int 0, .int 0, .int (-1), .ref a18, .int 0, .ref a20, .null, .int 0, .null, .null, .null, .null])) := ⟨_, rfl⟩
  rw [← e12] at Sn
  refine J_eq (st1 := []) (h1 := h12) rfl e12 ?_
  clear e12 ou11
  obtain ⟨S12, o12⟩ := Sn
  first | refine J_aload_n C rfl dX12_init_113 ?_ | refine J_aload_nq C rfl dX12_init_113 ?_ | refine J_aload_nN C rfl dX12_init_113 ?_
  refine J_bipush C (v := nI 50) (by decide) dX12_init_114 ?_
  refine J_newI C ac_int (N := 50) rfl (by decide) (by decide) (by omega) (by omega) dX12_init_116 (fun a21 ha21 => ?_)
  have Sn := dn_step (o' := .inr (11, [.int 0, .int 0, .ref a2, .int 0, .ref a4, .ref a5, .ref a6, .int 0, .ref a8, .int 0, .ref a10, .ref a11, .ref a12, .ref a13, .ref a14, .int 0, .int 0, .int (-1), .ref a18, .int 0, .ref a20, .ref a21, .int 0, .null, .null, .null, .null])) (x := .inl (0, 50, .inl (fun _ => 0))) S12 o12 h00 ha21
  have nma21 : m ≠ a21 := fun z => by rw [← z, o12] at ha21; cases ha21
  have ou12 := jv_up_of (x := .inl (0, 50, .inl (fun _ => 0))) nma21 o12
  refine J_putF C I fl_X12_52 rfl rfl (by first | assumption | exact jv_up_at _ _ _ | (simp [jv_up, *]; done)) (by exact Nat.le_of_ble_eq_true rfl) (by first | rfl | exact jv_nar_a _ _) (by first | rfl | exact jv_fit_a _ _) fw_X12_52 dX12_init_118 ?_
  obtain ⟨h13, e13⟩ : ∃ hz, hz = jv_up (jv_up h12 a21 (.inl (0, 50, .inl (fun _ => 0)))) m (.inr (11, [.int 0, .int 0, .ref a2, .int 0, .ref a4, .ref a5, .ref a6, .int 0, .ref a8, .int 0, .ref a10, .ref a11, .ref a12, .ref a13, .ref a14, .int 0, .int 0, .int (-1), .ref a18, .int 0, .ref a20, .ref a21, .int 0, .null, .null, .null, .null])) := ⟨_, rfl⟩
  rw [← e13] at Sn
  refine J_eq (st1 := []) (h1 := h13) rfl e13 ?_
  clear e13 ou12
  obtain ⟨S13, o13⟩ := Sn
  first | refine J_aload_n C rfl dX12_init_121 ?_ | refine J_aload_nq C rfl dX12_init_121 ?_ | refine J_aload_nN C rfl dX12_init_121 ?_
  refine J_sipush C (v := nI 24000) (by decide) dX12_init_122 ?_
  refine J_newZ C ac_boolean (N := 24000) rfl (by decide) (by decide) (by omega) (by omega) dX12_init_125 (fun a23 ha23 => ?_)
  have Sn := dn_step (o' := .inr (11, [.int 0, .int 0, .ref a2, .int 0, .ref a4, .ref a5, .ref a6, .int 0, .ref a8, .int 0, .ref a10, .ref a11, .ref a12, .ref a13, .ref a14, .int 0, .int 0, .int (-1), .ref a18, .int 0, .ref a20, .ref a21, .int 0, .ref a23, .null, .null, .null])) (x := .inl (2, 24000, .inl (fun _ => 0))) S13 o13 h00 ha23
  have nma23 : m ≠ a23 := fun z => by rw [← z, o13] at ha23; cases ha23
  have ou13 := jv_up_of (x := .inl (2, 24000, .inl (fun _ => 0))) nma23 o13
  refine J_putF C I fl_X12_55 rfl rfl (by first | assumption | exact jv_up_at _ _ _ | (simp [jv_up, *]; done)) (by exact Nat.le_of_ble_eq_true rfl) (by first | rfl | exact jv_nar_a _ _) (by first | rfl | exact jv_fit_a _ _) fw_X12_55 dX12_init_127 ?_
  obtain ⟨h14, e14⟩ : ∃ hz, hz = jv_up (jv_up h13 a23 (.inl (2, 24000, .inl (fun _ => 0)))) m (.inr (11, [.int 0, .int 0, .ref a2, .int 0, .ref a4, .ref a5, .ref a6, .int 0, .ref a8, .int 0, .ref a10, .ref a11, .ref a12, .ref a13, .ref a14, .int 0, .int 0, .int (-1), .ref a18, .int 0, .ref a20, .ref a21, .int 0, .ref a23, .null, .null, .null])) := ⟨_, rfl⟩
  rw [← e14] at Sn
  refine J_eq (st1 := []) (h1 := h14) rfl e14 ?_
  clear e14 ou13
  obtain ⟨S14, o14⟩ := Sn
  first | refine J_aload_n C rfl dX12_init_130 ?_ | refine J_aload_nq C rfl dX12_init_130 ?_ | refine J_aload_nN C rfl dX12_init_130 ?_
  refine J_sipush C (v := nI 24000) (by decide) dX12_init_131 ?_
  refine J_newI C ac_int (N := 24000) rfl (by decide) (by decide) (by omega) (by omega) dX12_init_134 (fun a24 ha24 => ?_)
  have Sn := dn_step (o' := .inr (11, [.int 0, .int 0, .ref a2, .int 0, .ref a4, .ref a5, .ref a6, .int 0, .ref a8, .int 0, .ref a10, .ref a11, .ref a12, .ref a13, .ref a14, .int 0, .int 0, .int (-1), .ref a18, .int 0, .ref a20, .ref a21, .int 0, .ref a23, .ref a24, .null, .null])) (x := .inl (0, 24000, .inl (fun _ => 0))) S14 o14 h00 ha24
  have nma24 : m ≠ a24 := fun z => by rw [← z, o14] at ha24; cases ha24
  have ou14 := jv_up_of (x := .inl (0, 24000, .inl (fun _ => 0))) nma24 o14
  refine J_putF C I fl_X12_58 rfl rfl (by first | assumption | exact jv_up_at _ _ _ | (simp [jv_up, *]; done)) (by exact Nat.le_of_ble_eq_true rfl) (by first | rfl | exact jv_nar_a _ _) (by first | rfl | exact jv_fit_a _ _) fw_X12_58 dX12_init_136 ?_
  obtain ⟨h15, e15⟩ : ∃ hz, hz = jv_up (jv_up h14 a24 (.inl (0, 24000, .inl (fun _ => 0)))) m (.inr (11, [.int 0, .int 0, .ref a2, .int 0, .ref a4, .ref a5, .ref a6, .int 0, .ref a8, .int 0, .ref a10, .ref a11, .ref a12, .ref a13, .ref a14, .int 0, .int 0, .int (-1), .ref a18, .int 0, .ref a20, .ref a21, .int 0, .ref a23, .ref a24, .null, .null])) := ⟨_, rfl⟩
  rw [← e15] at Sn
  refine J_eq (st1 := []) (h1 := h15) rfl e15 ?_
  clear e15 ou14
  obtain ⟨S15, o15⟩ := Sn
  first | refine J_aload_n C rfl dX12_init_139 ?_ | refine J_aload_nq C rfl dX12_init_139 ?_ | refine J_aload_nN C rfl dX12_init_139 ?_
  refine J_ldc C (v := nI 32768) kc_X12_61 dX12_init_140 ?_
  refine J_newJ C ac_long (N := 32768) rfl (by decide) (by decide) (by omega) (by omega) dX12_init_142 (fun a25 ha25 => ?_)
  have Sn := dn_step (o' := .inr (11, [.int 0, .int 0, .ref a2, .int 0, .ref a4, .ref a5, .ref a6, .int 0, .ref a8, .int 0, .ref a10, .ref a11, .ref a12, .ref a13, .ref a14, .int 0, .int 0, .int (-1), .ref a18, .int 0, .ref a20, .ref a21, .int 0, .ref a23, .ref a24, .ref a25, .null])) (x := .inl (3, 32768, .inr (.inl (fun _ => 0)))) S15 o15 h00 ha25
  have nma25 : m ≠ a25 := fun z => by rw [← z, o15] at ha25; cases ha25
  have ou15 := jv_up_of (x := .inl (3, 32768, .inr (.inl (fun _ => 0)))) nma25 o15
  refine J_putF C I fl_X12_62 rfl rfl (by first | assumption | exact jv_up_at _ _ _ | (simp [jv_up, *]; done)) (by exact Nat.le_of_ble_eq_true rfl) (by first | rfl | exact jv_nar_a _ _) (by first | rfl | exact jv_fit_a _ _) fw_X12_62 dX12_init_144 ?_
  obtain ⟨h16, e16⟩ : ∃ hz, hz = jv_up (jv_up h15 a25 (.inl (3, 32768, .inr (.inl (fun _ => 0))))) m (.inr (11, [.int 0, .int 0, .ref a2, .int 0, .ref a4, .ref a5, .ref a6, .int 0, .ref a8, .int 0, .ref a10, .ref a11, .ref a12, .ref a13, .ref a14, .int 0, .int 0, .int (-1), .ref a18, .int 0, .ref a20, .ref a21, .int 0, .ref a23, .ref a24, .ref a25, .null])) := ⟨_, rfl⟩
  rw [← e16] at Sn
  refine J_eq (st1 := []) (h1 := h16) rfl e16 ?_
  clear e16 ou15
  obtain ⟨S16, o16⟩ := Sn
  first | refine J_aload_n C rfl dX12_init_147 ?_ | refine J_aload_nq C rfl dX12_init_147 ?_ | refine J_aload_nN C rfl dX12_init_147 ?_
  refine J_ldc C (v := nI 32768) kc_X12_61 dX12_init_148 ?_
  refine J_newI C ac_int (N := 32768) rfl (by decide) (by decide) (by omega) (by omega) dX12_init_150 (fun a26 ha26 => ?_)
  have Sn := dn_step (o' := .inr (11, [.int 0, .int 0, .ref a2, .int 0, .ref a4, .ref a5, .ref a6, .int 0, .ref a8, .int 0, .ref a10, .ref a11, .ref a12, .ref a13, .ref a14, .int 0, .int 0, .int (-1), .ref a18, .int 0, .ref a20, .ref a21, .int 0, .ref a23, .ref a24, .ref a25, .ref a26])) (x := .inl (0, 32768, .inl (fun _ => 0))) S16 o16 h00 ha26
  have nma26 : m ≠ a26 := fun z => by rw [← z, o16] at ha26; cases ha26
  have ou16 := jv_up_of (x := .inl (0, 32768, .inl (fun _ => 0))) nma26 o16
  refine J_putF C I fl_X12_65 rfl rfl (by first | assumption | exact jv_up_at _ _ _ | (simp [jv_up, *]; done)) (by exact Nat.le_of_ble_eq_true rfl) (by first | rfl | exact jv_nar_a _ _) (by first | rfl | exact jv_fit_a _ _) fw_X12_65 dX12_init_152 ?_
  obtain ⟨h17, e17⟩ : ∃ hz, hz = jv_up (jv_up h16 a26 (.inl (0, 32768, .inl (fun _ => 0)))) m (.inr (11, [.int 0, .int 0, .ref a2, .int 0, .ref a4, .ref a5, .ref a6, .int 0, .ref a8, .int 0, .ref a10, .ref a11, .ref a12, .ref a13, .ref a14, .int 0, .int 0, .int (-1), .ref a18, .int 0, .ref a20, .ref a21, .int 0, .ref a23, .ref a24, .ref a25, .ref a26])) := ⟨_, rfl⟩
  rw [← e17] at Sn
  refine J_eq (st1 := []) (h1 := h17) rfl e17 ?_
  clear e17 ou16
  obtain ⟨S17, o17⟩ := Sn
  have SS := S17.2.2
  have hA : ∀ k, mdK k = true → ([a2, a4, a5, a6, a8, a10, a11, a12, a13, a14, a18, a20, a21, a23, a24, a25, a26].getD (mdPos k) 0, k) ∈ [(a2, 2), (a4, 4), (a5, 5), (a6, 6), (a8, 8), (a10, 10), (a11, 11), (a12, 12), (a13, 13), (a14, 14), (a18, 18), (a20, 20), (a21, 21), (a23, 23), (a24, 24), (a25, 25), (a26, 26)] := by
    intro k hk
    have : k ∈ [2, 4, 5, 6, 8, 10, 11, 12, 13, 14, 18, 20, 21, 23, 24, 25, 26] := List.contains_iff_mem.mp hk
    simp only [List.mem_cons, List.not_mem_nil, or_false] at this
    rcases this with e | e | e | e | e | e | e | e | e | e | e | e | e | e | e | e | e <;> subst e <;> simp [mdPos, List.idxOf, List.findIdx, List.findIdx.go]
  have nd := S17.2.1
  refine J_vret C D ⟨rfl, S17.1, fun k => [a2, a4, a5, a6, a8, a10, a11, a12, a13, a14, a18, a20, a21, a23, a24, a25, a26].getD (mdPos k) 0, fun k hk => ?_, fun k => if k = 17 then -1 else 0, fun _ _ => 0, fun _ _ => 0, ⟨o17, fun k x e => ?_, fun i k hi hk e => ?_⟩, ⟨rfl, Nat.zero_le _, fun i hi => absurd hi (Nat.not_lt_zero i)⟩, ⟨rfl, Nat.zero_le _, fun d p hd => by cases hd⟩, Or.inl rfl, rfl, rfl, ⟨rfl, Nat.zero_le _, fun i x hi => by cases hi⟩, rfl⟩ (by omega) (by omega) dX12_init_155
  · have := hA k hk
    show h ([a2, a4, a5, a6, a8, a10, a11, a12, a13, a14, a18, a20, a21, a23, a24, a25, a26].getD (mdPos k) 0) = none
    simp only [List.mem_cons, List.not_mem_nil, or_false, Prod.mk.injEq] at this
    rcases this with e | e | e | e | e | e | e | e | e | e | e | e | e | e | e | e | e <;> rw [e.1]
    all_goals first
      | exact (SS (a2, .inl (0, 400, .inl (fun _ => 0))) (by simp)).2.1
      | exact (SS (a4, .inl (0, 120, .inl (fun _ => 0))) (by simp)).2.1
      | exact (SS (a5, .inl (0, 120, .inl (fun _ => 0))) (by simp)).2.1
      | exact (SS (a6, .inl (3, 24000, .inr (.inl (fun _ => 0)))) (by simp)).2.1
      | exact (SS (a8, .inl (3, 200, .inr (.inl (fun _ => 0)))) (by simp)).2.1
      | exact (SS (a10, .inl (3, 200, .inr (.inl (fun _ => 0)))) (by simp)).2.1
      | exact (SS (a11, .inl (0, 200, .inl (fun _ => 0))) (by simp)).2.1
      | exact (SS (a12, .inl (2, 200, .inl (fun _ => 0))) (by simp)).2.1
      | exact (SS (a13, .inl (0, 200, .inl (fun _ => 0))) (by simp)).2.1
      | exact (SS (a14, .inl (0, 200, .inl (fun _ => 0))) (by simp)).2.1
      | exact (SS (a18, .inl (0, 120, .inl (fun _ => 0))) (by simp)).2.1
      | exact (SS (a20, .inl (0, 50, .inl (fun _ => 0))) (by simp)).2.1
      | exact (SS (a21, .inl (0, 50, .inl (fun _ => 0))) (by simp)).2.1
      | exact (SS (a23, .inl (2, 24000, .inl (fun _ => 0))) (by simp)).2.1
      | exact (SS (a24, .inl (0, 24000, .inl (fun _ => 0))) (by simp)).2.1
      | exact (SS (a25, .inl (3, 32768, .inr (.inl (fun _ => 0)))) (by simp)).2.1
      | exact (SS (a26, .inl (0, 32768, .inl (fun _ => 0))) (by simp)).2.1
  · unfold mdR at e
    split at e <;> cases e
    · exact (SS (a2, .inl (0, 400, .inl (fun _ => 0))) (by simp)).1
    · exact (SS (a4, .inl (0, 120, .inl (fun _ => 0))) (by simp)).1
    · exact (SS (a5, .inl (0, 120, .inl (fun _ => 0))) (by simp)).1
    · exact (SS (a6, .inl (3, 24000, .inr (.inl (fun _ => 0)))) (by simp)).1
    · exact (SS (a8, .inl (3, 200, .inr (.inl (fun _ => 0)))) (by simp)).1
    · exact (SS (a10, .inl (3, 200, .inr (.inl (fun _ => 0)))) (by simp)).1
    · exact (SS (a11, .inl (0, 200, .inl (fun _ => 0))) (by simp)).1
    · exact (SS (a12, .inl (2, 200, .inl (fun _ => 0))) (by simp)).1
    · exact (SS (a13, .inl (0, 200, .inl (fun _ => 0))) (by simp)).1
    · exact (SS (a14, .inl (0, 200, .inl (fun _ => 0))) (by simp)).1
    · exact (SS (a18, .inl (0, 120, .inl (fun _ => 0))) (by simp)).1
    · exact (SS (a20, .inl (0, 50, .inl (fun _ => 0))) (by simp)).1
    · exact (SS (a21, .inl (0, 50, .inl (fun _ => 0))) (by simp)).1
    · exact (SS (a23, .inl (2, 24000, .inl (fun _ => 0))) (by simp)).1
    · exact (SS (a24, .inl (0, 24000, .inl (fun _ => 0))) (by simp)).1
    · exact (SS (a25, .inl (3, 32768, .inr (.inl (fun _ => 0)))) (by simp)).1
    · exact (SS (a26, .inl (0, 32768, .inl (fun _ => 0))) (by simp)).1
  · have h1 := mdPos_lt i hi
    have h2 := mdPos_lt k hk
    refine mdPos_inj hi hk ?_
    have nd : [a2, a4, a5, a6, a8, a10, a11, a12, a13, a14, a18, a20, a21, a23, a24, a25, a26].Nodup := nd
    have g1 : [a2, a4, a5, a6, a8, a10, a11, a12, a13, a14, a18, a20, a21, a23, a24, a25, a26][mdPos i]? = some ([a2, a4, a5, a6, a8, a10, a11, a12, a13, a14, a18, a20, a21, a23, a24, a25, a26].getD (mdPos i) 0) := by rw [List.getD_eq_getElem?_getD, List.getElem?_eq_getElem (show mdPos i < 17 from h1)]; rfl
    have g2 : [a2, a4, a5, a6, a8, a10, a11, a12, a13, a14, a18, a20, a21, a23, a24, a25, a26][mdPos k]? = some ([a2, a4, a5, a6, a8, a10, a11, a12, a13, a14, a18, a20, a21, a23, a24, a25, a26].getD (mdPos k) 0) := by rw [List.getD_eq_getElem?_getD, List.getElem?_eq_getElem (show mdPos k < 17 from h2)]; rfl
    have e : [a2, a4, a5, a6, a8, a10, a11, a12, a13, a14, a18, a20, a21, a23, a24, a25, a26].getD (mdPos i) 0 = [a2, a4, a5, a6, a8, a10, a11, a12, a13, a14, a18, a20, a21, a23, a24, a25, a26].getD (mdPos k) 0 := e
    rw [e] at g1
    exact nodup_idx nd g1 g2
