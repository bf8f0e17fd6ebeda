/-! RankedSearch: a new one -/
/-- old things stay -/
def exA (h h1 : jH) : Prop := ∀ (y : Nat) (z : jE), h y = some z → h1 y = some z
theorem exA_tr {h h1 h2 : jH} (a : exA h h1) (b : exA h1 h2) : exA h h2 := fun y z e => b y z (a y z e)
theorem exA_new {h h1 : jH} {q : Nat} {o : jE} (hq : h q = none) (F : fr (fn q (jv_up h q o)) (jv_up h q o) h1) : exA h h1 := fun y z e => by
  have n1 : y ≠ q := fun c => by rw [c, hq] at e; cases e
  have e2 := jv_up_of (x := o) n1 e
  refine (F y (fun c => ?_)).trans e2
  rcases c with c | c
  · exact n1 c
  · rw [e2] at c; cases c
theorem exA_ne {h h1 : jH} {y q : Nat} {z : jE} (e : h y = some z) (hq : h q = none) : y ≠ q := fun c => by rw [c, hq] at e; cases e
/-- but for one -/
def exR (r : Nat) (h h1 : jH) : Prop := ∀ (y : Nat) (z : jE), h y = some z → y ≠ r → h1 y = some z
theorem exR_tr {r : Nat} {h h1 h2 : jH} (a : exR r h h1) (b : exR r h1 h2) : exR r h h2 := fun y z e n => b y z (a y z e n) n
theorem exR_step {r : Nat} {h h1 : jH} {o : jE} (a : exA h h1) : exR r h (jv_up h1 r o) := fun y z e n => jv_up_of n (a y z e)
theorem c_Search_init (l : jL) (h : jH) (a : Nat) : Cn l yX7_init cX7_init 1 none 1 0 0 [.ref a] h (fun r h1 => r = none ∧ h1 = h) := by
  refine Cn.of (own := RX7) rfl (by decide) (by exact Nat.le_of_ble_eq_true rfl) (by decide) (fun K hK C D I => ?_)
  first | refine J_aload_n C rfl dX7_init_0 ?_ | refine J_aload_nq C rfl dX7_init_0 ?_ | refine J_aload_nN C rfl dX7_init_0 ?_
  refine J_objInit C ml_X7_3 oi_inst oi_code (by decide) (by exact Nat.le_of_ble_eq_true rfl) dX7_init_1 ?_
  refine J_vret C D ⟨rfl, rfl⟩ (by omega) (by omega) dX7_init_4
section RINIT
variable {l : jL} {h : jH} {r : Nat}
set_option maxHeartbeats 1000000 in
theorem c_R_init (hh : h r = some (.inr (10, [.null, .null, .null, .null, .null]))) : Cn l yX11_init cX11_init 1 none 6 29 650 [.ref r] h (fun r9 h1 => r9 = none ∧ exR r h h1 ∧ ∃ t tb b q ta tt s a an ap f, rkI l h1 r t tb b q ta tt s a an ap 0 f [] [] 0 0 (-1) []) := by
  refine Cn.of (own := RX11) rfl (by decide) (by exact Nat.le_of_ble_eq_true rfl) (by decide) (fun K hK C D I => ?_)
  first | refine J_aload_n C rfl dX11_init_0 ?_ | refine J_aload_nq C rfl dX11_init_0 ?_ | refine J_aload_nN C rfl dX11_init_0 ?_
  refine J_objInit C ml_X11_3 oi_inst oi_code (by decide) (by exact Nat.le_of_ble_eq_true rfl) dX11_init_1 ?_
  first | refine J_aload_n C rfl dX11_init_4 ?_ | refine J_aload_nq C rfl dX11_init_4 ?_ | refine J_aload_nN C rfl dX11_init_4 ?_
  refine J_new C nw_X11_9 (by omega) (by omega) dX11_init_5 (fun t ht => ?_)
  have nrt := exA_ne (h1 := h) hh ht
  refine J_dup C rfl dX11_init_8 ?_
  refine J_callI C (c_Tape_init _ _ t (jv_up_at _ _ _)) cw_X11_11 rfl rfl (by exact Nat.le_of_ble_eq_true rfl) (by decide) (by omega) (by omega) dX11_init_9 ?_
  rintro _ h9 ⟨rfl, tb, htb, ntb, e9⟩
  have htb0 : h tb = none := by rw [jv_up_ne ntb] at htb; exact htb
  have nrtb := exA_ne (h1 := h) hh htb0
  have X1 : exA h h9 := fun y z e => by
    rw [e9]
    exact jv_up_of (exA_ne (h1 := h) e ht) (jv_up_of (exA_ne (h1 := h) e htb0) (jv_up_of (exA_ne (h1 := h) e ht) e))
  have T1 : tp_is h9 t tb 0 (fun _ => 0) := by
    rw [e9]
    exact ⟨jv_up_at _ _ _, jv_up_of ntb (jv_up_at _ _ _), Nat.zero_le _⟩
  have r1 := X1 r _ hh
  clear e9
  refine J_putF C I fl_X11_12 rfl rfl (by first | assumption | exact jv_up_at _ _ _ | (simp [jv_up, *]; done)) (by exact Nat.le_of_ble_eq_true rfl) (by first | rfl | exact jv_nar_o _ _) (by first | rfl | exact jv_fit_o _ _) fw_X11_12 dX11_init_12 ?_
  obtain ⟨hB, eB⟩ : ∃ hB, hB = jv_up h9 r (.inr (10, [.ref t, .null, .null, .null, .null])) := ⟨_, rfl⟩
  refine J_eq (st1 := []) (h1 := hB) rfl eB ?_
  have R1 : exR r h hB := by rw [eB]; exact exR_step X1
  have rB : hB r = some (.inr (10, [.ref t, .null, .null, .null, .null])) := by rw [eB]; exact jv_up_at _ _ _
  have T2 : tp_is hB t tb 0 (fun _ => 0) := by rw [eB]; exact ⟨jv_up_of nrt.symm T1.1, jv_up_of nrtb.symm T1.2.1, T1.2.2⟩
  clear eB
  first | refine J_aload_n C rfl dX11_init_15 ?_ | refine J_aload_nq C rfl dX11_init_15 ?_ | refine J_aload_nN C rfl dX11_init_15 ?_
  refine J_new C nw_X11_16 (by omega) (by omega) dX11_init_16 (fun b hb => ?_)
  refine J_dup C rfl dX11_init_19 ?_
  refine J_callI C (c_Lib_init (jv_up_at _ _ _)) cw_X11_18 rfl rfl (by exact Nat.le_of_ble_eq_true rfl) (by decide) (by omega) (by omega) dX11_init_20 ?_
  rintro _ hC ⟨rfl, F2, da, x, xa, Y⟩
  rw [hK] at Y
  have X2 := exA_new hb F2
  have r2 := X2 r _ rB
  refine J_putF C I fl_X11_19 rfl rfl (by first | assumption | exact jv_up_at _ _ _ | (simp [jv_up, *]; done)) (by exact Nat.le_of_ble_eq_true rfl) (by first | rfl | exact jv_nar_o _ _) (by first | rfl | exact jv_fit_o _ _) fw_X11_19 dX11_init_23 ?_
  obtain ⟨hD, eD⟩ : ∃ hD, hD = jv_up hC r (.inr (10, [.ref t, .ref b, .null, .null, .null])) := ⟨_, rfl⟩
  refine J_eq (st1 := []) (h1 := hD) rfl eD ?_
  have R2 : exR r hB hD := by rw [eD]; exact exR_step X2
  have rD : hD r = some (.inr (10, [.ref t, .ref b, .null, .null, .null])) := by rw [eD]; exact jv_up_at _ _ _
  have YD := lib0_keep (h1 := hD) Y (fun y hy _ => by rw [eD]; exact jv_up_ne (fun c => lc_no r2 (by decide) (c ▸ hy)))
  clear eD
  first | refine J_aload_n C rfl dX11_init_26 ?_ | refine J_aload_nq C rfl dX11_init_26 ?_ | refine J_aload_nN C rfl dX11_init_26 ?_
  refine J_new C nw_X11_23 (by omega) (by omega) dX11_init_27 (fun q hq => ?_)
  refine J_dup C rfl dX11_init_30 ?_
  refine J_callI C (c_Query_init _ _ q (jv_up_at _ _ _)) cw_X11_25 rfl rfl (by exact Nat.le_of_ble_eq_true rfl) (by decide) (by omega) (by omega) dX11_init_31 ?_
  rintro _ hE ⟨rfl, ⟨ta, tt, cur, Q, -, -⟩, F3⟩
  have X3 := exA_new hq F3
  have r3 := X3 r _ rD
  refine J_putF C I fl_X11_26 rfl rfl (by first | assumption | exact jv_up_at _ _ _ | (simp [jv_up, *]; done)) (by exact Nat.le_of_ble_eq_true rfl) (by first | rfl | exact jv_nar_o _ _) (by first | rfl | exact jv_fit_o _ _) fw_X11_26 dX11_init_34 ?_
  obtain ⟨hF, eF⟩ : ∃ hF, hF = jv_up hE r (.inr (10, [.ref t, .ref b, .ref q, .null, .null])) := ⟨_, rfl⟩
  refine J_eq (st1 := []) (h1 := hF) rfl eF ?_
  have R3 : exR r hD hF := by rw [eF]; exact exR_step X3
  have rF : hF r = some (.inr (10, [.ref t, .ref b, .ref q, .null, .null])) := by rw [eF]; exact jv_up_at _ _ _
  have QF := qy_up2 (h1 := hF) Q (by rw [eF]; exact jv_up_ne (jv_neO Q.1 r3 (by decide))) (by
    obtain ⟨g, y2, -⟩ := Q.2.1
    rw [eF]; exact jv_up_ne (jv_neA r3 y2).symm) (fun i hi => by rw [eF]; exact jv_up_ne (jv_neO (Q.2.2.1 i hi) r3 (by decide)))
  clear eF
  first | refine J_aload_n C rfl dX11_init_37 ?_ | refine J_aload_nq C rfl dX11_init_37 ?_ | refine J_aload_nN C rfl dX11_init_37 ?_
  refine J_new C nw_X11_30 (by omega) (by omega) dX11_init_38 (fun s hs => ?_)
  refine J_dup C rfl dX11_init_41 ?_
  refine J_callI C (c_Search_init _ _ s) cw_X11_32 rfl rfl (by exact Nat.le_of_ble_eq_true rfl) (by decide) (by omega) (by omega) dX11_init_42 ?_
  rintro _ hG ⟨rfl, eG⟩
  have X4 : exA hF hG := by rw [eG]; exact fun y z e => jv_up_of (exA_ne (h1 := hF) e hs) e
  have sG : hG s = some (srO none 0) := by rw [eG]; exact jv_up_at _ _ _
  have r4 := X4 r _ rF
  clear eG
  refine J_putF C I fl_X11_33 rfl rfl (by first | assumption | exact jv_up_at _ _ _ | (simp [jv_up, *]; done)) (by exact Nat.le_of_ble_eq_true rfl) (by first | rfl | exact jv_nar_o _ _) (by first | rfl | exact jv_fit_o _ _) fw_X11_33 dX11_init_45 ?_
  obtain ⟨hH, eH⟩ : ∃ hH, hH = jv_up hG r (.inr (10, [.ref t, .ref b, .ref q, .ref s, .null])) := ⟨_, rfl⟩
  refine J_eq (st1 := []) (h1 := hH) rfl eH ?_
  have R4 : exR r hF hH := by rw [eH]; exact exR_step X4
  have rH : hH r = some (.inr (10, [.ref t, .ref b, .ref q, .ref s, .null])) := by rw [eH]; exact jv_up_at _ _ _
  have sH : hH s = some (srO none 0) := by rw [eH]; exact jv_up_of (jv_neO sG r4 (by decide)) sG
  clear eH
  first | refine J_aload_n C rfl dX11_init_48 ?_ | refine J_aload_nq C rfl dX11_init_48 ?_ | refine J_aload_nN C rfl dX11_init_48 ?_
  refine J_new C nw_X11_37 (by omega) (by omega) dX11_init_49 (fun a ha => ?_)
  refine J_dup C rfl dX11_init_52 ?_
  refine J_callI C (c_Best_init (jv_up_at _ _ _)) cw_X11_39 rfl rfl (by exact Nat.le_of_ble_eq_true rfl) (by decide) (by omega) (by omega) dX11_init_53 ?_
  rintro _ hI ⟨rfl, ⟨an, ap, BB, -, -⟩, F5⟩
  have X5 := exA_new ha F5
  have r5 := X5 r _ rH
  refine J_putF C I fl_X11_40 rfl rfl (by first | assumption | exact jv_up_at _ _ _ | (simp [jv_up, *]; done)) (by exact Nat.le_of_ble_eq_true rfl) (by first | rfl | exact jv_nar_o _ _) (by first | rfl | exact jv_fit_o _ _) fw_X11_40 dX11_init_56 ?_
  obtain ⟨hJ, eJ⟩ : ∃ hJ, hJ = jv_up hI r (.inr (10, [.ref t, .ref b, .ref q, .ref s, .ref a])) := ⟨_, rfl⟩
  refine J_eq (st1 := []) (h1 := hJ) rfl eJ ?_
  have R5 : exR r hH hJ := by rw [eJ]; exact exR_step X5
  have rJ : hJ r = some (rkO t b q s a) := by rw [eJ]; exact jv_up_at _ _ _
  have BJ := bs_up (h1 := hJ) BB (fun y hy => by rw [eJ]; exact jv_up_ne (fun c => bs_no BB r5 (by decide) (c ▸ hy)))
  clear eJ
  have R35 := exR_tr (exR_tr R3 R4) R5
  have R25 := exR_tr R2 R35
  have R45 := exR_tr R4 R5
  have YJ := lib0_keep (h1 := hJ) YD (fun y hy ⟨z, e⟩ => (R35 y z e (fun c => lc_no rD (by decide) (c ▸ hy))).trans e.symm)
  have QJ := qy_up2 (h1 := hJ) QF ((R45 _ _ QF.1 (jv_neO QF.1 rF (by decide))).trans QF.1.symm) (by
    obtain ⟨g, y2, -⟩ := QF.2.1
    exact (R45 _ _ y2 (jv_neA rF y2).symm).trans y2.symm) (fun i hi => (R45 _ _ (QF.2.2.1 i hi) (jv_neO (QF.2.2.1 i hi) rF (by decide))).trans (QF.2.2.1 i hi).symm)
  refine J_vret C D ⟨rfl, exR_tr R1 R25, t, tb, b, q, ta, tt, s, a, an, ap, _, rJ, ⟨R25 _ _ T2.1 nrt.symm, R25 _ _ T2.2.1 nrtb.symm, Nat.zero_le _⟩, ⟨[], fun _ => 0, fun _ => [], da, l.2.1, 0, x, xa, l.2.1, 0, [], [], [], fun _ => lN 0, fun _ => 0, fun _ => [], fun _ => [], fun _ => 0, fun _ _ => 0, fun _ _ => 0, fun _ _ => none, fun _ => none, fun _ => sf0, 0, YJ, fun u hu => (by cases hu), fun u hu => (by cases hu), fun u hu => (by cases hu), rfl, fun u hu => (by cases hu), ⟨by decide, by decide, by decide⟩, List.Perm.refl _, rfl⟩, ⟨cur, _, QJ⟩, ⟨0, R5 _ _ sH (jv_neO sH rH (by decide))⟩, ⟨0, BJ⟩, ⟨List.nodup_nil, fun p hp => (by cases hp), by decide⟩⟩ (by omega) (by omega) dX11_init_59
end RINIT
