section POST2
variable {l : jL} {h h1 : jH} {b da dd dc x xa xd xc : Nat} {DL W SW SP : List Nat} {lt : Nat → Int64} {num len : Nat → Nat} {PD QW : Nat → List Nat} {tot : Nat → Nat} {tm pa : Nat → Nat → Nat} {nx : Nat → Nat → Option Nat} {fi : Nat → Option Nat} {sf : Nat → sfT} {n : Nat}
def ptP (l : jL) (h : jH) (b da dd dc x xa xd xc : Nat) (D W SW : List Nat) (lt : Nat → Int64) (num len : Nat → Nat) (PD QW : Nat → List Nat) (tot : Nat → Nat) (tm pa : Nat → Nat → Nat) (nx : Nat → Nat → Option Nat) (fi : Nat → Option Nat) (sf : Nat → sfT) (n e w p : Nat) (h1 : jH) : Prop :=
  fr (lc h) h h1 ∧ ∃ SP', lib0 l h1 b da dd dc x xa xd xc D W SW SP' lt num len (va_up PD w (e :: PD w)) (va_up QW e (w :: QW e)) tot (up2 tm w e 0) (up2 pa w e p) (up2 nx w e (fi e)) (va_up fi e (some p)) sf n
set_option maxHeartbeats 800000 in
theorem c_Lib_post (B : lib0 l h b da dd dc x xa xd xc DL W SW SP lt num len PD QW tot tm pa nx fi sf n) {w e : Nat} (hw : w ∈ W) (he : e ∈ DL) (hn : e ∉ PD w) (hfi : fi e = (QW e)[0]?.map (fun u => pa u e)) : Cn l yX4_post cX4_post 4 (some (.object "RankedSearch$Posting")) 3 1 6 [.ref b, .ref e, .ref w] h (fun r h1 => ∃ p, r = some (.ref p) ∧ ptP l h b da dd dc x xa xd xc DL W SW lt num len PD QW tot tm pa nx fi sf n e w p h1) := by
  refine Cn.of (own := RX4) rfl (by decide) (by exact Nat.le_of_ble_eq_true rfl) (by decide) (fun K hK C D I => ?_)
  have B1 := B
  have bb := B.1
  rw [← hK] at B1
  first | refine J_aload_n C rfl dX4_post_0 ?_ | refine J_aload_nq C rfl dX4_post_0 ?_ | refine J_aload_nN C rfl dX4_post_0 ?_
  refine J_callV C (c_Lib_take B1) cw_X4_117 (by first | assumption | exact jv_up_at _ _ _ | (simp [jv_up, *]; done)) rfl rfl rfl rfl (by exact Nat.le_of_ble_eq_true rfl) (by decide) (by omega) (by omega) dX4_post_1 ?_
  rintro _ h1 ⟨p, rfl, SP', A, F, ⟨t, bf, nn, nd, hp⟩, hs, hu⟩
  rw [hK] at A
  have Ab := A.1
  have hec := A.2.2.2.2.2.2.1 e he
  obtain ⟨sp, hwc⟩ := A.2.2.2.2.1 w hw
  have npe : p ≠ e := jv_neO hp hec (by decide)
  have npw : p ≠ w := jv_neO hp hwc (by decide)
  have new : e ≠ w := jv_neO hec hwc (by decide)
  first | refine J_astore_nq C (by decide) dX4_post_4 ?_ | refine J_astore_n C (by decide) dX4_post_4 ?_ | refine J_astore_nN C (by decide) dX4_post_4 ?_
  first | refine J_aload_n C rfl dX4_post_5 ?_ | refine J_aload_nq C rfl dX4_post_5 ?_ | refine J_aload_nN C rfl dX4_post_5 ?_
  first | refine J_aload_n C rfl dX4_post_6 ?_ | refine J_aload_nq C rfl dX4_post_6 ?_ | refine J_aload_nN C rfl dX4_post_6 ?_
  refine J_put C fl_X4_121 (by first | assumption | exact jv_up_at _ _ _ | (simp [jv_up, *]; done)) (by exact Nat.le_of_ble_eq_true rfl) (by first | rfl | exact jv_nar_o _ _) (by first | rfl | exact jv_fit_o _ _) dX4_post_7 ?_
  first | refine J_aload_n C rfl dX4_post_10 ?_ | refine J_aload_nq C rfl dX4_post_10 ?_ | refine J_aload_nN C rfl dX4_post_10 ?_
  first | refine J_aload_n C rfl dX4_post_11 ?_ | refine J_aload_nq C rfl dX4_post_11 ?_ | refine J_aload_nN C rfl dX4_post_11 ?_
  refine J_put C fl_X4_96 (by first | assumption | exact jv_up_at _ _ _ | (simp [jv_up, *]; done)) (by exact Nat.le_of_ble_eq_true rfl) (by first | rfl | exact jv_nar_o _ _) (by first | rfl | exact jv_fit_o _ _) dX4_post_12 ?_
  first | refine J_aload_n C rfl dX4_post_15 ?_ | refine J_aload_nq C rfl dX4_post_15 ?_ | refine J_aload_nN C rfl dX4_post_15 ?_
  refine J_iconst C (v := nI 0) (by decide) dX4_post_16 ?_
  refine J_put C fl_X4_106 (by first | assumption | exact jv_up_at _ _ _ | (simp [jv_up, *]; done)) (by exact Nat.le_of_ble_eq_true rfl) (by rfl) (by rfl) dX4_post_17 ?_
  rw [jv_up_up, jv_up_up]
  have hec2 := jv_up_of (x := psO (some w) (some e) 0 bf nn nd) npe.symm hec
  first | refine J_aload_n C rfl dX4_post_20 ?_ | refine J_aload_nq C rfl dX4_post_20 ?_ | refine J_aload_nN C rfl dX4_post_20 ?_
  first | refine J_aload_n C rfl dX4_post_21 ?_ | refine J_aload_nq C rfl dX4_post_21 ?_ | refine J_aload_nN C rfl dX4_post_21 ?_
  refine J_get C fl_X4_125 (by first | assumption | exact jv_up_at _ _ _ | (simp [jv_up, *]; done)) (by rfl) dX4_post_22 ?_
  refine J_put C fl_X4_126 (by first | assumption | exact jv_up_at _ _ _ | (simp [jv_up, *]; done)) (by exact Nat.le_of_ble_eq_true rfl) (by first | rfl | exact jv_nar_o _ _) (by first | rfl | exact jv_fit_o _ _) dX4_post_25 ?_
  rw [jv_up_up]
  have hec3 := jv_up_of (x := psO (some w) (some e) 0 bf nn (fi e)) npe.symm hec
  first | refine J_aload_n C rfl dX4_post_28 ?_ | refine J_aload_nq C rfl dX4_post_28 ?_ | refine J_aload_nN C rfl dX4_post_28 ?_
  first | refine J_aload_n C rfl dX4_post_29 ?_ | refine J_aload_nq C rfl dX4_post_29 ?_ | refine J_aload_nN C rfl dX4_post_29 ?_
  refine J_put C fl_X4_125 (by first | assumption | exact jv_up_at _ _ _ | (simp [jv_up, *]; done)) (by exact Nat.le_of_ble_eq_true rfl) (by first | rfl | exact jv_nar_o _ _) (by first | rfl | exact jv_fit_o _ _) dX4_post_30 ?_
  first | refine J_aload_n C rfl dX4_post_33 ?_ | refine J_aload_nq C rfl dX4_post_33 ?_ | refine J_aload_nN C rfl dX4_post_33 ?_
  first | refine J_aload_n C rfl dX4_post_34 ?_ | refine J_aload_nq C rfl dX4_post_34 ?_ | refine J_aload_nN C rfl dX4_post_34 ?_
  have hp2 : jv_up (jv_up h1 p (psO (some w) (some e) 0 bf nn (fi e))) e (dcO (num e) (len e) (some p) (sf e)) p = some (psO (some w) (some e) 0 bf nn (fi e)) := jv_up_of npe (jv_up_at _ _ _)
  have F2 : fr (fun y => y = p ∨ y = w ∨ y = e ∨ ∃ v, (PD w)[0]? = some v ∧ y = pa w v) h1 (jv_up (jv_up h1 p (psO (some w) (some e) 0 bf nn (fi e))) e (dcO (num e) (len e) (some p) (sf e))) := fr_tr (fr_up (Or.inl rfl)) (fr_up (Or.inr (Or.inr (Or.inl rfl))))
  have hwc2 : jv_up (jv_up h1 p (psO (some w) (some e) 0 bf nn (fi e))) e (dcO (num e) (len e) (some p) (sf e)) w = some (wdO (lt w) (PD w).length (tot w) ((PD w)[0]?.map (pa w)) sp) := jv_up_of new.symm (jv_up_of npw.symm hwc)
  cases hPD : (PD w)[0]? with
  | none =>
    rw [hPD] at hwc2
    refine J_callV C (c_Word_link0 w p (lt w) (PD w).length (tot w) 0 sp (some w) (some e) bf nn (fi e) hwc2 hp2) cw_X4_129 (by first | assumption | exact jv_up_at _ _ _ | (simp [jv_up, *]; done)) rfl rfl rfl rfl (by exact Nat.le_of_ble_eq_true rfl) (by decide) (by omega) (by omega) dX4_post_35 ?_
    rintro _ h3 ⟨rfl, rfl⟩
    have s := lib0_link A hw he hn hfi hp hu hs (sp := sp) (h1 := jv_up (jv_up (jv_up (jv_up h1 p (psO (some w) (some e) 0 bf nn (fi e))) e (dcO (num e) (len e) (some p) (sf e))) p (psO (some w) (some e) 0 none none (fi e))) w (wdO (lt w) ((PD w).length + 1) (tot w) (some p) sp)) (by rw [hPD]; exact jv_up_of npw (jv_up_at _ _ _)) (jv_up_at _ _ _) (fun v hv => by rw [hPD] at hv; cases hv) (jv_up_of new (jv_up_of npe.symm (jv_up_at _ _ _))) (fr_tr (fr_tr F2 (fr_up (Or.inl rfl))) (fr_up (Or.inr (Or.inl rfl))))
    first | refine J_aload_n C rfl dX4_post_38 ?_ | refine J_aload_nq C rfl dX4_post_38 ?_ | refine J_aload_nN C rfl dX4_post_38 ?_
    refine J_aret (x := some p) C D (Or.inl ⟨_, rfl⟩) ⟨p, rfl, lc_tr F s.2, SP', s.1⟩ (by omega) (by omega) dX4_post_39
  | some v0 =>
    have hq := A.2.2.2.2.2.1 w hw 0 v0 hPD
    have nqp : pa w v0 ≠ p := hu w hw v0 (List.mem_of_getElem? hPD)
    have nqe : pa w v0 ≠ e := jv_neO hq hec (by decide)
    have nqw : pa w v0 ≠ w := jv_neO hq hwc (by decide)
    have hq2 := jv_up_of (x := dcO (num e) (len e) (some p) (sf e)) nqe (jv_up_of (x := psO (some w) (some e) 0 bf nn (fi e)) nqp hq)
    rw [hPD] at hwc2
    refine J_callV C (c_Word_link1 w p (pa w v0) (lt w) (PD w).length (tot w) 0 (tm w v0) sp (some w) (some e) bf nn (fi e) (some w) (some v0) (prv (PD w) (pa w) 0) (nxt (PD w) (pa w) 0) (nx w v0) hwc2 hp2 hq2 nqp.symm) cw_X4_129 (by first | assumption | exact jv_up_at _ _ _ | (simp [jv_up, *]; done)) rfl rfl rfl rfl (by exact Nat.le_of_ble_eq_true rfl) (by decide) (by omega) (by omega) dX4_post_35 ?_
    rintro _ h3 ⟨rfl, rfl⟩
    have s := lib0_link A hw he hn hfi hp hu hs (sp := sp) (h1 := jv_up (jv_up (jv_up (jv_up (jv_up h1 p (psO (some w) (some e) 0 bf nn (fi e))) e (dcO (num e) (len e) (some p) (sf e))) p (psO (some w) (some e) 0 none (some (pa w v0)) (fi e))) (pa w v0) (psO (some w) (some v0) (tm w v0) (some p) (nxt (PD w) (pa w) 0) (nx w v0))) w (wdO (lt w) ((PD w).length + 1) (tot w) (some p) sp)) (by rw [hPD]; exact jv_up_of npw (jv_up_of nqp.symm (jv_up_at _ _ _))) (jv_up_at _ _ _) (fun v hv => by rw [hPD] at hv; cases hv; exact jv_up_of nqw (jv_up_at _ _ _)) (jv_up_of new (jv_up_of nqe.symm (jv_up_of npe.symm (jv_up_at _ _ _)))) (fr_tr (fr_tr (fr_tr F2 (fr_up (Or.inl rfl))) (fr_up (Or.inr (Or.inr (Or.inr ⟨v0, hPD, rfl⟩))))) (fr_up (Or.inr (Or.inl rfl))))
    first | refine J_aload_n C rfl dX4_post_38 ?_ | refine J_aload_nq C rfl dX4_post_38 ?_ | refine J_aload_nN C rfl dX4_post_38 ?_
    refine J_aret (x := some p) C D (Or.inl ⟨_, rfl⟩) ⟨p, rfl, lc_tr F s.2, SP', s.1⟩ (by omega) (by omega) dX4_post_39
end POST2
