/-! the model: its state between calls; feed, wipe, fault, place, hit, score -/
def mdL (g : Nat → Int32) (N : Nat → Nat → Int32) (L : List hiT) : Prop := g 19 = nI L.length ∧ L.length ≤ 50 ∧ ∀ i x, L[i]? = some x → N 20 i = nI x.1 ∧ N 21 i = x.2
def mdI (h : jH) (m : Nat) (A : Nat → Nat) (nt : Nat) (B : Nat → Nat) (md : dsT) (fk : Nat) (fp : Int32) (L : List hiT) (th : Nat) : Prop :=
  ∃ g N Q, mdl h m A g N Q ∧ mdT g N nt B ∧ mdD g N Q md ∧ mdKn g N Q md ∧ g 16 = nI fk ∧ g 17 = fp ∧ mdL g N L ∧ g 0 = nI th
theorem mdI_th {h : jH} {m : Nat} {A : Nat → Nat} {nt : Nat} {B : Nat → Nat} {md : dsT} {fk : Nat} {fp : Int32} {L : List hiT} {g : Nat → Int32} {N : Nat → Nat → Int32} {Q : Nat → Nat → Int64} (M : mdl h m A g N Q) (T : mdT g N nt B) (D9 : mdD g N Q md) (KN : mdKn g N Q md) (e1 : g 16 = nI fk) (e2 : g 17 = fp) (ML : mdL g N L) (th : Nat) {h1 : jH} (hh : h1 = jv_up h m (mdO A (va_up g 0 (nI th)))) : mdI h1 m A nt B md fk fp L th ∧ mdl h1 m A (va_up g 0 (nI th)) N Q ∧ fr (mdS m A) h h1 := by
  subst hh
  exact ⟨⟨va_up g 0 (nI th), N, Q, mdl_s M _, T, D9, KN, e1, e2, ML, rfl⟩, mdl_s M _, fr_up (Or.inl rfl)⟩
theorem and_255 (x : Int64) : (x &&& 255).toInt32 = nI ((vp_nar .byte x.toInt32.toInt8.toInt32).toBitVec.toNat % 256) := by
  have h1 : vp_nar .byte x.toInt32.toInt8.toInt32 = x.toInt32.toInt8.toInt32 := by
    unfold vp_nar narrow
    show x.toInt32.toInt8.toInt32.toInt8.toInt32 = _
    rw [Int8.toInt8_toInt32]
  rw [h1]
  apply Int32.toBitVec_inj.mp
  apply BitVec.eq_of_toNat_eq
  have h3 : (x.toInt32.toInt8.toInt32).toBitVec.toNat % 256 = x.toBitVec.toNat % 256 := by
    rw [Int8.toBitVec_toInt32, Int32.toBitVec_toInt8, Int64.toBitVec_toInt32]
    have e1 : ∀ y : BitVec 8, (y.signExtend 32).toNat % 256 = y.toNat := by
      intro y
      have := congrArg BitVec.toNat (show (y.signExtend 32).setWidth 8 = y by
        apply BitVec.eq_of_getLsbD_eq
        intro i hi
        rw [BitVec.getLsbD_setWidth, BitVec.getLsbD_signExtend]
        simp [hi]
        omega)
      rw [BitVec.toNat_setWidth] at this
      exact this
    rw [e1, BitVec.signExtend_eq_setWidth_of_le _ (by decide), BitVec.signExtend_eq_setWidth_of_le _ (by decide), BitVec.toNat_setWidth, BitVec.toNat_setWidth]
    omega
  rw [h3, Int64.toBitVec_toInt32, BitVec.signExtend_eq_setWidth_of_le _ (by decide), BitVec.toNat_setWidth, Int64.toBitVec_and, BitVec.toNat_and]
  show (x.toBitVec.toNat &&& 255) % 2 ^ 32 = (BitVec.ofNat 32 (x.toBitVec.toNat % 256)).toNat
  rw [BitVec.toNat_ofNat, show (255 : Nat) = 2 ^ 8 - 1 from rfl, Nat.and_two_pow_sub_one_eq_mod]
theorem sp_app_lt (f : Nat → Int32) (n : Nat) (v : Int64) : ∀ (k i : Nat), i < n → sp_app f n v k i = f i
  | 0, _, _ => rfl
  | k + 1, i, h => by
    show upd (sp_app f n v k) (n + k) _ i = _
    rw [pk_un (by omega)]
    exact sp_app_lt f n v k i h
theorem sp_app_at (f : Nat → Int32) (n : Nat) (v : Int64) : ∀ (k i : Nat), i < k → sp_app f n v k (n + i) = vp_nar .byte (sp_byte v i)
  | k + 1, i, h => by
    show upd (sp_app f n v k) (n + k) _ (n + i) = _
    by_cases c : i = k
    · rw [c, pk_us]
    · rw [pk_un (by omega)]
      exact sp_app_at f n v k i (by omega)
section MFEED
variable {l : jL} {h : jH} {m : Nat} {A : Nat → Nat} {md : dsT} {nt : Nat} {f : Nat → Int32} {B : Nat → Nat} {fk th : Nat} {fp : Int32} {L : List hiT}
theorem c_M_feed (I : mdI h m A nt (sp_B f) md fk fp L th) (x : Int32) (v : Int64) : Cn l yX12_feed cX12_feed 5 (some .int) 1 0 0 [.ref m, .int x, .long v] h (fun r h1 => fr (mdS m A) h h1 ∧ ((∃ k, 1 ≤ k ∧ k ≤ 8 ∧ x = nI k ∧ ((400 < nt + k ∧ r = some (.int (-1)) ∧ mdI h1 m A nt (sp_B f) md fk fp L 0) ∨ (nt + k ≤ 400 ∧ r = some (.int (nI (nt + k))) ∧ mdI h1 m A (nt + k) (sp_B (sp_app f nt v k)) md fk fp L 0))) ∨ ((∀ k, 1 ≤ k → k ≤ 8 → x ≠ nI k) ∧ (∃ y, r = some (.int y)) ∧ mdI h1 m A nt (sp_B f) md fk fp L 1))) := by
  obtain ⟨g, N, Q, M, T, D9, KN, e1, e2, ML, e0⟩ := I
  have m1 := M.1
  refine Cn.of (own := RX12) rfl (by decide) (by exact Nat.le_of_ble_eq_true rfl) (by decide) (fun K hK C D _ => ?_)
  have Kbad : (∀ k, 1 ≤ k → k ≤ 8 → x ≠ nI k) → J K 0 0 17 (jv_l [(2, .long v), (1, .int x), (0, .ref m)]) [.int (nI 1), .ref m] h := by
    intro hno
    have X := mdI_th M T D9 KN e1 e2 ML 1 rfl
    first | refine J_mput C fl_X12_68 (by first | assumption | exact jv_up_at _ _ _) (by decide) (by rfl) (by rfl) dX12_feed_17 ?_ | refine J_put C fl_X12_68 (by first | assumption | exact jv_up_at _ _ _ | (simp [jv_up, *]; done)) (by exact Nat.le_of_ble_eq_true rfl) (by rfl) (by rfl) dX12_feed_17 ?_
    first | refine J_aload_n C rfl dX12_feed_20 ?_ | refine J_aload_nq C rfl dX12_feed_20 ?_ | refine J_aload_nN C rfl dX12_feed_20 ?_
    refine J_get C fl_X12_68 (by first | assumption | exact jv_up_at _ _ _ | (simp [jv_up, *]; done)) (by rfl) dX12_feed_21 ?_
    rw [show va_up g 0 (nI 1) 0 = nI 1 from if_pos rfl]
    refine J_nif_le C (by first | omega | (dsimp only; omega)) 29 (by decide) dX12_feed_24 (fun z => ?_) (fun z => ?_)
    · omega
    · refine J_iconst C (v := nI 0) (by decide) dX12_feed_27 ?_
      refine J_iret C D ⟨X.2.2, Or.inr ⟨hno, ⟨_, rfl⟩, X.1⟩⟩ (by omega) (by omega) dX12_feed_28
  first | refine J_aload_n C rfl dX12_feed_0 ?_ | refine J_aload_nq C rfl dX12_feed_0 ?_ | refine J_aload_nN C rfl dX12_feed_0 ?_
  refine J_iload_n C rfl dX12_feed_1 ?_
  refine J_iconst C (v := nI 1) (by decide) dX12_feed_2 ?_
  refine J_icmp_lt C 12 (by decide) dX12_feed_3 (fun z1 => ?_) (fun z1 => ?_)
  · refine J_iconst C (v := nI 1) (by decide) dX12_feed_12 ?_
    refine J_goto C 17 (by decide) dX12_feed_13 ?_
    refine J_sub (by exact (And.intro rfl (And.intro rfl (And.intro rfl trivial)))) (Kbad (fun k h1 hk e => by rw [e] at z1; exact absurd (nI_ltI (by omega) (by decide) |>.mp z1) (by omega)))
  · obtain ⟨k, hk, rfl⟩ := nI_of (x := x) (fun z => z1 (Int32.lt_trans z (by decide)))
    have z1 : 1 ≤ k := Nat.le_of_not_lt (fun z => z1 (nI_lt (a := k) (b := 1) z (by decide)))
    refine J_iload_n C rfl dX12_feed_6 ?_
    refine J_bipush C (v := nI 8) (by decide) dX12_feed_7 ?_
    refine J_nicmp_le C (by first | omega | (dsimp only; omega)) (by first | omega | (dsimp only; omega)) 16 (by decide) dX12_feed_9 (fun z2 => ?_) (fun z2 => ?_)
    · have X := mdI_th M T D9 KN e1 e2 ML 0 rfl
      have M0 := X.2.1
      refine J_iconst C (v := nI 0) (by decide) dX12_feed_16 ?_
      first | refine J_mput C fl_X12_68 (by first | assumption | exact jv_up_at _ _ _) (by decide) (by rfl) (by rfl) dX12_feed_17 ?_ | refine J_put C fl_X12_68 (by first | assumption | exact jv_up_at _ _ _ | (simp [jv_up, *]; done)) (by exact Nat.le_of_ble_eq_true rfl) (by rfl) (by rfl) dX12_feed_17 ?_
      first | refine J_aload_n C rfl dX12_feed_20 ?_ | refine J_aload_nq C rfl dX12_feed_20 ?_ | refine J_aload_nN C rfl dX12_feed_20 ?_
      refine J_get C fl_X12_68 (by first | assumption | exact jv_up_at _ _ _ | (simp [jv_up, *]; done)) (by rfl) dX12_feed_21 ?_
      rw [show va_up g 0 (nI 0) 0 = nI 0 from if_pos rfl]
      refine J_nif_le C (by first | omega | (dsimp only; omega)) 29 (by decide) dX12_feed_24 (fun z => ?_) (fun z => ?_)
      · obtain ⟨h0, eh0⟩ : ∃ h0, h0 = jv_up h m (mdO A (va_up g 0 (nI 0))) := ⟨_, rfl⟩
        refine J_eq (st1 := []) (h1 := h0) rfl eh0 ?_
        rw [← eh0] at X M0
        clear eh0
        have m0 := M0.1
        have T1 := T.1
        have T2 := T.2.1
        have g1 : va_up g 0 (nI 0) 1 = nI nt := T1
        first | refine J_aload_n C rfl dX12_feed_29 ?_ | refine J_aload_nq C rfl dX12_feed_29 ?_ | refine J_aload_nN C rfl dX12_feed_29 ?_
        refine J_get C fl_X12_74 (by first | assumption | exact jv_up_at _ _ _ | (simp [jv_up, *]; done)) (by rfl) dX12_feed_30 ?_
        refine J_iload_n C rfl dX12_feed_33 ?_
        rw [g1]
        first | refine J_niadd C dX12_feed_34 ?_ | refine J_iadd C dX12_feed_34 ?_
        refine J_sipush C (v := nI 400) (by decide) dX12_feed_35 ?_
        refine J_nicmp_le C (by first | omega | (dsimp only; omega)) (by first | omega | (dsimp only; omega)) 43 (by decide) dX12_feed_38 (fun z3 => ?_) (fun z3 => ?_)
        · have loop : ∀ (n i : Nat) (g' : Nat → Int32) (N1 : Nat → Nat → Int32) (h' : jH), i + n = k → fr (mdS m A) h h' → mdl h' m A g' N1 Q → (∀ k, k ≠ 1 → g' k = va_up g 0 (nI 0) k) → g' 1 = nI (nt + i) → (∀ k, k ≠ 2 → N1 k = N k) → (∀ j, j < nt + i → N1 2 j = nI (sp_B (sp_app f nt v i) j)) → J K 0 0 46 (jv_l [(4, .int (nI i)), (2, .long v), (1, .int (nI k)), (0, .ref m)]) [] h' := by
            intro n
            induction n with
            | zero =>
              intro i g' N1 h' hi F M' g2 g3 n2 b2
              have hi : i = k := hi
              have m1' := M'.1
              refine J_iload C rfl dX12_feed_46 ?_
              refine J_iload_n C rfl dX12_feed_48 ?_
              refine J_nicmp_ge C (by first | omega | (dsimp only; omega)) (by first | omega | (dsimp only; omega)) 89 (by decide) dX12_feed_49 (fun z4 => ?_) (fun z4 => ?_)
              · first | refine J_aload_n C rfl dX12_feed_89 ?_ | refine J_aload_nq C rfl dX12_feed_89 ?_ | refine J_aload_nN C rfl dX12_feed_89 ?_
                refine J_get C fl_X12_74 (by first | assumption | exact jv_up_at _ _ _ | (simp [jv_up, *]; done)) (by rfl) dX12_feed_90 ?_
                rw [g3]
                refine J_iret C D ⟨F, Or.inl ⟨k, z1, z2, rfl, Or.inr ⟨z3, by rw [hi], g', N1, Q, M', ⟨by rw [g3, hi], z3, fun j hj => ⟨by rw [b2 j (by omega), hi], sp_B_lt _ _⟩⟩, mdD_congr (g := g) D9 (g2 3 (by decide)) (n2 4 (by decide)) (n2 5 (by decide)) rfl, ?_, (g2 16 (by decide)).trans e1, (g2 17 (by decide)).trans e2, ?_, g2 0 (by decide)⟩⟩⟩ (by omega) (by omega) dX12_feed_93
                · unfold mdKn known at KN ⊢
                  rw [g2 22 (by decide), n2 26 (by decide), n2 23 (by decide), n2 24 (by decide)]
                  exact KN
                · unfold mdL at ML ⊢
                  rw [g2 19 (by decide), n2 20 (by decide), n2 21 (by decide)]
                  exact ML
              · omega
            | succ n ih =>
              intro i g' N1 h' hi F M' g2 g3 n2 b2
              have m1' := M'.1
              have a2 := M'.2.1 2 _ rfl
              refine J_iload C rfl dX12_feed_46 ?_
              refine J_iload_n C rfl dX12_feed_48 ?_
              refine J_nicmp_ge C (by first | omega | (dsimp only; omega)) (by first | omega | (dsimp only; omega)) 89 (by decide) dX12_feed_49 (fun z4 => ?_) (fun z4 => ?_)
              · omega
              · first | refine J_aload_n C rfl dX12_feed_52 ?_ | refine J_aload_nq C rfl dX12_feed_52 ?_ | refine J_aload_nN C rfl dX12_feed_52 ?_
                refine J_get C fl_X12_7 (by first | assumption | exact jv_up_at _ _ _ | (simp [jv_up, *]; done)) (by rfl) dX12_feed_53 ?_
                first | refine J_aload_n C rfl dX12_feed_56 ?_ | refine J_aload_nq C rfl dX12_feed_56 ?_ | refine J_aload_nN C rfl dX12_feed_56 ?_
                refine J_get C fl_X12_74 (by first | assumption | exact jv_up_at _ _ _ | (simp [jv_up, *]; done)) (by rfl) dX12_feed_57 ?_
                refine J_lload_n C rfl dX12_feed_60 ?_
                refine J_bipush C (v := nI 8) (by decide) dX12_feed_61 ?_
                refine J_iload C rfl dX12_feed_63 ?_
                first | refine J_nimul C dX12_feed_65 ?_ | refine J_imul C dX12_feed_65 ?_
                refine J_lshr C dX12_feed_66 ?_
                refine J_ldc2 C kl_X12_117 dX12_feed_67 ?_
                refine J_land C dX12_feed_70 ?_
                refine J_l2i C dX12_feed_71 ?_
                rw [g3]
                refine J_iast C (by first | assumption | exact jv_up_at _ _ _ | (simp [jv_up, *]; done)) rfl (by omega) (by omega) dX12_feed_72 ?_
                have M2 := mdl_N M' 2 (u := upd (N1 2) (nt + i) ((v >>> ((nI (8 * i)).toInt64 &&& 63)) &&& 255).toInt32) rfl rfl
                have m2 := M2.1
                first | refine J_aload_n C rfl dX12_feed_73 ?_ | refine J_aload_nq C rfl dX12_feed_73 ?_ | refine J_aload_nN C rfl dX12_feed_73 ?_
                refine J_dup C rfl dX12_feed_74 ?_
                refine J_get C fl_X12_74 (by first | assumption | exact jv_up_at _ _ _ | (simp [jv_up, *]; done)) (by rfl) dX12_feed_75 ?_
                refine J_iconst C (v := nI 1) (by decide) dX12_feed_78 ?_
                rw [g3]
                first | refine J_niadd C dX12_feed_79 ?_ | refine J_iadd C dX12_feed_79 ?_
                first | refine J_mput C fl_X12_74 (by first | assumption | exact jv_up_at _ _ _) (by decide) (by rfl) (by rfl) dX12_feed_80 ?_ | refine J_put C fl_X12_74 (by first | assumption | exact jv_up_at _ _ _ | (simp [jv_up, *]; done)) (by exact Nat.le_of_ble_eq_true rfl) (by rfl) (by rfl) dX12_feed_80 ?_
                first | refine J_niinc (b := 1) C rfl (by decide) dX12_feed_83 ?_ | refine J_iinc C rfl (by decide) dX12_feed_83 ?_
                refine J_goto C 46 (by decide) dX12_feed_86 ?_
                refine J_sub (by exact (And.intro rfl (And.intro rfl (And.intro rfl (And.intro rfl trivial))))) (ih (i + 1) _ _ _ (by omega) (fr_tr (fr_tr F (mdS_up 2 rfl _)) (fr_up (Or.inl rfl))) (mdl_s M2 (va_up g' 1 (nI (nt + i + 1)))) (fun k hk => (if_neg hk).trans (g2 k hk)) (if_pos rfl) (fun k hk => (if_neg hk).trans (n2 k hk)) (fun j hj => ?_))
                show upd (N1 2) (nt + i) _ j = _
                by_cases q : j = nt + i
                · rw [q, pk_us, and_255]
                  unfold sp_B
                  rw [sp_app_at f nt v (i + 1) i (by omega)]
                  rfl
                · rw [pk_un q, b2 j (by omega)]
                  unfold sp_B
                  rw [show sp_app f nt v (i + 1) j = sp_app f nt v i j from pk_un q]
          refine J_iconst C (v := nI 0) (by decide) dX12_feed_43 ?_
          refine J_istore C (by decide) dX12_feed_44 ?_
          refine J_sub (by exact (And.intro rfl (And.intro rfl (And.intro rfl (And.intro rfl trivial))))) (loop k 0 _ N h0 (by omega) X.2.2 M0 (fun _ _ => rfl) g1 (fun _ _ => rfl) (fun j hj => (T.2.2 j hj).1))
        · refine J_iconst C (v := (-1)) (by decide) dX12_feed_41 ?_
          refine J_iret C D ⟨X.2.2, Or.inl ⟨k, z1, z2, rfl, Or.inl ⟨z3, rfl, X.1⟩⟩⟩ (by omega) (by omega) dX12_feed_42
      · omega
    · refine J_iconst C (v := nI 1) (by decide) dX12_feed_12 ?_
      refine J_goto C 17 (by decide) dX12_feed_13 ?_
      refine J_sub (by exact (And.intro rfl (And.intro rfl (And.intro rfl trivial)))) (Kbad (fun j h1 hj e => by have e := nI_inj (by omega) (by omega) e; omega))
theorem c_M_wipe (I : mdI h m A nt B md fk fp L th) : Cn l yX12_wipe cX12_wipe 2 (some .int) 1 0 0 [.ref m] h (fun r h1 => fr (mdS m A) h h1 ∧ r = some (.int (nI nt)) ∧ ∀ B', mdI h1 m A 0 B' md fk fp L 0) := by
  obtain ⟨g, N, Q, M, T, D9, KN, e1, e2, ML, e0⟩ := I
  have m1 := M.1
  have T1 := T.1
  refine Cn.of (own := RX12) rfl (by decide) (by exact Nat.le_of_ble_eq_true rfl) (by decide) (fun K hK C D _ => ?_)
  first | refine J_aload_n C rfl dX12_wipe_0 ?_ | refine J_aload_nq C rfl dX12_wipe_0 ?_ | refine J_aload_nN C rfl dX12_wipe_0 ?_
  refine J_iconst C (v := nI 0) (by decide) dX12_wipe_1 ?_
  first | refine J_mput C fl_X12_68 (by first | assumption | exact jv_up_at _ _ _) (by decide) (by rfl) (by rfl) dX12_wipe_2 ?_ | refine J_put C fl_X12_68 (by first | assumption | exact jv_up_at _ _ _ | (simp [jv_up, *]; done)) (by exact Nat.le_of_ble_eq_true rfl) (by rfl) (by rfl) dX12_wipe_2 ?_
  first | refine J_aload_n C rfl dX12_wipe_5 ?_ | refine J_aload_nq C rfl dX12_wipe_5 ?_ | refine J_aload_nN C rfl dX12_wipe_5 ?_
  refine J_get C fl_X12_74 (by first | assumption | exact jv_up_at _ _ _ | (simp [jv_up, *]; done)) (by rfl) dX12_wipe_6 ?_
  rw [show va_up g 0 (nI 0) 1 = nI nt from T1]
  refine J_istore_n C (by decide) dX12_wipe_9 ?_
  first | refine J_aload_n C rfl dX12_wipe_10 ?_ | refine J_aload_nq C rfl dX12_wipe_10 ?_ | refine J_aload_nN C rfl dX12_wipe_10 ?_
  refine J_iconst C (v := nI 0) (by decide) dX12_wipe_11 ?_
  first | refine J_mput C fl_X12_74 (by first | assumption | exact jv_up_at _ _ _) (by decide) (by rfl) (by rfl) dX12_wipe_12 ?_ | refine J_put C fl_X12_74 (by first | assumption | exact jv_up_at _ _ _ | (simp [jv_up, *]; done)) (by exact Nat.le_of_ble_eq_true rfl) (by rfl) (by rfl) dX12_wipe_12 ?_
  refine J_iload_n C rfl dX12_wipe_15 ?_
  have M2 := mdl_s (mdl_s M (va_up g 0 (nI 0))) (va_up (va_up g 0 (nI 0)) 1 (nI 0))
  refine J_iret C D ⟨fr_tr (fr_up (Or.inl rfl)) (fr_up (Or.inl rfl)), rfl, fun B' => ⟨_, N, Q, M2, ⟨rfl, Nat.zero_le _, fun i hi => absurd hi (Nat.not_lt_zero i)⟩, D9, KN, e1, e2, ML, rfl⟩⟩ (by omega) (by omega) dX12_wipe_16
theorem c_M_fault (I : mdI h m A nt B md fk fp L th) : Cn l yX12_fault cX12_fault 1 (some .int) 1 0 0 [.ref m] h (fun r h1 => fr (mdS m A) h h1 ∧ r = some (.int (nI fk)) ∧ mdI h1 m A nt B md fk fp L 0) := by
  obtain ⟨g, N, Q, M, T, D9, KN, e1, e2, ML, e0⟩ := I
  have m1 := M.1
  refine Cn.of (own := RX12) rfl (by decide) (by exact Nat.le_of_ble_eq_true rfl) (by decide) (fun K hK C D _ => ?_)
  have X := mdI_th M T D9 KN e1 e2 ML 0 rfl
  first | refine J_aload_n C rfl dX12_fault_0 ?_ | refine J_aload_nq C rfl dX12_fault_0 ?_ | refine J_aload_nN C rfl dX12_fault_0 ?_
  refine J_iconst C (v := nI 0) (by decide) dX12_fault_1 ?_
  first | refine J_mput C fl_X12_68 (by first | assumption | exact jv_up_at _ _ _) (by decide) (by rfl) (by rfl) dX12_fault_2 ?_ | refine J_put C fl_X12_68 (by first | assumption | exact jv_up_at _ _ _ | (simp [jv_up, *]; done)) (by exact Nat.le_of_ble_eq_true rfl) (by rfl) (by rfl) dX12_fault_2 ?_
  first | refine J_aload_n C rfl dX12_fault_5 ?_ | refine J_aload_nq C rfl dX12_fault_5 ?_ | refine J_aload_nN C rfl dX12_fault_5 ?_
  refine J_get C fl_X12_151 (by first | assumption | exact jv_up_at _ _ _ | (simp [jv_up, *]; done)) (by rfl) dX12_fault_6 ?_
  refine J_iret C D ⟨X.2.2, by rw [show va_up g 0 (nI 0) 16 = nI fk from e1], X.1⟩ (by omega) (by omega) dX12_fault_9
theorem c_M_place (I : mdI h m A nt B md fk fp L th) : Cn l yX12_place cX12_place 1 (some .int) 1 0 0 [.ref m] h (fun r h1 => fr (mdS m A) h h1 ∧ r = some (.int fp) ∧ mdI h1 m A nt B md fk fp L 0) := by
  obtain ⟨g, N, Q, M, T, D9, KN, e1, e2, ML, e0⟩ := I
  have m1 := M.1
  refine Cn.of (own := RX12) rfl (by decide) (by exact Nat.le_of_ble_eq_true rfl) (by decide) (fun K hK C D _ => ?_)
  have X := mdI_th M T D9 KN e1 e2 ML 0 rfl
  first | refine J_aload_n C rfl dX12_place_0 ?_ | refine J_aload_nq C rfl dX12_place_0 ?_ | refine J_aload_nN C rfl dX12_place_0 ?_
  refine J_iconst C (v := nI 0) (by decide) dX12_place_1 ?_
  first | refine J_mput C fl_X12_68 (by first | assumption | exact jv_up_at _ _ _) (by decide) (by rfl) (by rfl) dX12_place_2 ?_ | refine J_put C fl_X12_68 (by first | assumption | exact jv_up_at _ _ _ | (simp [jv_up, *]; done)) (by exact Nat.le_of_ble_eq_true rfl) (by rfl) (by rfl) dX12_place_2 ?_
  first | refine J_aload_n C rfl dX12_place_5 ?_ | refine J_aload_nq C rfl dX12_place_5 ?_ | refine J_aload_nN C rfl dX12_place_5 ?_
  refine J_get C fl_X12_42 (by first | assumption | exact jv_up_at _ _ _ | (simp [jv_up, *]; done)) (by rfl) dX12_place_6 ?_
  refine J_iret C D ⟨X.2.2, by rw [show va_up g 0 (nI 0) 17 = fp from e2], X.1⟩ (by omega) (by omega) dX12_place_9
theorem c_M_hit (I : mdI h m A nt B md fk fp L th) (x : Int32) : Cn l yX12_hit cX12_hit 2 (some .int) 1 0 0 [.ref m, .int x] h (fun r h1 => fr (mdS m A) h h1 ∧ ((∃ k y, x = nI k ∧ L[k]? = some y ∧ r = some (.int (nI y.1)) ∧ mdI h1 m A nt B md fk fp L 0) ∨ ((∀ k, k < L.length → x ≠ nI k) ∧ (∃ y, r = some (.int y)) ∧ mdI h1 m A nt B md fk fp L 1))) := by
  obtain ⟨g, N, Q, M, T, D9, KN, e1, e2, ML, e0⟩ := I
  have m1 := M.1
  obtain ⟨l1, l2, l3⟩ := id ML
  refine Cn.of (own := RX12) rfl (by decide) (by exact Nat.le_of_ble_eq_true rfl) (by decide) (fun K hK C D _ => ?_)
  have Kbad : (∀ k, k < L.length → x ≠ nI k) → J K 0 0 18 (jv_l [(1, .int x), (0, .ref m)]) [.int (nI 1), .ref m] h := by
    intro hno
    have X := mdI_th M T D9 KN e1 e2 ML 1 rfl
    first | refine J_mput C fl_X12_68 (by first | assumption | exact jv_up_at _ _ _) (by decide) (by rfl) (by rfl) dX12_hit_18 ?_ | refine J_put C fl_X12_68 (by first | assumption | exact jv_up_at _ _ _ | (simp [jv_up, *]; done)) (by exact Nat.le_of_ble_eq_true rfl) (by rfl) (by rfl) dX12_hit_18 ?_
    first | refine J_aload_n C rfl dX12_hit_21 ?_ | refine J_aload_nq C rfl dX12_hit_21 ?_ | refine J_aload_nN C rfl dX12_hit_21 ?_
    refine J_get C fl_X12_68 (by first | assumption | exact jv_up_at _ _ _ | (simp [jv_up, *]; done)) (by rfl) dX12_hit_22 ?_
    rw [show va_up g 0 (nI 1) 0 = nI 1 from if_pos rfl]
    refine J_nif_le C (by first | omega | (dsimp only; omega)) 32 (by decide) dX12_hit_25 (fun z => ?_) (fun z => ?_)
    · omega
    · refine J_iconst C (v := nI 0) (by decide) dX12_hit_28 ?_
      refine J_goto C 38 (by decide) dX12_hit_29 ?_
      refine J_iret C D ⟨X.2.2, Or.inr ⟨hno, ⟨_, rfl⟩, X.1⟩⟩ (by omega) (by omega) dX12_hit_38
  first | refine J_aload_n C rfl dX12_hit_0 ?_ | refine J_aload_nq C rfl dX12_hit_0 ?_ | refine J_aload_nN C rfl dX12_hit_0 ?_
  refine J_iload_n C rfl dX12_hit_1 ?_
  refine J_if_lt C 13 (by decide) dX12_hit_2 (fun z1 => ?_) (fun z1 => ?_)
  · refine J_iconst C (v := nI 1) (by decide) dX12_hit_13 ?_
    refine J_goto C 18 (by decide) dX12_hit_14 ?_
    refine J_sub (by exact (And.intro rfl (And.intro rfl trivial))) (Kbad (fun k hk e => by rw [e] at z1; exact nI_pos (by omega) z1))
  · obtain ⟨k, hk, rfl⟩ := nI_of z1
    refine J_iload_n C rfl dX12_hit_5 ?_
    first | refine J_aload_n C rfl dX12_hit_6 ?_ | refine J_aload_nq C rfl dX12_hit_6 ?_ | refine J_aload_nN C rfl dX12_hit_6 ?_
    refine J_get C fl_X12_184 (by first | assumption | exact jv_up_at _ _ _ | (simp [jv_up, *]; done)) (by rfl) dX12_hit_7 ?_
    rw [l1]
    refine J_nicmp_lt C (by first | omega | (dsimp only; omega)) (by first | omega | (dsimp only; omega)) 17 (by decide) dX12_hit_10 (fun z2 => ?_) (fun z2 => ?_)
    · have X := mdI_th M T D9 KN e1 e2 ML 0 rfl
      have a20 := X.2.1.2.1 20 _ rfl
      have hx := List.getElem?_eq_getElem z2
      refine J_iconst C (v := nI 0) (by decide) dX12_hit_17 ?_
      first | refine J_mput C fl_X12_68 (by first | assumption | exact jv_up_at _ _ _) (by decide) (by rfl) (by rfl) dX12_hit_18 ?_ | refine J_put C fl_X12_68 (by first | assumption | exact jv_up_at _ _ _ | (simp [jv_up, *]; done)) (by exact Nat.le_of_ble_eq_true rfl) (by rfl) (by rfl) dX12_hit_18 ?_
      first | refine J_aload_n C rfl dX12_hit_21 ?_ | refine J_aload_nq C rfl dX12_hit_21 ?_ | refine J_aload_nN C rfl dX12_hit_21 ?_
      refine J_get C fl_X12_68 (by first | assumption | exact jv_up_at _ _ _ | (simp [jv_up, *]; done)) (by rfl) dX12_hit_22 ?_
      rw [show va_up g 0 (nI 0) 0 = nI 0 from if_pos rfl]
      refine J_nif_le C (by first | omega | (dsimp only; omega)) 32 (by decide) dX12_hit_25 (fun z => ?_) (fun z => ?_)
      · first | refine J_aload_n C rfl dX12_hit_32 ?_ | refine J_aload_nq C rfl dX12_hit_32 ?_ | refine J_aload_nN C rfl dX12_hit_32 ?_
        refine J_get C fl_X12_49 (by first | assumption | exact jv_up_at _ _ _ | (simp [jv_up, *]; done)) (by rfl) dX12_hit_33 ?_
        refine J_iload_n C rfl dX12_hit_36 ?_
        refine J_iald C (by first | assumption | exact jv_up_at _ _ _ | (simp [jv_up, *]; done)) rfl (by omega) (by omega) dX12_hit_37 ?_
        refine J_iret C D ⟨X.2.2, Or.inl ⟨k, _, rfl, hx, by rw [(l3 k _ hx).1], X.1⟩⟩ (by omega) (by omega) dX12_hit_38
      · omega
    · refine J_iconst C (v := nI 1) (by decide) dX12_hit_13 ?_
      refine J_goto C 18 (by decide) dX12_hit_14 ?_
      refine J_sub (by exact (And.intro rfl (And.intro rfl trivial))) (Kbad (fun j hj e => by have e := nI_inj (by omega) (by omega) e; omega))
theorem c_M_score (I : mdI h m A nt B md fk fp L th) (x : Int32) : Cn l yX12_score cX12_score 2 (some .int) 1 0 0 [.ref m, .int x] h (fun r h1 => fr (mdS m A) h h1 ∧ ((∃ k y, x = nI k ∧ L[k]? = some y ∧ r = some (.int y.2) ∧ mdI h1 m A nt B md fk fp L 0) ∨ ((∀ k, k < L.length → x ≠ nI k) ∧ (∃ y, r = some (.int y)) ∧ mdI h1 m A nt B md fk fp L 1))) := by
  obtain ⟨g, N, Q, M, T, D9, KN, e1, e2, ML, e0⟩ := I
  have m1 := M.1
  obtain ⟨l1, l2, l3⟩ := id ML
  refine Cn.of (own := RX12) rfl (by decide) (by exact Nat.le_of_ble_eq_true rfl) (by decide) (fun K hK C D _ => ?_)
  have Kbad : (∀ k, k < L.length → x ≠ nI k) → J K 0 0 18 (jv_l [(1, .int x), (0, .ref m)]) [.int (nI 1), .ref m] h := by
    intro hno
    have X := mdI_th M T D9 KN e1 e2 ML 1 rfl
    first | refine J_mput C fl_X12_68 (by first | assumption | exact jv_up_at _ _ _) (by decide) (by rfl) (by rfl) dX12_score_18 ?_ | refine J_put C fl_X12_68 (by first | assumption | exact jv_up_at _ _ _ | (simp [jv_up, *]; done)) (by exact Nat.le_of_ble_eq_true rfl) (by rfl) (by rfl) dX12_score_18 ?_
    first | refine J_aload_n C rfl dX12_score_21 ?_ | refine J_aload_nq C rfl dX12_score_21 ?_ | refine J_aload_nN C rfl dX12_score_21 ?_
    refine J_get C fl_X12_68 (by first | assumption | exact jv_up_at _ _ _ | (simp [jv_up, *]; done)) (by rfl) dX12_score_22 ?_
    rw [show va_up g 0 (nI 1) 0 = nI 1 from if_pos rfl]
    refine J_nif_le C (by first | omega | (dsimp only; omega)) 32 (by decide) dX12_score_25 (fun z => ?_) (fun z => ?_)
    · omega
    · refine J_iconst C (v := nI 0) (by decide) dX12_score_28 ?_
      refine J_goto C 38 (by decide) dX12_score_29 ?_
      refine J_iret C D ⟨X.2.2, Or.inr ⟨hno, ⟨_, rfl⟩, X.1⟩⟩ (by omega) (by omega) dX12_score_38
  first | refine J_aload_n C rfl dX12_score_0 ?_ | refine J_aload_nq C rfl dX12_score_0 ?_ | refine J_aload_nN C rfl dX12_score_0 ?_
  refine J_iload_n C rfl dX12_score_1 ?_
  refine J_if_lt C 13 (by decide) dX12_score_2 (fun z1 => ?_) (fun z1 => ?_)
  · refine J_iconst C (v := nI 1) (by decide) dX12_score_13 ?_
    refine J_goto C 18 (by decide) dX12_score_14 ?_
    refine J_sub (by exact (And.intro rfl (And.intro rfl trivial))) (Kbad (fun k hk e => by rw [e] at z1; exact nI_pos (by omega) z1))
  · obtain ⟨k, hk, rfl⟩ := nI_of z1
    refine J_iload_n C rfl dX12_score_5 ?_
    first | refine J_aload_n C rfl dX12_score_6 ?_ | refine J_aload_nq C rfl dX12_score_6 ?_ | refine J_aload_nN C rfl dX12_score_6 ?_
    refine J_get C fl_X12_184 (by first | assumption | exact jv_up_at _ _ _ | (simp [jv_up, *]; done)) (by rfl) dX12_score_7 ?_
    rw [l1]
    refine J_nicmp_lt C (by first | omega | (dsimp only; omega)) (by first | omega | (dsimp only; omega)) 17 (by decide) dX12_score_10 (fun z2 => ?_) (fun z2 => ?_)
    · have X := mdI_th M T D9 KN e1 e2 ML 0 rfl
      have a21 := X.2.1.2.1 21 _ rfl
      have hx := List.getElem?_eq_getElem z2
      refine J_iconst C (v := nI 0) (by decide) dX12_score_17 ?_
      first | refine J_mput C fl_X12_68 (by first | assumption | exact jv_up_at _ _ _) (by decide) (by rfl) (by rfl) dX12_score_18 ?_ | refine J_put C fl_X12_68 (by first | assumption | exact jv_up_at _ _ _ | (simp [jv_up, *]; done)) (by exact Nat.le_of_ble_eq_true rfl) (by rfl) (by rfl) dX12_score_18 ?_
      first | refine J_aload_n C rfl dX12_score_21 ?_ | refine J_aload_nq C rfl dX12_score_21 ?_ | refine J_aload_nN C rfl dX12_score_21 ?_
      refine J_get C fl_X12_68 (by first | assumption | exact jv_up_at _ _ _ | (simp [jv_up, *]; done)) (by rfl) dX12_score_22 ?_
      rw [show va_up g 0 (nI 0) 0 = nI 0 from if_pos rfl]
      refine J_nif_le C (by first | omega | (dsimp only; omega)) 32 (by decide) dX12_score_25 (fun z => ?_) (fun z => ?_)
      · first | refine J_aload_n C rfl dX12_score_32 ?_ | refine J_aload_nq C rfl dX12_score_32 ?_ | refine J_aload_nN C rfl dX12_score_32 ?_
        refine J_get C fl_X12_52 (by first | assumption | exact jv_up_at _ _ _ | (simp [jv_up, *]; done)) (by rfl) dX12_score_33 ?_
        refine J_iload_n C rfl dX12_score_36 ?_
        refine J_iald C (by first | assumption | exact jv_up_at _ _ _ | (simp [jv_up, *]; done)) rfl (by omega) (by omega) dX12_score_37 ?_
        refine J_iret C D ⟨X.2.2, Or.inl ⟨k, _, rfl, hx, by rw [(l3 k _ hx).2], X.1⟩⟩ (by omega) (by omega) dX12_score_38
      · omega
    · refine J_iconst C (v := nI 1) (by decide) dX12_score_13 ?_
      refine J_goto C 18 (by decide) dX12_score_14 ?_
      refine J_sub (by exact (And.intro rfl (And.intro rfl trivial))) (Kbad (fun j hj e => by have e := nI_inj (by omega) (by omega) e; omega))
end MFEED
