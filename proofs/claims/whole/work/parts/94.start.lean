/-! the law's entry: what the Statement gives of the start, in this proof's words; the room; the first rows -/
theorem hasRoom_le {s : State} {pl : Platform} {r r1 : Room} (h : s.hasRoom pl r = true) (h1 : r1.frames ≤ r.frames) (h2 : r1.cells ≤ r.cells) (h3 : r1.slots ≤ r.slots) (h4 : r1.locals ≤ r.locals) : s.hasRoom pl r1 = true := by
  simp only [State.hasRoom, Bool.and_eq_true, decide_eq_true_eq] at h ⊢
  obtain ⟨⟨⟨⟨a, b1, b2, b3, b4, b5⟩, c⟩, d⟩, e⟩ := h
  exact ⟨⟨⟨⟨by omega, by omega, by omega, by omega, by omega, b5⟩, by omega⟩, by omega⟩, e⟩
theorem W_room {p : Program} {l : Launch} {e : Env} {R R1 : Room} {s : State} {m : MethodId} {args : Array Value} {below : List Frame} {meth : Method} {c : Code} {H : Heap} {locs : List Loc} {cells slots : Nat} {Q : State → Prop} {g : JFrame} (h1 : R1.frames ≤ R.frames) (h2 : R1.cells ≤ R.cells) (h3 : R1.slots ≤ R.slots) (h4 : R1.locals ≤ R.locals) (kk : W p l e R1 s m args below meth c H locs cells slots Q g) : W p l e R s m args below meth c H locs cells slots Q g :=
  fun T hT X => kk T hT ⟨X.admits, X.cas, X.clock, X.frames, hasRoom_le X.room h1 h2 h3 h4, X.hears, X.method, X.code, X.here, X.tail, X.warmed, X.limits, X.bytes, X.same⟩
section KNOWN
variable {s : State} {args : Array Value}
theorem kn_of {own : String} {i ci N : Nat} {fs : List Value} (F : NW own i ci N fs) (hts : ∀ w ∈ jv_T, w.before args s = true) : ∃ (cC : ClassId) (iS : Nat → Nat), ∀ q : vw_C, jv_cl[ci]? = some q → u_Kn s q.1 q.2.1 q.2.2 cC iS := by
  obtain ⟨CC, T, e, -, h2, -, h4, -⟩ := F
  obtain ⟨cC, iS, h⟩ := u_known hts h4 (hts _ h2)
  exact ⟨cC, iS, fun q hq => by rw [e] at hq; cases hq; exact h⟩
theorem kn_all (hts : ∀ w ∈ jv_T, w.before args s = true) : ∃ (dC : Nat → ClassId) (dI : Nat → Nat → Nat), ∀ (ci : Nat) (q : vw_C), jv_cl[ci]? = some q → u_Kn s q.1 q.2.1 q.2.2 (dC ci) (dI ci) := by
  have key : ∀ ci : Nat, ∃ (cC : ClassId) (iS : Nat → Nat), ∀ q : vw_C, jv_cl[ci]? = some q → u_Kn s q.1 q.2.1 q.2.2 cC iS := fun ci => match ci with
    | 0 => kn_of nw_X11_37 hts
    | 1 => kn_of nw_X4_40 hts
    | 2 => kn_of nw_X4_18 hts
    | 3 => kn_of nw_X11_16 hts
    | 4 => kn_of nw_X4_97 hts
    | 5 => kn_of nw_X11_23 hts
    | 6 => kn_of nw_X11_30 hts
    | 7 => kn_of nw_X11_9 hts
    | 8 => kn_of nw_X6_9 hts
    | 9 => kn_of nw_X3_26 hts
    | 10 => kn_of nw_L_8 hts
    | 11 => kn_of nw_L_45 hts
    | 12 => kn_of nw_X4_9 hts
    | n + 13 => by
      obtain ⟨cC, iS, -⟩ := kn_of nw_L_8 hts
      exact ⟨cC, iS, fun q hq => by
        have : n + 13 < 13 := (List.getElem?_eq_some_iff.mp hq).1
        omega⟩
  exact ⟨fun ci => Classical.choose (key ci), fun ci => Classical.choose (Classical.choose_spec (key ci)), fun ci => Classical.choose_spec (Classical.choose_spec (key ci))⟩
theorem ka_prim {ty : FieldType} (h : (Cond.arrayClass ty).before args s = true) (hra : ∀ cA : ClassId, va_RA s cA ty ↔ s.vm.findClass ("[" ++ ty.toString) = some cA) (hno : ∀ k, ty ≠ .object k) : ∃ cA : ClassId, ArrOfT s cA ty ∧ va_RA s cA ty := by
  obtain ⟨cA, kA, comp, h1, h2, h3⟩ := Cond.arrayClass_spec h
  exact ⟨cA, fun n z => ⟨fun k h => (by cases h), kA, h2, comp, h3⟩, (hra cA).mpr h1⟩
theorem ka_obj {CC : String} (h : (Cond.arrayOver (.object CC)).before args s = true) : ∃ cA : ClassId, ArrOfT s cA (.object CC) ∧ va_RA s cA (.object CC) := by
  obtain ⟨comp, cA, kA, h1, h2, h3, h4, h5⟩ := Cond.arrayOver_spec h
  exact ⟨cA, fun n z => ⟨fun k h => (by cases h), kA, h3, comp, h4⟩, kA, comp, h3, h4, h1, h5⟩
theorem kn_N (hts : ∀ w ∈ tables_1, w.before args s = true) : jv_N s := by
  intro w hw
  obtain ⟨hm, hk⟩ := List.mem_filter.mp hw
  have h := hts w hm
  cases w with
  | arrayOver ty => cases ty with
    | object C => exact va_AO.of h
    | _ => exact absurd (show false = true from hk) Bool.false_ne_true
  | fieldLinkNest _ _ _ _ _ _ => exact va_Nw.of rfl h
  | methodLinkNest _ _ _ _ => exact va_Nw.of rfl h
  | castable _ _ => exact va_Nw.of rfl h
  | declares _ => exact va_Nw.of rfl h
  | _ => exact absurd (show false = true from hk) Bool.false_ne_true
theorem kn_K (hts : ∀ w ∈ jv_T, w.before args s = true) (hN : jv_N s) : ∃ (g : va_G) (aC : Nat → ClassId), ∀ e mi : Nat, jv_K (g, aC, e, mi) s := by
  obtain ⟨dC, dI, h⟩ := kn_all hts
  obtain ⟨a0, b0⟩ := ka_prim (hts _ ac_int) (fun _ => Iff.rfl) (fun k z => by cases z)
  obtain ⟨a1, b1⟩ := ka_prim (hts _ ac_byte) (fun _ => Iff.rfl) (fun k z => by cases z)
  obtain ⟨a2, b2⟩ := ka_prim (hts _ ac_boolean) (fun _ => Iff.rfl) (fun k z => by cases z)
  obtain ⟨a3, b3⟩ := ka_prim (hts _ ac_long) (fun _ => Iff.rfl) (fun k z => by cases z)
  obtain ⟨a4, b4⟩ := ka_obj (hN.use (args := args) ao_Object)
  obtain ⟨a5, b5⟩ := ka_obj (hN.use (args := args) ao_Term)
  refine ⟨(dC, dI), fun k => match k with
    | 0 => a0
    | 1 => a1
    | 2 => a2
    | 3 => a3
    | 4 => a4
    | _ => a5, fun e mi => ⟨h, fun k q hk => ?_⟩⟩
  match k, hk with
  | 0, hk => cases hk; exact b0
  | 1, hk => cases hk; exact b1
  | 2, hk => cases hk; exact b2
  | 3, hk => cases hk; exact b3
  | 4, hk => cases hk; exact b4
  | 5, hk => cases hk; exact b5
  | n + 6, hk =>
    have : n + 6 < 6 := (List.getElem?_eq_some_iff.mp hk).1
    omega
end KNOWN
section START
variable {l : jL} {h h1 : jH} {r t tb b q ta s a an ap nt : Nat} {tt : Nat → Nat} {f : Nat → Int32} {ds : dsT} {V : List Int64} {j fk : Nat} {fp : Int32} {L : List hiT}
theorem rk_exA (I : rkI l h r t tb b q ta tt s a an ap nt f ds V j fk fp L) (E : exA h h1) : rkI l h1 r t tb b q ta tt s a an ap nt f ds V j fk fp L := by
  have st : ∀ {y : Nat} {z : jE}, h y = some z → h1 y = h y := fun {y z} e => (E y z e).trans e.symm
  have K := libI_keep (h1 := h1) I.2.2.1 (fun y _ hz => st hz.choose_spec)
  obtain ⟨i1, ⟨i2, i3, i3b⟩, i4, ⟨cur, qs, i9⟩, ⟨nd, i5⟩, ⟨lim, i6⟩, i7⟩ := I
  obtain ⟨y1, ⟨g, y2, y3⟩, y4, y5⟩ := id i9
  obtain ⟨fN, fP, ⟨b1, b2, b3, -⟩, -⟩ := id i6
  refine ⟨E _ _ i1, ⟨E _ _ i2, E _ _ i3, i3b⟩, K, ⟨cur, qs, qy_up2 i9 (st y1) (st y2) (fun i hi => st (y4 i hi))⟩, ⟨nd, E _ _ i5⟩, ⟨lim, bs_up i6 (fun y hy => ?_)⟩, i7⟩
  rcases hy with rfl | rfl | rfl
  · exact st b1
  · exact st b2
  · exact st b3
theorem rk_an (I : rkI l h r t tb b q ta tt s a an ap nt f ds V j fk fp L) : (∃ z, h an = some z) ∧ ∃ z, h ap = some z := by
  obtain ⟨-, -, -, -, -, ⟨lim, fN, fP, ⟨-, b2, b3, -⟩, -⟩, -⟩ := I
  exact ⟨⟨_, b2⟩, ⟨_, b3⟩⟩
theorem md_some {m : Nat} {A : Nat → Nat} {B : Nat → Nat} {md : dsT} {th : Nat} (M : mdI h m A nt B md fk fp L th) : ∀ y, mdS m A y → ∃ z, h y = some z := by
  obtain ⟨g, N, Q, M, -⟩ := M
  rintro y (rfl | ⟨k, hk, rfl⟩)
  · exact ⟨_, M.1⟩
  · obtain ⟨kd, v, e, -⟩ := mdR_of (N := N) (Q := Q) hk
    exact ⟨_, M.2.1 k _ e⟩
end START
section GO
variable {K : jT} {sb N : Nat} {xs : Nat → Int32}
theorem law_go (C : JC K cL_law 7 RL 1600 600128 7301098) (S : JS K) (Y : JY K sb N xs) (hN : N ≤ 256) (fin : ∀ cells slots lv h, cells ≤ 600128 → slots ≤ 7301098 → J K cells slots 743 lv [.int 1] h) : J K 0 0 0 (jv_l [(0, .ref sb)]) [] (fun _ => none) := by
  refine J_new C nw_L_8 (by omega) (by omega) dL_law_0 (fun r hr => ?_)
  refine J_dup C rfl dL_law_3 ?_
  refine J_callI C (c_R_init (jv_up_at _ _ _)) cw_L_44 rfl rfl (by exact Nat.le_of_ble_eq_true rfl) (by decide) (by omega) (by omega) dL_law_4 ?_
  rintro _ h1 ⟨rfl, E1, t, tb, b, q, ta, tt, s, a, an, ap, f, I⟩
  first | refine J_astore_nq C (by decide) dL_law_7 ?_ | refine J_astore_n C (by decide) dL_law_7 ?_ | refine J_astore_nN C (by decide) dL_law_7 ?_
  refine J_new C nw_L_45 (by omega) (by omega) dL_law_8 (fun m hm => ?_)
  refine J_dup C rfl dL_law_11 ?_
  refine J_callI C (c_M_init (jv_up_at _ _ _)) cw_L_47 rfl rfl (by exact Nat.le_of_ble_eq_true rfl) (by decide) (by omega) (by omega) dL_law_12 ?_
  rintro _ h2 ⟨rfl, E2, A, hA, M⟩
  first | refine J_astore_nq C (by decide) dL_law_15 ?_ | refine J_astore_n C (by decide) dL_law_15 ?_ | refine J_astore_nN C (by decide) dL_law_15 ?_
  refine J_iconst C (v := nI 1) (by decide) dL_law_16 ?_
  refine J_newJ C ac_long (N := 1) rfl (by decide) (by decide) (by omega) (by omega) dL_law_17 (fun o ho => ?_)
  first | refine J_astore_nq C (by decide) dL_law_19 ?_ | refine J_astore_n C (by decide) dL_law_19 ?_ | refine J_astore_nN C (by decide) dL_law_19 ?_
  refine J_iconst C (v := nI 0) (by decide) dL_law_20 ?_
  refine J_istore C (by decide) dL_law_21 ?_
  have E3 : exA h1 (jv_up h2 o (.inl (3, 1, .inr (.inl (fun _ => 0))))) := fun y z e => by
    have n1 : y ≠ m := fun c => by rw [c, hm] at e; cases e
    have e2 := E2 y z (jv_up_of n1 e) n1
    exact jv_up_of (fun c => by rw [c, ho] at e2; cases e2) e2
  have M2 := md_zero (B' := sp_B f) (md_stay (h1 := jv_up h2 o (.inl (3, 1, .inr (.inl (fun _ => 0))))) M (fun y hy => jv_up_ne (fun c => by
    obtain ⟨z, e⟩ := md_some M y hy
    rw [c, ho] at e
    cases e)))
  obtain ⟨⟨z1, n1⟩, ⟨z2, n2⟩⟩ := rk_an I
  have sep : ∀ k, mdK k = true → A k ≠ an ∧ A k ≠ ap ∧ A k ≠ o := fun k hk => by
    have e := hA k hk
    refine ⟨fun c => ?_, fun c => ?_, fun c => ?_⟩
    · rw [c, jv_up_of (fun c => by rw [c, hm] at n1; cases n1) n1] at e
      cases e
    · rw [c, jv_up_of (fun c => by rw [c, hm] at n2; cases n2) n2] at e
      cases e
    · obtain ⟨z, e3⟩ := md_some M (A k) (Or.inr ⟨k, hk, rfl⟩)
      rw [c, ho] at e3
      cases e3
  have X : jx (jv_lk K) (jv_up h2 o (.inl (3, 1, .inr (.inl (fun _ => 0))))) r m o 0 0 (fun _ => 0) := ⟨t, tb, b, q, ta, tt, s, a, an, ap, 0, f, [], [], 0, 0, -1, [], A, [], ⟨rk_exA I E3, M2, List.Perm.refl _, fun p hp => (by cases hp), jv_up_at _ _ _, sep⟩, Nat.le_refl _⟩
  refine J_sub (by exact (And.intro rfl (And.intro rfl (And.intro rfl (And.intro rfl (And.intro rfl trivial)))))) (law_loop C S Y hN fin 65 0 0 _ _ _ 0 _ rfl (Nat.zero_le _) (by omega) (by omega) (by omega) X)
end GO
