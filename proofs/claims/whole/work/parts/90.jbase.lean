/-! the law: the script read; both sides between two calls -/
def JY (K : jT) (b L : Nat) (xs : Nat → Int32) : Prop := match K with
  | (p, l, e, R, s, m, args, below, meth, c, G, A, Q) => va_X b L xs s s.heap ∧ b < s.heap.size ∧ ¬ A b
section JBASE
variable {K : jT} {cc : ByteArray} {nL : Nat} {own : String} {fr0 mc ms cells slots pc : Nat} {lv : Nat → Option Value} {rest : List Value} {h h1 h2 : jH}
theorem J_sld (C : JC K cc nL own fr0 mc ms) {sb N : Nat} {xs : Nat → Int32} (Y : JY K sb N xs) {i : Int32} {j : Nat} (hi : i = nI j) (hj : j < N) (hN : N ≤ 256) (d : decode cc pc = .ok (.iaload, 1)) (kk : J K cells slots (pc + 1) lv (.int (xs j) :: rest) h) : J K cells slots pc lv (.int i :: .ref sb :: rest) h := by
  obtain ⟨p, l, e, R, s, m, args, below, meth, c, G, A, Q⟩ := K
  intro H locs ls hl hR hA hS
  subst hi
  exact va_sld C.1 C.2.1 Y.1 Y.2.1 Y.2.2 hS (vp_in_nI hj (by omega)) d (by rw [nI_clamp (by omega)]; exact kk H locs ls hl hR hA hS)
theorem J_slen (C : JC K cc nL own fr0 mc ms) {sb N : Nat} {xs : Nat → Int32} (Y : JY K sb N xs) (d : decode cc pc = .ok (.arraylength, 1)) (kk : J K cells slots (pc + 1) lv (.int (nI N) :: rest) h) : J K cells slots pc lv (.ref sb :: rest) h := by
  obtain ⟨p, l, e, R, s, m, args, below, meth, c, G, A, Q⟩ := K
  intro H locs ls hl hR hA hS
  exact va_slen C.1 C.2.1 Y.1 Y.2.1 Y.2.2 hS d (kk H locs ls hl hR hA hS)
theorem lg_self (x : Int64) : lg_cmp x x = 0 := by
  unfold lg_cmp
  rw [if_neg (Int64.lt_irrefl), if_pos rfl]
variable {l : jL} {r t tb b q ta s a an ap nt m o c : Nat} {tt A : Nat → Nat} {f : Nat → Int32} {ds md : dsT} {V : List Int64} {j fk th : Nat} {fp : Int32} {L : List hiT} {g : Nat → Int64}
theorem libI_len (B : libI l h b ds V j) : V.length ≤ 200 * j := by
  obtain ⟨DL, num, wl, da, dd, dc, x, xa, xd, xc, W, SW, SP, lt, len, PD, QW, tot, tm, pa, nx, fi, sf, n, B, B2, B3, B4, B5, B6, B7, B8, rfl⟩ := B
  rw [List.length_map]
  exact B7.2.2
theorem toldA_perm (P : md.Perm ds) (k : Nat) : toldA md V k = toldA ds V k := by
  unfold toldA
  split <;> first | rfl | exact P.length_eq | exact dsN_perm P
theorem aboutA_perm (P : md.Perm ds) (w : Option Int64) (k : Nat) : aboutA md w k = aboutA ds w k := by
  unfold aboutA
  cases w with
  | none => rfl
  | some w => simp only [dsH_perm P, dsC_perm P, P.length_eq]
theorem text_isWd (f : Nat → Int32) (nt : Nat) : ∀ w ∈ sp_text (sp_B f) nt, isWd w := text_wd _ _ _ _
theorem c_M_th {B : Nat → Nat} (M : mdI h m A nt B md fk fp L th) : Cn l yX12_thrown cX12_thrown 1 (some .int) 1 0 0 [.ref m] h (fun r h1 => r = some (.int (nI th)) ∧ h1 = h) := by
  obtain ⟨g, N, Q, M, -, -, -, -, -, -, e0⟩ := M
  rw [← e0]
  exact c_M_thrown M
theorem md_m {B : Nat → Nat} (M : mdI h m A nt B md fk fp L th) : ∃ fs, h m = some (.inr (11, fs)) := by
  obtain ⟨g, N, Q, M, -⟩ := M
  exact ⟨_, M.1⟩
/-- both, whatever they hold -/
def jx (l : jL) (h : jH) (r m o c th : Nat) (g : Nat → Int64) : Prop := ∃ t tb b q ta tt s a an ap nt f ds V j fk fp L A md, jn l h r t tb b q ta tt s a an ap nt f ds V j fk fp L m A md th o g ∧ j ≤ c
/-- how the answers agree -/
def Ag (q y : Int32) (th : Nat) (g : Nat → Int64) : Prop := (q = nI 0 ∧ th = 0 ∧ g 0 = y.toInt64) ∨ (q = nI 1 ∧ th = 1)
theorem jx_th (X : jx l h r m o c th g) : (∃ fs, h m = some (.inr (11, fs))) ∧ (∃ fs, h r = some (.inr (10, fs))) ∧ h o = some (.inl (3, 1, .inr (.inl g))) ∧ Cn l yX12_thrown cX12_thrown 1 (some .int) 1 0 0 [.ref m] h (fun r h1 => r = some (.int (nI th)) ∧ h1 = h) := by
  obtain ⟨t, tb, b, q, ta, tt, s, a, an, ap, nt, f, ds, V, j, fk, fp, L, A, md, ⟨I, M, P, wd, ho, sep⟩, hj⟩ := X
  exact ⟨md_m M, ⟨_, I.1⟩, ho, c_M_th M⟩
/-- the answer's array, where the class has gone -/
theorem jn_out (X : jn l h r t tb b q ta tt s a an ap nt f ds V j fk fp L m A md th o g) (F : h1 = h ∨ fr (rkS h t tb q tt s a an ap) h h1) : h1 o = some (.inl (3, 1, .inr (.inl g))) := by
  obtain ⟨I, M, P, wd, ho, sep⟩ := X
  rcases F with rfl | F
  · exact ho
  · obtain ⟨i1, ⟨i2, i3, -⟩, -, -, -, ⟨lim, fN, fP, ⟨b1, b2, b3, -⟩, -⟩, -⟩ := id I
    exact (rk_out I F (Or.inr ⟨⟨3, _, ho, by decide, by decide, by decide⟩, (fun z => by rw [z, b2] at ho; cases ho), (fun z => by rw [z, b3] at ho; cases ho)⟩)).trans ho
/-- where the model has gone behind the class -/
theorem jx_mk {nt0 fk0 th0 : Nat} {fp0 : Int32} {L0 : List hiT} {md0 : dsT} {B0 : Nat → Nat} (I : rkI l h1 r t tb b q ta tt s a an ap nt f ds V j fk fp L) (M : mdI h1 m A nt0 B0 md0 fk0 fp0 L0 th0) (sep : ∀ k, mdK k = true → A k ≠ an ∧ A k ≠ ap ∧ A k ≠ o) (ho : h1 o = some (.inl (3, 1, .inr (.inl g)))) (F : fr (mdS m A) h1 h2) (M2 : mdI h2 m A nt (sp_B f) md fk fp L th) (P : md.Perm ds) (wd : ∀ p ∈ ds, ∀ w ∈ p.2, isWd w) (hj : j ≤ c) : jx l h2 r m o c th g := by
  have nS : ∀ y, mdS m A y → notR h1 an ap y := by
    obtain ⟨g, N, Q, M, -⟩ := M
    rintro y (rfl | ⟨k, hk, rfl⟩)
    · exact Or.inl ⟨_, M.1⟩
    · obtain ⟨kd, v, e, hkd⟩ := mdR_of (N := N) (Q := Q) hk
      exact Or.inr ⟨⟨kd, v, M.2.1 k _ e, by omega, by omega, by omega⟩, (sep k hk).1, (sep k hk).2.1⟩
  refine ⟨t, tb, b, q, ta, tt, s, a, an, ap, nt, f, ds, V, j, fk, fp, L, A, md, ⟨rk_stay I F nS, M2, P, wd, (F o (fun z => ?_)).trans ho, sep⟩, hj⟩
  rcases z with z | ⟨k, hk, z⟩
  · obtain ⟨fs, e⟩ := md_m M
    exact jv_neA e ho z.symm
  · exact (sep k hk).2.2 z.symm
theorem jn_keys (X : jn l h r t tb b q ta tt s a an ap nt f ds V j fk fp L m A md th o g) : (md.map (·.1)).Nodup :=
  (X.2.2.1.map _).nodup_iff.mpr X.1.2.2.2.2.2.2.1
theorem jn_pos (X : jn l h r t tb b q ta tt s a an ap nt f ds V j fk fp L m A md th o g) : posW md := fun p hp w hw => isWd_pos (X.2.2.2.1 p (X.2.2.1.mem_iff.mp hp) w hw)
theorem jn_lex (X : jn l h r t tb b q ta tt s a an ap nt f ds V j fk fp L m A md th o g) : isLex md V := isLex_perm X.2.2.1.symm (libI_lex X.1.2.2.1)
end JBASE
