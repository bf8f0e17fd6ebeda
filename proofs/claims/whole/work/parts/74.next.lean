/-! the model: nextWord, told, word -/
def nxP (P : Int64 → Prop) (last next : Int64) : Prop := (next = -1 ∧ ∀ w, P w → ¬ last < w) ∨ (P next ∧ last < next ∧ ∀ w, P w → last < w → next ≤ w)
def wdP (md : dsT) (d : Nat) (ws : List Int64) (k : Nat) (w : Int64) : Prop := (∃ p ∈ md.take d, w ∈ p.2) ∨ w ∈ ws.take k
theorem nxP_iff {P P' : Int64 → Prop} (h : ∀ w, P w ↔ P' w) {last next : Int64} (n : nxP P last next) : nxP P' last next := by
  rcases n with ⟨a, b⟩ | ⟨a, b, c⟩
  · exact Or.inl ⟨a, fun w hw => b w ((h w).mpr hw)⟩
  · exact Or.inr ⟨(h _).mp a, b, fun w hw => c w ((h w).mpr hw)⟩
theorem wdP_end {md : dsT} {d : Nat} {p : Nat × List Int64} (hd : md[d]? = some p) (w : Int64) : wdP md d p.2 p.2.length w ↔ wdP md (d + 1) [] 0 w := by
  unfold wdP
  rw [List.take_length, List.take_add_one, hd, List.take_zero]
  constructor
  · rintro (⟨q, q1, q2⟩ | q)
    · exact Or.inl ⟨q, List.mem_append_left _ q1, q2⟩
    · exact Or.inl ⟨p, List.mem_append_right _ List.mem_cons_self, q⟩
  · rintro (⟨q, q1, q2⟩ | q)
    · rcases List.mem_append.mp q1 with z | z
      · exact Or.inl ⟨q, z, q2⟩
      · have : q = p := List.mem_singleton.mp z
        exact Or.inr (this ▸ q2)
    · cases q
theorem wdP_step {md : dsT} {d k : Nat} {ws : List Int64} {u : Int64} (hu : ws[k]? = some u) (w : Int64) : wdP md d ws (k + 1) w ↔ wdP md d ws k w ∨ w = u := by
  unfold wdP
  have ht : ws.take (k + 1) = ws.take k ++ [u] := by rw [List.take_add_one, hu]; rfl
  rw [ht, List.mem_append, List.mem_singleton, or_assoc]
/-- all words are not below 0 -/
def posW (md : dsT) : Prop := ∀ p ∈ md, ∀ w ∈ p.2, (0 : Int64) ≤ w
section NEXTW
variable {l : jL} {h : jH} {m : Nat} {A : Nat → Nat} {g : Nat → Int32} {N : Nat → Nat → Int32} {Q : Nat → Nat → Int64} {md : dsT} {nt : Nat} {B : Nat → Nat} {fk th : Nat} {fp : Int32} {L : List hiT}
set_option maxHeartbeats 1000000 in
theorem c_M_next (M : mdl h m A g N Q) (D9 : mdD g N Q md) (PW : posW md) (last : Int64) : Cn l yX12_nextWord cX12_nextWord 7 (some .long) 1 0 0 [.ref m, .long last] h (fun r h1 => h1 = h ∧ ∃ next, r = some (.long next) ∧ nxP (fun w => ∃ p ∈ md, w ∈ p.2) last next) := by
  obtain ⟨t1, t2, t3⟩ := id D9
  have m1 := M.1
  have a5 := M.2.1 5 _ rfl
  have a6 := M.2.1 6 _ rfl
  refine Cn.of (own := RX12) rfl (by decide) (by exact Nat.le_of_ble_eq_true rfl) (by decide) (fun K hK C D _ => ?_)
  have outer : ∀ (n d : Nat) (next : Int64), d + n = md.length → nxP (wdP md d [] 0) last next → J K 0 0 7 (jv_l [(5, .int (nI d)), (3, .long next), (1, .long last), (0, .ref m)]) [] h := by
    intro n
    induction n with
    | zero =>
      intro d next hd hp
      have hd : d = md.length := hd
      refine J_iload C rfl dX12_nextWord_7 ?_
      first | refine J_aload_n C rfl dX12_nextWord_9 ?_ | refine J_aload_nq C rfl dX12_nextWord_9 ?_ | refine J_aload_nN C rfl dX12_nextWord_9 ?_
      refine J_get C fl_X12_85 (by first | assumption | exact jv_up_at _ _ _ | (simp [jv_up, *]; done)) (by rfl) dX12_nextWord_10 ?_
      rw [t1]
      refine J_nicmp_ge C (by first | omega | (dsimp only; omega)) (by first | omega | (dsimp only; omega)) 97 (by decide) dX12_nextWord_13 (fun z => ?_) (fun z => ?_)
      · refine J_lload_n C rfl dX12_nextWord_97 ?_
        refine J_lret C D ⟨rfl, next, rfl, nxP_iff (fun w => by unfold wdP; rw [hd, List.take_length, List.take_nil]; exact ⟨fun z => z.elim id (fun z => by cases z), Or.inl⟩) hp⟩ (by omega) (by omega) dX12_nextWord_98
      · omega
    | succ n ih =>
      intro d next hd hp
      have hx := List.getElem?_eq_getElem (l := md) (i := d) (by omega)
      generalize md[d]'(by omega) = p at hx
      obtain ⟨p1, p2, p3, p4, p5⟩ := t3 d p hx
      have hpm := List.mem_of_getElem? hx
      have inner : ∀ (n2 k : Nat) (next : Int64), k + n2 = p.2.length → nxP (wdP md d p.2 k) last next → J K 0 0 24 (jv_l [(6, .int (nI (200 * d + k))), (5, .int (nI d)), (3, .long next), (1, .long last), (0, .ref m)]) [] h := by
        intro n2
        induction n2 with
        | zero =>
          intro k next hk hp
          have hk : k = p.2.length := hk
          refine J_iload C rfl dX12_nextWord_24 ?_
          refine J_sipush C (v := nI 200) (by decide) dX12_nextWord_26 ?_
          refine J_iload C rfl dX12_nextWord_29 ?_
          first | refine J_nimul C dX12_nextWord_31 ?_ | refine J_imul C dX12_nextWord_31 ?_
          first | refine J_aload_n C rfl dX12_nextWord_32 ?_ | refine J_aload_nq C rfl dX12_nextWord_32 ?_ | refine J_aload_nN C rfl dX12_nextWord_32 ?_
          refine J_get C fl_X12_16 (by first | assumption | exact jv_up_at _ _ _ | (simp [jv_up, *]; done)) (by rfl) dX12_nextWord_33 ?_
          refine J_iload C rfl dX12_nextWord_36 ?_
          refine J_iald C (by first | assumption | exact jv_up_at _ _ _ | (simp [jv_up, *]; done)) rfl (by omega) (by omega) dX12_nextWord_38 ?_
          rw [p3]
          first | refine J_niadd C dX12_nextWord_39 ?_ | refine J_iadd C dX12_nextWord_39 ?_
          refine J_nicmp_ge C (by first | omega | (dsimp only; omega)) (by first | omega | (dsimp only; omega)) 91 (by decide) dX12_nextWord_40 (fun z => ?_) (fun z => ?_)
          · first | refine J_niinc (b := 1) C rfl (by decide) dX12_nextWord_91 ?_ | refine J_iinc C rfl (by decide) dX12_nextWord_91 ?_
            refine J_goto C 7 (by decide) dX12_nextWord_94 ?_
            refine J_sub (by exact (And.intro rfl (And.intro rfl (And.intro rfl (And.intro rfl trivial))))) (ih (d + 1) next (by omega) (nxP_iff (wdP_end hx) (by rw [hk] at hp; exact hp)))
          · omega
        | succ n2 ih2 =>
          intro k next hk hp
          have hxk := List.getElem?_eq_getElem (l := p.2) (i := k) (by omega)
          generalize p.2[k]'(by omega) = u at hxk
          have hu := p5 k u hxk
          have hu0 := PW p hpm u (List.mem_of_getElem? hxk)
          have stp := wdP_step (md := md) (d := d) hxk
          have K83 : nxP (wdP md d p.2 (k + 1)) last next → J K 0 0 83 (jv_l [(6, .int (nI (200 * d + k))), (5, .int (nI d)), (3, .long next), (1, .long last), (0, .ref m)]) [] h := by
            intro hp
            refine J_lload_n C rfl dX12_nextWord_83 ?_
            refine J_lstore_n C (by decide) dX12_nextWord_84 ?_
            first | refine J_niinc (b := 1) C rfl (by decide) dX12_nextWord_85 ?_ | refine J_iinc C rfl (by decide) dX12_nextWord_85 ?_
            refine J_goto C 24 (by decide) dX12_nextWord_88 ?_
            refine J_sub (by exact (And.intro rfl (And.intro rfl (And.intro rfl (And.intro rfl (And.intro rfl trivial)))))) (ih2 (k + 1) next (by omega) hp)
          have K73 : nxP (wdP md d p.2 (k + 1)) last u → J K 0 0 73 (jv_l [(6, .int (nI (200 * d + k))), (5, .int (nI d)), (3, .long next), (1, .long last), (0, .ref m)]) [] h := by
            intro hp
            first | refine J_aload_n C rfl dX12_nextWord_73 ?_ | refine J_aload_nq C rfl dX12_nextWord_73 ?_ | refine J_aload_nN C rfl dX12_nextWord_73 ?_
            refine J_get C fl_X12_19 (by first | assumption | exact jv_up_at _ _ _ | (simp [jv_up, *]; done)) (by rfl) dX12_nextWord_74 ?_
            refine J_iload C rfl dX12_nextWord_77 ?_
            refine J_lald C (by first | assumption | exact jv_up_at _ _ _ | (simp [jv_up, *]; done)) rfl (by omega) (by omega) dX12_nextWord_79 ?_
            rw [hu]
            refine J_goto C 84 (by decide) dX12_nextWord_80 ?_
            refine J_lstore_n C (by decide) dX12_nextWord_84 ?_
            first | refine J_niinc (b := 1) C rfl (by decide) dX12_nextWord_85 ?_ | refine J_iinc C rfl (by decide) dX12_nextWord_85 ?_
            refine J_goto C 24 (by decide) dX12_nextWord_88 ?_
            refine J_sub (by exact (And.intro rfl (And.intro rfl (And.intro rfl (And.intro rfl (And.intro rfl trivial)))))) (ih2 (k + 1) u (by omega) hp)
          refine J_iload C rfl dX12_nextWord_24 ?_
          refine J_sipush C (v := nI 200) (by decide) dX12_nextWord_26 ?_
          refine J_iload C rfl dX12_nextWord_29 ?_
          first | refine J_nimul C dX12_nextWord_31 ?_ | refine J_imul C dX12_nextWord_31 ?_
          first | refine J_aload_n C rfl dX12_nextWord_32 ?_ | refine J_aload_nq C rfl dX12_nextWord_32 ?_ | refine J_aload_nN C rfl dX12_nextWord_32 ?_
          refine J_get C fl_X12_16 (by first | assumption | exact jv_up_at _ _ _ | (simp [jv_up, *]; done)) (by rfl) dX12_nextWord_33 ?_
          refine J_iload C rfl dX12_nextWord_36 ?_
          refine J_iald C (by first | assumption | exact jv_up_at _ _ _ | (simp [jv_up, *]; done)) rfl (by omega) (by omega) dX12_nextWord_38 ?_
          rw [p3]
          first | refine J_niadd C dX12_nextWord_39 ?_ | refine J_iadd C dX12_nextWord_39 ?_
          refine J_nicmp_ge C (by first | omega | (dsimp only; omega)) (by first | omega | (dsimp only; omega)) 91 (by decide) dX12_nextWord_40 (fun z => ?_) (fun z => ?_)
          · omega
          · first | refine J_aload_n C rfl dX12_nextWord_43 ?_ | refine J_aload_nq C rfl dX12_nextWord_43 ?_ | refine J_aload_nN C rfl dX12_nextWord_43 ?_
            refine J_get C fl_X12_19 (by first | assumption | exact jv_up_at _ _ _ | (simp [jv_up, *]; done)) (by rfl) dX12_nextWord_44 ?_
            refine J_iload C rfl dX12_nextWord_47 ?_
            refine J_lald C (by first | assumption | exact jv_up_at _ _ _ | (simp [jv_up, *]; done)) rfl (by omega) (by omega) dX12_nextWord_49 ?_
            rw [hu]
            refine J_lload_n C rfl dX12_nextWord_50 ?_
            refine J_lcmp C dX12_nextWord_51 ?_
            refine J_if_le C 83 (by decide) dX12_nextWord_52 (fun z1 => ?_) (fun z1 => ?_)
            · have z1 := (lg_cmp_le _ _).mp z1
              refine J_sub (by exact (And.intro rfl (And.intro rfl (And.intro rfl (And.intro rfl (And.intro rfl trivial)))))) (K83 ?_)
              rcases hp with ⟨a, b⟩ | ⟨a, b, c⟩
              · exact Or.inl ⟨a, fun w hw => ((stp w).mp hw).elim (b w) (fun e => e ▸ Int64.not_lt.mpr z1)⟩
              · exact Or.inr ⟨(stp _).mpr (Or.inl a), b, fun w hw hl => ((stp w).mp hw).elim (fun q => c w q hl) (fun e => absurd (e ▸ hl) (Int64.not_lt.mpr z1))⟩
            · have z1 : last < u := Int64.not_le.mp (fun q => z1 ((lg_cmp_le _ _).mpr q))
              refine J_lload_n C rfl dX12_nextWord_55 ?_
              refine J_lconst C (v := lN 0) (by decide) dX12_nextWord_56 ?_
              refine J_lcmp C dX12_nextWord_57 ?_
              refine J_if_lt C 73 (by decide) dX12_nextWord_58 (fun z2 => ?_) (fun z2 => ?_)
              · have z2 : next < lN 0 := (lg_cmp_lt _ _).mp z2
                refine J_sub (by exact (And.intro rfl (And.intro rfl (And.intro rfl (And.intro rfl (And.intro rfl trivial)))))) (K73 ?_)
                rcases hp with ⟨a, b⟩ | ⟨a, b, c⟩
                · exact Or.inr ⟨(stp u).mpr (Or.inr rfl), z1, fun w hw hl => ((stp w).mp hw).elim (fun q => absurd hl (b w q)) (fun e => e ▸ Int64.le_refl _)⟩
                · exfalso
                  have h0 : (0 : Int64) ≤ next := by
                    rcases a with ⟨q, q1, q2⟩ | q
                    · exact PW q (List.mem_of_mem_take q1) next q2
                    · exact PW p hpm next (List.mem_of_mem_take q)
                  exact absurd z2 (Int64.not_lt.mpr h0)
              · have z2 : ¬ next < lN 0 := fun q => z2 ((lg_cmp_lt _ _).mpr q)
                first | refine J_aload_n C rfl dX12_nextWord_61 ?_ | refine J_aload_nq C rfl dX12_nextWord_61 ?_ | refine J_aload_nN C rfl dX12_nextWord_61 ?_
                refine J_get C fl_X12_19 (by first | assumption | exact jv_up_at _ _ _ | (simp [jv_up, *]; done)) (by rfl) dX12_nextWord_62 ?_
                refine J_iload C rfl dX12_nextWord_65 ?_
                refine J_lald C (by first | assumption | exact jv_up_at _ _ _ | (simp [jv_up, *]; done)) rfl (by omega) (by omega) dX12_nextWord_67 ?_
                rw [hu]
                refine J_lload_n C rfl dX12_nextWord_68 ?_
                refine J_lcmp C dX12_nextWord_69 ?_
                refine J_if_ge C 83 (by decide) dX12_nextWord_70 (fun z3 => ?_) (fun z3 => ?_)
                · have z3 := (lg_cmp_ge _ _).mp z3
                  refine J_sub (by exact (And.intro rfl (And.intro rfl (And.intro rfl (And.intro rfl (And.intro rfl trivial)))))) (K83 ?_)
                  rcases hp with ⟨a, b⟩ | ⟨a, b, c⟩
                  · exact absurd (by rw [a]; decide) z2
                  · exact Or.inr ⟨(stp _).mpr (Or.inl a), b, fun w hw hl => ((stp w).mp hw).elim (fun q => c w q hl) (fun e => e ▸ z3)⟩
                · have z3 : u < next := Int64.not_le.mp (fun q => z3 ((lg_cmp_ge _ _).mpr q))
                  refine J_sub (by exact (And.intro rfl (And.intro rfl (And.intro rfl (And.intro rfl (And.intro rfl trivial)))))) (K73 ?_)
                  rcases hp with ⟨a, b⟩ | ⟨a, b, c⟩
                  · exact absurd (by rw [a]; decide) z2
                  · exact Or.inr ⟨(stp u).mpr (Or.inr rfl), z1, fun w hw hl => ((stp w).mp hw).elim (fun q => Int64.le_trans (Int64.le_of_lt z3) (c w q hl)) (fun e => e ▸ Int64.le_refl _)⟩
      refine J_iload C rfl dX12_nextWord_7 ?_
      first | refine J_aload_n C rfl dX12_nextWord_9 ?_ | refine J_aload_nq C rfl dX12_nextWord_9 ?_ | refine J_aload_nN C rfl dX12_nextWord_9 ?_
      refine J_get C fl_X12_85 (by first | assumption | exact jv_up_at _ _ _ | (simp [jv_up, *]; done)) (by rfl) dX12_nextWord_10 ?_
      rw [t1]
      refine J_nicmp_ge C (by first | omega | (dsimp only; omega)) (by first | omega | (dsimp only; omega)) 97 (by decide) dX12_nextWord_13 (fun z => ?_) (fun z => ?_)
      · omega
      · refine J_sipush C (v := nI 200) (by decide) dX12_nextWord_16 ?_
        refine J_iload C rfl dX12_nextWord_19 ?_
        first | refine J_nimul C dX12_nextWord_21 ?_ | refine J_imul C dX12_nextWord_21 ?_
        refine J_istore C (by decide) dX12_nextWord_22 ?_
        refine J_sub (by exact (And.intro rfl (And.intro rfl (And.intro rfl (And.intro rfl (And.intro rfl trivial)))))) (inner p.2.length 0 next (by omega) (nxP_iff (fun w => by unfold wdP; rw [List.take_zero, List.take_zero]) hp))
  refine J_ldc2 C kl_X12_133 dX12_nextWord_0 ?_
  refine J_lstore_n C (by decide) dX12_nextWord_3 ?_
  refine J_iconst C (v := nI 0) (by decide) dX12_nextWord_4 ?_
  refine J_istore C (by decide) dX12_nextWord_5 ?_
  refine J_sub (by exact (And.intro rfl (And.intro rfl (And.intro rfl (And.intro rfl trivial))))) (outer md.length 0 (-1) (by omega) (Or.inl ⟨rfl, fun w hw => absurd hw (fun z => z.elim (fun ⟨q, q1, _⟩ => by cases q1) (fun q => by cases q))⟩))
/-- the next word of the lexicon, behind those that aren't greater than last -/
theorem nx_lex {V : List Int64} (X : isLex md V) {last next : Int64} (hn : nxP (fun w => ∃ p ∈ md, w ∈ p.2) last next) {i : Nat} (hi : ∀ (j : Nat) (w : Int64), V[j]? = some w → (last < w ↔ i ≤ j)) : (V[i]? = some next) ∨ (V[i]? = none ∧ next = -1) := by
  cases e : V[i]? with
  | none =>
    refine Or.inr ⟨rfl, ?_⟩
    rcases hn with ⟨a, b⟩ | ⟨a, b, c⟩
    · exact a
    · obtain ⟨j, hj⟩ := List.getElem?_of_mem ((X.2 next).mpr a)
      have h1 := (hi j next hj).mp b
      have h2 := (List.getElem?_eq_some_iff.mp hj).1
      have h3 := List.getElem?_eq_none_iff.mp e
      omega
  | some w =>
    refine Or.inl (congrArg some ?_)
    have hw : last < w := (hi i w e).mpr (Nat.le_refl _)
    have hwm := (X.2 w).mp (List.mem_of_getElem? e)
    rcases hn with ⟨a, b⟩ | ⟨a, b, c⟩
    · exact absurd hw (b w hwm)
    · have h1 := c w hwm hw
      obtain ⟨j, hj⟩ := List.getElem?_of_mem ((X.2 next).mpr a)
      have h2 := (hi j next hj).mp b
      rcases Nat.lt_or_eq_of_le h2 with q | q
      · obtain ⟨x1, x2⟩ := List.getElem?_eq_some_iff.mp e
        obtain ⟨y1, y2⟩ := List.getElem?_eq_some_iff.mp hj
        have := List.pairwise_iff_getElem.mp X.1 i j x1 y1 q
        rw [x2, y2] at this
        exact absurd h1 (Int64.not_le.mpr this)
      · rw [← q, e] at hj
        exact Option.some.inj hj
theorem nx_at {V : List Int64} (X : isLex md V) {i : Nat} {w : Int64} (hw : V[i]? = some w) : ∀ (j : Nat) (u : Int64), V[j]? = some u → (w < u ↔ i + 1 ≤ j) := by
  intro j u hu
  obtain ⟨x1, x2⟩ := List.getElem?_eq_some_iff.mp hw
  obtain ⟨y1, y2⟩ := List.getElem?_eq_some_iff.mp hu
  constructor
  · intro z
    rcases Nat.lt_trichotomy i j with q | q | q
    · exact q
    · subst q
      rw [x2] at y2
      rw [y2] at z
      exact absurd z Int64.lt_irrefl
    · have := List.pairwise_iff_getElem.mp X.1 j i y1 x1 q
      rw [x2, y2] at this
      exact absurd (Int64.lt_trans z this) Int64.lt_irrefl
  · intro z
    have := List.pairwise_iff_getElem.mp X.1 i j x1 y1 z
    rw [x2, y2] at this
    exact this
end NEXTW
