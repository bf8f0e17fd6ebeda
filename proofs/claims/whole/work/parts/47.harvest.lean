/-! Search: harvest -/
section HARVEST
variable {l : jL} {h h1 : jH} {a an ap lim s : Nat} {DL M : List Nat} {num len : Nat → Nat} {fi : Nat → Option Nat} {sf : Nat → sfT} {nd : Int32} {st : Nat → Bool × Int32 × Int32} {L : List hiT}
theorem bs_up (B : bs h a an ap lim L) (e : ∀ y, bs_S a an ap y → h1 y = h y) : bs h1 a an ap lim L := by
  obtain ⟨fN, fP, ⟨b1, b2, b3, b4⟩, B2⟩ := B
  exact ⟨fN, fP, ⟨(e a (Or.inl rfl)).trans b1, (e an (Or.inr (Or.inl rfl))).trans b2, (e ap (Or.inr (Or.inr rfl))).trans b3, b4⟩, B2⟩
theorem bs_no (B : bs h a an ap lim L) {y c : Nat} {fs : List Value} (e : h y = some (.inr (c, fs))) (hc : c ≠ 0) : ¬ bs_S a an ap y := by
  obtain ⟨fN, fP, ⟨b1, b2, b3, b4⟩, B2⟩ := B
  rintro (z | z | z)
  · exact jv_neO e b1 hc z
  · exact jv_neA e b2 z
  · exact jv_neA e b3 z
/-- a met document is offered, or not -/
def srHv (lim : Nat) (nd : Int32) (num : Nat → Nat) (st : Nat → Bool × Int32 × Int32) (L : List hiT) (d : Nat) : List hiT :=
  if (st d).1 = false ∧ (st d).2.1 &&& nd = nd ∧ ¬ (st d).2.2 ≤ 0 then hi_bo lim L (num d, (st d).2.2) else L
def hvP (h : jH) (s a an ap lim : Nat) (M : List Nat) (nd : Int32) (D : List Nat) (num len : Nat → Nat) (fi : Nat → Option Nat) (st : Nat → Bool × Int32 × Int32) (L : List hiT) (h1 : jH) : Prop :=
  fr (fun y => y = s ∨ y ∈ D ∨ bs_S a an ap y) h h1 ∧ bs h1 a an ap lim (M.foldl (srHv lim nd num st) L) ∧ h1 s = some (srO none nd) ∧ ∃ sf', gD h1 D num len fi sf' ∧ ∀ d ∈ D, (sf' d).1 = false
set_option maxHeartbeats 400000 in
theorem c_Search_harvest (S : sm h s M nd DL sf st) (G : gD h DL num len fi sf) (B : bs h a an ap lim L) (hn : ∀ d ∈ DL, num d < 10000) : Cn l yX7_harvest cX7_harvest 4 none 4 0 0 [.ref s, .ref a] h (fun r h1 => r = none ∧ hvP h s a an ap lim M nd DL num len fi st L h1) := by
  obtain ⟨s1, s2, s3, s4, s5⟩ := S
  refine Cn.of (own := RX7) rfl (by decide) (by exact Nat.le_of_ble_eq_true rfl) (by decide) (fun K hK C D I => ?_)
  have loop : ∀ (R : List Nat) (i : Nat) (L1 : List hiT) (sf1 : Nat → sfT) (h' : jH), M.drop i = R → fr (fun y => y = s ∨ y ∈ DL ∨ bs_S a an ap y) h h' → bs h' a an ap lim L1 → h' s = some (srO M[0]? nd) → gD h' DL num len fi sf1 → (∀ j d, i ≤ j → M[j]? = some d → sf1 d = (true, (st d).1, (st d).2.1, (st d).2.2, M[j+1]?)) → (∀ d ∈ DL, d ∉ R → (sf1 d).1 = false) → R.foldl (srHv lim nd num st) L1 = M.foldl (srHv lim nd num st) L → J K 0 0 5 (jv_l [(2, va_rf M[i]?), (1, .ref a), (0, .ref s)]) [] h' := by
    intro R
    induction R with
    | nil =>
      intro i L1 sf1 h' hR F B1 S1 G1 H1 H2 he
      have : M[i]? = none := List.getElem?_eq_none (List.drop_eq_nil_iff.mp hR)
      rw [this]
      first | refine J_aload_n C rfl dX7_harvest_5 ?_ | refine J_aload_nq C rfl dX7_harvest_5 ?_ | refine J_aload_nN C rfl dX7_harvest_5 ?_
      refine J_ifnull (x := none) C 74 (by decide) dX7_harvest_6 (fun _ => ?_) (fun q z => by cases z)
      first | refine J_aload_n C rfl dX7_harvest_74 ?_ | refine J_aload_nq C rfl dX7_harvest_74 ?_ | refine J_aload_nN C rfl dX7_harvest_74 ?_
      refine J_null C dX7_harvest_75 ?_
      refine J_put C fl_X7_138 (by first | assumption | exact jv_up_at _ _ _ | (simp [jv_up, *]; done)) (by exact Nat.le_of_ble_eq_true rfl) (by first | rfl | exact jv_nar_o _ _) (by first | rfl | exact jv_fit_o _ _) dX7_harvest_76 ?_
      have nsS : ¬ bs_S a an ap s := bs_no B1 S1 (by decide)
      refine J_eq (st1 := []) (h1 := jv_up h' s (srO none nd)) rfl rfl ?_
      refine J_vret C D ⟨rfl, fr_tr F (fr_up (Or.inl rfl)), by rw [← he]; exact bs_up B1 (fun y hy => jv_up_ne (fun z => nsS (z ▸ hy))), jv_up_at _ _ _, sf1, fun d hd => jv_up_of (jv_neO (G1 d hd) S1 (by decide)) (G1 d hd), fun d hd => H2 d hd List.not_mem_nil⟩ (by omega) (by omega) dX7_harvest_79
    | cons d rest ih =>
      intro i L1 sf1 h' hR F B1 S1 G1 H1 H2 he
      have hi : M[i]? = some d := by
        have := congrArg (fun L => L[0]?) hR
        rw [List.getElem?_drop] at this
        exact this
      have hdm := List.mem_of_getElem? hi
      have hd := s3 d hdm
      have hrest : M.drop (i + 1) = rest := by
        rw [← List.tail_drop, hR]; rfl
      have hz := H1 i d (Nat.le_refl i) hi
      have gd := G1 d hd
      rw [hz] at gd
      have nsd : s ≠ d := jv_neO S1 gd (by decide)
      rw [hi]
      first | refine J_aload_n C rfl dX7_harvest_5 ?_ | refine J_aload_nq C rfl dX7_harvest_5 ?_ | refine J_aload_nN C rfl dX7_harvest_5 ?_
      refine J_ifnull (x := some d) C 74 (by decide) dX7_harvest_6 (fun z => by cases z) (fun _ _ => ?_)
      have K61 : ∀ (h2 : jH), fr (fun y => y = s ∨ y ∈ DL ∨ bs_S a an ap y) h h2 → bs h2 a an ap lim (srHv lim nd num st L1 d) → h2 s = some (srO M[0]? nd) → gD h2 DL num len fi sf1 → J K 0 0 61 (jv_l [(2, .ref d), (1, .ref a), (0, .ref s)]) [] h2 := by
        intro h2 F2 B2 S2 G2
        have gd2 := G2 d hd
        rw [hz] at gd2
        have ndS : ¬ bs_S a an ap d := bs_no B2 gd2 (by decide)
        first | refine J_aload_n C rfl dX7_harvest_61 ?_ | refine J_aload_nq C rfl dX7_harvest_61 ?_ | refine J_aload_nN C rfl dX7_harvest_61 ?_
        refine J_iconst C (v := nI 0) (by decide) dX7_harvest_62 ?_
        refine J_put C fl_X7_135 (by first | assumption | exact jv_up_at _ _ _ | (simp [jv_up, *]; done)) (by exact Nat.le_of_ble_eq_true rfl) (by rfl) (by rfl) dX7_harvest_63 ?_
        first | refine J_aload_n C rfl dX7_harvest_66 ?_ | refine J_aload_nq C rfl dX7_harvest_66 ?_ | refine J_aload_nN C rfl dX7_harvest_66 ?_
        refine J_get C fl_X7_141 (by first | assumption | exact jv_up_at _ _ _ | (simp [jv_up, *]; done)) (by rfl) dX7_harvest_67 ?_
        first | refine J_astore_nq C (by decide) dX7_harvest_70 ?_ | refine J_astore_n C (by decide) dX7_harvest_70 ?_ | refine J_astore_nN C (by decide) dX7_harvest_70 ?_
        refine J_goto C 5 (by decide) dX7_harvest_71 ?_
        refine J_eq (st1 := []) (h1 := jv_up h2 d (dcO (num d) (len d) (fi d) (false, (st d).1, (st d).2.1, (st d).2.2, M[i+1]?))) rfl rfl ?_
        refine J_sub (by exact (And.intro rfl (And.intro rfl (And.intro rfl trivial)))) (ih (i + 1) (srHv lim nd num st L1 d) (va_up sf1 d (false, (st d).1, (st d).2.1, (st d).2.2, M[i+1]?)) _ hrest (fr_tr F2 (fr_up (Or.inr (Or.inl hd)))) (bs_up B2 (fun y hy => jv_up_ne (fun z => ndS (z ▸ hy)))) (jv_up_of nsd S2) (fun e he => ?_) (fun j e hj hje => ?_) (fun e he her => ?_) he)
        · by_cases c : e = d
          · subst c
            rw [show va_up sf1 e (false, (st e).1, (st e).2.1, (st e).2.2, M[i+1]?) e = (false, (st e).1, (st e).2.1, (st e).2.2, M[i+1]?) from if_pos rfl]
            exact jv_up_at _ _ _
          · rw [show va_up sf1 d (false, (st d).1, (st d).2.1, (st d).2.2, M[i+1]?) e = sf1 e from if_neg c]
            exact jv_up_of c (G2 e he)
        · have c : e ≠ d := by
            intro z
            subst z
            have := nodup_idx s2 hi hje
            omega
          rw [show va_up sf1 d (false, (st d).1, (st d).2.1, (st d).2.2, M[i+1]?) e = sf1 e from if_neg c]
          exact H1 j e (by omega) hje
        · by_cases c : e = d
          · subst c
            rw [show va_up sf1 e (false, (st e).1, (st e).2.1, (st e).2.2, M[i+1]?) e = (false, (st e).1, (st e).2.1, (st e).2.2, M[i+1]?) from if_pos rfl]
          · rw [show va_up sf1 d (false, (st d).1, (st d).2.1, (st d).2.2, M[i+1]?) e = sf1 e from if_neg c]
            exact H2 e he (fun z => (List.mem_cons.mp z).elim c her)
      have Kno : ¬ ((st d).1 = false ∧ (st d).2.1 &&& nd = nd ∧ ¬ (st d).2.2 ≤ 0) → J K 0 0 61 (jv_l [(2, .ref d), (1, .ref a), (0, .ref s)]) [] h' := fun hno => K61 h' F (by unfold srHv; rw [if_neg hno]; exact B1) S1 G1
      have K30 : ∀ q : Bool, q = decide ((st d).2.1 &&& nd = nd) → J K 0 0 31 (jv_l [(3, .int (jv_b q)), (2, .ref d), (1, .ref a), (0, .ref s)]) [] h' := by
        intro q hq
        first | refine J_aload_n C rfl dX7_harvest_31 ?_ | refine J_aload_nq C rfl dX7_harvest_31 ?_ | refine J_aload_nN C rfl dX7_harvest_31 ?_
        refine J_get C fl_X7_36 (by first | assumption | exact jv_up_at _ _ _ | (simp [jv_up, *]; done)) (by rfl) dX7_harvest_32 ?_
        refine J_bif_ne C 61 (by decide) dX7_harvest_35 (fun z1 => ?_) (fun z1 => ?_)
        · refine J_sub (by exact (And.intro rfl (And.intro rfl (And.intro rfl trivial)))) (Kno (fun w => by rw [z1] at w; cases w.1))
        · refine J_iload_n C rfl dX7_harvest_38 ?_
          refine J_bif_eq C 61 (by decide) dX7_harvest_39 (fun z2 => ?_) (fun z2 => ?_)
          · refine J_sub (by exact (And.intro rfl (And.intro rfl (And.intro rfl trivial)))) (Kno (fun w => by rw [z2, decide_eq_true w.2.1] at hq; cases hq))
          · first | refine J_aload_n C rfl dX7_harvest_42 ?_ | refine J_aload_nq C rfl dX7_harvest_42 ?_ | refine J_aload_nN C rfl dX7_harvest_42 ?_
            refine J_get C fl_X7_126 (by first | assumption | exact jv_up_at _ _ _ | (simp [jv_up, *]; done)) (by rfl) dX7_harvest_43 ?_
            refine J_if_le C 61 (by decide) dX7_harvest_46 (fun z3 => ?_) (fun z3 => ?_)
            · refine J_sub (by exact (And.intro rfl (And.intro rfl (And.intro rfl trivial)))) (Kno (fun w => w.2.2 z3))
            · obtain ⟨fN, fP, ⟨ba1, -⟩, -⟩ := id B1
              first | refine J_aload_n C rfl dX7_harvest_49 ?_ | refine J_aload_nq C rfl dX7_harvest_49 ?_ | refine J_aload_nN C rfl dX7_harvest_49 ?_
              first | refine J_aload_n C rfl dX7_harvest_50 ?_ | refine J_aload_nq C rfl dX7_harvest_50 ?_ | refine J_aload_nN C rfl dX7_harvest_50 ?_
              refine J_get C fl_X7_144 (by first | assumption | exact jv_up_at _ _ _ | (simp [jv_up, *]; done)) (by rfl) dX7_harvest_51 ?_
              first | refine J_aload_n C rfl dX7_harvest_54 ?_ | refine J_aload_nq C rfl dX7_harvest_54 ?_ | refine J_aload_nN C rfl dX7_harvest_54 ?_
              refine J_get C fl_X7_126 (by first | assumption | exact jv_up_at _ _ _ | (simp [jv_up, *]; done)) (by rfl) dX7_harvest_55 ?_
              refine J_callV C (c_Best_offer B1 (num d, (st d).2.2) (hn d hd)) cw_X7_147 (by first | assumption | exact jv_up_at _ _ _ | (simp [jv_up, *]; done)) rfl rfl rfl rfl (by exact Nat.le_of_ble_eq_true rfl) (by decide) (by omega) (by omega) dX7_harvest_58 ?_
              rintro _ h2 ⟨rfl, B2, F2⟩
              have no : ∀ {y c : Nat} {fs : List Value}, h' y = some (.inr (c, fs)) → c ≠ 0 → h2 y = h' y := fun e c => F2 _ (bs_no B1 e c)
              rw [z2] at hq
              refine J_sub (by exact (And.intro rfl (And.intro rfl (And.intro rfl trivial)))) (K61 h2 (fr_tr F (fr_mono F2 (fun y hy => Or.inr (Or.inr hy)))) (by unfold srHv; rw [if_pos ⟨z1, of_decide_eq_true hq.symm, z3⟩]; exact B2) ((no S1 (by decide)).trans S1) (fun e he => (no (G1 e he) (by decide)).trans (G1 e he)))
      first | refine J_aload_n C rfl dX7_harvest_9 ?_ | refine J_aload_nq C rfl dX7_harvest_9 ?_ | refine J_aload_nN C rfl dX7_harvest_9 ?_
      refine J_get C fl_X7_123 (by first | assumption | exact jv_up_at _ _ _ | (simp [jv_up, *]; done)) (by rfl) dX7_harvest_10 ?_
      first | refine J_aload_n C rfl dX7_harvest_13 ?_ | refine J_aload_nq C rfl dX7_harvest_13 ?_ | refine J_aload_nN C rfl dX7_harvest_13 ?_
      refine J_get C fl_X7_9 (by first | assumption | exact jv_up_at _ _ _ | (simp [jv_up, *]; done)) (by rfl) dX7_harvest_14 ?_
      refine J_iand C dX7_harvest_17 ?_
      first | refine J_aload_n C rfl dX7_harvest_18 ?_ | refine J_aload_nq C rfl dX7_harvest_18 ?_ | refine J_aload_nN C rfl dX7_harvest_18 ?_
      refine J_get C fl_X7_9 (by first | assumption | exact jv_up_at _ _ _ | (simp [jv_up, *]; done)) (by rfl) dX7_harvest_19 ?_
      refine J_icmp_ne C 29 (by decide) dX7_harvest_22 (fun z => ?_) (fun z => ?_)
      · refine J_iconst C (v := nI 0) (by decide) dX7_harvest_29 ?_
        refine J_istore_n C (by decide) dX7_harvest_30 ?_
        refine J_sub (by exact (And.intro rfl (And.intro rfl (And.intro rfl (And.intro rfl trivial))))) (K30 false (decide_eq_false z).symm)
      · refine J_iconst C (v := nI 1) (by decide) dX7_harvest_25 ?_
        refine J_goto C 30 (by decide) dX7_harvest_26 ?_
        refine J_istore_n C (by decide) dX7_harvest_30 ?_
        refine J_sub (by exact (And.intro rfl (And.intro rfl (And.intro rfl (And.intro rfl trivial))))) (K30 true (decide_eq_true z).symm)
  first | refine J_aload_n C rfl dX7_harvest_0 ?_ | refine J_aload_nq C rfl dX7_harvest_0 ?_ | refine J_aload_nN C rfl dX7_harvest_0 ?_
  refine J_get C fl_X7_138 (by first | assumption | exact jv_up_at _ _ _ | (simp [jv_up, *]; done)) (by rfl) dX7_harvest_1 ?_
  first | refine J_astore_nq C (by decide) dX7_harvest_4 ?_ | refine J_astore_n C (by decide) dX7_harvest_4 ?_ | refine J_astore_nN C (by decide) dX7_harvest_4 ?_
  refine J_sub (by exact (And.intro rfl (And.intro rfl (And.intro rfl trivial)))) (loop M 0 L sf h rfl (fr_rf _ _) B s1 G (fun j d _ hj => s5 j d hj) (fun d hd hdm => by rw [s4 d hd, decide_eq_false hdm]) rfl)
end HARVEST
