/-! the model: pick -/
def woM (md : dsT) (p : Nat × List Int64) (u : Int64) : Nat := sp_rar md.length (dsH md u) * sp_imp (p.2.count u) p.2.length
def scM (md : dsT) (T : List tsT) (W : Int32) (p : Nat × List Int64) : Int32 := if nI p.1 = W then -1 else mscV (frs p.2 p.2.length) (woM md p) T
def hitM (md : dsT) (T : List tsT) (W : Int32) (p : Nat × List Int64) : Option hiT := if scM md T W p ≤ 0 then none else some (p.1, scM md T W p)
def hsM (md : dsT) (f : Nat → Int32) (d : Nat) : Option hiT := match md[d]? with
  | none => none
  | some p => if f d ≤ 0 then none else some (p.1, f d)
theorem fm_one {β : Type} {f f' : Nat → Option β} {b : Nat} {y : β} (hb : f b = some y) (hb' : f' b = none) (ho : ∀ d, d ≠ b → f' d = f d) : ∀ (L : List Nat), L.Nodup → b ∈ L → (L.filterMap f).Perm (y :: L.filterMap f')
  | [], _, h => by cases h
  | d :: t, hn, h => by
    obtain ⟨n1, n2⟩ := List.nodup_cons.mp hn
    by_cases c : d = b
    · subst c
      rw [List.filterMap_cons_some hb, List.filterMap_cons_none hb', fm_congr (fun e he => (ho e (fun z => n1 (z ▸ he))).symm)]
    · have hm : b ∈ t := (List.mem_cons.mp h).resolve_left (fun z => c z.symm)
      have ih := fm_one hb hb' ho t n2 hm
      cases e : f d with
      | none =>
        rw [List.filterMap_cons_none e, List.filterMap_cons_none ((ho d c).trans e)]
        exact ih
      | some x =>
        rw [List.filterMap_cons_some e, List.filterMap_cons_some ((ho d c).trans e)]
        exact (List.Perm.cons x ih).trans (List.Perm.swap y x _)
theorem fm_none {β : Type} {f : Nat → Option β} {L : List Nat} (h : ∀ d ∈ L, f d = none) : L.filterMap f = [] := List.filterMap_eq_nil_iff.mpr h
theorem hs_all (md : dsT) (f : Nat → Int32) (F : Nat × List Int64 → Option hiT) (h : ∀ d p, md[d]? = some p → hsM md f d = F p) : (List.range md.length).filterMap (hsM md f) = md.filterMap F := by
  have e1 : (List.range md.length).filterMap (hsM md f) = (List.range md.length).filterMap (fun d => md[d]?.bind F) := fm_congr (fun d hd => by
    have hd := List.mem_range.mp hd
    have hx := List.getElem?_eq_getElem hd
    rw [h d _ hx, hx]; rfl)
  rw [e1]
  clear e1 h
  induction md with
  | nil => rfl
  | cons p t ih =>
    rw [List.length_cons, List.range_succ_eq_map]
    have e2 : ((List.range t.length).map Nat.succ).filterMap (fun d => (p :: t)[d]?.bind F) = (List.range t.length).filterMap (fun d => t[d]?.bind F) := by
      rw [List.filterMap_map]
      rfl
    cases e : F p with
    | none =>
      rw [List.filterMap_cons_none (by show F p = none; exact e), List.filterMap_cons_none e, e2, ih]
    | some x =>
      rw [List.filterMap_cons_some (by show F p = some x; exact e), List.filterMap_cons_some e, e2, ih]
/-- the best so far -/
def bstP (md : dsT) (f : Nat → Int32) (d : Nat) (o : Option Nat) : Prop := match o with
  | none => ∀ e, e < d → f e ≤ 0
  | some b => b < d ∧ ¬ f b ≤ 0 ∧ ∃ pb, md[b]? = some pb ∧ ∀ e p, e < d → e ≠ b → md[e]? = some p → ¬ f e ≤ 0 → hi_bt (pb.1, f b) (p.1, f e) = true
def bstI (o : Option Nat) : Int32 := match o with
  | none => -1
  | some b => nI b
section PICK
variable {l : jL} {h : jH} {m : Nat} {A : Nat → Nat} {g : Nat → Int32} {N : Nat → Nat → Int32} {Q : Nat → Nat → Int64} {md : dsT}
theorem topR_zero (H : List hiT) : topR 0 H [] := ⟨List.Pairwise.nil, by show 0 = min 0 _; omega, H, List.Perm.refl _, fun y hy => by cases hy⟩
set_option maxHeartbeats 2000000 in
theorem c_M_pick (M : mdl h m A g N Q) (D9 : mdD g N Q md) (KN : mdKn g N Q md) (hk : (md.map (·.1)).Nodup) {T : List tsT} (g9 : g 9 = nI T.length) (hT : T.length ≤ 200) (TM : ∀ j t, T[j]? = some t → tsM N Q j t) (k : Nat) (hk50 : k ≤ 50) (W : Int32) : Cn l yX12_pick cX12_pick 7 (some .int) 5 0 0 [.ref m, .int (nI k), .int W] h (fun r h1 => fr (mdS m A) h h1 ∧ ∃ g' N' Q' L, mdl h1 m A g' N' Q' ∧ topR k (md.filterMap (hitM md T W)) L ∧ r = some (.int (nI L.length)) ∧ mdL g' N' L ∧ (∀ i, i ≠ 19 → i ≠ 22 → g' i = g i) ∧ (∀ i, i ≠ 18 → i ≠ 20 → i ≠ 21 → i ≠ 23 → i ≠ 24 → i ≠ 26 → N' i = N i) ∧ (∀ i, i ≠ 25 → Q' i = Q i) ∧ mdKn g' N' Q' md) := by
  obtain ⟨t1, t2, t3⟩ := id D9
  refine Cn.of (own := RX12) rfl (by decide) (by exact Nat.le_of_ble_eq_true rfl) (by decide) (fun K hK C D _ => ?_)
  have m1 := M.1
  first | refine J_aload_n C rfl dX12_pick_0 ?_ | refine J_aload_nq C rfl dX12_pick_0 ?_ | refine J_aload_nN C rfl dX12_pick_0 ?_
  refine J_callV C (c_M_know M D9 KN) cw_X12_112 (by first | assumption | exact jv_up_at _ _ _ | (simp [jv_up, *]; done)) rfl rfl rfl rfl (by exact Nat.le_of_ble_eq_true rfl) (by decide) (by omega) (by omega) dX12_pick_1 ?_
  rintro _ h1 ⟨rfl, F1, N1, Q1, M1, n1, q1, kn⟩
  have D1 : mdD (va_up g 22 (nI 1)) N1 Q1 md := mdD_congr (g := g) D9 rfl (n1 4 (by decide) (by decide) (by decide)) (n1 5 (by decide) (by decide) (by decide)) (q1 6 (by decide))
  have n14 := n1 4 (by decide) (by decide) (by decide)
  have TM1 : ∀ (N2 : Nat → Nat → Int32), (∀ i, i ≠ 18 → N2 i = N1 i) → ∀ j t, T[j]? = some t → tsM N2 Q1 j t := fun N2 hN2 j t hj => by
    have := TM j t hj
    unfold tsM at this ⊢
    rw [hN2 13 (by decide), hN2 14 (by decide), hN2 12 (by decide), hN2 11 (by decide), n1 13 (by decide) (by decide) (by decide), n1 14 (by decide) (by decide) (by decide), n1 12 (by decide) (by decide) (by decide), n1 11 (by decide) (by decide) (by decide), q1 10 (by decide)]
    exact this
  generalize hg1 : va_up g 22 (nI 1) = g1 at *
  have g13 : g1 3 = nI md.length := by rw [← hg1]; exact t1
  have g1k : ∀ i, i ≠ 22 → g1 i = g i := fun i hi => by rw [← hg1]; exact if_neg hi
  have g122 : g1 22 = jv_b true := by rw [← hg1]; rfl
  -- choosing
  have ph2 : ∀ (n i : Nat) (acc : List hiT) (f : Nat → Int32) (g' : Nat → Int32) (N' : Nat → Nat → Int32) (h' : jH), i + n = k → acc.length = i → fr (mdS m A) h h' → mdl h' m A g' N' Q1 → (∀ j, j ≠ 19 → g' j = g1 j) → (∀ j, j ≠ 18 → j ≠ 20 → j ≠ 21 → N' j = N1 j) → (∀ d, d < md.length → N' 18 d = f d) → mdL g' N' acc → (∀ R, topR (k - i) ((List.range md.length).filterMap (hsM md f)) R → topR k (md.filterMap (hitM md T W)) (acc ++ R)) → J K 0 0 52 (jv_l [(3, .int (nI i)), (1, .int (nI k)), (0, .ref m)]) [] h' := by
    intro n
    induction n with
    | zero =>
      intro i acc f g' N' h' hi hl F M' gk nk n18 ML P
      have hi : i = k := hi
      have m1' := M'.1
      refine J_iload_n C rfl dX12_pick_52 ?_
      refine J_iload_n C rfl dX12_pick_53 ?_
      refine J_nicmp_ge C (by first | omega | (dsimp only; omega)) (by first | omega | (dsimp only; omega)) 231 (by decide) dX12_pick_54 (fun z => ?_) (fun z => ?_)
      · have := P [] (by rw [hi, Nat.sub_self]; exact topR_zero _)
        rw [List.append_nil] at this
        first | refine J_aload_n C rfl dX12_pick_231 ?_ | refine J_aload_nq C rfl dX12_pick_231 ?_ | refine J_aload_nN C rfl dX12_pick_231 ?_
        refine J_get C fl_X12_184 (by first | assumption | exact jv_up_at _ _ _ | (simp [jv_up, *]; done)) (by rfl) dX12_pick_232 ?_
        refine J_iret C D ⟨F, g', N', Q1, acc, M', this, by rw [ML.1], ML, fun j j1 j2 => (gk j j1).trans (g1k j j2), fun j j1 j2 j3 j4 j5 j6 => (nk j j1 j2 j3).trans (n1 j j4 j5 j6), q1, Or.inr ⟨(gk 22 (by decide)).trans g122, by unfold known at kn ⊢; rw [nk 26 (by decide) (by decide) (by decide), nk 23 (by decide) (by decide) (by decide), nk 24 (by decide) (by decide) (by decide)]; exact kn⟩⟩ (by omega) (by omega) dX12_pick_235
      · omega
    | succ n ih =>
      intro i acc f g' N' h' hi hl F M' gk nk n18 ML P
      have m1' := M'.1
      have a4 := M'.2.1 4 _ rfl
      have a18 := M'.2.1 18 _ rfl
      have a20 := M'.2.1 20 _ rfl
      have g'3 : g' 3 = nI md.length := (gk 3 (by decide)).trans g13
      have n4 : N' 4 = N 4 := (nk 4 (by decide) (by decide) (by decide)).trans n14
      rw [n4] at a4
      have inner : ∀ (n2 d : Nat) (o : Option Nat), d + n2 = md.length → bstP md f d o → J K 0 0 63 (jv_l [(5, .int (nI d)), (4, .int (bstI o)), (3, .int (nI i)), (1, .int (nI k)), (0, .ref m)]) [] h' := by
        intro n2
        induction n2 with
        | zero =>
          intro d o hd hb
          have hd : d = md.length := hd
          refine J_iload C rfl dX12_pick_63 ?_
          first | refine J_aload_n C rfl dX12_pick_65 ?_ | refine J_aload_nq C rfl dX12_pick_65 ?_ | refine J_aload_nN C rfl dX12_pick_65 ?_
          refine J_get C fl_X12_85 (by first | assumption | exact jv_up_at _ _ _ | (simp [jv_up, *]; done)) (by rfl) dX12_pick_66 ?_
          rw [g'3]
          refine J_nicmp_ge C (by first | omega | (dsimp only; omega)) (by first | omega | (dsimp only; omega)) 165 (by decide) dX12_pick_69 (fun z => ?_) (fun z => ?_)
          · refine J_iload C rfl dX12_pick_165 ?_
            cases o with
            | none =>
              have hb : ∀ e, e < d → f e ≤ 0 := hb
              refine J_if_ge C 175 (by decide) dX12_pick_167 (fun z2 => ?_) (fun z2 => ?_)
              · exact absurd z2 (by decide)
              · have e0 : (List.range md.length).filterMap (hsM md f) = [] := fm_none (fun e he => by
                  have he := List.mem_range.mp he
                  unfold hsM
                  rw [List.getElem?_eq_getElem he]
                  exact if_pos (hb e (by omega)))
                have := P [] (by rw [e0]; exact topR_nil _)
                rw [List.append_nil] at this
                first | refine J_aload_n C rfl dX12_pick_170 ?_ | refine J_aload_nq C rfl dX12_pick_170 ?_ | refine J_aload_nN C rfl dX12_pick_170 ?_
                refine J_get C fl_X12_184 (by first | assumption | exact jv_up_at _ _ _ | (simp [jv_up, *]; done)) (by rfl) dX12_pick_171 ?_
                refine J_iret C D ⟨F, g', N', Q1, acc, M', this, by rw [ML.1], ML, fun j j1 j2 => (gk j j1).trans (g1k j j2), fun j j1 j2 j3 j4 j5 j6 => (nk j j1 j2 j3).trans (n1 j j4 j5 j6), q1, Or.inr ⟨(gk 22 (by decide)).trans g122, by unfold known at kn ⊢; rw [nk 26 (by decide) (by decide) (by decide), nk 23 (by decide) (by decide) (by decide), nk 24 (by decide) (by decide) (by decide)]; exact kn⟩⟩ (by omega) (by omega) dX12_pick_174
            | some b =>
              obtain ⟨b1, b2, pb, b3, b4⟩ := hb
              have hbl : b < md.length := by omega
              obtain ⟨r1, r2, -⟩ := t3 b pb b3
              have hal : acc.length < 50 := by omega
              show J K 0 0 _ _ (.int (nI b) :: _) _
              refine J_nif_ge C (by omega) 175 (by decide) dX12_pick_167 ?_
              have M2 := mdl_N M' 20 (u := upd (N' 20) acc.length (nI pb.1)) rfl rfl
              have m2 := M2.1
              have a212 := M2.2.1 21 _ rfl
              have a182 := M2.2.1 18 _ rfl
              have M3 := mdl_N M2 21 (u := upd (N' 21) acc.length (f b)) rfl rfl
              have m3 := M3.1
              have a183 := M3.2.1 18 _ rfl
              have M4 := mdl_N M3 18 (u := upd (N' 18) b (-1)) rfl rfl
              have m4 := M4.1
              first | refine J_aload_n C rfl dX12_pick_175 ?_ | refine J_aload_nq C rfl dX12_pick_175 ?_ | refine J_aload_nN C rfl dX12_pick_175 ?_
              refine J_get C fl_X12_49 (by first | assumption | exact jv_up_at _ _ _ | (simp [jv_up, *]; done)) (by rfl) dX12_pick_176 ?_
              first | refine J_aload_n C rfl dX12_pick_179 ?_ | refine J_aload_nq C rfl dX12_pick_179 ?_ | refine J_aload_nN C rfl dX12_pick_179 ?_
              refine J_get C fl_X12_184 (by first | assumption | exact jv_up_at _ _ _ | (simp [jv_up, *]; done)) (by rfl) dX12_pick_180 ?_
              rw [ML.1]
              first | refine J_aload_n C rfl dX12_pick_183 ?_ | refine J_aload_nq C rfl dX12_pick_183 ?_ | refine J_aload_nN C rfl dX12_pick_183 ?_
              refine J_get C fl_X12_13 (by first | assumption | exact jv_up_at _ _ _ | (simp [jv_up, *]; done)) (by rfl) dX12_pick_184 ?_
              refine J_iload C rfl dX12_pick_187 ?_
              refine J_iald C (by first | assumption | exact jv_up_at _ _ _ | (simp [jv_up, *]; done)) rfl (by omega) (by omega) dX12_pick_189 ?_
              rw [r1]
              refine J_iast C (by first | assumption | exact jv_up_at _ _ _ | (simp [jv_up, *]; done)) rfl (by omega) (by omega) dX12_pick_190 ?_
              first | refine J_aload_n C rfl dX12_pick_191 ?_ | refine J_aload_nq C rfl dX12_pick_191 ?_ | refine J_aload_nN C rfl dX12_pick_191 ?_
              refine J_get C fl_X12_52 (by first | assumption | exact jv_up_at _ _ _ | (simp [jv_up, *]; done)) (by rfl) dX12_pick_192 ?_
              first | refine J_aload_n C rfl dX12_pick_195 ?_ | refine J_aload_nq C rfl dX12_pick_195 ?_ | refine J_aload_nN C rfl dX12_pick_195 ?_
              refine J_get C fl_X12_184 (by first | assumption | exact jv_up_at _ _ _ | (simp [jv_up, *]; done)) (by rfl) dX12_pick_196 ?_
              rw [ML.1]
              first | refine J_aload_n C rfl dX12_pick_199 ?_ | refine J_aload_nq C rfl dX12_pick_199 ?_ | refine J_aload_nN C rfl dX12_pick_199 ?_
              refine J_get C fl_X12_46 (by first | assumption | exact jv_up_at _ _ _ | (simp [jv_up, *]; done)) (by rfl) dX12_pick_200 ?_
              refine J_iload C rfl dX12_pick_203 ?_
              refine J_iald C (by first | assumption | exact jv_up_at _ _ _ | (simp [jv_up, *]; done)) rfl (by omega) (by omega) dX12_pick_205 ?_
              rw [show va_up N' 20 (upd (N' 20) acc.length (nI pb.1)) 18 b = f b from n18 b hbl]
              refine J_iast C (by first | assumption | exact jv_up_at _ _ _ | (simp [jv_up, *]; done)) rfl (by omega) (by omega) dX12_pick_206 ?_
              first | refine J_aload_n C rfl dX12_pick_207 ?_ | refine J_aload_nq C rfl dX12_pick_207 ?_ | refine J_aload_nN C rfl dX12_pick_207 ?_
              refine J_get C fl_X12_46 (by first | assumption | exact jv_up_at _ _ _ | (simp [jv_up, *]; done)) (by rfl) dX12_pick_208 ?_
              refine J_iload C rfl dX12_pick_211 ?_
              refine J_iconst C (v := (-1)) (by decide) dX12_pick_213 ?_
              refine J_iast C (by first | assumption | exact jv_up_at _ _ _ | (simp [jv_up, *]; done)) rfl (by omega) (by omega) dX12_pick_214 ?_
              have hl1 : (acc ++ [(pb.1, f b)]).length = acc.length + 1 := by rw [List.length_append]; rfl
              first | refine J_aload_n C rfl dX12_pick_215 ?_ | refine J_aload_nq C rfl dX12_pick_215 ?_ | refine J_aload_nN C rfl dX12_pick_215 ?_
              refine J_dup C rfl dX12_pick_216 ?_
              refine J_get C fl_X12_184 (by first | assumption | exact jv_up_at _ _ _ | (simp [jv_up, *]; done)) (by rfl) dX12_pick_217 ?_
              refine J_iconst C (v := nI 1) (by decide) dX12_pick_220 ?_
              rw [ML.1]
              first | refine J_niadd C dX12_pick_221 ?_ | refine J_iadd C dX12_pick_221 ?_
              first | refine J_mput C fl_X12_184 (by first | assumption | exact jv_up_at _ _ _) (by decide) (by rfl) (by rfl) dX12_pick_222 ?_ | refine J_put C fl_X12_184 (by first | assumption | exact jv_up_at _ _ _ | (simp [jv_up, *]; done)) (by exact Nat.le_of_ble_eq_true rfl) (by rfl) (by rfl) dX12_pick_222 ?_
              first | refine J_niinc (b := 1) C rfl (by decide) dX12_pick_225 ?_ | refine J_iinc C rfl (by decide) dX12_pick_225 ?_
              refine J_goto C 52 (by decide) dX12_pick_228 ?_
              refine J_sub (by exact (And.intro rfl (And.intro rfl (And.intro rfl trivial)))) (ih (i + 1) (acc ++ [(pb.1, f b)]) (upd f b (-1)) _ _ _ (by omega) (by rw [hl1, hl]) (fr_tr (fr_tr (fr_tr (fr_tr F (mdS_up 20 rfl _)) (mdS_up 21 rfl _)) (mdS_up 18 rfl _)) (fr_up (Or.inl rfl))) (mdl_s M4 (va_up g' 19 (nI (acc.length + 1)))) (fun j hj => (if_neg hj).trans (gk j hj)) (fun j j1 j2 j3 => ((if_neg j1).trans ((if_neg j3).trans (if_neg j2))).trans (nk j j1 j2 j3)) (fun d2 hd2 => ?_) ⟨by rw [hl1]; exact if_pos rfl, by rw [hl1]; omega, fun j x hj => ?_⟩ (fun R hR => ?_))
              · show upd (N' 18) b (-1) d2 = upd f b (-1) d2
                by_cases c : d2 = b
                · rw [c, pk_us, pk_us]
                · rw [pk_un c, pk_un c]; exact n18 d2 hd2
              · show upd (N' 20) acc.length (nI pb.1) j = nI x.1 ∧ upd (N' 21) acc.length (f b) j = x.2
                by_cases c : j = acc.length
                · rw [c, List.getElem?_append_right (Nat.le_refl _), Nat.sub_self] at hj
                  cases hj
                  rw [c, pk_us, pk_us]
                  exact ⟨rfl, rfl⟩
                · have hjl := (List.getElem?_eq_some_iff.mp hj).1
                  rw [hl1] at hjl
                  rw [List.getElem?_append_left (by omega)] at hj
                  rw [pk_un c, pk_un c]
                  exact ML.2.2 j x hj
              · rw [List.append_assoc]
                have hfb : hsM md f b = some (pb.1, f b) := by unfold hsM; rw [b3]; exact if_neg b2
                have hfb' : hsM md (upd f b (-1)) b = none := by unfold hsM; rw [b3]; show (if upd f b (-1) b ≤ 0 then _ else _) = _; rw [pk_us]; exact if_pos (by decide)
                have pp := fm_one hfb hfb' (fun d2 hd2 => by unfold hsM; rw [pk_un hd2]) (List.range md.length) List.nodup_range (List.mem_range.mpr hbl)
                refine P _ ?_
                rw [show k - i = (k - (i + 1)) + 1 by omega]
                refine topR_cons pp (fun x hx => ?_) hR
                obtain ⟨e, he, hx2⟩ := List.mem_filterMap.mp hx
                have he := List.mem_range.mp he
                have hxe := List.getElem?_eq_getElem he
                unfold hsM at hx2
                rw [hxe] at hx2
                have hx2 : (if upd f b (-1) e ≤ 0 then none else some (md[e].1, upd f b (-1) e)) = some x := hx2
                generalize md[e]'he = pe at hxe hx2
                by_cases c : e = b
                · rw [c, pk_us, if_pos (by decide)] at hx2
                  cases hx2
                · rw [pk_un c] at hx2
                  split at hx2
                  · cases hx2
                  · rename_i hp
                    cases hx2
                    exact b4 e _ (by omega) c hxe hp
          · omega
        | succ n2 ih2 =>
          intro d o hd hb
          have hx := List.getElem?_eq_getElem (l := md) (i := d) (by omega)
          generalize md[d]'(by omega) = p at hx
          obtain ⟨r1, r2, -⟩ := t3 d p hx
          have hdl : d < md.length := by omega
          have f18 := n18 d hdl
          have keep : (f d ≤ 0 ∨ ∃ b, o = some b ∧ ∀ pb, md[b]? = some pb → ¬ hi_bt (p.1, f d) (pb.1, f b) = true) → bstP md f (d + 1) o := by
            intro hc
            cases o with
            | none =>
              intro e he
              rcases Nat.lt_succ_iff_lt_or_eq.mp he with q | q
              · exact hb e q
              · rw [q]
                rcases hc with hc | ⟨b, hc, -⟩
                · exact hc
                · cases hc
            | some b =>
              obtain ⟨b1, b2, pb, b3, b4⟩ := hb
              refine ⟨by omega, b2, pb, b3, fun e pe he hne hpe hfe => ?_⟩
              rcases Nat.lt_succ_iff_lt_or_eq.mp he with q | q
              · exact b4 e pe q hne hpe hfe
              · subst q
                rw [hx] at hpe
                cases hpe
                rcases hc with hc | ⟨b', hc, hc2⟩
                · exact absurd hc hfe
                · cases hc
                  refine hi_total (fun z => hne ?_) (hc2 pb b3)
                  have z : p.1 = pb.1 := z
                  have h1 : (md.map (·.1))[e]? = some p.1 := by rw [List.getElem?_map, hx]; rfl
                  have h2 : (md.map (·.1))[b]? = some p.1 := by rw [List.getElem?_map, b3, z]; rfl
                  obtain ⟨x1, x2⟩ := List.getElem?_eq_some_iff.mp h1
                  obtain ⟨y1, y2⟩ := List.getElem?_eq_some_iff.mp h2
                  rcases Nat.lt_trichotomy e b with q | q | q
                  · exact absurd (x2.trans y2.symm) (List.pairwise_iff_getElem.mp hk e b x1 y1 q)
                  · exact q
                  · exact absurd (y2.trans x2.symm) (List.pairwise_iff_getElem.mp hk b e y1 x1 q)
          have take : ¬ f d ≤ 0 → (o = none ∨ ∃ b, o = some b ∧ ∀ pb, md[b]? = some pb → hi_bt (p.1, f d) (pb.1, f b) = true) → bstP md f (d + 1) (some d) := by
            intro h0 hc
            refine ⟨by omega, h0, p, hx, fun e pe he hne hpe hfe => ?_⟩
            have he : e < d := by omega
            rcases hc with hc | ⟨b, hc, hc2⟩
            · subst hc
              exact absurd (hb e he) hfe
            · subst hc
              obtain ⟨b1, b2, pb, b3, b4⟩ := hb
              by_cases c : e = b
              · subst c
                rw [b3] at hpe
                cases hpe
                exact hc2 _ b3
              · exact hi_trans (hc2 pb b3) (b4 e pe he c hpe hfe)
          have K133 : ∀ b : Bool, (b = true → (o = none ∨ ∃ b, o = some b ∧ ∀ pb, md[b]? = some pb → hi_bt (p.1, f d) (pb.1, f b) = true)) → (b = false → ∃ b, o = some b ∧ ∀ pb, md[b]? = some pb → ¬ hi_bt (p.1, f d) (pb.1, f b) = true) → J K 0 0 133 (jv_l [(5, .int (nI d)), (4, .int (bstI o)), (3, .int (nI i)), (1, .int (nI k)), (0, .ref m)]) [.int (jv_b b)] h' := by
            intro b hbt hbf
            refine J_istore C (by decide) dX12_pick_133 ?_
            first | refine J_aload_n C rfl dX12_pick_135 ?_ | refine J_aload_nq C rfl dX12_pick_135 ?_ | refine J_aload_nN C rfl dX12_pick_135 ?_
            refine J_get C fl_X12_46 (by first | assumption | exact jv_up_at _ _ _ | (simp [jv_up, *]; done)) (by rfl) dX12_pick_136 ?_
            refine J_iload C rfl dX12_pick_139 ?_
            refine J_iald C (by first | assumption | exact jv_up_at _ _ _ | (simp [jv_up, *]; done)) rfl (by omega) (by omega) dX12_pick_141 ?_
            rw [f18]
            refine J_if_le C 155 (by decide) dX12_pick_142 (fun z => ?_) (fun z => ?_)
            · refine J_iload C rfl dX12_pick_155 ?_
              refine J_istore C (by decide) dX12_pick_157 ?_
              first | refine J_niinc (b := 1) C rfl (by decide) dX12_pick_159 ?_ | refine J_iinc C rfl (by decide) dX12_pick_159 ?_
              refine J_goto C 63 (by decide) dX12_pick_162 ?_
              refine J_sub (by exact (And.intro rfl (And.intro rfl (And.intro rfl (And.intro rfl (And.intro rfl trivial)))))) (ih2 (d + 1) o (by omega) (keep (Or.inl z)))
            · refine J_iload C rfl dX12_pick_145 ?_
              refine J_bif_eq C 155 (by decide) dX12_pick_147 (fun z2 => ?_) (fun z2 => ?_)
              · refine J_iload C rfl dX12_pick_155 ?_
                refine J_istore C (by decide) dX12_pick_157 ?_
                first | refine J_niinc (b := 1) C rfl (by decide) dX12_pick_159 ?_ | refine J_iinc C rfl (by decide) dX12_pick_159 ?_
                refine J_goto C 63 (by decide) dX12_pick_162 ?_
                refine J_sub (by exact (And.intro rfl (And.intro rfl (And.intro rfl (And.intro rfl (And.intro rfl trivial)))))) (ih2 (d + 1) o (by omega) (keep (Or.inr (hbf z2))))
              · refine J_iload C rfl dX12_pick_150 ?_
                refine J_goto C 157 (by decide) dX12_pick_152 ?_
                refine J_istore C (by decide) dX12_pick_157 ?_
                first | refine J_niinc (b := 1) C rfl (by decide) dX12_pick_159 ?_ | refine J_iinc C rfl (by decide) dX12_pick_159 ?_
                refine J_goto C 63 (by decide) dX12_pick_162 ?_
                refine J_sub (by exact (And.intro rfl (And.intro rfl (And.intro rfl (And.intro rfl (And.intro rfl trivial)))))) (ih2 (d + 1) (some d) (by omega) (take z (hbt z2)))
          have Ky : (o = none ∨ ∃ b, o = some b ∧ ∀ pb, md[b]? = some pb → hi_bt (p.1, f d) (pb.1, f b) = true) → J K 0 0 128 (jv_l [(5, .int (nI d)), (4, .int (bstI o)), (3, .int (nI i)), (1, .int (nI k)), (0, .ref m)]) [] h' := by
            intro hc
            refine J_iconst C (v := nI 1) (by decide) dX12_pick_128 ?_
            refine J_goto C 133 (by decide) dX12_pick_129 ?_
            refine J_sub (by exact (And.intro rfl (And.intro rfl (And.intro rfl (And.intro rfl (And.intro rfl trivial)))))) (K133 true (fun _ => hc) (fun q => by cases q))
          have Kn : (∃ b, o = some b ∧ ∀ pb, md[b]? = some pb → ¬ hi_bt (p.1, f d) (pb.1, f b) = true) → J K 0 0 132 (jv_l [(5, .int (nI d)), (4, .int (bstI o)), (3, .int (nI i)), (1, .int (nI k)), (0, .ref m)]) [] h' := by
            intro hc
            refine J_iconst C (v := nI 0) (by decide) dX12_pick_132 ?_
            refine J_sub (by exact (And.intro rfl (And.intro rfl (And.intro rfl (And.intro rfl (And.intro rfl trivial)))))) (K133 false (fun q => by cases q) (fun _ => hc))
          refine J_iload C rfl dX12_pick_63 ?_
          first | refine J_aload_n C rfl dX12_pick_65 ?_ | refine J_aload_nq C rfl dX12_pick_65 ?_ | refine J_aload_nN C rfl dX12_pick_65 ?_
          refine J_get C fl_X12_85 (by first | assumption | exact jv_up_at _ _ _ | (simp [jv_up, *]; done)) (by rfl) dX12_pick_66 ?_
          rw [g'3]
          refine J_nicmp_ge C (by first | omega | (dsimp only; omega)) (by first | omega | (dsimp only; omega)) 165 (by decide) dX12_pick_69 (fun z => ?_) (fun z => ?_)
          · omega
          · refine J_iload C rfl dX12_pick_72 ?_
            cases o with
            | none =>
              refine J_if_lt C 128 (by decide) dX12_pick_74 (fun z2 => ?_) (fun z2 => ?_)
              · refine J_sub (by exact (And.intro rfl (And.intro rfl (And.intro rfl (And.intro rfl (And.intro rfl trivial)))))) (Ky (Or.inl rfl))
              · exact absurd (by decide) z2
            | some b =>
              obtain ⟨b1, b2, pb, b3, b4⟩ := id hb
              obtain ⟨s1, s2, -⟩ := t3 b pb b3
              have f18b := n18 b (by omega)
              show J K 0 0 _ _ (.int (nI b) :: _) _
              refine J_nif_lt C (by omega) 128 dX12_pick_74 (by decide) ?_
              first | refine J_aload_n C rfl dX12_pick_77 ?_ | refine J_aload_nq C rfl dX12_pick_77 ?_ | refine J_aload_nN C rfl dX12_pick_77 ?_
              refine J_get C fl_X12_46 (by first | assumption | exact jv_up_at _ _ _ | (simp [jv_up, *]; done)) (by rfl) dX12_pick_78 ?_
              refine J_iload C rfl dX12_pick_81 ?_
              refine J_iald C (by first | assumption | exact jv_up_at _ _ _ | (simp [jv_up, *]; done)) rfl (by omega) (by omega) dX12_pick_83 ?_
              rw [f18]
              first | refine J_aload_n C rfl dX12_pick_84 ?_ | refine J_aload_nq C rfl dX12_pick_84 ?_ | refine J_aload_nN C rfl dX12_pick_84 ?_
              refine J_get C fl_X12_46 (by first | assumption | exact jv_up_at _ _ _ | (simp [jv_up, *]; done)) (by rfl) dX12_pick_85 ?_
              refine J_iload C rfl dX12_pick_88 ?_
              refine J_iald C (by first | assumption | exact jv_up_at _ _ _ | (simp [jv_up, *]; done)) (show bstI (some b) = nI b from rfl) (by omega) (by omega) dX12_pick_90 ?_
              rw [f18b]
              refine J_icmp_gt C 128 (by decide) dX12_pick_91 (fun z3 => ?_) (fun z3 => ?_)
              · refine J_sub (by exact (And.intro rfl (And.intro rfl (And.intro rfl (And.intro rfl (And.intro rfl trivial)))))) (Ky (Or.inr ⟨b, rfl, fun pb' hpb => (hi_bt_iff _ _).mpr (Or.inl z3)⟩))
              · first | refine J_aload_n C rfl dX12_pick_94 ?_ | refine J_aload_nq C rfl dX12_pick_94 ?_ | refine J_aload_nN C rfl dX12_pick_94 ?_
                refine J_get C fl_X12_46 (by first | assumption | exact jv_up_at _ _ _ | (simp [jv_up, *]; done)) (by rfl) dX12_pick_95 ?_
                refine J_iload C rfl dX12_pick_98 ?_
                refine J_iald C (by first | assumption | exact jv_up_at _ _ _ | (simp [jv_up, *]; done)) rfl (by omega) (by omega) dX12_pick_100 ?_
                rw [f18]
                first | refine J_aload_n C rfl dX12_pick_101 ?_ | refine J_aload_nq C rfl dX12_pick_101 ?_ | refine J_aload_nN C rfl dX12_pick_101 ?_
                refine J_get C fl_X12_46 (by first | assumption | exact jv_up_at _ _ _ | (simp [jv_up, *]; done)) (by rfl) dX12_pick_102 ?_
                refine J_iload C rfl dX12_pick_105 ?_
                refine J_iald C (by first | assumption | exact jv_up_at _ _ _ | (simp [jv_up, *]; done)) (show bstI (some b) = nI b from rfl) (by omega) (by omega) dX12_pick_107 ?_
                rw [f18b]
                refine J_icmp_ne C 132 (by decide) dX12_pick_108 (fun z4 => ?_) (fun z4 => ?_)
                · refine J_sub (by exact (And.intro rfl (And.intro rfl (And.intro rfl (And.intro rfl (And.intro rfl trivial)))))) (Kn ⟨b, rfl, fun pb' hpb q => by rcases (hi_bt_iff _ _).mp q with q | q; exact z3 q; exact z4 q.1⟩)
                · first | refine J_aload_n C rfl dX12_pick_111 ?_ | refine J_aload_nq C rfl dX12_pick_111 ?_ | refine J_aload_nN C rfl dX12_pick_111 ?_
                  refine J_get C fl_X12_13 (by first | assumption | exact jv_up_at _ _ _ | (simp [jv_up, *]; done)) (by rfl) dX12_pick_112 ?_
                  refine J_iload C rfl dX12_pick_115 ?_
                  refine J_iald C (by first | assumption | exact jv_up_at _ _ _ | (simp [jv_up, *]; done)) rfl (by omega) (by omega) dX12_pick_117 ?_
                  rw [r1]
                  first | refine J_aload_n C rfl dX12_pick_118 ?_ | refine J_aload_nq C rfl dX12_pick_118 ?_ | refine J_aload_nN C rfl dX12_pick_118 ?_
                  refine J_get C fl_X12_13 (by first | assumption | exact jv_up_at _ _ _ | (simp [jv_up, *]; done)) (by rfl) dX12_pick_119 ?_
                  refine J_iload C rfl dX12_pick_122 ?_
                  refine J_iald C (by first | assumption | exact jv_up_at _ _ _ | (simp [jv_up, *]; done)) (show bstI (some b) = nI b from rfl) (by omega) (by omega) dX12_pick_124 ?_
                  rw [s1]
                  refine J_nicmp_ge C (by first | omega | (dsimp only; omega)) (by first | omega | (dsimp only; omega)) 132 (by decide) dX12_pick_125 (fun z5 => ?_) (fun z5 => ?_)
                  · refine J_sub (by exact (And.intro rfl (And.intro rfl (And.intro rfl (And.intro rfl (And.intro rfl trivial)))))) (Kn ⟨b, rfl, fun pb' hpb q => by rw [b3] at hpb; cases hpb; rcases (hi_bt_iff _ _).mp q with q | q; exact z3 q; exact absurd q.2 (by show ¬ p.1 < pb.1; omega)⟩)
                  · refine J_sub (by exact (And.intro rfl (And.intro rfl (And.intro rfl (And.intro rfl (And.intro rfl trivial)))))) (Ky (Or.inr ⟨b, rfl, fun pb' hpb => by rw [b3] at hpb; cases hpb; exact (hi_bt_iff _ _).mpr (Or.inr ⟨z4, z5⟩)⟩))
      refine J_iload_n C rfl dX12_pick_52 ?_
      refine J_iload_n C rfl dX12_pick_53 ?_
      refine J_nicmp_ge C (by first | omega | (dsimp only; omega)) (by first | omega | (dsimp only; omega)) 231 (by decide) dX12_pick_54 (fun z => ?_) (fun z => ?_)
      · omega
      · refine J_iconst C (v := (-1)) (by decide) dX12_pick_57 ?_
        refine J_istore C (by decide) dX12_pick_58 ?_
        refine J_iconst C (v := nI 0) (by decide) dX12_pick_60 ?_
        refine J_istore C (by decide) dX12_pick_61 ?_
        refine J_sub (by exact (And.intro rfl (And.intro rfl (And.intro rfl (And.intro rfl (And.intro rfl trivial)))))) (inner md.length 0 none (by omega) (fun e he => absurd he (Nat.not_lt_zero e)))
  -- the scores
  have ph1 : ∀ (n d : Nat) (N' : Nat → Nat → Int32) (h' : jH), d + n = md.length → fr (mdS m A) h h' → mdl h' m A g1 N' Q1 → (∀ i, i ≠ 18 → N' i = N1 i) → (∀ e p, e < d → md[e]? = some p → N' 18 e = scM md T W p) → J K 0 0 6 (jv_l [(3, .int (nI d)), (2, .int W), (1, .int (nI k)), (0, .ref m)]) [] h' := by
    intro n
    induction n with
    | zero =>
      intro d N' h' hd F M' nk n18
      have hd : d = md.length := hd
      have m1' := M'.1
      refine J_iload_n C rfl dX12_pick_6 ?_
      first | refine J_aload_n C rfl dX12_pick_7 ?_ | refine J_aload_nq C rfl dX12_pick_7 ?_ | refine J_aload_nN C rfl dX12_pick_7 ?_
      refine J_get C fl_X12_85 (by first | assumption | exact jv_up_at _ _ _ | (simp [jv_up, *]; done)) (by rfl) dX12_pick_8 ?_
      rw [g13]
      refine J_nicmp_ge C (by first | omega | (dsimp only; omega)) (by first | omega | (dsimp only; omega)) 45 (by decide) dX12_pick_11 (fun z => ?_) (fun z => ?_)
      · have M2 := mdl_s M' (va_up g1 19 (nI 0))
        first | refine J_aload_n C rfl dX12_pick_45 ?_ | refine J_aload_nq C rfl dX12_pick_45 ?_ | refine J_aload_nN C rfl dX12_pick_45 ?_
        refine J_iconst C (v := nI 0) (by decide) dX12_pick_46 ?_
        first | refine J_mput C fl_X12_184 (by first | assumption | exact jv_up_at _ _ _) (by decide) (by rfl) (by rfl) dX12_pick_47 ?_ | refine J_put C fl_X12_184 (by first | assumption | exact jv_up_at _ _ _ | (simp [jv_up, *]; done)) (by exact Nat.le_of_ble_eq_true rfl) (by rfl) (by rfl) dX12_pick_47 ?_
        refine J_iconst C (v := nI 0) (by decide) dX12_pick_50 ?_
        refine J_istore_n C (by decide) dX12_pick_51 ?_
        refine J_sub (by exact (And.intro rfl (And.intro rfl (And.intro rfl trivial)))) (ph2 k 0 [] (N' 18) _ N' _ (by omega) rfl (fr_tr F (fr_up (Or.inl rfl))) M2 (fun j hj => if_neg hj) (fun j j1 _ _ => nk j j1) (fun _ _ => rfl) ⟨rfl, by decide, fun j x hj => by cases hj⟩ (fun R hR => ?_))
        rw [Nat.sub_zero, hs_all md (N' 18) (hitM md T W) (fun e p hp => by
          unfold hsM hitM
          rw [hp, ← n18 e p (by rw [hd]; exact (List.getElem?_eq_some_iff.mp hp).1) hp])] at hR
        exact hR
      · omega
    | succ n ih =>
      intro d N' h' hd F M' nk n18
      have hx := List.getElem?_eq_getElem (l := md) (i := d) (by omega)
      generalize md[d]'(by omega) = p at hx
      obtain ⟨r1, r2, -⟩ := t3 d p hx
      have m1' := M'.1
      have a4 := M'.2.1 4 _ rfl
      have a18 := M'.2.1 18 _ rfl
      rw [(nk 4 (by decide)).trans n14] at a4
      have D' : mdD g1 N' Q1 md := mdD_congr (g := g1) D1 rfl (nk 4 (by decide)) (nk 5 (by decide)) rfl
      have kn' : known N' Q1 md := by unfold known at kn ⊢; rw [nk 26 (by decide), nk 23 (by decide), nk 24 (by decide)]; exact kn
      have K38 : ∀ x : Int32, x = scM md T W p → J K 0 0 38 (jv_l [(3, .int (nI d)), (2, .int W), (1, .int (nI k)), (0, .ref m)]) [.int x, .int (nI d), .ref (A 18)] h' := by
        intro x hxv
        have M2 := mdl_N M' 18 (u := upd (N' 18) d x) rfl rfl
        refine J_iast C (by first | assumption | exact jv_up_at _ _ _ | (simp [jv_up, *]; done)) rfl (by omega) (by omega) dX12_pick_38 ?_
        first | refine J_niinc (b := 1) C rfl (by decide) dX12_pick_39 ?_ | refine J_iinc C rfl (by decide) dX12_pick_39 ?_
        refine J_goto C 6 (by decide) dX12_pick_42 ?_
        refine J_sub (by exact (And.intro rfl (And.intro rfl (And.intro rfl (And.intro rfl trivial))))) (ih (d + 1) _ _ (by omega) (fr_tr F (mdS_up 18 rfl _)) M2 (fun i hi => (if_neg hi).trans (nk i hi)) (fun e pe he hpe => ?_))
        show upd (N' 18) d x e = _
        by_cases c : e = d
        · subst c
          rw [hx] at hpe
          cases hpe
          rw [pk_us]; exact hxv
        · rw [pk_un c]
          exact n18 e pe (by omega) hpe
      refine J_iload_n C rfl dX12_pick_6 ?_
      first | refine J_aload_n C rfl dX12_pick_7 ?_ | refine J_aload_nq C rfl dX12_pick_7 ?_ | refine J_aload_nN C rfl dX12_pick_7 ?_
      refine J_get C fl_X12_85 (by first | assumption | exact jv_up_at _ _ _ | (simp [jv_up, *]; done)) (by rfl) dX12_pick_8 ?_
      rw [g13]
      refine J_nicmp_ge C (by first | omega | (dsimp only; omega)) (by first | omega | (dsimp only; omega)) 45 (by decide) dX12_pick_11 (fun z => ?_) (fun z => ?_)
      · omega
      · first | refine J_aload_n C rfl dX12_pick_14 ?_ | refine J_aload_nq C rfl dX12_pick_14 ?_ | refine J_aload_nN C rfl dX12_pick_14 ?_
        refine J_get C fl_X12_46 (by first | assumption | exact jv_up_at _ _ _ | (simp [jv_up, *]; done)) (by rfl) dX12_pick_15 ?_
        refine J_iload_n C rfl dX12_pick_18 ?_
        first | refine J_aload_n C rfl dX12_pick_19 ?_ | refine J_aload_nq C rfl dX12_pick_19 ?_ | refine J_aload_nN C rfl dX12_pick_19 ?_
        refine J_get C fl_X12_13 (by first | assumption | exact jv_up_at _ _ _ | (simp [jv_up, *]; done)) (by rfl) dX12_pick_20 ?_
        refine J_iload_n C rfl dX12_pick_23 ?_
        refine J_iald C (by first | assumption | exact jv_up_at _ _ _ | (simp [jv_up, *]; done)) rfl (by omega) (by omega) dX12_pick_24 ?_
        rw [r1]
        refine J_iload_n C rfl dX12_pick_25 ?_
        refine J_icmp_ne C 33 (by decide) dX12_pick_26 (fun z2 => ?_) (fun z2 => ?_)
        · first | refine J_aload_n C rfl dX12_pick_33 ?_ | refine J_aload_nq C rfl dX12_pick_33 ?_ | refine J_aload_nN C rfl dX12_pick_33 ?_
          refine J_iload_n C rfl dX12_pick_34 ?_
          refine J_callV C (c_M_scoreOf M' D' kn' ((g1k 9 (by decide)).trans g9) hT (TM1 N' nk) hx) cw_X12_181 (by first | assumption | exact jv_up_at _ _ _ | (simp [jv_up, *]; done)) rfl rfl rfl rfl (by exact Nat.le_of_ble_eq_true rfl) (by decide) (by omega) (by omega) dX12_pick_35 ?_
          rintro _ h9 ⟨rfl, e9⟩
          replace e9 := e9.symm
          subst e9
          refine J_sub (by exact (And.intro rfl (And.intro rfl (And.intro rfl (And.intro rfl trivial))))) (K38 _ (by unfold scM; rw [if_neg z2]; rfl))
        · refine J_iconst C (v := (-1)) (by decide) dX12_pick_29 ?_
          refine J_goto C 38 (by decide) dX12_pick_30 ?_
          refine J_sub (by exact (And.intro rfl (And.intro rfl (And.intro rfl (And.intro rfl trivial))))) (K38 (-1) (by unfold scM; rw [if_pos z2]))
  refine J_iconst C (v := nI 0) (by decide) dX12_pick_4 ?_
  refine J_istore_n C (by decide) dX12_pick_5 ?_
  refine J_sub (by exact (And.intro rfl (And.intro rfl (And.intro rfl (And.intro rfl trivial))))) (ph1 md.length 0 N1 h1 (by omega) F1 M1 (fun _ _ => rfl) (fun e p he => absurd he (Nat.not_lt_zero e)))
end PICK
