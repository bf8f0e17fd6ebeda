/-! the model: know, whole -/
theorem nar_b (b : Bool) : vp_nar .boolean (jv_b b) = jv_b b := by cases b <;> rfl
theorem cnt_first {md : dsT} {d k : Nat} {ws : List Int64} {u : Int64} (hu : ws[k]? = some u) (hn : u ∉ ws.take k) (w : Int64) : cntP md d ws (k + 1) w = if w = u then cntP md d ws k w + 1 else cntP md d ws k w := by
  have ht : ws.take (k + 1) = ws.take k ++ [u] := by rw [List.take_add_one, hu]; rfl
  unfold cntP
  rw [ht]
  by_cases c : w = u
  · subst c
    rw [if_pos (List.mem_append_right _ List.mem_cons_self), if_pos rfl, if_neg hn]
  · rw [if_neg c]
    by_cases c2 : w ∈ ws.take k
    · rw [if_pos (List.mem_append_left _ c2), if_pos c2]
    · rw [if_neg (fun z => (List.mem_append.mp z).elim c2 (fun z => c (List.mem_singleton.mp z))), if_neg c2]
theorem cnt_old {md : dsT} {d k : Nat} {ws : List Int64} {u : Int64} (hu : ws[k]? = some u) (hn : u ∈ ws.take k) (w : Int64) : cntP md d ws (k + 1) w = cntP md d ws k w := by
  have ht : ws.take (k + 1) = ws.take k ++ [u] := by rw [List.take_add_one, hu]; rfl
  unfold cntP
  rw [ht]
  by_cases c2 : w ∈ ws.take k
  · rw [if_pos (List.mem_append_left _ c2), if_pos c2]
  · rw [if_neg (fun z => (List.mem_append.mp z).elim c2 (fun z => c2 (by rw [List.mem_singleton.mp z]; exact hn))), if_neg c2]
theorem cnt_end {md : dsT} {d : Nat} {p : Nat × List Int64} (hd : md[d]? = some p) (w : Int64) : dsH (md.take (d + 1)) w = cntP md d p.2 p.2.length w := by
  unfold cntP dsH
  rw [List.take_add_one, hd, List.take_length, List.countP_append]
  show _ + List.countP _ [p] = _
  rw [List.countP_singleton]
  by_cases c : w ∈ p.2
  · rw [if_pos c, if_pos (decide_eq_true c)]
  · rw [if_neg c, if_neg (by simp [c])]
theorem cnt_zero (md : dsT) (d : Nat) (ws : List Int64) (w : Int64) : cntP md d ws 0 w = dsH (md.take d) w := by
  unfold cntP
  rw [List.take_zero, if_neg List.not_mem_nil]; rfl
theorem cnt_le (md : dsT) (d : Nat) (ws : List Int64) (k : Nat) (w : Int64) : cntP md d ws k w ≤ d + 1 := by
  unfold cntP
  have := dsH_le (md.take d) w
  rw [List.length_take] at this
  split <;> omega
theorem flat_len : ∀ (md : dsT), (∀ p ∈ md, p.2.length ≤ 200) → (md.flatMap (·.2)).length ≤ 200 * md.length
  | [], _ => Nat.le_refl _
  | p :: t, h => by
    have := flat_len t (fun q hq => h q (List.mem_cons_of_mem _ hq))
    have h0 := h p List.mem_cons_self
    rw [List.flatMap_cons, List.length_append, List.length_cons]
    omega
section KNOW2
variable {l : jL} {h : jH} {m : Nat} {A : Nat → Nat} {g : Nat → Int32} {N : Nat → Nat → Int32} {Q : Nat → Nat → Int64} {md : dsT}
/-- the table while it is being filled -/
def kS (h : jH) (m : Nat) (A : Nat → Nat) (g : Nat → Int32) (N : Nat → Nat → Int32) (Q : Nat → Nat → Int64) (md : dsT) (n : Int64 → Nat) (F : Nat → Nat → Prop) (h' : jH) : Prop :=
  fr (mdS m A) h h' ∧ ∃ N' Q' c, mdl h' m A g N' Q' ∧ (∀ i, i ≠ 23 → i ≠ 24 → i ≠ 26 → N' i = N i) ∧ (∀ i, i ≠ 25 → Q' i = Q i) ∧ (∀ s, s < 32768 → N' 26 s = nI (c s)) ∧ hT (Q' 25) c (md.flatMap (·.2)) ∧ (∀ w, hC (Q' 25) c w (n w)) ∧ ∀ d p, md[d]? = some p → ∀ k u, p.2[k]? = some u → F d k → N' 23 (200 * d + k) = jv_b (decide (u ∉ p.2.take k))
/-- and what the words are worth -/
def kW (h : jH) (m : Nat) (A : Nat → Nat) (g : Nat → Int32) (N : Nat → Nat → Int32) (Q : Nat → Nat → Int64) (md : dsT) (F : Nat → Nat → Prop) (h' : jH) : Prop :=
  fr (mdS m A) h h' ∧ ∃ N' Q' c, mdl h' m A g N' Q' ∧ (∀ i, i ≠ 23 → i ≠ 24 → i ≠ 26 → N' i = N i) ∧ (∀ i, i ≠ 25 → Q' i = Q i) ∧ (∀ s, s < 32768 → N' 26 s = nI (c s)) ∧ hT (Q' 25) c (md.flatMap (·.2)) ∧ (∀ w, hC (Q' 25) c w (dsH md w)) ∧ ∀ d p, md[d]? = some p → ∀ k u, p.2[k]? = some u → N' 23 (200 * d + k) = jv_b (decide (u ∉ p.2.take k)) ∧ (F d k → u ∉ p.2.take k → N' 24 (200 * d + k) = nI (sp_rar md.length (dsH md u) * sp_imp (p.2.count u) p.2.length))
theorem mdS_up {h : jH} {m : Nat} {A : Nat → Nat} (k : Nat) (hk : mdK k = true) (x : jE) : fr (mdS m A) h (jv_up h (A k) x) := fr_up (Or.inr ⟨k, hk, rfl⟩)
theorem p200_ne {d d' k k' : Nat} (hk : k < 200) (hk' : k' < 200) (hn : ¬ (d' = d ∧ k' = k)) : 200 * d' + k' ≠ 200 * d + k := by omega
set_option maxHeartbeats 2000000 in
theorem c_M_know (M : mdl h m A g N Q) (D9 : mdD g N Q md) (KN : mdKn g N Q md) : Cn l yX12_know cX12_know 5 none 4 0 0 [.ref m] h (fun r h1 => r = none ∧ fr (mdS m A) h h1 ∧ ∃ N' Q', mdl h1 m A (va_up g 22 (nI 1)) N' Q' ∧ (∀ i, i ≠ 23 → i ≠ 24 → i ≠ 26 → N' i = N i) ∧ (∀ i, i ≠ 25 → Q' i = Q i) ∧ known N' Q' md) := by
  have m1 := M.1
  obtain ⟨t1, t2, t3⟩ := id D9
  have hWs : (md.flatMap (·.2)).length ≤ 24000 := by
    have := flat_len md (fun p hp => by
      obtain ⟨d, hd⟩ := List.getElem?_of_mem hp
      exact (t3 d p hd).2.2.2.1)
    omega
  refine Cn.of (own := RX12) rfl (by decide) (by exact Nat.le_of_ble_eq_true rfl) (by decide) (fun K hK C D _ => ?_)
  rcases KN with e | ⟨e, kn⟩
  case inr =>
    first | refine J_aload_n C rfl dX12_know_0 ?_ | refine J_aload_nq C rfl dX12_know_0 ?_ | refine J_aload_nN C rfl dX12_know_0 ?_
    refine J_get C fl_X12_94 (by first | assumption | exact jv_up_at _ _ _ | (simp [jv_up, *]; done)) (by rfl) dX12_know_1 ?_
    rw [e]
    refine J_bif_eq C 8 (by decide) dX12_know_4 (fun z => ?_) (fun z => ?_)
    · cases z
    · have eg : va_up g 22 (nI 1) = g := by
        funext i
        unfold va_up
        by_cases c : i = 22
        · rw [if_pos c, c, e]; rfl
        · rw [if_neg c]
      refine J_vret C D ⟨rfl, fr_rf _ _, N, Q, by rw [eg]; exact M, fun _ _ _ _ => rfl, fun _ _ => rfl, kn⟩ (by omega) (by omega) dX12_know_7
  generalize hg : va_up g 22 (nI 1) = g9 at *
  have g3 : g9 3 = nI md.length := by rw [← hg]; exact t1
  -- what words are worth
  have ph3 : ∀ (n d : Nat) (h' : jH), d + n = md.length → kW h m A g9 N Q md (fun d' _ => d' < d) h' → J K 0 0 135 (jv_l [(1, .int (nI d)), (0, .ref m)]) [] h' := by
    intro n
    induction n with
    | zero =>
      intro d h' hd ⟨F, N', Q', c, M', n1, q1, c1, c2, c3, c4⟩
      have hd : d = md.length := hd
      have m1' := M'.1
      refine J_iload_n C rfl dX12_know_135 ?_
      first | refine J_aload_n C rfl dX12_know_136 ?_ | refine J_aload_nq C rfl dX12_know_136 ?_ | refine J_aload_nN C rfl dX12_know_136 ?_
      refine J_get C fl_X12_85 (by first | assumption | exact jv_up_at _ _ _ | (simp [jv_up, *]; done)) (by rfl) dX12_know_137 ?_
      rw [g3]
      refine J_nicmp_ge C (by first | omega | (dsimp only; omega)) (by first | omega | (dsimp only; omega)) 225 (by decide) dX12_know_140 (fun z => ?_) (fun z => ?_)
      · refine J_vret C D ⟨rfl, F, N', Q', M', n1, q1, ⟨c, _, c1, c2, c3⟩, fun d2 p2 hd2 k2 u2 hk2 => ⟨(c4 d2 p2 hd2 k2 u2 hk2).1, (c4 d2 p2 hd2 k2 u2 hk2).2 (by rw [hd]; exact (List.getElem?_eq_some_iff.mp hd2).1)⟩⟩ (by omega) (by omega) dX12_know_225
      · omega
    | succ n ih =>
      intro d h' hd KW0
      have hx := List.getElem?_eq_getElem (l := md) (i := d) (by omega)
      generalize md[d]'(by omega) = p at hx
      have inner : ∀ (n2 k : Nat) (h2 : jH), k + n2 = p.2.length → kW h m A g9 N Q md (fun d' k' => d' < d ∨ (d' = d ∧ k' < k)) h2 → J K 0 0 145 (jv_l [(2, .int (nI k)), (1, .int (nI d)), (0, .ref m)]) [] h2 := by
        intro n2
        induction n2 with
        | zero =>
          intro k h2 hk ⟨F, N', Q', c, M', n1, q1, c1, c2, c3, c4⟩
          have hk : k = p.2.length := hk
          have m1' := M'.1
          have a5 := M'.2.1 5 _ rfl
          rw [n1 5 (by decide) (by decide) (by decide)] at a5
          obtain ⟨p1, p2, p3, p4, p5⟩ := t3 d p hx
          refine J_iload_n C rfl dX12_know_145 ?_
          first | refine J_aload_n C rfl dX12_know_146 ?_ | refine J_aload_nq C rfl dX12_know_146 ?_ | refine J_aload_nN C rfl dX12_know_146 ?_
          refine J_get C fl_X12_16 (by first | assumption | exact jv_up_at _ _ _ | (simp [jv_up, *]; done)) (by rfl) dX12_know_147 ?_
          refine J_iload_n C rfl dX12_know_150 ?_
          refine J_iald C (by first | assumption | exact jv_up_at _ _ _ | (simp [jv_up, *]; done)) rfl (by omega) (by omega) dX12_know_151 ?_
          rw [p3]
          refine J_nicmp_ge C (by first | omega | (dsimp only; omega)) (by first | omega | (dsimp only; omega)) 219 (by decide) dX12_know_152 (fun z => ?_) (fun z => ?_)
          · first | refine J_niinc (b := 1) C rfl (by decide) dX12_know_219 ?_ | refine J_iinc C rfl (by decide) dX12_know_219 ?_
            refine J_goto C 135 (by decide) dX12_know_222 ?_
            refine J_sub (by exact (And.intro rfl (And.intro rfl trivial))) (ih (d + 1) h2 (by omega) ⟨F, N', Q', c, M', n1, q1, c1, c2, c3, fun d2 p2 hd2 k2 u2 hk2 => ⟨(c4 d2 p2 hd2 k2 u2 hk2).1, fun hF => (c4 d2 p2 hd2 k2 u2 hk2).2 ?_⟩⟩)
            rcases Nat.lt_succ_iff_lt_or_eq.mp hF with q | q
            · exact Or.inl q
            · refine Or.inr ⟨q, ?_⟩
              subst q
              rw [hx] at hd2
              cases hd2
              have := (List.getElem?_eq_some_iff.mp hk2).1
              omega
          · omega
        | succ n2 ih2 =>
          intro k h2 hk ⟨F, N', Q', c, M', n1, q1, c1, c2, c3, c4⟩
          have hxk := List.getElem?_eq_getElem (l := p.2) (i := k) (by omega)
          generalize p.2[k]'(by omega) = u at hxk
          obtain ⟨p1, p2, p3, p4, p5⟩ := t3 d p hx
          have hu := p5 k u hxk
          have D9' : mdD g9 N' Q' md := mdD_congr (g := g) D9 (by rw [← hg]; rfl) (n1 4 (by decide) (by decide) (by decide)) (n1 5 (by decide) (by decide) (by decide)) (q1 6 (by decide))
          have m1' := M'.1
          have a5 := M'.2.1 5 _ rfl
          have a6 := M'.2.1 6 _ rfl
          have a23 := M'.2.1 23 _ rfl
          have a24 := M'.2.1 24 _ rfl
          have a26 := M'.2.1 26 _ rfl
          rw [n1 5 (by decide) (by decide) (by decide)] at a5
          rw [q1 6 (by decide)] at a6
          have hfirst := (c4 d p hx k u hxk).1
          have hcb : ∀ s, s < 32768 → c s ≤ 1000 := hc_le c2 c3 (fun w => by have := dsH_le md w; omega)
          have step : ∀ (x : Int32), (u ∉ p.2.take k → x = nI (sp_rar md.length (dsH md u) * sp_imp (p.2.count u) p.2.length)) → J K 0 0 212 (jv_l [(3, .int (nI (200 * d + k))), (2, .int (nI k)), (1, .int (nI d)), (0, .ref m)]) [.int x, .int (nI (200 * d + k)), .ref (A 24)] h2 := by
            intro x hxv
            refine J_iast C (by first | assumption | exact jv_up_at _ _ _ | (simp [jv_up, *]; done)) rfl (by omega) (by omega) dX12_know_212 ?_
            have M2 := mdl_N M' 24 (u := upd (N' 24) (200 * d + k) x) rfl rfl
            have m2 := M2.1
            first | refine J_niinc (b := 1) C rfl (by decide) dX12_know_213 ?_ | refine J_iinc C rfl (by decide) dX12_know_213 ?_
            refine J_goto C 145 (by decide) dX12_know_216 ?_
            refine J_sub (by exact (And.intro rfl (And.intro rfl (And.intro rfl trivial)))) (ih2 (k + 1) _ (by omega) ⟨fr_tr F (mdS_up 24 rfl _), _, Q', c, M2, fun i i1 i2 i3 => (if_neg i2).trans (n1 i i1 i2 i3), q1, c1, c2, c3, fun d2 p2 hd2 k2 u2 hk2 => ⟨(c4 d2 p2 hd2 k2 u2 hk2).1, fun hF hn2 => ?_⟩⟩)
            show upd (N' 24) (200 * d + k) x (200 * d2 + k2) = _
            have hk2l := (List.getElem?_eq_some_iff.mp hk2).1
            have hp2l := (t3 d2 p2 hd2).2.2.2.1
            by_cases q : d2 = d ∧ k2 = k
            · obtain ⟨rfl, rfl⟩ := q
              rw [hx] at hd2
              cases hd2
              rw [hxk] at hk2
              cases hk2
              rw [pk_us]
              exact hxv hn2
            · rw [pk_un (p200_ne (by omega) (by omega) q)]
              exact (c4 d2 p2 hd2 k2 u2 hk2).2 (by omega) hn2
          refine J_iload_n C rfl dX12_know_145 ?_
          first | refine J_aload_n C rfl dX12_know_146 ?_ | refine J_aload_nq C rfl dX12_know_146 ?_ | refine J_aload_nN C rfl dX12_know_146 ?_
          refine J_get C fl_X12_16 (by first | assumption | exact jv_up_at _ _ _ | (simp [jv_up, *]; done)) (by rfl) dX12_know_147 ?_
          refine J_iload_n C rfl dX12_know_150 ?_
          refine J_iald C (by first | assumption | exact jv_up_at _ _ _ | (simp [jv_up, *]; done)) rfl (by omega) (by omega) dX12_know_151 ?_
          rw [p3]
          refine J_nicmp_ge C (by first | omega | (dsimp only; omega)) (by first | omega | (dsimp only; omega)) 219 (by decide) dX12_know_152 (fun z => ?_) (fun z => ?_)
          · omega
          · refine J_sipush C (v := nI 200) (by decide) dX12_know_155 ?_
            refine J_iload_n C rfl dX12_know_158 ?_
            first | refine J_nimul C dX12_know_159 ?_ | refine J_imul C dX12_know_159 ?_
            refine J_iload_n C rfl dX12_know_160 ?_
            first | refine J_niadd C dX12_know_161 ?_ | refine J_iadd C dX12_know_161 ?_
            refine J_istore_n C (by decide) dX12_know_162 ?_
            first | refine J_aload_n C rfl dX12_know_163 ?_ | refine J_aload_nq C rfl dX12_know_163 ?_ | refine J_aload_nN C rfl dX12_know_163 ?_
            refine J_get C fl_X12_58 (by first | assumption | exact jv_up_at _ _ _ | (simp [jv_up, *]; done)) (by rfl) dX12_know_164 ?_
            refine J_iload_n C rfl dX12_know_167 ?_
            first | refine J_aload_n C rfl dX12_know_168 ?_ | refine J_aload_nq C rfl dX12_know_168 ?_ | refine J_aload_nN C rfl dX12_know_168 ?_
            refine J_get C fl_X12_55 (by first | assumption | exact jv_up_at _ _ _ | (simp [jv_up, *]; done)) (by rfl) dX12_know_169 ?_
            refine J_iload_n C rfl dX12_know_172 ?_
            refine J_zald C (by first | assumption | exact jv_up_at _ _ _ | (simp [jv_up, *]; done)) rfl (by omega) (by omega) dX12_know_173 ?_
            rw [hfirst]
            refine J_bif_eq C 211 (by decide) dX12_know_174 (fun z1 => ?_) (fun z1 => ?_)
            · refine J_iconst C (v := nI 0) (by decide) dX12_know_211 ?_
              refine J_sub (by exact (And.intro rfl (And.intro rfl (And.intro rfl (And.intro rfl trivial))))) (step (nI 0) (fun q => absurd q (of_decide_eq_false z1)))
            · first | refine J_aload_n C rfl dX12_know_177 ?_ | refine J_aload_nq C rfl dX12_know_177 ?_ | refine J_aload_nN C rfl dX12_know_177 ?_
              first | refine J_aload_n C rfl dX12_know_178 ?_ | refine J_aload_nq C rfl dX12_know_178 ?_ | refine J_aload_nN C rfl dX12_know_178 ?_
              refine J_get C fl_X12_65 (by first | assumption | exact jv_up_at _ _ _ | (simp [jv_up, *]; done)) (by rfl) dX12_know_179 ?_
              first | refine J_aload_n C rfl dX12_know_182 ?_ | refine J_aload_nq C rfl dX12_know_182 ?_ | refine J_aload_nN C rfl dX12_know_182 ?_
              first | refine J_aload_n C rfl dX12_know_183 ?_ | refine J_aload_nq C rfl dX12_know_183 ?_ | refine J_aload_nN C rfl dX12_know_183 ?_
              refine J_get C fl_X12_19 (by first | assumption | exact jv_up_at _ _ _ | (simp [jv_up, *]; done)) (by rfl) dX12_know_184 ?_
              refine J_iload_n C rfl dX12_know_187 ?_
              refine J_lald C (by first | assumption | exact jv_up_at _ _ _ | (simp [jv_up, *]; done)) rfl (by omega) (by omega) dX12_know_188 ?_
              rw [hu]
              refine J_callV C (c_M_spot M' c1 hcb c2 u) cw_X12_102 (by first | assumption | exact jv_up_at _ _ _ | (simp [jv_up, *]; done)) rfl rfl rfl rfl (by exact Nat.le_of_ble_eq_true rfl) (by decide) (by omega) (by omega) dX12_know_189 ?_
              rintro _ h9 ⟨e9, s, hs, rfl, hP9⟩
              replace e9 := e9.symm
              subst e9
              refine J_iald C (by first | assumption | exact jv_up_at _ _ _ | (simp [jv_up, *]; done)) rfl (by omega) (by omega) dX12_know_192 ?_
              rw [c1 s hs, hP_cnt c2 hP9 (c3 u)]
              refine J_callV C (c_M_digitsOf M' D9' (dsH md u) (by have := dsH_le md u; omega)) cw_X12_106 (by first | assumption | exact jv_up_at _ _ _ | (simp [jv_up, *]; done)) rfl rfl rfl rfl (by exact Nat.le_of_ble_eq_true rfl) (by decide) (by omega) (by omega) dX12_know_193 ?_
              rintro _ h9 ⟨rfl, e9⟩
              replace e9 := e9.symm
              subst e9
              first | refine J_aload_n C rfl dX12_know_196 ?_ | refine J_aload_nq C rfl dX12_know_196 ?_ | refine J_aload_nN C rfl dX12_know_196 ?_
              refine J_iload_n C rfl dX12_know_197 ?_
              first | refine J_aload_n C rfl dX12_know_198 ?_ | refine J_aload_nq C rfl dX12_know_198 ?_ | refine J_aload_nN C rfl dX12_know_198 ?_
              refine J_get C fl_X12_19 (by first | assumption | exact jv_up_at _ _ _ | (simp [jv_up, *]; done)) (by rfl) dX12_know_199 ?_
              refine J_iload_n C rfl dX12_know_202 ?_
              refine J_lald C (by first | assumption | exact jv_up_at _ _ _ | (simp [jv_up, *]; done)) rfl (by omega) (by omega) dX12_know_203 ?_
              rw [hu]
              refine J_callV C (c_M_impact M' D9' hx u) cw_X12_109 (by first | assumption | exact jv_up_at _ _ _ | (simp [jv_up, *]; done)) rfl rfl rfl rfl (by exact Nat.le_of_ble_eq_true rfl) (by decide) (by omega) (by omega) dX12_know_204 ?_
              rintro _ h9 ⟨rfl, e9⟩
              replace e9 := e9.symm
              subst e9
              first | refine J_nimul C dX12_know_207 ?_ | refine J_imul C dX12_know_207 ?_
              refine J_goto C 212 (by decide) dX12_know_208 ?_
              refine J_sub (by exact (And.intro rfl (And.intro rfl (And.intro rfl (And.intro rfl trivial))))) (step _ (fun _ => rfl))
      obtain ⟨F, N', Q', c, M', n1, q1, c1, c2, c3, c4⟩ := KW0
      have m1' := M'.1
      refine J_iload_n C rfl dX12_know_135 ?_
      first | refine J_aload_n C rfl dX12_know_136 ?_ | refine J_aload_nq C rfl dX12_know_136 ?_ | refine J_aload_nN C rfl dX12_know_136 ?_
      refine J_get C fl_X12_85 (by first | assumption | exact jv_up_at _ _ _ | (simp [jv_up, *]; done)) (by rfl) dX12_know_137 ?_
      rw [g3]
      refine J_nicmp_ge C (by first | omega | (dsimp only; omega)) (by first | omega | (dsimp only; omega)) 225 (by decide) dX12_know_140 (fun z => ?_) (fun z => ?_)
      · omega
      · refine J_iconst C (v := nI 0) (by decide) dX12_know_143 ?_
        refine J_istore_n C (by decide) dX12_know_144 ?_
        refine J_sub (by exact (And.intro rfl (And.intro rfl (And.intro rfl trivial)))) (inner p.2.length 0 h' (by omega) ⟨F, N', Q', c, M', n1, q1, c1, c2, c3, fun d2 p2 hd2 k2 u2 hk2 => ⟨(c4 d2 p2 hd2 k2 u2 hk2).1, fun hF => (c4 d2 p2 hd2 k2 u2 hk2).2 (by omega)⟩⟩)
  -- counting
  have ph2 : ∀ (n d : Nat) (h' : jH), d + n = md.length → kS h m A g9 N Q md (fun w => dsH (md.take d) w) (fun d' _ => d' < d) h' → J K 0 0 36 (jv_l [(1, .int (nI d)), (0, .ref m)]) [] h' := by
    intro n
    induction n with
    | zero =>
      intro d h' hd ⟨F, N', Q', c, M', n1, q1, c1, c2, c3, c4⟩
      have hd : d = md.length := hd
      have m1' := M'.1
      refine J_iload_n C rfl dX12_know_36 ?_
      first | refine J_aload_n C rfl dX12_know_37 ?_ | refine J_aload_nq C rfl dX12_know_37 ?_ | refine J_aload_nN C rfl dX12_know_37 ?_
      refine J_get C fl_X12_85 (by first | assumption | exact jv_up_at _ _ _ | (simp [jv_up, *]; done)) (by rfl) dX12_know_38 ?_
      rw [g3]
      refine J_nicmp_ge C (by first | omega | (dsimp only; omega)) (by first | omega | (dsimp only; omega)) 133 (by decide) dX12_know_41 (fun z => ?_) (fun z => ?_)
      · refine J_iconst C (v := nI 0) (by decide) dX12_know_133 ?_
        refine J_istore_n C (by decide) dX12_know_134 ?_
        refine J_sub (by exact (And.intro rfl (And.intro rfl trivial))) (ph3 md.length 0 h' (by omega) ⟨F, N', Q', c, M', n1, q1, c1, c2, fun w => by have := c3 w; rw [hd, List.take_length] at this; exact this, fun d2 p2 hd2 k2 u2 hk2 => ⟨c4 d2 p2 hd2 k2 u2 hk2 (by rw [hd]; exact (List.getElem?_eq_some_iff.mp hd2).1), fun hF => absurd hF (Nat.not_lt_zero _)⟩⟩)
      · omega
    | succ n ih =>
      intro d h' hd KS0
      have hx := List.getElem?_eq_getElem (l := md) (i := d) (by omega)
      generalize md[d]'(by omega) = p at hx
      have inner : ∀ (n2 k : Nat) (h2 : jH), k + n2 = p.2.length → kS h m A g9 N Q md (cntP md d p.2 k) (fun d' k' => d' < d ∨ (d' = d ∧ k' < k)) h2 → J K 0 0 46 (jv_l [(2, .int (nI k)), (1, .int (nI d)), (0, .ref m)]) [] h2 := by
        intro n2
        induction n2 with
        | zero =>
          intro k h2 hk ⟨F, N', Q', c, M', n1, q1, c1, c2, c3, c4⟩
          have hk : k = p.2.length := hk
          have m1' := M'.1
          have a5 := M'.2.1 5 _ rfl
          rw [n1 5 (by decide) (by decide) (by decide)] at a5
          obtain ⟨p1, p2, p3, p4, p5⟩ := t3 d p hx
          refine J_iload_n C rfl dX12_know_46 ?_
          first | refine J_aload_n C rfl dX12_know_47 ?_ | refine J_aload_nq C rfl dX12_know_47 ?_ | refine J_aload_nN C rfl dX12_know_47 ?_
          refine J_get C fl_X12_16 (by first | assumption | exact jv_up_at _ _ _ | (simp [jv_up, *]; done)) (by rfl) dX12_know_48 ?_
          refine J_iload_n C rfl dX12_know_51 ?_
          refine J_iald C (by first | assumption | exact jv_up_at _ _ _ | (simp [jv_up, *]; done)) rfl (by omega) (by omega) dX12_know_52 ?_
          rw [p3]
          refine J_nicmp_ge C (by first | omega | (dsimp only; omega)) (by first | omega | (dsimp only; omega)) 127 (by decide) dX12_know_53 (fun z => ?_) (fun z => ?_)
          · first | refine J_niinc (b := 1) C rfl (by decide) dX12_know_127 ?_ | refine J_iinc C rfl (by decide) dX12_know_127 ?_
            refine J_goto C 36 (by decide) dX12_know_130 ?_
            refine J_sub (by exact (And.intro rfl (And.intro rfl trivial))) (ih (d + 1) h2 (by omega) ⟨F, N', Q', c, M', n1, q1, c1, c2, fun w => by show hC _ _ w (dsH (md.take (d + 1)) w); rw [cnt_end hx, ← hk]; exact c3 w, fun d2 p2 hd2 k2 u2 hk2 hF => c4 d2 p2 hd2 k2 u2 hk2 ?_⟩)
            rcases Nat.lt_succ_iff_lt_or_eq.mp hF with q | q
            · exact Or.inl q
            · refine Or.inr ⟨q, ?_⟩
              subst q
              rw [hx] at hd2
              cases hd2
              have := (List.getElem?_eq_some_iff.mp hk2).1
              omega
          · omega
        | succ n2 ih2 =>
          intro k h2 hk ⟨F, N', Q', c, M', n1, q1, c1, c2, c3, c4⟩
          have hxk := List.getElem?_eq_getElem (l := p.2) (i := k) (by omega)
          generalize p.2[k]'(by omega) = u at hxk
          obtain ⟨p1, p2, p3, p4, p5⟩ := t3 d p hx
          have hu := p5 k u hxk
          have D9' : mdD g9 N' Q' md := mdD_congr (g := g) D9 (by rw [← hg]; rfl) (n1 4 (by decide) (by decide) (by decide)) (n1 5 (by decide) (by decide) (by decide)) (q1 6 (by decide))
          have m1' := M'.1
          have a5 := M'.2.1 5 _ rfl
          have a23 := M'.2.1 23 _ rfl
          rw [n1 5 (by decide) (by decide) (by decide)] at a5
          have hcb : ∀ s, s < 32768 → c s ≤ 1000 := hc_le c2 c3 (fun w => by have := cnt_le md d p.2 k w; omega)
          have huW : u ∈ md.flatMap (·.2) := List.mem_flatMap.mpr ⟨p, List.mem_of_getElem? hx, List.mem_of_getElem? hxk⟩
          refine J_iload_n C rfl dX12_know_46 ?_
          first | refine J_aload_n C rfl dX12_know_47 ?_ | refine J_aload_nq C rfl dX12_know_47 ?_ | refine J_aload_nN C rfl dX12_know_47 ?_
          refine J_get C fl_X12_16 (by first | assumption | exact jv_up_at _ _ _ | (simp [jv_up, *]; done)) (by rfl) dX12_know_48 ?_
          refine J_iload_n C rfl dX12_know_51 ?_
          refine J_iald C (by first | assumption | exact jv_up_at _ _ _ | (simp [jv_up, *]; done)) rfl (by omega) (by omega) dX12_know_52 ?_
          rw [p3]
          refine J_nicmp_ge C (by first | omega | (dsimp only; omega)) (by first | omega | (dsimp only; omega)) 127 (by decide) dX12_know_53 (fun z => ?_) (fun z => ?_)
          · omega
          · refine J_sipush C (v := nI 200) (by decide) dX12_know_56 ?_
            refine J_iload_n C rfl dX12_know_59 ?_
            first | refine J_nimul C dX12_know_60 ?_ | refine J_imul C dX12_know_60 ?_
            refine J_iload_n C rfl dX12_know_61 ?_
            first | refine J_niadd C dX12_know_62 ?_ | refine J_iadd C dX12_know_62 ?_
            refine J_istore_n C (by decide) dX12_know_63 ?_
            first | refine J_aload_n C rfl dX12_know_64 ?_ | refine J_aload_nq C rfl dX12_know_64 ?_ | refine J_aload_nN C rfl dX12_know_64 ?_
            refine J_get C fl_X12_55 (by first | assumption | exact jv_up_at _ _ _ | (simp [jv_up, *]; done)) (by rfl) dX12_know_65 ?_
            refine J_iload_n C rfl dX12_know_68 ?_
            first | refine J_aload_n C rfl dX12_know_69 ?_ | refine J_aload_nq C rfl dX12_know_69 ?_ | refine J_aload_nN C rfl dX12_know_69 ?_
            refine J_iload_n C rfl dX12_know_70 ?_
            refine J_iload_n C rfl dX12_know_71 ?_
            refine J_callV C (c_M_isFirst M' D9' hx hxk) cw_X12_98 (by first | assumption | exact jv_up_at _ _ _ | (simp [jv_up, *]; done)) rfl rfl rfl rfl (by exact Nat.le_of_ble_eq_true rfl) (by decide) (by omega) (by omega) dX12_know_72 ?_
            rintro _ h9 ⟨rfl, e9⟩
            replace e9 := e9.symm
            subst e9
            refine J_zast C (by first | assumption | exact jv_up_at _ _ _ | (simp [jv_up, *]; done)) rfl (by omega) (by omega) dX12_know_75 ?_
            rw [nar_b]
            have M2 := mdl_N M' 23 (u := upd (N' 23) (200 * d + k) (jv_b (decide (u ∉ p.2.take k)))) rfl rfl
            have m2 := M2.1
            have a62 := M2.2.1 6 _ rfl
            rw [q1 6 (by decide)] at a62
            have f23 : ∀ d2 p2, md[d2]? = some p2 → ∀ k2 u2, p2.2[k2]? = some u2 → (d2 < d ∨ (d2 = d ∧ k2 < k + 1)) → upd (N' 23) (200 * d + k) (jv_b (decide (u ∉ p.2.take k))) (200 * d2 + k2) = jv_b (decide (u2 ∉ p2.2.take k2)) := by
              intro d2 p2 hd2 k2 u2 hk2 hF
              have hk2l := (List.getElem?_eq_some_iff.mp hk2).1
              have hp2l := (t3 d2 p2 hd2).2.2.2.1
              by_cases q : d2 = d ∧ k2 = k
              · obtain ⟨rfl, rfl⟩ := q
                rw [hx] at hd2
                cases hd2
                rw [hxk] at hk2
                cases hk2
                rw [pk_us]
              · rw [pk_un (p200_ne (by omega) (by omega) q)]
                exact c4 d2 p2 hd2 k2 u2 hk2 (by omega)
            first | refine J_aload_n C rfl dX12_know_76 ?_ | refine J_aload_nq C rfl dX12_know_76 ?_ | refine J_aload_nN C rfl dX12_know_76 ?_
            refine J_get C fl_X12_55 (by first | assumption | exact jv_up_at _ _ _ | (simp [jv_up, *]; done)) (by rfl) dX12_know_77 ?_
            refine J_iload_n C rfl dX12_know_80 ?_
            refine J_zald C (by first | assumption | exact jv_up_at _ _ _ | (simp [jv_up, *]; done)) rfl (by omega) (by omega) dX12_know_81 ?_
            rw [pk_us]
            refine J_bif_eq C 121 (by decide) dX12_know_82 (fun z1 => ?_) (fun z1 => ?_)
            · have z1 : u ∈ p.2.take k := Decidable.of_not_not (of_decide_eq_false z1)
              first | refine J_niinc (b := 1) C rfl (by decide) dX12_know_121 ?_ | refine J_iinc C rfl (by decide) dX12_know_121 ?_
              refine J_goto C 46 (by decide) dX12_know_124 ?_
              refine J_sub (by exact (And.intro rfl (And.intro rfl (And.intro rfl trivial)))) (ih2 (k + 1) _ (by omega) ⟨fr_tr F (mdS_up 23 rfl _), _, Q', c, M2, fun i i1 i2 i3 => (if_neg i1).trans (n1 i i1 i2 i3), q1, c1, c2, fun w => by rw [cnt_old hxk z1]; exact c3 w, f23⟩)
            · have z1 : u ∉ p.2.take k := of_decide_eq_true z1
              first | refine J_aload_n C rfl dX12_know_85 ?_ | refine J_aload_nq C rfl dX12_know_85 ?_ | refine J_aload_nN C rfl dX12_know_85 ?_
              first | refine J_aload_n C rfl dX12_know_86 ?_ | refine J_aload_nq C rfl dX12_know_86 ?_ | refine J_aload_nN C rfl dX12_know_86 ?_
              refine J_get C fl_X12_19 (by first | assumption | exact jv_up_at _ _ _ | (simp [jv_up, *]; done)) (by rfl) dX12_know_87 ?_
              refine J_iload_n C rfl dX12_know_90 ?_
              refine J_lald C (by first | assumption | exact jv_up_at _ _ _ | (simp [jv_up, *]; done)) rfl (by omega) (by omega) dX12_know_91 ?_
              rw [hu]
              refine J_callV C (c_M_spot M2 c1 hcb c2 u) cw_X12_102 (by first | assumption | exact jv_up_at _ _ _ | (simp [jv_up, *]; done)) rfl rfl rfl rfl (by exact Nat.le_of_ble_eq_true rfl) (by decide) (by omega) (by omega) dX12_know_92 ?_
              rintro _ h9 ⟨e9, s, hs, rfl, hP9⟩
              replace e9 := e9.symm
              subst e9
              have a252 := M2.2.1 25 _ rfl
              refine J_istore C (by decide) dX12_know_95 ?_
              first | refine J_aload_n C rfl dX12_know_97 ?_ | refine J_aload_nq C rfl dX12_know_97 ?_ | refine J_aload_nN C rfl dX12_know_97 ?_
              refine J_get C fl_X12_62 (by first | assumption | exact jv_up_at _ _ _ | (simp [jv_up, *]; done)) (by rfl) dX12_know_98 ?_
              refine J_iload C rfl dX12_know_101 ?_
              first | refine J_aload_n C rfl dX12_know_103 ?_ | refine J_aload_nq C rfl dX12_know_103 ?_ | refine J_aload_nN C rfl dX12_know_103 ?_
              refine J_get C fl_X12_19 (by first | assumption | exact jv_up_at _ _ _ | (simp [jv_up, *]; done)) (by rfl) dX12_know_104 ?_
              refine J_iload_n C rfl dX12_know_107 ?_
              refine J_lald C (by first | assumption | exact jv_up_at _ _ _ | (simp [jv_up, *]; done)) rfl (by omega) (by omega) dX12_know_108 ?_
              rw [hu]
              refine J_last C (by first | assumption | exact jv_up_at _ _ _ | (simp [jv_up, *]; done)) rfl (by omega) (by omega) dX12_know_109 ?_
              have M3 := mdl_Q M2 25 (u := vp_updL (Q' 25) s u) rfl rfl
              have m3 := M3.1
              have a263 := M3.2.1 26 _ rfl
              first | refine J_aload_n C rfl dX12_know_110 ?_ | refine J_aload_nq C rfl dX12_know_110 ?_ | refine J_aload_nN C rfl dX12_know_110 ?_
              refine J_get C fl_X12_65 (by first | assumption | exact jv_up_at _ _ _ | (simp [jv_up, *]; done)) (by rfl) dX12_know_111 ?_
              refine J_iload C rfl dX12_know_114 ?_
              refine J_dup2 C rfl rfl dX12_know_116 ?_
              refine J_iald C (by first | assumption | exact jv_up_at _ _ _ | (simp [jv_up, *]; done)) rfl (by omega) (by omega) dX12_know_117 ?_
              rw [show va_up N' 23 (upd (N' 23) (200 * d + k) (jv_b (decide (u ∉ p.2.take k)))) 26 s = nI (c s) from c1 s hs]
              refine J_iconst C (v := nI 1) (by decide) dX12_know_118 ?_
              first | refine J_niadd C dX12_know_119 ?_ | refine J_iadd C dX12_know_119 ?_
              refine J_iast C (by first | assumption | exact jv_up_at _ _ _ | (simp [jv_up, *]; done)) rfl (by omega) (by omega) dX12_know_120 ?_
              have M4 := mdl_N M3 26 (u := upd (N' 26) s (nI (c s + 1))) rfl rfl
              first | refine J_niinc (b := 1) C rfl (by decide) dX12_know_121 ?_ | refine J_iinc C rfl (by decide) dX12_know_121 ?_
              refine J_goto C 46 (by decide) dX12_know_124 ?_
              refine J_sub (by exact (And.intro rfl (And.intro rfl (And.intro rfl trivial)))) (ih2 (k + 1) _ (by omega) ⟨fr_tr (fr_tr (fr_tr F (mdS_up 23 rfl _)) (mdS_up 25 rfl _)) (mdS_up 26 rfl _), _, _, va_up c s (c s + 1), M4, fun i i1 i2 i3 => ((if_neg i3).trans (if_neg i1)).trans (n1 i i1 i2 i3), fun i i1 => (if_neg i1).trans (q1 i i1), fun s2 hs2 => ?_, hT_ins c2 hP9 huW, fun w => ?_, f23⟩)
              · show upd (N' 26) s (nI (c s + 1)) s2 = nI (va_up c s (c s + 1) s2)
                by_cases q : s2 = s
                · rw [q, pk_us, show va_up c s (c s + 1) s = c s + 1 from if_pos rfl]
                · rw [pk_un q, show va_up c s (c s + 1) s2 = c s2 from if_neg q]
                  exact c1 s2 hs2
              · rw [cnt_first hxk z1]
                exact hC_ins c2 hP9 (c3 w)
      obtain ⟨F, N', Q', c, M', n1, q1, c1, c2, c3, c4⟩ := KS0
      have m1' := M'.1
      refine J_iload_n C rfl dX12_know_36 ?_
      first | refine J_aload_n C rfl dX12_know_37 ?_ | refine J_aload_nq C rfl dX12_know_37 ?_ | refine J_aload_nN C rfl dX12_know_37 ?_
      refine J_get C fl_X12_85 (by first | assumption | exact jv_up_at _ _ _ | (simp [jv_up, *]; done)) (by rfl) dX12_know_38 ?_
      rw [g3]
      refine J_nicmp_ge C (by first | omega | (dsimp only; omega)) (by first | omega | (dsimp only; omega)) 133 (by decide) dX12_know_41 (fun z => ?_) (fun z => ?_)
      · omega
      · refine J_iconst C (v := nI 0) (by decide) dX12_know_44 ?_
        refine J_istore_n C (by decide) dX12_know_45 ?_
        refine J_sub (by exact (And.intro rfl (And.intro rfl (And.intro rfl trivial)))) (inner p.2.length 0 h' (by omega) ⟨F, N', Q', c, M', n1, q1, c1, c2, fun w => by rw [cnt_zero]; exact c3 w, fun d2 p2 hd2 k2 u2 hk2 hF => c4 d2 p2 hd2 k2 u2 hk2 (by omega)⟩)
  -- all places free
  have ph1 : ∀ (n i : Nat) (N1 : Nat → Nat → Int32) (h' : jH), i + n = 32768 → fr (mdS m A) h h' → mdl h' m A g9 N1 Q → (∀ k, k ≠ 26 → N1 k = N k) → (∀ k, k < i → N1 26 k = nI 0) → J K 0 0 15 (jv_l [(1, .int (nI i)), (0, .ref m)]) [] h' := by
    intro n
    induction n with
    | zero =>
      intro i N1 h' hi F M' n1 u1
      have hi : i = 32768 := hi
      refine J_iload_n C rfl dX12_know_15 ?_
      refine J_ldc C (v := nI 32768) kc_X12_61 dX12_know_16 ?_
      refine J_nicmp_ge C (by first | omega | (dsimp only; omega)) (by first | omega | (dsimp only; omega)) 34 (by decide) dX12_know_18 (fun z => ?_) (fun z => ?_)
      · refine J_iconst C (v := nI 0) (by decide) dX12_know_34 ?_
        refine J_istore_n C (by decide) dX12_know_35 ?_
        refine J_sub (by exact (And.intro rfl (And.intro rfl trivial))) (ph2 md.length 0 h' (by omega) ⟨F, N1, Q, fun _ => 0, M', fun k _ _ k3 => n1 k k3, fun _ _ => rfl, fun k hk => u1 k (by omega), ⟨fun k _ q => absurd rfl q, fun _ _ _ _ q => absurd rfl q, fun k _ q => absurd rfl q, hWs⟩, fun w => Or.inr ⟨fun k _ q => absurd rfl q, by rw [List.take_zero]; rfl⟩, fun d2 p2 hd2 k2 u2 hk2 hF => absurd hF (Nat.not_lt_zero _)⟩)
      · omega
    | succ n ih =>
      intro i N1 h' hi F M' n1 u1
      have m1' := M'.1
      have a26 := M'.2.1 26 _ rfl
      refine J_iload_n C rfl dX12_know_15 ?_
      refine J_ldc C (v := nI 32768) kc_X12_61 dX12_know_16 ?_
      refine J_nicmp_ge C (by first | omega | (dsimp only; omega)) (by first | omega | (dsimp only; omega)) 34 (by decide) dX12_know_18 (fun z => ?_) (fun z => ?_)
      · omega
      · first | refine J_aload_n C rfl dX12_know_21 ?_ | refine J_aload_nq C rfl dX12_know_21 ?_ | refine J_aload_nN C rfl dX12_know_21 ?_
        refine J_get C fl_X12_65 (by first | assumption | exact jv_up_at _ _ _ | (simp [jv_up, *]; done)) (by rfl) dX12_know_22 ?_
        refine J_iload_n C rfl dX12_know_25 ?_
        refine J_iconst C (v := nI 0) (by decide) dX12_know_26 ?_
        refine J_iast C (by first | assumption | exact jv_up_at _ _ _ | (simp [jv_up, *]; done)) rfl (by omega) (by omega) dX12_know_27 ?_
        have M2 := mdl_N M' 26 (u := upd (N1 26) i (nI 0)) rfl rfl
        first | refine J_niinc (b := 1) C rfl (by decide) dX12_know_28 ?_ | refine J_iinc C rfl (by decide) dX12_know_28 ?_
        refine J_goto C 15 (by decide) dX12_know_31 ?_
        refine J_sub (by exact (And.intro rfl (And.intro rfl trivial))) (ih (i + 1) _ _ (by omega) (fr_tr F (mdS_up 26 rfl _)) M2 (fun k hk => (if_neg hk).trans (n1 k hk)) (fun k hk => ?_))
        show upd (N1 26) i (nI 0) k = nI 0
        by_cases q : k = i
        · rw [q, pk_us]
        · rw [pk_un q]
          exact u1 k (by omega)
  first | refine J_aload_n C rfl dX12_know_0 ?_ | refine J_aload_nq C rfl dX12_know_0 ?_ | refine J_aload_nN C rfl dX12_know_0 ?_
  refine J_get C fl_X12_94 (by first | assumption | exact jv_up_at _ _ _ | (simp [jv_up, *]; done)) (by rfl) dX12_know_1 ?_
  rw [e]
  refine J_bif_eq C 8 (by decide) dX12_know_4 (fun z => ?_) (fun z => ?_)
  · have M9 := mdl_s M g9
    first | refine J_aload_n C rfl dX12_know_8 ?_ | refine J_aload_nq C rfl dX12_know_8 ?_ | refine J_aload_nN C rfl dX12_know_8 ?_
    refine J_iconst C (v := nI 1) (by decide) dX12_know_9 ?_
    first | refine J_mput C fl_X12_94 (by first | assumption | exact jv_up_at _ _ _) (by decide) (by rfl) (by rfl) dX12_know_10 ?_ | refine J_put C fl_X12_94 (by first | assumption | exact jv_up_at _ _ _ | (simp [jv_up, *]; done)) (by exact Nat.le_of_ble_eq_true rfl) (by rfl) (by rfl) dX12_know_10 ?_
    rw [hg]
    refine J_iconst C (v := nI 0) (by decide) dX12_know_13 ?_
    refine J_istore_n C (by decide) dX12_know_14 ?_
    refine J_sub (by exact (And.intro rfl (And.intro rfl trivial))) (ph1 32768 0 N _ (by omega) (fr_up (Or.inl rfl)) M9 (fun _ _ => rfl) (fun k hk => absurd hk (Nat.not_lt_zero k)))
  · cases z
end KNOW2
