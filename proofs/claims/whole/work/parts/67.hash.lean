/-! the model: its table of words -/
def mh (w : Int64) : Int32 := ((w ^^^ (w.toUInt64 >>> ((nI 17).toInt64.toUInt64 &&& Int64.toUInt64 63)).toInt64 ^^^ (w.toUInt64 >>> ((nI 37).toInt64.toUInt64 &&& Int64.toUInt64 63)).toInt64) &&& 32767).toInt32
theorem mh_ex (w : Int64) : ∃ k, k < 32768 ∧ mh w = nI k := by
  unfold mh
  generalize (w ^^^ (w.toUInt64 >>> ((nI 17).toInt64.toUInt64 &&& Int64.toUInt64 63)).toInt64 ^^^ (w.toUInt64 >>> ((nI 37).toInt64.toUInt64 &&& Int64.toUInt64 63)).toInt64) = x
  refine ⟨(x &&& 32767).toBitVec.toNat, ?_, ?_⟩
  · rw [Int64.toBitVec_and]
    have h1 : (x.toBitVec &&& (32767 : Int64).toBitVec).toNat = x.toBitVec.toNat &&& 32767 := by
      rw [BitVec.toNat_and]; rfl
    rw [h1]
    have := Nat.and_le_right (n := x.toBitVec.toNat) (m := 32767)
    omega
  · apply Int32.toBitVec_inj.mp
    apply BitVec.eq_of_toNat_eq
    rw [Int64.toBitVec_toInt32]
    show _ = (BitVec.ofNat 32 _).toNat
    rw [BitVec.signExtend_eq_setWidth_of_le _ (by decide), BitVec.toNat_ofNat, BitVec.toNat_setWidth]
def mhN (w : Int64) : Nat := (mh w).toNatClampNeg
theorem mhN_is (w : Int64) : mhN w < 32768 ∧ mh w = nI (mhN w) := by
  obtain ⟨k, hk, e⟩ := mh_ex w
  have : mhN w = k := by
    unfold mhN
    rw [e]
    exact nI_clamp (by omega)
  rw [this]
  exact ⟨hk, e⟩
def pr (w : Int64) (i : Nat) : Nat := (mhN w + i) % 32768
theorem pr_lt (w : Int64) (i : Nat) : pr w i < 32768 := Nat.mod_lt _ (by decide)
theorem and_767 (k : Nat) (hk : k ≤ 32768) : nI k &&& nI 32767 = nI (k % 32768) := by
  apply Int32.toBitVec_inj.mp
  apply BitVec.eq_of_toNat_eq
  rw [Int32.toBitVec_and, BitVec.toNat_and]
  show (BitVec.ofNat 32 k).toNat &&& (BitVec.ofNat 32 32767).toNat = (BitVec.ofNat 32 (k % 32768)).toNat
  rw [BitVec.toNat_ofNat, BitVec.toNat_ofNat, BitVec.toNat_ofNat, Nat.mod_eq_of_lt (a := k) (by omega), Nat.mod_eq_of_lt (a := 32767) (by decide), Nat.mod_eq_of_lt (a := k % 32768) (by omega)]
  exact Nat.and_two_pow_sub_one_eq_mod k 15
/-- the table: keys V, how many c; all words in Ws -/
def hT (V : Nat → Int64) (c : Nat → Nat) (Ws : List Int64) : Prop :=
  (∀ k, k < 32768 → c k ≠ 0 → ∃ i, i < 32768 ∧ k = pr (V k) i ∧ ∀ j, j < i → c (pr (V k) j) ≠ 0) ∧ (∀ i k, i < 32768 → k < 32768 → c i ≠ 0 → c k ≠ 0 → V i = V k → i = k) ∧ (∀ k, k < 32768 → c k ≠ 0 → V k ∈ Ws) ∧ Ws.length ≤ 24000
def hC (V : Nat → Int64) (c : Nat → Nat) (w : Int64) (n : Nat) : Prop := (∃ k, k < 32768 ∧ c k ≠ 0 ∧ V k = w ∧ c k = n) ∨ ((∀ k, k < 32768 → c k ≠ 0 → V k ≠ w) ∧ n = 0)
/-- where a search for w ends -/
def hP (V : Nat → Int64) (c : Nat → Nat) (w : Int64) (s : Nat) : Prop := ∃ i, i < 32768 ∧ s = pr w i ∧ (∀ j, j < i → c (pr w j) ≠ 0 ∧ V (pr w j) ≠ w) ∧ (c s = 0 ∨ V s = w)
theorem nodup_sub_len {α : Type} [DecidableEq α] : ∀ {A B : List α}, A.Nodup → (∀ x ∈ A, x ∈ B) → A.length ≤ B.length
  | [], _, _, _ => Nat.zero_le _
  | a :: t, B, hn, hs => by
    obtain ⟨n1, n2⟩ := List.nodup_cons.mp hn
    have hb := hs a List.mem_cons_self
    have := nodup_sub_len (A := t) (B := B.erase a) n2 (fun x hx => (List.mem_erase_of_ne (fun z : x = a => n1 (by rw [← z]; exact hx))).mpr (hs x (List.mem_cons_of_mem _ hx)))
    rw [List.length_erase_of_mem hb] at this
    have h0 := List.length_pos_of_mem hb
    rw [List.length_cons]
    omega
/-- a free place -/
theorem hT_free {V : Nat → Int64} {c : Nat → Nat} {Ws : List Int64} (H : hT V c Ws) : ∃ z, z < 32768 ∧ c z = 0 := by
  by_cases e : ∃ z, z < 32768 ∧ c z = 0
  · exact e
  · have h0 : ∀ k, k < 32768 → c k ≠ 0 := fun k hk z => e ⟨k, hk, z⟩
    have hn : ((List.range 32768).map V).Nodup := by
      unfold List.Nodup
      rw [List.pairwise_map]
      exact List.Pairwise.imp_of_mem (fun {i k} hi hk hne z => hne (H.2.1 i k (List.mem_range.mp hi) (List.mem_range.mp hk) (h0 i (List.mem_range.mp hi)) (h0 k (List.mem_range.mp hk)) z)) List.nodup_range
    have := nodup_sub_len hn (B := Ws) (fun x hx => by
      obtain ⟨k, hk, rfl⟩ := List.mem_map.mp hx
      exact H.2.2.1 k (List.mem_range.mp hk) (h0 k (List.mem_range.mp hk)))
    rw [List.length_map, List.length_range] at this
    have := H.2.2.2
    omega
theorem pr_on (w : Int64) (z : Nat) (hz : z < 32768) : ∃ i, i < 32768 ∧ pr w i = z := by
  have h1 := (mhN_is w).1
  refine ⟨(z + 32768 - mhN w) % 32768, Nat.mod_lt _ (by decide), ?_⟩
  unfold pr
  omega
/-- what the place of a search tells -/
theorem hP_cnt {V : Nat → Int64} {c : Nat → Nat} {Ws : List Int64} (H : hT V c Ws) {w : Int64} {s n : Nat} (P : hP V c w s) (C : hC V c w n) : c s = n := by
  obtain ⟨i, hi, rfl, h1, h2⟩ := P
  rcases C with ⟨k, hk, k1, k2, k3⟩ | ⟨k1, k2⟩
  · obtain ⟨i', hi', e, hp⟩ := H.1 k hk k1
    rw [k2] at e hp
    rcases Nat.lt_trichotomy i i' with q | q | q
    · rcases h2 with z | z
      · exact absurd z (hp i q)
      · have := H.2.1 (pr w i) k (pr_lt _ _) hk (hp i q) k1 (z.trans k2.symm)
        rw [this]; exact k3
    · rw [q, ← e]; exact k3
    · have := (h1 i' q).2
      rw [← e] at this
      exact absurd k2 this
  · rcases h2 with z | z
    · rw [z, k2]
    · by_cases c0 : c (pr w i) = 0
      · rw [c0, k2]
      · exact absurd z (k1 _ (pr_lt _ _) c0)
/-- a word entered, or counted once more -/
theorem hT_ins {V : Nat → Int64} {c : Nat → Nat} {Ws : List Int64} (H : hT V c Ws) {w : Int64} {s : Nat} (P : hP V c w s) (hw : w ∈ Ws) : hT (va_up V s w) (va_up c s (c s + 1)) Ws := by
  obtain ⟨i, hi, e, h1, h2⟩ := P
  have occ : ∀ k, c k ≠ 0 → va_up c s (c s + 1) k ≠ 0 := fun k hk z => by
    by_cases q : k = s
    · rw [q, show va_up c s (c s + 1) s = c s + 1 from if_pos rfl] at z; omega
    · rw [show va_up c s (c s + 1) k = c k from if_neg q] at z; exact hk z
  have old : ∀ k, k ≠ s → va_up c s (c s + 1) k ≠ 0 → c k ≠ 0 ∧ va_up V s w k = V k := fun k q z => by
    rw [show va_up c s (c s + 1) k = c k from if_neg q] at z
    exact ⟨z, if_neg q⟩
  have hs : va_up V s w s = w := if_pos rfl
  refine ⟨fun k hk z => ?_, fun a k ha hk za zk ev => ?_, fun k hk z => ?_, H.2.2.2⟩
  · by_cases q : k = s
    · rw [q, hs]
      exact ⟨i, hi, e, fun j hj => occ _ (h1 j hj).1⟩
    · obtain ⟨z1, z2⟩ := old k q z
      rw [z2]
      obtain ⟨i', a1, a2, a3⟩ := H.1 k hk z1
      exact ⟨i', a1, a2, fun j hj => occ _ (a3 j hj)⟩
  · have hsl : s < 32768 := by rw [e]; exact pr_lt _ _
    have key : ∀ k, k < 32768 → k ≠ s → c k ≠ 0 → V k = w → False := fun k hk q z ev => by
      rcases h2 with z2 | z2
      · obtain ⟨i', a1, a2, a3⟩ := H.1 k hk z
        rw [ev] at a2 a3
        rcases Nat.lt_trichotomy i i' with q2 | q2 | q2
        · have := a3 i q2
          rw [← e] at this
          exact this z2
        · exact q (by rw [a2, e, q2])
        · have := (h1 i' q2).2
          rw [← a2] at this
          exact this ev
      · by_cases c0 : c s = 0
        · obtain ⟨i', a1, a2, a3⟩ := H.1 k hk z
          rw [ev] at a2 a3
          rcases Nat.lt_trichotomy i i' with q2 | q2 | q2
          · have := a3 i q2
            rw [← e] at this
            exact this c0
          · exact q (by rw [a2, e, q2])
          · have := (h1 i' q2).2
            rw [← a2] at this
            exact this ev
        · exact q (H.2.1 k s hk hsl z c0 (ev.trans z2.symm))
    by_cases qa : a = s
    · by_cases qk : k = s
      · rw [qa, qk]
      · obtain ⟨z1, z2⟩ := old k qk zk
        rw [qa, hs, z2] at ev
        exact (key k hk qk z1 ev.symm).elim
    · obtain ⟨y1, y2⟩ := old a qa za
      by_cases qk : k = s
      · rw [qk, hs, y2] at ev
        exact (key a ha qa y1 ev).elim
      · obtain ⟨z1, z2⟩ := old k qk zk
        rw [y2, z2] at ev
        exact H.2.1 a k ha hk y1 z1 ev
  · by_cases q : k = s
    · rw [q, hs]; exact hw
    · obtain ⟨z1, z2⟩ := old k q z
      rw [z2]
      exact H.2.2.1 k hk z1
theorem hC_ins {V : Nat → Int64} {c : Nat → Nat} {Ws : List Int64} (H : hT V c Ws) {w : Int64} {s : Nat} (P : hP V c w s) {u : Int64} {n : Nat} (C : hC V c u n) : hC (va_up V s w) (va_up c s (c s + 1)) u (if u = w then n + 1 else n) := by
  have P0 := P
  obtain ⟨i, hi, e, h1, h2⟩ := P
  have hsl : s < 32768 := by rw [e]; exact pr_lt _ _
  by_cases q : u = w
  · subst q
    rw [if_pos rfl]
    refine Or.inl ⟨s, hsl, ?_, if_pos rfl, ?_⟩
    · rw [show va_up c s (c s + 1) s = c s + 1 from if_pos rfl]; omega
    · rw [show va_up c s (c s + 1) s = c s + 1 from if_pos rfl, hP_cnt H P0 C]
  · rw [if_neg q]
    rcases C with ⟨k, hk, k1, k2, k3⟩ | ⟨k1, k2⟩
    · have ks : k ≠ s := fun z => by
        rcases h2 with z2 | z2
        · exact k1 (z ▸ z2)
        · exact q (k2.symm.trans (z ▸ z2))
      exact Or.inl ⟨k, hk, by rw [show va_up c s (c s + 1) k = c k from if_neg ks]; exact k1, by rw [show va_up V s w k = V k from if_neg ks]; exact k2, by rw [show va_up c s (c s + 1) k = c k from if_neg ks]; exact k3⟩
    · refine Or.inr ⟨fun k hk z => ?_, k2⟩
      by_cases ks : k = s
      · rw [ks, show va_up V s w s = w from if_pos rfl]
        exact fun z => q z.symm
      · rw [show va_up c s (c s + 1) k = c k from if_neg ks] at z
        rw [show va_up V s w k = V k from if_neg ks]
        exact k1 k hk z
