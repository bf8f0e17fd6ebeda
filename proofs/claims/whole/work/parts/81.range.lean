/-! words as numbers: what a term's words are, both ways -/
/-- a word of letters, as a number: below 2^60, and zero below its letters -/
def nlo (B : Nat → Nat) (s : Nat) : Nat → Nat
  | 0 => 0
  | i + 1 => nlo B s i + sp_let (B (s + i)) * 2 ^ (5 * (11 - i))
theorem nlo_spec (B : Nat → Nat) (s : Nat) : ∀ c, c ≤ 12 → sp_lo B s c = lN (nlo B s c) ∧ (∃ q, nlo B s c = q * 2 ^ (5 * (12 - c)) ∧ q < 2 ^ (5 * c))
  | 0, _ => ⟨rfl, 0, by show 0 = 0 * _; rw [Nat.zero_mul], by decide⟩
  | c + 1, hc => by
    obtain ⟨e, q, h1, h2⟩ := nlo_spec B s c (by omega)
    have hl := sp_let_lt (B (s + c))
    have e12 : 5 * (12 - c) = 5 * (11 - c) + 5 := by omega
    have ep : 2 ^ (5 * (12 - c)) = 32 * 2 ^ (5 * (11 - c)) := by rw [e12, Nat.pow_add]; omega
    have hk : 5 * (11 - c) < 64 := by omega
    have hq : q * 32 + sp_let (B (s + c)) < 2 ^ (5 * (c + 1)) := by
      have : 2 ^ (5 * (c + 1)) = 32 * 2 ^ (5 * c) := by rw [show 5 * (c + 1) = 5 * c + 5 by omega, Nat.pow_add]; omega
      omega
    have hn : nlo B s (c + 1) = (q * 32 + sp_let (B (s + c))) * 2 ^ (5 * (11 - c)) := by
      show nlo B s c + _ = _
      rw [h1, ep, Nat.add_mul]
      congr 1
      rw [Nat.mul_assoc]
    have hb : nlo B s (c + 1) < 2 ^ 60 := by
      rw [hn]
      have : 2 ^ (5 * (c + 1)) * 2 ^ (5 * (11 - c)) = 2 ^ 60 := by rw [← Nat.pow_add]; congr 1; omega
      rw [← this]
      exact Nat.mul_lt_mul_of_pos_right hq (Nat.two_pow_pos _)
    refine ⟨?_, q * 32 + sp_let (B (s + c)), by rw [hn, show 12 - (c + 1) = 11 - c by omega], hq⟩
    show sp_with (sp_lo B s c) c (sp_let (B (s + c))) = _
    unfold sp_with
    have hx : sp_let (B (s + c)) * 2 ^ (5 * (11 - c)) < 2 ^ (5 * (12 - c)) := by
      rw [ep]
      exact Nat.mul_lt_mul_of_pos_right (by omega) (Nat.two_pow_pos _)
    have h60 : 2 ^ (5 * (12 - c)) ≤ 2 ^ 60 := Nat.pow_le_pow_right (by decide) (by omega)
    have hle : nlo B s c ≤ nlo B s (c + 1) := Nat.le_add_right _ _
    rw [e, nI_l (by omega), wb_shl _ hk, wb_or (by omega) (by omega)]
    congr 1
    rw [h1, Nat.mul_comm q]
    rw [← Nat.two_pow_add_eq_or_of_lt hx]
    show _ = nlo B s c + _
    rw [h1, Nat.mul_comm q]
/-- a word -/
def isWd (w : Int64) : Prop := ∃ B s c, c ≤ 12 ∧ w = sp_lo B s c
theorem isWd_n {w : Int64} (h : isWd w) : ∃ b, b < 2 ^ 60 ∧ w = lN b := by
  obtain ⟨B, s, c, hc, rfl⟩ := h
  obtain ⟨e, q, h1, h2⟩ := nlo_spec B s c hc
  refine ⟨_, ?_, e⟩
  rw [h1]
  have : 2 ^ (5 * c) * 2 ^ (5 * (12 - c)) = 2 ^ 60 := by rw [← Nat.pow_add]; congr 1; omega
  rw [← this]
  exact Nat.mul_lt_mul_of_pos_right h2 (Nat.two_pow_pos _)
theorem isWd_pos {w : Int64} (h : isWd w) : (0 : Int64) ≤ w := by
  obtain ⟨b, hb, rfl⟩ := isWd_n h
  exact (pk_lLE (a := 0) (b := b) (by decide) (by omega)).mpr (Nat.zero_le _)
theorem text_wd (B : Nat → Nat) (n : Nat) : ∀ k i, ∀ w ∈ sp_wds B n k i, isWd w
  | 0, _, w, h => by cases h
  | k + 1, i, w, h => by
    unfold sp_wds at h
    split at h
    · cases h
    · rcases List.mem_cons.mp h with e | e
      · exact ⟨B, i, min 12 (sp_we B n i - i), Nat.min_le_left _ _, e⟩
      · exact text_wd B n k _ w e
theorem sm_s : ∀ k, k < 64 → (((nI k).toInt64 &&& 63).toBitVec.smod 64).toNat = k := by decide +kernel
theorem wb_xor2 {a b : Nat} (ha : a < 2 ^ 64) (hb : b < 2 ^ 64) : lN a ^^^ lN b = lN (a ^^^ b) := by
  apply wb_inj
  rw [Int64.toBitVec_xor, wb_tb, wb_tb, wb_tb]
  apply BitVec.eq_of_toNat_eq
  rw [BitVec.toNat_xor, BitVec.toNat_ofNat, BitVec.toNat_ofNat, BitVec.toNat_ofNat, Nat.mod_eq_of_lt ha, Nat.mod_eq_of_lt hb, Nat.mod_eq_of_lt (Nat.xor_lt_two_pow ha hb)]
theorem nxor0 (x y : Nat) : x ^^^ y = 0 ↔ x = y := by
  constructor
  · intro h
    have : x ^^^ y ^^^ y = 0 ^^^ y := by rw [h]
    rw [Nat.xor_assoc, Nat.xor_self, Nat.xor_zero, Nat.zero_xor] at this
    exact this
  · intro h
    rw [h, Nat.xor_self]
/-- the words that begin alike, as the model asks and as the program does -/
theorem rg_open (B : Nat → Nat) (s c : Nat) (hc : 1 ≤ c ∧ c ≤ 12) {w : Int64} (hw : isWd w) : ((w ^^^ sp_lo B s c) >>> ((nI (60 - 5 * c)).toInt64 &&& 63) = lN 0) ↔ (¬ w < sp_lo B s c ∧ w ≤ sp_last (sp_lo B s c) c) := by
  obtain ⟨b, hb, rfl⟩ := isWd_n hw
  obtain ⟨e, q, h1, h2⟩ := nlo_spec B s c hc.2
  rw [e]
  generalize nlo B s c = a at *
  have es : 60 - 5 * c = 5 * (12 - c) := by omega
  have ha : a < 2 ^ 60 := by
    rw [h1]
    have : 2 ^ (5 * c) * 2 ^ (5 * (12 - c)) = 2 ^ 60 := by rw [← Nat.pow_add]; congr 1; omega
    rw [← this]
    exact Nat.mul_lt_mul_of_pos_right h2 (Nat.two_pow_pos _)
  have hk : 5 * (12 - c) < 64 := by omega
  have hx : b ^^^ a < 2 ^ 60 := Nat.xor_lt_two_pow hb ha
  have hP := Nat.two_pow_pos (5 * (12 - c))
  have h60 : 2 ^ (5 * (12 - c)) ≤ 2 ^ 55 := Nat.pow_le_pow_right (by decide) (by omega)
  have hq2 : q * 2 ^ (5 * (12 - c)) + 2 ^ (5 * (12 - c)) ≤ 2 ^ 60 := by
    have e60 : 2 ^ (5 * c) * 2 ^ (5 * (12 - c)) = 2 ^ 60 := by rw [← Nat.pow_add]; congr 1; omega
    have := Nat.mul_le_mul_right (2 ^ (5 * (12 - c))) (show q + 1 ≤ 2 ^ (5 * c) from h2)
    rw [Nat.add_mul, Nat.one_mul, e60] at this
    exact this
  rw [wb_xor2 (by omega) (by omega), es, pf_shr (sm_s _ hk) (by omega), pk_lEQ (by have := Nat.div_le_self (b ^^^ a) (2 ^ (5 * (12 - c))); omega) (by decide)]
  have hl : sp_last (lN a) c = lN (a + (2 ^ (5 * (12 - c)) - 1)) := by
    unfold sp_last
    rw [wb_shl 1 hk, Nat.one_mul, lN_sub (by omega), wb_or (by omega) (by omega)]
    congr 1
    rw [h1, Nat.mul_comm q, ← Nat.two_pow_add_eq_or_of_lt (by omega)]
  rw [hl, pk_lLT (by omega) (by omega), pk_lLE (by omega) (by omega)]
  rw [← Nat.shiftRight_eq_div_pow, Nat.shiftRight_xor_distrib, nxor0, Nat.shiftRight_eq_div_pow, Nat.shiftRight_eq_div_pow, h1, Nat.mul_div_cancel _ hP]
  generalize 2 ^ (5 * (12 - c)) = p at *
  constructor
  · intro z
    have h3 := Nat.div_add_mod b p
    have h4 := Nat.mod_lt b hP
    rw [z, Nat.mul_comm] at h3
    omega
  · rintro ⟨z1, z2⟩
    exact Nat.div_eq_of_lt_le (by omega) (by rw [Nat.add_mul, Nat.one_mul]; omega)
