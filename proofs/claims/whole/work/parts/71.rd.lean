/-! the model's reading of words and the tape's -/
def rd (B : Nat → Nat) : Nat → Nat → Int64 → Nat → List Int64
  | 0, _, w, c => if 0 < c then [w] else []
  | m + 1, k, w, c => if 0 < sp_let (B k) then rd B m (k + 1) (if c < 12 then sp_with w c (sp_let (B k)) else w) (c + 1) else if 0 < c then w :: rd B m (k + 1) (lN 0) 0 else rd B m (k + 1) (lN 0) 0
theorem isl_iff (b : Nat) : sp_isl b = true ↔ 0 < sp_let b := by
  unfold sp_isl
  simp
theorem rd_skip (B : Nat → Nat) : ∀ m k, rd B m k (lN 0) 0 = rd B (k + m - sp_wsf B m k) (sp_wsf B m k) (lN 0) 0
  | 0, k => by
    show _ = rd B (k + 0 - k) k (lN 0) 0
    rw [Nat.add_zero, Nat.sub_self]
  | m + 1, k => by
    unfold sp_wsf
    by_cases c : sp_isl (B k) = true
    · rw [if_pos c, show k + (m + 1) - k = m + 1 by omega]
    · rw [if_neg c]
      have c2 : ¬ 0 < sp_let (B k) := fun z => c ((isl_iff _).mpr z)
      show (if 0 < sp_let (B k) then _ else if 0 < 0 then _ else rd B m (k + 1) (lN 0) 0) = _
      rw [if_neg c2, if_neg (Nat.lt_irrefl 0), rd_skip B m (k + 1), show k + 1 + m = k + (m + 1) by omega]
theorem rd_word (B : Nat → Nat) : ∀ m s c, 0 < c → rd B m (s + c) (sp_lo B s (min 12 c)) c = sp_lo B s (min 12 (sp_wef B m (s + c) - s)) :: rd B (s + c + m - sp_wef B m (s + c)) (sp_wef B m (s + c)) (lN 0) 0
  | 0, s, c, hc => by
    show (if 0 < c then [sp_lo B s (min 12 c)] else []) = sp_lo B s (min 12 (s + c - s)) :: rd B (s + c + 0 - (s + c)) (s + c) (lN 0) 0
    rw [if_pos hc, show s + c - s = c by omega, show s + c + 0 - (s + c) = 0 by omega]
    rfl
  | m + 1, s, c, hc => by
    unfold sp_wef
    by_cases q : sp_isl (B (s + c)) = true
    · rw [if_pos q]
      have q2 := (isl_iff _).mp q
      show (if 0 < sp_let (B (s + c)) then rd B m (s + c + 1) (if c < 12 then sp_with (sp_lo B s (min 12 c)) c (sp_let (B (s + c))) else sp_lo B s (min 12 c)) (c + 1) else _) = _
      rw [if_pos q2]
      have e1 : (if c < 12 then sp_with (sp_lo B s (min 12 c)) c (sp_let (B (s + c))) else sp_lo B s (min 12 c)) = sp_lo B s (min 12 (c + 1)) := by
        by_cases q3 : c < 12
        · rw [if_pos q3, show min 12 c = c by omega, show min 12 (c + 1) = c + 1 by omega]
          rfl
        · rw [if_neg q3, show min 12 c = 12 by omega, show min 12 (c + 1) = 12 by omega]
      rw [e1]
      have := rd_word B m s (c + 1) (by omega)
      rw [show s + (c + 1) = s + c + 1 by omega] at this
      rw [this, show s + c + 1 + m = s + c + (m + 1) by omega]
    · rw [if_neg q]
      have q2 : ¬ 0 < sp_let (B (s + c)) := fun z => q ((isl_iff _).mpr z)
      show (if 0 < sp_let (B (s + c)) then _ else if 0 < c then sp_lo B s (min 12 c) :: rd B m (s + c + 1) (lN 0) 0 else _) = _
      rw [if_neg q2, if_pos hc, show s + c - s = c by omega, show s + c + (m + 1) - (s + c) = m + 1 by omega]
      show _ = _ :: (if 0 < sp_let (B (s + c)) then _ else if 0 < 0 then _ else rd B m (s + c + 1) (lN 0) 0)
      rw [if_neg q2, if_neg (Nat.lt_irrefl 0)]
theorem wsf_end (B : Nat → Nat) : ∀ m k, sp_wsf B m k = k + m ∨ sp_isl (B (sp_wsf B m k)) = true
  | 0, k => Or.inl rfl
  | m + 1, k => by
    unfold sp_wsf
    by_cases c : sp_isl (B k) = true
    · rw [if_pos c]; exact Or.inr c
    · rw [if_neg c]
      rcases wsf_end B m (k + 1) with z | z
      · exact Or.inl (by rw [z]; omega)
      · exact Or.inr z
theorem wef_end (B : Nat → Nat) : ∀ m k, sp_wef B m k = k + m ∨ ¬ sp_isl (B (sp_wef B m k)) = true
  | 0, k => Or.inl rfl
  | m + 1, k => by
    unfold sp_wef
    by_cases c : sp_isl (B k) = true
    · rw [if_pos c]
      rcases wef_end B m (k + 1) with z | z
      · exact Or.inl (by rw [z]; omega)
      · exact Or.inr z
    · rw [if_neg c]; exact Or.inr c
theorem rd_wds (B : Nat → Nat) (n : Nat) : ∀ k i, i ≤ n → (i = n ∨ sp_isl (B i) = true) → n ≤ i + 2 * k → sp_wds B n k i = rd B (n - i) i (lN 0) 0
  | 0, i, hi, _, hk => by
    rw [show n - i = 0 by omega]
    rfl
  | k + 1, i, hi, hl, hk => by
    show (if n ≤ i then [] else sp_word B i (sp_we B n i) :: sp_wds B n k (sp_ws B n (sp_we B n i))) = _
    by_cases c : n ≤ i
    · rw [if_pos c, show n - i = 0 by omega]
      rfl
    · rw [if_neg c]
      have hl : sp_isl (B i) = true := hl.resolve_left (by omega)
      have hl2 := (isl_iff _).mp hl
      obtain ⟨m, hm⟩ : ∃ m, n - i = m + 1 := ⟨n - i - 1, by omega⟩
      have e1 : rd B (n - i) i (lN 0) 0 = rd B m (i + 1) (sp_lo B i (min 12 1)) 1 := by
        rw [hm]
        show (if 0 < sp_let (B i) then rd B m (i + 1) (if 0 < 12 then sp_with (lN 0) 0 (sp_let (B i)) else lN 0) 1 else _) = _
        rw [if_pos hl2]
        rfl
      have e2 : sp_we B n i = sp_wef B m (i + 1) := by
        unfold sp_we
        rw [hm]
        show (if sp_isl (B i) = true then _ else _) = _
        rw [if_pos hl]
      have we := sp_wef_le B m (i + 1)
      rw [e1, rd_word B m i 1 (by decide), e2]
      have wse := wsf_end B (n - sp_wef B m (i + 1)) (sp_wef B m (i + 1))
      have wsl := sp_wsf_le B (n - sp_wef B m (i + 1)) (sp_wef B m (i + 1))
      have e3 : sp_ws B n (sp_wef B m (i + 1)) = sp_wsf B (n - sp_wef B m (i + 1)) (sp_wef B m (i + 1)) := rfl
      have far : n ≤ sp_wsf B (n - sp_wef B m (i + 1)) (sp_wef B m (i + 1)) ∨ i + 2 ≤ sp_wsf B (n - sp_wef B m (i + 1)) (sp_wef B m (i + 1)) := by
        rcases wef_end B m (i + 1) with z | z
        · omega
        · rcases wse with y | y
          · omega
          · refine Or.inr ?_
            have : sp_wsf B (n - sp_wef B m (i + 1)) (sp_wef B m (i + 1)) ≠ sp_wef B m (i + 1) := fun q => z (q ▸ y)
            omega
      rw [e3, rd_wds B n k _ (by omega) (by rcases wse with y | y; exact Or.inl (by omega); exact Or.inr y) (by omega)]
      refine congrArg _ ?_
      rw [show i + 1 + m - sp_wef B m (i + 1) = n - sp_wef B m (i + 1) by omega, rd_skip B (n - sp_wef B m (i + 1)), show sp_wef B m (i + 1) + (n - sp_wef B m (i + 1)) = n by omega]
theorem rd_text (B : Nat → Nat) {n : Nat} (hn : n ≤ 400) : sp_text B n = rd B n 0 (lN 0) 0 := by
  unfold sp_text
  have w := sp_ws_le B (Nat.zero_le n)
  have we := wsf_end B (n - 0) 0
  rw [rd_wds B n 200 _ w.2 (by
    unfold sp_ws
    rcases we with z | z
    · exact Or.inl (by omega)
    · exact Or.inr z) (by omega)]
  have := rd_skip B n 0
  rw [Nat.zero_add] at this
  rw [this]
  rfl
