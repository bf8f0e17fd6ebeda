section JMATH
variable {K : jT} {cc : ByteArray} {nL fr mc ms cells slots pc : Nat} {own : String} {lv : Nat → Option Value} {rest : List Value} {h : jH}
theorem jv_min_eq : yJ9_min_7cf53 = Lib.Math.min.name ∧ cJ9_min_7cf53 = Lib.Math.min.code := ⟨rfl, by decide +kernel⟩
theorem jv_max_eq : yJ9_max_7cf53 = Lib.Math.max.name ∧ cJ9_max_7cf53 = Lib.Math.max.code := ⟨rfl, by decide +kernel⟩
theorem J_mmin (C : JC K cc nL own fr mc ms) {i a b : Nat} (cw : CWS own i yJ9_min_7cf53 cJ9_min_7cf53 2 (some .int) 2) (ha : a < 2147483648) (hb : b < 2147483648) (hfr : 1 ≤ fr) (hW : (rest.map fun v => v.category).sum ≤ 8) (hc : cells ≤ mc) (hs : slots ≤ ms) (d : decode cc pc = .ok (.invokestatic i, 3)) (kk : J K cells slots (pc + 3) lv (.int (nI (min a b)) :: rest) h) : J K cells slots pc lv (.int (nI b) :: .int (nI a) :: rest) h := by
  obtain ⟨p, l, e, R, s, m, args, below, meth, c, G, A, Q⟩ := K
  intro H locs ls hl hR hA hS
  obtain ⟨hexec, hb9, c3, hown, hts, hK, hRoom, c8, hA0, c10, -⟩ := C
  obtain ⟨⟨w1, w2, w3, w4⟩, w5, w6⟩ := cw
  rw [jv_min_eq.1, jv_min_eq.2] at w1
  rw [jv_min_eq.1] at w2 w5 w6
  refine va_mmin hexec hb9 hl.1.symm hown (hts _ w5) (hts _ w6) (hts _ w2) (hts _ w1) (by rw [hRoom]; exact hfr) (by rw [hRoom]; show _ ≤ 50 * fr; omega) (by rw [hRoom]; exact hc) (by rw [hRoom]; exact hs) d ?_
  have e1 : (if nI b < nI a then nI b else nI a) = nI (min a b) := by
    by_cases q : b < a
    · rw [if_pos ((nI_ltI hb ha).mpr q), Nat.min_eq_right (by omega)]
    · rw [if_neg (fun w => q ((nI_ltI hb ha).mp w)), Nat.min_eq_left (by omega)]
  rw [e1]
  exact kk H locs ls hl hR hA hS
theorem J_mmax (C : JC K cc nL own fr mc ms) {i a b : Nat} (cw : CWS own i yJ9_max_7cf53 cJ9_max_7cf53 2 (some .int) 2) (ha : a < 2147483648) (hb : b < 2147483648) (hfr : 1 ≤ fr) (hW : (rest.map fun v => v.category).sum ≤ 8) (hc : cells ≤ mc) (hs : slots ≤ ms) (d : decode cc pc = .ok (.invokestatic i, 3)) (kk : J K cells slots (pc + 3) lv (.int (nI (max a b)) :: rest) h) : J K cells slots pc lv (.int (nI b) :: .int (nI a) :: rest) h := by
  obtain ⟨p, l, e, R, s, m, args, below, meth, c, G, A, Q⟩ := K
  intro H locs ls hl hR hA hS
  obtain ⟨hexec, hb9, c3, hown, hts, hK, hRoom, c8, hA0, c10, -⟩ := C
  obtain ⟨⟨w1, w2, w3, w4⟩, w5, w6⟩ := cw
  rw [jv_max_eq.1, jv_max_eq.2] at w1
  rw [jv_max_eq.1] at w2 w5 w6
  refine va_mmax hexec hb9 hl.1.symm hown (hts _ w5) (hts _ w6) (hts _ w2) (hts _ w1) (by rw [hRoom]; exact hfr) (by rw [hRoom]; show _ ≤ 50 * fr; omega) (by rw [hRoom]; exact hc) (by rw [hRoom]; exact hs) d ?_
  have e1 : (if nI a < nI b then nI b else nI a) = nI (max a b) := by
    by_cases q : a < b
    · rw [if_pos ((nI_ltI ha hb).mpr q), Nat.max_eq_right (by omega)]
    · rw [if_neg (fun w => q ((nI_ltI ha hb).mp w)), Nat.max_eq_left (by omega)]
  rw [e1]
  exact kk H locs ls hl hR hA hS
end JMATH
