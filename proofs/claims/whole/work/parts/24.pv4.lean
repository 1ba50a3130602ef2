theorem pv_six : (6 : Int32) = nI 6 := rfl
theorem pv_cell (N a b : Nat) : f_X3_cell N (nI a) (nI b) = some (nI (6 * a + b)) := by
  unfold f_X3_cell
  rw [pv_six, pk_mul, nI_add, Nat.mul_comm a 6]
theorem pv_lt {a b : Nat} (ha : a < 2147483648) (hb : b < 2147483648) : (nI a < nI b) ↔ a < b := nI_ltI (by omega) (by omega)
theorem pv_le {a b : Nat} (ha : a < 2147483648) (hb : b < 2147483648) : (nI a ≤ nI b) ↔ a ≤ b := nI_leI (by omega) (by omega)
theorem pv_eq {a b : Nat} (ha : a < 2147483648) (hb : b < 2147483648) : (nI a = nI b) ↔ a = b := nI_eq (by omega) (by omega)
/-- a cell as both tell it -/
theorem pv_tell (N : Nat) {O M : St} (hO : pv_IO O) (hR : pv_RO O M) {a b : Nat} (x3 : Int32) (ha : a < 4) (hb : b < 6) : ∃ r, f_X3_tellCell N O (nI a) (nI b) x3 = some r ∧ f_X8_toldOf N M (nI a) (nI b) x3 = some r := by
  obtain ⟨r0, r1, r2, r3, r4, r5, r6, r12, r13, r14, r15⟩ := hR
  unfold f_X3_tellCell f_X8_toldOf
  rw [lte, pv_aldn ha (by omega), pv_aldn ha (by omega), r12 a ha]
  by_cases h1 : nI b < O.2 7 a
  · rw [if_pos h1, if_pos h1]
    rw [show ((6 : Int32) * nI a + nI b) = nI (6 * a + b) by rw [pv_six, pk_mul, nI_add]]
    rw [pv_cell, b1e, b1e, pv_aldn (by omega) (by omega), pv_aldn (by omega) (by omega), pv_aldn (by omega) (by omega), pv_aldn (by omega) (by omega), r13 _ (by omega), r14 _ (by omega)]
    by_cases h2 : x3 = 0
    · simp only [if_pos h2]; exact ⟨_, rfl, rfl⟩
    · simp only [if_neg h2]; exact ⟨_, rfl, rfl⟩
  · rw [if_neg h1, if_neg h1]; exact ⟨_, rfl, rfl⟩
theorem op_state (N : Nat) {O S T P M : St} (D E B : St) (hI : pv_I O S T P) (hR : pv_R O S T P M) (x1 x2 x3 : Int32) : ∃ (r : Int32), f_X7_state N O S T P D E B x1 x2 x3 = some r ∧ f_X8_state N M x1 x2 x3 = some r := by
  obtain ⟨hO, hI2⟩ := id hI
  obtain ⟨i0, i1, -⟩ := id hO
  obtain ⟨hRO, hR2⟩ := id hR
  obtain ⟨r0, r1, -⟩ := id hRO
  unfold f_X7_state f_X8_state f_X7_refuseCell
  rw [pv_hasRow N i0.1, pv_isRow N (by rw [r0]; exact i0.1), r0, pv_hasPlace N i1.1, pv_isPlace N (by rw [r1]; exact i1.1), r1]
  simp only [b1e, pv_if, pv_within, pv_in, t32_0, t32_1, t64_0, t64_1]
  by_cases h1 : 0 ≤ x1.toInt ∧ x1.toInt < (O.1 0).toInt
  · rw [if_pos h1, if_pos h1]
    by_cases h2 : 0 ≤ x2.toInt ∧ x2.toInt < (O.1 1).toInt
    · rw [if_pos h2, if_pos h2]
      by_cases h3 : 0 ≤ x3.toInt ∧ x3.toInt ≤ 1
      · rw [if_pos h3, if_pos h3, b1e, if_pos rfl]
        obtain ⟨a, ea, ea2, -⟩ := pv_ex h1.1
        obtain ⟨b, eb, eb2, -⟩ := pv_ex h2.1
        subst ea; subst eb
        obtain ⟨r, e1, e2⟩ := pv_tell N hO hRO x3 (a := a) (b := b) (by omega) (by omega)
        rw [e1, e2]
        exact ⟨r, rfl, rfl⟩
      · rw [if_neg h3, if_neg h3]; exact ⟨_, rfl, rfl⟩
    · rw [if_neg h2, if_neg h2]; exact ⟨_, rfl, rfl⟩
  · rw [if_neg h1, if_neg h1]; exact ⟨_, rfl, rfl⟩
theorem pv_sortTell (N : Nat) {S M : St} (hR : pv_RS S M) (x1 x2 : Int32) : ∃ r, f_X6_tellOf N S x1 x2 = some r ∧ f_X8_toldOfSort N M x1 x2 = some r := by
  obtain ⟨r7, r8, r9, r10, r11⟩ := hR
  have dec : Decidable (pv_has (S.1 0) x1) := Classical.propDecidable _
  have dec2 : Decidable (pv_has (M.1 7) x1) := Classical.propDecidable _
  unfold f_X6_tellOf f_X8_toldOfSort
  rw [pv_hasE, pv_isSortE, b1e, b1e, pv_if, pv_if]
  by_cases h : pv_has (S.1 0) x1
  · rw [if_pos h, if_pos (show pv_has (M.1 7) x1 by rw [r7]; exact h)]
    obtain ⟨a, ea, ea2, -⟩ := pv_ex h.1.1
    have h5 := h.1.2
    subst ea
    have ha : a < 6 := by omega
    simp only [pv_aldn ha (show (6 : Nat) < 2147483648 by omega)]
    rw [r8 a ha, r9 a ha, r10 a ha, r11 a ha]
    by_cases z0 : x2 = 0
    · rw [if_pos z0]; exact ⟨_, rfl, rfl⟩
    · rw [if_neg z0]
      by_cases z1 : x2 = 1
      · rw [if_pos z1]; exact ⟨_, rfl, rfl⟩
      · rw [if_neg z1]
        by_cases z2 : x2 = 2
        · rw [if_pos z2]; exact ⟨_, rfl, rfl⟩
        · rw [if_neg z2]
          by_cases z3 : x2 = 3
          · rw [if_pos z3]; exact ⟨_, rfl, rfl⟩
          · rw [if_neg z3]; exact ⟨_, rfl, rfl⟩
  · rw [if_neg h, if_neg (show ¬ pv_has (M.1 7) x1 by rw [r7]; exact h)]; exact ⟨_, rfl, rfl⟩
theorem pv_tdiv10 {x : Int32} (h : 0 ≤ x.toInt) : (x / 10).toInt = x.toInt / 10 := by
  rw [Int32.toInt_div_of_ne_right _ _ (by decide), t32_10, Int.tdiv_eq_ediv_of_nonneg h]
theorem op_told (N : Nat) {O S T P M : St} (D E B : St) (hI : pv_I O S T P) (hR : pv_R O S T P M) (x1 : Int32) : ∃ (r : Int32), f_X7_told N O S T P D E B x1 = some r ∧ f_X8_told N M x1 = some r := by
  obtain ⟨hO, hI2⟩ := id hI
  obtain ⟨i0, i1, i2, i3, i4, i5, i6, i7, i8⟩ := id hO
  obtain ⟨hRO, hRS, hRT, hRP⟩ := id hR
  obtain ⟨r0, r1, r2, r3, r4, r5, r6, r12, r13, r14, r15⟩ := id hRO
  have e9 : ((9 : Int64) + Int32.toInt64 (O.1 1)).toInt = 9 + (O.1 1).toInt := by
    rw [Int64.toInt_add, Int32.toInt_toInt64, t64_9]
    exact Int.bmod_eq_of_le (by omega) (by omega)
  unfold f_X7_told f_X8_told
  simp only [b1e, pv_if, pv_in, t64_10, t64_20, t64_79]
  rw [r1, e9]
  by_cases hs : 0 ≤ x1.toInt ∧ x1.toInt ≤ 8
  · rw [if_neg (show ¬ (20 ≤ x1.toInt ∧ x1.toInt ≤ 79) by omega), if_neg (show ¬ (10 ≤ x1.toInt ∧ x1.toInt ≤ 9 + (O.1 1).toInt) by omega)]
    unfold f_X8_toldNow
    rw [r0, r1, r2, r3, r4, r5, hRS.1, hRT.1, hRP.1]
    have hc : x1 = 0 ∨ x1 = 1 ∨ x1 = 2 ∨ x1 = 3 ∨ x1 = 4 ∨ x1 = 5 ∨ x1 = 6 ∨ x1 = 7 ∨ x1 = 8 := by
      rcases (show x1.toInt = 0 ∨ x1.toInt = 1 ∨ x1.toInt = 2 ∨ x1.toInt = 3 ∨ x1.toInt = 4 ∨ x1.toInt = 5 ∨ x1.toInt = 6 ∨ x1.toInt = 7 ∨ x1.toInt = 8 by omega) with h | h | h | h | h | h | h | h | h
      · exact Or.inl (pv_ext (by rw [h]; rfl))
      · exact Or.inr (Or.inl (pv_ext (by rw [h]; rfl)))
      · exact Or.inr (Or.inr (Or.inl (pv_ext (by rw [h]; rfl))))
      · exact Or.inr (Or.inr (Or.inr (Or.inl (pv_ext (by rw [h]; rfl)))))
      · exact Or.inr (Or.inr (Or.inr (Or.inr (Or.inl (pv_ext (by rw [h]; rfl))))))
      · exact Or.inr (Or.inr (Or.inr (Or.inr (Or.inr (Or.inl (pv_ext (by rw [h]; rfl)))))))
      · exact Or.inr (Or.inr (Or.inr (Or.inr (Or.inr (Or.inr (Or.inl (pv_ext (by rw [h]; rfl))))))))
      · exact Or.inr (Or.inr (Or.inr (Or.inr (Or.inr (Or.inr (Or.inr (Or.inl (pv_ext (by rw [h]; rfl)))))))))
      · exact Or.inr (Or.inr (Or.inr (Or.inr (Or.inr (Or.inr (Or.inr (Or.inr (pv_ext (by rw [h]; rfl)))))))))
    rcases hc with rfl | rfl | rfl | rfl | rfl | rfl | rfl | rfl | rfl
    · exact ⟨_, rfl, rfl⟩
    · exact ⟨_, rfl, rfl⟩
    · exact ⟨_, rfl, rfl⟩
    · exact ⟨_, rfl, rfl⟩
    · exact ⟨_, rfl, rfl⟩
    · exact ⟨_, rfl, rfl⟩
    · exact ⟨_, rfl, rfl⟩
    · exact ⟨_, rfl, rfl⟩
    · rcases i5 with h | h
      · rw [h]; exact ⟨_, rfl, rfl⟩
      · rw [h]; exact ⟨_, rfl, rfl⟩
  · have ne : ∀ (k : Int32), 0 ≤ k.toInt ∧ k.toInt ≤ 8 → ¬ x1 = k := fun k hk h => hs (by rw [h]; exact hk)
    rw [if_neg (ne 0 (by decide)), if_neg (ne 1 (by decide)), if_neg (ne 2 (by decide)), if_neg (ne 3 (by decide)), if_neg (ne 4 (by decide)), if_neg (ne 5 (by decide)), if_neg (ne 6 (by decide)), if_neg (ne 7 (by decide)), if_neg (ne 8 (by decide))]
    rw [pv_hasPlace N i1.1, b1e, pv_if]
    have hrg := pv_rng x1
    have t10 : (10 : Int32).toInt = 10 := rfl
    by_cases hlow : x1.toInt < 10
    · -- below ten: nothing
      have hn : ¬ (0 ≤ (x1 - 10).toInt ∧ (x1 - 10).toInt < (O.1 1).toInt) := by
        rw [Int32.toInt_sub, t10]
        intro h
        have hb := Int.bmod_add_bdiv (x1.toInt - 10) (2 ^ 32)
        rw [show (((2 : Nat) ^ 32 : Nat) : Int) = 4294967296 from rfl] at hb
        omega
      rw [if_neg hn, if_neg (show ¬ (20 : Int32) ≤ x1 by rw [Int32.le_iff_toInt_le, t32_20]; omega), if_neg (show ¬ (20 ≤ x1.toInt ∧ x1.toInt ≤ 79) by omega), if_neg (show ¬ (10 ≤ x1.toInt ∧ x1.toInt ≤ 9 + (O.1 1).toInt) by omega)]
      unfold f_X8_toldNow
      rw [if_neg (ne 0 (by decide)), if_neg (ne 1 (by decide)), if_neg (ne 2 (by decide)), if_neg (ne 3 (by decide)), if_neg (ne 4 (by decide)), if_neg (ne 5 (by decide)), if_neg (ne 6 (by decide)), if_neg (ne 7 (by decide)), if_neg (ne 8 (by decide))]
      exact ⟨_, rfl, rfl⟩
    · have es : (x1 - 10).toInt = x1.toInt - 10 := pv_sub (by omega) (by omega)
      by_cases hp : x1.toInt ≤ 9 + (O.1 1).toInt
      · have h1 : 0 ≤ (x1 - 10).toInt ∧ (x1 - 10).toInt < (O.1 1).toInt := by omega
        have hc := pv_clamp h1.1
        rw [if_pos h1, if_neg (show ¬ (20 ≤ x1.toInt ∧ x1.toInt ≤ 79) by omega), if_pos (show (10 ≤ x1.toInt ∧ x1.toInt ≤ 9 + (O.1 1).toInt) by omega), pv_ald h1.1 (by omega), pv_ald h1.1 (by omega), r6 _ (by omega)]
        exact ⟨_, rfl, rfl⟩
      · rw [if_neg (show ¬ (0 ≤ (x1 - 10).toInt ∧ (x1 - 10).toInt < (O.1 1).toInt) by omega)]
        by_cases h20 : x1.toInt < 20
        · rw [if_neg (show ¬ (20 : Int32) ≤ x1 by rw [Int32.le_iff_toInt_le, t32_20]; omega), if_neg (show ¬ (20 ≤ x1.toInt ∧ x1.toInt ≤ 79) by omega), if_neg (show ¬ (10 ≤ x1.toInt ∧ x1.toInt ≤ 9 + (O.1 1).toInt) by omega)]
          unfold f_X8_toldNow
          rw [if_neg (ne 0 (by decide)), if_neg (ne 1 (by decide)), if_neg (ne 2 (by decide)), if_neg (ne 3 (by decide)), if_neg (ne 4 (by decide)), if_neg (ne 5 (by decide)), if_neg (ne 6 (by decide)), if_neg (ne 7 (by decide)), if_neg (ne 8 (by decide))]
          exact ⟨_, rfl, rfl⟩
        · rw [if_pos (show (20 : Int32) ≤ x1 by rw [Int32.le_iff_toInt_le, t32_20]; omega)]
          have ed : (x1 - 20).toInt = x1.toInt - 20 := pv_sub (by rw [t32_20]; omega) (by rw [t32_20]; omega)
          have e1 := pv_tdiv10 (x := x1 - 20) (by omega)
          have e2 := pv_tdiv10 (x := x1) (by omega)
          have e3 : (x1 / 10 - 2).toInt = x1.toInt / 10 - 2 := by rw [pv_sub (by rw [e2, t32_2]; omega) (by rw [e2, t32_2]; omega), e2, t32_2]
          have e4 : (x1 - 20) / 10 = x1 / 10 - 2 := pv_ext (by rw [e1, e3, ed]; omega)
          by_cases h79 : x1.toInt ≤ 79
          · rw [if_pos (show (20 ≤ x1.toInt ∧ x1.toInt ≤ 79) by omega), e4]
            obtain ⟨r, q1, q2⟩ := pv_sortTell N hRS (x1 / 10 - 2) (x1 - x1 / 10 * 10)
            rw [q1, q2]
            exact ⟨r, rfl, rfl⟩
          · rw [if_neg (show ¬ (20 ≤ x1.toInt ∧ x1.toInt ≤ 79) by omega), if_neg (show ¬ (10 ≤ x1.toInt ∧ x1.toInt ≤ 9 + (O.1 1).toInt) by omega)]
            unfold f_X6_tellOf f_X8_toldNow
            have dec : Decidable (pv_has (S.1 0) ((x1 - 20) / 10)) := Classical.propDecidable _
            rw [pv_hasE, b1e, pv_if, if_neg (by intro h; have := h.1.2; rw [e1, ed] at this; omega)]
            rw [if_neg (ne 0 (by decide)), if_neg (ne 1 (by decide)), if_neg (ne 2 (by decide)), if_neg (ne 3 (by decide)), if_neg (ne 4 (by decide)), if_neg (ne 5 (by decide)), if_neg (ne 6 (by decide)), if_neg (ne 7 (by decide)), if_neg (ne 8 (by decide))]
            exact ⟨_, rfl, rfl⟩
