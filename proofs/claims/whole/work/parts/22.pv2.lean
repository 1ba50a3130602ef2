theorem t32_0 : (0 : Int32).toInt = 0 := rfl
theorem t64_0 : (0 : Int64).toInt = 0 := rfl
theorem t32_1 : (1 : Int32).toInt = 1 := rfl
theorem t64_1 : (1 : Int64).toInt = 1 := rfl
theorem t32_2 : (2 : Int32).toInt = 2 := rfl
theorem t64_2 : (2 : Int64).toInt = 2 := rfl
theorem t32_3 : (3 : Int32).toInt = 3 := rfl
theorem t64_3 : (3 : Int64).toInt = 3 := rfl
theorem t32_4 : (4 : Int32).toInt = 4 := rfl
theorem t64_4 : (4 : Int64).toInt = 4 := rfl
theorem t32_5 : (5 : Int32).toInt = 5 := rfl
theorem t64_5 : (5 : Int64).toInt = 5 := rfl
theorem t32_6 : (6 : Int32).toInt = 6 := rfl
theorem t64_6 : (6 : Int64).toInt = 6 := rfl
theorem t32_7 : (7 : Int32).toInt = 7 := rfl
theorem t64_7 : (7 : Int64).toInt = 7 := rfl
theorem t32_8 : (8 : Int32).toInt = 8 := rfl
theorem t64_8 : (8 : Int64).toInt = 8 := rfl
theorem t32_9 : (9 : Int32).toInt = 9 := rfl
theorem t64_9 : (9 : Int64).toInt = 9 := rfl
theorem t32_10 : (10 : Int32).toInt = 10 := rfl
theorem t64_10 : (10 : Int64).toInt = 10 := rfl
theorem t32_11 : (11 : Int32).toInt = 11 := rfl
theorem t64_11 : (11 : Int64).toInt = 11 := rfl
theorem t32_20 : (20 : Int32).toInt = 20 := rfl
theorem t64_20 : (20 : Int64).toInt = 20 := rfl
theorem t32_33 : (33 : Int32).toInt = 33 := rfl
theorem t64_33 : (33 : Int64).toInt = 33 := rfl
theorem t32_40 : (40 : Int32).toInt = 40 := rfl
theorem t64_40 : (40 : Int64).toInt = 40 := rfl
theorem t32_48 : (48 : Int32).toInt = 48 := rfl
theorem t64_48 : (48 : Int64).toInt = 48 := rfl
theorem t32_51 : (51 : Int32).toInt = 51 := rfl
theorem t64_51 : (51 : Int64).toInt = 51 := rfl
theorem t32_60 : (60 : Int32).toInt = 60 := rfl
theorem t64_60 : (60 : Int64).toInt = 60 := rfl
theorem t32_64 : (64 : Int32).toInt = 64 := rfl
theorem t64_64 : (64 : Int64).toInt = 64 := rfl
theorem t32_79 : (79 : Int32).toInt = 79 := rfl
theorem t64_79 : (79 : Int64).toInt = 79 := rfl
theorem t32_97 : (97 : Int32).toInt = 97 := rfl
theorem t64_97 : (97 : Int64).toInt = 97 := rfl
theorem t32_99 : (99 : Int32).toInt = 99 := rfl
theorem t64_99 : (99 : Int64).toInt = 99 := rfl
theorem t32_126 : (126 : Int32).toInt = 126 := rfl
theorem t64_126 : (126 : Int64).toInt = 126 := rfl
theorem t32_500 : (500 : Int32).toInt = 500 := rfl
theorem t64_500 : (500 : Int64).toInt = 500 := rfl
theorem t32_999 : (999 : Int32).toInt = 999 := rfl
theorem t64_999 : (999 : Int64).toInt = 999 := rfl
theorem t32_5000 : (5000 : Int32).toInt = 5000 := rfl
theorem t64_5000 : (5000 : Int64).toInt = 5000 := rfl
theorem t32_9999 : (9999 : Int32).toInt = 9999 := rfl
theorem t64_9999 : (9999 : Int64).toInt = 9999 := rfl
theorem t32_666666 : (666666 : Int32).toInt = 666666 := rfl
theorem t64_666666 : (666666 : Int64).toInt = 666666 := rfl
theorem t32_m1 : (-1 : Int32).toInt = -1 := rfl
theorem stA_same (S : St) (k : Nat) (f g : Nat → Int32) : stA (stA S k f) k g = stA S k g := by
  unfold stA; refine Prod.ext rfl (funext fun j => ?_)
  dsimp only
  by_cases h : j = k
  · rw [if_pos h, if_pos h]
  · rw [if_neg h, if_neg h, if_neg h]
theorem stA_comm (S : St) {k l : Nat} (h : k ≠ l) (f g : Nat → Int32) : stA (stA S k f) l g = stA (stA S l g) k f := by
  unfold stA; refine Prod.ext rfl (funext fun j => ?_)
  dsimp only
  by_cases h1 : j = l
  · rw [if_pos h1]
    by_cases h2 : j = k
    · exact absurd (h2.symm.trans h1) h
    · rw [if_neg h2, if_pos h1]
  · rw [if_neg h1]
    by_cases h2 : j = k
    · rw [if_pos h2, if_pos h2]
    · rw [if_neg h2, if_neg h2, if_neg h1]
theorem stI_same (S : St) (k : Nat) (f g : Int32) : stI (stI S k f) k g = stI S k g := by
  unfold stI upd; refine Prod.ext (funext fun j => ?_) rfl
  dsimp only
  by_cases h : j = k
  · rw [if_pos h, if_pos h]
  · rw [if_neg h, if_neg h, if_neg h]
theorem pv_4le (i : Nat) (hi : i < 4) : ¬ (4 : Int32) ≤ nI i := by
  rw [Int32.le_iff_toInt_le, pv_nI i (by omega), t32_4]; omega
theorem pv_6le (i : Nat) (hi : i < 6) : ¬ (6 : Int32) ≤ nI i := by
  rw [Int32.le_iff_toInt_le, pv_nI i (by omega), t32_6]; omega
theorem pv_oven49 (N : Nat) (x1 x2 : Int32) (S : St) (hN : 10 ≤ N) : fx_it (lf_X8_oven_49 N x1 x2) N ((0 : Int32), S) = some (stA (stA S 12 (fx_fl 4 0 (S.2 12))) 15 (fx_fl 4 0 (S.2 15))) := by
  have h := pv_run (b := lf_X8_oven_49 N x1 x2) (fun i => (nI i, stA (stA S 12 (fx_fl i 0 (S.2 12))) 15 (fx_fl i 0 (S.2 15)))) 4 (stA (stA S 12 (fx_fl 4 0 (S.2 12))) 15 (fx_fl 4 0 (S.2 15))) ?_ ?_ N 0 (by omega) (by omega)
  · rw [← h]
    show fx_it _ N _ = fx_it _ N (nI 0, _)
    rw [fx_fl_0, fx_fl_0]
    congr 2
    unfold stA; refine Prod.ext rfl (funext fun j => ?_)
    dsimp only
    by_cases h1 : j = 15
    · rw [if_pos h1, h1]
    · rw [if_neg h1]
      by_cases h2 : j = 12
      · rw [if_pos h2, h2]
      · rw [if_neg h2]
  · intro i hi rec
    unfold lf_X8_oven_49 bd_X8_oven_49
    dsimp only
    rw [if_neg (pv_4le i hi), pv_astn hi (by omega), pv_astn hi (by omega), lte, nI_1]
    congr 2
    rw [stA_2, stA_2, stA_2, stA_2]
    rw [if_neg (by decide), if_pos rfl, if_neg (by decide), if_pos rfl, fx_fl_s, fx_fl_s]
    rw [stA_comm _ (by decide : (15 : Nat) ≠ 12), stA_same, stA_same]
  · intro rec
    unfold lf_X8_oven_49 bd_X8_oven_49
    dsimp only
    rw [if_pos (by decide)]
theorem pv_oven76 (N : Nat) (x1 x2 : Int32) (S : St) (hN : 10 ≤ N) : fx_it (lf_X8_oven_76 N x1 x2) N ((0 : Int32), S) = some (stA S 6 (fx_fl 6 0 (S.2 6))) := by
  have h := pv_run (b := lf_X8_oven_76 N x1 x2) (fun i => (nI i, stA S 6 (fx_fl i 0 (S.2 6)))) 6 (stA S 6 (fx_fl 6 0 (S.2 6))) ?_ ?_ N 0 (by omega) (by omega)
  · rw [← h]
    show fx_it _ N _ = fx_it _ N (nI 0, _)
    rw [fx_fl_0]
    congr 2
    unfold stA; refine Prod.ext rfl (funext fun j => ?_)
    dsimp only
    by_cases h1 : j = 6
    · rw [if_pos h1, h1]
    · rw [if_neg h1]
  · intro i hi rec
    unfold lf_X8_oven_76 bd_X8_oven_76
    dsimp only
    rw [if_neg (pv_6le i hi), pv_astn hi (by omega), lte, nI_1]
    congr 2
    rw [stA_2, if_pos rfl, fx_fl_s, stA_same]
  · intro rec
    unfold lf_X8_oven_76 bd_X8_oven_76
    dsimp only
    rw [if_pos (by decide)]
theorem pv_RAfl {n : Nat} {f g : Nat → Int32} (v : Int32) : pv_RA n (fx_fl n v f) (fx_fl n v g) := by
  intro j hj
  unfold fx_fl
  rw [if_pos hj, if_pos hj]
theorem pv_fl {n j : Nat} (v : Int32) (f : Nat → Int32) (h : j < n) : fx_fl n v f j = v := by unfold fx_fl; rw [if_pos h]
theorem op_oven (N : Nat) (hN : 2000 ≤ N) {O S T P M : St} (D E B : St) (hI : pv_I O S T P) (hR : pv_R O S T P M) (x1 x2 : Int32) : ∃ (r : Int32) (O' T' M' : St), f_X7_oven N O S T P D E B x1 x2 = some (r, O', T') ∧ f_X8_oven N M x1 x2 = some (r, M') ∧ pv_I O' S T' P ∧ pv_R O' S T' P M' ∧ pv_K M M' := by
  obtain ⟨hO, hS, hT, hP⟩ := id hI
  obtain ⟨hRO, hRS, hRT, hRP⟩ := id hR
  unfold f_X7_oven f_X8_oven
  simp only [b1e, pv_if, pv_within, pv_in, t32_1, t32_4, t32_6, t64_1, t64_4, t64_6]
  by_cases h1 : 1 ≤ x1.toInt ∧ x1.toInt ≤ 4
  · rw [if_pos h1, if_pos h1]
    by_cases h2 : 1 ≤ x2.toInt ∧ x2.toInt ≤ 6
    · rw [if_pos h2, if_pos h2]
      unfold f_X3_rebuild
      simp only [lte, b1e]
      rw [pv_oven49 N x1 x2 _ (by omega), b1e, pv_oven76 N x1 x2 _ (by omega), b1e]
      obtain ⟨i0, i1, i2, i3, i4, i5, i6, i7, i8⟩ := hO
      obtain ⟨r0, r1, r2, r3, r4, r5, r6, r12, r13, r14, r15⟩ := hRO
      refine ⟨_, _, _, _, rfl, rfl, ⟨⟨h1, h2, i2, i3, i4, Or.inl rfl, ?_, ?_, ?_⟩, hS, ⟨⟨(by decide : 0 ≤ (0 : Int32).toInt), (by decide : (0 : Int32).toInt ≤ 6)⟩, hT.2⟩, hP⟩, ⟨⟨rfl, rfl, r2, r3, r4, rfl, pv_RAfl 0, pv_RAfl 0, r13, r14, pv_RAfl 0⟩, hRS, ⟨rfl, hRT.2⟩, hRP⟩, rfl, rfl⟩
      · intro j hj
        show 0 ≤ (fx_fl 6 0 _ j).toInt ∧ (fx_fl 6 0 _ j).toInt ≤ 9
        rw [pv_fl 0 _ hj]; exact ⟨by decide, by decide⟩
      · intro j hj
        show 0 ≤ (fx_fl 4 0 _ j).toInt ∧ (fx_fl 4 0 _ j).toInt ≤ x2.toInt
        rw [pv_fl 0 _ hj, t32_0]; exact ⟨by decide, by omega⟩
      · intro r p hr hp hlt
        have hlt : (p : Int) < (fx_fl 4 0 (O.2 7) r).toInt := hlt
        rw [pv_fl 0 _ hr, t32_0] at hlt
        omega
    · rw [if_neg h2, if_neg h2]
      exact ⟨_, _, _, _, rfl, rfl, hI, hR, rfl, rfl⟩
  · rw [if_neg h1, if_neg h1]
    exact ⟨_, _, _, _, rfl, rfl, hI, hR, rfl, rfl⟩
theorem op_set (N : Nat) {O S T P M : St} (D E B : St) (hI : pv_I O S T P) (hR : pv_R O S T P M) (x1 x2 : Int32) : ∃ (r : Int32) (O' M' : St), f_X7_set N O S T P D E B x1 x2 = some (r, O') ∧ f_X8_set N M x1 x2 = some (r, M') ∧ pv_I O' S T P ∧ pv_R O' S T P M' ∧ pv_K M M' := by
  obtain ⟨hO, hI2⟩ := id hI
  obtain ⟨hRO, hR2⟩ := id hR
  obtain ⟨i0, i1, i2, i3, i4, i5, i6, i7, i8⟩ := hO
  obtain ⟨r0, r1, r2, r3, r4, r5, r6, r12, r13, r14, r15⟩ := hRO
  unfold f_X7_set f_X8_set
  simp only [b1e, pv_if, pv_within, pv_in, t32_0, t32_2, t64_0, t64_2]
  by_cases h1 : 0 ≤ x1.toInt ∧ x1.toInt ≤ 2
  · rw [if_pos h1, if_pos h1]
    have hc : x1 = 0 ∨ x1 = 1 ∨ x1 = 2 := by
      rcases (show x1.toInt = 0 ∨ x1.toInt = 1 ∨ x1.toInt = 2 by omega) with h | h | h
      · exact Or.inl (pv_ext (by rw [h]; rfl))
      · exact Or.inr (Or.inl (pv_ext (by rw [h]; rfl)))
      · exact Or.inr (Or.inr (pv_ext (by rw [h]; rfl)))
    have e01 : ¬ (0 : Int32) = 1 := by decide
    have e02 : ¬ (0 : Int32) = 2 := by decide
    have e10 : ¬ (1 : Int32) = 0 := by decide
    have e12 : ¬ (1 : Int32) = 2 := by decide
    have e20 : ¬ (2 : Int32) = 0 := by decide
    have e21 : ¬ (2 : Int32) = 1 := by decide
    rcases hc with rfl | rfl | rfl
    · simp only [e01, e02, if_true, if_false, b1e, lte, t32_99, t64_99]
      by_cases h2 : 0 ≤ x2.toInt ∧ x2.toInt ≤ 99
      · rw [if_pos h2, if_pos h2]
        rw [r2]
        refine ⟨_, _, _, rfl, rfl, ⟨⟨i0, i1, h2, i3, i4, i5, i6, i7, i8⟩, hI2⟩, ⟨⟨r0, r1, rfl, r3, r4, r5, r6, r12, r13, r14, r15⟩, hR2⟩, rfl, rfl⟩
      · rw [if_neg h2, if_neg h2]
        exact ⟨_, _, _, rfl, rfl, hI, hR, rfl, rfl⟩
    · simp only [e10, e12, if_true, if_false, b1e, lte, t32_9, t64_9]
      by_cases h2 : 0 ≤ x2.toInt ∧ x2.toInt ≤ 9
      · rw [if_pos h2, if_pos h2]
        rw [r3]
        refine ⟨_, _, _, rfl, rfl, ⟨⟨i0, i1, i2, h2, i4, i5, i6, i7, i8⟩, hI2⟩, ⟨⟨r0, r1, r2, rfl, r4, r5, r6, r12, r13, r14, r15⟩, hR2⟩, rfl, rfl⟩
      · rw [if_neg h2, if_neg h2]
        exact ⟨_, _, _, rfl, rfl, hI, hR, rfl, rfl⟩
    · simp only [e20, e21, if_true, if_false, b1e, lte, t32_9, t64_9]
      by_cases h2 : 0 ≤ x2.toInt ∧ x2.toInt ≤ 9
      · rw [if_pos h2, if_pos h2]
        rw [r4]
        refine ⟨_, _, _, rfl, rfl, ⟨⟨i0, i1, i2, i3, h2, i5, i6, i7, i8⟩, hI2⟩, ⟨⟨r0, r1, r2, r3, rfl, r5, r6, r12, r13, r14, r15⟩, hR2⟩, rfl, rfl⟩
      · rw [if_neg h2, if_neg h2]
        exact ⟨_, _, _, rfl, rfl, hI, hR, rfl, rfl⟩
  · rw [if_neg h1, if_neg h1]
    exact ⟨_, _, _, rfl, rfl, hI, hR, rfl, rfl⟩
