theorem op_heat (N : Nat) (hN : 2000 ≤ N) {O S T P M : St} (D E B : St) (hI : pv_I O S T P) (hR : pv_R O S T P M) : ∃ (r : Int32) (D' E' M' : St), f_X7_heat N O S T P D E B = some (r, D', E') ∧ f_X8_heat N M = some (r, M') ∧ pv_R O S T P M' ∧ pv_K M M' := by
  obtain ⟨hRO, hRS, hRT, hRP⟩ := id hR
  obtain ⟨v, D', E', M', q1, q2, q3, q4⟩ := pv_refusal N (by omega) D E B hI hR
  unfold f_X7_heat f_X8_heat
  rw [q1, b3e]
  rcases q4 with ⟨rfl, q4⟩ | ⟨⟨v', q4, hv⟩, q5, q6, q7⟩
  · rw [q4, b2e, if_neg (by decide), if_neg (by decide)]
    exact ⟨_, _, _, _, rfl, rfl, q2, q3.K⟩
  · rcases hv with ⟨rfl, rfl⟩ | ⟨rfl, rfl⟩
    · obtain ⟨M6, M7, g1, g2, g3, g4, g5, g6, g7, g8⟩ := q7 rfl
      rw [q4, b2e, if_pos rfl, if_pos rfl, g1, b1e, g2, b1e, g4.2.2.1]
      exact ⟨_, _, _, _, rfl, rfl, g7.R g8 hRS hRT hRP, g7.K⟩
    · rw [q4, b2e, if_neg (by decide), if_neg (by decide)]
      exact ⟨_, _, _, _, rfl, rfl, q2, q3.K⟩
theorem op_spoilt (N : Nat) (hN : 2000 ≤ N) {O S T P M : St} (D E B : St) (hI : pv_I O S T P) (hR : pv_R O S T P M) : ∃ (r : Int32) (D' E' M' : St), f_X7_spoilt N O S T P D E B = some (r, D', E') ∧ f_X8_spoilt N M = some (r, M') ∧ pv_R O S T P M' ∧ pv_K M M' := by
  obtain ⟨v, D', E', M', q1, q2, q3, q4⟩ := pv_refusal N (by omega) D E B hI hR
  unfold f_X7_spoilt f_X8_spoilt
  rw [q1, b3e]
  rcases q4 with ⟨rfl, q4⟩ | ⟨⟨v', q4, hv⟩, q5, q6, q7⟩
  · rw [q4, b2e, if_neg (by decide), if_neg (by decide)]
    exact ⟨_, _, _, _, rfl, rfl, q2, q3.K⟩
  · rcases hv with ⟨rfl, rfl⟩ | ⟨rfl, rfl⟩
    · rw [q4, b2e, if_pos rfl, if_pos rfl, q5.2.2.1]
      exact ⟨_, _, _, _, rfl, rfl, q2, q3.K⟩
    · rw [q4, b2e, if_neg (by decide), if_neg (by decide)]
      exact ⟨_, _, _, _, rfl, rfl, q2, q3.K⟩
theorem op_judge (N : Nat) (hN : 2000 ≤ N) {O S T P M : St} (D E B : St) (hI : pv_I O S T P) (hR : pv_R O S T P M) (x1 : Int32) : ∃ (r : Int32) (D' E' M' : St), f_X7_judge N O S T P D E B x1 = some (r, D', E') ∧ f_X8_judge N M x1 = some (r, M') ∧ pv_R O S T P M' ∧ pv_K M M' := by
  obtain ⟨v, D', E', M', q1, q2, q3, q4⟩ := pv_refusal N (by omega) D E B hI hR
  unfold f_X7_judge f_X8_judge
  rw [pv_within, pv_in, b1e, b1e, pv_if, pv_if]
  by_cases h : (0 : Int32).toInt ≤ x1.toInt ∧ x1.toInt ≤ (5 : Int32).toInt
  · rw [if_pos h, if_pos (show (0 : Int64).toInt ≤ x1.toInt ∧ x1.toInt ≤ (5 : Int64).toInt from h), q1, b3e]
    have h5 : (5 : Int32).toInt = 5 := rfl
    rw [t32_0, h5] at h
    obtain ⟨c, rfl, hc⟩ := pv_num h
    rcases q4 with ⟨rfl, q4⟩ | ⟨⟨v', q4, hv⟩, q5, q6, q7⟩
    · rw [q4, b2e, if_pos rfl, if_pos rfl]
      exact ⟨_, _, _, _, rfl, rfl, q2, q3.K⟩
    · have n5 : ¬ v = -5 := by rcases hv with ⟨rfl, rfl⟩ | ⟨rfl, rfl⟩ <;> decide
      have n5' : ¬ v' = -5 := by rcases hv with ⟨rfl, rfl⟩ | ⟨rfl, rfl⟩ <;> decide
      rw [q4, b2e, if_neg n5, if_neg n5']
      by_cases c0 : c = 0
      · subst c0
        rw [if_pos (show nI 0 = 0 from rfl), if_pos (show nI 0 ≤ (1 : Int32) by decide), if_pos (show nI 0 = 0 from rfl), q5.1]
        exact ⟨_, _, _, _, rfl, rfl, q2, q3.K⟩
      by_cases c1 : c = 1
      · subst c1
        rw [if_neg (show ¬ nI 1 = 0 by decide), if_pos (show nI 1 = (1 : Int32) from rfl), if_pos (show nI 1 ≤ (1 : Int32) by decide), if_neg (show ¬ nI 1 = 0 by decide), if_pos (show nI 1 = (1 : Int32) from rfl), q5.2.1]
        exact ⟨_, _, _, _, rfl, rfl, q2, q3.K⟩
      have n0 : ¬ nI c = 0 := fun z => c0 ((pv_eq (b := 0) (by omega) (by omega)).mp z)
      have n1 : ¬ nI c = (1 : Int32) := fun z => c1 ((pv_eq (b := 1) (by omega) (by omega)).mp z)
      have l1 : ¬ nI c ≤ (1 : Int32) := fun z => by have := (pv_le (b := 1) (by omega) (by omega)).mp z; omega
      rw [if_neg n0, if_neg n1, if_neg l1, if_neg n0, if_neg n1, show nI c - (2 : Int32) = nI (c - 2) from pk_sub (b := 2) (by omega)]
      rcases hv with ⟨rfl, rfl⟩ | ⟨rfl, rfl⟩
      · rw [if_pos rfl, if_neg (by decide), pv_aldn (by omega) (by omega), pv_aldn (by omega) (by omega), pv_aldn (by omega) (by omega), q6 _ (by omega)]
        exact ⟨_, _, _, _, rfl, rfl, q2, q3.K⟩
      · rw [if_neg (by decide), if_pos rfl]
        exact ⟨_, _, _, _, rfl, rfl, q2, q3.K⟩
  · rw [if_neg h, if_neg (show ¬ ((0 : Int64).toInt ≤ x1.toInt ∧ x1.toInt ≤ (5 : Int64).toInt) from h)]
    exact ⟨_, _, _, _, rfl, rfl, hR, pv_K.rf M⟩
theorem op_behind (N : Nat) (hN : 2000 ≤ N) {O S T P M : St} (D E B : St) (hI : pv_I O S T P) (hR : pv_R O S T P M) (x1 x2 x3 : Int32) : ∃ (r : Int32) (D' E' M' : St), f_X7_behind N O S T P D E B x1 x2 x3 = some (r, D', E') ∧ f_X8_behind N M x1 x2 x3 = some (r, M') ∧ pv_R O S T P M' ∧ pv_K M M' := by
  obtain ⟨hO, hI2⟩ := id hI
  obtain ⟨i0, i1, i2, i3, i4, i5, i6, i7, i8⟩ := id hO
  obtain ⟨hRO, hRS, hRT, hRP⟩ := id hR
  obtain ⟨r0, r1, -⟩ := id hRO
  obtain ⟨v, D', E', M', q1, q2, q3, q4⟩ := pv_refusal N (by omega) D E B hI hR
  unfold f_X7_behind f_X8_behind f_X7_refuseCell
  rw [pv_hasRow N i0.1, pv_isRow N (by rw [r0]; exact i0.1), r0, pv_hasPlace N i1.1, pv_isPlace N (by rw [r1]; exact i1.1), r1]
  simp only [b1e, pv_if, pv_within, pv_in, t32_0, t32_1, t64_0, t64_1]
  by_cases h1 : 0 ≤ x1.toInt ∧ x1.toInt < (O.1 0).toInt
  · rw [if_pos h1, if_pos h1]
    by_cases h2 : 0 ≤ x2.toInt ∧ x2.toInt < (O.1 1).toInt
    · rw [if_pos h2, if_pos h2]
      by_cases h3 : 0 ≤ x3.toInt ∧ x3.toInt ≤ 1
      · rw [if_pos h3, if_pos h3, b1e, if_pos rfl, q1, b3e]
        obtain ⟨a, ea, ea2, -⟩ := pv_ex h1.1
        obtain ⟨b, eb, eb2, -⟩ := pv_ex h2.1
        subst ea; subst eb
        rcases q4 with ⟨rfl, q4⟩ | ⟨⟨v', q4, hv⟩, q5, q6, q7⟩
        · rw [q4, b2e, if_neg (by decide), if_neg (by decide)]
          exact ⟨_, _, _, _, rfl, rfl, q2, q3.K⟩
        · rcases hv with ⟨rfl, rfl⟩ | ⟨rfl, rfl⟩
          · obtain ⟨M6, M7, g1, g2, g3, g4, g5, g6, g7, g8⟩ := q7 rfl
            obtain ⟨r, e1, e2⟩ := pv_tell N g3 g4 x3 (a := a) (b := b) (by omega) (by omega)
            rw [q4, b2e, if_pos rfl, if_pos rfl, g1, b1e, e1, b1e, e2, b1e, g2, b1e]
            exact ⟨_, _, _, _, rfl, rfl, g7.R g8 hRS hRT hRP, g7.K⟩
          · rw [q4, b2e, if_neg (by decide), if_neg (by decide)]
            exact ⟨_, _, _, _, rfl, rfl, q2, q3.K⟩
      · rw [if_neg h3, if_neg h3]; exact ⟨_, _, _, _, rfl, rfl, hR, pv_K.rf M⟩
    · rw [if_neg h2, if_neg h2]; exact ⟨_, _, _, _, rfl, rfl, hR, pv_K.rf M⟩
  · rw [if_neg h1, if_neg h1]; exact ⟨_, _, _, _, rfl, rfl, hR, pv_K.rf M⟩
theorem op_done (N : Nat) (hN : 2000 ≤ N) {O S T P M : St} (D E B : St) (hI : pv_I O S T P) (hR : pv_R O S T P M) : ∃ (r : Int32) (O' P' D' E' M' : St), f_X7_done N O S T P D E B = some (r, O', P', D', E') ∧ f_X8_done N M = some (r, M') ∧ pv_I O' S T P' ∧ pv_R O' S T P' M' ∧ pv_K M M' := by
  obtain ⟨hRO, hRS, hRT, hRP⟩ := id hR
  obtain ⟨hO, hS, hT, hP⟩ := id hI
  obtain ⟨v, D', E', M', q1, q2, q3, q4⟩ := pv_refusal N (by omega) D E B hI hR
  unfold f_X7_done f_X8_done
  rw [q1, b3e]
  rcases q4 with ⟨rfl, q4⟩ | ⟨⟨v', q4, hv⟩, q5, q6, q7⟩
  · rw [q4, b2e, if_neg (by decide), if_neg (by decide)]
    exact ⟨_, _, _, _, _, _, rfl, rfl, hI, q2, q3.K⟩
  · rcases hv with ⟨rfl, rfl⟩ | ⟨rfl, rfl⟩
    · obtain ⟨M6, M7, g1, g2, g3, g4, g5, g6, g7, g8⟩ := q7 rfl
      obtain ⟨A, qA, hA⟩ := pv_copyFrom N (A := O) g3.2.2.2.2.2.1
      rw [q4, b2e, if_pos rfl, if_pos rfl, g1, b1e, qA, b1e, lte, lte, show (stI M6 19 0).1 22 = D'.1 1 from g6.symm]
      have hR6 := g5.R (hA.RO g4) hRS hRT hRP
      exact ⟨_, _, _, _, _, _, rfl, rfl, ⟨hA.IO g3, hS, hT, (by decide : (0 : Int) ≤ (0 : Int32).toInt ∧ (0 : Int32).toInt ≤ 60)⟩, ⟨hR6.1, hR6.2.1, hR6.2.2.1, rfl, hR6.2.2.2.2⟩, g5.K⟩
    · rw [q4, b2e, if_neg (by decide), if_neg (by decide)]
      exact ⟨_, _, _, _, _, _, rfl, rfl, hI, q2, q3.K⟩
