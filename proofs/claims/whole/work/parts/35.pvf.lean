/-! one part of a day, both ways -/
def pv_tm (x : Int32) : Bool := decide (x = 46 ∨ x = 58)
def pv_code (x : Int32) : Int32 := if x = 46 then 7 else if x = 58 then 8 else if x = 45 then 6 else x - 97
theorem pv_part (N : Nat) (hN : 100 ≤ N) {E S M : St} (D : St) (hI : pv_IO E) (hIS : pv_IS S) (hR : pv_RO E M) (hRS : pv_RS S M) {k r : Nat} (hk : k < 60) (x y : Int32) (hp : M.2 20 k = pv_code x) (hx : pv_tm x = true ∨ (M.2 21 k = nI r ∧ y = nI r ∧ r < 4 ∧ (x = 45 ∨ (97 ≤ x.toInt ∧ x.toInt ≤ 102)))) : ∃ w : Nat, w ≤ 3 ∧ f_X2_reasonAgainst N D E S x y = some (if w = 0 then -6 else nI w) ∧ f_X8_whyNot N M (nI k) = some (nI w) ∧ (w = 0 → ∀ D' : St, ∀ a b : Int32, ∃ E' M', f_X2_act N D' E S x y = some E' ∧ f_X8_happen N (stI (stI M 24 a) 25 b) (nI k) = some M' ∧ pv_IO E' ∧ pv_RO E' M' ∧ pv_Z (stI (stI M 24 a) 25 b) M') := by
  obtain ⟨i0, i1, i2, i3, i4, i5, i6, i7, i8⟩ := id hI
  obtain ⟨r0, r1, r2, r3, r4, r5, r6, r12, r13, r14, r15⟩ := id hR
  have hR2 : ∀ a b : Int32, pv_RO E (stI (stI M 24 a) 25 b) := fun a b => hR
  have hRS2 : ∀ a b : Int32, pv_RS S (stI (stI M 24 a) 25 b) := fun a b => hRS
  rcases hx with hx | ⟨hw, hy, hr, hx⟩
  · -- time passes
    refine ⟨0, by omega, ?_, ?_, fun _ D' a b => ?_⟩
    · unfold f_X2_reasonAgainst
      rcases of_decide_eq_true hx with rfl | rfl <;> rfl
    · unfold f_X8_whyNot
      rw [pv_aldn hk (by omega), hp]
      rcases of_decide_eq_true hx with rfl | rfl <;> rfl
    · rcases of_decide_eq_true hx with rfl | rfl
      · obtain ⟨E', M', q1, q2, q3, q4, q5⟩ := pv_minutes N hN D' S (x := 1) (by omega) 1 0 (by omega) E _ hI (hR2 a b) N N (by omega) (by omega)
        refine ⟨E', M', ?_, ?_, q3, q4, q5⟩
        · unfold f_X2_act
          rw [if_pos rfl, if_pos rfl, b1e, show (((0 : Int32), E) : Int32 × St) = (nI 0, E) from rfl, show (1 : Int32) = nI 1 from rfl, q1]
          rfl
        · unfold f_X8_happen
          rw [pv_aldn hk (by omega), pv_aldn hk (by omega), show (stI (stI M 24 a) 25 b).2 20 k = 7 from hp, if_neg (by decide), pv_aldn hk (by omega), show (stI (stI M 24 a) 25 b).2 20 k = 7 from hp, if_pos rfl, b1e, show (9 : Int32) = nI (10 - 1 + 0) from rfl, q2]
          rfl
      · obtain ⟨E', M', q1, q2, q3, q4, q5⟩ := pv_minutes N hN D' S (x := 10) (by omega) 10 0 (by omega) E _ hI (hR2 a b) N N (by omega) (by omega)
        refine ⟨E', M', ?_, ?_, q3, q4, q5⟩
        · unfold f_X2_act
          rw [if_neg (by decide), if_pos rfl, if_neg (by decide), b1e, show (((0 : Int32), E) : Int32 × St) = (nI 0, E) from rfl, show (10 : Int32) = nI 10 from rfl, q1]
          rfl
        · unfold f_X8_happen
          rw [pv_aldn hk (by omega), pv_aldn hk (by omega), show (stI (stI M 24 a) 25 b).2 20 k = 8 from hp, if_neg (by decide), pv_aldn hk (by omega), show (stI (stI M 24 a) 25 b).2 20 k = 8 from hp, if_neg (by decide), b1e, show (0 : Int32) = nI (10 - 10 + 0) from rfl, q2]
          rfl
  · subst hy
    obtain ⟨fl, efl, hfl⟩ := pv_num (b := 6) ⟨(i7 r hr).1, by have := (i7 r hr).2; omega⟩
    have hfl1 := (i7 r hr).2
    rw [efl, pv_nI _ (by omega)] at hfl1
    rcases hx with rfl | hx
    · -- out
      by_cases h0 : fl = 0
      · refine ⟨3, by omega, ?_, ?_, fun z => absurd z (by decide)⟩
        · unfold f_X2_reasonAgainst f_X3_isEmpty
          rw [if_neg (by decide), if_neg (by decide), if_pos rfl, pv_aldn hr (by omega), efl, h0]
          rfl
        · unfold f_X8_whyNot
          rw [pv_aldn hk (by omega), hp, if_pos (by decide), pv_aldn hk (by omega), pv_aldn hk (by omega), hp, hw, if_pos (by decide), pv_aldn hr (by omega), r12 r hr, efl, h0]
          rfl
      · refine ⟨0, by omega, ?_, ?_, fun z D' a b => ?_⟩
        · unfold f_X2_reasonAgainst f_X3_isEmpty
          rw [if_neg (by decide), if_neg (by decide), if_pos rfl, pv_aldn hr (by omega), efl, if_pos (show (0 : Int32) < nI fl from (pv_lt (a := 0) (by omega) (by omega)).mpr (by omega))]
          rfl
        · unfold f_X8_whyNot
          rw [pv_aldn hk (by omega), hp, if_pos (by decide), pv_aldn hk (by omega), pv_aldn hk (by omega), hp, hw, if_pos (by decide), pv_aldn hr (by omega), r12 r hr, efl, if_neg (show ¬ nI fl = (0 : Int32) from fun q => h0 ((pv_eq (b := 0) (by omega) (by omega)).mp q))]
          rfl
        · obtain ⟨E', M', q1, q2, q3, q4, q5⟩ := pv_take N hI hIS (hR2 a b) (hRS2 a b) hr efl (by omega) (by omega) hk hp hw
          refine ⟨E', M', ?_, q2, q3, q4, q5⟩
          unfold f_X2_act
          rw [if_neg (by decide), if_neg (by decide), if_pos rfl, q1]
          rfl
    · -- in
      obtain ⟨s, es, hs, hs2⟩ := pv_ex (x := x) (by omega)
      have hs97 : 97 ≤ s := by omega
      have n46 : ¬ x = 46 := fun z => by rw [z] at hx; exact absurd hx.1 (by decide)
      have n58 : ¬ x = 58 := fun z => by rw [z] at hx; exact absurd hx.1 (by decide)
      have n45 : ¬ x = 45 := fun z => by rw [z] at hx; exact absurd hx.1 (by decide)
      have hc : x - 97 = nI (s - 97) := by rw [es]; exact pk_sub hs97
      have hpc : M.2 20 k = nI (s - 97) := by
        rw [hp]; unfold pv_code
        rw [if_neg n46, if_neg n58, if_neg n45, hc]
      have le6 : nI (s - 97) ≤ (6 : Int32) := (pv_le (b := 6) (by omega) (by omega)).mpr (by omega)
      have ne6 : ¬ nI (s - 97) = (6 : Int32) := fun q => by have := (pv_eq (b := 6) (by omega) (by omega)).mp q; omega
      haveI : Decidable (pv_has (S.1 0) (nI (s - 97))) := Classical.propDecidable _
      haveI : Decidable (pv_has (M.1 7) (nI (s - 97))) := Classical.propDecidable _
      by_cases h1 : pv_has (S.1 0) (nI (s - 97))
      · by_cases h2 : (fl : Int) < (E.1 1).toInt
        · refine ⟨0, by omega, ?_, ?_, fun z D' a b => ?_⟩
          · unfold f_X2_reasonAgainst f_X3_isFull
            rw [if_neg n46, if_neg n58, if_neg n45, hc, pv_hasE, pv_b_t h1, b1e, if_neg (by decide), pv_aldn hr (by omega), efl, if_pos (show nI fl < E.1 1 by rw [Int32.lt_iff_toInt_lt, pv_nI _ (by omega)]; exact h2)]
            rfl
          · unfold f_X8_whyNot
            rw [pv_aldn hk (by omega), hpc, if_pos le6, pv_aldn hk (by omega), pv_aldn hk (by omega), hpc, hw, if_neg ne6, pv_aldn hk (by omega), hpc, pv_isSortE, pv_b_t (show pv_has (M.1 7) (nI (s - 97)) by rw [hRS.1]; exact h1), b1e, if_neg (by decide), pv_aldn hr (by omega), r12 r hr, efl, r1, if_neg (show ¬ nI fl = E.1 1 from fun q => by rw [← q, pv_nI _ (by omega)] at h2; omega)]
            rfl
          · obtain ⟨E', M', q1, q2, q3, q4, q5⟩ := pv_put N hI (hR2 a b) hr (show s - 97 ≤ 5 by omega) efl h2 hk hpc hw
            refine ⟨E', M', ?_, q2, q3, q4, q5⟩
            unfold f_X2_act
            rw [if_neg n46, if_neg n58, if_neg n45, hc, q1]
            rfl
        · refine ⟨2, by omega, ?_, ?_, fun z => absurd z (by decide)⟩
          · unfold f_X2_reasonAgainst f_X3_isFull
            rw [if_neg n46, if_neg n58, if_neg n45, hc, pv_hasE, pv_b_t h1, b1e, if_neg (by decide), pv_aldn hr (by omega), efl, if_neg (show ¬ nI fl < E.1 1 by rw [Int32.lt_iff_toInt_lt, pv_nI _ (by omega)]; exact h2)]
            rfl
          · unfold f_X8_whyNot
            rw [pv_aldn hk (by omega), hpc, if_pos le6, pv_aldn hk (by omega), pv_aldn hk (by omega), hpc, hw, if_neg ne6, pv_aldn hk (by omega), hpc, pv_isSortE, pv_b_t (show pv_has (M.1 7) (nI (s - 97)) by rw [hRS.1]; exact h1), b1e, if_neg (by decide), pv_aldn hr (by omega), r12 r hr, efl, r1, if_pos (show nI fl = E.1 1 from pv_ext (by rw [pv_nI _ (by omega)]; omega))]
            rfl
      · refine ⟨1, by omega, ?_, ?_, fun z => absurd z (by decide)⟩
        · unfold f_X2_reasonAgainst
          rw [if_neg n46, if_neg n58, if_neg n45, hc, pv_hasE, pv_b_f h1, b1e, if_pos rfl]
          rfl
        · unfold f_X8_whyNot
          rw [pv_aldn hk (by omega), hpc, if_pos le6, pv_aldn hk (by omega), pv_aldn hk (by omega), hpc, hw, if_neg ne6, pv_aldn hk (by omega), hpc, pv_isSortE, pv_b_f (show ¬ pv_has (M.1 7) (nI (s - 97)) by rw [hRS.1]; exact h1), b1e, if_pos rfl]
          rfl
