/-! what is kept while a day is tried, and put back -/
theorem pv_cnt {b : Int32 × St → (Int32 × St → Option St) → Option St} (n : Nat) (I : Nat → St → Prop) (hs : ∀ i S, i < n → I i S → ∃ S', I (i + 1) S' ∧ ∀ rec, b (nI i, S) rec = rec (nI (i + 1), S')) (he : ∀ S, ∀ rec, b (nI n, S) rec = some S) : ∀ (d i : Nat) (S : St), i + d = n → I i S → ∀ f : Nat, d < f → ∃ S', I n S' ∧ fx_it b f (nI i, S) = some S' := by
  intro d
  induction d with
  | zero =>
    intro i S hi h f hf
    obtain ⟨f, rfl⟩ : ∃ q, f = q + 1 := ⟨f - 1, by omega⟩
    have e : i = n := by omega
    subst e
    exact ⟨S, h, he S _⟩
  | succ d ih =>
    intro i S hi h f hf
    obtain ⟨f, rfl⟩ : ∃ q, f = q + 1 := ⟨f - 1, by omega⟩
    obtain ⟨S1, h1, q⟩ := hs i S (by omega) h
    obtain ⟨S', h2, q2⟩ := ih (i + 1) S1 (by omega) h1 f (by omega)
    exact ⟨S', h2, (q _).trans q2⟩
def pv_had (F : Nat → Int32) (M : St) : Prop := (∀ j, j < 24 → F j = M.2 13 j ∧ F (24 + j) = M.2 14 j) ∧ (∀ j, j < 4 → F (48 + j) = M.2 12 j ∧ F (52 + j) = M.2 15 j) ∧ F 56 = M.1 2 ∧ F 57 = M.1 5
theorem pv_keepNow (N : Nat) (hN : 100 ≤ N) (M : St) : ∃ M', f_X8_keepNow N M = some M' ∧ (∀ k, M'.1 k = M.1 k) ∧ (∀ k, k ≠ 23 → M'.2 k = M.2 k) ∧ pv_had (M'.2 23) M := by
  obtain ⟨M1, ⟨a1, a2, a3⟩, q1⟩ := pv_cnt (b := lf_X8_keepNow_2 N) 24 (fun i S => (∀ k, S.1 k = M.1 k) ∧ (∀ k, k ≠ 23 → S.2 k = M.2 k) ∧ ∀ j, j < i → S.2 23 j = M.2 13 j ∧ S.2 23 (24 + j) = M.2 14 j)
    (by
      rintro i S hi ⟨h1, h2, h3⟩
      refine ⟨stA (stA S 23 (upd (S.2 23) i (M.2 13 i))) 23 (upd (upd (S.2 23) i (M.2 13 i)) (24 + i) (M.2 14 i)), ⟨h1, fun k hk => ?_, fun j hj => ?_⟩, fun rec => ?_⟩
      · rw [stA_2, if_neg hk, stA_2, if_neg hk]; exact h2 k hk
      · show upd (upd (S.2 23) i (M.2 13 i)) (24 + i) (M.2 14 i) j = M.2 13 j ∧ upd (upd (S.2 23) i (M.2 13 i)) (24 + i) (M.2 14 i) (24 + j) = M.2 14 j
        rw [pv_une (show j ≠ 24 + i by omega)]
        by_cases e : j = i
        · subst e; rw [pv_uself, pv_uself]; exact ⟨rfl, rfl⟩
        · rw [pv_une e, pv_une (show 24 + j ≠ 24 + i by omega), pv_une (show 24 + j ≠ i by omega)]; exact h3 j (by omega)
      · unfold lf_X8_keepNow_2 bd_X8_keepNow_2
        dsimp only
        rw [if_neg (show ¬ (24 : Int32) ≤ nI i from fun z => by have := (pv_le (a := 24) (by omega) (by omega)).mp z; omega), pv_aldn hi (by omega), h2 13 (by omega), pv_astn (by omega) (by omega), pv_aldn hi (by omega), show (stA S 23 (upd (S.2 23) i (M.2 13 i))).2 14 = M.2 14 from h2 14 (by omega), show (24 : Int32) + nI i = nI (24 + i) from nI_add 24 i, pv_astn (by omega) (by omega), lte, nI_1]
        rfl)
    (by
      intro S rec
      unfold lf_X8_keepNow_2 bd_X8_keepNow_2
      dsimp only
      rw [if_pos (show (24 : Int32) ≤ nI 24 by decide)]) 24 0 M (by omega) ⟨fun _ => rfl, fun _ _ => rfl, fun j hj => absurd hj (Nat.not_lt_zero _)⟩ N (by omega)
  obtain ⟨M2, ⟨c1, c2, c3, c4⟩, q2⟩ := pv_cnt (b := lf_X8_keepNow_43 N) 4 (fun i S => (∀ k, S.1 k = M.1 k) ∧ (∀ k, k ≠ 23 → S.2 k = M.2 k) ∧ (∀ j, j < 24 → S.2 23 j = M.2 13 j ∧ S.2 23 (24 + j) = M.2 14 j) ∧ ∀ j, j < i → S.2 23 (48 + j) = M.2 12 j ∧ S.2 23 (52 + j) = M.2 15 j)
    (by
      rintro i S hi ⟨h1, h2, h3, h4⟩
      refine ⟨stA (stA S 23 (upd (S.2 23) (48 + i) (M.2 12 i))) 23 (upd (upd (S.2 23) (48 + i) (M.2 12 i)) (52 + i) (M.2 15 i)), ⟨h1, fun k hk => ?_, fun j hj => ?_, fun j hj => ?_⟩, fun rec => ?_⟩
      · rw [stA_2, if_neg hk, stA_2, if_neg hk]; exact h2 k hk
      · show upd (upd (S.2 23) (48 + i) (M.2 12 i)) (52 + i) (M.2 15 i) j = M.2 13 j ∧ upd (upd (S.2 23) (48 + i) (M.2 12 i)) (52 + i) (M.2 15 i) (24 + j) = M.2 14 j
        rw [pv_une (show j ≠ 52 + i by omega), pv_une (show j ≠ 48 + i by omega), pv_une (show 24 + j ≠ 52 + i by omega), pv_une (show 24 + j ≠ 48 + i by omega)]
        exact h3 j hj
      · show upd (upd (S.2 23) (48 + i) (M.2 12 i)) (52 + i) (M.2 15 i) (48 + j) = M.2 12 j ∧ upd (upd (S.2 23) (48 + i) (M.2 12 i)) (52 + i) (M.2 15 i) (52 + j) = M.2 15 j
        rw [pv_une (show 48 + j ≠ 52 + i by omega)]
        by_cases e : j = i
        · subst e; rw [pv_uself, pv_uself]; exact ⟨rfl, rfl⟩
        · rw [pv_une (show 48 + j ≠ 48 + i by omega), pv_une (show 52 + j ≠ 52 + i by omega), pv_une (show 52 + j ≠ 48 + i by omega)]; exact h4 j (by omega)
      · unfold lf_X8_keepNow_43 bd_X8_keepNow_43
        dsimp only
        rw [if_neg (show ¬ (4 : Int32) ≤ nI i from fun z => by have := (pv_le (a := 4) (by omega) (by omega)).mp z; omega), pv_aldn hi (by omega), h2 12 (by omega), show (48 : Int32) + nI i = nI (48 + i) from nI_add 48 i, pv_astn (by omega) (by omega), pv_aldn hi (by omega), show (stA S 23 (upd (S.2 23) (48 + i) (M.2 12 i))).2 15 = M.2 15 from h2 15 (by omega), show (52 : Int32) + nI i = nI (52 + i) from nI_add 52 i, pv_astn (by omega) (by omega), lte, nI_1]
        rfl)
    (by
      intro S rec
      unfold lf_X8_keepNow_43 bd_X8_keepNow_43
      dsimp only
      rw [if_pos (show (4 : Int32) ≤ nI 4 by decide)]) 4 0 M1 (by omega) ⟨a1, a2, a3, fun j hj => absurd hj (Nat.not_lt_zero _)⟩ N (by omega)
  unfold f_X8_keepNow
  rw [show (((0 : Int32), M) : Int32 × St) = (nI 0, M) from rfl, q1, b1e, show (((0 : Int32), M1) : Int32 × St) = (nI 0, M1) from rfl, q2, b1e, show (56 : Int32) = nI 56 from rfl, pv_astn (by omega) (by omega), show (57 : Int32) = nI 57 from rfl, pv_astn (by omega) (by omega), c1 2, show (stA M2 23 (upd (M2.2 23) 56 (M.1 2))).1 5 = M.1 5 from c1 5]
  refine ⟨_, rfl, c1, fun k hk => ?_, ?_⟩
  · rw [stA_2, if_neg hk, stA_2, if_neg hk]; exact c2 k hk
  · show pv_had (upd (upd (M2.2 23) 56 (M.1 2)) 57 (M.1 5)) M
    refine ⟨fun j hj => ?_, fun j hj => ?_, ?_, ?_⟩
    · rw [pv_une (by omega), pv_une (by omega), pv_une (by omega), pv_une (by omega)]; exact c3 j hj
    · rw [pv_une (by omega), pv_une (by omega), pv_une (by omega), pv_une (by omega)]; exact c4 j hj
    · rw [pv_une (by omega), pv_uself]
    · rw [pv_uself]
theorem pv_putBack (N : Nat) (hN : 100 ≤ N) {M0 : St} (M : St) (hh : pv_had (M.2 23) M0) : ∃ M', f_X8_putBack N M = some M' ∧ pv_Z M M' ∧ M'.1 2 = M0.1 2 ∧ M'.1 5 = M0.1 5 ∧ pv_RA 24 (M'.2 13) (M0.2 13) ∧ pv_RA 24 (M'.2 14) (M0.2 14) ∧ pv_RA 4 (M'.2 12) (M0.2 12) ∧ pv_RA 4 (M'.2 15) (M0.2 15) := by
  obtain ⟨g1, g2, g3, g4⟩ := hh
  obtain ⟨M1, ⟨a1, a2, a3⟩, q1⟩ := pv_cnt (b := lf_X8_putBack_2 N) 24 (fun i S => (∀ k, S.1 k = M.1 k) ∧ (∀ k, k ≠ 13 → k ≠ 14 → S.2 k = M.2 k) ∧ ∀ j, j < i → S.2 13 j = M0.2 13 j ∧ S.2 14 j = M0.2 14 j)
    (by
      rintro i S hi ⟨h1, h2, h3⟩
      refine ⟨stA (stA S 13 (upd (S.2 13) i (M0.2 13 i))) 14 (upd (S.2 14) i (M0.2 14 i)), ⟨h1, fun k a b => ?_, fun j hj => ?_⟩, fun rec => ?_⟩
      · rw [stA_2, if_neg b, stA_2, if_neg a]; exact h2 k a b
      · show upd (S.2 13) i (M0.2 13 i) j = M0.2 13 j ∧ upd (S.2 14) i (M0.2 14 i) j = M0.2 14 j
        by_cases e : j = i
        · subst e; rw [pv_uself, pv_uself]; exact ⟨rfl, rfl⟩
        · rw [pv_une e, pv_une e]; exact h3 j (by omega)
      · unfold lf_X8_putBack_2 bd_X8_putBack_2
        dsimp only
        rw [if_neg (show ¬ (24 : Int32) ≤ nI i from fun z => by have := (pv_le (a := 24) (by omega) (by omega)).mp z; omega), pv_aldn (show i < 58 by omega) (by omega), h2 23 (by omega) (by omega), (g1 i hi).1, pv_astn hi (by omega), show (24 : Int32) + nI i = nI (24 + i) from nI_add 24 i, pv_aldn (by omega) (by omega), show (stA S 13 (upd (S.2 13) i (M0.2 13 i))).2 23 = M.2 23 from h2 23 (by omega) (by omega), (g1 i hi).2, pv_astn hi (by omega), lte, nI_1]
        rfl)
    (by
      intro S rec
      unfold lf_X8_putBack_2 bd_X8_putBack_2
      dsimp only
      rw [if_pos (show (24 : Int32) ≤ nI 24 by decide)]) 24 0 M (by omega) ⟨fun _ => rfl, fun _ _ _ => rfl, fun j hj => absurd hj (Nat.not_lt_zero _)⟩ N (by omega)
  obtain ⟨M2, ⟨c1, c2, c3, c4⟩, q2⟩ := pv_cnt (b := lf_X8_putBack_43 N) 4 (fun i S => (∀ k, S.1 k = M.1 k) ∧ (∀ k, k ≠ 12 → k ≠ 13 → k ≠ 14 → k ≠ 15 → S.2 k = M.2 k) ∧ (S.2 13 = M1.2 13 ∧ S.2 14 = M1.2 14) ∧ ∀ j, j < i → S.2 12 j = M0.2 12 j ∧ S.2 15 j = M0.2 15 j)
    (by
      rintro i S hi ⟨h1, h2, h3, h4⟩
      refine ⟨stA (stA S 12 (upd (S.2 12) i (M0.2 12 i))) 15 (upd (S.2 15) i (M0.2 15 i)), ⟨h1, fun k a b c d => ?_, h3, fun j hj => ?_⟩, fun rec => ?_⟩
      · rw [stA_2, if_neg d, stA_2, if_neg a]; exact h2 k a b c d
      · show upd (S.2 12) i (M0.2 12 i) j = M0.2 12 j ∧ upd (S.2 15) i (M0.2 15 i) j = M0.2 15 j
        by_cases e : j = i
        · subst e; rw [pv_uself, pv_uself]; exact ⟨rfl, rfl⟩
        · rw [pv_une e, pv_une e]; exact h4 j (by omega)
      · have e23 : S.2 23 = M.2 23 := h2 23 (by omega) (by omega) (by omega) (by omega)
        unfold lf_X8_putBack_43 bd_X8_putBack_43
        dsimp only
        rw [if_neg (show ¬ (4 : Int32) ≤ nI i from fun z => by have := (pv_le (a := 4) (by omega) (by omega)).mp z; omega), show (48 : Int32) + nI i = nI (48 + i) from nI_add 48 i, pv_aldn (show 48 + i < 58 by omega) (by omega), e23, (g2 i hi).1, pv_astn hi (by omega), show (52 : Int32) + nI i = nI (52 + i) from nI_add 52 i, pv_aldn (by omega) (by omega), show (stA S 12 (upd (S.2 12) i (M0.2 12 i))).2 23 = M.2 23 from e23, (g2 i hi).2, pv_astn hi (by omega), lte, nI_1]
        rfl)
    (by
      intro S rec
      unfold lf_X8_putBack_43 bd_X8_putBack_43
      dsimp only
      rw [if_pos (show (4 : Int32) ≤ nI 4 by decide)]) 4 0 M1 (by omega) ⟨a1, fun k a b c d => a2 k b c, ⟨rfl, rfl⟩, fun j hj => absurd hj (Nat.not_lt_zero _)⟩ N (by omega)
  have e23 : M2.2 23 = M.2 23 := c2 23 (by omega) (by omega) (by omega) (by omega)
  unfold f_X8_putBack
  rw [show (((0 : Int32), M) : Int32 × St) = (nI 0, M) from rfl, q1, b1e, show (((0 : Int32), M1) : Int32 × St) = (nI 0, M1) from rfl, q2, b1e, show (56 : Int32) = nI 56 from rfl, pv_aldn (by omega) (by omega), lte, show (57 : Int32) = nI 57 from rfl, pv_aldn (by omega) (by omega), lte, e23, show (stI M2 2 (M.2 23 56)).2 23 = M.2 23 from e23, g3, g4]
  refine ⟨_, rfl, ⟨fun k a b => ?_, c2⟩, rfl, rfl, ?_, ?_, fun j hj => (c4 j hj).1, fun j hj => (c4 j hj).2⟩
  · rw [stI_1, if_neg b, stI_1, if_neg a]; exact c1 k
  · show pv_RA 24 (M2.2 13) _
    rw [c3.1]; exact fun j hj => (a3 j hj).1
  · show pv_RA 24 (M2.2 14) _
    rw [c3.2]; exact fun j hj => (a3 j hj).2
/-- the loaves out today -/
theorem pv_outToday (N : Nat) (hN : 100 ≤ N) (M : St) : ∃ M', fx_it (lf_X8_refusal_20 N) N ((0 : Int32), M) = some M' ∧ (∀ k, M'.1 k = M.1 k) ∧ (∀ k, k ≠ 27 → M'.2 k = M.2 k) ∧ ∀ j, j < 4 → M'.2 27 j = M.2 15 j - M.2 23 (52 + j) := by
  obtain ⟨M1, ⟨a1, a2, a3⟩, q1⟩ := pv_cnt (b := lf_X8_refusal_20 N) 4 (fun i S => (∀ k, S.1 k = M.1 k) ∧ (∀ k, k ≠ 27 → S.2 k = M.2 k) ∧ ∀ j, j < i → S.2 27 j = M.2 15 j - M.2 23 (52 + j))
    (by
      rintro i S hi ⟨h1, h2, h3⟩
      refine ⟨stA S 27 (upd (S.2 27) i (M.2 15 i - M.2 23 (52 + i))), ⟨h1, fun k a => ?_, fun j hj => ?_⟩, fun rec => ?_⟩
      · rw [stA_2, if_neg a]; exact h2 k a
      · show upd (S.2 27) i (M.2 15 i - M.2 23 (52 + i)) j = _
        by_cases e : j = i
        · subst e; rw [pv_uself]
        · rw [pv_une e]; exact h3 j (by omega)
      · unfold lf_X8_refusal_20 bd_X8_refusal_20
        dsimp only
        rw [if_neg (show ¬ (4 : Int32) ≤ nI i from fun z => by have := (pv_le (a := 4) (by omega) (by omega)).mp z; omega), pv_aldn hi (by omega), show (52 : Int32) + nI i = nI (52 + i) from nI_add 52 i, pv_aldn (by omega) (by omega), pv_astn hi (by omega), lte, nI_1, h2 15 (by omega), h2 23 (by omega)])
    (by
      intro S rec
      unfold lf_X8_refusal_20 bd_X8_refusal_20
      dsimp only
      rw [if_pos (show (4 : Int32) ≤ nI 4 by decide)]) 4 0 M (by omega) ⟨fun _ => rfl, fun _ _ => rfl, fun j hj => absurd hj (Nat.not_lt_zero _)⟩ N (by omega)
  exact ⟨M1, q1, a1, a2, a3⟩
