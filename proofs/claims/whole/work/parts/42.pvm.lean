theorem pv_layL (N : Nat) (hN : 100 ≤ N) {S : St} : ∀ (d i x : Nat) (B M : St), i + d = 6 → x < 10 ^ d → M.1 7 = S.1 0 → B.1 0 = nI i → M.1 31 = nI i → pv_RA i (M.2 30) (B.2 1) → pv_srt i (B.2 1) → (∀ j, j < i → pv_has (S.1 0) (B.2 1 j)) → ∀ f1 f2 : Nat, d < f1 → d < f2 → (∃ B' M', fx_it (lf_X1_read_10 N S) f1 (nI x, nI i, B) = some (1, B') ∧ fx_it (lf_X8_layLoaves_9 N) f2 (1, nI x, M) = some (1, M') ∧ pv_RL S B' M' ∧ pv_Y2 M M') ∨ (∃ B' M', fx_it (lf_X1_read_10 N S) f1 (nI x, nI i, B) = some (0, B') ∧ fx_it (lf_X8_layLoaves_9 N) f2 (1, nI x, M) = some (0, M') ∧ pv_Y2 M M') := by
  intro d
  have ends : ∀ (i : Nat) (B M : St), i ≤ 6 → B.1 0 = nI i → M.1 31 = nI i → pv_RA i (M.2 30) (B.2 1) → pv_srt i (B.2 1) → (∀ j, j < i → pv_has (S.1 0) (B.2 1 j)) → ∀ f1 f2 : Nat, 0 < f1 → 0 < f2 → (∃ B' M', fx_it (lf_X1_read_10 N S) f1 (nI 0, nI i, B) = some (1, B') ∧ fx_it (lf_X8_layLoaves_9 N) f2 (1, nI 0, M) = some (1, M') ∧ pv_RL S B' M' ∧ pv_Y2 M M') := by
    intro i B M hi e1 e2 e3 e4 e5 f1 f2 h1 h2
    obtain ⟨f1, rfl⟩ : ∃ q, f1 = q + 1 := ⟨f1 - 1, by omega⟩
    obtain ⟨f2, rfl⟩ : ∃ q, f2 = q + 1 := ⟨f2 - 1, by omega⟩
    refine ⟨B, M, ?_, ?_, ⟨i, hi, e1, e2, e3, e4, e5⟩, pv_Y2.rf M⟩
    · show lf_X1_read_10 N S (nI 0, nI i, B) _ = _
      unfold lf_X1_read_10 bd_X1_read_10
      dsimp only
      rw [if_pos (show nI 0 ≤ 0 by decide)]
      by_cases z : (6 : Int32) ≤ nI i
      · rw [if_pos z]
      · rw [if_neg z]
    · show lf_X8_layLoaves_9 N (1, nI 0, M) _ = _
      unfold lf_X8_layLoaves_9 bd_X8_layLoaves_9
      dsimp only
      rw [if_pos (show nI 0 ≤ 0 by decide)]
  induction d with
  | zero =>
    intro i x B M hi hx e7 e1 e2 e3 e4 e5 f1 f2 h1 h2
    have hx0 : x = 0 := by rw [Nat.pow_zero] at hx; omega
    subst hx0
    exact Or.inl (ends i B M (by omega) e1 e2 e3 e4 e5 f1 f2 (by omega) (by omega))
  | succ d ih =>
    intro i x B M hi hx e7 e1 e2 e3 e4 e5 f1 f2 h1 h2
    rw [Nat.pow_succ] at hx
    by_cases hx0 : x = 0
    · subst hx0
      exact Or.inl (ends i B M (by omega) e1 e2 e3 e4 e5 f1 f2 (by omega) (by omega))
    obtain ⟨f1, rfl⟩ : ∃ q, f1 = q + 1 := ⟨f1 - 1, by omega⟩
    obtain ⟨f2, rfl⟩ : ∃ q, f2 = q + 1 := ⟨f2 - 1, by omega⟩
    have hx6 : x < 1000000 := by
      have : 10 ^ d ≤ 10 ^ 5 := Nat.pow_le_pow_right (by omega) (by omega)
      omega
    haveI : Decidable (pv_has (S.1 0) (nI x - nI (x / 10) * 10 - 1)) := Classical.propDecidable _
    haveI : Decidable (pv_has (M.1 7) (nI x - nI (x / 10) * 10 - 1)) := Classical.propDecidable _
    have b7 : lf_X1_read_10 N S (nI x, nI i, B) (fx_it (lf_X1_read_10 N S) f1) = if pv_has (S.1 0) (nI x - nI (x / 10) * 10 - 1) then fx_b1 (f_X1_insert N B (nI x - nI (x / 10) * 10 - 1)) (fun S103 => fx_it (lf_X1_read_10 N S) f1 (nI (x / 10), nI (i + 1), S103)) else some (0, B) := by
      generalize fx_it (lf_X1_read_10 N S) f1 = rec
      unfold lf_X1_read_10 bd_X1_read_10
      dsimp only
      rw [if_neg (show ¬ (6 : Int32) ≤ nI i from fun z => by have := (pv_le (a := 6) (by omega) (by omega)).mp z; omega), if_neg (show ¬ nI x ≤ 0 from fun z => by have := (pv_le (b := 0) (by omega) (by omega)).mp z; omega), lte, pv_d10 x hx6, pv_hasE, b1e, pv_if, nI_1]
      rfl
    by_cases hh : pv_has (S.1 0) (nI x - nI (x / 10) * 10 - 1)
    · obtain ⟨a, H, g1, g2, g3, g4, g5⟩ := pv_lay8 N hN 1 (show i ≤ 5 by omega) e2 (by omega) hx6 1 (by rw [if_neg (by decide), pv_isSortE, pv_b_t (show pv_has (M.1 7) _ by rw [e7]; exact hh), b1e, if_neg (by decide)])
      obtain ⟨a', G, k1, k2, k3, k4, k5⟩ := pv_insE (b := lf_X1_insert_5 N (nI x - nI (x / 10) * 10 - 1)) 1 (nI x - nI (x / 10) * 10 - 1) (fun _ _ _ => rfl) i B (by omega) N (by omega)
      have haa : a = a' := pv_insU k1 g1 e3 k4 k5 g3 g4
      subst haa
      have hin : f_X1_insert N B (nI x - nI (x / 10) * 10 - 1) = some (stI (stA B 1 (upd G a (nI x - nI (x / 10) * 10 - 1))) 0 (nI (i + 1))) := by
        unfold f_X1_insert
        rw [e1, k2, b2e, pv_astn (by omega) (by omega), lte, stA_same, stA_2, if_pos rfl]
        rw [show (stA B 1 (upd G a (nI x - nI (x / 10) * 10 - 1))).1 0 = nI i from e1, nI_1]
      have hY : pv_Y2 M (stI (stA M 30 H) 31 (nI (i + 1))) := ⟨fun k hk => by rw [stI_1, if_neg hk]; rfl, fun k hk => by show (stA M 30 H).2 k = _; rw [stA_2, if_neg hk]⟩
      have r := ih (i + 1) (x / 10) (stI (stA B 1 (upd G a (nI x - nI (x / 10) * 10 - 1))) 0 (nI (i + 1))) (stI (stA M 30 H) 31 (nI (i + 1))) (by omega) (by omega) e7 rfl rfl (pv_put1_eq k3 g2 k1 e3) (pv_put1_srt k3 e4 k1 k4 k5) (pv_put1_all (pv_has (S.1 0)) k3 k1 e5 hh) f1 f2 (by omega) (by omega)
      have c7 : fx_it (lf_X1_read_10 N S) (f1 + 1) (nI x, nI i, B) = fx_it (lf_X1_read_10 N S) f1 (nI (x / 10), nI (i + 1), stI (stA B 1 (upd G a (nI x - nI (x / 10) * 10 - 1))) 0 (nI (i + 1))) := by
        show lf_X1_read_10 N S (nI x, nI i, B) _ = _
        rw [b7, if_pos hh, hin, b1e]
      have c8 : fx_it (lf_X8_layLoaves_9 N) (f2 + 1) (1, nI x, M) = fx_it (lf_X8_layLoaves_9 N) f2 (1, nI (x / 10), stI (stA M 30 H) 31 (nI (i + 1))) := g5 _
      rw [c7, c8]
      rcases r with ⟨B', M', r1, r2, r3, r4⟩ | ⟨B', M', r1, r2, r4⟩
      · exact Or.inl ⟨B', M', r1, r2, r3, hY.trans r4⟩
      · exact Or.inr ⟨B', M', r1, r2, hY.trans r4⟩
    · obtain ⟨a, H, g1, g2, g3, g4, g5⟩ := pv_lay8 N hN 1 (show i ≤ 5 by omega) e2 (by omega) hx6 0 (by rw [if_neg (by decide), pv_isSortE, pv_b_f (show ¬ pv_has (M.1 7) _ by rw [e7]; exact hh), b1e, if_pos rfl])
      obtain ⟨M', q1, q2⟩ := pv_layF N hN d (i + 1) (x / 10) (stI (stA M 30 H) 31 (nI (i + 1))) (by omega) (by omega) rfl f2 (by omega)
      refine Or.inr ⟨B, M', ?_, ?_, pv_Y2.trans (B := stI (stA M 30 H) 31 (nI (i + 1))) ⟨fun k hk => by rw [stI_1, if_neg hk]; rfl, fun k hk => by show (stA M 30 H).2 k = _; rw [stA_2, if_neg hk]⟩ q2⟩
      · show lf_X1_read_10 N S (nI x, nI i, B) _ = _
        rw [b7, if_neg hh]
      · exact (g5 _).trans q1
/-- the loaves of a number, both ways -/
theorem pv_read (N : Nat) (hN : 100 ≤ N) {S M : St} (B : St) (hR : pv_RS S M) {x : Nat} (hx : x ≤ 666666) : ∃ (v : Int32) (B' M' : St), f_X1_read N B S (nI x) = some (v, B') ∧ f_X8_layLoaves N M (nI x) = some (v, M') ∧ pv_Y2 M M' ∧ (v = 0 ∨ v = 1 ∧ pv_RL S B' M') := by
  have h := pv_layL N hN (S := S) 6 0 x (stI B 0 0) (stI M 31 0) (by omega) (by omega) hR.1 rfl rfl (fun j hj => absurd hj (Nat.not_lt_zero _)) (fun i j _ hj => absurd hj (Nat.not_lt_zero _)) (fun j hj => absurd hj (Nat.not_lt_zero _)) N N (by omega) (by omega)
  have y : pv_Y2 M (stI M 31 0) := ⟨fun k hk => by rw [stI_1, if_neg hk], fun _ _ => rfl⟩
  unfold f_X1_read f_X8_layLoaves
  rw [lte, lte, show ((nI x, (0 : Int32), stI B 0 0) : Int32 × Int32 × St) = (nI x, nI 0, stI B 0 0) from rfl]
  rcases h with ⟨B', M', r1, r2, r3, r4⟩ | ⟨B', M', r1, r2, r4⟩
  · rw [r1, r2]
    exact ⟨1, B', M', rfl, rfl, y.trans r4, Or.inr ⟨rfl, r3⟩⟩
  · rw [r1, r2]
    exact ⟨0, B', M', rfl, rfl, y.trans r4, Or.inl rfl⟩
