/-! images: what the reference writes and reads -/
def pv_sc (x : Nat) : Nat := if x = 6 then 7 else if x = 7 then 17 else x
def pv_sl (x : Nat) : Nat := if x < 44 then (if (x - 8) % 6 = 0 then 6 else if (x - 8) % 6 = 1 then 8 else if (x - 8) % 6 = 2 then 9 else if (x - 8) % 6 = 3 then 10 else if (x - 8) % 6 = 4 then 11 else 16) else if x < 52 then (if (x - 44) % 2 = 0 then 12 else 15) else (if (x - 52) % 2 = 0 then 13 else 14)
def pv_jx (x : Nat) : Nat := if x < 44 then (x - 8) / 6 else if x < 52 then (x - 44) / 2 else (x - 52) / 2
theorem pv_sl_inj : ∀ e, e < 100 → ∀ x, x < e → 8 ≤ x → pv_sl x = pv_sl e → pv_jx x ≠ pv_jx e := by decide +kernel
theorem pv_sl_b : ∀ e, e < 100 → 6 ≤ pv_sl e ∧ pv_sl e < 18 := by decide +kernel
theorem pv_sc_inj : ∀ e, e < 8 → ∀ x, x < e → pv_sc x ≠ pv_sc e := by decide +kernel
theorem pv_sc_b : ∀ e, e < 8 → pv_sc e < 18 := by decide +kernel
theorem pv_upds (f : Nat → Int32) (k : Nat) : upd f k (f k) = f := by
  funext j
  unfold upd
  by_cases h : j = k
  · rw [if_pos h, h]
  · rw [if_neg h]
def pv_Inv (w : Int32) (S0 : St) (b e : Nat) (S : St) : Prop := S.1 45 = w ∧ S.1 44 = nI (b + e) ∧ (∀ x, x < e → x < 8 → S.2 42 (b + x) = S.1 (pv_sc x)) ∧ (∀ x, x < e → 8 ≤ x → S.2 42 (b + x) = S.2 (pv_sl x) (pv_jx x)) ∧ (w = 0 → ∀ x, S.2 42 x = S0.2 42 x) ∧ (w = 1 → (∀ k, k ≠ 44 → S.1 k = S0.1 k) ∧ ∀ k, k ≠ 42 → S.2 k = S0.2 k) ∧ (∀ x, x < b ∨ b + 100 ≤ x → S.2 42 x = S0.2 42 x) ∧ (∀ k, 18 ≤ k → k ≠ 44 → S.1 k = S0.1 k) ∧ ∀ k, 18 ≤ k → k ≠ 42 → S.2 k = S0.2 k
theorem pv_pass (N : Nat) {S : St} {i : Nat} (x : Int32) (hi : i < 240) (e44 : S.1 44 = nI i) : f_X8_pass N S x = some (if S.1 45 = 0 then S.2 42 i else x, stI (stA S 42 (upd (S.2 42) i (if S.1 45 = 0 then S.2 42 i else x))) 44 (nI (i + 1))) := by
  unfold f_X8_pass
  rw [e44]
  by_cases h : S.1 45 = 0
  · rw [if_pos h, if_pos h, pv_aldn hi (by omega), b1e, pv_astn hi (by omega), lte, show (stA S 42 (upd (S.2 42) i (S.2 42 i))).1 44 = nI i from e44, nI_1]
  · rw [if_neg h, if_neg h, b1e, pv_astn hi (by omega), lte, show (stA S 42 (upd (S.2 42) i x)).1 44 = nI i from e44, nI_1]
/-- one int passes -/
theorem pv_psI (N : Nat) {w : Int32} {S0 S : St} {b e : Nat} (hb : b ≤ 120) (he : e < 8) (h : pv_Inv w S0 b e S) {ρ : Type} : ∃ S2, pv_Inv w S0 b (e + 1) S2 ∧ ∀ k : St → Option ρ, fx_b2 (f_X8_pass N S (S.1 (pv_sc e))) (fun v S' => fx_lt (stI S' (pv_sc e) v) k) = k S2 := by
  obtain ⟨i1, i2, i3, i4, i5, i6, i7, i8, i9⟩ := h
  have hc := pv_sc_b e he
  generalize hv : (if S.1 45 = 0 then S.2 42 (b + e) else S.1 (pv_sc e)) = v
  refine ⟨stI (stI (stA S 42 (upd (S.2 42) (b + e) v)) 44 (nI (b + e + 1))) (pv_sc e) v, ⟨?_, ?_, fun x hx hx8 => ?_, fun x hx hx8 => by omega, fun hw x => ?_, fun hw => ⟨fun k hk => ?_, fun k hk => ?_⟩, fun x hx => ?_, fun k h1 h2 => ?_, fun k h1 h2 => ?_⟩, fun k => ?_⟩
  · rw [stI_1, if_neg (by omega), stI_1, if_neg (by omega)]; exact i1
  · rw [stI_1, if_neg (by omega), stI_1, if_pos rfl]; rfl
  · rw [stI_2, stI_2, stA_2, if_pos rfl, stI_1]
    by_cases q : x = e
    · subst q
      rw [pv_uself, if_pos rfl]
    · rw [pv_une (by omega), if_neg (pv_sc_inj e he x (by omega)), stI_1, if_neg (by have := pv_sc_b x (by omega); omega)]
      exact i3 x (by omega) hx8
  · rw [stI_2, stI_2, stA_2, if_pos rfl]
    have h0 : S.1 45 = 0 := i1.trans hw
    rw [if_pos h0] at hv
    rw [← hv, pv_upds]
    exact i5 hw x
  · have h0 : ¬ S.1 45 = 0 := by rw [i1, hw]; decide
    rw [if_neg h0] at hv
    rw [stI_1]
    by_cases q : k = pv_sc e
    · rw [if_pos q, ← hv, q]; exact (i6 hw).1 _ (by omega)
    · rw [if_neg q, stI_1, if_neg hk]; exact (i6 hw).1 k hk
  · rw [stI_2, stI_2, stA_2, if_neg hk]; exact (i6 hw).2 k hk
  · rw [stI_2, stI_2, stA_2, if_pos rfl, pv_une (by omega)]; exact i7 x hx
  · rw [stI_1, if_neg (by omega), stI_1, if_neg h2]; exact i8 k h1 h2
  · rw [stI_2, stI_2, stA_2, if_neg h2]; exact i9 k h1 h2
  · rw [pv_pass N _ (by omega) i2, b2e, lte, hv]
/-- one element passes -/
theorem pv_psA (N : Nat) {w : Int32} {S0 S : St} {b e n : Nat} (hb : b ≤ 120) (he8 : 8 ≤ e) (he : e < 100) (hn : pv_jx e < n) (hn2 : n < 1000) (h : pv_Inv w S0 b e S) {ρ : Type} : ∃ S2, pv_Inv w S0 b (e + 1) S2 ∧ ∀ k : St → Option ρ, fx_ald n (S.2 (pv_sl e)) (nI (pv_jx e)) (fun v0 => fx_b2 (f_X8_pass N S v0) (fun v S' => fx_ast n S' (pv_sl e) (nI (pv_jx e)) v k)) = k S2 := by
  obtain ⟨i1, i2, i3, i4, i5, i6, i7, i8, i9⟩ := h
  have hc := pv_sl_b e he
  generalize hv : (if S.1 45 = 0 then S.2 42 (b + e) else S.2 (pv_sl e) (pv_jx e)) = v
  refine ⟨stA (stI (stA S 42 (upd (S.2 42) (b + e) v)) 44 (nI (b + e + 1))) (pv_sl e) (upd (S.2 (pv_sl e)) (pv_jx e) v), ⟨?_, ?_, fun x hx hx8 => ?_, fun x hx hx8 => ?_, fun hw x => ?_, fun hw => ⟨fun k hk => ?_, fun k hk => ?_⟩, fun x hx => ?_, fun k h1 h2 => ?_, fun k h1 h2 => ?_⟩, fun k => ?_⟩
  · rw [stA_1, stI_1, if_neg (by omega)]; exact i1
  · rw [stA_1, stI_1, if_pos rfl]; rfl
  · rw [stA_2, if_neg (by omega), stI_2, stA_2, if_pos rfl, pv_une (by omega), stA_1, stI_1, if_neg (by have := pv_sc_b x hx8; omega)]
    exact i3 x (by omega) hx8
  · rw [stA_2, if_neg (by omega), stI_2, stA_2, if_pos rfl, stA_2]
    by_cases q : x = e
    · subst q
      rw [pv_uself, if_pos rfl, pv_uself]
    · rw [pv_une (by omega)]
      have hj := pv_sl_inj e he x (by omega) hx8
      by_cases y : pv_sl x = pv_sl e
      · rw [if_pos y, pv_une (hj y), ← y]; exact i4 x (by omega) hx8
      · rw [if_neg y, stI_2, stA_2, if_neg (by have := pv_sl_b x (by omega); omega)]; exact i4 x (by omega) hx8
  · rw [stA_2, if_neg (by omega), stI_2, stA_2, if_pos rfl]
    have h0 : S.1 45 = 0 := i1.trans hw
    rw [if_pos h0] at hv
    rw [← hv, pv_upds]
    exact i5 hw x
  · rw [stA_1, stI_1, if_neg hk]; exact (i6 hw).1 k hk
  · have h0 : ¬ S.1 45 = 0 := by rw [i1, hw]; decide
    rw [if_neg h0] at hv
    rw [stA_2]
    by_cases q : k = pv_sl e
    · rw [if_pos q, ← hv, pv_upds, ← q]; exact (i6 hw).2 k hk
    · rw [if_neg q, stI_2, stA_2, if_neg hk]; exact (i6 hw).2 k hk
  · rw [stA_2, if_neg (by omega), stI_2, stA_2, if_pos rfl, pv_une (by omega)]; exact i7 x hx
  · rw [stA_1, stI_1, if_neg h2]; exact i8 k h1 h2
  · rw [stA_2, if_neg (by omega), stI_2, stA_2, if_neg h2]; exact i9 k h1 h2
  · rw [pv_aldn hn (by omega), pv_pass N _ (by omega) i2, b2e, hv, pv_astn hn (by omega), stI_2, stA_2, if_neg (by omega)]
theorem pv_e6 : ∀ j, j < 6 → (pv_sl (8 + 6 * j) = 6 ∧ pv_jx (8 + 6 * j) = j) ∧ (pv_sl (8 + 6 * j + 1) = 8 ∧ pv_jx (8 + 6 * j + 1) = j) ∧ (pv_sl (8 + 6 * j + 1 + 1) = 9 ∧ pv_jx (8 + 6 * j + 1 + 1) = j) ∧ (pv_sl (8 + 6 * j + 1 + 1 + 1) = 10 ∧ pv_jx (8 + 6 * j + 1 + 1 + 1) = j) ∧ (pv_sl (8 + 6 * j + 1 + 1 + 1 + 1) = 11 ∧ pv_jx (8 + 6 * j + 1 + 1 + 1 + 1) = j) ∧ (pv_sl (8 + 6 * j + 1 + 1 + 1 + 1 + 1) = 16 ∧ pv_jx (8 + 6 * j + 1 + 1 + 1 + 1 + 1) = j) := by decide +kernel
theorem pv_e4 : ∀ j, j < 4 → (pv_sl (44 + 2 * j) = 12 ∧ pv_jx (44 + 2 * j) = j) ∧ (pv_sl (44 + 2 * j + 1) = 15 ∧ pv_jx (44 + 2 * j + 1) = j) := by decide +kernel
theorem pv_e24 : ∀ j, j < 24 → (pv_sl (52 + 2 * j) = 13 ∧ pv_jx (52 + 2 * j) = j) ∧ (pv_sl (52 + 2 * j + 1) = 14 ∧ pv_jx (52 + 2 * j + 1) = j) := by decide +kernel
theorem pv_psB (N : Nat) {w : Int32} {S0 S : St} {b e n c j : Nat} (hb : b ≤ 120) (he8 : 8 ≤ e) (he : e < 100) (hcj : pv_sl e = c ∧ pv_jx e = j) (hn : j < n) (hn2 : n < 1000) (h : pv_Inv w S0 b e S) {ρ : Type} : ∃ S2, pv_Inv w S0 b (e + 1) S2 ∧ ∀ k : St → Option ρ, fx_ald n (S.2 c) (nI j) (fun v0 => fx_b2 (f_X8_pass N S v0) (fun v S' => fx_ast n S' c (nI j) v k)) = k S2 := by
  obtain ⟨rfl, rfl⟩ := hcj
  exact pv_psA N hb he8 he hn hn2 h
theorem pv_passAll (N : Nat) (hN : 100 ≤ N) {w : Int32} {S : St} {b : Nat} (hb : b ≤ 120) (e45 : S.1 45 = w) (e44 : S.1 44 = nI b) : ∃ S', f_X8_passAll N S = some S' ∧ pv_Inv w S b 100 S' := by
  have h0 : pv_Inv w S b 0 S := ⟨e45, e44, fun x hx => absurd hx (Nat.not_lt_zero _), fun x hx => absurd hx (Nat.not_lt_zero _), fun _ _ => rfl, fun _ => ⟨fun _ _ => rfl, fun _ _ => rfl⟩, fun _ _ => rfl, fun _ _ _ => rfl, fun _ _ _ => rfl⟩
  obtain ⟨S1, h1, k1⟩ := pv_psI N hb (by omega) h0 (ρ := St)
  obtain ⟨S2, h2, k2⟩ := pv_psI N hb (by omega) h1 (ρ := St)
  obtain ⟨S3, h3, k3⟩ := pv_psI N hb (by omega) h2 (ρ := St)
  obtain ⟨S4, h4, k4⟩ := pv_psI N hb (by omega) h3 (ρ := St)
  obtain ⟨S5, h5, k5⟩ := pv_psI N hb (by omega) h4 (ρ := St)
  obtain ⟨S6, h6, k6⟩ := pv_psI N hb (by omega) h5 (ρ := St)
  obtain ⟨S7, h7, k7⟩ := pv_psI N hb (by omega) h6 (ρ := St)
  obtain ⟨S8, h8, k8⟩ := pv_psI N hb (by omega) h7 (ρ := St)
  obtain ⟨Sa, ha, ka⟩ := pv_cnt2 (b := lf_X8_passAll_98 N) 6 (fun j T => pv_Inv w S b (8 + 6 * j) T) (fun j T hj hI => by
    obtain ⟨q0, q1, q2, q3, q4, q5⟩ := pv_e6 j hj
    obtain ⟨T1, a1, c1⟩ := pv_psB N (n := 6) hb (by omega) (by omega) q0 hj (by omega) hI (ρ := St)
    obtain ⟨T2, a2, c2⟩ := pv_psB N (n := 6) hb (by omega) (by omega) q1 hj (by omega) a1 (ρ := St)
    obtain ⟨T3, a3, c3⟩ := pv_psB N (n := 6) hb (by omega) (by omega) q2 hj (by omega) a2 (ρ := St)
    obtain ⟨T4, a4, c4⟩ := pv_psB N (n := 6) hb (by omega) (by omega) q3 hj (by omega) a3 (ρ := St)
    obtain ⟨T5, a5, c5⟩ := pv_psB N (n := 6) hb (by omega) (by omega) q4 hj (by omega) a4 (ρ := St)
    obtain ⟨T6, a6, c6⟩ := pv_psB N (n := 6) hb (by omega) (by omega) q5 hj (by omega) a5 (ρ := St)
    refine ⟨T6, a6, fun rec => ?_⟩
    unfold lf_X8_passAll_98 bd_X8_passAll_98
    dsimp only
    rw [if_neg (pv_6le j hj), c1, c2, c3, c4, c5, c6, lte, nI_1]) (fun T hI rec => by
    unfold lf_X8_passAll_98 bd_X8_passAll_98
    dsimp only
    rw [if_pos (by decide)]) 6 0 S8 (by omega) h8 N (by omega)
  obtain ⟨Sb, hb4, kb⟩ := pv_cnt2 (b := lf_X8_passAll_208 N) 4 (fun j T => pv_Inv w S b (44 + 2 * j) T) (fun j T hj hI => by
    obtain ⟨q0, q1⟩ := pv_e4 j hj
    obtain ⟨T1, a1, c1⟩ := pv_psB N (n := 4) hb (by omega) (by omega) q0 hj (by omega) hI (ρ := St)
    obtain ⟨T2, a2, c2⟩ := pv_psB N (n := 4) hb (by omega) (by omega) q1 hj (by omega) a1 (ρ := St)
    refine ⟨T2, a2, fun rec => ?_⟩
    unfold lf_X8_passAll_208 bd_X8_passAll_208
    dsimp only
    rw [if_neg (pv_4le j hj), c1, c2, lte, nI_1]) (fun T hI rec => by
    unfold lf_X8_passAll_208 bd_X8_passAll_208
    dsimp only
    rw [if_pos (by decide)]) 4 0 Sa (by omega) ha N (by omega)
  obtain ⟨Sc, hc4, kc⟩ := pv_cnt2 (b := lf_X8_passAll_253 N) 24 (fun j T => pv_Inv w S b (52 + 2 * j) T) (fun j T hj hI => by
    obtain ⟨q0, q1⟩ := pv_e24 j hj
    obtain ⟨T1, a1, c1⟩ := pv_psB N (n := 24) hb (by omega) (by omega) q0 hj (by omega) hI (ρ := St)
    obtain ⟨T2, a2, c2⟩ := pv_psB N (n := 24) hb (by omega) (by omega) q1 hj (by omega) a1 (ρ := St)
    refine ⟨T2, a2, fun rec => ?_⟩
    unfold lf_X8_passAll_253 bd_X8_passAll_253
    dsimp only
    rw [if_neg (show ¬ (24 : Int32) ≤ nI j from fun z => by have := (pv_le (a := 24) (by omega) (by omega)).mp z; omega), c1, c2, lte, nI_1]) (fun T hI rec => by
    unfold lf_X8_passAll_253 bd_X8_passAll_253
    dsimp only
    rw [if_pos (by decide)]) 24 0 Sb (by omega) hb4 N (by omega)
  refine ⟨Sc, ?_, hc4⟩
  unfold f_X8_passAll
  have r1 := k1
  have r2 := k2
  have r3 := k3
  have r4 := k4
  have r5 := k5
  have r6 := k6
  have r7 := k7
  have r8 := k8
  simp only [show pv_sc 0 = 0 from rfl, show pv_sc (0 + 1) = 1 from rfl, show pv_sc (0 + 1 + 1) = 2 from rfl, show pv_sc (0 + 1 + 1 + 1) = 3 from rfl, show pv_sc (0 + 1 + 1 + 1 + 1) = 4 from rfl, show pv_sc (0 + 1 + 1 + 1 + 1 + 1) = 5 from rfl, show pv_sc (0 + 1 + 1 + 1 + 1 + 1 + 1) = 7 from rfl, show pv_sc (0 + 1 + 1 + 1 + 1 + 1 + 1 + 1) = 17 from rfl] at r1 r2 r3 r4 r5 r6 r7 r8
  rw [r1, r2, r3, r4, r5, r6, r7, r8, show ((0 : Int32), S8) = (nI 0, S8) from rfl, ka, b1e, show ((0 : Int32), Sa) = (nI 0, Sa) from rfl, kb, b1e, show ((0 : Int32), Sb) = (nI 0, Sb) from rfl, kc, b1e]
