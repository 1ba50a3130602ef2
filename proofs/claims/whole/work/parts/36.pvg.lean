/-! a text's parts, both ways -/
def pv_du (s : Nat → Int32) : Nat → Bool
  | 0 => false
  | i + 1 => !pv_du s i && !pv_tm (s i)
def pv_kn (s : Nat → Int32) : Nat → Nat
  | 0 => 0
  | i + 1 => pv_kn s i + (if pv_du s (i + 1) = true then 0 else 1)
theorem pv_kn1 (s : Nat → Int32) (i : Nat) : pv_kn s (i + 1) = pv_kn s i + (if pv_du s (i + 1) = true then 0 else 1) := rfl
theorem pv_du1 (s : Nat → Int32) (i : Nat) : pv_du s (i + 1) = (!pv_du s i && !pv_tm (s i)) := rfl
theorem pv_kn_le (s : Nat → Int32) : ∀ i, pv_kn s i ≤ i
  | 0 => Nat.le_refl _
  | i + 1 => by
    have := pv_kn_le s i
    rw [pv_kn1]
    by_cases h : pv_du s (i + 1) = true
    · rw [if_pos h]; omega
    · rw [if_neg h]; omega
theorem pv_kn_mono (s : Nat → Int32) (i : Nat) : ∀ d, pv_kn s i ≤ pv_kn s (i + d)
  | 0 => Nat.le_refl _
  | d + 1 => by
    have h := pv_kn_mono s i d
    have := pv_kn1 s (i + d)
    show pv_kn s i ≤ pv_kn s (i + d + 1)
    rw [this]; omega
theorem pv_kn_lt {s : Nat → Int32} {j i : Nat} (h : j < i) (hd : pv_du s (j + 1) = false) : pv_kn s j < pv_kn s i := by
  have h1 := pv_kn1 s j
  rw [hd, if_neg (by decide)] at h1
  have h2 := pv_kn_mono s (j + 1) (i - (j + 1))
  rw [show j + 1 + (i - (j + 1)) = i by omega] at h2
  omega
def pv_ok (s : Nat → Int32) (rows : Nat) (i : Nat) : Prop := if pv_du s i = true then (s i = 45 ∨ (97 ≤ (s i).toInt ∧ (s i).toInt ≤ 102)) else (pv_tm (s i) = true ∨ (48 ≤ (s i).toInt ∧ (s i).toInt ≤ 47 + rows))
theorem pv_okT {s : Nat → Int32} {rows i : Nat} (h : pv_du s i = true) : pv_ok s rows i ↔ (s i = 45 ∨ (97 ≤ (s i).toInt ∧ (s i).toInt ≤ 102)) := by unfold pv_ok; rw [if_pos h]
theorem pv_okF {s : Nat → Int32} {rows i : Nat} (h : pv_du s i = false) : pv_ok s rows i ↔ (pv_tm (s i) = true ∨ (48 ≤ (s i).toInt ∧ (s i).toInt ≤ 47 + rows)) := by unfold pv_ok; rw [if_neg (by rw [h]; decide)]
/-- what the reference has noted of the first signs -/
def pv_prs (s : Nat → Int32) (i : Nat) (M : St) : Prop := M.1 22 = nI (pv_kn s i) ∧ (∀ j, j < i → pv_du s (j + 1) = false → M.2 20 (pv_kn s j) = pv_code (s j) ∧ (pv_du s j = true → M.2 21 (pv_kn s j) = s (j - 1) - 48)) ∧ (pv_du s i = true → M.2 21 (pv_kn s i) = s (i - 1) - 48)
/-- only the parts' notes have changed -/
def pv_Y (M M' : St) : Prop := (∀ k, k ≠ 22 → M'.1 k = M.1 k) ∧ ∀ k, k ≠ 20 → k ≠ 21 → M'.2 k = M.2 k
theorem pv_Y.rf (M : St) : pv_Y M M := ⟨fun _ _ => rfl, fun _ _ _ => rfl⟩
theorem pv_Y.trans {A B C : St} (h : pv_Y A B) (h' : pv_Y B C) : pv_Y A C := ⟨fun k a => (h'.1 k a).trans (h.1 k a), fun k a b => (h'.2 k a b).trans (h.2 k a b)⟩
theorem pv_Y.X {A B : St} (h : pv_Y A B) : pv_X A B := ⟨fun k hk => ⟨h.1 k (by omega), h.2 k (by omega) (by omega)⟩, h.2 42 (by omega) (by omega), h.2 43 (by omega) (by omega)⟩
def pv_di (b : Bool) : Int32 := if b = true then 1 else 0
theorem pv_isTime (N : Nat) (x : Int32) : f_X8_isTime N x = some (pv_di (pv_tm x)) := by
  unfold f_X8_isTime pv_tm
  by_cases h : x = 46
  · rw [if_pos h, decide_eq_true (Or.inl h)]; rfl
  · rw [if_neg h]
    by_cases h2 : x = 58
    · rw [if_pos h2, decide_eq_true (Or.inr h2)]; rfl
    · rw [if_neg h2, decide_eq_false (fun z => z.elim h h2)]; rfl
/-- one sign: the class -/
theorem pv_sign7 (N : Nat) {P : St} {n rows i : Nat} (hrw : 1 ≤ rows) (hrw4 : rows ≤ 4) (hn : P.1 0 = nI n) (hn6 : n ≤ 60) (hi : i < n) (rec : Int32 × Int32 → Option (Nat × Int32 × Int32)) : (pv_ok (P.2 1) rows i ∧ lf_X4_firstFault_4 N (nI rows) P (pv_di (pv_du (P.2 1) i), nI i) rec = rec (pv_di (pv_du (P.2 1) (i + 1)), nI (i + 1))) ∨ (¬ pv_ok (P.2 1) rows i ∧ ∃ t, t < 2 ∧ lf_X4_firstFault_4 N (nI rows) P (pv_di (pv_du (P.2 1) i), nI i) rec = some (t, 0, nI i)) := by
  unfold lf_X4_firstFault_4 bd_X4_firstFault_4
  dsimp only
  rw [hn, if_neg (fun z => by have := (pv_le (by omega) (by omega)).mp z; omega), pv_aldn (by omega) (by omega), pv_du1, nI_1]
  cases hd : pv_du (P.2 1) i with
  | true =>
    rw [pv_okT hd]
    generalize P.2 1 i = x
    rw [show pv_di true = 1 from rfl, if_neg (by decide)]
    by_cases h1 : x = 45
    · rw [if_pos h1, lte]
      exact Or.inl ⟨Or.inl h1, rfl⟩
    · rw [if_neg h1, pv_within, b1e, pv_if, lte]
      by_cases h2 : (97 : Int32).toInt ≤ x.toInt ∧ x.toInt ≤ (102 : Int32).toInt
      · rw [if_pos h2]
        exact Or.inl ⟨Or.inr h2, rfl⟩
      · rw [if_neg h2]
        exact Or.inr ⟨fun z => z.elim h1 h2, 0, by omega, rfl⟩
  | false =>
    rw [pv_okF hd]
    generalize P.2 1 i = x
    have e : ((48 : Int32) + nI rows - 1).toInt = 47 + rows := by
      rw [show (48 : Int32) = nI 48 from rfl, nI_add, pv_tw _ (by omega), pv_nI _ (by omega)]; omega
    rw [show pv_di false = 0 from rfl, if_pos rfl, pv_within, b1e, pv_if, e]
    by_cases h1 : (48 : Int32).toInt ≤ x.toInt ∧ x.toInt ≤ 47 + rows
    · rw [if_pos h1, lte]
      have ht : pv_tm x = false := by
        unfold pv_tm
        refine decide_eq_false (fun z => ?_)
        have h48 : (48 : Int32).toInt = 48 := rfl
        rcases z with rfl | rfl
        · have : (46 : Int32).toInt = 46 := rfl
          omega
        · have : (58 : Int32).toInt = 58 := rfl
          omega
      rw [ht]
      exact Or.inl ⟨Or.inr h1, rfl⟩
    · rw [if_neg h1]
      by_cases h2 : x = 46
      · rw [if_pos h2, lte, h2]
        exact Or.inl ⟨Or.inl rfl, rfl⟩
      · rw [if_neg h2]
        by_cases h3 : x = 58
        · rw [if_pos h3, lte, h3]
          exact Or.inl ⟨Or.inl rfl, rfl⟩
        · rw [if_neg h3]
          exact Or.inr ⟨fun z => z.elim (fun q => (of_decide_eq_true q).elim h2 h3) h1, 1, by omega, rfl⟩
/-- one sign: the reference -/
theorem pv_sign8 (N : Nat) {M : St} {s : Nat → Int32} {n rows i : Nat} (hs : pv_RA 60 (M.2 18) s) (hrw : 1 ≤ rows) (hrw4 : rows ≤ 4) (e0 : M.1 0 = nI rows) (hn : M.1 19 = nI n) (hn6 : n ≤ 60) (hi : i < n) (hp : pv_prs s i M) (rec : Int32 × Int32 × St → Option (Nat × Int32 × Int32 × St)) : (pv_ok s rows i → ∃ M', pv_Y M M' ∧ pv_prs s (i + 1) M' ∧ lf_X8_fault_9 N (pv_di (pv_du s i), nI i, M) rec = rec (pv_di (pv_du s (i + 1)), nI (i + 1), M')) ∧ (¬ pv_ok s rows i → lf_X8_fault_9 N (pv_di (pv_du s i), nI i, M) rec = some (0, 0, nI i, M)) := by
  obtain ⟨p22, pj, pd⟩ := hp
  have hkn := pv_kn_le s i
  have d1 := pv_du1 s i
  have k1 := pv_kn1 s i
  have hp20 : ∀ v : Int32, v = pv_code (s i) → pv_du s (i + 1) = false → pv_prs s (i + 1) (stI (stA M 20 (upd (M.2 20) (pv_kn s i) v)) 22 (nI (pv_kn s i + 1))) := by
    intro v hv hf
    rw [hf, if_neg (by decide)] at k1
    refine ⟨?_, ?_, fun z => absurd (hf ▸ z) (by decide)⟩
    · show nI (pv_kn s i + 1) = _
      rw [k1]
    · intro j hj hdj
      by_cases e : j = i
      · subst e
        exact ⟨(show upd (M.2 20) (pv_kn s j) v (pv_kn s j) = _ from pv_uself.trans hv), pd⟩
      · have hlt := pv_kn_lt (show j < i by omega) hdj
        obtain ⟨a, b⟩ := pj j (by omega) hdj
        exact ⟨(show upd (M.2 20) (pv_kn s i) v (pv_kn s j) = _ from (pv_une (by omega)).trans a), b⟩
  have yp : ∀ v : Int32, pv_Y M (stI (stA M 20 (upd (M.2 20) (pv_kn s i) v)) 22 (nI (pv_kn s i + 1))) := fun v => ⟨fun k hk => by rw [stI_1, if_neg hk]; rfl, fun k a b => by show (stA M 20 _).2 k = _; rw [stA_2, if_neg a]⟩
  unfold lf_X8_fault_9 bd_X8_fault_9
  dsimp only
  rw [hn, if_neg (fun z => by have := (pv_le (by omega) (by omega)).mp z; omega), pv_aldn (by omega) (by omega), hs i (by omega), nI_1, p22]
  cases hd : pv_du s i with
  | true =>
    rw [hd] at d1
    rw [pv_okT hd, show pv_di true = 1 from rfl, if_neg (by decide), pv_isNumber, b1e]
    have hf : pv_du s (i + 1) = false := d1
    have eok : (if s i = 45 then some (1 : Int32) else (if pv_b (0 ≤ (s i - 97).toInt ∧ (s i - 97).toInt ≤ 5) = 0 then some (0 : Int32) else some (1 : Int32))) = some (pv_b (s i = 45 ∨ (97 ≤ (s i).toInt ∧ (s i).toInt ≤ 102))) := by
      by_cases h1 : s i = 45
      · rw [if_pos h1, pv_b_t (Or.inl h1)]
      · rw [if_neg h1, pv_if]
        have h97 : (97 : Int32).toInt = 97 := rfl
        have hr := pv_rng (s i)
        have e : (0 ≤ (s i - 97).toInt ∧ (s i - 97).toInt ≤ 5) ↔ (97 ≤ (s i).toInt ∧ (s i).toInt ≤ 102) := by
          by_cases hb : -2147483648 ≤ (s i).toInt - 97
          · rw [pv_sub (by omega) (by omega), h97]; omega
          · have h3 : (s i - 97).toInt = (s i).toInt - 97 + 4294967296 := by
              rw [Int32.toInt_sub, h97, Int.bmod_def]
              omega
            omega
        by_cases h2 : 97 ≤ (s i).toInt ∧ (s i).toInt ≤ 102
        · rw [if_pos (e.mpr h2), pv_b_t (Or.inr h2)]
        · rw [if_neg (fun z => h2 (e.mp z)), pv_b_f (fun z => z.elim h1 h2)]
    rw [eok, b1e, pv_if]
    refine ⟨fun h => ?_, fun h => by rw [if_neg h]⟩
    rw [if_pos h]
    have ev : (if s i = (45 : Int32) then some (6 : Int32) else some (s i - 97)) = some (pv_code (s i)) := by
      unfold pv_code
      rcases h with h | h
      · rw [if_pos h, h]; rfl
      · have n46 : ¬ s i = 46 := fun z => by rw [z] at h; exact absurd h.1 (by decide)
        have n58 : ¬ s i = 58 := fun z => by rw [z] at h; exact absurd h.1 (by decide)
        have n45 : ¬ s i = 45 := fun z => by rw [z] at h; exact absurd h.1 (by decide)
        rw [if_neg n46, if_neg n58, if_neg n45, if_neg n45]
    rw [if_neg (by decide), ev, b1e, pv_astn (by omega) (by omega), lte, b1e, if_neg (by decide), lte, hf]
    refine ⟨_, yp _, hp20 _ rfl hf, ?_⟩
    rw [show (stA M 20 (upd (M.2 20) (pv_kn s i) (pv_code (s i)))).1 22 = nI (pv_kn s i) from p22, nI_1]
    rfl
  | false =>
    rw [hd] at d1
    have h48 : (48 : Int32).toInt = 48 := rfl
    have h46 : (46 : Int32).toInt = 46 := rfl
    have h58 : (58 : Int32).toInt = 58 := rfl
    rw [pv_okF hd, show pv_di false = 0 from rfl, if_pos rfl, pv_isTime, b1e]
    cases ht : pv_tm (s i) with
    | true =>
      rw [ht] at d1
      have hf : pv_du s (i + 1) = false := d1
      rw [show pv_di true = 1 from rfl, if_neg (by decide), b1e, if_neg (by decide), if_pos rfl, b1e, if_neg (by decide)]
      refine ⟨fun _ => ?_, fun h => absurd (Or.inl rfl) h⟩
      have ev : (if s i = (46 : Int32) then some (7 : Int32) else some (8 : Int32)) = some (pv_code (s i)) := by
        unfold pv_code
        rcases of_decide_eq_true ht with h | h
        · rw [if_pos h, h]; rfl
        · rw [h]; rfl
      rw [ev, b1e, pv_astn (by omega) (by omega), lte, b1e, if_pos rfl, b1e, if_neg (by decide), lte, hf]
      refine ⟨_, yp _, hp20 _ rfl hf, ?_⟩
      rw [show (stA M 20 (upd (M.2 20) (pv_kn s i) (pv_code (s i)))).1 22 = nI (pv_kn s i) from p22, nI_1]
      rfl
    | false =>
      rw [ht] at d1
      have hf : pv_du s (i + 1) = true := d1
      rw [hf, if_pos rfl] at k1
      rw [show pv_di false = 0 from rfl, if_pos rfl, pv_in, b1e, pv_if]
      have eok : (if (48 : Int64).toInt ≤ (s i).toInt ∧ (s i).toInt ≤ (51 : Int64).toInt then fx_b1 (f_X8_isRow N M (s i - 48)) (fun v128 => if v128 = 0 then some (0 : Int32) else some (1 : Int32)) else some (0 : Int32)) = some (pv_b (48 ≤ (s i).toInt ∧ (s i).toInt ≤ 47 + rows)) := by
        have e48 : (48 : Int64).toInt = 48 := rfl
        have e51 : (51 : Int64).toInt = 51 := rfl
        rw [e48, e51]
        by_cases h1 : 48 ≤ (s i).toInt ∧ (s i).toInt ≤ 51
        · rw [if_pos h1, pv_isRow N (by rw [e0, pv_nI _ (by omega)]; omega), b1e, pv_if, pv_sub (by omega) (by omega), h48, e0, pv_nI _ (by omega)]
          by_cases h2 : (s i).toInt ≤ 47 + rows
          · rw [if_pos (by omega), pv_b_t (by omega)]
          · rw [if_neg (by omega), pv_b_f (by omega)]
        · rw [if_neg h1, pv_b_f (by omega)]
      rw [eok, b1e, pv_if]
      refine ⟨fun h => ?_, fun h => by rw [if_neg (fun z => h (Or.inr z))]⟩
      rw [if_pos (h.elim (fun z => absurd z (by decide)) id), if_pos rfl, b1e, if_pos rfl, pv_astn (by omega) (by omega), b1e, if_pos rfl, b1e, if_pos rfl, lte, hf]
      refine ⟨stA M 21 (upd (M.2 21) (pv_kn s i) (s i - 48)), ⟨fun k hk => rfl, fun k a b => by rw [stA_2, if_neg b]⟩, ⟨?_, ?_, fun _ => ?_⟩, rfl⟩
      · show M.1 22 = _
        rw [p22, k1, Nat.add_zero]
      · intro j hj hdj
        have hne : j ≠ i := fun z => by rw [z, hf] at hdj; exact absurd hdj (by decide)
        have hlt := pv_kn_lt (show j < i by omega) hdj
        obtain ⟨a, b⟩ := pj j (by omega) hdj
        exact ⟨a, fun q => (show upd (M.2 21) (pv_kn s i) _ (pv_kn s j) = _ from (pv_une (by omega)).trans (b q))⟩
      · show upd (M.2 21) (pv_kn s i) _ (pv_kn s (i + 1)) = _
        rw [k1, Nat.add_zero, pv_uself]
        rfl
/-- the whole text, both ways -/
theorem pv_parse (N : Nat) {P : St} {n rows : Nat} (hrw : 1 ≤ rows) (hrw4 : rows ≤ 4) (hn : P.1 0 = nI n) (hn6 : n ≤ 60) : ∀ (d i : Nat), i + d = n → ∀ M : St, pv_RA 60 (M.2 18) (P.2 1) → M.1 0 = nI rows → M.1 19 = nI n → pv_prs (P.2 1) i M → (∀ j, j < i → pv_ok (P.2 1) rows j) → ∀ n1 n2 : Nat, d < n1 → d < n2 → ∃ (r : Int32) (M' : St), fx_b3 (fx_it (lf_X4_firstFault_4 N (nI rows) P) n1 (pv_di (pv_du (P.2 1) i), nI i)) (fun t101 x102 x103 => fx_t3 t101 (some x103) (some x103) ((if x102 = 0 then some (-6 : Int32) else some (P.1 0)))) = some r ∧ fx_b4 (fx_it (lf_X8_fault_9 N) n2 (pv_di (pv_du (P.2 1) i), nI i, M)) (fun t102 x103 x104 S105 => fx_t2 t102 (some (x104, S105)) ((if x103 = 0 then some ((-6 : Int32), S105) else some ((S105.1 19), S105)))) = some (r, M') ∧ pv_Y M M' ∧ (r = -6 ∧ pv_prs (P.2 1) n M' ∧ (∀ j, j < n → pv_ok (P.2 1) rows j) ∧ pv_du (P.2 1) n = false ∨ 0 ≤ r.toInt) := by
  intro d
  induction d with
  | zero =>
    intro i hi M hs e0 e19 hp hok n1 n2 h1 h2
    obtain ⟨n1, rfl⟩ : ∃ q, n1 = q + 1 := ⟨n1 - 1, by omega⟩
    obtain ⟨n2, rfl⟩ : ∃ q, n2 = q + 1 := ⟨n2 - 1, by omega⟩
    have hin : i = n := by omega
    subst hin
    have e7 : fx_it (lf_X4_firstFault_4 N (nI rows) P) (n1 + 1) (pv_di (pv_du (P.2 1) i), nI i) = some (2, pv_di (pv_du (P.2 1) i), 0) := by
      show lf_X4_firstFault_4 N (nI rows) P (pv_di (pv_du (P.2 1) i), nI i) _ = _
      unfold lf_X4_firstFault_4 bd_X4_firstFault_4
      dsimp only
      rw [hn, if_pos (Int32.le_refl _)]
    have e8 : fx_it (lf_X8_fault_9 N) (n2 + 1) (pv_di (pv_du (P.2 1) i), nI i, M) = some (1, pv_di (pv_du (P.2 1) i), 0, M) := by
      show lf_X8_fault_9 N (pv_di (pv_du (P.2 1) i), nI i, M) _ = _
      unfold lf_X8_fault_9 bd_X8_fault_9
      dsimp only
      rw [e19, if_pos (Int32.le_refl _)]
    rw [e7, e8, b3e, b4e]
    cases hd : pv_du (P.2 1) i with
    | true =>
      refine ⟨nI i, M, ?_, ?_, pv_Y.rf M, Or.inr (by rw [pv_nI _ (by omega)]; omega)⟩
      · show (if pv_di true = 0 then some (-6 : Int32) else some (P.1 0)) = _
        rw [hn]; rfl
      · show (if pv_di true = 0 then some ((-6 : Int32), M) else some (M.1 19, M)) = _
        rw [e19]; rfl
    | false => exact ⟨-6, M, rfl, rfl, pv_Y.rf M, Or.inl ⟨rfl, hp, hok, rfl⟩⟩
  | succ d ih =>
    intro i hi M hs e0 e19 hp hok n1 n2 h1 h2
    obtain ⟨n1, rfl⟩ : ∃ q, n1 = q + 1 := ⟨n1 - 1, by omega⟩
    obtain ⟨n2, rfl⟩ : ∃ q, n2 = q + 1 := ⟨n2 - 1, by omega⟩
    obtain ⟨s1, s2⟩ := pv_sign8 N hs hrw hrw4 e0 e19 hn6 (show i < n by omega) hp (fx_it (lf_X8_fault_9 N) n2)
    rcases pv_sign7 N hrw hrw4 hn hn6 (show i < n by omega) (fx_it (lf_X4_firstFault_4 N (nI rows) P) n1) with ⟨ho, q⟩ | ⟨ho, t, ht, q⟩
    · obtain ⟨M1, y, hp1, q1⟩ := s1 ho
      rw [show fx_it (lf_X4_firstFault_4 N (nI rows) P) (n1 + 1) (pv_di (pv_du (P.2 1) i), nI i) = _ from q, show fx_it (lf_X8_fault_9 N) (n2 + 1) (pv_di (pv_du (P.2 1) i), nI i, M) = _ from q1]
      obtain ⟨r, M', w1, w2, w3, w4⟩ := ih (i + 1) (by omega) M1 (by rw [y.2 18 (by omega) (by omega)]; exact hs) ((y.1 0 (by omega)).trans e0) ((y.1 19 (by omega)).trans e19) hp1 (fun j hj => by
        by_cases e : j = i
        · rw [e]; exact ho
        · exact hok j (by omega)) n1 n2 (by omega) (by omega)
      exact ⟨r, M', w1, w2, y.trans w3, w4⟩
    · rw [show fx_it (lf_X4_firstFault_4 N (nI rows) P) (n1 + 1) (pv_di (pv_du (P.2 1) i), nI i) = _ from q, show fx_it (lf_X8_fault_9 N) (n2 + 1) (pv_di (pv_du (P.2 1) i), nI i, M) = _ from s2 ho, b3e, b4e]
      refine ⟨nI i, M, ?_, rfl, pv_Y.rf M, Or.inr (by rw [pv_nI _ (by omega)]; omega)⟩
      rcases (show t = 0 ∨ t = 1 by omega) with rfl | rfl <;> rfl
theorem pv_fault (N : Nat) (hN : 100 ≤ N) {O S T P M : St} (hI : pv_I O S T P) (hR : pv_R O S T P M) : ∃ (r : Int32) (M' : St) (n rows : Nat), f_X4_firstFault N P (O.1 0) = some r ∧ f_X8_fault N M = some (r, M') ∧ pv_Y M M' ∧ P.1 0 = nI n ∧ n ≤ 60 ∧ O.1 0 = nI rows ∧ 1 ≤ rows ∧ rows ≤ 4 ∧ (r = -6 ∧ pv_prs (P.2 1) n M' ∧ (∀ j, j < n → pv_ok (P.2 1) rows j) ∧ pv_du (P.2 1) n = false ∨ 0 ≤ r.toInt) := by
  obtain ⟨⟨i0, _⟩, _, _, hP⟩ := hI
  obtain ⟨⟨r0, _⟩, _, _, r19, r18⟩ := hR
  obtain ⟨rows, er, hr⟩ := pv_num (b := 4) ⟨by omega, i0.2⟩
  obtain ⟨n, en, hn⟩ := pv_num hP
  have hr1 : 1 ≤ rows := by have := i0.1; rw [er, pv_nI _ (by omega)] at this; omega
  obtain ⟨r, M', w1, w2, w3, w4⟩ := pv_parse N (P := P) (n := n) hr1 (by omega) en (by omega) n 0 (by omega) (stI M 22 0) r18 (r0.trans er) (r19.trans en) ⟨rfl, fun j hj => absurd hj (Nat.not_lt_zero _), fun z => absurd (show false = true from z) (by decide)⟩ (fun j hj => absurd hj (Nat.not_lt_zero _)) N N (by omega) (by omega)
  refine ⟨r, M', n, rows, ?_, ?_, ?_, en, by omega, er, hr1, by omega, w4⟩
  · unfold f_X4_firstFault
    rw [er]
    exact w1
  · unfold f_X8_fault
    rw [lte]
    exact w2
  · exact pv_Y.trans (B := stI M 22 0) ⟨fun k hk => by rw [stI_1, if_neg hk], fun k _ _ => rfl⟩ w3
theorem op_fault (N : Nat) (hN : 2000 ≤ N) {O S T P M : St} (D E B : St) (hI : pv_I O S T P) (hR : pv_R O S T P M) : ∃ (r : Int32) (M' : St), f_X7_fault N O S T P D E B = some r ∧ f_X8_fault N M = some (r, M') ∧ pv_X M M' := by
  obtain ⟨r, M', n, rows, w1, w2, w3, _⟩ := pv_fault N (by omega) hI hR
  refine ⟨r, M', ?_, w2, w3.X⟩
  unfold f_X7_fault
  rw [w1]; rfl
