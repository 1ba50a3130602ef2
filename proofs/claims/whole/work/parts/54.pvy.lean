/-! TWO ROWS: the best of all pairs -/
/-- class: most, row 0, row 1 in slots 11, 12, 13; the reference: in its loop's numbers -/
def pv_Rl (k : Nat) (B : St) (s : Int32 × Int32 × Int32 × Int32) : Prop := s.1 = B.1 11 ∧ ((k = 0 ∧ s.1 = -6) ∨ (0 ≤ s.1.toInt ∧ s.2.1 = B.1 12 ∧ s.2.2.1 = B.1 13)) ∧ s.2.2.2 = nI k
def pv_YK (B B' : St) : Prop := ∀ k, B'.2 k = B.2 k
theorem pv_keep (N : Nat) {B : St} {k wt : Nat} {p0 p1 p2 l0 l1 : Int32} (h : pv_Rl k B (p0, p1, p2, nI k)) (hw : wt ≤ 99999) : ∃ B' q0 q1 q2, f_X1_keepBetter N B (nI wt) l0 l1 = some B' ∧ pv_YK B B' ∧ pv_Rl (k + 1) B' (q0, q1, q2, nI (k + 1)) ∧ (∀ rec : Int32 × Int32 × Int32 × Int32 → Option (Int32 × Int32 × Int32), fx_b1 ((if nI wt = p0 then (some (1 : Int32)) else (some (0 : Int32))) : Option (Int32)) (fun v109 => fx_b1 ((if l0 < p1 then (some (1 : Int32)) else (if l0 = p1 then (if p2 ≤ l1 then (some (0 : Int32)) else (some (1 : Int32))) else (some (0 : Int32)))) : Option (Int32)) (fun v112 => (if p0 < nI wt then rec (nI wt, l0, l1, nI (k + 1)) else (if v109 = 0 then rec (p0, p1, p2, nI (k + 1)) else (if v112 = 0 then rec (p0, p1, p2, nI (k + 1)) else rec (nI wt, l0, l1, nI (k + 1))))))) = rec (q0, q1, q2, nI (k + 1))) := by
  obtain ⟨e0, h1, -⟩ := h
  dsimp only at e0 h1
  have hwt : (nI wt).toInt = wt := pv_nI wt (by omega)
  have upd1 : ∀ B1 : St, B1 = stI (stI (stI B 11 (nI wt)) 12 l0) 13 l1 → pv_YK B B1 ∧ pv_Rl (k + 1) B1 (nI wt, l0, l1, nI (k + 1)) := by
    intro B1 e
    subst e
    exact ⟨fun _ => rfl, rfl, Or.inr ⟨by show 0 ≤ (nI wt).toInt; omega, rfl, rfl⟩, rfl⟩
  unfold f_X1_keepBetter
  rw [← e0]
  by_cases c1 : p0 < nI wt
  · refine ⟨_, nI wt, l0, l1, ?_, (upd1 _ rfl).1, (upd1 _ rfl).2, fun rec => ?_⟩
    · simp only [if_pos c1, lte]
      by_cases d1 : nI wt = p0
      · rw [if_pos d1, b1e]
        by_cases d2 : l0 < B.1 12
        · rw [if_pos d2, b1e]
        · rw [if_neg d2]
          by_cases d3 : l0 = B.1 12
          · rw [if_pos d3]
            by_cases d4 : B.1 13 ≤ l1
            · rw [if_pos d4, b1e]
            · rw [if_neg d4, b1e]
          · rw [if_neg d3, b1e]
      · rw [if_neg d1, b1e]
        by_cases d2 : l0 < B.1 12
        · rw [if_pos d2, b1e]
        · rw [if_neg d2]
          by_cases d3 : l0 = B.1 12
          · rw [if_pos d3]
            by_cases d4 : B.1 13 ≤ l1
            · rw [if_pos d4, b1e]
            · rw [if_neg d4, b1e]
          · rw [if_neg d3, b1e]
    · simp only [if_pos c1]
      by_cases d1 : nI wt = p0
      · rw [if_pos d1, b1e]
        by_cases d2 : l0 < p1
        · rw [if_pos d2, b1e]
        · rw [if_neg d2]
          by_cases d3 : l0 = p1
          · rw [if_pos d3]
            by_cases d4 : p2 ≤ l1
            · rw [if_pos d4, b1e]
            · rw [if_neg d4, b1e]
          · rw [if_neg d3, b1e]
      · rw [if_neg d1, b1e]
        by_cases d2 : l0 < p1
        · rw [if_pos d2, b1e]
        · rw [if_neg d2]
          by_cases d3 : l0 = p1
          · rw [if_pos d3]
            by_cases d4 : p2 ≤ l1
            · rw [if_pos d4, b1e]
            · rw [if_neg d4, b1e]
          · rw [if_neg d3, b1e]
  · rcases h1 with ⟨-, h1⟩ | ⟨hp, e1, e2⟩
    · exact absurd (show p0 < nI wt by rw [h1, Int32.lt_iff_toInt_lt, hwt, show (-6 : Int32).toInt = -6 from rfl]; omega) c1
    · have same : pv_Rl (k + 1) B (p0, p1, p2, nI (k + 1)) := ⟨e0, Or.inr ⟨hp, e1, e2⟩, rfl⟩
      rw [← e1, ← e2]
      simp only [if_neg c1, lte]
      by_cases d1 : nI wt = p0
      · simp only [if_pos d1, b1e]
        by_cases d2 : l0 < p1
        · simp only [if_pos d2, b1e]
          rw [if_neg (show ¬ (1 : Int32) = 0 by decide)]
          exact ⟨_, nI wt, l0, l1, rfl, (upd1 _ rfl).1, (upd1 _ rfl).2, fun rec => rfl⟩
        · simp only [if_neg d2]
          by_cases d3 : l0 = p1
          · simp only [if_pos d3]
            by_cases d4 : p2 ≤ l1
            · simp only [if_pos d4, b1e]
              exact ⟨B, p0, p1, p2, rfl, fun _ => rfl, same, fun rec => rfl⟩
            · simp only [if_neg d4, b1e]
              exact ⟨_, nI wt, l0, l1, rfl, (upd1 _ rfl).1, (upd1 _ rfl).2, fun rec => rfl⟩
          · simp only [if_neg d3, b1e]
            exact ⟨B, p0, p1, p2, rfl, fun _ => rfl, same, fun rec => rfl⟩
      · simp only [if_neg d1, b1e]
        refine ⟨B, p0, p1, p2, ?_, fun _ => rfl, same, fun rec => ?_⟩
        · by_cases d2 : l0 < p1
          · simp only [if_pos d2, b1e]; rfl
          · simp only [if_neg d2]
            by_cases d3 : l0 = p1
            · simp only [if_pos d3]
              by_cases d4 : p2 ≤ l1
              · simp only [if_pos d4, b1e]; rfl
              · simp only [if_neg d4, b1e]; rfl
            · simp only [if_neg d3, b1e]; rfl
        · by_cases d2 : l0 < p1
          · simp only [if_pos d2, b1e]; rfl
          · simp only [if_neg d2]
            by_cases d3 : l0 = p1
            · simp only [if_pos d3]
              by_cases d4 : p2 ≤ l1
              · simp only [if_pos d4, b1e]; rfl
              · simp only [if_neg d4, b1e]; rfl
            · simp only [if_neg d3, b1e]; rfl
