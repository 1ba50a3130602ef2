theorem pv_isKind (N : Nat) (x : Int32) : f_X7_isKind N x = some (pv_b (0 ≤ x.toInt ∧ x.toInt ≤ 5)) := by
  unfold f_X7_isKind; rw [pv_within, b1e, pv_bz]; rfl
theorem pv_isNumber (N : Nat) (x : Int32) : f_X8_isNumber N x = some (pv_b (0 ≤ x.toInt ∧ x.toInt ≤ 5)) := by
  unfold f_X8_isNumber; rw [pv_in, b1e, pv_bz]; rfl
theorem pv_less1 {x y : Int32} (h : 1 ≤ y.toInt) : x.toInt ≤ (y - 1).toInt ↔ x.toInt < y.toInt := by
  have t1 : (1 : Int32).toInt = 1 := by decide
  have := pv_rng y
  rw [pv_sub (by omega) (by omega)]
  omega
theorem pv_hasRow (N : Nat) {S : St} (h : 1 ≤ (S.1 0).toInt) (x : Int32) : f_X3_hasRow N S x = some (pv_b (0 ≤ x.toInt ∧ x.toInt < (S.1 0).toInt)) := by
  unfold f_X3_hasRow
  rw [pv_within, b1e, pv_bz]
  exact congrArg some (pv_cong (by rw [pv_less1 h]; exact Iff.rfl))
theorem pv_hasPlace (N : Nat) {S : St} (h : 1 ≤ (S.1 1).toInt) (x : Int32) : f_X3_hasPlace N S x = some (pv_b (0 ≤ x.toInt ∧ x.toInt < (S.1 1).toInt)) := by
  unfold f_X3_hasPlace
  rw [pv_within, b1e, pv_bz]
  exact congrArg some (pv_cong (by rw [pv_less1 h]; exact Iff.rfl))
theorem pv_isRow (N : Nat) {M : St} (h : 1 ≤ (M.1 0).toInt) (x : Int32) : f_X8_isRow N M x = some (pv_b (0 ≤ x.toInt ∧ x.toInt < (M.1 0).toInt)) := by
  unfold f_X8_isRow
  rw [pv_in, b1e, pv_bz]
  exact congrArg some (pv_cong (by rw [Int32.toInt_toInt64, pv_less1 h]; exact Iff.rfl))
theorem pv_isPlace (N : Nat) {M : St} (h : 1 ≤ (M.1 1).toInt) (x : Int32) : f_X8_isPlace N M x = some (pv_b (0 ≤ x.toInt ∧ x.toInt < (M.1 1).toInt)) := by
  unfold f_X8_isPlace
  rw [pv_in, b1e, pv_bz]
  exact congrArg some (pv_cong (by rw [Int32.toInt_toInt64, pv_less1 h]; exact Iff.rfl))
/-- the sort is there -/
def pv_has (t x : Int32) : Prop := (0 ≤ x.toInt ∧ x.toInt ≤ 5) ∧ ((t >>> (x &&& 31)) &&& 1) = 1
theorem pv_hasE (N : Nat) (S : St) (x : Int32) [Decidable (pv_has (S.1 0) x)] : f_X6_has N S x = some (pv_b (pv_has (S.1 0) x)) := by
  unfold f_X6_has
  rw [pv_isKind, b1e, pv_if]
  by_cases h : 0 ≤ x.toInt ∧ x.toInt ≤ 5
  · rw [if_pos h]
    by_cases h2 : ((S.1 0 >>> (x &&& 31)) &&& 1) = 1
    · rw [if_pos h2, pv_b_t ⟨h, h2⟩]
    · rw [if_neg h2, pv_b_f (fun z => h2 z.2)]
  · rw [if_neg h, pv_b_f (fun z => h z.1)]
theorem pv_isSortE (N : Nat) (M : St) (x : Int32) [Decidable (pv_has (M.1 7) x)] : f_X8_isSort N M x = some (pv_b (pv_has (M.1 7) x)) := by
  unfold f_X8_isSort
  rw [pv_isNumber, b1e, pv_if]
  by_cases h : 0 ≤ x.toInt ∧ x.toInt ≤ 5
  · rw [if_pos h]
    by_cases h2 : ((M.1 7 >>> (x &&& 31)) &&& 1) = 1
    · rw [if_pos h2, pv_b_t ⟨h, h2⟩]
    · rw [if_neg h2, pv_b_f (fun z => h2 z.2)]
  · rw [if_neg h, pv_b_f (fun z => h z.1)]
theorem pv_RAu {n : Nat} {f g : Nat → Int32} (h : pv_RA n f g) (k : Nat) (x : Int32) : pv_RA n (upd f k x) (upd g k x) := by
  intro j hj
  unfold upd
  by_cases e : j = k
  · rw [if_pos e, if_pos e]
  · rw [if_neg e, if_neg e]; exact h j hj
theorem pv_updR {f : Nat → Int32} {k : Nat} {x : Int32} {a b : Int} {n : Nat} (h : ∀ j, j < n → a ≤ (f j).toInt ∧ (f j).toInt ≤ b) (hx : a ≤ x.toInt ∧ x.toInt ≤ b) : ∀ j, j < n → a ≤ (upd f k x j).toInt ∧ (upd f k x j).toInt ≤ b := by
  intro j hj
  unfold upd
  by_cases e : j = k
  · rw [if_pos e]; exact hx
  · rw [if_neg e]; exact h j hj
/-- what is shown of each call: both answer alike, and the states go on alike -/
theorem op_less (N : Nat) {O S T P M : St} (D E B : St) (hI : pv_I O S T P) (hR : pv_R O S T P M) (x1 x2 : Int32) : ∃ (r : Int32) (O' M' : St), f_X7_less N O S T P D E B x1 x2 = some (r, O') ∧ f_X8_less N M x1 x2 = some (r, M') ∧ pv_I O' S T P ∧ pv_R O' S T P M' ∧ pv_K M M' := by
  obtain ⟨hO, hI2⟩ := id hI
  obtain ⟨hRO, hR2⟩ := id hR
  obtain ⟨i0, i1, i2, i3, i4, i5, i6, i7, i8⟩ := hO
  obtain ⟨r0, r1, r2, r3, r4, r5, r6, r12, r13, r14, r15⟩ := hRO
  unfold f_X7_less f_X8_less
  rw [pv_hasPlace N i1.1, pv_isPlace N (by rw [r1]; exact i1.1), r1]
  simp only [b1e, pv_if, pv_within, pv_in]
  by_cases h1 : 0 ≤ x1.toInt ∧ x1.toInt < (O.1 1).toInt
  · rw [if_pos h1, if_pos h1]
    by_cases h2 : 0 ≤ x2.toInt ∧ x2.toInt ≤ 9
    · rw [if_pos (show (0 : Int32).toInt ≤ x2.toInt ∧ x2.toInt ≤ (9 : Int32).toInt from h2), if_pos (show (0 : Int64).toInt ≤ x2.toInt ∧ x2.toInt ≤ (9 : Int64).toInt from h2)]
      have hc := pv_clamp h1.1
      rw [pv_ald h1.1 (by omega), pv_ald h1.1 (by omega), pv_ast h1.1 (by omega), pv_ast h1.1 (by omega)]
      rw [r6 _ (by omega)]
      refine ⟨_, _, _, rfl, rfl, ⟨⟨i0, i1, i2, i3, i4, i5, pv_updR i6 h2, i7, i8⟩, hI2⟩, ⟨⟨r0, r1, r2, r3, r4, r5, pv_RAu r6 _ _, r12, r13, r14, r15⟩, hR2⟩, rfl, rfl⟩
    · rw [if_neg (show ¬ ((0 : Int32).toInt ≤ x2.toInt ∧ x2.toInt ≤ (9 : Int32).toInt) from h2), if_neg (show ¬ ((0 : Int64).toInt ≤ x2.toInt ∧ x2.toInt ≤ (9 : Int64).toInt) from h2)]
      exact ⟨_, _, _, rfl, rfl, hI, hR, rfl, rfl⟩
  · rw [if_neg h1, if_neg h1]
    exact ⟨_, _, _, rfl, rfl, hI, hR, rfl, rfl⟩
