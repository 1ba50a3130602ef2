/-! the step's loops, for both -/
theorem pv_piv {b : Int32 → (Int32 → Option Int32) → Option Int32} {F : Nat → Int32} {o : Nat → Nat} {n : Nat} (hn : n ≤ 6) (hF : ∀ j, j < n → F j = nI (o j)) (ho : ∀ j, j < n → o j ≤ 5) (hb : ∀ x rec, b x rec = (if x < 0 then (some x) else (fx_ald 6 F x (fun v101 => fx_ald 6 F (x + (1 : Int32)) (fun v102 => (if v101 < v102 then (some x) else (fx_lt (x + (-1 : Int32)) (fun x103 => rec x103)))))))) : ∀ t, t + 1 ≤ n → (∀ j, t ≤ j → j + 1 < n → o (j + 1) ≤ o j) → ∀ f : Nat, t < f → (∃ i, i + 1 < n ∧ fx_it b f (nI t - 1) = some (nI i) ∧ o i < o (i + 1) ∧ ∀ j, i + 1 ≤ j → j + 1 < n → o (j + 1) ≤ o j) ∨ (fx_it b f (nI t - 1) = some (-1) ∧ ∀ j, j + 1 < n → o (j + 1) ≤ o j) := by
  intro t
  induction t with
  | zero =>
    intro _ h f hf
    obtain ⟨f, rfl⟩ : ∃ q, f = q + 1 := ⟨f - 1, by omega⟩
    refine Or.inr ⟨?_, fun j hj => h j (by omega) hj⟩
    show b (nI 0 - 1) _ = _
    rw [hb, if_pos (by decide)]
    rfl
  | succ t ih =>
    intro ht h f hf
    obtain ⟨f, rfl⟩ : ∃ q, f = q + 1 := ⟨f - 1, by omega⟩
    rw [pv_tw (t + 1) (by omega), Nat.add_sub_cancel]
    have e : fx_it b (f + 1) (nI t) = if o t < o (t + 1) then some (nI t) else fx_it b f (nI t - 1) := by
      show b (nI t) _ = _
      rw [hb, if_neg (show ¬ nI t < 0 from fun z => by have := (pv_lt (b := 0) (by omega) (by omega)).mp z; omega), pv_aldn (by omega) (by omega), nI_1, pv_aldn (by omega) (by omega), lte, ← pv_subneg, hF t (by omega), hF (t + 1) (by omega)]
      have h1 := ho t (by omega)
      have h2 := ho (t + 1) (by omega)
      by_cases z : o t < o (t + 1)
      · rw [if_pos z, if_pos ((pv_lt (by omega) (by omega)).mpr z)]
      · rw [if_neg z, if_neg (fun q => z ((pv_lt (by omega) (by omega)).mp q))]
    rw [e]
    by_cases z : o t < o (t + 1)
    · rw [if_pos z]
      exact Or.inl ⟨t, by omega, rfl, z, h⟩
    · rw [if_neg z]
      refine ih (by omega) (fun j h1 h2 => ?_) f (by omega)
      by_cases q : j = t
      · subst q; omega
      · exact h j (by omega) h2
