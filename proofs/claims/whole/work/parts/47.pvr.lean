theorem pv_grt {b : Int32 → (Int32 → Option Int32) → Option Int32} {o : Nat → Nat} {n i : Nat} (hi : i + 1 < n) (h1 : o i < o (i + 1)) (hb : ∀ t, i < t → t < n → ∀ rec, b (nI t) rec = if o i < o t then some (nI t) else rec (nI (t - 1))) : ∀ d t, t = i + 1 + d → t < n → (∀ j, t < j → j < n → o j ≤ o i) → ∀ f : Nat, d < f → ∃ g, i < g ∧ g < n ∧ fx_it b f (nI t) = some (nI g) ∧ o i < o g ∧ ∀ j, g < j → j < n → o j ≤ o i := by
  intro d
  induction d with
  | zero =>
    intro t ht htn hl f hf
    obtain ⟨f, rfl⟩ : ∃ q, f = q + 1 := ⟨f - 1, by omega⟩
    have ht : t = i + 1 := by omega
    subst ht
    refine ⟨i + 1, by omega, htn, ?_, h1, hl⟩
    show b (nI (i + 1)) _ = _
    rw [hb _ (by omega) htn, if_pos h1]
  | succ d ih =>
    intro t ht htn hl f hf
    obtain ⟨f, rfl⟩ : ∃ q, f = q + 1 := ⟨f - 1, by omega⟩
    by_cases z : o i < o t
    · refine ⟨t, by omega, htn, ?_, z, hl⟩
      show b (nI t) _ = _
      rw [hb _ (by omega) htn, if_pos z]
    · obtain ⟨g, q1, q2, q3, q4, q5⟩ := ih (t - 1) (by omega) (by omega) (fun j a c => by
        by_cases e : j = t
        · subst e; omega
        · exact hl j (by omega) c) f (by omega)
      refine ⟨g, q1, q2, ?_, q4, q5⟩
      show b (nI t) _ = _
      rw [hb _ (by omega) htn, if_neg z]
      exact q3
def pv_sw (F : Nat → Int32) (a b : Nat) : Nat → Int32 := upd (upd F a (F b)) b (F a)
theorem pv_rvs {σ : Type} {b : σ → (σ → Option St) → Option St} (R : Nat → Nat → St → σ) (c : Nat) (hb : ∀ lo hi S, lo ≤ 6 → hi < 6 → ∀ rec, b (R lo hi S) rec = if hi ≤ lo then some S else rec (R (lo + 1) (hi - 1) (stA S c (pv_sw (S.2 c) lo hi)))) : ∀ d lo hi S, hi ≤ lo + d → lo ≤ 6 → hi < 6 → ∀ f : Nat, d < f → ∃ G, fx_it b f (R lo hi S) = some (stA S c G) ∧ (∀ j, j < lo ∨ hi < j → G j = S.2 c j) ∧ ∀ j, lo ≤ j → j ≤ hi → G j = S.2 c (lo + hi - j) := by
  intro d
  induction d with
  | zero =>
    intro lo hi S h1 h2 h3 f hf
    obtain ⟨f, rfl⟩ : ∃ q, f = q + 1 := ⟨f - 1, by omega⟩
    refine ⟨S.2 c, ?_, fun _ _ => rfl, fun j q1 q2 => by rw [show lo + hi - j = j by omega]⟩
    show b (R lo hi S) _ = _
    rw [hb lo hi S h2 h3, if_pos (by omega), stA_self]
  | succ d ih =>
    intro lo hi S h1 h2 h3 f hf
    obtain ⟨f, rfl⟩ : ∃ q, f = q + 1 := ⟨f - 1, by omega⟩
    by_cases z : hi ≤ lo
    · refine ⟨S.2 c, ?_, fun _ _ => rfl, fun j q1 q2 => by rw [show lo + hi - j = j by omega]⟩
      show b (R lo hi S) _ = _
      rw [hb lo hi S h2 h3, if_pos z, stA_self]
    · obtain ⟨G, g1, g2, g3⟩ := ih (lo + 1) (hi - 1) (stA S c (pv_sw (S.2 c) lo hi)) (by omega) (by omega) (by omega) f (by omega)
      have e : ∀ j, (stA S c (pv_sw (S.2 c) lo hi)).2 c j = if j = hi then S.2 c lo else if j = lo then S.2 c hi else S.2 c j := by
        intro j
        rw [stA_2, if_pos rfl]
        unfold pv_sw
        by_cases e1 : j = hi
        · rw [if_pos e1, e1, pv_uself]
        · rw [if_neg e1, pv_une e1]
          by_cases e2 : j = lo
          · rw [if_pos e2, e2, pv_uself]
          · rw [if_neg e2, pv_une e2]
      refine ⟨G, ?_, fun j hj => ?_, fun j q1 q2 => ?_⟩
      · show b (R lo hi S) _ = _
        rw [hb lo hi S h2 h3, if_neg z, g1, stA_same]
      · rw [g2 j (by omega), e, if_neg (by omega), if_neg (by omega)]
      · by_cases e1 : j = hi
        · subst e1
          rw [g2 j (by omega), e, if_pos rfl, show lo + j - j = lo by omega]
        · by_cases e2 : j = lo
          · subst e2
            rw [g2 j (by omega), e, if_neg (by omega), if_pos rfl, show j + hi - j = hi by omega]
          · rw [g3 j (by omega) (by omega), e, if_neg (by omega), if_neg (by omega), show lo + 1 + (hi - 1) - j = lo + hi - j by omega]
