/-! the pure layer's words: no machine here. Class states: O oven, S sorts, T sights, P pad (D day, E day's oven, B batch: scratch); the reference's: M -/
theorem b1e {α ρ : Type} (a : α) (k : α → Option ρ) : fx_b1 (some a) k = k a := rfl
theorem b2e {α β ρ : Type} (a : α) (b : β) (k : α → β → Option ρ) : fx_b2 (some (a, b)) k = k a b := rfl
theorem b3e {α β γ ρ : Type} (a : α) (b : β) (c : γ) (k : α → β → γ → Option ρ) : fx_b3 (some (a, b, c)) k = k a b c := rfl
theorem b4e {α β γ δ ρ : Type} (a : α) (b : β) (c : γ) (d : δ) (k : α → β → γ → δ → Option ρ) : fx_b4 (some (a, b, c, d)) k = k a b c d := rfl
theorem b5e {α β γ δ ε ρ : Type} (a : α) (b : β) (c : γ) (d : δ) (e : ε) (k : α → β → γ → δ → ε → Option ρ) : fx_b5 (some (a, b, c, d, e)) k = k a b c d e := rfl
theorem lte {α ρ : Type} (x : α) (k : α → Option ρ) : fx_lt x k = k x := rfl
theorem stI_1 (S : St) (k : Nat) (v : Int32) (j : Nat) : (stI S k v).1 j = if j = k then v else S.1 j := rfl
theorem stI_2 (S : St) (k : Nat) (v : Int32) (j : Nat) : (stI S k v).2 j = S.2 j := rfl
theorem stA_1 (S : St) (k : Nat) (f : Nat → Int32) (j : Nat) : (stA S k f).1 j = S.1 j := rfl
theorem stA_2 (S : St) (k : Nat) (f : Nat → Int32) (j : Nat) : (stA S k f).2 j = if j = k then f else S.2 j := rfl
def pv_b (p : Prop) [Decidable p] : Int32 := if p then 1 else 0
theorem pv_b_t {p : Prop} [Decidable p] (h : p) : pv_b p = 1 := if_pos h
theorem pv_b_f {p : Prop} [Decidable p] (h : ¬ p) : pv_b p = 0 := if_neg h
theorem pv_if {ρ : Type} {p : Prop} [Decidable p] (a b : Option ρ) : (if pv_b p = 0 then a else b) = if p then b else a := by
  by_cases h : p
  · rw [pv_b_t h, if_pos h]; rfl
  · rw [pv_b_f h, if_neg h]; rfl
theorem pv_bz {ρ : Type} {p : Prop} [Decidable p] (k : Option ρ) : fx_bz (pv_b p) k = k := by
  by_cases h : p
  · rw [pv_b_t h]; rfl
  · rw [pv_b_f h]; rfl
theorem pv_within (N : Nat) (x a b : Int32) : f_X7_within N x a b = some (pv_b (a.toInt ≤ x.toInt ∧ x.toInt ≤ b.toInt)) := by
  unfold f_X7_within
  by_cases h1 : x < a
  · rw [if_pos h1]
    rw [Int32.lt_iff_toInt_lt] at h1
    rw [pv_b_f (by omega)]
  · rw [if_neg h1]
    rw [Int32.lt_iff_toInt_lt] at h1
    by_cases h2 : b < x
    · rw [if_pos h2]
      rw [Int32.lt_iff_toInt_lt] at h2
      rw [pv_b_f (by omega)]
    · rw [if_neg h2]
      rw [Int32.lt_iff_toInt_lt] at h2
      rw [pv_b_t (by omega)]
theorem pv_in (N : Nat) (x : Int32) (a b : Int64) : f_X8_in N (Int32.toInt64 x) a b = some (pv_b (a.toInt ≤ x.toInt ∧ x.toInt ≤ b.toInt)) := by
  unfold f_X8_in
  by_cases h1 : lg_cmp (Int32.toInt64 x) a < 0
  · rw [if_pos h1]
    rw [lg_cmp_lt, Int64.lt_iff_toInt_lt, Int32.toInt_toInt64] at h1
    rw [pv_b_f (by omega)]
  · rw [if_neg h1]
    rw [lg_cmp_lt, Int64.lt_iff_toInt_lt, Int32.toInt_toInt64] at h1
    by_cases h2 : 0 < lg_cmp (Int32.toInt64 x) b
    · rw [if_pos h2]
      rw [lg_cmp_gt, Int64.lt_iff_toInt_lt, Int32.toInt_toInt64] at h2
      rw [pv_b_f (by omega)]
    · rw [if_neg h2]
      rw [lg_cmp_gt, Int64.lt_iff_toInt_lt, Int32.toInt_toInt64] at h2
      rw [pv_b_t (by omega)]
theorem pv_cong {p q : Prop} [Decidable p] [Decidable q] (h : p ↔ q) : pv_b p = pv_b q := by
  by_cases hp : p
  · rw [pv_b_t hp, pv_b_t (h.mp hp)]
  · rw [pv_b_f hp, pv_b_f (fun z => hp (h.mpr z))]
theorem pv_add {x y : Int32} (h1 : -2147483648 ≤ x.toInt + y.toInt) (h2 : x.toInt + y.toInt < 2147483648) : (x + y).toInt = x.toInt + y.toInt := by
  rw [Int32.toInt_add]; exact Int.bmod_eq_of_le (by omega) (by omega)
theorem pv_sub {x y : Int32} (h1 : -2147483648 ≤ x.toInt - y.toInt) (h2 : x.toInt - y.toInt < 2147483648) : (x - y).toInt = x.toInt - y.toInt := by
  rw [Int32.toInt_sub]; exact Int.bmod_eq_of_le (by omega) (by omega)
theorem pv_mul {x y : Int32} (h1 : -2147483648 ≤ x.toInt * y.toInt) (h2 : x.toInt * y.toInt < 2147483648) : (x * y).toInt = x.toInt * y.toInt := by
  rw [Int32.toInt_mul]; exact Int.bmod_eq_of_le (by omega) (by omega)
theorem pv_rng (x : Int32) : -2147483648 ≤ x.toInt ∧ x.toInt < 2147483648 := ⟨Int32.le_toInt x, Int32.toInt_lt x⟩
theorem pv_ext {x y : Int32} (h : x.toInt = y.toInt) : x = y := Int32.toInt_inj.mp h
theorem pv_clamp {x : Int32} (h : 0 ≤ x.toInt) : (x.toNatClampNeg : Int) = x.toInt := by
  show ((x.toInt.toNat : Nat) : Int) = x.toInt
  omega
theorem pv_nI (n : Nat) (h : n < 2147483648) : (nI n).toInt = (n : Int) := nI_toInt (by omega)
/-- an int that isn't negative is a numeral -/
theorem pv_ex {x : Int32} (h : 0 ≤ x.toInt) : ∃ n : Nat, x = nI n ∧ (n : Int) = x.toInt ∧ n < 2147483648 := by
  have h2 := (pv_rng x).2
  refine ⟨x.toInt.toNat, pv_ext ?_, by omega, by omega⟩
  rw [pv_nI _ (by omega)]; omega
theorem pv_ald {ρ : Type} {n : Nat} {f : Nat → Int32} {i : Int32} {k : Int32 → Option ρ} (h1 : 0 ≤ i.toInt) (h2 : i.toInt < n) : fx_ald n f i k = k (f i.toNatClampNeg) := by
  unfold fx_ald
  rw [if_neg]
  intro h
  have := pv_clamp h1
  rcases h with h | h
  · rw [Int32.lt_iff_toInt_lt] at h
    have : (0 : Int32).toInt = 0 := by decide
    omega
  · omega
theorem pv_ast {ρ : Type} {n a : Nat} {S : St} {i x : Int32} {k : St → Option ρ} (h1 : 0 ≤ i.toInt) (h2 : i.toInt < n) : fx_ast n S a i x k = k (stA S a (upd (S.2 a) i.toNatClampNeg x)) := by
  unfold fx_ast
  rw [if_neg]
  intro h
  have := pv_clamp h1
  rcases h with h | h
  · rw [Int32.lt_iff_toInt_lt] at h
    have : (0 : Int32).toInt = 0 := by decide
    omega
  · omega
theorem pv_aldn {ρ : Type} {n j : Nat} {f : Nat → Int32} {k : Int32 → Option ρ} (h : j < n) (hn : n < 2147483648) : fx_ald n f (nI j) k = k (f j) := by
  rw [pv_ald (by rw [pv_nI j (by omega)]; omega) (by rw [pv_nI j (by omega)]; omega), nI_clamp (by omega)]
theorem pv_astn {ρ : Type} {n a j : Nat} {S : St} {x : Int32} {k : St → Option ρ} (h : j < n) (hn : n < 2147483648) : fx_ast n S a (nI j) x k = k (stA S a (upd (S.2 a) j x)) := by
  rw [pv_ast (by rw [pv_nI j (by omega)]; omega) (by rw [pv_nI j (by omega)]; omega), nI_clamp (by omega)]
/-- a loop: while the invariant holds, a measure falls; its end has P -/
theorem pv_it {σ ρ : Type} {b : σ → (σ → Option ρ) → Option ρ} (I : σ → Prop) (μ : σ → Nat) (Pr : ρ → Prop) (hs : ∀ s, I s → (∃ r, Pr r ∧ ∀ rec, b s rec = some r) ∨ (∃ s', I s' ∧ μ s' < μ s ∧ ∀ rec, b s rec = rec s')) : ∀ (n : Nat) (x : σ), I x → μ x < n → ∃ r, Pr r ∧ fx_it b n x = some r := by
  intro n
  induction n with
  | zero => intro x _ h; exact absurd h (Nat.not_lt_zero _)
  | succ n ih =>
    intro x hx hm
    rcases hs x hx with ⟨r, hr, h⟩ | ⟨s', h1, h2, h3⟩
    · exact ⟨r, hr, h _⟩
    · obtain ⟨r, hr, h⟩ := ih s' h1 (by omega)
      exact ⟨r, hr, (h3 _).trans h⟩
/-- a loop whose states are known -/
theorem pv_run {σ ρ : Type} {b : σ → (σ → Option ρ) → Option ρ} (st : Nat → σ) (k : Nat) (r : ρ) (hs : ∀ i, i < k → ∀ rec, b (st i) rec = rec (st (i + 1))) (he : ∀ rec, b (st k) rec = some r) : ∀ (n i : Nat), i ≤ k → k - i < n → fx_it b n (st i) = some r := by
  intro n
  induction n with
  | zero => intro i _ h; exact absurd h (Nat.not_lt_zero _)
  | succ n ih =>
    intro i hi hm
    by_cases h : i = k
    · subst h; exact he _
    · show b (st i) (fx_it b n) = some r
      rw [hs i (by omega)]
      exact ih (i + 1) (by omega) (by omega)
def pv_RA (n : Nat) (f g : Nat → Int32) : Prop := ∀ j, j < n → f j = g j
/-- the oven's numbers -/
def pv_IO (O : St) : Prop := (1 ≤ (O.1 0).toInt ∧ (O.1 0).toInt ≤ 4) ∧ (1 ≤ (O.1 1).toInt ∧ (O.1 1).toInt ≤ 6) ∧ (0 ≤ (O.1 2).toInt ∧ (O.1 2).toInt ≤ 99) ∧ (0 ≤ (O.1 3).toInt ∧ (O.1 3).toInt ≤ 9) ∧ (0 ≤ (O.1 4).toInt ∧ (O.1 4).toInt ≤ 9) ∧ (O.1 5 = 0 ∨ O.1 5 = 1) ∧ (∀ j, j < 6 → 0 ≤ (O.2 6 j).toInt ∧ (O.2 6 j).toInt ≤ 9) ∧ (∀ r, r < 4 → 0 ≤ (O.2 7 r).toInt ∧ (O.2 7 r).toInt ≤ (O.1 1).toInt) ∧ (∀ r p : Nat, r < 4 → p < 6 → (p : Int) < (O.2 7 r).toInt → 0 ≤ (O.2 8 (6 * r + p)).toInt ∧ (O.2 8 (6 * r + p)).toInt ≤ 5)
def pv_IS (S : St) : Prop := (0 ≤ (S.1 0).toInt ∧ (S.1 0).toInt ≤ 63) ∧ (∀ j, j < 6 → 0 ≤ (S.2 1 j).toInt ∧ (S.2 1 j).toInt ≤ 500) ∧ (∀ j, j < 6 → 0 ≤ (S.2 2 j).toInt ∧ (S.2 2 j).toInt ≤ 500) ∧ (∀ j, j < 6 → 0 ≤ (S.2 3 j).toInt ∧ (S.2 3 j).toInt ≤ 99)
def pv_IT (T : St) : Prop := (0 ≤ (T.1 0).toInt ∧ (T.1 0).toInt ≤ 6) ∧ ∀ j, j < 6 → 0 ≤ (T.2 1 j).toInt ∧ (T.2 1 j).toInt ≤ 5000
def pv_IP (P : St) : Prop := 0 ≤ (P.1 0).toInt ∧ (P.1 0).toInt ≤ 60
def pv_I (O S T P : St) : Prop := pv_IO O ∧ pv_IS S ∧ pv_IT T ∧ pv_IP P
def pv_RO (O M : St) : Prop := M.1 0 = O.1 0 ∧ M.1 1 = O.1 1 ∧ M.1 2 = O.1 2 ∧ M.1 3 = O.1 3 ∧ M.1 4 = O.1 4 ∧ M.1 5 = O.1 5 ∧ pv_RA 6 (M.2 6) (O.2 6) ∧ pv_RA 4 (M.2 12) (O.2 7) ∧ pv_RA 24 (M.2 13) (O.2 8) ∧ pv_RA 24 (M.2 14) (O.2 9) ∧ pv_RA 4 (M.2 15) (O.2 10)
def pv_RS (S M : St) : Prop := M.1 7 = S.1 0 ∧ pv_RA 6 (M.2 8) (S.2 1) ∧ pv_RA 6 (M.2 9) (S.2 2) ∧ pv_RA 6 (M.2 10) (S.2 3) ∧ pv_RA 6 (M.2 11) (S.2 4)
def pv_RT (T M : St) : Prop := M.1 17 = T.1 0 ∧ pv_RA 6 (M.2 16) (T.2 1)
def pv_RP (P M : St) : Prop := M.1 19 = P.1 0 ∧ pv_RA 60 (M.2 18) (P.2 1)
def pv_R (O S T P M : St) : Prop := pv_RO O M ∧ pv_RS S M ∧ pv_RT T M ∧ pv_RP P M
/-- what is kept in images stays -/
def pv_K (M M' : St) : Prop := M'.2 42 = M.2 42 ∧ M'.2 43 = M.2 43
/-- only the reference's scratch has changed -/
def pv_X (M M' : St) : Prop := (∀ k, k < 20 → M'.1 k = M.1 k ∧ M'.2 k = M.2 k) ∧ pv_K M M'
theorem pv_K.rf (M : St) : pv_K M M := ⟨rfl, rfl⟩
theorem pv_X.rf (M : St) : pv_X M M := ⟨fun _ _ => ⟨rfl, rfl⟩, rfl, rfl⟩
theorem pv_X.trans {A B C : St} (h1 : pv_X A B) (h2 : pv_X B C) : pv_X A C := ⟨fun k hk => ⟨((h2.1 k hk).1).trans (h1.1 k hk).1, ((h2.1 k hk).2).trans (h1.1 k hk).2⟩, h2.2.1.trans h1.2.1, h2.2.2.trans h1.2.2⟩
theorem pv_X.I {M : St} (k : Nat) (v : Int32) (hk : 20 ≤ k) : pv_X M (stI M k v) := ⟨fun j hj => ⟨by rw [stI_1, if_neg (by omega)], rfl⟩, rfl, rfl⟩
theorem pv_X.A {M : St} (k : Nat) (f : Nat → Int32) (hk : 20 ≤ k) (h42 : 42 ≠ k) (h43 : 43 ≠ k) : pv_X M (stA M k f) := ⟨fun j hj => ⟨rfl, by rw [stA_2, if_neg (by omega)]⟩, by rw [stA_2, if_neg h42], by rw [stA_2, if_neg h43]⟩
theorem pv_X.R {O S T P M M' : St} (h : pv_X M M') (hR : pv_R O S T P M) : pv_R O S T P M' := by
  have e : ∀ k, k < 20 → M'.1 k = M.1 k ∧ M'.2 k = M.2 k := h.1
  unfold pv_R pv_RO pv_RS pv_RT pv_RP at *
  rw [(e 0 (by omega)).1, (e 1 (by omega)).1, (e 2 (by omega)).1, (e 3 (by omega)).1, (e 4 (by omega)).1, (e 5 (by omega)).1, (e 6 (by omega)).2, (e 12 (by omega)).2, (e 13 (by omega)).2, (e 14 (by omega)).2, (e 15 (by omega)).2, (e 7 (by omega)).1, (e 8 (by omega)).2, (e 9 (by omega)).2, (e 10 (by omega)).2, (e 11 (by omega)).2, (e 17 (by omega)).1, (e 16 (by omega)).2, (e 19 (by omega)).1, (e 18 (by omega)).2]
  exact hR
