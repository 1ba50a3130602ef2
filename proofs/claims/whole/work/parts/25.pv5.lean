/-! baking, in numbers: a loaf that gets a in its first minute, c less in each that follows -/
def pv_B (a c : Nat) : Nat → Nat
  | 0 => 0
  | m + 1 => pv_B a c m + (a - c * m)
def pv_tri : Nat → Nat
  | 0 => 0
  | m + 1 => pv_tri m + m
theorem pv_tri_e (m : Nat) : 2 * pv_tri (m + 1) = (m + 1) * m := by
  induction m with
  | zero => rfl
  | succ m ih =>
    have e : pv_tri (m + 1 + 1) = pv_tri (m + 1) + (m + 1) := rfl
    rw [e, Nat.mul_add, ih, Nat.mul_comm (m + 1) m, ← Nat.add_mul]
theorem pv_tri_h (w : Nat) (h : 1 ≤ w) : w * (w - 1) / 2 = pv_tri w := by
  obtain ⟨m, rfl⟩ : ∃ m, w = m + 1 := ⟨w - 1, by omega⟩
  have := pv_tri_e m
  rw [Nat.add_sub_cancel, ← this]; omega
theorem pv_B0 (a m : Nat) : pv_B a 0 m = m * a := by
  induction m with
  | zero => simp [pv_B]
  | succ m ih => simp only [pv_B]; rw [ih, Nat.zero_mul, Nat.sub_zero, Nat.succ_mul]
theorem pv_Bz (c m : Nat) : pv_B 0 c m = 0 := by
  induction m with
  | zero => rfl
  | succ m ih => simp only [pv_B]; rw [ih, Nat.zero_sub]
theorem pv_ceil {a c m : Nat} (hc : 0 < c) : m < (a + c - 1) / c ↔ c * m < a := by
  rw [Nat.lt_iff_add_one_le, Nat.le_div_iff_mul_le hc, Nat.add_mul, Nat.one_mul, Nat.mul_comm m c]
  omega
theorem pv_Bc (a c : Nat) (hc : 0 < c) (m : Nat) : pv_B a c m + c * pv_tri (min m ((a + c - 1) / c)) = min m ((a + c - 1) / c) * a := by
  induction m with
  | zero => simp [pv_B, pv_tri]
  | succ m ih =>
    by_cases h : m < (a + c - 1) / c
    · have h2 := (pv_ceil hc).mp h
      rw [Nat.min_eq_left (by omega)] at ih
      rw [Nat.min_eq_left (by omega)]
      simp only [pv_B, pv_tri]
      rw [Nat.mul_add, Nat.succ_mul]; omega
    · have h2 : ¬ c * m < a := fun z => h ((pv_ceil hc).mpr z)
      rw [Nat.min_eq_right (by omega)] at ih
      rw [Nat.min_eq_right (by omega)]
      simp only [pv_B]
      omega
theorem pv_Bmono (a c m : Nat) : pv_B a c m ≤ pv_B a c (m + 1) := by simp only [pv_B]; omega
theorem pv_Bmono2 (a c : Nat) {m n : Nat} (h : m ≤ n) : pv_B a c m ≤ pv_B a c n := by
  induction n with
  | zero => rw [Nat.le_zero.mp h]; exact Nat.le_refl _
  | succ n ih =>
    by_cases e : m = n + 1
    · rw [e]; exact Nat.le_refl _
    · exact Nat.le_trans (ih (by omega)) (pv_Bmono a c n)
theorem pv_Ble (a c m : Nat) : pv_B a c m ≤ a * m := by
  induction m with
  | zero => simp [pv_B]
  | succ m ih => simp only [pv_B]; rw [Nat.mul_succ]; omega
theorem pv_two : (2 : Int32) = nI 2 := rfl
theorem pv_one : (1 : Int32) = nI 1 := rfl
theorem pv_zero : (0 : Int32) = nI 0 := rfl
theorem pv_tw (m : Nat) (hm : 1 ≤ m) : nI m - 1 = nI (m - 1) := by rw [pv_one]; exact pk_sub hm
theorem pv_bakedBehind (N : Nat) {x0 : Int32} {a c m : Nat} (ha : a ≤ 99) (hx : x0.toInt = (a : Int) ∨ (x0.toInt ≤ 0 ∧ a = 0)) (hc : c ≤ 9) (hm : 1 ≤ m) (hm2 : m ≤ 1023) : f_X7_bakedBehind N x0 (nI c) (nI m) = some (nI (pv_B a c m)) := by
  unfold f_X7_bakedBehind
  by_cases h0 : 0 < x0
  · rw [if_pos h0]
    rw [Int32.lt_iff_toInt_lt, t32_0] at h0
    have hxa : x0 = nI a := pv_ext (by rw [pv_nI a (by omega)]; rcases hx with h | h <;> omega)
    have ha0 : 0 < a := by rw [hxa, pv_nI a (by omega)] at h0; omega
    subst hxa
    by_cases hc0 : c = 0
    · subst hc0
      rw [if_pos (by decide), b1e, pv_tw m hm, pk_mul, pk_mul, pv_two, pk_div (by have := Nat.mul_le_mul hm2 (show m - 1 ≤ 1023 by omega); omega) (by omega) (by omega), pk_mul, Nat.zero_mul, pk_sub (Nat.zero_le _), Nat.sub_zero, pv_B0]
    · have hcp : 0 < c := by omega
      rw [if_neg (by rw [pv_zero, pv_le (by omega) (by omega)]; omega)]
      unfold fx_nz
      rw [if_neg (by rw [pv_zero, pv_eq (by omega) (by omega)]; omega), lte, b1e]
      rw [nI_add, pv_tw _ (by omega), pk_div (by omega) hcp (by omega)]
      have hK : (a + c - 1) / c ≤ a + c - 1 := Nat.div_le_self _ _
      have hK1 : 1 ≤ (a + c - 1) / c := (Nat.le_div_iff_mul_le hcp).mpr (by omega)
      rw [show (if nI ((a + c - 1) / c) < nI m then nI ((a + c - 1) / c) else nI m) = nI (min m ((a + c - 1) / c)) by
        by_cases hk : (a + c - 1) / c < m
        · rw [if_pos ((pv_lt (by omega) (by omega)).mpr hk), Nat.min_eq_right (by omega)]
        · rw [if_neg (fun z => hk ((pv_lt (by omega) (by omega)).mp z)), Nat.min_eq_left (by omega)]]
      have hB := pv_Bc a c hcp m
      generalize hw : min m ((a + c - 1) / c) = w at hB ⊢
      have hw1 : 1 ≤ w := by omega
      have hw2 : w ≤ 1023 := by omega
      have e1 : w * (w - 1) ≤ 1023 * 1023 := Nat.mul_le_mul hw2 (by omega)
      have e2 : w * a ≤ 1023 * 99 := Nat.mul_le_mul hw2 ha
      rw [pv_tw w hw1, pk_mul, pk_mul, pv_two, pk_div (by omega) (by omega) (by omega), pv_tri_h w hw1, pk_mul, pk_sub (by omega), ← hB, Nat.add_sub_cancel]
  · rw [if_neg h0]
    rw [Int32.lt_iff_toInt_lt, t32_0] at h0
    have : a = 0 := by rcases hx with h | h <;> omega
    subst this
    rw [pv_Bz]; rfl
/-- from which minute on it is baked v (a thousand: never) -/
def pv_F (a c v f : Nat) : Prop := 1 ≤ f ∧ f ≤ 1000 ∧ ∀ m, 1 ≤ m → m ≤ 999 → (v ≤ pv_B a c m ↔ f ≤ m)
theorem pv_F.uniq {a c v f f' : Nat} (h : pv_F a c v f) (h' : pv_F a c v f') : f = f' := by
  obtain ⟨h1, h2, h3⟩ := h
  obtain ⟨g1, g2, g3⟩ := h'
  rcases Nat.lt_trichotomy f f' with z | z | z
  · have e1 := h3 f h1 (by omega)
    have e2 := g3 f h1 (by omega)
    have := e2.mp (e1.mpr (Nat.le_refl _))
    omega
  · exact z
  · have e1 := h3 f' g1 (by omega)
    have e2 := g3 f' g1 (by omega)
    have := e1.mp (e2.mpr (Nat.le_refl _))
    omega
theorem pv_half : ∀ k, k < 10 → nI (2 ^ k) >>> ((1 : Int32) &&& 31) = (if k = 0 then 0 else nI (2 ^ (k - 1))) := by decide +kernel
theorem pv_firstMinute (N : Nat) (hN : 1000 ≤ N) {x0 : Int32} {a c v : Nat} (ha : a ≤ 99) (hx : x0.toInt = (a : Int) ∨ (x0.toInt ≤ 0 ∧ a = 0)) (hc : c ≤ 9) (hv : v ≤ 100000) : ∃ f, f_X7_firstMinute N x0 (nI c) (nI v) = some (nI f) ∧ pv_F a c v f := by
  unfold f_X7_firstMinute
  -- what fits: m ≤ 999 and less baked than v
  have key : ∃ r : Int32, (∃ b : Nat, r = nI b ∧ b ≤ 999 ∧ (b = 0 ∨ pv_B a c b < v) ∧ ¬ (b + 1 ≤ 999 ∧ pv_B a c (b + 1) < v)) ∧ fx_it (lf_X7_firstMinute_7 N x0 (nI c) (nI v)) N ((0 : Int32), (512 : Int32)) = some r := by
    refine pv_it (b := lf_X7_firstMinute_7 N x0 (nI c) (nI v)) (fun s => ∃ b : Nat, s.1 = nI b ∧ b ≤ 999 ∧ (b = 0 ∨ pv_B a c b < v) ∧ ((s.2 = 0 ∧ ¬ (b + 1 ≤ 999 ∧ pv_B a c (b + 1) < v)) ∨ ∃ k, k < 10 ∧ s.2 = nI (2 ^ k) ∧ ¬ (b + 2 * 2 ^ k ≤ 999 ∧ pv_B a c (b + 2 * 2 ^ k) < v))) (fun s => s.2.toNatClampNeg) _ ?_ N _ ⟨0, rfl, by omega, Or.inl rfl, Or.inr ⟨9, by omega, rfl, by omega⟩⟩ ?_
    · rintro ⟨s1, s2⟩ ⟨b, e1, hb, hb2, h⟩
      dsimp only at e1 h
      subst e1
      unfold lf_X7_firstMinute_7 bd_X7_firstMinute_7
      dsimp only
      rcases h with ⟨e2, h⟩ | ⟨k, hk, e2, h⟩
      · subst e2
        exact Or.inl ⟨nI b, ⟨b, rfl, hb, hb2, h⟩, fun rec => by rw [if_pos (by decide)]⟩
      · subst e2
        have hp : 1 ≤ 2 ^ k ∧ 2 ^ k ≤ 512 := by
          rcases (show k = 0 ∨ k = 1 ∨ k = 2 ∨ k = 3 ∨ k = 4 ∨ k = 5 ∨ k = 6 ∨ k = 7 ∨ k = 8 ∨ k = 9 by omega) with rfl | rfl | rfl | rfl | rfl | rfl | rfl | rfl | rfl | rfl <;> decide
        have hnz : ¬ nI (2 ^ k) ≤ 0 := by rw [pv_zero, pv_le (by omega) (by omega)]; omega
        simp only [if_neg hnz, lte, nI_add, pv_half k hk]
        -- the next step's number
        have nxt : ∀ b' : Nat, b' ≤ 999 → (b' = 0 ∨ pv_B a c b' < v) → ¬ (b' + 2 ^ k ≤ 999 ∧ pv_B a c (b' + 2 ^ k) < v) → ∃ b0 : Nat, nI b' = nI b0 ∧ b0 ≤ 999 ∧ (b0 = 0 ∨ pv_B a c b0 < v) ∧ (((if k = 0 then (0 : Int32) else nI (2 ^ (k - 1))) = 0 ∧ ¬ (b0 + 1 ≤ 999 ∧ pv_B a c (b0 + 1) < v)) ∨ ∃ k', k' < 10 ∧ (if k = 0 then (0 : Int32) else nI (2 ^ (k - 1))) = nI (2 ^ k') ∧ ¬ (b0 + 2 * 2 ^ k' ≤ 999 ∧ pv_B a c (b0 + 2 * 2 ^ k') < v)) := by
          intro b' q1 q2 q3
          refine ⟨b', rfl, q1, q2, ?_⟩
          by_cases hk0 : k = 0
          · subst hk0
            exact Or.inl ⟨if_pos rfl, q3⟩
          · refine Or.inr ⟨k - 1, by omega, if_neg hk0, ?_⟩
            have : 2 * 2 ^ (k - 1) = 2 ^ k := by rw [Nat.mul_comm, ← Nat.pow_succ]; congr 1; omega
            rw [this]; exact q3
        have mes : (if k = 0 then (0 : Int32) else nI (2 ^ (k - 1))).toNatClampNeg < (nI (2 ^ k)).toNatClampNeg := by
          rw [nI_clamp (by omega)]
          by_cases hk0 : k = 0
          · rw [if_pos hk0]; exact hp.1
          · rw [if_neg hk0]
            have h1 : 2 * 2 ^ (k - 1) = 2 ^ k := by rw [Nat.mul_comm, ← Nat.pow_succ]; congr 1; omega
            rw [nI_clamp (by omega)]; omega
        by_cases h9 : 999 < b + 2 ^ k
        · refine Or.inr ⟨(nI b, if k = 0 then (0 : Int32) else nI (2 ^ (k - 1))), nxt b hb hb2 (by omega), mes, fun rec => ?_⟩
          rw [if_pos (show (999 : Int32) < nI (b + 2 ^ k) from (pv_lt (a := 999) (by omega) (by omega)).mpr h9), b1e]
        · have hbb := pv_bakedBehind N (x0 := x0) (a := a) (c := c) (m := b + 2 ^ k) ha hx hc (by omega) (by omega)
          have hB9 : pv_B a c (b + 2 ^ k) ≤ 99 * 999 := Nat.le_trans (pv_Ble _ _ _) (Nat.mul_le_mul ha (by omega))
          by_cases hlt : pv_B a c (b + 2 ^ k) < v
          · refine Or.inr ⟨(nI (b + 2 ^ k), if k = 0 then (0 : Int32) else nI (2 ^ (k - 1))), nxt (b + 2 ^ k) (by omega) (Or.inr hlt) (by rw [show b + 2 ^ k + 2 ^ k = b + 2 * 2 ^ k by omega]; exact h), mes, fun rec => ?_⟩
            rw [if_neg (show ¬ (999 : Int32) < nI (b + 2 ^ k) from fun z => h9 ((pv_lt (a := 999) (by omega) (by omega)).mp z)), hbb, b1e, if_neg (fun z => by have := (pv_le (by omega) (by omega)).mp z; omega), b1e]
          · refine Or.inr ⟨(nI b, if k = 0 then (0 : Int32) else nI (2 ^ (k - 1))), nxt b hb hb2 (fun z => hlt z.2), mes, fun rec => ?_⟩
            rw [if_neg (show ¬ (999 : Int32) < nI (b + 2 ^ k) from fun z => h9 ((pv_lt (a := 999) (by omega) (by omega)).mp z)), hbb, b1e, if_pos ((pv_le (by omega) (by omega)).mpr (by omega)), b1e]
    · show (512 : Int32).toNatClampNeg < N
      rw [show (512 : Int32).toNatClampNeg = 512 from rfl]; omega
  obtain ⟨r, ⟨b, rfl, h1, h2, h3⟩, he⟩ := key
  rw [he, b1e, nI_1]
  refine ⟨b + 1, rfl, by omega, by omega, fun m m1 m2 => ⟨fun hh => ?_, fun hh => ?_⟩⟩
  · rcases h2 with h2 | h2
    · omega
    · apply Nat.lt_of_not_le
      intro z
      have := pv_Bmono2 a c z
      omega
  · have := pv_Bmono2 a c hh
    by_cases q : b + 1 ≤ 999
    · have : ¬ pv_B a c (b + 1) < v := fun z => h3 ⟨q, z⟩
      omega
    · omega
