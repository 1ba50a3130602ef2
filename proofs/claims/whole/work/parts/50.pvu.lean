/-! one order: its number, and when all are out -/
def pv_nu (o : Nat → Nat) : Nat → Nat
  | 0 => 0
  | i + 1 => 10 * pv_nu o i + o i + 1
theorem pv_nu_lt {o : Nat → Nat} : ∀ n, (∀ j, j < n → o j ≤ 5) → pv_nu o n < 10 ^ n := by
  intro n
  induction n with
  | zero => intro _; exact Nat.zero_lt_one
  | succ n ih =>
    intro h
    have h1 := ih (fun j hj => h j (by omega))
    have h2 := h n (by omega)
    rw [Nat.pow_succ]
    show 10 * pv_nu o n + o n + 1 < _
    omega
theorem pv_nu_b {o : Nat → Nat} {n : Nat} (hn : n ≤ 6) (h : ∀ j, j < n → o j ≤ 5) (i : Nat) (hi : i ≤ n) : pv_nu o i < 1000000 := by
  have h1 := pv_nu_lt i (fun j hj => h j (by omega))
  have h2 : 10 ^ i ≤ 10 ^ 6 := Nat.pow_le_pow_right (by omega) (by omega)
  omega
theorem pv_nu_d {o : Nat → Nat} {i : Nat} (h : o i ≤ 5) : pv_nu o (i + 1) / 10 = pv_nu o i := by
  show (10 * pv_nu o i + o i + 1) / 10 = _
  omega
theorem pv_ten : (10 : Int32) = nI 10 := rfl
theorem pv_num7 (N : Nat) (hN : 100 ≤ N) {B : St} {o : Nat → Nat} {n : Nat} (hn : n ≤ 6) (hF : ∀ j, j < n → B.2 4 j = nI (o j)) : f_X1_numberOf N B (nI n) = some (nI (pv_nu o n)) := by
  unfold f_X1_numberOf
  rw [show ((0 : Int32), (0 : Int32)) = (nI (pv_nu o 0), nI 0) from rfl, pv_run (b := lf_X1_numberOf_4 N (nI n) B) (fun i => (nI (pv_nu o i), nI i)) n (nI (pv_nu o n)) (fun i hi rec => by
    unfold lf_X1_numberOf_4 bd_X1_numberOf_4
    dsimp only
    rw [if_neg (fun z => by have := (pv_le (by omega) (by omega)).mp z; omega), pv_aldn (by omega) (by omega), hF i hi, lte, lte, pv_ten, pk_mul, nI_add, nI_1, nI_1, Nat.mul_comm]; rfl) (fun rec => by
    unfold lf_X1_numberOf_4 bd_X1_numberOf_4
    dsimp only
    rw [if_pos (Int32.le_refl _)]) N 0 (by omega) (by omega), b1e]
theorem pv_num8 (N : Nat) (hN : 100 ≤ N) {M : St} {o : Nat → Nat} {n : Nat} (hn : n ≤ 6) (em : M.1 35 = nI n) (hF : ∀ j, j < n → M.2 34 j = nI (o j)) : f_X8_rowNumber N M = some (nI (pv_nu o n)) := by
  unfold f_X8_rowNumber
  rw [show ((0 : Int32), (0 : Int32)) = (nI (pv_nu o 0), nI 0) from rfl, pv_run (b := lf_X8_rowNumber_4 N M) (fun i => (nI (pv_nu o i), nI i)) n (nI (pv_nu o n)) (fun i hi rec => by
    unfold lf_X8_rowNumber_4 bd_X8_rowNumber_4
    dsimp only
    rw [em, if_neg (fun z => by have := (pv_le (by omega) (by omega)).mp z; omega), pv_aldn (by omega) (by omega), hF i hi, lte, lte, pv_ten, pk_mul, nI_add, nI_1, nI_1]; rfl) (fun rec => by
    unfold lf_X8_rowNumber_4 bd_X8_rowNumber_4
    dsimp only
    rw [em, if_pos (Int32.le_refl _)]) N 0 (by omega) (by omega), b1e]
/-- all out from place p on, the minute being m -/
def pv_mo (t1 t2 : Nat → Nat → Nat) (o : Nat → Nat) : Nat → Nat → Option Nat
  | 0, m => some m
  | p + 1, m => if max m (t1 (o p) p) < t2 (o p) p then pv_mo t1 t2 o p (max m (t1 (o p) p)) else none
def pv_rt (x : Option Nat) : Nat × Int32 := match x with
  | some r => (1, nI r)
  | none => (0, 0)
def pv_mi (x : Option Nat) : Int32 := match x with
  | some r => nI r
  | none => -6
theorem pv_mo_s (t1 t2 : Nat → Nat → Nat) (o : Nat → Nat) (p m : Nat) : pv_mo t1 t2 o (p + 1) m = if max m (t1 (o p) p) < t2 (o p) p then pv_mo t1 t2 o p (max m (t1 (o p) p)) else none := rfl
theorem pv_mo_le {t1 t2 : Nat → Nat → Nat} {o : Nat → Nat} : ∀ (p m : Nat), (∀ q, q < p → t2 (o q) q ≤ 1000) → m ≤ 1000 → ∀ r, pv_mo t1 t2 o p m = some r → r ≤ 1000 := by
  intro p
  induction p with
  | zero => intro m _ hm r h; have := Option.some.inj h; omega
  | succ p ih =>
    intro m ht hm r h
    rw [pv_mo_s] at h
    by_cases z : max m (t1 (o p) p) < t2 (o p) p
    · rw [if_pos z] at h
      have := ht p (by omega)
      exact ih _ (fun q hq => ht q (by omega)) (by omega) r h
    · rw [if_neg z] at h; cases h
theorem pv_mo7 (N : Nat) {B : St} {t1 t2 : Nat → Nat → Nat} {o : Nat → Nat} {n : Nat} (hn : n ≤ 6) (ho : ∀ j, j < n → o j ≤ 5) (hF : ∀ j, j < n → B.2 4 j = nI (o j)) (hT : ∀ p, p < n → B.2 2 (6 * o p + p) = nI (t1 (o p) p) ∧ B.2 3 (6 * o p + p) = nI (t2 (o p) p) ∧ t1 (o p) p ≤ 1000 ∧ t2 (o p) p ≤ 1000) : ∀ p, p ≤ n → ∀ m, m ≤ 1000 → ∀ f : Nat, p < f → fx_it (lf_X1_minuteAllOut_6 N B) f (nI m, nI p - 1) = some (pv_rt (pv_mo t1 t2 o p m)) := by
  intro p
  induction p with
  | zero =>
    intro _ m hm f hf
    obtain ⟨f, rfl⟩ : ∃ q, f = q + 1 := ⟨f - 1, by omega⟩
    show lf_X1_minuteAllOut_6 N B (nI m, nI 0 - 1) _ = _
    unfold lf_X1_minuteAllOut_6 bd_X1_minuteAllOut_6
    dsimp only
    rw [if_pos (by decide)]; rfl
  | succ p ih =>
    intro hp m hm f hf
    obtain ⟨f, rfl⟩ : ∃ q, f = q + 1 := ⟨f - 1, by omega⟩
    obtain ⟨h1, h2, h3, h4⟩ := hT p (by omega)
    have h5 := ho p (by omega)
    show lf_X1_minuteAllOut_6 N B (nI m, nI (p + 1) - 1) (fx_it (lf_X1_minuteAllOut_6 N B) f) = _
    have ih := fun m hm => ih (by omega) m hm f (by omega)
    generalize fx_it (lf_X1_minuteAllOut_6 N B) f = rec at ih ⊢
    rw [pv_tw (p + 1) (by omega), Nat.add_sub_cancel, pv_mo_s]
    unfold lf_X1_minuteAllOut_6 bd_X1_minuteAllOut_6
    dsimp only
    have hmx : (if nI m < nI (t1 (o p) p) then nI (t1 (o p) p) else nI m) = nI (max m (t1 (o p) p)) := by
      by_cases z : m < t1 (o p) p
      · rw [if_pos ((pv_lt (by omega) (by omega)).mpr z), Nat.max_eq_right (by omega)]
      · rw [if_neg (fun q => z ((pv_lt (by omega) (by omega)).mp q)), Nat.max_eq_left (by omega)]
    rw [if_neg (show ¬ nI p < 0 from fun z => by have := (pv_lt (b := 0) (by omega) (by omega)).mp z; omega), pv_aldn (by omega) (by omega), hF p (by omega), pv_at, b1e, pv_aldn (by omega) (by omega), h1, hmx, lte, pv_aldn (by omega) (by omega), h2, lte, ← pv_subneg]
    by_cases z : max m (t1 (o p) p) < t2 (o p) p
    · rw [if_pos z, if_pos ((pv_lt (by omega) (by omega)).mpr z)]
      exact ih _ (by omega)
    · rw [if_neg z, if_neg (fun q => z ((pv_lt (by omega) (by omega)).mp q))]; rfl
theorem pv_min7 (N : Nat) (hN : 100 ≤ N) {B : St} {t1 t2 : Nat → Nat → Nat} {o : Nat → Nat} {n : Nat} (hn : n ≤ 6) (ho : ∀ j, j < n → o j ≤ 5) (hF : ∀ j, j < n → B.2 4 j = nI (o j)) (hT : ∀ p, p < n → B.2 2 (6 * o p + p) = nI (t1 (o p) p) ∧ B.2 3 (6 * o p + p) = nI (t2 (o p) p) ∧ t1 (o p) p ≤ 1000 ∧ t2 (o p) p ≤ 1000) : f_X1_minuteAllOut N B (nI n) = some (pv_mi (pv_mo t1 t2 o n 0)) := by
  unfold f_X1_minuteAllOut
  rw [lte, show ((0 : Int32), nI n - 1) = (nI 0, nI n - 1) from rfl, pv_mo7 N hn ho hF hT n (by omega) 0 (by omega) N (by omega)]
  cases pv_mo t1 t2 o n 0 with
  | none => rfl
  | some r => rfl
theorem pv_mo8 (N : Nat) {M : St} {t1 t2 : Nat → Nat → Nat} {o : Nat → Nat} {n : Nat} (hn : n ≤ 6) (ho : ∀ j, j < n → o j ≤ 5) (hT : ∀ p, p < n → M.2 32 (6 * o p + p) = pv_u (t1 (o p) p) (t2 (o p) p) ∧ M.2 33 (6 * o p + p) = pv_w (t1 (o p) p) (t2 (o p) p) ∧ t1 (o p) p ≤ 1000 ∧ t2 (o p) p ≤ 1000) : ∀ p, p ≤ n → ∀ m, m ≤ 1000 → ∀ f : Nat, p < f → fx_it (lf_X8_outBy_48 N M) f (nI m, nI (pv_nu o p), nI p - 1) = some (pv_rt (pv_mo t1 t2 o p m)) := by
  intro p
  induction p with
  | zero =>
    intro _ m hm f hf
    obtain ⟨f, rfl⟩ : ∃ q, f = q + 1 := ⟨f - 1, by omega⟩
    show lf_X8_outBy_48 N M (nI m, nI (pv_nu o 0), nI 0 - 1) _ = _
    unfold lf_X8_outBy_48 bd_X8_outBy_48
    dsimp only
    rw [if_pos (by decide)]; rfl
  | succ p ih =>
    intro hp m hm f hf
    obtain ⟨f, rfl⟩ : ∃ q, f = q + 1 := ⟨f - 1, by omega⟩
    obtain ⟨h1, h2, h3, h4⟩ := hT p (by omega)
    have h5 := ho p (by omega)
    have hb := pv_nu_b hn ho (p + 1) hp
    show lf_X8_outBy_48 N M (nI m, nI (pv_nu o (p + 1)), nI (p + 1) - 1) (fx_it (lf_X8_outBy_48 N M) f) = _
    have ih := fun m hm => ih (by omega) m hm f (by omega)
    generalize fx_it (lf_X8_outBy_48 N M) f = rec at ih ⊢
    rw [pv_tw (p + 1) (by omega), Nat.add_sub_cancel, pv_mo_s]
    unfold lf_X8_outBy_48 bd_X8_outBy_48
    dsimp only
    have hat : (6 : Int32) * (nI (pv_nu o (p + 1)) - nI (pv_nu o (p + 1)) / 10 * 10 - 1) + nI p = nI (6 * o p + p) := by
      rw [pv_d10 _ hb, pv_nu_d h5, pv_ten, pk_mul, show pv_nu o (p + 1) = 10 * pv_nu o p + o p + 1 from rfl, pk_sub (by omega), pv_tw _ (by omega), pv_six, pk_mul, nI_add]
      congr 1
      omega
    rw [if_neg (show ¬ nI p < 0 from fun z => by have := (pv_lt (b := 0) (by omega) (by omega)).mp z; omega), hat, lte, pv_aldn (by omega) (by omega), pv_aldn (by omega) (by omega), h1]
    by_cases z : t1 (o p) p < t2 (o p) p
    · have hu : pv_u (t1 (o p) p) (t2 (o p) p) = nI (t1 (o p) p) := if_pos z
      have hw : pv_w (t1 (o p) p) (t2 (o p) p) = nI (t2 (o p) p - 1) := if_pos z
      have hmx : (if nI (t1 (o p) p) ≤ nI m then some (nI m) else some (nI (t1 (o p) p))) = some (nI (max m (t1 (o p) p))) := by
        by_cases w : t1 (o p) p ≤ m
        · rw [if_pos ((pv_le (by omega) (by omega)).mpr w), Nat.max_eq_left (by omega)]
        · rw [if_neg (fun q => w ((pv_le (by omega) (by omega)).mp q)), Nat.max_eq_right (by omega)]
      rw [hu, hmx, b1e, pv_aldn (by omega) (by omega), h1, hu, if_neg (show ¬ nI (t1 (o p) p) < 0 from fun z => by have := (pv_lt (b := 0) (by omega) (by omega)).mp z; omega), pv_aldn (by omega) (by omega), h2, hw, lte, lte, pv_d10 _ hb, pv_nu_d h5, ← pv_subneg]
      by_cases w : max m (t1 (o p) p) < t2 (o p) p
      · rw [if_pos w, if_pos ((pv_le (by omega) (by omega)).mpr (by omega))]
        exact ih _ (by omega)
      · rw [if_neg w, if_neg (fun q => w (by have := (pv_le (by omega) (by omega)).mp q; omega))]; rfl
    · have hu : pv_u (t1 (o p) p) (t2 (o p) p) = -6 := if_neg z
      have hle : (-6 : Int32) ≤ nI m := by
        rw [Int32.le_iff_toInt_le, pv_nI _ (by omega)]
        have : (-6 : Int32).toInt = -6 := by decide
        omega
      rw [hu, if_pos hle, b1e, pv_aldn (by omega) (by omega), h1, hu, if_pos (by decide), if_neg (by omega)]; rfl
theorem pv_out8 (N : Nat) (hN : 100 ≤ N) {M : St} {t1 t2 : Nat → Nat → Nat} {o : Nat → Nat} {n pl : Nat} (hn : n ≤ 6) (ep : M.1 1 = nI pl) (hpl : pl ≤ 6) (ho : ∀ j, j < n → o j ≤ 5) (h1 : ∀ p, p < n → 1 ≤ t1 (o p) p) (hT : n ≤ pl → ∀ p, p < n → M.2 32 (6 * o p + p) = pv_u (t1 (o p) p) (t2 (o p) p) ∧ M.2 33 (6 * o p + p) = pv_w (t1 (o p) p) (t2 (o p) p) ∧ t1 (o p) p ≤ 1000 ∧ t2 (o p) p ≤ 1000) : f_X8_outBy N M (nI (pv_nu o n)) = some (if n ≤ pl then pv_mi (pv_mo t1 t2 o n 0) else -6) := by
  unfold f_X8_outBy
  rw [show ((0 : Int32), nI (pv_nu o n)) = (nI 0, nI (pv_nu o (n - 0))) from rfl, pv_run (b := lf_X8_outBy_4 N (nI (pv_nu o n)) M) (fun i => (nI i, nI (pv_nu o (n - i)))) n (nI n) (fun i hi rec => by
    unfold lf_X8_outBy_4 bd_X8_outBy_4
    dsimp only
    have hb := pv_nu_b hn ho (n - i) (by omega)
    have e : n - i = (n - (i + 1)) + 1 := by omega
    have hp : 0 < pv_nu o (n - i) := by rw [e]; exact Nat.succ_pos _
    rw [if_neg (show ¬ nI (pv_nu o (n - i)) ≤ 0 from fun z => by have := (pv_le (b := 0) (by omega) (by omega)).mp z; omega), lte, lte, nI_1, pv_d10 _ hb, e, pv_nu_d (ho _ (by omega))]) (fun rec => by
    unfold lf_X8_outBy_4 bd_X8_outBy_4
    dsimp only
    rw [Nat.sub_self, show pv_nu o 0 = 0 from rfl, if_pos (show nI 0 ≤ 0 by decide)]) N 0 (by omega) (by omega), b1e, ep]
  by_cases z : n ≤ pl
  · rw [if_pos z, if_pos ((pv_le (by omega) (by omega)).mpr z)]
    by_cases e : n = 0
    · subst e
      obtain ⟨N, rfl⟩ : ∃ q, N = q + 1 := ⟨N - 1, by omega⟩
      rw [if_pos (show nI (pv_nu o 0) = 0 from rfl), b1e, lte]
      rfl
    · have hb := pv_nu_b hn ho n (by omega)
      have hp : 0 < pv_nu o n := by rw [show n = (n - 1) + 1 by omega]; exact Nat.succ_pos _
      rw [if_neg (show ¬ nI (pv_nu o n) = 0 from fun z => by have := (pv_eq (b := 0) (by omega) (by omega)).mp z; omega), b1e, lte, show ((1 : Int32), nI (pv_nu o n), nI n - 1) = (nI 1, nI (pv_nu o n), nI n - 1) from rfl, pv_mo8 N hn ho (hT z) n (by omega) 1 (by omega) N (by omega)]
      have e1 : pv_mo t1 t2 o n 1 = pv_mo t1 t2 o n 0 := by
        obtain ⟨q, rfl⟩ : ∃ q, n = q + 1 := ⟨n - 1, by omega⟩
        have := h1 q (by omega)
        rw [pv_mo_s, pv_mo_s, Nat.max_eq_right (by omega), Nat.max_eq_right (by omega)]
      rw [e1]
      cases pv_mo t1 t2 o n 0 with
      | none => rfl
      | some r => rfl
  · rw [if_neg z, if_neg (fun q => z ((pv_le (by omega) (by omega)).mp q))]
