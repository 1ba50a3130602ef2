/-! winds: sums over all sets of minutes -/
def pv_sum (f : Nat → Nat) : Nat → Nat
  | 0 => 0
  | n + 1 => pv_sum f n + f n
theorem pv_sum_add (f : Nat → Nat) (a b : Nat) : pv_sum f (a + b) = pv_sum f a + pv_sum (fun x => f (a + x)) b := by
  induction b with
  | zero => rfl
  | succ b ih => rw [← Nat.add_assoc]; simp only [pv_sum]; rw [ih]; omega
theorem pv_sum_congr {f g : Nat → Nat} {n : Nat} (h : ∀ x, x < n → f x = g x) : pv_sum f n = pv_sum g n := by
  induction n with
  | zero => rfl
  | succ n ih => simp only [pv_sum]; rw [ih (fun x hx => h x (by omega)), h n (by omega)]
theorem pv_sum_mul (f : Nat → Nat) (k n : Nat) : pv_sum (fun x => f x * k) n = pv_sum f n * k := by
  induction n with
  | zero => simp [pv_sum]
  | succ n ih => simp only [pv_sum]; rw [ih, Nat.add_mul]
theorem pv_sum_le {f g : Nat → Nat} (h : ∀ x, f x ≤ g x) (n : Nat) : pv_sum f n ≤ pv_sum g n := by
  induction n with
  | zero => exact Nat.le_refl _
  | succ n ih => simp only [pv_sum]; have := h n; omega
theorem pv_sum_mono (f : Nat → Nat) {a b : Nat} (h : a ≤ b) : pv_sum f a ≤ pv_sum f b := by
  obtain ⟨c, rfl⟩ : ∃ c, b = a + c := ⟨b - a, by omega⟩
  rw [pv_sum_add]; omega
def pv_wt (t x : Nat) : Nat → Nat
  | 0 => 1
  | k + 1 => pv_wt t x k * (if x / 2 ^ k % 2 = 1 then t else 10 - t)
theorem pv_wt_low (t m x : Nat) : ∀ k, k ≤ m → pv_wt t (2 ^ m + x) k = pv_wt t x k := by
  intro k
  induction k with
  | zero => intro _; rfl
  | succ k ih =>
    intro hk
    simp only [pv_wt]
    rw [ih (by omega)]
    have e : (2 ^ m + x) / 2 ^ k % 2 = x / 2 ^ k % 2 := by
      have : 2 ^ m = 2 ^ k * (2 * 2 ^ (m - k - 1)) := by rw [← Nat.pow_succ', ← Nat.pow_add]; congr 1; omega
      rw [this, Nat.add_comm, Nat.add_mul_div_left _ _ (Nat.two_pow_pos k)]
      omega
    rw [e]
theorem pv_wt_sum (t m : Nat) (ht : t ≤ 10) : pv_sum (fun x => pv_wt t x m) (2 ^ m) = 10 ^ m := by
  induction m with
  | zero => rfl
  | succ m ih =>
    rw [Nat.pow_succ, Nat.mul_two, pv_sum_add]
    rw [pv_sum_congr (g := fun x => pv_wt t x m * (10 - t)) (fun x hx => by
      simp only [pv_wt]; rw [Nat.div_eq_of_lt hx]; rfl)]
    rw [pv_sum_congr (f := fun x => pv_wt t (2 ^ m + x) (m + 1)) (g := fun x => pv_wt t x m * t) (fun x hx => by
      simp only [pv_wt]
      rw [pv_wt_low t m x m (Nat.le_refl _), if_pos]
      rw [Nat.add_div_left _ (Nat.two_pow_pos m), Nat.div_eq_of_lt hx])]
    rw [pv_sum_mul, pv_sum_mul, ih, ← Nat.mul_add, Nat.pow_succ]
    congr 1
    omega
def pv_pcn (x : Nat) : Nat → Nat
  | 0 => 0
  | k + 1 => pv_pcn x k + x / 2 ^ k % 2
theorem pv_pcn_le (x m : Nat) : pv_pcn x m ≤ m := by
  induction m with
  | zero => exact Nat.le_refl _
  | succ m ih => simp only [pv_pcn]; omega
theorem pv_wt_pow (t x m : Nat) : pv_wt t x m = t ^ pv_pcn x m * (10 - t) ^ (m - pv_pcn x m) := by
  induction m with
  | zero => rfl
  | succ m ih =>
    have hl := pv_pcn_le x m
    simp only [pv_wt, pv_pcn]
    rw [ih]
    by_cases h : x / 2 ^ m % 2 = 1
    · rw [if_pos h, h, Nat.pow_succ, show m + 1 - (pv_pcn x m + 1) = m - pv_pcn x m by omega, Nat.mul_right_comm]
    · rw [if_neg h, show x / 2 ^ m % 2 = 0 by omega, Nat.add_zero, show m + 1 - pv_pcn x m = (m - pv_pcn x m) + 1 by omega, Nat.pow_succ, Nat.mul_assoc]
theorem pv_pcn_hi (x m : Nat) (hx : x < 2 ^ m) : ∀ k, m ≤ k → pv_pcn x k = pv_pcn x m := by
  intro k
  induction k with
  | zero => intro h; rw [Nat.le_zero.mp h]
  | succ k ih =>
    intro h
    by_cases e : m = k + 1
    · rw [e]
    · simp only [pv_pcn]
      rw [ih (by omega), Nat.div_eq_of_lt (Nat.lt_of_lt_of_le hx (Nat.pow_le_pow_right (by omega) (by omega))), Nat.zero_mod, Nat.add_zero]
theorem pv_bc10 : ∀ x, x < 1024 → f_J6_bitCount_0f7a4 0 (nI x) = some (nI (pv_pcn x 10)) := by decide +kernel
theorem pv_shk : ∀ k, k < 32 → ((nI k &&& 31).toBitVec.smod 32).toNat = k := by decide +kernel
theorem pv_bit (x k : Nat) (hx : x < 2147483648) (hk : k < 32) : (((nI x >>> (nI k &&& 31)) &&& (1 : Int32)) = 1) ↔ x / 2 ^ k % 2 = 1 := by
  rw [pk_shrN (by omega) (nI k &&& 31) k (pv_shk k hk)]
  have hlt : x / 2 ^ k < 4294967296 := Nat.lt_of_le_of_lt (Nat.div_le_self _ _) (by omega)
  rw [pk_andN (by omega) (m := 1) 1 (by decide), show (1 : Int32) = nI 1 from rfl, pv_eq (by omega) (by omega)]
theorem pv_2m : ∀ m, m < 11 → (1 : Int32) <<< (nI m &&& 31) = nI (2 ^ m) := by decide +kernel
theorem pv_2mle (m : Nat) (hm : m ≤ 10) : 2 ^ m ≤ 1024 := Nat.pow_le_pow_right (n := 2) (by omega) hm
theorem pv_10le (b e : Nat) (hb : b ≤ 10) (he : e ≤ 10) : b ^ e ≤ 10000000000 := Nat.le_trans (Nat.pow_le_pow_left hb e) (Nat.pow_le_pow_right (n := 10) (by omega) he)
theorem pv_power (N : Nat) (hN : 100 ≤ N) (b e : Nat) (hb : b ≤ 10) (he : e ≤ 10) : f_X7_power N (nI b) (nI e) = some (lN (b ^ e)) := by
  unfold f_X7_power
  have hrun := pv_run (b := lf_X7_power_5 N (nI b) (nI e)) (fun i => (lN (b ^ i), nI i)) e (lN (b ^ e)) (fun i hi rec => by
    unfold lf_X7_power_5 bd_X7_power_5
    dsimp only
    rw [if_neg (fun z => by have := (pv_le (by omega) (by omega)).mp z; omega), lte, lte, nI_l (by omega), lN_mul, nI_1, Nat.pow_succ]) (fun rec => by
    unfold lf_X7_power_5 bd_X7_power_5
    dsimp only
    rw [if_pos (Int32.le_refl _)]) N 0 (by omega) (by omega)
  rw [show (((1 : Int64), (0 : Int32)) : Int64 × Int32) = (lN (b ^ 0), nI 0) from rfl, hrun, b1e]
/-! the greatest common divisor, both ways -/
theorem pv_lz {x : Nat} (hx : x < 9223372036854775808) : (lg_cmp (lN x) (0 : Int64) = 0) ↔ x = 0 := by
  rw [lg_cmp_eq, show (0 : Int64) = lN 0 from rfl, pk_lEQ (by omega) (by omega)]
theorem pv_halfmod {b r : Nat} (h0 : 0 < r) (h : r < b) : b % r ≤ b / 2 := by
  by_cases z : 2 * r ≤ b
  · have := Nat.mod_lt b h0
    omega
  · have e : b % r = b - r := by
      rw [Nat.mod_eq_sub_mod (by omega), Nat.mod_eq_of_lt (by omega)]
    omega
theorem pv_gcd8 (N : Nat) (x0 x2 : Int64) (x4 : Int32) : ∀ (k a b n : Nat), a < 9223372036854775808 → b < 9223372036854775808 → b < 2 ^ k → 2 * k < n → fx_it (lf_X8_lowest_6 N x0 x2 x4) n (lN a, lN b) = some (lN (Nat.gcd a b)) := by
  have stop : ∀ (a n : Nat), fx_it (lf_X8_lowest_6 N x0 x2 x4) (n + 1) (lN a, lN 0) = some (lN (Nat.gcd a 0)) := by
    intro a n
    show lf_X8_lowest_6 N x0 x2 x4 (lN a, lN 0) _ = _
    unfold lf_X8_lowest_6 bd_X8_lowest_6
    dsimp only
    rw [if_pos ((pv_lz (by omega)).mpr rfl), Nat.gcd_zero_right]
  have step : ∀ (a b n : Nat), a < 9223372036854775808 → b < 9223372036854775808 → 0 < b → fx_it (lf_X8_lowest_6 N x0 x2 x4) (n + 1) (lN a, lN b) = fx_it (lf_X8_lowest_6 N x0 x2 x4) n (lN b, lN (a % b)) := by
    intro a b n ha hb h0
    show lf_X8_lowest_6 N x0 x2 x4 (lN a, lN b) _ = _
    unfold lf_X8_lowest_6 bd_X8_lowest_6
    dsimp only
    rw [if_neg (fun z => by have := (pv_lz hb).mp z; omega)]
    unfold fx_nzl
    rw [if_neg (by rw [show (0 : Int64) = lN 0 from rfl, pk_lEQ (by omega) (by omega)]; omega), lte, pk_lRem (by omega) h0 (by omega)]
  intro k
  induction k with
  | zero =>
    intro a b n ha hb hk hn
    obtain ⟨n, rfl⟩ : ∃ q, n = q + 1 := ⟨n - 1, by omega⟩
    have : b = 0 := by simpa using hk
    subst this
    exact stop a n
  | succ k ih =>
    intro a b n ha hb hk hn
    by_cases h0 : b = 0
    · subst h0
      obtain ⟨n, rfl⟩ : ∃ q, n = q + 1 := ⟨n - 1, by omega⟩
      exact stop a n
    · obtain ⟨n, rfl⟩ : ∃ q, n = q + 1 + 1 := ⟨n - 2, by omega⟩
      have hr := Nat.mod_lt a (show 0 < b by omega)
      rw [step a b (n + 1) ha hb (by omega)]
      have eg : Nat.gcd a b = Nat.gcd b (a % b) := by rw [Nat.gcd_comm a b, Nat.gcd_rec b a, Nat.gcd_comm]
      by_cases h1 : a % b = 0
      · rw [eg, h1]
        exact stop b n
      · rw [step b (a % b) n hb (by omega) (by omega)]
        have eg2 : Nat.gcd b (a % b) = Nat.gcd (a % b) (b % (a % b)) := by rw [Nat.gcd_comm b, Nat.gcd_rec (a % b) b, Nat.gcd_comm]
        rw [eg, eg2]
        have hm := pv_halfmod (b := b) (r := a % b) (by omega) hr
        rw [Nat.pow_succ] at hk
        exact ih (a % b) (b % (a % b)) n (by omega) (by omega) (by omega) (by omega)
theorem pv_gcd7 (N : Nat) : ∀ (k a b n i : Nat), a < 9223372036854775808 → b < 9223372036854775808 → b < 2 ^ k → 2 * k < n → i + 2 * k < 100 → fx_it (lf_X7_commonDivisor_9 N) n (lN a, lN b, nI i) = some (lN (Nat.gcd a b)) := by
  have stop : ∀ (a n i : Nat), i < 100 → fx_it (lf_X7_commonDivisor_9 N) (n + 1) (lN a, lN 0, nI i) = some (lN (Nat.gcd a 0)) := by
    intro a n i hi
    show lf_X7_commonDivisor_9 N (lN a, lN 0, nI i) _ = _
    unfold lf_X7_commonDivisor_9 bd_X7_commonDivisor_9
    dsimp only
    rw [if_neg (show ¬ (100 : Int32) ≤ nI i from fun z => by have := (pv_le (a := 100) (by omega) (by omega)).mp z; omega), if_pos ((pv_lz (by omega)).mpr rfl), Nat.gcd_zero_right]
  have step : ∀ (a b n i : Nat), a < 9223372036854775808 → b < 9223372036854775808 → 0 < b → i < 100 → fx_it (lf_X7_commonDivisor_9 N) (n + 1) (lN a, lN b, nI i) = fx_it (lf_X7_commonDivisor_9 N) n (lN b, lN (a % b), nI (i + 1)) := by
    intro a b n i ha hb h0 hi
    show lf_X7_commonDivisor_9 N (lN a, lN b, nI i) _ = _
    unfold lf_X7_commonDivisor_9 bd_X7_commonDivisor_9
    dsimp only
    rw [if_neg (show ¬ (100 : Int32) ≤ nI i from fun z => by have := (pv_le (a := 100) (by omega) (by omega)).mp z; omega), if_neg (fun z => by have := (pv_lz hb).mp z; omega)]
    unfold fx_nzl
    rw [if_neg (by rw [show (0 : Int64) = lN 0 from rfl, pk_lEQ (by omega) (by omega)]; omega), lte, lte, pk_lRem (by omega) h0 (by omega), nI_1]
  intro k
  induction k with
  | zero =>
    intro a b n i ha hb hk hn hi
    obtain ⟨n, rfl⟩ : ∃ q, n = q + 1 := ⟨n - 1, by omega⟩
    have : b = 0 := by simpa using hk
    subst this
    exact stop a n i (by omega)
  | succ k ih =>
    intro a b n i ha hb hk hn hi
    by_cases h0 : b = 0
    · subst h0
      obtain ⟨n, rfl⟩ : ∃ q, n = q + 1 := ⟨n - 1, by omega⟩
      exact stop a n i (by omega)
    · obtain ⟨n, rfl⟩ : ∃ q, n = q + 1 + 1 := ⟨n - 2, by omega⟩
      have hr := Nat.mod_lt a (show 0 < b by omega)
      rw [step a b (n + 1) i ha hb (by omega) (by omega)]
      have eg : Nat.gcd a b = Nat.gcd b (a % b) := by rw [Nat.gcd_comm a b, Nat.gcd_rec b a, Nat.gcd_comm]
      by_cases h1 : a % b = 0
      · rw [eg, h1]
        exact stop b n (i + 1) (by omega)
      · rw [step b (a % b) n (i + 1) hb (by omega) (by omega) (by omega)]
        have eg2 : Nat.gcd b (a % b) = Nat.gcd (a % b) (b % (a % b)) := by rw [Nat.gcd_comm b, Nat.gcd_rec (a % b) b, Nat.gcd_comm]
        rw [eg, eg2]
        have hm := pv_halfmod (b := b) (r := a % b) (by omega) hr
        rw [Nat.pow_succ] at hk
        exact ih (a % b) (b % (a % b)) n (i + 1 + 1) (by omega) (by omega) (by omega) (by omega) (by omega)
theorem pv_wt_le (t x m : Nat) (ht : t ≤ 10) : pv_wt t x m ≤ 10 ^ m := by
  induction m with
  | zero => exact Nat.le_refl _
  | succ m ih =>
    simp only [pv_wt]
    rw [Nat.pow_succ]
    exact Nat.mul_le_mul ih (by split <;> omega)
theorem pv_weight8 (N : Nat) (hN : 100 ≤ N) (x1 x2 x5 : Int32) (x6 x8 : Int64) (M : St) (t x m : Nat) (ht : t ≤ 10) (hm : m ≤ 10) (hx : x < 1024) : fx_it (lf_X8_winds_84 N x1 x2 (nI t) (nI m) x5 x6 x8 (nI x) M) N ((1 : Int64), (0 : Int32)) = some (lN (pv_wt t x m)) := by
  have hrun := pv_run (b := lf_X8_winds_84 N x1 x2 (nI t) (nI m) x5 x6 x8 (nI x) M) (fun i => (lN (pv_wt t x i), nI i)) m (lN (pv_wt t x m)) (fun i hi rec => by
    unfold lf_X8_winds_84 bd_X8_winds_84
    dsimp only
    rw [if_neg (fun z => by have := (pv_le (by omega) (by omega)).mp z; omega), lte, lte, lte, lte, show (10 : Int32) = nI 10 from rfl, pk_sub ht, nI_l (by omega), nI_l (by omega), lN_mul, lN_mul, nI_1]
    simp only [pv_wt]
    by_cases z : x / 2 ^ i % 2 = 1
    · rw [if_pos ((pv_bit x i (by omega) (by omega)).mpr z), if_pos z]
    · rw [if_neg (fun q => z ((pv_bit x i (by omega) (by omega)).mp q)), if_neg z]) (fun rec => by
    unfold lf_X8_winds_84 bd_X8_winds_84
    dsimp only
    rw [if_pos (Int32.le_refl _)]) N 0 (by omega) (by omega)
  rw [show (((1 : Int64), (0 : Int32)) : Int64 × Int32) = (lN (pv_wt t x 0), nI 0) from rfl, hrun]
set_option maxHeartbeats 1000000 in
theorem op_winds (N : Nat) (hN : 2000 ≤ N) {O S T P M : St} (D E B : St) (hI : pv_I O S T P) (hR : pv_R O S T P M) (x1 x2 x3 x4 x5 : Int32) : ∃ (r : Int64), f_X7_winds N O S T P D E B x1 x2 x3 x4 x5 = some r ∧ f_X8_winds N M x1 x2 x3 x4 x5 = some r := by
  obtain ⟨⟨i0, i1, i2, i3, i4, i5, i6, i7, i8⟩, ⟨s0, s1, s2, s3⟩, hI3⟩ := id hI
  obtain ⟨⟨r0, r1, r2, r3, r4, r5, r6, r12, r13, r14, r15⟩, ⟨r7, r8, r9, r10, r11⟩, hR3⟩ := id hR
  have dec : Decidable (pv_has (S.1 0) x1) := Classical.propDecidable _
  have dec2 : Decidable (pv_has (M.1 7) x1) := Classical.propDecidable _
  unfold f_X7_winds f_X8_winds
  rw [pv_hasE, pv_isSortE, pv_hasPlace N i1.1, pv_isPlace N (by rw [r1]; exact i1.1), r1]
  simp only [b1e, pv_if, pv_within, pv_in, t32_0, t32_1, t32_10, t64_0, t64_1, t64_10]
  by_cases h1 : pv_has (S.1 0) x1
  · rw [if_pos h1, if_pos (show pv_has (M.1 7) x1 by rw [r7]; exact h1)]
    by_cases h2 : 0 ≤ x2.toInt ∧ x2.toInt < (O.1 1).toInt
    · rw [if_pos h2, if_pos h2]
      by_cases h3 : 0 ≤ x3.toInt ∧ x3.toInt ≤ 10
      · rw [if_pos h3, if_pos h3]
        by_cases h4 : 0 ≤ x4.toInt ∧ x4.toInt ≤ 10
        · rw [if_pos h4, if_pos h4]
          by_cases h5 : 0 ≤ x5.toInt ∧ x5.toInt ≤ 1
          · rw [if_pos h5, if_pos h5]
            obtain ⟨k, rfl, hk⟩ := pv_num h1.1
            obtain ⟨p, rfl, hp⟩ := pv_num (b := 5) ⟨h2.1, by omega⟩
            obtain ⟨t, rfl, ht⟩ := pv_num h3
            obtain ⟨m, rfl, hm⟩ := pv_num h4
            obtain ⟨h, eh, hh⟩ := pv_num i2
            obtain ⟨c, ec, hc⟩ := pv_num i3
            obtain ⟨dd, ed, hd⟩ := pv_num i4
            have hk6 : k < 6 := by omega
            have hp6 : p < 6 := by omega
            have hm10 : m ≤ 10 := by omega
            have ht10 : t ≤ 10 := by omega
            obtain ⟨L, eL, hL⟩ := pv_num (i6 p hp6)
            obtain ⟨nd, end_, hnd⟩ := pv_num (s1 k hk6)
            obtain ⟨be, ebe, hbe⟩ := pv_num (s2 k hk6)
            have h2m := pv_2mle m hm10
            have hpow : 10 ^ m ≤ 10000000000 := pv_10le 10 m (by omega) hm10
            -- the sums
            let rip : Nat → Nat := fun x => pv_rn nd be (pv_ds h c dd L (pv_bt (nI x)) m)
            let U : Nat → Nat := pv_sum (fun x => if rip x = 1 then pv_wt t x m else 0)
            let W : Nat → Nat := pv_sum (fun x => pv_wt t x m)
            have hW : W (2 ^ m) = 10 ^ m := pv_wt_sum t m ht10
            have hUW : ∀ x, U x ≤ W x := fun x => pv_sum_le (fun x => by split <;> omega) x
            have hWle : ∀ x, x ≤ 2 ^ m → W x ≤ 10000000000 := fun x hx => by have := pv_sum_mono (fun x => pv_wt t x m) hx; have h9 : W x ≤ W (2 ^ m) := this; omega
            have hdsb : ∀ x, pv_ds h c dd L (pv_bt (nI x)) m < 2147483648 := fun x => by
              have := pv_ds_le h c dd L (pv_bt (nI x)) m
              have h9 : h * m ≤ 99 * 10 := Nat.mul_le_mul (by omega) hm10
              omega
            have r7run := pv_run (b := lf_X7_winds_73 N (nI k) (nI p) (nI t) (nI m) x5 O S T P D E B) (fun x => (lN (U x), nI x)) (2 ^ m) (lN (U (2 ^ m))) (fun x hx rec => by
              unfold lf_X7_winds_73 bd_X7_winds_73
              dsimp only
              rw [pv_2m m (by omega), if_neg (fun z => by have := (pv_le (by omega) (by omega)).mp z; omega)]
              rw [pv_doors7 N (by omega) hp6 (by omega) eh ec ed eL (by omega) (by omega) (by omega) (by omega), b1e, pv_verdict N hk6 end_ ebe (by omega) (by omega) (hdsb x), b1e, pv_rp_rn]
              have hrip : pv_rn nd be (pv_ds h c dd L (pv_bt (nI x)) m) = rip x := rfl
              rw [hrip]
              have hr2 : rip x ≤ 2 := pv_rn_le _ _ _
              have hU : U (x + 1) = U x + (if rip x = 1 then pv_wt t x m else 0) := rfl
              by_cases z : rip x = 1
              · have hpc := pv_pcn_le x m
                rw [z, if_pos (show nI 1 = (1 : Int32) from rfl), show f_J6_bitCount_0f7a4 N (nI x) = some (nI (pv_pcn x 10)) from pv_bc10 x (by omega), pv_pcn_hi x m hx 10 (by omega), b1e, pv_power N (by omega) t _ ht10 (by omega), b1e, show (10 : Int32) = nI 10 from rfl, pk_sub ht10, pk_sub hpc, pv_power N (by omega) (10 - t) _ (by omega) (by omega), b1e, lte, lte, lN_mul, lN_add, nI_1, ← pv_wt_pow, hU, if_pos z]
              · rw [if_neg (show ¬ nI (rip x) = (1 : Int32) from fun q => z ((pv_eq (b := 1) (by omega) (by omega)).mp q)), lte, nI_1, hU, if_neg z]; rfl) (fun rec => by
              unfold lf_X7_winds_73 bd_X7_winds_73
              dsimp only
              rw [pv_2m m (by omega), if_pos (Int32.le_refl _)]) N 0 (Nat.zero_le _) (by rw [Nat.sub_zero]; exact Nat.lt_of_le_of_lt h2m (by omega))
            have r8run := pv_run (b := lf_X8_winds_69 N (nI k) (nI p) (nI t) (nI m) x5 M) (fun x => (lN (U x), lN (W x), nI x)) (2 ^ m) (lN (U (2 ^ m)), lN (W (2 ^ m))) (fun x hx rec => by
              unfold lf_X8_winds_69 bd_X8_winds_69
              dsimp only
              rw [pv_2m m (by omega), if_neg (fun z => by have := (pv_le (by omega) (by omega)).mp z; omega)]
              rw [pv_weight8 N (by omega) _ _ _ _ _ _ t x m ht10 hm10 (by omega), b1e, lte, pv_doors8 N (by omega) (M := M) hp6 (by omega) (by rw [r2, eh]) (by rw [r3, ec]) (by rw [r4, ed]) (by rw [r6 p hp6, eL]) (by omega) (by omega) (by omega) (by omega), b1e, pv_ripeness N (M := M) hk6 (by rw [r8 k hk6, end_]) (by rw [r9 k hk6, ebe]) (by omega) (by omega) (hdsb x), b1e, pv_rp_rn]
              have hrip : pv_rn nd be (pv_ds h c dd L (pv_bt (nI x)) m) = rip x := rfl
              rw [hrip]
              have hr2 : rip x ≤ 2 := pv_rn_le _ _ _
              have hU : U (x + 1) = U x + (if rip x = 1 then pv_wt t x m else 0) := rfl
              have hW1 : W (x + 1) = W x + pv_wt t x m := rfl
              by_cases z : rip x = 1
              · rw [z, if_pos (show nI 1 = (1 : Int32) from rfl), lte, lte, lN_add, lN_add, nI_1, hU, if_pos z, hW1]
              · rw [if_neg (show ¬ nI (rip x) = (1 : Int32) from fun q => z ((pv_eq (b := 1) (by omega) (by omega)).mp q)), lte, lte, lN_add, Int64.add_zero, nI_1, hU, if_neg z, hW1]; rfl) (fun rec => by
              unfold lf_X8_winds_69 bd_X8_winds_69
              dsimp only
              rw [pv_2m m (by omega), if_pos (Int32.le_refl _)]) N 0 (Nat.zero_le _) (by rw [Nat.sub_zero]; exact Nat.lt_of_le_of_lt h2m (by omega))
            rw [show (((0 : Int64), (0 : Int32)) : Int64 × Int32) = (lN (U 0), nI 0) from rfl, r7run, b1e, show (10 : Int32) = nI 10 from rfl, pv_power N (by omega) 10 m (by omega) hm10, b1e]
            rw [show (((0 : Int64), lN (U 0), nI 0) : Int64 × Int64 × Int32) = (lN (U 0), lN (W 0), nI 0) from rfl, r8run, b2e, hW]
            have hU9 : U (2 ^ m) ≤ 10000000000 := Nat.le_trans (hUW _) (by rw [hW]; exact hpow)
            generalize U (2 ^ m) = Uu at hU9
            have hpos : 0 < 10 ^ m := Nat.pow_pos (by omega)
            generalize 10 ^ m = A at hpow hpos
            unfold f_X7_commonDivisor f_X8_lowest
            rw [show (0 : Int32) = nI 0 from rfl, pv_gcd7 N 34 Uu A N 0 (by omega) (by omega) (by omega) (by omega) (by omega), b1e, b1e, lte, pv_gcd8 N (lN Uu) (lN A) x5 34 A Uu N (by omega) (by omega) (by omega) (by omega), b1e, Nat.gcd_comm A Uu]
            have hg : 0 < Nat.gcd Uu A := Nat.gcd_pos_of_pos_right _ hpos
            have hgle : Nat.gcd Uu A ≤ A := Nat.le_of_dvd hpos (Nat.gcd_dvd_right _ _)
            generalize Nat.gcd Uu A = G at hg hgle
            rw [if_neg (show ¬ lN G < (1 : Int64) by rw [show (1 : Int64) = lN 1 from rfl, pk_lLT (by omega) (by omega)]; omega)]
            unfold fx_nzl
            simp only [if_neg (show ¬ lN G = (0 : Int64) by rw [show (0 : Int64) = lN 0 from rfl, pk_lEQ (by omega) (by omega)]; omega)]
            by_cases h0 : x5 = nI 0
            · rw [if_pos h0]; exact ⟨_, rfl, rfl⟩
            · rw [if_neg h0]; exact ⟨_, rfl, rfl⟩
          · rw [if_neg h5, if_neg h5]; exact ⟨_, rfl, rfl⟩
        · rw [if_neg h4, if_neg h4]; exact ⟨_, rfl, rfl⟩
      · rw [if_neg h3, if_neg h3]; exact ⟨_, rfl, rfl⟩
    · rw [if_neg h2, if_neg h2]; exact ⟨_, rfl, rfl⟩
  · rw [if_neg h1, if_neg (show ¬ pv_has (M.1 7) x1 by rw [r7]; exact h1)]; exact ⟨_, rfl, rfl⟩
