/-! the tables of ripe minutes, both ways -/
noncomputable def pv_fm (a c v : Nat) : Nat := Classical.epsilon (pv_F a c v)
theorem pv_fm_e (N : Nat) (hN : 1000 ≤ N) {x0 : Int32} {a c v : Nat} (ha : a ≤ 99) (hx : x0.toInt = (a : Int) ∨ (x0.toInt ≤ 0 ∧ a = 0)) (hc : c ≤ 9) (hv : v ≤ 100000) : f_X7_firstMinute N x0 (nI c) (nI v) = some (nI (pv_fm a c v)) ∧ pv_F a c v (pv_fm a c v) := by
  obtain ⟨f, h1, h2⟩ := pv_firstMinute N hN ha hx hc hv
  have h3 : pv_F a c v (pv_fm a c v) := Classical.epsilon_spec (p := pv_F a c v) ⟨f, h2⟩
  rw [h1, h2.uniq h3]
  exact ⟨rfl, h3⟩
noncomputable def pv_t1 (O S : St) (h k p : Nat) : Nat := pv_fm (h - (O.2 6 p).toNatClampNeg) (O.1 3).toNatClampNeg (S.2 1 k).toNatClampNeg
noncomputable def pv_t2 (O S : St) (h k p : Nat) : Nat := pv_fm (h - (O.2 6 p).toNatClampNeg) (O.1 3).toNatClampNeg ((S.2 1 k).toNatClampNeg + (S.2 2 k).toNatClampNeg + 1)
theorem pv_cn {x : Int32} {b : Int} (h : 0 ≤ x.toInt ∧ x.toInt ≤ b) : x = nI x.toNatClampNeg ∧ (x.toNatClampNeg : Int) ≤ b := by
  have := pv_clamp h.1
  have h2 := (pv_rng x).2
  refine ⟨pv_ext ?_, by omega⟩
  rw [pv_nI _ (by omega)]; omega
/-- the class's numbers of a sort in a place -/
theorem pv_t7 (N : Nat) (hN : 2000 ≤ N) {O S : St} (hO : pv_IO O) (hS : pv_IS S) {h k p : Nat} (hh : h ≤ 99) (hk : k < 6) (hp : p < 6) : f_X7_firstMinute N (nI h - O.2 6 p) (O.1 3) (S.2 1 k) = some (nI (pv_t1 O S h k p)) ∧ (∃ v, f_X6_burntFrom N S (nI k) = some v ∧ f_X7_firstMinute N (nI h - O.2 6 p) (O.1 3) v = some (nI (pv_t2 O S h k p))) ∧ pv_F (h - (O.2 6 p).toNatClampNeg) (O.1 3).toNatClampNeg (S.2 1 k).toNatClampNeg (pv_t1 O S h k p) ∧ pv_F (h - (O.2 6 p).toNatClampNeg) (O.1 3).toNatClampNeg ((S.2 1 k).toNatClampNeg + (S.2 2 k).toNatClampNeg + 1) (pv_t2 O S h k p) := by
  obtain ⟨i0, i1, i2, i3, i4, i5, i6, i7, i8⟩ := hO
  obtain ⟨s0, s1, s2, s3⟩ := hS
  obtain ⟨eL, hL⟩ := pv_cn (i6 p hp)
  obtain ⟨ec, hc⟩ := pv_cn i3
  obtain ⟨en, hn⟩ := pv_cn (s1 k hk)
  obtain ⟨eb, hb⟩ := pv_cn (s2 k hk)
  unfold pv_t1 pv_t2
  generalize (O.2 6 p).toNatClampNeg = L at *
  generalize (O.1 3).toNatClampNeg = c at *
  generalize (S.2 1 k).toNatClampNeg = nd at *
  generalize (S.2 2 k).toNatClampNeg = be at *
  have hx := pv_rate (h := h) (L := L) hh (by omega)
  obtain ⟨q1, F1⟩ := pv_fm_e N (by omega) (a := h - L) (c := c) (v := nd) (by omega) hx (by omega) (by omega)
  obtain ⟨q2, F2⟩ := pv_fm_e N (by omega) (a := h - L) (c := c) (v := nd + be + 1) (by omega) hx (by omega) (by omega)
  refine ⟨by rw [eL, ec, en]; exact q1, ⟨_, pv_burntFrom N hk en eb, by rw [eL, ec]; exact q2⟩, F1, F2⟩
theorem pv_t_rng {O S : St} (hO : pv_IO O) (hS : pv_IS S) {h k p : Nat} (hh : h ≤ 99) (hk : k < 6) (hp : p < 6) : 1 ≤ pv_t1 O S h k p ∧ pv_t1 O S h k p ≤ 1000 ∧ 1 ≤ pv_t2 O S h k p ∧ pv_t2 O S h k p ≤ 1000 := by
  obtain ⟨-, -, F1, F2⟩ := pv_t7 2000 (by omega) hO hS hh hk hp
  exact ⟨F1.1, F1.2.1, F2.1, F2.2.1⟩
/-- the reference's -/
theorem pv_t8 (N : Nat) (hN : 2000 ≤ N) {O S M : St} (hO : pv_IO O) (hS : pv_IS S) (e3 : M.1 3 = O.1 3) (e6 : pv_RA 6 (M.2 6) (O.2 6)) (e8 : pv_RA 6 (M.2 8) (S.2 1)) (e9 : pv_RA 6 (M.2 9) (S.2 2)) {h k p : Nat} (hh : h ≤ 99) (hk : k < 6) (hp : p < 6) : f_X8_findRipe N M (nI k) (nI p) (nI h) = some (stI (stI M 28 (pv_u (pv_t1 O S h k p) (pv_t2 O S h k p))) 29 (pv_w (pv_t1 O S h k p) (pv_t2 O S h k p))) := by
  obtain ⟨-, -, F1, F2⟩ := pv_t7 N hN hO hS hh hk hp
  obtain ⟨i0, i1, i2, i3, i4, i5, i6, i7, i8⟩ := hO
  obtain ⟨s0, s1, s2, s3⟩ := hS
  obtain ⟨eL, hL⟩ := pv_cn (i6 p hp)
  obtain ⟨ec, hc⟩ := pv_cn i3
  obtain ⟨en, hn⟩ := pv_cn (s1 k hk)
  obtain ⟨eb, hb⟩ := pv_cn (s2 k hk)
  exact pv_findRipe N (by omega) hk hp ((e8 k hk).trans en) ((e9 k hk).trans eb) ((e6 p hp).trans eL) (e3.trans ec) (by omega) (by omega) hh (by omega) (by omega) F1 F2
/-- a counting loop whose end looks at the state -/
theorem pv_cnt2 {b : Int32 × St → (Int32 × St → Option St) → Option St} (n : Nat) (I : Nat → St → Prop) (hs : ∀ i S, i < n → I i S → ∃ S', I (i + 1) S' ∧ ∀ rec, b (nI i, S) rec = rec (nI (i + 1), S')) (he : ∀ S, I n S → ∀ rec, b (nI n, S) rec = some S) : ∀ (d i : Nat) (S : St), i + d = n → I i S → ∀ f : Nat, d < f → ∃ S', I n S' ∧ fx_it b f (nI i, S) = some S' := by
  intro d
  induction d with
  | zero =>
    intro i S hi h f hf
    obtain ⟨f, rfl⟩ : ∃ q, f = q + 1 := ⟨f - 1, by omega⟩
    have hi : i = n := by omega
    subst hi
    exact ⟨S, h, he S h _⟩
  | succ d ih =>
    intro i S hi h f hf
    obtain ⟨f, rfl⟩ : ∃ q, f = q + 1 := ⟨f - 1, by omega⟩
    obtain ⟨S', h1, h2⟩ := hs i S (by omega) h
    obtain ⟨S2, h3, h4⟩ := ih (i + 1) S' (by omega) h1 f (by omega)
    exact ⟨S2, h3, (h2 _).trans h4⟩
theorem pv_at (N a b : Nat) : f_X1_at N (nI a) (nI b) = some (nI (6 * a + b)) := by
  unfold f_X1_at
  rw [pv_six, pk_mul, nI_add, Nat.mul_comm a 6]
/-- only the class's tables have changed -/
def pv_YT (B B' : St) : Prop := (∀ k, B'.1 k = B.1 k) ∧ ∀ k, k ≠ 2 → k ≠ 3 → B'.2 k = B.2 k
theorem pv_YT.rf (B : St) : pv_YT B B := ⟨fun _ => rfl, fun _ _ _ => rfl⟩
theorem pv_YT.trans {A B C : St} (h : pv_YT A B) (h' : pv_YT B C) : pv_YT A C := ⟨fun k => (h'.1 k).trans (h.1 k), fun k a b => (h'.2 k a b).trans (h.2 k a b)⟩
def pv_g7 (O S : St) (h : Nat) (B : St) (k p : Nat) : Prop := B.2 2 (6 * k + p) = nI (pv_t1 O S h k p) ∧ B.2 3 (6 * k + p) = nI (pv_t2 O S h k p)
theorem pv_fore1 (N : Nat) (hN : 2000 ≤ N) {O S : St} (hO : pv_IO O) (hS : pv_IS S) {h k d : Nat} (x5 : Int32) (hh : h ≤ 99) (hk : k < 6) (hd : d ≤ 6) (B : St) : ∃ B', fx_it (lf_X1_foresee_59 N (nI h) (nI d) x5 (nI k) O S) N ((0 : Int32), B) = some B' ∧ pv_YT B B' ∧ (∀ q, q < d → pv_g7 O S h B' k q) ∧ ∀ k' q', q' < 6 → pv_g7 O S h B k' q' → pv_g7 O S h B' k' q' := by
  obtain ⟨B', ⟨r1, r2, r3⟩, r4⟩ := pv_cnt2 (b := lf_X1_foresee_59 N (nI h) (nI d) x5 (nI k) O S) d (fun p B' => pv_YT B B' ∧ (∀ q, q < p → pv_g7 O S h B' k q) ∧ ∀ k' q', q' < 6 → pv_g7 O S h B k' q' → pv_g7 O S h B' k' q') (fun p B1 hp hI => by
    obtain ⟨q1, q2, q3⟩ := hI
    obtain ⟨a1, ⟨v, a2, a3⟩, -, -⟩ := pv_t7 N hN hO hS hh hk (show p < 6 by omega)
    have keep : ∀ k' q', q' < 6 → (k' = k ∧ q' = p) ∨ pv_g7 O S h B1 k' q' → pv_g7 O S h (stA (stA B1 2 (upd (B1.2 2) (6 * k + p) (nI (pv_t1 O S h k p)))) 3 (upd (B1.2 3) (6 * k + p) (nI (pv_t2 O S h k p)))) k' q' := by
      intro k' q' hq' hg
      unfold pv_g7
      rw [stA_2, if_neg (by omega), stA_2, if_pos rfl, stA_2, if_pos rfl]
      by_cases e : k' = k ∧ q' = p
      · obtain ⟨rfl, rfl⟩ := e
        exact ⟨pv_uself, pv_uself⟩
      · rcases hg with hg | hg
        · exact absurd hg e
        · rw [pv_une (by omega), pv_une (by omega)]
          exact hg
    refine ⟨stA (stA B1 2 (upd (B1.2 2) (6 * k + p) (nI (pv_t1 O S h k p)))) 3 (upd (B1.2 3) (6 * k + p) (nI (pv_t2 O S h k p))), ⟨q1.trans ⟨fun _ => rfl, fun j h1 h2 => by rw [stA_2, if_neg h2, stA_2, if_neg h1]⟩, fun q hq => ?_, fun k' q' h1 h2 => keep k' q' h1 (Or.inr (q3 k' q' h1 h2))⟩, fun rec => ?_⟩
    · by_cases e : q = p
      · exact keep k q (by omega) (Or.inl ⟨rfl, e⟩)
      · exact keep k q (by omega) (Or.inr (q2 q (by omega)))
    · unfold lf_X1_foresee_59 bd_X1_foresee_59
      dsimp only
      rw [if_neg (fun z => by have := (pv_le (by omega) (by omega)).mp z; omega), pv_aldn (by omega) (by omega), lte, pv_at, b1e, pv_aldn hk (by omega), a1, b1e, pv_astn (by omega) (by omega), b1e, a2, b1e, a3, b1e, pv_astn (by omega) (by omega), lte, nI_1, stA_2, if_neg (by omega)]) (fun B1 _ rec => by
    unfold lf_X1_foresee_59 bd_X1_foresee_59
    dsimp only
    rw [if_pos (Int32.le_refl _)]) d 0 B (by omega) ⟨pv_YT.rf B, fun q hq => absurd hq (Nat.not_lt_zero _), fun _ _ _ h => h⟩ N (by omega)
  exact ⟨B', r4, r1, r2, r3⟩
/-- foresee lays the class's tables -/
theorem pv_fore7 (N : Nat) (hN : 2000 ≤ N) {O S B : St} (hO : pv_IO O) (hS : pv_IS S) {h n m : Nat} {kd : Nat → Nat} (hh : h ≤ 99) (en : O.1 1 = nI n) (hn : n ≤ 6) (em : B.1 0 = nI m) (hm : m ≤ 6) (hk : ∀ j, j < m → B.2 1 j = nI (kd j) ∧ kd j < 6) : ∃ B', f_X1_foresee N B O S (nI h) = some B' ∧ pv_YT B B' ∧ ∀ j p, j < m → p < m → p < n → pv_g7 O S h B' (kd j) p := by
  have key : ∃ d, d ≤ 6 ∧ (if O.1 1 < B.1 0 then O.1 1 else B.1 0) = nI d ∧ ∀ p, p < m → p < n → p < d := by
    rw [en, em]
    by_cases z : n < m
    · exact ⟨n, hn, if_pos ((pv_lt (by omega) (by omega)).mpr z), fun p _ h => h⟩
    · exact ⟨m, hm, if_neg (fun q => z ((pv_lt (by omega) (by omega)).mp q)), fun p h _ => h⟩
  obtain ⟨d, hd, ed, hpd⟩ := key
  obtain ⟨B', ⟨r1, r2⟩, r4⟩ := pv_cnt2 (b := lf_X1_foresee_16 N (nI h) (nI d) O S) m (fun i B' => pv_YT B B' ∧ ∀ j p, j < i → p < d → pv_g7 O S h B' (kd j) p) (fun i B1 hi hI => by
    obtain ⟨q1, q2⟩ := hI
    have e1 : ∀ j, j < m → B1.2 1 j = nI (kd j) := fun j hj => by rw [q1.2 1 (by omega) (by omega)]; exact (hk j hj).1
    obtain ⟨B2, a1, a2, a3, a4⟩ := pv_fore1 N hN hO hS (k := kd i) (nI i) hh (hk i hi).2 hd B1
    have lo : ∀ rec, bd_X1_foresee_16 N (nI h) (nI d) O S (nI i) B1 rec = if i = 0 then rec (nI (i + 1), B2) else (if B1.2 1 (i - 1) = B1.2 1 i then rec (nI (i + 1), B1) else rec (nI (i + 1), B2)) := by
      intro rec
      unfold bd_X1_foresee_16
      rw [q1.1 0, em, if_neg (fun z => by have := (pv_le (by omega) (by omega)).mp z; omega), pv_aldn (by omega) (by omega), e1 i hi, a1, b1e, lte, nI_1]
      by_cases z : i = 0
      · rw [if_pos z, if_pos (by subst z; decide)]
      · rw [if_neg z, if_neg (show ¬ nI i ≤ 0 from fun w => by have := (pv_le (b := 0) (by omega) (by omega)).mp w; omega), pv_tw i (by omega), pv_aldn (by omega) (by omega), lte]
    have good : ∀ j p, j < i + 1 → p < d → pv_g7 O S h B2 (kd j) p := by
      intro j p hj hp
      by_cases z : j = i
      · subst z; exact a3 p hp
      · exact a4 (kd j) p (by omega) (q2 j p (by omega) hp)
    by_cases z : i = 0
    · exact ⟨B2, ⟨q1.trans a2, good⟩, fun rec => by
        show bd_X1_foresee_16 N (nI h) (nI d) O S (nI i) B1 rec = _
        rw [lo, if_pos z]⟩
    · by_cases w : B1.2 1 (i - 1) = B1.2 1 i
      · refine ⟨B1, ⟨q1, fun j p hj hp => ?_⟩, fun rec => by
          show bd_X1_foresee_16 N (nI h) (nI d) O S (nI i) B1 rec = _
          rw [lo, if_neg z, if_pos w]⟩
        by_cases e : j = i
        · subst e
          rw [e1 (j - 1) (by omega), e1 j (by omega)] at w
          have k1 := (hk (j - 1) (by omega)).2
          have k2 := (hk j (by omega)).2
          have w := (pv_eq (by omega) (by omega)).mp w
          rw [← w]
          exact q2 (j - 1) p (by omega) hp
        · exact q2 j p (by omega) hp
      · exact ⟨B2, ⟨q1.trans a2, good⟩, fun rec => by
          show bd_X1_foresee_16 N (nI h) (nI d) O S (nI i) B1 rec = _
          rw [lo, if_neg z, if_neg w]⟩) (fun B1 hI rec => by
    unfold lf_X1_foresee_16 bd_X1_foresee_16
    dsimp only
    rw [hI.1.1 0, em, if_pos (Int32.le_refl _)]) m 0 B (by omega) ⟨pv_YT.rf B, fun j p hj => absurd hj (Nat.not_lt_zero _)⟩ N (by omega)
  refine ⟨B', ?_, r1, fun j p hj h1 h2 => r2 j p hj (hpd p h1 h2)⟩
  unfold f_X1_foresee
  rw [lte, ed, show ((0 : Int32), B) = (nI 0, B) from rfl, r4, b1e]
/-- only the reference's tables have changed -/
def pv_YU (M M' : St) : Prop := (∀ k, k ≠ 28 → k ≠ 29 → M'.1 k = M.1 k) ∧ ∀ k, k ≠ 32 → k ≠ 33 → M'.2 k = M.2 k
theorem pv_YU.rf (B : St) : pv_YU B B := ⟨fun _ _ _ => rfl, fun _ _ _ => rfl⟩
theorem pv_YU.trans {A B C : St} (h : pv_YU A B) (h' : pv_YU B C) : pv_YU A C := ⟨fun k a b => (h'.1 k a b).trans (h.1 k a b), fun k a b => (h'.2 k a b).trans (h.2 k a b)⟩
theorem pv_YU.X {A B : St} (h : pv_YU A B) : pv_X A B := ⟨fun k hk => ⟨h.1 k (by omega) (by omega), h.2 k (by omega) (by omega)⟩, h.2 42 (by omega) (by omega), h.2 43 (by omega) (by omega)⟩
def pv_g8 (O S : St) (h : Nat) (M : St) (k p : Nat) : Prop := pv_has (S.1 0) (nI k) → M.2 32 (6 * k + p) = pv_u (pv_t1 O S h k p) (pv_t2 O S h k p) ∧ M.2 33 (6 * k + p) = pv_w (pv_t1 O S h k p) (pv_t2 O S h k p)
theorem pv_lay1 (N : Nat) (hN : 2000 ≤ N) {O S M : St} (hO : pv_IO O) (hS : pv_IS S) (hR : pv_RO O M) (hRS : pv_RS S M) {h k n : Nat} (hh : h ≤ 99) (hk : k < 6) (en : O.1 1 = nI n) (hn : n ≤ 6) (M0 : St) (hM0 : pv_YU M M0) : ∃ M', fx_it (lf_X8_layRipe_10 N (nI h) (nI k)) N ((0 : Int32), M0) = some M' ∧ pv_YU M M' ∧ (∀ q, q < n → pv_g8 O S h M' k q) ∧ ∀ k' q', q' < 6 → pv_g8 O S h M0 k' q' → pv_g8 O S h M' k' q' := by
  obtain ⟨r0, r1, r2, r3, r4, r5, r6, -⟩ := hR
  obtain ⟨r7, r8, r9, r10, r11⟩ := hRS
  haveI dS : Decidable (pv_has (S.1 0) (nI k)) := Classical.propDecidable _
  obtain ⟨B', ⟨q1, q2, q3⟩, q4⟩ := pv_cnt2 (b := lf_X8_layRipe_10 N (nI h) (nI k)) n (fun p B' => pv_YU M B' ∧ (∀ q, q < p → pv_g8 O S h B' k q) ∧ ∀ k' q', q' < 6 → pv_g8 O S h M0 k' q' → pv_g8 O S h B' k' q') (fun p M1 hp hI => by
    obtain ⟨q1, q2, q3⟩ := hI
    have isS : ∀ M2 : St, M2.1 7 = S.1 0 → f_X8_isSort N M2 (nI k) = some (pv_b (pv_has (S.1 0) (nI k))) := by
      intro M2 e
      haveI : Decidable (pv_has (M2.1 7) (nI k)) := Classical.propDecidable _
      rw [pv_isSortE, pv_cong (p := pv_has (M2.1 7) (nI k)) (q := pv_has (S.1 0) (nI k)) (by rw [e])]
    have e7 : M1.1 7 = S.1 0 := (q1.1 7 (by omega) (by omega)).trans r7
    have ec : (6 : Int32) * nI k + nI p = nI (6 * k + p) := by rw [pv_six, pk_mul, nI_add]
    have keep : ∀ (M2 : St) (u w : Int32), (∀ j, j ≠ 28 → j ≠ 29 → M2.1 j = M1.1 j) → (∀ j, M2.2 j = M1.2 j) → (pv_has (S.1 0) (nI k) → u = pv_u (pv_t1 O S h k p) (pv_t2 O S h k p) ∧ w = pv_w (pv_t1 O S h k p) (pv_t2 O S h k p)) → (fun p B' => pv_YU M B' ∧ (∀ q, q < p → pv_g8 O S h B' k q) ∧ ∀ k' q', q' < 6 → pv_g8 O S h M0 k' q' → pv_g8 O S h B' k' q') (p + 1) (stA (stA M2 32 (upd (M2.2 32) (6 * k + p) u)) 33 (upd (M2.2 33) (6 * k + p) w)) := by
      intro M2 u w e1 e2 huw
      have gd : ∀ k' q', q' < 6 → (k' = k ∧ q' = p) ∨ pv_g8 O S h M1 k' q' → pv_g8 O S h (stA (stA M2 32 (upd (M2.2 32) (6 * k + p) u)) 33 (upd (M2.2 33) (6 * k + p) w)) k' q' := by
        intro k' q' hq' hg hs
        rw [stA_2, if_neg (by omega), stA_2, if_pos rfl, stA_2, if_pos rfl, e2, e2]
        by_cases e : k' = k ∧ q' = p
        · obtain ⟨rfl, rfl⟩ := e
          rw [pv_uself, pv_uself]
          exact huw hs
        · rcases hg with hg | hg
          · exact absurd hg e
          · rw [pv_une (by omega), pv_une (by omega)]
            exact hg hs
      refine ⟨q1.trans ⟨fun j a b => (e1 j a b), fun j a b => by rw [stA_2, if_neg b, stA_2, if_neg a]; exact e2 j⟩, fun q hq => ?_, fun k' q' h1 h2 => gd k' q' h1 (Or.inr (q3 k' q' h1 h2))⟩
      by_cases e : q = p
      · exact gd k q (by omega) (Or.inl ⟨rfl, e⟩)
      · exact gd k q (by omega) (Or.inr (q2 q (by omega)))
    by_cases hs : pv_has (S.1 0) (nI k)
    · have hf := pv_t8 N hN (M := M1) hO hS ((q1.1 3 (by omega) (by omega)).trans r3) (by rw [q1.2 6 (by omega) (by omega)]; exact r6) (by rw [q1.2 8 (by omega) (by omega)]; exact r8) (by rw [q1.2 9 (by omega) (by omega)]; exact r9) hh hk (show p < 6 by omega)
      refine ⟨_, keep (stI (stI M1 28 (pv_u (pv_t1 O S h k p) (pv_t2 O S h k p))) 29 (pv_w (pv_t1 O S h k p) (pv_t2 O S h k p))) _ _ (fun j a b => by rw [stI_1, if_neg b, stI_1, if_neg a]) (fun j => rfl) (fun _ => ⟨rfl, rfl⟩), fun rec => ?_⟩
      unfold lf_X8_layRipe_10 bd_X8_layRipe_10
      dsimp only
      rw [q1.1 1 (by omega) (by omega), r1, en, if_neg (fun z => by have := (pv_le (by omega) (by omega)).mp z; omega), isS M1 e7, pv_b_t hs, b1e, if_neg (by decide), hf, b1e, b1e, isS _ (by exact e7), pv_b_t hs, b1e, if_neg (by decide), b1e, ec, pv_astn (by omega) (by omega), isS _ (by exact e7), pv_b_t hs, b1e, if_neg (by decide), b1e, pv_astn (by omega) (by omega), lte, nI_1, stA_2, if_neg (by omega)]
      rfl
    · refine ⟨_, keep M1 (-6) (-6) (fun j a b => rfl) (fun j => rfl) (fun z => absurd z hs), fun rec => ?_⟩
      unfold lf_X8_layRipe_10 bd_X8_layRipe_10
      dsimp only
      rw [q1.1 1 (by omega) (by omega), r1, en, if_neg (fun z => by have := (pv_le (by omega) (by omega)).mp z; omega), isS M1 e7, pv_b_f hs, b1e, if_pos rfl, b1e, isS M1 e7, pv_b_f hs, b1e, if_pos rfl, b1e, ec, pv_astn (by omega) (by omega), isS _ (by exact e7), pv_b_f hs, b1e, if_pos rfl, b1e, pv_astn (by omega) (by omega), lte, nI_1, stA_2, if_neg (by omega)]) (fun M1 hI rec => by
    unfold lf_X8_layRipe_10 bd_X8_layRipe_10
    dsimp only
    rw [hI.1.1 1 (by omega) (by omega), r1, en, if_pos (Int32.le_refl _)]) n 0 M0 (by omega) ⟨hM0, fun q hq => absurd hq (Nat.not_lt_zero _), fun _ _ _ h => h⟩ N (by omega)
  exact ⟨B', q4, q1, q2, q3⟩
/-- layRipe lays the reference's tables -/
theorem pv_lay (N : Nat) (hN : 2000 ≤ N) {O S M : St} (hO : pv_IO O) (hS : pv_IS S) (hR : pv_RO O M) (hRS : pv_RS S M) {h n : Nat} (hh : h ≤ 99) (en : O.1 1 = nI n) (hn : n ≤ 6) : ∃ M', f_X8_layRipe N M (nI h) = some M' ∧ pv_YU M M' ∧ ∀ k q, k < 6 → q < n → pv_g8 O S h M' k q := by
  obtain ⟨B', ⟨q1, q2⟩, q4⟩ := pv_cnt2 (b := lf_X8_layRipe_2 N (nI h)) 6 (fun i B' => pv_YU M B' ∧ ∀ k q, k < i → q < n → pv_g8 O S h B' k q) (fun i M1 hi hI => by
    obtain ⟨M2, a1, a2, a3, a4⟩ := pv_lay1 N hN hO hS hR hRS hh hi en hn M1 hI.1
    refine ⟨M2, ⟨a2, fun k q hk hq => ?_⟩, fun rec => ?_⟩
    · by_cases z : k = i
      · subst z; exact a3 q hq
      · exact a4 k q (by omega) (hI.2 k q (by omega) hq)
    · unfold lf_X8_layRipe_2 bd_X8_layRipe_2
      dsimp only
      rw [if_neg (pv_6le i hi), a1, b1e, lte, nI_1]) (fun M1 hI rec => by
    unfold lf_X8_layRipe_2 bd_X8_layRipe_2
    dsimp only
    rw [if_pos (by decide)]) 6 0 M (by omega) ⟨pv_YU.rf M, fun k q hk => absurd hk (Nat.not_lt_zero _)⟩ N (by omega)
  refine ⟨B', ?_, q1, q2⟩
  unfold f_X8_layRipe
  rw [show ((0 : Int32), M) = (nI 0, M) from rfl, q4, b1e]
