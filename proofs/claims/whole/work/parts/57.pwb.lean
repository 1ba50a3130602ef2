/-! WARM -/
theorem pv_clr : ∀ x, x < 64 → ∀ i, i < 6 → x / 2 ^ i % 2 = 1 → nI x &&& (((1 : Int32) <<< (nI i &&& 31)) ^^^ (-1 : Int32)) = nI (x - 2 ^ i) := by decide +kernel
theorem pv_vvI {u w v : Nat} (hu : u ≤ 1000) (hw1 : 1 ≤ w) (hw : w ≤ 1000) (hv : v ≤ 1000) : (if nI w - 1 < nI v then nI w - 1 else nI v) = nI (min v (w - 1)) := by
  rw [pv_tw w hw1]
  by_cases z : w - 1 < v
  · rw [if_pos ((pv_lt (by omega) (by omega)).mpr z), Nat.min_eq_right (by omega)]
  · rw [if_neg (fun q => z ((pv_lt (by omega) (by omega)).mp q)), Nat.min_eq_left (by omega)]
theorem pv_latest (N : Nat) (hN : 100 ≤ N) {B : St} {t1 t2 : Nat → Nat → Nat} {kd : Nat → Nat} {m x c : Nat} (hm : m ≤ 6) (em : B.1 0 = nI m) (hk : ∀ j, j < m → B.2 1 j = nI (kd j) ∧ kd j < 6) (hT : ∀ i p, i < m → p < m → B.2 2 (6 * kd i + p) = nI (t1 (kd i) p) ∧ B.2 3 (6 * kd i + p) = nI (t2 (kd i) p) ∧ t1 (kd i) p ≤ 1000 ∧ 1 ≤ t2 (kd i) p ∧ t2 (kd i) p ≤ 1000) (hx : x < 64) (hc : pv_pc x = c + 1) (hcm : c < m) (h8 : ∀ y, y < x → B.2 8 y = nI (pv_V t1 t2 kd m (pv_pc y) y)) : f_X1_latestOf N B (nI x) (nI c) = some (nI (pv_V t1 t2 kd m (c + 1) x)) := by
  rw [pv_V_s]
  unfold f_X1_latestOf
  generalize hf : (fun i => if x / 2 ^ i % 2 = 1 then pv_vv t1 t2 (kd i) c (pv_V t1 t2 kd m c (x - 2 ^ i)) else 0) = f
  have hfi : ∀ i, f i = if x / 2 ^ i % 2 = 1 then pv_vv t1 t2 (kd i) c (pv_V t1 t2 kd m c (x - 2 ^ i)) else 0 := fun i => by rw [← hf]
  have hf9 : ∀ i, f i ≤ 999 := fun i => by
    rw [hfi]
    by_cases h : x / 2 ^ i % 2 = 1
    · rw [if_pos h]; exact Nat.le_trans (pv_vv_le _ _ _ _ _) (pv_V_le _ _ _ _ _ _)
    · rw [if_neg h]; omega
  rw [show ((0 : Int32), (0 : Int32)) = (nI (pv_mxf f 0), nI 0) from rfl, pv_run (b := lf_X1_latestOf_5 N (nI x) (nI c) B) (fun i => (nI (pv_mxf f i), nI i)) m (nI (pv_mxf f m)) (fun i hi rec => by
    have hbt := pv_bit x i (by omega) (by omega)
    obtain ⟨k1, k2⟩ := hk i hi
    obtain ⟨a1, a2, a3, a4, a5⟩ := hT i c hi hcm
    have hmx := pv_mxf_le (f := f) (b := 999) i (fun j _ => hf9 j)
    unfold lf_X1_latestOf_5 bd_X1_latestOf_5
    dsimp only
    rw [em, if_neg (fun z => by have := (pv_le (by omega) (by omega)).mp z; omega), pv_mxf_s, hfi i]
    by_cases h : x / 2 ^ i % 2 = 1
    · obtain ⟨s1, s2, s3⟩ := pv_subbit x hx i (by omega) h
      have h2p : 1 ≤ 2 ^ i := Nat.one_le_two_pow
      have hV := pv_V_le t1 t2 kd m c (x - 2 ^ i)
      have e8 : B.2 8 (x - 2 ^ i) = nI (pv_V t1 t2 kd m c (x - 2 ^ i)) := by
        rw [h8 _ (by omega), show pv_pc (x - 2 ^ i) = c by omega]
      rw [if_pos h, if_pos (hbt.mpr h), pv_aldn (by omega) (by omega), k1, pv_at, b1e, pv_clr x hx i (by omega) h, pv_aldn (by omega) (by omega), e8, pv_aldn (by omega) (by omega), a2, lte, pv_vvI a3 a4 a5 (by omega), pv_aldn (by omega) (by omega), a1, lte, lte, nI_1]
      unfold pv_vv
      generalize hmn : min (pv_V t1 t2 kd m c (x - 2 ^ i)) (t2 (kd i) c - 1) = mn
      have hmn9 : mn ≤ 999 := by omega
      by_cases z : t1 (kd i) c ≤ mn
      · rw [if_pos z, if_neg (fun q => by have := (pv_lt (by omega) (by omega)).mp q; omega)]
        by_cases y : pv_mxf f i < mn
        · rw [if_pos ((pv_lt (by omega) (by omega)).mpr y), Nat.max_eq_right (by omega), lte]
        · rw [if_neg (fun q => y ((pv_lt (by omega) (by omega)).mp q)), Nat.max_eq_left (by omega), lte]
      · rw [if_neg z, if_pos ((pv_lt (by omega) (by omega)).mpr (by omega)), Nat.max_eq_left (by omega)]
    · rw [if_neg h, if_neg (fun z => h (hbt.mp z)), lte, nI_1, Nat.max_eq_left (by omega)]) (fun rec => by
    unfold lf_X1_latestOf_5 bd_X1_latestOf_5
    dsimp only
    rw [em, if_pos (Int32.le_refl _)]) N 0 (by omega) (by omega), b1e]
theorem pv_pcpos : ∀ m, m < 7 → ∀ x, x < 2 ^ m → 0 < x → 1 ≤ pv_pc x ∧ pv_pc x ≤ m := by decide +kernel
theorem pv_has7 (N : Nat) (hN : 200 ≤ N) {B : St} {t1 t2 : Nat → Nat → Nat} {kd : Nat → Nat} {m : Nat} (hm : m ≤ 6) (em : B.1 0 = nI m) (hk : ∀ j, j < m → B.2 1 j = nI (kd j) ∧ kd j < 6) (hT : ∀ i p, i < m → p < m → B.2 2 (6 * kd i + p) = nI (t1 (kd i) p) ∧ B.2 3 (6 * kd i + p) = nI (t2 (kd i) p) ∧ t1 (kd i) p ≤ 1000 ∧ 1 ≤ t2 (kd i) p ∧ t2 (kd i) p ≤ 1000) : ∃ B', f_X1_hasSomeOrder N B = some (if 0 < pv_V t1 t2 kd m m (2 ^ m - 1) then 1 else 0, B') ∧ (∀ k, B'.1 k = B.1 k) ∧ ∀ k, k ≠ 8 → B'.2 k = B.2 k := by
  have h2p : 1 ≤ 2 ^ m := Nat.one_le_two_pow
  have h2x : 2 ^ m ≤ 2 ^ 6 := Nat.pow_le_pow_right (by omega) hm
  obtain ⟨B', ⟨-, q1, q2, q3⟩, q4⟩ := pv_cnt2 (b := lf_X1_hasSomeOrder_18 N (nI (2 ^ m))) (2 ^ m) (fun x B' => 1 ≤ x ∧ (∀ k, B'.1 k = B.1 k) ∧ (∀ k, k ≠ 8 → B'.2 k = B.2 k) ∧ ∀ y, y < x → B'.2 8 y = nI (pv_V t1 t2 kd m (pv_pc y) y)) (fun x B1 hx hI => by
    obtain ⟨q0, q1, q2, q3⟩ := hI
    obtain ⟨p1, p2⟩ := pv_pcpos m (by omega) x hx (by omega)
    have hl := pv_latest N (by omega) (B := B1) (t1 := t1) (t2 := t2) (kd := kd) (m := m) (x := x) (c := pv_pc x - 1) hm ((q1 0).trans em) (fun j hj => by rw [q2 1 (by omega)]; exact hk j hj) (fun i p a b => by rw [q2 2 (by omega), q2 3 (by omega)]; exact hT i p a b) (by omega) (by omega) (by omega) q3
    rw [show pv_pc x - 1 + 1 = pv_pc x by omega] at hl
    refine ⟨stA B1 8 (upd (B1.2 8) x (nI (pv_V t1 t2 kd m (pv_pc x) x))), ⟨by omega, q1, fun k hk => by rw [stA_2, if_neg hk]; exact q2 k hk, fun y hy => ?_⟩, fun rec => ?_⟩
    · rw [stA_2, if_pos rfl]
      by_cases e : y = x
      · subst e; rw [pv_uself]
      · rw [pv_une e]; exact q3 y (by omega)
    · unfold lf_X1_hasSomeOrder_18 bd_X1_hasSomeOrder_18
      dsimp only
      rw [if_neg (fun z => by have := (pv_le (by omega) (by omega)).mp z; omega), pv_bitCount N x (by omega), b1e, pv_tw _ p1, hl, b1e, pv_astn (by omega) (by omega), lte, nI_1]) (fun B1 hI rec => by
    unfold lf_X1_hasSomeOrder_18 bd_X1_hasSomeOrder_18
    dsimp only
    rw [if_pos (Int32.le_refl _)]) (2 ^ m - 1) 1 (stA B 8 (upd (B.2 8) 0 999)) (by omega) ⟨Nat.le_refl _, fun _ => rfl, fun k hk => by rw [stA_2, if_neg hk], fun y hy => by
      have : y = 0 := by omega
      subst this
      rw [stA_2, if_pos rfl, pv_uself]; rfl⟩ N (by omega)
  refine ⟨B', ?_, q1, q2⟩
  obtain ⟨c1, c2, c3⟩ := pv_fulb m (by omega)
  have hV := pv_V_le t1 t2 kd m m (2 ^ m - 1)
  unfold f_X1_hasSomeOrder
  rw [em, pv_2m m (by omega), lte, show (0 : Int32) = nI 0 from rfl, pv_astn (by omega) (by omega), show ((1 : Int32), stA B 8 (upd (B.2 8) 0 999)) = (nI 1, stA B 8 (upd (B.2 8) 0 999)) from rfl, q4, b1e, pv_tw _ h2p, pv_aldn (by omega) (by omega), q3 _ (by omega), c2]
  by_cases z : 0 < pv_V t1 t2 kd m m (2 ^ m - 1)
  · rw [if_pos z, if_neg (fun q => by have := (pv_le (by omega) (by omega)).mp q; omega)]
  · rw [if_neg z, if_pos ((pv_le (by omega) (by omega)).mpr (by omega))]
/-- what stands while warm tries heats -/
def pv_YH (M M' : St) : Prop := (∀ k, k ≠ 28 → k ≠ 29 → k ≠ 35 → k ≠ 36 → k ≠ 37 → k ≠ 38 → M'.1 k = M.1 k) ∧ ∀ k, k ≠ 32 → k ≠ 33 → k ≠ 34 → M'.2 k = M.2 k
theorem pv_YH.rf (M : St) : pv_YH M M := ⟨fun _ _ _ _ _ _ _ => rfl, fun _ _ _ _ => rfl⟩
theorem pv_YH.trans {A B C : St} (h : pv_YH A B) (h' : pv_YH B C) : pv_YH A C := ⟨fun k a b c d e f => (h'.1 k a b c d e f).trans (h.1 k a b c d e f), fun k a b c => (h'.2 k a b c).trans (h.2 k a b c)⟩
theorem pv_YH.X {A B : St} (h : pv_YH A B) : pv_X A B := ⟨fun k hk => ⟨h.1 k (by omega) (by omega) (by omega) (by omega) (by omega) (by omega), h.2 k (by omega) (by omega) (by omega)⟩, h.2 42 (by omega) (by omega) (by omega), h.2 43 (by omega) (by omega) (by omega)⟩
theorem pv_YU.H {A B : St} (h : pv_YU A B) : pv_YH A B := ⟨fun k a b _ _ _ _ => h.1 k a b, fun k a b _ => h.2 k a b⟩
theorem pv_YG.H {A B : St} (h : pv_YG A B) : pv_YH A B := ⟨fun k _ _ a b c d => h.1 k a b c d, fun k _ _ a => h.2 k a⟩
/-- one heat, the reference's side -/
theorem pv_heat8 (N : Nat) (hN : 2000 ≤ N) {O S M : St} (hO : pv_IO O) (hS : pv_IS S) (hR : pv_RO O M) (hRS : pv_RS S M) {h pl m : Nat} {kd : Nat → Nat} (hh : h ≤ 99) (epl : O.1 1 = nI pl) (hpl : pl ≤ 6) (hm : m ≤ 6) (em : M.1 31 = nI m) (hk : ∀ j, j < m → M.2 30 j = nI (kd j) ∧ kd j < 6 ∧ pv_has (S.1 0) (nI (kd j))) (hsrt : ∀ i j, i < j → j < m → kd i ≤ kd j) : ∃ M1 M2 w, f_X8_layRipe N M (nI h) = some M1 ∧ M1.1 31 = nI m ∧ f_X8_goOrders N M1 (nI (2 ^ m - 1)) = some M2 ∧ M2.1 36 = nI w ∧ w ≤ 720 ∧ pv_YH M M2 ∧ (0 < w ↔ m ≤ pl ∧ 0 < pv_V (pv_t1 O S h) (pv_t2 O S h) kd m m (2 ^ m - 1)) := by
  obtain ⟨M1, g1, g2, g3⟩ := pv_lay N hN hO hS hR hRS (h := h) hh epl hpl
  have h2p : 1 ≤ 2 ^ m := Nat.one_le_two_pow
  have h2x : 2 ^ m ≤ 2 ^ 6 := Nat.pow_le_pow_right (by omega) hm
  have em9 : M1.1 31 = nI m := (g2.1 31 (by omega) (by omega)).trans em
  have hful : pv_sb kd (2 ^ m - 1) m = pv_li kd 0 m := pv_sb_ful kd hm m (Nat.le_refl _)
  have hlen : (pv_sb kd (2 ^ m - 1) m).length = m := by rw [hful, pv_li_len]
  -- a row and tables for the class's side of the row's theorem
  let F4 : Nat → Int32 := fun j => nI (kd j)
  let F2 : Nat → Int32 := fun j => nI (pv_t1 O S h (j / 6) (j % 6))
  let F3 : Nat → Int32 := fun j => nI (pv_t2 O S h (j / 6) (j % 6))
  let B0 : St := (fun _ => 0, fun c => if c = 4 then F4 else if c = 2 then F2 else F3)
  obtain ⟨B3, M3, w, u1, u2, u3, u4, u5, u6, u7, u8, u9, u10, u11⟩ := pv_ord N hN (t1 := pv_t1 O S h) (t2 := pv_t2 O S h) (pl := pl) (m := m) (x := 2 ^ m - 1) (kd := kd) (B := B0) (M := M1) hm hpl (by omega) em9 ((g2.1 1 (by omega) (by omega)).trans (hR.2.1.trans epl)) (fun j hj => ⟨by rw [g2.2 30 (by omega) (by omega)]; exact (hk j hj).1, (hk j hj).2.1⟩) hsrt (fun j hj => by
    rw [hlen] at hj
    rw [hful, pv_li_getD kd m j hj]; rfl) (fun z => pv_TB_of hO hS (h := h) (pl := pl) hh hm (fun j hj => (hk j hj).2) (fun j p a b c => by
      have e1 : (6 * kd j + p) / 6 = kd j := by omega
      have e2 : (6 * kd j + p) % 6 = p := by omega
      exact ⟨show nI (pv_t1 O S h ((6 * kd j + p) / 6) ((6 * kd j + p) % 6)) = _ by rw [e1, e2], show nI (pv_t2 O S h ((6 * kd j + p) / 6) ((6 * kd j + p) % 6)) = _ by rw [e1, e2]⟩) g3 (pv_sb_mem kd _ m) (by omega) z)
  refine ⟨M1, M3, w, g1, em9, u2, u4, u7, g2.H.trans u10.H, ?_⟩
  rw [u11, hlen, hful]
  by_cases z : m ≤ pl
  · rw [pv_some_V hm (fun i p a b => by
      obtain ⟨c1, c2, c3, c4⟩ := pv_t_rng hO hS hh (hk i a).2.1 (show p < 6 by omega)
      exact ⟨c1, c4⟩)]
  · exact ⟨fun y => absurd y.1 z, fun y => absurd y.1 z⟩
theorem pv_warmN (N : Nat) (hN : 2000 ≤ N) {O S T P M : St} (hI : pv_I O S T P) (hR : pv_R O S T P M) {pl m : Nat} {kd : Nat → Nat} (epl : O.1 1 = nI pl) (hpl : pl ≤ 6) (hm : m ≤ 6) (em : M.1 31 = nI m) (hk : ∀ j, j < m → M.2 30 j = nI (kd j) ∧ kd j < 6 ∧ pv_has (S.1 0) (nI (kd j))) (hsrt : ∀ i j, i < j → j < m → kd i ≤ kd j) (hlong : ¬ m ≤ pl) : ∀ (d h : Nat) (M1 : St), h + d = 100 → pv_YH M M1 → ∀ f : Nat, d < f → ∃ M2, fx_it (lf_X8_warm_22 N) f (nI h, M1) = some (1, 0, M2) ∧ pv_YH M M2 := by
  intro d
  induction d with
  | zero =>
    intro h M1 hd hY f hf
    obtain ⟨f, rfl⟩ : ∃ q, f = q + 1 := ⟨f - 1, by omega⟩
    have hd : h = 100 := by omega
    subst hd
    refine ⟨M1, ?_, hY⟩
    show lf_X8_warm_22 N (nI 100, M1) _ = _
    unfold lf_X8_warm_22 bd_X8_warm_22
    dsimp only
    rw [if_pos (by decide)]
  | succ d ih =>
    intro h M1 hd hY f hf
    obtain ⟨f, rfl⟩ : ∃ q, f = q + 1 := ⟨f - 1, by omega⟩
    obtain ⟨hRO, hRS, -⟩ := hY.X.R hR
    obtain ⟨M2, M3, w, a1, a2, a3, a4, a5, a6, a7⟩ := pv_heat8 N hN hI.1 hI.2.1 hRO hRS (h := h) (by omega) epl hpl hm ((hY.1 31 (by omega) (by omega) (by omega) (by omega) (by omega) (by omega)).trans em) (fun j hj => by rw [hY.2 30 (by omega) (by omega) (by omega)]; exact hk j hj) hsrt
    have hw : w = 0 := by
      have : ¬ 0 < w := fun z => hlong (a7.mp z).1
      omega
    subst hw
    obtain ⟨M4, c1, c2⟩ := ih (h + 1) M3 (by omega) (hY.trans a6) f (by omega)
    refine ⟨M4, ?_, c2⟩
    show lf_X8_warm_22 N (nI h, M1) (fx_it (lf_X8_warm_22 N) f) = _
    generalize fx_it (lf_X8_warm_22 N) f = rec at c1 ⊢
    unfold lf_X8_warm_22 bd_X8_warm_22
    dsimp only
    have h2p : 1 ≤ 2 ^ m := Nat.one_le_two_pow
    rw [if_neg (show ¬ (100 : Int32) ≤ nI h from fun z => by have := (pv_le (a := 100) (by omega) (by omega)).mp z; omega), a1, b1e, a2, pv_2m m (by omega), pv_tw _ h2p, a3, b1e, a4, if_pos (by decide), lte, nI_1]
    exact c1
theorem pv_warmL (N : Nat) (hN : 2000 ≤ N) {O S T P M B : St} (D E : St) (hI : pv_I O S T P) (hR : pv_R O S T P M) {pl m : Nat} {kd : Nat → Nat} (epl : O.1 1 = nI pl) (hpl : pl ≤ 6) (hm : m ≤ 6) (em : M.1 31 = nI m) (em7 : B.1 0 = nI m) (hk : ∀ j, j < m → B.2 1 j = nI (kd j) ∧ M.2 30 j = nI (kd j) ∧ kd j < 6 ∧ pv_has (S.1 0) (nI (kd j))) (hsrt : ∀ i j, i < j → j < m → kd i ≤ kd j) (hlong : m ≤ pl) : ∀ (d h : Nat) (B1 M1 : St), h + d = 100 → B1.1 0 = B.1 0 → B1.2 1 = B.2 1 → pv_YH M M1 → ∀ f1 f2 : Nat, d < f1 → d < f2 → ∃ t r B2 M2, fx_it (lf_X7_warm_38 N O S T P D E) f1 (nI h, B1) = some (t, r, B2) ∧ fx_it (lf_X8_warm_22 N) f2 (nI h, M1) = some (t, r, M2) ∧ pv_YH M M2 := by
  intro d
  induction d with
  | zero =>
    intro h B1 M1 hd hb0 hb1 hY f1 f2 hf1 hf2
    obtain ⟨f1, rfl⟩ : ∃ q, f1 = q + 1 := ⟨f1 - 1, by omega⟩
    obtain ⟨f2, rfl⟩ : ∃ q, f2 = q + 1 := ⟨f2 - 1, by omega⟩
    have hd : h = 100 := by omega
    subst hd
    refine ⟨1, 0, B1, M1, ?_, ?_, hY⟩
    · show lf_X7_warm_38 N O S T P D E (nI 100, B1) _ = _
      unfold lf_X7_warm_38 bd_X7_warm_38
      dsimp only
      rw [if_pos (by decide)]
    · show lf_X8_warm_22 N (nI 100, M1) _ = _
      unfold lf_X8_warm_22 bd_X8_warm_22
      dsimp only
      rw [if_pos (by decide)]
  | succ d ih =>
    intro h B1 M1 hd hb0 hb1 hY f1 f2 hf1 hf2
    obtain ⟨f1, rfl⟩ : ∃ q, f1 = q + 1 := ⟨f1 - 1, by omega⟩
    obtain ⟨f2, rfl⟩ : ∃ q, f2 = q + 1 := ⟨f2 - 1, by omega⟩
    obtain ⟨hRO, hRS, -⟩ := hY.X.R hR
    have h2p : 1 ≤ 2 ^ m := Nat.one_le_two_pow
    obtain ⟨M2, M3, w, a1, a2, a3, a4, a5, a6, a7⟩ := pv_heat8 N hN hI.1 hI.2.1 hRO hRS (h := h) (by omega) epl hpl hm ((hY.1 31 (by omega) (by omega) (by omega) (by omega) (by omega) (by omega)).trans em) (fun j hj => by rw [hY.2 30 (by omega) (by omega) (by omega)]; exact (hk j hj).2) hsrt
    have hkB : ∀ j, j < m → B1.2 1 j = nI (kd j) ∧ kd j < 6 := fun j hj => by rw [hb1]; exact ⟨(hk j hj).1, (hk j hj).2.2.1⟩
    obtain ⟨B2, e1, e2, e3⟩ := pv_fore7 N hN hI.1 hI.2.1 (B := B1) (h := h) (kd := kd) (by omega) epl hpl (hb0.trans em7) hm hkB
    obtain ⟨B3, g1, g2, g3⟩ := pv_has7 N (by omega) (B := B2) (t1 := pv_t1 O S h) (t2 := pv_t2 O S h) (kd := kd) hm ((e2.1 0).trans (hb0.trans em7)) (fun j hj => by rw [e2.2 1 (by omega) (by omega)]; exact hkB j hj) (fun i p a b => by
      obtain ⟨c1, c2, c3, c4⟩ := pv_t_rng hI.1 hI.2.1 (show h ≤ 99 by omega) (hkB i a).2 (show p < 6 by omega)
      obtain ⟨d1, d2⟩ := e3 i p a b (by omega)
      exact ⟨d1, d2, c2, c3, c4⟩)
    have l7 : ∀ rec, lf_X7_warm_38 N O S T P D E (nI h, B1) rec = if 0 < pv_V (pv_t1 O S h) (pv_t2 O S h) kd m m (2 ^ m - 1) then some (0, nI h, B3) else rec (nI (h + 1), B3) := by
      intro rec
      unfold lf_X7_warm_38 bd_X7_warm_38
      dsimp only
      rw [if_neg (show ¬ (99 : Int32) < nI h from fun z => by have := (pv_lt (a := 99) (by omega) (by omega)).mp z; omega), e1, b1e, g1, b2e, lte, nI_1]
      by_cases z : 0 < pv_V (pv_t1 O S h) (pv_t2 O S h) kd m m (2 ^ m - 1)
      · rw [if_pos z, if_pos z, if_neg (by decide)]
      · rw [if_neg z, if_neg z, if_pos rfl]
    have l8 : ∀ rec, lf_X8_warm_22 N (nI h, M1) rec = if 0 < w then some (0, nI h, M3) else rec (nI (h + 1), M3) := by
      intro rec
      unfold lf_X8_warm_22 bd_X8_warm_22
      dsimp only
      rw [if_neg (show ¬ (100 : Int32) ≤ nI h from fun z => by have := (pv_le (a := 100) (by omega) (by omega)).mp z; omega), a1, b1e, a2, pv_2m m (by omega), pv_tw _ h2p, a3, b1e, a4, lte, nI_1]
      by_cases z : 0 < w
      · rw [if_pos z, if_neg (show ¬ nI w ≤ 0 from fun q => by have := (pv_le (b := 0) (by omega) (by omega)).mp q; omega)]
      · rw [if_neg z, if_pos (show nI w ≤ 0 from (pv_le (b := 0) (by omega) (by omega)).mpr (by omega))]
    by_cases z : 0 < pv_V (pv_t1 O S h) (pv_t2 O S h) kd m m (2 ^ m - 1)
    · refine ⟨0, nI h, B3, M3, ?_, ?_, hY.trans a6⟩
      · show lf_X7_warm_38 N O S T P D E (nI h, B1) _ = _
        rw [l7, if_pos z]
      · show lf_X8_warm_22 N (nI h, M1) _ = _
        rw [l8, if_pos (a7.mpr ⟨hlong, z⟩)]
    · obtain ⟨t, r, B4, M4, k1, k2, k3⟩ := ih (h + 1) B3 M3 (by omega) ((g2 0).trans ((e2.1 0).trans hb0)) ((g3 1 (by omega)).trans ((e2.2 1 (by omega) (by omega)).trans hb1)) (hY.trans a6) f1 f2 (by omega) (by omega)
      refine ⟨t, r, B4, M4, ?_, ?_, k3⟩
      · show lf_X7_warm_38 N O S T P D E (nI h, B1) _ = _
        rw [l7, if_neg z]; exact k1
      · show lf_X8_warm_22 N (nI h, M1) _ = _
        rw [l8, if_neg (fun y => z (a7.mp y).2)]; exact k2
theorem op_warm (N : Nat) (hN : 2000 ≤ N) {O S T P M : St} (D E B : St) (hI : pv_I O S T P) (hR : pv_R O S T P M) (x1 : Int32) : ∃ (r : Int32) (B' M' : St), f_X7_warm N O S T P D E B x1 = some (r, B') ∧ f_X8_warm N M x1 = some (r, M') ∧ pv_X M M' := by
  obtain ⟨hO, hS, hI3⟩ := id hI
  obtain ⟨hRO, hRS, hR3⟩ := id hR
  unfold f_X7_warm f_X8_warm f_X7_refuseLoaves f_X8_isLoaves
  simp only [pv_within, pv_in, b1e, pv_if, pv_bz, t32_0, t32_2, t64_0, t32_666666, t64_666666]
  rw [if_pos (show (0 : Int) ≤ 0 ∧ (0 : Int) ≤ 2 by omega)]
  by_cases h2 : 0 ≤ x1.toInt ∧ x1.toInt ≤ 666666
  · simp only [if_pos h2]
    obtain ⟨x, rfl, hx⟩ := pv_num h2
    obtain ⟨v, B1, M1, e7, e8, hY, hv⟩ := pv_read N (by omega) (M := M) B hRS (x := x) (by omega)
    rw [e7, e8, b2e, b2e]
    rcases hv with rfl | ⟨rfl, hRL⟩
    · rw [if_pos rfl, if_pos rfl, b2e, if_neg (by decide)]
      exact ⟨_, _, _, rfl, rfl, hY.X⟩
    · rw [if_neg (by decide), if_neg (by decide), b2e, if_pos rfl]
      obtain ⟨m, kd, hm, em7, em8, hk, hsrt⟩ := pv_RL_kd hRL
      have hR1 := hY.X.R hR
      obtain ⟨i0, i1, i2, i3, i4, i5, i6, i7, i8⟩ := id hO
      obtain ⟨pl, epl, hpl⟩ := pv_num (show 0 ≤ (O.1 1).toInt ∧ (O.1 1).toInt ≤ 6 by omega)
      rw [em7, epl]
      by_cases z : m ≤ pl
      · rw [if_pos ((pv_le (by omega) (by omega)).mpr z)]
        obtain ⟨t, r, B2, M2, a1, a2, a3⟩ := pv_warmL N hN (B := B1) D E hI hR1 epl (by omega) hm em8 em7 hk hsrt z 100 0 B1 M1 (by omega) rfl rfl (pv_YH.rf M1) N N (by omega) (by omega)
        rw [show ((0 : Int32), B1) = (nI 0, B1) from rfl, show ((0 : Int32), M1) = (nI 0, M1) from rfl, a1, a2, b3e, b3e]
        unfold fx_t2
        by_cases y : t = 0
        · rw [if_pos y, if_pos y]; exact ⟨_, _, _, rfl, rfl, hY.X.trans a3.X⟩
        · rw [if_neg y, if_neg y]; exact ⟨_, _, _, rfl, rfl, hY.X.trans a3.X⟩
      · rw [if_neg (fun q => z ((pv_le (by omega) (by omega)).mp q))]
        obtain ⟨M2, a1, a2⟩ := pv_warmN N hN hI hR1 epl (by omega) hm em8 (fun j hj => (hk j hj).2) hsrt z 100 0 M1 (by omega) (pv_YH.rf M1) N (by omega)
        rw [show ((0 : Int32), M1) = (nI 0, M1) from rfl, a1, b3e]
        exact ⟨_, _, _, rfl, rfl, hY.X.trans a2.X⟩
  · simp only [if_neg h2]
    rw [b2e, if_neg (by decide)]
    exact ⟨_, _, _, rfl, rfl, pv_X.rf M⟩
