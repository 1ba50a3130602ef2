/-! sets of loaves as rows; ORDERS -/
def pv_sb (kd : Nat → Nat) (x : Nat) : Nat → List Nat
  | 0 => []
  | i + 1 => if x / 2 ^ i % 2 = 1 then pv_sb kd x i ++ [kd i] else pv_sb kd x i
theorem pv_sb_s (kd : Nat → Nat) (x i : Nat) : pv_sb kd x (i + 1) = if x / 2 ^ i % 2 = 1 then pv_sb kd x i ++ [kd i] else pv_sb kd x i := rfl
theorem pv_sb_len (kd : Nat → Nat) (x : Nat) : ∀ i, (pv_sb kd x i).length ≤ i := by
  intro i
  induction i with
  | zero => exact Nat.le_refl _
  | succ i ih =>
    rw [pv_sb_s]
    by_cases h : x / 2 ^ i % 2 = 1
    · rw [if_pos h, List.length_append, List.length_singleton]; omega
    · rw [if_neg h]; omega
theorem pv_sb_mem (kd : Nat → Nat) (x : Nat) : ∀ i y, y ∈ pv_sb kd x i → ∃ j, j < i ∧ y = kd j := by
  intro i
  induction i with
  | zero => intro y hy; exact absurd hy (by simp [pv_sb])
  | succ i ih =>
    intro y hy
    rw [pv_sb_s] at hy
    by_cases h : x / 2 ^ i % 2 = 1
    · rw [if_pos h] at hy
      rcases List.mem_append.mp hy with z | z
      · obtain ⟨j, h1, h2⟩ := ih y z
        exact ⟨j, by omega, h2⟩
      · exact ⟨i, by omega, List.mem_singleton.mp z⟩
    · rw [if_neg h] at hy
      obtain ⟨j, h1, h2⟩ := ih y hy
      exact ⟨j, by omega, h2⟩
theorem pv_sb_srt {kd : Nat → Nat} {m : Nat} (hs : ∀ i j, i < j → j < m → kd i ≤ kd j) (x : Nat) : ∀ i, i ≤ m → (pv_sb kd x i).Pairwise (fun a b => a ≤ b) := by
  intro i
  induction i with
  | zero => intro _; exact List.Pairwise.nil
  | succ i ih =>
    intro hi
    have ih := ih (by omega)
    rw [pv_sb_s]
    by_cases h : x / 2 ^ i % 2 = 1
    · rw [if_pos h]
      refine List.pairwise_append.mpr ⟨ih, List.pairwise_singleton _ _, fun a ha b hb => ?_⟩
      obtain ⟨j, h1, rfl⟩ := pv_sb_mem kd x i a ha
      rw [List.mem_singleton.mp hb]
      exact hs j i h1 (by omega)
    · rw [if_neg h]; exact ih
theorem pv_li_snoc (o : Nat → Nat) (i : Nat) : pv_li o 0 (i + 1) = pv_li o 0 i ++ [o i] := by
  unfold pv_li
  rw [List.range'_concat, List.map_append]
  simp
theorem pv_ful : ∀ m, m < 7 → ∀ i, i < m → (2 ^ m - 1) / 2 ^ i % 2 = 1 := by decide
theorem pv_sb_ful (kd : Nat → Nat) {m : Nat} (hm : m ≤ 6) : ∀ i, i ≤ m → pv_sb kd (2 ^ m - 1) i = pv_li kd 0 i := by
  intro i
  induction i with
  | zero => intro _; rfl
  | succ i ih =>
    intro hi
    rw [pv_sb_s, if_pos (pv_ful m (by omega) i (by omega)), pv_li_snoc, ih (by omega)]
theorem pv_rw_snoc {F : Nat → Int32} {l : List Nat} {k : Nat} (h : pv_rw F l) : pv_rw (upd F l.length (nI k)) (l ++ [k]) := by
  intro j hj
  rw [List.length_append, List.length_singleton] at hj
  rw [List.getD_eq_getElem?_getD]
  by_cases e : j = l.length
  · subst e
    rw [pv_uself, List.getElem?_append_right (Nat.le_refl _), Nat.sub_self]; rfl
  · rw [pv_une e, List.getElem?_append_left (by omega), h j (by omega), List.getD_eq_getElem?_getD]
theorem pv_first8 (N : Nat) (hN : 100 ≤ N) {M : St} {m x : Nat} {kd : Nat → Nat} (em : M.1 31 = nI m) (hm : m ≤ 6) (hk : ∀ j, j < m → M.2 30 j = nI (kd j)) (hx : x < 64) : ∃ M', f_X8_firstRow N M (nI x) = some M' ∧ M'.1 35 = nI (pv_sb kd x m).length ∧ pv_rw (M'.2 34) (pv_sb kd x m) ∧ (∀ k, k ≠ 35 → M'.1 k = M.1 k) ∧ ∀ k, k ≠ 34 → M'.2 k = M.2 k := by
  obtain ⟨B', ⟨q1, q2, q3, q4⟩, q5⟩ := pv_cnt2 (b := lf_X8_firstRow_7 N (nI x)) m (fun i M' => M'.1 35 = nI (pv_sb kd x i).length ∧ pv_rw (M'.2 34) (pv_sb kd x i) ∧ (∀ k, k ≠ 35 → M'.1 k = M.1 k) ∧ ∀ k, k ≠ 34 → M'.2 k = M.2 k) (fun i M1 hi hI => by
    obtain ⟨q1, q2, q3, q4⟩ := hI
    have hlen := pv_sb_len kd x i
    have hbt := pv_bit x i (by omega) (by omega)
    rw [pv_sb_s]
    by_cases h : x / 2 ^ i % 2 = 1
    · rw [if_pos h]
      refine ⟨stI (stA M1 34 (upd (M1.2 34) (pv_sb kd x i).length (nI (kd i)))) 35 (nI ((pv_sb kd x i).length + 1)), ⟨by rw [List.length_append]; rfl, pv_rw_snoc q2, fun k hk => by rw [stI_1, if_neg hk]; exact q3 k hk, fun k hk => by rw [stI_2, stA_2, if_neg hk]; exact q4 k hk⟩, fun rec => ?_⟩
      unfold lf_X8_firstRow_7 bd_X8_firstRow_7
      dsimp only
      rw [q3 31 (by omega), em, if_neg (fun z => by have := (pv_le (by omega) (by omega)).mp z; omega), if_pos (hbt.mpr h), pv_aldn (by omega) (by omega), q4 30 (by omega), hk i hi, q1, pv_astn (by omega) (by omega), lte, show (stA M1 34 (upd (M1.2 34) (pv_sb kd x i).length (nI (kd i)))).1 35 = nI (pv_sb kd x i).length from q1, nI_1, lte, nI_1]
    · rw [if_neg h]
      refine ⟨M1, ⟨q1, q2, q3, q4⟩, fun rec => ?_⟩
      unfold lf_X8_firstRow_7 bd_X8_firstRow_7
      dsimp only
      rw [q3 31 (by omega), em, if_neg (fun z => by have := (pv_le (by omega) (by omega)).mp z; omega), if_neg (fun z => h (hbt.mp z)), lte, nI_1]) (fun M1 hI rec => by
    unfold lf_X8_firstRow_7 bd_X8_firstRow_7
    dsimp only
    rw [hI.2.2.1 31 (by omega), em, if_pos (Int32.le_refl _)]) m 0 (stI M 35 0) (by omega) ⟨rfl, fun j hj => absurd hj (Nat.not_lt_zero _), fun k hk => by rw [stI_1, if_neg hk], fun _ _ => rfl⟩ N (by omega)
  refine ⟨B', ?_, q1, q2, q3, q4⟩
  unfold f_X8_firstRow
  rw [lte, show ((0 : Int32), stI M 35 0) = (nI 0, stI M 35 0) from rfl, q5, b1e]
def pv_YG (M M' : St) : Prop := (∀ k, k ≠ 35 → k ≠ 36 → k ≠ 37 → k ≠ 38 → M'.1 k = M.1 k) ∧ ∀ k, k ≠ 34 → M'.2 k = M.2 k
theorem pv_YG.X {A B : St} (h : pv_YG A B) : pv_X A B := ⟨fun k hk => ⟨h.1 k (by omega) (by omega) (by omega) (by omega), h.2 k (by omega)⟩, h.2 42 (by omega), h.2 43 (by omega)⟩
/-- all orders of a set -/
theorem pv_ord (N : Nat) (hN : 2000 ≤ N) {t1 t2 : Nat → Nat → Nat} {pl m x : Nat} {kd : Nat → Nat} {B M : St} (hm : m ≤ 6) (hpl : pl ≤ 6) (hx : x < 64) (em : M.1 31 = nI m) (ep : M.1 1 = nI pl) (hk : ∀ j, j < m → M.2 30 j = nI (kd j) ∧ kd j < 6) (hs : ∀ i j, i < j → j < m → kd i ≤ kd j) (hB : pv_rw (B.2 4) (pv_sb kd x m)) (hT : (pv_sb kd x m).length ≤ pl → pv_TB t1 t2 (pv_sb kd x m) B M) : ∃ B' M' w, f_X1_tryOrders N B (nI (pv_sb kd x m).length) (nI pl) = some B' ∧ f_X8_goOrders N M (nI x) = some M' ∧ B'.1 5 = nI w ∧ M'.1 36 = nI w ∧ B'.1 6 = M'.1 37 ∧ B'.1 7 = M'.1 38 ∧ w ≤ 720 ∧ (w = 0 ∧ B'.1 6 = -6 ∨ 0 < w ∧ 0 ≤ (B'.1 6).toInt) ∧ pv_YW B B' ∧ pv_YG M M' ∧ (0 < w ↔ (pv_sb kd x m).length ≤ pl ∧ ∃ a, a.Perm (pv_sb kd x m) ∧ pv_fe t1 t2 a) := by
  have hlen := pv_sb_len kd x m
  obtain ⟨M1, r1, r2, r3, r4, r5⟩ := pv_first8 N (by omega) (M := stI (stI (stI M 36 0) 37 (-6)) 38 (-6)) (x := x) em hm (fun j hj => (hk j hj).1) hx
  have h5 : ∀ y, y ∈ pv_sb kd x m → y ≤ 5 := fun y hy => by
    obtain ⟨j, h1, rfl⟩ := pv_sb_mem kd x m y hy
    have := (hk j h1).2
    omega
  have YM : pv_YG M M1 := ⟨fun k a b c d => by rw [r4 k a, stI_1, if_neg d, stI_1, if_neg c, stI_1, if_neg b], fun k a => r5 k a⟩
  obtain ⟨B', M', w, g1, g2, g3, g4, g5, g6, g7, g8, g9, g10, g11⟩ := pv_tryA N hN (t1 := t1) (t2 := t2) (pl := pl) (l := pv_sb kd x m) (B := B) (M := M1) (by omega) hpl h5 (pv_sb_srt hs x m (Nat.le_refl _)) hB r3 r2 (by rw [r4 1 (by omega)]; exact ep) (by rw [r4 36 (by omega)]; rfl) (by rw [r4 37 (by omega)]; rfl) (by rw [r4 38 (by omega)]; rfl) (fun z k hk p hp => by
    have := hT z k hk p hp
    rw [r5 32 (by omega), r5 33 (by omega)]
    exact this)
  refine ⟨B', M', w, g1, ?_, g3, g4, g5, g6, g7, g8, g9, ⟨fun k a b c d => (g10.1 k b c d).trans (YM.1 k a b c d), fun k a => (g10.2 k a).trans (YM.2 k a)⟩, g11⟩
  unfold f_X8_goOrders
  rw [lte, lte, lte, r1, b1e, g2, b1e]
theorem pv_RL_kd {S B M : St} (h : pv_RL S B M) : ∃ (m : Nat) (kd : Nat → Nat), m ≤ 6 ∧ B.1 0 = nI m ∧ M.1 31 = nI m ∧ (∀ j, j < m → B.2 1 j = nI (kd j) ∧ M.2 30 j = nI (kd j) ∧ kd j < 6 ∧ pv_has (S.1 0) (nI (kd j))) ∧ ∀ i j, i < j → j < m → kd i ≤ kd j := by
  obtain ⟨m, h1, h2, h3, h4, h5, h6⟩ := h
  refine ⟨m, fun j => (B.2 1 j).toNatClampNeg, h1, h2, h3, fun j hj => ?_, fun i j hij hj => ?_⟩
  · obtain ⟨e, hb⟩ := pv_cn (h6 j hj).1
    refine ⟨e, (h4 j hj).trans e, by show (B.2 1 j).toNatClampNeg < 6; omega, ?_⟩
    show pv_has (S.1 0) (nI (B.2 1 j).toNatClampNeg)
    rw [← e]; exact h6 j hj
  · have a := h5 i j hij hj
    have b := pv_clamp (h6 i (by omega)).1.1
    have c := pv_clamp (h6 j hj).1.1
    show (B.2 1 i).toNatClampNeg ≤ (B.2 1 j).toNatClampNeg
    omega
theorem pv_cpy6 {ρ : Type} {m : Nat} (hm : m ≤ 6) (F : Nat → Int32) (S : St) (k : Nat) (f : St → Option ρ) : fx_cpy 6 F 6 S k (0 : Int32) (0 : Int32) (nI m) f = f (stA S k (va_cpy F (S.2 k) 0 0 m)) := by
  unfold fx_cpy
  rw [nI_clamp (by omega), show (0 : Int32).toNatClampNeg = 0 from rfl, if_neg]
  intro h
  have h0 : ¬ (0 : Int32) < 0 := by decide
  have h1 : ¬ nI m < 0 := fun z => by have := (pv_lt (b := 0) (by omega) (by omega)).mp z; omega
  rcases h with h | h | h | h | h
  · exact h0 h
  · exact h0 h
  · exact h1 h
  · omega
  · omega
/-- the two tables at one heat, for the kinds of a set -/
theorem pv_TB_of {O S B M : St} (hO : pv_IO O) (hS : pv_IS S) {h m pl : Nat} {kd : Nat → Nat} (hh : h ≤ 99) (hm : m ≤ 6) (hk : ∀ j, j < m → kd j < 6 ∧ pv_has (S.1 0) (nI (kd j))) (h7 : ∀ j p, j < m → p < m → p < pl → pv_g7 O S h B (kd j) p) (h8 : ∀ k q, k < 6 → q < pl → pv_g8 O S h M k q) {l : List Nat} (hl : ∀ y, y ∈ l → ∃ j, j < m ∧ y = kd j) (hlm : l.length ≤ m) (hlp : l.length ≤ pl) : pv_TB (pv_t1 O S h) (pv_t2 O S h) l B M := by
  intro k hkl p hp
  obtain ⟨j, hj, rfl⟩ := hl k hkl
  obtain ⟨a1, a2⟩ := h7 j p hj (by omega) (by omega)
  obtain ⟨b1, b2⟩ := h8 (kd j) p (hk j hj).1 (by omega) (hk j hj).2
  obtain ⟨c1, c2, c3, c4⟩ := pv_t_rng hO hS hh (hk j hj).1 (show p < 6 by omega)
  exact ⟨a1, a2, b1, b2, c1, c2, c4⟩
theorem op_orders (N : Nat) (hN : 2000 ≤ N) {O S T P M : St} (D E B : St) (hI : pv_I O S T P) (hR : pv_R O S T P M) (x1 x2 : Int32) : ∃ (r : Int32) (B' M' : St), f_X7_orders N O S T P D E B x1 x2 = some (r, B') ∧ f_X8_orders N M x1 x2 = some (r, M') ∧ pv_X M M' := by
  obtain ⟨hO, hS, hI3⟩ := id hI
  obtain ⟨hRO, hRS, hR3⟩ := id hR
  unfold f_X7_orders f_X8_orders f_X7_refuseLoaves f_X8_isLoaves
  simp only [pv_within, pv_in, b1e, pv_if, pv_bz, t32_0, t32_2, t64_0, t64_2, t32_666666, t64_666666]
  by_cases h1 : 0 ≤ x2.toInt ∧ x2.toInt ≤ 2
  · simp only [if_pos h1]
    by_cases h2 : 0 ≤ x1.toInt ∧ x1.toInt ≤ 666666
    · simp only [if_pos h2]
      obtain ⟨x, rfl, hx⟩ := pv_num h2
      obtain ⟨v, B1, M1, e7, e8, hY, hv⟩ := pv_read N (by omega) (M := M) B hRS (x := x) (by omega)
      rw [e7, e8, b2e, b2e]
      rcases hv with rfl | ⟨rfl, hRL⟩
      · rw [if_pos rfl, if_pos rfl, b2e, if_neg (by decide)]
        exact ⟨_, _, _, rfl, rfl, hY.X⟩
      · rw [if_neg (by decide), if_neg (by decide), b2e, if_pos rfl]
        obtain ⟨m, kd, hm, em7, em8, hk, hsrt⟩ := pv_RL_kd hRL
        have hR1 := hY.X.R hR
        obtain ⟨hRO1, hRS1, -⟩ := id hR1
        obtain ⟨i0, i1, i2, i3, i4, i5, i6, i7, i8⟩ := id hO
        obtain ⟨h, eh, hh⟩ := pv_num i2
        obtain ⟨pl, epl, hpl⟩ := pv_num (show 0 ≤ (O.1 1).toInt ∧ (O.1 1).toInt ≤ 6 by omega)
        obtain ⟨B2, f1, f2, f3⟩ := pv_fore7 N hN hO hS (B := B1) (h := h) (kd := kd) (by omega) epl (by omega) em7 hm (fun j hj => ⟨(hk j hj).1, (hk j hj).2.2.1⟩)
        obtain ⟨M2, g1, g2, g3⟩ := pv_lay N hN hO hS hRO1 hRS1 (h := h) (by omega) epl (by omega)
        rw [show M1.1 2 = nI h from hRO1.2.2.1.trans eh, g1, b1e, eh, f1, b1e]
        have em9 : M2.1 31 = nI m := (g2.1 31 (by omega) (by omega)).trans em8
        have h2m := pv_2mle m (by omega)
        have h2p : 1 ≤ 2 ^ m := Nat.one_le_two_pow
        have h2x : 2 ^ m ≤ 2 ^ 6 := Nat.pow_le_pow_right (by omega) hm
        rw [em9, pv_2m m (by omega), pv_tw _ h2p]
        have hful : pv_sb kd (2 ^ m - 1) m = pv_li kd 0 m := pv_sb_ful kd hm m (Nat.le_refl _)
        have hlen : (pv_sb kd (2 ^ m - 1) m).length = m := by rw [hful, pv_li_len]
        have hb1 : ∀ j, j < m → B2.2 1 j = nI (kd j) := fun j hj => by rw [f2.2 1 (by omega) (by omega)]; exact (hk j hj).1
        obtain ⟨B3, M3, w, u1, u2, u3, u4, u5, u6, u7, u8, u9, u10, u11⟩ := pv_ord N hN (t1 := pv_t1 O S h) (t2 := pv_t2 O S h) (pl := pl) (m := m) (x := 2 ^ m - 1) (kd := kd) (B := stA B2 4 (va_cpy (B2.2 1) (B2.2 4) 0 0 m)) (M := M2) hm (by omega) (by omega) em9 ((g2.1 1 (by omega) (by omega)).trans (hRO1.2.1.trans epl)) (fun j hj => ⟨by rw [g2.2 30 (by omega) (by omega)]; exact (hk j hj).2.1, (hk j hj).2.2.1⟩) hsrt (fun j hj => by
          rw [hlen] at hj
          rw [stA_2, if_pos rfl, pv_cpyA j hj, hb1 j hj, hful, pv_li_getD kd m j hj]) (fun z => pv_TB_of hO hS (h := h) (pl := pl) (by omega) hm (fun j hj => (hk j hj).2.2) (fun j p a b c => by
            have := f3 j p a b c
            unfold pv_g7 at this ⊢
            rw [stA_2, if_neg (by omega), stA_2, if_neg (by omega)]
            exact this) g3 (pv_sb_mem kd _ m) (by omega) z)
        have ta : f_X1_tryAllLoaves N B2 (O.1 1) = some B3 := by
          unfold f_X1_tryAllLoaves
          rw [show B2.1 0 = nI m from (f2.1 0).trans em7, pv_cpy6 hm, show (stA B2 4 (va_cpy (B2.2 1) (B2.2 4) 0 0 m)).1 0 = nI m from (f2.1 0).trans em7, epl]
          rw [hlen] at u1
          rw [u1, b1e]
        rw [ta, b1e, u2, b1e, u3, u4, u5, u6]
        have hX : pv_X M M3 := hY.X.trans (g2.X.trans u10.X)
        by_cases z0 : x2 = 0
        · rw [if_pos z0, if_pos z0]; exact ⟨_, _, _, rfl, rfl, hX⟩
        · rw [if_neg z0, if_neg z0]
          by_cases z1 : x2 = 1
          · rw [if_pos z1, if_pos z1]; exact ⟨_, _, _, rfl, rfl, hX⟩
          · rw [if_neg z1, if_neg z1]; exact ⟨_, _, _, rfl, rfl, hX⟩
    · simp only [if_neg h2]
      rw [b2e, if_neg (by decide)]
      exact ⟨_, _, _, rfl, rfl, pv_X.rf M⟩
  · simp only [if_neg h1]
    rw [b2e, if_neg (by decide)]
    exact ⟨_, _, _, rfl, rfl, pv_X.rf M⟩
