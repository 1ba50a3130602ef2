theorem pv_num {x : Int32} {b : Int} (h : 0 ≤ x.toInt ∧ x.toInt ≤ b) : ∃ n : Nat, x = nI n ∧ (n : Int) ≤ b := by
  obtain ⟨n, e, e2, -⟩ := pv_ex h.1
  exact ⟨n, e, by omega⟩
/-- 0 raw, 1 ripe, 2 burnt -/
def pv_rp (nd be b : Nat) : Int32 := if nd ≤ b then (if nd + be < b then 2 else 1) else 0
theorem pv_ripeness (N : Nat) {M : St} {s nd be b : Nat} (hs : s < 6) (h8 : M.2 8 s = nI nd) (h9 : M.2 9 s = nI be) (hnd : nd ≤ 500) (hbe : be ≤ 500) (hb : b < 2147483648) : f_X8_ripeness N M (nI s) (nI b) = some (pv_rp nd be b) := by
  unfold f_X8_ripeness pv_rp
  rw [pv_aldn hs (by omega), pv_aldn hs (by omega), pv_aldn hs (by omega), h8, h9, nI_add]
  by_cases q : nd ≤ b
  · rw [if_pos ((pv_le (by omega) (by omega)).mpr q), if_pos q]
    by_cases q2 : nd + be < b
    · rw [if_pos ((pv_lt (by omega) (by omega)).mpr q2), if_pos q2]
    · rw [if_neg (fun z => q2 ((pv_lt (by omega) (by omega)).mp z)), if_neg q2]
  · rw [if_neg (fun z => q ((pv_le (by omega) (by omega)).mp z)), if_neg q]
theorem pv_burntFrom (N : Nat) {S : St} {s nd be : Nat} (hs : s < 6) (h1 : S.2 1 s = nI nd) (h2 : S.2 2 s = nI be) : f_X6_burntFrom N S (nI s) = some (nI (nd + be + 1)) := by
  unfold f_X6_burntFrom
  rw [pv_aldn hs (by omega), pv_aldn hs (by omega), h1, h2, nI_add, nI_1]
theorem pv_verdict (N : Nat) {S : St} {s nd be b : Nat} (hs : s < 6) (h1 : S.2 1 s = nI nd) (h2 : S.2 2 s = nI be) (hnd : nd ≤ 500) (hbe : be ≤ 500) (hb : b < 2147483648) : f_X6_verdict N S (nI s) (nI b) = some (pv_rp nd be b) := by
  unfold f_X6_verdict pv_rp
  rw [pv_aldn hs (by omega), h1, pv_burntFrom N hs h1 h2, b1e]
  by_cases q : nd ≤ b
  · rw [if_pos ((pv_le (by omega) (by omega)).mpr q), if_pos q]
    by_cases q2 : nd + be < b
    · rw [if_pos ((pv_le (by omega) (by omega)).mpr (by omega)), if_pos q2]
    · rw [if_neg (fun z => q2 (by have := (pv_le (by omega) (by omega)).mp z; omega)), if_neg q2]
  · rw [if_neg (fun z => q ((pv_le (by omega) (by omega)).mp z)), if_neg q]
def pv_u (f1 f2 : Nat) : Int32 := if f1 < f2 then nI f1 else (-6)
def pv_w (f1 f2 : Nat) : Int32 := if f1 < f2 then nI (f2 - 1) else (-6)
theorem stI_28 (M : St) (a b c d : Int32) : stI (stI (stI (stI M 28 a) 29 b) 28 c) 29 d = stI (stI M 28 c) 29 d := by
  unfold stI upd
  refine Prod.ext (funext fun j => ?_) rfl
  dsimp only
  by_cases h1 : j = 29
  · simp [h1]
  · by_cases h2 : j = 28
    · simp [h2]
    · simp [h1, h2]
theorem pv_tsub {x y : Nat} (hx : x < 2147483648) (hy : y < 2147483648) : (if nI x ≤ nI y then some (0 : Int32) else some (nI x - nI y)) = some (nI (x - y)) := by
  by_cases h : x ≤ y
  · rw [if_pos ((pv_le hx hy).mpr h), show x - y = 0 by omega]; rfl
  · rw [if_neg (fun z => h ((pv_le hx hy).mp z)), pk_sub (by omega)]
set_option maxHeartbeats 1000000 in
theorem pv_findRipe (N : Nat) (hN : 1500 ≤ N) {M : St} {s p h c L nd be f1 f2 : Nat} (hs : s < 6) (hp : p < 6) (h8 : M.2 8 s = nI nd) (h9 : M.2 9 s = nI be) (h6 : M.2 6 p = nI L) (h3 : M.1 3 = nI c) (hnd : nd ≤ 500) (hbe : be ≤ 500) (hh : h ≤ 99) (hL : L ≤ 9) (hc : c ≤ 9) (F1 : pv_F (h - L) c nd f1) (F2 : pv_F (h - L) c (nd + be + 1) f2) : f_X8_findRipe N M (nI s) (nI p) (nI h) = some (stI (stI M 28 (pv_u f1 f2)) 29 (pv_w f1 f2)) := by
  unfold f_X8_findRipe
  rw [lte, lte]
  obtain ⟨a1, a2, a3⟩ := F1
  obtain ⟨b1, b2, b3⟩ := F2
  have hrun := pv_run (b := lf_X8_findRipe_21 N (nI s) (nI p)) (fun i => (nI (h - c * i), nI (pv_B (h - L) c i), nI (i + 1), stI (stI M 28 (if f1 < f2 ∧ f1 ≤ i then nI f1 else (-6))) 29 (if f1 < f2 ∧ f1 ≤ i then nI (min i (f2 - 1)) else (-6)))) 999 (stI (stI M 28 (pv_u f1 f2)) 29 (pv_w f1 f2)) ?_ ?_ N 0 (by omega) (by omega)
  · rw [show ((nI h, (0 : Int32), (1 : Int32), stI (stI M 28 (-6)) 29 (-6)) : Int32 × Int32 × Int32 × St) = (nI (h - c * 0), nI (pv_B (h - L) c 0), nI (0 + 1), stI (stI M 28 (if f1 < f2 ∧ f1 ≤ 0 then nI f1 else (-6))) 29 (if f1 < f2 ∧ f1 ≤ 0 then nI (min 0 (f2 - 1)) else (-6))) by
      rw [if_neg (by omega), if_neg (by omega), Nat.mul_zero, Nat.sub_zero]; rfl]
    rw [hrun, b1e]
  · intro i hi rec
    unfold lf_X8_findRipe_21 bd_X8_findRipe_21
    dsimp only
    generalize hu : (if f1 < f2 ∧ f1 ≤ i then nI f1 else (-6 : Int32)) = u
    generalize hw : (if f1 < f2 ∧ f1 ≤ i then nI (min i (f2 - 1)) else (-6 : Int32)) = w
    rw [if_neg (show ¬ (999 : Int32) < nI (i + 1) from fun z => by have := (pv_lt (a := 999) (by omega) (by omega)).mp z; omega)]
    rw [pv_aldn hp (by omega), pv_aldn hp (by omega)]
    rw [show (stI (stI M 28 u) 29 w).2 6 p = nI L from h6, show (stI (stI M 28 u) 29 w).1 3 = nI c from h3]
    rw [pv_tsub (by omega) (by omega), pv_tsub (by omega) (by omega), b1e, lte, b1e, nI_add]
    have eB : pv_B (h - L) c i + (h - c * i - L) = pv_B (h - L) c (i + 1) := by simp only [pv_B]; omega
    have eh : h - c * i - c = h - c * (i + 1) := by rw [Nat.mul_succ]; omega
    have hB9 : pv_B (h - L) c (i + 1) ≤ 99 * 999 := Nat.le_trans (pv_Ble _ _ _) (Nat.mul_le_mul (by omega) (by omega))
    rw [eB, eh, pv_ripeness N hs (M := stI (stI M 28 u) 29 w) h8 h9 hnd hbe (by omega), b1e]
    have e1 := a3 (i + 1) (by omega) (by omega)
    have e2 := b3 (i + 1) (by omega) (by omega)
    have e28 : (stI (stI M 28 u) 29 w).1 28 = u := rfl
    by_cases hr : f1 ≤ i + 1 ∧ ¬ f2 ≤ i + 1
    · have hq : pv_rp nd be (pv_B (h - L) c (i + 1)) = 1 := by
        unfold pv_rp
        rw [if_pos (e1.mpr hr.1), if_neg (fun z => hr.2 (e2.mp (by omega)))]
      rw [hq, if_pos rfl, e28]
      rw [show (if (0 : Int32) ≤ u then some u else some (nI (i + 1))) = some (nI f1) by
        by_cases hf : f1 ≤ i
        · rw [if_pos ⟨by omega, hf⟩] at hu
          rw [← hu, if_pos (by rw [pv_zero, pv_le (by omega) (by omega)]; omega)]
        · rw [if_neg (by omega)] at hu
          rw [← hu, if_neg (by decide), show i + 1 = f1 by omega]]
      rw [b1e, lte, lte, lte, nI_1, stI_28, if_pos (by omega), if_pos (by omega), show min (i + 1) (f2 - 1) = i + 1 by omega]
    · have hq : ¬ pv_rp nd be (pv_B (h - L) c (i + 1)) = 1 := by
        unfold pv_rp
        by_cases hf : f1 ≤ i + 1
        · rw [if_pos (e1.mpr hf), if_pos (by have := e2.mpr (by omega); omega)]; decide
        · rw [if_neg (fun z => hf (e1.mp z))]; decide
      rw [if_neg hq, lte, nI_1, ← hu, ← hw]
      by_cases hf : f1 < f2 ∧ f1 ≤ i
      · rw [if_pos hf, if_pos hf, if_pos (by omega), if_pos (by omega), show min (i + 1) (f2 - 1) = min i (f2 - 1) by omega]
      · rw [if_neg hf, if_neg hf, if_neg (by omega), if_neg (by omega)]
  · intro rec
    unfold lf_X8_findRipe_21 bd_X8_findRipe_21
    dsimp only
    rw [if_pos (by decide)]
    unfold pv_u pv_w
    by_cases hf : f1 < f2
    · rw [if_pos (by omega), if_pos (by omega), if_pos hf, if_pos hf, show min 999 (f2 - 1) = f2 - 1 by omega]
    · rw [if_neg (by omega), if_neg (by omega), if_neg hf, if_neg hf]
/-- how hot a place is, as an int -/
theorem pv_rate {h L : Nat} (hh : h ≤ 99) (hL : L ≤ 9) : (nI h - nI L).toInt = ((h - L : Nat) : Int) ∨ ((nI h - nI L).toInt ≤ 0 ∧ h - L = 0) := by
  have e : (nI h - nI L).toInt = (h : Int) - L := by
    rw [pv_sub (by rw [pv_nI _ (by omega), pv_nI _ (by omega)]; omega) (by rw [pv_nI _ (by omega), pv_nI _ (by omega)]; omega), pv_nI _ (by omega), pv_nI _ (by omega)]
  rw [e]; omega
theorem op_ripe (N : Nat) (hN : 2000 ≤ N) {O S T P M : St} (D E B : St) (hI : pv_I O S T P) (hR : pv_R O S T P M) (x1 x2 x3 : Int32) : ∃ (r : Int32) (M' : St), f_X7_ripe N O S T P D E B x1 x2 x3 = some r ∧ f_X8_ripe N M x1 x2 x3 = some (r, M') ∧ pv_X M M' := by
  obtain ⟨⟨i0, i1, i2, i3, i4, i5, i6, i7, i8⟩, ⟨s0, s1, s2, s3⟩, hI3⟩ := id hI
  obtain ⟨⟨r0, r1, r2, r3, r4, r5, r6, r12, r13, r14, r15⟩, ⟨r7, r8, r9, r10, r11⟩, hR3⟩ := id hR
  have dec : Decidable (pv_has (S.1 0) x1) := Classical.propDecidable _
  have dec2 : Decidable (pv_has (M.1 7) x1) := Classical.propDecidable _
  unfold f_X7_ripe f_X8_ripe
  rw [pv_hasE, pv_isSortE, pv_hasPlace N i1.1, pv_isPlace N (by rw [r1]; exact i1.1), r1]
  simp only [b1e, pv_if, pv_within, pv_in, t32_0, t32_1, t64_0, t64_1]
  by_cases h1 : pv_has (S.1 0) x1
  · rw [if_pos h1, if_pos (show pv_has (M.1 7) x1 by rw [r7]; exact h1)]
    by_cases h2 : 0 ≤ x2.toInt ∧ x2.toInt < (O.1 1).toInt
    · rw [if_pos h2, if_pos h2]
      by_cases h3 : 0 ≤ x3.toInt ∧ x3.toInt ≤ 1
      · rw [if_pos h3, if_pos h3]
        obtain ⟨k, rfl, hk⟩ := pv_num h1.1
        obtain ⟨p, rfl, hp⟩ := pv_num (b := 5) ⟨h2.1, by omega⟩
        obtain ⟨h, eh, hh⟩ := pv_num i2
        obtain ⟨c, ec, hc⟩ := pv_num i3
        have hk6 : k < 6 := by omega
        have hp6 : p < 6 := by omega
        obtain ⟨L, eL, hL⟩ := pv_num (i6 p hp6)
        obtain ⟨nd, end_, hnd⟩ := pv_num (s1 k hk6)
        obtain ⟨be, ebe, hbe⟩ := pv_num (s2 k hk6)
        have hx := pv_rate (h := h) (L := L) (by omega) (by omega)
        obtain ⟨f1, q1, F1⟩ := pv_firstMinute N (by omega) (a := h - L) (c := c) (v := nd) (by omega) hx (by omega) (by omega)
        obtain ⟨f2, q2, F2⟩ := pv_firstMinute N (by omega) (a := h - L) (c := c) (v := nd + be + 1) (by omega) hx (by omega) (by omega)
        have hfr := pv_findRipe N (by omega) (M := M) hk6 hp6 (by rw [r8 k hk6, end_]) (by rw [r9 k hk6, ebe]) (by rw [r6 p hp6, eL]) (by rw [r3, ec]) (by omega) (by omega) (by omega) (by omega) (by omega) F1 F2
        unfold f_X3_rateAt
        rw [pv_aldn hp6 (by omega), b1e, pv_aldn hk6 (by omega), eh, eL, ec, end_, q1, b1e, pv_burntFrom N hk6 end_ ebe, b1e, q2, b1e]
        rw [r2, eh, hfr, b1e]
        have hX : pv_X M (stI (stI M 28 (pv_u f1 f2)) 29 (pv_w f1 f2)) := (pv_X.I 28 _ (by omega)).trans (pv_X.I 29 _ (by omega))
        obtain ⟨g1, g2, -⟩ := F1
        obtain ⟨g3, g4, -⟩ := F2
        by_cases hf : f1 < f2
        · rw [if_pos ((pv_lt (by omega) (by omega)).mpr hf)]
          by_cases h0 : x3 = 0
          · rw [if_pos h0, if_pos h0]
            exact ⟨_, _, rfl, by rw [show (stI (stI M 28 (pv_u f1 f2)) 29 (pv_w f1 f2)).1 28 = nI f1 by show pv_u f1 f2 = _; unfold pv_u; rw [if_pos hf]], hX⟩
          · rw [if_neg h0, if_neg h0, pv_tw f2 g3]
            exact ⟨_, _, rfl, by rw [show (stI (stI M 28 (pv_u f1 f2)) 29 (pv_w f1 f2)).1 29 = nI (f2 - 1) by show pv_w f1 f2 = _; unfold pv_w; rw [if_pos hf]], hX⟩
        · rw [if_neg (fun z => hf ((pv_lt (by omega) (by omega)).mp z))]
          have eu : (stI (stI M 28 (pv_u f1 f2)) 29 (pv_w f1 f2)).1 28 = -6 := by show pv_u f1 f2 = _; unfold pv_u; rw [if_neg hf]
          have ew : (stI (stI M 28 (pv_u f1 f2)) 29 (pv_w f1 f2)).1 29 = -6 := by show pv_w f1 f2 = _; unfold pv_w; rw [if_neg hf]
          rw [eu, ew]
          by_cases h0 : x3 = 0
          · rw [if_pos h0]; exact ⟨_, _, rfl, rfl, hX⟩
          · rw [if_neg h0]; exact ⟨_, _, rfl, rfl, hX⟩
      · rw [if_neg h3, if_neg h3]; exact ⟨_, _, rfl, rfl, pv_X.rf M⟩
    · rw [if_neg h2, if_neg h2]; exact ⟨_, _, rfl, rfl, pv_X.rf M⟩
  · rw [if_neg h1, if_neg (show ¬ pv_has (M.1 7) x1 by rw [r7]; exact h1)]; exact ⟨_, _, rfl, rfl, pv_X.rf M⟩
