/-- where and how long: from minute f1 on it is baked v, from f2 on more -/
def pv_Q (O : St) (p v f1 f2 : Nat) : Prop := ∃ h c L : Nat, O.1 2 = nI h ∧ O.1 3 = nI c ∧ O.2 6 p = nI L ∧ h ≤ 99 ∧ c ≤ 9 ∧ L ≤ 9 ∧ pv_F (h - L) c v f1 ∧ pv_F (h - L) c (v + 1) f2
theorem pv_Q_class (N : Nat) (hN : 2000 ≤ N) {O : St} (S T P D E B : St) (hO : pv_IO O) {p v : Nat} (hp : p < 6) (hv : v ≤ 5000) : ∃ f1 f2, pv_Q O p v f1 f2 ∧ f_X7_countStays N O S T P D E B (nI p) (nI v) = some (nI (min f2 100 - f1)) ∧ f_X7_firstStay N O S T P D E B (nI p) (nI v) = some (nI f1) := by
  obtain ⟨i0, i1, i2, i3, i4, i5, i6, i7, i8⟩ := hO
  obtain ⟨h, eh, hh⟩ := pv_num i2
  obtain ⟨c, ec, hc⟩ := pv_num i3
  obtain ⟨L, eL, hL⟩ := pv_num (i6 p hp)
  have hx := pv_rate (h := h) (L := L) (by omega) (by omega)
  obtain ⟨f1, q1, F1⟩ := pv_firstMinute N (by omega) (a := h - L) (c := c) (v := v) (by omega) hx (by omega) (by omega)
  obtain ⟨f2, q2, F2⟩ := pv_firstMinute N (by omega) (a := h - L) (c := c) (v := v + 1) (by omega) hx (by omega) (by omega)
  have e1 : f_X7_firstStay N O S T P D E B (nI p) (nI v) = some (nI f1) := by
    unfold f_X7_firstStay f_X3_rateAt
    rw [pv_aldn hp (by omega), b1e, eh, eL, ec, q1, b1e]
  have e2 : f_X7_firstStay N O S T P D E B (nI p) (nI (v + 1)) = some (nI f2) := by
    unfold f_X7_firstStay f_X3_rateAt
    rw [pv_aldn hp (by omega), b1e, eh, eL, ec, q2, b1e]
  refine ⟨f1, f2, ⟨h, c, L, eh, ec, eL, by omega, by omega, by omega, F1, F2⟩, ?_, e1⟩
  obtain ⟨g1, g2, -⟩ := F1
  obtain ⟨g3, g4, -⟩ := F2
  unfold f_X7_countStays
  rw [nI_1, e2, b1e, lte, e1, b1e, lte]
  rw [show (if (100 : Int32) < nI f2 then (100 : Int32) else nI f2) = nI (min f2 100) by
    by_cases z : 100 < f2
    · rw [if_pos (show (100 : Int32) < nI f2 from (pv_lt (a := 100) (by omega) (by omega)).mpr z), Nat.min_eq_right (by omega)]; rfl
    · rw [if_neg (show ¬ (100 : Int32) < nI f2 from fun q => z ((pv_lt (a := 100) (by omega) (by omega)).mp q)), Nat.min_eq_left (by omega)]]
  congr 1
  have et : (nI (min f2 100) - nI f1).toInt = ((min f2 100 : Nat) : Int) - f1 := by
    rw [pv_sub (by rw [pv_nI _ (by omega), pv_nI _ (by omega)]; omega) (by rw [pv_nI _ (by omega), pv_nI _ (by omega)]; omega), pv_nI _ (by omega), pv_nI _ (by omega)]
  by_cases z : f1 < min f2 100
  · rw [if_pos (by rw [Int32.lt_iff_toInt_lt, et, t32_0]; omega), pk_sub (by omega)]
  · rw [if_neg (by rw [Int32.lt_iff_toInt_lt, et, t32_0]; omega), show min f2 100 - f1 = 0 by omega]; rfl
theorem stI_self {S : St} {k : Nat} {v : Int32} (h : S.1 k = v) : stI S k v = S := by
  unfold stI upd
  refine Prod.ext (funext fun j => ?_) rfl
  dsimp only
  by_cases e : j = k
  · rw [if_pos e, e, h]
  · rw [if_neg e]
/-- the wanted one among those found from the K-th on -/
def pv_fd (w : Int32) (K n p f1 : Nat) : Int32 := if (K : Int) ≤ w.toInt ∧ w.toInt < (K : Int) + n then nI (100 * p + f1 + (w.toInt.toNat - K)) else (-6)
set_option maxHeartbeats 1000000 in
theorem pv_Q_model (N : Nat) (hN : 2000 ≤ N) {O M : St} {p v f1 f2 K : Nat} (hp : p < 6) (hv : v ≤ 5000) (hQ : pv_Q O p v f1 f2) (hR : pv_RO O M) (hK : M.1 40 = nI K) (hK2 : K ≤ 1000) (w : Int32) : f_X8_findStood N M (nI p) (nI v) w = some (pv_fd w K (min f2 100 - f1) p f1, stI M 40 (nI (K + (min f2 100 - f1)))) := by
  obtain ⟨h, c, L, eh, ec, eL, hh, hc, hL, F1, F2⟩ := hQ
  obtain ⟨r0, r1, r2, r3, r4, r5, r6, r12, r13, r14, r15⟩ := hR
  obtain ⟨a1, a2, a3⟩ := F1
  obtain ⟨b1, b2, b3⟩ := F2
  unfold f_X8_findStood
  have hrun := pv_run (b := lf_X8_findStood_16 N (nI p) (nI v) w) (fun i => (pv_fd w K (min f2 (i + 1) - f1) p f1, nI (h - c * i), nI (pv_B (h - L) c i), nI (i + 1), stI M 40 (nI (K + (min f2 (i + 1) - f1))))) 99 (pv_fd w K (min f2 100 - f1) p f1, stI M 40 (nI (K + (min f2 100 - f1)))) ?_ ?_ N 0 (by omega) (by omega)
  · have hf1 : min f2 (0 + 1) - f1 = 0 := by omega
    rw [show (((-6 : Int32), M.1 2, (0 : Int32), (1 : Int32), M) : Int32 × Int32 × Int32 × Int32 × St) = (pv_fd w K (min f2 (0 + 1) - f1) p f1, nI (h - c * 0), nI (pv_B (h - L) c 0), nI (0 + 1), stI M 40 (nI (K + (min f2 (0 + 1) - f1)))) by
      have z0 : K + (min f2 (0 + 1) - f1) = K := by omega
      rw [z0, hf1, stI_self hK, r2, eh, Nat.mul_zero, Nat.sub_zero]
      unfold pv_fd
      rw [if_neg (by omega)]; rfl]
    rw [hrun, b2e]
  · intro i hi rec
    unfold lf_X8_findStood_16 bd_X8_findStood_16
    dsimp only
    rw [if_neg (show ¬ (99 : Int32) < nI (i + 1) from fun z => by have := (pv_lt (a := 99) (by omega) (by omega)).mp z; omega)]
    generalize hn : min f2 (i + 1) - f1 = n
    rw [pv_aldn hp (by omega), pv_aldn hp (by omega)]
    rw [show (stI M 40 (nI (K + n))).2 6 p = nI L by show M.2 6 p = _; rw [r6 p hp, eL], show (stI M 40 (nI (K + n))).1 3 = nI c by show M.1 3 = _; rw [r3, ec], show (stI M 40 (nI (K + n))).1 40 = nI (K + n) from rfl]
    rw [pv_tsub (by omega) (by omega), pv_tsub (by omega) (by omega), b1e, lte, b1e, nI_add]
    have eB : pv_B (h - L) c i + (h - c * i - L) = pv_B (h - L) c (i + 1) := by simp only [pv_B]; omega
    have eh2 : h - c * i - c = h - c * (i + 1) := by rw [Nat.mul_succ]; omega
    have hB9 : pv_B (h - L) c (i + 1) ≤ 99 * 999 := Nat.le_trans (pv_Ble _ _ _) (Nat.mul_le_mul (by omega) (by omega))
    rw [eB, eh2]
    have e1 := a3 (i + 1) (by omega) (by omega)
    have e2 := b3 (i + 1) (by omega) (by omega)
    by_cases hr : f1 ≤ i + 1 ∧ ¬ f2 ≤ i + 1
    · have hq : pv_B (h - L) c (i + 1) = v := by have := e1.mpr hr.1; have : ¬ v + 1 ≤ pv_B (h - L) c (i + 1) := fun z => hr.2 (e2.mp z); omega
      have hn2 : min f2 (i + 1 + 1) - f1 = n + 1 := by omega
      have hn3 : f1 + n = i + 1 := by omega
      rw [if_pos (by rw [hq]), hn2]
      rw [show (if nI (K + n) = w then some ((100 : Int32) * nI p + nI (i + 1)) else some (pv_fd w K n p f1)) = some (pv_fd w K (n + 1) p f1) by
        unfold pv_fd
        by_cases hw : nI (K + n) = w
        · have hwt : w.toInt = ((K + n : Nat) : Int) := by rw [← hw, pv_nI _ (by omega)]
          rw [if_pos hw, if_pos (by omega), show (100 : Int32) = nI 100 from rfl, pk_mul, nI_add]
          congr 2
          rw [hwt]; omega
        · have hwt : ¬ w.toInt = ((K + n : Nat) : Int) := fun z => hw (pv_ext (by rw [pv_nI _ (by omega), z]))
          rw [if_neg hw]
          by_cases q : (K : Int) ≤ w.toInt ∧ w.toInt < (K : Int) + n
          · rw [if_pos q, if_pos (by omega)]
          · rw [if_neg q, if_neg (by omega)]]
      rw [b1e, lte, lte, nI_1, nI_1, stI_same, show K + (n + 1) = K + n + 1 by omega]
    · have hq : ¬ pv_B (h - L) c (i + 1) = v := by
        intro z
        exact hr ⟨e1.mp (by omega), fun q => by have := e2.mpr q; omega⟩
      have hn2 : min f2 (i + 1 + 1) - f1 = n := by omega
      rw [if_neg (fun z => hq ((pv_eq (by omega) (by omega)).mp z)), hn2, lte, nI_1]
  · intro rec
    unfold lf_X8_findStood_16 bd_X8_findStood_16
    dsimp only
    rw [if_pos (by decide)]
/-- behind the wanted one nothing more is found -/
theorem pv_stood_after (N : Nat) (hN : 2000 ≤ N) {O S T P M : St} (hI : pv_I O S T P) (hR : pv_R O S T P M) {n sg v i : Nat} (en : O.1 1 = nI n) (hn : n ≤ 6) (hsg : sg < 6) (ev : T.2 1 sg = nI v) (hv : v ≤ 5000) (hi : i < 2147483648) (fd : Int32) (hfd : 0 ≤ fd.toInt) : ∀ (d p K : Nat) (M1 : St) (n2 : Nat), p + d = n → pv_X M M1 → M1.1 40 = nI K → K ≤ 99 * p → i < K → d < n2 → ∃ M' : St, fx_it (lf_X8_stood_30 N (nI sg) (nI i)) n2 (fd, nI p, M1) = some (fd, M') ∧ pv_X M M' := by
  intro d
  induction d with
  | zero =>
    intro p K M1 n2 hpd hX hK hK2 hiK hn2
    obtain ⟨n2, rfl⟩ : ∃ q, n2 = q + 1 := ⟨n2 - 1, by omega⟩
    have hpn : p = n := by omega
    subst hpn
    refine ⟨M1, ?_, hX⟩
    show lf_X8_stood_30 N _ _ (fd, nI p, M1) _ = _
    unfold lf_X8_stood_30 bd_X8_stood_30
    dsimp only
    rw [(hX.1 1 (by omega)).1, hR.1.2.1, en, if_pos (Int32.le_refl _)]
  | succ d ih =>
    intro p K M1 n2 hpd hX hK hK2 hiK hn2
    obtain ⟨n2, rfl⟩ : ∃ q, n2 = q + 1 := ⟨n2 - 1, by omega⟩
    have hp6 : p < 6 := by omega
    have hne : ¬ nI n ≤ nI p := fun z => by have := (pv_le (by omega) (by omega)).mp z; omega
    obtain ⟨f1, f2, hQ, -, -⟩ := pv_Q_class N hN S T P T P P hI.1 hp6 hv
    have hR1 := hX.R hR
    have hm := pv_Q_model N hN hp6 hv hQ hR1.1 hK (by omega) (nI i)
    have hfd0 : pv_fd (nI i) K (min f2 100 - f1) p f1 = -6 := by
      unfold pv_fd
      rw [if_neg (by rw [pv_nI _ (by omega)]; omega)]
    rw [hfd0] at hm
    have e8 : fx_it (lf_X8_stood_30 N (nI sg) (nI i)) (n2 + 1) (fd, nI p, M1) = fx_it (lf_X8_stood_30 N (nI sg) (nI i)) n2 (fd, nI (p + 1), stI M1 40 (nI (K + (min f2 100 - f1)))) := by
      show lf_X8_stood_30 N _ _ (fd, nI p, M1) _ = _
      unfold lf_X8_stood_30 bd_X8_stood_30
      dsimp only
      rw [hR1.1.2.1, en, if_neg hne, pv_aldn hsg (by omega), hR1.2.2.1.2 sg hsg, ev, hm, b2e, if_pos (by decide), lte, nI_1]
    obtain ⟨M', q1, q2⟩ := ih (p + 1) (K + (min f2 100 - f1)) (stI M1 40 (nI (K + (min f2 100 - f1)))) n2 (by omega) (hX.trans (pv_X.I 40 _ (by omega))) rfl (by obtain ⟨_, _, _, _, _, _, _, _, _, ⟨g1, _, _⟩, _⟩ := hQ; omega) (by omega) (by omega)
    exact ⟨M', e8.trans q1, q2⟩
theorem op_stood (N : Nat) (hN : 2000 ≤ N) {O S T P M : St} (D E B : St) (hI : pv_I O S T P) (hR : pv_R O S T P M) (x1 x2 : Int32) : ∃ (r : Int32) (M' : St), f_X7_stood N O S T P D E B x1 x2 = some r ∧ f_X8_stood N M x1 x2 = some (r, M') ∧ pv_X M M' := by
  obtain ⟨hO, hS, ⟨t0, t1⟩, hP⟩ := id hI
  obtain ⟨i0, i1, i2, i3, i4, i5, i6, i7, i8⟩ := id hO
  obtain ⟨hRO, hRS, ⟨r17, r16⟩, hRP⟩ := id hR
  obtain ⟨n, en, hn⟩ := pv_num (b := 6) ⟨by omega, i1.2⟩
  obtain ⟨mt, emt, hmt⟩ := pv_num t0
  unfold f_X7_stood f_X8_stood
  rw [r17]
  simp only [b1e, pv_if, pv_within, pv_in, t32_0, t64_0, Int32.toInt_toInt64]
  by_cases h1 : 0 ≤ x1.toInt ∧ x1.toInt ≤ (T.1 0 - 1).toInt
  · rw [if_pos h1, if_pos h1]
    have et : (T.1 0 - 1).toInt = (mt : Int) - 1 := by
      rw [emt, pv_sub (by rw [pv_nI _ (by omega), t32_1]; omega) (by rw [pv_nI _ (by omega), t32_1]; omega), pv_nI _ (by omega), t32_1]
    obtain ⟨sg, rfl, hsg⟩ := pv_num (b := 5) ⟨h1.1, by omega⟩
    have hsg6 : sg < 6 := by omega
    obtain ⟨v, ev, hv⟩ := pv_num (t1 sg hsg6)
    rw [lte]
    have hX0 : pv_X M (stI M 40 0) := pv_X.I 40 _ (by omega)
    by_cases hneg : (-1 : Int32) ≤ x2
    · rw [if_pos hneg, pv_aldn hsg6 (by omega), ev]
      rw [Int32.le_iff_toInt_le, t32_m1] at hneg
      by_cases hm1 : x2 = -1
      · -- how many
        subst hm1
        have cnt : ∀ (d p K : Nat) (M1 : St) (n1 n2 : Nat), p + d = n → pv_X M M1 → M1.1 40 = nI K → K ≤ 99 * p → d < n1 → d < n2 → ∃ (K' : Nat) (M' : St), K' ≤ 1000 ∧ fx_it (lf_X7_stood_50 N (-1) (nI v) O S T P D E B) n1 (nI K, nI p) = some (1, nI K', 0) ∧ fx_it (lf_X8_stood_30 N (nI sg) (-1)) n2 ((-6 : Int32), nI p, M1) = some ((-6 : Int32), M') ∧ M'.1 40 = nI K' ∧ pv_X M M' := by
          intro d
          induction d with
          | zero =>
            intro p K M1 n1 n2 hpd hX hK hK2 h1 h2
            obtain ⟨n1, rfl⟩ : ∃ q, n1 = q + 1 := ⟨n1 - 1, by omega⟩
            obtain ⟨n2, rfl⟩ : ∃ q, n2 = q + 1 := ⟨n2 - 1, by omega⟩
            have hpn : p = n := by omega
            subst hpn
            refine ⟨K, M1, by omega, ?_, ?_, hK, hX⟩
            · show lf_X7_stood_50 N _ _ O S T P D E B (nI K, nI p) _ = _
              unfold lf_X7_stood_50 bd_X7_stood_50
              dsimp only
              rw [en, if_pos (Int32.le_refl _)]
            · show lf_X8_stood_30 N _ _ (_, nI p, M1) _ = _
              unfold lf_X8_stood_30 bd_X8_stood_30
              dsimp only
              rw [(hX.1 1 (by omega)).1, hRO.2.1, en, if_pos (Int32.le_refl _)]
          | succ d ih =>
            intro p K M1 n1 n2 hpd hX hK hK2 h1 h2
            obtain ⟨n1, rfl⟩ : ∃ q, n1 = q + 1 := ⟨n1 - 1, by omega⟩
            obtain ⟨n2, rfl⟩ : ∃ q, n2 = q + 1 := ⟨n2 - 1, by omega⟩
            have hp6 : p < 6 := by omega
            have hne : ¬ nI n ≤ nI p := fun z => by have := (pv_le (by omega) (by omega)).mp z; omega
            obtain ⟨f1, f2, hQ, hc, -⟩ := pv_Q_class N hN S T P D E B hO hp6 (show v ≤ 5000 by omega)
            have hR1 := hX.R hR
            have hm := pv_Q_model N hN hp6 (by omega) hQ hR1.1 hK (by omega) (-1)
            have hfd0 : pv_fd (-1) K (min f2 100 - f1) p f1 = -6 := by
              unfold pv_fd
              rw [if_neg (by rw [t32_m1]; omega)]
            rw [hfd0] at hm
            have e7 : fx_it (lf_X7_stood_50 N (-1) (nI v) O S T P D E B) (n1 + 1) (nI K, nI p) = fx_it (lf_X7_stood_50 N (-1) (nI v) O S T P D E B) n1 (nI (K + (min f2 100 - f1)), nI (p + 1)) := by
              show lf_X7_stood_50 N _ _ O S T P D E B (nI K, nI p) _ = _
              unfold lf_X7_stood_50 bd_X7_stood_50
              dsimp only
              rw [en, if_neg hne, hc, b1e, if_pos (by decide), lte, lte, nI_add, nI_1]
            have e8 : fx_it (lf_X8_stood_30 N (nI sg) (-1)) (n2 + 1) ((-6 : Int32), nI p, M1) = fx_it (lf_X8_stood_30 N (nI sg) (-1)) n2 ((-6 : Int32), nI (p + 1), stI M1 40 (nI (K + (min f2 100 - f1)))) := by
              show lf_X8_stood_30 N _ _ (_, nI p, M1) _ = _
              unfold lf_X8_stood_30 bd_X8_stood_30
              dsimp only
              rw [hR1.1.2.1, en, if_neg hne, pv_aldn hsg6 (by omega), hR1.2.2.1.2 sg hsg6, ev, hm, b2e, if_pos (by decide), lte, nI_1]
            obtain ⟨K', M', q0, q1, q2, q3, q4⟩ := ih (p + 1) (K + (min f2 100 - f1)) (stI M1 40 (nI (K + (min f2 100 - f1)))) n1 n2 (by omega) (hX.trans (pv_X.I 40 _ (by omega))) rfl (by obtain ⟨_, _, _, _, _, _, _, _, _, ⟨g1, _, _⟩, _⟩ := hQ; omega) (by omega) (by omega)
            exact ⟨K', M', q0, e7.trans q1, e8.trans q2, q3, q4⟩
        obtain ⟨K', M', q0, q1, q2, q3, q4⟩ := cnt n 0 0 (stI M 40 0) N N (by omega) hX0 rfl (by omega) (by omega) (by omega)
        rw [show ((0 : Int32), (0 : Int32)) = (nI 0, nI 0) from rfl, q1, b3e, show (((-6 : Int32), (0 : Int32), stI M 40 0) : Int32 × Int32 × St) = ((-6 : Int32), nI 0, stI M 40 0) from rfl, q2, b2e, if_pos rfl, q3]
        exact ⟨nI K', M', rfl, rfl, q4⟩
      · -- the i-th
        have hx2 : 0 ≤ x2.toInt := by
          have : ¬ x2.toInt = -1 := fun z => hm1 (pv_ext z)
          omega
        obtain ⟨i, rfl, ei2, hi⟩ := pv_ex hx2
        simp only [if_neg hm1]
        have nth : ∀ (d p K : Nat) (M1 : St) (n1 n2 : Nat), p + d = n → pv_X M M1 → M1.1 40 = nI K → K ≤ 99 * p → K ≤ i → d < n1 → d < n2 → ∃ (M' : St), pv_X M M' ∧ ((∃ x4, fx_it (lf_X7_stood_50 N (nI i) (nI v) O S T P D E B) n1 (nI K, nI p) = some (1, x4, 0) ∧ fx_it (lf_X8_stood_30 N (nI sg) (nI i)) n2 ((-6 : Int32), nI p, M1) = some ((-6 : Int32), M')) ∨ (∃ (p' K' f1 : Nat), p' < 6 ∧ K' ≤ i ∧ i < K' + 100 ∧ f1 ≤ 1000 ∧ f_X7_firstStay N O S T P D E B (nI p') (nI v) = some (nI f1) ∧ fx_it (lf_X7_stood_50 N (nI i) (nI v) O S T P D E B) n1 (nI K, nI p) = some (0, nI K', nI p') ∧ fx_it (lf_X8_stood_30 N (nI sg) (nI i)) n2 ((-6 : Int32), nI p, M1) = some (nI (100 * p' + f1 + (i - K')), M'))) := by
          intro d
          induction d with
          | zero =>
            intro p K M1 n1 n2 hpd hX hK hK2 hKi h1 h2
            obtain ⟨n1, rfl⟩ : ∃ q, n1 = q + 1 := ⟨n1 - 1, by omega⟩
            obtain ⟨n2, rfl⟩ : ∃ q, n2 = q + 1 := ⟨n2 - 1, by omega⟩
            have hpn : p = n := by omega
            subst hpn
            refine ⟨M1, hX, Or.inl ⟨nI K, ?_, ?_⟩⟩
            · show lf_X7_stood_50 N _ _ O S T P D E B (nI K, nI p) _ = _
              unfold lf_X7_stood_50 bd_X7_stood_50
              dsimp only
              rw [en, if_pos (Int32.le_refl _)]
            · show lf_X8_stood_30 N _ _ (_, nI p, M1) _ = _
              unfold lf_X8_stood_30 bd_X8_stood_30
              dsimp only
              rw [(hX.1 1 (by omega)).1, hRO.2.1, en, if_pos (Int32.le_refl _)]
          | succ d ih =>
            intro p K M1 n1 n2 hpd hX hK hK2 hKi h1 h2
            obtain ⟨n1, rfl⟩ : ∃ q, n1 = q + 1 := ⟨n1 - 1, by omega⟩
            obtain ⟨n2, rfl⟩ : ∃ q, n2 = q + 1 := ⟨n2 - 1, by omega⟩
            have hp6 : p < 6 := by omega
            have hne : ¬ nI n ≤ nI p := fun z => by have := (pv_le (by omega) (by omega)).mp z; omega
            obtain ⟨f1, f2, hQ, hc, hfs⟩ := pv_Q_class N hN S T P D E B hO hp6 (show v ≤ 5000 by omega)
            have hR1 := hX.R hR
            have hm := pv_Q_model N hN hp6 (by omega) hQ hR1.1 hK (by omega) (nI i)
            have hg : 1 ≤ f1 ∧ f1 ≤ 1000 := by obtain ⟨_, _, _, _, _, _, _, _, _, ⟨g1, g2, _⟩, _⟩ := hQ; exact ⟨g1, g2⟩
            have hX2 : pv_X M (stI M1 40 (nI (K + (min f2 100 - f1)))) := hX.trans (pv_X.I 40 _ (by omega))
            by_cases hfound : i - K < min f2 100 - f1
            · have hfd0 : pv_fd (nI i) K (min f2 100 - f1) p f1 = nI (100 * p + f1 + (i - K)) := by
                unfold pv_fd
                rw [if_pos (by rw [pv_nI _ (by omega)]; omega), pv_nI _ (by omega)]
                congr 1
              rw [hfd0] at hm
              have e7 : fx_it (lf_X7_stood_50 N (nI i) (nI v) O S T P D E B) (n1 + 1) (nI K, nI p) = some (0, nI K, nI p) := by
                show lf_X7_stood_50 N _ _ O S T P D E B (nI K, nI p) _ = _
                unfold lf_X7_stood_50 bd_X7_stood_50
                dsimp only
                rw [en, if_neg hne, hc, b1e, if_neg (show ¬ nI i < 0 from nI_pos (by omega)), pk_sub hKi, if_neg (fun z => by have := (pv_le (by omega) (by omega)).mp z; omega)]
              have e8 : fx_it (lf_X8_stood_30 N (nI sg) (nI i)) (n2 + 1) ((-6 : Int32), nI p, M1) = fx_it (lf_X8_stood_30 N (nI sg) (nI i)) n2 (nI (100 * p + f1 + (i - K)), nI (p + 1), stI M1 40 (nI (K + (min f2 100 - f1)))) := by
                show lf_X8_stood_30 N _ _ (_, nI p, M1) _ = _
                unfold lf_X8_stood_30 bd_X8_stood_30
                dsimp only
                rw [hR1.1.2.1, en, if_neg hne, pv_aldn hsg6 (by omega), hR1.2.2.1.2 sg hsg6, ev, hm, b2e, if_neg (nI_pos (by omega)), lte, nI_1]
              obtain ⟨M', q1, q2⟩ := pv_stood_after N hN hI hR en (by omega) hsg6 ev (by omega) hi (nI (100 * p + f1 + (i - K))) (by rw [pv_nI _ (by omega)]; omega) d (p + 1) (K + (min f2 100 - f1)) _ n2 (by omega) hX2 rfl (by omega) (by omega) (by omega)
              exact ⟨M', q2, Or.inr ⟨p, K, f1, hp6, hKi, by omega, hg.2, hfs, e7, e8.trans q1⟩⟩
            · have hfd0 : pv_fd (nI i) K (min f2 100 - f1) p f1 = -6 := by
                unfold pv_fd
                rw [if_neg (by rw [pv_nI _ (by omega)]; omega)]
              rw [hfd0] at hm
              have e7 : fx_it (lf_X7_stood_50 N (nI i) (nI v) O S T P D E B) (n1 + 1) (nI K, nI p) = fx_it (lf_X7_stood_50 N (nI i) (nI v) O S T P D E B) n1 (nI (K + (min f2 100 - f1)), nI (p + 1)) := by
                show lf_X7_stood_50 N _ _ O S T P D E B (nI K, nI p) _ = _
                unfold lf_X7_stood_50 bd_X7_stood_50
                dsimp only
                rw [en, if_neg hne, hc, b1e, if_neg (show ¬ nI i < 0 from nI_pos (by omega)), pk_sub hKi, if_pos ((pv_le (by omega) (by omega)).mpr (by omega)), lte, lte, nI_add, nI_1]
              have e8 : fx_it (lf_X8_stood_30 N (nI sg) (nI i)) (n2 + 1) ((-6 : Int32), nI p, M1) = fx_it (lf_X8_stood_30 N (nI sg) (nI i)) n2 ((-6 : Int32), nI (p + 1), stI M1 40 (nI (K + (min f2 100 - f1)))) := by
                show lf_X8_stood_30 N _ _ (_, nI p, M1) _ = _
                unfold lf_X8_stood_30 bd_X8_stood_30
                dsimp only
                rw [hR1.1.2.1, en, if_neg hne, pv_aldn hsg6 (by omega), hR1.2.2.1.2 sg hsg6, ev, hm, b2e, if_pos (by decide), lte, nI_1]
              obtain ⟨M', q0, q1⟩ := ih (p + 1) (K + (min f2 100 - f1)) (stI M1 40 (nI (K + (min f2 100 - f1)))) n1 n2 (by omega) hX2 rfl (by omega) (by omega) (by omega) (by omega)
              rw [e7, e8]
              exact ⟨M', q0, q1⟩
        obtain ⟨M', q0, q1⟩ := nth n 0 0 (stI M 40 0) N N (by omega) hX0 rfl (by omega) (by omega) (by omega) (by omega)
        rw [show ((0 : Int32), (0 : Int32)) = (nI 0, nI 0) from rfl, show (((-6 : Int32), (0 : Int32), stI M 40 0) : Int32 × Int32 × St) = ((-6 : Int32), nI 0, stI M 40 0) from rfl]
        rcases q1 with ⟨x4, e7, e8⟩ | ⟨p', K', f1, hp', hK', hK2', hf1, hfs, e7, e8⟩
        · rw [e7, e8, b3e, b2e]
          exact ⟨_, M', rfl, rfl, q0⟩
        · rw [e7, e8, b3e, b2e]
          refine ⟨nI (100 * p' + f1 + (i - K')), M', ?_, rfl, q0⟩
          show fx_b1 (f_X7_firstStay N O S T P D E B (nI p') (nI v)) _ = _
          rw [hfs, b1e, show (100 : Int32) = nI 100 from rfl, pk_mul, nI_add, nI_add, pk_sub (by omega)]
          congr 2
          omega
    · rw [if_neg hneg]
      have hnx : ¬ (-1 : Int32) ≤ x2 := hneg
      rw [Int32.le_iff_toInt_le, t32_m1] at hneg
      simp only [if_neg (show ¬ x2 = (-1 : Int32) from fun z => hneg (by rw [z, t32_m1]; omega))]
      have none : ∀ (d p K : Nat) (M1 : St) (n2 : Nat), p + d = n → pv_X M M1 → M1.1 40 = nI K → K ≤ 99 * p → d < n2 → ∃ (M' : St), fx_it (lf_X8_stood_30 N (nI sg) x2) n2 ((-6 : Int32), nI p, M1) = some ((-6 : Int32), M') ∧ pv_X M M' := by
        intro d
        induction d with
        | zero =>
          intro p K M1 n2 hpd hX hK hK2 h2
          obtain ⟨n2, rfl⟩ : ∃ q, n2 = q + 1 := ⟨n2 - 1, by omega⟩
          have hpn : p = n := by omega
          subst hpn
          refine ⟨M1, ?_, hX⟩
          show lf_X8_stood_30 N _ _ (_, nI p, M1) _ = _
          unfold lf_X8_stood_30 bd_X8_stood_30
          dsimp only
          rw [(hX.1 1 (by omega)).1, hRO.2.1, en, if_pos (Int32.le_refl _)]
        | succ d ih =>
          intro p K M1 n2 hpd hX hK hK2 h2
          obtain ⟨n2, rfl⟩ : ∃ q, n2 = q + 1 := ⟨n2 - 1, by omega⟩
          have hp6 : p < 6 := by omega
          have hne : ¬ nI n ≤ nI p := fun z => by have := (pv_le (by omega) (by omega)).mp z; omega
          obtain ⟨f1, f2, hQ, hc, -⟩ := pv_Q_class N hN S T P D E B hO hp6 (show v ≤ 5000 by omega)
          have hR1 := hX.R hR
          have hm := pv_Q_model N hN hp6 (by omega) hQ hR1.1 hK (by omega) x2
          have hfd0 : pv_fd x2 K (min f2 100 - f1) p f1 = -6 := by
            unfold pv_fd
            rw [if_neg (by omega)]
          rw [hfd0] at hm
          have e8 : fx_it (lf_X8_stood_30 N (nI sg) x2) (n2 + 1) ((-6 : Int32), nI p, M1) = fx_it (lf_X8_stood_30 N (nI sg) x2) n2 ((-6 : Int32), nI (p + 1), stI M1 40 (nI (K + (min f2 100 - f1)))) := by
            show lf_X8_stood_30 N _ _ (_, nI p, M1) _ = _
            unfold lf_X8_stood_30 bd_X8_stood_30
            dsimp only
            rw [hR1.1.2.1, en, if_neg hne, pv_aldn hsg6 (by omega), hR1.2.2.1.2 sg hsg6, ev, hm, b2e, if_pos (by decide), lte, nI_1]
          obtain ⟨M', q1, q2⟩ := ih (p + 1) (K + (min f2 100 - f1)) (stI M1 40 (nI (K + (min f2 100 - f1)))) n2 (by omega) (hX.trans (pv_X.I 40 _ (by omega))) rfl (by obtain ⟨_, _, _, _, _, _, _, _, _, ⟨g1, _, _⟩, _⟩ := hQ; omega) (by omega)
          exact ⟨M', e8.trans q1, q2⟩
      obtain ⟨M', q1, q2⟩ := none n 0 0 (stI M 40 0) N (by omega) hX0 rfl (by omega) (by omega)
      rw [show (((-6 : Int32), (0 : Int32), stI M 40 0) : Int32 × Int32 × St) = ((-6 : Int32), nI 0, stI M 40 0) from rfl, q1, b2e]
      exact ⟨_, M', rfl, rfl, q2⟩
  · rw [if_neg h1, if_neg h1]; exact ⟨_, _, rfl, rfl, pv_X.rf M⟩
