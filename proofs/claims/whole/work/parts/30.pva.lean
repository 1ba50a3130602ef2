theorem pv_bt0 : ∀ i, i < 64 → pv_bt 0 i = false := by decide +kernel
theorem pv_hs0 (h c d m : Nat) (hm : m ≤ 64) : pv_hs h c d (pv_bt 0) m = h - c * m := by
  induction m with
  | zero => rw [Nat.mul_zero, Nat.sub_zero]; rfl
  | succ m ih => simp only [pv_hs]; rw [ih (by omega), pv_bt0 m (by omega), Nat.mul_succ]; simp only [Bool.false_eq_true, if_false]; omega
theorem pv_ds0 (h c d L m : Nat) (hm : m ≤ 64) : pv_ds h c d L (pv_bt 0) m = pv_B (h - L) c m := by
  induction m with
  | zero => rfl
  | succ m ih => simp only [pv_ds, pv_B]; rw [ih (by omega), pv_hs0 h c d m (by omega)]; omega
def pv_rn (nd be b : Nat) : Nat := if nd ≤ b then (if nd + be < b then 2 else 1) else 0
theorem pv_rp_rn (nd be b : Nat) : pv_rp nd be b = nI (pv_rn nd be b) := by
  unfold pv_rp pv_rn
  by_cases h1 : nd ≤ b
  · rw [if_pos h1, if_pos h1]
    by_cases h2 : nd + be < b
    · rw [if_pos h2, if_pos h2]; rfl
    · rw [if_neg h2, if_neg h2]; rfl
  · rw [if_neg h1, if_neg h1]; rfl
theorem pv_rn_le (nd be b : Nat) : pv_rn nd be b ≤ 2 := by unfold pv_rn; split <;> (try split) <;> omega
/-- one day's kind, place, minutes, of a draw -/
theorem pv_draw7 (X : Nat) (hX : X ≤ 65536) : ((75 : Int32) * nI X + 74) - ((75 : Int32) * nI X + 74) / 65537 * 65537 = nI ((75 * X + 74) % 65537) := by
  rw [show (75 : Int32) = nI 75 from rfl, show (74 : Int32) = nI 74 from rfl, show (65537 : Int32) = nI 65537 from rfl, pk_mul, nI_add, pk_rem (by omega) (by omega) (by omega)]
theorem pv_draw8 (X : Nat) (hX : X ≤ 65536) : Int64.toInt32 (((75 : Int64) * Int32.toInt64 (nI X) + 74) - ((75 : Int64) * Int32.toInt64 (nI X) + 74) / 65537 * 65537) = nI ((75 * X + 74) % 65537) := by
  rw [nI_l (by omega), show (75 : Int64) = lN 75 from rfl, show (74 : Int64) = lN 74 from rfl, show (65537 : Int64) = lN 65537 from rfl, lN_mul, lN_add, pk_lRem (by omega) (by omega) (by omega), lN_i]
theorem pv_rem6 (X d : Nat) (hX : X < 2147483648) (hd : 0 < d) (hd2 : d < 2147483648) : nI X - nI X / nI d * nI d = nI (X % d) := pk_rem (by omega) hd (by omega)
theorem pv_yearz (N : Nat) (hN : 100 ≤ N) (x1 x2 x3 : Int32) (S : St) : fx_it (lf_X8_year_42 N x1 x2 x3) N ((0 : Int32), S) = some (stA S 41 (fx_fl 4 0 (S.2 41))) := by
  have h := pv_run (b := lf_X8_year_42 N x1 x2 x3) (fun i => (nI i, stA S 41 (fx_fl i 0 (S.2 41)))) 4 (stA S 41 (fx_fl 4 0 (S.2 41))) ?_ ?_ N 0 (by omega) (by omega)
  · rw [← h]
    show fx_it _ N _ = fx_it _ N (nI 0, _)
    rw [fx_fl_0]
    congr 2
    unfold stA; refine Prod.ext rfl (funext fun j => ?_)
    dsimp only
    by_cases h1 : j = 41
    · rw [if_pos h1, h1]
    · rw [if_neg h1]
  · intro i hi rec
    unfold lf_X8_year_42 bd_X8_year_42
    dsimp only
    rw [if_neg (pv_4le i hi), pv_astn hi (by omega), lte, nI_1]
    congr 2
    rw [stA_2, if_pos rfl, fx_fl_s, stA_same]
  · intro rec
    unfold lf_X8_year_42 bd_X8_year_42
    dsimp only
    rw [if_pos (by decide)]
set_option maxHeartbeats 1000000 in
theorem op_year (N : Nat) (hN : 2000 ≤ N) {O S T P M : St} (D E B : St) (hI : pv_I O S T P) (hR : pv_R O S T P M) (x1 x2 x3 : Int32) : ∃ (r : Int32) (M' : St), f_X7_year N O S T P D E B x1 x2 x3 = some r ∧ f_X8_year N M x1 x2 x3 = some (r, M') ∧ pv_X M M' := by
  obtain ⟨⟨i0, i1, i2, i3, i4, i5, i6, i7, i8⟩, ⟨s0, s1, s2, s3⟩, hI3⟩ := id hI
  obtain ⟨n, en, hn⟩ := pv_num (b := 6) ⟨by omega, i1.2⟩
  have hn1 : 1 ≤ n := by rw [en, pv_nI _ (by omega)] at i1; omega
  obtain ⟨h, eh, hh⟩ := pv_num i2
  obtain ⟨c, ec, hc⟩ := pv_num i3
  obtain ⟨dd, ed, hd⟩ := pv_num i4
  unfold f_X7_year f_X8_year
  simp only [b1e, pv_if, pv_within, pv_in, t32_0, t32_1, t32_3, t32_99, t32_9999, t64_0, t64_1, t64_3, t64_99, t64_9999]
  by_cases h1 : 0 ≤ x1.toInt ∧ x1.toInt ≤ 9999
  · rw [if_pos h1, if_pos h1]
    by_cases h2 : 1 ≤ x2.toInt ∧ x2.toInt ≤ 99
    · rw [if_pos h2, if_pos h2]
      by_cases h3 : 0 ≤ x3.toInt ∧ x3.toInt ≤ 3
      · rw [if_pos h3, if_pos h3, pv_yearz N (by omega), b1e]
        obtain ⟨X0, rfl, hX0⟩ := pv_num h1
        obtain ⟨m, rfl, hm⟩ := pv_num (b := 99) ⟨by omega, h2.2⟩
        obtain ⟨wt, rfl, hwt⟩ := pv_num h3
        have loop : ∀ (d k X : Nat), k + d = m → X ≤ 65536 → ∀ (M1 : St), pv_X M M1 → ∀ n1 n2 : Nat, d < n1 → d < n2 → ∃ M' : St, fx_it (lf_X7_year_42 N (nI m) (nI wt) O S T P D E B) n1 (nI X, M1.2 41 wt, nI k) = some (M'.2 41 wt) ∧ fx_it (lf_X8_year_68 N (nI m) (nI wt)) n2 (nI X, nI k, M1) = some M' ∧ pv_X M M' := by
          intro d
          induction d with
          | zero =>
            intro k X hk hX M1 hXM n1 n2 g1 g2
            obtain ⟨n1, rfl⟩ : ∃ q, n1 = q + 1 := ⟨n1 - 1, by omega⟩
            obtain ⟨n2, rfl⟩ : ∃ q, n2 = q + 1 := ⟨n2 - 1, by omega⟩
            have hkm : k = m := by omega
            subst hkm
            refine ⟨M1, ?_, ?_, hXM⟩
            · show lf_X7_year_42 N _ _ O S T P D E B (nI X, M1.2 41 wt, nI k) _ = _
              unfold lf_X7_year_42 bd_X7_year_42
              dsimp only
              rw [if_pos (Int32.le_refl _)]
            · show lf_X8_year_68 N _ _ (nI X, nI k, M1) _ = _
              unfold lf_X8_year_68 bd_X8_year_68
              dsimp only
              rw [if_pos (Int32.le_refl _)]
          | succ d ih =>
            intro k X hk hX M1 hXM n1 n2 g1 g2
            obtain ⟨n1, rfl⟩ : ∃ q, n1 = q + 1 := ⟨n1 - 1, by omega⟩
            obtain ⟨n2, rfl⟩ : ∃ q, n2 = q + 1 := ⟨n2 - 1, by omega⟩
            have hne : ¬ nI m ≤ nI k := fun z => by have := (pv_le (by omega) (by omega)).mp z; omega
            have hR1 := hXM.R hR
            obtain ⟨⟨r0, r1, r2, r3, r4, r5, r6, r12, r13, r14, r15⟩, ⟨r7, r8, r9, r10, r11⟩, hR3⟩ := id hR1
            generalize hY : (75 * X + 74) % 65537 = Y
            have hY2 : Y ≤ 65536 := by rw [← hY]; have := Nat.mod_lt (75 * X + 74) (show 0 < 65537 by omega); omega
            have hk6 : Y % 6 < 6 := Nat.mod_lt _ (by omega)
            have dec : Decidable (pv_has (S.1 0) (nI (Y % 6))) := Classical.propDecidable _
            have dec2 : Decidable (pv_has (M1.1 7) (nI (Y % 6))) := Classical.propDecidable _
            by_cases hhas : pv_has (S.1 0) (nI (Y % 6))
            · have hp6 : Y / 6 % n < 6 := by have := Nat.mod_lt (Y / 6) (show 0 < n by omega); omega
              have h40 : Y / 64 % 40 < 40 := Nat.mod_lt _ (by omega)
              obtain ⟨L, eL, hL⟩ := pv_num (i6 _ hp6)
              obtain ⟨nd, end_, hnd⟩ := pv_num (s1 _ hk6)
              obtain ⟨be, ebe, hbe⟩ := pv_num (s2 _ hk6)
              have hx := pv_rate (h := h) (L := L) (by omega) (by omega)
              have hbb := pv_bakedBehind N (x0 := nI h - nI L) (a := h - L) (c := c) (m := 1 + Y / 64 % 40) (by omega) hx (by omega) (by omega) (by omega)
              have hB9 : pv_B (h - L) c (1 + Y / 64 % 40) ≤ 99 * 40 := Nat.le_trans (pv_Ble _ _ _) (Nat.mul_le_mul (by omega) (by omega))
              have hv7 := pv_verdict N (S := S) hk6 end_ ebe (by omega) (by omega) (show pv_B (h - L) c (1 + Y / 64 % 40) < 2147483648 by omega)
              have hv8 := pv_ripeness N (M := M1) hk6 (by rw [r8 _ hk6, end_]) (by rw [r9 _ hk6, ebe]) (by omega) (by omega) (show pv_B (h - L) c (1 + Y / 64 % 40) < 2147483648 by omega)
              have hd8 := pv_doors8 N (by omega) (M := M1) (p := Y / 6 % n) (m := 1 + Y / 64 % 40) hp6 (by omega) (by rw [r2, eh]) (by rw [r3, ec]) (by rw [r4, ed]) (by rw [r6 _ hp6, eL]) (by omega) (by omega) (by omega) (by omega) 0
              rw [pv_ds0 _ _ _ _ _ (by omega)] at hd8
              generalize hho : pv_rn nd be (pv_B (h - L) c (1 + Y / 64 % 40)) = ho at hv7 hv8
              rw [pv_rp_rn, hho] at hv7 hv8
              have hho2 : ho ≤ 2 := by rw [← hho]; exact pv_rn_le _ _ _
              generalize hw : (if ho = 1 then S.2 3 (Y % 6) else (0 : Int32)) = w
              -- the day's worth in the reference
              have e8 : fx_it (lf_X8_year_68 N (nI m) (nI wt)) (n2 + 1) (nI X, nI k, M1) = fx_it (lf_X8_year_68 N (nI m) (nI wt)) n2 (nI Y, nI (k + 1), stA M1 41 (upd (upd (M1.2 41) ho (M1.2 41 ho + 1)) 3 (M1.2 41 3 + w))) := by
                show lf_X8_year_68 N _ _ (nI X, nI k, M1) _ = _
                unfold lf_X8_year_68 bd_X8_year_68
                dsimp only
                rw [if_neg hne, pv_draw8 X hX, hY, lte, lte, show (6 : Int32) = nI 6 from rfl, pv_rem6 Y 6 (by omega) (by omega) (by omega), pv_isSortE, b1e, pv_if, if_pos (show pv_has (M1.1 7) (nI (Y % 6)) by rw [r7]; exact hhas)]
                unfold fx_nz
                rw [r1, en, if_neg (show ¬ nI n = (0 : Int32) from nI_ne0 (by omega) (by omega)), pk_div (by omega) (by omega) (by omega), pv_rem6 (Y / 6) n (by omega) (by omega) (by omega), show (64 : Int32) = nI 64 from rfl, show (40 : Int32) = nI 40 from rfl, show (1 : Int32) = nI 1 from rfl, pk_div (by omega) (by omega) (by omega), pv_rem6 (Y / 64) 40 (by omega) (by omega) (by omega), nI_add, hd8, b1e, hv8, b1e]
                rw [pv_aldn (show ho < 4 by omega) (by omega), pv_astn (show ho < 4 by omega) (by omega), show (3 : Int32) = nI 3 from rfl, pv_aldn (show 3 < 4 by omega) (by omega)]
                rw [show (if nI ho = nI 1 then (fx_ald 6 ((stA M1 41 (upd (M1.2 41) ho (M1.2 41 ho + nI 1))).2 10) (nI (Y % 6)) fun v115 => some v115) else some (0 : Int32)) = some w by
                  rw [pv_aldn hk6 (by omega), show (stA M1 41 (upd (M1.2 41) ho (M1.2 41 ho + nI 1))).2 10 (Y % 6) = S.2 3 (Y % 6) from r10 _ hk6, ← hw]
                  by_cases z : ho = 1
                  · rw [if_pos (by rw [z]), if_pos z]
                  · rw [if_neg (fun q => z ((pv_eq (by omega) (by omega)).mp q)), if_neg z]]
                rw [b1e, pv_astn (show 3 < 4 by omega) (by omega), lte, nI_add, stA_same, stA_2, if_pos rfl, show (upd (M1.2 41) ho (M1.2 41 ho + nI 1)) 3 = M1.2 41 3 by unfold upd; rw [if_neg (by omega)]]
              have e7 : fx_it (lf_X7_year_42 N (nI m) (nI wt) O S T P D E B) (n1 + 1) (nI X, M1.2 41 wt, nI k) = fx_it (lf_X7_year_42 N (nI m) (nI wt) O S T P D E B) n1 (nI Y, M1.2 41 wt + (if wt = 3 then w else if ho = wt then 1 else 0), nI (k + 1)) := by
                show lf_X7_year_42 N _ _ O S T P D E B (nI X, M1.2 41 wt, nI k) (fx_it (lf_X7_year_42 N (nI m) (nI wt) O S T P D E B) n1) = _
                generalize fx_it (lf_X7_year_42 N (nI m) (nI wt) O S T P D E B) n1 = rec
                unfold lf_X7_year_42 bd_X7_year_42
                dsimp only
                rw [if_neg hne, pv_draw7 X hX, hY, lte]
                unfold f_X7_drawnDay f_X3_rateAt fx_nz
                rw [lte, show (6 : Int32) = nI 6 from rfl, pv_rem6 Y 6 (by omega) (by omega) (by omega), pv_hasE, b1e, pv_if, if_pos hhas, en, if_pos (show (0 : Int32) < nI n from (pv_lt (a := 0) (by omega) (by omega)).mpr (by omega)), if_neg (show ¬ nI n = (0 : Int32) from nI_ne0 (by omega) (by omega)), lte, lte, pk_div (by omega) (by omega) (by omega), pv_rem6 (Y / 6) n (by omega) (by omega) (by omega), show (64 : Int32) = nI 64 from rfl, show (40 : Int32) = nI 40 from rfl, show (1 : Int32) = nI 1 from rfl, pk_div (by omega) (by omega) (by omega), pv_rem6 (Y / 64) 40 (by omega) (by omega) (by omega), nI_add, pv_aldn hp6 (by omega), b1e, eh, eL, ec, hbb, b1e, hv7, b1e, pv_aldn hk6 (by omega)]
                rw [show (if nI wt = (3 : Int32) then (if nI ho = nI 1 then some (S.2 3 (Y % 6)) else some (0 : Int32)) else if nI ho = nI wt then some (nI 1) else some (0 : Int32)) = some (if wt = 3 then w else if ho = wt then 1 else 0) by
                  rw [show (3 : Int32) = nI 3 from rfl]
                  by_cases z3 : wt = 3
                  · rw [if_pos (by rw [z3]), if_pos z3, ← hw]
                    by_cases z : ho = 1
                    · rw [if_pos (by rw [z]), if_pos z]
                    · rw [if_neg (fun q => z ((pv_eq (by omega) (by omega)).mp q)), if_neg z]
                  · rw [if_neg (fun q => z3 ((pv_eq (by omega) (by omega)).mp q)), if_neg z3]
                    by_cases z : ho = wt
                    · rw [if_pos (by rw [z]), if_pos z]; rfl
                    · rw [if_neg (fun q => z ((pv_eq (by omega) (by omega)).mp q)), if_neg z]]
                rw [b1e, lte, lte, nI_add]
                rfl
              have hsame : M1.2 41 wt + (if wt = 3 then w else if ho = wt then 1 else 0) = (stA M1 41 (upd (upd (M1.2 41) ho (M1.2 41 ho + 1)) 3 (M1.2 41 3 + w))).2 41 wt := by
                rw [stA_2, if_pos rfl]
                unfold upd
                by_cases z3 : wt = 3
                · rw [if_pos z3, if_pos z3, z3]
                · rw [if_neg z3, if_neg z3]
                  by_cases z : ho = wt
                  · rw [if_pos z, if_pos z.symm, z]
                  · rw [if_neg z, if_neg (fun q => z q.symm), Int32.add_zero]
              rw [e7, e8, hsame]
              exact ih (k + 1) Y (by omega) hY2 _ (hXM.trans (pv_X.A 41 _ (by omega) (by omega) (by omega))) n1 n2 (by omega) (by omega)
            · have e8 : fx_it (lf_X8_year_68 N (nI m) (nI wt)) (n2 + 1) (nI X, nI k, M1) = fx_it (lf_X8_year_68 N (nI m) (nI wt)) n2 (nI Y, nI (k + 1), M1) := by
                show lf_X8_year_68 N _ _ (nI X, nI k, M1) _ = _
                unfold lf_X8_year_68 bd_X8_year_68
                dsimp only
                rw [if_neg hne, pv_draw8 X hX, hY, lte, lte, show (6 : Int32) = nI 6 from rfl, pv_rem6 Y 6 (by omega) (by omega) (by omega), pv_isSortE, b1e, pv_if, if_neg (show ¬ pv_has (M1.1 7) (nI (Y % 6)) by rw [r7]; exact hhas), lte, nI_1]
              have e7 : fx_it (lf_X7_year_42 N (nI m) (nI wt) O S T P D E B) (n1 + 1) (nI X, M1.2 41 wt, nI k) = fx_it (lf_X7_year_42 N (nI m) (nI wt) O S T P D E B) n1 (nI Y, M1.2 41 wt, nI (k + 1)) := by
                show lf_X7_year_42 N _ _ O S T P D E B (nI X, M1.2 41 wt, nI k) _ = _
                unfold lf_X7_year_42 bd_X7_year_42
                dsimp only
                rw [if_neg hne, pv_draw7 X hX, hY, lte]
                unfold f_X7_drawnDay
                rw [lte, show (6 : Int32) = nI 6 from rfl, pv_rem6 Y 6 (by omega) (by omega) (by omega), pv_hasE, b1e, pv_if, if_neg hhas, b1e, lte, lte, nI_1, Int32.add_zero]
              rw [e7, e8]
              exact ih (k + 1) Y (by omega) hY2 _ hXM n1 n2 (by omega) (by omega)
        obtain ⟨M', q1, q2, q3⟩ := loop m 0 X0 (by omega) (by omega) (stA M 41 (fx_fl 4 0 (M.2 41))) (pv_X.A 41 _ (by omega) (by omega) (by omega)) N N (by omega) (by omega)
        rw [show (stA M 41 (fx_fl 4 0 (M.2 41))).2 41 wt = (0 : Int32) by rw [stA_2, if_pos rfl]; exact pv_fl 0 _ (by omega)] at q1
        rw [show ((nI X0, (0 : Int32), (0 : Int32)) : Int32 × Int32 × Int32) = (nI X0, (0 : Int32), nI 0) from rfl, q1, b1e, show ((nI X0, (0 : Int32), stA M 41 (fx_fl 4 0 (M.2 41))) : Int32 × Int32 × St) = (nI X0, nI 0, stA M 41 (fx_fl 4 0 (M.2 41))) from rfl, q2, b1e, pv_aldn (show wt < 4 by omega) (by omega)]
        exact ⟨_, M', rfl, rfl, q3⟩
      · rw [if_neg h3, if_neg h3]; exact ⟨_, _, rfl, rfl, pv_X.rf M⟩
    · rw [if_neg h2, if_neg h2]; exact ⟨_, _, rfl, rfl, pv_X.rf M⟩
  · rw [if_neg h1, if_neg h1]; exact ⟨_, _, rfl, rfl, pv_X.rf M⟩
