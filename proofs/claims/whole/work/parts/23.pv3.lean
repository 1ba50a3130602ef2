def pv_pc (t : Nat) : Nat := t % 2 + t / 2 % 2 + t / 4 % 2 + t / 8 % 2 + t / 16 % 2 + t / 32 % 2
theorem pv_bit0 : ∀ t, t < 64 → f_J6_bitCount_0f7a4 0 (nI t) = some (nI (pv_pc t)) := by decide +kernel
theorem pv_bitCount (N t : Nat) (h : t < 64) : f_J6_bitCount_0f7a4 N (nI t) = some (nI (pv_pc t)) := pv_bit0 t h
theorem pv_ones0 : ∀ t, t < 64 → ¬ t = 0 → ∃ t', t' < 64 ∧ nI t &&& (nI t - 1) = nI t' ∧ pv_pc t' + 1 = pv_pc t := by
  have h : ∀ t, t < 64 → ¬ t = 0 → (nI t &&& (nI t - 1)).toNatClampNeg < 64 ∧ nI t &&& (nI t - 1) = nI ((nI t &&& (nI t - 1)).toNatClampNeg) ∧ pv_pc ((nI t &&& (nI t - 1)).toNatClampNeg) + 1 = pv_pc t := by decide +kernel
  exact fun t ht h0 => ⟨_, h t ht h0⟩
theorem pv_pc_le : ∀ t, t < 64 → pv_pc t ≤ 6 ∧ (pv_pc t = 0 → t = 0) := by decide +kernel
theorem pv_ones (N t : Nat) (hN : 100 ≤ N) (h : t < 64) : f_X8_ones N (nI t) = some (nI (pv_pc t)) := by
  unfold f_X8_ones
  obtain ⟨r, hr, he⟩ := pv_it (b := lf_X8_ones_4 N) (fun s => ∃ u : Nat, u < 64 ∧ s.2 = nI u ∧ ∃ c : Nat, s.1 = nI c ∧ c + pv_pc u = pv_pc t) (fun s => pv_pc s.2.toNatClampNeg) (fun r => r = nI (pv_pc t)) (by
    rintro ⟨c0, x0⟩ ⟨u, hu, e1, c, e2, e3⟩
    dsimp only at e1 e2
    subst e1; subst e2
    unfold lf_X8_ones_4 bd_X8_ones_4
    dsimp only
    by_cases h0 : u = 0
    · subst h0
      refine Or.inl ⟨nI c, ?_, fun rec => by rw [if_pos (by decide)]⟩
      have : pv_pc 0 = 0 := by decide
      rw [show c = pv_pc t by omega]
    · obtain ⟨u', hu', e4, e5⟩ := pv_ones0 u hu h0
      refine Or.inr ⟨(nI (c + 1), nI u'), ⟨u', hu', rfl, c + 1, rfl, by omega⟩, ?_, fun rec => ?_⟩
      · dsimp only
        rw [nI_clamp (by omega), nI_clamp (by omega)]; omega
      · rw [if_neg (nI_ne0 (by omega) (by omega)), lte, lte, e4, nI_1]) N ((0 : Int32), nI t) ⟨t, h, rfl, 0, rfl, by omega⟩ (by
    dsimp only
    rw [nI_clamp (by omega)]
    have := (pv_pc_le t h).1
    omega)
  rw [he, b1e, hr]
theorem pv_or0 : ∀ t, t < 64 → ∀ x, x < 6 → (nI t ||| ((1 : Int32) <<< (nI x &&& 31))).toNatClampNeg < 64 ∧ nI t ||| ((1 : Int32) <<< (nI x &&& 31)) = nI ((nI t ||| ((1 : Int32) <<< (nI x &&& 31))).toNatClampNeg) := by decide +kernel
theorem op_sort (N : Nat) (hN : 2000 ≤ N) {O S T P M : St} (D E B : St) (hI : pv_I O S T P) (hR : pv_R O S T P M) (x1 x2 x3 x4 : Int32) : ∃ (r : Int32) (S' M' : St), f_X7_sort N O S T P D E B x1 x2 x3 x4 = some (r, S') ∧ f_X8_sort N M x1 x2 x3 x4 = some (r, M') ∧ pv_I O S' T P ∧ pv_R O S' T P M' ∧ pv_K M M' := by
  obtain ⟨hO, ⟨i0, i1, i2, i3⟩, hI3⟩ := id hI
  obtain ⟨hRO, ⟨r7, r8, r9, r10, r11⟩, hR3⟩ := id hR
  unfold f_X7_sort f_X8_sort
  simp only [b1e, pv_if, pv_within, pv_in, pv_isKind, pv_isNumber, t32_0, t32_1, t32_99, t32_500, t64_0, t64_1, t64_99, t64_500]
  by_cases h1 : 0 ≤ x1.toInt ∧ x1.toInt ≤ 5
  · rw [if_pos h1, if_pos h1]
    by_cases h2 : 1 ≤ x2.toInt ∧ x2.toInt ≤ 500
    · rw [if_pos h2, if_pos h2]
      by_cases h3 : 0 ≤ x3.toInt ∧ x3.toInt ≤ 500
      · rw [if_pos h3, if_pos h3]
        by_cases h4 : 0 ≤ x4.toInt ∧ x4.toInt ≤ 99
        · rw [if_pos h4, if_pos h4]
          obtain ⟨a, ea, ea2, -⟩ := pv_ex h1.1
          obtain ⟨t, et, et2, -⟩ := pv_ex i0.1
          subst ea
          have ha : a < 6 := by omega
          obtain ⟨o1, o2⟩ := pv_or0 t (by omega) a ha
          simp only [lte]
          rw [pv_astn ha (by omega), pv_astn ha (by omega), pv_astn ha (by omega), pv_astn ha (by omega), pv_astn ha (by omega), pv_astn ha (by omega)]
          simp only [lte, stA_1, stI_1, if_true, stA_2, stI_2]
          rw [r7, et, o2, pv_bitCount N _ o1, pv_ones N _ (by omega) o1, b1e, b1e]
          refine ⟨_, _, _, rfl, rfl, ⟨hO, ⟨⟨?_, ?_⟩, pv_updR i1 ⟨by omega, h2.2⟩, pv_updR i2 h3, pv_updR i3 h4⟩, hI3⟩, ⟨hRO, ⟨rfl, pv_RAu r8 _ _, pv_RAu r9 _ _, pv_RAu r10 _ _, r11⟩, hR3⟩, rfl, rfl⟩
          · show 0 ≤ (nI _).toInt
            rw [pv_nI _ (by omega)]; omega
          · show (nI _).toInt ≤ 63
            rw [pv_nI _ (by omega)]; omega
        · rw [if_neg h4, if_neg h4]
          exact ⟨_, _, _, rfl, rfl, hI, hR, rfl, rfl⟩
      · rw [if_neg h3, if_neg h3]
        exact ⟨_, _, _, rfl, rfl, hI, hR, rfl, rfl⟩
    · rw [if_neg h2, if_neg h2]
      exact ⟨_, _, _, rfl, rfl, hI, hR, rfl, rfl⟩
  · rw [if_neg h1, if_neg h1]
    exact ⟨_, _, _, rfl, rfl, hI, hR, rfl, rfl⟩
theorem op_apart (N : Nat) {O S T P M : St} (D E B : St) (hI : pv_I O S T P) (hR : pv_R O S T P M) (x1 x2 x3 : Int32) : ∃ (r : Int32) (S' M' : St), f_X7_apart N O S T P D E B x1 x2 x3 = some (r, S') ∧ f_X8_apart N M x1 x2 x3 = some (r, M') ∧ pv_I O S' T P ∧ pv_R O S' T P M' ∧ pv_K M M' := by
  obtain ⟨hO, ⟨i0, i1, i2, i3⟩, hI3⟩ := id hI
  obtain ⟨hRO, ⟨r7, r8, r9, r10, r11⟩, hR3⟩ := id hR
  unfold f_X7_apart f_X8_apart
  simp only [b1e, pv_if, pv_isKind, pv_isNumber]
  by_cases h1 : 0 ≤ x1.toInt ∧ x1.toInt ≤ 5
  · rw [if_pos h1, if_pos h1]
    by_cases h2 : 0 ≤ x2.toInt ∧ x2.toInt ≤ 5
    · rw [if_pos h2, if_pos h2]
      obtain ⟨a, ea, ea2, -⟩ := pv_ex h1.1
      obtain ⟨b, eb, eb2, -⟩ := pv_ex h2.1
      subst ea; subst eb
      have ha : a < 6 := by omega
      have hb : b < 6 := by omega
      unfold f_X6_tellApart
      by_cases h3 : x3 = 0
      · simp only [if_pos h3]
        rw [pv_aldn ha (by omega), pv_aldn ha (by omega), pv_astn ha (by omega), b1e, pv_astn ha (by omega)]
        rw [pv_aldn hb (by omega), pv_aldn hb (by omega), pv_astn hb (by omega), b1e, b1e, pv_astn hb (by omega)]
        simp only [stA_2, if_true]
        rw [r11 a ha]
        have hu := pv_RAu r11 a (S.2 4 a &&& ((1 : Int32) <<< (nI b &&& 31) ^^^ (-1 : Int32)))
        rw [hu b hb]
        refine ⟨_, _, _, rfl, rfl, ⟨hO, ⟨i0, i1, i2, i3⟩, hI3⟩, ⟨hRO, ⟨r7, r8, r9, r10, pv_RAu hu _ _⟩, hR3⟩, rfl, rfl⟩
      · simp only [if_neg h3]
        rw [pv_aldn ha (by omega), pv_aldn ha (by omega), pv_astn ha (by omega), b1e, pv_astn ha (by omega)]
        rw [pv_aldn hb (by omega), pv_aldn hb (by omega), pv_astn hb (by omega), b1e, b1e, pv_astn hb (by omega)]
        simp only [stA_2, if_true]
        rw [r11 a ha]
        have hu := pv_RAu r11 a (S.2 4 a ||| ((1 : Int32) <<< (nI b &&& 31)))
        rw [hu b hb]
        refine ⟨_, _, _, rfl, rfl, ⟨hO, ⟨i0, i1, i2, i3⟩, hI3⟩, ⟨hRO, ⟨r7, r8, r9, r10, pv_RAu hu _ _⟩, hR3⟩, rfl, rfl⟩
    · rw [if_neg h2, if_neg h2]
      exact ⟨_, _, _, rfl, rfl, hI, hR, rfl, rfl⟩
  · rw [if_neg h1, if_neg h1]
    exact ⟨_, _, _, rfl, rfl, hI, hR, rfl, rfl⟩
theorem op_say (N : Nat) {O S T P M : St} (D E B : St) (hI : pv_I O S T P) (hR : pv_R O S T P M) (x1 : Int32) : ∃ (r : Int32) (P' M' : St), f_X7_say N O S T P D E B x1 = some (r, P') ∧ f_X8_say N M x1 = some (r, M') ∧ pv_I O S T P' ∧ pv_R O S T P' M' ∧ pv_K M M' := by
  obtain ⟨hO, hS, hT, i0⟩ := id hI
  obtain ⟨hRO, hRS, hRT, r19, r18⟩ := id hR
  unfold f_X7_say f_X8_say
  simp only [b1e, pv_if, pv_within, pv_in, t32_33, t32_126, t64_33, t64_126]
  by_cases h1 : 33 ≤ x1.toInt ∧ x1.toInt ≤ 126
  · rw [if_pos h1, if_pos h1]
    obtain ⟨a, ea, ea2, -⟩ := pv_ex i0.1
    have hi0 := i0
    unfold pv_IP at hi0
    rw [r19]
    by_cases h2 : a = 60
    · subst h2
      rw [ea, if_neg (by decide), if_pos (by decide)]
      exact ⟨_, _, _, rfl, rfl, hI, hR, rfl, rfl⟩
    · have ha : a < 60 := by omega
      rw [ea, if_pos (by rw [Int32.lt_iff_toInt_lt, pv_nI a (by omega), t32_60]; omega), if_neg (by intro h; have := congrArg Int32.toInt h; rw [pv_nI a (by omega), t32_60] at this; omega)]
      rw [pv_astn ha (by omega), pv_astn ha (by omega), lte, lte]
      simp only [stA_1, stI_1, if_true]
      rw [ea, r19, ea, nI_1]
      refine ⟨_, _, _, rfl, rfl, ⟨hO, hS, hT, ?_⟩, ⟨hRO, hRS, hRT, rfl, pv_RAu r18 _ _⟩, rfl, rfl⟩
      show 0 ≤ (nI (a + 1)).toInt ∧ (nI (a + 1)).toInt ≤ 60
      rw [pv_nI _ (by omega)]; omega
  · rw [if_neg h1, if_neg h1]
    exact ⟨_, _, _, rfl, rfl, hI, hR, rfl, rfl⟩
theorem op_wipe (N : Nat) {O S T P M : St} (D E B : St) (hI : pv_I O S T P) (hR : pv_R O S T P M) : ∃ (r : Int32) (P' M' : St), f_X7_wipe N O S T P D E B = some (r, P') ∧ f_X8_wipe N M = some (r, M') ∧ pv_I O S T P' ∧ pv_R O S T P' M' ∧ pv_K M M' := by
  obtain ⟨hO, hS, hT, i0⟩ := id hI
  obtain ⟨hRO, hRS, hRT, r19, r18⟩ := id hR
  unfold f_X7_wipe f_X8_wipe
  rw [lte, lte, r19]
  exact ⟨_, _, _, rfl, rfl, ⟨hO, hS, hT, (by decide : 0 ≤ (0 : Int32).toInt ∧ (0 : Int32).toInt ≤ 60)⟩, ⟨hRO, hRS, hRT, rfl, r18⟩, rfl, rfl⟩
theorem op_out (N : Nat) {O S T P M : St} (D E B : St) (hR : pv_R O S T P M) (x1 : Int32) : ∃ (r : Int32), f_X7_out N O S T P D E B x1 = some r ∧ f_X8_out N M x1 = some r := by
  obtain ⟨⟨r0, r1, r2, r3, r4, r5, r6, r12, r13, r14, r15⟩, hR2⟩ := id hR
  unfold f_X7_out f_X8_out
  simp only [b1e, pv_if, pv_within, pv_in, t32_0, t32_3, t64_0, t64_3]
  by_cases h1 : 0 ≤ x1.toInt ∧ x1.toInt ≤ 3
  · rw [if_pos h1, if_pos h1]
    have hc := pv_clamp h1.1
    rw [pv_ald h1.1 (by omega), pv_ald h1.1 (by omega), r15 _ (by omega)]
    exact ⟨_, rfl, rfl⟩
  · rw [if_neg h1, if_neg h1]
    exact ⟨_, rfl, rfl⟩
theorem op_seen (N : Nat) {O S T P M : St} (D E B : St) (hI : pv_I O S T P) (hR : pv_R O S T P M) (x1 : Int32) : ∃ (r : Int32) (T' M' : St), f_X7_seen N O S T P D E B x1 = some (r, T') ∧ f_X8_seen N M x1 = some (r, M') ∧ pv_I O S T' P ∧ pv_R O S T' P M' ∧ pv_K M M' := by
  obtain ⟨hO, hS, ⟨i0, i1⟩, hP⟩ := id hI
  obtain ⟨hRO, hRS, ⟨r17, r16⟩, hRP⟩ := id hR
  unfold f_X7_seen f_X8_seen
  simp only [b1e, pv_if, pv_within, pv_in, t32_0, t32_5000, t64_0, t64_5000]
  by_cases h1 : 0 ≤ x1.toInt ∧ x1.toInt ≤ 5000
  · rw [if_pos h1, if_pos h1]
    obtain ⟨a, ea, ea2, -⟩ := pv_ex i0.1
    rw [r17]
    by_cases h2 : a = 6
    · subst h2
      rw [ea, if_neg (by decide), if_pos (by decide)]
      exact ⟨_, _, _, rfl, rfl, hI, hR, rfl, rfl⟩
    · have ha : a < 6 := by omega
      rw [ea, if_pos (by rw [Int32.lt_iff_toInt_lt, pv_nI a (by omega), t32_6]; omega), if_neg (by intro h; have := congrArg Int32.toInt h; rw [pv_nI a (by omega), t32_6] at this; omega)]
      rw [pv_astn ha (by omega), pv_astn ha (by omega), lte, lte]
      simp only [stA_1, stI_1, if_true]
      rw [ea, r17, ea, nI_1]
      refine ⟨_, _, _, rfl, rfl, ⟨hO, hS, ⟨?_, pv_updR i1 h1⟩, hP⟩, ⟨hRO, hRS, ⟨rfl, pv_RAu r16 _ _⟩, hRP⟩, rfl, rfl⟩
      show 0 ≤ (nI (a + 1)).toInt ∧ (nI (a + 1)).toInt ≤ 6
      rw [pv_nI _ (by omega)]; omega
  · rw [if_neg h1, if_neg h1]
    exact ⟨_, _, _, rfl, rfl, hI, hR, rfl, rfl⟩
theorem op_forget (N : Nat) {O S T P M : St} (D E B : St) (hI : pv_I O S T P) (hR : pv_R O S T P M) : ∃ (r : Int32) (T' M' : St), f_X7_forget N O S T P D E B = some (r, T') ∧ f_X8_forget N M = some (r, M') ∧ pv_I O S T' P ∧ pv_R O S T' P M' ∧ pv_K M M' := by
  obtain ⟨hO, hS, ⟨i0, i1⟩, hP⟩ := id hI
  obtain ⟨hRO, hRS, ⟨r17, r16⟩, hRP⟩ := id hR
  unfold f_X7_forget f_X8_forget
  rw [lte, lte, r17]
  exact ⟨_, _, _, rfl, rfl, ⟨hO, hS, ⟨(by decide : 0 ≤ (0 : Int32).toInt ∧ (0 : Int32).toInt ≤ 6), i1⟩, hP⟩, ⟨hRO, hRS, ⟨rfl, r16⟩, hRP⟩, rfl, rfl⟩
