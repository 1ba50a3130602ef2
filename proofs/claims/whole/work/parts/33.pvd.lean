/-- what comes out, both ways, however far it is baked -/
theorem pv_verd (N : Nat) {S M : St} (hS : pv_IS S) (hR : pv_RS S M) {k : Nat} (hk : k < 6) (b : Int32) : ∃ ho : Nat, ho ≤ 2 ∧ f_X6_verdict N S (nI k) b = some (nI ho) ∧ f_X8_ripeness N M (nI k) b = some (nI ho) := by
  obtain ⟨s0, s1, s2, s3⟩ := hS
  obtain ⟨r7, r8, r9, r10, r11⟩ := hR
  obtain ⟨nd, end_, hnd⟩ := pv_num (s1 k hk)
  obtain ⟨be, ebe, hbe⟩ := pv_num (s2 k hk)
  unfold f_X6_verdict f_X8_ripeness
  rw [pv_burntFrom N hk end_ ebe, b1e, pv_aldn hk (by omega), pv_aldn hk (by omega), pv_aldn hk (by omega), pv_aldn hk (by omega), r8 k hk, r9 k hk, end_, ebe, nI_add]
  by_cases h1 : nI nd ≤ b
  · rw [if_pos h1, if_pos h1]
    by_cases h2 : nI (nd + be) < b
    · refine ⟨2, by omega, ?_, ?_⟩
      · rw [if_pos]
        · rfl
        · rw [Int32.le_iff_toInt_le, pv_nI _ (by omega)]
          rw [Int32.lt_iff_toInt_lt, pv_nI _ (by omega)] at h2
          omega
      · rw [if_pos h2]; rfl
    · refine ⟨1, by omega, ?_, ?_⟩
      · rw [if_neg]
        · rfl
        · rw [Int32.le_iff_toInt_le, pv_nI _ (by omega)]
          rw [Int32.lt_iff_toInt_lt, pv_nI _ (by omega)] at h2
          omega
      · rw [if_neg h2]; rfl
  · rw [if_neg h1, if_neg h1]
    exact ⟨0, by omega, rfl, rfl⟩
theorem pv_uself {f : Nat → Int32} {k : Nat} {x : Int32} : upd f k x k = x := by unfold upd; rw [if_pos rfl]
theorem pv_une {f : Nat → Int32} {k j : Nat} {x : Int32} (h : j ≠ k) : upd f k x j = f j := by unfold upd; rw [if_neg h]
set_option maxHeartbeats 1000000 in
theorem pv_put (N : Nat) {E M : St} (hI : pv_IO E) (hR : pv_RO E M) {r s n k : Nat} (hr : r < 4) (hs : s ≤ 5) (en : E.2 7 r = nI n) (hn : (n : Int) < (E.1 1).toInt) (hk : k < 60) (hp : M.2 20 k = nI s) (hw : M.2 21 k = nI r) : ∃ E' M', f_X3_putIn N E (nI r) (nI s) = some E' ∧ f_X8_happen N M (nI k) = some M' ∧ pv_IO E' ∧ pv_RO E' M' ∧ pv_Z M M' := by
  obtain ⟨i0, i1, i2, i3, i4, i5, i6, i7, i8⟩ := id hI
  obtain ⟨r0, r1, r2, r3, r4, r5, r6, r12, r13, r14, r15⟩ := id hR
  have hn6 : n < 6 := by omega
  have h7 : f_X3_putIn N E (nI r) (nI s) = some (stI (stA (stA (stA E 8 (upd (E.2 8) (6 * r + n) (nI s))) 9 (upd (E.2 9) (6 * r + n) 0)) 7 (upd (E.2 7) r (nI (n + 1)))) 5 1) := by
    unfold f_X3_putIn f_X3_isFull
    rw [pv_aldn hr (by omega), en, if_pos (by rw [Int32.lt_iff_toInt_lt, pv_nI _ (by omega)]; exact hn), b1e, if_pos rfl, pv_aldn hr (by omega), en, pv_cell, b1e, pv_astn (by omega) (by omega), pv_astn (by omega) (by omega), pv_aldn hr (by omega)]
    rw [show (stA (stA E 8 (upd (E.2 8) (6 * r + n) (nI s))) 9 (upd ((stA E 8 (upd (E.2 8) (6 * r + n) (nI s))).2 9) (6 * r + n) 0)).2 7 r = nI n from en, nI_1, pv_astn hr (by omega), lte]
    rfl
  have h8 : f_X8_happen N M (nI k) = some (stI (stA (stA (stA M 13 (upd (M.2 13) (6 * r + n) (nI s))) 14 (upd (M.2 14) (6 * r + n) 0)) 12 (upd (M.2 12) r (nI (n + 1)))) 5 1) := by
    unfold f_X8_happen
    rw [pv_aldn hk (by omega), pv_aldn hk (by omega), hp, hw, if_pos (show nI s ≤ (6 : Int32) from (pv_le (b := 6) (by omega) (by omega)).mpr (by omega)), pv_aldn hk (by omega), hp, if_neg (show ¬ nI s = (6 : Int32) from fun z => by have := (pv_eq (b := 6) (by omega) (by omega)).mp z; omega), pv_aldn hr (by omega), r12 r hr, en, lte, show (6 : Int32) * nI r + nI n = nI (6 * r + n) by rw [pv_six, pk_mul, nI_add], pv_aldn hk (by omega), hp, pv_astn (by omega) (by omega), pv_astn (by omega) (by omega), pv_aldn hr (by omega)]
    rw [show (stA (stA M 13 (upd (M.2 13) (6 * r + n) (nI s))) 14 (upd ((stA M 13 (upd (M.2 13) (6 * r + n) (nI s))).2 14) (6 * r + n) 0)).2 12 r = nI n from (r12 r hr).trans en, nI_1, pv_astn hr (by omega), lte]
    rfl
  refine ⟨_, _, h7, h8, ⟨i0, i1, i2, i3, i4, Or.inr rfl, i6, ?_, ?_⟩, ⟨r0, r1, r2, r3, r4, rfl, r6, pv_RAu r12 _ _, pv_RAu r13 _ _, pv_RAu r14 _ _, r15⟩, fun q a b => ?_, fun q a b c d => ?_⟩
  · intro j hj
    show 0 ≤ (upd (E.2 7) r (nI (n + 1)) j).toInt ∧ (upd (E.2 7) r (nI (n + 1)) j).toInt ≤ (E.1 1).toInt
    by_cases e : j = r
    · subst e; rw [pv_uself, pv_nI _ (by omega)]; omega
    · rw [pv_une e]; exact i7 j hj
  · intro r' p' hr' hp' hl
    have hl : (p' : Int) < (upd (E.2 7) r (nI (n + 1)) r').toInt := hl
    show 0 ≤ (upd (E.2 8) (6 * r + n) (nI s) (6 * r' + p')).toInt ∧ (upd (E.2 8) (6 * r + n) (nI s) (6 * r' + p')).toInt ≤ 5
    by_cases e : r' = r
    · subst e
      rw [pv_uself, pv_nI _ (by omega)] at hl
      by_cases e2 : p' = n
      · subst e2; rw [pv_uself, pv_nI _ (by omega)]; omega
      · rw [pv_une (by omega)]
        exact i8 r' p' hr' hp' (by rw [en, pv_nI _ (by omega)]; omega)
    · rw [pv_une e] at hl
      rw [pv_une (by omega)]
      exact i8 r' p' hr' hp' hl
  · rw [stI_1, if_neg b]; rfl
  · show (stA (stA (stA M 13 _) 14 _) 12 _).2 q = M.2 q
    rw [stA_2, if_neg a, stA_2, if_neg c, stA_2, if_neg b]
set_option maxHeartbeats 1000000 in
theorem pv_take (N : Nat) {E S M : St} (hI : pv_IO E) (hIS : pv_IS S) (hR : pv_RO E M) (hRS : pv_RS S M) {r n k : Nat} (hr : r < 4) (en : E.2 7 r = nI n) (hn : 1 ≤ n) (hn9 : n ≤ 6) (hk : k < 60) (hp : M.2 20 k = 6) (hw : M.2 21 k = nI r) : ∃ E' M', f_X3_takeFrom N E S (nI r) = some E' ∧ f_X8_happen N M (nI k) = some M' ∧ pv_IO E' ∧ pv_RO E' M' ∧ pv_Z M M' := by
  obtain ⟨i0, i1, i2, i3, i4, i5, i6, i7, i8⟩ := id hI
  obtain ⟨r0, r1, r2, r3, r4, r5, r6, r12, r13, r14, r15⟩ := id hR
  have hn6 : n ≤ 6 := hn9
  have hat : 6 * r + (n - 1) < 24 := by omega
  obtain ⟨kd, ekd, hkd⟩ := pv_num (i8 r (n - 1) hr (by omega) (by rw [en, pv_nI _ (by omega)]; omega))
  have hkd6 : kd < 6 := by omega
  generalize hb : E.2 9 (6 * r + (n - 1)) = b
  obtain ⟨ho, hho, hv7, hv8⟩ := pv_verd N hIS hRS hkd6 b
  obtain ⟨s7, s8, s9, s10, s11⟩ := hRS
  have hz7 : f_X6_verdict N S (nI kd) b = some (nI ho) := hv7
  have hz8 : ∀ M2 : St, M2.2 8 = M.2 8 → M2.2 9 = M.2 9 → f_X8_ripeness N M2 (nI kd) b = some (nI ho) := by
    intro M2 e8 e9
    rw [← hv8]
    unfold f_X8_ripeness
    rw [e8, e9]
  generalize hwv : S.2 3 kd = wv
  -- the class
  have h7 : f_X3_takeFrom N E S (nI r) = some (stI (stA (stA E 7 (upd (E.2 7) r (nI (n - 1)))) 10 (if ho = 1 then upd (upd (E.2 10) ho (E.2 10 ho + 1)) 3 (E.2 10 3 + wv) else upd (E.2 10) ho (E.2 10 ho + 1))) 5 1) := by
    unfold f_X3_takeFrom f_X3_isEmpty
    rw [pv_aldn hr (by omega), en, if_pos (show (0 : Int32) < nI n from (pv_lt (a := 0) (by omega) (by omega)).mpr (by omega)), b1e, if_pos rfl, pv_aldn hr (by omega), en, pv_tw n hn, pv_astn hr (by omega), pv_aldn hr (by omega)]
    rw [show (stA E 7 (upd (E.2 7) r (nI (n - 1)))).2 7 r = nI (n - 1) from pv_uself, pv_cell, b1e, pv_aldn hat (by omega), pv_aldn hat (by omega)]
    rw [show (stA E 7 (upd (E.2 7) r (nI (n - 1)))).2 8 (6 * r + (n - 1)) = nI kd from ekd, show (stA E 7 (upd (E.2 7) r (nI (n - 1)))).2 9 (6 * r + (n - 1)) = b from hb, hz7, b1e, pv_aldn (show ho < 4 by omega) (by omega), pv_astn (show ho < 4 by omega) (by omega)]
    by_cases z : ho = 1
    · rw [if_pos z, if_pos (show nI ho = (1 : Int32) by rw [z]; rfl), show (3 : Int32) = nI 3 from rfl, pv_aldn (show 3 < 4 by omega) (by omega), pv_aldn hkd6 (by omega), hwv, pv_astn (show 3 < 4 by omega) (by omega), b1e, lte, stA_same]
      congr 3
      funext j
      show upd (upd (E.2 10) ho (E.2 10 ho + 1)) 3 (upd (E.2 10) ho (E.2 10 ho + 1) 3 + wv) j = _
      rw [pv_une (f := E.2 10) (show 3 ≠ ho by omega)]
    · rw [if_neg z, if_neg (show ¬ nI ho = (1 : Int32) from fun q => z ((pv_eq (b := 1) (by omega) (by omega)).mp q)), b1e, lte]
      rfl
  have h8 : f_X8_happen N M (nI k) = some (stI (stA (stA M 12 (upd (M.2 12) r (nI (n - 1)))) 15 (upd (upd (M.2 15) ho (M.2 15 ho + 1)) 3 (M.2 15 3 + (if ho = 1 then wv else 0)))) 5 1) := by
    unfold f_X8_happen
    rw [pv_aldn hk (by omega), pv_aldn hk (by omega), hp, hw, if_pos (by decide), pv_aldn hk (by omega), hp, if_pos rfl, pv_aldn hr (by omega), r12 r hr, en, pv_tw n hn, pv_astn hr (by omega), pv_aldn hr (by omega)]
    rw [show (stA M 12 (upd (M.2 12) r (nI (n - 1)))).2 12 r = nI (n - 1) from pv_uself, lte, show (6 : Int32) * nI r + nI (n - 1) = nI (6 * r + (n - 1)) by rw [pv_six, pk_mul, nI_add], pv_aldn hat (by omega), pv_aldn hat (by omega)]
    rw [show (stA M 12 (upd (M.2 12) r (nI (n - 1)))).2 13 (6 * r + (n - 1)) = nI kd from (r13 _ hat).trans ekd, show (stA M 12 (upd (M.2 12) r (nI (n - 1)))).2 14 (6 * r + (n - 1)) = b from (r14 _ hat).trans hb, hz8 (stA M 12 (upd (M.2 12) r (nI (n - 1)))) rfl rfl, b1e, pv_aldn (show ho < 4 by omega) (by omega), pv_astn (show ho < 4 by omega) (by omega), show (3 : Int32) = nI 3 from rfl, pv_aldn (show 3 < 4 by omega) (by omega)]
    generalize hS1 : stA (stA M 12 (upd (M.2 12) r (nI (n - 1)))) 15 (upd ((stA M 12 (upd (M.2 12) r (nI (n - 1)))).2 15) ho ((stA M 12 (upd (M.2 12) r (nI (n - 1)))).2 15 ho + 1)) = S1
    have e13 : S1.2 13 (6 * r + (n - 1)) = nI kd := by rw [← hS1]; exact (r13 _ hat).trans ekd
    have e10 : S1.2 10 kd = wv := by rw [← hS1]; exact (s10 _ hkd6).trans hwv
    have e15 : S1.2 15 = upd (M.2 15) ho (M.2 15 ho + 1) := by rw [← hS1]; rfl
    rw [show (if nI ho = (1 : Int32) then (fx_ald 24 (S1.2 13) (nI (6 * r + (n - 1))) fun v127 => fx_ald 6 (S1.2 10) v127 fun v128 => some v128) else some (0 : Int32)) = some (if ho = 1 then wv else 0) by
      rw [pv_aldn hat (by omega), e13, pv_aldn hkd6 (by omega), e10]
      by_cases z : ho = 1
      · rw [if_pos z, if_pos (show nI ho = (1 : Int32) by rw [z]; rfl)]
      · rw [if_neg z, if_neg (show ¬ nI ho = (1 : Int32) from fun q => z ((pv_eq (b := 1) (by omega) (by omega)).mp q))]]
    rw [b1e, pv_astn (show 3 < 4 by omega) (by omega), lte, e15, pv_une (f := M.2 15) (show 3 ≠ ho by omega), ← hS1, stA_same]
  refine ⟨_, _, h7, h8, ⟨i0, i1, i2, i3, i4, Or.inr rfl, i6, ?_, ?_⟩, ⟨r0, r1, r2, r3, r4, rfl, r6, pv_RAu r12 _ _, r13, r14, ?_⟩, fun q a b => ?_, fun q a b c d => ?_⟩
  · intro j hj
    show 0 ≤ (upd (E.2 7) r (nI (n - 1)) j).toInt ∧ (upd (E.2 7) r (nI (n - 1)) j).toInt ≤ (E.1 1).toInt
    by_cases e : j = r
    · subst e; rw [pv_uself, pv_nI _ (by omega)]; have := (i7 j hj).2; rw [en, pv_nI _ (by omega)] at this; omega
    · rw [pv_une e]; exact i7 j hj
  · intro r' p' hr' hp' hl
    have hl : (p' : Int) < (upd (E.2 7) r (nI (n - 1)) r').toInt := hl
    apply i8 r' p' hr' hp'
    by_cases e : r' = r
    · subst e
      rw [pv_uself, pv_nI _ (by omega)] at hl
      rw [en, pv_nI _ (by omega)]; omega
    · rw [pv_une e] at hl; exact hl
  · intro j hj
    show upd (upd (M.2 15) ho (M.2 15 ho + 1)) 3 (M.2 15 3 + (if ho = 1 then wv else 0)) j = (if ho = 1 then upd (upd (E.2 10) ho (E.2 10 ho + 1)) 3 (E.2 10 3 + wv) else upd (E.2 10) ho (E.2 10 ho + 1)) j
    rw [r15 ho (by omega), r15 3 (by omega)]
    have hu := pv_RAu r15 ho (E.2 10 ho + 1)
    by_cases z : ho = 1
    · rw [if_pos z, if_pos z]
      exact pv_RAu hu _ _ j hj
    · rw [if_neg z, if_neg z, Int32.add_zero]
      by_cases e : j = 3
      · subst e; rw [pv_uself, pv_une (by omega)]
      · rw [pv_une e]; exact hu j hj
  · rw [stI_1, if_neg b]; rfl
  · show (stA (stA M 12 _) 15 _).2 q = M.2 q
    rw [stA_2, if_neg d, stA_2, if_neg a]
