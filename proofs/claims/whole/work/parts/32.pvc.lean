/-! days: the oven's steps, both ways -/
theorem stA_self (S : St) (k : Nat) : stA S k (S.2 k) = S := by
  unfold stA; refine Prod.ext rfl (funext fun j => ?_)
  dsimp only
  by_cases h : j = k
  · rw [if_pos h, h]
  · rw [if_neg h]
theorem cpy_e {ρ : Type} (n : Nat) (hn : n < 2147483648) (F : Nat → Int32) (S : St) (k : Nat) (f : St → Option ρ) : fx_cpy n F n S k (0 : Int32) (0 : Int32) (nI n) f = f (stA S k (va_cpy F (S.2 k) 0 0 n)) := by
  unfold fx_cpy
  have h0 : (0 : Int32).toNatClampNeg = 0 := rfl
  rw [nI_clamp (by omega), h0, if_neg]
  rintro (h | h | h | h | h)
  · exact absurd h (by decide)
  · exact absurd h (by decide)
  · exact absurd h (nI_pos (by omega))
  · omega
  · omega
theorem pv_cpyA {n : Nat} {F G : Nat → Int32} : pv_RA n (va_cpy F G 0 0 n) F := by
  intro j hj
  unfold va_cpy
  rw [if_pos ⟨by omega, by omega⟩]
  congr 1
  omega
/-- an oven like another -/
def pv_EO (A O : St) : Prop := (∀ k, k < 6 → A.1 k = O.1 k) ∧ pv_RA 6 (A.2 6) (O.2 6) ∧ pv_RA 4 (A.2 7) (O.2 7) ∧ pv_RA 24 (A.2 8) (O.2 8) ∧ pv_RA 24 (A.2 9) (O.2 9) ∧ pv_RA 4 (A.2 10) (O.2 10)
theorem pv_copyFrom (N : Nat) {A O : St} (h5 : O.1 5 = 0 ∨ O.1 5 = 1) : ∃ A', f_X3_copyFrom N A O = some A' ∧ pv_EO A' O := by
  unfold f_X3_copyFrom
  simp only [lte]
  unfold fx_bz
  rw [if_pos h5, show (6 : Int32) = nI 6 from rfl, show (4 : Int32) = nI 4 from rfl, show (24 : Int32) = nI 24 from rfl, cpy_e 6 (by omega), cpy_e 4 (by omega), cpy_e 24 (by omega), cpy_e 24 (by omega), cpy_e 4 (by omega)]
  refine ⟨_, rfl, fun k hk => ?_, pv_cpyA, pv_cpyA, pv_cpyA, pv_cpyA, pv_cpyA⟩
  rcases (show k = 0 ∨ k = 1 ∨ k = 2 ∨ k = 3 ∨ k = 4 ∨ k = 5 by omega) with rfl | rfl | rfl | rfl | rfl | rfl <;> rfl
theorem pv_EO.IO {A O : St} (h : pv_EO A O) (hO : pv_IO O) : pv_IO A := by
  obtain ⟨h0, h6, h7, h8, h9, h10⟩ := h
  obtain ⟨i0, i1, i2, i3, i4, i5, i6, i7, i8⟩ := hO
  unfold pv_IO
  rw [h0 0 (by omega), h0 1 (by omega), h0 2 (by omega), h0 3 (by omega), h0 4 (by omega), h0 5 (by omega)]
  refine ⟨i0, i1, i2, i3, i4, i5, fun j hj => by rw [h6 j hj]; exact i6 j hj, fun r hr => by rw [h7 r hr]; exact i7 r hr, fun r p hr hp hl => ?_⟩
  rw [h7 r hr] at hl
  rw [h8 _ (by omega)]
  exact i8 r p hr hp hl
theorem pv_EO.RO {A O M : St} (h : pv_EO A O) (hR : pv_RO O M) : pv_RO A M := by
  obtain ⟨h0, h6, h7, h8, h9, h10⟩ := h
  obtain ⟨r0, r1, r2, r3, r4, r5, r6, r12, r13, r14, r15⟩ := hR
  unfold pv_RO
  rw [h0 0 (by omega), h0 1 (by omega), h0 2 (by omega), h0 3 (by omega), h0 4 (by omega), h0 5 (by omega)]
  exact ⟨r0, r1, r2, r3, r4, r5, fun j hj => (r6 j hj).trans (h6 j hj).symm, fun j hj => (r12 j hj).trans (h7 j hj).symm, fun j hj => (r13 j hj).trans (h8 j hj).symm, fun j hj => (r14 j hj).trans (h9 j hj).symm, fun j hj => (r15 j hj).trans (h10 j hj).symm⟩
theorem pv_EO.sym {A O : St} (h : pv_EO A O) : pv_EO O A := by
  obtain ⟨h0, h6, h7, h8, h9, h10⟩ := h
  exact ⟨fun k hk => (h0 k hk).symm, fun j hj => (h6 j hj).symm, fun j hj => (h7 j hj).symm, fun j hj => (h8 j hj).symm, fun j hj => (h9 j hj).symm, fun j hj => (h10 j hj).symm⟩
/-- only what a day moves of the oven has changed -/
def pv_Z (M M' : St) : Prop := (∀ k, k ≠ 2 → k ≠ 5 → M'.1 k = M.1 k) ∧ ∀ k, k ≠ 12 → k ≠ 13 → k ≠ 14 → k ≠ 15 → M'.2 k = M.2 k
theorem pv_Z.rf (M : St) : pv_Z M M := ⟨fun _ _ _ => rfl, fun _ _ _ _ _ => rfl⟩
theorem pv_Z.trans {A B C : St} (h : pv_Z A B) (h' : pv_Z B C) : pv_Z A C := ⟨fun k a b => (h'.1 k a b).trans (h.1 k a b), fun k a b c d => (h'.2 k a b c d).trans (h.2 k a b c d)⟩
theorem pv_max {x : Int32} : (if x ≤ 0 then some (0 : Int32) else some x) = some (if (0 : Int32) < x then x else 0) := by
  by_cases h : x ≤ 0
  · rw [if_pos h, if_neg]
    rw [Int32.lt_iff_toInt_lt]
    rw [Int32.le_iff_toInt_le] at h
    omega
  · rw [if_neg h, if_pos]
    rw [Int32.lt_iff_toInt_lt]
    rw [Int32.le_iff_toInt_le] at h
    omega
theorem pv_bake_in (N : Nat) {E M : St} (hI : pv_IO E) (hR : pv_RO E M) {r n : Nat} (hr : r < 4) (en : E.2 7 r = nI n) (hn : n ≤ 6) : ∀ (d p : Nat), p + d = n → ∀ (F G : Nat → Int32), pv_RA 24 G F → ∀ n1 n2 : Nat, d < n1 → d < n2 → ∃ F' G', pv_RA 24 G' F' ∧ fx_it (lf_X3_bakeMinute_12 N (nI r)) n1 (nI p, stA E 9 F) = some (stA E 9 F') ∧ fx_it (lf_X8_passMinute_12 N (nI r)) n2 (nI p, stA M 14 G) = some (stA M 14 G') := by
  obtain ⟨r0, r1, r2, r3, r4, r5, r6, r12, r13, r14, r15⟩ := hR
  intro d
  induction d with
  | zero =>
    intro p hp F G hFG n1 n2 h1 h2
    obtain ⟨n1, rfl⟩ : ∃ q, n1 = q + 1 := ⟨n1 - 1, by omega⟩
    obtain ⟨n2, rfl⟩ : ∃ q, n2 = q + 1 := ⟨n2 - 1, by omega⟩
    have hpn : p = n := by omega
    subst hpn
    refine ⟨F, G, hFG, ?_, ?_⟩
    · show lf_X3_bakeMinute_12 N (nI r) (nI p, stA E 9 F) _ = _
      unfold lf_X3_bakeMinute_12 bd_X3_bakeMinute_12
      dsimp only
      rw [pv_aldn hr (by omega), show (stA E 9 F).2 7 r = nI p from en, if_pos (Int32.le_refl _)]
    · show lf_X8_passMinute_12 N (nI r) (nI p, stA M 14 G) _ = _
      unfold lf_X8_passMinute_12 bd_X8_passMinute_12
      dsimp only
      rw [pv_aldn hr (by omega), show (stA M 14 G).2 12 r = nI p from (r12 r hr).trans en, if_pos (Int32.le_refl _)]
  | succ d ih =>
    intro p hp F G hFG n1 n2 h1 h2
    obtain ⟨n1, rfl⟩ : ∃ q, n1 = q + 1 := ⟨n1 - 1, by omega⟩
    obtain ⟨n2, rfl⟩ : ∃ q, n2 = q + 1 := ⟨n2 - 1, by omega⟩
    have hp6 : p < 6 := by omega
    have hne : ¬ nI n ≤ nI p := fun z => by have := (pv_le (by omega) (by omega)).mp z; omega
    generalize hw : (if (0 : Int32) < E.1 2 - E.2 6 p then E.1 2 - E.2 6 p else 0) = w
    have e7 : fx_it (lf_X3_bakeMinute_12 N (nI r)) (n1 + 1) (nI p, stA E 9 F) = fx_it (lf_X3_bakeMinute_12 N (nI r)) n1 (nI (p + 1), stA E 9 (upd F (6 * r + p) (F (6 * r + p) + w))) := by
      show lf_X3_bakeMinute_12 N (nI r) (nI p, stA E 9 F) _ = _
      unfold lf_X3_bakeMinute_12 bd_X3_bakeMinute_12 f_X3_rateAt
      dsimp only
      rw [pv_aldn hr (by omega), show (stA E 9 F).2 7 r = nI n from en, if_neg hne, pv_cell, b1e, pv_aldn (by omega) (by omega), pv_aldn hp6 (by omega), b1e, lte, show (stA E 9 F).1 2 - (stA E 9 F).2 6 p = E.1 2 - E.2 6 p from rfl, hw, pv_astn (by omega) (by omega), lte, nI_1, stA_same, stA_2, if_pos rfl]
    have e8 : fx_it (lf_X8_passMinute_12 N (nI r)) (n2 + 1) (nI p, stA M 14 G) = fx_it (lf_X8_passMinute_12 N (nI r)) n2 (nI (p + 1), stA M 14 (upd G (6 * r + p) (G (6 * r + p) + w))) := by
      show lf_X8_passMinute_12 N (nI r) (nI p, stA M 14 G) _ = _
      unfold lf_X8_passMinute_12 bd_X8_passMinute_12
      dsimp only
      rw [pv_aldn hr (by omega), show (stA M 14 G).2 12 r = nI n from (r12 r hr).trans en, if_neg hne, pv_aldn hp6 (by omega), lte, show (6 : Int32) * nI r + nI p = nI (6 * r + p) by rw [pv_six, pk_mul, nI_add], pv_aldn (by omega) (by omega), show (stA M 14 G).1 2 - (stA M 14 G).2 6 p = E.1 2 - E.2 6 p by show M.1 2 - M.2 6 p = _; rw [r2, r6 p hp6], pv_max, hw, b1e, pv_astn (by omega) (by omega), lte, nI_1, stA_same, stA_2, if_pos rfl]
    rw [e7, e8]
    exact ih (p + 1) (by omega) _ _ (by rw [hFG _ (by omega)]; exact pv_RAu hFG _ _) n1 n2 (by omega) (by omega)
theorem pv_bake_out (N : Nat) (hN : 100 ≤ N) {E M : St} (hI : pv_IO E) (hR : pv_RO E M) {n : Nat} (en : E.1 0 = nI n) (hn : n ≤ 4) : ∀ (d r : Nat), r + d = n → ∀ (F G : Nat → Int32), pv_RA 24 G F → ∀ n1 n2 : Nat, d < n1 → d < n2 → ∃ F' G', pv_RA 24 G' F' ∧ fx_it (lf_X3_bakeMinute_2 N) n1 (nI r, stA E 9 F) = some (stA E 9 F') ∧ fx_it (lf_X8_passMinute_2 N) n2 (nI r, stA M 14 G) = some (stA M 14 G') := by
  intro d
  induction d with
  | zero =>
    intro r hr F G hFG n1 n2 h1 h2
    obtain ⟨n1, rfl⟩ : ∃ q, n1 = q + 1 := ⟨n1 - 1, by omega⟩
    obtain ⟨n2, rfl⟩ : ∃ q, n2 = q + 1 := ⟨n2 - 1, by omega⟩
    have hrn : r = n := by omega
    subst hrn
    refine ⟨F, G, hFG, ?_, ?_⟩
    · show lf_X3_bakeMinute_2 N (nI r, stA E 9 F) _ = _
      unfold lf_X3_bakeMinute_2 bd_X3_bakeMinute_2
      dsimp only
      rw [show (stA E 9 F).1 0 = nI r from en, if_pos (Int32.le_refl _)]
    · show lf_X8_passMinute_2 N (nI r, stA M 14 G) _ = _
      unfold lf_X8_passMinute_2 bd_X8_passMinute_2
      dsimp only
      rw [show (stA M 14 G).1 0 = nI r from hR.1.trans en, if_pos (Int32.le_refl _)]
  | succ d ih =>
    intro r hr F G hFG n1 n2 h1 h2
    obtain ⟨n1, rfl⟩ : ∃ q, n1 = q + 1 := ⟨n1 - 1, by omega⟩
    obtain ⟨n2, rfl⟩ : ∃ q, n2 = q + 1 := ⟨n2 - 1, by omega⟩
    have hr4 : r < 4 := by omega
    have hne : ¬ nI n ≤ nI r := fun z => by have := (pv_le (by omega) (by omega)).mp z; omega
    obtain ⟨i0, i1, i2, i3, i4, i5, i6, i7, i8⟩ := id hI
    obtain ⟨fl, efl, hfl⟩ := pv_num (b := 6) ⟨(i7 r hr4).1, by have := (i7 r hr4).2; omega⟩
    obtain ⟨F', G', hFG', q1, q2⟩ := pv_bake_in N hI hR hr4 efl (by omega) fl 0 (by omega) F G hFG N N (by omega) (by omega)
    have e7 : fx_it (lf_X3_bakeMinute_2 N) (n1 + 1) (nI r, stA E 9 F) = fx_it (lf_X3_bakeMinute_2 N) n1 (nI (r + 1), stA E 9 F') := by
      show lf_X3_bakeMinute_2 N (nI r, stA E 9 F) _ = _
      unfold lf_X3_bakeMinute_2 bd_X3_bakeMinute_2
      dsimp only
      rw [show (stA E 9 F).1 0 = nI n from en, if_neg hne, show (((0 : Int32), stA E 9 F) : Int32 × St) = (nI 0, stA E 9 F) from rfl, q1, b1e, lte, nI_1]
    have e8 : fx_it (lf_X8_passMinute_2 N) (n2 + 1) (nI r, stA M 14 G) = fx_it (lf_X8_passMinute_2 N) n2 (nI (r + 1), stA M 14 G') := by
      show lf_X8_passMinute_2 N (nI r, stA M 14 G) _ = _
      unfold lf_X8_passMinute_2 bd_X8_passMinute_2
      dsimp only
      rw [show (stA M 14 G).1 0 = nI n from hR.1.trans en, if_neg hne, show (((0 : Int32), stA M 14 G) : Int32 × St) = (nI 0, stA M 14 G) from rfl, q2, b1e, lte, nI_1]
    rw [e7, e8]
    exact ih (r + 1) (by omega) F' G' hFG' n1 n2 (by omega) (by omega)
theorem pv_minute (N : Nat) (hN : 100 ≤ N) {E M : St} (hI : pv_IO E) (hR : pv_RO E M) : ∃ E' M', f_X3_bakeMinute N E = some E' ∧ f_X8_passMinute N M = some M' ∧ pv_IO E' ∧ pv_RO E' M' ∧ pv_Z M M' := by
  obtain ⟨i0, i1, i2, i3, i4, i5, i6, i7, i8⟩ := id hI
  obtain ⟨n, en, hn⟩ := pv_num (b := 4) ⟨by omega, i0.2⟩
  obtain ⟨h, eh, hh⟩ := pv_num i2
  obtain ⟨c, ec, hc⟩ := pv_num i3
  obtain ⟨d, ed, hd⟩ := pv_num i4
  obtain ⟨F', G', hFG, q1, q2⟩ := pv_bake_out N hN hI hR en (by omega) n 0 (by omega) (E.2 9) (M.2 14) hR.2.2.2.2.2.2.2.2.2.1 N N (by omega) (by omega)
  rw [stA_self] at q1 q2
  obtain ⟨r0, r1, r2, r3, r4, r5, r6, r12, r13, r14, r15⟩ := id hR
  unfold f_X3_bakeMinute f_X8_passMinute
  rw [show (((0 : Int32), E) : Int32 × St) = (nI 0, E) from rfl, q1, b1e, show (((0 : Int32), M) : Int32 × St) = (nI 0, M) from rfl, q2, b1e]
  have key : ∃ dd : Nat, dd ≤ 9 ∧ (if (stA E 9 F').1 5 = 0 then some (0 : Int32) else some ((stA E 9 F').1 4)) = some (nI dd) ∧ (if (stA M 14 G').1 5 = (1 : Int32) then some ((stA M 14 G').1 4) else some (0 : Int32)) = some (nI dd) := by
    have e5 : (stA E 9 F').1 5 = E.1 5 := rfl
    have e4 : (stA E 9 F').1 4 = nI d := ed
    have m5 : (stA M 14 G').1 5 = E.1 5 := r5
    have m4 : (stA M 14 G').1 4 = nI d := r4.trans ed
    rw [e5, e4, m5, m4]
    rcases i5 with z | z
    · exact ⟨0, by omega, by rw [z, if_pos rfl]; rfl, by rw [z, if_neg (by decide)]; rfl⟩
    · exact ⟨d, by omega, by rw [z, if_neg (by decide)], by rw [z, if_pos rfl]⟩
  obtain ⟨dd, hdd, k1, k2⟩ := key
  rw [k1, k2, b1e, b1e, lte, lte, lte]
  rw [show (stA E 9 F').1 2 - (stA E 9 F').1 3 - nI dd = nI h - nI (c + dd) by show E.1 2 - E.1 3 - nI dd = _; rw [eh, ec, ← nI_add, Int32.sub_sub], pv_mx (by omega) (by omega)]
  rw [lte, show (stA M 14 G').1 2 - ((stA M 14 G').1 3 + nI dd) = nI h - nI (c + dd) by show M.1 2 - (M.1 3 + nI dd) = _; rw [r2, r3, eh, ec, nI_add]]
  rw [show (stI (stA M 14 G') 2 (nI h - nI (c + dd))).1 2 = nI h - nI (c + dd) from rfl]
  have em : (if (0 : Int32) ≤ nI h - nI (c + dd) then some (nI h - nI (c + dd)) else some (0 : Int32)) = some (nI (h - (c + dd))) := by
    have e : (nI h - nI (c + dd)).toInt = (h : Int) - (c + dd : Nat) := pk_sub_toInt (by omega) (by omega)
    by_cases z : c + dd ≤ h
    · rw [if_pos (by rw [Int32.le_iff_toInt_le, e, t32_0]; omega), pk_sub z]
    · rw [if_neg (by rw [Int32.le_iff_toInt_le, e, t32_0]; omega), show h - (c + dd) = 0 by omega]; rfl
  rw [em, b1e, lte, lte]
  refine ⟨_, _, rfl, rfl, ⟨i0, i1, ?_, i3, i4, Or.inl rfl, i6, i7, i8⟩, ⟨r0, r1, rfl, r3, r4, rfl, r6, r12, r13, hFG, r15⟩, fun k a b => ?_, fun k a b c d => ?_⟩
  · show 0 ≤ (nI (h - (c + dd))).toInt ∧ (nI (h - (c + dd))).toInt ≤ 99
    rw [pv_nI _ (by omega)]; omega
  · rw [stI_1, if_neg b, stI_1, if_neg a, stI_1, if_neg a]; rfl
  · show (stA M 14 G').2 k = M.2 k
    rw [stA_2, if_neg c]
/-- minutes in a row -/
theorem pv_minutes (N : Nat) (hN : 100 ≤ N) (D S : St) {x : Nat} (hx : x ≤ 10) : ∀ (d i : Nat), i + d = x → ∀ (E M : St), pv_IO E → pv_RO E M → ∀ n1 n2 : Nat, d < n1 → d < n2 → ∃ E' M', fx_it (lf_X2_act_29 N (nI x) D S) n1 (nI i, E) = some E' ∧ fx_it (lf_X8_happen_36 N) n2 (nI (10 - x + i), M) = some M' ∧ pv_IO E' ∧ pv_RO E' M' ∧ pv_Z M M' := by
  intro d
  induction d with
  | zero =>
    intro i hi E M hI hR n1 n2 h1 h2
    obtain ⟨n1, rfl⟩ : ∃ q, n1 = q + 1 := ⟨n1 - 1, by omega⟩
    obtain ⟨n2, rfl⟩ : ∃ q, n2 = q + 1 := ⟨n2 - 1, by omega⟩
    have hix : i = x := by omega
    subst hix
    refine ⟨E, M, ?_, ?_, hI, hR, pv_Z.rf M⟩
    · show lf_X2_act_29 N (nI i) D S (nI i, E) _ = _
      unfold lf_X2_act_29 bd_X2_act_29
      dsimp only
      rw [if_pos (Int32.le_refl _)]
    · show lf_X8_happen_36 N (nI (10 - i + i), M) _ = _
      unfold lf_X8_happen_36 bd_X8_happen_36
      dsimp only
      rw [show 10 - i + i = 10 by omega, if_pos (show (10 : Int32) ≤ nI 10 by decide)]
  | succ d ih =>
    intro i hi E M hI hR n1 n2 h1 h2
    obtain ⟨n1, rfl⟩ : ∃ q, n1 = q + 1 := ⟨n1 - 1, by omega⟩
    obtain ⟨n2, rfl⟩ : ∃ q, n2 = q + 1 := ⟨n2 - 1, by omega⟩
    obtain ⟨E1, M1, q1, q2, q3, q4, q5⟩ := pv_minute N hN hI hR
    have e7 : fx_it (lf_X2_act_29 N (nI x) D S) (n1 + 1) (nI i, E) = fx_it (lf_X2_act_29 N (nI x) D S) n1 (nI (i + 1), E1) := by
      show lf_X2_act_29 N (nI x) D S (nI i, E) _ = _
      unfold lf_X2_act_29 bd_X2_act_29
      dsimp only
      rw [if_neg (fun z => by have := (pv_le (by omega) (by omega)).mp z; omega), q1, b1e, lte, nI_1]
    have e8 : fx_it (lf_X8_happen_36 N) (n2 + 1) (nI (10 - x + i), M) = fx_it (lf_X8_happen_36 N) n2 (nI (10 - x + (i + 1)), M1) := by
      show lf_X8_happen_36 N (nI (10 - x + i), M) _ = _
      unfold lf_X8_happen_36 bd_X8_happen_36
      dsimp only
      rw [if_neg (show ¬ (10 : Int32) ≤ nI (10 - x + i) from fun z => by have := (pv_le (a := 10) (by omega) (by omega)).mp z; omega), q2, b1e, lte, nI_1, Nat.add_assoc]
    obtain ⟨E', M', w1, w2, w3, w4, w5⟩ := ih (i + 1) (by omega) E1 M1 q3 q4 n1 n2 (by omega) (by omega)
    exact ⟨E', M', e7.trans w1, e8.trans w2, w3, w4, q5.trans w5⟩
