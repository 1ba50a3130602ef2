/-! images: both sides -/
def pv_cs (O S T : St) (x : Nat) : Int32 := if x = 6 then S.1 0 else if x = 7 then T.1 0 else O.1 x
def pv_ce (O S T : St) (c j : Nat) : Int32 := if c = 6 then O.2 6 j else if c = 8 then S.2 1 j else if c = 9 then S.2 2 j else if c = 10 then S.2 3 j else if c = 11 then S.2 4 j else if c = 12 then O.2 7 j else if c = 13 then O.2 8 j else if c = 14 then O.2 9 j else if c = 15 then O.2 10 j else T.2 1 j
def pv_sz (c : Nat) : Nat := if c = 12 then 4 else if c = 15 then 4 else if c = 13 then 24 else if c = 14 then 24 else 6
theorem pv_sl_m : ∀ x, x < 100 → 8 ≤ x → pv_sl x ∈ [6, 8, 9, 10, 11, 12, 13, 14, 15, 16] ∧ pv_jx x < pv_sz (pv_sl x) := by decide +kernel
theorem pv_sl_k (x : Nat) (hx : x < 100) (h8 : 8 ≤ x) : (pv_sl x = 6 ∧ pv_jx x < 6) ∨ (pv_sl x = 8 ∧ pv_jx x < 6) ∨ (pv_sl x = 9 ∧ pv_jx x < 6) ∨ (pv_sl x = 10 ∧ pv_jx x < 6) ∨ (pv_sl x = 11 ∧ pv_jx x < 6) ∨ (pv_sl x = 12 ∧ pv_jx x < 4) ∨ (pv_sl x = 13 ∧ pv_jx x < 24) ∨ (pv_sl x = 14 ∧ pv_jx x < 24) ∨ (pv_sl x = 15 ∧ pv_jx x < 4) ∨ (pv_sl x = 16 ∧ pv_jx x < 6) := by
  obtain ⟨h1, h2⟩ := pv_sl_m x hx h8
  simp only [List.mem_cons, List.not_mem_nil, or_false] at h1
  rcases h1 with e | e | e | e | e | e | e | e | e | e <;> rw [e] at h2
  · exact Or.inl ⟨e, h2⟩
  · exact Or.inr (Or.inl ⟨e, h2⟩)
  · exact Or.inr (Or.inr (Or.inl ⟨e, h2⟩))
  · exact Or.inr (Or.inr (Or.inr (Or.inl ⟨e, h2⟩)))
  · exact Or.inr (Or.inr (Or.inr (Or.inr (Or.inl ⟨e, h2⟩))))
  · exact Or.inr (Or.inr (Or.inr (Or.inr (Or.inr (Or.inl ⟨e, h2⟩)))))
  · exact Or.inr (Or.inr (Or.inr (Or.inr (Or.inr (Or.inr (Or.inl ⟨e, h2⟩))))))
  · exact Or.inr (Or.inr (Or.inr (Or.inr (Or.inr (Or.inr (Or.inr (Or.inl ⟨e, h2⟩)))))))
  · exact Or.inr (Or.inr (Or.inr (Or.inr (Or.inr (Or.inr (Or.inr (Or.inr (Or.inl ⟨e, h2⟩))))))))
  · exact Or.inr (Or.inr (Or.inr (Or.inr (Or.inr (Or.inr (Or.inr (Or.inr (Or.inr ⟨e, h2⟩))))))))
def pv_Im (b : Nat) (F : Nat → Int32) (O S T : St) : Prop := (∀ x, x < 8 → F (b + x) = pv_cs O S T x) ∧ ∀ x, 8 ≤ x → x < 100 → F (b + x) = pv_ce O S T (pv_sl x) (pv_jx x)
theorem pv_R_cs {O S T P M : St} (h : pv_R O S T P M) : ∀ x, x < 8 → M.1 (pv_sc x) = pv_cs O S T x := by
  obtain ⟨⟨r0, r1, r2, r3, r4, r5, -⟩, ⟨r7, -⟩, ⟨r17, -⟩, -⟩ := h
  intro x hx
  rcases (show x = 0 ∨ x = 1 ∨ x = 2 ∨ x = 3 ∨ x = 4 ∨ x = 5 ∨ x = 6 ∨ x = 7 by omega) with rfl | rfl | rfl | rfl | rfl | rfl | rfl | rfl
  · exact r0
  · exact r1
  · exact r2
  · exact r3
  · exact r4
  · exact r5
  · exact r7
  · exact r17
theorem pv_R_ce {O S T P M : St} (h : pv_R O S T P M) : ∀ x, 8 ≤ x → x < 100 → M.2 (pv_sl x) (pv_jx x) = pv_ce O S T (pv_sl x) (pv_jx x) := by
  obtain ⟨⟨-, -, -, -, -, -, r6, r12, r13, r14, r15⟩, ⟨-, r8, r9, r10, r11⟩, ⟨-, r16⟩, -⟩ := h
  intro x h8 hx
  rcases pv_sl_k x hx h8 with ⟨e, q⟩ | ⟨e, q⟩ | ⟨e, q⟩ | ⟨e, q⟩ | ⟨e, q⟩ | ⟨e, q⟩ | ⟨e, q⟩ | ⟨e, q⟩ | ⟨e, q⟩ | ⟨e, q⟩ <;> rw [e]
  · exact r6 _ q
  · exact r8 _ q
  · exact r9 _ q
  · exact r10 _ q
  · exact r11 _ q
  · exact r12 _ q
  · exact r13 _ q
  · exact r14 _ q
  · exact r15 _ q
  · exact r16 _ q
/-- what was read is what was kept -/
theorem pv_Im_R {O S T P M : St} (hP : pv_RP P M) (h1 : ∀ x, x < 8 → M.1 (pv_sc x) = pv_cs O S T x) (h2 : ∀ x, 8 ≤ x → x < 100 → M.2 (pv_sl x) (pv_jx x) = pv_ce O S T (pv_sl x) (pv_jx x)) : pv_R O S T P M := by
  have k6 : ∀ j, j < 6 → ∀ x c, x < 100 → 8 ≤ x → (pv_sl x = c ∧ pv_jx x = j) → M.2 c j = pv_ce O S T c j := by
    intro j _ x c hx h8 ⟨e1, e2⟩
    have := h2 x h8 hx
    rw [e1, e2] at this
    exact this
  have k24 : ∀ j x c, x < 100 → 8 ≤ x → (pv_sl x = c ∧ pv_jx x = j) → M.2 c j = pv_ce O S T c j := by
    intro j x c hx h8 ⟨e1, e2⟩
    have := h2 x h8 hx
    rw [e1, e2] at this
    exact this
  refine ⟨⟨h1 0 (by omega), h1 1 (by omega), h1 2 (by omega), h1 3 (by omega), h1 4 (by omega), h1 5 (by omega), fun j hj => k6 j hj _ _ (by omega) (by omega) (pv_e6 j hj).1, fun j hj => k24 j _ _ (by omega) (by omega) (pv_e4 j hj).1, fun j hj => k24 j _ _ (by omega) (by omega) (pv_e24 j hj).1, fun j hj => k24 j _ _ (by omega) (by omega) (pv_e24 j hj).2, fun j hj => k24 j _ _ (by omega) (by omega) (pv_e4 j hj).2⟩, ⟨h1 6 (by omega), fun j hj => k6 j hj _ _ (by omega) (by omega) (pv_e6 j hj).2.1, fun j hj => k6 j hj _ _ (by omega) (by omega) (pv_e6 j hj).2.2.1, fun j hj => k6 j hj _ _ (by omega) (by omega) (pv_e6 j hj).2.2.2.1, fun j hj => k6 j hj _ _ (by omega) (by omega) (pv_e6 j hj).2.2.2.2.1⟩, ⟨h1 7 (by omega), fun j hj => k6 j hj _ _ (by omega) (by omega) (pv_e6 j hj).2.2.2.2.2⟩, hP⟩
theorem pv_120 (k : Nat) : (120 : Int32) * nI k = nI (120 * k) := pk_mul 120 k
/-- image, the reference's side -/
theorem op_image8 (N : Nat) (hN : 100 ≤ N) {O S T P M : St} (hR : pv_R O S T P M) {k : Nat} (hk : k < 2) : ∃ M', f_X8_image N M (nI k) = some (1, M') ∧ pv_R O S T P M' ∧ M'.2 43 k = 1 ∧ (∀ j, j ≠ k → M'.2 43 j = M.2 43 j) ∧ pv_Im (120 * k) (M'.2 42) O S T ∧ ∀ x, x < 120 * k ∨ 120 * k + 100 ≤ x → M'.2 42 x = M.2 42 x := by
  obtain ⟨M1, h1, i1, i2, i3, i4, i5, i6, i7, i8, i9⟩ := pv_passAll N hN (w := 1) (S := stI (stI M 44 (nI (120 * k))) 45 1) (b := 120 * k) (by omega) rfl rfl
  obtain ⟨j6, j7⟩ := i6 rfl
  have f1 : ∀ c, c < 20 → M1.1 c = M.1 c := fun c hc => by rw [j6 c (by omega), stI_1, if_neg (by omega), stI_1, if_neg (by omega)]
  have f2 : ∀ c, c ≠ 42 → M1.2 c = M.2 c := fun c hc => j7 c hc
  have hR1 : pv_R O S T P M1 := by
    unfold pv_R pv_RO pv_RS pv_RT pv_RP at *
    rw [f1 0 (by omega), f1 1 (by omega), f1 2 (by omega), f1 3 (by omega), f1 4 (by omega), f1 5 (by omega), f2 6 (by omega), f2 12 (by omega), f2 13 (by omega), f2 14 (by omega), f2 15 (by omega), f1 7 (by omega), f2 8 (by omega), f2 9 (by omega), f2 10 (by omega), f2 11 (by omega), f1 17 (by omega), f2 16 (by omega), f1 19 (by omega), f2 18 (by omega)]
    exact hR
  refine ⟨stA M1 43 (upd (M1.2 43) k 1), ?_, ?_, ?_, fun j hj => ?_, ⟨fun x hx => ?_, fun x h8 hx => ?_⟩, fun x hx => ?_⟩
  · unfold f_X8_image
    rw [pv_in, b1e, pv_if, if_pos (by rw [pv_nI _ (by omega), t64_0, t64_1]; omega), lte, lte, pv_120, h1, b1e, pv_astn (by omega) (by omega)]
  · have : ∀ c, c < 20 → (stA M1 43 (upd (M1.2 43) k 1)).2 c = M1.2 c := fun c hc => by rw [stA_2, if_neg (by omega)]
    unfold pv_R pv_RO pv_RS pv_RT pv_RP at *
    rw [this 6 (by omega), this 12 (by omega), this 13 (by omega), this 14 (by omega), this 15 (by omega), this 8 (by omega), this 9 (by omega), this 10 (by omega), this 11 (by omega), this 16 (by omega), this 18 (by omega)]
    exact hR1
  · rw [stA_2, if_pos rfl, pv_uself]
  · rw [stA_2, if_pos rfl, pv_une hj, f2 43 (by omega)]
  · rw [stA_2, if_neg (by omega), i3 x (by omega) hx]
    exact pv_R_cs hR1 x hx
  · rw [stA_2, if_neg (by omega), i4 x hx h8]
    exact pv_R_ce hR1 x h8 hx
  · rw [stA_2, if_neg (by omega)]
    exact i7 x hx
theorem op_image8x (N : Nat) {M : St} {x1 : Int32} (h : ¬ (0 ≤ x1.toInt ∧ x1.toInt ≤ 1)) : f_X8_image N M x1 = some (-2, M) := by
  unfold f_X8_image
  rw [pv_in, b1e, pv_if, if_neg (by rw [t64_0, t64_1]; exact h)]
theorem op_restore8 (N : Nat) (hN : 100 ≤ N) {O S T P M Oi Si Ti : St} (hR : pv_R O S T P M) {k : Nat} (hk : k < 2) (h43 : ¬ M.2 43 k = 0) (hI : pv_Im (120 * k) (M.2 42) Oi Si Ti) : ∃ M', f_X8_restore N M (nI k) = some (1, M') ∧ pv_R Oi Si Ti P M' ∧ M'.2 43 = M.2 43 ∧ ∀ x, M'.2 42 x = M.2 42 x := by
  obtain ⟨M1, h1, i1, i2, i3, i4, i5, i6, i7, i8, i9⟩ := pv_passAll N hN (w := 0) (S := stI (stI M 44 (nI (120 * k))) 45 0) (b := 120 * k) (by omega) rfl rfl
  have e42 : ∀ x, M1.2 42 x = M.2 42 x := i5 rfl
  refine ⟨M1, ?_, pv_Im_R ?_ (fun x hx => ?_) (fun x h8 hx => ?_), i9 43 (by omega) (by omega), e42⟩
  · unfold f_X8_restore
    rw [pv_in, b1e, pv_if, if_pos (by rw [pv_nI _ (by omega), t64_0, t64_1]; omega), pv_aldn hk (by omega), if_neg h43, lte, lte, pv_120, h1, b1e]
  · obtain ⟨-, -, -, hP⟩ := hR
    unfold pv_RP at *
    rw [i8 19 (by omega) (by omega), i9 18 (by omega) (by omega)]
    exact hP
  · rw [← i3 x (by omega) hx, e42]
    exact hI.1 x hx
  · rw [← i4 x hx h8, e42]
    exact hI.2 x h8 hx
theorem op_restore8n (N : Nat) {M : St} {k : Nat} (hk : k < 2) (h43 : M.2 43 k = 0) : f_X8_restore N M (nI k) = some (-3, M) := by
  unfold f_X8_restore
  rw [pv_in, b1e, pv_if, if_pos (by rw [pv_nI _ (by omega), t64_0, t64_1]; omega), pv_aldn hk (by omega), if_pos h43]
theorem op_restore8x (N : Nat) {M : St} {x1 : Int32} (h : ¬ (0 ≤ x1.toInt ∧ x1.toInt ≤ 1)) : f_X8_restore N M x1 = some (-2, M) := by
  unfold f_X8_restore
  rw [pv_in, b1e, pv_if, if_neg (by rw [t64_0, t64_1]; exact h)]
/-- the class's copies -/
def pv_ES (A S : St) : Prop := A.1 0 = S.1 0 ∧ pv_RA 6 (A.2 1) (S.2 1) ∧ pv_RA 6 (A.2 2) (S.2 2) ∧ pv_RA 6 (A.2 3) (S.2 3) ∧ pv_RA 6 (A.2 4) (S.2 4)
def pv_ET (A T : St) : Prop := A.1 0 = T.1 0 ∧ pv_RA 6 (A.2 1) (T.2 1)
theorem pv_copy0 (N : Nat) {A O : St} (A2 S A3 T : St) (h5 : O.1 5 = 0 ∨ O.1 5 = 1) : ∃ O' S' T', f_X0_copyFrom N A A2 A3 O S T = some (O', S', T') ∧ pv_EO O' O ∧ pv_ES S' S ∧ pv_ET T' T := by
  obtain ⟨O', h1, h2⟩ := pv_copyFrom N (A := A) (O := O) h5
  refine ⟨O', stA (stA (stA (stA (stI A2 0 (S.1 0)) 1 (va_cpy (S.2 1) (A2.2 1) 0 0 6)) 2 (va_cpy (S.2 2) (A2.2 2) 0 0 6)) 3 (va_cpy (S.2 3) (A2.2 3) 0 0 6)) 4 (va_cpy (S.2 4) (A2.2 4) 0 0 6), stA (stI A3 0 (T.1 0)) 1 (va_cpy (T.2 1) (A3.2 1) 0 0 6), ?_, h2, ?_, ?_⟩
  · unfold f_X0_copyFrom f_X6_copyFrom f_X5_copyFrom
    rw [h1, b1e, lte, pv_six, cpy_e 6 (by omega), cpy_e 6 (by omega), cpy_e 6 (by omega), cpy_e 6 (by omega), b1e, lte, cpy_e 6 (by omega), b1e]
    rfl
  · refine ⟨rfl, ?_, ?_, ?_, ?_⟩
    · rw [stA_2, if_neg (by omega), stA_2, if_neg (by omega), stA_2, if_neg (by omega), stA_2, if_pos rfl]; exact pv_cpyA
    · rw [stA_2, if_neg (by omega), stA_2, if_neg (by omega), stA_2, if_pos rfl]; exact pv_cpyA
    · rw [stA_2, if_neg (by omega), stA_2, if_pos rfl]; exact pv_cpyA
    · rw [stA_2, if_pos rfl]; exact pv_cpyA
  · refine ⟨rfl, ?_⟩
    rw [stA_2, if_pos rfl]; exact pv_cpyA
theorem pv_RA.sym {n : Nat} {f g : Nat → Int32} (h : pv_RA n f g) : pv_RA n g f := fun j hj => (h j hj).symm
theorem pv_RA.tr {n : Nat} {f g h : Nat → Int32} (h1 : pv_RA n f g) (h2 : pv_RA n g h) : pv_RA n f h := fun j hj => (h1 j hj).trans (h2 j hj)
theorem pv_ES.IS {A S : St} (h : pv_ES A S) (hS : pv_IS S) : pv_IS A := by
  obtain ⟨e0, e1, e2, e3, e4⟩ := h
  obtain ⟨s0, s1, s2, s3⟩ := hS
  exact ⟨by rw [e0]; exact s0, fun j hj => by rw [e1 j hj]; exact s1 j hj, fun j hj => by rw [e2 j hj]; exact s2 j hj, fun j hj => by rw [e3 j hj]; exact s3 j hj⟩
theorem pv_ET.IT {A T : St} (h : pv_ET A T) (hT : pv_IT T) : pv_IT A := ⟨by rw [h.1]; exact hT.1, fun j hj => by rw [h.2 j hj]; exact hT.2 j hj⟩
theorem pv_ES.RS {A S M : St} (h : pv_ES A S) (hR : pv_RS S M) : pv_RS A M := by
  obtain ⟨e0, e1, e2, e3, e4⟩ := h
  obtain ⟨r7, r8, r9, r10, r11⟩ := hR
  exact ⟨r7.trans e0.symm, r8.tr e1.sym, r9.tr e2.sym, r10.tr e3.sym, r11.tr e4.sym⟩
theorem pv_ET.RT {A T M : St} (h : pv_ET A T) (hR : pv_RT T M) : pv_RT A M := ⟨hR.1.trans h.1.symm, hR.2.tr h.2.sym⟩
theorem pv_Im_E {b : Nat} {F : Nat → Int32} {O S T O' S' T' : St} (h : pv_Im b F O S T) (e1 : pv_EO O' O) (e2 : pv_ES S' S) (e3 : pv_ET T' T) : pv_Im b F O' S' T' := by
  obtain ⟨a0, a6, a7, a8, a9, a10⟩ := e1
  obtain ⟨b0, b1, b2, b3, b4⟩ := e2
  obtain ⟨c0, c1⟩ := e3
  refine ⟨fun x hx => ?_, fun x h8 hx => ?_⟩
  · rw [h.1 x hx]
    unfold pv_cs
    by_cases z : x = 6
    · rw [if_pos z, if_pos z, b0]
    · rw [if_neg z, if_neg z]
      by_cases y : x = 7
      · rw [if_pos y, if_pos y, c0]
      · rw [if_neg y, if_neg y, a0 x (by omega)]
  · rw [h.2 x h8 hx]
    rcases pv_sl_k x hx h8 with ⟨e, q⟩ | ⟨e, q⟩ | ⟨e, q⟩ | ⟨e, q⟩ | ⟨e, q⟩ | ⟨e, q⟩ | ⟨e, q⟩ | ⟨e, q⟩ | ⟨e, q⟩ | ⟨e, q⟩ <;> rw [e]
    · exact (a6 _ q).symm
    · exact (b1 _ q).symm
    · exact (b2 _ q).symm
    · exact (b3 _ q).symm
    · exact (b4 _ q).symm
    · exact (a7 _ q).symm
    · exact (a8 _ q).symm
    · exact (a9 _ q).symm
    · exact (a10 _ q).symm
    · exact (c1 _ q).symm
