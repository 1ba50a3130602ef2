/-! bad neighbours, both ways -/
abbrev pv_foe (S : St) (a b : Int32) : Prop := ((S.2 4 a.toNatClampNeg >>> (b &&& 31)) &&& (1 : Int32)) = (1 : Int32)
theorem pv_apart (N : Nat) {S : St} {a b : Int32} (h : 0 ≤ a.toInt ∧ a.toInt ≤ 5) : f_X6_mustBeApart N S a b = some (pv_b (pv_foe S a b)) := by
  unfold f_X6_mustBeApart
  rw [pv_ald h.1 (by omega)]
  by_cases z : pv_foe S a b
  · rw [pv_b_t z, if_pos z]
  · rw [pv_b_f z, if_neg z]
theorem pv_foes (N : Nat) {E S M : St} (hR : pv_RO E M) (hS : pv_RS S M) {x y : Nat} (hx : x < 24) (hy : y < 24) (h : 0 ≤ (E.2 8 x).toInt ∧ (E.2 8 x).toInt ≤ 5) : f_X8_areFoes N M (nI x) (nI y) = some (pv_b (pv_foe S (E.2 8 x) (E.2 8 y))) := by
  obtain ⟨r0, r1, r2, r3, r4, r5, r6, r12, r13, r14, r15⟩ := hR
  obtain ⟨s7, s8, s9, s10, s11⟩ := hS
  have hc := pv_clamp h.1
  unfold f_X8_areFoes
  rw [pv_aldn hx (by omega), r13 x hx, pv_ald h.1 (by omega), pv_aldn hy (by omega), r13 y hy, s11 _ (by omega)]
  by_cases z : pv_foe S (E.2 8 x) (E.2 8 y)
  · rw [pv_b_t z, if_pos z]
  · rw [pv_b_f z, if_neg z]
abbrev pv_c1 (E S : St) (fl : Nat → Nat) (r p : Nat) : Prop := p + 1 < fl r ∧ pv_foe S (E.2 8 (6 * r + p)) (E.2 8 (6 * r + (p + 1)))
abbrev pv_c2 (E S : St) (fl : Nat → Nat) (rows r p : Nat) : Prop := r + 1 < rows ∧ p < fl (r + 1) ∧ pv_foe S (E.2 8 (6 * r + p)) (E.2 8 (6 * (r + 1) + p))
theorem pv_bad7 (N : Nat) {E S : St} {fl : Nat → Nat} {rows : Nat} (hI : pv_IO E) (hrw : E.1 0 = nI rows) (hrw4 : rows ≤ 4) (hfl : ∀ r, r < 4 → E.2 7 r = nI (fl r) ∧ fl r ≤ 6) {r p : Nat} (hr : r < rows) (hp : p ≤ 6) (rec : Int32 → Option Nat) : lf_X3_hasBadNeighbours_12 N (nI r) E S (nI p) rec = if fl r ≤ p then some 2 else if pv_c1 E S fl r p then some 0 else if pv_c2 E S fl rows r p then some 1 else rec (nI (p + 1)) := by
  obtain ⟨i0, i1, i2, i3, i4, i5, i6, i7, i8⟩ := id hI
  have hr4 : r < 4 := by omega
  have ef := (hfl r hr4).1
  have hf := (hfl r hr4).2
  unfold lf_X3_hasBadNeighbours_12 bd_X3_hasBadNeighbours_12
  rw [pv_aldn hr4 (by omega), ef]
  by_cases h0 : fl r ≤ p
  · rw [if_pos h0, if_pos ((pv_le (by omega) (by omega)).mpr h0)]
  rw [if_neg h0, if_neg (fun z => h0 ((pv_le (by omega) (by omega)).mp z)), pv_cell, b1e, pv_aldn (by omega) (by omega), pv_aldn hr4 (by omega), ef]
  have hk := i8 r p hr4 (by omega) (by rw [ef, pv_nI _ (by omega)]; omega)
  generalize hA : (fx_b1 ((if (E.1 0) ≤ (nI r + (1 : Int32)) then some (0 : Int32) else fx_ald 4 (E.2 7) (nI r + (1 : Int32)) (fun v115 => (if v115 ≤ nI p then some (0 : Int32) else some (1 : Int32)))) : Option (Int32)) (fun v105 => (if v105 = 0 then (fx_lt (nI p + (1 : Int32)) (fun x107 => rec x107)) else (fx_b1 (f_X3_cell N (nI r + (1 : Int32)) (nI p)) (fun v108 => fx_ald 24 (E.2 8) v108 (fun v109 => fx_b1 (f_X6_mustBeApart N S (E.2 8 (6 * r + p)) v109) (fun v110 => (if v110 = 0 then (fx_lt (nI p + (1 : Int32)) (fun x111 => rec x111)) else (some 1)))))))) : Option Nat) = A
  have hAe : A = if pv_c2 E S fl rows r p then some 1 else rec (nI (p + 1)) := by
    rw [← hA, nI_1, nI_1, hrw]
    by_cases h3 : r + 1 < rows
    · have hr5 : r + 1 < 4 := by omega
      rw [if_neg (fun z => by have := (pv_le (by omega) (by omega)).mp z; omega), pv_aldn hr5 (by omega), (hfl _ hr5).1]
      have hf5 := (hfl _ hr5).2
      by_cases h4 : p < fl (r + 1)
      · rw [if_neg (fun z => by have := (pv_le (by omega) (by omega)).mp z; omega), b1e, if_neg (by decide), pv_cell, b1e, pv_aldn (by omega) (by omega), pv_apart N hk, b1e, pv_if]
        by_cases h5 : pv_foe S (E.2 8 (6 * r + p)) (E.2 8 (6 * (r + 1) + p))
        · rw [if_pos h5, if_pos (show pv_c2 E S fl rows r p from ⟨h3, h4, h5⟩)]
        · rw [if_neg h5, if_neg (fun z : pv_c2 E S fl rows r p => h5 z.2.2), lte]
      · rw [if_pos ((pv_le (by omega) (by omega)).mpr (by omega)), b1e, if_pos rfl, if_neg (fun z : pv_c2 E S fl rows r p => h4 z.2.1), lte]
    · rw [if_pos ((pv_le (by omega) (by omega)).mpr (by omega)), b1e, if_pos rfl, if_neg (fun z : pv_c2 E S fl rows r p => h3 z.1), lte]
  rw [← hAe, nI_1]
  by_cases h1 : p + 1 < fl r
  · rw [if_neg (fun z => by have := (pv_le (by omega) (by omega)).mp z; omega), pv_cell, b1e, pv_aldn (by omega) (by omega), pv_apart N hk, b1e, pv_if]
    by_cases h2 : pv_foe S (E.2 8 (6 * r + p)) (E.2 8 (6 * r + (p + 1)))
    · rw [if_pos h2, if_pos (show pv_c1 E S fl r p from ⟨h1, h2⟩)]
    · rw [if_neg h2, if_neg (fun z : pv_c1 E S fl r p => h2 z.2), ← hA, nI_1]
  · rw [if_pos ((pv_le (by omega) (by omega)).mpr (by omega)), if_neg (fun z : pv_c1 E S fl r p => h1 z.1), ← hA, nI_1]
theorem pv_bad8 (N : Nat) {E S M : St} {fl : Nat → Nat} {rows : Nat} (hI : pv_IO E) (hR : pv_RO E M) (hS : pv_RS S M) (hrw : E.1 0 = nI rows) (hrw4 : rows ≤ 4) (hfl : ∀ r, r < 4 → E.2 7 r = nI (fl r) ∧ fl r ≤ 6) {r p : Nat} (hr : r < rows) (hp : p ≤ 6) (rec : Int32 × Int32 → Option Int32) : lf_X8_isSpoilt_14 N (nI r) M (0, nI p) rec = if fl r ≤ p then some 0 else if pv_c1 E S fl r p then rec (1, nI (p + 1)) else if pv_c2 E S fl rows r p then rec (1, nI (p + 1)) else rec (0, nI (p + 1)) := by
  obtain ⟨i0, i1, i2, i3, i4, i5, i6, i7, i8⟩ := id hI
  obtain ⟨r0, r1, r2, r3, r4, r5, r6, r12, r13, r14, r15⟩ := id hR
  have hr4 : r < 4 := by omega
  have ef := (hfl r hr4).1
  have hf := (hfl r hr4).2
  unfold lf_X8_isSpoilt_14 bd_X8_isSpoilt_14
  dsimp only
  rw [pv_aldn hr4 (by omega), r12 r hr4, ef]
  by_cases h0 : fl r ≤ p
  · rw [if_pos h0, if_pos ((pv_le (by omega) (by omega)).mpr h0)]
  have hk := i8 r p hr4 (by omega) (by rw [ef, pv_nI _ (by omega)]; omega)
  rw [if_neg h0, if_neg (fun z => h0 ((pv_le (by omega) (by omega)).mp z)), lte, show (6 : Int32) * nI r + nI p = nI (6 * r + p) by rw [pv_six, pk_mul, nI_add], if_pos rfl, pv_aldn hr4 (by omega), r12 r hr4, ef, nI_1, nI_1, nI_1, r0, hrw, show nI (6 * r + p) + (6 : Int32) = nI (6 * (r + 1) + p) by rw [pv_six, nI_add]; congr 1; omega]
  have e1 : (if nI (fl r) ≤ nI (p + 1) then some (0 : Int32) else fx_b1 (f_X8_areFoes N M (nI (6 * r + p)) (nI (6 * r + p + 1))) fun v115 => if v115 = 0 then some (0 : Int32) else some (1 : Int32)) = some (pv_b (pv_c1 E S fl r p)) := by
    by_cases h1 : p + 1 < fl r
    · rw [if_neg (fun z => by have := (pv_le (by omega) (by omega)).mp z; omega), pv_foes N hR hS (by omega) (by omega) hk, b1e, pv_if]
      by_cases h2 : pv_foe S (E.2 8 (6 * r + p)) (E.2 8 (6 * r + (p + 1)))
      · rw [if_pos (show pv_foe S (E.2 8 (6 * r + p)) (E.2 8 (6 * r + p + 1)) from h2), pv_b_t (show pv_c1 E S fl r p from ⟨h1, h2⟩)]
      · rw [if_neg (show ¬ pv_foe S (E.2 8 (6 * r + p)) (E.2 8 (6 * r + p + 1)) from h2), pv_b_f (fun z : pv_c1 E S fl r p => h2 z.2)]
    · rw [if_pos ((pv_le (by omega) (by omega)).mpr (by omega)), pv_b_f (fun z : pv_c1 E S fl r p => h1 z.1)]
  rw [e1, b1e, pv_if]
  by_cases h1 : pv_c1 E S fl r p
  · rw [if_pos h1, if_pos h1, lte]
  rw [if_neg h1, if_neg h1]
  by_cases h3 : r + 1 < rows
  · have hr5 : r + 1 < 4 := by omega
    have hf5 := (hfl _ hr5).2
    rw [if_neg (fun z => by have := (pv_le (by omega) (by omega)).mp z; omega), pv_aldn hr5 (by omega), r12 _ hr5, (hfl _ hr5).1]
    by_cases h4 : p < fl (r + 1)
    · rw [if_neg (fun z => by have := (pv_le (by omega) (by omega)).mp z; omega), pv_foes N hR hS (by omega) (by omega) hk, b1e, pv_if]
      by_cases h5 : pv_foe S (E.2 8 (6 * r + p)) (E.2 8 (6 * (r + 1) + p))
      · rw [if_pos h5, if_pos (show pv_c2 E S fl rows r p from ⟨h3, h4, h5⟩), lte]
      · rw [if_neg h5, if_neg (fun z : pv_c2 E S fl rows r p => h5 z.2.2), lte]
    · rw [if_pos ((pv_le (by omega) (by omega)).mpr (by omega)), if_neg (fun z : pv_c2 E S fl rows r p => h4 z.2.1), lte]
  · rw [if_pos ((pv_le (by omega) (by omega)).mpr (by omega)), if_neg (fun z : pv_c2 E S fl rows r p => h3 z.1), lte]
/-- once bad, bad to the end of the row -/
theorem pv_bad8t (N : Nat) {M : St} {r f : Nat} (hr : r < 4) (ef : M.2 12 r = nI f) (hf : f ≤ 6) : ∀ (d p : Nat), p + d = f → ∀ n2 : Nat, d < n2 → fx_it (lf_X8_isSpoilt_14 N (nI r) M) n2 (1, nI p) = some 1 := by
  intro d
  induction d with
  | zero =>
    intro p hp n2 h2
    obtain ⟨n2, rfl⟩ : ∃ q, n2 = q + 1 := ⟨n2 - 1, by omega⟩
    show lf_X8_isSpoilt_14 N (nI r) M (1, nI p) _ = _
    unfold lf_X8_isSpoilt_14 bd_X8_isSpoilt_14
    dsimp only
    rw [pv_aldn hr (by omega), ef, if_pos ((pv_le (by omega) (by omega)).mpr (by omega))]
  | succ d ih =>
    intro p hp n2 h2
    obtain ⟨n2, rfl⟩ : ∃ q, n2 = q + 1 := ⟨n2 - 1, by omega⟩
    show lf_X8_isSpoilt_14 N (nI r) M (1, nI p) _ = _
    rw [← ih (p + 1) (by omega) n2 (by omega)]
    generalize fx_it (lf_X8_isSpoilt_14 N (nI r) M) n2 = rec
    unfold lf_X8_isSpoilt_14 bd_X8_isSpoilt_14
    dsimp only
    rw [pv_aldn hr (by omega), ef, if_neg (fun z => by have := (pv_le (by omega) (by omega)).mp z; omega), lte, if_neg (by decide), b1e, if_neg (by decide), lte, nI_1]
theorem pv_badr (N : Nat) {E S M : St} {fl : Nat → Nat} {rows : Nat} (hI : pv_IO E) (hR : pv_RO E M) (hS : pv_RS S M) (hrw : E.1 0 = nI rows) (hrw4 : rows ≤ 4) (hfl : ∀ r, r < 4 → E.2 7 r = nI (fl r) ∧ fl r ≤ 6) {r : Nat} (hr : r < rows) : ∀ (d p : Nat), p + d = fl r → ∀ n1 n2 : Nat, d < n1 → d < n2 → (∃ t, t < 2 ∧ fx_it (lf_X3_hasBadNeighbours_12 N (nI r) E S) n1 (nI p) = some t ∧ fx_it (lf_X8_isSpoilt_14 N (nI r) M) n2 (0, nI p) = some 1) ∨ (fx_it (lf_X3_hasBadNeighbours_12 N (nI r) E S) n1 (nI p) = some 2 ∧ fx_it (lf_X8_isSpoilt_14 N (nI r) M) n2 (0, nI p) = some 0) := by
  have hr4 : r < 4 := by omega
  have ef := (hfl r hr4).1
  have hf := (hfl r hr4).2
  have em : M.2 12 r = nI (fl r) := (hR.2.2.2.2.2.2.2.1 r hr4).trans ef
  intro d
  induction d with
  | zero =>
    intro p hp n1 n2 h1 h2
    obtain ⟨n1, rfl⟩ : ∃ q, n1 = q + 1 := ⟨n1 - 1, by omega⟩
    obtain ⟨n2, rfl⟩ : ∃ q, n2 = q + 1 := ⟨n2 - 1, by omega⟩
    refine Or.inr ⟨?_, ?_⟩
    · show lf_X3_hasBadNeighbours_12 N (nI r) E S (nI p) _ = _
      rw [pv_bad7 N hI hrw hrw4 hfl hr (by omega), if_pos (by omega)]
    · show lf_X8_isSpoilt_14 N (nI r) M (0, nI p) _ = _
      rw [pv_bad8 N hI hR hS hrw hrw4 hfl hr (by omega), if_pos (by omega)]
  | succ d ih =>
    intro p hp n1 n2 h1 h2
    obtain ⟨n1, rfl⟩ : ∃ q, n1 = q + 1 := ⟨n1 - 1, by omega⟩
    obtain ⟨n2, rfl⟩ : ∃ q, n2 = q + 1 := ⟨n2 - 1, by omega⟩
    have e7 : fx_it (lf_X3_hasBadNeighbours_12 N (nI r) E S) (n1 + 1) (nI p) = _ := pv_bad7 N hI hrw hrw4 hfl hr (by omega) (fx_it (lf_X3_hasBadNeighbours_12 N (nI r) E S) n1)
    have e8 : fx_it (lf_X8_isSpoilt_14 N (nI r) M) (n2 + 1) (0, nI p) = _ := pv_bad8 N hI hR hS hrw hrw4 hfl hr (by omega) (fx_it (lf_X8_isSpoilt_14 N (nI r) M) n2)
    have et := pv_bad8t N hr4 em hf d (p + 1) (by omega) n2 (by omega)
    rw [e7, e8, if_neg (show ¬ fl r ≤ p by omega), if_neg (show ¬ fl r ≤ p by omega)]
    by_cases c1 : pv_c1 E S fl r p
    · rw [if_pos c1, if_pos c1]
      exact Or.inl ⟨0, by omega, rfl, et⟩
    rw [if_neg c1, if_neg c1]
    by_cases c2 : pv_c2 E S fl rows r p
    · rw [if_pos c2, if_pos c2]
      exact Or.inl ⟨1, by omega, rfl, et⟩
    rw [if_neg c2, if_neg c2]
    exact ih (p + 1) (by omega) n1 n2 (by omega) (by omega)
/-- once bad, bad to the end -/
theorem pv_badt (N : Nat) (hN : 100 ≤ N) {M : St} {fl : Nat → Nat} {rows : Nat} (hrw : M.1 0 = nI rows) (hrw4 : rows ≤ 4) (hfl : ∀ r, r < 4 → M.2 12 r = nI (fl r) ∧ fl r ≤ 6) : ∀ (d r : Nat), r + d = rows → ∀ n2 : Nat, d < n2 → fx_it (lf_X8_isSpoilt_4 N M) n2 (1, nI r) = some 1 := by
  intro d
  induction d with
  | zero =>
    intro p hp n2 h2
    obtain ⟨n2, rfl⟩ : ∃ q, n2 = q + 1 := ⟨n2 - 1, by omega⟩
    show lf_X8_isSpoilt_4 N M (1, nI p) _ = _
    unfold lf_X8_isSpoilt_4 bd_X8_isSpoilt_4
    dsimp only
    rw [hrw, if_pos ((pv_le (by omega) (by omega)).mpr (by omega))]
  | succ d ih =>
    intro r hr n2 h2
    obtain ⟨n2, rfl⟩ : ∃ q, n2 = q + 1 := ⟨n2 - 1, by omega⟩
    have et := pv_bad8t N (show r < 4 by omega) (hfl r (by omega)).1 (hfl r (by omega)).2 (fl r) 0 (by omega) N (by have := (hfl r (by omega)).2; omega)
    show lf_X8_isSpoilt_4 N M (1, nI r) _ = _
    rw [← ih (r + 1) (by omega) n2 (by omega)]
    generalize fx_it (lf_X8_isSpoilt_4 N M) n2 = rec
    unfold lf_X8_isSpoilt_4 bd_X8_isSpoilt_4
    dsimp only
    rw [hrw, if_neg (fun z => by have := (pv_le (by omega) (by omega)).mp z; omega), show (((1 : Int32), (0 : Int32)) : Int32 × Int32) = (1, nI 0) from rfl, et, b1e, lte, nI_1]
theorem pv_bado (N : Nat) (hN : 100 ≤ N) {E S M : St} {fl : Nat → Nat} {rows : Nat} (hI : pv_IO E) (hR : pv_RO E M) (hS : pv_RS S M) (hrw : E.1 0 = nI rows) (hrw4 : rows ≤ 4) (hfl : ∀ r, r < 4 → E.2 7 r = nI (fl r) ∧ fl r ≤ 6) : ∀ (d r : Nat), r + d = rows → ∀ n1 n2 : Nat, d < n1 → d < n2 → (∃ t, t < 2 ∧ fx_it (lf_X3_hasBadNeighbours_2 N E S) n1 (nI r) = some t ∧ fx_it (lf_X8_isSpoilt_4 N M) n2 (0, nI r) = some 1) ∨ (fx_it (lf_X3_hasBadNeighbours_2 N E S) n1 (nI r) = some 2 ∧ fx_it (lf_X8_isSpoilt_4 N M) n2 (0, nI r) = some 0) := by
  have em : M.1 0 = nI rows := hR.1.trans hrw
  have hfm : ∀ r, r < 4 → M.2 12 r = nI (fl r) ∧ fl r ≤ 6 := fun r hr => ⟨(hR.2.2.2.2.2.2.2.1 r hr).trans (hfl r hr).1, (hfl r hr).2⟩
  intro d
  induction d with
  | zero =>
    intro p hp n1 n2 h1 h2
    obtain ⟨n1, rfl⟩ : ∃ q, n1 = q + 1 := ⟨n1 - 1, by omega⟩
    obtain ⟨n2, rfl⟩ : ∃ q, n2 = q + 1 := ⟨n2 - 1, by omega⟩
    refine Or.inr ⟨?_, ?_⟩
    · show lf_X3_hasBadNeighbours_2 N E S (nI p) _ = _
      unfold lf_X3_hasBadNeighbours_2 bd_X3_hasBadNeighbours_2
      rw [hrw, if_pos ((pv_le (by omega) (by omega)).mpr (by omega))]
    · show lf_X8_isSpoilt_4 N M (0, nI p) _ = _
      unfold lf_X8_isSpoilt_4 bd_X8_isSpoilt_4
      dsimp only
      rw [em, if_pos ((pv_le (by omega) (by omega)).mpr (by omega))]
  | succ d ih =>
    intro r hr n1 n2 h1 h2
    obtain ⟨n1, rfl⟩ : ∃ q, n1 = q + 1 := ⟨n1 - 1, by omega⟩
    obtain ⟨n2, rfl⟩ : ∃ q, n2 = q + 1 := ⟨n2 - 1, by omega⟩
    have hne : ¬ nI rows ≤ nI r := fun z => by have := (pv_le (by omega) (by omega)).mp z; omega
    have h6 := (hfl r (by omega)).2
    have et := pv_badt N hN em hrw4 hfm d (r + 1) (by omega) n2 (by omega)
    have eih := ih (r + 1) (by omega) n1 n2 (by omega) (by omega)
    have e7 : fx_it (lf_X3_hasBadNeighbours_2 N E S) (n1 + 1) (nI r) = fx_b1 (fx_it (lf_X3_hasBadNeighbours_12 N (nI r) E S) N (nI 0)) (fun t101 => fx_t3 t101 (some 0) (some 1) (fx_it (lf_X3_hasBadNeighbours_2 N E S) n1 (nI (r + 1)))) := by
      show lf_X3_hasBadNeighbours_2 N E S (nI r) _ = _
      generalize fx_it (lf_X3_hasBadNeighbours_2 N E S) n1 = rec
      unfold lf_X3_hasBadNeighbours_2 bd_X3_hasBadNeighbours_2
      rw [hrw, if_neg hne, nI_1]
      rfl
    have e8 : fx_it (lf_X8_isSpoilt_4 N M) (n2 + 1) (0, nI r) = fx_b1 (fx_it (lf_X8_isSpoilt_14 N (nI r) M) N (0, nI 0)) (fun x101 => fx_it (lf_X8_isSpoilt_4 N M) n2 (x101, nI (r + 1))) := by
      show lf_X8_isSpoilt_4 N M (0, nI r) _ = _
      generalize fx_it (lf_X8_isSpoilt_4 N M) n2 = rec
      unfold lf_X8_isSpoilt_4 bd_X8_isSpoilt_4
      dsimp only
      rw [em, if_neg hne, nI_1]
      rfl
    rw [e7, e8]
    rcases pv_badr N hI hR hS hrw hrw4 hfl (show r < rows by omega) (fl r) 0 (by omega) N N (by omega) (by omega) with ⟨t, ht, q1, q2⟩ | ⟨q1, q2⟩
    · rw [q1, q2, b1e, b1e, et]
      refine Or.inl ⟨t, ht, ?_, rfl⟩
      rcases (show t = 0 ∨ t = 1 by omega) with rfl | rfl <;> rfl
    · rw [q1, q2, b1e, b1e]
      exact eih
theorem pv_bad (N : Nat) (hN : 100 ≤ N) {E S M : St} (hI : pv_IO E) (hR : pv_RO E M) (hS : pv_RS S M) : ∃ b : Int32, (b = 0 ∨ b = 1) ∧ f_X3_hasBadNeighbours N E S = some b ∧ f_X8_isSpoilt N M = some b := by
  obtain ⟨i0, i1, i2, i3, i4, i5, i6, i7, i8⟩ := id hI
  obtain ⟨rows, erows, hrows⟩ := pv_num (b := 4) ⟨by omega, i0.2⟩
  have hfl : ∀ r, r < 4 → E.2 7 r = nI ((fun r => (E.2 7 r).toInt.toNat) r) ∧ (fun r => (E.2 7 r).toInt.toNat) r ≤ 6 := by
    intro r hr
    obtain ⟨f, ef, hf⟩ := pv_num (b := 6) ⟨(i7 r hr).1, by have := (i7 r hr).2; omega⟩
    dsimp only
    rw [ef, pv_nI _ (by omega)]
    exact ⟨by congr 1, by omega⟩
  rcases pv_bado N hN hI hR hS erows (by omega) hfl rows 0 (by omega) N N (by omega) (by omega) with ⟨t, ht, q1, q2⟩ | ⟨q1, q2⟩
  · refine ⟨1, Or.inr rfl, ?_, ?_⟩
    · unfold f_X3_hasBadNeighbours
      rw [show (0 : Int32) = nI 0 from rfl, q1, b1e]
      rcases (show t = 0 ∨ t = 1 by omega) with rfl | rfl <;> rfl
    · unfold f_X8_isSpoilt
      rw [show (((0 : Int32), (0 : Int32)) : Int32 × Int32) = (0, nI 0) from rfl, q2]
      rfl
  · refine ⟨0, Or.inl rfl, ?_, ?_⟩
    · unfold f_X3_hasBadNeighbours
      rw [show (0 : Int32) = nI 0 from rfl, q1]
      rfl
    · unfold f_X8_isSpoilt
      rw [show (((0 : Int32), (0 : Int32)) : Int32 × Int32) = (0, nI 0) from rfl, q2]
      rfl
