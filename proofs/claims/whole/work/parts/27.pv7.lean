theorem op_hot (N : Nat) (hN : 2000 ≤ N) {O S T P M : St} (D E B : St) (hI : pv_I O S T P) (hR : pv_R O S T P M) (x1 : Int32) : ∃ (r : Int32), f_X7_hot N O S T P D E B x1 = some r ∧ f_X8_hot N M x1 = some r := by
  obtain ⟨⟨i0, i1, i2, i3, i4, i5, i6, i7, i8⟩, hI2⟩ := id hI
  obtain ⟨⟨r0, r1, r2, r3, r4, r5, r6, r12, r13, r14, r15⟩, hR2⟩ := id hR
  unfold f_X7_hot f_X8_hot
  simp only [b1e, pv_if, pv_within, pv_in, t32_0, t32_99, t64_0, t64_99]
  by_cases h1 : 0 ≤ x1.toInt ∧ x1.toInt ≤ 99
  · rw [if_pos h1, if_pos h1]
    obtain ⟨b, rfl, hb⟩ := pv_num h1
    obtain ⟨h, eh, hh⟩ := pv_num i2
    obtain ⟨c, ec, hc⟩ := pv_num i3
    rw [lte, r2, eh, ec]
    have ec8 : M.1 3 = nI c := by rw [r3, ec]
    have eov : (nI h - nI b).toInt = (h : Int) - b := by
      rw [pv_sub (by rw [pv_nI _ (by omega), pv_nI _ (by omega)]; omega) (by rw [pv_nI _ (by omega), pv_nI _ (by omega)]; omega), pv_nI _ (by omega), pv_nI _ (by omega)]
    by_cases hlt : h < b
    · rw [if_neg (by rw [Int32.le_iff_toInt_le, eov, t32_0]; omega)]
      have hr := pv_run (b := lf_X8_hot_22 N (nI b) M) (fun _ => (nI h, nI 0)) 0 (nI h, nI 0) (fun i hi => by omega) (fun rec => by
        unfold lf_X8_hot_22 bd_X8_hot_22
        dsimp only
        rw [if_pos ((pv_lt (by omega) (by omega)).mpr hlt)]) N 0 (by omega) (by omega)
      rw [show ((nI h, (0 : Int32)) : Int32 × Int32) = (nI h, nI 0) from rfl, hr, b2e, if_neg (fun z => by have := (pv_le (by omega) (by omega)).mp z; omega)]
      exact ⟨_, rfl, rfl⟩
    · rw [if_pos (by rw [Int32.le_iff_toInt_le, eov, t32_0]; omega)]
      by_cases hb0 : b = 0
      · subst hb0
        rw [if_pos (show nI 0 = (0 : Int32) from rfl)]
        obtain ⟨r, ⟨u, hu, hu2⟩, he⟩ := pv_it (b := lf_X8_hot_22 N (nI 0) M) (fun s => ∃ u : Nat, s.1 = nI u ∧ u ≤ 99) (fun s => s.1.toNatClampNeg) (fun r : Int32 × Int32 => ∃ u : Nat, r.1 = nI u ∧ u ≤ 99) (by
          rintro ⟨s1, s2⟩ ⟨u, e1, hu⟩
          dsimp only at e1
          subst e1
          unfold lf_X8_hot_22 bd_X8_hot_22
          dsimp only
          have n1 : ¬ nI u < nI 0 := fun z => by have := (pv_lt (by omega) (by omega)).mp z; omega
          rw [ec8]
          by_cases hc0 : c = 0
          · subst hc0
            exact Or.inl ⟨(nI u, s2), ⟨u, rfl, hu⟩, fun rec => by rw [if_neg n1, if_pos (by decide)]⟩
          · have n2 : ¬ nI c ≤ 0 := fun z => by have := (pv_le (b := 0) (by omega) (by omega)).mp z; omega
            by_cases hu0 : u = 0
            · subst hu0
              exact Or.inl ⟨(nI 0, s2), ⟨0, rfl, hu⟩, fun rec => by rw [if_neg n1, if_neg n2, if_pos (by decide)]⟩
            · have n3 : ¬ nI u ≤ 0 := fun z => by have := (pv_le (b := 0) (by omega) (by omega)).mp z; omega
              by_cases huc : u ≤ c
              · refine Or.inr ⟨((0 : Int32), s2 + 1), ⟨0, rfl, by omega⟩, ?_, fun rec => by rw [if_neg n1, if_neg n2, if_neg n3, if_pos ((pv_le (by omega) (by omega)).mpr huc), lte]⟩
                dsimp only
                rw [nI_clamp (by omega)]
                show 0 < u; omega
              · refine Or.inr ⟨(nI (u - c), s2 + 1), ⟨u - c, rfl, by omega⟩, ?_, fun rec => by rw [if_neg n1, if_neg n2, if_neg n3, if_neg (fun z => huc ((pv_le (by omega) (by omega)).mp z)), lte, lte, pk_sub (by omega)]⟩
                dsimp only
                rw [nI_clamp (by omega), nI_clamp (by omega)]; omega) N (nI h, (0 : Int32)) ⟨h, rfl, by omega⟩ (by dsimp only; rw [nI_clamp (by omega)]; omega)
        obtain ⟨q1, q2⟩ := r
        dsimp only at hu
        subst hu
        rw [he, b2e, if_pos ((pv_le (a := 0) (by omega) (by omega)).mpr (by omega))]
        exact ⟨_, rfl, rfl⟩
      · rw [if_neg (show ¬ nI b = (0 : Int32) from fun z => hb0 ((pv_eq (b := 0) (by omega) (by omega)).mp z))]
        by_cases hc0 : c = 0
        · subst hc0
          rw [if_neg (by decide)]
          have hr := pv_run (b := lf_X8_hot_22 N (nI b) M) (fun _ => (nI h, nI 0)) 0 (nI h, nI 0) (fun i hi => by omega) (fun rec => by
            unfold lf_X8_hot_22 bd_X8_hot_22
            dsimp only
            rw [if_neg (fun z => hlt ((pv_lt (by omega) (by omega)).mp z)), ec8, if_pos (by decide)]) N 0 (by omega) (by omega)
          rw [show ((nI h, (0 : Int32)) : Int32 × Int32) = (nI h, nI 0) from rfl, hr, b2e, if_pos ((pv_le (by omega) (by omega)).mpr (by omega))]
          exact ⟨_, rfl, rfl⟩
        · have hcp : 0 < c := by omega
          rw [if_pos (show (0 : Int32) < nI c from (pv_lt (a := 0) (by omega) (by omega)).mpr hcp)]
          unfold fx_nz
          rw [if_neg (show ¬ nI c = (0 : Int32) from fun z => hc0 ((pv_eq (b := 0) (by omega) (by omega)).mp z)), pk_sub (by omega), pk_div (by omega) hcp (by omega), nI_1]
          have n2 : ¬ nI c ≤ 0 := fun z => by have := (pv_le (b := 0) (by omega) (by omega)).mp z; omega
          have hdm := Nat.div_add_mod (h - b) c
          have hml := Nat.mod_lt (h - b) hcp
          generalize hk : (h - b) / c = k at hdm ⊢
          have hk2 : k ≤ 99 := by rw [← hk]; exact Nat.le_trans (Nat.div_le_self _ _) (by omega)
          have hr := pv_run (b := lf_X8_hot_22 N (nI b) M) (fun i => (nI (h - c * i), nI i)) (k + 1) (nI (h - c * (k + 1)), nI (k + 1)) (fun i hi rec => by
            have hci : c * i ≤ c * k := Nat.mul_le_mul_left c (by omega)
            unfold lf_X8_hot_22 bd_X8_hot_22
            dsimp only
            rw [if_neg (fun z => by have := (pv_lt (by omega) (by omega)).mp z; omega), ec8, if_neg n2, if_neg (fun z => by have := (pv_le (b := 0) (by omega) (by omega)).mp z; omega)]
            by_cases hz : h - c * i ≤ c
            · rw [if_pos ((pv_le (by omega) (by omega)).mpr hz), lte, nI_1, show h - c * (i + 1) = 0 by rw [Nat.mul_succ]; omega]; rfl
            · rw [if_neg (fun z => hz ((pv_le (by omega) (by omega)).mp z)), lte, lte, nI_1, pk_sub (by omega), show h - c * i - c = h - c * (i + 1) by rw [Nat.mul_succ]; omega]) (fun rec => by
            unfold lf_X8_hot_22 bd_X8_hot_22
            dsimp only
            rw [if_pos ((pv_lt (by omega) (by omega)).mpr (by rw [Nat.mul_succ]; omega))]) N 0 (by omega) (by omega)
          rw [show ((nI h, (0 : Int32)) : Int32 × Int32) = (nI (h - c * 0), nI 0) by rw [Nat.mul_zero, Nat.sub_zero]; rfl, hr, b2e, if_neg (fun z => by have := (pv_le (by omega) (by omega)).mp z; rw [Nat.mul_succ] at this; omega)]
          exact ⟨_, rfl, rfl⟩
  · rw [if_neg h1, if_neg h1]; exact ⟨_, rfl, rfl⟩
/-- it can be ripe: the first minute comes before the first past -/
def pv_can (h c L nd be : Nat) : Prop := ∃ f1 f2, pv_F (h - L) c nd f1 ∧ pv_F (h - L) c (nd + be + 1) f2 ∧ f1 < f2
theorem pv_can_iff {h c L nd be f1 f2 : Nat} (F1 : pv_F (h - L) c nd f1) (F2 : pv_F (h - L) c (nd + be + 1) f2) : pv_can h c L nd be ↔ f1 < f2 := by
  constructor
  · rintro ⟨g1, g2, G1, G2, h⟩
    rw [F1.uniq G1, F2.uniq G2]; exact h
  · exact fun h => ⟨f1, f2, F1, F2, h⟩
/-- a sort can be ripe in some place of the oven, if it is h hot -/
def pv_some (O S : St) (h : Nat) (k n : Nat) : Prop := ∃ p, p < n ∧ ∃ c L nd be : Nat, O.1 3 = nI c ∧ O.2 6 p = nI L ∧ S.2 1 k = nI nd ∧ S.2 2 k = nI be ∧ c ≤ 9 ∧ L ≤ 9 ∧ nd ≤ 500 ∧ be ≤ 500 ∧ pv_can h c L nd be
theorem pv_some_at {O S : St} {h k p c L nd be : Nat} (ec : O.1 3 = nI c) (eL : O.2 6 p = nI L) (en : S.2 1 k = nI nd) (eb : S.2 2 k = nI be) (hc : c ≤ 9) (hL : L ≤ 9) (hn : nd ≤ 500) (hb : be ≤ 500) : pv_some O S h k (p + 1) ↔ (pv_some O S h k p ∨ pv_can h c L nd be) := by
  constructor
  · rintro ⟨q, hq, c', L', nd', be', e1, e2, e3, e4, l1, l2, l3, l4, hcan⟩
    by_cases e : q = p
    · subst e
      rw [ec, pv_eq (by omega) (by omega)] at e1
      rw [eL, pv_eq (by omega) (by omega)] at e2
      rw [en, pv_eq (by omega) (by omega)] at e3
      rw [eb, pv_eq (by omega) (by omega)] at e4
      subst e1; subst e2; subst e3; subst e4
      exact Or.inr hcan
    · exact Or.inl ⟨q, by omega, c', L', nd', be', e1, e2, e3, e4, l1, l2, l3, l4, hcan⟩
  · rintro (⟨q, hq, r⟩ | hcan)
    · exact ⟨q, by omega, r⟩
    · exact ⟨p, by omega, c, L, nd, be, ec, eL, en, eb, hc, hL, hn, hb, hcan⟩
theorem pv_canBeRipe (N : Nat) (hN : 2000 ≤ N) {O S : St} (T P D E B : St) (hO : pv_IO O) (hS : pv_IS S) {k h : Nat} (hk : k < 6) (hh : h ≤ 99) {n : Nat} (en : O.1 1 = nI n) (hn : n ≤ 6) : ∃ v : Int32, f_X7_canBeRipe N O S T P D E B (nI k) (nI h) = some v ∧ ((v = 1 ∧ pv_some O S h k n) ∨ (v = 0 ∧ ¬ pv_some O S h k n)) := by
  obtain ⟨i0, i1, i2, i3, i4, i5, i6, i7, i8⟩ := hO
  obtain ⟨s0, s1, s2, s3⟩ := hS
  obtain ⟨c, ec, hc⟩ := pv_num i3
  obtain ⟨nd, end_, hnd⟩ := pv_num (s1 k hk)
  obtain ⟨be, ebe, hbe⟩ := pv_num (s2 k hk)
  unfold f_X7_canBeRipe
  obtain ⟨t, ht, he⟩ := pv_it (b := lf_X7_canBeRipe_2 N (nI k) (nI h) O S T P D E B) (fun s => ∃ p : Nat, s = nI p ∧ p ≤ n ∧ ¬ pv_some O S h k p) (fun s => n - s.toNatClampNeg) (fun t => (t = 0 ∧ pv_some O S h k n) ∨ (t = 1 ∧ ¬ pv_some O S h k n)) (by
    rintro s ⟨p, rfl, hp, hno⟩
    by_cases hpn : p = n
    · subst hpn
      refine Or.inl ⟨1, Or.inr ⟨rfl, hno⟩, fun rec => ?_⟩
      unfold lf_X7_canBeRipe_2 bd_X7_canBeRipe_2
      rw [en, if_pos (Int32.le_refl _)]
    · have hp6 : p < 6 := by omega
      obtain ⟨L, eL, hL⟩ := pv_num (i6 p hp6)
      have hx := pv_rate (h := h) (L := L) (by omega) (by omega)
      obtain ⟨f1, q1, F1⟩ := pv_firstMinute N (by omega) (a := h - L) (c := c) (v := nd) (by omega) hx (by omega) (by omega)
      obtain ⟨f2, q2, F2⟩ := pv_firstMinute N (by omega) (a := h - L) (c := c) (v := nd + be + 1) (by omega) hx (by omega) (by omega)
      have hsome := pv_some_at (h := h) ec eL end_ ebe (by omega) (by omega) (by omega) (by omega)
      have hcan := pv_can_iff F1 F2
      have hne : ¬ nI n ≤ nI p := fun z => by have := (pv_le (by omega) (by omega)).mp z; omega
      obtain ⟨g1, g2, -⟩ := F1
      obtain ⟨g3, g4, -⟩ := F2
      have hstep : ∀ rec : Int32 → Option Nat, lf_X7_canBeRipe_2 N (nI k) (nI h) O S T P D E B (nI p) rec = if nI f2 ≤ nI f1 then rec (nI (p + 1)) else some 0 := by
        intro rec
        unfold lf_X7_canBeRipe_2 bd_X7_canBeRipe_2
        rw [en, if_neg hne, pv_aldn hp6 (by omega), lte, pv_aldn hk (by omega), eL, ec, end_, q1, b1e, pv_burntFrom N hk end_ ebe, b1e, q2, b1e, lte, nI_1]
      by_cases hf : f1 < f2
      · refine Or.inl ⟨0, Or.inl ⟨rfl, ?_⟩, fun rec => by rw [hstep, if_neg (fun z => by have := (pv_le (by omega) (by omega)).mp z; omega)]⟩
        obtain ⟨q, hq, r⟩ := hsome.mpr (Or.inr (hcan.mpr hf))
        exact ⟨q, by omega, r⟩
      · refine Or.inr ⟨nI (p + 1), ⟨p + 1, rfl, by omega, fun z => (hsome.mp z).elim hno (fun z => hf (hcan.mp z))⟩, ?_, fun rec => by rw [hstep, if_pos ((pv_le (by omega) (by omega)).mpr (by omega))]⟩
        rw [nI_clamp (by omega), nI_clamp (by omega)]; omega) N (0 : Int32) ⟨0, rfl, by omega, fun ⟨q, hq, _⟩ => by omega⟩ (by show n - 0 < N; omega)
  rw [he, b1e]
  rcases ht with ⟨rfl, h⟩ | ⟨rfl, h⟩
  · exact ⟨1, rfl, Or.inl ⟨rfl, h⟩⟩
  · exact ⟨0, rfl, Or.inr ⟨rfl, h⟩⟩
/-- the bits of still, both ways -/
theorem pv_bit_or (x b : Int32) : x ||| b ||| b = x ||| b := by rw [Int32.or_assoc, Int32.or_self]
theorem pv_still8in (N : Nat) (hN : 2000 ≤ N) {O S T P M M1 : St} (hI : pv_I O S T P) (hR : pv_R O S T P M) (hX : pv_X M M1) {k h n : Nat} (hk : k < 6) (hh : h ≤ 99) (en : O.1 1 = nI n) (hn : n ≤ 6) {x2 : Int32} (hx2 : (if (0 : Int32) ≤ x2 then some x2 else some (0 : Int32)) = some (nI h)) (x3 : Int32) : ∃ r : Int32 × St, (pv_X M r.2 ∧ ((pv_has (S.1 0) (nI k) ∧ pv_some O S h k n ∧ r.1 = x3 ||| ((1 : Int32) <<< (nI k &&& 31))) ∨ (¬ (pv_has (S.1 0) (nI k) ∧ pv_some O S h k n) ∧ r.1 = x3))) ∧ fx_it (lf_X8_still_42 N x2 (nI k)) N (x3, (0 : Int32), M1) = some r := by
  obtain ⟨⟨i0, i1, i2, i3, i4, i5, i6, i7, i8⟩, ⟨s0, s1, s2, s3⟩, hI3⟩ := id hI
  obtain ⟨c, ec, hc⟩ := pv_num i3
  obtain ⟨nd, end_, hnd⟩ := pv_num (s1 k hk)
  obtain ⟨be, ebe, hbe⟩ := pv_num (s2 k hk)
  have dec : Decidable (pv_has (S.1 0) (nI k)) := Classical.propDecidable _
  refine pv_it (b := lf_X8_still_42 N x2 (nI k)) (fun s => pv_X M s.2.2 ∧ ∃ p : Nat, s.2.1 = nI p ∧ p ≤ n ∧ (p = 0 ∨ pv_has (S.1 0) (nI k)) ∧ ((pv_some O S h k p ∧ s.1 = x3 ||| ((1 : Int32) <<< (nI k &&& 31))) ∨ (¬ pv_some O S h k p ∧ s.1 = x3))) (fun s => n - s.2.1.toNatClampNeg) _ ?_ N _ ⟨hX, 0, rfl, by omega, Or.inl rfl, Or.inr ⟨fun ⟨q, hq, _⟩ => by omega, rfl⟩⟩ (by show n - 0 < N; omega)
  rintro ⟨y3, y5, M2⟩ ⟨hX2, p, e5, hp, hps, hy⟩
  dsimp only at hX2 e5 hy
  subst e5
  have hR2 := hX2.R hR
  obtain ⟨⟨r0, r1, r2, r3, r4, r5, r6, r12, r13, r14, r15⟩, ⟨r7, r8, r9, r10, r11⟩, hR3⟩ := id hR2
  have dec2 : Decidable (pv_has (M2.1 7) (nI k)) := Classical.propDecidable _
  by_cases hpn : p = n
  · subst hpn
    refine Or.inl ⟨(y3, M2), ⟨hX2, ?_⟩, fun rec => ?_⟩
    · rcases hy with ⟨h1, h2⟩ | ⟨h1, h2⟩
      · rcases hps with hz | hz
        · subst hz
          obtain ⟨q, hq, _⟩ := h1
          omega
        · exact Or.inl ⟨hz, h1, h2⟩
      · exact Or.inr ⟨fun z => h1 z.2, h2⟩
    · unfold lf_X8_still_42 bd_X8_still_42
      dsimp only
      rw [r1, en, if_pos (Int32.le_refl _)]
  · have hne : ¬ nI n ≤ nI p := fun z => by have := (pv_le (by omega) (by omega)).mp z; omega
    by_cases hhas : pv_has (S.1 0) (nI k)
    · have hp6 : p < 6 := by omega
      obtain ⟨L, eL, hL⟩ := pv_num (i6 p hp6)
      have hx := pv_rate (h := h) (L := L) (by omega) (by omega)
      obtain ⟨f1, q1, F1⟩ := pv_firstMinute N (by omega) (a := h - L) (c := c) (v := nd) (by omega) hx (by omega) (by omega)
      obtain ⟨f2, q2, F2⟩ := pv_firstMinute N (by omega) (a := h - L) (c := c) (v := nd + be + 1) (by omega) hx (by omega) (by omega)
      have hfr := pv_findRipe N (by omega) (M := M2) hk hp6 (by rw [r8 k hk, end_]) (by rw [r9 k hk, ebe]) (by rw [r6 p hp6, eL]) (by rw [r3, ec]) (by omega) (by omega) (by omega) (by omega) (by omega) F1 F2
      have hsome := pv_some_at (h := h) ec eL end_ ebe (by omega) (by omega) (by omega) (by omega)
      have hcan := pv_can_iff F1 F2
      have hX3 : pv_X M (stI (stI M2 28 (pv_u f1 f2)) 29 (pv_w f1 f2)) := hX2.trans ((pv_X.I 28 _ (by omega)).trans (pv_X.I 29 _ (by omega)))
      have hstep : ∀ rec : Int32 × Int32 × St → Option (Int32 × St), lf_X8_still_42 N x2 (nI k) (y3, nI p, M2) rec = if pv_u f1 f2 ≤ 0 then rec (y3, nI (p + 1), stI (stI M2 28 (pv_u f1 f2)) 29 (pv_w f1 f2)) else rec (y3 ||| ((1 : Int32) <<< (nI k &&& 31)), nI (p + 1), stI (stI M2 28 (pv_u f1 f2)) 29 (pv_w f1 f2)) := by
        intro rec
        unfold lf_X8_still_42 bd_X8_still_42
        dsimp only
        rw [r1, en, if_neg hne, pv_isSortE, b1e, pv_if, if_pos (show pv_has (M2.1 7) (nI k) by rw [r7]; exact hhas), hx2, b1e, hfr, b1e, lte, lte, lte, lte, nI_1, Int32.or_zero]
        rfl
      obtain ⟨g1, g2, -⟩ := F1
      obtain ⟨g3, g4, -⟩ := F2
      have mes : n - (nI (p + 1)).toNatClampNeg < n - (nI p).toNatClampNeg := by rw [nI_clamp (by omega), nI_clamp (by omega)]; omega
      by_cases hf : f1 < f2
      · have hu : ¬ pv_u f1 f2 ≤ 0 := by
          unfold pv_u
          rw [if_pos hf]
          exact fun z => by have := (pv_le (b := 0) (by omega) (by omega)).mp z; omega
        refine Or.inr ⟨(y3 ||| ((1 : Int32) <<< (nI k &&& 31)), nI (p + 1), stI (stI M2 28 (pv_u f1 f2)) 29 (pv_w f1 f2)), ⟨hX3, p + 1, rfl, by omega, Or.inr hhas, Or.inl ⟨hsome.mpr (Or.inr (hcan.mpr hf)), ?_⟩⟩, mes, fun rec => by rw [hstep, if_neg hu]⟩
        dsimp only
        rcases hy with ⟨h1, h2⟩ | ⟨h1, h2⟩
        · rw [h2, pv_bit_or]
        · rw [h2]
      · have hu : pv_u f1 f2 ≤ 0 := by
          unfold pv_u
          rw [if_neg hf]; decide
        refine Or.inr ⟨(y3, nI (p + 1), stI (stI M2 28 (pv_u f1 f2)) 29 (pv_w f1 f2)), ⟨hX3, p + 1, rfl, by omega, Or.inr hhas, ?_⟩, mes, fun rec => by rw [hstep, if_pos hu]⟩
        dsimp only
        rcases hy with ⟨h1, h2⟩ | ⟨h1, h2⟩
        · exact Or.inl ⟨hsome.mpr (Or.inl h1), h2⟩
        · exact Or.inr ⟨fun z => (hsome.mp z).elim h1 (fun z => hf (hcan.mp z)), h2⟩
    · have hp0 : p = 0 := hps.elim id (fun z => absurd z hhas)
      refine Or.inl ⟨(y3, M2), ⟨hX2, Or.inr ⟨fun z => hhas z.1, ?_⟩⟩, fun rec => ?_⟩
      · rcases hy with ⟨⟨q, hq, _⟩, h2⟩ | ⟨h1, h2⟩
        · omega
        · exact h2
      · unfold lf_X8_still_42 bd_X8_still_42
        dsimp only
        rw [r1, en, if_neg hne, pv_isSortE, b1e, pv_if, if_neg (show ¬ pv_has (M2.1 7) (nI k) by rw [r7]; exact hhas)]
theorem op_still (N : Nat) (hN : 2000 ≤ N) {O S T P M : St} (D E B : St) (hI : pv_I O S T P) (hR : pv_R O S T P M) (x1 : Int32) : ∃ (r : Int32) (M' : St), f_X7_still N O S T P D E B x1 = some r ∧ f_X8_still N M x1 = some (r, M') ∧ pv_X M M' := by
  obtain ⟨hO, hS, hI3⟩ := id hI
  obtain ⟨i0, i1, i2, i3, i4, i5, i6, i7, i8⟩ := id hO
  obtain ⟨⟨r0, r1, r2, r3, r4, r5, r6, r12, r13, r14, r15⟩, hR2⟩ := id hR
  unfold f_X7_still f_X8_still
  simp only [b1e, pv_if, pv_within, pv_in, t32_0, t32_999, t64_0, t64_999]
  by_cases h1 : 0 ≤ x1.toInt ∧ x1.toInt ≤ 999
  · rw [if_pos h1, if_pos h1]
    obtain ⟨m, rfl, hm⟩ := pv_num h1
    obtain ⟨h, eh, hh⟩ := pv_num i2
    obtain ⟨c, ec, hc⟩ := pv_num i3
    obtain ⟨n, en, hn⟩ := pv_num (b := 6) ⟨by omega, i1.2⟩
    have hmc : c * m ≤ 9 * 999 := Nat.mul_le_mul (by omega) (by omega)
    have eh2 : (nI h - nI (c * m)).toInt = (h : Int) - (c * m : Nat) := by
      rw [pv_sub (by rw [pv_nI _ (by omega), pv_nI _ (by omega)]; omega) (by rw [pv_nI _ (by omega), pv_nI _ (by omega)]; omega), pv_nI _ (by omega), pv_nI _ (by omega)]
    rw [lte, lte, r2, r3, eh, ec, pk_mul, pk_mul, Nat.mul_comm m c]
    have ea : (if (0 : Int32) < nI h - nI (c * m) then nI h - nI (c * m) else 0) = nI (h - c * m) := by
      by_cases z : c * m < h
      · rw [if_pos (by rw [Int32.lt_iff_toInt_lt, eh2, t32_0]; omega), pk_sub (by omega)]
      · rw [if_neg (by rw [Int32.lt_iff_toInt_lt, eh2, t32_0]; omega), show h - c * m = 0 by omega]; rfl
    have eb : (if (0 : Int32) ≤ nI h - nI (c * m) then some (nI h - nI (c * m)) else some (0 : Int32)) = some (nI (h - c * m)) := by
      by_cases z : c * m ≤ h
      · rw [if_pos (by rw [Int32.le_iff_toInt_le, eh2, t32_0]; omega), pk_sub (by omega)]
      · rw [if_neg (by rw [Int32.le_iff_toInt_le, eh2, t32_0]; omega), show h - c * m = 0 by omega]; rfl
    rw [ea]
    -- both loops over the sorts, side by side
    have both : ∀ (d k : Nat), k + d = 6 → ∀ (bits : Int32) (M1 : St), pv_X M M1 → ∀ n1 n2 : Nat, d < n1 → d < n2 → ∃ (r : Int32) (M' : St), fx_it (lf_X7_still_47 N (nI (h - c * m)) O S T P D E B) n1 (bits, nI k) = some r ∧ fx_it (lf_X8_still_32 N (nI h - nI (c * m))) n2 (bits, nI k, M1) = some (r, M') ∧ pv_X M M' := by
      intro d
      induction d with
      | zero =>
        intro k hk bits M1 hX n1 n2 h1 h2
        obtain ⟨n1, rfl⟩ : ∃ q, n1 = q + 1 := ⟨n1 - 1, by omega⟩
        obtain ⟨n2, rfl⟩ : ∃ q, n2 = q + 1 := ⟨n2 - 1, by omega⟩
        have hk6 : k = 6 := by omega
        subst hk6
        refine ⟨bits, M1, ?_, ?_, hX⟩
        · show lf_X7_still_47 N _ O S T P D E B (bits, nI 6) _ = _
          unfold lf_X7_still_47 bd_X7_still_47
          dsimp only
          rw [if_pos (by decide)]
        · show lf_X8_still_32 N _ (bits, nI 6, M1) _ = _
          unfold lf_X8_still_32 bd_X8_still_32
          dsimp only
          rw [if_pos (by decide)]
      | succ d ih =>
        intro k hk bits M1 hX n1 n2 h1 h2
        obtain ⟨n1, rfl⟩ : ∃ q, n1 = q + 1 := ⟨n1 - 1, by omega⟩
        obtain ⟨n2, rfl⟩ : ∃ q, n2 = q + 1 := ⟨n2 - 1, by omega⟩
        have hk6 : k < 6 := by omega
        have hne := pv_6le k hk6
        obtain ⟨r, ⟨hX2, hr⟩, he⟩ := pv_still8in N hN hI hR hX hk6 (show h - c * m ≤ 99 by omega) en (by omega) eb bits
        obtain ⟨v, hv, hv2⟩ := pv_canBeRipe N hN T P D E B hO hS hk6 (show h - c * m ≤ 99 by omega) en (by omega)
        have dec : Decidable (pv_has (S.1 0) (nI k)) := Classical.propDecidable _
        obtain ⟨rb, rM⟩ := r
        dsimp only at hX2 hr
        have e8 : fx_it (lf_X8_still_32 N (nI h - nI (c * m))) (n2 + 1) (bits, nI k, M1) = fx_it (lf_X8_still_32 N (nI h - nI (c * m))) n2 (rb, nI (k + 1), rM) := by
          show lf_X8_still_32 N _ (bits, nI k, M1) _ = _
          unfold lf_X8_still_32 bd_X8_still_32
          dsimp only
          rw [if_neg hne, he, b2e, lte, nI_1]
        have e7 : fx_it (lf_X7_still_47 N (nI (h - c * m)) O S T P D E B) (n1 + 1) (bits, nI k) = fx_it (lf_X7_still_47 N (nI (h - c * m)) O S T P D E B) n1 (rb, nI (k + 1)) := by
          show lf_X7_still_47 N _ O S T P D E B (bits, nI k) _ = _
          unfold lf_X7_still_47 bd_X7_still_47
          dsimp only
          rw [if_neg hne, pv_hasE, b1e, pv_if]
          by_cases hhas : pv_has (S.1 0) (nI k)
          · rw [if_pos hhas, hv, b1e]
            rcases hv2 with ⟨rfl, hs⟩ | ⟨rfl, hs⟩
            · rw [if_neg (by decide), lte, lte, nI_1]
              rcases hr with ⟨_, _, e⟩ | ⟨z, _⟩
              · rw [e]
              · exact absurd ⟨hhas, hs⟩ z
            · rw [if_pos rfl, lte, nI_1]
              rcases hr with ⟨_, z, _⟩ | ⟨_, e⟩
              · exact absurd z hs
              · rw [e]
          · rw [if_neg hhas, lte, nI_1]
            rcases hr with ⟨z, _⟩ | ⟨_, e⟩
            · exact absurd z hhas
            · rw [e]
        obtain ⟨r, M', q1, q2, q3⟩ := ih (k + 1) (by omega) rb rM hX2 n1 n2 (by omega) (by omega)
        exact ⟨r, M', e7.trans q1, e8.trans q2, q3⟩
    obtain ⟨r, M', q1, q2, q3⟩ := both 6 0 (by omega) 0 M (pv_X.rf M) N N (by omega) (by omega)
    rw [show ((0 : Int32), (0 : Int32)) = ((0 : Int32), nI 0) from rfl, q1, b1e, show (((0 : Int32), (0 : Int32), M) : Int32 × Int32 × St) = ((0 : Int32), nI 0, M) from rfl, q2, b2e]
    exact ⟨r, M', rfl, rfl, q3⟩
  · rw [if_neg h1, if_neg h1]; exact ⟨_, _, rfl, rfl, pv_X.rf M⟩
