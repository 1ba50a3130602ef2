/-! TWO ROWS: all pairs -/
theorem pv_Rl.skip {k : Nat} {B : St} {p0 p1 p2 : Int32} (h : pv_Rl k B (p0, p1, p2, nI k)) (hk : k ≠ 0) : pv_Rl (k + 1) B (p0, p1, p2, nI (k + 1)) := by
  obtain ⟨e0, h1, -⟩ := h
  rcases h1 with ⟨h1, -⟩ | h1
  · exact absurd h1 hk
  · exact ⟨e0, Or.inr h1, rfl⟩
/-- what the sets have given -/
def pv_L2 (A m : Nat) (g : Nat → Nat) (B M : St) : Prop := (∀ y, y < A → B.2 9 y = M.2 39 y ∧ pv_n6 (B.2 9 y) ∧ B.2 10 y = nI (pv_ws g y m)) ∧ 0 ≤ (B.2 9 0).toInt
theorem pv_n6_lt {x : Int32} (h : pv_n6 x) : (x < 0) ↔ x = -6 := by
  rcases h with rfl | h
  · exact ⟨fun _ => rfl, fun _ => by decide⟩
  · refine ⟨fun z => ?_, fun z => by subst z; decide⟩
    rw [Int32.lt_iff_toInt_lt, t32_0] at z
    omega
theorem pv_pair (N : Nat) (hN : 100 ≤ N) {S B1 M : St} {A a b m k : Nat} {kd wv : Nat → Nat} (x2 : Int32) (hA : A ≤ 16) (ha : a < A) (hb : b < A) (hk : k = a * A + b) (em : M.1 31 = nI m) (hm : m ≤ 4) (hkd : ∀ j, j < m → M.2 30 j = nI (kd j) ∧ kd j < 6) (hw : ∀ q, q < 6 → M.2 10 q = nI (wv q) ∧ wv q ≤ 99) (hL : pv_L2 A m (fun j => wv (kd j)) B1 M) {s : Int32 × Int32 × Int32 × Int32} (hR : pv_Rl k B1 s) : ∃ B2 q, (∀ rec, lf_X1_shareOut_52 N (nI A) (nI a) S (nI b, B1) rec = rec (nI (b + 1), B2)) ∧ pv_YK B1 B2 ∧ pv_Rl (k + 1) B2 q ∧ (∀ rec, lf_X8_two_114 N x2 (nI A) M s rec = rec q) := by
  obtain ⟨p0, p1, p2, p3⟩ := s
  have e3 : p3 = nI k := hR.2.2
  subst e3
  have hkA : k < A * A := by
    rw [hk]
    have : (a + 1) * A ≤ A * A := Nat.mul_le_mul_right A (by omega)
    rw [Nat.add_mul, Nat.one_mul] at this
    omega
  have hAA : A * A ≤ 16 * 16 := Nat.mul_le_mul hA hA
  have kd1 : k / A = a := by
    rw [hk, Nat.mul_comm, Nat.mul_add_div (by omega), Nat.div_eq_of_lt hb, Nat.add_zero]
  have kr1 : k % A = b := by
    rw [hk, Nat.mul_comm, Nat.mul_add_mod, Nat.mod_eq_of_lt hb]
  obtain ⟨hL1, hL0⟩ := hL
  obtain ⟨la1, la2, la3⟩ := hL1 a ha
  obtain ⟨lb1, lb2, lb3⟩ := hL1 b hb
  have ra : ∀ {ρ : Type} (f : Int32 → Option ρ), fx_ald 16 (M.2 39) (nI a) f = f (B1.2 9 a) := fun f => by rw [pv_aldn (by omega) (by omega), la1]
  have rb : ∀ {ρ : Type} (f : Int32 → Option ρ), fx_ald 16 (M.2 39) (nI b) f = f (B1.2 9 b) := fun f => by rw [pv_aldn (by omega) (by omega), lb1]
  have rnz : ∀ {ρ : Type} (f : Option ρ), fx_nz (nI A) f = f := fun f => by
    unfold fx_nz
    rw [if_neg (nI_ne0 (by omega) (by omega))]
  have hdv : nI k / nI A = nI a := by rw [pk_div (by omega) (by omega) (by omega), kd1]
  have hrm : nI k - nI a * nI A = nI b := by rw [← hdv, pk_rem (by omega) (by omega) (by omega), kr1]
  have r8 : ∀ rec, lf_X8_two_114 N x2 (nI A) M (p0, p1, p2, nI k) rec = (if (nI a &&& nI b) = 0 then (if B1.2 9 a < 0 then rec (p0, p1, p2, nI (k + 1)) else (if B1.2 9 b < 0 then rec (p0, p1, p2, nI (k + 1)) else fx_b1 (f_X8_worthOf N M (nI a ||| nI b)) (fun v108 => fx_b1 ((if v108 = p0 then (some (1 : Int32)) else (some (0 : Int32))) : Option (Int32)) (fun v109 => fx_b1 ((if B1.2 9 a < p1 then (some (1 : Int32)) else (if B1.2 9 a = p1 then (if p2 ≤ B1.2 9 b then (some (0 : Int32)) else (some (1 : Int32))) else (some (0 : Int32)))) : Option (Int32)) (fun v112 => (if p0 < v108 then rec (v108, B1.2 9 a, B1.2 9 b, nI (k + 1)) else (if v109 = 0 then rec (p0, p1, p2, nI (k + 1)) else (if v112 = 0 then rec (p0, p1, p2, nI (k + 1)) else rec (v108, B1.2 9 a, B1.2 9 b, nI (k + 1)))))))))) else rec (p0, p1, p2, nI (k + 1))) := by
    intro rec
    unfold lf_X8_two_114 bd_X8_two_114
    dsimp only
    rw [pk_mul, if_neg (fun z => by have := (pv_le (by omega) (by omega)).mp z; omega)]
    simp only [rnz, lte, hdv, hrm, ra, rb, nI_1]
  have r7 : ∀ rec, lf_X1_shareOut_52 N (nI A) (nI a) S (nI b, B1) rec = (if (nI a &&& nI b) = 0 then (if B1.2 9 a = -6 then rec (nI (b + 1), B1) else (if B1.2 9 b = -6 then rec (nI (b + 1), B1) else fx_b1 (f_X1_keepBetter N B1 (B1.2 10 a + B1.2 10 b) (B1.2 9 a) (B1.2 9 b)) (fun S110 => rec (nI (b + 1), S110)))) else rec (nI (b + 1), B1)) := by
    intro rec
    unfold lf_X1_shareOut_52 bd_X1_shareOut_52
    dsimp only
    rw [if_neg (fun z => by have := (pv_le (by omega) (by omega)).mp z; omega)]
    have qa : ∀ {ρ : Type} (c : Nat) (f : Int32 → Option ρ), fx_ald 16 (B1.2 c) (nI a) f = f (B1.2 c a) := fun c f => by rw [pv_aldn (by omega) (by omega)]
    have qb : ∀ {ρ : Type} (c : Nat) (f : Int32 → Option ρ), fx_ald 16 (B1.2 c) (nI b) f = f (B1.2 c b) := fun c f => by rw [pv_aldn (by omega) (by omega)]
    simp only [qa, qb, lte, nI_1]
  have hkz : k = 0 → a = 0 ∧ b = 0 := by
    intro z
    rw [z] at kd1 kr1
    rw [Nat.zero_div] at kd1
    rw [Nat.zero_mod] at kr1
    exact ⟨kd1.symm, kr1.symm⟩
  have sk : k ≠ 0 → (∀ rec, lf_X1_shareOut_52 N (nI A) (nI a) S (nI b, B1) rec = rec (nI (b + 1), B1)) → (∀ rec, lf_X8_two_114 N x2 (nI A) M (p0, p1, p2, nI k) rec = rec (p0, p1, p2, nI (k + 1))) → ∃ B2 q, (∀ rec, lf_X1_shareOut_52 N (nI A) (nI a) S (nI b, B1) rec = rec (nI (b + 1), B2)) ∧ pv_YK B1 B2 ∧ pv_Rl (k + 1) B2 q ∧ (∀ rec, lf_X8_two_114 N x2 (nI A) M (p0, p1, p2, nI k) rec = rec q) := fun z h1 h2 => ⟨B1, _, h1, fun _ => rfl, hR.skip z, h2⟩
  by_cases c1 : (nI a &&& nI b) = 0
  · by_cases c2 : B1.2 9 a = -6
    · refine sk (fun z => ?_) (fun rec => by rw [r7, if_pos c1, if_pos c2]) (fun rec => by rw [r8, if_pos c1, if_pos ((pv_n6_lt la2).mpr c2)])
      rw [(hkz z).1] at c2
      rw [c2] at hL0
      exact absurd hL0 (by decide)
    · by_cases c3 : B1.2 9 b = -6
      · refine sk (fun z => ?_) (fun rec => by rw [r7, if_pos c1, if_neg c2, if_pos c3]) (fun rec => by rw [r8, if_pos c1, if_neg (fun y => c2 ((pv_n6_lt la2).mp y)), if_pos ((pv_n6_lt lb2).mpr c3)])
        rw [(hkz z).2] at c3
        rw [c3] at hL0
        exact absurd hL0 (by decide)
      · have hsum : pv_ws (fun j => wv (kd j)) (a + b) m = pv_ws (fun j => wv (kd j)) a m + pv_ws (fun j => wv (kd j)) b m := pv_ws_add (by omega) (by omega) c1 m hm
        have hle := pv_ws_le (g := fun j => wv (kd j)) (a + b) m (fun j hj => (hw _ (hkd j hj).2).2)
        obtain ⟨B2, q0, q1, q2, g1, g2, g3, g4⟩ := pv_keep N (l0 := B1.2 9 a) (l1 := B1.2 9 b) hR (show pv_ws (fun j => wv (kd j)) (a + b) m ≤ 99999 by omega)
        refine ⟨B2, (q0, q1, q2, nI (k + 1)), fun rec => ?_, g2, g3, fun rec => ?_⟩
        · rw [r7, if_pos c1, if_neg c2, if_neg c3, la3, lb3, nI_add, ← hsum, g1, b1e]
        · rw [r8, if_pos c1, if_neg (fun y => c2 ((pv_n6_lt la2).mp y)), if_neg (fun y => c3 ((pv_n6_lt lb2).mp y)), (pv_disj a (by omega) b (by omega) c1).1, pv_worth8 N hN em (by omega) hkd (fun q hq => (hw q hq).1) (by omega), b1e]
          exact g4 rec
  · refine sk (fun z => ?_) (fun rec => by rw [r7, if_neg c1]) (fun rec => by rw [r8, if_neg c1])
    rw [(hkz z).1, (hkz z).2] at c1
    exact c1 (by decide)
theorem pv_pairs (N : Nat) (hN : 100 ≤ N) {S M : St} {A a m : Nat} {kd wv : Nat → Nat} (x2 : Int32) (hA : A ≤ 16) (ha : a < A) (em : M.1 31 = nI m) (hm : m ≤ 4) (hkd : ∀ j, j < m → M.2 30 j = nI (kd j) ∧ kd j < 6) (hw : ∀ q, q < 6 → M.2 10 q = nI (wv q) ∧ wv q ≤ 99) : ∀ (d b : Nat) (B1 : St) (s : Int32 × Int32 × Int32 × Int32), b + d = A → pv_L2 A m (fun j => wv (kd j)) B1 M → pv_Rl (a * A + b) B1 s → ∀ f1 f2 : Nat, d < f1 → ∃ B2 q, fx_it (lf_X1_shareOut_52 N (nI A) (nI a) S) f1 (nI b, B1) = some B2 ∧ pv_YK B1 B2 ∧ pv_Rl ((a + 1) * A) B2 q ∧ fx_it (lf_X8_two_114 N x2 (nI A) M) (f2 + d) s = fx_it (lf_X8_two_114 N x2 (nI A) M) f2 q := by
  intro d
  induction d with
  | zero =>
    intro b B1 s hb hL hR f1 f2 h1
    obtain ⟨f1, rfl⟩ : ∃ q, f1 = q + 1 := ⟨f1 - 1, by omega⟩
    have hb : b = A := by omega
    subst hb
    refine ⟨B1, s, ?_, fun _ => rfl, by rw [Nat.add_mul, Nat.one_mul]; exact hR, rfl⟩
    show lf_X1_shareOut_52 N (nI b) (nI a) S (nI b, B1) _ = _
    unfold lf_X1_shareOut_52 bd_X1_shareOut_52
    dsimp only
    rw [if_pos (Int32.le_refl _)]
  | succ d ih =>
    intro b B1 s hb hL hR f1 f2 h1
    obtain ⟨f1, rfl⟩ : ∃ q, f1 = q + 1 := ⟨f1 - 1, by omega⟩
    obtain ⟨B2, q, g1, g2, g3, g4⟩ := pv_pair N hN (S := S) x2 hA ha (show b < A by omega) rfl em hm hkd hw hL hR
    obtain ⟨B3, q2, c1, c2, c3, c4⟩ := ih (b + 1) B2 q (by omega) (by unfold pv_L2; rw [g2, g2]; exact hL) g3 f1 f2 (by omega)
    refine ⟨B3, q2, (g1 _).trans c1, fun k => (c2 k).trans (g2 k), c3, ?_⟩
    have e : f2 + (d + 1) = (f2 + d) + 1 := by omega
    rw [e, ← c4]
    exact g4 _
theorem pv_allp (N : Nat) (hN : 100 ≤ N) {S M : St} {A m : Nat} {kd wv : Nat → Nat} (x2 : Int32) (hA : A ≤ 16) (em : M.1 31 = nI m) (hm : m ≤ 4) (hkd : ∀ j, j < m → M.2 30 j = nI (kd j) ∧ kd j < 6) (hw : ∀ q, q < 6 → M.2 10 q = nI (wv q) ∧ wv q ≤ 99) : ∀ (d a : Nat) (B1 : St) (s : Int32 × Int32 × Int32 × Int32), a + d = A → pv_L2 A m (fun j => wv (kd j)) B1 M → pv_Rl (a * A) B1 s → ∀ f1 f2 : Nat, d < f1 → ∃ B2 q, fx_it (lf_X1_shareOut_43 N (nI A) S) f1 (nI a, B1) = some B2 ∧ pv_Rl (A * A) B2 q ∧ fx_it (lf_X8_two_114 N x2 (nI A) M) (f2 + d * A) s = fx_it (lf_X8_two_114 N x2 (nI A) M) f2 q := by
  intro d
  induction d with
  | zero =>
    intro a B1 s ha hL hR f1 f2 h1
    obtain ⟨f1, rfl⟩ : ∃ q, f1 = q + 1 := ⟨f1 - 1, by omega⟩
    have ha : a = A := by omega
    subst ha
    refine ⟨B1, s, ?_, hR, by rw [Nat.zero_mul]; rfl⟩
    show lf_X1_shareOut_43 N (nI a) S (nI a, B1) _ = _
    unfold lf_X1_shareOut_43 bd_X1_shareOut_43
    dsimp only
    rw [if_pos (Int32.le_refl _)]
  | succ d ih =>
    intro a B1 s ha hL hR f1 f2 h1
    obtain ⟨f1, rfl⟩ : ∃ q, f1 = q + 1 := ⟨f1 - 1, by omega⟩
    obtain ⟨B2, q, g1, g2, g3, g4⟩ := pv_pairs N hN (S := S) x2 hA (show a < A by omega) em hm hkd hw A 0 B1 s (by omega) hL hR N (f2 + d * A) (by omega)
    obtain ⟨B3, q2, c1, c2, c3⟩ := ih (a + 1) B2 q (by omega) (by unfold pv_L2; rw [g2, g2]; exact hL) g3 f1 f2 (by omega)
    refine ⟨B3, q2, ?_, c2, ?_⟩
    · show lf_X1_shareOut_43 N (nI A) S (nI a, B1) (fx_it (lf_X1_shareOut_43 N (nI A) S) f1) = _
      generalize fx_it (lf_X1_shareOut_43 N (nI A) S) f1 = rec at c1 ⊢
      unfold lf_X1_shareOut_43 bd_X1_shareOut_43
      dsimp only
      rw [if_neg (fun z => by have := (pv_le (by omega) (by omega)).mp z; omega), show ((0 : Int32), B1) = (nI 0, B1) from rfl, g1, b1e, lte, nI_1]
      exact c1
    · have e : f2 + (d + 1) * A = f2 + d * A + A := by rw [Nat.add_mul, Nat.one_mul]; omega
      rw [e, g4, c3]
theorem op_two (N : Nat) (hN : 2000 ≤ N) {O S T P M : St} (D E B : St) (hI : pv_I O S T P) (hR : pv_R O S T P M) (x1 x2 : Int32) : ∃ (r : Int32) (B' M' : St), f_X7_two N O S T P D E B x1 x2 = some (r, B') ∧ f_X8_two N M x1 x2 = some (r, M') ∧ pv_X M M' := by
  obtain ⟨hO, hS, hI3⟩ := id hI
  obtain ⟨hRO, hRS, hR3⟩ := id hR
  unfold f_X7_two f_X8_two f_X7_refuseLoaves f_X8_isLoaves
  simp only [pv_within, pv_in, b1e, pv_if, pv_bz, t32_0, t32_2, t64_0, t64_2, t32_666666, t64_666666]
  by_cases h1 : 0 ≤ x2.toInt ∧ x2.toInt ≤ 2
  · simp only [if_pos h1]
    by_cases h2 : 0 ≤ x1.toInt ∧ x1.toInt ≤ 666666
    · simp only [if_pos h2]
      obtain ⟨x, rfl, hx⟩ := pv_num h2
      obtain ⟨v, B1, M1, e7, e8, hY, hv⟩ := pv_read N (by omega) (M := M) B hRS (x := x) (by omega)
      rw [e7, e8, b2e, b2e]
      rcases hv with rfl | ⟨rfl, hRL⟩
      · rw [if_pos rfl, if_pos rfl, b2e, if_neg (by decide)]
        exact ⟨_, _, _, rfl, rfl, hY.X⟩
      · rw [if_neg (by decide), if_neg (by decide), b2e, if_pos rfl]
        obtain ⟨m, kd, hm, em7, em8, hk, hsrt⟩ := pv_RL_kd hRL
        have hR1 := hY.X.R hR
        obtain ⟨hRO1, hRS1, -⟩ := id hR1
        obtain ⟨i0, i1, i2, i3, i4, i5, i6, i7, i8⟩ := id hO
        obtain ⟨h, eh, hh⟩ := pv_num i2
        obtain ⟨pl, epl, hpl⟩ := pv_num (show 0 ≤ (O.1 1).toInt ∧ (O.1 1).toInt ≤ 6 by omega)
        obtain ⟨rw0, erw, hrw⟩ := pv_num (show 0 ≤ (O.1 0).toInt ∧ (O.1 0).toInt ≤ 4 by omega)
        have hrw1 : 1 ≤ rw0 := by
          have := i0.1
          rw [erw, pv_nI _ (by omega)] at this
          omega
        rw [em7, em8, show M1.1 0 = nI rw0 from hRO1.1.trans erw, erw]
        by_cases h4 : m ≤ 4
        · have h4' : nI m ≤ (4 : Int32) := (pv_le (b := 4) (by omega) (by omega)).mpr h4
          rw [if_pos h4', if_pos h4']
          by_cases hr1 : rw0 = 1
          · subst hr1
            rw [if_neg (by decide), if_pos (by decide)]
            exact ⟨_, _, _, rfl, rfl, hY.X⟩
          · rw [if_pos (show (2 : Int32) ≤ nI rw0 from (pv_le (a := 2) (by omega) (by omega)).mpr (by omega)), if_neg (show ¬ nI rw0 = 1 from fun z => hr1 ((pv_eq (b := 1) (by omega) (by omega)).mp z))]
            obtain ⟨B2, f1, f2, f3⟩ := pv_fore7 N hN hO hS (B := B1) (h := h) (kd := kd) (by omega) epl (by omega) em7 hm (fun j hj => ⟨(hk j hj).1, (hk j hj).2.2.1⟩)
            obtain ⟨M2, g1, g2, g3⟩ := pv_lay N hN hO hS hRO1 hRS1 (h := h) (by omega) epl (by omega)
            rw [show M1.1 2 = nI h from hRO1.2.2.1.trans eh, g1, b1e, eh, f1, b1e]
            have em9 : M2.1 31 = nI m := (g2.1 31 (by omega) (by omega)).trans em8
            have em6 : B2.1 0 = nI m := (f2.1 0).trans em7
            have h2p : 1 ≤ 2 ^ m := Nat.one_le_two_pow
            have h2x : 2 ^ m ≤ 2 ^ 4 := Nat.pow_le_pow_right (by omega) h4
            have hwv : ∀ k, k < 6 → S.2 3 k = nI ((S.2 3 k).toNatClampNeg) ∧ ((S.2 3 k).toNatClampNeg : Int) ≤ 99 := fun k hk => pv_cn (hS.2.2.2 k hk)
            have hC : pv_C2 O S h pl m kd (fun k => (S.2 3 k).toNatClampNeg) B2 M2 := by
              refine ⟨⟨hO, hS, by omega, h4, by omega⟩, ⟨(g2.1 1 (by omega) (by omega)).trans (hRO1.2.1.trans epl), em9, em6⟩, fun j hj => ?_, hsrt, fun k hk => ?_, f3, g3⟩
              · rw [f2.2 1 (by omega) (by omega), g2.2 30 (by omega) (by omega)]
                exact hk j hj
              · obtain ⟨a1, a2⟩ := hwv k hk
                refine ⟨a1, ?_, by show (S.2 3 k).toNatClampNeg ≤ 99; omega⟩
                rw [g2.2 10 (by omega) (by omega)]
                exact (hRS1.2.2.2.1 k hk).trans a1
            obtain ⟨B3, M3, c1, c2, c3⟩ := pv_sets N hN (A := 2 ^ m) x2 hC (by omega) (2 ^ m) 0 B2 M2 (by omega) ⟨rfl, ⟨rfl, rfl, rfl⟩, fun _ _ _ _ _ => rfl, fun _ _ _ => rfl, fun y hy => absurd hy (Nat.not_lt_zero _), fun z => absurd z (Nat.lt_irrefl _)⟩ N N (by omega) (by omega)
            obtain ⟨j1, -, j5, j6, j7, j8⟩ := c3
            have hkd3 : ∀ j, j < m → M3.2 30 j = nI (kd j) ∧ kd j < 6 := fun j hj => by
              rw [j6 30 (by omega) (by omega), g2.2 30 (by omega) (by omega)]
              exact ⟨(hk j hj).2.1, (hk j hj).2.2.1⟩
            obtain ⟨-, -, -, -, hw2, -, -⟩ := hC
            obtain ⟨B4, q, k1, k2, k3⟩ := pv_allp N (by omega) (S := S) (M := M3) (A := 2 ^ m) (m := m) (kd := kd) (wv := fun k => (S.2 3 k).toNatClampNeg) x2 (by omega) ((j5 31 (by omega) (by omega) (by omega) (by omega)).trans em9) h4 hkd3 (fun p hp => by
              rw [j6 10 (by omega) (by omega)]
              exact (hw2 p hp).2) (2 ^ m) 0 (stI B3 11 (-6)) ((-6 : Int32), (0 : Int32), (0 : Int32), (0 : Int32)) (by omega) ⟨j7, j8 (by omega)⟩ ⟨rfl, Or.inl ⟨by omega, rfl⟩, by rw [Nat.zero_mul]; rfl⟩ N (N - 2 ^ m * 2 ^ m) (by omega)
            have hsq : 2 ^ m * 2 ^ m ≤ 16 * 16 := Nat.mul_le_mul (by omega) (by omega)
            rw [show N - 2 ^ m * 2 ^ m + 2 ^ m * 2 ^ m = N by omega] at k3
            have so : f_X1_shareOut N B2 S (nI pl) = some B4 := by
              unfold f_X1_shareOut
              rw [em6, lte, if_neg (show ¬ (4 : Int32) < nI m from fun z => by have := (pv_lt (a := 4) (by omega) (by omega)).mp z; omega), pv_2m m (by omega), lte, show ((0 : Int32), B2) = (nI 0, B2) from rfl, c1, b1e, lte, show ((0 : Int32), stI B3 11 (-6)) = (nI 0, stI B3 11 (-6)) from rfl, k1, b1e]
            obtain ⟨q0, q1, q2, q3⟩ := q
            obtain ⟨k4, k5, k6⟩ := k2
            dsimp only at k4 k5 k6
            have k7 : 0 ≤ q0.toInt ∧ q1 = B4.1 12 ∧ q2 = B4.1 13 := by
              rcases k5 with ⟨z, -⟩ | z
              · have : 1 * 1 ≤ 2 ^ m * 2 ^ m := Nat.mul_le_mul h2p h2p
                omega
              · exact z
            have k8 : fx_it (lf_X8_two_114 N x2 (nI (2 ^ m)) M3) (N - 2 ^ m * 2 ^ m) (q0, q1, q2, q3) = some (q0, q1, q2) := by
              obtain ⟨f, hf⟩ : ∃ f, N - 2 ^ m * 2 ^ m = f + 1 := ⟨N - 2 ^ m * 2 ^ m - 1, by omega⟩
              rw [hf, k6]
              show lf_X8_two_114 N x2 (nI (2 ^ m)) M3 (q0, q1, q2, nI (2 ^ m * 2 ^ m)) _ = _
              unfold lf_X8_two_114 bd_X8_two_114
              dsimp only
              rw [pk_mul, if_pos (Int32.le_refl _)]
            rw [epl, so, b1e, em9, pv_2m m (by omega), lte, show ((0 : Int32), M2) = (nI 0, M2) from rfl, c2, b1e, k3, k8, b3e]
            have hX : pv_X M M3 := hY.X.trans (g2.X.trans ⟨fun k hk => ⟨j5 k (by omega) (by omega) (by omega) (by omega), j6 k (by omega) (by omega)⟩, j6 42 (by omega) (by omega), j6 43 (by omega) (by omega)⟩)
            rw [k4, k7.2.1, k7.2.2]
            by_cases z0 : x2 = 0
            · rw [if_pos z0, if_pos z0]; exact ⟨_, _, _, rfl, rfl, hX⟩
            · rw [if_neg z0, if_neg z0]
              by_cases z1 : x2 = 1
              · rw [if_pos z1, if_pos z1]; exact ⟨_, _, _, rfl, rfl, hX⟩
              · rw [if_neg z1, if_neg z1]; exact ⟨_, _, _, rfl, rfl, hX⟩
        · have h4' : ¬ nI m ≤ (4 : Int32) := fun z => h4 ((pv_le (b := 4) (by omega) (by omega)).mp z)
          rw [if_neg h4', if_neg h4']
          exact ⟨_, _, _, rfl, rfl, hY.X⟩
    · simp only [if_neg h2]
      rw [b2e, if_neg (by decide)]
      exact ⟨_, _, _, rfl, rfl, pv_X.rf M⟩
  · simp only [if_neg h1]
    rw [b2e, if_neg (by decide)]
    exact ⟨_, _, _, rfl, rfl, pv_X.rf M⟩
