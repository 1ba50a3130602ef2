/-! TWO ROWS: the sets -/
theorem pv_cnt3 {σ ρ : Type} {b : σ → (σ → Option ρ) → Option ρ} (n : Nat) (I : Nat → σ → Prop) (Q : ρ → Prop) (hs : ∀ i s, i < n → I i s → ∃ s', I (i + 1) s' ∧ ∀ rec, b s rec = rec s') (he : ∀ s, I n s → ∃ r, Q r ∧ ∀ rec, b s rec = some r) : ∀ (d i : Nat) (s : σ), i + d = n → I i s → ∀ f : Nat, d < f → ∃ r, Q r ∧ fx_it b f s = some r := by
  intro d
  induction d with
  | zero =>
    intro i s hi h f hf
    obtain ⟨f, rfl⟩ : ∃ q, f = q + 1 := ⟨f - 1, by omega⟩
    have hi : i = n := by omega
    subst hi
    obtain ⟨r, h1, h2⟩ := he s h
    exact ⟨r, h1, h2 _⟩
  | succ d ih =>
    intro i s hi h f hf
    obtain ⟨f, rfl⟩ : ∃ q, f = q + 1 := ⟨f - 1, by omega⟩
    obtain ⟨s', h1, h2⟩ := hs i s (by omega) h
    obtain ⟨r, h3, h4⟩ := ih (i + 1) s' (by omega) h1 f (by omega)
    exact ⟨r, h3, (h2 _).trans h4⟩
/-- the worth of a set -/
def pv_ws (g : Nat → Nat) (x : Nat) : Nat → Nat
  | 0 => 0
  | i + 1 => pv_ws g x i + (if x / 2 ^ i % 2 = 1 then g i else 0)
theorem pv_ws_s (g : Nat → Nat) (x i : Nat) : pv_ws g x (i + 1) = pv_ws g x i + (if x / 2 ^ i % 2 = 1 then g i else 0) := rfl
theorem pv_ws_le {g : Nat → Nat} (x : Nat) : ∀ i, (∀ j, j < i → g j ≤ 99) → pv_ws g x i ≤ 99 * i := by
  intro i
  induction i with
  | zero => intro _; exact Nat.le_refl _
  | succ i ih =>
    intro h
    have h1 := ih (fun j hj => h j (by omega))
    have h2 := h i (by omega)
    rw [pv_ws_s]
    by_cases z : x / 2 ^ i % 2 = 1
    · rw [if_pos z]; omega
    · rw [if_neg z]; omega
theorem pv_disj : ∀ a, a < 16 → ∀ b, b < 16 → (nI a &&& nI b) = 0 → nI a ||| nI b = nI (a + b) ∧ ∀ i, i < 4 → (a + b) / 2 ^ i % 2 = a / 2 ^ i % 2 + b / 2 ^ i % 2 := by decide +kernel
theorem pv_ws_add {g : Nat → Nat} {a b : Nat} (ha : a < 16) (hb : b < 16) (h : (nI a &&& nI b) = 0) : ∀ i, i ≤ 4 → pv_ws g (a + b) i = pv_ws g a i + pv_ws g b i := by
  intro i
  induction i with
  | zero => intro _; rfl
  | succ i ih =>
    intro hi
    have h1 := ih (by omega)
    have h2 := (pv_disj a ha b hb h).2 i (by omega)
    rw [pv_ws_s, pv_ws_s, pv_ws_s, h1]
    by_cases z1 : a / 2 ^ i % 2 = 1
    · by_cases z2 : b / 2 ^ i % 2 = 1
      · omega
      · rw [if_pos z1, if_neg z2, if_pos (by omega)]; omega
    · by_cases z2 : b / 2 ^ i % 2 = 1
      · rw [if_neg z1, if_pos z2, if_pos (by omega)]; omega
      · rw [if_neg z1, if_neg z2, if_neg (by omega)]; omega
theorem pv_worth8 (N : Nat) (hN : 100 ≤ N) {M : St} {m x : Nat} {kd wv : Nat → Nat} (em : M.1 31 = nI m) (hm : m ≤ 6) (hk : ∀ j, j < m → M.2 30 j = nI (kd j) ∧ kd j < 6) (hw : ∀ k, k < 6 → M.2 10 k = nI (wv k)) (hx : x < 64) : f_X8_worthOf N M (nI x) = some (nI (pv_ws (fun j => wv (kd j)) x m)) := by
  unfold f_X8_worthOf
  rw [show ((0 : Int32), (0 : Int32)) = (nI (pv_ws (fun j => wv (kd j)) x 0), nI 0) from rfl, pv_run (b := lf_X8_worthOf_4 N (nI x) M) (fun i => (nI (pv_ws (fun j => wv (kd j)) x i), nI i)) m (nI (pv_ws (fun j => wv (kd j)) x m)) (fun i hi rec => by
    unfold lf_X8_worthOf_4 bd_X8_worthOf_4
    dsimp only
    have hbt := pv_bit x i (by omega) (by omega)
    obtain ⟨k1, k2⟩ := hk i hi
    rw [em, if_neg (fun z => by have := (pv_le (by omega) (by omega)).mp z; omega), pv_ws_s]
    by_cases h : x / 2 ^ i % 2 = 1
    · rw [if_pos h, if_pos (hbt.mpr h), pv_aldn (by omega) (by omega), k1, pv_aldn k2 (by omega), hw _ k2, lte, lte, nI_add, nI_1]
    · rw [if_neg h, if_neg (fun z => h (hbt.mp z)), lte, lte, pv_zero, nI_add, nI_1]) (fun rec => by
    unfold lf_X8_worthOf_4 bd_X8_worthOf_4
    dsimp only
    rw [em, if_pos (Int32.le_refl _)]) N 0 (by omega) (by omega), b1e]
theorem pv_pick (N : Nat) (hN : 100 ≤ N) {S B : St} {m x : Nat} {kd wv : Nat → Nat} (x2 : Int32) (em : B.1 0 = nI m) (hm : m ≤ 6) (hk : ∀ j, j < m → B.2 1 j = nI (kd j) ∧ kd j < 6) (hw : ∀ k, k < 6 → S.2 3 k = nI (wv k)) (hx : x < 64) : ∃ B', fx_it (lf_X1_lookAtSet_9 N (nI x) x2 S) N ((0 : Int32), (0 : Int32), (0 : Int32), B) = some (nI (pv_sb kd x m).length, nI (pv_ws (fun j => wv (kd j)) x m), B') ∧ pv_rw (B'.2 4) (pv_sb kd x m) ∧ (∀ k, B'.1 k = B.1 k) ∧ ∀ k, k ≠ 4 → B'.2 k = B.2 k := by
  obtain ⟨r, ⟨q1, q2, q3, q4, q5⟩, q6⟩ := pv_cnt3 (b := lf_X1_lookAtSet_9 N (nI x) x2 S) m (fun i s => s.2.2.1 = nI i ∧ s.1 = nI (pv_sb kd x i).length ∧ s.2.1 = nI (pv_ws (fun j => wv (kd j)) x i) ∧ pv_rw (s.2.2.2.2 4) (pv_sb kd x i) ∧ (∀ k, s.2.2.2.1 k = B.1 k) ∧ ∀ k, k ≠ 4 → s.2.2.2.2 k = B.2 k) (fun r => r.1 = nI (pv_sb kd x m).length ∧ r.2.1 = nI (pv_ws (fun j => wv (kd j)) x m) ∧ pv_rw (r.2.2.2 4) (pv_sb kd x m) ∧ (∀ k, r.2.2.1 k = B.1 k) ∧ ∀ k, k ≠ 4 → r.2.2.2 k = B.2 k) (fun i s hi hI => by
    obtain ⟨s1, s2, s3, B1⟩ := s
    obtain ⟨e3, e1, e2, h4, h5, h6⟩ := hI
    dsimp only at e1 e2 e3 h4 h5 h6
    subst e1 e2 e3
    have hlen := pv_sb_len kd x i
    have hbt := pv_bit x i (by omega) (by omega)
    obtain ⟨k1, k2⟩ := hk i hi
    by_cases h : x / 2 ^ i % 2 = 1
    · refine ⟨(nI ((pv_sb kd x i).length + 1), nI (pv_ws (fun j => wv (kd j)) x i + wv (kd i)), nI (i + 1), stA B1 4 (upd (B1.2 4) (pv_sb kd x i).length (nI (kd i)))), ⟨rfl, ?_, ?_, ?_, h5, fun k a => ?_⟩, fun rec => ?_⟩
      · rw [pv_sb_s, if_pos h, List.length_append]; rfl
      · rw [pv_ws_s, if_pos h]
      · rw [pv_sb_s, if_pos h]; exact pv_rw_snoc h4
      · show (stA B1 4 _).2 k = _
        rw [stA_2, if_neg a]; exact h6 k a
      · unfold lf_X1_lookAtSet_9 bd_X1_lookAtSet_9
        dsimp only
        rw [h5 0, em, if_neg (fun z => by have := (pv_le (by omega) (by omega)).mp z; omega), if_pos (hbt.mpr h), pv_aldn (by omega) (by omega), h6 1 (by omega), k1, pv_astn (by omega) (by omega), pv_aldn (by omega) (by omega), stA_2, if_neg (by omega), h6 1 (by omega), k1, pv_aldn k2 (by omega), hw _ k2, lte, lte, lte, nI_add, nI_1, nI_1]
    · refine ⟨(nI (pv_sb kd x i).length, nI (pv_ws (fun j => wv (kd j)) x i), nI (i + 1), B1), ⟨rfl, ?_, ?_, ?_, h5, h6⟩, fun rec => ?_⟩
      · rw [pv_sb_s, if_neg h]
      · rw [pv_ws_s, if_neg h]; rfl
      · rw [pv_sb_s, if_neg h]; exact h4
      · unfold lf_X1_lookAtSet_9 bd_X1_lookAtSet_9
        dsimp only
        rw [h5 0, em, if_neg (fun z => by have := (pv_le (by omega) (by omega)).mp z; omega), if_neg (fun z => h (hbt.mp z)), lte, nI_1]) (fun s hI => by
    obtain ⟨s1, s2, s3, B1⟩ := s
    obtain ⟨e3, e1, e2, h4, h5, h6⟩ := hI
    dsimp only at e1 e2 e3 h4 h5 h6
    subst e1 e2 e3
    refine ⟨(nI (pv_sb kd x m).length, nI (pv_ws (fun j => wv (kd j)) x m), B1), ⟨rfl, rfl, h4, h5, h6⟩, fun rec => ?_⟩
    unfold lf_X1_lookAtSet_9 bd_X1_lookAtSet_9
    dsimp only
    rw [h5 0, em, if_pos (Int32.le_refl _)]) m 0 ((0 : Int32), (0 : Int32), (0 : Int32), B) (by omega) ⟨rfl, rfl, rfl, fun j hj => absurd hj (Nat.not_lt_zero _), fun _ => rfl, fun _ _ => rfl⟩ N (by omega)
  obtain ⟨r1, r2, r3⟩ := r
  dsimp only at q1 q2 q3 q4 q5
  subst q1 q2
  exact ⟨r3, q6, q3, q4, q5⟩
theorem pv_sb_0 (kd : Nat → Nat) : ∀ i, i ≤ 6 → pv_sb kd 0 i = [] := by
  intro i
  induction i with
  | zero => intro _; rfl
  | succ i ih =>
    intro hi
    rw [pv_sb_s, if_neg (by rw [Nat.zero_div]; decide), ih (by omega)]
/-- what stands while the sets are looked at -/
def pv_C2 (O S : St) (h pl m : Nat) (kd wv : Nat → Nat) (B M : St) : Prop := (pv_IO O ∧ pv_IS S ∧ h ≤ 99 ∧ m ≤ 4 ∧ pl ≤ 6) ∧ (M.1 1 = nI pl ∧ M.1 31 = nI m ∧ B.1 0 = nI m) ∧ (∀ j, j < m → B.2 1 j = nI (kd j) ∧ M.2 30 j = nI (kd j) ∧ kd j < 6 ∧ pv_has (S.1 0) (nI (kd j))) ∧ (∀ i j, i < j → j < m → kd i ≤ kd j) ∧ (∀ k, k < 6 → S.2 3 k = nI (wv k) ∧ M.2 10 k = nI (wv k) ∧ wv k ≤ 99) ∧ (∀ j p, j < m → p < m → p < pl → pv_g7 O S h B (kd j) p) ∧ (∀ k q, k < 6 → q < pl → pv_g8 O S h M k q)
def pv_J (m : Nat) (g : Nat → Nat) (B M : St) (x : Nat) (B1 M1 : St) : Prop := (B1.1 0 = B.1 0) ∧ (B1.2 1 = B.2 1 ∧ B1.2 2 = B.2 2 ∧ B1.2 3 = B.2 3) ∧ (∀ k, k ≠ 35 → k ≠ 36 → k ≠ 37 → k ≠ 38 → M1.1 k = M.1 k) ∧ (∀ k, k ≠ 34 → k ≠ 39 → M1.2 k = M.2 k) ∧ (∀ y, y < x → B1.2 9 y = M1.2 39 y ∧ pv_n6 (B1.2 9 y) ∧ B1.2 10 y = nI (pv_ws g y m)) ∧ (0 < x → 0 ≤ (B1.2 9 0).toInt)
theorem pv_set1 (N : Nat) (hN : 2000 ≤ N) {O S B M B1 M1 : St} {h pl m x : Nat} {kd wv : Nat → Nat} (hC : pv_C2 O S h pl m kd wv B M) (hJ : pv_J m (fun j => wv (kd j)) B M x B1 M1) (hx : x < 16) : ∃ B2 M2, f_X1_lookAtSet N B1 S (nI x) (nI pl) = some B2 ∧ (∀ k : St → Option St, fx_b1 (f_X8_goOrders N M1 (nI x)) (fun S101 => fx_ast 16 S101 39 (nI x) (S101.1 37) k) = k M2) ∧ pv_J m (fun j => wv (kd j)) B M (x + 1) B2 M2 := by
  obtain ⟨⟨hO, hS, hh, hm, hpl⟩, ⟨ep, em8, em7⟩, hk, hsrt, hw, h7, h8⟩ := hC
  obtain ⟨j1, ⟨j2, j3, j4⟩, j5, j6, j7, j8⟩ := hJ
  obtain ⟨Bp, p1, p2, p3, p4⟩ := pv_pick N (by omega) (S := S) (B := B1) (x := x) (kd := kd) (wv := wv) (nI pl) (j1.trans em7) (by omega) (fun j hj => ⟨by rw [j2]; exact (hk j hj).1, (hk j hj).2.2.1⟩) (fun k hk => (hw k hk).1) (by omega)
  have hlen := pv_sb_len kd x m
  obtain ⟨B3, M3, w, u1, u2, u3, u4, u5, u6, u7, u8, u9, u10, u11⟩ := pv_ord N hN (t1 := pv_t1 O S h) (t2 := pv_t2 O S h) (pl := pl) (m := m) (x := x) (kd := kd) (B := Bp) (M := M1) (by omega) hpl (by omega) ((j5 31 (by omega) (by omega) (by omega) (by omega)).trans em8) ((j5 1 (by omega) (by omega) (by omega) (by omega)).trans ep) (fun j hj => ⟨by rw [j6 30 (by omega) (by omega)]; exact (hk j hj).2.1, (hk j hj).2.2.1⟩) hsrt p2 (fun z => pv_TB_of hO hS (h := h) (pl := pl) hh (by omega) (fun j hj => (hk j hj).2.2) (fun j p a b c => by
    have := h7 j p a b c
    unfold pv_g7 at this ⊢
    rw [p4 2 (by omega), p4 3 (by omega), j3, j4]
    exact this) (fun k q a b hs => by
    have := h8 k q a b hs
    rw [j6 32 (by omega) (by omega), j6 33 (by omega) (by omega)]
    exact this) (pv_sb_mem kd _ m) hlen z)
  have n6 : pv_n6 (B3.1 6) := by
    rcases u8 with ⟨-, z⟩ | ⟨-, z⟩
    · exact Or.inl z
    · exact Or.inr z
  refine ⟨stA (stA B3 9 (upd (B3.2 9) x (B3.1 6))) 10 (upd (B3.2 10) x (nI (pv_ws (fun j => wv (kd j)) x m))), stA M3 39 (upd (M3.2 39) x (M3.1 37)), ?_, fun k => ?_, ?_⟩
  · unfold f_X1_lookAtSet
    rw [p1, b3e, u1, b1e, pv_astn hx (by omega), pv_astn hx (by omega), stA_2, if_neg (by omega)]
  · rw [u2, b1e, pv_astn hx (by omega)]
  · refine ⟨?_, ⟨?_, ?_, ?_⟩, fun k a b c d => ?_, fun k a b => ?_, fun y hy => ?_, fun _ => ?_⟩
    · show B3.1 0 = _
      rw [u9.1 0 (by omega) (by omega) (by omega), p3 0, j1]
    · rw [stA_2, if_neg (by omega), stA_2, if_neg (by omega), u9.2 1 (by omega), p4 1 (by omega), j2]
    · rw [stA_2, if_neg (by omega), stA_2, if_neg (by omega), u9.2 2 (by omega), p4 2 (by omega), j3]
    · rw [stA_2, if_neg (by omega), stA_2, if_neg (by omega), u9.2 3 (by omega), p4 3 (by omega), j4]
    · show M3.1 k = _
      rw [u10.1 k a b c d, j5 k a b c d]
    · rw [stA_2, if_neg b, u10.2 k a, j6 k a b]
    · rw [stA_2, if_neg (show ¬ 9 = 10 by omega), stA_2, if_pos rfl, stA_2, if_pos rfl, stA_2, if_pos rfl]
      by_cases e : y = x
      · subst e
        rw [pv_uself, pv_uself, pv_uself]
        exact ⟨u5, n6, rfl⟩
      · rw [pv_une e, pv_une e, pv_une e, u9.2 9 (by omega), u9.2 10 (by omega), p4 9 (by omega), p4 10 (by omega), u10.2 39 (by omega)]
        exact j7 y (by omega)
    · rw [stA_2, if_neg (show ¬ 9 = 10 by omega), stA_2, if_pos rfl]
      by_cases e : x = 0
      · subst e
        rw [pv_uself]
        have hw0 : 0 < w := u11.mpr (by
          rw [pv_sb_0 kd m (by omega)]
          exact ⟨Nat.zero_le _, [], List.Perm.refl _, 0, rfl⟩)
        rcases u8 with ⟨z, -⟩ | ⟨-, z⟩
        · omega
        · exact z
      · rw [pv_une (by omega), u9.2 9 (by omega), p4 9 (by omega)]
        exact j8 (by omega)
theorem pv_sets (N : Nat) (hN : 2000 ≤ N) {O S B M : St} {h pl m A : Nat} {kd wv : Nat → Nat} (x2 : Int32) (hC : pv_C2 O S h pl m kd wv B M) (hA : A ≤ 16) : ∀ (d x : Nat) (B1 M1 : St), x + d = A → pv_J m (fun j => wv (kd j)) B M x B1 M1 → ∀ f1 f2 : Nat, d < f1 → d < f2 → ∃ B2 M2, fx_it (lf_X1_shareOut_14 N (nI pl) (nI A) S) f1 (nI x, B1) = some B2 ∧ fx_it (lf_X8_two_72 N x2 (nI A)) f2 (nI x, M1) = some M2 ∧ pv_J m (fun j => wv (kd j)) B M A B2 M2 := by
  intro d
  induction d with
  | zero =>
    intro x B1 M1 hx hJ f1 f2 h1 h2
    obtain ⟨f1, rfl⟩ : ∃ q, f1 = q + 1 := ⟨f1 - 1, by omega⟩
    obtain ⟨f2, rfl⟩ : ∃ q, f2 = q + 1 := ⟨f2 - 1, by omega⟩
    have hx : x = A := by omega
    subst hx
    refine ⟨B1, M1, ?_, ?_, hJ⟩
    · show lf_X1_shareOut_14 N (nI pl) (nI x) S (nI x, B1) _ = _
      unfold lf_X1_shareOut_14 bd_X1_shareOut_14
      dsimp only
      rw [if_pos (Int32.le_refl _)]
    · show lf_X8_two_72 N x2 (nI x) (nI x, M1) _ = _
      unfold lf_X8_two_72 bd_X8_two_72
      dsimp only
      rw [if_pos (Int32.le_refl _)]
  | succ d ih =>
    intro x B1 M1 hx hJ f1 f2 h1 h2
    obtain ⟨f1, rfl⟩ : ∃ q, f1 = q + 1 := ⟨f1 - 1, by omega⟩
    obtain ⟨f2, rfl⟩ : ∃ q, f2 = q + 1 := ⟨f2 - 1, by omega⟩
    obtain ⟨B2, M2, a1, a2, a3⟩ := pv_set1 N hN hC hJ (show x < 16 by omega)
    obtain ⟨B3, M3, c1, c2, c3⟩ := ih (x + 1) B2 M2 (by omega) a3 f1 f2 (by omega) (by omega)
    refine ⟨B3, M3, ?_, ?_, c3⟩
    · show lf_X1_shareOut_14 N (nI pl) (nI A) S (nI x, B1) (fx_it (lf_X1_shareOut_14 N (nI pl) (nI A) S) f1) = _
      generalize fx_it (lf_X1_shareOut_14 N (nI pl) (nI A) S) f1 = rec at c1 ⊢
      unfold lf_X1_shareOut_14 bd_X1_shareOut_14
      dsimp only
      rw [if_neg (fun z => by have := (pv_le (by omega) (by omega)).mp z; omega), a1, b1e, lte, nI_1]
      exact c1
    · show lf_X8_two_72 N x2 (nI A) (nI x, M1) (fx_it (lf_X8_two_72 N x2 (nI A)) f2) = _
      generalize fx_it (lf_X8_two_72 N x2 (nI A)) f2 = rec at c2 ⊢
      unfold lf_X8_two_72 bd_X8_two_72
      dsimp only
      rw [if_neg (fun z => by have := (pv_le (by omega) (by omega)).mp z; omega), a2, lte, nI_1]
      exact c2
