/-! loaves laid by rising kinds, both ways -/
theorem pv_subneg (x : Int32) : x - 1 = x + (-1 : Int32) := Int32.sub_eq_add_neg x 1
/-- putting one in -/
theorem pv_ins {b : Int32 × St → (Int32 × St → Option (Int32 × St)) → Option (Int32 × St)} (c : Nat) (k : Int32) (hb : ∀ x S rec, b (x, S) rec = (if x ≤ 0 then (some (x, S)) else (fx_ald 6 (S.2 c) (x - (1 : Int32)) (fun v101 => (if v101 ≤ k then (some (x, S)) else (fx_ald 6 (S.2 c) (x - (1 : Int32)) (fun v102 => fx_ast 6 S c x v102 (fun S103 => fx_lt (x + (-1 : Int32)) (fun x104 => rec (x104, S103)))))))))) : ∀ (m : Nat) (S : St), m ≤ 5 → ∀ f : Nat, m < f → ∃ a G, a ≤ m ∧ fx_it b f (nI m, S) = some (nI a, stA S c G) ∧ (∀ j, j < a → G j = S.2 c j) ∧ (∀ j, a < j → j ≤ m → G j = S.2 c (j - 1)) ∧ (∀ j, a ≤ j → j < m → k < S.2 c j) ∧ (a = 0 ∨ S.2 c (a - 1) ≤ k) ∧ (∀ j, m < j → G j = S.2 c j) := by
  intro m
  induction m with
  | zero =>
    intro S hm f hf
    obtain ⟨f, rfl⟩ : ∃ q, f = q + 1 := ⟨f - 1, by omega⟩
    refine ⟨0, S.2 c, by omega, ?_, fun _ _ => rfl, fun j h1 h2 => by omega, fun j h1 h2 => by omega, Or.inl rfl, fun _ _ => rfl⟩
    show b (nI 0, S) _ = _
    rw [hb, if_pos (show nI 0 ≤ 0 by decide), stA_self]
  | succ m ih =>
    intro S hm f hf
    obtain ⟨f, rfl⟩ : ∃ q, f = q + 1 := ⟨f - 1, by omega⟩
    have hs : b (nI (m + 1), S) (fx_it b f) = if S.2 c m ≤ k then some (nI (m + 1), S) else fx_it b f (nI m, stA S c (upd (S.2 c) (m + 1) (S.2 c m))) := by
      rw [hb, if_neg (show ¬ nI (m + 1) ≤ 0 from fun z => by have := (pv_le (b := 0) (by omega) (by omega)).mp z; omega), pv_tw _ (by omega), Nat.add_sub_cancel, pv_aldn (by omega) (by omega), pv_aldn (by omega) (by omega), pv_astn (by omega) (by omega), lte, show nI (m + 1) + (-1 : Int32) = nI m by rw [← pv_subneg, pv_tw _ (by omega), Nat.add_sub_cancel]]
    by_cases h : S.2 c m ≤ k
    · refine ⟨m + 1, S.2 c, by omega, ?_, fun _ _ => rfl, fun j h1 h2 => by omega, fun j h1 h2 => by omega, Or.inr h, fun _ _ => rfl⟩
      show b (nI (m + 1), S) _ = _
      rw [hs, if_pos h, stA_self]
    · obtain ⟨a, G, h1, h2, h3, h4, h5, h6, h7⟩ := ih (stA S c (upd (S.2 c) (m + 1) (S.2 c m))) (by omega) f (by omega)
      have e : ∀ j, j ≤ m → (stA S c (upd (S.2 c) (m + 1) (S.2 c m))).2 c j = S.2 c j := fun j hj => by rw [stA_2, if_pos rfl, pv_une (by omega)]
      refine ⟨a, G, by omega, ?_, fun j hj => (h3 j hj).trans (e j (by omega)), fun j q1 q2 => ?_, fun j q1 q2 => ?_, ?_, fun j hj => ?_⟩
      · show b (nI (m + 1), S) _ = _
        rw [hs, if_neg h, h2, stA_same]
      · by_cases z : j = m + 1
        · subst z
          rw [h7 _ (by omega), stA_2, if_pos rfl, pv_uself]; rfl
        · rw [h4 j q1 (by omega), e _ (by omega)]
      · by_cases z : j = m
        · subst z
          rw [Int32.lt_iff_toInt_lt]
          rw [Int32.le_iff_toInt_le] at h
          omega
        · have := h5 j q1 (by omega)
          rw [e _ (by omega)] at this
          exact this
      · rcases h6 with h6 | h6
        · exact Or.inl h6
        · rw [e _ (by omega)] at h6
          exact Or.inr h6
      · rw [h7 j (by omega), stA_2, if_pos rfl, pv_une (by omega)]
def pv_srt (m : Nat) (F : Nat → Int32) : Prop := ∀ i j, i < j → j < m → (F i).toInt ≤ (F j).toInt
/-- what putting one in makes -/
def pv_put1 (m a : Nat) (k : Int32) (F H : Nat → Int32) : Prop := (∀ j, j < a → H j = F j) ∧ H a = k ∧ (∀ j, a < j → j ≤ m → H j = F (j - 1))
theorem pv_put1_srt {m a : Nat} {k : Int32} {F H : Nat → Int32} (h : pv_put1 m a k F H) (hs : pv_srt m F) (ha : a ≤ m) (h5 : ∀ j, a ≤ j → j < m → k < F j) (h6 : a = 0 ∨ F (a - 1) ≤ k) : pv_srt (m + 1) H := by
  obtain ⟨p1, p2, p3⟩ := h
  have lo : ∀ i, i < a → (F i).toInt ≤ k.toInt := by
    intro i hi
    rcases h6 with z | z
    · omega
    · rw [Int32.le_iff_toInt_le] at z
      by_cases e : i = a - 1
      · rw [e]; exact z
      · have := hs i (a - 1) (by omega) (by omega)
        omega
  have hi : ∀ j, a < j → j ≤ m → k.toInt ≤ (F (j - 1)).toInt := by
    intro j q1 q2
    have := h5 (j - 1) (by omega) (by omega)
    rw [Int32.lt_iff_toInt_lt] at this
    omega
  intro i j hij hj
  by_cases i1 : i < a
  · rw [p1 i i1]
    by_cases j1 : j < a
    · rw [p1 j j1]; exact hs i j hij (by omega)
    · by_cases j2 : j = a
      · subst j2; rw [p2]; exact lo i i1
      · rw [p3 j (by omega) (by omega)]
        have := lo i i1
        have := hi j (by omega) (by omega)
        omega
  · by_cases i2 : i = a
    · subst i2; rw [p2, p3 j (by omega) (by omega)]; exact hi j (by omega) (by omega)
    · rw [p3 i (by omega) (by omega), p3 j (by omega) (by omega)]
      exact hs _ _ (by omega) (by omega)
theorem pv_put1_all {m a : Nat} {k : Int32} {F H : Nat → Int32} (Q : Int32 → Prop) (h : pv_put1 m a k F H) (ha : a ≤ m) (hq : ∀ j, j < m → Q (F j)) (hk : Q k) : ∀ j, j < m + 1 → Q (H j) := by
  obtain ⟨p1, p2, p3⟩ := h
  intro j hj
  by_cases j1 : j < a
  · rw [p1 j j1]; exact hq j (by omega)
  · by_cases j2 : j = a
    · subst j2; rw [p2]; exact hk
    · rw [p3 j (by omega) (by omega)]; exact hq _ (by omega)
theorem pv_put1_eq {m a : Nat} {k : Int32} {F H F' H' : Nat → Int32} (h : pv_put1 m a k F H) (h' : pv_put1 m a k F' H') (ha : a ≤ m) (e : pv_RA m F' F) : pv_RA (m + 1) H' H := by
  obtain ⟨p1, p2, p3⟩ := h
  obtain ⟨q1, q2, q3⟩ := h'
  intro j hj
  by_cases j1 : j < a
  · rw [p1 j j1, q1 j j1]; exact e j (by omega)
  · by_cases j2 : j = a
    · subst j2; rw [p2, q2]
    · rw [p3 j (by omega) (by omega), q3 j (by omega) (by omega)]; exact e _ (by omega)
/-- one loaf into its place, in any state -/
theorem pv_insE {b : Int32 × St → (Int32 × St → Option (Int32 × St)) → Option (Int32 × St)} (c : Nat) (k : Int32) (hb : ∀ x S rec, b (x, S) rec = (if x ≤ 0 then (some (x, S)) else (fx_ald 6 (S.2 c) (x - (1 : Int32)) (fun v101 => (if v101 ≤ k then (some (x, S)) else (fx_ald 6 (S.2 c) (x - (1 : Int32)) (fun v102 => fx_ast 6 S c x v102 (fun S103 => fx_lt (x + (-1 : Int32)) (fun x104 => rec (x104, S103)))))))))) (m : Nat) (S : St) (hm : m ≤ 5) (f : Nat) (hf : 5 < f) : ∃ a G, a ≤ m ∧ fx_it b f (nI m, S) = some (nI a, stA S c G) ∧ pv_put1 m a k (S.2 c) (upd G a k) ∧ (∀ j, a ≤ j → j < m → k < S.2 c j) ∧ (a = 0 ∨ S.2 c (a - 1) ≤ k) := by
  obtain ⟨a, G, h1, h2, h3, h4, h5, h6, h7⟩ := pv_ins c k hb m S hm f (by omega)
  refine ⟨a, G, h1, h2, ⟨fun j hj => ?_, pv_uself, fun j q1 q2 => ?_⟩, h5, h6⟩
  · rw [pv_une (by omega)]; exact h3 j hj
  · rw [pv_une (by omega)]; exact h4 j q1 q2
theorem pv_insU {m a a' : Nat} {k : Int32} {F F' : Nat → Int32} (ha : a ≤ m) (ha' : a' ≤ m) (e : pv_RA m F' F) (h5 : ∀ j, a ≤ j → j < m → k < F j) (h6 : a = 0 ∨ F (a - 1) ≤ k) (h5' : ∀ j, a' ≤ j → j < m → k < F' j) (h6' : a' = 0 ∨ F' (a' - 1) ≤ k) : a' = a := by
  rcases Nat.lt_trichotomy a' a with z | z | z
  · have h := h5' (a - 1) (by omega) (by omega)
    rw [e _ (by omega)] at h
    rcases h6 with q | q
    · omega
    · rw [Int32.le_iff_toInt_le] at q
      rw [Int32.lt_iff_toInt_lt] at h
      omega
  · exact z
  · have h := h5 (a' - 1) (by omega) (by omega)
    rw [← e _ (by omega)] at h
    rcases h6' with q | q
    · omega
    · rw [Int32.le_iff_toInt_le] at q
      rw [Int32.lt_iff_toInt_lt] at h
      omega
/-- only the loaves' notes have changed -/
def pv_Y2 (M M' : St) : Prop := (∀ k, k ≠ 31 → M'.1 k = M.1 k) ∧ ∀ k, k ≠ 30 → M'.2 k = M.2 k
theorem pv_Y2.rf (M : St) : pv_Y2 M M := ⟨fun _ _ => rfl, fun _ _ => rfl⟩
theorem pv_Y2.trans {A B C : St} (h : pv_Y2 A B) (h' : pv_Y2 B C) : pv_Y2 A C := ⟨fun k a => (h'.1 k a).trans (h.1 k a), fun k a => (h'.2 k a).trans (h.2 k a)⟩
theorem pv_Y2.X {A B : St} (h : pv_Y2 A B) : pv_X A B := ⟨fun k hk => ⟨h.1 k (by omega), h.2 k (by omega)⟩, h.2 42 (by omega), h.2 43 (by omega)⟩
/-- the loaves laid, both ways -/
def pv_RL (S B M : St) : Prop := ∃ m, m ≤ 6 ∧ B.1 0 = nI m ∧ M.1 31 = nI m ∧ pv_RA m (M.2 30) (B.2 1) ∧ pv_srt m (B.2 1) ∧ ∀ j, j < m → pv_has (S.1 0) (B.2 1 j)
theorem pv_d10 (x : Nat) (h : x < 1000000) : nI x / (10 : Int32) = nI (x / 10) := by
  apply pv_ext
  rw [pv_tdiv10 (by rw [pv_nI _ (by omega)]; omega), pv_nI _ (by omega), pv_nI _ (by omega)]
  omega
/-- the reference's step with one digit -/
theorem pv_lay8 (N : Nat) (hN : 100 ≤ N) {M : St} {m x : Nat} (f1 : Int32) (hm : m ≤ 5) (e31 : M.1 31 = nI m) (hx : 0 < x) (hx6 : x < 1000000) (g : Int32) (hg : (if f1 = 0 then some (0 : Int32) else fx_b1 (f_X8_isSort N M (nI x - nI (x / 10) * 10 - 1)) (fun v111 => if v111 = 0 then some (0 : Int32) else some (1 : Int32))) = some g) : ∃ a H, a ≤ m ∧ pv_put1 m a (nI x - nI (x / 10) * 10 - 1) (M.2 30) H ∧ (∀ j, a ≤ j → j < m → nI x - nI (x / 10) * 10 - 1 < M.2 30 j) ∧ (a = 0 ∨ M.2 30 (a - 1) ≤ nI x - nI (x / 10) * 10 - 1) ∧ ∀ rec, lf_X8_layLoaves_9 N (f1, nI x, M) rec = rec (g, nI (x / 10), stI (stA M 30 H) 31 (nI (m + 1))) := by
  obtain ⟨a, G, h1, h2, h3, h4, h5⟩ := pv_insE (b := lf_X8_layLoaves_46 N g (nI x) (nI x - nI (x / 10) * 10 - 1)) 30 (nI x - nI (x / 10) * 10 - 1) (fun _ _ _ => rfl) m M hm N (by omega)
  refine ⟨a, upd G a (nI x - nI (x / 10) * 10 - 1), h1, h3, h4, h5, fun rec => ?_⟩
  unfold lf_X8_layLoaves_9 bd_X8_layLoaves_9
  dsimp only
  rw [if_neg (show ¬ nI x ≤ 0 from fun z => by have := (pv_le (b := 0) (by omega) (by omega)).mp z; omega), lte, pv_d10 x hx6, hg, b1e, e31, h2, b2e, pv_astn (by omega) (by omega), lte, lte, stA_same, stA_2, if_pos rfl]
  rw [show (stA M 30 (upd G a (nI x - nI (x / 10) * 10 - 1))).1 31 = nI m from e31, nI_1]
/-- the digits left, when one was no sort -/
theorem pv_layF (N : Nat) (hN : 100 ≤ N) : ∀ (d i x : Nat) (M : St), i + d = 6 → x < 10 ^ d → M.1 31 = nI i → ∀ f : Nat, d < f → ∃ M', fx_it (lf_X8_layLoaves_9 N) f (0, nI x, M) = some (0, M') ∧ pv_Y2 M M' := by
  intro d
  induction d with
  | zero =>
    intro i x M hi hx e f hf
    obtain ⟨f, rfl⟩ : ∃ q, f = q + 1 := ⟨f - 1, by omega⟩
    have hx0 : x = 0 := by rw [Nat.pow_zero] at hx; omega
    subst hx0
    refine ⟨M, ?_, pv_Y2.rf M⟩
    show lf_X8_layLoaves_9 N (0, nI 0, M) _ = _
    unfold lf_X8_layLoaves_9 bd_X8_layLoaves_9
    dsimp only
    rw [if_pos (show nI 0 ≤ 0 by decide)]
  | succ d ih =>
    intro i x M hi hx e f hf
    obtain ⟨f, rfl⟩ : ∃ q, f = q + 1 := ⟨f - 1, by omega⟩
    rw [Nat.pow_succ] at hx
    by_cases hx0 : x = 0
    · subst hx0
      refine ⟨M, ?_, pv_Y2.rf M⟩
      show lf_X8_layLoaves_9 N (0, nI 0, M) _ = _
      unfold lf_X8_layLoaves_9 bd_X8_layLoaves_9
      dsimp only
      rw [if_pos (show nI 0 ≤ 0 by decide)]
    · have hx6 : x < 1000000 := by
        have : 10 ^ d ≤ 10 ^ 5 := Nat.pow_le_pow_right (by omega) (by omega)
        omega
      obtain ⟨a, H, h1, h2, h3, h4, h5⟩ := pv_lay8 N hN 0 (show i ≤ 5 by omega) e (by omega) hx6 0 (by rw [if_pos rfl])
      obtain ⟨M', q1, q2⟩ := ih (i + 1) (x / 10) (stI (stA M 30 H) 31 (nI (i + 1))) (by omega) (by omega) rfl f (by omega)
      refine ⟨M', ?_, pv_Y2.trans (B := stI (stA M 30 H) 31 (nI (i + 1))) ⟨fun k hk => by rw [stI_1, if_neg hk]; rfl, fun k hk => by show (stA M 30 H).2 k = _; rw [stA_2, if_neg hk]⟩ q2⟩
      show lf_X8_layLoaves_9 N (0, nI x, M) _ = _
      rw [h5]; exact q1
