/-! a day, both ways -/
/-- only what a day moves, and its notes, have changed -/
def pv_W (M M' : St) : Prop := (∀ k, k ≠ 2 → k ≠ 5 → k ≠ 24 → k ≠ 25 → k ≠ 26 → M'.1 k = M.1 k) ∧ ∀ k, k ≠ 12 → k ≠ 13 → k ≠ 14 → k ≠ 15 → M'.2 k = M.2 k
theorem pv_W.rf (M : St) : pv_W M M := ⟨fun _ _ _ _ _ _ => rfl, fun _ _ _ _ _ => rfl⟩
theorem pv_W.trans {A B C : St} (h : pv_W A B) (h' : pv_W B C) : pv_W A C := ⟨fun k a b c d e => (h'.1 k a b c d e).trans (h.1 k a b c d e), fun k a b c d => (h'.2 k a b c d).trans (h.2 k a b c d)⟩
theorem pv_Z.W {A B : St} (h : pv_Z A B) : pv_W A B := ⟨fun k a b _ _ _ => h.1 k a b, h.2⟩
theorem pv_W.I {M : St} (k : Nat) (v : Int32) (hk : k = 24 ∨ k = 25 ∨ k = 26) : pv_W M (stI M k v) := ⟨fun j a b c d e => by rw [stI_1, if_neg (by omega)], fun _ _ _ _ _ => rfl⟩
theorem pv_W.RS {S M M' : St} (h : pv_W M M') (hS : pv_RS S M) : pv_RS S M' := by
  unfold pv_RS
  rw [h.1 7 (by omega) (by omega) (by omega) (by omega) (by omega), h.2 8 (by omega) (by omega) (by omega) (by omega), h.2 9 (by omega) (by omega) (by omega) (by omega), h.2 10 (by omega) (by omega) (by omega) (by omega), h.2 11 (by omega) (by omega) (by omega) (by omega)]
  exact hS
theorem pv_W.prs {s : Nat → Int32} {n : Nat} {M M' : St} (h : pv_W M M') (hp : pv_prs s n M) : pv_prs s n M' := by
  unfold pv_prs
  rw [h.1 22 (by omega) (by omega) (by omega) (by omega) (by omega), h.2 20 (by omega) (by omega) (by omega) (by omega), h.2 21 (by omega) (by omega) (by omega) (by omega)]
  exact hp
def pv_n6 (x : Int32) : Prop := x = -6 ∨ 0 ≤ x.toInt
/-- the day's notes, both ways -/
def pv_RD (D M : St) : Prop := D.1 2 = M.1 24 ∧ D.1 3 = M.1 25 ∧ D.1 4 = M.1 26 ∧ pv_n6 (D.1 4)
theorem pv_m6 (n : Nat) (h : n < 2147483648) : ¬ nI n = (-6 : Int32) := fun z => by
  have e := congrArg Int32.toInt z
  rw [pv_nI _ h, show (-6 : Int32).toInt = -6 from rfl] at e
  omega
set_option maxHeartbeats 1000000 in
theorem pv_go1 (N : Nat) (hN : 100 ≤ N) {D E S M : St} (hI : pv_IO E) (hIS : pv_IS S) (hR : pv_RO E M) (hRS : pv_RS S M) {k r q : Nat} (hk : k < q) (hq : q ≤ 60) (e22 : M.1 22 = nI q) (x y : Int32) (hp : M.2 20 k = pv_code x) (hx : pv_tm x = true ∨ (M.2 21 k = nI r ∧ y = nI r ∧ r < 4 ∧ (x = 45 ∨ (97 ≤ x.toInt ∧ x.toInt ≤ 102)))) (hD : pv_RD D M) (d1 : D.1 1 = nI k) (d2 : D.1 2 = -6) : ∃ D' E' M', f_X2_playPart N D E S x y = some (D', E') ∧ (∀ rec, lf_X8_goDay_20 N (nI k, M) rec = rec (nI (k + 1), M')) ∧ pv_IO E' ∧ pv_RO E' M' ∧ pv_W M M' ∧ pv_RD D' M' ∧ (D'.1 2 = -6 ∧ D'.1 1 = nI (k + 1) ∨ D'.1 2 = nI k) := by
  obtain ⟨a2, a3, a4, a5⟩ := hD
  have e24 : M.1 24 = -6 := a2.symm.trans d2
  obtain ⟨w, hw, q1, q2, q3⟩ := pv_part N hN D hI hIS hR hRS (show k < 60 by omega) x y hp hx
  have hb : ∀ rec : Int32 × St → Option St, lf_X8_goDay_20 N (nI k, M) rec = fx_lt (stI (stI M 24 (if w = 0 then -6 else nI k)) 25 (if w = 0 then -6 else nI w)) (fun S107 => (if nI w = 0 then (fx_b1 (f_X8_happen N S107 (nI k)) (fun S109 => fx_b1 ((if 0 ≤ (S109.1 26) then some (S109.1 26) else (fx_b1 (f_X8_isSpoilt N S109) (fun v115 => (if v115 = 0 then some (S109.1 26) else some (nI k))))) : Option (Int32)) (fun v110 => fx_lt (stI S109 26 v110) (fun S112 => fx_lt (nI k + (1 : Int32)) (fun x113 => rec (x113, S112)))))) else (fx_lt (nI k + (1 : Int32)) (fun x108 => rec (x108, S107))))) := by
    intro rec
    unfold lf_X8_goDay_20 bd_X8_goDay_20
    dsimp only
    rw [e22, if_neg (fun z => by have := (pv_le (by omega) (by omega)).mp z; omega), e24, if_neg (by decide), q2, b1e]
    by_cases z : w = 0
    · subst z; rfl
    · rw [if_neg (show ¬ nI w ≤ 0 from fun u => by have := (pv_le (b := 0) (by omega) (by omega)).mp u; omega), b1e, if_neg (show ¬ nI w ≤ 0 from fun u => by have := (pv_le (b := 0) (by omega) (by omega)).mp u; omega), if_neg z, if_neg z]
      rfl
  by_cases z : w = 0
  · subst z
    obtain ⟨E', M1, w1, w2, w3, w4, w5⟩ := q3 rfl (stI D 3 (-6)) (-6) (-6)
    have wM : pv_W M M1 := ((pv_W.I 24 (-6) (by omega)).trans (pv_W.I 25 (-6) (by omega))).trans w5.W
    have m24 : M1.1 24 = -6 := w5.1 24 (by omega) (by omega)
    have m25 : M1.1 25 = -6 := w5.1 25 (by omega) (by omega)
    have m26 : M1.1 26 = M.1 26 := w5.1 26 (by omega) (by omega)
    obtain ⟨b, hb01, b7, b8⟩ := pv_bad N hN w3 w4 (wM.RS hRS)
    have key : ∃ v : Int32, pv_n6 v ∧ (if 0 ≤ (M1.1 26) then some (M1.1 26) else (fx_b1 (f_X8_isSpoilt N M1) (fun v115 => (if v115 = 0 then some (M1.1 26) else some (nI k))))) = some v ∧ ((if ((stI D 3 (-6)).1 4) = (-6 : Int32) then (fx_b1 (f_X3_hasBadNeighbours N E' S) (fun v108 => (if v108 = 0 then (some (stI D 3 (-6))) else (fx_lt (stI (stI D 3 (-6)) 4 ((stI D 3 (-6)).1 1)) (fun S109 => some S109))))) else (some (stI D 3 (-6)))) : Option St) = some (stI (stI D 3 (-6)) 4 v) := by
      have hself : ∀ v, v = D.1 4 → stI D 3 (-6) = stI (stI D 3 (-6)) 4 v := by
        intro v hv
        subst hv
        refine Prod.ext (funext fun j => ?_) rfl
        show (stI D 3 (-6)).1 j = if j = 4 then D.1 4 else (stI D 3 (-6)).1 j
        by_cases e : j = 4
        · rw [if_pos e, e]; rfl
        · rw [if_neg e]
      rw [m26, ← a4, b7, b8, b1e, b1e, show (stI D 3 (-6)).1 4 = D.1 4 from rfl, show (stI D 3 (-6)).1 1 = nI k from d1]
      rcases a5 with h6 | h0
      · rw [h6, if_neg (by decide), if_pos rfl]
        rcases hb01 with rfl | rfl
        · exact ⟨-6, Or.inl rfl, by rw [if_pos rfl], by rw [if_pos rfl, ← hself _ h6.symm]⟩
        · exact ⟨nI k, Or.inr (by rw [pv_nI _ (by omega)]; omega), by rw [if_neg (by decide)], by rw [if_neg (by decide), lte]⟩
      · refine ⟨D.1 4, Or.inr h0, ?_, ?_⟩
        · rw [if_pos (by rw [Int32.le_iff_toInt_le, t32_0]; exact h0)]
        · rw [if_neg (fun u => by rw [u] at h0; exact absurd h0 (by decide)), ← hself _ rfl]
    obtain ⟨v, hv, k1, k2⟩ := key
    refine ⟨stI (stI (stI D 3 (-6)) 4 v) 1 (nI (k + 1)), E', stI M1 26 v, ?_, fun rec => ?_, w3, w4, wM.trans (pv_W.I 26 v (by omega)), ⟨d2.trans m24.symm, m25.symm, rfl, hv⟩, Or.inl ⟨d2, rfl⟩⟩
    · unfold f_X2_playPart
      rw [q1, b1e, if_pos rfl, lte, if_pos (show (stI D 3 (-6)).1 3 = -6 from rfl), w1, b1e, k2, b1e, lte, show (stI (stI D 3 (-6)) 4 v).1 1 = nI k from d1, nI_1]
    · rw [hb rec, lte, if_pos rfl, if_pos rfl, if_pos (show nI 0 = 0 from rfl), w2, b1e, k1, b1e, lte, lte, nI_1]
  · refine ⟨stI (stI D 3 (nI w)) 2 (nI k), E, stI (stI M 24 (nI k)) 25 (nI w), ?_, fun rec => ?_, hI, hR, (pv_W.I 24 _ (by omega)).trans (pv_W.I 25 _ (by omega)), ⟨rfl, rfl, a4, a5⟩, Or.inr rfl⟩
    · unfold f_X2_playPart
      rw [q1, b1e, if_neg z, lte, if_neg (show ¬ (stI D 3 (nI w)).1 3 = -6 from pv_m6 w (by omega)), lte, show (stI D 3 (nI w)).1 1 = nI k from d1]
    · rw [hb rec, lte, if_neg z, if_neg z, if_neg (show ¬ nI w = 0 from fun u => z ((pv_eq (b := 0) (by omega) (by omega)).mp u)), lte, nI_1]
/-- sign after sign -/
theorem pv_go (N : Nat) (hN : 100 ≤ N) {O S P : St} {n rows : Nat} (hIS : pv_IS S) (hrw : 1 ≤ rows) (hrw4 : rows ≤ 4) (en : P.1 0 = nI n) (hn6 : n ≤ 60) (hok : ∀ j, j < n → pv_ok (P.2 1) rows j) : ∀ (d i : Nat), i + d = n → ∀ (D E M : St) (y : Int32), pv_IO E → pv_RO E M → pv_RS S M → M.1 0 = nI rows → pv_prs (P.2 1) n M → pv_RD D M → D.1 1 = nI (pv_kn (P.2 1) i) → D.1 2 = -6 → (pv_du (P.2 1) i = true → ∃ r, r < rows ∧ y = nI r ∧ P.2 1 (i - 1) - 48 = nI r) → ∀ n1 n2 : Nat, d < n1 → d < n2 → ∃ D' E' M', fx_it (lf_X2_play_37 N P O S) n1 (y, nI i, D, E) = some (D', E') ∧ fx_it (lf_X8_goDay_20 N) n2 (nI (pv_kn (P.2 1) i), M) = some M' ∧ pv_IO E' ∧ pv_RO E' M' ∧ pv_W M M' ∧ pv_RD D' M' ∧ (D'.1 2 = -6 ∧ D'.1 1 = nI (pv_kn (P.2 1) n) ∨ ∃ k, k ≤ 60 ∧ D'.1 2 = nI k) := by
  intro d
  induction d with
  | zero =>
    intro i hi D E M y hI hR hRS e0 hp hD d1 d2 hy n1 n2 h1 h2
    obtain ⟨n1, rfl⟩ : ∃ q, n1 = q + 1 := ⟨n1 - 1, by omega⟩
    obtain ⟨n2, rfl⟩ : ∃ q, n2 = q + 1 := ⟨n2 - 1, by omega⟩
    have hin : i = n := by omega
    subst hin
    refine ⟨D, E, M, ?_, ?_, hI, hR, pv_W.rf M, hD, Or.inl ⟨d2, d1⟩⟩
    · show lf_X2_play_37 N P O S (y, nI i, D, E) _ = _
      unfold lf_X2_play_37 bd_X2_play_37
      dsimp only
      rw [en, if_pos (Int32.le_refl _)]
    · show lf_X8_goDay_20 N (nI (pv_kn (P.2 1) i), M) _ = _
      unfold lf_X8_goDay_20 bd_X8_goDay_20
      dsimp only
      rw [hp.1, if_pos (Int32.le_refl _)]
  | succ d ih =>
    intro i hi D E M y hI hR hRS e0 hp hD d1 d2 hy n1 n2 h1 h2
    have hin : i < n := by omega
    have hoki := hok i hin
    have k1 := pv_kn1 (P.2 1) i
    have u1 := pv_du1 (P.2 1) i
    have hE0 : E.1 0 = nI rows := hR.1.symm.trans e0
    have h48 : (48 : Int32).toInt = 48 := rfl
    obtain ⟨n1, rfl⟩ : ∃ q, n1 = q + 1 := ⟨n1 - 1, by omega⟩
    have hs7 : fx_it (lf_X2_play_37 N P O S) (n1 + 1) (y, nI i, D, E) = if 0 ≤ (P.2 1 i - 48).toInt ∧ (P.2 1 i - 48).toInt < rows then fx_it (lf_X2_play_37 N P O S) n1 (P.2 1 i - 48, nI (i + 1), D, E) else fx_b2 (f_X2_playPart N D E S (P.2 1 i) y) (fun S103 S104 => fx_it (lf_X2_play_37 N P O S) n1 (y, nI (i + 1), S103, S104)) := by
      show lf_X2_play_37 N P O S (y, nI i, D, E) _ = _
      generalize fx_it (lf_X2_play_37 N P O S) n1 = rec
      unfold lf_X2_play_37 bd_X2_play_37
      dsimp only
      rw [en, if_neg (fun z => by have := (pv_le (by omega) (by omega)).mp z; omega), if_pos d2, pv_aldn (by omega) (by omega), pv_hasRow N (by rw [hE0, pv_nI _ (by omega)]; omega), b1e, pv_if, hE0, pv_nI _ (by omega), lte, lte, nI_1]
      rfl
    by_cases hdig : pv_du (P.2 1) i = false ∧ pv_tm (P.2 1 i) = false
    · -- a row's digit
      obtain ⟨hf, ht⟩ := hdig
      rw [pv_okF hf, ht] at hoki
      have hdg : 48 ≤ (P.2 1 i).toInt ∧ (P.2 1 i).toInt ≤ 47 + rows := hoki.elim (fun z => absurd z (by decide)) id
      have ev : (P.2 1 i - 48).toInt = (P.2 1 i).toInt - 48 := pv_sub (by omega) (by omega)
      have hdu : pv_du (P.2 1) (i + 1) = true := by rw [u1, hf, ht]; rfl
      rw [hdu, if_pos rfl] at k1
      have k1 : pv_kn (P.2 1) (i + 1) = pv_kn (P.2 1) i := k1
      rw [hs7, if_pos (by omega), ← k1]
      obtain ⟨r, er, hr⟩ := pv_num (x := P.2 1 i - 48) (b := rows - 1) (by omega)
      exact ih (i + 1) (by omega) D E M _ hI hR hRS e0 hp hD (d1.trans (by rw [k1])) d2 (fun _ => ⟨r, by omega, er, er⟩) n1 n2 (by omega) (by omega)
    · -- a part
      have hdu : pv_du (P.2 1) (i + 1) = false := by
        rw [u1]
        cases a : pv_du (P.2 1) i with
        | true => rfl
        | false =>
          cases b : pv_tm (P.2 1 i) with
          | true => rfl
          | false => exact absurd ⟨a, b⟩ hdig
      have hk : pv_kn (P.2 1) i < pv_kn (P.2 1) n := pv_kn_lt hin hdu
      have hq := pv_kn_le (P.2 1) n
      obtain ⟨p20, p21⟩ := hp.2.1 i hin hdu
      rw [hdu, if_neg (by decide)] at k1
      have hrow : ¬ (0 ≤ (P.2 1 i - 48).toInt ∧ (P.2 1 i - 48).toInt < rows) := by
        intro z
        cases a : pv_du (P.2 1) i with
        | true =>
          rw [pv_okT a] at hoki
          rcases hoki with h | h
          · rw [h] at z; exact absurd z.1 (by decide)
          · rw [pv_sub (by omega) (by omega)] at z; omega
        | false =>
          cases b : pv_tm (P.2 1 i) with
          | true =>
            rcases of_decide_eq_true b with h | h
            · rw [h] at z; exact absurd z.1 (by decide)
            · rw [h] at z
              have := z.2
              rw [show ((58 : Int32) - 48).toInt = 10 from rfl] at this
              omega
          | false => exact absurd ⟨a, b⟩ hdig
      have hx : ∃ r : Nat, pv_tm (P.2 1 i) = true ∨ (M.2 21 (pv_kn (P.2 1) i) = nI r ∧ y = nI r ∧ r < 4 ∧ (P.2 1 i = 45 ∨ (97 ≤ (P.2 1 i).toInt ∧ (P.2 1 i).toInt ≤ 102))) := by
        cases a : pv_du (P.2 1) i with
        | true =>
          rw [pv_okT a] at hoki
          obtain ⟨r, hr, ey, es⟩ := hy a
          exact ⟨r, Or.inr ⟨(p21 a).trans es, ey, by omega, hoki⟩⟩
        | false =>
          cases b : pv_tm (P.2 1 i) with
          | true => exact ⟨0, Or.inl rfl⟩
          | false => exact absurd ⟨a, b⟩ hdig
      obtain ⟨r, hx⟩ := hx
      obtain ⟨n2, rfl⟩ : ∃ q, n2 = q + 1 := ⟨n2 - 1, by omega⟩
      obtain ⟨D1, E1, M1, g1, g2, g3, g4, g5, g6, g7⟩ := pv_go1 N hN hI hIS hR hRS hk (by omega) hp.1 (P.2 1 i) y p20 hx hD d1 d2
      have e8 : fx_it (lf_X8_goDay_20 N) (n2 + 1) (nI (pv_kn (P.2 1) i), M) = fx_it (lf_X8_goDay_20 N) n2 (nI (pv_kn (P.2 1) i + 1), M1) := g2 _
      rw [hs7, if_neg hrow, g1, b2e, e8]
      rcases g7 with ⟨g7, g8⟩ | g7
      · have := ih (i + 1) (by omega) D1 E1 M1 y g3 g4 (g5.RS hRS) ((g5.1 0 (by omega) (by omega) (by omega) (by omega) (by omega)).trans e0) (g5.prs hp) g6 (g8.trans (by rw [k1])) g7 (fun z => absurd (hdu ▸ z) (by decide)) n1 n2 (by omega) (by omega)
        rw [k1] at this
        obtain ⟨D', E', M', f1, f2, f3, f4, f5, f6, f7⟩ := this
        exact ⟨D', E', M', f1, f2, f3, f4, g5.trans f5, f6, f7⟩
      · obtain ⟨n1, rfl⟩ : ∃ q, n1 = q + 1 := ⟨n1 - 1, by omega⟩
        obtain ⟨n2, rfl⟩ : ∃ q, n2 = q + 1 := ⟨n2 - 1, by omega⟩
        refine ⟨D1, E1, M1, ?_, ?_, g3, g4, g5, g6, Or.inr ⟨_, by omega, g7⟩⟩
        · show lf_X2_play_37 N P O S (y, nI (i + 1), D1, E1) _ = _
          unfold lf_X2_play_37 bd_X2_play_37
          dsimp only
          rw [if_neg (show ¬ D1.1 2 = -6 by rw [g7]; exact pv_m6 _ (by omega))]
          by_cases z : P.1 0 ≤ nI (i + 1)
          · rw [if_pos z]
          · rw [if_neg z]
        · show lf_X8_goDay_20 N (nI (pv_kn (P.2 1) i + 1), M1) _ = _
          unfold lf_X8_goDay_20 bd_X8_goDay_20
          dsimp only
          rw [if_pos (show (0 : Int32) ≤ M1.1 24 by rw [← g6.1, g7]; exact (pv_le (a := 0) (by omega) (by omega)).mpr (by omega))]
          by_cases z : M1.1 22 ≤ nI (pv_kn (P.2 1) i + 1)
          · rw [if_pos z]
          · rw [if_neg z]
