/-! all orders of a row, both ways at once -/
def pv_YW (B B' : St) : Prop := (∀ k, k ≠ 5 → k ≠ 6 → k ≠ 7 → B'.1 k = B.1 k) ∧ ∀ k, k ≠ 4 → B'.2 k = B.2 k
theorem pv_YW.trans {A B C : St} (h : pv_YW A B) (h' : pv_YW B C) : pv_YW A C := ⟨fun k a b c => (h'.1 k a b c).trans (h.1 k a b c), fun k a => (h'.2 k a).trans (h.2 k a)⟩
def pv_YV (M M' : St) : Prop := (∀ k, k ≠ 36 → k ≠ 37 → k ≠ 38 → M'.1 k = M.1 k) ∧ ∀ k, k ≠ 34 → M'.2 k = M.2 k
theorem pv_YV.trans {A B C : St} (h : pv_YV A B) (h' : pv_YV B C) : pv_YV A C := ⟨fun k a b c => (h'.1 k a b c).trans (h.1 k a b c), fun k a => (h'.2 k a).trans (h.2 k a)⟩
theorem pv_mi_ne {x : Option Nat} {r : Nat} (h : x = some r) (hr : r ≤ 1000) : ¬ pv_mi x = (-6 : Int32) := by
  subst h
  exact pv_m6 r (by omega)
theorem pv_try7 (N : Nat) {B : St} {n i w nu : Nat} {x : Option Nat} (hi : i < 720) (hw : w ≤ 720) (e5 : B.1 5 = nI w) (h1 : f_X1_minuteAllOut N B (nI n) = some (pv_mi x)) (hx : ∀ r, x = some r → r ≤ 1000) (h2 : f_X1_numberOf N B (nI n) = some (nI nu)) : ∃ B1, (∀ rec, lf_X1_tryOrders_31 N (nI n) (1, nI i, B) rec = fx_b2 (f_X1_stepOrder N B1 (nI n)) (fun v S => rec (v, nI (i + 1), S))) ∧ (∀ k, k ≠ 5 → k ≠ 6 → k ≠ 7 → B1.1 k = B.1 k) ∧ (∀ k, B1.2 k = B.2 k) ∧ ((x = none ∧ B1 = B) ∨ ∃ r, x = some r ∧ B1.1 5 = nI (w + 1) ∧ B1.1 6 = (if w = 0 then nI nu else B.1 6) ∧ B1.1 7 = (if w = 0 then nI r else if nI r < B.1 7 then nI r else B.1 7)) := by
  have lo : ∀ rec, lf_X1_tryOrders_31 N (nI n) (1, nI i, B) rec = fx_b1 ((if pv_mi x = (-6 : Int32) then (some B) else (fx_b1 ((if (B.1 5) = 0 then (fx_b1 (f_X1_numberOf N B (nI n)) (fun v118 => fx_lt (stI B 6 v118) (fun S119 => some S119))) else (some B)) : Option (St)) (fun S109 => fx_b1 ((if (S109.1 5) = 0 then (some (pv_mi x)) else (fx_lt (if pv_mi x < (S109.1 7) then pv_mi x else (S109.1 7)) (fun x116 => some x116))) : Option (Int32)) (fun v111 => fx_lt (stI S109 7 v111) (fun S113 => fx_lt (stI S113 5 ((S113.1 5) + (1 : Int32))) (fun S114 => some S114)))))) : Option (St)) (fun S102 => fx_b2 (f_X1_stepOrder N S102 (nI n)) (fun v104 S105 => rec (v104, nI (i + 1), S105))) := by
    intro rec
    unfold lf_X1_tryOrders_31 bd_X1_tryOrders_31
    dsimp only
    rw [if_neg (show ¬ (720 : Int32) ≤ nI i from fun z => by have := (pv_le (a := 720) (by omega) (by omega)).mp z; omega), if_neg (by decide), h1, b1e, nI_1]
    rfl
  cases hx0 : x with
  | none =>
    subst hx0
    exact ⟨B, fun rec => by rw [lo, if_pos (show pv_mi none = -6 from rfl), b1e], fun _ _ _ _ => rfl, fun _ => rfl, Or.inl ⟨rfl, rfl⟩⟩
  | some r =>
    have hr := hx r hx0
    have hne := pv_mi_ne hx0 hr
    have hmi : pv_mi x = nI r := by rw [hx0]; rfl
    by_cases z : w = 0
    · have e50 : B.1 5 = 0 := by rw [e5, z]; rfl
      refine ⟨stI (stI (stI B 6 (nI nu)) 7 (nI r)) 5 (nI (w + 1)), fun rec => ?_, fun k a b c => by rw [stI_1, if_neg a, stI_1, if_neg c, stI_1, if_neg b], fun k => rfl, Or.inr ⟨r, rfl, rfl, by rw [if_pos z]; rfl, by rw [if_pos z]; rfl⟩⟩
      rw [lo, if_neg hne, if_pos e50, h2, b1e, lte, b1e, if_pos (show (stI B 6 (nI nu)).1 5 = 0 from e50), b1e, lte, lte, show (stI (stI B 6 (nI nu)) 7 (pv_mi x)).1 5 = nI w from e5, nI_1, b1e, hmi]
    · have e50 : ¬ B.1 5 = 0 := by rw [e5]; exact fun q => z ((pv_eq (b := 0) (by omega) (by omega)).mp q)
      refine ⟨stI (stI B 7 (if nI r < B.1 7 then nI r else B.1 7)) 5 (nI (w + 1)), fun rec => ?_, fun k a b c => by rw [stI_1, if_neg a, stI_1, if_neg c], fun k => rfl, Or.inr ⟨r, rfl, rfl, by rw [if_neg z]; rfl, by rw [if_neg z]; rfl⟩⟩
      rw [lo, if_neg hne, if_neg e50, b1e, if_neg e50, lte, b1e, lte, lte, hmi, show (stI B 7 (if nI r < B.1 7 then nI r else B.1 7)).1 5 = nI w from e5, nI_1, b1e]
theorem pv_try8 (N : Nat) {M : St} {w nu : Nat} {x : Option Nat} (hw : w ≤ 720) (e36 : M.1 36 = nI w) (h1 : f_X8_rowNumber N M = some (nI nu)) (h2 : f_X8_outBy N M (nI nu) = some (pv_mi x)) (hx : ∀ r, x = some r → r ≤ 1000) : ∃ M1, (∀ rec, lf_X8_goOrders_24 N (1, M) rec = fx_b2 (f_X8_nextRow N M1) (fun v S => rec (v, S))) ∧ (∀ k, k ≠ 36 → k ≠ 37 → k ≠ 38 → M1.1 k = M.1 k) ∧ (∀ k, M1.2 k = M.2 k) ∧ ((x = none ∧ M1 = M) ∨ ∃ r, x = some r ∧ M1.1 36 = nI (w + 1) ∧ M1.1 37 = (if w = 0 then nI nu else M.1 37) ∧ M1.1 38 = (if w = 0 then nI r else if nI r < M.1 38 then nI r else M.1 38)) := by
  cases hx0 : x with
  | none =>
    subst hx0
    refine ⟨M, fun rec => ?_, fun _ _ _ _ => rfl, fun _ => rfl, Or.inl ⟨rfl, rfl⟩⟩
    unfold lf_X8_goOrders_24 bd_X8_goOrders_24
    dsimp only
    rw [if_neg (by decide), h1, b1e, h2, b1e, if_pos (by decide), b1e]
  | some r =>
    have hr := hx r hx0
    have hmi : pv_mi x = nI r := by rw [hx0]; rfl
    have hneg : ¬ nI r < 0 := fun z => by have := (pv_lt (b := 0) (by omega) (by omega)).mp z; omega
    by_cases z : w = 0
    · have e50 : M.1 36 = 0 := by rw [e36, z]; rfl
      refine ⟨stI (stI (stI M 37 (nI nu)) 38 (nI r)) 36 (nI (w + 1)), fun rec => ?_, fun k a b c => by rw [stI_1, if_neg a, stI_1, if_neg c, stI_1, if_neg b], fun k => rfl, Or.inr ⟨r, rfl, rfl, by rw [if_pos z]; rfl, by rw [if_pos z]; rfl⟩⟩
      unfold lf_X8_goOrders_24 bd_X8_goOrders_24
      dsimp only
      rw [if_neg (by decide), h1, b1e, h2, b1e, hmi, if_neg hneg, if_pos e50, b1e, lte, if_pos (show (stI M 37 (nI nu)).1 36 = 0 from e50), b1e, lte, lte, show (stI (stI M 37 (nI nu)) 38 (nI r)).1 36 = nI w from e36, nI_1, b1e]
    · have e50 : ¬ M.1 36 = 0 := by rw [e36]; exact fun q => z ((pv_eq (b := 0) (by omega) (by omega)).mp q)
      refine ⟨stI (stI (stI M 37 (M.1 37)) 38 (if nI r < M.1 38 then nI r else M.1 38)) 36 (nI (w + 1)), fun rec => ?_, fun k a b c => by rw [stI_1, if_neg a, stI_1, if_neg c, stI_1, if_neg b], fun k => rfl, Or.inr ⟨r, rfl, rfl, by rw [if_neg z]; rfl, by rw [if_neg z]; rfl⟩⟩
      have hmn : (if (stI M 37 (M.1 37)).1 38 ≤ nI r then some ((stI M 37 (M.1 37)).1 38) else some (nI r)) = some (if nI r < M.1 38 then nI r else M.1 38) := by
        show (if M.1 38 ≤ nI r then some (M.1 38) else some (nI r)) = _
        by_cases q : M.1 38 ≤ nI r
        · rw [if_pos q, if_neg (fun w => by rw [Int32.lt_iff_toInt_lt] at w; rw [Int32.le_iff_toInt_le] at q; omega)]
        · rw [if_neg q, if_pos (by rw [Int32.lt_iff_toInt_lt]; rw [Int32.le_iff_toInt_le] at q; omega)]
      unfold lf_X8_goOrders_24 bd_X8_goOrders_24
      dsimp only
      rw [if_neg (by decide), h1, b1e, h2, b1e, hmi, if_neg hneg, if_neg e50, b1e, lte, if_neg (show ¬ (stI M 37 (M.1 37)).1 36 = 0 from e50), hmn, b1e, lte, lte, show (stI (stI M 37 (M.1 37)) 38 (if nI r < M.1 38 then nI r else M.1 38)).1 36 = nI w from e36, nI_1, b1e]
/-- the tables, for the kinds of a row -/
def pv_TB (t1 t2 : Nat → Nat → Nat) (l : List Nat) (B M : St) : Prop := ∀ k, k ∈ l → ∀ p, p < l.length → B.2 2 (6 * k + p) = nI (t1 k p) ∧ B.2 3 (6 * k + p) = nI (t2 k p) ∧ M.2 32 (6 * k + p) = pv_u (t1 k p) (t2 k p) ∧ M.2 33 (6 * k + p) = pv_w (t1 k p) (t2 k p) ∧ 1 ≤ t1 k p ∧ t1 k p ≤ 1000 ∧ t2 k p ≤ 1000
/-- an order by which all come out ripe -/
def pv_fe (t1 t2 : Nat → Nat → Nat) (l : List Nat) : Prop := ∃ r, pv_mo t1 t2 (fun j => l.getD j 0) l.length 0 = some r
theorem pv_fc6 {n : Nat} (h : n ≤ 6) : pv_fc n ≤ 720 := by
  rcases (show n = 0 ∨ n = 1 ∨ n = 2 ∨ n = 3 ∨ n = 4 ∨ n = 5 ∨ n = 6 by omega) with rfl | rfl | rfl | rfl | rfl | rfl | rfl <;> decide
theorem pv_getD_mem {l : List Nat} {j : Nat} (h : j < l.length) : l.getD j 0 ∈ l := by
  rw [List.getD_eq_getElem?_getD, List.getElem?_eq_getElem h]
  exact List.getElem_mem h
theorem pv_tryL (N : Nat) (hN : 2000 ≤ N) {t1 t2 : Nat → Nat → Nat} {n pl : Nat} (hn : n ≤ 6) (hpl : pl ≤ 6) (hnp : n ≤ pl) : ∀ (d : Nat) (l : List Nat) (i w : Nat) (B M : St), l.length = n → pv_fc n ≤ pv_rk l + d → i ≤ pv_rk l → w ≤ i → (∀ x, x ∈ l → x ≤ 5) → pv_rw (B.2 4) l → pv_rw (M.2 34) l → M.1 35 = nI n → M.1 1 = nI pl → pv_TB t1 t2 l B M → B.1 5 = nI w → M.1 36 = nI w → B.1 6 = M.1 37 → B.1 7 = M.1 38 → (w = 0 ∧ B.1 6 = -6 ∨ 0 < w ∧ 0 ≤ (B.1 6).toInt) → ∀ f1 f2 : Nat, d < f1 → d < f2 → ∃ B' M' w', fx_it (lf_X1_tryOrders_31 N (nI n)) f1 (1, nI i, B) = some B' ∧ fx_it (lf_X8_goOrders_24 N) f2 (1, M) = some M' ∧ B'.1 5 = nI w' ∧ M'.1 36 = nI w' ∧ B'.1 6 = M'.1 37 ∧ B'.1 7 = M'.1 38 ∧ w ≤ w' ∧ w' ≤ 720 ∧ (w' = 0 ∧ B'.1 6 = -6 ∨ 0 < w' ∧ 0 ≤ (B'.1 6).toInt) ∧ pv_YW B B' ∧ pv_YV M M' ∧ (w < w' → ∃ a, a.Perm l ∧ pv_fe t1 t2 a) ∧ ∀ a, a.Perm l → pv_lx l a → pv_fe t1 t2 a → w < w' := by
  intro d
  induction d with
  | zero =>
    intro l i w B M hl hrk
    have := pv_rk_lt l
    rw [hl] at this
    omega
  | succ d ih =>
    intro l i w B M hl hrk hi hwi h5 hB hM e35 e1 hT b5 m36 e6 e7 hls f1 f2 hf1 hf2
    obtain ⟨f1, rfl⟩ : ∃ q, f1 = q + 1 := ⟨f1 - 1, by omega⟩
    obtain ⟨f2, rfl⟩ : ∃ q, f2 = q + 1 := ⟨f2 - 1, by omega⟩
    have hrl := pv_rk_lt l
    rw [hl] at hrl
    have hfc := pv_fc6 hn
    have ho : ∀ j, j < n → l.getD j 0 ≤ 5 := fun j hj => h5 _ (pv_getD_mem (by omega))
    have hTp : ∀ p, p < n → _ := fun p hp => hT (l.getD p 0) (pv_getD_mem (by omega)) p (by omega)
    have FB : ∀ j, j < n → B.2 4 j = nI (l.getD j 0) := fun j hj => hB j (by omega)
    have FM : ∀ j, j < n → M.2 34 j = nI (l.getD j 0) := fun j hj => hM j (by omega)
    have hb := pv_nu_b (o := fun j => l.getD j 0) hn ho n (by omega)
    have hx : ∀ r, pv_mo t1 t2 (fun j => l.getD j 0) n 0 = some r → r ≤ 1000 := fun r => pv_mo_le n 0 (fun q hq => (hTp q hq).2.2.2.2.2.2) (by omega) r
    have hfe : pv_fe t1 t2 l ↔ ∃ r, pv_mo t1 t2 (fun j => l.getD j 0) n 0 = some r := by unfold pv_fe; rw [hl]
    obtain ⟨B1, u1, u2, u3, u4⟩ := pv_try7 N (B := B) (n := n) (i := i) (w := w) (x := pv_mo t1 t2 (fun j => l.getD j 0) n 0) (by omega) (by omega) b5 (pv_min7 N (by omega) (o := fun j => l.getD j 0) hn ho FB (fun p hp => ⟨(hTp p hp).1, (hTp p hp).2.1, (hTp p hp).2.2.2.2.2.1, (hTp p hp).2.2.2.2.2.2⟩)) hx (pv_num7 N (by omega) (o := fun j => l.getD j 0) hn FB)
    have ho8 := pv_out8 N (by omega) (M := M) (t1 := t1) (t2 := t2) (o := fun j => l.getD j 0) hn e1 hpl ho (fun p hp => (hTp p hp).2.2.2.2.1) (fun _ p hp => ⟨(hTp p hp).2.2.1, (hTp p hp).2.2.2.1, (hTp p hp).2.2.2.2.2.1, (hTp p hp).2.2.2.2.2.2⟩)
    rw [if_pos hnp] at ho8
    obtain ⟨M1, v1, v2, v3, v4⟩ := pv_try8 N (M := M) (w := w) (x := pv_mo t1 t2 (fun j => l.getD j 0) n 0) (by omega) m36 (pv_num8 N (by omega) (o := fun j => l.getD j 0) hn e35 FM) ho8 hx
    -- what the two have behind this order
    have key : ∃ w1, B1.1 5 = nI w1 ∧ M1.1 36 = nI w1 ∧ B1.1 6 = M1.1 37 ∧ B1.1 7 = M1.1 38 ∧ w ≤ w1 ∧ w1 ≤ i + 1 ∧ (w1 = 0 ∧ B1.1 6 = -6 ∨ 0 < w1 ∧ 0 ≤ (B1.1 6).toInt) ∧ (w < w1 ↔ pv_fe t1 t2 l) := by
      rcases u4 with ⟨x1, x2⟩ | ⟨r, x1, x2, x3, x4⟩
      · rcases v4 with ⟨y1, y2⟩ | ⟨r', y1, -⟩
        · subst x2 y2
          exact ⟨w, b5, m36, e6, e7, Nat.le_refl _, by omega, hls, ⟨fun z => absurd z (Nat.lt_irrefl _), fun z => by
            obtain ⟨r, hr⟩ := hfe.mp z
            rw [x1] at hr; cases hr⟩⟩
        · rw [x1] at y1; cases y1
      · rcases v4 with ⟨y1, -⟩ | ⟨r', y1, y2, y3, y4⟩
        · rw [x1] at y1; cases y1
        · have er : r = r' := Option.some.inj (x1.symm.trans y1)
          subst er
          refine ⟨w + 1, x2, y2, by rw [x3, y3, e6], by rw [x4, y4, e7], by omega, by omega, Or.inr ⟨by omega, ?_⟩, ⟨fun _ => hfe.mpr ⟨r, x1⟩, fun _ => by omega⟩⟩
          rw [x3]
          by_cases z : w = 0
          · rw [if_pos z, pv_nI _ (by omega)]; omega
          · rw [if_neg z]
            rcases hls with ⟨q, -⟩ | ⟨-, q⟩
            · exact absurd q z
            · exact q
    obtain ⟨w1, k1, k2, k3, k4, k5, k6, k7, k8⟩ := key
    have hB1 : pv_rw (B1.2 4) l := by rw [u3]; exact hB
    have hM1 : pv_rw (M1.2 34) l := by rw [v3]; exact hM
    have e35' : M1.1 35 = nI l.length := by rw [v2 35 (by omega) (by omega) (by omega), hl]; exact e35
    have s7 := pv_step7 N (by omega) (B := B1) (by omega) hB1 h5
    have s8 := pv_step8 N (by omega) (M := M1) (by omega) e35' hM1 h5
    have YB : pv_YW B B1 := ⟨u2, fun k _ => u3 k⟩
    have YM : pv_YV M M1 := ⟨v2, fun k _ => v3 k⟩
    rw [hl] at s7
    have c7 : fx_it (lf_X1_tryOrders_31 N (nI n)) (f1 + 1) (1, nI i, B) = fx_b2 (f_X1_stepOrder N B1 (nI n)) (fun v S => fx_it (lf_X1_tryOrders_31 N (nI n)) f1 (v, nI (i + 1), S)) := u1 _
    have c8 : fx_it (lf_X8_goOrders_24 N) (f2 + 1) (1, M) = fx_b2 (f_X8_nextRow N M1) (fun v S => fx_it (lf_X8_goOrders_24 N) f2 (v, S)) := v1 _
    rcases s7 with ⟨p1, p2⟩ | ⟨l', G, p1, p2, p3, p4⟩
    · rcases s8 with ⟨q1, q2⟩ | ⟨l2, G2, q1, -⟩
      · rw [c7, c8, p2, q2, b2e, b2e]
        obtain ⟨f1, rfl⟩ : ∃ q, f1 = q + 1 := ⟨f1 - 1, by omega⟩
        obtain ⟨f2, rfl⟩ : ∃ q, f2 = q + 1 := ⟨f2 - 1, by omega⟩
        refine ⟨B1, M1, w1, ?_, ?_, k1, k2, k3, k4, k5, by omega, k7, YB, YM, fun z => ⟨l, List.Perm.refl l, k8.mp z⟩, fun a ha hlx hfa => ?_⟩
        · show lf_X1_tryOrders_31 N (nI n) (0, nI (i + 1), B1) _ = _
          unfold lf_X1_tryOrders_31 bd_X1_tryOrders_31
          dsimp only
          rw [if_pos (show (0 : Int32) = 0 from rfl)]
          by_cases z : (720 : Int32) ≤ nI (i + 1)
          · rw [if_pos z]
          · rw [if_neg z]
        · show lf_X8_goOrders_24 N (0, M1) _ = _
          unfold lf_X8_goOrders_24 bd_X8_goOrders_24
          dsimp only
          rw [if_pos (show (0 : Int32) = 0 from rfl)]
        · rcases pv_nx_all l a hlx ha with z | ⟨l', z, -⟩
          · rw [z] at hfa; exact k8.mpr hfa
          · rw [p1] at z; cases z
      · rw [p1] at q1; cases q1
    · rcases s8 with ⟨q1, -⟩ | ⟨l2, G2, q1, q2, q3, q4⟩
      · rw [p1] at q1; cases q1
      · have el : l' = l2 := Option.some.inj (p1.symm.trans q1)
        subst el
        have hp := pv_nx_perm l l' p1
        have hr := pv_rk_nx l l' p1
        have hT' : pv_TB t1 t2 l' (stA B1 4 G) (stA M1 34 G2) := fun k hk p hpp => by
          have := hT k (hp.mem_iff.mp hk) p (by omega)
          rw [stA_2, if_neg (by omega), stA_2, if_neg (by omega), stA_2, if_neg (by omega), stA_2, if_neg (by omega), u3, u3, v3, v3]
          exact this
        obtain ⟨B', M', w', g1, g2, g3, g4, g5, g6, g7, g8, g9, g10, g11, g12, g13⟩ := ih l' (i + 1) w1 (stA B1 4 G) (stA M1 34 G2) (by omega) (by omega) (by omega) (by omega) (fun x hx => h5 x (hp.mem_iff.mp hx)) (by rw [stA_2, if_pos rfl]; exact p3) (by rw [stA_2, if_pos rfl]; exact q3) (by show M1.1 35 = _; rw [e35', hl]) (by show M1.1 1 = _; rw [v2 1 (by omega) (by omega) (by omega)]; exact e1) hT' k1 k2 k3 k4 k7 f1 f2 (by omega) (by omega)
        refine ⟨B', M', w', ?_, ?_, g3, g4, g5, g6, by omega, g8, g9, YB.trans (pv_YW.trans (B := stA B1 4 G) ⟨fun _ _ _ _ => rfl, fun k hk => by rw [stA_2, if_neg hk]⟩ g10), YM.trans (pv_YV.trans (B := stA M1 34 G2) ⟨fun _ _ _ _ => rfl, fun k hk => by rw [stA_2, if_neg hk]⟩ g11), fun z => ?_, fun a ha hlx hfa => ?_⟩
        · rw [c7, p4, b2e]; exact g1
        · rw [c8, q4, b2e]; exact g2
        · by_cases y : w < w1
          · exact ⟨l, List.Perm.refl l, k8.mp y⟩
          · obtain ⟨a, a1, a2⟩ := g12 (by omega)
            exact ⟨a, a1.trans hp, a2⟩
        · rcases pv_nx_all l a hlx ha with z | ⟨l3, z, zl⟩
          · rw [z] at hfa
            have := k8.mpr hfa
            omega
          · have e3 : l' = l3 := Option.some.inj (p1.symm.trans z)
            subst e3
            have := g13 a (ha.trans hp.symm) zl hfa
            omega
/-- a row that is too long: the reference tries all, and none can be -/
theorem pv_tryN (N : Nat) (hN : 2000 ≤ N) {n pl : Nat} (hn : n ≤ 6) (hpl : pl ≤ 6) (hnp : ¬ n ≤ pl) : ∀ (d : Nat) (l : List Nat) (M : St), l.length = n → pv_fc n ≤ pv_rk l + d → (∀ x, x ∈ l → x ≤ 5) → pv_rw (M.2 34) l → M.1 35 = nI n → M.1 1 = nI pl → M.1 36 = 0 → ∀ f2 : Nat, d < f2 → ∃ M', fx_it (lf_X8_goOrders_24 N) f2 (1, M) = some M' ∧ (∀ k, M'.1 k = M.1 k) ∧ pv_YV M M' := by
  intro d
  induction d with
  | zero =>
    intro l M hl hrk
    have := pv_rk_lt l
    rw [hl] at this
    omega
  | succ d ih =>
    intro l M hl hrk h5 hM e35 e1 m36 f2 hf2
    obtain ⟨f2, rfl⟩ : ∃ q, f2 = q + 1 := ⟨f2 - 1, by omega⟩
    have hrl := pv_rk_lt l
    rw [hl] at hrl
    have ho : ∀ j, j < n → l.getD j 0 ≤ 5 := fun j hj => h5 _ (pv_getD_mem (by omega))
    have FM : ∀ j, j < n → M.2 34 j = nI (l.getD j 0) := fun j hj => hM j (by omega)
    have ho8 := pv_out8 N (by omega) (M := M) (t1 := fun _ _ => 1) (t2 := fun _ _ => 1) (o := fun j => l.getD j 0) hn e1 hpl ho (fun p hp => Nat.le_refl _) (fun z => absurd z hnp)
    rw [if_neg hnp] at ho8
    obtain ⟨M1, v1, v2, v3, v4⟩ := pv_try8 N (M := M) (w := 0) (x := none) (by omega) m36 (pv_num8 N (by omega) (o := fun j => l.getD j 0) hn e35 FM) ho8 (fun r hr => by cases hr)
    rcases v4 with ⟨-, v5⟩ | ⟨r, hr, -⟩
    · subst v5
      have s8 := pv_step8 N (by omega) (M := M1) (by omega) (by rw [hl]; exact e35) hM h5
      have c8 : fx_it (lf_X8_goOrders_24 N) (f2 + 1) (1, M1) = fx_b2 (f_X8_nextRow N M1) (fun v S => fx_it (lf_X8_goOrders_24 N) f2 (v, S)) := v1 _
      rcases s8 with ⟨q1, q2⟩ | ⟨l2, G2, q1, q2, q3, q4⟩
      · rw [c8, q2, b2e]
        obtain ⟨f2, rfl⟩ : ∃ q, f2 = q + 1 := ⟨f2 - 1, by omega⟩
        refine ⟨M1, ?_, fun _ => rfl, fun _ _ _ _ => rfl, fun _ _ => rfl⟩
        show lf_X8_goOrders_24 N (0, M1) _ = _
        unfold lf_X8_goOrders_24 bd_X8_goOrders_24
        dsimp only
        rw [if_pos (show (0 : Int32) = 0 from rfl)]
      · have hp := pv_nx_perm l l2 q1
        have hr := pv_rk_nx l l2 q1
        obtain ⟨M', g1, g2, g3⟩ := ih l2 (stA M1 34 G2) (by omega) (by omega) (fun x hx => h5 x (hp.mem_iff.mp hx)) (by rw [stA_2, if_pos rfl]; exact q3) e35 e1 m36 f2 (by omega)
        exact ⟨M', by rw [c8, q4, b2e]; exact g1, g2, pv_YV.trans (B := stA M1 34 G2) ⟨fun _ _ _ _ => rfl, fun k hk => by rw [stA_2, if_neg hk]⟩ g3⟩
    · cases hr
/-- tryOrders and the reference's loop -/
theorem pv_tryA (N : Nat) (hN : 2000 ≤ N) {t1 t2 : Nat → Nat → Nat} {pl : Nat} {l : List Nat} {B M : St} (hl : l.length ≤ 6) (hpl : pl ≤ 6) (h5 : ∀ x, x ∈ l → x ≤ 5) (hs : l.Pairwise (fun a b => a ≤ b)) (hB : pv_rw (B.2 4) l) (hM : pv_rw (M.2 34) l) (e35 : M.1 35 = nI l.length) (e1 : M.1 1 = nI pl) (m36 : M.1 36 = 0) (m37 : M.1 37 = -6) (m38 : M.1 38 = -6) (hT : l.length ≤ pl → pv_TB t1 t2 l B M) : ∃ B' M' w, f_X1_tryOrders N B (nI l.length) (nI pl) = some B' ∧ fx_it (lf_X8_goOrders_24 N) N (1, M) = some M' ∧ B'.1 5 = nI w ∧ M'.1 36 = nI w ∧ B'.1 6 = M'.1 37 ∧ B'.1 7 = M'.1 38 ∧ w ≤ 720 ∧ (w = 0 ∧ B'.1 6 = -6 ∨ 0 < w ∧ 0 ≤ (B'.1 6).toInt) ∧ pv_YW B B' ∧ pv_YV M M' ∧ (0 < w ↔ l.length ≤ pl ∧ ∃ a, a.Perm l ∧ pv_fe t1 t2 a) := by
  have hfc := pv_fc6 hl
  have Y0 : pv_YW B (stI (stI (stI B 5 0) 6 (-6)) 7 (-6)) := ⟨fun k a b c => by rw [stI_1, if_neg c, stI_1, if_neg b, stI_1, if_neg a], fun _ _ => rfl⟩
  unfold f_X1_tryOrders
  rw [lte, lte, lte]
  by_cases hnp : l.length ≤ pl
  · rw [if_neg (fun q => by have := (pv_lt (by omega) (by omega)).mp q; omega), b1e]
    obtain ⟨B', M', w', g1, g2, g3, g4, g5, g6, g7, g8, g9, g10, g11, g12, g13⟩ := pv_tryL N hN (t1 := t1) (t2 := t2) hl hpl hnp (pv_fc l.length) l 0 0 (stI (stI (stI B 5 0) 6 (-6)) 7 (-6)) M rfl (by omega) (by omega) (by omega) h5 hB hM e35 e1 (hT hnp) rfl m36 m37.symm m38.symm (Or.inl ⟨rfl, rfl⟩) N N (by omega) (by omega)
    refine ⟨B', M', w', ?_, g2, g3, g4, g5, g6, g8, g9, Y0.trans g10, g11, ⟨fun z => ⟨hnp, g12 z⟩, fun ⟨_, a, a1, a2⟩ => g13 a a1 (pv_lx_min l hs a a1) a2⟩⟩
    rw [show ((1 : Int32), (0 : Int32), stI (stI (stI B 5 0) 6 (-6)) 7 (-6)) = (1, nI 0, stI (stI (stI B 5 0) 6 (-6)) 7 (-6)) from rfl, g1, b1e]
  · rw [if_pos ((pv_lt (by omega) (by omega)).mpr (by omega)), b1e]
    obtain ⟨M', g1, g2, g3⟩ := pv_tryN N hN hl hpl hnp (pv_fc l.length) l M rfl (by omega) h5 hM e35 e1 m36 N (by omega)
    refine ⟨stI (stI (stI B 5 0) 6 (-6)) 7 (-6), M', 0, ?_, g1, rfl, (g2 36).trans m36, ?_, ?_, by omega, Or.inl ⟨rfl, rfl⟩, Y0, g3, ⟨fun z => absurd z (Nat.lt_irrefl _), fun z => absurd z.1 hnp⟩⟩
    · obtain ⟨N, rfl⟩ : ∃ q, N = q + 1 := ⟨N - 1, by omega⟩
      rw [show fx_it (lf_X1_tryOrders_31 (N + 1) (nI l.length)) (N + 1) ((0 : Int32), (0 : Int32), stI (stI (stI B 5 0) 6 (-6)) 7 (-6)) = some (stI (stI (stI B 5 0) 6 (-6)) 7 (-6)) from by
        show lf_X1_tryOrders_31 (N + 1) (nI l.length) ((0 : Int32), (0 : Int32), stI (stI (stI B 5 0) 6 (-6)) 7 (-6)) _ = _
        unfold lf_X1_tryOrders_31 bd_X1_tryOrders_31
        dsimp only
        rw [if_neg (by decide), if_pos rfl], b1e]
    · rw [g2 37, m37]; rfl
    · rw [g2 38, m38]; rfl
