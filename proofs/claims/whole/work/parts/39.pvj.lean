/-! the calls about a day -/
theorem pv_play (N : Nat) (hN : 100 ≤ N) {O S P M : St} (D E : St) {n rows : Nat} (hI : pv_IO O) (hIS : pv_IS S) (hR : pv_RO O M) (hRS : pv_RS S M) (hrw : 1 ≤ rows) (hrw4 : rows ≤ 4) (er : O.1 0 = nI rows) (en : P.1 0 = nI n) (hn6 : n ≤ 60) (hok : ∀ j, j < n → pv_ok (P.2 1) rows j) (hp : pv_prs (P.2 1) n M) : ∃ D' E' M', f_X2_play N D E P O S = some (D', E') ∧ f_X8_goDay N M = some M' ∧ pv_IO E' ∧ pv_RO E' M' ∧ pv_W M M' ∧ pv_RD D' M' ∧ (D'.1 2 = -6 ∧ D'.1 1 = M'.1 22 ∨ ∃ k, k ≤ 60 ∧ D'.1 2 = nI k) := by
  obtain ⟨A, qA, hA⟩ := pv_copyFrom N (A := E) hI.2.2.2.2.2.1
  have wM : pv_W M (stI (stI (stI M 24 (-6)) 25 (-6)) 26 (-6)) := ((pv_W.I 24 _ (by omega)).trans (pv_W.I 25 _ (by omega))).trans (pv_W.I 26 _ (by omega))
  obtain ⟨D', E', M', f1, f2, f3, f4, f5, f6, f7⟩ := pv_go N hN (O := O) hIS hrw hrw4 en hn6 hok n 0 (by omega) (stI (stI (stI (stI D 1 0) 2 (-6)) 3 (-6)) 4 (-6)) A (stI (stI (stI M 24 (-6)) 25 (-6)) 26 (-6)) 0 (hA.IO hI) (hA.RO hR) hRS (hR.1.trans er) (wM.prs hp) ⟨rfl, rfl, rfl, Or.inl rfl⟩ rfl rfl (fun z => absurd (show false = true from z) (by decide)) N N (by omega) (by omega)
  refine ⟨D', E', M', ?_, ?_, f3, f4, wM.trans f5, f6, ?_⟩
  · unfold f_X2_play
    rw [qA, b1e, lte, lte, lte, lte, show (((0 : Int32), (0 : Int32), stI (stI (stI (stI D 1 0) 2 (-6)) 3 (-6)) 4 (-6), A) : Int32 × Int32 × St × St) = (0, nI 0, stI (stI (stI (stI D 1 0) 2 (-6)) 3 (-6)) 4 (-6), A) from rfl, f1]
    rfl
  · unfold f_X8_goDay
    rw [lte, lte, lte, show (((0 : Int32), stI (stI (stI M 24 (-6)) 25 (-6)) 26 (-6)) : Int32 × St) = (nI (pv_kn (P.2 1) 0), stI (stI (stI M 24 (-6)) 25 (-6)) 26 (-6)) from rfl, f2]
    rfl
  · rcases f7 with ⟨a, b⟩ | h
    · exact Or.inl ⟨a, b.trans ((f5.1 22 (by omega) (by omega) (by omega) (by omega) (by omega)).trans hp.1).symm⟩
    · exact Or.inr h
theorem pv_backRO {O M0 M3 M5 : St} (hR : pv_RO O M0) (h0 : M3.1 0 = M0.1 0) (h1 : M3.1 1 = M0.1 1) (h3 : M3.1 3 = M0.1 3) (h4 : M3.1 4 = M0.1 4) (h6 : M3.2 6 = M0.2 6) (z : pv_Z M3 M5) (b2 : M5.1 2 = M0.1 2) (b5 : M5.1 5 = M0.1 5) (b13 : pv_RA 24 (M5.2 13) (M0.2 13)) (b14 : pv_RA 24 (M5.2 14) (M0.2 14)) (b12 : pv_RA 4 (M5.2 12) (M0.2 12)) (b15 : pv_RA 4 (M5.2 15) (M0.2 15)) : pv_RO O M5 := by
  obtain ⟨r0, r1, r2, r3, r4, r5, r6, r12, r13, r14, r15⟩ := hR
  refine ⟨(z.1 0 (by omega) (by omega)).trans (h0.trans r0), (z.1 1 (by omega) (by omega)).trans (h1.trans r1), b2.trans r2, (z.1 3 (by omega) (by omega)).trans (h3.trans r3), (z.1 4 (by omega) (by omega)).trans (h4.trans r4), b5.trans r5, ?_, fun j hj => (b12 j hj).trans (r12 j hj), fun j hj => (b13 j hj).trans (r13 j hj), fun j hj => (b14 j hj).trans (r14 j hj), fun j hj => (b15 j hj).trans (r15 j hj)⟩
  rw [z.2 6 (by omega) (by omega) (by omega) (by omega), h6]
  exact r6
/-- slots that a day leaves -/
def pv_L (M M' : St) : Prop := M'.1 7 = M.1 7 ∧ M'.2 8 = M.2 8 ∧ M'.2 9 = M.2 9 ∧ M'.2 10 = M.2 10 ∧ M'.2 11 = M.2 11 ∧ M'.1 17 = M.1 17 ∧ M'.2 16 = M.2 16 ∧ M'.1 19 = M.1 19 ∧ M'.2 18 = M.2 18 ∧ M'.2 42 = M.2 42 ∧ M'.2 43 = M.2 43
theorem pv_L.trans {A B C : St} (h : pv_L A B) (h' : pv_L B C) : pv_L A C := by
  obtain ⟨a1, a2, a3, a4, a5, a6, a7, a8, a9, a10, a11⟩ := h
  obtain ⟨b1, b2, b3, b4, b5, b6, b7, b8, b9, b10, b11⟩ := h'
  exact ⟨b1.trans a1, b2.trans a2, b3.trans a3, b4.trans a4, b5.trans a5, b6.trans a6, b7.trans a7, b8.trans a8, b9.trans a9, b10.trans a10, b11.trans a11⟩
theorem pv_W.L {M M' : St} (h : pv_W M M') : pv_L M M' :=
  ⟨h.1 7 (by omega) (by omega) (by omega) (by omega) (by omega), h.2 8 (by omega) (by omega) (by omega) (by omega), h.2 9 (by omega) (by omega) (by omega) (by omega), h.2 10 (by omega) (by omega) (by omega) (by omega), h.2 11 (by omega) (by omega) (by omega) (by omega), h.1 17 (by omega) (by omega) (by omega) (by omega) (by omega), h.2 16 (by omega) (by omega) (by omega) (by omega), h.1 19 (by omega) (by omega) (by omega) (by omega) (by omega), h.2 18 (by omega) (by omega) (by omega) (by omega), h.2 42 (by omega) (by omega) (by omega) (by omega), h.2 43 (by omega) (by omega) (by omega) (by omega)⟩
theorem pv_X.L {M M' : St} (h : pv_X M M') : pv_L M M' :=
  ⟨(h.1 7 (by omega)).1, (h.1 8 (by omega)).2, (h.1 9 (by omega)).2, (h.1 10 (by omega)).2, (h.1 11 (by omega)).2, (h.1 17 (by omega)).1, (h.1 16 (by omega)).2, (h.1 19 (by omega)).1, (h.1 18 (by omega)).2, h.2.1, h.2.2⟩
theorem pv_L.R {O S T P M M' : St} (h : pv_L M M') (hO : pv_RO O M') (hS : pv_RS S M) (hT : pv_RT T M) (hP : pv_RP P M) : pv_R O S T P M' := by
  obtain ⟨a1, a2, a3, a4, a5, a6, a7, a8, a9, a10, a11⟩ := h
  unfold pv_RS at hS
  unfold pv_RT at hT
  unfold pv_RP at hP
  rw [← a1, ← a2, ← a3, ← a4, ← a5] at hS
  rw [← a6, ← a7] at hT
  rw [← a8, ← a9] at hP
  exact ⟨hO, hS, hT, hP⟩
theorem pv_L.K {M M' : St} (h : pv_L M M') : pv_K M M' := h.2.2.2.2.2.2.2.2.2
set_option maxHeartbeats 1000000 in
theorem pv_refusal (N : Nat) (hN : 100 ≤ N) {O S T P M : St} (D E B : St) (hI : pv_I O S T P) (hR : pv_R O S T P M) : ∃ (v : Int32) (D' E' M' : St), f_X7_playDay N O S T P D E B = some (v, D', E') ∧ pv_R O S T P M' ∧ pv_L M M' ∧ (v = -5 ∧ f_X8_refusal N M = some (-5, M') ∨ (∃ v', f_X8_refusal N M = some (v', M') ∧ (v = 0 ∧ v' = -6 ∨ v = -3 ∧ v' = -3)) ∧ pv_RD D' M' ∧ (∀ j, j < 4 → M'.2 27 j = E'.2 10 j - O.2 10 j) ∧ (v = 0 → ∃ M6 M7, f_X8_goDay N M' = some M6 ∧ f_X8_putBack N M6 = some M7 ∧ pv_IO E' ∧ pv_RO E' M6 ∧ pv_L M M6 ∧ D'.1 1 = M6.1 22 ∧ pv_L M M7 ∧ pv_RO O M7)) := by
  obtain ⟨hRO, hRS, hRT, hRP⟩ := id hR
  obtain ⟨hO, hS, hT, hP⟩ := id hI
  obtain ⟨r, M1, n, rows, w1, w2, y, en, hn6, er, hr1, hr4, w3⟩ := pv_fault N hN hI hR
  rcases w3 with ⟨rfl, hp, hok, -⟩ | hr0
  · have hR1 : pv_R O S T P M1 := y.X.R hR
    obtain ⟨M2, k1, k2, k3, k4⟩ := pv_keepNow N hN M1
    have l12 : pv_L M1 M2 := ⟨k2 _, k3 _ (by omega), k3 _ (by omega), k3 _ (by omega), k3 _ (by omega), k2 _, k3 _ (by omega), k2 _, k3 _ (by omega), k3 _ (by omega), k3 _ (by omega)⟩
    have hRO2 : pv_RO O M2 := by
      have h := hR1.1
      unfold pv_RO at h ⊢
      rw [k2, k2, k2, k2, k2, k2, k3 6 (by omega), k3 12 (by omega), k3 13 (by omega), k3 14 (by omega), k3 15 (by omega)]
      exact h
    have hp2 : pv_prs (P.2 1) n M2 := by
      unfold pv_prs at hp ⊢
      rw [k2, k3 20 (by omega), k3 21 (by omega)]
      exact hp
    have hRS2 : pv_RS S M2 := (l12.R hRO2 hR1.2.1 hR1.2.2.1 hR1.2.2.2).2.1
    obtain ⟨D', E', M3, f1, f2, f3, f4, f5, f6, f7⟩ := pv_play N hN D E hO hS hRO2 hRS2 hr1 hr4 er en hn6 hok hp2
    obtain ⟨M4, t1, t2, t3, t4⟩ := pv_outToday N hN M3
    have h23 : M3.2 23 = M2.2 23 := f5.2 23 (by omega) (by omega) (by omega) (by omega)
    have had4 : pv_had (M4.2 23) M1 := by rw [t3 23 (by omega), h23]; exact k4
    obtain ⟨M5, u1, u2, u3, u4, u5, u6, u7, u8⟩ := pv_putBack N hN M4 had4
    have e1 : ∀ k, k ≠ 2 → k ≠ 5 → k ≠ 24 → k ≠ 25 → k ≠ 26 → M4.1 k = M1.1 k := fun k a b c d e => (t2 k).trans ((f5.1 k a b c d e).trans (k2 k))
    have e2 : ∀ k, k ≠ 12 → k ≠ 13 → k ≠ 14 → k ≠ 15 → k ≠ 23 → k ≠ 27 → M4.2 k = M1.2 k := fun k a b c d e f => (t3 k f).trans ((f5.2 k a b c d).trans (k3 k e))
    have hRO5 : pv_RO O M5 := pv_backRO hR1.1 (e1 0 (by omega) (by omega) (by omega) (by omega) (by omega)) (e1 1 (by omega) (by omega) (by omega) (by omega) (by omega)) (e1 3 (by omega) (by omega) (by omega) (by omega) (by omega)) (e1 4 (by omega) (by omega) (by omega) (by omega) (by omega)) (e2 6 (by omega) (by omega) (by omega) (by omega) (by omega) (by omega)) u2 u3 u4 u5 u6 u7 u8
    have l34 : pv_L M3 M4 := ⟨t2 _, t3 _ (by omega), t3 _ (by omega), t3 _ (by omega), t3 _ (by omega), t2 _, t3 _ (by omega), t2 _, t3 _ (by omega), t3 _ (by omega), t3 _ (by omega)⟩
    have l5 : pv_L M M5 := (((y.X.L.trans l12).trans f5.L).trans l34).trans u2.W.L
    have hRD5 : pv_RD D' M5 := by
      unfold pv_RD
      rw [u2.1 24 (by omega) (by omega), u2.1 25 (by omega) (by omega), u2.1 26 (by omega) (by omega), t2, t2, t2]
      exact f6
    have h27 : ∀ j, j < 4 → M5.2 27 j = E'.2 10 j - O.2 10 j := by
      intro j hj
      rw [u2.2 27 (by omega) (by omega) (by omega) (by omega), t4 j hj, f4.2.2.2.2.2.2.2.2.2.2 j hj, h23, (k4.2.1 j hj).2, hR1.1.2.2.2.2.2.2.2.2.2.2 j hj]
    have hp5 : pv_prs (P.2 1) n M5 := by
      have := u2.W.prs (M := M4) (s := P.2 1) (n := n) (by
        unfold pv_prs
        rw [e1 22 (by omega) (by omega) (by omega) (by omega) (by omega), e2 20 (by omega) (by omega) (by omega) (by omega) (by omega) (by omega), e2 21 (by omega) (by omega) (by omega) (by omega) (by omega) (by omega)]
        exact hp)
      exact this
    have hR5 : pv_R O S T P M5 := l5.R hRO5 hRS hRT hRP
    have hd24 : M5.1 24 = D'.1 2 := hRD5.1.symm
    have hplay : f_X7_playDay N O S T P D E B = some (if D'.1 2 = -6 then 0 else -3, D', E') := by
      unfold f_X7_playDay
      rw [w1, b1e, if_pos rfl, f1, b2e]
      by_cases z : D'.1 2 = -6
      · rw [if_pos z, if_pos z]
      · rw [if_neg z, if_neg z]
    have href : f_X8_refusal N M = some (if D'.1 2 = -6 then -6 else -3, M5) := by
      unfold f_X8_refusal
      rw [w2, b2e, if_pos (by decide), k1, b1e, f2, b1e, t1, b1e, u1, b1e, hd24]
      rcases f7 with ⟨a, b⟩ | ⟨k, hk, ek⟩
      · rw [a, if_pos (by decide), if_pos rfl]
      · rw [ek, if_neg (show ¬ nI k < (0 : Int32) from fun z => by have := (pv_lt (b := 0) (by omega) (by omega)).mp z; omega), if_neg (pv_m6 k (by omega))]
    refine ⟨_, D', E', M5, hplay, hR5, l5, Or.inr ⟨⟨_, href, ?_⟩, hRD5, h27, fun hv => ?_⟩⟩
    · by_cases z : D'.1 2 = -6
      · rw [if_pos z, if_pos z]; exact Or.inl ⟨rfl, rfl⟩
      · rw [if_neg z, if_neg z]; exact Or.inr ⟨rfl, rfl⟩
    · have hz : D'.1 2 = -6 := by
        by_cases z : D'.1 2 = -6
        · exact z
        · rw [if_neg z] at hv; exact absurd hv (by decide)
      obtain ⟨D6, E6, M6, g1, g2, g3, g4, g5, g6, g7⟩ := pv_play N hN D E hO hS hRO5 hR5.2.1 hr1 hr4 er en hn6 hok hp5
      have heq := Option.some.inj (g1.symm.trans f1)
      obtain ⟨rfl, rfl⟩ := Prod.mk.inj heq
      have had6 : pv_had (M6.2 23) M1 := by
        rw [g5.2 23 (by omega) (by omega) (by omega) (by omega), u2.2 23 (by omega) (by omega) (by omega) (by omega)]
        exact had4
      obtain ⟨M7, v1, v2, v3, v4, v5, v6, v7, v8⟩ := pv_putBack N hN M6 had6
      have c1 : ∀ k, k ≠ 2 → k ≠ 5 → k ≠ 24 → k ≠ 25 → k ≠ 26 → M6.1 k = M1.1 k := fun k a b c d e => (g5.1 k a b c d e).trans ((u2.1 k a b).trans (e1 k a b c d e))
      have hRO7 : pv_RO O M7 := pv_backRO hR1.1 (c1 0 (by omega) (by omega) (by omega) (by omega) (by omega)) (c1 1 (by omega) (by omega) (by omega) (by omega) (by omega)) (c1 3 (by omega) (by omega) (by omega) (by omega) (by omega)) (c1 4 (by omega) (by omega) (by omega) (by omega) (by omega)) ((g5.2 6 (by omega) (by omega) (by omega) (by omega)).trans ((u2.2 6 (by omega) (by omega) (by omega) (by omega)).trans (e2 6 (by omega) (by omega) (by omega) (by omega) (by omega) (by omega)))) v2 v3 v4 v5 v6 v7 v8
      refine ⟨M6, M7, g2, v1, g3, g4, l5.trans g5.L, ?_, (l5.trans g5.L).trans v2.W.L, hRO7⟩
      rcases g7 with ⟨_, b⟩ | ⟨k, hk, ek⟩
      · exact b
      · exact absurd (ek.symm.trans hz) (pv_m6 k (by omega))
  · refine ⟨-5, D, E, M1, ?_, y.X.R hR, y.X.L, Or.inl ⟨rfl, ?_⟩⟩
    · unfold f_X7_playDay
      rw [w1, b1e, if_neg (fun z => by rw [z] at hr0; exact absurd hr0 (by decide))]
    · unfold f_X8_refusal
      rw [w2, b2e, if_neg (fun z => by rw [Int32.lt_iff_toInt_lt, t32_0] at z; omega)]
