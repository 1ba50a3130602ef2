/-! the step itself, for both -/
def pv_rw (F : Nat → Int32) (l : List Nat) : Prop := ∀ j, j < l.length → F j = nI (l.getD j 0)
theorem pv_li_of (l : List Nat) : pv_li (fun j => l.getD j 0) 0 l.length = l := by
  apply List.ext_getElem
  · rw [pv_li_len]
  · intro t h1 h2
    rw [pv_li_get, Nat.zero_add, List.getD_eq_getElem?_getD, List.getElem?_eq_getElem h2]; rfl
theorem pv_li_getD (o : Nat → Nat) (n j : Nat) (h : j < n) : (pv_li o 0 n).getD j 0 = o j := by
  have h2 : j < (pv_li o 0 n).length := by rw [pv_li_len]; exact h
  rw [List.getD_eq_getElem?_getD, List.getElem?_eq_getElem h2, pv_li_get, Nat.zero_add]; rfl
theorem pv_swap7 (N : Nat) (S : St) {a b : Nat} (ha : a < 6) (hb : b < 6) : f_X1_swap N S (nI a) (nI b) = some (stA S 4 (pv_sw (S.2 4) a b)) := by
  unfold f_X1_swap
  rw [pv_aldn ha (by omega), pv_aldn hb (by omega), pv_astn ha (by omega), pv_astn hb (by omega), stA_same, stA_2, if_pos rfl]; rfl
theorem pv_swap8 (N : Nat) (S : St) {a b : Nat} (ha : a < 6) (hb : b < 6) : f_X8_change N S (nI a) (nI b) = some (stA S 34 (pv_sw (S.2 34) a b)) := by
  unfold f_X8_change
  rw [pv_aldn ha (by omega), pv_aldn hb (by omega), pv_astn ha (by omega), pv_astn hb (by omega), stA_same, stA_2, if_pos rfl]; rfl
theorem pv_sw_e (F : Nat → Int32) {a b : Nat} (h : a ≠ b) (j : Nat) : pv_sw F a b j = if j = b then F a else if j = a then F b else F j := by
  unfold pv_sw
  by_cases e1 : j = b
  · rw [if_pos e1, e1, pv_uself]
  · rw [if_neg e1, pv_une e1]
    by_cases e2 : j = a
    · rw [if_pos e2, e2, pv_uself]
    · rw [if_neg e2, pv_une e2]
theorem pv_stG {F G : Nat → Int32} {o : Nat → Nat} {n i g : Nat} (hF : ∀ j, j < n → F j = nI (o j)) (hi : i < g) (hg : g < n) (G1 : ∀ j, j < i + 1 ∨ n - 1 < j → G j = pv_sw F i g j) (G2 : ∀ j, i + 1 ≤ j → j ≤ n - 1 → G j = pv_sw F i g (i + 1 + (n - 1) - j)) : ∃ o', pv_stp o o' n i g ∧ ∀ j, j < n → G j = nI (o' j) := by
  refine ⟨fun j => if j < i then o j else if j = i then o g else pv_un o g (o i) (n + i - j), ⟨fun j hj => if_pos hj, ?_, fun t ht => ?_⟩, fun j hj => ?_⟩
  · show (if i < i then o i else if i = i then o g else pv_un o g (o i) (n + i - i)) = o g
    rw [if_neg (by omega), if_pos rfl]
  · show (if i + 1 + t < i then o (i + 1 + t) else if i + 1 + t = i then o g else pv_un o g (o i) (n + i - (i + 1 + t))) = _
    rw [if_neg (by omega), if_neg (by omega), show n + i - (i + 1 + t) = n - 1 - t by omega]
  · show G j = nI (if j < i then o j else if j = i then o g else pv_un o g (o i) (n + i - j))
    by_cases h1 : j < i
    · rw [if_pos h1, G1 j (by omega), pv_sw_e F (by omega), if_neg (by omega), if_neg (by omega), hF j hj]
    · rw [if_neg h1]
      by_cases h2 : j = i
      · rw [if_pos h2, G1 j (by omega), pv_sw_e F (by omega), if_neg (by omega), if_pos h2, hF g hg]
      · rw [if_neg h2, G2 j (by omega) (by omega), show i + 1 + (n - 1) - j = n + i - j by omega, pv_sw_e F (by omega)]
        unfold pv_un
        by_cases h3 : n + i - j = g
        · rw [if_pos h3, if_pos h3, hF i (by omega)]
        · rw [if_neg h3, if_neg h3, if_neg (by omega), hF _ (by omega)]
theorem pv_tw2 (m : Nat) (hm : 1 ≤ m) : nI m - 2 = nI (m - 1) - 1 := by
  by_cases h : m = 1
  · subst h; decide
  · rw [pv_tw (m - 1) (by omega), pv_two, pk_sub (show 2 ≤ m by omega)]; rfl
theorem pv_step7 (N : Nat) (hN : 100 ≤ N) {B : St} {l : List Nat} (hl : l.length ≤ 6) (hr : pv_rw (B.2 4) l) (h5 : ∀ x, x ∈ l → x ≤ 5) : (pv_nx l = none ∧ f_X1_stepOrder N B (nI l.length) = some (0, B)) ∨ (∃ l' G, pv_nx l = some l' ∧ l'.length = l.length ∧ pv_rw G l' ∧ f_X1_stepOrder N B (nI l.length) = some (1, stA B 4 G)) := by
  generalize hn : l.length = n at hl hr ⊢
  by_cases hz : n = 0
  · subst hz
    have : l = [] := List.length_eq_zero_iff.mp hn
    subst this
    refine Or.inl ⟨rfl, ?_⟩
    unfold f_X1_stepOrder
    obtain ⟨N, rfl⟩ : ∃ q, N = q + 1 := ⟨N - 1, by omega⟩
    rw [lte, show fx_it (lf_X1_stepOrder_4 (N + 1) (nI 0) B) (N + 1) (nI 0 - 2) = some (nI 0 - 2) from by
      show lf_X1_stepOrder_4 (N + 1) (nI 0) B (nI 0 - 2) _ = _
      unfold lf_X1_stepOrder_4 bd_X1_stepOrder_4
      rw [if_pos (show nI 0 - 2 < 0 by decide)], b1e, if_neg (by decide)]
  have ho : ∀ j, j < n → l.getD j 0 ≤ 5 := fun j hj => by
    rw [List.getD_eq_getElem?_getD, List.getElem?_eq_getElem (by omega)]
    exact h5 _ (List.getElem_mem _)
  have hF : ∀ j, j < n → B.2 4 j = nI (l.getD j 0) := fun j hj => hr j (by omega)
  generalize hoo : (fun j => l.getD j 0) = o
  have e0 : ∀ j, l.getD j 0 = o j := fun j => by rw [← hoo]
  have hll : l = pv_li o 0 n := by rw [← hoo, ← hn, pv_li_of]
  simp only [e0] at ho hF
  unfold f_X1_stepOrder
  rw [lte, pv_tw2 n (by omega)]
  rcases pv_piv (b := lf_X1_stepOrder_4 N (nI n) B) hl hF ho (fun _ _ => rfl) (n - 1) (by omega) (fun j h1 h2 => by omega) N (by omega) with ⟨i, p1, p2, p3, p4⟩ | ⟨p1, p2⟩
  · right
    rw [p2, b1e, if_pos (show (0 : Int32) ≤ nI i from (pv_le (a := 0) (by omega) (by omega)).mpr (by omega)), lte, pv_tw n (by omega)]
    obtain ⟨g, g1, g2, g3, g4, g5⟩ := pv_grt (b := lf_X1_stepOrder_41 N (nI n) (nI i) B) (n := n) p1 p3 (fun t t1 t2 rec => by
      unfold lf_X1_stepOrder_41 bd_X1_stepOrder_41
      rw [nI_1]
      have q1 := ho t t2
      have q2 := ho i (by omega)
      by_cases z : t = i + 1
      · subst z
        rw [if_pos ((pv_le (by omega) (by omega)).mpr (by omega)), if_pos p3]
      · rw [if_neg (fun w => by have := (pv_le (by omega) (by omega)).mp w; omega), pv_aldn (by omega) (by omega), pv_aldn (by omega) (by omega), hF t t2, hF i (by omega), lte, ← pv_subneg, pv_tw t (by omega)]
        by_cases w : o i < o t
        · rw [if_pos w, if_pos ((pv_lt (by omega) (by omega)).mpr w)]
        · rw [if_neg w, if_neg (fun q => w ((pv_lt (by omega) (by omega)).mp q))]) (n - 1 - (i + 1)) (n - 1) (by omega) (by omega) (fun j a b => by omega) N (by omega)
    rw [g3, b1e, pv_swap7 N B (by omega) (by omega), b1e, lte, lte, nI_1]
    obtain ⟨G, r1, r2, r3⟩ := pv_rvs (b := lf_X1_stepOrder_85 N) (fun lo hi S => (nI hi, nI lo, S)) 4 (fun lo hi S h1 h2 rec => by
      unfold lf_X1_stepOrder_85 bd_X1_stepOrder_85
      dsimp only
      by_cases z : hi ≤ lo
      · rw [if_pos z, if_pos ((pv_le (by omega) (by omega)).mpr z)]
      · rw [if_neg z, if_neg (fun q => z ((pv_le (by omega) (by omega)).mp q)), pv_swap7 N S (by omega) (by omega), b1e, lte, lte, nI_1, ← pv_subneg, pv_tw hi (by omega)]) 6 (i + 1) (n - 1) (stA B 4 (pv_sw (B.2 4) i g)) (by omega) (by omega) (by omega) N (by omega)
    rw [show ((nI (n - 1), nI (i + 1), stA B 4 (pv_sw (B.2 4) i g)) : Int32 × Int32 × St) = (fun (lo hi : Nat) (S : St) => (nI hi, nI lo, S)) (i + 1) (n - 1) (stA B 4 (pv_sw (B.2 4) i g)) from rfl, r1, b1e, stA_same]
    obtain ⟨o', s1, s2⟩ := pv_stG (G := G) hF g1 g2 (fun j hj => by rw [r2 j hj, stA_2, if_pos rfl]) (fun j a b => by rw [r3 j a b, stA_2, if_pos rfl])
    have hx := pv_nx_li (o := o) (o' := o') p1 p4 g1 g2 g4 g5 s1 i 0 (by omega)
    rw [Nat.sub_zero, ← hll] at hx
    refine ⟨pv_li o' 0 n, G, hx, by rw [pv_li_len], fun j hj => ?_, rfl⟩
    rw [pv_li_len] at hj
    rw [s2 j hj, pv_li_getD o' n j hj]
  · left
    rw [p1, b1e, if_neg (by decide)]
    refine ⟨?_, rfl⟩
    rw [hll]
    exact pv_nx_no (n := n) n 0 (by omega) (fun j _ h => p2 j h)
theorem pv_step8 (N : Nat) (hN : 100 ≤ N) {M : St} {l : List Nat} (hl : l.length ≤ 6) (hm : M.1 35 = nI l.length) (hr : pv_rw (M.2 34) l) (h5 : ∀ x, x ∈ l → x ≤ 5) : (pv_nx l = none ∧ f_X8_nextRow N M = some (0, M)) ∨ (∃ l' G, pv_nx l = some l' ∧ l'.length = l.length ∧ pv_rw G l' ∧ f_X8_nextRow N M = some (1, stA M 34 G)) := by
  generalize hn : l.length = n at hl hr hm ⊢
  by_cases hz : n = 0
  · subst hz
    have : l = [] := List.length_eq_zero_iff.mp hn
    subst this
    refine Or.inl ⟨rfl, ?_⟩
    unfold f_X8_nextRow
    obtain ⟨N, rfl⟩ : ∃ q, N = q + 1 := ⟨N - 1, by omega⟩
    rw [lte, hm, show fx_it (lf_X8_nextRow_7 (N + 1) M) (N + 1) (nI 0 - 2) = some (nI 0 - 2) from by
      show lf_X8_nextRow_7 (N + 1) M (nI 0 - 2) _ = _
      unfold lf_X8_nextRow_7 bd_X8_nextRow_7
      rw [if_pos (show nI 0 - 2 < 0 by decide)], b1e, if_neg (by decide)]
  have ho : ∀ j, j < n → l.getD j 0 ≤ 5 := fun j hj => by
    rw [List.getD_eq_getElem?_getD, List.getElem?_eq_getElem (by omega)]
    exact h5 _ (List.getElem_mem _)
  have hF : ∀ j, j < n → M.2 34 j = nI (l.getD j 0) := fun j hj => hr j (by omega)
  generalize hoo : (fun j => l.getD j 0) = o
  have e0 : ∀ j, l.getD j 0 = o j := fun j => by rw [← hoo]
  have hll : l = pv_li o 0 n := by rw [← hoo, ← hn, pv_li_of]
  simp only [e0] at ho hF
  unfold f_X8_nextRow
  rw [lte, hm, pv_tw2 n (by omega)]
  rcases pv_piv (b := lf_X8_nextRow_7 N M) hl hF ho (fun _ _ => rfl) (n - 1) (by omega) (fun j h1 h2 => by omega) N (by omega) with ⟨i, p1, p2, p3, p4⟩ | ⟨p1, p2⟩
  · right
    rw [p2, b1e, if_pos (show (0 : Int32) ≤ nI i from (pv_le (a := 0) (by omega) (by omega)).mpr (by omega)), lte, pv_tw n (by omega)]
    obtain ⟨g, g1, g2, g3, g4, g5⟩ := pv_grt (b := lf_X8_nextRow_47 N (nI i) M) (n := n) p1 p3 (fun t t1 t2 rec => by
      unfold lf_X8_nextRow_47 bd_X8_nextRow_47
      have q1 := ho t t2
      have q2 := ho i (by omega)
      rw [pv_aldn (by omega) (by omega), pv_aldn (by omega) (by omega), hF t t2, hF i (by omega), lte, ← pv_subneg, pv_tw t (by omega)]
      by_cases w : o i < o t
      · rw [if_pos w, if_pos ((pv_lt (by omega) (by omega)).mpr w)]
      · rw [if_neg w, if_neg (fun q => w ((pv_lt (by omega) (by omega)).mp q))]) (n - 1 - (i + 1)) (n - 1) (by omega) (by omega) (fun j a b => by omega) N (by omega)
    rw [g3, b1e, pv_swap8 N M (by omega) (by omega), b1e, lte, lte, nI_1, show (stA M 34 (pv_sw (M.2 34) i g)).1 35 = nI n from hm, pv_tw n (by omega)]
    obtain ⟨G, r1, r2, r3⟩ := pv_rvs (b := lf_X8_nextRow_86 N) (fun lo hi S => (nI lo, nI hi, S)) 34 (fun lo hi S h1 h2 rec => by
      unfold lf_X8_nextRow_86 bd_X8_nextRow_86
      dsimp only
      by_cases z : hi ≤ lo
      · rw [if_pos z, if_pos ((pv_le (by omega) (by omega)).mpr z)]
      · rw [if_neg z, if_neg (fun q => z ((pv_le (by omega) (by omega)).mp q)), pv_swap8 N S (by omega) (by omega), b1e, lte, lte, nI_1, ← pv_subneg, pv_tw hi (by omega)]) 6 (i + 1) (n - 1) (stA M 34 (pv_sw (M.2 34) i g)) (by omega) (by omega) (by omega) N (by omega)
    rw [show ((nI (i + 1), nI (n - 1), stA M 34 (pv_sw (M.2 34) i g)) : Int32 × Int32 × St) = (fun (lo hi : Nat) (S : St) => (nI lo, nI hi, S)) (i + 1) (n - 1) (stA M 34 (pv_sw (M.2 34) i g)) from rfl, r1, b1e, stA_same]
    obtain ⟨o', s1, s2⟩ := pv_stG (G := G) hF g1 g2 (fun j hj => by rw [r2 j hj, stA_2, if_pos rfl]) (fun j a b => by rw [r3 j a b, stA_2, if_pos rfl])
    have hx := pv_nx_li (o := o) (o' := o') p1 p4 g1 g2 g4 g5 s1 i 0 (by omega)
    rw [Nat.sub_zero, ← hll] at hx
    refine ⟨pv_li o' 0 n, G, hx, by rw [pv_li_len], fun j hj => ?_, rfl⟩
    rw [pv_li_len] at hj
    rw [s2 j hj, pv_li_getD o' n j hj]
  · left
    rw [p1, b1e, if_neg (by decide)]
    refine ⟨?_, rfl⟩
    rw [hll]
    exact pv_nx_no (n := n) n 0 (by omega) (fun j _ h => p2 j h)
