/-- of a place: every sight's loaf could have stood there -/
def pv_al (O T : St) (p n : Nat) : Prop := ∀ k, k < n → ∃ v f1 f2, T.2 1 k = nI v ∧ v ≤ 5000 ∧ pv_Q O p v f1 f2 ∧ f1 < min f2 100
theorem pv_Q.uniq {O : St} {p v f1 f2 g1 g2 : Nat} (h : pv_Q O p v f1 f2) (h' : pv_Q O p v g1 g2) : f1 = g1 ∧ f2 = g2 := by
  obtain ⟨h, c, L, e1, e2, e3, l1, l2, l3, F1, F2⟩ := h
  obtain ⟨h', c', L', e1', e2', e3', l1', l2', l3', G1, G2⟩ := h'
  rw [e1, pv_eq (by omega) (by omega)] at e1'
  rw [e2, pv_eq (by omega) (by omega)] at e2'
  rw [e3, pv_eq (by omega) (by omega)] at e3'
  subst e1'; subst e2'; subst e3'
  exact ⟨F1.uniq G1, F2.uniq G2⟩
theorem pv_al_s {O T : St} {p k v f1 f2 : Nat} (ev : T.2 1 k = nI v) (hv : v ≤ 5000) (hQ : pv_Q O p v f1 f2) : pv_al O T p (k + 1) ↔ (pv_al O T p k ∧ f1 < min f2 100) := by
  constructor
  · intro h
    refine ⟨fun j hj => h j (by omega), ?_⟩
    obtain ⟨v', g1, g2, e, hv', hQ', hl⟩ := h k (by omega)
    rw [ev, pv_eq (by omega) (by omega)] at e
    subst e
    obtain ⟨rfl, rfl⟩ := hQ.uniq hQ'
    exact hl
  · rintro ⟨h1, h2⟩ j hj
    by_cases e : j = k
    · subst e; exact ⟨v, f1, f2, ev, hv, hQ, h2⟩
    · exact h1 j (by omega)
theorem pv_both7 (N : Nat) (hN : 2000 ≤ N) {O S T P : St} (D E B : St) (hI : pv_I O S T P) {p mt : Nat} (hp : p < 6) (emt : T.1 0 = nI mt) (hmt : mt ≤ 6) (x1 : Int32) : ∃ v : Int32, fx_it (lf_X7_both_23 N x1 (nI p) O S T P D E B) N ((1 : Int32), (0 : Int32)) = some v ∧ ((v = 1 ∧ pv_al O T p mt) ∨ (v = 0 ∧ ¬ pv_al O T p mt)) := by
  obtain ⟨hO, hS, ⟨t0, t1⟩, hP⟩ := id hI
  obtain ⟨r, hr, he⟩ := pv_it (b := lf_X7_both_23 N x1 (nI p) O S T P D E B) (fun s => ∃ k : Nat, s.2 = nI k ∧ k ≤ mt ∧ ((s.1 = 1 ∧ pv_al O T p k) ∨ (s.1 = 0 ∧ ¬ pv_al O T p k))) (fun s => mt - s.2.toNatClampNeg) (fun v => (v = 1 ∧ pv_al O T p mt) ∨ (v = 0 ∧ ¬ pv_al O T p mt)) (by
    rintro ⟨a, b⟩ ⟨k, e1, hk, h⟩
    dsimp only at e1 h
    subst e1
    by_cases hkm : k = mt
    · subst hkm
      refine Or.inl ⟨a, h, fun rec => ?_⟩
      unfold lf_X7_both_23 bd_X7_both_23
      dsimp only
      rw [emt, if_pos (Int32.le_refl _)]
    · have hne : ¬ nI mt ≤ nI k := fun z => by have := (pv_le (by omega) (by omega)).mp z; omega
      rcases h with ⟨rfl, hal⟩ | ⟨rfl, hal⟩
      · have hk6 : k < 6 := by omega
        obtain ⟨v, ev, hv⟩ := pv_num (t1 k hk6)
        obtain ⟨f1, f2, hQ, hc, -⟩ := pv_Q_class N hN S T P D E B hO hp (show v ≤ 5000 by omega)
        have hal2 := pv_al_s ev (by omega) hQ
        have hstep : ∀ rec : Int32 × Int32 → Option Int32, lf_X7_both_23 N x1 (nI p) O S T P D E B ((1 : Int32), nI k) rec = if nI (min f2 100 - f1) ≤ 0 then rec (0, nI (k + 1)) else rec (1, nI (k + 1)) := by
          intro rec
          unfold lf_X7_both_23 bd_X7_both_23
          dsimp only
          rw [emt, if_neg hne, if_neg (by decide), pv_aldn hk6 (by omega), ev, hc, b1e, lte, lte, nI_1]
        have mes : mt - (nI (k + 1)).toNatClampNeg < mt - (nI k).toNatClampNeg := by rw [nI_clamp (by omega), nI_clamp (by omega)]; omega
        by_cases hl : f1 < min f2 100
        · refine Or.inr ⟨((1 : Int32), nI (k + 1)), ⟨k + 1, rfl, by omega, Or.inl ⟨rfl, hal2.mpr ⟨hal, hl⟩⟩⟩, mes, fun rec => by rw [hstep, if_neg (fun z => by have := (pv_le (b := 0) (by omega) (by omega)).mp z; omega)]⟩
        · refine Or.inr ⟨((0 : Int32), nI (k + 1)), ⟨k + 1, rfl, by omega, Or.inr ⟨rfl, fun z => hl (hal2.mp z).2⟩⟩, mes, fun rec => by rw [hstep, if_pos (show nI (min f2 100 - f1) ≤ (0 : Int32) from (pv_le (b := 0) (by omega) (by omega)).mpr (by omega))]⟩
      · refine Or.inl ⟨0, Or.inr ⟨rfl, fun z => hal (fun j hj => z j (by omega))⟩, fun rec => ?_⟩
        unfold lf_X7_both_23 bd_X7_both_23
        dsimp only
        rw [emt, if_neg hne, if_pos rfl]) N ((1 : Int32), (0 : Int32)) ⟨0, rfl, by omega, Or.inl ⟨rfl, fun j hj => by omega⟩⟩ (by show mt - 0 < N; omega)
  exact ⟨r, he, hr⟩
theorem pv_both8 (N : Nat) (hN : 2000 ≤ N) {O S T P M M1 : St} (hI : pv_I O S T P) (hR : pv_R O S T P M) (hX : pv_X M M1) {p mt : Nat} (hp : p < 6) (emt : T.1 0 = nI mt) (hmt : mt ≤ 6) (x1 : Int32) : ∃ r : Int32 × St, (pv_X M r.2 ∧ ((r.1 = 1 ∧ pv_al O T p mt) ∨ (r.1 = 0 ∧ ¬ pv_al O T p mt))) ∧ fx_it (lf_X8_both_17 N x1 (nI p)) N ((1 : Int32), (0 : Int32), M1) = some r := by
  obtain ⟨hO, hS, ⟨t0, t1⟩, hP⟩ := id hI
  refine pv_it (b := lf_X8_both_17 N x1 (nI p)) (fun s => pv_X M s.2.2 ∧ ∃ k : Nat, s.2.1 = nI k ∧ k ≤ mt ∧ ((s.1 = 1 ∧ pv_al O T p k) ∨ (s.1 = 0 ∧ ¬ pv_al O T p k))) (fun s => mt - s.2.1.toNatClampNeg) _ ?_ N _ ⟨hX, 0, rfl, by omega, Or.inl ⟨rfl, fun j hj => by omega⟩⟩ (by show mt - 0 < N; omega)
  rintro ⟨a, b, M2⟩ ⟨hX2, k, e1, hk, h⟩
  dsimp only at hX2 e1 h
  subst e1
  have hR2 := hX2.R hR
  by_cases hkm : k = mt
  · subst hkm
    refine Or.inl ⟨(a, M2), ⟨hX2, h⟩, fun rec => ?_⟩
    unfold lf_X8_both_17 bd_X8_both_17
    dsimp only
    rw [hR2.2.2.1.1, emt, if_pos (Int32.le_refl _)]
  · have hne : ¬ nI mt ≤ nI k := fun z => by have := (pv_le (by omega) (by omega)).mp z; omega
    have hk6 : k < 6 := by omega
    obtain ⟨v, ev, hv⟩ := pv_num (t1 k hk6)
    obtain ⟨f1, f2, hQ, -, -⟩ := pv_Q_class N hN S T P T P P hO hp (show v ≤ 5000 by omega)
    have hal2 := pv_al_s ev (by omega) hQ
    have hX3 : pv_X M (stI M2 40 0) := hX2.trans (pv_X.I 40 _ (by omega))
    have hR3 := hX3.R hR
    have hm := pv_Q_model N hN hp (by omega) hQ hR3.1 (K := 0) rfl (by omega) (-6)
    rw [stI_same, Nat.zero_add] at hm
    have hX4 : pv_X M (stI M2 40 (nI (min f2 100 - f1))) := hX2.trans (pv_X.I 40 _ (by omega))
    have hstep : ∀ rec : Int32 × Int32 × St → Option (Int32 × St), lf_X8_both_17 N x1 (nI p) (a, nI k, M2) rec = if a = 0 then rec (0, nI (k + 1), stI M2 40 (nI (min f2 100 - f1))) else if nI (min f2 100 - f1) ≤ 0 then rec (0, nI (k + 1), stI M2 40 (nI (min f2 100 - f1))) else rec (1, nI (k + 1), stI M2 40 (nI (min f2 100 - f1))) := by
      intro rec
      unfold lf_X8_both_17 bd_X8_both_17
      dsimp only
      rw [hR2.2.2.1.1, emt, if_neg hne, lte, pv_aldn hk6 (by omega), hR3.2.2.1.2 k hk6, ev, hm, b2e]
      simp only [lte, nI_1]
      rfl
    have mes : mt - (nI (k + 1)).toNatClampNeg < mt - (nI k).toNatClampNeg := by rw [nI_clamp (by omega), nI_clamp (by omega)]; omega
    rcases h with ⟨rfl, hal⟩ | ⟨rfl, hal⟩
    · by_cases hl : f1 < min f2 100
      · exact Or.inr ⟨((1 : Int32), nI (k + 1), stI M2 40 (nI (min f2 100 - f1))), ⟨hX4, k + 1, rfl, by omega, Or.inl ⟨rfl, hal2.mpr ⟨hal, hl⟩⟩⟩, mes, fun rec => by rw [hstep, if_neg (by decide), if_neg (fun z => by have := (pv_le (b := 0) (by omega) (by omega)).mp z; omega)]⟩
      · exact Or.inr ⟨((0 : Int32), nI (k + 1), stI M2 40 (nI (min f2 100 - f1))), ⟨hX4, k + 1, rfl, by omega, Or.inr ⟨rfl, fun z => hl (hal2.mp z).2⟩⟩, mes, fun rec => by rw [hstep, if_neg (by decide), if_pos (show nI (min f2 100 - f1) ≤ (0 : Int32) from (pv_le (b := 0) (by omega) (by omega)).mpr (by omega))]⟩
    · exact Or.inr ⟨((0 : Int32), nI (k + 1), stI M2 40 (nI (min f2 100 - f1))), ⟨hX4, k + 1, rfl, by omega, Or.inr ⟨rfl, fun z => hal (hal2.mp z).1⟩⟩, mes, fun rec => by rw [hstep, if_pos rfl]⟩
theorem op_both (N : Nat) (hN : 2000 ≤ N) {O S T P M : St} (D E B : St) (hI : pv_I O S T P) (hR : pv_R O S T P M) : ∃ (r : Int32) (M' : St), f_X7_both N O S T P D E B = some r ∧ f_X8_both N M = some (r, M') ∧ pv_X M M' := by
  obtain ⟨hO, hS, ⟨t0, t1⟩, hP⟩ := id hI
  obtain ⟨i0, i1, -⟩ := id hO
  obtain ⟨n, en, hn⟩ := pv_num (b := 6) ⟨by omega, i1.2⟩
  obtain ⟨mt, emt, hmt⟩ := pv_num t0
  have both : ∀ (d p : Nat), p + d = n → ∀ (bits : Int32) (M1 : St), pv_X M M1 → ∀ n1 n2 : Nat, d < n1 → d < n2 → ∃ (r : Int32) (M' : St), fx_it (lf_X7_both_4 N O S T P D E B) n1 (bits, nI p) = some r ∧ fx_it (lf_X8_both_4 N) n2 (bits, nI p, M1) = some (r, M') ∧ pv_X M M' := by
    intro d
    induction d with
    | zero =>
      intro p hp bits M1 hX n1 n2 h1 h2
      obtain ⟨n1, rfl⟩ : ∃ q, n1 = q + 1 := ⟨n1 - 1, by omega⟩
      obtain ⟨n2, rfl⟩ : ∃ q, n2 = q + 1 := ⟨n2 - 1, by omega⟩
      have hpn : p = n := by omega
      subst hpn
      refine ⟨bits, M1, ?_, ?_, hX⟩
      · show lf_X7_both_4 N O S T P D E B (bits, nI p) _ = _
        unfold lf_X7_both_4 bd_X7_both_4
        dsimp only
        rw [en, if_pos (Int32.le_refl _)]
      · show lf_X8_both_4 N (bits, nI p, M1) _ = _
        unfold lf_X8_both_4 bd_X8_both_4
        dsimp only
        rw [(hX.R hR).1.2.1, en, if_pos (Int32.le_refl _)]
    | succ d ih =>
      intro p hp bits M1 hX n1 n2 h1 h2
      obtain ⟨n1, rfl⟩ : ∃ q, n1 = q + 1 := ⟨n1 - 1, by omega⟩
      obtain ⟨n2, rfl⟩ : ∃ q, n2 = q + 1 := ⟨n2 - 1, by omega⟩
      have hne : ¬ nI n ≤ nI p := fun z => by have := (pv_le (by omega) (by omega)).mp z; omega
      obtain ⟨v, hv, hv2⟩ := pv_both7 N hN D E B hI (show p < 6 by omega) emt (by omega) bits
      obtain ⟨⟨a, M2⟩, ⟨hX2, ha⟩, he⟩ := pv_both8 N hN hI hR hX (show p < 6 by omega) emt (by omega) bits
      dsimp only at hX2 ha
      have hav : a = v := by
        rcases ha with ⟨rfl, z⟩ | ⟨rfl, z⟩ <;> rcases hv2 with ⟨rfl, z'⟩ | ⟨rfl, z'⟩
        · rfl
        · exact absurd z z'
        · exact absurd z' z
        · rfl
      subst hav
      have e7 : fx_it (lf_X7_both_4 N O S T P D E B) (n1 + 1) (bits, nI p) = if a = 0 then fx_it (lf_X7_both_4 N O S T P D E B) n1 (bits, nI (p + 1)) else fx_it (lf_X7_both_4 N O S T P D E B) n1 (bits ||| ((1 : Int32) <<< (nI p &&& 31)), nI (p + 1)) := by
        show lf_X7_both_4 N O S T P D E B (bits, nI p) _ = _
        unfold lf_X7_both_4 bd_X7_both_4
        dsimp only
        rw [en, if_neg hne, hv, b1e, lte, lte, lte, nI_1]
      have e8 : fx_it (lf_X8_both_4 N) (n2 + 1) (bits, nI p, M1) = if a = 0 then fx_it (lf_X8_both_4 N) n2 (bits, nI (p + 1), M2) else fx_it (lf_X8_both_4 N) n2 (bits ||| ((1 : Int32) <<< (nI p &&& 31)), nI (p + 1), M2) := by
        show lf_X8_both_4 N (bits, nI p, M1) _ = _
        unfold lf_X8_both_4 bd_X8_both_4
        dsimp only
        rw [(hX.R hR).1.2.1, en, if_neg hne, he, b2e, lte, lte, lte, lte, nI_1, Int32.or_zero]
      rw [e7, e8]
      by_cases ha0 : a = 0
      · rw [if_pos ha0, if_pos ha0]
        exact ih (p + 1) (by omega) bits M2 hX2 n1 n2 (by omega) (by omega)
      · rw [if_neg ha0, if_neg ha0]
        exact ih (p + 1) (by omega) _ M2 hX2 n1 n2 (by omega) (by omega)
  unfold f_X7_both f_X8_both
  obtain ⟨r, M', q1, q2, q3⟩ := both n 0 (by omega) 0 M (pv_X.rf M) N N (by omega) (by omega)
  rw [show ((0 : Int32), (0 : Int32)) = ((0 : Int32), nI 0) from rfl, q1, b1e, show (((0 : Int32), (0 : Int32), M) : Int32 × Int32 × St) = ((0 : Int32), nI 0, M) from rfl, q2, b2e]
  exact ⟨r, M', rfl, rfl, q3⟩
/-! doors opened in some minutes -/
def pv_hs (h c d : Nat) (bt : Nat → Bool) : Nat → Nat
  | 0 => h
  | i + 1 => pv_hs h c d bt i - (c + if bt i then d else 0)
def pv_ds (h c d L : Nat) (bt : Nat → Bool) : Nat → Nat
  | 0 => 0
  | i + 1 => pv_ds h c d L bt i + (pv_hs h c d bt i - L)
theorem pv_hs_le (h c d : Nat) (bt : Nat → Bool) (i : Nat) : pv_hs h c d bt i ≤ h := by
  induction i with
  | zero => exact Nat.le_refl _
  | succ i ih => simp only [pv_hs]; omega
theorem pv_ds_le (h c d L : Nat) (bt : Nat → Bool) (i : Nat) : pv_ds h c d L bt i ≤ h * i := by
  induction i with
  | zero => exact Nat.zero_le _
  | succ i ih => simp only [pv_ds]; have := pv_hs_le h c d bt i; rw [Nat.mul_succ]; omega
def pv_bt (x : Int32) (i : Nat) : Bool := decide (((x >>> (nI i &&& 31)) &&& (1 : Int32)) = 1)
theorem pv_mx {u v : Nat} (hu : u < 1073741824) (hv : v < 1073741824) : (if (0 : Int32) < nI u - nI v then nI u - nI v else 0) = nI (u - v) := by
  have e : (nI u - nI v).toInt = (u : Int) - v := pk_sub_toInt (by omega) (by omega)
  by_cases z : v < u
  · rw [if_pos (by rw [Int32.lt_iff_toInt_lt, e, t32_0]; omega), pk_sub (by omega)]
  · rw [if_neg (by rw [Int32.lt_iff_toInt_lt, e, t32_0]; omega), show u - v = 0 by omega]; rfl
theorem pv_doors7 (N : Nat) (hN : 1000 ≤ N) {O : St} {p m h c d L : Nat} (hp : p < 6) (hm : m ≤ 100) (eh : O.1 2 = nI h) (ec : O.1 3 = nI c) (ed : O.1 4 = nI d) (eL : O.2 6 p = nI L) (hh : h ≤ 99) (hc : c ≤ 9) (hd : d ≤ 9) (hL : L ≤ 9) (x : Int32) : f_X3_bakedByDoors N O (nI p) (nI m) x = some (nI (pv_ds h c d L (pv_bt x) m)) := by
  unfold f_X3_bakedByDoors
  have hrun := pv_run (b := lf_X3_bakedByDoors_12 N (nI p) (nI m) x O) (fun i => (nI (pv_ds h c d L (pv_bt x) i), nI (pv_hs h c d (pv_bt x) i), nI i)) m (nI (pv_ds h c d L (pv_bt x) m)) (fun i hi rec => by
    have h1 := pv_hs_le h c d (pv_bt x) i
    unfold lf_X3_bakedByDoors_12 bd_X3_bakedByDoors_12
    dsimp only
    rw [if_neg (fun z => by have := (pv_le (by omega) (by omega)).mp z; omega), pv_aldn hp (by omega), eL, lte, lte, pv_mx (by omega) (by omega), nI_add]
    rw [show (if ((x >>> (nI i &&& 31)) &&& (1 : Int32)) = 1 then some (O.1 4) else some (0 : Int32)) = some (nI (if pv_bt x i then d else 0)) by
      by_cases z : ((x >>> (nI i &&& 31)) &&& (1 : Int32)) = 1
      · rw [if_pos z, ed, if_pos (show pv_bt x i = true from decide_eq_true z)]
      · rw [if_neg z, if_neg (show ¬ pv_bt x i = true from fun q => z (of_decide_eq_true q))]; rfl]
    rw [b1e, ec, lte, lte, nI_1]
    have hd2 : (if pv_bt x i then d else 0) ≤ 9 := by split <;> omega
    congr 2
    · congr 1
      rw [show nI (pv_hs h c d (pv_bt x) i) - nI c - nI (if pv_bt x i then d else 0) = nI (pv_hs h c d (pv_bt x) i) - nI (c + (if pv_bt x i then d else 0)) by rw [← nI_add, Int32.sub_sub]]
      rw [pv_mx (by omega) (by omega)]
      rfl) (fun rec => by
    unfold lf_X3_bakedByDoors_12 bd_X3_bakedByDoors_12
    dsimp only
    rw [if_pos (Int32.le_refl _)]) N 0 (by omega) (by omega)
  rw [show (((0 : Int32), O.1 2, (0 : Int32)) : Int32 × Int32 × Int32) = (nI (pv_ds h c d L (pv_bt x) 0), nI (pv_hs h c d (pv_bt x) 0), nI 0) by rw [eh]; rfl, hrun, b1e]
theorem pv_doors8 (N : Nat) (hN : 1000 ≤ N) {M : St} {p m h c d L : Nat} (hp : p < 6) (hm : m ≤ 100) (eh : M.1 2 = nI h) (ec : M.1 3 = nI c) (ed : M.1 4 = nI d) (eL : M.2 6 p = nI L) (hh : h ≤ 99) (hc : c ≤ 9) (hd : d ≤ 9) (hL : L ≤ 9) (x : Int32) : f_X8_bakedBy N M (nI p) (nI m) x = some (nI (pv_ds h c d L (pv_bt x) m)) := by
  unfold f_X8_bakedBy
  have hrun := pv_run (b := lf_X8_bakedBy_12 N (nI p) (nI m) x M) (fun i => (nI (pv_hs h c d (pv_bt x) i), nI (pv_ds h c d L (pv_bt x) i), nI i)) m (nI (pv_ds h c d L (pv_bt x) m)) (fun i hi rec => by
    have h1 := pv_hs_le h c d (pv_bt x) i
    unfold lf_X8_bakedBy_12 bd_X8_bakedBy_12
    dsimp only
    rw [if_neg (fun z => by have := (pv_le (by omega) (by omega)).mp z; omega), pv_aldn hp (by omega), pv_aldn hp (by omega), eL, pv_tsub (by omega) (by omega), b1e, lte, nI_add]
    rw [show (if ((x >>> (nI i &&& 31)) &&& (1 : Int32)) = 1 then some (M.1 4) else some (0 : Int32)) = some (nI (if pv_bt x i then d else 0)) by
      by_cases z : ((x >>> (nI i &&& 31)) &&& (1 : Int32)) = 1
      · rw [if_pos z, ed, if_pos (show pv_bt x i = true from decide_eq_true z)]
      · rw [if_neg z, if_neg (show ¬ pv_bt x i = true from fun q => z (of_decide_eq_true q))]; rfl]
    have hd2 : (if pv_bt x i then d else 0) ≤ 9 := by split <;> omega
    rw [b1e, ec, nI_add, lte, lte, lte, nI_1]
    have e : (nI (pv_hs h c d (pv_bt x) i) - nI (c + (if pv_bt x i then d else 0))).toInt = (pv_hs h c d (pv_bt x) i : Int) - (c + (if pv_bt x i then d else 0) : Nat) := pk_sub_toInt (by omega) (by omega)
    have eq : pv_hs h c d (pv_bt x) (i + 1) = pv_hs h c d (pv_bt x) i - (c + (if pv_bt x i then d else 0)) := rfl
    by_cases z : c + (if pv_bt x i then d else 0) ≤ pv_hs h c d (pv_bt x) i
    · rw [if_pos (by rw [Int32.le_iff_toInt_le, e, t32_0]; omega), pk_sub z]; rfl
    · rw [if_neg (by rw [Int32.le_iff_toInt_le, e, t32_0]; omega), eq, show pv_hs h c d (pv_bt x) i - (c + (if pv_bt x i then d else 0)) = 0 by omega]; rfl) (fun rec => by
    unfold lf_X8_bakedBy_12 bd_X8_bakedBy_12
    dsimp only
    rw [if_pos (Int32.le_refl _)]) N 0 (by omega) (by omega)
  rw [show ((M.1 2, (0 : Int32), (0 : Int32)) : Int32 × Int32 × Int32) = (nI (pv_hs h c d (pv_bt x) 0), nI (pv_ds h c d L (pv_bt x) 0), nI 0) by rw [eh]; rfl, hrun, b1e]
