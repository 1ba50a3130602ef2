/-! WARM: sets instead of orders -/
def pv_vv (t1 t2 : Nat → Nat → Nat) (k p x : Nat) : Nat := if t1 k p ≤ min x (t2 k p - 1) then min x (t2 k p - 1) else 0
def pv_Lp (t1 t2 : Nat → Nat → Nat) (o : Nat → Nat) : Nat → Nat
  | 0 => 999
  | p + 1 => pv_vv t1 t2 (o p) p (pv_Lp t1 t2 o p)
theorem pv_Lp_s (t1 t2 : Nat → Nat → Nat) (o : Nat → Nat) (p : Nat) : pv_Lp t1 t2 o (p + 1) = pv_vv t1 t2 (o p) p (pv_Lp t1 t2 o p) := rfl
theorem pv_mo_Lp {t1 t2 : Nat → Nat → Nat} {o : Nat → Nat} : ∀ p, (∀ q, q < p → 1 ≤ t1 (o q) q ∧ t2 (o q) q ≤ 1000) → ∀ m, m ≤ 999 → ((∃ r, pv_mo t1 t2 o p m = some r) ↔ m ≤ pv_Lp t1 t2 o p ∧ 0 < pv_Lp t1 t2 o p) := by
  intro p
  induction p with
  | zero => intro _ m hm; exact ⟨fun _ => ⟨hm, show 0 < 999 by decide⟩, fun _ => ⟨m, rfl⟩⟩
  | succ p ih =>
    intro ht m hm
    have h1 := ht p (by omega)
    have ih := ih (fun q hq => ht q (by omega))
    rw [pv_mo_s, pv_Lp_s]
    unfold pv_vv
    generalize t1 (o p) p = u at *
    generalize t2 (o p) p = w at *
    by_cases z : max m u < w
    · rw [if_pos z, ih (max m u) (by omega)]
      by_cases y : u ≤ min (pv_Lp t1 t2 o p) (w - 1)
      · rw [if_pos y]; omega
      · rw [if_neg y]; omega
    · rw [if_neg z]
      refine ⟨fun ⟨r, hr⟩ => absurd hr (by simp), fun ⟨a, b⟩ => ?_⟩
      by_cases y : u ≤ min (pv_Lp t1 t2 o p) (w - 1)
      · rw [if_pos y] at a b; omega
      · rw [if_neg y] at b; omega
theorem pv_Lp_cong {t1 t2 : Nat → Nat → Nat} {o o' : Nat → Nat} : ∀ p, (∀ q, q < p → o q = o' q) → pv_Lp t1 t2 o p = pv_Lp t1 t2 o' p := by
  intro p
  induction p with
  | zero => intro _; rfl
  | succ p ih =>
    intro h
    rw [pv_Lp_s, pv_Lp_s, ih (fun q hq => h q (by omega)), h p (by omega)]
/-- of loaves by their numbers, the front one first -/
def pv_LL (t1 t2 : Nat → Nat → Nat) (kd : Nat → Nat) : List Nat → Nat
  | [] => 999
  | i :: r => pv_vv t1 t2 (kd i) r.length (pv_LL t1 t2 kd r)
theorem pv_LL_Lp (t1 t2 : Nat → Nat → Nat) (kd : Nat → Nat) : ∀ r : List Nat, pv_Lp t1 t2 (fun j => ((r.map kd).reverse).getD j 0) r.length = pv_LL t1 t2 kd r := by
  intro r
  induction r with
  | nil => rfl
  | cons i r ih =>
    have hl : ((r.map kd).reverse).length = r.length := by rw [List.length_reverse, List.length_map]
    rw [List.length_cons, pv_Lp_s]
    show pv_vv t1 t2 (((i :: r).map kd).reverse.getD r.length 0) r.length _ = pv_vv t1 t2 (kd i) r.length (pv_LL t1 t2 kd r)
    rw [← ih, List.map_cons, List.reverse_cons]
    congr 1
    · rw [List.getD_eq_getElem?_getD, List.getElem?_append_right (by omega), hl, Nat.sub_self]; rfl
    · refine pv_Lp_cong r.length (fun q hq => ?_)
      show ((r.map kd).reverse ++ [kd i]).getD q 0 = _
      rw [List.getD_eq_getElem?_getD, List.getD_eq_getElem?_getD, List.getElem?_append_left (by omega)]
def pv_mxf (f : Nat → Nat) : Nat → Nat
  | 0 => 0
  | i + 1 => max (pv_mxf f i) (f i)
theorem pv_mxf_s (f : Nat → Nat) (i : Nat) : pv_mxf f (i + 1) = max (pv_mxf f i) (f i) := rfl
theorem pv_mxf_ge (f : Nat → Nat) : ∀ n i, i < n → f i ≤ pv_mxf f n := by
  intro n
  induction n with
  | zero => intro i hi; omega
  | succ n ih =>
    intro i hi
    rw [pv_mxf_s]
    by_cases e : i = n
    · subst e; omega
    · have := ih i (by omega); omega
theorem pv_mxf_att (f : Nat → Nat) : ∀ n, pv_mxf f n = 0 ∨ ∃ i, i < n ∧ f i = pv_mxf f n := by
  intro n
  induction n with
  | zero => exact Or.inl rfl
  | succ n ih =>
    rw [pv_mxf_s]
    by_cases e : pv_mxf f n ≤ f n
    · exact Or.inr ⟨n, by omega, by omega⟩
    · rcases ih with z | ⟨i, h1, h2⟩
      · omega
      · exact Or.inr ⟨i, by omega, by omega⟩
theorem pv_mxf_le {f : Nat → Nat} {b : Nat} : ∀ n, (∀ i, i < n → f i ≤ b) → pv_mxf f n ≤ b := by
  intro n
  induction n with
  | zero => intro _; exact Nat.zero_le _
  | succ n ih =>
    intro h
    rw [pv_mxf_s]
    have h1 := ih (fun i hi => h i (by omega))
    have h2 := h n (by omega)
    omega
/-- the latest minute left by a set of so many -/
def pv_V (t1 t2 : Nat → Nat → Nat) (kd : Nat → Nat) (n : Nat) : Nat → Nat → Nat
  | 0, _ => 999
  | c + 1, x => pv_mxf (fun i => if x / 2 ^ i % 2 = 1 then pv_vv t1 t2 (kd i) c (pv_V t1 t2 kd n c (x - 2 ^ i)) else 0) n
theorem pv_V_s (t1 t2 : Nat → Nat → Nat) (kd : Nat → Nat) (n c x : Nat) : pv_V t1 t2 kd n (c + 1) x = pv_mxf (fun i => if x / 2 ^ i % 2 = 1 then pv_vv t1 t2 (kd i) c (pv_V t1 t2 kd n c (x - 2 ^ i)) else 0) n := rfl
theorem pv_vv_le (t1 t2 : Nat → Nat → Nat) (k p x : Nat) : pv_vv t1 t2 k p x ≤ x := by
  unfold pv_vv
  by_cases h : t1 k p ≤ min x (t2 k p - 1)
  · rw [if_pos h]; omega
  · rw [if_neg h]; omega
theorem pv_vv_mono (t1 t2 : Nat → Nat → Nat) (k p : Nat) {x y : Nat} (h : x ≤ y) : pv_vv t1 t2 k p x ≤ pv_vv t1 t2 k p y := by
  unfold pv_vv
  by_cases h1 : t1 k p ≤ min x (t2 k p - 1)
  · rw [if_pos h1, if_pos (by omega)]; omega
  · rw [if_neg h1]; omega
theorem pv_V_le (t1 t2 : Nat → Nat → Nat) (kd : Nat → Nat) (n : Nat) : ∀ c x, pv_V t1 t2 kd n c x ≤ 999 := by
  intro c
  induction c with
  | zero => intro x; exact Nat.le_refl _
  | succ c ih =>
    intro x
    rw [pv_V_s]
    refine pv_mxf_le n (fun i _ => ?_)
    show (if x / 2 ^ i % 2 = 1 then _ else 0) ≤ 999
    by_cases h : x / 2 ^ i % 2 = 1
    · rw [if_pos h]; exact Nat.le_trans (pv_vv_le _ _ _ _ _) (ih _)
    · rw [if_neg h]; omega
def pv_bs : List Nat → Nat
  | [] => 0
  | i :: r => 2 ^ i + pv_bs r
theorem pv_addbit : ∀ y, y < 64 → ∀ j, j < 6 → y / 2 ^ j % 2 = 0 → 2 ^ j + y < 64 ∧ (∀ i, i < 6 → (2 ^ j + y) / 2 ^ i % 2 = if i = j then 1 else y / 2 ^ i % 2) ∧ pv_pc (2 ^ j + y) = pv_pc y + 1 := by decide +kernel
theorem pv_subbit : ∀ x, x < 64 → ∀ j, j < 6 → x / 2 ^ j % 2 = 1 → 2 ^ j ≤ x ∧ (∀ i, i < 6 → (x - 2 ^ j) / 2 ^ i % 2 = if i = j then 0 else x / 2 ^ i % 2) ∧ pv_pc (x - 2 ^ j) + 1 = pv_pc x := by decide +kernel
theorem pv_fulbit : ∀ n, n < 7 → ∀ x, x < 64 → (∀ i, i < 6 → (x / 2 ^ i % 2 = 1 ↔ i < n)) → x = 2 ^ n - 1 := by decide +kernel
theorem pv_fulb : ∀ n, n < 7 → 2 ^ n - 1 < 64 ∧ pv_pc (2 ^ n - 1) = n ∧ ∀ i, i < 6 → ((2 ^ n - 1) / 2 ^ i % 2 = 1 ↔ i < n) := by decide +kernel
theorem pv_bs_f : ∀ r : List Nat, r.Nodup → (∀ i, i ∈ r → i < 6) → pv_bs r < 64 ∧ (∀ i, i < 6 → (pv_bs r / 2 ^ i % 2 = 1 ↔ i ∈ r)) ∧ pv_pc (pv_bs r) = r.length := by
  intro r
  induction r with
  | nil =>
    intro _ _
    refine ⟨by decide, fun i hi => ?_, rfl⟩
    show 0 / 2 ^ i % 2 = 1 ↔ i ∈ []
    rw [Nat.zero_div]
    simp
  | cons j r ih =>
    intro hd hb
    obtain ⟨hj, hd⟩ := List.nodup_cons.mp hd
    obtain ⟨h1, h2, h3⟩ := ih hd (fun i hi => hb i (List.mem_cons_of_mem _ hi))
    have hj6 := hb j List.mem_cons_self
    have hz : pv_bs r / 2 ^ j % 2 = 0 := by
      have := h2 j hj6
      have : ¬ pv_bs r / 2 ^ j % 2 = 1 := fun z => hj (this.mp z)
      omega
    obtain ⟨a1, a2, a3⟩ := pv_addbit (pv_bs r) h1 j hj6 hz
    refine ⟨a1, fun i hi => ?_, ?_⟩
    · show (2 ^ j + pv_bs r) / 2 ^ i % 2 = 1 ↔ _
      rw [a2 i hi, List.mem_cons]
      by_cases e : i = j
      · rw [if_pos e]; exact ⟨fun _ => Or.inl e, fun _ => rfl⟩
      · rw [if_neg e, h2 i hi]
        exact ⟨Or.inr, fun z => z.resolve_left e⟩
    · show pv_pc (2 ^ j + pv_bs r) = _
      rw [a3, h3, List.length_cons]
theorem pv_cl1 {t1 t2 : Nat → Nat → Nat} {kd : Nat → Nat} {n : Nat} (hn : n ≤ 6) : ∀ r : List Nat, r.Nodup → (∀ i, i ∈ r → i < n) → pv_LL t1 t2 kd r ≤ pv_V t1 t2 kd n r.length (pv_bs r) := by
  intro r
  induction r with
  | nil => intro _ _; exact Nat.le_refl _
  | cons j r ih =>
    intro hd hb
    obtain ⟨hj, hd1⟩ := List.nodup_cons.mp hd
    have ih := ih hd1 (fun i hi => hb i (List.mem_cons_of_mem _ hi))
    have hjn := hb j List.mem_cons_self
    obtain ⟨-, b2, -⟩ := pv_bs_f (j :: r) hd (fun i hi => Nat.lt_of_lt_of_le (hb i hi) hn)
    rw [List.length_cons, pv_V_s]
    refine Nat.le_trans ?_ (pv_mxf_ge _ n j hjn)
    show pv_vv t1 t2 (kd j) r.length (pv_LL t1 t2 kd r) ≤ if pv_bs (j :: r) / 2 ^ j % 2 = 1 then _ else 0
    rw [if_pos ((b2 j (by omega)).mpr List.mem_cons_self), show pv_bs (j :: r) - 2 ^ j = pv_bs r from Nat.add_sub_cancel_left _ _]
    exact pv_vv_mono _ _ _ _ ih
theorem pv_cl2 {t1 t2 : Nat → Nat → Nat} {kd : Nat → Nat} {n : Nat} (hn : n ≤ 6) (ht : ∀ i p, i < n → p < n → 1 ≤ t1 (kd i) p) : ∀ c x, c ≤ n → x < 64 → pv_pc x = c → (∀ i, i < 6 → x / 2 ^ i % 2 = 1 → i < n) → pv_V t1 t2 kd n c x = 0 ∨ ∃ r : List Nat, r.Nodup ∧ (∀ i, i ∈ r → i < n) ∧ pv_bs r = x ∧ r.length = c ∧ pv_LL t1 t2 kd r = pv_V t1 t2 kd n c x := by
  intro c
  induction c with
  | zero =>
    intro x _ hx hp _
    have := (pv_pc_le x hx).2 hp
    subst this
    exact Or.inr ⟨[], List.nodup_nil, fun i hi => absurd hi (by simp), rfl, rfl, rfl⟩
  | succ c ih =>
    intro x hc hx hp hb
    rcases pv_mxf_att (fun i => if x / 2 ^ i % 2 = 1 then pv_vv t1 t2 (kd i) c (pv_V t1 t2 kd n c (x - 2 ^ i)) else 0) n with z | ⟨i, hi, z⟩
    · exact Or.inl z
    · rw [pv_V_s, ← z]
      show (if x / 2 ^ i % 2 = 1 then pv_vv t1 t2 (kd i) c (pv_V t1 t2 kd n c (x - 2 ^ i)) else 0) = 0 ∨ ∃ r : List Nat, r.Nodup ∧ (∀ i, i ∈ r → i < n) ∧ pv_bs r = x ∧ r.length = c + 1 ∧ pv_LL t1 t2 kd r = (if x / 2 ^ i % 2 = 1 then pv_vv t1 t2 (kd i) c (pv_V t1 t2 kd n c (x - 2 ^ i)) else 0)
      by_cases y : x / 2 ^ i % 2 = 1
      · rw [if_pos y]
        obtain ⟨s1, s2, s3⟩ := pv_subbit x hx i (by omega) y
        rcases ih (x - 2 ^ i) (by omega) (Nat.lt_of_le_of_lt (Nat.sub_le _ _) hx) (by omega) (fun j hj hq => by
          rw [s2 j hj] at hq
          by_cases e : j = i
          · omega
          · rw [if_neg e] at hq; exact hb j hj hq) with w | ⟨r, r1, r2, r3, r4, r5⟩
        · left
          rw [w]
          have := ht i c hi (by omega)
          unfold pv_vv
          rw [if_neg (by omega)]
        · right
          have hir : i ∉ r := fun q => by
            obtain ⟨-, b2, -⟩ := pv_bs_f r r1 (fun i hi => Nat.lt_of_lt_of_le (r2 i hi) hn)
            have h1 := (b2 i (by omega)).mpr q
            rw [r3, s2 i (by omega), if_pos rfl] at h1
            omega
          refine ⟨i :: r, List.nodup_cons.mpr ⟨hir, r1⟩, fun j hj => ?_, ?_, by rw [List.length_cons, r4], ?_⟩
          · rcases List.mem_cons.mp hj with e | e
            · omega
            · exact r2 j e
          · show 2 ^ i + pv_bs r = x
            omega
          · show pv_vv t1 t2 (kd i) r.length (pv_LL t1 t2 kd r) = _
            rw [r4, r5]
      · rw [if_neg y]; exact Or.inl rfl
theorem pv_perm_map {kd : Nat → Nat} : ∀ {a b : List Nat}, a.Perm b → ∀ idx : List Nat, b = idx.map kd → ∃ idx' : List Nat, idx'.Perm idx ∧ a = idx'.map kd := by
  intro a b h
  induction h with
  | nil => intro idx e; exact ⟨idx, List.Perm.refl _, e⟩
  | cons x h ih =>
    intro idx e
    cases idx with
    | nil => exact absurd e (by simp)
    | cons i idx =>
      rw [List.map_cons] at e
      obtain ⟨e1, e2⟩ := List.cons.inj e
      obtain ⟨idx', p, q⟩ := ih idx e2
      exact ⟨i :: idx', List.Perm.cons i p, by rw [List.map_cons, e1, q]⟩
  | swap x y l =>
    intro idx e
    cases idx with
    | nil => exact absurd e (by simp)
    | cons i idx =>
      cases idx with
      | nil => exact absurd e (by simp)
      | cons j idx =>
        rw [List.map_cons, List.map_cons] at e
        obtain ⟨e1, e2⟩ := List.cons.inj e
        obtain ⟨e3, e4⟩ := List.cons.inj e2
        exact ⟨j :: i :: idx, List.Perm.swap i j idx, by rw [List.map_cons, List.map_cons, e1, e3, e4]⟩
  | trans h1 h2 ih1 ih2 =>
    intro idx e
    obtain ⟨i2, p2, q2⟩ := ih2 idx e
    obtain ⟨i1, p1, q1⟩ := ih1 i2 q2
    exact ⟨i1, p1.trans p2, q1⟩
/-- some order can be, if and only if the whole set leaves a minute -/
theorem pv_some_V {t1 t2 : Nat → Nat → Nat} {kd : Nat → Nat} {n : Nat} (hn : n ≤ 6) (ht : ∀ i p, i < n → p < n → 1 ≤ t1 (kd i) p ∧ t2 (kd i) p ≤ 1000) : (∃ a : List Nat, a.Perm (pv_li kd 0 n) ∧ pv_fe t1 t2 a) ↔ 0 < pv_V t1 t2 kd n n (2 ^ n - 1) := by
  have fe : ∀ r : List Nat, (∀ i, i ∈ r → i < n) → r.length = n → (pv_fe t1 t2 ((r.map kd).reverse) ↔ 0 < pv_LL t1 t2 kd r) := by
    intro r hr hl
    unfold pv_fe
    have hlen : ((r.map kd).reverse).length = r.length := by rw [List.length_reverse, List.length_map]
    rw [hlen, pv_mo_Lp r.length (fun q hq => by
      have hm : ((r.map kd).reverse).getD q 0 ∈ (r.map kd).reverse := pv_getD_mem (by omega)
      obtain ⟨i, h1, h2⟩ := List.mem_map.mp (List.mem_reverse.mp hm)
      show 1 ≤ t1 (((r.map kd).reverse).getD q 0) q ∧ t2 (((r.map kd).reverse).getD q 0) q ≤ 1000
      rw [← h2]
      exact ht i q (hr i h1) (by omega)) 0 (by omega), pv_LL_Lp]
    exact ⟨fun z => z.2, fun z => ⟨Nat.zero_le _, z⟩⟩
  constructor
  · rintro ⟨a, ha, hf⟩
    obtain ⟨idx, p, rfl⟩ := pv_perm_map ha (List.range' 0 n) rfl
    have hnd : idx.Nodup := List.Nodup.perm (List.nodup_range') p.symm
    have hmem : ∀ i, i ∈ idx ↔ i < n := fun i => by
      rw [p.mem_iff, List.mem_range'_1]; omega
    have hlen : idx.length = n := by rw [p.length_eq, List.length_range']
    have hr1 : idx.reverse.Nodup := List.Nodup.perm hnd idx.reverse_perm.symm
    have hr2 : ∀ i, i ∈ idx.reverse → i < n := fun i hi => (hmem i).mp (List.mem_reverse.mp hi)
    have hrl : idx.reverse.length = n := by rw [List.length_reverse, hlen]
    have e : ((idx.reverse).map kd).reverse = idx.map kd := by rw [List.map_reverse, List.reverse_reverse]
    have h1 := (fe idx.reverse hr2 hrl).mp (by rw [e]; exact hf)
    have h2 := pv_cl1 (t1 := t1) (t2 := t2) (kd := kd) hn idx.reverse hr1 hr2
    obtain ⟨b1, b2, -⟩ := pv_bs_f idx.reverse hr1 (fun i hi => Nat.lt_of_lt_of_le (hr2 i hi) hn)
    have h3 := pv_fulbit n (by omega) (pv_bs idx.reverse) b1 (fun i hi => by
      rw [b2 i hi, List.mem_reverse]; exact hmem i)
    rw [hrl, h3] at h2
    omega
  · intro h
    obtain ⟨c1, c2, c3⟩ := pv_fulb n (by omega)
    rcases pv_cl2 (t1 := t1) (t2 := t2) (kd := kd) hn (fun i p a b => (ht i p a b).1) n (2 ^ n - 1) (Nat.le_refl _) c1 c2 (fun i hi => (c3 i hi).mp) with z | ⟨r, r1, r2, r3, r4, r5⟩
    · omega
    · obtain ⟨-, b2, -⟩ := pv_bs_f r r1 (fun i hi => Nat.lt_of_lt_of_le (r2 i hi) hn)
      have hp : r.Perm (List.range' 0 n) := (List.perm_ext_iff_of_nodup r1 List.nodup_range').mpr (fun i => by
        rw [List.mem_range'_1]
        refine ⟨fun z => ⟨Nat.zero_le _, by have := r2 i z; omega⟩, fun z => ?_⟩
        have := (b2 i (by omega)).mp (by rw [r3]; exact (c3 i (by omega)).mpr (by omega))
        exact this)
      refine ⟨(r.map kd).reverse, (List.reverse_perm _).trans (hp.map kd), (fe r r2 r4).mpr (by omega)⟩
