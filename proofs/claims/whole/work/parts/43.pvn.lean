/-! orders as lists: the next one, all of them, and how many -/
def pv_lx : List Nat → List Nat → Prop
  | [], [] => True
  | x :: l, y :: a => x < y ∨ (x = y ∧ pv_lx l a)
  | _, _ => False
/-- the last above x changes place with x -/
def pv_rep (x : Nat) : List Nat → Option (Nat × List Nat)
  | [] => none
  | y :: l => match pv_rep x l with
    | some (z, l') => some (z, y :: l')
    | none => if x < y then some (y, x :: l) else none
def pv_nx : List Nat → Option (List Nat)
  | [] => none
  | x :: l => match pv_nx l with
    | some l' => some (x :: l')
    | none => match pv_rep x l with
      | some (z, l') => some (z :: l'.reverse)
      | none => none
theorem pv_rep1 (x y : Nat) (l : List Nat) : pv_rep x (y :: l) = match pv_rep x l with
    | some (z, l') => some (z, y :: l')
    | none => if x < y then some (y, x :: l) else none := rfl
theorem pv_nx1 (x : Nat) (l : List Nat) : pv_nx (x :: l) = match pv_nx l with
    | some l' => some (x :: l')
    | none => match pv_rep x l with
      | some (z, l') => some (z :: l'.reverse)
      | none => none := rfl
theorem pv_rep_perm (x : Nat) : ∀ (l : List Nat) (z : Nat) (l' : List Nat), pv_rep x l = some (z, l') → (z :: l').Perm (x :: l) ∧ x < z := by
  intro l
  induction l with
  | nil => intro z l' h; exact absurd h (by simp [pv_rep])
  | cons y l ih =>
    intro z l' h
    rw [pv_rep1] at h
    cases e : pv_rep x l with
    | some p =>
      obtain ⟨z1, l1⟩ := p
      rw [e] at h
      have h := Option.some.inj h
      obtain ⟨rfl, rfl⟩ := Prod.mk.inj h
      obtain ⟨p1, p2⟩ := ih _ _ e
      exact ⟨(List.Perm.swap y z1 l1).trans ((List.Perm.cons y p1).trans (List.Perm.swap x y l)), p2⟩
    | none =>
      rw [e] at h
      by_cases c : x < y
      · have h : (if x < y then some (y, x :: l) else none) = some (z, l') := h
        rw [if_pos c] at h
        obtain ⟨rfl, rfl⟩ := Prod.mk.inj (Option.some.inj h)
        exact ⟨List.Perm.swap x y l, c⟩
      · have h : (if x < y then some (y, x :: l) else none) = some (z, l') := h
        rw [if_neg c] at h
        exact absurd h (by simp)
theorem pv_rep_none (x : Nat) : ∀ (l : List Nat), pv_rep x l = none → ∀ y, y ∈ l → y ≤ x := by
  intro l
  induction l with
  | nil => intro _ y hy; exact absurd hy (by simp)
  | cons w l ih =>
    intro h y hy
    rw [pv_rep1] at h
    cases e : pv_rep x l with
    | some p => rw [e] at h; exact absurd h (by simp)
    | none =>
      rw [e] at h
      have h : (if x < w then some (w, x :: l) else none) = none := h
      by_cases c : x < w
      · rw [if_pos c] at h; exact absurd h (by simp)
      · rcases List.mem_cons.mp hy with z | z
        · omega
        · exact ih e y z
theorem pv_rep_min (x : Nat) : ∀ (l : List Nat), l.Pairwise (fun a b => b ≤ a) → ∀ (z : Nat) (l' : List Nat), pv_rep x l = some (z, l') → (∀ y, y ∈ l → x < y → z ≤ y) ∧ l'.Pairwise (fun a b => b ≤ a) := by
  intro l
  induction l with
  | nil => intro _ z l' h; exact absurd h (by simp [pv_rep])
  | cons w l ih =>
    intro hp z l' h
    obtain ⟨hw, hp⟩ := List.pairwise_cons.mp hp
    rw [pv_rep1] at h
    cases e : pv_rep x l with
    | some p =>
      obtain ⟨z1, l1⟩ := p
      rw [e] at h
      obtain ⟨rfl, rfl⟩ := Prod.mk.inj (Option.some.inj h)
      obtain ⟨q1, q2⟩ := ih hp _ _ e
      obtain ⟨p1, p2⟩ := pv_rep_perm x l _ _ e
      have hz : z1 ∈ l := by
        have : z1 ∈ x :: l := p1.mem_iff.mp (List.mem_cons_self)
        rcases List.mem_cons.mp this with q | q
        · omega
        · exact q
      refine ⟨fun y hy hxy => ?_, List.pairwise_cons.mpr ⟨fun v hv => ?_, q2⟩⟩
      · rcases List.mem_cons.mp hy with q | q
        · rw [q]; exact hw _ hz
        · exact q1 y q hxy
      · have : v ∈ x :: l := p1.mem_iff.mp (List.mem_cons_of_mem _ hv)
        rcases List.mem_cons.mp this with q | q
        · have := hw _ hz; omega
        · exact hw v q
    | none =>
      rw [e] at h
      have h : (if x < w then some (w, x :: l) else none) = some (z, l') := h
      have hn := pv_rep_none x l e
      by_cases c : x < w
      · rw [if_pos c] at h
        obtain ⟨rfl, rfl⟩ := Prod.mk.inj (Option.some.inj h)
        refine ⟨fun y hy hxy => ?_, List.pairwise_cons.mpr ⟨fun v hv => hn v hv, hp⟩⟩
        rcases List.mem_cons.mp hy with q | q
        · omega
        · have := hn y q; omega
      · rw [if_neg c] at h
        exact absurd h (by simp)
theorem pv_nx_none : ∀ (l : List Nat), pv_nx l = none → l.Pairwise (fun a b => b ≤ a) := by
  intro l
  induction l with
  | nil => intro _; exact List.Pairwise.nil
  | cons x l ih =>
    intro h
    rw [pv_nx1] at h
    cases e : pv_nx l with
    | some p => rw [e] at h; exact absurd h (by simp)
    | none =>
      rw [e] at h
      cases e2 : pv_rep x l with
      | some p => obtain ⟨z, l'⟩ := p; rw [e2] at h; exact absurd h (by simp)
      | none => exact List.pairwise_cons.mpr ⟨fun v hv => pv_rep_none x l e2 v hv, ih e⟩
theorem pv_nx_perm : ∀ (l l' : List Nat), pv_nx l = some l' → l'.Perm l := by
  intro l
  induction l with
  | nil => intro l' h; exact absurd h (by simp [pv_nx])
  | cons x l ih =>
    intro l' h
    rw [pv_nx1] at h
    cases e : pv_nx l with
    | some p =>
      rw [e] at h
      have h := Option.some.inj h
      subst h
      exact List.Perm.cons x (ih _ e)
    | none =>
      rw [e] at h
      cases e2 : pv_rep x l with
      | some p =>
        obtain ⟨z, l1⟩ := p
        rw [e2] at h
        have h := Option.some.inj h
        subst h
        exact (List.Perm.cons z l1.reverse_perm).trans (pv_rep_perm x l _ _ e2).1
      | none => rw [e2] at h; exact absurd h (by simp)
theorem pv_lx_min : ∀ (s : List Nat), s.Pairwise (fun a b => a ≤ b) → ∀ a : List Nat, a.Perm s → pv_lx s a := by
  intro s
  induction s with
  | nil => intro _ a h; rw [h.eq_nil]; trivial
  | cons x s ih =>
    intro hs a h
    obtain ⟨hx, hs1⟩ := List.pairwise_cons.mp hs
    cases a with
    | nil => exact absurd h.symm.eq_nil (by simp)
    | cons y a =>
      show x < y ∨ (x = y ∧ pv_lx s a)
      have hy : y ∈ x :: s := h.mem_iff.mp List.mem_cons_self
      rcases List.mem_cons.mp hy with q | q
      · subst q
        exact Or.inr ⟨rfl, ih hs1 a (List.Perm.cons_inv h)⟩
      · have := hx y q
        by_cases c : x < y
        · exact Or.inl c
        · have e : x = y := by omega
          subst e
          exact Or.inr ⟨rfl, ih hs1 a (List.Perm.cons_inv h)⟩
/-- none is passed over -/
theorem pv_nx_all : ∀ (l a : List Nat), pv_lx l a → a.Perm l → a = l ∨ ∃ l', pv_nx l = some l' ∧ pv_lx l' a := by
  intro l
  induction l with
  | nil => intro a _ h; exact Or.inl h.eq_nil
  | cons x l ih =>
    intro a h hp
    cases a with
    | nil => exact absurd hp.symm.eq_nil (by simp)
    | cons y a =>
      have h0 : x < y ∨ (x = y ∧ pv_lx l a) := h
      rcases h0 with h | ⟨e0, h1⟩
      · right
        have hy : y ∈ l := by
          rcases List.mem_cons.mp (hp.mem_iff.mp (List.mem_cons_self (a := y) (l := a))) with q | q
          · omega
          · exact q
        rw [pv_nx1]
        cases e : pv_nx l with
        | some l1 => exact ⟨_, rfl, Or.inl h⟩
        | none =>
          have hs := pv_nx_none l e
          cases e2 : pv_rep x l with
          | none => have := pv_rep_none x l e2 y hy; omega
          | some p =>
            obtain ⟨z, l1⟩ := p
            refine ⟨_, rfl, ?_⟩
            obtain ⟨q1, q2⟩ := pv_rep_min x l hs z l1 e2
            have := q1 y hy h
            show z < y ∨ (z = y ∧ pv_lx l1.reverse a)
            by_cases c : z < y
            · exact Or.inl c
            · have e3 : z = y := by omega
              subst e3
              refine Or.inr ⟨rfl, pv_lx_min _ (List.pairwise_reverse.mpr q2) a ?_⟩
              have p1 : (z :: a).Perm (z :: l1) := hp.trans (pv_rep_perm x l _ _ e2).1.symm
              exact (List.Perm.cons_inv p1).trans l1.reverse_perm.symm
      · subst e0
        rcases ih a h1 (List.Perm.cons_inv hp) with q | ⟨l', q1, q2⟩
        · exact Or.inl (by rw [q])
        · exact Or.inr ⟨x :: l', by rw [pv_nx1, q1], Or.inr ⟨rfl, q2⟩⟩
