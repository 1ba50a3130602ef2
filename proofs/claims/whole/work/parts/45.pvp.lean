/-! the next order, in rows and in lists -/
def pv_li (o : Nat → Nat) (a d : Nat) : List Nat := (List.range' a d).map o
def pv_un (o : Nat → Nat) (g x : Nat) : Nat → Nat := fun j => if j = g then x else o j
theorem pv_li_s (o : Nat → Nat) (a d : Nat) : pv_li o a (d + 1) = o a :: pv_li o (a + 1) d := by
  unfold pv_li; rw [List.range'_succ, List.map_cons]
theorem pv_li_mem {o : Nat → Nat} {a d y : Nat} (h : y ∈ pv_li o a d) : ∃ j, a ≤ j ∧ j < a + d ∧ y = o j := by
  obtain ⟨j, hj, e⟩ := List.mem_map.mp h
  have := List.mem_range'_1.mp hj
  exact ⟨j, this.1, this.2, e.symm⟩
theorem pv_li_cong {o o' : Nat → Nat} : ∀ (d a : Nat), (∀ j, a ≤ j → j < a + d → o j = o' j) → pv_li o a d = pv_li o' a d := by
  intro d
  induction d with
  | zero => intro a _; rfl
  | succ d ih =>
    intro a h
    rw [pv_li_s, pv_li_s, h a (by omega) (by omega), ih (a + 1) (fun j h1 h2 => h j (by omega) (by omega))]
theorem pv_li_len (o : Nat → Nat) (a d : Nat) : (pv_li o a d).length = d := by
  unfold pv_li; rw [List.length_map, List.length_range']
theorem pv_rep_no (x : Nat) : ∀ (l : List Nat), (∀ y, y ∈ l → y ≤ x) → pv_rep x l = none := by
  intro l
  induction l with
  | nil => intro _; rfl
  | cons w l ih =>
    intro h
    rw [pv_rep1, ih (fun y hy => h y (List.mem_cons_of_mem _ hy))]
    show (if x < w then some (w, x :: l) else none) = none
    have := h w List.mem_cons_self
    rw [if_neg (by omega)]
theorem pv_fall {o : Nat → Nat} {n : Nat} : ∀ (d a : Nat), (∀ j, a ≤ j → j + 1 < n → o (j + 1) ≤ o j) → a + d < n → o (a + d) ≤ o a := by
  intro d
  induction d with
  | zero => intro a _ _; exact Nat.le_refl _
  | succ d ih =>
    intro a h hn
    have h1 := ih a h (by omega)
    have h2 := h (a + d) (by omega) (by omega)
    show o (a + d + 1) ≤ o a
    omega
theorem pv_nx_no {o : Nat → Nat} {n : Nat} : ∀ (d a : Nat), a + d = n → (∀ j, a ≤ j → j + 1 < n → o (j + 1) ≤ o j) → pv_nx (pv_li o a d) = none := by
  intro d
  induction d with
  | zero => intro a _ _; rfl
  | succ d ih =>
    intro a h hf
    rw [pv_li_s, pv_nx1, ih (a + 1) (by omega) (fun j h1 h2 => hf j (by omega) h2)]
    rw [pv_rep_no (o a)]
    intro y hy
    obtain ⟨j, h1, h2, rfl⟩ := pv_li_mem hy
    have := pv_fall (j - a) a hf (by omega)
    rw [show a + (j - a) = j by omega] at this
    exact this
theorem pv_rep_li {o : Nat → Nat} {n g x : Nat} (hg : g < n) (hx : x < o g) (hl : ∀ j, g < j → j < n → o j ≤ x) : ∀ (d a : Nat), a + d = n → a ≤ g → pv_rep x (pv_li o a d) = some (o g, pv_li (pv_un o g x) a d) := by
  intro d
  induction d with
  | zero => intro a h h2; omega
  | succ d ih =>
    intro a h h2
    rw [pv_li_s, pv_li_s, pv_rep1]
    by_cases e : a = g
    · subst e
      rw [pv_rep_no x (pv_li o (a + 1) d) (fun y hy => by
        obtain ⟨j, h3, h4, rfl⟩ := pv_li_mem hy
        exact hl j (by omega) (by omega))]
      show (if x < o a then some (o a, x :: pv_li o (a + 1) d) else none) = _
      rw [if_pos hx, show pv_un o a x a = x from if_pos rfl, pv_li_cong (o := pv_un o a x) (o' := o) d (a + 1) (fun j h3 h4 => if_neg (by omega))]
    · rw [ih (a + 1) (by omega) (by omega), show pv_un o g x a = o a from if_neg e]
theorem pv_li_get (o : Nat → Nat) (a d t : Nat) (h : t < (pv_li o a d).length) : (pv_li o a d)[t] = o (a + t) := by
  simp [pv_li]
theorem pv_li_rev {o o' : Nat → Nat} {a d : Nat} (h : ∀ t, t < d → o' (a + t) = o (a + (d - 1 - t))) : (pv_li o a d).reverse = pv_li o' a d := by
  apply List.ext_getElem
  · rw [List.length_reverse, pv_li_len, pv_li_len]
  · intro t h1 h2
    rw [pv_li_len] at h2
    rw [List.getElem_reverse, pv_li_get, pv_li_get, h t h2, pv_li_len]
/-- what a step does to a row -/
def pv_stp (o o' : Nat → Nat) (n i g : Nat) : Prop := (∀ j, j < i → o' j = o j) ∧ o' i = o g ∧ ∀ t, t < n - (i + 1) → o' (i + 1 + t) = pv_un o g (o i) (n - 1 - t)
theorem pv_nx_li {o o' : Nat → Nat} {n i g : Nat} (hi : i + 1 < n) (hf : ∀ j, i + 1 ≤ j → j + 1 < n → o (j + 1) ≤ o j) (hig : i < g) (hg : g < n) (hx : o i < o g) (hl : ∀ j, g < j → j < n → o j ≤ o i) (hs : pv_stp o o' n i g) : ∀ (k a : Nat), a + k = i → pv_nx (pv_li o a (n - a)) = some (pv_li o' a (n - a)) := by
  obtain ⟨s1, s2, s3⟩ := hs
  intro k
  induction k with
  | zero =>
    intro a ha
    have ha : a = i := by omega
    subst ha
    rw [show n - a = (n - (a + 1)) + 1 by omega, pv_li_s, pv_li_s, pv_nx1, pv_nx_no (n := n) (n - (a + 1)) (a + 1) (by omega) hf]
    rw [pv_rep_li hg hx hl (n - (a + 1)) (a + 1) (by omega) (by omega)]
    show some (o g :: (pv_li (pv_un o g (o a)) (a + 1) (n - (a + 1))).reverse) = _
    rw [pv_li_rev (o' := o') (fun t ht => by rw [s3 t ht]; congr 1; omega), s2]
  | succ k ih =>
    intro a ha
    have := ih (a + 1) (by omega)
    rw [show n - a = (n - (a + 1)) + 1 by omega, pv_li_s, pv_li_s, pv_nx1, this, s1 a (by omega)]
