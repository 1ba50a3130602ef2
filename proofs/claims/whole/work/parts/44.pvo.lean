/-! how many orders there are at most -/
def pv_fc : Nat → Nat
  | 0 => 1
  | n + 1 => (n + 1) * pv_fc n
def pv_rk : List Nat → Nat
  | [] => 0
  | x :: l => l.countP (fun y => decide (y < x)) * pv_fc l.length + pv_rk l
theorem pv_rk_lt : ∀ l : List Nat, pv_rk l < pv_fc l.length := by
  intro l
  induction l with
  | nil => decide
  | cons x l ih =>
    show l.countP (fun y => decide (y < x)) * pv_fc l.length + pv_rk l < (l.length + 1) * pv_fc l.length
    have h : l.countP (fun y => decide (y < x)) ≤ l.length := List.countP_le_length
    have h2 := Nat.mul_le_mul_right (pv_fc l.length) h
    rw [Nat.add_mul, Nat.one_mul]
    omega
theorem pv_rk_nx : ∀ (l l' : List Nat), pv_nx l = some l' → pv_rk l < pv_rk l' := by
  intro l
  induction l with
  | nil => intro l' h; exact absurd h (by simp [pv_nx])
  | cons x l ih =>
    intro l' h
    rw [pv_nx1] at h
    cases e : pv_nx l with
    | some p =>
      rw [e] at h
      have h := Option.some.inj h
      subst h
      have hp := pv_nx_perm l p e
      have hi := ih p e
      show l.countP (fun y => decide (y < x)) * pv_fc l.length + pv_rk l < p.countP (fun y => decide (y < x)) * pv_fc p.length + pv_rk p
      rw [hp.countP_eq, hp.length_eq]
      omega
    | none =>
      rw [e] at h
      cases e2 : pv_rep x l with
      | none => rw [e2] at h; exact absurd h (by simp)
      | some p =>
        obtain ⟨z, l1⟩ := p
        rw [e2] at h
        have h := Option.some.inj h
        subst h
        obtain ⟨p1, p2⟩ := pv_rep_perm x l z l1 e2
        have hlen : l1.reverse.length = l.length := by
          have := p1.length_eq
          rw [List.length_cons, List.length_cons] at this
          rw [List.length_reverse]; omega
        have hc : l.countP (fun y => decide (y < x)) + 1 ≤ l1.reverse.countP (fun y => decide (y < z)) := by
          have h1 : (z :: l1).countP (fun y => decide (y < z)) = (x :: l).countP (fun y => decide (y < z)) := p1.countP_eq _
          rw [List.countP_cons, List.countP_cons, if_neg (by simp), if_pos (by simpa using p2)] at h1
          have h2 : l.countP (fun y => decide (y < x)) ≤ l.countP (fun y => decide (y < z)) := List.countP_mono_left (fun a _ ha => by
            have : a < x := of_decide_eq_true ha
            exact decide_eq_true (by omega))
          rw [List.countP_reverse]
          omega
        have hl := pv_rk_lt l
        have h3 := Nat.mul_le_mul_right (pv_fc l.length) hc
        show l.countP (fun y => decide (y < x)) * pv_fc l.length + pv_rk l < l1.reverse.countP (fun y => decide (y < z)) * pv_fc l1.reverse.length + pv_rk l1.reverse
        rw [hlen]
        rw [Nat.add_mul, Nat.one_mul] at h3
        omega
