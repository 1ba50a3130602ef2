/-! laid by wip/whole/gen.py out of the printed names and instructions: what each method does (f_), and that its bytecode does it (c_) -/
theorem uX7_oven_X0 : ∀ w ∈ u_ws RX0 TX0 3, w ∈ wsX7_oven := fun w h => List.mem_cons_of_mem _ (List.mem_append_left _ (List.mem_append_left _ (List.mem_append_right _ h)))
theorem uX7_oven_X5 : ∀ w ∈ u_ws RX5 TX5 2, w ∈ wsX7_oven := fun w h => List.mem_cons_of_mem _ (List.mem_append_left _ (List.mem_append_right _ h))
theorem uX7_oven_X7 : ∀ w ∈ u_ws RX7 TX7 5, w ∈ wsX7_oven := fun w h => List.mem_cons_of_mem _ (List.mem_append_left _ (List.mem_append_left _ (List.mem_append_left _ (List.mem_append_right _ h))))
abbrev RM_X7_oven : Room := { frames := 2, cells := 0, slots := 0, locals := 45 }
def f_X7_oven (N : Nat) (S3 : St) (S4 : St) (S5 : St) (S6 : St) (S7 : St) (S8 : St) (S9 : St) (x1 : Int32) (x2 : Int32) : Option (Int32 × St × St) :=
  fx_b1 (f_X7_within N x1 (1 : Int32) (4 : Int32)) (fun v101 =>
  (if v101 = 0 then (
  some ((-2 : Int32), S3, S5)) else (
  fx_b1 (f_X7_within N x2 (1 : Int32) (6 : Int32)) (fun v102 =>
    (if v102 = 0 then (
    some ((-2 : Int32), S3, S5)) else (
    fx_b1 (f_X3_rebuild N S3 x1 x2) (fun S103 =>
      fx_lt (stI S5 0 (0 : Int32)) (fun S104 =>
      some ((x1 * x2), S103, S104)))))))))
set_option maxRecDepth 100000 in
set_option maxHeartbeats 4000000 in
theorem c_X7_oven (l : Launch) (g : GG) (N : Nat) (q1 : Nat → Nat) (q2 : Nat → Nat) (q3 : Nat → Nat) (q4 : Nat → Nat) (q5 : Nat → Nat) (q6 : Nat → Nat) (q7 : Nat → Nat) (q8 : Nat → Nat) (q9 : Nat → Nat) (S3 : St) (S4 : St) (S5 : St) (S6 : St) (S7 : St) (S8 : St) (S9 : St) (x1 : Int32) (x2 : Int32) (r : Int32) (F3 : St) (F5 : St) (h : f_X7_oven N S3 S4 S5 S6 S7 S8 S9 x1 x2 = some (r, F3, F5)) : Ci l yX7_oven wsX7_oven RM_X7_oven g [.ref (q1 100), .int x1, .int x2] (wX7 g q1 q2 q6 q7 q9 ++ (wX0 g q2 q3 q4 q5 ++ (wX3 g q3 S3 ++ (wX6 g q4 S4 ++ (wX5 g q5 S5 ++ (wX4 g q6 S6 ++ (wX2 g q7 q8 S7 ++ (wX3 g q8 S8 ++ (wX1 g q9 S9))))))))) (wX7 g q1 q2 q6 q7 q9 ++ (wX0 g q2 q3 q4 q5 ++ (wX3 g q3 F3 ++ (wX6 g q4 S4 ++ (wX5 g q5 F5 ++ (wX4 g q6 S6 ++ (wX2 g q7 q8 S7 ++ (wX3 g q8 S8 ++ (wX1 g q9 S9))))))))) r := by
  intro sz
  refine Met.ofC (cc := cX7_oven) (maxL := 3) (ret := (some .int)) (by decide) rfl (Nat.le_of_ble_eq_true rfl) ?_
  intro p e s m below meth c hC hr hlk hsz A hA9 hA hP hD hS ls hl
  subst hsz
  have hC : Cx p s m ([.ref (q1 100), .int x1, .int x2] : List Value).toArray c RX7 cX7_oven 3 wsX7_oven g := hC
  have hx := hC.1.1
  have hb := hC.1.2.1
  have hml := hC.1.2.2.1
  have hown := hC.1.2.2.2.1
  have hts := hC.1.2.2.2.2
  have hl : lv_has ls 3 [(0, .ref (q1 100)), (1, .int x1), (2, .int x2)] := hl
  show W p l e RM_X7_oven s m ([.ref (q1 100), .int x1, .int x2] : List Value).toArray below meth c s.heap [] 0 0 (Qi below g [.ref (q1 100), .int x1, .int x2] (wX7 g q1 q2 q6 q7 q9 ++ (wX0 g q2 q3 q4 q5 ++ (wX3 g q3 S3 ++ (wX6 g q4 S4 ++ (wX5 g q5 S5 ++ (wX4 g q6 S6 ++ (wX2 g q7 q8 S7 ++ (wX3 g q8 S8 ++ (wX1 g q9 S9))))))))) (wX7 g q1 q2 q6 q7 q9 ++ (wX0 g q2 q3 q4 q5 ++ (wX3 g q3 F3 ++ (wX6 g q4 S4 ++ (wX5 g q5 F5 ++ (wX4 g q6 S6 ++ (wX2 g q7 q8 S7 ++ (wX3 g q8 S8 ++ (wX1 g q9 S9))))))))) r s) (F0 m 0 ls [])
  unfold f_X7_oven at h
  refine lv_iload_n hx hb dX7_oven_0 rfl (lv_at hl 1 rfl) ?_
  refine lv_iconst (v := (1 : Int32)) hx hb dX7_oven_1 (by decide) ?_
  refine lv_iconst (v := (4 : Int32)) hx hb dX7_oven_2 (by decide) ?_
  obtain ⟨v101, hc107, h⟩ := fx_b1_s h
  refine k_callSi0 (n := 3) (As := [.int x1, .int (1 : Int32), .int (4 : Int32)]) (rest := []) (wc := ([] : va_W)) (bytes := cX7_within) (maxL := 3) (ret := (some .boolean)) hC hl.1 (c_X7_within l g N x1 (1 : Int32) (4 : Int32) v101 hc107) rfl gX7_oven_X7_within (by decide +kernel) ⟨Nat.le_of_ble_eq_true rfl, Nat.le_of_ble_eq_true rfl⟩ rfl rfl rfl (Nat.le_of_ble_eq_true rfl) ⟨Nat.le_of_ble_eq_true rfl, Nat.le_of_ble_eq_true rfl⟩ dX7_oven_3 hP hD hS hA [] rfl (by decide +kernel) (fun H locs hP hD hS => ?_)
  refine k_if_eq (tgt := 19) hC dX7_oven_6 (by decide) h (fun h => ?_) (fun h => ?_)
  · refine lv_bipush (v := (-2 : Int32)) hx hb dX7_oven_19 (by decide) ?_
    obtain ⟨rfl, rfl, rfl⟩ := fx_i3 h
    exact Ci.ret hC hr hlk hA9 hP hD hS dX7_oven_21
  · refine lv_iload_n hx hb dX7_oven_9 rfl (lv_at hl 2 rfl) ?_
    refine lv_iconst (v := (1 : Int32)) hx hb dX7_oven_10 (by decide) ?_
    refine lv_bipush (v := (6 : Int32)) hx hb dX7_oven_11 (by decide) ?_
    obtain ⟨v102, hc106, h⟩ := fx_b1_s h
    refine k_callSi0 (n := 3) (As := [.int x2, .int (1 : Int32), .int (6 : Int32)]) (rest := []) (wc := ([] : va_W)) (bytes := cX7_within) (maxL := 3) (ret := (some .boolean)) hC hl.1 (c_X7_within l g N x2 (1 : Int32) (6 : Int32) v102 hc106) rfl gX7_oven_X7_within (by decide +kernel) ⟨Nat.le_of_ble_eq_true rfl, Nat.le_of_ble_eq_true rfl⟩ rfl rfl rfl (Nat.le_of_ble_eq_true rfl) ⟨Nat.le_of_ble_eq_true rfl, Nat.le_of_ble_eq_true rfl⟩ dX7_oven_13 hP hD hS hA [] rfl (by decide +kernel) (fun H locs hP hD hS => ?_)
    refine k_if_ne (tgt := 22) hC dX7_oven_16 (by decide) h (fun h => ?_) (fun h => ?_)
    · refine lv_aload_n hx hb dX7_oven_22 rfl (lv_at hl 0 rfl) ?_
      refine k_get (ci := 7) (k := 0) (q0 := 0) (v := .ref (q2 100)) (C := RX7) (T := TX7) (N := 5) hC uX7_oven_X7 hP rfl rfl (by decide) (List.mem_of_getElem? (i := 1) rfl) rfl dX7_oven_23 ?_
      refine k_get (ci := 0) (k := 0) (q0 := 1) (v := .ref (q3 100)) (C := RX0) (T := TX0) (N := 3) hC uX7_oven_X0 hP rfl rfl (by decide) (List.mem_of_getElem? (i := 2) rfl) rfl dX7_oven_26 ?_
      refine lv_iload_n hx hb dX7_oven_29 rfl (lv_at hl 1 rfl) ?_
      refine lv_iload_n hx hb dX7_oven_30 rfl (lv_at hl 2 rfl) ?_
      obtain ⟨S103, hc105, h⟩ := fx_b1_s h
      refine k_callVv (C := RX3) (ci := 3) (qr := 0) (n := 2) (As := [.int x1, .int x2]) (rest := []) (wc := (wX3 g q3 S3)) (w1 := (wX3 g q3 S103)) (ws2 := (wX7 g q1 q2 q6 q7 q9 ++ (wX0 g q2 q3 q4 q5 ++ (wX3 g q3 S103 ++ (wX6 g q4 S4 ++ (wX5 g q5 S5 ++ (wX4 g q6 S6 ++ (wX2 g q7 q8 S7 ++ (wX3 g q8 S8 ++ (wX1 g q9 S9)))))))))) (bytes := cX3_rebuild) (maxL := 3) (ret := none) hC hl.1 (c_X3_rebuild l g N q3 S3 x1 x2 S103 hc105) rfl gX7_oven_X3_rebuild (by decide +kernel) rfl rfl ⟨Nat.le_of_ble_eq_true rfl, Nat.le_of_ble_eq_true rfl⟩ rfl rfl rfl (Nat.le_of_ble_eq_true rfl) ⟨Nat.le_of_ble_eq_true rfl, Nat.le_of_ble_eq_true rfl⟩ dX7_oven_31 hP hD hS hA [2, 3, 4, 5, 6, 7] rfl (by decide +kernel) [q3 100, q3 6, q3 7, q3 8, q3 9, q3 10] rfl rfl rfl [0, 1, 8, 9, 10, 11, 12, 13, 14, 15, 16, 17, 18, 19, 20, 21, 22, 23, 24, 25, 26, 27, 28, 29, 30, 31] (wX7 g q1 q2 q6 q7 q9 ++ (wX0 g q2 q3 q4 q5 ++ (wX6 g q4 S4 ++ (wX5 g q5 S5 ++ (wX4 g q6 S6 ++ (wX2 g q7 q8 S7 ++ (wX3 g q8 S8 ++ (wX1 g q9 S9)))))))) rfl rfl (n2 := 32) rfl (by decide +kernel) (fun H locs hP hD hS => ?_)
      refine lv_aload_n hx hb dX7_oven_34 rfl (lv_at hl 0 rfl) ?_
      refine k_get (ci := 7) (k := 0) (q0 := 0) (v := .ref (q2 100)) (C := RX7) (T := TX7) (N := 5) hC uX7_oven_X7 hP rfl rfl (by decide) (List.mem_of_getElem? (i := 1) rfl) rfl dX7_oven_35 ?_
      refine k_get (ci := 0) (k := 2) (q0 := 1) (v := .ref (q5 100)) (C := RX0) (T := TX0) (N := 3) hC uX7_oven_X0 hP rfl rfl (by decide) (List.mem_of_getElem? (i := 3) rfl) rfl dX7_oven_38 ?_
      refine lv_iconst (v := (0 : Int32)) hx hb dX7_oven_41 (by decide) ?_
      refine k_put (ci := 5) (k := 0) (q0 := 13) (C := RX5) (T := TX5) (N := 2) (S2 := stI S5 0 (0 : Int32)) tyX5 (fun S => (wX7 g q1 q2 q6 q7 q9 ++ (wX0 g q2 q3 q4 q5 ++ (wX3 g q3 S103 ++ (wX6 g q4 S4 ++ (wX5 g q5 S ++ (wX4 g q6 S6 ++ (wX2 g q7 q8 S7 ++ (wX3 g q8 S8 ++ (wX1 g q9 S9)))))))))) hC uX7_oven_X5 tyX5_ok nmX5 hP hD hS rfl rfl (by decide) (List.mem_of_getElem? (i := 4) rfl) rfl (tyX5_ok 0 (by decide)) (Nat.le_of_ble_eq_true rfl) dX7_oven_42 rfl h (fun S104 h H locs hP hD hS => ?_)
      refine lv_iload_n hx hb dX7_oven_45 rfl (lv_at hl 1 rfl) ?_
      refine lv_iload_n hx hb dX7_oven_46 rfl (lv_at hl 2 rfl) ?_
      refine lv_imul hx hb dX7_oven_47 ?_
      obtain ⟨rfl, rfl, rfl⟩ := fx_i3 h
      exact Ci.ret hC hr hlk hA9 hP hD hS dX7_oven_48
    · refine lv_bipush (v := (-2 : Int32)) hx hb dX7_oven_19 (by decide) ?_
      obtain ⟨rfl, rfl, rfl⟩ := fx_i3 h
      exact Ci.ret hC hr hlk hA9 hP hD hS dX7_oven_21
theorem uX7_set_X0 : ∀ w ∈ u_ws RX0 TX0 3, w ∈ wsX7_set := fun w h => List.mem_cons_of_mem _ (List.mem_append_left _ (List.mem_append_right _ h))
theorem uX7_set_X3 : ∀ w ∈ u_ws RX3 TX3 11, w ∈ wsX7_set := fun w h => List.mem_cons_of_mem _ (List.mem_append_right _ h)
theorem uX7_set_X7 : ∀ w ∈ u_ws RX7 TX7 5, w ∈ wsX7_set := fun w h => List.mem_cons_of_mem _ (List.mem_append_left _ (List.mem_append_left _ (List.mem_append_right _ h)))
abbrev RM_X7_set : Room := { frames := 1, cells := 0, slots := 0, locals := 22 }
def f_X7_set (N : Nat) (S3 : St) (S4 : St) (S5 : St) (S6 : St) (S7 : St) (S8 : St) (S9 : St) (x1 : Int32) (x2 : Int32) : Option (Int32 × St) :=
  fx_b1 (f_X7_within N x1 (0 : Int32) (2 : Int32)) (fun v101 =>
  (if v101 = 0 then (
  some ((-2 : Int32), S3)) else (
  fx_b1 ((if x1 = 0 then (
    some (99 : Int32)) else (
    some (9 : Int32))) : Option (Int32)) (fun v102 =>
    fx_b1 (f_X7_within N x2 (0 : Int32) v102) (fun v104 =>
      (if v104 = 0 then (
      some ((-2 : Int32), S3)) else (
      (if x1 = 0 then (
        fx_lt (stI S3 2 x2) (fun S107 =>
          some ((S3.1 2), S107))) else (
        (if x1 = (1 : Int32) then (
          fx_lt (stI S3 3 x2) (fun S106 =>
            some ((S3.1 3), S106))) else (
          fx_lt (stI S3 4 x2) (fun S105 =>
            some ((S3.1 4), S105)))))))))))))
set_option maxRecDepth 100000 in
set_option maxHeartbeats 4000000 in
theorem c_X7_set (l : Launch) (g : GG) (N : Nat) (q1 : Nat → Nat) (q2 : Nat → Nat) (q3 : Nat → Nat) (q4 : Nat → Nat) (q5 : Nat → Nat) (q6 : Nat → Nat) (q7 : Nat → Nat) (q8 : Nat → Nat) (q9 : Nat → Nat) (S3 : St) (S4 : St) (S5 : St) (S6 : St) (S7 : St) (S8 : St) (S9 : St) (x1 : Int32) (x2 : Int32) (r : Int32) (F3 : St) (h : f_X7_set N S3 S4 S5 S6 S7 S8 S9 x1 x2 = some (r, F3)) : Ci l yX7_set wsX7_set RM_X7_set g [.ref (q1 100), .int x1, .int x2] (wX7 g q1 q2 q6 q7 q9 ++ (wX0 g q2 q3 q4 q5 ++ (wX3 g q3 S3 ++ (wX6 g q4 S4 ++ (wX5 g q5 S5 ++ (wX4 g q6 S6 ++ (wX2 g q7 q8 S7 ++ (wX3 g q8 S8 ++ (wX1 g q9 S9))))))))) (wX7 g q1 q2 q6 q7 q9 ++ (wX0 g q2 q3 q4 q5 ++ (wX3 g q3 F3 ++ (wX6 g q4 S4 ++ (wX5 g q5 S5 ++ (wX4 g q6 S6 ++ (wX2 g q7 q8 S7 ++ (wX3 g q8 S8 ++ (wX1 g q9 S9))))))))) r := by
  intro sz
  refine Met.ofC (cc := cX7_set) (maxL := 5) (ret := (some .int)) (by decide) rfl (Nat.le_of_ble_eq_true rfl) ?_
  intro p e s m below meth c hC hr hlk hsz A hA9 hA hP hD hS ls hl
  subst hsz
  have hC : Cx p s m ([.ref (q1 100), .int x1, .int x2] : List Value).toArray c RX7 cX7_set 5 wsX7_set g := hC
  have hx := hC.1.1
  have hb := hC.1.2.1
  have hml := hC.1.2.2.1
  have hown := hC.1.2.2.2.1
  have hts := hC.1.2.2.2.2
  have hl : lv_has ls 5 [(0, .ref (q1 100)), (1, .int x1), (2, .int x2)] := hl
  show W p l e RM_X7_set s m ([.ref (q1 100), .int x1, .int x2] : List Value).toArray below meth c s.heap [] 0 0 (Qi below g [.ref (q1 100), .int x1, .int x2] (wX7 g q1 q2 q6 q7 q9 ++ (wX0 g q2 q3 q4 q5 ++ (wX3 g q3 S3 ++ (wX6 g q4 S4 ++ (wX5 g q5 S5 ++ (wX4 g q6 S6 ++ (wX2 g q7 q8 S7 ++ (wX3 g q8 S8 ++ (wX1 g q9 S9))))))))) (wX7 g q1 q2 q6 q7 q9 ++ (wX0 g q2 q3 q4 q5 ++ (wX3 g q3 F3 ++ (wX6 g q4 S4 ++ (wX5 g q5 S5 ++ (wX4 g q6 S6 ++ (wX2 g q7 q8 S7 ++ (wX3 g q8 S8 ++ (wX1 g q9 S9))))))))) r s) (F0 m 0 ls [])
  unfold f_X7_set at h
  refine lv_iload_n hx hb dX7_set_0 rfl (lv_at hl 1 rfl) ?_
  refine lv_iconst (v := (0 : Int32)) hx hb dX7_set_1 (by decide) ?_
  refine lv_iconst (v := (2 : Int32)) hx hb dX7_set_2 (by decide) ?_
  obtain ⟨v101, hc110, h⟩ := fx_b1_s h
  refine k_callSi0 (n := 3) (As := [.int x1, .int (0 : Int32), .int (2 : Int32)]) (rest := []) (wc := ([] : va_W)) (bytes := cX7_within) (maxL := 3) (ret := (some .boolean)) hC hl.1 (c_X7_within l g N x1 (0 : Int32) (2 : Int32) v101 hc110) rfl gX7_set_X7_within (by decide +kernel) ⟨Nat.le_of_ble_eq_true rfl, Nat.le_of_ble_eq_true rfl⟩ rfl rfl rfl (Nat.le_of_ble_eq_true rfl) ⟨Nat.le_of_ble_eq_true rfl, Nat.le_of_ble_eq_true rfl⟩ dX7_set_3 hP hD hS hA [] rfl (by decide +kernel) (fun H locs hP hD hS => ?_)
  refine k_if_eq (tgt := 28) hC dX7_set_6 (by decide) h (fun h => ?_) (fun h => ?_)
  · refine lv_bipush (v := (-2 : Int32)) hx hb dX7_set_28 (by decide) ?_
    obtain ⟨rfl, rfl⟩ := fx_i2 h
    exact Ci.ret hC hr hlk hA9 hP hD hS dX7_set_30
  · refine lv_iload_n hx hb dX7_set_9 rfl (lv_at hl 2 rfl) ?_
    refine lv_iconst (v := (0 : Int32)) hx hb dX7_set_10 (by decide) ?_
    refine lv_iload_n hx hb dX7_set_11 rfl (lv_at hl 1 rfl) ?_
    obtain ⟨v102, hv103, h⟩ := fx_b1_s h
    have K109 : ∀ (H : Heap) (locs : List Loc) (ls : Array Slot), va_P g.1 vwCl (wX7 g q1 q2 q6 q7 q9 ++ (wX0 g q2 q3 q4 q5 ++ (wX3 g q3 S3 ++ (wX6 g q4 S4 ++ (wX5 g q5 S5 ++ (wX4 g q6 S6 ++ (wX2 g q7 q8 S7 ++ (wX3 g q8 S8 ++ (wX1 g q9 S9))))))))) H → va_D A (wX7 g q1 q2 q6 q7 q9 ++ (wX0 g q2 q3 q4 q5 ++ (wX3 g q3 S3 ++ (wX6 g q4 S4 ++ (wX5 g q5 S5 ++ (wX4 g q6 S6 ++ (wX2 g q7 q8 S7 ++ (wX3 g q8 S8 ++ (wX1 g q9 S9))))))))) → va_S A s.heap H locs → lv_has ls 5 [(0, .ref (q1 100)), (1, .int x1), (2, .int x2)] → W p l e RM_X7_set s m ([.ref (q1 100), .int x1, .int x2] : List Value).toArray below meth c H locs 0 0 (Qi below g [.ref (q1 100), .int x1, .int x2] (wX7 g q1 q2 q6 q7 q9 ++ (wX0 g q2 q3 q4 q5 ++ (wX3 g q3 S3 ++ (wX6 g q4 S4 ++ (wX5 g q5 S5 ++ (wX4 g q6 S6 ++ (wX2 g q7 q8 S7 ++ (wX3 g q8 S8 ++ (wX1 g q9 S9))))))))) (wX7 g q1 q2 q6 q7 q9 ++ (wX0 g q2 q3 q4 q5 ++ (wX3 g q3 F3 ++ (wX6 g q4 S4 ++ (wX5 g q5 S5 ++ (wX4 g q6 S6 ++ (wX2 g q7 q8 S7 ++ (wX3 g q8 S8 ++ (wX1 g q9 S9))))))))) r s) (F0 m 22 ls [.int v102, .int (0 : Int32), .int x2]) := by
      intro H locs ls hP hD hS hl
      obtain ⟨v104, hc108, h⟩ := fx_b1_s h
      refine k_callSi0 (n := 3) (As := [.int x2, .int (0 : Int32), .int v102]) (rest := []) (wc := ([] : va_W)) (bytes := cX7_within) (maxL := 3) (ret := (some .boolean)) hC hl.1 (c_X7_within l g N x2 (0 : Int32) v102 v104 hc108) rfl gX7_set_X7_within (by decide +kernel) ⟨Nat.le_of_ble_eq_true rfl, Nat.le_of_ble_eq_true rfl⟩ rfl rfl rfl (Nat.le_of_ble_eq_true rfl) ⟨Nat.le_of_ble_eq_true rfl, Nat.le_of_ble_eq_true rfl⟩ dX7_set_22 hP hD hS hA [] rfl (by decide +kernel) (fun H locs hP hD hS => ?_)
      refine k_if_ne (tgt := 31) hC dX7_set_25 (by decide) h (fun h => ?_) (fun h => ?_)
      · refine lv_aload_n hx hb dX7_set_31 rfl (lv_at hl 0 rfl) ?_
        refine k_get (ci := 7) (k := 0) (q0 := 0) (v := .ref (q2 100)) (C := RX7) (T := TX7) (N := 5) hC uX7_set_X7 hP rfl rfl (by decide) (List.mem_of_getElem? (i := 1) rfl) rfl dX7_set_32 ?_
        refine k_get (ci := 0) (k := 0) (q0 := 1) (v := .ref (q3 100)) (C := RX0) (T := TX0) (N := 3) hC uX7_set_X0 hP rfl rfl (by decide) (List.mem_of_getElem? (i := 2) rfl) rfl dX7_set_35 ?_
        refine lv_astore_n (lv' := [(3, .ref (q3 100)), (0, .ref (q1 100)), (1, .int x1), (2, .int x2)]) hx hb dX7_set_38 rfl hl (by decide) rfl (fun ls hl => ?_)
        refine lv_iload_n hx hb dX7_set_39 rfl (lv_at hl 2 rfl) ?_
        refine k_if_ne (tgt := 57) hC dX7_set_40 (by decide) h (fun h => ?_) (fun h => ?_)
        · refine lv_iload_n hx hb dX7_set_57 rfl (lv_at hl 2 rfl) ?_
          refine lv_iconst (v := (1 : Int32)) hx hb dX7_set_58 (by decide) ?_
          refine k_icmp_ne (tgt := 76) hC dX7_set_59 (by decide) h (fun h => ?_) (fun h => ?_)
          · refine lv_aload_n hx hb dX7_set_76 rfl (lv_at hl 0 rfl) ?_
            refine k_get (ci := 3) (k := 4) (q0 := 2) (v := .int (S3.1 4)) (C := RX3) (T := TX3) (N := 11) hC uX7_set_X3 hP rfl rfl (by decide) (List.mem_of_getElem? (i := 5) rfl) rfl dX7_set_77 ?_
            refine lv_istore (lv' := [(4, .int (S3.1 4)), (3, .ref (q3 100)), (0, .ref (q1 100)), (1, .int x1), (2, .int x2)]) hx hb dX7_set_80 hl (by decide) rfl (fun ls hl => ?_)
            refine lv_aload_n hx hb dX7_set_82 rfl (lv_at hl 1 rfl) ?_
            refine lv_iload_n hx hb dX7_set_83 rfl (lv_at hl 4 rfl) ?_
            refine k_put (ci := 3) (k := 4) (q0 := 2) (C := RX3) (T := TX3) (N := 11) (S2 := stI S3 4 x2) tyX3 (fun S => (wX7 g q1 q2 q6 q7 q9 ++ (wX0 g q2 q3 q4 q5 ++ (wX3 g q3 S ++ (wX6 g q4 S4 ++ (wX5 g q5 S5 ++ (wX4 g q6 S6 ++ (wX2 g q7 q8 S7 ++ (wX3 g q8 S8 ++ (wX1 g q9 S9)))))))))) hC uX7_set_X3 tyX3_ok nmX3 hP hD hS rfl rfl (by decide) (List.mem_of_getElem? (i := 5) rfl) rfl (tyX3_ok 4 (by decide)) (Nat.le_of_ble_eq_true rfl) dX7_set_84 rfl h (fun S105 h H locs hP hD hS => ?_)
            refine lv_iload hx hb dX7_set_87 (lv_at hl 0 rfl) ?_
            obtain ⟨rfl, rfl⟩ := fx_i2 h
            exact Ci.ret hC hr hlk hA9 hP hD hS dX7_set_89
          · refine lv_aload_n hx hb dX7_set_62 rfl (lv_at hl 0 rfl) ?_
            refine k_get (ci := 3) (k := 3) (q0 := 2) (v := .int (S3.1 3)) (C := RX3) (T := TX3) (N := 11) hC uX7_set_X3 hP rfl rfl (by decide) (List.mem_of_getElem? (i := 4) rfl) rfl dX7_set_63 ?_
            refine lv_istore (lv' := [(4, .int (S3.1 3)), (3, .ref (q3 100)), (0, .ref (q1 100)), (1, .int x1), (2, .int x2)]) hx hb dX7_set_66 hl (by decide) rfl (fun ls hl => ?_)
            refine lv_aload_n hx hb dX7_set_68 rfl (lv_at hl 1 rfl) ?_
            refine lv_iload_n hx hb dX7_set_69 rfl (lv_at hl 4 rfl) ?_
            refine k_put (ci := 3) (k := 3) (q0 := 2) (C := RX3) (T := TX3) (N := 11) (S2 := stI S3 3 x2) tyX3 (fun S => (wX7 g q1 q2 q6 q7 q9 ++ (wX0 g q2 q3 q4 q5 ++ (wX3 g q3 S ++ (wX6 g q4 S4 ++ (wX5 g q5 S5 ++ (wX4 g q6 S6 ++ (wX2 g q7 q8 S7 ++ (wX3 g q8 S8 ++ (wX1 g q9 S9)))))))))) hC uX7_set_X3 tyX3_ok nmX3 hP hD hS rfl rfl (by decide) (List.mem_of_getElem? (i := 4) rfl) rfl (tyX3_ok 3 (by decide)) (Nat.le_of_ble_eq_true rfl) dX7_set_70 rfl h (fun S106 h H locs hP hD hS => ?_)
            refine lv_goto (tgt := 87) hx hb dX7_set_73 (by decide) ?_
            refine lv_iload hx hb dX7_set_87 (lv_at hl 0 rfl) ?_
            obtain ⟨rfl, rfl⟩ := fx_i2 h
            exact Ci.ret hC hr hlk hA9 hP hD hS dX7_set_89
        · refine lv_aload_n hx hb dX7_set_43 rfl (lv_at hl 0 rfl) ?_
          refine k_get (ci := 3) (k := 2) (q0 := 2) (v := .int (S3.1 2)) (C := RX3) (T := TX3) (N := 11) hC uX7_set_X3 hP rfl rfl (by decide) (List.mem_of_getElem? (i := 3) rfl) rfl dX7_set_44 ?_
          refine lv_istore (lv' := [(4, .int (S3.1 2)), (3, .ref (q3 100)), (0, .ref (q1 100)), (1, .int x1), (2, .int x2)]) hx hb dX7_set_47 hl (by decide) rfl (fun ls hl => ?_)
          refine lv_aload_n hx hb dX7_set_49 rfl (lv_at hl 1 rfl) ?_
          refine lv_iload_n hx hb dX7_set_50 rfl (lv_at hl 4 rfl) ?_
          refine k_put (ci := 3) (k := 2) (q0 := 2) (C := RX3) (T := TX3) (N := 11) (S2 := stI S3 2 x2) tyX3 (fun S => (wX7 g q1 q2 q6 q7 q9 ++ (wX0 g q2 q3 q4 q5 ++ (wX3 g q3 S ++ (wX6 g q4 S4 ++ (wX5 g q5 S5 ++ (wX4 g q6 S6 ++ (wX2 g q7 q8 S7 ++ (wX3 g q8 S8 ++ (wX1 g q9 S9)))))))))) hC uX7_set_X3 tyX3_ok nmX3 hP hD hS rfl rfl (by decide) (List.mem_of_getElem? (i := 3) rfl) rfl (tyX3_ok 2 (by decide)) (Nat.le_of_ble_eq_true rfl) dX7_set_51 rfl h (fun S107 h H locs hP hD hS => ?_)
          refine lv_goto (tgt := 87) hx hb dX7_set_54 (by decide) ?_
          refine lv_iload hx hb dX7_set_87 (lv_at hl 0 rfl) ?_
          obtain ⟨rfl, rfl⟩ := fx_i2 h
          exact Ci.ret hC hr hlk hA9 hP hD hS dX7_set_89
      · refine lv_bipush (v := (-2 : Int32)) hx hb dX7_set_28 (by decide) ?_
        obtain ⟨rfl, rfl⟩ := fx_i2 h
        exact Ci.ret hC hr hlk hA9 hP hD hS dX7_set_30
    refine k_if_ne (tgt := 20) hC dX7_set_12 (by decide) hv103 (fun hv103 => ?_) (fun hv103 => ?_)
    · refine lv_bipush (v := (9 : Int32)) hx hb dX7_set_20 (by decide) ?_
      obtain rfl := fx_i1 hv103
      exact K109 _ _ _ hP hD hS (lv_sub hl [0, 1, 2] rfl)
    · refine lv_bipush (v := (99 : Int32)) hx hb dX7_set_15 (by decide) ?_
      refine lv_goto (tgt := 22) hx hb dX7_set_17 (by decide) ?_
      obtain rfl := fx_i1 hv103
      exact K109 _ _ _ hP hD hS (lv_sub hl [0, 1, 2] rfl)
theorem uX7_less_X0 : ∀ w ∈ u_ws RX0 TX0 3, w ∈ wsX7_less := fun w h => List.mem_cons_of_mem _ (List.mem_append_left _ (List.mem_append_right _ h))
theorem uX7_less_X3 : ∀ w ∈ u_ws RX3 TX3 11, w ∈ wsX7_less := fun w h => List.mem_cons_of_mem _ (List.mem_append_right _ h)
theorem uX7_less_X7 : ∀ w ∈ u_ws RX7 TX7 5, w ∈ wsX7_less := fun w h => List.mem_cons_of_mem _ (List.mem_append_left _ (List.mem_append_left _ (List.mem_append_right _ h)))
abbrev RM_X7_less : Room := { frames := 2, cells := 0, slots := 0, locals := 43 }
def f_X7_less (N : Nat) (S3 : St) (S4 : St) (S5 : St) (S6 : St) (S7 : St) (S8 : St) (S9 : St) (x1 : Int32) (x2 : Int32) : Option (Int32 × St) :=
  fx_b1 (f_X3_hasPlace N S3 x1) (fun v101 =>
  (if v101 = 0 then (
  some ((-1 : Int32), S3)) else (
  fx_b1 (f_X7_within N x2 (0 : Int32) (9 : Int32)) (fun v102 =>
    (if v102 = 0 then (
    some ((-2 : Int32), S3)) else (
    fx_ald 6 (S3.2 6) x1 (fun v103 =>
      fx_ast 6 S3 6 x1 x2 (fun S104 =>
      some (v103, S104)))))))))
set_option maxRecDepth 100000 in
set_option maxHeartbeats 4000000 in
theorem c_X7_less (l : Launch) (g : GG) (N : Nat) (q1 : Nat → Nat) (q2 : Nat → Nat) (q3 : Nat → Nat) (q4 : Nat → Nat) (q5 : Nat → Nat) (q6 : Nat → Nat) (q7 : Nat → Nat) (q8 : Nat → Nat) (q9 : Nat → Nat) (S3 : St) (S4 : St) (S5 : St) (S6 : St) (S7 : St) (S8 : St) (S9 : St) (x1 : Int32) (x2 : Int32) (r : Int32) (F3 : St) (h : f_X7_less N S3 S4 S5 S6 S7 S8 S9 x1 x2 = some (r, F3)) : Ci l yX7_less wsX7_less RM_X7_less g [.ref (q1 100), .int x1, .int x2] (wX7 g q1 q2 q6 q7 q9 ++ (wX0 g q2 q3 q4 q5 ++ (wX3 g q3 S3 ++ (wX6 g q4 S4 ++ (wX5 g q5 S5 ++ (wX4 g q6 S6 ++ (wX2 g q7 q8 S7 ++ (wX3 g q8 S8 ++ (wX1 g q9 S9))))))))) (wX7 g q1 q2 q6 q7 q9 ++ (wX0 g q2 q3 q4 q5 ++ (wX3 g q3 F3 ++ (wX6 g q4 S4 ++ (wX5 g q5 S5 ++ (wX4 g q6 S6 ++ (wX2 g q7 q8 S7 ++ (wX3 g q8 S8 ++ (wX1 g q9 S9))))))))) r := by
  intro sz
  refine Met.ofC (cc := cX7_less) (maxL := 4) (ret := (some .int)) (by decide) rfl (Nat.le_of_ble_eq_true rfl) ?_
  intro p e s m below meth c hC hr hlk hsz A hA9 hA hP hD hS ls hl
  subst hsz
  have hC : Cx p s m ([.ref (q1 100), .int x1, .int x2] : List Value).toArray c RX7 cX7_less 4 wsX7_less g := hC
  have hx := hC.1.1
  have hb := hC.1.2.1
  have hml := hC.1.2.2.1
  have hown := hC.1.2.2.2.1
  have hts := hC.1.2.2.2.2
  have hl : lv_has ls 4 [(0, .ref (q1 100)), (1, .int x1), (2, .int x2)] := hl
  show W p l e RM_X7_less s m ([.ref (q1 100), .int x1, .int x2] : List Value).toArray below meth c s.heap [] 0 0 (Qi below g [.ref (q1 100), .int x1, .int x2] (wX7 g q1 q2 q6 q7 q9 ++ (wX0 g q2 q3 q4 q5 ++ (wX3 g q3 S3 ++ (wX6 g q4 S4 ++ (wX5 g q5 S5 ++ (wX4 g q6 S6 ++ (wX2 g q7 q8 S7 ++ (wX3 g q8 S8 ++ (wX1 g q9 S9))))))))) (wX7 g q1 q2 q6 q7 q9 ++ (wX0 g q2 q3 q4 q5 ++ (wX3 g q3 F3 ++ (wX6 g q4 S4 ++ (wX5 g q5 S5 ++ (wX4 g q6 S6 ++ (wX2 g q7 q8 S7 ++ (wX3 g q8 S8 ++ (wX1 g q9 S9))))))))) r s) (F0 m 0 ls [])
  unfold f_X7_less at h
  refine lv_aload_n hx hb dX7_less_0 rfl (lv_at hl 0 rfl) ?_
  refine k_get (ci := 7) (k := 0) (q0 := 0) (v := .ref (q2 100)) (C := RX7) (T := TX7) (N := 5) hC uX7_less_X7 hP rfl rfl (by decide) (List.mem_of_getElem? (i := 1) rfl) rfl dX7_less_1 ?_
  refine k_get (ci := 0) (k := 0) (q0 := 1) (v := .ref (q3 100)) (C := RX0) (T := TX0) (N := 3) hC uX7_less_X0 hP rfl rfl (by decide) (List.mem_of_getElem? (i := 2) rfl) rfl dX7_less_4 ?_
  refine lv_iload_n hx hb dX7_less_7 rfl (lv_at hl 1 rfl) ?_
  obtain ⟨v101, hc106, h⟩ := fx_b1_s h
  refine k_callVi0 (C := RX3) (ci := 3) (qr := 0) (n := 1) (As := [.int x1]) (rest := []) (wc := (wX3 g q3 S3)) (bytes := cX3_hasPlace) (maxL := 2) (ret := (some .boolean)) hC hl.1 (c_X3_hasPlace l g N q3 S3 x1 v101 hc106) rfl gX7_less_X3_hasPlace (by decide +kernel) rfl rfl ⟨Nat.le_of_ble_eq_true rfl, Nat.le_of_ble_eq_true rfl⟩ rfl rfl rfl (Nat.le_of_ble_eq_true rfl) ⟨Nat.le_of_ble_eq_true rfl, Nat.le_of_ble_eq_true rfl⟩ dX7_less_8 hP hD hS hA [2, 3, 4, 5, 6, 7] rfl (by decide +kernel) (fun H locs hP hD hS => ?_)
  refine k_if_ne (tgt := 16) hC dX7_less_11 (by decide) h (fun h => ?_) (fun h => ?_)
  · refine lv_iload_n hx hb dX7_less_16 rfl (lv_at hl 2 rfl) ?_
    refine lv_iconst (v := (0 : Int32)) hx hb dX7_less_17 (by decide) ?_
    refine lv_bipush (v := (9 : Int32)) hx hb dX7_less_18 (by decide) ?_
    obtain ⟨v102, hc105, h⟩ := fx_b1_s h
    refine k_callSi0 (n := 3) (As := [.int x2, .int (0 : Int32), .int (9 : Int32)]) (rest := []) (wc := ([] : va_W)) (bytes := cX7_within) (maxL := 3) (ret := (some .boolean)) hC hl.1 (c_X7_within l g N x2 (0 : Int32) (9 : Int32) v102 hc105) rfl gX7_less_X7_within (by decide +kernel) ⟨Nat.le_of_ble_eq_true rfl, Nat.le_of_ble_eq_true rfl⟩ rfl rfl rfl (Nat.le_of_ble_eq_true rfl) ⟨Nat.le_of_ble_eq_true rfl, Nat.le_of_ble_eq_true rfl⟩ dX7_less_20 hP hD hS hA [] rfl (by decide +kernel) (fun H locs hP hD hS => ?_)
    refine k_if_ne (tgt := 29) hC dX7_less_23 (by decide) h (fun h => ?_) (fun h => ?_)
    · refine lv_aload_n hx hb dX7_less_29 rfl (lv_at hl 0 rfl) ?_
      refine k_get (ci := 7) (k := 0) (q0 := 0) (v := .ref (q2 100)) (C := RX7) (T := TX7) (N := 5) hC uX7_less_X7 hP rfl rfl (by decide) (List.mem_of_getElem? (i := 1) rfl) rfl dX7_less_30 ?_
      refine k_get (ci := 0) (k := 0) (q0 := 1) (v := .ref (q3 100)) (C := RX0) (T := TX0) (N := 3) hC uX7_less_X0 hP rfl rfl (by decide) (List.mem_of_getElem? (i := 2) rfl) rfl dX7_less_33 ?_
      refine k_get (ci := 3) (k := 6) (q0 := 2) (v := .ref (q3 6)) (C := RX3) (T := TX3) (N := 11) hC uX7_less_X3 hP rfl rfl (by decide) (List.mem_of_getElem? (i := 3) rfl) rfl dX7_less_36 ?_
      refine lv_iload_n hx hb dX7_less_39 rfl (lv_at hl 1 rfl) ?_
      refine k_ald (q0 := 3) (n := 6) (F := S3.2 6) hC hP rfl dX7_less_40 h (fun v103 h => ?_)
      refine lv_istore_n (lv' := [(3, .int v103), (0, .ref (q1 100)), (1, .int x1), (2, .int x2)]) hx hb dX7_less_41 rfl hl (by decide) rfl (fun ls hl => ?_)
      refine lv_aload_n hx hb dX7_less_42 rfl (lv_at hl 1 rfl) ?_
      refine k_get (ci := 7) (k := 0) (q0 := 0) (v := .ref (q2 100)) (C := RX7) (T := TX7) (N := 5) hC uX7_less_X7 hP rfl rfl (by decide) (List.mem_of_getElem? (i := 1) rfl) rfl dX7_less_43 ?_
      refine k_get (ci := 0) (k := 0) (q0 := 1) (v := .ref (q3 100)) (C := RX0) (T := TX0) (N := 3) hC uX7_less_X0 hP rfl rfl (by decide) (List.mem_of_getElem? (i := 2) rfl) rfl dX7_less_46 ?_
      refine k_get (ci := 3) (k := 6) (q0 := 2) (v := .ref (q3 6)) (C := RX3) (T := TX3) (N := 11) hC uX7_less_X3 hP rfl rfl (by decide) (List.mem_of_getElem? (i := 3) rfl) rfl dX7_less_49 ?_
      refine lv_iload_n hx hb dX7_less_52 rfl (lv_at hl 2 rfl) ?_
      refine lv_iload_n hx hb dX7_less_53 rfl (lv_at hl 3 rfl) ?_
      refine k_ast (q0 := 3) (n := 6) (k := 6) (S := S3) (fun S => (wX7 g q1 q2 q6 q7 q9 ++ (wX0 g q2 q3 q4 q5 ++ (wX3 g q3 S ++ (wX6 g q4 S4 ++ (wX5 g q5 S5 ++ (wX4 g q6 S6 ++ (wX2 g q7 q8 S7 ++ (wX3 g q8 S8 ++ (wX1 g q9 S9)))))))))) hC hP hD hS rfl (fun _ => rfl) dX7_less_54 h (fun S104 h H locs hP hD hS => ?_)
      refine lv_iload_n hx hb dX7_less_55 rfl (lv_at hl 0 rfl) ?_
      obtain ⟨rfl, rfl⟩ := fx_i2 h
      exact Ci.ret hC hr hlk hA9 hP hD hS dX7_less_56
    · refine lv_bipush (v := (-2 : Int32)) hx hb dX7_less_26 (by decide) ?_
      obtain ⟨rfl, rfl⟩ := fx_i2 h
      exact Ci.ret hC hr hlk hA9 hP hD hS dX7_less_28
  · refine lv_iconst (v := (-1 : Int32)) hx hb dX7_less_14 (by decide) ?_
    obtain ⟨rfl, rfl⟩ := fx_i2 h
    exact Ci.ret hC hr hlk hA9 hP hD hS dX7_less_15
theorem uX7_sort_X0 : ∀ w ∈ u_ws RX0 TX0 3, w ∈ wsX7_sort := fun w h => List.mem_cons_of_mem _ (List.mem_append_left _ (List.mem_append_right _ h))
theorem uX7_sort_X6 : ∀ w ∈ u_ws RX6 TX6 5, w ∈ wsX7_sort := fun w h => List.mem_cons_of_mem _ (List.mem_append_right _ h)
theorem uX7_sort_X7 : ∀ w ∈ u_ws RX7 TX7 5, w ∈ wsX7_sort := fun w h => List.mem_cons_of_mem _ (List.mem_append_left _ (List.mem_append_left _ (List.mem_append_right _ h)))
abbrev RM_X7_sort : Room := { frames := 2, cells := 0, slots := 0, locals := 42 }
def f_X7_sort (N : Nat) (S3 : St) (S4 : St) (S5 : St) (S6 : St) (S7 : St) (S8 : St) (S9 : St) (x1 : Int32) (x2 : Int32) (x3 : Int32) (x4 : Int32) : Option (Int32 × St) :=
  fx_b1 (f_X7_isKind N x1) (fun v101 =>
  (if v101 = 0 then (
  some ((-1 : Int32), S4)) else (
  fx_b1 (f_X7_within N x2 (1 : Int32) (500 : Int32)) (fun v102 =>
    (if v102 = 0 then (
    some ((-2 : Int32), S4)) else (
    fx_b1 (f_X7_within N x3 (0 : Int32) (500 : Int32)) (fun v103 =>
      (if v103 = 0 then (
      some ((-2 : Int32), S4)) else (
      fx_b1 (f_X7_within N x4 (0 : Int32) (99 : Int32)) (fun v104 =>
        (if v104 = 0 then (
        some ((-2 : Int32), S4)) else (
        fx_lt (stI S4 0 ((S4.1 0) ||| ((1 : Int32) <<< (x1 &&& 31)))) (fun S105 =>
          fx_ast 6 S105 1 x1 x2 (fun S106 =>
          fx_ast 6 S106 2 x1 x3 (fun S107 =>
          fx_ast 6 S107 3 x1 x4 (fun S108 =>
          fx_b1 (f_J6_bitCount_0f7a4 N (S108.1 0)) (fun v109 =>
          some (v109, S108))))))))))))))))))
set_option maxRecDepth 100000 in
set_option maxHeartbeats 4000000 in
theorem c_X7_sort (l : Launch) (g : GG) (N : Nat) (q1 : Nat → Nat) (q2 : Nat → Nat) (q3 : Nat → Nat) (q4 : Nat → Nat) (q5 : Nat → Nat) (q6 : Nat → Nat) (q7 : Nat → Nat) (q8 : Nat → Nat) (q9 : Nat → Nat) (S3 : St) (S4 : St) (S5 : St) (S6 : St) (S7 : St) (S8 : St) (S9 : St) (x1 : Int32) (x2 : Int32) (x3 : Int32) (x4 : Int32) (r : Int32) (F4 : St) (h : f_X7_sort N S3 S4 S5 S6 S7 S8 S9 x1 x2 x3 x4 = some (r, F4)) : Ci l yX7_sort wsX7_sort RM_X7_sort g [.ref (q1 100), .int x1, .int x2, .int x3, .int x4] (wX7 g q1 q2 q6 q7 q9 ++ (wX0 g q2 q3 q4 q5 ++ (wX3 g q3 S3 ++ (wX6 g q4 S4 ++ (wX5 g q5 S5 ++ (wX4 g q6 S6 ++ (wX2 g q7 q8 S7 ++ (wX3 g q8 S8 ++ (wX1 g q9 S9))))))))) (wX7 g q1 q2 q6 q7 q9 ++ (wX0 g q2 q3 q4 q5 ++ (wX3 g q3 S3 ++ (wX6 g q4 F4 ++ (wX5 g q5 S5 ++ (wX4 g q6 S6 ++ (wX2 g q7 q8 S7 ++ (wX3 g q8 S8 ++ (wX1 g q9 S9))))))))) r := by
  intro sz
  refine Met.ofC (cc := cX7_sort) (maxL := 6) (ret := (some .int)) (by decide) rfl (Nat.le_of_ble_eq_true rfl) ?_
  intro p e s m below meth c hC hr hlk hsz A hA9 hA hP hD hS ls hl
  subst hsz
  have hC : Cx p s m ([.ref (q1 100), .int x1, .int x2, .int x3, .int x4] : List Value).toArray c RX7 cX7_sort 6 wsX7_sort g := hC
  have hx := hC.1.1
  have hb := hC.1.2.1
  have hml := hC.1.2.2.1
  have hown := hC.1.2.2.2.1
  have hts := hC.1.2.2.2.2
  have hl : lv_has ls 6 [(0, .ref (q1 100)), (1, .int x1), (2, .int x2), (3, .int x3), (4, .int x4)] := hl
  show W p l e RM_X7_sort s m ([.ref (q1 100), .int x1, .int x2, .int x3, .int x4] : List Value).toArray below meth c s.heap [] 0 0 (Qi below g [.ref (q1 100), .int x1, .int x2, .int x3, .int x4] (wX7 g q1 q2 q6 q7 q9 ++ (wX0 g q2 q3 q4 q5 ++ (wX3 g q3 S3 ++ (wX6 g q4 S4 ++ (wX5 g q5 S5 ++ (wX4 g q6 S6 ++ (wX2 g q7 q8 S7 ++ (wX3 g q8 S8 ++ (wX1 g q9 S9))))))))) (wX7 g q1 q2 q6 q7 q9 ++ (wX0 g q2 q3 q4 q5 ++ (wX3 g q3 S3 ++ (wX6 g q4 F4 ++ (wX5 g q5 S5 ++ (wX4 g q6 S6 ++ (wX2 g q7 q8 S7 ++ (wX3 g q8 S8 ++ (wX1 g q9 S9))))))))) r s) (F0 m 0 ls [])
  unfold f_X7_sort at h
  refine lv_iload_n hx hb dX7_sort_0 rfl (lv_at hl 1 rfl) ?_
  obtain ⟨v101, hc114, h⟩ := fx_b1_s h
  refine k_callSi0 (n := 1) (As := [.int x1]) (rest := []) (wc := ([] : va_W)) (bytes := cX7_isKind) (maxL := 1) (ret := (some .boolean)) hC hl.1 (c_X7_isKind l g N x1 v101 hc114) rfl gX7_sort_X7_isKind (by decide +kernel) ⟨Nat.le_of_ble_eq_true rfl, Nat.le_of_ble_eq_true rfl⟩ rfl rfl rfl (Nat.le_of_ble_eq_true rfl) ⟨Nat.le_of_ble_eq_true rfl, Nat.le_of_ble_eq_true rfl⟩ dX7_sort_1 hP hD hS hA [] rfl (by decide +kernel) (fun H locs hP hD hS => ?_)
  refine k_if_ne (tgt := 9) hC dX7_sort_4 (by decide) h (fun h => ?_) (fun h => ?_)
  · refine lv_iload_n hx hb dX7_sort_9 rfl (lv_at hl 2 rfl) ?_
    refine lv_iconst (v := (1 : Int32)) hx hb dX7_sort_10 (by decide) ?_
    refine lv_sipush (v := (500 : Int32)) hx hb dX7_sort_11 (by decide) ?_
    obtain ⟨v102, hc113, h⟩ := fx_b1_s h
    refine k_callSi0 (n := 3) (As := [.int x2, .int (1 : Int32), .int (500 : Int32)]) (rest := []) (wc := ([] : va_W)) (bytes := cX7_within) (maxL := 3) (ret := (some .boolean)) hC hl.1 (c_X7_within l g N x2 (1 : Int32) (500 : Int32) v102 hc113) rfl gX7_sort_X7_within (by decide +kernel) ⟨Nat.le_of_ble_eq_true rfl, Nat.le_of_ble_eq_true rfl⟩ rfl rfl rfl (Nat.le_of_ble_eq_true rfl) ⟨Nat.le_of_ble_eq_true rfl, Nat.le_of_ble_eq_true rfl⟩ dX7_sort_14 hP hD hS hA [] rfl (by decide +kernel) (fun H locs hP hD hS => ?_)
    refine k_if_eq (tgt := 42) hC dX7_sort_17 (by decide) h (fun h => ?_) (fun h => ?_)
    · refine lv_bipush (v := (-2 : Int32)) hx hb dX7_sort_42 (by decide) ?_
      obtain ⟨rfl, rfl⟩ := fx_i2 h
      exact Ci.ret hC hr hlk hA9 hP hD hS dX7_sort_44
    · refine lv_iload_n hx hb dX7_sort_20 rfl (lv_at hl 3 rfl) ?_
      refine lv_iconst (v := (0 : Int32)) hx hb dX7_sort_21 (by decide) ?_
      refine lv_sipush (v := (500 : Int32)) hx hb dX7_sort_22 (by decide) ?_
      obtain ⟨v103, hc112, h⟩ := fx_b1_s h
      refine k_callSi0 (n := 3) (As := [.int x3, .int (0 : Int32), .int (500 : Int32)]) (rest := []) (wc := ([] : va_W)) (bytes := cX7_within) (maxL := 3) (ret := (some .boolean)) hC hl.1 (c_X7_within l g N x3 (0 : Int32) (500 : Int32) v103 hc112) rfl gX7_sort_X7_within (by decide +kernel) ⟨Nat.le_of_ble_eq_true rfl, Nat.le_of_ble_eq_true rfl⟩ rfl rfl rfl (Nat.le_of_ble_eq_true rfl) ⟨Nat.le_of_ble_eq_true rfl, Nat.le_of_ble_eq_true rfl⟩ dX7_sort_25 hP hD hS hA [] rfl (by decide +kernel) (fun H locs hP hD hS => ?_)
      refine k_if_eq (tgt := 42) hC dX7_sort_28 (by decide) h (fun h => ?_) (fun h => ?_)
      · refine lv_bipush (v := (-2 : Int32)) hx hb dX7_sort_42 (by decide) ?_
        obtain ⟨rfl, rfl⟩ := fx_i2 h
        exact Ci.ret hC hr hlk hA9 hP hD hS dX7_sort_44
      · refine lv_iload hx hb dX7_sort_31 (lv_at hl 4 rfl) ?_
        refine lv_iconst (v := (0 : Int32)) hx hb dX7_sort_33 (by decide) ?_
        refine lv_bipush (v := (99 : Int32)) hx hb dX7_sort_34 (by decide) ?_
        obtain ⟨v104, hc111, h⟩ := fx_b1_s h
        refine k_callSi0 (n := 3) (As := [.int x4, .int (0 : Int32), .int (99 : Int32)]) (rest := []) (wc := ([] : va_W)) (bytes := cX7_within) (maxL := 3) (ret := (some .boolean)) hC hl.1 (c_X7_within l g N x4 (0 : Int32) (99 : Int32) v104 hc111) rfl gX7_sort_X7_within (by decide +kernel) ⟨Nat.le_of_ble_eq_true rfl, Nat.le_of_ble_eq_true rfl⟩ rfl rfl rfl (Nat.le_of_ble_eq_true rfl) ⟨Nat.le_of_ble_eq_true rfl, Nat.le_of_ble_eq_true rfl⟩ dX7_sort_36 hP hD hS hA [] rfl (by decide +kernel) (fun H locs hP hD hS => ?_)
        refine k_if_ne (tgt := 45) hC dX7_sort_39 (by decide) h (fun h => ?_) (fun h => ?_)
        · refine lv_aload_n hx hb dX7_sort_45 rfl (lv_at hl 0 rfl) ?_
          refine k_get (ci := 7) (k := 0) (q0 := 0) (v := .ref (q2 100)) (C := RX7) (T := TX7) (N := 5) hC uX7_sort_X7 hP rfl rfl (by decide) (List.mem_of_getElem? (i := 1) rfl) rfl dX7_sort_46 ?_
          refine k_get (ci := 0) (k := 1) (q0 := 1) (v := .ref (q4 100)) (C := RX0) (T := TX0) (N := 3) hC uX7_sort_X0 hP rfl rfl (by decide) (List.mem_of_getElem? (i := 2) rfl) rfl dX7_sort_49 ?_
          refine lv_astore (lv' := [(5, .ref (q4 100)), (0, .ref (q1 100)), (1, .int x1), (2, .int x2), (3, .int x3), (4, .int x4)]) hx hb dX7_sort_52 hl (by decide) rfl (fun ls hl => ?_)
          refine lv_aload hx hb dX7_sort_54 (lv_at hl 0 rfl) ?_
          refine lv_dup hx hb dX7_sort_56 rfl ?_
          refine k_get (ci := 6) (k := 0) (q0 := 8) (v := .int (S4.1 0)) (C := RX6) (T := TX6) (N := 5) hC uX7_sort_X6 hP rfl rfl (by decide) (List.mem_of_getElem? (i := 3) rfl) rfl dX7_sort_57 ?_
          refine lv_iconst (v := (1 : Int32)) hx hb dX7_sort_60 (by decide) ?_
          refine lv_iload_n hx hb dX7_sort_61 rfl (lv_at hl 2 rfl) ?_
          refine lv_ishl hx hb dX7_sort_62 ?_
          refine lv_ior hx hb dX7_sort_63 ?_
          refine k_put (ci := 6) (k := 0) (q0 := 8) (C := RX6) (T := TX6) (N := 5) (S2 := stI S4 0 ((S4.1 0) ||| ((1 : Int32) <<< (x1 &&& 31)))) tyX6 (fun S => (wX7 g q1 q2 q6 q7 q9 ++ (wX0 g q2 q3 q4 q5 ++ (wX3 g q3 S3 ++ (wX6 g q4 S ++ (wX5 g q5 S5 ++ (wX4 g q6 S6 ++ (wX2 g q7 q8 S7 ++ (wX3 g q8 S8 ++ (wX1 g q9 S9)))))))))) hC uX7_sort_X6 tyX6_ok nmX6 hP hD hS rfl rfl (by decide) (List.mem_of_getElem? (i := 3) rfl) rfl (tyX6_ok 0 (by decide)) (Nat.le_of_ble_eq_true rfl) dX7_sort_64 rfl h (fun S105 h H locs hP hD hS => ?_)
          refine lv_aload hx hb dX7_sort_67 (lv_at hl 0 rfl) ?_
          refine k_get (ci := 6) (k := 1) (q0 := 8) (v := .ref (q4 1)) (C := RX6) (T := TX6) (N := 5) hC uX7_sort_X6 hP rfl rfl (by decide) (List.mem_of_getElem? (i := 4) rfl) rfl dX7_sort_69 ?_
          refine lv_iload_n hx hb dX7_sort_72 rfl (lv_at hl 2 rfl) ?_
          refine lv_iload_n hx hb dX7_sort_73 rfl (lv_at hl 3 rfl) ?_
          refine k_ast (q0 := 9) (n := 6) (k := 1) (S := S105) (fun S => (wX7 g q1 q2 q6 q7 q9 ++ (wX0 g q2 q3 q4 q5 ++ (wX3 g q3 S3 ++ (wX6 g q4 S ++ (wX5 g q5 S5 ++ (wX4 g q6 S6 ++ (wX2 g q7 q8 S7 ++ (wX3 g q8 S8 ++ (wX1 g q9 S9)))))))))) hC hP hD hS rfl (fun _ => rfl) dX7_sort_74 h (fun S106 h H locs hP hD hS => ?_)
          refine lv_aload hx hb dX7_sort_75 (lv_at hl 0 rfl) ?_
          refine k_get (ci := 6) (k := 2) (q0 := 8) (v := .ref (q4 2)) (C := RX6) (T := TX6) (N := 5) hC uX7_sort_X6 hP rfl rfl (by decide) (List.mem_of_getElem? (i := 5) rfl) rfl dX7_sort_77 ?_
          refine lv_iload_n hx hb dX7_sort_80 rfl (lv_at hl 2 rfl) ?_
          refine lv_iload_n hx hb dX7_sort_81 rfl (lv_at hl 4 rfl) ?_
          refine k_ast (q0 := 10) (n := 6) (k := 2) (S := S106) (fun S => (wX7 g q1 q2 q6 q7 q9 ++ (wX0 g q2 q3 q4 q5 ++ (wX3 g q3 S3 ++ (wX6 g q4 S ++ (wX5 g q5 S5 ++ (wX4 g q6 S6 ++ (wX2 g q7 q8 S7 ++ (wX3 g q8 S8 ++ (wX1 g q9 S9)))))))))) hC hP hD hS rfl (fun _ => rfl) dX7_sort_82 h (fun S107 h H locs hP hD hS => ?_)
          refine lv_aload hx hb dX7_sort_83 (lv_at hl 0 rfl) ?_
          refine k_get (ci := 6) (k := 3) (q0 := 8) (v := .ref (q4 3)) (C := RX6) (T := TX6) (N := 5) hC uX7_sort_X6 hP rfl rfl (by decide) (List.mem_of_getElem? (i := 6) rfl) rfl dX7_sort_85 ?_
          refine lv_iload_n hx hb dX7_sort_88 rfl (lv_at hl 2 rfl) ?_
          refine lv_iload hx hb dX7_sort_89 (lv_at hl 5 rfl) ?_
          refine k_ast (q0 := 11) (n := 6) (k := 3) (S := S107) (fun S => (wX7 g q1 q2 q6 q7 q9 ++ (wX0 g q2 q3 q4 q5 ++ (wX3 g q3 S3 ++ (wX6 g q4 S ++ (wX5 g q5 S5 ++ (wX4 g q6 S6 ++ (wX2 g q7 q8 S7 ++ (wX3 g q8 S8 ++ (wX1 g q9 S9)))))))))) hC hP hD hS rfl (fun _ => rfl) dX7_sort_91 h (fun S108 h H locs hP hD hS => ?_)
          refine lv_aload hx hb dX7_sort_92 (lv_at hl 0 rfl) ?_
          refine k_get (ci := 6) (k := 0) (q0 := 8) (v := .int (S108.1 0)) (C := RX6) (T := TX6) (N := 5) hC uX7_sort_X6 hP rfl rfl (by decide) (List.mem_of_getElem? (i := 3) rfl) rfl dX7_sort_94 ?_
          obtain ⟨v109, hc110, h⟩ := fx_b1_s h
          refine k_callSi0 (n := 1) (As := [.int (S108.1 0)]) (rest := []) (wc := ([] : va_W)) (bytes := cJ6_bitCount_0f7a4) (maxL := 1) (ret := (some .int)) hC hl.1 (c_J6_bitCount_0f7a4 l g N (S108.1 0) v109 hc110) rfl gX7_sort_J6_bitCount_0f7a4 (by decide +kernel) ⟨Nat.le_of_ble_eq_true rfl, Nat.le_of_ble_eq_true rfl⟩ rfl rfl rfl (Nat.le_of_ble_eq_true rfl) ⟨Nat.le_of_ble_eq_true rfl, Nat.le_of_ble_eq_true rfl⟩ dX7_sort_97 hP hD hS hA [] rfl (by decide +kernel) (fun H locs hP hD hS => ?_)
          obtain ⟨rfl, rfl⟩ := fx_i2 h
          exact Ci.ret hC hr hlk hA9 hP hD hS dX7_sort_100
        · refine lv_bipush (v := (-2 : Int32)) hx hb dX7_sort_42 (by decide) ?_
          obtain ⟨rfl, rfl⟩ := fx_i2 h
          exact Ci.ret hC hr hlk hA9 hP hD hS dX7_sort_44
  · refine lv_iconst (v := (-1 : Int32)) hx hb dX7_sort_7 (by decide) ?_
    obtain ⟨rfl, rfl⟩ := fx_i2 h
    exact Ci.ret hC hr hlk hA9 hP hD hS dX7_sort_8
theorem uX7_apart_X0 : ∀ w ∈ u_ws RX0 TX0 3, w ∈ wsX7_apart := fun w h => List.mem_cons_of_mem _ (List.mem_append_left _ (List.mem_append_right _ h))
theorem uX7_apart_X7 : ∀ w ∈ u_ws RX7 TX7 5, w ∈ wsX7_apart := fun w h => List.mem_cons_of_mem _ (List.mem_append_left _ (List.mem_append_left _ (List.mem_append_right _ h)))
abbrev RM_X7_apart : Room := { frames := 2, cells := 0, slots := 0, locals := 42 }
def f_X7_apart (N : Nat) (S3 : St) (S4 : St) (S5 : St) (S6 : St) (S7 : St) (S8 : St) (S9 : St) (x1 : Int32) (x2 : Int32) (x3 : Int32) : Option (Int32 × St) :=
  fx_b1 (f_X7_isKind N x1) (fun v101 =>
  (if v101 = 0 then (
  some ((-1 : Int32), S4)) else (
  fx_b1 (f_X7_isKind N x2) (fun v102 =>
    (if v102 = 0 then (
    some ((-1 : Int32), S4)) else (
    fx_b1 (f_X6_tellApart N S4 x1 x2 x3) (fun S103 =>
      some ((1 : Int32), S103))))))))
set_option maxRecDepth 100000 in
set_option maxHeartbeats 4000000 in
theorem c_X7_apart (l : Launch) (g : GG) (N : Nat) (q1 : Nat → Nat) (q2 : Nat → Nat) (q3 : Nat → Nat) (q4 : Nat → Nat) (q5 : Nat → Nat) (q6 : Nat → Nat) (q7 : Nat → Nat) (q8 : Nat → Nat) (q9 : Nat → Nat) (S3 : St) (S4 : St) (S5 : St) (S6 : St) (S7 : St) (S8 : St) (S9 : St) (x1 : Int32) (x2 : Int32) (x3 : Int32) (r : Int32) (F4 : St) (h : f_X7_apart N S3 S4 S5 S6 S7 S8 S9 x1 x2 x3 = some (r, F4)) : Ci l yX7_apart wsX7_apart RM_X7_apart g [.ref (q1 100), .int x1, .int x2, .int x3] (wX7 g q1 q2 q6 q7 q9 ++ (wX0 g q2 q3 q4 q5 ++ (wX3 g q3 S3 ++ (wX6 g q4 S4 ++ (wX5 g q5 S5 ++ (wX4 g q6 S6 ++ (wX2 g q7 q8 S7 ++ (wX3 g q8 S8 ++ (wX1 g q9 S9))))))))) (wX7 g q1 q2 q6 q7 q9 ++ (wX0 g q2 q3 q4 q5 ++ (wX3 g q3 S3 ++ (wX6 g q4 F4 ++ (wX5 g q5 S5 ++ (wX4 g q6 S6 ++ (wX2 g q7 q8 S7 ++ (wX3 g q8 S8 ++ (wX1 g q9 S9))))))))) r := by
  intro sz
  refine Met.ofC (cc := cX7_apart) (maxL := 4) (ret := (some .int)) (by decide) rfl (Nat.le_of_ble_eq_true rfl) ?_
  intro p e s m below meth c hC hr hlk hsz A hA9 hA hP hD hS ls hl
  subst hsz
  have hC : Cx p s m ([.ref (q1 100), .int x1, .int x2, .int x3] : List Value).toArray c RX7 cX7_apart 4 wsX7_apart g := hC
  have hx := hC.1.1
  have hb := hC.1.2.1
  have hml := hC.1.2.2.1
  have hown := hC.1.2.2.2.1
  have hts := hC.1.2.2.2.2
  have hl : lv_has ls 4 [(0, .ref (q1 100)), (1, .int x1), (2, .int x2), (3, .int x3)] := hl
  show W p l e RM_X7_apart s m ([.ref (q1 100), .int x1, .int x2, .int x3] : List Value).toArray below meth c s.heap [] 0 0 (Qi below g [.ref (q1 100), .int x1, .int x2, .int x3] (wX7 g q1 q2 q6 q7 q9 ++ (wX0 g q2 q3 q4 q5 ++ (wX3 g q3 S3 ++ (wX6 g q4 S4 ++ (wX5 g q5 S5 ++ (wX4 g q6 S6 ++ (wX2 g q7 q8 S7 ++ (wX3 g q8 S8 ++ (wX1 g q9 S9))))))))) (wX7 g q1 q2 q6 q7 q9 ++ (wX0 g q2 q3 q4 q5 ++ (wX3 g q3 S3 ++ (wX6 g q4 F4 ++ (wX5 g q5 S5 ++ (wX4 g q6 S6 ++ (wX2 g q7 q8 S7 ++ (wX3 g q8 S8 ++ (wX1 g q9 S9))))))))) r s) (F0 m 0 ls [])
  unfold f_X7_apart at h
  refine lv_iload_n hx hb dX7_apart_0 rfl (lv_at hl 1 rfl) ?_
  obtain ⟨v101, hc106, h⟩ := fx_b1_s h
  refine k_callSi0 (n := 1) (As := [.int x1]) (rest := []) (wc := ([] : va_W)) (bytes := cX7_isKind) (maxL := 1) (ret := (some .boolean)) hC hl.1 (c_X7_isKind l g N x1 v101 hc106) rfl gX7_apart_X7_isKind (by decide +kernel) ⟨Nat.le_of_ble_eq_true rfl, Nat.le_of_ble_eq_true rfl⟩ rfl rfl rfl (Nat.le_of_ble_eq_true rfl) ⟨Nat.le_of_ble_eq_true rfl, Nat.le_of_ble_eq_true rfl⟩ dX7_apart_1 hP hD hS hA [] rfl (by decide +kernel) (fun H locs hP hD hS => ?_)
  refine k_if_eq (tgt := 14) hC dX7_apart_4 (by decide) h (fun h => ?_) (fun h => ?_)
  · refine lv_iconst (v := (-1 : Int32)) hx hb dX7_apart_14 (by decide) ?_
    obtain ⟨rfl, rfl⟩ := fx_i2 h
    exact Ci.ret hC hr hlk hA9 hP hD hS dX7_apart_15
  · refine lv_iload_n hx hb dX7_apart_7 rfl (lv_at hl 2 rfl) ?_
    obtain ⟨v102, hc105, h⟩ := fx_b1_s h
    refine k_callSi0 (n := 1) (As := [.int x2]) (rest := []) (wc := ([] : va_W)) (bytes := cX7_isKind) (maxL := 1) (ret := (some .boolean)) hC hl.1 (c_X7_isKind l g N x2 v102 hc105) rfl gX7_apart_X7_isKind (by decide +kernel) ⟨Nat.le_of_ble_eq_true rfl, Nat.le_of_ble_eq_true rfl⟩ rfl rfl rfl (Nat.le_of_ble_eq_true rfl) ⟨Nat.le_of_ble_eq_true rfl, Nat.le_of_ble_eq_true rfl⟩ dX7_apart_8 hP hD hS hA [] rfl (by decide +kernel) (fun H locs hP hD hS => ?_)
    refine k_if_ne (tgt := 16) hC dX7_apart_11 (by decide) h (fun h => ?_) (fun h => ?_)
    · refine lv_aload_n hx hb dX7_apart_16 rfl (lv_at hl 0 rfl) ?_
      refine k_get (ci := 7) (k := 0) (q0 := 0) (v := .ref (q2 100)) (C := RX7) (T := TX7) (N := 5) hC uX7_apart_X7 hP rfl rfl (by decide) (List.mem_of_getElem? (i := 1) rfl) rfl dX7_apart_17 ?_
      refine k_get (ci := 0) (k := 1) (q0 := 1) (v := .ref (q4 100)) (C := RX0) (T := TX0) (N := 3) hC uX7_apart_X0 hP rfl rfl (by decide) (List.mem_of_getElem? (i := 2) rfl) rfl dX7_apart_20 ?_
      refine lv_iload_n hx hb dX7_apart_23 rfl (lv_at hl 1 rfl) ?_
      refine lv_iload_n hx hb dX7_apart_24 rfl (lv_at hl 2 rfl) ?_
      refine lv_iload_n hx hb dX7_apart_25 rfl (lv_at hl 3 rfl) ?_
      obtain ⟨S103, hc104, h⟩ := fx_b1_s h
      refine k_callVv (C := RX6) (ci := 6) (qr := 0) (n := 3) (As := [.int x1, .int x2, .int x3]) (rest := []) (wc := (wX6 g q4 S4)) (w1 := (wX6 g q4 S103)) (ws2 := (wX7 g q1 q2 q6 q7 q9 ++ (wX0 g q2 q3 q4 q5 ++ (wX3 g q3 S3 ++ (wX6 g q4 S103 ++ (wX5 g q5 S5 ++ (wX4 g q6 S6 ++ (wX2 g q7 q8 S7 ++ (wX3 g q8 S8 ++ (wX1 g q9 S9)))))))))) (bytes := cX6_tellApart) (maxL := 4) (ret := none) hC hl.1 (c_X6_tellApart l g N q4 S4 x1 x2 x3 S103 hc104) rfl gX7_apart_X6_tellApart (by decide +kernel) rfl rfl ⟨Nat.le_of_ble_eq_true rfl, Nat.le_of_ble_eq_true rfl⟩ rfl rfl rfl (Nat.le_of_ble_eq_true rfl) ⟨Nat.le_of_ble_eq_true rfl, Nat.le_of_ble_eq_true rfl⟩ dX7_apart_26 hP hD hS hA [8, 9, 10, 11, 12] rfl (by decide +kernel) [q4 100, q4 1, q4 2, q4 3, q4 4] rfl rfl rfl [0, 1, 2, 3, 4, 5, 6, 7, 13, 14, 15, 16, 17, 18, 19, 20, 21, 22, 23, 24, 25, 26, 27, 28, 29, 30, 31] (wX7 g q1 q2 q6 q7 q9 ++ (wX0 g q2 q3 q4 q5 ++ (wX3 g q3 S3 ++ (wX5 g q5 S5 ++ (wX4 g q6 S6 ++ (wX2 g q7 q8 S7 ++ (wX3 g q8 S8 ++ (wX1 g q9 S9)))))))) rfl rfl (n2 := 32) rfl (by decide +kernel) (fun H locs hP hD hS => ?_)
      refine lv_iconst (v := (1 : Int32)) hx hb dX7_apart_29 (by decide) ?_
      obtain ⟨rfl, rfl⟩ := fx_i2 h
      exact Ci.ret hC hr hlk hA9 hP hD hS dX7_apart_30
    · refine lv_iconst (v := (-1 : Int32)) hx hb dX7_apart_14 (by decide) ?_
      obtain ⟨rfl, rfl⟩ := fx_i2 h
      exact Ci.ret hC hr hlk hA9 hP hD hS dX7_apart_15
theorem uX7_say_X4 : ∀ w ∈ u_ws RX4 TX4 2, w ∈ wsX7_say := fun w h => List.mem_cons_of_mem _ (List.mem_append_right _ h)
theorem uX7_say_X7 : ∀ w ∈ u_ws RX7 TX7 5, w ∈ wsX7_say := fun w h => List.mem_cons_of_mem _ (List.mem_append_left _ (List.mem_append_right _ h))
abbrev RM_X7_say : Room := { frames := 1, cells := 0, slots := 0, locals := 22 }
def f_X7_say (N : Nat) (S3 : St) (S4 : St) (S5 : St) (S6 : St) (S7 : St) (S8 : St) (S9 : St) (x1 : Int32) : Option (Int32 × St) :=
  fx_b1 (f_X7_within N x1 (33 : Int32) (126 : Int32)) (fun v101 =>
  (if v101 = 0 then (
  some ((-2 : Int32), S6)) else (
  (if (S6.1 0) < (60 : Int32) then (
    fx_ast 60 S6 1 (S6.1 0) x1 (fun S102 =>
      fx_lt (stI S102 0 ((S102.1 0) + (1 : Int32))) (fun S103 =>
      some ((S103.1 0), S103)))) else (
    some ((-4 : Int32), S6))))))
set_option maxRecDepth 100000 in
set_option maxHeartbeats 4000000 in
theorem c_X7_say (l : Launch) (g : GG) (N : Nat) (q1 : Nat → Nat) (q2 : Nat → Nat) (q3 : Nat → Nat) (q4 : Nat → Nat) (q5 : Nat → Nat) (q6 : Nat → Nat) (q7 : Nat → Nat) (q8 : Nat → Nat) (q9 : Nat → Nat) (S3 : St) (S4 : St) (S5 : St) (S6 : St) (S7 : St) (S8 : St) (S9 : St) (x1 : Int32) (r : Int32) (F6 : St) (h : f_X7_say N S3 S4 S5 S6 S7 S8 S9 x1 = some (r, F6)) : Ci l yX7_say wsX7_say RM_X7_say g [.ref (q1 100), .int x1] (wX7 g q1 q2 q6 q7 q9 ++ (wX0 g q2 q3 q4 q5 ++ (wX3 g q3 S3 ++ (wX6 g q4 S4 ++ (wX5 g q5 S5 ++ (wX4 g q6 S6 ++ (wX2 g q7 q8 S7 ++ (wX3 g q8 S8 ++ (wX1 g q9 S9))))))))) (wX7 g q1 q2 q6 q7 q9 ++ (wX0 g q2 q3 q4 q5 ++ (wX3 g q3 S3 ++ (wX6 g q4 S4 ++ (wX5 g q5 S5 ++ (wX4 g q6 F6 ++ (wX2 g q7 q8 S7 ++ (wX3 g q8 S8 ++ (wX1 g q9 S9))))))))) r := by
  intro sz
  refine Met.ofC (cc := cX7_say) (maxL := 2) (ret := (some .int)) (by decide) rfl (Nat.le_of_ble_eq_true rfl) ?_
  intro p e s m below meth c hC hr hlk hsz A hA9 hA hP hD hS ls hl
  subst hsz
  have hC : Cx p s m ([.ref (q1 100), .int x1] : List Value).toArray c RX7 cX7_say 2 wsX7_say g := hC
  have hx := hC.1.1
  have hb := hC.1.2.1
  have hml := hC.1.2.2.1
  have hown := hC.1.2.2.2.1
  have hts := hC.1.2.2.2.2
  have hl : lv_has ls 2 [(0, .ref (q1 100)), (1, .int x1)] := hl
  show W p l e RM_X7_say s m ([.ref (q1 100), .int x1] : List Value).toArray below meth c s.heap [] 0 0 (Qi below g [.ref (q1 100), .int x1] (wX7 g q1 q2 q6 q7 q9 ++ (wX0 g q2 q3 q4 q5 ++ (wX3 g q3 S3 ++ (wX6 g q4 S4 ++ (wX5 g q5 S5 ++ (wX4 g q6 S6 ++ (wX2 g q7 q8 S7 ++ (wX3 g q8 S8 ++ (wX1 g q9 S9))))))))) (wX7 g q1 q2 q6 q7 q9 ++ (wX0 g q2 q3 q4 q5 ++ (wX3 g q3 S3 ++ (wX6 g q4 S4 ++ (wX5 g q5 S5 ++ (wX4 g q6 F6 ++ (wX2 g q7 q8 S7 ++ (wX3 g q8 S8 ++ (wX1 g q9 S9))))))))) r s) (F0 m 0 ls [])
  unfold f_X7_say at h
  refine lv_iload_n hx hb dX7_say_0 rfl (lv_at hl 1 rfl) ?_
  refine lv_bipush (v := (33 : Int32)) hx hb dX7_say_1 (by decide) ?_
  refine lv_bipush (v := (126 : Int32)) hx hb dX7_say_3 (by decide) ?_
  obtain ⟨v101, hc104, h⟩ := fx_b1_s h
  refine k_callSi0 (n := 3) (As := [.int x1, .int (33 : Int32), .int (126 : Int32)]) (rest := []) (wc := ([] : va_W)) (bytes := cX7_within) (maxL := 3) (ret := (some .boolean)) hC hl.1 (c_X7_within l g N x1 (33 : Int32) (126 : Int32) v101 hc104) rfl gX7_say_X7_within (by decide +kernel) ⟨Nat.le_of_ble_eq_true rfl, Nat.le_of_ble_eq_true rfl⟩ rfl rfl rfl (Nat.le_of_ble_eq_true rfl) ⟨Nat.le_of_ble_eq_true rfl, Nat.le_of_ble_eq_true rfl⟩ dX7_say_5 hP hD hS hA [] rfl (by decide +kernel) (fun H locs hP hD hS => ?_)
  refine k_if_ne (tgt := 14) hC dX7_say_8 (by decide) h (fun h => ?_) (fun h => ?_)
  · refine lv_aload_n hx hb dX7_say_14 rfl (lv_at hl 0 rfl) ?_
    refine k_get (ci := 7) (k := 2) (q0 := 0) (v := .ref (q6 100)) (C := RX7) (T := TX7) (N := 5) hC uX7_say_X7 hP rfl rfl (by decide) (List.mem_of_getElem? (i := 1) rfl) rfl dX7_say_15 ?_
    refine k_get (ci := 4) (k := 0) (q0 := 15) (v := .int (S6.1 0)) (C := RX4) (T := TX4) (N := 2) hC uX7_say_X4 hP rfl rfl (by decide) (List.mem_of_getElem? (i := 2) rfl) rfl dX7_say_18 ?_
    refine lv_bipush (v := (60 : Int32)) hx hb dX7_say_21 (by decide) ?_
    refine k_icmp_lt (tgt := 29) hC dX7_say_23 (by decide) h (fun h => ?_) (fun h => ?_)
    · refine lv_aload_n hx hb dX7_say_29 rfl (lv_at hl 0 rfl) ?_
      refine k_get (ci := 7) (k := 2) (q0 := 0) (v := .ref (q6 100)) (C := RX7) (T := TX7) (N := 5) hC uX7_say_X7 hP rfl rfl (by decide) (List.mem_of_getElem? (i := 1) rfl) rfl dX7_say_30 ?_
      refine k_get (ci := 4) (k := 1) (q0 := 15) (v := .ref (q6 1)) (C := RX4) (T := TX4) (N := 2) hC uX7_say_X4 hP rfl rfl (by decide) (List.mem_of_getElem? (i := 3) rfl) rfl dX7_say_33 ?_
      refine lv_aload_n hx hb dX7_say_36 rfl (lv_at hl 0 rfl) ?_
      refine k_get (ci := 7) (k := 2) (q0 := 0) (v := .ref (q6 100)) (C := RX7) (T := TX7) (N := 5) hC uX7_say_X7 hP rfl rfl (by decide) (List.mem_of_getElem? (i := 1) rfl) rfl dX7_say_37 ?_
      refine k_get (ci := 4) (k := 0) (q0 := 15) (v := .int (S6.1 0)) (C := RX4) (T := TX4) (N := 2) hC uX7_say_X4 hP rfl rfl (by decide) (List.mem_of_getElem? (i := 2) rfl) rfl dX7_say_40 ?_
      refine lv_iload_n hx hb dX7_say_43 rfl (lv_at hl 1 rfl) ?_
      refine k_ast (q0 := 16) (n := 60) (k := 1) (S := S6) (fun S => (wX7 g q1 q2 q6 q7 q9 ++ (wX0 g q2 q3 q4 q5 ++ (wX3 g q3 S3 ++ (wX6 g q4 S4 ++ (wX5 g q5 S5 ++ (wX4 g q6 S ++ (wX2 g q7 q8 S7 ++ (wX3 g q8 S8 ++ (wX1 g q9 S9)))))))))) hC hP hD hS rfl (fun _ => rfl) dX7_say_44 h (fun S102 h H locs hP hD hS => ?_)
      refine lv_aload_n hx hb dX7_say_45 rfl (lv_at hl 0 rfl) ?_
      refine k_get (ci := 7) (k := 2) (q0 := 0) (v := .ref (q6 100)) (C := RX7) (T := TX7) (N := 5) hC uX7_say_X7 hP rfl rfl (by decide) (List.mem_of_getElem? (i := 1) rfl) rfl dX7_say_46 ?_
      refine lv_dup hx hb dX7_say_49 rfl ?_
      refine k_get (ci := 4) (k := 0) (q0 := 15) (v := .int (S102.1 0)) (C := RX4) (T := TX4) (N := 2) hC uX7_say_X4 hP rfl rfl (by decide) (List.mem_of_getElem? (i := 2) rfl) rfl dX7_say_50 ?_
      refine lv_iconst (v := (1 : Int32)) hx hb dX7_say_53 (by decide) ?_
      refine lv_iadd hx hb dX7_say_54 ?_
      refine k_put (ci := 4) (k := 0) (q0 := 15) (C := RX4) (T := TX4) (N := 2) (S2 := stI S102 0 ((S102.1 0) + (1 : Int32))) tyX4 (fun S => (wX7 g q1 q2 q6 q7 q9 ++ (wX0 g q2 q3 q4 q5 ++ (wX3 g q3 S3 ++ (wX6 g q4 S4 ++ (wX5 g q5 S5 ++ (wX4 g q6 S ++ (wX2 g q7 q8 S7 ++ (wX3 g q8 S8 ++ (wX1 g q9 S9)))))))))) hC uX7_say_X4 tyX4_ok nmX4 hP hD hS rfl rfl (by decide) (List.mem_of_getElem? (i := 2) rfl) rfl (tyX4_ok 0 (by decide)) (Nat.le_of_ble_eq_true rfl) dX7_say_55 rfl h (fun S103 h H locs hP hD hS => ?_)
      refine lv_aload_n hx hb dX7_say_58 rfl (lv_at hl 0 rfl) ?_
      refine k_get (ci := 7) (k := 2) (q0 := 0) (v := .ref (q6 100)) (C := RX7) (T := TX7) (N := 5) hC uX7_say_X7 hP rfl rfl (by decide) (List.mem_of_getElem? (i := 1) rfl) rfl dX7_say_59 ?_
      refine k_get (ci := 4) (k := 0) (q0 := 15) (v := .int (S103.1 0)) (C := RX4) (T := TX4) (N := 2) hC uX7_say_X4 hP rfl rfl (by decide) (List.mem_of_getElem? (i := 2) rfl) rfl dX7_say_62 ?_
      obtain ⟨rfl, rfl⟩ := fx_i2 h
      exact Ci.ret hC hr hlk hA9 hP hD hS dX7_say_65
    · refine lv_bipush (v := (-4 : Int32)) hx hb dX7_say_26 (by decide) ?_
      obtain ⟨rfl, rfl⟩ := fx_i2 h
      exact Ci.ret hC hr hlk hA9 hP hD hS dX7_say_28
  · refine lv_bipush (v := (-2 : Int32)) hx hb dX7_say_11 (by decide) ?_
    obtain ⟨rfl, rfl⟩ := fx_i2 h
    exact Ci.ret hC hr hlk hA9 hP hD hS dX7_say_13
theorem uX7_wipe_X4 : ∀ w ∈ u_ws RX4 TX4 2, w ∈ wsX7_wipe := fun w h => List.mem_cons_of_mem _ (List.mem_append_right _ h)
theorem uX7_wipe_X7 : ∀ w ∈ u_ws RX7 TX7 5, w ∈ wsX7_wipe := fun w h => List.mem_cons_of_mem _ (List.mem_append_left _ (List.mem_append_right _ h))
abbrev RM_X7_wipe : Room := { frames := 0, cells := 0, slots := 0, locals := 0 }
def f_X7_wipe (N : Nat) (S3 : St) (S4 : St) (S5 : St) (S6 : St) (S7 : St) (S8 : St) (S9 : St) : Option (Int32 × St) :=
  fx_lt (stI S6 0 (0 : Int32)) (fun S101 =>
  some ((S6.1 0), S101))
set_option maxRecDepth 100000 in
set_option maxHeartbeats 4000000 in
theorem c_X7_wipe (l : Launch) (g : GG) (N : Nat) (q1 : Nat → Nat) (q2 : Nat → Nat) (q3 : Nat → Nat) (q4 : Nat → Nat) (q5 : Nat → Nat) (q6 : Nat → Nat) (q7 : Nat → Nat) (q8 : Nat → Nat) (q9 : Nat → Nat) (S3 : St) (S4 : St) (S5 : St) (S6 : St) (S7 : St) (S8 : St) (S9 : St) (r : Int32) (F6 : St) (h : f_X7_wipe N S3 S4 S5 S6 S7 S8 S9 = some (r, F6)) : Ci l yX7_wipe wsX7_wipe RM_X7_wipe g [.ref (q1 100)] (wX7 g q1 q2 q6 q7 q9 ++ (wX0 g q2 q3 q4 q5 ++ (wX3 g q3 S3 ++ (wX6 g q4 S4 ++ (wX5 g q5 S5 ++ (wX4 g q6 S6 ++ (wX2 g q7 q8 S7 ++ (wX3 g q8 S8 ++ (wX1 g q9 S9))))))))) (wX7 g q1 q2 q6 q7 q9 ++ (wX0 g q2 q3 q4 q5 ++ (wX3 g q3 S3 ++ (wX6 g q4 S4 ++ (wX5 g q5 S5 ++ (wX4 g q6 F6 ++ (wX2 g q7 q8 S7 ++ (wX3 g q8 S8 ++ (wX1 g q9 S9))))))))) r := by
  intro sz
  refine Met.ofC (cc := cX7_wipe) (maxL := 2) (ret := (some .int)) (by decide) rfl (Nat.le_of_ble_eq_true rfl) ?_
  intro p e s m below meth c hC hr hlk hsz A hA9 hA hP hD hS ls hl
  subst hsz
  have hC : Cx p s m ([.ref (q1 100)] : List Value).toArray c RX7 cX7_wipe 2 wsX7_wipe g := hC
  have hx := hC.1.1
  have hb := hC.1.2.1
  have hml := hC.1.2.2.1
  have hown := hC.1.2.2.2.1
  have hts := hC.1.2.2.2.2
  have hl : lv_has ls 2 [(0, .ref (q1 100))] := hl
  show W p l e RM_X7_wipe s m ([.ref (q1 100)] : List Value).toArray below meth c s.heap [] 0 0 (Qi below g [.ref (q1 100)] (wX7 g q1 q2 q6 q7 q9 ++ (wX0 g q2 q3 q4 q5 ++ (wX3 g q3 S3 ++ (wX6 g q4 S4 ++ (wX5 g q5 S5 ++ (wX4 g q6 S6 ++ (wX2 g q7 q8 S7 ++ (wX3 g q8 S8 ++ (wX1 g q9 S9))))))))) (wX7 g q1 q2 q6 q7 q9 ++ (wX0 g q2 q3 q4 q5 ++ (wX3 g q3 S3 ++ (wX6 g q4 S4 ++ (wX5 g q5 S5 ++ (wX4 g q6 F6 ++ (wX2 g q7 q8 S7 ++ (wX3 g q8 S8 ++ (wX1 g q9 S9))))))))) r s) (F0 m 0 ls [])
  unfold f_X7_wipe at h
  refine lv_aload_n hx hb dX7_wipe_0 rfl (lv_at hl 0 rfl) ?_
  refine k_get (ci := 7) (k := 2) (q0 := 0) (v := .ref (q6 100)) (C := RX7) (T := TX7) (N := 5) hC uX7_wipe_X7 hP rfl rfl (by decide) (List.mem_of_getElem? (i := 1) rfl) rfl dX7_wipe_1 ?_
  refine k_get (ci := 4) (k := 0) (q0 := 15) (v := .int (S6.1 0)) (C := RX4) (T := TX4) (N := 2) hC uX7_wipe_X4 hP rfl rfl (by decide) (List.mem_of_getElem? (i := 2) rfl) rfl dX7_wipe_4 ?_
  refine lv_istore_n (lv' := [(1, .int (S6.1 0)), (0, .ref (q1 100))]) hx hb dX7_wipe_7 rfl hl (by decide) rfl (fun ls hl => ?_)
  refine lv_aload_n hx hb dX7_wipe_8 rfl (lv_at hl 1 rfl) ?_
  refine k_get (ci := 7) (k := 2) (q0 := 0) (v := .ref (q6 100)) (C := RX7) (T := TX7) (N := 5) hC uX7_wipe_X7 hP rfl rfl (by decide) (List.mem_of_getElem? (i := 1) rfl) rfl dX7_wipe_9 ?_
  refine lv_iconst (v := (0 : Int32)) hx hb dX7_wipe_12 (by decide) ?_
  refine k_put (ci := 4) (k := 0) (q0 := 15) (C := RX4) (T := TX4) (N := 2) (S2 := stI S6 0 (0 : Int32)) tyX4 (fun S => (wX7 g q1 q2 q6 q7 q9 ++ (wX0 g q2 q3 q4 q5 ++ (wX3 g q3 S3 ++ (wX6 g q4 S4 ++ (wX5 g q5 S5 ++ (wX4 g q6 S ++ (wX2 g q7 q8 S7 ++ (wX3 g q8 S8 ++ (wX1 g q9 S9)))))))))) hC uX7_wipe_X4 tyX4_ok nmX4 hP hD hS rfl rfl (by decide) (List.mem_of_getElem? (i := 2) rfl) rfl (tyX4_ok 0 (by decide)) (Nat.le_of_ble_eq_true rfl) dX7_wipe_13 rfl h (fun S101 h H locs hP hD hS => ?_)
  refine lv_iload_n hx hb dX7_wipe_16 rfl (lv_at hl 0 rfl) ?_
  obtain ⟨rfl, rfl⟩ := fx_i2 h
  exact Ci.ret hC hr hlk hA9 hP hD hS dX7_wipe_17
theorem uX7_fault_X0 : ∀ w ∈ u_ws RX0 TX0 3, w ∈ wsX7_fault := fun w h => List.mem_cons_of_mem _ (List.mem_append_left _ (List.mem_append_left _ (List.mem_append_right _ h)))
theorem uX7_fault_X3 : ∀ w ∈ u_ws RX3 TX3 11, w ∈ wsX7_fault := fun w h => List.mem_cons_of_mem _ (List.mem_append_left _ (List.mem_append_right _ h))
theorem uX7_fault_X7 : ∀ w ∈ u_ws RX7 TX7 5, w ∈ wsX7_fault := fun w h => List.mem_cons_of_mem _ (List.mem_append_left _ (List.mem_append_left _ (List.mem_append_left _ (List.mem_append_right _ h))))
abbrev RM_X7_fault : Room := { frames := 2, cells := 0, slots := 0, locals := 46 }
def f_X7_fault (N : Nat) (S3 : St) (S4 : St) (S5 : St) (S6 : St) (S7 : St) (S8 : St) (S9 : St) : Option (Int32) :=
  fx_b1 (f_X4_firstFault N S6 (S3.1 0)) (fun v101 =>
  some v101)
set_option maxRecDepth 100000 in
set_option maxHeartbeats 4000000 in
theorem c_X7_fault (l : Launch) (g : GG) (N : Nat) (q1 : Nat → Nat) (q2 : Nat → Nat) (q3 : Nat → Nat) (q4 : Nat → Nat) (q5 : Nat → Nat) (q6 : Nat → Nat) (q7 : Nat → Nat) (q8 : Nat → Nat) (q9 : Nat → Nat) (S3 : St) (S4 : St) (S5 : St) (S6 : St) (S7 : St) (S8 : St) (S9 : St) (r : Int32) (h : f_X7_fault N S3 S4 S5 S6 S7 S8 S9 = some r) : Ci l yX7_fault wsX7_fault RM_X7_fault g [.ref (q1 100)] (wX7 g q1 q2 q6 q7 q9 ++ (wX0 g q2 q3 q4 q5 ++ (wX3 g q3 S3 ++ (wX6 g q4 S4 ++ (wX5 g q5 S5 ++ (wX4 g q6 S6 ++ (wX2 g q7 q8 S7 ++ (wX3 g q8 S8 ++ (wX1 g q9 S9))))))))) (wX7 g q1 q2 q6 q7 q9 ++ (wX0 g q2 q3 q4 q5 ++ (wX3 g q3 S3 ++ (wX6 g q4 S4 ++ (wX5 g q5 S5 ++ (wX4 g q6 S6 ++ (wX2 g q7 q8 S7 ++ (wX3 g q8 S8 ++ (wX1 g q9 S9))))))))) r := by
  intro sz
  refine Met.ofC (cc := cX7_fault) (maxL := 1) (ret := (some .int)) (by decide) rfl (Nat.le_of_ble_eq_true rfl) ?_
  intro p e s m below meth c hC hr hlk hsz A hA9 hA hP hD hS ls hl
  subst hsz
  have hC : Cx p s m ([.ref (q1 100)] : List Value).toArray c RX7 cX7_fault 1 wsX7_fault g := hC
  have hx := hC.1.1
  have hb := hC.1.2.1
  have hml := hC.1.2.2.1
  have hown := hC.1.2.2.2.1
  have hts := hC.1.2.2.2.2
  have hl : lv_has ls 1 [(0, .ref (q1 100))] := hl
  show W p l e RM_X7_fault s m ([.ref (q1 100)] : List Value).toArray below meth c s.heap [] 0 0 (Qi below g [.ref (q1 100)] (wX7 g q1 q2 q6 q7 q9 ++ (wX0 g q2 q3 q4 q5 ++ (wX3 g q3 S3 ++ (wX6 g q4 S4 ++ (wX5 g q5 S5 ++ (wX4 g q6 S6 ++ (wX2 g q7 q8 S7 ++ (wX3 g q8 S8 ++ (wX1 g q9 S9))))))))) (wX7 g q1 q2 q6 q7 q9 ++ (wX0 g q2 q3 q4 q5 ++ (wX3 g q3 S3 ++ (wX6 g q4 S4 ++ (wX5 g q5 S5 ++ (wX4 g q6 S6 ++ (wX2 g q7 q8 S7 ++ (wX3 g q8 S8 ++ (wX1 g q9 S9))))))))) r s) (F0 m 0 ls [])
  unfold f_X7_fault at h
  refine lv_aload_n hx hb dX7_fault_0 rfl (lv_at hl 0 rfl) ?_
  refine k_get (ci := 7) (k := 2) (q0 := 0) (v := .ref (q6 100)) (C := RX7) (T := TX7) (N := 5) hC uX7_fault_X7 hP rfl rfl (by decide) (List.mem_of_getElem? (i := 1) rfl) rfl dX7_fault_1 ?_
  refine lv_aload_n hx hb dX7_fault_4 rfl (lv_at hl 0 rfl) ?_
  refine k_get (ci := 7) (k := 0) (q0 := 0) (v := .ref (q2 100)) (C := RX7) (T := TX7) (N := 5) hC uX7_fault_X7 hP rfl rfl (by decide) (List.mem_of_getElem? (i := 2) rfl) rfl dX7_fault_5 ?_
  refine k_get (ci := 0) (k := 0) (q0 := 1) (v := .ref (q3 100)) (C := RX0) (T := TX0) (N := 3) hC uX7_fault_X0 hP rfl rfl (by decide) (List.mem_of_getElem? (i := 3) rfl) rfl dX7_fault_8 ?_
  refine k_get (ci := 3) (k := 0) (q0 := 2) (v := .int (S3.1 0)) (C := RX3) (T := TX3) (N := 11) hC uX7_fault_X3 hP rfl rfl (by decide) (List.mem_of_getElem? (i := 4) rfl) rfl dX7_fault_11 ?_
  obtain ⟨v101, hc102, h⟩ := fx_b1_s h
  refine k_callVi0 (C := RX4) (ci := 4) (qr := 0) (n := 1) (As := [.int (S3.1 0)]) (rest := []) (wc := (wX4 g q6 S6)) (bytes := cX4_firstFault) (maxL := 5) (ret := (some .int)) hC hl.1 (c_X4_firstFault l g N q6 S6 (S3.1 0) v101 hc102) rfl gX7_fault_X4_firstFault (by decide +kernel) rfl rfl ⟨Nat.le_of_ble_eq_true rfl, Nat.le_of_ble_eq_true rfl⟩ rfl rfl rfl (Nat.le_of_ble_eq_true rfl) ⟨Nat.le_of_ble_eq_true rfl, Nat.le_of_ble_eq_true rfl⟩ dX7_fault_14 hP hD hS hA [15, 16] rfl (by decide +kernel) (fun H locs hP hD hS => ?_)
  obtain rfl := fx_i1 h
  exact Ci.ret hC hr hlk hA9 hP hD hS dX7_fault_17
theorem uX7_playDay_X0 : ∀ w ∈ u_ws RX0 TX0 3, w ∈ wsX7_playDay := fun w h => List.mem_cons_of_mem _ (List.mem_append_left _ (List.mem_append_left _ (List.mem_append_left _ (List.mem_append_left _ (List.mem_append_right _ h)))))
theorem uX7_playDay_X2 : ∀ w ∈ u_ws RX2 TX2 5, w ∈ wsX7_playDay := fun w h => List.mem_cons_of_mem _ (List.mem_append_left _ (List.mem_append_left _ (List.mem_append_right _ h)))
theorem uX7_playDay_X3 : ∀ w ∈ u_ws RX3 TX3 11, w ∈ wsX7_playDay := fun w h => List.mem_cons_of_mem _ (List.mem_append_left _ (List.mem_append_left _ (List.mem_append_left _ (List.mem_append_right _ h))))
theorem uX7_playDay_X7 : ∀ w ∈ u_ws RX7 TX7 5, w ∈ wsX7_playDay := fun w h => List.mem_cons_of_mem _ (List.mem_append_left _ (List.mem_append_left _ (List.mem_append_left _ (List.mem_append_left _ (List.mem_append_left _ (List.mem_append_right _ h))))))
abbrev RM_X7_playDay : Room := { frames := 6, cells := 0, slots := 0, locals := 142 }
def f_X7_playDay (N : Nat) (S3 : St) (S4 : St) (S5 : St) (S6 : St) (S7 : St) (S8 : St) (S9 : St) : Option (Int32 × St × St) :=
  fx_b1 (f_X4_firstFault N S6 (S3.1 0)) (fun v101 =>
  (if v101 = (-6 : Int32) then (
  fx_b2 (f_X2_play N S7 S8 S6 S3 S4) (fun S102 S103 =>
    (if (S102.1 2) = (-6 : Int32) then (
    some ((0 : Int32), S102, S103)) else (
    some ((-3 : Int32), S102, S103))))) else (
  some ((-5 : Int32), S7, S8))))
set_option maxRecDepth 100000 in
set_option maxHeartbeats 4000000 in
theorem c_X7_playDay (l : Launch) (g : GG) (N : Nat) (q1 : Nat → Nat) (q2 : Nat → Nat) (q3 : Nat → Nat) (q4 : Nat → Nat) (q5 : Nat → Nat) (q6 : Nat → Nat) (q7 : Nat → Nat) (q8 : Nat → Nat) (q9 : Nat → Nat) (S3 : St) (S4 : St) (S5 : St) (S6 : St) (S7 : St) (S8 : St) (S9 : St) (r : Int32) (F7 : St) (F8 : St) (h : f_X7_playDay N S3 S4 S5 S6 S7 S8 S9 = some (r, F7, F8)) : Ci l yX7_playDay wsX7_playDay RM_X7_playDay g [.ref (q1 100)] (wX7 g q1 q2 q6 q7 q9 ++ (wX0 g q2 q3 q4 q5 ++ (wX3 g q3 S3 ++ (wX6 g q4 S4 ++ (wX5 g q5 S5 ++ (wX4 g q6 S6 ++ (wX2 g q7 q8 S7 ++ (wX3 g q8 S8 ++ (wX1 g q9 S9))))))))) (wX7 g q1 q2 q6 q7 q9 ++ (wX0 g q2 q3 q4 q5 ++ (wX3 g q3 S3 ++ (wX6 g q4 S4 ++ (wX5 g q5 S5 ++ (wX4 g q6 S6 ++ (wX2 g q7 q8 F7 ++ (wX3 g q8 F8 ++ (wX1 g q9 S9))))))))) r := by
  intro sz
  refine Met.ofC (cc := cX7_playDay) (maxL := 1) (ret := (some .int)) (by decide) rfl (Nat.le_of_ble_eq_true rfl) ?_
  intro p e s m below meth c hC hr hlk hsz A hA9 hA hP hD hS ls hl
  subst hsz
  have hC : Cx p s m ([.ref (q1 100)] : List Value).toArray c RX7 cX7_playDay 1 wsX7_playDay g := hC
  have hx := hC.1.1
  have hb := hC.1.2.1
  have hml := hC.1.2.2.1
  have hown := hC.1.2.2.2.1
  have hts := hC.1.2.2.2.2
  have hl : lv_has ls 1 [(0, .ref (q1 100))] := hl
  show W p l e RM_X7_playDay s m ([.ref (q1 100)] : List Value).toArray below meth c s.heap [] 0 0 (Qi below g [.ref (q1 100)] (wX7 g q1 q2 q6 q7 q9 ++ (wX0 g q2 q3 q4 q5 ++ (wX3 g q3 S3 ++ (wX6 g q4 S4 ++ (wX5 g q5 S5 ++ (wX4 g q6 S6 ++ (wX2 g q7 q8 S7 ++ (wX3 g q8 S8 ++ (wX1 g q9 S9))))))))) (wX7 g q1 q2 q6 q7 q9 ++ (wX0 g q2 q3 q4 q5 ++ (wX3 g q3 S3 ++ (wX6 g q4 S4 ++ (wX5 g q5 S5 ++ (wX4 g q6 S6 ++ (wX2 g q7 q8 F7 ++ (wX3 g q8 F8 ++ (wX1 g q9 S9))))))))) r s) (F0 m 0 ls [])
  unfold f_X7_playDay at h
  refine lv_aload_n hx hb dX7_playDay_0 rfl (lv_at hl 0 rfl) ?_
  refine k_get (ci := 7) (k := 2) (q0 := 0) (v := .ref (q6 100)) (C := RX7) (T := TX7) (N := 5) hC uX7_playDay_X7 hP rfl rfl (by decide) (List.mem_of_getElem? (i := 1) rfl) rfl dX7_playDay_1 ?_
  refine lv_aload_n hx hb dX7_playDay_4 rfl (lv_at hl 0 rfl) ?_
  refine k_get (ci := 7) (k := 0) (q0 := 0) (v := .ref (q2 100)) (C := RX7) (T := TX7) (N := 5) hC uX7_playDay_X7 hP rfl rfl (by decide) (List.mem_of_getElem? (i := 2) rfl) rfl dX7_playDay_5 ?_
  refine k_get (ci := 0) (k := 0) (q0 := 1) (v := .ref (q3 100)) (C := RX0) (T := TX0) (N := 3) hC uX7_playDay_X0 hP rfl rfl (by decide) (List.mem_of_getElem? (i := 3) rfl) rfl dX7_playDay_8 ?_
  refine k_get (ci := 3) (k := 0) (q0 := 2) (v := .int (S3.1 0)) (C := RX3) (T := TX3) (N := 11) hC uX7_playDay_X3 hP rfl rfl (by decide) (List.mem_of_getElem? (i := 4) rfl) rfl dX7_playDay_11 ?_
  obtain ⟨v101, hc105, h⟩ := fx_b1_s h
  refine k_callVi0 (C := RX4) (ci := 4) (qr := 0) (n := 1) (As := [.int (S3.1 0)]) (rest := []) (wc := (wX4 g q6 S6)) (bytes := cX4_firstFault) (maxL := 5) (ret := (some .int)) hC hl.1 (c_X4_firstFault l g N q6 S6 (S3.1 0) v101 hc105) rfl gX7_playDay_X4_firstFault (by decide +kernel) rfl rfl ⟨Nat.le_of_ble_eq_true rfl, Nat.le_of_ble_eq_true rfl⟩ rfl rfl rfl (Nat.le_of_ble_eq_true rfl) ⟨Nat.le_of_ble_eq_true rfl, Nat.le_of_ble_eq_true rfl⟩ dX7_playDay_14 hP hD hS hA [15, 16] rfl (by decide +kernel) (fun H locs hP hD hS => ?_)
  refine lv_bipush (v := (-6 : Int32)) hx hb dX7_playDay_17 (by decide) ?_
  refine k_icmp_eq (tgt := 25) hC dX7_playDay_19 (by decide) h (fun h => ?_) (fun h => ?_)
  · refine lv_aload_n hx hb dX7_playDay_25 rfl (lv_at hl 0 rfl) ?_
    refine k_get (ci := 7) (k := 3) (q0 := 0) (v := .ref (q7 100)) (C := RX7) (T := TX7) (N := 5) hC uX7_playDay_X7 hP rfl rfl (by decide) (List.mem_of_getElem? (i := 5) rfl) rfl dX7_playDay_26 ?_
    refine lv_aload_n hx hb dX7_playDay_29 rfl (lv_at hl 0 rfl) ?_
    refine k_get (ci := 7) (k := 2) (q0 := 0) (v := .ref (q6 100)) (C := RX7) (T := TX7) (N := 5) hC uX7_playDay_X7 hP rfl rfl (by decide) (List.mem_of_getElem? (i := 1) rfl) rfl dX7_playDay_30 ?_
    refine lv_aload_n hx hb dX7_playDay_33 rfl (lv_at hl 0 rfl) ?_
    refine k_get (ci := 7) (k := 0) (q0 := 0) (v := .ref (q2 100)) (C := RX7) (T := TX7) (N := 5) hC uX7_playDay_X7 hP rfl rfl (by decide) (List.mem_of_getElem? (i := 2) rfl) rfl dX7_playDay_34 ?_
    refine k_get (ci := 0) (k := 0) (q0 := 1) (v := .ref (q3 100)) (C := RX0) (T := TX0) (N := 3) hC uX7_playDay_X0 hP rfl rfl (by decide) (List.mem_of_getElem? (i := 3) rfl) rfl dX7_playDay_37 ?_
    refine lv_aload_n hx hb dX7_playDay_40 rfl (lv_at hl 0 rfl) ?_
    refine k_get (ci := 7) (k := 0) (q0 := 0) (v := .ref (q2 100)) (C := RX7) (T := TX7) (N := 5) hC uX7_playDay_X7 hP rfl rfl (by decide) (List.mem_of_getElem? (i := 2) rfl) rfl dX7_playDay_41 ?_
    refine k_get (ci := 0) (k := 1) (q0 := 1) (v := .ref (q4 100)) (C := RX0) (T := TX0) (N := 3) hC uX7_playDay_X0 hP rfl rfl (by decide) (List.mem_of_getElem? (i := 6) rfl) rfl dX7_playDay_44 ?_
    obtain ⟨S102, S103, hc104, h⟩ := fx_b2_s h
    refine k_callVv (C := RX2) (ci := 2) (qr := 0) (n := 3) (As := [.ref (q6 100), .ref (q3 100), .ref (q4 100)]) (rest := []) (wc := (wX2 g q7 q8 S7 ++ (wX3 g q8 S8 ++ (wX4 g q6 S6 ++ (wX3 g q3 S3 ++ (wX6 g q4 S4)))))) (w1 := (wX2 g q7 q8 S102 ++ (wX3 g q8 S103 ++ (wX4 g q6 S6 ++ (wX3 g q3 S3 ++ (wX6 g q4 S4)))))) (ws2 := (wX7 g q1 q2 q6 q7 q9 ++ (wX0 g q2 q3 q4 q5 ++ (wX3 g q3 S3 ++ (wX6 g q4 S4 ++ (wX5 g q5 S5 ++ (wX4 g q6 S6 ++ (wX2 g q7 q8 S102 ++ (wX3 g q8 S103 ++ (wX1 g q9 S9)))))))))) (bytes := cX2_play) (maxL := 7) (ret := none) hC hl.1 (c_X2_play l g N q7 q8 q6 q3 q4 S7 S8 S6 S3 S4 S102 S103 hc104) rfl gX7_playDay_X2_play (by decide +kernel) rfl rfl ⟨Nat.le_of_ble_eq_true rfl, Nat.le_of_ble_eq_true rfl⟩ rfl rfl rfl (Nat.le_of_ble_eq_true rfl) ⟨Nat.le_of_ble_eq_true rfl, Nat.le_of_ble_eq_true rfl⟩ dX7_playDay_47 hP hD hS hA [17, 18, 19, 20, 21, 22, 23, 15, 16, 2, 3, 4, 5, 6, 7, 8, 9, 10, 11, 12] rfl (by decide +kernel) [q7 100, q8 100, q8 6, q8 7, q8 8, q8 9, q8 10, q6 100, q6 1, q3 100, q3 6, q3 7, q3 8, q3 9, q3 10, q4 100, q4 1, q4 2, q4 3, q4 4] rfl rfl rfl [0, 1, 13, 14, 24, 25, 26, 27, 28, 29, 30, 31] (wX7 g q1 q2 q6 q7 q9 ++ (wX0 g q2 q3 q4 q5 ++ (wX5 g q5 S5 ++ (wX1 g q9 S9)))) rfl rfl (n2 := 32) rfl (by decide +kernel) (fun H locs hP hD hS => ?_)
    refine lv_aload_n hx hb dX7_playDay_50 rfl (lv_at hl 0 rfl) ?_
    refine k_get (ci := 7) (k := 3) (q0 := 0) (v := .ref (q7 100)) (C := RX7) (T := TX7) (N := 5) hC uX7_playDay_X7 hP rfl rfl (by decide) (List.mem_of_getElem? (i := 5) rfl) rfl dX7_playDay_51 ?_
    refine k_get (ci := 2) (k := 2) (q0 := 17) (v := .int (S102.1 2)) (C := RX2) (T := TX2) (N := 5) hC uX7_playDay_X2 hP rfl rfl (by decide) (List.mem_of_getElem? (i := 7) rfl) rfl dX7_playDay_54 ?_
    refine lv_bipush (v := (-6 : Int32)) hx hb dX7_playDay_57 (by decide) ?_
    refine k_icmp_ne (tgt := 66) hC dX7_playDay_59 (by decide) h (fun h => ?_) (fun h => ?_)
    · refine lv_bipush (v := (-3 : Int32)) hx hb dX7_playDay_66 (by decide) ?_
      obtain ⟨rfl, rfl, rfl⟩ := fx_i3 h
      exact Ci.ret hC hr hlk hA9 hP hD hS dX7_playDay_68
    · refine lv_iconst (v := (0 : Int32)) hx hb dX7_playDay_62 (by decide) ?_
      refine lv_goto (tgt := 68) hx hb dX7_playDay_63 (by decide) ?_
      obtain ⟨rfl, rfl, rfl⟩ := fx_i3 h
      exact Ci.ret hC hr hlk hA9 hP hD hS dX7_playDay_68
  · refine lv_bipush (v := (-5 : Int32)) hx hb dX7_playDay_22 (by decide) ?_
    obtain ⟨rfl, rfl, rfl⟩ := fx_i3 h
    exact Ci.ret hC hr hlk hA9 hP hD hS dX7_playDay_24
theorem uX7_judge_X0 : ∀ w ∈ u_ws RX0 TX0 3, w ∈ wsX7_judge := fun w h => List.mem_cons_of_mem _ (List.mem_append_left _ (List.mem_append_left _ (List.mem_append_right _ h)))
theorem uX7_judge_X2 : ∀ w ∈ u_ws RX2 TX2 5, w ∈ wsX7_judge := fun w h => List.mem_cons_of_mem _ (List.mem_append_left _ (List.mem_append_left _ (List.mem_append_left _ (List.mem_append_left _ (List.mem_append_right _ h)))))
theorem uX7_judge_X3 : ∀ w ∈ u_ws RX3 TX3 11, w ∈ wsX7_judge := fun w h => List.mem_cons_of_mem _ (List.mem_append_left _ (List.mem_append_left _ (List.mem_append_left _ (List.mem_append_right _ h))))
theorem uX7_judge_X7 : ∀ w ∈ u_ws RX7 TX7 5, w ∈ wsX7_judge := fun w h => List.mem_cons_of_mem _ (List.mem_append_left _ (List.mem_append_left _ (List.mem_append_left _ (List.mem_append_left _ (List.mem_append_left _ (List.mem_append_right _ h))))))
abbrev RM_X7_judge : Room := { frames := 7, cells := 0, slots := 0, locals := 162 }
def f_X7_judge (N : Nat) (S3 : St) (S4 : St) (S5 : St) (S6 : St) (S7 : St) (S8 : St) (S9 : St) (x1 : Int32) : Option (Int32 × St × St) :=
  fx_b1 (f_X7_within N x1 (0 : Int32) (5 : Int32)) (fun v101 =>
  (if v101 = 0 then (
  some ((-2 : Int32), S7, S8)) else (
  fx_b3 (f_X7_playDay N S3 S4 S5 S6 S7 S8 S9) (fun v102 S103 S104 =>
    (if v102 = (-5 : Int32) then (
    some ((-5 : Int32), S103, S104)) else (
    (if x1 = 0 then (
      some ((S103.1 2), S103, S104)) else (
      (if x1 = (1 : Int32) then (
        some ((S103.1 3), S103, S104)) else (
        (if v102 = 0 then (
          fx_ald 4 (S104.2 10) (x1 - (2 : Int32)) (fun v105 =>
            fx_ald 4 (S3.2 10) (x1 - (2 : Int32)) (fun v106 =>
            some ((v105 - v106), S103, S104)))) else (
          some (v102, S103, S104)))))))))))))
set_option maxRecDepth 100000 in
set_option maxHeartbeats 4000000 in
theorem c_X7_judge (l : Launch) (g : GG) (N : Nat) (q1 : Nat → Nat) (q2 : Nat → Nat) (q3 : Nat → Nat) (q4 : Nat → Nat) (q5 : Nat → Nat) (q6 : Nat → Nat) (q7 : Nat → Nat) (q8 : Nat → Nat) (q9 : Nat → Nat) (S3 : St) (S4 : St) (S5 : St) (S6 : St) (S7 : St) (S8 : St) (S9 : St) (x1 : Int32) (r : Int32) (F7 : St) (F8 : St) (h : f_X7_judge N S3 S4 S5 S6 S7 S8 S9 x1 = some (r, F7, F8)) : Ci l yX7_judge wsX7_judge RM_X7_judge g [.ref (q1 100), .int x1] (wX7 g q1 q2 q6 q7 q9 ++ (wX0 g q2 q3 q4 q5 ++ (wX3 g q3 S3 ++ (wX6 g q4 S4 ++ (wX5 g q5 S5 ++ (wX4 g q6 S6 ++ (wX2 g q7 q8 S7 ++ (wX3 g q8 S8 ++ (wX1 g q9 S9))))))))) (wX7 g q1 q2 q6 q7 q9 ++ (wX0 g q2 q3 q4 q5 ++ (wX3 g q3 S3 ++ (wX6 g q4 S4 ++ (wX5 g q5 S5 ++ (wX4 g q6 S6 ++ (wX2 g q7 q8 F7 ++ (wX3 g q8 F8 ++ (wX1 g q9 S9))))))))) r := by
  intro sz
  refine Met.ofC (cc := cX7_judge) (maxL := 3) (ret := (some .int)) (by decide) rfl (Nat.le_of_ble_eq_true rfl) ?_
  intro p e s m below meth c hC hr hlk hsz A hA9 hA hP hD hS ls hl
  subst hsz
  have hC : Cx p s m ([.ref (q1 100), .int x1] : List Value).toArray c RX7 cX7_judge 3 wsX7_judge g := hC
  have hx := hC.1.1
  have hb := hC.1.2.1
  have hml := hC.1.2.2.1
  have hown := hC.1.2.2.2.1
  have hts := hC.1.2.2.2.2
  have hl : lv_has ls 3 [(0, .ref (q1 100)), (1, .int x1)] := hl
  show W p l e RM_X7_judge s m ([.ref (q1 100), .int x1] : List Value).toArray below meth c s.heap [] 0 0 (Qi below g [.ref (q1 100), .int x1] (wX7 g q1 q2 q6 q7 q9 ++ (wX0 g q2 q3 q4 q5 ++ (wX3 g q3 S3 ++ (wX6 g q4 S4 ++ (wX5 g q5 S5 ++ (wX4 g q6 S6 ++ (wX2 g q7 q8 S7 ++ (wX3 g q8 S8 ++ (wX1 g q9 S9))))))))) (wX7 g q1 q2 q6 q7 q9 ++ (wX0 g q2 q3 q4 q5 ++ (wX3 g q3 S3 ++ (wX6 g q4 S4 ++ (wX5 g q5 S5 ++ (wX4 g q6 S6 ++ (wX2 g q7 q8 F7 ++ (wX3 g q8 F8 ++ (wX1 g q9 S9))))))))) r s) (F0 m 0 ls [])
  unfold f_X7_judge at h
  refine lv_iload_n hx hb dX7_judge_0 rfl (lv_at hl 1 rfl) ?_
  refine lv_iconst (v := (0 : Int32)) hx hb dX7_judge_1 (by decide) ?_
  refine lv_iconst (v := (5 : Int32)) hx hb dX7_judge_2 (by decide) ?_
  obtain ⟨v101, hc108, h⟩ := fx_b1_s h
  refine k_callSi0 (n := 3) (As := [.int x1, .int (0 : Int32), .int (5 : Int32)]) (rest := []) (wc := ([] : va_W)) (bytes := cX7_within) (maxL := 3) (ret := (some .boolean)) hC hl.1 (c_X7_within l g N x1 (0 : Int32) (5 : Int32) v101 hc108) rfl gX7_judge_X7_within (by decide +kernel) ⟨Nat.le_of_ble_eq_true rfl, Nat.le_of_ble_eq_true rfl⟩ rfl rfl rfl (Nat.le_of_ble_eq_true rfl) ⟨Nat.le_of_ble_eq_true rfl, Nat.le_of_ble_eq_true rfl⟩ dX7_judge_3 hP hD hS hA [] rfl (by decide +kernel) (fun H locs hP hD hS => ?_)
  refine k_if_ne (tgt := 12) hC dX7_judge_6 (by decide) h (fun h => ?_) (fun h => ?_)
  · refine lv_aload_n hx hb dX7_judge_12 rfl (lv_at hl 0 rfl) ?_
    obtain ⟨v102, S103, S104, hc107, h⟩ := fx_b3_s h
    refine k_callVi (C := RX7) (ci := 7) (qr := 0) (n := 0) (As := []) (rest := []) (wc := (wX7 g q1 q2 q6 q7 q9 ++ (wX0 g q2 q3 q4 q5 ++ (wX3 g q3 S3 ++ (wX6 g q4 S4 ++ (wX5 g q5 S5 ++ (wX4 g q6 S6 ++ (wX2 g q7 q8 S7 ++ (wX3 g q8 S8 ++ (wX1 g q9 S9)))))))))) (w1 := (wX7 g q1 q2 q6 q7 q9 ++ (wX0 g q2 q3 q4 q5 ++ (wX3 g q3 S3 ++ (wX6 g q4 S4 ++ (wX5 g q5 S5 ++ (wX4 g q6 S6 ++ (wX2 g q7 q8 S103 ++ (wX3 g q8 S104 ++ (wX1 g q9 S9)))))))))) (ws2 := (wX7 g q1 q2 q6 q7 q9 ++ (wX0 g q2 q3 q4 q5 ++ (wX3 g q3 S3 ++ (wX6 g q4 S4 ++ (wX5 g q5 S5 ++ (wX4 g q6 S6 ++ (wX2 g q7 q8 S103 ++ (wX3 g q8 S104 ++ (wX1 g q9 S9)))))))))) (bytes := cX7_playDay) (maxL := 1) (ret := (some .int)) hC hl.1 (c_X7_playDay l g N q1 q2 q3 q4 q5 q6 q7 q8 q9 S3 S4 S5 S6 S7 S8 S9 v102 S103 S104 hc107) rfl gX7_judge_X7_playDay (by decide +kernel) rfl rfl ⟨Nat.le_of_ble_eq_true rfl, Nat.le_of_ble_eq_true rfl⟩ rfl rfl rfl (Nat.le_of_ble_eq_true rfl) ⟨Nat.le_of_ble_eq_true rfl, Nat.le_of_ble_eq_true rfl⟩ dX7_judge_13 hP hD hS hA [0, 1, 2, 3, 4, 5, 6, 7, 8, 9, 10, 11, 12, 13, 14, 15, 16, 17, 18, 19, 20, 21, 22, 23, 24, 25, 26, 27, 28, 29, 30, 31] rfl (by decide +kernel) [q1 100, q2 100, q3 100, q3 6, q3 7, q3 8, q3 9, q3 10, q4 100, q4 1, q4 2, q4 3, q4 4, q5 100, q5 1, q6 100, q6 1, q7 100, q8 100, q8 6, q8 7, q8 8, q8 9, q8 10, q9 100, q9 1, q9 2, q9 3, q9 4, q9 8, q9 9, q9 10] rfl rfl rfl [] ([] : va_W) rfl rfl (n2 := 32) rfl (by decide +kernel) (fun H locs hP hD hS => ?_)
    refine lv_istore_n (lv' := [(2, .int v102), (0, .ref (q1 100)), (1, .int x1)]) hx hb dX7_judge_16 rfl hl (by decide) rfl (fun ls hl => ?_)
    refine lv_iload_n hx hb dX7_judge_17 rfl (lv_at hl 0 rfl) ?_
    refine lv_bipush (v := (-5 : Int32)) hx hb dX7_judge_18 (by decide) ?_
    refine k_icmp_ne (tgt := 26) hC dX7_judge_20 (by decide) h (fun h => ?_) (fun h => ?_)
    · refine lv_iload_n hx hb dX7_judge_26 rfl (lv_at hl 2 rfl) ?_
      refine k_if_ne (tgt := 38) hC dX7_judge_27 (by decide) h (fun h => ?_) (fun h => ?_)
      · refine lv_iload_n hx hb dX7_judge_38 rfl (lv_at hl 2 rfl) ?_
        refine lv_iconst (v := (1 : Int32)) hx hb dX7_judge_39 (by decide) ?_
        refine k_icmp_ne (tgt := 51) hC dX7_judge_40 (by decide) h (fun h => ?_) (fun h => ?_)
        · refine lv_iload_n hx hb dX7_judge_51 rfl (lv_at hl 0 rfl) ?_
          refine k_if_eq (tgt := 57) hC dX7_judge_52 (by decide) h (fun h => ?_) (fun h => ?_)
          · refine lv_aload_n hx hb dX7_judge_57 rfl (lv_at hl 1 rfl) ?_
            refine k_get (ci := 7) (k := 3) (q0 := 0) (v := .ref (q7 100)) (C := RX7) (T := TX7) (N := 5) hC uX7_judge_X7 hP rfl rfl (by decide) (List.mem_of_getElem? (i := 1) rfl) rfl dX7_judge_58 ?_
            refine k_get (ci := 2) (k := 0) (q0 := 17) (v := .ref (q8 100)) (C := RX2) (T := TX2) (N := 5) hC uX7_judge_X2 hP rfl rfl (by decide) (List.mem_of_getElem? (i := 4) rfl) rfl dX7_judge_61 ?_
            refine k_get (ci := 3) (k := 10) (q0 := 18) (v := .ref (q8 10)) (C := RX3) (T := TX3) (N := 11) hC uX7_judge_X3 hP rfl rfl (by decide) (List.mem_of_getElem? (i := 5) rfl) rfl dX7_judge_64 ?_
            refine lv_iload_n hx hb dX7_judge_67 rfl (lv_at hl 2 rfl) ?_
            refine lv_iconst (v := (2 : Int32)) hx hb dX7_judge_68 (by decide) ?_
            refine lv_isub hx hb dX7_judge_69 ?_
            refine k_ald (q0 := 23) (n := 4) (F := S104.2 10) hC hP rfl dX7_judge_70 h (fun v105 h => ?_)
            refine lv_aload_n hx hb dX7_judge_71 rfl (lv_at hl 1 rfl) ?_
            refine k_get (ci := 7) (k := 0) (q0 := 0) (v := .ref (q2 100)) (C := RX7) (T := TX7) (N := 5) hC uX7_judge_X7 hP rfl rfl (by decide) (List.mem_of_getElem? (i := 6) rfl) rfl dX7_judge_72 ?_
            refine k_get (ci := 0) (k := 0) (q0 := 1) (v := .ref (q3 100)) (C := RX0) (T := TX0) (N := 3) hC uX7_judge_X0 hP rfl rfl (by decide) (List.mem_of_getElem? (i := 7) rfl) rfl dX7_judge_75 ?_
            refine k_get (ci := 3) (k := 10) (q0 := 2) (v := .ref (q3 10)) (C := RX3) (T := TX3) (N := 11) hC uX7_judge_X3 hP rfl rfl (by decide) (List.mem_of_getElem? (i := 5) rfl) rfl dX7_judge_78 ?_
            refine lv_iload_n hx hb dX7_judge_81 rfl (lv_at hl 2 rfl) ?_
            refine lv_iconst (v := (2 : Int32)) hx hb dX7_judge_82 (by decide) ?_
            refine lv_isub hx hb dX7_judge_83 ?_
            refine k_ald (q0 := 7) (n := 4) (F := S3.2 10) hC hP rfl dX7_judge_84 h (fun v106 h => ?_)
            refine lv_isub hx hb dX7_judge_85 ?_
            obtain ⟨rfl, rfl, rfl⟩ := fx_i3 h
            exact Ci.ret hC hr hlk hA9 hP hD hS dX7_judge_86
          · refine lv_iload_n hx hb dX7_judge_55 rfl (lv_at hl 0 rfl) ?_
            obtain ⟨rfl, rfl, rfl⟩ := fx_i3 h
            exact Ci.ret hC hr hlk hA9 hP hD hS dX7_judge_56
        · refine lv_aload_n hx hb dX7_judge_43 rfl (lv_at hl 1 rfl) ?_
          refine k_get (ci := 7) (k := 3) (q0 := 0) (v := .ref (q7 100)) (C := RX7) (T := TX7) (N := 5) hC uX7_judge_X7 hP rfl rfl (by decide) (List.mem_of_getElem? (i := 1) rfl) rfl dX7_judge_44 ?_
          refine k_get (ci := 2) (k := 3) (q0 := 17) (v := .int (S103.1 3)) (C := RX2) (T := TX2) (N := 5) hC uX7_judge_X2 hP rfl rfl (by decide) (List.mem_of_getElem? (i := 3) rfl) rfl dX7_judge_47 ?_
          obtain ⟨rfl, rfl, rfl⟩ := fx_i3 h
          exact Ci.ret hC hr hlk hA9 hP hD hS dX7_judge_50
      · refine lv_aload_n hx hb dX7_judge_30 rfl (lv_at hl 1 rfl) ?_
        refine k_get (ci := 7) (k := 3) (q0 := 0) (v := .ref (q7 100)) (C := RX7) (T := TX7) (N := 5) hC uX7_judge_X7 hP rfl rfl (by decide) (List.mem_of_getElem? (i := 1) rfl) rfl dX7_judge_31 ?_
        refine k_get (ci := 2) (k := 2) (q0 := 17) (v := .int (S103.1 2)) (C := RX2) (T := TX2) (N := 5) hC uX7_judge_X2 hP rfl rfl (by decide) (List.mem_of_getElem? (i := 2) rfl) rfl dX7_judge_34 ?_
        obtain ⟨rfl, rfl, rfl⟩ := fx_i3 h
        exact Ci.ret hC hr hlk hA9 hP hD hS dX7_judge_37
    · refine lv_bipush (v := (-5 : Int32)) hx hb dX7_judge_23 (by decide) ?_
      obtain ⟨rfl, rfl, rfl⟩ := fx_i3 h
      exact Ci.ret hC hr hlk hA9 hP hD hS dX7_judge_25
  · refine lv_bipush (v := (-2 : Int32)) hx hb dX7_judge_9 (by decide) ?_
    obtain ⟨rfl, rfl, rfl⟩ := fx_i3 h
    exact Ci.ret hC hr hlk hA9 hP hD hS dX7_judge_11
theorem uX7_heat_X2 : ∀ w ∈ u_ws RX2 TX2 5, w ∈ wsX7_heat := fun w h => List.mem_cons_of_mem _ (List.mem_append_left _ (List.mem_append_left _ (List.mem_append_left _ (List.mem_append_left _ (List.mem_append_right _ h)))))
theorem uX7_heat_X3 : ∀ w ∈ u_ws RX3 TX3 11, w ∈ wsX7_heat := fun w h => List.mem_cons_of_mem _ (List.mem_append_left _ (List.mem_append_left _ (List.mem_append_left _ (List.mem_append_right _ h))))
theorem uX7_heat_X7 : ∀ w ∈ u_ws RX7 TX7 5, w ∈ wsX7_heat := fun w h => List.mem_cons_of_mem _ (List.mem_append_left _ (List.mem_append_left _ (List.mem_append_left _ (List.mem_append_left _ (List.mem_append_left _ (List.mem_append_right _ h))))))
abbrev RM_X7_heat : Room := { frames := 7, cells := 0, slots := 0, locals := 162 }
def f_X7_heat (N : Nat) (S3 : St) (S4 : St) (S5 : St) (S6 : St) (S7 : St) (S8 : St) (S9 : St) : Option (Int32 × St × St) :=
  fx_b3 (f_X7_playDay N S3 S4 S5 S6 S7 S8 S9) (fun v101 S102 S103 =>
  (if v101 = 0 then (
  some ((S103.1 2), S102, S103)) else (
  some (v101, S102, S103))))
set_option maxRecDepth 100000 in
set_option maxHeartbeats 4000000 in
theorem c_X7_heat (l : Launch) (g : GG) (N : Nat) (q1 : Nat → Nat) (q2 : Nat → Nat) (q3 : Nat → Nat) (q4 : Nat → Nat) (q5 : Nat → Nat) (q6 : Nat → Nat) (q7 : Nat → Nat) (q8 : Nat → Nat) (q9 : Nat → Nat) (S3 : St) (S4 : St) (S5 : St) (S6 : St) (S7 : St) (S8 : St) (S9 : St) (r : Int32) (F7 : St) (F8 : St) (h : f_X7_heat N S3 S4 S5 S6 S7 S8 S9 = some (r, F7, F8)) : Ci l yX7_heat wsX7_heat RM_X7_heat g [.ref (q1 100)] (wX7 g q1 q2 q6 q7 q9 ++ (wX0 g q2 q3 q4 q5 ++ (wX3 g q3 S3 ++ (wX6 g q4 S4 ++ (wX5 g q5 S5 ++ (wX4 g q6 S6 ++ (wX2 g q7 q8 S7 ++ (wX3 g q8 S8 ++ (wX1 g q9 S9))))))))) (wX7 g q1 q2 q6 q7 q9 ++ (wX0 g q2 q3 q4 q5 ++ (wX3 g q3 S3 ++ (wX6 g q4 S4 ++ (wX5 g q5 S5 ++ (wX4 g q6 S6 ++ (wX2 g q7 q8 F7 ++ (wX3 g q8 F8 ++ (wX1 g q9 S9))))))))) r := by
  intro sz
  refine Met.ofC (cc := cX7_heat) (maxL := 2) (ret := (some .int)) (by decide) rfl (Nat.le_of_ble_eq_true rfl) ?_
  intro p e s m below meth c hC hr hlk hsz A hA9 hA hP hD hS ls hl
  subst hsz
  have hC : Cx p s m ([.ref (q1 100)] : List Value).toArray c RX7 cX7_heat 2 wsX7_heat g := hC
  have hx := hC.1.1
  have hb := hC.1.2.1
  have hml := hC.1.2.2.1
  have hown := hC.1.2.2.2.1
  have hts := hC.1.2.2.2.2
  have hl : lv_has ls 2 [(0, .ref (q1 100))] := hl
  show W p l e RM_X7_heat s m ([.ref (q1 100)] : List Value).toArray below meth c s.heap [] 0 0 (Qi below g [.ref (q1 100)] (wX7 g q1 q2 q6 q7 q9 ++ (wX0 g q2 q3 q4 q5 ++ (wX3 g q3 S3 ++ (wX6 g q4 S4 ++ (wX5 g q5 S5 ++ (wX4 g q6 S6 ++ (wX2 g q7 q8 S7 ++ (wX3 g q8 S8 ++ (wX1 g q9 S9))))))))) (wX7 g q1 q2 q6 q7 q9 ++ (wX0 g q2 q3 q4 q5 ++ (wX3 g q3 S3 ++ (wX6 g q4 S4 ++ (wX5 g q5 S5 ++ (wX4 g q6 S6 ++ (wX2 g q7 q8 F7 ++ (wX3 g q8 F8 ++ (wX1 g q9 S9))))))))) r s) (F0 m 0 ls [])
  unfold f_X7_heat at h
  refine lv_aload_n hx hb dX7_heat_0 rfl (lv_at hl 0 rfl) ?_
  obtain ⟨v101, S102, S103, hc104, h⟩ := fx_b3_s h
  refine k_callVi (C := RX7) (ci := 7) (qr := 0) (n := 0) (As := []) (rest := []) (wc := (wX7 g q1 q2 q6 q7 q9 ++ (wX0 g q2 q3 q4 q5 ++ (wX3 g q3 S3 ++ (wX6 g q4 S4 ++ (wX5 g q5 S5 ++ (wX4 g q6 S6 ++ (wX2 g q7 q8 S7 ++ (wX3 g q8 S8 ++ (wX1 g q9 S9)))))))))) (w1 := (wX7 g q1 q2 q6 q7 q9 ++ (wX0 g q2 q3 q4 q5 ++ (wX3 g q3 S3 ++ (wX6 g q4 S4 ++ (wX5 g q5 S5 ++ (wX4 g q6 S6 ++ (wX2 g q7 q8 S102 ++ (wX3 g q8 S103 ++ (wX1 g q9 S9)))))))))) (ws2 := (wX7 g q1 q2 q6 q7 q9 ++ (wX0 g q2 q3 q4 q5 ++ (wX3 g q3 S3 ++ (wX6 g q4 S4 ++ (wX5 g q5 S5 ++ (wX4 g q6 S6 ++ (wX2 g q7 q8 S102 ++ (wX3 g q8 S103 ++ (wX1 g q9 S9)))))))))) (bytes := cX7_playDay) (maxL := 1) (ret := (some .int)) hC hl.1 (c_X7_playDay l g N q1 q2 q3 q4 q5 q6 q7 q8 q9 S3 S4 S5 S6 S7 S8 S9 v101 S102 S103 hc104) rfl gX7_heat_X7_playDay (by decide +kernel) rfl rfl ⟨Nat.le_of_ble_eq_true rfl, Nat.le_of_ble_eq_true rfl⟩ rfl rfl rfl (Nat.le_of_ble_eq_true rfl) ⟨Nat.le_of_ble_eq_true rfl, Nat.le_of_ble_eq_true rfl⟩ dX7_heat_1 hP hD hS hA [0, 1, 2, 3, 4, 5, 6, 7, 8, 9, 10, 11, 12, 13, 14, 15, 16, 17, 18, 19, 20, 21, 22, 23, 24, 25, 26, 27, 28, 29, 30, 31] rfl (by decide +kernel) [q1 100, q2 100, q3 100, q3 6, q3 7, q3 8, q3 9, q3 10, q4 100, q4 1, q4 2, q4 3, q4 4, q5 100, q5 1, q6 100, q6 1, q7 100, q8 100, q8 6, q8 7, q8 8, q8 9, q8 10, q9 100, q9 1, q9 2, q9 3, q9 4, q9 8, q9 9, q9 10] rfl rfl rfl [] ([] : va_W) rfl rfl (n2 := 32) rfl (by decide +kernel) (fun H locs hP hD hS => ?_)
  refine lv_istore_n (lv' := [(1, .int v101), (0, .ref (q1 100))]) hx hb dX7_heat_4 rfl hl (by decide) rfl (fun ls hl => ?_)
  refine lv_iload_n hx hb dX7_heat_5 rfl (lv_at hl 0 rfl) ?_
  refine k_if_eq (tgt := 13) hC dX7_heat_6 (by decide) h (fun h => ?_) (fun h => ?_)
  · refine lv_aload_n hx hb dX7_heat_13 rfl (lv_at hl 1 rfl) ?_
    refine k_get (ci := 7) (k := 3) (q0 := 0) (v := .ref (q7 100)) (C := RX7) (T := TX7) (N := 5) hC uX7_heat_X7 hP rfl rfl (by decide) (List.mem_of_getElem? (i := 1) rfl) rfl dX7_heat_14 ?_
    refine k_get (ci := 2) (k := 0) (q0 := 17) (v := .ref (q8 100)) (C := RX2) (T := TX2) (N := 5) hC uX7_heat_X2 hP rfl rfl (by decide) (List.mem_of_getElem? (i := 2) rfl) rfl dX7_heat_17 ?_
    refine k_get (ci := 3) (k := 2) (q0 := 18) (v := .int (S103.1 2)) (C := RX3) (T := TX3) (N := 11) hC uX7_heat_X3 hP rfl rfl (by decide) (List.mem_of_getElem? (i := 3) rfl) rfl dX7_heat_20 ?_
    obtain ⟨rfl, rfl, rfl⟩ := fx_i3 h
    exact Ci.ret hC hr hlk hA9 hP hD hS dX7_heat_23
  · refine lv_iload_n hx hb dX7_heat_9 rfl (lv_at hl 0 rfl) ?_
    refine lv_goto (tgt := 23) hx hb dX7_heat_10 (by decide) ?_
    obtain ⟨rfl, rfl, rfl⟩ := fx_i3 h
    exact Ci.ret hC hr hlk hA9 hP hD hS dX7_heat_23
theorem uX7_refuseCell_X0 : ∀ w ∈ u_ws RX0 TX0 3, w ∈ wsX7_refuseCell := fun w h => List.mem_cons_of_mem _ (List.mem_append_left _ (List.mem_append_right _ h))
theorem uX7_refuseCell_X7 : ∀ w ∈ u_ws RX7 TX7 5, w ∈ wsX7_refuseCell := fun w h => List.mem_cons_of_mem _ (List.mem_append_left _ (List.mem_append_left _ (List.mem_append_right _ h)))
abbrev RM_X7_refuseCell : Room := { frames := 2, cells := 0, slots := 0, locals := 43 }
def f_X7_refuseCell (N : Nat) (S3 : St) (S4 : St) (S5 : St) (S6 : St) (S7 : St) (S8 : St) (S9 : St) (x1 : Int32) (x2 : Int32) (x3 : Int32) : Option (Int32) :=
  fx_b1 (f_X3_hasRow N S3 x1) (fun v101 =>
  (if v101 = 0 then (
  some (-1 : Int32)) else (
  fx_b1 (f_X3_hasPlace N S3 x2) (fun v102 =>
    (if v102 = 0 then (
    some (-1 : Int32)) else (
    fx_b1 (f_X7_within N x3 (0 : Int32) (1 : Int32)) (fun v103 =>
      (if v103 = 0 then (
      some (-2 : Int32)) else (
      some (0 : Int32))))))))))
set_option maxRecDepth 100000 in
set_option maxHeartbeats 4000000 in
theorem c_X7_refuseCell (l : Launch) (g : GG) (N : Nat) (q1 : Nat → Nat) (q2 : Nat → Nat) (q3 : Nat → Nat) (q4 : Nat → Nat) (q5 : Nat → Nat) (q6 : Nat → Nat) (q7 : Nat → Nat) (q8 : Nat → Nat) (q9 : Nat → Nat) (S3 : St) (S4 : St) (S5 : St) (S6 : St) (S7 : St) (S8 : St) (S9 : St) (x1 : Int32) (x2 : Int32) (x3 : Int32) (r : Int32) (h : f_X7_refuseCell N S3 S4 S5 S6 S7 S8 S9 x1 x2 x3 = some r) : Ci l yX7_refuseCell wsX7_refuseCell RM_X7_refuseCell g [.ref (q1 100), .int x1, .int x2, .int x3] (wX7 g q1 q2 q6 q7 q9 ++ (wX0 g q2 q3 q4 q5 ++ (wX3 g q3 S3 ++ (wX6 g q4 S4 ++ (wX5 g q5 S5 ++ (wX4 g q6 S6 ++ (wX2 g q7 q8 S7 ++ (wX3 g q8 S8 ++ (wX1 g q9 S9))))))))) (wX7 g q1 q2 q6 q7 q9 ++ (wX0 g q2 q3 q4 q5 ++ (wX3 g q3 S3 ++ (wX6 g q4 S4 ++ (wX5 g q5 S5 ++ (wX4 g q6 S6 ++ (wX2 g q7 q8 S7 ++ (wX3 g q8 S8 ++ (wX1 g q9 S9))))))))) r := by
  intro sz
  refine Met.ofC (cc := cX7_refuseCell) (maxL := 4) (ret := (some .int)) (by decide) rfl (Nat.le_of_ble_eq_true rfl) ?_
  intro p e s m below meth c hC hr hlk hsz A hA9 hA hP hD hS ls hl
  subst hsz
  have hC : Cx p s m ([.ref (q1 100), .int x1, .int x2, .int x3] : List Value).toArray c RX7 cX7_refuseCell 4 wsX7_refuseCell g := hC
  have hx := hC.1.1
  have hb := hC.1.2.1
  have hml := hC.1.2.2.1
  have hown := hC.1.2.2.2.1
  have hts := hC.1.2.2.2.2
  have hl : lv_has ls 4 [(0, .ref (q1 100)), (1, .int x1), (2, .int x2), (3, .int x3)] := hl
  show W p l e RM_X7_refuseCell s m ([.ref (q1 100), .int x1, .int x2, .int x3] : List Value).toArray below meth c s.heap [] 0 0 (Qi below g [.ref (q1 100), .int x1, .int x2, .int x3] (wX7 g q1 q2 q6 q7 q9 ++ (wX0 g q2 q3 q4 q5 ++ (wX3 g q3 S3 ++ (wX6 g q4 S4 ++ (wX5 g q5 S5 ++ (wX4 g q6 S6 ++ (wX2 g q7 q8 S7 ++ (wX3 g q8 S8 ++ (wX1 g q9 S9))))))))) (wX7 g q1 q2 q6 q7 q9 ++ (wX0 g q2 q3 q4 q5 ++ (wX3 g q3 S3 ++ (wX6 g q4 S4 ++ (wX5 g q5 S5 ++ (wX4 g q6 S6 ++ (wX2 g q7 q8 S7 ++ (wX3 g q8 S8 ++ (wX1 g q9 S9))))))))) r s) (F0 m 0 ls [])
  unfold f_X7_refuseCell at h
  refine lv_aload_n hx hb dX7_refuseCell_0 rfl (lv_at hl 0 rfl) ?_
  refine k_get (ci := 7) (k := 0) (q0 := 0) (v := .ref (q2 100)) (C := RX7) (T := TX7) (N := 5) hC uX7_refuseCell_X7 hP rfl rfl (by decide) (List.mem_of_getElem? (i := 1) rfl) rfl dX7_refuseCell_1 ?_
  refine k_get (ci := 0) (k := 0) (q0 := 1) (v := .ref (q3 100)) (C := RX0) (T := TX0) (N := 3) hC uX7_refuseCell_X0 hP rfl rfl (by decide) (List.mem_of_getElem? (i := 2) rfl) rfl dX7_refuseCell_4 ?_
  refine lv_iload_n hx hb dX7_refuseCell_7 rfl (lv_at hl 1 rfl) ?_
  obtain ⟨v101, hc106, h⟩ := fx_b1_s h
  refine k_callVi0 (C := RX3) (ci := 3) (qr := 0) (n := 1) (As := [.int x1]) (rest := []) (wc := (wX3 g q3 S3)) (bytes := cX3_hasRow) (maxL := 2) (ret := (some .boolean)) hC hl.1 (c_X3_hasRow l g N q3 S3 x1 v101 hc106) rfl gX7_refuseCell_X3_hasRow (by decide +kernel) rfl rfl ⟨Nat.le_of_ble_eq_true rfl, Nat.le_of_ble_eq_true rfl⟩ rfl rfl rfl (Nat.le_of_ble_eq_true rfl) ⟨Nat.le_of_ble_eq_true rfl, Nat.le_of_ble_eq_true rfl⟩ dX7_refuseCell_8 hP hD hS hA [2, 3, 4, 5, 6, 7] rfl (by decide +kernel) (fun H locs hP hD hS => ?_)
  refine k_if_eq (tgt := 28) hC dX7_refuseCell_11 (by decide) h (fun h => ?_) (fun h => ?_)
  · refine lv_iconst (v := (-1 : Int32)) hx hb dX7_refuseCell_28 (by decide) ?_
    obtain rfl := fx_i1 h
    exact Ci.ret hC hr hlk hA9 hP hD hS dX7_refuseCell_29
  · refine lv_aload_n hx hb dX7_refuseCell_14 rfl (lv_at hl 0 rfl) ?_
    refine k_get (ci := 7) (k := 0) (q0 := 0) (v := .ref (q2 100)) (C := RX7) (T := TX7) (N := 5) hC uX7_refuseCell_X7 hP rfl rfl (by decide) (List.mem_of_getElem? (i := 1) rfl) rfl dX7_refuseCell_15 ?_
    refine k_get (ci := 0) (k := 0) (q0 := 1) (v := .ref (q3 100)) (C := RX0) (T := TX0) (N := 3) hC uX7_refuseCell_X0 hP rfl rfl (by decide) (List.mem_of_getElem? (i := 2) rfl) rfl dX7_refuseCell_18 ?_
    refine lv_iload_n hx hb dX7_refuseCell_21 rfl (lv_at hl 2 rfl) ?_
    obtain ⟨v102, hc105, h⟩ := fx_b1_s h
    refine k_callVi0 (C := RX3) (ci := 3) (qr := 0) (n := 1) (As := [.int x2]) (rest := []) (wc := (wX3 g q3 S3)) (bytes := cX3_hasPlace) (maxL := 2) (ret := (some .boolean)) hC hl.1 (c_X3_hasPlace l g N q3 S3 x2 v102 hc105) rfl gX7_refuseCell_X3_hasPlace (by decide +kernel) rfl rfl ⟨Nat.le_of_ble_eq_true rfl, Nat.le_of_ble_eq_true rfl⟩ rfl rfl rfl (Nat.le_of_ble_eq_true rfl) ⟨Nat.le_of_ble_eq_true rfl, Nat.le_of_ble_eq_true rfl⟩ dX7_refuseCell_22 hP hD hS hA [2, 3, 4, 5, 6, 7] rfl (by decide +kernel) (fun H locs hP hD hS => ?_)
    refine k_if_ne (tgt := 30) hC dX7_refuseCell_25 (by decide) h (fun h => ?_) (fun h => ?_)
    · refine lv_iload_n hx hb dX7_refuseCell_30 rfl (lv_at hl 3 rfl) ?_
      refine lv_iconst (v := (0 : Int32)) hx hb dX7_refuseCell_31 (by decide) ?_
      refine lv_iconst (v := (1 : Int32)) hx hb dX7_refuseCell_32 (by decide) ?_
      obtain ⟨v103, hc104, h⟩ := fx_b1_s h
      refine k_callSi0 (n := 3) (As := [.int x3, .int (0 : Int32), .int (1 : Int32)]) (rest := []) (wc := ([] : va_W)) (bytes := cX7_within) (maxL := 3) (ret := (some .boolean)) hC hl.1 (c_X7_within l g N x3 (0 : Int32) (1 : Int32) v103 hc104) rfl gX7_refuseCell_X7_within (by decide +kernel) ⟨Nat.le_of_ble_eq_true rfl, Nat.le_of_ble_eq_true rfl⟩ rfl rfl rfl (Nat.le_of_ble_eq_true rfl) ⟨Nat.le_of_ble_eq_true rfl, Nat.le_of_ble_eq_true rfl⟩ dX7_refuseCell_33 hP hD hS hA [] rfl (by decide +kernel) (fun H locs hP hD hS => ?_)
      refine k_if_eq (tgt := 43) hC dX7_refuseCell_36 (by decide) h (fun h => ?_) (fun h => ?_)
      · refine lv_bipush (v := (-2 : Int32)) hx hb dX7_refuseCell_43 (by decide) ?_
        obtain rfl := fx_i1 h
        exact Ci.ret hC hr hlk hA9 hP hD hS dX7_refuseCell_45
      · refine lv_iconst (v := (0 : Int32)) hx hb dX7_refuseCell_39 (by decide) ?_
        refine lv_goto (tgt := 45) hx hb dX7_refuseCell_40 (by decide) ?_
        obtain rfl := fx_i1 h
        exact Ci.ret hC hr hlk hA9 hP hD hS dX7_refuseCell_45
    · refine lv_iconst (v := (-1 : Int32)) hx hb dX7_refuseCell_28 (by decide) ?_
      obtain rfl := fx_i1 h
      exact Ci.ret hC hr hlk hA9 hP hD hS dX7_refuseCell_29
theorem uX7_behind_X2 : ∀ w ∈ u_ws RX2 TX2 5, w ∈ wsX7_behind := fun w h => List.mem_cons_of_mem _ (List.mem_append_left _ (List.mem_append_left _ (List.mem_append_left _ (List.mem_append_left _ (List.mem_append_right _ h)))))
theorem uX7_behind_X7 : ∀ w ∈ u_ws RX7 TX7 5, w ∈ wsX7_behind := fun w h => List.mem_cons_of_mem _ (List.mem_append_left _ (List.mem_append_left _ (List.mem_append_left _ (List.mem_append_left _ (List.mem_append_left _ (List.mem_append_right _ h))))))
abbrev RM_X7_behind : Room := { frames := 7, cells := 0, slots := 0, locals := 162 }
def f_X7_behind (N : Nat) (S3 : St) (S4 : St) (S5 : St) (S6 : St) (S7 : St) (S8 : St) (S9 : St) (x1 : Int32) (x2 : Int32) (x3 : Int32) : Option (Int32 × St × St) :=
  fx_b1 (f_X7_refuseCell N S3 S4 S5 S6 S7 S8 S9 x1 x2 x3) (fun v101 =>
  (if v101 = 0 then (
  fx_b3 (f_X7_playDay N S3 S4 S5 S6 S7 S8 S9) (fun v102 S103 S104 =>
    (if v102 = 0 then (
    fx_b1 (f_X3_tellCell N S104 x1 x2 x3) (fun v105 =>
      some (v105, S103, S104))) else (
    some (v102, S103, S104))))) else (
  some (v101, S7, S8))))
set_option maxRecDepth 100000 in
set_option maxHeartbeats 4000000 in
theorem c_X7_behind (l : Launch) (g : GG) (N : Nat) (q1 : Nat → Nat) (q2 : Nat → Nat) (q3 : Nat → Nat) (q4 : Nat → Nat) (q5 : Nat → Nat) (q6 : Nat → Nat) (q7 : Nat → Nat) (q8 : Nat → Nat) (q9 : Nat → Nat) (S3 : St) (S4 : St) (S5 : St) (S6 : St) (S7 : St) (S8 : St) (S9 : St) (x1 : Int32) (x2 : Int32) (x3 : Int32) (r : Int32) (F7 : St) (F8 : St) (h : f_X7_behind N S3 S4 S5 S6 S7 S8 S9 x1 x2 x3 = some (r, F7, F8)) : Ci l yX7_behind wsX7_behind RM_X7_behind g [.ref (q1 100), .int x1, .int x2, .int x3] (wX7 g q1 q2 q6 q7 q9 ++ (wX0 g q2 q3 q4 q5 ++ (wX3 g q3 S3 ++ (wX6 g q4 S4 ++ (wX5 g q5 S5 ++ (wX4 g q6 S6 ++ (wX2 g q7 q8 S7 ++ (wX3 g q8 S8 ++ (wX1 g q9 S9))))))))) (wX7 g q1 q2 q6 q7 q9 ++ (wX0 g q2 q3 q4 q5 ++ (wX3 g q3 S3 ++ (wX6 g q4 S4 ++ (wX5 g q5 S5 ++ (wX4 g q6 S6 ++ (wX2 g q7 q8 F7 ++ (wX3 g q8 F8 ++ (wX1 g q9 S9))))))))) r := by
  intro sz
  refine Met.ofC (cc := cX7_behind) (maxL := 5) (ret := (some .int)) (by decide) rfl (Nat.le_of_ble_eq_true rfl) ?_
  intro p e s m below meth c hC hr hlk hsz A hA9 hA hP hD hS ls hl
  subst hsz
  have hC : Cx p s m ([.ref (q1 100), .int x1, .int x2, .int x3] : List Value).toArray c RX7 cX7_behind 5 wsX7_behind g := hC
  have hx := hC.1.1
  have hb := hC.1.2.1
  have hml := hC.1.2.2.1
  have hown := hC.1.2.2.2.1
  have hts := hC.1.2.2.2.2
  have hl : lv_has ls 5 [(0, .ref (q1 100)), (1, .int x1), (2, .int x2), (3, .int x3)] := hl
  show W p l e RM_X7_behind s m ([.ref (q1 100), .int x1, .int x2, .int x3] : List Value).toArray below meth c s.heap [] 0 0 (Qi below g [.ref (q1 100), .int x1, .int x2, .int x3] (wX7 g q1 q2 q6 q7 q9 ++ (wX0 g q2 q3 q4 q5 ++ (wX3 g q3 S3 ++ (wX6 g q4 S4 ++ (wX5 g q5 S5 ++ (wX4 g q6 S6 ++ (wX2 g q7 q8 S7 ++ (wX3 g q8 S8 ++ (wX1 g q9 S9))))))))) (wX7 g q1 q2 q6 q7 q9 ++ (wX0 g q2 q3 q4 q5 ++ (wX3 g q3 S3 ++ (wX6 g q4 S4 ++ (wX5 g q5 S5 ++ (wX4 g q6 S6 ++ (wX2 g q7 q8 F7 ++ (wX3 g q8 F8 ++ (wX1 g q9 S9))))))))) r s) (F0 m 0 ls [])
  unfold f_X7_behind at h
  refine lv_aload_n hx hb dX7_behind_0 rfl (lv_at hl 0 rfl) ?_
  refine lv_iload_n hx hb dX7_behind_1 rfl (lv_at hl 1 rfl) ?_
  refine lv_iload_n hx hb dX7_behind_2 rfl (lv_at hl 2 rfl) ?_
  refine lv_iload_n hx hb dX7_behind_3 rfl (lv_at hl 3 rfl) ?_
  obtain ⟨v101, hc108, h⟩ := fx_b1_s h
  refine k_callVi0 (C := RX7) (ci := 7) (qr := 0) (n := 3) (As := [.int x1, .int x2, .int x3]) (rest := []) (wc := (wX7 g q1 q2 q6 q7 q9 ++ (wX0 g q2 q3 q4 q5 ++ (wX3 g q3 S3 ++ (wX6 g q4 S4 ++ (wX5 g q5 S5 ++ (wX4 g q6 S6 ++ (wX2 g q7 q8 S7 ++ (wX3 g q8 S8 ++ (wX1 g q9 S9)))))))))) (bytes := cX7_refuseCell) (maxL := 4) (ret := (some .int)) hC hl.1 (c_X7_refuseCell l g N q1 q2 q3 q4 q5 q6 q7 q8 q9 S3 S4 S5 S6 S7 S8 S9 x1 x2 x3 v101 hc108) rfl gX7_behind_X7_refuseCell (by decide +kernel) rfl rfl ⟨Nat.le_of_ble_eq_true rfl, Nat.le_of_ble_eq_true rfl⟩ rfl rfl rfl (Nat.le_of_ble_eq_true rfl) ⟨Nat.le_of_ble_eq_true rfl, Nat.le_of_ble_eq_true rfl⟩ dX7_behind_4 hP hD hS hA [0, 1, 2, 3, 4, 5, 6, 7, 8, 9, 10, 11, 12, 13, 14, 15, 16, 17, 18, 19, 20, 21, 22, 23, 24, 25, 26, 27, 28, 29, 30, 31] rfl (by decide +kernel) (fun H locs hP hD hS => ?_)
  refine lv_istore (lv' := [(4, .int v101), (0, .ref (q1 100)), (1, .int x1), (2, .int x2), (3, .int x3)]) hx hb dX7_behind_7 hl (by decide) rfl (fun ls hl => ?_)
  refine lv_iload hx hb dX7_behind_9 (lv_at hl 0 rfl) ?_
  refine k_if_eq (tgt := 17) hC dX7_behind_11 (by decide) h (fun h => ?_) (fun h => ?_)
  · refine lv_aload_n hx hb dX7_behind_17 rfl (lv_at hl 1 rfl) ?_
    obtain ⟨v102, S103, S104, hc107, h⟩ := fx_b3_s h
    refine k_callVi (C := RX7) (ci := 7) (qr := 0) (n := 0) (As := []) (rest := []) (wc := (wX7 g q1 q2 q6 q7 q9 ++ (wX0 g q2 q3 q4 q5 ++ (wX3 g q3 S3 ++ (wX6 g q4 S4 ++ (wX5 g q5 S5 ++ (wX4 g q6 S6 ++ (wX2 g q7 q8 S7 ++ (wX3 g q8 S8 ++ (wX1 g q9 S9)))))))))) (w1 := (wX7 g q1 q2 q6 q7 q9 ++ (wX0 g q2 q3 q4 q5 ++ (wX3 g q3 S3 ++ (wX6 g q4 S4 ++ (wX5 g q5 S5 ++ (wX4 g q6 S6 ++ (wX2 g q7 q8 S103 ++ (wX3 g q8 S104 ++ (wX1 g q9 S9)))))))))) (ws2 := (wX7 g q1 q2 q6 q7 q9 ++ (wX0 g q2 q3 q4 q5 ++ (wX3 g q3 S3 ++ (wX6 g q4 S4 ++ (wX5 g q5 S5 ++ (wX4 g q6 S6 ++ (wX2 g q7 q8 S103 ++ (wX3 g q8 S104 ++ (wX1 g q9 S9)))))))))) (bytes := cX7_playDay) (maxL := 1) (ret := (some .int)) hC hl.1 (c_X7_playDay l g N q1 q2 q3 q4 q5 q6 q7 q8 q9 S3 S4 S5 S6 S7 S8 S9 v102 S103 S104 hc107) rfl gX7_behind_X7_playDay (by decide +kernel) rfl rfl ⟨Nat.le_of_ble_eq_true rfl, Nat.le_of_ble_eq_true rfl⟩ rfl rfl rfl (Nat.le_of_ble_eq_true rfl) ⟨Nat.le_of_ble_eq_true rfl, Nat.le_of_ble_eq_true rfl⟩ dX7_behind_18 hP hD hS hA [0, 1, 2, 3, 4, 5, 6, 7, 8, 9, 10, 11, 12, 13, 14, 15, 16, 17, 18, 19, 20, 21, 22, 23, 24, 25, 26, 27, 28, 29, 30, 31] rfl (by decide +kernel) [q1 100, q2 100, q3 100, q3 6, q3 7, q3 8, q3 9, q3 10, q4 100, q4 1, q4 2, q4 3, q4 4, q5 100, q5 1, q6 100, q6 1, q7 100, q8 100, q8 6, q8 7, q8 8, q8 9, q8 10, q9 100, q9 1, q9 2, q9 3, q9 4, q9 8, q9 9, q9 10] rfl rfl rfl [] ([] : va_W) rfl rfl (n2 := 32) rfl (by decide +kernel) (fun H locs hP hD hS => ?_)
    refine lv_istore (lv' := [(4, .int v102), (0, .ref (q1 100)), (1, .int x1), (2, .int x2), (3, .int x3)]) hx hb dX7_behind_21 hl (by decide) rfl (fun ls hl => ?_)
    refine lv_iload hx hb dX7_behind_23 (lv_at hl 0 rfl) ?_
    refine k_if_eq (tgt := 33) hC dX7_behind_25 (by decide) h (fun h => ?_) (fun h => ?_)
    · refine lv_aload_n hx hb dX7_behind_33 rfl (lv_at hl 1 rfl) ?_
      refine k_get (ci := 7) (k := 3) (q0 := 0) (v := .ref (q7 100)) (C := RX7) (T := TX7) (N := 5) hC uX7_behind_X7 hP rfl rfl (by decide) (List.mem_of_getElem? (i := 1) rfl) rfl dX7_behind_34 ?_
      refine k_get (ci := 2) (k := 0) (q0 := 17) (v := .ref (q8 100)) (C := RX2) (T := TX2) (N := 5) hC uX7_behind_X2 hP rfl rfl (by decide) (List.mem_of_getElem? (i := 2) rfl) rfl dX7_behind_37 ?_
      refine lv_iload_n hx hb dX7_behind_40 rfl (lv_at hl 2 rfl) ?_
      refine lv_iload_n hx hb dX7_behind_41 rfl (lv_at hl 3 rfl) ?_
      refine lv_iload_n hx hb dX7_behind_42 rfl (lv_at hl 4 rfl) ?_
      obtain ⟨v105, hc106, h⟩ := fx_b1_s h
      refine k_callVi0 (C := RX3) (ci := 3) (qr := 0) (n := 3) (As := [.int x1, .int x2, .int x3]) (rest := []) (wc := (wX3 g q8 S104)) (bytes := cX3_tellCell) (maxL := 4) (ret := (some .int)) hC hl.1 (c_X3_tellCell l g N q8 S104 x1 x2 x3 v105 hc106) rfl gX7_behind_X3_tellCell (by decide +kernel) rfl rfl ⟨Nat.le_of_ble_eq_true rfl, Nat.le_of_ble_eq_true rfl⟩ rfl rfl rfl (Nat.le_of_ble_eq_true rfl) ⟨Nat.le_of_ble_eq_true rfl, Nat.le_of_ble_eq_true rfl⟩ dX7_behind_43 hP hD hS hA [18, 19, 20, 21, 22, 23] rfl (by decide +kernel) (fun H locs hP hD hS => ?_)
      obtain ⟨rfl, rfl, rfl⟩ := fx_i3 h
      exact Ci.ret hC hr hlk hA9 hP hD hS dX7_behind_46
    · refine lv_iload hx hb dX7_behind_28 (lv_at hl 0 rfl) ?_
      refine lv_goto (tgt := 46) hx hb dX7_behind_30 (by decide) ?_
      obtain ⟨rfl, rfl, rfl⟩ := fx_i3 h
      exact Ci.ret hC hr hlk hA9 hP hD hS dX7_behind_46
  · refine lv_iload hx hb dX7_behind_14 (lv_at hl 0 rfl) ?_
    obtain ⟨rfl, rfl, rfl⟩ := fx_i3 h
    exact Ci.ret hC hr hlk hA9 hP hD hS dX7_behind_16
theorem uX7_done_X0 : ∀ w ∈ u_ws RX0 TX0 3, w ∈ wsX7_done := fun w h => List.mem_cons_of_mem _ (List.mem_append_left _ (List.mem_append_left _ (List.mem_append_left _ (List.mem_append_left _ (List.mem_append_right _ h)))))
theorem uX7_done_X2 : ∀ w ∈ u_ws RX2 TX2 5, w ∈ wsX7_done := fun w h => List.mem_cons_of_mem _ (List.mem_append_left _ (List.mem_append_left _ (List.mem_append_left _ (List.mem_append_right _ h))))
theorem uX7_done_X4 : ∀ w ∈ u_ws RX4 TX4 2, w ∈ wsX7_done := fun w h => List.mem_cons_of_mem _ (List.mem_append_left _ (List.mem_append_left _ (List.mem_append_right _ h)))
theorem uX7_done_X7 : ∀ w ∈ u_ws RX7 TX7 5, w ∈ wsX7_done := fun w h => List.mem_cons_of_mem _ (List.mem_append_left _ (List.mem_append_left _ (List.mem_append_left _ (List.mem_append_left _ (List.mem_append_left _ (List.mem_append_right _ h))))))
abbrev RM_X7_done : Room := { frames := 7, cells := 0, slots := 0, locals := 162 }
def f_X7_done (N : Nat) (S3 : St) (S4 : St) (S5 : St) (S6 : St) (S7 : St) (S8 : St) (S9 : St) : Option (Int32 × St × St × St × St) :=
  fx_b3 (f_X7_playDay N S3 S4 S5 S6 S7 S8 S9) (fun v101 S102 S103 =>
  (if v101 = 0 then (
  fx_b1 (f_X3_copyFrom N S3 S103) (fun S104 =>
    fx_lt (stI S6 0 (0 : Int32)) (fun S105 =>
    some ((S102.1 1), S104, S105, S102, S103)))) else (
  some (v101, S3, S6, S102, S103))))
set_option maxRecDepth 100000 in
set_option maxHeartbeats 4000000 in
theorem c_X7_done (l : Launch) (g : GG) (N : Nat) (q1 : Nat → Nat) (q2 : Nat → Nat) (q3 : Nat → Nat) (q4 : Nat → Nat) (q5 : Nat → Nat) (q6 : Nat → Nat) (q7 : Nat → Nat) (q8 : Nat → Nat) (q9 : Nat → Nat) (S3 : St) (S4 : St) (S5 : St) (S6 : St) (S7 : St) (S8 : St) (S9 : St) (r : Int32) (F3 : St) (F6 : St) (F7 : St) (F8 : St) (h : f_X7_done N S3 S4 S5 S6 S7 S8 S9 = some (r, F3, F6, F7, F8)) : Ci l yX7_done wsX7_done RM_X7_done g [.ref (q1 100)] (wX7 g q1 q2 q6 q7 q9 ++ (wX0 g q2 q3 q4 q5 ++ (wX3 g q3 S3 ++ (wX6 g q4 S4 ++ (wX5 g q5 S5 ++ (wX4 g q6 S6 ++ (wX2 g q7 q8 S7 ++ (wX3 g q8 S8 ++ (wX1 g q9 S9))))))))) (wX7 g q1 q2 q6 q7 q9 ++ (wX0 g q2 q3 q4 q5 ++ (wX3 g q3 F3 ++ (wX6 g q4 S4 ++ (wX5 g q5 S5 ++ (wX4 g q6 F6 ++ (wX2 g q7 q8 F7 ++ (wX3 g q8 F8 ++ (wX1 g q9 S9))))))))) r := by
  intro sz
  refine Met.ofC (cc := cX7_done) (maxL := 2) (ret := (some .int)) (by decide) rfl (Nat.le_of_ble_eq_true rfl) ?_
  intro p e s m below meth c hC hr hlk hsz A hA9 hA hP hD hS ls hl
  subst hsz
  have hC : Cx p s m ([.ref (q1 100)] : List Value).toArray c RX7 cX7_done 2 wsX7_done g := hC
  have hx := hC.1.1
  have hb := hC.1.2.1
  have hml := hC.1.2.2.1
  have hown := hC.1.2.2.2.1
  have hts := hC.1.2.2.2.2
  have hl : lv_has ls 2 [(0, .ref (q1 100))] := hl
  show W p l e RM_X7_done s m ([.ref (q1 100)] : List Value).toArray below meth c s.heap [] 0 0 (Qi below g [.ref (q1 100)] (wX7 g q1 q2 q6 q7 q9 ++ (wX0 g q2 q3 q4 q5 ++ (wX3 g q3 S3 ++ (wX6 g q4 S4 ++ (wX5 g q5 S5 ++ (wX4 g q6 S6 ++ (wX2 g q7 q8 S7 ++ (wX3 g q8 S8 ++ (wX1 g q9 S9))))))))) (wX7 g q1 q2 q6 q7 q9 ++ (wX0 g q2 q3 q4 q5 ++ (wX3 g q3 F3 ++ (wX6 g q4 S4 ++ (wX5 g q5 S5 ++ (wX4 g q6 F6 ++ (wX2 g q7 q8 F7 ++ (wX3 g q8 F8 ++ (wX1 g q9 S9))))))))) r s) (F0 m 0 ls [])
  unfold f_X7_done at h
  refine lv_aload_n hx hb dX7_done_0 rfl (lv_at hl 0 rfl) ?_
  obtain ⟨v101, S102, S103, hc107, h⟩ := fx_b3_s h
  refine k_callVi (C := RX7) (ci := 7) (qr := 0) (n := 0) (As := []) (rest := []) (wc := (wX7 g q1 q2 q6 q7 q9 ++ (wX0 g q2 q3 q4 q5 ++ (wX3 g q3 S3 ++ (wX6 g q4 S4 ++ (wX5 g q5 S5 ++ (wX4 g q6 S6 ++ (wX2 g q7 q8 S7 ++ (wX3 g q8 S8 ++ (wX1 g q9 S9)))))))))) (w1 := (wX7 g q1 q2 q6 q7 q9 ++ (wX0 g q2 q3 q4 q5 ++ (wX3 g q3 S3 ++ (wX6 g q4 S4 ++ (wX5 g q5 S5 ++ (wX4 g q6 S6 ++ (wX2 g q7 q8 S102 ++ (wX3 g q8 S103 ++ (wX1 g q9 S9)))))))))) (ws2 := (wX7 g q1 q2 q6 q7 q9 ++ (wX0 g q2 q3 q4 q5 ++ (wX3 g q3 S3 ++ (wX6 g q4 S4 ++ (wX5 g q5 S5 ++ (wX4 g q6 S6 ++ (wX2 g q7 q8 S102 ++ (wX3 g q8 S103 ++ (wX1 g q9 S9)))))))))) (bytes := cX7_playDay) (maxL := 1) (ret := (some .int)) hC hl.1 (c_X7_playDay l g N q1 q2 q3 q4 q5 q6 q7 q8 q9 S3 S4 S5 S6 S7 S8 S9 v101 S102 S103 hc107) rfl gX7_done_X7_playDay (by decide +kernel) rfl rfl ⟨Nat.le_of_ble_eq_true rfl, Nat.le_of_ble_eq_true rfl⟩ rfl rfl rfl (Nat.le_of_ble_eq_true rfl) ⟨Nat.le_of_ble_eq_true rfl, Nat.le_of_ble_eq_true rfl⟩ dX7_done_1 hP hD hS hA [0, 1, 2, 3, 4, 5, 6, 7, 8, 9, 10, 11, 12, 13, 14, 15, 16, 17, 18, 19, 20, 21, 22, 23, 24, 25, 26, 27, 28, 29, 30, 31] rfl (by decide +kernel) [q1 100, q2 100, q3 100, q3 6, q3 7, q3 8, q3 9, q3 10, q4 100, q4 1, q4 2, q4 3, q4 4, q5 100, q5 1, q6 100, q6 1, q7 100, q8 100, q8 6, q8 7, q8 8, q8 9, q8 10, q9 100, q9 1, q9 2, q9 3, q9 4, q9 8, q9 9, q9 10] rfl rfl rfl [] ([] : va_W) rfl rfl (n2 := 32) rfl (by decide +kernel) (fun H locs hP hD hS => ?_)
  refine lv_istore_n (lv' := [(1, .int v101), (0, .ref (q1 100))]) hx hb dX7_done_4 rfl hl (by decide) rfl (fun ls hl => ?_)
  refine lv_iload_n hx hb dX7_done_5 rfl (lv_at hl 0 rfl) ?_
  refine k_if_eq (tgt := 11) hC dX7_done_6 (by decide) h (fun h => ?_) (fun h => ?_)
  · refine lv_aload_n hx hb dX7_done_11 rfl (lv_at hl 1 rfl) ?_
    refine k_get (ci := 7) (k := 0) (q0 := 0) (v := .ref (q2 100)) (C := RX7) (T := TX7) (N := 5) hC uX7_done_X7 hP rfl rfl (by decide) (List.mem_of_getElem? (i := 1) rfl) rfl dX7_done_12 ?_
    refine k_get (ci := 0) (k := 0) (q0 := 1) (v := .ref (q3 100)) (C := RX0) (T := TX0) (N := 3) hC uX7_done_X0 hP rfl rfl (by decide) (List.mem_of_getElem? (i := 2) rfl) rfl dX7_done_15 ?_
    refine lv_aload_n hx hb dX7_done_18 rfl (lv_at hl 1 rfl) ?_
    refine k_get (ci := 7) (k := 3) (q0 := 0) (v := .ref (q7 100)) (C := RX7) (T := TX7) (N := 5) hC uX7_done_X7 hP rfl rfl (by decide) (List.mem_of_getElem? (i := 3) rfl) rfl dX7_done_19 ?_
    refine k_get (ci := 2) (k := 0) (q0 := 17) (v := .ref (q8 100)) (C := RX2) (T := TX2) (N := 5) hC uX7_done_X2 hP rfl rfl (by decide) (List.mem_of_getElem? (i := 4) rfl) rfl dX7_done_22 ?_
    obtain ⟨S104, hc106, h⟩ := fx_b1_s h
    refine k_callVv (C := RX3) (ci := 3) (qr := 0) (n := 1) (As := [.ref (q8 100)]) (rest := []) (wc := (wX3 g q3 S3 ++ (wX3 g q8 S103))) (w1 := (wX3 g q3 S104 ++ (wX3 g q8 S103))) (ws2 := (wX7 g q1 q2 q6 q7 q9 ++ (wX0 g q2 q3 q4 q5 ++ (wX3 g q3 S104 ++ (wX6 g q4 S4 ++ (wX5 g q5 S5 ++ (wX4 g q6 S6 ++ (wX2 g q7 q8 S102 ++ (wX3 g q8 S103 ++ (wX1 g q9 S9)))))))))) (bytes := cX3_copyFrom) (maxL := 2) (ret := none) hC hl.1 (c_X3_copyFrom l g N q3 q8 S3 S103 S104 hc106) rfl gX7_done_X3_copyFrom (by decide +kernel) rfl rfl ⟨Nat.le_of_ble_eq_true rfl, Nat.le_of_ble_eq_true rfl⟩ rfl rfl rfl (Nat.le_of_ble_eq_true rfl) ⟨Nat.le_of_ble_eq_true rfl, Nat.le_of_ble_eq_true rfl⟩ dX7_done_25 hP hD hS hA [2, 3, 4, 5, 6, 7, 18, 19, 20, 21, 22, 23] rfl (by decide +kernel) [q3 100, q3 6, q3 7, q3 8, q3 9, q3 10, q8 100, q8 6, q8 7, q8 8, q8 9, q8 10] rfl rfl rfl [0, 1, 8, 9, 10, 11, 12, 13, 14, 15, 16, 17, 24, 25, 26, 27, 28, 29, 30, 31] (wX7 g q1 q2 q6 q7 q9 ++ (wX0 g q2 q3 q4 q5 ++ (wX6 g q4 S4 ++ (wX5 g q5 S5 ++ (wX4 g q6 S6 ++ (wX2 g q7 q8 S102 ++ (wX1 g q9 S9))))))) rfl rfl (n2 := 32) rfl (by decide +kernel) (fun H locs hP hD hS => ?_)
    refine lv_aload_n hx hb dX7_done_28 rfl (lv_at hl 1 rfl) ?_
    refine k_get (ci := 7) (k := 2) (q0 := 0) (v := .ref (q6 100)) (C := RX7) (T := TX7) (N := 5) hC uX7_done_X7 hP rfl rfl (by decide) (List.mem_of_getElem? (i := 5) rfl) rfl dX7_done_29 ?_
    refine lv_iconst (v := (0 : Int32)) hx hb dX7_done_32 (by decide) ?_
    refine k_put (ci := 4) (k := 0) (q0 := 15) (C := RX4) (T := TX4) (N := 2) (S2 := stI S6 0 (0 : Int32)) tyX4 (fun S => (wX7 g q1 q2 q6 q7 q9 ++ (wX0 g q2 q3 q4 q5 ++ (wX3 g q3 S104 ++ (wX6 g q4 S4 ++ (wX5 g q5 S5 ++ (wX4 g q6 S ++ (wX2 g q7 q8 S102 ++ (wX3 g q8 S103 ++ (wX1 g q9 S9)))))))))) hC uX7_done_X4 tyX4_ok nmX4 hP hD hS rfl rfl (by decide) (List.mem_of_getElem? (i := 6) rfl) rfl (tyX4_ok 0 (by decide)) (Nat.le_of_ble_eq_true rfl) dX7_done_33 rfl h (fun S105 h H locs hP hD hS => ?_)
    refine lv_aload_n hx hb dX7_done_36 rfl (lv_at hl 1 rfl) ?_
    refine k_get (ci := 7) (k := 3) (q0 := 0) (v := .ref (q7 100)) (C := RX7) (T := TX7) (N := 5) hC uX7_done_X7 hP rfl rfl (by decide) (List.mem_of_getElem? (i := 3) rfl) rfl dX7_done_37 ?_
    refine k_get (ci := 2) (k := 1) (q0 := 17) (v := .int (S102.1 1)) (C := RX2) (T := TX2) (N := 5) hC uX7_done_X2 hP rfl rfl (by decide) (List.mem_of_getElem? (i := 7) rfl) rfl dX7_done_40 ?_
    obtain ⟨rfl, rfl, rfl, rfl, rfl⟩ := fx_i5 h
    exact Ci.ret hC hr hlk hA9 hP hD hS dX7_done_43
  · refine lv_iload_n hx hb dX7_done_9 rfl (lv_at hl 0 rfl) ?_
    obtain ⟨rfl, rfl, rfl, rfl, rfl⟩ := fx_i5 h
    exact Ci.ret hC hr hlk hA9 hP hD hS dX7_done_10
theorem uX7_out_X0 : ∀ w ∈ u_ws RX0 TX0 3, w ∈ wsX7_out := fun w h => List.mem_cons_of_mem _ (List.mem_append_left _ (List.mem_append_right _ h))
theorem uX7_out_X3 : ∀ w ∈ u_ws RX3 TX3 11, w ∈ wsX7_out := fun w h => List.mem_cons_of_mem _ (List.mem_append_right _ h)
theorem uX7_out_X7 : ∀ w ∈ u_ws RX7 TX7 5, w ∈ wsX7_out := fun w h => List.mem_cons_of_mem _ (List.mem_append_left _ (List.mem_append_left _ (List.mem_append_right _ h)))
abbrev RM_X7_out : Room := { frames := 1, cells := 0, slots := 0, locals := 22 }
def f_X7_out (N : Nat) (S3 : St) (S4 : St) (S5 : St) (S6 : St) (S7 : St) (S8 : St) (S9 : St) (x1 : Int32) : Option (Int32) :=
  fx_b1 (f_X7_within N x1 (0 : Int32) (3 : Int32)) (fun v101 =>
  (if v101 = 0 then (
  some (-2 : Int32)) else (
  fx_ald 4 (S3.2 10) x1 (fun v102 =>
    some v102))))
set_option maxRecDepth 100000 in
set_option maxHeartbeats 4000000 in
theorem c_X7_out (l : Launch) (g : GG) (N : Nat) (q1 : Nat → Nat) (q2 : Nat → Nat) (q3 : Nat → Nat) (q4 : Nat → Nat) (q5 : Nat → Nat) (q6 : Nat → Nat) (q7 : Nat → Nat) (q8 : Nat → Nat) (q9 : Nat → Nat) (S3 : St) (S4 : St) (S5 : St) (S6 : St) (S7 : St) (S8 : St) (S9 : St) (x1 : Int32) (r : Int32) (h : f_X7_out N S3 S4 S5 S6 S7 S8 S9 x1 = some r) : Ci l yX7_out wsX7_out RM_X7_out g [.ref (q1 100), .int x1] (wX7 g q1 q2 q6 q7 q9 ++ (wX0 g q2 q3 q4 q5 ++ (wX3 g q3 S3 ++ (wX6 g q4 S4 ++ (wX5 g q5 S5 ++ (wX4 g q6 S6 ++ (wX2 g q7 q8 S7 ++ (wX3 g q8 S8 ++ (wX1 g q9 S9))))))))) (wX7 g q1 q2 q6 q7 q9 ++ (wX0 g q2 q3 q4 q5 ++ (wX3 g q3 S3 ++ (wX6 g q4 S4 ++ (wX5 g q5 S5 ++ (wX4 g q6 S6 ++ (wX2 g q7 q8 S7 ++ (wX3 g q8 S8 ++ (wX1 g q9 S9))))))))) r := by
  intro sz
  refine Met.ofC (cc := cX7_out) (maxL := 2) (ret := (some .int)) (by decide) rfl (Nat.le_of_ble_eq_true rfl) ?_
  intro p e s m below meth c hC hr hlk hsz A hA9 hA hP hD hS ls hl
  subst hsz
  have hC : Cx p s m ([.ref (q1 100), .int x1] : List Value).toArray c RX7 cX7_out 2 wsX7_out g := hC
  have hx := hC.1.1
  have hb := hC.1.2.1
  have hml := hC.1.2.2.1
  have hown := hC.1.2.2.2.1
  have hts := hC.1.2.2.2.2
  have hl : lv_has ls 2 [(0, .ref (q1 100)), (1, .int x1)] := hl
  show W p l e RM_X7_out s m ([.ref (q1 100), .int x1] : List Value).toArray below meth c s.heap [] 0 0 (Qi below g [.ref (q1 100), .int x1] (wX7 g q1 q2 q6 q7 q9 ++ (wX0 g q2 q3 q4 q5 ++ (wX3 g q3 S3 ++ (wX6 g q4 S4 ++ (wX5 g q5 S5 ++ (wX4 g q6 S6 ++ (wX2 g q7 q8 S7 ++ (wX3 g q8 S8 ++ (wX1 g q9 S9))))))))) (wX7 g q1 q2 q6 q7 q9 ++ (wX0 g q2 q3 q4 q5 ++ (wX3 g q3 S3 ++ (wX6 g q4 S4 ++ (wX5 g q5 S5 ++ (wX4 g q6 S6 ++ (wX2 g q7 q8 S7 ++ (wX3 g q8 S8 ++ (wX1 g q9 S9))))))))) r s) (F0 m 0 ls [])
  unfold f_X7_out at h
  refine lv_iload_n hx hb dX7_out_0 rfl (lv_at hl 1 rfl) ?_
  refine lv_iconst (v := (0 : Int32)) hx hb dX7_out_1 (by decide) ?_
  refine lv_iconst (v := (3 : Int32)) hx hb dX7_out_2 (by decide) ?_
  obtain ⟨v101, hc103, h⟩ := fx_b1_s h
  refine k_callSi0 (n := 3) (As := [.int x1, .int (0 : Int32), .int (3 : Int32)]) (rest := []) (wc := ([] : va_W)) (bytes := cX7_within) (maxL := 3) (ret := (some .boolean)) hC hl.1 (c_X7_within l g N x1 (0 : Int32) (3 : Int32) v101 hc103) rfl gX7_out_X7_within (by decide +kernel) ⟨Nat.le_of_ble_eq_true rfl, Nat.le_of_ble_eq_true rfl⟩ rfl rfl rfl (Nat.le_of_ble_eq_true rfl) ⟨Nat.le_of_ble_eq_true rfl, Nat.le_of_ble_eq_true rfl⟩ dX7_out_3 hP hD hS hA [] rfl (by decide +kernel) (fun H locs hP hD hS => ?_)
  refine k_if_eq (tgt := 24) hC dX7_out_6 (by decide) h (fun h => ?_) (fun h => ?_)
  · refine lv_bipush (v := (-2 : Int32)) hx hb dX7_out_24 (by decide) ?_
    obtain rfl := fx_i1 h
    exact Ci.ret hC hr hlk hA9 hP hD hS dX7_out_26
  · refine lv_aload_n hx hb dX7_out_9 rfl (lv_at hl 0 rfl) ?_
    refine k_get (ci := 7) (k := 0) (q0 := 0) (v := .ref (q2 100)) (C := RX7) (T := TX7) (N := 5) hC uX7_out_X7 hP rfl rfl (by decide) (List.mem_of_getElem? (i := 1) rfl) rfl dX7_out_10 ?_
    refine k_get (ci := 0) (k := 0) (q0 := 1) (v := .ref (q3 100)) (C := RX0) (T := TX0) (N := 3) hC uX7_out_X0 hP rfl rfl (by decide) (List.mem_of_getElem? (i := 2) rfl) rfl dX7_out_13 ?_
    refine k_get (ci := 3) (k := 10) (q0 := 2) (v := .ref (q3 10)) (C := RX3) (T := TX3) (N := 11) hC uX7_out_X3 hP rfl rfl (by decide) (List.mem_of_getElem? (i := 3) rfl) rfl dX7_out_16 ?_
    refine lv_iload_n hx hb dX7_out_19 rfl (lv_at hl 1 rfl) ?_
    refine k_ald (q0 := 7) (n := 4) (F := S3.2 10) hC hP rfl dX7_out_20 h (fun v102 h => ?_)
    refine lv_goto (tgt := 26) hx hb dX7_out_21 (by decide) ?_
    obtain rfl := fx_i1 h
    exact Ci.ret hC hr hlk hA9 hP hD hS dX7_out_26
theorem uX7_state_X0 : ∀ w ∈ u_ws RX0 TX0 3, w ∈ wsX7_state := fun w h => List.mem_cons_of_mem _ (List.mem_append_left _ (List.mem_append_right _ h))
theorem uX7_state_X7 : ∀ w ∈ u_ws RX7 TX7 5, w ∈ wsX7_state := fun w h => List.mem_cons_of_mem _ (List.mem_append_left _ (List.mem_append_left _ (List.mem_append_right _ h)))
abbrev RM_X7_state : Room := { frames := 3, cells := 0, slots := 0, locals := 66 }
def f_X7_state (N : Nat) (S3 : St) (S4 : St) (S5 : St) (S6 : St) (S7 : St) (S8 : St) (S9 : St) (x1 : Int32) (x2 : Int32) (x3 : Int32) : Option (Int32) :=
  fx_b1 (f_X7_refuseCell N S3 S4 S5 S6 S7 S8 S9 x1 x2 x3) (fun v101 =>
  (if v101 = 0 then (
  fx_b1 (f_X3_tellCell N S3 x1 x2 x3) (fun v102 =>
    some v102)) else (
  some v101)))
set_option maxRecDepth 100000 in
set_option maxHeartbeats 4000000 in
theorem c_X7_state (l : Launch) (g : GG) (N : Nat) (q1 : Nat → Nat) (q2 : Nat → Nat) (q3 : Nat → Nat) (q4 : Nat → Nat) (q5 : Nat → Nat) (q6 : Nat → Nat) (q7 : Nat → Nat) (q8 : Nat → Nat) (q9 : Nat → Nat) (S3 : St) (S4 : St) (S5 : St) (S6 : St) (S7 : St) (S8 : St) (S9 : St) (x1 : Int32) (x2 : Int32) (x3 : Int32) (r : Int32) (h : f_X7_state N S3 S4 S5 S6 S7 S8 S9 x1 x2 x3 = some r) : Ci l yX7_state wsX7_state RM_X7_state g [.ref (q1 100), .int x1, .int x2, .int x3] (wX7 g q1 q2 q6 q7 q9 ++ (wX0 g q2 q3 q4 q5 ++ (wX3 g q3 S3 ++ (wX6 g q4 S4 ++ (wX5 g q5 S5 ++ (wX4 g q6 S6 ++ (wX2 g q7 q8 S7 ++ (wX3 g q8 S8 ++ (wX1 g q9 S9))))))))) (wX7 g q1 q2 q6 q7 q9 ++ (wX0 g q2 q3 q4 q5 ++ (wX3 g q3 S3 ++ (wX6 g q4 S4 ++ (wX5 g q5 S5 ++ (wX4 g q6 S6 ++ (wX2 g q7 q8 S7 ++ (wX3 g q8 S8 ++ (wX1 g q9 S9))))))))) r := by
  intro sz
  refine Met.ofC (cc := cX7_state) (maxL := 5) (ret := (some .int)) (by decide) rfl (Nat.le_of_ble_eq_true rfl) ?_
  intro p e s m below meth c hC hr hlk hsz A hA9 hA hP hD hS ls hl
  subst hsz
  have hC : Cx p s m ([.ref (q1 100), .int x1, .int x2, .int x3] : List Value).toArray c RX7 cX7_state 5 wsX7_state g := hC
  have hx := hC.1.1
  have hb := hC.1.2.1
  have hml := hC.1.2.2.1
  have hown := hC.1.2.2.2.1
  have hts := hC.1.2.2.2.2
  have hl : lv_has ls 5 [(0, .ref (q1 100)), (1, .int x1), (2, .int x2), (3, .int x3)] := hl
  show W p l e RM_X7_state s m ([.ref (q1 100), .int x1, .int x2, .int x3] : List Value).toArray below meth c s.heap [] 0 0 (Qi below g [.ref (q1 100), .int x1, .int x2, .int x3] (wX7 g q1 q2 q6 q7 q9 ++ (wX0 g q2 q3 q4 q5 ++ (wX3 g q3 S3 ++ (wX6 g q4 S4 ++ (wX5 g q5 S5 ++ (wX4 g q6 S6 ++ (wX2 g q7 q8 S7 ++ (wX3 g q8 S8 ++ (wX1 g q9 S9))))))))) (wX7 g q1 q2 q6 q7 q9 ++ (wX0 g q2 q3 q4 q5 ++ (wX3 g q3 S3 ++ (wX6 g q4 S4 ++ (wX5 g q5 S5 ++ (wX4 g q6 S6 ++ (wX2 g q7 q8 S7 ++ (wX3 g q8 S8 ++ (wX1 g q9 S9))))))))) r s) (F0 m 0 ls [])
  unfold f_X7_state at h
  refine lv_aload_n hx hb dX7_state_0 rfl (lv_at hl 0 rfl) ?_
  refine lv_iload_n hx hb dX7_state_1 rfl (lv_at hl 1 rfl) ?_
  refine lv_iload_n hx hb dX7_state_2 rfl (lv_at hl 2 rfl) ?_
  refine lv_iload_n hx hb dX7_state_3 rfl (lv_at hl 3 rfl) ?_
  obtain ⟨v101, hc104, h⟩ := fx_b1_s h
  refine k_callVi0 (C := RX7) (ci := 7) (qr := 0) (n := 3) (As := [.int x1, .int x2, .int x3]) (rest := []) (wc := (wX7 g q1 q2 q6 q7 q9 ++ (wX0 g q2 q3 q4 q5 ++ (wX3 g q3 S3 ++ (wX6 g q4 S4 ++ (wX5 g q5 S5 ++ (wX4 g q6 S6 ++ (wX2 g q7 q8 S7 ++ (wX3 g q8 S8 ++ (wX1 g q9 S9)))))))))) (bytes := cX7_refuseCell) (maxL := 4) (ret := (some .int)) hC hl.1 (c_X7_refuseCell l g N q1 q2 q3 q4 q5 q6 q7 q8 q9 S3 S4 S5 S6 S7 S8 S9 x1 x2 x3 v101 hc104) rfl gX7_state_X7_refuseCell (by decide +kernel) rfl rfl ⟨Nat.le_of_ble_eq_true rfl, Nat.le_of_ble_eq_true rfl⟩ rfl rfl rfl (Nat.le_of_ble_eq_true rfl) ⟨Nat.le_of_ble_eq_true rfl, Nat.le_of_ble_eq_true rfl⟩ dX7_state_4 hP hD hS hA [0, 1, 2, 3, 4, 5, 6, 7, 8, 9, 10, 11, 12, 13, 14, 15, 16, 17, 18, 19, 20, 21, 22, 23, 24, 25, 26, 27, 28, 29, 30, 31] rfl (by decide +kernel) (fun H locs hP hD hS => ?_)
  refine lv_istore (lv' := [(4, .int v101), (0, .ref (q1 100)), (1, .int x1), (2, .int x2), (3, .int x3)]) hx hb dX7_state_7 hl (by decide) rfl (fun ls hl => ?_)
  refine lv_iload hx hb dX7_state_9 (lv_at hl 0 rfl) ?_
  refine k_if_eq (tgt := 19) hC dX7_state_11 (by decide) h (fun h => ?_) (fun h => ?_)
  · refine lv_aload_n hx hb dX7_state_19 rfl (lv_at hl 1 rfl) ?_
    refine k_get (ci := 7) (k := 0) (q0 := 0) (v := .ref (q2 100)) (C := RX7) (T := TX7) (N := 5) hC uX7_state_X7 hP rfl rfl (by decide) (List.mem_of_getElem? (i := 1) rfl) rfl dX7_state_20 ?_
    refine k_get (ci := 0) (k := 0) (q0 := 1) (v := .ref (q3 100)) (C := RX0) (T := TX0) (N := 3) hC uX7_state_X0 hP rfl rfl (by decide) (List.mem_of_getElem? (i := 2) rfl) rfl dX7_state_23 ?_
    refine lv_iload_n hx hb dX7_state_26 rfl (lv_at hl 2 rfl) ?_
    refine lv_iload_n hx hb dX7_state_27 rfl (lv_at hl 3 rfl) ?_
    refine lv_iload_n hx hb dX7_state_28 rfl (lv_at hl 4 rfl) ?_
    obtain ⟨v102, hc103, h⟩ := fx_b1_s h
    refine k_callVi0 (C := RX3) (ci := 3) (qr := 0) (n := 3) (As := [.int x1, .int x2, .int x3]) (rest := []) (wc := (wX3 g q3 S3)) (bytes := cX3_tellCell) (maxL := 4) (ret := (some .int)) hC hl.1 (c_X3_tellCell l g N q3 S3 x1 x2 x3 v102 hc103) rfl gX7_state_X3_tellCell (by decide +kernel) rfl rfl ⟨Nat.le_of_ble_eq_true rfl, Nat.le_of_ble_eq_true rfl⟩ rfl rfl rfl (Nat.le_of_ble_eq_true rfl) ⟨Nat.le_of_ble_eq_true rfl, Nat.le_of_ble_eq_true rfl⟩ dX7_state_29 hP hD hS hA [2, 3, 4, 5, 6, 7] rfl (by decide +kernel) (fun H locs hP hD hS => ?_)
    obtain rfl := fx_i1 h
    exact Ci.ret hC hr hlk hA9 hP hD hS dX7_state_32
  · refine lv_iload hx hb dX7_state_14 (lv_at hl 0 rfl) ?_
    refine lv_goto (tgt := 32) hx hb dX7_state_16 (by decide) ?_
    obtain rfl := fx_i1 h
    exact Ci.ret hC hr hlk hA9 hP hD hS dX7_state_32
theorem uX7_spoilt_X2 : ∀ w ∈ u_ws RX2 TX2 5, w ∈ wsX7_spoilt := fun w h => List.mem_cons_of_mem _ (List.mem_append_left _ (List.mem_append_left _ (List.mem_append_left _ (List.mem_append_left _ (List.mem_append_right _ h)))))
theorem uX7_spoilt_X7 : ∀ w ∈ u_ws RX7 TX7 5, w ∈ wsX7_spoilt := fun w h => List.mem_cons_of_mem _ (List.mem_append_left _ (List.mem_append_left _ (List.mem_append_left _ (List.mem_append_left _ (List.mem_append_left _ (List.mem_append_right _ h))))))
abbrev RM_X7_spoilt : Room := { frames := 7, cells := 0, slots := 0, locals := 162 }
def f_X7_spoilt (N : Nat) (S3 : St) (S4 : St) (S5 : St) (S6 : St) (S7 : St) (S8 : St) (S9 : St) : Option (Int32 × St × St) :=
  fx_b3 (f_X7_playDay N S3 S4 S5 S6 S7 S8 S9) (fun v101 S102 S103 =>
  (if v101 = 0 then (
  some ((S102.1 4), S102, S103)) else (
  some (v101, S102, S103))))
set_option maxRecDepth 100000 in
set_option maxHeartbeats 4000000 in
theorem c_X7_spoilt (l : Launch) (g : GG) (N : Nat) (q1 : Nat → Nat) (q2 : Nat → Nat) (q3 : Nat → Nat) (q4 : Nat → Nat) (q5 : Nat → Nat) (q6 : Nat → Nat) (q7 : Nat → Nat) (q8 : Nat → Nat) (q9 : Nat → Nat) (S3 : St) (S4 : St) (S5 : St) (S6 : St) (S7 : St) (S8 : St) (S9 : St) (r : Int32) (F7 : St) (F8 : St) (h : f_X7_spoilt N S3 S4 S5 S6 S7 S8 S9 = some (r, F7, F8)) : Ci l yX7_spoilt wsX7_spoilt RM_X7_spoilt g [.ref (q1 100)] (wX7 g q1 q2 q6 q7 q9 ++ (wX0 g q2 q3 q4 q5 ++ (wX3 g q3 S3 ++ (wX6 g q4 S4 ++ (wX5 g q5 S5 ++ (wX4 g q6 S6 ++ (wX2 g q7 q8 S7 ++ (wX3 g q8 S8 ++ (wX1 g q9 S9))))))))) (wX7 g q1 q2 q6 q7 q9 ++ (wX0 g q2 q3 q4 q5 ++ (wX3 g q3 S3 ++ (wX6 g q4 S4 ++ (wX5 g q5 S5 ++ (wX4 g q6 S6 ++ (wX2 g q7 q8 F7 ++ (wX3 g q8 F8 ++ (wX1 g q9 S9))))))))) r := by
  intro sz
  refine Met.ofC (cc := cX7_spoilt) (maxL := 2) (ret := (some .int)) (by decide) rfl (Nat.le_of_ble_eq_true rfl) ?_
  intro p e s m below meth c hC hr hlk hsz A hA9 hA hP hD hS ls hl
  subst hsz
  have hC : Cx p s m ([.ref (q1 100)] : List Value).toArray c RX7 cX7_spoilt 2 wsX7_spoilt g := hC
  have hx := hC.1.1
  have hb := hC.1.2.1
  have hml := hC.1.2.2.1
  have hown := hC.1.2.2.2.1
  have hts := hC.1.2.2.2.2
  have hl : lv_has ls 2 [(0, .ref (q1 100))] := hl
  show W p l e RM_X7_spoilt s m ([.ref (q1 100)] : List Value).toArray below meth c s.heap [] 0 0 (Qi below g [.ref (q1 100)] (wX7 g q1 q2 q6 q7 q9 ++ (wX0 g q2 q3 q4 q5 ++ (wX3 g q3 S3 ++ (wX6 g q4 S4 ++ (wX5 g q5 S5 ++ (wX4 g q6 S6 ++ (wX2 g q7 q8 S7 ++ (wX3 g q8 S8 ++ (wX1 g q9 S9))))))))) (wX7 g q1 q2 q6 q7 q9 ++ (wX0 g q2 q3 q4 q5 ++ (wX3 g q3 S3 ++ (wX6 g q4 S4 ++ (wX5 g q5 S5 ++ (wX4 g q6 S6 ++ (wX2 g q7 q8 F7 ++ (wX3 g q8 F8 ++ (wX1 g q9 S9))))))))) r s) (F0 m 0 ls [])
  unfold f_X7_spoilt at h
  refine lv_aload_n hx hb dX7_spoilt_0 rfl (lv_at hl 0 rfl) ?_
  obtain ⟨v101, S102, S103, hc104, h⟩ := fx_b3_s h
  refine k_callVi (C := RX7) (ci := 7) (qr := 0) (n := 0) (As := []) (rest := []) (wc := (wX7 g q1 q2 q6 q7 q9 ++ (wX0 g q2 q3 q4 q5 ++ (wX3 g q3 S3 ++ (wX6 g q4 S4 ++ (wX5 g q5 S5 ++ (wX4 g q6 S6 ++ (wX2 g q7 q8 S7 ++ (wX3 g q8 S8 ++ (wX1 g q9 S9)))))))))) (w1 := (wX7 g q1 q2 q6 q7 q9 ++ (wX0 g q2 q3 q4 q5 ++ (wX3 g q3 S3 ++ (wX6 g q4 S4 ++ (wX5 g q5 S5 ++ (wX4 g q6 S6 ++ (wX2 g q7 q8 S102 ++ (wX3 g q8 S103 ++ (wX1 g q9 S9)))))))))) (ws2 := (wX7 g q1 q2 q6 q7 q9 ++ (wX0 g q2 q3 q4 q5 ++ (wX3 g q3 S3 ++ (wX6 g q4 S4 ++ (wX5 g q5 S5 ++ (wX4 g q6 S6 ++ (wX2 g q7 q8 S102 ++ (wX3 g q8 S103 ++ (wX1 g q9 S9)))))))))) (bytes := cX7_playDay) (maxL := 1) (ret := (some .int)) hC hl.1 (c_X7_playDay l g N q1 q2 q3 q4 q5 q6 q7 q8 q9 S3 S4 S5 S6 S7 S8 S9 v101 S102 S103 hc104) rfl gX7_spoilt_X7_playDay (by decide +kernel) rfl rfl ⟨Nat.le_of_ble_eq_true rfl, Nat.le_of_ble_eq_true rfl⟩ rfl rfl rfl (Nat.le_of_ble_eq_true rfl) ⟨Nat.le_of_ble_eq_true rfl, Nat.le_of_ble_eq_true rfl⟩ dX7_spoilt_1 hP hD hS hA [0, 1, 2, 3, 4, 5, 6, 7, 8, 9, 10, 11, 12, 13, 14, 15, 16, 17, 18, 19, 20, 21, 22, 23, 24, 25, 26, 27, 28, 29, 30, 31] rfl (by decide +kernel) [q1 100, q2 100, q3 100, q3 6, q3 7, q3 8, q3 9, q3 10, q4 100, q4 1, q4 2, q4 3, q4 4, q5 100, q5 1, q6 100, q6 1, q7 100, q8 100, q8 6, q8 7, q8 8, q8 9, q8 10, q9 100, q9 1, q9 2, q9 3, q9 4, q9 8, q9 9, q9 10] rfl rfl rfl [] ([] : va_W) rfl rfl (n2 := 32) rfl (by decide +kernel) (fun H locs hP hD hS => ?_)
  refine lv_istore_n (lv' := [(1, .int v101), (0, .ref (q1 100))]) hx hb dX7_spoilt_4 rfl hl (by decide) rfl (fun ls hl => ?_)
  refine lv_iload_n hx hb dX7_spoilt_5 rfl (lv_at hl 0 rfl) ?_
  refine k_if_eq (tgt := 13) hC dX7_spoilt_6 (by decide) h (fun h => ?_) (fun h => ?_)
  · refine lv_aload_n hx hb dX7_spoilt_13 rfl (lv_at hl 1 rfl) ?_
    refine k_get (ci := 7) (k := 3) (q0 := 0) (v := .ref (q7 100)) (C := RX7) (T := TX7) (N := 5) hC uX7_spoilt_X7 hP rfl rfl (by decide) (List.mem_of_getElem? (i := 1) rfl) rfl dX7_spoilt_14 ?_
    refine k_get (ci := 2) (k := 4) (q0 := 17) (v := .int (S102.1 4)) (C := RX2) (T := TX2) (N := 5) hC uX7_spoilt_X2 hP rfl rfl (by decide) (List.mem_of_getElem? (i := 2) rfl) rfl dX7_spoilt_17 ?_
    obtain ⟨rfl, rfl, rfl⟩ := fx_i3 h
    exact Ci.ret hC hr hlk hA9 hP hD hS dX7_spoilt_20
  · refine lv_iload_n hx hb dX7_spoilt_9 rfl (lv_at hl 0 rfl) ?_
    refine lv_goto (tgt := 20) hx hb dX7_spoilt_10 (by decide) ?_
    obtain ⟨rfl, rfl, rfl⟩ := fx_i3 h
    exact Ci.ret hC hr hlk hA9 hP hD hS dX7_spoilt_20
theorem uX7_ripe_X0 : ∀ w ∈ u_ws RX0 TX0 3, w ∈ wsX7_ripe := fun w h => List.mem_cons_of_mem _ (List.mem_append_left _ (List.mem_append_left _ (List.mem_append_right _ h)))
theorem uX7_ripe_X3 : ∀ w ∈ u_ws RX3 TX3 11, w ∈ wsX7_ripe := fun w h => List.mem_cons_of_mem _ (List.mem_append_left _ (List.mem_append_right _ h))
theorem uX7_ripe_X6 : ∀ w ∈ u_ws RX6 TX6 5, w ∈ wsX7_ripe := fun w h => List.mem_cons_of_mem _ (List.mem_append_right _ h)
theorem uX7_ripe_X7 : ∀ w ∈ u_ws RX7 TX7 5, w ∈ wsX7_ripe := fun w h => List.mem_cons_of_mem _ (List.mem_append_left _ (List.mem_append_left _ (List.mem_append_left _ (List.mem_append_right _ h))))
abbrev RM_X7_ripe : Room := { frames := 3, cells := 0, slots := 0, locals := 63 }
def f_X7_ripe (N : Nat) (S3 : St) (S4 : St) (S5 : St) (S6 : St) (S7 : St) (S8 : St) (S9 : St) (x1 : Int32) (x2 : Int32) (x3 : Int32) : Option (Int32) :=
  fx_b1 (f_X6_has N S4 x1) (fun v101 =>
  (if v101 = 0 then (
  some (-1 : Int32)) else (
  fx_b1 (f_X3_hasPlace N S3 x2) (fun v102 =>
    (if v102 = 0 then (
    some (-1 : Int32)) else (
    fx_b1 (f_X7_within N x3 (0 : Int32) (1 : Int32)) (fun v103 =>
      (if v103 = 0 then (
      some (-2 : Int32)) else (
      fx_b1 (f_X3_rateAt N S3 x2) (fun v104 =>
        fx_ald 6 (S4.2 1) x1 (fun v105 =>
        fx_b1 (f_X7_firstMinute N v104 (S3.1 3) v105) (fun v106 =>
        fx_b1 (f_X6_burntFrom N S4 x1) (fun v107 =>
        fx_b1 (f_X7_firstMinute N v104 (S3.1 3) v107) (fun v108 =>
        (if v106 < v108 then (
        (if x3 = 0 then (
          some v106) else (
          some (v108 - (1 : Int32))))) else (
        some (-6 : Int32)))))))))))))))))
set_option maxRecDepth 100000 in
set_option maxHeartbeats 4000000 in
theorem c_X7_ripe (l : Launch) (g : GG) (N : Nat) (q1 : Nat → Nat) (q2 : Nat → Nat) (q3 : Nat → Nat) (q4 : Nat → Nat) (q5 : Nat → Nat) (q6 : Nat → Nat) (q7 : Nat → Nat) (q8 : Nat → Nat) (q9 : Nat → Nat) (S3 : St) (S4 : St) (S5 : St) (S6 : St) (S7 : St) (S8 : St) (S9 : St) (x1 : Int32) (x2 : Int32) (x3 : Int32) (r : Int32) (h : f_X7_ripe N S3 S4 S5 S6 S7 S8 S9 x1 x2 x3 = some r) : Ci l yX7_ripe wsX7_ripe RM_X7_ripe g [.ref (q1 100), .int x1, .int x2, .int x3] (wX7 g q1 q2 q6 q7 q9 ++ (wX0 g q2 q3 q4 q5 ++ (wX3 g q3 S3 ++ (wX6 g q4 S4 ++ (wX5 g q5 S5 ++ (wX4 g q6 S6 ++ (wX2 g q7 q8 S7 ++ (wX3 g q8 S8 ++ (wX1 g q9 S9))))))))) (wX7 g q1 q2 q6 q7 q9 ++ (wX0 g q2 q3 q4 q5 ++ (wX3 g q3 S3 ++ (wX6 g q4 S4 ++ (wX5 g q5 S5 ++ (wX4 g q6 S6 ++ (wX2 g q7 q8 S7 ++ (wX3 g q8 S8 ++ (wX1 g q9 S9))))))))) r := by
  intro sz
  refine Met.ofC (cc := cX7_ripe) (maxL := 7) (ret := (some .int)) (by decide) rfl (Nat.le_of_ble_eq_true rfl) ?_
  intro p e s m below meth c hC hr hlk hsz A hA9 hA hP hD hS ls hl
  subst hsz
  have hC : Cx p s m ([.ref (q1 100), .int x1, .int x2, .int x3] : List Value).toArray c RX7 cX7_ripe 7 wsX7_ripe g := hC
  have hx := hC.1.1
  have hb := hC.1.2.1
  have hml := hC.1.2.2.1
  have hown := hC.1.2.2.2.1
  have hts := hC.1.2.2.2.2
  have hl : lv_has ls 7 [(0, .ref (q1 100)), (1, .int x1), (2, .int x2), (3, .int x3)] := hl
  show W p l e RM_X7_ripe s m ([.ref (q1 100), .int x1, .int x2, .int x3] : List Value).toArray below meth c s.heap [] 0 0 (Qi below g [.ref (q1 100), .int x1, .int x2, .int x3] (wX7 g q1 q2 q6 q7 q9 ++ (wX0 g q2 q3 q4 q5 ++ (wX3 g q3 S3 ++ (wX6 g q4 S4 ++ (wX5 g q5 S5 ++ (wX4 g q6 S6 ++ (wX2 g q7 q8 S7 ++ (wX3 g q8 S8 ++ (wX1 g q9 S9))))))))) (wX7 g q1 q2 q6 q7 q9 ++ (wX0 g q2 q3 q4 q5 ++ (wX3 g q3 S3 ++ (wX6 g q4 S4 ++ (wX5 g q5 S5 ++ (wX4 g q6 S6 ++ (wX2 g q7 q8 S7 ++ (wX3 g q8 S8 ++ (wX1 g q9 S9))))))))) r s) (F0 m 0 ls [])
  unfold f_X7_ripe at h
  refine lv_aload_n hx hb dX7_ripe_0 rfl (lv_at hl 0 rfl) ?_
  refine k_get (ci := 7) (k := 0) (q0 := 0) (v := .ref (q2 100)) (C := RX7) (T := TX7) (N := 5) hC uX7_ripe_X7 hP rfl rfl (by decide) (List.mem_of_getElem? (i := 1) rfl) rfl dX7_ripe_1 ?_
  refine k_get (ci := 0) (k := 1) (q0 := 1) (v := .ref (q4 100)) (C := RX0) (T := TX0) (N := 3) hC uX7_ripe_X0 hP rfl rfl (by decide) (List.mem_of_getElem? (i := 2) rfl) rfl dX7_ripe_4 ?_
  refine lv_iload_n hx hb dX7_ripe_7 rfl (lv_at hl 1 rfl) ?_
  obtain ⟨v101, hc115, h⟩ := fx_b1_s h
  refine k_callVi0 (C := RX6) (ci := 6) (qr := 0) (n := 1) (As := [.int x1]) (rest := []) (wc := (wX6 g q4 S4)) (bytes := cX6_has) (maxL := 2) (ret := (some .boolean)) hC hl.1 (c_X6_has l g N q4 S4 x1 v101 hc115) rfl gX7_ripe_X6_has (by decide +kernel) rfl rfl ⟨Nat.le_of_ble_eq_true rfl, Nat.le_of_ble_eq_true rfl⟩ rfl rfl rfl (Nat.le_of_ble_eq_true rfl) ⟨Nat.le_of_ble_eq_true rfl, Nat.le_of_ble_eq_true rfl⟩ dX7_ripe_8 hP hD hS hA [8, 9, 10, 11, 12] rfl (by decide +kernel) (fun H locs hP hD hS => ?_)
  refine k_if_eq (tgt := 28) hC dX7_ripe_11 (by decide) h (fun h => ?_) (fun h => ?_)
  · refine lv_iconst (v := (-1 : Int32)) hx hb dX7_ripe_28 (by decide) ?_
    obtain rfl := fx_i1 h
    exact Ci.ret hC hr hlk hA9 hP hD hS dX7_ripe_29
  · refine lv_aload_n hx hb dX7_ripe_14 rfl (lv_at hl 0 rfl) ?_
    refine k_get (ci := 7) (k := 0) (q0 := 0) (v := .ref (q2 100)) (C := RX7) (T := TX7) (N := 5) hC uX7_ripe_X7 hP rfl rfl (by decide) (List.mem_of_getElem? (i := 1) rfl) rfl dX7_ripe_15 ?_
    refine k_get (ci := 0) (k := 0) (q0 := 1) (v := .ref (q3 100)) (C := RX0) (T := TX0) (N := 3) hC uX7_ripe_X0 hP rfl rfl (by decide) (List.mem_of_getElem? (i := 3) rfl) rfl dX7_ripe_18 ?_
    refine lv_iload_n hx hb dX7_ripe_21 rfl (lv_at hl 2 rfl) ?_
    obtain ⟨v102, hc114, h⟩ := fx_b1_s h
    refine k_callVi0 (C := RX3) (ci := 3) (qr := 0) (n := 1) (As := [.int x2]) (rest := []) (wc := (wX3 g q3 S3)) (bytes := cX3_hasPlace) (maxL := 2) (ret := (some .boolean)) hC hl.1 (c_X3_hasPlace l g N q3 S3 x2 v102 hc114) rfl gX7_ripe_X3_hasPlace (by decide +kernel) rfl rfl ⟨Nat.le_of_ble_eq_true rfl, Nat.le_of_ble_eq_true rfl⟩ rfl rfl rfl (Nat.le_of_ble_eq_true rfl) ⟨Nat.le_of_ble_eq_true rfl, Nat.le_of_ble_eq_true rfl⟩ dX7_ripe_22 hP hD hS hA [2, 3, 4, 5, 6, 7] rfl (by decide +kernel) (fun H locs hP hD hS => ?_)
    refine k_if_ne (tgt := 30) hC dX7_ripe_25 (by decide) h (fun h => ?_) (fun h => ?_)
    · refine lv_iload_n hx hb dX7_ripe_30 rfl (lv_at hl 3 rfl) ?_
      refine lv_iconst (v := (0 : Int32)) hx hb dX7_ripe_31 (by decide) ?_
      refine lv_iconst (v := (1 : Int32)) hx hb dX7_ripe_32 (by decide) ?_
      obtain ⟨v103, hc113, h⟩ := fx_b1_s h
      refine k_callSi0 (n := 3) (As := [.int x3, .int (0 : Int32), .int (1 : Int32)]) (rest := []) (wc := ([] : va_W)) (bytes := cX7_within) (maxL := 3) (ret := (some .boolean)) hC hl.1 (c_X7_within l g N x3 (0 : Int32) (1 : Int32) v103 hc113) rfl gX7_ripe_X7_within (by decide +kernel) ⟨Nat.le_of_ble_eq_true rfl, Nat.le_of_ble_eq_true rfl⟩ rfl rfl rfl (Nat.le_of_ble_eq_true rfl) ⟨Nat.le_of_ble_eq_true rfl, Nat.le_of_ble_eq_true rfl⟩ dX7_ripe_33 hP hD hS hA [] rfl (by decide +kernel) (fun H locs hP hD hS => ?_)
      refine k_if_ne (tgt := 42) hC dX7_ripe_36 (by decide) h (fun h => ?_) (fun h => ?_)
      · refine lv_aload_n hx hb dX7_ripe_42 rfl (lv_at hl 0 rfl) ?_
        refine k_get (ci := 7) (k := 0) (q0 := 0) (v := .ref (q2 100)) (C := RX7) (T := TX7) (N := 5) hC uX7_ripe_X7 hP rfl rfl (by decide) (List.mem_of_getElem? (i := 1) rfl) rfl dX7_ripe_43 ?_
        refine k_get (ci := 0) (k := 0) (q0 := 1) (v := .ref (q3 100)) (C := RX0) (T := TX0) (N := 3) hC uX7_ripe_X0 hP rfl rfl (by decide) (List.mem_of_getElem? (i := 3) rfl) rfl dX7_ripe_46 ?_
        refine lv_iload_n hx hb dX7_ripe_49 rfl (lv_at hl 2 rfl) ?_
        obtain ⟨v104, hc112, h⟩ := fx_b1_s h
        refine k_callVi0 (C := RX3) (ci := 3) (qr := 0) (n := 1) (As := [.int x2]) (rest := []) (wc := (wX3 g q3 S3)) (bytes := cX3_rateAt) (maxL := 2) (ret := (some .int)) hC hl.1 (c_X3_rateAt l g N q3 S3 x2 v104 hc112) rfl gX7_ripe_X3_rateAt (by decide +kernel) rfl rfl ⟨Nat.le_of_ble_eq_true rfl, Nat.le_of_ble_eq_true rfl⟩ rfl rfl rfl (Nat.le_of_ble_eq_true rfl) ⟨Nat.le_of_ble_eq_true rfl, Nat.le_of_ble_eq_true rfl⟩ dX7_ripe_50 hP hD hS hA [2, 3, 4, 5, 6, 7] rfl (by decide +kernel) (fun H locs hP hD hS => ?_)
        refine lv_istore (lv' := [(4, .int v104), (0, .ref (q1 100)), (1, .int x1), (2, .int x2), (3, .int x3)]) hx hb dX7_ripe_53 hl (by decide) rfl (fun ls hl => ?_)
        refine lv_iload hx hb dX7_ripe_55 (lv_at hl 0 rfl) ?_
        refine lv_aload_n hx hb dX7_ripe_57 rfl (lv_at hl 1 rfl) ?_
        refine k_get (ci := 7) (k := 0) (q0 := 0) (v := .ref (q2 100)) (C := RX7) (T := TX7) (N := 5) hC uX7_ripe_X7 hP rfl rfl (by decide) (List.mem_of_getElem? (i := 1) rfl) rfl dX7_ripe_58 ?_
        refine k_get (ci := 0) (k := 0) (q0 := 1) (v := .ref (q3 100)) (C := RX0) (T := TX0) (N := 3) hC uX7_ripe_X0 hP rfl rfl (by decide) (List.mem_of_getElem? (i := 3) rfl) rfl dX7_ripe_61 ?_
        refine k_get (ci := 3) (k := 3) (q0 := 2) (v := .int (S3.1 3)) (C := RX3) (T := TX3) (N := 11) hC uX7_ripe_X3 hP rfl rfl (by decide) (List.mem_of_getElem? (i := 4) rfl) rfl dX7_ripe_64 ?_
        refine lv_aload_n hx hb dX7_ripe_67 rfl (lv_at hl 1 rfl) ?_
        refine k_get (ci := 7) (k := 0) (q0 := 0) (v := .ref (q2 100)) (C := RX7) (T := TX7) (N := 5) hC uX7_ripe_X7 hP rfl rfl (by decide) (List.mem_of_getElem? (i := 1) rfl) rfl dX7_ripe_68 ?_
        refine k_get (ci := 0) (k := 1) (q0 := 1) (v := .ref (q4 100)) (C := RX0) (T := TX0) (N := 3) hC uX7_ripe_X0 hP rfl rfl (by decide) (List.mem_of_getElem? (i := 2) rfl) rfl dX7_ripe_71 ?_
        refine k_get (ci := 6) (k := 1) (q0 := 8) (v := .ref (q4 1)) (C := RX6) (T := TX6) (N := 5) hC uX7_ripe_X6 hP rfl rfl (by decide) (List.mem_of_getElem? (i := 5) rfl) rfl dX7_ripe_74 ?_
        refine lv_iload_n hx hb dX7_ripe_77 rfl (lv_at hl 2 rfl) ?_
        refine k_ald (q0 := 9) (n := 6) (F := S4.2 1) hC hP rfl dX7_ripe_78 h (fun v105 h => ?_)
        obtain ⟨v106, hc111, h⟩ := fx_b1_s h
        refine k_callSi0 (n := 3) (As := [.int v104, .int (S3.1 3), .int v105]) (rest := []) (wc := ([] : va_W)) (bytes := cX7_firstMinute) (maxL := 6) (ret := (some .int)) hC hl.1 (c_X7_firstMinute l g N v104 (S3.1 3) v105 v106 hc111) rfl gX7_ripe_X7_firstMinute (by decide +kernel) ⟨Nat.le_of_ble_eq_true rfl, Nat.le_of_ble_eq_true rfl⟩ rfl rfl rfl (Nat.le_of_ble_eq_true rfl) ⟨Nat.le_of_ble_eq_true rfl, Nat.le_of_ble_eq_true rfl⟩ dX7_ripe_79 hP hD hS hA [] rfl (by decide +kernel) (fun H locs hP hD hS => ?_)
        refine lv_istore (lv' := [(5, .int v106), (4, .int v104), (0, .ref (q1 100)), (1, .int x1), (2, .int x2), (3, .int x3)]) hx hb dX7_ripe_82 hl (by decide) rfl (fun ls hl => ?_)
        refine lv_iload hx hb dX7_ripe_84 (lv_at hl 1 rfl) ?_
        refine lv_aload_n hx hb dX7_ripe_86 rfl (lv_at hl 2 rfl) ?_
        refine k_get (ci := 7) (k := 0) (q0 := 0) (v := .ref (q2 100)) (C := RX7) (T := TX7) (N := 5) hC uX7_ripe_X7 hP rfl rfl (by decide) (List.mem_of_getElem? (i := 1) rfl) rfl dX7_ripe_87 ?_
        refine k_get (ci := 0) (k := 0) (q0 := 1) (v := .ref (q3 100)) (C := RX0) (T := TX0) (N := 3) hC uX7_ripe_X0 hP rfl rfl (by decide) (List.mem_of_getElem? (i := 3) rfl) rfl dX7_ripe_90 ?_
        refine k_get (ci := 3) (k := 3) (q0 := 2) (v := .int (S3.1 3)) (C := RX3) (T := TX3) (N := 11) hC uX7_ripe_X3 hP rfl rfl (by decide) (List.mem_of_getElem? (i := 4) rfl) rfl dX7_ripe_93 ?_
        refine lv_aload_n hx hb dX7_ripe_96 rfl (lv_at hl 2 rfl) ?_
        refine k_get (ci := 7) (k := 0) (q0 := 0) (v := .ref (q2 100)) (C := RX7) (T := TX7) (N := 5) hC uX7_ripe_X7 hP rfl rfl (by decide) (List.mem_of_getElem? (i := 1) rfl) rfl dX7_ripe_97 ?_
        refine k_get (ci := 0) (k := 1) (q0 := 1) (v := .ref (q4 100)) (C := RX0) (T := TX0) (N := 3) hC uX7_ripe_X0 hP rfl rfl (by decide) (List.mem_of_getElem? (i := 2) rfl) rfl dX7_ripe_100 ?_
        refine lv_iload_n hx hb dX7_ripe_103 rfl (lv_at hl 3 rfl) ?_
        obtain ⟨v107, hc110, h⟩ := fx_b1_s h
        refine k_callVi0 (C := RX6) (ci := 6) (qr := 0) (n := 1) (As := [.int x1]) (rest := [.int (S3.1 3), .int v104]) (wc := (wX6 g q4 S4)) (bytes := cX6_burntFrom) (maxL := 2) (ret := (some .int)) hC hl.1 (c_X6_burntFrom l g N q4 S4 x1 v107 hc110) rfl gX7_ripe_X6_burntFrom (by decide +kernel) rfl rfl ⟨Nat.le_of_ble_eq_true rfl, Nat.le_of_ble_eq_true rfl⟩ rfl rfl rfl (Nat.le_of_ble_eq_true rfl) ⟨Nat.le_of_ble_eq_true rfl, Nat.le_of_ble_eq_true rfl⟩ dX7_ripe_104 hP hD hS hA [8, 9, 10, 11, 12] rfl (by decide +kernel) (fun H locs hP hD hS => ?_)
        obtain ⟨v108, hc109, h⟩ := fx_b1_s h
        refine k_callSi0 (n := 3) (As := [.int v104, .int (S3.1 3), .int v107]) (rest := []) (wc := ([] : va_W)) (bytes := cX7_firstMinute) (maxL := 6) (ret := (some .int)) hC hl.1 (c_X7_firstMinute l g N v104 (S3.1 3) v107 v108 hc109) rfl gX7_ripe_X7_firstMinute (by decide +kernel) ⟨Nat.le_of_ble_eq_true rfl, Nat.le_of_ble_eq_true rfl⟩ rfl rfl rfl (Nat.le_of_ble_eq_true rfl) ⟨Nat.le_of_ble_eq_true rfl, Nat.le_of_ble_eq_true rfl⟩ dX7_ripe_107 hP hD hS hA [] rfl (by decide +kernel) (fun H locs hP hD hS => ?_)
        refine lv_istore (lv' := [(6, .int v108), (5, .int v106), (4, .int v104), (0, .ref (q1 100)), (1, .int x1), (2, .int x2), (3, .int x3)]) hx hb dX7_ripe_110 hl (by decide) rfl (fun ls hl => ?_)
        refine lv_iload hx hb dX7_ripe_112 (lv_at hl 1 rfl) ?_
        refine lv_iload hx hb dX7_ripe_114 (lv_at hl 0 rfl) ?_
        refine k_icmp_lt (tgt := 122) hC dX7_ripe_116 (by decide) h (fun h => ?_) (fun h => ?_)
        · refine lv_iload_n hx hb dX7_ripe_122 rfl (lv_at hl 6 rfl) ?_
          refine k_if_ne (tgt := 131) hC dX7_ripe_123 (by decide) h (fun h => ?_) (fun h => ?_)
          · refine lv_iload hx hb dX7_ripe_131 (lv_at hl 0 rfl) ?_
            refine lv_iconst (v := (1 : Int32)) hx hb dX7_ripe_133 (by decide) ?_
            refine lv_isub hx hb dX7_ripe_134 ?_
            obtain rfl := fx_i1 h
            exact Ci.ret hC hr hlk hA9 hP hD hS dX7_ripe_135
          · refine lv_iload hx hb dX7_ripe_126 (lv_at hl 1 rfl) ?_
            refine lv_goto (tgt := 135) hx hb dX7_ripe_128 (by decide) ?_
            obtain rfl := fx_i1 h
            exact Ci.ret hC hr hlk hA9 hP hD hS dX7_ripe_135
        · refine lv_bipush (v := (-6 : Int32)) hx hb dX7_ripe_119 (by decide) ?_
          obtain rfl := fx_i1 h
          exact Ci.ret hC hr hlk hA9 hP hD hS dX7_ripe_121
      · refine lv_bipush (v := (-2 : Int32)) hx hb dX7_ripe_39 (by decide) ?_
        obtain rfl := fx_i1 h
        exact Ci.ret hC hr hlk hA9 hP hD hS dX7_ripe_41
    · refine lv_iconst (v := (-1 : Int32)) hx hb dX7_ripe_28 (by decide) ?_
      obtain rfl := fx_i1 h
      exact Ci.ret hC hr hlk hA9 hP hD hS dX7_ripe_29
theorem uX7_hot_X0 : ∀ w ∈ u_ws RX0 TX0 3, w ∈ wsX7_hot := fun w h => List.mem_cons_of_mem _ (List.mem_append_left _ (List.mem_append_right _ h))
theorem uX7_hot_X3 : ∀ w ∈ u_ws RX3 TX3 11, w ∈ wsX7_hot := fun w h => List.mem_cons_of_mem _ (List.mem_append_right _ h)
theorem uX7_hot_X7 : ∀ w ∈ u_ws RX7 TX7 5, w ∈ wsX7_hot := fun w h => List.mem_cons_of_mem _ (List.mem_append_left _ (List.mem_append_left _ (List.mem_append_right _ h)))
abbrev RM_X7_hot : Room := { frames := 1, cells := 0, slots := 0, locals := 22 }
def f_X7_hot (N : Nat) (S3 : St) (S4 : St) (S5 : St) (S6 : St) (S7 : St) (S8 : St) (S9 : St) (x1 : Int32) : Option (Int32) :=
  fx_b1 (f_X7_within N x1 (0 : Int32) (99 : Int32)) (fun v101 =>
  (if v101 = 0 then (
  some (-2 : Int32)) else (
  fx_lt ((S3.1 2) - x1) (fun x102 =>
    (if 0 ≤ x102 then (
    (if x1 = 0 then (
      some (-6 : Int32)) else (
      (if 0 < (S3.1 3) then (
        fx_nz (S3.1 3) (
          some ((x102 / (S3.1 3)) + (1 : Int32)))) else (
        some (-6 : Int32)))))) else (
    some (0 : Int32)))))))
set_option maxRecDepth 100000 in
set_option maxHeartbeats 4000000 in
theorem c_X7_hot (l : Launch) (g : GG) (N : Nat) (q1 : Nat → Nat) (q2 : Nat → Nat) (q3 : Nat → Nat) (q4 : Nat → Nat) (q5 : Nat → Nat) (q6 : Nat → Nat) (q7 : Nat → Nat) (q8 : Nat → Nat) (q9 : Nat → Nat) (S3 : St) (S4 : St) (S5 : St) (S6 : St) (S7 : St) (S8 : St) (S9 : St) (x1 : Int32) (r : Int32) (h : f_X7_hot N S3 S4 S5 S6 S7 S8 S9 x1 = some r) : Ci l yX7_hot wsX7_hot RM_X7_hot g [.ref (q1 100), .int x1] (wX7 g q1 q2 q6 q7 q9 ++ (wX0 g q2 q3 q4 q5 ++ (wX3 g q3 S3 ++ (wX6 g q4 S4 ++ (wX5 g q5 S5 ++ (wX4 g q6 S6 ++ (wX2 g q7 q8 S7 ++ (wX3 g q8 S8 ++ (wX1 g q9 S9))))))))) (wX7 g q1 q2 q6 q7 q9 ++ (wX0 g q2 q3 q4 q5 ++ (wX3 g q3 S3 ++ (wX6 g q4 S4 ++ (wX5 g q5 S5 ++ (wX4 g q6 S6 ++ (wX2 g q7 q8 S7 ++ (wX3 g q8 S8 ++ (wX1 g q9 S9))))))))) r := by
  intro sz
  refine Met.ofC (cc := cX7_hot) (maxL := 4) (ret := (some .int)) (by decide) rfl (Nat.le_of_ble_eq_true rfl) ?_
  intro p e s m below meth c hC hr hlk hsz A hA9 hA hP hD hS ls hl
  subst hsz
  have hC : Cx p s m ([.ref (q1 100), .int x1] : List Value).toArray c RX7 cX7_hot 4 wsX7_hot g := hC
  have hx := hC.1.1
  have hb := hC.1.2.1
  have hml := hC.1.2.2.1
  have hown := hC.1.2.2.2.1
  have hts := hC.1.2.2.2.2
  have hl : lv_has ls 4 [(0, .ref (q1 100)), (1, .int x1)] := hl
  show W p l e RM_X7_hot s m ([.ref (q1 100), .int x1] : List Value).toArray below meth c s.heap [] 0 0 (Qi below g [.ref (q1 100), .int x1] (wX7 g q1 q2 q6 q7 q9 ++ (wX0 g q2 q3 q4 q5 ++ (wX3 g q3 S3 ++ (wX6 g q4 S4 ++ (wX5 g q5 S5 ++ (wX4 g q6 S6 ++ (wX2 g q7 q8 S7 ++ (wX3 g q8 S8 ++ (wX1 g q9 S9))))))))) (wX7 g q1 q2 q6 q7 q9 ++ (wX0 g q2 q3 q4 q5 ++ (wX3 g q3 S3 ++ (wX6 g q4 S4 ++ (wX5 g q5 S5 ++ (wX4 g q6 S6 ++ (wX2 g q7 q8 S7 ++ (wX3 g q8 S8 ++ (wX1 g q9 S9))))))))) r s) (F0 m 0 ls [])
  unfold f_X7_hot at h
  refine lv_iload_n hx hb dX7_hot_0 rfl (lv_at hl 1 rfl) ?_
  refine lv_iconst (v := (0 : Int32)) hx hb dX7_hot_1 (by decide) ?_
  refine lv_bipush (v := (99 : Int32)) hx hb dX7_hot_2 (by decide) ?_
  obtain ⟨v101, hc103, h⟩ := fx_b1_s h
  refine k_callSi0 (n := 3) (As := [.int x1, .int (0 : Int32), .int (99 : Int32)]) (rest := []) (wc := ([] : va_W)) (bytes := cX7_within) (maxL := 3) (ret := (some .boolean)) hC hl.1 (c_X7_within l g N x1 (0 : Int32) (99 : Int32) v101 hc103) rfl gX7_hot_X7_within (by decide +kernel) ⟨Nat.le_of_ble_eq_true rfl, Nat.le_of_ble_eq_true rfl⟩ rfl rfl rfl (Nat.le_of_ble_eq_true rfl) ⟨Nat.le_of_ble_eq_true rfl, Nat.le_of_ble_eq_true rfl⟩ dX7_hot_4 hP hD hS hA [] rfl (by decide +kernel) (fun H locs hP hD hS => ?_)
  refine k_if_ne (tgt := 13) hC dX7_hot_7 (by decide) h (fun h => ?_) (fun h => ?_)
  · refine lv_aload_n hx hb dX7_hot_13 rfl (lv_at hl 0 rfl) ?_
    refine k_get (ci := 7) (k := 0) (q0 := 0) (v := .ref (q2 100)) (C := RX7) (T := TX7) (N := 5) hC uX7_hot_X7 hP rfl rfl (by decide) (List.mem_of_getElem? (i := 1) rfl) rfl dX7_hot_14 ?_
    refine k_get (ci := 0) (k := 0) (q0 := 1) (v := .ref (q3 100)) (C := RX0) (T := TX0) (N := 3) hC uX7_hot_X0 hP rfl rfl (by decide) (List.mem_of_getElem? (i := 2) rfl) rfl dX7_hot_17 ?_
    refine k_get (ci := 3) (k := 2) (q0 := 2) (v := .int (S3.1 2)) (C := RX3) (T := TX3) (N := 11) hC uX7_hot_X3 hP rfl rfl (by decide) (List.mem_of_getElem? (i := 3) rfl) rfl dX7_hot_20 ?_
    refine lv_iload_n hx hb dX7_hot_23 rfl (lv_at hl 1 rfl) ?_
    refine lv_isub hx hb dX7_hot_24 ?_
    refine k_topi h (fun x102 h => ?_)
    refine lv_istore_n (lv' := [(2, .int x102), (0, .ref (q1 100)), (1, .int x1)]) hx hb dX7_hot_25 rfl hl (by decide) rfl (fun ls hl => ?_)
    refine lv_iload_n hx hb dX7_hot_26 rfl (lv_at hl 0 rfl) ?_
    refine k_if_ge (tgt := 32) hC dX7_hot_27 (by decide) h (fun h => ?_) (fun h => ?_)
    · refine lv_aload_n hx hb dX7_hot_32 rfl (lv_at hl 1 rfl) ?_
      refine k_get (ci := 7) (k := 0) (q0 := 0) (v := .ref (q2 100)) (C := RX7) (T := TX7) (N := 5) hC uX7_hot_X7 hP rfl rfl (by decide) (List.mem_of_getElem? (i := 1) rfl) rfl dX7_hot_33 ?_
      refine k_get (ci := 0) (k := 0) (q0 := 1) (v := .ref (q3 100)) (C := RX0) (T := TX0) (N := 3) hC uX7_hot_X0 hP rfl rfl (by decide) (List.mem_of_getElem? (i := 2) rfl) rfl dX7_hot_36 ?_
      refine k_get (ci := 3) (k := 3) (q0 := 2) (v := .int (S3.1 3)) (C := RX3) (T := TX3) (N := 11) hC uX7_hot_X3 hP rfl rfl (by decide) (List.mem_of_getElem? (i := 4) rfl) rfl dX7_hot_39 ?_
      refine lv_istore_n (lv' := [(3, .int (S3.1 3)), (2, .int x102), (0, .ref (q1 100)), (1, .int x1)]) hx hb dX7_hot_42 rfl hl (by decide) rfl (fun ls hl => ?_)
      refine lv_iload_n hx hb dX7_hot_43 rfl (lv_at hl 3 rfl) ?_
      refine k_if_eq (tgt := 51) hC dX7_hot_44 (by decide) h (fun h => ?_) (fun h => ?_)
      · refine lv_bipush (v := (-6 : Int32)) hx hb dX7_hot_51 (by decide) ?_
        refine lv_goto (tgt := 61) hx hb dX7_hot_53 (by decide) ?_
        obtain rfl := fx_i1 h
        exact Ci.ret hC hr hlk hA9 hP hD hS dX7_hot_61
      · refine lv_iload_n hx hb dX7_hot_47 rfl (lv_at hl 0 rfl) ?_
        refine k_if_gt (tgt := 56) hC dX7_hot_48 (by decide) h (fun h => ?_) (fun h => ?_)
        · refine lv_iload_n hx hb dX7_hot_56 rfl (lv_at hl 1 rfl) ?_
          refine lv_iload_n hx hb dX7_hot_57 rfl (lv_at hl 0 rfl) ?_
          obtain ⟨hne, h⟩ := fx_nz_s h
          refine lv_idiv hx hb dX7_hot_58 hne ?_
          refine lv_iconst (v := (1 : Int32)) hx hb dX7_hot_59 (by decide) ?_
          refine lv_iadd hx hb dX7_hot_60 ?_
          obtain rfl := fx_i1 h
          exact Ci.ret hC hr hlk hA9 hP hD hS dX7_hot_61
        · refine lv_bipush (v := (-6 : Int32)) hx hb dX7_hot_51 (by decide) ?_
          refine lv_goto (tgt := 61) hx hb dX7_hot_53 (by decide) ?_
          obtain rfl := fx_i1 h
          exact Ci.ret hC hr hlk hA9 hP hD hS dX7_hot_61
    · refine lv_iconst (v := (0 : Int32)) hx hb dX7_hot_30 (by decide) ?_
      obtain rfl := fx_i1 h
      exact Ci.ret hC hr hlk hA9 hP hD hS dX7_hot_31
  · refine lv_bipush (v := (-2 : Int32)) hx hb dX7_hot_10 (by decide) ?_
    obtain rfl := fx_i1 h
    exact Ci.ret hC hr hlk hA9 hP hD hS dX7_hot_12
theorem uX7_canBeRipe_X0 : ∀ w ∈ u_ws RX0 TX0 3, w ∈ wsX7_canBeRipe := fun w h => List.mem_cons_of_mem _ (List.mem_append_left _ (List.mem_append_left _ (List.mem_append_right _ h)))
theorem uX7_canBeRipe_X3 : ∀ w ∈ u_ws RX3 TX3 11, w ∈ wsX7_canBeRipe := fun w h => List.mem_cons_of_mem _ (List.mem_append_left _ (List.mem_append_right _ h))
theorem uX7_canBeRipe_X6 : ∀ w ∈ u_ws RX6 TX6 5, w ∈ wsX7_canBeRipe := fun w h => List.mem_cons_of_mem _ (List.mem_append_right _ h)
theorem uX7_canBeRipe_X7 : ∀ w ∈ u_ws RX7 TX7 5, w ∈ wsX7_canBeRipe := fun w h => List.mem_cons_of_mem _ (List.mem_append_left _ (List.mem_append_left _ (List.mem_append_left _ (List.mem_append_right _ h))))
abbrev RM_X7_canBeRipe : Room := { frames := 3, cells := 0, slots := 0, locals := 61 }
def bd_X7_canBeRipe_2 (N : Nat) (x1 : Int32) (x2 : Int32) (S3 : St) (S4 : St) (S5 : St) (S6 : St) (S7 : St) (S8 : St) (S9 : St) (x3 : Int32) (rec : (Int32) → Option (Nat)) : Option (Nat) :=
  (if (S3.1 1) ≤ x3 then (
    some 1) else (
    fx_ald 6 (S3.2 6) x3 (fun v101 =>
      fx_lt (x2 - v101) (fun x102 =>
      fx_ald 6 (S4.2 1) x1 (fun v103 =>
      fx_b1 (f_X7_firstMinute N x102 (S3.1 3) v103) (fun v104 =>
      fx_b1 (f_X6_burntFrom N S4 x1) (fun v105 =>
      fx_b1 (f_X7_firstMinute N x102 (S3.1 3) v105) (fun v106 =>
      (if v106 ≤ v104 then (
      fx_lt (x3 + (1 : Int32)) (fun x107 =>
        rec x107)) else (
      some 0))))))))))
def lf_X7_canBeRipe_2 (N : Nat) (x1 : Int32) (x2 : Int32) (S3 : St) (S4 : St) (S5 : St) (S6 : St) (S7 : St) (S8 : St) (S9 : St) : (Int32) → ((Int32) → Option (Nat)) → Option (Nat) := fun x rec => bd_X7_canBeRipe_2 N x1 x2 S3 S4 S5 S6 S7 S8 S9 x rec
set_option maxRecDepth 100000 in
set_option maxHeartbeats 4000000 in
theorem lw_X7_canBeRipe_2 {p : Program} {l : Launch} {e : Env} {s : State} {m : MethodId} {args : Array Value} {below : List Frame} {meth : Method} {c : Code} {Q : State → Prop} {A : Nat → Prop} {H0 : Heap} {g : GG} (hC : Cx p s m args c RX7 cX7_canBeRipe 6 wsX7_canBeRipe g) (hA : ∀ q : Nat, H0.size ≤ q → A q) (N : Nat) (q1 : Nat → Nat) (q2 : Nat → Nat) (q3 : Nat → Nat) (q4 : Nat → Nat) (q5 : Nat → Nat) (q6 : Nat → Nat) (q7 : Nat → Nat) (q8 : Nat → Nat) (q9 : Nat → Nat) (x1 : Int32) (x2 : Int32) (S3 : St) (S4 : St) (S5 : St) (S6 : St) (S7 : St) (S8 : St) (S9 : St) : ∀ (n : Nat) (x3 : Int32) (o : Nat), fx_it (lf_X7_canBeRipe_2 N x1 x2 S3 S4 S5 S6 S7 S8 S9) n x3 = some o → ∀ (H : Heap) (locs : List Loc) (ls : Array Slot), va_P g.1 vwCl (wX7 g q1 q2 q6 q7 q9 ++ (wX0 g q2 q3 q4 q5 ++ (wX3 g q3 S3 ++ (wX6 g q4 S4 ++ (wX5 g q5 S5 ++ (wX4 g q6 S6 ++ (wX2 g q7 q8 S7 ++ (wX3 g q8 S8 ++ (wX1 g q9 S9))))))))) H → va_D A (wX7 g q1 q2 q6 q7 q9 ++ (wX0 g q2 q3 q4 q5 ++ (wX3 g q3 S3 ++ (wX6 g q4 S4 ++ (wX5 g q5 S5 ++ (wX4 g q6 S6 ++ (wX2 g q7 q8 S7 ++ (wX3 g q8 S8 ++ (wX1 g q9 S9))))))))) → va_S A H0 H locs → lv_has ls 6 [(0, .ref (q1 100)), (1, .int x1), (2, .int x2), (3, .int x3)] → (o = 0 → ∀ (H : Heap) (locs : List Loc) (ls : Array Slot), va_P g.1 vwCl (wX7 g q1 q2 q6 q7 q9 ++ (wX0 g q2 q3 q4 q5 ++ (wX3 g q3 S3 ++ (wX6 g q4 S4 ++ (wX5 g q5 S5 ++ (wX4 g q6 S6 ++ (wX2 g q7 q8 S7 ++ (wX3 g q8 S8 ++ (wX1 g q9 S9))))))))) H → va_D A (wX7 g q1 q2 q6 q7 q9 ++ (wX0 g q2 q3 q4 q5 ++ (wX3 g q3 S3 ++ (wX6 g q4 S4 ++ (wX5 g q5 S5 ++ (wX4 g q6 S6 ++ (wX2 g q7 q8 S7 ++ (wX3 g q8 S8 ++ (wX1 g q9 S9))))))))) → va_S A H0 H locs → lv_has ls 6 [] → W p l e RM_X7_canBeRipe s m args below meth c H locs 0 0 Q (F0 m 92 ls [])) → (o = 1 → ∀ (H : Heap) (locs : List Loc) (ls : Array Slot), va_P g.1 vwCl (wX7 g q1 q2 q6 q7 q9 ++ (wX0 g q2 q3 q4 q5 ++ (wX3 g q3 S3 ++ (wX6 g q4 S4 ++ (wX5 g q5 S5 ++ (wX4 g q6 S6 ++ (wX2 g q7 q8 S7 ++ (wX3 g q8 S8 ++ (wX1 g q9 S9))))))))) H → va_D A (wX7 g q1 q2 q6 q7 q9 ++ (wX0 g q2 q3 q4 q5 ++ (wX3 g q3 S3 ++ (wX6 g q4 S4 ++ (wX5 g q5 S5 ++ (wX4 g q6 S6 ++ (wX2 g q7 q8 S7 ++ (wX3 g q8 S8 ++ (wX1 g q9 S9))))))))) → va_S A H0 H locs → lv_has ls 6 [] → W p l e RM_X7_canBeRipe s m args below meth c H locs 0 0 Q (F0 m 100 ls [])) → W p l e RM_X7_canBeRipe s m args below meth c H locs 0 0 Q (F0 m 2 ls []) := by
  have hx := hC.1.1
  have hb := hC.1.2.1
  have hml := hC.1.2.2.1
  have hown := hC.1.2.2.2.1
  have hts := hC.1.2.2.2.2
  intro n
  induction n with
  | zero => intro x3 o h; cases h
  | succ n ih =>
    intro x3 o h H locs ls hP hD hS hl k0 k1
    have h : bd_X7_canBeRipe_2 N x1 x2 S3 S4 S5 S6 S7 S8 S9 x3 (fx_it (lf_X7_canBeRipe_2 N x1 x2 S3 S4 S5 S6 S7 S8 S9) n) = some o := h
    unfold bd_X7_canBeRipe_2 at h
    refine lv_iload_n hx hb dX7_canBeRipe_2 rfl (lv_at hl 3 rfl) ?_
    refine lv_aload_n hx hb dX7_canBeRipe_3 rfl (lv_at hl 0 rfl) ?_
    refine k_get (ci := 7) (k := 0) (q0 := 0) (v := .ref (q2 100)) (C := RX7) (T := TX7) (N := 5) hC uX7_canBeRipe_X7 hP rfl rfl (by decide) (List.mem_of_getElem? (i := 1) rfl) rfl dX7_canBeRipe_4 ?_
    refine k_get (ci := 0) (k := 0) (q0 := 1) (v := .ref (q3 100)) (C := RX0) (T := TX0) (N := 3) hC uX7_canBeRipe_X0 hP rfl rfl (by decide) (List.mem_of_getElem? (i := 2) rfl) rfl dX7_canBeRipe_7 ?_
    refine k_get (ci := 3) (k := 1) (q0 := 2) (v := .int (S3.1 1)) (C := RX3) (T := TX3) (N := 11) hC uX7_canBeRipe_X3 hP rfl rfl (by decide) (List.mem_of_getElem? (i := 3) rfl) rfl dX7_canBeRipe_10 ?_
    refine k_icmp_ge (tgt := 100) hC dX7_canBeRipe_13 (by decide) h (fun h => ?_) (fun h => ?_)
    · exact k1 (Option.some.inj h).symm _ _ _ hP hD hS (lv_sub hl [] rfl)
    · refine lv_iload_n hx hb dX7_canBeRipe_16 rfl (lv_at hl 2 rfl) ?_
      refine lv_aload_n hx hb dX7_canBeRipe_17 rfl (lv_at hl 0 rfl) ?_
      refine k_get (ci := 7) (k := 0) (q0 := 0) (v := .ref (q2 100)) (C := RX7) (T := TX7) (N := 5) hC uX7_canBeRipe_X7 hP rfl rfl (by decide) (List.mem_of_getElem? (i := 1) rfl) rfl dX7_canBeRipe_18 ?_
      refine k_get (ci := 0) (k := 0) (q0 := 1) (v := .ref (q3 100)) (C := RX0) (T := TX0) (N := 3) hC uX7_canBeRipe_X0 hP rfl rfl (by decide) (List.mem_of_getElem? (i := 2) rfl) rfl dX7_canBeRipe_21 ?_
      refine k_get (ci := 3) (k := 6) (q0 := 2) (v := .ref (q3 6)) (C := RX3) (T := TX3) (N := 11) hC uX7_canBeRipe_X3 hP rfl rfl (by decide) (List.mem_of_getElem? (i := 4) rfl) rfl dX7_canBeRipe_24 ?_
      refine lv_iload_n hx hb dX7_canBeRipe_27 rfl (lv_at hl 3 rfl) ?_
      refine k_ald (q0 := 3) (n := 6) (F := S3.2 6) hC hP rfl dX7_canBeRipe_28 h (fun v101 h => ?_)
      refine lv_isub hx hb dX7_canBeRipe_29 ?_
      refine k_topi h (fun x102 h => ?_)
      refine lv_istore (lv' := [(4, .int x102), (0, .ref (q1 100)), (1, .int x1), (2, .int x2), (3, .int x3)]) hx hb dX7_canBeRipe_30 hl (by decide) rfl (fun ls hl => ?_)
      refine lv_iload hx hb dX7_canBeRipe_32 (lv_at hl 0 rfl) ?_
      refine lv_aload_n hx hb dX7_canBeRipe_34 rfl (lv_at hl 1 rfl) ?_
      refine k_get (ci := 7) (k := 0) (q0 := 0) (v := .ref (q2 100)) (C := RX7) (T := TX7) (N := 5) hC uX7_canBeRipe_X7 hP rfl rfl (by decide) (List.mem_of_getElem? (i := 1) rfl) rfl dX7_canBeRipe_35 ?_
      refine k_get (ci := 0) (k := 0) (q0 := 1) (v := .ref (q3 100)) (C := RX0) (T := TX0) (N := 3) hC uX7_canBeRipe_X0 hP rfl rfl (by decide) (List.mem_of_getElem? (i := 2) rfl) rfl dX7_canBeRipe_38 ?_
      refine k_get (ci := 3) (k := 3) (q0 := 2) (v := .int (S3.1 3)) (C := RX3) (T := TX3) (N := 11) hC uX7_canBeRipe_X3 hP rfl rfl (by decide) (List.mem_of_getElem? (i := 5) rfl) rfl dX7_canBeRipe_41 ?_
      refine lv_aload_n hx hb dX7_canBeRipe_44 rfl (lv_at hl 1 rfl) ?_
      refine k_get (ci := 7) (k := 0) (q0 := 0) (v := .ref (q2 100)) (C := RX7) (T := TX7) (N := 5) hC uX7_canBeRipe_X7 hP rfl rfl (by decide) (List.mem_of_getElem? (i := 1) rfl) rfl dX7_canBeRipe_45 ?_
      refine k_get (ci := 0) (k := 1) (q0 := 1) (v := .ref (q4 100)) (C := RX0) (T := TX0) (N := 3) hC uX7_canBeRipe_X0 hP rfl rfl (by decide) (List.mem_of_getElem? (i := 6) rfl) rfl dX7_canBeRipe_48 ?_
      refine k_get (ci := 6) (k := 1) (q0 := 8) (v := .ref (q4 1)) (C := RX6) (T := TX6) (N := 5) hC uX7_canBeRipe_X6 hP rfl rfl (by decide) (List.mem_of_getElem? (i := 7) rfl) rfl dX7_canBeRipe_51 ?_
      refine lv_iload_n hx hb dX7_canBeRipe_54 rfl (lv_at hl 2 rfl) ?_
      refine k_ald (q0 := 9) (n := 6) (F := S4.2 1) hC hP rfl dX7_canBeRipe_55 h (fun v103 h => ?_)
      obtain ⟨v104, hc110, h⟩ := fx_b1_s h
      refine k_callSi0 (n := 3) (As := [.int x102, .int (S3.1 3), .int v103]) (rest := []) (wc := ([] : va_W)) (bytes := cX7_firstMinute) (maxL := 6) (ret := (some .int)) hC hl.1 (c_X7_firstMinute l g N x102 (S3.1 3) v103 v104 hc110) rfl gX7_canBeRipe_X7_firstMinute (by decide +kernel) ⟨Nat.le_of_ble_eq_true rfl, Nat.le_of_ble_eq_true rfl⟩ rfl rfl rfl (Nat.le_of_ble_eq_true rfl) ⟨Nat.le_of_ble_eq_true rfl, Nat.le_of_ble_eq_true rfl⟩ dX7_canBeRipe_56 hP hD hS hA [] rfl (by decide +kernel) (fun H locs hP hD hS => ?_)
      refine lv_istore (lv' := [(5, .int v104), (4, .int x102), (0, .ref (q1 100)), (1, .int x1), (2, .int x2), (3, .int x3)]) hx hb dX7_canBeRipe_59 hl (by decide) rfl (fun ls hl => ?_)
      refine lv_iload hx hb dX7_canBeRipe_61 (lv_at hl 0 rfl) ?_
      refine lv_iload hx hb dX7_canBeRipe_63 (lv_at hl 1 rfl) ?_
      refine lv_aload_n hx hb dX7_canBeRipe_65 rfl (lv_at hl 2 rfl) ?_
      refine k_get (ci := 7) (k := 0) (q0 := 0) (v := .ref (q2 100)) (C := RX7) (T := TX7) (N := 5) hC uX7_canBeRipe_X7 hP rfl rfl (by decide) (List.mem_of_getElem? (i := 1) rfl) rfl dX7_canBeRipe_66 ?_
      refine k_get (ci := 0) (k := 0) (q0 := 1) (v := .ref (q3 100)) (C := RX0) (T := TX0) (N := 3) hC uX7_canBeRipe_X0 hP rfl rfl (by decide) (List.mem_of_getElem? (i := 2) rfl) rfl dX7_canBeRipe_69 ?_
      refine k_get (ci := 3) (k := 3) (q0 := 2) (v := .int (S3.1 3)) (C := RX3) (T := TX3) (N := 11) hC uX7_canBeRipe_X3 hP rfl rfl (by decide) (List.mem_of_getElem? (i := 5) rfl) rfl dX7_canBeRipe_72 ?_
      refine lv_aload_n hx hb dX7_canBeRipe_75 rfl (lv_at hl 2 rfl) ?_
      refine k_get (ci := 7) (k := 0) (q0 := 0) (v := .ref (q2 100)) (C := RX7) (T := TX7) (N := 5) hC uX7_canBeRipe_X7 hP rfl rfl (by decide) (List.mem_of_getElem? (i := 1) rfl) rfl dX7_canBeRipe_76 ?_
      refine k_get (ci := 0) (k := 1) (q0 := 1) (v := .ref (q4 100)) (C := RX0) (T := TX0) (N := 3) hC uX7_canBeRipe_X0 hP rfl rfl (by decide) (List.mem_of_getElem? (i := 6) rfl) rfl dX7_canBeRipe_79 ?_
      refine lv_iload_n hx hb dX7_canBeRipe_82 rfl (lv_at hl 3 rfl) ?_
      obtain ⟨v105, hc109, h⟩ := fx_b1_s h
      refine k_callVi0 (C := RX6) (ci := 6) (qr := 0) (n := 1) (As := [.int x1]) (rest := [.int (S3.1 3), .int x102, .int v104]) (wc := (wX6 g q4 S4)) (bytes := cX6_burntFrom) (maxL := 2) (ret := (some .int)) hC hl.1 (c_X6_burntFrom l g N q4 S4 x1 v105 hc109) rfl gX7_canBeRipe_X6_burntFrom (by decide +kernel) rfl rfl ⟨Nat.le_of_ble_eq_true rfl, Nat.le_of_ble_eq_true rfl⟩ rfl rfl rfl (Nat.le_of_ble_eq_true rfl) ⟨Nat.le_of_ble_eq_true rfl, Nat.le_of_ble_eq_true rfl⟩ dX7_canBeRipe_83 hP hD hS hA [8, 9, 10, 11, 12] rfl (by decide +kernel) (fun H locs hP hD hS => ?_)
      obtain ⟨v106, hc108, h⟩ := fx_b1_s h
      refine k_callSi0 (n := 3) (As := [.int x102, .int (S3.1 3), .int v105]) (rest := [.int v104]) (wc := ([] : va_W)) (bytes := cX7_firstMinute) (maxL := 6) (ret := (some .int)) hC hl.1 (c_X7_firstMinute l g N x102 (S3.1 3) v105 v106 hc108) rfl gX7_canBeRipe_X7_firstMinute (by decide +kernel) ⟨Nat.le_of_ble_eq_true rfl, Nat.le_of_ble_eq_true rfl⟩ rfl rfl rfl (Nat.le_of_ble_eq_true rfl) ⟨Nat.le_of_ble_eq_true rfl, Nat.le_of_ble_eq_true rfl⟩ dX7_canBeRipe_86 hP hD hS hA [] rfl (by decide +kernel) (fun H locs hP hD hS => ?_)
      refine k_icmp_ge (tgt := 94) hC dX7_canBeRipe_89 (by decide) h (fun h => ?_) (fun h => ?_)
      · refine k_iinc (v := (1 : Int32)) (lv' := fun X => [(3, .int X), (5, .int v104), (4, .int x102), (0, .ref (q1 100)), (1, .int x1), (2, .int x2)]) hC dX7_canBeRipe_94 hl (k := 5) rfl (by decide) (by decide) (fun _ => rfl) h (fun x107 h ls hl => ?_)
        refine lv_goto (tgt := 2) hx hb dX7_canBeRipe_97 (by decide) ?_
        exact ih x107 o h _ _ _ hP hD hS (lv_sub hl [3, 4, 5, 0] rfl) k0 k1
      · exact k0 (Option.some.inj h).symm _ _ _ hP hD hS (lv_sub hl [] rfl)
def f_X7_canBeRipe (N : Nat) (S3 : St) (S4 : St) (S5 : St) (S6 : St) (S7 : St) (S8 : St) (S9 : St) (x1 : Int32) (x2 : Int32) : Option (Int32) :=
  fx_b1 (fx_it (lf_X7_canBeRipe_2 N x1 x2 S3 S4 S5 S6 S7 S8 S9) N (0 : Int32)) (fun t101 =>
  fx_t2 t101 (some (1 : Int32)) (some (0 : Int32)))
set_option maxRecDepth 100000 in
set_option maxHeartbeats 4000000 in
theorem c_X7_canBeRipe (l : Launch) (g : GG) (N : Nat) (q1 : Nat → Nat) (q2 : Nat → Nat) (q3 : Nat → Nat) (q4 : Nat → Nat) (q5 : Nat → Nat) (q6 : Nat → Nat) (q7 : Nat → Nat) (q8 : Nat → Nat) (q9 : Nat → Nat) (S3 : St) (S4 : St) (S5 : St) (S6 : St) (S7 : St) (S8 : St) (S9 : St) (x1 : Int32) (x2 : Int32) (r : Int32) (h : f_X7_canBeRipe N S3 S4 S5 S6 S7 S8 S9 x1 x2 = some r) : Ci l yX7_canBeRipe wsX7_canBeRipe RM_X7_canBeRipe g [.ref (q1 100), .int x1, .int x2] (wX7 g q1 q2 q6 q7 q9 ++ (wX0 g q2 q3 q4 q5 ++ (wX3 g q3 S3 ++ (wX6 g q4 S4 ++ (wX5 g q5 S5 ++ (wX4 g q6 S6 ++ (wX2 g q7 q8 S7 ++ (wX3 g q8 S8 ++ (wX1 g q9 S9))))))))) (wX7 g q1 q2 q6 q7 q9 ++ (wX0 g q2 q3 q4 q5 ++ (wX3 g q3 S3 ++ (wX6 g q4 S4 ++ (wX5 g q5 S5 ++ (wX4 g q6 S6 ++ (wX2 g q7 q8 S7 ++ (wX3 g q8 S8 ++ (wX1 g q9 S9))))))))) r := by
  intro sz
  refine Met.ofC (cc := cX7_canBeRipe) (maxL := 6) (ret := (some .boolean)) (by decide) rfl (Nat.le_of_ble_eq_true rfl) ?_
  intro p e s m below meth c hC hr hlk hsz A hA9 hA hP hD hS ls hl
  subst hsz
  have hC : Cx p s m ([.ref (q1 100), .int x1, .int x2] : List Value).toArray c RX7 cX7_canBeRipe 6 wsX7_canBeRipe g := hC
  have hx := hC.1.1
  have hb := hC.1.2.1
  have hml := hC.1.2.2.1
  have hown := hC.1.2.2.2.1
  have hts := hC.1.2.2.2.2
  have hl : lv_has ls 6 [(0, .ref (q1 100)), (1, .int x1), (2, .int x2)] := hl
  show W p l e RM_X7_canBeRipe s m ([.ref (q1 100), .int x1, .int x2] : List Value).toArray below meth c s.heap [] 0 0 (Qi below g [.ref (q1 100), .int x1, .int x2] (wX7 g q1 q2 q6 q7 q9 ++ (wX0 g q2 q3 q4 q5 ++ (wX3 g q3 S3 ++ (wX6 g q4 S4 ++ (wX5 g q5 S5 ++ (wX4 g q6 S6 ++ (wX2 g q7 q8 S7 ++ (wX3 g q8 S8 ++ (wX1 g q9 S9))))))))) (wX7 g q1 q2 q6 q7 q9 ++ (wX0 g q2 q3 q4 q5 ++ (wX3 g q3 S3 ++ (wX6 g q4 S4 ++ (wX5 g q5 S5 ++ (wX4 g q6 S6 ++ (wX2 g q7 q8 S7 ++ (wX3 g q8 S8 ++ (wX1 g q9 S9))))))))) r s) (F0 m 0 ls [])
  unfold f_X7_canBeRipe at h
  refine lv_iconst (v := (0 : Int32)) hx hb dX7_canBeRipe_0 (by decide) ?_
  refine lv_istore_n (lv' := [(3, .int (0 : Int32)), (0, .ref (q1 100)), (1, .int x1), (2, .int x2)]) hx hb dX7_canBeRipe_1 rfl hl (by decide) rfl (fun ls hl => ?_)
  obtain ⟨t101, ho102, h⟩ := fx_b1_s h
  refine lw_X7_canBeRipe_2 hC hA N q1 q2 q3 q4 q5 q6 q7 q8 q9 x1 x2 S3 S4 S5 S6 S7 S8 S9 N (0 : Int32)  t101 ho102 _ _ _ hP hD hS (lv_sub hl [1, 2, 3, 0] rfl) ?_ ?_
  · intro he H locs ls hP hD hS hl
    obtain rfl := he
    have h := fx_tg2_0 h
    refine lv_iconst (v := (1 : Int32)) hx hb dX7_canBeRipe_92 (by decide) ?_
    obtain rfl := fx_i1 h
    exact Ci.retz hC hr hlk rfl hA9 hP hD hS dX7_canBeRipe_93
  · intro he H locs ls hP hD hS hl
    obtain rfl := he
    have h := fx_tg2_1 h
    refine lv_iconst (v := (0 : Int32)) hx hb dX7_canBeRipe_100 (by decide) ?_
    obtain rfl := fx_i1 h
    exact Ci.retz hC hr hlk rfl hA9 hP hD hS dX7_canBeRipe_101
theorem uX7_still_X0 : ∀ w ∈ u_ws RX0 TX0 3, w ∈ wsX7_still := fun w h => List.mem_cons_of_mem _ (List.mem_append_left _ (List.mem_append_left _ (List.mem_append_right _ h)))
theorem uX7_still_X3 : ∀ w ∈ u_ws RX3 TX3 11, w ∈ wsX7_still := fun w h => List.mem_cons_of_mem _ (List.mem_append_left _ (List.mem_append_right _ h))
theorem uX7_still_X7 : ∀ w ∈ u_ws RX7 TX7 5, w ∈ wsX7_still := fun w h => List.mem_cons_of_mem _ (List.mem_append_left _ (List.mem_append_left _ (List.mem_append_left _ (List.mem_append_right _ h))))
abbrev RM_X7_still : Room := { frames := 4, cells := 0, slots := 0, locals := 86 }
def bd_X7_still_47 (N : Nat) (x2 : Int32) (S3 : St) (S4 : St) (S5 : St) (S6 : St) (S7 : St) (S8 : St) (S9 : St) (x3 : Int32) (x4 : Int32) (rec : (Int32 × Int32) → Option (Int32)) : Option (Int32) :=
  (if (6 : Int32) ≤ x4 then (
    some x3) else (
    fx_b1 (f_X6_has N S4 x4) (fun v101 =>
      (if v101 = 0 then (
      fx_lt (x4 + (1 : Int32)) (fun x102 =>
        rec (x3, x102))) else (
      fx_b1 (f_X7_canBeRipe N S3 S4 S5 S6 S7 S8 S9 x4 x2) (fun v103 =>
        (if v103 = 0 then (
        fx_lt (x4 + (1 : Int32)) (fun x104 =>
          rec (x3, x104))) else (
        fx_lt (x3 ||| ((1 : Int32) <<< (x4 &&& 31))) (fun x105 =>
          fx_lt (x4 + (1 : Int32)) (fun x106 =>
          rec (x105, x106)))))))))))
def lf_X7_still_47 (N : Nat) (x2 : Int32) (S3 : St) (S4 : St) (S5 : St) (S6 : St) (S7 : St) (S8 : St) (S9 : St) : (Int32 × Int32) → ((Int32 × Int32) → Option (Int32)) → Option (Int32) := fun x rec => bd_X7_still_47 N x2 S3 S4 S5 S6 S7 S8 S9 x.1 x.2 rec
set_option maxRecDepth 100000 in
set_option maxHeartbeats 4000000 in
theorem lw_X7_still_47 {p : Program} {l : Launch} {e : Env} {s : State} {m : MethodId} {args : Array Value} {below : List Frame} {meth : Method} {c : Code} {Q : State → Prop} {A : Nat → Prop} {H0 : Heap} {g : GG} (hC : Cx p s m args c RX7 cX7_still 5 wsX7_still g) (hA : ∀ q : Nat, H0.size ≤ q → A q) (N : Nat) (q1 : Nat → Nat) (q2 : Nat → Nat) (q3 : Nat → Nat) (q4 : Nat → Nat) (q5 : Nat → Nat) (q6 : Nat → Nat) (q7 : Nat → Nat) (q8 : Nat → Nat) (q9 : Nat → Nat) (x2 : Int32) (S3 : St) (S4 : St) (S5 : St) (S6 : St) (S7 : St) (S8 : St) (S9 : St) : ∀ (n : Nat) (x3 : Int32) (x4 : Int32) (o : Int32), fx_it (lf_X7_still_47 N x2 S3 S4 S5 S6 S7 S8 S9) n (x3, x4) = some o → ∀ (H : Heap) (locs : List Loc) (ls : Array Slot), va_P g.1 vwCl (wX7 g q1 q2 q6 q7 q9 ++ (wX0 g q2 q3 q4 q5 ++ (wX3 g q3 S3 ++ (wX6 g q4 S4 ++ (wX5 g q5 S5 ++ (wX4 g q6 S6 ++ (wX2 g q7 q8 S7 ++ (wX3 g q8 S8 ++ (wX1 g q9 S9))))))))) H → va_D A (wX7 g q1 q2 q6 q7 q9 ++ (wX0 g q2 q3 q4 q5 ++ (wX3 g q3 S3 ++ (wX6 g q4 S4 ++ (wX5 g q5 S5 ++ (wX4 g q6 S6 ++ (wX2 g q7 q8 S7 ++ (wX3 g q8 S8 ++ (wX1 g q9 S9))))))))) → va_S A H0 H locs → lv_has ls 5 [(0, .ref (q1 100)), (2, .int x2), (3, .int x3), (4, .int x4)] → (∀ (z0 : Int32), o = z0 → ∀ (H : Heap) (locs : List Loc) (ls : Array Slot), va_P g.1 vwCl (wX7 g q1 q2 q6 q7 q9 ++ (wX0 g q2 q3 q4 q5 ++ (wX3 g q3 S3 ++ (wX6 g q4 S4 ++ (wX5 g q5 S5 ++ (wX4 g q6 S6 ++ (wX2 g q7 q8 S7 ++ (wX3 g q8 S8 ++ (wX1 g q9 S9))))))))) H → va_D A (wX7 g q1 q2 q6 q7 q9 ++ (wX0 g q2 q3 q4 q5 ++ (wX3 g q3 S3 ++ (wX6 g q4 S4 ++ (wX5 g q5 S5 ++ (wX4 g q6 S6 ++ (wX2 g q7 q8 S7 ++ (wX3 g q8 S8 ++ (wX1 g q9 S9))))))))) → va_S A H0 H locs → lv_has ls 5 [(3, .int z0)] → W p l e RM_X7_still s m args below meth c H locs 0 0 Q (F0 m 92 ls [])) → W p l e RM_X7_still s m args below meth c H locs 0 0 Q (F0 m 47 ls []) := by
  have hx := hC.1.1
  have hb := hC.1.2.1
  have hml := hC.1.2.2.1
  have hown := hC.1.2.2.2.1
  have hts := hC.1.2.2.2.2
  intro n
  induction n with
  | zero => intro x3 x4 o h; cases h
  | succ n ih =>
    intro x3 x4 o h H locs ls hP hD hS hl k0
    have h : bd_X7_still_47 N x2 S3 S4 S5 S6 S7 S8 S9 x3 x4 (fx_it (lf_X7_still_47 N x2 S3 S4 S5 S6 S7 S8 S9) n) = some o := h
    unfold bd_X7_still_47 at h
    refine lv_iload hx hb dX7_still_47 (lv_at hl 3 rfl) ?_
    refine lv_bipush (v := (6 : Int32)) hx hb dX7_still_49 (by decide) ?_
    refine k_icmp_ge (tgt := 92) hC dX7_still_51 (by decide) h (fun h => ?_) (fun h => ?_)
    · exact k0 x3 (Option.some.inj h).symm _ _ _ hP hD hS (lv_sub hl [2] rfl)
    · refine lv_aload_n hx hb dX7_still_54 rfl (lv_at hl 0 rfl) ?_
      refine k_get (ci := 7) (k := 0) (q0 := 0) (v := .ref (q2 100)) (C := RX7) (T := TX7) (N := 5) hC uX7_still_X7 hP rfl rfl (by decide) (List.mem_of_getElem? (i := 1) rfl) rfl dX7_still_55 ?_
      refine k_get (ci := 0) (k := 1) (q0 := 1) (v := .ref (q4 100)) (C := RX0) (T := TX0) (N := 3) hC uX7_still_X0 hP rfl rfl (by decide) (List.mem_of_getElem? (i := 9) rfl) rfl dX7_still_58 ?_
      refine lv_iload hx hb dX7_still_61 (lv_at hl 3 rfl) ?_
      obtain ⟨v101, hc108, h⟩ := fx_b1_s h
      refine k_callVi0 (C := RX6) (ci := 6) (qr := 0) (n := 1) (As := [.int x4]) (rest := []) (wc := (wX6 g q4 S4)) (bytes := cX6_has) (maxL := 2) (ret := (some .boolean)) hC hl.1 (c_X6_has l g N q4 S4 x4 v101 hc108) rfl gX7_still_X6_has (by decide +kernel) rfl rfl ⟨Nat.le_of_ble_eq_true rfl, Nat.le_of_ble_eq_true rfl⟩ rfl rfl rfl (Nat.le_of_ble_eq_true rfl) ⟨Nat.le_of_ble_eq_true rfl, Nat.le_of_ble_eq_true rfl⟩ dX7_still_63 hP hD hS hA [8, 9, 10, 11, 12] rfl (by decide +kernel) (fun H locs hP hD hS => ?_)
      refine k_if_eq (tgt := 86) hC dX7_still_66 (by decide) h (fun h => ?_) (fun h => ?_)
      · refine k_iinc (v := (1 : Int32)) (lv' := fun X => [(4, .int X), (0, .ref (q1 100)), (2, .int x2), (3, .int x3)]) hC dX7_still_86 hl (k := 3) rfl (by decide) (by decide) (fun _ => rfl) h (fun x102 h ls hl => ?_)
        refine lv_goto (tgt := 47) hx hb dX7_still_89 (by decide) ?_
        exact ih x3 x102 o h _ _ _ hP hD hS (lv_sub hl [1, 2, 3, 0] rfl) k0
      · refine lv_aload_n hx hb dX7_still_69 rfl (lv_at hl 0 rfl) ?_
        refine lv_iload hx hb dX7_still_70 (lv_at hl 3 rfl) ?_
        refine lv_iload_n hx hb dX7_still_72 rfl (lv_at hl 1 rfl) ?_
        obtain ⟨v103, hc107, h⟩ := fx_b1_s h
        refine k_callVi0 (C := RX7) (ci := 7) (qr := 0) (n := 2) (As := [.int x4, .int x2]) (rest := []) (wc := (wX7 g q1 q2 q6 q7 q9 ++ (wX0 g q2 q3 q4 q5 ++ (wX3 g q3 S3 ++ (wX6 g q4 S4 ++ (wX5 g q5 S5 ++ (wX4 g q6 S6 ++ (wX2 g q7 q8 S7 ++ (wX3 g q8 S8 ++ (wX1 g q9 S9)))))))))) (bytes := cX7_canBeRipe) (maxL := 6) (ret := (some .boolean)) hC hl.1 (c_X7_canBeRipe l g N q1 q2 q3 q4 q5 q6 q7 q8 q9 S3 S4 S5 S6 S7 S8 S9 x4 x2 v103 hc107) rfl gX7_still_X7_canBeRipe (by decide +kernel) rfl rfl ⟨Nat.le_of_ble_eq_true rfl, Nat.le_of_ble_eq_true rfl⟩ rfl rfl rfl (Nat.le_of_ble_eq_true rfl) ⟨Nat.le_of_ble_eq_true rfl, Nat.le_of_ble_eq_true rfl⟩ dX7_still_73 hP hD hS hA [0, 1, 2, 3, 4, 5, 6, 7, 8, 9, 10, 11, 12, 13, 14, 15, 16, 17, 18, 19, 20, 21, 22, 23, 24, 25, 26, 27, 28, 29, 30, 31] rfl (by decide +kernel) (fun H locs hP hD hS => ?_)
        refine k_if_eq (tgt := 86) hC dX7_still_76 (by decide) h (fun h => ?_) (fun h => ?_)
        · refine k_iinc (v := (1 : Int32)) (lv' := fun X => [(4, .int X), (0, .ref (q1 100)), (2, .int x2), (3, .int x3)]) hC dX7_still_86 hl (k := 3) rfl (by decide) (by decide) (fun _ => rfl) h (fun x104 h ls hl => ?_)
          refine lv_goto (tgt := 47) hx hb dX7_still_89 (by decide) ?_
          exact ih x3 x104 o h _ _ _ hP hD hS (lv_sub hl [1, 2, 3, 0] rfl) k0
        · refine lv_iload_n hx hb dX7_still_79 rfl (lv_at hl 2 rfl) ?_
          refine lv_iconst (v := (1 : Int32)) hx hb dX7_still_80 (by decide) ?_
          refine lv_iload hx hb dX7_still_81 (lv_at hl 3 rfl) ?_
          refine lv_ishl hx hb dX7_still_83 ?_
          refine lv_ior hx hb dX7_still_84 ?_
          refine k_topi h (fun x105 h => ?_)
          refine lv_istore_n (lv' := [(3, .int x105), (0, .ref (q1 100)), (2, .int x2), (4, .int x4)]) hx hb dX7_still_85 rfl hl (by decide) rfl (fun ls hl => ?_)
          refine k_iinc (v := (1 : Int32)) (lv' := fun X => [(4, .int X), (3, .int x105), (0, .ref (q1 100)), (2, .int x2)]) hC dX7_still_86 hl (k := 3) rfl (by decide) (by decide) (fun _ => rfl) h (fun x106 h ls hl => ?_)
          refine lv_goto (tgt := 47) hx hb dX7_still_89 (by decide) ?_
          exact ih x105 x106 o h _ _ _ hP hD hS (lv_sub hl [2, 3, 1, 0] rfl) k0
def f_X7_still (N : Nat) (S3 : St) (S4 : St) (S5 : St) (S6 : St) (S7 : St) (S8 : St) (S9 : St) (x1 : Int32) : Option (Int32) :=
  fx_b1 (f_X7_within N x1 (0 : Int32) (999 : Int32)) (fun v101 =>
  (if v101 = 0 then (
  some (-2 : Int32)) else (
  fx_lt (if (0 : Int32) < ((S3.1 2) - (x1 * (S3.1 3))) then ((S3.1 2) - (x1 * (S3.1 3))) else (0 : Int32)) (fun x102 =>
    fx_b1 (fx_it (lf_X7_still_47 N x102 S3 S4 S5 S6 S7 S8 S9) N ((0 : Int32), (0 : Int32))) (fun x103 =>
    some x103)))))
set_option maxRecDepth 100000 in
set_option maxHeartbeats 4000000 in
theorem c_X7_still (l : Launch) (g : GG) (N : Nat) (q1 : Nat → Nat) (q2 : Nat → Nat) (q3 : Nat → Nat) (q4 : Nat → Nat) (q5 : Nat → Nat) (q6 : Nat → Nat) (q7 : Nat → Nat) (q8 : Nat → Nat) (q9 : Nat → Nat) (S3 : St) (S4 : St) (S5 : St) (S6 : St) (S7 : St) (S8 : St) (S9 : St) (x1 : Int32) (r : Int32) (h : f_X7_still N S3 S4 S5 S6 S7 S8 S9 x1 = some r) : Ci l yX7_still wsX7_still RM_X7_still g [.ref (q1 100), .int x1] (wX7 g q1 q2 q6 q7 q9 ++ (wX0 g q2 q3 q4 q5 ++ (wX3 g q3 S3 ++ (wX6 g q4 S4 ++ (wX5 g q5 S5 ++ (wX4 g q6 S6 ++ (wX2 g q7 q8 S7 ++ (wX3 g q8 S8 ++ (wX1 g q9 S9))))))))) (wX7 g q1 q2 q6 q7 q9 ++ (wX0 g q2 q3 q4 q5 ++ (wX3 g q3 S3 ++ (wX6 g q4 S4 ++ (wX5 g q5 S5 ++ (wX4 g q6 S6 ++ (wX2 g q7 q8 S7 ++ (wX3 g q8 S8 ++ (wX1 g q9 S9))))))))) r := by
  intro sz
  refine Met.ofC (cc := cX7_still) (maxL := 5) (ret := (some .int)) (by decide) rfl (Nat.le_of_ble_eq_true rfl) ?_
  intro p e s m below meth c hC hr hlk hsz A hA9 hA hP hD hS ls hl
  subst hsz
  have hC : Cx p s m ([.ref (q1 100), .int x1] : List Value).toArray c RX7 cX7_still 5 wsX7_still g := hC
  have hx := hC.1.1
  have hb := hC.1.2.1
  have hml := hC.1.2.2.1
  have hown := hC.1.2.2.2.1
  have hts := hC.1.2.2.2.2
  have hl : lv_has ls 5 [(0, .ref (q1 100)), (1, .int x1)] := hl
  show W p l e RM_X7_still s m ([.ref (q1 100), .int x1] : List Value).toArray below meth c s.heap [] 0 0 (Qi below g [.ref (q1 100), .int x1] (wX7 g q1 q2 q6 q7 q9 ++ (wX0 g q2 q3 q4 q5 ++ (wX3 g q3 S3 ++ (wX6 g q4 S4 ++ (wX5 g q5 S5 ++ (wX4 g q6 S6 ++ (wX2 g q7 q8 S7 ++ (wX3 g q8 S8 ++ (wX1 g q9 S9))))))))) (wX7 g q1 q2 q6 q7 q9 ++ (wX0 g q2 q3 q4 q5 ++ (wX3 g q3 S3 ++ (wX6 g q4 S4 ++ (wX5 g q5 S5 ++ (wX4 g q6 S6 ++ (wX2 g q7 q8 S7 ++ (wX3 g q8 S8 ++ (wX1 g q9 S9))))))))) r s) (F0 m 0 ls [])
  unfold f_X7_still at h
  refine lv_iload_n hx hb dX7_still_0 rfl (lv_at hl 1 rfl) ?_
  refine lv_iconst (v := (0 : Int32)) hx hb dX7_still_1 (by decide) ?_
  refine lv_sipush (v := (999 : Int32)) hx hb dX7_still_2 (by decide) ?_
  obtain ⟨v101, hc105, h⟩ := fx_b1_s h
  refine k_callSi0 (n := 3) (As := [.int x1, .int (0 : Int32), .int (999 : Int32)]) (rest := []) (wc := ([] : va_W)) (bytes := cX7_within) (maxL := 3) (ret := (some .boolean)) hC hl.1 (c_X7_within l g N x1 (0 : Int32) (999 : Int32) v101 hc105) rfl gX7_still_X7_within (by decide +kernel) ⟨Nat.le_of_ble_eq_true rfl, Nat.le_of_ble_eq_true rfl⟩ rfl rfl rfl (Nat.le_of_ble_eq_true rfl) ⟨Nat.le_of_ble_eq_true rfl, Nat.le_of_ble_eq_true rfl⟩ dX7_still_5 hP hD hS hA [] rfl (by decide +kernel) (fun H locs hP hD hS => ?_)
  refine k_if_ne (tgt := 14) hC dX7_still_8 (by decide) h (fun h => ?_) (fun h => ?_)
  · refine lv_iconst (v := (0 : Int32)) hx hb dX7_still_14 (by decide) ?_
    refine lv_aload_n hx hb dX7_still_15 rfl (lv_at hl 0 rfl) ?_
    refine k_get (ci := 7) (k := 0) (q0 := 0) (v := .ref (q2 100)) (C := RX7) (T := TX7) (N := 5) hC uX7_still_X7 hP rfl rfl (by decide) (List.mem_of_getElem? (i := 1) rfl) rfl dX7_still_16 ?_
    refine k_get (ci := 0) (k := 0) (q0 := 1) (v := .ref (q3 100)) (C := RX0) (T := TX0) (N := 3) hC uX7_still_X0 hP rfl rfl (by decide) (List.mem_of_getElem? (i := 2) rfl) rfl dX7_still_19 ?_
    refine k_get (ci := 3) (k := 2) (q0 := 2) (v := .int (S3.1 2)) (C := RX3) (T := TX3) (N := 11) hC uX7_still_X3 hP rfl rfl (by decide) (List.mem_of_getElem? (i := 3) rfl) rfl dX7_still_22 ?_
    refine lv_iload_n hx hb dX7_still_25 rfl (lv_at hl 1 rfl) ?_
    refine lv_aload_n hx hb dX7_still_26 rfl (lv_at hl 0 rfl) ?_
    refine k_get (ci := 7) (k := 0) (q0 := 0) (v := .ref (q2 100)) (C := RX7) (T := TX7) (N := 5) hC uX7_still_X7 hP rfl rfl (by decide) (List.mem_of_getElem? (i := 1) rfl) rfl dX7_still_27 ?_
    refine k_get (ci := 0) (k := 0) (q0 := 1) (v := .ref (q3 100)) (C := RX0) (T := TX0) (N := 3) hC uX7_still_X0 hP rfl rfl (by decide) (List.mem_of_getElem? (i := 2) rfl) rfl dX7_still_30 ?_
    refine k_get (ci := 3) (k := 3) (q0 := 2) (v := .int (S3.1 3)) (C := RX3) (T := TX3) (N := 11) hC uX7_still_X3 hP rfl rfl (by decide) (List.mem_of_getElem? (i := 4) rfl) rfl dX7_still_33 ?_
    refine lv_imul hx hb dX7_still_36 ?_
    refine lv_isub hx hb dX7_still_37 ?_
    refine va_mmax hx hb (hml.trans hl.1.symm) hown (hts _ (List.mem_of_getElem? (i := 5) rfl)) (hts _ (List.mem_of_getElem? (i := 6) rfl)) (hts _ (List.mem_of_getElem? (i := 7) rfl)) (hts _ (List.mem_of_getElem? (i := 8) rfl)) (Nat.le_of_ble_eq_true rfl) (Nat.le_of_ble_eq_true rfl) (Nat.zero_le _) (Nat.zero_le _) dX7_still_38 ?_
    refine k_topi h (fun x102 h => ?_)
    refine lv_istore_n (lv' := [(2, .int x102), (0, .ref (q1 100)), (1, .int x1)]) hx hb dX7_still_41 rfl hl (by decide) rfl (fun ls hl => ?_)
    refine lv_iconst (v := (0 : Int32)) hx hb dX7_still_42 (by decide) ?_
    refine lv_istore_n (lv' := [(3, .int (0 : Int32)), (2, .int x102), (0, .ref (q1 100)), (1, .int x1)]) hx hb dX7_still_43 rfl hl (by decide) rfl (fun ls hl => ?_)
    refine lv_iconst (v := (0 : Int32)) hx hb dX7_still_44 (by decide) ?_
    refine lv_istore (lv' := [(4, .int (0 : Int32)), (3, .int (0 : Int32)), (2, .int x102), (0, .ref (q1 100)), (1, .int x1)]) hx hb dX7_still_45 hl (by decide) rfl (fun ls hl => ?_)
    obtain ⟨x103, ho104, h⟩ := fx_b1_s h
    refine lw_X7_still_47 hC hA N q1 q2 q3 q4 q5 q6 q7 q8 q9 x102 S3 S4 S5 S6 S7 S8 S9 N (0 : Int32) (0 : Int32)  x103 ho104 _ _ _ hP hD hS (lv_sub hl [3, 2, 1, 0] rfl) ?_
    · intro y0 he H locs ls hP hD hS hl
      obtain rfl := he
      refine lv_iload_n hx hb dX7_still_92 rfl (lv_at hl 0 rfl) ?_
      obtain rfl := fx_i1 h
      exact Ci.ret hC hr hlk hA9 hP hD hS dX7_still_93
  · refine lv_bipush (v := (-2 : Int32)) hx hb dX7_still_11 (by decide) ?_
    obtain rfl := fx_i1 h
    exact Ci.ret hC hr hlk hA9 hP hD hS dX7_still_13
