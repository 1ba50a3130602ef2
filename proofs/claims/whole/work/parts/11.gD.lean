/-! laid by wip/whole/gen.py out of the printed names and instructions: what each method does (f_), and that its bytecode does it (c_) -/
theorem uX7_refuseLoaves_X0 : ∀ w ∈ u_ws RX0 TX0 3, w ∈ wsX7_refuseLoaves := fun w h => List.mem_cons_of_mem _ (List.mem_append_left _ (List.mem_append_left _ (List.mem_append_right _ h)))
theorem uX7_refuseLoaves_X7 : ∀ w ∈ u_ws RX7 TX7 5, w ∈ wsX7_refuseLoaves := fun w h => List.mem_cons_of_mem _ (List.mem_append_left _ (List.mem_append_left _ (List.mem_append_left _ (List.mem_append_right _ h))))
abbrev RM_X7_refuseLoaves : Room := { frames := 4, cells := 0, slots := 0, locals := 88 }
def f_X7_refuseLoaves (N : Nat) (S3 : St) (S4 : St) (S5 : St) (S6 : St) (S7 : St) (S8 : St) (S9 : St) (x1 : Int32) (x2 : Int32) : Option (Int32 × St) :=
  fx_b1 (f_X7_within N x2 (0 : Int32) (2 : Int32)) (fun v101 =>
  (if v101 = 0 then (
  some ((-2 : Int32), S9)) else (
  fx_b1 (f_X7_within N x1 (0 : Int32) (666666 : Int32)) (fun v102 =>
    (if v102 = 0 then (
    some ((-2 : Int32), S9)) else (
    fx_b2 (f_X1_read N S9 S4 x1) (fun v103 S104 =>
      (if v103 = 0 then (
      some ((-1 : Int32), S104)) else (
      some ((0 : Int32), S104))))))))))
set_option maxRecDepth 100000 in
set_option maxHeartbeats 4000000 in
theorem c_X7_refuseLoaves (l : Launch) (g : GG) (N : Nat) (q1 : Nat → Nat) (q2 : Nat → Nat) (q3 : Nat → Nat) (q4 : Nat → Nat) (q5 : Nat → Nat) (q6 : Nat → Nat) (q7 : Nat → Nat) (q8 : Nat → Nat) (q9 : Nat → Nat) (S3 : St) (S4 : St) (S5 : St) (S6 : St) (S7 : St) (S8 : St) (S9 : St) (x1 : Int32) (x2 : Int32) (r : Int32) (F9 : St) (h : f_X7_refuseLoaves N S3 S4 S5 S6 S7 S8 S9 x1 x2 = some (r, F9)) : Ci l yX7_refuseLoaves wsX7_refuseLoaves RM_X7_refuseLoaves g [.ref (q1 100), .int x1, .int x2] (wX7 g q1 q2 q6 q7 q9 ++ (wX0 g q2 q3 q4 q5 ++ (wX3 g q3 S3 ++ (wX6 g q4 S4 ++ (wX5 g q5 S5 ++ (wX4 g q6 S6 ++ (wX2 g q7 q8 S7 ++ (wX3 g q8 S8 ++ (wX1 g q9 S9))))))))) (wX7 g q1 q2 q6 q7 q9 ++ (wX0 g q2 q3 q4 q5 ++ (wX3 g q3 S3 ++ (wX6 g q4 S4 ++ (wX5 g q5 S5 ++ (wX4 g q6 S6 ++ (wX2 g q7 q8 S7 ++ (wX3 g q8 S8 ++ (wX1 g q9 F9))))))))) r := by
  intro sz
  refine Met.ofC (cc := cX7_refuseLoaves) (maxL := 3) (ret := (some .int)) (by decide) rfl (Nat.le_of_ble_eq_true rfl) ?_
  intro p e s m below meth c hC hr hlk hsz A hA9 hA hP hD hS ls hl
  subst hsz
  have hC : Cx p s m ([.ref (q1 100), .int x1, .int x2] : List Value).toArray c RX7 cX7_refuseLoaves 3 wsX7_refuseLoaves g := hC
  have hx := hC.1.1
  have hb := hC.1.2.1
  have hml := hC.1.2.2.1
  have hown := hC.1.2.2.2.1
  have hts := hC.1.2.2.2.2
  have hl : lv_has ls 3 [(0, .ref (q1 100)), (1, .int x1), (2, .int x2)] := hl
  show W p l e RM_X7_refuseLoaves s m ([.ref (q1 100), .int x1, .int x2] : List Value).toArray below meth c s.heap [] 0 0 (Qi below g [.ref (q1 100), .int x1, .int x2] (wX7 g q1 q2 q6 q7 q9 ++ (wX0 g q2 q3 q4 q5 ++ (wX3 g q3 S3 ++ (wX6 g q4 S4 ++ (wX5 g q5 S5 ++ (wX4 g q6 S6 ++ (wX2 g q7 q8 S7 ++ (wX3 g q8 S8 ++ (wX1 g q9 S9))))))))) (wX7 g q1 q2 q6 q7 q9 ++ (wX0 g q2 q3 q4 q5 ++ (wX3 g q3 S3 ++ (wX6 g q4 S4 ++ (wX5 g q5 S5 ++ (wX4 g q6 S6 ++ (wX2 g q7 q8 S7 ++ (wX3 g q8 S8 ++ (wX1 g q9 F9))))))))) r s) (F0 m 0 ls [])
  unfold f_X7_refuseLoaves at h
  refine lv_iload_n hx hb dX7_refuseLoaves_0 rfl (lv_at hl 2 rfl) ?_
  refine lv_iconst (v := (0 : Int32)) hx hb dX7_refuseLoaves_1 (by decide) ?_
  refine lv_iconst (v := (2 : Int32)) hx hb dX7_refuseLoaves_2 (by decide) ?_
  obtain ⟨v101, hc107, h⟩ := fx_b1_s h
  refine k_callSi0 (n := 3) (As := [.int x2, .int (0 : Int32), .int (2 : Int32)]) (rest := []) (wc := ([] : va_W)) (bytes := cX7_within) (maxL := 3) (ret := (some .boolean)) hC hl.1 (c_X7_within l g N x2 (0 : Int32) (2 : Int32) v101 hc107) rfl gX7_refuseLoaves_X7_within (by decide +kernel) ⟨Nat.le_of_ble_eq_true rfl, Nat.le_of_ble_eq_true rfl⟩ rfl rfl rfl (Nat.le_of_ble_eq_true rfl) ⟨Nat.le_of_ble_eq_true rfl, Nat.le_of_ble_eq_true rfl⟩ dX7_refuseLoaves_3 hP hD hS hA [] rfl (by decide +kernel) (fun H locs hP hD hS => ?_)
  refine k_if_eq (tgt := 20) hC dX7_refuseLoaves_6 (by decide) h (fun h => ?_) (fun h => ?_)
  · refine lv_bipush (v := (-2 : Int32)) hx hb dX7_refuseLoaves_20 (by decide) ?_
    obtain ⟨rfl, rfl⟩ := fx_i2 h
    exact Ci.ret hC hr hlk hA9 hP hD hS dX7_refuseLoaves_22
  · refine lv_iload_n hx hb dX7_refuseLoaves_9 rfl (lv_at hl 1 rfl) ?_
    refine lv_iconst (v := (0 : Int32)) hx hb dX7_refuseLoaves_10 (by decide) ?_
    refine lv_ldcw (v := (666666 : Int32)) hx hb hown (hts _ (List.mem_of_getElem? (i := 1) rfl)) dX7_refuseLoaves_11 ?_
    obtain ⟨v102, hc106, h⟩ := fx_b1_s h
    refine k_callSi0 (n := 3) (As := [.int x1, .int (0 : Int32), .int (666666 : Int32)]) (rest := []) (wc := ([] : va_W)) (bytes := cX7_within) (maxL := 3) (ret := (some .boolean)) hC hl.1 (c_X7_within l g N x1 (0 : Int32) (666666 : Int32) v102 hc106) rfl gX7_refuseLoaves_X7_within (by decide +kernel) ⟨Nat.le_of_ble_eq_true rfl, Nat.le_of_ble_eq_true rfl⟩ rfl rfl rfl (Nat.le_of_ble_eq_true rfl) ⟨Nat.le_of_ble_eq_true rfl, Nat.le_of_ble_eq_true rfl⟩ dX7_refuseLoaves_14 hP hD hS hA [] rfl (by decide +kernel) (fun H locs hP hD hS => ?_)
    refine k_if_ne (tgt := 23) hC dX7_refuseLoaves_17 (by decide) h (fun h => ?_) (fun h => ?_)
    · refine lv_aload_n hx hb dX7_refuseLoaves_23 rfl (lv_at hl 0 rfl) ?_
      refine k_get (ci := 7) (k := 4) (q0 := 0) (v := .ref (q9 100)) (C := RX7) (T := TX7) (N := 5) hC uX7_refuseLoaves_X7 hP rfl rfl (by decide) (List.mem_of_getElem? (i := 2) rfl) rfl dX7_refuseLoaves_24 ?_
      refine lv_iload_n hx hb dX7_refuseLoaves_27 rfl (lv_at hl 1 rfl) ?_
      refine lv_aload_n hx hb dX7_refuseLoaves_28 rfl (lv_at hl 0 rfl) ?_
      refine k_get (ci := 7) (k := 0) (q0 := 0) (v := .ref (q2 100)) (C := RX7) (T := TX7) (N := 5) hC uX7_refuseLoaves_X7 hP rfl rfl (by decide) (List.mem_of_getElem? (i := 3) rfl) rfl dX7_refuseLoaves_29 ?_
      refine k_get (ci := 0) (k := 1) (q0 := 1) (v := .ref (q4 100)) (C := RX0) (T := TX0) (N := 3) hC uX7_refuseLoaves_X0 hP rfl rfl (by decide) (List.mem_of_getElem? (i := 4) rfl) rfl dX7_refuseLoaves_32 ?_
      obtain ⟨v103, S104, hc105, h⟩ := fx_b2_s h
      refine k_callVi (C := RX1) (ci := 1) (qr := 0) (n := 2) (As := [.int x1, .ref (q4 100)]) (rest := []) (wc := (wX1 g q9 S9 ++ (wX6 g q4 S4))) (w1 := (wX1 g q9 S104 ++ (wX6 g q4 S4))) (ws2 := (wX7 g q1 q2 q6 q7 q9 ++ (wX0 g q2 q3 q4 q5 ++ (wX3 g q3 S3 ++ (wX6 g q4 S4 ++ (wX5 g q5 S5 ++ (wX4 g q6 S6 ++ (wX2 g q7 q8 S7 ++ (wX3 g q8 S8 ++ (wX1 g q9 S104)))))))))) (bytes := cX1_read) (maxL := 6) (ret := (some .boolean)) hC hl.1 (c_X1_read l g N q9 q4 S9 S4 x1 v103 S104 hc105) rfl gX7_refuseLoaves_X1_read (by decide +kernel) rfl rfl ⟨Nat.le_of_ble_eq_true rfl, Nat.le_of_ble_eq_true rfl⟩ rfl rfl rfl (Nat.le_of_ble_eq_true rfl) ⟨Nat.le_of_ble_eq_true rfl, Nat.le_of_ble_eq_true rfl⟩ dX7_refuseLoaves_35 hP hD hS hA [24, 25, 26, 27, 28, 29, 30, 31, 8, 9, 10, 11, 12] rfl (by decide +kernel) [q9 100, q9 1, q9 2, q9 3, q9 4, q9 8, q9 9, q9 10, q4 100, q4 1, q4 2, q4 3, q4 4] rfl rfl rfl [0, 1, 2, 3, 4, 5, 6, 7, 13, 14, 15, 16, 17, 18, 19, 20, 21, 22, 23] (wX7 g q1 q2 q6 q7 q9 ++ (wX0 g q2 q3 q4 q5 ++ (wX3 g q3 S3 ++ (wX5 g q5 S5 ++ (wX4 g q6 S6 ++ (wX2 g q7 q8 S7 ++ (wX3 g q8 S8))))))) rfl rfl (n2 := 32) rfl (by decide +kernel) (fun H locs hP hD hS => ?_)
      refine k_if_eq (tgt := 45) hC dX7_refuseLoaves_38 (by decide) h (fun h => ?_) (fun h => ?_)
      · refine lv_iconst (v := (-1 : Int32)) hx hb dX7_refuseLoaves_45 (by decide) ?_
        obtain ⟨rfl, rfl⟩ := fx_i2 h
        exact Ci.ret hC hr hlk hA9 hP hD hS dX7_refuseLoaves_46
      · refine lv_iconst (v := (0 : Int32)) hx hb dX7_refuseLoaves_41 (by decide) ?_
        refine lv_goto (tgt := 46) hx hb dX7_refuseLoaves_42 (by decide) ?_
        obtain ⟨rfl, rfl⟩ := fx_i2 h
        exact Ci.ret hC hr hlk hA9 hP hD hS dX7_refuseLoaves_46
    · refine lv_bipush (v := (-2 : Int32)) hx hb dX7_refuseLoaves_20 (by decide) ?_
      obtain ⟨rfl, rfl⟩ := fx_i2 h
      exact Ci.ret hC hr hlk hA9 hP hD hS dX7_refuseLoaves_22
theorem uX7_orders_X0 : ∀ w ∈ u_ws RX0 TX0 3, w ∈ wsX7_orders := fun w h => List.mem_cons_of_mem _ (List.mem_append_left _ (List.mem_append_left _ (List.mem_append_left _ (List.mem_append_right _ h))))
theorem uX7_orders_X1 : ∀ w ∈ u_ws RX1 TX1 14, w ∈ wsX7_orders := fun w h => List.mem_cons_of_mem _ (List.mem_append_left _ (List.mem_append_right _ h))
theorem uX7_orders_X3 : ∀ w ∈ u_ws RX3 TX3 11, w ∈ wsX7_orders := fun w h => List.mem_cons_of_mem _ (List.mem_append_left _ (List.mem_append_left _ (List.mem_append_right _ h)))
theorem uX7_orders_X7 : ∀ w ∈ u_ws RX7 TX7 5, w ∈ wsX7_orders := fun w h => List.mem_cons_of_mem _ (List.mem_append_left _ (List.mem_append_left _ (List.mem_append_left _ (List.mem_append_left _ (List.mem_append_right _ h)))))
abbrev RM_X7_orders : Room := { frames := 5, cells := 0, slots := 0, locals := 110 }
def f_X7_orders (N : Nat) (S3 : St) (S4 : St) (S5 : St) (S6 : St) (S7 : St) (S8 : St) (S9 : St) (x1 : Int32) (x2 : Int32) : Option (Int32 × St) :=
  fx_b2 (f_X7_refuseLoaves N S3 S4 S5 S6 S7 S8 S9 x1 x2) (fun v101 S102 =>
  (if v101 = 0 then (
  fx_b1 (f_X1_foresee N S102 S3 S4 (S3.1 2)) (fun S103 =>
    fx_b1 (f_X1_tryAllLoaves N S103 (S3.1 1)) (fun S104 =>
    (if x2 = 0 then (
    some ((S104.1 5), S104)) else (
    (if x2 = (1 : Int32) then (
      some ((S104.1 6), S104)) else (
      some ((S104.1 7), S104)))))))) else (
  some (v101, S102))))
set_option maxRecDepth 100000 in
set_option maxHeartbeats 4000000 in
theorem c_X7_orders (l : Launch) (g : GG) (N : Nat) (q1 : Nat → Nat) (q2 : Nat → Nat) (q3 : Nat → Nat) (q4 : Nat → Nat) (q5 : Nat → Nat) (q6 : Nat → Nat) (q7 : Nat → Nat) (q8 : Nat → Nat) (q9 : Nat → Nat) (S3 : St) (S4 : St) (S5 : St) (S6 : St) (S7 : St) (S8 : St) (S9 : St) (x1 : Int32) (x2 : Int32) (r : Int32) (F9 : St) (h : f_X7_orders N S3 S4 S5 S6 S7 S8 S9 x1 x2 = some (r, F9)) : Ci l yX7_orders wsX7_orders RM_X7_orders g [.ref (q1 100), .int x1, .int x2] (wX7 g q1 q2 q6 q7 q9 ++ (wX0 g q2 q3 q4 q5 ++ (wX3 g q3 S3 ++ (wX6 g q4 S4 ++ (wX5 g q5 S5 ++ (wX4 g q6 S6 ++ (wX2 g q7 q8 S7 ++ (wX3 g q8 S8 ++ (wX1 g q9 S9))))))))) (wX7 g q1 q2 q6 q7 q9 ++ (wX0 g q2 q3 q4 q5 ++ (wX3 g q3 S3 ++ (wX6 g q4 S4 ++ (wX5 g q5 S5 ++ (wX4 g q6 S6 ++ (wX2 g q7 q8 S7 ++ (wX3 g q8 S8 ++ (wX1 g q9 F9))))))))) r := by
  intro sz
  refine Met.ofC (cc := cX7_orders) (maxL := 4) (ret := (some .int)) (by decide) rfl (Nat.le_of_ble_eq_true rfl) ?_
  intro p e s m below meth c hC hr hlk hsz A hA9 hA hP hD hS ls hl
  subst hsz
  have hC : Cx p s m ([.ref (q1 100), .int x1, .int x2] : List Value).toArray c RX7 cX7_orders 4 wsX7_orders g := hC
  have hx := hC.1.1
  have hb := hC.1.2.1
  have hml := hC.1.2.2.1
  have hown := hC.1.2.2.2.1
  have hts := hC.1.2.2.2.2
  have hl : lv_has ls 4 [(0, .ref (q1 100)), (1, .int x1), (2, .int x2)] := hl
  show W p l e RM_X7_orders s m ([.ref (q1 100), .int x1, .int x2] : List Value).toArray below meth c s.heap [] 0 0 (Qi below g [.ref (q1 100), .int x1, .int x2] (wX7 g q1 q2 q6 q7 q9 ++ (wX0 g q2 q3 q4 q5 ++ (wX3 g q3 S3 ++ (wX6 g q4 S4 ++ (wX5 g q5 S5 ++ (wX4 g q6 S6 ++ (wX2 g q7 q8 S7 ++ (wX3 g q8 S8 ++ (wX1 g q9 S9))))))))) (wX7 g q1 q2 q6 q7 q9 ++ (wX0 g q2 q3 q4 q5 ++ (wX3 g q3 S3 ++ (wX6 g q4 S4 ++ (wX5 g q5 S5 ++ (wX4 g q6 S6 ++ (wX2 g q7 q8 S7 ++ (wX3 g q8 S8 ++ (wX1 g q9 F9))))))))) r s) (F0 m 0 ls [])
  unfold f_X7_orders at h
  refine lv_aload_n hx hb dX7_orders_0 rfl (lv_at hl 0 rfl) ?_
  refine lv_iload_n hx hb dX7_orders_1 rfl (lv_at hl 1 rfl) ?_
  refine lv_iload_n hx hb dX7_orders_2 rfl (lv_at hl 2 rfl) ?_
  obtain ⟨v101, S102, hc107, h⟩ := fx_b2_s h
  refine k_callVi (C := RX7) (ci := 7) (qr := 0) (n := 2) (As := [.int x1, .int x2]) (rest := []) (wc := (wX7 g q1 q2 q6 q7 q9 ++ (wX0 g q2 q3 q4 q5 ++ (wX3 g q3 S3 ++ (wX6 g q4 S4 ++ (wX5 g q5 S5 ++ (wX4 g q6 S6 ++ (wX2 g q7 q8 S7 ++ (wX3 g q8 S8 ++ (wX1 g q9 S9)))))))))) (w1 := (wX7 g q1 q2 q6 q7 q9 ++ (wX0 g q2 q3 q4 q5 ++ (wX3 g q3 S3 ++ (wX6 g q4 S4 ++ (wX5 g q5 S5 ++ (wX4 g q6 S6 ++ (wX2 g q7 q8 S7 ++ (wX3 g q8 S8 ++ (wX1 g q9 S102)))))))))) (ws2 := (wX7 g q1 q2 q6 q7 q9 ++ (wX0 g q2 q3 q4 q5 ++ (wX3 g q3 S3 ++ (wX6 g q4 S4 ++ (wX5 g q5 S5 ++ (wX4 g q6 S6 ++ (wX2 g q7 q8 S7 ++ (wX3 g q8 S8 ++ (wX1 g q9 S102)))))))))) (bytes := cX7_refuseLoaves) (maxL := 3) (ret := (some .int)) hC hl.1 (c_X7_refuseLoaves l g N q1 q2 q3 q4 q5 q6 q7 q8 q9 S3 S4 S5 S6 S7 S8 S9 x1 x2 v101 S102 hc107) rfl gX7_orders_X7_refuseLoaves (by decide +kernel) rfl rfl ⟨Nat.le_of_ble_eq_true rfl, Nat.le_of_ble_eq_true rfl⟩ rfl rfl rfl (Nat.le_of_ble_eq_true rfl) ⟨Nat.le_of_ble_eq_true rfl, Nat.le_of_ble_eq_true rfl⟩ dX7_orders_3 hP hD hS hA [0, 1, 2, 3, 4, 5, 6, 7, 8, 9, 10, 11, 12, 13, 14, 15, 16, 17, 18, 19, 20, 21, 22, 23, 24, 25, 26, 27, 28, 29, 30, 31] rfl (by decide +kernel) [q1 100, q2 100, q3 100, q3 6, q3 7, q3 8, q3 9, q3 10, q4 100, q4 1, q4 2, q4 3, q4 4, q5 100, q5 1, q6 100, q6 1, q7 100, q8 100, q8 6, q8 7, q8 8, q8 9, q8 10, q9 100, q9 1, q9 2, q9 3, q9 4, q9 8, q9 9, q9 10] rfl rfl rfl [] ([] : va_W) rfl rfl (n2 := 32) rfl (by decide +kernel) (fun H locs hP hD hS => ?_)
  refine lv_istore_n (lv' := [(3, .int v101), (0, .ref (q1 100)), (1, .int x1), (2, .int x2)]) hx hb dX7_orders_6 rfl hl (by decide) rfl (fun ls hl => ?_)
  refine lv_iload_n hx hb dX7_orders_7 rfl (lv_at hl 0 rfl) ?_
  refine k_if_eq (tgt := 13) hC dX7_orders_8 (by decide) h (fun h => ?_) (fun h => ?_)
  · refine lv_aload_n hx hb dX7_orders_13 rfl (lv_at hl 1 rfl) ?_
    refine k_get (ci := 7) (k := 4) (q0 := 0) (v := .ref (q9 100)) (C := RX7) (T := TX7) (N := 5) hC uX7_orders_X7 hP rfl rfl (by decide) (List.mem_of_getElem? (i := 1) rfl) rfl dX7_orders_14 ?_
    refine lv_aload_n hx hb dX7_orders_17 rfl (lv_at hl 1 rfl) ?_
    refine k_get (ci := 7) (k := 0) (q0 := 0) (v := .ref (q2 100)) (C := RX7) (T := TX7) (N := 5) hC uX7_orders_X7 hP rfl rfl (by decide) (List.mem_of_getElem? (i := 2) rfl) rfl dX7_orders_18 ?_
    refine k_get (ci := 0) (k := 0) (q0 := 1) (v := .ref (q3 100)) (C := RX0) (T := TX0) (N := 3) hC uX7_orders_X0 hP rfl rfl (by decide) (List.mem_of_getElem? (i := 3) rfl) rfl dX7_orders_21 ?_
    refine k_get (ci := 3) (k := 2) (q0 := 2) (v := .int (S3.1 2)) (C := RX3) (T := TX3) (N := 11) hC uX7_orders_X3 hP rfl rfl (by decide) (List.mem_of_getElem? (i := 4) rfl) rfl dX7_orders_24 ?_
    refine lv_aload_n hx hb dX7_orders_27 rfl (lv_at hl 1 rfl) ?_
    refine k_get (ci := 7) (k := 0) (q0 := 0) (v := .ref (q2 100)) (C := RX7) (T := TX7) (N := 5) hC uX7_orders_X7 hP rfl rfl (by decide) (List.mem_of_getElem? (i := 2) rfl) rfl dX7_orders_28 ?_
    refine k_get (ci := 0) (k := 0) (q0 := 1) (v := .ref (q3 100)) (C := RX0) (T := TX0) (N := 3) hC uX7_orders_X0 hP rfl rfl (by decide) (List.mem_of_getElem? (i := 3) rfl) rfl dX7_orders_31 ?_
    refine lv_aload_n hx hb dX7_orders_34 rfl (lv_at hl 1 rfl) ?_
    refine k_get (ci := 7) (k := 0) (q0 := 0) (v := .ref (q2 100)) (C := RX7) (T := TX7) (N := 5) hC uX7_orders_X7 hP rfl rfl (by decide) (List.mem_of_getElem? (i := 2) rfl) rfl dX7_orders_35 ?_
    refine k_get (ci := 0) (k := 1) (q0 := 1) (v := .ref (q4 100)) (C := RX0) (T := TX0) (N := 3) hC uX7_orders_X0 hP rfl rfl (by decide) (List.mem_of_getElem? (i := 5) rfl) rfl dX7_orders_38 ?_
    obtain ⟨S103, hc106, h⟩ := fx_b1_s h
    refine k_callVv (C := RX1) (ci := 1) (qr := 0) (n := 3) (As := [.int (S3.1 2), .ref (q3 100), .ref (q4 100)]) (rest := []) (wc := (wX1 g q9 S102 ++ (wX3 g q3 S3 ++ (wX6 g q4 S4)))) (w1 := (wX1 g q9 S103 ++ (wX3 g q3 S3 ++ (wX6 g q4 S4)))) (ws2 := (wX7 g q1 q2 q6 q7 q9 ++ (wX0 g q2 q3 q4 q5 ++ (wX3 g q3 S3 ++ (wX6 g q4 S4 ++ (wX5 g q5 S5 ++ (wX4 g q6 S6 ++ (wX2 g q7 q8 S7 ++ (wX3 g q8 S8 ++ (wX1 g q9 S103)))))))))) (bytes := cX1_foresee) (maxL := 9) (ret := none) hC hl.1 (c_X1_foresee l g N q9 q3 q4 S102 S3 S4 (S3.1 2) S103 hc106) rfl gX7_orders_X1_foresee (by decide +kernel) rfl rfl ⟨Nat.le_of_ble_eq_true rfl, Nat.le_of_ble_eq_true rfl⟩ rfl rfl rfl (Nat.le_of_ble_eq_true rfl) ⟨Nat.le_of_ble_eq_true rfl, Nat.le_of_ble_eq_true rfl⟩ dX7_orders_41 hP hD hS hA [24, 25, 26, 27, 28, 29, 30, 31, 2, 3, 4, 5, 6, 7, 8, 9, 10, 11, 12] rfl (by decide +kernel) [q9 100, q9 1, q9 2, q9 3, q9 4, q9 8, q9 9, q9 10, q3 100, q3 6, q3 7, q3 8, q3 9, q3 10, q4 100, q4 1, q4 2, q4 3, q4 4] rfl rfl rfl [0, 1, 13, 14, 15, 16, 17, 18, 19, 20, 21, 22, 23] (wX7 g q1 q2 q6 q7 q9 ++ (wX0 g q2 q3 q4 q5 ++ (wX5 g q5 S5 ++ (wX4 g q6 S6 ++ (wX2 g q7 q8 S7 ++ (wX3 g q8 S8)))))) rfl rfl (n2 := 32) rfl (by decide +kernel) (fun H locs hP hD hS => ?_)
    refine lv_aload_n hx hb dX7_orders_44 rfl (lv_at hl 1 rfl) ?_
    refine k_get (ci := 7) (k := 4) (q0 := 0) (v := .ref (q9 100)) (C := RX7) (T := TX7) (N := 5) hC uX7_orders_X7 hP rfl rfl (by decide) (List.mem_of_getElem? (i := 1) rfl) rfl dX7_orders_45 ?_
    refine lv_aload_n hx hb dX7_orders_48 rfl (lv_at hl 1 rfl) ?_
    refine k_get (ci := 7) (k := 0) (q0 := 0) (v := .ref (q2 100)) (C := RX7) (T := TX7) (N := 5) hC uX7_orders_X7 hP rfl rfl (by decide) (List.mem_of_getElem? (i := 2) rfl) rfl dX7_orders_49 ?_
    refine k_get (ci := 0) (k := 0) (q0 := 1) (v := .ref (q3 100)) (C := RX0) (T := TX0) (N := 3) hC uX7_orders_X0 hP rfl rfl (by decide) (List.mem_of_getElem? (i := 3) rfl) rfl dX7_orders_52 ?_
    refine k_get (ci := 3) (k := 1) (q0 := 2) (v := .int (S3.1 1)) (C := RX3) (T := TX3) (N := 11) hC uX7_orders_X3 hP rfl rfl (by decide) (List.mem_of_getElem? (i := 6) rfl) rfl dX7_orders_55 ?_
    obtain ⟨S104, hc105, h⟩ := fx_b1_s h
    refine k_callVv (C := RX1) (ci := 1) (qr := 0) (n := 1) (As := [.int (S3.1 1)]) (rest := []) (wc := (wX1 g q9 S103)) (w1 := (wX1 g q9 S104)) (ws2 := (wX7 g q1 q2 q6 q7 q9 ++ (wX0 g q2 q3 q4 q5 ++ (wX3 g q3 S3 ++ (wX6 g q4 S4 ++ (wX5 g q5 S5 ++ (wX4 g q6 S6 ++ (wX2 g q7 q8 S7 ++ (wX3 g q8 S8 ++ (wX1 g q9 S104)))))))))) (bytes := cX1_tryAllLoaves) (maxL := 2) (ret := none) hC hl.1 (c_X1_tryAllLoaves l g N q9 S103 (S3.1 1) S104 hc105) rfl gX7_orders_X1_tryAllLoaves (by decide +kernel) rfl rfl ⟨Nat.le_of_ble_eq_true rfl, Nat.le_of_ble_eq_true rfl⟩ rfl rfl rfl (Nat.le_of_ble_eq_true rfl) ⟨Nat.le_of_ble_eq_true rfl, Nat.le_of_ble_eq_true rfl⟩ dX7_orders_58 hP hD hS hA [24, 25, 26, 27, 28, 29, 30, 31] rfl (by decide +kernel) [q9 100, q9 1, q9 2, q9 3, q9 4, q9 8, q9 9, q9 10] rfl rfl rfl [0, 1, 2, 3, 4, 5, 6, 7, 8, 9, 10, 11, 12, 13, 14, 15, 16, 17, 18, 19, 20, 21, 22, 23] (wX7 g q1 q2 q6 q7 q9 ++ (wX0 g q2 q3 q4 q5 ++ (wX3 g q3 S3 ++ (wX6 g q4 S4 ++ (wX5 g q5 S5 ++ (wX4 g q6 S6 ++ (wX2 g q7 q8 S7 ++ (wX3 g q8 S8)))))))) rfl rfl (n2 := 32) rfl (by decide +kernel) (fun H locs hP hD hS => ?_)
    refine lv_iload_n hx hb dX7_orders_61 rfl (lv_at hl 3 rfl) ?_
    refine k_if_ne (tgt := 73) hC dX7_orders_62 (by decide) h (fun h => ?_) (fun h => ?_)
    · refine lv_iload_n hx hb dX7_orders_73 rfl (lv_at hl 3 rfl) ?_
      refine lv_iconst (v := (1 : Int32)) hx hb dX7_orders_74 (by decide) ?_
      refine k_icmp_ne (tgt := 88) hC dX7_orders_75 (by decide) h (fun h => ?_) (fun h => ?_)
      · refine lv_aload_n hx hb dX7_orders_88 rfl (lv_at hl 1 rfl) ?_
        refine k_get (ci := 7) (k := 4) (q0 := 0) (v := .ref (q9 100)) (C := RX7) (T := TX7) (N := 5) hC uX7_orders_X7 hP rfl rfl (by decide) (List.mem_of_getElem? (i := 1) rfl) rfl dX7_orders_89 ?_
        refine k_get (ci := 1) (k := 7) (q0 := 24) (v := .int (S104.1 7)) (C := RX1) (T := TX1) (N := 14) hC uX7_orders_X1 hP rfl rfl (by decide) (List.mem_of_getElem? (i := 9) rfl) rfl dX7_orders_92 ?_
        obtain ⟨rfl, rfl⟩ := fx_i2 h
        exact Ci.ret hC hr hlk hA9 hP hD hS dX7_orders_95
      · refine lv_aload_n hx hb dX7_orders_78 rfl (lv_at hl 1 rfl) ?_
        refine k_get (ci := 7) (k := 4) (q0 := 0) (v := .ref (q9 100)) (C := RX7) (T := TX7) (N := 5) hC uX7_orders_X7 hP rfl rfl (by decide) (List.mem_of_getElem? (i := 1) rfl) rfl dX7_orders_79 ?_
        refine k_get (ci := 1) (k := 6) (q0 := 24) (v := .int (S104.1 6)) (C := RX1) (T := TX1) (N := 14) hC uX7_orders_X1 hP rfl rfl (by decide) (List.mem_of_getElem? (i := 8) rfl) rfl dX7_orders_82 ?_
        refine lv_goto (tgt := 95) hx hb dX7_orders_85 (by decide) ?_
        obtain ⟨rfl, rfl⟩ := fx_i2 h
        exact Ci.ret hC hr hlk hA9 hP hD hS dX7_orders_95
    · refine lv_aload_n hx hb dX7_orders_65 rfl (lv_at hl 1 rfl) ?_
      refine k_get (ci := 7) (k := 4) (q0 := 0) (v := .ref (q9 100)) (C := RX7) (T := TX7) (N := 5) hC uX7_orders_X7 hP rfl rfl (by decide) (List.mem_of_getElem? (i := 1) rfl) rfl dX7_orders_66 ?_
      refine k_get (ci := 1) (k := 5) (q0 := 24) (v := .int (S104.1 5)) (C := RX1) (T := TX1) (N := 14) hC uX7_orders_X1 hP rfl rfl (by decide) (List.mem_of_getElem? (i := 7) rfl) rfl dX7_orders_69 ?_
      obtain ⟨rfl, rfl⟩ := fx_i2 h
      exact Ci.ret hC hr hlk hA9 hP hD hS dX7_orders_72
  · refine lv_iload_n hx hb dX7_orders_11 rfl (lv_at hl 0 rfl) ?_
    obtain ⟨rfl, rfl⟩ := fx_i2 h
    exact Ci.ret hC hr hlk hA9 hP hD hS dX7_orders_12
theorem uX7_two_X0 : ∀ w ∈ u_ws RX0 TX0 3, w ∈ wsX7_two := fun w h => List.mem_cons_of_mem _ (List.mem_append_left _ (List.mem_append_left _ (List.mem_append_right _ h)))
theorem uX7_two_X1 : ∀ w ∈ u_ws RX1 TX1 14, w ∈ wsX7_two := fun w h => List.mem_cons_of_mem _ (List.mem_append_left _ (List.mem_append_left _ (List.mem_append_left _ (List.mem_append_right _ h))))
theorem uX7_two_X3 : ∀ w ∈ u_ws RX3 TX3 11, w ∈ wsX7_two := fun w h => List.mem_cons_of_mem _ (List.mem_append_left _ (List.mem_append_right _ h))
theorem uX7_two_X7 : ∀ w ∈ u_ws RX7 TX7 5, w ∈ wsX7_two := fun w h => List.mem_cons_of_mem _ (List.mem_append_left _ (List.mem_append_left _ (List.mem_append_left _ (List.mem_append_left _ (List.mem_append_right _ h)))))
abbrev RM_X7_two : Room := { frames := 5, cells := 0, slots := 0, locals := 124 }
def f_X7_two (N : Nat) (S3 : St) (S4 : St) (S5 : St) (S6 : St) (S7 : St) (S8 : St) (S9 : St) (x1 : Int32) (x2 : Int32) : Option (Int32 × St) :=
  fx_b2 (f_X7_refuseLoaves N S3 S4 S5 S6 S7 S8 S9 x1 x2) (fun v101 S102 =>
  (if v101 = 0 then (
  (if (S102.1 0) ≤ (4 : Int32) then (
    (if (2 : Int32) ≤ (S3.1 0) then (
      fx_b1 (f_X1_foresee N S102 S3 S4 (S3.1 2)) (fun S103 =>
        fx_b1 (f_X1_shareOut N S103 S4 (S3.1 1)) (fun S104 =>
        (if x2 = 0 then (
        some ((S104.1 11), S104)) else (
        (if x2 = (1 : Int32) then (
          some ((S104.1 12), S104)) else (
          some ((S104.1 13), S104)))))))) else (
      some ((-3 : Int32), S102)))) else (
    some ((-4 : Int32), S102)))) else (
  some (v101, S102))))
set_option maxRecDepth 100000 in
set_option maxHeartbeats 4000000 in
theorem c_X7_two (l : Launch) (g : GG) (N : Nat) (q1 : Nat → Nat) (q2 : Nat → Nat) (q3 : Nat → Nat) (q4 : Nat → Nat) (q5 : Nat → Nat) (q6 : Nat → Nat) (q7 : Nat → Nat) (q8 : Nat → Nat) (q9 : Nat → Nat) (S3 : St) (S4 : St) (S5 : St) (S6 : St) (S7 : St) (S8 : St) (S9 : St) (x1 : Int32) (x2 : Int32) (r : Int32) (F9 : St) (h : f_X7_two N S3 S4 S5 S6 S7 S8 S9 x1 x2 = some (r, F9)) : Ci l yX7_two wsX7_two RM_X7_two g [.ref (q1 100), .int x1, .int x2] (wX7 g q1 q2 q6 q7 q9 ++ (wX0 g q2 q3 q4 q5 ++ (wX3 g q3 S3 ++ (wX6 g q4 S4 ++ (wX5 g q5 S5 ++ (wX4 g q6 S6 ++ (wX2 g q7 q8 S7 ++ (wX3 g q8 S8 ++ (wX1 g q9 S9))))))))) (wX7 g q1 q2 q6 q7 q9 ++ (wX0 g q2 q3 q4 q5 ++ (wX3 g q3 S3 ++ (wX6 g q4 S4 ++ (wX5 g q5 S5 ++ (wX4 g q6 S6 ++ (wX2 g q7 q8 S7 ++ (wX3 g q8 S8 ++ (wX1 g q9 F9))))))))) r := by
  intro sz
  refine Met.ofC (cc := cX7_two) (maxL := 4) (ret := (some .int)) (by decide) rfl (Nat.le_of_ble_eq_true rfl) ?_
  intro p e s m below meth c hC hr hlk hsz A hA9 hA hP hD hS ls hl
  subst hsz
  have hC : Cx p s m ([.ref (q1 100), .int x1, .int x2] : List Value).toArray c RX7 cX7_two 4 wsX7_two g := hC
  have hx := hC.1.1
  have hb := hC.1.2.1
  have hml := hC.1.2.2.1
  have hown := hC.1.2.2.2.1
  have hts := hC.1.2.2.2.2
  have hl : lv_has ls 4 [(0, .ref (q1 100)), (1, .int x1), (2, .int x2)] := hl
  show W p l e RM_X7_two s m ([.ref (q1 100), .int x1, .int x2] : List Value).toArray below meth c s.heap [] 0 0 (Qi below g [.ref (q1 100), .int x1, .int x2] (wX7 g q1 q2 q6 q7 q9 ++ (wX0 g q2 q3 q4 q5 ++ (wX3 g q3 S3 ++ (wX6 g q4 S4 ++ (wX5 g q5 S5 ++ (wX4 g q6 S6 ++ (wX2 g q7 q8 S7 ++ (wX3 g q8 S8 ++ (wX1 g q9 S9))))))))) (wX7 g q1 q2 q6 q7 q9 ++ (wX0 g q2 q3 q4 q5 ++ (wX3 g q3 S3 ++ (wX6 g q4 S4 ++ (wX5 g q5 S5 ++ (wX4 g q6 S6 ++ (wX2 g q7 q8 S7 ++ (wX3 g q8 S8 ++ (wX1 g q9 F9))))))))) r s) (F0 m 0 ls [])
  unfold f_X7_two at h
  refine lv_aload_n hx hb dX7_two_0 rfl (lv_at hl 0 rfl) ?_
  refine lv_iload_n hx hb dX7_two_1 rfl (lv_at hl 1 rfl) ?_
  refine lv_iload_n hx hb dX7_two_2 rfl (lv_at hl 2 rfl) ?_
  obtain ⟨v101, S102, hc107, h⟩ := fx_b2_s h
  refine k_callVi (C := RX7) (ci := 7) (qr := 0) (n := 2) (As := [.int x1, .int x2]) (rest := []) (wc := (wX7 g q1 q2 q6 q7 q9 ++ (wX0 g q2 q3 q4 q5 ++ (wX3 g q3 S3 ++ (wX6 g q4 S4 ++ (wX5 g q5 S5 ++ (wX4 g q6 S6 ++ (wX2 g q7 q8 S7 ++ (wX3 g q8 S8 ++ (wX1 g q9 S9)))))))))) (w1 := (wX7 g q1 q2 q6 q7 q9 ++ (wX0 g q2 q3 q4 q5 ++ (wX3 g q3 S3 ++ (wX6 g q4 S4 ++ (wX5 g q5 S5 ++ (wX4 g q6 S6 ++ (wX2 g q7 q8 S7 ++ (wX3 g q8 S8 ++ (wX1 g q9 S102)))))))))) (ws2 := (wX7 g q1 q2 q6 q7 q9 ++ (wX0 g q2 q3 q4 q5 ++ (wX3 g q3 S3 ++ (wX6 g q4 S4 ++ (wX5 g q5 S5 ++ (wX4 g q6 S6 ++ (wX2 g q7 q8 S7 ++ (wX3 g q8 S8 ++ (wX1 g q9 S102)))))))))) (bytes := cX7_refuseLoaves) (maxL := 3) (ret := (some .int)) hC hl.1 (c_X7_refuseLoaves l g N q1 q2 q3 q4 q5 q6 q7 q8 q9 S3 S4 S5 S6 S7 S8 S9 x1 x2 v101 S102 hc107) rfl gX7_two_X7_refuseLoaves (by decide +kernel) rfl rfl ⟨Nat.le_of_ble_eq_true rfl, Nat.le_of_ble_eq_true rfl⟩ rfl rfl rfl (Nat.le_of_ble_eq_true rfl) ⟨Nat.le_of_ble_eq_true rfl, Nat.le_of_ble_eq_true rfl⟩ dX7_two_3 hP hD hS hA [0, 1, 2, 3, 4, 5, 6, 7, 8, 9, 10, 11, 12, 13, 14, 15, 16, 17, 18, 19, 20, 21, 22, 23, 24, 25, 26, 27, 28, 29, 30, 31] rfl (by decide +kernel) [q1 100, q2 100, q3 100, q3 6, q3 7, q3 8, q3 9, q3 10, q4 100, q4 1, q4 2, q4 3, q4 4, q5 100, q5 1, q6 100, q6 1, q7 100, q8 100, q8 6, q8 7, q8 8, q8 9, q8 10, q9 100, q9 1, q9 2, q9 3, q9 4, q9 8, q9 9, q9 10] rfl rfl rfl [] ([] : va_W) rfl rfl (n2 := 32) rfl (by decide +kernel) (fun H locs hP hD hS => ?_)
  refine lv_istore_n (lv' := [(3, .int v101), (0, .ref (q1 100)), (1, .int x1), (2, .int x2)]) hx hb dX7_two_6 rfl hl (by decide) rfl (fun ls hl => ?_)
  refine lv_iload_n hx hb dX7_two_7 rfl (lv_at hl 0 rfl) ?_
  refine k_if_eq (tgt := 13) hC dX7_two_8 (by decide) h (fun h => ?_) (fun h => ?_)
  · refine lv_aload_n hx hb dX7_two_13 rfl (lv_at hl 1 rfl) ?_
    refine k_get (ci := 7) (k := 4) (q0 := 0) (v := .ref (q9 100)) (C := RX7) (T := TX7) (N := 5) hC uX7_two_X7 hP rfl rfl (by decide) (List.mem_of_getElem? (i := 1) rfl) rfl dX7_two_14 ?_
    refine k_get (ci := 1) (k := 0) (q0 := 24) (v := .int (S102.1 0)) (C := RX1) (T := TX1) (N := 14) hC uX7_two_X1 hP rfl rfl (by decide) (List.mem_of_getElem? (i := 2) rfl) rfl dX7_two_17 ?_
    refine lv_iconst (v := (4 : Int32)) hx hb dX7_two_20 (by decide) ?_
    refine k_icmp_le (tgt := 27) hC dX7_two_21 (by decide) h (fun h => ?_) (fun h => ?_)
    · refine lv_aload_n hx hb dX7_two_27 rfl (lv_at hl 1 rfl) ?_
      refine k_get (ci := 7) (k := 0) (q0 := 0) (v := .ref (q2 100)) (C := RX7) (T := TX7) (N := 5) hC uX7_two_X7 hP rfl rfl (by decide) (List.mem_of_getElem? (i := 3) rfl) rfl dX7_two_28 ?_
      refine k_get (ci := 0) (k := 0) (q0 := 1) (v := .ref (q3 100)) (C := RX0) (T := TX0) (N := 3) hC uX7_two_X0 hP rfl rfl (by decide) (List.mem_of_getElem? (i := 4) rfl) rfl dX7_two_31 ?_
      refine k_get (ci := 3) (k := 0) (q0 := 2) (v := .int (S3.1 0)) (C := RX3) (T := TX3) (N := 11) hC uX7_two_X3 hP rfl rfl (by decide) (List.mem_of_getElem? (i := 5) rfl) rfl dX7_two_34 ?_
      refine lv_iconst (v := (2 : Int32)) hx hb dX7_two_37 (by decide) ?_
      refine k_icmp_ge (tgt := 44) hC dX7_two_38 (by decide) h (fun h => ?_) (fun h => ?_)
      · refine lv_aload_n hx hb dX7_two_44 rfl (lv_at hl 1 rfl) ?_
        refine k_get (ci := 7) (k := 4) (q0 := 0) (v := .ref (q9 100)) (C := RX7) (T := TX7) (N := 5) hC uX7_two_X7 hP rfl rfl (by decide) (List.mem_of_getElem? (i := 1) rfl) rfl dX7_two_45 ?_
        refine lv_aload_n hx hb dX7_two_48 rfl (lv_at hl 1 rfl) ?_
        refine k_get (ci := 7) (k := 0) (q0 := 0) (v := .ref (q2 100)) (C := RX7) (T := TX7) (N := 5) hC uX7_two_X7 hP rfl rfl (by decide) (List.mem_of_getElem? (i := 3) rfl) rfl dX7_two_49 ?_
        refine k_get (ci := 0) (k := 0) (q0 := 1) (v := .ref (q3 100)) (C := RX0) (T := TX0) (N := 3) hC uX7_two_X0 hP rfl rfl (by decide) (List.mem_of_getElem? (i := 4) rfl) rfl dX7_two_52 ?_
        refine k_get (ci := 3) (k := 2) (q0 := 2) (v := .int (S3.1 2)) (C := RX3) (T := TX3) (N := 11) hC uX7_two_X3 hP rfl rfl (by decide) (List.mem_of_getElem? (i := 6) rfl) rfl dX7_two_55 ?_
        refine lv_aload_n hx hb dX7_two_58 rfl (lv_at hl 1 rfl) ?_
        refine k_get (ci := 7) (k := 0) (q0 := 0) (v := .ref (q2 100)) (C := RX7) (T := TX7) (N := 5) hC uX7_two_X7 hP rfl rfl (by decide) (List.mem_of_getElem? (i := 3) rfl) rfl dX7_two_59 ?_
        refine k_get (ci := 0) (k := 0) (q0 := 1) (v := .ref (q3 100)) (C := RX0) (T := TX0) (N := 3) hC uX7_two_X0 hP rfl rfl (by decide) (List.mem_of_getElem? (i := 4) rfl) rfl dX7_two_62 ?_
        refine lv_aload_n hx hb dX7_two_65 rfl (lv_at hl 1 rfl) ?_
        refine k_get (ci := 7) (k := 0) (q0 := 0) (v := .ref (q2 100)) (C := RX7) (T := TX7) (N := 5) hC uX7_two_X7 hP rfl rfl (by decide) (List.mem_of_getElem? (i := 3) rfl) rfl dX7_two_66 ?_
        refine k_get (ci := 0) (k := 1) (q0 := 1) (v := .ref (q4 100)) (C := RX0) (T := TX0) (N := 3) hC uX7_two_X0 hP rfl rfl (by decide) (List.mem_of_getElem? (i := 7) rfl) rfl dX7_two_69 ?_
        obtain ⟨S103, hc106, h⟩ := fx_b1_s h
        refine k_callVv (C := RX1) (ci := 1) (qr := 0) (n := 3) (As := [.int (S3.1 2), .ref (q3 100), .ref (q4 100)]) (rest := []) (wc := (wX1 g q9 S102 ++ (wX3 g q3 S3 ++ (wX6 g q4 S4)))) (w1 := (wX1 g q9 S103 ++ (wX3 g q3 S3 ++ (wX6 g q4 S4)))) (ws2 := (wX7 g q1 q2 q6 q7 q9 ++ (wX0 g q2 q3 q4 q5 ++ (wX3 g q3 S3 ++ (wX6 g q4 S4 ++ (wX5 g q5 S5 ++ (wX4 g q6 S6 ++ (wX2 g q7 q8 S7 ++ (wX3 g q8 S8 ++ (wX1 g q9 S103)))))))))) (bytes := cX1_foresee) (maxL := 9) (ret := none) hC hl.1 (c_X1_foresee l g N q9 q3 q4 S102 S3 S4 (S3.1 2) S103 hc106) rfl gX7_two_X1_foresee (by decide +kernel) rfl rfl ⟨Nat.le_of_ble_eq_true rfl, Nat.le_of_ble_eq_true rfl⟩ rfl rfl rfl (Nat.le_of_ble_eq_true rfl) ⟨Nat.le_of_ble_eq_true rfl, Nat.le_of_ble_eq_true rfl⟩ dX7_two_72 hP hD hS hA [24, 25, 26, 27, 28, 29, 30, 31, 2, 3, 4, 5, 6, 7, 8, 9, 10, 11, 12] rfl (by decide +kernel) [q9 100, q9 1, q9 2, q9 3, q9 4, q9 8, q9 9, q9 10, q3 100, q3 6, q3 7, q3 8, q3 9, q3 10, q4 100, q4 1, q4 2, q4 3, q4 4] rfl rfl rfl [0, 1, 13, 14, 15, 16, 17, 18, 19, 20, 21, 22, 23] (wX7 g q1 q2 q6 q7 q9 ++ (wX0 g q2 q3 q4 q5 ++ (wX5 g q5 S5 ++ (wX4 g q6 S6 ++ (wX2 g q7 q8 S7 ++ (wX3 g q8 S8)))))) rfl rfl (n2 := 32) rfl (by decide +kernel) (fun H locs hP hD hS => ?_)
        refine lv_aload_n hx hb dX7_two_75 rfl (lv_at hl 1 rfl) ?_
        refine k_get (ci := 7) (k := 4) (q0 := 0) (v := .ref (q9 100)) (C := RX7) (T := TX7) (N := 5) hC uX7_two_X7 hP rfl rfl (by decide) (List.mem_of_getElem? (i := 1) rfl) rfl dX7_two_76 ?_
        refine lv_aload_n hx hb dX7_two_79 rfl (lv_at hl 1 rfl) ?_
        refine k_get (ci := 7) (k := 0) (q0 := 0) (v := .ref (q2 100)) (C := RX7) (T := TX7) (N := 5) hC uX7_two_X7 hP rfl rfl (by decide) (List.mem_of_getElem? (i := 3) rfl) rfl dX7_two_80 ?_
        refine k_get (ci := 0) (k := 0) (q0 := 1) (v := .ref (q3 100)) (C := RX0) (T := TX0) (N := 3) hC uX7_two_X0 hP rfl rfl (by decide) (List.mem_of_getElem? (i := 4) rfl) rfl dX7_two_83 ?_
        refine k_get (ci := 3) (k := 1) (q0 := 2) (v := .int (S3.1 1)) (C := RX3) (T := TX3) (N := 11) hC uX7_two_X3 hP rfl rfl (by decide) (List.mem_of_getElem? (i := 8) rfl) rfl dX7_two_86 ?_
        refine lv_aload_n hx hb dX7_two_89 rfl (lv_at hl 1 rfl) ?_
        refine k_get (ci := 7) (k := 0) (q0 := 0) (v := .ref (q2 100)) (C := RX7) (T := TX7) (N := 5) hC uX7_two_X7 hP rfl rfl (by decide) (List.mem_of_getElem? (i := 3) rfl) rfl dX7_two_90 ?_
        refine k_get (ci := 0) (k := 1) (q0 := 1) (v := .ref (q4 100)) (C := RX0) (T := TX0) (N := 3) hC uX7_two_X0 hP rfl rfl (by decide) (List.mem_of_getElem? (i := 7) rfl) rfl dX7_two_93 ?_
        obtain ⟨S104, hc105, h⟩ := fx_b1_s h
        refine k_callVv (C := RX1) (ci := 1) (qr := 0) (n := 2) (As := [.int (S3.1 1), .ref (q4 100)]) (rest := []) (wc := (wX1 g q9 S103 ++ (wX6 g q4 S4))) (w1 := (wX1 g q9 S104 ++ (wX6 g q4 S4))) (ws2 := (wX7 g q1 q2 q6 q7 q9 ++ (wX0 g q2 q3 q4 q5 ++ (wX3 g q3 S3 ++ (wX6 g q4 S4 ++ (wX5 g q5 S5 ++ (wX4 g q6 S6 ++ (wX2 g q7 q8 S7 ++ (wX3 g q8 S8 ++ (wX1 g q9 S104)))))))))) (bytes := cX1_shareOut) (maxL := 6) (ret := none) hC hl.1 (c_X1_shareOut l g N q9 q4 S103 S4 (S3.1 1) S104 hc105) rfl gX7_two_X1_shareOut (by decide +kernel) rfl rfl ⟨Nat.le_of_ble_eq_true rfl, Nat.le_of_ble_eq_true rfl⟩ rfl rfl rfl (Nat.le_of_ble_eq_true rfl) ⟨Nat.le_of_ble_eq_true rfl, Nat.le_of_ble_eq_true rfl⟩ dX7_two_96 hP hD hS hA [24, 25, 26, 27, 28, 29, 30, 31, 8, 9, 10, 11, 12] rfl (by decide +kernel) [q9 100, q9 1, q9 2, q9 3, q9 4, q9 8, q9 9, q9 10, q4 100, q4 1, q4 2, q4 3, q4 4] rfl rfl rfl [0, 1, 2, 3, 4, 5, 6, 7, 13, 14, 15, 16, 17, 18, 19, 20, 21, 22, 23] (wX7 g q1 q2 q6 q7 q9 ++ (wX0 g q2 q3 q4 q5 ++ (wX3 g q3 S3 ++ (wX5 g q5 S5 ++ (wX4 g q6 S6 ++ (wX2 g q7 q8 S7 ++ (wX3 g q8 S8))))))) rfl rfl (n2 := 32) rfl (by decide +kernel) (fun H locs hP hD hS => ?_)
        refine lv_iload_n hx hb dX7_two_99 rfl (lv_at hl 3 rfl) ?_
        refine k_if_ne (tgt := 111) hC dX7_two_100 (by decide) h (fun h => ?_) (fun h => ?_)
        · refine lv_iload_n hx hb dX7_two_111 rfl (lv_at hl 3 rfl) ?_
          refine lv_iconst (v := (1 : Int32)) hx hb dX7_two_112 (by decide) ?_
          refine k_icmp_ne (tgt := 126) hC dX7_two_113 (by decide) h (fun h => ?_) (fun h => ?_)
          · refine lv_aload_n hx hb dX7_two_126 rfl (lv_at hl 1 rfl) ?_
            refine k_get (ci := 7) (k := 4) (q0 := 0) (v := .ref (q9 100)) (C := RX7) (T := TX7) (N := 5) hC uX7_two_X7 hP rfl rfl (by decide) (List.mem_of_getElem? (i := 1) rfl) rfl dX7_two_127 ?_
            refine k_get (ci := 1) (k := 13) (q0 := 24) (v := .int (S104.1 13)) (C := RX1) (T := TX1) (N := 14) hC uX7_two_X1 hP rfl rfl (by decide) (List.mem_of_getElem? (i := 11) rfl) rfl dX7_two_130 ?_
            obtain ⟨rfl, rfl⟩ := fx_i2 h
            exact Ci.ret hC hr hlk hA9 hP hD hS dX7_two_133
          · refine lv_aload_n hx hb dX7_two_116 rfl (lv_at hl 1 rfl) ?_
            refine k_get (ci := 7) (k := 4) (q0 := 0) (v := .ref (q9 100)) (C := RX7) (T := TX7) (N := 5) hC uX7_two_X7 hP rfl rfl (by decide) (List.mem_of_getElem? (i := 1) rfl) rfl dX7_two_117 ?_
            refine k_get (ci := 1) (k := 12) (q0 := 24) (v := .int (S104.1 12)) (C := RX1) (T := TX1) (N := 14) hC uX7_two_X1 hP rfl rfl (by decide) (List.mem_of_getElem? (i := 10) rfl) rfl dX7_two_120 ?_
            refine lv_goto (tgt := 133) hx hb dX7_two_123 (by decide) ?_
            obtain ⟨rfl, rfl⟩ := fx_i2 h
            exact Ci.ret hC hr hlk hA9 hP hD hS dX7_two_133
        · refine lv_aload_n hx hb dX7_two_103 rfl (lv_at hl 1 rfl) ?_
          refine k_get (ci := 7) (k := 4) (q0 := 0) (v := .ref (q9 100)) (C := RX7) (T := TX7) (N := 5) hC uX7_two_X7 hP rfl rfl (by decide) (List.mem_of_getElem? (i := 1) rfl) rfl dX7_two_104 ?_
          refine k_get (ci := 1) (k := 11) (q0 := 24) (v := .int (S104.1 11)) (C := RX1) (T := TX1) (N := 14) hC uX7_two_X1 hP rfl rfl (by decide) (List.mem_of_getElem? (i := 9) rfl) rfl dX7_two_107 ?_
          obtain ⟨rfl, rfl⟩ := fx_i2 h
          exact Ci.ret hC hr hlk hA9 hP hD hS dX7_two_110
      · refine lv_bipush (v := (-3 : Int32)) hx hb dX7_two_41 (by decide) ?_
        obtain ⟨rfl, rfl⟩ := fx_i2 h
        exact Ci.ret hC hr hlk hA9 hP hD hS dX7_two_43
    · refine lv_bipush (v := (-4 : Int32)) hx hb dX7_two_24 (by decide) ?_
      obtain ⟨rfl, rfl⟩ := fx_i2 h
      exact Ci.ret hC hr hlk hA9 hP hD hS dX7_two_26
  · refine lv_iload_n hx hb dX7_two_11 rfl (lv_at hl 0 rfl) ?_
    obtain ⟨rfl, rfl⟩ := fx_i2 h
    exact Ci.ret hC hr hlk hA9 hP hD hS dX7_two_12
theorem uX7_warm_X0 : ∀ w ∈ u_ws RX0 TX0 3, w ∈ wsX7_warm := fun w h => List.mem_cons_of_mem _ (List.mem_append_left _ (List.mem_append_left _ (List.mem_append_right _ h)))
theorem uX7_warm_X1 : ∀ w ∈ u_ws RX1 TX1 14, w ∈ wsX7_warm := fun w h => List.mem_cons_of_mem _ (List.mem_append_left _ (List.mem_append_left _ (List.mem_append_left _ (List.mem_append_right _ h))))
theorem uX7_warm_X3 : ∀ w ∈ u_ws RX3 TX3 11, w ∈ wsX7_warm := fun w h => List.mem_cons_of_mem _ (List.mem_append_left _ (List.mem_append_right _ h))
theorem uX7_warm_X7 : ∀ w ∈ u_ws RX7 TX7 5, w ∈ wsX7_warm := fun w h => List.mem_cons_of_mem _ (List.mem_append_left _ (List.mem_append_left _ (List.mem_append_left _ (List.mem_append_left _ (List.mem_append_right _ h)))))
abbrev RM_X7_warm : Room := { frames := 5, cells := 0, slots := 0, locals := 110 }
def bd_X7_warm_38 (N : Nat) (S3 : St) (S4 : St) (S5 : St) (S6 : St) (S7 : St) (S8 : St) (x3 : Int32) (S9 : St) (rec : (Int32 × St) → Option (Nat × Int32 × St)) : Option (Nat × Int32 × St) :=
  (if (99 : Int32) < x3 then (
    some (1, (0 : Int32), S9)) else (
    fx_b1 (f_X1_foresee N S9 S3 S4 x3) (fun S101 =>
      fx_b2 (f_X1_hasSomeOrder N S101) (fun v102 S103 =>
      (if v102 = 0 then (
      fx_lt (x3 + (1 : Int32)) (fun x104 =>
        rec (x104, S103))) else (
      some (0, x3, S103)))))))
def lf_X7_warm_38 (N : Nat) (S3 : St) (S4 : St) (S5 : St) (S6 : St) (S7 : St) (S8 : St) : (Int32 × St) → ((Int32 × St) → Option (Nat × Int32 × St)) → Option (Nat × Int32 × St) := fun x rec => bd_X7_warm_38 N S3 S4 S5 S6 S7 S8 x.1 x.2 rec
set_option maxRecDepth 100000 in
set_option maxHeartbeats 4000000 in
theorem lw_X7_warm_38 {p : Program} {l : Launch} {e : Env} {s : State} {m : MethodId} {args : Array Value} {below : List Frame} {meth : Method} {c : Code} {Q : State → Prop} {A : Nat → Prop} {H0 : Heap} {g : GG} (hC : Cx p s m args c RX7 cX7_warm 4 wsX7_warm g) (hA : ∀ q : Nat, H0.size ≤ q → A q) (N : Nat) (q1 : Nat → Nat) (q2 : Nat → Nat) (q3 : Nat → Nat) (q4 : Nat → Nat) (q5 : Nat → Nat) (q6 : Nat → Nat) (q7 : Nat → Nat) (q8 : Nat → Nat) (q9 : Nat → Nat) (S3 : St) (S4 : St) (S5 : St) (S6 : St) (S7 : St) (S8 : St) : ∀ (n : Nat) (x3 : Int32) (S9 : St) (o : Nat × Int32 × St), fx_it (lf_X7_warm_38 N S3 S4 S5 S6 S7 S8) n (x3, S9) = some o → ∀ (H : Heap) (locs : List Loc) (ls : Array Slot), va_P g.1 vwCl (wX7 g q1 q2 q6 q7 q9 ++ (wX0 g q2 q3 q4 q5 ++ (wX3 g q3 S3 ++ (wX6 g q4 S4 ++ (wX5 g q5 S5 ++ (wX4 g q6 S6 ++ (wX2 g q7 q8 S7 ++ (wX3 g q8 S8 ++ (wX1 g q9 S9))))))))) H → va_D A (wX7 g q1 q2 q6 q7 q9 ++ (wX0 g q2 q3 q4 q5 ++ (wX3 g q3 S3 ++ (wX6 g q4 S4 ++ (wX5 g q5 S5 ++ (wX4 g q6 S6 ++ (wX2 g q7 q8 S7 ++ (wX3 g q8 S8 ++ (wX1 g q9 S9))))))))) → va_S A H0 H locs → lv_has ls 4 [(0, .ref (q1 100)), (3, .int x3)] → (∀ (z0 : Int32) (Z0 : St), o = (0, z0, Z0) → ∀ (H : Heap) (locs : List Loc) (ls : Array Slot), va_P g.1 vwCl (wX7 g q1 q2 q6 q7 q9 ++ (wX0 g q2 q3 q4 q5 ++ (wX3 g q3 S3 ++ (wX6 g q4 S4 ++ (wX5 g q5 S5 ++ (wX4 g q6 S6 ++ (wX2 g q7 q8 S7 ++ (wX3 g q8 S8 ++ (wX1 g q9 Z0))))))))) H → va_D A (wX7 g q1 q2 q6 q7 q9 ++ (wX0 g q2 q3 q4 q5 ++ (wX3 g q3 S3 ++ (wX6 g q4 S4 ++ (wX5 g q5 S5 ++ (wX4 g q6 S6 ++ (wX2 g q7 q8 S7 ++ (wX3 g q8 S8 ++ (wX1 g q9 Z0))))))))) → va_S A H0 H locs → lv_has ls 4 [(3, .int z0)] → W p l e RM_X7_warm s m args below meth c H locs 0 0 Q (F0 m 76 ls [])) → (∀ (z0 : Int32) (Z0 : St), o = (1, z0, Z0) → ∀ (H : Heap) (locs : List Loc) (ls : Array Slot), va_P g.1 vwCl (wX7 g q1 q2 q6 q7 q9 ++ (wX0 g q2 q3 q4 q5 ++ (wX3 g q3 S3 ++ (wX6 g q4 S4 ++ (wX5 g q5 S5 ++ (wX4 g q6 S6 ++ (wX2 g q7 q8 S7 ++ (wX3 g q8 S8 ++ (wX1 g q9 Z0))))))))) H → va_D A (wX7 g q1 q2 q6 q7 q9 ++ (wX0 g q2 q3 q4 q5 ++ (wX3 g q3 S3 ++ (wX6 g q4 S4 ++ (wX5 g q5 S5 ++ (wX4 g q6 S6 ++ (wX2 g q7 q8 S7 ++ (wX3 g q8 S8 ++ (wX1 g q9 Z0))))))))) → va_S A H0 H locs → lv_has ls 4 [] → W p l e RM_X7_warm s m args below meth c H locs 0 0 Q (F0 m 84 ls [])) → W p l e RM_X7_warm s m args below meth c H locs 0 0 Q (F0 m 38 ls []) := by
  have hx := hC.1.1
  have hb := hC.1.2.1
  have hml := hC.1.2.2.1
  have hown := hC.1.2.2.2.1
  have hts := hC.1.2.2.2.2
  intro n
  induction n with
  | zero => intro x3 S9 o h; cases h
  | succ n ih =>
    intro x3 S9 o h H locs ls hP hD hS hl k0 k1
    have h : bd_X7_warm_38 N S3 S4 S5 S6 S7 S8 x3 S9 (fx_it (lf_X7_warm_38 N S3 S4 S5 S6 S7 S8) n) = some o := h
    unfold bd_X7_warm_38 at h
    refine lv_iload_n hx hb dX7_warm_38 rfl (lv_at hl 1 rfl) ?_
    refine lv_bipush (v := (99 : Int32)) hx hb dX7_warm_39 (by decide) ?_
    refine k_icmp_gt (tgt := 84) hC dX7_warm_41 (by decide) h (fun h => ?_) (fun h => ?_)
    · exact k1 (0 : Int32) S9 (Option.some.inj h).symm _ _ _ hP hD hS (lv_sub hl [] rfl)
    · refine lv_aload_n hx hb dX7_warm_44 rfl (lv_at hl 0 rfl) ?_
      refine k_get (ci := 7) (k := 4) (q0 := 0) (v := .ref (q9 100)) (C := RX7) (T := TX7) (N := 5) hC uX7_warm_X7 hP rfl rfl (by decide) (List.mem_of_getElem? (i := 1) rfl) rfl dX7_warm_45 ?_
      refine lv_iload_n hx hb dX7_warm_48 rfl (lv_at hl 1 rfl) ?_
      refine lv_aload_n hx hb dX7_warm_49 rfl (lv_at hl 0 rfl) ?_
      refine k_get (ci := 7) (k := 0) (q0 := 0) (v := .ref (q2 100)) (C := RX7) (T := TX7) (N := 5) hC uX7_warm_X7 hP rfl rfl (by decide) (List.mem_of_getElem? (i := 3) rfl) rfl dX7_warm_50 ?_
      refine k_get (ci := 0) (k := 0) (q0 := 1) (v := .ref (q3 100)) (C := RX0) (T := TX0) (N := 3) hC uX7_warm_X0 hP rfl rfl (by decide) (List.mem_of_getElem? (i := 4) rfl) rfl dX7_warm_53 ?_
      refine lv_aload_n hx hb dX7_warm_56 rfl (lv_at hl 0 rfl) ?_
      refine k_get (ci := 7) (k := 0) (q0 := 0) (v := .ref (q2 100)) (C := RX7) (T := TX7) (N := 5) hC uX7_warm_X7 hP rfl rfl (by decide) (List.mem_of_getElem? (i := 3) rfl) rfl dX7_warm_57 ?_
      refine k_get (ci := 0) (k := 1) (q0 := 1) (v := .ref (q4 100)) (C := RX0) (T := TX0) (N := 3) hC uX7_warm_X0 hP rfl rfl (by decide) (List.mem_of_getElem? (i := 6) rfl) rfl dX7_warm_60 ?_
      obtain ⟨S101, hc106, h⟩ := fx_b1_s h
      refine k_callVv (C := RX1) (ci := 1) (qr := 0) (n := 3) (As := [.int x3, .ref (q3 100), .ref (q4 100)]) (rest := []) (wc := (wX1 g q9 S9 ++ (wX3 g q3 S3 ++ (wX6 g q4 S4)))) (w1 := (wX1 g q9 S101 ++ (wX3 g q3 S3 ++ (wX6 g q4 S4)))) (ws2 := (wX7 g q1 q2 q6 q7 q9 ++ (wX0 g q2 q3 q4 q5 ++ (wX3 g q3 S3 ++ (wX6 g q4 S4 ++ (wX5 g q5 S5 ++ (wX4 g q6 S6 ++ (wX2 g q7 q8 S7 ++ (wX3 g q8 S8 ++ (wX1 g q9 S101)))))))))) (bytes := cX1_foresee) (maxL := 9) (ret := none) hC hl.1 (c_X1_foresee l g N q9 q3 q4 S9 S3 S4 x3 S101 hc106) rfl gX7_warm_X1_foresee (by decide +kernel) rfl rfl ⟨Nat.le_of_ble_eq_true rfl, Nat.le_of_ble_eq_true rfl⟩ rfl rfl rfl (Nat.le_of_ble_eq_true rfl) ⟨Nat.le_of_ble_eq_true rfl, Nat.le_of_ble_eq_true rfl⟩ dX7_warm_63 hP hD hS hA [24, 25, 26, 27, 28, 29, 30, 31, 2, 3, 4, 5, 6, 7, 8, 9, 10, 11, 12] rfl (by decide +kernel) [q9 100, q9 1, q9 2, q9 3, q9 4, q9 8, q9 9, q9 10, q3 100, q3 6, q3 7, q3 8, q3 9, q3 10, q4 100, q4 1, q4 2, q4 3, q4 4] rfl rfl rfl [0, 1, 13, 14, 15, 16, 17, 18, 19, 20, 21, 22, 23] (wX7 g q1 q2 q6 q7 q9 ++ (wX0 g q2 q3 q4 q5 ++ (wX5 g q5 S5 ++ (wX4 g q6 S6 ++ (wX2 g q7 q8 S7 ++ (wX3 g q8 S8)))))) rfl rfl (n2 := 32) rfl (by decide +kernel) (fun H locs hP hD hS => ?_)
      refine lv_aload_n hx hb dX7_warm_66 rfl (lv_at hl 0 rfl) ?_
      refine k_get (ci := 7) (k := 4) (q0 := 0) (v := .ref (q9 100)) (C := RX7) (T := TX7) (N := 5) hC uX7_warm_X7 hP rfl rfl (by decide) (List.mem_of_getElem? (i := 1) rfl) rfl dX7_warm_67 ?_
      obtain ⟨v102, S103, hc105, h⟩ := fx_b2_s h
      refine k_callVi (C := RX1) (ci := 1) (qr := 0) (n := 0) (As := []) (rest := []) (wc := (wX1 g q9 S101)) (w1 := (wX1 g q9 S103)) (ws2 := (wX7 g q1 q2 q6 q7 q9 ++ (wX0 g q2 q3 q4 q5 ++ (wX3 g q3 S3 ++ (wX6 g q4 S4 ++ (wX5 g q5 S5 ++ (wX4 g q6 S6 ++ (wX2 g q7 q8 S7 ++ (wX3 g q8 S8 ++ (wX1 g q9 S103)))))))))) (bytes := cX1_hasSomeOrder) (maxL := 3) (ret := (some .boolean)) hC hl.1 (c_X1_hasSomeOrder l g N q9 S101 v102 S103 hc105) rfl gX7_warm_X1_hasSomeOrder (by decide +kernel) rfl rfl ⟨Nat.le_of_ble_eq_true rfl, Nat.le_of_ble_eq_true rfl⟩ rfl rfl rfl (Nat.le_of_ble_eq_true rfl) ⟨Nat.le_of_ble_eq_true rfl, Nat.le_of_ble_eq_true rfl⟩ dX7_warm_70 hP hD hS hA [24, 25, 26, 27, 28, 29, 30, 31] rfl (by decide +kernel) [q9 100, q9 1, q9 2, q9 3, q9 4, q9 8, q9 9, q9 10] rfl rfl rfl [0, 1, 2, 3, 4, 5, 6, 7, 8, 9, 10, 11, 12, 13, 14, 15, 16, 17, 18, 19, 20, 21, 22, 23] (wX7 g q1 q2 q6 q7 q9 ++ (wX0 g q2 q3 q4 q5 ++ (wX3 g q3 S3 ++ (wX6 g q4 S4 ++ (wX5 g q5 S5 ++ (wX4 g q6 S6 ++ (wX2 g q7 q8 S7 ++ (wX3 g q8 S8)))))))) rfl rfl (n2 := 32) rfl (by decide +kernel) (fun H locs hP hD hS => ?_)
      refine k_if_eq (tgt := 78) hC dX7_warm_73 (by decide) h (fun h => ?_) (fun h => ?_)
      · refine k_iinc (v := (1 : Int32)) (lv' := fun X => [(3, .int X), (0, .ref (q1 100))]) hC dX7_warm_78 hl (k := 1) rfl (by decide) (by decide) (fun _ => rfl) h (fun x104 h ls hl => ?_)
        refine lv_goto (tgt := 38) hx hb dX7_warm_81 (by decide) ?_
        exact ih x104 S103 o h _ _ _ hP hD hS (lv_sub hl [1, 0] rfl) k0 k1
      · exact k0 x3 S103 (Option.some.inj h).symm _ _ _ hP hD hS (lv_sub hl [1] rfl)
def f_X7_warm (N : Nat) (S3 : St) (S4 : St) (S5 : St) (S6 : St) (S7 : St) (S8 : St) (S9 : St) (x1 : Int32) : Option (Int32 × St) :=
  fx_b2 (f_X7_refuseLoaves N S3 S4 S5 S6 S7 S8 S9 x1 (0 : Int32)) (fun v101 S102 =>
  (if v101 = 0 then (
  (if (S102.1 0) ≤ (S3.1 1) then (
    fx_b3 (fx_it (lf_X7_warm_38 N S3 S4 S5 S6 S7 S8) N ((0 : Int32), S102)) (fun t103 x104 S105 =>
      fx_t2 t103 (some (x104, S105)) (some ((-6 : Int32), S105)))) else (
    some ((-6 : Int32), S102)))) else (
  some (v101, S102))))
set_option maxRecDepth 100000 in
set_option maxHeartbeats 4000000 in
theorem c_X7_warm (l : Launch) (g : GG) (N : Nat) (q1 : Nat → Nat) (q2 : Nat → Nat) (q3 : Nat → Nat) (q4 : Nat → Nat) (q5 : Nat → Nat) (q6 : Nat → Nat) (q7 : Nat → Nat) (q8 : Nat → Nat) (q9 : Nat → Nat) (S3 : St) (S4 : St) (S5 : St) (S6 : St) (S7 : St) (S8 : St) (S9 : St) (x1 : Int32) (r : Int32) (F9 : St) (h : f_X7_warm N S3 S4 S5 S6 S7 S8 S9 x1 = some (r, F9)) : Ci l yX7_warm wsX7_warm RM_X7_warm g [.ref (q1 100), .int x1] (wX7 g q1 q2 q6 q7 q9 ++ (wX0 g q2 q3 q4 q5 ++ (wX3 g q3 S3 ++ (wX6 g q4 S4 ++ (wX5 g q5 S5 ++ (wX4 g q6 S6 ++ (wX2 g q7 q8 S7 ++ (wX3 g q8 S8 ++ (wX1 g q9 S9))))))))) (wX7 g q1 q2 q6 q7 q9 ++ (wX0 g q2 q3 q4 q5 ++ (wX3 g q3 S3 ++ (wX6 g q4 S4 ++ (wX5 g q5 S5 ++ (wX4 g q6 S6 ++ (wX2 g q7 q8 S7 ++ (wX3 g q8 S8 ++ (wX1 g q9 F9))))))))) r := by
  intro sz
  refine Met.ofC (cc := cX7_warm) (maxL := 4) (ret := (some .int)) (by decide) rfl (Nat.le_of_ble_eq_true rfl) ?_
  intro p e s m below meth c hC hr hlk hsz A hA9 hA hP hD hS ls hl
  subst hsz
  have hC : Cx p s m ([.ref (q1 100), .int x1] : List Value).toArray c RX7 cX7_warm 4 wsX7_warm g := hC
  have hx := hC.1.1
  have hb := hC.1.2.1
  have hml := hC.1.2.2.1
  have hown := hC.1.2.2.2.1
  have hts := hC.1.2.2.2.2
  have hl : lv_has ls 4 [(0, .ref (q1 100)), (1, .int x1)] := hl
  show W p l e RM_X7_warm s m ([.ref (q1 100), .int x1] : List Value).toArray below meth c s.heap [] 0 0 (Qi below g [.ref (q1 100), .int x1] (wX7 g q1 q2 q6 q7 q9 ++ (wX0 g q2 q3 q4 q5 ++ (wX3 g q3 S3 ++ (wX6 g q4 S4 ++ (wX5 g q5 S5 ++ (wX4 g q6 S6 ++ (wX2 g q7 q8 S7 ++ (wX3 g q8 S8 ++ (wX1 g q9 S9))))))))) (wX7 g q1 q2 q6 q7 q9 ++ (wX0 g q2 q3 q4 q5 ++ (wX3 g q3 S3 ++ (wX6 g q4 S4 ++ (wX5 g q5 S5 ++ (wX4 g q6 S6 ++ (wX2 g q7 q8 S7 ++ (wX3 g q8 S8 ++ (wX1 g q9 F9))))))))) r s) (F0 m 0 ls [])
  unfold f_X7_warm at h
  refine lv_aload_n hx hb dX7_warm_0 rfl (lv_at hl 0 rfl) ?_
  refine lv_iload_n hx hb dX7_warm_1 rfl (lv_at hl 1 rfl) ?_
  refine lv_iconst (v := (0 : Int32)) hx hb dX7_warm_2 (by decide) ?_
  obtain ⟨v101, S102, hc107, h⟩ := fx_b2_s h
  refine k_callVi (C := RX7) (ci := 7) (qr := 0) (n := 2) (As := [.int x1, .int (0 : Int32)]) (rest := []) (wc := (wX7 g q1 q2 q6 q7 q9 ++ (wX0 g q2 q3 q4 q5 ++ (wX3 g q3 S3 ++ (wX6 g q4 S4 ++ (wX5 g q5 S5 ++ (wX4 g q6 S6 ++ (wX2 g q7 q8 S7 ++ (wX3 g q8 S8 ++ (wX1 g q9 S9)))))))))) (w1 := (wX7 g q1 q2 q6 q7 q9 ++ (wX0 g q2 q3 q4 q5 ++ (wX3 g q3 S3 ++ (wX6 g q4 S4 ++ (wX5 g q5 S5 ++ (wX4 g q6 S6 ++ (wX2 g q7 q8 S7 ++ (wX3 g q8 S8 ++ (wX1 g q9 S102)))))))))) (ws2 := (wX7 g q1 q2 q6 q7 q9 ++ (wX0 g q2 q3 q4 q5 ++ (wX3 g q3 S3 ++ (wX6 g q4 S4 ++ (wX5 g q5 S5 ++ (wX4 g q6 S6 ++ (wX2 g q7 q8 S7 ++ (wX3 g q8 S8 ++ (wX1 g q9 S102)))))))))) (bytes := cX7_refuseLoaves) (maxL := 3) (ret := (some .int)) hC hl.1 (c_X7_refuseLoaves l g N q1 q2 q3 q4 q5 q6 q7 q8 q9 S3 S4 S5 S6 S7 S8 S9 x1 (0 : Int32) v101 S102 hc107) rfl gX7_warm_X7_refuseLoaves (by decide +kernel) rfl rfl ⟨Nat.le_of_ble_eq_true rfl, Nat.le_of_ble_eq_true rfl⟩ rfl rfl rfl (Nat.le_of_ble_eq_true rfl) ⟨Nat.le_of_ble_eq_true rfl, Nat.le_of_ble_eq_true rfl⟩ dX7_warm_3 hP hD hS hA [0, 1, 2, 3, 4, 5, 6, 7, 8, 9, 10, 11, 12, 13, 14, 15, 16, 17, 18, 19, 20, 21, 22, 23, 24, 25, 26, 27, 28, 29, 30, 31] rfl (by decide +kernel) [q1 100, q2 100, q3 100, q3 6, q3 7, q3 8, q3 9, q3 10, q4 100, q4 1, q4 2, q4 3, q4 4, q5 100, q5 1, q6 100, q6 1, q7 100, q8 100, q8 6, q8 7, q8 8, q8 9, q8 10, q9 100, q9 1, q9 2, q9 3, q9 4, q9 8, q9 9, q9 10] rfl rfl rfl [] ([] : va_W) rfl rfl (n2 := 32) rfl (by decide +kernel) (fun H locs hP hD hS => ?_)
  refine lv_istore_n (lv' := [(2, .int v101), (0, .ref (q1 100)), (1, .int x1)]) hx hb dX7_warm_6 rfl hl (by decide) rfl (fun ls hl => ?_)
  refine lv_iload_n hx hb dX7_warm_7 rfl (lv_at hl 0 rfl) ?_
  refine k_if_eq (tgt := 13) hC dX7_warm_8 (by decide) h (fun h => ?_) (fun h => ?_)
  · refine lv_aload_n hx hb dX7_warm_13 rfl (lv_at hl 1 rfl) ?_
    refine k_get (ci := 7) (k := 4) (q0 := 0) (v := .ref (q9 100)) (C := RX7) (T := TX7) (N := 5) hC uX7_warm_X7 hP rfl rfl (by decide) (List.mem_of_getElem? (i := 1) rfl) rfl dX7_warm_14 ?_
    refine k_get (ci := 1) (k := 0) (q0 := 24) (v := .int (S102.1 0)) (C := RX1) (T := TX1) (N := 14) hC uX7_warm_X1 hP rfl rfl (by decide) (List.mem_of_getElem? (i := 2) rfl) rfl dX7_warm_17 ?_
    refine lv_aload_n hx hb dX7_warm_20 rfl (lv_at hl 1 rfl) ?_
    refine k_get (ci := 7) (k := 0) (q0 := 0) (v := .ref (q2 100)) (C := RX7) (T := TX7) (N := 5) hC uX7_warm_X7 hP rfl rfl (by decide) (List.mem_of_getElem? (i := 3) rfl) rfl dX7_warm_21 ?_
    refine k_get (ci := 0) (k := 0) (q0 := 1) (v := .ref (q3 100)) (C := RX0) (T := TX0) (N := 3) hC uX7_warm_X0 hP rfl rfl (by decide) (List.mem_of_getElem? (i := 4) rfl) rfl dX7_warm_24 ?_
    refine k_get (ci := 3) (k := 1) (q0 := 2) (v := .int (S3.1 1)) (C := RX3) (T := TX3) (N := 11) hC uX7_warm_X3 hP rfl rfl (by decide) (List.mem_of_getElem? (i := 5) rfl) rfl dX7_warm_27 ?_
    refine k_icmp_le (tgt := 36) hC dX7_warm_30 (by decide) h (fun h => ?_) (fun h => ?_)
    · refine lv_iconst (v := (0 : Int32)) hx hb dX7_warm_36 (by decide) ?_
      refine lv_istore_n (lv' := [(3, .int (0 : Int32)), (2, .int v101), (0, .ref (q1 100)), (1, .int x1)]) hx hb dX7_warm_37 rfl hl (by decide) rfl (fun ls hl => ?_)
      obtain ⟨t103, x104, S105, ho106, h⟩ := fx_b3_s h
      refine lw_X7_warm_38 hC hA N q1 q2 q3 q4 q5 q6 q7 q8 q9 S3 S4 S5 S6 S7 S8 N (0 : Int32) S102  (t103, x104, S105) ho106 _ _ _ hP hD hS (lv_sub hl [2, 0] rfl) ?_ ?_
      · intro y0 y1 he H locs ls hP hD hS hl
        obtain ⟨rfl, rfl, rfl⟩ := fx_j3 he
        have h := fx_tg2_0 h
        refine lv_iload_n hx hb dX7_warm_76 rfl (lv_at hl 0 rfl) ?_
        obtain ⟨rfl, rfl⟩ := fx_i2 h
        exact Ci.ret hC hr hlk hA9 hP hD hS dX7_warm_77
      · intro y0 y1 he H locs ls hP hD hS hl
        obtain ⟨rfl, rfl, rfl⟩ := fx_j3 he
        have h := fx_tg2_1 h
        refine lv_bipush (v := (-6 : Int32)) hx hb dX7_warm_84 (by decide) ?_
        obtain ⟨rfl, rfl⟩ := fx_i2 h
        exact Ci.ret hC hr hlk hA9 hP hD hS dX7_warm_86
    · refine lv_bipush (v := (-6 : Int32)) hx hb dX7_warm_33 (by decide) ?_
      obtain ⟨rfl, rfl⟩ := fx_i2 h
      exact Ci.ret hC hr hlk hA9 hP hD hS dX7_warm_35
  · refine lv_iload_n hx hb dX7_warm_11 rfl (lv_at hl 0 rfl) ?_
    obtain ⟨rfl, rfl⟩ := fx_i2 h
    exact Ci.ret hC hr hlk hA9 hP hD hS dX7_warm_12
theorem uX7_seen_X0 : ∀ w ∈ u_ws RX0 TX0 3, w ∈ wsX7_seen := fun w h => List.mem_cons_of_mem _ (List.mem_append_left _ (List.mem_append_right _ h))
theorem uX7_seen_X5 : ∀ w ∈ u_ws RX5 TX5 2, w ∈ wsX7_seen := fun w h => List.mem_cons_of_mem _ (List.mem_append_right _ h)
theorem uX7_seen_X7 : ∀ w ∈ u_ws RX7 TX7 5, w ∈ wsX7_seen := fun w h => List.mem_cons_of_mem _ (List.mem_append_left _ (List.mem_append_left _ (List.mem_append_right _ h)))
abbrev RM_X7_seen : Room := { frames := 1, cells := 0, slots := 0, locals := 22 }
def f_X7_seen (N : Nat) (S3 : St) (S4 : St) (S5 : St) (S6 : St) (S7 : St) (S8 : St) (S9 : St) (x1 : Int32) : Option (Int32 × St) :=
  fx_b1 (f_X7_within N x1 (0 : Int32) (5000 : Int32)) (fun v101 =>
  (if v101 = 0 then (
  some ((-2 : Int32), S5)) else (
  (if (S5.1 0) < (6 : Int32) then (
    fx_ast 6 S5 1 (S5.1 0) x1 (fun S102 =>
      fx_lt (stI S102 0 ((S102.1 0) + (1 : Int32))) (fun S103 =>
      some ((S103.1 0), S103)))) else (
    some ((-4 : Int32), S5))))))
set_option maxRecDepth 100000 in
set_option maxHeartbeats 4000000 in
theorem c_X7_seen (l : Launch) (g : GG) (N : Nat) (q1 : Nat → Nat) (q2 : Nat → Nat) (q3 : Nat → Nat) (q4 : Nat → Nat) (q5 : Nat → Nat) (q6 : Nat → Nat) (q7 : Nat → Nat) (q8 : Nat → Nat) (q9 : Nat → Nat) (S3 : St) (S4 : St) (S5 : St) (S6 : St) (S7 : St) (S8 : St) (S9 : St) (x1 : Int32) (r : Int32) (F5 : St) (h : f_X7_seen N S3 S4 S5 S6 S7 S8 S9 x1 = some (r, F5)) : Ci l yX7_seen wsX7_seen RM_X7_seen g [.ref (q1 100), .int x1] (wX7 g q1 q2 q6 q7 q9 ++ (wX0 g q2 q3 q4 q5 ++ (wX3 g q3 S3 ++ (wX6 g q4 S4 ++ (wX5 g q5 S5 ++ (wX4 g q6 S6 ++ (wX2 g q7 q8 S7 ++ (wX3 g q8 S8 ++ (wX1 g q9 S9))))))))) (wX7 g q1 q2 q6 q7 q9 ++ (wX0 g q2 q3 q4 q5 ++ (wX3 g q3 S3 ++ (wX6 g q4 S4 ++ (wX5 g q5 F5 ++ (wX4 g q6 S6 ++ (wX2 g q7 q8 S7 ++ (wX3 g q8 S8 ++ (wX1 g q9 S9))))))))) r := by
  intro sz
  refine Met.ofC (cc := cX7_seen) (maxL := 3) (ret := (some .int)) (by decide) rfl (Nat.le_of_ble_eq_true rfl) ?_
  intro p e s m below meth c hC hr hlk hsz A hA9 hA hP hD hS ls hl
  subst hsz
  have hC : Cx p s m ([.ref (q1 100), .int x1] : List Value).toArray c RX7 cX7_seen 3 wsX7_seen g := hC
  have hx := hC.1.1
  have hb := hC.1.2.1
  have hml := hC.1.2.2.1
  have hown := hC.1.2.2.2.1
  have hts := hC.1.2.2.2.2
  have hl : lv_has ls 3 [(0, .ref (q1 100)), (1, .int x1)] := hl
  show W p l e RM_X7_seen s m ([.ref (q1 100), .int x1] : List Value).toArray below meth c s.heap [] 0 0 (Qi below g [.ref (q1 100), .int x1] (wX7 g q1 q2 q6 q7 q9 ++ (wX0 g q2 q3 q4 q5 ++ (wX3 g q3 S3 ++ (wX6 g q4 S4 ++ (wX5 g q5 S5 ++ (wX4 g q6 S6 ++ (wX2 g q7 q8 S7 ++ (wX3 g q8 S8 ++ (wX1 g q9 S9))))))))) (wX7 g q1 q2 q6 q7 q9 ++ (wX0 g q2 q3 q4 q5 ++ (wX3 g q3 S3 ++ (wX6 g q4 S4 ++ (wX5 g q5 F5 ++ (wX4 g q6 S6 ++ (wX2 g q7 q8 S7 ++ (wX3 g q8 S8 ++ (wX1 g q9 S9))))))))) r s) (F0 m 0 ls [])
  unfold f_X7_seen at h
  refine lv_iload_n hx hb dX7_seen_0 rfl (lv_at hl 1 rfl) ?_
  refine lv_iconst (v := (0 : Int32)) hx hb dX7_seen_1 (by decide) ?_
  refine lv_sipush (v := (5000 : Int32)) hx hb dX7_seen_2 (by decide) ?_
  obtain ⟨v101, hc104, h⟩ := fx_b1_s h
  refine k_callSi0 (n := 3) (As := [.int x1, .int (0 : Int32), .int (5000 : Int32)]) (rest := []) (wc := ([] : va_W)) (bytes := cX7_within) (maxL := 3) (ret := (some .boolean)) hC hl.1 (c_X7_within l g N x1 (0 : Int32) (5000 : Int32) v101 hc104) rfl gX7_seen_X7_within (by decide +kernel) ⟨Nat.le_of_ble_eq_true rfl, Nat.le_of_ble_eq_true rfl⟩ rfl rfl rfl (Nat.le_of_ble_eq_true rfl) ⟨Nat.le_of_ble_eq_true rfl, Nat.le_of_ble_eq_true rfl⟩ dX7_seen_5 hP hD hS hA [] rfl (by decide +kernel) (fun H locs hP hD hS => ?_)
  refine k_if_ne (tgt := 14) hC dX7_seen_8 (by decide) h (fun h => ?_) (fun h => ?_)
  · refine lv_aload_n hx hb dX7_seen_14 rfl (lv_at hl 0 rfl) ?_
    refine k_get (ci := 7) (k := 0) (q0 := 0) (v := .ref (q2 100)) (C := RX7) (T := TX7) (N := 5) hC uX7_seen_X7 hP rfl rfl (by decide) (List.mem_of_getElem? (i := 1) rfl) rfl dX7_seen_15 ?_
    refine k_get (ci := 0) (k := 2) (q0 := 1) (v := .ref (q5 100)) (C := RX0) (T := TX0) (N := 3) hC uX7_seen_X0 hP rfl rfl (by decide) (List.mem_of_getElem? (i := 2) rfl) rfl dX7_seen_18 ?_
    refine lv_astore_n (lv' := [(2, .ref (q5 100)), (0, .ref (q1 100)), (1, .int x1)]) hx hb dX7_seen_21 rfl hl (by decide) rfl (fun ls hl => ?_)
    refine lv_aload_n hx hb dX7_seen_22 rfl (lv_at hl 0 rfl) ?_
    refine k_get (ci := 5) (k := 0) (q0 := 13) (v := .int (S5.1 0)) (C := RX5) (T := TX5) (N := 2) hC uX7_seen_X5 hP rfl rfl (by decide) (List.mem_of_getElem? (i := 3) rfl) rfl dX7_seen_23 ?_
    refine lv_bipush (v := (6 : Int32)) hx hb dX7_seen_26 (by decide) ?_
    refine k_icmp_lt (tgt := 34) hC dX7_seen_28 (by decide) h (fun h => ?_) (fun h => ?_)
    · refine lv_aload_n hx hb dX7_seen_34 rfl (lv_at hl 0 rfl) ?_
      refine k_get (ci := 5) (k := 1) (q0 := 13) (v := .ref (q5 1)) (C := RX5) (T := TX5) (N := 2) hC uX7_seen_X5 hP rfl rfl (by decide) (List.mem_of_getElem? (i := 4) rfl) rfl dX7_seen_35 ?_
      refine lv_aload_n hx hb dX7_seen_38 rfl (lv_at hl 0 rfl) ?_
      refine k_get (ci := 5) (k := 0) (q0 := 13) (v := .int (S5.1 0)) (C := RX5) (T := TX5) (N := 2) hC uX7_seen_X5 hP rfl rfl (by decide) (List.mem_of_getElem? (i := 3) rfl) rfl dX7_seen_39 ?_
      refine lv_iload_n hx hb dX7_seen_42 rfl (lv_at hl 2 rfl) ?_
      refine k_ast (q0 := 14) (n := 6) (k := 1) (S := S5) (fun S => (wX7 g q1 q2 q6 q7 q9 ++ (wX0 g q2 q3 q4 q5 ++ (wX3 g q3 S3 ++ (wX6 g q4 S4 ++ (wX5 g q5 S ++ (wX4 g q6 S6 ++ (wX2 g q7 q8 S7 ++ (wX3 g q8 S8 ++ (wX1 g q9 S9)))))))))) hC hP hD hS rfl (fun _ => rfl) dX7_seen_43 h (fun S102 h H locs hP hD hS => ?_)
      refine lv_aload_n hx hb dX7_seen_44 rfl (lv_at hl 0 rfl) ?_
      refine lv_dup hx hb dX7_seen_45 rfl ?_
      refine k_get (ci := 5) (k := 0) (q0 := 13) (v := .int (S102.1 0)) (C := RX5) (T := TX5) (N := 2) hC uX7_seen_X5 hP rfl rfl (by decide) (List.mem_of_getElem? (i := 3) rfl) rfl dX7_seen_46 ?_
      refine lv_iconst (v := (1 : Int32)) hx hb dX7_seen_49 (by decide) ?_
      refine lv_iadd hx hb dX7_seen_50 ?_
      refine k_put (ci := 5) (k := 0) (q0 := 13) (C := RX5) (T := TX5) (N := 2) (S2 := stI S102 0 ((S102.1 0) + (1 : Int32))) tyX5 (fun S => (wX7 g q1 q2 q6 q7 q9 ++ (wX0 g q2 q3 q4 q5 ++ (wX3 g q3 S3 ++ (wX6 g q4 S4 ++ (wX5 g q5 S ++ (wX4 g q6 S6 ++ (wX2 g q7 q8 S7 ++ (wX3 g q8 S8 ++ (wX1 g q9 S9)))))))))) hC uX7_seen_X5 tyX5_ok nmX5 hP hD hS rfl rfl (by decide) (List.mem_of_getElem? (i := 3) rfl) rfl (tyX5_ok 0 (by decide)) (Nat.le_of_ble_eq_true rfl) dX7_seen_51 rfl h (fun S103 h H locs hP hD hS => ?_)
      refine lv_aload_n hx hb dX7_seen_54 rfl (lv_at hl 0 rfl) ?_
      refine k_get (ci := 5) (k := 0) (q0 := 13) (v := .int (S103.1 0)) (C := RX5) (T := TX5) (N := 2) hC uX7_seen_X5 hP rfl rfl (by decide) (List.mem_of_getElem? (i := 3) rfl) rfl dX7_seen_55 ?_
      obtain ⟨rfl, rfl⟩ := fx_i2 h
      exact Ci.ret hC hr hlk hA9 hP hD hS dX7_seen_58
    · refine lv_bipush (v := (-4 : Int32)) hx hb dX7_seen_31 (by decide) ?_
      obtain ⟨rfl, rfl⟩ := fx_i2 h
      exact Ci.ret hC hr hlk hA9 hP hD hS dX7_seen_33
  · refine lv_bipush (v := (-2 : Int32)) hx hb dX7_seen_11 (by decide) ?_
    obtain ⟨rfl, rfl⟩ := fx_i2 h
    exact Ci.ret hC hr hlk hA9 hP hD hS dX7_seen_13
theorem uX7_forget_X0 : ∀ w ∈ u_ws RX0 TX0 3, w ∈ wsX7_forget := fun w h => List.mem_cons_of_mem _ (List.mem_append_left _ (List.mem_append_right _ h))
theorem uX7_forget_X5 : ∀ w ∈ u_ws RX5 TX5 2, w ∈ wsX7_forget := fun w h => List.mem_cons_of_mem _ (List.mem_append_right _ h)
theorem uX7_forget_X7 : ∀ w ∈ u_ws RX7 TX7 5, w ∈ wsX7_forget := fun w h => List.mem_cons_of_mem _ (List.mem_append_left _ (List.mem_append_left _ (List.mem_append_right _ h)))
abbrev RM_X7_forget : Room := { frames := 0, cells := 0, slots := 0, locals := 0 }
def f_X7_forget (N : Nat) (S3 : St) (S4 : St) (S5 : St) (S6 : St) (S7 : St) (S8 : St) (S9 : St) : Option (Int32 × St) :=
  fx_lt (stI S5 0 (0 : Int32)) (fun S101 =>
  some ((S5.1 0), S101))
set_option maxRecDepth 100000 in
set_option maxHeartbeats 4000000 in
theorem c_X7_forget (l : Launch) (g : GG) (N : Nat) (q1 : Nat → Nat) (q2 : Nat → Nat) (q3 : Nat → Nat) (q4 : Nat → Nat) (q5 : Nat → Nat) (q6 : Nat → Nat) (q7 : Nat → Nat) (q8 : Nat → Nat) (q9 : Nat → Nat) (S3 : St) (S4 : St) (S5 : St) (S6 : St) (S7 : St) (S8 : St) (S9 : St) (r : Int32) (F5 : St) (h : f_X7_forget N S3 S4 S5 S6 S7 S8 S9 = some (r, F5)) : Ci l yX7_forget wsX7_forget RM_X7_forget g [.ref (q1 100)] (wX7 g q1 q2 q6 q7 q9 ++ (wX0 g q2 q3 q4 q5 ++ (wX3 g q3 S3 ++ (wX6 g q4 S4 ++ (wX5 g q5 S5 ++ (wX4 g q6 S6 ++ (wX2 g q7 q8 S7 ++ (wX3 g q8 S8 ++ (wX1 g q9 S9))))))))) (wX7 g q1 q2 q6 q7 q9 ++ (wX0 g q2 q3 q4 q5 ++ (wX3 g q3 S3 ++ (wX6 g q4 S4 ++ (wX5 g q5 F5 ++ (wX4 g q6 S6 ++ (wX2 g q7 q8 S7 ++ (wX3 g q8 S8 ++ (wX1 g q9 S9))))))))) r := by
  intro sz
  refine Met.ofC (cc := cX7_forget) (maxL := 2) (ret := (some .int)) (by decide) rfl (Nat.le_of_ble_eq_true rfl) ?_
  intro p e s m below meth c hC hr hlk hsz A hA9 hA hP hD hS ls hl
  subst hsz
  have hC : Cx p s m ([.ref (q1 100)] : List Value).toArray c RX7 cX7_forget 2 wsX7_forget g := hC
  have hx := hC.1.1
  have hb := hC.1.2.1
  have hml := hC.1.2.2.1
  have hown := hC.1.2.2.2.1
  have hts := hC.1.2.2.2.2
  have hl : lv_has ls 2 [(0, .ref (q1 100))] := hl
  show W p l e RM_X7_forget s m ([.ref (q1 100)] : List Value).toArray below meth c s.heap [] 0 0 (Qi below g [.ref (q1 100)] (wX7 g q1 q2 q6 q7 q9 ++ (wX0 g q2 q3 q4 q5 ++ (wX3 g q3 S3 ++ (wX6 g q4 S4 ++ (wX5 g q5 S5 ++ (wX4 g q6 S6 ++ (wX2 g q7 q8 S7 ++ (wX3 g q8 S8 ++ (wX1 g q9 S9))))))))) (wX7 g q1 q2 q6 q7 q9 ++ (wX0 g q2 q3 q4 q5 ++ (wX3 g q3 S3 ++ (wX6 g q4 S4 ++ (wX5 g q5 F5 ++ (wX4 g q6 S6 ++ (wX2 g q7 q8 S7 ++ (wX3 g q8 S8 ++ (wX1 g q9 S9))))))))) r s) (F0 m 0 ls [])
  unfold f_X7_forget at h
  refine lv_aload_n hx hb dX7_forget_0 rfl (lv_at hl 0 rfl) ?_
  refine k_get (ci := 7) (k := 0) (q0 := 0) (v := .ref (q2 100)) (C := RX7) (T := TX7) (N := 5) hC uX7_forget_X7 hP rfl rfl (by decide) (List.mem_of_getElem? (i := 1) rfl) rfl dX7_forget_1 ?_
  refine k_get (ci := 0) (k := 2) (q0 := 1) (v := .ref (q5 100)) (C := RX0) (T := TX0) (N := 3) hC uX7_forget_X0 hP rfl rfl (by decide) (List.mem_of_getElem? (i := 2) rfl) rfl dX7_forget_4 ?_
  refine k_get (ci := 5) (k := 0) (q0 := 13) (v := .int (S5.1 0)) (C := RX5) (T := TX5) (N := 2) hC uX7_forget_X5 hP rfl rfl (by decide) (List.mem_of_getElem? (i := 3) rfl) rfl dX7_forget_7 ?_
  refine lv_istore_n (lv' := [(1, .int (S5.1 0)), (0, .ref (q1 100))]) hx hb dX7_forget_10 rfl hl (by decide) rfl (fun ls hl => ?_)
  refine lv_aload_n hx hb dX7_forget_11 rfl (lv_at hl 1 rfl) ?_
  refine k_get (ci := 7) (k := 0) (q0 := 0) (v := .ref (q2 100)) (C := RX7) (T := TX7) (N := 5) hC uX7_forget_X7 hP rfl rfl (by decide) (List.mem_of_getElem? (i := 1) rfl) rfl dX7_forget_12 ?_
  refine k_get (ci := 0) (k := 2) (q0 := 1) (v := .ref (q5 100)) (C := RX0) (T := TX0) (N := 3) hC uX7_forget_X0 hP rfl rfl (by decide) (List.mem_of_getElem? (i := 2) rfl) rfl dX7_forget_15 ?_
  refine lv_iconst (v := (0 : Int32)) hx hb dX7_forget_18 (by decide) ?_
  refine k_put (ci := 5) (k := 0) (q0 := 13) (C := RX5) (T := TX5) (N := 2) (S2 := stI S5 0 (0 : Int32)) tyX5 (fun S => (wX7 g q1 q2 q6 q7 q9 ++ (wX0 g q2 q3 q4 q5 ++ (wX3 g q3 S3 ++ (wX6 g q4 S4 ++ (wX5 g q5 S ++ (wX4 g q6 S6 ++ (wX2 g q7 q8 S7 ++ (wX3 g q8 S8 ++ (wX1 g q9 S9)))))))))) hC uX7_forget_X5 tyX5_ok nmX5 hP hD hS rfl rfl (by decide) (List.mem_of_getElem? (i := 3) rfl) rfl (tyX5_ok 0 (by decide)) (Nat.le_of_ble_eq_true rfl) dX7_forget_19 rfl h (fun S101 h H locs hP hD hS => ?_)
  refine lv_iload_n hx hb dX7_forget_22 rfl (lv_at hl 0 rfl) ?_
  obtain ⟨rfl, rfl⟩ := fx_i2 h
  exact Ci.ret hC hr hlk hA9 hP hD hS dX7_forget_23
theorem uX7_firstStay_X0 : ∀ w ∈ u_ws RX0 TX0 3, w ∈ wsX7_firstStay := fun w h => List.mem_cons_of_mem _ (List.mem_append_left _ (List.mem_append_right _ h))
theorem uX7_firstStay_X3 : ∀ w ∈ u_ws RX3 TX3 11, w ∈ wsX7_firstStay := fun w h => List.mem_cons_of_mem _ (List.mem_append_right _ h)
theorem uX7_firstStay_X7 : ∀ w ∈ u_ws RX7 TX7 5, w ∈ wsX7_firstStay := fun w h => List.mem_cons_of_mem _ (List.mem_append_left _ (List.mem_append_left _ (List.mem_append_right _ h)))
abbrev RM_X7_firstStay : Room := { frames := 3, cells := 0, slots := 0, locals := 61 }
def f_X7_firstStay (N : Nat) (S3 : St) (S4 : St) (S5 : St) (S6 : St) (S7 : St) (S8 : St) (S9 : St) (x1 : Int32) (x2 : Int32) : Option (Int32) :=
  fx_b1 (f_X3_rateAt N S3 x1) (fun v101 =>
  fx_b1 (f_X7_firstMinute N v101 (S3.1 3) x2) (fun v102 =>
  some v102))
set_option maxRecDepth 100000 in
set_option maxHeartbeats 4000000 in
theorem c_X7_firstStay (l : Launch) (g : GG) (N : Nat) (q1 : Nat → Nat) (q2 : Nat → Nat) (q3 : Nat → Nat) (q4 : Nat → Nat) (q5 : Nat → Nat) (q6 : Nat → Nat) (q7 : Nat → Nat) (q8 : Nat → Nat) (q9 : Nat → Nat) (S3 : St) (S4 : St) (S5 : St) (S6 : St) (S7 : St) (S8 : St) (S9 : St) (x1 : Int32) (x2 : Int32) (r : Int32) (h : f_X7_firstStay N S3 S4 S5 S6 S7 S8 S9 x1 x2 = some r) : Ci l yX7_firstStay wsX7_firstStay RM_X7_firstStay g [.ref (q1 100), .int x1, .int x2] (wX7 g q1 q2 q6 q7 q9 ++ (wX0 g q2 q3 q4 q5 ++ (wX3 g q3 S3 ++ (wX6 g q4 S4 ++ (wX5 g q5 S5 ++ (wX4 g q6 S6 ++ (wX2 g q7 q8 S7 ++ (wX3 g q8 S8 ++ (wX1 g q9 S9))))))))) (wX7 g q1 q2 q6 q7 q9 ++ (wX0 g q2 q3 q4 q5 ++ (wX3 g q3 S3 ++ (wX6 g q4 S4 ++ (wX5 g q5 S5 ++ (wX4 g q6 S6 ++ (wX2 g q7 q8 S7 ++ (wX3 g q8 S8 ++ (wX1 g q9 S9))))))))) r := by
  intro sz
  refine Met.ofC (cc := cX7_firstStay) (maxL := 3) (ret := (some .int)) (by decide) rfl (Nat.le_of_ble_eq_true rfl) ?_
  intro p e s m below meth c hC hr hlk hsz A hA9 hA hP hD hS ls hl
  subst hsz
  have hC : Cx p s m ([.ref (q1 100), .int x1, .int x2] : List Value).toArray c RX7 cX7_firstStay 3 wsX7_firstStay g := hC
  have hx := hC.1.1
  have hb := hC.1.2.1
  have hml := hC.1.2.2.1
  have hown := hC.1.2.2.2.1
  have hts := hC.1.2.2.2.2
  have hl : lv_has ls 3 [(0, .ref (q1 100)), (1, .int x1), (2, .int x2)] := hl
  show W p l e RM_X7_firstStay s m ([.ref (q1 100), .int x1, .int x2] : List Value).toArray below meth c s.heap [] 0 0 (Qi below g [.ref (q1 100), .int x1, .int x2] (wX7 g q1 q2 q6 q7 q9 ++ (wX0 g q2 q3 q4 q5 ++ (wX3 g q3 S3 ++ (wX6 g q4 S4 ++ (wX5 g q5 S5 ++ (wX4 g q6 S6 ++ (wX2 g q7 q8 S7 ++ (wX3 g q8 S8 ++ (wX1 g q9 S9))))))))) (wX7 g q1 q2 q6 q7 q9 ++ (wX0 g q2 q3 q4 q5 ++ (wX3 g q3 S3 ++ (wX6 g q4 S4 ++ (wX5 g q5 S5 ++ (wX4 g q6 S6 ++ (wX2 g q7 q8 S7 ++ (wX3 g q8 S8 ++ (wX1 g q9 S9))))))))) r s) (F0 m 0 ls [])
  unfold f_X7_firstStay at h
  refine lv_aload_n hx hb dX7_firstStay_0 rfl (lv_at hl 0 rfl) ?_
  refine k_get (ci := 7) (k := 0) (q0 := 0) (v := .ref (q2 100)) (C := RX7) (T := TX7) (N := 5) hC uX7_firstStay_X7 hP rfl rfl (by decide) (List.mem_of_getElem? (i := 1) rfl) rfl dX7_firstStay_1 ?_
  refine k_get (ci := 0) (k := 0) (q0 := 1) (v := .ref (q3 100)) (C := RX0) (T := TX0) (N := 3) hC uX7_firstStay_X0 hP rfl rfl (by decide) (List.mem_of_getElem? (i := 2) rfl) rfl dX7_firstStay_4 ?_
  refine lv_iload_n hx hb dX7_firstStay_7 rfl (lv_at hl 1 rfl) ?_
  obtain ⟨v101, hc104, h⟩ := fx_b1_s h
  refine k_callVi0 (C := RX3) (ci := 3) (qr := 0) (n := 1) (As := [.int x1]) (rest := []) (wc := (wX3 g q3 S3)) (bytes := cX3_rateAt) (maxL := 2) (ret := (some .int)) hC hl.1 (c_X3_rateAt l g N q3 S3 x1 v101 hc104) rfl gX7_firstStay_X3_rateAt (by decide +kernel) rfl rfl ⟨Nat.le_of_ble_eq_true rfl, Nat.le_of_ble_eq_true rfl⟩ rfl rfl rfl (Nat.le_of_ble_eq_true rfl) ⟨Nat.le_of_ble_eq_true rfl, Nat.le_of_ble_eq_true rfl⟩ dX7_firstStay_8 hP hD hS hA [2, 3, 4, 5, 6, 7] rfl (by decide +kernel) (fun H locs hP hD hS => ?_)
  refine lv_aload_n hx hb dX7_firstStay_11 rfl (lv_at hl 0 rfl) ?_
  refine k_get (ci := 7) (k := 0) (q0 := 0) (v := .ref (q2 100)) (C := RX7) (T := TX7) (N := 5) hC uX7_firstStay_X7 hP rfl rfl (by decide) (List.mem_of_getElem? (i := 1) rfl) rfl dX7_firstStay_12 ?_
  refine k_get (ci := 0) (k := 0) (q0 := 1) (v := .ref (q3 100)) (C := RX0) (T := TX0) (N := 3) hC uX7_firstStay_X0 hP rfl rfl (by decide) (List.mem_of_getElem? (i := 2) rfl) rfl dX7_firstStay_15 ?_
  refine k_get (ci := 3) (k := 3) (q0 := 2) (v := .int (S3.1 3)) (C := RX3) (T := TX3) (N := 11) hC uX7_firstStay_X3 hP rfl rfl (by decide) (List.mem_of_getElem? (i := 3) rfl) rfl dX7_firstStay_18 ?_
  refine lv_iload_n hx hb dX7_firstStay_21 rfl (lv_at hl 2 rfl) ?_
  obtain ⟨v102, hc103, h⟩ := fx_b1_s h
  refine k_callSi0 (n := 3) (As := [.int v101, .int (S3.1 3), .int x2]) (rest := []) (wc := ([] : va_W)) (bytes := cX7_firstMinute) (maxL := 6) (ret := (some .int)) hC hl.1 (c_X7_firstMinute l g N v101 (S3.1 3) x2 v102 hc103) rfl gX7_firstStay_X7_firstMinute (by decide +kernel) ⟨Nat.le_of_ble_eq_true rfl, Nat.le_of_ble_eq_true rfl⟩ rfl rfl rfl (Nat.le_of_ble_eq_true rfl) ⟨Nat.le_of_ble_eq_true rfl, Nat.le_of_ble_eq_true rfl⟩ dX7_firstStay_22 hP hD hS hA [] rfl (by decide +kernel) (fun H locs hP hD hS => ?_)
  obtain rfl := fx_i1 h
  exact Ci.ret hC hr hlk hA9 hP hD hS dX7_firstStay_25
abbrev RM_X7_countStays : Room := { frames := 4, cells := 0, slots := 0, locals := 83 }
def f_X7_countStays (N : Nat) (S3 : St) (S4 : St) (S5 : St) (S6 : St) (S7 : St) (S8 : St) (S9 : St) (x1 : Int32) (x2 : Int32) : Option (Int32) :=
  fx_b1 (f_X7_firstStay N S3 S4 S5 S6 S7 S8 S9 x1 (x2 + (1 : Int32))) (fun v101 =>
  fx_lt (if (100 : Int32) < v101 then (100 : Int32) else v101) (fun x102 =>
  fx_b1 (f_X7_firstStay N S3 S4 S5 S6 S7 S8 S9 x1 x2) (fun v103 =>
  fx_lt (if (0 : Int32) < (x102 - v103) then (x102 - v103) else (0 : Int32)) (fun x104 =>
  some x104))))
set_option maxRecDepth 100000 in
set_option maxHeartbeats 4000000 in
theorem c_X7_countStays (l : Launch) (g : GG) (N : Nat) (q1 : Nat → Nat) (q2 : Nat → Nat) (q3 : Nat → Nat) (q4 : Nat → Nat) (q5 : Nat → Nat) (q6 : Nat → Nat) (q7 : Nat → Nat) (q8 : Nat → Nat) (q9 : Nat → Nat) (S3 : St) (S4 : St) (S5 : St) (S6 : St) (S7 : St) (S8 : St) (S9 : St) (x1 : Int32) (x2 : Int32) (r : Int32) (h : f_X7_countStays N S3 S4 S5 S6 S7 S8 S9 x1 x2 = some r) : Ci l yX7_countStays wsX7_countStays RM_X7_countStays g [.ref (q1 100), .int x1, .int x2] (wX7 g q1 q2 q6 q7 q9 ++ (wX0 g q2 q3 q4 q5 ++ (wX3 g q3 S3 ++ (wX6 g q4 S4 ++ (wX5 g q5 S5 ++ (wX4 g q6 S6 ++ (wX2 g q7 q8 S7 ++ (wX3 g q8 S8 ++ (wX1 g q9 S9))))))))) (wX7 g q1 q2 q6 q7 q9 ++ (wX0 g q2 q3 q4 q5 ++ (wX3 g q3 S3 ++ (wX6 g q4 S4 ++ (wX5 g q5 S5 ++ (wX4 g q6 S6 ++ (wX2 g q7 q8 S7 ++ (wX3 g q8 S8 ++ (wX1 g q9 S9))))))))) r := by
  intro sz
  refine Met.ofC (cc := cX7_countStays) (maxL := 4) (ret := (some .int)) (by decide) rfl (Nat.le_of_ble_eq_true rfl) ?_
  intro p e s m below meth c hC hr hlk hsz A hA9 hA hP hD hS ls hl
  subst hsz
  have hC : Cx p s m ([.ref (q1 100), .int x1, .int x2] : List Value).toArray c RX7 cX7_countStays 4 wsX7_countStays g := hC
  have hx := hC.1.1
  have hb := hC.1.2.1
  have hml := hC.1.2.2.1
  have hown := hC.1.2.2.2.1
  have hts := hC.1.2.2.2.2
  have hl : lv_has ls 4 [(0, .ref (q1 100)), (1, .int x1), (2, .int x2)] := hl
  show W p l e RM_X7_countStays s m ([.ref (q1 100), .int x1, .int x2] : List Value).toArray below meth c s.heap [] 0 0 (Qi below g [.ref (q1 100), .int x1, .int x2] (wX7 g q1 q2 q6 q7 q9 ++ (wX0 g q2 q3 q4 q5 ++ (wX3 g q3 S3 ++ (wX6 g q4 S4 ++ (wX5 g q5 S5 ++ (wX4 g q6 S6 ++ (wX2 g q7 q8 S7 ++ (wX3 g q8 S8 ++ (wX1 g q9 S9))))))))) (wX7 g q1 q2 q6 q7 q9 ++ (wX0 g q2 q3 q4 q5 ++ (wX3 g q3 S3 ++ (wX6 g q4 S4 ++ (wX5 g q5 S5 ++ (wX4 g q6 S6 ++ (wX2 g q7 q8 S7 ++ (wX3 g q8 S8 ++ (wX1 g q9 S9))))))))) r s) (F0 m 0 ls [])
  unfold f_X7_countStays at h
  refine lv_aload_n hx hb dX7_countStays_0 rfl (lv_at hl 0 rfl) ?_
  refine lv_iload_n hx hb dX7_countStays_1 rfl (lv_at hl 1 rfl) ?_
  refine lv_iload_n hx hb dX7_countStays_2 rfl (lv_at hl 2 rfl) ?_
  refine lv_iconst (v := (1 : Int32)) hx hb dX7_countStays_3 (by decide) ?_
  refine lv_iadd hx hb dX7_countStays_4 ?_
  obtain ⟨v101, hc106, h⟩ := fx_b1_s h
  refine k_callVi0 (C := RX7) (ci := 7) (qr := 0) (n := 2) (As := [.int x1, .int (x2 + (1 : Int32))]) (rest := []) (wc := (wX7 g q1 q2 q6 q7 q9 ++ (wX0 g q2 q3 q4 q5 ++ (wX3 g q3 S3 ++ (wX6 g q4 S4 ++ (wX5 g q5 S5 ++ (wX4 g q6 S6 ++ (wX2 g q7 q8 S7 ++ (wX3 g q8 S8 ++ (wX1 g q9 S9)))))))))) (bytes := cX7_firstStay) (maxL := 3) (ret := (some .int)) hC hl.1 (c_X7_firstStay l g N q1 q2 q3 q4 q5 q6 q7 q8 q9 S3 S4 S5 S6 S7 S8 S9 x1 (x2 + (1 : Int32)) v101 hc106) rfl gX7_countStays_X7_firstStay (by decide +kernel) rfl rfl ⟨Nat.le_of_ble_eq_true rfl, Nat.le_of_ble_eq_true rfl⟩ rfl rfl rfl (Nat.le_of_ble_eq_true rfl) ⟨Nat.le_of_ble_eq_true rfl, Nat.le_of_ble_eq_true rfl⟩ dX7_countStays_5 hP hD hS hA [0, 1, 2, 3, 4, 5, 6, 7, 8, 9, 10, 11, 12, 13, 14, 15, 16, 17, 18, 19, 20, 21, 22, 23, 24, 25, 26, 27, 28, 29, 30, 31] rfl (by decide +kernel) (fun H locs hP hD hS => ?_)
  refine lv_bipush (v := (100 : Int32)) hx hb dX7_countStays_8 (by decide) ?_
  refine va_mmin hx hb (hml.trans hl.1.symm) hown (hts _ (List.mem_of_getElem? (i := 1) rfl)) (hts _ (List.mem_of_getElem? (i := 2) rfl)) (hts _ (List.mem_of_getElem? (i := 3) rfl)) (hts _ (List.mem_of_getElem? (i := 4) rfl)) (Nat.le_of_ble_eq_true rfl) (Nat.le_of_ble_eq_true rfl) (Nat.zero_le _) (Nat.zero_le _) dX7_countStays_10 ?_
  refine k_topi h (fun x102 h => ?_)
  refine lv_istore_n (lv' := [(3, .int x102), (0, .ref (q1 100)), (1, .int x1), (2, .int x2)]) hx hb dX7_countStays_13 rfl hl (by decide) rfl (fun ls hl => ?_)
  refine lv_iconst (v := (0 : Int32)) hx hb dX7_countStays_14 (by decide) ?_
  refine lv_iload_n hx hb dX7_countStays_15 rfl (lv_at hl 0 rfl) ?_
  refine lv_aload_n hx hb dX7_countStays_16 rfl (lv_at hl 1 rfl) ?_
  refine lv_iload_n hx hb dX7_countStays_17 rfl (lv_at hl 2 rfl) ?_
  refine lv_iload_n hx hb dX7_countStays_18 rfl (lv_at hl 3 rfl) ?_
  obtain ⟨v103, hc105, h⟩ := fx_b1_s h
  refine k_callVi0 (C := RX7) (ci := 7) (qr := 0) (n := 2) (As := [.int x1, .int x2]) (rest := [.int x102, .int (0 : Int32)]) (wc := (wX7 g q1 q2 q6 q7 q9 ++ (wX0 g q2 q3 q4 q5 ++ (wX3 g q3 S3 ++ (wX6 g q4 S4 ++ (wX5 g q5 S5 ++ (wX4 g q6 S6 ++ (wX2 g q7 q8 S7 ++ (wX3 g q8 S8 ++ (wX1 g q9 S9)))))))))) (bytes := cX7_firstStay) (maxL := 3) (ret := (some .int)) hC hl.1 (c_X7_firstStay l g N q1 q2 q3 q4 q5 q6 q7 q8 q9 S3 S4 S5 S6 S7 S8 S9 x1 x2 v103 hc105) rfl gX7_countStays_X7_firstStay (by decide +kernel) rfl rfl ⟨Nat.le_of_ble_eq_true rfl, Nat.le_of_ble_eq_true rfl⟩ rfl rfl rfl (Nat.le_of_ble_eq_true rfl) ⟨Nat.le_of_ble_eq_true rfl, Nat.le_of_ble_eq_true rfl⟩ dX7_countStays_19 hP hD hS hA [0, 1, 2, 3, 4, 5, 6, 7, 8, 9, 10, 11, 12, 13, 14, 15, 16, 17, 18, 19, 20, 21, 22, 23, 24, 25, 26, 27, 28, 29, 30, 31] rfl (by decide +kernel) (fun H locs hP hD hS => ?_)
  refine lv_isub hx hb dX7_countStays_22 ?_
  refine va_mmax hx hb (hml.trans hl.1.symm) hown (hts _ (List.mem_of_getElem? (i := 5) rfl)) (hts _ (List.mem_of_getElem? (i := 6) rfl)) (hts _ (List.mem_of_getElem? (i := 3) rfl)) (hts _ (List.mem_of_getElem? (i := 7) rfl)) (Nat.le_of_ble_eq_true rfl) (Nat.le_of_ble_eq_true rfl) (Nat.zero_le _) (Nat.zero_le _) dX7_countStays_23 ?_
  refine k_topi h (fun x104 h => ?_)
  obtain rfl := fx_i1 h
  exact Ci.ret hC hr hlk hA9 hP hD hS dX7_countStays_26
theorem uX7_stood_X0 : ∀ w ∈ u_ws RX0 TX0 3, w ∈ wsX7_stood := fun w h => List.mem_cons_of_mem _ (List.mem_append_left _ (List.mem_append_left _ (List.mem_append_right _ h)))
theorem uX7_stood_X3 : ∀ w ∈ u_ws RX3 TX3 11, w ∈ wsX7_stood := fun w h => List.mem_cons_of_mem _ (List.mem_append_right _ h)
theorem uX7_stood_X5 : ∀ w ∈ u_ws RX5 TX5 2, w ∈ wsX7_stood := fun w h => List.mem_cons_of_mem _ (List.mem_append_left _ (List.mem_append_right _ h))
theorem uX7_stood_X7 : ∀ w ∈ u_ws RX7 TX7 5, w ∈ wsX7_stood := fun w h => List.mem_cons_of_mem _ (List.mem_append_left _ (List.mem_append_left _ (List.mem_append_left _ (List.mem_append_right _ h))))
abbrev RM_X7_stood : Room := { frames := 5, cells := 0, slots := 0, locals := 106 }
def bd_X7_stood_50 (N : Nat) (x2 : Int32) (x3 : Int32) (S3 : St) (S4 : St) (S5 : St) (S6 : St) (S7 : St) (S8 : St) (S9 : St) (x4 : Int32) (x5 : Int32) (rec : (Int32 × Int32) → Option (Nat × Int32 × Int32)) : Option (Nat × Int32 × Int32) :=
  (if (S3.1 1) ≤ x5 then (
    some (1, x4, (0 : Int32))) else (
    fx_b1 (f_X7_countStays N S3 S4 S5 S6 S7 S8 S9 x5 x3) (fun v101 =>
      (if x2 < 0 then (
      fx_lt (x4 + v101) (fun x102 =>
        fx_lt (x5 + (1 : Int32)) (fun x103 =>
        rec (x102, x103)))) else (
      (if v101 ≤ (x2 - x4) then (
        fx_lt (x4 + v101) (fun x104 =>
          fx_lt (x5 + (1 : Int32)) (fun x105 =>
          rec (x104, x105)))) else (
        some (0, x4, x5))))))))
def lf_X7_stood_50 (N : Nat) (x2 : Int32) (x3 : Int32) (S3 : St) (S4 : St) (S5 : St) (S6 : St) (S7 : St) (S8 : St) (S9 : St) : (Int32 × Int32) → ((Int32 × Int32) → Option (Nat × Int32 × Int32)) → Option (Nat × Int32 × Int32) := fun x rec => bd_X7_stood_50 N x2 x3 S3 S4 S5 S6 S7 S8 S9 x.1 x.2 rec
set_option maxRecDepth 100000 in
set_option maxHeartbeats 4000000 in
theorem lw_X7_stood_50 {p : Program} {l : Launch} {e : Env} {s : State} {m : MethodId} {args : Array Value} {below : List Frame} {meth : Method} {c : Code} {Q : State → Prop} {A : Nat → Prop} {H0 : Heap} {g : GG} (hC : Cx p s m args c RX7 cX7_stood 7 wsX7_stood g) (hA : ∀ q : Nat, H0.size ≤ q → A q) (N : Nat) (q1 : Nat → Nat) (q2 : Nat → Nat) (q3 : Nat → Nat) (q4 : Nat → Nat) (q5 : Nat → Nat) (q6 : Nat → Nat) (q7 : Nat → Nat) (q8 : Nat → Nat) (q9 : Nat → Nat) (x2 : Int32) (x3 : Int32) (S3 : St) (S4 : St) (S5 : St) (S6 : St) (S7 : St) (S8 : St) (S9 : St) : ∀ (n : Nat) (x4 : Int32) (x5 : Int32) (o : Nat × Int32 × Int32), fx_it (lf_X7_stood_50 N x2 x3 S3 S4 S5 S6 S7 S8 S9) n (x4, x5) = some o → ∀ (H : Heap) (locs : List Loc) (ls : Array Slot), va_P g.1 vwCl (wX7 g q1 q2 q6 q7 q9 ++ (wX0 g q2 q3 q4 q5 ++ (wX3 g q3 S3 ++ (wX6 g q4 S4 ++ (wX5 g q5 S5 ++ (wX4 g q6 S6 ++ (wX2 g q7 q8 S7 ++ (wX3 g q8 S8 ++ (wX1 g q9 S9))))))))) H → va_D A (wX7 g q1 q2 q6 q7 q9 ++ (wX0 g q2 q3 q4 q5 ++ (wX3 g q3 S3 ++ (wX6 g q4 S4 ++ (wX5 g q5 S5 ++ (wX4 g q6 S6 ++ (wX2 g q7 q8 S7 ++ (wX3 g q8 S8 ++ (wX1 g q9 S9))))))))) → va_S A H0 H locs → lv_has ls 7 [(0, .ref (q1 100)), (2, .int x2), (3, .int x3), (4, .int x4), (5, .int x5)] → (∀ (z0 : Int32) (z1 : Int32), o = (0, z0, z1) → ∀ (H : Heap) (locs : List Loc) (ls : Array Slot), va_P g.1 vwCl (wX7 g q1 q2 q6 q7 q9 ++ (wX0 g q2 q3 q4 q5 ++ (wX3 g q3 S3 ++ (wX6 g q4 S4 ++ (wX5 g q5 S5 ++ (wX4 g q6 S6 ++ (wX2 g q7 q8 S7 ++ (wX3 g q8 S8 ++ (wX1 g q9 S9))))))))) H → va_D A (wX7 g q1 q2 q6 q7 q9 ++ (wX0 g q2 q3 q4 q5 ++ (wX3 g q3 S3 ++ (wX6 g q4 S4 ++ (wX5 g q5 S5 ++ (wX4 g q6 S6 ++ (wX2 g q7 q8 S7 ++ (wX3 g q8 S8 ++ (wX1 g q9 S9))))))))) → va_S A H0 H locs → lv_has ls 7 [(0, .ref (q1 100)), (2, .int x2), (3, .int x3), (4, .int z0), (5, .int z1)] → W p l e RM_X7_stood s m args below meth c H locs 0 0 Q (F0 m 87 ls [])) → (∀ (z0 : Int32) (z1 : Int32), o = (1, z0, z1) → ∀ (H : Heap) (locs : List Loc) (ls : Array Slot), va_P g.1 vwCl (wX7 g q1 q2 q6 q7 q9 ++ (wX0 g q2 q3 q4 q5 ++ (wX3 g q3 S3 ++ (wX6 g q4 S4 ++ (wX5 g q5 S5 ++ (wX4 g q6 S6 ++ (wX2 g q7 q8 S7 ++ (wX3 g q8 S8 ++ (wX1 g q9 S9))))))))) H → va_D A (wX7 g q1 q2 q6 q7 q9 ++ (wX0 g q2 q3 q4 q5 ++ (wX3 g q3 S3 ++ (wX6 g q4 S4 ++ (wX5 g q5 S5 ++ (wX4 g q6 S6 ++ (wX2 g q7 q8 S7 ++ (wX3 g q8 S8 ++ (wX1 g q9 S9))))))))) → va_S A H0 H locs → lv_has ls 7 [(2, .int x2), (4, .int z0)] → W p l e RM_X7_stood s m args below meth c H locs 0 0 Q (F0 m 119 ls [])) → W p l e RM_X7_stood s m args below meth c H locs 0 0 Q (F0 m 50 ls []) := by
  have hx := hC.1.1
  have hb := hC.1.2.1
  have hml := hC.1.2.2.1
  have hown := hC.1.2.2.2.1
  have hts := hC.1.2.2.2.2
  intro n
  induction n with
  | zero => intro x4 x5 o h; cases h
  | succ n ih =>
    intro x4 x5 o h H locs ls hP hD hS hl k0 k1
    have h : bd_X7_stood_50 N x2 x3 S3 S4 S5 S6 S7 S8 S9 x4 x5 (fx_it (lf_X7_stood_50 N x2 x3 S3 S4 S5 S6 S7 S8 S9) n) = some o := h
    unfold bd_X7_stood_50 at h
    refine lv_iload hx hb dX7_stood_50 (lv_at hl 4 rfl) ?_
    refine lv_aload_n hx hb dX7_stood_52 rfl (lv_at hl 0 rfl) ?_
    refine k_get (ci := 7) (k := 0) (q0 := 0) (v := .ref (q2 100)) (C := RX7) (T := TX7) (N := 5) hC uX7_stood_X7 hP rfl rfl (by decide) (List.mem_of_getElem? (i := 1) rfl) rfl dX7_stood_53 ?_
    refine k_get (ci := 0) (k := 0) (q0 := 1) (v := .ref (q3 100)) (C := RX0) (T := TX0) (N := 3) hC uX7_stood_X0 hP rfl rfl (by decide) (List.mem_of_getElem? (i := 5) rfl) rfl dX7_stood_56 ?_
    refine k_get (ci := 3) (k := 1) (q0 := 2) (v := .int (S3.1 1)) (C := RX3) (T := TX3) (N := 11) hC uX7_stood_X3 hP rfl rfl (by decide) (List.mem_of_getElem? (i := 6) rfl) rfl dX7_stood_59 ?_
    refine k_icmp_ge (tgt := 119) hC dX7_stood_62 (by decide) h (fun h => ?_) (fun h => ?_)
    · exact k1 x4 (0 : Int32) (Option.some.inj h).symm _ _ _ hP hD hS (lv_sub hl [1, 3] rfl)
    · refine lv_aload_n hx hb dX7_stood_65 rfl (lv_at hl 0 rfl) ?_
      refine lv_iload hx hb dX7_stood_66 (lv_at hl 4 rfl) ?_
      refine lv_iload_n hx hb dX7_stood_68 rfl (lv_at hl 2 rfl) ?_
      obtain ⟨v101, hc106, h⟩ := fx_b1_s h
      refine k_callVi0 (C := RX7) (ci := 7) (qr := 0) (n := 2) (As := [.int x5, .int x3]) (rest := []) (wc := (wX7 g q1 q2 q6 q7 q9 ++ (wX0 g q2 q3 q4 q5 ++ (wX3 g q3 S3 ++ (wX6 g q4 S4 ++ (wX5 g q5 S5 ++ (wX4 g q6 S6 ++ (wX2 g q7 q8 S7 ++ (wX3 g q8 S8 ++ (wX1 g q9 S9)))))))))) (bytes := cX7_countStays) (maxL := 4) (ret := (some .int)) hC hl.1 (c_X7_countStays l g N q1 q2 q3 q4 q5 q6 q7 q8 q9 S3 S4 S5 S6 S7 S8 S9 x5 x3 v101 hc106) rfl gX7_stood_X7_countStays (by decide +kernel) rfl rfl ⟨Nat.le_of_ble_eq_true rfl, Nat.le_of_ble_eq_true rfl⟩ rfl rfl rfl (Nat.le_of_ble_eq_true rfl) ⟨Nat.le_of_ble_eq_true rfl, Nat.le_of_ble_eq_true rfl⟩ dX7_stood_69 hP hD hS hA [0, 1, 2, 3, 4, 5, 6, 7, 8, 9, 10, 11, 12, 13, 14, 15, 16, 17, 18, 19, 20, 21, 22, 23, 24, 25, 26, 27, 28, 29, 30, 31] rfl (by decide +kernel) (fun H locs hP hD hS => ?_)
      refine lv_istore (lv' := [(6, .int v101), (0, .ref (q1 100)), (2, .int x2), (3, .int x3), (4, .int x4), (5, .int x5)]) hx hb dX7_stood_72 hl (by decide) rfl (fun ls hl => ?_)
      refine lv_iload_n hx hb dX7_stood_74 rfl (lv_at hl 2 rfl) ?_
      refine k_if_lt (tgt := 106) hC dX7_stood_75 (by decide) h (fun h => ?_) (fun h => ?_)
      · refine lv_iload hx hb dX7_stood_106 (lv_at hl 4 rfl) ?_
        refine lv_iload hx hb dX7_stood_108 (lv_at hl 0 rfl) ?_
        refine lv_iadd hx hb dX7_stood_110 ?_
        refine k_topi h (fun x102 h => ?_)
        refine lv_istore (lv' := [(4, .int x102), (6, .int v101), (0, .ref (q1 100)), (2, .int x2), (3, .int x3), (5, .int x5)]) hx hb dX7_stood_111 hl (by decide) rfl (fun ls hl => ?_)
        refine k_iinc (v := (1 : Int32)) (lv' := fun X => [(5, .int X), (4, .int x102), (6, .int v101), (0, .ref (q1 100)), (2, .int x2), (3, .int x3)]) hC dX7_stood_113 hl (k := 5) rfl (by decide) (by decide) (fun _ => rfl) h (fun x103 h ls hl => ?_)
        refine lv_goto (tgt := 50) hx hb dX7_stood_116 (by decide) ?_
        exact ih x102 x103 o h _ _ _ hP hD hS (lv_sub hl [3, 4, 5, 1, 0] rfl) k0 k1
      · refine lv_iload_n hx hb dX7_stood_78 rfl (lv_at hl 2 rfl) ?_
        refine lv_iload hx hb dX7_stood_79 (lv_at hl 4 rfl) ?_
        refine lv_isub hx hb dX7_stood_81 ?_
        refine lv_iload hx hb dX7_stood_82 (lv_at hl 0 rfl) ?_
        refine k_icmp_ge (tgt := 106) hC dX7_stood_84 (by decide) h (fun h => ?_) (fun h => ?_)
        · refine lv_iload hx hb dX7_stood_106 (lv_at hl 4 rfl) ?_
          refine lv_iload hx hb dX7_stood_108 (lv_at hl 0 rfl) ?_
          refine lv_iadd hx hb dX7_stood_110 ?_
          refine k_topi h (fun x104 h => ?_)
          refine lv_istore (lv' := [(4, .int x104), (6, .int v101), (0, .ref (q1 100)), (2, .int x2), (3, .int x3), (5, .int x5)]) hx hb dX7_stood_111 hl (by decide) rfl (fun ls hl => ?_)
          refine k_iinc (v := (1 : Int32)) (lv' := fun X => [(5, .int X), (4, .int x104), (6, .int v101), (0, .ref (q1 100)), (2, .int x2), (3, .int x3)]) hC dX7_stood_113 hl (k := 5) rfl (by decide) (by decide) (fun _ => rfl) h (fun x105 h ls hl => ?_)
          refine lv_goto (tgt := 50) hx hb dX7_stood_116 (by decide) ?_
          exact ih x104 x105 o h _ _ _ hP hD hS (lv_sub hl [3, 4, 5, 1, 0] rfl) k0 k1
        · exact k0 x4 x5 (Option.some.inj h).symm _ _ _ hP hD hS (lv_sub hl [1, 2, 3, 4, 5] rfl)
def f_X7_stood (N : Nat) (S3 : St) (S4 : St) (S5 : St) (S6 : St) (S7 : St) (S8 : St) (S9 : St) (x1 : Int32) (x2 : Int32) : Option (Int32) :=
  fx_b1 (f_X7_within N x1 (0 : Int32) ((S5.1 0) - (1 : Int32))) (fun v101 =>
  (if v101 = 0 then (
  some (-2 : Int32)) else (
  (if (-1 : Int32) ≤ x2 then (
    fx_ald 6 (S5.2 1) x1 (fun v102 =>
      fx_b3 (fx_it (lf_X7_stood_50 N x2 v102 S3 S4 S5 S6 S7 S8 S9) N ((0 : Int32), (0 : Int32))) (fun t103 x104 x105 =>
      fx_t2 t103 (fx_b1 (f_X7_firstStay N S3 S4 S5 S6 S7 S8 S9 x105 v102) (fun v107 =>
        some (((((100 : Int32) * x105) + v107) + x2) - x104))) ((if x2 = (-1 : Int32) then (
        some x104) else (
        some (-6 : Int32))))))) else (
    some (-6 : Int32))))))
set_option maxRecDepth 100000 in
set_option maxHeartbeats 4000000 in
theorem c_X7_stood (l : Launch) (g : GG) (N : Nat) (q1 : Nat → Nat) (q2 : Nat → Nat) (q3 : Nat → Nat) (q4 : Nat → Nat) (q5 : Nat → Nat) (q6 : Nat → Nat) (q7 : Nat → Nat) (q8 : Nat → Nat) (q9 : Nat → Nat) (S3 : St) (S4 : St) (S5 : St) (S6 : St) (S7 : St) (S8 : St) (S9 : St) (x1 : Int32) (x2 : Int32) (r : Int32) (h : f_X7_stood N S3 S4 S5 S6 S7 S8 S9 x1 x2 = some r) : Ci l yX7_stood wsX7_stood RM_X7_stood g [.ref (q1 100), .int x1, .int x2] (wX7 g q1 q2 q6 q7 q9 ++ (wX0 g q2 q3 q4 q5 ++ (wX3 g q3 S3 ++ (wX6 g q4 S4 ++ (wX5 g q5 S5 ++ (wX4 g q6 S6 ++ (wX2 g q7 q8 S7 ++ (wX3 g q8 S8 ++ (wX1 g q9 S9))))))))) (wX7 g q1 q2 q6 q7 q9 ++ (wX0 g q2 q3 q4 q5 ++ (wX3 g q3 S3 ++ (wX6 g q4 S4 ++ (wX5 g q5 S5 ++ (wX4 g q6 S6 ++ (wX2 g q7 q8 S7 ++ (wX3 g q8 S8 ++ (wX1 g q9 S9))))))))) r := by
  intro sz
  refine Met.ofC (cc := cX7_stood) (maxL := 7) (ret := (some .int)) (by decide) rfl (Nat.le_of_ble_eq_true rfl) ?_
  intro p e s m below meth c hC hr hlk hsz A hA9 hA hP hD hS ls hl
  subst hsz
  have hC : Cx p s m ([.ref (q1 100), .int x1, .int x2] : List Value).toArray c RX7 cX7_stood 7 wsX7_stood g := hC
  have hx := hC.1.1
  have hb := hC.1.2.1
  have hml := hC.1.2.2.1
  have hown := hC.1.2.2.2.1
  have hts := hC.1.2.2.2.2
  have hl : lv_has ls 7 [(0, .ref (q1 100)), (1, .int x1), (2, .int x2)] := hl
  show W p l e RM_X7_stood s m ([.ref (q1 100), .int x1, .int x2] : List Value).toArray below meth c s.heap [] 0 0 (Qi below g [.ref (q1 100), .int x1, .int x2] (wX7 g q1 q2 q6 q7 q9 ++ (wX0 g q2 q3 q4 q5 ++ (wX3 g q3 S3 ++ (wX6 g q4 S4 ++ (wX5 g q5 S5 ++ (wX4 g q6 S6 ++ (wX2 g q7 q8 S7 ++ (wX3 g q8 S8 ++ (wX1 g q9 S9))))))))) (wX7 g q1 q2 q6 q7 q9 ++ (wX0 g q2 q3 q4 q5 ++ (wX3 g q3 S3 ++ (wX6 g q4 S4 ++ (wX5 g q5 S5 ++ (wX4 g q6 S6 ++ (wX2 g q7 q8 S7 ++ (wX3 g q8 S8 ++ (wX1 g q9 S9))))))))) r s) (F0 m 0 ls [])
  unfold f_X7_stood at h
  refine lv_iload_n hx hb dX7_stood_0 rfl (lv_at hl 1 rfl) ?_
  refine lv_iconst (v := (0 : Int32)) hx hb dX7_stood_1 (by decide) ?_
  refine lv_aload_n hx hb dX7_stood_2 rfl (lv_at hl 0 rfl) ?_
  refine k_get (ci := 7) (k := 0) (q0 := 0) (v := .ref (q2 100)) (C := RX7) (T := TX7) (N := 5) hC uX7_stood_X7 hP rfl rfl (by decide) (List.mem_of_getElem? (i := 1) rfl) rfl dX7_stood_3 ?_
  refine k_get (ci := 0) (k := 2) (q0 := 1) (v := .ref (q5 100)) (C := RX0) (T := TX0) (N := 3) hC uX7_stood_X0 hP rfl rfl (by decide) (List.mem_of_getElem? (i := 2) rfl) rfl dX7_stood_6 ?_
  refine k_get (ci := 5) (k := 0) (q0 := 13) (v := .int (S5.1 0)) (C := RX5) (T := TX5) (N := 2) hC uX7_stood_X5 hP rfl rfl (by decide) (List.mem_of_getElem? (i := 3) rfl) rfl dX7_stood_9 ?_
  refine lv_iconst (v := (1 : Int32)) hx hb dX7_stood_12 (by decide) ?_
  refine lv_isub hx hb dX7_stood_13 ?_
  obtain ⟨v101, hc109, h⟩ := fx_b1_s h
  refine k_callSi0 (n := 3) (As := [.int x1, .int (0 : Int32), .int ((S5.1 0) - (1 : Int32))]) (rest := []) (wc := ([] : va_W)) (bytes := cX7_within) (maxL := 3) (ret := (some .boolean)) hC hl.1 (c_X7_within l g N x1 (0 : Int32) ((S5.1 0) - (1 : Int32)) v101 hc109) rfl gX7_stood_X7_within (by decide +kernel) ⟨Nat.le_of_ble_eq_true rfl, Nat.le_of_ble_eq_true rfl⟩ rfl rfl rfl (Nat.le_of_ble_eq_true rfl) ⟨Nat.le_of_ble_eq_true rfl, Nat.le_of_ble_eq_true rfl⟩ dX7_stood_14 hP hD hS hA [] rfl (by decide +kernel) (fun H locs hP hD hS => ?_)
  refine k_if_ne (tgt := 23) hC dX7_stood_17 (by decide) h (fun h => ?_) (fun h => ?_)
  · refine lv_iload_n hx hb dX7_stood_23 rfl (lv_at hl 2 rfl) ?_
    refine lv_iconst (v := (-1 : Int32)) hx hb dX7_stood_24 (by decide) ?_
    refine k_icmp_ge (tgt := 31) hC dX7_stood_25 (by decide) h (fun h => ?_) (fun h => ?_)
    · refine lv_aload_n hx hb dX7_stood_31 rfl (lv_at hl 0 rfl) ?_
      refine k_get (ci := 7) (k := 0) (q0 := 0) (v := .ref (q2 100)) (C := RX7) (T := TX7) (N := 5) hC uX7_stood_X7 hP rfl rfl (by decide) (List.mem_of_getElem? (i := 1) rfl) rfl dX7_stood_32 ?_
      refine k_get (ci := 0) (k := 2) (q0 := 1) (v := .ref (q5 100)) (C := RX0) (T := TX0) (N := 3) hC uX7_stood_X0 hP rfl rfl (by decide) (List.mem_of_getElem? (i := 2) rfl) rfl dX7_stood_35 ?_
      refine k_get (ci := 5) (k := 1) (q0 := 13) (v := .ref (q5 1)) (C := RX5) (T := TX5) (N := 2) hC uX7_stood_X5 hP rfl rfl (by decide) (List.mem_of_getElem? (i := 4) rfl) rfl dX7_stood_38 ?_
      refine lv_iload_n hx hb dX7_stood_41 rfl (lv_at hl 1 rfl) ?_
      refine k_ald (q0 := 14) (n := 6) (F := S5.2 1) hC hP rfl dX7_stood_42 h (fun v102 h => ?_)
      refine lv_istore_n (lv' := [(3, .int v102), (0, .ref (q1 100)), (1, .int x1), (2, .int x2)]) hx hb dX7_stood_43 rfl hl (by decide) rfl (fun ls hl => ?_)
      refine lv_iconst (v := (0 : Int32)) hx hb dX7_stood_44 (by decide) ?_
      refine lv_istore (lv' := [(4, .int (0 : Int32)), (3, .int v102), (0, .ref (q1 100)), (1, .int x1), (2, .int x2)]) hx hb dX7_stood_45 hl (by decide) rfl (fun ls hl => ?_)
      refine lv_iconst (v := (0 : Int32)) hx hb dX7_stood_47 (by decide) ?_
      refine lv_istore (lv' := [(5, .int (0 : Int32)), (4, .int (0 : Int32)), (3, .int v102), (0, .ref (q1 100)), (1, .int x1), (2, .int x2)]) hx hb dX7_stood_48 hl (by decide) rfl (fun ls hl => ?_)
      obtain ⟨t103, x104, x105, ho106, h⟩ := fx_b3_s h
      refine lw_X7_stood_50 hC hA N q1 q2 q3 q4 q5 q6 q7 q8 q9 x2 v102 S3 S4 S5 S6 S7 S8 S9 N (0 : Int32) (0 : Int32)  (t103, x104, x105) ho106 _ _ _ hP hD hS (lv_sub hl [3, 5, 2, 1, 0] rfl) ?_ ?_
      · intro y0 y1 he H locs ls hP hD hS hl
        obtain ⟨rfl, rfl, rfl⟩ := fx_j3 he
        have h := fx_tg2_0 h
        refine lv_bipush (v := (100 : Int32)) hx hb dX7_stood_87 (by decide) ?_
        refine lv_iload hx hb dX7_stood_89 (lv_at hl 4 rfl) ?_
        refine lv_imul hx hb dX7_stood_91 ?_
        refine lv_aload_n hx hb dX7_stood_92 rfl (lv_at hl 0 rfl) ?_
        refine lv_iload hx hb dX7_stood_93 (lv_at hl 4 rfl) ?_
        refine lv_iload_n hx hb dX7_stood_95 rfl (lv_at hl 2 rfl) ?_
        obtain ⟨v107, hc108, h⟩ := fx_b1_s h
        refine k_callVi0 (C := RX7) (ci := 7) (qr := 0) (n := 2) (As := [.int x105, .int v102]) (rest := [.int ((100 : Int32) * x105)]) (wc := (wX7 g q1 q2 q6 q7 q9 ++ (wX0 g q2 q3 q4 q5 ++ (wX3 g q3 S3 ++ (wX6 g q4 S4 ++ (wX5 g q5 S5 ++ (wX4 g q6 S6 ++ (wX2 g q7 q8 S7 ++ (wX3 g q8 S8 ++ (wX1 g q9 S9)))))))))) (bytes := cX7_firstStay) (maxL := 3) (ret := (some .int)) hC hl.1 (c_X7_firstStay l g N q1 q2 q3 q4 q5 q6 q7 q8 q9 S3 S4 S5 S6 S7 S8 S9 x105 v102 v107 hc108) rfl gX7_stood_X7_firstStay (by decide +kernel) rfl rfl ⟨Nat.le_of_ble_eq_true rfl, Nat.le_of_ble_eq_true rfl⟩ rfl rfl rfl (Nat.le_of_ble_eq_true rfl) ⟨Nat.le_of_ble_eq_true rfl, Nat.le_of_ble_eq_true rfl⟩ dX7_stood_96 hP hD hS hA [0, 1, 2, 3, 4, 5, 6, 7, 8, 9, 10, 11, 12, 13, 14, 15, 16, 17, 18, 19, 20, 21, 22, 23, 24, 25, 26, 27, 28, 29, 30, 31] rfl (by decide +kernel) (fun H locs hP hD hS => ?_)
        refine lv_iadd hx hb dX7_stood_99 ?_
        refine lv_iload_n hx hb dX7_stood_100 rfl (lv_at hl 1 rfl) ?_
        refine lv_iadd hx hb dX7_stood_101 ?_
        refine lv_iload hx hb dX7_stood_102 (lv_at hl 3 rfl) ?_
        refine lv_isub hx hb dX7_stood_104 ?_
        obtain rfl := fx_i1 h
        exact Ci.ret hC hr hlk hA9 hP hD hS dX7_stood_105
      · intro y0 y1 he H locs ls hP hD hS hl
        obtain ⟨rfl, rfl, rfl⟩ := fx_j3 he
        have h := fx_tg2_1 h
        refine lv_iload_n hx hb dX7_stood_119 rfl (lv_at hl 0 rfl) ?_
        refine lv_iconst (v := (-1 : Int32)) hx hb dX7_stood_120 (by decide) ?_
        refine k_icmp_ne (tgt := 129) hC dX7_stood_121 (by decide) h (fun h => ?_) (fun h => ?_)
        · refine lv_bipush (v := (-6 : Int32)) hx hb dX7_stood_129 (by decide) ?_
          obtain rfl := fx_i1 h
          exact Ci.ret hC hr hlk hA9 hP hD hS dX7_stood_131
        · refine lv_iload hx hb dX7_stood_124 (lv_at hl 1 rfl) ?_
          refine lv_goto (tgt := 131) hx hb dX7_stood_126 (by decide) ?_
          obtain rfl := fx_i1 h
          exact Ci.ret hC hr hlk hA9 hP hD hS dX7_stood_131
    · refine lv_bipush (v := (-6 : Int32)) hx hb dX7_stood_28 (by decide) ?_
      obtain rfl := fx_i1 h
      exact Ci.ret hC hr hlk hA9 hP hD hS dX7_stood_30
  · refine lv_bipush (v := (-2 : Int32)) hx hb dX7_stood_20 (by decide) ?_
    obtain rfl := fx_i1 h
    exact Ci.ret hC hr hlk hA9 hP hD hS dX7_stood_22
theorem uX7_both_X0 : ∀ w ∈ u_ws RX0 TX0 3, w ∈ wsX7_both := fun w h => List.mem_cons_of_mem _ (List.mem_append_left _ (List.mem_append_left _ (List.mem_append_right _ h)))
theorem uX7_both_X3 : ∀ w ∈ u_ws RX3 TX3 11, w ∈ wsX7_both := fun w h => List.mem_cons_of_mem _ (List.mem_append_left _ (List.mem_append_right _ h))
theorem uX7_both_X5 : ∀ w ∈ u_ws RX5 TX5 2, w ∈ wsX7_both := fun w h => List.mem_cons_of_mem _ (List.mem_append_right _ h)
theorem uX7_both_X7 : ∀ w ∈ u_ws RX7 TX7 5, w ∈ wsX7_both := fun w h => List.mem_cons_of_mem _ (List.mem_append_left _ (List.mem_append_left _ (List.mem_append_left _ (List.mem_append_right _ h))))
abbrev RM_X7_both : Room := { frames := 5, cells := 0, slots := 0, locals := 106 }
def bd_X7_both_23 (N : Nat) (x1 : Int32) (x2 : Int32) (S3 : St) (S4 : St) (S5 : St) (S6 : St) (S7 : St) (S8 : St) (S9 : St) (x3 : Int32) (x4 : Int32) (rec : (Int32 × Int32) → Option (Int32)) : Option (Int32) :=
  (if (S5.1 0) ≤ x4 then (
    some x3) else (
    (if x3 = 0 then (
      some x3) else (
      fx_ald 6 (S5.2 1) x4 (fun v101 =>
        fx_b1 (f_X7_countStays N S3 S4 S5 S6 S7 S8 S9 x2 v101) (fun v102 =>
        (if v102 ≤ 0 then (
        fx_lt (x4 + (1 : Int32)) (fun x103 =>
          rec ((0 : Int32), x103))) else (
        fx_lt (x4 + (1 : Int32)) (fun x104 =>
          rec ((1 : Int32), x104))))))))))
def lf_X7_both_23 (N : Nat) (x1 : Int32) (x2 : Int32) (S3 : St) (S4 : St) (S5 : St) (S6 : St) (S7 : St) (S8 : St) (S9 : St) : (Int32 × Int32) → ((Int32 × Int32) → Option (Int32)) → Option (Int32) := fun x rec => bd_X7_both_23 N x1 x2 S3 S4 S5 S6 S7 S8 S9 x.1 x.2 rec
set_option maxRecDepth 100000 in
set_option maxHeartbeats 4000000 in
theorem lw_X7_both_23 {p : Program} {l : Launch} {e : Env} {s : State} {m : MethodId} {args : Array Value} {below : List Frame} {meth : Method} {c : Code} {Q : State → Prop} {A : Nat → Prop} {H0 : Heap} {g : GG} (hC : Cx p s m args c RX7 cX7_both 5 wsX7_both g) (hA : ∀ q : Nat, H0.size ≤ q → A q) (N : Nat) (q1 : Nat → Nat) (q2 : Nat → Nat) (q3 : Nat → Nat) (q4 : Nat → Nat) (q5 : Nat → Nat) (q6 : Nat → Nat) (q7 : Nat → Nat) (q8 : Nat → Nat) (q9 : Nat → Nat) (x1 : Int32) (x2 : Int32) (S3 : St) (S4 : St) (S5 : St) (S6 : St) (S7 : St) (S8 : St) (S9 : St) : ∀ (n : Nat) (x3 : Int32) (x4 : Int32) (o : Int32), fx_it (lf_X7_both_23 N x1 x2 S3 S4 S5 S6 S7 S8 S9) n (x3, x4) = some o → ∀ (H : Heap) (locs : List Loc) (ls : Array Slot), va_P g.1 vwCl (wX7 g q1 q2 q6 q7 q9 ++ (wX0 g q2 q3 q4 q5 ++ (wX3 g q3 S3 ++ (wX6 g q4 S4 ++ (wX5 g q5 S5 ++ (wX4 g q6 S6 ++ (wX2 g q7 q8 S7 ++ (wX3 g q8 S8 ++ (wX1 g q9 S9))))))))) H → va_D A (wX7 g q1 q2 q6 q7 q9 ++ (wX0 g q2 q3 q4 q5 ++ (wX3 g q3 S3 ++ (wX6 g q4 S4 ++ (wX5 g q5 S5 ++ (wX4 g q6 S6 ++ (wX2 g q7 q8 S7 ++ (wX3 g q8 S8 ++ (wX1 g q9 S9))))))))) → va_S A H0 H locs → lv_has ls 5 [(0, .ref (q1 100)), (1, .int x1), (2, .int x2), (3, .int x3), (4, .int x4)] → (∀ (z0 : Int32), o = z0 → ∀ (H : Heap) (locs : List Loc) (ls : Array Slot), va_P g.1 vwCl (wX7 g q1 q2 q6 q7 q9 ++ (wX0 g q2 q3 q4 q5 ++ (wX3 g q3 S3 ++ (wX6 g q4 S4 ++ (wX5 g q5 S5 ++ (wX4 g q6 S6 ++ (wX2 g q7 q8 S7 ++ (wX3 g q8 S8 ++ (wX1 g q9 S9))))))))) H → va_D A (wX7 g q1 q2 q6 q7 q9 ++ (wX0 g q2 q3 q4 q5 ++ (wX3 g q3 S3 ++ (wX6 g q4 S4 ++ (wX5 g q5 S5 ++ (wX4 g q6 S6 ++ (wX2 g q7 q8 S7 ++ (wX3 g q8 S8 ++ (wX1 g q9 S9))))))))) → va_S A H0 H locs → lv_has ls 5 [(0, .ref (q1 100)), (1, .int x1), (2, .int x2), (3, .int z0)] → W p l e RM_X7_both s m args below meth c H locs 0 0 Q (F0 m 75 ls [])) → W p l e RM_X7_both s m args below meth c H locs 0 0 Q (F0 m 23 ls []) := by
  have hx := hC.1.1
  have hb := hC.1.2.1
  have hml := hC.1.2.2.1
  have hown := hC.1.2.2.2.1
  have hts := hC.1.2.2.2.2
  intro n
  induction n with
  | zero => intro x3 x4 o h; cases h
  | succ n ih =>
    intro x3 x4 o h H locs ls hP hD hS hl k0
    have h : bd_X7_both_23 N x1 x2 S3 S4 S5 S6 S7 S8 S9 x3 x4 (fx_it (lf_X7_both_23 N x1 x2 S3 S4 S5 S6 S7 S8 S9) n) = some o := h
    unfold bd_X7_both_23 at h
    refine lv_iload hx hb dX7_both_23 (lv_at hl 4 rfl) ?_
    refine lv_aload_n hx hb dX7_both_25 rfl (lv_at hl 0 rfl) ?_
    refine k_get (ci := 7) (k := 0) (q0 := 0) (v := .ref (q2 100)) (C := RX7) (T := TX7) (N := 5) hC uX7_both_X7 hP rfl rfl (by decide) (List.mem_of_getElem? (i := 1) rfl) rfl dX7_both_26 ?_
    refine k_get (ci := 0) (k := 2) (q0 := 1) (v := .ref (q5 100)) (C := RX0) (T := TX0) (N := 3) hC uX7_both_X0 hP rfl rfl (by decide) (List.mem_of_getElem? (i := 4) rfl) rfl dX7_both_29 ?_
    refine k_get (ci := 5) (k := 0) (q0 := 13) (v := .int (S5.1 0)) (C := RX5) (T := TX5) (N := 2) hC uX7_both_X5 hP rfl rfl (by decide) (List.mem_of_getElem? (i := 5) rfl) rfl dX7_both_32 ?_
    refine k_icmp_ge (tgt := 75) hC dX7_both_35 (by decide) h (fun h => ?_) (fun h => ?_)
    · exact k0 x3 (Option.some.inj h).symm _ _ _ hP hD hS (lv_sub hl [0, 1, 2, 3] rfl)
    · refine lv_iload_n hx hb dX7_both_38 rfl (lv_at hl 3 rfl) ?_
      refine k_if_eq (tgt := 75) hC dX7_both_39 (by decide) h (fun h => ?_) (fun h => ?_)
      · exact k0 x3 (Option.some.inj h).symm _ _ _ hP hD hS (lv_sub hl [0, 1, 2, 3] rfl)
      · refine lv_aload_n hx hb dX7_both_42 rfl (lv_at hl 0 rfl) ?_
        refine lv_iload_n hx hb dX7_both_43 rfl (lv_at hl 2 rfl) ?_
        refine lv_aload_n hx hb dX7_both_44 rfl (lv_at hl 0 rfl) ?_
        refine k_get (ci := 7) (k := 0) (q0 := 0) (v := .ref (q2 100)) (C := RX7) (T := TX7) (N := 5) hC uX7_both_X7 hP rfl rfl (by decide) (List.mem_of_getElem? (i := 1) rfl) rfl dX7_both_45 ?_
        refine k_get (ci := 0) (k := 2) (q0 := 1) (v := .ref (q5 100)) (C := RX0) (T := TX0) (N := 3) hC uX7_both_X0 hP rfl rfl (by decide) (List.mem_of_getElem? (i := 4) rfl) rfl dX7_both_48 ?_
        refine k_get (ci := 5) (k := 1) (q0 := 13) (v := .ref (q5 1)) (C := RX5) (T := TX5) (N := 2) hC uX7_both_X5 hP rfl rfl (by decide) (List.mem_of_getElem? (i := 6) rfl) rfl dX7_both_51 ?_
        refine lv_iload hx hb dX7_both_54 (lv_at hl 4 rfl) ?_
        refine k_ald (q0 := 14) (n := 6) (F := S5.2 1) hC hP rfl dX7_both_56 h (fun v101 h => ?_)
        obtain ⟨v102, hc105, h⟩ := fx_b1_s h
        refine k_callVi0 (C := RX7) (ci := 7) (qr := 0) (n := 2) (As := [.int x2, .int v101]) (rest := []) (wc := (wX7 g q1 q2 q6 q7 q9 ++ (wX0 g q2 q3 q4 q5 ++ (wX3 g q3 S3 ++ (wX6 g q4 S4 ++ (wX5 g q5 S5 ++ (wX4 g q6 S6 ++ (wX2 g q7 q8 S7 ++ (wX3 g q8 S8 ++ (wX1 g q9 S9)))))))))) (bytes := cX7_countStays) (maxL := 4) (ret := (some .int)) hC hl.1 (c_X7_countStays l g N q1 q2 q3 q4 q5 q6 q7 q8 q9 S3 S4 S5 S6 S7 S8 S9 x2 v101 v102 hc105) rfl gX7_both_X7_countStays (by decide +kernel) rfl rfl ⟨Nat.le_of_ble_eq_true rfl, Nat.le_of_ble_eq_true rfl⟩ rfl rfl rfl (Nat.le_of_ble_eq_true rfl) ⟨Nat.le_of_ble_eq_true rfl, Nat.le_of_ble_eq_true rfl⟩ dX7_both_57 hP hD hS hA [0, 1, 2, 3, 4, 5, 6, 7, 8, 9, 10, 11, 12, 13, 14, 15, 16, 17, 18, 19, 20, 21, 22, 23, 24, 25, 26, 27, 28, 29, 30, 31] rfl (by decide +kernel) (fun H locs hP hD hS => ?_)
        refine k_if_le (tgt := 67) hC dX7_both_60 (by decide) h (fun h => ?_) (fun h => ?_)
        · refine lv_iconst (v := (0 : Int32)) hx hb dX7_both_67 (by decide) ?_
          refine lv_istore_n (lv' := [(3, .int (0 : Int32)), (0, .ref (q1 100)), (1, .int x1), (2, .int x2), (4, .int x4)]) hx hb dX7_both_68 rfl hl (by decide) rfl (fun ls hl => ?_)
          refine k_iinc (v := (1 : Int32)) (lv' := fun X => [(4, .int X), (3, .int (0 : Int32)), (0, .ref (q1 100)), (1, .int x1), (2, .int x2)]) hC dX7_both_69 hl (k := 4) rfl (by decide) (by decide) (fun _ => rfl) h (fun x103 h ls hl => ?_)
          refine lv_goto (tgt := 23) hx hb dX7_both_72 (by decide) ?_
          exact ih (0 : Int32) x103 o h _ _ _ hP hD hS (lv_sub hl [2, 3, 4, 1, 0] rfl) k0
        · refine lv_iconst (v := (1 : Int32)) hx hb dX7_both_63 (by decide) ?_
          refine lv_goto (tgt := 68) hx hb dX7_both_64 (by decide) ?_
          refine lv_istore_n (lv' := [(3, .int (1 : Int32)), (0, .ref (q1 100)), (1, .int x1), (2, .int x2), (4, .int x4)]) hx hb dX7_both_68 rfl hl (by decide) rfl (fun ls hl => ?_)
          refine k_iinc (v := (1 : Int32)) (lv' := fun X => [(4, .int X), (3, .int (1 : Int32)), (0, .ref (q1 100)), (1, .int x1), (2, .int x2)]) hC dX7_both_69 hl (k := 4) rfl (by decide) (by decide) (fun _ => rfl) h (fun x104 h ls hl => ?_)
          refine lv_goto (tgt := 23) hx hb dX7_both_72 (by decide) ?_
          exact ih (1 : Int32) x104 o h _ _ _ hP hD hS (lv_sub hl [2, 3, 4, 1, 0] rfl) k0
def bd_X7_both_4 (N : Nat) (S3 : St) (S4 : St) (S5 : St) (S6 : St) (S7 : St) (S8 : St) (S9 : St) (x1 : Int32) (x2 : Int32) (rec : (Int32 × Int32) → Option (Int32)) : Option (Int32) :=
  (if (S3.1 1) ≤ x2 then (
    some x1) else (
    fx_b1 (fx_it (lf_X7_both_23 N x1 x2 S3 S4 S5 S6 S7 S8 S9) N ((1 : Int32), (0 : Int32))) (fun x101 =>
      (if x101 = 0 then (
        fx_lt (x2 + (1 : Int32)) (fun x103 =>
          rec (x1, x103))) else (
        fx_lt (x1 ||| ((1 : Int32) <<< (x2 &&& 31))) (fun x104 =>
          fx_lt (x2 + (1 : Int32)) (fun x105 =>
          rec (x104, x105))))))))
def lf_X7_both_4 (N : Nat) (S3 : St) (S4 : St) (S5 : St) (S6 : St) (S7 : St) (S8 : St) (S9 : St) : (Int32 × Int32) → ((Int32 × Int32) → Option (Int32)) → Option (Int32) := fun x rec => bd_X7_both_4 N S3 S4 S5 S6 S7 S8 S9 x.1 x.2 rec
set_option maxRecDepth 100000 in
set_option maxHeartbeats 4000000 in
theorem lw_X7_both_4 {p : Program} {l : Launch} {e : Env} {s : State} {m : MethodId} {args : Array Value} {below : List Frame} {meth : Method} {c : Code} {Q : State → Prop} {A : Nat → Prop} {H0 : Heap} {g : GG} (hC : Cx p s m args c RX7 cX7_both 5 wsX7_both g) (hA : ∀ q : Nat, H0.size ≤ q → A q) (N : Nat) (q1 : Nat → Nat) (q2 : Nat → Nat) (q3 : Nat → Nat) (q4 : Nat → Nat) (q5 : Nat → Nat) (q6 : Nat → Nat) (q7 : Nat → Nat) (q8 : Nat → Nat) (q9 : Nat → Nat) (S3 : St) (S4 : St) (S5 : St) (S6 : St) (S7 : St) (S8 : St) (S9 : St) : ∀ (n : Nat) (x1 : Int32) (x2 : Int32) (o : Int32), fx_it (lf_X7_both_4 N S3 S4 S5 S6 S7 S8 S9) n (x1, x2) = some o → ∀ (H : Heap) (locs : List Loc) (ls : Array Slot), va_P g.1 vwCl (wX7 g q1 q2 q6 q7 q9 ++ (wX0 g q2 q3 q4 q5 ++ (wX3 g q3 S3 ++ (wX6 g q4 S4 ++ (wX5 g q5 S5 ++ (wX4 g q6 S6 ++ (wX2 g q7 q8 S7 ++ (wX3 g q8 S8 ++ (wX1 g q9 S9))))))))) H → va_D A (wX7 g q1 q2 q6 q7 q9 ++ (wX0 g q2 q3 q4 q5 ++ (wX3 g q3 S3 ++ (wX6 g q4 S4 ++ (wX5 g q5 S5 ++ (wX4 g q6 S6 ++ (wX2 g q7 q8 S7 ++ (wX3 g q8 S8 ++ (wX1 g q9 S9))))))))) → va_S A H0 H locs → lv_has ls 5 [(0, .ref (q1 100)), (1, .int x1), (2, .int x2)] → (∀ (z0 : Int32), o = z0 → ∀ (H : Heap) (locs : List Loc) (ls : Array Slot), va_P g.1 vwCl (wX7 g q1 q2 q6 q7 q9 ++ (wX0 g q2 q3 q4 q5 ++ (wX3 g q3 S3 ++ (wX6 g q4 S4 ++ (wX5 g q5 S5 ++ (wX4 g q6 S6 ++ (wX2 g q7 q8 S7 ++ (wX3 g q8 S8 ++ (wX1 g q9 S9))))))))) H → va_D A (wX7 g q1 q2 q6 q7 q9 ++ (wX0 g q2 q3 q4 q5 ++ (wX3 g q3 S3 ++ (wX6 g q4 S4 ++ (wX5 g q5 S5 ++ (wX4 g q6 S6 ++ (wX2 g q7 q8 S7 ++ (wX3 g q8 S8 ++ (wX1 g q9 S9))))))))) → va_S A H0 H locs → lv_has ls 5 [(1, .int z0)] → W p l e RM_X7_both s m args below meth c H locs 0 0 Q (F0 m 91 ls [])) → W p l e RM_X7_both s m args below meth c H locs 0 0 Q (F0 m 4 ls []) := by
  have hx := hC.1.1
  have hb := hC.1.2.1
  have hml := hC.1.2.2.1
  have hown := hC.1.2.2.2.1
  have hts := hC.1.2.2.2.2
  intro n
  induction n with
  | zero => intro x1 x2 o h; cases h
  | succ n ih =>
    intro x1 x2 o h H locs ls hP hD hS hl k0
    have h : bd_X7_both_4 N S3 S4 S5 S6 S7 S8 S9 x1 x2 (fx_it (lf_X7_both_4 N S3 S4 S5 S6 S7 S8 S9) n) = some o := h
    unfold bd_X7_both_4 at h
    refine lv_iload_n hx hb dX7_both_4 rfl (lv_at hl 2 rfl) ?_
    refine lv_aload_n hx hb dX7_both_5 rfl (lv_at hl 0 rfl) ?_
    refine k_get (ci := 7) (k := 0) (q0 := 0) (v := .ref (q2 100)) (C := RX7) (T := TX7) (N := 5) hC uX7_both_X7 hP rfl rfl (by decide) (List.mem_of_getElem? (i := 1) rfl) rfl dX7_both_6 ?_
    refine k_get (ci := 0) (k := 0) (q0 := 1) (v := .ref (q3 100)) (C := RX0) (T := TX0) (N := 3) hC uX7_both_X0 hP rfl rfl (by decide) (List.mem_of_getElem? (i := 2) rfl) rfl dX7_both_9 ?_
    refine k_get (ci := 3) (k := 1) (q0 := 2) (v := .int (S3.1 1)) (C := RX3) (T := TX3) (N := 11) hC uX7_both_X3 hP rfl rfl (by decide) (List.mem_of_getElem? (i := 3) rfl) rfl dX7_both_12 ?_
    refine k_icmp_ge (tgt := 91) hC dX7_both_15 (by decide) h (fun h => ?_) (fun h => ?_)
    · exact k0 x1 (Option.some.inj h).symm _ _ _ hP hD hS (lv_sub hl [1] rfl)
    · refine lv_iconst (v := (1 : Int32)) hx hb dX7_both_18 (by decide) ?_
      refine lv_istore_n (lv' := [(3, .int (1 : Int32)), (0, .ref (q1 100)), (1, .int x1), (2, .int x2)]) hx hb dX7_both_19 rfl hl (by decide) rfl (fun ls hl => ?_)
      refine lv_iconst (v := (0 : Int32)) hx hb dX7_both_20 (by decide) ?_
      refine lv_istore (lv' := [(4, .int (0 : Int32)), (3, .int (1 : Int32)), (0, .ref (q1 100)), (1, .int x1), (2, .int x2)]) hx hb dX7_both_21 hl (by decide) rfl (fun ls hl => ?_)
      obtain ⟨x101, ho102, h⟩ := fx_b1_s h
      refine lw_X7_both_23 hC hA N q1 q2 q3 q4 q5 q6 q7 q8 q9 x1 x2 S3 S4 S5 S6 S7 S8 S9 N (1 : Int32) (0 : Int32)  x101 ho102 _ _ _ hP hD hS (lv_sub hl [2, 3, 4, 1, 0] rfl) ?_
      · intro y0 he H locs ls hP hD hS hl
        obtain rfl := he
        refine lv_iload_n hx hb dX7_both_75 rfl (lv_at hl 3 rfl) ?_
        refine k_if_eq (tgt := 85) hC dX7_both_76 (by decide) h (fun h => ?_) (fun h => ?_)
        · refine k_iinc (v := (1 : Int32)) (lv' := fun X => [(2, .int X), (0, .ref (q1 100)), (1, .int x1), (3, .int x101)]) hC dX7_both_85 hl (k := 2) rfl (by decide) (by decide) (fun _ => rfl) h (fun x103 h ls hl => ?_)
          refine lv_goto (tgt := 4) hx hb dX7_both_88 (by decide) ?_
          exact ih x1 x103 o h _ _ _ hP hD hS (lv_sub hl [1, 2, 0] rfl) k0
        · refine lv_iload_n hx hb dX7_both_79 rfl (lv_at hl 1 rfl) ?_
          refine lv_iconst (v := (1 : Int32)) hx hb dX7_both_80 (by decide) ?_
          refine lv_iload_n hx hb dX7_both_81 rfl (lv_at hl 2 rfl) ?_
          refine lv_ishl hx hb dX7_both_82 ?_
          refine lv_ior hx hb dX7_both_83 ?_
          refine k_topi h (fun x104 h => ?_)
          refine lv_istore_n (lv' := [(1, .int x104), (0, .ref (q1 100)), (2, .int x2), (3, .int x101)]) hx hb dX7_both_84 rfl hl (by decide) rfl (fun ls hl => ?_)
          refine k_iinc (v := (1 : Int32)) (lv' := fun X => [(2, .int X), (1, .int x104), (0, .ref (q1 100)), (3, .int x101)]) hC dX7_both_85 hl (k := 2) rfl (by decide) (by decide) (fun _ => rfl) h (fun x105 h ls hl => ?_)
          refine lv_goto (tgt := 4) hx hb dX7_both_88 (by decide) ?_
          exact ih x104 x105 o h _ _ _ hP hD hS (lv_sub hl [2, 1, 0] rfl) k0
def f_X7_both (N : Nat) (S3 : St) (S4 : St) (S5 : St) (S6 : St) (S7 : St) (S8 : St) (S9 : St) : Option (Int32) :=
  fx_b1 (fx_it (lf_X7_both_4 N S3 S4 S5 S6 S7 S8 S9) N ((0 : Int32), (0 : Int32))) (fun x101 =>
  some x101)
set_option maxRecDepth 100000 in
set_option maxHeartbeats 4000000 in
theorem c_X7_both (l : Launch) (g : GG) (N : Nat) (q1 : Nat → Nat) (q2 : Nat → Nat) (q3 : Nat → Nat) (q4 : Nat → Nat) (q5 : Nat → Nat) (q6 : Nat → Nat) (q7 : Nat → Nat) (q8 : Nat → Nat) (q9 : Nat → Nat) (S3 : St) (S4 : St) (S5 : St) (S6 : St) (S7 : St) (S8 : St) (S9 : St) (r : Int32) (h : f_X7_both N S3 S4 S5 S6 S7 S8 S9 = some r) : Ci l yX7_both wsX7_both RM_X7_both g [.ref (q1 100)] (wX7 g q1 q2 q6 q7 q9 ++ (wX0 g q2 q3 q4 q5 ++ (wX3 g q3 S3 ++ (wX6 g q4 S4 ++ (wX5 g q5 S5 ++ (wX4 g q6 S6 ++ (wX2 g q7 q8 S7 ++ (wX3 g q8 S8 ++ (wX1 g q9 S9))))))))) (wX7 g q1 q2 q6 q7 q9 ++ (wX0 g q2 q3 q4 q5 ++ (wX3 g q3 S3 ++ (wX6 g q4 S4 ++ (wX5 g q5 S5 ++ (wX4 g q6 S6 ++ (wX2 g q7 q8 S7 ++ (wX3 g q8 S8 ++ (wX1 g q9 S9))))))))) r := by
  intro sz
  refine Met.ofC (cc := cX7_both) (maxL := 5) (ret := (some .int)) (by decide) rfl (Nat.le_of_ble_eq_true rfl) ?_
  intro p e s m below meth c hC hr hlk hsz A hA9 hA hP hD hS ls hl
  subst hsz
  have hC : Cx p s m ([.ref (q1 100)] : List Value).toArray c RX7 cX7_both 5 wsX7_both g := hC
  have hx := hC.1.1
  have hb := hC.1.2.1
  have hml := hC.1.2.2.1
  have hown := hC.1.2.2.2.1
  have hts := hC.1.2.2.2.2
  have hl : lv_has ls 5 [(0, .ref (q1 100))] := hl
  show W p l e RM_X7_both s m ([.ref (q1 100)] : List Value).toArray below meth c s.heap [] 0 0 (Qi below g [.ref (q1 100)] (wX7 g q1 q2 q6 q7 q9 ++ (wX0 g q2 q3 q4 q5 ++ (wX3 g q3 S3 ++ (wX6 g q4 S4 ++ (wX5 g q5 S5 ++ (wX4 g q6 S6 ++ (wX2 g q7 q8 S7 ++ (wX3 g q8 S8 ++ (wX1 g q9 S9))))))))) (wX7 g q1 q2 q6 q7 q9 ++ (wX0 g q2 q3 q4 q5 ++ (wX3 g q3 S3 ++ (wX6 g q4 S4 ++ (wX5 g q5 S5 ++ (wX4 g q6 S6 ++ (wX2 g q7 q8 S7 ++ (wX3 g q8 S8 ++ (wX1 g q9 S9))))))))) r s) (F0 m 0 ls [])
  unfold f_X7_both at h
  refine lv_iconst (v := (0 : Int32)) hx hb dX7_both_0 (by decide) ?_
  refine lv_istore_n (lv' := [(1, .int (0 : Int32)), (0, .ref (q1 100))]) hx hb dX7_both_1 rfl hl (by decide) rfl (fun ls hl => ?_)
  refine lv_iconst (v := (0 : Int32)) hx hb dX7_both_2 (by decide) ?_
  refine lv_istore_n (lv' := [(2, .int (0 : Int32)), (1, .int (0 : Int32)), (0, .ref (q1 100))]) hx hb dX7_both_3 rfl hl (by decide) rfl (fun ls hl => ?_)
  obtain ⟨x101, ho102, h⟩ := fx_b1_s h
  refine lw_X7_both_4 hC hA N q1 q2 q3 q4 q5 q6 q7 q8 q9 S3 S4 S5 S6 S7 S8 S9 N (0 : Int32) (0 : Int32)  x101 ho102 _ _ _ hP hD hS (lv_sub hl [2, 1, 0] rfl) ?_
  · intro y0 he H locs ls hP hD hS hl
    obtain rfl := he
    refine lv_iload_n hx hb dX7_both_91 rfl (lv_at hl 0 rfl) ?_
    obtain rfl := fx_i1 h
    exact Ci.ret hC hr hlk hA9 hP hD hS dX7_both_92
abbrev RM_X7_power : Room := { frames := 0, cells := 0, slots := 0, locals := 0 }
def bd_X7_power_5 (N : Nat) (x0 : Int32) (x1 : Int32) (x2 : Int64) (x4 : Int32) (rec : (Int64 × Int32) → Option (Int64)) : Option (Int64) :=
  (if x1 ≤ x4 then (
    some x2) else (
    fx_lt (x2 * (Int32.toInt64 x0)) (fun x101 =>
      fx_lt (x4 + (1 : Int32)) (fun x102 =>
      rec (x101, x102)))))
def lf_X7_power_5 (N : Nat) (x0 : Int32) (x1 : Int32) : (Int64 × Int32) → ((Int64 × Int32) → Option (Int64)) → Option (Int64) := fun x rec => bd_X7_power_5 N x0 x1 x.1 x.2 rec
set_option maxRecDepth 100000 in
set_option maxHeartbeats 4000000 in
theorem lw_X7_power_5 {p : Program} {l : Launch} {e : Env} {s : State} {m : MethodId} {args : Array Value} {below : List Frame} {meth : Method} {c : Code} {Q : State → Prop} {A : Nat → Prop} {H0 : Heap} {g : GG} (hC : Cx p s m args c RX7 cX7_power 5 wsX7_power g) (hA : ∀ q : Nat, H0.size ≤ q → A q) (N : Nat)  (x0 : Int32) (x1 : Int32) : ∀ (n : Nat) (x2 : Int64) (x4 : Int32) (o : Int64), fx_it (lf_X7_power_5 N x0 x1) n (x2, x4) = some o → ∀ (H : Heap) (locs : List Loc) (ls : Array Slot), va_P g.1 vwCl ([] : va_W) H → va_D A ([] : va_W) → va_S A H0 H locs → lv_has ls 5 [(0, .int x0), (1, .int x1), (2, .long x2), (4, .int x4)] → (∀ (z0 : Int64), o = z0 → ∀ (H : Heap) (locs : List Loc) (ls : Array Slot), va_P g.1 vwCl ([] : va_W) H → va_D A ([] : va_W) → va_S A H0 H locs → lv_has ls 5 [(2, .long z0)] → W p l e RM_X7_power s m args below meth c H locs 0 0 Q (F0 m 22 ls [])) → W p l e RM_X7_power s m args below meth c H locs 0 0 Q (F0 m 5 ls []) := by
  have hx := hC.1.1
  have hb := hC.1.2.1
  have hml := hC.1.2.2.1
  have hown := hC.1.2.2.2.1
  have hts := hC.1.2.2.2.2
  intro n
  induction n with
  | zero => intro x2 x4 o h; cases h
  | succ n ih =>
    intro x2 x4 o h H locs ls hP hD hS hl k0
    have h : bd_X7_power_5 N x0 x1 x2 x4 (fx_it (lf_X7_power_5 N x0 x1) n) = some o := h
    unfold bd_X7_power_5 at h
    refine lv_iload hx hb dX7_power_5 (lv_at hl 3 rfl) ?_
    refine lv_iload_n hx hb dX7_power_7 rfl (lv_at hl 1 rfl) ?_
    refine k_icmp_ge (tgt := 22) hC dX7_power_8 (by decide) h (fun h => ?_) (fun h => ?_)
    · exact k0 x2 (Option.some.inj h).symm _ _ _ hP hD hS (lv_sub hl [2] rfl)
    · refine lv_lload_n hx hb dX7_power_11 rfl (lv_at hl 2 rfl) ?_
      refine lv_iload_n hx hb dX7_power_12 rfl (lv_at hl 0 rfl) ?_
      refine lv_i2l hx hb dX7_power_13 rfl ?_
      refine lv_lmul hx hb dX7_power_14 ?_
      refine k_topl h (fun x101 h => ?_)
      refine lv_lstore_n (lv' := [(2, .long x101), (0, .int x0), (1, .int x1), (4, .int x4)]) hx hb dX7_power_15 rfl hl (by decide) rfl (fun ls hl => ?_)
      refine k_iinc (v := (1 : Int32)) (lv' := fun X => [(4, .int X), (2, .long x101), (0, .int x0), (1, .int x1)]) hC dX7_power_16 hl (k := 3) rfl (by decide) (by decide) (fun _ => rfl) h (fun x102 h ls hl => ?_)
      refine lv_goto (tgt := 5) hx hb dX7_power_19 (by decide) ?_
      exact ih x101 x102 o h _ _ _ hP hD hS (lv_sub hl [2, 3, 1, 0] rfl) k0
def f_X7_power (N : Nat) (x0 : Int32) (x1 : Int32) : Option (Int64) :=
  fx_b1 (fx_it (lf_X7_power_5 N x0 x1) N ((1 : Int64), (0 : Int32))) (fun x101 =>
  some x101)
set_option maxRecDepth 100000 in
set_option maxHeartbeats 4000000 in
theorem c_X7_power (l : Launch) (g : GG) (N : Nat) (x0 : Int32) (x1 : Int32) (r : Int64) (h : f_X7_power N x0 x1 = some r) : Cl l yX7_power wsX7_power RM_X7_power g [.int x0, .int x1] ([] : va_W) ([] : va_W) r := by
  intro sz
  refine Met.ofC (cc := cX7_power) (maxL := 5) (ret := (some .long)) (by decide) rfl (Nat.le_of_ble_eq_true rfl) ?_
  intro p e s m below meth c hC hr hlk hsz A hA9 hA hP hD hS ls hl
  subst hsz
  have hC : Cx p s m ([.int x0, .int x1] : List Value).toArray c RX7 cX7_power 5 wsX7_power g := hC
  have hx := hC.1.1
  have hb := hC.1.2.1
  have hml := hC.1.2.2.1
  have hown := hC.1.2.2.2.1
  have hts := hC.1.2.2.2.2
  have hl : lv_has ls 5 [(0, .int x0), (1, .int x1)] := hl
  show W p l e RM_X7_power s m ([.int x0, .int x1] : List Value).toArray below meth c s.heap [] 0 0 (Ql below g [.int x0, .int x1] ([] : va_W) ([] : va_W) r s) (F0 m 0 ls [])
  unfold f_X7_power at h
  refine lv_lconst (v := (1 : Int64)) hx hb dX7_power_0 (by decide) ?_
  refine lv_lstore_n (lv' := [(2, .long (1 : Int64)), (0, .int x0), (1, .int x1)]) hx hb dX7_power_1 rfl hl (by decide) rfl (fun ls hl => ?_)
  refine lv_iconst (v := (0 : Int32)) hx hb dX7_power_2 (by decide) ?_
  refine lv_istore (lv' := [(4, .int (0 : Int32)), (2, .long (1 : Int64)), (0, .int x0), (1, .int x1)]) hx hb dX7_power_3 hl (by decide) rfl (fun ls hl => ?_)
  obtain ⟨x101, ho102, h⟩ := fx_b1_s h
  refine lw_X7_power_5 hC hA N x0 x1 N (1 : Int64) (0 : Int32)  x101 ho102 _ _ _ hP hD hS (lv_sub hl [2, 3, 1, 0] rfl) ?_
  · intro y0 he H locs ls hP hD hS hl
    obtain rfl := he
    refine lv_lload_n hx hb dX7_power_22 rfl (lv_at hl 0 rfl) ?_
    obtain rfl := fx_i1 h
    exact Cl.ret hC hr hlk hA9 hP hD hS dX7_power_23
abbrev RM_X7_commonDivisor : Room := { frames := 0, cells := 0, slots := 0, locals := 0 }
def bd_X7_commonDivisor_9 (N : Nat) (x4 : Int64) (x6 : Int64) (x8 : Int32) (rec : (Int64 × Int64 × Int32) → Option (Int64)) : Option (Int64) :=
  (if (100 : Int32) ≤ x8 then (
    some x4) else (
    (if (lg_cmp x6 (0 : Int64)) = 0 then (
      some x4) else (
      fx_nzl x6 (
        fx_lt (x4 - x4 / x6 * x6) (fun x101 =>
        fx_lt (x8 + (1 : Int32)) (fun x102 =>
        rec (x6, x101, x102))))))))
def lf_X7_commonDivisor_9 (N : Nat) : (Int64 × Int64 × Int32) → ((Int64 × Int64 × Int32) → Option (Int64)) → Option (Int64) := fun x rec => bd_X7_commonDivisor_9 N x.1 x.2.1 x.2.2 rec
set_option maxRecDepth 100000 in
set_option maxHeartbeats 4000000 in
theorem lw_X7_commonDivisor_9 {p : Program} {l : Launch} {e : Env} {s : State} {m : MethodId} {args : Array Value} {below : List Frame} {meth : Method} {c : Code} {Q : State → Prop} {A : Nat → Prop} {H0 : Heap} {g : GG} (hC : Cx p s m args c RX7 cX7_commonDivisor 11 wsX7_commonDivisor g) (hA : ∀ q : Nat, H0.size ≤ q → A q) (N : Nat)  : ∀ (n : Nat) (x4 : Int64) (x6 : Int64) (x8 : Int32) (o : Int64), fx_it (lf_X7_commonDivisor_9 N) n (x4, x6, x8) = some o → ∀ (H : Heap) (locs : List Loc) (ls : Array Slot), va_P g.1 vwCl ([] : va_W) H → va_D A ([] : va_W) → va_S A H0 H locs → lv_has ls 11 [(4, .long x4), (6, .long x6), (8, .int x8)] → (∀ (z0 : Int64), o = z0 → ∀ (H : Heap) (locs : List Loc) (ls : Array Slot), va_P g.1 vwCl ([] : va_W) H → va_D A ([] : va_W) → va_S A H0 H locs → lv_has ls 11 [(4, .long z0)] → W p l e RM_X7_commonDivisor s m args below meth c H locs 0 0 Q (F0 m 44 ls [])) → W p l e RM_X7_commonDivisor s m args below meth c H locs 0 0 Q (F0 m 9 ls []) := by
  have hx := hC.1.1
  have hb := hC.1.2.1
  have hml := hC.1.2.2.1
  have hown := hC.1.2.2.2.1
  have hts := hC.1.2.2.2.2
  intro n
  induction n with
  | zero => intro x4 x6 x8 o h; cases h
  | succ n ih =>
    intro x4 x6 x8 o h H locs ls hP hD hS hl k0
    have h : bd_X7_commonDivisor_9 N x4 x6 x8 (fx_it (lf_X7_commonDivisor_9 N) n) = some o := h
    unfold bd_X7_commonDivisor_9 at h
    refine lv_iload hx hb dX7_commonDivisor_9 (lv_at hl 2 rfl) ?_
    refine lv_bipush (v := (100 : Int32)) hx hb dX7_commonDivisor_11 (by decide) ?_
    refine k_icmp_ge (tgt := 44) hC dX7_commonDivisor_13 (by decide) h (fun h => ?_) (fun h => ?_)
    · exact k0 x4 (Option.some.inj h).symm _ _ _ hP hD hS (lv_sub hl [0] rfl)
    · refine lv_lload hx hb dX7_commonDivisor_16 (lv_at hl 1 rfl) ?_
      refine lv_lconst (v := (0 : Int64)) hx hb dX7_commonDivisor_18 (by decide) ?_
      refine W.lcmp hx hb dX7_commonDivisor_19 ?_
      refine k_if_eq (tgt := 44) hC dX7_commonDivisor_20 (by decide) h (fun h => ?_) (fun h => ?_)
      · exact k0 x4 (Option.some.inj h).symm _ _ _ hP hD hS (lv_sub hl [0] rfl)
      · refine lv_lload hx hb dX7_commonDivisor_23 (lv_at hl 0 rfl) ?_
        refine lv_lload hx hb dX7_commonDivisor_25 (lv_at hl 1 rfl) ?_
        obtain ⟨hne, h⟩ := fx_nzl_s h
        refine lv_lrem hx hb dX7_commonDivisor_27 hne ?_
        refine k_topl h (fun x101 h => ?_)
        refine lv_lstore (lv' := [(9, .long x101), (4, .long x4), (6, .long x6), (8, .int x8)]) hx hb dX7_commonDivisor_28 hl (by decide) rfl (fun ls hl => ?_)
        refine lv_lload hx hb dX7_commonDivisor_30 (lv_at hl 2 rfl) ?_
        refine lv_lstore (lv' := [(4, .long x6), (9, .long x101), (6, .long x6), (8, .int x8)]) hx hb dX7_commonDivisor_32 hl (by decide) rfl (fun ls hl => ?_)
        refine lv_lload hx hb dX7_commonDivisor_34 (lv_at hl 1 rfl) ?_
        refine lv_lstore (lv' := [(6, .long x101), (4, .long x6), (9, .long x101), (8, .int x8)]) hx hb dX7_commonDivisor_36 hl (by decide) rfl (fun ls hl => ?_)
        refine k_iinc (v := (1 : Int32)) (lv' := fun X => [(8, .int X), (6, .long x101), (4, .long x6), (9, .long x101)]) hC dX7_commonDivisor_38 hl (k := 3) rfl (by decide) (by decide) (fun _ => rfl) h (fun x102 h ls hl => ?_)
        refine lv_goto (tgt := 9) hx hb dX7_commonDivisor_41 (by decide) ?_
        exact ih x6 x101 x102 o h _ _ _ hP hD hS (lv_sub hl [2, 1, 0] rfl) k0
def f_X7_commonDivisor (N : Nat) (x0 : Int64) (x2 : Int64) : Option (Int64) :=
  fx_b1 (fx_it (lf_X7_commonDivisor_9 N) N (x0, x2, (0 : Int32))) (fun x101 =>
  some x101)
set_option maxRecDepth 100000 in
set_option maxHeartbeats 4000000 in
theorem c_X7_commonDivisor (l : Launch) (g : GG) (N : Nat) (x0 : Int64) (x2 : Int64) (r : Int64) (h : f_X7_commonDivisor N x0 x2 = some r) : Cl l yX7_commonDivisor wsX7_commonDivisor RM_X7_commonDivisor g [.long x0, .long x2] ([] : va_W) ([] : va_W) r := by
  intro sz
  refine Met.ofC (cc := cX7_commonDivisor) (maxL := 11) (ret := (some .long)) (by decide) rfl (Nat.le_of_ble_eq_true rfl) ?_
  intro p e s m below meth c hC hr hlk hsz A hA9 hA hP hD hS ls hl
  subst hsz
  have hC : Cx p s m ([.long x0, .long x2] : List Value).toArray c RX7 cX7_commonDivisor 11 wsX7_commonDivisor g := hC
  have hx := hC.1.1
  have hb := hC.1.2.1
  have hml := hC.1.2.2.1
  have hown := hC.1.2.2.2.1
  have hts := hC.1.2.2.2.2
  have hl : lv_has ls 11 [(0, .long x0), (2, .long x2)] := hl
  show W p l e RM_X7_commonDivisor s m ([.long x0, .long x2] : List Value).toArray below meth c s.heap [] 0 0 (Ql below g [.long x0, .long x2] ([] : va_W) ([] : va_W) r s) (F0 m 0 ls [])
  unfold f_X7_commonDivisor at h
  refine lv_lload_n hx hb dX7_commonDivisor_0 rfl (lv_at hl 0 rfl) ?_
  refine lv_lstore (lv' := [(4, .long x0), (0, .long x0), (2, .long x2)]) hx hb dX7_commonDivisor_1 hl (by decide) rfl (fun ls hl => ?_)
  refine lv_lload_n hx hb dX7_commonDivisor_3 rfl (lv_at hl 2 rfl) ?_
  refine lv_lstore (lv' := [(6, .long x2), (4, .long x0), (0, .long x0), (2, .long x2)]) hx hb dX7_commonDivisor_4 hl (by decide) rfl (fun ls hl => ?_)
  refine lv_iconst (v := (0 : Int32)) hx hb dX7_commonDivisor_6 (by decide) ?_
  refine lv_istore (lv' := [(8, .int (0 : Int32)), (6, .long x2), (4, .long x0), (0, .long x0), (2, .long x2)]) hx hb dX7_commonDivisor_7 hl (by decide) rfl (fun ls hl => ?_)
  obtain ⟨x101, ho102, h⟩ := fx_b1_s h
  refine lw_X7_commonDivisor_9 hC hA N N x0 x2 (0 : Int32)  x101 ho102 _ _ _ hP hD hS (lv_sub hl [2, 1, 0] rfl) ?_
  · intro y0 he H locs ls hP hD hS hl
    obtain rfl := he
    refine lv_lload hx hb dX7_commonDivisor_44 (lv_at hl 0 rfl) ?_
    obtain rfl := fx_i1 h
    exact Cl.ret hC hr hlk hA9 hP hD hS dX7_commonDivisor_46
theorem uX7_winds_X0 : ∀ w ∈ u_ws RX0 TX0 3, w ∈ wsX7_winds := fun w h => List.mem_cons_of_mem _ (List.mem_append_left _ (List.mem_append_left _ (List.mem_append_right _ h)))
theorem uX7_winds_X7 : ∀ w ∈ u_ws RX7 TX7 5, w ∈ wsX7_winds := fun w h => List.mem_cons_of_mem _ (List.mem_append_left _ (List.mem_append_left _ (List.mem_append_left _ (List.mem_append_right _ h))))
abbrev RM_X7_winds : Room := { frames := 3, cells := 0, slots := 0, locals := 63 }
def bd_X7_winds_73 (N : Nat) (x1 : Int32) (x2 : Int32) (x3 : Int32) (x4 : Int32) (x5 : Int32) (S3 : St) (S4 : St) (S5 : St) (S6 : St) (S7 : St) (S8 : St) (S9 : St) (x6 : Int64) (x8 : Int32) (rec : (Int64 × Int32) → Option (Int64)) : Option (Int64) :=
  (if ((1 : Int32) <<< (x4 &&& 31)) ≤ x8 then (
    some x6) else (
    fx_b1 (f_X3_bakedByDoors N S3 x2 x4 x8) (fun v101 =>
      fx_b1 (f_X6_verdict N S4 x1 v101) (fun v102 =>
      (if v102 = (1 : Int32) then (
      fx_b1 (f_J6_bitCount_0f7a4 N x8) (fun v104 =>
        fx_b1 (f_X7_power N x3 v104) (fun v105 =>
        fx_b1 (f_X7_power N ((10 : Int32) - x3) (x4 - v104)) (fun v106 =>
        fx_lt (x6 + (v105 * v106)) (fun x107 =>
        fx_lt (x8 + (1 : Int32)) (fun x108 =>
        rec (x107, x108))))))) else (
      fx_lt (x8 + (1 : Int32)) (fun x103 =>
        rec (x6, x103))))))))
def lf_X7_winds_73 (N : Nat) (x1 : Int32) (x2 : Int32) (x3 : Int32) (x4 : Int32) (x5 : Int32) (S3 : St) (S4 : St) (S5 : St) (S6 : St) (S7 : St) (S8 : St) (S9 : St) : (Int64 × Int32) → ((Int64 × Int32) → Option (Int64)) → Option (Int64) := fun x rec => bd_X7_winds_73 N x1 x2 x3 x4 x5 S3 S4 S5 S6 S7 S8 S9 x.1 x.2 rec
set_option maxRecDepth 100000 in
set_option maxHeartbeats 4000000 in
theorem lw_X7_winds_73 {p : Program} {l : Launch} {e : Env} {s : State} {m : MethodId} {args : Array Value} {below : List Frame} {meth : Method} {c : Code} {Q : State → Prop} {A : Nat → Prop} {H0 : Heap} {g : GG} (hC : Cx p s m args c RX7 cX7_winds 12 wsX7_winds g) (hA : ∀ q : Nat, H0.size ≤ q → A q) (N : Nat) (q1 : Nat → Nat) (q2 : Nat → Nat) (q3 : Nat → Nat) (q4 : Nat → Nat) (q5 : Nat → Nat) (q6 : Nat → Nat) (q7 : Nat → Nat) (q8 : Nat → Nat) (q9 : Nat → Nat) (x1 : Int32) (x2 : Int32) (x3 : Int32) (x4 : Int32) (x5 : Int32) (S3 : St) (S4 : St) (S5 : St) (S6 : St) (S7 : St) (S8 : St) (S9 : St) : ∀ (n : Nat) (x6 : Int64) (x8 : Int32) (o : Int64), fx_it (lf_X7_winds_73 N x1 x2 x3 x4 x5 S3 S4 S5 S6 S7 S8 S9) n (x6, x8) = some o → ∀ (H : Heap) (locs : List Loc) (ls : Array Slot), va_P g.1 vwCl (wX7 g q1 q2 q6 q7 q9 ++ (wX0 g q2 q3 q4 q5 ++ (wX3 g q3 S3 ++ (wX6 g q4 S4 ++ (wX5 g q5 S5 ++ (wX4 g q6 S6 ++ (wX2 g q7 q8 S7 ++ (wX3 g q8 S8 ++ (wX1 g q9 S9))))))))) H → va_D A (wX7 g q1 q2 q6 q7 q9 ++ (wX0 g q2 q3 q4 q5 ++ (wX3 g q3 S3 ++ (wX6 g q4 S4 ++ (wX5 g q5 S5 ++ (wX4 g q6 S6 ++ (wX2 g q7 q8 S7 ++ (wX3 g q8 S8 ++ (wX1 g q9 S9))))))))) → va_S A H0 H locs → lv_has ls 12 [(0, .ref (q1 100)), (1, .int x1), (2, .int x2), (3, .int x3), (4, .int x4), (5, .int x5), (6, .long x6), (8, .int x8)] → (∀ (z0 : Int64), o = z0 → ∀ (H : Heap) (locs : List Loc) (ls : Array Slot), va_P g.1 vwCl (wX7 g q1 q2 q6 q7 q9 ++ (wX0 g q2 q3 q4 q5 ++ (wX3 g q3 S3 ++ (wX6 g q4 S4 ++ (wX5 g q5 S5 ++ (wX4 g q6 S6 ++ (wX2 g q7 q8 S7 ++ (wX3 g q8 S8 ++ (wX1 g q9 S9))))))))) H → va_D A (wX7 g q1 q2 q6 q7 q9 ++ (wX0 g q2 q3 q4 q5 ++ (wX3 g q3 S3 ++ (wX6 g q4 S4 ++ (wX5 g q5 S5 ++ (wX4 g q6 S6 ++ (wX2 g q7 q8 S7 ++ (wX3 g q8 S8 ++ (wX1 g q9 S9))))))))) → va_S A H0 H locs → lv_has ls 12 [(4, .int x4), (5, .int x5), (6, .long z0)] → W p l e RM_X7_winds s m args below meth c H locs 0 0 Q (F0 m 153 ls [])) → W p l e RM_X7_winds s m args below meth c H locs 0 0 Q (F0 m 73 ls []) := by
  have hx := hC.1.1
  have hb := hC.1.2.1
  have hml := hC.1.2.2.1
  have hown := hC.1.2.2.2.1
  have hts := hC.1.2.2.2.2
  intro n
  induction n with
  | zero => intro x6 x8 o h; cases h
  | succ n ih =>
    intro x6 x8 o h H locs ls hP hD hS hl k0
    have h : bd_X7_winds_73 N x1 x2 x3 x4 x5 S3 S4 S5 S6 S7 S8 S9 x6 x8 (fx_it (lf_X7_winds_73 N x1 x2 x3 x4 x5 S3 S4 S5 S6 S7 S8 S9) n) = some o := h
    unfold bd_X7_winds_73 at h
    refine lv_iload hx hb dX7_winds_73 (lv_at hl 7 rfl) ?_
    refine lv_iconst (v := (1 : Int32)) hx hb dX7_winds_75 (by decide) ?_
    refine lv_iload hx hb dX7_winds_76 (lv_at hl 4 rfl) ?_
    refine lv_ishl hx hb dX7_winds_78 ?_
    refine k_icmp_ge (tgt := 153) hC dX7_winds_79 (by decide) h (fun h => ?_) (fun h => ?_)
    · exact k0 x6 (Option.some.inj h).symm _ _ _ hP hD hS (lv_sub hl [4, 5, 6] rfl)
    · refine lv_aload_n hx hb dX7_winds_82 rfl (lv_at hl 0 rfl) ?_
      refine k_get (ci := 7) (k := 0) (q0 := 0) (v := .ref (q2 100)) (C := RX7) (T := TX7) (N := 5) hC uX7_winds_X7 hP rfl rfl (by decide) (List.mem_of_getElem? (i := 1) rfl) rfl dX7_winds_83 ?_
      refine k_get (ci := 0) (k := 0) (q0 := 1) (v := .ref (q3 100)) (C := RX0) (T := TX0) (N := 3) hC uX7_winds_X0 hP rfl rfl (by decide) (List.mem_of_getElem? (i := 3) rfl) rfl dX7_winds_86 ?_
      refine lv_iload_n hx hb dX7_winds_89 rfl (lv_at hl 2 rfl) ?_
      refine lv_iload hx hb dX7_winds_90 (lv_at hl 4 rfl) ?_
      refine lv_iload hx hb dX7_winds_92 (lv_at hl 7 rfl) ?_
      obtain ⟨v101, hc113, h⟩ := fx_b1_s h
      refine k_callVi0 (C := RX3) (ci := 3) (qr := 0) (n := 3) (As := [.int x2, .int x4, .int x8]) (rest := []) (wc := (wX3 g q3 S3)) (bytes := cX3_bakedByDoors) (maxL := 8) (ret := (some .int)) hC hl.1 (c_X3_bakedByDoors l g N q3 S3 x2 x4 x8 v101 hc113) rfl gX7_winds_X3_bakedByDoors (by decide +kernel) rfl rfl ⟨Nat.le_of_ble_eq_true rfl, Nat.le_of_ble_eq_true rfl⟩ rfl rfl rfl (Nat.le_of_ble_eq_true rfl) ⟨Nat.le_of_ble_eq_true rfl, Nat.le_of_ble_eq_true rfl⟩ dX7_winds_94 hP hD hS hA [2, 3, 4, 5, 6, 7] rfl (by decide +kernel) (fun H locs hP hD hS => ?_)
      refine lv_istore (lv' := [(9, .int v101), (0, .ref (q1 100)), (1, .int x1), (2, .int x2), (3, .int x3), (4, .int x4), (5, .int x5), (6, .long x6), (8, .int x8)]) hx hb dX7_winds_97 hl (by decide) rfl (fun ls hl => ?_)
      refine lv_aload_n hx hb dX7_winds_99 rfl (lv_at hl 1 rfl) ?_
      refine k_get (ci := 7) (k := 0) (q0 := 0) (v := .ref (q2 100)) (C := RX7) (T := TX7) (N := 5) hC uX7_winds_X7 hP rfl rfl (by decide) (List.mem_of_getElem? (i := 1) rfl) rfl dX7_winds_100 ?_
      refine k_get (ci := 0) (k := 1) (q0 := 1) (v := .ref (q4 100)) (C := RX0) (T := TX0) (N := 3) hC uX7_winds_X0 hP rfl rfl (by decide) (List.mem_of_getElem? (i := 2) rfl) rfl dX7_winds_103 ?_
      refine lv_iload_n hx hb dX7_winds_106 rfl (lv_at hl 2 rfl) ?_
      refine lv_iload hx hb dX7_winds_107 (lv_at hl 0 rfl) ?_
      obtain ⟨v102, hc112, h⟩ := fx_b1_s h
      refine k_callVi0 (C := RX6) (ci := 6) (qr := 0) (n := 2) (As := [.int x1, .int v101]) (rest := []) (wc := (wX6 g q4 S4)) (bytes := cX6_verdict) (maxL := 3) (ret := (some .int)) hC hl.1 (c_X6_verdict l g N q4 S4 x1 v101 v102 hc112) rfl gX7_winds_X6_verdict (by decide +kernel) rfl rfl ⟨Nat.le_of_ble_eq_true rfl, Nat.le_of_ble_eq_true rfl⟩ rfl rfl rfl (Nat.le_of_ble_eq_true rfl) ⟨Nat.le_of_ble_eq_true rfl, Nat.le_of_ble_eq_true rfl⟩ dX7_winds_109 hP hD hS hA [8, 9, 10, 11, 12] rfl (by decide +kernel) (fun H locs hP hD hS => ?_)
      refine lv_iconst (v := (1 : Int32)) hx hb dX7_winds_112 (by decide) ?_
      refine k_icmp_ne (tgt := 147) hC dX7_winds_113 (by decide) h (fun h => ?_) (fun h => ?_)
      · refine k_iinc (v := (1 : Int32)) (lv' := fun X => [(8, .int X), (9, .int v101), (0, .ref (q1 100)), (1, .int x1), (2, .int x2), (3, .int x3), (4, .int x4), (5, .int x5), (6, .long x6)]) hC dX7_winds_147 hl (k := 8) rfl (by decide) (by decide) (fun _ => rfl) h (fun x103 h ls hl => ?_)
        refine lv_goto (tgt := 73) hx hb dX7_winds_150 (by decide) ?_
        exact ih x6 x103 o h _ _ _ hP hD hS (lv_sub hl [2, 3, 4, 5, 6, 7, 8, 0] rfl) k0
      · refine lv_iload hx hb dX7_winds_116 (lv_at hl 8 rfl) ?_
        obtain ⟨v104, hc111, h⟩ := fx_b1_s h
        refine k_callSi0 (n := 1) (As := [.int x8]) (rest := []) (wc := ([] : va_W)) (bytes := cJ6_bitCount_0f7a4) (maxL := 1) (ret := (some .int)) hC hl.1 (c_J6_bitCount_0f7a4 l g N x8 v104 hc111) rfl gX7_winds_J6_bitCount_0f7a4 (by decide +kernel) ⟨Nat.le_of_ble_eq_true rfl, Nat.le_of_ble_eq_true rfl⟩ rfl rfl rfl (Nat.le_of_ble_eq_true rfl) ⟨Nat.le_of_ble_eq_true rfl, Nat.le_of_ble_eq_true rfl⟩ dX7_winds_118 hP hD hS hA [] rfl (by decide +kernel) (fun H locs hP hD hS => ?_)
        refine lv_istore (lv' := [(10, .int v104), (9, .int v101), (0, .ref (q1 100)), (1, .int x1), (2, .int x2), (3, .int x3), (4, .int x4), (5, .int x5), (6, .long x6), (8, .int x8)]) hx hb dX7_winds_121 hl (by decide) rfl (fun ls hl => ?_)
        refine lv_lload hx hb dX7_winds_123 (lv_at hl 8 rfl) ?_
        refine lv_iload_n hx hb dX7_winds_125 rfl (lv_at hl 5 rfl) ?_
        refine lv_iload hx hb dX7_winds_126 (lv_at hl 0 rfl) ?_
        obtain ⟨v105, hc110, h⟩ := fx_b1_s h
        refine k_callSl0 (n := 2) (As := [.int x3, .int v104]) (rest := [.long x6]) (wc := ([] : va_W)) (bytes := cX7_power) (maxL := 5) (ret := (some .long)) hC hl.1 (c_X7_power l g N x3 v104 v105 hc110) rfl gX7_winds_X7_power (by decide +kernel) ⟨Nat.le_of_ble_eq_true rfl, Nat.le_of_ble_eq_true rfl⟩ rfl rfl rfl (Nat.le_of_ble_eq_true rfl) ⟨Nat.le_of_ble_eq_true rfl, Nat.le_of_ble_eq_true rfl⟩ dX7_winds_128 hP hD hS hA [] rfl (by decide +kernel) (fun H locs hP hD hS => ?_)
        refine lv_bipush (v := (10 : Int32)) hx hb dX7_winds_131 (by decide) ?_
        refine lv_iload_n hx hb dX7_winds_133 rfl (lv_at hl 5 rfl) ?_
        refine lv_isub hx hb dX7_winds_134 ?_
        refine lv_iload hx hb dX7_winds_135 (lv_at hl 6 rfl) ?_
        refine lv_iload hx hb dX7_winds_137 (lv_at hl 0 rfl) ?_
        refine lv_isub hx hb dX7_winds_139 ?_
        obtain ⟨v106, hc109, h⟩ := fx_b1_s h
        refine k_callSl0 (n := 2) (As := [.int ((10 : Int32) - x3), .int (x4 - v104)]) (rest := [.long v105, .long x6]) (wc := ([] : va_W)) (bytes := cX7_power) (maxL := 5) (ret := (some .long)) hC hl.1 (c_X7_power l g N ((10 : Int32) - x3) (x4 - v104) v106 hc109) rfl gX7_winds_X7_power (by decide +kernel) ⟨Nat.le_of_ble_eq_true rfl, Nat.le_of_ble_eq_true rfl⟩ rfl rfl rfl (Nat.le_of_ble_eq_true rfl) ⟨Nat.le_of_ble_eq_true rfl, Nat.le_of_ble_eq_true rfl⟩ dX7_winds_140 hP hD hS hA [] rfl (by decide +kernel) (fun H locs hP hD hS => ?_)
        refine lv_lmul hx hb dX7_winds_143 ?_
        refine lv_ladd hx hb dX7_winds_144 ?_
        refine k_topl h (fun x107 h => ?_)
        refine lv_lstore (lv' := [(6, .long x107), (10, .int v104), (9, .int v101), (0, .ref (q1 100)), (1, .int x1), (2, .int x2), (3, .int x3), (4, .int x4), (5, .int x5), (8, .int x8)]) hx hb dX7_winds_145 hl (by decide) rfl (fun ls hl => ?_)
        refine k_iinc (v := (1 : Int32)) (lv' := fun X => [(8, .int X), (6, .long x107), (10, .int v104), (9, .int v101), (0, .ref (q1 100)), (1, .int x1), (2, .int x2), (3, .int x3), (4, .int x4), (5, .int x5)]) hC dX7_winds_147 hl (k := 9) rfl (by decide) (by decide) (fun _ => rfl) h (fun x108 h ls hl => ?_)
        refine lv_goto (tgt := 73) hx hb dX7_winds_150 (by decide) ?_
        exact ih x107 x108 o h _ _ _ hP hD hS (lv_sub hl [4, 5, 6, 7, 8, 9, 1, 0] rfl) k0
def f_X7_winds (N : Nat) (S3 : St) (S4 : St) (S5 : St) (S6 : St) (S7 : St) (S8 : St) (S9 : St) (x1 : Int32) (x2 : Int32) (x3 : Int32) (x4 : Int32) (x5 : Int32) : Option (Int64) :=
  fx_b1 (f_X6_has N S4 x1) (fun v101 =>
  (if v101 = 0 then (
  some (-1000000000000000001 : Int64)) else (
  fx_b1 (f_X3_hasPlace N S3 x2) (fun v102 =>
    (if v102 = 0 then (
    some (-1000000000000000001 : Int64)) else (
    fx_b1 (f_X7_within N x3 (0 : Int32) (10 : Int32)) (fun v103 =>
      (if v103 = 0 then (
      some (-1000000000000000002 : Int64)) else (
      fx_b1 (f_X7_within N x4 (0 : Int32) (10 : Int32)) (fun v104 =>
        (if v104 = 0 then (
        some (-1000000000000000002 : Int64)) else (
        fx_b1 (f_X7_within N x5 (0 : Int32) (1 : Int32)) (fun v105 =>
          (if v105 = 0 then (
          some (-1000000000000000002 : Int64)) else (
          fx_b1 (fx_it (lf_X7_winds_73 N x1 x2 x3 x4 x5 S3 S4 S5 S6 S7 S8 S9) N ((0 : Int64), (0 : Int32))) (fun x106 =>
            fx_b1 (f_X7_power N (10 : Int32) x4) (fun v108 =>
              fx_b1 (f_X7_commonDivisor N x106 v108) (fun v109 =>
              fx_lt (if v109 < (1 : Int64) then (1 : Int64) else v109) (fun x110 =>
              (if x5 = 0 then (
              fx_nzl x110 (
                some (x106 / x110))) else (
              fx_nzl x110 (
                some (v108 / x110)))))))))))))))))))))))
set_option maxRecDepth 100000 in
set_option maxHeartbeats 4000000 in
theorem c_X7_winds (l : Launch) (g : GG) (N : Nat) (q1 : Nat → Nat) (q2 : Nat → Nat) (q3 : Nat → Nat) (q4 : Nat → Nat) (q5 : Nat → Nat) (q6 : Nat → Nat) (q7 : Nat → Nat) (q8 : Nat → Nat) (q9 : Nat → Nat) (S3 : St) (S4 : St) (S5 : St) (S6 : St) (S7 : St) (S8 : St) (S9 : St) (x1 : Int32) (x2 : Int32) (x3 : Int32) (x4 : Int32) (x5 : Int32) (r : Int64) (h : f_X7_winds N S3 S4 S5 S6 S7 S8 S9 x1 x2 x3 x4 x5 = some r) : Cl l yX7_winds wsX7_winds RM_X7_winds g [.ref (q1 100), .int x1, .int x2, .int x3, .int x4, .int x5] (wX7 g q1 q2 q6 q7 q9 ++ (wX0 g q2 q3 q4 q5 ++ (wX3 g q3 S3 ++ (wX6 g q4 S4 ++ (wX5 g q5 S5 ++ (wX4 g q6 S6 ++ (wX2 g q7 q8 S7 ++ (wX3 g q8 S8 ++ (wX1 g q9 S9))))))))) (wX7 g q1 q2 q6 q7 q9 ++ (wX0 g q2 q3 q4 q5 ++ (wX3 g q3 S3 ++ (wX6 g q4 S4 ++ (wX5 g q5 S5 ++ (wX4 g q6 S6 ++ (wX2 g q7 q8 S7 ++ (wX3 g q8 S8 ++ (wX1 g q9 S9))))))))) r := by
  intro sz
  refine Met.ofC (cc := cX7_winds) (maxL := 12) (ret := (some .long)) (by decide) rfl (Nat.le_of_ble_eq_true rfl) ?_
  intro p e s m below meth c hC hr hlk hsz A hA9 hA hP hD hS ls hl
  subst hsz
  have hC : Cx p s m ([.ref (q1 100), .int x1, .int x2, .int x3, .int x4, .int x5] : List Value).toArray c RX7 cX7_winds 12 wsX7_winds g := hC
  have hx := hC.1.1
  have hb := hC.1.2.1
  have hml := hC.1.2.2.1
  have hown := hC.1.2.2.2.1
  have hts := hC.1.2.2.2.2
  have hl : lv_has ls 12 [(0, .ref (q1 100)), (1, .int x1), (2, .int x2), (3, .int x3), (4, .int x4), (5, .int x5)] := hl
  show W p l e RM_X7_winds s m ([.ref (q1 100), .int x1, .int x2, .int x3, .int x4, .int x5] : List Value).toArray below meth c s.heap [] 0 0 (Ql below g [.ref (q1 100), .int x1, .int x2, .int x3, .int x4, .int x5] (wX7 g q1 q2 q6 q7 q9 ++ (wX0 g q2 q3 q4 q5 ++ (wX3 g q3 S3 ++ (wX6 g q4 S4 ++ (wX5 g q5 S5 ++ (wX4 g q6 S6 ++ (wX2 g q7 q8 S7 ++ (wX3 g q8 S8 ++ (wX1 g q9 S9))))))))) (wX7 g q1 q2 q6 q7 q9 ++ (wX0 g q2 q3 q4 q5 ++ (wX3 g q3 S3 ++ (wX6 g q4 S4 ++ (wX5 g q5 S5 ++ (wX4 g q6 S6 ++ (wX2 g q7 q8 S7 ++ (wX3 g q8 S8 ++ (wX1 g q9 S9))))))))) r s) (F0 m 0 ls [])
  unfold f_X7_winds at h
  refine lv_aload_n hx hb dX7_winds_0 rfl (lv_at hl 0 rfl) ?_
  refine k_get (ci := 7) (k := 0) (q0 := 0) (v := .ref (q2 100)) (C := RX7) (T := TX7) (N := 5) hC uX7_winds_X7 hP rfl rfl (by decide) (List.mem_of_getElem? (i := 1) rfl) rfl dX7_winds_1 ?_
  refine k_get (ci := 0) (k := 1) (q0 := 1) (v := .ref (q4 100)) (C := RX0) (T := TX0) (N := 3) hC uX7_winds_X0 hP rfl rfl (by decide) (List.mem_of_getElem? (i := 2) rfl) rfl dX7_winds_4 ?_
  refine lv_iload_n hx hb dX7_winds_7 rfl (lv_at hl 1 rfl) ?_
  obtain ⟨v101, hc117, h⟩ := fx_b1_s h
  refine k_callVi0 (C := RX6) (ci := 6) (qr := 0) (n := 1) (As := [.int x1]) (rest := []) (wc := (wX6 g q4 S4)) (bytes := cX6_has) (maxL := 2) (ret := (some .boolean)) hC hl.1 (c_X6_has l g N q4 S4 x1 v101 hc117) rfl gX7_winds_X6_has (by decide +kernel) rfl rfl ⟨Nat.le_of_ble_eq_true rfl, Nat.le_of_ble_eq_true rfl⟩ rfl rfl rfl (Nat.le_of_ble_eq_true rfl) ⟨Nat.le_of_ble_eq_true rfl, Nat.le_of_ble_eq_true rfl⟩ dX7_winds_8 hP hD hS hA [8, 9, 10, 11, 12] rfl (by decide +kernel) (fun H locs hP hD hS => ?_)
  refine k_if_eq (tgt := 28) hC dX7_winds_11 (by decide) h (fun h => ?_) (fun h => ?_)
  · refine lv_ldc2 (v := (-1000000000000000001 : Int64)) hx hb hown (hts _ (List.mem_of_getElem? (i := 4) rfl)) dX7_winds_28 ?_
    obtain rfl := fx_i1 h
    exact Cl.ret hC hr hlk hA9 hP hD hS dX7_winds_31
  · refine lv_aload_n hx hb dX7_winds_14 rfl (lv_at hl 0 rfl) ?_
    refine k_get (ci := 7) (k := 0) (q0 := 0) (v := .ref (q2 100)) (C := RX7) (T := TX7) (N := 5) hC uX7_winds_X7 hP rfl rfl (by decide) (List.mem_of_getElem? (i := 1) rfl) rfl dX7_winds_15 ?_
    refine k_get (ci := 0) (k := 0) (q0 := 1) (v := .ref (q3 100)) (C := RX0) (T := TX0) (N := 3) hC uX7_winds_X0 hP rfl rfl (by decide) (List.mem_of_getElem? (i := 3) rfl) rfl dX7_winds_18 ?_
    refine lv_iload_n hx hb dX7_winds_21 rfl (lv_at hl 2 rfl) ?_
    obtain ⟨v102, hc116, h⟩ := fx_b1_s h
    refine k_callVi0 (C := RX3) (ci := 3) (qr := 0) (n := 1) (As := [.int x2]) (rest := []) (wc := (wX3 g q3 S3)) (bytes := cX3_hasPlace) (maxL := 2) (ret := (some .boolean)) hC hl.1 (c_X3_hasPlace l g N q3 S3 x2 v102 hc116) rfl gX7_winds_X3_hasPlace (by decide +kernel) rfl rfl ⟨Nat.le_of_ble_eq_true rfl, Nat.le_of_ble_eq_true rfl⟩ rfl rfl rfl (Nat.le_of_ble_eq_true rfl) ⟨Nat.le_of_ble_eq_true rfl, Nat.le_of_ble_eq_true rfl⟩ dX7_winds_22 hP hD hS hA [2, 3, 4, 5, 6, 7] rfl (by decide +kernel) (fun H locs hP hD hS => ?_)
    refine k_if_ne (tgt := 32) hC dX7_winds_25 (by decide) h (fun h => ?_) (fun h => ?_)
    · refine lv_iload_n hx hb dX7_winds_32 rfl (lv_at hl 3 rfl) ?_
      refine lv_iconst (v := (0 : Int32)) hx hb dX7_winds_33 (by decide) ?_
      refine lv_bipush (v := (10 : Int32)) hx hb dX7_winds_34 (by decide) ?_
      obtain ⟨v103, hc115, h⟩ := fx_b1_s h
      refine k_callSi0 (n := 3) (As := [.int x3, .int (0 : Int32), .int (10 : Int32)]) (rest := []) (wc := ([] : va_W)) (bytes := cX7_within) (maxL := 3) (ret := (some .boolean)) hC hl.1 (c_X7_within l g N x3 (0 : Int32) (10 : Int32) v103 hc115) rfl gX7_winds_X7_within (by decide +kernel) ⟨Nat.le_of_ble_eq_true rfl, Nat.le_of_ble_eq_true rfl⟩ rfl rfl rfl (Nat.le_of_ble_eq_true rfl) ⟨Nat.le_of_ble_eq_true rfl, Nat.le_of_ble_eq_true rfl⟩ dX7_winds_36 hP hD hS hA [] rfl (by decide +kernel) (fun H locs hP hD hS => ?_)
      refine k_if_eq (tgt := 63) hC dX7_winds_39 (by decide) h (fun h => ?_) (fun h => ?_)
      · refine lv_ldc2 (v := (-1000000000000000002 : Int64)) hx hb hown (hts _ (List.mem_of_getElem? (i := 5) rfl)) dX7_winds_63 ?_
        obtain rfl := fx_i1 h
        exact Cl.ret hC hr hlk hA9 hP hD hS dX7_winds_66
      · refine lv_iload hx hb dX7_winds_42 (lv_at hl 4 rfl) ?_
        refine lv_iconst (v := (0 : Int32)) hx hb dX7_winds_44 (by decide) ?_
        refine lv_bipush (v := (10 : Int32)) hx hb dX7_winds_45 (by decide) ?_
        obtain ⟨v104, hc114, h⟩ := fx_b1_s h
        refine k_callSi0 (n := 3) (As := [.int x4, .int (0 : Int32), .int (10 : Int32)]) (rest := []) (wc := ([] : va_W)) (bytes := cX7_within) (maxL := 3) (ret := (some .boolean)) hC hl.1 (c_X7_within l g N x4 (0 : Int32) (10 : Int32) v104 hc114) rfl gX7_winds_X7_within (by decide +kernel) ⟨Nat.le_of_ble_eq_true rfl, Nat.le_of_ble_eq_true rfl⟩ rfl rfl rfl (Nat.le_of_ble_eq_true rfl) ⟨Nat.le_of_ble_eq_true rfl, Nat.le_of_ble_eq_true rfl⟩ dX7_winds_47 hP hD hS hA [] rfl (by decide +kernel) (fun H locs hP hD hS => ?_)
        refine k_if_eq (tgt := 63) hC dX7_winds_50 (by decide) h (fun h => ?_) (fun h => ?_)
        · refine lv_ldc2 (v := (-1000000000000000002 : Int64)) hx hb hown (hts _ (List.mem_of_getElem? (i := 5) rfl)) dX7_winds_63 ?_
          obtain rfl := fx_i1 h
          exact Cl.ret hC hr hlk hA9 hP hD hS dX7_winds_66
        · refine lv_iload hx hb dX7_winds_53 (lv_at hl 5 rfl) ?_
          refine lv_iconst (v := (0 : Int32)) hx hb dX7_winds_55 (by decide) ?_
          refine lv_iconst (v := (1 : Int32)) hx hb dX7_winds_56 (by decide) ?_
          obtain ⟨v105, hc113, h⟩ := fx_b1_s h
          refine k_callSi0 (n := 3) (As := [.int x5, .int (0 : Int32), .int (1 : Int32)]) (rest := []) (wc := ([] : va_W)) (bytes := cX7_within) (maxL := 3) (ret := (some .boolean)) hC hl.1 (c_X7_within l g N x5 (0 : Int32) (1 : Int32) v105 hc113) rfl gX7_winds_X7_within (by decide +kernel) ⟨Nat.le_of_ble_eq_true rfl, Nat.le_of_ble_eq_true rfl⟩ rfl rfl rfl (Nat.le_of_ble_eq_true rfl) ⟨Nat.le_of_ble_eq_true rfl, Nat.le_of_ble_eq_true rfl⟩ dX7_winds_57 hP hD hS hA [] rfl (by decide +kernel) (fun H locs hP hD hS => ?_)
          refine k_if_ne (tgt := 67) hC dX7_winds_60 (by decide) h (fun h => ?_) (fun h => ?_)
          · refine lv_lconst (v := (0 : Int64)) hx hb dX7_winds_67 (by decide) ?_
            refine lv_lstore (lv' := [(6, .long (0 : Int64)), (0, .ref (q1 100)), (1, .int x1), (2, .int x2), (3, .int x3), (4, .int x4), (5, .int x5)]) hx hb dX7_winds_68 hl (by decide) rfl (fun ls hl => ?_)
            refine lv_iconst (v := (0 : Int32)) hx hb dX7_winds_70 (by decide) ?_
            refine lv_istore (lv' := [(8, .int (0 : Int32)), (6, .long (0 : Int64)), (0, .ref (q1 100)), (1, .int x1), (2, .int x2), (3, .int x3), (4, .int x4), (5, .int x5)]) hx hb dX7_winds_71 hl (by decide) rfl (fun ls hl => ?_)
            obtain ⟨x106, ho107, h⟩ := fx_b1_s h
            refine lw_X7_winds_73 hC hA N q1 q2 q3 q4 q5 q6 q7 q8 q9 x1 x2 x3 x4 x5 S3 S4 S5 S6 S7 S8 S9 N (0 : Int64) (0 : Int32)  x106 ho107 _ _ _ hP hD hS (lv_sub hl [2, 3, 4, 5, 6, 7, 1, 0] rfl) ?_
            · intro y0 he H locs ls hP hD hS hl
              obtain rfl := he
              refine lv_bipush (v := (10 : Int32)) hx hb dX7_winds_153 (by decide) ?_
              refine lv_iload hx hb dX7_winds_155 (lv_at hl 0 rfl) ?_
              obtain ⟨v108, hc112, h⟩ := fx_b1_s h
              refine k_callSl0 (n := 2) (As := [.int (10 : Int32), .int x4]) (rest := []) (wc := ([] : va_W)) (bytes := cX7_power) (maxL := 5) (ret := (some .long)) hC hl.1 (c_X7_power l g N (10 : Int32) x4 v108 hc112) rfl gX7_winds_X7_power (by decide +kernel) ⟨Nat.le_of_ble_eq_true rfl, Nat.le_of_ble_eq_true rfl⟩ rfl rfl rfl (Nat.le_of_ble_eq_true rfl) ⟨Nat.le_of_ble_eq_true rfl, Nat.le_of_ble_eq_true rfl⟩ dX7_winds_157 hP hD hS hA [] rfl (by decide +kernel) (fun H locs hP hD hS => ?_)
              refine lv_lstore (lv' := [(8, .long v108), (4, .int x4), (5, .int x5), (6, .long x106)]) hx hb dX7_winds_160 hl (by decide) rfl (fun ls hl => ?_)
              refine lv_lconst (v := (1 : Int64)) hx hb dX7_winds_162 (by decide) ?_
              refine lv_lload hx hb dX7_winds_163 (lv_at hl 3 rfl) ?_
              refine lv_lload hx hb dX7_winds_165 (lv_at hl 0 rfl) ?_
              obtain ⟨v109, hc111, h⟩ := fx_b1_s h
              refine k_callSl0 (n := 2) (As := [.long x106, .long v108]) (rest := [.long (1 : Int64)]) (wc := ([] : va_W)) (bytes := cX7_commonDivisor) (maxL := 11) (ret := (some .long)) hC hl.1 (c_X7_commonDivisor l g N x106 v108 v109 hc111) rfl gX7_winds_X7_commonDivisor (by decide +kernel) ⟨Nat.le_of_ble_eq_true rfl, Nat.le_of_ble_eq_true rfl⟩ rfl rfl rfl (Nat.le_of_ble_eq_true rfl) ⟨Nat.le_of_ble_eq_true rfl, Nat.le_of_ble_eq_true rfl⟩ dX7_winds_167 hP hD hS hA [] rfl (by decide +kernel) (fun H locs hP hD hS => ?_)
              refine va_mmax_long hx hb (hml.trans hl.1.symm) hown (hts _ (List.mem_of_getElem? (i := 6) rfl)) (hts _ (List.mem_of_getElem? (i := 7) rfl)) (hts _ (List.mem_of_getElem? (i := 8) rfl)) (hts _ (List.mem_of_getElem? (i := 9) rfl)) (Nat.le_of_ble_eq_true rfl) (Nat.le_of_ble_eq_true rfl) (Nat.zero_le _) (Nat.zero_le _) dX7_winds_170 ?_
              refine k_topl h (fun x110 h => ?_)
              refine lv_lstore (lv' := [(10, .long x110), (8, .long v108), (4, .int x4), (5, .int x5), (6, .long x106)]) hx hb dX7_winds_173 hl (by decide) rfl (fun ls hl => ?_)
              refine lv_iload hx hb dX7_winds_175 (lv_at hl 3 rfl) ?_
              refine k_if_ne (tgt := 188) hC dX7_winds_177 (by decide) h (fun h => ?_) (fun h => ?_)
              · refine lv_lload hx hb dX7_winds_188 (lv_at hl 1 rfl) ?_
                refine lv_lload hx hb dX7_winds_190 (lv_at hl 0 rfl) ?_
                obtain ⟨hne, h⟩ := fx_nzl_s h
                refine lv_ldiv hx hb dX7_winds_192 hne ?_
                obtain rfl := fx_i1 h
                exact Cl.ret hC hr hlk hA9 hP hD hS dX7_winds_193
              · refine lv_lload hx hb dX7_winds_180 (lv_at hl 4 rfl) ?_
                refine lv_lload hx hb dX7_winds_182 (lv_at hl 0 rfl) ?_
                obtain ⟨hne, h⟩ := fx_nzl_s h
                refine lv_ldiv hx hb dX7_winds_184 hne ?_
                refine lv_goto (tgt := 193) hx hb dX7_winds_185 (by decide) ?_
                obtain rfl := fx_i1 h
                exact Cl.ret hC hr hlk hA9 hP hD hS dX7_winds_193
          · refine lv_ldc2 (v := (-1000000000000000002 : Int64)) hx hb hown (hts _ (List.mem_of_getElem? (i := 5) rfl)) dX7_winds_63 ?_
            obtain rfl := fx_i1 h
            exact Cl.ret hC hr hlk hA9 hP hD hS dX7_winds_66
    · refine lv_ldc2 (v := (-1000000000000000001 : Int64)) hx hb hown (hts _ (List.mem_of_getElem? (i := 4) rfl)) dX7_winds_28 ?_
      obtain rfl := fx_i1 h
      exact Cl.ret hC hr hlk hA9 hP hD hS dX7_winds_31
theorem uX7_drawnDay_X0 : ∀ w ∈ u_ws RX0 TX0 3, w ∈ wsX7_drawnDay := fun w h => List.mem_cons_of_mem _ (List.mem_append_left _ (List.mem_append_left _ (List.mem_append_right _ h)))
theorem uX7_drawnDay_X3 : ∀ w ∈ u_ws RX3 TX3 11, w ∈ wsX7_drawnDay := fun w h => List.mem_cons_of_mem _ (List.mem_append_left _ (List.mem_append_right _ h))
theorem uX7_drawnDay_X6 : ∀ w ∈ u_ws RX6 TX6 5, w ∈ wsX7_drawnDay := fun w h => List.mem_cons_of_mem _ (List.mem_append_right _ h)
theorem uX7_drawnDay_X7 : ∀ w ∈ u_ws RX7 TX7 5, w ∈ wsX7_drawnDay := fun w h => List.mem_cons_of_mem _ (List.mem_append_left _ (List.mem_append_left _ (List.mem_append_left _ (List.mem_append_right _ h))))
abbrev RM_X7_drawnDay : Room := { frames := 3, cells := 0, slots := 0, locals := 63 }
def f_X7_drawnDay (N : Nat) (S3 : St) (S4 : St) (S5 : St) (S6 : St) (S7 : St) (S8 : St) (S9 : St) (x1 : Int32) (x2 : Int32) : Option (Int32) :=
  fx_lt (x1 - x1 / (6 : Int32) * (6 : Int32)) (fun x101 =>
  fx_b1 (f_X6_has N S4 x101) (fun v102 =>
  (if v102 = 0 then (
  some (0 : Int32)) else (
  (if 0 < (S3.1 1) then (
    fx_nz (S3.1 1) (
      fx_lt ((x1 / (6 : Int32)) - (x1 / (6 : Int32)) / (S3.1 1) * (S3.1 1)) (fun x103 =>
      fx_lt ((1 : Int32) + ((x1 / (64 : Int32)) - (x1 / (64 : Int32)) / (40 : Int32) * (40 : Int32))) (fun x104 =>
      fx_b1 (f_X3_rateAt N S3 x103) (fun v105 =>
      fx_b1 (f_X7_bakedBehind N v105 (S3.1 3) x104) (fun v106 =>
      fx_b1 (f_X6_verdict N S4 x101 v106) (fun v107 =>
      (if x2 = (3 : Int32) then (
      (if v107 = (1 : Int32) then (
        fx_ald 6 (S4.2 3) x101 (fun v108 =>
          some v108)) else (
        some (0 : Int32)))) else (
      (if v107 = x2 then (
        some (1 : Int32)) else (
        some (0 : Int32)))))))))))) else (
    some (0 : Int32)))))))
set_option maxRecDepth 100000 in
set_option maxHeartbeats 4000000 in
theorem c_X7_drawnDay (l : Launch) (g : GG) (N : Nat) (q1 : Nat → Nat) (q2 : Nat → Nat) (q3 : Nat → Nat) (q4 : Nat → Nat) (q5 : Nat → Nat) (q6 : Nat → Nat) (q7 : Nat → Nat) (q8 : Nat → Nat) (q9 : Nat → Nat) (S3 : St) (S4 : St) (S5 : St) (S6 : St) (S7 : St) (S8 : St) (S9 : St) (x1 : Int32) (x2 : Int32) (r : Int32) (h : f_X7_drawnDay N S3 S4 S5 S6 S7 S8 S9 x1 x2 = some r) : Ci l yX7_drawnDay wsX7_drawnDay RM_X7_drawnDay g [.ref (q1 100), .int x1, .int x2] (wX7 g q1 q2 q6 q7 q9 ++ (wX0 g q2 q3 q4 q5 ++ (wX3 g q3 S3 ++ (wX6 g q4 S4 ++ (wX5 g q5 S5 ++ (wX4 g q6 S6 ++ (wX2 g q7 q8 S7 ++ (wX3 g q8 S8 ++ (wX1 g q9 S9))))))))) (wX7 g q1 q2 q6 q7 q9 ++ (wX0 g q2 q3 q4 q5 ++ (wX3 g q3 S3 ++ (wX6 g q4 S4 ++ (wX5 g q5 S5 ++ (wX4 g q6 S6 ++ (wX2 g q7 q8 S7 ++ (wX3 g q8 S8 ++ (wX1 g q9 S9))))))))) r := by
  intro sz
  refine Met.ofC (cc := cX7_drawnDay) (maxL := 8) (ret := (some .int)) (by decide) rfl (Nat.le_of_ble_eq_true rfl) ?_
  intro p e s m below meth c hC hr hlk hsz A hA9 hA hP hD hS ls hl
  subst hsz
  have hC : Cx p s m ([.ref (q1 100), .int x1, .int x2] : List Value).toArray c RX7 cX7_drawnDay 8 wsX7_drawnDay g := hC
  have hx := hC.1.1
  have hb := hC.1.2.1
  have hml := hC.1.2.2.1
  have hown := hC.1.2.2.2.1
  have hts := hC.1.2.2.2.2
  have hl : lv_has ls 8 [(0, .ref (q1 100)), (1, .int x1), (2, .int x2)] := hl
  show W p l e RM_X7_drawnDay s m ([.ref (q1 100), .int x1, .int x2] : List Value).toArray below meth c s.heap [] 0 0 (Qi below g [.ref (q1 100), .int x1, .int x2] (wX7 g q1 q2 q6 q7 q9 ++ (wX0 g q2 q3 q4 q5 ++ (wX3 g q3 S3 ++ (wX6 g q4 S4 ++ (wX5 g q5 S5 ++ (wX4 g q6 S6 ++ (wX2 g q7 q8 S7 ++ (wX3 g q8 S8 ++ (wX1 g q9 S9))))))))) (wX7 g q1 q2 q6 q7 q9 ++ (wX0 g q2 q3 q4 q5 ++ (wX3 g q3 S3 ++ (wX6 g q4 S4 ++ (wX5 g q5 S5 ++ (wX4 g q6 S6 ++ (wX2 g q7 q8 S7 ++ (wX3 g q8 S8 ++ (wX1 g q9 S9))))))))) r s) (F0 m 0 ls [])
  unfold f_X7_drawnDay at h
  refine lv_aload_n hx hb dX7_drawnDay_0 rfl (lv_at hl 0 rfl) ?_
  refine k_get (ci := 7) (k := 0) (q0 := 0) (v := .ref (q2 100)) (C := RX7) (T := TX7) (N := 5) hC uX7_drawnDay_X7 hP rfl rfl (by decide) (List.mem_of_getElem? (i := 1) rfl) rfl dX7_drawnDay_1 ?_
  refine k_get (ci := 0) (k := 0) (q0 := 1) (v := .ref (q3 100)) (C := RX0) (T := TX0) (N := 3) hC uX7_drawnDay_X0 hP rfl rfl (by decide) (List.mem_of_getElem? (i := 2) rfl) rfl dX7_drawnDay_4 ?_
  refine lv_astore_n (lv' := [(3, .ref (q3 100)), (0, .ref (q1 100)), (1, .int x1), (2, .int x2)]) hx hb dX7_drawnDay_7 rfl hl (by decide) rfl (fun ls hl => ?_)
  refine lv_iload_n hx hb dX7_drawnDay_8 rfl (lv_at hl 2 rfl) ?_
  refine lv_bipush (v := (6 : Int32)) hx hb dX7_drawnDay_9 (by decide) ?_
  refine lv_irem hx hb dX7_drawnDay_11 (by decide) ?_
  refine k_topi h (fun x101 h => ?_)
  refine lv_istore (lv' := [(4, .int x101), (3, .ref (q3 100)), (0, .ref (q1 100)), (1, .int x1), (2, .int x2)]) hx hb dX7_drawnDay_12 hl (by decide) rfl (fun ls hl => ?_)
  refine lv_aload_n hx hb dX7_drawnDay_14 rfl (lv_at hl 2 rfl) ?_
  refine k_get (ci := 7) (k := 0) (q0 := 0) (v := .ref (q2 100)) (C := RX7) (T := TX7) (N := 5) hC uX7_drawnDay_X7 hP rfl rfl (by decide) (List.mem_of_getElem? (i := 1) rfl) rfl dX7_drawnDay_15 ?_
  refine k_get (ci := 0) (k := 1) (q0 := 1) (v := .ref (q4 100)) (C := RX0) (T := TX0) (N := 3) hC uX7_drawnDay_X0 hP rfl rfl (by decide) (List.mem_of_getElem? (i := 3) rfl) rfl dX7_drawnDay_18 ?_
  refine lv_iload hx hb dX7_drawnDay_21 (lv_at hl 0 rfl) ?_
  obtain ⟨v102, hc112, h⟩ := fx_b1_s h
  refine k_callVi0 (C := RX6) (ci := 6) (qr := 0) (n := 1) (As := [.int x101]) (rest := []) (wc := (wX6 g q4 S4)) (bytes := cX6_has) (maxL := 2) (ret := (some .boolean)) hC hl.1 (c_X6_has l g N q4 S4 x101 v102 hc112) rfl gX7_drawnDay_X6_has (by decide +kernel) rfl rfl ⟨Nat.le_of_ble_eq_true rfl, Nat.le_of_ble_eq_true rfl⟩ rfl rfl rfl (Nat.le_of_ble_eq_true rfl) ⟨Nat.le_of_ble_eq_true rfl, Nat.le_of_ble_eq_true rfl⟩ dX7_drawnDay_23 hP hD hS hA [8, 9, 10, 11, 12] rfl (by decide +kernel) (fun H locs hP hD hS => ?_)
  refine k_if_eq (tgt := 36) hC dX7_drawnDay_26 (by decide) h (fun h => ?_) (fun h => ?_)
  · refine lv_iconst (v := (0 : Int32)) hx hb dX7_drawnDay_36 (by decide) ?_
    obtain rfl := fx_i1 h
    exact Ci.ret hC hr hlk hA9 hP hD hS dX7_drawnDay_37
  · refine lv_aload_n hx hb dX7_drawnDay_29 rfl (lv_at hl 1 rfl) ?_
    refine k_get (ci := 3) (k := 1) (q0 := 2) (v := .int (S3.1 1)) (C := RX3) (T := TX3) (N := 11) hC uX7_drawnDay_X3 hP rfl rfl (by decide) (List.mem_of_getElem? (i := 4) rfl) rfl dX7_drawnDay_30 ?_
    refine k_if_gt (tgt := 38) hC dX7_drawnDay_33 (by decide) h (fun h => ?_) (fun h => ?_)
    · refine lv_iload_n hx hb dX7_drawnDay_38 rfl (lv_at hl 3 rfl) ?_
      refine lv_bipush (v := (6 : Int32)) hx hb dX7_drawnDay_39 (by decide) ?_
      refine lv_idiv hx hb dX7_drawnDay_41 (by decide) ?_
      refine lv_aload_n hx hb dX7_drawnDay_42 rfl (lv_at hl 1 rfl) ?_
      refine k_get (ci := 3) (k := 1) (q0 := 2) (v := .int (S3.1 1)) (C := RX3) (T := TX3) (N := 11) hC uX7_drawnDay_X3 hP rfl rfl (by decide) (List.mem_of_getElem? (i := 4) rfl) rfl dX7_drawnDay_43 ?_
      obtain ⟨hne, h⟩ := fx_nz_s h
      refine lv_irem hx hb dX7_drawnDay_46 hne ?_
      refine k_topi h (fun x103 h => ?_)
      refine lv_istore (lv' := [(5, .int x103), (4, .int x101), (3, .ref (q3 100)), (0, .ref (q1 100)), (1, .int x1), (2, .int x2)]) hx hb dX7_drawnDay_47 hl (by decide) rfl (fun ls hl => ?_)
      refine lv_iconst (v := (1 : Int32)) hx hb dX7_drawnDay_49 (by decide) ?_
      refine lv_iload_n hx hb dX7_drawnDay_50 rfl (lv_at hl 4 rfl) ?_
      refine lv_bipush (v := (64 : Int32)) hx hb dX7_drawnDay_51 (by decide) ?_
      refine lv_idiv hx hb dX7_drawnDay_53 (by decide) ?_
      refine lv_bipush (v := (40 : Int32)) hx hb dX7_drawnDay_54 (by decide) ?_
      refine lv_irem hx hb dX7_drawnDay_56 (by decide) ?_
      refine lv_iadd hx hb dX7_drawnDay_57 ?_
      refine k_topi h (fun x104 h => ?_)
      refine lv_istore (lv' := [(6, .int x104), (5, .int x103), (4, .int x101), (3, .ref (q3 100)), (0, .ref (q1 100)), (1, .int x1), (2, .int x2)]) hx hb dX7_drawnDay_58 hl (by decide) rfl (fun ls hl => ?_)
      refine lv_aload_n hx hb dX7_drawnDay_60 rfl (lv_at hl 4 rfl) ?_
      refine k_get (ci := 7) (k := 0) (q0 := 0) (v := .ref (q2 100)) (C := RX7) (T := TX7) (N := 5) hC uX7_drawnDay_X7 hP rfl rfl (by decide) (List.mem_of_getElem? (i := 1) rfl) rfl dX7_drawnDay_61 ?_
      refine k_get (ci := 0) (k := 1) (q0 := 1) (v := .ref (q4 100)) (C := RX0) (T := TX0) (N := 3) hC uX7_drawnDay_X0 hP rfl rfl (by decide) (List.mem_of_getElem? (i := 3) rfl) rfl dX7_drawnDay_64 ?_
      refine lv_iload hx hb dX7_drawnDay_67 (lv_at hl 2 rfl) ?_
      refine lv_aload_n hx hb dX7_drawnDay_69 rfl (lv_at hl 3 rfl) ?_
      refine lv_iload hx hb dX7_drawnDay_70 (lv_at hl 1 rfl) ?_
      obtain ⟨v105, hc111, h⟩ := fx_b1_s h
      refine k_callVi0 (C := RX3) (ci := 3) (qr := 0) (n := 1) (As := [.int x103]) (rest := [.int x101, .ref (q4 100)]) (wc := (wX3 g q3 S3)) (bytes := cX3_rateAt) (maxL := 2) (ret := (some .int)) hC hl.1 (c_X3_rateAt l g N q3 S3 x103 v105 hc111) rfl gX7_drawnDay_X3_rateAt (by decide +kernel) rfl rfl ⟨Nat.le_of_ble_eq_true rfl, Nat.le_of_ble_eq_true rfl⟩ rfl rfl rfl (Nat.le_of_ble_eq_true rfl) ⟨Nat.le_of_ble_eq_true rfl, Nat.le_of_ble_eq_true rfl⟩ dX7_drawnDay_72 hP hD hS hA [2, 3, 4, 5, 6, 7] rfl (by decide +kernel) (fun H locs hP hD hS => ?_)
      refine lv_aload_n hx hb dX7_drawnDay_75 rfl (lv_at hl 3 rfl) ?_
      refine k_get (ci := 3) (k := 3) (q0 := 2) (v := .int (S3.1 3)) (C := RX3) (T := TX3) (N := 11) hC uX7_drawnDay_X3 hP rfl rfl (by decide) (List.mem_of_getElem? (i := 5) rfl) rfl dX7_drawnDay_76 ?_
      refine lv_iload hx hb dX7_drawnDay_79 (lv_at hl 0 rfl) ?_
      obtain ⟨v106, hc110, h⟩ := fx_b1_s h
      refine k_callSi0 (n := 3) (As := [.int v105, .int (S3.1 3), .int x104]) (rest := [.int x101, .ref (q4 100)]) (wc := ([] : va_W)) (bytes := cX7_bakedBehind) (maxL := 4) (ret := (some .int)) hC hl.1 (c_X7_bakedBehind l g N v105 (S3.1 3) x104 v106 hc110) rfl gX7_drawnDay_X7_bakedBehind (by decide +kernel) ⟨Nat.le_of_ble_eq_true rfl, Nat.le_of_ble_eq_true rfl⟩ rfl rfl rfl (Nat.le_of_ble_eq_true rfl) ⟨Nat.le_of_ble_eq_true rfl, Nat.le_of_ble_eq_true rfl⟩ dX7_drawnDay_81 hP hD hS hA [] rfl (by decide +kernel) (fun H locs hP hD hS => ?_)
      obtain ⟨v107, hc109, h⟩ := fx_b1_s h
      refine k_callVi0 (C := RX6) (ci := 6) (qr := 0) (n := 2) (As := [.int x101, .int v106]) (rest := []) (wc := (wX6 g q4 S4)) (bytes := cX6_verdict) (maxL := 3) (ret := (some .int)) hC hl.1 (c_X6_verdict l g N q4 S4 x101 v106 v107 hc109) rfl gX7_drawnDay_X6_verdict (by decide +kernel) rfl rfl ⟨Nat.le_of_ble_eq_true rfl, Nat.le_of_ble_eq_true rfl⟩ rfl rfl rfl (Nat.le_of_ble_eq_true rfl) ⟨Nat.le_of_ble_eq_true rfl, Nat.le_of_ble_eq_true rfl⟩ dX7_drawnDay_84 hP hD hS hA [8, 9, 10, 11, 12] rfl (by decide +kernel) (fun H locs hP hD hS => ?_)
      refine lv_istore (lv' := [(7, .int v107), (6, .int x104), (5, .int x103), (4, .int x101), (3, .ref (q3 100)), (0, .ref (q1 100)), (1, .int x1), (2, .int x2)]) hx hb dX7_drawnDay_87 hl (by decide) rfl (fun ls hl => ?_)
      refine lv_iload_n hx hb dX7_drawnDay_89 rfl (lv_at hl 7 rfl) ?_
      refine lv_iconst (v := (3 : Int32)) hx hb dX7_drawnDay_90 (by decide) ?_
      refine k_icmp_ne (tgt := 118) hC dX7_drawnDay_91 (by decide) h (fun h => ?_) (fun h => ?_)
      · refine lv_iload hx hb dX7_drawnDay_118 (lv_at hl 0 rfl) ?_
        refine lv_iload_n hx hb dX7_drawnDay_120 rfl (lv_at hl 7 rfl) ?_
        refine k_icmp_ne (tgt := 128) hC dX7_drawnDay_121 (by decide) h (fun h => ?_) (fun h => ?_)
        · refine lv_iconst (v := (0 : Int32)) hx hb dX7_drawnDay_128 (by decide) ?_
          obtain rfl := fx_i1 h
          exact Ci.ret hC hr hlk hA9 hP hD hS dX7_drawnDay_129
        · refine lv_iconst (v := (1 : Int32)) hx hb dX7_drawnDay_124 (by decide) ?_
          refine lv_goto (tgt := 129) hx hb dX7_drawnDay_125 (by decide) ?_
          obtain rfl := fx_i1 h
          exact Ci.ret hC hr hlk hA9 hP hD hS dX7_drawnDay_129
      · refine lv_iload hx hb dX7_drawnDay_94 (lv_at hl 0 rfl) ?_
        refine lv_iconst (v := (1 : Int32)) hx hb dX7_drawnDay_96 (by decide) ?_
        refine k_icmp_ne (tgt := 116) hC dX7_drawnDay_97 (by decide) h (fun h => ?_) (fun h => ?_)
        · refine lv_iconst (v := (0 : Int32)) hx hb dX7_drawnDay_116 (by decide) ?_
          obtain rfl := fx_i1 h
          exact Ci.ret hC hr hlk hA9 hP hD hS dX7_drawnDay_117
        · refine lv_aload_n hx hb dX7_drawnDay_100 rfl (lv_at hl 5 rfl) ?_
          refine k_get (ci := 7) (k := 0) (q0 := 0) (v := .ref (q2 100)) (C := RX7) (T := TX7) (N := 5) hC uX7_drawnDay_X7 hP rfl rfl (by decide) (List.mem_of_getElem? (i := 1) rfl) rfl dX7_drawnDay_101 ?_
          refine k_get (ci := 0) (k := 1) (q0 := 1) (v := .ref (q4 100)) (C := RX0) (T := TX0) (N := 3) hC uX7_drawnDay_X0 hP rfl rfl (by decide) (List.mem_of_getElem? (i := 3) rfl) rfl dX7_drawnDay_104 ?_
          refine k_get (ci := 6) (k := 3) (q0 := 8) (v := .ref (q4 3)) (C := RX6) (T := TX6) (N := 5) hC uX7_drawnDay_X6 hP rfl rfl (by decide) (List.mem_of_getElem? (i := 6) rfl) rfl dX7_drawnDay_107 ?_
          refine lv_iload hx hb dX7_drawnDay_110 (lv_at hl 3 rfl) ?_
          refine k_ald (q0 := 11) (n := 6) (F := S4.2 3) hC hP rfl dX7_drawnDay_112 h (fun v108 h => ?_)
          refine lv_goto (tgt := 117) hx hb dX7_drawnDay_113 (by decide) ?_
          obtain rfl := fx_i1 h
          exact Ci.ret hC hr hlk hA9 hP hD hS dX7_drawnDay_117
    · refine lv_iconst (v := (0 : Int32)) hx hb dX7_drawnDay_36 (by decide) ?_
      obtain rfl := fx_i1 h
      exact Ci.ret hC hr hlk hA9 hP hD hS dX7_drawnDay_37
abbrev RM_X7_year : Room := { frames := 4, cells := 0, slots := 0, locals := 90 }
def bd_X7_year_42 (N : Nat) (x2 : Int32) (x3 : Int32) (S3 : St) (S4 : St) (S5 : St) (S6 : St) (S7 : St) (S8 : St) (S9 : St) (x4 : Int32) (x5 : Int32) (x6 : Int32) (rec : (Int32 × Int32 × Int32) → Option (Int32)) : Option (Int32) :=
  (if x2 ≤ x6 then (
    some x5) else (
    fx_lt ((((75 : Int32) * x4) + (74 : Int32)) - (((75 : Int32) * x4) + (74 : Int32)) / (65537 : Int32) * (65537 : Int32)) (fun x101 =>
      fx_b1 (f_X7_drawnDay N S3 S4 S5 S6 S7 S8 S9 x101 x3) (fun v102 =>
      fx_lt (x5 + v102) (fun x103 =>
      fx_lt (x6 + (1 : Int32)) (fun x104 =>
      rec (x101, x103, x104)))))))
def lf_X7_year_42 (N : Nat) (x2 : Int32) (x3 : Int32) (S3 : St) (S4 : St) (S5 : St) (S6 : St) (S7 : St) (S8 : St) (S9 : St) : (Int32 × Int32 × Int32) → ((Int32 × Int32 × Int32) → Option (Int32)) → Option (Int32) := fun x rec => bd_X7_year_42 N x2 x3 S3 S4 S5 S6 S7 S8 S9 x.1 x.2.1 x.2.2 rec
set_option maxRecDepth 100000 in
set_option maxHeartbeats 4000000 in
theorem lw_X7_year_42 {p : Program} {l : Launch} {e : Env} {s : State} {m : MethodId} {args : Array Value} {below : List Frame} {meth : Method} {c : Code} {Q : State → Prop} {A : Nat → Prop} {H0 : Heap} {g : GG} (hC : Cx p s m args c RX7 cX7_year 7 wsX7_year g) (hA : ∀ q : Nat, H0.size ≤ q → A q) (N : Nat) (q1 : Nat → Nat) (q2 : Nat → Nat) (q3 : Nat → Nat) (q4 : Nat → Nat) (q5 : Nat → Nat) (q6 : Nat → Nat) (q7 : Nat → Nat) (q8 : Nat → Nat) (q9 : Nat → Nat) (x2 : Int32) (x3 : Int32) (S3 : St) (S4 : St) (S5 : St) (S6 : St) (S7 : St) (S8 : St) (S9 : St) : ∀ (n : Nat) (x4 : Int32) (x5 : Int32) (x6 : Int32) (o : Int32), fx_it (lf_X7_year_42 N x2 x3 S3 S4 S5 S6 S7 S8 S9) n (x4, x5, x6) = some o → ∀ (H : Heap) (locs : List Loc) (ls : Array Slot), va_P g.1 vwCl (wX7 g q1 q2 q6 q7 q9 ++ (wX0 g q2 q3 q4 q5 ++ (wX3 g q3 S3 ++ (wX6 g q4 S4 ++ (wX5 g q5 S5 ++ (wX4 g q6 S6 ++ (wX2 g q7 q8 S7 ++ (wX3 g q8 S8 ++ (wX1 g q9 S9))))))))) H → va_D A (wX7 g q1 q2 q6 q7 q9 ++ (wX0 g q2 q3 q4 q5 ++ (wX3 g q3 S3 ++ (wX6 g q4 S4 ++ (wX5 g q5 S5 ++ (wX4 g q6 S6 ++ (wX2 g q7 q8 S7 ++ (wX3 g q8 S8 ++ (wX1 g q9 S9))))))))) → va_S A H0 H locs → lv_has ls 7 [(0, .ref (q1 100)), (2, .int x2), (3, .int x3), (4, .int x4), (5, .int x5), (6, .int x6)] → (∀ (z0 : Int32), o = z0 → ∀ (H : Heap) (locs : List Loc) (ls : Array Slot), va_P g.1 vwCl (wX7 g q1 q2 q6 q7 q9 ++ (wX0 g q2 q3 q4 q5 ++ (wX3 g q3 S3 ++ (wX6 g q4 S4 ++ (wX5 g q5 S5 ++ (wX4 g q6 S6 ++ (wX2 g q7 q8 S7 ++ (wX3 g q8 S8 ++ (wX1 g q9 S9))))))))) H → va_D A (wX7 g q1 q2 q6 q7 q9 ++ (wX0 g q2 q3 q4 q5 ++ (wX3 g q3 S3 ++ (wX6 g q4 S4 ++ (wX5 g q5 S5 ++ (wX4 g q6 S6 ++ (wX2 g q7 q8 S7 ++ (wX3 g q8 S8 ++ (wX1 g q9 S9))))))))) → va_S A H0 H locs → lv_has ls 7 [(5, .int z0)] → W p l e RM_X7_year s m args below meth c H locs 0 0 Q (F0 m 79 ls [])) → W p l e RM_X7_year s m args below meth c H locs 0 0 Q (F0 m 42 ls []) := by
  have hx := hC.1.1
  have hb := hC.1.2.1
  have hml := hC.1.2.2.1
  have hown := hC.1.2.2.2.1
  have hts := hC.1.2.2.2.2
  intro n
  induction n with
  | zero => intro x4 x5 x6 o h; cases h
  | succ n ih =>
    intro x4 x5 x6 o h H locs ls hP hD hS hl k0
    have h : bd_X7_year_42 N x2 x3 S3 S4 S5 S6 S7 S8 S9 x4 x5 x6 (fx_it (lf_X7_year_42 N x2 x3 S3 S4 S5 S6 S7 S8 S9) n) = some o := h
    unfold bd_X7_year_42 at h
    refine lv_iload hx hb dX7_year_42 (lv_at hl 5 rfl) ?_
    refine lv_iload_n hx hb dX7_year_44 rfl (lv_at hl 1 rfl) ?_
    refine k_icmp_ge (tgt := 79) hC dX7_year_45 (by decide) h (fun h => ?_) (fun h => ?_)
    · exact k0 x5 (Option.some.inj h).symm _ _ _ hP hD hS (lv_sub hl [4] rfl)
    · refine lv_bipush (v := (75 : Int32)) hx hb dX7_year_48 (by decide) ?_
      refine lv_iload hx hb dX7_year_50 (lv_at hl 3 rfl) ?_
      refine lv_imul hx hb dX7_year_52 ?_
      refine lv_bipush (v := (74 : Int32)) hx hb dX7_year_53 (by decide) ?_
      refine lv_iadd hx hb dX7_year_55 ?_
      refine lv_ldc (v := (65537 : Int32)) hx hb hown (hts _ (List.mem_of_getElem? (i := 1) rfl)) dX7_year_56 ?_
      refine lv_irem hx hb dX7_year_58 (by decide) ?_
      refine k_topi h (fun x101 h => ?_)
      refine lv_istore (lv' := [(4, .int x101), (0, .ref (q1 100)), (2, .int x2), (3, .int x3), (5, .int x5), (6, .int x6)]) hx hb dX7_year_59 hl (by decide) rfl (fun ls hl => ?_)
      refine lv_iload hx hb dX7_year_61 (lv_at hl 4 rfl) ?_
      refine lv_aload_n hx hb dX7_year_63 rfl (lv_at hl 1 rfl) ?_
      refine lv_iload hx hb dX7_year_64 (lv_at hl 0 rfl) ?_
      refine lv_iload_n hx hb dX7_year_66 rfl (lv_at hl 3 rfl) ?_
      obtain ⟨v102, hc105, h⟩ := fx_b1_s h
      refine k_callVi0 (C := RX7) (ci := 7) (qr := 0) (n := 2) (As := [.int x101, .int x3]) (rest := [.int x5]) (wc := (wX7 g q1 q2 q6 q7 q9 ++ (wX0 g q2 q3 q4 q5 ++ (wX3 g q3 S3 ++ (wX6 g q4 S4 ++ (wX5 g q5 S5 ++ (wX4 g q6 S6 ++ (wX2 g q7 q8 S7 ++ (wX3 g q8 S8 ++ (wX1 g q9 S9)))))))))) (bytes := cX7_drawnDay) (maxL := 8) (ret := (some .int)) hC hl.1 (c_X7_drawnDay l g N q1 q2 q3 q4 q5 q6 q7 q8 q9 S3 S4 S5 S6 S7 S8 S9 x101 x3 v102 hc105) rfl gX7_year_X7_drawnDay (by decide +kernel) rfl rfl ⟨Nat.le_of_ble_eq_true rfl, Nat.le_of_ble_eq_true rfl⟩ rfl rfl rfl (Nat.le_of_ble_eq_true rfl) ⟨Nat.le_of_ble_eq_true rfl, Nat.le_of_ble_eq_true rfl⟩ dX7_year_67 hP hD hS hA [0, 1, 2, 3, 4, 5, 6, 7, 8, 9, 10, 11, 12, 13, 14, 15, 16, 17, 18, 19, 20, 21, 22, 23, 24, 25, 26, 27, 28, 29, 30, 31] rfl (by decide +kernel) (fun H locs hP hD hS => ?_)
      refine lv_iadd hx hb dX7_year_70 ?_
      refine k_topi h (fun x103 h => ?_)
      refine lv_istore (lv' := [(5, .int x103), (4, .int x101), (0, .ref (q1 100)), (2, .int x2), (3, .int x3), (6, .int x6)]) hx hb dX7_year_71 hl (by decide) rfl (fun ls hl => ?_)
      refine k_iinc (v := (1 : Int32)) (lv' := fun X => [(6, .int X), (5, .int x103), (4, .int x101), (0, .ref (q1 100)), (2, .int x2), (3, .int x3)]) hC dX7_year_73 hl (k := 5) rfl (by decide) (by decide) (fun _ => rfl) h (fun x104 h ls hl => ?_)
      refine lv_goto (tgt := 42) hx hb dX7_year_76 (by decide) ?_
      exact ih x101 x103 x104 o h _ _ _ hP hD hS (lv_sub hl [3, 4, 5, 2, 1, 0] rfl) k0
def f_X7_year (N : Nat) (S3 : St) (S4 : St) (S5 : St) (S6 : St) (S7 : St) (S8 : St) (S9 : St) (x1 : Int32) (x2 : Int32) (x3 : Int32) : Option (Int32) :=
  fx_b1 (f_X7_within N x1 (0 : Int32) (9999 : Int32)) (fun v101 =>
  (if v101 = 0 then (
  some (-2 : Int32)) else (
  fx_b1 (f_X7_within N x2 (1 : Int32) (99 : Int32)) (fun v102 =>
    (if v102 = 0 then (
    some (-2 : Int32)) else (
    fx_b1 (f_X7_within N x3 (0 : Int32) (3 : Int32)) (fun v103 =>
      (if v103 = 0 then (
      some (-2 : Int32)) else (
      fx_b1 (fx_it (lf_X7_year_42 N x2 x3 S3 S4 S5 S6 S7 S8 S9) N (x1, (0 : Int32), (0 : Int32))) (fun x104 =>
        some x104))))))))))
set_option maxRecDepth 100000 in
set_option maxHeartbeats 4000000 in
theorem c_X7_year (l : Launch) (g : GG) (N : Nat) (q1 : Nat → Nat) (q2 : Nat → Nat) (q3 : Nat → Nat) (q4 : Nat → Nat) (q5 : Nat → Nat) (q6 : Nat → Nat) (q7 : Nat → Nat) (q8 : Nat → Nat) (q9 : Nat → Nat) (S3 : St) (S4 : St) (S5 : St) (S6 : St) (S7 : St) (S8 : St) (S9 : St) (x1 : Int32) (x2 : Int32) (x3 : Int32) (r : Int32) (h : f_X7_year N S3 S4 S5 S6 S7 S8 S9 x1 x2 x3 = some r) : Ci l yX7_year wsX7_year RM_X7_year g [.ref (q1 100), .int x1, .int x2, .int x3] (wX7 g q1 q2 q6 q7 q9 ++ (wX0 g q2 q3 q4 q5 ++ (wX3 g q3 S3 ++ (wX6 g q4 S4 ++ (wX5 g q5 S5 ++ (wX4 g q6 S6 ++ (wX2 g q7 q8 S7 ++ (wX3 g q8 S8 ++ (wX1 g q9 S9))))))))) (wX7 g q1 q2 q6 q7 q9 ++ (wX0 g q2 q3 q4 q5 ++ (wX3 g q3 S3 ++ (wX6 g q4 S4 ++ (wX5 g q5 S5 ++ (wX4 g q6 S6 ++ (wX2 g q7 q8 S7 ++ (wX3 g q8 S8 ++ (wX1 g q9 S9))))))))) r := by
  intro sz
  refine Met.ofC (cc := cX7_year) (maxL := 7) (ret := (some .int)) (by decide) rfl (Nat.le_of_ble_eq_true rfl) ?_
  intro p e s m below meth c hC hr hlk hsz A hA9 hA hP hD hS ls hl
  subst hsz
  have hC : Cx p s m ([.ref (q1 100), .int x1, .int x2, .int x3] : List Value).toArray c RX7 cX7_year 7 wsX7_year g := hC
  have hx := hC.1.1
  have hb := hC.1.2.1
  have hml := hC.1.2.2.1
  have hown := hC.1.2.2.2.1
  have hts := hC.1.2.2.2.2
  have hl : lv_has ls 7 [(0, .ref (q1 100)), (1, .int x1), (2, .int x2), (3, .int x3)] := hl
  show W p l e RM_X7_year s m ([.ref (q1 100), .int x1, .int x2, .int x3] : List Value).toArray below meth c s.heap [] 0 0 (Qi below g [.ref (q1 100), .int x1, .int x2, .int x3] (wX7 g q1 q2 q6 q7 q9 ++ (wX0 g q2 q3 q4 q5 ++ (wX3 g q3 S3 ++ (wX6 g q4 S4 ++ (wX5 g q5 S5 ++ (wX4 g q6 S6 ++ (wX2 g q7 q8 S7 ++ (wX3 g q8 S8 ++ (wX1 g q9 S9))))))))) (wX7 g q1 q2 q6 q7 q9 ++ (wX0 g q2 q3 q4 q5 ++ (wX3 g q3 S3 ++ (wX6 g q4 S4 ++ (wX5 g q5 S5 ++ (wX4 g q6 S6 ++ (wX2 g q7 q8 S7 ++ (wX3 g q8 S8 ++ (wX1 g q9 S9))))))))) r s) (F0 m 0 ls [])
  unfold f_X7_year at h
  refine lv_iload_n hx hb dX7_year_0 rfl (lv_at hl 1 rfl) ?_
  refine lv_iconst (v := (0 : Int32)) hx hb dX7_year_1 (by decide) ?_
  refine lv_sipush (v := (9999 : Int32)) hx hb dX7_year_2 (by decide) ?_
  obtain ⟨v101, hc108, h⟩ := fx_b1_s h
  refine k_callSi0 (n := 3) (As := [.int x1, .int (0 : Int32), .int (9999 : Int32)]) (rest := []) (wc := ([] : va_W)) (bytes := cX7_within) (maxL := 3) (ret := (some .boolean)) hC hl.1 (c_X7_within l g N x1 (0 : Int32) (9999 : Int32) v101 hc108) rfl gX7_year_X7_within (by decide +kernel) ⟨Nat.le_of_ble_eq_true rfl, Nat.le_of_ble_eq_true rfl⟩ rfl rfl rfl (Nat.le_of_ble_eq_true rfl) ⟨Nat.le_of_ble_eq_true rfl, Nat.le_of_ble_eq_true rfl⟩ dX7_year_5 hP hD hS hA [] rfl (by decide +kernel) (fun H locs hP hD hS => ?_)
  refine k_if_eq (tgt := 30) hC dX7_year_8 (by decide) h (fun h => ?_) (fun h => ?_)
  · refine lv_bipush (v := (-2 : Int32)) hx hb dX7_year_30 (by decide) ?_
    obtain rfl := fx_i1 h
    exact Ci.ret hC hr hlk hA9 hP hD hS dX7_year_32
  · refine lv_iload_n hx hb dX7_year_11 rfl (lv_at hl 2 rfl) ?_
    refine lv_iconst (v := (1 : Int32)) hx hb dX7_year_12 (by decide) ?_
    refine lv_bipush (v := (99 : Int32)) hx hb dX7_year_13 (by decide) ?_
    obtain ⟨v102, hc107, h⟩ := fx_b1_s h
    refine k_callSi0 (n := 3) (As := [.int x2, .int (1 : Int32), .int (99 : Int32)]) (rest := []) (wc := ([] : va_W)) (bytes := cX7_within) (maxL := 3) (ret := (some .boolean)) hC hl.1 (c_X7_within l g N x2 (1 : Int32) (99 : Int32) v102 hc107) rfl gX7_year_X7_within (by decide +kernel) ⟨Nat.le_of_ble_eq_true rfl, Nat.le_of_ble_eq_true rfl⟩ rfl rfl rfl (Nat.le_of_ble_eq_true rfl) ⟨Nat.le_of_ble_eq_true rfl, Nat.le_of_ble_eq_true rfl⟩ dX7_year_15 hP hD hS hA [] rfl (by decide +kernel) (fun H locs hP hD hS => ?_)
    refine k_if_eq (tgt := 30) hC dX7_year_18 (by decide) h (fun h => ?_) (fun h => ?_)
    · refine lv_bipush (v := (-2 : Int32)) hx hb dX7_year_30 (by decide) ?_
      obtain rfl := fx_i1 h
      exact Ci.ret hC hr hlk hA9 hP hD hS dX7_year_32
    · refine lv_iload_n hx hb dX7_year_21 rfl (lv_at hl 3 rfl) ?_
      refine lv_iconst (v := (0 : Int32)) hx hb dX7_year_22 (by decide) ?_
      refine lv_iconst (v := (3 : Int32)) hx hb dX7_year_23 (by decide) ?_
      obtain ⟨v103, hc106, h⟩ := fx_b1_s h
      refine k_callSi0 (n := 3) (As := [.int x3, .int (0 : Int32), .int (3 : Int32)]) (rest := []) (wc := ([] : va_W)) (bytes := cX7_within) (maxL := 3) (ret := (some .boolean)) hC hl.1 (c_X7_within l g N x3 (0 : Int32) (3 : Int32) v103 hc106) rfl gX7_year_X7_within (by decide +kernel) ⟨Nat.le_of_ble_eq_true rfl, Nat.le_of_ble_eq_true rfl⟩ rfl rfl rfl (Nat.le_of_ble_eq_true rfl) ⟨Nat.le_of_ble_eq_true rfl, Nat.le_of_ble_eq_true rfl⟩ dX7_year_24 hP hD hS hA [] rfl (by decide +kernel) (fun H locs hP hD hS => ?_)
      refine k_if_ne (tgt := 33) hC dX7_year_27 (by decide) h (fun h => ?_) (fun h => ?_)
      · refine lv_iload_n hx hb dX7_year_33 rfl (lv_at hl 1 rfl) ?_
        refine lv_istore (lv' := [(4, .int x1), (0, .ref (q1 100)), (1, .int x1), (2, .int x2), (3, .int x3)]) hx hb dX7_year_34 hl (by decide) rfl (fun ls hl => ?_)
        refine lv_iconst (v := (0 : Int32)) hx hb dX7_year_36 (by decide) ?_
        refine lv_istore (lv' := [(5, .int (0 : Int32)), (4, .int x1), (0, .ref (q1 100)), (1, .int x1), (2, .int x2), (3, .int x3)]) hx hb dX7_year_37 hl (by decide) rfl (fun ls hl => ?_)
        refine lv_iconst (v := (0 : Int32)) hx hb dX7_year_39 (by decide) ?_
        refine lv_istore (lv' := [(6, .int (0 : Int32)), (5, .int (0 : Int32)), (4, .int x1), (0, .ref (q1 100)), (1, .int x1), (2, .int x2), (3, .int x3)]) hx hb dX7_year_40 hl (by decide) rfl (fun ls hl => ?_)
        obtain ⟨x104, ho105, h⟩ := fx_b1_s h
        refine lw_X7_year_42 hC hA N q1 q2 q3 q4 q5 q6 q7 q8 q9 x2 x3 S3 S4 S5 S6 S7 S8 S9 N x1 (0 : Int32) (0 : Int32)  x104 ho105 _ _ _ hP hD hS (lv_sub hl [3, 5, 6, 2, 1, 0] rfl) ?_
        · intro y0 he H locs ls hP hD hS hl
          obtain rfl := he
          refine lv_iload hx hb dX7_year_79 (lv_at hl 0 rfl) ?_
          obtain rfl := fx_i1 h
          exact Ci.ret hC hr hlk hA9 hP hD hS dX7_year_81
      · refine lv_bipush (v := (-2 : Int32)) hx hb dX7_year_30 (by decide) ?_
        obtain rfl := fx_i1 h
        exact Ci.ret hC hr hlk hA9 hP hD hS dX7_year_32
theorem uX7_told_X0 : ∀ w ∈ u_ws RX0 TX0 3, w ∈ wsX7_told := fun w h => List.mem_cons_of_mem _ (List.mem_append_left _ (List.mem_append_left _ (List.mem_append_left _ (List.mem_append_left _ (List.mem_append_right _ h)))))
theorem uX7_told_X3 : ∀ w ∈ u_ws RX3 TX3 11, w ∈ wsX7_told := fun w h => List.mem_cons_of_mem _ (List.mem_append_left _ (List.mem_append_left _ (List.mem_append_right _ h)))
theorem uX7_told_X4 : ∀ w ∈ u_ws RX4 TX4 2, w ∈ wsX7_told := fun w h => List.mem_cons_of_mem _ (List.mem_append_left _ (List.mem_append_left _ (List.mem_append_left _ (List.mem_append_right _ h))))
theorem uX7_told_X5 : ∀ w ∈ u_ws RX5 TX5 2, w ∈ wsX7_told := fun w h => List.mem_cons_of_mem _ (List.mem_append_right _ h)
theorem uX7_told_X6 : ∀ w ∈ u_ws RX6 TX6 5, w ∈ wsX7_told := fun w h => List.mem_cons_of_mem _ (List.mem_append_left _ (List.mem_append_right _ h))
theorem uX7_told_X7 : ∀ w ∈ u_ws RX7 TX7 5, w ∈ wsX7_told := fun w h => List.mem_cons_of_mem _ (List.mem_append_left _ (List.mem_append_left _ (List.mem_append_left _ (List.mem_append_left _ (List.mem_append_left _ (List.mem_append_right _ h))))))
abbrev RM_X7_told : Room := { frames := 4, cells := 0, slots := 0, locals := 85 }
def f_X7_told (N : Nat) (S3 : St) (S4 : St) (S5 : St) (S6 : St) (S7 : St) (S8 : St) (S9 : St) (x1 : Int32) : Option (Int32) :=
  (if x1 = (0 : Int32) then (some (S6.1 0)) else (if x1 = (1 : Int32) then (some (S3.1 0)) else (if x1 = (2 : Int32) then (some (S3.1 1)) else (if x1 = (3 : Int32) then (some (S3.1 2)) else (if x1 = (4 : Int32) then (some (S3.1 3)) else (if x1 = (5 : Int32) then (some (S3.1 4)) else (if x1 = (6 : Int32) then (some (S4.1 0)) else (if x1 = (7 : Int32) then (some (S5.1 0)) else (if x1 = (8 : Int32) then ((if (S3.1 5) = 0 then (
    some (0 : Int32)) else (
    some (1 : Int32)))) else (fx_b1 (f_X3_hasPlace N S3 (x1 - (10 : Int32))) (fun v101 =>
  (if v101 = 0 then (
  (if (20 : Int32) ≤ x1 then (
    fx_b1 (f_X6_tellOf N S4 ((x1 - (20 : Int32)) / (10 : Int32)) (x1 - x1 / (10 : Int32) * (10 : Int32))) (fun v102 =>
      some v102)) else (
    some (-2 : Int32)))) else (
  fx_ald 6 (S3.2 6) (x1 - (10 : Int32)) (fun v104 =>
    some v104))))))))))))))
set_option maxRecDepth 100000 in
set_option maxHeartbeats 4000000 in
theorem c_X7_told (l : Launch) (g : GG) (N : Nat) (q1 : Nat → Nat) (q2 : Nat → Nat) (q3 : Nat → Nat) (q4 : Nat → Nat) (q5 : Nat → Nat) (q6 : Nat → Nat) (q7 : Nat → Nat) (q8 : Nat → Nat) (q9 : Nat → Nat) (S3 : St) (S4 : St) (S5 : St) (S6 : St) (S7 : St) (S8 : St) (S9 : St) (x1 : Int32) (r : Int32) (h : f_X7_told N S3 S4 S5 S6 S7 S8 S9 x1 = some r) : Ci l yX7_told wsX7_told RM_X7_told g [.ref (q1 100), .int x1] (wX7 g q1 q2 q6 q7 q9 ++ (wX0 g q2 q3 q4 q5 ++ (wX3 g q3 S3 ++ (wX6 g q4 S4 ++ (wX5 g q5 S5 ++ (wX4 g q6 S6 ++ (wX2 g q7 q8 S7 ++ (wX3 g q8 S8 ++ (wX1 g q9 S9))))))))) (wX7 g q1 q2 q6 q7 q9 ++ (wX0 g q2 q3 q4 q5 ++ (wX3 g q3 S3 ++ (wX6 g q4 S4 ++ (wX5 g q5 S5 ++ (wX4 g q6 S6 ++ (wX2 g q7 q8 S7 ++ (wX3 g q8 S8 ++ (wX1 g q9 S9))))))))) r := by
  intro sz
  refine Met.ofC (cc := cX7_told) (maxL := 3) (ret := (some .int)) (by decide) rfl (Nat.le_of_ble_eq_true rfl) ?_
  intro p e s m below meth c hC hr hlk hsz A hA9 hA hP hD hS ls hl
  subst hsz
  have hC : Cx p s m ([.ref (q1 100), .int x1] : List Value).toArray c RX7 cX7_told 3 wsX7_told g := hC
  have hx := hC.1.1
  have hb := hC.1.2.1
  have hml := hC.1.2.2.1
  have hown := hC.1.2.2.2.1
  have hts := hC.1.2.2.2.2
  have hl : lv_has ls 3 [(0, .ref (q1 100)), (1, .int x1)] := hl
  show W p l e RM_X7_told s m ([.ref (q1 100), .int x1] : List Value).toArray below meth c s.heap [] 0 0 (Qi below g [.ref (q1 100), .int x1] (wX7 g q1 q2 q6 q7 q9 ++ (wX0 g q2 q3 q4 q5 ++ (wX3 g q3 S3 ++ (wX6 g q4 S4 ++ (wX5 g q5 S5 ++ (wX4 g q6 S6 ++ (wX2 g q7 q8 S7 ++ (wX3 g q8 S8 ++ (wX1 g q9 S9))))))))) (wX7 g q1 q2 q6 q7 q9 ++ (wX0 g q2 q3 q4 q5 ++ (wX3 g q3 S3 ++ (wX6 g q4 S4 ++ (wX5 g q5 S5 ++ (wX4 g q6 S6 ++ (wX2 g q7 q8 S7 ++ (wX3 g q8 S8 ++ (wX1 g q9 S9))))))))) r s) (F0 m 0 ls [])
  unfold f_X7_told at h
  refine lv_aload_n hx hb dX7_told_0 rfl (lv_at hl 0 rfl) ?_
  refine k_get (ci := 7) (k := 0) (q0 := 0) (v := .ref (q2 100)) (C := RX7) (T := TX7) (N := 5) hC uX7_told_X7 hP rfl rfl (by decide) (List.mem_of_getElem? (i := 1) rfl) rfl dX7_told_1 ?_
  refine k_get (ci := 0) (k := 0) (q0 := 1) (v := .ref (q3 100)) (C := RX0) (T := TX0) (N := 3) hC uX7_told_X0 hP rfl rfl (by decide) (List.mem_of_getElem? (i := 2) rfl) rfl dX7_told_4 ?_
  refine lv_astore_n (lv' := [(2, .ref (q3 100)), (0, .ref (q1 100)), (1, .int x1)]) hx hb dX7_told_7 rfl hl (by decide) rfl (fun ls hl => ?_)
  refine lv_iload_n hx hb dX7_told_8 rfl (lv_at hl 2 rfl) ?_
  by_cases c_9_0 : x1 = (0 : Int32)
  · have h := fx_ifp c_9_0 h
    refine k_eqi c_9_0 ?_
    refine lv_tableIn (tgt := 60) hx hb dX7_told_9 (by decide) (by decide) rfl (by decide) ?_
    refine lv_aload_n hx hb dX7_told_60 rfl (lv_at hl 1 rfl) ?_
    refine k_get (ci := 7) (k := 2) (q0 := 0) (v := .ref (q6 100)) (C := RX7) (T := TX7) (N := 5) hC uX7_told_X7 hP rfl rfl (by decide) (List.mem_of_getElem? (i := 3) rfl) rfl dX7_told_61 ?_
    refine k_get (ci := 4) (k := 0) (q0 := 15) (v := .int (S6.1 0)) (C := RX4) (T := TX4) (N := 2) hC uX7_told_X4 hP rfl rfl (by decide) (List.mem_of_getElem? (i := 4) rfl) rfl dX7_told_64 ?_
    obtain rfl := fx_i1 h
    exact Ci.ret hC hr hlk hA9 hP hD hS dX7_told_67
  have h := fx_ifn c_9_0 h
  by_cases c_9_1 : x1 = (1 : Int32)
  · have h := fx_ifp c_9_1 h
    refine k_eqi c_9_1 ?_
    refine lv_tableIn (tgt := 68) hx hb dX7_told_9 (by decide) (by decide) rfl (by decide) ?_
    refine lv_aload_n hx hb dX7_told_68 rfl (lv_at hl 0 rfl) ?_
    refine k_get (ci := 3) (k := 0) (q0 := 2) (v := .int (S3.1 0)) (C := RX3) (T := TX3) (N := 11) hC uX7_told_X3 hP rfl rfl (by decide) (List.mem_of_getElem? (i := 5) rfl) rfl dX7_told_69 ?_
    obtain rfl := fx_i1 h
    exact Ci.ret hC hr hlk hA9 hP hD hS dX7_told_72
  have h := fx_ifn c_9_1 h
  by_cases c_9_2 : x1 = (2 : Int32)
  · have h := fx_ifp c_9_2 h
    refine k_eqi c_9_2 ?_
    refine lv_tableIn (tgt := 73) hx hb dX7_told_9 (by decide) (by decide) rfl (by decide) ?_
    refine lv_aload_n hx hb dX7_told_73 rfl (lv_at hl 0 rfl) ?_
    refine k_get (ci := 3) (k := 1) (q0 := 2) (v := .int (S3.1 1)) (C := RX3) (T := TX3) (N := 11) hC uX7_told_X3 hP rfl rfl (by decide) (List.mem_of_getElem? (i := 6) rfl) rfl dX7_told_74 ?_
    obtain rfl := fx_i1 h
    exact Ci.ret hC hr hlk hA9 hP hD hS dX7_told_77
  have h := fx_ifn c_9_2 h
  by_cases c_9_3 : x1 = (3 : Int32)
  · have h := fx_ifp c_9_3 h
    refine k_eqi c_9_3 ?_
    refine lv_tableIn (tgt := 78) hx hb dX7_told_9 (by decide) (by decide) rfl (by decide) ?_
    refine lv_aload_n hx hb dX7_told_78 rfl (lv_at hl 0 rfl) ?_
    refine k_get (ci := 3) (k := 2) (q0 := 2) (v := .int (S3.1 2)) (C := RX3) (T := TX3) (N := 11) hC uX7_told_X3 hP rfl rfl (by decide) (List.mem_of_getElem? (i := 7) rfl) rfl dX7_told_79 ?_
    obtain rfl := fx_i1 h
    exact Ci.ret hC hr hlk hA9 hP hD hS dX7_told_82
  have h := fx_ifn c_9_3 h
  by_cases c_9_4 : x1 = (4 : Int32)
  · have h := fx_ifp c_9_4 h
    refine k_eqi c_9_4 ?_
    refine lv_tableIn (tgt := 83) hx hb dX7_told_9 (by decide) (by decide) rfl (by decide) ?_
    refine lv_aload_n hx hb dX7_told_83 rfl (lv_at hl 0 rfl) ?_
    refine k_get (ci := 3) (k := 3) (q0 := 2) (v := .int (S3.1 3)) (C := RX3) (T := TX3) (N := 11) hC uX7_told_X3 hP rfl rfl (by decide) (List.mem_of_getElem? (i := 8) rfl) rfl dX7_told_84 ?_
    obtain rfl := fx_i1 h
    exact Ci.ret hC hr hlk hA9 hP hD hS dX7_told_87
  have h := fx_ifn c_9_4 h
  by_cases c_9_5 : x1 = (5 : Int32)
  · have h := fx_ifp c_9_5 h
    refine k_eqi c_9_5 ?_
    refine lv_tableIn (tgt := 88) hx hb dX7_told_9 (by decide) (by decide) rfl (by decide) ?_
    refine lv_aload_n hx hb dX7_told_88 rfl (lv_at hl 0 rfl) ?_
    refine k_get (ci := 3) (k := 4) (q0 := 2) (v := .int (S3.1 4)) (C := RX3) (T := TX3) (N := 11) hC uX7_told_X3 hP rfl rfl (by decide) (List.mem_of_getElem? (i := 9) rfl) rfl dX7_told_89 ?_
    obtain rfl := fx_i1 h
    exact Ci.ret hC hr hlk hA9 hP hD hS dX7_told_92
  have h := fx_ifn c_9_5 h
  by_cases c_9_6 : x1 = (6 : Int32)
  · have h := fx_ifp c_9_6 h
    refine k_eqi c_9_6 ?_
    refine lv_tableIn (tgt := 93) hx hb dX7_told_9 (by decide) (by decide) rfl (by decide) ?_
    refine lv_aload_n hx hb dX7_told_93 rfl (lv_at hl 1 rfl) ?_
    refine k_get (ci := 7) (k := 0) (q0 := 0) (v := .ref (q2 100)) (C := RX7) (T := TX7) (N := 5) hC uX7_told_X7 hP rfl rfl (by decide) (List.mem_of_getElem? (i := 1) rfl) rfl dX7_told_94 ?_
    refine k_get (ci := 0) (k := 1) (q0 := 1) (v := .ref (q4 100)) (C := RX0) (T := TX0) (N := 3) hC uX7_told_X0 hP rfl rfl (by decide) (List.mem_of_getElem? (i := 10) rfl) rfl dX7_told_97 ?_
    refine k_get (ci := 6) (k := 0) (q0 := 8) (v := .int (S4.1 0)) (C := RX6) (T := TX6) (N := 5) hC uX7_told_X6 hP rfl rfl (by decide) (List.mem_of_getElem? (i := 11) rfl) rfl dX7_told_100 ?_
    obtain rfl := fx_i1 h
    exact Ci.ret hC hr hlk hA9 hP hD hS dX7_told_103
  have h := fx_ifn c_9_6 h
  by_cases c_9_7 : x1 = (7 : Int32)
  · have h := fx_ifp c_9_7 h
    refine k_eqi c_9_7 ?_
    refine lv_tableIn (tgt := 104) hx hb dX7_told_9 (by decide) (by decide) rfl (by decide) ?_
    refine lv_aload_n hx hb dX7_told_104 rfl (lv_at hl 1 rfl) ?_
    refine k_get (ci := 7) (k := 0) (q0 := 0) (v := .ref (q2 100)) (C := RX7) (T := TX7) (N := 5) hC uX7_told_X7 hP rfl rfl (by decide) (List.mem_of_getElem? (i := 1) rfl) rfl dX7_told_105 ?_
    refine k_get (ci := 0) (k := 2) (q0 := 1) (v := .ref (q5 100)) (C := RX0) (T := TX0) (N := 3) hC uX7_told_X0 hP rfl rfl (by decide) (List.mem_of_getElem? (i := 12) rfl) rfl dX7_told_108 ?_
    refine k_get (ci := 5) (k := 0) (q0 := 13) (v := .int (S5.1 0)) (C := RX5) (T := TX5) (N := 2) hC uX7_told_X5 hP rfl rfl (by decide) (List.mem_of_getElem? (i := 13) rfl) rfl dX7_told_111 ?_
    obtain rfl := fx_i1 h
    exact Ci.ret hC hr hlk hA9 hP hD hS dX7_told_114
  have h := fx_ifn c_9_7 h
  by_cases c_9_8 : x1 = (8 : Int32)
  · have h := fx_ifp c_9_8 h
    refine k_eqi c_9_8 ?_
    refine lv_tableIn (tgt := 115) hx hb dX7_told_9 (by decide) (by decide) rfl (by decide) ?_
    refine lv_aload_n hx hb dX7_told_115 rfl (lv_at hl 0 rfl) ?_
    refine k_get (ci := 3) (k := 5) (q0 := 2) (v := .int (S3.1 5)) (C := RX3) (T := TX3) (N := 11) hC uX7_told_X3 hP rfl rfl (by decide) (List.mem_of_getElem? (i := 14) rfl) rfl dX7_told_116 ?_
    refine k_if_eq (tgt := 126) hC dX7_told_119 (by decide) h (fun h => ?_) (fun h => ?_)
    · refine lv_iconst (v := (0 : Int32)) hx hb dX7_told_126 (by decide) ?_
      obtain rfl := fx_i1 h
      exact Ci.ret hC hr hlk hA9 hP hD hS dX7_told_127
    · refine lv_iconst (v := (1 : Int32)) hx hb dX7_told_122 (by decide) ?_
      refine lv_goto (tgt := 127) hx hb dX7_told_123 (by decide) ?_
      obtain rfl := fx_i1 h
      exact Ci.ret hC hr hlk hA9 hP hD hS dX7_told_127
  have h := fx_ifn c_9_8 h
  refine lv_tableOut (tgt := 128) hx hb dX7_told_9 (fx_swo8 c_9_0 c_9_1 c_9_2 c_9_3 c_9_4 c_9_5 c_9_6 c_9_7 c_9_8) (by decide) ?_
  refine lv_aload_n hx hb dX7_told_128 rfl (lv_at hl 0 rfl) ?_
  refine lv_iload_n hx hb dX7_told_129 rfl (lv_at hl 2 rfl) ?_
  refine lv_bipush (v := (10 : Int32)) hx hb dX7_told_130 (by decide) ?_
  refine lv_isub hx hb dX7_told_132 ?_
  obtain ⟨v101, hc105, h⟩ := fx_b1_s h
  refine k_callVi0 (C := RX3) (ci := 3) (qr := 0) (n := 1) (As := [.int (x1 - (10 : Int32))]) (rest := []) (wc := (wX3 g q3 S3)) (bytes := cX3_hasPlace) (maxL := 2) (ret := (some .boolean)) hC hl.1 (c_X3_hasPlace l g N q3 S3 (x1 - (10 : Int32)) v101 hc105) rfl gX7_told_X3_hasPlace (by decide +kernel) rfl rfl ⟨Nat.le_of_ble_eq_true rfl, Nat.le_of_ble_eq_true rfl⟩ rfl rfl rfl (Nat.le_of_ble_eq_true rfl) ⟨Nat.le_of_ble_eq_true rfl, Nat.le_of_ble_eq_true rfl⟩ dX7_told_133 hP hD hS hA [2, 3, 4, 5, 6, 7] rfl (by decide +kernel) (fun H locs hP hD hS => ?_)
  refine k_if_eq (tgt := 149) hC dX7_told_136 (by decide) h (fun h => ?_) (fun h => ?_)
  · refine lv_iload_n hx hb dX7_told_149 rfl (lv_at hl 2 rfl) ?_
    refine lv_bipush (v := (20 : Int32)) hx hb dX7_told_150 (by decide) ?_
    refine k_icmp_ge (tgt := 160) hC dX7_told_152 (by decide) h (fun h => ?_) (fun h => ?_)
    · refine lv_aload_n hx hb dX7_told_160 rfl (lv_at hl 1 rfl) ?_
      refine k_get (ci := 7) (k := 0) (q0 := 0) (v := .ref (q2 100)) (C := RX7) (T := TX7) (N := 5) hC uX7_told_X7 hP rfl rfl (by decide) (List.mem_of_getElem? (i := 1) rfl) rfl dX7_told_161 ?_
      refine k_get (ci := 0) (k := 1) (q0 := 1) (v := .ref (q4 100)) (C := RX0) (T := TX0) (N := 3) hC uX7_told_X0 hP rfl rfl (by decide) (List.mem_of_getElem? (i := 10) rfl) rfl dX7_told_164 ?_
      refine lv_iload_n hx hb dX7_told_167 rfl (lv_at hl 2 rfl) ?_
      refine lv_bipush (v := (20 : Int32)) hx hb dX7_told_168 (by decide) ?_
      refine lv_isub hx hb dX7_told_170 ?_
      refine lv_bipush (v := (10 : Int32)) hx hb dX7_told_171 (by decide) ?_
      refine lv_idiv hx hb dX7_told_173 (by decide) ?_
      refine lv_iload_n hx hb dX7_told_174 rfl (lv_at hl 2 rfl) ?_
      refine lv_bipush (v := (10 : Int32)) hx hb dX7_told_175 (by decide) ?_
      refine lv_irem hx hb dX7_told_177 (by decide) ?_
      obtain ⟨v102, hc103, h⟩ := fx_b1_s h
      refine k_callVi0 (C := RX6) (ci := 6) (qr := 0) (n := 2) (As := [.int ((x1 - (20 : Int32)) / (10 : Int32)), .int (x1 - x1 / (10 : Int32) * (10 : Int32))]) (rest := []) (wc := (wX6 g q4 S4)) (bytes := cX6_tellOf) (maxL := 3) (ret := (some .int)) hC hl.1 (c_X6_tellOf l g N q4 S4 ((x1 - (20 : Int32)) / (10 : Int32)) (x1 - x1 / (10 : Int32) * (10 : Int32)) v102 hc103) rfl gX7_told_X6_tellOf (by decide +kernel) rfl rfl ⟨Nat.le_of_ble_eq_true rfl, Nat.le_of_ble_eq_true rfl⟩ rfl rfl rfl (Nat.le_of_ble_eq_true rfl) ⟨Nat.le_of_ble_eq_true rfl, Nat.le_of_ble_eq_true rfl⟩ dX7_told_178 hP hD hS hA [8, 9, 10, 11, 12] rfl (by decide +kernel) (fun H locs hP hD hS => ?_)
      obtain rfl := fx_i1 h
      exact Ci.ret hC hr hlk hA9 hP hD hS dX7_told_181
    · refine lv_bipush (v := (-2 : Int32)) hx hb dX7_told_155 (by decide) ?_
      refine lv_goto (tgt := 181) hx hb dX7_told_157 (by decide) ?_
      obtain rfl := fx_i1 h
      exact Ci.ret hC hr hlk hA9 hP hD hS dX7_told_181
  · refine lv_aload_n hx hb dX7_told_139 rfl (lv_at hl 0 rfl) ?_
    refine k_get (ci := 3) (k := 6) (q0 := 2) (v := .ref (q3 6)) (C := RX3) (T := TX3) (N := 11) hC uX7_told_X3 hP rfl rfl (by decide) (List.mem_of_getElem? (i := 15) rfl) rfl dX7_told_140 ?_
    refine lv_iload_n hx hb dX7_told_143 rfl (lv_at hl 2 rfl) ?_
    refine lv_bipush (v := (10 : Int32)) hx hb dX7_told_144 (by decide) ?_
    refine lv_isub hx hb dX7_told_146 ?_
    refine k_ald (q0 := 3) (n := 6) (F := S3.2 6) hC hP rfl dX7_told_147 h (fun v104 h => ?_)
    obtain rfl := fx_i1 h
    exact Ci.ret hC hr hlk hA9 hP hD hS dX7_told_148
