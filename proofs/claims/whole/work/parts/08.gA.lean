/-! laid by wip/whole/gen.py out of the printed names and instructions: what each method does (f_), and that its bytecode does it (c_) -/
def wX0 (g : GG) (q : Nat → Nat) (q0 : Nat → Nat) (q1 : Nat → Nat) (q2 : Nat → Nat) : va_W := [(q 100, .inr (0, [.ref (q0 100), .ref (q1 100), .ref (q2 100)]))]
def wX1 (g : GG) (q : Nat → Nat) (S : St) : va_W := [(q 100, .inr (1, [.int (S.1 0), .ref (q 1), .ref (q 2), .ref (q 3), .ref (q 4), .int (S.1 5), .int (S.1 6), .int (S.1 7), .ref (q 8), .ref (q 9), .ref (q 10), .int (S.1 11), .int (S.1 12), .int (S.1 13)])), (q 1, .inl (g.2.1, 6, .inl (S.2 1))), (q 2, .inl (g.2.1, 36, .inl (S.2 2))), (q 3, .inl (g.2.1, 36, .inl (S.2 3))), (q 4, .inl (g.2.1, 6, .inl (S.2 4))), (q 8, .inl (g.2.1, 64, .inl (S.2 8))), (q 9, .inl (g.2.1, 16, .inl (S.2 9))), (q 10, .inl (g.2.1, 16, .inl (S.2 10)))]
def wX2 (g : GG) (q : Nat → Nat) (q0 : Nat → Nat) (S : St) : va_W := [(q 100, .inr (2, [.ref (q0 100), .int (S.1 1), .int (S.1 2), .int (S.1 3), .int (S.1 4)]))]
def wX3 (g : GG) (q : Nat → Nat) (S : St) : va_W := [(q 100, .inr (3, [.int (S.1 0), .int (S.1 1), .int (S.1 2), .int (S.1 3), .int (S.1 4), .int (S.1 5), .ref (q 6), .ref (q 7), .ref (q 8), .ref (q 9), .ref (q 10)])), (q 6, .inl (g.2.1, 6, .inl (S.2 6))), (q 7, .inl (g.2.1, 4, .inl (S.2 7))), (q 8, .inl (g.2.1, 24, .inl (S.2 8))), (q 9, .inl (g.2.1, 24, .inl (S.2 9))), (q 10, .inl (g.2.1, 4, .inl (S.2 10)))]
def wX4 (g : GG) (q : Nat → Nat) (S : St) : va_W := [(q 100, .inr (4, [.int (S.1 0), .ref (q 1)])), (q 1, .inl (g.2.1, 60, .inl (S.2 1)))]
def wX5 (g : GG) (q : Nat → Nat) (S : St) : va_W := [(q 100, .inr (5, [.int (S.1 0), .ref (q 1)])), (q 1, .inl (g.2.1, 6, .inl (S.2 1)))]
def wX6 (g : GG) (q : Nat → Nat) (S : St) : va_W := [(q 100, .inr (6, [.int (S.1 0), .ref (q 1), .ref (q 2), .ref (q 3), .ref (q 4)])), (q 1, .inl (g.2.1, 6, .inl (S.2 1))), (q 2, .inl (g.2.1, 6, .inl (S.2 2))), (q 3, .inl (g.2.1, 6, .inl (S.2 3))), (q 4, .inl (g.2.1, 6, .inl (S.2 4)))]
def wX7 (g : GG) (q : Nat → Nat) (q0 : Nat → Nat) (q2 : Nat → Nat) (q3 : Nat → Nat) (q4 : Nat → Nat) : va_W := [(q 100, .inr (7, [.ref (q0 100), .ref (q 1), .ref (q2 100), .ref (q3 100), .ref (q4 100)]))]
def wX8 (g : GG) (q : Nat → Nat) (S : St) : va_W := [(q 100, .inr (8, [.int (S.1 0), .int (S.1 1), .int (S.1 2), .int (S.1 3), .int (S.1 4), .int (S.1 5), .ref (q 6), .int (S.1 7), .ref (q 8), .ref (q 9), .ref (q 10), .ref (q 11), .ref (q 12), .ref (q 13), .ref (q 14), .ref (q 15), .ref (q 16), .int (S.1 17), .ref (q 18), .int (S.1 19), .ref (q 20), .ref (q 21), .int (S.1 22), .ref (q 23), .int (S.1 24), .int (S.1 25), .int (S.1 26), .ref (q 27), .int (S.1 28), .int (S.1 29), .ref (q 30), .int (S.1 31), .ref (q 32), .ref (q 33), .ref (q 34), .int (S.1 35), .int (S.1 36), .int (S.1 37), .int (S.1 38), .ref (q 39), .int (S.1 40), .ref (q 41), .ref (q 42), .ref (q 43), .int (S.1 44), .int (S.1 45)])), (q 6, .inl (g.2.1, 6, .inl (S.2 6))), (q 8, .inl (g.2.1, 6, .inl (S.2 8))), (q 9, .inl (g.2.1, 6, .inl (S.2 9))), (q 10, .inl (g.2.1, 6, .inl (S.2 10))), (q 11, .inl (g.2.1, 6, .inl (S.2 11))), (q 12, .inl (g.2.1, 4, .inl (S.2 12))), (q 13, .inl (g.2.1, 24, .inl (S.2 13))), (q 14, .inl (g.2.1, 24, .inl (S.2 14))), (q 15, .inl (g.2.1, 4, .inl (S.2 15))), (q 16, .inl (g.2.1, 6, .inl (S.2 16))), (q 18, .inl (g.2.1, 60, .inl (S.2 18))), (q 20, .inl (g.2.1, 60, .inl (S.2 20))), (q 21, .inl (g.2.1, 60, .inl (S.2 21))), (q 23, .inl (g.2.1, 58, .inl (S.2 23))), (q 27, .inl (g.2.1, 4, .inl (S.2 27))), (q 30, .inl (g.2.1, 6, .inl (S.2 30))), (q 32, .inl (g.2.1, 36, .inl (S.2 32))), (q 33, .inl (g.2.1, 36, .inl (S.2 33))), (q 34, .inl (g.2.1, 6, .inl (S.2 34))), (q 39, .inl (g.2.1, 16, .inl (S.2 39))), (q 41, .inl (g.2.1, 4, .inl (S.2 41))), (q 42, .inl (g.2.1, 240, .inl (S.2 42))), (q 43, .inl (g.2.2.1, 2, .inl (S.2 43)))]
theorem uX3_copyFrom_X3 : ∀ w ∈ u_ws RX3 TX3 11, w ∈ wsX3_copyFrom := fun w h => List.mem_cons_of_mem _ (List.mem_append_right _ h)
abbrev RM_X3_copyFrom : Room := { frames := 1, cells := 0, slots := 0, locals := 18 }
def f_X3_copyFrom (N : Nat) (S1 : St) (S2 : St) : Option (St) :=
  fx_lt (stI S1 0 (S2.1 0)) (fun S101 =>
  fx_lt (stI S101 1 (S2.1 1)) (fun S102 =>
  fx_lt (stI S102 2 (S2.1 2)) (fun S103 =>
  fx_lt (stI S103 3 (S2.1 3)) (fun S104 =>
  fx_lt (stI S104 4 (S2.1 4)) (fun S105 =>
  fx_bz (S2.1 5) (fx_lt (stI S105 5 (S2.1 5)) (fun S106 =>
  fx_cpy 6 (S2.2 6) 6 S106 6 (0 : Int32) (0 : Int32) (6 : Int32) (fun S107 =>
  fx_cpy 4 (S2.2 7) 4 S107 7 (0 : Int32) (0 : Int32) (4 : Int32) (fun S108 =>
  fx_cpy 24 (S2.2 8) 24 S108 8 (0 : Int32) (0 : Int32) (24 : Int32) (fun S109 =>
  fx_cpy 24 (S2.2 9) 24 S109 9 (0 : Int32) (0 : Int32) (24 : Int32) (fun S110 =>
  fx_cpy 4 (S2.2 10) 4 S110 10 (0 : Int32) (0 : Int32) (4 : Int32) (fun S111 =>
  some S111))))))))))))
set_option maxRecDepth 100000 in
set_option maxHeartbeats 4000000 in
theorem c_X3_copyFrom (l : Launch) (g : GG) (N : Nat) (q1 : Nat → Nat) (q2 : Nat → Nat) (S1 : St) (S2 : St) (F1 : St) (h : f_X3_copyFrom N S1 S2 = some F1) : Cv l yX3_copyFrom wsX3_copyFrom RM_X3_copyFrom g [.ref (q1 100), .ref (q2 100)] (wX3 g q1 S1 ++ (wX3 g q2 S2)) (wX3 g q1 F1 ++ (wX3 g q2 S2)) := by
  intro sz
  refine Met.ofC (cc := cX3_copyFrom) (maxL := 2) (ret := none) (by decide) rfl (Nat.le_of_ble_eq_true rfl) ?_
  intro p e s m below meth c hC hr hlk hsz A hA9 hA hP hD hS ls hl
  subst hsz
  have hC : Cx p s m ([.ref (q1 100), .ref (q2 100)] : List Value).toArray c RX3 cX3_copyFrom 2 wsX3_copyFrom g := hC
  have hx := hC.1.1
  have hb := hC.1.2.1
  have hml := hC.1.2.2.1
  have hown := hC.1.2.2.2.1
  have hts := hC.1.2.2.2.2
  have hl : lv_has ls 2 [(0, .ref (q1 100)), (1, .ref (q2 100))] := hl
  show W p l e RM_X3_copyFrom s m ([.ref (q1 100), .ref (q2 100)] : List Value).toArray below meth c s.heap [] 0 0 (Qv below g [.ref (q1 100), .ref (q2 100)] (wX3 g q1 S1 ++ (wX3 g q2 S2)) (wX3 g q1 F1 ++ (wX3 g q2 S2)) s) (F0 m 0 ls [])
  unfold f_X3_copyFrom at h
  refine lv_aload_n hx hb dX3_copyFrom_0 rfl (lv_at hl 0 rfl) ?_
  refine lv_aload_n hx hb dX3_copyFrom_1 rfl (lv_at hl 1 rfl) ?_
  refine k_get (ci := 3) (k := 0) (q0 := 6) (v := .int (S2.1 0)) (C := RX3) (T := TX3) (N := 11) hC uX3_copyFrom_X3 hP rfl rfl (by decide) (List.mem_of_getElem? (i := 1) rfl) rfl dX3_copyFrom_2 ?_
  refine k_put (ci := 3) (k := 0) (q0 := 0) (C := RX3) (T := TX3) (N := 11) (S2 := stI S1 0 (S2.1 0)) tyX3 (fun S => (wX3 g q1 S ++ (wX3 g q2 S2))) hC uX3_copyFrom_X3 tyX3_ok nmX3 hP hD hS rfl rfl (by decide) (List.mem_of_getElem? (i := 1) rfl) rfl (tyX3_ok 0 (by decide)) (Nat.le_of_ble_eq_true rfl) dX3_copyFrom_5 rfl h (fun S101 h H locs hP hD hS => ?_)
  refine lv_aload_n hx hb dX3_copyFrom_8 rfl (lv_at hl 0 rfl) ?_
  refine lv_aload_n hx hb dX3_copyFrom_9 rfl (lv_at hl 1 rfl) ?_
  refine k_get (ci := 3) (k := 1) (q0 := 6) (v := .int (S2.1 1)) (C := RX3) (T := TX3) (N := 11) hC uX3_copyFrom_X3 hP rfl rfl (by decide) (List.mem_of_getElem? (i := 2) rfl) rfl dX3_copyFrom_10 ?_
  refine k_put (ci := 3) (k := 1) (q0 := 0) (C := RX3) (T := TX3) (N := 11) (S2 := stI S101 1 (S2.1 1)) tyX3 (fun S => (wX3 g q1 S ++ (wX3 g q2 S2))) hC uX3_copyFrom_X3 tyX3_ok nmX3 hP hD hS rfl rfl (by decide) (List.mem_of_getElem? (i := 2) rfl) rfl (tyX3_ok 1 (by decide)) (Nat.le_of_ble_eq_true rfl) dX3_copyFrom_13 rfl h (fun S102 h H locs hP hD hS => ?_)
  refine lv_aload_n hx hb dX3_copyFrom_16 rfl (lv_at hl 0 rfl) ?_
  refine lv_aload_n hx hb dX3_copyFrom_17 rfl (lv_at hl 1 rfl) ?_
  refine k_get (ci := 3) (k := 2) (q0 := 6) (v := .int (S2.1 2)) (C := RX3) (T := TX3) (N := 11) hC uX3_copyFrom_X3 hP rfl rfl (by decide) (List.mem_of_getElem? (i := 3) rfl) rfl dX3_copyFrom_18 ?_
  refine k_put (ci := 3) (k := 2) (q0 := 0) (C := RX3) (T := TX3) (N := 11) (S2 := stI S102 2 (S2.1 2)) tyX3 (fun S => (wX3 g q1 S ++ (wX3 g q2 S2))) hC uX3_copyFrom_X3 tyX3_ok nmX3 hP hD hS rfl rfl (by decide) (List.mem_of_getElem? (i := 3) rfl) rfl (tyX3_ok 2 (by decide)) (Nat.le_of_ble_eq_true rfl) dX3_copyFrom_21 rfl h (fun S103 h H locs hP hD hS => ?_)
  refine lv_aload_n hx hb dX3_copyFrom_24 rfl (lv_at hl 0 rfl) ?_
  refine lv_aload_n hx hb dX3_copyFrom_25 rfl (lv_at hl 1 rfl) ?_
  refine k_get (ci := 3) (k := 3) (q0 := 6) (v := .int (S2.1 3)) (C := RX3) (T := TX3) (N := 11) hC uX3_copyFrom_X3 hP rfl rfl (by decide) (List.mem_of_getElem? (i := 4) rfl) rfl dX3_copyFrom_26 ?_
  refine k_put (ci := 3) (k := 3) (q0 := 0) (C := RX3) (T := TX3) (N := 11) (S2 := stI S103 3 (S2.1 3)) tyX3 (fun S => (wX3 g q1 S ++ (wX3 g q2 S2))) hC uX3_copyFrom_X3 tyX3_ok nmX3 hP hD hS rfl rfl (by decide) (List.mem_of_getElem? (i := 4) rfl) rfl (tyX3_ok 3 (by decide)) (Nat.le_of_ble_eq_true rfl) dX3_copyFrom_29 rfl h (fun S104 h H locs hP hD hS => ?_)
  refine lv_aload_n hx hb dX3_copyFrom_32 rfl (lv_at hl 0 rfl) ?_
  refine lv_aload_n hx hb dX3_copyFrom_33 rfl (lv_at hl 1 rfl) ?_
  refine k_get (ci := 3) (k := 4) (q0 := 6) (v := .int (S2.1 4)) (C := RX3) (T := TX3) (N := 11) hC uX3_copyFrom_X3 hP rfl rfl (by decide) (List.mem_of_getElem? (i := 5) rfl) rfl dX3_copyFrom_34 ?_
  refine k_put (ci := 3) (k := 4) (q0 := 0) (C := RX3) (T := TX3) (N := 11) (S2 := stI S104 4 (S2.1 4)) tyX3 (fun S => (wX3 g q1 S ++ (wX3 g q2 S2))) hC uX3_copyFrom_X3 tyX3_ok nmX3 hP hD hS rfl rfl (by decide) (List.mem_of_getElem? (i := 5) rfl) rfl (tyX3_ok 4 (by decide)) (Nat.le_of_ble_eq_true rfl) dX3_copyFrom_37 rfl h (fun S105 h H locs hP hD hS => ?_)
  refine lv_aload_n hx hb dX3_copyFrom_40 rfl (lv_at hl 0 rfl) ?_
  refine lv_aload_n hx hb dX3_copyFrom_41 rfl (lv_at hl 1 rfl) ?_
  refine k_get (ci := 3) (k := 5) (q0 := 6) (v := .int (S2.1 5)) (C := RX3) (T := TX3) (N := 11) hC uX3_copyFrom_X3 hP rfl rfl (by decide) (List.mem_of_getElem? (i := 6) rfl) rfl dX3_copyFrom_42 ?_
  obtain ⟨hz, h⟩ := fx_bz_s h
  refine k_putz (ci := 3) (k := 5) (q0 := 0) (C := RX3) (T := TX3) (N := 11) (S2 := stI S105 5 (S2.1 5)) tyX3 (fun S => (wX3 g q1 S ++ (wX3 g q2 S2))) hC uX3_copyFrom_X3 tyX3_ok nmX3 hP hD hS rfl rfl (by decide) (List.mem_of_getElem? (i := 6) rfl) rfl (tyX3_ok 5 (by decide)) hz (Nat.le_of_ble_eq_true rfl) dX3_copyFrom_45 rfl h (fun S106 h H locs hP hD hS => ?_)
  refine lv_aload_n hx hb dX3_copyFrom_48 rfl (lv_at hl 1 rfl) ?_
  refine k_get (ci := 3) (k := 6) (q0 := 6) (v := .ref (q2 6)) (C := RX3) (T := TX3) (N := 11) hC uX3_copyFrom_X3 hP rfl rfl (by decide) (List.mem_of_getElem? (i := 7) rfl) rfl dX3_copyFrom_49 ?_
  refine lv_iconst (v := (0 : Int32)) hx hb dX3_copyFrom_52 (by decide) ?_
  refine lv_aload_n hx hb dX3_copyFrom_53 rfl (lv_at hl 0 rfl) ?_
  refine k_get (ci := 3) (k := 6) (q0 := 0) (v := .ref (q1 6)) (C := RX3) (T := TX3) (N := 11) hC uX3_copyFrom_X3 hP rfl rfl (by decide) (List.mem_of_getElem? (i := 7) rfl) rfl dX3_copyFrom_54 ?_
  refine lv_iconst (v := (0 : Int32)) hx hb dX3_copyFrom_57 (by decide) ?_
  refine lv_bipush (v := (6 : Int32)) hx hb dX3_copyFrom_58 (by decide) ?_
  refine k_copy (q0 := 7) (q1 := 1) (n0 := 6) (n1 := 6) (F := S2.2 6) (S := S106) (k := 6) (fun S => (wX3 g q1 S ++ (wX3 g q2 S2))) hC hl.1 (List.mem_of_getElem? (i := 8) rfl) (List.mem_of_getElem? (i := 9) rfl) (List.mem_of_getElem? (i := 10) rfl) (List.mem_of_getElem? (i := 11) rfl) hP hD hS rfl rfl (fun _ => rfl) (Nat.le_of_ble_eq_true rfl) (Nat.le_of_ble_eq_true rfl) dX3_copyFrom_60 h (fun S107 h H locs hP hD hS => ?_)
  refine lv_aload_n hx hb dX3_copyFrom_63 rfl (lv_at hl 1 rfl) ?_
  refine k_get (ci := 3) (k := 7) (q0 := 6) (v := .ref (q2 7)) (C := RX3) (T := TX3) (N := 11) hC uX3_copyFrom_X3 hP rfl rfl (by decide) (List.mem_of_getElem? (i := 12) rfl) rfl dX3_copyFrom_64 ?_
  refine lv_iconst (v := (0 : Int32)) hx hb dX3_copyFrom_67 (by decide) ?_
  refine lv_aload_n hx hb dX3_copyFrom_68 rfl (lv_at hl 0 rfl) ?_
  refine k_get (ci := 3) (k := 7) (q0 := 0) (v := .ref (q1 7)) (C := RX3) (T := TX3) (N := 11) hC uX3_copyFrom_X3 hP rfl rfl (by decide) (List.mem_of_getElem? (i := 12) rfl) rfl dX3_copyFrom_69 ?_
  refine lv_iconst (v := (0 : Int32)) hx hb dX3_copyFrom_72 (by decide) ?_
  refine lv_iconst (v := (4 : Int32)) hx hb dX3_copyFrom_73 (by decide) ?_
  refine k_copy (q0 := 8) (q1 := 2) (n0 := 4) (n1 := 4) (F := S2.2 7) (S := S107) (k := 7) (fun S => (wX3 g q1 S ++ (wX3 g q2 S2))) hC hl.1 (List.mem_of_getElem? (i := 8) rfl) (List.mem_of_getElem? (i := 9) rfl) (List.mem_of_getElem? (i := 10) rfl) (List.mem_of_getElem? (i := 11) rfl) hP hD hS rfl rfl (fun _ => rfl) (Nat.le_of_ble_eq_true rfl) (Nat.le_of_ble_eq_true rfl) dX3_copyFrom_74 h (fun S108 h H locs hP hD hS => ?_)
  refine lv_aload_n hx hb dX3_copyFrom_77 rfl (lv_at hl 1 rfl) ?_
  refine k_get (ci := 3) (k := 8) (q0 := 6) (v := .ref (q2 8)) (C := RX3) (T := TX3) (N := 11) hC uX3_copyFrom_X3 hP rfl rfl (by decide) (List.mem_of_getElem? (i := 13) rfl) rfl dX3_copyFrom_78 ?_
  refine lv_iconst (v := (0 : Int32)) hx hb dX3_copyFrom_81 (by decide) ?_
  refine lv_aload_n hx hb dX3_copyFrom_82 rfl (lv_at hl 0 rfl) ?_
  refine k_get (ci := 3) (k := 8) (q0 := 0) (v := .ref (q1 8)) (C := RX3) (T := TX3) (N := 11) hC uX3_copyFrom_X3 hP rfl rfl (by decide) (List.mem_of_getElem? (i := 13) rfl) rfl dX3_copyFrom_83 ?_
  refine lv_iconst (v := (0 : Int32)) hx hb dX3_copyFrom_86 (by decide) ?_
  refine lv_bipush (v := (24 : Int32)) hx hb dX3_copyFrom_87 (by decide) ?_
  refine k_copy (q0 := 9) (q1 := 3) (n0 := 24) (n1 := 24) (F := S2.2 8) (S := S108) (k := 8) (fun S => (wX3 g q1 S ++ (wX3 g q2 S2))) hC hl.1 (List.mem_of_getElem? (i := 8) rfl) (List.mem_of_getElem? (i := 9) rfl) (List.mem_of_getElem? (i := 10) rfl) (List.mem_of_getElem? (i := 11) rfl) hP hD hS rfl rfl (fun _ => rfl) (Nat.le_of_ble_eq_true rfl) (Nat.le_of_ble_eq_true rfl) dX3_copyFrom_89 h (fun S109 h H locs hP hD hS => ?_)
  refine lv_aload_n hx hb dX3_copyFrom_92 rfl (lv_at hl 1 rfl) ?_
  refine k_get (ci := 3) (k := 9) (q0 := 6) (v := .ref (q2 9)) (C := RX3) (T := TX3) (N := 11) hC uX3_copyFrom_X3 hP rfl rfl (by decide) (List.mem_of_getElem? (i := 14) rfl) rfl dX3_copyFrom_93 ?_
  refine lv_iconst (v := (0 : Int32)) hx hb dX3_copyFrom_96 (by decide) ?_
  refine lv_aload_n hx hb dX3_copyFrom_97 rfl (lv_at hl 0 rfl) ?_
  refine k_get (ci := 3) (k := 9) (q0 := 0) (v := .ref (q1 9)) (C := RX3) (T := TX3) (N := 11) hC uX3_copyFrom_X3 hP rfl rfl (by decide) (List.mem_of_getElem? (i := 14) rfl) rfl dX3_copyFrom_98 ?_
  refine lv_iconst (v := (0 : Int32)) hx hb dX3_copyFrom_101 (by decide) ?_
  refine lv_bipush (v := (24 : Int32)) hx hb dX3_copyFrom_102 (by decide) ?_
  refine k_copy (q0 := 10) (q1 := 4) (n0 := 24) (n1 := 24) (F := S2.2 9) (S := S109) (k := 9) (fun S => (wX3 g q1 S ++ (wX3 g q2 S2))) hC hl.1 (List.mem_of_getElem? (i := 8) rfl) (List.mem_of_getElem? (i := 9) rfl) (List.mem_of_getElem? (i := 10) rfl) (List.mem_of_getElem? (i := 11) rfl) hP hD hS rfl rfl (fun _ => rfl) (Nat.le_of_ble_eq_true rfl) (Nat.le_of_ble_eq_true rfl) dX3_copyFrom_104 h (fun S110 h H locs hP hD hS => ?_)
  refine lv_aload_n hx hb dX3_copyFrom_107 rfl (lv_at hl 1 rfl) ?_
  refine k_get (ci := 3) (k := 10) (q0 := 6) (v := .ref (q2 10)) (C := RX3) (T := TX3) (N := 11) hC uX3_copyFrom_X3 hP rfl rfl (by decide) (List.mem_of_getElem? (i := 15) rfl) rfl dX3_copyFrom_108 ?_
  refine lv_iconst (v := (0 : Int32)) hx hb dX3_copyFrom_111 (by decide) ?_
  refine lv_aload_n hx hb dX3_copyFrom_112 rfl (lv_at hl 0 rfl) ?_
  refine k_get (ci := 3) (k := 10) (q0 := 0) (v := .ref (q1 10)) (C := RX3) (T := TX3) (N := 11) hC uX3_copyFrom_X3 hP rfl rfl (by decide) (List.mem_of_getElem? (i := 15) rfl) rfl dX3_copyFrom_113 ?_
  refine lv_iconst (v := (0 : Int32)) hx hb dX3_copyFrom_116 (by decide) ?_
  refine lv_iconst (v := (4 : Int32)) hx hb dX3_copyFrom_117 (by decide) ?_
  refine k_copy (q0 := 11) (q1 := 5) (n0 := 4) (n1 := 4) (F := S2.2 10) (S := S110) (k := 10) (fun S => (wX3 g q1 S ++ (wX3 g q2 S2))) hC hl.1 (List.mem_of_getElem? (i := 8) rfl) (List.mem_of_getElem? (i := 9) rfl) (List.mem_of_getElem? (i := 10) rfl) (List.mem_of_getElem? (i := 11) rfl) hP hD hS rfl rfl (fun _ => rfl) (Nat.le_of_ble_eq_true rfl) (Nat.le_of_ble_eq_true rfl) dX3_copyFrom_118 h (fun S111 h H locs hP hD hS => ?_)
  obtain rfl := fx_i1 h
  exact Cv.ret hC hr hlk hA9 hP hD hS dX3_copyFrom_121
theorem uX6_copyFrom_X6 : ∀ w ∈ u_ws RX6 TX6 5, w ∈ wsX6_copyFrom := fun w h => List.mem_cons_of_mem _ (List.mem_append_right _ h)
abbrev RM_X6_copyFrom : Room := { frames := 1, cells := 0, slots := 0, locals := 18 }
def f_X6_copyFrom (N : Nat) (S1 : St) (S2 : St) : Option (St) :=
  fx_lt (stI S1 0 (S2.1 0)) (fun S101 =>
  fx_cpy 6 (S2.2 1) 6 S101 1 (0 : Int32) (0 : Int32) (6 : Int32) (fun S102 =>
  fx_cpy 6 (S2.2 2) 6 S102 2 (0 : Int32) (0 : Int32) (6 : Int32) (fun S103 =>
  fx_cpy 6 (S2.2 3) 6 S103 3 (0 : Int32) (0 : Int32) (6 : Int32) (fun S104 =>
  fx_cpy 6 (S2.2 4) 6 S104 4 (0 : Int32) (0 : Int32) (6 : Int32) (fun S105 =>
  some S105)))))
set_option maxRecDepth 100000 in
set_option maxHeartbeats 4000000 in
theorem c_X6_copyFrom (l : Launch) (g : GG) (N : Nat) (q1 : Nat → Nat) (q2 : Nat → Nat) (S1 : St) (S2 : St) (F1 : St) (h : f_X6_copyFrom N S1 S2 = some F1) : Cv l yX6_copyFrom wsX6_copyFrom RM_X6_copyFrom g [.ref (q1 100), .ref (q2 100)] (wX6 g q1 S1 ++ (wX6 g q2 S2)) (wX6 g q1 F1 ++ (wX6 g q2 S2)) := by
  intro sz
  refine Met.ofC (cc := cX6_copyFrom) (maxL := 2) (ret := none) (by decide) rfl (Nat.le_of_ble_eq_true rfl) ?_
  intro p e s m below meth c hC hr hlk hsz A hA9 hA hP hD hS ls hl
  subst hsz
  have hC : Cx p s m ([.ref (q1 100), .ref (q2 100)] : List Value).toArray c RX6 cX6_copyFrom 2 wsX6_copyFrom g := hC
  have hx := hC.1.1
  have hb := hC.1.2.1
  have hml := hC.1.2.2.1
  have hown := hC.1.2.2.2.1
  have hts := hC.1.2.2.2.2
  have hl : lv_has ls 2 [(0, .ref (q1 100)), (1, .ref (q2 100))] := hl
  show W p l e RM_X6_copyFrom s m ([.ref (q1 100), .ref (q2 100)] : List Value).toArray below meth c s.heap [] 0 0 (Qv below g [.ref (q1 100), .ref (q2 100)] (wX6 g q1 S1 ++ (wX6 g q2 S2)) (wX6 g q1 F1 ++ (wX6 g q2 S2)) s) (F0 m 0 ls [])
  unfold f_X6_copyFrom at h
  refine lv_aload_n hx hb dX6_copyFrom_0 rfl (lv_at hl 0 rfl) ?_
  refine lv_aload_n hx hb dX6_copyFrom_1 rfl (lv_at hl 1 rfl) ?_
  refine k_get (ci := 6) (k := 0) (q0 := 5) (v := .int (S2.1 0)) (C := RX6) (T := TX6) (N := 5) hC uX6_copyFrom_X6 hP rfl rfl (by decide) (List.mem_of_getElem? (i := 1) rfl) rfl dX6_copyFrom_2 ?_
  refine k_put (ci := 6) (k := 0) (q0 := 0) (C := RX6) (T := TX6) (N := 5) (S2 := stI S1 0 (S2.1 0)) tyX6 (fun S => (wX6 g q1 S ++ (wX6 g q2 S2))) hC uX6_copyFrom_X6 tyX6_ok nmX6 hP hD hS rfl rfl (by decide) (List.mem_of_getElem? (i := 1) rfl) rfl (tyX6_ok 0 (by decide)) (Nat.le_of_ble_eq_true rfl) dX6_copyFrom_5 rfl h (fun S101 h H locs hP hD hS => ?_)
  refine lv_aload_n hx hb dX6_copyFrom_8 rfl (lv_at hl 1 rfl) ?_
  refine k_get (ci := 6) (k := 1) (q0 := 5) (v := .ref (q2 1)) (C := RX6) (T := TX6) (N := 5) hC uX6_copyFrom_X6 hP rfl rfl (by decide) (List.mem_of_getElem? (i := 2) rfl) rfl dX6_copyFrom_9 ?_
  refine lv_iconst (v := (0 : Int32)) hx hb dX6_copyFrom_12 (by decide) ?_
  refine lv_aload_n hx hb dX6_copyFrom_13 rfl (lv_at hl 0 rfl) ?_
  refine k_get (ci := 6) (k := 1) (q0 := 0) (v := .ref (q1 1)) (C := RX6) (T := TX6) (N := 5) hC uX6_copyFrom_X6 hP rfl rfl (by decide) (List.mem_of_getElem? (i := 2) rfl) rfl dX6_copyFrom_14 ?_
  refine lv_iconst (v := (0 : Int32)) hx hb dX6_copyFrom_17 (by decide) ?_
  refine lv_bipush (v := (6 : Int32)) hx hb dX6_copyFrom_18 (by decide) ?_
  refine k_copy (q0 := 6) (q1 := 1) (n0 := 6) (n1 := 6) (F := S2.2 1) (S := S101) (k := 1) (fun S => (wX6 g q1 S ++ (wX6 g q2 S2))) hC hl.1 (List.mem_of_getElem? (i := 3) rfl) (List.mem_of_getElem? (i := 4) rfl) (List.mem_of_getElem? (i := 5) rfl) (List.mem_of_getElem? (i := 6) rfl) hP hD hS rfl rfl (fun _ => rfl) (Nat.le_of_ble_eq_true rfl) (Nat.le_of_ble_eq_true rfl) dX6_copyFrom_20 h (fun S102 h H locs hP hD hS => ?_)
  refine lv_aload_n hx hb dX6_copyFrom_23 rfl (lv_at hl 1 rfl) ?_
  refine k_get (ci := 6) (k := 2) (q0 := 5) (v := .ref (q2 2)) (C := RX6) (T := TX6) (N := 5) hC uX6_copyFrom_X6 hP rfl rfl (by decide) (List.mem_of_getElem? (i := 7) rfl) rfl dX6_copyFrom_24 ?_
  refine lv_iconst (v := (0 : Int32)) hx hb dX6_copyFrom_27 (by decide) ?_
  refine lv_aload_n hx hb dX6_copyFrom_28 rfl (lv_at hl 0 rfl) ?_
  refine k_get (ci := 6) (k := 2) (q0 := 0) (v := .ref (q1 2)) (C := RX6) (T := TX6) (N := 5) hC uX6_copyFrom_X6 hP rfl rfl (by decide) (List.mem_of_getElem? (i := 7) rfl) rfl dX6_copyFrom_29 ?_
  refine lv_iconst (v := (0 : Int32)) hx hb dX6_copyFrom_32 (by decide) ?_
  refine lv_bipush (v := (6 : Int32)) hx hb dX6_copyFrom_33 (by decide) ?_
  refine k_copy (q0 := 7) (q1 := 2) (n0 := 6) (n1 := 6) (F := S2.2 2) (S := S102) (k := 2) (fun S => (wX6 g q1 S ++ (wX6 g q2 S2))) hC hl.1 (List.mem_of_getElem? (i := 3) rfl) (List.mem_of_getElem? (i := 4) rfl) (List.mem_of_getElem? (i := 5) rfl) (List.mem_of_getElem? (i := 6) rfl) hP hD hS rfl rfl (fun _ => rfl) (Nat.le_of_ble_eq_true rfl) (Nat.le_of_ble_eq_true rfl) dX6_copyFrom_35 h (fun S103 h H locs hP hD hS => ?_)
  refine lv_aload_n hx hb dX6_copyFrom_38 rfl (lv_at hl 1 rfl) ?_
  refine k_get (ci := 6) (k := 3) (q0 := 5) (v := .ref (q2 3)) (C := RX6) (T := TX6) (N := 5) hC uX6_copyFrom_X6 hP rfl rfl (by decide) (List.mem_of_getElem? (i := 8) rfl) rfl dX6_copyFrom_39 ?_
  refine lv_iconst (v := (0 : Int32)) hx hb dX6_copyFrom_42 (by decide) ?_
  refine lv_aload_n hx hb dX6_copyFrom_43 rfl (lv_at hl 0 rfl) ?_
  refine k_get (ci := 6) (k := 3) (q0 := 0) (v := .ref (q1 3)) (C := RX6) (T := TX6) (N := 5) hC uX6_copyFrom_X6 hP rfl rfl (by decide) (List.mem_of_getElem? (i := 8) rfl) rfl dX6_copyFrom_44 ?_
  refine lv_iconst (v := (0 : Int32)) hx hb dX6_copyFrom_47 (by decide) ?_
  refine lv_bipush (v := (6 : Int32)) hx hb dX6_copyFrom_48 (by decide) ?_
  refine k_copy (q0 := 8) (q1 := 3) (n0 := 6) (n1 := 6) (F := S2.2 3) (S := S103) (k := 3) (fun S => (wX6 g q1 S ++ (wX6 g q2 S2))) hC hl.1 (List.mem_of_getElem? (i := 3) rfl) (List.mem_of_getElem? (i := 4) rfl) (List.mem_of_getElem? (i := 5) rfl) (List.mem_of_getElem? (i := 6) rfl) hP hD hS rfl rfl (fun _ => rfl) (Nat.le_of_ble_eq_true rfl) (Nat.le_of_ble_eq_true rfl) dX6_copyFrom_50 h (fun S104 h H locs hP hD hS => ?_)
  refine lv_aload_n hx hb dX6_copyFrom_53 rfl (lv_at hl 1 rfl) ?_
  refine k_get (ci := 6) (k := 4) (q0 := 5) (v := .ref (q2 4)) (C := RX6) (T := TX6) (N := 5) hC uX6_copyFrom_X6 hP rfl rfl (by decide) (List.mem_of_getElem? (i := 9) rfl) rfl dX6_copyFrom_54 ?_
  refine lv_iconst (v := (0 : Int32)) hx hb dX6_copyFrom_57 (by decide) ?_
  refine lv_aload_n hx hb dX6_copyFrom_58 rfl (lv_at hl 0 rfl) ?_
  refine k_get (ci := 6) (k := 4) (q0 := 0) (v := .ref (q1 4)) (C := RX6) (T := TX6) (N := 5) hC uX6_copyFrom_X6 hP rfl rfl (by decide) (List.mem_of_getElem? (i := 9) rfl) rfl dX6_copyFrom_59 ?_
  refine lv_iconst (v := (0 : Int32)) hx hb dX6_copyFrom_62 (by decide) ?_
  refine lv_bipush (v := (6 : Int32)) hx hb dX6_copyFrom_63 (by decide) ?_
  refine k_copy (q0 := 9) (q1 := 4) (n0 := 6) (n1 := 6) (F := S2.2 4) (S := S104) (k := 4) (fun S => (wX6 g q1 S ++ (wX6 g q2 S2))) hC hl.1 (List.mem_of_getElem? (i := 3) rfl) (List.mem_of_getElem? (i := 4) rfl) (List.mem_of_getElem? (i := 5) rfl) (List.mem_of_getElem? (i := 6) rfl) hP hD hS rfl rfl (fun _ => rfl) (Nat.le_of_ble_eq_true rfl) (Nat.le_of_ble_eq_true rfl) dX6_copyFrom_65 h (fun S105 h H locs hP hD hS => ?_)
  obtain rfl := fx_i1 h
  exact Cv.ret hC hr hlk hA9 hP hD hS dX6_copyFrom_68
theorem uX5_copyFrom_X5 : ∀ w ∈ u_ws RX5 TX5 2, w ∈ wsX5_copyFrom := fun w h => List.mem_cons_of_mem _ (List.mem_append_right _ h)
abbrev RM_X5_copyFrom : Room := { frames := 1, cells := 0, slots := 0, locals := 18 }
def f_X5_copyFrom (N : Nat) (S1 : St) (S2 : St) : Option (St) :=
  fx_lt (stI S1 0 (S2.1 0)) (fun S101 =>
  fx_cpy 6 (S2.2 1) 6 S101 1 (0 : Int32) (0 : Int32) (6 : Int32) (fun S102 =>
  some S102))
set_option maxRecDepth 100000 in
set_option maxHeartbeats 4000000 in
theorem c_X5_copyFrom (l : Launch) (g : GG) (N : Nat) (q1 : Nat → Nat) (q2 : Nat → Nat) (S1 : St) (S2 : St) (F1 : St) (h : f_X5_copyFrom N S1 S2 = some F1) : Cv l yX5_copyFrom wsX5_copyFrom RM_X5_copyFrom g [.ref (q1 100), .ref (q2 100)] (wX5 g q1 S1 ++ (wX5 g q2 S2)) (wX5 g q1 F1 ++ (wX5 g q2 S2)) := by
  intro sz
  refine Met.ofC (cc := cX5_copyFrom) (maxL := 2) (ret := none) (by decide) rfl (Nat.le_of_ble_eq_true rfl) ?_
  intro p e s m below meth c hC hr hlk hsz A hA9 hA hP hD hS ls hl
  subst hsz
  have hC : Cx p s m ([.ref (q1 100), .ref (q2 100)] : List Value).toArray c RX5 cX5_copyFrom 2 wsX5_copyFrom g := hC
  have hx := hC.1.1
  have hb := hC.1.2.1
  have hml := hC.1.2.2.1
  have hown := hC.1.2.2.2.1
  have hts := hC.1.2.2.2.2
  have hl : lv_has ls 2 [(0, .ref (q1 100)), (1, .ref (q2 100))] := hl
  show W p l e RM_X5_copyFrom s m ([.ref (q1 100), .ref (q2 100)] : List Value).toArray below meth c s.heap [] 0 0 (Qv below g [.ref (q1 100), .ref (q2 100)] (wX5 g q1 S1 ++ (wX5 g q2 S2)) (wX5 g q1 F1 ++ (wX5 g q2 S2)) s) (F0 m 0 ls [])
  unfold f_X5_copyFrom at h
  refine lv_aload_n hx hb dX5_copyFrom_0 rfl (lv_at hl 0 rfl) ?_
  refine lv_aload_n hx hb dX5_copyFrom_1 rfl (lv_at hl 1 rfl) ?_
  refine k_get (ci := 5) (k := 0) (q0 := 2) (v := .int (S2.1 0)) (C := RX5) (T := TX5) (N := 2) hC uX5_copyFrom_X5 hP rfl rfl (by decide) (List.mem_of_getElem? (i := 1) rfl) rfl dX5_copyFrom_2 ?_
  refine k_put (ci := 5) (k := 0) (q0 := 0) (C := RX5) (T := TX5) (N := 2) (S2 := stI S1 0 (S2.1 0)) tyX5 (fun S => (wX5 g q1 S ++ (wX5 g q2 S2))) hC uX5_copyFrom_X5 tyX5_ok nmX5 hP hD hS rfl rfl (by decide) (List.mem_of_getElem? (i := 1) rfl) rfl (tyX5_ok 0 (by decide)) (Nat.le_of_ble_eq_true rfl) dX5_copyFrom_5 rfl h (fun S101 h H locs hP hD hS => ?_)
  refine lv_aload_n hx hb dX5_copyFrom_8 rfl (lv_at hl 1 rfl) ?_
  refine k_get (ci := 5) (k := 1) (q0 := 2) (v := .ref (q2 1)) (C := RX5) (T := TX5) (N := 2) hC uX5_copyFrom_X5 hP rfl rfl (by decide) (List.mem_of_getElem? (i := 2) rfl) rfl dX5_copyFrom_9 ?_
  refine lv_iconst (v := (0 : Int32)) hx hb dX5_copyFrom_12 (by decide) ?_
  refine lv_aload_n hx hb dX5_copyFrom_13 rfl (lv_at hl 0 rfl) ?_
  refine k_get (ci := 5) (k := 1) (q0 := 0) (v := .ref (q1 1)) (C := RX5) (T := TX5) (N := 2) hC uX5_copyFrom_X5 hP rfl rfl (by decide) (List.mem_of_getElem? (i := 2) rfl) rfl dX5_copyFrom_14 ?_
  refine lv_iconst (v := (0 : Int32)) hx hb dX5_copyFrom_17 (by decide) ?_
  refine lv_bipush (v := (6 : Int32)) hx hb dX5_copyFrom_18 (by decide) ?_
  refine k_copy (q0 := 3) (q1 := 1) (n0 := 6) (n1 := 6) (F := S2.2 1) (S := S101) (k := 1) (fun S => (wX5 g q1 S ++ (wX5 g q2 S2))) hC hl.1 (List.mem_of_getElem? (i := 3) rfl) (List.mem_of_getElem? (i := 4) rfl) (List.mem_of_getElem? (i := 5) rfl) (List.mem_of_getElem? (i := 6) rfl) hP hD hS rfl rfl (fun _ => rfl) (Nat.le_of_ble_eq_true rfl) (Nat.le_of_ble_eq_true rfl) dX5_copyFrom_20 h (fun S102 h H locs hP hD hS => ?_)
  obtain rfl := fx_i1 h
  exact Cv.ret hC hr hlk hA9 hP hD hS dX5_copyFrom_23
theorem uX0_copyFrom_X0 : ∀ w ∈ u_ws RX0 TX0 3, w ∈ wsX0_copyFrom := fun w h => List.mem_cons_of_mem _ (List.mem_append_left _ (List.mem_append_left _ (List.mem_append_left _ (List.mem_append_right _ h))))
abbrev RM_X0_copyFrom : Room := { frames := 2, cells := 0, slots := 0, locals := 39 }
def f_X0_copyFrom (N : Nat) (S2 : St) (S3 : St) (S4 : St) (S6 : St) (S7 : St) (S8 : St) : Option (St × St × St) :=
  fx_b1 (f_X3_copyFrom N S2 S6) (fun S101 =>
  fx_b1 (f_X6_copyFrom N S3 S7) (fun S102 =>
  fx_b1 (f_X5_copyFrom N S4 S8) (fun S103 =>
  some (S101, S102, S103))))
set_option maxRecDepth 100000 in
set_option maxHeartbeats 4000000 in
theorem c_X0_copyFrom (l : Launch) (g : GG) (N : Nat) (q1 : Nat → Nat) (q2 : Nat → Nat) (q3 : Nat → Nat) (q4 : Nat → Nat) (q5 : Nat → Nat) (q6 : Nat → Nat) (q7 : Nat → Nat) (q8 : Nat → Nat) (S2 : St) (S3 : St) (S4 : St) (S6 : St) (S7 : St) (S8 : St) (F2 : St) (F3 : St) (F4 : St) (h : f_X0_copyFrom N S2 S3 S4 S6 S7 S8 = some (F2, F3, F4)) : Cv l yX0_copyFrom wsX0_copyFrom RM_X0_copyFrom g [.ref (q1 100), .ref (q5 100)] (wX0 g q1 q2 q3 q4 ++ (wX3 g q2 S2 ++ (wX6 g q3 S3 ++ (wX5 g q4 S4 ++ (wX0 g q5 q6 q7 q8 ++ (wX3 g q6 S6 ++ (wX6 g q7 S7 ++ (wX5 g q8 S8)))))))) (wX0 g q1 q2 q3 q4 ++ (wX3 g q2 F2 ++ (wX6 g q3 F3 ++ (wX5 g q4 F4 ++ (wX0 g q5 q6 q7 q8 ++ (wX3 g q6 S6 ++ (wX6 g q7 S7 ++ (wX5 g q8 S8)))))))) := by
  intro sz
  refine Met.ofC (cc := cX0_copyFrom) (maxL := 2) (ret := none) (by decide) rfl (Nat.le_of_ble_eq_true rfl) ?_
  intro p e s m below meth c hC hr hlk hsz A hA9 hA hP hD hS ls hl
  subst hsz
  have hC : Cx p s m ([.ref (q1 100), .ref (q5 100)] : List Value).toArray c RX0 cX0_copyFrom 2 wsX0_copyFrom g := hC
  have hx := hC.1.1
  have hb := hC.1.2.1
  have hml := hC.1.2.2.1
  have hown := hC.1.2.2.2.1
  have hts := hC.1.2.2.2.2
  have hl : lv_has ls 2 [(0, .ref (q1 100)), (1, .ref (q5 100))] := hl
  show W p l e RM_X0_copyFrom s m ([.ref (q1 100), .ref (q5 100)] : List Value).toArray below meth c s.heap [] 0 0 (Qv below g [.ref (q1 100), .ref (q5 100)] (wX0 g q1 q2 q3 q4 ++ (wX3 g q2 S2 ++ (wX6 g q3 S3 ++ (wX5 g q4 S4 ++ (wX0 g q5 q6 q7 q8 ++ (wX3 g q6 S6 ++ (wX6 g q7 S7 ++ (wX5 g q8 S8)))))))) (wX0 g q1 q2 q3 q4 ++ (wX3 g q2 F2 ++ (wX6 g q3 F3 ++ (wX5 g q4 F4 ++ (wX0 g q5 q6 q7 q8 ++ (wX3 g q6 S6 ++ (wX6 g q7 S7 ++ (wX5 g q8 S8)))))))) s) (F0 m 0 ls [])
  unfold f_X0_copyFrom at h
  refine lv_aload_n hx hb dX0_copyFrom_0 rfl (lv_at hl 0 rfl) ?_
  refine k_get (ci := 0) (k := 0) (q0 := 0) (v := .ref (q2 100)) (C := RX0) (T := TX0) (N := 3) hC uX0_copyFrom_X0 hP rfl rfl (by decide) (List.mem_of_getElem? (i := 1) rfl) rfl dX0_copyFrom_1 ?_
  refine lv_aload_n hx hb dX0_copyFrom_4 rfl (lv_at hl 1 rfl) ?_
  refine k_get (ci := 0) (k := 0) (q0 := 14) (v := .ref (q6 100)) (C := RX0) (T := TX0) (N := 3) hC uX0_copyFrom_X0 hP rfl rfl (by decide) (List.mem_of_getElem? (i := 1) rfl) rfl dX0_copyFrom_5 ?_
  obtain ⟨S101, hc106, h⟩ := fx_b1_s h
  refine k_callVv (C := RX3) (ci := 3) (qr := 0) (n := 1) (As := [.ref (q6 100)]) (rest := []) (wc := (wX3 g q2 S2 ++ (wX3 g q6 S6))) (w1 := (wX3 g q2 S101 ++ (wX3 g q6 S6))) (ws2 := (wX0 g q1 q2 q3 q4 ++ (wX3 g q2 S101 ++ (wX6 g q3 S3 ++ (wX5 g q4 S4 ++ (wX0 g q5 q6 q7 q8 ++ (wX3 g q6 S6 ++ (wX6 g q7 S7 ++ (wX5 g q8 S8))))))))) (bytes := cX3_copyFrom) (maxL := 2) (ret := none) hC hl.1 (c_X3_copyFrom l g N q2 q6 S2 S6 S101 hc106) rfl gX0_copyFrom_X3_copyFrom (by decide +kernel) rfl rfl ⟨Nat.le_of_ble_eq_true rfl, Nat.le_of_ble_eq_true rfl⟩ rfl rfl rfl (Nat.le_of_ble_eq_true rfl) ⟨Nat.le_of_ble_eq_true rfl, Nat.le_of_ble_eq_true rfl⟩ dX0_copyFrom_8 hP hD hS hA [1, 2, 3, 4, 5, 6, 15, 16, 17, 18, 19, 20] rfl (by decide +kernel) [q2 100, q2 6, q2 7, q2 8, q2 9, q2 10, q6 100, q6 6, q6 7, q6 8, q6 9, q6 10] rfl rfl rfl [0, 7, 8, 9, 10, 11, 12, 13, 14, 21, 22, 23, 24, 25, 26, 27] (wX0 g q1 q2 q3 q4 ++ (wX6 g q3 S3 ++ (wX5 g q4 S4 ++ (wX0 g q5 q6 q7 q8 ++ (wX6 g q7 S7 ++ (wX5 g q8 S8)))))) rfl rfl (n2 := 28) rfl (by decide +kernel) (fun H locs hP hD hS => ?_)
  refine lv_aload_n hx hb dX0_copyFrom_11 rfl (lv_at hl 0 rfl) ?_
  refine k_get (ci := 0) (k := 1) (q0 := 0) (v := .ref (q3 100)) (C := RX0) (T := TX0) (N := 3) hC uX0_copyFrom_X0 hP rfl rfl (by decide) (List.mem_of_getElem? (i := 2) rfl) rfl dX0_copyFrom_12 ?_
  refine lv_aload_n hx hb dX0_copyFrom_15 rfl (lv_at hl 1 rfl) ?_
  refine k_get (ci := 0) (k := 1) (q0 := 14) (v := .ref (q7 100)) (C := RX0) (T := TX0) (N := 3) hC uX0_copyFrom_X0 hP rfl rfl (by decide) (List.mem_of_getElem? (i := 2) rfl) rfl dX0_copyFrom_16 ?_
  obtain ⟨S102, hc105, h⟩ := fx_b1_s h
  refine k_callVv (C := RX6) (ci := 6) (qr := 0) (n := 1) (As := [.ref (q7 100)]) (rest := []) (wc := (wX6 g q3 S3 ++ (wX6 g q7 S7))) (w1 := (wX6 g q3 S102 ++ (wX6 g q7 S7))) (ws2 := (wX0 g q1 q2 q3 q4 ++ (wX3 g q2 S101 ++ (wX6 g q3 S102 ++ (wX5 g q4 S4 ++ (wX0 g q5 q6 q7 q8 ++ (wX3 g q6 S6 ++ (wX6 g q7 S7 ++ (wX5 g q8 S8))))))))) (bytes := cX6_copyFrom) (maxL := 2) (ret := none) hC hl.1 (c_X6_copyFrom l g N q3 q7 S3 S7 S102 hc105) rfl gX0_copyFrom_X6_copyFrom (by decide +kernel) rfl rfl ⟨Nat.le_of_ble_eq_true rfl, Nat.le_of_ble_eq_true rfl⟩ rfl rfl rfl (Nat.le_of_ble_eq_true rfl) ⟨Nat.le_of_ble_eq_true rfl, Nat.le_of_ble_eq_true rfl⟩ dX0_copyFrom_19 hP hD hS hA [7, 8, 9, 10, 11, 21, 22, 23, 24, 25] rfl (by decide +kernel) [q3 100, q3 1, q3 2, q3 3, q3 4, q7 100, q7 1, q7 2, q7 3, q7 4] rfl rfl rfl [0, 1, 2, 3, 4, 5, 6, 12, 13, 14, 15, 16, 17, 18, 19, 20, 26, 27] (wX0 g q1 q2 q3 q4 ++ (wX3 g q2 S101 ++ (wX5 g q4 S4 ++ (wX0 g q5 q6 q7 q8 ++ (wX3 g q6 S6 ++ (wX5 g q8 S8)))))) rfl rfl (n2 := 28) rfl (by decide +kernel) (fun H locs hP hD hS => ?_)
  refine lv_aload_n hx hb dX0_copyFrom_22 rfl (lv_at hl 0 rfl) ?_
  refine k_get (ci := 0) (k := 2) (q0 := 0) (v := .ref (q4 100)) (C := RX0) (T := TX0) (N := 3) hC uX0_copyFrom_X0 hP rfl rfl (by decide) (List.mem_of_getElem? (i := 3) rfl) rfl dX0_copyFrom_23 ?_
  refine lv_aload_n hx hb dX0_copyFrom_26 rfl (lv_at hl 1 rfl) ?_
  refine k_get (ci := 0) (k := 2) (q0 := 14) (v := .ref (q8 100)) (C := RX0) (T := TX0) (N := 3) hC uX0_copyFrom_X0 hP rfl rfl (by decide) (List.mem_of_getElem? (i := 3) rfl) rfl dX0_copyFrom_27 ?_
  obtain ⟨S103, hc104, h⟩ := fx_b1_s h
  refine k_callVv (C := RX5) (ci := 5) (qr := 0) (n := 1) (As := [.ref (q8 100)]) (rest := []) (wc := (wX5 g q4 S4 ++ (wX5 g q8 S8))) (w1 := (wX5 g q4 S103 ++ (wX5 g q8 S8))) (ws2 := (wX0 g q1 q2 q3 q4 ++ (wX3 g q2 S101 ++ (wX6 g q3 S102 ++ (wX5 g q4 S103 ++ (wX0 g q5 q6 q7 q8 ++ (wX3 g q6 S6 ++ (wX6 g q7 S7 ++ (wX5 g q8 S8))))))))) (bytes := cX5_copyFrom) (maxL := 2) (ret := none) hC hl.1 (c_X5_copyFrom l g N q4 q8 S4 S8 S103 hc104) rfl gX0_copyFrom_X5_copyFrom (by decide +kernel) rfl rfl ⟨Nat.le_of_ble_eq_true rfl, Nat.le_of_ble_eq_true rfl⟩ rfl rfl rfl (Nat.le_of_ble_eq_true rfl) ⟨Nat.le_of_ble_eq_true rfl, Nat.le_of_ble_eq_true rfl⟩ dX0_copyFrom_30 hP hD hS hA [12, 13, 26, 27] rfl (by decide +kernel) [q4 100, q4 1, q8 100, q8 1] rfl rfl rfl [0, 1, 2, 3, 4, 5, 6, 7, 8, 9, 10, 11, 14, 15, 16, 17, 18, 19, 20, 21, 22, 23, 24, 25] (wX0 g q1 q2 q3 q4 ++ (wX3 g q2 S101 ++ (wX6 g q3 S102 ++ (wX0 g q5 q6 q7 q8 ++ (wX3 g q6 S6 ++ (wX6 g q7 S7)))))) rfl rfl (n2 := 28) rfl (by decide +kernel) (fun H locs hP hD hS => ?_)
  obtain ⟨rfl, rfl, rfl⟩ := fx_i3 h
  exact Cv.ret hC hr hlk hA9 hP hD hS dX0_copyFrom_33
abbrev RM_X1_at : Room := { frames := 0, cells := 0, slots := 0, locals := 0 }
def f_X1_at (N : Nat) (x0 : Int32) (x1 : Int32) : Option (Int32) :=
  some ((x0 * (6 : Int32)) + x1)
set_option maxRecDepth 100000 in
set_option maxHeartbeats 4000000 in
theorem c_X1_at (l : Launch) (g : GG) (N : Nat) (x0 : Int32) (x1 : Int32) (r : Int32) (h : f_X1_at N x0 x1 = some r) : Ci l yX1_at wsX1_at RM_X1_at g [.int x0, .int x1] ([] : va_W) ([] : va_W) r := by
  intro sz
  refine Met.ofC (cc := cX1_at) (maxL := 2) (ret := (some .int)) (by decide) rfl (Nat.le_of_ble_eq_true rfl) ?_
  intro p e s m below meth c hC hr hlk hsz A hA9 hA hP hD hS ls hl
  subst hsz
  have hC : Cx p s m ([.int x0, .int x1] : List Value).toArray c RX1 cX1_at 2 wsX1_at g := hC
  have hx := hC.1.1
  have hb := hC.1.2.1
  have hml := hC.1.2.2.1
  have hown := hC.1.2.2.2.1
  have hts := hC.1.2.2.2.2
  have hl : lv_has ls 2 [(0, .int x0), (1, .int x1)] := hl
  show W p l e RM_X1_at s m ([.int x0, .int x1] : List Value).toArray below meth c s.heap [] 0 0 (Qi below g [.int x0, .int x1] ([] : va_W) ([] : va_W) r s) (F0 m 0 ls [])
  unfold f_X1_at at h
  refine lv_iload_n hx hb dX1_at_0 rfl (lv_at hl 0 rfl) ?_
  refine lv_bipush (v := (6 : Int32)) hx hb dX1_at_1 (by decide) ?_
  refine lv_imul hx hb dX1_at_3 ?_
  refine lv_iload_n hx hb dX1_at_4 rfl (lv_at hl 1 rfl) ?_
  refine lv_iadd hx hb dX1_at_5 ?_
  obtain rfl := fx_i1 h
  exact Ci.ret hC hr hlk hA9 hP hD hS dX1_at_6
abbrev RM_X7_within : Room := { frames := 0, cells := 0, slots := 0, locals := 0 }
def f_X7_within (N : Nat) (x0 : Int32) (x1 : Int32) (x2 : Int32) : Option (Int32) :=
  (if x0 < x1 then (
  some (0 : Int32)) else (
  (if x2 < x0 then (
    some (0 : Int32)) else (
    some (1 : Int32)))))
set_option maxRecDepth 100000 in
set_option maxHeartbeats 4000000 in
theorem c_X7_within (l : Launch) (g : GG) (N : Nat) (x0 : Int32) (x1 : Int32) (x2 : Int32) (r : Int32) (h : f_X7_within N x0 x1 x2 = some r) : Ci l yX7_within wsX7_within RM_X7_within g [.int x0, .int x1, .int x2] ([] : va_W) ([] : va_W) r := by
  intro sz
  refine Met.ofC (cc := cX7_within) (maxL := 3) (ret := (some .boolean)) (by decide) rfl (Nat.le_of_ble_eq_true rfl) ?_
  intro p e s m below meth c hC hr hlk hsz A hA9 hA hP hD hS ls hl
  subst hsz
  have hC : Cx p s m ([.int x0, .int x1, .int x2] : List Value).toArray c RX7 cX7_within 3 wsX7_within g := hC
  have hx := hC.1.1
  have hb := hC.1.2.1
  have hml := hC.1.2.2.1
  have hown := hC.1.2.2.2.1
  have hts := hC.1.2.2.2.2
  have hl : lv_has ls 3 [(0, .int x0), (1, .int x1), (2, .int x2)] := hl
  show W p l e RM_X7_within s m ([.int x0, .int x1, .int x2] : List Value).toArray below meth c s.heap [] 0 0 (Qi below g [.int x0, .int x1, .int x2] ([] : va_W) ([] : va_W) r s) (F0 m 0 ls [])
  unfold f_X7_within at h
  refine lv_iload_n hx hb dX7_within_0 rfl (lv_at hl 1 rfl) ?_
  refine lv_iload_n hx hb dX7_within_1 rfl (lv_at hl 0 rfl) ?_
  refine k_icmp_gt (tgt := 14) hC dX7_within_2 (by decide) h (fun h => ?_) (fun h => ?_)
  · refine lv_iconst (v := (0 : Int32)) hx hb dX7_within_14 (by decide) ?_
    obtain rfl := fx_i1 h
    exact Ci.retz hC hr hlk rfl hA9 hP hD hS dX7_within_15
  · refine lv_iload_n hx hb dX7_within_5 rfl (lv_at hl 0 rfl) ?_
    refine lv_iload_n hx hb dX7_within_6 rfl (lv_at hl 2 rfl) ?_
    refine k_icmp_gt (tgt := 14) hC dX7_within_7 (by decide) h (fun h => ?_) (fun h => ?_)
    · refine lv_iconst (v := (0 : Int32)) hx hb dX7_within_14 (by decide) ?_
      obtain rfl := fx_i1 h
      exact Ci.retz hC hr hlk rfl hA9 hP hD hS dX7_within_15
    · refine lv_iconst (v := (1 : Int32)) hx hb dX7_within_10 (by decide) ?_
      refine lv_goto (tgt := 15) hx hb dX7_within_11 (by decide) ?_
      obtain rfl := fx_i1 h
      exact Ci.retz hC hr hlk rfl hA9 hP hD hS dX7_within_15
abbrev RM_X7_isKind : Room := { frames := 1, cells := 0, slots := 0, locals := 22 }
def f_X7_isKind (N : Nat) (x0 : Int32) : Option (Int32) :=
  fx_b1 (f_X7_within N x0 (0 : Int32) (5 : Int32)) (fun v101 =>
  fx_bz v101 (some v101))
set_option maxRecDepth 100000 in
set_option maxHeartbeats 4000000 in
theorem c_X7_isKind (l : Launch) (g : GG) (N : Nat) (x0 : Int32) (r : Int32) (h : f_X7_isKind N x0 = some r) : Ci l yX7_isKind wsX7_isKind RM_X7_isKind g [.int x0] ([] : va_W) ([] : va_W) r := by
  intro sz
  refine Met.ofC (cc := cX7_isKind) (maxL := 1) (ret := (some .boolean)) (by decide) rfl (Nat.le_of_ble_eq_true rfl) ?_
  intro p e s m below meth c hC hr hlk hsz A hA9 hA hP hD hS ls hl
  subst hsz
  have hC : Cx p s m ([.int x0] : List Value).toArray c RX7 cX7_isKind 1 wsX7_isKind g := hC
  have hx := hC.1.1
  have hb := hC.1.2.1
  have hml := hC.1.2.2.1
  have hown := hC.1.2.2.2.1
  have hts := hC.1.2.2.2.2
  have hl : lv_has ls 1 [(0, .int x0)] := hl
  show W p l e RM_X7_isKind s m ([.int x0] : List Value).toArray below meth c s.heap [] 0 0 (Qi below g [.int x0] ([] : va_W) ([] : va_W) r s) (F0 m 0 ls [])
  unfold f_X7_isKind at h
  refine lv_iload_n hx hb dX7_isKind_0 rfl (lv_at hl 0 rfl) ?_
  refine lv_iconst (v := (0 : Int32)) hx hb dX7_isKind_1 (by decide) ?_
  refine lv_iconst (v := (5 : Int32)) hx hb dX7_isKind_2 (by decide) ?_
  obtain ⟨v101, hc102, h⟩ := fx_b1_s h
  refine k_callSi0 (n := 3) (As := [.int x0, .int (0 : Int32), .int (5 : Int32)]) (rest := []) (wc := ([] : va_W)) (bytes := cX7_within) (maxL := 3) (ret := (some .boolean)) hC hl.1 (c_X7_within l g N x0 (0 : Int32) (5 : Int32) v101 hc102) rfl gX7_isKind_X7_within (by decide +kernel) ⟨Nat.le_of_ble_eq_true rfl, Nat.le_of_ble_eq_true rfl⟩ rfl rfl rfl (Nat.le_of_ble_eq_true rfl) ⟨Nat.le_of_ble_eq_true rfl, Nat.le_of_ble_eq_true rfl⟩ dX7_isKind_3 hP hD hS hA [] rfl (by decide +kernel) (fun H locs hP hD hS => ?_)
  obtain ⟨hz, h⟩ := fx_bz_s h
  obtain rfl := fx_i1 h
  exact Ci.retz hC hr hlk hz.1 hA9 hP hD hS dX7_isKind_6
theorem uX6_has_X6 : ∀ w ∈ u_ws RX6 TX6 5, w ∈ wsX6_has := fun w h => List.mem_cons_of_mem _ (List.mem_append_right _ h)
abbrev RM_X6_has : Room := { frames := 2, cells := 0, slots := 0, locals := 42 }
def f_X6_has (N : Nat) (S1 : St) (x1 : Int32) : Option (Int32) :=
  fx_b1 (f_X7_isKind N x1) (fun v101 =>
  (if v101 = 0 then (
  some (0 : Int32)) else (
  (if (((S1.1 0) >>> (x1 &&& 31)) &&& (1 : Int32)) = (1 : Int32) then (
    some (1 : Int32)) else (
    some (0 : Int32))))))
set_option maxRecDepth 100000 in
set_option maxHeartbeats 4000000 in
theorem c_X6_has (l : Launch) (g : GG) (N : Nat) (q1 : Nat → Nat) (S1 : St) (x1 : Int32) (r : Int32) (h : f_X6_has N S1 x1 = some r) : Ci l yX6_has wsX6_has RM_X6_has g [.ref (q1 100), .int x1] (wX6 g q1 S1) (wX6 g q1 S1) r := by
  intro sz
  refine Met.ofC (cc := cX6_has) (maxL := 2) (ret := (some .boolean)) (by decide) rfl (Nat.le_of_ble_eq_true rfl) ?_
  intro p e s m below meth c hC hr hlk hsz A hA9 hA hP hD hS ls hl
  subst hsz
  have hC : Cx p s m ([.ref (q1 100), .int x1] : List Value).toArray c RX6 cX6_has 2 wsX6_has g := hC
  have hx := hC.1.1
  have hb := hC.1.2.1
  have hml := hC.1.2.2.1
  have hown := hC.1.2.2.2.1
  have hts := hC.1.2.2.2.2
  have hl : lv_has ls 2 [(0, .ref (q1 100)), (1, .int x1)] := hl
  show W p l e RM_X6_has s m ([.ref (q1 100), .int x1] : List Value).toArray below meth c s.heap [] 0 0 (Qi below g [.ref (q1 100), .int x1] (wX6 g q1 S1) (wX6 g q1 S1) r s) (F0 m 0 ls [])
  unfold f_X6_has at h
  refine lv_iload_n hx hb dX6_has_0 rfl (lv_at hl 1 rfl) ?_
  obtain ⟨v101, hc102, h⟩ := fx_b1_s h
  refine k_callNi0 (n := 1) (As := [.int x1]) (rest := []) (wc := ([] : va_W)) (bytes := cX7_isKind) (maxL := 1) (ret := (some .boolean)) hC hl.1 (c_X7_isKind l g N x1 v101 hc102) rfl gX6_has_X7_isKind_n34 (List.mem_of_getElem? (i := 11) rfl) (List.mem_of_getElem? (i := 3) rfl) (List.mem_of_getElem? (i := 2) rfl) (by decide +kernel) ⟨Nat.le_of_ble_eq_true rfl, Nat.le_of_ble_eq_true rfl⟩ rfl rfl rfl (Nat.le_of_ble_eq_true rfl) ⟨Nat.le_of_ble_eq_true rfl, Nat.le_of_ble_eq_true rfl⟩ dX6_has_1 hP hD hS hA [] rfl (by decide +kernel) (fun H locs hP hD hS => ?_)
  refine k_if_eq (tgt := 23) hC dX6_has_4 (by decide) h (fun h => ?_) (fun h => ?_)
  · refine lv_iconst (v := (0 : Int32)) hx hb dX6_has_23 (by decide) ?_
    obtain rfl := fx_i1 h
    exact Ci.retz hC hr hlk rfl hA9 hP hD hS dX6_has_24
  · refine lv_aload_n hx hb dX6_has_7 rfl (lv_at hl 0 rfl) ?_
    refine k_get (ci := 6) (k := 0) (q0 := 0) (v := .int (S1.1 0)) (C := RX6) (T := TX6) (N := 5) hC uX6_has_X6 hP rfl rfl (by decide) (List.mem_of_getElem? (i := 1) rfl) rfl dX6_has_8 ?_
    refine lv_iload_n hx hb dX6_has_11 rfl (lv_at hl 1 rfl) ?_
    refine lv_ishr hx hb dX6_has_12 ?_
    refine lv_iconst (v := (1 : Int32)) hx hb dX6_has_13 (by decide) ?_
    refine lv_iand hx hb dX6_has_14 ?_
    refine lv_iconst (v := (1 : Int32)) hx hb dX6_has_15 (by decide) ?_
    refine k_icmp_ne (tgt := 23) hC dX6_has_16 (by decide) h (fun h => ?_) (fun h => ?_)
    · refine lv_iconst (v := (0 : Int32)) hx hb dX6_has_23 (by decide) ?_
      obtain rfl := fx_i1 h
      exact Ci.retz hC hr hlk rfl hA9 hP hD hS dX6_has_24
    · refine lv_iconst (v := (1 : Int32)) hx hb dX6_has_19 (by decide) ?_
      refine lv_goto (tgt := 24) hx hb dX6_has_20 (by decide) ?_
      obtain rfl := fx_i1 h
      exact Ci.retz hC hr hlk rfl hA9 hP hD hS dX6_has_24
theorem uX1_insert_X1 : ∀ w ∈ u_ws RX1 TX1 14, w ∈ wsX1_insert := fun w h => List.mem_cons_of_mem _ (List.mem_append_right _ h)
abbrev RM_X1_insert : Room := { frames := 0, cells := 0, slots := 0, locals := 0 }
def bd_X1_insert_5 (N : Nat) (x1 : Int32) (x2 : Int32) (S1 : St) (rec : (Int32 × St) → Option (Int32 × St)) : Option (Int32 × St) :=
  (if x2 ≤ 0 then (
    some (x2, S1)) else (
    fx_ald 6 (S1.2 1) (x2 - (1 : Int32)) (fun v101 =>
      (if v101 ≤ x1 then (
      some (x2, S1)) else (
      fx_ald 6 (S1.2 1) (x2 - (1 : Int32)) (fun v102 =>
        fx_ast 6 S1 1 x2 v102 (fun S103 =>
        fx_lt (x2 + (-1 : Int32)) (fun x104 =>
        rec (x104, S103)))))))))
def lf_X1_insert_5 (N : Nat) (x1 : Int32) : (Int32 × St) → ((Int32 × St) → Option (Int32 × St)) → Option (Int32 × St) := fun x rec => bd_X1_insert_5 N x1 x.1 x.2 rec
set_option maxRecDepth 100000 in
set_option maxHeartbeats 4000000 in
theorem lw_X1_insert_5 {p : Program} {l : Launch} {e : Env} {s : State} {m : MethodId} {args : Array Value} {below : List Frame} {meth : Method} {c : Code} {Q : State → Prop} {A : Nat → Prop} {H0 : Heap} {g : GG} (hC : Cx p s m args c RX1 cX1_insert 3 wsX1_insert g) (hA : ∀ q : Nat, H0.size ≤ q → A q) (N : Nat) (q1 : Nat → Nat) (x1 : Int32) : ∀ (n : Nat) (x2 : Int32) (S1 : St) (o : Int32 × St), fx_it (lf_X1_insert_5 N x1) n (x2, S1) = some o → ∀ (H : Heap) (locs : List Loc) (ls : Array Slot), va_P g.1 vwCl (wX1 g q1 S1) H → va_D A (wX1 g q1 S1) → va_S A H0 H locs → lv_has ls 3 [(0, .ref (q1 100)), (1, .int x1), (2, .int x2)] → (∀ (z0 : Int32) (Z0 : St), o = (z0, Z0) → ∀ (H : Heap) (locs : List Loc) (ls : Array Slot), va_P g.1 vwCl (wX1 g q1 Z0) H → va_D A (wX1 g q1 Z0) → va_S A H0 H locs → lv_has ls 3 [(0, .ref (q1 100)), (1, .int x1), (2, .int z0)] → W p l e RM_X1_insert s m args below meth c H locs 0 0 Q (F0 m 41 ls [])) → W p l e RM_X1_insert s m args below meth c H locs 0 0 Q (F0 m 5 ls []) := by
  have hx := hC.1.1
  have hb := hC.1.2.1
  have hml := hC.1.2.2.1
  have hown := hC.1.2.2.2.1
  have hts := hC.1.2.2.2.2
  intro n
  induction n with
  | zero => intro x2 S1 o h; cases h
  | succ n ih =>
    intro x2 S1 o h H locs ls hP hD hS hl k0
    have h : bd_X1_insert_5 N x1 x2 S1 (fx_it (lf_X1_insert_5 N x1) n) = some o := h
    unfold bd_X1_insert_5 at h
    refine lv_iload_n hx hb dX1_insert_5 rfl (lv_at hl 2 rfl) ?_
    refine k_if_le (tgt := 41) hC dX1_insert_6 (by decide) h (fun h => ?_) (fun h => ?_)
    · exact k0 x2 S1 (Option.some.inj h).symm _ _ _ hP hD hS (lv_sub hl [0, 1, 2] rfl)
    · refine lv_aload_n hx hb dX1_insert_9 rfl (lv_at hl 0 rfl) ?_
      refine k_get (ci := 1) (k := 1) (q0 := 0) (v := .ref (q1 1)) (C := RX1) (T := TX1) (N := 14) hC uX1_insert_X1 hP rfl rfl (by decide) (List.mem_of_getElem? (i := 2) rfl) rfl dX1_insert_10 ?_
      refine lv_iload_n hx hb dX1_insert_13 rfl (lv_at hl 2 rfl) ?_
      refine lv_iconst (v := (1 : Int32)) hx hb dX1_insert_14 (by decide) ?_
      refine lv_isub hx hb dX1_insert_15 ?_
      refine k_ald (q0 := 1) (n := 6) (F := S1.2 1) hC hP rfl dX1_insert_16 h (fun v101 h => ?_)
      refine lv_iload_n hx hb dX1_insert_17 rfl (lv_at hl 1 rfl) ?_
      refine k_icmp_le (tgt := 41) hC dX1_insert_18 (by decide) h (fun h => ?_) (fun h => ?_)
      · exact k0 x2 S1 (Option.some.inj h).symm _ _ _ hP hD hS (lv_sub hl [0, 1, 2] rfl)
      · refine lv_aload_n hx hb dX1_insert_21 rfl (lv_at hl 0 rfl) ?_
        refine k_get (ci := 1) (k := 1) (q0 := 0) (v := .ref (q1 1)) (C := RX1) (T := TX1) (N := 14) hC uX1_insert_X1 hP rfl rfl (by decide) (List.mem_of_getElem? (i := 2) rfl) rfl dX1_insert_22 ?_
        refine lv_iload_n hx hb dX1_insert_25 rfl (lv_at hl 2 rfl) ?_
        refine lv_aload_n hx hb dX1_insert_26 rfl (lv_at hl 0 rfl) ?_
        refine k_get (ci := 1) (k := 1) (q0 := 0) (v := .ref (q1 1)) (C := RX1) (T := TX1) (N := 14) hC uX1_insert_X1 hP rfl rfl (by decide) (List.mem_of_getElem? (i := 2) rfl) rfl dX1_insert_27 ?_
        refine lv_iload_n hx hb dX1_insert_30 rfl (lv_at hl 2 rfl) ?_
        refine lv_iconst (v := (1 : Int32)) hx hb dX1_insert_31 (by decide) ?_
        refine lv_isub hx hb dX1_insert_32 ?_
        refine k_ald (q0 := 1) (n := 6) (F := S1.2 1) hC hP rfl dX1_insert_33 h (fun v102 h => ?_)
        refine k_ast (q0 := 1) (n := 6) (k := 1) (S := S1) (fun S => (wX1 g q1 S)) hC hP hD hS rfl (fun _ => rfl) dX1_insert_34 h (fun S103 h H locs hP hD hS => ?_)
        refine k_iinc (v := (-1 : Int32)) (lv' := fun X => [(2, .int X), (0, .ref (q1 100)), (1, .int x1)]) hC dX1_insert_35 hl (k := 2) rfl (by decide) (by decide) (fun _ => rfl) h (fun x104 h ls hl => ?_)
        refine lv_goto (tgt := 5) hx hb dX1_insert_38 (by decide) ?_
        exact ih x104 S103 o h _ _ _ hP hD hS (lv_sub hl [1, 2, 0] rfl) k0
def f_X1_insert (N : Nat) (S1 : St) (x1 : Int32) : Option (St) :=
  fx_b2 (fx_it (lf_X1_insert_5 N x1) N ((S1.1 0), S1)) (fun x101 S102 =>
  fx_ast 6 S102 1 x101 x1 (fun S104 =>
    fx_lt (stI S104 0 ((S104.1 0) + (1 : Int32))) (fun S105 =>
    some S105)))
set_option maxRecDepth 100000 in
set_option maxHeartbeats 4000000 in
theorem c_X1_insert (l : Launch) (g : GG) (N : Nat) (q1 : Nat → Nat) (S1 : St) (x1 : Int32) (F1 : St) (h : f_X1_insert N S1 x1 = some F1) : Cv l yX1_insert wsX1_insert RM_X1_insert g [.ref (q1 100), .int x1] (wX1 g q1 S1) (wX1 g q1 F1) := by
  intro sz
  refine Met.ofC (cc := cX1_insert) (maxL := 3) (ret := none) (by decide) rfl (Nat.le_of_ble_eq_true rfl) ?_
  intro p e s m below meth c hC hr hlk hsz A hA9 hA hP hD hS ls hl
  subst hsz
  have hC : Cx p s m ([.ref (q1 100), .int x1] : List Value).toArray c RX1 cX1_insert 3 wsX1_insert g := hC
  have hx := hC.1.1
  have hb := hC.1.2.1
  have hml := hC.1.2.2.1
  have hown := hC.1.2.2.2.1
  have hts := hC.1.2.2.2.2
  have hl : lv_has ls 3 [(0, .ref (q1 100)), (1, .int x1)] := hl
  show W p l e RM_X1_insert s m ([.ref (q1 100), .int x1] : List Value).toArray below meth c s.heap [] 0 0 (Qv below g [.ref (q1 100), .int x1] (wX1 g q1 S1) (wX1 g q1 F1) s) (F0 m 0 ls [])
  unfold f_X1_insert at h
  refine lv_aload_n hx hb dX1_insert_0 rfl (lv_at hl 0 rfl) ?_
  refine k_get (ci := 1) (k := 0) (q0 := 0) (v := .int (S1.1 0)) (C := RX1) (T := TX1) (N := 14) hC uX1_insert_X1 hP rfl rfl (by decide) (List.mem_of_getElem? (i := 1) rfl) rfl dX1_insert_1 ?_
  refine lv_istore_n (lv' := [(2, .int (S1.1 0)), (0, .ref (q1 100)), (1, .int x1)]) hx hb dX1_insert_4 rfl hl (by decide) rfl (fun ls hl => ?_)
  obtain ⟨x101, S102, ho103, h⟩ := fx_b2_s h
  refine lw_X1_insert_5 hC hA N q1 x1 N (S1.1 0) S1  (x101, S102) ho103 _ _ _ hP hD hS (lv_sub hl [1, 2, 0] rfl) ?_
  · intro y0 y1 he H locs ls hP hD hS hl
    obtain ⟨rfl, rfl⟩ := fx_j2 he
    refine lv_aload_n hx hb dX1_insert_41 rfl (lv_at hl 0 rfl) ?_
    refine k_get (ci := 1) (k := 1) (q0 := 0) (v := .ref (q1 1)) (C := RX1) (T := TX1) (N := 14) hC uX1_insert_X1 hP rfl rfl (by decide) (List.mem_of_getElem? (i := 2) rfl) rfl dX1_insert_42 ?_
    refine lv_iload_n hx hb dX1_insert_45 rfl (lv_at hl 2 rfl) ?_
    refine lv_iload_n hx hb dX1_insert_46 rfl (lv_at hl 1 rfl) ?_
    refine k_ast (q0 := 1) (n := 6) (k := 1) (S := S102) (fun S => (wX1 g q1 S)) hC hP hD hS rfl (fun _ => rfl) dX1_insert_47 h (fun S104 h H locs hP hD hS => ?_)
    refine lv_aload_n hx hb dX1_insert_48 rfl (lv_at hl 0 rfl) ?_
    refine lv_dup hx hb dX1_insert_49 rfl ?_
    refine k_get (ci := 1) (k := 0) (q0 := 0) (v := .int (S104.1 0)) (C := RX1) (T := TX1) (N := 14) hC uX1_insert_X1 hP rfl rfl (by decide) (List.mem_of_getElem? (i := 1) rfl) rfl dX1_insert_50 ?_
    refine lv_iconst (v := (1 : Int32)) hx hb dX1_insert_53 (by decide) ?_
    refine lv_iadd hx hb dX1_insert_54 ?_
    refine k_put (ci := 1) (k := 0) (q0 := 0) (C := RX1) (T := TX1) (N := 14) (S2 := stI S104 0 ((S104.1 0) + (1 : Int32))) tyX1 (fun S => (wX1 g q1 S)) hC uX1_insert_X1 tyX1_ok nmX1 hP hD hS rfl rfl (by decide) (List.mem_of_getElem? (i := 1) rfl) rfl (tyX1_ok 0 (by decide)) (Nat.le_of_ble_eq_true rfl) dX1_insert_55 rfl h (fun S105 h H locs hP hD hS => ?_)
    obtain rfl := fx_i1 h
    exact Cv.ret hC hr hlk hA9 hP hD hS dX1_insert_58
theorem uX1_read_X1 : ∀ w ∈ u_ws RX1 TX1 14, w ∈ wsX1_read := fun w h => List.mem_cons_of_mem _ (List.mem_append_left _ (List.mem_append_right _ h))
abbrev RM_X1_read : Room := { frames := 3, cells := 0, slots := 0, locals := 63 }
def bd_X1_read_10 (N : Nat) (S2 : St) (x3 : Int32) (x4 : Int32) (S1 : St) (rec : (Int32 × Int32 × St) → Option (Nat × St)) : Option (Nat × St) :=
  (if (6 : Int32) ≤ x4 then (
    some (1, S1)) else (
    (if x3 ≤ 0 then (
      some (1, S1)) else (
      fx_lt ((x3 - x3 / (10 : Int32) * (10 : Int32)) - (1 : Int32)) (fun x101 =>
        fx_b1 (f_X6_has N S2 x101) (fun v102 =>
        (if v102 = 0 then (
        some (0, S1)) else (
        fx_b1 (f_X1_insert N S1 x101) (fun S103 =>
          fx_lt (x3 / (10 : Int32)) (fun x104 =>
          fx_lt (x4 + (1 : Int32)) (fun x105 =>
          rec (x104, x105, S103))))))))))))
def lf_X1_read_10 (N : Nat) (S2 : St) : (Int32 × Int32 × St) → ((Int32 × Int32 × St) → Option (Nat × St)) → Option (Nat × St) := fun x rec => bd_X1_read_10 N S2 x.1 x.2.1 x.2.2 rec
set_option maxRecDepth 100000 in
set_option maxHeartbeats 4000000 in
theorem lw_X1_read_10 {p : Program} {l : Launch} {e : Env} {s : State} {m : MethodId} {args : Array Value} {below : List Frame} {meth : Method} {c : Code} {Q : State → Prop} {A : Nat → Prop} {H0 : Heap} {g : GG} (hC : Cx p s m args c RX1 cX1_read 6 wsX1_read g) (hA : ∀ q : Nat, H0.size ≤ q → A q) (N : Nat) (q1 : Nat → Nat) (q2 : Nat → Nat) (S2 : St) : ∀ (n : Nat) (x3 : Int32) (x4 : Int32) (S1 : St) (o : Nat × St), fx_it (lf_X1_read_10 N S2) n (x3, x4, S1) = some o → ∀ (H : Heap) (locs : List Loc) (ls : Array Slot), va_P g.1 vwCl (wX1 g q1 S1 ++ (wX6 g q2 S2)) H → va_D A (wX1 g q1 S1 ++ (wX6 g q2 S2)) → va_S A H0 H locs → lv_has ls 6 [(0, .ref (q1 100)), (2, .ref (q2 100)), (3, .int x3), (4, .int x4)] → (∀ (Z0 : St), o = (0, Z0) → ∀ (H : Heap) (locs : List Loc) (ls : Array Slot), va_P g.1 vwCl (wX1 g q1 Z0 ++ (wX6 g q2 S2)) H → va_D A (wX1 g q1 Z0 ++ (wX6 g q2 S2)) → va_S A H0 H locs → lv_has ls 6 [] → W p l e RM_X1_read s m args below meth c H locs 0 0 Q (F0 m 38 ls [])) → (∀ (Z0 : St), o = (1, Z0) → ∀ (H : Heap) (locs : List Loc) (ls : Array Slot), va_P g.1 vwCl (wX1 g q1 Z0 ++ (wX6 g q2 S2)) H → va_D A (wX1 g q1 Z0 ++ (wX6 g q2 S2)) → va_S A H0 H locs → lv_has ls 6 [] → W p l e RM_X1_read s m args below meth c H locs 0 0 Q (F0 m 57 ls [])) → W p l e RM_X1_read s m args below meth c H locs 0 0 Q (F0 m 10 ls []) := by
  have hx := hC.1.1
  have hb := hC.1.2.1
  have hml := hC.1.2.2.1
  have hown := hC.1.2.2.2.1
  have hts := hC.1.2.2.2.2
  intro n
  induction n with
  | zero => intro x3 x4 S1 o h; cases h
  | succ n ih =>
    intro x3 x4 S1 o h H locs ls hP hD hS hl k0 k1
    have h : bd_X1_read_10 N S2 x3 x4 S1 (fx_it (lf_X1_read_10 N S2) n) = some o := h
    unfold bd_X1_read_10 at h
    refine lv_iload hx hb dX1_read_10 (lv_at hl 3 rfl) ?_
    refine lv_bipush (v := (6 : Int32)) hx hb dX1_read_12 (by decide) ?_
    refine k_icmp_ge (tgt := 57) hC dX1_read_14 (by decide) h (fun h => ?_) (fun h => ?_)
    · exact k1 S1 (Option.some.inj h).symm _ _ _ hP hD hS (lv_sub hl [] rfl)
    · refine lv_iload_n hx hb dX1_read_17 rfl (lv_at hl 2 rfl) ?_
      refine k_if_le (tgt := 57) hC dX1_read_18 (by decide) h (fun h => ?_) (fun h => ?_)
      · exact k1 S1 (Option.some.inj h).symm _ _ _ hP hD hS (lv_sub hl [] rfl)
      · refine lv_iload_n hx hb dX1_read_21 rfl (lv_at hl 2 rfl) ?_
        refine lv_bipush (v := (10 : Int32)) hx hb dX1_read_22 (by decide) ?_
        refine lv_irem hx hb dX1_read_24 (by decide) ?_
        refine lv_iconst (v := (1 : Int32)) hx hb dX1_read_25 (by decide) ?_
        refine lv_isub hx hb dX1_read_26 ?_
        refine k_topi h (fun x101 h => ?_)
        refine lv_istore (lv' := [(5, .int x101), (0, .ref (q1 100)), (2, .ref (q2 100)), (3, .int x3), (4, .int x4)]) hx hb dX1_read_27 hl (by decide) rfl (fun ls hl => ?_)
        refine lv_aload_n hx hb dX1_read_29 rfl (lv_at hl 2 rfl) ?_
        refine lv_iload hx hb dX1_read_30 (lv_at hl 0 rfl) ?_
        obtain ⟨v102, hc107, h⟩ := fx_b1_s h
        refine k_callVi0 (C := RX6) (ci := 6) (qr := 0) (n := 1) (As := [.int x101]) (rest := []) (wc := (wX6 g q2 S2)) (bytes := cX6_has) (maxL := 2) (ret := (some .boolean)) hC hl.1 (c_X6_has l g N q2 S2 x101 v102 hc107) rfl gX1_read_X6_has (by decide +kernel) rfl rfl ⟨Nat.le_of_ble_eq_true rfl, Nat.le_of_ble_eq_true rfl⟩ rfl rfl rfl (Nat.le_of_ble_eq_true rfl) ⟨Nat.le_of_ble_eq_true rfl, Nat.le_of_ble_eq_true rfl⟩ dX1_read_32 hP hD hS hA [8, 9, 10, 11, 12] rfl (by decide +kernel) (fun H locs hP hD hS => ?_)
        refine k_if_ne (tgt := 40) hC dX1_read_35 (by decide) h (fun h => ?_) (fun h => ?_)
        · refine lv_aload_n hx hb dX1_read_40 rfl (lv_at hl 1 rfl) ?_
          refine lv_iload hx hb dX1_read_41 (lv_at hl 0 rfl) ?_
          obtain ⟨S103, hc106, h⟩ := fx_b1_s h
          refine k_callVv (C := RX1) (ci := 1) (qr := 0) (n := 1) (As := [.int x101]) (rest := []) (wc := (wX1 g q1 S1)) (w1 := (wX1 g q1 S103)) (ws2 := (wX1 g q1 S103 ++ (wX6 g q2 S2))) (bytes := cX1_insert) (maxL := 3) (ret := none) hC hl.1 (c_X1_insert l g N q1 S1 x101 S103 hc106) rfl gX1_read_X1_insert (by decide +kernel) rfl rfl ⟨Nat.le_of_ble_eq_true rfl, Nat.le_of_ble_eq_true rfl⟩ rfl rfl rfl (Nat.le_of_ble_eq_true rfl) ⟨Nat.le_of_ble_eq_true rfl, Nat.le_of_ble_eq_true rfl⟩ dX1_read_43 hP hD hS hA [0, 1, 2, 3, 4, 5, 6, 7] rfl (by decide +kernel) [q1 100, q1 1, q1 2, q1 3, q1 4, q1 8, q1 9, q1 10] rfl rfl rfl [8, 9, 10, 11, 12] (wX6 g q2 S2) rfl rfl (n2 := 13) rfl (by decide +kernel) (fun H locs hP hD hS => ?_)
          refine lv_iload_n hx hb dX1_read_46 rfl (lv_at hl 3 rfl) ?_
          refine lv_bipush (v := (10 : Int32)) hx hb dX1_read_47 (by decide) ?_
          refine lv_idiv hx hb dX1_read_49 (by decide) ?_
          refine k_topi h (fun x104 h => ?_)
          refine lv_istore_n (lv' := [(3, .int x104), (5, .int x101), (0, .ref (q1 100)), (2, .ref (q2 100)), (4, .int x4)]) hx hb dX1_read_50 rfl hl (by decide) rfl (fun ls hl => ?_)
          refine k_iinc (v := (1 : Int32)) (lv' := fun X => [(4, .int X), (3, .int x104), (5, .int x101), (0, .ref (q1 100)), (2, .ref (q2 100))]) hC dX1_read_51 hl (k := 4) rfl (by decide) (by decide) (fun _ => rfl) h (fun x105 h ls hl => ?_)
          refine lv_goto (tgt := 10) hx hb dX1_read_54 (by decide) ?_
          exact ih x104 x105 S103 o h _ _ _ hP hD hS (lv_sub hl [3, 4, 1, 0] rfl) k0 k1
        · exact k0 S1 (Option.some.inj h).symm _ _ _ hP hD hS (lv_sub hl [] rfl)
def f_X1_read (N : Nat) (S1 : St) (S2 : St) (x1 : Int32) : Option (Int32 × St) :=
  fx_lt (stI S1 0 (0 : Int32)) (fun S101 =>
  fx_b2 (fx_it (lf_X1_read_10 N S2) N (x1, (0 : Int32), S101)) (fun t102 S103 =>
  fx_t2 t102 (some ((0 : Int32), S103)) (some ((1 : Int32), S103))))
set_option maxRecDepth 100000 in
set_option maxHeartbeats 4000000 in
theorem c_X1_read (l : Launch) (g : GG) (N : Nat) (q1 : Nat → Nat) (q2 : Nat → Nat) (S1 : St) (S2 : St) (x1 : Int32) (r : Int32) (F1 : St) (h : f_X1_read N S1 S2 x1 = some (r, F1)) : Ci l yX1_read wsX1_read RM_X1_read g [.ref (q1 100), .int x1, .ref (q2 100)] (wX1 g q1 S1 ++ (wX6 g q2 S2)) (wX1 g q1 F1 ++ (wX6 g q2 S2)) r := by
  intro sz
  refine Met.ofC (cc := cX1_read) (maxL := 6) (ret := (some .boolean)) (by decide) rfl (Nat.le_of_ble_eq_true rfl) ?_
  intro p e s m below meth c hC hr hlk hsz A hA9 hA hP hD hS ls hl
  subst hsz
  have hC : Cx p s m ([.ref (q1 100), .int x1, .ref (q2 100)] : List Value).toArray c RX1 cX1_read 6 wsX1_read g := hC
  have hx := hC.1.1
  have hb := hC.1.2.1
  have hml := hC.1.2.2.1
  have hown := hC.1.2.2.2.1
  have hts := hC.1.2.2.2.2
  have hl : lv_has ls 6 [(0, .ref (q1 100)), (1, .int x1), (2, .ref (q2 100))] := hl
  show W p l e RM_X1_read s m ([.ref (q1 100), .int x1, .ref (q2 100)] : List Value).toArray below meth c s.heap [] 0 0 (Qi below g [.ref (q1 100), .int x1, .ref (q2 100)] (wX1 g q1 S1 ++ (wX6 g q2 S2)) (wX1 g q1 F1 ++ (wX6 g q2 S2)) r s) (F0 m 0 ls [])
  unfold f_X1_read at h
  refine lv_aload_n hx hb dX1_read_0 rfl (lv_at hl 0 rfl) ?_
  refine lv_iconst (v := (0 : Int32)) hx hb dX1_read_1 (by decide) ?_
  refine k_put (ci := 1) (k := 0) (q0 := 0) (C := RX1) (T := TX1) (N := 14) (S2 := stI S1 0 (0 : Int32)) tyX1 (fun S => (wX1 g q1 S ++ (wX6 g q2 S2))) hC uX1_read_X1 tyX1_ok nmX1 hP hD hS rfl rfl (by decide) (List.mem_of_getElem? (i := 1) rfl) rfl (tyX1_ok 0 (by decide)) (Nat.le_of_ble_eq_true rfl) dX1_read_2 rfl h (fun S101 h H locs hP hD hS => ?_)
  refine lv_iload_n hx hb dX1_read_5 rfl (lv_at hl 1 rfl) ?_
  refine lv_istore_n (lv' := [(3, .int x1), (0, .ref (q1 100)), (1, .int x1), (2, .ref (q2 100))]) hx hb dX1_read_6 rfl hl (by decide) rfl (fun ls hl => ?_)
  refine lv_iconst (v := (0 : Int32)) hx hb dX1_read_7 (by decide) ?_
  refine lv_istore (lv' := [(4, .int (0 : Int32)), (3, .int x1), (0, .ref (q1 100)), (1, .int x1), (2, .ref (q2 100))]) hx hb dX1_read_8 hl (by decide) rfl (fun ls hl => ?_)
  obtain ⟨t102, S103, ho104, h⟩ := fx_b2_s h
  refine lw_X1_read_10 hC hA N q1 q2 S2 N x1 (0 : Int32) S101  (t102, S103) ho104 _ _ _ hP hD hS (lv_sub hl [2, 4, 1, 0] rfl) ?_ ?_
  · intro y0 he H locs ls hP hD hS hl
    obtain ⟨rfl, rfl⟩ := fx_j2 he
    have h := fx_tg2_0 h
    refine lv_iconst (v := (0 : Int32)) hx hb dX1_read_38 (by decide) ?_
    obtain ⟨rfl, rfl⟩ := fx_i2 h
    exact Ci.retz hC hr hlk rfl hA9 hP hD hS dX1_read_39
  · intro y0 he H locs ls hP hD hS hl
    obtain ⟨rfl, rfl⟩ := fx_j2 he
    have h := fx_tg2_1 h
    refine lv_iconst (v := (1 : Int32)) hx hb dX1_read_57 (by decide) ?_
    obtain ⟨rfl, rfl⟩ := fx_i2 h
    exact Ci.retz hC hr hlk rfl hA9 hP hD hS dX1_read_58
abbrev RM_X7_bakedBehind : Room := { frames := 1, cells := 0, slots := 0, locals := 13 }
def f_X7_bakedBehind (N : Nat) (x0 : Int32) (x1 : Int32) (x2 : Int32) : Option (Int32) :=
  (if 0 < x0 then (
  fx_b1 ((if x1 ≤ 0 then (
    some x2) else (
    fx_nz x1 (
      fx_lt (if (((x0 + x1) - (1 : Int32)) / x1) < x2 then (((x0 + x1) - (1 : Int32)) / x1) else x2) (fun x104 =>
      some x104)))) : Option (Int32)) (fun x101 =>
    some ((x101 * x0) - (x1 * ((x101 * (x101 - (1 : Int32))) / (2 : Int32)))))) else (
  some (0 : Int32)))
set_option maxRecDepth 100000 in
set_option maxHeartbeats 4000000 in
theorem c_X7_bakedBehind (l : Launch) (g : GG) (N : Nat) (x0 : Int32) (x1 : Int32) (x2 : Int32) (r : Int32) (h : f_X7_bakedBehind N x0 x1 x2 = some r) : Ci l yX7_bakedBehind wsX7_bakedBehind RM_X7_bakedBehind g [.int x0, .int x1, .int x2] ([] : va_W) ([] : va_W) r := by
  intro sz
  refine Met.ofC (cc := cX7_bakedBehind) (maxL := 4) (ret := (some .int)) (by decide) rfl (Nat.le_of_ble_eq_true rfl) ?_
  intro p e s m below meth c hC hr hlk hsz A hA9 hA hP hD hS ls hl
  subst hsz
  have hC : Cx p s m ([.int x0, .int x1, .int x2] : List Value).toArray c RX7 cX7_bakedBehind 4 wsX7_bakedBehind g := hC
  have hx := hC.1.1
  have hb := hC.1.2.1
  have hml := hC.1.2.2.1
  have hown := hC.1.2.2.2.1
  have hts := hC.1.2.2.2.2
  have hl : lv_has ls 4 [(0, .int x0), (1, .int x1), (2, .int x2)] := hl
  show W p l e RM_X7_bakedBehind s m ([.int x0, .int x1, .int x2] : List Value).toArray below meth c s.heap [] 0 0 (Qi below g [.int x0, .int x1, .int x2] ([] : va_W) ([] : va_W) r s) (F0 m 0 ls [])
  unfold f_X7_bakedBehind at h
  refine lv_iload_n hx hb dX7_bakedBehind_0 rfl (lv_at hl 0 rfl) ?_
  refine k_if_gt (tgt := 6) hC dX7_bakedBehind_1 (by decide) h (fun h => ?_) (fun h => ?_)
  · refine lv_iload_n hx hb dX7_bakedBehind_6 rfl (lv_at hl 2 rfl) ?_
    refine lv_istore_n (lv' := [(3, .int x2), (0, .int x0), (1, .int x1), (2, .int x2)]) hx hb dX7_bakedBehind_7 rfl hl (by decide) rfl (fun ls hl => ?_)
    refine lv_iload_n hx hb dX7_bakedBehind_8 rfl (lv_at hl 2 rfl) ?_
    obtain ⟨x101, hv102, h⟩ := fx_b1_s h
    have K103 : ∀ (H : Heap) (locs : List Loc) (ls : Array Slot), va_P g.1 vwCl ([] : va_W) H → va_D A ([] : va_W) → va_S A s.heap H locs → lv_has ls 4 [(0, .int x0), (1, .int x1), (3, .int x101)] → W p l e RM_X7_bakedBehind s m ([.int x0, .int x1, .int x2] : List Value).toArray below meth c H locs 0 0 (Qi below g [.int x0, .int x1, .int x2] ([] : va_W) ([] : va_W) r s) (F0 m 24 ls []) := by
      intro H locs ls hP hD hS hl
      refine lv_iload_n hx hb dX7_bakedBehind_24 rfl (lv_at hl 2 rfl) ?_
      refine lv_iload_n hx hb dX7_bakedBehind_25 rfl (lv_at hl 0 rfl) ?_
      refine lv_imul hx hb dX7_bakedBehind_26 ?_
      refine lv_iload_n hx hb dX7_bakedBehind_27 rfl (lv_at hl 1 rfl) ?_
      refine lv_iload_n hx hb dX7_bakedBehind_28 rfl (lv_at hl 2 rfl) ?_
      refine lv_iload_n hx hb dX7_bakedBehind_29 rfl (lv_at hl 2 rfl) ?_
      refine lv_iconst (v := (1 : Int32)) hx hb dX7_bakedBehind_30 (by decide) ?_
      refine lv_isub hx hb dX7_bakedBehind_31 ?_
      refine lv_imul hx hb dX7_bakedBehind_32 ?_
      refine lv_iconst (v := (2 : Int32)) hx hb dX7_bakedBehind_33 (by decide) ?_
      refine lv_idiv hx hb dX7_bakedBehind_34 (by decide) ?_
      refine lv_imul hx hb dX7_bakedBehind_35 ?_
      refine lv_isub hx hb dX7_bakedBehind_36 ?_
      obtain rfl := fx_i1 h
      exact Ci.ret hC hr hlk hA9 hP hD hS dX7_bakedBehind_37
    refine k_if_le (tgt := 24) hC dX7_bakedBehind_9 (by decide) hv102 (fun hv102 => ?_) (fun hv102 => ?_)
    · obtain rfl := fx_i1 hv102
      exact K103 _ _ _ hP hD hS (lv_sub hl [1, 2, 0] rfl)
    · refine lv_iload_n hx hb dX7_bakedBehind_12 rfl (lv_at hl 3 rfl) ?_
      refine lv_iload_n hx hb dX7_bakedBehind_13 rfl (lv_at hl 1 rfl) ?_
      refine lv_iload_n hx hb dX7_bakedBehind_14 rfl (lv_at hl 2 rfl) ?_
      refine lv_iadd hx hb dX7_bakedBehind_15 ?_
      refine lv_iconst (v := (1 : Int32)) hx hb dX7_bakedBehind_16 (by decide) ?_
      refine lv_isub hx hb dX7_bakedBehind_17 ?_
      refine lv_iload_n hx hb dX7_bakedBehind_18 rfl (lv_at hl 2 rfl) ?_
      obtain ⟨hne, hv102⟩ := fx_nz_s hv102
      refine lv_idiv hx hb dX7_bakedBehind_19 hne ?_
      refine va_mmin hx hb (hml.trans hl.1.symm) hown (hts _ (List.mem_of_getElem? (i := 1) rfl)) (hts _ (List.mem_of_getElem? (i := 2) rfl)) (hts _ (List.mem_of_getElem? (i := 3) rfl)) (hts _ (List.mem_of_getElem? (i := 4) rfl)) (Nat.le_of_ble_eq_true rfl) (Nat.le_of_ble_eq_true rfl) (Nat.zero_le _) (Nat.zero_le _) dX7_bakedBehind_20 ?_
      refine k_topi hv102 (fun x104 hv102 => ?_)
      refine lv_istore_n (lv' := [(3, .int x104), (0, .int x0), (1, .int x1), (2, .int x2)]) hx hb dX7_bakedBehind_23 rfl hl (by decide) rfl (fun ls hl => ?_)
      obtain rfl := fx_i1 hv102
      exact K103 _ _ _ hP hD hS (lv_sub hl [1, 2, 0] rfl)
  · refine lv_iconst (v := (0 : Int32)) hx hb dX7_bakedBehind_4 (by decide) ?_
    obtain rfl := fx_i1 h
    exact Ci.ret hC hr hlk hA9 hP hD hS dX7_bakedBehind_5
abbrev RM_X7_firstMinute : Room := { frames := 2, cells := 0, slots := 0, locals := 36 }
def bd_X7_firstMinute_7 (N : Nat) (x0 : Int32) (x1 : Int32) (x2 : Int32) (x3 : Int32) (x4 : Int32) (rec : (Int32 × Int32) → Option (Int32)) : Option (Int32) :=
  (if x4 ≤ 0 then (
    some x3) else (
    fx_lt (x3 + x4) (fun x101 =>
      fx_b1 ((if (999 : Int32) < x101 then (
      some x3) else (
      fx_b1 (f_X7_bakedBehind N x0 x1 x101) (fun v106 =>
        (if x2 ≤ v106 then (
        some x3) else (
        some x101))))) : Option (Int32)) (fun x102 =>
      fx_lt (x4 >>> ((1 : Int32) &&& 31)) (fun x104 =>
        rec (x102, x104))))))
def lf_X7_firstMinute_7 (N : Nat) (x0 : Int32) (x1 : Int32) (x2 : Int32) : (Int32 × Int32) → ((Int32 × Int32) → Option (Int32)) → Option (Int32) := fun x rec => bd_X7_firstMinute_7 N x0 x1 x2 x.1 x.2 rec
set_option maxRecDepth 100000 in
set_option maxHeartbeats 4000000 in
theorem lw_X7_firstMinute_7 {p : Program} {l : Launch} {e : Env} {s : State} {m : MethodId} {args : Array Value} {below : List Frame} {meth : Method} {c : Code} {Q : State → Prop} {A : Nat → Prop} {H0 : Heap} {g : GG} (hC : Cx p s m args c RX7 cX7_firstMinute 6 wsX7_firstMinute g) (hA : ∀ q : Nat, H0.size ≤ q → A q) (N : Nat)  (x0 : Int32) (x1 : Int32) (x2 : Int32) : ∀ (n : Nat) (x3 : Int32) (x4 : Int32) (o : Int32), fx_it (lf_X7_firstMinute_7 N x0 x1 x2) n (x3, x4) = some o → ∀ (H : Heap) (locs : List Loc) (ls : Array Slot), va_P g.1 vwCl ([] : va_W) H → va_D A ([] : va_W) → va_S A H0 H locs → lv_has ls 6 [(0, .int x0), (1, .int x1), (2, .int x2), (3, .int x3), (4, .int x4)] → (∀ (z0 : Int32), o = z0 → ∀ (H : Heap) (locs : List Loc) (ls : Array Slot), va_P g.1 vwCl ([] : va_W) H → va_D A ([] : va_W) → va_S A H0 H locs → lv_has ls 6 [(3, .int z0)] → W p l e RM_X7_firstMinute s m args below meth c H locs 0 0 Q (F0 m 49 ls [])) → W p l e RM_X7_firstMinute s m args below meth c H locs 0 0 Q (F0 m 7 ls []) := by
  have hx := hC.1.1
  have hb := hC.1.2.1
  have hml := hC.1.2.2.1
  have hown := hC.1.2.2.2.1
  have hts := hC.1.2.2.2.2
  intro n
  induction n with
  | zero => intro x3 x4 o h; cases h
  | succ n ih =>
    intro x3 x4 o h H locs ls hP hD hS hl k0
    have h : bd_X7_firstMinute_7 N x0 x1 x2 x3 x4 (fx_it (lf_X7_firstMinute_7 N x0 x1 x2) n) = some o := h
    unfold bd_X7_firstMinute_7 at h
    refine lv_iload hx hb dX7_firstMinute_7 (lv_at hl 4 rfl) ?_
    refine k_if_le (tgt := 49) hC dX7_firstMinute_9 (by decide) h (fun h => ?_) (fun h => ?_)
    · exact k0 x3 (Option.some.inj h).symm _ _ _ hP hD hS (lv_sub hl [3] rfl)
    · refine lv_iload_n hx hb dX7_firstMinute_12 rfl (lv_at hl 3 rfl) ?_
      refine lv_iload hx hb dX7_firstMinute_13 (lv_at hl 4 rfl) ?_
      refine lv_iadd hx hb dX7_firstMinute_15 ?_
      refine k_topi h (fun x101 h => ?_)
      refine lv_istore (lv' := [(5, .int x101), (0, .int x0), (1, .int x1), (2, .int x2), (3, .int x3), (4, .int x4)]) hx hb dX7_firstMinute_16 hl (by decide) rfl (fun ls hl => ?_)
      refine lv_iload hx hb dX7_firstMinute_18 (lv_at hl 0 rfl) ?_
      refine lv_sipush (v := (999 : Int32)) hx hb dX7_firstMinute_20 (by decide) ?_
      obtain ⟨x102, hv103, h⟩ := fx_b1_s h
      have K105 : ∀ (H : Heap) (locs : List Loc) (ls : Array Slot), va_P g.1 vwCl ([] : va_W) H → va_D A ([] : va_W) → va_S A H0 H locs → lv_has ls 6 [(0, .int x0), (1, .int x1), (2, .int x2), (4, .int x4), (3, .int x102)] → W p l e RM_X7_firstMinute s m args below meth c H locs 0 0 Q (F0 m 40 ls []) := by
        intro H locs ls hP hD hS hl
        refine lv_iload hx hb dX7_firstMinute_40 (lv_at hl 3 rfl) ?_
        refine lv_iconst (v := (1 : Int32)) hx hb dX7_firstMinute_42 (by decide) ?_
        refine lv_ishr hx hb dX7_firstMinute_43 ?_
        refine k_topi h (fun x104 h => ?_)
        refine lv_istore (lv' := [(4, .int x104), (0, .int x0), (1, .int x1), (2, .int x2), (3, .int x102)]) hx hb dX7_firstMinute_44 hl (by decide) rfl (fun ls hl => ?_)
        refine lv_goto (tgt := 7) hx hb dX7_firstMinute_46 (by decide) ?_
        exact ih x102 x104 o h _ _ _ hP hD hS (lv_sub hl [1, 2, 3, 4, 0] rfl) k0
      refine k_icmp_gt (tgt := 40) hC dX7_firstMinute_23 (by decide) hv103 (fun hv103 => ?_) (fun hv103 => ?_)
      · obtain rfl := fx_i1 hv103
        exact K105 _ _ _ hP hD hS (lv_sub hl [1, 2, 3, 5, 4] rfl)
      · refine lv_iload_n hx hb dX7_firstMinute_26 rfl (lv_at hl 1 rfl) ?_
        refine lv_iload_n hx hb dX7_firstMinute_27 rfl (lv_at hl 2 rfl) ?_
        refine lv_iload hx hb dX7_firstMinute_28 (lv_at hl 0 rfl) ?_
        obtain ⟨v106, hc107, hv103⟩ := fx_b1_s hv103
        refine k_callSi0 (n := 3) (As := [.int x0, .int x1, .int x101]) (rest := []) (wc := ([] : va_W)) (bytes := cX7_bakedBehind) (maxL := 4) (ret := (some .int)) hC hl.1 (c_X7_bakedBehind l g N x0 x1 x101 v106 hc107) rfl gX7_firstMinute_X7_bakedBehind (by decide +kernel) ⟨Nat.le_of_ble_eq_true rfl, Nat.le_of_ble_eq_true rfl⟩ rfl rfl rfl (Nat.le_of_ble_eq_true rfl) ⟨Nat.le_of_ble_eq_true rfl, Nat.le_of_ble_eq_true rfl⟩ dX7_firstMinute_30 hP hD hS hA [] rfl (by decide +kernel) (fun H locs hP hD hS => ?_)
        refine lv_iload_n hx hb dX7_firstMinute_33 rfl (lv_at hl 3 rfl) ?_
        refine k_icmp_ge (tgt := 40) hC dX7_firstMinute_34 (by decide) hv103 (fun hv103 => ?_) (fun hv103 => ?_)
        · obtain rfl := fx_i1 hv103
          exact K105 _ _ _ hP hD hS (lv_sub hl [1, 2, 3, 5, 4] rfl)
        · refine lv_iload hx hb dX7_firstMinute_37 (lv_at hl 0 rfl) ?_
          refine lv_istore_n (lv' := [(3, .int x101), (5, .int x101), (0, .int x0), (1, .int x1), (2, .int x2), (4, .int x4)]) hx hb dX7_firstMinute_39 rfl hl (by decide) rfl (fun ls hl => ?_)
          obtain rfl := fx_i1 hv103
          exact K105 _ _ _ hP hD hS (lv_sub hl [2, 3, 4, 5, 0] rfl)
def f_X7_firstMinute (N : Nat) (x0 : Int32) (x1 : Int32) (x2 : Int32) : Option (Int32) :=
  fx_b1 (fx_it (lf_X7_firstMinute_7 N x0 x1 x2) N ((0 : Int32), (512 : Int32))) (fun x101 =>
  some (x101 + (1 : Int32)))
set_option maxRecDepth 100000 in
set_option maxHeartbeats 4000000 in
theorem c_X7_firstMinute (l : Launch) (g : GG) (N : Nat) (x0 : Int32) (x1 : Int32) (x2 : Int32) (r : Int32) (h : f_X7_firstMinute N x0 x1 x2 = some r) : Ci l yX7_firstMinute wsX7_firstMinute RM_X7_firstMinute g [.int x0, .int x1, .int x2] ([] : va_W) ([] : va_W) r := by
  intro sz
  refine Met.ofC (cc := cX7_firstMinute) (maxL := 6) (ret := (some .int)) (by decide) rfl (Nat.le_of_ble_eq_true rfl) ?_
  intro p e s m below meth c hC hr hlk hsz A hA9 hA hP hD hS ls hl
  subst hsz
  have hC : Cx p s m ([.int x0, .int x1, .int x2] : List Value).toArray c RX7 cX7_firstMinute 6 wsX7_firstMinute g := hC
  have hx := hC.1.1
  have hb := hC.1.2.1
  have hml := hC.1.2.2.1
  have hown := hC.1.2.2.2.1
  have hts := hC.1.2.2.2.2
  have hl : lv_has ls 6 [(0, .int x0), (1, .int x1), (2, .int x2)] := hl
  show W p l e RM_X7_firstMinute s m ([.int x0, .int x1, .int x2] : List Value).toArray below meth c s.heap [] 0 0 (Qi below g [.int x0, .int x1, .int x2] ([] : va_W) ([] : va_W) r s) (F0 m 0 ls [])
  unfold f_X7_firstMinute at h
  refine lv_iconst (v := (0 : Int32)) hx hb dX7_firstMinute_0 (by decide) ?_
  refine lv_istore_n (lv' := [(3, .int (0 : Int32)), (0, .int x0), (1, .int x1), (2, .int x2)]) hx hb dX7_firstMinute_1 rfl hl (by decide) rfl (fun ls hl => ?_)
  refine lv_sipush (v := (512 : Int32)) hx hb dX7_firstMinute_2 (by decide) ?_
  refine lv_istore (lv' := [(4, .int (512 : Int32)), (3, .int (0 : Int32)), (0, .int x0), (1, .int x1), (2, .int x2)]) hx hb dX7_firstMinute_5 hl (by decide) rfl (fun ls hl => ?_)
  obtain ⟨x101, ho102, h⟩ := fx_b1_s h
  refine lw_X7_firstMinute_7 hC hA N x0 x1 x2 N (0 : Int32) (512 : Int32)  x101 ho102 _ _ _ hP hD hS (lv_sub hl [2, 3, 4, 1, 0] rfl) ?_
  · intro y0 he H locs ls hP hD hS hl
    obtain rfl := he
    refine lv_iload_n hx hb dX7_firstMinute_49 rfl (lv_at hl 0 rfl) ?_
    refine lv_iconst (v := (1 : Int32)) hx hb dX7_firstMinute_50 (by decide) ?_
    refine lv_iadd hx hb dX7_firstMinute_51 ?_
    obtain rfl := fx_i1 h
    exact Ci.ret hC hr hlk hA9 hP hD hS dX7_firstMinute_52
theorem uX6_burntFrom_X6 : ∀ w ∈ u_ws RX6 TX6 5, w ∈ wsX6_burntFrom := fun w h => List.mem_cons_of_mem _ (List.mem_append_right _ h)
abbrev RM_X6_burntFrom : Room := { frames := 0, cells := 0, slots := 0, locals := 0 }
def f_X6_burntFrom (N : Nat) (S1 : St) (x1 : Int32) : Option (Int32) :=
  fx_ald 6 (S1.2 1) x1 (fun v101 =>
  fx_ald 6 (S1.2 2) x1 (fun v102 =>
  some ((v101 + v102) + (1 : Int32))))
set_option maxRecDepth 100000 in
set_option maxHeartbeats 4000000 in
theorem c_X6_burntFrom (l : Launch) (g : GG) (N : Nat) (q1 : Nat → Nat) (S1 : St) (x1 : Int32) (r : Int32) (h : f_X6_burntFrom N S1 x1 = some r) : Ci l yX6_burntFrom wsX6_burntFrom RM_X6_burntFrom g [.ref (q1 100), .int x1] (wX6 g q1 S1) (wX6 g q1 S1) r := by
  intro sz
  refine Met.ofC (cc := cX6_burntFrom) (maxL := 2) (ret := (some .int)) (by decide) rfl (Nat.le_of_ble_eq_true rfl) ?_
  intro p e s m below meth c hC hr hlk hsz A hA9 hA hP hD hS ls hl
  subst hsz
  have hC : Cx p s m ([.ref (q1 100), .int x1] : List Value).toArray c RX6 cX6_burntFrom 2 wsX6_burntFrom g := hC
  have hx := hC.1.1
  have hb := hC.1.2.1
  have hml := hC.1.2.2.1
  have hown := hC.1.2.2.2.1
  have hts := hC.1.2.2.2.2
  have hl : lv_has ls 2 [(0, .ref (q1 100)), (1, .int x1)] := hl
  show W p l e RM_X6_burntFrom s m ([.ref (q1 100), .int x1] : List Value).toArray below meth c s.heap [] 0 0 (Qi below g [.ref (q1 100), .int x1] (wX6 g q1 S1) (wX6 g q1 S1) r s) (F0 m 0 ls [])
  unfold f_X6_burntFrom at h
  refine lv_aload_n hx hb dX6_burntFrom_0 rfl (lv_at hl 0 rfl) ?_
  refine k_get (ci := 6) (k := 1) (q0 := 0) (v := .ref (q1 1)) (C := RX6) (T := TX6) (N := 5) hC uX6_burntFrom_X6 hP rfl rfl (by decide) (List.mem_of_getElem? (i := 1) rfl) rfl dX6_burntFrom_1 ?_
  refine lv_iload_n hx hb dX6_burntFrom_4 rfl (lv_at hl 1 rfl) ?_
  refine k_ald (q0 := 1) (n := 6) (F := S1.2 1) hC hP rfl dX6_burntFrom_5 h (fun v101 h => ?_)
  refine lv_aload_n hx hb dX6_burntFrom_6 rfl (lv_at hl 0 rfl) ?_
  refine k_get (ci := 6) (k := 2) (q0 := 0) (v := .ref (q1 2)) (C := RX6) (T := TX6) (N := 5) hC uX6_burntFrom_X6 hP rfl rfl (by decide) (List.mem_of_getElem? (i := 2) rfl) rfl dX6_burntFrom_7 ?_
  refine lv_iload_n hx hb dX6_burntFrom_10 rfl (lv_at hl 1 rfl) ?_
  refine k_ald (q0 := 2) (n := 6) (F := S1.2 2) hC hP rfl dX6_burntFrom_11 h (fun v102 h => ?_)
  refine lv_iadd hx hb dX6_burntFrom_12 ?_
  refine lv_iconst (v := (1 : Int32)) hx hb dX6_burntFrom_13 (by decide) ?_
  refine lv_iadd hx hb dX6_burntFrom_14 ?_
  obtain rfl := fx_i1 h
  exact Ci.ret hC hr hlk hA9 hP hD hS dX6_burntFrom_15
theorem uX1_foresee_X1 : ∀ w ∈ u_ws RX1 TX1 14, w ∈ wsX1_foresee := fun w h => List.mem_cons_of_mem _ (List.mem_append_left _ (List.mem_append_left _ (List.mem_append_right _ h)))
theorem uX1_foresee_X3 : ∀ w ∈ u_ws RX3 TX3 11, w ∈ wsX1_foresee := fun w h => List.mem_cons_of_mem _ (List.mem_append_left _ (List.mem_append_right _ h))
theorem uX1_foresee_X6 : ∀ w ∈ u_ws RX6 TX6 5, w ∈ wsX1_foresee := fun w h => List.mem_cons_of_mem _ (List.mem_append_right _ h)
abbrev RM_X1_foresee : Room := { frames := 3, cells := 0, slots := 0, locals := 61 }
def bd_X1_foresee_59 (N : Nat) (x1 : Int32) (x4 : Int32) (x5 : Int32) (x6 : Int32) (S2 : St) (S3 : St) (x7 : Int32) (S1 : St) (rec : (Int32 × St) → Option (St)) : Option (St) :=
  (if x4 ≤ x7 then (
    some S1) else (
    fx_ald 6 (S2.2 6) x7 (fun v101 =>
      fx_lt (x1 - v101) (fun x102 =>
      fx_b1 (f_X1_at N x6 x7) (fun v103 =>
      fx_ald 6 (S3.2 1) x6 (fun v104 =>
      fx_b1 (f_X7_firstMinute N x102 (S2.1 3) v104) (fun v105 =>
      fx_ast 36 S1 2 v103 v105 (fun S106 =>
      fx_b1 (f_X1_at N x6 x7) (fun v107 =>
      fx_b1 (f_X6_burntFrom N S3 x6) (fun v108 =>
      fx_b1 (f_X7_firstMinute N x102 (S2.1 3) v108) (fun v109 =>
      fx_ast 36 S106 3 v107 v109 (fun S110 =>
      fx_lt (x7 + (1 : Int32)) (fun x111 =>
      rec (x111, S110))))))))))))))
def lf_X1_foresee_59 (N : Nat) (x1 : Int32) (x4 : Int32) (x5 : Int32) (x6 : Int32) (S2 : St) (S3 : St) : (Int32 × St) → ((Int32 × St) → Option (St)) → Option (St) := fun x rec => bd_X1_foresee_59 N x1 x4 x5 x6 S2 S3 x.1 x.2 rec
set_option maxRecDepth 100000 in
set_option maxHeartbeats 4000000 in
theorem lw_X1_foresee_59 {p : Program} {l : Launch} {e : Env} {s : State} {m : MethodId} {args : Array Value} {below : List Frame} {meth : Method} {c : Code} {Q : State → Prop} {A : Nat → Prop} {H0 : Heap} {g : GG} (hC : Cx p s m args c RX1 cX1_foresee 9 wsX1_foresee g) (hA : ∀ q : Nat, H0.size ≤ q → A q) (N : Nat) (q1 : Nat → Nat) (q2 : Nat → Nat) (q3 : Nat → Nat) (x1 : Int32) (x4 : Int32) (x5 : Int32) (x6 : Int32) (S2 : St) (S3 : St) : ∀ (n : Nat) (x7 : Int32) (S1 : St) (o : St), fx_it (lf_X1_foresee_59 N x1 x4 x5 x6 S2 S3) n (x7, S1) = some o → ∀ (H : Heap) (locs : List Loc) (ls : Array Slot), va_P g.1 vwCl (wX1 g q1 S1 ++ (wX3 g q2 S2 ++ (wX6 g q3 S3))) H → va_D A (wX1 g q1 S1 ++ (wX3 g q2 S2 ++ (wX6 g q3 S3))) → va_S A H0 H locs → lv_has ls 9 [(0, .ref (q1 100)), (1, .int x1), (2, .ref (q2 100)), (3, .ref (q3 100)), (4, .int x4), (5, .int x5), (6, .int x6), (7, .int x7)] → (∀ (Z0 : St), o = Z0 → ∀ (H : Heap) (locs : List Loc) (ls : Array Slot), va_P g.1 vwCl (wX1 g q1 Z0 ++ (wX3 g q2 S2 ++ (wX6 g q3 S3))) H → va_D A (wX1 g q1 Z0 ++ (wX3 g q2 S2 ++ (wX6 g q3 S3))) → va_S A H0 H locs → lv_has ls 9 [(0, .ref (q1 100)), (1, .int x1), (2, .ref (q2 100)), (3, .ref (q3 100)), (4, .int x4), (5, .int x5)] → W p l e RM_X1_foresee s m args below meth c H locs 0 0 Q (F0 m 138 ls [])) → W p l e RM_X1_foresee s m args below meth c H locs 0 0 Q (F0 m 59 ls []) := by
  have hx := hC.1.1
  have hb := hC.1.2.1
  have hml := hC.1.2.2.1
  have hown := hC.1.2.2.2.1
  have hts := hC.1.2.2.2.2
  intro n
  induction n with
  | zero => intro x7 S1 o h; cases h
  | succ n ih =>
    intro x7 S1 o h H locs ls hP hD hS hl k0
    have h : bd_X1_foresee_59 N x1 x4 x5 x6 S2 S3 x7 S1 (fx_it (lf_X1_foresee_59 N x1 x4 x5 x6 S2 S3) n) = some o := h
    unfold bd_X1_foresee_59 at h
    refine lv_iload hx hb dX1_foresee_59 (lv_at hl 7 rfl) ?_
    refine lv_iload hx hb dX1_foresee_61 (lv_at hl 4 rfl) ?_
    refine k_icmp_ge (tgt := 138) hC dX1_foresee_63 (by decide) h (fun h => ?_) (fun h => ?_)
    · exact k0 S1 (Option.some.inj h).symm _ _ _ hP hD hS (lv_sub hl [0, 1, 2, 3, 4, 5] rfl)
    · refine lv_iload_n hx hb dX1_foresee_66 rfl (lv_at hl 1 rfl) ?_
      refine lv_aload_n hx hb dX1_foresee_67 rfl (lv_at hl 2 rfl) ?_
      refine k_get (ci := 3) (k := 6) (q0 := 8) (v := .ref (q2 6)) (C := RX3) (T := TX3) (N := 11) hC uX1_foresee_X3 hP rfl rfl (by decide) (List.mem_of_getElem? (i := 8) rfl) rfl dX1_foresee_68 ?_
      refine lv_iload hx hb dX1_foresee_71 (lv_at hl 7 rfl) ?_
      refine k_ald (q0 := 9) (n := 6) (F := S2.2 6) hC hP rfl dX1_foresee_73 h (fun v101 h => ?_)
      refine lv_isub hx hb dX1_foresee_74 ?_
      refine k_topi h (fun x102 h => ?_)
      refine lv_istore (lv' := [(8, .int x102), (0, .ref (q1 100)), (1, .int x1), (2, .ref (q2 100)), (3, .ref (q3 100)), (4, .int x4), (5, .int x5), (6, .int x6), (7, .int x7)]) hx hb dX1_foresee_75 hl (by decide) rfl (fun ls hl => ?_)
      refine lv_aload_n hx hb dX1_foresee_77 rfl (lv_at hl 1 rfl) ?_
      refine k_get (ci := 1) (k := 2) (q0 := 0) (v := .ref (q1 2)) (C := RX1) (T := TX1) (N := 14) hC uX1_foresee_X1 hP rfl rfl (by decide) (List.mem_of_getElem? (i := 9) rfl) rfl dX1_foresee_78 ?_
      refine lv_iload hx hb dX1_foresee_81 (lv_at hl 7 rfl) ?_
      refine lv_iload hx hb dX1_foresee_83 (lv_at hl 8 rfl) ?_
      obtain ⟨v103, hc116, h⟩ := fx_b1_s h
      refine k_callSi0 (n := 2) (As := [.int x6, .int x7]) (rest := [.ref (q1 2)]) (wc := ([] : va_W)) (bytes := cX1_at) (maxL := 2) (ret := (some .int)) hC hl.1 (c_X1_at l g N x6 x7 v103 hc116) rfl gX1_foresee_X1_at (by decide +kernel) ⟨Nat.le_of_ble_eq_true rfl, Nat.le_of_ble_eq_true rfl⟩ rfl rfl rfl (Nat.le_of_ble_eq_true rfl) ⟨Nat.le_of_ble_eq_true rfl, Nat.le_of_ble_eq_true rfl⟩ dX1_foresee_85 hP hD hS hA [] rfl (by decide +kernel) (fun H locs hP hD hS => ?_)
      refine lv_iload hx hb dX1_foresee_88 (lv_at hl 0 rfl) ?_
      refine lv_aload_n hx hb dX1_foresee_90 rfl (lv_at hl 3 rfl) ?_
      refine k_get (ci := 3) (k := 3) (q0 := 8) (v := .int (S2.1 3)) (C := RX3) (T := TX3) (N := 11) hC uX1_foresee_X3 hP rfl rfl (by decide) (List.mem_of_getElem? (i := 10) rfl) rfl dX1_foresee_91 ?_
      refine lv_aload_n hx hb dX1_foresee_94 rfl (lv_at hl 4 rfl) ?_
      refine k_get (ci := 6) (k := 1) (q0 := 14) (v := .ref (q3 1)) (C := RX6) (T := TX6) (N := 5) hC uX1_foresee_X6 hP rfl rfl (by decide) (List.mem_of_getElem? (i := 11) rfl) rfl dX1_foresee_95 ?_
      refine lv_iload hx hb dX1_foresee_98 (lv_at hl 7 rfl) ?_
      refine k_ald (q0 := 15) (n := 6) (F := S3.2 1) hC hP rfl dX1_foresee_100 h (fun v104 h => ?_)
      obtain ⟨v105, hc115, h⟩ := fx_b1_s h
      refine k_callNi0 (n := 3) (As := [.int x102, .int (S2.1 3), .int v104]) (rest := [.int v103, .ref (q1 2)]) (wc := ([] : va_W)) (bytes := cX7_firstMinute) (maxL := 6) (ret := (some .int)) hC hl.1 (c_X7_firstMinute l g N x102 (S2.1 3) v104 v105 hc115) rfl gX1_foresee_X7_firstMinute_n70 (List.mem_of_getElem? (i := 7) rfl) (List.mem_of_getElem? (i := 18) rfl) (List.mem_of_getElem? (i := 17) rfl) (by decide +kernel) ⟨Nat.le_of_ble_eq_true rfl, Nat.le_of_ble_eq_true rfl⟩ rfl rfl rfl (Nat.le_of_ble_eq_true rfl) ⟨Nat.le_of_ble_eq_true rfl, Nat.le_of_ble_eq_true rfl⟩ dX1_foresee_101 hP hD hS hA [] rfl (by decide +kernel) (fun H locs hP hD hS => ?_)
      refine k_ast (q0 := 2) (n := 36) (k := 2) (S := S1) (fun S => (wX1 g q1 S ++ (wX3 g q2 S2 ++ (wX6 g q3 S3)))) hC hP hD hS rfl (fun _ => rfl) dX1_foresee_104 h (fun S106 h H locs hP hD hS => ?_)
      refine lv_aload_n hx hb dX1_foresee_105 rfl (lv_at hl 1 rfl) ?_
      refine k_get (ci := 1) (k := 3) (q0 := 0) (v := .ref (q1 3)) (C := RX1) (T := TX1) (N := 14) hC uX1_foresee_X1 hP rfl rfl (by decide) (List.mem_of_getElem? (i := 12) rfl) rfl dX1_foresee_106 ?_
      refine lv_iload hx hb dX1_foresee_109 (lv_at hl 7 rfl) ?_
      refine lv_iload hx hb dX1_foresee_111 (lv_at hl 8 rfl) ?_
      obtain ⟨v107, hc114, h⟩ := fx_b1_s h
      refine k_callSi0 (n := 2) (As := [.int x6, .int x7]) (rest := [.ref (q1 3)]) (wc := ([] : va_W)) (bytes := cX1_at) (maxL := 2) (ret := (some .int)) hC hl.1 (c_X1_at l g N x6 x7 v107 hc114) rfl gX1_foresee_X1_at (by decide +kernel) ⟨Nat.le_of_ble_eq_true rfl, Nat.le_of_ble_eq_true rfl⟩ rfl rfl rfl (Nat.le_of_ble_eq_true rfl) ⟨Nat.le_of_ble_eq_true rfl, Nat.le_of_ble_eq_true rfl⟩ dX1_foresee_113 hP hD hS hA [] rfl (by decide +kernel) (fun H locs hP hD hS => ?_)
      refine lv_iload hx hb dX1_foresee_116 (lv_at hl 0 rfl) ?_
      refine lv_aload_n hx hb dX1_foresee_118 rfl (lv_at hl 3 rfl) ?_
      refine k_get (ci := 3) (k := 3) (q0 := 8) (v := .int (S2.1 3)) (C := RX3) (T := TX3) (N := 11) hC uX1_foresee_X3 hP rfl rfl (by decide) (List.mem_of_getElem? (i := 10) rfl) rfl dX1_foresee_119 ?_
      refine lv_aload_n hx hb dX1_foresee_122 rfl (lv_at hl 4 rfl) ?_
      refine lv_iload hx hb dX1_foresee_123 (lv_at hl 7 rfl) ?_
      obtain ⟨v108, hc113, h⟩ := fx_b1_s h
      refine k_callVi0 (C := RX6) (ci := 6) (qr := 0) (n := 1) (As := [.int x6]) (rest := [.int (S2.1 3), .int x102, .int v107, .ref (q1 3)]) (wc := (wX6 g q3 S3)) (bytes := cX6_burntFrom) (maxL := 2) (ret := (some .int)) hC hl.1 (c_X6_burntFrom l g N q3 S3 x6 v108 hc113) rfl gX1_foresee_X6_burntFrom (by decide +kernel) rfl rfl ⟨Nat.le_of_ble_eq_true rfl, Nat.le_of_ble_eq_true rfl⟩ rfl rfl rfl (Nat.le_of_ble_eq_true rfl) ⟨Nat.le_of_ble_eq_true rfl, Nat.le_of_ble_eq_true rfl⟩ dX1_foresee_125 hP hD hS hA [14, 15, 16, 17, 18] rfl (by decide +kernel) (fun H locs hP hD hS => ?_)
      obtain ⟨v109, hc112, h⟩ := fx_b1_s h
      refine k_callNi0 (n := 3) (As := [.int x102, .int (S2.1 3), .int v108]) (rest := [.int v107, .ref (q1 3)]) (wc := ([] : va_W)) (bytes := cX7_firstMinute) (maxL := 6) (ret := (some .int)) hC hl.1 (c_X7_firstMinute l g N x102 (S2.1 3) v108 v109 hc112) rfl gX1_foresee_X7_firstMinute_n70 (List.mem_of_getElem? (i := 7) rfl) (List.mem_of_getElem? (i := 18) rfl) (List.mem_of_getElem? (i := 17) rfl) (by decide +kernel) ⟨Nat.le_of_ble_eq_true rfl, Nat.le_of_ble_eq_true rfl⟩ rfl rfl rfl (Nat.le_of_ble_eq_true rfl) ⟨Nat.le_of_ble_eq_true rfl, Nat.le_of_ble_eq_true rfl⟩ dX1_foresee_128 hP hD hS hA [] rfl (by decide +kernel) (fun H locs hP hD hS => ?_)
      refine k_ast (q0 := 3) (n := 36) (k := 3) (S := S106) (fun S => (wX1 g q1 S ++ (wX3 g q2 S2 ++ (wX6 g q3 S3)))) hC hP hD hS rfl (fun _ => rfl) dX1_foresee_131 h (fun S110 h H locs hP hD hS => ?_)
      refine k_iinc (v := (1 : Int32)) (lv' := fun X => [(7, .int X), (8, .int x102), (0, .ref (q1 100)), (1, .int x1), (2, .ref (q2 100)), (3, .ref (q3 100)), (4, .int x4), (5, .int x5), (6, .int x6)]) hC dX1_foresee_132 hl (k := 8) rfl (by decide) (by decide) (fun _ => rfl) h (fun x111 h ls hl => ?_)
      refine lv_goto (tgt := 59) hx hb dX1_foresee_135 (by decide) ?_
      exact ih x111 S110 o h _ _ _ hP hD hS (lv_sub hl [2, 3, 4, 5, 6, 7, 8, 0] rfl) k0
def bd_X1_foresee_16 (N : Nat) (x1 : Int32) (x4 : Int32) (S2 : St) (S3 : St) (x5 : Int32) (S1 : St) (rec : (Int32 × St) → Option (St)) : Option (St) :=
  (if (S1.1 0) ≤ x5 then (
    some S1) else (
    fx_ald 6 (S1.2 1) x5 (fun v101 =>
      (if x5 ≤ 0 then (
      fx_b1 (fx_it (lf_X1_foresee_59 N x1 x4 x5 v101 S2 S3) N ((0 : Int32), S1)) (fun S102 =>
        fx_lt (x5 + (1 : Int32)) (fun x104 =>
          rec (x104, S102)))) else (
      fx_ald 6 (S1.2 1) (x5 - (1 : Int32)) (fun v105 =>
        (if v105 = v101 then (
        fx_lt (x5 + (1 : Int32)) (fun x109 =>
          rec (x109, S1))) else (
        fx_b1 (fx_it (lf_X1_foresee_59 N x1 x4 x5 v101 S2 S3) N ((0 : Int32), S1)) (fun S106 =>
          fx_lt (x5 + (1 : Int32)) (fun x108 =>
            rec (x108, S106)))))))))))
def lf_X1_foresee_16 (N : Nat) (x1 : Int32) (x4 : Int32) (S2 : St) (S3 : St) : (Int32 × St) → ((Int32 × St) → Option (St)) → Option (St) := fun x rec => bd_X1_foresee_16 N x1 x4 S2 S3 x.1 x.2 rec
set_option maxRecDepth 100000 in
set_option maxHeartbeats 4000000 in
theorem lw_X1_foresee_16 {p : Program} {l : Launch} {e : Env} {s : State} {m : MethodId} {args : Array Value} {below : List Frame} {meth : Method} {c : Code} {Q : State → Prop} {A : Nat → Prop} {H0 : Heap} {g : GG} (hC : Cx p s m args c RX1 cX1_foresee 9 wsX1_foresee g) (hA : ∀ q : Nat, H0.size ≤ q → A q) (N : Nat) (q1 : Nat → Nat) (q2 : Nat → Nat) (q3 : Nat → Nat) (x1 : Int32) (x4 : Int32) (S2 : St) (S3 : St) : ∀ (n : Nat) (x5 : Int32) (S1 : St) (o : St), fx_it (lf_X1_foresee_16 N x1 x4 S2 S3) n (x5, S1) = some o → ∀ (H : Heap) (locs : List Loc) (ls : Array Slot), va_P g.1 vwCl (wX1 g q1 S1 ++ (wX3 g q2 S2 ++ (wX6 g q3 S3))) H → va_D A (wX1 g q1 S1 ++ (wX3 g q2 S2 ++ (wX6 g q3 S3))) → va_S A H0 H locs → lv_has ls 9 [(0, .ref (q1 100)), (1, .int x1), (2, .ref (q2 100)), (3, .ref (q3 100)), (4, .int x4), (5, .int x5)] → (∀ (Z0 : St), o = Z0 → ∀ (H : Heap) (locs : List Loc) (ls : Array Slot), va_P g.1 vwCl (wX1 g q1 Z0 ++ (wX3 g q2 S2 ++ (wX6 g q3 S3))) H → va_D A (wX1 g q1 Z0 ++ (wX3 g q2 S2 ++ (wX6 g q3 S3))) → va_S A H0 H locs → lv_has ls 9 [] → W p l e RM_X1_foresee s m args below meth c H locs 0 0 Q (F0 m 144 ls [])) → W p l e RM_X1_foresee s m args below meth c H locs 0 0 Q (F0 m 16 ls []) := by
  have hx := hC.1.1
  have hb := hC.1.2.1
  have hml := hC.1.2.2.1
  have hown := hC.1.2.2.2.1
  have hts := hC.1.2.2.2.2
  intro n
  induction n with
  | zero => intro x5 S1 o h; cases h
  | succ n ih =>
    intro x5 S1 o h H locs ls hP hD hS hl k0
    have h : bd_X1_foresee_16 N x1 x4 S2 S3 x5 S1 (fx_it (lf_X1_foresee_16 N x1 x4 S2 S3) n) = some o := h
    unfold bd_X1_foresee_16 at h
    refine lv_iload hx hb dX1_foresee_16 (lv_at hl 5 rfl) ?_
    refine lv_aload_n hx hb dX1_foresee_18 rfl (lv_at hl 0 rfl) ?_
    refine k_get (ci := 1) (k := 0) (q0 := 0) (v := .int (S1.1 0)) (C := RX1) (T := TX1) (N := 14) hC uX1_foresee_X1 hP rfl rfl (by decide) (List.mem_of_getElem? (i := 1) rfl) rfl dX1_foresee_19 ?_
    refine k_icmp_ge (tgt := 144) hC dX1_foresee_22 (by decide) h (fun h => ?_) (fun h => ?_)
    · exact k0 S1 (Option.some.inj h).symm _ _ _ hP hD hS (lv_sub hl [] rfl)
    · refine lv_aload_n hx hb dX1_foresee_25 rfl (lv_at hl 0 rfl) ?_
      refine k_get (ci := 1) (k := 1) (q0 := 0) (v := .ref (q1 1)) (C := RX1) (T := TX1) (N := 14) hC uX1_foresee_X1 hP rfl rfl (by decide) (List.mem_of_getElem? (i := 7) rfl) rfl dX1_foresee_26 ?_
      refine lv_iload hx hb dX1_foresee_29 (lv_at hl 5 rfl) ?_
      refine k_ald (q0 := 1) (n := 6) (F := S1.2 1) hC hP rfl dX1_foresee_31 h (fun v101 h => ?_)
      refine lv_istore (lv' := [(6, .int v101), (0, .ref (q1 100)), (1, .int x1), (2, .ref (q2 100)), (3, .ref (q3 100)), (4, .int x4), (5, .int x5)]) hx hb dX1_foresee_32 hl (by decide) rfl (fun ls hl => ?_)
      refine lv_iload hx hb dX1_foresee_34 (lv_at hl 6 rfl) ?_
      refine k_if_le (tgt := 56) hC dX1_foresee_36 (by decide) h (fun h => ?_) (fun h => ?_)
      · refine lv_iconst (v := (0 : Int32)) hx hb dX1_foresee_56 (by decide) ?_
        refine lv_istore (lv' := [(7, .int (0 : Int32)), (6, .int v101), (0, .ref (q1 100)), (1, .int x1), (2, .ref (q2 100)), (3, .ref (q3 100)), (4, .int x4), (5, .int x5)]) hx hb dX1_foresee_57 hl (by decide) rfl (fun ls hl => ?_)
        obtain ⟨S102, ho103, h⟩ := fx_b1_s h
        refine lw_X1_foresee_59 hC hA N q1 q2 q3 x1 x4 x5 v101 S2 S3 N (0 : Int32) S1  S102 ho103 _ _ _ hP hD hS (lv_sub hl [2, 3, 4, 5, 6, 7, 1, 0] rfl) ?_
        · intro y0 he H locs ls hP hD hS hl
          obtain rfl := he
          refine k_iinc (v := (1 : Int32)) (lv' := fun X => [(5, .int X), (0, .ref (q1 100)), (1, .int x1), (2, .ref (q2 100)), (3, .ref (q3 100)), (4, .int x4)]) hC dX1_foresee_138 hl (k := 5) rfl (by decide) (by decide) (fun _ => rfl) h (fun x104 h ls hl => ?_)
          refine lv_goto (tgt := 16) hx hb dX1_foresee_141 (by decide) ?_
          exact ih x104 S102 o h _ _ _ hP hD hS (lv_sub hl [1, 2, 3, 4, 5, 0] rfl) k0
      · refine lv_aload_n hx hb dX1_foresee_39 rfl (lv_at hl 1 rfl) ?_
        refine k_get (ci := 1) (k := 1) (q0 := 0) (v := .ref (q1 1)) (C := RX1) (T := TX1) (N := 14) hC uX1_foresee_X1 hP rfl rfl (by decide) (List.mem_of_getElem? (i := 7) rfl) rfl dX1_foresee_40 ?_
        refine lv_iload hx hb dX1_foresee_43 (lv_at hl 6 rfl) ?_
        refine lv_iconst (v := (1 : Int32)) hx hb dX1_foresee_45 (by decide) ?_
        refine lv_isub hx hb dX1_foresee_46 ?_
        refine k_ald (q0 := 1) (n := 6) (F := S1.2 1) hC hP rfl dX1_foresee_47 h (fun v105 h => ?_)
        refine lv_iload hx hb dX1_foresee_48 (lv_at hl 0 rfl) ?_
        refine k_icmp_ne (tgt := 56) hC dX1_foresee_50 (by decide) h (fun h => ?_) (fun h => ?_)
        · refine lv_iconst (v := (0 : Int32)) hx hb dX1_foresee_56 (by decide) ?_
          refine lv_istore (lv' := [(7, .int (0 : Int32)), (6, .int v101), (0, .ref (q1 100)), (1, .int x1), (2, .ref (q2 100)), (3, .ref (q3 100)), (4, .int x4), (5, .int x5)]) hx hb dX1_foresee_57 hl (by decide) rfl (fun ls hl => ?_)
          obtain ⟨S106, ho107, h⟩ := fx_b1_s h
          refine lw_X1_foresee_59 hC hA N q1 q2 q3 x1 x4 x5 v101 S2 S3 N (0 : Int32) S1  S106 ho107 _ _ _ hP hD hS (lv_sub hl [2, 3, 4, 5, 6, 7, 1, 0] rfl) ?_
          · intro y0 he H locs ls hP hD hS hl
            obtain rfl := he
            refine k_iinc (v := (1 : Int32)) (lv' := fun X => [(5, .int X), (0, .ref (q1 100)), (1, .int x1), (2, .ref (q2 100)), (3, .ref (q3 100)), (4, .int x4)]) hC dX1_foresee_138 hl (k := 5) rfl (by decide) (by decide) (fun _ => rfl) h (fun x108 h ls hl => ?_)
            refine lv_goto (tgt := 16) hx hb dX1_foresee_141 (by decide) ?_
            exact ih x108 S106 o h _ _ _ hP hD hS (lv_sub hl [1, 2, 3, 4, 5, 0] rfl) k0
        · refine lv_goto (tgt := 138) hx hb dX1_foresee_53 (by decide) ?_
          refine k_iinc (v := (1 : Int32)) (lv' := fun X => [(5, .int X), (6, .int v101), (0, .ref (q1 100)), (1, .int x1), (2, .ref (q2 100)), (3, .ref (q3 100)), (4, .int x4)]) hC dX1_foresee_138 hl (k := 6) rfl (by decide) (by decide) (fun _ => rfl) h (fun x109 h ls hl => ?_)
          refine lv_goto (tgt := 16) hx hb dX1_foresee_141 (by decide) ?_
          exact ih x109 S1 o h _ _ _ hP hD hS (lv_sub hl [2, 3, 4, 5, 6, 0] rfl) k0
def f_X1_foresee (N : Nat) (S1 : St) (S2 : St) (S3 : St) (x1 : Int32) : Option (St) :=
  fx_lt (if (S2.1 1) < (S1.1 0) then (S2.1 1) else (S1.1 0)) (fun x101 =>
  fx_b1 (fx_it (lf_X1_foresee_16 N x1 x101 S2 S3) N ((0 : Int32), S1)) (fun S102 =>
  some S102))
set_option maxRecDepth 100000 in
set_option maxHeartbeats 4000000 in
theorem c_X1_foresee (l : Launch) (g : GG) (N : Nat) (q1 : Nat → Nat) (q2 : Nat → Nat) (q3 : Nat → Nat) (S1 : St) (S2 : St) (S3 : St) (x1 : Int32) (F1 : St) (h : f_X1_foresee N S1 S2 S3 x1 = some F1) : Cv l yX1_foresee wsX1_foresee RM_X1_foresee g [.ref (q1 100), .int x1, .ref (q2 100), .ref (q3 100)] (wX1 g q1 S1 ++ (wX3 g q2 S2 ++ (wX6 g q3 S3))) (wX1 g q1 F1 ++ (wX3 g q2 S2 ++ (wX6 g q3 S3))) := by
  intro sz
  refine Met.ofC (cc := cX1_foresee) (maxL := 9) (ret := none) (by decide) rfl (Nat.le_of_ble_eq_true rfl) ?_
  intro p e s m below meth c hC hr hlk hsz A hA9 hA hP hD hS ls hl
  subst hsz
  have hC : Cx p s m ([.ref (q1 100), .int x1, .ref (q2 100), .ref (q3 100)] : List Value).toArray c RX1 cX1_foresee 9 wsX1_foresee g := hC
  have hx := hC.1.1
  have hb := hC.1.2.1
  have hml := hC.1.2.2.1
  have hown := hC.1.2.2.2.1
  have hts := hC.1.2.2.2.2
  have hl : lv_has ls 9 [(0, .ref (q1 100)), (1, .int x1), (2, .ref (q2 100)), (3, .ref (q3 100))] := hl
  show W p l e RM_X1_foresee s m ([.ref (q1 100), .int x1, .ref (q2 100), .ref (q3 100)] : List Value).toArray below meth c s.heap [] 0 0 (Qv below g [.ref (q1 100), .int x1, .ref (q2 100), .ref (q3 100)] (wX1 g q1 S1 ++ (wX3 g q2 S2 ++ (wX6 g q3 S3))) (wX1 g q1 F1 ++ (wX3 g q2 S2 ++ (wX6 g q3 S3))) s) (F0 m 0 ls [])
  unfold f_X1_foresee at h
  refine lv_aload_n hx hb dX1_foresee_0 rfl (lv_at hl 0 rfl) ?_
  refine k_get (ci := 1) (k := 0) (q0 := 0) (v := .int (S1.1 0)) (C := RX1) (T := TX1) (N := 14) hC uX1_foresee_X1 hP rfl rfl (by decide) (List.mem_of_getElem? (i := 1) rfl) rfl dX1_foresee_1 ?_
  refine lv_aload_n hx hb dX1_foresee_4 rfl (lv_at hl 2 rfl) ?_
  refine k_get (ci := 3) (k := 1) (q0 := 8) (v := .int (S2.1 1)) (C := RX3) (T := TX3) (N := 11) hC uX1_foresee_X3 hP rfl rfl (by decide) (List.mem_of_getElem? (i := 2) rfl) rfl dX1_foresee_5 ?_
  refine va_mmin hx hb (hml.trans hl.1.symm) hown (hts _ (List.mem_of_getElem? (i := 3) rfl)) (hts _ (List.mem_of_getElem? (i := 4) rfl)) (hts _ (List.mem_of_getElem? (i := 5) rfl)) (hts _ (List.mem_of_getElem? (i := 6) rfl)) (Nat.le_of_ble_eq_true rfl) (Nat.le_of_ble_eq_true rfl) (Nat.zero_le _) (Nat.zero_le _) dX1_foresee_8 ?_
  refine k_topi h (fun x101 h => ?_)
  refine lv_istore (lv' := [(4, .int x101), (0, .ref (q1 100)), (1, .int x1), (2, .ref (q2 100)), (3, .ref (q3 100))]) hx hb dX1_foresee_11 hl (by decide) rfl (fun ls hl => ?_)
  refine lv_iconst (v := (0 : Int32)) hx hb dX1_foresee_13 (by decide) ?_
  refine lv_istore (lv' := [(5, .int (0 : Int32)), (4, .int x101), (0, .ref (q1 100)), (1, .int x1), (2, .ref (q2 100)), (3, .ref (q3 100))]) hx hb dX1_foresee_14 hl (by decide) rfl (fun ls hl => ?_)
  obtain ⟨S102, ho103, h⟩ := fx_b1_s h
  refine lw_X1_foresee_16 hC hA N q1 q2 q3 x1 x101 S2 S3 N (0 : Int32) S1  S102 ho103 _ _ _ hP hD hS (lv_sub hl [2, 3, 4, 5, 1, 0] rfl) ?_
  · intro y0 he H locs ls hP hD hS hl
    obtain rfl := he
    obtain rfl := fx_i1 h
    exact Cv.ret hC hr hlk hA9 hP hD hS dX1_foresee_144
theorem uX1_minuteAllOut_X1 : ∀ w ∈ u_ws RX1 TX1 14, w ∈ wsX1_minuteAllOut := fun w h => List.mem_cons_of_mem _ (List.mem_append_right _ h)
abbrev RM_X1_minuteAllOut : Room := { frames := 1, cells := 0, slots := 0, locals := 21 }
def bd_X1_minuteAllOut_6 (N : Nat) (S1 : St) (x2 : Int32) (x3 : Int32) (rec : (Int32 × Int32) → Option (Nat × Int32)) : Option (Nat × Int32) :=
  (if x3 < 0 then (
    some (1, x2)) else (
    fx_ald 6 (S1.2 4) x3 (fun v101 =>
      fx_b1 (f_X1_at N v101 x3) (fun v102 =>
      fx_ald 36 (S1.2 2) v102 (fun v103 =>
      fx_lt (if x2 < v103 then v103 else x2) (fun x104 =>
      fx_ald 36 (S1.2 3) v102 (fun v105 =>
      (if x104 < v105 then (
      fx_lt (x3 + (-1 : Int32)) (fun x106 =>
        rec (x104, x106))) else (
      some (0, (0 : Int32)))))))))))
def lf_X1_minuteAllOut_6 (N : Nat) (S1 : St) : (Int32 × Int32) → ((Int32 × Int32) → Option (Nat × Int32)) → Option (Nat × Int32) := fun x rec => bd_X1_minuteAllOut_6 N S1 x.1 x.2 rec
set_option maxRecDepth 100000 in
set_option maxHeartbeats 4000000 in
theorem lw_X1_minuteAllOut_6 {p : Program} {l : Launch} {e : Env} {s : State} {m : MethodId} {args : Array Value} {below : List Frame} {meth : Method} {c : Code} {Q : State → Prop} {A : Nat → Prop} {H0 : Heap} {g : GG} (hC : Cx p s m args c RX1 cX1_minuteAllOut 5 wsX1_minuteAllOut g) (hA : ∀ q : Nat, H0.size ≤ q → A q) (N : Nat) (q1 : Nat → Nat) (S1 : St) : ∀ (n : Nat) (x2 : Int32) (x3 : Int32) (o : Nat × Int32), fx_it (lf_X1_minuteAllOut_6 N S1) n (x2, x3) = some o → ∀ (H : Heap) (locs : List Loc) (ls : Array Slot), va_P g.1 vwCl (wX1 g q1 S1) H → va_D A (wX1 g q1 S1) → va_S A H0 H locs → lv_has ls 5 [(0, .ref (q1 100)), (2, .int x2), (3, .int x3)] → (∀ (z0 : Int32), o = (0, z0) → ∀ (H : Heap) (locs : List Loc) (ls : Array Slot), va_P g.1 vwCl (wX1 g q1 S1) H → va_D A (wX1 g q1 S1) → va_S A H0 H locs → lv_has ls 5 [] → W p l e RM_X1_minuteAllOut s m args below meth c H locs 0 0 Q (F0 m 45 ls [])) → (∀ (z0 : Int32), o = (1, z0) → ∀ (H : Heap) (locs : List Loc) (ls : Array Slot), va_P g.1 vwCl (wX1 g q1 S1) H → va_D A (wX1 g q1 S1) → va_S A H0 H locs → lv_has ls 5 [(2, .int z0)] → W p l e RM_X1_minuteAllOut s m args below meth c H locs 0 0 Q (F0 m 54 ls [])) → W p l e RM_X1_minuteAllOut s m args below meth c H locs 0 0 Q (F0 m 6 ls []) := by
  have hx := hC.1.1
  have hb := hC.1.2.1
  have hml := hC.1.2.2.1
  have hown := hC.1.2.2.2.1
  have hts := hC.1.2.2.2.2
  intro n
  induction n with
  | zero => intro x2 x3 o h; cases h
  | succ n ih =>
    intro x2 x3 o h H locs ls hP hD hS hl k0 k1
    have h : bd_X1_minuteAllOut_6 N S1 x2 x3 (fx_it (lf_X1_minuteAllOut_6 N S1) n) = some o := h
    unfold bd_X1_minuteAllOut_6 at h
    refine lv_iload_n hx hb dX1_minuteAllOut_6 rfl (lv_at hl 2 rfl) ?_
    refine k_if_lt (tgt := 54) hC dX1_minuteAllOut_7 (by decide) h (fun h => ?_) (fun h => ?_)
    · exact k1 x2 (Option.some.inj h).symm _ _ _ hP hD hS (lv_sub hl [1] rfl)
    · refine lv_aload_n hx hb dX1_minuteAllOut_10 rfl (lv_at hl 0 rfl) ?_
      refine k_get (ci := 1) (k := 4) (q0 := 0) (v := .ref (q1 4)) (C := RX1) (T := TX1) (N := 14) hC uX1_minuteAllOut_X1 hP rfl rfl (by decide) (List.mem_of_getElem? (i := 1) rfl) rfl dX1_minuteAllOut_11 ?_
      refine lv_iload_n hx hb dX1_minuteAllOut_14 rfl (lv_at hl 2 rfl) ?_
      refine k_ald (q0 := 4) (n := 6) (F := S1.2 4) hC hP rfl dX1_minuteAllOut_15 h (fun v101 h => ?_)
      refine lv_iload_n hx hb dX1_minuteAllOut_16 rfl (lv_at hl 2 rfl) ?_
      obtain ⟨v102, hc107, h⟩ := fx_b1_s h
      refine k_callSi0 (n := 2) (As := [.int v101, .int x3]) (rest := []) (wc := ([] : va_W)) (bytes := cX1_at) (maxL := 2) (ret := (some .int)) hC hl.1 (c_X1_at l g N v101 x3 v102 hc107) rfl gX1_minuteAllOut_X1_at (by decide +kernel) ⟨Nat.le_of_ble_eq_true rfl, Nat.le_of_ble_eq_true rfl⟩ rfl rfl rfl (Nat.le_of_ble_eq_true rfl) ⟨Nat.le_of_ble_eq_true rfl, Nat.le_of_ble_eq_true rfl⟩ dX1_minuteAllOut_17 hP hD hS hA [] rfl (by decide +kernel) (fun H locs hP hD hS => ?_)
      refine lv_istore (lv' := [(4, .int v102), (0, .ref (q1 100)), (2, .int x2), (3, .int x3)]) hx hb dX1_minuteAllOut_20 hl (by decide) rfl (fun ls hl => ?_)
      refine lv_iload_n hx hb dX1_minuteAllOut_22 rfl (lv_at hl 2 rfl) ?_
      refine lv_aload_n hx hb dX1_minuteAllOut_23 rfl (lv_at hl 1 rfl) ?_
      refine k_get (ci := 1) (k := 2) (q0 := 0) (v := .ref (q1 2)) (C := RX1) (T := TX1) (N := 14) hC uX1_minuteAllOut_X1 hP rfl rfl (by decide) (List.mem_of_getElem? (i := 2) rfl) rfl dX1_minuteAllOut_24 ?_
      refine lv_iload hx hb dX1_minuteAllOut_27 (lv_at hl 0 rfl) ?_
      refine k_ald (q0 := 2) (n := 36) (F := S1.2 2) hC hP rfl dX1_minuteAllOut_29 h (fun v103 h => ?_)
      refine va_mmax hx hb (hml.trans hl.1.symm) hown (hts _ (List.mem_of_getElem? (i := 3) rfl)) (hts _ (List.mem_of_getElem? (i := 4) rfl)) (hts _ (List.mem_of_getElem? (i := 5) rfl)) (hts _ (List.mem_of_getElem? (i := 6) rfl)) (Nat.le_of_ble_eq_true rfl) (Nat.le_of_ble_eq_true rfl) (Nat.zero_le _) (Nat.zero_le _) dX1_minuteAllOut_30 ?_
      refine k_topi h (fun x104 h => ?_)
      refine lv_istore_n (lv' := [(2, .int x104), (4, .int v102), (0, .ref (q1 100)), (3, .int x3)]) hx hb dX1_minuteAllOut_33 rfl hl (by decide) rfl (fun ls hl => ?_)
      refine lv_iload_n hx hb dX1_minuteAllOut_34 rfl (lv_at hl 0 rfl) ?_
      refine lv_aload_n hx hb dX1_minuteAllOut_35 rfl (lv_at hl 2 rfl) ?_
      refine k_get (ci := 1) (k := 3) (q0 := 0) (v := .ref (q1 3)) (C := RX1) (T := TX1) (N := 14) hC uX1_minuteAllOut_X1 hP rfl rfl (by decide) (List.mem_of_getElem? (i := 7) rfl) rfl dX1_minuteAllOut_36 ?_
      refine lv_iload hx hb dX1_minuteAllOut_39 (lv_at hl 1 rfl) ?_
      refine k_ald (q0 := 3) (n := 36) (F := S1.2 3) hC hP rfl dX1_minuteAllOut_41 h (fun v105 h => ?_)
      refine k_icmp_lt (tgt := 48) hC dX1_minuteAllOut_42 (by decide) h (fun h => ?_) (fun h => ?_)
      · refine k_iinc (v := (-1 : Int32)) (lv' := fun X => [(3, .int X), (2, .int x104), (4, .int v102), (0, .ref (q1 100))]) hC dX1_minuteAllOut_48 hl (k := 3) rfl (by decide) (by decide) (fun _ => rfl) h (fun x106 h ls hl => ?_)
        refine lv_goto (tgt := 6) hx hb dX1_minuteAllOut_51 (by decide) ?_
        exact ih x104 x106 o h _ _ _ hP hD hS (lv_sub hl [3, 1, 0] rfl) k0 k1
      · exact k0 (0 : Int32) (Option.some.inj h).symm _ _ _ hP hD hS (lv_sub hl [] rfl)
def f_X1_minuteAllOut (N : Nat) (S1 : St) (x1 : Int32) : Option (Int32) :=
  fx_lt (x1 - (1 : Int32)) (fun x101 =>
  fx_b2 (fx_it (lf_X1_minuteAllOut_6 N S1) N ((0 : Int32), x101)) (fun t102 x103 =>
  fx_t2 t102 (some (-6 : Int32)) (some x103)))
set_option maxRecDepth 100000 in
set_option maxHeartbeats 4000000 in
theorem c_X1_minuteAllOut (l : Launch) (g : GG) (N : Nat) (q1 : Nat → Nat) (S1 : St) (x1 : Int32) (r : Int32) (h : f_X1_minuteAllOut N S1 x1 = some r) : Ci l yX1_minuteAllOut wsX1_minuteAllOut RM_X1_minuteAllOut g [.ref (q1 100), .int x1] (wX1 g q1 S1) (wX1 g q1 S1) r := by
  intro sz
  refine Met.ofC (cc := cX1_minuteAllOut) (maxL := 5) (ret := (some .int)) (by decide) rfl (Nat.le_of_ble_eq_true rfl) ?_
  intro p e s m below meth c hC hr hlk hsz A hA9 hA hP hD hS ls hl
  subst hsz
  have hC : Cx p s m ([.ref (q1 100), .int x1] : List Value).toArray c RX1 cX1_minuteAllOut 5 wsX1_minuteAllOut g := hC
  have hx := hC.1.1
  have hb := hC.1.2.1
  have hml := hC.1.2.2.1
  have hown := hC.1.2.2.2.1
  have hts := hC.1.2.2.2.2
  have hl : lv_has ls 5 [(0, .ref (q1 100)), (1, .int x1)] := hl
  show W p l e RM_X1_minuteAllOut s m ([.ref (q1 100), .int x1] : List Value).toArray below meth c s.heap [] 0 0 (Qi below g [.ref (q1 100), .int x1] (wX1 g q1 S1) (wX1 g q1 S1) r s) (F0 m 0 ls [])
  unfold f_X1_minuteAllOut at h
  refine lv_iconst (v := (0 : Int32)) hx hb dX1_minuteAllOut_0 (by decide) ?_
  refine lv_istore_n (lv' := [(2, .int (0 : Int32)), (0, .ref (q1 100)), (1, .int x1)]) hx hb dX1_minuteAllOut_1 rfl hl (by decide) rfl (fun ls hl => ?_)
  refine lv_iload_n hx hb dX1_minuteAllOut_2 rfl (lv_at hl 2 rfl) ?_
  refine lv_iconst (v := (1 : Int32)) hx hb dX1_minuteAllOut_3 (by decide) ?_
  refine lv_isub hx hb dX1_minuteAllOut_4 ?_
  refine k_topi h (fun x101 h => ?_)
  refine lv_istore_n (lv' := [(3, .int x101), (2, .int (0 : Int32)), (0, .ref (q1 100)), (1, .int x1)]) hx hb dX1_minuteAllOut_5 rfl hl (by decide) rfl (fun ls hl => ?_)
  obtain ⟨t102, x103, ho104, h⟩ := fx_b2_s h
  refine lw_X1_minuteAllOut_6 hC hA N q1 S1 N (0 : Int32) x101  (t102, x103) ho104 _ _ _ hP hD hS (lv_sub hl [2, 1, 0] rfl) ?_ ?_
  · intro y0 he H locs ls hP hD hS hl
    obtain ⟨rfl, rfl⟩ := fx_j2 he
    have h := fx_tg2_0 h
    refine lv_bipush (v := (-6 : Int32)) hx hb dX1_minuteAllOut_45 (by decide) ?_
    obtain rfl := fx_i1 h
    exact Ci.ret hC hr hlk hA9 hP hD hS dX1_minuteAllOut_47
  · intro y0 he H locs ls hP hD hS hl
    obtain ⟨rfl, rfl⟩ := fx_j2 he
    have h := fx_tg2_1 h
    refine lv_iload_n hx hb dX1_minuteAllOut_54 rfl (lv_at hl 0 rfl) ?_
    obtain rfl := fx_i1 h
    exact Ci.ret hC hr hlk hA9 hP hD hS dX1_minuteAllOut_55
theorem uX1_numberOf_X1 : ∀ w ∈ u_ws RX1 TX1 14, w ∈ wsX1_numberOf := fun w h => List.mem_cons_of_mem _ (List.mem_append_right _ h)
abbrev RM_X1_numberOf : Room := { frames := 0, cells := 0, slots := 0, locals := 0 }
def bd_X1_numberOf_4 (N : Nat) (x1 : Int32) (S1 : St) (x2 : Int32) (x3 : Int32) (rec : (Int32 × Int32) → Option (Int32)) : Option (Int32) :=
  (if x1 ≤ x3 then (
    some x2) else (
    fx_ald 6 (S1.2 4) x3 (fun v101 =>
      fx_lt (((x2 * (10 : Int32)) + v101) + (1 : Int32)) (fun x102 =>
      fx_lt (x3 + (1 : Int32)) (fun x103 =>
      rec (x102, x103))))))
def lf_X1_numberOf_4 (N : Nat) (x1 : Int32) (S1 : St) : (Int32 × Int32) → ((Int32 × Int32) → Option (Int32)) → Option (Int32) := fun x rec => bd_X1_numberOf_4 N x1 S1 x.1 x.2 rec
set_option maxRecDepth 100000 in
set_option maxHeartbeats 4000000 in
theorem lw_X1_numberOf_4 {p : Program} {l : Launch} {e : Env} {s : State} {m : MethodId} {args : Array Value} {below : List Frame} {meth : Method} {c : Code} {Q : State → Prop} {A : Nat → Prop} {H0 : Heap} {g : GG} (hC : Cx p s m args c RX1 cX1_numberOf 4 wsX1_numberOf g) (hA : ∀ q : Nat, H0.size ≤ q → A q) (N : Nat) (q1 : Nat → Nat) (x1 : Int32) (S1 : St) : ∀ (n : Nat) (x2 : Int32) (x3 : Int32) (o : Int32), fx_it (lf_X1_numberOf_4 N x1 S1) n (x2, x3) = some o → ∀ (H : Heap) (locs : List Loc) (ls : Array Slot), va_P g.1 vwCl (wX1 g q1 S1) H → va_D A (wX1 g q1 S1) → va_S A H0 H locs → lv_has ls 4 [(0, .ref (q1 100)), (1, .int x1), (2, .int x2), (3, .int x3)] → (∀ (z0 : Int32), o = z0 → ∀ (H : Heap) (locs : List Loc) (ls : Array Slot), va_P g.1 vwCl (wX1 g q1 S1) H → va_D A (wX1 g q1 S1) → va_S A H0 H locs → lv_has ls 4 [(2, .int z0)] → W p l e RM_X1_numberOf s m args below meth c H locs 0 0 Q (F0 m 29 ls [])) → W p l e RM_X1_numberOf s m args below meth c H locs 0 0 Q (F0 m 4 ls []) := by
  have hx := hC.1.1
  have hb := hC.1.2.1
  have hml := hC.1.2.2.1
  have hown := hC.1.2.2.2.1
  have hts := hC.1.2.2.2.2
  intro n
  induction n with
  | zero => intro x2 x3 o h; cases h
  | succ n ih =>
    intro x2 x3 o h H locs ls hP hD hS hl k0
    have h : bd_X1_numberOf_4 N x1 S1 x2 x3 (fx_it (lf_X1_numberOf_4 N x1 S1) n) = some o := h
    unfold bd_X1_numberOf_4 at h
    refine lv_iload_n hx hb dX1_numberOf_4 rfl (lv_at hl 3 rfl) ?_
    refine lv_iload_n hx hb dX1_numberOf_5 rfl (lv_at hl 1 rfl) ?_
    refine k_icmp_ge (tgt := 29) hC dX1_numberOf_6 (by decide) h (fun h => ?_) (fun h => ?_)
    · exact k0 x2 (Option.some.inj h).symm _ _ _ hP hD hS (lv_sub hl [2] rfl)
    · refine lv_iload_n hx hb dX1_numberOf_9 rfl (lv_at hl 2 rfl) ?_
      refine lv_bipush (v := (10 : Int32)) hx hb dX1_numberOf_10 (by decide) ?_
      refine lv_imul hx hb dX1_numberOf_12 ?_
      refine lv_aload_n hx hb dX1_numberOf_13 rfl (lv_at hl 0 rfl) ?_
      refine k_get (ci := 1) (k := 4) (q0 := 0) (v := .ref (q1 4)) (C := RX1) (T := TX1) (N := 14) hC uX1_numberOf_X1 hP rfl rfl (by decide) (List.mem_of_getElem? (i := 1) rfl) rfl dX1_numberOf_14 ?_
      refine lv_iload_n hx hb dX1_numberOf_17 rfl (lv_at hl 3 rfl) ?_
      refine k_ald (q0 := 4) (n := 6) (F := S1.2 4) hC hP rfl dX1_numberOf_18 h (fun v101 h => ?_)
      refine lv_iadd hx hb dX1_numberOf_19 ?_
      refine lv_iconst (v := (1 : Int32)) hx hb dX1_numberOf_20 (by decide) ?_
      refine lv_iadd hx hb dX1_numberOf_21 ?_
      refine k_topi h (fun x102 h => ?_)
      refine lv_istore_n (lv' := [(2, .int x102), (0, .ref (q1 100)), (1, .int x1), (3, .int x3)]) hx hb dX1_numberOf_22 rfl hl (by decide) rfl (fun ls hl => ?_)
      refine k_iinc (v := (1 : Int32)) (lv' := fun X => [(3, .int X), (2, .int x102), (0, .ref (q1 100)), (1, .int x1)]) hC dX1_numberOf_23 hl (k := 3) rfl (by decide) (by decide) (fun _ => rfl) h (fun x103 h ls hl => ?_)
      refine lv_goto (tgt := 4) hx hb dX1_numberOf_26 (by decide) ?_
      exact ih x102 x103 o h _ _ _ hP hD hS (lv_sub hl [2, 3, 1, 0] rfl) k0
def f_X1_numberOf (N : Nat) (S1 : St) (x1 : Int32) : Option (Int32) :=
  fx_b1 (fx_it (lf_X1_numberOf_4 N x1 S1) N ((0 : Int32), (0 : Int32))) (fun x101 =>
  some x101)
set_option maxRecDepth 100000 in
set_option maxHeartbeats 4000000 in
theorem c_X1_numberOf (l : Launch) (g : GG) (N : Nat) (q1 : Nat → Nat) (S1 : St) (x1 : Int32) (r : Int32) (h : f_X1_numberOf N S1 x1 = some r) : Ci l yX1_numberOf wsX1_numberOf RM_X1_numberOf g [.ref (q1 100), .int x1] (wX1 g q1 S1) (wX1 g q1 S1) r := by
  intro sz
  refine Met.ofC (cc := cX1_numberOf) (maxL := 4) (ret := (some .int)) (by decide) rfl (Nat.le_of_ble_eq_true rfl) ?_
  intro p e s m below meth c hC hr hlk hsz A hA9 hA hP hD hS ls hl
  subst hsz
  have hC : Cx p s m ([.ref (q1 100), .int x1] : List Value).toArray c RX1 cX1_numberOf 4 wsX1_numberOf g := hC
  have hx := hC.1.1
  have hb := hC.1.2.1
  have hml := hC.1.2.2.1
  have hown := hC.1.2.2.2.1
  have hts := hC.1.2.2.2.2
  have hl : lv_has ls 4 [(0, .ref (q1 100)), (1, .int x1)] := hl
  show W p l e RM_X1_numberOf s m ([.ref (q1 100), .int x1] : List Value).toArray below meth c s.heap [] 0 0 (Qi below g [.ref (q1 100), .int x1] (wX1 g q1 S1) (wX1 g q1 S1) r s) (F0 m 0 ls [])
  unfold f_X1_numberOf at h
  refine lv_iconst (v := (0 : Int32)) hx hb dX1_numberOf_0 (by decide) ?_
  refine lv_istore_n (lv' := [(2, .int (0 : Int32)), (0, .ref (q1 100)), (1, .int x1)]) hx hb dX1_numberOf_1 rfl hl (by decide) rfl (fun ls hl => ?_)
  refine lv_iconst (v := (0 : Int32)) hx hb dX1_numberOf_2 (by decide) ?_
  refine lv_istore_n (lv' := [(3, .int (0 : Int32)), (2, .int (0 : Int32)), (0, .ref (q1 100)), (1, .int x1)]) hx hb dX1_numberOf_3 rfl hl (by decide) rfl (fun ls hl => ?_)
  obtain ⟨x101, ho102, h⟩ := fx_b1_s h
  refine lw_X1_numberOf_4 hC hA N q1 x1 S1 N (0 : Int32) (0 : Int32)  x101 ho102 _ _ _ hP hD hS (lv_sub hl [2, 3, 1, 0] rfl) ?_
  · intro y0 he H locs ls hP hD hS hl
    obtain rfl := he
    refine lv_iload_n hx hb dX1_numberOf_29 rfl (lv_at hl 0 rfl) ?_
    obtain rfl := fx_i1 h
    exact Ci.ret hC hr hlk hA9 hP hD hS dX1_numberOf_30
theorem uX1_swap_X1 : ∀ w ∈ u_ws RX1 TX1 14, w ∈ wsX1_swap := fun w h => List.mem_cons_of_mem _ (List.mem_append_right _ h)
abbrev RM_X1_swap : Room := { frames := 0, cells := 0, slots := 0, locals := 0 }
def f_X1_swap (N : Nat) (S1 : St) (x1 : Int32) (x2 : Int32) : Option (St) :=
  fx_ald 6 (S1.2 4) x1 (fun v101 =>
  fx_ald 6 (S1.2 4) x2 (fun v102 =>
  fx_ast 6 S1 4 x1 v102 (fun S103 =>
  fx_ast 6 S103 4 x2 v101 (fun S104 =>
  some S104))))
set_option maxRecDepth 100000 in
set_option maxHeartbeats 4000000 in
theorem c_X1_swap (l : Launch) (g : GG) (N : Nat) (q1 : Nat → Nat) (S1 : St) (x1 : Int32) (x2 : Int32) (F1 : St) (h : f_X1_swap N S1 x1 x2 = some F1) : Cv l yX1_swap wsX1_swap RM_X1_swap g [.ref (q1 100), .int x1, .int x2] (wX1 g q1 S1) (wX1 g q1 F1) := by
  intro sz
  refine Met.ofC (cc := cX1_swap) (maxL := 4) (ret := none) (by decide) rfl (Nat.le_of_ble_eq_true rfl) ?_
  intro p e s m below meth c hC hr hlk hsz A hA9 hA hP hD hS ls hl
  subst hsz
  have hC : Cx p s m ([.ref (q1 100), .int x1, .int x2] : List Value).toArray c RX1 cX1_swap 4 wsX1_swap g := hC
  have hx := hC.1.1
  have hb := hC.1.2.1
  have hml := hC.1.2.2.1
  have hown := hC.1.2.2.2.1
  have hts := hC.1.2.2.2.2
  have hl : lv_has ls 4 [(0, .ref (q1 100)), (1, .int x1), (2, .int x2)] := hl
  show W p l e RM_X1_swap s m ([.ref (q1 100), .int x1, .int x2] : List Value).toArray below meth c s.heap [] 0 0 (Qv below g [.ref (q1 100), .int x1, .int x2] (wX1 g q1 S1) (wX1 g q1 F1) s) (F0 m 0 ls [])
  unfold f_X1_swap at h
  refine lv_aload_n hx hb dX1_swap_0 rfl (lv_at hl 0 rfl) ?_
  refine k_get (ci := 1) (k := 4) (q0 := 0) (v := .ref (q1 4)) (C := RX1) (T := TX1) (N := 14) hC uX1_swap_X1 hP rfl rfl (by decide) (List.mem_of_getElem? (i := 1) rfl) rfl dX1_swap_1 ?_
  refine lv_iload_n hx hb dX1_swap_4 rfl (lv_at hl 1 rfl) ?_
  refine k_ald (q0 := 4) (n := 6) (F := S1.2 4) hC hP rfl dX1_swap_5 h (fun v101 h => ?_)
  refine lv_istore_n (lv' := [(3, .int v101), (0, .ref (q1 100)), (1, .int x1), (2, .int x2)]) hx hb dX1_swap_6 rfl hl (by decide) rfl (fun ls hl => ?_)
  refine lv_aload_n hx hb dX1_swap_7 rfl (lv_at hl 1 rfl) ?_
  refine k_get (ci := 1) (k := 4) (q0 := 0) (v := .ref (q1 4)) (C := RX1) (T := TX1) (N := 14) hC uX1_swap_X1 hP rfl rfl (by decide) (List.mem_of_getElem? (i := 1) rfl) rfl dX1_swap_8 ?_
  refine lv_iload_n hx hb dX1_swap_11 rfl (lv_at hl 2 rfl) ?_
  refine lv_aload_n hx hb dX1_swap_12 rfl (lv_at hl 1 rfl) ?_
  refine k_get (ci := 1) (k := 4) (q0 := 0) (v := .ref (q1 4)) (C := RX1) (T := TX1) (N := 14) hC uX1_swap_X1 hP rfl rfl (by decide) (List.mem_of_getElem? (i := 1) rfl) rfl dX1_swap_13 ?_
  refine lv_iload_n hx hb dX1_swap_16 rfl (lv_at hl 3 rfl) ?_
  refine k_ald (q0 := 4) (n := 6) (F := S1.2 4) hC hP rfl dX1_swap_17 h (fun v102 h => ?_)
  refine k_ast (q0 := 4) (n := 6) (k := 4) (S := S1) (fun S => (wX1 g q1 S)) hC hP hD hS rfl (fun _ => rfl) dX1_swap_18 h (fun S103 h H locs hP hD hS => ?_)
  refine lv_aload_n hx hb dX1_swap_19 rfl (lv_at hl 1 rfl) ?_
  refine k_get (ci := 1) (k := 4) (q0 := 0) (v := .ref (q1 4)) (C := RX1) (T := TX1) (N := 14) hC uX1_swap_X1 hP rfl rfl (by decide) (List.mem_of_getElem? (i := 1) rfl) rfl dX1_swap_20 ?_
  refine lv_iload_n hx hb dX1_swap_23 rfl (lv_at hl 3 rfl) ?_
  refine lv_iload_n hx hb dX1_swap_24 rfl (lv_at hl 0 rfl) ?_
  refine k_ast (q0 := 4) (n := 6) (k := 4) (S := S103) (fun S => (wX1 g q1 S)) hC hP hD hS rfl (fun _ => rfl) dX1_swap_25 h (fun S104 h H locs hP hD hS => ?_)
  obtain rfl := fx_i1 h
  exact Cv.ret hC hr hlk hA9 hP hD hS dX1_swap_26
theorem uX1_stepOrder_X1 : ∀ w ∈ u_ws RX1 TX1 14, w ∈ wsX1_stepOrder := fun w h => List.mem_cons_of_mem _ (List.mem_append_right _ h)
abbrev RM_X1_stepOrder : Room := { frames := 1, cells := 0, slots := 0, locals := 23 }
def bd_X1_stepOrder_4 (N : Nat) (x1 : Int32) (S1 : St) (x2 : Int32) (rec : (Int32) → Option (Int32)) : Option (Int32) :=
  (if x2 < 0 then (
    some x2) else (
    fx_ald 6 (S1.2 4) x2 (fun v101 =>
      fx_ald 6 (S1.2 4) (x2 + (1 : Int32)) (fun v102 =>
      (if v101 < v102 then (
      some x2) else (
      fx_lt (x2 + (-1 : Int32)) (fun x103 =>
        rec x103)))))))
def lf_X1_stepOrder_4 (N : Nat) (x1 : Int32) (S1 : St) : (Int32) → ((Int32) → Option (Int32)) → Option (Int32) := fun x rec => bd_X1_stepOrder_4 N x1 S1 x rec
set_option maxRecDepth 100000 in
set_option maxHeartbeats 4000000 in
theorem lw_X1_stepOrder_4 {p : Program} {l : Launch} {e : Env} {s : State} {m : MethodId} {args : Array Value} {below : List Frame} {meth : Method} {c : Code} {Q : State → Prop} {A : Nat → Prop} {H0 : Heap} {g : GG} (hC : Cx p s m args c RX1 cX1_stepOrder 6 wsX1_stepOrder g) (hA : ∀ q : Nat, H0.size ≤ q → A q) (N : Nat) (q1 : Nat → Nat) (x1 : Int32) (S1 : St) : ∀ (n : Nat) (x2 : Int32) (o : Int32), fx_it (lf_X1_stepOrder_4 N x1 S1) n x2 = some o → ∀ (H : Heap) (locs : List Loc) (ls : Array Slot), va_P g.1 vwCl (wX1 g q1 S1) H → va_D A (wX1 g q1 S1) → va_S A H0 H locs → lv_has ls 6 [(0, .ref (q1 100)), (1, .int x1), (2, .int x2)] → (∀ (z0 : Int32), o = z0 → ∀ (H : Heap) (locs : List Loc) (ls : Array Slot), va_P g.1 vwCl (wX1 g q1 S1) H → va_D A (wX1 g q1 S1) → va_S A H0 H locs → lv_has ls 6 [(0, .ref (q1 100)), (1, .int x1), (2, .int z0)] → W p l e RM_X1_stepOrder s m args below meth c H locs 0 0 Q (F0 m 31 ls [])) → W p l e RM_X1_stepOrder s m args below meth c H locs 0 0 Q (F0 m 4 ls []) := by
  have hx := hC.1.1
  have hb := hC.1.2.1
  have hml := hC.1.2.2.1
  have hown := hC.1.2.2.2.1
  have hts := hC.1.2.2.2.2
  intro n
  induction n with
  | zero => intro x2 o h; cases h
  | succ n ih =>
    intro x2 o h H locs ls hP hD hS hl k0
    have h : bd_X1_stepOrder_4 N x1 S1 x2 (fx_it (lf_X1_stepOrder_4 N x1 S1) n) = some o := h
    unfold bd_X1_stepOrder_4 at h
    refine lv_iload_n hx hb dX1_stepOrder_4 rfl (lv_at hl 2 rfl) ?_
    refine k_if_lt (tgt := 31) hC dX1_stepOrder_5 (by decide) h (fun h => ?_) (fun h => ?_)
    · exact k0 x2 (Option.some.inj h).symm _ _ _ hP hD hS (lv_sub hl [0, 1, 2] rfl)
    · refine lv_aload_n hx hb dX1_stepOrder_8 rfl (lv_at hl 0 rfl) ?_
      refine k_get (ci := 1) (k := 4) (q0 := 0) (v := .ref (q1 4)) (C := RX1) (T := TX1) (N := 14) hC uX1_stepOrder_X1 hP rfl rfl (by decide) (List.mem_of_getElem? (i := 1) rfl) rfl dX1_stepOrder_9 ?_
      refine lv_iload_n hx hb dX1_stepOrder_12 rfl (lv_at hl 2 rfl) ?_
      refine k_ald (q0 := 4) (n := 6) (F := S1.2 4) hC hP rfl dX1_stepOrder_13 h (fun v101 h => ?_)
      refine lv_aload_n hx hb dX1_stepOrder_14 rfl (lv_at hl 0 rfl) ?_
      refine k_get (ci := 1) (k := 4) (q0 := 0) (v := .ref (q1 4)) (C := RX1) (T := TX1) (N := 14) hC uX1_stepOrder_X1 hP rfl rfl (by decide) (List.mem_of_getElem? (i := 1) rfl) rfl dX1_stepOrder_15 ?_
      refine lv_iload_n hx hb dX1_stepOrder_18 rfl (lv_at hl 2 rfl) ?_
      refine lv_iconst (v := (1 : Int32)) hx hb dX1_stepOrder_19 (by decide) ?_
      refine lv_iadd hx hb dX1_stepOrder_20 ?_
      refine k_ald (q0 := 4) (n := 6) (F := S1.2 4) hC hP rfl dX1_stepOrder_21 h (fun v102 h => ?_)
      refine k_icmp_lt (tgt := 31) hC dX1_stepOrder_22 (by decide) h (fun h => ?_) (fun h => ?_)
      · exact k0 x2 (Option.some.inj h).symm _ _ _ hP hD hS (lv_sub hl [0, 1, 2] rfl)
      · refine k_iinc (v := (-1 : Int32)) (lv' := fun X => [(2, .int X), (0, .ref (q1 100)), (1, .int x1)]) hC dX1_stepOrder_25 hl (k := 2) rfl (by decide) (by decide) (fun _ => rfl) h (fun x103 h ls hl => ?_)
        refine lv_goto (tgt := 4) hx hb dX1_stepOrder_28 (by decide) ?_
        exact ih x103 o h _ _ _ hP hD hS (lv_sub hl [1, 2, 0] rfl) k0
def bd_X1_stepOrder_41 (N : Nat) (x1 : Int32) (x2 : Int32) (S1 : St) (x3 : Int32) (rec : (Int32) → Option (Int32)) : Option (Int32) :=
  (if x3 ≤ (x2 + (1 : Int32)) then (
    some x3) else (
    fx_ald 6 (S1.2 4) x3 (fun v101 =>
      fx_ald 6 (S1.2 4) x2 (fun v102 =>
      (if v102 < v101 then (
      some x3) else (
      fx_lt (x3 + (-1 : Int32)) (fun x103 =>
        rec x103)))))))
def lf_X1_stepOrder_41 (N : Nat) (x1 : Int32) (x2 : Int32) (S1 : St) : (Int32) → ((Int32) → Option (Int32)) → Option (Int32) := fun x rec => bd_X1_stepOrder_41 N x1 x2 S1 x rec
set_option maxRecDepth 100000 in
set_option maxHeartbeats 4000000 in
theorem lw_X1_stepOrder_41 {p : Program} {l : Launch} {e : Env} {s : State} {m : MethodId} {args : Array Value} {below : List Frame} {meth : Method} {c : Code} {Q : State → Prop} {A : Nat → Prop} {H0 : Heap} {g : GG} (hC : Cx p s m args c RX1 cX1_stepOrder 6 wsX1_stepOrder g) (hA : ∀ q : Nat, H0.size ≤ q → A q) (N : Nat) (q1 : Nat → Nat) (x1 : Int32) (x2 : Int32) (S1 : St) : ∀ (n : Nat) (x3 : Int32) (o : Int32), fx_it (lf_X1_stepOrder_41 N x1 x2 S1) n x3 = some o → ∀ (H : Heap) (locs : List Loc) (ls : Array Slot), va_P g.1 vwCl (wX1 g q1 S1) H → va_D A (wX1 g q1 S1) → va_S A H0 H locs → lv_has ls 6 [(0, .ref (q1 100)), (1, .int x1), (2, .int x2), (3, .int x3)] → (∀ (z0 : Int32), o = z0 → ∀ (H : Heap) (locs : List Loc) (ls : Array Slot), va_P g.1 vwCl (wX1 g q1 S1) H → va_D A (wX1 g q1 S1) → va_S A H0 H locs → lv_has ls 6 [(0, .ref (q1 100)), (1, .int x1), (2, .int x2), (3, .int z0)] → W p l e RM_X1_stepOrder s m args below meth c H locs 0 0 Q (F0 m 69 ls [])) → W p l e RM_X1_stepOrder s m args below meth c H locs 0 0 Q (F0 m 41 ls []) := by
  have hx := hC.1.1
  have hb := hC.1.2.1
  have hml := hC.1.2.2.1
  have hown := hC.1.2.2.2.1
  have hts := hC.1.2.2.2.2
  intro n
  induction n with
  | zero => intro x3 o h; cases h
  | succ n ih =>
    intro x3 o h H locs ls hP hD hS hl k0
    have h : bd_X1_stepOrder_41 N x1 x2 S1 x3 (fx_it (lf_X1_stepOrder_41 N x1 x2 S1) n) = some o := h
    unfold bd_X1_stepOrder_41 at h
    refine lv_iload_n hx hb dX1_stepOrder_41 rfl (lv_at hl 3 rfl) ?_
    refine lv_iload_n hx hb dX1_stepOrder_42 rfl (lv_at hl 2 rfl) ?_
    refine lv_iconst (v := (1 : Int32)) hx hb dX1_stepOrder_43 (by decide) ?_
    refine lv_iadd hx hb dX1_stepOrder_44 ?_
    refine k_icmp_le (tgt := 69) hC dX1_stepOrder_45 (by decide) h (fun h => ?_) (fun h => ?_)
    · exact k0 x3 (Option.some.inj h).symm _ _ _ hP hD hS (lv_sub hl [0, 1, 2, 3] rfl)
    · refine lv_aload_n hx hb dX1_stepOrder_48 rfl (lv_at hl 0 rfl) ?_
      refine k_get (ci := 1) (k := 4) (q0 := 0) (v := .ref (q1 4)) (C := RX1) (T := TX1) (N := 14) hC uX1_stepOrder_X1 hP rfl rfl (by decide) (List.mem_of_getElem? (i := 1) rfl) rfl dX1_stepOrder_49 ?_
      refine lv_iload_n hx hb dX1_stepOrder_52 rfl (lv_at hl 3 rfl) ?_
      refine k_ald (q0 := 4) (n := 6) (F := S1.2 4) hC hP rfl dX1_stepOrder_53 h (fun v101 h => ?_)
      refine lv_aload_n hx hb dX1_stepOrder_54 rfl (lv_at hl 0 rfl) ?_
      refine k_get (ci := 1) (k := 4) (q0 := 0) (v := .ref (q1 4)) (C := RX1) (T := TX1) (N := 14) hC uX1_stepOrder_X1 hP rfl rfl (by decide) (List.mem_of_getElem? (i := 1) rfl) rfl dX1_stepOrder_55 ?_
      refine lv_iload_n hx hb dX1_stepOrder_58 rfl (lv_at hl 2 rfl) ?_
      refine k_ald (q0 := 4) (n := 6) (F := S1.2 4) hC hP rfl dX1_stepOrder_59 h (fun v102 h => ?_)
      refine k_icmp_gt (tgt := 69) hC dX1_stepOrder_60 (by decide) h (fun h => ?_) (fun h => ?_)
      · exact k0 x3 (Option.some.inj h).symm _ _ _ hP hD hS (lv_sub hl [0, 1, 2, 3] rfl)
      · refine k_iinc (v := (-1 : Int32)) (lv' := fun X => [(3, .int X), (0, .ref (q1 100)), (1, .int x1), (2, .int x2)]) hC dX1_stepOrder_63 hl (k := 3) rfl (by decide) (by decide) (fun _ => rfl) h (fun x103 h ls hl => ?_)
        refine lv_goto (tgt := 41) hx hb dX1_stepOrder_66 (by decide) ?_
        exact ih x103 o h _ _ _ hP hD hS (lv_sub hl [1, 2, 3, 0] rfl) k0
def bd_X1_stepOrder_85 (N : Nat) (x4 : Int32) (x5 : Int32) (S1 : St) (rec : (Int32 × Int32 × St) → Option (St)) : Option (St) :=
  (if x4 ≤ x5 then (
    some S1) else (
    fx_b1 (f_X1_swap N S1 x5 x4) (fun S101 =>
      fx_lt (x4 + (-1 : Int32)) (fun x102 =>
      fx_lt (x5 + (1 : Int32)) (fun x103 =>
      rec (x102, x103, S101))))))
def lf_X1_stepOrder_85 (N : Nat) : (Int32 × Int32 × St) → ((Int32 × Int32 × St) → Option (St)) → Option (St) := fun x rec => bd_X1_stepOrder_85 N x.1 x.2.1 x.2.2 rec
set_option maxRecDepth 100000 in
set_option maxHeartbeats 4000000 in
theorem lw_X1_stepOrder_85 {p : Program} {l : Launch} {e : Env} {s : State} {m : MethodId} {args : Array Value} {below : List Frame} {meth : Method} {c : Code} {Q : State → Prop} {A : Nat → Prop} {H0 : Heap} {g : GG} (hC : Cx p s m args c RX1 cX1_stepOrder 6 wsX1_stepOrder g) (hA : ∀ q : Nat, H0.size ≤ q → A q) (N : Nat) (q1 : Nat → Nat) : ∀ (n : Nat) (x4 : Int32) (x5 : Int32) (S1 : St) (o : St), fx_it (lf_X1_stepOrder_85 N) n (x4, x5, S1) = some o → ∀ (H : Heap) (locs : List Loc) (ls : Array Slot), va_P g.1 vwCl (wX1 g q1 S1) H → va_D A (wX1 g q1 S1) → va_S A H0 H locs → lv_has ls 6 [(0, .ref (q1 100)), (4, .int x4), (5, .int x5)] → (∀ (Z0 : St), o = Z0 → ∀ (H : Heap) (locs : List Loc) (ls : Array Slot), va_P g.1 vwCl (wX1 g q1 Z0) H → va_D A (wX1 g q1 Z0) → va_S A H0 H locs → lv_has ls 6 [] → W p l e RM_X1_stepOrder s m args below meth c H locs 0 0 Q (F0 m 109 ls [])) → W p l e RM_X1_stepOrder s m args below meth c H locs 0 0 Q (F0 m 85 ls []) := by
  have hx := hC.1.1
  have hb := hC.1.2.1
  have hml := hC.1.2.2.1
  have hown := hC.1.2.2.2.1
  have hts := hC.1.2.2.2.2
  intro n
  induction n with
  | zero => intro x4 x5 S1 o h; cases h
  | succ n ih =>
    intro x4 x5 S1 o h H locs ls hP hD hS hl k0
    have h : bd_X1_stepOrder_85 N x4 x5 S1 (fx_it (lf_X1_stepOrder_85 N) n) = some o := h
    unfold bd_X1_stepOrder_85 at h
    refine lv_iload hx hb dX1_stepOrder_85 (lv_at hl 2 rfl) ?_
    refine lv_iload hx hb dX1_stepOrder_87 (lv_at hl 1 rfl) ?_
    refine k_icmp_ge (tgt := 109) hC dX1_stepOrder_89 (by decide) h (fun h => ?_) (fun h => ?_)
    · exact k0 S1 (Option.some.inj h).symm _ _ _ hP hD hS (lv_sub hl [] rfl)
    · refine lv_aload_n hx hb dX1_stepOrder_92 rfl (lv_at hl 0 rfl) ?_
      refine lv_iload hx hb dX1_stepOrder_93 (lv_at hl 2 rfl) ?_
      refine lv_iload hx hb dX1_stepOrder_95 (lv_at hl 1 rfl) ?_
      obtain ⟨S101, hc104, h⟩ := fx_b1_s h
      refine k_callVv (C := RX1) (ci := 1) (qr := 0) (n := 2) (As := [.int x5, .int x4]) (rest := []) (wc := (wX1 g q1 S1)) (w1 := (wX1 g q1 S101)) (ws2 := (wX1 g q1 S101)) (bytes := cX1_swap) (maxL := 4) (ret := none) hC hl.1 (c_X1_swap l g N q1 S1 x5 x4 S101 hc104) rfl gX1_stepOrder_X1_swap (by decide +kernel) rfl rfl ⟨Nat.le_of_ble_eq_true rfl, Nat.le_of_ble_eq_true rfl⟩ rfl rfl rfl (Nat.le_of_ble_eq_true rfl) ⟨Nat.le_of_ble_eq_true rfl, Nat.le_of_ble_eq_true rfl⟩ dX1_stepOrder_97 hP hD hS hA [0, 1, 2, 3, 4, 5, 6, 7] rfl (by decide +kernel) [q1 100, q1 1, q1 2, q1 3, q1 4, q1 8, q1 9, q1 10] rfl rfl rfl [] ([] : va_W) rfl rfl (n2 := 8) rfl (by decide +kernel) (fun H locs hP hD hS => ?_)
      refine k_iinc (v := (-1 : Int32)) (lv' := fun X => [(4, .int X), (0, .ref (q1 100)), (5, .int x5)]) hC dX1_stepOrder_100 hl (k := 1) rfl (by decide) (by decide) (fun _ => rfl) h (fun x102 h ls hl => ?_)
      refine k_iinc (v := (1 : Int32)) (lv' := fun X => [(5, .int X), (4, .int x102), (0, .ref (q1 100))]) hC dX1_stepOrder_103 hl (k := 2) rfl (by decide) (by decide) (fun _ => rfl) h (fun x103 h ls hl => ?_)
      refine lv_goto (tgt := 85) hx hb dX1_stepOrder_106 (by decide) ?_
      exact ih x102 x103 S101 o h _ _ _ hP hD hS (lv_sub hl [2, 1, 0] rfl) k0
def f_X1_stepOrder (N : Nat) (S1 : St) (x1 : Int32) : Option (Int32 × St) :=
  fx_lt (x1 - (2 : Int32)) (fun x101 =>
  fx_b1 (fx_it (lf_X1_stepOrder_4 N x1 S1) N x101) (fun x102 =>
  (if 0 ≤ x102 then (
    fx_lt (x1 - (1 : Int32)) (fun x104 =>
      fx_b1 (fx_it (lf_X1_stepOrder_41 N x1 x102 S1) N x104) (fun x105 =>
      fx_b1 (f_X1_swap N S1 x102 x105) (fun S107 =>
        fx_lt (x1 - (1 : Int32)) (fun x108 =>
        fx_lt (x102 + (1 : Int32)) (fun x109 =>
        fx_b1 (fx_it (lf_X1_stepOrder_85 N) N (x108, x109, S107)) (fun S110 =>
        some ((1 : Int32), S110)))))))) else (
    some ((0 : Int32), S1)))))
set_option maxRecDepth 100000 in
set_option maxHeartbeats 4000000 in
theorem c_X1_stepOrder (l : Launch) (g : GG) (N : Nat) (q1 : Nat → Nat) (S1 : St) (x1 : Int32) (r : Int32) (F1 : St) (h : f_X1_stepOrder N S1 x1 = some (r, F1)) : Ci l yX1_stepOrder wsX1_stepOrder RM_X1_stepOrder g [.ref (q1 100), .int x1] (wX1 g q1 S1) (wX1 g q1 F1) r := by
  intro sz
  refine Met.ofC (cc := cX1_stepOrder) (maxL := 6) (ret := (some .boolean)) (by decide) rfl (Nat.le_of_ble_eq_true rfl) ?_
  intro p e s m below meth c hC hr hlk hsz A hA9 hA hP hD hS ls hl
  subst hsz
  have hC : Cx p s m ([.ref (q1 100), .int x1] : List Value).toArray c RX1 cX1_stepOrder 6 wsX1_stepOrder g := hC
  have hx := hC.1.1
  have hb := hC.1.2.1
  have hml := hC.1.2.2.1
  have hown := hC.1.2.2.2.1
  have hts := hC.1.2.2.2.2
  have hl : lv_has ls 6 [(0, .ref (q1 100)), (1, .int x1)] := hl
  show W p l e RM_X1_stepOrder s m ([.ref (q1 100), .int x1] : List Value).toArray below meth c s.heap [] 0 0 (Qi below g [.ref (q1 100), .int x1] (wX1 g q1 S1) (wX1 g q1 F1) r s) (F0 m 0 ls [])
  unfold f_X1_stepOrder at h
  refine lv_iload_n hx hb dX1_stepOrder_0 rfl (lv_at hl 1 rfl) ?_
  refine lv_iconst (v := (2 : Int32)) hx hb dX1_stepOrder_1 (by decide) ?_
  refine lv_isub hx hb dX1_stepOrder_2 ?_
  refine k_topi h (fun x101 h => ?_)
  refine lv_istore_n (lv' := [(2, .int x101), (0, .ref (q1 100)), (1, .int x1)]) hx hb dX1_stepOrder_3 rfl hl (by decide) rfl (fun ls hl => ?_)
  obtain ⟨x102, ho103, h⟩ := fx_b1_s h
  refine lw_X1_stepOrder_4 hC hA N q1 x1 S1 N x101  x102 ho103 _ _ _ hP hD hS (lv_sub hl [1, 2, 0] rfl) ?_
  · intro y0 he H locs ls hP hD hS hl
    obtain rfl := he
    refine lv_iload_n hx hb dX1_stepOrder_31 rfl (lv_at hl 2 rfl) ?_
    refine k_if_ge (tgt := 37) hC dX1_stepOrder_32 (by decide) h (fun h => ?_) (fun h => ?_)
    · refine lv_iload_n hx hb dX1_stepOrder_37 rfl (lv_at hl 1 rfl) ?_
      refine lv_iconst (v := (1 : Int32)) hx hb dX1_stepOrder_38 (by decide) ?_
      refine lv_isub hx hb dX1_stepOrder_39 ?_
      refine k_topi h (fun x104 h => ?_)
      refine lv_istore_n (lv' := [(3, .int x104), (0, .ref (q1 100)), (1, .int x1), (2, .int x102)]) hx hb dX1_stepOrder_40 rfl hl (by decide) rfl (fun ls hl => ?_)
      obtain ⟨x105, ho106, h⟩ := fx_b1_s h
      refine lw_X1_stepOrder_41 hC hA N q1 x1 x102 S1 N x104  x105 ho106 _ _ _ hP hD hS (lv_sub hl [1, 2, 3, 0] rfl) ?_
      · intro y0 he H locs ls hP hD hS hl
        obtain rfl := he
        refine lv_aload_n hx hb dX1_stepOrder_69 rfl (lv_at hl 0 rfl) ?_
        refine lv_iload_n hx hb dX1_stepOrder_70 rfl (lv_at hl 2 rfl) ?_
        refine lv_iload_n hx hb dX1_stepOrder_71 rfl (lv_at hl 3 rfl) ?_
        obtain ⟨S107, hc112, h⟩ := fx_b1_s h
        refine k_callVv (C := RX1) (ci := 1) (qr := 0) (n := 2) (As := [.int x102, .int x105]) (rest := []) (wc := (wX1 g q1 S1)) (w1 := (wX1 g q1 S107)) (ws2 := (wX1 g q1 S107)) (bytes := cX1_swap) (maxL := 4) (ret := none) hC hl.1 (c_X1_swap l g N q1 S1 x102 x105 S107 hc112) rfl gX1_stepOrder_X1_swap (by decide +kernel) rfl rfl ⟨Nat.le_of_ble_eq_true rfl, Nat.le_of_ble_eq_true rfl⟩ rfl rfl rfl (Nat.le_of_ble_eq_true rfl) ⟨Nat.le_of_ble_eq_true rfl, Nat.le_of_ble_eq_true rfl⟩ dX1_stepOrder_72 hP hD hS hA [0, 1, 2, 3, 4, 5, 6, 7] rfl (by decide +kernel) [q1 100, q1 1, q1 2, q1 3, q1 4, q1 8, q1 9, q1 10] rfl rfl rfl [] ([] : va_W) rfl rfl (n2 := 8) rfl (by decide +kernel) (fun H locs hP hD hS => ?_)
        refine lv_iload_n hx hb dX1_stepOrder_75 rfl (lv_at hl 1 rfl) ?_
        refine lv_iconst (v := (1 : Int32)) hx hb dX1_stepOrder_76 (by decide) ?_
        refine lv_isub hx hb dX1_stepOrder_77 ?_
        refine k_topi h (fun x108 h => ?_)
        refine lv_istore (lv' := [(4, .int x108), (0, .ref (q1 100)), (1, .int x1), (2, .int x102), (3, .int x105)]) hx hb dX1_stepOrder_78 hl (by decide) rfl (fun ls hl => ?_)
        refine lv_iload_n hx hb dX1_stepOrder_80 rfl (lv_at hl 3 rfl) ?_
        refine lv_iconst (v := (1 : Int32)) hx hb dX1_stepOrder_81 (by decide) ?_
        refine lv_iadd hx hb dX1_stepOrder_82 ?_
        refine k_topi h (fun x109 h => ?_)
        refine lv_istore (lv' := [(5, .int x109), (4, .int x108), (0, .ref (q1 100)), (1, .int x1), (2, .int x102), (3, .int x105)]) hx hb dX1_stepOrder_83 hl (by decide) rfl (fun ls hl => ?_)
        obtain ⟨S110, ho111, h⟩ := fx_b1_s h
        refine lw_X1_stepOrder_85 hC hA N q1 N x108 x109 S107  S110 ho111 _ _ _ hP hD hS (lv_sub hl [2, 1, 0] rfl) ?_
        · intro y0 he H locs ls hP hD hS hl
          obtain rfl := he
          refine lv_iconst (v := (1 : Int32)) hx hb dX1_stepOrder_109 (by decide) ?_
          obtain ⟨rfl, rfl⟩ := fx_i2 h
          exact Ci.retz hC hr hlk rfl hA9 hP hD hS dX1_stepOrder_110
    · refine lv_iconst (v := (0 : Int32)) hx hb dX1_stepOrder_35 (by decide) ?_
      obtain ⟨rfl, rfl⟩ := fx_i2 h
      exact Ci.retz hC hr hlk rfl hA9 hP hD hS dX1_stepOrder_36
theorem uX1_tryOrders_X1 : ∀ w ∈ u_ws RX1 TX1 14, w ∈ wsX1_tryOrders := fun w h => List.mem_cons_of_mem _ (List.mem_append_right _ h)
abbrev RM_X1_tryOrders : Room := { frames := 2, cells := 0, slots := 0, locals := 48 }
def bd_X1_tryOrders_31 (N : Nat) (x1 : Int32) (x3 : Int32) (x4 : Int32) (S1 : St) (rec : (Int32 × Int32 × St) → Option (St)) : Option (St) :=
  (if (720 : Int32) ≤ x4 then (
    some S1) else (
    (if x3 = 0 then (
      some S1) else (
      fx_b1 (f_X1_minuteAllOut N S1 x1) (fun v101 =>
        fx_b1 ((if v101 = (-6 : Int32) then (
        some S1) else (
        fx_b1 ((if (S1.1 5) = 0 then (
          fx_b1 (f_X1_numberOf N S1 x1) (fun v118 =>
            fx_lt (stI S1 6 v118) (fun S119 =>
            some S119))) else (
          some S1)) : Option (St)) (fun S109 =>
          fx_b1 ((if (S109.1 5) = 0 then (
            some v101) else (
            fx_lt (if v101 < (S109.1 7) then v101 else (S109.1 7)) (fun x116 =>
              some x116))) : Option (Int32)) (fun v111 =>
            fx_lt (stI S109 7 v111) (fun S113 =>
              fx_lt (stI S113 5 ((S113.1 5) + (1 : Int32))) (fun S114 =>
              some S114)))))) : Option (St)) (fun S102 =>
        fx_b2 (f_X1_stepOrder N S102 x1) (fun v104 S105 =>
          fx_lt (x4 + (1 : Int32)) (fun x106 =>
          rec (v104, x106, S105)))))))))
def lf_X1_tryOrders_31 (N : Nat) (x1 : Int32) : (Int32 × Int32 × St) → ((Int32 × Int32 × St) → Option (St)) → Option (St) := fun x rec => bd_X1_tryOrders_31 N x1 x.1 x.2.1 x.2.2 rec
set_option maxRecDepth 100000 in
set_option maxHeartbeats 4000000 in
theorem lw_X1_tryOrders_31 {p : Program} {l : Launch} {e : Env} {s : State} {m : MethodId} {args : Array Value} {below : List Frame} {meth : Method} {c : Code} {Q : State → Prop} {A : Nat → Prop} {H0 : Heap} {g : GG} (hC : Cx p s m args c RX1 cX1_tryOrders 6 wsX1_tryOrders g) (hA : ∀ q : Nat, H0.size ≤ q → A q) (N : Nat) (q1 : Nat → Nat) (x1 : Int32) : ∀ (n : Nat) (x3 : Int32) (x4 : Int32) (S1 : St) (o : St), fx_it (lf_X1_tryOrders_31 N x1) n (x3, x4, S1) = some o → ∀ (H : Heap) (locs : List Loc) (ls : Array Slot), va_P g.1 vwCl (wX1 g q1 S1) H → va_D A (wX1 g q1 S1) → va_S A H0 H locs → lv_has ls 6 [(0, .ref (q1 100)), (1, .int x1), (3, .int x3), (4, .int x4)] → (∀ (Z0 : St), o = Z0 → ∀ (H : Heap) (locs : List Loc) (ls : Array Slot), va_P g.1 vwCl (wX1 g q1 Z0) H → va_D A (wX1 g q1 Z0) → va_S A H0 H locs → lv_has ls 6 [] → W p l e RM_X1_tryOrders s m args below meth c H locs 0 0 Q (F0 m 120 ls [])) → W p l e RM_X1_tryOrders s m args below meth c H locs 0 0 Q (F0 m 31 ls []) := by
  have hx := hC.1.1
  have hb := hC.1.2.1
  have hml := hC.1.2.2.1
  have hown := hC.1.2.2.2.1
  have hts := hC.1.2.2.2.2
  intro n
  induction n with
  | zero => intro x3 x4 S1 o h; cases h
  | succ n ih =>
    intro x3 x4 S1 o h H locs ls hP hD hS hl k0
    have h : bd_X1_tryOrders_31 N x1 x3 x4 S1 (fx_it (lf_X1_tryOrders_31 N x1) n) = some o := h
    unfold bd_X1_tryOrders_31 at h
    refine lv_iload hx hb dX1_tryOrders_31 (lv_at hl 3 rfl) ?_
    refine lv_sipush (v := (720 : Int32)) hx hb dX1_tryOrders_33 (by decide) ?_
    refine k_icmp_ge (tgt := 120) hC dX1_tryOrders_36 (by decide) h (fun h => ?_) (fun h => ?_)
    · exact k0 S1 (Option.some.inj h).symm _ _ _ hP hD hS (lv_sub hl [] rfl)
    · refine lv_iload_n hx hb dX1_tryOrders_39 rfl (lv_at hl 2 rfl) ?_
      refine k_if_eq (tgt := 120) hC dX1_tryOrders_40 (by decide) h (fun h => ?_) (fun h => ?_)
      · exact k0 S1 (Option.some.inj h).symm _ _ _ hP hD hS (lv_sub hl [] rfl)
      · refine lv_aload_n hx hb dX1_tryOrders_43 rfl (lv_at hl 0 rfl) ?_
        refine lv_iload_n hx hb dX1_tryOrders_44 rfl (lv_at hl 1 rfl) ?_
        obtain ⟨v101, hc121, h⟩ := fx_b1_s h
        refine k_callVi0 (C := RX1) (ci := 1) (qr := 0) (n := 1) (As := [.int x1]) (rest := []) (wc := (wX1 g q1 S1)) (bytes := cX1_minuteAllOut) (maxL := 5) (ret := (some .int)) hC hl.1 (c_X1_minuteAllOut l g N q1 S1 x1 v101 hc121) rfl gX1_tryOrders_X1_minuteAllOut (by decide +kernel) rfl rfl ⟨Nat.le_of_ble_eq_true rfl, Nat.le_of_ble_eq_true rfl⟩ rfl rfl rfl (Nat.le_of_ble_eq_true rfl) ⟨Nat.le_of_ble_eq_true rfl, Nat.le_of_ble_eq_true rfl⟩ dX1_tryOrders_45 hP hD hS hA [0, 1, 2, 3, 4, 5, 6, 7] rfl (by decide +kernel) (fun H locs hP hD hS => ?_)
        refine lv_istore (lv' := [(5, .int v101), (0, .ref (q1 100)), (1, .int x1), (3, .int x3), (4, .int x4)]) hx hb dX1_tryOrders_48 hl (by decide) rfl (fun ls hl => ?_)
        refine lv_iload hx hb dX1_tryOrders_50 (lv_at hl 0 rfl) ?_
        refine lv_bipush (v := (-6 : Int32)) hx hb dX1_tryOrders_52 (by decide) ?_
        obtain ⟨S102, hv103, h⟩ := fx_b1_s h
        have K108 : ∀ (H : Heap) (locs : List Loc) (ls : Array Slot), va_P g.1 vwCl (wX1 g q1 S102) H → va_D A (wX1 g q1 S102) → va_S A H0 H locs → lv_has ls 6 [(0, .ref (q1 100)), (1, .int x1), (4, .int x4)] → W p l e RM_X1_tryOrders s m args below meth c H locs 0 0 Q (F0 m 108 ls []) := by
          intro H locs ls hP hD hS hl
          refine lv_aload_n hx hb dX1_tryOrders_108 rfl (lv_at hl 0 rfl) ?_
          refine lv_iload_n hx hb dX1_tryOrders_109 rfl (lv_at hl 1 rfl) ?_
          obtain ⟨v104, S105, hc107, h⟩ := fx_b2_s h
          refine k_callVi (C := RX1) (ci := 1) (qr := 0) (n := 1) (As := [.int x1]) (rest := []) (wc := (wX1 g q1 S102)) (w1 := (wX1 g q1 S105)) (ws2 := (wX1 g q1 S105)) (bytes := cX1_stepOrder) (maxL := 6) (ret := (some .boolean)) hC hl.1 (c_X1_stepOrder l g N q1 S102 x1 v104 S105 hc107) rfl gX1_tryOrders_X1_stepOrder (by decide +kernel) rfl rfl ⟨Nat.le_of_ble_eq_true rfl, Nat.le_of_ble_eq_true rfl⟩ rfl rfl rfl (Nat.le_of_ble_eq_true rfl) ⟨Nat.le_of_ble_eq_true rfl, Nat.le_of_ble_eq_true rfl⟩ dX1_tryOrders_110 hP hD hS hA [0, 1, 2, 3, 4, 5, 6, 7] rfl (by decide +kernel) [q1 100, q1 1, q1 2, q1 3, q1 4, q1 8, q1 9, q1 10] rfl rfl rfl [] ([] : va_W) rfl rfl (n2 := 8) rfl (by decide +kernel) (fun H locs hP hD hS => ?_)
          refine lv_istore_n (lv' := [(3, .int v104), (0, .ref (q1 100)), (1, .int x1), (4, .int x4)]) hx hb dX1_tryOrders_113 rfl hl (by decide) rfl (fun ls hl => ?_)
          refine k_iinc (v := (1 : Int32)) (lv' := fun X => [(4, .int X), (3, .int v104), (0, .ref (q1 100)), (1, .int x1)]) hC dX1_tryOrders_114 hl (k := 3) rfl (by decide) (by decide) (fun _ => rfl) h (fun x106 h ls hl => ?_)
          refine lv_goto (tgt := 31) hx hb dX1_tryOrders_117 (by decide) ?_
          exact ih v104 x106 S105 o h _ _ _ hP hD hS (lv_sub hl [2, 3, 1, 0] rfl) k0
        refine k_icmp_eq (tgt := 108) hC dX1_tryOrders_54 (by decide) hv103 (fun hv103 => ?_) (fun hv103 => ?_)
        · obtain rfl := fx_i1 hv103
          exact K108 _ _ _ hP hD hS (lv_sub hl [1, 2, 4] rfl)
        · refine lv_aload_n hx hb dX1_tryOrders_57 rfl (lv_at hl 1 rfl) ?_
          refine k_get (ci := 1) (k := 5) (q0 := 0) (v := .int (S1.1 5)) (C := RX1) (T := TX1) (N := 14) hC uX1_tryOrders_X1 hP rfl rfl (by decide) (List.mem_of_getElem? (i := 1) rfl) rfl dX1_tryOrders_58 ?_
          obtain ⟨S109, hv110, hv103⟩ := fx_b1_s hv103
          have K117 : ∀ (H : Heap) (locs : List Loc) (ls : Array Slot), va_P g.1 vwCl (wX1 g q1 S109) H → va_D A (wX1 g q1 S109) → va_S A H0 H locs → lv_has ls 6 [(5, .int v101), (0, .ref (q1 100)), (1, .int x1), (4, .int x4)] → W p l e RM_X1_tryOrders s m args below meth c H locs 0 0 Q (F0 m 73 ls []) := by
            intro H locs ls hP hD hS hl
            refine lv_aload_n hx hb dX1_tryOrders_73 rfl (lv_at hl 1 rfl) ?_
            refine lv_aload_n hx hb dX1_tryOrders_74 rfl (lv_at hl 1 rfl) ?_
            refine k_get (ci := 1) (k := 5) (q0 := 0) (v := .int (S109.1 5)) (C := RX1) (T := TX1) (N := 14) hC uX1_tryOrders_X1 hP rfl rfl (by decide) (List.mem_of_getElem? (i := 1) rfl) rfl dX1_tryOrders_75 ?_
            obtain ⟨v111, hv112, hv103⟩ := fx_b1_s hv103
            have K115 : ∀ (H : Heap) (locs : List Loc) (ls : Array Slot), va_P g.1 vwCl (wX1 g q1 S109) H → va_D A (wX1 g q1 S109) → va_S A H0 H locs → lv_has ls 6 [(0, .ref (q1 100)), (1, .int x1), (4, .int x4)] → W p l e RM_X1_tryOrders s m args below meth c H locs 0 0 Q (F0 m 95 ls [.int v111, .ref (q1 100)]) := by
              intro H locs ls hP hD hS hl
              refine k_put (ci := 1) (k := 7) (q0 := 0) (C := RX1) (T := TX1) (N := 14) (S2 := stI S109 7 v111) tyX1 (fun S => (wX1 g q1 S)) hC uX1_tryOrders_X1 tyX1_ok nmX1 hP hD hS rfl rfl (by decide) (List.mem_of_getElem? (i := 3) rfl) rfl (tyX1_ok 7 (by decide)) (Nat.le_of_ble_eq_true rfl) dX1_tryOrders_95 rfl hv103 (fun S113 hv103 H locs hP hD hS => ?_)
              refine lv_aload_n hx hb dX1_tryOrders_98 rfl (lv_at hl 0 rfl) ?_
              refine lv_dup hx hb dX1_tryOrders_99 rfl ?_
              refine k_get (ci := 1) (k := 5) (q0 := 0) (v := .int (S113.1 5)) (C := RX1) (T := TX1) (N := 14) hC uX1_tryOrders_X1 hP rfl rfl (by decide) (List.mem_of_getElem? (i := 1) rfl) rfl dX1_tryOrders_100 ?_
              refine lv_iconst (v := (1 : Int32)) hx hb dX1_tryOrders_103 (by decide) ?_
              refine lv_iadd hx hb dX1_tryOrders_104 ?_
              refine k_put (ci := 1) (k := 5) (q0 := 0) (C := RX1) (T := TX1) (N := 14) (S2 := stI S113 5 ((S113.1 5) + (1 : Int32))) tyX1 (fun S => (wX1 g q1 S)) hC uX1_tryOrders_X1 tyX1_ok nmX1 hP hD hS rfl rfl (by decide) (List.mem_of_getElem? (i := 1) rfl) rfl (tyX1_ok 5 (by decide)) (Nat.le_of_ble_eq_true rfl) dX1_tryOrders_105 rfl hv103 (fun S114 hv103 H locs hP hD hS => ?_)
              obtain rfl := fx_i1 hv103
              exact K108 _ _ _ hP hD hS (lv_sub hl [0, 1, 2] rfl)
            refine k_if_ne (tgt := 86) hC dX1_tryOrders_78 (by decide) hv112 (fun hv112 => ?_) (fun hv112 => ?_)
            · refine lv_aload_n hx hb dX1_tryOrders_86 rfl (lv_at hl 1 rfl) ?_
              refine k_get (ci := 1) (k := 7) (q0 := 0) (v := .int (S109.1 7)) (C := RX1) (T := TX1) (N := 14) hC uX1_tryOrders_X1 hP rfl rfl (by decide) (List.mem_of_getElem? (i := 3) rfl) rfl dX1_tryOrders_87 ?_
              refine lv_iload hx hb dX1_tryOrders_90 (lv_at hl 0 rfl) ?_
              refine va_mmin hx hb (hml.trans hl.1.symm) hown (hts _ (List.mem_of_getElem? (i := 4) rfl)) (hts _ (List.mem_of_getElem? (i := 5) rfl)) (hts _ (List.mem_of_getElem? (i := 6) rfl)) (hts _ (List.mem_of_getElem? (i := 7) rfl)) (Nat.le_of_ble_eq_true rfl) (Nat.le_of_ble_eq_true rfl) (Nat.zero_le _) (Nat.zero_le _) dX1_tryOrders_92 ?_
              refine k_topi hv112 (fun x116 hv112 => ?_)
              obtain rfl := fx_i1 hv112
              exact K115 _ _ _ hP hD hS (lv_sub hl [1, 2, 3] rfl)
            · refine lv_iload hx hb dX1_tryOrders_81 (lv_at hl 0 rfl) ?_
              refine lv_goto (tgt := 95) hx hb dX1_tryOrders_83 (by decide) ?_
              obtain rfl := fx_i1 hv112
              exact K115 _ _ _ hP hD hS (lv_sub hl [1, 2, 3] rfl)
          refine k_if_ne (tgt := 73) hC dX1_tryOrders_61 (by decide) hv110 (fun hv110 => ?_) (fun hv110 => ?_)
          · obtain rfl := fx_i1 hv110
            exact K117 _ _ _ hP hD hS (lv_sub hl [0, 1, 2, 4] rfl)
          · refine lv_aload_n hx hb dX1_tryOrders_64 rfl (lv_at hl 1 rfl) ?_
            refine lv_aload_n hx hb dX1_tryOrders_65 rfl (lv_at hl 1 rfl) ?_
            refine lv_iload_n hx hb dX1_tryOrders_66 rfl (lv_at hl 2 rfl) ?_
            obtain ⟨v118, hc120, hv110⟩ := fx_b1_s hv110
            refine k_callVi0 (C := RX1) (ci := 1) (qr := 0) (n := 1) (As := [.int x1]) (rest := [.ref (q1 100)]) (wc := (wX1 g q1 S1)) (bytes := cX1_numberOf) (maxL := 4) (ret := (some .int)) hC hl.1 (c_X1_numberOf l g N q1 S1 x1 v118 hc120) rfl gX1_tryOrders_X1_numberOf (by decide +kernel) rfl rfl ⟨Nat.le_of_ble_eq_true rfl, Nat.le_of_ble_eq_true rfl⟩ rfl rfl rfl (Nat.le_of_ble_eq_true rfl) ⟨Nat.le_of_ble_eq_true rfl, Nat.le_of_ble_eq_true rfl⟩ dX1_tryOrders_67 hP hD hS hA [0, 1, 2, 3, 4, 5, 6, 7] rfl (by decide +kernel) (fun H locs hP hD hS => ?_)
            refine k_put (ci := 1) (k := 6) (q0 := 0) (C := RX1) (T := TX1) (N := 14) (S2 := stI S1 6 v118) tyX1 (fun S => (wX1 g q1 S)) hC uX1_tryOrders_X1 tyX1_ok nmX1 hP hD hS rfl rfl (by decide) (List.mem_of_getElem? (i := 2) rfl) rfl (tyX1_ok 6 (by decide)) (Nat.le_of_ble_eq_true rfl) dX1_tryOrders_70 rfl hv110 (fun S119 hv110 H locs hP hD hS => ?_)
            obtain rfl := fx_i1 hv110
            exact K117 _ _ _ hP hD hS (lv_sub hl [0, 1, 2, 4] rfl)
def f_X1_tryOrders (N : Nat) (S1 : St) (x1 : Int32) (x2 : Int32) : Option (St) :=
  fx_lt (stI S1 5 (0 : Int32)) (fun S101 =>
  fx_lt (stI S101 6 (-6 : Int32)) (fun S102 =>
  fx_lt (stI S102 7 (-6 : Int32)) (fun S103 =>
  fx_b1 ((if x2 < x1 then (
  some (0 : Int32)) else (
  some (1 : Int32))) : Option (Int32)) (fun v104 =>
  fx_b1 (fx_it (lf_X1_tryOrders_31 N x1) N (v104, (0 : Int32), S103)) (fun S106 =>
    some S106)))))
set_option maxRecDepth 100000 in
set_option maxHeartbeats 4000000 in
theorem c_X1_tryOrders (l : Launch) (g : GG) (N : Nat) (q1 : Nat → Nat) (S1 : St) (x1 : Int32) (x2 : Int32) (F1 : St) (h : f_X1_tryOrders N S1 x1 x2 = some F1) : Cv l yX1_tryOrders wsX1_tryOrders RM_X1_tryOrders g [.ref (q1 100), .int x1, .int x2] (wX1 g q1 S1) (wX1 g q1 F1) := by
  intro sz
  refine Met.ofC (cc := cX1_tryOrders) (maxL := 6) (ret := none) (by decide) rfl (Nat.le_of_ble_eq_true rfl) ?_
  intro p e s m below meth c hC hr hlk hsz A hA9 hA hP hD hS ls hl
  subst hsz
  have hC : Cx p s m ([.ref (q1 100), .int x1, .int x2] : List Value).toArray c RX1 cX1_tryOrders 6 wsX1_tryOrders g := hC
  have hx := hC.1.1
  have hb := hC.1.2.1
  have hml := hC.1.2.2.1
  have hown := hC.1.2.2.2.1
  have hts := hC.1.2.2.2.2
  have hl : lv_has ls 6 [(0, .ref (q1 100)), (1, .int x1), (2, .int x2)] := hl
  show W p l e RM_X1_tryOrders s m ([.ref (q1 100), .int x1, .int x2] : List Value).toArray below meth c s.heap [] 0 0 (Qv below g [.ref (q1 100), .int x1, .int x2] (wX1 g q1 S1) (wX1 g q1 F1) s) (F0 m 0 ls [])
  unfold f_X1_tryOrders at h
  refine lv_aload_n hx hb dX1_tryOrders_0 rfl (lv_at hl 0 rfl) ?_
  refine lv_iconst (v := (0 : Int32)) hx hb dX1_tryOrders_1 (by decide) ?_
  refine k_put (ci := 1) (k := 5) (q0 := 0) (C := RX1) (T := TX1) (N := 14) (S2 := stI S1 5 (0 : Int32)) tyX1 (fun S => (wX1 g q1 S)) hC uX1_tryOrders_X1 tyX1_ok nmX1 hP hD hS rfl rfl (by decide) (List.mem_of_getElem? (i := 1) rfl) rfl (tyX1_ok 5 (by decide)) (Nat.le_of_ble_eq_true rfl) dX1_tryOrders_2 rfl h (fun S101 h H locs hP hD hS => ?_)
  refine lv_aload_n hx hb dX1_tryOrders_5 rfl (lv_at hl 0 rfl) ?_
  refine lv_bipush (v := (-6 : Int32)) hx hb dX1_tryOrders_6 (by decide) ?_
  refine k_put (ci := 1) (k := 6) (q0 := 0) (C := RX1) (T := TX1) (N := 14) (S2 := stI S101 6 (-6 : Int32)) tyX1 (fun S => (wX1 g q1 S)) hC uX1_tryOrders_X1 tyX1_ok nmX1 hP hD hS rfl rfl (by decide) (List.mem_of_getElem? (i := 2) rfl) rfl (tyX1_ok 6 (by decide)) (Nat.le_of_ble_eq_true rfl) dX1_tryOrders_8 rfl h (fun S102 h H locs hP hD hS => ?_)
  refine lv_aload_n hx hb dX1_tryOrders_11 rfl (lv_at hl 0 rfl) ?_
  refine lv_bipush (v := (-6 : Int32)) hx hb dX1_tryOrders_12 (by decide) ?_
  refine k_put (ci := 1) (k := 7) (q0 := 0) (C := RX1) (T := TX1) (N := 14) (S2 := stI S102 7 (-6 : Int32)) tyX1 (fun S => (wX1 g q1 S)) hC uX1_tryOrders_X1 tyX1_ok nmX1 hP hD hS rfl rfl (by decide) (List.mem_of_getElem? (i := 3) rfl) rfl (tyX1_ok 7 (by decide)) (Nat.le_of_ble_eq_true rfl) dX1_tryOrders_14 rfl h (fun S103 h H locs hP hD hS => ?_)
  refine lv_iload_n hx hb dX1_tryOrders_17 rfl (lv_at hl 1 rfl) ?_
  refine lv_iload_n hx hb dX1_tryOrders_18 rfl (lv_at hl 2 rfl) ?_
  obtain ⟨v104, hv105, h⟩ := fx_b1_s h
  have K108 : ∀ (H : Heap) (locs : List Loc) (ls : Array Slot), va_P g.1 vwCl (wX1 g q1 S103) H → va_D A (wX1 g q1 S103) → va_S A s.heap H locs → lv_has ls 6 [(0, .ref (q1 100)), (1, .int x1)] → W p l e RM_X1_tryOrders s m ([.ref (q1 100), .int x1, .int x2] : List Value).toArray below meth c H locs 0 0 (Qv below g [.ref (q1 100), .int x1, .int x2] (wX1 g q1 S1) (wX1 g q1 F1) s) (F0 m 27 ls [.int v104]) := by
    intro H locs ls hP hD hS hl
    refine lv_istore_n (lv' := [(3, .int v104), (0, .ref (q1 100)), (1, .int x1)]) hx hb dX1_tryOrders_27 rfl hl (by decide) rfl (fun ls hl => ?_)
    refine lv_iconst (v := (0 : Int32)) hx hb dX1_tryOrders_28 (by decide) ?_
    refine lv_istore (lv' := [(4, .int (0 : Int32)), (3, .int v104), (0, .ref (q1 100)), (1, .int x1)]) hx hb dX1_tryOrders_29 hl (by decide) rfl (fun ls hl => ?_)
    obtain ⟨S106, ho107, h⟩ := fx_b1_s h
    refine lw_X1_tryOrders_31 hC hA N q1 x1 N v104 (0 : Int32) S103  S106 ho107 _ _ _ hP hD hS (lv_sub hl [2, 3, 1, 0] rfl) ?_
    · intro y0 he H locs ls hP hD hS hl
      obtain rfl := he
      obtain rfl := fx_i1 h
      exact Cv.ret hC hr hlk hA9 hP hD hS dX1_tryOrders_120
  refine k_icmp_gt (tgt := 26) hC dX1_tryOrders_19 (by decide) hv105 (fun hv105 => ?_) (fun hv105 => ?_)
  · refine lv_iconst (v := (0 : Int32)) hx hb dX1_tryOrders_26 (by decide) ?_
    obtain rfl := fx_i1 hv105
    exact K108 _ _ _ hP hD hS (lv_sub hl [0, 1] rfl)
  · refine lv_iconst (v := (1 : Int32)) hx hb dX1_tryOrders_22 (by decide) ?_
    refine lv_goto (tgt := 27) hx hb dX1_tryOrders_23 (by decide) ?_
    obtain rfl := fx_i1 hv105
    exact K108 _ _ _ hP hD hS (lv_sub hl [0, 1] rfl)
theorem uX1_tryAllLoaves_X1 : ∀ w ∈ u_ws RX1 TX1 14, w ∈ wsX1_tryAllLoaves := fun w h => List.mem_cons_of_mem _ (List.mem_append_right _ h)
abbrev RM_X1_tryAllLoaves : Room := { frames := 3, cells := 0, slots := 0, locals := 73 }
def f_X1_tryAllLoaves (N : Nat) (S1 : St) (x1 : Int32) : Option (St) :=
  fx_cpy 6 (S1.2 1) 6 S1 4 (0 : Int32) (0 : Int32) (S1.1 0) (fun S101 =>
  fx_b1 (f_X1_tryOrders N S101 (S101.1 0) x1) (fun S102 =>
  some S102))
set_option maxRecDepth 100000 in
set_option maxHeartbeats 4000000 in
theorem c_X1_tryAllLoaves (l : Launch) (g : GG) (N : Nat) (q1 : Nat → Nat) (S1 : St) (x1 : Int32) (F1 : St) (h : f_X1_tryAllLoaves N S1 x1 = some F1) : Cv l yX1_tryAllLoaves wsX1_tryAllLoaves RM_X1_tryAllLoaves g [.ref (q1 100), .int x1] (wX1 g q1 S1) (wX1 g q1 F1) := by
  intro sz
  refine Met.ofC (cc := cX1_tryAllLoaves) (maxL := 2) (ret := none) (by decide) rfl (Nat.le_of_ble_eq_true rfl) ?_
  intro p e s m below meth c hC hr hlk hsz A hA9 hA hP hD hS ls hl
  subst hsz
  have hC : Cx p s m ([.ref (q1 100), .int x1] : List Value).toArray c RX1 cX1_tryAllLoaves 2 wsX1_tryAllLoaves g := hC
  have hx := hC.1.1
  have hb := hC.1.2.1
  have hml := hC.1.2.2.1
  have hown := hC.1.2.2.2.1
  have hts := hC.1.2.2.2.2
  have hl : lv_has ls 2 [(0, .ref (q1 100)), (1, .int x1)] := hl
  show W p l e RM_X1_tryAllLoaves s m ([.ref (q1 100), .int x1] : List Value).toArray below meth c s.heap [] 0 0 (Qv below g [.ref (q1 100), .int x1] (wX1 g q1 S1) (wX1 g q1 F1) s) (F0 m 0 ls [])
  unfold f_X1_tryAllLoaves at h
  refine lv_aload_n hx hb dX1_tryAllLoaves_0 rfl (lv_at hl 0 rfl) ?_
  refine k_get (ci := 1) (k := 1) (q0 := 0) (v := .ref (q1 1)) (C := RX1) (T := TX1) (N := 14) hC uX1_tryAllLoaves_X1 hP rfl rfl (by decide) (List.mem_of_getElem? (i := 1) rfl) rfl dX1_tryAllLoaves_1 ?_
  refine lv_iconst (v := (0 : Int32)) hx hb dX1_tryAllLoaves_4 (by decide) ?_
  refine lv_aload_n hx hb dX1_tryAllLoaves_5 rfl (lv_at hl 0 rfl) ?_
  refine k_get (ci := 1) (k := 4) (q0 := 0) (v := .ref (q1 4)) (C := RX1) (T := TX1) (N := 14) hC uX1_tryAllLoaves_X1 hP rfl rfl (by decide) (List.mem_of_getElem? (i := 2) rfl) rfl dX1_tryAllLoaves_6 ?_
  refine lv_iconst (v := (0 : Int32)) hx hb dX1_tryAllLoaves_9 (by decide) ?_
  refine lv_aload_n hx hb dX1_tryAllLoaves_10 rfl (lv_at hl 0 rfl) ?_
  refine k_get (ci := 1) (k := 0) (q0 := 0) (v := .int (S1.1 0)) (C := RX1) (T := TX1) (N := 14) hC uX1_tryAllLoaves_X1 hP rfl rfl (by decide) (List.mem_of_getElem? (i := 3) rfl) rfl dX1_tryAllLoaves_11 ?_
  refine k_copy (q0 := 1) (q1 := 4) (n0 := 6) (n1 := 6) (F := S1.2 1) (S := S1) (k := 4) (fun S => (wX1 g q1 S)) hC hl.1 (List.mem_of_getElem? (i := 4) rfl) (List.mem_of_getElem? (i := 5) rfl) (List.mem_of_getElem? (i := 6) rfl) (List.mem_of_getElem? (i := 7) rfl) hP hD hS rfl rfl (fun _ => rfl) (Nat.le_of_ble_eq_true rfl) (Nat.le_of_ble_eq_true rfl) dX1_tryAllLoaves_14 h (fun S101 h H locs hP hD hS => ?_)
  refine lv_aload_n hx hb dX1_tryAllLoaves_17 rfl (lv_at hl 0 rfl) ?_
  refine lv_aload_n hx hb dX1_tryAllLoaves_18 rfl (lv_at hl 0 rfl) ?_
  refine k_get (ci := 1) (k := 0) (q0 := 0) (v := .int (S101.1 0)) (C := RX1) (T := TX1) (N := 14) hC uX1_tryAllLoaves_X1 hP rfl rfl (by decide) (List.mem_of_getElem? (i := 3) rfl) rfl dX1_tryAllLoaves_19 ?_
  refine lv_iload_n hx hb dX1_tryAllLoaves_22 rfl (lv_at hl 1 rfl) ?_
  obtain ⟨S102, hc103, h⟩ := fx_b1_s h
  refine k_callVv (C := RX1) (ci := 1) (qr := 0) (n := 2) (As := [.int (S101.1 0), .int x1]) (rest := []) (wc := (wX1 g q1 S101)) (w1 := (wX1 g q1 S102)) (ws2 := (wX1 g q1 S102)) (bytes := cX1_tryOrders) (maxL := 6) (ret := none) hC hl.1 (c_X1_tryOrders l g N q1 S101 (S101.1 0) x1 S102 hc103) rfl gX1_tryAllLoaves_X1_tryOrders (by decide +kernel) rfl rfl ⟨Nat.le_of_ble_eq_true rfl, Nat.le_of_ble_eq_true rfl⟩ rfl rfl rfl (Nat.le_of_ble_eq_true rfl) ⟨Nat.le_of_ble_eq_true rfl, Nat.le_of_ble_eq_true rfl⟩ dX1_tryAllLoaves_23 hP hD hS hA [0, 1, 2, 3, 4, 5, 6, 7] rfl (by decide +kernel) [q1 100, q1 1, q1 2, q1 3, q1 4, q1 8, q1 9, q1 10] rfl rfl rfl [] ([] : va_W) rfl rfl (n2 := 8) rfl (by decide +kernel) (fun H locs hP hD hS => ?_)
  obtain rfl := fx_i1 h
  exact Cv.ret hC hr hlk hA9 hP hD hS dX1_tryAllLoaves_26
abbrev RM_J6_bitCount_0f7a4 : Room := { frames := 0, cells := 0, slots := 0, locals := 0 }
def f_J6_bitCount_0f7a4 (N : Nat) (x0 : Int32) : Option (Int32) :=
  fx_lt (x0 - ((((x0 : Int32).toUInt32 >>> (((1 : Int32) : Int32).toUInt32 &&& Int32.toUInt32 31)).toInt32) &&& (1431655765 : Int32))) (fun x101 =>
  fx_lt ((x101 &&& (858993459 : Int32)) + ((((x101 : Int32).toUInt32 >>> (((2 : Int32) : Int32).toUInt32 &&& Int32.toUInt32 31)).toInt32) &&& (858993459 : Int32))) (fun x102 =>
  fx_lt ((x102 + (((x102 : Int32).toUInt32 >>> (((4 : Int32) : Int32).toUInt32 &&& Int32.toUInt32 31)).toInt32)) &&& (252645135 : Int32)) (fun x103 =>
  fx_lt (x103 + (((x103 : Int32).toUInt32 >>> (((8 : Int32) : Int32).toUInt32 &&& Int32.toUInt32 31)).toInt32)) (fun x104 =>
  fx_lt (x104 + (((x104 : Int32).toUInt32 >>> (((16 : Int32) : Int32).toUInt32 &&& Int32.toUInt32 31)).toInt32)) (fun x105 =>
  some (x105 &&& (63 : Int32)))))))
set_option maxRecDepth 100000 in
set_option maxHeartbeats 4000000 in
theorem c_J6_bitCount_0f7a4 (l : Launch) (g : GG) (N : Nat) (x0 : Int32) (r : Int32) (h : f_J6_bitCount_0f7a4 N x0 = some r) : Ci l yJ6_bitCount_0f7a4 wsJ6_bitCount_0f7a4 RM_J6_bitCount_0f7a4 g [.int x0] ([] : va_W) ([] : va_W) r := by
  intro sz
  refine Met.ofC (cc := cJ6_bitCount_0f7a4) (maxL := 1) (ret := (some .int)) (by decide) rfl (Nat.le_of_ble_eq_true rfl) ?_
  intro p e s m below meth c hC hr hlk hsz A hA9 hA hP hD hS ls hl
  subst hsz
  have hC : Cx p s m ([.int x0] : List Value).toArray c RJ6 cJ6_bitCount_0f7a4 1 wsJ6_bitCount_0f7a4 g := hC
  have hx := hC.1.1
  have hb := hC.1.2.1
  have hml := hC.1.2.2.1
  have hown := hC.1.2.2.2.1
  have hts := hC.1.2.2.2.2
  have hl : lv_has ls 1 [(0, .int x0)] := hl
  show W p l e RM_J6_bitCount_0f7a4 s m ([.int x0] : List Value).toArray below meth c s.heap [] 0 0 (Qi below g [.int x0] ([] : va_W) ([] : va_W) r s) (F0 m 0 ls [])
  unfold f_J6_bitCount_0f7a4 at h
  refine lv_iload_n hx hb dJ6_bitCount_0f7a4_0 rfl (lv_at hl 0 rfl) ?_
  refine lv_iload_n hx hb dJ6_bitCount_0f7a4_1 rfl (lv_at hl 0 rfl) ?_
  refine lv_iconst (v := (1 : Int32)) hx hb dJ6_bitCount_0f7a4_2 (by decide) ?_
  refine lv_iushr hx hb dJ6_bitCount_0f7a4_3 rfl ?_
  refine lv_ldcw (v := (1431655765 : Int32)) hx hb hown (hts _ (List.mem_of_getElem? (i := 1) rfl)) dJ6_bitCount_0f7a4_4 ?_
  refine lv_iand hx hb dJ6_bitCount_0f7a4_7 ?_
  refine lv_isub hx hb dJ6_bitCount_0f7a4_8 ?_
  refine k_topi h (fun x101 h => ?_)
  refine lv_istore_n (lv' := [(0, .int x101)]) hx hb dJ6_bitCount_0f7a4_9 rfl hl (by decide) rfl (fun ls hl => ?_)
  refine lv_iload_n hx hb dJ6_bitCount_0f7a4_10 rfl (lv_at hl 0 rfl) ?_
  refine lv_ldcw (v := (858993459 : Int32)) hx hb hown (hts _ (List.mem_of_getElem? (i := 2) rfl)) dJ6_bitCount_0f7a4_11 ?_
  refine lv_iand hx hb dJ6_bitCount_0f7a4_14 ?_
  refine lv_iload_n hx hb dJ6_bitCount_0f7a4_15 rfl (lv_at hl 0 rfl) ?_
  refine lv_iconst (v := (2 : Int32)) hx hb dJ6_bitCount_0f7a4_16 (by decide) ?_
  refine lv_iushr hx hb dJ6_bitCount_0f7a4_17 rfl ?_
  refine lv_ldcw (v := (858993459 : Int32)) hx hb hown (hts _ (List.mem_of_getElem? (i := 2) rfl)) dJ6_bitCount_0f7a4_18 ?_
  refine lv_iand hx hb dJ6_bitCount_0f7a4_21 ?_
  refine lv_iadd hx hb dJ6_bitCount_0f7a4_22 ?_
  refine k_topi h (fun x102 h => ?_)
  refine lv_istore_n (lv' := [(0, .int x102)]) hx hb dJ6_bitCount_0f7a4_23 rfl hl (by decide) rfl (fun ls hl => ?_)
  refine lv_iload_n hx hb dJ6_bitCount_0f7a4_24 rfl (lv_at hl 0 rfl) ?_
  refine lv_iload_n hx hb dJ6_bitCount_0f7a4_25 rfl (lv_at hl 0 rfl) ?_
  refine lv_iconst (v := (4 : Int32)) hx hb dJ6_bitCount_0f7a4_26 (by decide) ?_
  refine lv_iushr hx hb dJ6_bitCount_0f7a4_27 rfl ?_
  refine lv_iadd hx hb dJ6_bitCount_0f7a4_28 ?_
  refine lv_ldcw (v := (252645135 : Int32)) hx hb hown (hts _ (List.mem_of_getElem? (i := 3) rfl)) dJ6_bitCount_0f7a4_29 ?_
  refine lv_iand hx hb dJ6_bitCount_0f7a4_32 ?_
  refine k_topi h (fun x103 h => ?_)
  refine lv_istore_n (lv' := [(0, .int x103)]) hx hb dJ6_bitCount_0f7a4_33 rfl hl (by decide) rfl (fun ls hl => ?_)
  refine lv_iload_n hx hb dJ6_bitCount_0f7a4_34 rfl (lv_at hl 0 rfl) ?_
  refine lv_iload_n hx hb dJ6_bitCount_0f7a4_35 rfl (lv_at hl 0 rfl) ?_
  refine lv_bipush (v := (8 : Int32)) hx hb dJ6_bitCount_0f7a4_36 (by decide) ?_
  refine lv_iushr hx hb dJ6_bitCount_0f7a4_38 rfl ?_
  refine lv_iadd hx hb dJ6_bitCount_0f7a4_39 ?_
  refine k_topi h (fun x104 h => ?_)
  refine lv_istore_n (lv' := [(0, .int x104)]) hx hb dJ6_bitCount_0f7a4_40 rfl hl (by decide) rfl (fun ls hl => ?_)
  refine lv_iload_n hx hb dJ6_bitCount_0f7a4_41 rfl (lv_at hl 0 rfl) ?_
  refine lv_iload_n hx hb dJ6_bitCount_0f7a4_42 rfl (lv_at hl 0 rfl) ?_
  refine lv_bipush (v := (16 : Int32)) hx hb dJ6_bitCount_0f7a4_43 (by decide) ?_
  refine lv_iushr hx hb dJ6_bitCount_0f7a4_45 rfl ?_
  refine lv_iadd hx hb dJ6_bitCount_0f7a4_46 ?_
  refine k_topi h (fun x105 h => ?_)
  refine lv_istore_n (lv' := [(0, .int x105)]) hx hb dJ6_bitCount_0f7a4_47 rfl hl (by decide) rfl (fun ls hl => ?_)
  refine lv_iload_n hx hb dJ6_bitCount_0f7a4_48 rfl (lv_at hl 0 rfl) ?_
  refine lv_bipush (v := (63 : Int32)) hx hb dJ6_bitCount_0f7a4_49 (by decide) ?_
  refine lv_iand hx hb dJ6_bitCount_0f7a4_51 ?_
  obtain rfl := fx_i1 h
  exact Ci.ret hC hr hlk hA9 hP hD hS dJ6_bitCount_0f7a4_52
theorem uX1_latestOf_X1 : ∀ w ∈ u_ws RX1 TX1 14, w ∈ wsX1_latestOf := fun w h => List.mem_cons_of_mem _ (List.mem_append_right _ h)
abbrev RM_X1_latestOf : Room := { frames := 1, cells := 0, slots := 0, locals := 21 }
def bd_X1_latestOf_5 (N : Nat) (x1 : Int32) (x2 : Int32) (S1 : St) (x3 : Int32) (x4 : Int32) (rec : (Int32 × Int32) → Option (Int32)) : Option (Int32) :=
  (if (S1.1 0) ≤ x4 then (
    some x3) else (
    (if ((x1 >>> (x4 &&& 31)) &&& (1 : Int32)) = (1 : Int32) then (
      fx_ald 6 (S1.2 1) x4 (fun v102 =>
        fx_b1 (f_X1_at N v102 x2) (fun v103 =>
        fx_ald 64 (S1.2 8) (x1 &&& (((1 : Int32) <<< (x4 &&& 31)) ^^^ (-1 : Int32))) (fun v104 =>
        fx_ald 36 (S1.2 3) v103 (fun v105 =>
        fx_lt (if (v105 - (1 : Int32)) < v104 then (v105 - (1 : Int32)) else v104) (fun x106 =>
        fx_ald 36 (S1.2 2) v103 (fun v107 =>
        (if x106 < v107 then (
        fx_lt (x4 + (1 : Int32)) (fun x108 =>
          rec (x3, x108))) else (
        fx_lt (if x3 < x106 then x106 else x3) (fun x109 =>
          fx_lt (x4 + (1 : Int32)) (fun x110 =>
          rec (x109, x110)))))))))))) else (
      fx_lt (x4 + (1 : Int32)) (fun x101 =>
        rec (x3, x101))))))
def lf_X1_latestOf_5 (N : Nat) (x1 : Int32) (x2 : Int32) (S1 : St) : (Int32 × Int32) → ((Int32 × Int32) → Option (Int32)) → Option (Int32) := fun x rec => bd_X1_latestOf_5 N x1 x2 S1 x.1 x.2 rec
set_option maxRecDepth 100000 in
set_option maxHeartbeats 4000000 in
theorem lw_X1_latestOf_5 {p : Program} {l : Launch} {e : Env} {s : State} {m : MethodId} {args : Array Value} {below : List Frame} {meth : Method} {c : Code} {Q : State → Prop} {A : Nat → Prop} {H0 : Heap} {g : GG} (hC : Cx p s m args c RX1 cX1_latestOf 7 wsX1_latestOf g) (hA : ∀ q : Nat, H0.size ≤ q → A q) (N : Nat) (q1 : Nat → Nat) (x1 : Int32) (x2 : Int32) (S1 : St) : ∀ (n : Nat) (x3 : Int32) (x4 : Int32) (o : Int32), fx_it (lf_X1_latestOf_5 N x1 x2 S1) n (x3, x4) = some o → ∀ (H : Heap) (locs : List Loc) (ls : Array Slot), va_P g.1 vwCl (wX1 g q1 S1) H → va_D A (wX1 g q1 S1) → va_S A H0 H locs → lv_has ls 7 [(0, .ref (q1 100)), (1, .int x1), (2, .int x2), (3, .int x3), (4, .int x4)] → (∀ (z0 : Int32), o = z0 → ∀ (H : Heap) (locs : List Loc) (ls : Array Slot), va_P g.1 vwCl (wX1 g q1 S1) H → va_D A (wX1 g q1 S1) → va_S A H0 H locs → lv_has ls 7 [(3, .int z0)] → W p l e RM_X1_latestOf s m args below meth c H locs 0 0 Q (F0 m 89 ls [])) → W p l e RM_X1_latestOf s m args below meth c H locs 0 0 Q (F0 m 5 ls []) := by
  have hx := hC.1.1
  have hb := hC.1.2.1
  have hml := hC.1.2.2.1
  have hown := hC.1.2.2.2.1
  have hts := hC.1.2.2.2.2
  intro n
  induction n with
  | zero => intro x3 x4 o h; cases h
  | succ n ih =>
    intro x3 x4 o h H locs ls hP hD hS hl k0
    have h : bd_X1_latestOf_5 N x1 x2 S1 x3 x4 (fx_it (lf_X1_latestOf_5 N x1 x2 S1) n) = some o := h
    unfold bd_X1_latestOf_5 at h
    refine lv_iload hx hb dX1_latestOf_5 (lv_at hl 4 rfl) ?_
    refine lv_aload_n hx hb dX1_latestOf_7 rfl (lv_at hl 0 rfl) ?_
    refine k_get (ci := 1) (k := 0) (q0 := 0) (v := .int (S1.1 0)) (C := RX1) (T := TX1) (N := 14) hC uX1_latestOf_X1 hP rfl rfl (by decide) (List.mem_of_getElem? (i := 1) rfl) rfl dX1_latestOf_8 ?_
    refine k_icmp_ge (tgt := 89) hC dX1_latestOf_11 (by decide) h (fun h => ?_) (fun h => ?_)
    · exact k0 x3 (Option.some.inj h).symm _ _ _ hP hD hS (lv_sub hl [3] rfl)
    · refine lv_iload_n hx hb dX1_latestOf_14 rfl (lv_at hl 1 rfl) ?_
      refine lv_iload hx hb dX1_latestOf_15 (lv_at hl 4 rfl) ?_
      refine lv_ishr hx hb dX1_latestOf_17 ?_
      refine lv_iconst (v := (1 : Int32)) hx hb dX1_latestOf_18 (by decide) ?_
      refine lv_iand hx hb dX1_latestOf_19 ?_
      refine lv_iconst (v := (1 : Int32)) hx hb dX1_latestOf_20 (by decide) ?_
      refine k_icmp_ne (tgt := 83) hC dX1_latestOf_21 (by decide) h (fun h => ?_) (fun h => ?_)
      · refine k_iinc (v := (1 : Int32)) (lv' := fun X => [(4, .int X), (0, .ref (q1 100)), (1, .int x1), (2, .int x2), (3, .int x3)]) hC dX1_latestOf_83 hl (k := 4) rfl (by decide) (by decide) (fun _ => rfl) h (fun x101 h ls hl => ?_)
        refine lv_goto (tgt := 5) hx hb dX1_latestOf_86 (by decide) ?_
        exact ih x3 x101 o h _ _ _ hP hD hS (lv_sub hl [1, 2, 3, 4, 0] rfl) k0
      · refine lv_aload_n hx hb dX1_latestOf_24 rfl (lv_at hl 0 rfl) ?_
        refine k_get (ci := 1) (k := 1) (q0 := 0) (v := .ref (q1 1)) (C := RX1) (T := TX1) (N := 14) hC uX1_latestOf_X1 hP rfl rfl (by decide) (List.mem_of_getElem? (i := 2) rfl) rfl dX1_latestOf_25 ?_
        refine lv_iload hx hb dX1_latestOf_28 (lv_at hl 4 rfl) ?_
        refine k_ald (q0 := 1) (n := 6) (F := S1.2 1) hC hP rfl dX1_latestOf_30 h (fun v102 h => ?_)
        refine lv_iload_n hx hb dX1_latestOf_31 rfl (lv_at hl 2 rfl) ?_
        obtain ⟨v103, hc111, h⟩ := fx_b1_s h
        refine k_callSi0 (n := 2) (As := [.int v102, .int x2]) (rest := []) (wc := ([] : va_W)) (bytes := cX1_at) (maxL := 2) (ret := (some .int)) hC hl.1 (c_X1_at l g N v102 x2 v103 hc111) rfl gX1_latestOf_X1_at (by decide +kernel) ⟨Nat.le_of_ble_eq_true rfl, Nat.le_of_ble_eq_true rfl⟩ rfl rfl rfl (Nat.le_of_ble_eq_true rfl) ⟨Nat.le_of_ble_eq_true rfl, Nat.le_of_ble_eq_true rfl⟩ dX1_latestOf_32 hP hD hS hA [] rfl (by decide +kernel) (fun H locs hP hD hS => ?_)
        refine lv_istore (lv' := [(5, .int v103), (0, .ref (q1 100)), (1, .int x1), (2, .int x2), (3, .int x3), (4, .int x4)]) hx hb dX1_latestOf_35 hl (by decide) rfl (fun ls hl => ?_)
        refine lv_aload_n hx hb dX1_latestOf_37 rfl (lv_at hl 1 rfl) ?_
        refine k_get (ci := 1) (k := 8) (q0 := 0) (v := .ref (q1 8)) (C := RX1) (T := TX1) (N := 14) hC uX1_latestOf_X1 hP rfl rfl (by decide) (List.mem_of_getElem? (i := 3) rfl) rfl dX1_latestOf_38 ?_
        refine lv_iload_n hx hb dX1_latestOf_41 rfl (lv_at hl 2 rfl) ?_
        refine lv_iconst (v := (1 : Int32)) hx hb dX1_latestOf_42 (by decide) ?_
        refine lv_iload hx hb dX1_latestOf_43 (lv_at hl 5 rfl) ?_
        refine lv_ishl hx hb dX1_latestOf_45 ?_
        refine lv_iconst (v := (-1 : Int32)) hx hb dX1_latestOf_46 (by decide) ?_
        refine lv_ixor hx hb dX1_latestOf_47 ?_
        refine lv_iand hx hb dX1_latestOf_48 ?_
        refine k_ald (q0 := 5) (n := 64) (F := S1.2 8) hC hP rfl dX1_latestOf_49 h (fun v104 h => ?_)
        refine lv_aload_n hx hb dX1_latestOf_50 rfl (lv_at hl 1 rfl) ?_
        refine k_get (ci := 1) (k := 3) (q0 := 0) (v := .ref (q1 3)) (C := RX1) (T := TX1) (N := 14) hC uX1_latestOf_X1 hP rfl rfl (by decide) (List.mem_of_getElem? (i := 4) rfl) rfl dX1_latestOf_51 ?_
        refine lv_iload hx hb dX1_latestOf_54 (lv_at hl 0 rfl) ?_
        refine k_ald (q0 := 3) (n := 36) (F := S1.2 3) hC hP rfl dX1_latestOf_56 h (fun v105 h => ?_)
        refine lv_iconst (v := (1 : Int32)) hx hb dX1_latestOf_57 (by decide) ?_
        refine lv_isub hx hb dX1_latestOf_58 ?_
        refine va_mmin hx hb (hml.trans hl.1.symm) hown (hts _ (List.mem_of_getElem? (i := 5) rfl)) (hts _ (List.mem_of_getElem? (i := 6) rfl)) (hts _ (List.mem_of_getElem? (i := 7) rfl)) (hts _ (List.mem_of_getElem? (i := 8) rfl)) (Nat.le_of_ble_eq_true rfl) (Nat.le_of_ble_eq_true rfl) (Nat.zero_le _) (Nat.zero_le _) dX1_latestOf_59 ?_
        refine k_topi h (fun x106 h => ?_)
        refine lv_istore (lv' := [(6, .int x106), (5, .int v103), (0, .ref (q1 100)), (1, .int x1), (2, .int x2), (3, .int x3), (4, .int x4)]) hx hb dX1_latestOf_62 hl (by decide) rfl (fun ls hl => ?_)
        refine lv_iload hx hb dX1_latestOf_64 (lv_at hl 0 rfl) ?_
        refine lv_aload_n hx hb dX1_latestOf_66 rfl (lv_at hl 2 rfl) ?_
        refine k_get (ci := 1) (k := 2) (q0 := 0) (v := .ref (q1 2)) (C := RX1) (T := TX1) (N := 14) hC uX1_latestOf_X1 hP rfl rfl (by decide) (List.mem_of_getElem? (i := 9) rfl) rfl dX1_latestOf_67 ?_
        refine lv_iload hx hb dX1_latestOf_70 (lv_at hl 1 rfl) ?_
        refine k_ald (q0 := 2) (n := 36) (F := S1.2 2) hC hP rfl dX1_latestOf_72 h (fun v107 h => ?_)
        refine k_icmp_lt (tgt := 83) hC dX1_latestOf_73 (by decide) h (fun h => ?_) (fun h => ?_)
        · refine k_iinc (v := (1 : Int32)) (lv' := fun X => [(4, .int X), (6, .int x106), (5, .int v103), (0, .ref (q1 100)), (1, .int x1), (2, .int x2), (3, .int x3)]) hC dX1_latestOf_83 hl (k := 6) rfl (by decide) (by decide) (fun _ => rfl) h (fun x108 h ls hl => ?_)
          refine lv_goto (tgt := 5) hx hb dX1_latestOf_86 (by decide) ?_
          exact ih x3 x108 o h _ _ _ hP hD hS (lv_sub hl [3, 4, 5, 6, 0] rfl) k0
        · refine lv_iload_n hx hb dX1_latestOf_76 rfl (lv_at hl 5 rfl) ?_
          refine lv_iload hx hb dX1_latestOf_77 (lv_at hl 0 rfl) ?_
          refine va_mmax hx hb (hml.trans hl.1.symm) hown (hts _ (List.mem_of_getElem? (i := 10) rfl)) (hts _ (List.mem_of_getElem? (i := 11) rfl)) (hts _ (List.mem_of_getElem? (i := 7) rfl)) (hts _ (List.mem_of_getElem? (i := 12) rfl)) (Nat.le_of_ble_eq_true rfl) (Nat.le_of_ble_eq_true rfl) (Nat.zero_le _) (Nat.zero_le _) dX1_latestOf_79 ?_
          refine k_topi h (fun x109 h => ?_)
          refine lv_istore_n (lv' := [(3, .int x109), (6, .int x106), (5, .int v103), (0, .ref (q1 100)), (1, .int x1), (2, .int x2), (4, .int x4)]) hx hb dX1_latestOf_82 rfl hl (by decide) rfl (fun ls hl => ?_)
          refine k_iinc (v := (1 : Int32)) (lv' := fun X => [(4, .int X), (3, .int x109), (6, .int x106), (5, .int v103), (0, .ref (q1 100)), (1, .int x1), (2, .int x2)]) hC dX1_latestOf_83 hl (k := 6) rfl (by decide) (by decide) (fun _ => rfl) h (fun x110 h ls hl => ?_)
          refine lv_goto (tgt := 5) hx hb dX1_latestOf_86 (by decide) ?_
          exact ih x109 x110 o h _ _ _ hP hD hS (lv_sub hl [4, 5, 6, 1, 0] rfl) k0
def f_X1_latestOf (N : Nat) (S1 : St) (x1 : Int32) (x2 : Int32) : Option (Int32) :=
  fx_b1 (fx_it (lf_X1_latestOf_5 N x1 x2 S1) N ((0 : Int32), (0 : Int32))) (fun x101 =>
  some x101)
set_option maxRecDepth 100000 in
set_option maxHeartbeats 4000000 in
theorem c_X1_latestOf (l : Launch) (g : GG) (N : Nat) (q1 : Nat → Nat) (S1 : St) (x1 : Int32) (x2 : Int32) (r : Int32) (h : f_X1_latestOf N S1 x1 x2 = some r) : Ci l yX1_latestOf wsX1_latestOf RM_X1_latestOf g [.ref (q1 100), .int x1, .int x2] (wX1 g q1 S1) (wX1 g q1 S1) r := by
  intro sz
  refine Met.ofC (cc := cX1_latestOf) (maxL := 7) (ret := (some .int)) (by decide) rfl (Nat.le_of_ble_eq_true rfl) ?_
  intro p e s m below meth c hC hr hlk hsz A hA9 hA hP hD hS ls hl
  subst hsz
  have hC : Cx p s m ([.ref (q1 100), .int x1, .int x2] : List Value).toArray c RX1 cX1_latestOf 7 wsX1_latestOf g := hC
  have hx := hC.1.1
  have hb := hC.1.2.1
  have hml := hC.1.2.2.1
  have hown := hC.1.2.2.2.1
  have hts := hC.1.2.2.2.2
  have hl : lv_has ls 7 [(0, .ref (q1 100)), (1, .int x1), (2, .int x2)] := hl
  show W p l e RM_X1_latestOf s m ([.ref (q1 100), .int x1, .int x2] : List Value).toArray below meth c s.heap [] 0 0 (Qi below g [.ref (q1 100), .int x1, .int x2] (wX1 g q1 S1) (wX1 g q1 S1) r s) (F0 m 0 ls [])
  unfold f_X1_latestOf at h
  refine lv_iconst (v := (0 : Int32)) hx hb dX1_latestOf_0 (by decide) ?_
  refine lv_istore_n (lv' := [(3, .int (0 : Int32)), (0, .ref (q1 100)), (1, .int x1), (2, .int x2)]) hx hb dX1_latestOf_1 rfl hl (by decide) rfl (fun ls hl => ?_)
  refine lv_iconst (v := (0 : Int32)) hx hb dX1_latestOf_2 (by decide) ?_
  refine lv_istore (lv' := [(4, .int (0 : Int32)), (3, .int (0 : Int32)), (0, .ref (q1 100)), (1, .int x1), (2, .int x2)]) hx hb dX1_latestOf_3 hl (by decide) rfl (fun ls hl => ?_)
  obtain ⟨x101, ho102, h⟩ := fx_b1_s h
  refine lw_X1_latestOf_5 hC hA N q1 x1 x2 S1 N (0 : Int32) (0 : Int32)  x101 ho102 _ _ _ hP hD hS (lv_sub hl [2, 3, 4, 1, 0] rfl) ?_
  · intro y0 he H locs ls hP hD hS hl
    obtain rfl := he
    refine lv_iload_n hx hb dX1_latestOf_89 rfl (lv_at hl 0 rfl) ?_
    obtain rfl := fx_i1 h
    exact Ci.ret hC hr hlk hA9 hP hD hS dX1_latestOf_90
theorem uX1_hasSomeOrder_X1 : ∀ w ∈ u_ws RX1 TX1 14, w ∈ wsX1_hasSomeOrder := fun w h => List.mem_cons_of_mem _ (List.mem_append_right _ h)
abbrev RM_X1_hasSomeOrder : Room := { frames := 2, cells := 0, slots := 0, locals := 47 }
def bd_X1_hasSomeOrder_18 (N : Nat) (x1 : Int32) (x2 : Int32) (S1 : St) (rec : (Int32 × St) → Option (St)) : Option (St) :=
  (if x1 ≤ x2 then (
    some S1) else (
    fx_b1 (f_J6_bitCount_0f7a4 N x2) (fun v101 =>
      fx_b1 (f_X1_latestOf N S1 x2 (v101 - (1 : Int32))) (fun v102 =>
      fx_ast 64 S1 8 x2 v102 (fun S103 =>
      fx_lt (x2 + (1 : Int32)) (fun x104 =>
      rec (x104, S103)))))))
def lf_X1_hasSomeOrder_18 (N : Nat) (x1 : Int32) : (Int32 × St) → ((Int32 × St) → Option (St)) → Option (St) := fun x rec => bd_X1_hasSomeOrder_18 N x1 x.1 x.2 rec
set_option maxRecDepth 100000 in
set_option maxHeartbeats 4000000 in
theorem lw_X1_hasSomeOrder_18 {p : Program} {l : Launch} {e : Env} {s : State} {m : MethodId} {args : Array Value} {below : List Frame} {meth : Method} {c : Code} {Q : State → Prop} {A : Nat → Prop} {H0 : Heap} {g : GG} (hC : Cx p s m args c RX1 cX1_hasSomeOrder 3 wsX1_hasSomeOrder g) (hA : ∀ q : Nat, H0.size ≤ q → A q) (N : Nat) (q1 : Nat → Nat) (x1 : Int32) : ∀ (n : Nat) (x2 : Int32) (S1 : St) (o : St), fx_it (lf_X1_hasSomeOrder_18 N x1) n (x2, S1) = some o → ∀ (H : Heap) (locs : List Loc) (ls : Array Slot), va_P g.1 vwCl (wX1 g q1 S1) H → va_D A (wX1 g q1 S1) → va_S A H0 H locs → lv_has ls 3 [(0, .ref (q1 100)), (1, .int x1), (2, .int x2)] → (∀ (Z0 : St), o = Z0 → ∀ (H : Heap) (locs : List Loc) (ls : Array Slot), va_P g.1 vwCl (wX1 g q1 Z0) H → va_D A (wX1 g q1 Z0) → va_S A H0 H locs → lv_has ls 3 [(0, .ref (q1 100)), (1, .int x1)] → W p l e RM_X1_hasSomeOrder s m args below meth c H locs 0 0 Q (F0 m 46 ls [])) → W p l e RM_X1_hasSomeOrder s m args below meth c H locs 0 0 Q (F0 m 18 ls []) := by
  have hx := hC.1.1
  have hb := hC.1.2.1
  have hml := hC.1.2.2.1
  have hown := hC.1.2.2.2.1
  have hts := hC.1.2.2.2.2
  intro n
  induction n with
  | zero => intro x2 S1 o h; cases h
  | succ n ih =>
    intro x2 S1 o h H locs ls hP hD hS hl k0
    have h : bd_X1_hasSomeOrder_18 N x1 x2 S1 (fx_it (lf_X1_hasSomeOrder_18 N x1) n) = some o := h
    unfold bd_X1_hasSomeOrder_18 at h
    refine lv_iload_n hx hb dX1_hasSomeOrder_18 rfl (lv_at hl 2 rfl) ?_
    refine lv_iload_n hx hb dX1_hasSomeOrder_19 rfl (lv_at hl 1 rfl) ?_
    refine k_icmp_ge (tgt := 46) hC dX1_hasSomeOrder_20 (by decide) h (fun h => ?_) (fun h => ?_)
    · exact k0 S1 (Option.some.inj h).symm _ _ _ hP hD hS (lv_sub hl [0, 1] rfl)
    · refine lv_aload_n hx hb dX1_hasSomeOrder_23 rfl (lv_at hl 0 rfl) ?_
      refine k_get (ci := 1) (k := 8) (q0 := 0) (v := .ref (q1 8)) (C := RX1) (T := TX1) (N := 14) hC uX1_hasSomeOrder_X1 hP rfl rfl (by decide) (List.mem_of_getElem? (i := 2) rfl) rfl dX1_hasSomeOrder_24 ?_
      refine lv_iload_n hx hb dX1_hasSomeOrder_27 rfl (lv_at hl 2 rfl) ?_
      refine lv_aload_n hx hb dX1_hasSomeOrder_28 rfl (lv_at hl 0 rfl) ?_
      refine lv_iload_n hx hb dX1_hasSomeOrder_29 rfl (lv_at hl 2 rfl) ?_
      refine lv_iload_n hx hb dX1_hasSomeOrder_30 rfl (lv_at hl 2 rfl) ?_
      obtain ⟨v101, hc106, h⟩ := fx_b1_s h
      refine k_callSi0 (n := 1) (As := [.int x2]) (rest := [.int x2, .ref (q1 100), .int x2, .ref (q1 8)]) (wc := ([] : va_W)) (bytes := cJ6_bitCount_0f7a4) (maxL := 1) (ret := (some .int)) hC hl.1 (c_J6_bitCount_0f7a4 l g N x2 v101 hc106) rfl gX1_hasSomeOrder_J6_bitCount_0f7a4 (by decide +kernel) ⟨Nat.le_of_ble_eq_true rfl, Nat.le_of_ble_eq_true rfl⟩ rfl rfl rfl (Nat.le_of_ble_eq_true rfl) ⟨Nat.le_of_ble_eq_true rfl, Nat.le_of_ble_eq_true rfl⟩ dX1_hasSomeOrder_31 hP hD hS hA [] rfl (by decide +kernel) (fun H locs hP hD hS => ?_)
      refine lv_iconst (v := (1 : Int32)) hx hb dX1_hasSomeOrder_34 (by decide) ?_
      refine lv_isub hx hb dX1_hasSomeOrder_35 ?_
      obtain ⟨v102, hc105, h⟩ := fx_b1_s h
      refine k_callVi0 (C := RX1) (ci := 1) (qr := 0) (n := 2) (As := [.int x2, .int (v101 - (1 : Int32))]) (rest := [.int x2, .ref (q1 8)]) (wc := (wX1 g q1 S1)) (bytes := cX1_latestOf) (maxL := 7) (ret := (some .int)) hC hl.1 (c_X1_latestOf l g N q1 S1 x2 (v101 - (1 : Int32)) v102 hc105) rfl gX1_hasSomeOrder_X1_latestOf (by decide +kernel) rfl rfl ⟨Nat.le_of_ble_eq_true rfl, Nat.le_of_ble_eq_true rfl⟩ rfl rfl rfl (Nat.le_of_ble_eq_true rfl) ⟨Nat.le_of_ble_eq_true rfl, Nat.le_of_ble_eq_true rfl⟩ dX1_hasSomeOrder_36 hP hD hS hA [0, 1, 2, 3, 4, 5, 6, 7] rfl (by decide +kernel) (fun H locs hP hD hS => ?_)
      refine k_ast (q0 := 5) (n := 64) (k := 8) (S := S1) (fun S => (wX1 g q1 S)) hC hP hD hS rfl (fun _ => rfl) dX1_hasSomeOrder_39 h (fun S103 h H locs hP hD hS => ?_)
      refine k_iinc (v := (1 : Int32)) (lv' := fun X => [(2, .int X), (0, .ref (q1 100)), (1, .int x1)]) hC dX1_hasSomeOrder_40 hl (k := 2) rfl (by decide) (by decide) (fun _ => rfl) h (fun x104 h ls hl => ?_)
      refine lv_goto (tgt := 18) hx hb dX1_hasSomeOrder_43 (by decide) ?_
      exact ih x104 S103 o h _ _ _ hP hD hS (lv_sub hl [1, 2, 0] rfl) k0
def f_X1_hasSomeOrder (N : Nat) (S1 : St) : Option (Int32 × St) :=
  fx_lt ((1 : Int32) <<< ((S1.1 0) &&& 31)) (fun x101 =>
  fx_ast 64 S1 8 (0 : Int32) (999 : Int32) (fun S102 =>
  fx_b1 (fx_it (lf_X1_hasSomeOrder_18 N x101) N ((1 : Int32), S102)) (fun S103 =>
  fx_ald 64 (S103.2 8) (x101 - (1 : Int32)) (fun v105 =>
    (if v105 ≤ 0 then (
    some ((0 : Int32), S103)) else (
    some ((1 : Int32), S103)))))))
set_option maxRecDepth 100000 in
set_option maxHeartbeats 4000000 in
theorem c_X1_hasSomeOrder (l : Launch) (g : GG) (N : Nat) (q1 : Nat → Nat) (S1 : St) (r : Int32) (F1 : St) (h : f_X1_hasSomeOrder N S1 = some (r, F1)) : Ci l yX1_hasSomeOrder wsX1_hasSomeOrder RM_X1_hasSomeOrder g [.ref (q1 100)] (wX1 g q1 S1) (wX1 g q1 F1) r := by
  intro sz
  refine Met.ofC (cc := cX1_hasSomeOrder) (maxL := 3) (ret := (some .boolean)) (by decide) rfl (Nat.le_of_ble_eq_true rfl) ?_
  intro p e s m below meth c hC hr hlk hsz A hA9 hA hP hD hS ls hl
  subst hsz
  have hC : Cx p s m ([.ref (q1 100)] : List Value).toArray c RX1 cX1_hasSomeOrder 3 wsX1_hasSomeOrder g := hC
  have hx := hC.1.1
  have hb := hC.1.2.1
  have hml := hC.1.2.2.1
  have hown := hC.1.2.2.2.1
  have hts := hC.1.2.2.2.2
  have hl : lv_has ls 3 [(0, .ref (q1 100))] := hl
  show W p l e RM_X1_hasSomeOrder s m ([.ref (q1 100)] : List Value).toArray below meth c s.heap [] 0 0 (Qi below g [.ref (q1 100)] (wX1 g q1 S1) (wX1 g q1 F1) r s) (F0 m 0 ls [])
  unfold f_X1_hasSomeOrder at h
  refine lv_iconst (v := (1 : Int32)) hx hb dX1_hasSomeOrder_0 (by decide) ?_
  refine lv_aload_n hx hb dX1_hasSomeOrder_1 rfl (lv_at hl 0 rfl) ?_
  refine k_get (ci := 1) (k := 0) (q0 := 0) (v := .int (S1.1 0)) (C := RX1) (T := TX1) (N := 14) hC uX1_hasSomeOrder_X1 hP rfl rfl (by decide) (List.mem_of_getElem? (i := 1) rfl) rfl dX1_hasSomeOrder_2 ?_
  refine lv_ishl hx hb dX1_hasSomeOrder_5 ?_
  refine k_topi h (fun x101 h => ?_)
  refine lv_istore_n (lv' := [(1, .int x101), (0, .ref (q1 100))]) hx hb dX1_hasSomeOrder_6 rfl hl (by decide) rfl (fun ls hl => ?_)
  refine lv_aload_n hx hb dX1_hasSomeOrder_7 rfl (lv_at hl 1 rfl) ?_
  refine k_get (ci := 1) (k := 8) (q0 := 0) (v := .ref (q1 8)) (C := RX1) (T := TX1) (N := 14) hC uX1_hasSomeOrder_X1 hP rfl rfl (by decide) (List.mem_of_getElem? (i := 2) rfl) rfl dX1_hasSomeOrder_8 ?_
  refine lv_iconst (v := (0 : Int32)) hx hb dX1_hasSomeOrder_11 (by decide) ?_
  refine lv_sipush (v := (999 : Int32)) hx hb dX1_hasSomeOrder_12 (by decide) ?_
  refine k_ast (q0 := 5) (n := 64) (k := 8) (S := S1) (fun S => (wX1 g q1 S)) hC hP hD hS rfl (fun _ => rfl) dX1_hasSomeOrder_15 h (fun S102 h H locs hP hD hS => ?_)
  refine lv_iconst (v := (1 : Int32)) hx hb dX1_hasSomeOrder_16 (by decide) ?_
  refine lv_istore_n (lv' := [(2, .int (1 : Int32)), (1, .int x101), (0, .ref (q1 100))]) hx hb dX1_hasSomeOrder_17 rfl hl (by decide) rfl (fun ls hl => ?_)
  obtain ⟨S103, ho104, h⟩ := fx_b1_s h
  refine lw_X1_hasSomeOrder_18 hC hA N q1 x101 N (1 : Int32) S102  S103 ho104 _ _ _ hP hD hS (lv_sub hl [2, 1, 0] rfl) ?_
  · intro y0 he H locs ls hP hD hS hl
    obtain rfl := he
    refine lv_aload_n hx hb dX1_hasSomeOrder_46 rfl (lv_at hl 0 rfl) ?_
    refine k_get (ci := 1) (k := 8) (q0 := 0) (v := .ref (q1 8)) (C := RX1) (T := TX1) (N := 14) hC uX1_hasSomeOrder_X1 hP rfl rfl (by decide) (List.mem_of_getElem? (i := 2) rfl) rfl dX1_hasSomeOrder_47 ?_
    refine lv_iload_n hx hb dX1_hasSomeOrder_50 rfl (lv_at hl 1 rfl) ?_
    refine lv_iconst (v := (1 : Int32)) hx hb dX1_hasSomeOrder_51 (by decide) ?_
    refine lv_isub hx hb dX1_hasSomeOrder_52 ?_
    refine k_ald (q0 := 5) (n := 64) (F := S103.2 8) hC hP rfl dX1_hasSomeOrder_53 h (fun v105 h => ?_)
    refine k_if_le (tgt := 61) hC dX1_hasSomeOrder_54 (by decide) h (fun h => ?_) (fun h => ?_)
    · refine lv_iconst (v := (0 : Int32)) hx hb dX1_hasSomeOrder_61 (by decide) ?_
      obtain ⟨rfl, rfl⟩ := fx_i2 h
      exact Ci.retz hC hr hlk rfl hA9 hP hD hS dX1_hasSomeOrder_62
    · refine lv_iconst (v := (1 : Int32)) hx hb dX1_hasSomeOrder_57 (by decide) ?_
      refine lv_goto (tgt := 62) hx hb dX1_hasSomeOrder_58 (by decide) ?_
      obtain ⟨rfl, rfl⟩ := fx_i2 h
      exact Ci.retz hC hr hlk rfl hA9 hP hD hS dX1_hasSomeOrder_62
theorem uX1_lookAtSet_X1 : ∀ w ∈ u_ws RX1 TX1 14, w ∈ wsX1_lookAtSet := fun w h => List.mem_cons_of_mem _ (List.mem_append_left _ (List.mem_append_right _ h))
theorem uX1_lookAtSet_X6 : ∀ w ∈ u_ws RX6 TX6 5, w ∈ wsX1_lookAtSet := fun w h => List.mem_cons_of_mem _ (List.mem_append_right _ h)
abbrev RM_X1_lookAtSet : Room := { frames := 3, cells := 0, slots := 0, locals := 73 }
def bd_X1_lookAtSet_9 (N : Nat) (x1 : Int32) (x2 : Int32) (S2 : St) (x4 : Int32) (x5 : Int32) (x6 : Int32) (S1 : St) (rec : (Int32 × Int32 × Int32 × St) → Option (Int32 × Int32 × St)) : Option (Int32 × Int32 × St) :=
  (if (S1.1 0) ≤ x6 then (
    some (x4, x5, S1)) else (
    (if ((x1 >>> (x6 &&& 31)) &&& (1 : Int32)) = (1 : Int32) then (
      fx_ald 6 (S1.2 1) x6 (fun v102 =>
        fx_ast 6 S1 4 x4 v102 (fun S103 =>
        fx_ald 6 (S103.2 1) x6 (fun v104 =>
        fx_ald 6 (S2.2 3) v104 (fun v105 =>
        fx_lt (x5 + v105) (fun x106 =>
        fx_lt (x4 + (1 : Int32)) (fun x107 =>
        fx_lt (x6 + (1 : Int32)) (fun x108 =>
        rec (x107, x106, x108, S103))))))))) else (
      fx_lt (x6 + (1 : Int32)) (fun x101 =>
        rec (x4, x5, x101, S1))))))
def lf_X1_lookAtSet_9 (N : Nat) (x1 : Int32) (x2 : Int32) (S2 : St) : (Int32 × Int32 × Int32 × St) → ((Int32 × Int32 × Int32 × St) → Option (Int32 × Int32 × St)) → Option (Int32 × Int32 × St) := fun x rec => bd_X1_lookAtSet_9 N x1 x2 S2 x.1 x.2.1 x.2.2.1 x.2.2.2 rec
set_option maxRecDepth 100000 in
set_option maxHeartbeats 4000000 in
theorem lw_X1_lookAtSet_9 {p : Program} {l : Launch} {e : Env} {s : State} {m : MethodId} {args : Array Value} {below : List Frame} {meth : Method} {c : Code} {Q : State → Prop} {A : Nat → Prop} {H0 : Heap} {g : GG} (hC : Cx p s m args c RX1 cX1_lookAtSet 7 wsX1_lookAtSet g) (hA : ∀ q : Nat, H0.size ≤ q → A q) (N : Nat) (q1 : Nat → Nat) (q2 : Nat → Nat) (x1 : Int32) (x2 : Int32) (S2 : St) : ∀ (n : Nat) (x4 : Int32) (x5 : Int32) (x6 : Int32) (S1 : St) (o : Int32 × Int32 × St), fx_it (lf_X1_lookAtSet_9 N x1 x2 S2) n (x4, x5, x6, S1) = some o → ∀ (H : Heap) (locs : List Loc) (ls : Array Slot), va_P g.1 vwCl (wX1 g q1 S1 ++ (wX6 g q2 S2)) H → va_D A (wX1 g q1 S1 ++ (wX6 g q2 S2)) → va_S A H0 H locs → lv_has ls 7 [(0, .ref (q1 100)), (1, .int x1), (2, .int x2), (3, .ref (q2 100)), (4, .int x4), (5, .int x5), (6, .int x6)] → (∀ (z0 : Int32) (z1 : Int32) (Z0 : St), o = (z0, z1, Z0) → ∀ (H : Heap) (locs : List Loc) (ls : Array Slot), va_P g.1 vwCl (wX1 g q1 Z0 ++ (wX6 g q2 S2)) H → va_D A (wX1 g q1 Z0 ++ (wX6 g q2 S2)) → va_S A H0 H locs → lv_has ls 7 [(0, .ref (q1 100)), (1, .int x1), (2, .int x2), (4, .int z0), (5, .int z1)] → W p l e RM_X1_lookAtSet s m args below meth c H locs 0 0 Q (F0 m 68 ls [])) → W p l e RM_X1_lookAtSet s m args below meth c H locs 0 0 Q (F0 m 9 ls []) := by
  have hx := hC.1.1
  have hb := hC.1.2.1
  have hml := hC.1.2.2.1
  have hown := hC.1.2.2.2.1
  have hts := hC.1.2.2.2.2
  intro n
  induction n with
  | zero => intro x4 x5 x6 S1 o h; cases h
  | succ n ih =>
    intro x4 x5 x6 S1 o h H locs ls hP hD hS hl k0
    have h : bd_X1_lookAtSet_9 N x1 x2 S2 x4 x5 x6 S1 (fx_it (lf_X1_lookAtSet_9 N x1 x2 S2) n) = some o := h
    unfold bd_X1_lookAtSet_9 at h
    refine lv_iload hx hb dX1_lookAtSet_9 (lv_at hl 6 rfl) ?_
    refine lv_aload_n hx hb dX1_lookAtSet_11 rfl (lv_at hl 0 rfl) ?_
    refine k_get (ci := 1) (k := 0) (q0 := 0) (v := .int (S1.1 0)) (C := RX1) (T := TX1) (N := 14) hC uX1_lookAtSet_X1 hP rfl rfl (by decide) (List.mem_of_getElem? (i := 1) rfl) rfl dX1_lookAtSet_12 ?_
    refine k_icmp_ge (tgt := 68) hC dX1_lookAtSet_15 (by decide) h (fun h => ?_) (fun h => ?_)
    · exact k0 x4 x5 S1 (Option.some.inj h).symm _ _ _ hP hD hS (lv_sub hl [0, 1, 2, 4, 5] rfl)
    · refine lv_iload_n hx hb dX1_lookAtSet_18 rfl (lv_at hl 1 rfl) ?_
      refine lv_iload hx hb dX1_lookAtSet_19 (lv_at hl 6 rfl) ?_
      refine lv_ishr hx hb dX1_lookAtSet_21 ?_
      refine lv_iconst (v := (1 : Int32)) hx hb dX1_lookAtSet_22 (by decide) ?_
      refine lv_iand hx hb dX1_lookAtSet_23 ?_
      refine lv_iconst (v := (1 : Int32)) hx hb dX1_lookAtSet_24 (by decide) ?_
      refine k_icmp_ne (tgt := 62) hC dX1_lookAtSet_25 (by decide) h (fun h => ?_) (fun h => ?_)
      · refine k_iinc (v := (1 : Int32)) (lv' := fun X => [(6, .int X), (0, .ref (q1 100)), (1, .int x1), (2, .int x2), (3, .ref (q2 100)), (4, .int x4), (5, .int x5)]) hC dX1_lookAtSet_62 hl (k := 6) rfl (by decide) (by decide) (fun _ => rfl) h (fun x101 h ls hl => ?_)
        refine lv_goto (tgt := 9) hx hb dX1_lookAtSet_65 (by decide) ?_
        exact ih x4 x5 x101 S1 o h _ _ _ hP hD hS (lv_sub hl [1, 2, 3, 4, 5, 6, 0] rfl) k0
      · refine lv_aload_n hx hb dX1_lookAtSet_28 rfl (lv_at hl 0 rfl) ?_
        refine k_get (ci := 1) (k := 4) (q0 := 0) (v := .ref (q1 4)) (C := RX1) (T := TX1) (N := 14) hC uX1_lookAtSet_X1 hP rfl rfl (by decide) (List.mem_of_getElem? (i := 2) rfl) rfl dX1_lookAtSet_29 ?_
        refine lv_iload hx hb dX1_lookAtSet_32 (lv_at hl 4 rfl) ?_
        refine lv_aload_n hx hb dX1_lookAtSet_34 rfl (lv_at hl 0 rfl) ?_
        refine k_get (ci := 1) (k := 1) (q0 := 0) (v := .ref (q1 1)) (C := RX1) (T := TX1) (N := 14) hC uX1_lookAtSet_X1 hP rfl rfl (by decide) (List.mem_of_getElem? (i := 3) rfl) rfl dX1_lookAtSet_35 ?_
        refine lv_iload hx hb dX1_lookAtSet_38 (lv_at hl 6 rfl) ?_
        refine k_ald (q0 := 1) (n := 6) (F := S1.2 1) hC hP rfl dX1_lookAtSet_40 h (fun v102 h => ?_)
        refine k_ast (q0 := 4) (n := 6) (k := 4) (S := S1) (fun S => (wX1 g q1 S ++ (wX6 g q2 S2))) hC hP hD hS rfl (fun _ => rfl) dX1_lookAtSet_41 h (fun S103 h H locs hP hD hS => ?_)
        refine lv_iload hx hb dX1_lookAtSet_42 (lv_at hl 5 rfl) ?_
        refine lv_aload_n hx hb dX1_lookAtSet_44 rfl (lv_at hl 3 rfl) ?_
        refine k_get (ci := 6) (k := 3) (q0 := 8) (v := .ref (q2 3)) (C := RX6) (T := TX6) (N := 5) hC uX1_lookAtSet_X6 hP rfl rfl (by decide) (List.mem_of_getElem? (i := 4) rfl) rfl dX1_lookAtSet_45 ?_
        refine lv_aload_n hx hb dX1_lookAtSet_48 rfl (lv_at hl 0 rfl) ?_
        refine k_get (ci := 1) (k := 1) (q0 := 0) (v := .ref (q1 1)) (C := RX1) (T := TX1) (N := 14) hC uX1_lookAtSet_X1 hP rfl rfl (by decide) (List.mem_of_getElem? (i := 3) rfl) rfl dX1_lookAtSet_49 ?_
        refine lv_iload hx hb dX1_lookAtSet_52 (lv_at hl 6 rfl) ?_
        refine k_ald (q0 := 1) (n := 6) (F := S103.2 1) hC hP rfl dX1_lookAtSet_54 h (fun v104 h => ?_)
        refine k_ald (q0 := 11) (n := 6) (F := S2.2 3) hC hP rfl dX1_lookAtSet_55 h (fun v105 h => ?_)
        refine lv_iadd hx hb dX1_lookAtSet_56 ?_
        refine k_topi h (fun x106 h => ?_)
        refine lv_istore (lv' := [(5, .int x106), (0, .ref (q1 100)), (1, .int x1), (2, .int x2), (3, .ref (q2 100)), (4, .int x4), (6, .int x6)]) hx hb dX1_lookAtSet_57 hl (by decide) rfl (fun ls hl => ?_)
        refine k_iinc (v := (1 : Int32)) (lv' := fun X => [(4, .int X), (5, .int x106), (0, .ref (q1 100)), (1, .int x1), (2, .int x2), (3, .ref (q2 100)), (6, .int x6)]) hC dX1_lookAtSet_59 hl (k := 5) rfl (by decide) (by decide) (fun _ => rfl) h (fun x107 h ls hl => ?_)
        refine k_iinc (v := (1 : Int32)) (lv' := fun X => [(6, .int X), (4, .int x107), (5, .int x106), (0, .ref (q1 100)), (1, .int x1), (2, .int x2), (3, .ref (q2 100))]) hC dX1_lookAtSet_62 hl (k := 6) rfl (by decide) (by decide) (fun _ => rfl) h (fun x108 h ls hl => ?_)
        refine lv_goto (tgt := 9) hx hb dX1_lookAtSet_65 (by decide) ?_
        exact ih x107 x106 x108 S103 o h _ _ _ hP hD hS (lv_sub hl [3, 4, 5, 6, 1, 2, 0] rfl) k0
def f_X1_lookAtSet (N : Nat) (S1 : St) (S2 : St) (x1 : Int32) (x2 : Int32) : Option (St) :=
  fx_b3 (fx_it (lf_X1_lookAtSet_9 N x1 x2 S2) N ((0 : Int32), (0 : Int32), (0 : Int32), S1)) (fun x101 x102 S103 =>
  fx_b1 (f_X1_tryOrders N S103 x101 x2) (fun S105 =>
    fx_ast 16 S105 9 x1 (S105.1 6) (fun S106 =>
    fx_ast 16 S106 10 x1 x102 (fun S107 =>
    some S107))))
set_option maxRecDepth 100000 in
set_option maxHeartbeats 4000000 in
theorem c_X1_lookAtSet (l : Launch) (g : GG) (N : Nat) (q1 : Nat → Nat) (q2 : Nat → Nat) (S1 : St) (S2 : St) (x1 : Int32) (x2 : Int32) (F1 : St) (h : f_X1_lookAtSet N S1 S2 x1 x2 = some F1) : Cv l yX1_lookAtSet wsX1_lookAtSet RM_X1_lookAtSet g [.ref (q1 100), .int x1, .int x2, .ref (q2 100)] (wX1 g q1 S1 ++ (wX6 g q2 S2)) (wX1 g q1 F1 ++ (wX6 g q2 S2)) := by
  intro sz
  refine Met.ofC (cc := cX1_lookAtSet) (maxL := 7) (ret := none) (by decide) rfl (Nat.le_of_ble_eq_true rfl) ?_
  intro p e s m below meth c hC hr hlk hsz A hA9 hA hP hD hS ls hl
  subst hsz
  have hC : Cx p s m ([.ref (q1 100), .int x1, .int x2, .ref (q2 100)] : List Value).toArray c RX1 cX1_lookAtSet 7 wsX1_lookAtSet g := hC
  have hx := hC.1.1
  have hb := hC.1.2.1
  have hml := hC.1.2.2.1
  have hown := hC.1.2.2.2.1
  have hts := hC.1.2.2.2.2
  have hl : lv_has ls 7 [(0, .ref (q1 100)), (1, .int x1), (2, .int x2), (3, .ref (q2 100))] := hl
  show W p l e RM_X1_lookAtSet s m ([.ref (q1 100), .int x1, .int x2, .ref (q2 100)] : List Value).toArray below meth c s.heap [] 0 0 (Qv below g [.ref (q1 100), .int x1, .int x2, .ref (q2 100)] (wX1 g q1 S1 ++ (wX6 g q2 S2)) (wX1 g q1 F1 ++ (wX6 g q2 S2)) s) (F0 m 0 ls [])
  unfold f_X1_lookAtSet at h
  refine lv_iconst (v := (0 : Int32)) hx hb dX1_lookAtSet_0 (by decide) ?_
  refine lv_istore (lv' := [(4, .int (0 : Int32)), (0, .ref (q1 100)), (1, .int x1), (2, .int x2), (3, .ref (q2 100))]) hx hb dX1_lookAtSet_1 hl (by decide) rfl (fun ls hl => ?_)
  refine lv_iconst (v := (0 : Int32)) hx hb dX1_lookAtSet_3 (by decide) ?_
  refine lv_istore (lv' := [(5, .int (0 : Int32)), (4, .int (0 : Int32)), (0, .ref (q1 100)), (1, .int x1), (2, .int x2), (3, .ref (q2 100))]) hx hb dX1_lookAtSet_4 hl (by decide) rfl (fun ls hl => ?_)
  refine lv_iconst (v := (0 : Int32)) hx hb dX1_lookAtSet_6 (by decide) ?_
  refine lv_istore (lv' := [(6, .int (0 : Int32)), (5, .int (0 : Int32)), (4, .int (0 : Int32)), (0, .ref (q1 100)), (1, .int x1), (2, .int x2), (3, .ref (q2 100))]) hx hb dX1_lookAtSet_7 hl (by decide) rfl (fun ls hl => ?_)
  obtain ⟨x101, x102, S103, ho104, h⟩ := fx_b3_s h
  refine lw_X1_lookAtSet_9 hC hA N q1 q2 x1 x2 S2 N (0 : Int32) (0 : Int32) (0 : Int32) S1  (x101, x102, S103) ho104 _ _ _ hP hD hS (lv_sub hl [3, 4, 5, 6, 2, 1, 0] rfl) ?_
  · intro y0 y1 y2 he H locs ls hP hD hS hl
    obtain ⟨rfl, rfl, rfl⟩ := fx_j3 he
    refine lv_aload_n hx hb dX1_lookAtSet_68 rfl (lv_at hl 0 rfl) ?_
    refine lv_iload hx hb dX1_lookAtSet_69 (lv_at hl 3 rfl) ?_
    refine lv_iload_n hx hb dX1_lookAtSet_71 rfl (lv_at hl 2 rfl) ?_
    obtain ⟨S105, hc108, h⟩ := fx_b1_s h
    refine k_callVv (C := RX1) (ci := 1) (qr := 0) (n := 2) (As := [.int x101, .int x2]) (rest := []) (wc := (wX1 g q1 S103)) (w1 := (wX1 g q1 S105)) (ws2 := (wX1 g q1 S105 ++ (wX6 g q2 S2))) (bytes := cX1_tryOrders) (maxL := 6) (ret := none) hC hl.1 (c_X1_tryOrders l g N q1 S103 x101 x2 S105 hc108) rfl gX1_lookAtSet_X1_tryOrders (by decide +kernel) rfl rfl ⟨Nat.le_of_ble_eq_true rfl, Nat.le_of_ble_eq_true rfl⟩ rfl rfl rfl (Nat.le_of_ble_eq_true rfl) ⟨Nat.le_of_ble_eq_true rfl, Nat.le_of_ble_eq_true rfl⟩ dX1_lookAtSet_72 hP hD hS hA [0, 1, 2, 3, 4, 5, 6, 7] rfl (by decide +kernel) [q1 100, q1 1, q1 2, q1 3, q1 4, q1 8, q1 9, q1 10] rfl rfl rfl [8, 9, 10, 11, 12] (wX6 g q2 S2) rfl rfl (n2 := 13) rfl (by decide +kernel) (fun H locs hP hD hS => ?_)
    refine lv_aload_n hx hb dX1_lookAtSet_75 rfl (lv_at hl 0 rfl) ?_
    refine k_get (ci := 1) (k := 9) (q0 := 0) (v := .ref (q1 9)) (C := RX1) (T := TX1) (N := 14) hC uX1_lookAtSet_X1 hP rfl rfl (by decide) (List.mem_of_getElem? (i := 5) rfl) rfl dX1_lookAtSet_76 ?_
    refine lv_iload_n hx hb dX1_lookAtSet_79 rfl (lv_at hl 1 rfl) ?_
    refine lv_aload_n hx hb dX1_lookAtSet_80 rfl (lv_at hl 0 rfl) ?_
    refine k_get (ci := 1) (k := 6) (q0 := 0) (v := .int (S105.1 6)) (C := RX1) (T := TX1) (N := 14) hC uX1_lookAtSet_X1 hP rfl rfl (by decide) (List.mem_of_getElem? (i := 6) rfl) rfl dX1_lookAtSet_81 ?_
    refine k_ast (q0 := 6) (n := 16) (k := 9) (S := S105) (fun S => (wX1 g q1 S ++ (wX6 g q2 S2))) hC hP hD hS rfl (fun _ => rfl) dX1_lookAtSet_84 h (fun S106 h H locs hP hD hS => ?_)
    refine lv_aload_n hx hb dX1_lookAtSet_85 rfl (lv_at hl 0 rfl) ?_
    refine k_get (ci := 1) (k := 10) (q0 := 0) (v := .ref (q1 10)) (C := RX1) (T := TX1) (N := 14) hC uX1_lookAtSet_X1 hP rfl rfl (by decide) (List.mem_of_getElem? (i := 7) rfl) rfl dX1_lookAtSet_86 ?_
    refine lv_iload_n hx hb dX1_lookAtSet_89 rfl (lv_at hl 1 rfl) ?_
    refine lv_iload hx hb dX1_lookAtSet_90 (lv_at hl 4 rfl) ?_
    refine k_ast (q0 := 7) (n := 16) (k := 10) (S := S106) (fun S => (wX1 g q1 S ++ (wX6 g q2 S2))) hC hP hD hS rfl (fun _ => rfl) dX1_lookAtSet_92 h (fun S107 h H locs hP hD hS => ?_)
    obtain rfl := fx_i1 h
    exact Cv.ret hC hr hlk hA9 hP hD hS dX1_lookAtSet_93
theorem uX1_keepBetter_X1 : ∀ w ∈ u_ws RX1 TX1 14, w ∈ wsX1_keepBetter := fun w h => List.mem_cons_of_mem _ (List.mem_append_right _ h)
abbrev RM_X1_keepBetter : Room := { frames := 0, cells := 0, slots := 0, locals := 0 }
def f_X1_keepBetter (N : Nat) (S1 : St) (x1 : Int32) (x2 : Int32) (x3 : Int32) : Option (St) :=
  fx_b1 ((if x1 = (S1.1 11) then (
  some (1 : Int32)) else (
  some (0 : Int32))) : Option (Int32)) (fun v101 =>
  fx_b1 ((if x2 < (S1.1 12) then (
    some (1 : Int32)) else (
    (if x2 = (S1.1 12) then (
      (if (S1.1 13) ≤ x3 then (
        some (0 : Int32)) else (
        some (1 : Int32)))) else (
      some (0 : Int32))))) : Option (Int32)) (fun v103 =>
    (if (S1.1 11) < x1 then (
      fx_lt (stI S1 11 x1) (fun S105 =>
        fx_lt (stI S105 12 x2) (fun S106 =>
        fx_lt (stI S106 13 x3) (fun S107 =>
        some S107)))) else (
      (if v101 = 0 then (
        some S1) else (
        (if v103 = 0 then (
          some S1) else (
          fx_lt (stI S1 11 x1) (fun S108 =>
            fx_lt (stI S108 12 x2) (fun S109 =>
            fx_lt (stI S109 13 x3) (fun S110 =>
            some S110)))))))))))
set_option maxRecDepth 100000 in
set_option maxHeartbeats 4000000 in
theorem c_X1_keepBetter (l : Launch) (g : GG) (N : Nat) (q1 : Nat → Nat) (S1 : St) (x1 : Int32) (x2 : Int32) (x3 : Int32) (F1 : St) (h : f_X1_keepBetter N S1 x1 x2 x3 = some F1) : Cv l yX1_keepBetter wsX1_keepBetter RM_X1_keepBetter g [.ref (q1 100), .int x1, .int x2, .int x3] (wX1 g q1 S1) (wX1 g q1 F1) := by
  intro sz
  refine Met.ofC (cc := cX1_keepBetter) (maxL := 6) (ret := none) (by decide) rfl (Nat.le_of_ble_eq_true rfl) ?_
  intro p e s m below meth c hC hr hlk hsz A hA9 hA hP hD hS ls hl
  subst hsz
  have hC : Cx p s m ([.ref (q1 100), .int x1, .int x2, .int x3] : List Value).toArray c RX1 cX1_keepBetter 6 wsX1_keepBetter g := hC
  have hx := hC.1.1
  have hb := hC.1.2.1
  have hml := hC.1.2.2.1
  have hown := hC.1.2.2.2.1
  have hts := hC.1.2.2.2.2
  have hl : lv_has ls 6 [(0, .ref (q1 100)), (1, .int x1), (2, .int x2), (3, .int x3)] := hl
  show W p l e RM_X1_keepBetter s m ([.ref (q1 100), .int x1, .int x2, .int x3] : List Value).toArray below meth c s.heap [] 0 0 (Qv below g [.ref (q1 100), .int x1, .int x2, .int x3] (wX1 g q1 S1) (wX1 g q1 F1) s) (F0 m 0 ls [])
  unfold f_X1_keepBetter at h
  refine lv_iload_n hx hb dX1_keepBetter_0 rfl (lv_at hl 1 rfl) ?_
  refine lv_aload_n hx hb dX1_keepBetter_1 rfl (lv_at hl 0 rfl) ?_
  refine k_get (ci := 1) (k := 11) (q0 := 0) (v := .int (S1.1 11)) (C := RX1) (T := TX1) (N := 14) hC uX1_keepBetter_X1 hP rfl rfl (by decide) (List.mem_of_getElem? (i := 1) rfl) rfl dX1_keepBetter_2 ?_
  obtain ⟨v101, hv102, h⟩ := fx_b1_s h
  have K112 : ∀ (H : Heap) (locs : List Loc) (ls : Array Slot), va_P g.1 vwCl (wX1 g q1 S1) H → va_D A (wX1 g q1 S1) → va_S A s.heap H locs → lv_has ls 6 [(0, .ref (q1 100)), (1, .int x1), (2, .int x2), (3, .int x3)] → W p l e RM_X1_keepBetter s m ([.ref (q1 100), .int x1, .int x2, .int x3] : List Value).toArray below meth c H locs 0 0 (Qv below g [.ref (q1 100), .int x1, .int x2, .int x3] (wX1 g q1 S1) (wX1 g q1 F1) s) (F0 m 13 ls [.int v101]) := by
    intro H locs ls hP hD hS hl
    refine lv_istore (lv' := [(4, .int v101), (0, .ref (q1 100)), (1, .int x1), (2, .int x2), (3, .int x3)]) hx hb dX1_keepBetter_13 hl (by decide) rfl (fun ls hl => ?_)
    refine lv_iload_n hx hb dX1_keepBetter_15 rfl (lv_at hl 3 rfl) ?_
    refine lv_aload_n hx hb dX1_keepBetter_16 rfl (lv_at hl 1 rfl) ?_
    refine k_get (ci := 1) (k := 12) (q0 := 0) (v := .int (S1.1 12)) (C := RX1) (T := TX1) (N := 14) hC uX1_keepBetter_X1 hP rfl rfl (by decide) (List.mem_of_getElem? (i := 2) rfl) rfl dX1_keepBetter_17 ?_
    obtain ⟨v103, hv104, h⟩ := fx_b1_s h
    have K111 : ∀ (H : Heap) (locs : List Loc) (ls : Array Slot), va_P g.1 vwCl (wX1 g q1 S1) H → va_D A (wX1 g q1 S1) → va_S A s.heap H locs → lv_has ls 6 [(4, .int v101), (0, .ref (q1 100)), (1, .int x1), (2, .int x2), (3, .int x3)] → W p l e RM_X1_keepBetter s m ([.ref (q1 100), .int x1, .int x2, .int x3] : List Value).toArray below meth c H locs 0 0 (Qv below g [.ref (q1 100), .int x1, .int x2, .int x3] (wX1 g q1 S1) (wX1 g q1 F1) s) (F0 m 44 ls [.int v103]) := by
      intro H locs ls hP hD hS hl
      refine lv_istore (lv' := [(5, .int v103), (4, .int v101), (0, .ref (q1 100)), (1, .int x1), (2, .int x2), (3, .int x3)]) hx hb dX1_keepBetter_44 hl (by decide) rfl (fun ls hl => ?_)
      refine lv_iload_n hx hb dX1_keepBetter_46 rfl (lv_at hl 3 rfl) ?_
      refine lv_aload_n hx hb dX1_keepBetter_47 rfl (lv_at hl 2 rfl) ?_
      refine k_get (ci := 1) (k := 11) (q0 := 0) (v := .int (S1.1 11)) (C := RX1) (T := TX1) (N := 14) hC uX1_keepBetter_X1 hP rfl rfl (by decide) (List.mem_of_getElem? (i := 1) rfl) rfl dX1_keepBetter_48 ?_
      refine k_icmp_gt (tgt := 64) hC dX1_keepBetter_51 (by decide) h (fun h => ?_) (fun h => ?_)
      · refine lv_aload_n hx hb dX1_keepBetter_64 rfl (lv_at hl 2 rfl) ?_
        refine lv_iload_n hx hb dX1_keepBetter_65 rfl (lv_at hl 3 rfl) ?_
        refine k_put (ci := 1) (k := 11) (q0 := 0) (C := RX1) (T := TX1) (N := 14) (S2 := stI S1 11 x1) tyX1 (fun S => (wX1 g q1 S)) hC uX1_keepBetter_X1 tyX1_ok nmX1 hP hD hS rfl rfl (by decide) (List.mem_of_getElem? (i := 1) rfl) rfl (tyX1_ok 11 (by decide)) (Nat.le_of_ble_eq_true rfl) dX1_keepBetter_66 rfl h (fun S105 h H locs hP hD hS => ?_)
        refine lv_aload_n hx hb dX1_keepBetter_69 rfl (lv_at hl 2 rfl) ?_
        refine lv_iload_n hx hb dX1_keepBetter_70 rfl (lv_at hl 4 rfl) ?_
        refine k_put (ci := 1) (k := 12) (q0 := 0) (C := RX1) (T := TX1) (N := 14) (S2 := stI S105 12 x2) tyX1 (fun S => (wX1 g q1 S)) hC uX1_keepBetter_X1 tyX1_ok nmX1 hP hD hS rfl rfl (by decide) (List.mem_of_getElem? (i := 2) rfl) rfl (tyX1_ok 12 (by decide)) (Nat.le_of_ble_eq_true rfl) dX1_keepBetter_71 rfl h (fun S106 h H locs hP hD hS => ?_)
        refine lv_aload_n hx hb dX1_keepBetter_74 rfl (lv_at hl 2 rfl) ?_
        refine lv_iload_n hx hb dX1_keepBetter_75 rfl (lv_at hl 5 rfl) ?_
        refine k_put (ci := 1) (k := 13) (q0 := 0) (C := RX1) (T := TX1) (N := 14) (S2 := stI S106 13 x3) tyX1 (fun S => (wX1 g q1 S)) hC uX1_keepBetter_X1 tyX1_ok nmX1 hP hD hS rfl rfl (by decide) (List.mem_of_getElem? (i := 3) rfl) rfl (tyX1_ok 13 (by decide)) (Nat.le_of_ble_eq_true rfl) dX1_keepBetter_76 rfl h (fun S107 h H locs hP hD hS => ?_)
        obtain rfl := fx_i1 h
        exact Cv.ret hC hr hlk hA9 hP hD hS dX1_keepBetter_79
      · refine lv_iload hx hb dX1_keepBetter_54 (lv_at hl 1 rfl) ?_
        refine k_if_eq (tgt := 79) hC dX1_keepBetter_56 (by decide) h (fun h => ?_) (fun h => ?_)
        · obtain rfl := fx_i1 h
          exact Cv.ret hC hr hlk hA9 hP hD hS dX1_keepBetter_79
        · refine lv_iload hx hb dX1_keepBetter_59 (lv_at hl 0 rfl) ?_
          refine k_if_eq (tgt := 79) hC dX1_keepBetter_61 (by decide) h (fun h => ?_) (fun h => ?_)
          · obtain rfl := fx_i1 h
            exact Cv.ret hC hr hlk hA9 hP hD hS dX1_keepBetter_79
          · refine lv_aload_n hx hb dX1_keepBetter_64 rfl (lv_at hl 2 rfl) ?_
            refine lv_iload_n hx hb dX1_keepBetter_65 rfl (lv_at hl 3 rfl) ?_
            refine k_put (ci := 1) (k := 11) (q0 := 0) (C := RX1) (T := TX1) (N := 14) (S2 := stI S1 11 x1) tyX1 (fun S => (wX1 g q1 S)) hC uX1_keepBetter_X1 tyX1_ok nmX1 hP hD hS rfl rfl (by decide) (List.mem_of_getElem? (i := 1) rfl) rfl (tyX1_ok 11 (by decide)) (Nat.le_of_ble_eq_true rfl) dX1_keepBetter_66 rfl h (fun S108 h H locs hP hD hS => ?_)
            refine lv_aload_n hx hb dX1_keepBetter_69 rfl (lv_at hl 2 rfl) ?_
            refine lv_iload_n hx hb dX1_keepBetter_70 rfl (lv_at hl 4 rfl) ?_
            refine k_put (ci := 1) (k := 12) (q0 := 0) (C := RX1) (T := TX1) (N := 14) (S2 := stI S108 12 x2) tyX1 (fun S => (wX1 g q1 S)) hC uX1_keepBetter_X1 tyX1_ok nmX1 hP hD hS rfl rfl (by decide) (List.mem_of_getElem? (i := 2) rfl) rfl (tyX1_ok 12 (by decide)) (Nat.le_of_ble_eq_true rfl) dX1_keepBetter_71 rfl h (fun S109 h H locs hP hD hS => ?_)
            refine lv_aload_n hx hb dX1_keepBetter_74 rfl (lv_at hl 2 rfl) ?_
            refine lv_iload_n hx hb dX1_keepBetter_75 rfl (lv_at hl 5 rfl) ?_
            refine k_put (ci := 1) (k := 13) (q0 := 0) (C := RX1) (T := TX1) (N := 14) (S2 := stI S109 13 x3) tyX1 (fun S => (wX1 g q1 S)) hC uX1_keepBetter_X1 tyX1_ok nmX1 hP hD hS rfl rfl (by decide) (List.mem_of_getElem? (i := 3) rfl) rfl (tyX1_ok 13 (by decide)) (Nat.le_of_ble_eq_true rfl) dX1_keepBetter_76 rfl h (fun S110 h H locs hP hD hS => ?_)
            obtain rfl := fx_i1 h
            exact Cv.ret hC hr hlk hA9 hP hD hS dX1_keepBetter_79
    refine k_icmp_lt (tgt := 39) hC dX1_keepBetter_20 (by decide) hv104 (fun hv104 => ?_) (fun hv104 => ?_)
    · refine lv_iconst (v := (1 : Int32)) hx hb dX1_keepBetter_39 (by decide) ?_
      refine lv_goto (tgt := 44) hx hb dX1_keepBetter_40 (by decide) ?_
      obtain rfl := fx_i1 hv104
      exact K111 _ _ _ hP hD hS (lv_sub hl [0, 1, 2, 3, 4] rfl)
    · refine lv_iload_n hx hb dX1_keepBetter_23 rfl (lv_at hl 3 rfl) ?_
      refine lv_aload_n hx hb dX1_keepBetter_24 rfl (lv_at hl 1 rfl) ?_
      refine k_get (ci := 1) (k := 12) (q0 := 0) (v := .int (S1.1 12)) (C := RX1) (T := TX1) (N := 14) hC uX1_keepBetter_X1 hP rfl rfl (by decide) (List.mem_of_getElem? (i := 2) rfl) rfl dX1_keepBetter_25 ?_
      refine k_icmp_ne (tgt := 43) hC dX1_keepBetter_28 (by decide) hv104 (fun hv104 => ?_) (fun hv104 => ?_)
      · refine lv_iconst (v := (0 : Int32)) hx hb dX1_keepBetter_43 (by decide) ?_
        obtain rfl := fx_i1 hv104
        exact K111 _ _ _ hP hD hS (lv_sub hl [0, 1, 2, 3, 4] rfl)
      · refine lv_iload_n hx hb dX1_keepBetter_31 rfl (lv_at hl 4 rfl) ?_
        refine lv_aload_n hx hb dX1_keepBetter_32 rfl (lv_at hl 1 rfl) ?_
        refine k_get (ci := 1) (k := 13) (q0 := 0) (v := .int (S1.1 13)) (C := RX1) (T := TX1) (N := 14) hC uX1_keepBetter_X1 hP rfl rfl (by decide) (List.mem_of_getElem? (i := 3) rfl) rfl dX1_keepBetter_33 ?_
        refine k_icmp_ge (tgt := 43) hC dX1_keepBetter_36 (by decide) hv104 (fun hv104 => ?_) (fun hv104 => ?_)
        · refine lv_iconst (v := (0 : Int32)) hx hb dX1_keepBetter_43 (by decide) ?_
          obtain rfl := fx_i1 hv104
          exact K111 _ _ _ hP hD hS (lv_sub hl [0, 1, 2, 3, 4] rfl)
        · refine lv_iconst (v := (1 : Int32)) hx hb dX1_keepBetter_39 (by decide) ?_
          refine lv_goto (tgt := 44) hx hb dX1_keepBetter_40 (by decide) ?_
          obtain rfl := fx_i1 hv104
          exact K111 _ _ _ hP hD hS (lv_sub hl [0, 1, 2, 3, 4] rfl)
  refine k_icmp_ne (tgt := 12) hC dX1_keepBetter_5 (by decide) hv102 (fun hv102 => ?_) (fun hv102 => ?_)
  · refine lv_iconst (v := (0 : Int32)) hx hb dX1_keepBetter_12 (by decide) ?_
    obtain rfl := fx_i1 hv102
    exact K112 _ _ _ hP hD hS (lv_sub hl [0, 1, 2, 3] rfl)
  · refine lv_iconst (v := (1 : Int32)) hx hb dX1_keepBetter_8 (by decide) ?_
    refine lv_goto (tgt := 13) hx hb dX1_keepBetter_9 (by decide) ?_
    obtain rfl := fx_i1 hv102
    exact K112 _ _ _ hP hD hS (lv_sub hl [0, 1, 2, 3] rfl)
theorem uX1_shareOut_X1 : ∀ w ∈ u_ws RX1 TX1 14, w ∈ wsX1_shareOut := fun w h => List.mem_cons_of_mem _ (List.mem_append_left _ (List.mem_append_right _ h))
abbrev RM_X1_shareOut : Room := { frames := 4, cells := 0, slots := 0, locals := 99 }
def bd_X1_shareOut_14 (N : Nat) (x1 : Int32) (x3 : Int32) (S2 : St) (x4 : Int32) (S1 : St) (rec : (Int32 × St) → Option (St)) : Option (St) :=
  (if x3 ≤ x4 then (
    some S1) else (
    fx_b1 (f_X1_lookAtSet N S1 S2 x4 x1) (fun S101 =>
      fx_lt (x4 + (1 : Int32)) (fun x102 =>
      rec (x102, S101)))))
def lf_X1_shareOut_14 (N : Nat) (x1 : Int32) (x3 : Int32) (S2 : St) : (Int32 × St) → ((Int32 × St) → Option (St)) → Option (St) := fun x rec => bd_X1_shareOut_14 N x1 x3 S2 x.1 x.2 rec
set_option maxRecDepth 100000 in
set_option maxHeartbeats 4000000 in
theorem lw_X1_shareOut_14 {p : Program} {l : Launch} {e : Env} {s : State} {m : MethodId} {args : Array Value} {below : List Frame} {meth : Method} {c : Code} {Q : State → Prop} {A : Nat → Prop} {H0 : Heap} {g : GG} (hC : Cx p s m args c RX1 cX1_shareOut 6 wsX1_shareOut g) (hA : ∀ q : Nat, H0.size ≤ q → A q) (N : Nat) (q1 : Nat → Nat) (q2 : Nat → Nat) (x1 : Int32) (x3 : Int32) (S2 : St) : ∀ (n : Nat) (x4 : Int32) (S1 : St) (o : St), fx_it (lf_X1_shareOut_14 N x1 x3 S2) n (x4, S1) = some o → ∀ (H : Heap) (locs : List Loc) (ls : Array Slot), va_P g.1 vwCl (wX1 g q1 S1 ++ (wX6 g q2 S2)) H → va_D A (wX1 g q1 S1 ++ (wX6 g q2 S2)) → va_S A H0 H locs → lv_has ls 6 [(0, .ref (q1 100)), (1, .int x1), (2, .ref (q2 100)), (3, .int x3), (4, .int x4)] → (∀ (Z0 : St), o = Z0 → ∀ (H : Heap) (locs : List Loc) (ls : Array Slot), va_P g.1 vwCl (wX1 g q1 Z0 ++ (wX6 g q2 S2)) H → va_D A (wX1 g q1 Z0 ++ (wX6 g q2 S2)) → va_S A H0 H locs → lv_has ls 6 [(0, .ref (q1 100)), (3, .int x3)] → W p l e RM_X1_shareOut s m args below meth c H locs 0 0 Q (F0 m 34 ls [])) → W p l e RM_X1_shareOut s m args below meth c H locs 0 0 Q (F0 m 14 ls []) := by
  have hx := hC.1.1
  have hb := hC.1.2.1
  have hml := hC.1.2.2.1
  have hown := hC.1.2.2.2.1
  have hts := hC.1.2.2.2.2
  intro n
  induction n with
  | zero => intro x4 S1 o h; cases h
  | succ n ih =>
    intro x4 S1 o h H locs ls hP hD hS hl k0
    have h : bd_X1_shareOut_14 N x1 x3 S2 x4 S1 (fx_it (lf_X1_shareOut_14 N x1 x3 S2) n) = some o := h
    unfold bd_X1_shareOut_14 at h
    refine lv_iload hx hb dX1_shareOut_14 (lv_at hl 4 rfl) ?_
    refine lv_iload_n hx hb dX1_shareOut_16 rfl (lv_at hl 3 rfl) ?_
    refine k_icmp_ge (tgt := 34) hC dX1_shareOut_17 (by decide) h (fun h => ?_) (fun h => ?_)
    · exact k0 S1 (Option.some.inj h).symm _ _ _ hP hD hS (lv_sub hl [0, 3] rfl)
    · refine lv_aload_n hx hb dX1_shareOut_20 rfl (lv_at hl 0 rfl) ?_
      refine lv_iload hx hb dX1_shareOut_21 (lv_at hl 4 rfl) ?_
      refine lv_iload_n hx hb dX1_shareOut_23 rfl (lv_at hl 1 rfl) ?_
      refine lv_aload_n hx hb dX1_shareOut_24 rfl (lv_at hl 2 rfl) ?_
      obtain ⟨S101, hc103, h⟩ := fx_b1_s h
      refine k_callVv (C := RX1) (ci := 1) (qr := 0) (n := 3) (As := [.int x4, .int x1, .ref (q2 100)]) (rest := []) (wc := (wX1 g q1 S1 ++ (wX6 g q2 S2))) (w1 := (wX1 g q1 S101 ++ (wX6 g q2 S2))) (ws2 := (wX1 g q1 S101 ++ (wX6 g q2 S2))) (bytes := cX1_lookAtSet) (maxL := 7) (ret := none) hC hl.1 (c_X1_lookAtSet l g N q1 q2 S1 S2 x4 x1 S101 hc103) rfl gX1_shareOut_X1_lookAtSet (by decide +kernel) rfl rfl ⟨Nat.le_of_ble_eq_true rfl, Nat.le_of_ble_eq_true rfl⟩ rfl rfl rfl (Nat.le_of_ble_eq_true rfl) ⟨Nat.le_of_ble_eq_true rfl, Nat.le_of_ble_eq_true rfl⟩ dX1_shareOut_25 hP hD hS hA [0, 1, 2, 3, 4, 5, 6, 7, 8, 9, 10, 11, 12] rfl (by decide +kernel) [q1 100, q1 1, q1 2, q1 3, q1 4, q1 8, q1 9, q1 10, q2 100, q2 1, q2 2, q2 3, q2 4] rfl rfl rfl [] ([] : va_W) rfl rfl (n2 := 13) rfl (by decide +kernel) (fun H locs hP hD hS => ?_)
      refine k_iinc (v := (1 : Int32)) (lv' := fun X => [(4, .int X), (0, .ref (q1 100)), (1, .int x1), (2, .ref (q2 100)), (3, .int x3)]) hC dX1_shareOut_28 hl (k := 4) rfl (by decide) (by decide) (fun _ => rfl) h (fun x102 h ls hl => ?_)
      refine lv_goto (tgt := 14) hx hb dX1_shareOut_31 (by decide) ?_
      exact ih x102 S101 o h _ _ _ hP hD hS (lv_sub hl [1, 2, 3, 4, 0] rfl) k0
def bd_X1_shareOut_52 (N : Nat) (x3 : Int32) (x4 : Int32) (S2 : St) (x5 : Int32) (S1 : St) (rec : (Int32 × St) → Option (St)) : Option (St) :=
  (if x3 ≤ x5 then (
    some S1) else (
    (if (x4 &&& x5) = 0 then (
      fx_ald 16 (S1.2 9) x4 (fun v102 =>
        (if v102 = (-6 : Int32) then (
        fx_lt (x5 + (1 : Int32)) (fun x103 =>
          rec (x103, S1))) else (
        fx_ald 16 (S1.2 9) x5 (fun v104 =>
          (if v104 = (-6 : Int32) then (
          fx_lt (x5 + (1 : Int32)) (fun x105 =>
            rec (x105, S1))) else (
          fx_ald 16 (S1.2 10) x4 (fun v106 =>
            fx_ald 16 (S1.2 10) x5 (fun v107 =>
            fx_ald 16 (S1.2 9) x4 (fun v108 =>
            fx_ald 16 (S1.2 9) x5 (fun v109 =>
            fx_b1 (f_X1_keepBetter N S1 (v106 + v107) v108 v109) (fun S110 =>
            fx_lt (x5 + (1 : Int32)) (fun x111 =>
            rec (x111, S110)))))))))))))) else (
      fx_lt (x5 + (1 : Int32)) (fun x101 =>
        rec (x101, S1))))))
def lf_X1_shareOut_52 (N : Nat) (x3 : Int32) (x4 : Int32) (S2 : St) : (Int32 × St) → ((Int32 × St) → Option (St)) → Option (St) := fun x rec => bd_X1_shareOut_52 N x3 x4 S2 x.1 x.2 rec
set_option maxRecDepth 100000 in
set_option maxHeartbeats 4000000 in
theorem lw_X1_shareOut_52 {p : Program} {l : Launch} {e : Env} {s : State} {m : MethodId} {args : Array Value} {below : List Frame} {meth : Method} {c : Code} {Q : State → Prop} {A : Nat → Prop} {H0 : Heap} {g : GG} (hC : Cx p s m args c RX1 cX1_shareOut 6 wsX1_shareOut g) (hA : ∀ q : Nat, H0.size ≤ q → A q) (N : Nat) (q1 : Nat → Nat) (q2 : Nat → Nat) (x3 : Int32) (x4 : Int32) (S2 : St) : ∀ (n : Nat) (x5 : Int32) (S1 : St) (o : St), fx_it (lf_X1_shareOut_52 N x3 x4 S2) n (x5, S1) = some o → ∀ (H : Heap) (locs : List Loc) (ls : Array Slot), va_P g.1 vwCl (wX1 g q1 S1 ++ (wX6 g q2 S2)) H → va_D A (wX1 g q1 S1 ++ (wX6 g q2 S2)) → va_S A H0 H locs → lv_has ls 6 [(0, .ref (q1 100)), (3, .int x3), (4, .int x4), (5, .int x5)] → (∀ (Z0 : St), o = Z0 → ∀ (H : Heap) (locs : List Loc) (ls : Array Slot), va_P g.1 vwCl (wX1 g q1 Z0 ++ (wX6 g q2 S2)) H → va_D A (wX1 g q1 Z0 ++ (wX6 g q2 S2)) → va_S A H0 H locs → lv_has ls 6 [(0, .ref (q1 100)), (3, .int x3), (4, .int x4)] → W p l e RM_X1_shareOut s m args below meth c H locs 0 0 Q (F0 m 129 ls [])) → W p l e RM_X1_shareOut s m args below meth c H locs 0 0 Q (F0 m 52 ls []) := by
  have hx := hC.1.1
  have hb := hC.1.2.1
  have hml := hC.1.2.2.1
  have hown := hC.1.2.2.2.1
  have hts := hC.1.2.2.2.2
  intro n
  induction n with
  | zero => intro x5 S1 o h; cases h
  | succ n ih =>
    intro x5 S1 o h H locs ls hP hD hS hl k0
    have h : bd_X1_shareOut_52 N x3 x4 S2 x5 S1 (fx_it (lf_X1_shareOut_52 N x3 x4 S2) n) = some o := h
    unfold bd_X1_shareOut_52 at h
    refine lv_iload hx hb dX1_shareOut_52 (lv_at hl 3 rfl) ?_
    refine lv_iload_n hx hb dX1_shareOut_54 rfl (lv_at hl 1 rfl) ?_
    refine k_icmp_ge (tgt := 129) hC dX1_shareOut_55 (by decide) h (fun h => ?_) (fun h => ?_)
    · exact k0 S1 (Option.some.inj h).symm _ _ _ hP hD hS (lv_sub hl [0, 1, 2] rfl)
    · refine lv_iload hx hb dX1_shareOut_58 (lv_at hl 2 rfl) ?_
      refine lv_iload hx hb dX1_shareOut_60 (lv_at hl 3 rfl) ?_
      refine lv_iand hx hb dX1_shareOut_62 ?_
      refine k_if_ne (tgt := 123) hC dX1_shareOut_63 (by decide) h (fun h => ?_) (fun h => ?_)
      · refine k_iinc (v := (1 : Int32)) (lv' := fun X => [(5, .int X), (0, .ref (q1 100)), (3, .int x3), (4, .int x4)]) hC dX1_shareOut_123 hl (k := 3) rfl (by decide) (by decide) (fun _ => rfl) h (fun x101 h ls hl => ?_)
        refine lv_goto (tgt := 52) hx hb dX1_shareOut_126 (by decide) ?_
        exact ih x101 S1 o h _ _ _ hP hD hS (lv_sub hl [1, 2, 3, 0] rfl) k0
      · refine lv_aload_n hx hb dX1_shareOut_66 rfl (lv_at hl 0 rfl) ?_
        refine k_get (ci := 1) (k := 9) (q0 := 0) (v := .ref (q1 9)) (C := RX1) (T := TX1) (N := 14) hC uX1_shareOut_X1 hP rfl rfl (by decide) (List.mem_of_getElem? (i := 7) rfl) rfl dX1_shareOut_67 ?_
        refine lv_iload hx hb dX1_shareOut_70 (lv_at hl 2 rfl) ?_
        refine k_ald (q0 := 6) (n := 16) (F := S1.2 9) hC hP rfl dX1_shareOut_72 h (fun v102 h => ?_)
        refine lv_bipush (v := (-6 : Int32)) hx hb dX1_shareOut_73 (by decide) ?_
        refine k_icmp_eq (tgt := 123) hC dX1_shareOut_75 (by decide) h (fun h => ?_) (fun h => ?_)
        · refine k_iinc (v := (1 : Int32)) (lv' := fun X => [(5, .int X), (0, .ref (q1 100)), (3, .int x3), (4, .int x4)]) hC dX1_shareOut_123 hl (k := 3) rfl (by decide) (by decide) (fun _ => rfl) h (fun x103 h ls hl => ?_)
          refine lv_goto (tgt := 52) hx hb dX1_shareOut_126 (by decide) ?_
          exact ih x103 S1 o h _ _ _ hP hD hS (lv_sub hl [1, 2, 3, 0] rfl) k0
        · refine lv_aload_n hx hb dX1_shareOut_78 rfl (lv_at hl 0 rfl) ?_
          refine k_get (ci := 1) (k := 9) (q0 := 0) (v := .ref (q1 9)) (C := RX1) (T := TX1) (N := 14) hC uX1_shareOut_X1 hP rfl rfl (by decide) (List.mem_of_getElem? (i := 7) rfl) rfl dX1_shareOut_79 ?_
          refine lv_iload hx hb dX1_shareOut_82 (lv_at hl 3 rfl) ?_
          refine k_ald (q0 := 6) (n := 16) (F := S1.2 9) hC hP rfl dX1_shareOut_84 h (fun v104 h => ?_)
          refine lv_bipush (v := (-6 : Int32)) hx hb dX1_shareOut_85 (by decide) ?_
          refine k_icmp_eq (tgt := 123) hC dX1_shareOut_87 (by decide) h (fun h => ?_) (fun h => ?_)
          · refine k_iinc (v := (1 : Int32)) (lv' := fun X => [(5, .int X), (0, .ref (q1 100)), (3, .int x3), (4, .int x4)]) hC dX1_shareOut_123 hl (k := 3) rfl (by decide) (by decide) (fun _ => rfl) h (fun x105 h ls hl => ?_)
            refine lv_goto (tgt := 52) hx hb dX1_shareOut_126 (by decide) ?_
            exact ih x105 S1 o h _ _ _ hP hD hS (lv_sub hl [1, 2, 3, 0] rfl) k0
          · refine lv_aload_n hx hb dX1_shareOut_90 rfl (lv_at hl 0 rfl) ?_
            refine lv_aload_n hx hb dX1_shareOut_91 rfl (lv_at hl 0 rfl) ?_
            refine k_get (ci := 1) (k := 10) (q0 := 0) (v := .ref (q1 10)) (C := RX1) (T := TX1) (N := 14) hC uX1_shareOut_X1 hP rfl rfl (by decide) (List.mem_of_getElem? (i := 8) rfl) rfl dX1_shareOut_92 ?_
            refine lv_iload hx hb dX1_shareOut_95 (lv_at hl 2 rfl) ?_
            refine k_ald (q0 := 7) (n := 16) (F := S1.2 10) hC hP rfl dX1_shareOut_97 h (fun v106 h => ?_)
            refine lv_aload_n hx hb dX1_shareOut_98 rfl (lv_at hl 0 rfl) ?_
            refine k_get (ci := 1) (k := 10) (q0 := 0) (v := .ref (q1 10)) (C := RX1) (T := TX1) (N := 14) hC uX1_shareOut_X1 hP rfl rfl (by decide) (List.mem_of_getElem? (i := 8) rfl) rfl dX1_shareOut_99 ?_
            refine lv_iload hx hb dX1_shareOut_102 (lv_at hl 3 rfl) ?_
            refine k_ald (q0 := 7) (n := 16) (F := S1.2 10) hC hP rfl dX1_shareOut_104 h (fun v107 h => ?_)
            refine lv_iadd hx hb dX1_shareOut_105 ?_
            refine lv_aload_n hx hb dX1_shareOut_106 rfl (lv_at hl 0 rfl) ?_
            refine k_get (ci := 1) (k := 9) (q0 := 0) (v := .ref (q1 9)) (C := RX1) (T := TX1) (N := 14) hC uX1_shareOut_X1 hP rfl rfl (by decide) (List.mem_of_getElem? (i := 7) rfl) rfl dX1_shareOut_107 ?_
            refine lv_iload hx hb dX1_shareOut_110 (lv_at hl 2 rfl) ?_
            refine k_ald (q0 := 6) (n := 16) (F := S1.2 9) hC hP rfl dX1_shareOut_112 h (fun v108 h => ?_)
            refine lv_aload_n hx hb dX1_shareOut_113 rfl (lv_at hl 0 rfl) ?_
            refine k_get (ci := 1) (k := 9) (q0 := 0) (v := .ref (q1 9)) (C := RX1) (T := TX1) (N := 14) hC uX1_shareOut_X1 hP rfl rfl (by decide) (List.mem_of_getElem? (i := 7) rfl) rfl dX1_shareOut_114 ?_
            refine lv_iload hx hb dX1_shareOut_117 (lv_at hl 3 rfl) ?_
            refine k_ald (q0 := 6) (n := 16) (F := S1.2 9) hC hP rfl dX1_shareOut_119 h (fun v109 h => ?_)
            obtain ⟨S110, hc112, h⟩ := fx_b1_s h
            refine k_callVv (C := RX1) (ci := 1) (qr := 0) (n := 3) (As := [.int (v106 + v107), .int v108, .int v109]) (rest := []) (wc := (wX1 g q1 S1)) (w1 := (wX1 g q1 S110)) (ws2 := (wX1 g q1 S110 ++ (wX6 g q2 S2))) (bytes := cX1_keepBetter) (maxL := 6) (ret := none) hC hl.1 (c_X1_keepBetter l g N q1 S1 (v106 + v107) v108 v109 S110 hc112) rfl gX1_shareOut_X1_keepBetter (by decide +kernel) rfl rfl ⟨Nat.le_of_ble_eq_true rfl, Nat.le_of_ble_eq_true rfl⟩ rfl rfl rfl (Nat.le_of_ble_eq_true rfl) ⟨Nat.le_of_ble_eq_true rfl, Nat.le_of_ble_eq_true rfl⟩ dX1_shareOut_120 hP hD hS hA [0, 1, 2, 3, 4, 5, 6, 7] rfl (by decide +kernel) [q1 100, q1 1, q1 2, q1 3, q1 4, q1 8, q1 9, q1 10] rfl rfl rfl [8, 9, 10, 11, 12] (wX6 g q2 S2) rfl rfl (n2 := 13) rfl (by decide +kernel) (fun H locs hP hD hS => ?_)
            refine k_iinc (v := (1 : Int32)) (lv' := fun X => [(5, .int X), (0, .ref (q1 100)), (3, .int x3), (4, .int x4)]) hC dX1_shareOut_123 hl (k := 3) rfl (by decide) (by decide) (fun _ => rfl) h (fun x111 h ls hl => ?_)
            refine lv_goto (tgt := 52) hx hb dX1_shareOut_126 (by decide) ?_
            exact ih x111 S110 o h _ _ _ hP hD hS (lv_sub hl [1, 2, 3, 0] rfl) k0
def bd_X1_shareOut_43 (N : Nat) (x3 : Int32) (S2 : St) (x4 : Int32) (S1 : St) (rec : (Int32 × St) → Option (St)) : Option (St) :=
  (if x3 ≤ x4 then (
    some S1) else (
    fx_b1 (fx_it (lf_X1_shareOut_52 N x3 x4 S2) N ((0 : Int32), S1)) (fun S101 =>
      fx_lt (x4 + (1 : Int32)) (fun x103 =>
        rec (x103, S101)))))
def lf_X1_shareOut_43 (N : Nat) (x3 : Int32) (S2 : St) : (Int32 × St) → ((Int32 × St) → Option (St)) → Option (St) := fun x rec => bd_X1_shareOut_43 N x3 S2 x.1 x.2 rec
set_option maxRecDepth 100000 in
set_option maxHeartbeats 4000000 in
theorem lw_X1_shareOut_43 {p : Program} {l : Launch} {e : Env} {s : State} {m : MethodId} {args : Array Value} {below : List Frame} {meth : Method} {c : Code} {Q : State → Prop} {A : Nat → Prop} {H0 : Heap} {g : GG} (hC : Cx p s m args c RX1 cX1_shareOut 6 wsX1_shareOut g) (hA : ∀ q : Nat, H0.size ≤ q → A q) (N : Nat) (q1 : Nat → Nat) (q2 : Nat → Nat) (x3 : Int32) (S2 : St) : ∀ (n : Nat) (x4 : Int32) (S1 : St) (o : St), fx_it (lf_X1_shareOut_43 N x3 S2) n (x4, S1) = some o → ∀ (H : Heap) (locs : List Loc) (ls : Array Slot), va_P g.1 vwCl (wX1 g q1 S1 ++ (wX6 g q2 S2)) H → va_D A (wX1 g q1 S1 ++ (wX6 g q2 S2)) → va_S A H0 H locs → lv_has ls 6 [(0, .ref (q1 100)), (3, .int x3), (4, .int x4)] → (∀ (Z0 : St), o = Z0 → ∀ (H : Heap) (locs : List Loc) (ls : Array Slot), va_P g.1 vwCl (wX1 g q1 Z0 ++ (wX6 g q2 S2)) H → va_D A (wX1 g q1 Z0 ++ (wX6 g q2 S2)) → va_S A H0 H locs → lv_has ls 6 [] → W p l e RM_X1_shareOut s m args below meth c H locs 0 0 Q (F0 m 135 ls [])) → W p l e RM_X1_shareOut s m args below meth c H locs 0 0 Q (F0 m 43 ls []) := by
  have hx := hC.1.1
  have hb := hC.1.2.1
  have hml := hC.1.2.2.1
  have hown := hC.1.2.2.2.1
  have hts := hC.1.2.2.2.2
  intro n
  induction n with
  | zero => intro x4 S1 o h; cases h
  | succ n ih =>
    intro x4 S1 o h H locs ls hP hD hS hl k0
    have h : bd_X1_shareOut_43 N x3 S2 x4 S1 (fx_it (lf_X1_shareOut_43 N x3 S2) n) = some o := h
    unfold bd_X1_shareOut_43 at h
    refine lv_iload hx hb dX1_shareOut_43 (lv_at hl 2 rfl) ?_
    refine lv_iload_n hx hb dX1_shareOut_45 rfl (lv_at hl 1 rfl) ?_
    refine k_icmp_ge (tgt := 135) hC dX1_shareOut_46 (by decide) h (fun h => ?_) (fun h => ?_)
    · exact k0 S1 (Option.some.inj h).symm _ _ _ hP hD hS (lv_sub hl [] rfl)
    · refine lv_iconst (v := (0 : Int32)) hx hb dX1_shareOut_49 (by decide) ?_
      refine lv_istore (lv' := [(5, .int (0 : Int32)), (0, .ref (q1 100)), (3, .int x3), (4, .int x4)]) hx hb dX1_shareOut_50 hl (by decide) rfl (fun ls hl => ?_)
      obtain ⟨S101, ho102, h⟩ := fx_b1_s h
      refine lw_X1_shareOut_52 hC hA N q1 q2 x3 x4 S2 N (0 : Int32) S1  S101 ho102 _ _ _ hP hD hS (lv_sub hl [1, 2, 3, 0] rfl) ?_
      · intro y0 he H locs ls hP hD hS hl
        obtain rfl := he
        refine k_iinc (v := (1 : Int32)) (lv' := fun X => [(4, .int X), (0, .ref (q1 100)), (3, .int x3)]) hC dX1_shareOut_129 hl (k := 2) rfl (by decide) (by decide) (fun _ => rfl) h (fun x103 h ls hl => ?_)
        refine lv_goto (tgt := 43) hx hb dX1_shareOut_132 (by decide) ?_
        exact ih x103 S101 o h _ _ _ hP hD hS (lv_sub hl [1, 2, 0] rfl) k0
def f_X1_shareOut (N : Nat) (S1 : St) (S2 : St) (x1 : Int32) : Option (St) :=
  fx_lt (if (4 : Int32) < (S1.1 0) then (4 : Int32) else (S1.1 0)) (fun x101 =>
  fx_lt ((1 : Int32) <<< (x101 &&& 31)) (fun x102 =>
  fx_b1 (fx_it (lf_X1_shareOut_14 N x1 x102 S2) N ((0 : Int32), S1)) (fun S103 =>
  fx_lt (stI S103 11 (-6 : Int32)) (fun S105 =>
    fx_b1 (fx_it (lf_X1_shareOut_43 N x102 S2) N ((0 : Int32), S105)) (fun S106 =>
    some S106)))))
set_option maxRecDepth 100000 in
set_option maxHeartbeats 4000000 in
theorem c_X1_shareOut (l : Launch) (g : GG) (N : Nat) (q1 : Nat → Nat) (q2 : Nat → Nat) (S1 : St) (S2 : St) (x1 : Int32) (F1 : St) (h : f_X1_shareOut N S1 S2 x1 = some F1) : Cv l yX1_shareOut wsX1_shareOut RM_X1_shareOut g [.ref (q1 100), .int x1, .ref (q2 100)] (wX1 g q1 S1 ++ (wX6 g q2 S2)) (wX1 g q1 F1 ++ (wX6 g q2 S2)) := by
  intro sz
  refine Met.ofC (cc := cX1_shareOut) (maxL := 6) (ret := none) (by decide) rfl (Nat.le_of_ble_eq_true rfl) ?_
  intro p e s m below meth c hC hr hlk hsz A hA9 hA hP hD hS ls hl
  subst hsz
  have hC : Cx p s m ([.ref (q1 100), .int x1, .ref (q2 100)] : List Value).toArray c RX1 cX1_shareOut 6 wsX1_shareOut g := hC
  have hx := hC.1.1
  have hb := hC.1.2.1
  have hml := hC.1.2.2.1
  have hown := hC.1.2.2.2.1
  have hts := hC.1.2.2.2.2
  have hl : lv_has ls 6 [(0, .ref (q1 100)), (1, .int x1), (2, .ref (q2 100))] := hl
  show W p l e RM_X1_shareOut s m ([.ref (q1 100), .int x1, .ref (q2 100)] : List Value).toArray below meth c s.heap [] 0 0 (Qv below g [.ref (q1 100), .int x1, .ref (q2 100)] (wX1 g q1 S1 ++ (wX6 g q2 S2)) (wX1 g q1 F1 ++ (wX6 g q2 S2)) s) (F0 m 0 ls [])
  unfold f_X1_shareOut at h
  refine lv_iconst (v := (1 : Int32)) hx hb dX1_shareOut_0 (by decide) ?_
  refine lv_aload_n hx hb dX1_shareOut_1 rfl (lv_at hl 0 rfl) ?_
  refine k_get (ci := 1) (k := 0) (q0 := 0) (v := .int (S1.1 0)) (C := RX1) (T := TX1) (N := 14) hC uX1_shareOut_X1 hP rfl rfl (by decide) (List.mem_of_getElem? (i := 1) rfl) rfl dX1_shareOut_2 ?_
  refine lv_iconst (v := (4 : Int32)) hx hb dX1_shareOut_5 (by decide) ?_
  refine va_mmin hx hb (hml.trans hl.1.symm) hown (hts _ (List.mem_of_getElem? (i := 2) rfl)) (hts _ (List.mem_of_getElem? (i := 3) rfl)) (hts _ (List.mem_of_getElem? (i := 4) rfl)) (hts _ (List.mem_of_getElem? (i := 5) rfl)) (Nat.le_of_ble_eq_true rfl) (Nat.le_of_ble_eq_true rfl) (Nat.zero_le _) (Nat.zero_le _) dX1_shareOut_6 ?_
  refine k_topi h (fun x101 h => ?_)
  refine lv_ishl hx hb dX1_shareOut_9 ?_
  refine k_topi h (fun x102 h => ?_)
  refine lv_istore_n (lv' := [(3, .int x102), (0, .ref (q1 100)), (1, .int x1), (2, .ref (q2 100))]) hx hb dX1_shareOut_10 rfl hl (by decide) rfl (fun ls hl => ?_)
  refine lv_iconst (v := (0 : Int32)) hx hb dX1_shareOut_11 (by decide) ?_
  refine lv_istore (lv' := [(4, .int (0 : Int32)), (3, .int x102), (0, .ref (q1 100)), (1, .int x1), (2, .ref (q2 100))]) hx hb dX1_shareOut_12 hl (by decide) rfl (fun ls hl => ?_)
  obtain ⟨S103, ho104, h⟩ := fx_b1_s h
  refine lw_X1_shareOut_14 hC hA N q1 q2 x1 x102 S2 N (0 : Int32) S1  S103 ho104 _ _ _ hP hD hS (lv_sub hl [2, 3, 4, 1, 0] rfl) ?_
  · intro y0 he H locs ls hP hD hS hl
    obtain rfl := he
    refine lv_aload_n hx hb dX1_shareOut_34 rfl (lv_at hl 0 rfl) ?_
    refine lv_bipush (v := (-6 : Int32)) hx hb dX1_shareOut_35 (by decide) ?_
    refine k_put (ci := 1) (k := 11) (q0 := 0) (C := RX1) (T := TX1) (N := 14) (S2 := stI S103 11 (-6 : Int32)) tyX1 (fun S => (wX1 g q1 S ++ (wX6 g q2 S2))) hC uX1_shareOut_X1 tyX1_ok nmX1 hP hD hS rfl rfl (by decide) (List.mem_of_getElem? (i := 6) rfl) rfl (tyX1_ok 11 (by decide)) (Nat.le_of_ble_eq_true rfl) dX1_shareOut_37 rfl h (fun S105 h H locs hP hD hS => ?_)
    refine lv_iconst (v := (0 : Int32)) hx hb dX1_shareOut_40 (by decide) ?_
    refine lv_istore (lv' := [(4, .int (0 : Int32)), (0, .ref (q1 100)), (3, .int x102)]) hx hb dX1_shareOut_41 hl (by decide) rfl (fun ls hl => ?_)
    obtain ⟨S106, ho107, h⟩ := fx_b1_s h
    refine lw_X1_shareOut_43 hC hA N q1 q2 x102 S2 N (0 : Int32) S105  S106 ho107 _ _ _ hP hD hS (lv_sub hl [1, 2, 0] rfl) ?_
    · intro y0 he H locs ls hP hD hS hl
      obtain rfl := he
      obtain rfl := fx_i1 h
      exact Cv.ret hC hr hlk hA9 hP hD hS dX1_shareOut_135
