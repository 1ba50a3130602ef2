/-! laid by wip/whole/gen.py out of the printed names and instructions: what each method does (f_), and that its bytecode does it (c_) -/
theorem uX8_say_X8 : ∀ w ∈ u_ws RX8 TX8 46, w ∈ wsX8_say := fun w h => List.mem_cons_of_mem _ (List.mem_append_right _ h)
abbrev RM_X8_say : Room := { frames := 1, cells := 0, slots := 0, locals := 25 }
def f_X8_say (N : Nat) (S1 : St) (x1 : Int32) : Option (Int32 × St) :=
  fx_b1 (f_X8_in N (Int32.toInt64 x1) (33 : Int64) (126 : Int64)) (fun v101 =>
  (if v101 = 0 then (
  some ((-2 : Int32), S1)) else (
  (if (S1.1 19) = (60 : Int32) then (
    some ((-4 : Int32), S1)) else (
    fx_ast 60 S1 18 (S1.1 19) x1 (fun S102 =>
      fx_lt (stI S102 19 ((S102.1 19) + (1 : Int32))) (fun S103 =>
      some ((S103.1 19), S103))))))))
set_option maxRecDepth 100000 in
set_option maxHeartbeats 4000000 in
theorem c_X8_say (l : Launch) (g : GG) (N : Nat) (q1 : Nat → Nat) (S1 : St) (x1 : Int32) (r : Int32) (F1 : St) (h : f_X8_say N S1 x1 = some (r, F1)) : Ci l yX8_say wsX8_say RM_X8_say g [.ref (q1 100), .int x1] (wX8 g q1 S1) (wX8 g q1 F1) r := by
  intro sz
  refine Met.ofC (cc := cX8_say) (maxL := 2) (ret := (some .int)) (by decide) rfl (Nat.le_of_ble_eq_true rfl) ?_
  intro p e s m below meth c hC hr hlk hsz A hA9 hA hP hD hS ls hl
  subst hsz
  have hC : Cx p s m ([.ref (q1 100), .int x1] : List Value).toArray c RX8 cX8_say 2 wsX8_say g := hC
  have hx := hC.1.1
  have hb := hC.1.2.1
  have hml := hC.1.2.2.1
  have hown := hC.1.2.2.2.1
  have hts := hC.1.2.2.2.2
  have hl : lv_has ls 2 [(0, .ref (q1 100)), (1, .int x1)] := hl
  show W p l e RM_X8_say s m ([.ref (q1 100), .int x1] : List Value).toArray below meth c s.heap [] 0 0 (Qi below g [.ref (q1 100), .int x1] (wX8 g q1 S1) (wX8 g q1 F1) r s) (F0 m 0 ls [])
  unfold f_X8_say at h
  refine lv_iload_n hx hb dX8_say_0 rfl (lv_at hl 1 rfl) ?_
  refine lv_i2l hx hb dX8_say_1 rfl ?_
  refine lv_ldc2 (v := (33 : Int64)) hx hb hown (hts _ (List.mem_of_getElem? (i := 1) rfl)) dX8_say_2 ?_
  refine lv_ldc2 (v := (126 : Int64)) hx hb hown (hts _ (List.mem_of_getElem? (i := 2) rfl)) dX8_say_5 ?_
  obtain ⟨v101, hc104, h⟩ := fx_b1_s h
  refine k_callSi0 (n := 3) (As := [.long (Int32.toInt64 x1), .long (33 : Int64), .long (126 : Int64)]) (rest := []) (wc := ([] : va_W)) (bytes := cX8_in) (maxL := 6) (ret := (some .boolean)) hC hl.1 (c_X8_in l g N (Int32.toInt64 x1) (33 : Int64) (126 : Int64) v101 hc104) rfl gX8_say_X8_in (by decide +kernel) ⟨Nat.le_of_ble_eq_true rfl, Nat.le_of_ble_eq_true rfl⟩ rfl rfl rfl (Nat.le_of_ble_eq_true rfl) ⟨Nat.le_of_ble_eq_true rfl, Nat.le_of_ble_eq_true rfl⟩ dX8_say_8 hP hD hS hA [] rfl (by decide +kernel) (fun H locs hP hD hS => ?_)
  refine k_if_ne (tgt := 17) hC dX8_say_11 (by decide) h (fun h => ?_) (fun h => ?_)
  · refine lv_aload_n hx hb dX8_say_17 rfl (lv_at hl 0 rfl) ?_
    refine k_get (ci := 8) (k := 19) (q0 := 0) (v := .int (S1.1 19)) (C := RX8) (T := TX8) (N := 46) hC uX8_say_X8 hP rfl rfl (by decide) (List.mem_of_getElem? (i := 3) rfl) rfl dX8_say_18 ?_
    refine lv_bipush (v := (60 : Int32)) hx hb dX8_say_21 (by decide) ?_
    refine k_icmp_ne (tgt := 29) hC dX8_say_23 (by decide) h (fun h => ?_) (fun h => ?_)
    · refine lv_aload_n hx hb dX8_say_29 rfl (lv_at hl 0 rfl) ?_
      refine k_get (ci := 8) (k := 18) (q0 := 0) (v := .ref (q1 18)) (C := RX8) (T := TX8) (N := 46) hC uX8_say_X8 hP rfl rfl (by decide) (List.mem_of_getElem? (i := 4) rfl) rfl dX8_say_30 ?_
      refine lv_aload_n hx hb dX8_say_33 rfl (lv_at hl 0 rfl) ?_
      refine k_get (ci := 8) (k := 19) (q0 := 0) (v := .int (S1.1 19)) (C := RX8) (T := TX8) (N := 46) hC uX8_say_X8 hP rfl rfl (by decide) (List.mem_of_getElem? (i := 3) rfl) rfl dX8_say_34 ?_
      refine lv_iload_n hx hb dX8_say_37 rfl (lv_at hl 1 rfl) ?_
      refine k_ast (q0 := 11) (n := 60) (k := 18) (S := S1) (fun S => (wX8 g q1 S)) hC hP hD hS rfl (fun _ => rfl) dX8_say_38 h (fun S102 h H locs hP hD hS => ?_)
      refine lv_aload_n hx hb dX8_say_39 rfl (lv_at hl 0 rfl) ?_
      refine lv_dup hx hb dX8_say_40 rfl ?_
      refine k_get (ci := 8) (k := 19) (q0 := 0) (v := .int (S102.1 19)) (C := RX8) (T := TX8) (N := 46) hC uX8_say_X8 hP rfl rfl (by decide) (List.mem_of_getElem? (i := 3) rfl) rfl dX8_say_41 ?_
      refine lv_iconst (v := (1 : Int32)) hx hb dX8_say_44 (by decide) ?_
      refine lv_iadd hx hb dX8_say_45 ?_
      refine k_put (ci := 8) (k := 19) (q0 := 0) (C := RX8) (T := TX8) (N := 46) (S2 := stI S102 19 ((S102.1 19) + (1 : Int32))) tyX8 (fun S => (wX8 g q1 S)) hC uX8_say_X8 tyX8_ok nmX8 hP hD hS rfl rfl (by decide) (List.mem_of_getElem? (i := 3) rfl) rfl (tyX8_ok 19 (by decide)) (Nat.le_of_ble_eq_true rfl) dX8_say_46 rfl h (fun S103 h H locs hP hD hS => ?_)
      refine lv_aload_n hx hb dX8_say_49 rfl (lv_at hl 0 rfl) ?_
      refine k_get (ci := 8) (k := 19) (q0 := 0) (v := .int (S103.1 19)) (C := RX8) (T := TX8) (N := 46) hC uX8_say_X8 hP rfl rfl (by decide) (List.mem_of_getElem? (i := 3) rfl) rfl dX8_say_50 ?_
      obtain ⟨rfl, rfl⟩ := fx_i2 h
      exact Ci.ret hC hr hlk hA9 hP hD hS dX8_say_53
    · refine lv_bipush (v := (-4 : Int32)) hx hb dX8_say_26 (by decide) ?_
      obtain ⟨rfl, rfl⟩ := fx_i2 h
      exact Ci.ret hC hr hlk hA9 hP hD hS dX8_say_28
  · refine lv_bipush (v := (-2 : Int32)) hx hb dX8_say_14 (by decide) ?_
    obtain ⟨rfl, rfl⟩ := fx_i2 h
    exact Ci.ret hC hr hlk hA9 hP hD hS dX8_say_16
theorem uX8_wipe_X8 : ∀ w ∈ u_ws RX8 TX8 46, w ∈ wsX8_wipe := fun w h => List.mem_cons_of_mem _ (List.mem_append_right _ h)
abbrev RM_X8_wipe : Room := { frames := 0, cells := 0, slots := 0, locals := 0 }
def f_X8_wipe (N : Nat) (S1 : St) : Option (Int32 × St) :=
  fx_lt (stI S1 19 (0 : Int32)) (fun S101 =>
  some ((S1.1 19), S101))
set_option maxRecDepth 100000 in
set_option maxHeartbeats 4000000 in
theorem c_X8_wipe (l : Launch) (g : GG) (N : Nat) (q1 : Nat → Nat) (S1 : St) (r : Int32) (F1 : St) (h : f_X8_wipe N S1 = some (r, F1)) : Ci l yX8_wipe wsX8_wipe RM_X8_wipe g [.ref (q1 100)] (wX8 g q1 S1) (wX8 g q1 F1) r := by
  intro sz
  refine Met.ofC (cc := cX8_wipe) (maxL := 2) (ret := (some .int)) (by decide) rfl (Nat.le_of_ble_eq_true rfl) ?_
  intro p e s m below meth c hC hr hlk hsz A hA9 hA hP hD hS ls hl
  subst hsz
  have hC : Cx p s m ([.ref (q1 100)] : List Value).toArray c RX8 cX8_wipe 2 wsX8_wipe g := hC
  have hx := hC.1.1
  have hb := hC.1.2.1
  have hml := hC.1.2.2.1
  have hown := hC.1.2.2.2.1
  have hts := hC.1.2.2.2.2
  have hl : lv_has ls 2 [(0, .ref (q1 100))] := hl
  show W p l e RM_X8_wipe s m ([.ref (q1 100)] : List Value).toArray below meth c s.heap [] 0 0 (Qi below g [.ref (q1 100)] (wX8 g q1 S1) (wX8 g q1 F1) r s) (F0 m 0 ls [])
  unfold f_X8_wipe at h
  refine lv_aload_n hx hb dX8_wipe_0 rfl (lv_at hl 0 rfl) ?_
  refine k_get (ci := 8) (k := 19) (q0 := 0) (v := .int (S1.1 19)) (C := RX8) (T := TX8) (N := 46) hC uX8_wipe_X8 hP rfl rfl (by decide) (List.mem_of_getElem? (i := 1) rfl) rfl dX8_wipe_1 ?_
  refine lv_istore_n (lv' := [(1, .int (S1.1 19)), (0, .ref (q1 100))]) hx hb dX8_wipe_4 rfl hl (by decide) rfl (fun ls hl => ?_)
  refine lv_aload_n hx hb dX8_wipe_5 rfl (lv_at hl 1 rfl) ?_
  refine lv_iconst (v := (0 : Int32)) hx hb dX8_wipe_6 (by decide) ?_
  refine k_put (ci := 8) (k := 19) (q0 := 0) (C := RX8) (T := TX8) (N := 46) (S2 := stI S1 19 (0 : Int32)) tyX8 (fun S => (wX8 g q1 S)) hC uX8_wipe_X8 tyX8_ok nmX8 hP hD hS rfl rfl (by decide) (List.mem_of_getElem? (i := 1) rfl) rfl (tyX8_ok 19 (by decide)) (Nat.le_of_ble_eq_true rfl) dX8_wipe_7 rfl h (fun S101 h H locs hP hD hS => ?_)
  refine lv_iload_n hx hb dX8_wipe_10 rfl (lv_at hl 0 rfl) ?_
  obtain ⟨rfl, rfl⟩ := fx_i2 h
  exact Ci.ret hC hr hlk hA9 hP hD hS dX8_wipe_11
abbrev RM_X8_isTime : Room := { frames := 0, cells := 0, slots := 0, locals := 0 }
def f_X8_isTime (N : Nat) (x0 : Int32) : Option (Int32) :=
  (if x0 = (46 : Int32) then (
  some (1 : Int32)) else (
  (if x0 = (58 : Int32) then (
    some (1 : Int32)) else (
    some (0 : Int32)))))
set_option maxRecDepth 100000 in
set_option maxHeartbeats 4000000 in
theorem c_X8_isTime (l : Launch) (g : GG) (N : Nat) (x0 : Int32) (r : Int32) (h : f_X8_isTime N x0 = some r) : Ci l yX8_isTime wsX8_isTime RM_X8_isTime g [.int x0] ([] : va_W) ([] : va_W) r := by
  intro sz
  refine Met.ofC (cc := cX8_isTime) (maxL := 1) (ret := (some .boolean)) (by decide) rfl (Nat.le_of_ble_eq_true rfl) ?_
  intro p e s m below meth c hC hr hlk hsz A hA9 hA hP hD hS ls hl
  subst hsz
  have hC : Cx p s m ([.int x0] : List Value).toArray c RX8 cX8_isTime 1 wsX8_isTime g := hC
  have hx := hC.1.1
  have hb := hC.1.2.1
  have hml := hC.1.2.2.1
  have hown := hC.1.2.2.2.1
  have hts := hC.1.2.2.2.2
  have hl : lv_has ls 1 [(0, .int x0)] := hl
  show W p l e RM_X8_isTime s m ([.int x0] : List Value).toArray below meth c s.heap [] 0 0 (Qi below g [.int x0] ([] : va_W) ([] : va_W) r s) (F0 m 0 ls [])
  unfold f_X8_isTime at h
  refine lv_iload_n hx hb dX8_isTime_0 rfl (lv_at hl 0 rfl) ?_
  refine lv_bipush (v := (46 : Int32)) hx hb dX8_isTime_1 (by decide) ?_
  refine k_icmp_eq (tgt := 12) hC dX8_isTime_3 (by decide) h (fun h => ?_) (fun h => ?_)
  · refine lv_iconst (v := (1 : Int32)) hx hb dX8_isTime_12 (by decide) ?_
    refine lv_goto (tgt := 17) hx hb dX8_isTime_13 (by decide) ?_
    obtain rfl := fx_i1 h
    exact Ci.retz hC hr hlk rfl hA9 hP hD hS dX8_isTime_17
  · refine lv_iload_n hx hb dX8_isTime_6 rfl (lv_at hl 0 rfl) ?_
    refine lv_bipush (v := (58 : Int32)) hx hb dX8_isTime_7 (by decide) ?_
    refine k_icmp_ne (tgt := 16) hC dX8_isTime_9 (by decide) h (fun h => ?_) (fun h => ?_)
    · refine lv_iconst (v := (0 : Int32)) hx hb dX8_isTime_16 (by decide) ?_
      obtain rfl := fx_i1 h
      exact Ci.retz hC hr hlk rfl hA9 hP hD hS dX8_isTime_17
    · refine lv_iconst (v := (1 : Int32)) hx hb dX8_isTime_12 (by decide) ?_
      refine lv_goto (tgt := 17) hx hb dX8_isTime_13 (by decide) ?_
      obtain rfl := fx_i1 h
      exact Ci.retz hC hr hlk rfl hA9 hP hD hS dX8_isTime_17
theorem uX8_fault_X8 : ∀ w ∈ u_ws RX8 TX8 46, w ∈ wsX8_fault := fun w h => List.mem_cons_of_mem _ (List.mem_append_right _ h)
abbrev RM_X8_fault : Room := { frames := 2, cells := 0, slots := 0, locals := 46 }
def bd_X8_fault_9 (N : Nat) (x1 : Int32) (x2 : Int32) (S1 : St) (rec : (Int32 × Int32 × St) → Option (Nat × Int32 × Int32 × St)) : Option (Nat × Int32 × Int32 × St) :=
  (if (S1.1 19) ≤ x2 then (
    some (1, x1, (0 : Int32), S1)) else (
    fx_ald 60 (S1.2 18) x2 (fun v101 =>
      fx_b1 ((if x1 = 0 then (
      fx_b1 (f_X8_isTime N v101) (fun v126 =>
        (if v126 = 0 then (
        fx_b1 (f_X8_in N (Int32.toInt64 v101) (48 : Int64) (51 : Int64)) (fun v127 =>
          (if v127 = 0 then (
          some (0 : Int32)) else (
          fx_b1 (f_X8_isRow N S1 (v101 - (48 : Int32))) (fun v128 =>
            (if v128 = 0 then (
            some (0 : Int32)) else (
            some (1 : Int32)))))))) else (
        some (1 : Int32))))) else (
      (if v101 = (45 : Int32) then (
        some (1 : Int32)) else (
        fx_b1 (f_X8_isNumber N (v101 - (97 : Int32))) (fun v132 =>
          (if v132 = 0 then (
          some (0 : Int32)) else (
          some (1 : Int32)))))))) : Option (Int32)) (fun v102 =>
      (if v102 = 0 then (
        some (0, (0 : Int32), x2, S1)) else (
        fx_b1 ((if x1 = 0 then (
          fx_b1 (f_X8_isTime N v101) (fun v112 =>
            (if v112 = 0 then (
            fx_ast 60 S1 21 (S1.1 22) (v101 - (48 : Int32)) (fun S113 =>
              some S113)) else (
            fx_b1 ((if v101 = (46 : Int32) then (
              some (7 : Int32)) else (
              some (8 : Int32))) : Option (Int32)) (fun v114 =>
              fx_ast 60 S1 20 (S1.1 22) v114 (fun S116 =>
                fx_lt (stI S116 22 ((S116.1 22) + (1 : Int32))) (fun S117 =>
                some S117))))))) else (
          fx_b1 ((if v101 = (45 : Int32) then (
            some (6 : Int32)) else (
            some (v101 - (97 : Int32)))) : Option (Int32)) (fun v120 =>
            fx_ast 60 S1 20 (S1.1 22) v120 (fun S122 =>
              fx_lt (stI S122 22 ((S122.1 22) + (1 : Int32))) (fun S123 =>
              some S123))))) : Option (St)) (fun S104 =>
          (if x1 = 0 then (
            fx_b1 (f_X8_isTime N v101) (fun v107 =>
              (if v107 = 0 then (
              fx_lt (x2 + (1 : Int32)) (fun x109 =>
                rec ((1 : Int32), x109, S104))) else (
              fx_lt (x2 + (1 : Int32)) (fun x108 =>
                rec ((0 : Int32), x108, S104)))))) else (
            fx_lt (x2 + (1 : Int32)) (fun x106 =>
              rec ((0 : Int32), x106, S104)))))))))))
def lf_X8_fault_9 (N : Nat) : (Int32 × Int32 × St) → ((Int32 × Int32 × St) → Option (Nat × Int32 × Int32 × St)) → Option (Nat × Int32 × Int32 × St) := fun x rec => bd_X8_fault_9 N x.1 x.2.1 x.2.2 rec
set_option maxRecDepth 100000 in
set_option maxHeartbeats 4000000 in
theorem lw_X8_fault_9 {p : Program} {l : Launch} {e : Env} {s : State} {m : MethodId} {args : Array Value} {below : List Frame} {meth : Method} {c : Code} {Q : State → Prop} {A : Nat → Prop} {H0 : Heap} {g : GG} (hC : Cx p s m args c RX8 cX8_fault 5 wsX8_fault g) (hA : ∀ q : Nat, H0.size ≤ q → A q) (N : Nat) (q1 : Nat → Nat) : ∀ (n : Nat) (x1 : Int32) (x2 : Int32) (S1 : St) (o : Nat × Int32 × Int32 × St), fx_it (lf_X8_fault_9 N) n (x1, x2, S1) = some o → ∀ (H : Heap) (locs : List Loc) (ls : Array Slot), va_P g.1 vwCl (wX8 g q1 S1) H → va_D A (wX8 g q1 S1) → va_S A H0 H locs → lv_has ls 5 [(0, .ref (q1 100)), (1, .int x1), (2, .int x2)] → (∀ (z0 : Int32) (z1 : Int32) (Z0 : St), o = (0, z0, z1, Z0) → ∀ (H : Heap) (locs : List Loc) (ls : Array Slot), va_P g.1 vwCl (wX8 g q1 Z0) H → va_D A (wX8 g q1 Z0) → va_S A H0 H locs → lv_has ls 5 [(2, .int z1)] → W p l e RM_X8_fault s m args below meth c H locs 0 0 Q (F0 m 96 ls [])) → (∀ (z0 : Int32) (z1 : Int32) (Z0 : St), o = (1, z0, z1, Z0) → ∀ (H : Heap) (locs : List Loc) (ls : Array Slot), va_P g.1 vwCl (wX8 g q1 Z0) H → va_D A (wX8 g q1 Z0) → va_S A H0 H locs → lv_has ls 5 [(0, .ref (q1 100)), (1, .int z0)] → W p l e RM_X8_fault s m args below meth c H locs 0 0 Q (F0 m 217 ls [])) → W p l e RM_X8_fault s m args below meth c H locs 0 0 Q (F0 m 9 ls []) := by
  have hx := hC.1.1
  have hb := hC.1.2.1
  have hml := hC.1.2.2.1
  have hown := hC.1.2.2.2.1
  have hts := hC.1.2.2.2.2
  intro n
  induction n with
  | zero => intro x1 x2 S1 o h; cases h
  | succ n ih =>
    intro x1 x2 S1 o h H locs ls hP hD hS hl k0 k1
    have h : bd_X8_fault_9 N x1 x2 S1 (fx_it (lf_X8_fault_9 N) n) = some o := h
    unfold bd_X8_fault_9 at h
    refine lv_iload_n hx hb dX8_fault_9 rfl (lv_at hl 2 rfl) ?_
    refine lv_aload_n hx hb dX8_fault_10 rfl (lv_at hl 0 rfl) ?_
    refine k_get (ci := 8) (k := 19) (q0 := 0) (v := .int (S1.1 19)) (C := RX8) (T := TX8) (N := 46) hC uX8_fault_X8 hP rfl rfl (by decide) (List.mem_of_getElem? (i := 2) rfl) rfl dX8_fault_11 ?_
    refine k_icmp_ge (tgt := 217) hC dX8_fault_14 (by decide) h (fun h => ?_) (fun h => ?_)
    · exact k1 x1 (0 : Int32) S1 (Option.some.inj h).symm _ _ _ hP hD hS (lv_sub hl [0, 1] rfl)
    · refine lv_aload_n hx hb dX8_fault_17 rfl (lv_at hl 0 rfl) ?_
      refine k_get (ci := 8) (k := 18) (q0 := 0) (v := .ref (q1 18)) (C := RX8) (T := TX8) (N := 46) hC uX8_fault_X8 hP rfl rfl (by decide) (List.mem_of_getElem? (i := 3) rfl) rfl dX8_fault_18 ?_
      refine lv_iload_n hx hb dX8_fault_21 rfl (lv_at hl 2 rfl) ?_
      refine k_ald (q0 := 11) (n := 60) (F := S1.2 18) hC hP rfl dX8_fault_22 h (fun v101 h => ?_)
      refine lv_istore_n (lv' := [(3, .int v101), (0, .ref (q1 100)), (1, .int x1), (2, .int x2)]) hx hb dX8_fault_23 rfl hl (by decide) rfl (fun ls hl => ?_)
      refine lv_iload_n hx hb dX8_fault_24 rfl (lv_at hl 2 rfl) ?_
      obtain ⟨v102, hv103, h⟩ := fx_b1_s h
      have K125 : ∀ (H : Heap) (locs : List Loc) (ls : Array Slot), va_P g.1 vwCl (wX8 g q1 S1) H → va_D A (wX8 g q1 S1) → va_S A H0 H locs → lv_has ls 5 [(3, .int v101), (0, .ref (q1 100)), (1, .int x1), (2, .int x2)] → W p l e RM_X8_fault s m args below meth c H locs 0 0 Q (F0 m 89 ls [.int v102]) := by
        intro H locs ls hP hD hS hl
        refine lv_istore (lv' := [(4, .int v102), (3, .int v101), (0, .ref (q1 100)), (1, .int x1), (2, .int x2)]) hx hb dX8_fault_89 hl (by decide) rfl (fun ls hl => ?_)
        refine lv_iload hx hb dX8_fault_91 (lv_at hl 0 rfl) ?_
        refine k_if_ne (tgt := 98) hC dX8_fault_93 (by decide) h (fun h => ?_) (fun h => ?_)
        · refine lv_iload_n hx hb dX8_fault_98 rfl (lv_at hl 3 rfl) ?_
          obtain ⟨S104, hv105, h⟩ := fx_b1_s h
          have K111 : ∀ (H : Heap) (locs : List Loc) (ls : Array Slot), va_P g.1 vwCl (wX8 g q1 S104) H → va_D A (wX8 g q1 S104) → va_S A H0 H locs → lv_has ls 5 [(3, .int v101), (0, .ref (q1 100)), (1, .int x1), (2, .int x2)] → W p l e RM_X8_fault s m args below meth c H locs 0 0 Q (F0 m 194 ls []) := by
            intro H locs ls hP hD hS hl
            refine lv_iload_n hx hb dX8_fault_194 rfl (lv_at hl 2 rfl) ?_
            refine k_if_ne (tgt := 209) hC dX8_fault_195 (by decide) h (fun h => ?_) (fun h => ?_)
            · refine lv_iconst (v := (0 : Int32)) hx hb dX8_fault_209 (by decide) ?_
              refine lv_istore_n (lv' := [(1, .int (0 : Int32)), (3, .int v101), (0, .ref (q1 100)), (2, .int x2)]) hx hb dX8_fault_210 rfl hl (by decide) rfl (fun ls hl => ?_)
              refine k_iinc (v := (1 : Int32)) (lv' := fun X => [(2, .int X), (1, .int (0 : Int32)), (3, .int v101), (0, .ref (q1 100))]) hC dX8_fault_211 hl (k := 3) rfl (by decide) (by decide) (fun _ => rfl) h (fun x106 h ls hl => ?_)
              refine lv_goto (tgt := 9) hx hb dX8_fault_214 (by decide) ?_
              exact ih (0 : Int32) x106 S104 o h _ _ _ hP hD hS (lv_sub hl [3, 1, 0] rfl) k0 k1
            · refine lv_iload_n hx hb dX8_fault_198 rfl (lv_at hl 0 rfl) ?_
              obtain ⟨v107, hc110, h⟩ := fx_b1_s h
              refine k_callSi0 (n := 1) (As := [.int v101]) (rest := []) (wc := ([] : va_W)) (bytes := cX8_isTime) (maxL := 1) (ret := (some .boolean)) hC hl.1 (c_X8_isTime l g N v101 v107 hc110) rfl gX8_fault_X8_isTime (by decide +kernel) ⟨Nat.le_of_ble_eq_true rfl, Nat.le_of_ble_eq_true rfl⟩ rfl rfl rfl (Nat.le_of_ble_eq_true rfl) ⟨Nat.le_of_ble_eq_true rfl, Nat.le_of_ble_eq_true rfl⟩ dX8_fault_199 hP hD hS hA [] rfl (by decide +kernel) (fun H locs hP hD hS => ?_)
              refine k_if_ne (tgt := 209) hC dX8_fault_202 (by decide) h (fun h => ?_) (fun h => ?_)
              · refine lv_iconst (v := (0 : Int32)) hx hb dX8_fault_209 (by decide) ?_
                refine lv_istore_n (lv' := [(1, .int (0 : Int32)), (3, .int v101), (0, .ref (q1 100)), (2, .int x2)]) hx hb dX8_fault_210 rfl hl (by decide) rfl (fun ls hl => ?_)
                refine k_iinc (v := (1 : Int32)) (lv' := fun X => [(2, .int X), (1, .int (0 : Int32)), (3, .int v101), (0, .ref (q1 100))]) hC dX8_fault_211 hl (k := 3) rfl (by decide) (by decide) (fun _ => rfl) h (fun x108 h ls hl => ?_)
                refine lv_goto (tgt := 9) hx hb dX8_fault_214 (by decide) ?_
                exact ih (0 : Int32) x108 S104 o h _ _ _ hP hD hS (lv_sub hl [3, 1, 0] rfl) k0 k1
              · refine lv_iconst (v := (1 : Int32)) hx hb dX8_fault_205 (by decide) ?_
                refine lv_goto (tgt := 210) hx hb dX8_fault_206 (by decide) ?_
                refine lv_istore_n (lv' := [(1, .int (1 : Int32)), (3, .int v101), (0, .ref (q1 100)), (2, .int x2)]) hx hb dX8_fault_210 rfl hl (by decide) rfl (fun ls hl => ?_)
                refine k_iinc (v := (1 : Int32)) (lv' := fun X => [(2, .int X), (1, .int (1 : Int32)), (3, .int v101), (0, .ref (q1 100))]) hC dX8_fault_211 hl (k := 3) rfl (by decide) (by decide) (fun _ => rfl) h (fun x109 h ls hl => ?_)
                refine lv_goto (tgt := 9) hx hb dX8_fault_214 (by decide) ?_
                exact ih (1 : Int32) x109 S104 o h _ _ _ hP hD hS (lv_sub hl [3, 1, 0] rfl) k0 k1
          refine k_if_eq (tgt := 139) hC dX8_fault_99 (by decide) hv105 (fun hv105 => ?_) (fun hv105 => ?_)
          · refine lv_iload_n hx hb dX8_fault_139 rfl (lv_at hl 1 rfl) ?_
            obtain ⟨v112, hc119, hv105⟩ := fx_b1_s hv105
            refine k_callSi0 (n := 1) (As := [.int v101]) (rest := []) (wc := ([] : va_W)) (bytes := cX8_isTime) (maxL := 1) (ret := (some .boolean)) hC hl.1 (c_X8_isTime l g N v101 v112 hc119) rfl gX8_fault_X8_isTime (by decide +kernel) ⟨Nat.le_of_ble_eq_true rfl, Nat.le_of_ble_eq_true rfl⟩ rfl rfl rfl (Nat.le_of_ble_eq_true rfl) ⟨Nat.le_of_ble_eq_true rfl, Nat.le_of_ble_eq_true rfl⟩ dX8_fault_140 hP hD hS hA [] rfl (by decide +kernel) (fun H locs hP hD hS => ?_)
            refine k_if_eq (tgt := 181) hC dX8_fault_143 (by decide) hv105 (fun hv105 => ?_) (fun hv105 => ?_)
            · refine lv_aload_n hx hb dX8_fault_181 rfl (lv_at hl 2 rfl) ?_
              refine k_get (ci := 8) (k := 21) (q0 := 0) (v := .ref (q1 21)) (C := RX8) (T := TX8) (N := 46) hC uX8_fault_X8 hP rfl rfl (by decide) (List.mem_of_getElem? (i := 7) rfl) rfl dX8_fault_182 ?_
              refine lv_aload_n hx hb dX8_fault_185 rfl (lv_at hl 2 rfl) ?_
              refine k_get (ci := 8) (k := 22) (q0 := 0) (v := .int (S1.1 22)) (C := RX8) (T := TX8) (N := 46) hC uX8_fault_X8 hP rfl rfl (by decide) (List.mem_of_getElem? (i := 1) rfl) rfl dX8_fault_186 ?_
              refine lv_iload_n hx hb dX8_fault_189 rfl (lv_at hl 1 rfl) ?_
              refine lv_bipush (v := (48 : Int32)) hx hb dX8_fault_190 (by decide) ?_
              refine lv_isub hx hb dX8_fault_192 ?_
              refine k_ast (q0 := 13) (n := 60) (k := 21) (S := S1) (fun S => (wX8 g q1 S)) hC hP hD hS rfl (fun _ => rfl) dX8_fault_193 hv105 (fun S113 hv105 H locs hP hD hS => ?_)
              obtain rfl := fx_i1 hv105
              exact K111 _ _ _ hP hD hS (lv_sub hl [1, 2, 3, 4] rfl)
            · refine lv_aload_n hx hb dX8_fault_146 rfl (lv_at hl 2 rfl) ?_
              refine k_get (ci := 8) (k := 20) (q0 := 0) (v := .ref (q1 20)) (C := RX8) (T := TX8) (N := 46) hC uX8_fault_X8 hP rfl rfl (by decide) (List.mem_of_getElem? (i := 6) rfl) rfl dX8_fault_147 ?_
              refine lv_aload_n hx hb dX8_fault_150 rfl (lv_at hl 2 rfl) ?_
              refine k_get (ci := 8) (k := 22) (q0 := 0) (v := .int (S1.1 22)) (C := RX8) (T := TX8) (N := 46) hC uX8_fault_X8 hP rfl rfl (by decide) (List.mem_of_getElem? (i := 1) rfl) rfl dX8_fault_151 ?_
              refine lv_iload_n hx hb dX8_fault_154 rfl (lv_at hl 1 rfl) ?_
              refine lv_bipush (v := (46 : Int32)) hx hb dX8_fault_155 (by decide) ?_
              obtain ⟨v114, hv115, hv105⟩ := fx_b1_s hv105
              have K118 : ∀ (H : Heap) (locs : List Loc) (ls : Array Slot), va_P g.1 vwCl (wX8 g q1 S1) H → va_D A (wX8 g q1 S1) → va_S A H0 H locs → lv_has ls 5 [(3, .int v101), (0, .ref (q1 100)), (1, .int x1), (2, .int x2)] → W p l e RM_X8_fault s m args below meth c H locs 0 0 Q (F0 m 167 ls [.int v114, .int (S1.1 22), .ref (q1 20)]) := by
                intro H locs ls hP hD hS hl
                refine k_ast (q0 := 12) (n := 60) (k := 20) (S := S1) (fun S => (wX8 g q1 S)) hC hP hD hS rfl (fun _ => rfl) dX8_fault_167 hv105 (fun S116 hv105 H locs hP hD hS => ?_)
                refine lv_aload_n hx hb dX8_fault_168 rfl (lv_at hl 1 rfl) ?_
                refine lv_dup hx hb dX8_fault_169 rfl ?_
                refine k_get (ci := 8) (k := 22) (q0 := 0) (v := .int (S116.1 22)) (C := RX8) (T := TX8) (N := 46) hC uX8_fault_X8 hP rfl rfl (by decide) (List.mem_of_getElem? (i := 1) rfl) rfl dX8_fault_170 ?_
                refine lv_iconst (v := (1 : Int32)) hx hb dX8_fault_173 (by decide) ?_
                refine lv_iadd hx hb dX8_fault_174 ?_
                refine k_put (ci := 8) (k := 22) (q0 := 0) (C := RX8) (T := TX8) (N := 46) (S2 := stI S116 22 ((S116.1 22) + (1 : Int32))) tyX8 (fun S => (wX8 g q1 S)) hC uX8_fault_X8 tyX8_ok nmX8 hP hD hS rfl rfl (by decide) (List.mem_of_getElem? (i := 1) rfl) rfl (tyX8_ok 22 (by decide)) (Nat.le_of_ble_eq_true rfl) dX8_fault_175 rfl hv105 (fun S117 hv105 H locs hP hD hS => ?_)
                refine lv_goto (tgt := 194) hx hb dX8_fault_178 (by decide) ?_
                obtain rfl := fx_i1 hv105
                exact K111 _ _ _ hP hD hS (lv_sub hl [0, 1, 2, 3] rfl)
              refine k_icmp_ne (tgt := 165) hC dX8_fault_157 (by decide) hv115 (fun hv115 => ?_) (fun hv115 => ?_)
              · refine lv_bipush (v := (8 : Int32)) hx hb dX8_fault_165 (by decide) ?_
                obtain rfl := fx_i1 hv115
                exact K118 _ _ _ hP hD hS (lv_sub hl [1, 2, 3, 4] rfl)
              · refine lv_bipush (v := (7 : Int32)) hx hb dX8_fault_160 (by decide) ?_
                refine lv_goto (tgt := 167) hx hb dX8_fault_162 (by decide) ?_
                obtain rfl := fx_i1 hv115
                exact K118 _ _ _ hP hD hS (lv_sub hl [1, 2, 3, 4] rfl)
          · refine lv_aload_n hx hb dX8_fault_102 rfl (lv_at hl 2 rfl) ?_
            refine k_get (ci := 8) (k := 20) (q0 := 0) (v := .ref (q1 20)) (C := RX8) (T := TX8) (N := 46) hC uX8_fault_X8 hP rfl rfl (by decide) (List.mem_of_getElem? (i := 6) rfl) rfl dX8_fault_103 ?_
            refine lv_aload_n hx hb dX8_fault_106 rfl (lv_at hl 2 rfl) ?_
            refine k_get (ci := 8) (k := 22) (q0 := 0) (v := .int (S1.1 22)) (C := RX8) (T := TX8) (N := 46) hC uX8_fault_X8 hP rfl rfl (by decide) (List.mem_of_getElem? (i := 1) rfl) rfl dX8_fault_107 ?_
            refine lv_iload_n hx hb dX8_fault_110 rfl (lv_at hl 1 rfl) ?_
            refine lv_bipush (v := (45 : Int32)) hx hb dX8_fault_111 (by decide) ?_
            obtain ⟨v120, hv121, hv105⟩ := fx_b1_s hv105
            have K124 : ∀ (H : Heap) (locs : List Loc) (ls : Array Slot), va_P g.1 vwCl (wX8 g q1 S1) H → va_D A (wX8 g q1 S1) → va_S A H0 H locs → lv_has ls 5 [(3, .int v101), (0, .ref (q1 100)), (1, .int x1), (2, .int x2)] → W p l e RM_X8_fault s m args below meth c H locs 0 0 Q (F0 m 125 ls [.int v120, .int (S1.1 22), .ref (q1 20)]) := by
              intro H locs ls hP hD hS hl
              refine k_ast (q0 := 12) (n := 60) (k := 20) (S := S1) (fun S => (wX8 g q1 S)) hC hP hD hS rfl (fun _ => rfl) dX8_fault_125 hv105 (fun S122 hv105 H locs hP hD hS => ?_)
              refine lv_aload_n hx hb dX8_fault_126 rfl (lv_at hl 1 rfl) ?_
              refine lv_dup hx hb dX8_fault_127 rfl ?_
              refine k_get (ci := 8) (k := 22) (q0 := 0) (v := .int (S122.1 22)) (C := RX8) (T := TX8) (N := 46) hC uX8_fault_X8 hP rfl rfl (by decide) (List.mem_of_getElem? (i := 1) rfl) rfl dX8_fault_128 ?_
              refine lv_iconst (v := (1 : Int32)) hx hb dX8_fault_131 (by decide) ?_
              refine lv_iadd hx hb dX8_fault_132 ?_
              refine k_put (ci := 8) (k := 22) (q0 := 0) (C := RX8) (T := TX8) (N := 46) (S2 := stI S122 22 ((S122.1 22) + (1 : Int32))) tyX8 (fun S => (wX8 g q1 S)) hC uX8_fault_X8 tyX8_ok nmX8 hP hD hS rfl rfl (by decide) (List.mem_of_getElem? (i := 1) rfl) rfl (tyX8_ok 22 (by decide)) (Nat.le_of_ble_eq_true rfl) dX8_fault_133 rfl hv105 (fun S123 hv105 H locs hP hD hS => ?_)
              refine lv_goto (tgt := 194) hx hb dX8_fault_136 (by decide) ?_
              obtain rfl := fx_i1 hv105
              exact K111 _ _ _ hP hD hS (lv_sub hl [0, 1, 2, 3] rfl)
            refine k_icmp_ne (tgt := 121) hC dX8_fault_113 (by decide) hv121 (fun hv121 => ?_) (fun hv121 => ?_)
            · refine lv_iload_n hx hb dX8_fault_121 rfl (lv_at hl 1 rfl) ?_
              refine lv_bipush (v := (97 : Int32)) hx hb dX8_fault_122 (by decide) ?_
              refine lv_isub hx hb dX8_fault_124 ?_
              obtain rfl := fx_i1 hv121
              exact K124 _ _ _ hP hD hS (lv_sub hl [1, 2, 3, 4] rfl)
            · refine lv_bipush (v := (6 : Int32)) hx hb dX8_fault_116 (by decide) ?_
              refine lv_goto (tgt := 125) hx hb dX8_fault_118 (by decide) ?_
              obtain rfl := fx_i1 hv121
              exact K124 _ _ _ hP hD hS (lv_sub hl [1, 2, 3, 4] rfl)
        · exact k0 (0 : Int32) x2 S1 (Option.some.inj h).symm _ _ _ hP hD hS (lv_sub hl [4] rfl)
      refine k_if_eq (tgt := 52) hC dX8_fault_25 (by decide) hv103 (fun hv103 => ?_) (fun hv103 => ?_)
      · refine lv_iload_n hx hb dX8_fault_52 rfl (lv_at hl 0 rfl) ?_
        obtain ⟨v126, hc131, hv103⟩ := fx_b1_s hv103
        refine k_callSi0 (n := 1) (As := [.int v101]) (rest := []) (wc := ([] : va_W)) (bytes := cX8_isTime) (maxL := 1) (ret := (some .boolean)) hC hl.1 (c_X8_isTime l g N v101 v126 hc131) rfl gX8_fault_X8_isTime (by decide +kernel) ⟨Nat.le_of_ble_eq_true rfl, Nat.le_of_ble_eq_true rfl⟩ rfl rfl rfl (Nat.le_of_ble_eq_true rfl) ⟨Nat.le_of_ble_eq_true rfl, Nat.le_of_ble_eq_true rfl⟩ dX8_fault_53 hP hD hS hA [] rfl (by decide +kernel) (fun H locs hP hD hS => ?_)
        refine k_if_ne (tgt := 84) hC dX8_fault_56 (by decide) hv103 (fun hv103 => ?_) (fun hv103 => ?_)
        · refine lv_iconst (v := (1 : Int32)) hx hb dX8_fault_84 (by decide) ?_
          refine lv_goto (tgt := 89) hx hb dX8_fault_85 (by decide) ?_
          obtain rfl := fx_i1 hv103
          exact K125 _ _ _ hP hD hS (lv_sub hl [0, 1, 2, 3] rfl)
        · refine lv_iload_n hx hb dX8_fault_59 rfl (lv_at hl 0 rfl) ?_
          refine lv_i2l hx hb dX8_fault_60 rfl ?_
          refine lv_ldc2 (v := (48 : Int64)) hx hb hown (hts _ (List.mem_of_getElem? (i := 4) rfl)) dX8_fault_61 ?_
          refine lv_ldc2 (v := (51 : Int64)) hx hb hown (hts _ (List.mem_of_getElem? (i := 5) rfl)) dX8_fault_64 ?_
          obtain ⟨v127, hc130, hv103⟩ := fx_b1_s hv103
          refine k_callSi0 (n := 3) (As := [.long (Int32.toInt64 v101), .long (48 : Int64), .long (51 : Int64)]) (rest := []) (wc := ([] : va_W)) (bytes := cX8_in) (maxL := 6) (ret := (some .boolean)) hC hl.1 (c_X8_in l g N (Int32.toInt64 v101) (48 : Int64) (51 : Int64) v127 hc130) rfl gX8_fault_X8_in (by decide +kernel) ⟨Nat.le_of_ble_eq_true rfl, Nat.le_of_ble_eq_true rfl⟩ rfl rfl rfl (Nat.le_of_ble_eq_true rfl) ⟨Nat.le_of_ble_eq_true rfl, Nat.le_of_ble_eq_true rfl⟩ dX8_fault_67 hP hD hS hA [] rfl (by decide +kernel) (fun H locs hP hD hS => ?_)
          refine k_if_eq (tgt := 88) hC dX8_fault_70 (by decide) hv103 (fun hv103 => ?_) (fun hv103 => ?_)
          · refine lv_iconst (v := (0 : Int32)) hx hb dX8_fault_88 (by decide) ?_
            obtain rfl := fx_i1 hv103
            exact K125 _ _ _ hP hD hS (lv_sub hl [0, 1, 2, 3] rfl)
          · refine lv_aload_n hx hb dX8_fault_73 rfl (lv_at hl 1 rfl) ?_
            refine lv_iload_n hx hb dX8_fault_74 rfl (lv_at hl 0 rfl) ?_
            refine lv_bipush (v := (48 : Int32)) hx hb dX8_fault_75 (by decide) ?_
            refine lv_isub hx hb dX8_fault_77 ?_
            obtain ⟨v128, hc129, hv103⟩ := fx_b1_s hv103
            refine k_callVi0 (C := RX8) (ci := 8) (qr := 0) (n := 1) (As := [.int (v101 - (48 : Int32))]) (rest := []) (wc := (wX8 g q1 S1)) (bytes := cX8_isRow) (maxL := 2) (ret := (some .boolean)) hC hl.1 (c_X8_isRow l g N q1 S1 (v101 - (48 : Int32)) v128 hc129) rfl gX8_fault_X8_isRow (by decide +kernel) rfl rfl ⟨Nat.le_of_ble_eq_true rfl, Nat.le_of_ble_eq_true rfl⟩ rfl rfl rfl (Nat.le_of_ble_eq_true rfl) ⟨Nat.le_of_ble_eq_true rfl, Nat.le_of_ble_eq_true rfl⟩ dX8_fault_78 hP hD hS hA [0, 1, 2, 3, 4, 5, 6, 7, 8, 9, 10, 11, 12, 13, 14, 15, 16, 17, 18, 19, 20, 21, 22, 23] rfl (by decide +kernel) (fun H locs hP hD hS => ?_)
            refine k_if_eq (tgt := 88) hC dX8_fault_81 (by decide) hv103 (fun hv103 => ?_) (fun hv103 => ?_)
            · refine lv_iconst (v := (0 : Int32)) hx hb dX8_fault_88 (by decide) ?_
              obtain rfl := fx_i1 hv103
              exact K125 _ _ _ hP hD hS (lv_sub hl [0, 1, 2, 3] rfl)
            · refine lv_iconst (v := (1 : Int32)) hx hb dX8_fault_84 (by decide) ?_
              refine lv_goto (tgt := 89) hx hb dX8_fault_85 (by decide) ?_
              obtain rfl := fx_i1 hv103
              exact K125 _ _ _ hP hD hS (lv_sub hl [0, 1, 2, 3] rfl)
      · refine lv_iload_n hx hb dX8_fault_28 rfl (lv_at hl 0 rfl) ?_
        refine lv_bipush (v := (45 : Int32)) hx hb dX8_fault_29 (by decide) ?_
        refine k_icmp_eq (tgt := 44) hC dX8_fault_31 (by decide) hv103 (fun hv103 => ?_) (fun hv103 => ?_)
        · refine lv_iconst (v := (1 : Int32)) hx hb dX8_fault_44 (by decide) ?_
          refine lv_goto (tgt := 89) hx hb dX8_fault_45 (by decide) ?_
          obtain rfl := fx_i1 hv103
          exact K125 _ _ _ hP hD hS (lv_sub hl [0, 1, 2, 3] rfl)
        · refine lv_iload_n hx hb dX8_fault_34 rfl (lv_at hl 0 rfl) ?_
          refine lv_bipush (v := (97 : Int32)) hx hb dX8_fault_35 (by decide) ?_
          refine lv_isub hx hb dX8_fault_37 ?_
          obtain ⟨v132, hc133, hv103⟩ := fx_b1_s hv103
          refine k_callSi0 (n := 1) (As := [.int (v101 - (97 : Int32))]) (rest := []) (wc := ([] : va_W)) (bytes := cX8_isNumber) (maxL := 1) (ret := (some .boolean)) hC hl.1 (c_X8_isNumber l g N (v101 - (97 : Int32)) v132 hc133) rfl gX8_fault_X8_isNumber (by decide +kernel) ⟨Nat.le_of_ble_eq_true rfl, Nat.le_of_ble_eq_true rfl⟩ rfl rfl rfl (Nat.le_of_ble_eq_true rfl) ⟨Nat.le_of_ble_eq_true rfl, Nat.le_of_ble_eq_true rfl⟩ dX8_fault_38 hP hD hS hA [] rfl (by decide +kernel) (fun H locs hP hD hS => ?_)
          refine k_if_eq (tgt := 48) hC dX8_fault_41 (by decide) hv103 (fun hv103 => ?_) (fun hv103 => ?_)
          · refine lv_iconst (v := (0 : Int32)) hx hb dX8_fault_48 (by decide) ?_
            refine lv_goto (tgt := 89) hx hb dX8_fault_49 (by decide) ?_
            obtain rfl := fx_i1 hv103
            exact K125 _ _ _ hP hD hS (lv_sub hl [0, 1, 2, 3] rfl)
          · refine lv_iconst (v := (1 : Int32)) hx hb dX8_fault_44 (by decide) ?_
            refine lv_goto (tgt := 89) hx hb dX8_fault_45 (by decide) ?_
            obtain rfl := fx_i1 hv103
            exact K125 _ _ _ hP hD hS (lv_sub hl [0, 1, 2, 3] rfl)
def f_X8_fault (N : Nat) (S1 : St) : Option (Int32 × St) :=
  fx_lt (stI S1 22 (0 : Int32)) (fun S101 =>
  fx_b4 (fx_it (lf_X8_fault_9 N) N ((0 : Int32), (0 : Int32), S101)) (fun t102 x103 x104 S105 =>
  fx_t2 t102 (some (x104, S105)) ((if x103 = 0 then (
    some ((-6 : Int32), S105)) else (
    some ((S105.1 19), S105))))))
set_option maxRecDepth 100000 in
set_option maxHeartbeats 4000000 in
theorem c_X8_fault (l : Launch) (g : GG) (N : Nat) (q1 : Nat → Nat) (S1 : St) (r : Int32) (F1 : St) (h : f_X8_fault N S1 = some (r, F1)) : Ci l yX8_fault wsX8_fault RM_X8_fault g [.ref (q1 100)] (wX8 g q1 S1) (wX8 g q1 F1) r := by
  intro sz
  refine Met.ofC (cc := cX8_fault) (maxL := 5) (ret := (some .int)) (by decide) rfl (Nat.le_of_ble_eq_true rfl) ?_
  intro p e s m below meth c hC hr hlk hsz A hA9 hA hP hD hS ls hl
  subst hsz
  have hC : Cx p s m ([.ref (q1 100)] : List Value).toArray c RX8 cX8_fault 5 wsX8_fault g := hC
  have hx := hC.1.1
  have hb := hC.1.2.1
  have hml := hC.1.2.2.1
  have hown := hC.1.2.2.2.1
  have hts := hC.1.2.2.2.2
  have hl : lv_has ls 5 [(0, .ref (q1 100))] := hl
  show W p l e RM_X8_fault s m ([.ref (q1 100)] : List Value).toArray below meth c s.heap [] 0 0 (Qi below g [.ref (q1 100)] (wX8 g q1 S1) (wX8 g q1 F1) r s) (F0 m 0 ls [])
  unfold f_X8_fault at h
  refine lv_aload_n hx hb dX8_fault_0 rfl (lv_at hl 0 rfl) ?_
  refine lv_iconst (v := (0 : Int32)) hx hb dX8_fault_1 (by decide) ?_
  refine k_put (ci := 8) (k := 22) (q0 := 0) (C := RX8) (T := TX8) (N := 46) (S2 := stI S1 22 (0 : Int32)) tyX8 (fun S => (wX8 g q1 S)) hC uX8_fault_X8 tyX8_ok nmX8 hP hD hS rfl rfl (by decide) (List.mem_of_getElem? (i := 1) rfl) rfl (tyX8_ok 22 (by decide)) (Nat.le_of_ble_eq_true rfl) dX8_fault_2 rfl h (fun S101 h H locs hP hD hS => ?_)
  refine lv_iconst (v := (0 : Int32)) hx hb dX8_fault_5 (by decide) ?_
  refine lv_istore_n (lv' := [(1, .int (0 : Int32)), (0, .ref (q1 100))]) hx hb dX8_fault_6 rfl hl (by decide) rfl (fun ls hl => ?_)
  refine lv_iconst (v := (0 : Int32)) hx hb dX8_fault_7 (by decide) ?_
  refine lv_istore_n (lv' := [(2, .int (0 : Int32)), (1, .int (0 : Int32)), (0, .ref (q1 100))]) hx hb dX8_fault_8 rfl hl (by decide) rfl (fun ls hl => ?_)
  obtain ⟨t102, x103, x104, S105, ho106, h⟩ := fx_b4_s h
  refine lw_X8_fault_9 hC hA N q1 N (0 : Int32) (0 : Int32) S101  (t102, x103, x104, S105) ho106 _ _ _ hP hD hS (lv_sub hl [2, 1, 0] rfl) ?_ ?_
  · intro y0 y1 y2 he H locs ls hP hD hS hl
    obtain ⟨rfl, rfl, rfl, rfl⟩ := fx_j4 he
    have h := fx_tg2_0 h
    refine lv_iload_n hx hb dX8_fault_96 rfl (lv_at hl 0 rfl) ?_
    obtain ⟨rfl, rfl⟩ := fx_i2 h
    exact Ci.ret hC hr hlk hA9 hP hD hS dX8_fault_97
  · intro y0 y1 y2 he H locs ls hP hD hS hl
    obtain ⟨rfl, rfl, rfl, rfl⟩ := fx_j4 he
    have h := fx_tg2_1 h
    refine lv_iload_n hx hb dX8_fault_217 rfl (lv_at hl 1 rfl) ?_
    refine k_if_eq (tgt := 228) hC dX8_fault_218 (by decide) h (fun h => ?_) (fun h => ?_)
    · refine lv_bipush (v := (-6 : Int32)) hx hb dX8_fault_228 (by decide) ?_
      obtain ⟨rfl, rfl⟩ := fx_i2 h
      exact Ci.ret hC hr hlk hA9 hP hD hS dX8_fault_230
    · refine lv_aload_n hx hb dX8_fault_221 rfl (lv_at hl 0 rfl) ?_
      refine k_get (ci := 8) (k := 19) (q0 := 0) (v := .int (S105.1 19)) (C := RX8) (T := TX8) (N := 46) hC uX8_fault_X8 hP rfl rfl (by decide) (List.mem_of_getElem? (i := 2) rfl) rfl dX8_fault_222 ?_
      refine lv_goto (tgt := 230) hx hb dX8_fault_225 (by decide) ?_
      obtain ⟨rfl, rfl⟩ := fx_i2 h
      exact Ci.ret hC hr hlk hA9 hP hD hS dX8_fault_230
theorem uX8_passMinute_X8 : ∀ w ∈ u_ws RX8 TX8 46, w ∈ wsX8_passMinute := fun w h => List.mem_cons_of_mem _ (List.mem_append_right _ h)
abbrev RM_X8_passMinute : Room := { frames := 0, cells := 0, slots := 0, locals := 0 }
def bd_X8_passMinute_12 (N : Nat) (x1 : Int32) (x2 : Int32) (S1 : St) (rec : (Int32 × St) → Option (St)) : Option (St) :=
  fx_ald 4 (S1.2 12) x1 (fun v101 =>
    (if v101 ≤ x2 then (
    some S1) else (
    fx_ald 6 (S1.2 6) x2 (fun v102 =>
      fx_lt ((S1.1 2) - v102) (fun x103 =>
      fx_ald 24 (S1.2 14) (((6 : Int32) * x1) + x2) (fun v104 =>
      fx_b1 ((if x103 ≤ 0 then (
      some (0 : Int32)) else (
      some x103)) : Option (Int32)) (fun v105 =>
      fx_ast 24 S1 14 (((6 : Int32) * x1) + x2) (v104 + v105) (fun S107 =>
        fx_lt (x2 + (1 : Int32)) (fun x108 =>
        rec (x108, S107))))))))))
def lf_X8_passMinute_12 (N : Nat) (x1 : Int32) : (Int32 × St) → ((Int32 × St) → Option (St)) → Option (St) := fun x rec => bd_X8_passMinute_12 N x1 x.1 x.2 rec
set_option maxRecDepth 100000 in
set_option maxHeartbeats 4000000 in
theorem lw_X8_passMinute_12 {p : Program} {l : Launch} {e : Env} {s : State} {m : MethodId} {args : Array Value} {below : List Frame} {meth : Method} {c : Code} {Q : State → Prop} {A : Nat → Prop} {H0 : Heap} {g : GG} (hC : Cx p s m args c RX8 cX8_passMinute 4 wsX8_passMinute g) (hA : ∀ q : Nat, H0.size ≤ q → A q) (N : Nat) (q1 : Nat → Nat) (x1 : Int32) : ∀ (n : Nat) (x2 : Int32) (S1 : St) (o : St), fx_it (lf_X8_passMinute_12 N x1) n (x2, S1) = some o → ∀ (H : Heap) (locs : List Loc) (ls : Array Slot), va_P g.1 vwCl (wX8 g q1 S1) H → va_D A (wX8 g q1 S1) → va_S A H0 H locs → lv_has ls 4 [(0, .ref (q1 100)), (1, .int x1), (2, .int x2)] → (∀ (Z0 : St), o = Z0 → ∀ (H : Heap) (locs : List Loc) (ls : Array Slot), va_P g.1 vwCl (wX8 g q1 Z0) H → va_D A (wX8 g q1 Z0) → va_S A H0 H locs → lv_has ls 4 [(0, .ref (q1 100)), (1, .int x1)] → W p l e RM_X8_passMinute s m args below meth c H locs 0 0 Q (F0 m 63 ls [])) → W p l e RM_X8_passMinute s m args below meth c H locs 0 0 Q (F0 m 12 ls []) := by
  have hx := hC.1.1
  have hb := hC.1.2.1
  have hml := hC.1.2.2.1
  have hown := hC.1.2.2.2.1
  have hts := hC.1.2.2.2.2
  intro n
  induction n with
  | zero => intro x2 S1 o h; cases h
  | succ n ih =>
    intro x2 S1 o h H locs ls hP hD hS hl k0
    have h : bd_X8_passMinute_12 N x1 x2 S1 (fx_it (lf_X8_passMinute_12 N x1) n) = some o := h
    unfold bd_X8_passMinute_12 at h
    refine lv_iload_n hx hb dX8_passMinute_12 rfl (lv_at hl 2 rfl) ?_
    refine lv_aload_n hx hb dX8_passMinute_13 rfl (lv_at hl 0 rfl) ?_
    refine k_get (ci := 8) (k := 12) (q0 := 0) (v := .ref (q1 12)) (C := RX8) (T := TX8) (N := 46) hC uX8_passMinute_X8 hP rfl rfl (by decide) (List.mem_of_getElem? (i := 2) rfl) rfl dX8_passMinute_14 ?_
    refine lv_iload_n hx hb dX8_passMinute_17 rfl (lv_at hl 1 rfl) ?_
    refine k_ald (q0 := 6) (n := 4) (F := S1.2 12) hC hP rfl dX8_passMinute_18 h (fun v101 h => ?_)
    refine k_icmp_ge (tgt := 63) hC dX8_passMinute_19 (by decide) h (fun h => ?_) (fun h => ?_)
    · exact k0 S1 (Option.some.inj h).symm _ _ _ hP hD hS (lv_sub hl [0, 1] rfl)
    · refine lv_aload_n hx hb dX8_passMinute_22 rfl (lv_at hl 0 rfl) ?_
      refine k_get (ci := 8) (k := 2) (q0 := 0) (v := .int (S1.1 2)) (C := RX8) (T := TX8) (N := 46) hC uX8_passMinute_X8 hP rfl rfl (by decide) (List.mem_of_getElem? (i := 3) rfl) rfl dX8_passMinute_23 ?_
      refine lv_aload_n hx hb dX8_passMinute_26 rfl (lv_at hl 0 rfl) ?_
      refine k_get (ci := 8) (k := 6) (q0 := 0) (v := .ref (q1 6)) (C := RX8) (T := TX8) (N := 46) hC uX8_passMinute_X8 hP rfl rfl (by decide) (List.mem_of_getElem? (i := 4) rfl) rfl dX8_passMinute_27 ?_
      refine lv_iload_n hx hb dX8_passMinute_30 rfl (lv_at hl 2 rfl) ?_
      refine k_ald (q0 := 1) (n := 6) (F := S1.2 6) hC hP rfl dX8_passMinute_31 h (fun v102 h => ?_)
      refine lv_isub hx hb dX8_passMinute_32 ?_
      refine k_topi h (fun x103 h => ?_)
      refine lv_istore_n (lv' := [(3, .int x103), (0, .ref (q1 100)), (1, .int x1), (2, .int x2)]) hx hb dX8_passMinute_33 rfl hl (by decide) rfl (fun ls hl => ?_)
      refine lv_aload_n hx hb dX8_passMinute_34 rfl (lv_at hl 1 rfl) ?_
      refine k_get (ci := 8) (k := 14) (q0 := 0) (v := .ref (q1 14)) (C := RX8) (T := TX8) (N := 46) hC uX8_passMinute_X8 hP rfl rfl (by decide) (List.mem_of_getElem? (i := 5) rfl) rfl dX8_passMinute_35 ?_
      refine lv_bipush (v := (6 : Int32)) hx hb dX8_passMinute_38 (by decide) ?_
      refine lv_iload_n hx hb dX8_passMinute_40 rfl (lv_at hl 2 rfl) ?_
      refine lv_imul hx hb dX8_passMinute_41 ?_
      refine lv_iload_n hx hb dX8_passMinute_42 rfl (lv_at hl 3 rfl) ?_
      refine lv_iadd hx hb dX8_passMinute_43 ?_
      refine lv_dup2_11 hx hb dX8_passMinute_44 rfl rfl ?_
      refine k_ald (q0 := 8) (n := 24) (F := S1.2 14) hC hP rfl dX8_passMinute_45 h (fun v104 h => ?_)
      refine lv_iload_n hx hb dX8_passMinute_46 rfl (lv_at hl 0 rfl) ?_
      obtain ⟨v105, hv106, h⟩ := fx_b1_s h
      have K109 : ∀ (H : Heap) (locs : List Loc) (ls : Array Slot), va_P g.1 vwCl (wX8 g q1 S1) H → va_D A (wX8 g q1 S1) → va_S A H0 H locs → lv_has ls 4 [(0, .ref (q1 100)), (1, .int x1), (2, .int x2)] → W p l e RM_X8_passMinute s m args below meth c H locs 0 0 Q (F0 m 55 ls [.int v105, .int v104, .int (((6 : Int32) * x1) + x2), .ref (q1 14)]) := by
        intro H locs ls hP hD hS hl
        refine lv_iadd hx hb dX8_passMinute_55 ?_
        refine k_ast (q0 := 8) (n := 24) (k := 14) (S := S1) (fun S => (wX8 g q1 S)) hC hP hD hS rfl (fun _ => rfl) dX8_passMinute_56 h (fun S107 h H locs hP hD hS => ?_)
        refine k_iinc (v := (1 : Int32)) (lv' := fun X => [(2, .int X), (0, .ref (q1 100)), (1, .int x1)]) hC dX8_passMinute_57 hl (k := 2) rfl (by decide) (by decide) (fun _ => rfl) h (fun x108 h ls hl => ?_)
        refine lv_goto (tgt := 12) hx hb dX8_passMinute_60 (by decide) ?_
        exact ih x108 S107 o h _ _ _ hP hD hS (lv_sub hl [1, 2, 0] rfl) k0
      refine k_if_le (tgt := 54) hC dX8_passMinute_47 (by decide) hv106 (fun hv106 => ?_) (fun hv106 => ?_)
      · refine lv_iconst (v := (0 : Int32)) hx hb dX8_passMinute_54 (by decide) ?_
        obtain rfl := fx_i1 hv106
        exact K109 _ _ _ hP hD hS (lv_sub hl [1, 2, 3] rfl)
      · refine lv_iload_n hx hb dX8_passMinute_50 rfl (lv_at hl 0 rfl) ?_
        refine lv_goto (tgt := 55) hx hb dX8_passMinute_51 (by decide) ?_
        obtain rfl := fx_i1 hv106
        exact K109 _ _ _ hP hD hS (lv_sub hl [1, 2, 3] rfl)
def bd_X8_passMinute_2 (N : Nat) (x1 : Int32) (S1 : St) (rec : (Int32 × St) → Option (St)) : Option (St) :=
  (if (S1.1 0) ≤ x1 then (
    some S1) else (
    fx_b1 (fx_it (lf_X8_passMinute_12 N x1) N ((0 : Int32), S1)) (fun S101 =>
      fx_lt (x1 + (1 : Int32)) (fun x103 =>
        rec (x103, S101)))))
def lf_X8_passMinute_2 (N : Nat) : (Int32 × St) → ((Int32 × St) → Option (St)) → Option (St) := fun x rec => bd_X8_passMinute_2 N x.1 x.2 rec
set_option maxRecDepth 100000 in
set_option maxHeartbeats 4000000 in
theorem lw_X8_passMinute_2 {p : Program} {l : Launch} {e : Env} {s : State} {m : MethodId} {args : Array Value} {below : List Frame} {meth : Method} {c : Code} {Q : State → Prop} {A : Nat → Prop} {H0 : Heap} {g : GG} (hC : Cx p s m args c RX8 cX8_passMinute 4 wsX8_passMinute g) (hA : ∀ q : Nat, H0.size ≤ q → A q) (N : Nat) (q1 : Nat → Nat) : ∀ (n : Nat) (x1 : Int32) (S1 : St) (o : St), fx_it (lf_X8_passMinute_2 N) n (x1, S1) = some o → ∀ (H : Heap) (locs : List Loc) (ls : Array Slot), va_P g.1 vwCl (wX8 g q1 S1) H → va_D A (wX8 g q1 S1) → va_S A H0 H locs → lv_has ls 4 [(0, .ref (q1 100)), (1, .int x1)] → (∀ (Z0 : St), o = Z0 → ∀ (H : Heap) (locs : List Loc) (ls : Array Slot), va_P g.1 vwCl (wX8 g q1 Z0) H → va_D A (wX8 g q1 Z0) → va_S A H0 H locs → lv_has ls 4 [(0, .ref (q1 100))] → W p l e RM_X8_passMinute s m args below meth c H locs 0 0 Q (F0 m 69 ls [])) → W p l e RM_X8_passMinute s m args below meth c H locs 0 0 Q (F0 m 2 ls []) := by
  have hx := hC.1.1
  have hb := hC.1.2.1
  have hml := hC.1.2.2.1
  have hown := hC.1.2.2.2.1
  have hts := hC.1.2.2.2.2
  intro n
  induction n with
  | zero => intro x1 S1 o h; cases h
  | succ n ih =>
    intro x1 S1 o h H locs ls hP hD hS hl k0
    have h : bd_X8_passMinute_2 N x1 S1 (fx_it (lf_X8_passMinute_2 N) n) = some o := h
    unfold bd_X8_passMinute_2 at h
    refine lv_iload_n hx hb dX8_passMinute_2 rfl (lv_at hl 1 rfl) ?_
    refine lv_aload_n hx hb dX8_passMinute_3 rfl (lv_at hl 0 rfl) ?_
    refine k_get (ci := 8) (k := 0) (q0 := 0) (v := .int (S1.1 0)) (C := RX8) (T := TX8) (N := 46) hC uX8_passMinute_X8 hP rfl rfl (by decide) (List.mem_of_getElem? (i := 1) rfl) rfl dX8_passMinute_4 ?_
    refine k_icmp_ge (tgt := 69) hC dX8_passMinute_7 (by decide) h (fun h => ?_) (fun h => ?_)
    · exact k0 S1 (Option.some.inj h).symm _ _ _ hP hD hS (lv_sub hl [0] rfl)
    · refine lv_iconst (v := (0 : Int32)) hx hb dX8_passMinute_10 (by decide) ?_
      refine lv_istore_n (lv' := [(2, .int (0 : Int32)), (0, .ref (q1 100)), (1, .int x1)]) hx hb dX8_passMinute_11 rfl hl (by decide) rfl (fun ls hl => ?_)
      obtain ⟨S101, ho102, h⟩ := fx_b1_s h
      refine lw_X8_passMinute_12 hC hA N q1 x1 N (0 : Int32) S1  S101 ho102 _ _ _ hP hD hS (lv_sub hl [1, 2, 0] rfl) ?_
      · intro y0 he H locs ls hP hD hS hl
        obtain rfl := he
        refine k_iinc (v := (1 : Int32)) (lv' := fun X => [(1, .int X), (0, .ref (q1 100))]) hC dX8_passMinute_63 hl (k := 1) rfl (by decide) (by decide) (fun _ => rfl) h (fun x103 h ls hl => ?_)
        refine lv_goto (tgt := 2) hx hb dX8_passMinute_66 (by decide) ?_
        exact ih x103 S101 o h _ _ _ hP hD hS (lv_sub hl [1, 0] rfl) k0
def f_X8_passMinute (N : Nat) (S1 : St) : Option (St) :=
  fx_b1 (fx_it (lf_X8_passMinute_2 N) N ((0 : Int32), S1)) (fun S101 =>
  fx_b1 ((if (S101.1 5) = (1 : Int32) then (
    some (S101.1 4)) else (
    some (0 : Int32))) : Option (Int32)) (fun v103 =>
    fx_lt (stI S101 2 ((S101.1 2) - ((S101.1 3) + v103))) (fun S105 =>
      fx_b1 ((if 0 ≤ (S105.1 2) then (
      some (S105.1 2)) else (
      some (0 : Int32))) : Option (Int32)) (fun v106 =>
      fx_lt (stI S105 2 v106) (fun S108 =>
        fx_lt (stI S108 5 (0 : Int32)) (fun S109 =>
        some S109))))))
set_option maxRecDepth 100000 in
set_option maxHeartbeats 4000000 in
theorem c_X8_passMinute (l : Launch) (g : GG) (N : Nat) (q1 : Nat → Nat) (S1 : St) (F1 : St) (h : f_X8_passMinute N S1 = some F1) : Cv l yX8_passMinute wsX8_passMinute RM_X8_passMinute g [.ref (q1 100)] (wX8 g q1 S1) (wX8 g q1 F1) := by
  intro sz
  refine Met.ofC (cc := cX8_passMinute) (maxL := 4) (ret := none) (by decide) rfl (Nat.le_of_ble_eq_true rfl) ?_
  intro p e s m below meth c hC hr hlk hsz A hA9 hA hP hD hS ls hl
  subst hsz
  have hC : Cx p s m ([.ref (q1 100)] : List Value).toArray c RX8 cX8_passMinute 4 wsX8_passMinute g := hC
  have hx := hC.1.1
  have hb := hC.1.2.1
  have hml := hC.1.2.2.1
  have hown := hC.1.2.2.2.1
  have hts := hC.1.2.2.2.2
  have hl : lv_has ls 4 [(0, .ref (q1 100))] := hl
  show W p l e RM_X8_passMinute s m ([.ref (q1 100)] : List Value).toArray below meth c s.heap [] 0 0 (Qv below g [.ref (q1 100)] (wX8 g q1 S1) (wX8 g q1 F1) s) (F0 m 0 ls [])
  unfold f_X8_passMinute at h
  refine lv_iconst (v := (0 : Int32)) hx hb dX8_passMinute_0 (by decide) ?_
  refine lv_istore_n (lv' := [(1, .int (0 : Int32)), (0, .ref (q1 100))]) hx hb dX8_passMinute_1 rfl hl (by decide) rfl (fun ls hl => ?_)
  obtain ⟨S101, ho102, h⟩ := fx_b1_s h
  refine lw_X8_passMinute_2 hC hA N q1 N (0 : Int32) S1  S101 ho102 _ _ _ hP hD hS (lv_sub hl [1, 0] rfl) ?_
  · intro y0 he H locs ls hP hD hS hl
    obtain rfl := he
    refine lv_aload_n hx hb dX8_passMinute_69 rfl (lv_at hl 0 rfl) ?_
    refine lv_dup hx hb dX8_passMinute_70 rfl ?_
    refine k_get (ci := 8) (k := 2) (q0 := 0) (v := .int (S101.1 2)) (C := RX8) (T := TX8) (N := 46) hC uX8_passMinute_X8 hP rfl rfl (by decide) (List.mem_of_getElem? (i := 3) rfl) rfl dX8_passMinute_71 ?_
    refine lv_aload_n hx hb dX8_passMinute_74 rfl (lv_at hl 0 rfl) ?_
    refine k_get (ci := 8) (k := 3) (q0 := 0) (v := .int (S101.1 3)) (C := RX8) (T := TX8) (N := 46) hC uX8_passMinute_X8 hP rfl rfl (by decide) (List.mem_of_getElem? (i := 6) rfl) rfl dX8_passMinute_75 ?_
    refine lv_aload_n hx hb dX8_passMinute_78 rfl (lv_at hl 0 rfl) ?_
    refine k_get (ci := 8) (k := 5) (q0 := 0) (v := .int (S101.1 5)) (C := RX8) (T := TX8) (N := 46) hC uX8_passMinute_X8 hP rfl rfl (by decide) (List.mem_of_getElem? (i := 7) rfl) rfl dX8_passMinute_79 ?_
    refine lv_iconst (v := (1 : Int32)) hx hb dX8_passMinute_82 (by decide) ?_
    obtain ⟨v103, hv104, h⟩ := fx_b1_s h
    have K111 : ∀ (H : Heap) (locs : List Loc) (ls : Array Slot), va_P g.1 vwCl (wX8 g q1 S101) H → va_D A (wX8 g q1 S101) → va_S A s.heap H locs → lv_has ls 4 [(0, .ref (q1 100))] → W p l e RM_X8_passMinute s m ([.ref (q1 100)] : List Value).toArray below meth c H locs 0 0 (Qv below g [.ref (q1 100)] (wX8 g q1 S1) (wX8 g q1 F1) s) (F0 m 94 ls [.int v103, .int (S101.1 3), .int (S101.1 2), .ref (q1 100)]) := by
      intro H locs ls hP hD hS hl
      refine lv_iadd hx hb dX8_passMinute_94 ?_
      refine lv_isub hx hb dX8_passMinute_95 ?_
      refine k_put (ci := 8) (k := 2) (q0 := 0) (C := RX8) (T := TX8) (N := 46) (S2 := stI S101 2 ((S101.1 2) - ((S101.1 3) + v103))) tyX8 (fun S => (wX8 g q1 S)) hC uX8_passMinute_X8 tyX8_ok nmX8 hP hD hS rfl rfl (by decide) (List.mem_of_getElem? (i := 3) rfl) rfl (tyX8_ok 2 (by decide)) (Nat.le_of_ble_eq_true rfl) dX8_passMinute_96 rfl h (fun S105 h H locs hP hD hS => ?_)
      refine lv_aload_n hx hb dX8_passMinute_99 rfl (lv_at hl 0 rfl) ?_
      refine lv_aload_n hx hb dX8_passMinute_100 rfl (lv_at hl 0 rfl) ?_
      refine k_get (ci := 8) (k := 2) (q0 := 0) (v := .int (S105.1 2)) (C := RX8) (T := TX8) (N := 46) hC uX8_passMinute_X8 hP rfl rfl (by decide) (List.mem_of_getElem? (i := 3) rfl) rfl dX8_passMinute_101 ?_
      obtain ⟨v106, hv107, h⟩ := fx_b1_s h
      have K110 : ∀ (H : Heap) (locs : List Loc) (ls : Array Slot), va_P g.1 vwCl (wX8 g q1 S105) H → va_D A (wX8 g q1 S105) → va_S A s.heap H locs → lv_has ls 4 [(0, .ref (q1 100))] → W p l e RM_X8_passMinute s m ([.ref (q1 100)] : List Value).toArray below meth c H locs 0 0 (Qv below g [.ref (q1 100)] (wX8 g q1 S1) (wX8 g q1 F1) s) (F0 m 115 ls [.int v106, .ref (q1 100)]) := by
        intro H locs ls hP hD hS hl
        refine k_put (ci := 8) (k := 2) (q0 := 0) (C := RX8) (T := TX8) (N := 46) (S2 := stI S105 2 v106) tyX8 (fun S => (wX8 g q1 S)) hC uX8_passMinute_X8 tyX8_ok nmX8 hP hD hS rfl rfl (by decide) (List.mem_of_getElem? (i := 3) rfl) rfl (tyX8_ok 2 (by decide)) (Nat.le_of_ble_eq_true rfl) dX8_passMinute_115 rfl h (fun S108 h H locs hP hD hS => ?_)
        refine lv_aload_n hx hb dX8_passMinute_118 rfl (lv_at hl 0 rfl) ?_
        refine lv_iconst (v := (0 : Int32)) hx hb dX8_passMinute_119 (by decide) ?_
        refine k_put (ci := 8) (k := 5) (q0 := 0) (C := RX8) (T := TX8) (N := 46) (S2 := stI S108 5 (0 : Int32)) tyX8 (fun S => (wX8 g q1 S)) hC uX8_passMinute_X8 tyX8_ok nmX8 hP hD hS rfl rfl (by decide) (List.mem_of_getElem? (i := 7) rfl) rfl (tyX8_ok 5 (by decide)) (Nat.le_of_ble_eq_true rfl) dX8_passMinute_120 rfl h (fun S109 h H locs hP hD hS => ?_)
        obtain rfl := fx_i1 h
        exact Cv.ret hC hr hlk hA9 hP hD hS dX8_passMinute_123
      refine k_if_ge (tgt := 111) hC dX8_passMinute_104 (by decide) hv107 (fun hv107 => ?_) (fun hv107 => ?_)
      · refine lv_aload_n hx hb dX8_passMinute_111 rfl (lv_at hl 0 rfl) ?_
        refine k_get (ci := 8) (k := 2) (q0 := 0) (v := .int (S105.1 2)) (C := RX8) (T := TX8) (N := 46) hC uX8_passMinute_X8 hP rfl rfl (by decide) (List.mem_of_getElem? (i := 3) rfl) rfl dX8_passMinute_112 ?_
        obtain rfl := fx_i1 hv107
        exact K110 _ _ _ hP hD hS (lv_sub hl [0] rfl)
      · refine lv_iconst (v := (0 : Int32)) hx hb dX8_passMinute_107 (by decide) ?_
        refine lv_goto (tgt := 115) hx hb dX8_passMinute_108 (by decide) ?_
        obtain rfl := fx_i1 hv107
        exact K110 _ _ _ hP hD hS (lv_sub hl [0] rfl)
    refine k_icmp_ne (tgt := 93) hC dX8_passMinute_83 (by decide) hv104 (fun hv104 => ?_) (fun hv104 => ?_)
    · refine lv_iconst (v := (0 : Int32)) hx hb dX8_passMinute_93 (by decide) ?_
      obtain rfl := fx_i1 hv104
      exact K111 _ _ _ hP hD hS (lv_sub hl [0] rfl)
    · refine lv_aload_n hx hb dX8_passMinute_86 rfl (lv_at hl 0 rfl) ?_
      refine k_get (ci := 8) (k := 4) (q0 := 0) (v := .int (S101.1 4)) (C := RX8) (T := TX8) (N := 46) hC uX8_passMinute_X8 hP rfl rfl (by decide) (List.mem_of_getElem? (i := 8) rfl) rfl dX8_passMinute_87 ?_
      refine lv_goto (tgt := 94) hx hb dX8_passMinute_90 (by decide) ?_
      obtain rfl := fx_i1 hv104
      exact K111 _ _ _ hP hD hS (lv_sub hl [0] rfl)
theorem uX8_ripeness_X8 : ∀ w ∈ u_ws RX8 TX8 46, w ∈ wsX8_ripeness := fun w h => List.mem_cons_of_mem _ (List.mem_append_right _ h)
abbrev RM_X8_ripeness : Room := { frames := 0, cells := 0, slots := 0, locals := 0 }
def f_X8_ripeness (N : Nat) (S1 : St) (x1 : Int32) (x2 : Int32) : Option (Int32) :=
  fx_ald 6 (S1.2 8) x1 (fun v101 =>
  (if v101 ≤ x2 then (
  fx_ald 6 (S1.2 8) x1 (fun v102 =>
    fx_ald 6 (S1.2 9) x1 (fun v103 =>
    (if (v102 + v103) < x2 then (
    some (2 : Int32)) else (
    some (1 : Int32)))))) else (
  some (0 : Int32))))
set_option maxRecDepth 100000 in
set_option maxHeartbeats 4000000 in
theorem c_X8_ripeness (l : Launch) (g : GG) (N : Nat) (q1 : Nat → Nat) (S1 : St) (x1 : Int32) (x2 : Int32) (r : Int32) (h : f_X8_ripeness N S1 x1 x2 = some r) : Ci l yX8_ripeness wsX8_ripeness RM_X8_ripeness g [.ref (q1 100), .int x1, .int x2] (wX8 g q1 S1) (wX8 g q1 S1) r := by
  intro sz
  refine Met.ofC (cc := cX8_ripeness) (maxL := 3) (ret := (some .int)) (by decide) rfl (Nat.le_of_ble_eq_true rfl) ?_
  intro p e s m below meth c hC hr hlk hsz A hA9 hA hP hD hS ls hl
  subst hsz
  have hC : Cx p s m ([.ref (q1 100), .int x1, .int x2] : List Value).toArray c RX8 cX8_ripeness 3 wsX8_ripeness g := hC
  have hx := hC.1.1
  have hb := hC.1.2.1
  have hml := hC.1.2.2.1
  have hown := hC.1.2.2.2.1
  have hts := hC.1.2.2.2.2
  have hl : lv_has ls 3 [(0, .ref (q1 100)), (1, .int x1), (2, .int x2)] := hl
  show W p l e RM_X8_ripeness s m ([.ref (q1 100), .int x1, .int x2] : List Value).toArray below meth c s.heap [] 0 0 (Qi below g [.ref (q1 100), .int x1, .int x2] (wX8 g q1 S1) (wX8 g q1 S1) r s) (F0 m 0 ls [])
  unfold f_X8_ripeness at h
  refine lv_iload_n hx hb dX8_ripeness_0 rfl (lv_at hl 2 rfl) ?_
  refine lv_aload_n hx hb dX8_ripeness_1 rfl (lv_at hl 0 rfl) ?_
  refine k_get (ci := 8) (k := 8) (q0 := 0) (v := .ref (q1 8)) (C := RX8) (T := TX8) (N := 46) hC uX8_ripeness_X8 hP rfl rfl (by decide) (List.mem_of_getElem? (i := 1) rfl) rfl dX8_ripeness_2 ?_
  refine lv_iload_n hx hb dX8_ripeness_5 rfl (lv_at hl 1 rfl) ?_
  refine k_ald (q0 := 2) (n := 6) (F := S1.2 8) hC hP rfl dX8_ripeness_6 h (fun v101 h => ?_)
  refine k_icmp_ge (tgt := 14) hC dX8_ripeness_7 (by decide) h (fun h => ?_) (fun h => ?_)
  · refine lv_iload_n hx hb dX8_ripeness_14 rfl (lv_at hl 2 rfl) ?_
    refine lv_aload_n hx hb dX8_ripeness_15 rfl (lv_at hl 0 rfl) ?_
    refine k_get (ci := 8) (k := 8) (q0 := 0) (v := .ref (q1 8)) (C := RX8) (T := TX8) (N := 46) hC uX8_ripeness_X8 hP rfl rfl (by decide) (List.mem_of_getElem? (i := 1) rfl) rfl dX8_ripeness_16 ?_
    refine lv_iload_n hx hb dX8_ripeness_19 rfl (lv_at hl 1 rfl) ?_
    refine k_ald (q0 := 2) (n := 6) (F := S1.2 8) hC hP rfl dX8_ripeness_20 h (fun v102 h => ?_)
    refine lv_aload_n hx hb dX8_ripeness_21 rfl (lv_at hl 0 rfl) ?_
    refine k_get (ci := 8) (k := 9) (q0 := 0) (v := .ref (q1 9)) (C := RX8) (T := TX8) (N := 46) hC uX8_ripeness_X8 hP rfl rfl (by decide) (List.mem_of_getElem? (i := 2) rfl) rfl dX8_ripeness_22 ?_
    refine lv_iload_n hx hb dX8_ripeness_25 rfl (lv_at hl 1 rfl) ?_
    refine k_ald (q0 := 3) (n := 6) (F := S1.2 9) hC hP rfl dX8_ripeness_26 h (fun v103 h => ?_)
    refine lv_iadd hx hb dX8_ripeness_27 ?_
    refine k_icmp_gt (tgt := 35) hC dX8_ripeness_28 (by decide) h (fun h => ?_) (fun h => ?_)
    · refine lv_iconst (v := (2 : Int32)) hx hb dX8_ripeness_35 (by decide) ?_
      obtain rfl := fx_i1 h
      exact Ci.ret hC hr hlk hA9 hP hD hS dX8_ripeness_36
    · refine lv_iconst (v := (1 : Int32)) hx hb dX8_ripeness_31 (by decide) ?_
      refine lv_goto (tgt := 36) hx hb dX8_ripeness_32 (by decide) ?_
      obtain rfl := fx_i1 h
      exact Ci.ret hC hr hlk hA9 hP hD hS dX8_ripeness_36
  · refine lv_iconst (v := (0 : Int32)) hx hb dX8_ripeness_10 (by decide) ?_
    refine lv_goto (tgt := 36) hx hb dX8_ripeness_11 (by decide) ?_
    obtain rfl := fx_i1 h
    exact Ci.ret hC hr hlk hA9 hP hD hS dX8_ripeness_36
theorem uX8_whyNot_X8 : ∀ w ∈ u_ws RX8 TX8 46, w ∈ wsX8_whyNot := fun w h => List.mem_cons_of_mem _ (List.mem_append_right _ h)
abbrev RM_X8_whyNot : Room := { frames := 3, cells := 0, slots := 0, locals := 66 }
def f_X8_whyNot (N : Nat) (S1 : St) (x1 : Int32) : Option (Int32) :=
  fx_ald 60 (S1.2 20) x1 (fun v101 =>
  (if v101 ≤ (6 : Int32) then (
  fx_ald 60 (S1.2 21) x1 (fun v102 =>
    fx_ald 60 (S1.2 20) x1 (fun v103 =>
    (if v103 = (6 : Int32) then (
    fx_ald 4 (S1.2 12) v102 (fun v108 =>
      (if v108 = 0 then (
      some (3 : Int32)) else (
      some (0 : Int32))))) else (
    fx_ald 60 (S1.2 20) x1 (fun v104 =>
      fx_b1 (f_X8_isSort N S1 v104) (fun v105 =>
      (if v105 = 0 then (
      some (1 : Int32)) else (
      fx_ald 4 (S1.2 12) v102 (fun v106 =>
        (if v106 = (S1.1 1) then (
        some (2 : Int32)) else (
        some (0 : Int32))))))))))))) else (
  some (0 : Int32))))
set_option maxRecDepth 100000 in
set_option maxHeartbeats 4000000 in
theorem c_X8_whyNot (l : Launch) (g : GG) (N : Nat) (q1 : Nat → Nat) (S1 : St) (x1 : Int32) (r : Int32) (h : f_X8_whyNot N S1 x1 = some r) : Ci l yX8_whyNot wsX8_whyNot RM_X8_whyNot g [.ref (q1 100), .int x1] (wX8 g q1 S1) (wX8 g q1 S1) r := by
  intro sz
  refine Met.ofC (cc := cX8_whyNot) (maxL := 3) (ret := (some .int)) (by decide) rfl (Nat.le_of_ble_eq_true rfl) ?_
  intro p e s m below meth c hC hr hlk hsz A hA9 hA hP hD hS ls hl
  subst hsz
  have hC : Cx p s m ([.ref (q1 100), .int x1] : List Value).toArray c RX8 cX8_whyNot 3 wsX8_whyNot g := hC
  have hx := hC.1.1
  have hb := hC.1.2.1
  have hml := hC.1.2.2.1
  have hown := hC.1.2.2.2.1
  have hts := hC.1.2.2.2.2
  have hl : lv_has ls 3 [(0, .ref (q1 100)), (1, .int x1)] := hl
  show W p l e RM_X8_whyNot s m ([.ref (q1 100), .int x1] : List Value).toArray below meth c s.heap [] 0 0 (Qi below g [.ref (q1 100), .int x1] (wX8 g q1 S1) (wX8 g q1 S1) r s) (F0 m 0 ls [])
  unfold f_X8_whyNot at h
  refine lv_aload_n hx hb dX8_whyNot_0 rfl (lv_at hl 0 rfl) ?_
  refine k_get (ci := 8) (k := 20) (q0 := 0) (v := .ref (q1 20)) (C := RX8) (T := TX8) (N := 46) hC uX8_whyNot_X8 hP rfl rfl (by decide) (List.mem_of_getElem? (i := 1) rfl) rfl dX8_whyNot_1 ?_
  refine lv_iload_n hx hb dX8_whyNot_4 rfl (lv_at hl 1 rfl) ?_
  refine k_ald (q0 := 12) (n := 60) (F := S1.2 20) hC hP rfl dX8_whyNot_5 h (fun v101 h => ?_)
  refine lv_bipush (v := (6 : Int32)) hx hb dX8_whyNot_6 (by decide) ?_
  refine k_icmp_le (tgt := 13) hC dX8_whyNot_8 (by decide) h (fun h => ?_) (fun h => ?_)
  · refine lv_aload_n hx hb dX8_whyNot_13 rfl (lv_at hl 0 rfl) ?_
    refine k_get (ci := 8) (k := 21) (q0 := 0) (v := .ref (q1 21)) (C := RX8) (T := TX8) (N := 46) hC uX8_whyNot_X8 hP rfl rfl (by decide) (List.mem_of_getElem? (i := 2) rfl) rfl dX8_whyNot_14 ?_
    refine lv_iload_n hx hb dX8_whyNot_17 rfl (lv_at hl 1 rfl) ?_
    refine k_ald (q0 := 13) (n := 60) (F := S1.2 21) hC hP rfl dX8_whyNot_18 h (fun v102 h => ?_)
    refine lv_istore_n (lv' := [(2, .int v102), (0, .ref (q1 100)), (1, .int x1)]) hx hb dX8_whyNot_19 rfl hl (by decide) rfl (fun ls hl => ?_)
    refine lv_aload_n hx hb dX8_whyNot_20 rfl (lv_at hl 1 rfl) ?_
    refine k_get (ci := 8) (k := 20) (q0 := 0) (v := .ref (q1 20)) (C := RX8) (T := TX8) (N := 46) hC uX8_whyNot_X8 hP rfl rfl (by decide) (List.mem_of_getElem? (i := 1) rfl) rfl dX8_whyNot_21 ?_
    refine lv_iload_n hx hb dX8_whyNot_24 rfl (lv_at hl 2 rfl) ?_
    refine k_ald (q0 := 12) (n := 60) (F := S1.2 20) hC hP rfl dX8_whyNot_25 h (fun v103 h => ?_)
    refine lv_bipush (v := (6 : Int32)) hx hb dX8_whyNot_26 (by decide) ?_
    refine k_icmp_ne (tgt := 46) hC dX8_whyNot_28 (by decide) h (fun h => ?_) (fun h => ?_)
    · refine lv_aload_n hx hb dX8_whyNot_46 rfl (lv_at hl 1 rfl) ?_
      refine lv_aload_n hx hb dX8_whyNot_47 rfl (lv_at hl 1 rfl) ?_
      refine k_get (ci := 8) (k := 20) (q0 := 0) (v := .ref (q1 20)) (C := RX8) (T := TX8) (N := 46) hC uX8_whyNot_X8 hP rfl rfl (by decide) (List.mem_of_getElem? (i := 1) rfl) rfl dX8_whyNot_48 ?_
      refine lv_iload_n hx hb dX8_whyNot_51 rfl (lv_at hl 2 rfl) ?_
      refine k_ald (q0 := 12) (n := 60) (F := S1.2 20) hC hP rfl dX8_whyNot_52 h (fun v104 h => ?_)
      obtain ⟨v105, hc107, h⟩ := fx_b1_s h
      refine k_callVi0 (C := RX8) (ci := 8) (qr := 0) (n := 1) (As := [.int v104]) (rest := []) (wc := (wX8 g q1 S1)) (bytes := cX8_isSort) (maxL := 2) (ret := (some .boolean)) hC hl.1 (c_X8_isSort l g N q1 S1 v104 v105 hc107) rfl gX8_whyNot_X8_isSort (by decide +kernel) rfl rfl ⟨Nat.le_of_ble_eq_true rfl, Nat.le_of_ble_eq_true rfl⟩ rfl rfl rfl (Nat.le_of_ble_eq_true rfl) ⟨Nat.le_of_ble_eq_true rfl, Nat.le_of_ble_eq_true rfl⟩ dX8_whyNot_53 hP hD hS hA [0, 1, 2, 3, 4, 5, 6, 7, 8, 9, 10, 11, 12, 13, 14, 15, 16, 17, 18, 19, 20, 21, 22, 23] rfl (by decide +kernel) (fun H locs hP hD hS => ?_)
      refine k_if_ne (tgt := 63) hC dX8_whyNot_56 (by decide) h (fun h => ?_) (fun h => ?_)
      · refine lv_aload_n hx hb dX8_whyNot_63 rfl (lv_at hl 1 rfl) ?_
        refine k_get (ci := 8) (k := 12) (q0 := 0) (v := .ref (q1 12)) (C := RX8) (T := TX8) (N := 46) hC uX8_whyNot_X8 hP rfl rfl (by decide) (List.mem_of_getElem? (i := 3) rfl) rfl dX8_whyNot_64 ?_
        refine lv_iload_n hx hb dX8_whyNot_67 rfl (lv_at hl 0 rfl) ?_
        refine k_ald (q0 := 6) (n := 4) (F := S1.2 12) hC hP rfl dX8_whyNot_68 h (fun v106 h => ?_)
        refine lv_aload_n hx hb dX8_whyNot_69 rfl (lv_at hl 1 rfl) ?_
        refine k_get (ci := 8) (k := 1) (q0 := 0) (v := .int (S1.1 1)) (C := RX8) (T := TX8) (N := 46) hC uX8_whyNot_X8 hP rfl rfl (by decide) (List.mem_of_getElem? (i := 4) rfl) rfl dX8_whyNot_70 ?_
        refine k_icmp_ne (tgt := 80) hC dX8_whyNot_73 (by decide) h (fun h => ?_) (fun h => ?_)
        · refine lv_iconst (v := (0 : Int32)) hx hb dX8_whyNot_80 (by decide) ?_
          obtain rfl := fx_i1 h
          exact Ci.ret hC hr hlk hA9 hP hD hS dX8_whyNot_81
        · refine lv_iconst (v := (2 : Int32)) hx hb dX8_whyNot_76 (by decide) ?_
          refine lv_goto (tgt := 81) hx hb dX8_whyNot_77 (by decide) ?_
          obtain rfl := fx_i1 h
          exact Ci.ret hC hr hlk hA9 hP hD hS dX8_whyNot_81
      · refine lv_iconst (v := (1 : Int32)) hx hb dX8_whyNot_59 (by decide) ?_
        refine lv_goto (tgt := 81) hx hb dX8_whyNot_60 (by decide) ?_
        obtain rfl := fx_i1 h
        exact Ci.ret hC hr hlk hA9 hP hD hS dX8_whyNot_81
    · refine lv_aload_n hx hb dX8_whyNot_31 rfl (lv_at hl 1 rfl) ?_
      refine k_get (ci := 8) (k := 12) (q0 := 0) (v := .ref (q1 12)) (C := RX8) (T := TX8) (N := 46) hC uX8_whyNot_X8 hP rfl rfl (by decide) (List.mem_of_getElem? (i := 3) rfl) rfl dX8_whyNot_32 ?_
      refine lv_iload_n hx hb dX8_whyNot_35 rfl (lv_at hl 0 rfl) ?_
      refine k_ald (q0 := 6) (n := 4) (F := S1.2 12) hC hP rfl dX8_whyNot_36 h (fun v108 h => ?_)
      refine k_if_ne (tgt := 44) hC dX8_whyNot_37 (by decide) h (fun h => ?_) (fun h => ?_)
      · refine lv_iconst (v := (0 : Int32)) hx hb dX8_whyNot_44 (by decide) ?_
        obtain rfl := fx_i1 h
        exact Ci.ret hC hr hlk hA9 hP hD hS dX8_whyNot_45
      · refine lv_iconst (v := (3 : Int32)) hx hb dX8_whyNot_40 (by decide) ?_
        refine lv_goto (tgt := 45) hx hb dX8_whyNot_41 (by decide) ?_
        obtain rfl := fx_i1 h
        exact Ci.ret hC hr hlk hA9 hP hD hS dX8_whyNot_45
  · refine lv_iconst (v := (0 : Int32)) hx hb dX8_whyNot_11 (by decide) ?_
    obtain rfl := fx_i1 h
    exact Ci.ret hC hr hlk hA9 hP hD hS dX8_whyNot_12
theorem uX8_happen_X8 : ∀ w ∈ u_ws RX8 TX8 46, w ∈ wsX8_happen := fun w h => List.mem_cons_of_mem _ (List.mem_append_right _ h)
abbrev RM_X8_happen : Room := { frames := 1, cells := 0, slots := 0, locals := 23 }
def bd_X8_happen_36 (N : Nat) (x3 : Int32) (S1 : St) (rec : (Int32 × St) → Option (St)) : Option (St) :=
  (if (10 : Int32) ≤ x3 then (
    some S1) else (
    fx_b1 (f_X8_passMinute N S1) (fun S101 =>
      fx_lt (x3 + (1 : Int32)) (fun x102 =>
      rec (x102, S101)))))
def lf_X8_happen_36 (N : Nat) : (Int32 × St) → ((Int32 × St) → Option (St)) → Option (St) := fun x rec => bd_X8_happen_36 N x.1 x.2 rec
set_option maxRecDepth 100000 in
set_option maxHeartbeats 4000000 in
theorem lw_X8_happen_36 {p : Program} {l : Launch} {e : Env} {s : State} {m : MethodId} {args : Array Value} {below : List Frame} {meth : Method} {c : Code} {Q : State → Prop} {A : Nat → Prop} {H0 : Heap} {g : GG} (hC : Cx p s m args c RX8 cX8_happen 5 wsX8_happen g) (hA : ∀ q : Nat, H0.size ≤ q → A q) (N : Nat) (q1 : Nat → Nat) : ∀ (n : Nat) (x3 : Int32) (S1 : St) (o : St), fx_it (lf_X8_happen_36 N) n (x3, S1) = some o → ∀ (H : Heap) (locs : List Loc) (ls : Array Slot), va_P g.1 vwCl (wX8 g q1 S1) H → va_D A (wX8 g q1 S1) → va_S A H0 H locs → lv_has ls 5 [(0, .ref (q1 100)), (3, .int x3)] → (∀ (Z0 : St), o = Z0 → ∀ (H : Heap) (locs : List Loc) (ls : Array Slot), va_P g.1 vwCl (wX8 g q1 Z0) H → va_D A (wX8 g q1 Z0) → va_S A H0 H locs → lv_has ls 5 [] → W p l e RM_X8_happen s m args below meth c H locs 0 0 Q (F0 m 52 ls [])) → W p l e RM_X8_happen s m args below meth c H locs 0 0 Q (F0 m 36 ls []) := by
  have hx := hC.1.1
  have hb := hC.1.2.1
  have hml := hC.1.2.2.1
  have hown := hC.1.2.2.2.1
  have hts := hC.1.2.2.2.2
  intro n
  induction n with
  | zero => intro x3 S1 o h; cases h
  | succ n ih =>
    intro x3 S1 o h H locs ls hP hD hS hl k0
    have h : bd_X8_happen_36 N x3 S1 (fx_it (lf_X8_happen_36 N) n) = some o := h
    unfold bd_X8_happen_36 at h
    refine lv_iload_n hx hb dX8_happen_36 rfl (lv_at hl 1 rfl) ?_
    refine lv_bipush (v := (10 : Int32)) hx hb dX8_happen_37 (by decide) ?_
    refine k_icmp_ge (tgt := 52) hC dX8_happen_39 (by decide) h (fun h => ?_) (fun h => ?_)
    · exact k0 S1 (Option.some.inj h).symm _ _ _ hP hD hS (lv_sub hl [] rfl)
    · refine lv_aload_n hx hb dX8_happen_42 rfl (lv_at hl 0 rfl) ?_
      obtain ⟨S101, hc103, h⟩ := fx_b1_s h
      refine k_callVv (C := RX8) (ci := 8) (qr := 0) (n := 0) (As := []) (rest := []) (wc := (wX8 g q1 S1)) (w1 := (wX8 g q1 S101)) (ws2 := (wX8 g q1 S101)) (bytes := cX8_passMinute) (maxL := 4) (ret := none) hC hl.1 (c_X8_passMinute l g N q1 S1 S101 hc103) rfl gX8_happen_X8_passMinute (by decide +kernel) rfl rfl ⟨Nat.le_of_ble_eq_true rfl, Nat.le_of_ble_eq_true rfl⟩ rfl rfl rfl (Nat.le_of_ble_eq_true rfl) ⟨Nat.le_of_ble_eq_true rfl, Nat.le_of_ble_eq_true rfl⟩ dX8_happen_43 hP hD hS hA [0, 1, 2, 3, 4, 5, 6, 7, 8, 9, 10, 11, 12, 13, 14, 15, 16, 17, 18, 19, 20, 21, 22, 23] rfl (by decide +kernel) [q1 100, q1 6, q1 8, q1 9, q1 10, q1 11, q1 12, q1 13, q1 14, q1 15, q1 16, q1 18, q1 20, q1 21, q1 23, q1 27, q1 30, q1 32, q1 33, q1 34, q1 39, q1 41, q1 42, q1 43] rfl rfl rfl [] ([] : va_W) rfl rfl (n2 := 24) rfl (by decide +kernel) (fun H locs hP hD hS => ?_)
      refine k_iinc (v := (1 : Int32)) (lv' := fun X => [(3, .int X), (0, .ref (q1 100))]) hC dX8_happen_46 hl (k := 1) rfl (by decide) (by decide) (fun _ => rfl) h (fun x102 h ls hl => ?_)
      refine lv_goto (tgt := 36) hx hb dX8_happen_49 (by decide) ?_
      exact ih x102 S101 o h _ _ _ hP hD hS (lv_sub hl [1, 0] rfl) k0
def f_X8_happen (N : Nat) (S1 : St) (x1 : Int32) : Option (St) :=
  fx_ald 60 (S1.2 21) x1 (fun v101 =>
  fx_ald 60 (S1.2 20) x1 (fun v102 =>
  (if v102 ≤ (6 : Int32) then (
  fx_ald 60 (S1.2 20) x1 (fun v103 =>
    (if v103 = (6 : Int32) then (
    fx_ald 4 (S1.2 12) v101 (fun v112 =>
      fx_ast 4 S1 12 v101 (v112 - (1 : Int32)) (fun S113 =>
      fx_ald 4 (S113.2 12) v101 (fun v114 =>
      fx_lt (((6 : Int32) * v101) + v114) (fun x115 =>
      fx_ald 24 (S113.2 13) x115 (fun v116 =>
      fx_ald 24 (S113.2 14) x115 (fun v117 =>
      fx_b1 (f_X8_ripeness N S113 v116 v117) (fun v118 =>
      fx_ald 4 (S113.2 15) v118 (fun v119 =>
      fx_ast 4 S113 15 v118 (v119 + (1 : Int32)) (fun S120 =>
      fx_ald 4 (S120.2 15) (3 : Int32) (fun v121 =>
      fx_b1 ((if v118 = (1 : Int32) then (
      fx_ald 24 (S120.2 13) x115 (fun v127 =>
        fx_ald 6 (S120.2 10) v127 (fun v128 =>
        some v128))) else (
      some (0 : Int32))) : Option (Int32)) (fun v122 =>
      fx_ast 4 S120 15 (3 : Int32) (v121 + v122) (fun S124 =>
        fx_lt (stI S124 5 (1 : Int32)) (fun S125 =>
        some S125)))))))))))))) else (
    fx_ald 4 (S1.2 12) v101 (fun v104 =>
      fx_lt (((6 : Int32) * v101) + v104) (fun x105 =>
      fx_ald 60 (S1.2 20) x1 (fun v106 =>
      fx_ast 24 S1 13 x105 v106 (fun S107 =>
      fx_ast 24 S107 14 x105 (0 : Int32) (fun S108 =>
      fx_ald 4 (S108.2 12) v101 (fun v109 =>
      fx_ast 4 S108 12 v101 (v109 + (1 : Int32)) (fun S110 =>
      fx_lt (stI S110 5 (1 : Int32)) (fun S111 =>
      some S111)))))))))))) else (
  fx_ald 60 (S1.2 20) x1 (fun v130 =>
    fx_b1 ((if v130 = (7 : Int32) then (
    some (9 : Int32)) else (
    some (0 : Int32))) : Option (Int32)) (fun v131 =>
    fx_b1 (fx_it (lf_X8_happen_36 N) N (v131, S1)) (fun S133 =>
      some S133)))))))
set_option maxRecDepth 100000 in
set_option maxHeartbeats 4000000 in
theorem c_X8_happen (l : Launch) (g : GG) (N : Nat) (q1 : Nat → Nat) (S1 : St) (x1 : Int32) (F1 : St) (h : f_X8_happen N S1 x1 = some F1) : Cv l yX8_happen wsX8_happen RM_X8_happen g [.ref (q1 100), .int x1] (wX8 g q1 S1) (wX8 g q1 F1) := by
  intro sz
  refine Met.ofC (cc := cX8_happen) (maxL := 5) (ret := none) (by decide) rfl (Nat.le_of_ble_eq_true rfl) ?_
  intro p e s m below meth c hC hr hlk hsz A hA9 hA hP hD hS ls hl
  subst hsz
  have hC : Cx p s m ([.ref (q1 100), .int x1] : List Value).toArray c RX8 cX8_happen 5 wsX8_happen g := hC
  have hx := hC.1.1
  have hb := hC.1.2.1
  have hml := hC.1.2.2.1
  have hown := hC.1.2.2.2.1
  have hts := hC.1.2.2.2.2
  have hl : lv_has ls 5 [(0, .ref (q1 100)), (1, .int x1)] := hl
  show W p l e RM_X8_happen s m ([.ref (q1 100), .int x1] : List Value).toArray below meth c s.heap [] 0 0 (Qv below g [.ref (q1 100), .int x1] (wX8 g q1 S1) (wX8 g q1 F1) s) (F0 m 0 ls [])
  unfold f_X8_happen at h
  refine lv_aload_n hx hb dX8_happen_0 rfl (lv_at hl 0 rfl) ?_
  refine k_get (ci := 8) (k := 21) (q0 := 0) (v := .ref (q1 21)) (C := RX8) (T := TX8) (N := 46) hC uX8_happen_X8 hP rfl rfl (by decide) (List.mem_of_getElem? (i := 1) rfl) rfl dX8_happen_1 ?_
  refine lv_iload_n hx hb dX8_happen_4 rfl (lv_at hl 1 rfl) ?_
  refine k_ald (q0 := 13) (n := 60) (F := S1.2 21) hC hP rfl dX8_happen_5 h (fun v101 h => ?_)
  refine lv_istore_n (lv' := [(2, .int v101), (0, .ref (q1 100)), (1, .int x1)]) hx hb dX8_happen_6 rfl hl (by decide) rfl (fun ls hl => ?_)
  refine lv_aload_n hx hb dX8_happen_7 rfl (lv_at hl 1 rfl) ?_
  refine k_get (ci := 8) (k := 20) (q0 := 0) (v := .ref (q1 20)) (C := RX8) (T := TX8) (N := 46) hC uX8_happen_X8 hP rfl rfl (by decide) (List.mem_of_getElem? (i := 2) rfl) rfl dX8_happen_8 ?_
  refine lv_iload_n hx hb dX8_happen_11 rfl (lv_at hl 2 rfl) ?_
  refine k_ald (q0 := 12) (n := 60) (F := S1.2 20) hC hP rfl dX8_happen_12 h (fun v102 h => ?_)
  refine lv_bipush (v := (6 : Int32)) hx hb dX8_happen_13 (by decide) ?_
  refine k_icmp_le (tgt := 55) hC dX8_happen_15 (by decide) h (fun h => ?_) (fun h => ?_)
  · refine lv_aload_n hx hb dX8_happen_55 rfl (lv_at hl 1 rfl) ?_
    refine k_get (ci := 8) (k := 20) (q0 := 0) (v := .ref (q1 20)) (C := RX8) (T := TX8) (N := 46) hC uX8_happen_X8 hP rfl rfl (by decide) (List.mem_of_getElem? (i := 2) rfl) rfl dX8_happen_56 ?_
    refine lv_iload_n hx hb dX8_happen_59 rfl (lv_at hl 2 rfl) ?_
    refine k_ald (q0 := 12) (n := 60) (F := S1.2 20) hC hP rfl dX8_happen_60 h (fun v103 h => ?_)
    refine lv_bipush (v := (6 : Int32)) hx hb dX8_happen_61 (by decide) ?_
    refine k_icmp_ne (tgt := 155) hC dX8_happen_63 (by decide) h (fun h => ?_) (fun h => ?_)
    · refine lv_bipush (v := (6 : Int32)) hx hb dX8_happen_155 (by decide) ?_
      refine lv_iload_n hx hb dX8_happen_157 rfl (lv_at hl 0 rfl) ?_
      refine lv_imul hx hb dX8_happen_158 ?_
      refine lv_aload_n hx hb dX8_happen_159 rfl (lv_at hl 1 rfl) ?_
      refine k_get (ci := 8) (k := 12) (q0 := 0) (v := .ref (q1 12)) (C := RX8) (T := TX8) (N := 46) hC uX8_happen_X8 hP rfl rfl (by decide) (List.mem_of_getElem? (i := 3) rfl) rfl dX8_happen_160 ?_
      refine lv_iload_n hx hb dX8_happen_163 rfl (lv_at hl 0 rfl) ?_
      refine k_ald (q0 := 6) (n := 4) (F := S1.2 12) hC hP rfl dX8_happen_164 h (fun v104 h => ?_)
      refine lv_iadd hx hb dX8_happen_165 ?_
      refine k_topi h (fun x105 h => ?_)
      refine lv_istore_n (lv' := [(3, .int x105), (2, .int v101), (0, .ref (q1 100)), (1, .int x1)]) hx hb dX8_happen_166 rfl hl (by decide) rfl (fun ls hl => ?_)
      refine lv_aload_n hx hb dX8_happen_167 rfl (lv_at hl 2 rfl) ?_
      refine k_get (ci := 8) (k := 13) (q0 := 0) (v := .ref (q1 13)) (C := RX8) (T := TX8) (N := 46) hC uX8_happen_X8 hP rfl rfl (by decide) (List.mem_of_getElem? (i := 4) rfl) rfl dX8_happen_168 ?_
      refine lv_iload_n hx hb dX8_happen_171 rfl (lv_at hl 0 rfl) ?_
      refine lv_aload_n hx hb dX8_happen_172 rfl (lv_at hl 2 rfl) ?_
      refine k_get (ci := 8) (k := 20) (q0 := 0) (v := .ref (q1 20)) (C := RX8) (T := TX8) (N := 46) hC uX8_happen_X8 hP rfl rfl (by decide) (List.mem_of_getElem? (i := 2) rfl) rfl dX8_happen_173 ?_
      refine lv_iload_n hx hb dX8_happen_176 rfl (lv_at hl 3 rfl) ?_
      refine k_ald (q0 := 12) (n := 60) (F := S1.2 20) hC hP rfl dX8_happen_177 h (fun v106 h => ?_)
      refine k_ast (q0 := 7) (n := 24) (k := 13) (S := S1) (fun S => (wX8 g q1 S)) hC hP hD hS rfl (fun _ => rfl) dX8_happen_178 h (fun S107 h H locs hP hD hS => ?_)
      refine lv_aload_n hx hb dX8_happen_179 rfl (lv_at hl 2 rfl) ?_
      refine k_get (ci := 8) (k := 14) (q0 := 0) (v := .ref (q1 14)) (C := RX8) (T := TX8) (N := 46) hC uX8_happen_X8 hP rfl rfl (by decide) (List.mem_of_getElem? (i := 5) rfl) rfl dX8_happen_180 ?_
      refine lv_iload_n hx hb dX8_happen_183 rfl (lv_at hl 0 rfl) ?_
      refine lv_iconst (v := (0 : Int32)) hx hb dX8_happen_184 (by decide) ?_
      refine k_ast (q0 := 8) (n := 24) (k := 14) (S := S107) (fun S => (wX8 g q1 S)) hC hP hD hS rfl (fun _ => rfl) dX8_happen_185 h (fun S108 h H locs hP hD hS => ?_)
      refine lv_aload_n hx hb dX8_happen_186 rfl (lv_at hl 2 rfl) ?_
      refine k_get (ci := 8) (k := 12) (q0 := 0) (v := .ref (q1 12)) (C := RX8) (T := TX8) (N := 46) hC uX8_happen_X8 hP rfl rfl (by decide) (List.mem_of_getElem? (i := 3) rfl) rfl dX8_happen_187 ?_
      refine lv_iload_n hx hb dX8_happen_190 rfl (lv_at hl 1 rfl) ?_
      refine lv_dup2_11 hx hb dX8_happen_191 rfl rfl ?_
      refine k_ald (q0 := 6) (n := 4) (F := S108.2 12) hC hP rfl dX8_happen_192 h (fun v109 h => ?_)
      refine lv_iconst (v := (1 : Int32)) hx hb dX8_happen_193 (by decide) ?_
      refine lv_iadd hx hb dX8_happen_194 ?_
      refine k_ast (q0 := 6) (n := 4) (k := 12) (S := S108) (fun S => (wX8 g q1 S)) hC hP hD hS rfl (fun _ => rfl) dX8_happen_195 h (fun S110 h H locs hP hD hS => ?_)
      refine lv_aload_n hx hb dX8_happen_196 rfl (lv_at hl 2 rfl) ?_
      refine lv_iconst (v := (1 : Int32)) hx hb dX8_happen_197 (by decide) ?_
      refine k_put (ci := 8) (k := 5) (q0 := 0) (C := RX8) (T := TX8) (N := 46) (S2 := stI S110 5 (1 : Int32)) tyX8 (fun S => (wX8 g q1 S)) hC uX8_happen_X8 tyX8_ok nmX8 hP hD hS rfl rfl (by decide) (List.mem_of_getElem? (i := 8) rfl) rfl (tyX8_ok 5 (by decide)) (Nat.le_of_ble_eq_true rfl) dX8_happen_198 rfl h (fun S111 h H locs hP hD hS => ?_)
      obtain rfl := fx_i1 h
      exact Cv.ret hC hr hlk hA9 hP hD hS dX8_happen_201
    · refine lv_aload_n hx hb dX8_happen_66 rfl (lv_at hl 1 rfl) ?_
      refine k_get (ci := 8) (k := 12) (q0 := 0) (v := .ref (q1 12)) (C := RX8) (T := TX8) (N := 46) hC uX8_happen_X8 hP rfl rfl (by decide) (List.mem_of_getElem? (i := 3) rfl) rfl dX8_happen_67 ?_
      refine lv_iload_n hx hb dX8_happen_70 rfl (lv_at hl 0 rfl) ?_
      refine lv_dup2_11 hx hb dX8_happen_71 rfl rfl ?_
      refine k_ald (q0 := 6) (n := 4) (F := S1.2 12) hC hP rfl dX8_happen_72 h (fun v112 h => ?_)
      refine lv_iconst (v := (1 : Int32)) hx hb dX8_happen_73 (by decide) ?_
      refine lv_isub hx hb dX8_happen_74 ?_
      refine k_ast (q0 := 6) (n := 4) (k := 12) (S := S1) (fun S => (wX8 g q1 S)) hC hP hD hS rfl (fun _ => rfl) dX8_happen_75 h (fun S113 h H locs hP hD hS => ?_)
      refine lv_bipush (v := (6 : Int32)) hx hb dX8_happen_76 (by decide) ?_
      refine lv_iload_n hx hb dX8_happen_78 rfl (lv_at hl 0 rfl) ?_
      refine lv_imul hx hb dX8_happen_79 ?_
      refine lv_aload_n hx hb dX8_happen_80 rfl (lv_at hl 1 rfl) ?_
      refine k_get (ci := 8) (k := 12) (q0 := 0) (v := .ref (q1 12)) (C := RX8) (T := TX8) (N := 46) hC uX8_happen_X8 hP rfl rfl (by decide) (List.mem_of_getElem? (i := 3) rfl) rfl dX8_happen_81 ?_
      refine lv_iload_n hx hb dX8_happen_84 rfl (lv_at hl 0 rfl) ?_
      refine k_ald (q0 := 6) (n := 4) (F := S113.2 12) hC hP rfl dX8_happen_85 h (fun v114 h => ?_)
      refine lv_iadd hx hb dX8_happen_86 ?_
      refine k_topi h (fun x115 h => ?_)
      refine lv_istore_n (lv' := [(3, .int x115), (2, .int v101), (0, .ref (q1 100)), (1, .int x1)]) hx hb dX8_happen_87 rfl hl (by decide) rfl (fun ls hl => ?_)
      refine lv_aload_n hx hb dX8_happen_88 rfl (lv_at hl 2 rfl) ?_
      refine lv_aload_n hx hb dX8_happen_89 rfl (lv_at hl 2 rfl) ?_
      refine k_get (ci := 8) (k := 13) (q0 := 0) (v := .ref (q1 13)) (C := RX8) (T := TX8) (N := 46) hC uX8_happen_X8 hP rfl rfl (by decide) (List.mem_of_getElem? (i := 4) rfl) rfl dX8_happen_90 ?_
      refine lv_iload_n hx hb dX8_happen_93 rfl (lv_at hl 0 rfl) ?_
      refine k_ald (q0 := 7) (n := 24) (F := S113.2 13) hC hP rfl dX8_happen_94 h (fun v116 h => ?_)
      refine lv_aload_n hx hb dX8_happen_95 rfl (lv_at hl 2 rfl) ?_
      refine k_get (ci := 8) (k := 14) (q0 := 0) (v := .ref (q1 14)) (C := RX8) (T := TX8) (N := 46) hC uX8_happen_X8 hP rfl rfl (by decide) (List.mem_of_getElem? (i := 5) rfl) rfl dX8_happen_96 ?_
      refine lv_iload_n hx hb dX8_happen_99 rfl (lv_at hl 0 rfl) ?_
      refine k_ald (q0 := 8) (n := 24) (F := S113.2 14) hC hP rfl dX8_happen_100 h (fun v117 h => ?_)
      obtain ⟨v118, hc129, h⟩ := fx_b1_s h
      refine k_callVi0 (C := RX8) (ci := 8) (qr := 0) (n := 2) (As := [.int v116, .int v117]) (rest := []) (wc := (wX8 g q1 S113)) (bytes := cX8_ripeness) (maxL := 3) (ret := (some .int)) hC hl.1 (c_X8_ripeness l g N q1 S113 v116 v117 v118 hc129) rfl gX8_happen_X8_ripeness (by decide +kernel) rfl rfl ⟨Nat.le_of_ble_eq_true rfl, Nat.le_of_ble_eq_true rfl⟩ rfl rfl rfl (Nat.le_of_ble_eq_true rfl) ⟨Nat.le_of_ble_eq_true rfl, Nat.le_of_ble_eq_true rfl⟩ dX8_happen_101 hP hD hS hA [0, 1, 2, 3, 4, 5, 6, 7, 8, 9, 10, 11, 12, 13, 14, 15, 16, 17, 18, 19, 20, 21, 22, 23] rfl (by decide +kernel) (fun H locs hP hD hS => ?_)
      refine lv_istore (lv' := [(4, .int v118), (3, .int x115), (2, .int v101), (0, .ref (q1 100)), (1, .int x1)]) hx hb dX8_happen_104 hl (by decide) rfl (fun ls hl => ?_)
      refine lv_aload_n hx hb dX8_happen_106 rfl (lv_at hl 3 rfl) ?_
      refine k_get (ci := 8) (k := 15) (q0 := 0) (v := .ref (q1 15)) (C := RX8) (T := TX8) (N := 46) hC uX8_happen_X8 hP rfl rfl (by decide) (List.mem_of_getElem? (i := 6) rfl) rfl dX8_happen_107 ?_
      refine lv_iload hx hb dX8_happen_110 (lv_at hl 0 rfl) ?_
      refine lv_dup2_11 hx hb dX8_happen_112 rfl rfl ?_
      refine k_ald (q0 := 9) (n := 4) (F := S113.2 15) hC hP rfl dX8_happen_113 h (fun v119 h => ?_)
      refine lv_iconst (v := (1 : Int32)) hx hb dX8_happen_114 (by decide) ?_
      refine lv_iadd hx hb dX8_happen_115 ?_
      refine k_ast (q0 := 9) (n := 4) (k := 15) (S := S113) (fun S => (wX8 g q1 S)) hC hP hD hS rfl (fun _ => rfl) dX8_happen_116 h (fun S120 h H locs hP hD hS => ?_)
      refine lv_aload_n hx hb dX8_happen_117 rfl (lv_at hl 3 rfl) ?_
      refine k_get (ci := 8) (k := 15) (q0 := 0) (v := .ref (q1 15)) (C := RX8) (T := TX8) (N := 46) hC uX8_happen_X8 hP rfl rfl (by decide) (List.mem_of_getElem? (i := 6) rfl) rfl dX8_happen_118 ?_
      refine lv_iconst (v := (3 : Int32)) hx hb dX8_happen_121 (by decide) ?_
      refine lv_dup2_11 hx hb dX8_happen_122 rfl rfl ?_
      refine k_ald (q0 := 9) (n := 4) (F := S120.2 15) hC hP rfl dX8_happen_123 h (fun v121 h => ?_)
      refine lv_iload hx hb dX8_happen_124 (lv_at hl 0 rfl) ?_
      refine lv_iconst (v := (1 : Int32)) hx hb dX8_happen_126 (by decide) ?_
      obtain ⟨v122, hv123, h⟩ := fx_b1_s h
      have K126 : ∀ (H : Heap) (locs : List Loc) (ls : Array Slot), va_P g.1 vwCl (wX8 g q1 S120) H → va_D A (wX8 g q1 S120) → va_S A s.heap H locs → lv_has ls 5 [(0, .ref (q1 100))] → W p l e RM_X8_happen s m ([.ref (q1 100), .int x1] : List Value).toArray below meth c H locs 0 0 (Qv below g [.ref (q1 100), .int x1] (wX8 g q1 S1) (wX8 g q1 F1) s) (F0 m 145 ls [.int v122, .int v121, .int (3 : Int32), .ref (q1 15)]) := by
        intro H locs ls hP hD hS hl
        refine lv_iadd hx hb dX8_happen_145 ?_
        refine k_ast (q0 := 9) (n := 4) (k := 15) (S := S120) (fun S => (wX8 g q1 S)) hC hP hD hS rfl (fun _ => rfl) dX8_happen_146 h (fun S124 h H locs hP hD hS => ?_)
        refine lv_aload_n hx hb dX8_happen_147 rfl (lv_at hl 0 rfl) ?_
        refine lv_iconst (v := (1 : Int32)) hx hb dX8_happen_148 (by decide) ?_
        refine k_put (ci := 8) (k := 5) (q0 := 0) (C := RX8) (T := TX8) (N := 46) (S2 := stI S124 5 (1 : Int32)) tyX8 (fun S => (wX8 g q1 S)) hC uX8_happen_X8 tyX8_ok nmX8 hP hD hS rfl rfl (by decide) (List.mem_of_getElem? (i := 8) rfl) rfl (tyX8_ok 5 (by decide)) (Nat.le_of_ble_eq_true rfl) dX8_happen_149 rfl h (fun S125 h H locs hP hD hS => ?_)
        refine lv_goto (tgt := 201) hx hb dX8_happen_152 (by decide) ?_
        obtain rfl := fx_i1 h
        exact Cv.ret hC hr hlk hA9 hP hD hS dX8_happen_201
      refine k_icmp_ne (tgt := 144) hC dX8_happen_127 (by decide) hv123 (fun hv123 => ?_) (fun hv123 => ?_)
      · refine lv_iconst (v := (0 : Int32)) hx hb dX8_happen_144 (by decide) ?_
        obtain rfl := fx_i1 hv123
        exact K126 _ _ _ hP hD hS (lv_sub hl [3] rfl)
      · refine lv_aload_n hx hb dX8_happen_130 rfl (lv_at hl 3 rfl) ?_
        refine k_get (ci := 8) (k := 10) (q0 := 0) (v := .ref (q1 10)) (C := RX8) (T := TX8) (N := 46) hC uX8_happen_X8 hP rfl rfl (by decide) (List.mem_of_getElem? (i := 7) rfl) rfl dX8_happen_131 ?_
        refine lv_aload_n hx hb dX8_happen_134 rfl (lv_at hl 3 rfl) ?_
        refine k_get (ci := 8) (k := 13) (q0 := 0) (v := .ref (q1 13)) (C := RX8) (T := TX8) (N := 46) hC uX8_happen_X8 hP rfl rfl (by decide) (List.mem_of_getElem? (i := 4) rfl) rfl dX8_happen_135 ?_
        refine lv_iload_n hx hb dX8_happen_138 rfl (lv_at hl 1 rfl) ?_
        refine k_ald (q0 := 7) (n := 24) (F := S120.2 13) hC hP rfl dX8_happen_139 hv123 (fun v127 hv123 => ?_)
        refine k_ald (q0 := 4) (n := 6) (F := S120.2 10) hC hP rfl dX8_happen_140 hv123 (fun v128 hv123 => ?_)
        refine lv_goto (tgt := 145) hx hb dX8_happen_141 (by decide) ?_
        obtain rfl := fx_i1 hv123
        exact K126 _ _ _ hP hD hS (lv_sub hl [3] rfl)
  · refine lv_aload_n hx hb dX8_happen_18 rfl (lv_at hl 1 rfl) ?_
    refine k_get (ci := 8) (k := 20) (q0 := 0) (v := .ref (q1 20)) (C := RX8) (T := TX8) (N := 46) hC uX8_happen_X8 hP rfl rfl (by decide) (List.mem_of_getElem? (i := 2) rfl) rfl dX8_happen_19 ?_
    refine lv_iload_n hx hb dX8_happen_22 rfl (lv_at hl 2 rfl) ?_
    refine k_ald (q0 := 12) (n := 60) (F := S1.2 20) hC hP rfl dX8_happen_23 h (fun v130 h => ?_)
    refine lv_bipush (v := (7 : Int32)) hx hb dX8_happen_24 (by decide) ?_
    obtain ⟨v131, hv132, h⟩ := fx_b1_s h
    have K135 : ∀ (H : Heap) (locs : List Loc) (ls : Array Slot), va_P g.1 vwCl (wX8 g q1 S1) H → va_D A (wX8 g q1 S1) → va_S A s.heap H locs → lv_has ls 5 [(0, .ref (q1 100))] → W p l e RM_X8_happen s m ([.ref (q1 100), .int x1] : List Value).toArray below meth c H locs 0 0 (Qv below g [.ref (q1 100), .int x1] (wX8 g q1 S1) (wX8 g q1 F1) s) (F0 m 35 ls [.int v131]) := by
      intro H locs ls hP hD hS hl
      refine lv_istore_n (lv' := [(3, .int v131), (0, .ref (q1 100))]) hx hb dX8_happen_35 rfl hl (by decide) rfl (fun ls hl => ?_)
      obtain ⟨S133, ho134, h⟩ := fx_b1_s h
      refine lw_X8_happen_36 hC hA N q1 N v131 S1  S133 ho134 _ _ _ hP hD hS (lv_sub hl [1, 0] rfl) ?_
      · intro y0 he H locs ls hP hD hS hl
        obtain rfl := he
        refine lv_goto (tgt := 201) hx hb dX8_happen_52 (by decide) ?_
        obtain rfl := fx_i1 h
        exact Cv.ret hC hr hlk hA9 hP hD hS dX8_happen_201
    refine k_icmp_ne (tgt := 34) hC dX8_happen_26 (by decide) hv132 (fun hv132 => ?_) (fun hv132 => ?_)
    · refine lv_iconst (v := (0 : Int32)) hx hb dX8_happen_34 (by decide) ?_
      obtain rfl := fx_i1 hv132
      exact K135 _ _ _ hP hD hS (lv_sub hl [1] rfl)
    · refine lv_bipush (v := (9 : Int32)) hx hb dX8_happen_29 (by decide) ?_
      refine lv_goto (tgt := 35) hx hb dX8_happen_31 (by decide) ?_
      obtain rfl := fx_i1 hv132
      exact K135 _ _ _ hP hD hS (lv_sub hl [1] rfl)
theorem uX8_areFoes_X8 : ∀ w ∈ u_ws RX8 TX8 46, w ∈ wsX8_areFoes := fun w h => List.mem_cons_of_mem _ (List.mem_append_right _ h)
abbrev RM_X8_areFoes : Room := { frames := 0, cells := 0, slots := 0, locals := 0 }
def f_X8_areFoes (N : Nat) (S1 : St) (x1 : Int32) (x2 : Int32) : Option (Int32) :=
  fx_ald 24 (S1.2 13) x1 (fun v101 =>
  fx_ald 6 (S1.2 11) v101 (fun v102 =>
  fx_ald 24 (S1.2 13) x2 (fun v103 =>
  (if ((v102 >>> (v103 &&& 31)) &&& (1 : Int32)) = (1 : Int32) then (
  some (1 : Int32)) else (
  some (0 : Int32))))))
set_option maxRecDepth 100000 in
set_option maxHeartbeats 4000000 in
theorem c_X8_areFoes (l : Launch) (g : GG) (N : Nat) (q1 : Nat → Nat) (S1 : St) (x1 : Int32) (x2 : Int32) (r : Int32) (h : f_X8_areFoes N S1 x1 x2 = some r) : Ci l yX8_areFoes wsX8_areFoes RM_X8_areFoes g [.ref (q1 100), .int x1, .int x2] (wX8 g q1 S1) (wX8 g q1 S1) r := by
  intro sz
  refine Met.ofC (cc := cX8_areFoes) (maxL := 3) (ret := (some .boolean)) (by decide) rfl (Nat.le_of_ble_eq_true rfl) ?_
  intro p e s m below meth c hC hr hlk hsz A hA9 hA hP hD hS ls hl
  subst hsz
  have hC : Cx p s m ([.ref (q1 100), .int x1, .int x2] : List Value).toArray c RX8 cX8_areFoes 3 wsX8_areFoes g := hC
  have hx := hC.1.1
  have hb := hC.1.2.1
  have hml := hC.1.2.2.1
  have hown := hC.1.2.2.2.1
  have hts := hC.1.2.2.2.2
  have hl : lv_has ls 3 [(0, .ref (q1 100)), (1, .int x1), (2, .int x2)] := hl
  show W p l e RM_X8_areFoes s m ([.ref (q1 100), .int x1, .int x2] : List Value).toArray below meth c s.heap [] 0 0 (Qi below g [.ref (q1 100), .int x1, .int x2] (wX8 g q1 S1) (wX8 g q1 S1) r s) (F0 m 0 ls [])
  unfold f_X8_areFoes at h
  refine lv_aload_n hx hb dX8_areFoes_0 rfl (lv_at hl 0 rfl) ?_
  refine k_get (ci := 8) (k := 11) (q0 := 0) (v := .ref (q1 11)) (C := RX8) (T := TX8) (N := 46) hC uX8_areFoes_X8 hP rfl rfl (by decide) (List.mem_of_getElem? (i := 1) rfl) rfl dX8_areFoes_1 ?_
  refine lv_aload_n hx hb dX8_areFoes_4 rfl (lv_at hl 0 rfl) ?_
  refine k_get (ci := 8) (k := 13) (q0 := 0) (v := .ref (q1 13)) (C := RX8) (T := TX8) (N := 46) hC uX8_areFoes_X8 hP rfl rfl (by decide) (List.mem_of_getElem? (i := 2) rfl) rfl dX8_areFoes_5 ?_
  refine lv_iload_n hx hb dX8_areFoes_8 rfl (lv_at hl 1 rfl) ?_
  refine k_ald (q0 := 7) (n := 24) (F := S1.2 13) hC hP rfl dX8_areFoes_9 h (fun v101 h => ?_)
  refine k_ald (q0 := 5) (n := 6) (F := S1.2 11) hC hP rfl dX8_areFoes_10 h (fun v102 h => ?_)
  refine lv_aload_n hx hb dX8_areFoes_11 rfl (lv_at hl 0 rfl) ?_
  refine k_get (ci := 8) (k := 13) (q0 := 0) (v := .ref (q1 13)) (C := RX8) (T := TX8) (N := 46) hC uX8_areFoes_X8 hP rfl rfl (by decide) (List.mem_of_getElem? (i := 2) rfl) rfl dX8_areFoes_12 ?_
  refine lv_iload_n hx hb dX8_areFoes_15 rfl (lv_at hl 2 rfl) ?_
  refine k_ald (q0 := 7) (n := 24) (F := S1.2 13) hC hP rfl dX8_areFoes_16 h (fun v103 h => ?_)
  refine lv_ishr hx hb dX8_areFoes_17 ?_
  refine lv_iconst (v := (1 : Int32)) hx hb dX8_areFoes_18 (by decide) ?_
  refine lv_iand hx hb dX8_areFoes_19 ?_
  refine lv_iconst (v := (1 : Int32)) hx hb dX8_areFoes_20 (by decide) ?_
  refine k_icmp_ne (tgt := 28) hC dX8_areFoes_21 (by decide) h (fun h => ?_) (fun h => ?_)
  · refine lv_iconst (v := (0 : Int32)) hx hb dX8_areFoes_28 (by decide) ?_
    obtain rfl := fx_i1 h
    exact Ci.retz hC hr hlk rfl hA9 hP hD hS dX8_areFoes_29
  · refine lv_iconst (v := (1 : Int32)) hx hb dX8_areFoes_24 (by decide) ?_
    refine lv_goto (tgt := 29) hx hb dX8_areFoes_25 (by decide) ?_
    obtain rfl := fx_i1 h
    exact Ci.retz hC hr hlk rfl hA9 hP hD hS dX8_areFoes_29
theorem uX8_isSpoilt_X8 : ∀ w ∈ u_ws RX8 TX8 46, w ∈ wsX8_isSpoilt := fun w h => List.mem_cons_of_mem _ (List.mem_append_right _ h)
abbrev RM_X8_isSpoilt : Room := { frames := 1, cells := 0, slots := 0, locals := 22 }
def bd_X8_isSpoilt_14 (N : Nat) (x2 : Int32) (S1 : St) (x1 : Int32) (x3 : Int32) (rec : (Int32 × Int32) → Option (Int32)) : Option (Int32) :=
  fx_ald 4 (S1.2 12) x2 (fun v101 =>
    (if v101 ≤ x3 then (
    some x1) else (
    fx_lt (((6 : Int32) * x2) + x3) (fun x102 =>
      fx_b1 ((if x1 = 0 then (
      fx_ald 4 (S1.2 12) x2 (fun v114 =>
        (if v114 ≤ (x3 + (1 : Int32)) then (
        some (0 : Int32)) else (
        fx_b1 (f_X8_areFoes N S1 x102 (x102 + (1 : Int32))) (fun v115 =>
          (if v115 = 0 then (
          some (0 : Int32)) else (
          some (1 : Int32)))))))) else (
      some (1 : Int32))) : Option (Int32)) (fun v103 =>
      (if v103 = 0 then (
        (if (S1.1 0) ≤ (x2 + (1 : Int32)) then (
          fx_lt (x3 + (1 : Int32)) (fun x106 =>
            rec ((0 : Int32), x106))) else (
          fx_ald 4 (S1.2 12) (x2 + (1 : Int32)) (fun v107 =>
            (if v107 ≤ x3 then (
            fx_lt (x3 + (1 : Int32)) (fun x108 =>
              rec ((0 : Int32), x108))) else (
            fx_b1 (f_X8_areFoes N S1 x102 (x102 + (6 : Int32))) (fun v109 =>
              (if v109 = 0 then (
              fx_lt (x3 + (1 : Int32)) (fun x110 =>
                rec ((0 : Int32), x110))) else (
              fx_lt (x3 + (1 : Int32)) (fun x111 =>
                rec ((1 : Int32), x111))))))))))) else (
        fx_lt (x3 + (1 : Int32)) (fun x105 =>
          rec ((1 : Int32), x105)))))))))
def lf_X8_isSpoilt_14 (N : Nat) (x2 : Int32) (S1 : St) : (Int32 × Int32) → ((Int32 × Int32) → Option (Int32)) → Option (Int32) := fun x rec => bd_X8_isSpoilt_14 N x2 S1 x.1 x.2 rec
set_option maxRecDepth 100000 in
set_option maxHeartbeats 4000000 in
theorem lw_X8_isSpoilt_14 {p : Program} {l : Launch} {e : Env} {s : State} {m : MethodId} {args : Array Value} {below : List Frame} {meth : Method} {c : Code} {Q : State → Prop} {A : Nat → Prop} {H0 : Heap} {g : GG} (hC : Cx p s m args c RX8 cX8_isSpoilt 5 wsX8_isSpoilt g) (hA : ∀ q : Nat, H0.size ≤ q → A q) (N : Nat) (q1 : Nat → Nat) (x2 : Int32) (S1 : St) : ∀ (n : Nat) (x1 : Int32) (x3 : Int32) (o : Int32), fx_it (lf_X8_isSpoilt_14 N x2 S1) n (x1, x3) = some o → ∀ (H : Heap) (locs : List Loc) (ls : Array Slot), va_P g.1 vwCl (wX8 g q1 S1) H → va_D A (wX8 g q1 S1) → va_S A H0 H locs → lv_has ls 5 [(0, .ref (q1 100)), (1, .int x1), (2, .int x2), (3, .int x3)] → (∀ (z0 : Int32), o = z0 → ∀ (H : Heap) (locs : List Loc) (ls : Array Slot), va_P g.1 vwCl (wX8 g q1 S1) H → va_D A (wX8 g q1 S1) → va_S A H0 H locs → lv_has ls 5 [(0, .ref (q1 100)), (1, .int z0), (2, .int x2)] → W p l e RM_X8_isSpoilt s m args below meth c H locs 0 0 Q (F0 m 119 ls [])) → W p l e RM_X8_isSpoilt s m args below meth c H locs 0 0 Q (F0 m 14 ls []) := by
  have hx := hC.1.1
  have hb := hC.1.2.1
  have hml := hC.1.2.2.1
  have hown := hC.1.2.2.2.1
  have hts := hC.1.2.2.2.2
  intro n
  induction n with
  | zero => intro x1 x3 o h; cases h
  | succ n ih =>
    intro x1 x3 o h H locs ls hP hD hS hl k0
    have h : bd_X8_isSpoilt_14 N x2 S1 x1 x3 (fx_it (lf_X8_isSpoilt_14 N x2 S1) n) = some o := h
    unfold bd_X8_isSpoilt_14 at h
    refine lv_iload_n hx hb dX8_isSpoilt_14 rfl (lv_at hl 3 rfl) ?_
    refine lv_aload_n hx hb dX8_isSpoilt_15 rfl (lv_at hl 0 rfl) ?_
    refine k_get (ci := 8) (k := 12) (q0 := 0) (v := .ref (q1 12)) (C := RX8) (T := TX8) (N := 46) hC uX8_isSpoilt_X8 hP rfl rfl (by decide) (List.mem_of_getElem? (i := 2) rfl) rfl dX8_isSpoilt_16 ?_
    refine lv_iload_n hx hb dX8_isSpoilt_19 rfl (lv_at hl 2 rfl) ?_
    refine k_ald (q0 := 6) (n := 4) (F := S1.2 12) hC hP rfl dX8_isSpoilt_20 h (fun v101 h => ?_)
    refine k_icmp_ge (tgt := 119) hC dX8_isSpoilt_21 (by decide) h (fun h => ?_) (fun h => ?_)
    · exact k0 x1 (Option.some.inj h).symm _ _ _ hP hD hS (lv_sub hl [0, 1, 2] rfl)
    · refine lv_bipush (v := (6 : Int32)) hx hb dX8_isSpoilt_24 (by decide) ?_
      refine lv_iload_n hx hb dX8_isSpoilt_26 rfl (lv_at hl 2 rfl) ?_
      refine lv_imul hx hb dX8_isSpoilt_27 ?_
      refine lv_iload_n hx hb dX8_isSpoilt_28 rfl (lv_at hl 3 rfl) ?_
      refine lv_iadd hx hb dX8_isSpoilt_29 ?_
      refine k_topi h (fun x102 h => ?_)
      refine lv_istore (lv' := [(4, .int x102), (0, .ref (q1 100)), (1, .int x1), (2, .int x2), (3, .int x3)]) hx hb dX8_isSpoilt_30 hl (by decide) rfl (fun ls hl => ?_)
      refine lv_iload_n hx hb dX8_isSpoilt_32 rfl (lv_at hl 2 rfl) ?_
      obtain ⟨v103, hv104, h⟩ := fx_b1_s h
      have K113 : ∀ (H : Heap) (locs : List Loc) (ls : Array Slot), va_P g.1 vwCl (wX8 g q1 S1) H → va_D A (wX8 g q1 S1) → va_S A H0 H locs → lv_has ls 5 [(4, .int x102), (0, .ref (q1 100)), (2, .int x2), (3, .int x3)] → W p l e RM_X8_isSpoilt s m args below meth c H locs 0 0 Q (F0 m 66 ls [.int v103]) := by
        intro H locs ls hP hD hS hl
        refine lv_istore_n (lv' := [(1, .int v103), (4, .int x102), (0, .ref (q1 100)), (2, .int x2), (3, .int x3)]) hx hb dX8_isSpoilt_66 rfl hl (by decide) rfl (fun ls hl => ?_)
        refine lv_iload_n hx hb dX8_isSpoilt_67 rfl (lv_at hl 0 rfl) ?_
        refine k_if_ne (tgt := 107) hC dX8_isSpoilt_68 (by decide) h (fun h => ?_) (fun h => ?_)
        · refine lv_iconst (v := (1 : Int32)) hx hb dX8_isSpoilt_107 (by decide) ?_
          refine lv_goto (tgt := 112) hx hb dX8_isSpoilt_108 (by decide) ?_
          refine lv_istore_n (lv' := [(1, .int (1 : Int32)), (4, .int x102), (0, .ref (q1 100)), (2, .int x2), (3, .int x3)]) hx hb dX8_isSpoilt_112 rfl hl (by decide) rfl (fun ls hl => ?_)
          refine k_iinc (v := (1 : Int32)) (lv' := fun X => [(3, .int X), (1, .int (1 : Int32)), (4, .int x102), (0, .ref (q1 100)), (2, .int x2)]) hC dX8_isSpoilt_113 hl (k := 4) rfl (by decide) (by decide) (fun _ => rfl) h (fun x105 h ls hl => ?_)
          refine lv_goto (tgt := 14) hx hb dX8_isSpoilt_116 (by decide) ?_
          exact ih (1 : Int32) x105 o h _ _ _ hP hD hS (lv_sub hl [3, 1, 4, 0] rfl) k0
        · refine lv_iload_n hx hb dX8_isSpoilt_71 rfl (lv_at hl 3 rfl) ?_
          refine lv_iconst (v := (1 : Int32)) hx hb dX8_isSpoilt_72 (by decide) ?_
          refine lv_iadd hx hb dX8_isSpoilt_73 ?_
          refine lv_aload_n hx hb dX8_isSpoilt_74 rfl (lv_at hl 2 rfl) ?_
          refine k_get (ci := 8) (k := 0) (q0 := 0) (v := .int (S1.1 0)) (C := RX8) (T := TX8) (N := 46) hC uX8_isSpoilt_X8 hP rfl rfl (by decide) (List.mem_of_getElem? (i := 1) rfl) rfl dX8_isSpoilt_75 ?_
          refine k_icmp_ge (tgt := 111) hC dX8_isSpoilt_78 (by decide) h (fun h => ?_) (fun h => ?_)
          · refine lv_iconst (v := (0 : Int32)) hx hb dX8_isSpoilt_111 (by decide) ?_
            refine lv_istore_n (lv' := [(1, .int (0 : Int32)), (4, .int x102), (0, .ref (q1 100)), (2, .int x2), (3, .int x3)]) hx hb dX8_isSpoilt_112 rfl hl (by decide) rfl (fun ls hl => ?_)
            refine k_iinc (v := (1 : Int32)) (lv' := fun X => [(3, .int X), (1, .int (0 : Int32)), (4, .int x102), (0, .ref (q1 100)), (2, .int x2)]) hC dX8_isSpoilt_113 hl (k := 4) rfl (by decide) (by decide) (fun _ => rfl) h (fun x106 h ls hl => ?_)
            refine lv_goto (tgt := 14) hx hb dX8_isSpoilt_116 (by decide) ?_
            exact ih (0 : Int32) x106 o h _ _ _ hP hD hS (lv_sub hl [3, 1, 4, 0] rfl) k0
          · refine lv_iload_n hx hb dX8_isSpoilt_81 rfl (lv_at hl 4 rfl) ?_
            refine lv_aload_n hx hb dX8_isSpoilt_82 rfl (lv_at hl 2 rfl) ?_
            refine k_get (ci := 8) (k := 12) (q0 := 0) (v := .ref (q1 12)) (C := RX8) (T := TX8) (N := 46) hC uX8_isSpoilt_X8 hP rfl rfl (by decide) (List.mem_of_getElem? (i := 2) rfl) rfl dX8_isSpoilt_83 ?_
            refine lv_iload_n hx hb dX8_isSpoilt_86 rfl (lv_at hl 3 rfl) ?_
            refine lv_iconst (v := (1 : Int32)) hx hb dX8_isSpoilt_87 (by decide) ?_
            refine lv_iadd hx hb dX8_isSpoilt_88 ?_
            refine k_ald (q0 := 6) (n := 4) (F := S1.2 12) hC hP rfl dX8_isSpoilt_89 h (fun v107 h => ?_)
            refine k_icmp_ge (tgt := 111) hC dX8_isSpoilt_90 (by decide) h (fun h => ?_) (fun h => ?_)
            · refine lv_iconst (v := (0 : Int32)) hx hb dX8_isSpoilt_111 (by decide) ?_
              refine lv_istore_n (lv' := [(1, .int (0 : Int32)), (4, .int x102), (0, .ref (q1 100)), (2, .int x2), (3, .int x3)]) hx hb dX8_isSpoilt_112 rfl hl (by decide) rfl (fun ls hl => ?_)
              refine k_iinc (v := (1 : Int32)) (lv' := fun X => [(3, .int X), (1, .int (0 : Int32)), (4, .int x102), (0, .ref (q1 100)), (2, .int x2)]) hC dX8_isSpoilt_113 hl (k := 4) rfl (by decide) (by decide) (fun _ => rfl) h (fun x108 h ls hl => ?_)
              refine lv_goto (tgt := 14) hx hb dX8_isSpoilt_116 (by decide) ?_
              exact ih (0 : Int32) x108 o h _ _ _ hP hD hS (lv_sub hl [3, 1, 4, 0] rfl) k0
            · refine lv_aload_n hx hb dX8_isSpoilt_93 rfl (lv_at hl 2 rfl) ?_
              refine lv_iload hx hb dX8_isSpoilt_94 (lv_at hl 1 rfl) ?_
              refine lv_iload hx hb dX8_isSpoilt_96 (lv_at hl 1 rfl) ?_
              refine lv_bipush (v := (6 : Int32)) hx hb dX8_isSpoilt_98 (by decide) ?_
              refine lv_iadd hx hb dX8_isSpoilt_100 ?_
              obtain ⟨v109, hc112, h⟩ := fx_b1_s h
              refine k_callVi0 (C := RX8) (ci := 8) (qr := 0) (n := 2) (As := [.int x102, .int (x102 + (6 : Int32))]) (rest := []) (wc := (wX8 g q1 S1)) (bytes := cX8_areFoes) (maxL := 3) (ret := (some .boolean)) hC hl.1 (c_X8_areFoes l g N q1 S1 x102 (x102 + (6 : Int32)) v109 hc112) rfl gX8_isSpoilt_X8_areFoes (by decide +kernel) rfl rfl ⟨Nat.le_of_ble_eq_true rfl, Nat.le_of_ble_eq_true rfl⟩ rfl rfl rfl (Nat.le_of_ble_eq_true rfl) ⟨Nat.le_of_ble_eq_true rfl, Nat.le_of_ble_eq_true rfl⟩ dX8_isSpoilt_101 hP hD hS hA [0, 1, 2, 3, 4, 5, 6, 7, 8, 9, 10, 11, 12, 13, 14, 15, 16, 17, 18, 19, 20, 21, 22, 23] rfl (by decide +kernel) (fun H locs hP hD hS => ?_)
              refine k_if_eq (tgt := 111) hC dX8_isSpoilt_104 (by decide) h (fun h => ?_) (fun h => ?_)
              · refine lv_iconst (v := (0 : Int32)) hx hb dX8_isSpoilt_111 (by decide) ?_
                refine lv_istore_n (lv' := [(1, .int (0 : Int32)), (4, .int x102), (0, .ref (q1 100)), (2, .int x2), (3, .int x3)]) hx hb dX8_isSpoilt_112 rfl hl (by decide) rfl (fun ls hl => ?_)
                refine k_iinc (v := (1 : Int32)) (lv' := fun X => [(3, .int X), (1, .int (0 : Int32)), (4, .int x102), (0, .ref (q1 100)), (2, .int x2)]) hC dX8_isSpoilt_113 hl (k := 4) rfl (by decide) (by decide) (fun _ => rfl) h (fun x110 h ls hl => ?_)
                refine lv_goto (tgt := 14) hx hb dX8_isSpoilt_116 (by decide) ?_
                exact ih (0 : Int32) x110 o h _ _ _ hP hD hS (lv_sub hl [3, 1, 4, 0] rfl) k0
              · refine lv_iconst (v := (1 : Int32)) hx hb dX8_isSpoilt_107 (by decide) ?_
                refine lv_goto (tgt := 112) hx hb dX8_isSpoilt_108 (by decide) ?_
                refine lv_istore_n (lv' := [(1, .int (1 : Int32)), (4, .int x102), (0, .ref (q1 100)), (2, .int x2), (3, .int x3)]) hx hb dX8_isSpoilt_112 rfl hl (by decide) rfl (fun ls hl => ?_)
                refine k_iinc (v := (1 : Int32)) (lv' := fun X => [(3, .int X), (1, .int (1 : Int32)), (4, .int x102), (0, .ref (q1 100)), (2, .int x2)]) hC dX8_isSpoilt_113 hl (k := 4) rfl (by decide) (by decide) (fun _ => rfl) h (fun x111 h ls hl => ?_)
                refine lv_goto (tgt := 14) hx hb dX8_isSpoilt_116 (by decide) ?_
                exact ih (1 : Int32) x111 o h _ _ _ hP hD hS (lv_sub hl [3, 1, 4, 0] rfl) k0
      refine k_if_ne (tgt := 61) hC dX8_isSpoilt_33 (by decide) hv104 (fun hv104 => ?_) (fun hv104 => ?_)
      · refine lv_iconst (v := (1 : Int32)) hx hb dX8_isSpoilt_61 (by decide) ?_
        refine lv_goto (tgt := 66) hx hb dX8_isSpoilt_62 (by decide) ?_
        obtain rfl := fx_i1 hv104
        exact K113 _ _ _ hP hD hS (lv_sub hl [0, 1, 3, 4] rfl)
      · refine lv_iload_n hx hb dX8_isSpoilt_36 rfl (lv_at hl 4 rfl) ?_
        refine lv_iconst (v := (1 : Int32)) hx hb dX8_isSpoilt_37 (by decide) ?_
        refine lv_iadd hx hb dX8_isSpoilt_38 ?_
        refine lv_aload_n hx hb dX8_isSpoilt_39 rfl (lv_at hl 1 rfl) ?_
        refine k_get (ci := 8) (k := 12) (q0 := 0) (v := .ref (q1 12)) (C := RX8) (T := TX8) (N := 46) hC uX8_isSpoilt_X8 hP rfl rfl (by decide) (List.mem_of_getElem? (i := 2) rfl) rfl dX8_isSpoilt_40 ?_
        refine lv_iload_n hx hb dX8_isSpoilt_43 rfl (lv_at hl 3 rfl) ?_
        refine k_ald (q0 := 6) (n := 4) (F := S1.2 12) hC hP rfl dX8_isSpoilt_44 hv104 (fun v114 hv104 => ?_)
        refine k_icmp_ge (tgt := 65) hC dX8_isSpoilt_45 (by decide) hv104 (fun hv104 => ?_) (fun hv104 => ?_)
        · refine lv_iconst (v := (0 : Int32)) hx hb dX8_isSpoilt_65 (by decide) ?_
          obtain rfl := fx_i1 hv104
          exact K113 _ _ _ hP hD hS (lv_sub hl [0, 1, 3, 4] rfl)
        · refine lv_aload_n hx hb dX8_isSpoilt_48 rfl (lv_at hl 1 rfl) ?_
          refine lv_iload hx hb dX8_isSpoilt_49 (lv_at hl 0 rfl) ?_
          refine lv_iload hx hb dX8_isSpoilt_51 (lv_at hl 0 rfl) ?_
          refine lv_iconst (v := (1 : Int32)) hx hb dX8_isSpoilt_53 (by decide) ?_
          refine lv_iadd hx hb dX8_isSpoilt_54 ?_
          obtain ⟨v115, hc116, hv104⟩ := fx_b1_s hv104
          refine k_callVi0 (C := RX8) (ci := 8) (qr := 0) (n := 2) (As := [.int x102, .int (x102 + (1 : Int32))]) (rest := []) (wc := (wX8 g q1 S1)) (bytes := cX8_areFoes) (maxL := 3) (ret := (some .boolean)) hC hl.1 (c_X8_areFoes l g N q1 S1 x102 (x102 + (1 : Int32)) v115 hc116) rfl gX8_isSpoilt_X8_areFoes (by decide +kernel) rfl rfl ⟨Nat.le_of_ble_eq_true rfl, Nat.le_of_ble_eq_true rfl⟩ rfl rfl rfl (Nat.le_of_ble_eq_true rfl) ⟨Nat.le_of_ble_eq_true rfl, Nat.le_of_ble_eq_true rfl⟩ dX8_isSpoilt_55 hP hD hS hA [0, 1, 2, 3, 4, 5, 6, 7, 8, 9, 10, 11, 12, 13, 14, 15, 16, 17, 18, 19, 20, 21, 22, 23] rfl (by decide +kernel) (fun H locs hP hD hS => ?_)
          refine k_if_eq (tgt := 65) hC dX8_isSpoilt_58 (by decide) hv104 (fun hv104 => ?_) (fun hv104 => ?_)
          · refine lv_iconst (v := (0 : Int32)) hx hb dX8_isSpoilt_65 (by decide) ?_
            obtain rfl := fx_i1 hv104
            exact K113 _ _ _ hP hD hS (lv_sub hl [0, 1, 3, 4] rfl)
          · refine lv_iconst (v := (1 : Int32)) hx hb dX8_isSpoilt_61 (by decide) ?_
            refine lv_goto (tgt := 66) hx hb dX8_isSpoilt_62 (by decide) ?_
            obtain rfl := fx_i1 hv104
            exact K113 _ _ _ hP hD hS (lv_sub hl [0, 1, 3, 4] rfl)
def bd_X8_isSpoilt_4 (N : Nat) (S1 : St) (x1 : Int32) (x2 : Int32) (rec : (Int32 × Int32) → Option (Int32)) : Option (Int32) :=
  (if (S1.1 0) ≤ x2 then (
    some x1) else (
    fx_b1 (fx_it (lf_X8_isSpoilt_14 N x2 S1) N (x1, (0 : Int32))) (fun x101 =>
      fx_lt (x2 + (1 : Int32)) (fun x103 =>
        rec (x101, x103)))))
def lf_X8_isSpoilt_4 (N : Nat) (S1 : St) : (Int32 × Int32) → ((Int32 × Int32) → Option (Int32)) → Option (Int32) := fun x rec => bd_X8_isSpoilt_4 N S1 x.1 x.2 rec
set_option maxRecDepth 100000 in
set_option maxHeartbeats 4000000 in
theorem lw_X8_isSpoilt_4 {p : Program} {l : Launch} {e : Env} {s : State} {m : MethodId} {args : Array Value} {below : List Frame} {meth : Method} {c : Code} {Q : State → Prop} {A : Nat → Prop} {H0 : Heap} {g : GG} (hC : Cx p s m args c RX8 cX8_isSpoilt 5 wsX8_isSpoilt g) (hA : ∀ q : Nat, H0.size ≤ q → A q) (N : Nat) (q1 : Nat → Nat) (S1 : St) : ∀ (n : Nat) (x1 : Int32) (x2 : Int32) (o : Int32), fx_it (lf_X8_isSpoilt_4 N S1) n (x1, x2) = some o → ∀ (H : Heap) (locs : List Loc) (ls : Array Slot), va_P g.1 vwCl (wX8 g q1 S1) H → va_D A (wX8 g q1 S1) → va_S A H0 H locs → lv_has ls 5 [(0, .ref (q1 100)), (1, .int x1), (2, .int x2)] → (∀ (z0 : Int32), o = z0 → ∀ (H : Heap) (locs : List Loc) (ls : Array Slot), va_P g.1 vwCl (wX8 g q1 S1) H → va_D A (wX8 g q1 S1) → va_S A H0 H locs → lv_has ls 5 [(1, .int z0)] → W p l e RM_X8_isSpoilt s m args below meth c H locs 0 0 Q (F0 m 125 ls [])) → W p l e RM_X8_isSpoilt s m args below meth c H locs 0 0 Q (F0 m 4 ls []) := by
  have hx := hC.1.1
  have hb := hC.1.2.1
  have hml := hC.1.2.2.1
  have hown := hC.1.2.2.2.1
  have hts := hC.1.2.2.2.2
  intro n
  induction n with
  | zero => intro x1 x2 o h; cases h
  | succ n ih =>
    intro x1 x2 o h H locs ls hP hD hS hl k0
    have h : bd_X8_isSpoilt_4 N S1 x1 x2 (fx_it (lf_X8_isSpoilt_4 N S1) n) = some o := h
    unfold bd_X8_isSpoilt_4 at h
    refine lv_iload_n hx hb dX8_isSpoilt_4 rfl (lv_at hl 2 rfl) ?_
    refine lv_aload_n hx hb dX8_isSpoilt_5 rfl (lv_at hl 0 rfl) ?_
    refine k_get (ci := 8) (k := 0) (q0 := 0) (v := .int (S1.1 0)) (C := RX8) (T := TX8) (N := 46) hC uX8_isSpoilt_X8 hP rfl rfl (by decide) (List.mem_of_getElem? (i := 1) rfl) rfl dX8_isSpoilt_6 ?_
    refine k_icmp_ge (tgt := 125) hC dX8_isSpoilt_9 (by decide) h (fun h => ?_) (fun h => ?_)
    · exact k0 x1 (Option.some.inj h).symm _ _ _ hP hD hS (lv_sub hl [1] rfl)
    · refine lv_iconst (v := (0 : Int32)) hx hb dX8_isSpoilt_12 (by decide) ?_
      refine lv_istore_n (lv' := [(3, .int (0 : Int32)), (0, .ref (q1 100)), (1, .int x1), (2, .int x2)]) hx hb dX8_isSpoilt_13 rfl hl (by decide) rfl (fun ls hl => ?_)
      obtain ⟨x101, ho102, h⟩ := fx_b1_s h
      refine lw_X8_isSpoilt_14 hC hA N q1 x2 S1 N x1 (0 : Int32)  x101 ho102 _ _ _ hP hD hS (lv_sub hl [1, 2, 3, 0] rfl) ?_
      · intro y0 he H locs ls hP hD hS hl
        obtain rfl := he
        refine k_iinc (v := (1 : Int32)) (lv' := fun X => [(2, .int X), (0, .ref (q1 100)), (1, .int x101)]) hC dX8_isSpoilt_119 hl (k := 2) rfl (by decide) (by decide) (fun _ => rfl) h (fun x103 h ls hl => ?_)
        refine lv_goto (tgt := 4) hx hb dX8_isSpoilt_122 (by decide) ?_
        exact ih x101 x103 o h _ _ _ hP hD hS (lv_sub hl [1, 2, 0] rfl) k0
def f_X8_isSpoilt (N : Nat) (S1 : St) : Option (Int32) :=
  fx_b1 (fx_it (lf_X8_isSpoilt_4 N S1) N ((0 : Int32), (0 : Int32))) (fun x101 =>
  fx_bz x101 (some x101))
set_option maxRecDepth 100000 in
set_option maxHeartbeats 4000000 in
theorem c_X8_isSpoilt (l : Launch) (g : GG) (N : Nat) (q1 : Nat → Nat) (S1 : St) (r : Int32) (h : f_X8_isSpoilt N S1 = some r) : Ci l yX8_isSpoilt wsX8_isSpoilt RM_X8_isSpoilt g [.ref (q1 100)] (wX8 g q1 S1) (wX8 g q1 S1) r := by
  intro sz
  refine Met.ofC (cc := cX8_isSpoilt) (maxL := 5) (ret := (some .boolean)) (by decide) rfl (Nat.le_of_ble_eq_true rfl) ?_
  intro p e s m below meth c hC hr hlk hsz A hA9 hA hP hD hS ls hl
  subst hsz
  have hC : Cx p s m ([.ref (q1 100)] : List Value).toArray c RX8 cX8_isSpoilt 5 wsX8_isSpoilt g := hC
  have hx := hC.1.1
  have hb := hC.1.2.1
  have hml := hC.1.2.2.1
  have hown := hC.1.2.2.2.1
  have hts := hC.1.2.2.2.2
  have hl : lv_has ls 5 [(0, .ref (q1 100))] := hl
  show W p l e RM_X8_isSpoilt s m ([.ref (q1 100)] : List Value).toArray below meth c s.heap [] 0 0 (Qi below g [.ref (q1 100)] (wX8 g q1 S1) (wX8 g q1 S1) r s) (F0 m 0 ls [])
  unfold f_X8_isSpoilt at h
  refine lv_iconst (v := (0 : Int32)) hx hb dX8_isSpoilt_0 (by decide) ?_
  refine lv_istore_n (lv' := [(1, .int (0 : Int32)), (0, .ref (q1 100))]) hx hb dX8_isSpoilt_1 rfl hl (by decide) rfl (fun ls hl => ?_)
  refine lv_iconst (v := (0 : Int32)) hx hb dX8_isSpoilt_2 (by decide) ?_
  refine lv_istore_n (lv' := [(2, .int (0 : Int32)), (1, .int (0 : Int32)), (0, .ref (q1 100))]) hx hb dX8_isSpoilt_3 rfl hl (by decide) rfl (fun ls hl => ?_)
  obtain ⟨x101, ho102, h⟩ := fx_b1_s h
  refine lw_X8_isSpoilt_4 hC hA N q1 S1 N (0 : Int32) (0 : Int32)  x101 ho102 _ _ _ hP hD hS (lv_sub hl [2, 1, 0] rfl) ?_
  · intro y0 he H locs ls hP hD hS hl
    obtain rfl := he
    refine lv_iload_n hx hb dX8_isSpoilt_125 rfl (lv_at hl 0 rfl) ?_
    obtain ⟨hz, h⟩ := fx_bz_s h
    obtain rfl := fx_i1 h
    exact Ci.retz hC hr hlk hz.1 hA9 hP hD hS dX8_isSpoilt_126
theorem uX8_keepNow_X8 : ∀ w ∈ u_ws RX8 TX8 46, w ∈ wsX8_keepNow := fun w h => List.mem_cons_of_mem _ (List.mem_append_right _ h)
abbrev RM_X8_keepNow : Room := { frames := 0, cells := 0, slots := 0, locals := 0 }
def bd_X8_keepNow_2 (N : Nat) (x1 : Int32) (S1 : St) (rec : (Int32 × St) → Option (St)) : Option (St) :=
  (if (24 : Int32) ≤ x1 then (
    some S1) else (
    fx_ald 24 (S1.2 13) x1 (fun v101 =>
      fx_ast 58 S1 23 x1 v101 (fun S102 =>
      fx_ald 24 (S102.2 14) x1 (fun v103 =>
      fx_ast 58 S102 23 ((24 : Int32) + x1) v103 (fun S104 =>
      fx_lt (x1 + (1 : Int32)) (fun x105 =>
      rec (x105, S104))))))))
def lf_X8_keepNow_2 (N : Nat) : (Int32 × St) → ((Int32 × St) → Option (St)) → Option (St) := fun x rec => bd_X8_keepNow_2 N x.1 x.2 rec
set_option maxRecDepth 100000 in
set_option maxHeartbeats 4000000 in
theorem lw_X8_keepNow_2 {p : Program} {l : Launch} {e : Env} {s : State} {m : MethodId} {args : Array Value} {below : List Frame} {meth : Method} {c : Code} {Q : State → Prop} {A : Nat → Prop} {H0 : Heap} {g : GG} (hC : Cx p s m args c RX8 cX8_keepNow 2 wsX8_keepNow g) (hA : ∀ q : Nat, H0.size ≤ q → A q) (N : Nat) (q1 : Nat → Nat) : ∀ (n : Nat) (x1 : Int32) (S1 : St) (o : St), fx_it (lf_X8_keepNow_2 N) n (x1, S1) = some o → ∀ (H : Heap) (locs : List Loc) (ls : Array Slot), va_P g.1 vwCl (wX8 g q1 S1) H → va_D A (wX8 g q1 S1) → va_S A H0 H locs → lv_has ls 2 [(0, .ref (q1 100)), (1, .int x1)] → (∀ (Z0 : St), o = Z0 → ∀ (H : Heap) (locs : List Loc) (ls : Array Slot), va_P g.1 vwCl (wX8 g q1 Z0) H → va_D A (wX8 g q1 Z0) → va_S A H0 H locs → lv_has ls 2 [(0, .ref (q1 100))] → W p l e RM_X8_keepNow s m args below meth c H locs 0 0 Q (F0 m 41 ls [])) → W p l e RM_X8_keepNow s m args below meth c H locs 0 0 Q (F0 m 2 ls []) := by
  have hx := hC.1.1
  have hb := hC.1.2.1
  have hml := hC.1.2.2.1
  have hown := hC.1.2.2.2.1
  have hts := hC.1.2.2.2.2
  intro n
  induction n with
  | zero => intro x1 S1 o h; cases h
  | succ n ih =>
    intro x1 S1 o h H locs ls hP hD hS hl k0
    have h : bd_X8_keepNow_2 N x1 S1 (fx_it (lf_X8_keepNow_2 N) n) = some o := h
    unfold bd_X8_keepNow_2 at h
    refine lv_iload_n hx hb dX8_keepNow_2 rfl (lv_at hl 1 rfl) ?_
    refine lv_bipush (v := (24 : Int32)) hx hb dX8_keepNow_3 (by decide) ?_
    refine k_icmp_ge (tgt := 41) hC dX8_keepNow_5 (by decide) h (fun h => ?_) (fun h => ?_)
    · exact k0 S1 (Option.some.inj h).symm _ _ _ hP hD hS (lv_sub hl [0] rfl)
    · refine lv_aload_n hx hb dX8_keepNow_8 rfl (lv_at hl 0 rfl) ?_
      refine k_get (ci := 8) (k := 23) (q0 := 0) (v := .ref (q1 23)) (C := RX8) (T := TX8) (N := 46) hC uX8_keepNow_X8 hP rfl rfl (by decide) (List.mem_of_getElem? (i := 1) rfl) rfl dX8_keepNow_9 ?_
      refine lv_iload_n hx hb dX8_keepNow_12 rfl (lv_at hl 1 rfl) ?_
      refine lv_aload_n hx hb dX8_keepNow_13 rfl (lv_at hl 0 rfl) ?_
      refine k_get (ci := 8) (k := 13) (q0 := 0) (v := .ref (q1 13)) (C := RX8) (T := TX8) (N := 46) hC uX8_keepNow_X8 hP rfl rfl (by decide) (List.mem_of_getElem? (i := 2) rfl) rfl dX8_keepNow_14 ?_
      refine lv_iload_n hx hb dX8_keepNow_17 rfl (lv_at hl 1 rfl) ?_
      refine k_ald (q0 := 7) (n := 24) (F := S1.2 13) hC hP rfl dX8_keepNow_18 h (fun v101 h => ?_)
      refine k_ast (q0 := 14) (n := 58) (k := 23) (S := S1) (fun S => (wX8 g q1 S)) hC hP hD hS rfl (fun _ => rfl) dX8_keepNow_19 h (fun S102 h H locs hP hD hS => ?_)
      refine lv_aload_n hx hb dX8_keepNow_20 rfl (lv_at hl 0 rfl) ?_
      refine k_get (ci := 8) (k := 23) (q0 := 0) (v := .ref (q1 23)) (C := RX8) (T := TX8) (N := 46) hC uX8_keepNow_X8 hP rfl rfl (by decide) (List.mem_of_getElem? (i := 1) rfl) rfl dX8_keepNow_21 ?_
      refine lv_bipush (v := (24 : Int32)) hx hb dX8_keepNow_24 (by decide) ?_
      refine lv_iload_n hx hb dX8_keepNow_26 rfl (lv_at hl 1 rfl) ?_
      refine lv_iadd hx hb dX8_keepNow_27 ?_
      refine lv_aload_n hx hb dX8_keepNow_28 rfl (lv_at hl 0 rfl) ?_
      refine k_get (ci := 8) (k := 14) (q0 := 0) (v := .ref (q1 14)) (C := RX8) (T := TX8) (N := 46) hC uX8_keepNow_X8 hP rfl rfl (by decide) (List.mem_of_getElem? (i := 3) rfl) rfl dX8_keepNow_29 ?_
      refine lv_iload_n hx hb dX8_keepNow_32 rfl (lv_at hl 1 rfl) ?_
      refine k_ald (q0 := 8) (n := 24) (F := S102.2 14) hC hP rfl dX8_keepNow_33 h (fun v103 h => ?_)
      refine k_ast (q0 := 14) (n := 58) (k := 23) (S := S102) (fun S => (wX8 g q1 S)) hC hP hD hS rfl (fun _ => rfl) dX8_keepNow_34 h (fun S104 h H locs hP hD hS => ?_)
      refine k_iinc (v := (1 : Int32)) (lv' := fun X => [(1, .int X), (0, .ref (q1 100))]) hC dX8_keepNow_35 hl (k := 1) rfl (by decide) (by decide) (fun _ => rfl) h (fun x105 h ls hl => ?_)
      refine lv_goto (tgt := 2) hx hb dX8_keepNow_38 (by decide) ?_
      exact ih x105 S104 o h _ _ _ hP hD hS (lv_sub hl [1, 0] rfl) k0
def bd_X8_keepNow_43 (N : Nat) (x1 : Int32) (S1 : St) (rec : (Int32 × St) → Option (St)) : Option (St) :=
  (if (4 : Int32) ≤ x1 then (
    some S1) else (
    fx_ald 4 (S1.2 12) x1 (fun v101 =>
      fx_ast 58 S1 23 ((48 : Int32) + x1) v101 (fun S102 =>
      fx_ald 4 (S102.2 15) x1 (fun v103 =>
      fx_ast 58 S102 23 ((52 : Int32) + x1) v103 (fun S104 =>
      fx_lt (x1 + (1 : Int32)) (fun x105 =>
      rec (x105, S104))))))))
def lf_X8_keepNow_43 (N : Nat) : (Int32 × St) → ((Int32 × St) → Option (St)) → Option (St) := fun x rec => bd_X8_keepNow_43 N x.1 x.2 rec
set_option maxRecDepth 100000 in
set_option maxHeartbeats 4000000 in
theorem lw_X8_keepNow_43 {p : Program} {l : Launch} {e : Env} {s : State} {m : MethodId} {args : Array Value} {below : List Frame} {meth : Method} {c : Code} {Q : State → Prop} {A : Nat → Prop} {H0 : Heap} {g : GG} (hC : Cx p s m args c RX8 cX8_keepNow 2 wsX8_keepNow g) (hA : ∀ q : Nat, H0.size ≤ q → A q) (N : Nat) (q1 : Nat → Nat) : ∀ (n : Nat) (x1 : Int32) (S1 : St) (o : St), fx_it (lf_X8_keepNow_43 N) n (x1, S1) = some o → ∀ (H : Heap) (locs : List Loc) (ls : Array Slot), va_P g.1 vwCl (wX8 g q1 S1) H → va_D A (wX8 g q1 S1) → va_S A H0 H locs → lv_has ls 2 [(0, .ref (q1 100)), (1, .int x1)] → (∀ (Z0 : St), o = Z0 → ∀ (H : Heap) (locs : List Loc) (ls : Array Slot), va_P g.1 vwCl (wX8 g q1 Z0) H → va_D A (wX8 g q1 Z0) → va_S A H0 H locs → lv_has ls 2 [(0, .ref (q1 100))] → W p l e RM_X8_keepNow s m args below meth c H locs 0 0 Q (F0 m 84 ls [])) → W p l e RM_X8_keepNow s m args below meth c H locs 0 0 Q (F0 m 43 ls []) := by
  have hx := hC.1.1
  have hb := hC.1.2.1
  have hml := hC.1.2.2.1
  have hown := hC.1.2.2.2.1
  have hts := hC.1.2.2.2.2
  intro n
  induction n with
  | zero => intro x1 S1 o h; cases h
  | succ n ih =>
    intro x1 S1 o h H locs ls hP hD hS hl k0
    have h : bd_X8_keepNow_43 N x1 S1 (fx_it (lf_X8_keepNow_43 N) n) = some o := h
    unfold bd_X8_keepNow_43 at h
    refine lv_iload_n hx hb dX8_keepNow_43 rfl (lv_at hl 1 rfl) ?_
    refine lv_iconst (v := (4 : Int32)) hx hb dX8_keepNow_44 (by decide) ?_
    refine k_icmp_ge (tgt := 84) hC dX8_keepNow_45 (by decide) h (fun h => ?_) (fun h => ?_)
    · exact k0 S1 (Option.some.inj h).symm _ _ _ hP hD hS (lv_sub hl [0] rfl)
    · refine lv_aload_n hx hb dX8_keepNow_48 rfl (lv_at hl 0 rfl) ?_
      refine k_get (ci := 8) (k := 23) (q0 := 0) (v := .ref (q1 23)) (C := RX8) (T := TX8) (N := 46) hC uX8_keepNow_X8 hP rfl rfl (by decide) (List.mem_of_getElem? (i := 1) rfl) rfl dX8_keepNow_49 ?_
      refine lv_bipush (v := (48 : Int32)) hx hb dX8_keepNow_52 (by decide) ?_
      refine lv_iload_n hx hb dX8_keepNow_54 rfl (lv_at hl 1 rfl) ?_
      refine lv_iadd hx hb dX8_keepNow_55 ?_
      refine lv_aload_n hx hb dX8_keepNow_56 rfl (lv_at hl 0 rfl) ?_
      refine k_get (ci := 8) (k := 12) (q0 := 0) (v := .ref (q1 12)) (C := RX8) (T := TX8) (N := 46) hC uX8_keepNow_X8 hP rfl rfl (by decide) (List.mem_of_getElem? (i := 4) rfl) rfl dX8_keepNow_57 ?_
      refine lv_iload_n hx hb dX8_keepNow_60 rfl (lv_at hl 1 rfl) ?_
      refine k_ald (q0 := 6) (n := 4) (F := S1.2 12) hC hP rfl dX8_keepNow_61 h (fun v101 h => ?_)
      refine k_ast (q0 := 14) (n := 58) (k := 23) (S := S1) (fun S => (wX8 g q1 S)) hC hP hD hS rfl (fun _ => rfl) dX8_keepNow_62 h (fun S102 h H locs hP hD hS => ?_)
      refine lv_aload_n hx hb dX8_keepNow_63 rfl (lv_at hl 0 rfl) ?_
      refine k_get (ci := 8) (k := 23) (q0 := 0) (v := .ref (q1 23)) (C := RX8) (T := TX8) (N := 46) hC uX8_keepNow_X8 hP rfl rfl (by decide) (List.mem_of_getElem? (i := 1) rfl) rfl dX8_keepNow_64 ?_
      refine lv_bipush (v := (52 : Int32)) hx hb dX8_keepNow_67 (by decide) ?_
      refine lv_iload_n hx hb dX8_keepNow_69 rfl (lv_at hl 1 rfl) ?_
      refine lv_iadd hx hb dX8_keepNow_70 ?_
      refine lv_aload_n hx hb dX8_keepNow_71 rfl (lv_at hl 0 rfl) ?_
      refine k_get (ci := 8) (k := 15) (q0 := 0) (v := .ref (q1 15)) (C := RX8) (T := TX8) (N := 46) hC uX8_keepNow_X8 hP rfl rfl (by decide) (List.mem_of_getElem? (i := 5) rfl) rfl dX8_keepNow_72 ?_
      refine lv_iload_n hx hb dX8_keepNow_75 rfl (lv_at hl 1 rfl) ?_
      refine k_ald (q0 := 9) (n := 4) (F := S102.2 15) hC hP rfl dX8_keepNow_76 h (fun v103 h => ?_)
      refine k_ast (q0 := 14) (n := 58) (k := 23) (S := S102) (fun S => (wX8 g q1 S)) hC hP hD hS rfl (fun _ => rfl) dX8_keepNow_77 h (fun S104 h H locs hP hD hS => ?_)
      refine k_iinc (v := (1 : Int32)) (lv' := fun X => [(1, .int X), (0, .ref (q1 100))]) hC dX8_keepNow_78 hl (k := 1) rfl (by decide) (by decide) (fun _ => rfl) h (fun x105 h ls hl => ?_)
      refine lv_goto (tgt := 43) hx hb dX8_keepNow_81 (by decide) ?_
      exact ih x105 S104 o h _ _ _ hP hD hS (lv_sub hl [1, 0] rfl) k0
def f_X8_keepNow (N : Nat) (S1 : St) : Option (St) :=
  fx_b1 (fx_it (lf_X8_keepNow_2 N) N ((0 : Int32), S1)) (fun S101 =>
  fx_b1 (fx_it (lf_X8_keepNow_43 N) N ((0 : Int32), S101)) (fun S103 =>
    fx_ast 58 S103 23 (56 : Int32) (S103.1 2) (fun S105 =>
      fx_ast 58 S105 23 (57 : Int32) (S105.1 5) (fun S106 =>
      some S106))))
set_option maxRecDepth 100000 in
set_option maxHeartbeats 4000000 in
theorem c_X8_keepNow (l : Launch) (g : GG) (N : Nat) (q1 : Nat → Nat) (S1 : St) (F1 : St) (h : f_X8_keepNow N S1 = some F1) : Cv l yX8_keepNow wsX8_keepNow RM_X8_keepNow g [.ref (q1 100)] (wX8 g q1 S1) (wX8 g q1 F1) := by
  intro sz
  refine Met.ofC (cc := cX8_keepNow) (maxL := 2) (ret := none) (by decide) rfl (Nat.le_of_ble_eq_true rfl) ?_
  intro p e s m below meth c hC hr hlk hsz A hA9 hA hP hD hS ls hl
  subst hsz
  have hC : Cx p s m ([.ref (q1 100)] : List Value).toArray c RX8 cX8_keepNow 2 wsX8_keepNow g := hC
  have hx := hC.1.1
  have hb := hC.1.2.1
  have hml := hC.1.2.2.1
  have hown := hC.1.2.2.2.1
  have hts := hC.1.2.2.2.2
  have hl : lv_has ls 2 [(0, .ref (q1 100))] := hl
  show W p l e RM_X8_keepNow s m ([.ref (q1 100)] : List Value).toArray below meth c s.heap [] 0 0 (Qv below g [.ref (q1 100)] (wX8 g q1 S1) (wX8 g q1 F1) s) (F0 m 0 ls [])
  unfold f_X8_keepNow at h
  refine lv_iconst (v := (0 : Int32)) hx hb dX8_keepNow_0 (by decide) ?_
  refine lv_istore_n (lv' := [(1, .int (0 : Int32)), (0, .ref (q1 100))]) hx hb dX8_keepNow_1 rfl hl (by decide) rfl (fun ls hl => ?_)
  obtain ⟨S101, ho102, h⟩ := fx_b1_s h
  refine lw_X8_keepNow_2 hC hA N q1 N (0 : Int32) S1  S101 ho102 _ _ _ hP hD hS (lv_sub hl [1, 0] rfl) ?_
  · intro y0 he H locs ls hP hD hS hl
    obtain rfl := he
    refine lv_iconst (v := (0 : Int32)) hx hb dX8_keepNow_41 (by decide) ?_
    refine lv_istore_n (lv' := [(1, .int (0 : Int32)), (0, .ref (q1 100))]) hx hb dX8_keepNow_42 rfl hl (by decide) rfl (fun ls hl => ?_)
    obtain ⟨S103, ho104, h⟩ := fx_b1_s h
    refine lw_X8_keepNow_43 hC hA N q1 N (0 : Int32) S101  S103 ho104 _ _ _ hP hD hS (lv_sub hl [1, 0] rfl) ?_
    · intro y0 he H locs ls hP hD hS hl
      obtain rfl := he
      refine lv_aload_n hx hb dX8_keepNow_84 rfl (lv_at hl 0 rfl) ?_
      refine k_get (ci := 8) (k := 23) (q0 := 0) (v := .ref (q1 23)) (C := RX8) (T := TX8) (N := 46) hC uX8_keepNow_X8 hP rfl rfl (by decide) (List.mem_of_getElem? (i := 1) rfl) rfl dX8_keepNow_85 ?_
      refine lv_bipush (v := (56 : Int32)) hx hb dX8_keepNow_88 (by decide) ?_
      refine lv_aload_n hx hb dX8_keepNow_90 rfl (lv_at hl 0 rfl) ?_
      refine k_get (ci := 8) (k := 2) (q0 := 0) (v := .int (S103.1 2)) (C := RX8) (T := TX8) (N := 46) hC uX8_keepNow_X8 hP rfl rfl (by decide) (List.mem_of_getElem? (i := 6) rfl) rfl dX8_keepNow_91 ?_
      refine k_ast (q0 := 14) (n := 58) (k := 23) (S := S103) (fun S => (wX8 g q1 S)) hC hP hD hS rfl (fun _ => rfl) dX8_keepNow_94 h (fun S105 h H locs hP hD hS => ?_)
      refine lv_aload_n hx hb dX8_keepNow_95 rfl (lv_at hl 0 rfl) ?_
      refine k_get (ci := 8) (k := 23) (q0 := 0) (v := .ref (q1 23)) (C := RX8) (T := TX8) (N := 46) hC uX8_keepNow_X8 hP rfl rfl (by decide) (List.mem_of_getElem? (i := 1) rfl) rfl dX8_keepNow_96 ?_
      refine lv_bipush (v := (57 : Int32)) hx hb dX8_keepNow_99 (by decide) ?_
      refine lv_aload_n hx hb dX8_keepNow_101 rfl (lv_at hl 0 rfl) ?_
      refine k_get (ci := 8) (k := 5) (q0 := 0) (v := .int (S105.1 5)) (C := RX8) (T := TX8) (N := 46) hC uX8_keepNow_X8 hP rfl rfl (by decide) (List.mem_of_getElem? (i := 7) rfl) rfl dX8_keepNow_102 ?_
      refine k_ast (q0 := 14) (n := 58) (k := 23) (S := S105) (fun S => (wX8 g q1 S)) hC hP hD hS rfl (fun _ => rfl) dX8_keepNow_105 h (fun S106 h H locs hP hD hS => ?_)
      obtain rfl := fx_i1 h
      exact Cv.ret hC hr hlk hA9 hP hD hS dX8_keepNow_106
theorem uX8_putBack_X8 : ∀ w ∈ u_ws RX8 TX8 46, w ∈ wsX8_putBack := fun w h => List.mem_cons_of_mem _ (List.mem_append_right _ h)
abbrev RM_X8_putBack : Room := { frames := 0, cells := 0, slots := 0, locals := 0 }
def bd_X8_putBack_2 (N : Nat) (x1 : Int32) (S1 : St) (rec : (Int32 × St) → Option (St)) : Option (St) :=
  (if (24 : Int32) ≤ x1 then (
    some S1) else (
    fx_ald 58 (S1.2 23) x1 (fun v101 =>
      fx_ast 24 S1 13 x1 v101 (fun S102 =>
      fx_ald 58 (S102.2 23) ((24 : Int32) + x1) (fun v103 =>
      fx_ast 24 S102 14 x1 v103 (fun S104 =>
      fx_lt (x1 + (1 : Int32)) (fun x105 =>
      rec (x105, S104))))))))
def lf_X8_putBack_2 (N : Nat) : (Int32 × St) → ((Int32 × St) → Option (St)) → Option (St) := fun x rec => bd_X8_putBack_2 N x.1 x.2 rec
set_option maxRecDepth 100000 in
set_option maxHeartbeats 4000000 in
theorem lw_X8_putBack_2 {p : Program} {l : Launch} {e : Env} {s : State} {m : MethodId} {args : Array Value} {below : List Frame} {meth : Method} {c : Code} {Q : State → Prop} {A : Nat → Prop} {H0 : Heap} {g : GG} (hC : Cx p s m args c RX8 cX8_putBack 2 wsX8_putBack g) (hA : ∀ q : Nat, H0.size ≤ q → A q) (N : Nat) (q1 : Nat → Nat) : ∀ (n : Nat) (x1 : Int32) (S1 : St) (o : St), fx_it (lf_X8_putBack_2 N) n (x1, S1) = some o → ∀ (H : Heap) (locs : List Loc) (ls : Array Slot), va_P g.1 vwCl (wX8 g q1 S1) H → va_D A (wX8 g q1 S1) → va_S A H0 H locs → lv_has ls 2 [(0, .ref (q1 100)), (1, .int x1)] → (∀ (Z0 : St), o = Z0 → ∀ (H : Heap) (locs : List Loc) (ls : Array Slot), va_P g.1 vwCl (wX8 g q1 Z0) H → va_D A (wX8 g q1 Z0) → va_S A H0 H locs → lv_has ls 2 [(0, .ref (q1 100))] → W p l e RM_X8_putBack s m args below meth c H locs 0 0 Q (F0 m 41 ls [])) → W p l e RM_X8_putBack s m args below meth c H locs 0 0 Q (F0 m 2 ls []) := by
  have hx := hC.1.1
  have hb := hC.1.2.1
  have hml := hC.1.2.2.1
  have hown := hC.1.2.2.2.1
  have hts := hC.1.2.2.2.2
  intro n
  induction n with
  | zero => intro x1 S1 o h; cases h
  | succ n ih =>
    intro x1 S1 o h H locs ls hP hD hS hl k0
    have h : bd_X8_putBack_2 N x1 S1 (fx_it (lf_X8_putBack_2 N) n) = some o := h
    unfold bd_X8_putBack_2 at h
    refine lv_iload_n hx hb dX8_putBack_2 rfl (lv_at hl 1 rfl) ?_
    refine lv_bipush (v := (24 : Int32)) hx hb dX8_putBack_3 (by decide) ?_
    refine k_icmp_ge (tgt := 41) hC dX8_putBack_5 (by decide) h (fun h => ?_) (fun h => ?_)
    · exact k0 S1 (Option.some.inj h).symm _ _ _ hP hD hS (lv_sub hl [0] rfl)
    · refine lv_aload_n hx hb dX8_putBack_8 rfl (lv_at hl 0 rfl) ?_
      refine k_get (ci := 8) (k := 13) (q0 := 0) (v := .ref (q1 13)) (C := RX8) (T := TX8) (N := 46) hC uX8_putBack_X8 hP rfl rfl (by decide) (List.mem_of_getElem? (i := 1) rfl) rfl dX8_putBack_9 ?_
      refine lv_iload_n hx hb dX8_putBack_12 rfl (lv_at hl 1 rfl) ?_
      refine lv_aload_n hx hb dX8_putBack_13 rfl (lv_at hl 0 rfl) ?_
      refine k_get (ci := 8) (k := 23) (q0 := 0) (v := .ref (q1 23)) (C := RX8) (T := TX8) (N := 46) hC uX8_putBack_X8 hP rfl rfl (by decide) (List.mem_of_getElem? (i := 2) rfl) rfl dX8_putBack_14 ?_
      refine lv_iload_n hx hb dX8_putBack_17 rfl (lv_at hl 1 rfl) ?_
      refine k_ald (q0 := 14) (n := 58) (F := S1.2 23) hC hP rfl dX8_putBack_18 h (fun v101 h => ?_)
      refine k_ast (q0 := 7) (n := 24) (k := 13) (S := S1) (fun S => (wX8 g q1 S)) hC hP hD hS rfl (fun _ => rfl) dX8_putBack_19 h (fun S102 h H locs hP hD hS => ?_)
      refine lv_aload_n hx hb dX8_putBack_20 rfl (lv_at hl 0 rfl) ?_
      refine k_get (ci := 8) (k := 14) (q0 := 0) (v := .ref (q1 14)) (C := RX8) (T := TX8) (N := 46) hC uX8_putBack_X8 hP rfl rfl (by decide) (List.mem_of_getElem? (i := 3) rfl) rfl dX8_putBack_21 ?_
      refine lv_iload_n hx hb dX8_putBack_24 rfl (lv_at hl 1 rfl) ?_
      refine lv_aload_n hx hb dX8_putBack_25 rfl (lv_at hl 0 rfl) ?_
      refine k_get (ci := 8) (k := 23) (q0 := 0) (v := .ref (q1 23)) (C := RX8) (T := TX8) (N := 46) hC uX8_putBack_X8 hP rfl rfl (by decide) (List.mem_of_getElem? (i := 2) rfl) rfl dX8_putBack_26 ?_
      refine lv_bipush (v := (24 : Int32)) hx hb dX8_putBack_29 (by decide) ?_
      refine lv_iload_n hx hb dX8_putBack_31 rfl (lv_at hl 1 rfl) ?_
      refine lv_iadd hx hb dX8_putBack_32 ?_
      refine k_ald (q0 := 14) (n := 58) (F := S102.2 23) hC hP rfl dX8_putBack_33 h (fun v103 h => ?_)
      refine k_ast (q0 := 8) (n := 24) (k := 14) (S := S102) (fun S => (wX8 g q1 S)) hC hP hD hS rfl (fun _ => rfl) dX8_putBack_34 h (fun S104 h H locs hP hD hS => ?_)
      refine k_iinc (v := (1 : Int32)) (lv' := fun X => [(1, .int X), (0, .ref (q1 100))]) hC dX8_putBack_35 hl (k := 1) rfl (by decide) (by decide) (fun _ => rfl) h (fun x105 h ls hl => ?_)
      refine lv_goto (tgt := 2) hx hb dX8_putBack_38 (by decide) ?_
      exact ih x105 S104 o h _ _ _ hP hD hS (lv_sub hl [1, 0] rfl) k0
def bd_X8_putBack_43 (N : Nat) (x1 : Int32) (S1 : St) (rec : (Int32 × St) → Option (St)) : Option (St) :=
  (if (4 : Int32) ≤ x1 then (
    some S1) else (
    fx_ald 58 (S1.2 23) ((48 : Int32) + x1) (fun v101 =>
      fx_ast 4 S1 12 x1 v101 (fun S102 =>
      fx_ald 58 (S102.2 23) ((52 : Int32) + x1) (fun v103 =>
      fx_ast 4 S102 15 x1 v103 (fun S104 =>
      fx_lt (x1 + (1 : Int32)) (fun x105 =>
      rec (x105, S104))))))))
def lf_X8_putBack_43 (N : Nat) : (Int32 × St) → ((Int32 × St) → Option (St)) → Option (St) := fun x rec => bd_X8_putBack_43 N x.1 x.2 rec
set_option maxRecDepth 100000 in
set_option maxHeartbeats 4000000 in
theorem lw_X8_putBack_43 {p : Program} {l : Launch} {e : Env} {s : State} {m : MethodId} {args : Array Value} {below : List Frame} {meth : Method} {c : Code} {Q : State → Prop} {A : Nat → Prop} {H0 : Heap} {g : GG} (hC : Cx p s m args c RX8 cX8_putBack 2 wsX8_putBack g) (hA : ∀ q : Nat, H0.size ≤ q → A q) (N : Nat) (q1 : Nat → Nat) : ∀ (n : Nat) (x1 : Int32) (S1 : St) (o : St), fx_it (lf_X8_putBack_43 N) n (x1, S1) = some o → ∀ (H : Heap) (locs : List Loc) (ls : Array Slot), va_P g.1 vwCl (wX8 g q1 S1) H → va_D A (wX8 g q1 S1) → va_S A H0 H locs → lv_has ls 2 [(0, .ref (q1 100)), (1, .int x1)] → (∀ (Z0 : St), o = Z0 → ∀ (H : Heap) (locs : List Loc) (ls : Array Slot), va_P g.1 vwCl (wX8 g q1 Z0) H → va_D A (wX8 g q1 Z0) → va_S A H0 H locs → lv_has ls 2 [(0, .ref (q1 100))] → W p l e RM_X8_putBack s m args below meth c H locs 0 0 Q (F0 m 84 ls [])) → W p l e RM_X8_putBack s m args below meth c H locs 0 0 Q (F0 m 43 ls []) := by
  have hx := hC.1.1
  have hb := hC.1.2.1
  have hml := hC.1.2.2.1
  have hown := hC.1.2.2.2.1
  have hts := hC.1.2.2.2.2
  intro n
  induction n with
  | zero => intro x1 S1 o h; cases h
  | succ n ih =>
    intro x1 S1 o h H locs ls hP hD hS hl k0
    have h : bd_X8_putBack_43 N x1 S1 (fx_it (lf_X8_putBack_43 N) n) = some o := h
    unfold bd_X8_putBack_43 at h
    refine lv_iload_n hx hb dX8_putBack_43 rfl (lv_at hl 1 rfl) ?_
    refine lv_iconst (v := (4 : Int32)) hx hb dX8_putBack_44 (by decide) ?_
    refine k_icmp_ge (tgt := 84) hC dX8_putBack_45 (by decide) h (fun h => ?_) (fun h => ?_)
    · exact k0 S1 (Option.some.inj h).symm _ _ _ hP hD hS (lv_sub hl [0] rfl)
    · refine lv_aload_n hx hb dX8_putBack_48 rfl (lv_at hl 0 rfl) ?_
      refine k_get (ci := 8) (k := 12) (q0 := 0) (v := .ref (q1 12)) (C := RX8) (T := TX8) (N := 46) hC uX8_putBack_X8 hP rfl rfl (by decide) (List.mem_of_getElem? (i := 4) rfl) rfl dX8_putBack_49 ?_
      refine lv_iload_n hx hb dX8_putBack_52 rfl (lv_at hl 1 rfl) ?_
      refine lv_aload_n hx hb dX8_putBack_53 rfl (lv_at hl 0 rfl) ?_
      refine k_get (ci := 8) (k := 23) (q0 := 0) (v := .ref (q1 23)) (C := RX8) (T := TX8) (N := 46) hC uX8_putBack_X8 hP rfl rfl (by decide) (List.mem_of_getElem? (i := 2) rfl) rfl dX8_putBack_54 ?_
      refine lv_bipush (v := (48 : Int32)) hx hb dX8_putBack_57 (by decide) ?_
      refine lv_iload_n hx hb dX8_putBack_59 rfl (lv_at hl 1 rfl) ?_
      refine lv_iadd hx hb dX8_putBack_60 ?_
      refine k_ald (q0 := 14) (n := 58) (F := S1.2 23) hC hP rfl dX8_putBack_61 h (fun v101 h => ?_)
      refine k_ast (q0 := 6) (n := 4) (k := 12) (S := S1) (fun S => (wX8 g q1 S)) hC hP hD hS rfl (fun _ => rfl) dX8_putBack_62 h (fun S102 h H locs hP hD hS => ?_)
      refine lv_aload_n hx hb dX8_putBack_63 rfl (lv_at hl 0 rfl) ?_
      refine k_get (ci := 8) (k := 15) (q0 := 0) (v := .ref (q1 15)) (C := RX8) (T := TX8) (N := 46) hC uX8_putBack_X8 hP rfl rfl (by decide) (List.mem_of_getElem? (i := 5) rfl) rfl dX8_putBack_64 ?_
      refine lv_iload_n hx hb dX8_putBack_67 rfl (lv_at hl 1 rfl) ?_
      refine lv_aload_n hx hb dX8_putBack_68 rfl (lv_at hl 0 rfl) ?_
      refine k_get (ci := 8) (k := 23) (q0 := 0) (v := .ref (q1 23)) (C := RX8) (T := TX8) (N := 46) hC uX8_putBack_X8 hP rfl rfl (by decide) (List.mem_of_getElem? (i := 2) rfl) rfl dX8_putBack_69 ?_
      refine lv_bipush (v := (52 : Int32)) hx hb dX8_putBack_72 (by decide) ?_
      refine lv_iload_n hx hb dX8_putBack_74 rfl (lv_at hl 1 rfl) ?_
      refine lv_iadd hx hb dX8_putBack_75 ?_
      refine k_ald (q0 := 14) (n := 58) (F := S102.2 23) hC hP rfl dX8_putBack_76 h (fun v103 h => ?_)
      refine k_ast (q0 := 9) (n := 4) (k := 15) (S := S102) (fun S => (wX8 g q1 S)) hC hP hD hS rfl (fun _ => rfl) dX8_putBack_77 h (fun S104 h H locs hP hD hS => ?_)
      refine k_iinc (v := (1 : Int32)) (lv' := fun X => [(1, .int X), (0, .ref (q1 100))]) hC dX8_putBack_78 hl (k := 1) rfl (by decide) (by decide) (fun _ => rfl) h (fun x105 h ls hl => ?_)
      refine lv_goto (tgt := 43) hx hb dX8_putBack_81 (by decide) ?_
      exact ih x105 S104 o h _ _ _ hP hD hS (lv_sub hl [1, 0] rfl) k0
def f_X8_putBack (N : Nat) (S1 : St) : Option (St) :=
  fx_b1 (fx_it (lf_X8_putBack_2 N) N ((0 : Int32), S1)) (fun S101 =>
  fx_b1 (fx_it (lf_X8_putBack_43 N) N ((0 : Int32), S101)) (fun S103 =>
    fx_ald 58 (S103.2 23) (56 : Int32) (fun v105 =>
      fx_lt (stI S103 2 v105) (fun S106 =>
      fx_ald 58 (S106.2 23) (57 : Int32) (fun v107 =>
      fx_lt (stI S106 5 v107) (fun S108 =>
      some S108))))))
set_option maxRecDepth 100000 in
set_option maxHeartbeats 4000000 in
theorem c_X8_putBack (l : Launch) (g : GG) (N : Nat) (q1 : Nat → Nat) (S1 : St) (F1 : St) (h : f_X8_putBack N S1 = some F1) : Cv l yX8_putBack wsX8_putBack RM_X8_putBack g [.ref (q1 100)] (wX8 g q1 S1) (wX8 g q1 F1) := by
  intro sz
  refine Met.ofC (cc := cX8_putBack) (maxL := 2) (ret := none) (by decide) rfl (Nat.le_of_ble_eq_true rfl) ?_
  intro p e s m below meth c hC hr hlk hsz A hA9 hA hP hD hS ls hl
  subst hsz
  have hC : Cx p s m ([.ref (q1 100)] : List Value).toArray c RX8 cX8_putBack 2 wsX8_putBack g := hC
  have hx := hC.1.1
  have hb := hC.1.2.1
  have hml := hC.1.2.2.1
  have hown := hC.1.2.2.2.1
  have hts := hC.1.2.2.2.2
  have hl : lv_has ls 2 [(0, .ref (q1 100))] := hl
  show W p l e RM_X8_putBack s m ([.ref (q1 100)] : List Value).toArray below meth c s.heap [] 0 0 (Qv below g [.ref (q1 100)] (wX8 g q1 S1) (wX8 g q1 F1) s) (F0 m 0 ls [])
  unfold f_X8_putBack at h
  refine lv_iconst (v := (0 : Int32)) hx hb dX8_putBack_0 (by decide) ?_
  refine lv_istore_n (lv' := [(1, .int (0 : Int32)), (0, .ref (q1 100))]) hx hb dX8_putBack_1 rfl hl (by decide) rfl (fun ls hl => ?_)
  obtain ⟨S101, ho102, h⟩ := fx_b1_s h
  refine lw_X8_putBack_2 hC hA N q1 N (0 : Int32) S1  S101 ho102 _ _ _ hP hD hS (lv_sub hl [1, 0] rfl) ?_
  · intro y0 he H locs ls hP hD hS hl
    obtain rfl := he
    refine lv_iconst (v := (0 : Int32)) hx hb dX8_putBack_41 (by decide) ?_
    refine lv_istore_n (lv' := [(1, .int (0 : Int32)), (0, .ref (q1 100))]) hx hb dX8_putBack_42 rfl hl (by decide) rfl (fun ls hl => ?_)
    obtain ⟨S103, ho104, h⟩ := fx_b1_s h
    refine lw_X8_putBack_43 hC hA N q1 N (0 : Int32) S101  S103 ho104 _ _ _ hP hD hS (lv_sub hl [1, 0] rfl) ?_
    · intro y0 he H locs ls hP hD hS hl
      obtain rfl := he
      refine lv_aload_n hx hb dX8_putBack_84 rfl (lv_at hl 0 rfl) ?_
      refine lv_aload_n hx hb dX8_putBack_85 rfl (lv_at hl 0 rfl) ?_
      refine k_get (ci := 8) (k := 23) (q0 := 0) (v := .ref (q1 23)) (C := RX8) (T := TX8) (N := 46) hC uX8_putBack_X8 hP rfl rfl (by decide) (List.mem_of_getElem? (i := 2) rfl) rfl dX8_putBack_86 ?_
      refine lv_bipush (v := (56 : Int32)) hx hb dX8_putBack_89 (by decide) ?_
      refine k_ald (q0 := 14) (n := 58) (F := S103.2 23) hC hP rfl dX8_putBack_91 h (fun v105 h => ?_)
      refine k_put (ci := 8) (k := 2) (q0 := 0) (C := RX8) (T := TX8) (N := 46) (S2 := stI S103 2 v105) tyX8 (fun S => (wX8 g q1 S)) hC uX8_putBack_X8 tyX8_ok nmX8 hP hD hS rfl rfl (by decide) (List.mem_of_getElem? (i := 6) rfl) rfl (tyX8_ok 2 (by decide)) (Nat.le_of_ble_eq_true rfl) dX8_putBack_92 rfl h (fun S106 h H locs hP hD hS => ?_)
      refine lv_aload_n hx hb dX8_putBack_95 rfl (lv_at hl 0 rfl) ?_
      refine lv_aload_n hx hb dX8_putBack_96 rfl (lv_at hl 0 rfl) ?_
      refine k_get (ci := 8) (k := 23) (q0 := 0) (v := .ref (q1 23)) (C := RX8) (T := TX8) (N := 46) hC uX8_putBack_X8 hP rfl rfl (by decide) (List.mem_of_getElem? (i := 2) rfl) rfl dX8_putBack_97 ?_
      refine lv_bipush (v := (57 : Int32)) hx hb dX8_putBack_100 (by decide) ?_
      refine k_ald (q0 := 14) (n := 58) (F := S106.2 23) hC hP rfl dX8_putBack_102 h (fun v107 h => ?_)
      refine k_put (ci := 8) (k := 5) (q0 := 0) (C := RX8) (T := TX8) (N := 46) (S2 := stI S106 5 v107) tyX8 (fun S => (wX8 g q1 S)) hC uX8_putBack_X8 tyX8_ok nmX8 hP hD hS rfl rfl (by decide) (List.mem_of_getElem? (i := 7) rfl) rfl (tyX8_ok 5 (by decide)) (Nat.le_of_ble_eq_true rfl) dX8_putBack_103 rfl h (fun S108 h H locs hP hD hS => ?_)
      obtain rfl := fx_i1 h
      exact Cv.ret hC hr hlk hA9 hP hD hS dX8_putBack_106
theorem uX8_goDay_X8 : ∀ w ∈ u_ws RX8 TX8 46, w ∈ wsX8_goDay := fun w h => List.mem_cons_of_mem _ (List.mem_append_right _ h)
abbrev RM_X8_goDay : Room := { frames := 4, cells := 0, slots := 0, locals := 88 }
def bd_X8_goDay_20 (N : Nat) (x1 : Int32) (S1 : St) (rec : (Int32 × St) → Option (St)) : Option (St) :=
  (if (S1.1 22) ≤ x1 then (
    some S1) else (
    (if 0 ≤ (S1.1 24) then (
      some S1) else (
      fx_b1 (f_X8_whyNot N S1 x1) (fun v101 =>
        fx_b1 ((if v101 ≤ 0 then (
        some (-6 : Int32)) else (
        some x1)) : Option (Int32)) (fun v102 =>
        fx_lt (stI S1 24 v102) (fun S104 =>
          fx_b1 ((if v101 ≤ 0 then (
          some (-6 : Int32)) else (
          some v101)) : Option (Int32)) (fun v105 =>
          fx_lt (stI S104 25 v105) (fun S107 =>
            (if v101 = 0 then (
            fx_b1 (f_X8_happen N S107 x1) (fun S109 =>
              fx_b1 ((if 0 ≤ (S109.1 26) then (
              some (S109.1 26)) else (
              fx_b1 (f_X8_isSpoilt N S109) (fun v115 =>
                (if v115 = 0 then (
                some (S109.1 26)) else (
                some x1))))) : Option (Int32)) (fun v110 =>
              fx_lt (stI S109 26 v110) (fun S112 =>
                fx_lt (x1 + (1 : Int32)) (fun x113 =>
                rec (x113, S112)))))) else (
            fx_lt (x1 + (1 : Int32)) (fun x108 =>
              rec (x108, S107)))))))))))))
def lf_X8_goDay_20 (N : Nat) : (Int32 × St) → ((Int32 × St) → Option (St)) → Option (St) := fun x rec => bd_X8_goDay_20 N x.1 x.2 rec
set_option maxRecDepth 100000 in
set_option maxHeartbeats 4000000 in
theorem lw_X8_goDay_20 {p : Program} {l : Launch} {e : Env} {s : State} {m : MethodId} {args : Array Value} {below : List Frame} {meth : Method} {c : Code} {Q : State → Prop} {A : Nat → Prop} {H0 : Heap} {g : GG} (hC : Cx p s m args c RX8 cX8_goDay 3 wsX8_goDay g) (hA : ∀ q : Nat, H0.size ≤ q → A q) (N : Nat) (q1 : Nat → Nat) : ∀ (n : Nat) (x1 : Int32) (S1 : St) (o : St), fx_it (lf_X8_goDay_20 N) n (x1, S1) = some o → ∀ (H : Heap) (locs : List Loc) (ls : Array Slot), va_P g.1 vwCl (wX8 g q1 S1) H → va_D A (wX8 g q1 S1) → va_S A H0 H locs → lv_has ls 3 [(0, .ref (q1 100)), (1, .int x1)] → (∀ (Z0 : St), o = Z0 → ∀ (H : Heap) (locs : List Loc) (ls : Array Slot), va_P g.1 vwCl (wX8 g q1 Z0) H → va_D A (wX8 g q1 Z0) → va_S A H0 H locs → lv_has ls 3 [] → W p l e RM_X8_goDay s m args below meth c H locs 0 0 Q (F0 m 110 ls [])) → W p l e RM_X8_goDay s m args below meth c H locs 0 0 Q (F0 m 20 ls []) := by
  have hx := hC.1.1
  have hb := hC.1.2.1
  have hml := hC.1.2.2.1
  have hown := hC.1.2.2.2.1
  have hts := hC.1.2.2.2.2
  intro n
  induction n with
  | zero => intro x1 S1 o h; cases h
  | succ n ih =>
    intro x1 S1 o h H locs ls hP hD hS hl k0
    have h : bd_X8_goDay_20 N x1 S1 (fx_it (lf_X8_goDay_20 N) n) = some o := h
    unfold bd_X8_goDay_20 at h
    refine lv_iload_n hx hb dX8_goDay_20 rfl (lv_at hl 1 rfl) ?_
    refine lv_aload_n hx hb dX8_goDay_21 rfl (lv_at hl 0 rfl) ?_
    refine k_get (ci := 8) (k := 22) (q0 := 0) (v := .int (S1.1 22)) (C := RX8) (T := TX8) (N := 46) hC uX8_goDay_X8 hP rfl rfl (by decide) (List.mem_of_getElem? (i := 4) rfl) rfl dX8_goDay_22 ?_
    refine k_icmp_ge (tgt := 110) hC dX8_goDay_25 (by decide) h (fun h => ?_) (fun h => ?_)
    · exact k0 S1 (Option.some.inj h).symm _ _ _ hP hD hS (lv_sub hl [] rfl)
    · refine lv_aload_n hx hb dX8_goDay_28 rfl (lv_at hl 0 rfl) ?_
      refine k_get (ci := 8) (k := 24) (q0 := 0) (v := .int (S1.1 24)) (C := RX8) (T := TX8) (N := 46) hC uX8_goDay_X8 hP rfl rfl (by decide) (List.mem_of_getElem? (i := 1) rfl) rfl dX8_goDay_29 ?_
      refine k_if_ge (tgt := 110) hC dX8_goDay_32 (by decide) h (fun h => ?_) (fun h => ?_)
      · exact k0 S1 (Option.some.inj h).symm _ _ _ hP hD hS (lv_sub hl [] rfl)
      · refine lv_aload_n hx hb dX8_goDay_35 rfl (lv_at hl 0 rfl) ?_
        refine lv_iload_n hx hb dX8_goDay_36 rfl (lv_at hl 1 rfl) ?_
        obtain ⟨v101, hc120, h⟩ := fx_b1_s h
        refine k_callVi0 (C := RX8) (ci := 8) (qr := 0) (n := 1) (As := [.int x1]) (rest := []) (wc := (wX8 g q1 S1)) (bytes := cX8_whyNot) (maxL := 3) (ret := (some .int)) hC hl.1 (c_X8_whyNot l g N q1 S1 x1 v101 hc120) rfl gX8_goDay_X8_whyNot (by decide +kernel) rfl rfl ⟨Nat.le_of_ble_eq_true rfl, Nat.le_of_ble_eq_true rfl⟩ rfl rfl rfl (Nat.le_of_ble_eq_true rfl) ⟨Nat.le_of_ble_eq_true rfl, Nat.le_of_ble_eq_true rfl⟩ dX8_goDay_37 hP hD hS hA [0, 1, 2, 3, 4, 5, 6, 7, 8, 9, 10, 11, 12, 13, 14, 15, 16, 17, 18, 19, 20, 21, 22, 23] rfl (by decide +kernel) (fun H locs hP hD hS => ?_)
        refine lv_istore_n (lv' := [(2, .int v101), (0, .ref (q1 100)), (1, .int x1)]) hx hb dX8_goDay_40 rfl hl (by decide) rfl (fun ls hl => ?_)
        refine lv_aload_n hx hb dX8_goDay_41 rfl (lv_at hl 1 rfl) ?_
        refine lv_iload_n hx hb dX8_goDay_42 rfl (lv_at hl 0 rfl) ?_
        obtain ⟨v102, hv103, h⟩ := fx_b1_s h
        have K119 : ∀ (H : Heap) (locs : List Loc) (ls : Array Slot), va_P g.1 vwCl (wX8 g q1 S1) H → va_D A (wX8 g q1 S1) → va_S A H0 H locs → lv_has ls 3 [(2, .int v101), (0, .ref (q1 100)), (1, .int x1)] → W p l e RM_X8_goDay s m args below meth c H locs 0 0 Q (F0 m 52 ls [.int v102, .ref (q1 100)]) := by
          intro H locs ls hP hD hS hl
          refine k_put (ci := 8) (k := 24) (q0 := 0) (C := RX8) (T := TX8) (N := 46) (S2 := stI S1 24 v102) tyX8 (fun S => (wX8 g q1 S)) hC uX8_goDay_X8 tyX8_ok nmX8 hP hD hS rfl rfl (by decide) (List.mem_of_getElem? (i := 1) rfl) rfl (tyX8_ok 24 (by decide)) (Nat.le_of_ble_eq_true rfl) dX8_goDay_52 rfl h (fun S104 h H locs hP hD hS => ?_)
          refine lv_aload_n hx hb dX8_goDay_55 rfl (lv_at hl 1 rfl) ?_
          refine lv_iload_n hx hb dX8_goDay_56 rfl (lv_at hl 0 rfl) ?_
          obtain ⟨v105, hv106, h⟩ := fx_b1_s h
          have K118 : ∀ (H : Heap) (locs : List Loc) (ls : Array Slot), va_P g.1 vwCl (wX8 g q1 S104) H → va_D A (wX8 g q1 S104) → va_S A H0 H locs → lv_has ls 3 [(2, .int v101), (0, .ref (q1 100)), (1, .int x1)] → W p l e RM_X8_goDay s m args below meth c H locs 0 0 Q (F0 m 66 ls [.int v105, .ref (q1 100)]) := by
            intro H locs ls hP hD hS hl
            refine k_put (ci := 8) (k := 25) (q0 := 0) (C := RX8) (T := TX8) (N := 46) (S2 := stI S104 25 v105) tyX8 (fun S => (wX8 g q1 S)) hC uX8_goDay_X8 tyX8_ok nmX8 hP hD hS rfl rfl (by decide) (List.mem_of_getElem? (i := 2) rfl) rfl (tyX8_ok 25 (by decide)) (Nat.le_of_ble_eq_true rfl) dX8_goDay_66 rfl h (fun S107 h H locs hP hD hS => ?_)
            refine lv_iload_n hx hb dX8_goDay_69 rfl (lv_at hl 0 rfl) ?_
            refine k_if_ne (tgt := 104) hC dX8_goDay_70 (by decide) h (fun h => ?_) (fun h => ?_)
            · refine k_iinc (v := (1 : Int32)) (lv' := fun X => [(1, .int X), (2, .int v101), (0, .ref (q1 100))]) hC dX8_goDay_104 hl (k := 2) rfl (by decide) (by decide) (fun _ => rfl) h (fun x108 h ls hl => ?_)
              refine lv_goto (tgt := 20) hx hb dX8_goDay_107 (by decide) ?_
              exact ih x108 S107 o h _ _ _ hP hD hS (lv_sub hl [2, 0] rfl) k0
            · refine lv_aload_n hx hb dX8_goDay_73 rfl (lv_at hl 1 rfl) ?_
              refine lv_iload_n hx hb dX8_goDay_74 rfl (lv_at hl 2 rfl) ?_
              obtain ⟨S109, hc117, h⟩ := fx_b1_s h
              refine k_callVv (C := RX8) (ci := 8) (qr := 0) (n := 1) (As := [.int x1]) (rest := []) (wc := (wX8 g q1 S107)) (w1 := (wX8 g q1 S109)) (ws2 := (wX8 g q1 S109)) (bytes := cX8_happen) (maxL := 5) (ret := none) hC hl.1 (c_X8_happen l g N q1 S107 x1 S109 hc117) rfl gX8_goDay_X8_happen (by decide +kernel) rfl rfl ⟨Nat.le_of_ble_eq_true rfl, Nat.le_of_ble_eq_true rfl⟩ rfl rfl rfl (Nat.le_of_ble_eq_true rfl) ⟨Nat.le_of_ble_eq_true rfl, Nat.le_of_ble_eq_true rfl⟩ dX8_goDay_75 hP hD hS hA [0, 1, 2, 3, 4, 5, 6, 7, 8, 9, 10, 11, 12, 13, 14, 15, 16, 17, 18, 19, 20, 21, 22, 23] rfl (by decide +kernel) [q1 100, q1 6, q1 8, q1 9, q1 10, q1 11, q1 12, q1 13, q1 14, q1 15, q1 16, q1 18, q1 20, q1 21, q1 23, q1 27, q1 30, q1 32, q1 33, q1 34, q1 39, q1 41, q1 42, q1 43] rfl rfl rfl [] ([] : va_W) rfl rfl (n2 := 24) rfl (by decide +kernel) (fun H locs hP hD hS => ?_)
              refine lv_aload_n hx hb dX8_goDay_78 rfl (lv_at hl 1 rfl) ?_
              refine lv_aload_n hx hb dX8_goDay_79 rfl (lv_at hl 1 rfl) ?_
              refine k_get (ci := 8) (k := 26) (q0 := 0) (v := .int (S109.1 26)) (C := RX8) (T := TX8) (N := 46) hC uX8_goDay_X8 hP rfl rfl (by decide) (List.mem_of_getElem? (i := 3) rfl) rfl dX8_goDay_80 ?_
              obtain ⟨v110, hv111, h⟩ := fx_b1_s h
              have K114 : ∀ (H : Heap) (locs : List Loc) (ls : Array Slot), va_P g.1 vwCl (wX8 g q1 S109) H → va_D A (wX8 g q1 S109) → va_S A H0 H locs → lv_has ls 3 [(0, .ref (q1 100)), (1, .int x1)] → W p l e RM_X8_goDay s m args below meth c H locs 0 0 Q (F0 m 101 ls [.int v110, .ref (q1 100)]) := by
                intro H locs ls hP hD hS hl
                refine k_put (ci := 8) (k := 26) (q0 := 0) (C := RX8) (T := TX8) (N := 46) (S2 := stI S109 26 v110) tyX8 (fun S => (wX8 g q1 S)) hC uX8_goDay_X8 tyX8_ok nmX8 hP hD hS rfl rfl (by decide) (List.mem_of_getElem? (i := 3) rfl) rfl (tyX8_ok 26 (by decide)) (Nat.le_of_ble_eq_true rfl) dX8_goDay_101 rfl h (fun S112 h H locs hP hD hS => ?_)
                refine k_iinc (v := (1 : Int32)) (lv' := fun X => [(1, .int X), (0, .ref (q1 100))]) hC dX8_goDay_104 hl (k := 1) rfl (by decide) (by decide) (fun _ => rfl) h (fun x113 h ls hl => ?_)
                refine lv_goto (tgt := 20) hx hb dX8_goDay_107 (by decide) ?_
                exact ih x113 S112 o h _ _ _ hP hD hS (lv_sub hl [1, 0] rfl) k0
              refine k_if_ge (tgt := 97) hC dX8_goDay_83 (by decide) hv111 (fun hv111 => ?_) (fun hv111 => ?_)
              · refine lv_aload_n hx hb dX8_goDay_97 rfl (lv_at hl 1 rfl) ?_
                refine k_get (ci := 8) (k := 26) (q0 := 0) (v := .int (S109.1 26)) (C := RX8) (T := TX8) (N := 46) hC uX8_goDay_X8 hP rfl rfl (by decide) (List.mem_of_getElem? (i := 3) rfl) rfl dX8_goDay_98 ?_
                obtain rfl := fx_i1 hv111
                exact K114 _ _ _ hP hD hS (lv_sub hl [1, 2] rfl)
              · refine lv_aload_n hx hb dX8_goDay_86 rfl (lv_at hl 1 rfl) ?_
                obtain ⟨v115, hc116, hv111⟩ := fx_b1_s hv111
                refine k_callVi0 (C := RX8) (ci := 8) (qr := 0) (n := 0) (As := []) (rest := [.ref (q1 100)]) (wc := (wX8 g q1 S109)) (bytes := cX8_isSpoilt) (maxL := 5) (ret := (some .boolean)) hC hl.1 (c_X8_isSpoilt l g N q1 S109 v115 hc116) rfl gX8_goDay_X8_isSpoilt (by decide +kernel) rfl rfl ⟨Nat.le_of_ble_eq_true rfl, Nat.le_of_ble_eq_true rfl⟩ rfl rfl rfl (Nat.le_of_ble_eq_true rfl) ⟨Nat.le_of_ble_eq_true rfl, Nat.le_of_ble_eq_true rfl⟩ dX8_goDay_87 hP hD hS hA [0, 1, 2, 3, 4, 5, 6, 7, 8, 9, 10, 11, 12, 13, 14, 15, 16, 17, 18, 19, 20, 21, 22, 23] rfl (by decide +kernel) (fun H locs hP hD hS => ?_)
                refine k_if_eq (tgt := 97) hC dX8_goDay_90 (by decide) hv111 (fun hv111 => ?_) (fun hv111 => ?_)
                · refine lv_aload_n hx hb dX8_goDay_97 rfl (lv_at hl 1 rfl) ?_
                  refine k_get (ci := 8) (k := 26) (q0 := 0) (v := .int (S109.1 26)) (C := RX8) (T := TX8) (N := 46) hC uX8_goDay_X8 hP rfl rfl (by decide) (List.mem_of_getElem? (i := 3) rfl) rfl dX8_goDay_98 ?_
                  obtain rfl := fx_i1 hv111
                  exact K114 _ _ _ hP hD hS (lv_sub hl [1, 2] rfl)
                · refine lv_iload_n hx hb dX8_goDay_93 rfl (lv_at hl 2 rfl) ?_
                  refine lv_goto (tgt := 101) hx hb dX8_goDay_94 (by decide) ?_
                  obtain rfl := fx_i1 hv111
                  exact K114 _ _ _ hP hD hS (lv_sub hl [1, 2] rfl)
          refine k_if_le (tgt := 64) hC dX8_goDay_57 (by decide) hv106 (fun hv106 => ?_) (fun hv106 => ?_)
          · refine lv_bipush (v := (-6 : Int32)) hx hb dX8_goDay_64 (by decide) ?_
            obtain rfl := fx_i1 hv106
            exact K118 _ _ _ hP hD hS (lv_sub hl [0, 1, 2] rfl)
          · refine lv_iload_n hx hb dX8_goDay_60 rfl (lv_at hl 0 rfl) ?_
            refine lv_goto (tgt := 66) hx hb dX8_goDay_61 (by decide) ?_
            obtain rfl := fx_i1 hv106
            exact K118 _ _ _ hP hD hS (lv_sub hl [0, 1, 2] rfl)
        refine k_if_le (tgt := 50) hC dX8_goDay_43 (by decide) hv103 (fun hv103 => ?_) (fun hv103 => ?_)
        · refine lv_bipush (v := (-6 : Int32)) hx hb dX8_goDay_50 (by decide) ?_
          obtain rfl := fx_i1 hv103
          exact K119 _ _ _ hP hD hS (lv_sub hl [0, 1, 2] rfl)
        · refine lv_iload_n hx hb dX8_goDay_46 rfl (lv_at hl 2 rfl) ?_
          refine lv_goto (tgt := 52) hx hb dX8_goDay_47 (by decide) ?_
          obtain rfl := fx_i1 hv103
          exact K119 _ _ _ hP hD hS (lv_sub hl [0, 1, 2] rfl)
def f_X8_goDay (N : Nat) (S1 : St) : Option (St) :=
  fx_lt (stI S1 24 (-6 : Int32)) (fun S101 =>
  fx_lt (stI S101 25 (-6 : Int32)) (fun S102 =>
  fx_lt (stI S102 26 (-6 : Int32)) (fun S103 =>
  fx_b1 (fx_it (lf_X8_goDay_20 N) N ((0 : Int32), S103)) (fun S104 =>
  some S104))))
set_option maxRecDepth 100000 in
set_option maxHeartbeats 4000000 in
theorem c_X8_goDay (l : Launch) (g : GG) (N : Nat) (q1 : Nat → Nat) (S1 : St) (F1 : St) (h : f_X8_goDay N S1 = some F1) : Cv l yX8_goDay wsX8_goDay RM_X8_goDay g [.ref (q1 100)] (wX8 g q1 S1) (wX8 g q1 F1) := by
  intro sz
  refine Met.ofC (cc := cX8_goDay) (maxL := 3) (ret := none) (by decide) rfl (Nat.le_of_ble_eq_true rfl) ?_
  intro p e s m below meth c hC hr hlk hsz A hA9 hA hP hD hS ls hl
  subst hsz
  have hC : Cx p s m ([.ref (q1 100)] : List Value).toArray c RX8 cX8_goDay 3 wsX8_goDay g := hC
  have hx := hC.1.1
  have hb := hC.1.2.1
  have hml := hC.1.2.2.1
  have hown := hC.1.2.2.2.1
  have hts := hC.1.2.2.2.2
  have hl : lv_has ls 3 [(0, .ref (q1 100))] := hl
  show W p l e RM_X8_goDay s m ([.ref (q1 100)] : List Value).toArray below meth c s.heap [] 0 0 (Qv below g [.ref (q1 100)] (wX8 g q1 S1) (wX8 g q1 F1) s) (F0 m 0 ls [])
  unfold f_X8_goDay at h
  refine lv_aload_n hx hb dX8_goDay_0 rfl (lv_at hl 0 rfl) ?_
  refine lv_bipush (v := (-6 : Int32)) hx hb dX8_goDay_1 (by decide) ?_
  refine k_put (ci := 8) (k := 24) (q0 := 0) (C := RX8) (T := TX8) (N := 46) (S2 := stI S1 24 (-6 : Int32)) tyX8 (fun S => (wX8 g q1 S)) hC uX8_goDay_X8 tyX8_ok nmX8 hP hD hS rfl rfl (by decide) (List.mem_of_getElem? (i := 1) rfl) rfl (tyX8_ok 24 (by decide)) (Nat.le_of_ble_eq_true rfl) dX8_goDay_3 rfl h (fun S101 h H locs hP hD hS => ?_)
  refine lv_aload_n hx hb dX8_goDay_6 rfl (lv_at hl 0 rfl) ?_
  refine lv_bipush (v := (-6 : Int32)) hx hb dX8_goDay_7 (by decide) ?_
  refine k_put (ci := 8) (k := 25) (q0 := 0) (C := RX8) (T := TX8) (N := 46) (S2 := stI S101 25 (-6 : Int32)) tyX8 (fun S => (wX8 g q1 S)) hC uX8_goDay_X8 tyX8_ok nmX8 hP hD hS rfl rfl (by decide) (List.mem_of_getElem? (i := 2) rfl) rfl (tyX8_ok 25 (by decide)) (Nat.le_of_ble_eq_true rfl) dX8_goDay_9 rfl h (fun S102 h H locs hP hD hS => ?_)
  refine lv_aload_n hx hb dX8_goDay_12 rfl (lv_at hl 0 rfl) ?_
  refine lv_bipush (v := (-6 : Int32)) hx hb dX8_goDay_13 (by decide) ?_
  refine k_put (ci := 8) (k := 26) (q0 := 0) (C := RX8) (T := TX8) (N := 46) (S2 := stI S102 26 (-6 : Int32)) tyX8 (fun S => (wX8 g q1 S)) hC uX8_goDay_X8 tyX8_ok nmX8 hP hD hS rfl rfl (by decide) (List.mem_of_getElem? (i := 3) rfl) rfl (tyX8_ok 26 (by decide)) (Nat.le_of_ble_eq_true rfl) dX8_goDay_15 rfl h (fun S103 h H locs hP hD hS => ?_)
  refine lv_iconst (v := (0 : Int32)) hx hb dX8_goDay_18 (by decide) ?_
  refine lv_istore_n (lv' := [(1, .int (0 : Int32)), (0, .ref (q1 100))]) hx hb dX8_goDay_19 rfl hl (by decide) rfl (fun ls hl => ?_)
  obtain ⟨S104, ho105, h⟩ := fx_b1_s h
  refine lw_X8_goDay_20 hC hA N q1 N (0 : Int32) S103  S104 ho105 _ _ _ hP hD hS (lv_sub hl [1, 0] rfl) ?_
  · intro y0 he H locs ls hP hD hS hl
    obtain rfl := he
    obtain rfl := fx_i1 h
    exact Cv.ret hC hr hlk hA9 hP hD hS dX8_goDay_110
theorem uX8_refusal_X8 : ∀ w ∈ u_ws RX8 TX8 46, w ∈ wsX8_refusal := fun w h => List.mem_cons_of_mem _ (List.mem_append_right _ h)
abbrev RM_X8_refusal : Room := { frames := 5, cells := 0, slots := 0, locals := 110 }
def bd_X8_refusal_20 (N : Nat) (x1 : Int32) (S1 : St) (rec : (Int32 × St) → Option (St)) : Option (St) :=
  (if (4 : Int32) ≤ x1 then (
    some S1) else (
    fx_ald 4 (S1.2 15) x1 (fun v101 =>
      fx_ald 58 (S1.2 23) ((52 : Int32) + x1) (fun v102 =>
      fx_ast 4 S1 27 x1 (v101 - v102) (fun S103 =>
      fx_lt (x1 + (1 : Int32)) (fun x104 =>
      rec (x104, S103)))))))
def lf_X8_refusal_20 (N : Nat) : (Int32 × St) → ((Int32 × St) → Option (St)) → Option (St) := fun x rec => bd_X8_refusal_20 N x.1 x.2 rec
set_option maxRecDepth 100000 in
set_option maxHeartbeats 4000000 in
theorem lw_X8_refusal_20 {p : Program} {l : Launch} {e : Env} {s : State} {m : MethodId} {args : Array Value} {below : List Frame} {meth : Method} {c : Code} {Q : State → Prop} {A : Nat → Prop} {H0 : Heap} {g : GG} (hC : Cx p s m args c RX8 cX8_refusal 2 wsX8_refusal g) (hA : ∀ q : Nat, H0.size ≤ q → A q) (N : Nat) (q1 : Nat → Nat) : ∀ (n : Nat) (x1 : Int32) (S1 : St) (o : St), fx_it (lf_X8_refusal_20 N) n (x1, S1) = some o → ∀ (H : Heap) (locs : List Loc) (ls : Array Slot), va_P g.1 vwCl (wX8 g q1 S1) H → va_D A (wX8 g q1 S1) → va_S A H0 H locs → lv_has ls 2 [(0, .ref (q1 100)), (1, .int x1)] → (∀ (Z0 : St), o = Z0 → ∀ (H : Heap) (locs : List Loc) (ls : Array Slot), va_P g.1 vwCl (wX8 g q1 Z0) H → va_D A (wX8 g q1 Z0) → va_S A H0 H locs → lv_has ls 2 [(0, .ref (q1 100))] → W p l e RM_X8_refusal s m args below meth c H locs 0 0 Q (F0 m 53 ls [])) → W p l e RM_X8_refusal s m args below meth c H locs 0 0 Q (F0 m 20 ls []) := by
  have hx := hC.1.1
  have hb := hC.1.2.1
  have hml := hC.1.2.2.1
  have hown := hC.1.2.2.2.1
  have hts := hC.1.2.2.2.2
  intro n
  induction n with
  | zero => intro x1 S1 o h; cases h
  | succ n ih =>
    intro x1 S1 o h H locs ls hP hD hS hl k0
    have h : bd_X8_refusal_20 N x1 S1 (fx_it (lf_X8_refusal_20 N) n) = some o := h
    unfold bd_X8_refusal_20 at h
    refine lv_iload_n hx hb dX8_refusal_20 rfl (lv_at hl 1 rfl) ?_
    refine lv_iconst (v := (4 : Int32)) hx hb dX8_refusal_21 (by decide) ?_
    refine k_icmp_ge (tgt := 53) hC dX8_refusal_22 (by decide) h (fun h => ?_) (fun h => ?_)
    · exact k0 S1 (Option.some.inj h).symm _ _ _ hP hD hS (lv_sub hl [0] rfl)
    · refine lv_aload_n hx hb dX8_refusal_25 rfl (lv_at hl 0 rfl) ?_
      refine k_get (ci := 8) (k := 27) (q0 := 0) (v := .ref (q1 27)) (C := RX8) (T := TX8) (N := 46) hC uX8_refusal_X8 hP rfl rfl (by decide) (List.mem_of_getElem? (i := 1) rfl) rfl dX8_refusal_26 ?_
      refine lv_iload_n hx hb dX8_refusal_29 rfl (lv_at hl 1 rfl) ?_
      refine lv_aload_n hx hb dX8_refusal_30 rfl (lv_at hl 0 rfl) ?_
      refine k_get (ci := 8) (k := 15) (q0 := 0) (v := .ref (q1 15)) (C := RX8) (T := TX8) (N := 46) hC uX8_refusal_X8 hP rfl rfl (by decide) (List.mem_of_getElem? (i := 2) rfl) rfl dX8_refusal_31 ?_
      refine lv_iload_n hx hb dX8_refusal_34 rfl (lv_at hl 1 rfl) ?_
      refine k_ald (q0 := 9) (n := 4) (F := S1.2 15) hC hP rfl dX8_refusal_35 h (fun v101 h => ?_)
      refine lv_aload_n hx hb dX8_refusal_36 rfl (lv_at hl 0 rfl) ?_
      refine k_get (ci := 8) (k := 23) (q0 := 0) (v := .ref (q1 23)) (C := RX8) (T := TX8) (N := 46) hC uX8_refusal_X8 hP rfl rfl (by decide) (List.mem_of_getElem? (i := 3) rfl) rfl dX8_refusal_37 ?_
      refine lv_bipush (v := (52 : Int32)) hx hb dX8_refusal_40 (by decide) ?_
      refine lv_iload_n hx hb dX8_refusal_42 rfl (lv_at hl 1 rfl) ?_
      refine lv_iadd hx hb dX8_refusal_43 ?_
      refine k_ald (q0 := 14) (n := 58) (F := S1.2 23) hC hP rfl dX8_refusal_44 h (fun v102 h => ?_)
      refine lv_isub hx hb dX8_refusal_45 ?_
      refine k_ast (q0 := 15) (n := 4) (k := 27) (S := S1) (fun S => (wX8 g q1 S)) hC hP hD hS rfl (fun _ => rfl) dX8_refusal_46 h (fun S103 h H locs hP hD hS => ?_)
      refine k_iinc (v := (1 : Int32)) (lv' := fun X => [(1, .int X), (0, .ref (q1 100))]) hC dX8_refusal_47 hl (k := 1) rfl (by decide) (by decide) (fun _ => rfl) h (fun x104 h ls hl => ?_)
      refine lv_goto (tgt := 20) hx hb dX8_refusal_50 (by decide) ?_
      exact ih x104 S103 o h _ _ _ hP hD hS (lv_sub hl [1, 0] rfl) k0
def f_X8_refusal (N : Nat) (S1 : St) : Option (Int32 × St) :=
  fx_b2 (f_X8_fault N S1) (fun v101 S102 =>
  (if v101 < 0 then (
  fx_b1 (f_X8_keepNow N S102) (fun S103 =>
    fx_b1 (f_X8_goDay N S103) (fun S104 =>
    fx_b1 (fx_it (lf_X8_refusal_20 N) N ((0 : Int32), S104)) (fun S105 =>
    fx_b1 (f_X8_putBack N S105) (fun S107 =>
      (if (S107.1 24) < 0 then (
      some ((-6 : Int32), S107)) else (
      some ((-3 : Int32), S107)))))))) else (
  some ((-5 : Int32), S102))))
set_option maxRecDepth 100000 in
set_option maxHeartbeats 4000000 in
theorem c_X8_refusal (l : Launch) (g : GG) (N : Nat) (q1 : Nat → Nat) (S1 : St) (r : Int32) (F1 : St) (h : f_X8_refusal N S1 = some (r, F1)) : Ci l yX8_refusal wsX8_refusal RM_X8_refusal g [.ref (q1 100)] (wX8 g q1 S1) (wX8 g q1 F1) r := by
  intro sz
  refine Met.ofC (cc := cX8_refusal) (maxL := 2) (ret := (some .int)) (by decide) rfl (Nat.le_of_ble_eq_true rfl) ?_
  intro p e s m below meth c hC hr hlk hsz A hA9 hA hP hD hS ls hl
  subst hsz
  have hC : Cx p s m ([.ref (q1 100)] : List Value).toArray c RX8 cX8_refusal 2 wsX8_refusal g := hC
  have hx := hC.1.1
  have hb := hC.1.2.1
  have hml := hC.1.2.2.1
  have hown := hC.1.2.2.2.1
  have hts := hC.1.2.2.2.2
  have hl : lv_has ls 2 [(0, .ref (q1 100))] := hl
  show W p l e RM_X8_refusal s m ([.ref (q1 100)] : List Value).toArray below meth c s.heap [] 0 0 (Qi below g [.ref (q1 100)] (wX8 g q1 S1) (wX8 g q1 F1) r s) (F0 m 0 ls [])
  unfold f_X8_refusal at h
  refine lv_aload_n hx hb dX8_refusal_0 rfl (lv_at hl 0 rfl) ?_
  obtain ⟨v101, S102, hc111, h⟩ := fx_b2_s h
  refine k_callVi (C := RX8) (ci := 8) (qr := 0) (n := 0) (As := []) (rest := []) (wc := (wX8 g q1 S1)) (w1 := (wX8 g q1 S102)) (ws2 := (wX8 g q1 S102)) (bytes := cX8_fault) (maxL := 5) (ret := (some .int)) hC hl.1 (c_X8_fault l g N q1 S1 v101 S102 hc111) rfl gX8_refusal_X8_fault (by decide +kernel) rfl rfl ⟨Nat.le_of_ble_eq_true rfl, Nat.le_of_ble_eq_true rfl⟩ rfl rfl rfl (Nat.le_of_ble_eq_true rfl) ⟨Nat.le_of_ble_eq_true rfl, Nat.le_of_ble_eq_true rfl⟩ dX8_refusal_1 hP hD hS hA [0, 1, 2, 3, 4, 5, 6, 7, 8, 9, 10, 11, 12, 13, 14, 15, 16, 17, 18, 19, 20, 21, 22, 23] rfl (by decide +kernel) [q1 100, q1 6, q1 8, q1 9, q1 10, q1 11, q1 12, q1 13, q1 14, q1 15, q1 16, q1 18, q1 20, q1 21, q1 23, q1 27, q1 30, q1 32, q1 33, q1 34, q1 39, q1 41, q1 42, q1 43] rfl rfl rfl [] ([] : va_W) rfl rfl (n2 := 24) rfl (by decide +kernel) (fun H locs hP hD hS => ?_)
  refine k_if_lt (tgt := 10) hC dX8_refusal_4 (by decide) h (fun h => ?_) (fun h => ?_)
  · refine lv_aload_n hx hb dX8_refusal_10 rfl (lv_at hl 0 rfl) ?_
    obtain ⟨S103, hc110, h⟩ := fx_b1_s h
    refine k_callVv (C := RX8) (ci := 8) (qr := 0) (n := 0) (As := []) (rest := []) (wc := (wX8 g q1 S102)) (w1 := (wX8 g q1 S103)) (ws2 := (wX8 g q1 S103)) (bytes := cX8_keepNow) (maxL := 2) (ret := none) hC hl.1 (c_X8_keepNow l g N q1 S102 S103 hc110) rfl gX8_refusal_X8_keepNow (by decide +kernel) rfl rfl ⟨Nat.le_of_ble_eq_true rfl, Nat.le_of_ble_eq_true rfl⟩ rfl rfl rfl (Nat.le_of_ble_eq_true rfl) ⟨Nat.le_of_ble_eq_true rfl, Nat.le_of_ble_eq_true rfl⟩ dX8_refusal_11 hP hD hS hA [0, 1, 2, 3, 4, 5, 6, 7, 8, 9, 10, 11, 12, 13, 14, 15, 16, 17, 18, 19, 20, 21, 22, 23] rfl (by decide +kernel) [q1 100, q1 6, q1 8, q1 9, q1 10, q1 11, q1 12, q1 13, q1 14, q1 15, q1 16, q1 18, q1 20, q1 21, q1 23, q1 27, q1 30, q1 32, q1 33, q1 34, q1 39, q1 41, q1 42, q1 43] rfl rfl rfl [] ([] : va_W) rfl rfl (n2 := 24) rfl (by decide +kernel) (fun H locs hP hD hS => ?_)
    refine lv_aload_n hx hb dX8_refusal_14 rfl (lv_at hl 0 rfl) ?_
    obtain ⟨S104, hc109, h⟩ := fx_b1_s h
    refine k_callVv (C := RX8) (ci := 8) (qr := 0) (n := 0) (As := []) (rest := []) (wc := (wX8 g q1 S103)) (w1 := (wX8 g q1 S104)) (ws2 := (wX8 g q1 S104)) (bytes := cX8_goDay) (maxL := 3) (ret := none) hC hl.1 (c_X8_goDay l g N q1 S103 S104 hc109) rfl gX8_refusal_X8_goDay (by decide +kernel) rfl rfl ⟨Nat.le_of_ble_eq_true rfl, Nat.le_of_ble_eq_true rfl⟩ rfl rfl rfl (Nat.le_of_ble_eq_true rfl) ⟨Nat.le_of_ble_eq_true rfl, Nat.le_of_ble_eq_true rfl⟩ dX8_refusal_15 hP hD hS hA [0, 1, 2, 3, 4, 5, 6, 7, 8, 9, 10, 11, 12, 13, 14, 15, 16, 17, 18, 19, 20, 21, 22, 23] rfl (by decide +kernel) [q1 100, q1 6, q1 8, q1 9, q1 10, q1 11, q1 12, q1 13, q1 14, q1 15, q1 16, q1 18, q1 20, q1 21, q1 23, q1 27, q1 30, q1 32, q1 33, q1 34, q1 39, q1 41, q1 42, q1 43] rfl rfl rfl [] ([] : va_W) rfl rfl (n2 := 24) rfl (by decide +kernel) (fun H locs hP hD hS => ?_)
    refine lv_iconst (v := (0 : Int32)) hx hb dX8_refusal_18 (by decide) ?_
    refine lv_istore_n (lv' := [(1, .int (0 : Int32)), (0, .ref (q1 100))]) hx hb dX8_refusal_19 rfl hl (by decide) rfl (fun ls hl => ?_)
    obtain ⟨S105, ho106, h⟩ := fx_b1_s h
    refine lw_X8_refusal_20 hC hA N q1 N (0 : Int32) S104  S105 ho106 _ _ _ hP hD hS (lv_sub hl [1, 0] rfl) ?_
    · intro y0 he H locs ls hP hD hS hl
      obtain rfl := he
      refine lv_aload_n hx hb dX8_refusal_53 rfl (lv_at hl 0 rfl) ?_
      obtain ⟨S107, hc108, h⟩ := fx_b1_s h
      refine k_callVv (C := RX8) (ci := 8) (qr := 0) (n := 0) (As := []) (rest := []) (wc := (wX8 g q1 S105)) (w1 := (wX8 g q1 S107)) (ws2 := (wX8 g q1 S107)) (bytes := cX8_putBack) (maxL := 2) (ret := none) hC hl.1 (c_X8_putBack l g N q1 S105 S107 hc108) rfl gX8_refusal_X8_putBack (by decide +kernel) rfl rfl ⟨Nat.le_of_ble_eq_true rfl, Nat.le_of_ble_eq_true rfl⟩ rfl rfl rfl (Nat.le_of_ble_eq_true rfl) ⟨Nat.le_of_ble_eq_true rfl, Nat.le_of_ble_eq_true rfl⟩ dX8_refusal_54 hP hD hS hA [0, 1, 2, 3, 4, 5, 6, 7, 8, 9, 10, 11, 12, 13, 14, 15, 16, 17, 18, 19, 20, 21, 22, 23] rfl (by decide +kernel) [q1 100, q1 6, q1 8, q1 9, q1 10, q1 11, q1 12, q1 13, q1 14, q1 15, q1 16, q1 18, q1 20, q1 21, q1 23, q1 27, q1 30, q1 32, q1 33, q1 34, q1 39, q1 41, q1 42, q1 43] rfl rfl rfl [] ([] : va_W) rfl rfl (n2 := 24) rfl (by decide +kernel) (fun H locs hP hD hS => ?_)
      refine lv_aload_n hx hb dX8_refusal_57 rfl (lv_at hl 0 rfl) ?_
      refine k_get (ci := 8) (k := 24) (q0 := 0) (v := .int (S107.1 24)) (C := RX8) (T := TX8) (N := 46) hC uX8_refusal_X8 hP rfl rfl (by decide) (List.mem_of_getElem? (i := 4) rfl) rfl dX8_refusal_58 ?_
      refine k_if_lt (tgt := 69) hC dX8_refusal_61 (by decide) h (fun h => ?_) (fun h => ?_)
      · refine lv_bipush (v := (-6 : Int32)) hx hb dX8_refusal_69 (by decide) ?_
        obtain ⟨rfl, rfl⟩ := fx_i2 h
        exact Ci.ret hC hr hlk hA9 hP hD hS dX8_refusal_71
      · refine lv_bipush (v := (-3 : Int32)) hx hb dX8_refusal_64 (by decide) ?_
        refine lv_goto (tgt := 71) hx hb dX8_refusal_66 (by decide) ?_
        obtain ⟨rfl, rfl⟩ := fx_i2 h
        exact Ci.ret hC hr hlk hA9 hP hD hS dX8_refusal_71
  · refine lv_bipush (v := (-5 : Int32)) hx hb dX8_refusal_7 (by decide) ?_
    obtain ⟨rfl, rfl⟩ := fx_i2 h
    exact Ci.ret hC hr hlk hA9 hP hD hS dX8_refusal_9
theorem uX8_judge_X8 : ∀ w ∈ u_ws RX8 TX8 46, w ∈ wsX8_judge := fun w h => List.mem_cons_of_mem _ (List.mem_append_right _ h)
abbrev RM_X8_judge : Room := { frames := 6, cells := 0, slots := 0, locals := 131 }
def f_X8_judge (N : Nat) (S1 : St) (x1 : Int32) : Option (Int32 × St) :=
  fx_b1 (f_X8_in N (Int32.toInt64 x1) (0 : Int64) (5 : Int64)) (fun v101 =>
  (if v101 = 0 then (
  some ((-2 : Int32), S1)) else (
  fx_b2 (f_X8_refusal N S1) (fun v102 S103 =>
    (if v102 = (-5 : Int32) then (
    some (v102, S103)) else (
    (if x1 ≤ (1 : Int32) then (
      (if x1 = 0 then (
        some ((S103.1 24), S103)) else (
        (if x1 = (1 : Int32) then (
          some ((S103.1 25), S103)) else (
          fx_ald 4 (S103.2 27) (x1 - (2 : Int32)) (fun v104 =>
            some (v104, S103))))))) else (
      (if v102 = (-3 : Int32) then (
        some (v102, S103)) else (
        (if x1 = 0 then (
          some ((S103.1 24), S103)) else (
          (if x1 = (1 : Int32) then (
            some ((S103.1 25), S103)) else (
            fx_ald 4 (S103.2 27) (x1 - (2 : Int32)) (fun v105 =>
              some (v105, S103))))))))))))))))
set_option maxRecDepth 100000 in
set_option maxHeartbeats 4000000 in
theorem c_X8_judge (l : Launch) (g : GG) (N : Nat) (q1 : Nat → Nat) (S1 : St) (x1 : Int32) (r : Int32) (F1 : St) (h : f_X8_judge N S1 x1 = some (r, F1)) : Ci l yX8_judge wsX8_judge RM_X8_judge g [.ref (q1 100), .int x1] (wX8 g q1 S1) (wX8 g q1 F1) r := by
  intro sz
  refine Met.ofC (cc := cX8_judge) (maxL := 3) (ret := (some .int)) (by decide) rfl (Nat.le_of_ble_eq_true rfl) ?_
  intro p e s m below meth c hC hr hlk hsz A hA9 hA hP hD hS ls hl
  subst hsz
  have hC : Cx p s m ([.ref (q1 100), .int x1] : List Value).toArray c RX8 cX8_judge 3 wsX8_judge g := hC
  have hx := hC.1.1
  have hb := hC.1.2.1
  have hml := hC.1.2.2.1
  have hown := hC.1.2.2.2.1
  have hts := hC.1.2.2.2.2
  have hl : lv_has ls 3 [(0, .ref (q1 100)), (1, .int x1)] := hl
  show W p l e RM_X8_judge s m ([.ref (q1 100), .int x1] : List Value).toArray below meth c s.heap [] 0 0 (Qi below g [.ref (q1 100), .int x1] (wX8 g q1 S1) (wX8 g q1 F1) r s) (F0 m 0 ls [])
  unfold f_X8_judge at h
  refine lv_iload_n hx hb dX8_judge_0 rfl (lv_at hl 1 rfl) ?_
  refine lv_i2l hx hb dX8_judge_1 rfl ?_
  refine lv_lconst (v := (0 : Int64)) hx hb dX8_judge_2 (by decide) ?_
  refine lv_ldc2 (v := (5 : Int64)) hx hb hown (hts _ (List.mem_of_getElem? (i := 1) rfl)) dX8_judge_3 ?_
  obtain ⟨v101, hc107, h⟩ := fx_b1_s h
  refine k_callSi0 (n := 3) (As := [.long (Int32.toInt64 x1), .long (0 : Int64), .long (5 : Int64)]) (rest := []) (wc := ([] : va_W)) (bytes := cX8_in) (maxL := 6) (ret := (some .boolean)) hC hl.1 (c_X8_in l g N (Int32.toInt64 x1) (0 : Int64) (5 : Int64) v101 hc107) rfl gX8_judge_X8_in (by decide +kernel) ⟨Nat.le_of_ble_eq_true rfl, Nat.le_of_ble_eq_true rfl⟩ rfl rfl rfl (Nat.le_of_ble_eq_true rfl) ⟨Nat.le_of_ble_eq_true rfl, Nat.le_of_ble_eq_true rfl⟩ dX8_judge_6 hP hD hS hA [] rfl (by decide +kernel) (fun H locs hP hD hS => ?_)
  refine k_if_ne (tgt := 15) hC dX8_judge_9 (by decide) h (fun h => ?_) (fun h => ?_)
  · refine lv_aload_n hx hb dX8_judge_15 rfl (lv_at hl 0 rfl) ?_
    obtain ⟨v102, S103, hc106, h⟩ := fx_b2_s h
    refine k_callVi (C := RX8) (ci := 8) (qr := 0) (n := 0) (As := []) (rest := []) (wc := (wX8 g q1 S1)) (w1 := (wX8 g q1 S103)) (ws2 := (wX8 g q1 S103)) (bytes := cX8_refusal) (maxL := 2) (ret := (some .int)) hC hl.1 (c_X8_refusal l g N q1 S1 v102 S103 hc106) rfl gX8_judge_X8_refusal (by decide +kernel) rfl rfl ⟨Nat.le_of_ble_eq_true rfl, Nat.le_of_ble_eq_true rfl⟩ rfl rfl rfl (Nat.le_of_ble_eq_true rfl) ⟨Nat.le_of_ble_eq_true rfl, Nat.le_of_ble_eq_true rfl⟩ dX8_judge_16 hP hD hS hA [0, 1, 2, 3, 4, 5, 6, 7, 8, 9, 10, 11, 12, 13, 14, 15, 16, 17, 18, 19, 20, 21, 22, 23] rfl (by decide +kernel) [q1 100, q1 6, q1 8, q1 9, q1 10, q1 11, q1 12, q1 13, q1 14, q1 15, q1 16, q1 18, q1 20, q1 21, q1 23, q1 27, q1 30, q1 32, q1 33, q1 34, q1 39, q1 41, q1 42, q1 43] rfl rfl rfl [] ([] : va_W) rfl rfl (n2 := 24) rfl (by decide +kernel) (fun H locs hP hD hS => ?_)
    refine lv_istore_n (lv' := [(2, .int v102), (0, .ref (q1 100)), (1, .int x1)]) hx hb dX8_judge_19 rfl hl (by decide) rfl (fun ls hl => ?_)
    refine lv_iload_n hx hb dX8_judge_20 rfl (lv_at hl 0 rfl) ?_
    refine lv_bipush (v := (-5 : Int32)) hx hb dX8_judge_21 (by decide) ?_
    refine k_icmp_eq (tgt := 37) hC dX8_judge_23 (by decide) h (fun h => ?_) (fun h => ?_)
    · refine lv_iload_n hx hb dX8_judge_37 rfl (lv_at hl 0 rfl) ?_
      obtain ⟨rfl, rfl⟩ := fx_i2 h
      exact Ci.ret hC hr hlk hA9 hP hD hS dX8_judge_38
    · refine lv_iload_n hx hb dX8_judge_26 rfl (lv_at hl 2 rfl) ?_
      refine lv_iconst (v := (1 : Int32)) hx hb dX8_judge_27 (by decide) ?_
      refine k_icmp_le (tgt := 39) hC dX8_judge_28 (by decide) h (fun h => ?_) (fun h => ?_)
      · refine lv_iload_n hx hb dX8_judge_39 rfl (lv_at hl 2 rfl) ?_
        refine k_if_ne (tgt := 50) hC dX8_judge_40 (by decide) h (fun h => ?_) (fun h => ?_)
        · refine lv_iload_n hx hb dX8_judge_50 rfl (lv_at hl 2 rfl) ?_
          refine lv_iconst (v := (1 : Int32)) hx hb dX8_judge_51 (by decide) ?_
          refine k_icmp_ne (tgt := 62) hC dX8_judge_52 (by decide) h (fun h => ?_) (fun h => ?_)
          · refine lv_aload_n hx hb dX8_judge_62 rfl (lv_at hl 1 rfl) ?_
            refine k_get (ci := 8) (k := 27) (q0 := 0) (v := .ref (q1 27)) (C := RX8) (T := TX8) (N := 46) hC uX8_judge_X8 hP rfl rfl (by decide) (List.mem_of_getElem? (i := 4) rfl) rfl dX8_judge_63 ?_
            refine lv_iload_n hx hb dX8_judge_66 rfl (lv_at hl 2 rfl) ?_
            refine lv_iconst (v := (2 : Int32)) hx hb dX8_judge_67 (by decide) ?_
            refine lv_isub hx hb dX8_judge_68 ?_
            refine k_ald (q0 := 15) (n := 4) (F := S103.2 27) hC hP rfl dX8_judge_69 h (fun v104 h => ?_)
            obtain ⟨rfl, rfl⟩ := fx_i2 h
            exact Ci.ret hC hr hlk hA9 hP hD hS dX8_judge_70
          · refine lv_aload_n hx hb dX8_judge_55 rfl (lv_at hl 1 rfl) ?_
            refine k_get (ci := 8) (k := 25) (q0 := 0) (v := .int (S103.1 25)) (C := RX8) (T := TX8) (N := 46) hC uX8_judge_X8 hP rfl rfl (by decide) (List.mem_of_getElem? (i := 3) rfl) rfl dX8_judge_56 ?_
            refine lv_goto (tgt := 70) hx hb dX8_judge_59 (by decide) ?_
            obtain ⟨rfl, rfl⟩ := fx_i2 h
            exact Ci.ret hC hr hlk hA9 hP hD hS dX8_judge_70
        · refine lv_aload_n hx hb dX8_judge_43 rfl (lv_at hl 1 rfl) ?_
          refine k_get (ci := 8) (k := 24) (q0 := 0) (v := .int (S103.1 24)) (C := RX8) (T := TX8) (N := 46) hC uX8_judge_X8 hP rfl rfl (by decide) (List.mem_of_getElem? (i := 2) rfl) rfl dX8_judge_44 ?_
          refine lv_goto (tgt := 70) hx hb dX8_judge_47 (by decide) ?_
          obtain ⟨rfl, rfl⟩ := fx_i2 h
          exact Ci.ret hC hr hlk hA9 hP hD hS dX8_judge_70
      · refine lv_iload_n hx hb dX8_judge_31 rfl (lv_at hl 0 rfl) ?_
        refine lv_bipush (v := (-3 : Int32)) hx hb dX8_judge_32 (by decide) ?_
        refine k_icmp_ne (tgt := 39) hC dX8_judge_34 (by decide) h (fun h => ?_) (fun h => ?_)
        · refine lv_iload_n hx hb dX8_judge_39 rfl (lv_at hl 2 rfl) ?_
          refine k_if_ne (tgt := 50) hC dX8_judge_40 (by decide) h (fun h => ?_) (fun h => ?_)
          · refine lv_iload_n hx hb dX8_judge_50 rfl (lv_at hl 2 rfl) ?_
            refine lv_iconst (v := (1 : Int32)) hx hb dX8_judge_51 (by decide) ?_
            refine k_icmp_ne (tgt := 62) hC dX8_judge_52 (by decide) h (fun h => ?_) (fun h => ?_)
            · refine lv_aload_n hx hb dX8_judge_62 rfl (lv_at hl 1 rfl) ?_
              refine k_get (ci := 8) (k := 27) (q0 := 0) (v := .ref (q1 27)) (C := RX8) (T := TX8) (N := 46) hC uX8_judge_X8 hP rfl rfl (by decide) (List.mem_of_getElem? (i := 4) rfl) rfl dX8_judge_63 ?_
              refine lv_iload_n hx hb dX8_judge_66 rfl (lv_at hl 2 rfl) ?_
              refine lv_iconst (v := (2 : Int32)) hx hb dX8_judge_67 (by decide) ?_
              refine lv_isub hx hb dX8_judge_68 ?_
              refine k_ald (q0 := 15) (n := 4) (F := S103.2 27) hC hP rfl dX8_judge_69 h (fun v105 h => ?_)
              obtain ⟨rfl, rfl⟩ := fx_i2 h
              exact Ci.ret hC hr hlk hA9 hP hD hS dX8_judge_70
            · refine lv_aload_n hx hb dX8_judge_55 rfl (lv_at hl 1 rfl) ?_
              refine k_get (ci := 8) (k := 25) (q0 := 0) (v := .int (S103.1 25)) (C := RX8) (T := TX8) (N := 46) hC uX8_judge_X8 hP rfl rfl (by decide) (List.mem_of_getElem? (i := 3) rfl) rfl dX8_judge_56 ?_
              refine lv_goto (tgt := 70) hx hb dX8_judge_59 (by decide) ?_
              obtain ⟨rfl, rfl⟩ := fx_i2 h
              exact Ci.ret hC hr hlk hA9 hP hD hS dX8_judge_70
          · refine lv_aload_n hx hb dX8_judge_43 rfl (lv_at hl 1 rfl) ?_
            refine k_get (ci := 8) (k := 24) (q0 := 0) (v := .int (S103.1 24)) (C := RX8) (T := TX8) (N := 46) hC uX8_judge_X8 hP rfl rfl (by decide) (List.mem_of_getElem? (i := 2) rfl) rfl dX8_judge_44 ?_
            refine lv_goto (tgt := 70) hx hb dX8_judge_47 (by decide) ?_
            obtain ⟨rfl, rfl⟩ := fx_i2 h
            exact Ci.ret hC hr hlk hA9 hP hD hS dX8_judge_70
        · refine lv_iload_n hx hb dX8_judge_37 rfl (lv_at hl 0 rfl) ?_
          obtain ⟨rfl, rfl⟩ := fx_i2 h
          exact Ci.ret hC hr hlk hA9 hP hD hS dX8_judge_38
  · refine lv_bipush (v := (-2 : Int32)) hx hb dX8_judge_12 (by decide) ?_
    obtain ⟨rfl, rfl⟩ := fx_i2 h
    exact Ci.ret hC hr hlk hA9 hP hD hS dX8_judge_14
theorem uX8_heat_X8 : ∀ w ∈ u_ws RX8 TX8 46, w ∈ wsX8_heat := fun w h => List.mem_cons_of_mem _ (List.mem_append_right _ h)
abbrev RM_X8_heat : Room := { frames := 6, cells := 0, slots := 0, locals := 131 }
def f_X8_heat (N : Nat) (S1 : St) : Option (Int32 × St) :=
  fx_b2 (f_X8_refusal N S1) (fun v101 S102 =>
  (if v101 = (-6 : Int32) then (
  fx_b1 (f_X8_goDay N S102) (fun S103 =>
    fx_b1 (f_X8_putBack N S103) (fun S104 =>
    some ((S103.1 2), S104)))) else (
  some (v101, S102))))
set_option maxRecDepth 100000 in
set_option maxHeartbeats 4000000 in
theorem c_X8_heat (l : Launch) (g : GG) (N : Nat) (q1 : Nat → Nat) (S1 : St) (r : Int32) (F1 : St) (h : f_X8_heat N S1 = some (r, F1)) : Ci l yX8_heat wsX8_heat RM_X8_heat g [.ref (q1 100)] (wX8 g q1 S1) (wX8 g q1 F1) r := by
  intro sz
  refine Met.ofC (cc := cX8_heat) (maxL := 3) (ret := (some .int)) (by decide) rfl (Nat.le_of_ble_eq_true rfl) ?_
  intro p e s m below meth c hC hr hlk hsz A hA9 hA hP hD hS ls hl
  subst hsz
  have hC : Cx p s m ([.ref (q1 100)] : List Value).toArray c RX8 cX8_heat 3 wsX8_heat g := hC
  have hx := hC.1.1
  have hb := hC.1.2.1
  have hml := hC.1.2.2.1
  have hown := hC.1.2.2.2.1
  have hts := hC.1.2.2.2.2
  have hl : lv_has ls 3 [(0, .ref (q1 100))] := hl
  show W p l e RM_X8_heat s m ([.ref (q1 100)] : List Value).toArray below meth c s.heap [] 0 0 (Qi below g [.ref (q1 100)] (wX8 g q1 S1) (wX8 g q1 F1) r s) (F0 m 0 ls [])
  unfold f_X8_heat at h
  refine lv_aload_n hx hb dX8_heat_0 rfl (lv_at hl 0 rfl) ?_
  obtain ⟨v101, S102, hc107, h⟩ := fx_b2_s h
  refine k_callVi (C := RX8) (ci := 8) (qr := 0) (n := 0) (As := []) (rest := []) (wc := (wX8 g q1 S1)) (w1 := (wX8 g q1 S102)) (ws2 := (wX8 g q1 S102)) (bytes := cX8_refusal) (maxL := 2) (ret := (some .int)) hC hl.1 (c_X8_refusal l g N q1 S1 v101 S102 hc107) rfl gX8_heat_X8_refusal (by decide +kernel) rfl rfl ⟨Nat.le_of_ble_eq_true rfl, Nat.le_of_ble_eq_true rfl⟩ rfl rfl rfl (Nat.le_of_ble_eq_true rfl) ⟨Nat.le_of_ble_eq_true rfl, Nat.le_of_ble_eq_true rfl⟩ dX8_heat_1 hP hD hS hA [0, 1, 2, 3, 4, 5, 6, 7, 8, 9, 10, 11, 12, 13, 14, 15, 16, 17, 18, 19, 20, 21, 22, 23] rfl (by decide +kernel) [q1 100, q1 6, q1 8, q1 9, q1 10, q1 11, q1 12, q1 13, q1 14, q1 15, q1 16, q1 18, q1 20, q1 21, q1 23, q1 27, q1 30, q1 32, q1 33, q1 34, q1 39, q1 41, q1 42, q1 43] rfl rfl rfl [] ([] : va_W) rfl rfl (n2 := 24) rfl (by decide +kernel) (fun H locs hP hD hS => ?_)
  refine lv_istore_n (lv' := [(1, .int v101), (0, .ref (q1 100))]) hx hb dX8_heat_4 rfl hl (by decide) rfl (fun ls hl => ?_)
  refine lv_iload_n hx hb dX8_heat_5 rfl (lv_at hl 0 rfl) ?_
  refine lv_bipush (v := (-6 : Int32)) hx hb dX8_heat_6 (by decide) ?_
  refine k_icmp_eq (tgt := 13) hC dX8_heat_8 (by decide) h (fun h => ?_) (fun h => ?_)
  · refine lv_aload_n hx hb dX8_heat_13 rfl (lv_at hl 1 rfl) ?_
    obtain ⟨S103, hc106, h⟩ := fx_b1_s h
    refine k_callVv (C := RX8) (ci := 8) (qr := 0) (n := 0) (As := []) (rest := []) (wc := (wX8 g q1 S102)) (w1 := (wX8 g q1 S103)) (ws2 := (wX8 g q1 S103)) (bytes := cX8_goDay) (maxL := 3) (ret := none) hC hl.1 (c_X8_goDay l g N q1 S102 S103 hc106) rfl gX8_heat_X8_goDay (by decide +kernel) rfl rfl ⟨Nat.le_of_ble_eq_true rfl, Nat.le_of_ble_eq_true rfl⟩ rfl rfl rfl (Nat.le_of_ble_eq_true rfl) ⟨Nat.le_of_ble_eq_true rfl, Nat.le_of_ble_eq_true rfl⟩ dX8_heat_14 hP hD hS hA [0, 1, 2, 3, 4, 5, 6, 7, 8, 9, 10, 11, 12, 13, 14, 15, 16, 17, 18, 19, 20, 21, 22, 23] rfl (by decide +kernel) [q1 100, q1 6, q1 8, q1 9, q1 10, q1 11, q1 12, q1 13, q1 14, q1 15, q1 16, q1 18, q1 20, q1 21, q1 23, q1 27, q1 30, q1 32, q1 33, q1 34, q1 39, q1 41, q1 42, q1 43] rfl rfl rfl [] ([] : va_W) rfl rfl (n2 := 24) rfl (by decide +kernel) (fun H locs hP hD hS => ?_)
    refine lv_aload_n hx hb dX8_heat_17 rfl (lv_at hl 1 rfl) ?_
    refine k_get (ci := 8) (k := 2) (q0 := 0) (v := .int (S103.1 2)) (C := RX8) (T := TX8) (N := 46) hC uX8_heat_X8 hP rfl rfl (by decide) (List.mem_of_getElem? (i := 1) rfl) rfl dX8_heat_18 ?_
    refine lv_istore_n (lv' := [(2, .int (S103.1 2)), (1, .int v101), (0, .ref (q1 100))]) hx hb dX8_heat_21 rfl hl (by decide) rfl (fun ls hl => ?_)
    refine lv_aload_n hx hb dX8_heat_22 rfl (lv_at hl 2 rfl) ?_
    obtain ⟨S104, hc105, h⟩ := fx_b1_s h
    refine k_callVv (C := RX8) (ci := 8) (qr := 0) (n := 0) (As := []) (rest := []) (wc := (wX8 g q1 S103)) (w1 := (wX8 g q1 S104)) (ws2 := (wX8 g q1 S104)) (bytes := cX8_putBack) (maxL := 2) (ret := none) hC hl.1 (c_X8_putBack l g N q1 S103 S104 hc105) rfl gX8_heat_X8_putBack (by decide +kernel) rfl rfl ⟨Nat.le_of_ble_eq_true rfl, Nat.le_of_ble_eq_true rfl⟩ rfl rfl rfl (Nat.le_of_ble_eq_true rfl) ⟨Nat.le_of_ble_eq_true rfl, Nat.le_of_ble_eq_true rfl⟩ dX8_heat_23 hP hD hS hA [0, 1, 2, 3, 4, 5, 6, 7, 8, 9, 10, 11, 12, 13, 14, 15, 16, 17, 18, 19, 20, 21, 22, 23] rfl (by decide +kernel) [q1 100, q1 6, q1 8, q1 9, q1 10, q1 11, q1 12, q1 13, q1 14, q1 15, q1 16, q1 18, q1 20, q1 21, q1 23, q1 27, q1 30, q1 32, q1 33, q1 34, q1 39, q1 41, q1 42, q1 43] rfl rfl rfl [] ([] : va_W) rfl rfl (n2 := 24) rfl (by decide +kernel) (fun H locs hP hD hS => ?_)
    refine lv_iload_n hx hb dX8_heat_26 rfl (lv_at hl 0 rfl) ?_
    obtain ⟨rfl, rfl⟩ := fx_i2 h
    exact Ci.ret hC hr hlk hA9 hP hD hS dX8_heat_27
  · refine lv_iload_n hx hb dX8_heat_11 rfl (lv_at hl 0 rfl) ?_
    obtain ⟨rfl, rfl⟩ := fx_i2 h
    exact Ci.ret hC hr hlk hA9 hP hD hS dX8_heat_12
theorem uX8_toldOf_X8 : ∀ w ∈ u_ws RX8 TX8 46, w ∈ wsX8_toldOf := fun w h => List.mem_cons_of_mem _ (List.mem_append_right _ h)
abbrev RM_X8_toldOf : Room := { frames := 0, cells := 0, slots := 0, locals := 0 }
def f_X8_toldOf (N : Nat) (S1 : St) (x1 : Int32) (x2 : Int32) (x3 : Int32) : Option (Int32) :=
  fx_lt (((6 : Int32) * x1) + x2) (fun x101 =>
  fx_ald 4 (S1.2 12) x1 (fun v102 =>
  (if x2 < v102 then (
  (if x3 = 0 then (
    fx_ald 24 (S1.2 13) x101 (fun v104 =>
      some v104)) else (
    fx_ald 24 (S1.2 14) x101 (fun v103 =>
      some v103)))) else (
  some (-6 : Int32)))))
set_option maxRecDepth 100000 in
set_option maxHeartbeats 4000000 in
theorem c_X8_toldOf (l : Launch) (g : GG) (N : Nat) (q1 : Nat → Nat) (S1 : St) (x1 : Int32) (x2 : Int32) (x3 : Int32) (r : Int32) (h : f_X8_toldOf N S1 x1 x2 x3 = some r) : Ci l yX8_toldOf wsX8_toldOf RM_X8_toldOf g [.ref (q1 100), .int x1, .int x2, .int x3] (wX8 g q1 S1) (wX8 g q1 S1) r := by
  intro sz
  refine Met.ofC (cc := cX8_toldOf) (maxL := 5) (ret := (some .int)) (by decide) rfl (Nat.le_of_ble_eq_true rfl) ?_
  intro p e s m below meth c hC hr hlk hsz A hA9 hA hP hD hS ls hl
  subst hsz
  have hC : Cx p s m ([.ref (q1 100), .int x1, .int x2, .int x3] : List Value).toArray c RX8 cX8_toldOf 5 wsX8_toldOf g := hC
  have hx := hC.1.1
  have hb := hC.1.2.1
  have hml := hC.1.2.2.1
  have hown := hC.1.2.2.2.1
  have hts := hC.1.2.2.2.2
  have hl : lv_has ls 5 [(0, .ref (q1 100)), (1, .int x1), (2, .int x2), (3, .int x3)] := hl
  show W p l e RM_X8_toldOf s m ([.ref (q1 100), .int x1, .int x2, .int x3] : List Value).toArray below meth c s.heap [] 0 0 (Qi below g [.ref (q1 100), .int x1, .int x2, .int x3] (wX8 g q1 S1) (wX8 g q1 S1) r s) (F0 m 0 ls [])
  unfold f_X8_toldOf at h
  refine lv_bipush (v := (6 : Int32)) hx hb dX8_toldOf_0 (by decide) ?_
  refine lv_iload_n hx hb dX8_toldOf_2 rfl (lv_at hl 1 rfl) ?_
  refine lv_imul hx hb dX8_toldOf_3 ?_
  refine lv_iload_n hx hb dX8_toldOf_4 rfl (lv_at hl 2 rfl) ?_
  refine lv_iadd hx hb dX8_toldOf_5 ?_
  refine k_topi h (fun x101 h => ?_)
  refine lv_istore (lv' := [(4, .int x101), (0, .ref (q1 100)), (1, .int x1), (2, .int x2), (3, .int x3)]) hx hb dX8_toldOf_6 hl (by decide) rfl (fun ls hl => ?_)
  refine lv_iload_n hx hb dX8_toldOf_8 rfl (lv_at hl 3 rfl) ?_
  refine lv_aload_n hx hb dX8_toldOf_9 rfl (lv_at hl 1 rfl) ?_
  refine k_get (ci := 8) (k := 12) (q0 := 0) (v := .ref (q1 12)) (C := RX8) (T := TX8) (N := 46) hC uX8_toldOf_X8 hP rfl rfl (by decide) (List.mem_of_getElem? (i := 1) rfl) rfl dX8_toldOf_10 ?_
  refine lv_iload_n hx hb dX8_toldOf_13 rfl (lv_at hl 2 rfl) ?_
  refine k_ald (q0 := 6) (n := 4) (F := S1.2 12) hC hP rfl dX8_toldOf_14 h (fun v102 h => ?_)
  refine k_icmp_lt (tgt := 23) hC dX8_toldOf_15 (by decide) h (fun h => ?_) (fun h => ?_)
  · refine lv_iload_n hx hb dX8_toldOf_23 rfl (lv_at hl 4 rfl) ?_
    refine k_if_ne (tgt := 37) hC dX8_toldOf_24 (by decide) h (fun h => ?_) (fun h => ?_)
    · refine lv_aload_n hx hb dX8_toldOf_37 rfl (lv_at hl 1 rfl) ?_
      refine k_get (ci := 8) (k := 14) (q0 := 0) (v := .ref (q1 14)) (C := RX8) (T := TX8) (N := 46) hC uX8_toldOf_X8 hP rfl rfl (by decide) (List.mem_of_getElem? (i := 3) rfl) rfl dX8_toldOf_38 ?_
      refine lv_iload hx hb dX8_toldOf_41 (lv_at hl 0 rfl) ?_
      refine k_ald (q0 := 8) (n := 24) (F := S1.2 14) hC hP rfl dX8_toldOf_43 h (fun v103 h => ?_)
      obtain rfl := fx_i1 h
      exact Ci.ret hC hr hlk hA9 hP hD hS dX8_toldOf_44
    · refine lv_aload_n hx hb dX8_toldOf_27 rfl (lv_at hl 1 rfl) ?_
      refine k_get (ci := 8) (k := 13) (q0 := 0) (v := .ref (q1 13)) (C := RX8) (T := TX8) (N := 46) hC uX8_toldOf_X8 hP rfl rfl (by decide) (List.mem_of_getElem? (i := 2) rfl) rfl dX8_toldOf_28 ?_
      refine lv_iload hx hb dX8_toldOf_31 (lv_at hl 0 rfl) ?_
      refine k_ald (q0 := 7) (n := 24) (F := S1.2 13) hC hP rfl dX8_toldOf_33 h (fun v104 h => ?_)
      refine lv_goto (tgt := 44) hx hb dX8_toldOf_34 (by decide) ?_
      obtain rfl := fx_i1 h
      exact Ci.ret hC hr hlk hA9 hP hD hS dX8_toldOf_44
  · refine lv_bipush (v := (-6 : Int32)) hx hb dX8_toldOf_18 (by decide) ?_
    refine lv_goto (tgt := 44) hx hb dX8_toldOf_20 (by decide) ?_
    obtain rfl := fx_i1 h
    exact Ci.ret hC hr hlk hA9 hP hD hS dX8_toldOf_44
abbrev RM_X8_behind : Room := { frames := 6, cells := 0, slots := 0, locals := 131 }
def f_X8_behind (N : Nat) (S1 : St) (x1 : Int32) (x2 : Int32) (x3 : Int32) : Option (Int32 × St) :=
  fx_b1 (f_X8_isRow N S1 x1) (fun v101 =>
  (if v101 = 0 then (
  some ((-1 : Int32), S1)) else (
  fx_b1 (f_X8_isPlace N S1 x2) (fun v102 =>
    (if v102 = 0 then (
    some ((-1 : Int32), S1)) else (
    fx_b1 (f_X8_in N (Int32.toInt64 x3) (0 : Int64) (1 : Int64)) (fun v103 =>
      (if v103 = 0 then (
      some ((-2 : Int32), S1)) else (
      fx_b2 (f_X8_refusal N S1) (fun v104 S105 =>
        (if v104 = (-6 : Int32) then (
        fx_b1 (f_X8_goDay N S105) (fun S106 =>
          fx_b1 (f_X8_toldOf N S106 x1 x2 x3) (fun v107 =>
          fx_b1 (f_X8_putBack N S106) (fun S108 =>
          some (v107, S108))))) else (
        some (v104, S105)))))))))))))
set_option maxRecDepth 100000 in
set_option maxHeartbeats 4000000 in
theorem c_X8_behind (l : Launch) (g : GG) (N : Nat) (q1 : Nat → Nat) (S1 : St) (x1 : Int32) (x2 : Int32) (x3 : Int32) (r : Int32) (F1 : St) (h : f_X8_behind N S1 x1 x2 x3 = some (r, F1)) : Ci l yX8_behind wsX8_behind RM_X8_behind g [.ref (q1 100), .int x1, .int x2, .int x3] (wX8 g q1 S1) (wX8 g q1 F1) r := by
  intro sz
  refine Met.ofC (cc := cX8_behind) (maxL := 6) (ret := (some .int)) (by decide) rfl (Nat.le_of_ble_eq_true rfl) ?_
  intro p e s m below meth c hC hr hlk hsz A hA9 hA hP hD hS ls hl
  subst hsz
  have hC : Cx p s m ([.ref (q1 100), .int x1, .int x2, .int x3] : List Value).toArray c RX8 cX8_behind 6 wsX8_behind g := hC
  have hx := hC.1.1
  have hb := hC.1.2.1
  have hml := hC.1.2.2.1
  have hown := hC.1.2.2.2.1
  have hts := hC.1.2.2.2.2
  have hl : lv_has ls 6 [(0, .ref (q1 100)), (1, .int x1), (2, .int x2), (3, .int x3)] := hl
  show W p l e RM_X8_behind s m ([.ref (q1 100), .int x1, .int x2, .int x3] : List Value).toArray below meth c s.heap [] 0 0 (Qi below g [.ref (q1 100), .int x1, .int x2, .int x3] (wX8 g q1 S1) (wX8 g q1 F1) r s) (F0 m 0 ls [])
  unfold f_X8_behind at h
  refine lv_aload_n hx hb dX8_behind_0 rfl (lv_at hl 0 rfl) ?_
  refine lv_iload_n hx hb dX8_behind_1 rfl (lv_at hl 1 rfl) ?_
  obtain ⟨v101, hc115, h⟩ := fx_b1_s h
  refine k_callVi0 (C := RX8) (ci := 8) (qr := 0) (n := 1) (As := [.int x1]) (rest := []) (wc := (wX8 g q1 S1)) (bytes := cX8_isRow) (maxL := 2) (ret := (some .boolean)) hC hl.1 (c_X8_isRow l g N q1 S1 x1 v101 hc115) rfl gX8_behind_X8_isRow (by decide +kernel) rfl rfl ⟨Nat.le_of_ble_eq_true rfl, Nat.le_of_ble_eq_true rfl⟩ rfl rfl rfl (Nat.le_of_ble_eq_true rfl) ⟨Nat.le_of_ble_eq_true rfl, Nat.le_of_ble_eq_true rfl⟩ dX8_behind_2 hP hD hS hA [0, 1, 2, 3, 4, 5, 6, 7, 8, 9, 10, 11, 12, 13, 14, 15, 16, 17, 18, 19, 20, 21, 22, 23] rfl (by decide +kernel) (fun H locs hP hD hS => ?_)
  refine k_if_eq (tgt := 16) hC dX8_behind_5 (by decide) h (fun h => ?_) (fun h => ?_)
  · refine lv_iconst (v := (-1 : Int32)) hx hb dX8_behind_16 (by decide) ?_
    obtain ⟨rfl, rfl⟩ := fx_i2 h
    exact Ci.ret hC hr hlk hA9 hP hD hS dX8_behind_17
  · refine lv_aload_n hx hb dX8_behind_8 rfl (lv_at hl 0 rfl) ?_
    refine lv_iload_n hx hb dX8_behind_9 rfl (lv_at hl 2 rfl) ?_
    obtain ⟨v102, hc114, h⟩ := fx_b1_s h
    refine k_callVi0 (C := RX8) (ci := 8) (qr := 0) (n := 1) (As := [.int x2]) (rest := []) (wc := (wX8 g q1 S1)) (bytes := cX8_isPlace) (maxL := 2) (ret := (some .boolean)) hC hl.1 (c_X8_isPlace l g N q1 S1 x2 v102 hc114) rfl gX8_behind_X8_isPlace (by decide +kernel) rfl rfl ⟨Nat.le_of_ble_eq_true rfl, Nat.le_of_ble_eq_true rfl⟩ rfl rfl rfl (Nat.le_of_ble_eq_true rfl) ⟨Nat.le_of_ble_eq_true rfl, Nat.le_of_ble_eq_true rfl⟩ dX8_behind_10 hP hD hS hA [0, 1, 2, 3, 4, 5, 6, 7, 8, 9, 10, 11, 12, 13, 14, 15, 16, 17, 18, 19, 20, 21, 22, 23] rfl (by decide +kernel) (fun H locs hP hD hS => ?_)
    refine k_if_ne (tgt := 18) hC dX8_behind_13 (by decide) h (fun h => ?_) (fun h => ?_)
    · refine lv_iload_n hx hb dX8_behind_18 rfl (lv_at hl 3 rfl) ?_
      refine lv_i2l hx hb dX8_behind_19 rfl ?_
      refine lv_lconst (v := (0 : Int64)) hx hb dX8_behind_20 (by decide) ?_
      refine lv_lconst (v := (1 : Int64)) hx hb dX8_behind_21 (by decide) ?_
      obtain ⟨v103, hc113, h⟩ := fx_b1_s h
      refine k_callSi0 (n := 3) (As := [.long (Int32.toInt64 x3), .long (0 : Int64), .long (1 : Int64)]) (rest := []) (wc := ([] : va_W)) (bytes := cX8_in) (maxL := 6) (ret := (some .boolean)) hC hl.1 (c_X8_in l g N (Int32.toInt64 x3) (0 : Int64) (1 : Int64) v103 hc113) rfl gX8_behind_X8_in (by decide +kernel) ⟨Nat.le_of_ble_eq_true rfl, Nat.le_of_ble_eq_true rfl⟩ rfl rfl rfl (Nat.le_of_ble_eq_true rfl) ⟨Nat.le_of_ble_eq_true rfl, Nat.le_of_ble_eq_true rfl⟩ dX8_behind_22 hP hD hS hA [] rfl (by decide +kernel) (fun H locs hP hD hS => ?_)
      refine k_if_ne (tgt := 31) hC dX8_behind_25 (by decide) h (fun h => ?_) (fun h => ?_)
      · refine lv_aload_n hx hb dX8_behind_31 rfl (lv_at hl 0 rfl) ?_
        obtain ⟨v104, S105, hc112, h⟩ := fx_b2_s h
        refine k_callVi (C := RX8) (ci := 8) (qr := 0) (n := 0) (As := []) (rest := []) (wc := (wX8 g q1 S1)) (w1 := (wX8 g q1 S105)) (ws2 := (wX8 g q1 S105)) (bytes := cX8_refusal) (maxL := 2) (ret := (some .int)) hC hl.1 (c_X8_refusal l g N q1 S1 v104 S105 hc112) rfl gX8_behind_X8_refusal (by decide +kernel) rfl rfl ⟨Nat.le_of_ble_eq_true rfl, Nat.le_of_ble_eq_true rfl⟩ rfl rfl rfl (Nat.le_of_ble_eq_true rfl) ⟨Nat.le_of_ble_eq_true rfl, Nat.le_of_ble_eq_true rfl⟩ dX8_behind_32 hP hD hS hA [0, 1, 2, 3, 4, 5, 6, 7, 8, 9, 10, 11, 12, 13, 14, 15, 16, 17, 18, 19, 20, 21, 22, 23] rfl (by decide +kernel) [q1 100, q1 6, q1 8, q1 9, q1 10, q1 11, q1 12, q1 13, q1 14, q1 15, q1 16, q1 18, q1 20, q1 21, q1 23, q1 27, q1 30, q1 32, q1 33, q1 34, q1 39, q1 41, q1 42, q1 43] rfl rfl rfl [] ([] : va_W) rfl rfl (n2 := 24) rfl (by decide +kernel) (fun H locs hP hD hS => ?_)
        refine lv_istore (lv' := [(4, .int v104), (0, .ref (q1 100)), (1, .int x1), (2, .int x2), (3, .int x3)]) hx hb dX8_behind_35 hl (by decide) rfl (fun ls hl => ?_)
        refine lv_iload hx hb dX8_behind_37 (lv_at hl 0 rfl) ?_
        refine lv_bipush (v := (-6 : Int32)) hx hb dX8_behind_39 (by decide) ?_
        refine k_icmp_eq (tgt := 47) hC dX8_behind_41 (by decide) h (fun h => ?_) (fun h => ?_)
        · refine lv_aload_n hx hb dX8_behind_47 rfl (lv_at hl 1 rfl) ?_
          obtain ⟨S106, hc111, h⟩ := fx_b1_s h
          refine k_callVv (C := RX8) (ci := 8) (qr := 0) (n := 0) (As := []) (rest := []) (wc := (wX8 g q1 S105)) (w1 := (wX8 g q1 S106)) (ws2 := (wX8 g q1 S106)) (bytes := cX8_goDay) (maxL := 3) (ret := none) hC hl.1 (c_X8_goDay l g N q1 S105 S106 hc111) rfl gX8_behind_X8_goDay (by decide +kernel) rfl rfl ⟨Nat.le_of_ble_eq_true rfl, Nat.le_of_ble_eq_true rfl⟩ rfl rfl rfl (Nat.le_of_ble_eq_true rfl) ⟨Nat.le_of_ble_eq_true rfl, Nat.le_of_ble_eq_true rfl⟩ dX8_behind_48 hP hD hS hA [0, 1, 2, 3, 4, 5, 6, 7, 8, 9, 10, 11, 12, 13, 14, 15, 16, 17, 18, 19, 20, 21, 22, 23] rfl (by decide +kernel) [q1 100, q1 6, q1 8, q1 9, q1 10, q1 11, q1 12, q1 13, q1 14, q1 15, q1 16, q1 18, q1 20, q1 21, q1 23, q1 27, q1 30, q1 32, q1 33, q1 34, q1 39, q1 41, q1 42, q1 43] rfl rfl rfl [] ([] : va_W) rfl rfl (n2 := 24) rfl (by decide +kernel) (fun H locs hP hD hS => ?_)
          refine lv_aload_n hx hb dX8_behind_51 rfl (lv_at hl 1 rfl) ?_
          refine lv_iload_n hx hb dX8_behind_52 rfl (lv_at hl 2 rfl) ?_
          refine lv_iload_n hx hb dX8_behind_53 rfl (lv_at hl 3 rfl) ?_
          refine lv_iload_n hx hb dX8_behind_54 rfl (lv_at hl 4 rfl) ?_
          obtain ⟨v107, hc110, h⟩ := fx_b1_s h
          refine k_callVi0 (C := RX8) (ci := 8) (qr := 0) (n := 3) (As := [.int x1, .int x2, .int x3]) (rest := []) (wc := (wX8 g q1 S106)) (bytes := cX8_toldOf) (maxL := 5) (ret := (some .int)) hC hl.1 (c_X8_toldOf l g N q1 S106 x1 x2 x3 v107 hc110) rfl gX8_behind_X8_toldOf (by decide +kernel) rfl rfl ⟨Nat.le_of_ble_eq_true rfl, Nat.le_of_ble_eq_true rfl⟩ rfl rfl rfl (Nat.le_of_ble_eq_true rfl) ⟨Nat.le_of_ble_eq_true rfl, Nat.le_of_ble_eq_true rfl⟩ dX8_behind_55 hP hD hS hA [0, 1, 2, 3, 4, 5, 6, 7, 8, 9, 10, 11, 12, 13, 14, 15, 16, 17, 18, 19, 20, 21, 22, 23] rfl (by decide +kernel) (fun H locs hP hD hS => ?_)
          refine lv_istore (lv' := [(5, .int v107), (4, .int v104), (0, .ref (q1 100)), (1, .int x1), (2, .int x2), (3, .int x3)]) hx hb dX8_behind_58 hl (by decide) rfl (fun ls hl => ?_)
          refine lv_aload_n hx hb dX8_behind_60 rfl (lv_at hl 2 rfl) ?_
          obtain ⟨S108, hc109, h⟩ := fx_b1_s h
          refine k_callVv (C := RX8) (ci := 8) (qr := 0) (n := 0) (As := []) (rest := []) (wc := (wX8 g q1 S106)) (w1 := (wX8 g q1 S108)) (ws2 := (wX8 g q1 S108)) (bytes := cX8_putBack) (maxL := 2) (ret := none) hC hl.1 (c_X8_putBack l g N q1 S106 S108 hc109) rfl gX8_behind_X8_putBack (by decide +kernel) rfl rfl ⟨Nat.le_of_ble_eq_true rfl, Nat.le_of_ble_eq_true rfl⟩ rfl rfl rfl (Nat.le_of_ble_eq_true rfl) ⟨Nat.le_of_ble_eq_true rfl, Nat.le_of_ble_eq_true rfl⟩ dX8_behind_61 hP hD hS hA [0, 1, 2, 3, 4, 5, 6, 7, 8, 9, 10, 11, 12, 13, 14, 15, 16, 17, 18, 19, 20, 21, 22, 23] rfl (by decide +kernel) [q1 100, q1 6, q1 8, q1 9, q1 10, q1 11, q1 12, q1 13, q1 14, q1 15, q1 16, q1 18, q1 20, q1 21, q1 23, q1 27, q1 30, q1 32, q1 33, q1 34, q1 39, q1 41, q1 42, q1 43] rfl rfl rfl [] ([] : va_W) rfl rfl (n2 := 24) rfl (by decide +kernel) (fun H locs hP hD hS => ?_)
          refine lv_iload hx hb dX8_behind_64 (lv_at hl 0 rfl) ?_
          obtain ⟨rfl, rfl⟩ := fx_i2 h
          exact Ci.ret hC hr hlk hA9 hP hD hS dX8_behind_66
        · refine lv_iload hx hb dX8_behind_44 (lv_at hl 0 rfl) ?_
          obtain ⟨rfl, rfl⟩ := fx_i2 h
          exact Ci.ret hC hr hlk hA9 hP hD hS dX8_behind_46
      · refine lv_bipush (v := (-2 : Int32)) hx hb dX8_behind_28 (by decide) ?_
        obtain ⟨rfl, rfl⟩ := fx_i2 h
        exact Ci.ret hC hr hlk hA9 hP hD hS dX8_behind_30
    · refine lv_iconst (v := (-1 : Int32)) hx hb dX8_behind_16 (by decide) ?_
      obtain ⟨rfl, rfl⟩ := fx_i2 h
      exact Ci.ret hC hr hlk hA9 hP hD hS dX8_behind_17
theorem uX8_done_X8 : ∀ w ∈ u_ws RX8 TX8 46, w ∈ wsX8_done := fun w h => List.mem_cons_of_mem _ (List.mem_append_right _ h)
abbrev RM_X8_done : Room := { frames := 6, cells := 0, slots := 0, locals := 131 }
def f_X8_done (N : Nat) (S1 : St) : Option (Int32 × St) :=
  fx_b2 (f_X8_refusal N S1) (fun v101 S102 =>
  (if v101 = (-6 : Int32) then (
  fx_b1 (f_X8_goDay N S102) (fun S103 =>
    fx_lt (stI S103 19 (0 : Int32)) (fun S104 =>
    some ((S104.1 22), S104)))) else (
  some (v101, S102))))
set_option maxRecDepth 100000 in
set_option maxHeartbeats 4000000 in
theorem c_X8_done (l : Launch) (g : GG) (N : Nat) (q1 : Nat → Nat) (S1 : St) (r : Int32) (F1 : St) (h : f_X8_done N S1 = some (r, F1)) : Ci l yX8_done wsX8_done RM_X8_done g [.ref (q1 100)] (wX8 g q1 S1) (wX8 g q1 F1) r := by
  intro sz
  refine Met.ofC (cc := cX8_done) (maxL := 2) (ret := (some .int)) (by decide) rfl (Nat.le_of_ble_eq_true rfl) ?_
  intro p e s m below meth c hC hr hlk hsz A hA9 hA hP hD hS ls hl
  subst hsz
  have hC : Cx p s m ([.ref (q1 100)] : List Value).toArray c RX8 cX8_done 2 wsX8_done g := hC
  have hx := hC.1.1
  have hb := hC.1.2.1
  have hml := hC.1.2.2.1
  have hown := hC.1.2.2.2.1
  have hts := hC.1.2.2.2.2
  have hl : lv_has ls 2 [(0, .ref (q1 100))] := hl
  show W p l e RM_X8_done s m ([.ref (q1 100)] : List Value).toArray below meth c s.heap [] 0 0 (Qi below g [.ref (q1 100)] (wX8 g q1 S1) (wX8 g q1 F1) r s) (F0 m 0 ls [])
  unfold f_X8_done at h
  refine lv_aload_n hx hb dX8_done_0 rfl (lv_at hl 0 rfl) ?_
  obtain ⟨v101, S102, hc106, h⟩ := fx_b2_s h
  refine k_callVi (C := RX8) (ci := 8) (qr := 0) (n := 0) (As := []) (rest := []) (wc := (wX8 g q1 S1)) (w1 := (wX8 g q1 S102)) (ws2 := (wX8 g q1 S102)) (bytes := cX8_refusal) (maxL := 2) (ret := (some .int)) hC hl.1 (c_X8_refusal l g N q1 S1 v101 S102 hc106) rfl gX8_done_X8_refusal (by decide +kernel) rfl rfl ⟨Nat.le_of_ble_eq_true rfl, Nat.le_of_ble_eq_true rfl⟩ rfl rfl rfl (Nat.le_of_ble_eq_true rfl) ⟨Nat.le_of_ble_eq_true rfl, Nat.le_of_ble_eq_true rfl⟩ dX8_done_1 hP hD hS hA [0, 1, 2, 3, 4, 5, 6, 7, 8, 9, 10, 11, 12, 13, 14, 15, 16, 17, 18, 19, 20, 21, 22, 23] rfl (by decide +kernel) [q1 100, q1 6, q1 8, q1 9, q1 10, q1 11, q1 12, q1 13, q1 14, q1 15, q1 16, q1 18, q1 20, q1 21, q1 23, q1 27, q1 30, q1 32, q1 33, q1 34, q1 39, q1 41, q1 42, q1 43] rfl rfl rfl [] ([] : va_W) rfl rfl (n2 := 24) rfl (by decide +kernel) (fun H locs hP hD hS => ?_)
  refine lv_istore_n (lv' := [(1, .int v101), (0, .ref (q1 100))]) hx hb dX8_done_4 rfl hl (by decide) rfl (fun ls hl => ?_)
  refine lv_iload_n hx hb dX8_done_5 rfl (lv_at hl 0 rfl) ?_
  refine lv_bipush (v := (-6 : Int32)) hx hb dX8_done_6 (by decide) ?_
  refine k_icmp_eq (tgt := 13) hC dX8_done_8 (by decide) h (fun h => ?_) (fun h => ?_)
  · refine lv_aload_n hx hb dX8_done_13 rfl (lv_at hl 1 rfl) ?_
    obtain ⟨S103, hc105, h⟩ := fx_b1_s h
    refine k_callVv (C := RX8) (ci := 8) (qr := 0) (n := 0) (As := []) (rest := []) (wc := (wX8 g q1 S102)) (w1 := (wX8 g q1 S103)) (ws2 := (wX8 g q1 S103)) (bytes := cX8_goDay) (maxL := 3) (ret := none) hC hl.1 (c_X8_goDay l g N q1 S102 S103 hc105) rfl gX8_done_X8_goDay (by decide +kernel) rfl rfl ⟨Nat.le_of_ble_eq_true rfl, Nat.le_of_ble_eq_true rfl⟩ rfl rfl rfl (Nat.le_of_ble_eq_true rfl) ⟨Nat.le_of_ble_eq_true rfl, Nat.le_of_ble_eq_true rfl⟩ dX8_done_14 hP hD hS hA [0, 1, 2, 3, 4, 5, 6, 7, 8, 9, 10, 11, 12, 13, 14, 15, 16, 17, 18, 19, 20, 21, 22, 23] rfl (by decide +kernel) [q1 100, q1 6, q1 8, q1 9, q1 10, q1 11, q1 12, q1 13, q1 14, q1 15, q1 16, q1 18, q1 20, q1 21, q1 23, q1 27, q1 30, q1 32, q1 33, q1 34, q1 39, q1 41, q1 42, q1 43] rfl rfl rfl [] ([] : va_W) rfl rfl (n2 := 24) rfl (by decide +kernel) (fun H locs hP hD hS => ?_)
    refine lv_aload_n hx hb dX8_done_17 rfl (lv_at hl 1 rfl) ?_
    refine lv_iconst (v := (0 : Int32)) hx hb dX8_done_18 (by decide) ?_
    refine k_put (ci := 8) (k := 19) (q0 := 0) (C := RX8) (T := TX8) (N := 46) (S2 := stI S103 19 (0 : Int32)) tyX8 (fun S => (wX8 g q1 S)) hC uX8_done_X8 tyX8_ok nmX8 hP hD hS rfl rfl (by decide) (List.mem_of_getElem? (i := 1) rfl) rfl (tyX8_ok 19 (by decide)) (Nat.le_of_ble_eq_true rfl) dX8_done_19 rfl h (fun S104 h H locs hP hD hS => ?_)
    refine lv_aload_n hx hb dX8_done_22 rfl (lv_at hl 1 rfl) ?_
    refine k_get (ci := 8) (k := 22) (q0 := 0) (v := .int (S104.1 22)) (C := RX8) (T := TX8) (N := 46) hC uX8_done_X8 hP rfl rfl (by decide) (List.mem_of_getElem? (i := 2) rfl) rfl dX8_done_23 ?_
    obtain ⟨rfl, rfl⟩ := fx_i2 h
    exact Ci.ret hC hr hlk hA9 hP hD hS dX8_done_26
  · refine lv_iload_n hx hb dX8_done_11 rfl (lv_at hl 0 rfl) ?_
    obtain ⟨rfl, rfl⟩ := fx_i2 h
    exact Ci.ret hC hr hlk hA9 hP hD hS dX8_done_12
theorem uX8_out_X8 : ∀ w ∈ u_ws RX8 TX8 46, w ∈ wsX8_out := fun w h => List.mem_cons_of_mem _ (List.mem_append_right _ h)
abbrev RM_X8_out : Room := { frames := 1, cells := 0, slots := 0, locals := 25 }
def f_X8_out (N : Nat) (S1 : St) (x1 : Int32) : Option (Int32) :=
  fx_b1 (f_X8_in N (Int32.toInt64 x1) (0 : Int64) (3 : Int64)) (fun v101 =>
  (if v101 = 0 then (
  some (-2 : Int32)) else (
  fx_ald 4 (S1.2 15) x1 (fun v102 =>
    some v102))))
set_option maxRecDepth 100000 in
set_option maxHeartbeats 4000000 in
theorem c_X8_out (l : Launch) (g : GG) (N : Nat) (q1 : Nat → Nat) (S1 : St) (x1 : Int32) (r : Int32) (h : f_X8_out N S1 x1 = some r) : Ci l yX8_out wsX8_out RM_X8_out g [.ref (q1 100), .int x1] (wX8 g q1 S1) (wX8 g q1 S1) r := by
  intro sz
  refine Met.ofC (cc := cX8_out) (maxL := 2) (ret := (some .int)) (by decide) rfl (Nat.le_of_ble_eq_true rfl) ?_
  intro p e s m below meth c hC hr hlk hsz A hA9 hA hP hD hS ls hl
  subst hsz
  have hC : Cx p s m ([.ref (q1 100), .int x1] : List Value).toArray c RX8 cX8_out 2 wsX8_out g := hC
  have hx := hC.1.1
  have hb := hC.1.2.1
  have hml := hC.1.2.2.1
  have hown := hC.1.2.2.2.1
  have hts := hC.1.2.2.2.2
  have hl : lv_has ls 2 [(0, .ref (q1 100)), (1, .int x1)] := hl
  show W p l e RM_X8_out s m ([.ref (q1 100), .int x1] : List Value).toArray below meth c s.heap [] 0 0 (Qi below g [.ref (q1 100), .int x1] (wX8 g q1 S1) (wX8 g q1 S1) r s) (F0 m 0 ls [])
  unfold f_X8_out at h
  refine lv_iload_n hx hb dX8_out_0 rfl (lv_at hl 1 rfl) ?_
  refine lv_i2l hx hb dX8_out_1 rfl ?_
  refine lv_lconst (v := (0 : Int64)) hx hb dX8_out_2 (by decide) ?_
  refine lv_ldc2 (v := (3 : Int64)) hx hb hown (hts _ (List.mem_of_getElem? (i := 1) rfl)) dX8_out_3 ?_
  obtain ⟨v101, hc103, h⟩ := fx_b1_s h
  refine k_callSi0 (n := 3) (As := [.long (Int32.toInt64 x1), .long (0 : Int64), .long (3 : Int64)]) (rest := []) (wc := ([] : va_W)) (bytes := cX8_in) (maxL := 6) (ret := (some .boolean)) hC hl.1 (c_X8_in l g N (Int32.toInt64 x1) (0 : Int64) (3 : Int64) v101 hc103) rfl gX8_out_X8_in (by decide +kernel) ⟨Nat.le_of_ble_eq_true rfl, Nat.le_of_ble_eq_true rfl⟩ rfl rfl rfl (Nat.le_of_ble_eq_true rfl) ⟨Nat.le_of_ble_eq_true rfl, Nat.le_of_ble_eq_true rfl⟩ dX8_out_6 hP hD hS hA [] rfl (by decide +kernel) (fun H locs hP hD hS => ?_)
  refine k_if_eq (tgt := 21) hC dX8_out_9 (by decide) h (fun h => ?_) (fun h => ?_)
  · refine lv_bipush (v := (-2 : Int32)) hx hb dX8_out_21 (by decide) ?_
    obtain rfl := fx_i1 h
    exact Ci.ret hC hr hlk hA9 hP hD hS dX8_out_23
  · refine lv_aload_n hx hb dX8_out_12 rfl (lv_at hl 0 rfl) ?_
    refine k_get (ci := 8) (k := 15) (q0 := 0) (v := .ref (q1 15)) (C := RX8) (T := TX8) (N := 46) hC uX8_out_X8 hP rfl rfl (by decide) (List.mem_of_getElem? (i := 2) rfl) rfl dX8_out_13 ?_
    refine lv_iload_n hx hb dX8_out_16 rfl (lv_at hl 1 rfl) ?_
    refine k_ald (q0 := 9) (n := 4) (F := S1.2 15) hC hP rfl dX8_out_17 h (fun v102 h => ?_)
    refine lv_goto (tgt := 23) hx hb dX8_out_18 (by decide) ?_
    obtain rfl := fx_i1 h
    exact Ci.ret hC hr hlk hA9 hP hD hS dX8_out_23
abbrev RM_X8_state : Room := { frames := 2, cells := 0, slots := 0, locals := 46 }
def f_X8_state (N : Nat) (S1 : St) (x1 : Int32) (x2 : Int32) (x3 : Int32) : Option (Int32) :=
  fx_b1 (f_X8_isRow N S1 x1) (fun v101 =>
  (if v101 = 0 then (
  some (-1 : Int32)) else (
  fx_b1 (f_X8_isPlace N S1 x2) (fun v102 =>
    (if v102 = 0 then (
    some (-1 : Int32)) else (
    fx_b1 (f_X8_in N (Int32.toInt64 x3) (0 : Int64) (1 : Int64)) (fun v103 =>
      (if v103 = 0 then (
      some (-2 : Int32)) else (
      fx_b1 (f_X8_toldOf N S1 x1 x2 x3) (fun v104 =>
        some v104))))))))))
set_option maxRecDepth 100000 in
set_option maxHeartbeats 4000000 in
theorem c_X8_state (l : Launch) (g : GG) (N : Nat) (q1 : Nat → Nat) (S1 : St) (x1 : Int32) (x2 : Int32) (x3 : Int32) (r : Int32) (h : f_X8_state N S1 x1 x2 x3 = some r) : Ci l yX8_state wsX8_state RM_X8_state g [.ref (q1 100), .int x1, .int x2, .int x3] (wX8 g q1 S1) (wX8 g q1 S1) r := by
  intro sz
  refine Met.ofC (cc := cX8_state) (maxL := 4) (ret := (some .int)) (by decide) rfl (Nat.le_of_ble_eq_true rfl) ?_
  intro p e s m below meth c hC hr hlk hsz A hA9 hA hP hD hS ls hl
  subst hsz
  have hC : Cx p s m ([.ref (q1 100), .int x1, .int x2, .int x3] : List Value).toArray c RX8 cX8_state 4 wsX8_state g := hC
  have hx := hC.1.1
  have hb := hC.1.2.1
  have hml := hC.1.2.2.1
  have hown := hC.1.2.2.2.1
  have hts := hC.1.2.2.2.2
  have hl : lv_has ls 4 [(0, .ref (q1 100)), (1, .int x1), (2, .int x2), (3, .int x3)] := hl
  show W p l e RM_X8_state s m ([.ref (q1 100), .int x1, .int x2, .int x3] : List Value).toArray below meth c s.heap [] 0 0 (Qi below g [.ref (q1 100), .int x1, .int x2, .int x3] (wX8 g q1 S1) (wX8 g q1 S1) r s) (F0 m 0 ls [])
  unfold f_X8_state at h
  refine lv_aload_n hx hb dX8_state_0 rfl (lv_at hl 0 rfl) ?_
  refine lv_iload_n hx hb dX8_state_1 rfl (lv_at hl 1 rfl) ?_
  obtain ⟨v101, hc108, h⟩ := fx_b1_s h
  refine k_callVi0 (C := RX8) (ci := 8) (qr := 0) (n := 1) (As := [.int x1]) (rest := []) (wc := (wX8 g q1 S1)) (bytes := cX8_isRow) (maxL := 2) (ret := (some .boolean)) hC hl.1 (c_X8_isRow l g N q1 S1 x1 v101 hc108) rfl gX8_state_X8_isRow (by decide +kernel) rfl rfl ⟨Nat.le_of_ble_eq_true rfl, Nat.le_of_ble_eq_true rfl⟩ rfl rfl rfl (Nat.le_of_ble_eq_true rfl) ⟨Nat.le_of_ble_eq_true rfl, Nat.le_of_ble_eq_true rfl⟩ dX8_state_2 hP hD hS hA [0, 1, 2, 3, 4, 5, 6, 7, 8, 9, 10, 11, 12, 13, 14, 15, 16, 17, 18, 19, 20, 21, 22, 23] rfl (by decide +kernel) (fun H locs hP hD hS => ?_)
  refine k_if_eq (tgt := 16) hC dX8_state_5 (by decide) h (fun h => ?_) (fun h => ?_)
  · refine lv_iconst (v := (-1 : Int32)) hx hb dX8_state_16 (by decide) ?_
    obtain rfl := fx_i1 h
    exact Ci.ret hC hr hlk hA9 hP hD hS dX8_state_17
  · refine lv_aload_n hx hb dX8_state_8 rfl (lv_at hl 0 rfl) ?_
    refine lv_iload_n hx hb dX8_state_9 rfl (lv_at hl 2 rfl) ?_
    obtain ⟨v102, hc107, h⟩ := fx_b1_s h
    refine k_callVi0 (C := RX8) (ci := 8) (qr := 0) (n := 1) (As := [.int x2]) (rest := []) (wc := (wX8 g q1 S1)) (bytes := cX8_isPlace) (maxL := 2) (ret := (some .boolean)) hC hl.1 (c_X8_isPlace l g N q1 S1 x2 v102 hc107) rfl gX8_state_X8_isPlace (by decide +kernel) rfl rfl ⟨Nat.le_of_ble_eq_true rfl, Nat.le_of_ble_eq_true rfl⟩ rfl rfl rfl (Nat.le_of_ble_eq_true rfl) ⟨Nat.le_of_ble_eq_true rfl, Nat.le_of_ble_eq_true rfl⟩ dX8_state_10 hP hD hS hA [0, 1, 2, 3, 4, 5, 6, 7, 8, 9, 10, 11, 12, 13, 14, 15, 16, 17, 18, 19, 20, 21, 22, 23] rfl (by decide +kernel) (fun H locs hP hD hS => ?_)
    refine k_if_ne (tgt := 18) hC dX8_state_13 (by decide) h (fun h => ?_) (fun h => ?_)
    · refine lv_iload_n hx hb dX8_state_18 rfl (lv_at hl 3 rfl) ?_
      refine lv_i2l hx hb dX8_state_19 rfl ?_
      refine lv_lconst (v := (0 : Int64)) hx hb dX8_state_20 (by decide) ?_
      refine lv_lconst (v := (1 : Int64)) hx hb dX8_state_21 (by decide) ?_
      obtain ⟨v103, hc106, h⟩ := fx_b1_s h
      refine k_callSi0 (n := 3) (As := [.long (Int32.toInt64 x3), .long (0 : Int64), .long (1 : Int64)]) (rest := []) (wc := ([] : va_W)) (bytes := cX8_in) (maxL := 6) (ret := (some .boolean)) hC hl.1 (c_X8_in l g N (Int32.toInt64 x3) (0 : Int64) (1 : Int64) v103 hc106) rfl gX8_state_X8_in (by decide +kernel) ⟨Nat.le_of_ble_eq_true rfl, Nat.le_of_ble_eq_true rfl⟩ rfl rfl rfl (Nat.le_of_ble_eq_true rfl) ⟨Nat.le_of_ble_eq_true rfl, Nat.le_of_ble_eq_true rfl⟩ dX8_state_22 hP hD hS hA [] rfl (by decide +kernel) (fun H locs hP hD hS => ?_)
      refine k_if_eq (tgt := 38) hC dX8_state_25 (by decide) h (fun h => ?_) (fun h => ?_)
      · refine lv_bipush (v := (-2 : Int32)) hx hb dX8_state_38 (by decide) ?_
        obtain rfl := fx_i1 h
        exact Ci.ret hC hr hlk hA9 hP hD hS dX8_state_40
      · refine lv_aload_n hx hb dX8_state_28 rfl (lv_at hl 0 rfl) ?_
        refine lv_iload_n hx hb dX8_state_29 rfl (lv_at hl 1 rfl) ?_
        refine lv_iload_n hx hb dX8_state_30 rfl (lv_at hl 2 rfl) ?_
        refine lv_iload_n hx hb dX8_state_31 rfl (lv_at hl 3 rfl) ?_
        obtain ⟨v104, hc105, h⟩ := fx_b1_s h
        refine k_callVi0 (C := RX8) (ci := 8) (qr := 0) (n := 3) (As := [.int x1, .int x2, .int x3]) (rest := []) (wc := (wX8 g q1 S1)) (bytes := cX8_toldOf) (maxL := 5) (ret := (some .int)) hC hl.1 (c_X8_toldOf l g N q1 S1 x1 x2 x3 v104 hc105) rfl gX8_state_X8_toldOf (by decide +kernel) rfl rfl ⟨Nat.le_of_ble_eq_true rfl, Nat.le_of_ble_eq_true rfl⟩ rfl rfl rfl (Nat.le_of_ble_eq_true rfl) ⟨Nat.le_of_ble_eq_true rfl, Nat.le_of_ble_eq_true rfl⟩ dX8_state_32 hP hD hS hA [0, 1, 2, 3, 4, 5, 6, 7, 8, 9, 10, 11, 12, 13, 14, 15, 16, 17, 18, 19, 20, 21, 22, 23] rfl (by decide +kernel) (fun H locs hP hD hS => ?_)
        refine lv_goto (tgt := 40) hx hb dX8_state_35 (by decide) ?_
        obtain rfl := fx_i1 h
        exact Ci.ret hC hr hlk hA9 hP hD hS dX8_state_40
    · refine lv_iconst (v := (-1 : Int32)) hx hb dX8_state_16 (by decide) ?_
      obtain rfl := fx_i1 h
      exact Ci.ret hC hr hlk hA9 hP hD hS dX8_state_17
theorem uX8_spoilt_X8 : ∀ w ∈ u_ws RX8 TX8 46, w ∈ wsX8_spoilt := fun w h => List.mem_cons_of_mem _ (List.mem_append_right _ h)
abbrev RM_X8_spoilt : Room := { frames := 6, cells := 0, slots := 0, locals := 131 }
def f_X8_spoilt (N : Nat) (S1 : St) : Option (Int32 × St) :=
  fx_b2 (f_X8_refusal N S1) (fun v101 S102 =>
  (if v101 = (-6 : Int32) then (
  some ((S102.1 26), S102)) else (
  some (v101, S102))))
set_option maxRecDepth 100000 in
set_option maxHeartbeats 4000000 in
theorem c_X8_spoilt (l : Launch) (g : GG) (N : Nat) (q1 : Nat → Nat) (S1 : St) (r : Int32) (F1 : St) (h : f_X8_spoilt N S1 = some (r, F1)) : Ci l yX8_spoilt wsX8_spoilt RM_X8_spoilt g [.ref (q1 100)] (wX8 g q1 S1) (wX8 g q1 F1) r := by
  intro sz
  refine Met.ofC (cc := cX8_spoilt) (maxL := 2) (ret := (some .int)) (by decide) rfl (Nat.le_of_ble_eq_true rfl) ?_
  intro p e s m below meth c hC hr hlk hsz A hA9 hA hP hD hS ls hl
  subst hsz
  have hC : Cx p s m ([.ref (q1 100)] : List Value).toArray c RX8 cX8_spoilt 2 wsX8_spoilt g := hC
  have hx := hC.1.1
  have hb := hC.1.2.1
  have hml := hC.1.2.2.1
  have hown := hC.1.2.2.2.1
  have hts := hC.1.2.2.2.2
  have hl : lv_has ls 2 [(0, .ref (q1 100))] := hl
  show W p l e RM_X8_spoilt s m ([.ref (q1 100)] : List Value).toArray below meth c s.heap [] 0 0 (Qi below g [.ref (q1 100)] (wX8 g q1 S1) (wX8 g q1 F1) r s) (F0 m 0 ls [])
  unfold f_X8_spoilt at h
  refine lv_aload_n hx hb dX8_spoilt_0 rfl (lv_at hl 0 rfl) ?_
  obtain ⟨v101, S102, hc103, h⟩ := fx_b2_s h
  refine k_callVi (C := RX8) (ci := 8) (qr := 0) (n := 0) (As := []) (rest := []) (wc := (wX8 g q1 S1)) (w1 := (wX8 g q1 S102)) (ws2 := (wX8 g q1 S102)) (bytes := cX8_refusal) (maxL := 2) (ret := (some .int)) hC hl.1 (c_X8_refusal l g N q1 S1 v101 S102 hc103) rfl gX8_spoilt_X8_refusal (by decide +kernel) rfl rfl ⟨Nat.le_of_ble_eq_true rfl, Nat.le_of_ble_eq_true rfl⟩ rfl rfl rfl (Nat.le_of_ble_eq_true rfl) ⟨Nat.le_of_ble_eq_true rfl, Nat.le_of_ble_eq_true rfl⟩ dX8_spoilt_1 hP hD hS hA [0, 1, 2, 3, 4, 5, 6, 7, 8, 9, 10, 11, 12, 13, 14, 15, 16, 17, 18, 19, 20, 21, 22, 23] rfl (by decide +kernel) [q1 100, q1 6, q1 8, q1 9, q1 10, q1 11, q1 12, q1 13, q1 14, q1 15, q1 16, q1 18, q1 20, q1 21, q1 23, q1 27, q1 30, q1 32, q1 33, q1 34, q1 39, q1 41, q1 42, q1 43] rfl rfl rfl [] ([] : va_W) rfl rfl (n2 := 24) rfl (by decide +kernel) (fun H locs hP hD hS => ?_)
  refine lv_istore_n (lv' := [(1, .int v101), (0, .ref (q1 100))]) hx hb dX8_spoilt_4 rfl hl (by decide) rfl (fun ls hl => ?_)
  refine lv_iload_n hx hb dX8_spoilt_5 rfl (lv_at hl 0 rfl) ?_
  refine lv_bipush (v := (-6 : Int32)) hx hb dX8_spoilt_6 (by decide) ?_
  refine k_icmp_eq (tgt := 15) hC dX8_spoilt_8 (by decide) h (fun h => ?_) (fun h => ?_)
  · refine lv_aload_n hx hb dX8_spoilt_15 rfl (lv_at hl 1 rfl) ?_
    refine k_get (ci := 8) (k := 26) (q0 := 0) (v := .int (S102.1 26)) (C := RX8) (T := TX8) (N := 46) hC uX8_spoilt_X8 hP rfl rfl (by decide) (List.mem_of_getElem? (i := 1) rfl) rfl dX8_spoilt_16 ?_
    obtain ⟨rfl, rfl⟩ := fx_i2 h
    exact Ci.ret hC hr hlk hA9 hP hD hS dX8_spoilt_19
  · refine lv_iload_n hx hb dX8_spoilt_11 rfl (lv_at hl 0 rfl) ?_
    refine lv_goto (tgt := 19) hx hb dX8_spoilt_12 (by decide) ?_
    obtain ⟨rfl, rfl⟩ := fx_i2 h
    exact Ci.ret hC hr hlk hA9 hP hD hS dX8_spoilt_19
