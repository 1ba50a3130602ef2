/-! laid by wip/whole/gen.py out of the printed names and instructions: what each method does (f_), and that its bytecode does it (c_) -/
theorem uX3_hasRow_X3 : ∀ w ∈ u_ws RX3 TX3 11, w ∈ wsX3_hasRow := fun w h => List.mem_cons_of_mem _ (List.mem_append_right _ h)
abbrev RM_X3_hasRow : Room := { frames := 1, cells := 0, slots := 0, locals := 22 }
def f_X3_hasRow (N : Nat) (S1 : St) (x1 : Int32) : Option (Int32) :=
  fx_b1 (f_X7_within N x1 (0 : Int32) ((S1.1 0) - (1 : Int32))) (fun v101 =>
  fx_bz v101 (some v101))
set_option maxRecDepth 100000 in
set_option maxHeartbeats 4000000 in
theorem c_X3_hasRow (l : Launch) (g : GG) (N : Nat) (q1 : Nat → Nat) (S1 : St) (x1 : Int32) (r : Int32) (h : f_X3_hasRow N S1 x1 = some r) : Ci l yX3_hasRow wsX3_hasRow RM_X3_hasRow g [.ref (q1 100), .int x1] (wX3 g q1 S1) (wX3 g q1 S1) r := by
  intro sz
  refine Met.ofC (cc := cX3_hasRow) (maxL := 2) (ret := (some .boolean)) (by decide) rfl (Nat.le_of_ble_eq_true rfl) ?_
  intro p e s m below meth c hC hr hlk hsz A hA9 hA hP hD hS ls hl
  subst hsz
  have hC : Cx p s m ([.ref (q1 100), .int x1] : List Value).toArray c RX3 cX3_hasRow 2 wsX3_hasRow g := hC
  have hx := hC.1.1
  have hb := hC.1.2.1
  have hml := hC.1.2.2.1
  have hown := hC.1.2.2.2.1
  have hts := hC.1.2.2.2.2
  have hl : lv_has ls 2 [(0, .ref (q1 100)), (1, .int x1)] := hl
  show W p l e RM_X3_hasRow s m ([.ref (q1 100), .int x1] : List Value).toArray below meth c s.heap [] 0 0 (Qi below g [.ref (q1 100), .int x1] (wX3 g q1 S1) (wX3 g q1 S1) r s) (F0 m 0 ls [])
  unfold f_X3_hasRow at h
  refine lv_iload_n hx hb dX3_hasRow_0 rfl (lv_at hl 1 rfl) ?_
  refine lv_iconst (v := (0 : Int32)) hx hb dX3_hasRow_1 (by decide) ?_
  refine lv_aload_n hx hb dX3_hasRow_2 rfl (lv_at hl 0 rfl) ?_
  refine k_get (ci := 3) (k := 0) (q0 := 0) (v := .int (S1.1 0)) (C := RX3) (T := TX3) (N := 11) hC uX3_hasRow_X3 hP rfl rfl (by decide) (List.mem_of_getElem? (i := 1) rfl) rfl dX3_hasRow_3 ?_
  refine lv_iconst (v := (1 : Int32)) hx hb dX3_hasRow_6 (by decide) ?_
  refine lv_isub hx hb dX3_hasRow_7 ?_
  obtain ⟨v101, hc102, h⟩ := fx_b1_s h
  refine k_callNi0 (n := 3) (As := [.int x1, .int (0 : Int32), .int ((S1.1 0) - (1 : Int32))]) (rest := []) (wc := ([] : va_W)) (bytes := cX7_within) (maxL := 3) (ret := (some .boolean)) hC hl.1 (c_X7_within l g N x1 (0 : Int32) ((S1.1 0) - (1 : Int32)) v101 hc102) rfl gX3_hasRow_X7_within_n59 (List.mem_of_getElem? (i := 9) rfl) (List.mem_of_getElem? (i := 3) rfl) (List.mem_of_getElem? (i := 2) rfl) (by decide +kernel) ⟨Nat.le_of_ble_eq_true rfl, Nat.le_of_ble_eq_true rfl⟩ rfl rfl rfl (Nat.le_of_ble_eq_true rfl) ⟨Nat.le_of_ble_eq_true rfl, Nat.le_of_ble_eq_true rfl⟩ dX3_hasRow_8 hP hD hS hA [] rfl (by decide +kernel) (fun H locs hP hD hS => ?_)
  obtain ⟨hz, h⟩ := fx_bz_s h
  obtain rfl := fx_i1 h
  exact Ci.retz hC hr hlk hz.1 hA9 hP hD hS dX3_hasRow_11
theorem uX3_isEmpty_X3 : ∀ w ∈ u_ws RX3 TX3 11, w ∈ wsX3_isEmpty := fun w h => List.mem_cons_of_mem _ (List.mem_append_right _ h)
abbrev RM_X3_isEmpty : Room := { frames := 0, cells := 0, slots := 0, locals := 0 }
def f_X3_isEmpty (N : Nat) (S1 : St) (x1 : Int32) : Option (Int32) :=
  fx_ald 4 (S1.2 7) x1 (fun v101 =>
  (if 0 < v101 then (
  some (0 : Int32)) else (
  some (1 : Int32))))
set_option maxRecDepth 100000 in
set_option maxHeartbeats 4000000 in
theorem c_X3_isEmpty (l : Launch) (g : GG) (N : Nat) (q1 : Nat → Nat) (S1 : St) (x1 : Int32) (r : Int32) (h : f_X3_isEmpty N S1 x1 = some r) : Ci l yX3_isEmpty wsX3_isEmpty RM_X3_isEmpty g [.ref (q1 100), .int x1] (wX3 g q1 S1) (wX3 g q1 S1) r := by
  intro sz
  refine Met.ofC (cc := cX3_isEmpty) (maxL := 2) (ret := (some .boolean)) (by decide) rfl (Nat.le_of_ble_eq_true rfl) ?_
  intro p e s m below meth c hC hr hlk hsz A hA9 hA hP hD hS ls hl
  subst hsz
  have hC : Cx p s m ([.ref (q1 100), .int x1] : List Value).toArray c RX3 cX3_isEmpty 2 wsX3_isEmpty g := hC
  have hx := hC.1.1
  have hb := hC.1.2.1
  have hml := hC.1.2.2.1
  have hown := hC.1.2.2.2.1
  have hts := hC.1.2.2.2.2
  have hl : lv_has ls 2 [(0, .ref (q1 100)), (1, .int x1)] := hl
  show W p l e RM_X3_isEmpty s m ([.ref (q1 100), .int x1] : List Value).toArray below meth c s.heap [] 0 0 (Qi below g [.ref (q1 100), .int x1] (wX3 g q1 S1) (wX3 g q1 S1) r s) (F0 m 0 ls [])
  unfold f_X3_isEmpty at h
  refine lv_aload_n hx hb dX3_isEmpty_0 rfl (lv_at hl 0 rfl) ?_
  refine k_get (ci := 3) (k := 7) (q0 := 0) (v := .ref (q1 7)) (C := RX3) (T := TX3) (N := 11) hC uX3_isEmpty_X3 hP rfl rfl (by decide) (List.mem_of_getElem? (i := 1) rfl) rfl dX3_isEmpty_1 ?_
  refine lv_iload_n hx hb dX3_isEmpty_4 rfl (lv_at hl 1 rfl) ?_
  refine k_ald (q0 := 2) (n := 4) (F := S1.2 7) hC hP rfl dX3_isEmpty_5 h (fun v101 h => ?_)
  refine k_if_gt (tgt := 13) hC dX3_isEmpty_6 (by decide) h (fun h => ?_) (fun h => ?_)
  · refine lv_iconst (v := (0 : Int32)) hx hb dX3_isEmpty_13 (by decide) ?_
    obtain rfl := fx_i1 h
    exact Ci.retz hC hr hlk rfl hA9 hP hD hS dX3_isEmpty_14
  · refine lv_iconst (v := (1 : Int32)) hx hb dX3_isEmpty_9 (by decide) ?_
    refine lv_goto (tgt := 14) hx hb dX3_isEmpty_10 (by decide) ?_
    obtain rfl := fx_i1 h
    exact Ci.retz hC hr hlk rfl hA9 hP hD hS dX3_isEmpty_14
theorem uX3_isFull_X3 : ∀ w ∈ u_ws RX3 TX3 11, w ∈ wsX3_isFull := fun w h => List.mem_cons_of_mem _ (List.mem_append_right _ h)
abbrev RM_X3_isFull : Room := { frames := 0, cells := 0, slots := 0, locals := 0 }
def f_X3_isFull (N : Nat) (S1 : St) (x1 : Int32) : Option (Int32) :=
  fx_ald 4 (S1.2 7) x1 (fun v101 =>
  (if v101 < (S1.1 1) then (
  some (0 : Int32)) else (
  some (1 : Int32))))
set_option maxRecDepth 100000 in
set_option maxHeartbeats 4000000 in
theorem c_X3_isFull (l : Launch) (g : GG) (N : Nat) (q1 : Nat → Nat) (S1 : St) (x1 : Int32) (r : Int32) (h : f_X3_isFull N S1 x1 = some r) : Ci l yX3_isFull wsX3_isFull RM_X3_isFull g [.ref (q1 100), .int x1] (wX3 g q1 S1) (wX3 g q1 S1) r := by
  intro sz
  refine Met.ofC (cc := cX3_isFull) (maxL := 2) (ret := (some .boolean)) (by decide) rfl (Nat.le_of_ble_eq_true rfl) ?_
  intro p e s m below meth c hC hr hlk hsz A hA9 hA hP hD hS ls hl
  subst hsz
  have hC : Cx p s m ([.ref (q1 100), .int x1] : List Value).toArray c RX3 cX3_isFull 2 wsX3_isFull g := hC
  have hx := hC.1.1
  have hb := hC.1.2.1
  have hml := hC.1.2.2.1
  have hown := hC.1.2.2.2.1
  have hts := hC.1.2.2.2.2
  have hl : lv_has ls 2 [(0, .ref (q1 100)), (1, .int x1)] := hl
  show W p l e RM_X3_isFull s m ([.ref (q1 100), .int x1] : List Value).toArray below meth c s.heap [] 0 0 (Qi below g [.ref (q1 100), .int x1] (wX3 g q1 S1) (wX3 g q1 S1) r s) (F0 m 0 ls [])
  unfold f_X3_isFull at h
  refine lv_aload_n hx hb dX3_isFull_0 rfl (lv_at hl 0 rfl) ?_
  refine k_get (ci := 3) (k := 7) (q0 := 0) (v := .ref (q1 7)) (C := RX3) (T := TX3) (N := 11) hC uX3_isFull_X3 hP rfl rfl (by decide) (List.mem_of_getElem? (i := 1) rfl) rfl dX3_isFull_1 ?_
  refine lv_iload_n hx hb dX3_isFull_4 rfl (lv_at hl 1 rfl) ?_
  refine k_ald (q0 := 2) (n := 4) (F := S1.2 7) hC hP rfl dX3_isFull_5 h (fun v101 h => ?_)
  refine lv_aload_n hx hb dX3_isFull_6 rfl (lv_at hl 0 rfl) ?_
  refine k_get (ci := 3) (k := 1) (q0 := 0) (v := .int (S1.1 1)) (C := RX3) (T := TX3) (N := 11) hC uX3_isFull_X3 hP rfl rfl (by decide) (List.mem_of_getElem? (i := 2) rfl) rfl dX3_isFull_7 ?_
  refine k_icmp_lt (tgt := 17) hC dX3_isFull_10 (by decide) h (fun h => ?_) (fun h => ?_)
  · refine lv_iconst (v := (0 : Int32)) hx hb dX3_isFull_17 (by decide) ?_
    obtain rfl := fx_i1 h
    exact Ci.retz hC hr hlk rfl hA9 hP hD hS dX3_isFull_18
  · refine lv_iconst (v := (1 : Int32)) hx hb dX3_isFull_13 (by decide) ?_
    refine lv_goto (tgt := 18) hx hb dX3_isFull_14 (by decide) ?_
    obtain rfl := fx_i1 h
    exact Ci.retz hC hr hlk rfl hA9 hP hD hS dX3_isFull_18
theorem uX2_reasonAgainst_X2 : ∀ w ∈ u_ws RX2 TX2 5, w ∈ wsX2_reasonAgainst := fun w h => List.mem_cons_of_mem _ (List.mem_append_left _ (List.mem_append_left _ (List.mem_append_right _ h)))
abbrev RM_X2_reasonAgainst : Room := { frames := 3, cells := 0, slots := 0, locals := 63 }
def f_X2_reasonAgainst (N : Nat) (S1 : St) (S2 : St) (S3 : St) (x1 : Int32) (x2 : Int32) : Option (Int32) :=
  (if x1 = (46 : Int32) then (
  some (-6 : Int32)) else (
  (if x1 = (58 : Int32) then (
    some (-6 : Int32)) else (
    (if x1 = (45 : Int32) then (
      fx_b1 (f_X3_isEmpty N S2 x2) (fun v105 =>
        (if v105 = 0 then (
        some (-6 : Int32)) else (
        some (3 : Int32))))) else (
      fx_b1 (f_X6_has N S3 (x1 - (97 : Int32))) (fun v101 =>
        (if v101 = 0 then (
        some (1 : Int32)) else (
        fx_b1 (f_X3_isFull N S2 x2) (fun v102 =>
          (if v102 = 0 then (
          some (-6 : Int32)) else (
          some (2 : Int32)))))))))))))
set_option maxRecDepth 100000 in
set_option maxHeartbeats 4000000 in
theorem c_X2_reasonAgainst (l : Launch) (g : GG) (N : Nat) (q1 : Nat → Nat) (q2 : Nat → Nat) (q3 : Nat → Nat) (S1 : St) (S2 : St) (S3 : St) (x1 : Int32) (x2 : Int32) (r : Int32) (h : f_X2_reasonAgainst N S1 S2 S3 x1 x2 = some r) : Ci l yX2_reasonAgainst wsX2_reasonAgainst RM_X2_reasonAgainst g [.ref (q1 100), .int x1, .int x2, .ref (q3 100)] (wX2 g q1 q2 S1 ++ (wX3 g q2 S2 ++ (wX6 g q3 S3))) (wX2 g q1 q2 S1 ++ (wX3 g q2 S2 ++ (wX6 g q3 S3))) r := by
  intro sz
  refine Met.ofC (cc := cX2_reasonAgainst) (maxL := 4) (ret := (some .int)) (by decide) rfl (Nat.le_of_ble_eq_true rfl) ?_
  intro p e s m below meth c hC hr hlk hsz A hA9 hA hP hD hS ls hl
  subst hsz
  have hC : Cx p s m ([.ref (q1 100), .int x1, .int x2, .ref (q3 100)] : List Value).toArray c RX2 cX2_reasonAgainst 4 wsX2_reasonAgainst g := hC
  have hx := hC.1.1
  have hb := hC.1.2.1
  have hml := hC.1.2.2.1
  have hown := hC.1.2.2.2.1
  have hts := hC.1.2.2.2.2
  have hl : lv_has ls 4 [(0, .ref (q1 100)), (1, .int x1), (2, .int x2), (3, .ref (q3 100))] := hl
  show W p l e RM_X2_reasonAgainst s m ([.ref (q1 100), .int x1, .int x2, .ref (q3 100)] : List Value).toArray below meth c s.heap [] 0 0 (Qi below g [.ref (q1 100), .int x1, .int x2, .ref (q3 100)] (wX2 g q1 q2 S1 ++ (wX3 g q2 S2 ++ (wX6 g q3 S3))) (wX2 g q1 q2 S1 ++ (wX3 g q2 S2 ++ (wX6 g q3 S3))) r s) (F0 m 0 ls [])
  unfold f_X2_reasonAgainst at h
  refine lv_iload_n hx hb dX2_reasonAgainst_0 rfl (lv_at hl 1 rfl) ?_
  refine lv_bipush (v := (46 : Int32)) hx hb dX2_reasonAgainst_1 (by decide) ?_
  refine k_icmp_eq (tgt := 12) hC dX2_reasonAgainst_3 (by decide) h (fun h => ?_) (fun h => ?_)
  · refine lv_bipush (v := (-6 : Int32)) hx hb dX2_reasonAgainst_12 (by decide) ?_
    obtain rfl := fx_i1 h
    exact Ci.ret hC hr hlk hA9 hP hD hS dX2_reasonAgainst_14
  · refine lv_iload_n hx hb dX2_reasonAgainst_6 rfl (lv_at hl 1 rfl) ?_
    refine lv_bipush (v := (58 : Int32)) hx hb dX2_reasonAgainst_7 (by decide) ?_
    refine k_icmp_ne (tgt := 15) hC dX2_reasonAgainst_9 (by decide) h (fun h => ?_) (fun h => ?_)
    · refine lv_iload_n hx hb dX2_reasonAgainst_15 rfl (lv_at hl 1 rfl) ?_
      refine lv_bipush (v := (45 : Int32)) hx hb dX2_reasonAgainst_16 (by decide) ?_
      refine k_icmp_ne (tgt := 39) hC dX2_reasonAgainst_18 (by decide) h (fun h => ?_) (fun h => ?_)
      · refine lv_aload_n hx hb dX2_reasonAgainst_39 rfl (lv_at hl 3 rfl) ?_
        refine lv_iload_n hx hb dX2_reasonAgainst_40 rfl (lv_at hl 1 rfl) ?_
        refine lv_bipush (v := (97 : Int32)) hx hb dX2_reasonAgainst_41 (by decide) ?_
        refine lv_isub hx hb dX2_reasonAgainst_43 ?_
        obtain ⟨v101, hc104, h⟩ := fx_b1_s h
        refine k_callVi0 (C := RX6) (ci := 6) (qr := 0) (n := 1) (As := [.int (x1 - (97 : Int32))]) (rest := []) (wc := (wX6 g q3 S3)) (bytes := cX6_has) (maxL := 2) (ret := (some .boolean)) hC hl.1 (c_X6_has l g N q3 S3 (x1 - (97 : Int32)) v101 hc104) rfl gX2_reasonAgainst_X6_has (by decide +kernel) rfl rfl ⟨Nat.le_of_ble_eq_true rfl, Nat.le_of_ble_eq_true rfl⟩ rfl rfl rfl (Nat.le_of_ble_eq_true rfl) ⟨Nat.le_of_ble_eq_true rfl, Nat.le_of_ble_eq_true rfl⟩ dX2_reasonAgainst_44 hP hD hS hA [7, 8, 9, 10, 11] rfl (by decide +kernel) (fun H locs hP hD hS => ?_)
        refine k_if_ne (tgt := 52) hC dX2_reasonAgainst_47 (by decide) h (fun h => ?_) (fun h => ?_)
        · refine lv_aload_n hx hb dX2_reasonAgainst_52 rfl (lv_at hl 0 rfl) ?_
          refine k_get (ci := 2) (k := 0) (q0 := 0) (v := .ref (q2 100)) (C := RX2) (T := TX2) (N := 5) hC uX2_reasonAgainst_X2 hP rfl rfl (by decide) (List.mem_of_getElem? (i := 1) rfl) rfl dX2_reasonAgainst_53 ?_
          refine lv_iload_n hx hb dX2_reasonAgainst_56 rfl (lv_at hl 2 rfl) ?_
          obtain ⟨v102, hc103, h⟩ := fx_b1_s h
          refine k_callVi0 (C := RX3) (ci := 3) (qr := 0) (n := 1) (As := [.int x2]) (rest := []) (wc := (wX3 g q2 S2)) (bytes := cX3_isFull) (maxL := 2) (ret := (some .boolean)) hC hl.1 (c_X3_isFull l g N q2 S2 x2 v102 hc103) rfl gX2_reasonAgainst_X3_isFull (by decide +kernel) rfl rfl ⟨Nat.le_of_ble_eq_true rfl, Nat.le_of_ble_eq_true rfl⟩ rfl rfl rfl (Nat.le_of_ble_eq_true rfl) ⟨Nat.le_of_ble_eq_true rfl, Nat.le_of_ble_eq_true rfl⟩ dX2_reasonAgainst_57 hP hD hS hA [1, 2, 3, 4, 5, 6] rfl (by decide +kernel) (fun H locs hP hD hS => ?_)
          refine k_if_eq (tgt := 67) hC dX2_reasonAgainst_60 (by decide) h (fun h => ?_) (fun h => ?_)
          · refine lv_bipush (v := (-6 : Int32)) hx hb dX2_reasonAgainst_67 (by decide) ?_
            obtain rfl := fx_i1 h
            exact Ci.ret hC hr hlk hA9 hP hD hS dX2_reasonAgainst_69
          · refine lv_iconst (v := (2 : Int32)) hx hb dX2_reasonAgainst_63 (by decide) ?_
            refine lv_goto (tgt := 69) hx hb dX2_reasonAgainst_64 (by decide) ?_
            obtain rfl := fx_i1 h
            exact Ci.ret hC hr hlk hA9 hP hD hS dX2_reasonAgainst_69
        · refine lv_iconst (v := (1 : Int32)) hx hb dX2_reasonAgainst_50 (by decide) ?_
          obtain rfl := fx_i1 h
          exact Ci.ret hC hr hlk hA9 hP hD hS dX2_reasonAgainst_51
      · refine lv_aload_n hx hb dX2_reasonAgainst_21 rfl (lv_at hl 0 rfl) ?_
        refine k_get (ci := 2) (k := 0) (q0 := 0) (v := .ref (q2 100)) (C := RX2) (T := TX2) (N := 5) hC uX2_reasonAgainst_X2 hP rfl rfl (by decide) (List.mem_of_getElem? (i := 1) rfl) rfl dX2_reasonAgainst_22 ?_
        refine lv_iload_n hx hb dX2_reasonAgainst_25 rfl (lv_at hl 2 rfl) ?_
        obtain ⟨v105, hc106, h⟩ := fx_b1_s h
        refine k_callVi0 (C := RX3) (ci := 3) (qr := 0) (n := 1) (As := [.int x2]) (rest := []) (wc := (wX3 g q2 S2)) (bytes := cX3_isEmpty) (maxL := 2) (ret := (some .boolean)) hC hl.1 (c_X3_isEmpty l g N q2 S2 x2 v105 hc106) rfl gX2_reasonAgainst_X3_isEmpty (by decide +kernel) rfl rfl ⟨Nat.le_of_ble_eq_true rfl, Nat.le_of_ble_eq_true rfl⟩ rfl rfl rfl (Nat.le_of_ble_eq_true rfl) ⟨Nat.le_of_ble_eq_true rfl, Nat.le_of_ble_eq_true rfl⟩ dX2_reasonAgainst_26 hP hD hS hA [1, 2, 3, 4, 5, 6] rfl (by decide +kernel) (fun H locs hP hD hS => ?_)
        refine k_if_eq (tgt := 36) hC dX2_reasonAgainst_29 (by decide) h (fun h => ?_) (fun h => ?_)
        · refine lv_bipush (v := (-6 : Int32)) hx hb dX2_reasonAgainst_36 (by decide) ?_
          obtain rfl := fx_i1 h
          exact Ci.ret hC hr hlk hA9 hP hD hS dX2_reasonAgainst_38
        · refine lv_iconst (v := (3 : Int32)) hx hb dX2_reasonAgainst_32 (by decide) ?_
          refine lv_goto (tgt := 38) hx hb dX2_reasonAgainst_33 (by decide) ?_
          obtain rfl := fx_i1 h
          exact Ci.ret hC hr hlk hA9 hP hD hS dX2_reasonAgainst_38
    · refine lv_bipush (v := (-6 : Int32)) hx hb dX2_reasonAgainst_12 (by decide) ?_
      obtain rfl := fx_i1 h
      exact Ci.ret hC hr hlk hA9 hP hD hS dX2_reasonAgainst_14
abbrev RM_X3_cell : Room := { frames := 0, cells := 0, slots := 0, locals := 0 }
def f_X3_cell (N : Nat) (x0 : Int32) (x1 : Int32) : Option (Int32) :=
  some ((x0 * (6 : Int32)) + x1)
set_option maxRecDepth 100000 in
set_option maxHeartbeats 4000000 in
theorem c_X3_cell (l : Launch) (g : GG) (N : Nat) (x0 : Int32) (x1 : Int32) (r : Int32) (h : f_X3_cell N x0 x1 = some r) : Ci l yX3_cell wsX3_cell RM_X3_cell g [.int x0, .int x1] ([] : va_W) ([] : va_W) r := by
  intro sz
  refine Met.ofC (cc := cX3_cell) (maxL := 2) (ret := (some .int)) (by decide) rfl (Nat.le_of_ble_eq_true rfl) ?_
  intro p e s m below meth c hC hr hlk hsz A hA9 hA hP hD hS ls hl
  subst hsz
  have hC : Cx p s m ([.int x0, .int x1] : List Value).toArray c RX3 cX3_cell 2 wsX3_cell g := hC
  have hx := hC.1.1
  have hb := hC.1.2.1
  have hml := hC.1.2.2.1
  have hown := hC.1.2.2.2.1
  have hts := hC.1.2.2.2.2
  have hl : lv_has ls 2 [(0, .int x0), (1, .int x1)] := hl
  show W p l e RM_X3_cell s m ([.int x0, .int x1] : List Value).toArray below meth c s.heap [] 0 0 (Qi below g [.int x0, .int x1] ([] : va_W) ([] : va_W) r s) (F0 m 0 ls [])
  unfold f_X3_cell at h
  refine lv_iload_n hx hb dX3_cell_0 rfl (lv_at hl 0 rfl) ?_
  refine lv_bipush (v := (6 : Int32)) hx hb dX3_cell_1 (by decide) ?_
  refine lv_imul hx hb dX3_cell_3 ?_
  refine lv_iload_n hx hb dX3_cell_4 rfl (lv_at hl 1 rfl) ?_
  refine lv_iadd hx hb dX3_cell_5 ?_
  obtain rfl := fx_i1 h
  exact Ci.ret hC hr hlk hA9 hP hD hS dX3_cell_6
theorem uX3_rateAt_X3 : ∀ w ∈ u_ws RX3 TX3 11, w ∈ wsX3_rateAt := fun w h => List.mem_cons_of_mem _ (List.mem_append_right _ h)
abbrev RM_X3_rateAt : Room := { frames := 0, cells := 0, slots := 0, locals := 0 }
def f_X3_rateAt (N : Nat) (S1 : St) (x1 : Int32) : Option (Int32) :=
  fx_ald 6 (S1.2 6) x1 (fun v101 =>
  some ((S1.1 2) - v101))
set_option maxRecDepth 100000 in
set_option maxHeartbeats 4000000 in
theorem c_X3_rateAt (l : Launch) (g : GG) (N : Nat) (q1 : Nat → Nat) (S1 : St) (x1 : Int32) (r : Int32) (h : f_X3_rateAt N S1 x1 = some r) : Ci l yX3_rateAt wsX3_rateAt RM_X3_rateAt g [.ref (q1 100), .int x1] (wX3 g q1 S1) (wX3 g q1 S1) r := by
  intro sz
  refine Met.ofC (cc := cX3_rateAt) (maxL := 2) (ret := (some .int)) (by decide) rfl (Nat.le_of_ble_eq_true rfl) ?_
  intro p e s m below meth c hC hr hlk hsz A hA9 hA hP hD hS ls hl
  subst hsz
  have hC : Cx p s m ([.ref (q1 100), .int x1] : List Value).toArray c RX3 cX3_rateAt 2 wsX3_rateAt g := hC
  have hx := hC.1.1
  have hb := hC.1.2.1
  have hml := hC.1.2.2.1
  have hown := hC.1.2.2.2.1
  have hts := hC.1.2.2.2.2
  have hl : lv_has ls 2 [(0, .ref (q1 100)), (1, .int x1)] := hl
  show W p l e RM_X3_rateAt s m ([.ref (q1 100), .int x1] : List Value).toArray below meth c s.heap [] 0 0 (Qi below g [.ref (q1 100), .int x1] (wX3 g q1 S1) (wX3 g q1 S1) r s) (F0 m 0 ls [])
  unfold f_X3_rateAt at h
  refine lv_aload_n hx hb dX3_rateAt_0 rfl (lv_at hl 0 rfl) ?_
  refine k_get (ci := 3) (k := 2) (q0 := 0) (v := .int (S1.1 2)) (C := RX3) (T := TX3) (N := 11) hC uX3_rateAt_X3 hP rfl rfl (by decide) (List.mem_of_getElem? (i := 1) rfl) rfl dX3_rateAt_1 ?_
  refine lv_aload_n hx hb dX3_rateAt_4 rfl (lv_at hl 0 rfl) ?_
  refine k_get (ci := 3) (k := 6) (q0 := 0) (v := .ref (q1 6)) (C := RX3) (T := TX3) (N := 11) hC uX3_rateAt_X3 hP rfl rfl (by decide) (List.mem_of_getElem? (i := 2) rfl) rfl dX3_rateAt_5 ?_
  refine lv_iload_n hx hb dX3_rateAt_8 rfl (lv_at hl 1 rfl) ?_
  refine k_ald (q0 := 1) (n := 6) (F := S1.2 6) hC hP rfl dX3_rateAt_9 h (fun v101 h => ?_)
  refine lv_isub hx hb dX3_rateAt_10 ?_
  obtain rfl := fx_i1 h
  exact Ci.ret hC hr hlk hA9 hP hD hS dX3_rateAt_11
theorem uX3_bakeMinute_X3 : ∀ w ∈ u_ws RX3 TX3 11, w ∈ wsX3_bakeMinute := fun w h => List.mem_cons_of_mem _ (List.mem_append_right _ h)
abbrev RM_X3_bakeMinute : Room := { frames := 1, cells := 0, slots := 0, locals := 21 }
def bd_X3_bakeMinute_12 (N : Nat) (x1 : Int32) (x2 : Int32) (S1 : St) (rec : (Int32 × St) → Option (St)) : Option (St) :=
  fx_ald 4 (S1.2 7) x1 (fun v101 =>
    (if v101 ≤ x2 then (
    some S1) else (
    fx_b1 (f_X3_cell N x1 x2) (fun v102 =>
      fx_ald 24 (S1.2 9) v102 (fun v103 =>
      fx_b1 (f_X3_rateAt N S1 x2) (fun v104 =>
      fx_lt (if (0 : Int32) < v104 then v104 else (0 : Int32)) (fun x105 =>
      fx_ast 24 S1 9 v102 (v103 + x105) (fun S106 =>
      fx_lt (x2 + (1 : Int32)) (fun x107 =>
      rec (x107, S106))))))))))
def lf_X3_bakeMinute_12 (N : Nat) (x1 : Int32) : (Int32 × St) → ((Int32 × St) → Option (St)) → Option (St) := fun x rec => bd_X3_bakeMinute_12 N x1 x.1 x.2 rec
set_option maxRecDepth 100000 in
set_option maxHeartbeats 4000000 in
theorem lw_X3_bakeMinute_12 {p : Program} {l : Launch} {e : Env} {s : State} {m : MethodId} {args : Array Value} {below : List Frame} {meth : Method} {c : Code} {Q : State → Prop} {A : Nat → Prop} {H0 : Heap} {g : GG} (hC : Cx p s m args c RX3 cX3_bakeMinute 3 wsX3_bakeMinute g) (hA : ∀ q : Nat, H0.size ≤ q → A q) (N : Nat) (q1 : Nat → Nat) (x1 : Int32) : ∀ (n : Nat) (x2 : Int32) (S1 : St) (o : St), fx_it (lf_X3_bakeMinute_12 N x1) n (x2, S1) = some o → ∀ (H : Heap) (locs : List Loc) (ls : Array Slot), va_P g.1 vwCl (wX3 g q1 S1) H → va_D A (wX3 g q1 S1) → va_S A H0 H locs → lv_has ls 3 [(0, .ref (q1 100)), (1, .int x1), (2, .int x2)] → (∀ (Z0 : St), o = Z0 → ∀ (H : Heap) (locs : List Loc) (ls : Array Slot), va_P g.1 vwCl (wX3 g q1 Z0) H → va_D A (wX3 g q1 Z0) → va_S A H0 H locs → lv_has ls 3 [(0, .ref (q1 100)), (1, .int x1)] → W p l e RM_X3_bakeMinute s m args below meth c H locs 0 0 Q (F0 m 50 ls [])) → W p l e RM_X3_bakeMinute s m args below meth c H locs 0 0 Q (F0 m 12 ls []) := by
  have hx := hC.1.1
  have hb := hC.1.2.1
  have hml := hC.1.2.2.1
  have hown := hC.1.2.2.2.1
  have hts := hC.1.2.2.2.2
  intro n
  induction n with
  | zero => intro x2 S1 o h; cases h
  | succ n ih =>
    intro x2 S1 o h H locs ls hP hD hS hl k0
    have h : bd_X3_bakeMinute_12 N x1 x2 S1 (fx_it (lf_X3_bakeMinute_12 N x1) n) = some o := h
    unfold bd_X3_bakeMinute_12 at h
    refine lv_iload_n hx hb dX3_bakeMinute_12 rfl (lv_at hl 2 rfl) ?_
    refine lv_aload_n hx hb dX3_bakeMinute_13 rfl (lv_at hl 0 rfl) ?_
    refine k_get (ci := 3) (k := 7) (q0 := 0) (v := .ref (q1 7)) (C := RX3) (T := TX3) (N := 11) hC uX3_bakeMinute_X3 hP rfl rfl (by decide) (List.mem_of_getElem? (i := 2) rfl) rfl dX3_bakeMinute_14 ?_
    refine lv_iload_n hx hb dX3_bakeMinute_17 rfl (lv_at hl 1 rfl) ?_
    refine k_ald (q0 := 2) (n := 4) (F := S1.2 7) hC hP rfl dX3_bakeMinute_18 h (fun v101 h => ?_)
    refine k_icmp_ge (tgt := 50) hC dX3_bakeMinute_19 (by decide) h (fun h => ?_) (fun h => ?_)
    · exact k0 S1 (Option.some.inj h).symm _ _ _ hP hD hS (lv_sub hl [0, 1] rfl)
    · refine lv_aload_n hx hb dX3_bakeMinute_22 rfl (lv_at hl 0 rfl) ?_
      refine k_get (ci := 3) (k := 9) (q0 := 0) (v := .ref (q1 9)) (C := RX3) (T := TX3) (N := 11) hC uX3_bakeMinute_X3 hP rfl rfl (by decide) (List.mem_of_getElem? (i := 3) rfl) rfl dX3_bakeMinute_23 ?_
      refine lv_iload_n hx hb dX3_bakeMinute_26 rfl (lv_at hl 1 rfl) ?_
      refine lv_iload_n hx hb dX3_bakeMinute_27 rfl (lv_at hl 2 rfl) ?_
      obtain ⟨v102, hc109, h⟩ := fx_b1_s h
      refine k_callSi0 (n := 2) (As := [.int x1, .int x2]) (rest := [.ref (q1 9)]) (wc := ([] : va_W)) (bytes := cX3_cell) (maxL := 2) (ret := (some .int)) hC hl.1 (c_X3_cell l g N x1 x2 v102 hc109) rfl gX3_bakeMinute_X3_cell (by decide +kernel) ⟨Nat.le_of_ble_eq_true rfl, Nat.le_of_ble_eq_true rfl⟩ rfl rfl rfl (Nat.le_of_ble_eq_true rfl) ⟨Nat.le_of_ble_eq_true rfl, Nat.le_of_ble_eq_true rfl⟩ dX3_bakeMinute_28 hP hD hS hA [] rfl (by decide +kernel) (fun H locs hP hD hS => ?_)
      refine lv_dup2_11 hx hb dX3_bakeMinute_31 rfl rfl ?_
      refine k_ald (q0 := 4) (n := 24) (F := S1.2 9) hC hP rfl dX3_bakeMinute_32 h (fun v103 h => ?_)
      refine lv_iconst (v := (0 : Int32)) hx hb dX3_bakeMinute_33 (by decide) ?_
      refine lv_aload_n hx hb dX3_bakeMinute_34 rfl (lv_at hl 0 rfl) ?_
      refine lv_iload_n hx hb dX3_bakeMinute_35 rfl (lv_at hl 2 rfl) ?_
      obtain ⟨v104, hc108, h⟩ := fx_b1_s h
      refine k_callVi0 (C := RX3) (ci := 3) (qr := 0) (n := 1) (As := [.int x2]) (rest := [.int (0 : Int32), .int v103, .int v102, .ref (q1 9)]) (wc := (wX3 g q1 S1)) (bytes := cX3_rateAt) (maxL := 2) (ret := (some .int)) hC hl.1 (c_X3_rateAt l g N q1 S1 x2 v104 hc108) rfl gX3_bakeMinute_X3_rateAt (by decide +kernel) rfl rfl ⟨Nat.le_of_ble_eq_true rfl, Nat.le_of_ble_eq_true rfl⟩ rfl rfl rfl (Nat.le_of_ble_eq_true rfl) ⟨Nat.le_of_ble_eq_true rfl, Nat.le_of_ble_eq_true rfl⟩ dX3_bakeMinute_36 hP hD hS hA [0, 1, 2, 3, 4, 5] rfl (by decide +kernel) (fun H locs hP hD hS => ?_)
      refine va_mmax hx hb (hml.trans hl.1.symm) hown (hts _ (List.mem_of_getElem? (i := 4) rfl)) (hts _ (List.mem_of_getElem? (i := 5) rfl)) (hts _ (List.mem_of_getElem? (i := 6) rfl)) (hts _ (List.mem_of_getElem? (i := 7) rfl)) (Nat.le_of_ble_eq_true rfl) (Nat.le_of_ble_eq_true rfl) (Nat.zero_le _) (Nat.zero_le _) dX3_bakeMinute_39 ?_
      refine k_topi h (fun x105 h => ?_)
      refine lv_iadd hx hb dX3_bakeMinute_42 ?_
      refine k_ast (q0 := 4) (n := 24) (k := 9) (S := S1) (fun S => (wX3 g q1 S)) hC hP hD hS rfl (fun _ => rfl) dX3_bakeMinute_43 h (fun S106 h H locs hP hD hS => ?_)
      refine k_iinc (v := (1 : Int32)) (lv' := fun X => [(2, .int X), (0, .ref (q1 100)), (1, .int x1)]) hC dX3_bakeMinute_44 hl (k := 2) rfl (by decide) (by decide) (fun _ => rfl) h (fun x107 h ls hl => ?_)
      refine lv_goto (tgt := 12) hx hb dX3_bakeMinute_47 (by decide) ?_
      exact ih x107 S106 o h _ _ _ hP hD hS (lv_sub hl [1, 2, 0] rfl) k0
def bd_X3_bakeMinute_2 (N : Nat) (x1 : Int32) (S1 : St) (rec : (Int32 × St) → Option (St)) : Option (St) :=
  (if (S1.1 0) ≤ x1 then (
    some S1) else (
    fx_b1 (fx_it (lf_X3_bakeMinute_12 N x1) N ((0 : Int32), S1)) (fun S101 =>
      fx_lt (x1 + (1 : Int32)) (fun x103 =>
        rec (x103, S101)))))
def lf_X3_bakeMinute_2 (N : Nat) : (Int32 × St) → ((Int32 × St) → Option (St)) → Option (St) := fun x rec => bd_X3_bakeMinute_2 N x.1 x.2 rec
set_option maxRecDepth 100000 in
set_option maxHeartbeats 4000000 in
theorem lw_X3_bakeMinute_2 {p : Program} {l : Launch} {e : Env} {s : State} {m : MethodId} {args : Array Value} {below : List Frame} {meth : Method} {c : Code} {Q : State → Prop} {A : Nat → Prop} {H0 : Heap} {g : GG} (hC : Cx p s m args c RX3 cX3_bakeMinute 3 wsX3_bakeMinute g) (hA : ∀ q : Nat, H0.size ≤ q → A q) (N : Nat) (q1 : Nat → Nat) : ∀ (n : Nat) (x1 : Int32) (S1 : St) (o : St), fx_it (lf_X3_bakeMinute_2 N) n (x1, S1) = some o → ∀ (H : Heap) (locs : List Loc) (ls : Array Slot), va_P g.1 vwCl (wX3 g q1 S1) H → va_D A (wX3 g q1 S1) → va_S A H0 H locs → lv_has ls 3 [(0, .ref (q1 100)), (1, .int x1)] → (∀ (Z0 : St), o = Z0 → ∀ (H : Heap) (locs : List Loc) (ls : Array Slot), va_P g.1 vwCl (wX3 g q1 Z0) H → va_D A (wX3 g q1 Z0) → va_S A H0 H locs → lv_has ls 3 [(0, .ref (q1 100))] → W p l e RM_X3_bakeMinute s m args below meth c H locs 0 0 Q (F0 m 56 ls [])) → W p l e RM_X3_bakeMinute s m args below meth c H locs 0 0 Q (F0 m 2 ls []) := by
  have hx := hC.1.1
  have hb := hC.1.2.1
  have hml := hC.1.2.2.1
  have hown := hC.1.2.2.2.1
  have hts := hC.1.2.2.2.2
  intro n
  induction n with
  | zero => intro x1 S1 o h; cases h
  | succ n ih =>
    intro x1 S1 o h H locs ls hP hD hS hl k0
    have h : bd_X3_bakeMinute_2 N x1 S1 (fx_it (lf_X3_bakeMinute_2 N) n) = some o := h
    unfold bd_X3_bakeMinute_2 at h
    refine lv_iload_n hx hb dX3_bakeMinute_2 rfl (lv_at hl 1 rfl) ?_
    refine lv_aload_n hx hb dX3_bakeMinute_3 rfl (lv_at hl 0 rfl) ?_
    refine k_get (ci := 3) (k := 0) (q0 := 0) (v := .int (S1.1 0)) (C := RX3) (T := TX3) (N := 11) hC uX3_bakeMinute_X3 hP rfl rfl (by decide) (List.mem_of_getElem? (i := 1) rfl) rfl dX3_bakeMinute_4 ?_
    refine k_icmp_ge (tgt := 56) hC dX3_bakeMinute_7 (by decide) h (fun h => ?_) (fun h => ?_)
    · exact k0 S1 (Option.some.inj h).symm _ _ _ hP hD hS (lv_sub hl [0] rfl)
    · refine lv_iconst (v := (0 : Int32)) hx hb dX3_bakeMinute_10 (by decide) ?_
      refine lv_istore_n (lv' := [(2, .int (0 : Int32)), (0, .ref (q1 100)), (1, .int x1)]) hx hb dX3_bakeMinute_11 rfl hl (by decide) rfl (fun ls hl => ?_)
      obtain ⟨S101, ho102, h⟩ := fx_b1_s h
      refine lw_X3_bakeMinute_12 hC hA N q1 x1 N (0 : Int32) S1  S101 ho102 _ _ _ hP hD hS (lv_sub hl [1, 2, 0] rfl) ?_
      · intro y0 he H locs ls hP hD hS hl
        obtain rfl := he
        refine k_iinc (v := (1 : Int32)) (lv' := fun X => [(1, .int X), (0, .ref (q1 100))]) hC dX3_bakeMinute_50 hl (k := 1) rfl (by decide) (by decide) (fun _ => rfl) h (fun x103 h ls hl => ?_)
        refine lv_goto (tgt := 2) hx hb dX3_bakeMinute_53 (by decide) ?_
        exact ih x103 S101 o h _ _ _ hP hD hS (lv_sub hl [1, 0] rfl) k0
def f_X3_bakeMinute (N : Nat) (S1 : St) : Option (St) :=
  fx_b1 (fx_it (lf_X3_bakeMinute_2 N) N ((0 : Int32), S1)) (fun S101 =>
  fx_b1 ((if (S101.1 5) = 0 then (
    some (0 : Int32)) else (
    some (S101.1 4))) : Option (Int32)) (fun v103 =>
    fx_lt (if (0 : Int32) < (((S101.1 2) - (S101.1 3)) - v103) then (((S101.1 2) - (S101.1 3)) - v103) else (0 : Int32)) (fun x105 =>
      fx_lt (stI S101 2 x105) (fun S106 =>
      fx_lt (stI S106 5 (0 : Int32)) (fun S107 =>
      some S107)))))
set_option maxRecDepth 100000 in
set_option maxHeartbeats 4000000 in
theorem c_X3_bakeMinute (l : Launch) (g : GG) (N : Nat) (q1 : Nat → Nat) (S1 : St) (F1 : St) (h : f_X3_bakeMinute N S1 = some F1) : Cv l yX3_bakeMinute wsX3_bakeMinute RM_X3_bakeMinute g [.ref (q1 100)] (wX3 g q1 S1) (wX3 g q1 F1) := by
  intro sz
  refine Met.ofC (cc := cX3_bakeMinute) (maxL := 3) (ret := none) (by decide) rfl (Nat.le_of_ble_eq_true rfl) ?_
  intro p e s m below meth c hC hr hlk hsz A hA9 hA hP hD hS ls hl
  subst hsz
  have hC : Cx p s m ([.ref (q1 100)] : List Value).toArray c RX3 cX3_bakeMinute 3 wsX3_bakeMinute g := hC
  have hx := hC.1.1
  have hb := hC.1.2.1
  have hml := hC.1.2.2.1
  have hown := hC.1.2.2.2.1
  have hts := hC.1.2.2.2.2
  have hl : lv_has ls 3 [(0, .ref (q1 100))] := hl
  show W p l e RM_X3_bakeMinute s m ([.ref (q1 100)] : List Value).toArray below meth c s.heap [] 0 0 (Qv below g [.ref (q1 100)] (wX3 g q1 S1) (wX3 g q1 F1) s) (F0 m 0 ls [])
  unfold f_X3_bakeMinute at h
  refine lv_iconst (v := (0 : Int32)) hx hb dX3_bakeMinute_0 (by decide) ?_
  refine lv_istore_n (lv' := [(1, .int (0 : Int32)), (0, .ref (q1 100))]) hx hb dX3_bakeMinute_1 rfl hl (by decide) rfl (fun ls hl => ?_)
  obtain ⟨S101, ho102, h⟩ := fx_b1_s h
  refine lw_X3_bakeMinute_2 hC hA N q1 N (0 : Int32) S1  S101 ho102 _ _ _ hP hD hS (lv_sub hl [1, 0] rfl) ?_
  · intro y0 he H locs ls hP hD hS hl
    obtain rfl := he
    refine lv_aload_n hx hb dX3_bakeMinute_56 rfl (lv_at hl 0 rfl) ?_
    refine lv_iconst (v := (0 : Int32)) hx hb dX3_bakeMinute_57 (by decide) ?_
    refine lv_aload_n hx hb dX3_bakeMinute_58 rfl (lv_at hl 0 rfl) ?_
    refine k_get (ci := 3) (k := 2) (q0 := 0) (v := .int (S101.1 2)) (C := RX3) (T := TX3) (N := 11) hC uX3_bakeMinute_X3 hP rfl rfl (by decide) (List.mem_of_getElem? (i := 8) rfl) rfl dX3_bakeMinute_59 ?_
    refine lv_aload_n hx hb dX3_bakeMinute_62 rfl (lv_at hl 0 rfl) ?_
    refine k_get (ci := 3) (k := 3) (q0 := 0) (v := .int (S101.1 3)) (C := RX3) (T := TX3) (N := 11) hC uX3_bakeMinute_X3 hP rfl rfl (by decide) (List.mem_of_getElem? (i := 9) rfl) rfl dX3_bakeMinute_63 ?_
    refine lv_isub hx hb dX3_bakeMinute_66 ?_
    refine lv_aload_n hx hb dX3_bakeMinute_67 rfl (lv_at hl 0 rfl) ?_
    refine k_get (ci := 3) (k := 5) (q0 := 0) (v := .int (S101.1 5)) (C := RX3) (T := TX3) (N := 11) hC uX3_bakeMinute_X3 hP rfl rfl (by decide) (List.mem_of_getElem? (i := 10) rfl) rfl dX3_bakeMinute_68 ?_
    obtain ⟨v103, hv104, h⟩ := fx_b1_s h
    have K108 : ∀ (H : Heap) (locs : List Loc) (ls : Array Slot), va_P g.1 vwCl (wX3 g q1 S101) H → va_D A (wX3 g q1 S101) → va_S A s.heap H locs → lv_has ls 3 [(0, .ref (q1 100))] → W p l e RM_X3_bakeMinute s m ([.ref (q1 100)] : List Value).toArray below meth c H locs 0 0 (Qv below g [.ref (q1 100)] (wX3 g q1 S1) (wX3 g q1 F1) s) (F0 m 82 ls [.int v103, .int ((S101.1 2) - (S101.1 3)), .int (0 : Int32), .ref (q1 100)]) := by
      intro H locs ls hP hD hS hl
      refine lv_isub hx hb dX3_bakeMinute_82 ?_
      refine va_mmax hx hb (hml.trans hl.1.symm) hown (hts _ (List.mem_of_getElem? (i := 4) rfl)) (hts _ (List.mem_of_getElem? (i := 5) rfl)) (hts _ (List.mem_of_getElem? (i := 6) rfl)) (hts _ (List.mem_of_getElem? (i := 7) rfl)) (Nat.le_of_ble_eq_true rfl) (Nat.le_of_ble_eq_true rfl) (Nat.zero_le _) (Nat.zero_le _) dX3_bakeMinute_83 ?_
      refine k_topi h (fun x105 h => ?_)
      refine k_put (ci := 3) (k := 2) (q0 := 0) (C := RX3) (T := TX3) (N := 11) (S2 := stI S101 2 x105) tyX3 (fun S => (wX3 g q1 S)) hC uX3_bakeMinute_X3 tyX3_ok nmX3 hP hD hS rfl rfl (by decide) (List.mem_of_getElem? (i := 8) rfl) rfl (tyX3_ok 2 (by decide)) (Nat.le_of_ble_eq_true rfl) dX3_bakeMinute_86 rfl h (fun S106 h H locs hP hD hS => ?_)
      refine lv_aload_n hx hb dX3_bakeMinute_89 rfl (lv_at hl 0 rfl) ?_
      refine lv_iconst (v := (0 : Int32)) hx hb dX3_bakeMinute_90 (by decide) ?_
      refine k_putz (ci := 3) (k := 5) (q0 := 0) (C := RX3) (T := TX3) (N := 11) (S2 := stI S106 5 (0 : Int32)) tyX3 (fun S => (wX3 g q1 S)) hC uX3_bakeMinute_X3 tyX3_ok nmX3 hP hD hS rfl rfl (by decide) (List.mem_of_getElem? (i := 10) rfl) rfl (tyX3_ok 5 (by decide)) ⟨rfl, rfl⟩ (Nat.le_of_ble_eq_true rfl) dX3_bakeMinute_91 rfl h (fun S107 h H locs hP hD hS => ?_)
      obtain rfl := fx_i1 h
      exact Cv.ret hC hr hlk hA9 hP hD hS dX3_bakeMinute_94
    refine k_if_eq (tgt := 81) hC dX3_bakeMinute_71 (by decide) hv104 (fun hv104 => ?_) (fun hv104 => ?_)
    · refine lv_iconst (v := (0 : Int32)) hx hb dX3_bakeMinute_81 (by decide) ?_
      obtain rfl := fx_i1 hv104
      exact K108 _ _ _ hP hD hS (lv_sub hl [0] rfl)
    · refine lv_aload_n hx hb dX3_bakeMinute_74 rfl (lv_at hl 0 rfl) ?_
      refine k_get (ci := 3) (k := 4) (q0 := 0) (v := .int (S101.1 4)) (C := RX3) (T := TX3) (N := 11) hC uX3_bakeMinute_X3 hP rfl rfl (by decide) (List.mem_of_getElem? (i := 11) rfl) rfl dX3_bakeMinute_75 ?_
      refine lv_goto (tgt := 82) hx hb dX3_bakeMinute_78 (by decide) ?_
      obtain rfl := fx_i1 hv104
      exact K108 _ _ _ hP hD hS (lv_sub hl [0] rfl)
theorem uX6_verdict_X6 : ∀ w ∈ u_ws RX6 TX6 5, w ∈ wsX6_verdict := fun w h => List.mem_cons_of_mem _ (List.mem_append_right _ h)
abbrev RM_X6_verdict : Room := { frames := 1, cells := 0, slots := 0, locals := 21 }
def f_X6_verdict (N : Nat) (S1 : St) (x1 : Int32) (x2 : Int32) : Option (Int32) :=
  fx_ald 6 (S1.2 1) x1 (fun v101 =>
  (if v101 ≤ x2 then (
  fx_b1 (f_X6_burntFrom N S1 x1) (fun v102 =>
    (if v102 ≤ x2 then (
    some (2 : Int32)) else (
    some (1 : Int32))))) else (
  some (0 : Int32))))
set_option maxRecDepth 100000 in
set_option maxHeartbeats 4000000 in
theorem c_X6_verdict (l : Launch) (g : GG) (N : Nat) (q1 : Nat → Nat) (S1 : St) (x1 : Int32) (x2 : Int32) (r : Int32) (h : f_X6_verdict N S1 x1 x2 = some r) : Ci l yX6_verdict wsX6_verdict RM_X6_verdict g [.ref (q1 100), .int x1, .int x2] (wX6 g q1 S1) (wX6 g q1 S1) r := by
  intro sz
  refine Met.ofC (cc := cX6_verdict) (maxL := 3) (ret := (some .int)) (by decide) rfl (Nat.le_of_ble_eq_true rfl) ?_
  intro p e s m below meth c hC hr hlk hsz A hA9 hA hP hD hS ls hl
  subst hsz
  have hC : Cx p s m ([.ref (q1 100), .int x1, .int x2] : List Value).toArray c RX6 cX6_verdict 3 wsX6_verdict g := hC
  have hx := hC.1.1
  have hb := hC.1.2.1
  have hml := hC.1.2.2.1
  have hown := hC.1.2.2.2.1
  have hts := hC.1.2.2.2.2
  have hl : lv_has ls 3 [(0, .ref (q1 100)), (1, .int x1), (2, .int x2)] := hl
  show W p l e RM_X6_verdict s m ([.ref (q1 100), .int x1, .int x2] : List Value).toArray below meth c s.heap [] 0 0 (Qi below g [.ref (q1 100), .int x1, .int x2] (wX6 g q1 S1) (wX6 g q1 S1) r s) (F0 m 0 ls [])
  unfold f_X6_verdict at h
  refine lv_iload_n hx hb dX6_verdict_0 rfl (lv_at hl 2 rfl) ?_
  refine lv_aload_n hx hb dX6_verdict_1 rfl (lv_at hl 0 rfl) ?_
  refine k_get (ci := 6) (k := 1) (q0 := 0) (v := .ref (q1 1)) (C := RX6) (T := TX6) (N := 5) hC uX6_verdict_X6 hP rfl rfl (by decide) (List.mem_of_getElem? (i := 1) rfl) rfl dX6_verdict_2 ?_
  refine lv_iload_n hx hb dX6_verdict_5 rfl (lv_at hl 1 rfl) ?_
  refine k_ald (q0 := 1) (n := 6) (F := S1.2 1) hC hP rfl dX6_verdict_6 h (fun v101 h => ?_)
  refine k_icmp_ge (tgt := 12) hC dX6_verdict_7 (by decide) h (fun h => ?_) (fun h => ?_)
  · refine lv_iload_n hx hb dX6_verdict_12 rfl (lv_at hl 2 rfl) ?_
    refine lv_aload_n hx hb dX6_verdict_13 rfl (lv_at hl 0 rfl) ?_
    refine lv_iload_n hx hb dX6_verdict_14 rfl (lv_at hl 1 rfl) ?_
    obtain ⟨v102, hc103, h⟩ := fx_b1_s h
    refine k_callVi0 (C := RX6) (ci := 6) (qr := 0) (n := 1) (As := [.int x1]) (rest := [.int x2]) (wc := (wX6 g q1 S1)) (bytes := cX6_burntFrom) (maxL := 2) (ret := (some .int)) hC hl.1 (c_X6_burntFrom l g N q1 S1 x1 v102 hc103) rfl gX6_verdict_X6_burntFrom (by decide +kernel) rfl rfl ⟨Nat.le_of_ble_eq_true rfl, Nat.le_of_ble_eq_true rfl⟩ rfl rfl rfl (Nat.le_of_ble_eq_true rfl) ⟨Nat.le_of_ble_eq_true rfl, Nat.le_of_ble_eq_true rfl⟩ dX6_verdict_15 hP hD hS hA [0, 1, 2, 3, 4] rfl (by decide +kernel) (fun H locs hP hD hS => ?_)
    refine k_icmp_ge (tgt := 25) hC dX6_verdict_18 (by decide) h (fun h => ?_) (fun h => ?_)
    · refine lv_iconst (v := (2 : Int32)) hx hb dX6_verdict_25 (by decide) ?_
      obtain rfl := fx_i1 h
      exact Ci.ret hC hr hlk hA9 hP hD hS dX6_verdict_26
    · refine lv_iconst (v := (1 : Int32)) hx hb dX6_verdict_21 (by decide) ?_
      refine lv_goto (tgt := 26) hx hb dX6_verdict_22 (by decide) ?_
      obtain rfl := fx_i1 h
      exact Ci.ret hC hr hlk hA9 hP hD hS dX6_verdict_26
  · refine lv_iconst (v := (0 : Int32)) hx hb dX6_verdict_10 (by decide) ?_
    obtain rfl := fx_i1 h
    exact Ci.ret hC hr hlk hA9 hP hD hS dX6_verdict_11
theorem uX3_takeFrom_X3 : ∀ w ∈ u_ws RX3 TX3 11, w ∈ wsX3_takeFrom := fun w h => List.mem_cons_of_mem _ (List.mem_append_left _ (List.mem_append_right _ h))
theorem uX3_takeFrom_X6 : ∀ w ∈ u_ws RX6 TX6 5, w ∈ wsX3_takeFrom := fun w h => List.mem_cons_of_mem _ (List.mem_append_right _ h)
abbrev RM_X3_takeFrom : Room := { frames := 2, cells := 0, slots := 0, locals := 43 }
def f_X3_takeFrom (N : Nat) (S1 : St) (S2 : St) (x1 : Int32) : Option (St) :=
  fx_b1 (f_X3_isEmpty N S1 x1) (fun v101 =>
  (if v101 = 0 then (
  fx_ald 4 (S1.2 7) x1 (fun v102 =>
    fx_ast 4 S1 7 x1 (v102 - (1 : Int32)) (fun S103 =>
    fx_ald 4 (S103.2 7) x1 (fun v104 =>
    fx_b1 (f_X3_cell N x1 v104) (fun v105 =>
    fx_ald 24 (S103.2 8) v105 (fun v106 =>
    fx_ald 24 (S103.2 9) v105 (fun v107 =>
    fx_b1 (f_X6_verdict N S2 v106 v107) (fun v108 =>
    fx_ald 4 (S103.2 10) v108 (fun v109 =>
    fx_ast 4 S103 10 v108 (v109 + (1 : Int32)) (fun S110 =>
    fx_b1 ((if v108 = (1 : Int32) then (
    fx_ald 4 (S110.2 10) (3 : Int32) (fun v115 =>
      fx_ald 6 (S2.2 3) v106 (fun v116 =>
      fx_ast 4 S110 10 (3 : Int32) (v115 + v116) (fun S117 =>
      some S117)))) else (
    some S110)) : Option (St)) (fun S111 =>
    fx_lt (stI S111 5 (1 : Int32)) (fun S113 =>
      some S113)))))))))))) else (
  some S1)))
set_option maxRecDepth 100000 in
set_option maxHeartbeats 4000000 in
theorem c_X3_takeFrom (l : Launch) (g : GG) (N : Nat) (q1 : Nat → Nat) (q2 : Nat → Nat) (S1 : St) (S2 : St) (x1 : Int32) (F1 : St) (h : f_X3_takeFrom N S1 S2 x1 = some F1) : Cv l yX3_takeFrom wsX3_takeFrom RM_X3_takeFrom g [.ref (q1 100), .int x1, .ref (q2 100)] (wX3 g q1 S1 ++ (wX6 g q2 S2)) (wX3 g q1 F1 ++ (wX6 g q2 S2)) := by
  intro sz
  refine Met.ofC (cc := cX3_takeFrom) (maxL := 6) (ret := none) (by decide) rfl (Nat.le_of_ble_eq_true rfl) ?_
  intro p e s m below meth c hC hr hlk hsz A hA9 hA hP hD hS ls hl
  subst hsz
  have hC : Cx p s m ([.ref (q1 100), .int x1, .ref (q2 100)] : List Value).toArray c RX3 cX3_takeFrom 6 wsX3_takeFrom g := hC
  have hx := hC.1.1
  have hb := hC.1.2.1
  have hml := hC.1.2.2.1
  have hown := hC.1.2.2.2.1
  have hts := hC.1.2.2.2.2
  have hl : lv_has ls 6 [(0, .ref (q1 100)), (1, .int x1), (2, .ref (q2 100))] := hl
  show W p l e RM_X3_takeFrom s m ([.ref (q1 100), .int x1, .ref (q2 100)] : List Value).toArray below meth c s.heap [] 0 0 (Qv below g [.ref (q1 100), .int x1, .ref (q2 100)] (wX3 g q1 S1 ++ (wX6 g q2 S2)) (wX3 g q1 F1 ++ (wX6 g q2 S2)) s) (F0 m 0 ls [])
  unfold f_X3_takeFrom at h
  refine lv_aload_n hx hb dX3_takeFrom_0 rfl (lv_at hl 0 rfl) ?_
  refine lv_iload_n hx hb dX3_takeFrom_1 rfl (lv_at hl 1 rfl) ?_
  obtain ⟨v101, hc120, h⟩ := fx_b1_s h
  refine k_callVi0 (C := RX3) (ci := 3) (qr := 0) (n := 1) (As := [.int x1]) (rest := []) (wc := (wX3 g q1 S1)) (bytes := cX3_isEmpty) (maxL := 2) (ret := (some .boolean)) hC hl.1 (c_X3_isEmpty l g N q1 S1 x1 v101 hc120) rfl gX3_takeFrom_X3_isEmpty (by decide +kernel) rfl rfl ⟨Nat.le_of_ble_eq_true rfl, Nat.le_of_ble_eq_true rfl⟩ rfl rfl rfl (Nat.le_of_ble_eq_true rfl) ⟨Nat.le_of_ble_eq_true rfl, Nat.le_of_ble_eq_true rfl⟩ dX3_takeFrom_2 hP hD hS hA [0, 1, 2, 3, 4, 5] rfl (by decide +kernel) (fun H locs hP hD hS => ?_)
  refine k_if_eq (tgt := 9) hC dX3_takeFrom_5 (by decide) h (fun h => ?_) (fun h => ?_)
  · refine lv_aload_n hx hb dX3_takeFrom_9 rfl (lv_at hl 0 rfl) ?_
    refine k_get (ci := 3) (k := 7) (q0 := 0) (v := .ref (q1 7)) (C := RX3) (T := TX3) (N := 11) hC uX3_takeFrom_X3 hP rfl rfl (by decide) (List.mem_of_getElem? (i := 1) rfl) rfl dX3_takeFrom_10 ?_
    refine lv_iload_n hx hb dX3_takeFrom_13 rfl (lv_at hl 1 rfl) ?_
    refine lv_dup2_11 hx hb dX3_takeFrom_14 rfl rfl ?_
    refine k_ald (q0 := 2) (n := 4) (F := S1.2 7) hC hP rfl dX3_takeFrom_15 h (fun v102 h => ?_)
    refine lv_iconst (v := (1 : Int32)) hx hb dX3_takeFrom_16 (by decide) ?_
    refine lv_isub hx hb dX3_takeFrom_17 ?_
    refine k_ast (q0 := 2) (n := 4) (k := 7) (S := S1) (fun S => (wX3 g q1 S ++ (wX6 g q2 S2))) hC hP hD hS rfl (fun _ => rfl) dX3_takeFrom_18 h (fun S103 h H locs hP hD hS => ?_)
    refine lv_iload_n hx hb dX3_takeFrom_19 rfl (lv_at hl 1 rfl) ?_
    refine lv_aload_n hx hb dX3_takeFrom_20 rfl (lv_at hl 0 rfl) ?_
    refine k_get (ci := 3) (k := 7) (q0 := 0) (v := .ref (q1 7)) (C := RX3) (T := TX3) (N := 11) hC uX3_takeFrom_X3 hP rfl rfl (by decide) (List.mem_of_getElem? (i := 1) rfl) rfl dX3_takeFrom_21 ?_
    refine lv_iload_n hx hb dX3_takeFrom_24 rfl (lv_at hl 1 rfl) ?_
    refine k_ald (q0 := 2) (n := 4) (F := S103.2 7) hC hP rfl dX3_takeFrom_25 h (fun v104 h => ?_)
    obtain ⟨v105, hc119, h⟩ := fx_b1_s h
    refine k_callSi0 (n := 2) (As := [.int x1, .int v104]) (rest := []) (wc := ([] : va_W)) (bytes := cX3_cell) (maxL := 2) (ret := (some .int)) hC hl.1 (c_X3_cell l g N x1 v104 v105 hc119) rfl gX3_takeFrom_X3_cell (by decide +kernel) ⟨Nat.le_of_ble_eq_true rfl, Nat.le_of_ble_eq_true rfl⟩ rfl rfl rfl (Nat.le_of_ble_eq_true rfl) ⟨Nat.le_of_ble_eq_true rfl, Nat.le_of_ble_eq_true rfl⟩ dX3_takeFrom_26 hP hD hS hA [] rfl (by decide +kernel) (fun H locs hP hD hS => ?_)
    refine lv_istore_n (lv' := [(3, .int v105), (0, .ref (q1 100)), (1, .int x1), (2, .ref (q2 100))]) hx hb dX3_takeFrom_29 rfl hl (by decide) rfl (fun ls hl => ?_)
    refine lv_aload_n hx hb dX3_takeFrom_30 rfl (lv_at hl 1 rfl) ?_
    refine k_get (ci := 3) (k := 8) (q0 := 0) (v := .ref (q1 8)) (C := RX3) (T := TX3) (N := 11) hC uX3_takeFrom_X3 hP rfl rfl (by decide) (List.mem_of_getElem? (i := 2) rfl) rfl dX3_takeFrom_31 ?_
    refine lv_iload_n hx hb dX3_takeFrom_34 rfl (lv_at hl 0 rfl) ?_
    refine k_ald (q0 := 3) (n := 24) (F := S103.2 8) hC hP rfl dX3_takeFrom_35 h (fun v106 h => ?_)
    refine lv_istore (lv' := [(4, .int v106), (3, .int v105), (0, .ref (q1 100)), (1, .int x1), (2, .ref (q2 100))]) hx hb dX3_takeFrom_36 hl (by decide) rfl (fun ls hl => ?_)
    refine lv_aload_n hx hb dX3_takeFrom_38 rfl (lv_at hl 4 rfl) ?_
    refine lv_iload hx hb dX3_takeFrom_39 (lv_at hl 0 rfl) ?_
    refine lv_aload_n hx hb dX3_takeFrom_41 rfl (lv_at hl 2 rfl) ?_
    refine k_get (ci := 3) (k := 9) (q0 := 0) (v := .ref (q1 9)) (C := RX3) (T := TX3) (N := 11) hC uX3_takeFrom_X3 hP rfl rfl (by decide) (List.mem_of_getElem? (i := 3) rfl) rfl dX3_takeFrom_42 ?_
    refine lv_iload_n hx hb dX3_takeFrom_45 rfl (lv_at hl 1 rfl) ?_
    refine k_ald (q0 := 4) (n := 24) (F := S103.2 9) hC hP rfl dX3_takeFrom_46 h (fun v107 h => ?_)
    obtain ⟨v108, hc118, h⟩ := fx_b1_s h
    refine k_callVi0 (C := RX6) (ci := 6) (qr := 0) (n := 2) (As := [.int v106, .int v107]) (rest := []) (wc := (wX6 g q2 S2)) (bytes := cX6_verdict) (maxL := 3) (ret := (some .int)) hC hl.1 (c_X6_verdict l g N q2 S2 v106 v107 v108 hc118) rfl gX3_takeFrom_X6_verdict (by decide +kernel) rfl rfl ⟨Nat.le_of_ble_eq_true rfl, Nat.le_of_ble_eq_true rfl⟩ rfl rfl rfl (Nat.le_of_ble_eq_true rfl) ⟨Nat.le_of_ble_eq_true rfl, Nat.le_of_ble_eq_true rfl⟩ dX3_takeFrom_47 hP hD hS hA [6, 7, 8, 9, 10] rfl (by decide +kernel) (fun H locs hP hD hS => ?_)
    refine lv_istore (lv' := [(5, .int v108), (4, .int v106), (3, .int v105), (0, .ref (q1 100)), (1, .int x1), (2, .ref (q2 100))]) hx hb dX3_takeFrom_50 hl (by decide) rfl (fun ls hl => ?_)
    refine lv_aload_n hx hb dX3_takeFrom_52 rfl (lv_at hl 3 rfl) ?_
    refine k_get (ci := 3) (k := 10) (q0 := 0) (v := .ref (q1 10)) (C := RX3) (T := TX3) (N := 11) hC uX3_takeFrom_X3 hP rfl rfl (by decide) (List.mem_of_getElem? (i := 4) rfl) rfl dX3_takeFrom_53 ?_
    refine lv_iload hx hb dX3_takeFrom_56 (lv_at hl 0 rfl) ?_
    refine lv_dup2_11 hx hb dX3_takeFrom_58 rfl rfl ?_
    refine k_ald (q0 := 5) (n := 4) (F := S103.2 10) hC hP rfl dX3_takeFrom_59 h (fun v109 h => ?_)
    refine lv_iconst (v := (1 : Int32)) hx hb dX3_takeFrom_60 (by decide) ?_
    refine lv_iadd hx hb dX3_takeFrom_61 ?_
    refine k_ast (q0 := 5) (n := 4) (k := 10) (S := S103) (fun S => (wX3 g q1 S ++ (wX6 g q2 S2))) hC hP hD hS rfl (fun _ => rfl) dX3_takeFrom_62 h (fun S110 h H locs hP hD hS => ?_)
    refine lv_iload hx hb dX3_takeFrom_63 (lv_at hl 0 rfl) ?_
    refine lv_iconst (v := (1 : Int32)) hx hb dX3_takeFrom_65 (by decide) ?_
    obtain ⟨S111, hv112, h⟩ := fx_b1_s h
    have K114 : ∀ (H : Heap) (locs : List Loc) (ls : Array Slot), va_P g.1 vwCl (wX3 g q1 S111 ++ (wX6 g q2 S2)) H → va_D A (wX3 g q1 S111 ++ (wX6 g q2 S2)) → va_S A s.heap H locs → lv_has ls 6 [(0, .ref (q1 100))] → W p l e RM_X3_takeFrom s m ([.ref (q1 100), .int x1, .ref (q2 100)] : List Value).toArray below meth c H locs 0 0 (Qv below g [.ref (q1 100), .int x1, .ref (q2 100)] (wX3 g q1 S1 ++ (wX6 g q2 S2)) (wX3 g q1 F1 ++ (wX6 g q2 S2)) s) (F0 m 85 ls []) := by
      intro H locs ls hP hD hS hl
      refine lv_aload_n hx hb dX3_takeFrom_85 rfl (lv_at hl 0 rfl) ?_
      refine lv_iconst (v := (1 : Int32)) hx hb dX3_takeFrom_86 (by decide) ?_
      refine k_putz (ci := 3) (k := 5) (q0 := 0) (C := RX3) (T := TX3) (N := 11) (S2 := stI S111 5 (1 : Int32)) tyX3 (fun S => (wX3 g q1 S ++ (wX6 g q2 S2))) hC uX3_takeFrom_X3 tyX3_ok nmX3 hP hD hS rfl rfl (by decide) (List.mem_of_getElem? (i := 6) rfl) rfl (tyX3_ok 5 (by decide)) ⟨rfl, rfl⟩ (Nat.le_of_ble_eq_true rfl) dX3_takeFrom_87 rfl h (fun S113 h H locs hP hD hS => ?_)
      obtain rfl := fx_i1 h
      exact Cv.ret hC hr hlk hA9 hP hD hS dX3_takeFrom_90
    refine k_icmp_ne (tgt := 85) hC dX3_takeFrom_66 (by decide) hv112 (fun hv112 => ?_) (fun hv112 => ?_)
    · obtain rfl := fx_i1 hv112
      exact K114 _ _ _ hP hD hS (lv_sub hl [3] rfl)
    · refine lv_aload_n hx hb dX3_takeFrom_69 rfl (lv_at hl 3 rfl) ?_
      refine k_get (ci := 3) (k := 10) (q0 := 0) (v := .ref (q1 10)) (C := RX3) (T := TX3) (N := 11) hC uX3_takeFrom_X3 hP rfl rfl (by decide) (List.mem_of_getElem? (i := 4) rfl) rfl dX3_takeFrom_70 ?_
      refine lv_iconst (v := (3 : Int32)) hx hb dX3_takeFrom_73 (by decide) ?_
      refine lv_dup2_11 hx hb dX3_takeFrom_74 rfl rfl ?_
      refine k_ald (q0 := 5) (n := 4) (F := S110.2 10) hC hP rfl dX3_takeFrom_75 hv112 (fun v115 hv112 => ?_)
      refine lv_aload_n hx hb dX3_takeFrom_76 rfl (lv_at hl 5 rfl) ?_
      refine k_get (ci := 6) (k := 3) (q0 := 6) (v := .ref (q2 3)) (C := RX6) (T := TX6) (N := 5) hC uX3_takeFrom_X6 hP rfl rfl (by decide) (List.mem_of_getElem? (i := 5) rfl) rfl dX3_takeFrom_77 ?_
      refine lv_iload hx hb dX3_takeFrom_80 (lv_at hl 1 rfl) ?_
      refine k_ald (q0 := 9) (n := 6) (F := S2.2 3) hC hP rfl dX3_takeFrom_82 hv112 (fun v116 hv112 => ?_)
      refine lv_iadd hx hb dX3_takeFrom_83 ?_
      refine k_ast (q0 := 5) (n := 4) (k := 10) (S := S110) (fun S => (wX3 g q1 S ++ (wX6 g q2 S2))) hC hP hD hS rfl (fun _ => rfl) dX3_takeFrom_84 hv112 (fun S117 hv112 H locs hP hD hS => ?_)
      obtain rfl := fx_i1 hv112
      exact K114 _ _ _ hP hD hS (lv_sub hl [3] rfl)
  · obtain rfl := fx_i1 h
    exact Cv.ret hC hr hlk hA9 hP hD hS dX3_takeFrom_8
theorem uX3_putIn_X3 : ∀ w ∈ u_ws RX3 TX3 11, w ∈ wsX3_putIn := fun w h => List.mem_cons_of_mem _ (List.mem_append_right _ h)
abbrev RM_X3_putIn : Room := { frames := 1, cells := 0, slots := 0, locals := 21 }
def f_X3_putIn (N : Nat) (S1 : St) (x1 : Int32) (x2 : Int32) : Option (St) :=
  fx_b1 (f_X3_isFull N S1 x1) (fun v101 =>
  (if v101 = 0 then (
  fx_ald 4 (S1.2 7) x1 (fun v102 =>
    fx_b1 (f_X3_cell N x1 v102) (fun v103 =>
    fx_ast 24 S1 8 v103 x2 (fun S104 =>
    fx_ast 24 S104 9 v103 (0 : Int32) (fun S105 =>
    fx_ald 4 (S105.2 7) x1 (fun v106 =>
    fx_ast 4 S105 7 x1 (v106 + (1 : Int32)) (fun S107 =>
    fx_lt (stI S107 5 (1 : Int32)) (fun S108 =>
    some S108)))))))) else (
  some S1)))
set_option maxRecDepth 100000 in
set_option maxHeartbeats 4000000 in
theorem c_X3_putIn (l : Launch) (g : GG) (N : Nat) (q1 : Nat → Nat) (S1 : St) (x1 : Int32) (x2 : Int32) (F1 : St) (h : f_X3_putIn N S1 x1 x2 = some F1) : Cv l yX3_putIn wsX3_putIn RM_X3_putIn g [.ref (q1 100), .int x1, .int x2] (wX3 g q1 S1) (wX3 g q1 F1) := by
  intro sz
  refine Met.ofC (cc := cX3_putIn) (maxL := 4) (ret := none) (by decide) rfl (Nat.le_of_ble_eq_true rfl) ?_
  intro p e s m below meth c hC hr hlk hsz A hA9 hA hP hD hS ls hl
  subst hsz
  have hC : Cx p s m ([.ref (q1 100), .int x1, .int x2] : List Value).toArray c RX3 cX3_putIn 4 wsX3_putIn g := hC
  have hx := hC.1.1
  have hb := hC.1.2.1
  have hml := hC.1.2.2.1
  have hown := hC.1.2.2.2.1
  have hts := hC.1.2.2.2.2
  have hl : lv_has ls 4 [(0, .ref (q1 100)), (1, .int x1), (2, .int x2)] := hl
  show W p l e RM_X3_putIn s m ([.ref (q1 100), .int x1, .int x2] : List Value).toArray below meth c s.heap [] 0 0 (Qv below g [.ref (q1 100), .int x1, .int x2] (wX3 g q1 S1) (wX3 g q1 F1) s) (F0 m 0 ls [])
  unfold f_X3_putIn at h
  refine lv_aload_n hx hb dX3_putIn_0 rfl (lv_at hl 0 rfl) ?_
  refine lv_iload_n hx hb dX3_putIn_1 rfl (lv_at hl 1 rfl) ?_
  obtain ⟨v101, hc110, h⟩ := fx_b1_s h
  refine k_callVi0 (C := RX3) (ci := 3) (qr := 0) (n := 1) (As := [.int x1]) (rest := []) (wc := (wX3 g q1 S1)) (bytes := cX3_isFull) (maxL := 2) (ret := (some .boolean)) hC hl.1 (c_X3_isFull l g N q1 S1 x1 v101 hc110) rfl gX3_putIn_X3_isFull (by decide +kernel) rfl rfl ⟨Nat.le_of_ble_eq_true rfl, Nat.le_of_ble_eq_true rfl⟩ rfl rfl rfl (Nat.le_of_ble_eq_true rfl) ⟨Nat.le_of_ble_eq_true rfl, Nat.le_of_ble_eq_true rfl⟩ dX3_putIn_2 hP hD hS hA [0, 1, 2, 3, 4, 5] rfl (by decide +kernel) (fun H locs hP hD hS => ?_)
  refine k_if_eq (tgt := 9) hC dX3_putIn_5 (by decide) h (fun h => ?_) (fun h => ?_)
  · refine lv_iload_n hx hb dX3_putIn_9 rfl (lv_at hl 1 rfl) ?_
    refine lv_aload_n hx hb dX3_putIn_10 rfl (lv_at hl 0 rfl) ?_
    refine k_get (ci := 3) (k := 7) (q0 := 0) (v := .ref (q1 7)) (C := RX3) (T := TX3) (N := 11) hC uX3_putIn_X3 hP rfl rfl (by decide) (List.mem_of_getElem? (i := 1) rfl) rfl dX3_putIn_11 ?_
    refine lv_iload_n hx hb dX3_putIn_14 rfl (lv_at hl 1 rfl) ?_
    refine k_ald (q0 := 2) (n := 4) (F := S1.2 7) hC hP rfl dX3_putIn_15 h (fun v102 h => ?_)
    obtain ⟨v103, hc109, h⟩ := fx_b1_s h
    refine k_callSi0 (n := 2) (As := [.int x1, .int v102]) (rest := []) (wc := ([] : va_W)) (bytes := cX3_cell) (maxL := 2) (ret := (some .int)) hC hl.1 (c_X3_cell l g N x1 v102 v103 hc109) rfl gX3_putIn_X3_cell (by decide +kernel) ⟨Nat.le_of_ble_eq_true rfl, Nat.le_of_ble_eq_true rfl⟩ rfl rfl rfl (Nat.le_of_ble_eq_true rfl) ⟨Nat.le_of_ble_eq_true rfl, Nat.le_of_ble_eq_true rfl⟩ dX3_putIn_16 hP hD hS hA [] rfl (by decide +kernel) (fun H locs hP hD hS => ?_)
    refine lv_istore_n (lv' := [(3, .int v103), (0, .ref (q1 100)), (1, .int x1), (2, .int x2)]) hx hb dX3_putIn_19 rfl hl (by decide) rfl (fun ls hl => ?_)
    refine lv_aload_n hx hb dX3_putIn_20 rfl (lv_at hl 1 rfl) ?_
    refine k_get (ci := 3) (k := 8) (q0 := 0) (v := .ref (q1 8)) (C := RX3) (T := TX3) (N := 11) hC uX3_putIn_X3 hP rfl rfl (by decide) (List.mem_of_getElem? (i := 2) rfl) rfl dX3_putIn_21 ?_
    refine lv_iload_n hx hb dX3_putIn_24 rfl (lv_at hl 0 rfl) ?_
    refine lv_iload_n hx hb dX3_putIn_25 rfl (lv_at hl 3 rfl) ?_
    refine k_ast (q0 := 3) (n := 24) (k := 8) (S := S1) (fun S => (wX3 g q1 S)) hC hP hD hS rfl (fun _ => rfl) dX3_putIn_26 h (fun S104 h H locs hP hD hS => ?_)
    refine lv_aload_n hx hb dX3_putIn_27 rfl (lv_at hl 1 rfl) ?_
    refine k_get (ci := 3) (k := 9) (q0 := 0) (v := .ref (q1 9)) (C := RX3) (T := TX3) (N := 11) hC uX3_putIn_X3 hP rfl rfl (by decide) (List.mem_of_getElem? (i := 3) rfl) rfl dX3_putIn_28 ?_
    refine lv_iload_n hx hb dX3_putIn_31 rfl (lv_at hl 0 rfl) ?_
    refine lv_iconst (v := (0 : Int32)) hx hb dX3_putIn_32 (by decide) ?_
    refine k_ast (q0 := 4) (n := 24) (k := 9) (S := S104) (fun S => (wX3 g q1 S)) hC hP hD hS rfl (fun _ => rfl) dX3_putIn_33 h (fun S105 h H locs hP hD hS => ?_)
    refine lv_aload_n hx hb dX3_putIn_34 rfl (lv_at hl 1 rfl) ?_
    refine k_get (ci := 3) (k := 7) (q0 := 0) (v := .ref (q1 7)) (C := RX3) (T := TX3) (N := 11) hC uX3_putIn_X3 hP rfl rfl (by decide) (List.mem_of_getElem? (i := 1) rfl) rfl dX3_putIn_35 ?_
    refine lv_iload_n hx hb dX3_putIn_38 rfl (lv_at hl 2 rfl) ?_
    refine lv_dup2_11 hx hb dX3_putIn_39 rfl rfl ?_
    refine k_ald (q0 := 2) (n := 4) (F := S105.2 7) hC hP rfl dX3_putIn_40 h (fun v106 h => ?_)
    refine lv_iconst (v := (1 : Int32)) hx hb dX3_putIn_41 (by decide) ?_
    refine lv_iadd hx hb dX3_putIn_42 ?_
    refine k_ast (q0 := 2) (n := 4) (k := 7) (S := S105) (fun S => (wX3 g q1 S)) hC hP hD hS rfl (fun _ => rfl) dX3_putIn_43 h (fun S107 h H locs hP hD hS => ?_)
    refine lv_aload_n hx hb dX3_putIn_44 rfl (lv_at hl 1 rfl) ?_
    refine lv_iconst (v := (1 : Int32)) hx hb dX3_putIn_45 (by decide) ?_
    refine k_putz (ci := 3) (k := 5) (q0 := 0) (C := RX3) (T := TX3) (N := 11) (S2 := stI S107 5 (1 : Int32)) tyX3 (fun S => (wX3 g q1 S)) hC uX3_putIn_X3 tyX3_ok nmX3 hP hD hS rfl rfl (by decide) (List.mem_of_getElem? (i := 4) rfl) rfl (tyX3_ok 5 (by decide)) ⟨rfl, rfl⟩ (Nat.le_of_ble_eq_true rfl) dX3_putIn_46 rfl h (fun S108 h H locs hP hD hS => ?_)
    obtain rfl := fx_i1 h
    exact Cv.ret hC hr hlk hA9 hP hD hS dX3_putIn_49
  · obtain rfl := fx_i1 h
    exact Cv.ret hC hr hlk hA9 hP hD hS dX3_putIn_8
theorem uX2_act_X2 : ∀ w ∈ u_ws RX2 TX2 5, w ∈ wsX2_act := fun w h => List.mem_cons_of_mem _ (List.mem_append_left _ (List.mem_append_left _ (List.mem_append_right _ h)))
abbrev RM_X2_act : Room := { frames := 3, cells := 0, slots := 0, locals := 68 }
def bd_X2_act_29 (N : Nat) (x4 : Int32) (S1 : St) (S3 : St) (x5 : Int32) (S2 : St) (rec : (Int32 × St) → Option (St)) : Option (St) :=
  (if x4 ≤ x5 then (
    some S2) else (
    fx_b1 (f_X3_bakeMinute N S2) (fun S101 =>
      fx_lt (x5 + (1 : Int32)) (fun x102 =>
      rec (x102, S101)))))
def lf_X2_act_29 (N : Nat) (x4 : Int32) (S1 : St) (S3 : St) : (Int32 × St) → ((Int32 × St) → Option (St)) → Option (St) := fun x rec => bd_X2_act_29 N x4 S1 S3 x.1 x.2 rec
set_option maxRecDepth 100000 in
set_option maxHeartbeats 4000000 in
theorem lw_X2_act_29 {p : Program} {l : Launch} {e : Env} {s : State} {m : MethodId} {args : Array Value} {below : List Frame} {meth : Method} {c : Code} {Q : State → Prop} {A : Nat → Prop} {H0 : Heap} {g : GG} (hC : Cx p s m args c RX2 cX2_act 6 wsX2_act g) (hA : ∀ q : Nat, H0.size ≤ q → A q) (N : Nat) (q1 : Nat → Nat) (q2 : Nat → Nat) (q3 : Nat → Nat) (x4 : Int32) (S1 : St) (S3 : St) : ∀ (n : Nat) (x5 : Int32) (S2 : St) (o : St), fx_it (lf_X2_act_29 N x4 S1 S3) n (x5, S2) = some o → ∀ (H : Heap) (locs : List Loc) (ls : Array Slot), va_P g.1 vwCl (wX2 g q1 q2 S1 ++ (wX3 g q2 S2 ++ (wX6 g q3 S3))) H → va_D A (wX2 g q1 q2 S1 ++ (wX3 g q2 S2 ++ (wX6 g q3 S3))) → va_S A H0 H locs → lv_has ls 6 [(0, .ref (q1 100)), (4, .int x4), (5, .int x5)] → (∀ (Z0 : St), o = Z0 → ∀ (H : Heap) (locs : List Loc) (ls : Array Slot), va_P g.1 vwCl (wX2 g q1 q2 S1 ++ (wX3 g q2 Z0 ++ (wX6 g q3 S3))) H → va_D A (wX2 g q1 q2 S1 ++ (wX3 g q2 Z0 ++ (wX6 g q3 S3))) → va_S A H0 H locs → lv_has ls 6 [] → W p l e RM_X2_act s m args below meth c H locs 0 0 Q (F0 m 49 ls [])) → W p l e RM_X2_act s m args below meth c H locs 0 0 Q (F0 m 29 ls []) := by
  have hx := hC.1.1
  have hb := hC.1.2.1
  have hml := hC.1.2.2.1
  have hown := hC.1.2.2.2.1
  have hts := hC.1.2.2.2.2
  intro n
  induction n with
  | zero => intro x5 S2 o h; cases h
  | succ n ih =>
    intro x5 S2 o h H locs ls hP hD hS hl k0
    have h : bd_X2_act_29 N x4 S1 S3 x5 S2 (fx_it (lf_X2_act_29 N x4 S1 S3) n) = some o := h
    unfold bd_X2_act_29 at h
    refine lv_iload hx hb dX2_act_29 (lv_at hl 2 rfl) ?_
    refine lv_iload hx hb dX2_act_31 (lv_at hl 1 rfl) ?_
    refine k_icmp_ge (tgt := 49) hC dX2_act_33 (by decide) h (fun h => ?_) (fun h => ?_)
    · exact k0 S2 (Option.some.inj h).symm _ _ _ hP hD hS (lv_sub hl [] rfl)
    · refine lv_aload_n hx hb dX2_act_36 rfl (lv_at hl 0 rfl) ?_
      refine k_get (ci := 2) (k := 0) (q0 := 0) (v := .ref (q2 100)) (C := RX2) (T := TX2) (N := 5) hC uX2_act_X2 hP rfl rfl (by decide) (List.mem_of_getElem? (i := 1) rfl) rfl dX2_act_37 ?_
      obtain ⟨S101, hc103, h⟩ := fx_b1_s h
      refine k_callVv (C := RX3) (ci := 3) (qr := 0) (n := 0) (As := []) (rest := []) (wc := (wX3 g q2 S2)) (w1 := (wX3 g q2 S101)) (ws2 := (wX2 g q1 q2 S1 ++ (wX3 g q2 S101 ++ (wX6 g q3 S3)))) (bytes := cX3_bakeMinute) (maxL := 3) (ret := none) hC hl.1 (c_X3_bakeMinute l g N q2 S2 S101 hc103) rfl gX2_act_X3_bakeMinute (by decide +kernel) rfl rfl ⟨Nat.le_of_ble_eq_true rfl, Nat.le_of_ble_eq_true rfl⟩ rfl rfl rfl (Nat.le_of_ble_eq_true rfl) ⟨Nat.le_of_ble_eq_true rfl, Nat.le_of_ble_eq_true rfl⟩ dX2_act_40 hP hD hS hA [1, 2, 3, 4, 5, 6] rfl (by decide +kernel) [q2 100, q2 6, q2 7, q2 8, q2 9, q2 10] rfl rfl rfl [0, 7, 8, 9, 10, 11] (wX2 g q1 q2 S1 ++ (wX6 g q3 S3)) rfl rfl (n2 := 12) rfl (by decide +kernel) (fun H locs hP hD hS => ?_)
      refine k_iinc (v := (1 : Int32)) (lv' := fun X => [(5, .int X), (0, .ref (q1 100)), (4, .int x4)]) hC dX2_act_43 hl (k := 2) rfl (by decide) (by decide) (fun _ => rfl) h (fun x102 h ls hl => ?_)
      refine lv_goto (tgt := 29) hx hb dX2_act_46 (by decide) ?_
      exact ih x102 S101 o h _ _ _ hP hD hS (lv_sub hl [1, 2, 0] rfl) k0
def f_X2_act (N : Nat) (S1 : St) (S2 : St) (S3 : St) (x1 : Int32) (x2 : Int32) : Option (St) :=
  (if x1 = (46 : Int32) then (
  fx_b1 ((if x1 = (46 : Int32) then (
    some (1 : Int32)) else (
    some (10 : Int32))) : Option (Int32)) (fun v101 =>
    fx_b1 (fx_it (lf_X2_act_29 N v101 S1 S3) N ((0 : Int32), S2)) (fun S103 =>
      some S103))) else (
  (if x1 = (58 : Int32) then (
    fx_b1 ((if x1 = (46 : Int32) then (
      some (1 : Int32)) else (
      some (10 : Int32))) : Option (Int32)) (fun v110 =>
      fx_b1 (fx_it (lf_X2_act_29 N v110 S1 S3) N ((0 : Int32), S2)) (fun S112 =>
        some S112))) else (
    (if x1 = (45 : Int32) then (
      fx_b1 (f_X3_takeFrom N S2 S3 x2) (fun S108 =>
        some S108)) else (
      fx_b1 (f_X3_putIn N S2 x2 (x1 - (97 : Int32))) (fun S106 =>
        some S106)))))))
set_option maxRecDepth 100000 in
set_option maxHeartbeats 4000000 in
theorem c_X2_act (l : Launch) (g : GG) (N : Nat) (q1 : Nat → Nat) (q2 : Nat → Nat) (q3 : Nat → Nat) (S1 : St) (S2 : St) (S3 : St) (x1 : Int32) (x2 : Int32) (F2 : St) (h : f_X2_act N S1 S2 S3 x1 x2 = some F2) : Cv l yX2_act wsX2_act RM_X2_act g [.ref (q1 100), .int x1, .int x2, .ref (q3 100)] (wX2 g q1 q2 S1 ++ (wX3 g q2 S2 ++ (wX6 g q3 S3))) (wX2 g q1 q2 S1 ++ (wX3 g q2 F2 ++ (wX6 g q3 S3))) := by
  intro sz
  refine Met.ofC (cc := cX2_act) (maxL := 6) (ret := none) (by decide) rfl (Nat.le_of_ble_eq_true rfl) ?_
  intro p e s m below meth c hC hr hlk hsz A hA9 hA hP hD hS ls hl
  subst hsz
  have hC : Cx p s m ([.ref (q1 100), .int x1, .int x2, .ref (q3 100)] : List Value).toArray c RX2 cX2_act 6 wsX2_act g := hC
  have hx := hC.1.1
  have hb := hC.1.2.1
  have hml := hC.1.2.2.1
  have hown := hC.1.2.2.2.1
  have hts := hC.1.2.2.2.2
  have hl : lv_has ls 6 [(0, .ref (q1 100)), (1, .int x1), (2, .int x2), (3, .ref (q3 100))] := hl
  show W p l e RM_X2_act s m ([.ref (q1 100), .int x1, .int x2, .ref (q3 100)] : List Value).toArray below meth c s.heap [] 0 0 (Qv below g [.ref (q1 100), .int x1, .int x2, .ref (q3 100)] (wX2 g q1 q2 S1 ++ (wX3 g q2 S2 ++ (wX6 g q3 S3))) (wX2 g q1 q2 S1 ++ (wX3 g q2 F2 ++ (wX6 g q3 S3))) s) (F0 m 0 ls [])
  unfold f_X2_act at h
  refine lv_iload_n hx hb dX2_act_0 rfl (lv_at hl 1 rfl) ?_
  refine lv_bipush (v := (46 : Int32)) hx hb dX2_act_1 (by decide) ?_
  refine k_icmp_eq (tgt := 12) hC dX2_act_3 (by decide) h (fun h => ?_) (fun h => ?_)
  · refine lv_iload_n hx hb dX2_act_12 rfl (lv_at hl 1 rfl) ?_
    refine lv_bipush (v := (46 : Int32)) hx hb dX2_act_13 (by decide) ?_
    obtain ⟨v101, hv102, h⟩ := fx_b1_s h
    have K105 : ∀ (H : Heap) (locs : List Loc) (ls : Array Slot), va_P g.1 vwCl (wX2 g q1 q2 S1 ++ (wX3 g q2 S2 ++ (wX6 g q3 S3))) H → va_D A (wX2 g q1 q2 S1 ++ (wX3 g q2 S2 ++ (wX6 g q3 S3))) → va_S A s.heap H locs → lv_has ls 6 [(0, .ref (q1 100))] → W p l e RM_X2_act s m ([.ref (q1 100), .int x1, .int x2, .ref (q3 100)] : List Value).toArray below meth c H locs 0 0 (Qv below g [.ref (q1 100), .int x1, .int x2, .ref (q3 100)] (wX2 g q1 q2 S1 ++ (wX3 g q2 S2 ++ (wX6 g q3 S3))) (wX2 g q1 q2 S1 ++ (wX3 g q2 F2 ++ (wX6 g q3 S3))) s) (F0 m 24 ls [.int v101]) := by
      intro H locs ls hP hD hS hl
      refine lv_istore (lv' := [(4, .int v101), (0, .ref (q1 100))]) hx hb dX2_act_24 hl (by decide) rfl (fun ls hl => ?_)
      refine lv_iconst (v := (0 : Int32)) hx hb dX2_act_26 (by decide) ?_
      refine lv_istore (lv' := [(5, .int (0 : Int32)), (4, .int v101), (0, .ref (q1 100))]) hx hb dX2_act_27 hl (by decide) rfl (fun ls hl => ?_)
      obtain ⟨S103, ho104, h⟩ := fx_b1_s h
      refine lw_X2_act_29 hC hA N q1 q2 q3 v101 S1 S3 N (0 : Int32) S2  S103 ho104 _ _ _ hP hD hS (lv_sub hl [2, 1, 0] rfl) ?_
      · intro y0 he H locs ls hP hD hS hl
        obtain rfl := he
        refine lv_goto (tgt := 82) hx hb dX2_act_49 (by decide) ?_
        obtain rfl := fx_i1 h
        exact Cv.ret hC hr hlk hA9 hP hD hS dX2_act_82
    refine k_icmp_ne (tgt := 22) hC dX2_act_15 (by decide) hv102 (fun hv102 => ?_) (fun hv102 => ?_)
    · refine lv_bipush (v := (10 : Int32)) hx hb dX2_act_22 (by decide) ?_
      obtain rfl := fx_i1 hv102
      exact K105 _ _ _ hP hD hS (lv_sub hl [0] rfl)
    · refine lv_iconst (v := (1 : Int32)) hx hb dX2_act_18 (by decide) ?_
      refine lv_goto (tgt := 24) hx hb dX2_act_19 (by decide) ?_
      obtain rfl := fx_i1 hv102
      exact K105 _ _ _ hP hD hS (lv_sub hl [0] rfl)
  · refine lv_iload_n hx hb dX2_act_6 rfl (lv_at hl 1 rfl) ?_
    refine lv_bipush (v := (58 : Int32)) hx hb dX2_act_7 (by decide) ?_
    refine k_icmp_ne (tgt := 52) hC dX2_act_9 (by decide) h (fun h => ?_) (fun h => ?_)
    · refine lv_iload_n hx hb dX2_act_52 rfl (lv_at hl 1 rfl) ?_
      refine lv_bipush (v := (45 : Int32)) hx hb dX2_act_53 (by decide) ?_
      refine k_icmp_ne (tgt := 70) hC dX2_act_55 (by decide) h (fun h => ?_) (fun h => ?_)
      · refine lv_aload_n hx hb dX2_act_70 rfl (lv_at hl 0 rfl) ?_
        refine k_get (ci := 2) (k := 0) (q0 := 0) (v := .ref (q2 100)) (C := RX2) (T := TX2) (N := 5) hC uX2_act_X2 hP rfl rfl (by decide) (List.mem_of_getElem? (i := 1) rfl) rfl dX2_act_71 ?_
        refine lv_iload_n hx hb dX2_act_74 rfl (lv_at hl 2 rfl) ?_
        refine lv_iload_n hx hb dX2_act_75 rfl (lv_at hl 1 rfl) ?_
        refine lv_bipush (v := (97 : Int32)) hx hb dX2_act_76 (by decide) ?_
        refine lv_isub hx hb dX2_act_78 ?_
        obtain ⟨S106, hc107, h⟩ := fx_b1_s h
        refine k_callVv (C := RX3) (ci := 3) (qr := 0) (n := 2) (As := [.int x2, .int (x1 - (97 : Int32))]) (rest := []) (wc := (wX3 g q2 S2)) (w1 := (wX3 g q2 S106)) (ws2 := (wX2 g q1 q2 S1 ++ (wX3 g q2 S106 ++ (wX6 g q3 S3)))) (bytes := cX3_putIn) (maxL := 4) (ret := none) hC hl.1 (c_X3_putIn l g N q2 S2 x2 (x1 - (97 : Int32)) S106 hc107) rfl gX2_act_X3_putIn (by decide +kernel) rfl rfl ⟨Nat.le_of_ble_eq_true rfl, Nat.le_of_ble_eq_true rfl⟩ rfl rfl rfl (Nat.le_of_ble_eq_true rfl) ⟨Nat.le_of_ble_eq_true rfl, Nat.le_of_ble_eq_true rfl⟩ dX2_act_79 hP hD hS hA [1, 2, 3, 4, 5, 6] rfl (by decide +kernel) [q2 100, q2 6, q2 7, q2 8, q2 9, q2 10] rfl rfl rfl [0, 7, 8, 9, 10, 11] (wX2 g q1 q2 S1 ++ (wX6 g q3 S3)) rfl rfl (n2 := 12) rfl (by decide +kernel) (fun H locs hP hD hS => ?_)
        obtain rfl := fx_i1 h
        exact Cv.ret hC hr hlk hA9 hP hD hS dX2_act_82
      · refine lv_aload_n hx hb dX2_act_58 rfl (lv_at hl 0 rfl) ?_
        refine k_get (ci := 2) (k := 0) (q0 := 0) (v := .ref (q2 100)) (C := RX2) (T := TX2) (N := 5) hC uX2_act_X2 hP rfl rfl (by decide) (List.mem_of_getElem? (i := 1) rfl) rfl dX2_act_59 ?_
        refine lv_iload_n hx hb dX2_act_62 rfl (lv_at hl 2 rfl) ?_
        refine lv_aload_n hx hb dX2_act_63 rfl (lv_at hl 3 rfl) ?_
        obtain ⟨S108, hc109, h⟩ := fx_b1_s h
        refine k_callVv (C := RX3) (ci := 3) (qr := 0) (n := 2) (As := [.int x2, .ref (q3 100)]) (rest := []) (wc := (wX3 g q2 S2 ++ (wX6 g q3 S3))) (w1 := (wX3 g q2 S108 ++ (wX6 g q3 S3))) (ws2 := (wX2 g q1 q2 S1 ++ (wX3 g q2 S108 ++ (wX6 g q3 S3)))) (bytes := cX3_takeFrom) (maxL := 6) (ret := none) hC hl.1 (c_X3_takeFrom l g N q2 q3 S2 S3 x2 S108 hc109) rfl gX2_act_X3_takeFrom (by decide +kernel) rfl rfl ⟨Nat.le_of_ble_eq_true rfl, Nat.le_of_ble_eq_true rfl⟩ rfl rfl rfl (Nat.le_of_ble_eq_true rfl) ⟨Nat.le_of_ble_eq_true rfl, Nat.le_of_ble_eq_true rfl⟩ dX2_act_64 hP hD hS hA [1, 2, 3, 4, 5, 6, 7, 8, 9, 10, 11] rfl (by decide +kernel) [q2 100, q2 6, q2 7, q2 8, q2 9, q2 10, q3 100, q3 1, q3 2, q3 3, q3 4] rfl rfl rfl [0] (wX2 g q1 q2 S1) rfl rfl (n2 := 12) rfl (by decide +kernel) (fun H locs hP hD hS => ?_)
        refine lv_goto (tgt := 82) hx hb dX2_act_67 (by decide) ?_
        obtain rfl := fx_i1 h
        exact Cv.ret hC hr hlk hA9 hP hD hS dX2_act_82
    · refine lv_iload_n hx hb dX2_act_12 rfl (lv_at hl 1 rfl) ?_
      refine lv_bipush (v := (46 : Int32)) hx hb dX2_act_13 (by decide) ?_
      obtain ⟨v110, hv111, h⟩ := fx_b1_s h
      have K114 : ∀ (H : Heap) (locs : List Loc) (ls : Array Slot), va_P g.1 vwCl (wX2 g q1 q2 S1 ++ (wX3 g q2 S2 ++ (wX6 g q3 S3))) H → va_D A (wX2 g q1 q2 S1 ++ (wX3 g q2 S2 ++ (wX6 g q3 S3))) → va_S A s.heap H locs → lv_has ls 6 [(0, .ref (q1 100))] → W p l e RM_X2_act s m ([.ref (q1 100), .int x1, .int x2, .ref (q3 100)] : List Value).toArray below meth c H locs 0 0 (Qv below g [.ref (q1 100), .int x1, .int x2, .ref (q3 100)] (wX2 g q1 q2 S1 ++ (wX3 g q2 S2 ++ (wX6 g q3 S3))) (wX2 g q1 q2 S1 ++ (wX3 g q2 F2 ++ (wX6 g q3 S3))) s) (F0 m 24 ls [.int v110]) := by
        intro H locs ls hP hD hS hl
        refine lv_istore (lv' := [(4, .int v110), (0, .ref (q1 100))]) hx hb dX2_act_24 hl (by decide) rfl (fun ls hl => ?_)
        refine lv_iconst (v := (0 : Int32)) hx hb dX2_act_26 (by decide) ?_
        refine lv_istore (lv' := [(5, .int (0 : Int32)), (4, .int v110), (0, .ref (q1 100))]) hx hb dX2_act_27 hl (by decide) rfl (fun ls hl => ?_)
        obtain ⟨S112, ho113, h⟩ := fx_b1_s h
        refine lw_X2_act_29 hC hA N q1 q2 q3 v110 S1 S3 N (0 : Int32) S2  S112 ho113 _ _ _ hP hD hS (lv_sub hl [2, 1, 0] rfl) ?_
        · intro y0 he H locs ls hP hD hS hl
          obtain rfl := he
          refine lv_goto (tgt := 82) hx hb dX2_act_49 (by decide) ?_
          obtain rfl := fx_i1 h
          exact Cv.ret hC hr hlk hA9 hP hD hS dX2_act_82
      refine k_icmp_ne (tgt := 22) hC dX2_act_15 (by decide) hv111 (fun hv111 => ?_) (fun hv111 => ?_)
      · refine lv_bipush (v := (10 : Int32)) hx hb dX2_act_22 (by decide) ?_
        obtain rfl := fx_i1 hv111
        exact K114 _ _ _ hP hD hS (lv_sub hl [0] rfl)
      · refine lv_iconst (v := (1 : Int32)) hx hb dX2_act_18 (by decide) ?_
        refine lv_goto (tgt := 24) hx hb dX2_act_19 (by decide) ?_
        obtain rfl := fx_i1 hv111
        exact K114 _ _ _ hP hD hS (lv_sub hl [0] rfl)
theorem uX6_mustBeApart_X6 : ∀ w ∈ u_ws RX6 TX6 5, w ∈ wsX6_mustBeApart := fun w h => List.mem_cons_of_mem _ (List.mem_append_right _ h)
abbrev RM_X6_mustBeApart : Room := { frames := 0, cells := 0, slots := 0, locals := 0 }
def f_X6_mustBeApart (N : Nat) (S1 : St) (x1 : Int32) (x2 : Int32) : Option (Int32) :=
  fx_ald 6 (S1.2 4) x1 (fun v101 =>
  (if ((v101 >>> (x2 &&& 31)) &&& (1 : Int32)) = (1 : Int32) then (
  some (1 : Int32)) else (
  some (0 : Int32))))
set_option maxRecDepth 100000 in
set_option maxHeartbeats 4000000 in
theorem c_X6_mustBeApart (l : Launch) (g : GG) (N : Nat) (q1 : Nat → Nat) (S1 : St) (x1 : Int32) (x2 : Int32) (r : Int32) (h : f_X6_mustBeApart N S1 x1 x2 = some r) : Ci l yX6_mustBeApart wsX6_mustBeApart RM_X6_mustBeApart g [.ref (q1 100), .int x1, .int x2] (wX6 g q1 S1) (wX6 g q1 S1) r := by
  intro sz
  refine Met.ofC (cc := cX6_mustBeApart) (maxL := 3) (ret := (some .boolean)) (by decide) rfl (Nat.le_of_ble_eq_true rfl) ?_
  intro p e s m below meth c hC hr hlk hsz A hA9 hA hP hD hS ls hl
  subst hsz
  have hC : Cx p s m ([.ref (q1 100), .int x1, .int x2] : List Value).toArray c RX6 cX6_mustBeApart 3 wsX6_mustBeApart g := hC
  have hx := hC.1.1
  have hb := hC.1.2.1
  have hml := hC.1.2.2.1
  have hown := hC.1.2.2.2.1
  have hts := hC.1.2.2.2.2
  have hl : lv_has ls 3 [(0, .ref (q1 100)), (1, .int x1), (2, .int x2)] := hl
  show W p l e RM_X6_mustBeApart s m ([.ref (q1 100), .int x1, .int x2] : List Value).toArray below meth c s.heap [] 0 0 (Qi below g [.ref (q1 100), .int x1, .int x2] (wX6 g q1 S1) (wX6 g q1 S1) r s) (F0 m 0 ls [])
  unfold f_X6_mustBeApart at h
  refine lv_aload_n hx hb dX6_mustBeApart_0 rfl (lv_at hl 0 rfl) ?_
  refine k_get (ci := 6) (k := 4) (q0 := 0) (v := .ref (q1 4)) (C := RX6) (T := TX6) (N := 5) hC uX6_mustBeApart_X6 hP rfl rfl (by decide) (List.mem_of_getElem? (i := 1) rfl) rfl dX6_mustBeApart_1 ?_
  refine lv_iload_n hx hb dX6_mustBeApart_4 rfl (lv_at hl 1 rfl) ?_
  refine k_ald (q0 := 4) (n := 6) (F := S1.2 4) hC hP rfl dX6_mustBeApart_5 h (fun v101 h => ?_)
  refine lv_iload_n hx hb dX6_mustBeApart_6 rfl (lv_at hl 2 rfl) ?_
  refine lv_ishr hx hb dX6_mustBeApart_7 ?_
  refine lv_iconst (v := (1 : Int32)) hx hb dX6_mustBeApart_8 (by decide) ?_
  refine lv_iand hx hb dX6_mustBeApart_9 ?_
  refine lv_iconst (v := (1 : Int32)) hx hb dX6_mustBeApart_10 (by decide) ?_
  refine k_icmp_ne (tgt := 18) hC dX6_mustBeApart_11 (by decide) h (fun h => ?_) (fun h => ?_)
  · refine lv_iconst (v := (0 : Int32)) hx hb dX6_mustBeApart_18 (by decide) ?_
    obtain rfl := fx_i1 h
    exact Ci.retz hC hr hlk rfl hA9 hP hD hS dX6_mustBeApart_19
  · refine lv_iconst (v := (1 : Int32)) hx hb dX6_mustBeApart_14 (by decide) ?_
    refine lv_goto (tgt := 19) hx hb dX6_mustBeApart_15 (by decide) ?_
    obtain rfl := fx_i1 h
    exact Ci.retz hC hr hlk rfl hA9 hP hD hS dX6_mustBeApart_19
theorem uX3_hasBadNeighbours_X3 : ∀ w ∈ u_ws RX3 TX3 11, w ∈ wsX3_hasBadNeighbours := fun w h => List.mem_cons_of_mem _ (List.mem_append_left _ (List.mem_append_right _ h))
abbrev RM_X3_hasBadNeighbours : Room := { frames := 1, cells := 0, slots := 0, locals := 22 }
def bd_X3_hasBadNeighbours_12 (N : Nat) (x2 : Int32) (S1 : St) (S2 : St) (x3 : Int32) (rec : (Int32) → Option (Nat)) : Option (Nat) :=
  fx_ald 4 (S1.2 7) x2 (fun v101 =>
    (if v101 ≤ x3 then (
    some 2) else (
    fx_b1 (f_X3_cell N x2 x3) (fun v102 =>
      fx_ald 24 (S1.2 8) v102 (fun v103 =>
      fx_ald 4 (S1.2 7) x2 (fun v104 =>
      (if v104 ≤ (x3 + (1 : Int32)) then (
      fx_b1 ((if (S1.1 0) ≤ (x2 + (1 : Int32)) then (
        some (0 : Int32)) else (
        fx_ald 4 (S1.2 7) (x2 + (1 : Int32)) (fun v115 =>
          (if v115 ≤ x3 then (
          some (0 : Int32)) else (
          some (1 : Int32)))))) : Option (Int32)) (fun v105 =>
        (if v105 = 0 then (
          fx_lt (x3 + (1 : Int32)) (fun x107 =>
            rec x107)) else (
          fx_b1 (f_X3_cell N (x2 + (1 : Int32)) x3) (fun v108 =>
            fx_ald 24 (S1.2 8) v108 (fun v109 =>
            fx_b1 (f_X6_mustBeApart N S2 v103 v109) (fun v110 =>
            (if v110 = 0 then (
            fx_lt (x3 + (1 : Int32)) (fun x111 =>
              rec x111)) else (
            some 1))))))))) else (
      fx_b1 (f_X3_cell N x2 (x3 + (1 : Int32))) (fun v116 =>
        fx_ald 24 (S1.2 8) v116 (fun v117 =>
        fx_b1 (f_X6_mustBeApart N S2 v103 v117) (fun v118 =>
        (if v118 = 0 then (
        fx_b1 ((if (S1.1 0) ≤ (x2 + (1 : Int32)) then (
          some (0 : Int32)) else (
          fx_ald 4 (S1.2 7) (x2 + (1 : Int32)) (fun v129 =>
            (if v129 ≤ x3 then (
            some (0 : Int32)) else (
            some (1 : Int32)))))) : Option (Int32)) (fun v119 =>
          (if v119 = 0 then (
            fx_lt (x3 + (1 : Int32)) (fun x121 =>
              rec x121)) else (
            fx_b1 (f_X3_cell N (x2 + (1 : Int32)) x3) (fun v122 =>
              fx_ald 24 (S1.2 8) v122 (fun v123 =>
              fx_b1 (f_X6_mustBeApart N S2 v103 v123) (fun v124 =>
              (if v124 = 0 then (
              fx_lt (x3 + (1 : Int32)) (fun x125 =>
                rec x125)) else (
              some 1))))))))) else (
        some 0)))))))))))))
def lf_X3_hasBadNeighbours_12 (N : Nat) (x2 : Int32) (S1 : St) (S2 : St) : (Int32) → ((Int32) → Option (Nat)) → Option (Nat) := fun x rec => bd_X3_hasBadNeighbours_12 N x2 S1 S2 x rec
set_option maxRecDepth 100000 in
set_option maxHeartbeats 4000000 in
theorem lw_X3_hasBadNeighbours_12 {p : Program} {l : Launch} {e : Env} {s : State} {m : MethodId} {args : Array Value} {below : List Frame} {meth : Method} {c : Code} {Q : State → Prop} {A : Nat → Prop} {H0 : Heap} {g : GG} (hC : Cx p s m args c RX3 cX3_hasBadNeighbours 6 wsX3_hasBadNeighbours g) (hA : ∀ q : Nat, H0.size ≤ q → A q) (N : Nat) (q1 : Nat → Nat) (q2 : Nat → Nat) (x2 : Int32) (S1 : St) (S2 : St) : ∀ (n : Nat) (x3 : Int32) (o : Nat), fx_it (lf_X3_hasBadNeighbours_12 N x2 S1 S2) n x3 = some o → ∀ (H : Heap) (locs : List Loc) (ls : Array Slot), va_P g.1 vwCl (wX3 g q1 S1 ++ (wX6 g q2 S2)) H → va_D A (wX3 g q1 S1 ++ (wX6 g q2 S2)) → va_S A H0 H locs → lv_has ls 6 [(0, .ref (q1 100)), (1, .ref (q2 100)), (2, .int x2), (3, .int x3)] → (o = 0 → ∀ (H : Heap) (locs : List Loc) (ls : Array Slot), va_P g.1 vwCl (wX3 g q1 S1 ++ (wX6 g q2 S2)) H → va_D A (wX3 g q1 S1 ++ (wX6 g q2 S2)) → va_S A H0 H locs → lv_has ls 6 [] → W p l e RM_X3_hasBadNeighbours s m args below meth c H locs 0 0 Q (F0 m 67 ls [])) → (o = 1 → ∀ (H : Heap) (locs : List Loc) (ls : Array Slot), va_P g.1 vwCl (wX3 g q1 S1 ++ (wX6 g q2 S2)) H → va_D A (wX3 g q1 S1 ++ (wX6 g q2 S2)) → va_S A H0 H locs → lv_has ls 6 [] → W p l e RM_X3_hasBadNeighbours s m args below meth c H locs 0 0 Q (F0 m 124 ls [])) → (o = 2 → ∀ (H : Heap) (locs : List Loc) (ls : Array Slot), va_P g.1 vwCl (wX3 g q1 S1 ++ (wX6 g q2 S2)) H → va_D A (wX3 g q1 S1 ++ (wX6 g q2 S2)) → va_S A H0 H locs → lv_has ls 6 [(0, .ref (q1 100)), (1, .ref (q2 100)), (2, .int x2)] → W p l e RM_X3_hasBadNeighbours s m args below meth c H locs 0 0 Q (F0 m 132 ls [])) → W p l e RM_X3_hasBadNeighbours s m args below meth c H locs 0 0 Q (F0 m 12 ls []) := by
  have hx := hC.1.1
  have hb := hC.1.2.1
  have hml := hC.1.2.2.1
  have hown := hC.1.2.2.2.1
  have hts := hC.1.2.2.2.2
  intro n
  induction n with
  | zero => intro x3 o h; cases h
  | succ n ih =>
    intro x3 o h H locs ls hP hD hS hl k0 k1 k2
    have h : bd_X3_hasBadNeighbours_12 N x2 S1 S2 x3 (fx_it (lf_X3_hasBadNeighbours_12 N x2 S1 S2) n) = some o := h
    unfold bd_X3_hasBadNeighbours_12 at h
    refine lv_iload_n hx hb dX3_hasBadNeighbours_12 rfl (lv_at hl 3 rfl) ?_
    refine lv_aload_n hx hb dX3_hasBadNeighbours_13 rfl (lv_at hl 0 rfl) ?_
    refine k_get (ci := 3) (k := 7) (q0 := 0) (v := .ref (q1 7)) (C := RX3) (T := TX3) (N := 11) hC uX3_hasBadNeighbours_X3 hP rfl rfl (by decide) (List.mem_of_getElem? (i := 2) rfl) rfl dX3_hasBadNeighbours_14 ?_
    refine lv_iload_n hx hb dX3_hasBadNeighbours_17 rfl (lv_at hl 2 rfl) ?_
    refine k_ald (q0 := 2) (n := 4) (F := S1.2 7) hC hP rfl dX3_hasBadNeighbours_18 h (fun v101 h => ?_)
    refine k_icmp_ge (tgt := 132) hC dX3_hasBadNeighbours_19 (by decide) h (fun h => ?_) (fun h => ?_)
    · exact k2 (Option.some.inj h).symm _ _ _ hP hD hS (lv_sub hl [0, 1, 2] rfl)
    · refine lv_aload_n hx hb dX3_hasBadNeighbours_22 rfl (lv_at hl 0 rfl) ?_
      refine k_get (ci := 3) (k := 8) (q0 := 0) (v := .ref (q1 8)) (C := RX3) (T := TX3) (N := 11) hC uX3_hasBadNeighbours_X3 hP rfl rfl (by decide) (List.mem_of_getElem? (i := 3) rfl) rfl dX3_hasBadNeighbours_23 ?_
      refine lv_iload_n hx hb dX3_hasBadNeighbours_26 rfl (lv_at hl 2 rfl) ?_
      refine lv_iload_n hx hb dX3_hasBadNeighbours_27 rfl (lv_at hl 3 rfl) ?_
      obtain ⟨v102, hc132, h⟩ := fx_b1_s h
      refine k_callSi0 (n := 2) (As := [.int x2, .int x3]) (rest := [.ref (q1 8)]) (wc := ([] : va_W)) (bytes := cX3_cell) (maxL := 2) (ret := (some .int)) hC hl.1 (c_X3_cell l g N x2 x3 v102 hc132) rfl gX3_hasBadNeighbours_X3_cell (by decide +kernel) ⟨Nat.le_of_ble_eq_true rfl, Nat.le_of_ble_eq_true rfl⟩ rfl rfl rfl (Nat.le_of_ble_eq_true rfl) ⟨Nat.le_of_ble_eq_true rfl, Nat.le_of_ble_eq_true rfl⟩ dX3_hasBadNeighbours_28 hP hD hS hA [] rfl (by decide +kernel) (fun H locs hP hD hS => ?_)
      refine k_ald (q0 := 3) (n := 24) (F := S1.2 8) hC hP rfl dX3_hasBadNeighbours_31 h (fun v103 h => ?_)
      refine lv_istore (lv' := [(4, .int v103), (0, .ref (q1 100)), (1, .ref (q2 100)), (2, .int x2), (3, .int x3)]) hx hb dX3_hasBadNeighbours_32 hl (by decide) rfl (fun ls hl => ?_)
      refine lv_iload_n hx hb dX3_hasBadNeighbours_34 rfl (lv_at hl 4 rfl) ?_
      refine lv_iconst (v := (1 : Int32)) hx hb dX3_hasBadNeighbours_35 (by decide) ?_
      refine lv_iadd hx hb dX3_hasBadNeighbours_36 ?_
      refine lv_aload_n hx hb dX3_hasBadNeighbours_37 rfl (lv_at hl 1 rfl) ?_
      refine k_get (ci := 3) (k := 7) (q0 := 0) (v := .ref (q1 7)) (C := RX3) (T := TX3) (N := 11) hC uX3_hasBadNeighbours_X3 hP rfl rfl (by decide) (List.mem_of_getElem? (i := 2) rfl) rfl dX3_hasBadNeighbours_38 ?_
      refine lv_iload_n hx hb dX3_hasBadNeighbours_41 rfl (lv_at hl 3 rfl) ?_
      refine k_ald (q0 := 2) (n := 4) (F := S1.2 7) hC hP rfl dX3_hasBadNeighbours_42 h (fun v104 h => ?_)
      refine k_icmp_ge (tgt := 69) hC dX3_hasBadNeighbours_43 (by decide) h (fun h => ?_) (fun h => ?_)
      · refine lv_iload_n hx hb dX3_hasBadNeighbours_69 rfl (lv_at hl 3 rfl) ?_
        refine lv_iconst (v := (1 : Int32)) hx hb dX3_hasBadNeighbours_70 (by decide) ?_
        refine lv_iadd hx hb dX3_hasBadNeighbours_71 ?_
        refine lv_aload_n hx hb dX3_hasBadNeighbours_72 rfl (lv_at hl 1 rfl) ?_
        refine k_get (ci := 3) (k := 0) (q0 := 0) (v := .int (S1.1 0)) (C := RX3) (T := TX3) (N := 11) hC uX3_hasBadNeighbours_X3 hP rfl rfl (by decide) (List.mem_of_getElem? (i := 1) rfl) rfl dX3_hasBadNeighbours_73 ?_
        obtain ⟨v105, hv106, h⟩ := fx_b1_s h
        have K114 : ∀ (H : Heap) (locs : List Loc) (ls : Array Slot), va_P g.1 vwCl (wX3 g q1 S1 ++ (wX6 g q2 S2)) H → va_D A (wX3 g q1 S1 ++ (wX6 g q2 S2)) → va_S A H0 H locs → lv_has ls 6 [(4, .int v103), (0, .ref (q1 100)), (1, .ref (q2 100)), (2, .int x2), (3, .int x3)] → W p l e RM_X3_hasBadNeighbours s m args below meth c H locs 0 0 Q (F0 m 96 ls [.int v105]) := by
          intro H locs ls hP hD hS hl
          refine lv_istore (lv' := [(5, .int v105), (4, .int v103), (0, .ref (q1 100)), (1, .ref (q2 100)), (2, .int x2), (3, .int x3)]) hx hb dX3_hasBadNeighbours_96 hl (by decide) rfl (fun ls hl => ?_)
          refine lv_iload hx hb dX3_hasBadNeighbours_98 (lv_at hl 0 rfl) ?_
          refine k_if_eq (tgt := 126) hC dX3_hasBadNeighbours_100 (by decide) h (fun h => ?_) (fun h => ?_)
          · refine k_iinc (v := (1 : Int32)) (lv' := fun X => [(3, .int X), (5, .int v105), (4, .int v103), (0, .ref (q1 100)), (1, .ref (q2 100)), (2, .int x2)]) hC dX3_hasBadNeighbours_126 hl (k := 5) rfl (by decide) (by decide) (fun _ => rfl) h (fun x107 h ls hl => ?_)
            refine lv_goto (tgt := 12) hx hb dX3_hasBadNeighbours_129 (by decide) ?_
            exact ih x107 o h _ _ _ hP hD hS (lv_sub hl [3, 4, 5, 0] rfl) k0 k1 k2
          · refine lv_aload_n hx hb dX3_hasBadNeighbours_103 rfl (lv_at hl 3 rfl) ?_
            refine lv_iload hx hb dX3_hasBadNeighbours_104 (lv_at hl 1 rfl) ?_
            refine lv_aload_n hx hb dX3_hasBadNeighbours_106 rfl (lv_at hl 2 rfl) ?_
            refine k_get (ci := 3) (k := 8) (q0 := 0) (v := .ref (q1 8)) (C := RX3) (T := TX3) (N := 11) hC uX3_hasBadNeighbours_X3 hP rfl rfl (by decide) (List.mem_of_getElem? (i := 3) rfl) rfl dX3_hasBadNeighbours_107 ?_
            refine lv_iload_n hx hb dX3_hasBadNeighbours_110 rfl (lv_at hl 4 rfl) ?_
            refine lv_iconst (v := (1 : Int32)) hx hb dX3_hasBadNeighbours_111 (by decide) ?_
            refine lv_iadd hx hb dX3_hasBadNeighbours_112 ?_
            refine lv_iload_n hx hb dX3_hasBadNeighbours_113 rfl (lv_at hl 5 rfl) ?_
            obtain ⟨v108, hc113, h⟩ := fx_b1_s h
            refine k_callSi0 (n := 2) (As := [.int (x2 + (1 : Int32)), .int x3]) (rest := [.ref (q1 8), .int v103, .ref (q2 100)]) (wc := ([] : va_W)) (bytes := cX3_cell) (maxL := 2) (ret := (some .int)) hC hl.1 (c_X3_cell l g N (x2 + (1 : Int32)) x3 v108 hc113) rfl gX3_hasBadNeighbours_X3_cell (by decide +kernel) ⟨Nat.le_of_ble_eq_true rfl, Nat.le_of_ble_eq_true rfl⟩ rfl rfl rfl (Nat.le_of_ble_eq_true rfl) ⟨Nat.le_of_ble_eq_true rfl, Nat.le_of_ble_eq_true rfl⟩ dX3_hasBadNeighbours_114 hP hD hS hA [] rfl (by decide +kernel) (fun H locs hP hD hS => ?_)
            refine k_ald (q0 := 3) (n := 24) (F := S1.2 8) hC hP rfl dX3_hasBadNeighbours_117 h (fun v109 h => ?_)
            obtain ⟨v110, hc112, h⟩ := fx_b1_s h
            refine k_callVi0 (C := RX6) (ci := 6) (qr := 0) (n := 2) (As := [.int v103, .int v109]) (rest := []) (wc := (wX6 g q2 S2)) (bytes := cX6_mustBeApart) (maxL := 3) (ret := (some .boolean)) hC hl.1 (c_X6_mustBeApart l g N q2 S2 v103 v109 v110 hc112) rfl gX3_hasBadNeighbours_X6_mustBeApart (by decide +kernel) rfl rfl ⟨Nat.le_of_ble_eq_true rfl, Nat.le_of_ble_eq_true rfl⟩ rfl rfl rfl (Nat.le_of_ble_eq_true rfl) ⟨Nat.le_of_ble_eq_true rfl, Nat.le_of_ble_eq_true rfl⟩ dX3_hasBadNeighbours_118 hP hD hS hA [6, 7, 8, 9, 10] rfl (by decide +kernel) (fun H locs hP hD hS => ?_)
            refine k_if_eq (tgt := 126) hC dX3_hasBadNeighbours_121 (by decide) h (fun h => ?_) (fun h => ?_)
            · refine k_iinc (v := (1 : Int32)) (lv' := fun X => [(3, .int X), (5, .int v105), (4, .int v103), (0, .ref (q1 100)), (1, .ref (q2 100)), (2, .int x2)]) hC dX3_hasBadNeighbours_126 hl (k := 5) rfl (by decide) (by decide) (fun _ => rfl) h (fun x111 h ls hl => ?_)
              refine lv_goto (tgt := 12) hx hb dX3_hasBadNeighbours_129 (by decide) ?_
              exact ih x111 o h _ _ _ hP hD hS (lv_sub hl [3, 4, 5, 0] rfl) k0 k1 k2
            · exact k1 (Option.some.inj h).symm _ _ _ hP hD hS (lv_sub hl [] rfl)
        refine k_icmp_ge (tgt := 95) hC dX3_hasBadNeighbours_76 (by decide) hv106 (fun hv106 => ?_) (fun hv106 => ?_)
        · refine lv_iconst (v := (0 : Int32)) hx hb dX3_hasBadNeighbours_95 (by decide) ?_
          obtain rfl := fx_i1 hv106
          exact K114 _ _ _ hP hD hS (lv_sub hl [0, 1, 2, 3, 4] rfl)
        · refine lv_iload_n hx hb dX3_hasBadNeighbours_79 rfl (lv_at hl 4 rfl) ?_
          refine lv_aload_n hx hb dX3_hasBadNeighbours_80 rfl (lv_at hl 1 rfl) ?_
          refine k_get (ci := 3) (k := 7) (q0 := 0) (v := .ref (q1 7)) (C := RX3) (T := TX3) (N := 11) hC uX3_hasBadNeighbours_X3 hP rfl rfl (by decide) (List.mem_of_getElem? (i := 2) rfl) rfl dX3_hasBadNeighbours_81 ?_
          refine lv_iload_n hx hb dX3_hasBadNeighbours_84 rfl (lv_at hl 3 rfl) ?_
          refine lv_iconst (v := (1 : Int32)) hx hb dX3_hasBadNeighbours_85 (by decide) ?_
          refine lv_iadd hx hb dX3_hasBadNeighbours_86 ?_
          refine k_ald (q0 := 2) (n := 4) (F := S1.2 7) hC hP rfl dX3_hasBadNeighbours_87 hv106 (fun v115 hv106 => ?_)
          refine k_icmp_ge (tgt := 95) hC dX3_hasBadNeighbours_88 (by decide) hv106 (fun hv106 => ?_) (fun hv106 => ?_)
          · refine lv_iconst (v := (0 : Int32)) hx hb dX3_hasBadNeighbours_95 (by decide) ?_
            obtain rfl := fx_i1 hv106
            exact K114 _ _ _ hP hD hS (lv_sub hl [0, 1, 2, 3, 4] rfl)
          · refine lv_iconst (v := (1 : Int32)) hx hb dX3_hasBadNeighbours_91 (by decide) ?_
            refine lv_goto (tgt := 96) hx hb dX3_hasBadNeighbours_92 (by decide) ?_
            obtain rfl := fx_i1 hv106
            exact K114 _ _ _ hP hD hS (lv_sub hl [0, 1, 2, 3, 4] rfl)
      · refine lv_aload_n hx hb dX3_hasBadNeighbours_46 rfl (lv_at hl 2 rfl) ?_
        refine lv_iload hx hb dX3_hasBadNeighbours_47 (lv_at hl 0 rfl) ?_
        refine lv_aload_n hx hb dX3_hasBadNeighbours_49 rfl (lv_at hl 1 rfl) ?_
        refine k_get (ci := 3) (k := 8) (q0 := 0) (v := .ref (q1 8)) (C := RX3) (T := TX3) (N := 11) hC uX3_hasBadNeighbours_X3 hP rfl rfl (by decide) (List.mem_of_getElem? (i := 3) rfl) rfl dX3_hasBadNeighbours_50 ?_
        refine lv_iload_n hx hb dX3_hasBadNeighbours_53 rfl (lv_at hl 3 rfl) ?_
        refine lv_iload_n hx hb dX3_hasBadNeighbours_54 rfl (lv_at hl 4 rfl) ?_
        refine lv_iconst (v := (1 : Int32)) hx hb dX3_hasBadNeighbours_55 (by decide) ?_
        refine lv_iadd hx hb dX3_hasBadNeighbours_56 ?_
        obtain ⟨v116, hc131, h⟩ := fx_b1_s h
        refine k_callSi0 (n := 2) (As := [.int x2, .int (x3 + (1 : Int32))]) (rest := [.ref (q1 8), .int v103, .ref (q2 100)]) (wc := ([] : va_W)) (bytes := cX3_cell) (maxL := 2) (ret := (some .int)) hC hl.1 (c_X3_cell l g N x2 (x3 + (1 : Int32)) v116 hc131) rfl gX3_hasBadNeighbours_X3_cell (by decide +kernel) ⟨Nat.le_of_ble_eq_true rfl, Nat.le_of_ble_eq_true rfl⟩ rfl rfl rfl (Nat.le_of_ble_eq_true rfl) ⟨Nat.le_of_ble_eq_true rfl, Nat.le_of_ble_eq_true rfl⟩ dX3_hasBadNeighbours_57 hP hD hS hA [] rfl (by decide +kernel) (fun H locs hP hD hS => ?_)
        refine k_ald (q0 := 3) (n := 24) (F := S1.2 8) hC hP rfl dX3_hasBadNeighbours_60 h (fun v117 h => ?_)
        obtain ⟨v118, hc130, h⟩ := fx_b1_s h
        refine k_callVi0 (C := RX6) (ci := 6) (qr := 0) (n := 2) (As := [.int v103, .int v117]) (rest := []) (wc := (wX6 g q2 S2)) (bytes := cX6_mustBeApart) (maxL := 3) (ret := (some .boolean)) hC hl.1 (c_X6_mustBeApart l g N q2 S2 v103 v117 v118 hc130) rfl gX3_hasBadNeighbours_X6_mustBeApart (by decide +kernel) rfl rfl ⟨Nat.le_of_ble_eq_true rfl, Nat.le_of_ble_eq_true rfl⟩ rfl rfl rfl (Nat.le_of_ble_eq_true rfl) ⟨Nat.le_of_ble_eq_true rfl, Nat.le_of_ble_eq_true rfl⟩ dX3_hasBadNeighbours_61 hP hD hS hA [6, 7, 8, 9, 10] rfl (by decide +kernel) (fun H locs hP hD hS => ?_)
        refine k_if_eq (tgt := 69) hC dX3_hasBadNeighbours_64 (by decide) h (fun h => ?_) (fun h => ?_)
        · refine lv_iload_n hx hb dX3_hasBadNeighbours_69 rfl (lv_at hl 3 rfl) ?_
          refine lv_iconst (v := (1 : Int32)) hx hb dX3_hasBadNeighbours_70 (by decide) ?_
          refine lv_iadd hx hb dX3_hasBadNeighbours_71 ?_
          refine lv_aload_n hx hb dX3_hasBadNeighbours_72 rfl (lv_at hl 1 rfl) ?_
          refine k_get (ci := 3) (k := 0) (q0 := 0) (v := .int (S1.1 0)) (C := RX3) (T := TX3) (N := 11) hC uX3_hasBadNeighbours_X3 hP rfl rfl (by decide) (List.mem_of_getElem? (i := 1) rfl) rfl dX3_hasBadNeighbours_73 ?_
          obtain ⟨v119, hv120, h⟩ := fx_b1_s h
          have K128 : ∀ (H : Heap) (locs : List Loc) (ls : Array Slot), va_P g.1 vwCl (wX3 g q1 S1 ++ (wX6 g q2 S2)) H → va_D A (wX3 g q1 S1 ++ (wX6 g q2 S2)) → va_S A H0 H locs → lv_has ls 6 [(4, .int v103), (0, .ref (q1 100)), (1, .ref (q2 100)), (2, .int x2), (3, .int x3)] → W p l e RM_X3_hasBadNeighbours s m args below meth c H locs 0 0 Q (F0 m 96 ls [.int v119]) := by
            intro H locs ls hP hD hS hl
            refine lv_istore (lv' := [(5, .int v119), (4, .int v103), (0, .ref (q1 100)), (1, .ref (q2 100)), (2, .int x2), (3, .int x3)]) hx hb dX3_hasBadNeighbours_96 hl (by decide) rfl (fun ls hl => ?_)
            refine lv_iload hx hb dX3_hasBadNeighbours_98 (lv_at hl 0 rfl) ?_
            refine k_if_eq (tgt := 126) hC dX3_hasBadNeighbours_100 (by decide) h (fun h => ?_) (fun h => ?_)
            · refine k_iinc (v := (1 : Int32)) (lv' := fun X => [(3, .int X), (5, .int v119), (4, .int v103), (0, .ref (q1 100)), (1, .ref (q2 100)), (2, .int x2)]) hC dX3_hasBadNeighbours_126 hl (k := 5) rfl (by decide) (by decide) (fun _ => rfl) h (fun x121 h ls hl => ?_)
              refine lv_goto (tgt := 12) hx hb dX3_hasBadNeighbours_129 (by decide) ?_
              exact ih x121 o h _ _ _ hP hD hS (lv_sub hl [3, 4, 5, 0] rfl) k0 k1 k2
            · refine lv_aload_n hx hb dX3_hasBadNeighbours_103 rfl (lv_at hl 3 rfl) ?_
              refine lv_iload hx hb dX3_hasBadNeighbours_104 (lv_at hl 1 rfl) ?_
              refine lv_aload_n hx hb dX3_hasBadNeighbours_106 rfl (lv_at hl 2 rfl) ?_
              refine k_get (ci := 3) (k := 8) (q0 := 0) (v := .ref (q1 8)) (C := RX3) (T := TX3) (N := 11) hC uX3_hasBadNeighbours_X3 hP rfl rfl (by decide) (List.mem_of_getElem? (i := 3) rfl) rfl dX3_hasBadNeighbours_107 ?_
              refine lv_iload_n hx hb dX3_hasBadNeighbours_110 rfl (lv_at hl 4 rfl) ?_
              refine lv_iconst (v := (1 : Int32)) hx hb dX3_hasBadNeighbours_111 (by decide) ?_
              refine lv_iadd hx hb dX3_hasBadNeighbours_112 ?_
              refine lv_iload_n hx hb dX3_hasBadNeighbours_113 rfl (lv_at hl 5 rfl) ?_
              obtain ⟨v122, hc127, h⟩ := fx_b1_s h
              refine k_callSi0 (n := 2) (As := [.int (x2 + (1 : Int32)), .int x3]) (rest := [.ref (q1 8), .int v103, .ref (q2 100)]) (wc := ([] : va_W)) (bytes := cX3_cell) (maxL := 2) (ret := (some .int)) hC hl.1 (c_X3_cell l g N (x2 + (1 : Int32)) x3 v122 hc127) rfl gX3_hasBadNeighbours_X3_cell (by decide +kernel) ⟨Nat.le_of_ble_eq_true rfl, Nat.le_of_ble_eq_true rfl⟩ rfl rfl rfl (Nat.le_of_ble_eq_true rfl) ⟨Nat.le_of_ble_eq_true rfl, Nat.le_of_ble_eq_true rfl⟩ dX3_hasBadNeighbours_114 hP hD hS hA [] rfl (by decide +kernel) (fun H locs hP hD hS => ?_)
              refine k_ald (q0 := 3) (n := 24) (F := S1.2 8) hC hP rfl dX3_hasBadNeighbours_117 h (fun v123 h => ?_)
              obtain ⟨v124, hc126, h⟩ := fx_b1_s h
              refine k_callVi0 (C := RX6) (ci := 6) (qr := 0) (n := 2) (As := [.int v103, .int v123]) (rest := []) (wc := (wX6 g q2 S2)) (bytes := cX6_mustBeApart) (maxL := 3) (ret := (some .boolean)) hC hl.1 (c_X6_mustBeApart l g N q2 S2 v103 v123 v124 hc126) rfl gX3_hasBadNeighbours_X6_mustBeApart (by decide +kernel) rfl rfl ⟨Nat.le_of_ble_eq_true rfl, Nat.le_of_ble_eq_true rfl⟩ rfl rfl rfl (Nat.le_of_ble_eq_true rfl) ⟨Nat.le_of_ble_eq_true rfl, Nat.le_of_ble_eq_true rfl⟩ dX3_hasBadNeighbours_118 hP hD hS hA [6, 7, 8, 9, 10] rfl (by decide +kernel) (fun H locs hP hD hS => ?_)
              refine k_if_eq (tgt := 126) hC dX3_hasBadNeighbours_121 (by decide) h (fun h => ?_) (fun h => ?_)
              · refine k_iinc (v := (1 : Int32)) (lv' := fun X => [(3, .int X), (5, .int v119), (4, .int v103), (0, .ref (q1 100)), (1, .ref (q2 100)), (2, .int x2)]) hC dX3_hasBadNeighbours_126 hl (k := 5) rfl (by decide) (by decide) (fun _ => rfl) h (fun x125 h ls hl => ?_)
                refine lv_goto (tgt := 12) hx hb dX3_hasBadNeighbours_129 (by decide) ?_
                exact ih x125 o h _ _ _ hP hD hS (lv_sub hl [3, 4, 5, 0] rfl) k0 k1 k2
              · exact k1 (Option.some.inj h).symm _ _ _ hP hD hS (lv_sub hl [] rfl)
          refine k_icmp_ge (tgt := 95) hC dX3_hasBadNeighbours_76 (by decide) hv120 (fun hv120 => ?_) (fun hv120 => ?_)
          · refine lv_iconst (v := (0 : Int32)) hx hb dX3_hasBadNeighbours_95 (by decide) ?_
            obtain rfl := fx_i1 hv120
            exact K128 _ _ _ hP hD hS (lv_sub hl [0, 1, 2, 3, 4] rfl)
          · refine lv_iload_n hx hb dX3_hasBadNeighbours_79 rfl (lv_at hl 4 rfl) ?_
            refine lv_aload_n hx hb dX3_hasBadNeighbours_80 rfl (lv_at hl 1 rfl) ?_
            refine k_get (ci := 3) (k := 7) (q0 := 0) (v := .ref (q1 7)) (C := RX3) (T := TX3) (N := 11) hC uX3_hasBadNeighbours_X3 hP rfl rfl (by decide) (List.mem_of_getElem? (i := 2) rfl) rfl dX3_hasBadNeighbours_81 ?_
            refine lv_iload_n hx hb dX3_hasBadNeighbours_84 rfl (lv_at hl 3 rfl) ?_
            refine lv_iconst (v := (1 : Int32)) hx hb dX3_hasBadNeighbours_85 (by decide) ?_
            refine lv_iadd hx hb dX3_hasBadNeighbours_86 ?_
            refine k_ald (q0 := 2) (n := 4) (F := S1.2 7) hC hP rfl dX3_hasBadNeighbours_87 hv120 (fun v129 hv120 => ?_)
            refine k_icmp_ge (tgt := 95) hC dX3_hasBadNeighbours_88 (by decide) hv120 (fun hv120 => ?_) (fun hv120 => ?_)
            · refine lv_iconst (v := (0 : Int32)) hx hb dX3_hasBadNeighbours_95 (by decide) ?_
              obtain rfl := fx_i1 hv120
              exact K128 _ _ _ hP hD hS (lv_sub hl [0, 1, 2, 3, 4] rfl)
            · refine lv_iconst (v := (1 : Int32)) hx hb dX3_hasBadNeighbours_91 (by decide) ?_
              refine lv_goto (tgt := 96) hx hb dX3_hasBadNeighbours_92 (by decide) ?_
              obtain rfl := fx_i1 hv120
              exact K128 _ _ _ hP hD hS (lv_sub hl [0, 1, 2, 3, 4] rfl)
        · exact k0 (Option.some.inj h).symm _ _ _ hP hD hS (lv_sub hl [] rfl)
def bd_X3_hasBadNeighbours_2 (N : Nat) (S1 : St) (S2 : St) (x2 : Int32) (rec : (Int32) → Option (Nat)) : Option (Nat) :=
  (if (S1.1 0) ≤ x2 then (
    some 2) else (
    fx_b1 (fx_it (lf_X3_hasBadNeighbours_12 N x2 S1 S2) N (0 : Int32)) (fun t101 =>
      fx_t3 t101 (some 0) (some 1) (fx_lt (x2 + (1 : Int32)) (fun x103 =>
        rec x103)))))
def lf_X3_hasBadNeighbours_2 (N : Nat) (S1 : St) (S2 : St) : (Int32) → ((Int32) → Option (Nat)) → Option (Nat) := fun x rec => bd_X3_hasBadNeighbours_2 N S1 S2 x rec
set_option maxRecDepth 100000 in
set_option maxHeartbeats 4000000 in
theorem lw_X3_hasBadNeighbours_2 {p : Program} {l : Launch} {e : Env} {s : State} {m : MethodId} {args : Array Value} {below : List Frame} {meth : Method} {c : Code} {Q : State → Prop} {A : Nat → Prop} {H0 : Heap} {g : GG} (hC : Cx p s m args c RX3 cX3_hasBadNeighbours 6 wsX3_hasBadNeighbours g) (hA : ∀ q : Nat, H0.size ≤ q → A q) (N : Nat) (q1 : Nat → Nat) (q2 : Nat → Nat) (S1 : St) (S2 : St) : ∀ (n : Nat) (x2 : Int32) (o : Nat), fx_it (lf_X3_hasBadNeighbours_2 N S1 S2) n x2 = some o → ∀ (H : Heap) (locs : List Loc) (ls : Array Slot), va_P g.1 vwCl (wX3 g q1 S1 ++ (wX6 g q2 S2)) H → va_D A (wX3 g q1 S1 ++ (wX6 g q2 S2)) → va_S A H0 H locs → lv_has ls 6 [(0, .ref (q1 100)), (1, .ref (q2 100)), (2, .int x2)] → (o = 0 → ∀ (H : Heap) (locs : List Loc) (ls : Array Slot), va_P g.1 vwCl (wX3 g q1 S1 ++ (wX6 g q2 S2)) H → va_D A (wX3 g q1 S1 ++ (wX6 g q2 S2)) → va_S A H0 H locs → lv_has ls 6 [] → W p l e RM_X3_hasBadNeighbours s m args below meth c H locs 0 0 Q (F0 m 67 ls [])) → (o = 1 → ∀ (H : Heap) (locs : List Loc) (ls : Array Slot), va_P g.1 vwCl (wX3 g q1 S1 ++ (wX6 g q2 S2)) H → va_D A (wX3 g q1 S1 ++ (wX6 g q2 S2)) → va_S A H0 H locs → lv_has ls 6 [] → W p l e RM_X3_hasBadNeighbours s m args below meth c H locs 0 0 Q (F0 m 124 ls [])) → (o = 2 → ∀ (H : Heap) (locs : List Loc) (ls : Array Slot), va_P g.1 vwCl (wX3 g q1 S1 ++ (wX6 g q2 S2)) H → va_D A (wX3 g q1 S1 ++ (wX6 g q2 S2)) → va_S A H0 H locs → lv_has ls 6 [] → W p l e RM_X3_hasBadNeighbours s m args below meth c H locs 0 0 Q (F0 m 138 ls [])) → W p l e RM_X3_hasBadNeighbours s m args below meth c H locs 0 0 Q (F0 m 2 ls []) := by
  have hx := hC.1.1
  have hb := hC.1.2.1
  have hml := hC.1.2.2.1
  have hown := hC.1.2.2.2.1
  have hts := hC.1.2.2.2.2
  intro n
  induction n with
  | zero => intro x2 o h; cases h
  | succ n ih =>
    intro x2 o h H locs ls hP hD hS hl k0 k1 k2
    have h : bd_X3_hasBadNeighbours_2 N S1 S2 x2 (fx_it (lf_X3_hasBadNeighbours_2 N S1 S2) n) = some o := h
    unfold bd_X3_hasBadNeighbours_2 at h
    refine lv_iload_n hx hb dX3_hasBadNeighbours_2 rfl (lv_at hl 2 rfl) ?_
    refine lv_aload_n hx hb dX3_hasBadNeighbours_3 rfl (lv_at hl 0 rfl) ?_
    refine k_get (ci := 3) (k := 0) (q0 := 0) (v := .int (S1.1 0)) (C := RX3) (T := TX3) (N := 11) hC uX3_hasBadNeighbours_X3 hP rfl rfl (by decide) (List.mem_of_getElem? (i := 1) rfl) rfl dX3_hasBadNeighbours_4 ?_
    refine k_icmp_ge (tgt := 138) hC dX3_hasBadNeighbours_7 (by decide) h (fun h => ?_) (fun h => ?_)
    · exact k2 (Option.some.inj h).symm _ _ _ hP hD hS (lv_sub hl [] rfl)
    · refine lv_iconst (v := (0 : Int32)) hx hb dX3_hasBadNeighbours_10 (by decide) ?_
      refine lv_istore_n (lv' := [(3, .int (0 : Int32)), (0, .ref (q1 100)), (1, .ref (q2 100)), (2, .int x2)]) hx hb dX3_hasBadNeighbours_11 rfl hl (by decide) rfl (fun ls hl => ?_)
      obtain ⟨t101, ho102, h⟩ := fx_b1_s h
      refine lw_X3_hasBadNeighbours_12 hC hA N q1 q2 x2 S1 S2 N (0 : Int32)  t101 ho102 _ _ _ hP hD hS (lv_sub hl [1, 2, 3, 0] rfl) ?_ ?_ ?_
      · intro he H locs ls hP hD hS hl
        obtain rfl := he
        have h := fx_tg3_0 h
        exact k0 (Option.some.inj h).symm _ _ _ hP hD hS (lv_sub hl [] rfl)
      · intro he H locs ls hP hD hS hl
        obtain rfl := he
        have h := fx_tg3_1 h
        exact k1 (Option.some.inj h).symm _ _ _ hP hD hS (lv_sub hl [] rfl)
      · intro he H locs ls hP hD hS hl
        obtain rfl := he
        have h := fx_tg3_2 h
        refine k_iinc (v := (1 : Int32)) (lv' := fun X => [(2, .int X), (0, .ref (q1 100)), (1, .ref (q2 100))]) hC dX3_hasBadNeighbours_132 hl (k := 2) rfl (by decide) (by decide) (fun _ => rfl) h (fun x103 h ls hl => ?_)
        refine lv_goto (tgt := 2) hx hb dX3_hasBadNeighbours_135 (by decide) ?_
        exact ih x103 o h _ _ _ hP hD hS (lv_sub hl [1, 2, 0] rfl) k0 k1 k2
def f_X3_hasBadNeighbours (N : Nat) (S1 : St) (S2 : St) : Option (Int32) :=
  fx_b1 (fx_it (lf_X3_hasBadNeighbours_2 N S1 S2) N (0 : Int32)) (fun t101 =>
  fx_t3 t101 (some (1 : Int32)) (some (1 : Int32)) (some (0 : Int32)))
set_option maxRecDepth 100000 in
set_option maxHeartbeats 4000000 in
theorem c_X3_hasBadNeighbours (l : Launch) (g : GG) (N : Nat) (q1 : Nat → Nat) (q2 : Nat → Nat) (S1 : St) (S2 : St) (r : Int32) (h : f_X3_hasBadNeighbours N S1 S2 = some r) : Ci l yX3_hasBadNeighbours wsX3_hasBadNeighbours RM_X3_hasBadNeighbours g [.ref (q1 100), .ref (q2 100)] (wX3 g q1 S1 ++ (wX6 g q2 S2)) (wX3 g q1 S1 ++ (wX6 g q2 S2)) r := by
  intro sz
  refine Met.ofC (cc := cX3_hasBadNeighbours) (maxL := 6) (ret := (some .boolean)) (by decide) rfl (Nat.le_of_ble_eq_true rfl) ?_
  intro p e s m below meth c hC hr hlk hsz A hA9 hA hP hD hS ls hl
  subst hsz
  have hC : Cx p s m ([.ref (q1 100), .ref (q2 100)] : List Value).toArray c RX3 cX3_hasBadNeighbours 6 wsX3_hasBadNeighbours g := hC
  have hx := hC.1.1
  have hb := hC.1.2.1
  have hml := hC.1.2.2.1
  have hown := hC.1.2.2.2.1
  have hts := hC.1.2.2.2.2
  have hl : lv_has ls 6 [(0, .ref (q1 100)), (1, .ref (q2 100))] := hl
  show W p l e RM_X3_hasBadNeighbours s m ([.ref (q1 100), .ref (q2 100)] : List Value).toArray below meth c s.heap [] 0 0 (Qi below g [.ref (q1 100), .ref (q2 100)] (wX3 g q1 S1 ++ (wX6 g q2 S2)) (wX3 g q1 S1 ++ (wX6 g q2 S2)) r s) (F0 m 0 ls [])
  unfold f_X3_hasBadNeighbours at h
  refine lv_iconst (v := (0 : Int32)) hx hb dX3_hasBadNeighbours_0 (by decide) ?_
  refine lv_istore_n (lv' := [(2, .int (0 : Int32)), (0, .ref (q1 100)), (1, .ref (q2 100))]) hx hb dX3_hasBadNeighbours_1 rfl hl (by decide) rfl (fun ls hl => ?_)
  obtain ⟨t101, ho102, h⟩ := fx_b1_s h
  refine lw_X3_hasBadNeighbours_2 hC hA N q1 q2 S1 S2 N (0 : Int32)  t101 ho102 _ _ _ hP hD hS (lv_sub hl [1, 2, 0] rfl) ?_ ?_ ?_
  · intro he H locs ls hP hD hS hl
    obtain rfl := he
    have h := fx_tg3_0 h
    refine lv_iconst (v := (1 : Int32)) hx hb dX3_hasBadNeighbours_67 (by decide) ?_
    obtain rfl := fx_i1 h
    exact Ci.retz hC hr hlk rfl hA9 hP hD hS dX3_hasBadNeighbours_68
  · intro he H locs ls hP hD hS hl
    obtain rfl := he
    have h := fx_tg3_1 h
    refine lv_iconst (v := (1 : Int32)) hx hb dX3_hasBadNeighbours_124 (by decide) ?_
    obtain rfl := fx_i1 h
    exact Ci.retz hC hr hlk rfl hA9 hP hD hS dX3_hasBadNeighbours_125
  · intro he H locs ls hP hD hS hl
    obtain rfl := he
    have h := fx_tg3_2 h
    refine lv_iconst (v := (0 : Int32)) hx hb dX3_hasBadNeighbours_138 (by decide) ?_
    obtain rfl := fx_i1 h
    exact Ci.retz hC hr hlk rfl hA9 hP hD hS dX3_hasBadNeighbours_139
theorem uX2_playPart_X2 : ∀ w ∈ u_ws RX2 TX2 5, w ∈ wsX2_playPart := fun w h => List.mem_cons_of_mem _ (List.mem_append_left _ (List.mem_append_left _ (List.mem_append_right _ h)))
abbrev RM_X2_playPart : Room := { frames := 4, cells := 0, slots := 0, locals := 93 }
def f_X2_playPart (N : Nat) (S1 : St) (S2 : St) (S3 : St) (x1 : Int32) (x2 : Int32) : Option (St × St) :=
  fx_b1 (f_X2_reasonAgainst N S1 S2 S3 x1 x2) (fun v101 =>
  fx_lt (stI S1 3 v101) (fun S102 =>
  (if (S102.1 3) = (-6 : Int32) then (
  fx_b1 (f_X2_act N S102 S2 S3 x1 x2) (fun S103 =>
    fx_b1 ((if (S102.1 4) = (-6 : Int32) then (
    fx_b1 (f_X3_hasBadNeighbours N S103 S3) (fun v108 =>
      (if v108 = 0 then (
      some S102) else (
      fx_lt (stI S102 4 (S102.1 1)) (fun S109 =>
        some S109))))) else (
    some S102)) : Option (St)) (fun S104 =>
    fx_lt (stI S104 1 ((S104.1 1) + (1 : Int32))) (fun S106 =>
      some (S106, S103))))) else (
  fx_lt (stI S102 2 (S102.1 1)) (fun S112 =>
    some (S112, S2))))))
set_option maxRecDepth 100000 in
set_option maxHeartbeats 4000000 in
theorem c_X2_playPart (l : Launch) (g : GG) (N : Nat) (q1 : Nat → Nat) (q2 : Nat → Nat) (q3 : Nat → Nat) (S1 : St) (S2 : St) (S3 : St) (x1 : Int32) (x2 : Int32) (F1 : St) (F2 : St) (h : f_X2_playPart N S1 S2 S3 x1 x2 = some (F1, F2)) : Cv l yX2_playPart wsX2_playPart RM_X2_playPart g [.ref (q1 100), .int x1, .int x2, .ref (q3 100)] (wX2 g q1 q2 S1 ++ (wX3 g q2 S2 ++ (wX6 g q3 S3))) (wX2 g q1 q2 F1 ++ (wX3 g q2 F2 ++ (wX6 g q3 S3))) := by
  intro sz
  refine Met.ofC (cc := cX2_playPart) (maxL := 4) (ret := none) (by decide) rfl (Nat.le_of_ble_eq_true rfl) ?_
  intro p e s m below meth c hC hr hlk hsz A hA9 hA hP hD hS ls hl
  subst hsz
  have hC : Cx p s m ([.ref (q1 100), .int x1, .int x2, .ref (q3 100)] : List Value).toArray c RX2 cX2_playPart 4 wsX2_playPart g := hC
  have hx := hC.1.1
  have hb := hC.1.2.1
  have hml := hC.1.2.2.1
  have hown := hC.1.2.2.2.1
  have hts := hC.1.2.2.2.2
  have hl : lv_has ls 4 [(0, .ref (q1 100)), (1, .int x1), (2, .int x2), (3, .ref (q3 100))] := hl
  show W p l e RM_X2_playPart s m ([.ref (q1 100), .int x1, .int x2, .ref (q3 100)] : List Value).toArray below meth c s.heap [] 0 0 (Qv below g [.ref (q1 100), .int x1, .int x2, .ref (q3 100)] (wX2 g q1 q2 S1 ++ (wX3 g q2 S2 ++ (wX6 g q3 S3))) (wX2 g q1 q2 F1 ++ (wX3 g q2 F2 ++ (wX6 g q3 S3))) s) (F0 m 0 ls [])
  unfold f_X2_playPart at h
  refine lv_aload_n hx hb dX2_playPart_0 rfl (lv_at hl 0 rfl) ?_
  refine lv_aload_n hx hb dX2_playPart_1 rfl (lv_at hl 0 rfl) ?_
  refine lv_iload_n hx hb dX2_playPart_2 rfl (lv_at hl 1 rfl) ?_
  refine lv_iload_n hx hb dX2_playPart_3 rfl (lv_at hl 2 rfl) ?_
  refine lv_aload_n hx hb dX2_playPart_4 rfl (lv_at hl 3 rfl) ?_
  obtain ⟨v101, hc113, h⟩ := fx_b1_s h
  refine k_callVi0 (C := RX2) (ci := 2) (qr := 0) (n := 3) (As := [.int x1, .int x2, .ref (q3 100)]) (rest := [.ref (q1 100)]) (wc := (wX2 g q1 q2 S1 ++ (wX3 g q2 S2 ++ (wX6 g q3 S3)))) (bytes := cX2_reasonAgainst) (maxL := 4) (ret := (some .int)) hC hl.1 (c_X2_reasonAgainst l g N q1 q2 q3 S1 S2 S3 x1 x2 v101 hc113) rfl gX2_playPart_X2_reasonAgainst (by decide +kernel) rfl rfl ⟨Nat.le_of_ble_eq_true rfl, Nat.le_of_ble_eq_true rfl⟩ rfl rfl rfl (Nat.le_of_ble_eq_true rfl) ⟨Nat.le_of_ble_eq_true rfl, Nat.le_of_ble_eq_true rfl⟩ dX2_playPart_5 hP hD hS hA [0, 1, 2, 3, 4, 5, 6, 7, 8, 9, 10, 11] rfl (by decide +kernel) (fun H locs hP hD hS => ?_)
  refine k_put (ci := 2) (k := 3) (q0 := 0) (C := RX2) (T := TX2) (N := 5) (S2 := stI S1 3 v101) tyX2 (fun S => (wX2 g q1 q2 S ++ (wX3 g q2 S2 ++ (wX6 g q3 S3)))) hC uX2_playPart_X2 tyX2_ok nmX2 hP hD hS rfl rfl (by decide) (List.mem_of_getElem? (i := 1) rfl) rfl (tyX2_ok 3 (by decide)) (Nat.le_of_ble_eq_true rfl) dX2_playPart_8 rfl h (fun S102 h H locs hP hD hS => ?_)
  refine lv_aload_n hx hb dX2_playPart_11 rfl (lv_at hl 0 rfl) ?_
  refine k_get (ci := 2) (k := 3) (q0 := 0) (v := .int (S102.1 3)) (C := RX2) (T := TX2) (N := 5) hC uX2_playPart_X2 hP rfl rfl (by decide) (List.mem_of_getElem? (i := 1) rfl) rfl dX2_playPart_12 ?_
  refine lv_bipush (v := (-6 : Int32)) hx hb dX2_playPart_15 (by decide) ?_
  refine k_icmp_eq (tgt := 29) hC dX2_playPart_17 (by decide) h (fun h => ?_) (fun h => ?_)
  · refine lv_aload_n hx hb dX2_playPart_29 rfl (lv_at hl 0 rfl) ?_
    refine lv_iload_n hx hb dX2_playPart_30 rfl (lv_at hl 1 rfl) ?_
    refine lv_iload_n hx hb dX2_playPart_31 rfl (lv_at hl 2 rfl) ?_
    refine lv_aload_n hx hb dX2_playPart_32 rfl (lv_at hl 3 rfl) ?_
    obtain ⟨S103, hc111, h⟩ := fx_b1_s h
    refine k_callVv (C := RX2) (ci := 2) (qr := 0) (n := 3) (As := [.int x1, .int x2, .ref (q3 100)]) (rest := []) (wc := (wX2 g q1 q2 S102 ++ (wX3 g q2 S2 ++ (wX6 g q3 S3)))) (w1 := (wX2 g q1 q2 S102 ++ (wX3 g q2 S103 ++ (wX6 g q3 S3)))) (ws2 := (wX2 g q1 q2 S102 ++ (wX3 g q2 S103 ++ (wX6 g q3 S3)))) (bytes := cX2_act) (maxL := 6) (ret := none) hC hl.1 (c_X2_act l g N q1 q2 q3 S102 S2 S3 x1 x2 S103 hc111) rfl gX2_playPart_X2_act (by decide +kernel) rfl rfl ⟨Nat.le_of_ble_eq_true rfl, Nat.le_of_ble_eq_true rfl⟩ rfl rfl rfl (Nat.le_of_ble_eq_true rfl) ⟨Nat.le_of_ble_eq_true rfl, Nat.le_of_ble_eq_true rfl⟩ dX2_playPart_33 hP hD hS hA [0, 1, 2, 3, 4, 5, 6, 7, 8, 9, 10, 11] rfl (by decide +kernel) [q1 100, q2 100, q2 6, q2 7, q2 8, q2 9, q2 10, q3 100, q3 1, q3 2, q3 3, q3 4] rfl rfl rfl [] ([] : va_W) rfl rfl (n2 := 12) rfl (by decide +kernel) (fun H locs hP hD hS => ?_)
    refine lv_aload_n hx hb dX2_playPart_36 rfl (lv_at hl 0 rfl) ?_
    refine k_get (ci := 2) (k := 4) (q0 := 0) (v := .int (S102.1 4)) (C := RX2) (T := TX2) (N := 5) hC uX2_playPart_X2 hP rfl rfl (by decide) (List.mem_of_getElem? (i := 4) rfl) rfl dX2_playPart_37 ?_
    refine lv_bipush (v := (-6 : Int32)) hx hb dX2_playPart_40 (by decide) ?_
    obtain ⟨S104, hv105, h⟩ := fx_b1_s h
    have K107 : ∀ (H : Heap) (locs : List Loc) (ls : Array Slot), va_P g.1 vwCl (wX2 g q1 q2 S104 ++ (wX3 g q2 S103 ++ (wX6 g q3 S3))) H → va_D A (wX2 g q1 q2 S104 ++ (wX3 g q2 S103 ++ (wX6 g q3 S3))) → va_S A s.heap H locs → lv_has ls 4 [(0, .ref (q1 100))] → W p l e RM_X2_playPart s m ([.ref (q1 100), .int x1, .int x2, .ref (q3 100)] : List Value).toArray below meth c H locs 0 0 (Qv below g [.ref (q1 100), .int x1, .int x2, .ref (q3 100)] (wX2 g q1 q2 S1 ++ (wX3 g q2 S2 ++ (wX6 g q3 S3))) (wX2 g q1 q2 F1 ++ (wX3 g q2 F2 ++ (wX6 g q3 S3))) s) (F0 m 64 ls []) := by
      intro H locs ls hP hD hS hl
      refine lv_aload_n hx hb dX2_playPart_64 rfl (lv_at hl 0 rfl) ?_
      refine lv_dup hx hb dX2_playPart_65 rfl ?_
      refine k_get (ci := 2) (k := 1) (q0 := 0) (v := .int (S104.1 1)) (C := RX2) (T := TX2) (N := 5) hC uX2_playPart_X2 hP rfl rfl (by decide) (List.mem_of_getElem? (i := 2) rfl) rfl dX2_playPart_66 ?_
      refine lv_iconst (v := (1 : Int32)) hx hb dX2_playPart_69 (by decide) ?_
      refine lv_iadd hx hb dX2_playPart_70 ?_
      refine k_put (ci := 2) (k := 1) (q0 := 0) (C := RX2) (T := TX2) (N := 5) (S2 := stI S104 1 ((S104.1 1) + (1 : Int32))) tyX2 (fun S => (wX2 g q1 q2 S ++ (wX3 g q2 S103 ++ (wX6 g q3 S3)))) hC uX2_playPart_X2 tyX2_ok nmX2 hP hD hS rfl rfl (by decide) (List.mem_of_getElem? (i := 2) rfl) rfl (tyX2_ok 1 (by decide)) (Nat.le_of_ble_eq_true rfl) dX2_playPart_71 rfl h (fun S106 h H locs hP hD hS => ?_)
      obtain ⟨rfl, rfl⟩ := fx_i2 h
      exact Cv.ret hC hr hlk hA9 hP hD hS dX2_playPart_74
    refine k_icmp_ne (tgt := 64) hC dX2_playPart_42 (by decide) hv105 (fun hv105 => ?_) (fun hv105 => ?_)
    · obtain rfl := fx_i1 hv105
      exact K107 _ _ _ hP hD hS (lv_sub hl [0] rfl)
    · refine lv_aload_n hx hb dX2_playPart_45 rfl (lv_at hl 0 rfl) ?_
      refine k_get (ci := 2) (k := 0) (q0 := 0) (v := .ref (q2 100)) (C := RX2) (T := TX2) (N := 5) hC uX2_playPart_X2 hP rfl rfl (by decide) (List.mem_of_getElem? (i := 5) rfl) rfl dX2_playPart_46 ?_
      refine lv_aload_n hx hb dX2_playPart_49 rfl (lv_at hl 3 rfl) ?_
      obtain ⟨v108, hc110, hv105⟩ := fx_b1_s hv105
      refine k_callVi0 (C := RX3) (ci := 3) (qr := 0) (n := 1) (As := [.ref (q3 100)]) (rest := []) (wc := (wX3 g q2 S103 ++ (wX6 g q3 S3))) (bytes := cX3_hasBadNeighbours) (maxL := 6) (ret := (some .boolean)) hC hl.1 (c_X3_hasBadNeighbours l g N q2 q3 S103 S3 v108 hc110) rfl gX2_playPart_X3_hasBadNeighbours (by decide +kernel) rfl rfl ⟨Nat.le_of_ble_eq_true rfl, Nat.le_of_ble_eq_true rfl⟩ rfl rfl rfl (Nat.le_of_ble_eq_true rfl) ⟨Nat.le_of_ble_eq_true rfl, Nat.le_of_ble_eq_true rfl⟩ dX2_playPart_50 hP hD hS hA [1, 2, 3, 4, 5, 6, 7, 8, 9, 10, 11] rfl (by decide +kernel) (fun H locs hP hD hS => ?_)
      refine k_if_eq (tgt := 64) hC dX2_playPart_53 (by decide) hv105 (fun hv105 => ?_) (fun hv105 => ?_)
      · obtain rfl := fx_i1 hv105
        exact K107 _ _ _ hP hD hS (lv_sub hl [0] rfl)
      · refine lv_aload_n hx hb dX2_playPart_56 rfl (lv_at hl 0 rfl) ?_
        refine lv_aload_n hx hb dX2_playPart_57 rfl (lv_at hl 0 rfl) ?_
        refine k_get (ci := 2) (k := 1) (q0 := 0) (v := .int (S102.1 1)) (C := RX2) (T := TX2) (N := 5) hC uX2_playPart_X2 hP rfl rfl (by decide) (List.mem_of_getElem? (i := 2) rfl) rfl dX2_playPart_58 ?_
        refine k_put (ci := 2) (k := 4) (q0 := 0) (C := RX2) (T := TX2) (N := 5) (S2 := stI S102 4 (S102.1 1)) tyX2 (fun S => (wX2 g q1 q2 S ++ (wX3 g q2 S103 ++ (wX6 g q3 S3)))) hC uX2_playPart_X2 tyX2_ok nmX2 hP hD hS rfl rfl (by decide) (List.mem_of_getElem? (i := 4) rfl) rfl (tyX2_ok 4 (by decide)) (Nat.le_of_ble_eq_true rfl) dX2_playPart_61 rfl hv105 (fun S109 hv105 H locs hP hD hS => ?_)
        obtain rfl := fx_i1 hv105
        exact K107 _ _ _ hP hD hS (lv_sub hl [0] rfl)
  · refine lv_aload_n hx hb dX2_playPart_20 rfl (lv_at hl 0 rfl) ?_
    refine lv_aload_n hx hb dX2_playPart_21 rfl (lv_at hl 0 rfl) ?_
    refine k_get (ci := 2) (k := 1) (q0 := 0) (v := .int (S102.1 1)) (C := RX2) (T := TX2) (N := 5) hC uX2_playPart_X2 hP rfl rfl (by decide) (List.mem_of_getElem? (i := 2) rfl) rfl dX2_playPart_22 ?_
    refine k_put (ci := 2) (k := 2) (q0 := 0) (C := RX2) (T := TX2) (N := 5) (S2 := stI S102 2 (S102.1 1)) tyX2 (fun S => (wX2 g q1 q2 S ++ (wX3 g q2 S2 ++ (wX6 g q3 S3)))) hC uX2_playPart_X2 tyX2_ok nmX2 hP hD hS rfl rfl (by decide) (List.mem_of_getElem? (i := 3) rfl) rfl (tyX2_ok 2 (by decide)) (Nat.le_of_ble_eq_true rfl) dX2_playPart_25 rfl h (fun S112 h H locs hP hD hS => ?_)
    obtain ⟨rfl, rfl⟩ := fx_i2 h
    exact Cv.ret hC hr hlk hA9 hP hD hS dX2_playPart_28
theorem uX2_play_X2 : ∀ w ∈ u_ws RX2 TX2 5, w ∈ wsX2_play := fun w h => List.mem_cons_of_mem _ (List.mem_append_left _ (List.mem_append_left _ (List.mem_append_left _ (List.mem_append_right _ h))))
theorem uX2_play_X4 : ∀ w ∈ u_ws RX4 TX4 2, w ∈ wsX2_play := fun w h => List.mem_cons_of_mem _ (List.mem_append_left _ (List.mem_append_left _ (List.mem_append_right _ h)))
abbrev RM_X2_play : Room := { frames := 5, cells := 0, slots := 0, locals := 116 }
def bd_X2_play_37 (N : Nat) (S3 : St) (S4 : St) (S5 : St) (x4 : Int32) (x5 : Int32) (S1 : St) (S2 : St) (rec : (Int32 × Int32 × St × St) → Option (St × St)) : Option (St × St) :=
  (if (S3.1 0) ≤ x5 then (
    some (S1, S2)) else (
    (if (S1.1 2) = (-6 : Int32) then (
      fx_ald 60 (S3.2 1) x5 (fun v101 =>
        fx_b1 (f_X3_hasRow N S2 (v101 - (48 : Int32))) (fun v102 =>
        (if v102 = 0 then (
        fx_b2 (f_X2_playPart N S1 S2 S5 v101 x4) (fun S103 S104 =>
          fx_lt (x5 + (1 : Int32)) (fun x105 =>
          rec (x4, x105, S103, S104)))) else (
        fx_lt (v101 - (48 : Int32)) (fun x107 =>
          fx_lt (x5 + (1 : Int32)) (fun x108 =>
          rec (x107, x108, S1, S2)))))))) else (
      some (S1, S2)))))
def lf_X2_play_37 (N : Nat) (S3 : St) (S4 : St) (S5 : St) : (Int32 × Int32 × St × St) → ((Int32 × Int32 × St × St) → Option (St × St)) → Option (St × St) := fun x rec => bd_X2_play_37 N S3 S4 S5 x.1 x.2.1 x.2.2.1 x.2.2.2 rec
set_option maxRecDepth 100000 in
set_option maxHeartbeats 4000000 in
theorem lw_X2_play_37 {p : Program} {l : Launch} {e : Env} {s : State} {m : MethodId} {args : Array Value} {below : List Frame} {meth : Method} {c : Code} {Q : State → Prop} {A : Nat → Prop} {H0 : Heap} {g : GG} (hC : Cx p s m args c RX2 cX2_play 7 wsX2_play g) (hA : ∀ q : Nat, H0.size ≤ q → A q) (N : Nat) (q1 : Nat → Nat) (q2 : Nat → Nat) (q3 : Nat → Nat) (q4 : Nat → Nat) (q5 : Nat → Nat) (S3 : St) (S4 : St) (S5 : St) : ∀ (n : Nat) (x4 : Int32) (x5 : Int32) (S1 : St) (S2 : St) (o : St × St), fx_it (lf_X2_play_37 N S3 S4 S5) n (x4, x5, S1, S2) = some o → ∀ (H : Heap) (locs : List Loc) (ls : Array Slot), va_P g.1 vwCl (wX2 g q1 q2 S1 ++ (wX3 g q2 S2 ++ (wX4 g q3 S3 ++ (wX3 g q4 S4 ++ (wX6 g q5 S5))))) H → va_D A (wX2 g q1 q2 S1 ++ (wX3 g q2 S2 ++ (wX4 g q3 S3 ++ (wX3 g q4 S4 ++ (wX6 g q5 S5))))) → va_S A H0 H locs → lv_has ls 7 [(0, .ref (q1 100)), (1, .ref (q3 100)), (3, .ref (q5 100)), (4, .int x4), (5, .int x5)] → (∀ (Z0 : St) (Z1 : St), o = (Z0, Z1) → ∀ (H : Heap) (locs : List Loc) (ls : Array Slot), va_P g.1 vwCl (wX2 g q1 q2 Z0 ++ (wX3 g q2 Z1 ++ (wX4 g q3 S3 ++ (wX3 g q4 S4 ++ (wX6 g q5 S5))))) H → va_D A (wX2 g q1 q2 Z0 ++ (wX3 g q2 Z1 ++ (wX4 g q3 S3 ++ (wX3 g q4 S4 ++ (wX6 g q5 S5))))) → va_S A H0 H locs → lv_has ls 7 [] → W p l e RM_X2_play s m args below meth c H locs 0 0 Q (F0 m 104 ls [])) → W p l e RM_X2_play s m args below meth c H locs 0 0 Q (F0 m 37 ls []) := by
  have hx := hC.1.1
  have hb := hC.1.2.1
  have hml := hC.1.2.2.1
  have hown := hC.1.2.2.2.1
  have hts := hC.1.2.2.2.2
  intro n
  induction n with
  | zero => intro x4 x5 S1 S2 o h; cases h
  | succ n ih =>
    intro x4 x5 S1 S2 o h H locs ls hP hD hS hl k0
    have h : bd_X2_play_37 N S3 S4 S5 x4 x5 S1 S2 (fx_it (lf_X2_play_37 N S3 S4 S5) n) = some o := h
    unfold bd_X2_play_37 at h
    refine lv_iload hx hb dX2_play_37 (lv_at hl 4 rfl) ?_
    refine lv_aload_n hx hb dX2_play_39 rfl (lv_at hl 1 rfl) ?_
    refine k_get (ci := 4) (k := 0) (q0 := 7) (v := .int (S3.1 0)) (C := RX4) (T := TX4) (N := 2) hC uX2_play_X4 hP rfl rfl (by decide) (List.mem_of_getElem? (i := 6) rfl) rfl dX2_play_40 ?_
    refine k_icmp_ge (tgt := 104) hC dX2_play_43 (by decide) h (fun h => ?_) (fun h => ?_)
    · exact k0 S1 S2 (Option.some.inj h).symm _ _ _ hP hD hS (lv_sub hl [] rfl)
    · refine lv_aload_n hx hb dX2_play_46 rfl (lv_at hl 0 rfl) ?_
      refine k_get (ci := 2) (k := 2) (q0 := 0) (v := .int (S1.1 2)) (C := RX2) (T := TX2) (N := 5) hC uX2_play_X2 hP rfl rfl (by decide) (List.mem_of_getElem? (i := 3) rfl) rfl dX2_play_47 ?_
      refine lv_bipush (v := (-6 : Int32)) hx hb dX2_play_50 (by decide) ?_
      refine k_icmp_ne (tgt := 104) hC dX2_play_52 (by decide) h (fun h => ?_) (fun h => ?_)
      · exact k0 S1 S2 (Option.some.inj h).symm _ _ _ hP hD hS (lv_sub hl [] rfl)
      · refine lv_aload_n hx hb dX2_play_55 rfl (lv_at hl 1 rfl) ?_
        refine k_get (ci := 4) (k := 1) (q0 := 7) (v := .ref (q3 1)) (C := RX4) (T := TX4) (N := 2) hC uX2_play_X4 hP rfl rfl (by decide) (List.mem_of_getElem? (i := 7) rfl) rfl dX2_play_56 ?_
        refine lv_iload hx hb dX2_play_59 (lv_at hl 4 rfl) ?_
        refine k_ald (q0 := 8) (n := 60) (F := S3.2 1) hC hP rfl dX2_play_61 h (fun v101 h => ?_)
        refine lv_istore (lv' := [(6, .int v101), (0, .ref (q1 100)), (1, .ref (q3 100)), (3, .ref (q5 100)), (4, .int x4), (5, .int x5)]) hx hb dX2_play_62 hl (by decide) rfl (fun ls hl => ?_)
        refine lv_aload_n hx hb dX2_play_64 rfl (lv_at hl 1 rfl) ?_
        refine k_get (ci := 2) (k := 0) (q0 := 0) (v := .ref (q2 100)) (C := RX2) (T := TX2) (N := 5) hC uX2_play_X2 hP rfl rfl (by decide) (List.mem_of_getElem? (i := 1) rfl) rfl dX2_play_65 ?_
        refine lv_iload hx hb dX2_play_68 (lv_at hl 0 rfl) ?_
        refine lv_bipush (v := (48 : Int32)) hx hb dX2_play_70 (by decide) ?_
        refine lv_isub hx hb dX2_play_72 ?_
        obtain ⟨v102, hc109, h⟩ := fx_b1_s h
        refine k_callVi0 (C := RX3) (ci := 3) (qr := 0) (n := 1) (As := [.int (v101 - (48 : Int32))]) (rest := []) (wc := (wX3 g q2 S2)) (bytes := cX3_hasRow) (maxL := 2) (ret := (some .boolean)) hC hl.1 (c_X3_hasRow l g N q2 S2 (v101 - (48 : Int32)) v102 hc109) rfl gX2_play_X3_hasRow (by decide +kernel) rfl rfl ⟨Nat.le_of_ble_eq_true rfl, Nat.le_of_ble_eq_true rfl⟩ rfl rfl rfl (Nat.le_of_ble_eq_true rfl) ⟨Nat.le_of_ble_eq_true rfl, Nat.le_of_ble_eq_true rfl⟩ dX2_play_73 hP hD hS hA [1, 2, 3, 4, 5, 6] rfl (by decide +kernel) (fun H locs hP hD hS => ?_)
        refine k_if_eq (tgt := 89) hC dX2_play_76 (by decide) h (fun h => ?_) (fun h => ?_)
        · refine lv_aload_n hx hb dX2_play_89 rfl (lv_at hl 1 rfl) ?_
          refine lv_iload hx hb dX2_play_90 (lv_at hl 0 rfl) ?_
          refine lv_iload hx hb dX2_play_92 (lv_at hl 4 rfl) ?_
          refine lv_aload_n hx hb dX2_play_94 rfl (lv_at hl 3 rfl) ?_
          obtain ⟨S103, S104, hc106, h⟩ := fx_b2_s h
          refine k_callVv (C := RX2) (ci := 2) (qr := 0) (n := 3) (As := [.int v101, .int x4, .ref (q5 100)]) (rest := []) (wc := (wX2 g q1 q2 S1 ++ (wX3 g q2 S2 ++ (wX6 g q5 S5)))) (w1 := (wX2 g q1 q2 S103 ++ (wX3 g q2 S104 ++ (wX6 g q5 S5)))) (ws2 := (wX2 g q1 q2 S103 ++ (wX3 g q2 S104 ++ (wX4 g q3 S3 ++ (wX3 g q4 S4 ++ (wX6 g q5 S5)))))) (bytes := cX2_playPart) (maxL := 4) (ret := none) hC hl.1 (c_X2_playPart l g N q1 q2 q5 S1 S2 S5 v101 x4 S103 S104 hc106) rfl gX2_play_X2_playPart (by decide +kernel) rfl rfl ⟨Nat.le_of_ble_eq_true rfl, Nat.le_of_ble_eq_true rfl⟩ rfl rfl rfl (Nat.le_of_ble_eq_true rfl) ⟨Nat.le_of_ble_eq_true rfl, Nat.le_of_ble_eq_true rfl⟩ dX2_play_95 hP hD hS hA [0, 1, 2, 3, 4, 5, 6, 15, 16, 17, 18, 19] rfl (by decide +kernel) [q1 100, q2 100, q2 6, q2 7, q2 8, q2 9, q2 10, q5 100, q5 1, q5 2, q5 3, q5 4] rfl rfl rfl [7, 8, 9, 10, 11, 12, 13, 14] (wX4 g q3 S3 ++ (wX3 g q4 S4)) rfl rfl (n2 := 20) rfl (by decide +kernel) (fun H locs hP hD hS => ?_)
          refine k_iinc (v := (1 : Int32)) (lv' := fun X => [(5, .int X), (6, .int v101), (0, .ref (q1 100)), (1, .ref (q3 100)), (3, .ref (q5 100)), (4, .int x4)]) hC dX2_play_98 hl (k := 5) rfl (by decide) (by decide) (fun _ => rfl) h (fun x105 h ls hl => ?_)
          refine lv_goto (tgt := 37) hx hb dX2_play_101 (by decide) ?_
          exact ih x4 x105 S103 S104 o h _ _ _ hP hD hS (lv_sub hl [2, 3, 4, 5, 0] rfl) k0
        · refine lv_iload hx hb dX2_play_79 (lv_at hl 0 rfl) ?_
          refine lv_bipush (v := (48 : Int32)) hx hb dX2_play_81 (by decide) ?_
          refine lv_isub hx hb dX2_play_83 ?_
          refine k_topi h (fun x107 h => ?_)
          refine lv_istore (lv' := [(4, .int x107), (6, .int v101), (0, .ref (q1 100)), (1, .ref (q3 100)), (3, .ref (q5 100)), (5, .int x5)]) hx hb dX2_play_84 hl (by decide) rfl (fun ls hl => ?_)
          refine lv_goto (tgt := 98) hx hb dX2_play_86 (by decide) ?_
          refine k_iinc (v := (1 : Int32)) (lv' := fun X => [(5, .int X), (4, .int x107), (6, .int v101), (0, .ref (q1 100)), (1, .ref (q3 100)), (3, .ref (q5 100))]) hC dX2_play_98 hl (k := 5) rfl (by decide) (by decide) (fun _ => rfl) h (fun x108 h ls hl => ?_)
          refine lv_goto (tgt := 37) hx hb dX2_play_101 (by decide) ?_
          exact ih x107 x108 S1 S2 o h _ _ _ hP hD hS (lv_sub hl [3, 4, 5, 1, 0] rfl) k0
def f_X2_play (N : Nat) (S1 : St) (S2 : St) (S3 : St) (S4 : St) (S5 : St) : Option (St × St) :=
  fx_b1 (f_X3_copyFrom N S2 S4) (fun S101 =>
  fx_lt (stI S1 1 (0 : Int32)) (fun S102 =>
  fx_lt (stI S102 2 (-6 : Int32)) (fun S103 =>
  fx_lt (stI S103 3 (-6 : Int32)) (fun S104 =>
  fx_lt (stI S104 4 (-6 : Int32)) (fun S105 =>
  fx_b2 (fx_it (lf_X2_play_37 N S3 S4 S5) N ((0 : Int32), (0 : Int32), S105, S101)) (fun S106 S107 =>
  some (S106, S107)))))))
set_option maxRecDepth 100000 in
set_option maxHeartbeats 4000000 in
theorem c_X2_play (l : Launch) (g : GG) (N : Nat) (q1 : Nat → Nat) (q2 : Nat → Nat) (q3 : Nat → Nat) (q4 : Nat → Nat) (q5 : Nat → Nat) (S1 : St) (S2 : St) (S3 : St) (S4 : St) (S5 : St) (F1 : St) (F2 : St) (h : f_X2_play N S1 S2 S3 S4 S5 = some (F1, F2)) : Cv l yX2_play wsX2_play RM_X2_play g [.ref (q1 100), .ref (q3 100), .ref (q4 100), .ref (q5 100)] (wX2 g q1 q2 S1 ++ (wX3 g q2 S2 ++ (wX4 g q3 S3 ++ (wX3 g q4 S4 ++ (wX6 g q5 S5))))) (wX2 g q1 q2 F1 ++ (wX3 g q2 F2 ++ (wX4 g q3 S3 ++ (wX3 g q4 S4 ++ (wX6 g q5 S5))))) := by
  intro sz
  refine Met.ofC (cc := cX2_play) (maxL := 7) (ret := none) (by decide) rfl (Nat.le_of_ble_eq_true rfl) ?_
  intro p e s m below meth c hC hr hlk hsz A hA9 hA hP hD hS ls hl
  subst hsz
  have hC : Cx p s m ([.ref (q1 100), .ref (q3 100), .ref (q4 100), .ref (q5 100)] : List Value).toArray c RX2 cX2_play 7 wsX2_play g := hC
  have hx := hC.1.1
  have hb := hC.1.2.1
  have hml := hC.1.2.2.1
  have hown := hC.1.2.2.2.1
  have hts := hC.1.2.2.2.2
  have hl : lv_has ls 7 [(0, .ref (q1 100)), (1, .ref (q3 100)), (2, .ref (q4 100)), (3, .ref (q5 100))] := hl
  show W p l e RM_X2_play s m ([.ref (q1 100), .ref (q3 100), .ref (q4 100), .ref (q5 100)] : List Value).toArray below meth c s.heap [] 0 0 (Qv below g [.ref (q1 100), .ref (q3 100), .ref (q4 100), .ref (q5 100)] (wX2 g q1 q2 S1 ++ (wX3 g q2 S2 ++ (wX4 g q3 S3 ++ (wX3 g q4 S4 ++ (wX6 g q5 S5))))) (wX2 g q1 q2 F1 ++ (wX3 g q2 F2 ++ (wX4 g q3 S3 ++ (wX3 g q4 S4 ++ (wX6 g q5 S5))))) s) (F0 m 0 ls [])
  unfold f_X2_play at h
  refine lv_aload_n hx hb dX2_play_0 rfl (lv_at hl 0 rfl) ?_
  refine k_get (ci := 2) (k := 0) (q0 := 0) (v := .ref (q2 100)) (C := RX2) (T := TX2) (N := 5) hC uX2_play_X2 hP rfl rfl (by decide) (List.mem_of_getElem? (i := 1) rfl) rfl dX2_play_1 ?_
  refine lv_aload_n hx hb dX2_play_4 rfl (lv_at hl 2 rfl) ?_
  obtain ⟨S101, hc109, h⟩ := fx_b1_s h
  refine k_callVv (C := RX3) (ci := 3) (qr := 0) (n := 1) (As := [.ref (q4 100)]) (rest := []) (wc := (wX3 g q2 S2 ++ (wX3 g q4 S4))) (w1 := (wX3 g q2 S101 ++ (wX3 g q4 S4))) (ws2 := (wX2 g q1 q2 S1 ++ (wX3 g q2 S101 ++ (wX4 g q3 S3 ++ (wX3 g q4 S4 ++ (wX6 g q5 S5)))))) (bytes := cX3_copyFrom) (maxL := 2) (ret := none) hC hl.1 (c_X3_copyFrom l g N q2 q4 S2 S4 S101 hc109) rfl gX2_play_X3_copyFrom (by decide +kernel) rfl rfl ⟨Nat.le_of_ble_eq_true rfl, Nat.le_of_ble_eq_true rfl⟩ rfl rfl rfl (Nat.le_of_ble_eq_true rfl) ⟨Nat.le_of_ble_eq_true rfl, Nat.le_of_ble_eq_true rfl⟩ dX2_play_5 hP hD hS hA [1, 2, 3, 4, 5, 6, 9, 10, 11, 12, 13, 14] rfl (by decide +kernel) [q2 100, q2 6, q2 7, q2 8, q2 9, q2 10, q4 100, q4 6, q4 7, q4 8, q4 9, q4 10] rfl rfl rfl [0, 7, 8, 15, 16, 17, 18, 19] (wX2 g q1 q2 S1 ++ (wX4 g q3 S3 ++ (wX6 g q5 S5))) rfl rfl (n2 := 20) rfl (by decide +kernel) (fun H locs hP hD hS => ?_)
  refine lv_aload_n hx hb dX2_play_8 rfl (lv_at hl 0 rfl) ?_
  refine lv_iconst (v := (0 : Int32)) hx hb dX2_play_9 (by decide) ?_
  refine k_put (ci := 2) (k := 1) (q0 := 0) (C := RX2) (T := TX2) (N := 5) (S2 := stI S1 1 (0 : Int32)) tyX2 (fun S => (wX2 g q1 q2 S ++ (wX3 g q2 S101 ++ (wX4 g q3 S3 ++ (wX3 g q4 S4 ++ (wX6 g q5 S5)))))) hC uX2_play_X2 tyX2_ok nmX2 hP hD hS rfl rfl (by decide) (List.mem_of_getElem? (i := 2) rfl) rfl (tyX2_ok 1 (by decide)) (Nat.le_of_ble_eq_true rfl) dX2_play_10 rfl h (fun S102 h H locs hP hD hS => ?_)
  refine lv_aload_n hx hb dX2_play_13 rfl (lv_at hl 0 rfl) ?_
  refine lv_bipush (v := (-6 : Int32)) hx hb dX2_play_14 (by decide) ?_
  refine k_put (ci := 2) (k := 2) (q0 := 0) (C := RX2) (T := TX2) (N := 5) (S2 := stI S102 2 (-6 : Int32)) tyX2 (fun S => (wX2 g q1 q2 S ++ (wX3 g q2 S101 ++ (wX4 g q3 S3 ++ (wX3 g q4 S4 ++ (wX6 g q5 S5)))))) hC uX2_play_X2 tyX2_ok nmX2 hP hD hS rfl rfl (by decide) (List.mem_of_getElem? (i := 3) rfl) rfl (tyX2_ok 2 (by decide)) (Nat.le_of_ble_eq_true rfl) dX2_play_16 rfl h (fun S103 h H locs hP hD hS => ?_)
  refine lv_aload_n hx hb dX2_play_19 rfl (lv_at hl 0 rfl) ?_
  refine lv_bipush (v := (-6 : Int32)) hx hb dX2_play_20 (by decide) ?_
  refine k_put (ci := 2) (k := 3) (q0 := 0) (C := RX2) (T := TX2) (N := 5) (S2 := stI S103 3 (-6 : Int32)) tyX2 (fun S => (wX2 g q1 q2 S ++ (wX3 g q2 S101 ++ (wX4 g q3 S3 ++ (wX3 g q4 S4 ++ (wX6 g q5 S5)))))) hC uX2_play_X2 tyX2_ok nmX2 hP hD hS rfl rfl (by decide) (List.mem_of_getElem? (i := 4) rfl) rfl (tyX2_ok 3 (by decide)) (Nat.le_of_ble_eq_true rfl) dX2_play_22 rfl h (fun S104 h H locs hP hD hS => ?_)
  refine lv_aload_n hx hb dX2_play_25 rfl (lv_at hl 0 rfl) ?_
  refine lv_bipush (v := (-6 : Int32)) hx hb dX2_play_26 (by decide) ?_
  refine k_put (ci := 2) (k := 4) (q0 := 0) (C := RX2) (T := TX2) (N := 5) (S2 := stI S104 4 (-6 : Int32)) tyX2 (fun S => (wX2 g q1 q2 S ++ (wX3 g q2 S101 ++ (wX4 g q3 S3 ++ (wX3 g q4 S4 ++ (wX6 g q5 S5)))))) hC uX2_play_X2 tyX2_ok nmX2 hP hD hS rfl rfl (by decide) (List.mem_of_getElem? (i := 5) rfl) rfl (tyX2_ok 4 (by decide)) (Nat.le_of_ble_eq_true rfl) dX2_play_28 rfl h (fun S105 h H locs hP hD hS => ?_)
  refine lv_iconst (v := (0 : Int32)) hx hb dX2_play_31 (by decide) ?_
  refine lv_istore (lv' := [(4, .int (0 : Int32)), (0, .ref (q1 100)), (1, .ref (q3 100)), (2, .ref (q4 100)), (3, .ref (q5 100))]) hx hb dX2_play_32 hl (by decide) rfl (fun ls hl => ?_)
  refine lv_iconst (v := (0 : Int32)) hx hb dX2_play_34 (by decide) ?_
  refine lv_istore (lv' := [(5, .int (0 : Int32)), (4, .int (0 : Int32)), (0, .ref (q1 100)), (1, .ref (q3 100)), (2, .ref (q4 100)), (3, .ref (q5 100))]) hx hb dX2_play_35 hl (by decide) rfl (fun ls hl => ?_)
  obtain ⟨S106, S107, ho108, h⟩ := fx_b2_s h
  refine lw_X2_play_37 hC hA N q1 q2 q3 q4 q5 S3 S4 S5 N (0 : Int32) (0 : Int32) S105 S101  (S106, S107) ho108 _ _ _ hP hD hS (lv_sub hl [2, 3, 5, 1, 0] rfl) ?_
  · intro y0 y1 he H locs ls hP hD hS hl
    obtain ⟨rfl, rfl⟩ := fx_j2 he
    obtain ⟨rfl, rfl⟩ := fx_i2 h
    exact Cv.ret hC hr hlk hA9 hP hD hS dX2_play_104
theorem uX3_rebuild_X3 : ∀ w ∈ u_ws RX3 TX3 11, w ∈ wsX3_rebuild := fun w h => List.mem_cons_of_mem _ (List.mem_append_right _ h)
abbrev RM_X3_rebuild : Room := { frames := 1, cells := 0, slots := 0, locals := 23 }
def f_X3_rebuild (N : Nat) (S1 : St) (x1 : Int32) (x2 : Int32) : Option (St) :=
  fx_lt (stI S1 0 x1) (fun S101 =>
  fx_lt (stI S101 1 x2) (fun S102 =>
  fx_lt (stI S102 5 (0 : Int32)) (fun S103 =>
  fx_lt (stA S103 6 (fx_fl 6 (0 : Int32) (S103.2 6))) (fun S104 =>
  fx_lt (stA S104 7 (fx_fl 4 (0 : Int32) (S104.2 7))) (fun S105 =>
  fx_lt (stA S105 10 (fx_fl 4 (0 : Int32) (S105.2 10))) (fun S106 =>
  some S106))))))
set_option maxRecDepth 100000 in
set_option maxHeartbeats 4000000 in
theorem c_X3_rebuild (l : Launch) (g : GG) (N : Nat) (q1 : Nat → Nat) (S1 : St) (x1 : Int32) (x2 : Int32) (F1 : St) (h : f_X3_rebuild N S1 x1 x2 = some F1) : Cv l yX3_rebuild wsX3_rebuild RM_X3_rebuild g [.ref (q1 100), .int x1, .int x2] (wX3 g q1 S1) (wX3 g q1 F1) := by
  intro sz
  refine Met.ofC (cc := cX3_rebuild) (maxL := 3) (ret := none) (by decide) rfl (Nat.le_of_ble_eq_true rfl) ?_
  intro p e s m below meth c hC hr hlk hsz A hA9 hA hP hD hS ls hl
  subst hsz
  have hC : Cx p s m ([.ref (q1 100), .int x1, .int x2] : List Value).toArray c RX3 cX3_rebuild 3 wsX3_rebuild g := hC
  have hx := hC.1.1
  have hb := hC.1.2.1
  have hml := hC.1.2.2.1
  have hown := hC.1.2.2.2.1
  have hts := hC.1.2.2.2.2
  have hl : lv_has ls 3 [(0, .ref (q1 100)), (1, .int x1), (2, .int x2)] := hl
  show W p l e RM_X3_rebuild s m ([.ref (q1 100), .int x1, .int x2] : List Value).toArray below meth c s.heap [] 0 0 (Qv below g [.ref (q1 100), .int x1, .int x2] (wX3 g q1 S1) (wX3 g q1 F1) s) (F0 m 0 ls [])
  unfold f_X3_rebuild at h
  refine lv_aload_n hx hb dX3_rebuild_0 rfl (lv_at hl 0 rfl) ?_
  refine lv_iload_n hx hb dX3_rebuild_1 rfl (lv_at hl 1 rfl) ?_
  refine k_put (ci := 3) (k := 0) (q0 := 0) (C := RX3) (T := TX3) (N := 11) (S2 := stI S1 0 x1) tyX3 (fun S => (wX3 g q1 S)) hC uX3_rebuild_X3 tyX3_ok nmX3 hP hD hS rfl rfl (by decide) (List.mem_of_getElem? (i := 1) rfl) rfl (tyX3_ok 0 (by decide)) (Nat.le_of_ble_eq_true rfl) dX3_rebuild_2 rfl h (fun S101 h H locs hP hD hS => ?_)
  refine lv_aload_n hx hb dX3_rebuild_5 rfl (lv_at hl 0 rfl) ?_
  refine lv_iload_n hx hb dX3_rebuild_6 rfl (lv_at hl 2 rfl) ?_
  refine k_put (ci := 3) (k := 1) (q0 := 0) (C := RX3) (T := TX3) (N := 11) (S2 := stI S101 1 x2) tyX3 (fun S => (wX3 g q1 S)) hC uX3_rebuild_X3 tyX3_ok nmX3 hP hD hS rfl rfl (by decide) (List.mem_of_getElem? (i := 2) rfl) rfl (tyX3_ok 1 (by decide)) (Nat.le_of_ble_eq_true rfl) dX3_rebuild_7 rfl h (fun S102 h H locs hP hD hS => ?_)
  refine lv_aload_n hx hb dX3_rebuild_10 rfl (lv_at hl 0 rfl) ?_
  refine lv_iconst (v := (0 : Int32)) hx hb dX3_rebuild_11 (by decide) ?_
  refine k_putz (ci := 3) (k := 5) (q0 := 0) (C := RX3) (T := TX3) (N := 11) (S2 := stI S102 5 (0 : Int32)) tyX3 (fun S => (wX3 g q1 S)) hC uX3_rebuild_X3 tyX3_ok nmX3 hP hD hS rfl rfl (by decide) (List.mem_of_getElem? (i := 3) rfl) rfl (tyX3_ok 5 (by decide)) ⟨rfl, rfl⟩ (Nat.le_of_ble_eq_true rfl) dX3_rebuild_12 rfl h (fun S103 h H locs hP hD hS => ?_)
  refine lv_aload_n hx hb dX3_rebuild_15 rfl (lv_at hl 0 rfl) ?_
  refine k_get (ci := 3) (k := 6) (q0 := 0) (v := .ref (q1 6)) (C := RX3) (T := TX3) (N := 11) hC uX3_rebuild_X3 hP rfl rfl (by decide) (List.mem_of_getElem? (i := 4) rfl) rfl dX3_rebuild_16 ?_
  refine lv_iconst (v := (0 : Int32)) hx hb dX3_rebuild_19 (by decide) ?_
  refine k_callSv (As := [.ref (q1 6), .int (0 : Int32)]) (rest := []) (wc := [(q1 6, .inl (g.2.1, 6, .inl (S103.2 6)))]) (w1 := [(q1 6, .inl (g.2.1, 6, .inl (fx_fl 6 (0 : Int32) (S103.2 6))))]) (ws2 := (wX3 g q1 (stA S103 6 (fx_fl 6 (0 : Int32) (S103.2 6))))) (n := 2) (bytes := cJ7_fill_53178) (maxL := 4) (ret := none) hC hl.1 (c_J7_fill l g (q1 6) 6 (by decide) (S103.2 6) (0 : Int32)) rfl gX3_rebuild_J7_fill_53178 (by decide +kernel) ⟨Nat.le_of_ble_eq_true rfl, Nat.le_of_ble_eq_true rfl⟩ rfl rfl rfl (Nat.le_of_ble_eq_true rfl) ⟨Nat.le_of_ble_eq_true rfl, Nat.le_of_ble_eq_true rfl⟩ dX3_rebuild_20 hP hD hS hA [1] rfl rfl [q1 6] rfl rfl rfl [0, 2, 3, 4, 5] [(q1 100, .inr (3, [.int (S103.1 0), .int (S103.1 1), .int (S103.1 2), .int (S103.1 3), .int (S103.1 4), .int (S103.1 5), .ref (q1 6), .ref (q1 7), .ref (q1 8), .ref (q1 9), .ref (q1 10)])), (q1 7, .inl (g.2.1, 4, .inl (S103.2 7))), (q1 8, .inl (g.2.1, 24, .inl (S103.2 8))), (q1 9, .inl (g.2.1, 24, .inl (S103.2 9))), (q1 10, .inl (g.2.1, 4, .inl (S103.2 10)))] rfl rfl (n2 := 6) rfl (by decide +kernel) (fun H locs hP hD hS => ?_)
  refine k_name (fun S => (wX3 g q1 S)) h hP hD (fun S104 h hP hD => ?_)
  refine lv_aload_n hx hb dX3_rebuild_23 rfl (lv_at hl 0 rfl) ?_
  refine k_get (ci := 3) (k := 7) (q0 := 0) (v := .ref (q1 7)) (C := RX3) (T := TX3) (N := 11) hC uX3_rebuild_X3 hP rfl rfl (by decide) (List.mem_of_getElem? (i := 5) rfl) rfl dX3_rebuild_24 ?_
  refine lv_iconst (v := (0 : Int32)) hx hb dX3_rebuild_27 (by decide) ?_
  refine k_callSv (As := [.ref (q1 7), .int (0 : Int32)]) (rest := []) (wc := [(q1 7, .inl (g.2.1, 4, .inl (S104.2 7)))]) (w1 := [(q1 7, .inl (g.2.1, 4, .inl (fx_fl 4 (0 : Int32) (S104.2 7))))]) (ws2 := (wX3 g q1 (stA S104 7 (fx_fl 4 (0 : Int32) (S104.2 7))))) (n := 2) (bytes := cJ7_fill_53178) (maxL := 4) (ret := none) hC hl.1 (c_J7_fill l g (q1 7) 4 (by decide) (S104.2 7) (0 : Int32)) rfl gX3_rebuild_J7_fill_53178 (by decide +kernel) ⟨Nat.le_of_ble_eq_true rfl, Nat.le_of_ble_eq_true rfl⟩ rfl rfl rfl (Nat.le_of_ble_eq_true rfl) ⟨Nat.le_of_ble_eq_true rfl, Nat.le_of_ble_eq_true rfl⟩ dX3_rebuild_28 hP hD hS hA [2] rfl rfl [q1 7] rfl rfl rfl [0, 1, 3, 4, 5] [(q1 100, .inr (3, [.int (S104.1 0), .int (S104.1 1), .int (S104.1 2), .int (S104.1 3), .int (S104.1 4), .int (S104.1 5), .ref (q1 6), .ref (q1 7), .ref (q1 8), .ref (q1 9), .ref (q1 10)])), (q1 6, .inl (g.2.1, 6, .inl (S104.2 6))), (q1 8, .inl (g.2.1, 24, .inl (S104.2 8))), (q1 9, .inl (g.2.1, 24, .inl (S104.2 9))), (q1 10, .inl (g.2.1, 4, .inl (S104.2 10)))] rfl rfl (n2 := 6) rfl (by decide +kernel) (fun H locs hP hD hS => ?_)
  refine k_name (fun S => (wX3 g q1 S)) h hP hD (fun S105 h hP hD => ?_)
  refine lv_aload_n hx hb dX3_rebuild_31 rfl (lv_at hl 0 rfl) ?_
  refine k_get (ci := 3) (k := 10) (q0 := 0) (v := .ref (q1 10)) (C := RX3) (T := TX3) (N := 11) hC uX3_rebuild_X3 hP rfl rfl (by decide) (List.mem_of_getElem? (i := 6) rfl) rfl dX3_rebuild_32 ?_
  refine lv_iconst (v := (0 : Int32)) hx hb dX3_rebuild_35 (by decide) ?_
  refine k_callSv (As := [.ref (q1 10), .int (0 : Int32)]) (rest := []) (wc := [(q1 10, .inl (g.2.1, 4, .inl (S105.2 10)))]) (w1 := [(q1 10, .inl (g.2.1, 4, .inl (fx_fl 4 (0 : Int32) (S105.2 10))))]) (ws2 := (wX3 g q1 (stA S105 10 (fx_fl 4 (0 : Int32) (S105.2 10))))) (n := 2) (bytes := cJ7_fill_53178) (maxL := 4) (ret := none) hC hl.1 (c_J7_fill l g (q1 10) 4 (by decide) (S105.2 10) (0 : Int32)) rfl gX3_rebuild_J7_fill_53178 (by decide +kernel) ⟨Nat.le_of_ble_eq_true rfl, Nat.le_of_ble_eq_true rfl⟩ rfl rfl rfl (Nat.le_of_ble_eq_true rfl) ⟨Nat.le_of_ble_eq_true rfl, Nat.le_of_ble_eq_true rfl⟩ dX3_rebuild_36 hP hD hS hA [5] rfl rfl [q1 10] rfl rfl rfl [0, 1, 2, 3, 4] [(q1 100, .inr (3, [.int (S105.1 0), .int (S105.1 1), .int (S105.1 2), .int (S105.1 3), .int (S105.1 4), .int (S105.1 5), .ref (q1 6), .ref (q1 7), .ref (q1 8), .ref (q1 9), .ref (q1 10)])), (q1 6, .inl (g.2.1, 6, .inl (S105.2 6))), (q1 7, .inl (g.2.1, 4, .inl (S105.2 7))), (q1 8, .inl (g.2.1, 24, .inl (S105.2 8))), (q1 9, .inl (g.2.1, 24, .inl (S105.2 9)))] rfl rfl (n2 := 6) rfl (by decide +kernel) (fun H locs hP hD hS => ?_)
  refine k_name (fun S => (wX3 g q1 S)) h hP hD (fun S106 h hP hD => ?_)
  obtain rfl := fx_i1 h
  exact Cv.ret hC hr hlk hA9 hP hD hS dX3_rebuild_39
theorem uX3_hasPlace_X3 : ∀ w ∈ u_ws RX3 TX3 11, w ∈ wsX3_hasPlace := fun w h => List.mem_cons_of_mem _ (List.mem_append_right _ h)
abbrev RM_X3_hasPlace : Room := { frames := 1, cells := 0, slots := 0, locals := 22 }
def f_X3_hasPlace (N : Nat) (S1 : St) (x1 : Int32) : Option (Int32) :=
  fx_b1 (f_X7_within N x1 (0 : Int32) ((S1.1 1) - (1 : Int32))) (fun v101 =>
  fx_bz v101 (some v101))
set_option maxRecDepth 100000 in
set_option maxHeartbeats 4000000 in
theorem c_X3_hasPlace (l : Launch) (g : GG) (N : Nat) (q1 : Nat → Nat) (S1 : St) (x1 : Int32) (r : Int32) (h : f_X3_hasPlace N S1 x1 = some r) : Ci l yX3_hasPlace wsX3_hasPlace RM_X3_hasPlace g [.ref (q1 100), .int x1] (wX3 g q1 S1) (wX3 g q1 S1) r := by
  intro sz
  refine Met.ofC (cc := cX3_hasPlace) (maxL := 2) (ret := (some .boolean)) (by decide) rfl (Nat.le_of_ble_eq_true rfl) ?_
  intro p e s m below meth c hC hr hlk hsz A hA9 hA hP hD hS ls hl
  subst hsz
  have hC : Cx p s m ([.ref (q1 100), .int x1] : List Value).toArray c RX3 cX3_hasPlace 2 wsX3_hasPlace g := hC
  have hx := hC.1.1
  have hb := hC.1.2.1
  have hml := hC.1.2.2.1
  have hown := hC.1.2.2.2.1
  have hts := hC.1.2.2.2.2
  have hl : lv_has ls 2 [(0, .ref (q1 100)), (1, .int x1)] := hl
  show W p l e RM_X3_hasPlace s m ([.ref (q1 100), .int x1] : List Value).toArray below meth c s.heap [] 0 0 (Qi below g [.ref (q1 100), .int x1] (wX3 g q1 S1) (wX3 g q1 S1) r s) (F0 m 0 ls [])
  unfold f_X3_hasPlace at h
  refine lv_iload_n hx hb dX3_hasPlace_0 rfl (lv_at hl 1 rfl) ?_
  refine lv_iconst (v := (0 : Int32)) hx hb dX3_hasPlace_1 (by decide) ?_
  refine lv_aload_n hx hb dX3_hasPlace_2 rfl (lv_at hl 0 rfl) ?_
  refine k_get (ci := 3) (k := 1) (q0 := 0) (v := .int (S1.1 1)) (C := RX3) (T := TX3) (N := 11) hC uX3_hasPlace_X3 hP rfl rfl (by decide) (List.mem_of_getElem? (i := 1) rfl) rfl dX3_hasPlace_3 ?_
  refine lv_iconst (v := (1 : Int32)) hx hb dX3_hasPlace_6 (by decide) ?_
  refine lv_isub hx hb dX3_hasPlace_7 ?_
  obtain ⟨v101, hc102, h⟩ := fx_b1_s h
  refine k_callNi0 (n := 3) (As := [.int x1, .int (0 : Int32), .int ((S1.1 1) - (1 : Int32))]) (rest := []) (wc := ([] : va_W)) (bytes := cX7_within) (maxL := 3) (ret := (some .boolean)) hC hl.1 (c_X7_within l g N x1 (0 : Int32) ((S1.1 1) - (1 : Int32)) v101 hc102) rfl gX3_hasPlace_X7_within_n59 (List.mem_of_getElem? (i := 9) rfl) (List.mem_of_getElem? (i := 3) rfl) (List.mem_of_getElem? (i := 2) rfl) (by decide +kernel) ⟨Nat.le_of_ble_eq_true rfl, Nat.le_of_ble_eq_true rfl⟩ rfl rfl rfl (Nat.le_of_ble_eq_true rfl) ⟨Nat.le_of_ble_eq_true rfl, Nat.le_of_ble_eq_true rfl⟩ dX3_hasPlace_8 hP hD hS hA [] rfl (by decide +kernel) (fun H locs hP hD hS => ?_)
  obtain ⟨hz, h⟩ := fx_bz_s h
  obtain rfl := fx_i1 h
  exact Ci.retz hC hr hlk hz.1 hA9 hP hD hS dX3_hasPlace_11
theorem uX3_tellCell_X3 : ∀ w ∈ u_ws RX3 TX3 11, w ∈ wsX3_tellCell := fun w h => List.mem_cons_of_mem _ (List.mem_append_right _ h)
abbrev RM_X3_tellCell : Room := { frames := 1, cells := 0, slots := 0, locals := 21 }
def f_X3_tellCell (N : Nat) (S1 : St) (x1 : Int32) (x2 : Int32) (x3 : Int32) : Option (Int32) :=
  fx_ald 4 (S1.2 7) x1 (fun v101 =>
  (if x2 < v101 then (
  (if x3 = 0 then (
    fx_b1 (f_X3_cell N x1 x2) (fun v105 =>
      fx_ald 24 (S1.2 8) v105 (fun v106 =>
      some v106))) else (
    fx_b1 (f_X3_cell N x1 x2) (fun v102 =>
      fx_ald 24 (S1.2 9) v102 (fun v103 =>
      some v103))))) else (
  some (-6 : Int32))))
set_option maxRecDepth 100000 in
set_option maxHeartbeats 4000000 in
theorem c_X3_tellCell (l : Launch) (g : GG) (N : Nat) (q1 : Nat → Nat) (S1 : St) (x1 : Int32) (x2 : Int32) (x3 : Int32) (r : Int32) (h : f_X3_tellCell N S1 x1 x2 x3 = some r) : Ci l yX3_tellCell wsX3_tellCell RM_X3_tellCell g [.ref (q1 100), .int x1, .int x2, .int x3] (wX3 g q1 S1) (wX3 g q1 S1) r := by
  intro sz
  refine Met.ofC (cc := cX3_tellCell) (maxL := 4) (ret := (some .int)) (by decide) rfl (Nat.le_of_ble_eq_true rfl) ?_
  intro p e s m below meth c hC hr hlk hsz A hA9 hA hP hD hS ls hl
  subst hsz
  have hC : Cx p s m ([.ref (q1 100), .int x1, .int x2, .int x3] : List Value).toArray c RX3 cX3_tellCell 4 wsX3_tellCell g := hC
  have hx := hC.1.1
  have hb := hC.1.2.1
  have hml := hC.1.2.2.1
  have hown := hC.1.2.2.2.1
  have hts := hC.1.2.2.2.2
  have hl : lv_has ls 4 [(0, .ref (q1 100)), (1, .int x1), (2, .int x2), (3, .int x3)] := hl
  show W p l e RM_X3_tellCell s m ([.ref (q1 100), .int x1, .int x2, .int x3] : List Value).toArray below meth c s.heap [] 0 0 (Qi below g [.ref (q1 100), .int x1, .int x2, .int x3] (wX3 g q1 S1) (wX3 g q1 S1) r s) (F0 m 0 ls [])
  unfold f_X3_tellCell at h
  refine lv_iload_n hx hb dX3_tellCell_0 rfl (lv_at hl 2 rfl) ?_
  refine lv_aload_n hx hb dX3_tellCell_1 rfl (lv_at hl 0 rfl) ?_
  refine k_get (ci := 3) (k := 7) (q0 := 0) (v := .ref (q1 7)) (C := RX3) (T := TX3) (N := 11) hC uX3_tellCell_X3 hP rfl rfl (by decide) (List.mem_of_getElem? (i := 1) rfl) rfl dX3_tellCell_2 ?_
  refine lv_iload_n hx hb dX3_tellCell_5 rfl (lv_at hl 1 rfl) ?_
  refine k_ald (q0 := 2) (n := 4) (F := S1.2 7) hC hP rfl dX3_tellCell_6 h (fun v101 h => ?_)
  refine k_icmp_lt (tgt := 13) hC dX3_tellCell_7 (by decide) h (fun h => ?_) (fun h => ?_)
  · refine lv_iload_n hx hb dX3_tellCell_13 rfl (lv_at hl 3 rfl) ?_
    refine k_if_ne (tgt := 30) hC dX3_tellCell_14 (by decide) h (fun h => ?_) (fun h => ?_)
    · refine lv_aload_n hx hb dX3_tellCell_30 rfl (lv_at hl 0 rfl) ?_
      refine k_get (ci := 3) (k := 9) (q0 := 0) (v := .ref (q1 9)) (C := RX3) (T := TX3) (N := 11) hC uX3_tellCell_X3 hP rfl rfl (by decide) (List.mem_of_getElem? (i := 3) rfl) rfl dX3_tellCell_31 ?_
      refine lv_iload_n hx hb dX3_tellCell_34 rfl (lv_at hl 1 rfl) ?_
      refine lv_iload_n hx hb dX3_tellCell_35 rfl (lv_at hl 2 rfl) ?_
      obtain ⟨v102, hc104, h⟩ := fx_b1_s h
      refine k_callSi0 (n := 2) (As := [.int x1, .int x2]) (rest := [.ref (q1 9)]) (wc := ([] : va_W)) (bytes := cX3_cell) (maxL := 2) (ret := (some .int)) hC hl.1 (c_X3_cell l g N x1 x2 v102 hc104) rfl gX3_tellCell_X3_cell (by decide +kernel) ⟨Nat.le_of_ble_eq_true rfl, Nat.le_of_ble_eq_true rfl⟩ rfl rfl rfl (Nat.le_of_ble_eq_true rfl) ⟨Nat.le_of_ble_eq_true rfl, Nat.le_of_ble_eq_true rfl⟩ dX3_tellCell_36 hP hD hS hA [] rfl (by decide +kernel) (fun H locs hP hD hS => ?_)
      refine k_ald (q0 := 4) (n := 24) (F := S1.2 9) hC hP rfl dX3_tellCell_39 h (fun v103 h => ?_)
      obtain rfl := fx_i1 h
      exact Ci.ret hC hr hlk hA9 hP hD hS dX3_tellCell_40
    · refine lv_aload_n hx hb dX3_tellCell_17 rfl (lv_at hl 0 rfl) ?_
      refine k_get (ci := 3) (k := 8) (q0 := 0) (v := .ref (q1 8)) (C := RX3) (T := TX3) (N := 11) hC uX3_tellCell_X3 hP rfl rfl (by decide) (List.mem_of_getElem? (i := 2) rfl) rfl dX3_tellCell_18 ?_
      refine lv_iload_n hx hb dX3_tellCell_21 rfl (lv_at hl 1 rfl) ?_
      refine lv_iload_n hx hb dX3_tellCell_22 rfl (lv_at hl 2 rfl) ?_
      obtain ⟨v105, hc107, h⟩ := fx_b1_s h
      refine k_callSi0 (n := 2) (As := [.int x1, .int x2]) (rest := [.ref (q1 8)]) (wc := ([] : va_W)) (bytes := cX3_cell) (maxL := 2) (ret := (some .int)) hC hl.1 (c_X3_cell l g N x1 x2 v105 hc107) rfl gX3_tellCell_X3_cell (by decide +kernel) ⟨Nat.le_of_ble_eq_true rfl, Nat.le_of_ble_eq_true rfl⟩ rfl rfl rfl (Nat.le_of_ble_eq_true rfl) ⟨Nat.le_of_ble_eq_true rfl, Nat.le_of_ble_eq_true rfl⟩ dX3_tellCell_23 hP hD hS hA [] rfl (by decide +kernel) (fun H locs hP hD hS => ?_)
      refine k_ald (q0 := 3) (n := 24) (F := S1.2 8) hC hP rfl dX3_tellCell_26 h (fun v106 h => ?_)
      refine lv_goto (tgt := 40) hx hb dX3_tellCell_27 (by decide) ?_
      obtain rfl := fx_i1 h
      exact Ci.ret hC hr hlk hA9 hP hD hS dX3_tellCell_40
  · refine lv_bipush (v := (-6 : Int32)) hx hb dX3_tellCell_10 (by decide) ?_
    obtain rfl := fx_i1 h
    exact Ci.ret hC hr hlk hA9 hP hD hS dX3_tellCell_12
theorem uX3_bakedByDoors_X3 : ∀ w ∈ u_ws RX3 TX3 11, w ∈ wsX3_bakedByDoors := fun w h => List.mem_cons_of_mem _ (List.mem_append_right _ h)
abbrev RM_X3_bakedByDoors : Room := { frames := 1, cells := 0, slots := 0, locals := 14 }
def bd_X3_bakedByDoors_12 (N : Nat) (x1 : Int32) (x2 : Int32) (x3 : Int32) (S1 : St) (x4 : Int32) (x5 : Int32) (x6 : Int32) (rec : (Int32 × Int32 × Int32) → Option (Int32)) : Option (Int32) :=
  (if x2 ≤ x6 then (
    some x4) else (
    fx_ald 6 (S1.2 6) x1 (fun v101 =>
      fx_lt (if (0 : Int32) < (x5 - v101) then (x5 - v101) else (0 : Int32)) (fun x102 =>
      fx_lt (x4 + x102) (fun x103 =>
      fx_b1 ((if ((x3 >>> (x6 &&& 31)) &&& (1 : Int32)) = (1 : Int32) then (
      some (S1.1 4)) else (
      some (0 : Int32))) : Option (Int32)) (fun v104 =>
      fx_lt (if (0 : Int32) < ((x5 - (S1.1 3)) - v104) then ((x5 - (S1.1 3)) - v104) else (0 : Int32)) (fun x106 =>
        fx_lt (x6 + (1 : Int32)) (fun x107 =>
        rec (x103, x106, x107)))))))))
def lf_X3_bakedByDoors_12 (N : Nat) (x1 : Int32) (x2 : Int32) (x3 : Int32) (S1 : St) : (Int32 × Int32 × Int32) → ((Int32 × Int32 × Int32) → Option (Int32)) → Option (Int32) := fun x rec => bd_X3_bakedByDoors_12 N x1 x2 x3 S1 x.1 x.2.1 x.2.2 rec
set_option maxRecDepth 100000 in
set_option maxHeartbeats 4000000 in
theorem lw_X3_bakedByDoors_12 {p : Program} {l : Launch} {e : Env} {s : State} {m : MethodId} {args : Array Value} {below : List Frame} {meth : Method} {c : Code} {Q : State → Prop} {A : Nat → Prop} {H0 : Heap} {g : GG} (hC : Cx p s m args c RX3 cX3_bakedByDoors 8 wsX3_bakedByDoors g) (hA : ∀ q : Nat, H0.size ≤ q → A q) (N : Nat) (q1 : Nat → Nat) (x1 : Int32) (x2 : Int32) (x3 : Int32) (S1 : St) : ∀ (n : Nat) (x4 : Int32) (x5 : Int32) (x6 : Int32) (o : Int32), fx_it (lf_X3_bakedByDoors_12 N x1 x2 x3 S1) n (x4, x5, x6) = some o → ∀ (H : Heap) (locs : List Loc) (ls : Array Slot), va_P g.1 vwCl (wX3 g q1 S1) H → va_D A (wX3 g q1 S1) → va_S A H0 H locs → lv_has ls 8 [(0, .ref (q1 100)), (1, .int x1), (2, .int x2), (3, .int x3), (4, .int x4), (5, .int x5), (6, .int x6)] → (∀ (z0 : Int32), o = z0 → ∀ (H : Heap) (locs : List Loc) (ls : Array Slot), va_P g.1 vwCl (wX3 g q1 S1) H → va_D A (wX3 g q1 S1) → va_S A H0 H locs → lv_has ls 8 [(4, .int z0)] → W p l e RM_X3_bakedByDoors s m args below meth c H locs 0 0 Q (F0 m 78 ls [])) → W p l e RM_X3_bakedByDoors s m args below meth c H locs 0 0 Q (F0 m 12 ls []) := by
  have hx := hC.1.1
  have hb := hC.1.2.1
  have hml := hC.1.2.2.1
  have hown := hC.1.2.2.2.1
  have hts := hC.1.2.2.2.2
  intro n
  induction n with
  | zero => intro x4 x5 x6 o h; cases h
  | succ n ih =>
    intro x4 x5 x6 o h H locs ls hP hD hS hl k0
    have h : bd_X3_bakedByDoors_12 N x1 x2 x3 S1 x4 x5 x6 (fx_it (lf_X3_bakedByDoors_12 N x1 x2 x3 S1) n) = some o := h
    unfold bd_X3_bakedByDoors_12 at h
    refine lv_iload hx hb dX3_bakedByDoors_12 (lv_at hl 6 rfl) ?_
    refine lv_iload_n hx hb dX3_bakedByDoors_14 rfl (lv_at hl 2 rfl) ?_
    refine k_icmp_ge (tgt := 78) hC dX3_bakedByDoors_15 (by decide) h (fun h => ?_) (fun h => ?_)
    · exact k0 x4 (Option.some.inj h).symm _ _ _ hP hD hS (lv_sub hl [4] rfl)
    · refine lv_iload hx hb dX3_bakedByDoors_18 (lv_at hl 4 rfl) ?_
      refine lv_iconst (v := (0 : Int32)) hx hb dX3_bakedByDoors_20 (by decide) ?_
      refine lv_iload hx hb dX3_bakedByDoors_21 (lv_at hl 5 rfl) ?_
      refine lv_aload_n hx hb dX3_bakedByDoors_23 rfl (lv_at hl 0 rfl) ?_
      refine k_get (ci := 3) (k := 6) (q0 := 0) (v := .ref (q1 6)) (C := RX3) (T := TX3) (N := 11) hC uX3_bakedByDoors_X3 hP rfl rfl (by decide) (List.mem_of_getElem? (i := 2) rfl) rfl dX3_bakedByDoors_24 ?_
      refine lv_iload_n hx hb dX3_bakedByDoors_27 rfl (lv_at hl 1 rfl) ?_
      refine k_ald (q0 := 1) (n := 6) (F := S1.2 6) hC hP rfl dX3_bakedByDoors_28 h (fun v101 h => ?_)
      refine lv_isub hx hb dX3_bakedByDoors_29 ?_
      refine va_mmax hx hb (hml.trans hl.1.symm) hown (hts _ (List.mem_of_getElem? (i := 3) rfl)) (hts _ (List.mem_of_getElem? (i := 4) rfl)) (hts _ (List.mem_of_getElem? (i := 5) rfl)) (hts _ (List.mem_of_getElem? (i := 6) rfl)) (Nat.le_of_ble_eq_true rfl) (Nat.le_of_ble_eq_true rfl) (Nat.zero_le _) (Nat.zero_le _) dX3_bakedByDoors_30 ?_
      refine k_topi h (fun x102 h => ?_)
      refine lv_iadd hx hb dX3_bakedByDoors_33 ?_
      refine k_topi h (fun x103 h => ?_)
      refine lv_istore (lv' := [(4, .int x103), (0, .ref (q1 100)), (1, .int x1), (2, .int x2), (3, .int x3), (5, .int x5), (6, .int x6)]) hx hb dX3_bakedByDoors_34 hl (by decide) rfl (fun ls hl => ?_)
      refine lv_iload_n hx hb dX3_bakedByDoors_36 rfl (lv_at hl 4 rfl) ?_
      refine lv_iload hx hb dX3_bakedByDoors_37 (lv_at hl 6 rfl) ?_
      refine lv_ishr hx hb dX3_bakedByDoors_39 ?_
      refine lv_iconst (v := (1 : Int32)) hx hb dX3_bakedByDoors_40 (by decide) ?_
      refine lv_iand hx hb dX3_bakedByDoors_41 ?_
      refine lv_iconst (v := (1 : Int32)) hx hb dX3_bakedByDoors_42 (by decide) ?_
      obtain ⟨v104, hv105, h⟩ := fx_b1_s h
      have K108 : ∀ (H : Heap) (locs : List Loc) (ls : Array Slot), va_P g.1 vwCl (wX3 g q1 S1) H → va_D A (wX3 g q1 S1) → va_S A H0 H locs → lv_has ls 8 [(4, .int x103), (0, .ref (q1 100)), (1, .int x1), (2, .int x2), (3, .int x3), (5, .int x5), (6, .int x6)] → W p l e RM_X3_bakedByDoors s m args below meth c H locs 0 0 Q (F0 m 54 ls [.int v104]) := by
        intro H locs ls hP hD hS hl
        refine lv_istore (lv' := [(7, .int v104), (4, .int x103), (0, .ref (q1 100)), (1, .int x1), (2, .int x2), (3, .int x3), (5, .int x5), (6, .int x6)]) hx hb dX3_bakedByDoors_54 hl (by decide) rfl (fun ls hl => ?_)
        refine lv_iconst (v := (0 : Int32)) hx hb dX3_bakedByDoors_56 (by decide) ?_
        refine lv_iload hx hb dX3_bakedByDoors_57 (lv_at hl 6 rfl) ?_
        refine lv_aload_n hx hb dX3_bakedByDoors_59 rfl (lv_at hl 2 rfl) ?_
        refine k_get (ci := 3) (k := 3) (q0 := 0) (v := .int (S1.1 3)) (C := RX3) (T := TX3) (N := 11) hC uX3_bakedByDoors_X3 hP rfl rfl (by decide) (List.mem_of_getElem? (i := 8) rfl) rfl dX3_bakedByDoors_60 ?_
        refine lv_isub hx hb dX3_bakedByDoors_63 ?_
        refine lv_iload hx hb dX3_bakedByDoors_64 (lv_at hl 0 rfl) ?_
        refine lv_isub hx hb dX3_bakedByDoors_66 ?_
        refine va_mmax hx hb (hml.trans hl.1.symm) hown (hts _ (List.mem_of_getElem? (i := 3) rfl)) (hts _ (List.mem_of_getElem? (i := 4) rfl)) (hts _ (List.mem_of_getElem? (i := 5) rfl)) (hts _ (List.mem_of_getElem? (i := 6) rfl)) (Nat.le_of_ble_eq_true rfl) (Nat.le_of_ble_eq_true rfl) (Nat.zero_le _) (Nat.zero_le _) dX3_bakedByDoors_67 ?_
        refine k_topi h (fun x106 h => ?_)
        refine lv_istore (lv' := [(5, .int x106), (7, .int v104), (4, .int x103), (0, .ref (q1 100)), (1, .int x1), (2, .int x2), (3, .int x3), (6, .int x6)]) hx hb dX3_bakedByDoors_70 hl (by decide) rfl (fun ls hl => ?_)
        refine k_iinc (v := (1 : Int32)) (lv' := fun X => [(6, .int X), (5, .int x106), (7, .int v104), (4, .int x103), (0, .ref (q1 100)), (1, .int x1), (2, .int x2), (3, .int x3)]) hC dX3_bakedByDoors_72 hl (k := 7) rfl (by decide) (by decide) (fun _ => rfl) h (fun x107 h ls hl => ?_)
        refine lv_goto (tgt := 12) hx hb dX3_bakedByDoors_75 (by decide) ?_
        exact ih x103 x106 x107 o h _ _ _ hP hD hS (lv_sub hl [4, 5, 6, 7, 3, 1, 0] rfl) k0
      refine k_icmp_ne (tgt := 53) hC dX3_bakedByDoors_43 (by decide) hv105 (fun hv105 => ?_) (fun hv105 => ?_)
      · refine lv_iconst (v := (0 : Int32)) hx hb dX3_bakedByDoors_53 (by decide) ?_
        obtain rfl := fx_i1 hv105
        exact K108 _ _ _ hP hD hS (lv_sub hl [0, 1, 2, 3, 4, 5, 6] rfl)
      · refine lv_aload_n hx hb dX3_bakedByDoors_46 rfl (lv_at hl 1 rfl) ?_
        refine k_get (ci := 3) (k := 4) (q0 := 0) (v := .int (S1.1 4)) (C := RX3) (T := TX3) (N := 11) hC uX3_bakedByDoors_X3 hP rfl rfl (by decide) (List.mem_of_getElem? (i := 7) rfl) rfl dX3_bakedByDoors_47 ?_
        refine lv_goto (tgt := 54) hx hb dX3_bakedByDoors_50 (by decide) ?_
        obtain rfl := fx_i1 hv105
        exact K108 _ _ _ hP hD hS (lv_sub hl [0, 1, 2, 3, 4, 5, 6] rfl)
def f_X3_bakedByDoors (N : Nat) (S1 : St) (x1 : Int32) (x2 : Int32) (x3 : Int32) : Option (Int32) :=
  fx_b1 (fx_it (lf_X3_bakedByDoors_12 N x1 x2 x3 S1) N ((0 : Int32), (S1.1 2), (0 : Int32))) (fun x101 =>
  some x101)
set_option maxRecDepth 100000 in
set_option maxHeartbeats 4000000 in
theorem c_X3_bakedByDoors (l : Launch) (g : GG) (N : Nat) (q1 : Nat → Nat) (S1 : St) (x1 : Int32) (x2 : Int32) (x3 : Int32) (r : Int32) (h : f_X3_bakedByDoors N S1 x1 x2 x3 = some r) : Ci l yX3_bakedByDoors wsX3_bakedByDoors RM_X3_bakedByDoors g [.ref (q1 100), .int x1, .int x2, .int x3] (wX3 g q1 S1) (wX3 g q1 S1) r := by
  intro sz
  refine Met.ofC (cc := cX3_bakedByDoors) (maxL := 8) (ret := (some .int)) (by decide) rfl (Nat.le_of_ble_eq_true rfl) ?_
  intro p e s m below meth c hC hr hlk hsz A hA9 hA hP hD hS ls hl
  subst hsz
  have hC : Cx p s m ([.ref (q1 100), .int x1, .int x2, .int x3] : List Value).toArray c RX3 cX3_bakedByDoors 8 wsX3_bakedByDoors g := hC
  have hx := hC.1.1
  have hb := hC.1.2.1
  have hml := hC.1.2.2.1
  have hown := hC.1.2.2.2.1
  have hts := hC.1.2.2.2.2
  have hl : lv_has ls 8 [(0, .ref (q1 100)), (1, .int x1), (2, .int x2), (3, .int x3)] := hl
  show W p l e RM_X3_bakedByDoors s m ([.ref (q1 100), .int x1, .int x2, .int x3] : List Value).toArray below meth c s.heap [] 0 0 (Qi below g [.ref (q1 100), .int x1, .int x2, .int x3] (wX3 g q1 S1) (wX3 g q1 S1) r s) (F0 m 0 ls [])
  unfold f_X3_bakedByDoors at h
  refine lv_iconst (v := (0 : Int32)) hx hb dX3_bakedByDoors_0 (by decide) ?_
  refine lv_istore (lv' := [(4, .int (0 : Int32)), (0, .ref (q1 100)), (1, .int x1), (2, .int x2), (3, .int x3)]) hx hb dX3_bakedByDoors_1 hl (by decide) rfl (fun ls hl => ?_)
  refine lv_aload_n hx hb dX3_bakedByDoors_3 rfl (lv_at hl 1 rfl) ?_
  refine k_get (ci := 3) (k := 2) (q0 := 0) (v := .int (S1.1 2)) (C := RX3) (T := TX3) (N := 11) hC uX3_bakedByDoors_X3 hP rfl rfl (by decide) (List.mem_of_getElem? (i := 1) rfl) rfl dX3_bakedByDoors_4 ?_
  refine lv_istore (lv' := [(5, .int (S1.1 2)), (4, .int (0 : Int32)), (0, .ref (q1 100)), (1, .int x1), (2, .int x2), (3, .int x3)]) hx hb dX3_bakedByDoors_7 hl (by decide) rfl (fun ls hl => ?_)
  refine lv_iconst (v := (0 : Int32)) hx hb dX3_bakedByDoors_9 (by decide) ?_
  refine lv_istore (lv' := [(6, .int (0 : Int32)), (5, .int (S1.1 2)), (4, .int (0 : Int32)), (0, .ref (q1 100)), (1, .int x1), (2, .int x2), (3, .int x3)]) hx hb dX3_bakedByDoors_10 hl (by decide) rfl (fun ls hl => ?_)
  obtain ⟨x101, ho102, h⟩ := fx_b1_s h
  refine lw_X3_bakedByDoors_12 hC hA N q1 x1 x2 x3 S1 N (0 : Int32) (S1.1 2) (0 : Int32)  x101 ho102 _ _ _ hP hD hS (lv_sub hl [3, 4, 5, 6, 2, 1, 0] rfl) ?_
  · intro y0 he H locs ls hP hD hS hl
    obtain rfl := he
    refine lv_iload hx hb dX3_bakedByDoors_78 (lv_at hl 0 rfl) ?_
    obtain rfl := fx_i1 h
    exact Ci.ret hC hr hlk hA9 hP hD hS dX3_bakedByDoors_80
theorem uX4_firstFault_X4 : ∀ w ∈ u_ws RX4 TX4 2, w ∈ wsX4_firstFault := fun w h => List.mem_cons_of_mem _ (List.mem_append_right _ h)
abbrev RM_X4_firstFault : Room := { frames := 1, cells := 0, slots := 0, locals := 22 }
def bd_X4_firstFault_4 (N : Nat) (x1 : Int32) (S1 : St) (x2 : Int32) (x3 : Int32) (rec : (Int32 × Int32) → Option (Nat × Int32 × Int32)) : Option (Nat × Int32 × Int32) :=
  (if (S1.1 0) ≤ x3 then (
    some (2, x2, (0 : Int32))) else (
    fx_ald 60 (S1.2 1) x3 (fun v101 =>
      (if x2 = 0 then (
      fx_b1 (f_X7_within N v101 (48 : Int32) (((48 : Int32) + x1) - (1 : Int32))) (fun v102 =>
        (if v102 = 0 then (
        (if v101 = (46 : Int32) then (
          fx_lt (x3 + (1 : Int32)) (fun x103 =>
            rec (x2, x103))) else (
          (if v101 = (58 : Int32) then (
            fx_lt (x3 + (1 : Int32)) (fun x104 =>
              rec (x2, x104))) else (
            some (1, (0 : Int32), x3)))))) else (
        fx_lt (x3 + (1 : Int32)) (fun x105 =>
          rec ((1 : Int32), x105)))))) else (
      (if v101 = (45 : Int32) then (
        fx_lt (x3 + (1 : Int32)) (fun x107 =>
          rec ((0 : Int32), x107))) else (
        fx_b1 (f_X7_within N v101 (97 : Int32) (102 : Int32)) (fun v108 =>
          (if v108 = 0 then (
          some (0, (0 : Int32), x3)) else (
          fx_lt (x3 + (1 : Int32)) (fun x109 =>
            rec ((0 : Int32), x109))))))))))))
def lf_X4_firstFault_4 (N : Nat) (x1 : Int32) (S1 : St) : (Int32 × Int32) → ((Int32 × Int32) → Option (Nat × Int32 × Int32)) → Option (Nat × Int32 × Int32) := fun x rec => bd_X4_firstFault_4 N x1 S1 x.1 x.2 rec
set_option maxRecDepth 100000 in
set_option maxHeartbeats 4000000 in
theorem lw_X4_firstFault_4 {p : Program} {l : Launch} {e : Env} {s : State} {m : MethodId} {args : Array Value} {below : List Frame} {meth : Method} {c : Code} {Q : State → Prop} {A : Nat → Prop} {H0 : Heap} {g : GG} (hC : Cx p s m args c RX4 cX4_firstFault 5 wsX4_firstFault g) (hA : ∀ q : Nat, H0.size ≤ q → A q) (N : Nat) (q1 : Nat → Nat) (x1 : Int32) (S1 : St) : ∀ (n : Nat) (x2 : Int32) (x3 : Int32) (o : Nat × Int32 × Int32), fx_it (lf_X4_firstFault_4 N x1 S1) n (x2, x3) = some o → ∀ (H : Heap) (locs : List Loc) (ls : Array Slot), va_P g.1 vwCl (wX4 g q1 S1) H → va_D A (wX4 g q1 S1) → va_S A H0 H locs → lv_has ls 5 [(0, .ref (q1 100)), (1, .int x1), (2, .int x2), (3, .int x3)] → (∀ (z0 : Int32) (z1 : Int32), o = (0, z0, z1) → ∀ (H : Heap) (locs : List Loc) (ls : Array Slot), va_P g.1 vwCl (wX4 g q1 S1) H → va_D A (wX4 g q1 S1) → va_S A H0 H locs → lv_has ls 5 [(3, .int z1)] → W p l e RM_X4_firstFault s m args below meth c H locs 0 0 Q (F0 m 43 ls [])) → (∀ (z0 : Int32) (z1 : Int32), o = (1, z0, z1) → ∀ (H : Heap) (locs : List Loc) (ls : Array Slot), va_P g.1 vwCl (wX4 g q1 S1) H → va_D A (wX4 g q1 S1) → va_S A H0 H locs → lv_has ls 5 [(3, .int z1)] → W p l e RM_X4_firstFault s m args below meth c H locs 0 0 Q (F0 m 85 ls [])) → (∀ (z0 : Int32) (z1 : Int32), o = (2, z0, z1) → ∀ (H : Heap) (locs : List Loc) (ls : Array Slot), va_P g.1 vwCl (wX4 g q1 S1) H → va_D A (wX4 g q1 S1) → va_S A H0 H locs → lv_has ls 5 [(0, .ref (q1 100)), (2, .int z0)] → W p l e RM_X4_firstFault s m args below meth c H locs 0 0 Q (F0 m 93 ls [])) → W p l e RM_X4_firstFault s m args below meth c H locs 0 0 Q (F0 m 4 ls []) := by
  have hx := hC.1.1
  have hb := hC.1.2.1
  have hml := hC.1.2.2.1
  have hown := hC.1.2.2.2.1
  have hts := hC.1.2.2.2.2
  intro n
  induction n with
  | zero => intro x2 x3 o h; cases h
  | succ n ih =>
    intro x2 x3 o h H locs ls hP hD hS hl k0 k1 k2
    have h : bd_X4_firstFault_4 N x1 S1 x2 x3 (fx_it (lf_X4_firstFault_4 N x1 S1) n) = some o := h
    unfold bd_X4_firstFault_4 at h
    refine lv_iload_n hx hb dX4_firstFault_4 rfl (lv_at hl 3 rfl) ?_
    refine lv_aload_n hx hb dX4_firstFault_5 rfl (lv_at hl 0 rfl) ?_
    refine k_get (ci := 4) (k := 0) (q0 := 0) (v := .int (S1.1 0)) (C := RX4) (T := TX4) (N := 2) hC uX4_firstFault_X4 hP rfl rfl (by decide) (List.mem_of_getElem? (i := 1) rfl) rfl dX4_firstFault_6 ?_
    refine k_icmp_ge (tgt := 93) hC dX4_firstFault_9 (by decide) h (fun h => ?_) (fun h => ?_)
    · exact k2 x2 (0 : Int32) (Option.some.inj h).symm _ _ _ hP hD hS (lv_sub hl [0, 2] rfl)
    · refine lv_aload_n hx hb dX4_firstFault_12 rfl (lv_at hl 0 rfl) ?_
      refine k_get (ci := 4) (k := 1) (q0 := 0) (v := .ref (q1 1)) (C := RX4) (T := TX4) (N := 2) hC uX4_firstFault_X4 hP rfl rfl (by decide) (List.mem_of_getElem? (i := 2) rfl) rfl dX4_firstFault_13 ?_
      refine lv_iload_n hx hb dX4_firstFault_16 rfl (lv_at hl 3 rfl) ?_
      refine k_ald (q0 := 1) (n := 60) (F := S1.2 1) hC hP rfl dX4_firstFault_17 h (fun v101 h => ?_)
      refine lv_istore (lv' := [(4, .int v101), (0, .ref (q1 100)), (1, .int x1), (2, .int x2), (3, .int x3)]) hx hb dX4_firstFault_18 hl (by decide) rfl (fun ls hl => ?_)
      refine lv_iload_n hx hb dX4_firstFault_20 rfl (lv_at hl 3 rfl) ?_
      refine k_if_eq (tgt := 50) hC dX4_firstFault_21 (by decide) h (fun h => ?_) (fun h => ?_)
      · refine lv_iload hx hb dX4_firstFault_50 (lv_at hl 0 rfl) ?_
        refine lv_bipush (v := (48 : Int32)) hx hb dX4_firstFault_52 (by decide) ?_
        refine lv_bipush (v := (48 : Int32)) hx hb dX4_firstFault_54 (by decide) ?_
        refine lv_iload_n hx hb dX4_firstFault_56 rfl (lv_at hl 2 rfl) ?_
        refine lv_iadd hx hb dX4_firstFault_57 ?_
        refine lv_iconst (v := (1 : Int32)) hx hb dX4_firstFault_58 (by decide) ?_
        refine lv_isub hx hb dX4_firstFault_59 ?_
        obtain ⟨v102, hc106, h⟩ := fx_b1_s h
        refine k_callNi0 (n := 3) (As := [.int v101, .int (48 : Int32), .int (((48 : Int32) + x1) - (1 : Int32))]) (rest := []) (wc := ([] : va_W)) (bytes := cX7_within) (maxL := 3) (ret := (some .boolean)) hC hl.1 (c_X7_within l g N v101 (48 : Int32) (((48 : Int32) + x1) - (1 : Int32)) v102 hc106) rfl gX4_firstFault_X7_within_n19 (List.mem_of_getElem? (i := 10) rfl) (List.mem_of_getElem? (i := 4) rfl) (List.mem_of_getElem? (i := 3) rfl) (by decide +kernel) ⟨Nat.le_of_ble_eq_true rfl, Nat.le_of_ble_eq_true rfl⟩ rfl rfl rfl (Nat.le_of_ble_eq_true rfl) ⟨Nat.le_of_ble_eq_true rfl, Nat.le_of_ble_eq_true rfl⟩ dX4_firstFault_60 hP hD hS hA [] rfl (by decide +kernel) (fun H locs hP hD hS => ?_)
        refine k_if_eq (tgt := 71) hC dX4_firstFault_63 (by decide) h (fun h => ?_) (fun h => ?_)
        · refine lv_iload hx hb dX4_firstFault_71 (lv_at hl 0 rfl) ?_
          refine lv_bipush (v := (46 : Int32)) hx hb dX4_firstFault_73 (by decide) ?_
          refine k_icmp_eq (tgt := 87) hC dX4_firstFault_75 (by decide) h (fun h => ?_) (fun h => ?_)
          · refine k_iinc (v := (1 : Int32)) (lv' := fun X => [(3, .int X), (4, .int v101), (0, .ref (q1 100)), (1, .int x1), (2, .int x2)]) hC dX4_firstFault_87 hl (k := 4) rfl (by decide) (by decide) (fun _ => rfl) h (fun x103 h ls hl => ?_)
            refine lv_goto (tgt := 4) hx hb dX4_firstFault_90 (by decide) ?_
            exact ih x2 x103 o h _ _ _ hP hD hS (lv_sub hl [2, 3, 4, 0] rfl) k0 k1 k2
          · refine lv_iload hx hb dX4_firstFault_78 (lv_at hl 0 rfl) ?_
            refine lv_bipush (v := (58 : Int32)) hx hb dX4_firstFault_80 (by decide) ?_
            refine k_icmp_eq (tgt := 87) hC dX4_firstFault_82 (by decide) h (fun h => ?_) (fun h => ?_)
            · refine k_iinc (v := (1 : Int32)) (lv' := fun X => [(3, .int X), (4, .int v101), (0, .ref (q1 100)), (1, .int x1), (2, .int x2)]) hC dX4_firstFault_87 hl (k := 4) rfl (by decide) (by decide) (fun _ => rfl) h (fun x104 h ls hl => ?_)
              refine lv_goto (tgt := 4) hx hb dX4_firstFault_90 (by decide) ?_
              exact ih x2 x104 o h _ _ _ hP hD hS (lv_sub hl [2, 3, 4, 0] rfl) k0 k1 k2
            · exact k1 (0 : Int32) x3 (Option.some.inj h).symm _ _ _ hP hD hS (lv_sub hl [4] rfl)
        · refine lv_iconst (v := (1 : Int32)) hx hb dX4_firstFault_66 (by decide) ?_
          refine lv_istore_n (lv' := [(2, .int (1 : Int32)), (4, .int v101), (0, .ref (q1 100)), (1, .int x1), (3, .int x3)]) hx hb dX4_firstFault_67 rfl hl (by decide) rfl (fun ls hl => ?_)
          refine lv_goto (tgt := 87) hx hb dX4_firstFault_68 (by decide) ?_
          refine k_iinc (v := (1 : Int32)) (lv' := fun X => [(3, .int X), (2, .int (1 : Int32)), (4, .int v101), (0, .ref (q1 100)), (1, .int x1)]) hC dX4_firstFault_87 hl (k := 4) rfl (by decide) (by decide) (fun _ => rfl) h (fun x105 h ls hl => ?_)
          refine lv_goto (tgt := 4) hx hb dX4_firstFault_90 (by decide) ?_
          exact ih (1 : Int32) x105 o h _ _ _ hP hD hS (lv_sub hl [3, 4, 1, 0] rfl) k0 k1 k2
      · refine lv_iload hx hb dX4_firstFault_24 (lv_at hl 0 rfl) ?_
        refine lv_bipush (v := (45 : Int32)) hx hb dX4_firstFault_26 (by decide) ?_
        refine k_icmp_eq (tgt := 45) hC dX4_firstFault_28 (by decide) h (fun h => ?_) (fun h => ?_)
        · refine lv_iconst (v := (0 : Int32)) hx hb dX4_firstFault_45 (by decide) ?_
          refine lv_istore_n (lv' := [(2, .int (0 : Int32)), (4, .int v101), (0, .ref (q1 100)), (1, .int x1), (3, .int x3)]) hx hb dX4_firstFault_46 rfl hl (by decide) rfl (fun ls hl => ?_)
          refine lv_goto (tgt := 87) hx hb dX4_firstFault_47 (by decide) ?_
          refine k_iinc (v := (1 : Int32)) (lv' := fun X => [(3, .int X), (2, .int (0 : Int32)), (4, .int v101), (0, .ref (q1 100)), (1, .int x1)]) hC dX4_firstFault_87 hl (k := 4) rfl (by decide) (by decide) (fun _ => rfl) h (fun x107 h ls hl => ?_)
          refine lv_goto (tgt := 4) hx hb dX4_firstFault_90 (by decide) ?_
          exact ih (0 : Int32) x107 o h _ _ _ hP hD hS (lv_sub hl [3, 4, 1, 0] rfl) k0 k1 k2
        · refine lv_iload hx hb dX4_firstFault_31 (lv_at hl 0 rfl) ?_
          refine lv_bipush (v := (97 : Int32)) hx hb dX4_firstFault_33 (by decide) ?_
          refine lv_bipush (v := (102 : Int32)) hx hb dX4_firstFault_35 (by decide) ?_
          obtain ⟨v108, hc110, h⟩ := fx_b1_s h
          refine k_callNi0 (n := 3) (As := [.int v101, .int (97 : Int32), .int (102 : Int32)]) (rest := []) (wc := ([] : va_W)) (bytes := cX7_within) (maxL := 3) (ret := (some .boolean)) hC hl.1 (c_X7_within l g N v101 (97 : Int32) (102 : Int32) v108 hc110) rfl gX4_firstFault_X7_within_n19 (List.mem_of_getElem? (i := 10) rfl) (List.mem_of_getElem? (i := 4) rfl) (List.mem_of_getElem? (i := 3) rfl) (by decide +kernel) ⟨Nat.le_of_ble_eq_true rfl, Nat.le_of_ble_eq_true rfl⟩ rfl rfl rfl (Nat.le_of_ble_eq_true rfl) ⟨Nat.le_of_ble_eq_true rfl, Nat.le_of_ble_eq_true rfl⟩ dX4_firstFault_37 hP hD hS hA [] rfl (by decide +kernel) (fun H locs hP hD hS => ?_)
          refine k_if_ne (tgt := 45) hC dX4_firstFault_40 (by decide) h (fun h => ?_) (fun h => ?_)
          · refine lv_iconst (v := (0 : Int32)) hx hb dX4_firstFault_45 (by decide) ?_
            refine lv_istore_n (lv' := [(2, .int (0 : Int32)), (4, .int v101), (0, .ref (q1 100)), (1, .int x1), (3, .int x3)]) hx hb dX4_firstFault_46 rfl hl (by decide) rfl (fun ls hl => ?_)
            refine lv_goto (tgt := 87) hx hb dX4_firstFault_47 (by decide) ?_
            refine k_iinc (v := (1 : Int32)) (lv' := fun X => [(3, .int X), (2, .int (0 : Int32)), (4, .int v101), (0, .ref (q1 100)), (1, .int x1)]) hC dX4_firstFault_87 hl (k := 4) rfl (by decide) (by decide) (fun _ => rfl) h (fun x109 h ls hl => ?_)
            refine lv_goto (tgt := 4) hx hb dX4_firstFault_90 (by decide) ?_
            exact ih (0 : Int32) x109 o h _ _ _ hP hD hS (lv_sub hl [3, 4, 1, 0] rfl) k0 k1 k2
          · exact k0 (0 : Int32) x3 (Option.some.inj h).symm _ _ _ hP hD hS (lv_sub hl [4] rfl)
def f_X4_firstFault (N : Nat) (S1 : St) (x1 : Int32) : Option (Int32) :=
  fx_b3 (fx_it (lf_X4_firstFault_4 N x1 S1) N ((0 : Int32), (0 : Int32))) (fun t101 x102 x103 =>
  fx_t3 t101 (some x103) (some x103) ((if x102 = 0 then (
    some (-6 : Int32)) else (
    some (S1.1 0)))))
set_option maxRecDepth 100000 in
set_option maxHeartbeats 4000000 in
theorem c_X4_firstFault (l : Launch) (g : GG) (N : Nat) (q1 : Nat → Nat) (S1 : St) (x1 : Int32) (r : Int32) (h : f_X4_firstFault N S1 x1 = some r) : Ci l yX4_firstFault wsX4_firstFault RM_X4_firstFault g [.ref (q1 100), .int x1] (wX4 g q1 S1) (wX4 g q1 S1) r := by
  intro sz
  refine Met.ofC (cc := cX4_firstFault) (maxL := 5) (ret := (some .int)) (by decide) rfl (Nat.le_of_ble_eq_true rfl) ?_
  intro p e s m below meth c hC hr hlk hsz A hA9 hA hP hD hS ls hl
  subst hsz
  have hC : Cx p s m ([.ref (q1 100), .int x1] : List Value).toArray c RX4 cX4_firstFault 5 wsX4_firstFault g := hC
  have hx := hC.1.1
  have hb := hC.1.2.1
  have hml := hC.1.2.2.1
  have hown := hC.1.2.2.2.1
  have hts := hC.1.2.2.2.2
  have hl : lv_has ls 5 [(0, .ref (q1 100)), (1, .int x1)] := hl
  show W p l e RM_X4_firstFault s m ([.ref (q1 100), .int x1] : List Value).toArray below meth c s.heap [] 0 0 (Qi below g [.ref (q1 100), .int x1] (wX4 g q1 S1) (wX4 g q1 S1) r s) (F0 m 0 ls [])
  unfold f_X4_firstFault at h
  refine lv_iconst (v := (0 : Int32)) hx hb dX4_firstFault_0 (by decide) ?_
  refine lv_istore_n (lv' := [(2, .int (0 : Int32)), (0, .ref (q1 100)), (1, .int x1)]) hx hb dX4_firstFault_1 rfl hl (by decide) rfl (fun ls hl => ?_)
  refine lv_iconst (v := (0 : Int32)) hx hb dX4_firstFault_2 (by decide) ?_
  refine lv_istore_n (lv' := [(3, .int (0 : Int32)), (2, .int (0 : Int32)), (0, .ref (q1 100)), (1, .int x1)]) hx hb dX4_firstFault_3 rfl hl (by decide) rfl (fun ls hl => ?_)
  obtain ⟨t101, x102, x103, ho104, h⟩ := fx_b3_s h
  refine lw_X4_firstFault_4 hC hA N q1 x1 S1 N (0 : Int32) (0 : Int32)  (t101, x102, x103) ho104 _ _ _ hP hD hS (lv_sub hl [2, 3, 1, 0] rfl) ?_ ?_ ?_
  · intro y0 y1 he H locs ls hP hD hS hl
    obtain ⟨rfl, rfl, rfl⟩ := fx_j3 he
    have h := fx_tg3_0 h
    refine lv_iload_n hx hb dX4_firstFault_43 rfl (lv_at hl 0 rfl) ?_
    obtain rfl := fx_i1 h
    exact Ci.ret hC hr hlk hA9 hP hD hS dX4_firstFault_44
  · intro y0 y1 he H locs ls hP hD hS hl
    obtain ⟨rfl, rfl, rfl⟩ := fx_j3 he
    have h := fx_tg3_1 h
    refine lv_iload_n hx hb dX4_firstFault_85 rfl (lv_at hl 0 rfl) ?_
    obtain rfl := fx_i1 h
    exact Ci.ret hC hr hlk hA9 hP hD hS dX4_firstFault_86
  · intro y0 y1 he H locs ls hP hD hS hl
    obtain ⟨rfl, rfl, rfl⟩ := fx_j3 he
    have h := fx_tg3_2 h
    refine lv_iload_n hx hb dX4_firstFault_93 rfl (lv_at hl 1 rfl) ?_
    refine k_if_eq (tgt := 104) hC dX4_firstFault_94 (by decide) h (fun h => ?_) (fun h => ?_)
    · refine lv_bipush (v := (-6 : Int32)) hx hb dX4_firstFault_104 (by decide) ?_
      obtain rfl := fx_i1 h
      exact Ci.ret hC hr hlk hA9 hP hD hS dX4_firstFault_106
    · refine lv_aload_n hx hb dX4_firstFault_97 rfl (lv_at hl 0 rfl) ?_
      refine k_get (ci := 4) (k := 0) (q0 := 0) (v := .int (S1.1 0)) (C := RX4) (T := TX4) (N := 2) hC uX4_firstFault_X4 hP rfl rfl (by decide) (List.mem_of_getElem? (i := 1) rfl) rfl dX4_firstFault_98 ?_
      refine lv_goto (tgt := 106) hx hb dX4_firstFault_101 (by decide) ?_
      obtain rfl := fx_i1 h
      exact Ci.ret hC hr hlk hA9 hP hD hS dX4_firstFault_106
theorem uX6_tellApart_X6 : ∀ w ∈ u_ws RX6 TX6 5, w ∈ wsX6_tellApart := fun w h => List.mem_cons_of_mem _ (List.mem_append_right _ h)
abbrev RM_X6_tellApart : Room := { frames := 0, cells := 0, slots := 0, locals := 0 }
def f_X6_tellApart (N : Nat) (S1 : St) (x1 : Int32) (x2 : Int32) (x3 : Int32) : Option (St) :=
  (if x3 = 0 then (
  fx_ald 6 (S1.2 4) x1 (fun v101 =>
    fx_ast 6 S1 4 x1 (v101 &&& (((1 : Int32) <<< (x2 &&& 31)) ^^^ (-1 : Int32))) (fun S102 =>
    fx_ald 6 (S102.2 4) x2 (fun v103 =>
    fx_ast 6 S102 4 x2 (v103 &&& (((1 : Int32) <<< (x1 &&& 31)) ^^^ (-1 : Int32))) (fun S104 =>
    some S104))))) else (
  fx_ald 6 (S1.2 4) x1 (fun v105 =>
    fx_ast 6 S1 4 x1 (v105 ||| ((1 : Int32) <<< (x2 &&& 31))) (fun S106 =>
    fx_ald 6 (S106.2 4) x2 (fun v107 =>
    fx_ast 6 S106 4 x2 (v107 ||| ((1 : Int32) <<< (x1 &&& 31))) (fun S108 =>
    some S108))))))
set_option maxRecDepth 100000 in
set_option maxHeartbeats 4000000 in
theorem c_X6_tellApart (l : Launch) (g : GG) (N : Nat) (q1 : Nat → Nat) (S1 : St) (x1 : Int32) (x2 : Int32) (x3 : Int32) (F1 : St) (h : f_X6_tellApart N S1 x1 x2 x3 = some F1) : Cv l yX6_tellApart wsX6_tellApart RM_X6_tellApart g [.ref (q1 100), .int x1, .int x2, .int x3] (wX6 g q1 S1) (wX6 g q1 F1) := by
  intro sz
  refine Met.ofC (cc := cX6_tellApart) (maxL := 4) (ret := none) (by decide) rfl (Nat.le_of_ble_eq_true rfl) ?_
  intro p e s m below meth c hC hr hlk hsz A hA9 hA hP hD hS ls hl
  subst hsz
  have hC : Cx p s m ([.ref (q1 100), .int x1, .int x2, .int x3] : List Value).toArray c RX6 cX6_tellApart 4 wsX6_tellApart g := hC
  have hx := hC.1.1
  have hb := hC.1.2.1
  have hml := hC.1.2.2.1
  have hown := hC.1.2.2.2.1
  have hts := hC.1.2.2.2.2
  have hl : lv_has ls 4 [(0, .ref (q1 100)), (1, .int x1), (2, .int x2), (3, .int x3)] := hl
  show W p l e RM_X6_tellApart s m ([.ref (q1 100), .int x1, .int x2, .int x3] : List Value).toArray below meth c s.heap [] 0 0 (Qv below g [.ref (q1 100), .int x1, .int x2, .int x3] (wX6 g q1 S1) (wX6 g q1 F1) s) (F0 m 0 ls [])
  unfold f_X6_tellApart at h
  refine lv_iload_n hx hb dX6_tellApart_0 rfl (lv_at hl 3 rfl) ?_
  refine k_if_eq (tgt := 31) hC dX6_tellApart_1 (by decide) h (fun h => ?_) (fun h => ?_)
  · refine lv_aload_n hx hb dX6_tellApart_31 rfl (lv_at hl 0 rfl) ?_
    refine k_get (ci := 6) (k := 4) (q0 := 0) (v := .ref (q1 4)) (C := RX6) (T := TX6) (N := 5) hC uX6_tellApart_X6 hP rfl rfl (by decide) (List.mem_of_getElem? (i := 1) rfl) rfl dX6_tellApart_32 ?_
    refine lv_iload_n hx hb dX6_tellApart_35 rfl (lv_at hl 1 rfl) ?_
    refine lv_dup2_11 hx hb dX6_tellApart_36 rfl rfl ?_
    refine k_ald (q0 := 4) (n := 6) (F := S1.2 4) hC hP rfl dX6_tellApart_37 h (fun v101 h => ?_)
    refine lv_iconst (v := (1 : Int32)) hx hb dX6_tellApart_38 (by decide) ?_
    refine lv_iload_n hx hb dX6_tellApart_39 rfl (lv_at hl 2 rfl) ?_
    refine lv_ishl hx hb dX6_tellApart_40 ?_
    refine lv_iconst (v := (-1 : Int32)) hx hb dX6_tellApart_41 (by decide) ?_
    refine lv_ixor hx hb dX6_tellApart_42 ?_
    refine lv_iand hx hb dX6_tellApart_43 ?_
    refine k_ast (q0 := 4) (n := 6) (k := 4) (S := S1) (fun S => (wX6 g q1 S)) hC hP hD hS rfl (fun _ => rfl) dX6_tellApart_44 h (fun S102 h H locs hP hD hS => ?_)
    refine lv_aload_n hx hb dX6_tellApart_45 rfl (lv_at hl 0 rfl) ?_
    refine k_get (ci := 6) (k := 4) (q0 := 0) (v := .ref (q1 4)) (C := RX6) (T := TX6) (N := 5) hC uX6_tellApart_X6 hP rfl rfl (by decide) (List.mem_of_getElem? (i := 1) rfl) rfl dX6_tellApart_46 ?_
    refine lv_iload_n hx hb dX6_tellApart_49 rfl (lv_at hl 2 rfl) ?_
    refine lv_dup2_11 hx hb dX6_tellApart_50 rfl rfl ?_
    refine k_ald (q0 := 4) (n := 6) (F := S102.2 4) hC hP rfl dX6_tellApart_51 h (fun v103 h => ?_)
    refine lv_iconst (v := (1 : Int32)) hx hb dX6_tellApart_52 (by decide) ?_
    refine lv_iload_n hx hb dX6_tellApart_53 rfl (lv_at hl 1 rfl) ?_
    refine lv_ishl hx hb dX6_tellApart_54 ?_
    refine lv_iconst (v := (-1 : Int32)) hx hb dX6_tellApart_55 (by decide) ?_
    refine lv_ixor hx hb dX6_tellApart_56 ?_
    refine lv_iand hx hb dX6_tellApart_57 ?_
    refine k_ast (q0 := 4) (n := 6) (k := 4) (S := S102) (fun S => (wX6 g q1 S)) hC hP hD hS rfl (fun _ => rfl) dX6_tellApart_58 h (fun S104 h H locs hP hD hS => ?_)
    obtain rfl := fx_i1 h
    exact Cv.ret hC hr hlk hA9 hP hD hS dX6_tellApart_59
  · refine lv_aload_n hx hb dX6_tellApart_4 rfl (lv_at hl 0 rfl) ?_
    refine k_get (ci := 6) (k := 4) (q0 := 0) (v := .ref (q1 4)) (C := RX6) (T := TX6) (N := 5) hC uX6_tellApart_X6 hP rfl rfl (by decide) (List.mem_of_getElem? (i := 1) rfl) rfl dX6_tellApart_5 ?_
    refine lv_iload_n hx hb dX6_tellApart_8 rfl (lv_at hl 1 rfl) ?_
    refine lv_dup2_11 hx hb dX6_tellApart_9 rfl rfl ?_
    refine k_ald (q0 := 4) (n := 6) (F := S1.2 4) hC hP rfl dX6_tellApart_10 h (fun v105 h => ?_)
    refine lv_iconst (v := (1 : Int32)) hx hb dX6_tellApart_11 (by decide) ?_
    refine lv_iload_n hx hb dX6_tellApart_12 rfl (lv_at hl 2 rfl) ?_
    refine lv_ishl hx hb dX6_tellApart_13 ?_
    refine lv_ior hx hb dX6_tellApart_14 ?_
    refine k_ast (q0 := 4) (n := 6) (k := 4) (S := S1) (fun S => (wX6 g q1 S)) hC hP hD hS rfl (fun _ => rfl) dX6_tellApart_15 h (fun S106 h H locs hP hD hS => ?_)
    refine lv_aload_n hx hb dX6_tellApart_16 rfl (lv_at hl 0 rfl) ?_
    refine k_get (ci := 6) (k := 4) (q0 := 0) (v := .ref (q1 4)) (C := RX6) (T := TX6) (N := 5) hC uX6_tellApart_X6 hP rfl rfl (by decide) (List.mem_of_getElem? (i := 1) rfl) rfl dX6_tellApart_17 ?_
    refine lv_iload_n hx hb dX6_tellApart_20 rfl (lv_at hl 2 rfl) ?_
    refine lv_dup2_11 hx hb dX6_tellApart_21 rfl rfl ?_
    refine k_ald (q0 := 4) (n := 6) (F := S106.2 4) hC hP rfl dX6_tellApart_22 h (fun v107 h => ?_)
    refine lv_iconst (v := (1 : Int32)) hx hb dX6_tellApart_23 (by decide) ?_
    refine lv_iload_n hx hb dX6_tellApart_24 rfl (lv_at hl 1 rfl) ?_
    refine lv_ishl hx hb dX6_tellApart_25 ?_
    refine lv_ior hx hb dX6_tellApart_26 ?_
    refine k_ast (q0 := 4) (n := 6) (k := 4) (S := S106) (fun S => (wX6 g q1 S)) hC hP hD hS rfl (fun _ => rfl) dX6_tellApart_27 h (fun S108 h H locs hP hD hS => ?_)
    refine lv_goto (tgt := 59) hx hb dX6_tellApart_28 (by decide) ?_
    obtain rfl := fx_i1 h
    exact Cv.ret hC hr hlk hA9 hP hD hS dX6_tellApart_59
theorem uX6_tellOf_X6 : ∀ w ∈ u_ws RX6 TX6 5, w ∈ wsX6_tellOf := fun w h => List.mem_cons_of_mem _ (List.mem_append_right _ h)
abbrev RM_X6_tellOf : Room := { frames := 3, cells := 0, slots := 0, locals := 63 }
def f_X6_tellOf (N : Nat) (S1 : St) (x1 : Int32) (x2 : Int32) : Option (Int32) :=
  fx_b1 (f_X6_has N S1 x1) (fun v101 =>
  (if v101 = 0 then (
  some (-2 : Int32)) else (
  (if x2 = (0 : Int32) then (fx_ald 6 (S1.2 1) x1 (fun v102 =>
      some v102)) else (if x2 = (1 : Int32) then (fx_ald 6 (S1.2 2) x1 (fun v103 =>
      some v103)) else (if x2 = (2 : Int32) then (fx_ald 6 (S1.2 3) x1 (fun v104 =>
      some v104)) else (if x2 = (3 : Int32) then (fx_ald 6 (S1.2 4) x1 (fun v105 =>
      some v105)) else (some (-2 : Int32)))))))))
set_option maxRecDepth 100000 in
set_option maxHeartbeats 4000000 in
theorem c_X6_tellOf (l : Launch) (g : GG) (N : Nat) (q1 : Nat → Nat) (S1 : St) (x1 : Int32) (x2 : Int32) (r : Int32) (h : f_X6_tellOf N S1 x1 x2 = some r) : Ci l yX6_tellOf wsX6_tellOf RM_X6_tellOf g [.ref (q1 100), .int x1, .int x2] (wX6 g q1 S1) (wX6 g q1 S1) r := by
  intro sz
  refine Met.ofC (cc := cX6_tellOf) (maxL := 3) (ret := (some .int)) (by decide) rfl (Nat.le_of_ble_eq_true rfl) ?_
  intro p e s m below meth c hC hr hlk hsz A hA9 hA hP hD hS ls hl
  subst hsz
  have hC : Cx p s m ([.ref (q1 100), .int x1, .int x2] : List Value).toArray c RX6 cX6_tellOf 3 wsX6_tellOf g := hC
  have hx := hC.1.1
  have hb := hC.1.2.1
  have hml := hC.1.2.2.1
  have hown := hC.1.2.2.2.1
  have hts := hC.1.2.2.2.2
  have hl : lv_has ls 3 [(0, .ref (q1 100)), (1, .int x1), (2, .int x2)] := hl
  show W p l e RM_X6_tellOf s m ([.ref (q1 100), .int x1, .int x2] : List Value).toArray below meth c s.heap [] 0 0 (Qi below g [.ref (q1 100), .int x1, .int x2] (wX6 g q1 S1) (wX6 g q1 S1) r s) (F0 m 0 ls [])
  unfold f_X6_tellOf at h
  refine lv_aload_n hx hb dX6_tellOf_0 rfl (lv_at hl 0 rfl) ?_
  refine lv_iload_n hx hb dX6_tellOf_1 rfl (lv_at hl 1 rfl) ?_
  obtain ⟨v101, hc106, h⟩ := fx_b1_s h
  refine k_callVi0 (C := RX6) (ci := 6) (qr := 0) (n := 1) (As := [.int x1]) (rest := []) (wc := (wX6 g q1 S1)) (bytes := cX6_has) (maxL := 2) (ret := (some .boolean)) hC hl.1 (c_X6_has l g N q1 S1 x1 v101 hc106) rfl gX6_tellOf_X6_has (by decide +kernel) rfl rfl ⟨Nat.le_of_ble_eq_true rfl, Nat.le_of_ble_eq_true rfl⟩ rfl rfl rfl (Nat.le_of_ble_eq_true rfl) ⟨Nat.le_of_ble_eq_true rfl, Nat.le_of_ble_eq_true rfl⟩ dX6_tellOf_2 hP hD hS hA [0, 1, 2, 3, 4] rfl (by decide +kernel) (fun H locs hP hD hS => ?_)
  refine k_if_ne (tgt := 11) hC dX6_tellOf_5 (by decide) h (fun h => ?_) (fun h => ?_)
  · refine lv_iload_n hx hb dX6_tellOf_11 rfl (lv_at hl 2 rfl) ?_
    by_cases c_12_0 : x2 = (0 : Int32)
    · have h := fx_ifp c_12_0 h
      refine k_eqi c_12_0 ?_
      refine lv_tableIn (tgt := 44) hx hb dX6_tellOf_12 (by decide) (by decide) rfl (by decide) ?_
      refine lv_aload_n hx hb dX6_tellOf_44 rfl (lv_at hl 0 rfl) ?_
      refine k_get (ci := 6) (k := 1) (q0 := 0) (v := .ref (q1 1)) (C := RX6) (T := TX6) (N := 5) hC uX6_tellOf_X6 hP rfl rfl (by decide) (List.mem_of_getElem? (i := 1) rfl) rfl dX6_tellOf_45 ?_
      refine lv_iload_n hx hb dX6_tellOf_48 rfl (lv_at hl 1 rfl) ?_
      refine k_ald (q0 := 1) (n := 6) (F := S1.2 1) hC hP rfl dX6_tellOf_49 h (fun v102 h => ?_)
      obtain rfl := fx_i1 h
      exact Ci.ret hC hr hlk hA9 hP hD hS dX6_tellOf_50
    have h := fx_ifn c_12_0 h
    by_cases c_12_1 : x2 = (1 : Int32)
    · have h := fx_ifp c_12_1 h
      refine k_eqi c_12_1 ?_
      refine lv_tableIn (tgt := 51) hx hb dX6_tellOf_12 (by decide) (by decide) rfl (by decide) ?_
      refine lv_aload_n hx hb dX6_tellOf_51 rfl (lv_at hl 0 rfl) ?_
      refine k_get (ci := 6) (k := 2) (q0 := 0) (v := .ref (q1 2)) (C := RX6) (T := TX6) (N := 5) hC uX6_tellOf_X6 hP rfl rfl (by decide) (List.mem_of_getElem? (i := 2) rfl) rfl dX6_tellOf_52 ?_
      refine lv_iload_n hx hb dX6_tellOf_55 rfl (lv_at hl 1 rfl) ?_
      refine k_ald (q0 := 2) (n := 6) (F := S1.2 2) hC hP rfl dX6_tellOf_56 h (fun v103 h => ?_)
      obtain rfl := fx_i1 h
      exact Ci.ret hC hr hlk hA9 hP hD hS dX6_tellOf_57
    have h := fx_ifn c_12_1 h
    by_cases c_12_2 : x2 = (2 : Int32)
    · have h := fx_ifp c_12_2 h
      refine k_eqi c_12_2 ?_
      refine lv_tableIn (tgt := 58) hx hb dX6_tellOf_12 (by decide) (by decide) rfl (by decide) ?_
      refine lv_aload_n hx hb dX6_tellOf_58 rfl (lv_at hl 0 rfl) ?_
      refine k_get (ci := 6) (k := 3) (q0 := 0) (v := .ref (q1 3)) (C := RX6) (T := TX6) (N := 5) hC uX6_tellOf_X6 hP rfl rfl (by decide) (List.mem_of_getElem? (i := 3) rfl) rfl dX6_tellOf_59 ?_
      refine lv_iload_n hx hb dX6_tellOf_62 rfl (lv_at hl 1 rfl) ?_
      refine k_ald (q0 := 3) (n := 6) (F := S1.2 3) hC hP rfl dX6_tellOf_63 h (fun v104 h => ?_)
      obtain rfl := fx_i1 h
      exact Ci.ret hC hr hlk hA9 hP hD hS dX6_tellOf_64
    have h := fx_ifn c_12_2 h
    by_cases c_12_3 : x2 = (3 : Int32)
    · have h := fx_ifp c_12_3 h
      refine k_eqi c_12_3 ?_
      refine lv_tableIn (tgt := 65) hx hb dX6_tellOf_12 (by decide) (by decide) rfl (by decide) ?_
      refine lv_aload_n hx hb dX6_tellOf_65 rfl (lv_at hl 0 rfl) ?_
      refine k_get (ci := 6) (k := 4) (q0 := 0) (v := .ref (q1 4)) (C := RX6) (T := TX6) (N := 5) hC uX6_tellOf_X6 hP rfl rfl (by decide) (List.mem_of_getElem? (i := 4) rfl) rfl dX6_tellOf_66 ?_
      refine lv_iload_n hx hb dX6_tellOf_69 rfl (lv_at hl 1 rfl) ?_
      refine k_ald (q0 := 4) (n := 6) (F := S1.2 4) hC hP rfl dX6_tellOf_70 h (fun v105 h => ?_)
      obtain rfl := fx_i1 h
      exact Ci.ret hC hr hlk hA9 hP hD hS dX6_tellOf_71
    have h := fx_ifn c_12_3 h
    refine lv_tableOut (tgt := 72) hx hb dX6_tellOf_12 (fx_swo3 c_12_0 c_12_1 c_12_2 c_12_3) (by decide) ?_
    refine lv_bipush (v := (-2 : Int32)) hx hb dX6_tellOf_72 (by decide) ?_
    obtain rfl := fx_i1 h
    exact Ci.ret hC hr hlk hA9 hP hD hS dX6_tellOf_74
  · refine lv_bipush (v := (-2 : Int32)) hx hb dX6_tellOf_8 (by decide) ?_
    obtain rfl := fx_i1 h
    exact Ci.ret hC hr hlk hA9 hP hD hS dX6_tellOf_10
