/-! laid by wip/whole/gen.py out of the printed names and instructions: what each method does (f_), and that its bytecode does it (c_) -/
abbrev RM_X8_in : Room := { frames := 0, cells := 0, slots := 0, locals := 0 }
def f_X8_in (N : Nat) (x0 : Int64) (x2 : Int64) (x4 : Int64) : Option (Int32) :=
  (if (lg_cmp x0 x2) < 0 then (
  some (0 : Int32)) else (
  (if 0 < (lg_cmp x0 x4) then (
    some (0 : Int32)) else (
    some (1 : Int32)))))
set_option maxRecDepth 100000 in
set_option maxHeartbeats 4000000 in
theorem c_X8_in (l : Launch) (g : GG) (N : Nat) (x0 : Int64) (x2 : Int64) (x4 : Int64) (r : Int32) (h : f_X8_in N x0 x2 x4 = some r) : Ci l yX8_in wsX8_in RM_X8_in g [.long x0, .long x2, .long x4] ([] : va_W) ([] : va_W) r := by
  intro sz
  refine Met.ofC (cc := cX8_in) (maxL := 6) (ret := (some .boolean)) (by decide) rfl (Nat.le_of_ble_eq_true rfl) ?_
  intro p e s m below meth c hC hr hlk hsz A hA9 hA hP hD hS ls hl
  subst hsz
  have hC : Cx p s m ([.long x0, .long x2, .long x4] : List Value).toArray c RX8 cX8_in 6 wsX8_in g := hC
  have hx := hC.1.1
  have hb := hC.1.2.1
  have hml := hC.1.2.2.1
  have hown := hC.1.2.2.2.1
  have hts := hC.1.2.2.2.2
  have hl : lv_has ls 6 [(0, .long x0), (2, .long x2), (4, .long x4)] := hl
  show W p l e RM_X8_in s m ([.long x0, .long x2, .long x4] : List Value).toArray below meth c s.heap [] 0 0 (Qi below g [.long x0, .long x2, .long x4] ([] : va_W) ([] : va_W) r s) (F0 m 0 ls [])
  unfold f_X8_in at h
  refine lv_lload_n hx hb dX8_in_0 rfl (lv_at hl 0 rfl) ?_
  refine lv_lload_n hx hb dX8_in_1 rfl (lv_at hl 1 rfl) ?_
  refine W.lcmp hx hb dX8_in_2 ?_
  refine k_if_lt (tgt := 17) hC dX8_in_3 (by decide) h (fun h => ?_) (fun h => ?_)
  · refine lv_iconst (v := (0 : Int32)) hx hb dX8_in_17 (by decide) ?_
    obtain rfl := fx_i1 h
    exact Ci.retz hC hr hlk rfl hA9 hP hD hS dX8_in_18
  · refine lv_lload_n hx hb dX8_in_6 rfl (lv_at hl 0 rfl) ?_
    refine lv_lload hx hb dX8_in_7 (lv_at hl 2 rfl) ?_
    refine W.lcmp hx hb dX8_in_9 ?_
    refine k_if_gt (tgt := 17) hC dX8_in_10 (by decide) h (fun h => ?_) (fun h => ?_)
    · refine lv_iconst (v := (0 : Int32)) hx hb dX8_in_17 (by decide) ?_
      obtain rfl := fx_i1 h
      exact Ci.retz hC hr hlk rfl hA9 hP hD hS dX8_in_18
    · refine lv_iconst (v := (1 : Int32)) hx hb dX8_in_13 (by decide) ?_
      refine lv_goto (tgt := 18) hx hb dX8_in_14 (by decide) ?_
      obtain rfl := fx_i1 h
      exact Ci.retz hC hr hlk rfl hA9 hP hD hS dX8_in_18
theorem uX8_isRow_X8 : ∀ w ∈ u_ws RX8 TX8 46, w ∈ wsX8_isRow := fun w h => List.mem_cons_of_mem _ (List.mem_append_right _ h)
abbrev RM_X8_isRow : Room := { frames := 1, cells := 0, slots := 0, locals := 25 }
def f_X8_isRow (N : Nat) (S1 : St) (x1 : Int32) : Option (Int32) :=
  fx_b1 (f_X8_in N (Int32.toInt64 x1) (0 : Int64) (Int32.toInt64 ((S1.1 0) - (1 : Int32)))) (fun v101 =>
  fx_bz v101 (some v101))
set_option maxRecDepth 100000 in
set_option maxHeartbeats 4000000 in
theorem c_X8_isRow (l : Launch) (g : GG) (N : Nat) (q1 : Nat → Nat) (S1 : St) (x1 : Int32) (r : Int32) (h : f_X8_isRow N S1 x1 = some r) : Ci l yX8_isRow wsX8_isRow RM_X8_isRow g [.ref (q1 100), .int x1] (wX8 g q1 S1) (wX8 g q1 S1) r := by
  intro sz
  refine Met.ofC (cc := cX8_isRow) (maxL := 2) (ret := (some .boolean)) (by decide) rfl (Nat.le_of_ble_eq_true rfl) ?_
  intro p e s m below meth c hC hr hlk hsz A hA9 hA hP hD hS ls hl
  subst hsz
  have hC : Cx p s m ([.ref (q1 100), .int x1] : List Value).toArray c RX8 cX8_isRow 2 wsX8_isRow g := hC
  have hx := hC.1.1
  have hb := hC.1.2.1
  have hml := hC.1.2.2.1
  have hown := hC.1.2.2.2.1
  have hts := hC.1.2.2.2.2
  have hl : lv_has ls 2 [(0, .ref (q1 100)), (1, .int x1)] := hl
  show W p l e RM_X8_isRow s m ([.ref (q1 100), .int x1] : List Value).toArray below meth c s.heap [] 0 0 (Qi below g [.ref (q1 100), .int x1] (wX8 g q1 S1) (wX8 g q1 S1) r s) (F0 m 0 ls [])
  unfold f_X8_isRow at h
  refine lv_iload_n hx hb dX8_isRow_0 rfl (lv_at hl 1 rfl) ?_
  refine lv_i2l hx hb dX8_isRow_1 rfl ?_
  refine lv_lconst (v := (0 : Int64)) hx hb dX8_isRow_2 (by decide) ?_
  refine lv_aload_n hx hb dX8_isRow_3 rfl (lv_at hl 0 rfl) ?_
  refine k_get (ci := 8) (k := 0) (q0 := 0) (v := .int (S1.1 0)) (C := RX8) (T := TX8) (N := 46) hC uX8_isRow_X8 hP rfl rfl (by decide) (List.mem_of_getElem? (i := 1) rfl) rfl dX8_isRow_4 ?_
  refine lv_iconst (v := (1 : Int32)) hx hb dX8_isRow_7 (by decide) ?_
  refine lv_isub hx hb dX8_isRow_8 ?_
  refine lv_i2l hx hb dX8_isRow_9 rfl ?_
  obtain ⟨v101, hc102, h⟩ := fx_b1_s h
  refine k_callSi0 (n := 3) (As := [.long (Int32.toInt64 x1), .long (0 : Int64), .long (Int32.toInt64 ((S1.1 0) - (1 : Int32)))]) (rest := []) (wc := ([] : va_W)) (bytes := cX8_in) (maxL := 6) (ret := (some .boolean)) hC hl.1 (c_X8_in l g N (Int32.toInt64 x1) (0 : Int64) (Int32.toInt64 ((S1.1 0) - (1 : Int32))) v101 hc102) rfl gX8_isRow_X8_in (by decide +kernel) ⟨Nat.le_of_ble_eq_true rfl, Nat.le_of_ble_eq_true rfl⟩ rfl rfl rfl (Nat.le_of_ble_eq_true rfl) ⟨Nat.le_of_ble_eq_true rfl, Nat.le_of_ble_eq_true rfl⟩ dX8_isRow_10 hP hD hS hA [] rfl (by decide +kernel) (fun H locs hP hD hS => ?_)
  obtain ⟨hz, h⟩ := fx_bz_s h
  obtain rfl := fx_i1 h
  exact Ci.retz hC hr hlk hz.1 hA9 hP hD hS dX8_isRow_13
theorem uX8_isPlace_X8 : ∀ w ∈ u_ws RX8 TX8 46, w ∈ wsX8_isPlace := fun w h => List.mem_cons_of_mem _ (List.mem_append_right _ h)
abbrev RM_X8_isPlace : Room := { frames := 1, cells := 0, slots := 0, locals := 25 }
def f_X8_isPlace (N : Nat) (S1 : St) (x1 : Int32) : Option (Int32) :=
  fx_b1 (f_X8_in N (Int32.toInt64 x1) (0 : Int64) (Int32.toInt64 ((S1.1 1) - (1 : Int32)))) (fun v101 =>
  fx_bz v101 (some v101))
set_option maxRecDepth 100000 in
set_option maxHeartbeats 4000000 in
theorem c_X8_isPlace (l : Launch) (g : GG) (N : Nat) (q1 : Nat → Nat) (S1 : St) (x1 : Int32) (r : Int32) (h : f_X8_isPlace N S1 x1 = some r) : Ci l yX8_isPlace wsX8_isPlace RM_X8_isPlace g [.ref (q1 100), .int x1] (wX8 g q1 S1) (wX8 g q1 S1) r := by
  intro sz
  refine Met.ofC (cc := cX8_isPlace) (maxL := 2) (ret := (some .boolean)) (by decide) rfl (Nat.le_of_ble_eq_true rfl) ?_
  intro p e s m below meth c hC hr hlk hsz A hA9 hA hP hD hS ls hl
  subst hsz
  have hC : Cx p s m ([.ref (q1 100), .int x1] : List Value).toArray c RX8 cX8_isPlace 2 wsX8_isPlace g := hC
  have hx := hC.1.1
  have hb := hC.1.2.1
  have hml := hC.1.2.2.1
  have hown := hC.1.2.2.2.1
  have hts := hC.1.2.2.2.2
  have hl : lv_has ls 2 [(0, .ref (q1 100)), (1, .int x1)] := hl
  show W p l e RM_X8_isPlace s m ([.ref (q1 100), .int x1] : List Value).toArray below meth c s.heap [] 0 0 (Qi below g [.ref (q1 100), .int x1] (wX8 g q1 S1) (wX8 g q1 S1) r s) (F0 m 0 ls [])
  unfold f_X8_isPlace at h
  refine lv_iload_n hx hb dX8_isPlace_0 rfl (lv_at hl 1 rfl) ?_
  refine lv_i2l hx hb dX8_isPlace_1 rfl ?_
  refine lv_lconst (v := (0 : Int64)) hx hb dX8_isPlace_2 (by decide) ?_
  refine lv_aload_n hx hb dX8_isPlace_3 rfl (lv_at hl 0 rfl) ?_
  refine k_get (ci := 8) (k := 1) (q0 := 0) (v := .int (S1.1 1)) (C := RX8) (T := TX8) (N := 46) hC uX8_isPlace_X8 hP rfl rfl (by decide) (List.mem_of_getElem? (i := 1) rfl) rfl dX8_isPlace_4 ?_
  refine lv_iconst (v := (1 : Int32)) hx hb dX8_isPlace_7 (by decide) ?_
  refine lv_isub hx hb dX8_isPlace_8 ?_
  refine lv_i2l hx hb dX8_isPlace_9 rfl ?_
  obtain ⟨v101, hc102, h⟩ := fx_b1_s h
  refine k_callSi0 (n := 3) (As := [.long (Int32.toInt64 x1), .long (0 : Int64), .long (Int32.toInt64 ((S1.1 1) - (1 : Int32)))]) (rest := []) (wc := ([] : va_W)) (bytes := cX8_in) (maxL := 6) (ret := (some .boolean)) hC hl.1 (c_X8_in l g N (Int32.toInt64 x1) (0 : Int64) (Int32.toInt64 ((S1.1 1) - (1 : Int32))) v101 hc102) rfl gX8_isPlace_X8_in (by decide +kernel) ⟨Nat.le_of_ble_eq_true rfl, Nat.le_of_ble_eq_true rfl⟩ rfl rfl rfl (Nat.le_of_ble_eq_true rfl) ⟨Nat.le_of_ble_eq_true rfl, Nat.le_of_ble_eq_true rfl⟩ dX8_isPlace_10 hP hD hS hA [] rfl (by decide +kernel) (fun H locs hP hD hS => ?_)
  obtain ⟨hz, h⟩ := fx_bz_s h
  obtain rfl := fx_i1 h
  exact Ci.retz hC hr hlk hz.1 hA9 hP hD hS dX8_isPlace_13
abbrev RM_X8_isNumber : Room := { frames := 1, cells := 0, slots := 0, locals := 25 }
def f_X8_isNumber (N : Nat) (x0 : Int32) : Option (Int32) :=
  fx_b1 (f_X8_in N (Int32.toInt64 x0) (0 : Int64) (5 : Int64)) (fun v101 =>
  fx_bz v101 (some v101))
set_option maxRecDepth 100000 in
set_option maxHeartbeats 4000000 in
theorem c_X8_isNumber (l : Launch) (g : GG) (N : Nat) (x0 : Int32) (r : Int32) (h : f_X8_isNumber N x0 = some r) : Ci l yX8_isNumber wsX8_isNumber RM_X8_isNumber g [.int x0] ([] : va_W) ([] : va_W) r := by
  intro sz
  refine Met.ofC (cc := cX8_isNumber) (maxL := 1) (ret := (some .boolean)) (by decide) rfl (Nat.le_of_ble_eq_true rfl) ?_
  intro p e s m below meth c hC hr hlk hsz A hA9 hA hP hD hS ls hl
  subst hsz
  have hC : Cx p s m ([.int x0] : List Value).toArray c RX8 cX8_isNumber 1 wsX8_isNumber g := hC
  have hx := hC.1.1
  have hb := hC.1.2.1
  have hml := hC.1.2.2.1
  have hown := hC.1.2.2.2.1
  have hts := hC.1.2.2.2.2
  have hl : lv_has ls 1 [(0, .int x0)] := hl
  show W p l e RM_X8_isNumber s m ([.int x0] : List Value).toArray below meth c s.heap [] 0 0 (Qi below g [.int x0] ([] : va_W) ([] : va_W) r s) (F0 m 0 ls [])
  unfold f_X8_isNumber at h
  refine lv_iload_n hx hb dX8_isNumber_0 rfl (lv_at hl 0 rfl) ?_
  refine lv_i2l hx hb dX8_isNumber_1 rfl ?_
  refine lv_lconst (v := (0 : Int64)) hx hb dX8_isNumber_2 (by decide) ?_
  refine lv_ldc2 (v := (5 : Int64)) hx hb hown (hts _ (List.mem_of_getElem? (i := 1) rfl)) dX8_isNumber_3 ?_
  obtain ⟨v101, hc102, h⟩ := fx_b1_s h
  refine k_callSi0 (n := 3) (As := [.long (Int32.toInt64 x0), .long (0 : Int64), .long (5 : Int64)]) (rest := []) (wc := ([] : va_W)) (bytes := cX8_in) (maxL := 6) (ret := (some .boolean)) hC hl.1 (c_X8_in l g N (Int32.toInt64 x0) (0 : Int64) (5 : Int64) v101 hc102) rfl gX8_isNumber_X8_in (by decide +kernel) ⟨Nat.le_of_ble_eq_true rfl, Nat.le_of_ble_eq_true rfl⟩ rfl rfl rfl (Nat.le_of_ble_eq_true rfl) ⟨Nat.le_of_ble_eq_true rfl, Nat.le_of_ble_eq_true rfl⟩ dX8_isNumber_6 hP hD hS hA [] rfl (by decide +kernel) (fun H locs hP hD hS => ?_)
  obtain ⟨hz, h⟩ := fx_bz_s h
  obtain rfl := fx_i1 h
  exact Ci.retz hC hr hlk hz.1 hA9 hP hD hS dX8_isNumber_9
theorem uX8_isSort_X8 : ∀ w ∈ u_ws RX8 TX8 46, w ∈ wsX8_isSort := fun w h => List.mem_cons_of_mem _ (List.mem_append_right _ h)
abbrev RM_X8_isSort : Room := { frames := 2, cells := 0, slots := 0, locals := 45 }
def f_X8_isSort (N : Nat) (S1 : St) (x1 : Int32) : Option (Int32) :=
  fx_b1 (f_X8_isNumber N x1) (fun v101 =>
  (if v101 = 0 then (
  some (0 : Int32)) else (
  (if (((S1.1 7) >>> (x1 &&& 31)) &&& (1 : Int32)) = (1 : Int32) then (
    some (1 : Int32)) else (
    some (0 : Int32))))))
set_option maxRecDepth 100000 in
set_option maxHeartbeats 4000000 in
theorem c_X8_isSort (l : Launch) (g : GG) (N : Nat) (q1 : Nat → Nat) (S1 : St) (x1 : Int32) (r : Int32) (h : f_X8_isSort N S1 x1 = some r) : Ci l yX8_isSort wsX8_isSort RM_X8_isSort g [.ref (q1 100), .int x1] (wX8 g q1 S1) (wX8 g q1 S1) r := by
  intro sz
  refine Met.ofC (cc := cX8_isSort) (maxL := 2) (ret := (some .boolean)) (by decide) rfl (Nat.le_of_ble_eq_true rfl) ?_
  intro p e s m below meth c hC hr hlk hsz A hA9 hA hP hD hS ls hl
  subst hsz
  have hC : Cx p s m ([.ref (q1 100), .int x1] : List Value).toArray c RX8 cX8_isSort 2 wsX8_isSort g := hC
  have hx := hC.1.1
  have hb := hC.1.2.1
  have hml := hC.1.2.2.1
  have hown := hC.1.2.2.2.1
  have hts := hC.1.2.2.2.2
  have hl : lv_has ls 2 [(0, .ref (q1 100)), (1, .int x1)] := hl
  show W p l e RM_X8_isSort s m ([.ref (q1 100), .int x1] : List Value).toArray below meth c s.heap [] 0 0 (Qi below g [.ref (q1 100), .int x1] (wX8 g q1 S1) (wX8 g q1 S1) r s) (F0 m 0 ls [])
  unfold f_X8_isSort at h
  refine lv_iload_n hx hb dX8_isSort_0 rfl (lv_at hl 1 rfl) ?_
  obtain ⟨v101, hc102, h⟩ := fx_b1_s h
  refine k_callSi0 (n := 1) (As := [.int x1]) (rest := []) (wc := ([] : va_W)) (bytes := cX8_isNumber) (maxL := 1) (ret := (some .boolean)) hC hl.1 (c_X8_isNumber l g N x1 v101 hc102) rfl gX8_isSort_X8_isNumber (by decide +kernel) ⟨Nat.le_of_ble_eq_true rfl, Nat.le_of_ble_eq_true rfl⟩ rfl rfl rfl (Nat.le_of_ble_eq_true rfl) ⟨Nat.le_of_ble_eq_true rfl, Nat.le_of_ble_eq_true rfl⟩ dX8_isSort_1 hP hD hS hA [] rfl (by decide +kernel) (fun H locs hP hD hS => ?_)
  refine k_if_eq (tgt := 23) hC dX8_isSort_4 (by decide) h (fun h => ?_) (fun h => ?_)
  · refine lv_iconst (v := (0 : Int32)) hx hb dX8_isSort_23 (by decide) ?_
    obtain rfl := fx_i1 h
    exact Ci.retz hC hr hlk rfl hA9 hP hD hS dX8_isSort_24
  · refine lv_aload_n hx hb dX8_isSort_7 rfl (lv_at hl 0 rfl) ?_
    refine k_get (ci := 8) (k := 7) (q0 := 0) (v := .int (S1.1 7)) (C := RX8) (T := TX8) (N := 46) hC uX8_isSort_X8 hP rfl rfl (by decide) (List.mem_of_getElem? (i := 1) rfl) rfl dX8_isSort_8 ?_
    refine lv_iload_n hx hb dX8_isSort_11 rfl (lv_at hl 1 rfl) ?_
    refine lv_ishr hx hb dX8_isSort_12 ?_
    refine lv_iconst (v := (1 : Int32)) hx hb dX8_isSort_13 (by decide) ?_
    refine lv_iand hx hb dX8_isSort_14 ?_
    refine lv_iconst (v := (1 : Int32)) hx hb dX8_isSort_15 (by decide) ?_
    refine k_icmp_ne (tgt := 23) hC dX8_isSort_16 (by decide) h (fun h => ?_) (fun h => ?_)
    · refine lv_iconst (v := (0 : Int32)) hx hb dX8_isSort_23 (by decide) ?_
      obtain rfl := fx_i1 h
      exact Ci.retz hC hr hlk rfl hA9 hP hD hS dX8_isSort_24
    · refine lv_iconst (v := (1 : Int32)) hx hb dX8_isSort_19 (by decide) ?_
      refine lv_goto (tgt := 24) hx hb dX8_isSort_20 (by decide) ?_
      obtain rfl := fx_i1 h
      exact Ci.retz hC hr hlk rfl hA9 hP hD hS dX8_isSort_24
theorem uX8_oven_X8 : ∀ w ∈ u_ws RX8 TX8 46, w ∈ wsX8_oven := fun w h => List.mem_cons_of_mem _ (List.mem_append_right _ h)
abbrev RM_X8_oven : Room := { frames := 1, cells := 0, slots := 0, locals := 25 }
def bd_X8_oven_49 (N : Nat) (x1 : Int32) (x2 : Int32) (x3 : Int32) (S1 : St) (rec : (Int32 × St) → Option (St)) : Option (St) :=
  (if (4 : Int32) ≤ x3 then (
    some S1) else (
    fx_ast 4 S1 12 x3 (0 : Int32) (fun S101 =>
      fx_ast 4 S101 15 x3 (0 : Int32) (fun S102 =>
      fx_lt (x3 + (1 : Int32)) (fun x103 =>
      rec (x103, S102))))))
def lf_X8_oven_49 (N : Nat) (x1 : Int32) (x2 : Int32) : (Int32 × St) → ((Int32 × St) → Option (St)) → Option (St) := fun x rec => bd_X8_oven_49 N x1 x2 x.1 x.2 rec
set_option maxRecDepth 100000 in
set_option maxHeartbeats 4000000 in
theorem lw_X8_oven_49 {p : Program} {l : Launch} {e : Env} {s : State} {m : MethodId} {args : Array Value} {below : List Frame} {meth : Method} {c : Code} {Q : State → Prop} {A : Nat → Prop} {H0 : Heap} {g : GG} (hC : Cx p s m args c RX8 cX8_oven 4 wsX8_oven g) (hA : ∀ q : Nat, H0.size ≤ q → A q) (N : Nat) (q1 : Nat → Nat) (x1 : Int32) (x2 : Int32) : ∀ (n : Nat) (x3 : Int32) (S1 : St) (o : St), fx_it (lf_X8_oven_49 N x1 x2) n (x3, S1) = some o → ∀ (H : Heap) (locs : List Loc) (ls : Array Slot), va_P g.1 vwCl (wX8 g q1 S1) H → va_D A (wX8 g q1 S1) → va_S A H0 H locs → lv_has ls 4 [(0, .ref (q1 100)), (1, .int x1), (2, .int x2), (3, .int x3)] → (∀ (Z0 : St), o = Z0 → ∀ (H : Heap) (locs : List Loc) (ls : Array Slot), va_P g.1 vwCl (wX8 g q1 Z0) H → va_D A (wX8 g q1 Z0) → va_S A H0 H locs → lv_has ls 4 [(0, .ref (q1 100)), (1, .int x1), (2, .int x2)] → W p l e RM_X8_oven s m args below meth c H locs 0 0 Q (F0 m 74 ls [])) → W p l e RM_X8_oven s m args below meth c H locs 0 0 Q (F0 m 49 ls []) := by
  have hx := hC.1.1
  have hb := hC.1.2.1
  have hml := hC.1.2.2.1
  have hown := hC.1.2.2.2.1
  have hts := hC.1.2.2.2.2
  intro n
  induction n with
  | zero => intro x3 S1 o h; cases h
  | succ n ih =>
    intro x3 S1 o h H locs ls hP hD hS hl k0
    have h : bd_X8_oven_49 N x1 x2 x3 S1 (fx_it (lf_X8_oven_49 N x1 x2) n) = some o := h
    unfold bd_X8_oven_49 at h
    refine lv_iload_n hx hb dX8_oven_49 rfl (lv_at hl 3 rfl) ?_
    refine lv_iconst (v := (4 : Int32)) hx hb dX8_oven_50 (by decide) ?_
    refine k_icmp_ge (tgt := 74) hC dX8_oven_51 (by decide) h (fun h => ?_) (fun h => ?_)
    · exact k0 S1 (Option.some.inj h).symm _ _ _ hP hD hS (lv_sub hl [0, 1, 2] rfl)
    · refine lv_aload_n hx hb dX8_oven_54 rfl (lv_at hl 0 rfl) ?_
      refine k_get (ci := 8) (k := 12) (q0 := 0) (v := .ref (q1 12)) (C := RX8) (T := TX8) (N := 46) hC uX8_oven_X8 hP rfl rfl (by decide) (List.mem_of_getElem? (i := 7) rfl) rfl dX8_oven_55 ?_
      refine lv_iload_n hx hb dX8_oven_58 rfl (lv_at hl 3 rfl) ?_
      refine lv_iconst (v := (0 : Int32)) hx hb dX8_oven_59 (by decide) ?_
      refine k_ast (q0 := 6) (n := 4) (k := 12) (S := S1) (fun S => (wX8 g q1 S)) hC hP hD hS rfl (fun _ => rfl) dX8_oven_60 h (fun S101 h H locs hP hD hS => ?_)
      refine lv_aload_n hx hb dX8_oven_61 rfl (lv_at hl 0 rfl) ?_
      refine k_get (ci := 8) (k := 15) (q0 := 0) (v := .ref (q1 15)) (C := RX8) (T := TX8) (N := 46) hC uX8_oven_X8 hP rfl rfl (by decide) (List.mem_of_getElem? (i := 8) rfl) rfl dX8_oven_62 ?_
      refine lv_iload_n hx hb dX8_oven_65 rfl (lv_at hl 3 rfl) ?_
      refine lv_iconst (v := (0 : Int32)) hx hb dX8_oven_66 (by decide) ?_
      refine k_ast (q0 := 9) (n := 4) (k := 15) (S := S101) (fun S => (wX8 g q1 S)) hC hP hD hS rfl (fun _ => rfl) dX8_oven_67 h (fun S102 h H locs hP hD hS => ?_)
      refine k_iinc (v := (1 : Int32)) (lv' := fun X => [(3, .int X), (0, .ref (q1 100)), (1, .int x1), (2, .int x2)]) hC dX8_oven_68 hl (k := 3) rfl (by decide) (by decide) (fun _ => rfl) h (fun x103 h ls hl => ?_)
      refine lv_goto (tgt := 49) hx hb dX8_oven_71 (by decide) ?_
      exact ih x103 S102 o h _ _ _ hP hD hS (lv_sub hl [1, 2, 3, 0] rfl) k0
def bd_X8_oven_76 (N : Nat) (x1 : Int32) (x2 : Int32) (x3 : Int32) (S1 : St) (rec : (Int32 × St) → Option (St)) : Option (St) :=
  (if (6 : Int32) ≤ x3 then (
    some S1) else (
    fx_ast 6 S1 6 x3 (0 : Int32) (fun S101 =>
      fx_lt (x3 + (1 : Int32)) (fun x102 =>
      rec (x102, S101)))))
def lf_X8_oven_76 (N : Nat) (x1 : Int32) (x2 : Int32) : (Int32 × St) → ((Int32 × St) → Option (St)) → Option (St) := fun x rec => bd_X8_oven_76 N x1 x2 x.1 x.2 rec
set_option maxRecDepth 100000 in
set_option maxHeartbeats 4000000 in
theorem lw_X8_oven_76 {p : Program} {l : Launch} {e : Env} {s : State} {m : MethodId} {args : Array Value} {below : List Frame} {meth : Method} {c : Code} {Q : State → Prop} {A : Nat → Prop} {H0 : Heap} {g : GG} (hC : Cx p s m args c RX8 cX8_oven 4 wsX8_oven g) (hA : ∀ q : Nat, H0.size ≤ q → A q) (N : Nat) (q1 : Nat → Nat) (x1 : Int32) (x2 : Int32) : ∀ (n : Nat) (x3 : Int32) (S1 : St) (o : St), fx_it (lf_X8_oven_76 N x1 x2) n (x3, S1) = some o → ∀ (H : Heap) (locs : List Loc) (ls : Array Slot), va_P g.1 vwCl (wX8 g q1 S1) H → va_D A (wX8 g q1 S1) → va_S A H0 H locs → lv_has ls 4 [(0, .ref (q1 100)), (1, .int x1), (2, .int x2), (3, .int x3)] → (∀ (Z0 : St), o = Z0 → ∀ (H : Heap) (locs : List Loc) (ls : Array Slot), va_P g.1 vwCl (wX8 g q1 Z0) H → va_D A (wX8 g q1 Z0) → va_S A H0 H locs → lv_has ls 4 [(1, .int x1), (2, .int x2)] → W p l e RM_X8_oven s m args below meth c H locs 0 0 Q (F0 m 95 ls [])) → W p l e RM_X8_oven s m args below meth c H locs 0 0 Q (F0 m 76 ls []) := by
  have hx := hC.1.1
  have hb := hC.1.2.1
  have hml := hC.1.2.2.1
  have hown := hC.1.2.2.2.1
  have hts := hC.1.2.2.2.2
  intro n
  induction n with
  | zero => intro x3 S1 o h; cases h
  | succ n ih =>
    intro x3 S1 o h H locs ls hP hD hS hl k0
    have h : bd_X8_oven_76 N x1 x2 x3 S1 (fx_it (lf_X8_oven_76 N x1 x2) n) = some o := h
    unfold bd_X8_oven_76 at h
    refine lv_iload_n hx hb dX8_oven_76 rfl (lv_at hl 3 rfl) ?_
    refine lv_bipush (v := (6 : Int32)) hx hb dX8_oven_77 (by decide) ?_
    refine k_icmp_ge (tgt := 95) hC dX8_oven_79 (by decide) h (fun h => ?_) (fun h => ?_)
    · exact k0 S1 (Option.some.inj h).symm _ _ _ hP hD hS (lv_sub hl [1, 2] rfl)
    · refine lv_aload_n hx hb dX8_oven_82 rfl (lv_at hl 0 rfl) ?_
      refine k_get (ci := 8) (k := 6) (q0 := 0) (v := .ref (q1 6)) (C := RX8) (T := TX8) (N := 46) hC uX8_oven_X8 hP rfl rfl (by decide) (List.mem_of_getElem? (i := 9) rfl) rfl dX8_oven_83 ?_
      refine lv_iload_n hx hb dX8_oven_86 rfl (lv_at hl 3 rfl) ?_
      refine lv_iconst (v := (0 : Int32)) hx hb dX8_oven_87 (by decide) ?_
      refine k_ast (q0 := 1) (n := 6) (k := 6) (S := S1) (fun S => (wX8 g q1 S)) hC hP hD hS rfl (fun _ => rfl) dX8_oven_88 h (fun S101 h H locs hP hD hS => ?_)
      refine k_iinc (v := (1 : Int32)) (lv' := fun X => [(3, .int X), (0, .ref (q1 100)), (1, .int x1), (2, .int x2)]) hC dX8_oven_89 hl (k := 3) rfl (by decide) (by decide) (fun _ => rfl) h (fun x102 h ls hl => ?_)
      refine lv_goto (tgt := 76) hx hb dX8_oven_92 (by decide) ?_
      exact ih x102 S101 o h _ _ _ hP hD hS (lv_sub hl [1, 2, 3, 0] rfl) k0
def f_X8_oven (N : Nat) (S1 : St) (x1 : Int32) (x2 : Int32) : Option (Int32 × St) :=
  fx_b1 (f_X8_in N (Int32.toInt64 x1) (1 : Int64) (4 : Int64)) (fun v101 =>
  (if v101 = 0 then (
  some ((-2 : Int32), S1)) else (
  fx_b1 (f_X8_in N (Int32.toInt64 x2) (1 : Int64) (6 : Int64)) (fun v102 =>
    (if v102 = 0 then (
    some ((-2 : Int32), S1)) else (
    fx_lt (stI S1 0 x1) (fun S103 =>
      fx_lt (stI S103 1 x2) (fun S104 =>
      fx_lt (stI S104 5 (0 : Int32)) (fun S105 =>
      fx_lt (stI S105 17 (0 : Int32)) (fun S106 =>
      fx_b1 (fx_it (lf_X8_oven_49 N x1 x2) N ((0 : Int32), S106)) (fun S107 =>
      fx_b1 (fx_it (lf_X8_oven_76 N x1 x2) N ((0 : Int32), S107)) (fun S109 =>
        some ((x1 * x2), S109)))))))))))))
set_option maxRecDepth 100000 in
set_option maxHeartbeats 4000000 in
theorem c_X8_oven (l : Launch) (g : GG) (N : Nat) (q1 : Nat → Nat) (S1 : St) (x1 : Int32) (x2 : Int32) (r : Int32) (F1 : St) (h : f_X8_oven N S1 x1 x2 = some (r, F1)) : Ci l yX8_oven wsX8_oven RM_X8_oven g [.ref (q1 100), .int x1, .int x2] (wX8 g q1 S1) (wX8 g q1 F1) r := by
  intro sz
  refine Met.ofC (cc := cX8_oven) (maxL := 4) (ret := (some .int)) (by decide) rfl (Nat.le_of_ble_eq_true rfl) ?_
  intro p e s m below meth c hC hr hlk hsz A hA9 hA hP hD hS ls hl
  subst hsz
  have hC : Cx p s m ([.ref (q1 100), .int x1, .int x2] : List Value).toArray c RX8 cX8_oven 4 wsX8_oven g := hC
  have hx := hC.1.1
  have hb := hC.1.2.1
  have hml := hC.1.2.2.1
  have hown := hC.1.2.2.2.1
  have hts := hC.1.2.2.2.2
  have hl : lv_has ls 4 [(0, .ref (q1 100)), (1, .int x1), (2, .int x2)] := hl
  show W p l e RM_X8_oven s m ([.ref (q1 100), .int x1, .int x2] : List Value).toArray below meth c s.heap [] 0 0 (Qi below g [.ref (q1 100), .int x1, .int x2] (wX8 g q1 S1) (wX8 g q1 F1) r s) (F0 m 0 ls [])
  unfold f_X8_oven at h
  refine lv_iload_n hx hb dX8_oven_0 rfl (lv_at hl 1 rfl) ?_
  refine lv_i2l hx hb dX8_oven_1 rfl ?_
  refine lv_lconst (v := (1 : Int64)) hx hb dX8_oven_2 (by decide) ?_
  refine lv_ldc2 (v := (4 : Int64)) hx hb hown (hts _ (List.mem_of_getElem? (i := 1) rfl)) dX8_oven_3 ?_
  obtain ⟨v101, hc112, h⟩ := fx_b1_s h
  refine k_callSi0 (n := 3) (As := [.long (Int32.toInt64 x1), .long (1 : Int64), .long (4 : Int64)]) (rest := []) (wc := ([] : va_W)) (bytes := cX8_in) (maxL := 6) (ret := (some .boolean)) hC hl.1 (c_X8_in l g N (Int32.toInt64 x1) (1 : Int64) (4 : Int64) v101 hc112) rfl gX8_oven_X8_in (by decide +kernel) ⟨Nat.le_of_ble_eq_true rfl, Nat.le_of_ble_eq_true rfl⟩ rfl rfl rfl (Nat.le_of_ble_eq_true rfl) ⟨Nat.le_of_ble_eq_true rfl, Nat.le_of_ble_eq_true rfl⟩ dX8_oven_6 hP hD hS hA [] rfl (by decide +kernel) (fun H locs hP hD hS => ?_)
  refine k_if_eq (tgt := 24) hC dX8_oven_9 (by decide) h (fun h => ?_) (fun h => ?_)
  · refine lv_bipush (v := (-2 : Int32)) hx hb dX8_oven_24 (by decide) ?_
    obtain ⟨rfl, rfl⟩ := fx_i2 h
    exact Ci.ret hC hr hlk hA9 hP hD hS dX8_oven_26
  · refine lv_iload_n hx hb dX8_oven_12 rfl (lv_at hl 2 rfl) ?_
    refine lv_i2l hx hb dX8_oven_13 rfl ?_
    refine lv_lconst (v := (1 : Int64)) hx hb dX8_oven_14 (by decide) ?_
    refine lv_ldc2 (v := (6 : Int64)) hx hb hown (hts _ (List.mem_of_getElem? (i := 2) rfl)) dX8_oven_15 ?_
    obtain ⟨v102, hc111, h⟩ := fx_b1_s h
    refine k_callSi0 (n := 3) (As := [.long (Int32.toInt64 x2), .long (1 : Int64), .long (6 : Int64)]) (rest := []) (wc := ([] : va_W)) (bytes := cX8_in) (maxL := 6) (ret := (some .boolean)) hC hl.1 (c_X8_in l g N (Int32.toInt64 x2) (1 : Int64) (6 : Int64) v102 hc111) rfl gX8_oven_X8_in (by decide +kernel) ⟨Nat.le_of_ble_eq_true rfl, Nat.le_of_ble_eq_true rfl⟩ rfl rfl rfl (Nat.le_of_ble_eq_true rfl) ⟨Nat.le_of_ble_eq_true rfl, Nat.le_of_ble_eq_true rfl⟩ dX8_oven_18 hP hD hS hA [] rfl (by decide +kernel) (fun H locs hP hD hS => ?_)
    refine k_if_ne (tgt := 27) hC dX8_oven_21 (by decide) h (fun h => ?_) (fun h => ?_)
    · refine lv_aload_n hx hb dX8_oven_27 rfl (lv_at hl 0 rfl) ?_
      refine lv_iload_n hx hb dX8_oven_28 rfl (lv_at hl 1 rfl) ?_
      refine k_put (ci := 8) (k := 0) (q0 := 0) (C := RX8) (T := TX8) (N := 46) (S2 := stI S1 0 x1) tyX8 (fun S => (wX8 g q1 S)) hC uX8_oven_X8 tyX8_ok nmX8 hP hD hS rfl rfl (by decide) (List.mem_of_getElem? (i := 3) rfl) rfl (tyX8_ok 0 (by decide)) (Nat.le_of_ble_eq_true rfl) dX8_oven_29 rfl h (fun S103 h H locs hP hD hS => ?_)
      refine lv_aload_n hx hb dX8_oven_32 rfl (lv_at hl 0 rfl) ?_
      refine lv_iload_n hx hb dX8_oven_33 rfl (lv_at hl 2 rfl) ?_
      refine k_put (ci := 8) (k := 1) (q0 := 0) (C := RX8) (T := TX8) (N := 46) (S2 := stI S103 1 x2) tyX8 (fun S => (wX8 g q1 S)) hC uX8_oven_X8 tyX8_ok nmX8 hP hD hS rfl rfl (by decide) (List.mem_of_getElem? (i := 4) rfl) rfl (tyX8_ok 1 (by decide)) (Nat.le_of_ble_eq_true rfl) dX8_oven_34 rfl h (fun S104 h H locs hP hD hS => ?_)
      refine lv_aload_n hx hb dX8_oven_37 rfl (lv_at hl 0 rfl) ?_
      refine lv_iconst (v := (0 : Int32)) hx hb dX8_oven_38 (by decide) ?_
      refine k_put (ci := 8) (k := 5) (q0 := 0) (C := RX8) (T := TX8) (N := 46) (S2 := stI S104 5 (0 : Int32)) tyX8 (fun S => (wX8 g q1 S)) hC uX8_oven_X8 tyX8_ok nmX8 hP hD hS rfl rfl (by decide) (List.mem_of_getElem? (i := 5) rfl) rfl (tyX8_ok 5 (by decide)) (Nat.le_of_ble_eq_true rfl) dX8_oven_39 rfl h (fun S105 h H locs hP hD hS => ?_)
      refine lv_aload_n hx hb dX8_oven_42 rfl (lv_at hl 0 rfl) ?_
      refine lv_iconst (v := (0 : Int32)) hx hb dX8_oven_43 (by decide) ?_
      refine k_put (ci := 8) (k := 17) (q0 := 0) (C := RX8) (T := TX8) (N := 46) (S2 := stI S105 17 (0 : Int32)) tyX8 (fun S => (wX8 g q1 S)) hC uX8_oven_X8 tyX8_ok nmX8 hP hD hS rfl rfl (by decide) (List.mem_of_getElem? (i := 6) rfl) rfl (tyX8_ok 17 (by decide)) (Nat.le_of_ble_eq_true rfl) dX8_oven_44 rfl h (fun S106 h H locs hP hD hS => ?_)
      refine lv_iconst (v := (0 : Int32)) hx hb dX8_oven_47 (by decide) ?_
      refine lv_istore_n (lv' := [(3, .int (0 : Int32)), (0, .ref (q1 100)), (1, .int x1), (2, .int x2)]) hx hb dX8_oven_48 rfl hl (by decide) rfl (fun ls hl => ?_)
      obtain ⟨S107, ho108, h⟩ := fx_b1_s h
      refine lw_X8_oven_49 hC hA N q1 x1 x2 N (0 : Int32) S106  S107 ho108 _ _ _ hP hD hS (lv_sub hl [1, 2, 3, 0] rfl) ?_
      · intro y0 he H locs ls hP hD hS hl
        obtain rfl := he
        refine lv_iconst (v := (0 : Int32)) hx hb dX8_oven_74 (by decide) ?_
        refine lv_istore_n (lv' := [(3, .int (0 : Int32)), (0, .ref (q1 100)), (1, .int x1), (2, .int x2)]) hx hb dX8_oven_75 rfl hl (by decide) rfl (fun ls hl => ?_)
        obtain ⟨S109, ho110, h⟩ := fx_b1_s h
        refine lw_X8_oven_76 hC hA N q1 x1 x2 N (0 : Int32) S107  S109 ho110 _ _ _ hP hD hS (lv_sub hl [1, 2, 3, 0] rfl) ?_
        · intro y0 he H locs ls hP hD hS hl
          obtain rfl := he
          refine lv_iload_n hx hb dX8_oven_95 rfl (lv_at hl 0 rfl) ?_
          refine lv_iload_n hx hb dX8_oven_96 rfl (lv_at hl 1 rfl) ?_
          refine lv_imul hx hb dX8_oven_97 ?_
          obtain ⟨rfl, rfl⟩ := fx_i2 h
          exact Ci.ret hC hr hlk hA9 hP hD hS dX8_oven_98
    · refine lv_bipush (v := (-2 : Int32)) hx hb dX8_oven_24 (by decide) ?_
      obtain ⟨rfl, rfl⟩ := fx_i2 h
      exact Ci.ret hC hr hlk hA9 hP hD hS dX8_oven_26
theorem uX8_set_X8 : ∀ w ∈ u_ws RX8 TX8 46, w ∈ wsX8_set := fun w h => List.mem_cons_of_mem _ (List.mem_append_right _ h)
abbrev RM_X8_set : Room := { frames := 1, cells := 0, slots := 0, locals := 25 }
def f_X8_set (N : Nat) (S1 : St) (x1 : Int32) (x2 : Int32) : Option (Int32 × St) :=
  fx_b1 (f_X8_in N (Int32.toInt64 x1) (0 : Int64) (2 : Int64)) (fun v101 =>
  (if v101 = 0 then (
  some ((-2 : Int32), S1)) else (
  fx_b1 ((if x1 = 0 then (
    some (99 : Int64)) else (
    some (9 : Int64))) : Option (Int64)) (fun v102 =>
    fx_b1 (f_X8_in N (Int32.toInt64 x2) (0 : Int64) v102) (fun v104 =>
      (if v104 = 0 then (
      some ((-2 : Int32), S1)) else (
      fx_b1 ((if x1 = 0 then (
        some (S1.1 2)) else (
        (if x1 = (1 : Int32) then (
          some (S1.1 3)) else (
          some (S1.1 4))))) : Option (Int32)) (fun v105 =>
        fx_b1 ((if x1 = 0 then (
          some x2) else (
          some (S1.1 2))) : Option (Int32)) (fun v107 =>
          fx_lt (stI S1 2 v107) (fun S109 =>
            fx_b1 ((if x1 = (1 : Int32) then (
            some x2) else (
            some (S109.1 3))) : Option (Int32)) (fun v110 =>
            fx_lt (stI S109 3 v110) (fun S112 =>
              fx_b1 ((if x1 = (2 : Int32) then (
              some x2) else (
              some (S112.1 4))) : Option (Int32)) (fun v113 =>
              fx_lt (stI S112 4 v113) (fun S115 =>
                some (v105, S115)))))))))))))))
set_option maxRecDepth 100000 in
set_option maxHeartbeats 4000000 in
theorem c_X8_set (l : Launch) (g : GG) (N : Nat) (q1 : Nat → Nat) (S1 : St) (x1 : Int32) (x2 : Int32) (r : Int32) (F1 : St) (h : f_X8_set N S1 x1 x2 = some (r, F1)) : Ci l yX8_set wsX8_set RM_X8_set g [.ref (q1 100), .int x1, .int x2] (wX8 g q1 S1) (wX8 g q1 F1) r := by
  intro sz
  refine Met.ofC (cc := cX8_set) (maxL := 4) (ret := (some .int)) (by decide) rfl (Nat.le_of_ble_eq_true rfl) ?_
  intro p e s m below meth c hC hr hlk hsz A hA9 hA hP hD hS ls hl
  subst hsz
  have hC : Cx p s m ([.ref (q1 100), .int x1, .int x2] : List Value).toArray c RX8 cX8_set 4 wsX8_set g := hC
  have hx := hC.1.1
  have hb := hC.1.2.1
  have hml := hC.1.2.2.1
  have hown := hC.1.2.2.2.1
  have hts := hC.1.2.2.2.2
  have hl : lv_has ls 4 [(0, .ref (q1 100)), (1, .int x1), (2, .int x2)] := hl
  show W p l e RM_X8_set s m ([.ref (q1 100), .int x1, .int x2] : List Value).toArray below meth c s.heap [] 0 0 (Qi below g [.ref (q1 100), .int x1, .int x2] (wX8 g q1 S1) (wX8 g q1 F1) r s) (F0 m 0 ls [])
  unfold f_X8_set at h
  refine lv_iload_n hx hb dX8_set_0 rfl (lv_at hl 1 rfl) ?_
  refine lv_i2l hx hb dX8_set_1 rfl ?_
  refine lv_lconst (v := (0 : Int64)) hx hb dX8_set_2 (by decide) ?_
  refine lv_ldc2 (v := (2 : Int64)) hx hb hown (hts _ (List.mem_of_getElem? (i := 1) rfl)) dX8_set_3 ?_
  obtain ⟨v101, hc122, h⟩ := fx_b1_s h
  refine k_callSi0 (n := 3) (As := [.long (Int32.toInt64 x1), .long (0 : Int64), .long (2 : Int64)]) (rest := []) (wc := ([] : va_W)) (bytes := cX8_in) (maxL := 6) (ret := (some .boolean)) hC hl.1 (c_X8_in l g N (Int32.toInt64 x1) (0 : Int64) (2 : Int64) v101 hc122) rfl gX8_set_X8_in (by decide +kernel) ⟨Nat.le_of_ble_eq_true rfl, Nat.le_of_ble_eq_true rfl⟩ rfl rfl rfl (Nat.le_of_ble_eq_true rfl) ⟨Nat.le_of_ble_eq_true rfl, Nat.le_of_ble_eq_true rfl⟩ dX8_set_6 hP hD hS hA [] rfl (by decide +kernel) (fun H locs hP hD hS => ?_)
  refine k_if_eq (tgt := 34) hC dX8_set_9 (by decide) h (fun h => ?_) (fun h => ?_)
  · refine lv_bipush (v := (-2 : Int32)) hx hb dX8_set_34 (by decide) ?_
    obtain ⟨rfl, rfl⟩ := fx_i2 h
    exact Ci.ret hC hr hlk hA9 hP hD hS dX8_set_36
  · refine lv_iload_n hx hb dX8_set_12 rfl (lv_at hl 2 rfl) ?_
    refine lv_i2l hx hb dX8_set_13 rfl ?_
    refine lv_lconst (v := (0 : Int64)) hx hb dX8_set_14 (by decide) ?_
    refine lv_iload_n hx hb dX8_set_15 rfl (lv_at hl 1 rfl) ?_
    obtain ⟨v102, hv103, h⟩ := fx_b1_s h
    have K121 : ∀ (H : Heap) (locs : List Loc) (ls : Array Slot), va_P g.1 vwCl (wX8 g q1 S1) H → va_D A (wX8 g q1 S1) → va_S A s.heap H locs → lv_has ls 4 [(0, .ref (q1 100)), (1, .int x1), (2, .int x2)] → W p l e RM_X8_set s m ([.ref (q1 100), .int x1, .int x2] : List Value).toArray below meth c H locs 0 0 (Qi below g [.ref (q1 100), .int x1, .int x2] (wX8 g q1 S1) (wX8 g q1 F1) r s) (F0 m 28 ls [.long v102, .long (0 : Int64), .long (Int32.toInt64 x2)]) := by
      intro H locs ls hP hD hS hl
      obtain ⟨v104, hc120, h⟩ := fx_b1_s h
      refine k_callSi0 (n := 3) (As := [.long (Int32.toInt64 x2), .long (0 : Int64), .long v102]) (rest := []) (wc := ([] : va_W)) (bytes := cX8_in) (maxL := 6) (ret := (some .boolean)) hC hl.1 (c_X8_in l g N (Int32.toInt64 x2) (0 : Int64) v102 v104 hc120) rfl gX8_set_X8_in (by decide +kernel) ⟨Nat.le_of_ble_eq_true rfl, Nat.le_of_ble_eq_true rfl⟩ rfl rfl rfl (Nat.le_of_ble_eq_true rfl) ⟨Nat.le_of_ble_eq_true rfl, Nat.le_of_ble_eq_true rfl⟩ dX8_set_28 hP hD hS hA [] rfl (by decide +kernel) (fun H locs hP hD hS => ?_)
      refine k_if_ne (tgt := 37) hC dX8_set_31 (by decide) h (fun h => ?_) (fun h => ?_)
      · refine lv_iload_n hx hb dX8_set_37 rfl (lv_at hl 1 rfl) ?_
        obtain ⟨v105, hv106, h⟩ := fx_b1_s h
        have K119 : ∀ (H : Heap) (locs : List Loc) (ls : Array Slot), va_P g.1 vwCl (wX8 g q1 S1) H → va_D A (wX8 g q1 S1) → va_S A s.heap H locs → lv_has ls 4 [(0, .ref (q1 100)), (1, .int x1), (2, .int x2)] → W p l e RM_X8_set s m ([.ref (q1 100), .int x1, .int x2] : List Value).toArray below meth c H locs 0 0 (Qi below g [.ref (q1 100), .int x1, .int x2] (wX8 g q1 S1) (wX8 g q1 F1) r s) (F0 m 64 ls [.int v105]) := by
          intro H locs ls hP hD hS hl
          refine lv_istore_n (lv' := [(3, .int v105), (0, .ref (q1 100)), (1, .int x1), (2, .int x2)]) hx hb dX8_set_64 rfl hl (by decide) rfl (fun ls hl => ?_)
          refine lv_aload_n hx hb dX8_set_65 rfl (lv_at hl 1 rfl) ?_
          refine lv_iload_n hx hb dX8_set_66 rfl (lv_at hl 2 rfl) ?_
          obtain ⟨v107, hv108, h⟩ := fx_b1_s h
          have K118 : ∀ (H : Heap) (locs : List Loc) (ls : Array Slot), va_P g.1 vwCl (wX8 g q1 S1) H → va_D A (wX8 g q1 S1) → va_S A s.heap H locs → lv_has ls 4 [(3, .int v105), (0, .ref (q1 100)), (1, .int x1), (2, .int x2)] → W p l e RM_X8_set s m ([.ref (q1 100), .int x1, .int x2] : List Value).toArray below meth c H locs 0 0 (Qi below g [.ref (q1 100), .int x1, .int x2] (wX8 g q1 S1) (wX8 g q1 F1) r s) (F0 m 78 ls [.int v107, .ref (q1 100)]) := by
            intro H locs ls hP hD hS hl
            refine k_put (ci := 8) (k := 2) (q0 := 0) (C := RX8) (T := TX8) (N := 46) (S2 := stI S1 2 v107) tyX8 (fun S => (wX8 g q1 S)) hC uX8_set_X8 tyX8_ok nmX8 hP hD hS rfl rfl (by decide) (List.mem_of_getElem? (i := 4) rfl) rfl (tyX8_ok 2 (by decide)) (Nat.le_of_ble_eq_true rfl) dX8_set_78 rfl h (fun S109 h H locs hP hD hS => ?_)
            refine lv_aload_n hx hb dX8_set_81 rfl (lv_at hl 1 rfl) ?_
            refine lv_iload_n hx hb dX8_set_82 rfl (lv_at hl 2 rfl) ?_
            refine lv_iconst (v := (1 : Int32)) hx hb dX8_set_83 (by decide) ?_
            obtain ⟨v110, hv111, h⟩ := fx_b1_s h
            have K117 : ∀ (H : Heap) (locs : List Loc) (ls : Array Slot), va_P g.1 vwCl (wX8 g q1 S109) H → va_D A (wX8 g q1 S109) → va_S A s.heap H locs → lv_has ls 4 [(3, .int v105), (0, .ref (q1 100)), (1, .int x1), (2, .int x2)] → W p l e RM_X8_set s m ([.ref (q1 100), .int x1, .int x2] : List Value).toArray below meth c H locs 0 0 (Qi below g [.ref (q1 100), .int x1, .int x2] (wX8 g q1 S1) (wX8 g q1 F1) r s) (F0 m 95 ls [.int v110, .ref (q1 100)]) := by
              intro H locs ls hP hD hS hl
              refine k_put (ci := 8) (k := 3) (q0 := 0) (C := RX8) (T := TX8) (N := 46) (S2 := stI S109 3 v110) tyX8 (fun S => (wX8 g q1 S)) hC uX8_set_X8 tyX8_ok nmX8 hP hD hS rfl rfl (by decide) (List.mem_of_getElem? (i := 5) rfl) rfl (tyX8_ok 3 (by decide)) (Nat.le_of_ble_eq_true rfl) dX8_set_95 rfl h (fun S112 h H locs hP hD hS => ?_)
              refine lv_aload_n hx hb dX8_set_98 rfl (lv_at hl 1 rfl) ?_
              refine lv_iload_n hx hb dX8_set_99 rfl (lv_at hl 2 rfl) ?_
              refine lv_iconst (v := (2 : Int32)) hx hb dX8_set_100 (by decide) ?_
              obtain ⟨v113, hv114, h⟩ := fx_b1_s h
              have K116 : ∀ (H : Heap) (locs : List Loc) (ls : Array Slot), va_P g.1 vwCl (wX8 g q1 S112) H → va_D A (wX8 g q1 S112) → va_S A s.heap H locs → lv_has ls 4 [(3, .int v105)] → W p l e RM_X8_set s m ([.ref (q1 100), .int x1, .int x2] : List Value).toArray below meth c H locs 0 0 (Qi below g [.ref (q1 100), .int x1, .int x2] (wX8 g q1 S1) (wX8 g q1 F1) r s) (F0 m 112 ls [.int v113, .ref (q1 100)]) := by
                intro H locs ls hP hD hS hl
                refine k_put (ci := 8) (k := 4) (q0 := 0) (C := RX8) (T := TX8) (N := 46) (S2 := stI S112 4 v113) tyX8 (fun S => (wX8 g q1 S)) hC uX8_set_X8 tyX8_ok nmX8 hP hD hS rfl rfl (by decide) (List.mem_of_getElem? (i := 6) rfl) rfl (tyX8_ok 4 (by decide)) (Nat.le_of_ble_eq_true rfl) dX8_set_112 rfl h (fun S115 h H locs hP hD hS => ?_)
                refine lv_iload_n hx hb dX8_set_115 rfl (lv_at hl 0 rfl) ?_
                obtain ⟨rfl, rfl⟩ := fx_i2 h
                exact Ci.ret hC hr hlk hA9 hP hD hS dX8_set_116
              refine k_icmp_ne (tgt := 108) hC dX8_set_101 (by decide) hv114 (fun hv114 => ?_) (fun hv114 => ?_)
              · refine lv_aload_n hx hb dX8_set_108 rfl (lv_at hl 1 rfl) ?_
                refine k_get (ci := 8) (k := 4) (q0 := 0) (v := .int (S112.1 4)) (C := RX8) (T := TX8) (N := 46) hC uX8_set_X8 hP rfl rfl (by decide) (List.mem_of_getElem? (i := 6) rfl) rfl dX8_set_109 ?_
                obtain rfl := fx_i1 hv114
                exact K116 _ _ _ hP hD hS (lv_sub hl [0] rfl)
              · refine lv_iload_n hx hb dX8_set_104 rfl (lv_at hl 3 rfl) ?_
                refine lv_goto (tgt := 112) hx hb dX8_set_105 (by decide) ?_
                obtain rfl := fx_i1 hv114
                exact K116 _ _ _ hP hD hS (lv_sub hl [0] rfl)
            refine k_icmp_ne (tgt := 91) hC dX8_set_84 (by decide) hv111 (fun hv111 => ?_) (fun hv111 => ?_)
            · refine lv_aload_n hx hb dX8_set_91 rfl (lv_at hl 1 rfl) ?_
              refine k_get (ci := 8) (k := 3) (q0 := 0) (v := .int (S109.1 3)) (C := RX8) (T := TX8) (N := 46) hC uX8_set_X8 hP rfl rfl (by decide) (List.mem_of_getElem? (i := 5) rfl) rfl dX8_set_92 ?_
              obtain rfl := fx_i1 hv111
              exact K117 _ _ _ hP hD hS (lv_sub hl [0, 1, 2, 3] rfl)
            · refine lv_iload_n hx hb dX8_set_87 rfl (lv_at hl 3 rfl) ?_
              refine lv_goto (tgt := 95) hx hb dX8_set_88 (by decide) ?_
              obtain rfl := fx_i1 hv111
              exact K117 _ _ _ hP hD hS (lv_sub hl [0, 1, 2, 3] rfl)
          refine k_if_ne (tgt := 74) hC dX8_set_67 (by decide) hv108 (fun hv108 => ?_) (fun hv108 => ?_)
          · refine lv_aload_n hx hb dX8_set_74 rfl (lv_at hl 1 rfl) ?_
            refine k_get (ci := 8) (k := 2) (q0 := 0) (v := .int (S1.1 2)) (C := RX8) (T := TX8) (N := 46) hC uX8_set_X8 hP rfl rfl (by decide) (List.mem_of_getElem? (i := 4) rfl) rfl dX8_set_75 ?_
            obtain rfl := fx_i1 hv108
            exact K118 _ _ _ hP hD hS (lv_sub hl [0, 1, 2, 3] rfl)
          · refine lv_iload_n hx hb dX8_set_70 rfl (lv_at hl 3 rfl) ?_
            refine lv_goto (tgt := 78) hx hb dX8_set_71 (by decide) ?_
            obtain rfl := fx_i1 hv108
            exact K118 _ _ _ hP hD hS (lv_sub hl [0, 1, 2, 3] rfl)
        refine k_if_ne (tgt := 48) hC dX8_set_38 (by decide) hv106 (fun hv106 => ?_) (fun hv106 => ?_)
        · refine lv_iload_n hx hb dX8_set_48 rfl (lv_at hl 1 rfl) ?_
          refine lv_iconst (v := (1 : Int32)) hx hb dX8_set_49 (by decide) ?_
          refine k_icmp_ne (tgt := 60) hC dX8_set_50 (by decide) hv106 (fun hv106 => ?_) (fun hv106 => ?_)
          · refine lv_aload_n hx hb dX8_set_60 rfl (lv_at hl 0 rfl) ?_
            refine k_get (ci := 8) (k := 4) (q0 := 0) (v := .int (S1.1 4)) (C := RX8) (T := TX8) (N := 46) hC uX8_set_X8 hP rfl rfl (by decide) (List.mem_of_getElem? (i := 6) rfl) rfl dX8_set_61 ?_
            obtain rfl := fx_i1 hv106
            exact K119 _ _ _ hP hD hS (lv_sub hl [0, 1, 2] rfl)
          · refine lv_aload_n hx hb dX8_set_53 rfl (lv_at hl 0 rfl) ?_
            refine k_get (ci := 8) (k := 3) (q0 := 0) (v := .int (S1.1 3)) (C := RX8) (T := TX8) (N := 46) hC uX8_set_X8 hP rfl rfl (by decide) (List.mem_of_getElem? (i := 5) rfl) rfl dX8_set_54 ?_
            refine lv_goto (tgt := 64) hx hb dX8_set_57 (by decide) ?_
            obtain rfl := fx_i1 hv106
            exact K119 _ _ _ hP hD hS (lv_sub hl [0, 1, 2] rfl)
        · refine lv_aload_n hx hb dX8_set_41 rfl (lv_at hl 0 rfl) ?_
          refine k_get (ci := 8) (k := 2) (q0 := 0) (v := .int (S1.1 2)) (C := RX8) (T := TX8) (N := 46) hC uX8_set_X8 hP rfl rfl (by decide) (List.mem_of_getElem? (i := 4) rfl) rfl dX8_set_42 ?_
          refine lv_goto (tgt := 64) hx hb dX8_set_45 (by decide) ?_
          obtain rfl := fx_i1 hv106
          exact K119 _ _ _ hP hD hS (lv_sub hl [0, 1, 2] rfl)
      · refine lv_bipush (v := (-2 : Int32)) hx hb dX8_set_34 (by decide) ?_
        obtain ⟨rfl, rfl⟩ := fx_i2 h
        exact Ci.ret hC hr hlk hA9 hP hD hS dX8_set_36
    refine k_if_ne (tgt := 25) hC dX8_set_16 (by decide) hv103 (fun hv103 => ?_) (fun hv103 => ?_)
    · refine lv_ldc2 (v := (9 : Int64)) hx hb hown (hts _ (List.mem_of_getElem? (i := 3) rfl)) dX8_set_25 ?_
      obtain rfl := fx_i1 hv103
      exact K121 _ _ _ hP hD hS (lv_sub hl [0, 1, 2] rfl)
    · refine lv_ldc2 (v := (99 : Int64)) hx hb hown (hts _ (List.mem_of_getElem? (i := 2) rfl)) dX8_set_19 ?_
      refine lv_goto (tgt := 28) hx hb dX8_set_22 (by decide) ?_
      obtain rfl := fx_i1 hv103
      exact K121 _ _ _ hP hD hS (lv_sub hl [0, 1, 2] rfl)
theorem uX8_less_X8 : ∀ w ∈ u_ws RX8 TX8 46, w ∈ wsX8_less := fun w h => List.mem_cons_of_mem _ (List.mem_append_right _ h)
abbrev RM_X8_less : Room := { frames := 2, cells := 0, slots := 0, locals := 46 }
def f_X8_less (N : Nat) (S1 : St) (x1 : Int32) (x2 : Int32) : Option (Int32 × St) :=
  fx_b1 (f_X8_isPlace N S1 x1) (fun v101 =>
  (if v101 = 0 then (
  some ((-1 : Int32), S1)) else (
  fx_b1 (f_X8_in N (Int32.toInt64 x2) (0 : Int64) (9 : Int64)) (fun v102 =>
    (if v102 = 0 then (
    some ((-2 : Int32), S1)) else (
    fx_ald 6 (S1.2 6) x1 (fun v103 =>
      fx_ast 6 S1 6 x1 x2 (fun S104 =>
      some (v103, S104)))))))))
set_option maxRecDepth 100000 in
set_option maxHeartbeats 4000000 in
theorem c_X8_less (l : Launch) (g : GG) (N : Nat) (q1 : Nat → Nat) (S1 : St) (x1 : Int32) (x2 : Int32) (r : Int32) (F1 : St) (h : f_X8_less N S1 x1 x2 = some (r, F1)) : Ci l yX8_less wsX8_less RM_X8_less g [.ref (q1 100), .int x1, .int x2] (wX8 g q1 S1) (wX8 g q1 F1) r := by
  intro sz
  refine Met.ofC (cc := cX8_less) (maxL := 4) (ret := (some .int)) (by decide) rfl (Nat.le_of_ble_eq_true rfl) ?_
  intro p e s m below meth c hC hr hlk hsz A hA9 hA hP hD hS ls hl
  subst hsz
  have hC : Cx p s m ([.ref (q1 100), .int x1, .int x2] : List Value).toArray c RX8 cX8_less 4 wsX8_less g := hC
  have hx := hC.1.1
  have hb := hC.1.2.1
  have hml := hC.1.2.2.1
  have hown := hC.1.2.2.2.1
  have hts := hC.1.2.2.2.2
  have hl : lv_has ls 4 [(0, .ref (q1 100)), (1, .int x1), (2, .int x2)] := hl
  show W p l e RM_X8_less s m ([.ref (q1 100), .int x1, .int x2] : List Value).toArray below meth c s.heap [] 0 0 (Qi below g [.ref (q1 100), .int x1, .int x2] (wX8 g q1 S1) (wX8 g q1 F1) r s) (F0 m 0 ls [])
  unfold f_X8_less at h
  refine lv_aload_n hx hb dX8_less_0 rfl (lv_at hl 0 rfl) ?_
  refine lv_iload_n hx hb dX8_less_1 rfl (lv_at hl 1 rfl) ?_
  obtain ⟨v101, hc106, h⟩ := fx_b1_s h
  refine k_callVi0 (C := RX8) (ci := 8) (qr := 0) (n := 1) (As := [.int x1]) (rest := []) (wc := (wX8 g q1 S1)) (bytes := cX8_isPlace) (maxL := 2) (ret := (some .boolean)) hC hl.1 (c_X8_isPlace l g N q1 S1 x1 v101 hc106) rfl gX8_less_X8_isPlace (by decide +kernel) rfl rfl ⟨Nat.le_of_ble_eq_true rfl, Nat.le_of_ble_eq_true rfl⟩ rfl rfl rfl (Nat.le_of_ble_eq_true rfl) ⟨Nat.le_of_ble_eq_true rfl, Nat.le_of_ble_eq_true rfl⟩ dX8_less_2 hP hD hS hA [0, 1, 2, 3, 4, 5, 6, 7, 8, 9, 10, 11, 12, 13, 14, 15, 16, 17, 18, 19, 20, 21, 22, 23] rfl (by decide +kernel) (fun H locs hP hD hS => ?_)
  refine k_if_ne (tgt := 10) hC dX8_less_5 (by decide) h (fun h => ?_) (fun h => ?_)
  · refine lv_iload_n hx hb dX8_less_10 rfl (lv_at hl 2 rfl) ?_
    refine lv_i2l hx hb dX8_less_11 rfl ?_
    refine lv_lconst (v := (0 : Int64)) hx hb dX8_less_12 (by decide) ?_
    refine lv_ldc2 (v := (9 : Int64)) hx hb hown (hts _ (List.mem_of_getElem? (i := 1) rfl)) dX8_less_13 ?_
    obtain ⟨v102, hc105, h⟩ := fx_b1_s h
    refine k_callSi0 (n := 3) (As := [.long (Int32.toInt64 x2), .long (0 : Int64), .long (9 : Int64)]) (rest := []) (wc := ([] : va_W)) (bytes := cX8_in) (maxL := 6) (ret := (some .boolean)) hC hl.1 (c_X8_in l g N (Int32.toInt64 x2) (0 : Int64) (9 : Int64) v102 hc105) rfl gX8_less_X8_in (by decide +kernel) ⟨Nat.le_of_ble_eq_true rfl, Nat.le_of_ble_eq_true rfl⟩ rfl rfl rfl (Nat.le_of_ble_eq_true rfl) ⟨Nat.le_of_ble_eq_true rfl, Nat.le_of_ble_eq_true rfl⟩ dX8_less_16 hP hD hS hA [] rfl (by decide +kernel) (fun H locs hP hD hS => ?_)
    refine k_if_ne (tgt := 25) hC dX8_less_19 (by decide) h (fun h => ?_) (fun h => ?_)
    · refine lv_aload_n hx hb dX8_less_25 rfl (lv_at hl 0 rfl) ?_
      refine k_get (ci := 8) (k := 6) (q0 := 0) (v := .ref (q1 6)) (C := RX8) (T := TX8) (N := 46) hC uX8_less_X8 hP rfl rfl (by decide) (List.mem_of_getElem? (i := 2) rfl) rfl dX8_less_26 ?_
      refine lv_iload_n hx hb dX8_less_29 rfl (lv_at hl 1 rfl) ?_
      refine k_ald (q0 := 1) (n := 6) (F := S1.2 6) hC hP rfl dX8_less_30 h (fun v103 h => ?_)
      refine lv_istore_n (lv' := [(3, .int v103), (0, .ref (q1 100)), (1, .int x1), (2, .int x2)]) hx hb dX8_less_31 rfl hl (by decide) rfl (fun ls hl => ?_)
      refine lv_aload_n hx hb dX8_less_32 rfl (lv_at hl 1 rfl) ?_
      refine k_get (ci := 8) (k := 6) (q0 := 0) (v := .ref (q1 6)) (C := RX8) (T := TX8) (N := 46) hC uX8_less_X8 hP rfl rfl (by decide) (List.mem_of_getElem? (i := 2) rfl) rfl dX8_less_33 ?_
      refine lv_iload_n hx hb dX8_less_36 rfl (lv_at hl 2 rfl) ?_
      refine lv_iload_n hx hb dX8_less_37 rfl (lv_at hl 3 rfl) ?_
      refine k_ast (q0 := 1) (n := 6) (k := 6) (S := S1) (fun S => (wX8 g q1 S)) hC hP hD hS rfl (fun _ => rfl) dX8_less_38 h (fun S104 h H locs hP hD hS => ?_)
      refine lv_iload_n hx hb dX8_less_39 rfl (lv_at hl 0 rfl) ?_
      obtain ⟨rfl, rfl⟩ := fx_i2 h
      exact Ci.ret hC hr hlk hA9 hP hD hS dX8_less_40
    · refine lv_bipush (v := (-2 : Int32)) hx hb dX8_less_22 (by decide) ?_
      obtain ⟨rfl, rfl⟩ := fx_i2 h
      exact Ci.ret hC hr hlk hA9 hP hD hS dX8_less_24
  · refine lv_iconst (v := (-1 : Int32)) hx hb dX8_less_8 (by decide) ?_
    obtain ⟨rfl, rfl⟩ := fx_i2 h
    exact Ci.ret hC hr hlk hA9 hP hD hS dX8_less_9
abbrev RM_X8_ones : Room := { frames := 0, cells := 0, slots := 0, locals := 0 }
def bd_X8_ones_4 (N : Nat) (x1 : Int32) (x2 : Int32) (rec : (Int32 × Int32) → Option (Int32)) : Option (Int32) :=
  (if x2 = 0 then (
    some x1) else (
    fx_lt (x1 + (1 : Int32)) (fun x101 =>
      fx_lt (x2 &&& (x2 - (1 : Int32))) (fun x102 =>
      rec (x101, x102)))))
def lf_X8_ones_4 (N : Nat) : (Int32 × Int32) → ((Int32 × Int32) → Option (Int32)) → Option (Int32) := fun x rec => bd_X8_ones_4 N x.1 x.2 rec
set_option maxRecDepth 100000 in
set_option maxHeartbeats 4000000 in
theorem lw_X8_ones_4 {p : Program} {l : Launch} {e : Env} {s : State} {m : MethodId} {args : Array Value} {below : List Frame} {meth : Method} {c : Code} {Q : State → Prop} {A : Nat → Prop} {H0 : Heap} {g : GG} (hC : Cx p s m args c RX8 cX8_ones 3 wsX8_ones g) (hA : ∀ q : Nat, H0.size ≤ q → A q) (N : Nat)  : ∀ (n : Nat) (x1 : Int32) (x2 : Int32) (o : Int32), fx_it (lf_X8_ones_4 N) n (x1, x2) = some o → ∀ (H : Heap) (locs : List Loc) (ls : Array Slot), va_P g.1 vwCl ([] : va_W) H → va_D A ([] : va_W) → va_S A H0 H locs → lv_has ls 3 [(1, .int x1), (2, .int x2)] → (∀ (z0 : Int32), o = z0 → ∀ (H : Heap) (locs : List Loc) (ls : Array Slot), va_P g.1 vwCl ([] : va_W) H → va_D A ([] : va_W) → va_S A H0 H locs → lv_has ls 3 [(1, .int z0)] → W p l e RM_X8_ones s m args below meth c H locs 0 0 Q (F0 m 20 ls [])) → W p l e RM_X8_ones s m args below meth c H locs 0 0 Q (F0 m 4 ls []) := by
  have hx := hC.1.1
  have hb := hC.1.2.1
  have hml := hC.1.2.2.1
  have hown := hC.1.2.2.2.1
  have hts := hC.1.2.2.2.2
  intro n
  induction n with
  | zero => intro x1 x2 o h; cases h
  | succ n ih =>
    intro x1 x2 o h H locs ls hP hD hS hl k0
    have h : bd_X8_ones_4 N x1 x2 (fx_it (lf_X8_ones_4 N) n) = some o := h
    unfold bd_X8_ones_4 at h
    refine lv_iload_n hx hb dX8_ones_4 rfl (lv_at hl 1 rfl) ?_
    refine k_if_eq (tgt := 20) hC dX8_ones_5 (by decide) h (fun h => ?_) (fun h => ?_)
    · exact k0 x1 (Option.some.inj h).symm _ _ _ hP hD hS (lv_sub hl [0] rfl)
    · refine k_iinc (v := (1 : Int32)) (lv' := fun X => [(1, .int X), (2, .int x2)]) hC dX8_ones_8 hl (k := 0) rfl (by decide) (by decide) (fun _ => rfl) h (fun x101 h ls hl => ?_)
      refine lv_iload_n hx hb dX8_ones_11 rfl (lv_at hl 1 rfl) ?_
      refine lv_iload_n hx hb dX8_ones_12 rfl (lv_at hl 1 rfl) ?_
      refine lv_iconst (v := (1 : Int32)) hx hb dX8_ones_13 (by decide) ?_
      refine lv_isub hx hb dX8_ones_14 ?_
      refine lv_iand hx hb dX8_ones_15 ?_
      refine k_topi h (fun x102 h => ?_)
      refine lv_istore_n (lv' := [(2, .int x102), (1, .int x101)]) hx hb dX8_ones_16 rfl hl (by decide) rfl (fun ls hl => ?_)
      refine lv_goto (tgt := 4) hx hb dX8_ones_17 (by decide) ?_
      exact ih x101 x102 o h _ _ _ hP hD hS (lv_sub hl [1, 0] rfl) k0
def f_X8_ones (N : Nat) (x0 : Int32) : Option (Int32) :=
  fx_b1 (fx_it (lf_X8_ones_4 N) N ((0 : Int32), x0)) (fun x101 =>
  some x101)
set_option maxRecDepth 100000 in
set_option maxHeartbeats 4000000 in
theorem c_X8_ones (l : Launch) (g : GG) (N : Nat) (x0 : Int32) (r : Int32) (h : f_X8_ones N x0 = some r) : Ci l yX8_ones wsX8_ones RM_X8_ones g [.int x0] ([] : va_W) ([] : va_W) r := by
  intro sz
  refine Met.ofC (cc := cX8_ones) (maxL := 3) (ret := (some .int)) (by decide) rfl (Nat.le_of_ble_eq_true rfl) ?_
  intro p e s m below meth c hC hr hlk hsz A hA9 hA hP hD hS ls hl
  subst hsz
  have hC : Cx p s m ([.int x0] : List Value).toArray c RX8 cX8_ones 3 wsX8_ones g := hC
  have hx := hC.1.1
  have hb := hC.1.2.1
  have hml := hC.1.2.2.1
  have hown := hC.1.2.2.2.1
  have hts := hC.1.2.2.2.2
  have hl : lv_has ls 3 [(0, .int x0)] := hl
  show W p l e RM_X8_ones s m ([.int x0] : List Value).toArray below meth c s.heap [] 0 0 (Qi below g [.int x0] ([] : va_W) ([] : va_W) r s) (F0 m 0 ls [])
  unfold f_X8_ones at h
  refine lv_iconst (v := (0 : Int32)) hx hb dX8_ones_0 (by decide) ?_
  refine lv_istore_n (lv' := [(1, .int (0 : Int32)), (0, .int x0)]) hx hb dX8_ones_1 rfl hl (by decide) rfl (fun ls hl => ?_)
  refine lv_iload_n hx hb dX8_ones_2 rfl (lv_at hl 1 rfl) ?_
  refine lv_istore_n (lv' := [(2, .int x0), (1, .int (0 : Int32)), (0, .int x0)]) hx hb dX8_ones_3 rfl hl (by decide) rfl (fun ls hl => ?_)
  obtain ⟨x101, ho102, h⟩ := fx_b1_s h
  refine lw_X8_ones_4 hC hA N N (0 : Int32) x0  x101 ho102 _ _ _ hP hD hS (lv_sub hl [1, 0] rfl) ?_
  · intro y0 he H locs ls hP hD hS hl
    obtain rfl := he
    refine lv_iload_n hx hb dX8_ones_20 rfl (lv_at hl 0 rfl) ?_
    obtain rfl := fx_i1 h
    exact Ci.ret hC hr hlk hA9 hP hD hS dX8_ones_21
theorem uX8_sort_X8 : ∀ w ∈ u_ws RX8 TX8 46, w ∈ wsX8_sort := fun w h => List.mem_cons_of_mem _ (List.mem_append_right _ h)
abbrev RM_X8_sort : Room := { frames := 2, cells := 0, slots := 0, locals := 45 }
def f_X8_sort (N : Nat) (S1 : St) (x1 : Int32) (x2 : Int32) (x3 : Int32) (x4 : Int32) : Option (Int32 × St) :=
  fx_b1 (f_X8_isNumber N x1) (fun v101 =>
  (if v101 = 0 then (
  some ((-1 : Int32), S1)) else (
  fx_b1 (f_X8_in N (Int32.toInt64 x2) (1 : Int64) (500 : Int64)) (fun v102 =>
    (if v102 = 0 then (
    some ((-2 : Int32), S1)) else (
    fx_b1 (f_X8_in N (Int32.toInt64 x3) (0 : Int64) (500 : Int64)) (fun v103 =>
      (if v103 = 0 then (
      some ((-2 : Int32), S1)) else (
      fx_b1 (f_X8_in N (Int32.toInt64 x4) (0 : Int64) (99 : Int64)) (fun v104 =>
        (if v104 = 0 then (
        some ((-2 : Int32), S1)) else (
        fx_ast 6 S1 8 x1 x2 (fun S105 =>
          fx_ast 6 S105 9 x1 x3 (fun S106 =>
          fx_ast 6 S106 10 x1 x4 (fun S107 =>
          fx_lt (stI S107 7 ((S107.1 7) ||| ((1 : Int32) <<< (x1 &&& 31)))) (fun S108 =>
          fx_b1 (f_X8_ones N (S108.1 7)) (fun v109 =>
          some (v109, S108))))))))))))))))))
set_option maxRecDepth 100000 in
set_option maxHeartbeats 4000000 in
theorem c_X8_sort (l : Launch) (g : GG) (N : Nat) (q1 : Nat → Nat) (S1 : St) (x1 : Int32) (x2 : Int32) (x3 : Int32) (x4 : Int32) (r : Int32) (F1 : St) (h : f_X8_sort N S1 x1 x2 x3 x4 = some (r, F1)) : Ci l yX8_sort wsX8_sort RM_X8_sort g [.ref (q1 100), .int x1, .int x2, .int x3, .int x4] (wX8 g q1 S1) (wX8 g q1 F1) r := by
  intro sz
  refine Met.ofC (cc := cX8_sort) (maxL := 5) (ret := (some .int)) (by decide) rfl (Nat.le_of_ble_eq_true rfl) ?_
  intro p e s m below meth c hC hr hlk hsz A hA9 hA hP hD hS ls hl
  subst hsz
  have hC : Cx p s m ([.ref (q1 100), .int x1, .int x2, .int x3, .int x4] : List Value).toArray c RX8 cX8_sort 5 wsX8_sort g := hC
  have hx := hC.1.1
  have hb := hC.1.2.1
  have hml := hC.1.2.2.1
  have hown := hC.1.2.2.2.1
  have hts := hC.1.2.2.2.2
  have hl : lv_has ls 5 [(0, .ref (q1 100)), (1, .int x1), (2, .int x2), (3, .int x3), (4, .int x4)] := hl
  show W p l e RM_X8_sort s m ([.ref (q1 100), .int x1, .int x2, .int x3, .int x4] : List Value).toArray below meth c s.heap [] 0 0 (Qi below g [.ref (q1 100), .int x1, .int x2, .int x3, .int x4] (wX8 g q1 S1) (wX8 g q1 F1) r s) (F0 m 0 ls [])
  unfold f_X8_sort at h
  refine lv_iload_n hx hb dX8_sort_0 rfl (lv_at hl 1 rfl) ?_
  obtain ⟨v101, hc114, h⟩ := fx_b1_s h
  refine k_callSi0 (n := 1) (As := [.int x1]) (rest := []) (wc := ([] : va_W)) (bytes := cX8_isNumber) (maxL := 1) (ret := (some .boolean)) hC hl.1 (c_X8_isNumber l g N x1 v101 hc114) rfl gX8_sort_X8_isNumber (by decide +kernel) ⟨Nat.le_of_ble_eq_true rfl, Nat.le_of_ble_eq_true rfl⟩ rfl rfl rfl (Nat.le_of_ble_eq_true rfl) ⟨Nat.le_of_ble_eq_true rfl, Nat.le_of_ble_eq_true rfl⟩ dX8_sort_1 hP hD hS hA [] rfl (by decide +kernel) (fun H locs hP hD hS => ?_)
  refine k_if_ne (tgt := 9) hC dX8_sort_4 (by decide) h (fun h => ?_) (fun h => ?_)
  · refine lv_iload_n hx hb dX8_sort_9 rfl (lv_at hl 2 rfl) ?_
    refine lv_i2l hx hb dX8_sort_10 rfl ?_
    refine lv_lconst (v := (1 : Int64)) hx hb dX8_sort_11 (by decide) ?_
    refine lv_ldc2 (v := (500 : Int64)) hx hb hown (hts _ (List.mem_of_getElem? (i := 1) rfl)) dX8_sort_12 ?_
    obtain ⟨v102, hc113, h⟩ := fx_b1_s h
    refine k_callSi0 (n := 3) (As := [.long (Int32.toInt64 x2), .long (1 : Int64), .long (500 : Int64)]) (rest := []) (wc := ([] : va_W)) (bytes := cX8_in) (maxL := 6) (ret := (some .boolean)) hC hl.1 (c_X8_in l g N (Int32.toInt64 x2) (1 : Int64) (500 : Int64) v102 hc113) rfl gX8_sort_X8_in (by decide +kernel) ⟨Nat.le_of_ble_eq_true rfl, Nat.le_of_ble_eq_true rfl⟩ rfl rfl rfl (Nat.le_of_ble_eq_true rfl) ⟨Nat.le_of_ble_eq_true rfl, Nat.le_of_ble_eq_true rfl⟩ dX8_sort_15 hP hD hS hA [] rfl (by decide +kernel) (fun H locs hP hD hS => ?_)
    refine k_if_eq (tgt := 46) hC dX8_sort_18 (by decide) h (fun h => ?_) (fun h => ?_)
    · refine lv_bipush (v := (-2 : Int32)) hx hb dX8_sort_46 (by decide) ?_
      obtain ⟨rfl, rfl⟩ := fx_i2 h
      exact Ci.ret hC hr hlk hA9 hP hD hS dX8_sort_48
    · refine lv_iload_n hx hb dX8_sort_21 rfl (lv_at hl 3 rfl) ?_
      refine lv_i2l hx hb dX8_sort_22 rfl ?_
      refine lv_lconst (v := (0 : Int64)) hx hb dX8_sort_23 (by decide) ?_
      refine lv_ldc2 (v := (500 : Int64)) hx hb hown (hts _ (List.mem_of_getElem? (i := 1) rfl)) dX8_sort_24 ?_
      obtain ⟨v103, hc112, h⟩ := fx_b1_s h
      refine k_callSi0 (n := 3) (As := [.long (Int32.toInt64 x3), .long (0 : Int64), .long (500 : Int64)]) (rest := []) (wc := ([] : va_W)) (bytes := cX8_in) (maxL := 6) (ret := (some .boolean)) hC hl.1 (c_X8_in l g N (Int32.toInt64 x3) (0 : Int64) (500 : Int64) v103 hc112) rfl gX8_sort_X8_in (by decide +kernel) ⟨Nat.le_of_ble_eq_true rfl, Nat.le_of_ble_eq_true rfl⟩ rfl rfl rfl (Nat.le_of_ble_eq_true rfl) ⟨Nat.le_of_ble_eq_true rfl, Nat.le_of_ble_eq_true rfl⟩ dX8_sort_27 hP hD hS hA [] rfl (by decide +kernel) (fun H locs hP hD hS => ?_)
      refine k_if_eq (tgt := 46) hC dX8_sort_30 (by decide) h (fun h => ?_) (fun h => ?_)
      · refine lv_bipush (v := (-2 : Int32)) hx hb dX8_sort_46 (by decide) ?_
        obtain ⟨rfl, rfl⟩ := fx_i2 h
        exact Ci.ret hC hr hlk hA9 hP hD hS dX8_sort_48
      · refine lv_iload hx hb dX8_sort_33 (lv_at hl 4 rfl) ?_
        refine lv_i2l hx hb dX8_sort_35 rfl ?_
        refine lv_lconst (v := (0 : Int64)) hx hb dX8_sort_36 (by decide) ?_
        refine lv_ldc2 (v := (99 : Int64)) hx hb hown (hts _ (List.mem_of_getElem? (i := 2) rfl)) dX8_sort_37 ?_
        obtain ⟨v104, hc111, h⟩ := fx_b1_s h
        refine k_callSi0 (n := 3) (As := [.long (Int32.toInt64 x4), .long (0 : Int64), .long (99 : Int64)]) (rest := []) (wc := ([] : va_W)) (bytes := cX8_in) (maxL := 6) (ret := (some .boolean)) hC hl.1 (c_X8_in l g N (Int32.toInt64 x4) (0 : Int64) (99 : Int64) v104 hc111) rfl gX8_sort_X8_in (by decide +kernel) ⟨Nat.le_of_ble_eq_true rfl, Nat.le_of_ble_eq_true rfl⟩ rfl rfl rfl (Nat.le_of_ble_eq_true rfl) ⟨Nat.le_of_ble_eq_true rfl, Nat.le_of_ble_eq_true rfl⟩ dX8_sort_40 hP hD hS hA [] rfl (by decide +kernel) (fun H locs hP hD hS => ?_)
        refine k_if_ne (tgt := 49) hC dX8_sort_43 (by decide) h (fun h => ?_) (fun h => ?_)
        · refine lv_aload_n hx hb dX8_sort_49 rfl (lv_at hl 0 rfl) ?_
          refine k_get (ci := 8) (k := 8) (q0 := 0) (v := .ref (q1 8)) (C := RX8) (T := TX8) (N := 46) hC uX8_sort_X8 hP rfl rfl (by decide) (List.mem_of_getElem? (i := 3) rfl) rfl dX8_sort_50 ?_
          refine lv_iload_n hx hb dX8_sort_53 rfl (lv_at hl 1 rfl) ?_
          refine lv_iload_n hx hb dX8_sort_54 rfl (lv_at hl 2 rfl) ?_
          refine k_ast (q0 := 2) (n := 6) (k := 8) (S := S1) (fun S => (wX8 g q1 S)) hC hP hD hS rfl (fun _ => rfl) dX8_sort_55 h (fun S105 h H locs hP hD hS => ?_)
          refine lv_aload_n hx hb dX8_sort_56 rfl (lv_at hl 0 rfl) ?_
          refine k_get (ci := 8) (k := 9) (q0 := 0) (v := .ref (q1 9)) (C := RX8) (T := TX8) (N := 46) hC uX8_sort_X8 hP rfl rfl (by decide) (List.mem_of_getElem? (i := 4) rfl) rfl dX8_sort_57 ?_
          refine lv_iload_n hx hb dX8_sort_60 rfl (lv_at hl 1 rfl) ?_
          refine lv_iload_n hx hb dX8_sort_61 rfl (lv_at hl 3 rfl) ?_
          refine k_ast (q0 := 3) (n := 6) (k := 9) (S := S105) (fun S => (wX8 g q1 S)) hC hP hD hS rfl (fun _ => rfl) dX8_sort_62 h (fun S106 h H locs hP hD hS => ?_)
          refine lv_aload_n hx hb dX8_sort_63 rfl (lv_at hl 0 rfl) ?_
          refine k_get (ci := 8) (k := 10) (q0 := 0) (v := .ref (q1 10)) (C := RX8) (T := TX8) (N := 46) hC uX8_sort_X8 hP rfl rfl (by decide) (List.mem_of_getElem? (i := 5) rfl) rfl dX8_sort_64 ?_
          refine lv_iload_n hx hb dX8_sort_67 rfl (lv_at hl 1 rfl) ?_
          refine lv_iload hx hb dX8_sort_68 (lv_at hl 4 rfl) ?_
          refine k_ast (q0 := 4) (n := 6) (k := 10) (S := S106) (fun S => (wX8 g q1 S)) hC hP hD hS rfl (fun _ => rfl) dX8_sort_70 h (fun S107 h H locs hP hD hS => ?_)
          refine lv_aload_n hx hb dX8_sort_71 rfl (lv_at hl 0 rfl) ?_
          refine lv_dup hx hb dX8_sort_72 rfl ?_
          refine k_get (ci := 8) (k := 7) (q0 := 0) (v := .int (S107.1 7)) (C := RX8) (T := TX8) (N := 46) hC uX8_sort_X8 hP rfl rfl (by decide) (List.mem_of_getElem? (i := 6) rfl) rfl dX8_sort_73 ?_
          refine lv_iconst (v := (1 : Int32)) hx hb dX8_sort_76 (by decide) ?_
          refine lv_iload_n hx hb dX8_sort_77 rfl (lv_at hl 1 rfl) ?_
          refine lv_ishl hx hb dX8_sort_78 ?_
          refine lv_ior hx hb dX8_sort_79 ?_
          refine k_put (ci := 8) (k := 7) (q0 := 0) (C := RX8) (T := TX8) (N := 46) (S2 := stI S107 7 ((S107.1 7) ||| ((1 : Int32) <<< (x1 &&& 31)))) tyX8 (fun S => (wX8 g q1 S)) hC uX8_sort_X8 tyX8_ok nmX8 hP hD hS rfl rfl (by decide) (List.mem_of_getElem? (i := 6) rfl) rfl (tyX8_ok 7 (by decide)) (Nat.le_of_ble_eq_true rfl) dX8_sort_80 rfl h (fun S108 h H locs hP hD hS => ?_)
          refine lv_aload_n hx hb dX8_sort_83 rfl (lv_at hl 0 rfl) ?_
          refine k_get (ci := 8) (k := 7) (q0 := 0) (v := .int (S108.1 7)) (C := RX8) (T := TX8) (N := 46) hC uX8_sort_X8 hP rfl rfl (by decide) (List.mem_of_getElem? (i := 6) rfl) rfl dX8_sort_84 ?_
          obtain ⟨v109, hc110, h⟩ := fx_b1_s h
          refine k_callSi0 (n := 1) (As := [.int (S108.1 7)]) (rest := []) (wc := ([] : va_W)) (bytes := cX8_ones) (maxL := 3) (ret := (some .int)) hC hl.1 (c_X8_ones l g N (S108.1 7) v109 hc110) rfl gX8_sort_X8_ones (by decide +kernel) ⟨Nat.le_of_ble_eq_true rfl, Nat.le_of_ble_eq_true rfl⟩ rfl rfl rfl (Nat.le_of_ble_eq_true rfl) ⟨Nat.le_of_ble_eq_true rfl, Nat.le_of_ble_eq_true rfl⟩ dX8_sort_87 hP hD hS hA [] rfl (by decide +kernel) (fun H locs hP hD hS => ?_)
          obtain ⟨rfl, rfl⟩ := fx_i2 h
          exact Ci.ret hC hr hlk hA9 hP hD hS dX8_sort_90
        · refine lv_bipush (v := (-2 : Int32)) hx hb dX8_sort_46 (by decide) ?_
          obtain ⟨rfl, rfl⟩ := fx_i2 h
          exact Ci.ret hC hr hlk hA9 hP hD hS dX8_sort_48
  · refine lv_iconst (v := (-1 : Int32)) hx hb dX8_sort_7 (by decide) ?_
    obtain ⟨rfl, rfl⟩ := fx_i2 h
    exact Ci.ret hC hr hlk hA9 hP hD hS dX8_sort_8
theorem uX8_apart_X8 : ∀ w ∈ u_ws RX8 TX8 46, w ∈ wsX8_apart := fun w h => List.mem_cons_of_mem _ (List.mem_append_right _ h)
abbrev RM_X8_apart : Room := { frames := 2, cells := 0, slots := 0, locals := 45 }
def f_X8_apart (N : Nat) (S1 : St) (x1 : Int32) (x2 : Int32) (x3 : Int32) : Option (Int32 × St) :=
  fx_b1 (f_X8_isNumber N x1) (fun v101 =>
  (if v101 = 0 then (
  some ((-1 : Int32), S1)) else (
  fx_b1 (f_X8_isNumber N x2) (fun v102 =>
    (if v102 = 0 then (
    some ((-1 : Int32), S1)) else (
    fx_b1 ((if x3 = 0 then (
      fx_ald 6 (S1.2 11) x1 (fun v113 =>
        some (v113 &&& (((1 : Int32) <<< (x2 &&& 31)) ^^^ (-1 : Int32))))) else (
      fx_ald 6 (S1.2 11) x1 (fun v114 =>
        some (v114 ||| ((1 : Int32) <<< (x2 &&& 31)))))) : Option (Int32)) (fun v103 =>
      fx_ast 6 S1 11 x1 v103 (fun S105 =>
        fx_b1 ((if x3 = 0 then (
        fx_ald 6 (S105.2 11) x2 (fun v110 =>
          some (v110 &&& (((1 : Int32) <<< (x1 &&& 31)) ^^^ (-1 : Int32))))) else (
        fx_ald 6 (S105.2 11) x2 (fun v111 =>
          some (v111 ||| ((1 : Int32) <<< (x1 &&& 31)))))) : Option (Int32)) (fun v106 =>
        fx_ast 6 S105 11 x2 v106 (fun S108 =>
          some ((1 : Int32), S108)))))))))))
set_option maxRecDepth 100000 in
set_option maxHeartbeats 4000000 in
theorem c_X8_apart (l : Launch) (g : GG) (N : Nat) (q1 : Nat → Nat) (S1 : St) (x1 : Int32) (x2 : Int32) (x3 : Int32) (r : Int32) (F1 : St) (h : f_X8_apart N S1 x1 x2 x3 = some (r, F1)) : Ci l yX8_apart wsX8_apart RM_X8_apart g [.ref (q1 100), .int x1, .int x2, .int x3] (wX8 g q1 S1) (wX8 g q1 F1) r := by
  intro sz
  refine Met.ofC (cc := cX8_apart) (maxL := 4) (ret := (some .int)) (by decide) rfl (Nat.le_of_ble_eq_true rfl) ?_
  intro p e s m below meth c hC hr hlk hsz A hA9 hA hP hD hS ls hl
  subst hsz
  have hC : Cx p s m ([.ref (q1 100), .int x1, .int x2, .int x3] : List Value).toArray c RX8 cX8_apart 4 wsX8_apart g := hC
  have hx := hC.1.1
  have hb := hC.1.2.1
  have hml := hC.1.2.2.1
  have hown := hC.1.2.2.2.1
  have hts := hC.1.2.2.2.2
  have hl : lv_has ls 4 [(0, .ref (q1 100)), (1, .int x1), (2, .int x2), (3, .int x3)] := hl
  show W p l e RM_X8_apart s m ([.ref (q1 100), .int x1, .int x2, .int x3] : List Value).toArray below meth c s.heap [] 0 0 (Qi below g [.ref (q1 100), .int x1, .int x2, .int x3] (wX8 g q1 S1) (wX8 g q1 F1) r s) (F0 m 0 ls [])
  unfold f_X8_apart at h
  refine lv_iload_n hx hb dX8_apart_0 rfl (lv_at hl 1 rfl) ?_
  obtain ⟨v101, hc116, h⟩ := fx_b1_s h
  refine k_callSi0 (n := 1) (As := [.int x1]) (rest := []) (wc := ([] : va_W)) (bytes := cX8_isNumber) (maxL := 1) (ret := (some .boolean)) hC hl.1 (c_X8_isNumber l g N x1 v101 hc116) rfl gX8_apart_X8_isNumber (by decide +kernel) ⟨Nat.le_of_ble_eq_true rfl, Nat.le_of_ble_eq_true rfl⟩ rfl rfl rfl (Nat.le_of_ble_eq_true rfl) ⟨Nat.le_of_ble_eq_true rfl, Nat.le_of_ble_eq_true rfl⟩ dX8_apart_1 hP hD hS hA [] rfl (by decide +kernel) (fun H locs hP hD hS => ?_)
  refine k_if_eq (tgt := 14) hC dX8_apart_4 (by decide) h (fun h => ?_) (fun h => ?_)
  · refine lv_iconst (v := (-1 : Int32)) hx hb dX8_apart_14 (by decide) ?_
    obtain ⟨rfl, rfl⟩ := fx_i2 h
    exact Ci.ret hC hr hlk hA9 hP hD hS dX8_apart_15
  · refine lv_iload_n hx hb dX8_apart_7 rfl (lv_at hl 2 rfl) ?_
    obtain ⟨v102, hc115, h⟩ := fx_b1_s h
    refine k_callSi0 (n := 1) (As := [.int x2]) (rest := []) (wc := ([] : va_W)) (bytes := cX8_isNumber) (maxL := 1) (ret := (some .boolean)) hC hl.1 (c_X8_isNumber l g N x2 v102 hc115) rfl gX8_apart_X8_isNumber (by decide +kernel) ⟨Nat.le_of_ble_eq_true rfl, Nat.le_of_ble_eq_true rfl⟩ rfl rfl rfl (Nat.le_of_ble_eq_true rfl) ⟨Nat.le_of_ble_eq_true rfl, Nat.le_of_ble_eq_true rfl⟩ dX8_apart_8 hP hD hS hA [] rfl (by decide +kernel) (fun H locs hP hD hS => ?_)
    refine k_if_ne (tgt := 16) hC dX8_apart_11 (by decide) h (fun h => ?_) (fun h => ?_)
    · refine lv_aload_n hx hb dX8_apart_16 rfl (lv_at hl 0 rfl) ?_
      refine k_get (ci := 8) (k := 11) (q0 := 0) (v := .ref (q1 11)) (C := RX8) (T := TX8) (N := 46) hC uX8_apart_X8 hP rfl rfl (by decide) (List.mem_of_getElem? (i := 1) rfl) rfl dX8_apart_17 ?_
      refine lv_iload_n hx hb dX8_apart_20 rfl (lv_at hl 1 rfl) ?_
      refine lv_iload_n hx hb dX8_apart_21 rfl (lv_at hl 3 rfl) ?_
      obtain ⟨v103, hv104, h⟩ := fx_b1_s h
      have K112 : ∀ (H : Heap) (locs : List Loc) (ls : Array Slot), va_P g.1 vwCl (wX8 g q1 S1) H → va_D A (wX8 g q1 S1) → va_S A s.heap H locs → lv_has ls 4 [(0, .ref (q1 100)), (1, .int x1), (2, .int x2), (3, .int x3)] → W p l e RM_X8_apart s m ([.ref (q1 100), .int x1, .int x2, .int x3] : List Value).toArray below meth c H locs 0 0 (Qi below g [.ref (q1 100), .int x1, .int x2, .int x3] (wX8 g q1 S1) (wX8 g q1 F1) r s) (F0 m 50 ls [.int v103, .int x1, .ref (q1 11)]) := by
        intro H locs ls hP hD hS hl
        refine k_ast (q0 := 5) (n := 6) (k := 11) (S := S1) (fun S => (wX8 g q1 S)) hC hP hD hS rfl (fun _ => rfl) dX8_apart_50 h (fun S105 h H locs hP hD hS => ?_)
        refine lv_aload_n hx hb dX8_apart_51 rfl (lv_at hl 0 rfl) ?_
        refine k_get (ci := 8) (k := 11) (q0 := 0) (v := .ref (q1 11)) (C := RX8) (T := TX8) (N := 46) hC uX8_apart_X8 hP rfl rfl (by decide) (List.mem_of_getElem? (i := 1) rfl) rfl dX8_apart_52 ?_
        refine lv_iload_n hx hb dX8_apart_55 rfl (lv_at hl 2 rfl) ?_
        refine lv_iload_n hx hb dX8_apart_56 rfl (lv_at hl 3 rfl) ?_
        obtain ⟨v106, hv107, h⟩ := fx_b1_s h
        have K109 : ∀ (H : Heap) (locs : List Loc) (ls : Array Slot), va_P g.1 vwCl (wX8 g q1 S105) H → va_D A (wX8 g q1 S105) → va_S A s.heap H locs → lv_has ls 4 [] → W p l e RM_X8_apart s m ([.ref (q1 100), .int x1, .int x2, .int x3] : List Value).toArray below meth c H locs 0 0 (Qi below g [.ref (q1 100), .int x1, .int x2, .int x3] (wX8 g q1 S1) (wX8 g q1 F1) r s) (F0 m 85 ls [.int v106, .int x2, .ref (q1 11)]) := by
          intro H locs ls hP hD hS hl
          refine k_ast (q0 := 5) (n := 6) (k := 11) (S := S105) (fun S => (wX8 g q1 S)) hC hP hD hS rfl (fun _ => rfl) dX8_apart_85 h (fun S108 h H locs hP hD hS => ?_)
          refine lv_iconst (v := (1 : Int32)) hx hb dX8_apart_86 (by decide) ?_
          obtain ⟨rfl, rfl⟩ := fx_i2 h
          exact Ci.ret hC hr hlk hA9 hP hD hS dX8_apart_87
        refine k_if_eq (tgt := 73) hC dX8_apart_57 (by decide) hv107 (fun hv107 => ?_) (fun hv107 => ?_)
        · refine lv_aload_n hx hb dX8_apart_73 rfl (lv_at hl 0 rfl) ?_
          refine k_get (ci := 8) (k := 11) (q0 := 0) (v := .ref (q1 11)) (C := RX8) (T := TX8) (N := 46) hC uX8_apart_X8 hP rfl rfl (by decide) (List.mem_of_getElem? (i := 1) rfl) rfl dX8_apart_74 ?_
          refine lv_iload_n hx hb dX8_apart_77 rfl (lv_at hl 2 rfl) ?_
          refine k_ald (q0 := 5) (n := 6) (F := S105.2 11) hC hP rfl dX8_apart_78 hv107 (fun v110 hv107 => ?_)
          refine lv_iconst (v := (1 : Int32)) hx hb dX8_apart_79 (by decide) ?_
          refine lv_iload_n hx hb dX8_apart_80 rfl (lv_at hl 1 rfl) ?_
          refine lv_ishl hx hb dX8_apart_81 ?_
          refine lv_iconst (v := (-1 : Int32)) hx hb dX8_apart_82 (by decide) ?_
          refine lv_ixor hx hb dX8_apart_83 ?_
          refine lv_iand hx hb dX8_apart_84 ?_
          obtain rfl := fx_i1 hv107
          exact K109 _ _ _ hP hD hS (lv_sub hl [] rfl)
        · refine lv_aload_n hx hb dX8_apart_60 rfl (lv_at hl 0 rfl) ?_
          refine k_get (ci := 8) (k := 11) (q0 := 0) (v := .ref (q1 11)) (C := RX8) (T := TX8) (N := 46) hC uX8_apart_X8 hP rfl rfl (by decide) (List.mem_of_getElem? (i := 1) rfl) rfl dX8_apart_61 ?_
          refine lv_iload_n hx hb dX8_apart_64 rfl (lv_at hl 2 rfl) ?_
          refine k_ald (q0 := 5) (n := 6) (F := S105.2 11) hC hP rfl dX8_apart_65 hv107 (fun v111 hv107 => ?_)
          refine lv_iconst (v := (1 : Int32)) hx hb dX8_apart_66 (by decide) ?_
          refine lv_iload_n hx hb dX8_apart_67 rfl (lv_at hl 1 rfl) ?_
          refine lv_ishl hx hb dX8_apart_68 ?_
          refine lv_ior hx hb dX8_apart_69 ?_
          refine lv_goto (tgt := 85) hx hb dX8_apart_70 (by decide) ?_
          obtain rfl := fx_i1 hv107
          exact K109 _ _ _ hP hD hS (lv_sub hl [] rfl)
      refine k_if_eq (tgt := 38) hC dX8_apart_22 (by decide) hv104 (fun hv104 => ?_) (fun hv104 => ?_)
      · refine lv_aload_n hx hb dX8_apart_38 rfl (lv_at hl 0 rfl) ?_
        refine k_get (ci := 8) (k := 11) (q0 := 0) (v := .ref (q1 11)) (C := RX8) (T := TX8) (N := 46) hC uX8_apart_X8 hP rfl rfl (by decide) (List.mem_of_getElem? (i := 1) rfl) rfl dX8_apart_39 ?_
        refine lv_iload_n hx hb dX8_apart_42 rfl (lv_at hl 1 rfl) ?_
        refine k_ald (q0 := 5) (n := 6) (F := S1.2 11) hC hP rfl dX8_apart_43 hv104 (fun v113 hv104 => ?_)
        refine lv_iconst (v := (1 : Int32)) hx hb dX8_apart_44 (by decide) ?_
        refine lv_iload_n hx hb dX8_apart_45 rfl (lv_at hl 2 rfl) ?_
        refine lv_ishl hx hb dX8_apart_46 ?_
        refine lv_iconst (v := (-1 : Int32)) hx hb dX8_apart_47 (by decide) ?_
        refine lv_ixor hx hb dX8_apart_48 ?_
        refine lv_iand hx hb dX8_apart_49 ?_
        obtain rfl := fx_i1 hv104
        exact K112 _ _ _ hP hD hS (lv_sub hl [0, 1, 2, 3] rfl)
      · refine lv_aload_n hx hb dX8_apart_25 rfl (lv_at hl 0 rfl) ?_
        refine k_get (ci := 8) (k := 11) (q0 := 0) (v := .ref (q1 11)) (C := RX8) (T := TX8) (N := 46) hC uX8_apart_X8 hP rfl rfl (by decide) (List.mem_of_getElem? (i := 1) rfl) rfl dX8_apart_26 ?_
        refine lv_iload_n hx hb dX8_apart_29 rfl (lv_at hl 1 rfl) ?_
        refine k_ald (q0 := 5) (n := 6) (F := S1.2 11) hC hP rfl dX8_apart_30 hv104 (fun v114 hv104 => ?_)
        refine lv_iconst (v := (1 : Int32)) hx hb dX8_apart_31 (by decide) ?_
        refine lv_iload_n hx hb dX8_apart_32 rfl (lv_at hl 2 rfl) ?_
        refine lv_ishl hx hb dX8_apart_33 ?_
        refine lv_ior hx hb dX8_apart_34 ?_
        refine lv_goto (tgt := 50) hx hb dX8_apart_35 (by decide) ?_
        obtain rfl := fx_i1 hv104
        exact K112 _ _ _ hP hD hS (lv_sub hl [0, 1, 2, 3] rfl)
    · refine lv_iconst (v := (-1 : Int32)) hx hb dX8_apart_14 (by decide) ?_
      obtain ⟨rfl, rfl⟩ := fx_i2 h
      exact Ci.ret hC hr hlk hA9 hP hD hS dX8_apart_15
