/-! laid by wip/whole/gen.py out of the printed names and instructions: what each method does (f_), and that its bytecode does it (c_) -/
def wX0 (g : GG) (q : Nat → Nat) (q0 : Nat → Nat) (q1 : Nat → Nat) (q2 : Nat → Nat) : va_W := [(q 100, .inr (0, [.ref (q0 100), .ref (q1 100), .ref (q2 100)]))]
def wX1 (g : GG) (q : Nat → Nat) (S : St) : va_W := [(q 100, .inr (1, [.int (S.1 0), .ref (q 1), .ref (q 2), .ref (q 3), .ref (q 4), .int (S.1 5), .int (S.1 6), .int (S.1 7), .ref (q 8), .ref (q 9), .ref (q 10), .int (S.1 11), .int (S.1 12), .int (S.1 13)])), (q 1, .inl (g.2.1, 6, .inl (S.2 1))), (q 2, .inl (g.2.1, 36, .inl (S.2 2))), (q 3, .inl (g.2.1, 36, .inl (S.2 3))), (q 4, .inl (g.2.1, 6, .inl (S.2 4))), (q 8, .inl (g.2.1, 64, .inl (S.2 8))), (q 9, .inl (g.2.1, 16, .inl (S.2 9))), (q 10, .inl (g.2.1, 16, .inl (S.2 10)))]
def wX2 (g : GG) (q : Nat → Nat) (q0 : Nat → Nat) (S : St) : va_W := [(q 100, .inr (2, [.ref (q0 100), .int (S.1 1), .int (S.1 2), .int (S.1 3), .int (S.1 4)]))]
def wX3 (g : GG) (q : Nat → Nat) (S : St) : va_W := [(q 100, .inr (3, [.int (S.1 0), .int (S.1 1), .int (S.1 2), .int (S.1 3), .int (S.1 4), .int (S.1 5), .ref (q 6), .ref (q 7), .ref (q 8), .ref (q 9), .ref (q 10)])), (q 6, .inl (g.2.1, 6, .inl (S.2 6))), (q 7, .inl (g.2.1, 4, .inl (S.2 7))), (q 8, .inl (g.2.1, 24, .inl (S.2 8))), (q 9, .inl (g.2.1, 24, .inl (S.2 9))), (q 10, .inl (g.2.1, 4, .inl (S.2 10)))]
def wX4 (g : GG) (q : Nat → Nat) (S : St) : va_W := [(q 100, .inr (4, [.int (S.1 0), .ref (q 1)])), (q 1, .inl (g.2.1, 60, .inl (S.2 1)))]
def wX5 (g : GG) (q : Nat → Nat) (S : St) : va_W := [(q 100, .inr (5, [.int (S.1 0), .ref (q 1)])), (q 1, .inl (g.2.1, 6, .inl (S.2 1)))]
def wX6 (g : GG) (q : Nat → Nat) (S : St) : va_W := [(q 100, .inr (6, [.int (S.1 0), .ref (q 1), .ref (q 2), .ref (q 3), .ref (q 4)])), (q 1, .inl (g.2.1, 6, .inl (S.2 1))), (q 2, .inl (g.2.1, 6, .inl (S.2 2))), (q 3, .inl (g.2.1, 6, .inl (S.2 3))), (q 4, .inl (g.2.1, 6, .inl (S.2 4)))]
def wX7 (g : GG) (q : Nat → Nat) (q0 : Nat → Nat) (q2 : Nat → Nat) (q3 : Nat → Nat) (q4 : Nat → Nat) : va_W := [(q 100, .inr (7, [.ref (q0 100), .ref (q 1), .ref (q2 100), .ref (q3 100), .ref (q4 100)]))]
def wX8 (g : GG) (q : Nat → Nat) (S : St) : va_W := [(q 100, .inr (8, [.int (S.1 0), .int (S.1 1), .int (S.1 2), .int (S.1 3), .int (S.1 4), .int (S.1 5), .ref (q 6), .int (S.1 7), .ref (q 8), .ref (q 9), .ref (q 10), .ref (q 11), .ref (q 12), .ref (q 13), .ref (q 14), .ref (q 15), .ref (q 16), .int (S.1 17), .ref (q 18), .int (S.1 19), .ref (q 20), .ref (q 21), .int (S.1 22), .ref (q 23), .int (S.1 24), .int (S.1 25), .int (S.1 26), .ref (q 27), .int (S.1 28), .int (S.1 29), .ref (q 30), .int (S.1 31), .ref (q 32), .ref (q 33), .ref (q 34), .int (S.1 35), .int (S.1 36), .int (S.1 37), .int (S.1 38), .ref (q 39), .int (S.1 40), .ref (q 41), .ref (q 42), .ref (q 43), .int (S.1 44), .int (S.1 45)])), (q 6, .inl (g.2.1, 6, .inl (S.2 6))), (q 8, .inl (g.2.1, 6, .inl (S.2 8))), (q 9, .inl (g.2.1, 6, .inl (S.2 9))), (q 10, .inl (g.2.1, 6, .inl (S.2 10))), (q 11, .inl (g.2.1, 6, .inl (S.2 11))), (q 12, .inl (g.2.1, 4, .inl (S.2 12))), (q 13, .inl (g.2.1, 24, .inl (S.2 13))), (q 14, .inl (g.2.1, 24, .inl (S.2 14))), (q 15, .inl (g.2.1, 4, .inl (S.2 15))), (q 16, .inl (g.2.1, 6, .inl (S.2 16))), (q 18, .inl (g.2.1, 60, .inl (S.2 18))), (q 20, .inl (g.2.1, 60, .inl (S.2 20))), (q 21, .inl (g.2.1, 60, .inl (S.2 21))), (q 23, .inl (g.2.1, 58, .inl (S.2 23))), (q 27, .inl (g.2.1, 4, .inl (S.2 27))), (q 30, .inl (g.2.1, 6, .inl (S.2 30))), (q 32, .inl (g.2.1, 36, .inl (S.2 32))), (q 33, .inl (g.2.1, 36, .inl (S.2 33))), (q 34, .inl (g.2.1, 6, .inl (S.2 34))), (q 39, .inl (g.2.1, 16, .inl (S.2 39))), (q 41, .inl (g.2.1, 4, .inl (S.2 41))), (q 42, .inl (g.2.1, 240, .inl (S.2 42))), (q 43, .inl (g.2.2.1, 2, .inl (S.2 43)))]
abbrev RM_X7_within : Room := { frames := 0, cells := 0, slots := 0, locals := 0 }
def f_X7_within (N : Nat) (x0 : Int32) (x1 : Int32) (x2 : Int32) : Option (Int32) :=
  (if x0 < x1 then (
  some (0 : Int32)) else (
  (if x2 < x0 then (
    some (0 : Int32)) else (
    some (1 : Int32)))))
set_option maxRecDepth 100000 in
set_option maxHeartbeats 4000000 in
theorem c_X7_within (l : Launch) (g : GG) (N : Nat) (x0 : Int32) (x1 : Int32) (x2 : Int32) (r : Int32) (h : f_X7_within N x0 x1 x2 = some r) : Ci l yX7_within wsX7_within RM_X7_within g [.int x0, .int x1, .int x2] ([] : va_W) ([] : va_W) r := by
  intro sz
  refine Met.ofC (cc := cX7_within) (maxL := 3) (ret := (some .boolean)) (by decide) rfl (Nat.le_of_ble_eq_true rfl) ?_
  intro p e s m below meth c hC hr hlk hsz A hA9 hA hP hD hS ls hl
  subst hsz
  have hC : Cx p s m ([.int x0, .int x1, .int x2] : List Value).toArray c RX7 cX7_within 3 wsX7_within g := hC
  have hx := hC.1.1
  have hb := hC.1.2.1
  have hml := hC.1.2.2.1
  have hown := hC.1.2.2.2.1
  have hts := hC.1.2.2.2.2
  have hl : lv_has ls 3 [(0, .int x0), (1, .int x1), (2, .int x2)] := hl
  show W p l e RM_X7_within s m ([.int x0, .int x1, .int x2] : List Value).toArray below meth c s.heap [] 0 0 (Qi below g [.int x0, .int x1, .int x2] ([] : va_W) ([] : va_W) r s) (F0 m 0 ls [])
  unfold f_X7_within at h
  refine lv_iload_n hx hb dX7_within_0 rfl (lv_at hl 1 rfl) ?_
  refine lv_iload_n hx hb dX7_within_1 rfl (lv_at hl 0 rfl) ?_
  refine k_icmp_gt (tgt := 14) hC dX7_within_2 (by decide) h (fun h => ?_) (fun h => ?_)
  · refine lv_iconst (v := (0 : Int32)) hx hb dX7_within_14 (by decide) ?_
    obtain rfl := fx_i1 h
    exact Ci.retz hC hr hlk rfl hA9 hP hD hS dX7_within_15
  · refine lv_iload_n hx hb dX7_within_5 rfl (lv_at hl 0 rfl) ?_
    refine lv_iload_n hx hb dX7_within_6 rfl (lv_at hl 2 rfl) ?_
    refine k_icmp_gt (tgt := 14) hC dX7_within_7 (by decide) h (fun h => ?_) (fun h => ?_)
    · refine lv_iconst (v := (0 : Int32)) hx hb dX7_within_14 (by decide) ?_
      obtain rfl := fx_i1 h
      exact Ci.retz hC hr hlk rfl hA9 hP hD hS dX7_within_15
    · refine lv_iconst (v := (1 : Int32)) hx hb dX7_within_10 (by decide) ?_
      refine lv_goto (tgt := 15) hx hb dX7_within_11 (by decide) ?_
      obtain rfl := fx_i1 h
      exact Ci.retz hC hr hlk rfl hA9 hP hD hS dX7_within_15
abbrev RM_X7_isKind : Room := { frames := 1, cells := 0, slots := 0, locals := 22 }
def f_X7_isKind (N : Nat) (x0 : Int32) : Option (Int32) :=
  fx_b1 (f_X7_within N x0 (0 : Int32) (5 : Int32)) (fun v101 =>
  fx_bz v101 (some v101))
set_option maxRecDepth 100000 in
set_option maxHeartbeats 4000000 in
theorem c_X7_isKind (l : Launch) (g : GG) (N : Nat) (x0 : Int32) (r : Int32) (h : f_X7_isKind N x0 = some r) : Ci l yX7_isKind wsX7_isKind RM_X7_isKind g [.int x0] ([] : va_W) ([] : va_W) r := by
  intro sz
  refine Met.ofC (cc := cX7_isKind) (maxL := 1) (ret := (some .boolean)) (by decide) rfl (Nat.le_of_ble_eq_true rfl) ?_
  intro p e s m below meth c hC hr hlk hsz A hA9 hA hP hD hS ls hl
  subst hsz
  have hC : Cx p s m ([.int x0] : List Value).toArray c RX7 cX7_isKind 1 wsX7_isKind g := hC
  have hx := hC.1.1
  have hb := hC.1.2.1
  have hml := hC.1.2.2.1
  have hown := hC.1.2.2.2.1
  have hts := hC.1.2.2.2.2
  have hl : lv_has ls 1 [(0, .int x0)] := hl
  show W p l e RM_X7_isKind s m ([.int x0] : List Value).toArray below meth c s.heap [] 0 0 (Qi below g [.int x0] ([] : va_W) ([] : va_W) r s) (F0 m 0 ls [])
  unfold f_X7_isKind at h
  refine lv_iload_n hx hb dX7_isKind_0 rfl (lv_at hl 0 rfl) ?_
  refine lv_iconst (v := (0 : Int32)) hx hb dX7_isKind_1 (by decide) ?_
  refine lv_iconst (v := (5 : Int32)) hx hb dX7_isKind_2 (by decide) ?_
  obtain ⟨v101, hc102, h⟩ := fx_b1_s h
  refine k_callSi (n := 3) (As := [.int x0, .int (0 : Int32), .int (5 : Int32)]) (rest := []) (wc := ([] : va_W)) (w1 := ([] : va_W)) (ws2 := ([] : va_W)) (bytes := cX7_within) (maxL := 3) (ret := (some .boolean)) hC hl.1 (c_X7_within l g N x0 (0 : Int32) (5 : Int32) v101 hc102) rfl gX7_isKind_X7_within (by decide +kernel) ⟨Nat.le_of_ble_eq_true rfl, Nat.le_of_ble_eq_true rfl⟩ rfl rfl rfl (Nat.le_of_ble_eq_true rfl) ⟨Nat.le_of_ble_eq_true rfl, Nat.le_of_ble_eq_true rfl⟩ dX7_isKind_3 hP hD hS hA [] rfl (by decide) rfl rfl (fun H locs hP hD hS => ?_)
  obtain ⟨hz, h⟩ := fx_bz_s h
  obtain rfl := fx_i1 h
  exact Ci.retz hC hr hlk hz.1 hA9 hP hD hS dX7_isKind_6
theorem uX6_has_X6 : ∀ w ∈ u_ws RX6 TX6 5, w ∈ wsX6_has := fun w h => List.mem_cons_of_mem _ (List.mem_append_right _ h)
abbrev RM_X6_has : Room := { frames := 2, cells := 0, slots := 0, locals := 42 }
def f_X6_has (N : Nat) (S1 : St) (x1 : Int32) : Option (Int32) :=
  fx_b1 (f_X7_isKind N x1) (fun v101 =>
  (if v101 = 0 then (
  some (0 : Int32)) else (
  (if (((S1.1 0) >>> (x1 &&& 31)) &&& (1 : Int32)) = (1 : Int32) then (
    some (1 : Int32)) else (
    some (0 : Int32))))))
set_option maxRecDepth 100000 in
set_option maxHeartbeats 4000000 in
theorem c_X6_has (l : Launch) (g : GG) (N : Nat) (q1 : Nat → Nat) (S1 : St) (x1 : Int32) (r : Int32) (h : f_X6_has N S1 x1 = some r) : Ci l yX6_has wsX6_has RM_X6_has g [.ref (q1 100), .int x1] (wX6 g q1 S1) (wX6 g q1 S1) r := by
  intro sz
  refine Met.ofC (cc := cX6_has) (maxL := 2) (ret := (some .boolean)) (by decide) rfl (Nat.le_of_ble_eq_true rfl) ?_
  intro p e s m below meth c hC hr hlk hsz A hA9 hA hP hD hS ls hl
  subst hsz
  have hC : Cx p s m ([.ref (q1 100), .int x1] : List Value).toArray c RX6 cX6_has 2 wsX6_has g := hC
  have hx := hC.1.1
  have hb := hC.1.2.1
  have hml := hC.1.2.2.1
  have hown := hC.1.2.2.2.1
  have hts := hC.1.2.2.2.2
  have hl : lv_has ls 2 [(0, .ref (q1 100)), (1, .int x1)] := hl
  show W p l e RM_X6_has s m ([.ref (q1 100), .int x1] : List Value).toArray below meth c s.heap [] 0 0 (Qi below g [.ref (q1 100), .int x1] (wX6 g q1 S1) (wX6 g q1 S1) r s) (F0 m 0 ls [])
  unfold f_X6_has at h
  refine lv_iload_n hx hb dX6_has_0 rfl (lv_at hl 1 rfl) ?_
  obtain ⟨v101, hc102, h⟩ := fx_b1_s h
  refine k_callNi (n := 1) (As := [.int x1]) (rest := []) (wc := ([] : va_W)) (w1 := ([] : va_W)) (ws2 := (wX6 g q1 S1)) (bytes := cX7_isKind) (maxL := 1) (ret := (some .boolean)) hC hl.1 (c_X7_isKind l g N x1 v101 hc102) rfl gX6_has_X7_isKind_n34 (List.mem_of_getElem? (i := 11) rfl) (List.mem_of_getElem? (i := 3) rfl) (List.mem_of_getElem? (i := 2) rfl) (by decide +kernel) ⟨Nat.le_of_ble_eq_true rfl, Nat.le_of_ble_eq_true rfl⟩ rfl rfl rfl (Nat.le_of_ble_eq_true rfl) ⟨Nat.le_of_ble_eq_true rfl, Nat.le_of_ble_eq_true rfl⟩ dX6_has_1 hP hD hS hA [] rfl (by decide) rfl rfl (fun H locs hP hD hS => ?_)
  refine k_if_eq (tgt := 23) hC dX6_has_4 (by decide) h (fun h => ?_) (fun h => ?_)
  · refine lv_iconst (v := (0 : Int32)) hx hb dX6_has_23 (by decide) ?_
    obtain rfl := fx_i1 h
    exact Ci.retz hC hr hlk rfl hA9 hP hD hS dX6_has_24
  · refine lv_aload_n hx hb dX6_has_7 rfl (lv_at hl 0 rfl) ?_
    refine k_get (ci := 6) (k := 0) (q0 := 0) (v := .int (S1.1 0)) (C := RX6) (T := TX6) (N := 5) hC uX6_has_X6 hP rfl rfl (by decide) (List.mem_of_getElem? (i := 1) rfl) rfl dX6_has_8 ?_
    refine lv_iload_n hx hb dX6_has_11 rfl (lv_at hl 1 rfl) ?_
    refine lv_ishr hx hb dX6_has_12 ?_
    refine lv_iconst (v := (1 : Int32)) hx hb dX6_has_13 (by decide) ?_
    refine lv_iand hx hb dX6_has_14 ?_
    refine lv_iconst (v := (1 : Int32)) hx hb dX6_has_15 (by decide) ?_
    refine k_icmp_ne (tgt := 23) hC dX6_has_16 (by decide) h (fun h => ?_) (fun h => ?_)
    · refine lv_iconst (v := (0 : Int32)) hx hb dX6_has_23 (by decide) ?_
      obtain rfl := fx_i1 h
      exact Ci.retz hC hr hlk rfl hA9 hP hD hS dX6_has_24
    · refine lv_iconst (v := (1 : Int32)) hx hb dX6_has_19 (by decide) ?_
      refine lv_goto (tgt := 24) hx hb dX6_has_20 (by decide) ?_
      obtain rfl := fx_i1 h
      exact Ci.retz hC hr hlk rfl hA9 hP hD hS dX6_has_24
abbrev RM_X7_bakedBehind : Room := { frames := 1, cells := 0, slots := 0, locals := 13 }
def f_X7_bakedBehind (N : Nat) (x0 : Int32) (x1 : Int32) (x2 : Int32) : Option (Int32) :=
  (if 0 < x0 then (
  fx_b1 ((if x1 ≤ 0 then (
    some x2) else (
    fx_nz x1 (
      fx_lt (if (((x0 + x1) - (1 : Int32)) / x1) < x2 then (((x0 + x1) - (1 : Int32)) / x1) else x2) (fun x104 =>
      some x104)))) : Option (Int32)) (fun x101 =>
    some ((x101 * x0) - (x1 * ((x101 * (x101 - (1 : Int32))) / (2 : Int32)))))) else (
  some (0 : Int32)))
set_option maxRecDepth 100000 in
set_option maxHeartbeats 4000000 in
theorem c_X7_bakedBehind (l : Launch) (g : GG) (N : Nat) (x0 : Int32) (x1 : Int32) (x2 : Int32) (r : Int32) (h : f_X7_bakedBehind N x0 x1 x2 = some r) : Ci l yX7_bakedBehind wsX7_bakedBehind RM_X7_bakedBehind g [.int x0, .int x1, .int x2] ([] : va_W) ([] : va_W) r := by
  intro sz
  refine Met.ofC (cc := cX7_bakedBehind) (maxL := 4) (ret := (some .int)) (by decide) rfl (Nat.le_of_ble_eq_true rfl) ?_
  intro p e s m below meth c hC hr hlk hsz A hA9 hA hP hD hS ls hl
  subst hsz
  have hC : Cx p s m ([.int x0, .int x1, .int x2] : List Value).toArray c RX7 cX7_bakedBehind 4 wsX7_bakedBehind g := hC
  have hx := hC.1.1
  have hb := hC.1.2.1
  have hml := hC.1.2.2.1
  have hown := hC.1.2.2.2.1
  have hts := hC.1.2.2.2.2
  have hl : lv_has ls 4 [(0, .int x0), (1, .int x1), (2, .int x2)] := hl
  show W p l e RM_X7_bakedBehind s m ([.int x0, .int x1, .int x2] : List Value).toArray below meth c s.heap [] 0 0 (Qi below g [.int x0, .int x1, .int x2] ([] : va_W) ([] : va_W) r s) (F0 m 0 ls [])
  unfold f_X7_bakedBehind at h
  refine lv_iload_n hx hb dX7_bakedBehind_0 rfl (lv_at hl 0 rfl) ?_
  refine k_if_gt (tgt := 6) hC dX7_bakedBehind_1 (by decide) h (fun h => ?_) (fun h => ?_)
  · refine lv_iload_n hx hb dX7_bakedBehind_6 rfl (lv_at hl 2 rfl) ?_
    refine lv_istore_n (lv' := [(3, .int x2), (0, .int x0), (1, .int x1), (2, .int x2)]) hx hb dX7_bakedBehind_7 rfl hl (by decide) rfl (fun ls hl => ?_)
    refine lv_iload_n hx hb dX7_bakedBehind_8 rfl (lv_at hl 2 rfl) ?_
    obtain ⟨x101, hv102, h⟩ := fx_b1_s h
    have K103 : ∀ (H : Heap) (locs : List Loc) (ls : Array Slot), va_P g.1 vwCl ([] : va_W) H → va_D A ([] : va_W) → va_S A s.heap H locs → lv_has ls 4 [(0, .int x0), (1, .int x1), (3, .int x101)] → W p l e RM_X7_bakedBehind s m ([.int x0, .int x1, .int x2] : List Value).toArray below meth c H locs 0 0 (Qi below g [.int x0, .int x1, .int x2] ([] : va_W) ([] : va_W) r s) (F0 m 24 ls []) := by
      intro H locs ls hP hD hS hl
      refine lv_iload_n hx hb dX7_bakedBehind_24 rfl (lv_at hl 2 rfl) ?_
      refine lv_iload_n hx hb dX7_bakedBehind_25 rfl (lv_at hl 0 rfl) ?_
      refine lv_imul hx hb dX7_bakedBehind_26 ?_
      refine lv_iload_n hx hb dX7_bakedBehind_27 rfl (lv_at hl 1 rfl) ?_
      refine lv_iload_n hx hb dX7_bakedBehind_28 rfl (lv_at hl 2 rfl) ?_
      refine lv_iload_n hx hb dX7_bakedBehind_29 rfl (lv_at hl 2 rfl) ?_
      refine lv_iconst (v := (1 : Int32)) hx hb dX7_bakedBehind_30 (by decide) ?_
      refine lv_isub hx hb dX7_bakedBehind_31 ?_
      refine lv_imul hx hb dX7_bakedBehind_32 ?_
      refine lv_iconst (v := (2 : Int32)) hx hb dX7_bakedBehind_33 (by decide) ?_
      refine lv_idiv hx hb dX7_bakedBehind_34 (by decide) ?_
      refine lv_imul hx hb dX7_bakedBehind_35 ?_
      refine lv_isub hx hb dX7_bakedBehind_36 ?_
      obtain rfl := fx_i1 h
      exact Ci.ret hC hr hlk hA9 hP hD hS dX7_bakedBehind_37
    refine k_if_le (tgt := 24) hC dX7_bakedBehind_9 (by decide) hv102 (fun hv102 => ?_) (fun hv102 => ?_)
    · obtain rfl := fx_i1 hv102
      exact K103 _ _ _ hP hD hS (lv_sub hl [1, 2, 0] rfl)
    · refine lv_iload_n hx hb dX7_bakedBehind_12 rfl (lv_at hl 3 rfl) ?_
      refine lv_iload_n hx hb dX7_bakedBehind_13 rfl (lv_at hl 1 rfl) ?_
      refine lv_iload_n hx hb dX7_bakedBehind_14 rfl (lv_at hl 2 rfl) ?_
      refine lv_iadd hx hb dX7_bakedBehind_15 ?_
      refine lv_iconst (v := (1 : Int32)) hx hb dX7_bakedBehind_16 (by decide) ?_
      refine lv_isub hx hb dX7_bakedBehind_17 ?_
      refine lv_iload_n hx hb dX7_bakedBehind_18 rfl (lv_at hl 2 rfl) ?_
      obtain ⟨hne, hv102⟩ := fx_nz_s hv102
      refine lv_idiv hx hb dX7_bakedBehind_19 hne ?_
      refine va_mmin hx hb (hml.trans hl.1.symm) hown (hts _ (List.mem_of_getElem? (i := 1) rfl)) (hts _ (List.mem_of_getElem? (i := 2) rfl)) (hts _ (List.mem_of_getElem? (i := 3) rfl)) (hts _ (List.mem_of_getElem? (i := 4) rfl)) (Nat.le_of_ble_eq_true rfl) (Nat.le_of_ble_eq_true rfl) (Nat.zero_le _) (Nat.zero_le _) dX7_bakedBehind_20 ?_
      refine k_topi hv102 (fun x104 hv102 => ?_)
      refine lv_istore_n (lv' := [(3, .int x104), (0, .int x0), (1, .int x1), (2, .int x2)]) hx hb dX7_bakedBehind_23 rfl hl (by decide) rfl (fun ls hl => ?_)
      obtain rfl := fx_i1 hv102
      exact K103 _ _ _ hP hD hS (lv_sub hl [1, 2, 0] rfl)
  · refine lv_iconst (v := (0 : Int32)) hx hb dX7_bakedBehind_4 (by decide) ?_
    obtain rfl := fx_i1 h
    exact Ci.ret hC hr hlk hA9 hP hD hS dX7_bakedBehind_5
abbrev RM_X7_firstMinute : Room := { frames := 2, cells := 0, slots := 0, locals := 36 }
def bd_X7_firstMinute_7 (N : Nat) (x0 : Int32) (x1 : Int32) (x2 : Int32) (x3 : Int32) (x4 : Int32) (rec : (Int32 × Int32) → Option (Int32)) : Option (Int32) :=
  (if x4 ≤ 0 then (
    some x3) else (
    fx_lt (x3 + x4) (fun x101 =>
      fx_b1 ((if (999 : Int32) < x101 then (
      some x3) else (
      fx_b1 (f_X7_bakedBehind N x0 x1 x101) (fun v106 =>
        (if x2 ≤ v106 then (
        some x3) else (
        some x101))))) : Option (Int32)) (fun x102 =>
      fx_lt (x4 >>> ((1 : Int32) &&& 31)) (fun x104 =>
        rec (x102, x104))))))
def lf_X7_firstMinute_7 (N : Nat) (x0 : Int32) (x1 : Int32) (x2 : Int32) : (Int32 × Int32) → ((Int32 × Int32) → Option (Int32)) → Option (Int32) := fun x rec => bd_X7_firstMinute_7 N x0 x1 x2 x.1 x.2 rec
set_option maxRecDepth 100000 in
set_option maxHeartbeats 4000000 in
theorem lw_X7_firstMinute_7 {p : Program} {l : Launch} {e : Env} {s : State} {m : MethodId} {args : Array Value} {below : List Frame} {meth : Method} {c : Code} {Q : State → Prop} {A : Nat → Prop} {H0 : Heap} {g : GG} (hC : Cx p s m args c RX7 cX7_firstMinute 6 wsX7_firstMinute g) (hA : ∀ q : Nat, H0.size ≤ q → A q) (N : Nat)  (x0 : Int32) (x1 : Int32) (x2 : Int32) : ∀ (n : Nat) (x3 : Int32) (x4 : Int32) (o : Int32), fx_it (lf_X7_firstMinute_7 N x0 x1 x2) n (x3, x4) = some o → ∀ (H : Heap) (locs : List Loc) (ls : Array Slot), va_P g.1 vwCl ([] : va_W) H → va_D A ([] : va_W) → va_S A H0 H locs → lv_has ls 6 [(0, .int x0), (1, .int x1), (2, .int x2), (3, .int x3), (4, .int x4)] → (∀ (z0 : Int32), o = z0 → ∀ (H : Heap) (locs : List Loc) (ls : Array Slot), va_P g.1 vwCl ([] : va_W) H → va_D A ([] : va_W) → va_S A H0 H locs → lv_has ls 6 [(3, .int z0)] → W p l e RM_X7_firstMinute s m args below meth c H locs 0 0 Q (F0 m 49 ls [])) → W p l e RM_X7_firstMinute s m args below meth c H locs 0 0 Q (F0 m 7 ls []) := by
  have hx := hC.1.1
  have hb := hC.1.2.1
  have hml := hC.1.2.2.1
  have hown := hC.1.2.2.2.1
  have hts := hC.1.2.2.2.2
  intro n
  induction n with
  | zero => intro x3 x4 o h; cases h
  | succ n ih =>
    intro x3 x4 o h H locs ls hP hD hS hl k0
    have h : bd_X7_firstMinute_7 N x0 x1 x2 x3 x4 (fx_it (lf_X7_firstMinute_7 N x0 x1 x2) n) = some o := h
    unfold bd_X7_firstMinute_7 at h
    refine lv_iload hx hb dX7_firstMinute_7 (lv_at hl 4 rfl) ?_
    refine k_if_le (tgt := 49) hC dX7_firstMinute_9 (by decide) h (fun h => ?_) (fun h => ?_)
    · exact k0 x3 (Option.some.inj h).symm _ _ _ hP hD hS (lv_sub hl [3] rfl)
    · refine lv_iload_n hx hb dX7_firstMinute_12 rfl (lv_at hl 3 rfl) ?_
      refine lv_iload hx hb dX7_firstMinute_13 (lv_at hl 4 rfl) ?_
      refine lv_iadd hx hb dX7_firstMinute_15 ?_
      refine k_topi h (fun x101 h => ?_)
      refine lv_istore (lv' := [(5, .int x101), (0, .int x0), (1, .int x1), (2, .int x2), (3, .int x3), (4, .int x4)]) hx hb dX7_firstMinute_16 hl (by decide) rfl (fun ls hl => ?_)
      refine lv_iload hx hb dX7_firstMinute_18 (lv_at hl 0 rfl) ?_
      refine lv_sipush (v := (999 : Int32)) hx hb dX7_firstMinute_20 (by decide) ?_
      obtain ⟨x102, hv103, h⟩ := fx_b1_s h
      have K105 : ∀ (H : Heap) (locs : List Loc) (ls : Array Slot), va_P g.1 vwCl ([] : va_W) H → va_D A ([] : va_W) → va_S A H0 H locs → lv_has ls 6 [(0, .int x0), (1, .int x1), (2, .int x2), (4, .int x4), (3, .int x102)] → W p l e RM_X7_firstMinute s m args below meth c H locs 0 0 Q (F0 m 40 ls []) := by
        intro H locs ls hP hD hS hl
        refine lv_iload hx hb dX7_firstMinute_40 (lv_at hl 3 rfl) ?_
        refine lv_iconst (v := (1 : Int32)) hx hb dX7_firstMinute_42 (by decide) ?_
        refine lv_ishr hx hb dX7_firstMinute_43 ?_
        refine k_topi h (fun x104 h => ?_)
        refine lv_istore (lv' := [(4, .int x104), (0, .int x0), (1, .int x1), (2, .int x2), (3, .int x102)]) hx hb dX7_firstMinute_44 hl (by decide) rfl (fun ls hl => ?_)
        refine lv_goto (tgt := 7) hx hb dX7_firstMinute_46 (by decide) ?_
        exact ih x102 x104 o h _ _ _ hP hD hS (lv_sub hl [1, 2, 3, 4, 0] rfl) k0
      refine k_icmp_gt (tgt := 40) hC dX7_firstMinute_23 (by decide) hv103 (fun hv103 => ?_) (fun hv103 => ?_)
      · obtain rfl := fx_i1 hv103
        exact K105 _ _ _ hP hD hS (lv_sub hl [1, 2, 3, 5, 4] rfl)
      · refine lv_iload_n hx hb dX7_firstMinute_26 rfl (lv_at hl 1 rfl) ?_
        refine lv_iload_n hx hb dX7_firstMinute_27 rfl (lv_at hl 2 rfl) ?_
        refine lv_iload hx hb dX7_firstMinute_28 (lv_at hl 0 rfl) ?_
        obtain ⟨v106, hc107, hv103⟩ := fx_b1_s hv103
        refine k_callSi (n := 3) (As := [.int x0, .int x1, .int x101]) (rest := []) (wc := ([] : va_W)) (w1 := ([] : va_W)) (ws2 := ([] : va_W)) (bytes := cX7_bakedBehind) (maxL := 4) (ret := (some .int)) hC hl.1 (c_X7_bakedBehind l g N x0 x1 x101 v106 hc107) rfl gX7_firstMinute_X7_bakedBehind (by decide +kernel) ⟨Nat.le_of_ble_eq_true rfl, Nat.le_of_ble_eq_true rfl⟩ rfl rfl rfl (Nat.le_of_ble_eq_true rfl) ⟨Nat.le_of_ble_eq_true rfl, Nat.le_of_ble_eq_true rfl⟩ dX7_firstMinute_30 hP hD hS hA [] rfl (by decide) rfl rfl (fun H locs hP hD hS => ?_)
        refine lv_iload_n hx hb dX7_firstMinute_33 rfl (lv_at hl 3 rfl) ?_
        refine k_icmp_ge (tgt := 40) hC dX7_firstMinute_34 (by decide) hv103 (fun hv103 => ?_) (fun hv103 => ?_)
        · obtain rfl := fx_i1 hv103
          exact K105 _ _ _ hP hD hS (lv_sub hl [1, 2, 3, 5, 4] rfl)
        · refine lv_iload hx hb dX7_firstMinute_37 (lv_at hl 0 rfl) ?_
          refine lv_istore_n (lv' := [(3, .int x101), (5, .int x101), (0, .int x0), (1, .int x1), (2, .int x2), (4, .int x4)]) hx hb dX7_firstMinute_39 rfl hl (by decide) rfl (fun ls hl => ?_)
          obtain rfl := fx_i1 hv103
          exact K105 _ _ _ hP hD hS (lv_sub hl [2, 3, 4, 5, 0] rfl)
def f_X7_firstMinute (N : Nat) (x0 : Int32) (x1 : Int32) (x2 : Int32) : Option (Int32) :=
  fx_b1 (fx_it (lf_X7_firstMinute_7 N x0 x1 x2) N ((0 : Int32), (512 : Int32))) (fun x101 =>
  some (x101 + (1 : Int32)))
set_option maxRecDepth 100000 in
set_option maxHeartbeats 4000000 in
theorem c_X7_firstMinute (l : Launch) (g : GG) (N : Nat) (x0 : Int32) (x1 : Int32) (x2 : Int32) (r : Int32) (h : f_X7_firstMinute N x0 x1 x2 = some r) : Ci l yX7_firstMinute wsX7_firstMinute RM_X7_firstMinute g [.int x0, .int x1, .int x2] ([] : va_W) ([] : va_W) r := by
  intro sz
  refine Met.ofC (cc := cX7_firstMinute) (maxL := 6) (ret := (some .int)) (by decide) rfl (Nat.le_of_ble_eq_true rfl) ?_
  intro p e s m below meth c hC hr hlk hsz A hA9 hA hP hD hS ls hl
  subst hsz
  have hC : Cx p s m ([.int x0, .int x1, .int x2] : List Value).toArray c RX7 cX7_firstMinute 6 wsX7_firstMinute g := hC
  have hx := hC.1.1
  have hb := hC.1.2.1
  have hml := hC.1.2.2.1
  have hown := hC.1.2.2.2.1
  have hts := hC.1.2.2.2.2
  have hl : lv_has ls 6 [(0, .int x0), (1, .int x1), (2, .int x2)] := hl
  show W p l e RM_X7_firstMinute s m ([.int x0, .int x1, .int x2] : List Value).toArray below meth c s.heap [] 0 0 (Qi below g [.int x0, .int x1, .int x2] ([] : va_W) ([] : va_W) r s) (F0 m 0 ls [])
  unfold f_X7_firstMinute at h
  refine lv_iconst (v := (0 : Int32)) hx hb dX7_firstMinute_0 (by decide) ?_
  refine lv_istore_n (lv' := [(3, .int (0 : Int32)), (0, .int x0), (1, .int x1), (2, .int x2)]) hx hb dX7_firstMinute_1 rfl hl (by decide) rfl (fun ls hl => ?_)
  refine lv_sipush (v := (512 : Int32)) hx hb dX7_firstMinute_2 (by decide) ?_
  refine lv_istore (lv' := [(4, .int (512 : Int32)), (3, .int (0 : Int32)), (0, .int x0), (1, .int x1), (2, .int x2)]) hx hb dX7_firstMinute_5 hl (by decide) rfl (fun ls hl => ?_)
  obtain ⟨x101, ho102, h⟩ := fx_b1_s h
  refine lw_X7_firstMinute_7 hC hA N x0 x1 x2 N (0 : Int32) (512 : Int32)  x101 ho102 _ _ _ hP hD hS (lv_sub hl [2, 3, 4, 1, 0] rfl) ?_
  · intro y0 he H locs ls hP hD hS hl
    obtain rfl := he
    refine lv_iload_n hx hb dX7_firstMinute_49 rfl (lv_at hl 0 rfl) ?_
    refine lv_iconst (v := (1 : Int32)) hx hb dX7_firstMinute_50 (by decide) ?_
    refine lv_iadd hx hb dX7_firstMinute_51 ?_
    obtain rfl := fx_i1 h
    exact Ci.ret hC hr hlk hA9 hP hD hS dX7_firstMinute_52
abbrev RM_X3_cell : Room := { frames := 0, cells := 0, slots := 0, locals := 0 }
def f_X3_cell (N : Nat) (x0 : Int32) (x1 : Int32) : Option (Int32) :=
  some ((x0 * (6 : Int32)) + x1)
set_option maxRecDepth 100000 in
set_option maxHeartbeats 4000000 in
theorem c_X3_cell (l : Launch) (g : GG) (N : Nat) (x0 : Int32) (x1 : Int32) (r : Int32) (h : f_X3_cell N x0 x1 = some r) : Ci l yX3_cell wsX3_cell RM_X3_cell g [.int x0, .int x1] ([] : va_W) ([] : va_W) r := by
  intro sz
  refine Met.ofC (cc := cX3_cell) (maxL := 2) (ret := (some .int)) (by decide) rfl (Nat.le_of_ble_eq_true rfl) ?_
  intro p e s m below meth c hC hr hlk hsz A hA9 hA hP hD hS ls hl
  subst hsz
  have hC : Cx p s m ([.int x0, .int x1] : List Value).toArray c RX3 cX3_cell 2 wsX3_cell g := hC
  have hx := hC.1.1
  have hb := hC.1.2.1
  have hml := hC.1.2.2.1
  have hown := hC.1.2.2.2.1
  have hts := hC.1.2.2.2.2
  have hl : lv_has ls 2 [(0, .int x0), (1, .int x1)] := hl
  show W p l e RM_X3_cell s m ([.int x0, .int x1] : List Value).toArray below meth c s.heap [] 0 0 (Qi below g [.int x0, .int x1] ([] : va_W) ([] : va_W) r s) (F0 m 0 ls [])
  unfold f_X3_cell at h
  refine lv_iload_n hx hb dX3_cell_0 rfl (lv_at hl 0 rfl) ?_
  refine lv_bipush (v := (6 : Int32)) hx hb dX3_cell_1 (by decide) ?_
  refine lv_imul hx hb dX3_cell_3 ?_
  refine lv_iload_n hx hb dX3_cell_4 rfl (lv_at hl 1 rfl) ?_
  refine lv_iadd hx hb dX3_cell_5 ?_
  obtain rfl := fx_i1 h
  exact Ci.ret hC hr hlk hA9 hP hD hS dX3_cell_6
theorem uX3_rateAt_X3 : ∀ w ∈ u_ws RX3 TX3 11, w ∈ wsX3_rateAt := fun w h => List.mem_cons_of_mem _ (List.mem_append_right _ h)
abbrev RM_X3_rateAt : Room := { frames := 0, cells := 0, slots := 0, locals := 0 }
def f_X3_rateAt (N : Nat) (S1 : St) (x1 : Int32) : Option (Int32) :=
  fx_ald 6 (S1.2 6) x1 (fun v101 =>
  some ((S1.1 2) - v101))
set_option maxRecDepth 100000 in
set_option maxHeartbeats 4000000 in
theorem c_X3_rateAt (l : Launch) (g : GG) (N : Nat) (q1 : Nat → Nat) (S1 : St) (x1 : Int32) (r : Int32) (h : f_X3_rateAt N S1 x1 = some r) : Ci l yX3_rateAt wsX3_rateAt RM_X3_rateAt g [.ref (q1 100), .int x1] (wX3 g q1 S1) (wX3 g q1 S1) r := by
  intro sz
  refine Met.ofC (cc := cX3_rateAt) (maxL := 2) (ret := (some .int)) (by decide) rfl (Nat.le_of_ble_eq_true rfl) ?_
  intro p e s m below meth c hC hr hlk hsz A hA9 hA hP hD hS ls hl
  subst hsz
  have hC : Cx p s m ([.ref (q1 100), .int x1] : List Value).toArray c RX3 cX3_rateAt 2 wsX3_rateAt g := hC
  have hx := hC.1.1
  have hb := hC.1.2.1
  have hml := hC.1.2.2.1
  have hown := hC.1.2.2.2.1
  have hts := hC.1.2.2.2.2
  have hl : lv_has ls 2 [(0, .ref (q1 100)), (1, .int x1)] := hl
  show W p l e RM_X3_rateAt s m ([.ref (q1 100), .int x1] : List Value).toArray below meth c s.heap [] 0 0 (Qi below g [.ref (q1 100), .int x1] (wX3 g q1 S1) (wX3 g q1 S1) r s) (F0 m 0 ls [])
  unfold f_X3_rateAt at h
  refine lv_aload_n hx hb dX3_rateAt_0 rfl (lv_at hl 0 rfl) ?_
  refine k_get (ci := 3) (k := 2) (q0 := 0) (v := .int (S1.1 2)) (C := RX3) (T := TX3) (N := 11) hC uX3_rateAt_X3 hP rfl rfl (by decide) (List.mem_of_getElem? (i := 1) rfl) rfl dX3_rateAt_1 ?_
  refine lv_aload_n hx hb dX3_rateAt_4 rfl (lv_at hl 0 rfl) ?_
  refine k_get (ci := 3) (k := 6) (q0 := 0) (v := .ref (q1 6)) (C := RX3) (T := TX3) (N := 11) hC uX3_rateAt_X3 hP rfl rfl (by decide) (List.mem_of_getElem? (i := 2) rfl) rfl dX3_rateAt_5 ?_
  refine lv_iload_n hx hb dX3_rateAt_8 rfl (lv_at hl 1 rfl) ?_
  refine k_ald (q0 := 1) (n := 6) (F := S1.2 6) hC hP rfl dX3_rateAt_9 h (fun v101 h => ?_)
  refine lv_isub hx hb dX3_rateAt_10 ?_
  obtain rfl := fx_i1 h
  exact Ci.ret hC hr hlk hA9 hP hD hS dX3_rateAt_11
theorem uX3_bakeMinute_X3 : ∀ w ∈ u_ws RX3 TX3 11, w ∈ wsX3_bakeMinute := fun w h => List.mem_cons_of_mem _ (List.mem_append_right _ h)
abbrev RM_X3_bakeMinute : Room := { frames := 1, cells := 0, slots := 0, locals := 21 }
def bd_X3_bakeMinute_12 (N : Nat) (x1 : Int32) (x2 : Int32) (S1 : St) (rec : (Int32 × St) → Option (St)) : Option (St) :=
  fx_ald 4 (S1.2 7) x1 (fun v101 =>
    (if v101 ≤ x2 then (
    some S1) else (
    fx_b1 (f_X3_cell N x1 x2) (fun v102 =>
      fx_ald 24 (S1.2 9) v102 (fun v103 =>
      fx_b1 (f_X3_rateAt N S1 x2) (fun v104 =>
      fx_lt (if (0 : Int32) < v104 then v104 else (0 : Int32)) (fun x105 =>
      fx_ast 24 S1 9 v102 (v103 + x105) (fun S106 =>
      fx_lt (x2 + (1 : Int32)) (fun x107 =>
      rec (x107, S106))))))))))
def lf_X3_bakeMinute_12 (N : Nat) (x1 : Int32) : (Int32 × St) → ((Int32 × St) → Option (St)) → Option (St) := fun x rec => bd_X3_bakeMinute_12 N x1 x.1 x.2 rec
set_option maxRecDepth 100000 in
set_option maxHeartbeats 4000000 in
theorem lw_X3_bakeMinute_12 {p : Program} {l : Launch} {e : Env} {s : State} {m : MethodId} {args : Array Value} {below : List Frame} {meth : Method} {c : Code} {Q : State → Prop} {A : Nat → Prop} {H0 : Heap} {g : GG} (hC : Cx p s m args c RX3 cX3_bakeMinute 3 wsX3_bakeMinute g) (hA : ∀ q : Nat, H0.size ≤ q → A q) (N : Nat) (q1 : Nat → Nat) (x1 : Int32) : ∀ (n : Nat) (x2 : Int32) (S1 : St) (o : St), fx_it (lf_X3_bakeMinute_12 N x1) n (x2, S1) = some o → ∀ (H : Heap) (locs : List Loc) (ls : Array Slot), va_P g.1 vwCl (wX3 g q1 S1) H → va_D A (wX3 g q1 S1) → va_S A H0 H locs → lv_has ls 3 [(0, .ref (q1 100)), (1, .int x1), (2, .int x2)] → (∀ (Z0 : St), o = Z0 → ∀ (H : Heap) (locs : List Loc) (ls : Array Slot), va_P g.1 vwCl (wX3 g q1 Z0) H → va_D A (wX3 g q1 Z0) → va_S A H0 H locs → lv_has ls 3 [(0, .ref (q1 100)), (1, .int x1)] → W p l e RM_X3_bakeMinute s m args below meth c H locs 0 0 Q (F0 m 50 ls [])) → W p l e RM_X3_bakeMinute s m args below meth c H locs 0 0 Q (F0 m 12 ls []) := by
  have hx := hC.1.1
  have hb := hC.1.2.1
  have hml := hC.1.2.2.1
  have hown := hC.1.2.2.2.1
  have hts := hC.1.2.2.2.2
  intro n
  induction n with
  | zero => intro x2 S1 o h; cases h
  | succ n ih =>
    intro x2 S1 o h H locs ls hP hD hS hl k0
    have h : bd_X3_bakeMinute_12 N x1 x2 S1 (fx_it (lf_X3_bakeMinute_12 N x1) n) = some o := h
    unfold bd_X3_bakeMinute_12 at h
    refine lv_iload_n hx hb dX3_bakeMinute_12 rfl (lv_at hl 2 rfl) ?_
    refine lv_aload_n hx hb dX3_bakeMinute_13 rfl (lv_at hl 0 rfl) ?_
    refine k_get (ci := 3) (k := 7) (q0 := 0) (v := .ref (q1 7)) (C := RX3) (T := TX3) (N := 11) hC uX3_bakeMinute_X3 hP rfl rfl (by decide) (List.mem_of_getElem? (i := 2) rfl) rfl dX3_bakeMinute_14 ?_
    refine lv_iload_n hx hb dX3_bakeMinute_17 rfl (lv_at hl 1 rfl) ?_
    refine k_ald (q0 := 2) (n := 4) (F := S1.2 7) hC hP rfl dX3_bakeMinute_18 h (fun v101 h => ?_)
    refine k_icmp_ge (tgt := 50) hC dX3_bakeMinute_19 (by decide) h (fun h => ?_) (fun h => ?_)
    · exact k0 S1 (Option.some.inj h).symm _ _ _ hP hD hS (lv_sub hl [0, 1] rfl)
    · refine lv_aload_n hx hb dX3_bakeMinute_22 rfl (lv_at hl 0 rfl) ?_
      refine k_get (ci := 3) (k := 9) (q0 := 0) (v := .ref (q1 9)) (C := RX3) (T := TX3) (N := 11) hC uX3_bakeMinute_X3 hP rfl rfl (by decide) (List.mem_of_getElem? (i := 3) rfl) rfl dX3_bakeMinute_23 ?_
      refine lv_iload_n hx hb dX3_bakeMinute_26 rfl (lv_at hl 1 rfl) ?_
      refine lv_iload_n hx hb dX3_bakeMinute_27 rfl (lv_at hl 2 rfl) ?_
      obtain ⟨v102, hc109, h⟩ := fx_b1_s h
      refine k_callSi (n := 2) (As := [.int x1, .int x2]) (rest := [.ref (q1 9)]) (wc := ([] : va_W)) (w1 := ([] : va_W)) (ws2 := (wX3 g q1 S1)) (bytes := cX3_cell) (maxL := 2) (ret := (some .int)) hC hl.1 (c_X3_cell l g N x1 x2 v102 hc109) rfl gX3_bakeMinute_X3_cell (by decide +kernel) ⟨Nat.le_of_ble_eq_true rfl, Nat.le_of_ble_eq_true rfl⟩ rfl rfl rfl (Nat.le_of_ble_eq_true rfl) ⟨Nat.le_of_ble_eq_true rfl, Nat.le_of_ble_eq_true rfl⟩ dX3_bakeMinute_28 hP hD hS hA [] rfl (by decide) rfl rfl (fun H locs hP hD hS => ?_)
      refine lv_dup2_11 hx hb dX3_bakeMinute_31 rfl rfl ?_
      refine k_ald (q0 := 4) (n := 24) (F := S1.2 9) hC hP rfl dX3_bakeMinute_32 h (fun v103 h => ?_)
      refine lv_iconst (v := (0 : Int32)) hx hb dX3_bakeMinute_33 (by decide) ?_
      refine lv_aload_n hx hb dX3_bakeMinute_34 rfl (lv_at hl 0 rfl) ?_
      refine lv_iload_n hx hb dX3_bakeMinute_35 rfl (lv_at hl 2 rfl) ?_
      obtain ⟨v104, hc108, h⟩ := fx_b1_s h
      refine k_callVi (C := RX3) (ci := 3) (qr := 0) (n := 1) (As := [.int x2]) (rest := [.int (0 : Int32), .int v103, .int v102, .ref (q1 9)]) (wc := (wX3 g q1 S1)) (w1 := (wX3 g q1 S1)) (ws2 := (wX3 g q1 S1)) (bytes := cX3_rateAt) (maxL := 2) (ret := (some .int)) hC hl.1 (c_X3_rateAt l g N q1 S1 x2 v104 hc108) rfl gX3_bakeMinute_X3_rateAt (by decide +kernel) rfl rfl ⟨Nat.le_of_ble_eq_true rfl, Nat.le_of_ble_eq_true rfl⟩ rfl rfl rfl (Nat.le_of_ble_eq_true rfl) ⟨Nat.le_of_ble_eq_true rfl, Nat.le_of_ble_eq_true rfl⟩ dX3_bakeMinute_36 hP hD hS hA [0, 1, 2, 3, 4, 5] rfl (by decide) rfl rfl (fun H locs hP hD hS => ?_)
      refine va_mmax hx hb (hml.trans hl.1.symm) hown (hts _ (List.mem_of_getElem? (i := 4) rfl)) (hts _ (List.mem_of_getElem? (i := 5) rfl)) (hts _ (List.mem_of_getElem? (i := 6) rfl)) (hts _ (List.mem_of_getElem? (i := 7) rfl)) (Nat.le_of_ble_eq_true rfl) (Nat.le_of_ble_eq_true rfl) (Nat.zero_le _) (Nat.zero_le _) dX3_bakeMinute_39 ?_
      refine k_topi h (fun x105 h => ?_)
      refine lv_iadd hx hb dX3_bakeMinute_42 ?_
      refine k_ast (q0 := 4) (n := 24) (k := 9) (S := S1) (fun S => (wX3 g q1 S)) hC hP hD hS rfl (fun _ => rfl) dX3_bakeMinute_43 h (fun S106 h H locs hP hD hS => ?_)
      refine k_iinc (v := (1 : Int32)) (lv' := fun X => [(2, .int X), (0, .ref (q1 100)), (1, .int x1)]) hC dX3_bakeMinute_44 hl (k := 2) rfl (by decide) (by decide) (fun _ => rfl) h (fun x107 h ls hl => ?_)
      refine lv_goto (tgt := 12) hx hb dX3_bakeMinute_47 (by decide) ?_
      exact ih x107 S106 o h _ _ _ hP hD hS (lv_sub hl [1, 2, 0] rfl) k0
def bd_X3_bakeMinute_2 (N : Nat) (x1 : Int32) (S1 : St) (rec : (Int32 × St) → Option (St)) : Option (St) :=
  (if (S1.1 0) ≤ x1 then (
    some S1) else (
    fx_b1 (fx_it (lf_X3_bakeMinute_12 N x1) N ((0 : Int32), S1)) (fun S101 =>
      fx_lt (x1 + (1 : Int32)) (fun x103 =>
        rec (x103, S101)))))
def lf_X3_bakeMinute_2 (N : Nat) : (Int32 × St) → ((Int32 × St) → Option (St)) → Option (St) := fun x rec => bd_X3_bakeMinute_2 N x.1 x.2 rec
set_option maxRecDepth 100000 in
set_option maxHeartbeats 4000000 in
theorem lw_X3_bakeMinute_2 {p : Program} {l : Launch} {e : Env} {s : State} {m : MethodId} {args : Array Value} {below : List Frame} {meth : Method} {c : Code} {Q : State → Prop} {A : Nat → Prop} {H0 : Heap} {g : GG} (hC : Cx p s m args c RX3 cX3_bakeMinute 3 wsX3_bakeMinute g) (hA : ∀ q : Nat, H0.size ≤ q → A q) (N : Nat) (q1 : Nat → Nat) : ∀ (n : Nat) (x1 : Int32) (S1 : St) (o : St), fx_it (lf_X3_bakeMinute_2 N) n (x1, S1) = some o → ∀ (H : Heap) (locs : List Loc) (ls : Array Slot), va_P g.1 vwCl (wX3 g q1 S1) H → va_D A (wX3 g q1 S1) → va_S A H0 H locs → lv_has ls 3 [(0, .ref (q1 100)), (1, .int x1)] → (∀ (Z0 : St), o = Z0 → ∀ (H : Heap) (locs : List Loc) (ls : Array Slot), va_P g.1 vwCl (wX3 g q1 Z0) H → va_D A (wX3 g q1 Z0) → va_S A H0 H locs → lv_has ls 3 [(0, .ref (q1 100))] → W p l e RM_X3_bakeMinute s m args below meth c H locs 0 0 Q (F0 m 56 ls [])) → W p l e RM_X3_bakeMinute s m args below meth c H locs 0 0 Q (F0 m 2 ls []) := by
  have hx := hC.1.1
  have hb := hC.1.2.1
  have hml := hC.1.2.2.1
  have hown := hC.1.2.2.2.1
  have hts := hC.1.2.2.2.2
  intro n
  induction n with
  | zero => intro x1 S1 o h; cases h
  | succ n ih =>
    intro x1 S1 o h H locs ls hP hD hS hl k0
    have h : bd_X3_bakeMinute_2 N x1 S1 (fx_it (lf_X3_bakeMinute_2 N) n) = some o := h
    unfold bd_X3_bakeMinute_2 at h
    refine lv_iload_n hx hb dX3_bakeMinute_2 rfl (lv_at hl 1 rfl) ?_
    refine lv_aload_n hx hb dX3_bakeMinute_3 rfl (lv_at hl 0 rfl) ?_
    refine k_get (ci := 3) (k := 0) (q0 := 0) (v := .int (S1.1 0)) (C := RX3) (T := TX3) (N := 11) hC uX3_bakeMinute_X3 hP rfl rfl (by decide) (List.mem_of_getElem? (i := 1) rfl) rfl dX3_bakeMinute_4 ?_
    refine k_icmp_ge (tgt := 56) hC dX3_bakeMinute_7 (by decide) h (fun h => ?_) (fun h => ?_)
    · exact k0 S1 (Option.some.inj h).symm _ _ _ hP hD hS (lv_sub hl [0] rfl)
    · refine lv_iconst (v := (0 : Int32)) hx hb dX3_bakeMinute_10 (by decide) ?_
      refine lv_istore_n (lv' := [(2, .int (0 : Int32)), (0, .ref (q1 100)), (1, .int x1)]) hx hb dX3_bakeMinute_11 rfl hl (by decide) rfl (fun ls hl => ?_)
      obtain ⟨S101, ho102, h⟩ := fx_b1_s h
      refine lw_X3_bakeMinute_12 hC hA N q1 x1 N (0 : Int32) S1  S101 ho102 _ _ _ hP hD hS (lv_sub hl [1, 2, 0] rfl) ?_
      · intro y0 he H locs ls hP hD hS hl
        obtain rfl := he
        refine k_iinc (v := (1 : Int32)) (lv' := fun X => [(1, .int X), (0, .ref (q1 100))]) hC dX3_bakeMinute_50 hl (k := 1) rfl (by decide) (by decide) (fun _ => rfl) h (fun x103 h ls hl => ?_)
        refine lv_goto (tgt := 2) hx hb dX3_bakeMinute_53 (by decide) ?_
        exact ih x103 S101 o h _ _ _ hP hD hS (lv_sub hl [1, 0] rfl) k0
def f_X3_bakeMinute (N : Nat) (S1 : St) : Option (St) :=
  fx_b1 (fx_it (lf_X3_bakeMinute_2 N) N ((0 : Int32), S1)) (fun S101 =>
  fx_b1 ((if (S101.1 5) = 0 then (
    some (0 : Int32)) else (
    some (S101.1 4))) : Option (Int32)) (fun v103 =>
    fx_lt (if (0 : Int32) < (((S101.1 2) - (S101.1 3)) - v103) then (((S101.1 2) - (S101.1 3)) - v103) else (0 : Int32)) (fun x105 =>
      fx_lt (stI S101 2 x105) (fun S106 =>
      fx_lt (stI S106 5 (0 : Int32)) (fun S107 =>
      some S107)))))
set_option maxRecDepth 100000 in
set_option maxHeartbeats 4000000 in
theorem c_X3_bakeMinute (l : Launch) (g : GG) (N : Nat) (q1 : Nat → Nat) (S1 : St) (F1 : St) (h : f_X3_bakeMinute N S1 = some F1) : Cv l yX3_bakeMinute wsX3_bakeMinute RM_X3_bakeMinute g [.ref (q1 100)] (wX3 g q1 S1) (wX3 g q1 F1) := by
  intro sz
  refine Met.ofC (cc := cX3_bakeMinute) (maxL := 3) (ret := none) (by decide) rfl (Nat.le_of_ble_eq_true rfl) ?_
  intro p e s m below meth c hC hr hlk hsz A hA9 hA hP hD hS ls hl
  subst hsz
  have hC : Cx p s m ([.ref (q1 100)] : List Value).toArray c RX3 cX3_bakeMinute 3 wsX3_bakeMinute g := hC
  have hx := hC.1.1
  have hb := hC.1.2.1
  have hml := hC.1.2.2.1
  have hown := hC.1.2.2.2.1
  have hts := hC.1.2.2.2.2
  have hl : lv_has ls 3 [(0, .ref (q1 100))] := hl
  show W p l e RM_X3_bakeMinute s m ([.ref (q1 100)] : List Value).toArray below meth c s.heap [] 0 0 (Qv below g [.ref (q1 100)] (wX3 g q1 S1) (wX3 g q1 F1) s) (F0 m 0 ls [])
  unfold f_X3_bakeMinute at h
  refine lv_iconst (v := (0 : Int32)) hx hb dX3_bakeMinute_0 (by decide) ?_
  refine lv_istore_n (lv' := [(1, .int (0 : Int32)), (0, .ref (q1 100))]) hx hb dX3_bakeMinute_1 rfl hl (by decide) rfl (fun ls hl => ?_)
  obtain ⟨S101, ho102, h⟩ := fx_b1_s h
  refine lw_X3_bakeMinute_2 hC hA N q1 N (0 : Int32) S1  S101 ho102 _ _ _ hP hD hS (lv_sub hl [1, 0] rfl) ?_
  · intro y0 he H locs ls hP hD hS hl
    obtain rfl := he
    refine lv_aload_n hx hb dX3_bakeMinute_56 rfl (lv_at hl 0 rfl) ?_
    refine lv_iconst (v := (0 : Int32)) hx hb dX3_bakeMinute_57 (by decide) ?_
    refine lv_aload_n hx hb dX3_bakeMinute_58 rfl (lv_at hl 0 rfl) ?_
    refine k_get (ci := 3) (k := 2) (q0 := 0) (v := .int (S101.1 2)) (C := RX3) (T := TX3) (N := 11) hC uX3_bakeMinute_X3 hP rfl rfl (by decide) (List.mem_of_getElem? (i := 8) rfl) rfl dX3_bakeMinute_59 ?_
    refine lv_aload_n hx hb dX3_bakeMinute_62 rfl (lv_at hl 0 rfl) ?_
    refine k_get (ci := 3) (k := 3) (q0 := 0) (v := .int (S101.1 3)) (C := RX3) (T := TX3) (N := 11) hC uX3_bakeMinute_X3 hP rfl rfl (by decide) (List.mem_of_getElem? (i := 9) rfl) rfl dX3_bakeMinute_63 ?_
    refine lv_isub hx hb dX3_bakeMinute_66 ?_
    refine lv_aload_n hx hb dX3_bakeMinute_67 rfl (lv_at hl 0 rfl) ?_
    refine k_get (ci := 3) (k := 5) (q0 := 0) (v := .int (S101.1 5)) (C := RX3) (T := TX3) (N := 11) hC uX3_bakeMinute_X3 hP rfl rfl (by decide) (List.mem_of_getElem? (i := 10) rfl) rfl dX3_bakeMinute_68 ?_
    obtain ⟨v103, hv104, h⟩ := fx_b1_s h
    have K108 : ∀ (H : Heap) (locs : List Loc) (ls : Array Slot), va_P g.1 vwCl (wX3 g q1 S101) H → va_D A (wX3 g q1 S101) → va_S A s.heap H locs → lv_has ls 3 [(0, .ref (q1 100))] → W p l e RM_X3_bakeMinute s m ([.ref (q1 100)] : List Value).toArray below meth c H locs 0 0 (Qv below g [.ref (q1 100)] (wX3 g q1 S1) (wX3 g q1 F1) s) (F0 m 82 ls [.int v103, .int ((S101.1 2) - (S101.1 3)), .int (0 : Int32), .ref (q1 100)]) := by
      intro H locs ls hP hD hS hl
      refine lv_isub hx hb dX3_bakeMinute_82 ?_
      refine va_mmax hx hb (hml.trans hl.1.symm) hown (hts _ (List.mem_of_getElem? (i := 4) rfl)) (hts _ (List.mem_of_getElem? (i := 5) rfl)) (hts _ (List.mem_of_getElem? (i := 6) rfl)) (hts _ (List.mem_of_getElem? (i := 7) rfl)) (Nat.le_of_ble_eq_true rfl) (Nat.le_of_ble_eq_true rfl) (Nat.zero_le _) (Nat.zero_le _) dX3_bakeMinute_83 ?_
      refine k_topi h (fun x105 h => ?_)
      refine k_put (ci := 3) (k := 2) (q0 := 0) (C := RX3) (T := TX3) (N := 11) (S2 := stI S101 2 x105) tyX3 (fun S => (wX3 g q1 S)) hC uX3_bakeMinute_X3 tyX3_ok nmX3 hP hD hS rfl rfl (by decide) (List.mem_of_getElem? (i := 8) rfl) rfl (tyX3_ok 2 (by decide)) (by decide) dX3_bakeMinute_86 rfl h (fun S106 h H locs hP hD hS => ?_)
      refine lv_aload_n hx hb dX3_bakeMinute_89 rfl (lv_at hl 0 rfl) ?_
      refine lv_iconst (v := (0 : Int32)) hx hb dX3_bakeMinute_90 (by decide) ?_
      refine k_putz (ci := 3) (k := 5) (q0 := 0) (C := RX3) (T := TX3) (N := 11) (S2 := stI S106 5 (0 : Int32)) tyX3 (fun S => (wX3 g q1 S)) hC uX3_bakeMinute_X3 tyX3_ok nmX3 hP hD hS rfl rfl (by decide) (List.mem_of_getElem? (i := 10) rfl) rfl (tyX3_ok 5 (by decide)) ⟨rfl, rfl⟩ (by decide) dX3_bakeMinute_91 rfl h (fun S107 h H locs hP hD hS => ?_)
      obtain rfl := fx_i1 h
      exact Cv.ret hC hr hlk hA9 hP hD hS dX3_bakeMinute_94
    refine k_if_eq (tgt := 81) hC dX3_bakeMinute_71 (by decide) hv104 (fun hv104 => ?_) (fun hv104 => ?_)
    · refine lv_iconst (v := (0 : Int32)) hx hb dX3_bakeMinute_81 (by decide) ?_
      obtain rfl := fx_i1 hv104
      exact K108 _ _ _ hP hD hS (lv_sub hl [0] rfl)
    · refine lv_aload_n hx hb dX3_bakeMinute_74 rfl (lv_at hl 0 rfl) ?_
      refine k_get (ci := 3) (k := 4) (q0 := 0) (v := .int (S101.1 4)) (C := RX3) (T := TX3) (N := 11) hC uX3_bakeMinute_X3 hP rfl rfl (by decide) (List.mem_of_getElem? (i := 11) rfl) rfl dX3_bakeMinute_75 ?_
      refine lv_goto (tgt := 82) hx hb dX3_bakeMinute_78 (by decide) ?_
      obtain rfl := fx_i1 hv104
      exact K108 _ _ _ hP hD hS (lv_sub hl [0] rfl)
theorem uX3_rebuild_X3 : ∀ w ∈ u_ws RX3 TX3 11, w ∈ wsX3_rebuild := fun w h => List.mem_cons_of_mem _ (List.mem_append_right _ h)
abbrev RM_X3_rebuild : Room := { frames := 1, cells := 0, slots := 0, locals := 23 }
def f_X3_rebuild (N : Nat) (S1 : St) (x1 : Int32) (x2 : Int32) : Option (St) :=
  fx_lt (stI S1 0 x1) (fun S101 =>
  fx_lt (stI S101 1 x2) (fun S102 =>
  fx_lt (stI S102 5 (0 : Int32)) (fun S103 =>
  fx_lt (stA S103 6 (fx_fl 6 (0 : Int32) (S103.2 6))) (fun S104 =>
  fx_lt (stA S104 7 (fx_fl 4 (0 : Int32) (S104.2 7))) (fun S105 =>
  fx_lt (stA S105 10 (fx_fl 4 (0 : Int32) (S105.2 10))) (fun S106 =>
  some S106))))))
set_option maxRecDepth 100000 in
set_option maxHeartbeats 4000000 in
theorem c_X3_rebuild (l : Launch) (g : GG) (N : Nat) (q1 : Nat → Nat) (S1 : St) (x1 : Int32) (x2 : Int32) (F1 : St) (h : f_X3_rebuild N S1 x1 x2 = some F1) : Cv l yX3_rebuild wsX3_rebuild RM_X3_rebuild g [.ref (q1 100), .int x1, .int x2] (wX3 g q1 S1) (wX3 g q1 F1) := by
  intro sz
  refine Met.ofC (cc := cX3_rebuild) (maxL := 3) (ret := none) (by decide) rfl (Nat.le_of_ble_eq_true rfl) ?_
  intro p e s m below meth c hC hr hlk hsz A hA9 hA hP hD hS ls hl
  subst hsz
  have hC : Cx p s m ([.ref (q1 100), .int x1, .int x2] : List Value).toArray c RX3 cX3_rebuild 3 wsX3_rebuild g := hC
  have hx := hC.1.1
  have hb := hC.1.2.1
  have hml := hC.1.2.2.1
  have hown := hC.1.2.2.2.1
  have hts := hC.1.2.2.2.2
  have hl : lv_has ls 3 [(0, .ref (q1 100)), (1, .int x1), (2, .int x2)] := hl
  show W p l e RM_X3_rebuild s m ([.ref (q1 100), .int x1, .int x2] : List Value).toArray below meth c s.heap [] 0 0 (Qv below g [.ref (q1 100), .int x1, .int x2] (wX3 g q1 S1) (wX3 g q1 F1) s) (F0 m 0 ls [])
  unfold f_X3_rebuild at h
  refine lv_aload_n hx hb dX3_rebuild_0 rfl (lv_at hl 0 rfl) ?_
  refine lv_iload_n hx hb dX3_rebuild_1 rfl (lv_at hl 1 rfl) ?_
  refine k_put (ci := 3) (k := 0) (q0 := 0) (C := RX3) (T := TX3) (N := 11) (S2 := stI S1 0 x1) tyX3 (fun S => (wX3 g q1 S)) hC uX3_rebuild_X3 tyX3_ok nmX3 hP hD hS rfl rfl (by decide) (List.mem_of_getElem? (i := 1) rfl) rfl (tyX3_ok 0 (by decide)) (by decide) dX3_rebuild_2 rfl h (fun S101 h H locs hP hD hS => ?_)
  refine lv_aload_n hx hb dX3_rebuild_5 rfl (lv_at hl 0 rfl) ?_
  refine lv_iload_n hx hb dX3_rebuild_6 rfl (lv_at hl 2 rfl) ?_
  refine k_put (ci := 3) (k := 1) (q0 := 0) (C := RX3) (T := TX3) (N := 11) (S2 := stI S101 1 x2) tyX3 (fun S => (wX3 g q1 S)) hC uX3_rebuild_X3 tyX3_ok nmX3 hP hD hS rfl rfl (by decide) (List.mem_of_getElem? (i := 2) rfl) rfl (tyX3_ok 1 (by decide)) (by decide) dX3_rebuild_7 rfl h (fun S102 h H locs hP hD hS => ?_)
  refine lv_aload_n hx hb dX3_rebuild_10 rfl (lv_at hl 0 rfl) ?_
  refine lv_iconst (v := (0 : Int32)) hx hb dX3_rebuild_11 (by decide) ?_
  refine k_putz (ci := 3) (k := 5) (q0 := 0) (C := RX3) (T := TX3) (N := 11) (S2 := stI S102 5 (0 : Int32)) tyX3 (fun S => (wX3 g q1 S)) hC uX3_rebuild_X3 tyX3_ok nmX3 hP hD hS rfl rfl (by decide) (List.mem_of_getElem? (i := 3) rfl) rfl (tyX3_ok 5 (by decide)) ⟨rfl, rfl⟩ (by decide) dX3_rebuild_12 rfl h (fun S103 h H locs hP hD hS => ?_)
  refine lv_aload_n hx hb dX3_rebuild_15 rfl (lv_at hl 0 rfl) ?_
  refine k_get (ci := 3) (k := 6) (q0 := 0) (v := .ref (q1 6)) (C := RX3) (T := TX3) (N := 11) hC uX3_rebuild_X3 hP rfl rfl (by decide) (List.mem_of_getElem? (i := 4) rfl) rfl dX3_rebuild_16 ?_
  refine lv_iconst (v := (0 : Int32)) hx hb dX3_rebuild_19 (by decide) ?_
  refine k_callSv (As := [.ref (q1 6), .int (0 : Int32)]) (rest := []) (wc := [(q1 6, .inl (g.2.1, 6, .inl (S103.2 6)))]) (w1 := [(q1 6, .inl (g.2.1, 6, .inl (fx_fl 6 (0 : Int32) (S103.2 6))))]) (ws2 := (wX3 g q1 (stA S103 6 (fx_fl 6 (0 : Int32) (S103.2 6))))) (n := 2) (bytes := cJ7_fill_53178) (maxL := 4) (ret := none) hC hl.1 (c_J7_fill l g (q1 6) 6 (by decide) (S103.2 6) (0 : Int32)) rfl gX3_rebuild_J7_fill_53178 (by decide +kernel) ⟨Nat.le_of_ble_eq_true rfl, Nat.le_of_ble_eq_true rfl⟩ rfl rfl rfl (Nat.le_of_ble_eq_true rfl) ⟨Nat.le_of_ble_eq_true rfl, Nat.le_of_ble_eq_true rfl⟩ dX3_rebuild_20 hP hD hS hA [1] rfl rfl rfl rfl (fun H locs hP hD hS => ?_)
  refine k_name (fun S => (wX3 g q1 S)) h hP hD (fun S104 h hP hD => ?_)
  refine lv_aload_n hx hb dX3_rebuild_23 rfl (lv_at hl 0 rfl) ?_
  refine k_get (ci := 3) (k := 7) (q0 := 0) (v := .ref (q1 7)) (C := RX3) (T := TX3) (N := 11) hC uX3_rebuild_X3 hP rfl rfl (by decide) (List.mem_of_getElem? (i := 5) rfl) rfl dX3_rebuild_24 ?_
  refine lv_iconst (v := (0 : Int32)) hx hb dX3_rebuild_27 (by decide) ?_
  refine k_callSv (As := [.ref (q1 7), .int (0 : Int32)]) (rest := []) (wc := [(q1 7, .inl (g.2.1, 4, .inl (S104.2 7)))]) (w1 := [(q1 7, .inl (g.2.1, 4, .inl (fx_fl 4 (0 : Int32) (S104.2 7))))]) (ws2 := (wX3 g q1 (stA S104 7 (fx_fl 4 (0 : Int32) (S104.2 7))))) (n := 2) (bytes := cJ7_fill_53178) (maxL := 4) (ret := none) hC hl.1 (c_J7_fill l g (q1 7) 4 (by decide) (S104.2 7) (0 : Int32)) rfl gX3_rebuild_J7_fill_53178 (by decide +kernel) ⟨Nat.le_of_ble_eq_true rfl, Nat.le_of_ble_eq_true rfl⟩ rfl rfl rfl (Nat.le_of_ble_eq_true rfl) ⟨Nat.le_of_ble_eq_true rfl, Nat.le_of_ble_eq_true rfl⟩ dX3_rebuild_28 hP hD hS hA [2] rfl rfl rfl rfl (fun H locs hP hD hS => ?_)
  refine k_name (fun S => (wX3 g q1 S)) h hP hD (fun S105 h hP hD => ?_)
  refine lv_aload_n hx hb dX3_rebuild_31 rfl (lv_at hl 0 rfl) ?_
  refine k_get (ci := 3) (k := 10) (q0 := 0) (v := .ref (q1 10)) (C := RX3) (T := TX3) (N := 11) hC uX3_rebuild_X3 hP rfl rfl (by decide) (List.mem_of_getElem? (i := 6) rfl) rfl dX3_rebuild_32 ?_
  refine lv_iconst (v := (0 : Int32)) hx hb dX3_rebuild_35 (by decide) ?_
  refine k_callSv (As := [.ref (q1 10), .int (0 : Int32)]) (rest := []) (wc := [(q1 10, .inl (g.2.1, 4, .inl (S105.2 10)))]) (w1 := [(q1 10, .inl (g.2.1, 4, .inl (fx_fl 4 (0 : Int32) (S105.2 10))))]) (ws2 := (wX3 g q1 (stA S105 10 (fx_fl 4 (0 : Int32) (S105.2 10))))) (n := 2) (bytes := cJ7_fill_53178) (maxL := 4) (ret := none) hC hl.1 (c_J7_fill l g (q1 10) 4 (by decide) (S105.2 10) (0 : Int32)) rfl gX3_rebuild_J7_fill_53178 (by decide +kernel) ⟨Nat.le_of_ble_eq_true rfl, Nat.le_of_ble_eq_true rfl⟩ rfl rfl rfl (Nat.le_of_ble_eq_true rfl) ⟨Nat.le_of_ble_eq_true rfl, Nat.le_of_ble_eq_true rfl⟩ dX3_rebuild_36 hP hD hS hA [5] rfl rfl rfl rfl (fun H locs hP hD hS => ?_)
  refine k_name (fun S => (wX3 g q1 S)) h hP hD (fun S106 h hP hD => ?_)
  obtain rfl := fx_i1 h
  exact Cv.ret hC hr hlk hA9 hP hD hS dX3_rebuild_39
theorem uX6_tellOf_X6 : ∀ w ∈ u_ws RX6 TX6 5, w ∈ wsX6_tellOf := fun w h => List.mem_cons_of_mem _ (List.mem_append_right _ h)
abbrev RM_X6_tellOf : Room := { frames := 3, cells := 0, slots := 0, locals := 63 }
def f_X6_tellOf (N : Nat) (S1 : St) (x1 : Int32) (x2 : Int32) : Option (Int32) :=
  fx_b1 (f_X6_has N S1 x1) (fun v101 =>
  (if v101 = 0 then (
  some (-2 : Int32)) else (
  (if x2 = (0 : Int32) then (fx_ald 6 (S1.2 1) x1 (fun v102 =>
      some v102)) else (if x2 = (1 : Int32) then (fx_ald 6 (S1.2 2) x1 (fun v103 =>
      some v103)) else (if x2 = (2 : Int32) then (fx_ald 6 (S1.2 3) x1 (fun v104 =>
      some v104)) else (if x2 = (3 : Int32) then (fx_ald 6 (S1.2 4) x1 (fun v105 =>
      some v105)) else (some (-2 : Int32)))))))))
set_option maxRecDepth 100000 in
set_option maxHeartbeats 4000000 in
theorem c_X6_tellOf (l : Launch) (g : GG) (N : Nat) (q1 : Nat → Nat) (S1 : St) (x1 : Int32) (x2 : Int32) (r : Int32) (h : f_X6_tellOf N S1 x1 x2 = some r) : Ci l yX6_tellOf wsX6_tellOf RM_X6_tellOf g [.ref (q1 100), .int x1, .int x2] (wX6 g q1 S1) (wX6 g q1 S1) r := by
  intro sz
  refine Met.ofC (cc := cX6_tellOf) (maxL := 3) (ret := (some .int)) (by decide) rfl (Nat.le_of_ble_eq_true rfl) ?_
  intro p e s m below meth c hC hr hlk hsz A hA9 hA hP hD hS ls hl
  subst hsz
  have hC : Cx p s m ([.ref (q1 100), .int x1, .int x2] : List Value).toArray c RX6 cX6_tellOf 3 wsX6_tellOf g := hC
  have hx := hC.1.1
  have hb := hC.1.2.1
  have hml := hC.1.2.2.1
  have hown := hC.1.2.2.2.1
  have hts := hC.1.2.2.2.2
  have hl : lv_has ls 3 [(0, .ref (q1 100)), (1, .int x1), (2, .int x2)] := hl
  show W p l e RM_X6_tellOf s m ([.ref (q1 100), .int x1, .int x2] : List Value).toArray below meth c s.heap [] 0 0 (Qi below g [.ref (q1 100), .int x1, .int x2] (wX6 g q1 S1) (wX6 g q1 S1) r s) (F0 m 0 ls [])
  unfold f_X6_tellOf at h
  refine lv_aload_n hx hb dX6_tellOf_0 rfl (lv_at hl 0 rfl) ?_
  refine lv_iload_n hx hb dX6_tellOf_1 rfl (lv_at hl 1 rfl) ?_
  obtain ⟨v101, hc106, h⟩ := fx_b1_s h
  refine k_callVi (C := RX6) (ci := 6) (qr := 0) (n := 1) (As := [.int x1]) (rest := []) (wc := (wX6 g q1 S1)) (w1 := (wX6 g q1 S1)) (ws2 := (wX6 g q1 S1)) (bytes := cX6_has) (maxL := 2) (ret := (some .boolean)) hC hl.1 (c_X6_has l g N q1 S1 x1 v101 hc106) rfl gX6_tellOf_X6_has (by decide +kernel) rfl rfl ⟨Nat.le_of_ble_eq_true rfl, Nat.le_of_ble_eq_true rfl⟩ rfl rfl rfl (Nat.le_of_ble_eq_true rfl) ⟨Nat.le_of_ble_eq_true rfl, Nat.le_of_ble_eq_true rfl⟩ dX6_tellOf_2 hP hD hS hA [0, 1, 2, 3, 4] rfl (by decide) rfl rfl (fun H locs hP hD hS => ?_)
  refine k_if_ne (tgt := 11) hC dX6_tellOf_5 (by decide) h (fun h => ?_) (fun h => ?_)
  · refine lv_iload_n hx hb dX6_tellOf_11 rfl (lv_at hl 2 rfl) ?_
    by_cases c_12_0 : x2 = (0 : Int32)
    · have h := fx_ifp c_12_0 h
      refine k_eqi c_12_0 ?_
      refine lv_tableIn (tgt := 44) hx hb dX6_tellOf_12 (by decide) (by decide) rfl (by decide) ?_
      refine lv_aload_n hx hb dX6_tellOf_44 rfl (lv_at hl 0 rfl) ?_
      refine k_get (ci := 6) (k := 1) (q0 := 0) (v := .ref (q1 1)) (C := RX6) (T := TX6) (N := 5) hC uX6_tellOf_X6 hP rfl rfl (by decide) (List.mem_of_getElem? (i := 1) rfl) rfl dX6_tellOf_45 ?_
      refine lv_iload_n hx hb dX6_tellOf_48 rfl (lv_at hl 1 rfl) ?_
      refine k_ald (q0 := 1) (n := 6) (F := S1.2 1) hC hP rfl dX6_tellOf_49 h (fun v102 h => ?_)
      obtain rfl := fx_i1 h
      exact Ci.ret hC hr hlk hA9 hP hD hS dX6_tellOf_50
    have h := fx_ifn c_12_0 h
    by_cases c_12_1 : x2 = (1 : Int32)
    · have h := fx_ifp c_12_1 h
      refine k_eqi c_12_1 ?_
      refine lv_tableIn (tgt := 51) hx hb dX6_tellOf_12 (by decide) (by decide) rfl (by decide) ?_
      refine lv_aload_n hx hb dX6_tellOf_51 rfl (lv_at hl 0 rfl) ?_
      refine k_get (ci := 6) (k := 2) (q0 := 0) (v := .ref (q1 2)) (C := RX6) (T := TX6) (N := 5) hC uX6_tellOf_X6 hP rfl rfl (by decide) (List.mem_of_getElem? (i := 2) rfl) rfl dX6_tellOf_52 ?_
      refine lv_iload_n hx hb dX6_tellOf_55 rfl (lv_at hl 1 rfl) ?_
      refine k_ald (q0 := 2) (n := 6) (F := S1.2 2) hC hP rfl dX6_tellOf_56 h (fun v103 h => ?_)
      obtain rfl := fx_i1 h
      exact Ci.ret hC hr hlk hA9 hP hD hS dX6_tellOf_57
    have h := fx_ifn c_12_1 h
    by_cases c_12_2 : x2 = (2 : Int32)
    · have h := fx_ifp c_12_2 h
      refine k_eqi c_12_2 ?_
      refine lv_tableIn (tgt := 58) hx hb dX6_tellOf_12 (by decide) (by decide) rfl (by decide) ?_
      refine lv_aload_n hx hb dX6_tellOf_58 rfl (lv_at hl 0 rfl) ?_
      refine k_get (ci := 6) (k := 3) (q0 := 0) (v := .ref (q1 3)) (C := RX6) (T := TX6) (N := 5) hC uX6_tellOf_X6 hP rfl rfl (by decide) (List.mem_of_getElem? (i := 3) rfl) rfl dX6_tellOf_59 ?_
      refine lv_iload_n hx hb dX6_tellOf_62 rfl (lv_at hl 1 rfl) ?_
      refine k_ald (q0 := 3) (n := 6) (F := S1.2 3) hC hP rfl dX6_tellOf_63 h (fun v104 h => ?_)
      obtain rfl := fx_i1 h
      exact Ci.ret hC hr hlk hA9 hP hD hS dX6_tellOf_64
    have h := fx_ifn c_12_2 h
    by_cases c_12_3 : x2 = (3 : Int32)
    · have h := fx_ifp c_12_3 h
      refine k_eqi c_12_3 ?_
      refine lv_tableIn (tgt := 65) hx hb dX6_tellOf_12 (by decide) (by decide) rfl (by decide) ?_
      refine lv_aload_n hx hb dX6_tellOf_65 rfl (lv_at hl 0 rfl) ?_
      refine k_get (ci := 6) (k := 4) (q0 := 0) (v := .ref (q1 4)) (C := RX6) (T := TX6) (N := 5) hC uX6_tellOf_X6 hP rfl rfl (by decide) (List.mem_of_getElem? (i := 4) rfl) rfl dX6_tellOf_66 ?_
      refine lv_iload_n hx hb dX6_tellOf_69 rfl (lv_at hl 1 rfl) ?_
      refine k_ald (q0 := 4) (n := 6) (F := S1.2 4) hC hP rfl dX6_tellOf_70 h (fun v105 h => ?_)
      obtain rfl := fx_i1 h
      exact Ci.ret hC hr hlk hA9 hP hD hS dX6_tellOf_71
    have h := fx_ifn c_12_3 h
    refine lv_tableOut (tgt := 72) hx hb dX6_tellOf_12 (fx_swo3 c_12_0 c_12_1 c_12_2 c_12_3) (by decide) ?_
    refine lv_bipush (v := (-2 : Int32)) hx hb dX6_tellOf_72 (by decide) ?_
    obtain rfl := fx_i1 h
    exact Ci.ret hC hr hlk hA9 hP hD hS dX6_tellOf_74
  · refine lv_bipush (v := (-2 : Int32)) hx hb dX6_tellOf_8 (by decide) ?_
    obtain rfl := fx_i1 h
    exact Ci.ret hC hr hlk hA9 hP hD hS dX6_tellOf_10
abbrev RM_X8_in : Room := { frames := 0, cells := 0, slots := 0, locals := 0 }
def f_X8_in (N : Nat) (x0 : Int64) (x2 : Int64) (x4 : Int64) : Option (Int32) :=
  (if (lg_cmp x0 x2) < 0 then (
  some (0 : Int32)) else (
  (if 0 < (lg_cmp x0 x4) then (
    some (0 : Int32)) else (
    some (1 : Int32)))))
set_option maxRecDepth 100000 in
set_option maxHeartbeats 4000000 in
theorem c_X8_in (l : Launch) (g : GG) (N : Nat) (x0 : Int64) (x2 : Int64) (x4 : Int64) (r : Int32) (h : f_X8_in N x0 x2 x4 = some r) : Ci l yX8_in wsX8_in RM_X8_in g [.long x0, .long x2, .long x4] ([] : va_W) ([] : va_W) r := by
  intro sz
  refine Met.ofC (cc := cX8_in) (maxL := 6) (ret := (some .boolean)) (by decide) rfl (Nat.le_of_ble_eq_true rfl) ?_
  intro p e s m below meth c hC hr hlk hsz A hA9 hA hP hD hS ls hl
  subst hsz
  have hC : Cx p s m ([.long x0, .long x2, .long x4] : List Value).toArray c RX8 cX8_in 6 wsX8_in g := hC
  have hx := hC.1.1
  have hb := hC.1.2.1
  have hml := hC.1.2.2.1
  have hown := hC.1.2.2.2.1
  have hts := hC.1.2.2.2.2
  have hl : lv_has ls 6 [(0, .long x0), (2, .long x2), (4, .long x4)] := hl
  show W p l e RM_X8_in s m ([.long x0, .long x2, .long x4] : List Value).toArray below meth c s.heap [] 0 0 (Qi below g [.long x0, .long x2, .long x4] ([] : va_W) ([] : va_W) r s) (F0 m 0 ls [])
  unfold f_X8_in at h
  refine lv_lload_n hx hb dX8_in_0 rfl (lv_at hl 0 rfl) ?_
  refine lv_lload_n hx hb dX8_in_1 rfl (lv_at hl 1 rfl) ?_
  refine W.lcmp hx hb dX8_in_2 ?_
  refine k_if_lt (tgt := 17) hC dX8_in_3 (by decide) h (fun h => ?_) (fun h => ?_)
  · refine lv_iconst (v := (0 : Int32)) hx hb dX8_in_17 (by decide) ?_
    obtain rfl := fx_i1 h
    exact Ci.retz hC hr hlk rfl hA9 hP hD hS dX8_in_18
  · refine lv_lload_n hx hb dX8_in_6 rfl (lv_at hl 0 rfl) ?_
    refine lv_lload hx hb dX8_in_7 (lv_at hl 2 rfl) ?_
    refine W.lcmp hx hb dX8_in_9 ?_
    refine k_if_gt (tgt := 17) hC dX8_in_10 (by decide) h (fun h => ?_) (fun h => ?_)
    · refine lv_iconst (v := (0 : Int32)) hx hb dX8_in_17 (by decide) ?_
      obtain rfl := fx_i1 h
      exact Ci.retz hC hr hlk rfl hA9 hP hD hS dX8_in_18
    · refine lv_iconst (v := (1 : Int32)) hx hb dX8_in_13 (by decide) ?_
      refine lv_goto (tgt := 18) hx hb dX8_in_14 (by decide) ?_
      obtain rfl := fx_i1 h
      exact Ci.retz hC hr hlk rfl hA9 hP hD hS dX8_in_18
