/-! laid by wip/whole/gen.py out of the printed names and instructions: what each method does (f_), and that its bytecode does it (c_) -/
theorem uX8_seen_X8 : ∀ w ∈ u_ws RX8 TX8 46, w ∈ wsX8_seen := fun w h => List.mem_cons_of_mem _ (List.mem_append_right _ h)
abbrev RM_X8_seen : Room := { frames := 1, cells := 0, slots := 0, locals := 25 }
def f_X8_seen (N : Nat) (S1 : St) (x1 : Int32) : Option (Int32 × St) :=
  fx_b1 (f_X8_in N (Int32.toInt64 x1) (0 : Int64) (5000 : Int64)) (fun v101 =>
  (if v101 = 0 then (
  some ((-2 : Int32), S1)) else (
  (if (S1.1 17) = (6 : Int32) then (
    some ((-4 : Int32), S1)) else (
    fx_ast 6 S1 16 (S1.1 17) x1 (fun S102 =>
      fx_lt (stI S102 17 ((S102.1 17) + (1 : Int32))) (fun S103 =>
      some ((S103.1 17), S103))))))))
set_option maxRecDepth 100000 in
set_option maxHeartbeats 4000000 in
theorem c_X8_seen (l : Launch) (g : GG) (N : Nat) (q1 : Nat → Nat) (S1 : St) (x1 : Int32) (r : Int32) (F1 : St) (h : f_X8_seen N S1 x1 = some (r, F1)) : Ci l yX8_seen wsX8_seen RM_X8_seen g [.ref (q1 100), .int x1] (wX8 g q1 S1) (wX8 g q1 F1) r := by
  intro sz
  refine Met.ofC (cc := cX8_seen) (maxL := 2) (ret := (some .int)) (by decide) rfl (Nat.le_of_ble_eq_true rfl) ?_
  intro p e s m below meth c hC hr hlk hsz A hA9 hA hP hD hS ls hl
  subst hsz
  have hC : Cx p s m ([.ref (q1 100), .int x1] : List Value).toArray c RX8 cX8_seen 2 wsX8_seen g := hC
  have hx := hC.1.1
  have hb := hC.1.2.1
  have hml := hC.1.2.2.1
  have hown := hC.1.2.2.2.1
  have hts := hC.1.2.2.2.2
  have hl : lv_has ls 2 [(0, .ref (q1 100)), (1, .int x1)] := hl
  show W p l e RM_X8_seen s m ([.ref (q1 100), .int x1] : List Value).toArray below meth c s.heap [] 0 0 (Qi below g [.ref (q1 100), .int x1] (wX8 g q1 S1) (wX8 g q1 F1) r s) (F0 m 0 ls [])
  unfold f_X8_seen at h
  refine lv_iload_n hx hb dX8_seen_0 rfl (lv_at hl 1 rfl) ?_
  refine lv_i2l hx hb dX8_seen_1 rfl ?_
  refine lv_lconst (v := (0 : Int64)) hx hb dX8_seen_2 (by decide) ?_
  refine lv_ldc2 (v := (5000 : Int64)) hx hb hown (hts _ (List.mem_of_getElem? (i := 1) rfl)) dX8_seen_3 ?_
  obtain ⟨v101, hc104, h⟩ := fx_b1_s h
  refine k_callSi0 (n := 3) (As := [.long (Int32.toInt64 x1), .long (0 : Int64), .long (5000 : Int64)]) (rest := []) (wc := ([] : va_W)) (bytes := cX8_in) (maxL := 6) (ret := (some .boolean)) hC hl.1 (c_X8_in l g N (Int32.toInt64 x1) (0 : Int64) (5000 : Int64) v101 hc104) rfl gX8_seen_X8_in (by decide +kernel) ⟨Nat.le_of_ble_eq_true rfl, Nat.le_of_ble_eq_true rfl⟩ rfl rfl rfl (Nat.le_of_ble_eq_true rfl) ⟨Nat.le_of_ble_eq_true rfl, Nat.le_of_ble_eq_true rfl⟩ dX8_seen_6 hP hD hS hA [] rfl (by decide +kernel) (fun H locs hP hD hS => ?_)
  refine k_if_ne (tgt := 15) hC dX8_seen_9 (by decide) h (fun h => ?_) (fun h => ?_)
  · refine lv_aload_n hx hb dX8_seen_15 rfl (lv_at hl 0 rfl) ?_
    refine k_get (ci := 8) (k := 17) (q0 := 0) (v := .int (S1.1 17)) (C := RX8) (T := TX8) (N := 46) hC uX8_seen_X8 hP rfl rfl (by decide) (List.mem_of_getElem? (i := 2) rfl) rfl dX8_seen_16 ?_
    refine lv_bipush (v := (6 : Int32)) hx hb dX8_seen_19 (by decide) ?_
    refine k_icmp_ne (tgt := 27) hC dX8_seen_21 (by decide) h (fun h => ?_) (fun h => ?_)
    · refine lv_aload_n hx hb dX8_seen_27 rfl (lv_at hl 0 rfl) ?_
      refine k_get (ci := 8) (k := 16) (q0 := 0) (v := .ref (q1 16)) (C := RX8) (T := TX8) (N := 46) hC uX8_seen_X8 hP rfl rfl (by decide) (List.mem_of_getElem? (i := 3) rfl) rfl dX8_seen_28 ?_
      refine lv_aload_n hx hb dX8_seen_31 rfl (lv_at hl 0 rfl) ?_
      refine k_get (ci := 8) (k := 17) (q0 := 0) (v := .int (S1.1 17)) (C := RX8) (T := TX8) (N := 46) hC uX8_seen_X8 hP rfl rfl (by decide) (List.mem_of_getElem? (i := 2) rfl) rfl dX8_seen_32 ?_
      refine lv_iload_n hx hb dX8_seen_35 rfl (lv_at hl 1 rfl) ?_
      refine k_ast (q0 := 10) (n := 6) (k := 16) (S := S1) (fun S => (wX8 g q1 S)) hC hP hD hS rfl (fun _ => rfl) dX8_seen_36 h (fun S102 h H locs hP hD hS => ?_)
      refine lv_aload_n hx hb dX8_seen_37 rfl (lv_at hl 0 rfl) ?_
      refine lv_dup hx hb dX8_seen_38 rfl ?_
      refine k_get (ci := 8) (k := 17) (q0 := 0) (v := .int (S102.1 17)) (C := RX8) (T := TX8) (N := 46) hC uX8_seen_X8 hP rfl rfl (by decide) (List.mem_of_getElem? (i := 2) rfl) rfl dX8_seen_39 ?_
      refine lv_iconst (v := (1 : Int32)) hx hb dX8_seen_42 (by decide) ?_
      refine lv_iadd hx hb dX8_seen_43 ?_
      refine k_put (ci := 8) (k := 17) (q0 := 0) (C := RX8) (T := TX8) (N := 46) (S2 := stI S102 17 ((S102.1 17) + (1 : Int32))) tyX8 (fun S => (wX8 g q1 S)) hC uX8_seen_X8 tyX8_ok nmX8 hP hD hS rfl rfl (by decide) (List.mem_of_getElem? (i := 2) rfl) rfl (tyX8_ok 17 (by decide)) (Nat.le_of_ble_eq_true rfl) dX8_seen_44 rfl h (fun S103 h H locs hP hD hS => ?_)
      refine lv_aload_n hx hb dX8_seen_47 rfl (lv_at hl 0 rfl) ?_
      refine k_get (ci := 8) (k := 17) (q0 := 0) (v := .int (S103.1 17)) (C := RX8) (T := TX8) (N := 46) hC uX8_seen_X8 hP rfl rfl (by decide) (List.mem_of_getElem? (i := 2) rfl) rfl dX8_seen_48 ?_
      obtain ⟨rfl, rfl⟩ := fx_i2 h
      exact Ci.ret hC hr hlk hA9 hP hD hS dX8_seen_51
    · refine lv_bipush (v := (-4 : Int32)) hx hb dX8_seen_24 (by decide) ?_
      obtain ⟨rfl, rfl⟩ := fx_i2 h
      exact Ci.ret hC hr hlk hA9 hP hD hS dX8_seen_26
  · refine lv_bipush (v := (-2 : Int32)) hx hb dX8_seen_12 (by decide) ?_
    obtain ⟨rfl, rfl⟩ := fx_i2 h
    exact Ci.ret hC hr hlk hA9 hP hD hS dX8_seen_14
theorem uX8_forget_X8 : ∀ w ∈ u_ws RX8 TX8 46, w ∈ wsX8_forget := fun w h => List.mem_cons_of_mem _ (List.mem_append_right _ h)
abbrev RM_X8_forget : Room := { frames := 0, cells := 0, slots := 0, locals := 0 }
def f_X8_forget (N : Nat) (S1 : St) : Option (Int32 × St) :=
  fx_lt (stI S1 17 (0 : Int32)) (fun S101 =>
  some ((S1.1 17), S101))
set_option maxRecDepth 100000 in
set_option maxHeartbeats 4000000 in
theorem c_X8_forget (l : Launch) (g : GG) (N : Nat) (q1 : Nat → Nat) (S1 : St) (r : Int32) (F1 : St) (h : f_X8_forget N S1 = some (r, F1)) : Ci l yX8_forget wsX8_forget RM_X8_forget g [.ref (q1 100)] (wX8 g q1 S1) (wX8 g q1 F1) r := by
  intro sz
  refine Met.ofC (cc := cX8_forget) (maxL := 2) (ret := (some .int)) (by decide) rfl (Nat.le_of_ble_eq_true rfl) ?_
  intro p e s m below meth c hC hr hlk hsz A hA9 hA hP hD hS ls hl
  subst hsz
  have hC : Cx p s m ([.ref (q1 100)] : List Value).toArray c RX8 cX8_forget 2 wsX8_forget g := hC
  have hx := hC.1.1
  have hb := hC.1.2.1
  have hml := hC.1.2.2.1
  have hown := hC.1.2.2.2.1
  have hts := hC.1.2.2.2.2
  have hl : lv_has ls 2 [(0, .ref (q1 100))] := hl
  show W p l e RM_X8_forget s m ([.ref (q1 100)] : List Value).toArray below meth c s.heap [] 0 0 (Qi below g [.ref (q1 100)] (wX8 g q1 S1) (wX8 g q1 F1) r s) (F0 m 0 ls [])
  unfold f_X8_forget at h
  refine lv_aload_n hx hb dX8_forget_0 rfl (lv_at hl 0 rfl) ?_
  refine k_get (ci := 8) (k := 17) (q0 := 0) (v := .int (S1.1 17)) (C := RX8) (T := TX8) (N := 46) hC uX8_forget_X8 hP rfl rfl (by decide) (List.mem_of_getElem? (i := 1) rfl) rfl dX8_forget_1 ?_
  refine lv_istore_n (lv' := [(1, .int (S1.1 17)), (0, .ref (q1 100))]) hx hb dX8_forget_4 rfl hl (by decide) rfl (fun ls hl => ?_)
  refine lv_aload_n hx hb dX8_forget_5 rfl (lv_at hl 1 rfl) ?_
  refine lv_iconst (v := (0 : Int32)) hx hb dX8_forget_6 (by decide) ?_
  refine k_put (ci := 8) (k := 17) (q0 := 0) (C := RX8) (T := TX8) (N := 46) (S2 := stI S1 17 (0 : Int32)) tyX8 (fun S => (wX8 g q1 S)) hC uX8_forget_X8 tyX8_ok nmX8 hP hD hS rfl rfl (by decide) (List.mem_of_getElem? (i := 1) rfl) rfl (tyX8_ok 17 (by decide)) (Nat.le_of_ble_eq_true rfl) dX8_forget_7 rfl h (fun S101 h H locs hP hD hS => ?_)
  refine lv_iload_n hx hb dX8_forget_10 rfl (lv_at hl 0 rfl) ?_
  obtain ⟨rfl, rfl⟩ := fx_i2 h
  exact Ci.ret hC hr hlk hA9 hP hD hS dX8_forget_11
theorem uX8_findStood_X8 : ∀ w ∈ u_ws RX8 TX8 46, w ∈ wsX8_findStood := fun w h => List.mem_cons_of_mem _ (List.mem_append_right _ h)
abbrev RM_X8_findStood : Room := { frames := 0, cells := 0, slots := 0, locals := 0 }
def bd_X8_findStood_16 (N : Nat) (x1 : Int32) (x2 : Int32) (x3 : Int32) (x4 : Int32) (x5 : Int32) (x6 : Int32) (x7 : Int32) (S1 : St) (rec : (Int32 × Int32 × Int32 × Int32 × St) → Option (Int32 × St)) : Option (Int32 × St) :=
  (if (99 : Int32) < x7 then (
    some (x4, S1)) else (
    fx_ald 6 (S1.2 6) x1 (fun v101 =>
      fx_b1 ((if x5 ≤ v101 then (
      some (0 : Int32)) else (
      fx_ald 6 (S1.2 6) x1 (fun v115 =>
        some (x5 - v115)))) : Option (Int32)) (fun v102 =>
      fx_lt (x6 + v102) (fun x104 =>
        fx_b1 ((if x5 ≤ (S1.1 3) then (
        some (0 : Int32)) else (
        some (x5 - (S1.1 3)))) : Option (Int32)) (fun v105 =>
        (if x104 = x2 then (
          fx_b1 ((if (S1.1 40) = x3 then (
            some (((100 : Int32) * x1) + x7)) else (
            some x4)) : Option (Int32)) (fun v108 =>
            fx_lt (stI S1 40 ((S1.1 40) + (1 : Int32))) (fun S110 =>
              fx_lt (x7 + (1 : Int32)) (fun x111 =>
              rec (v108, v105, x104, x111, S110))))) else (
          fx_lt (x7 + (1 : Int32)) (fun x107 =>
            rec (x4, v105, x104, x107, S1))))))))))
def lf_X8_findStood_16 (N : Nat) (x1 : Int32) (x2 : Int32) (x3 : Int32) : (Int32 × Int32 × Int32 × Int32 × St) → ((Int32 × Int32 × Int32 × Int32 × St) → Option (Int32 × St)) → Option (Int32 × St) := fun x rec => bd_X8_findStood_16 N x1 x2 x3 x.1 x.2.1 x.2.2.1 x.2.2.2.1 x.2.2.2.2 rec
set_option maxRecDepth 100000 in
set_option maxHeartbeats 4000000 in
theorem lw_X8_findStood_16 {p : Program} {l : Launch} {e : Env} {s : State} {m : MethodId} {args : Array Value} {below : List Frame} {meth : Method} {c : Code} {Q : State → Prop} {A : Nat → Prop} {H0 : Heap} {g : GG} (hC : Cx p s m args c RX8 cX8_findStood 8 wsX8_findStood g) (hA : ∀ q : Nat, H0.size ≤ q → A q) (N : Nat) (q1 : Nat → Nat) (x1 : Int32) (x2 : Int32) (x3 : Int32) : ∀ (n : Nat) (x4 : Int32) (x5 : Int32) (x6 : Int32) (x7 : Int32) (S1 : St) (o : Int32 × St), fx_it (lf_X8_findStood_16 N x1 x2 x3) n (x4, x5, x6, x7, S1) = some o → ∀ (H : Heap) (locs : List Loc) (ls : Array Slot), va_P g.1 vwCl (wX8 g q1 S1) H → va_D A (wX8 g q1 S1) → va_S A H0 H locs → lv_has ls 8 [(0, .ref (q1 100)), (1, .int x1), (2, .int x2), (3, .int x3), (4, .int x4), (5, .int x5), (6, .int x6), (7, .int x7)] → (∀ (z0 : Int32) (Z0 : St), o = (z0, Z0) → ∀ (H : Heap) (locs : List Loc) (ls : Array Slot), va_P g.1 vwCl (wX8 g q1 Z0) H → va_D A (wX8 g q1 Z0) → va_S A H0 H locs → lv_has ls 8 [(4, .int z0)] → W p l e RM_X8_findStood s m args below meth c H locs 0 0 Q (F0 m 118 ls [])) → W p l e RM_X8_findStood s m args below meth c H locs 0 0 Q (F0 m 16 ls []) := by
  have hx := hC.1.1
  have hb := hC.1.2.1
  have hml := hC.1.2.2.1
  have hown := hC.1.2.2.2.1
  have hts := hC.1.2.2.2.2
  intro n
  induction n with
  | zero => intro x4 x5 x6 x7 S1 o h; cases h
  | succ n ih =>
    intro x4 x5 x6 x7 S1 o h H locs ls hP hD hS hl k0
    have h : bd_X8_findStood_16 N x1 x2 x3 x4 x5 x6 x7 S1 (fx_it (lf_X8_findStood_16 N x1 x2 x3) n) = some o := h
    unfold bd_X8_findStood_16 at h
    refine lv_iload hx hb dX8_findStood_16 (lv_at hl 7 rfl) ?_
    refine lv_bipush (v := (99 : Int32)) hx hb dX8_findStood_18 (by decide) ?_
    refine k_icmp_gt (tgt := 118) hC dX8_findStood_20 (by decide) h (fun h => ?_) (fun h => ?_)
    · exact k0 x4 S1 (Option.some.inj h).symm _ _ _ hP hD hS (lv_sub hl [4] rfl)
    · refine lv_iload hx hb dX8_findStood_23 (lv_at hl 6 rfl) ?_
      refine lv_iload hx hb dX8_findStood_25 (lv_at hl 5 rfl) ?_
      refine lv_aload_n hx hb dX8_findStood_27 rfl (lv_at hl 0 rfl) ?_
      refine k_get (ci := 8) (k := 6) (q0 := 0) (v := .ref (q1 6)) (C := RX8) (T := TX8) (N := 46) hC uX8_findStood_X8 hP rfl rfl (by decide) (List.mem_of_getElem? (i := 2) rfl) rfl dX8_findStood_28 ?_
      refine lv_iload_n hx hb dX8_findStood_31 rfl (lv_at hl 1 rfl) ?_
      refine k_ald (q0 := 1) (n := 6) (F := S1.2 6) hC hP rfl dX8_findStood_32 h (fun v101 h => ?_)
      obtain ⟨v102, hv103, h⟩ := fx_b1_s h
      have K114 : ∀ (H : Heap) (locs : List Loc) (ls : Array Slot), va_P g.1 vwCl (wX8 g q1 S1) H → va_D A (wX8 g q1 S1) → va_S A H0 H locs → lv_has ls 8 [(0, .ref (q1 100)), (1, .int x1), (2, .int x2), (3, .int x3), (4, .int x4), (5, .int x5), (7, .int x7)] → W p l e RM_X8_findStood s m args below meth c H locs 0 0 Q (F0 m 49 ls [.int v102, .int x6]) := by
        intro H locs ls hP hD hS hl
        refine lv_iadd hx hb dX8_findStood_49 ?_
        refine k_topi h (fun x104 h => ?_)
        refine lv_istore (lv' := [(6, .int x104), (0, .ref (q1 100)), (1, .int x1), (2, .int x2), (3, .int x3), (4, .int x4), (5, .int x5), (7, .int x7)]) hx hb dX8_findStood_50 hl (by decide) rfl (fun ls hl => ?_)
        refine lv_iload hx hb dX8_findStood_52 (lv_at hl 6 rfl) ?_
        refine lv_aload_n hx hb dX8_findStood_54 rfl (lv_at hl 1 rfl) ?_
        refine k_get (ci := 8) (k := 3) (q0 := 0) (v := .int (S1.1 3)) (C := RX8) (T := TX8) (N := 46) hC uX8_findStood_X8 hP rfl rfl (by decide) (List.mem_of_getElem? (i := 3) rfl) rfl dX8_findStood_55 ?_
        obtain ⟨v105, hv106, h⟩ := fx_b1_s h
        have K113 : ∀ (H : Heap) (locs : List Loc) (ls : Array Slot), va_P g.1 vwCl (wX8 g q1 S1) H → va_D A (wX8 g q1 S1) → va_S A H0 H locs → lv_has ls 8 [(6, .int x104), (0, .ref (q1 100)), (1, .int x1), (2, .int x2), (3, .int x3), (4, .int x4), (7, .int x7)] → W p l e RM_X8_findStood s m args below meth c H locs 0 0 Q (F0 m 72 ls [.int v105]) := by
          intro H locs ls hP hD hS hl
          refine lv_istore (lv' := [(5, .int v105), (6, .int x104), (0, .ref (q1 100)), (1, .int x1), (2, .int x2), (3, .int x3), (4, .int x4), (7, .int x7)]) hx hb dX8_findStood_72 hl (by decide) rfl (fun ls hl => ?_)
          refine lv_iload hx hb dX8_findStood_74 (lv_at hl 1 rfl) ?_
          refine lv_iload_n hx hb dX8_findStood_76 rfl (lv_at hl 4 rfl) ?_
          refine k_icmp_ne (tgt := 112) hC dX8_findStood_77 (by decide) h (fun h => ?_) (fun h => ?_)
          · refine k_iinc (v := (1 : Int32)) (lv' := fun X => [(7, .int X), (5, .int v105), (6, .int x104), (0, .ref (q1 100)), (1, .int x1), (2, .int x2), (3, .int x3), (4, .int x4)]) hC dX8_findStood_112 hl (k := 7) rfl (by decide) (by decide) (fun _ => rfl) h (fun x107 h ls hl => ?_)
            refine lv_goto (tgt := 16) hx hb dX8_findStood_115 (by decide) ?_
            exact ih x4 v105 x104 x107 S1 o h _ _ _ hP hD hS (lv_sub hl [3, 4, 5, 6, 7, 1, 2, 0] rfl) k0
          · refine lv_aload_n hx hb dX8_findStood_80 rfl (lv_at hl 2 rfl) ?_
            refine k_get (ci := 8) (k := 40) (q0 := 0) (v := .int (S1.1 40)) (C := RX8) (T := TX8) (N := 46) hC uX8_findStood_X8 hP rfl rfl (by decide) (List.mem_of_getElem? (i := 4) rfl) rfl dX8_findStood_81 ?_
            refine lv_iload_n hx hb dX8_findStood_84 rfl (lv_at hl 5 rfl) ?_
            obtain ⟨v108, hv109, h⟩ := fx_b1_s h
            have K112 : ∀ (H : Heap) (locs : List Loc) (ls : Array Slot), va_P g.1 vwCl (wX8 g q1 S1) H → va_D A (wX8 g q1 S1) → va_S A H0 H locs → lv_has ls 8 [(5, .int v105), (6, .int x104), (0, .ref (q1 100)), (1, .int x1), (2, .int x2), (3, .int x3), (7, .int x7)] → W p l e RM_X8_findStood s m args below meth c H locs 0 0 Q (F0 m 100 ls [.int v108]) := by
              intro H locs ls hP hD hS hl
              refine lv_istore (lv' := [(4, .int v108), (5, .int v105), (6, .int x104), (0, .ref (q1 100)), (1, .int x1), (2, .int x2), (3, .int x3), (7, .int x7)]) hx hb dX8_findStood_100 hl (by decide) rfl (fun ls hl => ?_)
              refine lv_aload_n hx hb dX8_findStood_102 rfl (lv_at hl 3 rfl) ?_
              refine lv_dup hx hb dX8_findStood_103 rfl ?_
              refine k_get (ci := 8) (k := 40) (q0 := 0) (v := .int (S1.1 40)) (C := RX8) (T := TX8) (N := 46) hC uX8_findStood_X8 hP rfl rfl (by decide) (List.mem_of_getElem? (i := 4) rfl) rfl dX8_findStood_104 ?_
              refine lv_iconst (v := (1 : Int32)) hx hb dX8_findStood_107 (by decide) ?_
              refine lv_iadd hx hb dX8_findStood_108 ?_
              refine k_put (ci := 8) (k := 40) (q0 := 0) (C := RX8) (T := TX8) (N := 46) (S2 := stI S1 40 ((S1.1 40) + (1 : Int32))) tyX8 (fun S => (wX8 g q1 S)) hC uX8_findStood_X8 tyX8_ok nmX8 hP hD hS rfl rfl (by decide) (List.mem_of_getElem? (i := 4) rfl) rfl (tyX8_ok 40 (by decide)) (Nat.le_of_ble_eq_true rfl) dX8_findStood_109 rfl h (fun S110 h H locs hP hD hS => ?_)
              refine k_iinc (v := (1 : Int32)) (lv' := fun X => [(7, .int X), (4, .int v108), (5, .int v105), (6, .int x104), (0, .ref (q1 100)), (1, .int x1), (2, .int x2), (3, .int x3)]) hC dX8_findStood_112 hl (k := 7) rfl (by decide) (by decide) (fun _ => rfl) h (fun x111 h ls hl => ?_)
              refine lv_goto (tgt := 16) hx hb dX8_findStood_115 (by decide) ?_
              exact ih v108 v105 x104 x111 S110 o h _ _ _ hP hD hS (lv_sub hl [4, 5, 6, 7, 1, 2, 3, 0] rfl) k0
            refine k_icmp_ne (tgt := 98) hC dX8_findStood_85 (by decide) hv109 (fun hv109 => ?_) (fun hv109 => ?_)
            · refine lv_iload hx hb dX8_findStood_98 (lv_at hl 6 rfl) ?_
              obtain rfl := fx_i1 hv109
              exact K112 _ _ _ hP hD hS (lv_sub hl [0, 1, 2, 3, 4, 5, 7] rfl)
            · refine lv_bipush (v := (100 : Int32)) hx hb dX8_findStood_88 (by decide) ?_
              refine lv_iload_n hx hb dX8_findStood_90 rfl (lv_at hl 3 rfl) ?_
              refine lv_imul hx hb dX8_findStood_91 ?_
              refine lv_iload hx hb dX8_findStood_92 (lv_at hl 7 rfl) ?_
              refine lv_iadd hx hb dX8_findStood_94 ?_
              refine lv_goto (tgt := 100) hx hb dX8_findStood_95 (by decide) ?_
              obtain rfl := fx_i1 hv109
              exact K112 _ _ _ hP hD hS (lv_sub hl [0, 1, 2, 3, 4, 5, 7] rfl)
        refine k_icmp_le (tgt := 71) hC dX8_findStood_58 (by decide) hv106 (fun hv106 => ?_) (fun hv106 => ?_)
        · refine lv_iconst (v := (0 : Int32)) hx hb dX8_findStood_71 (by decide) ?_
          obtain rfl := fx_i1 hv106
          exact K113 _ _ _ hP hD hS (lv_sub hl [0, 1, 2, 3, 4, 5, 7] rfl)
        · refine lv_iload hx hb dX8_findStood_61 (lv_at hl 6 rfl) ?_
          refine lv_aload_n hx hb dX8_findStood_63 rfl (lv_at hl 1 rfl) ?_
          refine k_get (ci := 8) (k := 3) (q0 := 0) (v := .int (S1.1 3)) (C := RX8) (T := TX8) (N := 46) hC uX8_findStood_X8 hP rfl rfl (by decide) (List.mem_of_getElem? (i := 3) rfl) rfl dX8_findStood_64 ?_
          refine lv_isub hx hb dX8_findStood_67 ?_
          refine lv_goto (tgt := 72) hx hb dX8_findStood_68 (by decide) ?_
          obtain rfl := fx_i1 hv106
          exact K113 _ _ _ hP hD hS (lv_sub hl [0, 1, 2, 3, 4, 5, 7] rfl)
      refine k_icmp_le (tgt := 48) hC dX8_findStood_33 (by decide) hv103 (fun hv103 => ?_) (fun hv103 => ?_)
      · refine lv_iconst (v := (0 : Int32)) hx hb dX8_findStood_48 (by decide) ?_
        obtain rfl := fx_i1 hv103
        exact K114 _ _ _ hP hD hS (lv_sub hl [0, 1, 2, 3, 4, 5, 7] rfl)
      · refine lv_iload hx hb dX8_findStood_36 (lv_at hl 5 rfl) ?_
        refine lv_aload_n hx hb dX8_findStood_38 rfl (lv_at hl 0 rfl) ?_
        refine k_get (ci := 8) (k := 6) (q0 := 0) (v := .ref (q1 6)) (C := RX8) (T := TX8) (N := 46) hC uX8_findStood_X8 hP rfl rfl (by decide) (List.mem_of_getElem? (i := 2) rfl) rfl dX8_findStood_39 ?_
        refine lv_iload_n hx hb dX8_findStood_42 rfl (lv_at hl 1 rfl) ?_
        refine k_ald (q0 := 1) (n := 6) (F := S1.2 6) hC hP rfl dX8_findStood_43 hv103 (fun v115 hv103 => ?_)
        refine lv_isub hx hb dX8_findStood_44 ?_
        refine lv_goto (tgt := 49) hx hb dX8_findStood_45 (by decide) ?_
        obtain rfl := fx_i1 hv103
        exact K114 _ _ _ hP hD hS (lv_sub hl [0, 1, 2, 3, 4, 5, 7] rfl)
def f_X8_findStood (N : Nat) (S1 : St) (x1 : Int32) (x2 : Int32) (x3 : Int32) : Option (Int32 × St) :=
  fx_b2 (fx_it (lf_X8_findStood_16 N x1 x2 x3) N ((-6 : Int32), (S1.1 2), (0 : Int32), (1 : Int32), S1)) (fun x101 S102 =>
  some (x101, S102))
set_option maxRecDepth 100000 in
set_option maxHeartbeats 4000000 in
theorem c_X8_findStood (l : Launch) (g : GG) (N : Nat) (q1 : Nat → Nat) (S1 : St) (x1 : Int32) (x2 : Int32) (x3 : Int32) (r : Int32) (F1 : St) (h : f_X8_findStood N S1 x1 x2 x3 = some (r, F1)) : Ci l yX8_findStood wsX8_findStood RM_X8_findStood g [.ref (q1 100), .int x1, .int x2, .int x3] (wX8 g q1 S1) (wX8 g q1 F1) r := by
  intro sz
  refine Met.ofC (cc := cX8_findStood) (maxL := 8) (ret := (some .int)) (by decide) rfl (Nat.le_of_ble_eq_true rfl) ?_
  intro p e s m below meth c hC hr hlk hsz A hA9 hA hP hD hS ls hl
  subst hsz
  have hC : Cx p s m ([.ref (q1 100), .int x1, .int x2, .int x3] : List Value).toArray c RX8 cX8_findStood 8 wsX8_findStood g := hC
  have hx := hC.1.1
  have hb := hC.1.2.1
  have hml := hC.1.2.2.1
  have hown := hC.1.2.2.2.1
  have hts := hC.1.2.2.2.2
  have hl : lv_has ls 8 [(0, .ref (q1 100)), (1, .int x1), (2, .int x2), (3, .int x3)] := hl
  show W p l e RM_X8_findStood s m ([.ref (q1 100), .int x1, .int x2, .int x3] : List Value).toArray below meth c s.heap [] 0 0 (Qi below g [.ref (q1 100), .int x1, .int x2, .int x3] (wX8 g q1 S1) (wX8 g q1 F1) r s) (F0 m 0 ls [])
  unfold f_X8_findStood at h
  refine lv_bipush (v := (-6 : Int32)) hx hb dX8_findStood_0 (by decide) ?_
  refine lv_istore (lv' := [(4, .int (-6 : Int32)), (0, .ref (q1 100)), (1, .int x1), (2, .int x2), (3, .int x3)]) hx hb dX8_findStood_2 hl (by decide) rfl (fun ls hl => ?_)
  refine lv_aload_n hx hb dX8_findStood_4 rfl (lv_at hl 1 rfl) ?_
  refine k_get (ci := 8) (k := 2) (q0 := 0) (v := .int (S1.1 2)) (C := RX8) (T := TX8) (N := 46) hC uX8_findStood_X8 hP rfl rfl (by decide) (List.mem_of_getElem? (i := 1) rfl) rfl dX8_findStood_5 ?_
  refine lv_istore (lv' := [(5, .int (S1.1 2)), (4, .int (-6 : Int32)), (0, .ref (q1 100)), (1, .int x1), (2, .int x2), (3, .int x3)]) hx hb dX8_findStood_8 hl (by decide) rfl (fun ls hl => ?_)
  refine lv_iconst (v := (0 : Int32)) hx hb dX8_findStood_10 (by decide) ?_
  refine lv_istore (lv' := [(6, .int (0 : Int32)), (5, .int (S1.1 2)), (4, .int (-6 : Int32)), (0, .ref (q1 100)), (1, .int x1), (2, .int x2), (3, .int x3)]) hx hb dX8_findStood_11 hl (by decide) rfl (fun ls hl => ?_)
  refine lv_iconst (v := (1 : Int32)) hx hb dX8_findStood_13 (by decide) ?_
  refine lv_istore (lv' := [(7, .int (1 : Int32)), (6, .int (0 : Int32)), (5, .int (S1.1 2)), (4, .int (-6 : Int32)), (0, .ref (q1 100)), (1, .int x1), (2, .int x2), (3, .int x3)]) hx hb dX8_findStood_14 hl (by decide) rfl (fun ls hl => ?_)
  obtain ⟨x101, S102, ho103, h⟩ := fx_b2_s h
  refine lw_X8_findStood_16 hC hA N q1 x1 x2 x3 N (-6 : Int32) (S1.1 2) (0 : Int32) (1 : Int32) S1  (x101, S102) ho103 _ _ _ hP hD hS (lv_sub hl [4, 5, 6, 7, 3, 2, 1, 0] rfl) ?_
  · intro y0 y1 he H locs ls hP hD hS hl
    obtain ⟨rfl, rfl⟩ := fx_j2 he
    refine lv_iload hx hb dX8_findStood_118 (lv_at hl 0 rfl) ?_
    obtain ⟨rfl, rfl⟩ := fx_i2 h
    exact Ci.ret hC hr hlk hA9 hP hD hS dX8_findStood_120
theorem uX8_stood_X8 : ∀ w ∈ u_ws RX8 TX8 46, w ∈ wsX8_stood := fun w h => List.mem_cons_of_mem _ (List.mem_append_right _ h)
abbrev RM_X8_stood : Room := { frames := 1, cells := 0, slots := 0, locals := 27 }
def bd_X8_stood_30 (N : Nat) (x1 : Int32) (x2 : Int32) (x3 : Int32) (x4 : Int32) (S1 : St) (rec : (Int32 × Int32 × St) → Option (Int32 × St)) : Option (Int32 × St) :=
  (if (S1.1 1) ≤ x4 then (
    some (x3, S1)) else (
    fx_ald 6 (S1.2 16) x1 (fun v101 =>
      fx_b2 (f_X8_findStood N S1 x4 v101 x2) (fun v102 S103 =>
      (if v102 < 0 then (
      fx_lt (x4 + (1 : Int32)) (fun x104 =>
        rec (x3, x104, S103))) else (
      fx_lt (x4 + (1 : Int32)) (fun x105 =>
        rec (v102, x105, S103))))))))
def lf_X8_stood_30 (N : Nat) (x1 : Int32) (x2 : Int32) : (Int32 × Int32 × St) → ((Int32 × Int32 × St) → Option (Int32 × St)) → Option (Int32 × St) := fun x rec => bd_X8_stood_30 N x1 x2 x.1 x.2.1 x.2.2 rec
set_option maxRecDepth 100000 in
set_option maxHeartbeats 4000000 in
theorem lw_X8_stood_30 {p : Program} {l : Launch} {e : Env} {s : State} {m : MethodId} {args : Array Value} {below : List Frame} {meth : Method} {c : Code} {Q : State → Prop} {A : Nat → Prop} {H0 : Heap} {g : GG} (hC : Cx p s m args c RX8 cX8_stood 6 wsX8_stood g) (hA : ∀ q : Nat, H0.size ≤ q → A q) (N : Nat) (q1 : Nat → Nat) (x1 : Int32) (x2 : Int32) : ∀ (n : Nat) (x3 : Int32) (x4 : Int32) (S1 : St) (o : Int32 × St), fx_it (lf_X8_stood_30 N x1 x2) n (x3, x4, S1) = some o → ∀ (H : Heap) (locs : List Loc) (ls : Array Slot), va_P g.1 vwCl (wX8 g q1 S1) H → va_D A (wX8 g q1 S1) → va_S A H0 H locs → lv_has ls 6 [(0, .ref (q1 100)), (1, .int x1), (2, .int x2), (3, .int x3), (4, .int x4)] → (∀ (z0 : Int32) (Z0 : St), o = (z0, Z0) → ∀ (H : Heap) (locs : List Loc) (ls : Array Slot), va_P g.1 vwCl (wX8 g q1 Z0) H → va_D A (wX8 g q1 Z0) → va_S A H0 H locs → lv_has ls 6 [(0, .ref (q1 100)), (2, .int x2), (3, .int z0)] → W p l e RM_X8_stood s m args below meth c H locs 0 0 Q (F0 m 72 ls [])) → W p l e RM_X8_stood s m args below meth c H locs 0 0 Q (F0 m 30 ls []) := by
  have hx := hC.1.1
  have hb := hC.1.2.1
  have hml := hC.1.2.2.1
  have hown := hC.1.2.2.2.1
  have hts := hC.1.2.2.2.2
  intro n
  induction n with
  | zero => intro x3 x4 S1 o h; cases h
  | succ n ih =>
    intro x3 x4 S1 o h H locs ls hP hD hS hl k0
    have h : bd_X8_stood_30 N x1 x2 x3 x4 S1 (fx_it (lf_X8_stood_30 N x1 x2) n) = some o := h
    unfold bd_X8_stood_30 at h
    refine lv_iload hx hb dX8_stood_30 (lv_at hl 4 rfl) ?_
    refine lv_aload_n hx hb dX8_stood_32 rfl (lv_at hl 0 rfl) ?_
    refine k_get (ci := 8) (k := 1) (q0 := 0) (v := .int (S1.1 1)) (C := RX8) (T := TX8) (N := 46) hC uX8_stood_X8 hP rfl rfl (by decide) (List.mem_of_getElem? (i := 3) rfl) rfl dX8_stood_33 ?_
    refine k_icmp_ge (tgt := 72) hC dX8_stood_36 (by decide) h (fun h => ?_) (fun h => ?_)
    · exact k0 x3 S1 (Option.some.inj h).symm _ _ _ hP hD hS (lv_sub hl [0, 2, 3] rfl)
    · refine lv_aload_n hx hb dX8_stood_39 rfl (lv_at hl 0 rfl) ?_
      refine lv_iload hx hb dX8_stood_40 (lv_at hl 4 rfl) ?_
      refine lv_aload_n hx hb dX8_stood_42 rfl (lv_at hl 0 rfl) ?_
      refine k_get (ci := 8) (k := 16) (q0 := 0) (v := .ref (q1 16)) (C := RX8) (T := TX8) (N := 46) hC uX8_stood_X8 hP rfl rfl (by decide) (List.mem_of_getElem? (i := 4) rfl) rfl dX8_stood_43 ?_
      refine lv_iload_n hx hb dX8_stood_46 rfl (lv_at hl 1 rfl) ?_
      refine k_ald (q0 := 10) (n := 6) (F := S1.2 16) hC hP rfl dX8_stood_47 h (fun v101 h => ?_)
      refine lv_iload_n hx hb dX8_stood_48 rfl (lv_at hl 2 rfl) ?_
      obtain ⟨v102, S103, hc106, h⟩ := fx_b2_s h
      refine k_callVi (C := RX8) (ci := 8) (qr := 0) (n := 3) (As := [.int x4, .int v101, .int x2]) (rest := []) (wc := (wX8 g q1 S1)) (w1 := (wX8 g q1 S103)) (ws2 := (wX8 g q1 S103)) (bytes := cX8_findStood) (maxL := 8) (ret := (some .int)) hC hl.1 (c_X8_findStood l g N q1 S1 x4 v101 x2 v102 S103 hc106) rfl gX8_stood_X8_findStood (by decide +kernel) rfl rfl ⟨Nat.le_of_ble_eq_true rfl, Nat.le_of_ble_eq_true rfl⟩ rfl rfl rfl (Nat.le_of_ble_eq_true rfl) ⟨Nat.le_of_ble_eq_true rfl, Nat.le_of_ble_eq_true rfl⟩ dX8_stood_49 hP hD hS hA [0, 1, 2, 3, 4, 5, 6, 7, 8, 9, 10, 11, 12, 13, 14, 15, 16, 17, 18, 19, 20, 21, 22, 23] rfl (by decide +kernel) [q1 100, q1 6, q1 8, q1 9, q1 10, q1 11, q1 12, q1 13, q1 14, q1 15, q1 16, q1 18, q1 20, q1 21, q1 23, q1 27, q1 30, q1 32, q1 33, q1 34, q1 39, q1 41, q1 42, q1 43] rfl rfl rfl [] ([] : va_W) rfl rfl (n2 := 24) rfl (by decide +kernel) (fun H locs hP hD hS => ?_)
      refine lv_istore (lv' := [(5, .int v102), (0, .ref (q1 100)), (1, .int x1), (2, .int x2), (3, .int x3), (4, .int x4)]) hx hb dX8_stood_52 hl (by decide) rfl (fun ls hl => ?_)
      refine lv_iload hx hb dX8_stood_54 (lv_at hl 0 rfl) ?_
      refine k_if_lt (tgt := 64) hC dX8_stood_56 (by decide) h (fun h => ?_) (fun h => ?_)
      · refine lv_iload_n hx hb dX8_stood_64 rfl (lv_at hl 4 rfl) ?_
        refine lv_istore_n (lv' := [(3, .int x3), (5, .int v102), (0, .ref (q1 100)), (1, .int x1), (2, .int x2), (4, .int x4)]) hx hb dX8_stood_65 rfl hl (by decide) rfl (fun ls hl => ?_)
        refine k_iinc (v := (1 : Int32)) (lv' := fun X => [(4, .int X), (3, .int x3), (5, .int v102), (0, .ref (q1 100)), (1, .int x1), (2, .int x2)]) hC dX8_stood_66 hl (k := 5) rfl (by decide) (by decide) (fun _ => rfl) h (fun x104 h ls hl => ?_)
        refine lv_goto (tgt := 30) hx hb dX8_stood_69 (by decide) ?_
        exact ih x3 x104 S103 o h _ _ _ hP hD hS (lv_sub hl [3, 4, 5, 1, 0] rfl) k0
      · refine lv_iload hx hb dX8_stood_59 (lv_at hl 0 rfl) ?_
        refine lv_goto (tgt := 65) hx hb dX8_stood_61 (by decide) ?_
        refine lv_istore_n (lv' := [(3, .int v102), (5, .int v102), (0, .ref (q1 100)), (1, .int x1), (2, .int x2), (4, .int x4)]) hx hb dX8_stood_65 rfl hl (by decide) rfl (fun ls hl => ?_)
        refine k_iinc (v := (1 : Int32)) (lv' := fun X => [(4, .int X), (3, .int v102), (5, .int v102), (0, .ref (q1 100)), (1, .int x1), (2, .int x2)]) hC dX8_stood_66 hl (k := 5) rfl (by decide) (by decide) (fun _ => rfl) h (fun x105 h ls hl => ?_)
        refine lv_goto (tgt := 30) hx hb dX8_stood_69 (by decide) ?_
        exact ih v102 x105 S103 o h _ _ _ hP hD hS (lv_sub hl [3, 4, 5, 1, 0] rfl) k0
def f_X8_stood (N : Nat) (S1 : St) (x1 : Int32) (x2 : Int32) : Option (Int32 × St) :=
  fx_b1 (f_X8_in N (Int32.toInt64 x1) (0 : Int64) (Int32.toInt64 ((S1.1 17) - (1 : Int32)))) (fun v101 =>
  (if v101 = 0 then (
  some ((-2 : Int32), S1)) else (
  fx_lt (stI S1 40 (0 : Int32)) (fun S102 =>
    fx_b2 (fx_it (lf_X8_stood_30 N x1 x2) N ((-6 : Int32), (0 : Int32), S102)) (fun x103 S104 =>
    (if x2 = (-1 : Int32) then (
      some ((S104.1 40), S104)) else (
      some (x103, S104))))))))
set_option maxRecDepth 100000 in
set_option maxHeartbeats 4000000 in
theorem c_X8_stood (l : Launch) (g : GG) (N : Nat) (q1 : Nat → Nat) (S1 : St) (x1 : Int32) (x2 : Int32) (r : Int32) (F1 : St) (h : f_X8_stood N S1 x1 x2 = some (r, F1)) : Ci l yX8_stood wsX8_stood RM_X8_stood g [.ref (q1 100), .int x1, .int x2] (wX8 g q1 S1) (wX8 g q1 F1) r := by
  intro sz
  refine Met.ofC (cc := cX8_stood) (maxL := 6) (ret := (some .int)) (by decide) rfl (Nat.le_of_ble_eq_true rfl) ?_
  intro p e s m below meth c hC hr hlk hsz A hA9 hA hP hD hS ls hl
  subst hsz
  have hC : Cx p s m ([.ref (q1 100), .int x1, .int x2] : List Value).toArray c RX8 cX8_stood 6 wsX8_stood g := hC
  have hx := hC.1.1
  have hb := hC.1.2.1
  have hml := hC.1.2.2.1
  have hown := hC.1.2.2.2.1
  have hts := hC.1.2.2.2.2
  have hl : lv_has ls 6 [(0, .ref (q1 100)), (1, .int x1), (2, .int x2)] := hl
  show W p l e RM_X8_stood s m ([.ref (q1 100), .int x1, .int x2] : List Value).toArray below meth c s.heap [] 0 0 (Qi below g [.ref (q1 100), .int x1, .int x2] (wX8 g q1 S1) (wX8 g q1 F1) r s) (F0 m 0 ls [])
  unfold f_X8_stood at h
  refine lv_iload_n hx hb dX8_stood_0 rfl (lv_at hl 1 rfl) ?_
  refine lv_i2l hx hb dX8_stood_1 rfl ?_
  refine lv_lconst (v := (0 : Int64)) hx hb dX8_stood_2 (by decide) ?_
  refine lv_aload_n hx hb dX8_stood_3 rfl (lv_at hl 0 rfl) ?_
  refine k_get (ci := 8) (k := 17) (q0 := 0) (v := .int (S1.1 17)) (C := RX8) (T := TX8) (N := 46) hC uX8_stood_X8 hP rfl rfl (by decide) (List.mem_of_getElem? (i := 1) rfl) rfl dX8_stood_4 ?_
  refine lv_iconst (v := (1 : Int32)) hx hb dX8_stood_7 (by decide) ?_
  refine lv_isub hx hb dX8_stood_8 ?_
  refine lv_i2l hx hb dX8_stood_9 rfl ?_
  obtain ⟨v101, hc106, h⟩ := fx_b1_s h
  refine k_callSi0 (n := 3) (As := [.long (Int32.toInt64 x1), .long (0 : Int64), .long (Int32.toInt64 ((S1.1 17) - (1 : Int32)))]) (rest := []) (wc := ([] : va_W)) (bytes := cX8_in) (maxL := 6) (ret := (some .boolean)) hC hl.1 (c_X8_in l g N (Int32.toInt64 x1) (0 : Int64) (Int32.toInt64 ((S1.1 17) - (1 : Int32))) v101 hc106) rfl gX8_stood_X8_in (by decide +kernel) ⟨Nat.le_of_ble_eq_true rfl, Nat.le_of_ble_eq_true rfl⟩ rfl rfl rfl (Nat.le_of_ble_eq_true rfl) ⟨Nat.le_of_ble_eq_true rfl, Nat.le_of_ble_eq_true rfl⟩ dX8_stood_10 hP hD hS hA [] rfl (by decide +kernel) (fun H locs hP hD hS => ?_)
  refine k_if_ne (tgt := 19) hC dX8_stood_13 (by decide) h (fun h => ?_) (fun h => ?_)
  · refine lv_aload_n hx hb dX8_stood_19 rfl (lv_at hl 0 rfl) ?_
    refine lv_iconst (v := (0 : Int32)) hx hb dX8_stood_20 (by decide) ?_
    refine k_put (ci := 8) (k := 40) (q0 := 0) (C := RX8) (T := TX8) (N := 46) (S2 := stI S1 40 (0 : Int32)) tyX8 (fun S => (wX8 g q1 S)) hC uX8_stood_X8 tyX8_ok nmX8 hP hD hS rfl rfl (by decide) (List.mem_of_getElem? (i := 2) rfl) rfl (tyX8_ok 40 (by decide)) (Nat.le_of_ble_eq_true rfl) dX8_stood_21 rfl h (fun S102 h H locs hP hD hS => ?_)
    refine lv_bipush (v := (-6 : Int32)) hx hb dX8_stood_24 (by decide) ?_
    refine lv_istore_n (lv' := [(3, .int (-6 : Int32)), (0, .ref (q1 100)), (1, .int x1), (2, .int x2)]) hx hb dX8_stood_26 rfl hl (by decide) rfl (fun ls hl => ?_)
    refine lv_iconst (v := (0 : Int32)) hx hb dX8_stood_27 (by decide) ?_
    refine lv_istore (lv' := [(4, .int (0 : Int32)), (3, .int (-6 : Int32)), (0, .ref (q1 100)), (1, .int x1), (2, .int x2)]) hx hb dX8_stood_28 hl (by decide) rfl (fun ls hl => ?_)
    obtain ⟨x103, S104, ho105, h⟩ := fx_b2_s h
    refine lw_X8_stood_30 hC hA N q1 x1 x2 N (-6 : Int32) (0 : Int32) S102  (x103, S104) ho105 _ _ _ hP hD hS (lv_sub hl [2, 3, 4, 1, 0] rfl) ?_
    · intro y0 y1 he H locs ls hP hD hS hl
      obtain ⟨rfl, rfl⟩ := fx_j2 he
      refine lv_iload_n hx hb dX8_stood_72 rfl (lv_at hl 1 rfl) ?_
      refine lv_iconst (v := (-1 : Int32)) hx hb dX8_stood_73 (by decide) ?_
      refine k_icmp_ne (tgt := 84) hC dX8_stood_74 (by decide) h (fun h => ?_) (fun h => ?_)
      · refine lv_iload_n hx hb dX8_stood_84 rfl (lv_at hl 2 rfl) ?_
        obtain ⟨rfl, rfl⟩ := fx_i2 h
        exact Ci.ret hC hr hlk hA9 hP hD hS dX8_stood_85
      · refine lv_aload_n hx hb dX8_stood_77 rfl (lv_at hl 0 rfl) ?_
        refine k_get (ci := 8) (k := 40) (q0 := 0) (v := .int (S104.1 40)) (C := RX8) (T := TX8) (N := 46) hC uX8_stood_X8 hP rfl rfl (by decide) (List.mem_of_getElem? (i := 2) rfl) rfl dX8_stood_78 ?_
        refine lv_goto (tgt := 85) hx hb dX8_stood_81 (by decide) ?_
        obtain ⟨rfl, rfl⟩ := fx_i2 h
        exact Ci.ret hC hr hlk hA9 hP hD hS dX8_stood_85
  · refine lv_bipush (v := (-2 : Int32)) hx hb dX8_stood_16 (by decide) ?_
    obtain ⟨rfl, rfl⟩ := fx_i2 h
    exact Ci.ret hC hr hlk hA9 hP hD hS dX8_stood_18
theorem uX8_both_X8 : ∀ w ∈ u_ws RX8 TX8 46, w ∈ wsX8_both := fun w h => List.mem_cons_of_mem _ (List.mem_append_right _ h)
abbrev RM_X8_both : Room := { frames := 1, cells := 0, slots := 0, locals := 27 }
def bd_X8_both_17 (N : Nat) (x1 : Int32) (x2 : Int32) (x3 : Int32) (x4 : Int32) (S1 : St) (rec : (Int32 × Int32 × St) → Option (Int32 × St)) : Option (Int32 × St) :=
  (if (S1.1 17) ≤ x4 then (
    some (x3, S1)) else (
    fx_lt (stI S1 40 (0 : Int32)) (fun S101 =>
      fx_ald 6 (S101.2 16) x4 (fun v102 =>
      fx_b2 (f_X8_findStood N S101 x2 v102 (-6 : Int32)) (fun v103 S104 =>
      (if x3 = 0 then (
      fx_lt (x4 + (1 : Int32)) (fun x105 =>
        rec ((0 : Int32), x105, S104))) else (
      (if (S104.1 40) ≤ 0 then (
        fx_lt (x4 + (1 : Int32)) (fun x106 =>
          rec ((0 : Int32), x106, S104))) else (
        fx_lt (x4 + (1 : Int32)) (fun x107 =>
          rec ((1 : Int32), x107, S104)))))))))))
def lf_X8_both_17 (N : Nat) (x1 : Int32) (x2 : Int32) : (Int32 × Int32 × St) → ((Int32 × Int32 × St) → Option (Int32 × St)) → Option (Int32 × St) := fun x rec => bd_X8_both_17 N x1 x2 x.1 x.2.1 x.2.2 rec
set_option maxRecDepth 100000 in
set_option maxHeartbeats 4000000 in
theorem lw_X8_both_17 {p : Program} {l : Launch} {e : Env} {s : State} {m : MethodId} {args : Array Value} {below : List Frame} {meth : Method} {c : Code} {Q : State → Prop} {A : Nat → Prop} {H0 : Heap} {g : GG} (hC : Cx p s m args c RX8 cX8_both 5 wsX8_both g) (hA : ∀ q : Nat, H0.size ≤ q → A q) (N : Nat) (q1 : Nat → Nat) (x1 : Int32) (x2 : Int32) : ∀ (n : Nat) (x3 : Int32) (x4 : Int32) (S1 : St) (o : Int32 × St), fx_it (lf_X8_both_17 N x1 x2) n (x3, x4, S1) = some o → ∀ (H : Heap) (locs : List Loc) (ls : Array Slot), va_P g.1 vwCl (wX8 g q1 S1) H → va_D A (wX8 g q1 S1) → va_S A H0 H locs → lv_has ls 5 [(0, .ref (q1 100)), (1, .int x1), (2, .int x2), (3, .int x3), (4, .int x4)] → (∀ (z0 : Int32) (Z0 : St), o = (z0, Z0) → ∀ (H : Heap) (locs : List Loc) (ls : Array Slot), va_P g.1 vwCl (wX8 g q1 Z0) H → va_D A (wX8 g q1 Z0) → va_S A H0 H locs → lv_has ls 5 [(0, .ref (q1 100)), (1, .int x1), (2, .int x2), (3, .int z0)] → W p l e RM_X8_both s m args below meth c H locs 0 0 Q (F0 m 69 ls [])) → W p l e RM_X8_both s m args below meth c H locs 0 0 Q (F0 m 17 ls []) := by
  have hx := hC.1.1
  have hb := hC.1.2.1
  have hml := hC.1.2.2.1
  have hown := hC.1.2.2.2.1
  have hts := hC.1.2.2.2.2
  intro n
  induction n with
  | zero => intro x3 x4 S1 o h; cases h
  | succ n ih =>
    intro x3 x4 S1 o h H locs ls hP hD hS hl k0
    have h : bd_X8_both_17 N x1 x2 x3 x4 S1 (fx_it (lf_X8_both_17 N x1 x2) n) = some o := h
    unfold bd_X8_both_17 at h
    refine lv_iload hx hb dX8_both_17 (lv_at hl 4 rfl) ?_
    refine lv_aload_n hx hb dX8_both_19 rfl (lv_at hl 0 rfl) ?_
    refine k_get (ci := 8) (k := 17) (q0 := 0) (v := .int (S1.1 17)) (C := RX8) (T := TX8) (N := 46) hC uX8_both_X8 hP rfl rfl (by decide) (List.mem_of_getElem? (i := 2) rfl) rfl dX8_both_20 ?_
    refine k_icmp_ge (tgt := 69) hC dX8_both_23 (by decide) h (fun h => ?_) (fun h => ?_)
    · exact k0 x3 S1 (Option.some.inj h).symm _ _ _ hP hD hS (lv_sub hl [0, 1, 2, 3] rfl)
    · refine lv_aload_n hx hb dX8_both_26 rfl (lv_at hl 0 rfl) ?_
      refine lv_iconst (v := (0 : Int32)) hx hb dX8_both_27 (by decide) ?_
      refine k_put (ci := 8) (k := 40) (q0 := 0) (C := RX8) (T := TX8) (N := 46) (S2 := stI S1 40 (0 : Int32)) tyX8 (fun S => (wX8 g q1 S)) hC uX8_both_X8 tyX8_ok nmX8 hP hD hS rfl rfl (by decide) (List.mem_of_getElem? (i := 3) rfl) rfl (tyX8_ok 40 (by decide)) (Nat.le_of_ble_eq_true rfl) dX8_both_28 rfl h (fun S101 h H locs hP hD hS => ?_)
      refine lv_aload_n hx hb dX8_both_31 rfl (lv_at hl 0 rfl) ?_
      refine lv_iload_n hx hb dX8_both_32 rfl (lv_at hl 2 rfl) ?_
      refine lv_aload_n hx hb dX8_both_33 rfl (lv_at hl 0 rfl) ?_
      refine k_get (ci := 8) (k := 16) (q0 := 0) (v := .ref (q1 16)) (C := RX8) (T := TX8) (N := 46) hC uX8_both_X8 hP rfl rfl (by decide) (List.mem_of_getElem? (i := 4) rfl) rfl dX8_both_34 ?_
      refine lv_iload hx hb dX8_both_37 (lv_at hl 4 rfl) ?_
      refine k_ald (q0 := 10) (n := 6) (F := S101.2 16) hC hP rfl dX8_both_39 h (fun v102 h => ?_)
      refine lv_bipush (v := (-6 : Int32)) hx hb dX8_both_40 (by decide) ?_
      obtain ⟨v103, S104, hc108, h⟩ := fx_b2_s h
      refine k_callVi (C := RX8) (ci := 8) (qr := 0) (n := 3) (As := [.int x2, .int v102, .int (-6 : Int32)]) (rest := []) (wc := (wX8 g q1 S101)) (w1 := (wX8 g q1 S104)) (ws2 := (wX8 g q1 S104)) (bytes := cX8_findStood) (maxL := 8) (ret := (some .int)) hC hl.1 (c_X8_findStood l g N q1 S101 x2 v102 (-6 : Int32) v103 S104 hc108) rfl gX8_both_X8_findStood (by decide +kernel) rfl rfl ⟨Nat.le_of_ble_eq_true rfl, Nat.le_of_ble_eq_true rfl⟩ rfl rfl rfl (Nat.le_of_ble_eq_true rfl) ⟨Nat.le_of_ble_eq_true rfl, Nat.le_of_ble_eq_true rfl⟩ dX8_both_42 hP hD hS hA [0, 1, 2, 3, 4, 5, 6, 7, 8, 9, 10, 11, 12, 13, 14, 15, 16, 17, 18, 19, 20, 21, 22, 23] rfl (by decide +kernel) [q1 100, q1 6, q1 8, q1 9, q1 10, q1 11, q1 12, q1 13, q1 14, q1 15, q1 16, q1 18, q1 20, q1 21, q1 23, q1 27, q1 30, q1 32, q1 33, q1 34, q1 39, q1 41, q1 42, q1 43] rfl rfl rfl [] ([] : va_W) rfl rfl (n2 := 24) rfl (by decide +kernel) (fun H locs hP hD hS => ?_)
      refine lv_pop hx hb dX8_both_45 rfl ?_
      refine lv_iload_n hx hb dX8_both_46 rfl (lv_at hl 3 rfl) ?_
      refine k_if_eq (tgt := 61) hC dX8_both_47 (by decide) h (fun h => ?_) (fun h => ?_)
      · refine lv_iconst (v := (0 : Int32)) hx hb dX8_both_61 (by decide) ?_
        refine lv_istore_n (lv' := [(3, .int (0 : Int32)), (0, .ref (q1 100)), (1, .int x1), (2, .int x2), (4, .int x4)]) hx hb dX8_both_62 rfl hl (by decide) rfl (fun ls hl => ?_)
        refine k_iinc (v := (1 : Int32)) (lv' := fun X => [(4, .int X), (3, .int (0 : Int32)), (0, .ref (q1 100)), (1, .int x1), (2, .int x2)]) hC dX8_both_63 hl (k := 4) rfl (by decide) (by decide) (fun _ => rfl) h (fun x105 h ls hl => ?_)
        refine lv_goto (tgt := 17) hx hb dX8_both_66 (by decide) ?_
        exact ih (0 : Int32) x105 S104 o h _ _ _ hP hD hS (lv_sub hl [2, 3, 4, 1, 0] rfl) k0
      · refine lv_aload_n hx hb dX8_both_50 rfl (lv_at hl 0 rfl) ?_
        refine k_get (ci := 8) (k := 40) (q0 := 0) (v := .int (S104.1 40)) (C := RX8) (T := TX8) (N := 46) hC uX8_both_X8 hP rfl rfl (by decide) (List.mem_of_getElem? (i := 3) rfl) rfl dX8_both_51 ?_
        refine k_if_le (tgt := 61) hC dX8_both_54 (by decide) h (fun h => ?_) (fun h => ?_)
        · refine lv_iconst (v := (0 : Int32)) hx hb dX8_both_61 (by decide) ?_
          refine lv_istore_n (lv' := [(3, .int (0 : Int32)), (0, .ref (q1 100)), (1, .int x1), (2, .int x2), (4, .int x4)]) hx hb dX8_both_62 rfl hl (by decide) rfl (fun ls hl => ?_)
          refine k_iinc (v := (1 : Int32)) (lv' := fun X => [(4, .int X), (3, .int (0 : Int32)), (0, .ref (q1 100)), (1, .int x1), (2, .int x2)]) hC dX8_both_63 hl (k := 4) rfl (by decide) (by decide) (fun _ => rfl) h (fun x106 h ls hl => ?_)
          refine lv_goto (tgt := 17) hx hb dX8_both_66 (by decide) ?_
          exact ih (0 : Int32) x106 S104 o h _ _ _ hP hD hS (lv_sub hl [2, 3, 4, 1, 0] rfl) k0
        · refine lv_iconst (v := (1 : Int32)) hx hb dX8_both_57 (by decide) ?_
          refine lv_goto (tgt := 62) hx hb dX8_both_58 (by decide) ?_
          refine lv_istore_n (lv' := [(3, .int (1 : Int32)), (0, .ref (q1 100)), (1, .int x1), (2, .int x2), (4, .int x4)]) hx hb dX8_both_62 rfl hl (by decide) rfl (fun ls hl => ?_)
          refine k_iinc (v := (1 : Int32)) (lv' := fun X => [(4, .int X), (3, .int (1 : Int32)), (0, .ref (q1 100)), (1, .int x1), (2, .int x2)]) hC dX8_both_63 hl (k := 4) rfl (by decide) (by decide) (fun _ => rfl) h (fun x107 h ls hl => ?_)
          refine lv_goto (tgt := 17) hx hb dX8_both_66 (by decide) ?_
          exact ih (1 : Int32) x107 S104 o h _ _ _ hP hD hS (lv_sub hl [2, 3, 4, 1, 0] rfl) k0
def bd_X8_both_4 (N : Nat) (x1 : Int32) (x2 : Int32) (S1 : St) (rec : (Int32 × Int32 × St) → Option (Int32 × St)) : Option (Int32 × St) :=
  (if (S1.1 1) ≤ x2 then (
    some (x1, S1)) else (
    fx_b2 (fx_it (lf_X8_both_17 N x1 x2) N ((1 : Int32), (0 : Int32), S1)) (fun x101 S102 =>
      (if x101 = 0 then (
        fx_lt (x1 ||| (0 : Int32)) (fun x104 =>
          fx_lt (x2 + (1 : Int32)) (fun x105 =>
          rec (x104, x105, S102)))) else (
        fx_lt (x1 ||| ((1 : Int32) <<< (x2 &&& 31))) (fun x106 =>
          fx_lt (x2 + (1 : Int32)) (fun x107 =>
          rec (x106, x107, S102))))))))
def lf_X8_both_4 (N : Nat) : (Int32 × Int32 × St) → ((Int32 × Int32 × St) → Option (Int32 × St)) → Option (Int32 × St) := fun x rec => bd_X8_both_4 N x.1 x.2.1 x.2.2 rec
set_option maxRecDepth 100000 in
set_option maxHeartbeats 4000000 in
theorem lw_X8_both_4 {p : Program} {l : Launch} {e : Env} {s : State} {m : MethodId} {args : Array Value} {below : List Frame} {meth : Method} {c : Code} {Q : State → Prop} {A : Nat → Prop} {H0 : Heap} {g : GG} (hC : Cx p s m args c RX8 cX8_both 5 wsX8_both g) (hA : ∀ q : Nat, H0.size ≤ q → A q) (N : Nat) (q1 : Nat → Nat) : ∀ (n : Nat) (x1 : Int32) (x2 : Int32) (S1 : St) (o : Int32 × St), fx_it (lf_X8_both_4 N) n (x1, x2, S1) = some o → ∀ (H : Heap) (locs : List Loc) (ls : Array Slot), va_P g.1 vwCl (wX8 g q1 S1) H → va_D A (wX8 g q1 S1) → va_S A H0 H locs → lv_has ls 5 [(0, .ref (q1 100)), (1, .int x1), (2, .int x2)] → (∀ (z0 : Int32) (Z0 : St), o = (z0, Z0) → ∀ (H : Heap) (locs : List Loc) (ls : Array Slot), va_P g.1 vwCl (wX8 g q1 Z0) H → va_D A (wX8 g q1 Z0) → va_S A H0 H locs → lv_has ls 5 [(1, .int z0)] → W p l e RM_X8_both s m args below meth c H locs 0 0 Q (F0 m 89 ls [])) → W p l e RM_X8_both s m args below meth c H locs 0 0 Q (F0 m 4 ls []) := by
  have hx := hC.1.1
  have hb := hC.1.2.1
  have hml := hC.1.2.2.1
  have hown := hC.1.2.2.2.1
  have hts := hC.1.2.2.2.2
  intro n
  induction n with
  | zero => intro x1 x2 S1 o h; cases h
  | succ n ih =>
    intro x1 x2 S1 o h H locs ls hP hD hS hl k0
    have h : bd_X8_both_4 N x1 x2 S1 (fx_it (lf_X8_both_4 N) n) = some o := h
    unfold bd_X8_both_4 at h
    refine lv_iload_n hx hb dX8_both_4 rfl (lv_at hl 2 rfl) ?_
    refine lv_aload_n hx hb dX8_both_5 rfl (lv_at hl 0 rfl) ?_
    refine k_get (ci := 8) (k := 1) (q0 := 0) (v := .int (S1.1 1)) (C := RX8) (T := TX8) (N := 46) hC uX8_both_X8 hP rfl rfl (by decide) (List.mem_of_getElem? (i := 1) rfl) rfl dX8_both_6 ?_
    refine k_icmp_ge (tgt := 89) hC dX8_both_9 (by decide) h (fun h => ?_) (fun h => ?_)
    · exact k0 x1 S1 (Option.some.inj h).symm _ _ _ hP hD hS (lv_sub hl [1] rfl)
    · refine lv_iconst (v := (1 : Int32)) hx hb dX8_both_12 (by decide) ?_
      refine lv_istore_n (lv' := [(3, .int (1 : Int32)), (0, .ref (q1 100)), (1, .int x1), (2, .int x2)]) hx hb dX8_both_13 rfl hl (by decide) rfl (fun ls hl => ?_)
      refine lv_iconst (v := (0 : Int32)) hx hb dX8_both_14 (by decide) ?_
      refine lv_istore (lv' := [(4, .int (0 : Int32)), (3, .int (1 : Int32)), (0, .ref (q1 100)), (1, .int x1), (2, .int x2)]) hx hb dX8_both_15 hl (by decide) rfl (fun ls hl => ?_)
      obtain ⟨x101, S102, ho103, h⟩ := fx_b2_s h
      refine lw_X8_both_17 hC hA N q1 x1 x2 N (1 : Int32) (0 : Int32) S1  (x101, S102) ho103 _ _ _ hP hD hS (lv_sub hl [2, 3, 4, 1, 0] rfl) ?_
      · intro y0 y1 he H locs ls hP hD hS hl
        obtain ⟨rfl, rfl⟩ := fx_j2 he
        refine lv_iload_n hx hb dX8_both_69 rfl (lv_at hl 1 rfl) ?_
        refine lv_iload_n hx hb dX8_both_70 rfl (lv_at hl 3 rfl) ?_
        refine k_if_eq (tgt := 80) hC dX8_both_71 (by decide) h (fun h => ?_) (fun h => ?_)
        · refine lv_iconst (v := (0 : Int32)) hx hb dX8_both_80 (by decide) ?_
          refine lv_ior hx hb dX8_both_81 ?_
          refine k_topi h (fun x104 h => ?_)
          refine lv_istore_n (lv' := [(1, .int x104), (0, .ref (q1 100)), (2, .int x2), (3, .int x101)]) hx hb dX8_both_82 rfl hl (by decide) rfl (fun ls hl => ?_)
          refine k_iinc (v := (1 : Int32)) (lv' := fun X => [(2, .int X), (1, .int x104), (0, .ref (q1 100)), (3, .int x101)]) hC dX8_both_83 hl (k := 2) rfl (by decide) (by decide) (fun _ => rfl) h (fun x105 h ls hl => ?_)
          refine lv_goto (tgt := 4) hx hb dX8_both_86 (by decide) ?_
          exact ih x104 x105 S102 o h _ _ _ hP hD hS (lv_sub hl [2, 1, 0] rfl) k0
        · refine lv_iconst (v := (1 : Int32)) hx hb dX8_both_74 (by decide) ?_
          refine lv_iload_n hx hb dX8_both_75 rfl (lv_at hl 2 rfl) ?_
          refine lv_ishl hx hb dX8_both_76 ?_
          refine lv_goto (tgt := 81) hx hb dX8_both_77 (by decide) ?_
          refine lv_ior hx hb dX8_both_81 ?_
          refine k_topi h (fun x106 h => ?_)
          refine lv_istore_n (lv' := [(1, .int x106), (0, .ref (q1 100)), (2, .int x2), (3, .int x101)]) hx hb dX8_both_82 rfl hl (by decide) rfl (fun ls hl => ?_)
          refine k_iinc (v := (1 : Int32)) (lv' := fun X => [(2, .int X), (1, .int x106), (0, .ref (q1 100)), (3, .int x101)]) hC dX8_both_83 hl (k := 2) rfl (by decide) (by decide) (fun _ => rfl) h (fun x107 h ls hl => ?_)
          refine lv_goto (tgt := 4) hx hb dX8_both_86 (by decide) ?_
          exact ih x106 x107 S102 o h _ _ _ hP hD hS (lv_sub hl [2, 1, 0] rfl) k0
def f_X8_both (N : Nat) (S1 : St) : Option (Int32 × St) :=
  fx_b2 (fx_it (lf_X8_both_4 N) N ((0 : Int32), (0 : Int32), S1)) (fun x101 S102 =>
  some (x101, S102))
set_option maxRecDepth 100000 in
set_option maxHeartbeats 4000000 in
theorem c_X8_both (l : Launch) (g : GG) (N : Nat) (q1 : Nat → Nat) (S1 : St) (r : Int32) (F1 : St) (h : f_X8_both N S1 = some (r, F1)) : Ci l yX8_both wsX8_both RM_X8_both g [.ref (q1 100)] (wX8 g q1 S1) (wX8 g q1 F1) r := by
  intro sz
  refine Met.ofC (cc := cX8_both) (maxL := 5) (ret := (some .int)) (by decide) rfl (Nat.le_of_ble_eq_true rfl) ?_
  intro p e s m below meth c hC hr hlk hsz A hA9 hA hP hD hS ls hl
  subst hsz
  have hC : Cx p s m ([.ref (q1 100)] : List Value).toArray c RX8 cX8_both 5 wsX8_both g := hC
  have hx := hC.1.1
  have hb := hC.1.2.1
  have hml := hC.1.2.2.1
  have hown := hC.1.2.2.2.1
  have hts := hC.1.2.2.2.2
  have hl : lv_has ls 5 [(0, .ref (q1 100))] := hl
  show W p l e RM_X8_both s m ([.ref (q1 100)] : List Value).toArray below meth c s.heap [] 0 0 (Qi below g [.ref (q1 100)] (wX8 g q1 S1) (wX8 g q1 F1) r s) (F0 m 0 ls [])
  unfold f_X8_both at h
  refine lv_iconst (v := (0 : Int32)) hx hb dX8_both_0 (by decide) ?_
  refine lv_istore_n (lv' := [(1, .int (0 : Int32)), (0, .ref (q1 100))]) hx hb dX8_both_1 rfl hl (by decide) rfl (fun ls hl => ?_)
  refine lv_iconst (v := (0 : Int32)) hx hb dX8_both_2 (by decide) ?_
  refine lv_istore_n (lv' := [(2, .int (0 : Int32)), (1, .int (0 : Int32)), (0, .ref (q1 100))]) hx hb dX8_both_3 rfl hl (by decide) rfl (fun ls hl => ?_)
  obtain ⟨x101, S102, ho103, h⟩ := fx_b2_s h
  refine lw_X8_both_4 hC hA N q1 N (0 : Int32) (0 : Int32) S1  (x101, S102) ho103 _ _ _ hP hD hS (lv_sub hl [2, 1, 0] rfl) ?_
  · intro y0 y1 he H locs ls hP hD hS hl
    obtain ⟨rfl, rfl⟩ := fx_j2 he
    refine lv_iload_n hx hb dX8_both_89 rfl (lv_at hl 0 rfl) ?_
    obtain ⟨rfl, rfl⟩ := fx_i2 h
    exact Ci.ret hC hr hlk hA9 hP hD hS dX8_both_90
abbrev RM_X8_lowest : Room := { frames := 0, cells := 0, slots := 0, locals := 0 }
def bd_X8_lowest_6 (N : Nat) (x0 : Int64) (x2 : Int64) (x4 : Int32) (x5 : Int64) (x7 : Int64) (rec : (Int64 × Int64) → Option (Int64)) : Option (Int64) :=
  (if (lg_cmp x7 (0 : Int64)) = 0 then (
    some x5) else (
    fx_nzl x7 (
      fx_lt (x5 - x5 / x7 * x7) (fun x101 =>
      rec (x7, x101)))))
def lf_X8_lowest_6 (N : Nat) (x0 : Int64) (x2 : Int64) (x4 : Int32) : (Int64 × Int64) → ((Int64 × Int64) → Option (Int64)) → Option (Int64) := fun x rec => bd_X8_lowest_6 N x0 x2 x4 x.1 x.2 rec
set_option maxRecDepth 100000 in
set_option maxHeartbeats 4000000 in
theorem lw_X8_lowest_6 {p : Program} {l : Launch} {e : Env} {s : State} {m : MethodId} {args : Array Value} {below : List Frame} {meth : Method} {c : Code} {Q : State → Prop} {A : Nat → Prop} {H0 : Heap} {g : GG} (hC : Cx p s m args c RX8 cX8_lowest 11 wsX8_lowest g) (hA : ∀ q : Nat, H0.size ≤ q → A q) (N : Nat)  (x0 : Int64) (x2 : Int64) (x4 : Int32) : ∀ (n : Nat) (x5 : Int64) (x7 : Int64) (o : Int64), fx_it (lf_X8_lowest_6 N x0 x2 x4) n (x5, x7) = some o → ∀ (H : Heap) (locs : List Loc) (ls : Array Slot), va_P g.1 vwCl ([] : va_W) H → va_D A ([] : va_W) → va_S A H0 H locs → lv_has ls 11 [(0, .long x0), (2, .long x2), (4, .int x4), (5, .long x5), (7, .long x7)] → (∀ (z0 : Int64), o = z0 → ∀ (H : Heap) (locs : List Loc) (ls : Array Slot), va_P g.1 vwCl ([] : va_W) H → va_D A ([] : va_W) → va_S A H0 H locs → lv_has ls 11 [(0, .long x0), (2, .long x2), (4, .int x4), (5, .long z0)] → W p l e RM_X8_lowest s m args below meth c H locs 0 0 Q (F0 m 31 ls [])) → W p l e RM_X8_lowest s m args below meth c H locs 0 0 Q (F0 m 6 ls []) := by
  have hx := hC.1.1
  have hb := hC.1.2.1
  have hml := hC.1.2.2.1
  have hown := hC.1.2.2.2.1
  have hts := hC.1.2.2.2.2
  intro n
  induction n with
  | zero => intro x5 x7 o h; cases h
  | succ n ih =>
    intro x5 x7 o h H locs ls hP hD hS hl k0
    have h : bd_X8_lowest_6 N x0 x2 x4 x5 x7 (fx_it (lf_X8_lowest_6 N x0 x2 x4) n) = some o := h
    unfold bd_X8_lowest_6 at h
    refine lv_lload hx hb dX8_lowest_6 (lv_at hl 4 rfl) ?_
    refine lv_lconst (v := (0 : Int64)) hx hb dX8_lowest_8 (by decide) ?_
    refine W.lcmp hx hb dX8_lowest_9 ?_
    refine k_if_eq (tgt := 31) hC dX8_lowest_10 (by decide) h (fun h => ?_) (fun h => ?_)
    · exact k0 x5 (Option.some.inj h).symm _ _ _ hP hD hS (lv_sub hl [0, 1, 2, 3] rfl)
    · refine lv_lload hx hb dX8_lowest_13 (lv_at hl 3 rfl) ?_
      refine lv_lload hx hb dX8_lowest_15 (lv_at hl 4 rfl) ?_
      obtain ⟨hne, h⟩ := fx_nzl_s h
      refine lv_lrem hx hb dX8_lowest_17 hne ?_
      refine k_topl h (fun x101 h => ?_)
      refine lv_lstore (lv' := [(9, .long x101), (0, .long x0), (2, .long x2), (4, .int x4), (5, .long x5), (7, .long x7)]) hx hb dX8_lowest_18 hl (by decide) rfl (fun ls hl => ?_)
      refine lv_lload hx hb dX8_lowest_20 (lv_at hl 5 rfl) ?_
      refine lv_lstore (lv' := [(5, .long x7), (9, .long x101), (0, .long x0), (2, .long x2), (4, .int x4), (7, .long x7)]) hx hb dX8_lowest_22 hl (by decide) rfl (fun ls hl => ?_)
      refine lv_lload hx hb dX8_lowest_24 (lv_at hl 1 rfl) ?_
      refine lv_lstore (lv' := [(7, .long x101), (5, .long x7), (9, .long x101), (0, .long x0), (2, .long x2), (4, .int x4)]) hx hb dX8_lowest_26 hl (by decide) rfl (fun ls hl => ?_)
      refine lv_goto (tgt := 6) hx hb dX8_lowest_28 (by decide) ?_
      exact ih x7 x101 o h _ _ _ hP hD hS (lv_sub hl [3, 4, 5, 1, 0] rfl) k0
def f_X8_lowest (N : Nat) (x0 : Int64) (x2 : Int64) (x4 : Int32) : Option (Int64) :=
  fx_b1 (fx_it (lf_X8_lowest_6 N x0 x2 x4) N (x2, x0)) (fun x101 =>
  (if x4 = 0 then (
    fx_nzl x101 (
      some (x0 / x101))) else (
    fx_nzl x101 (
      some (x2 / x101)))))
set_option maxRecDepth 100000 in
set_option maxHeartbeats 4000000 in
theorem c_X8_lowest (l : Launch) (g : GG) (N : Nat) (x0 : Int64) (x2 : Int64) (x4 : Int32) (r : Int64) (h : f_X8_lowest N x0 x2 x4 = some r) : Cl l yX8_lowest wsX8_lowest RM_X8_lowest g [.long x0, .long x2, .int x4] ([] : va_W) ([] : va_W) r := by
  intro sz
  refine Met.ofC (cc := cX8_lowest) (maxL := 11) (ret := (some .long)) (by decide) rfl (Nat.le_of_ble_eq_true rfl) ?_
  intro p e s m below meth c hC hr hlk hsz A hA9 hA hP hD hS ls hl
  subst hsz
  have hC : Cx p s m ([.long x0, .long x2, .int x4] : List Value).toArray c RX8 cX8_lowest 11 wsX8_lowest g := hC
  have hx := hC.1.1
  have hb := hC.1.2.1
  have hml := hC.1.2.2.1
  have hown := hC.1.2.2.2.1
  have hts := hC.1.2.2.2.2
  have hl : lv_has ls 11 [(0, .long x0), (2, .long x2), (4, .int x4)] := hl
  show W p l e RM_X8_lowest s m ([.long x0, .long x2, .int x4] : List Value).toArray below meth c s.heap [] 0 0 (Ql below g [.long x0, .long x2, .int x4] ([] : va_W) ([] : va_W) r s) (F0 m 0 ls [])
  unfold f_X8_lowest at h
  refine lv_lload_n hx hb dX8_lowest_0 rfl (lv_at hl 1 rfl) ?_
  refine lv_lstore (lv' := [(5, .long x2), (0, .long x0), (2, .long x2), (4, .int x4)]) hx hb dX8_lowest_1 hl (by decide) rfl (fun ls hl => ?_)
  refine lv_lload_n hx hb dX8_lowest_3 rfl (lv_at hl 1 rfl) ?_
  refine lv_lstore (lv' := [(7, .long x0), (5, .long x2), (0, .long x0), (2, .long x2), (4, .int x4)]) hx hb dX8_lowest_4 hl (by decide) rfl (fun ls hl => ?_)
  obtain ⟨x101, ho102, h⟩ := fx_b1_s h
  refine lw_X8_lowest_6 hC hA N x0 x2 x4 N x2 x0  x101 ho102 _ _ _ hP hD hS (lv_sub hl [2, 3, 4, 1, 0] rfl) ?_
  · intro y0 he H locs ls hP hD hS hl
    obtain rfl := he
    refine lv_iload hx hb dX8_lowest_31 (lv_at hl 2 rfl) ?_
    refine k_if_ne (tgt := 43) hC dX8_lowest_33 (by decide) h (fun h => ?_) (fun h => ?_)
    · refine lv_lload_n hx hb dX8_lowest_43 rfl (lv_at hl 1 rfl) ?_
      refine lv_lload hx hb dX8_lowest_44 (lv_at hl 3 rfl) ?_
      obtain ⟨hne, h⟩ := fx_nzl_s h
      refine lv_ldiv hx hb dX8_lowest_46 hne ?_
      obtain rfl := fx_i1 h
      exact Cl.ret hC hr hlk hA9 hP hD hS dX8_lowest_47
    · refine lv_lload_n hx hb dX8_lowest_36 rfl (lv_at hl 0 rfl) ?_
      refine lv_lload hx hb dX8_lowest_37 (lv_at hl 3 rfl) ?_
      obtain ⟨hne, h⟩ := fx_nzl_s h
      refine lv_ldiv hx hb dX8_lowest_39 hne ?_
      refine lv_goto (tgt := 47) hx hb dX8_lowest_40 (by decide) ?_
      obtain rfl := fx_i1 h
      exact Cl.ret hC hr hlk hA9 hP hD hS dX8_lowest_47
theorem uX8_bakedBy_X8 : ∀ w ∈ u_ws RX8 TX8 46, w ∈ wsX8_bakedBy := fun w h => List.mem_cons_of_mem _ (List.mem_append_right _ h)
abbrev RM_X8_bakedBy : Room := { frames := 0, cells := 0, slots := 0, locals := 0 }
def bd_X8_bakedBy_12 (N : Nat) (x1 : Int32) (x2 : Int32) (x3 : Int32) (S1 : St) (x4 : Int32) (x5 : Int32) (x6 : Int32) (rec : (Int32 × Int32 × Int32) → Option (Int32)) : Option (Int32) :=
  (if x2 ≤ x6 then (
    some x5) else (
    fx_ald 6 (S1.2 6) x1 (fun v101 =>
      fx_b1 ((if x4 ≤ v101 then (
      some (0 : Int32)) else (
      fx_ald 6 (S1.2 6) x1 (fun v112 =>
        some (x4 - v112)))) : Option (Int32)) (fun v102 =>
      fx_lt (x5 + v102) (fun x104 =>
        fx_b1 ((if ((x3 >>> (x6 &&& 31)) &&& (1 : Int32)) = (1 : Int32) then (
        some (S1.1 4)) else (
        some (0 : Int32))) : Option (Int32)) (fun v105 =>
        fx_lt (x4 - ((S1.1 3) + v105)) (fun x107 =>
          (if 0 ≤ x107 then (
          fx_lt (x6 + (1 : Int32)) (fun x108 =>
            rec (x107, x104, x108))) else (
          fx_lt (x6 + (1 : Int32)) (fun x109 =>
            rec ((0 : Int32), x104, x109)))))))))))
def lf_X8_bakedBy_12 (N : Nat) (x1 : Int32) (x2 : Int32) (x3 : Int32) (S1 : St) : (Int32 × Int32 × Int32) → ((Int32 × Int32 × Int32) → Option (Int32)) → Option (Int32) := fun x rec => bd_X8_bakedBy_12 N x1 x2 x3 S1 x.1 x.2.1 x.2.2 rec
set_option maxRecDepth 100000 in
set_option maxHeartbeats 4000000 in
theorem lw_X8_bakedBy_12 {p : Program} {l : Launch} {e : Env} {s : State} {m : MethodId} {args : Array Value} {below : List Frame} {meth : Method} {c : Code} {Q : State → Prop} {A : Nat → Prop} {H0 : Heap} {g : GG} (hC : Cx p s m args c RX8 cX8_bakedBy 7 wsX8_bakedBy g) (hA : ∀ q : Nat, H0.size ≤ q → A q) (N : Nat) (q1 : Nat → Nat) (x1 : Int32) (x2 : Int32) (x3 : Int32) (S1 : St) : ∀ (n : Nat) (x4 : Int32) (x5 : Int32) (x6 : Int32) (o : Int32), fx_it (lf_X8_bakedBy_12 N x1 x2 x3 S1) n (x4, x5, x6) = some o → ∀ (H : Heap) (locs : List Loc) (ls : Array Slot), va_P g.1 vwCl (wX8 g q1 S1) H → va_D A (wX8 g q1 S1) → va_S A H0 H locs → lv_has ls 7 [(0, .ref (q1 100)), (1, .int x1), (2, .int x2), (3, .int x3), (4, .int x4), (5, .int x5), (6, .int x6)] → (∀ (z0 : Int32), o = z0 → ∀ (H : Heap) (locs : List Loc) (ls : Array Slot), va_P g.1 vwCl (wX8 g q1 S1) H → va_D A (wX8 g q1 S1) → va_S A H0 H locs → lv_has ls 7 [(5, .int z0)] → W p l e RM_X8_bakedBy s m args below meth c H locs 0 0 Q (F0 m 94 ls [])) → W p l e RM_X8_bakedBy s m args below meth c H locs 0 0 Q (F0 m 12 ls []) := by
  have hx := hC.1.1
  have hb := hC.1.2.1
  have hml := hC.1.2.2.1
  have hown := hC.1.2.2.2.1
  have hts := hC.1.2.2.2.2
  intro n
  induction n with
  | zero => intro x4 x5 x6 o h; cases h
  | succ n ih =>
    intro x4 x5 x6 o h H locs ls hP hD hS hl k0
    have h : bd_X8_bakedBy_12 N x1 x2 x3 S1 x4 x5 x6 (fx_it (lf_X8_bakedBy_12 N x1 x2 x3 S1) n) = some o := h
    unfold bd_X8_bakedBy_12 at h
    refine lv_iload hx hb dX8_bakedBy_12 (lv_at hl 6 rfl) ?_
    refine lv_iload_n hx hb dX8_bakedBy_14 rfl (lv_at hl 2 rfl) ?_
    refine k_icmp_ge (tgt := 94) hC dX8_bakedBy_15 (by decide) h (fun h => ?_) (fun h => ?_)
    · exact k0 x5 (Option.some.inj h).symm _ _ _ hP hD hS (lv_sub hl [5] rfl)
    · refine lv_iload hx hb dX8_bakedBy_18 (lv_at hl 5 rfl) ?_
      refine lv_iload hx hb dX8_bakedBy_20 (lv_at hl 4 rfl) ?_
      refine lv_aload_n hx hb dX8_bakedBy_22 rfl (lv_at hl 0 rfl) ?_
      refine k_get (ci := 8) (k := 6) (q0 := 0) (v := .ref (q1 6)) (C := RX8) (T := TX8) (N := 46) hC uX8_bakedBy_X8 hP rfl rfl (by decide) (List.mem_of_getElem? (i := 2) rfl) rfl dX8_bakedBy_23 ?_
      refine lv_iload_n hx hb dX8_bakedBy_26 rfl (lv_at hl 1 rfl) ?_
      refine k_ald (q0 := 1) (n := 6) (F := S1.2 6) hC hP rfl dX8_bakedBy_27 h (fun v101 h => ?_)
      obtain ⟨v102, hv103, h⟩ := fx_b1_s h
      have K111 : ∀ (H : Heap) (locs : List Loc) (ls : Array Slot), va_P g.1 vwCl (wX8 g q1 S1) H → va_D A (wX8 g q1 S1) → va_S A H0 H locs → lv_has ls 7 [(0, .ref (q1 100)), (1, .int x1), (2, .int x2), (3, .int x3), (4, .int x4), (6, .int x6)] → W p l e RM_X8_bakedBy s m args below meth c H locs 0 0 Q (F0 m 44 ls [.int v102, .int x5]) := by
        intro H locs ls hP hD hS hl
        refine lv_iadd hx hb dX8_bakedBy_44 ?_
        refine k_topi h (fun x104 h => ?_)
        refine lv_istore (lv' := [(5, .int x104), (0, .ref (q1 100)), (1, .int x1), (2, .int x2), (3, .int x3), (4, .int x4), (6, .int x6)]) hx hb dX8_bakedBy_45 hl (by decide) rfl (fun ls hl => ?_)
        refine lv_iload hx hb dX8_bakedBy_47 (lv_at hl 5 rfl) ?_
        refine lv_aload_n hx hb dX8_bakedBy_49 rfl (lv_at hl 1 rfl) ?_
        refine k_get (ci := 8) (k := 3) (q0 := 0) (v := .int (S1.1 3)) (C := RX8) (T := TX8) (N := 46) hC uX8_bakedBy_X8 hP rfl rfl (by decide) (List.mem_of_getElem? (i := 3) rfl) rfl dX8_bakedBy_50 ?_
        refine lv_iload_n hx hb dX8_bakedBy_53 rfl (lv_at hl 4 rfl) ?_
        refine lv_iload hx hb dX8_bakedBy_54 (lv_at hl 6 rfl) ?_
        refine lv_ishr hx hb dX8_bakedBy_56 ?_
        refine lv_iconst (v := (1 : Int32)) hx hb dX8_bakedBy_57 (by decide) ?_
        refine lv_iand hx hb dX8_bakedBy_58 ?_
        refine lv_iconst (v := (1 : Int32)) hx hb dX8_bakedBy_59 (by decide) ?_
        obtain ⟨v105, hv106, h⟩ := fx_b1_s h
        have K110 : ∀ (H : Heap) (locs : List Loc) (ls : Array Slot), va_P g.1 vwCl (wX8 g q1 S1) H → va_D A (wX8 g q1 S1) → va_S A H0 H locs → lv_has ls 7 [(5, .int x104), (0, .ref (q1 100)), (1, .int x1), (2, .int x2), (3, .int x3), (6, .int x6)] → W p l e RM_X8_bakedBy s m args below meth c H locs 0 0 Q (F0 m 71 ls [.int v105, .int (S1.1 3), .int x4]) := by
          intro H locs ls hP hD hS hl
          refine lv_iadd hx hb dX8_bakedBy_71 ?_
          refine lv_isub hx hb dX8_bakedBy_72 ?_
          refine k_topi h (fun x107 h => ?_)
          refine lv_istore (lv' := [(4, .int x107), (5, .int x104), (0, .ref (q1 100)), (1, .int x1), (2, .int x2), (3, .int x3), (6, .int x6)]) hx hb dX8_bakedBy_73 hl (by decide) rfl (fun ls hl => ?_)
          refine lv_iload hx hb dX8_bakedBy_75 (lv_at hl 0 rfl) ?_
          refine k_if_ge (tgt := 84) hC dX8_bakedBy_77 (by decide) h (fun h => ?_) (fun h => ?_)
          · refine lv_iload hx hb dX8_bakedBy_84 (lv_at hl 0 rfl) ?_
            refine lv_istore (lv' := [(4, .int x107), (5, .int x104), (0, .ref (q1 100)), (1, .int x1), (2, .int x2), (3, .int x3), (6, .int x6)]) hx hb dX8_bakedBy_86 hl (by decide) rfl (fun ls hl => ?_)
            refine k_iinc (v := (1 : Int32)) (lv' := fun X => [(6, .int X), (4, .int x107), (5, .int x104), (0, .ref (q1 100)), (1, .int x1), (2, .int x2), (3, .int x3)]) hC dX8_bakedBy_88 hl (k := 6) rfl (by decide) (by decide) (fun _ => rfl) h (fun x108 h ls hl => ?_)
            refine lv_goto (tgt := 12) hx hb dX8_bakedBy_91 (by decide) ?_
            exact ih x107 x104 x108 o h _ _ _ hP hD hS (lv_sub hl [3, 4, 5, 6, 1, 2, 0] rfl) k0
          · refine lv_iconst (v := (0 : Int32)) hx hb dX8_bakedBy_80 (by decide) ?_
            refine lv_goto (tgt := 86) hx hb dX8_bakedBy_81 (by decide) ?_
            refine lv_istore (lv' := [(4, .int (0 : Int32)), (5, .int x104), (0, .ref (q1 100)), (1, .int x1), (2, .int x2), (3, .int x3), (6, .int x6)]) hx hb dX8_bakedBy_86 hl (by decide) rfl (fun ls hl => ?_)
            refine k_iinc (v := (1 : Int32)) (lv' := fun X => [(6, .int X), (4, .int (0 : Int32)), (5, .int x104), (0, .ref (q1 100)), (1, .int x1), (2, .int x2), (3, .int x3)]) hC dX8_bakedBy_88 hl (k := 6) rfl (by decide) (by decide) (fun _ => rfl) h (fun x109 h ls hl => ?_)
            refine lv_goto (tgt := 12) hx hb dX8_bakedBy_91 (by decide) ?_
            exact ih (0 : Int32) x104 x109 o h _ _ _ hP hD hS (lv_sub hl [3, 4, 5, 6, 1, 2, 0] rfl) k0
        refine k_icmp_ne (tgt := 70) hC dX8_bakedBy_60 (by decide) hv106 (fun hv106 => ?_) (fun hv106 => ?_)
        · refine lv_iconst (v := (0 : Int32)) hx hb dX8_bakedBy_70 (by decide) ?_
          obtain rfl := fx_i1 hv106
          exact K110 _ _ _ hP hD hS (lv_sub hl [0, 1, 2, 3, 4, 6] rfl)
        · refine lv_aload_n hx hb dX8_bakedBy_63 rfl (lv_at hl 1 rfl) ?_
          refine k_get (ci := 8) (k := 4) (q0 := 0) (v := .int (S1.1 4)) (C := RX8) (T := TX8) (N := 46) hC uX8_bakedBy_X8 hP rfl rfl (by decide) (List.mem_of_getElem? (i := 4) rfl) rfl dX8_bakedBy_64 ?_
          refine lv_goto (tgt := 71) hx hb dX8_bakedBy_67 (by decide) ?_
          obtain rfl := fx_i1 hv106
          exact K110 _ _ _ hP hD hS (lv_sub hl [0, 1, 2, 3, 4, 6] rfl)
      refine k_icmp_le (tgt := 43) hC dX8_bakedBy_28 (by decide) hv103 (fun hv103 => ?_) (fun hv103 => ?_)
      · refine lv_iconst (v := (0 : Int32)) hx hb dX8_bakedBy_43 (by decide) ?_
        obtain rfl := fx_i1 hv103
        exact K111 _ _ _ hP hD hS (lv_sub hl [0, 1, 2, 3, 4, 6] rfl)
      · refine lv_iload hx hb dX8_bakedBy_31 (lv_at hl 4 rfl) ?_
        refine lv_aload_n hx hb dX8_bakedBy_33 rfl (lv_at hl 0 rfl) ?_
        refine k_get (ci := 8) (k := 6) (q0 := 0) (v := .ref (q1 6)) (C := RX8) (T := TX8) (N := 46) hC uX8_bakedBy_X8 hP rfl rfl (by decide) (List.mem_of_getElem? (i := 2) rfl) rfl dX8_bakedBy_34 ?_
        refine lv_iload_n hx hb dX8_bakedBy_37 rfl (lv_at hl 1 rfl) ?_
        refine k_ald (q0 := 1) (n := 6) (F := S1.2 6) hC hP rfl dX8_bakedBy_38 hv103 (fun v112 hv103 => ?_)
        refine lv_isub hx hb dX8_bakedBy_39 ?_
        refine lv_goto (tgt := 44) hx hb dX8_bakedBy_40 (by decide) ?_
        obtain rfl := fx_i1 hv103
        exact K111 _ _ _ hP hD hS (lv_sub hl [0, 1, 2, 3, 4, 6] rfl)
def f_X8_bakedBy (N : Nat) (S1 : St) (x1 : Int32) (x2 : Int32) (x3 : Int32) : Option (Int32) :=
  fx_b1 (fx_it (lf_X8_bakedBy_12 N x1 x2 x3 S1) N ((S1.1 2), (0 : Int32), (0 : Int32))) (fun x101 =>
  some x101)
set_option maxRecDepth 100000 in
set_option maxHeartbeats 4000000 in
theorem c_X8_bakedBy (l : Launch) (g : GG) (N : Nat) (q1 : Nat → Nat) (S1 : St) (x1 : Int32) (x2 : Int32) (x3 : Int32) (r : Int32) (h : f_X8_bakedBy N S1 x1 x2 x3 = some r) : Ci l yX8_bakedBy wsX8_bakedBy RM_X8_bakedBy g [.ref (q1 100), .int x1, .int x2, .int x3] (wX8 g q1 S1) (wX8 g q1 S1) r := by
  intro sz
  refine Met.ofC (cc := cX8_bakedBy) (maxL := 7) (ret := (some .int)) (by decide) rfl (Nat.le_of_ble_eq_true rfl) ?_
  intro p e s m below meth c hC hr hlk hsz A hA9 hA hP hD hS ls hl
  subst hsz
  have hC : Cx p s m ([.ref (q1 100), .int x1, .int x2, .int x3] : List Value).toArray c RX8 cX8_bakedBy 7 wsX8_bakedBy g := hC
  have hx := hC.1.1
  have hb := hC.1.2.1
  have hml := hC.1.2.2.1
  have hown := hC.1.2.2.2.1
  have hts := hC.1.2.2.2.2
  have hl : lv_has ls 7 [(0, .ref (q1 100)), (1, .int x1), (2, .int x2), (3, .int x3)] := hl
  show W p l e RM_X8_bakedBy s m ([.ref (q1 100), .int x1, .int x2, .int x3] : List Value).toArray below meth c s.heap [] 0 0 (Qi below g [.ref (q1 100), .int x1, .int x2, .int x3] (wX8 g q1 S1) (wX8 g q1 S1) r s) (F0 m 0 ls [])
  unfold f_X8_bakedBy at h
  refine lv_aload_n hx hb dX8_bakedBy_0 rfl (lv_at hl 0 rfl) ?_
  refine k_get (ci := 8) (k := 2) (q0 := 0) (v := .int (S1.1 2)) (C := RX8) (T := TX8) (N := 46) hC uX8_bakedBy_X8 hP rfl rfl (by decide) (List.mem_of_getElem? (i := 1) rfl) rfl dX8_bakedBy_1 ?_
  refine lv_istore (lv' := [(4, .int (S1.1 2)), (0, .ref (q1 100)), (1, .int x1), (2, .int x2), (3, .int x3)]) hx hb dX8_bakedBy_4 hl (by decide) rfl (fun ls hl => ?_)
  refine lv_iconst (v := (0 : Int32)) hx hb dX8_bakedBy_6 (by decide) ?_
  refine lv_istore (lv' := [(5, .int (0 : Int32)), (4, .int (S1.1 2)), (0, .ref (q1 100)), (1, .int x1), (2, .int x2), (3, .int x3)]) hx hb dX8_bakedBy_7 hl (by decide) rfl (fun ls hl => ?_)
  refine lv_iconst (v := (0 : Int32)) hx hb dX8_bakedBy_9 (by decide) ?_
  refine lv_istore (lv' := [(6, .int (0 : Int32)), (5, .int (0 : Int32)), (4, .int (S1.1 2)), (0, .ref (q1 100)), (1, .int x1), (2, .int x2), (3, .int x3)]) hx hb dX8_bakedBy_10 hl (by decide) rfl (fun ls hl => ?_)
  obtain ⟨x101, ho102, h⟩ := fx_b1_s h
  refine lw_X8_bakedBy_12 hC hA N q1 x1 x2 x3 S1 N (S1.1 2) (0 : Int32) (0 : Int32)  x101 ho102 _ _ _ hP hD hS (lv_sub hl [3, 4, 5, 6, 2, 1, 0] rfl) ?_
  · intro y0 he H locs ls hP hD hS hl
    obtain rfl := he
    refine lv_iload hx hb dX8_bakedBy_94 (lv_at hl 0 rfl) ?_
    obtain rfl := fx_i1 h
    exact Ci.ret hC hr hlk hA9 hP hD hS dX8_bakedBy_96
abbrev RM_X8_winds : Room := { frames := 3, cells := 0, slots := 0, locals := 66 }
def bd_X8_winds_84 (N : Nat) (x1 : Int32) (x2 : Int32) (x3 : Int32) (x4 : Int32) (x5 : Int32) (x6 : Int64) (x8 : Int64) (x10 : Int32) (S1 : St) (x11 : Int64) (x13 : Int32) (rec : (Int64 × Int32) → Option (Int64)) : Option (Int64) :=
  (if x4 ≤ x13 then (
    some x11) else (
    (if ((x10 >>> (x13 &&& 31)) &&& (1 : Int32)) = (1 : Int32) then (
      fx_lt (x11 * (Int32.toInt64 x3)) (fun x103 =>
        fx_lt (x13 + (1 : Int32)) (fun x104 =>
        rec (x103, x104)))) else (
      fx_lt (x11 * (Int32.toInt64 ((10 : Int32) - x3))) (fun x101 =>
        fx_lt (x13 + (1 : Int32)) (fun x102 =>
        rec (x101, x102)))))))
def lf_X8_winds_84 (N : Nat) (x1 : Int32) (x2 : Int32) (x3 : Int32) (x4 : Int32) (x5 : Int32) (x6 : Int64) (x8 : Int64) (x10 : Int32) (S1 : St) : (Int64 × Int32) → ((Int64 × Int32) → Option (Int64)) → Option (Int64) := fun x rec => bd_X8_winds_84 N x1 x2 x3 x4 x5 x6 x8 x10 S1 x.1 x.2 rec
set_option maxRecDepth 100000 in
set_option maxHeartbeats 4000000 in
theorem lw_X8_winds_84 {p : Program} {l : Launch} {e : Env} {s : State} {m : MethodId} {args : Array Value} {below : List Frame} {meth : Method} {c : Code} {Q : State → Prop} {A : Nat → Prop} {H0 : Heap} {g : GG} (hC : Cx p s m args c RX8 cX8_winds 14 wsX8_winds g) (hA : ∀ q : Nat, H0.size ≤ q → A q) (N : Nat) (q1 : Nat → Nat) (x1 : Int32) (x2 : Int32) (x3 : Int32) (x4 : Int32) (x5 : Int32) (x6 : Int64) (x8 : Int64) (x10 : Int32) (S1 : St) : ∀ (n : Nat) (x11 : Int64) (x13 : Int32) (o : Int64), fx_it (lf_X8_winds_84 N x1 x2 x3 x4 x5 x6 x8 x10 S1) n (x11, x13) = some o → ∀ (H : Heap) (locs : List Loc) (ls : Array Slot), va_P g.1 vwCl (wX8 g q1 S1) H → va_D A (wX8 g q1 S1) → va_S A H0 H locs → lv_has ls 14 [(0, .ref (q1 100)), (1, .int x1), (2, .int x2), (3, .int x3), (4, .int x4), (5, .int x5), (6, .long x6), (8, .long x8), (10, .int x10), (11, .long x11), (13, .int x13)] → (∀ (z0 : Int64), o = z0 → ∀ (H : Heap) (locs : List Loc) (ls : Array Slot), va_P g.1 vwCl (wX8 g q1 S1) H → va_D A (wX8 g q1 S1) → va_S A H0 H locs → lv_has ls 14 [(0, .ref (q1 100)), (1, .int x1), (2, .int x2), (3, .int x3), (4, .int x4), (5, .int x5), (6, .long x6), (8, .long x8), (10, .int x10), (11, .long z0)] → W p l e RM_X8_winds s m args below meth c H locs 0 0 Q (F0 m 123 ls [])) → W p l e RM_X8_winds s m args below meth c H locs 0 0 Q (F0 m 84 ls []) := by
  have hx := hC.1.1
  have hb := hC.1.2.1
  have hml := hC.1.2.2.1
  have hown := hC.1.2.2.2.1
  have hts := hC.1.2.2.2.2
  intro n
  induction n with
  | zero => intro x11 x13 o h; cases h
  | succ n ih =>
    intro x11 x13 o h H locs ls hP hD hS hl k0
    have h : bd_X8_winds_84 N x1 x2 x3 x4 x5 x6 x8 x10 S1 x11 x13 (fx_it (lf_X8_winds_84 N x1 x2 x3 x4 x5 x6 x8 x10 S1) n) = some o := h
    unfold bd_X8_winds_84 at h
    refine lv_iload hx hb dX8_winds_84 (lv_at hl 10 rfl) ?_
    refine lv_iload hx hb dX8_winds_86 (lv_at hl 4 rfl) ?_
    refine k_icmp_ge (tgt := 123) hC dX8_winds_88 (by decide) h (fun h => ?_) (fun h => ?_)
    · exact k0 x11 (Option.some.inj h).symm _ _ _ hP hD hS (lv_sub hl [0, 1, 2, 3, 4, 5, 6, 7, 8, 9] rfl)
    · refine lv_lload hx hb dX8_winds_91 (lv_at hl 9 rfl) ?_
      refine lv_iload hx hb dX8_winds_93 (lv_at hl 8 rfl) ?_
      refine lv_iload hx hb dX8_winds_95 (lv_at hl 10 rfl) ?_
      refine lv_ishr hx hb dX8_winds_97 ?_
      refine lv_iconst (v := (1 : Int32)) hx hb dX8_winds_98 (by decide) ?_
      refine lv_iand hx hb dX8_winds_99 ?_
      refine lv_iconst (v := (1 : Int32)) hx hb dX8_winds_100 (by decide) ?_
      refine k_icmp_ne (tgt := 109) hC dX8_winds_101 (by decide) h (fun h => ?_) (fun h => ?_)
      · refine lv_bipush (v := (10 : Int32)) hx hb dX8_winds_109 (by decide) ?_
        refine lv_iload_n hx hb dX8_winds_111 rfl (lv_at hl 3 rfl) ?_
        refine lv_isub hx hb dX8_winds_112 ?_
        refine lv_i2l hx hb dX8_winds_113 rfl ?_
        refine lv_lmul hx hb dX8_winds_114 ?_
        refine k_topl h (fun x101 h => ?_)
        refine lv_lstore (lv' := [(11, .long x101), (0, .ref (q1 100)), (1, .int x1), (2, .int x2), (3, .int x3), (4, .int x4), (5, .int x5), (6, .long x6), (8, .long x8), (10, .int x10), (13, .int x13)]) hx hb dX8_winds_115 hl (by decide) rfl (fun ls hl => ?_)
        refine k_iinc (v := (1 : Int32)) (lv' := fun X => [(13, .int X), (11, .long x101), (0, .ref (q1 100)), (1, .int x1), (2, .int x2), (3, .int x3), (4, .int x4), (5, .int x5), (6, .long x6), (8, .long x8), (10, .int x10)]) hC dX8_winds_117 hl (k := 10) rfl (by decide) (by decide) (fun _ => rfl) h (fun x102 h ls hl => ?_)
        refine lv_goto (tgt := 84) hx hb dX8_winds_120 (by decide) ?_
        exact ih x101 x102 o h _ _ _ hP hD hS (lv_sub hl [2, 3, 4, 5, 6, 7, 8, 9, 10, 1, 0] rfl) k0
      · refine lv_iload_n hx hb dX8_winds_104 rfl (lv_at hl 3 rfl) ?_
        refine lv_i2l hx hb dX8_winds_105 rfl ?_
        refine lv_goto (tgt := 114) hx hb dX8_winds_106 (by decide) ?_
        refine lv_lmul hx hb dX8_winds_114 ?_
        refine k_topl h (fun x103 h => ?_)
        refine lv_lstore (lv' := [(11, .long x103), (0, .ref (q1 100)), (1, .int x1), (2, .int x2), (3, .int x3), (4, .int x4), (5, .int x5), (6, .long x6), (8, .long x8), (10, .int x10), (13, .int x13)]) hx hb dX8_winds_115 hl (by decide) rfl (fun ls hl => ?_)
        refine k_iinc (v := (1 : Int32)) (lv' := fun X => [(13, .int X), (11, .long x103), (0, .ref (q1 100)), (1, .int x1), (2, .int x2), (3, .int x3), (4, .int x4), (5, .int x5), (6, .long x6), (8, .long x8), (10, .int x10)]) hC dX8_winds_117 hl (k := 10) rfl (by decide) (by decide) (fun _ => rfl) h (fun x104 h ls hl => ?_)
        refine lv_goto (tgt := 84) hx hb dX8_winds_120 (by decide) ?_
        exact ih x103 x104 o h _ _ _ hP hD hS (lv_sub hl [2, 3, 4, 5, 6, 7, 8, 9, 10, 1, 0] rfl) k0
def bd_X8_winds_69 (N : Nat) (x1 : Int32) (x2 : Int32) (x3 : Int32) (x4 : Int32) (x5 : Int32) (S1 : St) (x6 : Int64) (x8 : Int64) (x10 : Int32) (rec : (Int64 × Int64 × Int32) → Option (Int64 × Int64)) : Option (Int64 × Int64) :=
  (if ((1 : Int32) <<< (x4 &&& 31)) ≤ x10 then (
    some (x6, x8)) else (
    fx_b1 (fx_it (lf_X8_winds_84 N x1 x2 x3 x4 x5 x6 x8 x10 S1) N ((1 : Int64), (0 : Int32))) (fun x101 =>
      fx_lt (x8 + x101) (fun x103 =>
        fx_b1 (f_X8_bakedBy N S1 x2 x4 x10) (fun v104 =>
        fx_b1 (f_X8_ripeness N S1 x1 v104) (fun v105 =>
        (if v105 = (1 : Int32) then (
        fx_lt (x6 + x101) (fun x108 =>
          fx_lt (x10 + (1 : Int32)) (fun x109 =>
          rec (x108, x103, x109)))) else (
        fx_lt (x6 + (0 : Int64)) (fun x106 =>
          fx_lt (x10 + (1 : Int32)) (fun x107 =>
          rec (x106, x103, x107)))))))))))
def lf_X8_winds_69 (N : Nat) (x1 : Int32) (x2 : Int32) (x3 : Int32) (x4 : Int32) (x5 : Int32) (S1 : St) : (Int64 × Int64 × Int32) → ((Int64 × Int64 × Int32) → Option (Int64 × Int64)) → Option (Int64 × Int64) := fun x rec => bd_X8_winds_69 N x1 x2 x3 x4 x5 S1 x.1 x.2.1 x.2.2 rec
set_option maxRecDepth 100000 in
set_option maxHeartbeats 4000000 in
theorem lw_X8_winds_69 {p : Program} {l : Launch} {e : Env} {s : State} {m : MethodId} {args : Array Value} {below : List Frame} {meth : Method} {c : Code} {Q : State → Prop} {A : Nat → Prop} {H0 : Heap} {g : GG} (hC : Cx p s m args c RX8 cX8_winds 14 wsX8_winds g) (hA : ∀ q : Nat, H0.size ≤ q → A q) (N : Nat) (q1 : Nat → Nat) (x1 : Int32) (x2 : Int32) (x3 : Int32) (x4 : Int32) (x5 : Int32) (S1 : St) : ∀ (n : Nat) (x6 : Int64) (x8 : Int64) (x10 : Int32) (o : Int64 × Int64), fx_it (lf_X8_winds_69 N x1 x2 x3 x4 x5 S1) n (x6, x8, x10) = some o → ∀ (H : Heap) (locs : List Loc) (ls : Array Slot), va_P g.1 vwCl (wX8 g q1 S1) H → va_D A (wX8 g q1 S1) → va_S A H0 H locs → lv_has ls 14 [(0, .ref (q1 100)), (1, .int x1), (2, .int x2), (3, .int x3), (4, .int x4), (5, .int x5), (6, .long x6), (8, .long x8), (10, .int x10)] → (∀ (z0 : Int64) (z1 : Int64), o = (z0, z1) → ∀ (H : Heap) (locs : List Loc) (ls : Array Slot), va_P g.1 vwCl (wX8 g q1 S1) H → va_D A (wX8 g q1 S1) → va_S A H0 H locs → lv_has ls 14 [(5, .int x5), (6, .long z0), (8, .long z1)] → W p l e RM_X8_winds s m args below meth c H locs 0 0 Q (F0 m 165 ls [])) → W p l e RM_X8_winds s m args below meth c H locs 0 0 Q (F0 m 69 ls []) := by
  have hx := hC.1.1
  have hb := hC.1.2.1
  have hml := hC.1.2.2.1
  have hown := hC.1.2.2.2.1
  have hts := hC.1.2.2.2.2
  intro n
  induction n with
  | zero => intro x6 x8 x10 o h; cases h
  | succ n ih =>
    intro x6 x8 x10 o h H locs ls hP hD hS hl k0
    have h : bd_X8_winds_69 N x1 x2 x3 x4 x5 S1 x6 x8 x10 (fx_it (lf_X8_winds_69 N x1 x2 x3 x4 x5 S1) n) = some o := h
    unfold bd_X8_winds_69 at h
    refine lv_iload hx hb dX8_winds_69 (lv_at hl 8 rfl) ?_
    refine lv_iconst (v := (1 : Int32)) hx hb dX8_winds_71 (by decide) ?_
    refine lv_iload hx hb dX8_winds_72 (lv_at hl 4 rfl) ?_
    refine lv_ishl hx hb dX8_winds_74 ?_
    refine k_icmp_ge (tgt := 165) hC dX8_winds_75 (by decide) h (fun h => ?_) (fun h => ?_)
    · exact k0 x6 x8 (Option.some.inj h).symm _ _ _ hP hD hS (lv_sub hl [5, 6, 7] rfl)
    · refine lv_lconst (v := (1 : Int64)) hx hb dX8_winds_78 (by decide) ?_
      refine lv_lstore (lv' := [(11, .long (1 : Int64)), (0, .ref (q1 100)), (1, .int x1), (2, .int x2), (3, .int x3), (4, .int x4), (5, .int x5), (6, .long x6), (8, .long x8), (10, .int x10)]) hx hb dX8_winds_79 hl (by decide) rfl (fun ls hl => ?_)
      refine lv_iconst (v := (0 : Int32)) hx hb dX8_winds_81 (by decide) ?_
      refine lv_istore (lv' := [(13, .int (0 : Int32)), (11, .long (1 : Int64)), (0, .ref (q1 100)), (1, .int x1), (2, .int x2), (3, .int x3), (4, .int x4), (5, .int x5), (6, .long x6), (8, .long x8), (10, .int x10)]) hx hb dX8_winds_82 hl (by decide) rfl (fun ls hl => ?_)
      obtain ⟨x101, ho102, h⟩ := fx_b1_s h
      refine lw_X8_winds_84 hC hA N q1 x1 x2 x3 x4 x5 x6 x8 x10 S1 N (1 : Int64) (0 : Int32)  x101 ho102 _ _ _ hP hD hS (lv_sub hl [2, 3, 4, 5, 6, 7, 8, 9, 10, 1, 0] rfl) ?_
      · intro y0 he H locs ls hP hD hS hl
        obtain rfl := he
        refine lv_lload hx hb dX8_winds_123 (lv_at hl 7 rfl) ?_
        refine lv_lload hx hb dX8_winds_125 (lv_at hl 9 rfl) ?_
        refine lv_ladd hx hb dX8_winds_127 ?_
        refine k_topl h (fun x103 h => ?_)
        refine lv_lstore (lv' := [(8, .long x103), (0, .ref (q1 100)), (1, .int x1), (2, .int x2), (3, .int x3), (4, .int x4), (5, .int x5), (6, .long x6), (10, .int x10), (11, .long x101)]) hx hb dX8_winds_128 hl (by decide) rfl (fun ls hl => ?_)
        refine lv_lload hx hb dX8_winds_130 (lv_at hl 7 rfl) ?_
        refine lv_aload_n hx hb dX8_winds_132 rfl (lv_at hl 1 rfl) ?_
        refine lv_iload_n hx hb dX8_winds_133 rfl (lv_at hl 2 rfl) ?_
        refine lv_aload_n hx hb dX8_winds_134 rfl (lv_at hl 1 rfl) ?_
        refine lv_iload_n hx hb dX8_winds_135 rfl (lv_at hl 3 rfl) ?_
        refine lv_iload hx hb dX8_winds_136 (lv_at hl 5 rfl) ?_
        refine lv_iload hx hb dX8_winds_138 (lv_at hl 8 rfl) ?_
        obtain ⟨v104, hc111, h⟩ := fx_b1_s h
        refine k_callVi0 (C := RX8) (ci := 8) (qr := 0) (n := 3) (As := [.int x2, .int x4, .int x10]) (rest := [.int x1, .ref (q1 100), .long x6]) (wc := (wX8 g q1 S1)) (bytes := cX8_bakedBy) (maxL := 7) (ret := (some .int)) hC hl.1 (c_X8_bakedBy l g N q1 S1 x2 x4 x10 v104 hc111) rfl gX8_winds_X8_bakedBy (by decide +kernel) rfl rfl ⟨Nat.le_of_ble_eq_true rfl, Nat.le_of_ble_eq_true rfl⟩ rfl rfl rfl (Nat.le_of_ble_eq_true rfl) ⟨Nat.le_of_ble_eq_true rfl, Nat.le_of_ble_eq_true rfl⟩ dX8_winds_140 hP hD hS hA [0, 1, 2, 3, 4, 5, 6, 7, 8, 9, 10, 11, 12, 13, 14, 15, 16, 17, 18, 19, 20, 21, 22, 23] rfl (by decide +kernel) (fun H locs hP hD hS => ?_)
        obtain ⟨v105, hc110, h⟩ := fx_b1_s h
        refine k_callVi0 (C := RX8) (ci := 8) (qr := 0) (n := 2) (As := [.int x1, .int v104]) (rest := [.long x6]) (wc := (wX8 g q1 S1)) (bytes := cX8_ripeness) (maxL := 3) (ret := (some .int)) hC hl.1 (c_X8_ripeness l g N q1 S1 x1 v104 v105 hc110) rfl gX8_winds_X8_ripeness (by decide +kernel) rfl rfl ⟨Nat.le_of_ble_eq_true rfl, Nat.le_of_ble_eq_true rfl⟩ rfl rfl rfl (Nat.le_of_ble_eq_true rfl) ⟨Nat.le_of_ble_eq_true rfl, Nat.le_of_ble_eq_true rfl⟩ dX8_winds_143 hP hD hS hA [0, 1, 2, 3, 4, 5, 6, 7, 8, 9, 10, 11, 12, 13, 14, 15, 16, 17, 18, 19, 20, 21, 22, 23] rfl (by decide +kernel) (fun H locs hP hD hS => ?_)
        refine lv_iconst (v := (1 : Int32)) hx hb dX8_winds_146 (by decide) ?_
        refine k_icmp_ne (tgt := 155) hC dX8_winds_147 (by decide) h (fun h => ?_) (fun h => ?_)
        · refine lv_lconst (v := (0 : Int64)) hx hb dX8_winds_155 (by decide) ?_
          refine lv_ladd hx hb dX8_winds_156 ?_
          refine k_topl h (fun x106 h => ?_)
          refine lv_lstore (lv' := [(6, .long x106), (8, .long x103), (0, .ref (q1 100)), (1, .int x1), (2, .int x2), (3, .int x3), (4, .int x4), (5, .int x5), (10, .int x10), (11, .long x101)]) hx hb dX8_winds_157 hl (by decide) rfl (fun ls hl => ?_)
          refine k_iinc (v := (1 : Int32)) (lv' := fun X => [(10, .int X), (6, .long x106), (8, .long x103), (0, .ref (q1 100)), (1, .int x1), (2, .int x2), (3, .int x3), (4, .int x4), (5, .int x5), (11, .long x101)]) hC dX8_winds_159 hl (k := 8) rfl (by decide) (by decide) (fun _ => rfl) h (fun x107 h ls hl => ?_)
          refine lv_goto (tgt := 69) hx hb dX8_winds_162 (by decide) ?_
          exact ih x106 x103 x107 o h _ _ _ hP hD hS (lv_sub hl [3, 4, 5, 6, 7, 8, 1, 2, 0] rfl) k0
        · refine lv_lload hx hb dX8_winds_150 (lv_at hl 9 rfl) ?_
          refine lv_goto (tgt := 156) hx hb dX8_winds_152 (by decide) ?_
          refine lv_ladd hx hb dX8_winds_156 ?_
          refine k_topl h (fun x108 h => ?_)
          refine lv_lstore (lv' := [(6, .long x108), (8, .long x103), (0, .ref (q1 100)), (1, .int x1), (2, .int x2), (3, .int x3), (4, .int x4), (5, .int x5), (10, .int x10), (11, .long x101)]) hx hb dX8_winds_157 hl (by decide) rfl (fun ls hl => ?_)
          refine k_iinc (v := (1 : Int32)) (lv' := fun X => [(10, .int X), (6, .long x108), (8, .long x103), (0, .ref (q1 100)), (1, .int x1), (2, .int x2), (3, .int x3), (4, .int x4), (5, .int x5), (11, .long x101)]) hC dX8_winds_159 hl (k := 8) rfl (by decide) (by decide) (fun _ => rfl) h (fun x109 h ls hl => ?_)
          refine lv_goto (tgt := 69) hx hb dX8_winds_162 (by decide) ?_
          exact ih x108 x103 x109 o h _ _ _ hP hD hS (lv_sub hl [3, 4, 5, 6, 7, 8, 1, 2, 0] rfl) k0
def f_X8_winds (N : Nat) (S1 : St) (x1 : Int32) (x2 : Int32) (x3 : Int32) (x4 : Int32) (x5 : Int32) : Option (Int64) :=
  fx_b1 (f_X8_isSort N S1 x1) (fun v101 =>
  (if v101 = 0 then (
  some (-1000000000000000001 : Int64)) else (
  fx_b1 (f_X8_isPlace N S1 x2) (fun v102 =>
    (if v102 = 0 then (
    some (-1000000000000000001 : Int64)) else (
    fx_b1 (f_X8_in N (Int32.toInt64 x3) (0 : Int64) (10 : Int64)) (fun v103 =>
      (if v103 = 0 then (
      some (-1000000000000000002 : Int64)) else (
      fx_b1 (f_X8_in N (Int32.toInt64 x4) (0 : Int64) (10 : Int64)) (fun v104 =>
        (if v104 = 0 then (
        some (-1000000000000000002 : Int64)) else (
        fx_b1 (f_X8_in N (Int32.toInt64 x5) (0 : Int64) (1 : Int64)) (fun v105 =>
          (if v105 = 0 then (
          some (-1000000000000000002 : Int64)) else (
          fx_b2 (fx_it (lf_X8_winds_69 N x1 x2 x3 x4 x5 S1) N ((0 : Int64), (0 : Int64), (0 : Int32))) (fun x106 x107 =>
            fx_b1 (f_X8_lowest N x106 x107 x5) (fun v109 =>
              some v109)))))))))))))))))
set_option maxRecDepth 100000 in
set_option maxHeartbeats 4000000 in
theorem c_X8_winds (l : Launch) (g : GG) (N : Nat) (q1 : Nat → Nat) (S1 : St) (x1 : Int32) (x2 : Int32) (x3 : Int32) (x4 : Int32) (x5 : Int32) (r : Int64) (h : f_X8_winds N S1 x1 x2 x3 x4 x5 = some r) : Cl l yX8_winds wsX8_winds RM_X8_winds g [.ref (q1 100), .int x1, .int x2, .int x3, .int x4, .int x5] (wX8 g q1 S1) (wX8 g q1 S1) r := by
  intro sz
  refine Met.ofC (cc := cX8_winds) (maxL := 14) (ret := (some .long)) (by decide) rfl (Nat.le_of_ble_eq_true rfl) ?_
  intro p e s m below meth c hC hr hlk hsz A hA9 hA hP hD hS ls hl
  subst hsz
  have hC : Cx p s m ([.ref (q1 100), .int x1, .int x2, .int x3, .int x4, .int x5] : List Value).toArray c RX8 cX8_winds 14 wsX8_winds g := hC
  have hx := hC.1.1
  have hb := hC.1.2.1
  have hml := hC.1.2.2.1
  have hown := hC.1.2.2.2.1
  have hts := hC.1.2.2.2.2
  have hl : lv_has ls 14 [(0, .ref (q1 100)), (1, .int x1), (2, .int x2), (3, .int x3), (4, .int x4), (5, .int x5)] := hl
  show W p l e RM_X8_winds s m ([.ref (q1 100), .int x1, .int x2, .int x3, .int x4, .int x5] : List Value).toArray below meth c s.heap [] 0 0 (Ql below g [.ref (q1 100), .int x1, .int x2, .int x3, .int x4, .int x5] (wX8 g q1 S1) (wX8 g q1 S1) r s) (F0 m 0 ls [])
  unfold f_X8_winds at h
  refine lv_aload_n hx hb dX8_winds_0 rfl (lv_at hl 0 rfl) ?_
  refine lv_iload_n hx hb dX8_winds_1 rfl (lv_at hl 1 rfl) ?_
  obtain ⟨v101, hc115, h⟩ := fx_b1_s h
  refine k_callVi0 (C := RX8) (ci := 8) (qr := 0) (n := 1) (As := [.int x1]) (rest := []) (wc := (wX8 g q1 S1)) (bytes := cX8_isSort) (maxL := 2) (ret := (some .boolean)) hC hl.1 (c_X8_isSort l g N q1 S1 x1 v101 hc115) rfl gX8_winds_X8_isSort (by decide +kernel) rfl rfl ⟨Nat.le_of_ble_eq_true rfl, Nat.le_of_ble_eq_true rfl⟩ rfl rfl rfl (Nat.le_of_ble_eq_true rfl) ⟨Nat.le_of_ble_eq_true rfl, Nat.le_of_ble_eq_true rfl⟩ dX8_winds_2 hP hD hS hA [0, 1, 2, 3, 4, 5, 6, 7, 8, 9, 10, 11, 12, 13, 14, 15, 16, 17, 18, 19, 20, 21, 22, 23] rfl (by decide +kernel) (fun H locs hP hD hS => ?_)
  refine k_if_eq (tgt := 16) hC dX8_winds_5 (by decide) h (fun h => ?_) (fun h => ?_)
  · refine lv_ldc2 (v := (-1000000000000000001 : Int64)) hx hb hown (hts _ (List.mem_of_getElem? (i := 1) rfl)) dX8_winds_16 ?_
    obtain rfl := fx_i1 h
    exact Cl.ret hC hr hlk hA9 hP hD hS dX8_winds_19
  · refine lv_aload_n hx hb dX8_winds_8 rfl (lv_at hl 0 rfl) ?_
    refine lv_iload_n hx hb dX8_winds_9 rfl (lv_at hl 2 rfl) ?_
    obtain ⟨v102, hc114, h⟩ := fx_b1_s h
    refine k_callVi0 (C := RX8) (ci := 8) (qr := 0) (n := 1) (As := [.int x2]) (rest := []) (wc := (wX8 g q1 S1)) (bytes := cX8_isPlace) (maxL := 2) (ret := (some .boolean)) hC hl.1 (c_X8_isPlace l g N q1 S1 x2 v102 hc114) rfl gX8_winds_X8_isPlace (by decide +kernel) rfl rfl ⟨Nat.le_of_ble_eq_true rfl, Nat.le_of_ble_eq_true rfl⟩ rfl rfl rfl (Nat.le_of_ble_eq_true rfl) ⟨Nat.le_of_ble_eq_true rfl, Nat.le_of_ble_eq_true rfl⟩ dX8_winds_10 hP hD hS hA [0, 1, 2, 3, 4, 5, 6, 7, 8, 9, 10, 11, 12, 13, 14, 15, 16, 17, 18, 19, 20, 21, 22, 23] rfl (by decide +kernel) (fun H locs hP hD hS => ?_)
    refine k_if_ne (tgt := 20) hC dX8_winds_13 (by decide) h (fun h => ?_) (fun h => ?_)
    · refine lv_iload_n hx hb dX8_winds_20 rfl (lv_at hl 3 rfl) ?_
      refine lv_i2l hx hb dX8_winds_21 rfl ?_
      refine lv_lconst (v := (0 : Int64)) hx hb dX8_winds_22 (by decide) ?_
      refine lv_ldc2 (v := (10 : Int64)) hx hb hown (hts _ (List.mem_of_getElem? (i := 2) rfl)) dX8_winds_23 ?_
      obtain ⟨v103, hc113, h⟩ := fx_b1_s h
      refine k_callSi0 (n := 3) (As := [.long (Int32.toInt64 x3), .long (0 : Int64), .long (10 : Int64)]) (rest := []) (wc := ([] : va_W)) (bytes := cX8_in) (maxL := 6) (ret := (some .boolean)) hC hl.1 (c_X8_in l g N (Int32.toInt64 x3) (0 : Int64) (10 : Int64) v103 hc113) rfl gX8_winds_X8_in (by decide +kernel) ⟨Nat.le_of_ble_eq_true rfl, Nat.le_of_ble_eq_true rfl⟩ rfl rfl rfl (Nat.le_of_ble_eq_true rfl) ⟨Nat.le_of_ble_eq_true rfl, Nat.le_of_ble_eq_true rfl⟩ dX8_winds_26 hP hD hS hA [] rfl (by decide +kernel) (fun H locs hP hD hS => ?_)
      refine k_if_eq (tgt := 56) hC dX8_winds_29 (by decide) h (fun h => ?_) (fun h => ?_)
      · refine lv_ldc2 (v := (-1000000000000000002 : Int64)) hx hb hown (hts _ (List.mem_of_getElem? (i := 3) rfl)) dX8_winds_56 ?_
        obtain rfl := fx_i1 h
        exact Cl.ret hC hr hlk hA9 hP hD hS dX8_winds_59
      · refine lv_iload hx hb dX8_winds_32 (lv_at hl 4 rfl) ?_
        refine lv_i2l hx hb dX8_winds_34 rfl ?_
        refine lv_lconst (v := (0 : Int64)) hx hb dX8_winds_35 (by decide) ?_
        refine lv_ldc2 (v := (10 : Int64)) hx hb hown (hts _ (List.mem_of_getElem? (i := 2) rfl)) dX8_winds_36 ?_
        obtain ⟨v104, hc112, h⟩ := fx_b1_s h
        refine k_callSi0 (n := 3) (As := [.long (Int32.toInt64 x4), .long (0 : Int64), .long (10 : Int64)]) (rest := []) (wc := ([] : va_W)) (bytes := cX8_in) (maxL := 6) (ret := (some .boolean)) hC hl.1 (c_X8_in l g N (Int32.toInt64 x4) (0 : Int64) (10 : Int64) v104 hc112) rfl gX8_winds_X8_in (by decide +kernel) ⟨Nat.le_of_ble_eq_true rfl, Nat.le_of_ble_eq_true rfl⟩ rfl rfl rfl (Nat.le_of_ble_eq_true rfl) ⟨Nat.le_of_ble_eq_true rfl, Nat.le_of_ble_eq_true rfl⟩ dX8_winds_39 hP hD hS hA [] rfl (by decide +kernel) (fun H locs hP hD hS => ?_)
        refine k_if_eq (tgt := 56) hC dX8_winds_42 (by decide) h (fun h => ?_) (fun h => ?_)
        · refine lv_ldc2 (v := (-1000000000000000002 : Int64)) hx hb hown (hts _ (List.mem_of_getElem? (i := 3) rfl)) dX8_winds_56 ?_
          obtain rfl := fx_i1 h
          exact Cl.ret hC hr hlk hA9 hP hD hS dX8_winds_59
        · refine lv_iload hx hb dX8_winds_45 (lv_at hl 5 rfl) ?_
          refine lv_i2l hx hb dX8_winds_47 rfl ?_
          refine lv_lconst (v := (0 : Int64)) hx hb dX8_winds_48 (by decide) ?_
          refine lv_lconst (v := (1 : Int64)) hx hb dX8_winds_49 (by decide) ?_
          obtain ⟨v105, hc111, h⟩ := fx_b1_s h
          refine k_callSi0 (n := 3) (As := [.long (Int32.toInt64 x5), .long (0 : Int64), .long (1 : Int64)]) (rest := []) (wc := ([] : va_W)) (bytes := cX8_in) (maxL := 6) (ret := (some .boolean)) hC hl.1 (c_X8_in l g N (Int32.toInt64 x5) (0 : Int64) (1 : Int64) v105 hc111) rfl gX8_winds_X8_in (by decide +kernel) ⟨Nat.le_of_ble_eq_true rfl, Nat.le_of_ble_eq_true rfl⟩ rfl rfl rfl (Nat.le_of_ble_eq_true rfl) ⟨Nat.le_of_ble_eq_true rfl, Nat.le_of_ble_eq_true rfl⟩ dX8_winds_50 hP hD hS hA [] rfl (by decide +kernel) (fun H locs hP hD hS => ?_)
          refine k_if_ne (tgt := 60) hC dX8_winds_53 (by decide) h (fun h => ?_) (fun h => ?_)
          · refine lv_lconst (v := (0 : Int64)) hx hb dX8_winds_60 (by decide) ?_
            refine lv_lstore (lv' := [(6, .long (0 : Int64)), (0, .ref (q1 100)), (1, .int x1), (2, .int x2), (3, .int x3), (4, .int x4), (5, .int x5)]) hx hb dX8_winds_61 hl (by decide) rfl (fun ls hl => ?_)
            refine lv_lconst (v := (0 : Int64)) hx hb dX8_winds_63 (by decide) ?_
            refine lv_lstore (lv' := [(8, .long (0 : Int64)), (6, .long (0 : Int64)), (0, .ref (q1 100)), (1, .int x1), (2, .int x2), (3, .int x3), (4, .int x4), (5, .int x5)]) hx hb dX8_winds_64 hl (by decide) rfl (fun ls hl => ?_)
            refine lv_iconst (v := (0 : Int32)) hx hb dX8_winds_66 (by decide) ?_
            refine lv_istore (lv' := [(10, .int (0 : Int32)), (8, .long (0 : Int64)), (6, .long (0 : Int64)), (0, .ref (q1 100)), (1, .int x1), (2, .int x2), (3, .int x3), (4, .int x4), (5, .int x5)]) hx hb dX8_winds_67 hl (by decide) rfl (fun ls hl => ?_)
            obtain ⟨x106, x107, ho108, h⟩ := fx_b2_s h
            refine lw_X8_winds_69 hC hA N q1 x1 x2 x3 x4 x5 S1 N (0 : Int64) (0 : Int64) (0 : Int32)  (x106, x107) ho108 _ _ _ hP hD hS (lv_sub hl [3, 4, 5, 6, 7, 8, 2, 1, 0] rfl) ?_
            · intro y0 y1 he H locs ls hP hD hS hl
              obtain ⟨rfl, rfl⟩ := fx_j2 he
              refine lv_lload hx hb dX8_winds_165 (lv_at hl 1 rfl) ?_
              refine lv_lload hx hb dX8_winds_167 (lv_at hl 2 rfl) ?_
              refine lv_iload hx hb dX8_winds_169 (lv_at hl 0 rfl) ?_
              obtain ⟨v109, hc110, h⟩ := fx_b1_s h
              refine k_callSl0 (n := 3) (As := [.long x106, .long x107, .int x5]) (rest := []) (wc := ([] : va_W)) (bytes := cX8_lowest) (maxL := 11) (ret := (some .long)) hC hl.1 (c_X8_lowest l g N x106 x107 x5 v109 hc110) rfl gX8_winds_X8_lowest (by decide +kernel) ⟨Nat.le_of_ble_eq_true rfl, Nat.le_of_ble_eq_true rfl⟩ rfl rfl rfl (Nat.le_of_ble_eq_true rfl) ⟨Nat.le_of_ble_eq_true rfl, Nat.le_of_ble_eq_true rfl⟩ dX8_winds_171 hP hD hS hA [] rfl (by decide +kernel) (fun H locs hP hD hS => ?_)
              obtain rfl := fx_i1 h
              exact Cl.ret hC hr hlk hA9 hP hD hS dX8_winds_174
          · refine lv_ldc2 (v := (-1000000000000000002 : Int64)) hx hb hown (hts _ (List.mem_of_getElem? (i := 3) rfl)) dX8_winds_56 ?_
            obtain rfl := fx_i1 h
            exact Cl.ret hC hr hlk hA9 hP hD hS dX8_winds_59
    · refine lv_ldc2 (v := (-1000000000000000001 : Int64)) hx hb hown (hts _ (List.mem_of_getElem? (i := 1) rfl)) dX8_winds_16 ?_
      obtain rfl := fx_i1 h
      exact Cl.ret hC hr hlk hA9 hP hD hS dX8_winds_19
theorem uX8_year_X8 : ∀ w ∈ u_ws RX8 TX8 46, w ∈ wsX8_year := fun w h => List.mem_cons_of_mem _ (List.mem_append_right _ h)
abbrev RM_X8_year : Room := { frames := 3, cells := 0, slots := 0, locals := 66 }
def bd_X8_year_42 (N : Nat) (x1 : Int32) (x2 : Int32) (x3 : Int32) (x4 : Int32) (S1 : St) (rec : (Int32 × St) → Option (St)) : Option (St) :=
  (if (4 : Int32) ≤ x4 then (
    some S1) else (
    fx_ast 4 S1 41 x4 (0 : Int32) (fun S101 =>
      fx_lt (x4 + (1 : Int32)) (fun x102 =>
      rec (x102, S101)))))
def lf_X8_year_42 (N : Nat) (x1 : Int32) (x2 : Int32) (x3 : Int32) : (Int32 × St) → ((Int32 × St) → Option (St)) → Option (St) := fun x rec => bd_X8_year_42 N x1 x2 x3 x.1 x.2 rec
set_option maxRecDepth 100000 in
set_option maxHeartbeats 4000000 in
theorem lw_X8_year_42 {p : Program} {l : Launch} {e : Env} {s : State} {m : MethodId} {args : Array Value} {below : List Frame} {meth : Method} {c : Code} {Q : State → Prop} {A : Nat → Prop} {H0 : Heap} {g : GG} (hC : Cx p s m args c RX8 cX8_year 8 wsX8_year g) (hA : ∀ q : Nat, H0.size ≤ q → A q) (N : Nat) (q1 : Nat → Nat) (x1 : Int32) (x2 : Int32) (x3 : Int32) : ∀ (n : Nat) (x4 : Int32) (S1 : St) (o : St), fx_it (lf_X8_year_42 N x1 x2 x3) n (x4, S1) = some o → ∀ (H : Heap) (locs : List Loc) (ls : Array Slot), va_P g.1 vwCl (wX8 g q1 S1) H → va_D A (wX8 g q1 S1) → va_S A H0 H locs → lv_has ls 8 [(0, .ref (q1 100)), (1, .int x1), (2, .int x2), (3, .int x3), (4, .int x4)] → (∀ (Z0 : St), o = Z0 → ∀ (H : Heap) (locs : List Loc) (ls : Array Slot), va_P g.1 vwCl (wX8 g q1 Z0) H → va_D A (wX8 g q1 Z0) → va_S A H0 H locs → lv_has ls 8 [(0, .ref (q1 100)), (1, .int x1), (2, .int x2), (3, .int x3)] → W p l e RM_X8_year s m args below meth c H locs 0 0 Q (F0 m 62 ls [])) → W p l e RM_X8_year s m args below meth c H locs 0 0 Q (F0 m 42 ls []) := by
  have hx := hC.1.1
  have hb := hC.1.2.1
  have hml := hC.1.2.2.1
  have hown := hC.1.2.2.2.1
  have hts := hC.1.2.2.2.2
  intro n
  induction n with
  | zero => intro x4 S1 o h; cases h
  | succ n ih =>
    intro x4 S1 o h H locs ls hP hD hS hl k0
    have h : bd_X8_year_42 N x1 x2 x3 x4 S1 (fx_it (lf_X8_year_42 N x1 x2 x3) n) = some o := h
    unfold bd_X8_year_42 at h
    refine lv_iload hx hb dX8_year_42 (lv_at hl 4 rfl) ?_
    refine lv_iconst (v := (4 : Int32)) hx hb dX8_year_44 (by decide) ?_
    refine k_icmp_ge (tgt := 62) hC dX8_year_45 (by decide) h (fun h => ?_) (fun h => ?_)
    · exact k0 S1 (Option.some.inj h).symm _ _ _ hP hD hS (lv_sub hl [0, 1, 2, 3] rfl)
    · refine lv_aload_n hx hb dX8_year_48 rfl (lv_at hl 0 rfl) ?_
      refine k_get (ci := 8) (k := 41) (q0 := 0) (v := .ref (q1 41)) (C := RX8) (T := TX8) (N := 46) hC uX8_year_X8 hP rfl rfl (by decide) (List.mem_of_getElem? (i := 4) rfl) rfl dX8_year_49 ?_
      refine lv_iload hx hb dX8_year_52 (lv_at hl 4 rfl) ?_
      refine lv_iconst (v := (0 : Int32)) hx hb dX8_year_54 (by decide) ?_
      refine k_ast (q0 := 21) (n := 4) (k := 41) (S := S1) (fun S => (wX8 g q1 S)) hC hP hD hS rfl (fun _ => rfl) dX8_year_55 h (fun S101 h H locs hP hD hS => ?_)
      refine k_iinc (v := (1 : Int32)) (lv' := fun X => [(4, .int X), (0, .ref (q1 100)), (1, .int x1), (2, .int x2), (3, .int x3)]) hC dX8_year_56 hl (k := 4) rfl (by decide) (by decide) (fun _ => rfl) h (fun x102 h ls hl => ?_)
      refine lv_goto (tgt := 42) hx hb dX8_year_59 (by decide) ?_
      exact ih x102 S101 o h _ _ _ hP hD hS (lv_sub hl [1, 2, 3, 4, 0] rfl) k0
def bd_X8_year_68 (N : Nat) (x2 : Int32) (x3 : Int32) (x4 : Int32) (x5 : Int32) (S1 : St) (rec : (Int32 × Int32 × St) → Option (St)) : Option (St) :=
  (if x2 ≤ x5 then (
    some S1) else (
    fx_lt (Int64.toInt32 ((((75 : Int64) * (Int32.toInt64 x4)) + (74 : Int64)) - (((75 : Int64) * (Int32.toInt64 x4)) + (74 : Int64)) / (65537 : Int64) * (65537 : Int64))) (fun x101 =>
      fx_lt (x101 - x101 / (6 : Int32) * (6 : Int32)) (fun x102 =>
      fx_b1 (f_X8_isSort N S1 x102) (fun v103 =>
      (if v103 = 0 then (
      fx_lt (x5 + (1 : Int32)) (fun x104 =>
        rec (x101, x104, S1))) else (
      fx_nz (S1.1 1) (
        fx_b1 (f_X8_bakedBy N S1 ((x101 / (6 : Int32)) - (x101 / (6 : Int32)) / (S1.1 1) * (S1.1 1)) ((1 : Int32) + ((x101 / (64 : Int32)) - (x101 / (64 : Int32)) / (40 : Int32) * (40 : Int32))) (0 : Int32)) (fun v105 =>
        fx_b1 (f_X8_ripeness N S1 x102 v105) (fun v106 =>
        fx_ald 4 (S1.2 41) v106 (fun v107 =>
        fx_ast 4 S1 41 v106 (v107 + (1 : Int32)) (fun S108 =>
        fx_ald 4 (S108.2 41) (3 : Int32) (fun v109 =>
        fx_b1 ((if v106 = (1 : Int32) then (
        fx_ald 6 (S108.2 10) x102 (fun v115 =>
          some v115)) else (
        some (0 : Int32))) : Option (Int32)) (fun v110 =>
        fx_ast 4 S108 41 (3 : Int32) (v109 + v110) (fun S112 =>
          fx_lt (x5 + (1 : Int32)) (fun x113 =>
          rec (x101, x113, S112)))))))))))))))))
def lf_X8_year_68 (N : Nat) (x2 : Int32) (x3 : Int32) : (Int32 × Int32 × St) → ((Int32 × Int32 × St) → Option (St)) → Option (St) := fun x rec => bd_X8_year_68 N x2 x3 x.1 x.2.1 x.2.2 rec
set_option maxRecDepth 100000 in
set_option maxHeartbeats 4000000 in
theorem lw_X8_year_68 {p : Program} {l : Launch} {e : Env} {s : State} {m : MethodId} {args : Array Value} {below : List Frame} {meth : Method} {c : Code} {Q : State → Prop} {A : Nat → Prop} {H0 : Heap} {g : GG} (hC : Cx p s m args c RX8 cX8_year 8 wsX8_year g) (hA : ∀ q : Nat, H0.size ≤ q → A q) (N : Nat) (q1 : Nat → Nat) (x2 : Int32) (x3 : Int32) : ∀ (n : Nat) (x4 : Int32) (x5 : Int32) (S1 : St) (o : St), fx_it (lf_X8_year_68 N x2 x3) n (x4, x5, S1) = some o → ∀ (H : Heap) (locs : List Loc) (ls : Array Slot), va_P g.1 vwCl (wX8 g q1 S1) H → va_D A (wX8 g q1 S1) → va_S A H0 H locs → lv_has ls 8 [(0, .ref (q1 100)), (2, .int x2), (3, .int x3), (4, .int x4), (5, .int x5)] → (∀ (Z0 : St), o = Z0 → ∀ (H : Heap) (locs : List Loc) (ls : Array Slot), va_P g.1 vwCl (wX8 g q1 Z0) H → va_D A (wX8 g q1 Z0) → va_S A H0 H locs → lv_has ls 8 [(0, .ref (q1 100)), (3, .int x3)] → W p l e RM_X8_year s m args below meth c H locs 0 0 Q (F0 m 184 ls [])) → W p l e RM_X8_year s m args below meth c H locs 0 0 Q (F0 m 68 ls []) := by
  have hx := hC.1.1
  have hb := hC.1.2.1
  have hml := hC.1.2.2.1
  have hown := hC.1.2.2.2.1
  have hts := hC.1.2.2.2.2
  intro n
  induction n with
  | zero => intro x4 x5 S1 o h; cases h
  | succ n ih =>
    intro x4 x5 S1 o h H locs ls hP hD hS hl k0
    have h : bd_X8_year_68 N x2 x3 x4 x5 S1 (fx_it (lf_X8_year_68 N x2 x3) n) = some o := h
    unfold bd_X8_year_68 at h
    refine lv_iload hx hb dX8_year_68 (lv_at hl 4 rfl) ?_
    refine lv_iload_n hx hb dX8_year_70 rfl (lv_at hl 1 rfl) ?_
    refine k_icmp_ge (tgt := 184) hC dX8_year_71 (by decide) h (fun h => ?_) (fun h => ?_)
    · exact k0 S1 (Option.some.inj h).symm _ _ _ hP hD hS (lv_sub hl [0, 2] rfl)
    · refine lv_ldc2 (v := (75 : Int64)) hx hb hown (hts _ (List.mem_of_getElem? (i := 5) rfl)) dX8_year_74 ?_
      refine lv_iload hx hb dX8_year_77 (lv_at hl 3 rfl) ?_
      refine lv_i2l hx hb dX8_year_79 rfl ?_
      refine lv_lmul hx hb dX8_year_80 ?_
      refine lv_ldc2 (v := (74 : Int64)) hx hb hown (hts _ (List.mem_of_getElem? (i := 6) rfl)) dX8_year_81 ?_
      refine lv_ladd hx hb dX8_year_84 ?_
      refine lv_ldc2 (v := (65537 : Int64)) hx hb hown (hts _ (List.mem_of_getElem? (i := 7) rfl)) dX8_year_85 ?_
      refine lv_lrem hx hb dX8_year_88 (by decide) ?_
      refine lv_l2i hx hb dX8_year_89 rfl ?_
      refine k_topi h (fun x101 h => ?_)
      refine lv_istore (lv' := [(4, .int x101), (0, .ref (q1 100)), (2, .int x2), (3, .int x3), (5, .int x5)]) hx hb dX8_year_90 hl (by decide) rfl (fun ls hl => ?_)
      refine lv_iload hx hb dX8_year_92 (lv_at hl 0 rfl) ?_
      refine lv_bipush (v := (6 : Int32)) hx hb dX8_year_94 (by decide) ?_
      refine lv_irem hx hb dX8_year_96 (by decide) ?_
      refine k_topi h (fun x102 h => ?_)
      refine lv_istore (lv' := [(6, .int x102), (4, .int x101), (0, .ref (q1 100)), (2, .int x2), (3, .int x3), (5, .int x5)]) hx hb dX8_year_97 hl (by decide) rfl (fun ls hl => ?_)
      refine lv_aload_n hx hb dX8_year_99 rfl (lv_at hl 2 rfl) ?_
      refine lv_iload hx hb dX8_year_100 (lv_at hl 0 rfl) ?_
      obtain ⟨v103, hc118, h⟩ := fx_b1_s h
      refine k_callVi0 (C := RX8) (ci := 8) (qr := 0) (n := 1) (As := [.int x102]) (rest := []) (wc := (wX8 g q1 S1)) (bytes := cX8_isSort) (maxL := 2) (ret := (some .boolean)) hC hl.1 (c_X8_isSort l g N q1 S1 x102 v103 hc118) rfl gX8_year_X8_isSort (by decide +kernel) rfl rfl ⟨Nat.le_of_ble_eq_true rfl, Nat.le_of_ble_eq_true rfl⟩ rfl rfl rfl (Nat.le_of_ble_eq_true rfl) ⟨Nat.le_of_ble_eq_true rfl, Nat.le_of_ble_eq_true rfl⟩ dX8_year_102 hP hD hS hA [0, 1, 2, 3, 4, 5, 6, 7, 8, 9, 10, 11, 12, 13, 14, 15, 16, 17, 18, 19, 20, 21, 22, 23] rfl (by decide +kernel) (fun H locs hP hD hS => ?_)
      refine k_if_eq (tgt := 178) hC dX8_year_105 (by decide) h (fun h => ?_) (fun h => ?_)
      · refine k_iinc (v := (1 : Int32)) (lv' := fun X => [(5, .int X), (6, .int x102), (4, .int x101), (0, .ref (q1 100)), (2, .int x2), (3, .int x3)]) hC dX8_year_178 hl (k := 5) rfl (by decide) (by decide) (fun _ => rfl) h (fun x104 h ls hl => ?_)
        refine lv_goto (tgt := 68) hx hb dX8_year_181 (by decide) ?_
        exact ih x101 x104 S1 o h _ _ _ hP hD hS (lv_sub hl [3, 4, 5, 2, 0] rfl) k0
      · refine lv_aload_n hx hb dX8_year_108 rfl (lv_at hl 2 rfl) ?_
        refine lv_iload hx hb dX8_year_109 (lv_at hl 0 rfl) ?_
        refine lv_aload_n hx hb dX8_year_111 rfl (lv_at hl 2 rfl) ?_
        refine lv_iload hx hb dX8_year_112 (lv_at hl 1 rfl) ?_
        refine lv_bipush (v := (6 : Int32)) hx hb dX8_year_114 (by decide) ?_
        refine lv_idiv hx hb dX8_year_116 (by decide) ?_
        refine lv_aload_n hx hb dX8_year_117 rfl (lv_at hl 2 rfl) ?_
        refine k_get (ci := 8) (k := 1) (q0 := 0) (v := .int (S1.1 1)) (C := RX8) (T := TX8) (N := 46) hC uX8_year_X8 hP rfl rfl (by decide) (List.mem_of_getElem? (i := 8) rfl) rfl dX8_year_118 ?_
        obtain ⟨hne, h⟩ := fx_nz_s h
        refine lv_irem hx hb dX8_year_121 hne ?_
        refine lv_iconst (v := (1 : Int32)) hx hb dX8_year_122 (by decide) ?_
        refine lv_iload hx hb dX8_year_123 (lv_at hl 1 rfl) ?_
        refine lv_bipush (v := (64 : Int32)) hx hb dX8_year_125 (by decide) ?_
        refine lv_idiv hx hb dX8_year_127 (by decide) ?_
        refine lv_bipush (v := (40 : Int32)) hx hb dX8_year_128 (by decide) ?_
        refine lv_irem hx hb dX8_year_130 (by decide) ?_
        refine lv_iadd hx hb dX8_year_131 ?_
        refine lv_iconst (v := (0 : Int32)) hx hb dX8_year_132 (by decide) ?_
        obtain ⟨v105, hc117, h⟩ := fx_b1_s h
        refine k_callVi0 (C := RX8) (ci := 8) (qr := 0) (n := 3) (As := [.int ((x101 / (6 : Int32)) - (x101 / (6 : Int32)) / (S1.1 1) * (S1.1 1)), .int ((1 : Int32) + ((x101 / (64 : Int32)) - (x101 / (64 : Int32)) / (40 : Int32) * (40 : Int32))), .int (0 : Int32)]) (rest := [.int x102, .ref (q1 100)]) (wc := (wX8 g q1 S1)) (bytes := cX8_bakedBy) (maxL := 7) (ret := (some .int)) hC hl.1 (c_X8_bakedBy l g N q1 S1 ((x101 / (6 : Int32)) - (x101 / (6 : Int32)) / (S1.1 1) * (S1.1 1)) ((1 : Int32) + ((x101 / (64 : Int32)) - (x101 / (64 : Int32)) / (40 : Int32) * (40 : Int32))) (0 : Int32) v105 hc117) rfl gX8_year_X8_bakedBy (by decide +kernel) rfl rfl ⟨Nat.le_of_ble_eq_true rfl, Nat.le_of_ble_eq_true rfl⟩ rfl rfl rfl (Nat.le_of_ble_eq_true rfl) ⟨Nat.le_of_ble_eq_true rfl, Nat.le_of_ble_eq_true rfl⟩ dX8_year_133 hP hD hS hA [0, 1, 2, 3, 4, 5, 6, 7, 8, 9, 10, 11, 12, 13, 14, 15, 16, 17, 18, 19, 20, 21, 22, 23] rfl (by decide +kernel) (fun H locs hP hD hS => ?_)
        obtain ⟨v106, hc116, h⟩ := fx_b1_s h
        refine k_callVi0 (C := RX8) (ci := 8) (qr := 0) (n := 2) (As := [.int x102, .int v105]) (rest := []) (wc := (wX8 g q1 S1)) (bytes := cX8_ripeness) (maxL := 3) (ret := (some .int)) hC hl.1 (c_X8_ripeness l g N q1 S1 x102 v105 v106 hc116) rfl gX8_year_X8_ripeness (by decide +kernel) rfl rfl ⟨Nat.le_of_ble_eq_true rfl, Nat.le_of_ble_eq_true rfl⟩ rfl rfl rfl (Nat.le_of_ble_eq_true rfl) ⟨Nat.le_of_ble_eq_true rfl, Nat.le_of_ble_eq_true rfl⟩ dX8_year_136 hP hD hS hA [0, 1, 2, 3, 4, 5, 6, 7, 8, 9, 10, 11, 12, 13, 14, 15, 16, 17, 18, 19, 20, 21, 22, 23] rfl (by decide +kernel) (fun H locs hP hD hS => ?_)
        refine lv_istore (lv' := [(7, .int v106), (6, .int x102), (4, .int x101), (0, .ref (q1 100)), (2, .int x2), (3, .int x3), (5, .int x5)]) hx hb dX8_year_139 hl (by decide) rfl (fun ls hl => ?_)
        refine lv_aload_n hx hb dX8_year_141 rfl (lv_at hl 3 rfl) ?_
        refine k_get (ci := 8) (k := 41) (q0 := 0) (v := .ref (q1 41)) (C := RX8) (T := TX8) (N := 46) hC uX8_year_X8 hP rfl rfl (by decide) (List.mem_of_getElem? (i := 4) rfl) rfl dX8_year_142 ?_
        refine lv_iload hx hb dX8_year_145 (lv_at hl 0 rfl) ?_
        refine lv_dup2_11 hx hb dX8_year_147 rfl rfl ?_
        refine k_ald (q0 := 21) (n := 4) (F := S1.2 41) hC hP rfl dX8_year_148 h (fun v107 h => ?_)
        refine lv_iconst (v := (1 : Int32)) hx hb dX8_year_149 (by decide) ?_
        refine lv_iadd hx hb dX8_year_150 ?_
        refine k_ast (q0 := 21) (n := 4) (k := 41) (S := S1) (fun S => (wX8 g q1 S)) hC hP hD hS rfl (fun _ => rfl) dX8_year_151 h (fun S108 h H locs hP hD hS => ?_)
        refine lv_aload_n hx hb dX8_year_152 rfl (lv_at hl 3 rfl) ?_
        refine k_get (ci := 8) (k := 41) (q0 := 0) (v := .ref (q1 41)) (C := RX8) (T := TX8) (N := 46) hC uX8_year_X8 hP rfl rfl (by decide) (List.mem_of_getElem? (i := 4) rfl) rfl dX8_year_153 ?_
        refine lv_iconst (v := (3 : Int32)) hx hb dX8_year_156 (by decide) ?_
        refine lv_dup2_11 hx hb dX8_year_157 rfl rfl ?_
        refine k_ald (q0 := 21) (n := 4) (F := S108.2 41) hC hP rfl dX8_year_158 h (fun v109 h => ?_)
        refine lv_iload hx hb dX8_year_159 (lv_at hl 0 rfl) ?_
        refine lv_iconst (v := (1 : Int32)) hx hb dX8_year_161 (by decide) ?_
        obtain ⟨v110, hv111, h⟩ := fx_b1_s h
        have K114 : ∀ (H : Heap) (locs : List Loc) (ls : Array Slot), va_P g.1 vwCl (wX8 g q1 S108) H → va_D A (wX8 g q1 S108) → va_S A H0 H locs → lv_has ls 8 [(4, .int x101), (0, .ref (q1 100)), (2, .int x2), (3, .int x3), (5, .int x5)] → W p l e RM_X8_year s m args below meth c H locs 0 0 Q (F0 m 176 ls [.int v110, .int v109, .int (3 : Int32), .ref (q1 41)]) := by
          intro H locs ls hP hD hS hl
          refine lv_iadd hx hb dX8_year_176 ?_
          refine k_ast (q0 := 21) (n := 4) (k := 41) (S := S108) (fun S => (wX8 g q1 S)) hC hP hD hS rfl (fun _ => rfl) dX8_year_177 h (fun S112 h H locs hP hD hS => ?_)
          refine k_iinc (v := (1 : Int32)) (lv' := fun X => [(5, .int X), (4, .int x101), (0, .ref (q1 100)), (2, .int x2), (3, .int x3)]) hC dX8_year_178 hl (k := 4) rfl (by decide) (by decide) (fun _ => rfl) h (fun x113 h ls hl => ?_)
          refine lv_goto (tgt := 68) hx hb dX8_year_181 (by decide) ?_
          exact ih x101 x113 S112 o h _ _ _ hP hD hS (lv_sub hl [2, 3, 4, 1, 0] rfl) k0
        refine k_icmp_ne (tgt := 175) hC dX8_year_162 (by decide) hv111 (fun hv111 => ?_) (fun hv111 => ?_)
        · refine lv_iconst (v := (0 : Int32)) hx hb dX8_year_175 (by decide) ?_
          obtain rfl := fx_i1 hv111
          exact K114 _ _ _ hP hD hS (lv_sub hl [2, 3, 4, 5, 6] rfl)
        · refine lv_aload_n hx hb dX8_year_165 rfl (lv_at hl 3 rfl) ?_
          refine k_get (ci := 8) (k := 10) (q0 := 0) (v := .ref (q1 10)) (C := RX8) (T := TX8) (N := 46) hC uX8_year_X8 hP rfl rfl (by decide) (List.mem_of_getElem? (i := 9) rfl) rfl dX8_year_166 ?_
          refine lv_iload hx hb dX8_year_169 (lv_at hl 1 rfl) ?_
          refine k_ald (q0 := 4) (n := 6) (F := S108.2 10) hC hP rfl dX8_year_171 hv111 (fun v115 hv111 => ?_)
          refine lv_goto (tgt := 176) hx hb dX8_year_172 (by decide) ?_
          obtain rfl := fx_i1 hv111
          exact K114 _ _ _ hP hD hS (lv_sub hl [2, 3, 4, 5, 6] rfl)
def f_X8_year (N : Nat) (S1 : St) (x1 : Int32) (x2 : Int32) (x3 : Int32) : Option (Int32 × St) :=
  fx_b1 (f_X8_in N (Int32.toInt64 x1) (0 : Int64) (9999 : Int64)) (fun v101 =>
  (if v101 = 0 then (
  some ((-2 : Int32), S1)) else (
  fx_b1 (f_X8_in N (Int32.toInt64 x2) (1 : Int64) (99 : Int64)) (fun v102 =>
    (if v102 = 0 then (
    some ((-2 : Int32), S1)) else (
    fx_b1 (f_X8_in N (Int32.toInt64 x3) (0 : Int64) (3 : Int64)) (fun v103 =>
      (if v103 = 0 then (
      some ((-2 : Int32), S1)) else (
      fx_b1 (fx_it (lf_X8_year_42 N x1 x2 x3) N ((0 : Int32), S1)) (fun S104 =>
        fx_b1 (fx_it (lf_X8_year_68 N x2 x3) N (x1, (0 : Int32), S104)) (fun S106 =>
          fx_ald 4 (S106.2 41) x3 (fun v108 =>
            some (v108, S106)))))))))))))
set_option maxRecDepth 100000 in
set_option maxHeartbeats 4000000 in
theorem c_X8_year (l : Launch) (g : GG) (N : Nat) (q1 : Nat → Nat) (S1 : St) (x1 : Int32) (x2 : Int32) (x3 : Int32) (r : Int32) (F1 : St) (h : f_X8_year N S1 x1 x2 x3 = some (r, F1)) : Ci l yX8_year wsX8_year RM_X8_year g [.ref (q1 100), .int x1, .int x2, .int x3] (wX8 g q1 S1) (wX8 g q1 F1) r := by
  intro sz
  refine Met.ofC (cc := cX8_year) (maxL := 8) (ret := (some .int)) (by decide) rfl (Nat.le_of_ble_eq_true rfl) ?_
  intro p e s m below meth c hC hr hlk hsz A hA9 hA hP hD hS ls hl
  subst hsz
  have hC : Cx p s m ([.ref (q1 100), .int x1, .int x2, .int x3] : List Value).toArray c RX8 cX8_year 8 wsX8_year g := hC
  have hx := hC.1.1
  have hb := hC.1.2.1
  have hml := hC.1.2.2.1
  have hown := hC.1.2.2.2.1
  have hts := hC.1.2.2.2.2
  have hl : lv_has ls 8 [(0, .ref (q1 100)), (1, .int x1), (2, .int x2), (3, .int x3)] := hl
  show W p l e RM_X8_year s m ([.ref (q1 100), .int x1, .int x2, .int x3] : List Value).toArray below meth c s.heap [] 0 0 (Qi below g [.ref (q1 100), .int x1, .int x2, .int x3] (wX8 g q1 S1) (wX8 g q1 F1) r s) (F0 m 0 ls [])
  unfold f_X8_year at h
  refine lv_iload_n hx hb dX8_year_0 rfl (lv_at hl 1 rfl) ?_
  refine lv_i2l hx hb dX8_year_1 rfl ?_
  refine lv_lconst (v := (0 : Int64)) hx hb dX8_year_2 (by decide) ?_
  refine lv_ldc2 (v := (9999 : Int64)) hx hb hown (hts _ (List.mem_of_getElem? (i := 1) rfl)) dX8_year_3 ?_
  obtain ⟨v101, hc111, h⟩ := fx_b1_s h
  refine k_callSi0 (n := 3) (As := [.long (Int32.toInt64 x1), .long (0 : Int64), .long (9999 : Int64)]) (rest := []) (wc := ([] : va_W)) (bytes := cX8_in) (maxL := 6) (ret := (some .boolean)) hC hl.1 (c_X8_in l g N (Int32.toInt64 x1) (0 : Int64) (9999 : Int64) v101 hc111) rfl gX8_year_X8_in (by decide +kernel) ⟨Nat.le_of_ble_eq_true rfl, Nat.le_of_ble_eq_true rfl⟩ rfl rfl rfl (Nat.le_of_ble_eq_true rfl) ⟨Nat.le_of_ble_eq_true rfl, Nat.le_of_ble_eq_true rfl⟩ dX8_year_6 hP hD hS hA [] rfl (by decide +kernel) (fun H locs hP hD hS => ?_)
  refine k_if_eq (tgt := 36) hC dX8_year_9 (by decide) h (fun h => ?_) (fun h => ?_)
  · refine lv_bipush (v := (-2 : Int32)) hx hb dX8_year_36 (by decide) ?_
    obtain ⟨rfl, rfl⟩ := fx_i2 h
    exact Ci.ret hC hr hlk hA9 hP hD hS dX8_year_38
  · refine lv_iload_n hx hb dX8_year_12 rfl (lv_at hl 2 rfl) ?_
    refine lv_i2l hx hb dX8_year_13 rfl ?_
    refine lv_lconst (v := (1 : Int64)) hx hb dX8_year_14 (by decide) ?_
    refine lv_ldc2 (v := (99 : Int64)) hx hb hown (hts _ (List.mem_of_getElem? (i := 2) rfl)) dX8_year_15 ?_
    obtain ⟨v102, hc110, h⟩ := fx_b1_s h
    refine k_callSi0 (n := 3) (As := [.long (Int32.toInt64 x2), .long (1 : Int64), .long (99 : Int64)]) (rest := []) (wc := ([] : va_W)) (bytes := cX8_in) (maxL := 6) (ret := (some .boolean)) hC hl.1 (c_X8_in l g N (Int32.toInt64 x2) (1 : Int64) (99 : Int64) v102 hc110) rfl gX8_year_X8_in (by decide +kernel) ⟨Nat.le_of_ble_eq_true rfl, Nat.le_of_ble_eq_true rfl⟩ rfl rfl rfl (Nat.le_of_ble_eq_true rfl) ⟨Nat.le_of_ble_eq_true rfl, Nat.le_of_ble_eq_true rfl⟩ dX8_year_18 hP hD hS hA [] rfl (by decide +kernel) (fun H locs hP hD hS => ?_)
    refine k_if_eq (tgt := 36) hC dX8_year_21 (by decide) h (fun h => ?_) (fun h => ?_)
    · refine lv_bipush (v := (-2 : Int32)) hx hb dX8_year_36 (by decide) ?_
      obtain ⟨rfl, rfl⟩ := fx_i2 h
      exact Ci.ret hC hr hlk hA9 hP hD hS dX8_year_38
    · refine lv_iload_n hx hb dX8_year_24 rfl (lv_at hl 3 rfl) ?_
      refine lv_i2l hx hb dX8_year_25 rfl ?_
      refine lv_lconst (v := (0 : Int64)) hx hb dX8_year_26 (by decide) ?_
      refine lv_ldc2 (v := (3 : Int64)) hx hb hown (hts _ (List.mem_of_getElem? (i := 3) rfl)) dX8_year_27 ?_
      obtain ⟨v103, hc109, h⟩ := fx_b1_s h
      refine k_callSi0 (n := 3) (As := [.long (Int32.toInt64 x3), .long (0 : Int64), .long (3 : Int64)]) (rest := []) (wc := ([] : va_W)) (bytes := cX8_in) (maxL := 6) (ret := (some .boolean)) hC hl.1 (c_X8_in l g N (Int32.toInt64 x3) (0 : Int64) (3 : Int64) v103 hc109) rfl gX8_year_X8_in (by decide +kernel) ⟨Nat.le_of_ble_eq_true rfl, Nat.le_of_ble_eq_true rfl⟩ rfl rfl rfl (Nat.le_of_ble_eq_true rfl) ⟨Nat.le_of_ble_eq_true rfl, Nat.le_of_ble_eq_true rfl⟩ dX8_year_30 hP hD hS hA [] rfl (by decide +kernel) (fun H locs hP hD hS => ?_)
      refine k_if_ne (tgt := 39) hC dX8_year_33 (by decide) h (fun h => ?_) (fun h => ?_)
      · refine lv_iconst (v := (0 : Int32)) hx hb dX8_year_39 (by decide) ?_
        refine lv_istore (lv' := [(4, .int (0 : Int32)), (0, .ref (q1 100)), (1, .int x1), (2, .int x2), (3, .int x3)]) hx hb dX8_year_40 hl (by decide) rfl (fun ls hl => ?_)
        obtain ⟨S104, ho105, h⟩ := fx_b1_s h
        refine lw_X8_year_42 hC hA N q1 x1 x2 x3 N (0 : Int32) S1  S104 ho105 _ _ _ hP hD hS (lv_sub hl [1, 2, 3, 4, 0] rfl) ?_
        · intro y0 he H locs ls hP hD hS hl
          obtain rfl := he
          refine lv_iload_n hx hb dX8_year_62 rfl (lv_at hl 1 rfl) ?_
          refine lv_istore (lv' := [(4, .int x1), (0, .ref (q1 100)), (1, .int x1), (2, .int x2), (3, .int x3)]) hx hb dX8_year_63 hl (by decide) rfl (fun ls hl => ?_)
          refine lv_iconst (v := (0 : Int32)) hx hb dX8_year_65 (by decide) ?_
          refine lv_istore (lv' := [(5, .int (0 : Int32)), (4, .int x1), (0, .ref (q1 100)), (1, .int x1), (2, .int x2), (3, .int x3)]) hx hb dX8_year_66 hl (by decide) rfl (fun ls hl => ?_)
          obtain ⟨S106, ho107, h⟩ := fx_b1_s h
          refine lw_X8_year_68 hC hA N q1 x2 x3 N x1 (0 : Int32) S104  S106 ho107 _ _ _ hP hD hS (lv_sub hl [2, 4, 5, 1, 0] rfl) ?_
          · intro y0 he H locs ls hP hD hS hl
            obtain rfl := he
            refine lv_aload_n hx hb dX8_year_184 rfl (lv_at hl 0 rfl) ?_
            refine k_get (ci := 8) (k := 41) (q0 := 0) (v := .ref (q1 41)) (C := RX8) (T := TX8) (N := 46) hC uX8_year_X8 hP rfl rfl (by decide) (List.mem_of_getElem? (i := 4) rfl) rfl dX8_year_185 ?_
            refine lv_iload_n hx hb dX8_year_188 rfl (lv_at hl 1 rfl) ?_
            refine k_ald (q0 := 21) (n := 4) (F := S106.2 41) hC hP rfl dX8_year_189 h (fun v108 h => ?_)
            obtain ⟨rfl, rfl⟩ := fx_i2 h
            exact Ci.ret hC hr hlk hA9 hP hD hS dX8_year_190
      · refine lv_bipush (v := (-2 : Int32)) hx hb dX8_year_36 (by decide) ?_
        obtain ⟨rfl, rfl⟩ := fx_i2 h
        exact Ci.ret hC hr hlk hA9 hP hD hS dX8_year_38
theorem uX8_pass_X8 : ∀ w ∈ u_ws RX8 TX8 46, w ∈ wsX8_pass := fun w h => List.mem_cons_of_mem _ (List.mem_append_right _ h)
abbrev RM_X8_pass : Room := { frames := 0, cells := 0, slots := 0, locals := 0 }
def f_X8_pass (N : Nat) (S1 : St) (x1 : Int32) : Option (Int32 × St) :=
  fx_b1 ((if (S1.1 45) = 0 then (
  fx_ald 240 (S1.2 42) (S1.1 44) (fun v106 =>
    some v106)) else (
  some x1)) : Option (Int32)) (fun v101 =>
  fx_ast 240 S1 42 (S1.1 44) v101 (fun S103 =>
    fx_lt (stI S103 44 ((S103.1 44) + (1 : Int32))) (fun S104 =>
    some (v101, S104))))
set_option maxRecDepth 100000 in
set_option maxHeartbeats 4000000 in
theorem c_X8_pass (l : Launch) (g : GG) (N : Nat) (q1 : Nat → Nat) (S1 : St) (x1 : Int32) (r : Int32) (F1 : St) (h : f_X8_pass N S1 x1 = some (r, F1)) : Ci l yX8_pass wsX8_pass RM_X8_pass g [.ref (q1 100), .int x1] (wX8 g q1 S1) (wX8 g q1 F1) r := by
  intro sz
  refine Met.ofC (cc := cX8_pass) (maxL := 3) (ret := (some .int)) (by decide) rfl (Nat.le_of_ble_eq_true rfl) ?_
  intro p e s m below meth c hC hr hlk hsz A hA9 hA hP hD hS ls hl
  subst hsz
  have hC : Cx p s m ([.ref (q1 100), .int x1] : List Value).toArray c RX8 cX8_pass 3 wsX8_pass g := hC
  have hx := hC.1.1
  have hb := hC.1.2.1
  have hml := hC.1.2.2.1
  have hown := hC.1.2.2.2.1
  have hts := hC.1.2.2.2.2
  have hl : lv_has ls 3 [(0, .ref (q1 100)), (1, .int x1)] := hl
  show W p l e RM_X8_pass s m ([.ref (q1 100), .int x1] : List Value).toArray below meth c s.heap [] 0 0 (Qi below g [.ref (q1 100), .int x1] (wX8 g q1 S1) (wX8 g q1 F1) r s) (F0 m 0 ls [])
  unfold f_X8_pass at h
  refine lv_aload_n hx hb dX8_pass_0 rfl (lv_at hl 0 rfl) ?_
  refine k_get (ci := 8) (k := 45) (q0 := 0) (v := .int (S1.1 45)) (C := RX8) (T := TX8) (N := 46) hC uX8_pass_X8 hP rfl rfl (by decide) (List.mem_of_getElem? (i := 1) rfl) rfl dX8_pass_1 ?_
  obtain ⟨v101, hv102, h⟩ := fx_b1_s h
  have K105 : ∀ (H : Heap) (locs : List Loc) (ls : Array Slot), va_P g.1 vwCl (wX8 g q1 S1) H → va_D A (wX8 g q1 S1) → va_S A s.heap H locs → lv_has ls 3 [(0, .ref (q1 100))] → W p l e RM_X8_pass s m ([.ref (q1 100), .int x1] : List Value).toArray below meth c H locs 0 0 (Qi below g [.ref (q1 100), .int x1] (wX8 g q1 S1) (wX8 g q1 F1) r s) (F0 m 20 ls [.int v101]) := by
    intro H locs ls hP hD hS hl
    refine lv_istore_n (lv' := [(2, .int v101), (0, .ref (q1 100))]) hx hb dX8_pass_20 rfl hl (by decide) rfl (fun ls hl => ?_)
    refine lv_aload_n hx hb dX8_pass_21 rfl (lv_at hl 1 rfl) ?_
    refine k_get (ci := 8) (k := 42) (q0 := 0) (v := .ref (q1 42)) (C := RX8) (T := TX8) (N := 46) hC uX8_pass_X8 hP rfl rfl (by decide) (List.mem_of_getElem? (i := 2) rfl) rfl dX8_pass_22 ?_
    refine lv_aload_n hx hb dX8_pass_25 rfl (lv_at hl 1 rfl) ?_
    refine k_get (ci := 8) (k := 44) (q0 := 0) (v := .int (S1.1 44)) (C := RX8) (T := TX8) (N := 46) hC uX8_pass_X8 hP rfl rfl (by decide) (List.mem_of_getElem? (i := 3) rfl) rfl dX8_pass_26 ?_
    refine lv_iload_n hx hb dX8_pass_29 rfl (lv_at hl 0 rfl) ?_
    refine k_ast (q0 := 22) (n := 240) (k := 42) (S := S1) (fun S => (wX8 g q1 S)) hC hP hD hS rfl (fun _ => rfl) dX8_pass_30 h (fun S103 h H locs hP hD hS => ?_)
    refine lv_aload_n hx hb dX8_pass_31 rfl (lv_at hl 1 rfl) ?_
    refine lv_dup hx hb dX8_pass_32 rfl ?_
    refine k_get (ci := 8) (k := 44) (q0 := 0) (v := .int (S103.1 44)) (C := RX8) (T := TX8) (N := 46) hC uX8_pass_X8 hP rfl rfl (by decide) (List.mem_of_getElem? (i := 3) rfl) rfl dX8_pass_33 ?_
    refine lv_iconst (v := (1 : Int32)) hx hb dX8_pass_36 (by decide) ?_
    refine lv_iadd hx hb dX8_pass_37 ?_
    refine k_put (ci := 8) (k := 44) (q0 := 0) (C := RX8) (T := TX8) (N := 46) (S2 := stI S103 44 ((S103.1 44) + (1 : Int32))) tyX8 (fun S => (wX8 g q1 S)) hC uX8_pass_X8 tyX8_ok nmX8 hP hD hS rfl rfl (by decide) (List.mem_of_getElem? (i := 3) rfl) rfl (tyX8_ok 44 (by decide)) (Nat.le_of_ble_eq_true rfl) dX8_pass_38 rfl h (fun S104 h H locs hP hD hS => ?_)
    refine lv_iload_n hx hb dX8_pass_41 rfl (lv_at hl 0 rfl) ?_
    obtain ⟨rfl, rfl⟩ := fx_i2 h
    exact Ci.ret hC hr hlk hA9 hP hD hS dX8_pass_42
  refine k_if_eq (tgt := 11) hC dX8_pass_4 (by decide) hv102 (fun hv102 => ?_) (fun hv102 => ?_)
  · refine lv_aload_n hx hb dX8_pass_11 rfl (lv_at hl 0 rfl) ?_
    refine k_get (ci := 8) (k := 42) (q0 := 0) (v := .ref (q1 42)) (C := RX8) (T := TX8) (N := 46) hC uX8_pass_X8 hP rfl rfl (by decide) (List.mem_of_getElem? (i := 2) rfl) rfl dX8_pass_12 ?_
    refine lv_aload_n hx hb dX8_pass_15 rfl (lv_at hl 0 rfl) ?_
    refine k_get (ci := 8) (k := 44) (q0 := 0) (v := .int (S1.1 44)) (C := RX8) (T := TX8) (N := 46) hC uX8_pass_X8 hP rfl rfl (by decide) (List.mem_of_getElem? (i := 3) rfl) rfl dX8_pass_16 ?_
    refine k_ald (q0 := 22) (n := 240) (F := S1.2 42) hC hP rfl dX8_pass_19 hv102 (fun v106 hv102 => ?_)
    obtain rfl := fx_i1 hv102
    exact K105 _ _ _ hP hD hS (lv_sub hl [0] rfl)
  · refine lv_iload_n hx hb dX8_pass_7 rfl (lv_at hl 1 rfl) ?_
    refine lv_goto (tgt := 20) hx hb dX8_pass_8 (by decide) ?_
    obtain rfl := fx_i1 hv102
    exact K105 _ _ _ hP hD hS (lv_sub hl [0] rfl)
theorem uX8_passAll_X8 : ∀ w ∈ u_ws RX8 TX8 46, w ∈ wsX8_passAll := fun w h => List.mem_cons_of_mem _ (List.mem_append_right _ h)
abbrev RM_X8_passAll : Room := { frames := 1, cells := 0, slots := 0, locals := 22 }
def bd_X8_passAll_98 (N : Nat) (x1 : Int32) (S1 : St) (rec : (Int32 × St) → Option (St)) : Option (St) :=
  (if (6 : Int32) ≤ x1 then (
    some S1) else (
    fx_ald 6 (S1.2 6) x1 (fun v101 =>
      fx_b2 (f_X8_pass N S1 v101) (fun v102 S103 =>
      fx_ast 6 S103 6 x1 v102 (fun S104 =>
      fx_ald 6 (S104.2 8) x1 (fun v105 =>
      fx_b2 (f_X8_pass N S104 v105) (fun v106 S107 =>
      fx_ast 6 S107 8 x1 v106 (fun S108 =>
      fx_ald 6 (S108.2 9) x1 (fun v109 =>
      fx_b2 (f_X8_pass N S108 v109) (fun v110 S111 =>
      fx_ast 6 S111 9 x1 v110 (fun S112 =>
      fx_ald 6 (S112.2 10) x1 (fun v113 =>
      fx_b2 (f_X8_pass N S112 v113) (fun v114 S115 =>
      fx_ast 6 S115 10 x1 v114 (fun S116 =>
      fx_ald 6 (S116.2 11) x1 (fun v117 =>
      fx_b2 (f_X8_pass N S116 v117) (fun v118 S119 =>
      fx_ast 6 S119 11 x1 v118 (fun S120 =>
      fx_ald 6 (S120.2 16) x1 (fun v121 =>
      fx_b2 (f_X8_pass N S120 v121) (fun v122 S123 =>
      fx_ast 6 S123 16 x1 v122 (fun S124 =>
      fx_lt (x1 + (1 : Int32)) (fun x125 =>
      rec (x125, S124))))))))))))))))))))))
def lf_X8_passAll_98 (N : Nat) : (Int32 × St) → ((Int32 × St) → Option (St)) → Option (St) := fun x rec => bd_X8_passAll_98 N x.1 x.2 rec
set_option maxRecDepth 100000 in
set_option maxHeartbeats 4000000 in
theorem lw_X8_passAll_98 {p : Program} {l : Launch} {e : Env} {s : State} {m : MethodId} {args : Array Value} {below : List Frame} {meth : Method} {c : Code} {Q : State → Prop} {A : Nat → Prop} {H0 : Heap} {g : GG} (hC : Cx p s m args c RX8 cX8_passAll 2 wsX8_passAll g) (hA : ∀ q : Nat, H0.size ≤ q → A q) (N : Nat) (q1 : Nat → Nat) : ∀ (n : Nat) (x1 : Int32) (S1 : St) (o : St), fx_it (lf_X8_passAll_98 N) n (x1, S1) = some o → ∀ (H : Heap) (locs : List Loc) (ls : Array Slot), va_P g.1 vwCl (wX8 g q1 S1) H → va_D A (wX8 g q1 S1) → va_S A H0 H locs → lv_has ls 2 [(0, .ref (q1 100)), (1, .int x1)] → (∀ (Z0 : St), o = Z0 → ∀ (H : Heap) (locs : List Loc) (ls : Array Slot), va_P g.1 vwCl (wX8 g q1 Z0) H → va_D A (wX8 g q1 Z0) → va_S A H0 H locs → lv_has ls 2 [(0, .ref (q1 100))] → W p l e RM_X8_passAll s m args below meth c H locs 0 0 Q (F0 m 206 ls [])) → W p l e RM_X8_passAll s m args below meth c H locs 0 0 Q (F0 m 98 ls []) := by
  have hx := hC.1.1
  have hb := hC.1.2.1
  have hml := hC.1.2.2.1
  have hown := hC.1.2.2.2.1
  have hts := hC.1.2.2.2.2
  intro n
  induction n with
  | zero => intro x1 S1 o h; cases h
  | succ n ih =>
    intro x1 S1 o h H locs ls hP hD hS hl k0
    have h : bd_X8_passAll_98 N x1 S1 (fx_it (lf_X8_passAll_98 N) n) = some o := h
    unfold bd_X8_passAll_98 at h
    refine lv_iload_n hx hb dX8_passAll_98 rfl (lv_at hl 1 rfl) ?_
    refine lv_bipush (v := (6 : Int32)) hx hb dX8_passAll_99 (by decide) ?_
    refine k_icmp_ge (tgt := 206) hC dX8_passAll_101 (by decide) h (fun h => ?_) (fun h => ?_)
    · exact k0 S1 (Option.some.inj h).symm _ _ _ hP hD hS (lv_sub hl [0] rfl)
    · refine lv_aload_n hx hb dX8_passAll_104 rfl (lv_at hl 0 rfl) ?_
      refine k_get (ci := 8) (k := 6) (q0 := 0) (v := .ref (q1 6)) (C := RX8) (T := TX8) (N := 46) hC uX8_passAll_X8 hP rfl rfl (by decide) (List.mem_of_getElem? (i := 9) rfl) rfl dX8_passAll_105 ?_
      refine lv_iload_n hx hb dX8_passAll_108 rfl (lv_at hl 1 rfl) ?_
      refine lv_aload_n hx hb dX8_passAll_109 rfl (lv_at hl 0 rfl) ?_
      refine lv_aload_n hx hb dX8_passAll_110 rfl (lv_at hl 0 rfl) ?_
      refine k_get (ci := 8) (k := 6) (q0 := 0) (v := .ref (q1 6)) (C := RX8) (T := TX8) (N := 46) hC uX8_passAll_X8 hP rfl rfl (by decide) (List.mem_of_getElem? (i := 9) rfl) rfl dX8_passAll_111 ?_
      refine lv_iload_n hx hb dX8_passAll_114 rfl (lv_at hl 1 rfl) ?_
      refine k_ald (q0 := 1) (n := 6) (F := S1.2 6) hC hP rfl dX8_passAll_115 h (fun v101 h => ?_)
      obtain ⟨v102, S103, hc131, h⟩ := fx_b2_s h
      refine k_callVi (C := RX8) (ci := 8) (qr := 0) (n := 1) (As := [.int v101]) (rest := [.int x1, .ref (q1 6)]) (wc := (wX8 g q1 S1)) (w1 := (wX8 g q1 S103)) (ws2 := (wX8 g q1 S103)) (bytes := cX8_pass) (maxL := 3) (ret := (some .int)) hC hl.1 (c_X8_pass l g N q1 S1 v101 v102 S103 hc131) rfl gX8_passAll_X8_pass (by decide +kernel) rfl rfl ⟨Nat.le_of_ble_eq_true rfl, Nat.le_of_ble_eq_true rfl⟩ rfl rfl rfl (Nat.le_of_ble_eq_true rfl) ⟨Nat.le_of_ble_eq_true rfl, Nat.le_of_ble_eq_true rfl⟩ dX8_passAll_116 hP hD hS hA [0, 1, 2, 3, 4, 5, 6, 7, 8, 9, 10, 11, 12, 13, 14, 15, 16, 17, 18, 19, 20, 21, 22, 23] rfl (by decide +kernel) [q1 100, q1 6, q1 8, q1 9, q1 10, q1 11, q1 12, q1 13, q1 14, q1 15, q1 16, q1 18, q1 20, q1 21, q1 23, q1 27, q1 30, q1 32, q1 33, q1 34, q1 39, q1 41, q1 42, q1 43] rfl rfl rfl [] ([] : va_W) rfl rfl (n2 := 24) rfl (by decide +kernel) (fun H locs hP hD hS => ?_)
      refine k_ast (q0 := 1) (n := 6) (k := 6) (S := S103) (fun S => (wX8 g q1 S)) hC hP hD hS rfl (fun _ => rfl) dX8_passAll_119 h (fun S104 h H locs hP hD hS => ?_)
      refine lv_aload_n hx hb dX8_passAll_120 rfl (lv_at hl 0 rfl) ?_
      refine k_get (ci := 8) (k := 8) (q0 := 0) (v := .ref (q1 8)) (C := RX8) (T := TX8) (N := 46) hC uX8_passAll_X8 hP rfl rfl (by decide) (List.mem_of_getElem? (i := 10) rfl) rfl dX8_passAll_121 ?_
      refine lv_iload_n hx hb dX8_passAll_124 rfl (lv_at hl 1 rfl) ?_
      refine lv_aload_n hx hb dX8_passAll_125 rfl (lv_at hl 0 rfl) ?_
      refine lv_aload_n hx hb dX8_passAll_126 rfl (lv_at hl 0 rfl) ?_
      refine k_get (ci := 8) (k := 8) (q0 := 0) (v := .ref (q1 8)) (C := RX8) (T := TX8) (N := 46) hC uX8_passAll_X8 hP rfl rfl (by decide) (List.mem_of_getElem? (i := 10) rfl) rfl dX8_passAll_127 ?_
      refine lv_iload_n hx hb dX8_passAll_130 rfl (lv_at hl 1 rfl) ?_
      refine k_ald (q0 := 2) (n := 6) (F := S104.2 8) hC hP rfl dX8_passAll_131 h (fun v105 h => ?_)
      obtain ⟨v106, S107, hc130, h⟩ := fx_b2_s h
      refine k_callVi (C := RX8) (ci := 8) (qr := 0) (n := 1) (As := [.int v105]) (rest := [.int x1, .ref (q1 8)]) (wc := (wX8 g q1 S104)) (w1 := (wX8 g q1 S107)) (ws2 := (wX8 g q1 S107)) (bytes := cX8_pass) (maxL := 3) (ret := (some .int)) hC hl.1 (c_X8_pass l g N q1 S104 v105 v106 S107 hc130) rfl gX8_passAll_X8_pass (by decide +kernel) rfl rfl ⟨Nat.le_of_ble_eq_true rfl, Nat.le_of_ble_eq_true rfl⟩ rfl rfl rfl (Nat.le_of_ble_eq_true rfl) ⟨Nat.le_of_ble_eq_true rfl, Nat.le_of_ble_eq_true rfl⟩ dX8_passAll_132 hP hD hS hA [0, 1, 2, 3, 4, 5, 6, 7, 8, 9, 10, 11, 12, 13, 14, 15, 16, 17, 18, 19, 20, 21, 22, 23] rfl (by decide +kernel) [q1 100, q1 6, q1 8, q1 9, q1 10, q1 11, q1 12, q1 13, q1 14, q1 15, q1 16, q1 18, q1 20, q1 21, q1 23, q1 27, q1 30, q1 32, q1 33, q1 34, q1 39, q1 41, q1 42, q1 43] rfl rfl rfl [] ([] : va_W) rfl rfl (n2 := 24) rfl (by decide +kernel) (fun H locs hP hD hS => ?_)
      refine k_ast (q0 := 2) (n := 6) (k := 8) (S := S107) (fun S => (wX8 g q1 S)) hC hP hD hS rfl (fun _ => rfl) dX8_passAll_135 h (fun S108 h H locs hP hD hS => ?_)
      refine lv_aload_n hx hb dX8_passAll_136 rfl (lv_at hl 0 rfl) ?_
      refine k_get (ci := 8) (k := 9) (q0 := 0) (v := .ref (q1 9)) (C := RX8) (T := TX8) (N := 46) hC uX8_passAll_X8 hP rfl rfl (by decide) (List.mem_of_getElem? (i := 11) rfl) rfl dX8_passAll_137 ?_
      refine lv_iload_n hx hb dX8_passAll_140 rfl (lv_at hl 1 rfl) ?_
      refine lv_aload_n hx hb dX8_passAll_141 rfl (lv_at hl 0 rfl) ?_
      refine lv_aload_n hx hb dX8_passAll_142 rfl (lv_at hl 0 rfl) ?_
      refine k_get (ci := 8) (k := 9) (q0 := 0) (v := .ref (q1 9)) (C := RX8) (T := TX8) (N := 46) hC uX8_passAll_X8 hP rfl rfl (by decide) (List.mem_of_getElem? (i := 11) rfl) rfl dX8_passAll_143 ?_
      refine lv_iload_n hx hb dX8_passAll_146 rfl (lv_at hl 1 rfl) ?_
      refine k_ald (q0 := 3) (n := 6) (F := S108.2 9) hC hP rfl dX8_passAll_147 h (fun v109 h => ?_)
      obtain ⟨v110, S111, hc129, h⟩ := fx_b2_s h
      refine k_callVi (C := RX8) (ci := 8) (qr := 0) (n := 1) (As := [.int v109]) (rest := [.int x1, .ref (q1 9)]) (wc := (wX8 g q1 S108)) (w1 := (wX8 g q1 S111)) (ws2 := (wX8 g q1 S111)) (bytes := cX8_pass) (maxL := 3) (ret := (some .int)) hC hl.1 (c_X8_pass l g N q1 S108 v109 v110 S111 hc129) rfl gX8_passAll_X8_pass (by decide +kernel) rfl rfl ⟨Nat.le_of_ble_eq_true rfl, Nat.le_of_ble_eq_true rfl⟩ rfl rfl rfl (Nat.le_of_ble_eq_true rfl) ⟨Nat.le_of_ble_eq_true rfl, Nat.le_of_ble_eq_true rfl⟩ dX8_passAll_148 hP hD hS hA [0, 1, 2, 3, 4, 5, 6, 7, 8, 9, 10, 11, 12, 13, 14, 15, 16, 17, 18, 19, 20, 21, 22, 23] rfl (by decide +kernel) [q1 100, q1 6, q1 8, q1 9, q1 10, q1 11, q1 12, q1 13, q1 14, q1 15, q1 16, q1 18, q1 20, q1 21, q1 23, q1 27, q1 30, q1 32, q1 33, q1 34, q1 39, q1 41, q1 42, q1 43] rfl rfl rfl [] ([] : va_W) rfl rfl (n2 := 24) rfl (by decide +kernel) (fun H locs hP hD hS => ?_)
      refine k_ast (q0 := 3) (n := 6) (k := 9) (S := S111) (fun S => (wX8 g q1 S)) hC hP hD hS rfl (fun _ => rfl) dX8_passAll_151 h (fun S112 h H locs hP hD hS => ?_)
      refine lv_aload_n hx hb dX8_passAll_152 rfl (lv_at hl 0 rfl) ?_
      refine k_get (ci := 8) (k := 10) (q0 := 0) (v := .ref (q1 10)) (C := RX8) (T := TX8) (N := 46) hC uX8_passAll_X8 hP rfl rfl (by decide) (List.mem_of_getElem? (i := 12) rfl) rfl dX8_passAll_153 ?_
      refine lv_iload_n hx hb dX8_passAll_156 rfl (lv_at hl 1 rfl) ?_
      refine lv_aload_n hx hb dX8_passAll_157 rfl (lv_at hl 0 rfl) ?_
      refine lv_aload_n hx hb dX8_passAll_158 rfl (lv_at hl 0 rfl) ?_
      refine k_get (ci := 8) (k := 10) (q0 := 0) (v := .ref (q1 10)) (C := RX8) (T := TX8) (N := 46) hC uX8_passAll_X8 hP rfl rfl (by decide) (List.mem_of_getElem? (i := 12) rfl) rfl dX8_passAll_159 ?_
      refine lv_iload_n hx hb dX8_passAll_162 rfl (lv_at hl 1 rfl) ?_
      refine k_ald (q0 := 4) (n := 6) (F := S112.2 10) hC hP rfl dX8_passAll_163 h (fun v113 h => ?_)
      obtain ⟨v114, S115, hc128, h⟩ := fx_b2_s h
      refine k_callVi (C := RX8) (ci := 8) (qr := 0) (n := 1) (As := [.int v113]) (rest := [.int x1, .ref (q1 10)]) (wc := (wX8 g q1 S112)) (w1 := (wX8 g q1 S115)) (ws2 := (wX8 g q1 S115)) (bytes := cX8_pass) (maxL := 3) (ret := (some .int)) hC hl.1 (c_X8_pass l g N q1 S112 v113 v114 S115 hc128) rfl gX8_passAll_X8_pass (by decide +kernel) rfl rfl ⟨Nat.le_of_ble_eq_true rfl, Nat.le_of_ble_eq_true rfl⟩ rfl rfl rfl (Nat.le_of_ble_eq_true rfl) ⟨Nat.le_of_ble_eq_true rfl, Nat.le_of_ble_eq_true rfl⟩ dX8_passAll_164 hP hD hS hA [0, 1, 2, 3, 4, 5, 6, 7, 8, 9, 10, 11, 12, 13, 14, 15, 16, 17, 18, 19, 20, 21, 22, 23] rfl (by decide +kernel) [q1 100, q1 6, q1 8, q1 9, q1 10, q1 11, q1 12, q1 13, q1 14, q1 15, q1 16, q1 18, q1 20, q1 21, q1 23, q1 27, q1 30, q1 32, q1 33, q1 34, q1 39, q1 41, q1 42, q1 43] rfl rfl rfl [] ([] : va_W) rfl rfl (n2 := 24) rfl (by decide +kernel) (fun H locs hP hD hS => ?_)
      refine k_ast (q0 := 4) (n := 6) (k := 10) (S := S115) (fun S => (wX8 g q1 S)) hC hP hD hS rfl (fun _ => rfl) dX8_passAll_167 h (fun S116 h H locs hP hD hS => ?_)
      refine lv_aload_n hx hb dX8_passAll_168 rfl (lv_at hl 0 rfl) ?_
      refine k_get (ci := 8) (k := 11) (q0 := 0) (v := .ref (q1 11)) (C := RX8) (T := TX8) (N := 46) hC uX8_passAll_X8 hP rfl rfl (by decide) (List.mem_of_getElem? (i := 13) rfl) rfl dX8_passAll_169 ?_
      refine lv_iload_n hx hb dX8_passAll_172 rfl (lv_at hl 1 rfl) ?_
      refine lv_aload_n hx hb dX8_passAll_173 rfl (lv_at hl 0 rfl) ?_
      refine lv_aload_n hx hb dX8_passAll_174 rfl (lv_at hl 0 rfl) ?_
      refine k_get (ci := 8) (k := 11) (q0 := 0) (v := .ref (q1 11)) (C := RX8) (T := TX8) (N := 46) hC uX8_passAll_X8 hP rfl rfl (by decide) (List.mem_of_getElem? (i := 13) rfl) rfl dX8_passAll_175 ?_
      refine lv_iload_n hx hb dX8_passAll_178 rfl (lv_at hl 1 rfl) ?_
      refine k_ald (q0 := 5) (n := 6) (F := S116.2 11) hC hP rfl dX8_passAll_179 h (fun v117 h => ?_)
      obtain ⟨v118, S119, hc127, h⟩ := fx_b2_s h
      refine k_callVi (C := RX8) (ci := 8) (qr := 0) (n := 1) (As := [.int v117]) (rest := [.int x1, .ref (q1 11)]) (wc := (wX8 g q1 S116)) (w1 := (wX8 g q1 S119)) (ws2 := (wX8 g q1 S119)) (bytes := cX8_pass) (maxL := 3) (ret := (some .int)) hC hl.1 (c_X8_pass l g N q1 S116 v117 v118 S119 hc127) rfl gX8_passAll_X8_pass (by decide +kernel) rfl rfl ⟨Nat.le_of_ble_eq_true rfl, Nat.le_of_ble_eq_true rfl⟩ rfl rfl rfl (Nat.le_of_ble_eq_true rfl) ⟨Nat.le_of_ble_eq_true rfl, Nat.le_of_ble_eq_true rfl⟩ dX8_passAll_180 hP hD hS hA [0, 1, 2, 3, 4, 5, 6, 7, 8, 9, 10, 11, 12, 13, 14, 15, 16, 17, 18, 19, 20, 21, 22, 23] rfl (by decide +kernel) [q1 100, q1 6, q1 8, q1 9, q1 10, q1 11, q1 12, q1 13, q1 14, q1 15, q1 16, q1 18, q1 20, q1 21, q1 23, q1 27, q1 30, q1 32, q1 33, q1 34, q1 39, q1 41, q1 42, q1 43] rfl rfl rfl [] ([] : va_W) rfl rfl (n2 := 24) rfl (by decide +kernel) (fun H locs hP hD hS => ?_)
      refine k_ast (q0 := 5) (n := 6) (k := 11) (S := S119) (fun S => (wX8 g q1 S)) hC hP hD hS rfl (fun _ => rfl) dX8_passAll_183 h (fun S120 h H locs hP hD hS => ?_)
      refine lv_aload_n hx hb dX8_passAll_184 rfl (lv_at hl 0 rfl) ?_
      refine k_get (ci := 8) (k := 16) (q0 := 0) (v := .ref (q1 16)) (C := RX8) (T := TX8) (N := 46) hC uX8_passAll_X8 hP rfl rfl (by decide) (List.mem_of_getElem? (i := 14) rfl) rfl dX8_passAll_185 ?_
      refine lv_iload_n hx hb dX8_passAll_188 rfl (lv_at hl 1 rfl) ?_
      refine lv_aload_n hx hb dX8_passAll_189 rfl (lv_at hl 0 rfl) ?_
      refine lv_aload_n hx hb dX8_passAll_190 rfl (lv_at hl 0 rfl) ?_
      refine k_get (ci := 8) (k := 16) (q0 := 0) (v := .ref (q1 16)) (C := RX8) (T := TX8) (N := 46) hC uX8_passAll_X8 hP rfl rfl (by decide) (List.mem_of_getElem? (i := 14) rfl) rfl dX8_passAll_191 ?_
      refine lv_iload_n hx hb dX8_passAll_194 rfl (lv_at hl 1 rfl) ?_
      refine k_ald (q0 := 10) (n := 6) (F := S120.2 16) hC hP rfl dX8_passAll_195 h (fun v121 h => ?_)
      obtain ⟨v122, S123, hc126, h⟩ := fx_b2_s h
      refine k_callVi (C := RX8) (ci := 8) (qr := 0) (n := 1) (As := [.int v121]) (rest := [.int x1, .ref (q1 16)]) (wc := (wX8 g q1 S120)) (w1 := (wX8 g q1 S123)) (ws2 := (wX8 g q1 S123)) (bytes := cX8_pass) (maxL := 3) (ret := (some .int)) hC hl.1 (c_X8_pass l g N q1 S120 v121 v122 S123 hc126) rfl gX8_passAll_X8_pass (by decide +kernel) rfl rfl ⟨Nat.le_of_ble_eq_true rfl, Nat.le_of_ble_eq_true rfl⟩ rfl rfl rfl (Nat.le_of_ble_eq_true rfl) ⟨Nat.le_of_ble_eq_true rfl, Nat.le_of_ble_eq_true rfl⟩ dX8_passAll_196 hP hD hS hA [0, 1, 2, 3, 4, 5, 6, 7, 8, 9, 10, 11, 12, 13, 14, 15, 16, 17, 18, 19, 20, 21, 22, 23] rfl (by decide +kernel) [q1 100, q1 6, q1 8, q1 9, q1 10, q1 11, q1 12, q1 13, q1 14, q1 15, q1 16, q1 18, q1 20, q1 21, q1 23, q1 27, q1 30, q1 32, q1 33, q1 34, q1 39, q1 41, q1 42, q1 43] rfl rfl rfl [] ([] : va_W) rfl rfl (n2 := 24) rfl (by decide +kernel) (fun H locs hP hD hS => ?_)
      refine k_ast (q0 := 10) (n := 6) (k := 16) (S := S123) (fun S => (wX8 g q1 S)) hC hP hD hS rfl (fun _ => rfl) dX8_passAll_199 h (fun S124 h H locs hP hD hS => ?_)
      refine k_iinc (v := (1 : Int32)) (lv' := fun X => [(1, .int X), (0, .ref (q1 100))]) hC dX8_passAll_200 hl (k := 1) rfl (by decide) (by decide) (fun _ => rfl) h (fun x125 h ls hl => ?_)
      refine lv_goto (tgt := 98) hx hb dX8_passAll_203 (by decide) ?_
      exact ih x125 S124 o h _ _ _ hP hD hS (lv_sub hl [1, 0] rfl) k0
def bd_X8_passAll_208 (N : Nat) (x1 : Int32) (S1 : St) (rec : (Int32 × St) → Option (St)) : Option (St) :=
  (if (4 : Int32) ≤ x1 then (
    some S1) else (
    fx_ald 4 (S1.2 12) x1 (fun v101 =>
      fx_b2 (f_X8_pass N S1 v101) (fun v102 S103 =>
      fx_ast 4 S103 12 x1 v102 (fun S104 =>
      fx_ald 4 (S104.2 15) x1 (fun v105 =>
      fx_b2 (f_X8_pass N S104 v105) (fun v106 S107 =>
      fx_ast 4 S107 15 x1 v106 (fun S108 =>
      fx_lt (x1 + (1 : Int32)) (fun x109 =>
      rec (x109, S108))))))))))
def lf_X8_passAll_208 (N : Nat) : (Int32 × St) → ((Int32 × St) → Option (St)) → Option (St) := fun x rec => bd_X8_passAll_208 N x.1 x.2 rec
set_option maxRecDepth 100000 in
set_option maxHeartbeats 4000000 in
theorem lw_X8_passAll_208 {p : Program} {l : Launch} {e : Env} {s : State} {m : MethodId} {args : Array Value} {below : List Frame} {meth : Method} {c : Code} {Q : State → Prop} {A : Nat → Prop} {H0 : Heap} {g : GG} (hC : Cx p s m args c RX8 cX8_passAll 2 wsX8_passAll g) (hA : ∀ q : Nat, H0.size ≤ q → A q) (N : Nat) (q1 : Nat → Nat) : ∀ (n : Nat) (x1 : Int32) (S1 : St) (o : St), fx_it (lf_X8_passAll_208 N) n (x1, S1) = some o → ∀ (H : Heap) (locs : List Loc) (ls : Array Slot), va_P g.1 vwCl (wX8 g q1 S1) H → va_D A (wX8 g q1 S1) → va_S A H0 H locs → lv_has ls 2 [(0, .ref (q1 100)), (1, .int x1)] → (∀ (Z0 : St), o = Z0 → ∀ (H : Heap) (locs : List Loc) (ls : Array Slot), va_P g.1 vwCl (wX8 g q1 Z0) H → va_D A (wX8 g q1 Z0) → va_S A H0 H locs → lv_has ls 2 [(0, .ref (q1 100))] → W p l e RM_X8_passAll s m args below meth c H locs 0 0 Q (F0 m 251 ls [])) → W p l e RM_X8_passAll s m args below meth c H locs 0 0 Q (F0 m 208 ls []) := by
  have hx := hC.1.1
  have hb := hC.1.2.1
  have hml := hC.1.2.2.1
  have hown := hC.1.2.2.2.1
  have hts := hC.1.2.2.2.2
  intro n
  induction n with
  | zero => intro x1 S1 o h; cases h
  | succ n ih =>
    intro x1 S1 o h H locs ls hP hD hS hl k0
    have h : bd_X8_passAll_208 N x1 S1 (fx_it (lf_X8_passAll_208 N) n) = some o := h
    unfold bd_X8_passAll_208 at h
    refine lv_iload_n hx hb dX8_passAll_208 rfl (lv_at hl 1 rfl) ?_
    refine lv_iconst (v := (4 : Int32)) hx hb dX8_passAll_209 (by decide) ?_
    refine k_icmp_ge (tgt := 251) hC dX8_passAll_210 (by decide) h (fun h => ?_) (fun h => ?_)
    · exact k0 S1 (Option.some.inj h).symm _ _ _ hP hD hS (lv_sub hl [0] rfl)
    · refine lv_aload_n hx hb dX8_passAll_213 rfl (lv_at hl 0 rfl) ?_
      refine k_get (ci := 8) (k := 12) (q0 := 0) (v := .ref (q1 12)) (C := RX8) (T := TX8) (N := 46) hC uX8_passAll_X8 hP rfl rfl (by decide) (List.mem_of_getElem? (i := 15) rfl) rfl dX8_passAll_214 ?_
      refine lv_iload_n hx hb dX8_passAll_217 rfl (lv_at hl 1 rfl) ?_
      refine lv_aload_n hx hb dX8_passAll_218 rfl (lv_at hl 0 rfl) ?_
      refine lv_aload_n hx hb dX8_passAll_219 rfl (lv_at hl 0 rfl) ?_
      refine k_get (ci := 8) (k := 12) (q0 := 0) (v := .ref (q1 12)) (C := RX8) (T := TX8) (N := 46) hC uX8_passAll_X8 hP rfl rfl (by decide) (List.mem_of_getElem? (i := 15) rfl) rfl dX8_passAll_220 ?_
      refine lv_iload_n hx hb dX8_passAll_223 rfl (lv_at hl 1 rfl) ?_
      refine k_ald (q0 := 6) (n := 4) (F := S1.2 12) hC hP rfl dX8_passAll_224 h (fun v101 h => ?_)
      obtain ⟨v102, S103, hc111, h⟩ := fx_b2_s h
      refine k_callVi (C := RX8) (ci := 8) (qr := 0) (n := 1) (As := [.int v101]) (rest := [.int x1, .ref (q1 12)]) (wc := (wX8 g q1 S1)) (w1 := (wX8 g q1 S103)) (ws2 := (wX8 g q1 S103)) (bytes := cX8_pass) (maxL := 3) (ret := (some .int)) hC hl.1 (c_X8_pass l g N q1 S1 v101 v102 S103 hc111) rfl gX8_passAll_X8_pass (by decide +kernel) rfl rfl ⟨Nat.le_of_ble_eq_true rfl, Nat.le_of_ble_eq_true rfl⟩ rfl rfl rfl (Nat.le_of_ble_eq_true rfl) ⟨Nat.le_of_ble_eq_true rfl, Nat.le_of_ble_eq_true rfl⟩ dX8_passAll_225 hP hD hS hA [0, 1, 2, 3, 4, 5, 6, 7, 8, 9, 10, 11, 12, 13, 14, 15, 16, 17, 18, 19, 20, 21, 22, 23] rfl (by decide +kernel) [q1 100, q1 6, q1 8, q1 9, q1 10, q1 11, q1 12, q1 13, q1 14, q1 15, q1 16, q1 18, q1 20, q1 21, q1 23, q1 27, q1 30, q1 32, q1 33, q1 34, q1 39, q1 41, q1 42, q1 43] rfl rfl rfl [] ([] : va_W) rfl rfl (n2 := 24) rfl (by decide +kernel) (fun H locs hP hD hS => ?_)
      refine k_ast (q0 := 6) (n := 4) (k := 12) (S := S103) (fun S => (wX8 g q1 S)) hC hP hD hS rfl (fun _ => rfl) dX8_passAll_228 h (fun S104 h H locs hP hD hS => ?_)
      refine lv_aload_n hx hb dX8_passAll_229 rfl (lv_at hl 0 rfl) ?_
      refine k_get (ci := 8) (k := 15) (q0 := 0) (v := .ref (q1 15)) (C := RX8) (T := TX8) (N := 46) hC uX8_passAll_X8 hP rfl rfl (by decide) (List.mem_of_getElem? (i := 16) rfl) rfl dX8_passAll_230 ?_
      refine lv_iload_n hx hb dX8_passAll_233 rfl (lv_at hl 1 rfl) ?_
      refine lv_aload_n hx hb dX8_passAll_234 rfl (lv_at hl 0 rfl) ?_
      refine lv_aload_n hx hb dX8_passAll_235 rfl (lv_at hl 0 rfl) ?_
      refine k_get (ci := 8) (k := 15) (q0 := 0) (v := .ref (q1 15)) (C := RX8) (T := TX8) (N := 46) hC uX8_passAll_X8 hP rfl rfl (by decide) (List.mem_of_getElem? (i := 16) rfl) rfl dX8_passAll_236 ?_
      refine lv_iload_n hx hb dX8_passAll_239 rfl (lv_at hl 1 rfl) ?_
      refine k_ald (q0 := 9) (n := 4) (F := S104.2 15) hC hP rfl dX8_passAll_240 h (fun v105 h => ?_)
      obtain ⟨v106, S107, hc110, h⟩ := fx_b2_s h
      refine k_callVi (C := RX8) (ci := 8) (qr := 0) (n := 1) (As := [.int v105]) (rest := [.int x1, .ref (q1 15)]) (wc := (wX8 g q1 S104)) (w1 := (wX8 g q1 S107)) (ws2 := (wX8 g q1 S107)) (bytes := cX8_pass) (maxL := 3) (ret := (some .int)) hC hl.1 (c_X8_pass l g N q1 S104 v105 v106 S107 hc110) rfl gX8_passAll_X8_pass (by decide +kernel) rfl rfl ⟨Nat.le_of_ble_eq_true rfl, Nat.le_of_ble_eq_true rfl⟩ rfl rfl rfl (Nat.le_of_ble_eq_true rfl) ⟨Nat.le_of_ble_eq_true rfl, Nat.le_of_ble_eq_true rfl⟩ dX8_passAll_241 hP hD hS hA [0, 1, 2, 3, 4, 5, 6, 7, 8, 9, 10, 11, 12, 13, 14, 15, 16, 17, 18, 19, 20, 21, 22, 23] rfl (by decide +kernel) [q1 100, q1 6, q1 8, q1 9, q1 10, q1 11, q1 12, q1 13, q1 14, q1 15, q1 16, q1 18, q1 20, q1 21, q1 23, q1 27, q1 30, q1 32, q1 33, q1 34, q1 39, q1 41, q1 42, q1 43] rfl rfl rfl [] ([] : va_W) rfl rfl (n2 := 24) rfl (by decide +kernel) (fun H locs hP hD hS => ?_)
      refine k_ast (q0 := 9) (n := 4) (k := 15) (S := S107) (fun S => (wX8 g q1 S)) hC hP hD hS rfl (fun _ => rfl) dX8_passAll_244 h (fun S108 h H locs hP hD hS => ?_)
      refine k_iinc (v := (1 : Int32)) (lv' := fun X => [(1, .int X), (0, .ref (q1 100))]) hC dX8_passAll_245 hl (k := 1) rfl (by decide) (by decide) (fun _ => rfl) h (fun x109 h ls hl => ?_)
      refine lv_goto (tgt := 208) hx hb dX8_passAll_248 (by decide) ?_
      exact ih x109 S108 o h _ _ _ hP hD hS (lv_sub hl [1, 0] rfl) k0
def bd_X8_passAll_253 (N : Nat) (x1 : Int32) (S1 : St) (rec : (Int32 × St) → Option (St)) : Option (St) :=
  (if (24 : Int32) ≤ x1 then (
    some S1) else (
    fx_ald 24 (S1.2 13) x1 (fun v101 =>
      fx_b2 (f_X8_pass N S1 v101) (fun v102 S103 =>
      fx_ast 24 S103 13 x1 v102 (fun S104 =>
      fx_ald 24 (S104.2 14) x1 (fun v105 =>
      fx_b2 (f_X8_pass N S104 v105) (fun v106 S107 =>
      fx_ast 24 S107 14 x1 v106 (fun S108 =>
      fx_lt (x1 + (1 : Int32)) (fun x109 =>
      rec (x109, S108))))))))))
def lf_X8_passAll_253 (N : Nat) : (Int32 × St) → ((Int32 × St) → Option (St)) → Option (St) := fun x rec => bd_X8_passAll_253 N x.1 x.2 rec
set_option maxRecDepth 100000 in
set_option maxHeartbeats 4000000 in
theorem lw_X8_passAll_253 {p : Program} {l : Launch} {e : Env} {s : State} {m : MethodId} {args : Array Value} {below : List Frame} {meth : Method} {c : Code} {Q : State → Prop} {A : Nat → Prop} {H0 : Heap} {g : GG} (hC : Cx p s m args c RX8 cX8_passAll 2 wsX8_passAll g) (hA : ∀ q : Nat, H0.size ≤ q → A q) (N : Nat) (q1 : Nat → Nat) : ∀ (n : Nat) (x1 : Int32) (S1 : St) (o : St), fx_it (lf_X8_passAll_253 N) n (x1, S1) = some o → ∀ (H : Heap) (locs : List Loc) (ls : Array Slot), va_P g.1 vwCl (wX8 g q1 S1) H → va_D A (wX8 g q1 S1) → va_S A H0 H locs → lv_has ls 2 [(0, .ref (q1 100)), (1, .int x1)] → (∀ (Z0 : St), o = Z0 → ∀ (H : Heap) (locs : List Loc) (ls : Array Slot), va_P g.1 vwCl (wX8 g q1 Z0) H → va_D A (wX8 g q1 Z0) → va_S A H0 H locs → lv_has ls 2 [] → W p l e RM_X8_passAll s m args below meth c H locs 0 0 Q (F0 m 297 ls [])) → W p l e RM_X8_passAll s m args below meth c H locs 0 0 Q (F0 m 253 ls []) := by
  have hx := hC.1.1
  have hb := hC.1.2.1
  have hml := hC.1.2.2.1
  have hown := hC.1.2.2.2.1
  have hts := hC.1.2.2.2.2
  intro n
  induction n with
  | zero => intro x1 S1 o h; cases h
  | succ n ih =>
    intro x1 S1 o h H locs ls hP hD hS hl k0
    have h : bd_X8_passAll_253 N x1 S1 (fx_it (lf_X8_passAll_253 N) n) = some o := h
    unfold bd_X8_passAll_253 at h
    refine lv_iload_n hx hb dX8_passAll_253 rfl (lv_at hl 1 rfl) ?_
    refine lv_bipush (v := (24 : Int32)) hx hb dX8_passAll_254 (by decide) ?_
    refine k_icmp_ge (tgt := 297) hC dX8_passAll_256 (by decide) h (fun h => ?_) (fun h => ?_)
    · exact k0 S1 (Option.some.inj h).symm _ _ _ hP hD hS (lv_sub hl [] rfl)
    · refine lv_aload_n hx hb dX8_passAll_259 rfl (lv_at hl 0 rfl) ?_
      refine k_get (ci := 8) (k := 13) (q0 := 0) (v := .ref (q1 13)) (C := RX8) (T := TX8) (N := 46) hC uX8_passAll_X8 hP rfl rfl (by decide) (List.mem_of_getElem? (i := 17) rfl) rfl dX8_passAll_260 ?_
      refine lv_iload_n hx hb dX8_passAll_263 rfl (lv_at hl 1 rfl) ?_
      refine lv_aload_n hx hb dX8_passAll_264 rfl (lv_at hl 0 rfl) ?_
      refine lv_aload_n hx hb dX8_passAll_265 rfl (lv_at hl 0 rfl) ?_
      refine k_get (ci := 8) (k := 13) (q0 := 0) (v := .ref (q1 13)) (C := RX8) (T := TX8) (N := 46) hC uX8_passAll_X8 hP rfl rfl (by decide) (List.mem_of_getElem? (i := 17) rfl) rfl dX8_passAll_266 ?_
      refine lv_iload_n hx hb dX8_passAll_269 rfl (lv_at hl 1 rfl) ?_
      refine k_ald (q0 := 7) (n := 24) (F := S1.2 13) hC hP rfl dX8_passAll_270 h (fun v101 h => ?_)
      obtain ⟨v102, S103, hc111, h⟩ := fx_b2_s h
      refine k_callVi (C := RX8) (ci := 8) (qr := 0) (n := 1) (As := [.int v101]) (rest := [.int x1, .ref (q1 13)]) (wc := (wX8 g q1 S1)) (w1 := (wX8 g q1 S103)) (ws2 := (wX8 g q1 S103)) (bytes := cX8_pass) (maxL := 3) (ret := (some .int)) hC hl.1 (c_X8_pass l g N q1 S1 v101 v102 S103 hc111) rfl gX8_passAll_X8_pass (by decide +kernel) rfl rfl ⟨Nat.le_of_ble_eq_true rfl, Nat.le_of_ble_eq_true rfl⟩ rfl rfl rfl (Nat.le_of_ble_eq_true rfl) ⟨Nat.le_of_ble_eq_true rfl, Nat.le_of_ble_eq_true rfl⟩ dX8_passAll_271 hP hD hS hA [0, 1, 2, 3, 4, 5, 6, 7, 8, 9, 10, 11, 12, 13, 14, 15, 16, 17, 18, 19, 20, 21, 22, 23] rfl (by decide +kernel) [q1 100, q1 6, q1 8, q1 9, q1 10, q1 11, q1 12, q1 13, q1 14, q1 15, q1 16, q1 18, q1 20, q1 21, q1 23, q1 27, q1 30, q1 32, q1 33, q1 34, q1 39, q1 41, q1 42, q1 43] rfl rfl rfl [] ([] : va_W) rfl rfl (n2 := 24) rfl (by decide +kernel) (fun H locs hP hD hS => ?_)
      refine k_ast (q0 := 7) (n := 24) (k := 13) (S := S103) (fun S => (wX8 g q1 S)) hC hP hD hS rfl (fun _ => rfl) dX8_passAll_274 h (fun S104 h H locs hP hD hS => ?_)
      refine lv_aload_n hx hb dX8_passAll_275 rfl (lv_at hl 0 rfl) ?_
      refine k_get (ci := 8) (k := 14) (q0 := 0) (v := .ref (q1 14)) (C := RX8) (T := TX8) (N := 46) hC uX8_passAll_X8 hP rfl rfl (by decide) (List.mem_of_getElem? (i := 18) rfl) rfl dX8_passAll_276 ?_
      refine lv_iload_n hx hb dX8_passAll_279 rfl (lv_at hl 1 rfl) ?_
      refine lv_aload_n hx hb dX8_passAll_280 rfl (lv_at hl 0 rfl) ?_
      refine lv_aload_n hx hb dX8_passAll_281 rfl (lv_at hl 0 rfl) ?_
      refine k_get (ci := 8) (k := 14) (q0 := 0) (v := .ref (q1 14)) (C := RX8) (T := TX8) (N := 46) hC uX8_passAll_X8 hP rfl rfl (by decide) (List.mem_of_getElem? (i := 18) rfl) rfl dX8_passAll_282 ?_
      refine lv_iload_n hx hb dX8_passAll_285 rfl (lv_at hl 1 rfl) ?_
      refine k_ald (q0 := 8) (n := 24) (F := S104.2 14) hC hP rfl dX8_passAll_286 h (fun v105 h => ?_)
      obtain ⟨v106, S107, hc110, h⟩ := fx_b2_s h
      refine k_callVi (C := RX8) (ci := 8) (qr := 0) (n := 1) (As := [.int v105]) (rest := [.int x1, .ref (q1 14)]) (wc := (wX8 g q1 S104)) (w1 := (wX8 g q1 S107)) (ws2 := (wX8 g q1 S107)) (bytes := cX8_pass) (maxL := 3) (ret := (some .int)) hC hl.1 (c_X8_pass l g N q1 S104 v105 v106 S107 hc110) rfl gX8_passAll_X8_pass (by decide +kernel) rfl rfl ⟨Nat.le_of_ble_eq_true rfl, Nat.le_of_ble_eq_true rfl⟩ rfl rfl rfl (Nat.le_of_ble_eq_true rfl) ⟨Nat.le_of_ble_eq_true rfl, Nat.le_of_ble_eq_true rfl⟩ dX8_passAll_287 hP hD hS hA [0, 1, 2, 3, 4, 5, 6, 7, 8, 9, 10, 11, 12, 13, 14, 15, 16, 17, 18, 19, 20, 21, 22, 23] rfl (by decide +kernel) [q1 100, q1 6, q1 8, q1 9, q1 10, q1 11, q1 12, q1 13, q1 14, q1 15, q1 16, q1 18, q1 20, q1 21, q1 23, q1 27, q1 30, q1 32, q1 33, q1 34, q1 39, q1 41, q1 42, q1 43] rfl rfl rfl [] ([] : va_W) rfl rfl (n2 := 24) rfl (by decide +kernel) (fun H locs hP hD hS => ?_)
      refine k_ast (q0 := 8) (n := 24) (k := 14) (S := S107) (fun S => (wX8 g q1 S)) hC hP hD hS rfl (fun _ => rfl) dX8_passAll_290 h (fun S108 h H locs hP hD hS => ?_)
      refine k_iinc (v := (1 : Int32)) (lv' := fun X => [(1, .int X), (0, .ref (q1 100))]) hC dX8_passAll_291 hl (k := 1) rfl (by decide) (by decide) (fun _ => rfl) h (fun x109 h ls hl => ?_)
      refine lv_goto (tgt := 253) hx hb dX8_passAll_294 (by decide) ?_
      exact ih x109 S108 o h _ _ _ hP hD hS (lv_sub hl [1, 0] rfl) k0
def f_X8_passAll (N : Nat) (S1 : St) : Option (St) :=
  fx_b2 (f_X8_pass N S1 (S1.1 0)) (fun v101 S102 =>
  fx_lt (stI S102 0 v101) (fun S103 =>
  fx_b2 (f_X8_pass N S103 (S103.1 1)) (fun v104 S105 =>
  fx_lt (stI S105 1 v104) (fun S106 =>
  fx_b2 (f_X8_pass N S106 (S106.1 2)) (fun v107 S108 =>
  fx_lt (stI S108 2 v107) (fun S109 =>
  fx_b2 (f_X8_pass N S109 (S109.1 3)) (fun v110 S111 =>
  fx_lt (stI S111 3 v110) (fun S112 =>
  fx_b2 (f_X8_pass N S112 (S112.1 4)) (fun v113 S114 =>
  fx_lt (stI S114 4 v113) (fun S115 =>
  fx_b2 (f_X8_pass N S115 (S115.1 5)) (fun v116 S117 =>
  fx_lt (stI S117 5 v116) (fun S118 =>
  fx_b2 (f_X8_pass N S118 (S118.1 7)) (fun v119 S120 =>
  fx_lt (stI S120 7 v119) (fun S121 =>
  fx_b2 (f_X8_pass N S121 (S121.1 17)) (fun v122 S123 =>
  fx_lt (stI S123 17 v122) (fun S124 =>
  fx_b1 (fx_it (lf_X8_passAll_98 N) N ((0 : Int32), S124)) (fun S125 =>
  fx_b1 (fx_it (lf_X8_passAll_208 N) N ((0 : Int32), S125)) (fun S127 =>
    fx_b1 (fx_it (lf_X8_passAll_253 N) N ((0 : Int32), S127)) (fun S129 =>
      some S129)))))))))))))))))))
set_option maxRecDepth 100000 in
set_option maxHeartbeats 4000000 in
theorem c_X8_passAll (l : Launch) (g : GG) (N : Nat) (q1 : Nat → Nat) (S1 : St) (F1 : St) (h : f_X8_passAll N S1 = some F1) : Cv l yX8_passAll wsX8_passAll RM_X8_passAll g [.ref (q1 100)] (wX8 g q1 S1) (wX8 g q1 F1) := by
  intro sz
  refine Met.ofC (cc := cX8_passAll) (maxL := 2) (ret := none) (by decide) rfl (Nat.le_of_ble_eq_true rfl) ?_
  intro p e s m below meth c hC hr hlk hsz A hA9 hA hP hD hS ls hl
  subst hsz
  have hC : Cx p s m ([.ref (q1 100)] : List Value).toArray c RX8 cX8_passAll 2 wsX8_passAll g := hC
  have hx := hC.1.1
  have hb := hC.1.2.1
  have hml := hC.1.2.2.1
  have hown := hC.1.2.2.2.1
  have hts := hC.1.2.2.2.2
  have hl : lv_has ls 2 [(0, .ref (q1 100))] := hl
  show W p l e RM_X8_passAll s m ([.ref (q1 100)] : List Value).toArray below meth c s.heap [] 0 0 (Qv below g [.ref (q1 100)] (wX8 g q1 S1) (wX8 g q1 F1) s) (F0 m 0 ls [])
  unfold f_X8_passAll at h
  refine lv_aload_n hx hb dX8_passAll_0 rfl (lv_at hl 0 rfl) ?_
  refine lv_aload_n hx hb dX8_passAll_1 rfl (lv_at hl 0 rfl) ?_
  refine lv_aload_n hx hb dX8_passAll_2 rfl (lv_at hl 0 rfl) ?_
  refine k_get (ci := 8) (k := 0) (q0 := 0) (v := .int (S1.1 0)) (C := RX8) (T := TX8) (N := 46) hC uX8_passAll_X8 hP rfl rfl (by decide) (List.mem_of_getElem? (i := 1) rfl) rfl dX8_passAll_3 ?_
  obtain ⟨v101, S102, hc138, h⟩ := fx_b2_s h
  refine k_callVi (C := RX8) (ci := 8) (qr := 0) (n := 1) (As := [.int (S1.1 0)]) (rest := [.ref (q1 100)]) (wc := (wX8 g q1 S1)) (w1 := (wX8 g q1 S102)) (ws2 := (wX8 g q1 S102)) (bytes := cX8_pass) (maxL := 3) (ret := (some .int)) hC hl.1 (c_X8_pass l g N q1 S1 (S1.1 0) v101 S102 hc138) rfl gX8_passAll_X8_pass (by decide +kernel) rfl rfl ⟨Nat.le_of_ble_eq_true rfl, Nat.le_of_ble_eq_true rfl⟩ rfl rfl rfl (Nat.le_of_ble_eq_true rfl) ⟨Nat.le_of_ble_eq_true rfl, Nat.le_of_ble_eq_true rfl⟩ dX8_passAll_6 hP hD hS hA [0, 1, 2, 3, 4, 5, 6, 7, 8, 9, 10, 11, 12, 13, 14, 15, 16, 17, 18, 19, 20, 21, 22, 23] rfl (by decide +kernel) [q1 100, q1 6, q1 8, q1 9, q1 10, q1 11, q1 12, q1 13, q1 14, q1 15, q1 16, q1 18, q1 20, q1 21, q1 23, q1 27, q1 30, q1 32, q1 33, q1 34, q1 39, q1 41, q1 42, q1 43] rfl rfl rfl [] ([] : va_W) rfl rfl (n2 := 24) rfl (by decide +kernel) (fun H locs hP hD hS => ?_)
  refine k_put (ci := 8) (k := 0) (q0 := 0) (C := RX8) (T := TX8) (N := 46) (S2 := stI S102 0 v101) tyX8 (fun S => (wX8 g q1 S)) hC uX8_passAll_X8 tyX8_ok nmX8 hP hD hS rfl rfl (by decide) (List.mem_of_getElem? (i := 1) rfl) rfl (tyX8_ok 0 (by decide)) (Nat.le_of_ble_eq_true rfl) dX8_passAll_9 rfl h (fun S103 h H locs hP hD hS => ?_)
  refine lv_aload_n hx hb dX8_passAll_12 rfl (lv_at hl 0 rfl) ?_
  refine lv_aload_n hx hb dX8_passAll_13 rfl (lv_at hl 0 rfl) ?_
  refine lv_aload_n hx hb dX8_passAll_14 rfl (lv_at hl 0 rfl) ?_
  refine k_get (ci := 8) (k := 1) (q0 := 0) (v := .int (S103.1 1)) (C := RX8) (T := TX8) (N := 46) hC uX8_passAll_X8 hP rfl rfl (by decide) (List.mem_of_getElem? (i := 2) rfl) rfl dX8_passAll_15 ?_
  obtain ⟨v104, S105, hc137, h⟩ := fx_b2_s h
  refine k_callVi (C := RX8) (ci := 8) (qr := 0) (n := 1) (As := [.int (S103.1 1)]) (rest := [.ref (q1 100)]) (wc := (wX8 g q1 S103)) (w1 := (wX8 g q1 S105)) (ws2 := (wX8 g q1 S105)) (bytes := cX8_pass) (maxL := 3) (ret := (some .int)) hC hl.1 (c_X8_pass l g N q1 S103 (S103.1 1) v104 S105 hc137) rfl gX8_passAll_X8_pass (by decide +kernel) rfl rfl ⟨Nat.le_of_ble_eq_true rfl, Nat.le_of_ble_eq_true rfl⟩ rfl rfl rfl (Nat.le_of_ble_eq_true rfl) ⟨Nat.le_of_ble_eq_true rfl, Nat.le_of_ble_eq_true rfl⟩ dX8_passAll_18 hP hD hS hA [0, 1, 2, 3, 4, 5, 6, 7, 8, 9, 10, 11, 12, 13, 14, 15, 16, 17, 18, 19, 20, 21, 22, 23] rfl (by decide +kernel) [q1 100, q1 6, q1 8, q1 9, q1 10, q1 11, q1 12, q1 13, q1 14, q1 15, q1 16, q1 18, q1 20, q1 21, q1 23, q1 27, q1 30, q1 32, q1 33, q1 34, q1 39, q1 41, q1 42, q1 43] rfl rfl rfl [] ([] : va_W) rfl rfl (n2 := 24) rfl (by decide +kernel) (fun H locs hP hD hS => ?_)
  refine k_put (ci := 8) (k := 1) (q0 := 0) (C := RX8) (T := TX8) (N := 46) (S2 := stI S105 1 v104) tyX8 (fun S => (wX8 g q1 S)) hC uX8_passAll_X8 tyX8_ok nmX8 hP hD hS rfl rfl (by decide) (List.mem_of_getElem? (i := 2) rfl) rfl (tyX8_ok 1 (by decide)) (Nat.le_of_ble_eq_true rfl) dX8_passAll_21 rfl h (fun S106 h H locs hP hD hS => ?_)
  refine lv_aload_n hx hb dX8_passAll_24 rfl (lv_at hl 0 rfl) ?_
  refine lv_aload_n hx hb dX8_passAll_25 rfl (lv_at hl 0 rfl) ?_
  refine lv_aload_n hx hb dX8_passAll_26 rfl (lv_at hl 0 rfl) ?_
  refine k_get (ci := 8) (k := 2) (q0 := 0) (v := .int (S106.1 2)) (C := RX8) (T := TX8) (N := 46) hC uX8_passAll_X8 hP rfl rfl (by decide) (List.mem_of_getElem? (i := 3) rfl) rfl dX8_passAll_27 ?_
  obtain ⟨v107, S108, hc136, h⟩ := fx_b2_s h
  refine k_callVi (C := RX8) (ci := 8) (qr := 0) (n := 1) (As := [.int (S106.1 2)]) (rest := [.ref (q1 100)]) (wc := (wX8 g q1 S106)) (w1 := (wX8 g q1 S108)) (ws2 := (wX8 g q1 S108)) (bytes := cX8_pass) (maxL := 3) (ret := (some .int)) hC hl.1 (c_X8_pass l g N q1 S106 (S106.1 2) v107 S108 hc136) rfl gX8_passAll_X8_pass (by decide +kernel) rfl rfl ⟨Nat.le_of_ble_eq_true rfl, Nat.le_of_ble_eq_true rfl⟩ rfl rfl rfl (Nat.le_of_ble_eq_true rfl) ⟨Nat.le_of_ble_eq_true rfl, Nat.le_of_ble_eq_true rfl⟩ dX8_passAll_30 hP hD hS hA [0, 1, 2, 3, 4, 5, 6, 7, 8, 9, 10, 11, 12, 13, 14, 15, 16, 17, 18, 19, 20, 21, 22, 23] rfl (by decide +kernel) [q1 100, q1 6, q1 8, q1 9, q1 10, q1 11, q1 12, q1 13, q1 14, q1 15, q1 16, q1 18, q1 20, q1 21, q1 23, q1 27, q1 30, q1 32, q1 33, q1 34, q1 39, q1 41, q1 42, q1 43] rfl rfl rfl [] ([] : va_W) rfl rfl (n2 := 24) rfl (by decide +kernel) (fun H locs hP hD hS => ?_)
  refine k_put (ci := 8) (k := 2) (q0 := 0) (C := RX8) (T := TX8) (N := 46) (S2 := stI S108 2 v107) tyX8 (fun S => (wX8 g q1 S)) hC uX8_passAll_X8 tyX8_ok nmX8 hP hD hS rfl rfl (by decide) (List.mem_of_getElem? (i := 3) rfl) rfl (tyX8_ok 2 (by decide)) (Nat.le_of_ble_eq_true rfl) dX8_passAll_33 rfl h (fun S109 h H locs hP hD hS => ?_)
  refine lv_aload_n hx hb dX8_passAll_36 rfl (lv_at hl 0 rfl) ?_
  refine lv_aload_n hx hb dX8_passAll_37 rfl (lv_at hl 0 rfl) ?_
  refine lv_aload_n hx hb dX8_passAll_38 rfl (lv_at hl 0 rfl) ?_
  refine k_get (ci := 8) (k := 3) (q0 := 0) (v := .int (S109.1 3)) (C := RX8) (T := TX8) (N := 46) hC uX8_passAll_X8 hP rfl rfl (by decide) (List.mem_of_getElem? (i := 4) rfl) rfl dX8_passAll_39 ?_
  obtain ⟨v110, S111, hc135, h⟩ := fx_b2_s h
  refine k_callVi (C := RX8) (ci := 8) (qr := 0) (n := 1) (As := [.int (S109.1 3)]) (rest := [.ref (q1 100)]) (wc := (wX8 g q1 S109)) (w1 := (wX8 g q1 S111)) (ws2 := (wX8 g q1 S111)) (bytes := cX8_pass) (maxL := 3) (ret := (some .int)) hC hl.1 (c_X8_pass l g N q1 S109 (S109.1 3) v110 S111 hc135) rfl gX8_passAll_X8_pass (by decide +kernel) rfl rfl ⟨Nat.le_of_ble_eq_true rfl, Nat.le_of_ble_eq_true rfl⟩ rfl rfl rfl (Nat.le_of_ble_eq_true rfl) ⟨Nat.le_of_ble_eq_true rfl, Nat.le_of_ble_eq_true rfl⟩ dX8_passAll_42 hP hD hS hA [0, 1, 2, 3, 4, 5, 6, 7, 8, 9, 10, 11, 12, 13, 14, 15, 16, 17, 18, 19, 20, 21, 22, 23] rfl (by decide +kernel) [q1 100, q1 6, q1 8, q1 9, q1 10, q1 11, q1 12, q1 13, q1 14, q1 15, q1 16, q1 18, q1 20, q1 21, q1 23, q1 27, q1 30, q1 32, q1 33, q1 34, q1 39, q1 41, q1 42, q1 43] rfl rfl rfl [] ([] : va_W) rfl rfl (n2 := 24) rfl (by decide +kernel) (fun H locs hP hD hS => ?_)
  refine k_put (ci := 8) (k := 3) (q0 := 0) (C := RX8) (T := TX8) (N := 46) (S2 := stI S111 3 v110) tyX8 (fun S => (wX8 g q1 S)) hC uX8_passAll_X8 tyX8_ok nmX8 hP hD hS rfl rfl (by decide) (List.mem_of_getElem? (i := 4) rfl) rfl (tyX8_ok 3 (by decide)) (Nat.le_of_ble_eq_true rfl) dX8_passAll_45 rfl h (fun S112 h H locs hP hD hS => ?_)
  refine lv_aload_n hx hb dX8_passAll_48 rfl (lv_at hl 0 rfl) ?_
  refine lv_aload_n hx hb dX8_passAll_49 rfl (lv_at hl 0 rfl) ?_
  refine lv_aload_n hx hb dX8_passAll_50 rfl (lv_at hl 0 rfl) ?_
  refine k_get (ci := 8) (k := 4) (q0 := 0) (v := .int (S112.1 4)) (C := RX8) (T := TX8) (N := 46) hC uX8_passAll_X8 hP rfl rfl (by decide) (List.mem_of_getElem? (i := 5) rfl) rfl dX8_passAll_51 ?_
  obtain ⟨v113, S114, hc134, h⟩ := fx_b2_s h
  refine k_callVi (C := RX8) (ci := 8) (qr := 0) (n := 1) (As := [.int (S112.1 4)]) (rest := [.ref (q1 100)]) (wc := (wX8 g q1 S112)) (w1 := (wX8 g q1 S114)) (ws2 := (wX8 g q1 S114)) (bytes := cX8_pass) (maxL := 3) (ret := (some .int)) hC hl.1 (c_X8_pass l g N q1 S112 (S112.1 4) v113 S114 hc134) rfl gX8_passAll_X8_pass (by decide +kernel) rfl rfl ⟨Nat.le_of_ble_eq_true rfl, Nat.le_of_ble_eq_true rfl⟩ rfl rfl rfl (Nat.le_of_ble_eq_true rfl) ⟨Nat.le_of_ble_eq_true rfl, Nat.le_of_ble_eq_true rfl⟩ dX8_passAll_54 hP hD hS hA [0, 1, 2, 3, 4, 5, 6, 7, 8, 9, 10, 11, 12, 13, 14, 15, 16, 17, 18, 19, 20, 21, 22, 23] rfl (by decide +kernel) [q1 100, q1 6, q1 8, q1 9, q1 10, q1 11, q1 12, q1 13, q1 14, q1 15, q1 16, q1 18, q1 20, q1 21, q1 23, q1 27, q1 30, q1 32, q1 33, q1 34, q1 39, q1 41, q1 42, q1 43] rfl rfl rfl [] ([] : va_W) rfl rfl (n2 := 24) rfl (by decide +kernel) (fun H locs hP hD hS => ?_)
  refine k_put (ci := 8) (k := 4) (q0 := 0) (C := RX8) (T := TX8) (N := 46) (S2 := stI S114 4 v113) tyX8 (fun S => (wX8 g q1 S)) hC uX8_passAll_X8 tyX8_ok nmX8 hP hD hS rfl rfl (by decide) (List.mem_of_getElem? (i := 5) rfl) rfl (tyX8_ok 4 (by decide)) (Nat.le_of_ble_eq_true rfl) dX8_passAll_57 rfl h (fun S115 h H locs hP hD hS => ?_)
  refine lv_aload_n hx hb dX8_passAll_60 rfl (lv_at hl 0 rfl) ?_
  refine lv_aload_n hx hb dX8_passAll_61 rfl (lv_at hl 0 rfl) ?_
  refine lv_aload_n hx hb dX8_passAll_62 rfl (lv_at hl 0 rfl) ?_
  refine k_get (ci := 8) (k := 5) (q0 := 0) (v := .int (S115.1 5)) (C := RX8) (T := TX8) (N := 46) hC uX8_passAll_X8 hP rfl rfl (by decide) (List.mem_of_getElem? (i := 6) rfl) rfl dX8_passAll_63 ?_
  obtain ⟨v116, S117, hc133, h⟩ := fx_b2_s h
  refine k_callVi (C := RX8) (ci := 8) (qr := 0) (n := 1) (As := [.int (S115.1 5)]) (rest := [.ref (q1 100)]) (wc := (wX8 g q1 S115)) (w1 := (wX8 g q1 S117)) (ws2 := (wX8 g q1 S117)) (bytes := cX8_pass) (maxL := 3) (ret := (some .int)) hC hl.1 (c_X8_pass l g N q1 S115 (S115.1 5) v116 S117 hc133) rfl gX8_passAll_X8_pass (by decide +kernel) rfl rfl ⟨Nat.le_of_ble_eq_true rfl, Nat.le_of_ble_eq_true rfl⟩ rfl rfl rfl (Nat.le_of_ble_eq_true rfl) ⟨Nat.le_of_ble_eq_true rfl, Nat.le_of_ble_eq_true rfl⟩ dX8_passAll_66 hP hD hS hA [0, 1, 2, 3, 4, 5, 6, 7, 8, 9, 10, 11, 12, 13, 14, 15, 16, 17, 18, 19, 20, 21, 22, 23] rfl (by decide +kernel) [q1 100, q1 6, q1 8, q1 9, q1 10, q1 11, q1 12, q1 13, q1 14, q1 15, q1 16, q1 18, q1 20, q1 21, q1 23, q1 27, q1 30, q1 32, q1 33, q1 34, q1 39, q1 41, q1 42, q1 43] rfl rfl rfl [] ([] : va_W) rfl rfl (n2 := 24) rfl (by decide +kernel) (fun H locs hP hD hS => ?_)
  refine k_put (ci := 8) (k := 5) (q0 := 0) (C := RX8) (T := TX8) (N := 46) (S2 := stI S117 5 v116) tyX8 (fun S => (wX8 g q1 S)) hC uX8_passAll_X8 tyX8_ok nmX8 hP hD hS rfl rfl (by decide) (List.mem_of_getElem? (i := 6) rfl) rfl (tyX8_ok 5 (by decide)) (Nat.le_of_ble_eq_true rfl) dX8_passAll_69 rfl h (fun S118 h H locs hP hD hS => ?_)
  refine lv_aload_n hx hb dX8_passAll_72 rfl (lv_at hl 0 rfl) ?_
  refine lv_aload_n hx hb dX8_passAll_73 rfl (lv_at hl 0 rfl) ?_
  refine lv_aload_n hx hb dX8_passAll_74 rfl (lv_at hl 0 rfl) ?_
  refine k_get (ci := 8) (k := 7) (q0 := 0) (v := .int (S118.1 7)) (C := RX8) (T := TX8) (N := 46) hC uX8_passAll_X8 hP rfl rfl (by decide) (List.mem_of_getElem? (i := 7) rfl) rfl dX8_passAll_75 ?_
  obtain ⟨v119, S120, hc132, h⟩ := fx_b2_s h
  refine k_callVi (C := RX8) (ci := 8) (qr := 0) (n := 1) (As := [.int (S118.1 7)]) (rest := [.ref (q1 100)]) (wc := (wX8 g q1 S118)) (w1 := (wX8 g q1 S120)) (ws2 := (wX8 g q1 S120)) (bytes := cX8_pass) (maxL := 3) (ret := (some .int)) hC hl.1 (c_X8_pass l g N q1 S118 (S118.1 7) v119 S120 hc132) rfl gX8_passAll_X8_pass (by decide +kernel) rfl rfl ⟨Nat.le_of_ble_eq_true rfl, Nat.le_of_ble_eq_true rfl⟩ rfl rfl rfl (Nat.le_of_ble_eq_true rfl) ⟨Nat.le_of_ble_eq_true rfl, Nat.le_of_ble_eq_true rfl⟩ dX8_passAll_78 hP hD hS hA [0, 1, 2, 3, 4, 5, 6, 7, 8, 9, 10, 11, 12, 13, 14, 15, 16, 17, 18, 19, 20, 21, 22, 23] rfl (by decide +kernel) [q1 100, q1 6, q1 8, q1 9, q1 10, q1 11, q1 12, q1 13, q1 14, q1 15, q1 16, q1 18, q1 20, q1 21, q1 23, q1 27, q1 30, q1 32, q1 33, q1 34, q1 39, q1 41, q1 42, q1 43] rfl rfl rfl [] ([] : va_W) rfl rfl (n2 := 24) rfl (by decide +kernel) (fun H locs hP hD hS => ?_)
  refine k_put (ci := 8) (k := 7) (q0 := 0) (C := RX8) (T := TX8) (N := 46) (S2 := stI S120 7 v119) tyX8 (fun S => (wX8 g q1 S)) hC uX8_passAll_X8 tyX8_ok nmX8 hP hD hS rfl rfl (by decide) (List.mem_of_getElem? (i := 7) rfl) rfl (tyX8_ok 7 (by decide)) (Nat.le_of_ble_eq_true rfl) dX8_passAll_81 rfl h (fun S121 h H locs hP hD hS => ?_)
  refine lv_aload_n hx hb dX8_passAll_84 rfl (lv_at hl 0 rfl) ?_
  refine lv_aload_n hx hb dX8_passAll_85 rfl (lv_at hl 0 rfl) ?_
  refine lv_aload_n hx hb dX8_passAll_86 rfl (lv_at hl 0 rfl) ?_
  refine k_get (ci := 8) (k := 17) (q0 := 0) (v := .int (S121.1 17)) (C := RX8) (T := TX8) (N := 46) hC uX8_passAll_X8 hP rfl rfl (by decide) (List.mem_of_getElem? (i := 8) rfl) rfl dX8_passAll_87 ?_
  obtain ⟨v122, S123, hc131, h⟩ := fx_b2_s h
  refine k_callVi (C := RX8) (ci := 8) (qr := 0) (n := 1) (As := [.int (S121.1 17)]) (rest := [.ref (q1 100)]) (wc := (wX8 g q1 S121)) (w1 := (wX8 g q1 S123)) (ws2 := (wX8 g q1 S123)) (bytes := cX8_pass) (maxL := 3) (ret := (some .int)) hC hl.1 (c_X8_pass l g N q1 S121 (S121.1 17) v122 S123 hc131) rfl gX8_passAll_X8_pass (by decide +kernel) rfl rfl ⟨Nat.le_of_ble_eq_true rfl, Nat.le_of_ble_eq_true rfl⟩ rfl rfl rfl (Nat.le_of_ble_eq_true rfl) ⟨Nat.le_of_ble_eq_true rfl, Nat.le_of_ble_eq_true rfl⟩ dX8_passAll_90 hP hD hS hA [0, 1, 2, 3, 4, 5, 6, 7, 8, 9, 10, 11, 12, 13, 14, 15, 16, 17, 18, 19, 20, 21, 22, 23] rfl (by decide +kernel) [q1 100, q1 6, q1 8, q1 9, q1 10, q1 11, q1 12, q1 13, q1 14, q1 15, q1 16, q1 18, q1 20, q1 21, q1 23, q1 27, q1 30, q1 32, q1 33, q1 34, q1 39, q1 41, q1 42, q1 43] rfl rfl rfl [] ([] : va_W) rfl rfl (n2 := 24) rfl (by decide +kernel) (fun H locs hP hD hS => ?_)
  refine k_put (ci := 8) (k := 17) (q0 := 0) (C := RX8) (T := TX8) (N := 46) (S2 := stI S123 17 v122) tyX8 (fun S => (wX8 g q1 S)) hC uX8_passAll_X8 tyX8_ok nmX8 hP hD hS rfl rfl (by decide) (List.mem_of_getElem? (i := 8) rfl) rfl (tyX8_ok 17 (by decide)) (Nat.le_of_ble_eq_true rfl) dX8_passAll_93 rfl h (fun S124 h H locs hP hD hS => ?_)
  refine lv_iconst (v := (0 : Int32)) hx hb dX8_passAll_96 (by decide) ?_
  refine lv_istore_n (lv' := [(1, .int (0 : Int32)), (0, .ref (q1 100))]) hx hb dX8_passAll_97 rfl hl (by decide) rfl (fun ls hl => ?_)
  obtain ⟨S125, ho126, h⟩ := fx_b1_s h
  refine lw_X8_passAll_98 hC hA N q1 N (0 : Int32) S124  S125 ho126 _ _ _ hP hD hS (lv_sub hl [1, 0] rfl) ?_
  · intro y0 he H locs ls hP hD hS hl
    obtain rfl := he
    refine lv_iconst (v := (0 : Int32)) hx hb dX8_passAll_206 (by decide) ?_
    refine lv_istore_n (lv' := [(1, .int (0 : Int32)), (0, .ref (q1 100))]) hx hb dX8_passAll_207 rfl hl (by decide) rfl (fun ls hl => ?_)
    obtain ⟨S127, ho128, h⟩ := fx_b1_s h
    refine lw_X8_passAll_208 hC hA N q1 N (0 : Int32) S125  S127 ho128 _ _ _ hP hD hS (lv_sub hl [1, 0] rfl) ?_
    · intro y0 he H locs ls hP hD hS hl
      obtain rfl := he
      refine lv_iconst (v := (0 : Int32)) hx hb dX8_passAll_251 (by decide) ?_
      refine lv_istore_n (lv' := [(1, .int (0 : Int32)), (0, .ref (q1 100))]) hx hb dX8_passAll_252 rfl hl (by decide) rfl (fun ls hl => ?_)
      obtain ⟨S129, ho130, h⟩ := fx_b1_s h
      refine lw_X8_passAll_253 hC hA N q1 N (0 : Int32) S127  S129 ho130 _ _ _ hP hD hS (lv_sub hl [1, 0] rfl) ?_
      · intro y0 he H locs ls hP hD hS hl
        obtain rfl := he
        obtain rfl := fx_i1 h
        exact Cv.ret hC hr hlk hA9 hP hD hS dX8_passAll_297
theorem uX8_image_X8 : ∀ w ∈ u_ws RX8 TX8 46, w ∈ wsX8_image := fun w h => List.mem_cons_of_mem _ (List.mem_append_right _ h)
abbrev RM_X8_image : Room := { frames := 2, cells := 0, slots := 0, locals := 43 }
def f_X8_image (N : Nat) (S1 : St) (x1 : Int32) : Option (Int32 × St) :=
  fx_b1 (f_X8_in N (Int32.toInt64 x1) (0 : Int64) (1 : Int64)) (fun v101 =>
  (if v101 = 0 then (
  some ((-2 : Int32), S1)) else (
  fx_lt (stI S1 44 ((120 : Int32) * x1)) (fun S102 =>
    fx_lt (stI S102 45 (1 : Int32)) (fun S103 =>
    fx_b1 (f_X8_passAll N S103) (fun S104 =>
    fx_ast 2 S104 43 x1 (1 : Int32) (fun S105 =>
    some ((1 : Int32), S105))))))))
set_option maxRecDepth 100000 in
set_option maxHeartbeats 4000000 in
theorem c_X8_image (l : Launch) (g : GG) (N : Nat) (q1 : Nat → Nat) (S1 : St) (x1 : Int32) (r : Int32) (F1 : St) (h : f_X8_image N S1 x1 = some (r, F1)) : Ci l yX8_image wsX8_image RM_X8_image g [.ref (q1 100), .int x1] (wX8 g q1 S1) (wX8 g q1 F1) r := by
  intro sz
  refine Met.ofC (cc := cX8_image) (maxL := 2) (ret := (some .int)) (by decide) rfl (Nat.le_of_ble_eq_true rfl) ?_
  intro p e s m below meth c hC hr hlk hsz A hA9 hA hP hD hS ls hl
  subst hsz
  have hC : Cx p s m ([.ref (q1 100), .int x1] : List Value).toArray c RX8 cX8_image 2 wsX8_image g := hC
  have hx := hC.1.1
  have hb := hC.1.2.1
  have hml := hC.1.2.2.1
  have hown := hC.1.2.2.2.1
  have hts := hC.1.2.2.2.2
  have hl : lv_has ls 2 [(0, .ref (q1 100)), (1, .int x1)] := hl
  show W p l e RM_X8_image s m ([.ref (q1 100), .int x1] : List Value).toArray below meth c s.heap [] 0 0 (Qi below g [.ref (q1 100), .int x1] (wX8 g q1 S1) (wX8 g q1 F1) r s) (F0 m 0 ls [])
  unfold f_X8_image at h
  refine lv_iload_n hx hb dX8_image_0 rfl (lv_at hl 1 rfl) ?_
  refine lv_i2l hx hb dX8_image_1 rfl ?_
  refine lv_lconst (v := (0 : Int64)) hx hb dX8_image_2 (by decide) ?_
  refine lv_lconst (v := (1 : Int64)) hx hb dX8_image_3 (by decide) ?_
  obtain ⟨v101, hc107, h⟩ := fx_b1_s h
  refine k_callSi0 (n := 3) (As := [.long (Int32.toInt64 x1), .long (0 : Int64), .long (1 : Int64)]) (rest := []) (wc := ([] : va_W)) (bytes := cX8_in) (maxL := 6) (ret := (some .boolean)) hC hl.1 (c_X8_in l g N (Int32.toInt64 x1) (0 : Int64) (1 : Int64) v101 hc107) rfl gX8_image_X8_in (by decide +kernel) ⟨Nat.le_of_ble_eq_true rfl, Nat.le_of_ble_eq_true rfl⟩ rfl rfl rfl (Nat.le_of_ble_eq_true rfl) ⟨Nat.le_of_ble_eq_true rfl, Nat.le_of_ble_eq_true rfl⟩ dX8_image_4 hP hD hS hA [] rfl (by decide +kernel) (fun H locs hP hD hS => ?_)
  refine k_if_ne (tgt := 13) hC dX8_image_7 (by decide) h (fun h => ?_) (fun h => ?_)
  · refine lv_aload_n hx hb dX8_image_13 rfl (lv_at hl 0 rfl) ?_
    refine lv_bipush (v := (120 : Int32)) hx hb dX8_image_14 (by decide) ?_
    refine lv_iload_n hx hb dX8_image_16 rfl (lv_at hl 1 rfl) ?_
    refine lv_imul hx hb dX8_image_17 ?_
    refine k_put (ci := 8) (k := 44) (q0 := 0) (C := RX8) (T := TX8) (N := 46) (S2 := stI S1 44 ((120 : Int32) * x1)) tyX8 (fun S => (wX8 g q1 S)) hC uX8_image_X8 tyX8_ok nmX8 hP hD hS rfl rfl (by decide) (List.mem_of_getElem? (i := 1) rfl) rfl (tyX8_ok 44 (by decide)) (Nat.le_of_ble_eq_true rfl) dX8_image_18 rfl h (fun S102 h H locs hP hD hS => ?_)
    refine lv_aload_n hx hb dX8_image_21 rfl (lv_at hl 0 rfl) ?_
    refine lv_iconst (v := (1 : Int32)) hx hb dX8_image_22 (by decide) ?_
    refine k_putz (ci := 8) (k := 45) (q0 := 0) (C := RX8) (T := TX8) (N := 46) (S2 := stI S102 45 (1 : Int32)) tyX8 (fun S => (wX8 g q1 S)) hC uX8_image_X8 tyX8_ok nmX8 hP hD hS rfl rfl (by decide) (List.mem_of_getElem? (i := 2) rfl) rfl (tyX8_ok 45 (by decide)) ⟨rfl, rfl⟩ (Nat.le_of_ble_eq_true rfl) dX8_image_23 rfl h (fun S103 h H locs hP hD hS => ?_)
    refine lv_aload_n hx hb dX8_image_26 rfl (lv_at hl 0 rfl) ?_
    obtain ⟨S104, hc106, h⟩ := fx_b1_s h
    refine k_callVv (C := RX8) (ci := 8) (qr := 0) (n := 0) (As := []) (rest := []) (wc := (wX8 g q1 S103)) (w1 := (wX8 g q1 S104)) (ws2 := (wX8 g q1 S104)) (bytes := cX8_passAll) (maxL := 2) (ret := none) hC hl.1 (c_X8_passAll l g N q1 S103 S104 hc106) rfl gX8_image_X8_passAll (by decide +kernel) rfl rfl ⟨Nat.le_of_ble_eq_true rfl, Nat.le_of_ble_eq_true rfl⟩ rfl rfl rfl (Nat.le_of_ble_eq_true rfl) ⟨Nat.le_of_ble_eq_true rfl, Nat.le_of_ble_eq_true rfl⟩ dX8_image_27 hP hD hS hA [0, 1, 2, 3, 4, 5, 6, 7, 8, 9, 10, 11, 12, 13, 14, 15, 16, 17, 18, 19, 20, 21, 22, 23] rfl (by decide +kernel) [q1 100, q1 6, q1 8, q1 9, q1 10, q1 11, q1 12, q1 13, q1 14, q1 15, q1 16, q1 18, q1 20, q1 21, q1 23, q1 27, q1 30, q1 32, q1 33, q1 34, q1 39, q1 41, q1 42, q1 43] rfl rfl rfl [] ([] : va_W) rfl rfl (n2 := 24) rfl (by decide +kernel) (fun H locs hP hD hS => ?_)
    refine lv_aload_n hx hb dX8_image_30 rfl (lv_at hl 0 rfl) ?_
    refine k_get (ci := 8) (k := 43) (q0 := 0) (v := .ref (q1 43)) (C := RX8) (T := TX8) (N := 46) hC uX8_image_X8 hP rfl rfl (by decide) (List.mem_of_getElem? (i := 3) rfl) rfl dX8_image_31 ?_
    refine lv_iload_n hx hb dX8_image_34 rfl (lv_at hl 1 rfl) ?_
    refine lv_iconst (v := (1 : Int32)) hx hb dX8_image_35 (by decide) ?_
    refine k_astz (q0 := 23) (n := 2) (k := 43) (S := S104) (fun S => (wX8 g q1 S)) hC hP hD hS rfl (fun _ => rfl) rfl dX8_image_36 h (fun S105 h H locs hP hD hS => ?_)
    refine lv_iconst (v := (1 : Int32)) hx hb dX8_image_37 (by decide) ?_
    obtain ⟨rfl, rfl⟩ := fx_i2 h
    exact Ci.ret hC hr hlk hA9 hP hD hS dX8_image_38
  · refine lv_bipush (v := (-2 : Int32)) hx hb dX8_image_10 (by decide) ?_
    obtain ⟨rfl, rfl⟩ := fx_i2 h
    exact Ci.ret hC hr hlk hA9 hP hD hS dX8_image_12
theorem uX8_restore_X8 : ∀ w ∈ u_ws RX8 TX8 46, w ∈ wsX8_restore := fun w h => List.mem_cons_of_mem _ (List.mem_append_right _ h)
abbrev RM_X8_restore : Room := { frames := 2, cells := 0, slots := 0, locals := 43 }
def f_X8_restore (N : Nat) (S1 : St) (x1 : Int32) : Option (Int32 × St) :=
  fx_b1 (f_X8_in N (Int32.toInt64 x1) (0 : Int64) (1 : Int64)) (fun v101 =>
  (if v101 = 0 then (
  some ((-2 : Int32), S1)) else (
  fx_ald 2 (S1.2 43) x1 (fun v102 =>
    (if v102 = 0 then (
    some ((-3 : Int32), S1)) else (
    fx_lt (stI S1 44 ((120 : Int32) * x1)) (fun S103 =>
      fx_lt (stI S103 45 (0 : Int32)) (fun S104 =>
      fx_b1 (f_X8_passAll N S104) (fun S105 =>
      some ((1 : Int32), S105))))))))))
set_option maxRecDepth 100000 in
set_option maxHeartbeats 4000000 in
theorem c_X8_restore (l : Launch) (g : GG) (N : Nat) (q1 : Nat → Nat) (S1 : St) (x1 : Int32) (r : Int32) (F1 : St) (h : f_X8_restore N S1 x1 = some (r, F1)) : Ci l yX8_restore wsX8_restore RM_X8_restore g [.ref (q1 100), .int x1] (wX8 g q1 S1) (wX8 g q1 F1) r := by
  intro sz
  refine Met.ofC (cc := cX8_restore) (maxL := 2) (ret := (some .int)) (by decide) rfl (Nat.le_of_ble_eq_true rfl) ?_
  intro p e s m below meth c hC hr hlk hsz A hA9 hA hP hD hS ls hl
  subst hsz
  have hC : Cx p s m ([.ref (q1 100), .int x1] : List Value).toArray c RX8 cX8_restore 2 wsX8_restore g := hC
  have hx := hC.1.1
  have hb := hC.1.2.1
  have hml := hC.1.2.2.1
  have hown := hC.1.2.2.2.1
  have hts := hC.1.2.2.2.2
  have hl : lv_has ls 2 [(0, .ref (q1 100)), (1, .int x1)] := hl
  show W p l e RM_X8_restore s m ([.ref (q1 100), .int x1] : List Value).toArray below meth c s.heap [] 0 0 (Qi below g [.ref (q1 100), .int x1] (wX8 g q1 S1) (wX8 g q1 F1) r s) (F0 m 0 ls [])
  unfold f_X8_restore at h
  refine lv_iload_n hx hb dX8_restore_0 rfl (lv_at hl 1 rfl) ?_
  refine lv_i2l hx hb dX8_restore_1 rfl ?_
  refine lv_lconst (v := (0 : Int64)) hx hb dX8_restore_2 (by decide) ?_
  refine lv_lconst (v := (1 : Int64)) hx hb dX8_restore_3 (by decide) ?_
  obtain ⟨v101, hc107, h⟩ := fx_b1_s h
  refine k_callSi0 (n := 3) (As := [.long (Int32.toInt64 x1), .long (0 : Int64), .long (1 : Int64)]) (rest := []) (wc := ([] : va_W)) (bytes := cX8_in) (maxL := 6) (ret := (some .boolean)) hC hl.1 (c_X8_in l g N (Int32.toInt64 x1) (0 : Int64) (1 : Int64) v101 hc107) rfl gX8_restore_X8_in (by decide +kernel) ⟨Nat.le_of_ble_eq_true rfl, Nat.le_of_ble_eq_true rfl⟩ rfl rfl rfl (Nat.le_of_ble_eq_true rfl) ⟨Nat.le_of_ble_eq_true rfl, Nat.le_of_ble_eq_true rfl⟩ dX8_restore_4 hP hD hS hA [] rfl (by decide +kernel) (fun H locs hP hD hS => ?_)
  refine k_if_ne (tgt := 13) hC dX8_restore_7 (by decide) h (fun h => ?_) (fun h => ?_)
  · refine lv_aload_n hx hb dX8_restore_13 rfl (lv_at hl 0 rfl) ?_
    refine k_get (ci := 8) (k := 43) (q0 := 0) (v := .ref (q1 43)) (C := RX8) (T := TX8) (N := 46) hC uX8_restore_X8 hP rfl rfl (by decide) (List.mem_of_getElem? (i := 1) rfl) rfl dX8_restore_14 ?_
    refine lv_iload_n hx hb dX8_restore_17 rfl (lv_at hl 1 rfl) ?_
    refine k_aldz (q0 := 23) (n := 2) (F := S1.2 43) hC hP rfl dX8_restore_18 h (fun v102 h => ?_)
    refine k_if_ne (tgt := 25) hC dX8_restore_19 (by decide) h (fun h => ?_) (fun h => ?_)
    · refine lv_aload_n hx hb dX8_restore_25 rfl (lv_at hl 0 rfl) ?_
      refine lv_bipush (v := (120 : Int32)) hx hb dX8_restore_26 (by decide) ?_
      refine lv_iload_n hx hb dX8_restore_28 rfl (lv_at hl 1 rfl) ?_
      refine lv_imul hx hb dX8_restore_29 ?_
      refine k_put (ci := 8) (k := 44) (q0 := 0) (C := RX8) (T := TX8) (N := 46) (S2 := stI S1 44 ((120 : Int32) * x1)) tyX8 (fun S => (wX8 g q1 S)) hC uX8_restore_X8 tyX8_ok nmX8 hP hD hS rfl rfl (by decide) (List.mem_of_getElem? (i := 2) rfl) rfl (tyX8_ok 44 (by decide)) (Nat.le_of_ble_eq_true rfl) dX8_restore_30 rfl h (fun S103 h H locs hP hD hS => ?_)
      refine lv_aload_n hx hb dX8_restore_33 rfl (lv_at hl 0 rfl) ?_
      refine lv_iconst (v := (0 : Int32)) hx hb dX8_restore_34 (by decide) ?_
      refine k_putz (ci := 8) (k := 45) (q0 := 0) (C := RX8) (T := TX8) (N := 46) (S2 := stI S103 45 (0 : Int32)) tyX8 (fun S => (wX8 g q1 S)) hC uX8_restore_X8 tyX8_ok nmX8 hP hD hS rfl rfl (by decide) (List.mem_of_getElem? (i := 3) rfl) rfl (tyX8_ok 45 (by decide)) ⟨rfl, rfl⟩ (Nat.le_of_ble_eq_true rfl) dX8_restore_35 rfl h (fun S104 h H locs hP hD hS => ?_)
      refine lv_aload_n hx hb dX8_restore_38 rfl (lv_at hl 0 rfl) ?_
      obtain ⟨S105, hc106, h⟩ := fx_b1_s h
      refine k_callVv (C := RX8) (ci := 8) (qr := 0) (n := 0) (As := []) (rest := []) (wc := (wX8 g q1 S104)) (w1 := (wX8 g q1 S105)) (ws2 := (wX8 g q1 S105)) (bytes := cX8_passAll) (maxL := 2) (ret := none) hC hl.1 (c_X8_passAll l g N q1 S104 S105 hc106) rfl gX8_restore_X8_passAll (by decide +kernel) rfl rfl ⟨Nat.le_of_ble_eq_true rfl, Nat.le_of_ble_eq_true rfl⟩ rfl rfl rfl (Nat.le_of_ble_eq_true rfl) ⟨Nat.le_of_ble_eq_true rfl, Nat.le_of_ble_eq_true rfl⟩ dX8_restore_39 hP hD hS hA [0, 1, 2, 3, 4, 5, 6, 7, 8, 9, 10, 11, 12, 13, 14, 15, 16, 17, 18, 19, 20, 21, 22, 23] rfl (by decide +kernel) [q1 100, q1 6, q1 8, q1 9, q1 10, q1 11, q1 12, q1 13, q1 14, q1 15, q1 16, q1 18, q1 20, q1 21, q1 23, q1 27, q1 30, q1 32, q1 33, q1 34, q1 39, q1 41, q1 42, q1 43] rfl rfl rfl [] ([] : va_W) rfl rfl (n2 := 24) rfl (by decide +kernel) (fun H locs hP hD hS => ?_)
      refine lv_iconst (v := (1 : Int32)) hx hb dX8_restore_42 (by decide) ?_
      obtain ⟨rfl, rfl⟩ := fx_i2 h
      exact Ci.ret hC hr hlk hA9 hP hD hS dX8_restore_43
    · refine lv_bipush (v := (-3 : Int32)) hx hb dX8_restore_22 (by decide) ?_
      obtain ⟨rfl, rfl⟩ := fx_i2 h
      exact Ci.ret hC hr hlk hA9 hP hD hS dX8_restore_24
  · refine lv_bipush (v := (-2 : Int32)) hx hb dX8_restore_10 (by decide) ?_
    obtain ⟨rfl, rfl⟩ := fx_i2 h
    exact Ci.ret hC hr hlk hA9 hP hD hS dX8_restore_12
theorem uX8_toldOfSort_X8 : ∀ w ∈ u_ws RX8 TX8 46, w ∈ wsX8_toldOfSort := fun w h => List.mem_cons_of_mem _ (List.mem_append_right _ h)
abbrev RM_X8_toldOfSort : Room := { frames := 3, cells := 0, slots := 0, locals := 66 }
def f_X8_toldOfSort (N : Nat) (S1 : St) (x1 : Int32) (x2 : Int32) : Option (Int32) :=
  fx_b1 (f_X8_isSort N S1 x1) (fun v101 =>
  (if v101 = 0 then (
  some (-2 : Int32)) else (
  (if x2 = 0 then (
    fx_ald 6 (S1.2 8) x1 (fun v105 =>
      some v105)) else (
    (if x2 = (1 : Int32) then (
      fx_ald 6 (S1.2 9) x1 (fun v104 =>
        some v104)) else (
      (if x2 = (2 : Int32) then (
        fx_ald 6 (S1.2 10) x1 (fun v103 =>
          some v103)) else (
        (if x2 = (3 : Int32) then (
          fx_ald 6 (S1.2 11) x1 (fun v102 =>
            some v102)) else (
          some (-2 : Int32))))))))))))
set_option maxRecDepth 100000 in
set_option maxHeartbeats 4000000 in
theorem c_X8_toldOfSort (l : Launch) (g : GG) (N : Nat) (q1 : Nat → Nat) (S1 : St) (x1 : Int32) (x2 : Int32) (r : Int32) (h : f_X8_toldOfSort N S1 x1 x2 = some r) : Ci l yX8_toldOfSort wsX8_toldOfSort RM_X8_toldOfSort g [.ref (q1 100), .int x1, .int x2] (wX8 g q1 S1) (wX8 g q1 S1) r := by
  intro sz
  refine Met.ofC (cc := cX8_toldOfSort) (maxL := 3) (ret := (some .int)) (by decide) rfl (Nat.le_of_ble_eq_true rfl) ?_
  intro p e s m below meth c hC hr hlk hsz A hA9 hA hP hD hS ls hl
  subst hsz
  have hC : Cx p s m ([.ref (q1 100), .int x1, .int x2] : List Value).toArray c RX8 cX8_toldOfSort 3 wsX8_toldOfSort g := hC
  have hx := hC.1.1
  have hb := hC.1.2.1
  have hml := hC.1.2.2.1
  have hown := hC.1.2.2.2.1
  have hts := hC.1.2.2.2.2
  have hl : lv_has ls 3 [(0, .ref (q1 100)), (1, .int x1), (2, .int x2)] := hl
  show W p l e RM_X8_toldOfSort s m ([.ref (q1 100), .int x1, .int x2] : List Value).toArray below meth c s.heap [] 0 0 (Qi below g [.ref (q1 100), .int x1, .int x2] (wX8 g q1 S1) (wX8 g q1 S1) r s) (F0 m 0 ls [])
  unfold f_X8_toldOfSort at h
  refine lv_aload_n hx hb dX8_toldOfSort_0 rfl (lv_at hl 0 rfl) ?_
  refine lv_iload_n hx hb dX8_toldOfSort_1 rfl (lv_at hl 1 rfl) ?_
  obtain ⟨v101, hc106, h⟩ := fx_b1_s h
  refine k_callVi0 (C := RX8) (ci := 8) (qr := 0) (n := 1) (As := [.int x1]) (rest := []) (wc := (wX8 g q1 S1)) (bytes := cX8_isSort) (maxL := 2) (ret := (some .boolean)) hC hl.1 (c_X8_isSort l g N q1 S1 x1 v101 hc106) rfl gX8_toldOfSort_X8_isSort (by decide +kernel) rfl rfl ⟨Nat.le_of_ble_eq_true rfl, Nat.le_of_ble_eq_true rfl⟩ rfl rfl rfl (Nat.le_of_ble_eq_true rfl) ⟨Nat.le_of_ble_eq_true rfl, Nat.le_of_ble_eq_true rfl⟩ dX8_toldOfSort_2 hP hD hS hA [0, 1, 2, 3, 4, 5, 6, 7, 8, 9, 10, 11, 12, 13, 14, 15, 16, 17, 18, 19, 20, 21, 22, 23] rfl (by decide +kernel) (fun H locs hP hD hS => ?_)
  refine k_if_ne (tgt := 11) hC dX8_toldOfSort_5 (by decide) h (fun h => ?_) (fun h => ?_)
  · refine lv_iload_n hx hb dX8_toldOfSort_11 rfl (lv_at hl 2 rfl) ?_
    refine k_if_ne (tgt := 24) hC dX8_toldOfSort_12 (by decide) h (fun h => ?_) (fun h => ?_)
    · refine lv_iload_n hx hb dX8_toldOfSort_24 rfl (lv_at hl 2 rfl) ?_
      refine lv_iconst (v := (1 : Int32)) hx hb dX8_toldOfSort_25 (by decide) ?_
      refine k_icmp_ne (tgt := 38) hC dX8_toldOfSort_26 (by decide) h (fun h => ?_) (fun h => ?_)
      · refine lv_iload_n hx hb dX8_toldOfSort_38 rfl (lv_at hl 2 rfl) ?_
        refine lv_iconst (v := (2 : Int32)) hx hb dX8_toldOfSort_39 (by decide) ?_
        refine k_icmp_ne (tgt := 52) hC dX8_toldOfSort_40 (by decide) h (fun h => ?_) (fun h => ?_)
        · refine lv_iload_n hx hb dX8_toldOfSort_52 rfl (lv_at hl 2 rfl) ?_
          refine lv_iconst (v := (3 : Int32)) hx hb dX8_toldOfSort_53 (by decide) ?_
          refine k_icmp_ne (tgt := 66) hC dX8_toldOfSort_54 (by decide) h (fun h => ?_) (fun h => ?_)
          · refine lv_bipush (v := (-2 : Int32)) hx hb dX8_toldOfSort_66 (by decide) ?_
            obtain rfl := fx_i1 h
            exact Ci.ret hC hr hlk hA9 hP hD hS dX8_toldOfSort_68
          · refine lv_aload_n hx hb dX8_toldOfSort_57 rfl (lv_at hl 0 rfl) ?_
            refine k_get (ci := 8) (k := 11) (q0 := 0) (v := .ref (q1 11)) (C := RX8) (T := TX8) (N := 46) hC uX8_toldOfSort_X8 hP rfl rfl (by decide) (List.mem_of_getElem? (i := 4) rfl) rfl dX8_toldOfSort_58 ?_
            refine lv_iload_n hx hb dX8_toldOfSort_61 rfl (lv_at hl 1 rfl) ?_
            refine k_ald (q0 := 5) (n := 6) (F := S1.2 11) hC hP rfl dX8_toldOfSort_62 h (fun v102 h => ?_)
            refine lv_goto (tgt := 68) hx hb dX8_toldOfSort_63 (by decide) ?_
            obtain rfl := fx_i1 h
            exact Ci.ret hC hr hlk hA9 hP hD hS dX8_toldOfSort_68
        · refine lv_aload_n hx hb dX8_toldOfSort_43 rfl (lv_at hl 0 rfl) ?_
          refine k_get (ci := 8) (k := 10) (q0 := 0) (v := .ref (q1 10)) (C := RX8) (T := TX8) (N := 46) hC uX8_toldOfSort_X8 hP rfl rfl (by decide) (List.mem_of_getElem? (i := 3) rfl) rfl dX8_toldOfSort_44 ?_
          refine lv_iload_n hx hb dX8_toldOfSort_47 rfl (lv_at hl 1 rfl) ?_
          refine k_ald (q0 := 4) (n := 6) (F := S1.2 10) hC hP rfl dX8_toldOfSort_48 h (fun v103 h => ?_)
          refine lv_goto (tgt := 68) hx hb dX8_toldOfSort_49 (by decide) ?_
          obtain rfl := fx_i1 h
          exact Ci.ret hC hr hlk hA9 hP hD hS dX8_toldOfSort_68
      · refine lv_aload_n hx hb dX8_toldOfSort_29 rfl (lv_at hl 0 rfl) ?_
        refine k_get (ci := 8) (k := 9) (q0 := 0) (v := .ref (q1 9)) (C := RX8) (T := TX8) (N := 46) hC uX8_toldOfSort_X8 hP rfl rfl (by decide) (List.mem_of_getElem? (i := 2) rfl) rfl dX8_toldOfSort_30 ?_
        refine lv_iload_n hx hb dX8_toldOfSort_33 rfl (lv_at hl 1 rfl) ?_
        refine k_ald (q0 := 3) (n := 6) (F := S1.2 9) hC hP rfl dX8_toldOfSort_34 h (fun v104 h => ?_)
        refine lv_goto (tgt := 68) hx hb dX8_toldOfSort_35 (by decide) ?_
        obtain rfl := fx_i1 h
        exact Ci.ret hC hr hlk hA9 hP hD hS dX8_toldOfSort_68
    · refine lv_aload_n hx hb dX8_toldOfSort_15 rfl (lv_at hl 0 rfl) ?_
      refine k_get (ci := 8) (k := 8) (q0 := 0) (v := .ref (q1 8)) (C := RX8) (T := TX8) (N := 46) hC uX8_toldOfSort_X8 hP rfl rfl (by decide) (List.mem_of_getElem? (i := 1) rfl) rfl dX8_toldOfSort_16 ?_
      refine lv_iload_n hx hb dX8_toldOfSort_19 rfl (lv_at hl 1 rfl) ?_
      refine k_ald (q0 := 2) (n := 6) (F := S1.2 8) hC hP rfl dX8_toldOfSort_20 h (fun v105 h => ?_)
      refine lv_goto (tgt := 68) hx hb dX8_toldOfSort_21 (by decide) ?_
      obtain rfl := fx_i1 h
      exact Ci.ret hC hr hlk hA9 hP hD hS dX8_toldOfSort_68
  · refine lv_bipush (v := (-2 : Int32)) hx hb dX8_toldOfSort_8 (by decide) ?_
    obtain rfl := fx_i1 h
    exact Ci.ret hC hr hlk hA9 hP hD hS dX8_toldOfSort_10
theorem uX8_toldNow_X8 : ∀ w ∈ u_ws RX8 TX8 46, w ∈ wsX8_toldNow := fun w h => List.mem_cons_of_mem _ (List.mem_append_right _ h)
abbrev RM_X8_toldNow : Room := { frames := 0, cells := 0, slots := 0, locals := 0 }
def f_X8_toldNow (N : Nat) (S1 : St) (x1 : Int32) : Option (Int32) :=
  (if x1 = 0 then (
  some (S1.1 19)) else (
  (if x1 = (1 : Int32) then (
    some (S1.1 0)) else (
    (if x1 = (2 : Int32) then (
      some (S1.1 1)) else (
      (if x1 = (3 : Int32) then (
        some (S1.1 2)) else (
        (if x1 = (4 : Int32) then (
          some (S1.1 3)) else (
          (if x1 = (5 : Int32) then (
            some (S1.1 4)) else (
            (if x1 = (6 : Int32) then (
              some (S1.1 7)) else (
              (if x1 = (7 : Int32) then (
                some (S1.1 17)) else (
                (if x1 = (8 : Int32) then (
                  some (S1.1 5)) else (
                  some (-2 : Int32)))))))))))))))))))
set_option maxRecDepth 100000 in
set_option maxHeartbeats 4000000 in
theorem c_X8_toldNow (l : Launch) (g : GG) (N : Nat) (q1 : Nat → Nat) (S1 : St) (x1 : Int32) (r : Int32) (h : f_X8_toldNow N S1 x1 = some r) : Ci l yX8_toldNow wsX8_toldNow RM_X8_toldNow g [.ref (q1 100), .int x1] (wX8 g q1 S1) (wX8 g q1 S1) r := by
  intro sz
  refine Met.ofC (cc := cX8_toldNow) (maxL := 2) (ret := (some .int)) (by decide) rfl (Nat.le_of_ble_eq_true rfl) ?_
  intro p e s m below meth c hC hr hlk hsz A hA9 hA hP hD hS ls hl
  subst hsz
  have hC : Cx p s m ([.ref (q1 100), .int x1] : List Value).toArray c RX8 cX8_toldNow 2 wsX8_toldNow g := hC
  have hx := hC.1.1
  have hb := hC.1.2.1
  have hml := hC.1.2.2.1
  have hown := hC.1.2.2.2.1
  have hts := hC.1.2.2.2.2
  have hl : lv_has ls 2 [(0, .ref (q1 100)), (1, .int x1)] := hl
  show W p l e RM_X8_toldNow s m ([.ref (q1 100), .int x1] : List Value).toArray below meth c s.heap [] 0 0 (Qi below g [.ref (q1 100), .int x1] (wX8 g q1 S1) (wX8 g q1 S1) r s) (F0 m 0 ls [])
  unfold f_X8_toldNow at h
  refine lv_iload_n hx hb dX8_toldNow_0 rfl (lv_at hl 1 rfl) ?_
  refine k_if_ne (tgt := 11) hC dX8_toldNow_1 (by decide) h (fun h => ?_) (fun h => ?_)
  · refine lv_iload_n hx hb dX8_toldNow_11 rfl (lv_at hl 1 rfl) ?_
    refine lv_iconst (v := (1 : Int32)) hx hb dX8_toldNow_12 (by decide) ?_
    refine k_icmp_ne (tgt := 23) hC dX8_toldNow_13 (by decide) h (fun h => ?_) (fun h => ?_)
    · refine lv_iload_n hx hb dX8_toldNow_23 rfl (lv_at hl 1 rfl) ?_
      refine lv_iconst (v := (2 : Int32)) hx hb dX8_toldNow_24 (by decide) ?_
      refine k_icmp_ne (tgt := 35) hC dX8_toldNow_25 (by decide) h (fun h => ?_) (fun h => ?_)
      · refine lv_iload_n hx hb dX8_toldNow_35 rfl (lv_at hl 1 rfl) ?_
        refine lv_iconst (v := (3 : Int32)) hx hb dX8_toldNow_36 (by decide) ?_
        refine k_icmp_ne (tgt := 47) hC dX8_toldNow_37 (by decide) h (fun h => ?_) (fun h => ?_)
        · refine lv_iload_n hx hb dX8_toldNow_47 rfl (lv_at hl 1 rfl) ?_
          refine lv_iconst (v := (4 : Int32)) hx hb dX8_toldNow_48 (by decide) ?_
          refine k_icmp_ne (tgt := 59) hC dX8_toldNow_49 (by decide) h (fun h => ?_) (fun h => ?_)
          · refine lv_iload_n hx hb dX8_toldNow_59 rfl (lv_at hl 1 rfl) ?_
            refine lv_iconst (v := (5 : Int32)) hx hb dX8_toldNow_60 (by decide) ?_
            refine k_icmp_ne (tgt := 71) hC dX8_toldNow_61 (by decide) h (fun h => ?_) (fun h => ?_)
            · refine lv_iload_n hx hb dX8_toldNow_71 rfl (lv_at hl 1 rfl) ?_
              refine lv_bipush (v := (6 : Int32)) hx hb dX8_toldNow_72 (by decide) ?_
              refine k_icmp_ne (tgt := 84) hC dX8_toldNow_74 (by decide) h (fun h => ?_) (fun h => ?_)
              · refine lv_iload_n hx hb dX8_toldNow_84 rfl (lv_at hl 1 rfl) ?_
                refine lv_bipush (v := (7 : Int32)) hx hb dX8_toldNow_85 (by decide) ?_
                refine k_icmp_ne (tgt := 97) hC dX8_toldNow_87 (by decide) h (fun h => ?_) (fun h => ?_)
                · refine lv_iload_n hx hb dX8_toldNow_97 rfl (lv_at hl 1 rfl) ?_
                  refine lv_bipush (v := (8 : Int32)) hx hb dX8_toldNow_98 (by decide) ?_
                  refine k_icmp_ne (tgt := 110) hC dX8_toldNow_100 (by decide) h (fun h => ?_) (fun h => ?_)
                  · refine lv_bipush (v := (-2 : Int32)) hx hb dX8_toldNow_110 (by decide) ?_
                    obtain rfl := fx_i1 h
                    exact Ci.ret hC hr hlk hA9 hP hD hS dX8_toldNow_112
                  · refine lv_aload_n hx hb dX8_toldNow_103 rfl (lv_at hl 0 rfl) ?_
                    refine k_get (ci := 8) (k := 5) (q0 := 0) (v := .int (S1.1 5)) (C := RX8) (T := TX8) (N := 46) hC uX8_toldNow_X8 hP rfl rfl (by decide) (List.mem_of_getElem? (i := 9) rfl) rfl dX8_toldNow_104 ?_
                    refine lv_goto (tgt := 112) hx hb dX8_toldNow_107 (by decide) ?_
                    obtain rfl := fx_i1 h
                    exact Ci.ret hC hr hlk hA9 hP hD hS dX8_toldNow_112
                · refine lv_aload_n hx hb dX8_toldNow_90 rfl (lv_at hl 0 rfl) ?_
                  refine k_get (ci := 8) (k := 17) (q0 := 0) (v := .int (S1.1 17)) (C := RX8) (T := TX8) (N := 46) hC uX8_toldNow_X8 hP rfl rfl (by decide) (List.mem_of_getElem? (i := 8) rfl) rfl dX8_toldNow_91 ?_
                  refine lv_goto (tgt := 112) hx hb dX8_toldNow_94 (by decide) ?_
                  obtain rfl := fx_i1 h
                  exact Ci.ret hC hr hlk hA9 hP hD hS dX8_toldNow_112
              · refine lv_aload_n hx hb dX8_toldNow_77 rfl (lv_at hl 0 rfl) ?_
                refine k_get (ci := 8) (k := 7) (q0 := 0) (v := .int (S1.1 7)) (C := RX8) (T := TX8) (N := 46) hC uX8_toldNow_X8 hP rfl rfl (by decide) (List.mem_of_getElem? (i := 7) rfl) rfl dX8_toldNow_78 ?_
                refine lv_goto (tgt := 112) hx hb dX8_toldNow_81 (by decide) ?_
                obtain rfl := fx_i1 h
                exact Ci.ret hC hr hlk hA9 hP hD hS dX8_toldNow_112
            · refine lv_aload_n hx hb dX8_toldNow_64 rfl (lv_at hl 0 rfl) ?_
              refine k_get (ci := 8) (k := 4) (q0 := 0) (v := .int (S1.1 4)) (C := RX8) (T := TX8) (N := 46) hC uX8_toldNow_X8 hP rfl rfl (by decide) (List.mem_of_getElem? (i := 6) rfl) rfl dX8_toldNow_65 ?_
              refine lv_goto (tgt := 112) hx hb dX8_toldNow_68 (by decide) ?_
              obtain rfl := fx_i1 h
              exact Ci.ret hC hr hlk hA9 hP hD hS dX8_toldNow_112
          · refine lv_aload_n hx hb dX8_toldNow_52 rfl (lv_at hl 0 rfl) ?_
            refine k_get (ci := 8) (k := 3) (q0 := 0) (v := .int (S1.1 3)) (C := RX8) (T := TX8) (N := 46) hC uX8_toldNow_X8 hP rfl rfl (by decide) (List.mem_of_getElem? (i := 5) rfl) rfl dX8_toldNow_53 ?_
            refine lv_goto (tgt := 112) hx hb dX8_toldNow_56 (by decide) ?_
            obtain rfl := fx_i1 h
            exact Ci.ret hC hr hlk hA9 hP hD hS dX8_toldNow_112
        · refine lv_aload_n hx hb dX8_toldNow_40 rfl (lv_at hl 0 rfl) ?_
          refine k_get (ci := 8) (k := 2) (q0 := 0) (v := .int (S1.1 2)) (C := RX8) (T := TX8) (N := 46) hC uX8_toldNow_X8 hP rfl rfl (by decide) (List.mem_of_getElem? (i := 4) rfl) rfl dX8_toldNow_41 ?_
          refine lv_goto (tgt := 112) hx hb dX8_toldNow_44 (by decide) ?_
          obtain rfl := fx_i1 h
          exact Ci.ret hC hr hlk hA9 hP hD hS dX8_toldNow_112
      · refine lv_aload_n hx hb dX8_toldNow_28 rfl (lv_at hl 0 rfl) ?_
        refine k_get (ci := 8) (k := 1) (q0 := 0) (v := .int (S1.1 1)) (C := RX8) (T := TX8) (N := 46) hC uX8_toldNow_X8 hP rfl rfl (by decide) (List.mem_of_getElem? (i := 3) rfl) rfl dX8_toldNow_29 ?_
        refine lv_goto (tgt := 112) hx hb dX8_toldNow_32 (by decide) ?_
        obtain rfl := fx_i1 h
        exact Ci.ret hC hr hlk hA9 hP hD hS dX8_toldNow_112
    · refine lv_aload_n hx hb dX8_toldNow_16 rfl (lv_at hl 0 rfl) ?_
      refine k_get (ci := 8) (k := 0) (q0 := 0) (v := .int (S1.1 0)) (C := RX8) (T := TX8) (N := 46) hC uX8_toldNow_X8 hP rfl rfl (by decide) (List.mem_of_getElem? (i := 2) rfl) rfl dX8_toldNow_17 ?_
      refine lv_goto (tgt := 112) hx hb dX8_toldNow_20 (by decide) ?_
      obtain rfl := fx_i1 h
      exact Ci.ret hC hr hlk hA9 hP hD hS dX8_toldNow_112
  · refine lv_aload_n hx hb dX8_toldNow_4 rfl (lv_at hl 0 rfl) ?_
    refine k_get (ci := 8) (k := 19) (q0 := 0) (v := .int (S1.1 19)) (C := RX8) (T := TX8) (N := 46) hC uX8_toldNow_X8 hP rfl rfl (by decide) (List.mem_of_getElem? (i := 1) rfl) rfl dX8_toldNow_5 ?_
    refine lv_goto (tgt := 112) hx hb dX8_toldNow_8 (by decide) ?_
    obtain rfl := fx_i1 h
    exact Ci.ret hC hr hlk hA9 hP hD hS dX8_toldNow_112
theorem uX8_told_X8 : ∀ w ∈ u_ws RX8 TX8 46, w ∈ wsX8_told := fun w h => List.mem_cons_of_mem _ (List.mem_append_right _ h)
abbrev RM_X8_told : Room := { frames := 4, cells := 0, slots := 0, locals := 88 }
def f_X8_told (N : Nat) (S1 : St) (x1 : Int32) : Option (Int32) :=
  fx_b1 (f_X8_in N (Int32.toInt64 x1) (20 : Int64) (79 : Int64)) (fun v101 =>
  (if v101 = 0 then (
  fx_b1 (f_X8_in N (Int32.toInt64 x1) (10 : Int64) ((9 : Int64) + (Int32.toInt64 (S1.1 1)))) (fun v102 =>
    (if v102 = 0 then (
    fx_b1 (f_X8_toldNow N S1 x1) (fun v103 =>
      some v103)) else (
    fx_ald 6 (S1.2 6) (x1 - (10 : Int32)) (fun v105 =>
      some v105))))) else (
  fx_b1 (f_X8_toldOfSort N S1 ((x1 / (10 : Int32)) - (2 : Int32)) (x1 - x1 / (10 : Int32) * (10 : Int32))) (fun v107 =>
    some v107))))
set_option maxRecDepth 100000 in
set_option maxHeartbeats 4000000 in
theorem c_X8_told (l : Launch) (g : GG) (N : Nat) (q1 : Nat → Nat) (S1 : St) (x1 : Int32) (r : Int32) (h : f_X8_told N S1 x1 = some r) : Ci l yX8_told wsX8_told RM_X8_told g [.ref (q1 100), .int x1] (wX8 g q1 S1) (wX8 g q1 S1) r := by
  intro sz
  refine Met.ofC (cc := cX8_told) (maxL := 2) (ret := (some .int)) (by decide) rfl (Nat.le_of_ble_eq_true rfl) ?_
  intro p e s m below meth c hC hr hlk hsz A hA9 hA hP hD hS ls hl
  subst hsz
  have hC : Cx p s m ([.ref (q1 100), .int x1] : List Value).toArray c RX8 cX8_told 2 wsX8_told g := hC
  have hx := hC.1.1
  have hb := hC.1.2.1
  have hml := hC.1.2.2.1
  have hown := hC.1.2.2.2.1
  have hts := hC.1.2.2.2.2
  have hl : lv_has ls 2 [(0, .ref (q1 100)), (1, .int x1)] := hl
  show W p l e RM_X8_told s m ([.ref (q1 100), .int x1] : List Value).toArray below meth c s.heap [] 0 0 (Qi below g [.ref (q1 100), .int x1] (wX8 g q1 S1) (wX8 g q1 S1) r s) (F0 m 0 ls [])
  unfold f_X8_told at h
  refine lv_iload_n hx hb dX8_told_0 rfl (lv_at hl 1 rfl) ?_
  refine lv_i2l hx hb dX8_told_1 rfl ?_
  refine lv_ldc2 (v := (20 : Int64)) hx hb hown (hts _ (List.mem_of_getElem? (i := 1) rfl)) dX8_told_2 ?_
  refine lv_ldc2 (v := (79 : Int64)) hx hb hown (hts _ (List.mem_of_getElem? (i := 2) rfl)) dX8_told_5 ?_
  obtain ⟨v101, hc109, h⟩ := fx_b1_s h
  refine k_callSi0 (n := 3) (As := [.long (Int32.toInt64 x1), .long (20 : Int64), .long (79 : Int64)]) (rest := []) (wc := ([] : va_W)) (bytes := cX8_in) (maxL := 6) (ret := (some .boolean)) hC hl.1 (c_X8_in l g N (Int32.toInt64 x1) (20 : Int64) (79 : Int64) v101 hc109) rfl gX8_told_X8_in (by decide +kernel) ⟨Nat.le_of_ble_eq_true rfl, Nat.le_of_ble_eq_true rfl⟩ rfl rfl rfl (Nat.le_of_ble_eq_true rfl) ⟨Nat.le_of_ble_eq_true rfl, Nat.le_of_ble_eq_true rfl⟩ dX8_told_8 hP hD hS hA [] rfl (by decide +kernel) (fun H locs hP hD hS => ?_)
  refine k_if_eq (tgt := 29) hC dX8_told_11 (by decide) h (fun h => ?_) (fun h => ?_)
  · refine lv_iload_n hx hb dX8_told_29 rfl (lv_at hl 1 rfl) ?_
    refine lv_i2l hx hb dX8_told_30 rfl ?_
    refine lv_ldc2 (v := (10 : Int64)) hx hb hown (hts _ (List.mem_of_getElem? (i := 3) rfl)) dX8_told_31 ?_
    refine lv_ldc2 (v := (9 : Int64)) hx hb hown (hts _ (List.mem_of_getElem? (i := 4) rfl)) dX8_told_34 ?_
    refine lv_aload_n hx hb dX8_told_37 rfl (lv_at hl 0 rfl) ?_
    refine k_get (ci := 8) (k := 1) (q0 := 0) (v := .int (S1.1 1)) (C := RX8) (T := TX8) (N := 46) hC uX8_told_X8 hP rfl rfl (by decide) (List.mem_of_getElem? (i := 5) rfl) rfl dX8_told_38 ?_
    refine lv_i2l hx hb dX8_told_41 rfl ?_
    refine lv_ladd hx hb dX8_told_42 ?_
    obtain ⟨v102, hc106, h⟩ := fx_b1_s h
    refine k_callSi0 (n := 3) (As := [.long (Int32.toInt64 x1), .long (10 : Int64), .long ((9 : Int64) + (Int32.toInt64 (S1.1 1)))]) (rest := []) (wc := ([] : va_W)) (bytes := cX8_in) (maxL := 6) (ret := (some .boolean)) hC hl.1 (c_X8_in l g N (Int32.toInt64 x1) (10 : Int64) ((9 : Int64) + (Int32.toInt64 (S1.1 1))) v102 hc106) rfl gX8_told_X8_in (by decide +kernel) ⟨Nat.le_of_ble_eq_true rfl, Nat.le_of_ble_eq_true rfl⟩ rfl rfl rfl (Nat.le_of_ble_eq_true rfl) ⟨Nat.le_of_ble_eq_true rfl, Nat.le_of_ble_eq_true rfl⟩ dX8_told_43 hP hD hS hA [] rfl (by decide +kernel) (fun H locs hP hD hS => ?_)
    refine k_if_eq (tgt := 61) hC dX8_told_46 (by decide) h (fun h => ?_) (fun h => ?_)
    · refine lv_aload_n hx hb dX8_told_61 rfl (lv_at hl 0 rfl) ?_
      refine lv_iload_n hx hb dX8_told_62 rfl (lv_at hl 1 rfl) ?_
      obtain ⟨v103, hc104, h⟩ := fx_b1_s h
      refine k_callVi0 (C := RX8) (ci := 8) (qr := 0) (n := 1) (As := [.int x1]) (rest := []) (wc := (wX8 g q1 S1)) (bytes := cX8_toldNow) (maxL := 2) (ret := (some .int)) hC hl.1 (c_X8_toldNow l g N q1 S1 x1 v103 hc104) rfl gX8_told_X8_toldNow (by decide +kernel) rfl rfl ⟨Nat.le_of_ble_eq_true rfl, Nat.le_of_ble_eq_true rfl⟩ rfl rfl rfl (Nat.le_of_ble_eq_true rfl) ⟨Nat.le_of_ble_eq_true rfl, Nat.le_of_ble_eq_true rfl⟩ dX8_told_63 hP hD hS hA [0, 1, 2, 3, 4, 5, 6, 7, 8, 9, 10, 11, 12, 13, 14, 15, 16, 17, 18, 19, 20, 21, 22, 23] rfl (by decide +kernel) (fun H locs hP hD hS => ?_)
      obtain rfl := fx_i1 h
      exact Ci.ret hC hr hlk hA9 hP hD hS dX8_told_66
    · refine lv_aload_n hx hb dX8_told_49 rfl (lv_at hl 0 rfl) ?_
      refine k_get (ci := 8) (k := 6) (q0 := 0) (v := .ref (q1 6)) (C := RX8) (T := TX8) (N := 46) hC uX8_told_X8 hP rfl rfl (by decide) (List.mem_of_getElem? (i := 6) rfl) rfl dX8_told_50 ?_
      refine lv_iload_n hx hb dX8_told_53 rfl (lv_at hl 1 rfl) ?_
      refine lv_bipush (v := (10 : Int32)) hx hb dX8_told_54 (by decide) ?_
      refine lv_isub hx hb dX8_told_56 ?_
      refine k_ald (q0 := 1) (n := 6) (F := S1.2 6) hC hP rfl dX8_told_57 h (fun v105 h => ?_)
      refine lv_goto (tgt := 66) hx hb dX8_told_58 (by decide) ?_
      obtain rfl := fx_i1 h
      exact Ci.ret hC hr hlk hA9 hP hD hS dX8_told_66
  · refine lv_aload_n hx hb dX8_told_14 rfl (lv_at hl 0 rfl) ?_
    refine lv_iload_n hx hb dX8_told_15 rfl (lv_at hl 1 rfl) ?_
    refine lv_bipush (v := (10 : Int32)) hx hb dX8_told_16 (by decide) ?_
    refine lv_idiv hx hb dX8_told_18 (by decide) ?_
    refine lv_iconst (v := (2 : Int32)) hx hb dX8_told_19 (by decide) ?_
    refine lv_isub hx hb dX8_told_20 ?_
    refine lv_iload_n hx hb dX8_told_21 rfl (lv_at hl 1 rfl) ?_
    refine lv_bipush (v := (10 : Int32)) hx hb dX8_told_22 (by decide) ?_
    refine lv_irem hx hb dX8_told_24 (by decide) ?_
    obtain ⟨v107, hc108, h⟩ := fx_b1_s h
    refine k_callVi0 (C := RX8) (ci := 8) (qr := 0) (n := 2) (As := [.int ((x1 / (10 : Int32)) - (2 : Int32)), .int (x1 - x1 / (10 : Int32) * (10 : Int32))]) (rest := []) (wc := (wX8 g q1 S1)) (bytes := cX8_toldOfSort) (maxL := 3) (ret := (some .int)) hC hl.1 (c_X8_toldOfSort l g N q1 S1 ((x1 / (10 : Int32)) - (2 : Int32)) (x1 - x1 / (10 : Int32) * (10 : Int32)) v107 hc108) rfl gX8_told_X8_toldOfSort (by decide +kernel) rfl rfl ⟨Nat.le_of_ble_eq_true rfl, Nat.le_of_ble_eq_true rfl⟩ rfl rfl rfl (Nat.le_of_ble_eq_true rfl) ⟨Nat.le_of_ble_eq_true rfl, Nat.le_of_ble_eq_true rfl⟩ dX8_told_25 hP hD hS hA [0, 1, 2, 3, 4, 5, 6, 7, 8, 9, 10, 11, 12, 13, 14, 15, 16, 17, 18, 19, 20, 21, 22, 23] rfl (by decide +kernel) (fun H locs hP hD hS => ?_)
    obtain rfl := fx_i1 h
    exact Ci.ret hC hr hlk hA9 hP hD hS dX8_told_28
