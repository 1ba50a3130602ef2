/-! laid by wip/whole/gen.py out of the printed names and instructions: what each method does (f_), and that its bytecode does it (c_) -/
theorem uX8_findRipe_X8 : ∀ w ∈ u_ws RX8 TX8 46, w ∈ wsX8_findRipe := fun w h => List.mem_cons_of_mem _ (List.mem_append_right _ h)
abbrev RM_X8_findRipe : Room := { frames := 1, cells := 0, slots := 0, locals := 22 }
def bd_X8_findRipe_21 (N : Nat) (x1 : Int32) (x2 : Int32) (x4 : Int32) (x5 : Int32) (x6 : Int32) (S1 : St) (rec : (Int32 × Int32 × Int32 × St) → Option (St)) : Option (St) :=
  (if (999 : Int32) < x6 then (
    some S1) else (
    fx_ald 6 (S1.2 6) x2 (fun v101 =>
      fx_b1 ((if x4 ≤ v101 then (
      some (0 : Int32)) else (
      fx_ald 6 (S1.2 6) x2 (fun v118 =>
        some (x4 - v118)))) : Option (Int32)) (fun v102 =>
      fx_lt (x5 + v102) (fun x104 =>
        fx_b1 ((if x4 ≤ (S1.1 3) then (
        some (0 : Int32)) else (
        some (x4 - (S1.1 3)))) : Option (Int32)) (fun v105 =>
        fx_b1 (f_X8_ripeness N S1 x1 x104) (fun v107 =>
          (if v107 = (1 : Int32) then (
          fx_b1 ((if 0 ≤ (S1.1 28) then (
            some (S1.1 28)) else (
            some x6)) : Option (Int32)) (fun v109 =>
            fx_lt (stI S1 28 v109) (fun S111 =>
              fx_lt (stI S111 29 x6) (fun S112 =>
              fx_lt (x6 + (1 : Int32)) (fun x113 =>
              rec (v105, x104, x113, S112)))))) else (
          fx_lt (x6 + (1 : Int32)) (fun x108 =>
            rec (v105, x104, x108, S1)))))))))))
def lf_X8_findRipe_21 (N : Nat) (x1 : Int32) (x2 : Int32) : (Int32 × Int32 × Int32 × St) → ((Int32 × Int32 × Int32 × St) → Option (St)) → Option (St) := fun x rec => bd_X8_findRipe_21 N x1 x2 x.1 x.2.1 x.2.2.1 x.2.2.2 rec
set_option maxRecDepth 100000 in
set_option maxHeartbeats 4000000 in
theorem lw_X8_findRipe_21 {p : Program} {l : Launch} {e : Env} {s : State} {m : MethodId} {args : Array Value} {below : List Frame} {meth : Method} {c : Code} {Q : State → Prop} {A : Nat → Prop} {H0 : Heap} {g : GG} (hC : Cx p s m args c RX8 cX8_findRipe 7 wsX8_findRipe g) (hA : ∀ q : Nat, H0.size ≤ q → A q) (N : Nat) (q1 : Nat → Nat) (x1 : Int32) (x2 : Int32) : ∀ (n : Nat) (x4 : Int32) (x5 : Int32) (x6 : Int32) (S1 : St) (o : St), fx_it (lf_X8_findRipe_21 N x1 x2) n (x4, x5, x6, S1) = some o → ∀ (H : Heap) (locs : List Loc) (ls : Array Slot), va_P g.1 vwCl (wX8 g q1 S1) H → va_D A (wX8 g q1 S1) → va_S A H0 H locs → lv_has ls 7 [(0, .ref (q1 100)), (1, .int x1), (2, .int x2), (4, .int x4), (5, .int x5), (6, .int x6)] → (∀ (Z0 : St), o = Z0 → ∀ (H : Heap) (locs : List Loc) (ls : Array Slot), va_P g.1 vwCl (wX8 g q1 Z0) H → va_D A (wX8 g q1 Z0) → va_S A H0 H locs → lv_has ls 7 [] → W p l e RM_X8_findRipe s m args below meth c H locs 0 0 Q (F0 m 123 ls [])) → W p l e RM_X8_findRipe s m args below meth c H locs 0 0 Q (F0 m 21 ls []) := by
  have hx := hC.1.1
  have hb := hC.1.2.1
  have hml := hC.1.2.2.1
  have hown := hC.1.2.2.2.1
  have hts := hC.1.2.2.2.2
  intro n
  induction n with
  | zero => intro x4 x5 x6 S1 o h; cases h
  | succ n ih =>
    intro x4 x5 x6 S1 o h H locs ls hP hD hS hl k0
    have h : bd_X8_findRipe_21 N x1 x2 x4 x5 x6 S1 (fx_it (lf_X8_findRipe_21 N x1 x2) n) = some o := h
    unfold bd_X8_findRipe_21 at h
    refine lv_iload hx hb dX8_findRipe_21 (lv_at hl 5 rfl) ?_
    refine lv_sipush (v := (999 : Int32)) hx hb dX8_findRipe_23 (by decide) ?_
    refine k_icmp_gt (tgt := 123) hC dX8_findRipe_26 (by decide) h (fun h => ?_) (fun h => ?_)
    · exact k0 S1 (Option.some.inj h).symm _ _ _ hP hD hS (lv_sub hl [] rfl)
    · refine lv_iload hx hb dX8_findRipe_29 (lv_at hl 4 rfl) ?_
      refine lv_iload hx hb dX8_findRipe_31 (lv_at hl 3 rfl) ?_
      refine lv_aload_n hx hb dX8_findRipe_33 rfl (lv_at hl 0 rfl) ?_
      refine k_get (ci := 8) (k := 6) (q0 := 0) (v := .ref (q1 6)) (C := RX8) (T := TX8) (N := 46) hC uX8_findRipe_X8 hP rfl rfl (by decide) (List.mem_of_getElem? (i := 3) rfl) rfl dX8_findRipe_34 ?_
      refine lv_iload_n hx hb dX8_findRipe_37 rfl (lv_at hl 2 rfl) ?_
      refine k_ald (q0 := 1) (n := 6) (F := S1.2 6) hC hP rfl dX8_findRipe_38 h (fun v101 h => ?_)
      obtain ⟨v102, hv103, h⟩ := fx_b1_s h
      have K117 : ∀ (H : Heap) (locs : List Loc) (ls : Array Slot), va_P g.1 vwCl (wX8 g q1 S1) H → va_D A (wX8 g q1 S1) → va_S A H0 H locs → lv_has ls 7 [(0, .ref (q1 100)), (1, .int x1), (2, .int x2), (4, .int x4), (6, .int x6)] → W p l e RM_X8_findRipe s m args below meth c H locs 0 0 Q (F0 m 55 ls [.int v102, .int x5]) := by
        intro H locs ls hP hD hS hl
        refine lv_iadd hx hb dX8_findRipe_55 ?_
        refine k_topi h (fun x104 h => ?_)
        refine lv_istore (lv' := [(5, .int x104), (0, .ref (q1 100)), (1, .int x1), (2, .int x2), (4, .int x4), (6, .int x6)]) hx hb dX8_findRipe_56 hl (by decide) rfl (fun ls hl => ?_)
        refine lv_iload hx hb dX8_findRipe_58 (lv_at hl 4 rfl) ?_
        refine lv_aload_n hx hb dX8_findRipe_60 rfl (lv_at hl 1 rfl) ?_
        refine k_get (ci := 8) (k := 3) (q0 := 0) (v := .int (S1.1 3)) (C := RX8) (T := TX8) (N := 46) hC uX8_findRipe_X8 hP rfl rfl (by decide) (List.mem_of_getElem? (i := 4) rfl) rfl dX8_findRipe_61 ?_
        obtain ⟨v105, hv106, h⟩ := fx_b1_s h
        have K116 : ∀ (H : Heap) (locs : List Loc) (ls : Array Slot), va_P g.1 vwCl (wX8 g q1 S1) H → va_D A (wX8 g q1 S1) → va_S A H0 H locs → lv_has ls 7 [(5, .int x104), (0, .ref (q1 100)), (1, .int x1), (2, .int x2), (6, .int x6)] → W p l e RM_X8_findRipe s m args below meth c H locs 0 0 Q (F0 m 78 ls [.int v105]) := by
          intro H locs ls hP hD hS hl
          refine lv_istore (lv' := [(4, .int v105), (5, .int x104), (0, .ref (q1 100)), (1, .int x1), (2, .int x2), (6, .int x6)]) hx hb dX8_findRipe_78 hl (by decide) rfl (fun ls hl => ?_)
          refine lv_aload_n hx hb dX8_findRipe_80 rfl (lv_at hl 2 rfl) ?_
          refine lv_iload_n hx hb dX8_findRipe_81 rfl (lv_at hl 3 rfl) ?_
          refine lv_iload hx hb dX8_findRipe_82 (lv_at hl 1 rfl) ?_
          obtain ⟨v107, hc115, h⟩ := fx_b1_s h
          refine k_callVi0 (C := RX8) (ci := 8) (qr := 0) (n := 2) (As := [.int x1, .int x104]) (rest := []) (wc := (wX8 g q1 S1)) (bytes := cX8_ripeness) (maxL := 3) (ret := (some .int)) hC hl.1 (c_X8_ripeness l g N q1 S1 x1 x104 v107 hc115) rfl gX8_findRipe_X8_ripeness (by decide +kernel) rfl rfl ⟨Nat.le_of_ble_eq_true rfl, Nat.le_of_ble_eq_true rfl⟩ rfl rfl rfl (Nat.le_of_ble_eq_true rfl) ⟨Nat.le_of_ble_eq_true rfl, Nat.le_of_ble_eq_true rfl⟩ dX8_findRipe_84 hP hD hS hA [0, 1, 2, 3, 4, 5, 6, 7, 8, 9, 10, 11, 12, 13, 14, 15, 16, 17, 18, 19, 20, 21, 22, 23] rfl (by decide +kernel) (fun H locs hP hD hS => ?_)
          refine lv_iconst (v := (1 : Int32)) hx hb dX8_findRipe_87 (by decide) ?_
          refine k_icmp_ne (tgt := 117) hC dX8_findRipe_88 (by decide) h (fun h => ?_) (fun h => ?_)
          · refine k_iinc (v := (1 : Int32)) (lv' := fun X => [(6, .int X), (4, .int v105), (5, .int x104), (0, .ref (q1 100)), (1, .int x1), (2, .int x2)]) hC dX8_findRipe_117 hl (k := 5) rfl (by decide) (by decide) (fun _ => rfl) h (fun x108 h ls hl => ?_)
            refine lv_goto (tgt := 21) hx hb dX8_findRipe_120 (by decide) ?_
            exact ih v105 x104 x108 S1 o h _ _ _ hP hD hS (lv_sub hl [3, 4, 5, 1, 2, 0] rfl) k0
          · refine lv_aload_n hx hb dX8_findRipe_91 rfl (lv_at hl 2 rfl) ?_
            refine lv_aload_n hx hb dX8_findRipe_92 rfl (lv_at hl 2 rfl) ?_
            refine k_get (ci := 8) (k := 28) (q0 := 0) (v := .int (S1.1 28)) (C := RX8) (T := TX8) (N := 46) hC uX8_findRipe_X8 hP rfl rfl (by decide) (List.mem_of_getElem? (i := 1) rfl) rfl dX8_findRipe_93 ?_
            obtain ⟨v109, hv110, h⟩ := fx_b1_s h
            have K114 : ∀ (H : Heap) (locs : List Loc) (ls : Array Slot), va_P g.1 vwCl (wX8 g q1 S1) H → va_D A (wX8 g q1 S1) → va_S A H0 H locs → lv_has ls 7 [(4, .int v105), (5, .int x104), (0, .ref (q1 100)), (1, .int x1), (2, .int x2), (6, .int x6)] → W p l e RM_X8_findRipe s m args below meth c H locs 0 0 Q (F0 m 108 ls [.int v109, .ref (q1 100)]) := by
              intro H locs ls hP hD hS hl
              refine k_put (ci := 8) (k := 28) (q0 := 0) (C := RX8) (T := TX8) (N := 46) (S2 := stI S1 28 v109) tyX8 (fun S => (wX8 g q1 S)) hC uX8_findRipe_X8 tyX8_ok nmX8 hP hD hS rfl rfl (by decide) (List.mem_of_getElem? (i := 1) rfl) rfl (tyX8_ok 28 (by decide)) (Nat.le_of_ble_eq_true rfl) dX8_findRipe_108 rfl h (fun S111 h H locs hP hD hS => ?_)
              refine lv_aload_n hx hb dX8_findRipe_111 rfl (lv_at hl 2 rfl) ?_
              refine lv_iload hx hb dX8_findRipe_112 (lv_at hl 5 rfl) ?_
              refine k_put (ci := 8) (k := 29) (q0 := 0) (C := RX8) (T := TX8) (N := 46) (S2 := stI S111 29 x6) tyX8 (fun S => (wX8 g q1 S)) hC uX8_findRipe_X8 tyX8_ok nmX8 hP hD hS rfl rfl (by decide) (List.mem_of_getElem? (i := 2) rfl) rfl (tyX8_ok 29 (by decide)) (Nat.le_of_ble_eq_true rfl) dX8_findRipe_114 rfl h (fun S112 h H locs hP hD hS => ?_)
              refine k_iinc (v := (1 : Int32)) (lv' := fun X => [(6, .int X), (4, .int v105), (5, .int x104), (0, .ref (q1 100)), (1, .int x1), (2, .int x2)]) hC dX8_findRipe_117 hl (k := 5) rfl (by decide) (by decide) (fun _ => rfl) h (fun x113 h ls hl => ?_)
              refine lv_goto (tgt := 21) hx hb dX8_findRipe_120 (by decide) ?_
              exact ih v105 x104 x113 S112 o h _ _ _ hP hD hS (lv_sub hl [3, 4, 5, 1, 2, 0] rfl) k0
            refine k_if_ge (tgt := 104) hC dX8_findRipe_96 (by decide) hv110 (fun hv110 => ?_) (fun hv110 => ?_)
            · refine lv_aload_n hx hb dX8_findRipe_104 rfl (lv_at hl 2 rfl) ?_
              refine k_get (ci := 8) (k := 28) (q0 := 0) (v := .int (S1.1 28)) (C := RX8) (T := TX8) (N := 46) hC uX8_findRipe_X8 hP rfl rfl (by decide) (List.mem_of_getElem? (i := 1) rfl) rfl dX8_findRipe_105 ?_
              obtain rfl := fx_i1 hv110
              exact K114 _ _ _ hP hD hS (lv_sub hl [0, 1, 2, 3, 4, 5] rfl)
            · refine lv_iload hx hb dX8_findRipe_99 (lv_at hl 5 rfl) ?_
              refine lv_goto (tgt := 108) hx hb dX8_findRipe_101 (by decide) ?_
              obtain rfl := fx_i1 hv110
              exact K114 _ _ _ hP hD hS (lv_sub hl [0, 1, 2, 3, 4, 5] rfl)
        refine k_icmp_le (tgt := 77) hC dX8_findRipe_64 (by decide) hv106 (fun hv106 => ?_) (fun hv106 => ?_)
        · refine lv_iconst (v := (0 : Int32)) hx hb dX8_findRipe_77 (by decide) ?_
          obtain rfl := fx_i1 hv106
          exact K116 _ _ _ hP hD hS (lv_sub hl [0, 1, 2, 3, 5] rfl)
        · refine lv_iload hx hb dX8_findRipe_67 (lv_at hl 4 rfl) ?_
          refine lv_aload_n hx hb dX8_findRipe_69 rfl (lv_at hl 1 rfl) ?_
          refine k_get (ci := 8) (k := 3) (q0 := 0) (v := .int (S1.1 3)) (C := RX8) (T := TX8) (N := 46) hC uX8_findRipe_X8 hP rfl rfl (by decide) (List.mem_of_getElem? (i := 4) rfl) rfl dX8_findRipe_70 ?_
          refine lv_isub hx hb dX8_findRipe_73 ?_
          refine lv_goto (tgt := 78) hx hb dX8_findRipe_74 (by decide) ?_
          obtain rfl := fx_i1 hv106
          exact K116 _ _ _ hP hD hS (lv_sub hl [0, 1, 2, 3, 5] rfl)
      refine k_icmp_le (tgt := 54) hC dX8_findRipe_39 (by decide) hv103 (fun hv103 => ?_) (fun hv103 => ?_)
      · refine lv_iconst (v := (0 : Int32)) hx hb dX8_findRipe_54 (by decide) ?_
        obtain rfl := fx_i1 hv103
        exact K117 _ _ _ hP hD hS (lv_sub hl [0, 1, 2, 3, 5] rfl)
      · refine lv_iload hx hb dX8_findRipe_42 (lv_at hl 3 rfl) ?_
        refine lv_aload_n hx hb dX8_findRipe_44 rfl (lv_at hl 0 rfl) ?_
        refine k_get (ci := 8) (k := 6) (q0 := 0) (v := .ref (q1 6)) (C := RX8) (T := TX8) (N := 46) hC uX8_findRipe_X8 hP rfl rfl (by decide) (List.mem_of_getElem? (i := 3) rfl) rfl dX8_findRipe_45 ?_
        refine lv_iload_n hx hb dX8_findRipe_48 rfl (lv_at hl 2 rfl) ?_
        refine k_ald (q0 := 1) (n := 6) (F := S1.2 6) hC hP rfl dX8_findRipe_49 hv103 (fun v118 hv103 => ?_)
        refine lv_isub hx hb dX8_findRipe_50 ?_
        refine lv_goto (tgt := 55) hx hb dX8_findRipe_51 (by decide) ?_
        obtain rfl := fx_i1 hv103
        exact K117 _ _ _ hP hD hS (lv_sub hl [0, 1, 2, 3, 5] rfl)
def f_X8_findRipe (N : Nat) (S1 : St) (x1 : Int32) (x2 : Int32) (x3 : Int32) : Option (St) :=
  fx_lt (stI S1 28 (-6 : Int32)) (fun S101 =>
  fx_lt (stI S101 29 (-6 : Int32)) (fun S102 =>
  fx_b1 (fx_it (lf_X8_findRipe_21 N x1 x2) N (x3, (0 : Int32), (1 : Int32), S102)) (fun S103 =>
  some S103)))
set_option maxRecDepth 100000 in
set_option maxHeartbeats 4000000 in
theorem c_X8_findRipe (l : Launch) (g : GG) (N : Nat) (q1 : Nat → Nat) (S1 : St) (x1 : Int32) (x2 : Int32) (x3 : Int32) (F1 : St) (h : f_X8_findRipe N S1 x1 x2 x3 = some F1) : Cv l yX8_findRipe wsX8_findRipe RM_X8_findRipe g [.ref (q1 100), .int x1, .int x2, .int x3] (wX8 g q1 S1) (wX8 g q1 F1) := by
  intro sz
  refine Met.ofC (cc := cX8_findRipe) (maxL := 7) (ret := none) (by decide) rfl (Nat.le_of_ble_eq_true rfl) ?_
  intro p e s m below meth c hC hr hlk hsz A hA9 hA hP hD hS ls hl
  subst hsz
  have hC : Cx p s m ([.ref (q1 100), .int x1, .int x2, .int x3] : List Value).toArray c RX8 cX8_findRipe 7 wsX8_findRipe g := hC
  have hx := hC.1.1
  have hb := hC.1.2.1
  have hml := hC.1.2.2.1
  have hown := hC.1.2.2.2.1
  have hts := hC.1.2.2.2.2
  have hl : lv_has ls 7 [(0, .ref (q1 100)), (1, .int x1), (2, .int x2), (3, .int x3)] := hl
  show W p l e RM_X8_findRipe s m ([.ref (q1 100), .int x1, .int x2, .int x3] : List Value).toArray below meth c s.heap [] 0 0 (Qv below g [.ref (q1 100), .int x1, .int x2, .int x3] (wX8 g q1 S1) (wX8 g q1 F1) s) (F0 m 0 ls [])
  unfold f_X8_findRipe at h
  refine lv_aload_n hx hb dX8_findRipe_0 rfl (lv_at hl 0 rfl) ?_
  refine lv_bipush (v := (-6 : Int32)) hx hb dX8_findRipe_1 (by decide) ?_
  refine k_put (ci := 8) (k := 28) (q0 := 0) (C := RX8) (T := TX8) (N := 46) (S2 := stI S1 28 (-6 : Int32)) tyX8 (fun S => (wX8 g q1 S)) hC uX8_findRipe_X8 tyX8_ok nmX8 hP hD hS rfl rfl (by decide) (List.mem_of_getElem? (i := 1) rfl) rfl (tyX8_ok 28 (by decide)) (Nat.le_of_ble_eq_true rfl) dX8_findRipe_3 rfl h (fun S101 h H locs hP hD hS => ?_)
  refine lv_aload_n hx hb dX8_findRipe_6 rfl (lv_at hl 0 rfl) ?_
  refine lv_bipush (v := (-6 : Int32)) hx hb dX8_findRipe_7 (by decide) ?_
  refine k_put (ci := 8) (k := 29) (q0 := 0) (C := RX8) (T := TX8) (N := 46) (S2 := stI S101 29 (-6 : Int32)) tyX8 (fun S => (wX8 g q1 S)) hC uX8_findRipe_X8 tyX8_ok nmX8 hP hD hS rfl rfl (by decide) (List.mem_of_getElem? (i := 2) rfl) rfl (tyX8_ok 29 (by decide)) (Nat.le_of_ble_eq_true rfl) dX8_findRipe_9 rfl h (fun S102 h H locs hP hD hS => ?_)
  refine lv_iload_n hx hb dX8_findRipe_12 rfl (lv_at hl 3 rfl) ?_
  refine lv_istore (lv' := [(4, .int x3), (0, .ref (q1 100)), (1, .int x1), (2, .int x2), (3, .int x3)]) hx hb dX8_findRipe_13 hl (by decide) rfl (fun ls hl => ?_)
  refine lv_iconst (v := (0 : Int32)) hx hb dX8_findRipe_15 (by decide) ?_
  refine lv_istore (lv' := [(5, .int (0 : Int32)), (4, .int x3), (0, .ref (q1 100)), (1, .int x1), (2, .int x2), (3, .int x3)]) hx hb dX8_findRipe_16 hl (by decide) rfl (fun ls hl => ?_)
  refine lv_iconst (v := (1 : Int32)) hx hb dX8_findRipe_18 (by decide) ?_
  refine lv_istore (lv' := [(6, .int (1 : Int32)), (5, .int (0 : Int32)), (4, .int x3), (0, .ref (q1 100)), (1, .int x1), (2, .int x2), (3, .int x3)]) hx hb dX8_findRipe_19 hl (by decide) rfl (fun ls hl => ?_)
  obtain ⟨S103, ho104, h⟩ := fx_b1_s h
  refine lw_X8_findRipe_21 hC hA N q1 x1 x2 N x3 (0 : Int32) (1 : Int32) S102  S103 ho104 _ _ _ hP hD hS (lv_sub hl [3, 4, 5, 2, 1, 0] rfl) ?_
  · intro y0 he H locs ls hP hD hS hl
    obtain rfl := he
    obtain rfl := fx_i1 h
    exact Cv.ret hC hr hlk hA9 hP hD hS dX8_findRipe_123
theorem uX8_ripe_X8 : ∀ w ∈ u_ws RX8 TX8 46, w ∈ wsX8_ripe := fun w h => List.mem_cons_of_mem _ (List.mem_append_right _ h)
abbrev RM_X8_ripe : Room := { frames := 3, cells := 0, slots := 0, locals := 66 }
def f_X8_ripe (N : Nat) (S1 : St) (x1 : Int32) (x2 : Int32) (x3 : Int32) : Option (Int32 × St) :=
  fx_b1 (f_X8_isSort N S1 x1) (fun v101 =>
  (if v101 = 0 then (
  some ((-1 : Int32), S1)) else (
  fx_b1 (f_X8_isPlace N S1 x2) (fun v102 =>
    (if v102 = 0 then (
    some ((-1 : Int32), S1)) else (
    fx_b1 (f_X8_in N (Int32.toInt64 x3) (0 : Int64) (1 : Int64)) (fun v103 =>
      (if v103 = 0 then (
      some ((-2 : Int32), S1)) else (
      fx_b1 (f_X8_findRipe N S1 x1 x2 (S1.1 2)) (fun S104 =>
        (if x3 = 0 then (
        some ((S104.1 28), S104)) else (
        some ((S104.1 29), S104)))))))))))))
set_option maxRecDepth 100000 in
set_option maxHeartbeats 4000000 in
theorem c_X8_ripe (l : Launch) (g : GG) (N : Nat) (q1 : Nat → Nat) (S1 : St) (x1 : Int32) (x2 : Int32) (x3 : Int32) (r : Int32) (F1 : St) (h : f_X8_ripe N S1 x1 x2 x3 = some (r, F1)) : Ci l yX8_ripe wsX8_ripe RM_X8_ripe g [.ref (q1 100), .int x1, .int x2, .int x3] (wX8 g q1 S1) (wX8 g q1 F1) r := by
  intro sz
  refine Met.ofC (cc := cX8_ripe) (maxL := 4) (ret := (some .int)) (by decide) rfl (Nat.le_of_ble_eq_true rfl) ?_
  intro p e s m below meth c hC hr hlk hsz A hA9 hA hP hD hS ls hl
  subst hsz
  have hC : Cx p s m ([.ref (q1 100), .int x1, .int x2, .int x3] : List Value).toArray c RX8 cX8_ripe 4 wsX8_ripe g := hC
  have hx := hC.1.1
  have hb := hC.1.2.1
  have hml := hC.1.2.2.1
  have hown := hC.1.2.2.2.1
  have hts := hC.1.2.2.2.2
  have hl : lv_has ls 4 [(0, .ref (q1 100)), (1, .int x1), (2, .int x2), (3, .int x3)] := hl
  show W p l e RM_X8_ripe s m ([.ref (q1 100), .int x1, .int x2, .int x3] : List Value).toArray below meth c s.heap [] 0 0 (Qi below g [.ref (q1 100), .int x1, .int x2, .int x3] (wX8 g q1 S1) (wX8 g q1 F1) r s) (F0 m 0 ls [])
  unfold f_X8_ripe at h
  refine lv_aload_n hx hb dX8_ripe_0 rfl (lv_at hl 0 rfl) ?_
  refine lv_iload_n hx hb dX8_ripe_1 rfl (lv_at hl 1 rfl) ?_
  obtain ⟨v101, hc108, h⟩ := fx_b1_s h
  refine k_callVi0 (C := RX8) (ci := 8) (qr := 0) (n := 1) (As := [.int x1]) (rest := []) (wc := (wX8 g q1 S1)) (bytes := cX8_isSort) (maxL := 2) (ret := (some .boolean)) hC hl.1 (c_X8_isSort l g N q1 S1 x1 v101 hc108) rfl gX8_ripe_X8_isSort (by decide +kernel) rfl rfl ⟨Nat.le_of_ble_eq_true rfl, Nat.le_of_ble_eq_true rfl⟩ rfl rfl rfl (Nat.le_of_ble_eq_true rfl) ⟨Nat.le_of_ble_eq_true rfl, Nat.le_of_ble_eq_true rfl⟩ dX8_ripe_2 hP hD hS hA [0, 1, 2, 3, 4, 5, 6, 7, 8, 9, 10, 11, 12, 13, 14, 15, 16, 17, 18, 19, 20, 21, 22, 23] rfl (by decide +kernel) (fun H locs hP hD hS => ?_)
  refine k_if_eq (tgt := 16) hC dX8_ripe_5 (by decide) h (fun h => ?_) (fun h => ?_)
  · refine lv_iconst (v := (-1 : Int32)) hx hb dX8_ripe_16 (by decide) ?_
    obtain ⟨rfl, rfl⟩ := fx_i2 h
    exact Ci.ret hC hr hlk hA9 hP hD hS dX8_ripe_17
  · refine lv_aload_n hx hb dX8_ripe_8 rfl (lv_at hl 0 rfl) ?_
    refine lv_iload_n hx hb dX8_ripe_9 rfl (lv_at hl 2 rfl) ?_
    obtain ⟨v102, hc107, h⟩ := fx_b1_s h
    refine k_callVi0 (C := RX8) (ci := 8) (qr := 0) (n := 1) (As := [.int x2]) (rest := []) (wc := (wX8 g q1 S1)) (bytes := cX8_isPlace) (maxL := 2) (ret := (some .boolean)) hC hl.1 (c_X8_isPlace l g N q1 S1 x2 v102 hc107) rfl gX8_ripe_X8_isPlace (by decide +kernel) rfl rfl ⟨Nat.le_of_ble_eq_true rfl, Nat.le_of_ble_eq_true rfl⟩ rfl rfl rfl (Nat.le_of_ble_eq_true rfl) ⟨Nat.le_of_ble_eq_true rfl, Nat.le_of_ble_eq_true rfl⟩ dX8_ripe_10 hP hD hS hA [0, 1, 2, 3, 4, 5, 6, 7, 8, 9, 10, 11, 12, 13, 14, 15, 16, 17, 18, 19, 20, 21, 22, 23] rfl (by decide +kernel) (fun H locs hP hD hS => ?_)
    refine k_if_ne (tgt := 18) hC dX8_ripe_13 (by decide) h (fun h => ?_) (fun h => ?_)
    · refine lv_iload_n hx hb dX8_ripe_18 rfl (lv_at hl 3 rfl) ?_
      refine lv_i2l hx hb dX8_ripe_19 rfl ?_
      refine lv_lconst (v := (0 : Int64)) hx hb dX8_ripe_20 (by decide) ?_
      refine lv_lconst (v := (1 : Int64)) hx hb dX8_ripe_21 (by decide) ?_
      obtain ⟨v103, hc106, h⟩ := fx_b1_s h
      refine k_callSi0 (n := 3) (As := [.long (Int32.toInt64 x3), .long (0 : Int64), .long (1 : Int64)]) (rest := []) (wc := ([] : va_W)) (bytes := cX8_in) (maxL := 6) (ret := (some .boolean)) hC hl.1 (c_X8_in l g N (Int32.toInt64 x3) (0 : Int64) (1 : Int64) v103 hc106) rfl gX8_ripe_X8_in (by decide +kernel) ⟨Nat.le_of_ble_eq_true rfl, Nat.le_of_ble_eq_true rfl⟩ rfl rfl rfl (Nat.le_of_ble_eq_true rfl) ⟨Nat.le_of_ble_eq_true rfl, Nat.le_of_ble_eq_true rfl⟩ dX8_ripe_22 hP hD hS hA [] rfl (by decide +kernel) (fun H locs hP hD hS => ?_)
      refine k_if_ne (tgt := 31) hC dX8_ripe_25 (by decide) h (fun h => ?_) (fun h => ?_)
      · refine lv_aload_n hx hb dX8_ripe_31 rfl (lv_at hl 0 rfl) ?_
        refine lv_iload_n hx hb dX8_ripe_32 rfl (lv_at hl 1 rfl) ?_
        refine lv_iload_n hx hb dX8_ripe_33 rfl (lv_at hl 2 rfl) ?_
        refine lv_aload_n hx hb dX8_ripe_34 rfl (lv_at hl 0 rfl) ?_
        refine k_get (ci := 8) (k := 2) (q0 := 0) (v := .int (S1.1 2)) (C := RX8) (T := TX8) (N := 46) hC uX8_ripe_X8 hP rfl rfl (by decide) (List.mem_of_getElem? (i := 1) rfl) rfl dX8_ripe_35 ?_
        obtain ⟨S104, hc105, h⟩ := fx_b1_s h
        refine k_callVv (C := RX8) (ci := 8) (qr := 0) (n := 3) (As := [.int x1, .int x2, .int (S1.1 2)]) (rest := []) (wc := (wX8 g q1 S1)) (w1 := (wX8 g q1 S104)) (ws2 := (wX8 g q1 S104)) (bytes := cX8_findRipe) (maxL := 7) (ret := none) hC hl.1 (c_X8_findRipe l g N q1 S1 x1 x2 (S1.1 2) S104 hc105) rfl gX8_ripe_X8_findRipe (by decide +kernel) rfl rfl ⟨Nat.le_of_ble_eq_true rfl, Nat.le_of_ble_eq_true rfl⟩ rfl rfl rfl (Nat.le_of_ble_eq_true rfl) ⟨Nat.le_of_ble_eq_true rfl, Nat.le_of_ble_eq_true rfl⟩ dX8_ripe_38 hP hD hS hA [0, 1, 2, 3, 4, 5, 6, 7, 8, 9, 10, 11, 12, 13, 14, 15, 16, 17, 18, 19, 20, 21, 22, 23] rfl (by decide +kernel) [q1 100, q1 6, q1 8, q1 9, q1 10, q1 11, q1 12, q1 13, q1 14, q1 15, q1 16, q1 18, q1 20, q1 21, q1 23, q1 27, q1 30, q1 32, q1 33, q1 34, q1 39, q1 41, q1 42, q1 43] rfl rfl rfl [] ([] : va_W) rfl rfl (n2 := 24) rfl (by decide +kernel) (fun H locs hP hD hS => ?_)
        refine lv_iload_n hx hb dX8_ripe_41 rfl (lv_at hl 3 rfl) ?_
        refine k_if_ne (tgt := 52) hC dX8_ripe_42 (by decide) h (fun h => ?_) (fun h => ?_)
        · refine lv_aload_n hx hb dX8_ripe_52 rfl (lv_at hl 0 rfl) ?_
          refine k_get (ci := 8) (k := 29) (q0 := 0) (v := .int (S104.1 29)) (C := RX8) (T := TX8) (N := 46) hC uX8_ripe_X8 hP rfl rfl (by decide) (List.mem_of_getElem? (i := 3) rfl) rfl dX8_ripe_53 ?_
          obtain ⟨rfl, rfl⟩ := fx_i2 h
          exact Ci.ret hC hr hlk hA9 hP hD hS dX8_ripe_56
        · refine lv_aload_n hx hb dX8_ripe_45 rfl (lv_at hl 0 rfl) ?_
          refine k_get (ci := 8) (k := 28) (q0 := 0) (v := .int (S104.1 28)) (C := RX8) (T := TX8) (N := 46) hC uX8_ripe_X8 hP rfl rfl (by decide) (List.mem_of_getElem? (i := 2) rfl) rfl dX8_ripe_46 ?_
          refine lv_goto (tgt := 56) hx hb dX8_ripe_49 (by decide) ?_
          obtain ⟨rfl, rfl⟩ := fx_i2 h
          exact Ci.ret hC hr hlk hA9 hP hD hS dX8_ripe_56
      · refine lv_bipush (v := (-2 : Int32)) hx hb dX8_ripe_28 (by decide) ?_
        obtain ⟨rfl, rfl⟩ := fx_i2 h
        exact Ci.ret hC hr hlk hA9 hP hD hS dX8_ripe_30
    · refine lv_iconst (v := (-1 : Int32)) hx hb dX8_ripe_16 (by decide) ?_
      obtain ⟨rfl, rfl⟩ := fx_i2 h
      exact Ci.ret hC hr hlk hA9 hP hD hS dX8_ripe_17
theorem uX8_hot_X8 : ∀ w ∈ u_ws RX8 TX8 46, w ∈ wsX8_hot := fun w h => List.mem_cons_of_mem _ (List.mem_append_right _ h)
abbrev RM_X8_hot : Room := { frames := 1, cells := 0, slots := 0, locals := 25 }
def bd_X8_hot_22 (N : Nat) (x1 : Int32) (S1 : St) (x2 : Int32) (x3 : Int32) (rec : (Int32 × Int32) → Option (Int32 × Int32)) : Option (Int32 × Int32) :=
  (if x2 < x1 then (
    some (x2, x3)) else (
    (if (S1.1 3) ≤ 0 then (
      some (x2, x3)) else (
      (if x2 ≤ 0 then (
        some (x2, x3)) else (
        (if x2 ≤ (S1.1 3) then (
          fx_lt (x3 + (1 : Int32)) (fun x101 =>
            rec ((0 : Int32), x101))) else (
          fx_lt (x2 - (S1.1 3)) (fun x102 =>
            fx_lt (x3 + (1 : Int32)) (fun x103 =>
            rec (x102, x103)))))))))))
def lf_X8_hot_22 (N : Nat) (x1 : Int32) (S1 : St) : (Int32 × Int32) → ((Int32 × Int32) → Option (Int32 × Int32)) → Option (Int32 × Int32) := fun x rec => bd_X8_hot_22 N x1 S1 x.1 x.2 rec
set_option maxRecDepth 100000 in
set_option maxHeartbeats 4000000 in
theorem lw_X8_hot_22 {p : Program} {l : Launch} {e : Env} {s : State} {m : MethodId} {args : Array Value} {below : List Frame} {meth : Method} {c : Code} {Q : State → Prop} {A : Nat → Prop} {H0 : Heap} {g : GG} (hC : Cx p s m args c RX8 cX8_hot 4 wsX8_hot g) (hA : ∀ q : Nat, H0.size ≤ q → A q) (N : Nat) (q1 : Nat → Nat) (x1 : Int32) (S1 : St) : ∀ (n : Nat) (x2 : Int32) (x3 : Int32) (o : Int32 × Int32), fx_it (lf_X8_hot_22 N x1 S1) n (x2, x3) = some o → ∀ (H : Heap) (locs : List Loc) (ls : Array Slot), va_P g.1 vwCl (wX8 g q1 S1) H → va_D A (wX8 g q1 S1) → va_S A H0 H locs → lv_has ls 4 [(0, .ref (q1 100)), (1, .int x1), (2, .int x2), (3, .int x3)] → (∀ (z0 : Int32) (z1 : Int32), o = (z0, z1) → ∀ (H : Heap) (locs : List Loc) (ls : Array Slot), va_P g.1 vwCl (wX8 g q1 S1) H → va_D A (wX8 g q1 S1) → va_S A H0 H locs → lv_has ls 4 [(1, .int x1), (2, .int z0), (3, .int z1)] → W p l e RM_X8_hot s m args below meth c H locs 0 0 Q (F0 m 63 ls [])) → W p l e RM_X8_hot s m args below meth c H locs 0 0 Q (F0 m 22 ls []) := by
  have hx := hC.1.1
  have hb := hC.1.2.1
  have hml := hC.1.2.2.1
  have hown := hC.1.2.2.2.1
  have hts := hC.1.2.2.2.2
  intro n
  induction n with
  | zero => intro x2 x3 o h; cases h
  | succ n ih =>
    intro x2 x3 o h H locs ls hP hD hS hl k0
    have h : bd_X8_hot_22 N x1 S1 x2 x3 (fx_it (lf_X8_hot_22 N x1 S1) n) = some o := h
    unfold bd_X8_hot_22 at h
    refine lv_iload_n hx hb dX8_hot_22 rfl (lv_at hl 2 rfl) ?_
    refine lv_iload_n hx hb dX8_hot_23 rfl (lv_at hl 1 rfl) ?_
    refine k_icmp_lt (tgt := 63) hC dX8_hot_24 (by decide) h (fun h => ?_) (fun h => ?_)
    · exact k0 x2 x3 (Option.some.inj h).symm _ _ _ hP hD hS (lv_sub hl [1, 2, 3] rfl)
    · refine lv_aload_n hx hb dX8_hot_27 rfl (lv_at hl 0 rfl) ?_
      refine k_get (ci := 8) (k := 3) (q0 := 0) (v := .int (S1.1 3)) (C := RX8) (T := TX8) (N := 46) hC uX8_hot_X8 hP rfl rfl (by decide) (List.mem_of_getElem? (i := 3) rfl) rfl dX8_hot_28 ?_
      refine k_if_le (tgt := 63) hC dX8_hot_31 (by decide) h (fun h => ?_) (fun h => ?_)
      · exact k0 x2 x3 (Option.some.inj h).symm _ _ _ hP hD hS (lv_sub hl [1, 2, 3] rfl)
      · refine lv_iload_n hx hb dX8_hot_34 rfl (lv_at hl 2 rfl) ?_
        refine k_if_le (tgt := 63) hC dX8_hot_35 (by decide) h (fun h => ?_) (fun h => ?_)
        · exact k0 x2 x3 (Option.some.inj h).symm _ _ _ hP hD hS (lv_sub hl [1, 2, 3] rfl)
        · refine lv_iload_n hx hb dX8_hot_38 rfl (lv_at hl 2 rfl) ?_
          refine lv_aload_n hx hb dX8_hot_39 rfl (lv_at hl 0 rfl) ?_
          refine k_get (ci := 8) (k := 3) (q0 := 0) (v := .int (S1.1 3)) (C := RX8) (T := TX8) (N := 46) hC uX8_hot_X8 hP rfl rfl (by decide) (List.mem_of_getElem? (i := 3) rfl) rfl dX8_hot_40 ?_
          refine k_icmp_le (tgt := 55) hC dX8_hot_43 (by decide) h (fun h => ?_) (fun h => ?_)
          · refine lv_iconst (v := (0 : Int32)) hx hb dX8_hot_55 (by decide) ?_
            refine lv_istore_n (lv' := [(2, .int (0 : Int32)), (0, .ref (q1 100)), (1, .int x1), (3, .int x3)]) hx hb dX8_hot_56 rfl hl (by decide) rfl (fun ls hl => ?_)
            refine k_iinc (v := (1 : Int32)) (lv' := fun X => [(3, .int X), (2, .int (0 : Int32)), (0, .ref (q1 100)), (1, .int x1)]) hC dX8_hot_57 hl (k := 3) rfl (by decide) (by decide) (fun _ => rfl) h (fun x101 h ls hl => ?_)
            refine lv_goto (tgt := 22) hx hb dX8_hot_60 (by decide) ?_
            exact ih (0 : Int32) x101 o h _ _ _ hP hD hS (lv_sub hl [2, 3, 1, 0] rfl) k0
          · refine lv_iload_n hx hb dX8_hot_46 rfl (lv_at hl 2 rfl) ?_
            refine lv_aload_n hx hb dX8_hot_47 rfl (lv_at hl 0 rfl) ?_
            refine k_get (ci := 8) (k := 3) (q0 := 0) (v := .int (S1.1 3)) (C := RX8) (T := TX8) (N := 46) hC uX8_hot_X8 hP rfl rfl (by decide) (List.mem_of_getElem? (i := 3) rfl) rfl dX8_hot_48 ?_
            refine lv_isub hx hb dX8_hot_51 ?_
            refine lv_goto (tgt := 56) hx hb dX8_hot_52 (by decide) ?_
            refine k_topi h (fun x102 h => ?_)
            refine lv_istore_n (lv' := [(2, .int x102), (0, .ref (q1 100)), (1, .int x1), (3, .int x3)]) hx hb dX8_hot_56 rfl hl (by decide) rfl (fun ls hl => ?_)
            refine k_iinc (v := (1 : Int32)) (lv' := fun X => [(3, .int X), (2, .int x102), (0, .ref (q1 100)), (1, .int x1)]) hC dX8_hot_57 hl (k := 3) rfl (by decide) (by decide) (fun _ => rfl) h (fun x103 h ls hl => ?_)
            refine lv_goto (tgt := 22) hx hb dX8_hot_60 (by decide) ?_
            exact ih x102 x103 o h _ _ _ hP hD hS (lv_sub hl [2, 3, 1, 0] rfl) k0
def f_X8_hot (N : Nat) (S1 : St) (x1 : Int32) : Option (Int32) :=
  fx_b1 (f_X8_in N (Int32.toInt64 x1) (0 : Int64) (99 : Int64)) (fun v101 =>
  (if v101 = 0 then (
  some (-2 : Int32)) else (
  fx_b2 (fx_it (lf_X8_hot_22 N x1 S1) N ((S1.1 2), (0 : Int32))) (fun x102 x103 =>
    (if x1 ≤ x102 then (
      some (-6 : Int32)) else (
      some x103))))))
set_option maxRecDepth 100000 in
set_option maxHeartbeats 4000000 in
theorem c_X8_hot (l : Launch) (g : GG) (N : Nat) (q1 : Nat → Nat) (S1 : St) (x1 : Int32) (r : Int32) (h : f_X8_hot N S1 x1 = some r) : Ci l yX8_hot wsX8_hot RM_X8_hot g [.ref (q1 100), .int x1] (wX8 g q1 S1) (wX8 g q1 S1) r := by
  intro sz
  refine Met.ofC (cc := cX8_hot) (maxL := 4) (ret := (some .int)) (by decide) rfl (Nat.le_of_ble_eq_true rfl) ?_
  intro p e s m below meth c hC hr hlk hsz A hA9 hA hP hD hS ls hl
  subst hsz
  have hC : Cx p s m ([.ref (q1 100), .int x1] : List Value).toArray c RX8 cX8_hot 4 wsX8_hot g := hC
  have hx := hC.1.1
  have hb := hC.1.2.1
  have hml := hC.1.2.2.1
  have hown := hC.1.2.2.2.1
  have hts := hC.1.2.2.2.2
  have hl : lv_has ls 4 [(0, .ref (q1 100)), (1, .int x1)] := hl
  show W p l e RM_X8_hot s m ([.ref (q1 100), .int x1] : List Value).toArray below meth c s.heap [] 0 0 (Qi below g [.ref (q1 100), .int x1] (wX8 g q1 S1) (wX8 g q1 S1) r s) (F0 m 0 ls [])
  unfold f_X8_hot at h
  refine lv_iload_n hx hb dX8_hot_0 rfl (lv_at hl 1 rfl) ?_
  refine lv_i2l hx hb dX8_hot_1 rfl ?_
  refine lv_lconst (v := (0 : Int64)) hx hb dX8_hot_2 (by decide) ?_
  refine lv_ldc2 (v := (99 : Int64)) hx hb hown (hts _ (List.mem_of_getElem? (i := 1) rfl)) dX8_hot_3 ?_
  obtain ⟨v101, hc105, h⟩ := fx_b1_s h
  refine k_callSi0 (n := 3) (As := [.long (Int32.toInt64 x1), .long (0 : Int64), .long (99 : Int64)]) (rest := []) (wc := ([] : va_W)) (bytes := cX8_in) (maxL := 6) (ret := (some .boolean)) hC hl.1 (c_X8_in l g N (Int32.toInt64 x1) (0 : Int64) (99 : Int64) v101 hc105) rfl gX8_hot_X8_in (by decide +kernel) ⟨Nat.le_of_ble_eq_true rfl, Nat.le_of_ble_eq_true rfl⟩ rfl rfl rfl (Nat.le_of_ble_eq_true rfl) ⟨Nat.le_of_ble_eq_true rfl, Nat.le_of_ble_eq_true rfl⟩ dX8_hot_6 hP hD hS hA [] rfl (by decide +kernel) (fun H locs hP hD hS => ?_)
  refine k_if_ne (tgt := 15) hC dX8_hot_9 (by decide) h (fun h => ?_) (fun h => ?_)
  · refine lv_aload_n hx hb dX8_hot_15 rfl (lv_at hl 0 rfl) ?_
    refine k_get (ci := 8) (k := 2) (q0 := 0) (v := .int (S1.1 2)) (C := RX8) (T := TX8) (N := 46) hC uX8_hot_X8 hP rfl rfl (by decide) (List.mem_of_getElem? (i := 2) rfl) rfl dX8_hot_16 ?_
    refine lv_istore_n (lv' := [(2, .int (S1.1 2)), (0, .ref (q1 100)), (1, .int x1)]) hx hb dX8_hot_19 rfl hl (by decide) rfl (fun ls hl => ?_)
    refine lv_iconst (v := (0 : Int32)) hx hb dX8_hot_20 (by decide) ?_
    refine lv_istore_n (lv' := [(3, .int (0 : Int32)), (2, .int (S1.1 2)), (0, .ref (q1 100)), (1, .int x1)]) hx hb dX8_hot_21 rfl hl (by decide) rfl (fun ls hl => ?_)
    obtain ⟨x102, x103, ho104, h⟩ := fx_b2_s h
    refine lw_X8_hot_22 hC hA N q1 x1 S1 N (S1.1 2) (0 : Int32)  (x102, x103) ho104 _ _ _ hP hD hS (lv_sub hl [2, 3, 1, 0] rfl) ?_
    · intro y0 y1 he H locs ls hP hD hS hl
      obtain ⟨rfl, rfl⟩ := fx_j2 he
      refine lv_iload_n hx hb dX8_hot_63 rfl (lv_at hl 1 rfl) ?_
      refine lv_iload_n hx hb dX8_hot_64 rfl (lv_at hl 0 rfl) ?_
      refine k_icmp_ge (tgt := 72) hC dX8_hot_65 (by decide) h (fun h => ?_) (fun h => ?_)
      · refine lv_bipush (v := (-6 : Int32)) hx hb dX8_hot_72 (by decide) ?_
        obtain rfl := fx_i1 h
        exact Ci.ret hC hr hlk hA9 hP hD hS dX8_hot_74
      · refine lv_iload_n hx hb dX8_hot_68 rfl (lv_at hl 2 rfl) ?_
        refine lv_goto (tgt := 74) hx hb dX8_hot_69 (by decide) ?_
        obtain rfl := fx_i1 h
        exact Ci.ret hC hr hlk hA9 hP hD hS dX8_hot_74
  · refine lv_bipush (v := (-2 : Int32)) hx hb dX8_hot_12 (by decide) ?_
    obtain rfl := fx_i1 h
    exact Ci.ret hC hr hlk hA9 hP hD hS dX8_hot_14
theorem uX8_still_X8 : ∀ w ∈ u_ws RX8 TX8 46, w ∈ wsX8_still := fun w h => List.mem_cons_of_mem _ (List.mem_append_right _ h)
abbrev RM_X8_still : Room := { frames := 3, cells := 0, slots := 0, locals := 66 }
def bd_X8_still_42 (N : Nat) (x2 : Int32) (x4 : Int32) (x3 : Int32) (x5 : Int32) (S1 : St) (rec : (Int32 × Int32 × St) → Option (Int32 × St)) : Option (Int32 × St) :=
  (if (S1.1 1) ≤ x5 then (
    some (x3, S1)) else (
    fx_b1 (f_X8_isSort N S1 x4) (fun v101 =>
      (if v101 = 0 then (
      some (x3, S1)) else (
      fx_b1 ((if 0 ≤ x2 then (
        some x2) else (
        some (0 : Int32))) : Option (Int32)) (fun v102 =>
        fx_b1 (f_X8_findRipe N S1 x4 x5 v102) (fun S104 =>
          (if (S104.1 28) ≤ 0 then (
          fx_lt (x3 ||| (0 : Int32)) (fun x105 =>
            fx_lt (x5 + (1 : Int32)) (fun x106 =>
            rec (x105, x106, S104)))) else (
          fx_lt (x3 ||| ((1 : Int32) <<< (x4 &&& 31))) (fun x107 =>
            fx_lt (x5 + (1 : Int32)) (fun x108 =>
            rec (x107, x108, S104))))))))))))
def lf_X8_still_42 (N : Nat) (x2 : Int32) (x4 : Int32) : (Int32 × Int32 × St) → ((Int32 × Int32 × St) → Option (Int32 × St)) → Option (Int32 × St) := fun x rec => bd_X8_still_42 N x2 x4 x.1 x.2.1 x.2.2 rec
set_option maxRecDepth 100000 in
set_option maxHeartbeats 4000000 in
theorem lw_X8_still_42 {p : Program} {l : Launch} {e : Env} {s : State} {m : MethodId} {args : Array Value} {below : List Frame} {meth : Method} {c : Code} {Q : State → Prop} {A : Nat → Prop} {H0 : Heap} {g : GG} (hC : Cx p s m args c RX8 cX8_still 6 wsX8_still g) (hA : ∀ q : Nat, H0.size ≤ q → A q) (N : Nat) (q1 : Nat → Nat) (x2 : Int32) (x4 : Int32) : ∀ (n : Nat) (x3 : Int32) (x5 : Int32) (S1 : St) (o : Int32 × St), fx_it (lf_X8_still_42 N x2 x4) n (x3, x5, S1) = some o → ∀ (H : Heap) (locs : List Loc) (ls : Array Slot), va_P g.1 vwCl (wX8 g q1 S1) H → va_D A (wX8 g q1 S1) → va_S A H0 H locs → lv_has ls 6 [(0, .ref (q1 100)), (2, .int x2), (3, .int x3), (4, .int x4), (5, .int x5)] → (∀ (z0 : Int32) (Z0 : St), o = (z0, Z0) → ∀ (H : Heap) (locs : List Loc) (ls : Array Slot), va_P g.1 vwCl (wX8 g q1 Z0) H → va_D A (wX8 g q1 Z0) → va_S A H0 H locs → lv_has ls 6 [(0, .ref (q1 100)), (2, .int x2), (3, .int z0), (4, .int x4)] → W p l e RM_X8_still s m args below meth c H locs 0 0 Q (F0 m 101 ls [])) → W p l e RM_X8_still s m args below meth c H locs 0 0 Q (F0 m 42 ls []) := by
  have hx := hC.1.1
  have hb := hC.1.2.1
  have hml := hC.1.2.2.1
  have hown := hC.1.2.2.2.1
  have hts := hC.1.2.2.2.2
  intro n
  induction n with
  | zero => intro x3 x5 S1 o h; cases h
  | succ n ih =>
    intro x3 x5 S1 o h H locs ls hP hD hS hl k0
    have h : bd_X8_still_42 N x2 x4 x3 x5 S1 (fx_it (lf_X8_still_42 N x2 x4) n) = some o := h
    unfold bd_X8_still_42 at h
    refine lv_iload hx hb dX8_still_42 (lv_at hl 4 rfl) ?_
    refine lv_aload_n hx hb dX8_still_44 rfl (lv_at hl 0 rfl) ?_
    refine k_get (ci := 8) (k := 1) (q0 := 0) (v := .int (S1.1 1)) (C := RX8) (T := TX8) (N := 46) hC uX8_still_X8 hP rfl rfl (by decide) (List.mem_of_getElem? (i := 4) rfl) rfl dX8_still_45 ?_
    refine k_icmp_ge (tgt := 101) hC dX8_still_48 (by decide) h (fun h => ?_) (fun h => ?_)
    · exact k0 x3 S1 (Option.some.inj h).symm _ _ _ hP hD hS (lv_sub hl [0, 1, 2, 3] rfl)
    · refine lv_aload_n hx hb dX8_still_51 rfl (lv_at hl 0 rfl) ?_
      refine lv_iload hx hb dX8_still_52 (lv_at hl 3 rfl) ?_
      obtain ⟨v101, hc111, h⟩ := fx_b1_s h
      refine k_callVi0 (C := RX8) (ci := 8) (qr := 0) (n := 1) (As := [.int x4]) (rest := []) (wc := (wX8 g q1 S1)) (bytes := cX8_isSort) (maxL := 2) (ret := (some .boolean)) hC hl.1 (c_X8_isSort l g N q1 S1 x4 v101 hc111) rfl gX8_still_X8_isSort (by decide +kernel) rfl rfl ⟨Nat.le_of_ble_eq_true rfl, Nat.le_of_ble_eq_true rfl⟩ rfl rfl rfl (Nat.le_of_ble_eq_true rfl) ⟨Nat.le_of_ble_eq_true rfl, Nat.le_of_ble_eq_true rfl⟩ dX8_still_54 hP hD hS hA [0, 1, 2, 3, 4, 5, 6, 7, 8, 9, 10, 11, 12, 13, 14, 15, 16, 17, 18, 19, 20, 21, 22, 23] rfl (by decide +kernel) (fun H locs hP hD hS => ?_)
      refine k_if_eq (tgt := 101) hC dX8_still_57 (by decide) h (fun h => ?_) (fun h => ?_)
      · exact k0 x3 S1 (Option.some.inj h).symm _ _ _ hP hD hS (lv_sub hl [0, 1, 2, 3] rfl)
      · refine lv_aload_n hx hb dX8_still_60 rfl (lv_at hl 0 rfl) ?_
        refine lv_iload hx hb dX8_still_61 (lv_at hl 3 rfl) ?_
        refine lv_iload hx hb dX8_still_63 (lv_at hl 4 rfl) ?_
        refine lv_iload_n hx hb dX8_still_65 rfl (lv_at hl 1 rfl) ?_
        obtain ⟨v102, hv103, h⟩ := fx_b1_s h
        have K110 : ∀ (H : Heap) (locs : List Loc) (ls : Array Slot), va_P g.1 vwCl (wX8 g q1 S1) H → va_D A (wX8 g q1 S1) → va_S A H0 H locs → lv_has ls 6 [(0, .ref (q1 100)), (2, .int x2), (3, .int x3), (4, .int x4), (5, .int x5)] → W p l e RM_X8_still s m args below meth c H locs 0 0 Q (F0 m 74 ls [.int v102, .int x5, .int x4, .ref (q1 100)]) := by
          intro H locs ls hP hD hS hl
          obtain ⟨S104, hc109, h⟩ := fx_b1_s h
          refine k_callVv (C := RX8) (ci := 8) (qr := 0) (n := 3) (As := [.int x4, .int x5, .int v102]) (rest := []) (wc := (wX8 g q1 S1)) (w1 := (wX8 g q1 S104)) (ws2 := (wX8 g q1 S104)) (bytes := cX8_findRipe) (maxL := 7) (ret := none) hC hl.1 (c_X8_findRipe l g N q1 S1 x4 x5 v102 S104 hc109) rfl gX8_still_X8_findRipe (by decide +kernel) rfl rfl ⟨Nat.le_of_ble_eq_true rfl, Nat.le_of_ble_eq_true rfl⟩ rfl rfl rfl (Nat.le_of_ble_eq_true rfl) ⟨Nat.le_of_ble_eq_true rfl, Nat.le_of_ble_eq_true rfl⟩ dX8_still_74 hP hD hS hA [0, 1, 2, 3, 4, 5, 6, 7, 8, 9, 10, 11, 12, 13, 14, 15, 16, 17, 18, 19, 20, 21, 22, 23] rfl (by decide +kernel) [q1 100, q1 6, q1 8, q1 9, q1 10, q1 11, q1 12, q1 13, q1 14, q1 15, q1 16, q1 18, q1 20, q1 21, q1 23, q1 27, q1 30, q1 32, q1 33, q1 34, q1 39, q1 41, q1 42, q1 43] rfl rfl rfl [] ([] : va_W) rfl rfl (n2 := 24) rfl (by decide +kernel) (fun H locs hP hD hS => ?_)
          refine lv_iload_n hx hb dX8_still_77 rfl (lv_at hl 2 rfl) ?_
          refine lv_aload_n hx hb dX8_still_78 rfl (lv_at hl 0 rfl) ?_
          refine k_get (ci := 8) (k := 28) (q0 := 0) (v := .int (S104.1 28)) (C := RX8) (T := TX8) (N := 46) hC uX8_still_X8 hP rfl rfl (by decide) (List.mem_of_getElem? (i := 5) rfl) rfl dX8_still_79 ?_
          refine k_if_le (tgt := 92) hC dX8_still_82 (by decide) h (fun h => ?_) (fun h => ?_)
          · refine lv_iconst (v := (0 : Int32)) hx hb dX8_still_92 (by decide) ?_
            refine lv_ior hx hb dX8_still_93 ?_
            refine k_topi h (fun x105 h => ?_)
            refine lv_istore_n (lv' := [(3, .int x105), (0, .ref (q1 100)), (2, .int x2), (4, .int x4), (5, .int x5)]) hx hb dX8_still_94 rfl hl (by decide) rfl (fun ls hl => ?_)
            refine k_iinc (v := (1 : Int32)) (lv' := fun X => [(5, .int X), (3, .int x105), (0, .ref (q1 100)), (2, .int x2), (4, .int x4)]) hC dX8_still_95 hl (k := 4) rfl (by decide) (by decide) (fun _ => rfl) h (fun x106 h ls hl => ?_)
            refine lv_goto (tgt := 42) hx hb dX8_still_98 (by decide) ?_
            exact ih x105 x106 S104 o h _ _ _ hP hD hS (lv_sub hl [2, 3, 1, 4, 0] rfl) k0
          · refine lv_iconst (v := (1 : Int32)) hx hb dX8_still_85 (by decide) ?_
            refine lv_iload hx hb dX8_still_86 (lv_at hl 3 rfl) ?_
            refine lv_ishl hx hb dX8_still_88 ?_
            refine lv_goto (tgt := 93) hx hb dX8_still_89 (by decide) ?_
            refine lv_ior hx hb dX8_still_93 ?_
            refine k_topi h (fun x107 h => ?_)
            refine lv_istore_n (lv' := [(3, .int x107), (0, .ref (q1 100)), (2, .int x2), (4, .int x4), (5, .int x5)]) hx hb dX8_still_94 rfl hl (by decide) rfl (fun ls hl => ?_)
            refine k_iinc (v := (1 : Int32)) (lv' := fun X => [(5, .int X), (3, .int x107), (0, .ref (q1 100)), (2, .int x2), (4, .int x4)]) hC dX8_still_95 hl (k := 4) rfl (by decide) (by decide) (fun _ => rfl) h (fun x108 h ls hl => ?_)
            refine lv_goto (tgt := 42) hx hb dX8_still_98 (by decide) ?_
            exact ih x107 x108 S104 o h _ _ _ hP hD hS (lv_sub hl [2, 3, 1, 4, 0] rfl) k0
        refine k_if_ge (tgt := 73) hC dX8_still_66 (by decide) hv103 (fun hv103 => ?_) (fun hv103 => ?_)
        · refine lv_iload_n hx hb dX8_still_73 rfl (lv_at hl 1 rfl) ?_
          obtain rfl := fx_i1 hv103
          exact K110 _ _ _ hP hD hS (lv_sub hl [0, 1, 2, 3, 4] rfl)
        · refine lv_iconst (v := (0 : Int32)) hx hb dX8_still_69 (by decide) ?_
          refine lv_goto (tgt := 74) hx hb dX8_still_70 (by decide) ?_
          obtain rfl := fx_i1 hv103
          exact K110 _ _ _ hP hD hS (lv_sub hl [0, 1, 2, 3, 4] rfl)
def bd_X8_still_32 (N : Nat) (x2 : Int32) (x3 : Int32) (x4 : Int32) (S1 : St) (rec : (Int32 × Int32 × St) → Option (Int32 × St)) : Option (Int32 × St) :=
  (if (6 : Int32) ≤ x4 then (
    some (x3, S1)) else (
    fx_b2 (fx_it (lf_X8_still_42 N x2 x4) N (x3, (0 : Int32), S1)) (fun x101 S102 =>
      fx_lt (x4 + (1 : Int32)) (fun x104 =>
        rec (x101, x104, S102)))))
def lf_X8_still_32 (N : Nat) (x2 : Int32) : (Int32 × Int32 × St) → ((Int32 × Int32 × St) → Option (Int32 × St)) → Option (Int32 × St) := fun x rec => bd_X8_still_32 N x2 x.1 x.2.1 x.2.2 rec
set_option maxRecDepth 100000 in
set_option maxHeartbeats 4000000 in
theorem lw_X8_still_32 {p : Program} {l : Launch} {e : Env} {s : State} {m : MethodId} {args : Array Value} {below : List Frame} {meth : Method} {c : Code} {Q : State → Prop} {A : Nat → Prop} {H0 : Heap} {g : GG} (hC : Cx p s m args c RX8 cX8_still 6 wsX8_still g) (hA : ∀ q : Nat, H0.size ≤ q → A q) (N : Nat) (q1 : Nat → Nat) (x2 : Int32) : ∀ (n : Nat) (x3 : Int32) (x4 : Int32) (S1 : St) (o : Int32 × St), fx_it (lf_X8_still_32 N x2) n (x3, x4, S1) = some o → ∀ (H : Heap) (locs : List Loc) (ls : Array Slot), va_P g.1 vwCl (wX8 g q1 S1) H → va_D A (wX8 g q1 S1) → va_S A H0 H locs → lv_has ls 6 [(0, .ref (q1 100)), (2, .int x2), (3, .int x3), (4, .int x4)] → (∀ (z0 : Int32) (Z0 : St), o = (z0, Z0) → ∀ (H : Heap) (locs : List Loc) (ls : Array Slot), va_P g.1 vwCl (wX8 g q1 Z0) H → va_D A (wX8 g q1 Z0) → va_S A H0 H locs → lv_has ls 6 [(3, .int z0)] → W p l e RM_X8_still s m args below meth c H locs 0 0 Q (F0 m 107 ls [])) → W p l e RM_X8_still s m args below meth c H locs 0 0 Q (F0 m 32 ls []) := by
  have hx := hC.1.1
  have hb := hC.1.2.1
  have hml := hC.1.2.2.1
  have hown := hC.1.2.2.2.1
  have hts := hC.1.2.2.2.2
  intro n
  induction n with
  | zero => intro x3 x4 S1 o h; cases h
  | succ n ih =>
    intro x3 x4 S1 o h H locs ls hP hD hS hl k0
    have h : bd_X8_still_32 N x2 x3 x4 S1 (fx_it (lf_X8_still_32 N x2) n) = some o := h
    unfold bd_X8_still_32 at h
    refine lv_iload hx hb dX8_still_32 (lv_at hl 3 rfl) ?_
    refine lv_bipush (v := (6 : Int32)) hx hb dX8_still_34 (by decide) ?_
    refine k_icmp_ge (tgt := 107) hC dX8_still_36 (by decide) h (fun h => ?_) (fun h => ?_)
    · exact k0 x3 S1 (Option.some.inj h).symm _ _ _ hP hD hS (lv_sub hl [2] rfl)
    · refine lv_iconst (v := (0 : Int32)) hx hb dX8_still_39 (by decide) ?_
      refine lv_istore (lv' := [(5, .int (0 : Int32)), (0, .ref (q1 100)), (2, .int x2), (3, .int x3), (4, .int x4)]) hx hb dX8_still_40 hl (by decide) rfl (fun ls hl => ?_)
      obtain ⟨x101, S102, ho103, h⟩ := fx_b2_s h
      refine lw_X8_still_42 hC hA N q1 x2 x4 N x3 (0 : Int32) S1  (x101, S102) ho103 _ _ _ hP hD hS (lv_sub hl [1, 2, 3, 4, 0] rfl) ?_
      · intro y0 y1 he H locs ls hP hD hS hl
        obtain ⟨rfl, rfl⟩ := fx_j2 he
        refine k_iinc (v := (1 : Int32)) (lv' := fun X => [(4, .int X), (0, .ref (q1 100)), (2, .int x2), (3, .int x101)]) hC dX8_still_101 hl (k := 3) rfl (by decide) (by decide) (fun _ => rfl) h (fun x104 h ls hl => ?_)
        refine lv_goto (tgt := 32) hx hb dX8_still_104 (by decide) ?_
        exact ih x101 x104 S102 o h _ _ _ hP hD hS (lv_sub hl [1, 2, 3, 0] rfl) k0
def f_X8_still (N : Nat) (S1 : St) (x1 : Int32) : Option (Int32 × St) :=
  fx_b1 (f_X8_in N (Int32.toInt64 x1) (0 : Int64) (999 : Int64)) (fun v101 =>
  (if v101 = 0 then (
  some ((-2 : Int32), S1)) else (
  fx_lt ((S1.1 2) - ((S1.1 3) * x1)) (fun x102 =>
    fx_b2 (fx_it (lf_X8_still_32 N x102) N ((0 : Int32), (0 : Int32), S1)) (fun x103 S104 =>
    some (x103, S104))))))
set_option maxRecDepth 100000 in
set_option maxHeartbeats 4000000 in
theorem c_X8_still (l : Launch) (g : GG) (N : Nat) (q1 : Nat → Nat) (S1 : St) (x1 : Int32) (r : Int32) (F1 : St) (h : f_X8_still N S1 x1 = some (r, F1)) : Ci l yX8_still wsX8_still RM_X8_still g [.ref (q1 100), .int x1] (wX8 g q1 S1) (wX8 g q1 F1) r := by
  intro sz
  refine Met.ofC (cc := cX8_still) (maxL := 6) (ret := (some .int)) (by decide) rfl (Nat.le_of_ble_eq_true rfl) ?_
  intro p e s m below meth c hC hr hlk hsz A hA9 hA hP hD hS ls hl
  subst hsz
  have hC : Cx p s m ([.ref (q1 100), .int x1] : List Value).toArray c RX8 cX8_still 6 wsX8_still g := hC
  have hx := hC.1.1
  have hb := hC.1.2.1
  have hml := hC.1.2.2.1
  have hown := hC.1.2.2.2.1
  have hts := hC.1.2.2.2.2
  have hl : lv_has ls 6 [(0, .ref (q1 100)), (1, .int x1)] := hl
  show W p l e RM_X8_still s m ([.ref (q1 100), .int x1] : List Value).toArray below meth c s.heap [] 0 0 (Qi below g [.ref (q1 100), .int x1] (wX8 g q1 S1) (wX8 g q1 F1) r s) (F0 m 0 ls [])
  unfold f_X8_still at h
  refine lv_iload_n hx hb dX8_still_0 rfl (lv_at hl 1 rfl) ?_
  refine lv_i2l hx hb dX8_still_1 rfl ?_
  refine lv_lconst (v := (0 : Int64)) hx hb dX8_still_2 (by decide) ?_
  refine lv_ldc2 (v := (999 : Int64)) hx hb hown (hts _ (List.mem_of_getElem? (i := 1) rfl)) dX8_still_3 ?_
  obtain ⟨v101, hc106, h⟩ := fx_b1_s h
  refine k_callSi0 (n := 3) (As := [.long (Int32.toInt64 x1), .long (0 : Int64), .long (999 : Int64)]) (rest := []) (wc := ([] : va_W)) (bytes := cX8_in) (maxL := 6) (ret := (some .boolean)) hC hl.1 (c_X8_in l g N (Int32.toInt64 x1) (0 : Int64) (999 : Int64) v101 hc106) rfl gX8_still_X8_in (by decide +kernel) ⟨Nat.le_of_ble_eq_true rfl, Nat.le_of_ble_eq_true rfl⟩ rfl rfl rfl (Nat.le_of_ble_eq_true rfl) ⟨Nat.le_of_ble_eq_true rfl, Nat.le_of_ble_eq_true rfl⟩ dX8_still_6 hP hD hS hA [] rfl (by decide +kernel) (fun H locs hP hD hS => ?_)
  refine k_if_ne (tgt := 15) hC dX8_still_9 (by decide) h (fun h => ?_) (fun h => ?_)
  · refine lv_aload_n hx hb dX8_still_15 rfl (lv_at hl 0 rfl) ?_
    refine k_get (ci := 8) (k := 2) (q0 := 0) (v := .int (S1.1 2)) (C := RX8) (T := TX8) (N := 46) hC uX8_still_X8 hP rfl rfl (by decide) (List.mem_of_getElem? (i := 2) rfl) rfl dX8_still_16 ?_
    refine lv_aload_n hx hb dX8_still_19 rfl (lv_at hl 0 rfl) ?_
    refine k_get (ci := 8) (k := 3) (q0 := 0) (v := .int (S1.1 3)) (C := RX8) (T := TX8) (N := 46) hC uX8_still_X8 hP rfl rfl (by decide) (List.mem_of_getElem? (i := 3) rfl) rfl dX8_still_20 ?_
    refine lv_iload_n hx hb dX8_still_23 rfl (lv_at hl 1 rfl) ?_
    refine lv_imul hx hb dX8_still_24 ?_
    refine lv_isub hx hb dX8_still_25 ?_
    refine k_topi h (fun x102 h => ?_)
    refine lv_istore_n (lv' := [(2, .int x102), (0, .ref (q1 100)), (1, .int x1)]) hx hb dX8_still_26 rfl hl (by decide) rfl (fun ls hl => ?_)
    refine lv_iconst (v := (0 : Int32)) hx hb dX8_still_27 (by decide) ?_
    refine lv_istore_n (lv' := [(3, .int (0 : Int32)), (2, .int x102), (0, .ref (q1 100)), (1, .int x1)]) hx hb dX8_still_28 rfl hl (by decide) rfl (fun ls hl => ?_)
    refine lv_iconst (v := (0 : Int32)) hx hb dX8_still_29 (by decide) ?_
    refine lv_istore (lv' := [(4, .int (0 : Int32)), (3, .int (0 : Int32)), (2, .int x102), (0, .ref (q1 100)), (1, .int x1)]) hx hb dX8_still_30 hl (by decide) rfl (fun ls hl => ?_)
    obtain ⟨x103, S104, ho105, h⟩ := fx_b2_s h
    refine lw_X8_still_32 hC hA N q1 x102 N (0 : Int32) (0 : Int32) S1  (x103, S104) ho105 _ _ _ hP hD hS (lv_sub hl [3, 2, 1, 0] rfl) ?_
    · intro y0 y1 he H locs ls hP hD hS hl
      obtain ⟨rfl, rfl⟩ := fx_j2 he
      refine lv_iload_n hx hb dX8_still_107 rfl (lv_at hl 0 rfl) ?_
      obtain ⟨rfl, rfl⟩ := fx_i2 h
      exact Ci.ret hC hr hlk hA9 hP hD hS dX8_still_108
  · refine lv_bipush (v := (-2 : Int32)) hx hb dX8_still_12 (by decide) ?_
    obtain ⟨rfl, rfl⟩ := fx_i2 h
    exact Ci.ret hC hr hlk hA9 hP hD hS dX8_still_14
theorem uX8_layRipe_X8 : ∀ w ∈ u_ws RX8 TX8 46, w ∈ wsX8_layRipe := fun w h => List.mem_cons_of_mem _ (List.mem_append_right _ h)
abbrev RM_X8_layRipe : Room := { frames := 3, cells := 0, slots := 0, locals := 66 }
def bd_X8_layRipe_10 (N : Nat) (x1 : Int32) (x2 : Int32) (x3 : Int32) (S1 : St) (rec : (Int32 × St) → Option (St)) : Option (St) :=
  (if (S1.1 1) ≤ x3 then (
    some S1) else (
    fx_b1 (f_X8_isSort N S1 x2) (fun v101 =>
      fx_b1 ((if v101 = 0 then (
      some S1) else (
      fx_b1 (f_X8_findRipe N S1 x2 x3 x1) (fun S118 =>
        some S118))) : Option (St)) (fun S102 =>
      fx_b1 (f_X8_isSort N S102 x2) (fun v104 =>
        fx_b1 ((if v104 = 0 then (
        some (-6 : Int32)) else (
        some (S102.1 28))) : Option (Int32)) (fun v105 =>
        fx_ast 36 S102 32 (((6 : Int32) * x2) + x3) v105 (fun S107 =>
          fx_b1 (f_X8_isSort N S107 x2) (fun v108 =>
          fx_b1 ((if v108 = 0 then (
          some (-6 : Int32)) else (
          some (S107.1 29))) : Option (Int32)) (fun v109 =>
          fx_ast 36 S107 33 (((6 : Int32) * x2) + x3) v109 (fun S111 =>
            fx_lt (x3 + (1 : Int32)) (fun x112 =>
            rec (x112, S111))))))))))))
def lf_X8_layRipe_10 (N : Nat) (x1 : Int32) (x2 : Int32) : (Int32 × St) → ((Int32 × St) → Option (St)) → Option (St) := fun x rec => bd_X8_layRipe_10 N x1 x2 x.1 x.2 rec
set_option maxRecDepth 100000 in
set_option maxHeartbeats 4000000 in
theorem lw_X8_layRipe_10 {p : Program} {l : Launch} {e : Env} {s : State} {m : MethodId} {args : Array Value} {below : List Frame} {meth : Method} {c : Code} {Q : State → Prop} {A : Nat → Prop} {H0 : Heap} {g : GG} (hC : Cx p s m args c RX8 cX8_layRipe 4 wsX8_layRipe g) (hA : ∀ q : Nat, H0.size ≤ q → A q) (N : Nat) (q1 : Nat → Nat) (x1 : Int32) (x2 : Int32) : ∀ (n : Nat) (x3 : Int32) (S1 : St) (o : St), fx_it (lf_X8_layRipe_10 N x1 x2) n (x3, S1) = some o → ∀ (H : Heap) (locs : List Loc) (ls : Array Slot), va_P g.1 vwCl (wX8 g q1 S1) H → va_D A (wX8 g q1 S1) → va_S A H0 H locs → lv_has ls 4 [(0, .ref (q1 100)), (1, .int x1), (2, .int x2), (3, .int x3)] → (∀ (Z0 : St), o = Z0 → ∀ (H : Heap) (locs : List Loc) (ls : Array Slot), va_P g.1 vwCl (wX8 g q1 Z0) H → va_D A (wX8 g q1 Z0) → va_S A H0 H locs → lv_has ls 4 [(0, .ref (q1 100)), (1, .int x1), (2, .int x2)] → W p l e RM_X8_layRipe s m args below meth c H locs 0 0 Q (F0 m 95 ls [])) → W p l e RM_X8_layRipe s m args below meth c H locs 0 0 Q (F0 m 10 ls []) := by
  have hx := hC.1.1
  have hb := hC.1.2.1
  have hml := hC.1.2.2.1
  have hown := hC.1.2.2.2.1
  have hts := hC.1.2.2.2.2
  intro n
  induction n with
  | zero => intro x3 S1 o h; cases h
  | succ n ih =>
    intro x3 S1 o h H locs ls hP hD hS hl k0
    have h : bd_X8_layRipe_10 N x1 x2 x3 S1 (fx_it (lf_X8_layRipe_10 N x1 x2) n) = some o := h
    unfold bd_X8_layRipe_10 at h
    refine lv_iload_n hx hb dX8_layRipe_10 rfl (lv_at hl 3 rfl) ?_
    refine lv_aload_n hx hb dX8_layRipe_11 rfl (lv_at hl 0 rfl) ?_
    refine k_get (ci := 8) (k := 1) (q0 := 0) (v := .int (S1.1 1)) (C := RX8) (T := TX8) (N := 46) hC uX8_layRipe_X8 hP rfl rfl (by decide) (List.mem_of_getElem? (i := 1) rfl) rfl dX8_layRipe_12 ?_
    refine k_icmp_ge (tgt := 95) hC dX8_layRipe_15 (by decide) h (fun h => ?_) (fun h => ?_)
    · exact k0 S1 (Option.some.inj h).symm _ _ _ hP hD hS (lv_sub hl [0, 1, 2] rfl)
    · refine lv_aload_n hx hb dX8_layRipe_18 rfl (lv_at hl 0 rfl) ?_
      refine lv_iload_n hx hb dX8_layRipe_19 rfl (lv_at hl 2 rfl) ?_
      obtain ⟨v101, hc120, h⟩ := fx_b1_s h
      refine k_callVi0 (C := RX8) (ci := 8) (qr := 0) (n := 1) (As := [.int x2]) (rest := []) (wc := (wX8 g q1 S1)) (bytes := cX8_isSort) (maxL := 2) (ret := (some .boolean)) hC hl.1 (c_X8_isSort l g N q1 S1 x2 v101 hc120) rfl gX8_layRipe_X8_isSort (by decide +kernel) rfl rfl ⟨Nat.le_of_ble_eq_true rfl, Nat.le_of_ble_eq_true rfl⟩ rfl rfl rfl (Nat.le_of_ble_eq_true rfl) ⟨Nat.le_of_ble_eq_true rfl, Nat.le_of_ble_eq_true rfl⟩ dX8_layRipe_20 hP hD hS hA [0, 1, 2, 3, 4, 5, 6, 7, 8, 9, 10, 11, 12, 13, 14, 15, 16, 17, 18, 19, 20, 21, 22, 23] rfl (by decide +kernel) (fun H locs hP hD hS => ?_)
      obtain ⟨S102, hv103, h⟩ := fx_b1_s h
      have K117 : ∀ (H : Heap) (locs : List Loc) (ls : Array Slot), va_P g.1 vwCl (wX8 g q1 S102) H → va_D A (wX8 g q1 S102) → va_S A H0 H locs → lv_has ls 4 [(0, .ref (q1 100)), (1, .int x1), (2, .int x2), (3, .int x3)] → W p l e RM_X8_layRipe s m args below meth c H locs 0 0 Q (F0 m 33 ls []) := by
        intro H locs ls hP hD hS hl
        refine lv_aload_n hx hb dX8_layRipe_33 rfl (lv_at hl 0 rfl) ?_
        refine k_get (ci := 8) (k := 32) (q0 := 0) (v := .ref (q1 32)) (C := RX8) (T := TX8) (N := 46) hC uX8_layRipe_X8 hP rfl rfl (by decide) (List.mem_of_getElem? (i := 2) rfl) rfl dX8_layRipe_34 ?_
        refine lv_bipush (v := (6 : Int32)) hx hb dX8_layRipe_37 (by decide) ?_
        refine lv_iload_n hx hb dX8_layRipe_39 rfl (lv_at hl 2 rfl) ?_
        refine lv_imul hx hb dX8_layRipe_40 ?_
        refine lv_iload_n hx hb dX8_layRipe_41 rfl (lv_at hl 3 rfl) ?_
        refine lv_iadd hx hb dX8_layRipe_42 ?_
        refine lv_aload_n hx hb dX8_layRipe_43 rfl (lv_at hl 0 rfl) ?_
        refine lv_iload_n hx hb dX8_layRipe_44 rfl (lv_at hl 2 rfl) ?_
        obtain ⟨v104, hc116, h⟩ := fx_b1_s h
        refine k_callVi0 (C := RX8) (ci := 8) (qr := 0) (n := 1) (As := [.int x2]) (rest := [.int (((6 : Int32) * x2) + x3), .ref (q1 32)]) (wc := (wX8 g q1 S102)) (bytes := cX8_isSort) (maxL := 2) (ret := (some .boolean)) hC hl.1 (c_X8_isSort l g N q1 S102 x2 v104 hc116) rfl gX8_layRipe_X8_isSort (by decide +kernel) rfl rfl ⟨Nat.le_of_ble_eq_true rfl, Nat.le_of_ble_eq_true rfl⟩ rfl rfl rfl (Nat.le_of_ble_eq_true rfl) ⟨Nat.le_of_ble_eq_true rfl, Nat.le_of_ble_eq_true rfl⟩ dX8_layRipe_45 hP hD hS hA [0, 1, 2, 3, 4, 5, 6, 7, 8, 9, 10, 11, 12, 13, 14, 15, 16, 17, 18, 19, 20, 21, 22, 23] rfl (by decide +kernel) (fun H locs hP hD hS => ?_)
        obtain ⟨v105, hv106, h⟩ := fx_b1_s h
        have K115 : ∀ (H : Heap) (locs : List Loc) (ls : Array Slot), va_P g.1 vwCl (wX8 g q1 S102) H → va_D A (wX8 g q1 S102) → va_S A H0 H locs → lv_has ls 4 [(0, .ref (q1 100)), (1, .int x1), (2, .int x2), (3, .int x3)] → W p l e RM_X8_layRipe s m args below meth c H locs 0 0 Q (F0 m 60 ls [.int v105, .int (((6 : Int32) * x2) + x3), .ref (q1 32)]) := by
          intro H locs ls hP hD hS hl
          refine k_ast (q0 := 17) (n := 36) (k := 32) (S := S102) (fun S => (wX8 g q1 S)) hC hP hD hS rfl (fun _ => rfl) dX8_layRipe_60 h (fun S107 h H locs hP hD hS => ?_)
          refine lv_aload_n hx hb dX8_layRipe_61 rfl (lv_at hl 0 rfl) ?_
          refine k_get (ci := 8) (k := 33) (q0 := 0) (v := .ref (q1 33)) (C := RX8) (T := TX8) (N := 46) hC uX8_layRipe_X8 hP rfl rfl (by decide) (List.mem_of_getElem? (i := 4) rfl) rfl dX8_layRipe_62 ?_
          refine lv_bipush (v := (6 : Int32)) hx hb dX8_layRipe_65 (by decide) ?_
          refine lv_iload_n hx hb dX8_layRipe_67 rfl (lv_at hl 2 rfl) ?_
          refine lv_imul hx hb dX8_layRipe_68 ?_
          refine lv_iload_n hx hb dX8_layRipe_69 rfl (lv_at hl 3 rfl) ?_
          refine lv_iadd hx hb dX8_layRipe_70 ?_
          refine lv_aload_n hx hb dX8_layRipe_71 rfl (lv_at hl 0 rfl) ?_
          refine lv_iload_n hx hb dX8_layRipe_72 rfl (lv_at hl 2 rfl) ?_
          obtain ⟨v108, hc114, h⟩ := fx_b1_s h
          refine k_callVi0 (C := RX8) (ci := 8) (qr := 0) (n := 1) (As := [.int x2]) (rest := [.int (((6 : Int32) * x2) + x3), .ref (q1 33)]) (wc := (wX8 g q1 S107)) (bytes := cX8_isSort) (maxL := 2) (ret := (some .boolean)) hC hl.1 (c_X8_isSort l g N q1 S107 x2 v108 hc114) rfl gX8_layRipe_X8_isSort (by decide +kernel) rfl rfl ⟨Nat.le_of_ble_eq_true rfl, Nat.le_of_ble_eq_true rfl⟩ rfl rfl rfl (Nat.le_of_ble_eq_true rfl) ⟨Nat.le_of_ble_eq_true rfl, Nat.le_of_ble_eq_true rfl⟩ dX8_layRipe_73 hP hD hS hA [0, 1, 2, 3, 4, 5, 6, 7, 8, 9, 10, 11, 12, 13, 14, 15, 16, 17, 18, 19, 20, 21, 22, 23] rfl (by decide +kernel) (fun H locs hP hD hS => ?_)
          obtain ⟨v109, hv110, h⟩ := fx_b1_s h
          have K113 : ∀ (H : Heap) (locs : List Loc) (ls : Array Slot), va_P g.1 vwCl (wX8 g q1 S107) H → va_D A (wX8 g q1 S107) → va_S A H0 H locs → lv_has ls 4 [(0, .ref (q1 100)), (1, .int x1), (2, .int x2), (3, .int x3)] → W p l e RM_X8_layRipe s m args below meth c H locs 0 0 Q (F0 m 88 ls [.int v109, .int (((6 : Int32) * x2) + x3), .ref (q1 33)]) := by
            intro H locs ls hP hD hS hl
            refine k_ast (q0 := 18) (n := 36) (k := 33) (S := S107) (fun S => (wX8 g q1 S)) hC hP hD hS rfl (fun _ => rfl) dX8_layRipe_88 h (fun S111 h H locs hP hD hS => ?_)
            refine k_iinc (v := (1 : Int32)) (lv' := fun X => [(3, .int X), (0, .ref (q1 100)), (1, .int x1), (2, .int x2)]) hC dX8_layRipe_89 hl (k := 3) rfl (by decide) (by decide) (fun _ => rfl) h (fun x112 h ls hl => ?_)
            refine lv_goto (tgt := 10) hx hb dX8_layRipe_92 (by decide) ?_
            exact ih x112 S111 o h _ _ _ hP hD hS (lv_sub hl [1, 2, 3, 0] rfl) k0
          refine k_if_eq (tgt := 86) hC dX8_layRipe_76 (by decide) hv110 (fun hv110 => ?_) (fun hv110 => ?_)
          · refine lv_bipush (v := (-6 : Int32)) hx hb dX8_layRipe_86 (by decide) ?_
            obtain rfl := fx_i1 hv110
            exact K113 _ _ _ hP hD hS (lv_sub hl [0, 1, 2, 3] rfl)
          · refine lv_aload_n hx hb dX8_layRipe_79 rfl (lv_at hl 0 rfl) ?_
            refine k_get (ci := 8) (k := 29) (q0 := 0) (v := .int (S107.1 29)) (C := RX8) (T := TX8) (N := 46) hC uX8_layRipe_X8 hP rfl rfl (by decide) (List.mem_of_getElem? (i := 5) rfl) rfl dX8_layRipe_80 ?_
            refine lv_goto (tgt := 88) hx hb dX8_layRipe_83 (by decide) ?_
            obtain rfl := fx_i1 hv110
            exact K113 _ _ _ hP hD hS (lv_sub hl [0, 1, 2, 3] rfl)
        refine k_if_eq (tgt := 58) hC dX8_layRipe_48 (by decide) hv106 (fun hv106 => ?_) (fun hv106 => ?_)
        · refine lv_bipush (v := (-6 : Int32)) hx hb dX8_layRipe_58 (by decide) ?_
          obtain rfl := fx_i1 hv106
          exact K115 _ _ _ hP hD hS (lv_sub hl [0, 1, 2, 3] rfl)
        · refine lv_aload_n hx hb dX8_layRipe_51 rfl (lv_at hl 0 rfl) ?_
          refine k_get (ci := 8) (k := 28) (q0 := 0) (v := .int (S102.1 28)) (C := RX8) (T := TX8) (N := 46) hC uX8_layRipe_X8 hP rfl rfl (by decide) (List.mem_of_getElem? (i := 3) rfl) rfl dX8_layRipe_52 ?_
          refine lv_goto (tgt := 60) hx hb dX8_layRipe_55 (by decide) ?_
          obtain rfl := fx_i1 hv106
          exact K115 _ _ _ hP hD hS (lv_sub hl [0, 1, 2, 3] rfl)
      refine k_if_eq (tgt := 33) hC dX8_layRipe_23 (by decide) hv103 (fun hv103 => ?_) (fun hv103 => ?_)
      · obtain rfl := fx_i1 hv103
        exact K117 _ _ _ hP hD hS (lv_sub hl [0, 1, 2, 3] rfl)
      · refine lv_aload_n hx hb dX8_layRipe_26 rfl (lv_at hl 0 rfl) ?_
        refine lv_iload_n hx hb dX8_layRipe_27 rfl (lv_at hl 2 rfl) ?_
        refine lv_iload_n hx hb dX8_layRipe_28 rfl (lv_at hl 3 rfl) ?_
        refine lv_iload_n hx hb dX8_layRipe_29 rfl (lv_at hl 1 rfl) ?_
        obtain ⟨S118, hc119, hv103⟩ := fx_b1_s hv103
        refine k_callVv (C := RX8) (ci := 8) (qr := 0) (n := 3) (As := [.int x2, .int x3, .int x1]) (rest := []) (wc := (wX8 g q1 S1)) (w1 := (wX8 g q1 S118)) (ws2 := (wX8 g q1 S118)) (bytes := cX8_findRipe) (maxL := 7) (ret := none) hC hl.1 (c_X8_findRipe l g N q1 S1 x2 x3 x1 S118 hc119) rfl gX8_layRipe_X8_findRipe (by decide +kernel) rfl rfl ⟨Nat.le_of_ble_eq_true rfl, Nat.le_of_ble_eq_true rfl⟩ rfl rfl rfl (Nat.le_of_ble_eq_true rfl) ⟨Nat.le_of_ble_eq_true rfl, Nat.le_of_ble_eq_true rfl⟩ dX8_layRipe_30 hP hD hS hA [0, 1, 2, 3, 4, 5, 6, 7, 8, 9, 10, 11, 12, 13, 14, 15, 16, 17, 18, 19, 20, 21, 22, 23] rfl (by decide +kernel) [q1 100, q1 6, q1 8, q1 9, q1 10, q1 11, q1 12, q1 13, q1 14, q1 15, q1 16, q1 18, q1 20, q1 21, q1 23, q1 27, q1 30, q1 32, q1 33, q1 34, q1 39, q1 41, q1 42, q1 43] rfl rfl rfl [] ([] : va_W) rfl rfl (n2 := 24) rfl (by decide +kernel) (fun H locs hP hD hS => ?_)
        obtain rfl := fx_i1 hv103
        exact K117 _ _ _ hP hD hS (lv_sub hl [0, 1, 2, 3] rfl)
def bd_X8_layRipe_2 (N : Nat) (x1 : Int32) (x2 : Int32) (S1 : St) (rec : (Int32 × St) → Option (St)) : Option (St) :=
  (if (6 : Int32) ≤ x2 then (
    some S1) else (
    fx_b1 (fx_it (lf_X8_layRipe_10 N x1 x2) N ((0 : Int32), S1)) (fun S101 =>
      fx_lt (x2 + (1 : Int32)) (fun x103 =>
        rec (x103, S101)))))
def lf_X8_layRipe_2 (N : Nat) (x1 : Int32) : (Int32 × St) → ((Int32 × St) → Option (St)) → Option (St) := fun x rec => bd_X8_layRipe_2 N x1 x.1 x.2 rec
set_option maxRecDepth 100000 in
set_option maxHeartbeats 4000000 in
theorem lw_X8_layRipe_2 {p : Program} {l : Launch} {e : Env} {s : State} {m : MethodId} {args : Array Value} {below : List Frame} {meth : Method} {c : Code} {Q : State → Prop} {A : Nat → Prop} {H0 : Heap} {g : GG} (hC : Cx p s m args c RX8 cX8_layRipe 4 wsX8_layRipe g) (hA : ∀ q : Nat, H0.size ≤ q → A q) (N : Nat) (q1 : Nat → Nat) (x1 : Int32) : ∀ (n : Nat) (x2 : Int32) (S1 : St) (o : St), fx_it (lf_X8_layRipe_2 N x1) n (x2, S1) = some o → ∀ (H : Heap) (locs : List Loc) (ls : Array Slot), va_P g.1 vwCl (wX8 g q1 S1) H → va_D A (wX8 g q1 S1) → va_S A H0 H locs → lv_has ls 4 [(0, .ref (q1 100)), (1, .int x1), (2, .int x2)] → (∀ (Z0 : St), o = Z0 → ∀ (H : Heap) (locs : List Loc) (ls : Array Slot), va_P g.1 vwCl (wX8 g q1 Z0) H → va_D A (wX8 g q1 Z0) → va_S A H0 H locs → lv_has ls 4 [] → W p l e RM_X8_layRipe s m args below meth c H locs 0 0 Q (F0 m 101 ls [])) → W p l e RM_X8_layRipe s m args below meth c H locs 0 0 Q (F0 m 2 ls []) := by
  have hx := hC.1.1
  have hb := hC.1.2.1
  have hml := hC.1.2.2.1
  have hown := hC.1.2.2.2.1
  have hts := hC.1.2.2.2.2
  intro n
  induction n with
  | zero => intro x2 S1 o h; cases h
  | succ n ih =>
    intro x2 S1 o h H locs ls hP hD hS hl k0
    have h : bd_X8_layRipe_2 N x1 x2 S1 (fx_it (lf_X8_layRipe_2 N x1) n) = some o := h
    unfold bd_X8_layRipe_2 at h
    refine lv_iload_n hx hb dX8_layRipe_2 rfl (lv_at hl 2 rfl) ?_
    refine lv_bipush (v := (6 : Int32)) hx hb dX8_layRipe_3 (by decide) ?_
    refine k_icmp_ge (tgt := 101) hC dX8_layRipe_5 (by decide) h (fun h => ?_) (fun h => ?_)
    · exact k0 S1 (Option.some.inj h).symm _ _ _ hP hD hS (lv_sub hl [] rfl)
    · refine lv_iconst (v := (0 : Int32)) hx hb dX8_layRipe_8 (by decide) ?_
      refine lv_istore_n (lv' := [(3, .int (0 : Int32)), (0, .ref (q1 100)), (1, .int x1), (2, .int x2)]) hx hb dX8_layRipe_9 rfl hl (by decide) rfl (fun ls hl => ?_)
      obtain ⟨S101, ho102, h⟩ := fx_b1_s h
      refine lw_X8_layRipe_10 hC hA N q1 x1 x2 N (0 : Int32) S1  S101 ho102 _ _ _ hP hD hS (lv_sub hl [1, 2, 3, 0] rfl) ?_
      · intro y0 he H locs ls hP hD hS hl
        obtain rfl := he
        refine k_iinc (v := (1 : Int32)) (lv' := fun X => [(2, .int X), (0, .ref (q1 100)), (1, .int x1)]) hC dX8_layRipe_95 hl (k := 2) rfl (by decide) (by decide) (fun _ => rfl) h (fun x103 h ls hl => ?_)
        refine lv_goto (tgt := 2) hx hb dX8_layRipe_98 (by decide) ?_
        exact ih x103 S101 o h _ _ _ hP hD hS (lv_sub hl [1, 2, 0] rfl) k0
def f_X8_layRipe (N : Nat) (S1 : St) (x1 : Int32) : Option (St) :=
  fx_b1 (fx_it (lf_X8_layRipe_2 N x1) N ((0 : Int32), S1)) (fun S101 =>
  some S101)
set_option maxRecDepth 100000 in
set_option maxHeartbeats 4000000 in
theorem c_X8_layRipe (l : Launch) (g : GG) (N : Nat) (q1 : Nat → Nat) (S1 : St) (x1 : Int32) (F1 : St) (h : f_X8_layRipe N S1 x1 = some F1) : Cv l yX8_layRipe wsX8_layRipe RM_X8_layRipe g [.ref (q1 100), .int x1] (wX8 g q1 S1) (wX8 g q1 F1) := by
  intro sz
  refine Met.ofC (cc := cX8_layRipe) (maxL := 4) (ret := none) (by decide) rfl (Nat.le_of_ble_eq_true rfl) ?_
  intro p e s m below meth c hC hr hlk hsz A hA9 hA hP hD hS ls hl
  subst hsz
  have hC : Cx p s m ([.ref (q1 100), .int x1] : List Value).toArray c RX8 cX8_layRipe 4 wsX8_layRipe g := hC
  have hx := hC.1.1
  have hb := hC.1.2.1
  have hml := hC.1.2.2.1
  have hown := hC.1.2.2.2.1
  have hts := hC.1.2.2.2.2
  have hl : lv_has ls 4 [(0, .ref (q1 100)), (1, .int x1)] := hl
  show W p l e RM_X8_layRipe s m ([.ref (q1 100), .int x1] : List Value).toArray below meth c s.heap [] 0 0 (Qv below g [.ref (q1 100), .int x1] (wX8 g q1 S1) (wX8 g q1 F1) s) (F0 m 0 ls [])
  unfold f_X8_layRipe at h
  refine lv_iconst (v := (0 : Int32)) hx hb dX8_layRipe_0 (by decide) ?_
  refine lv_istore_n (lv' := [(2, .int (0 : Int32)), (0, .ref (q1 100)), (1, .int x1)]) hx hb dX8_layRipe_1 rfl hl (by decide) rfl (fun ls hl => ?_)
  obtain ⟨S101, ho102, h⟩ := fx_b1_s h
  refine lw_X8_layRipe_2 hC hA N q1 x1 N (0 : Int32) S1  S101 ho102 _ _ _ hP hD hS (lv_sub hl [1, 2, 0] rfl) ?_
  · intro y0 he H locs ls hP hD hS hl
    obtain rfl := he
    obtain rfl := fx_i1 h
    exact Cv.ret hC hr hlk hA9 hP hD hS dX8_layRipe_101
theorem uX8_layLoaves_X8 : ∀ w ∈ u_ws RX8 TX8 46, w ∈ wsX8_layLoaves := fun w h => List.mem_cons_of_mem _ (List.mem_append_right _ h)
abbrev RM_X8_layLoaves : Room := { frames := 3, cells := 0, slots := 0, locals := 66 }
def bd_X8_layLoaves_46 (N : Nat) (x2 : Int32) (x3 : Int32) (x4 : Int32) (x5 : Int32) (S1 : St) (rec : (Int32 × St) → Option (Int32 × St)) : Option (Int32 × St) :=
  (if x5 ≤ 0 then (
    some (x5, S1)) else (
    fx_ald 6 (S1.2 30) (x5 - (1 : Int32)) (fun v101 =>
      (if v101 ≤ x4 then (
      some (x5, S1)) else (
      fx_ald 6 (S1.2 30) (x5 - (1 : Int32)) (fun v102 =>
        fx_ast 6 S1 30 x5 v102 (fun S103 =>
        fx_lt (x5 + (-1 : Int32)) (fun x104 =>
        rec (x104, S103)))))))))
def lf_X8_layLoaves_46 (N : Nat) (x2 : Int32) (x3 : Int32) (x4 : Int32) : (Int32 × St) → ((Int32 × St) → Option (Int32 × St)) → Option (Int32 × St) := fun x rec => bd_X8_layLoaves_46 N x2 x3 x4 x.1 x.2 rec
set_option maxRecDepth 100000 in
set_option maxHeartbeats 4000000 in
theorem lw_X8_layLoaves_46 {p : Program} {l : Launch} {e : Env} {s : State} {m : MethodId} {args : Array Value} {below : List Frame} {meth : Method} {c : Code} {Q : State → Prop} {A : Nat → Prop} {H0 : Heap} {g : GG} (hC : Cx p s m args c RX8 cX8_layLoaves 6 wsX8_layLoaves g) (hA : ∀ q : Nat, H0.size ≤ q → A q) (N : Nat) (q1 : Nat → Nat) (x2 : Int32) (x3 : Int32) (x4 : Int32) : ∀ (n : Nat) (x5 : Int32) (S1 : St) (o : Int32 × St), fx_it (lf_X8_layLoaves_46 N x2 x3 x4) n (x5, S1) = some o → ∀ (H : Heap) (locs : List Loc) (ls : Array Slot), va_P g.1 vwCl (wX8 g q1 S1) H → va_D A (wX8 g q1 S1) → va_S A H0 H locs → lv_has ls 6 [(0, .ref (q1 100)), (2, .int x2), (3, .int x3), (4, .int x4), (5, .int x5)] → (∀ (z0 : Int32) (Z0 : St), o = (z0, Z0) → ∀ (H : Heap) (locs : List Loc) (ls : Array Slot), va_P g.1 vwCl (wX8 g q1 Z0) H → va_D A (wX8 g q1 Z0) → va_S A H0 H locs → lv_has ls 6 [(0, .ref (q1 100)), (2, .int x2), (3, .int x3), (4, .int x4), (5, .int z0)] → W p l e RM_X8_layLoaves s m args below meth c H locs 0 0 Q (F0 m 87 ls [])) → W p l e RM_X8_layLoaves s m args below meth c H locs 0 0 Q (F0 m 46 ls []) := by
  have hx := hC.1.1
  have hb := hC.1.2.1
  have hml := hC.1.2.2.1
  have hown := hC.1.2.2.2.1
  have hts := hC.1.2.2.2.2
  intro n
  induction n with
  | zero => intro x5 S1 o h; cases h
  | succ n ih =>
    intro x5 S1 o h H locs ls hP hD hS hl k0
    have h : bd_X8_layLoaves_46 N x2 x3 x4 x5 S1 (fx_it (lf_X8_layLoaves_46 N x2 x3 x4) n) = some o := h
    unfold bd_X8_layLoaves_46 at h
    refine lv_iload hx hb dX8_layLoaves_46 (lv_at hl 4 rfl) ?_
    refine k_if_le (tgt := 87) hC dX8_layLoaves_48 (by decide) h (fun h => ?_) (fun h => ?_)
    · exact k0 x5 S1 (Option.some.inj h).symm _ _ _ hP hD hS (lv_sub hl [0, 1, 2, 3, 4] rfl)
    · refine lv_aload_n hx hb dX8_layLoaves_51 rfl (lv_at hl 0 rfl) ?_
      refine k_get (ci := 8) (k := 30) (q0 := 0) (v := .ref (q1 30)) (C := RX8) (T := TX8) (N := 46) hC uX8_layLoaves_X8 hP rfl rfl (by decide) (List.mem_of_getElem? (i := 2) rfl) rfl dX8_layLoaves_52 ?_
      refine lv_iload hx hb dX8_layLoaves_55 (lv_at hl 4 rfl) ?_
      refine lv_iconst (v := (1 : Int32)) hx hb dX8_layLoaves_57 (by decide) ?_
      refine lv_isub hx hb dX8_layLoaves_58 ?_
      refine k_ald (q0 := 16) (n := 6) (F := S1.2 30) hC hP rfl dX8_layLoaves_59 h (fun v101 h => ?_)
      refine lv_iload hx hb dX8_layLoaves_60 (lv_at hl 3 rfl) ?_
      refine k_icmp_le (tgt := 87) hC dX8_layLoaves_62 (by decide) h (fun h => ?_) (fun h => ?_)
      · exact k0 x5 S1 (Option.some.inj h).symm _ _ _ hP hD hS (lv_sub hl [0, 1, 2, 3, 4] rfl)
      · refine lv_aload_n hx hb dX8_layLoaves_65 rfl (lv_at hl 0 rfl) ?_
        refine k_get (ci := 8) (k := 30) (q0 := 0) (v := .ref (q1 30)) (C := RX8) (T := TX8) (N := 46) hC uX8_layLoaves_X8 hP rfl rfl (by decide) (List.mem_of_getElem? (i := 2) rfl) rfl dX8_layLoaves_66 ?_
        refine lv_iload hx hb dX8_layLoaves_69 (lv_at hl 4 rfl) ?_
        refine lv_aload_n hx hb dX8_layLoaves_71 rfl (lv_at hl 0 rfl) ?_
        refine k_get (ci := 8) (k := 30) (q0 := 0) (v := .ref (q1 30)) (C := RX8) (T := TX8) (N := 46) hC uX8_layLoaves_X8 hP rfl rfl (by decide) (List.mem_of_getElem? (i := 2) rfl) rfl dX8_layLoaves_72 ?_
        refine lv_iload hx hb dX8_layLoaves_75 (lv_at hl 4 rfl) ?_
        refine lv_iconst (v := (1 : Int32)) hx hb dX8_layLoaves_77 (by decide) ?_
        refine lv_isub hx hb dX8_layLoaves_78 ?_
        refine k_ald (q0 := 16) (n := 6) (F := S1.2 30) hC hP rfl dX8_layLoaves_79 h (fun v102 h => ?_)
        refine k_ast (q0 := 16) (n := 6) (k := 30) (S := S1) (fun S => (wX8 g q1 S)) hC hP hD hS rfl (fun _ => rfl) dX8_layLoaves_80 h (fun S103 h H locs hP hD hS => ?_)
        refine k_iinc (v := (-1 : Int32)) (lv' := fun X => [(5, .int X), (0, .ref (q1 100)), (2, .int x2), (3, .int x3), (4, .int x4)]) hC dX8_layLoaves_81 hl (k := 4) rfl (by decide) (by decide) (fun _ => rfl) h (fun x104 h ls hl => ?_)
        refine lv_goto (tgt := 46) hx hb dX8_layLoaves_84 (by decide) ?_
        exact ih x104 S103 o h _ _ _ hP hD hS (lv_sub hl [1, 2, 3, 4, 0] rfl) k0
def bd_X8_layLoaves_9 (N : Nat) (x2 : Int32) (x3 : Int32) (S1 : St) (rec : (Int32 × Int32 × St) → Option (Int32 × St)) : Option (Int32 × St) :=
  (if x3 ≤ 0 then (
    some (x2, S1)) else (
    fx_lt ((x3 - x3 / (10 : Int32) * (10 : Int32)) - (1 : Int32)) (fun x101 =>
      fx_b1 ((if x2 = 0 then (
      some (0 : Int32)) else (
      fx_b1 (f_X8_isSort N S1 x101) (fun v111 =>
        (if v111 = 0 then (
        some (0 : Int32)) else (
        some (1 : Int32)))))) : Option (Int32)) (fun v102 =>
      fx_b2 (fx_it (lf_X8_layLoaves_46 N v102 x3 x101) N ((S1.1 31), S1)) (fun x104 S105 =>
        fx_ast 6 S105 30 x104 x101 (fun S107 =>
          fx_lt (stI S107 31 ((S107.1 31) + (1 : Int32))) (fun S108 =>
          fx_lt (x3 / (10 : Int32)) (fun x109 =>
          rec (v102, x109, S108)))))))))
def lf_X8_layLoaves_9 (N : Nat) : (Int32 × Int32 × St) → ((Int32 × Int32 × St) → Option (Int32 × St)) → Option (Int32 × St) := fun x rec => bd_X8_layLoaves_9 N x.1 x.2.1 x.2.2 rec
set_option maxRecDepth 100000 in
set_option maxHeartbeats 4000000 in
theorem lw_X8_layLoaves_9 {p : Program} {l : Launch} {e : Env} {s : State} {m : MethodId} {args : Array Value} {below : List Frame} {meth : Method} {c : Code} {Q : State → Prop} {A : Nat → Prop} {H0 : Heap} {g : GG} (hC : Cx p s m args c RX8 cX8_layLoaves 6 wsX8_layLoaves g) (hA : ∀ q : Nat, H0.size ≤ q → A q) (N : Nat) (q1 : Nat → Nat) : ∀ (n : Nat) (x2 : Int32) (x3 : Int32) (S1 : St) (o : Int32 × St), fx_it (lf_X8_layLoaves_9 N) n (x2, x3, S1) = some o → ∀ (H : Heap) (locs : List Loc) (ls : Array Slot), va_P g.1 vwCl (wX8 g q1 S1) H → va_D A (wX8 g q1 S1) → va_S A H0 H locs → lv_has ls 6 [(0, .ref (q1 100)), (2, .int x2), (3, .int x3)] → (∀ (z0 : Int32) (Z0 : St), o = (z0, Z0) → ∀ (H : Heap) (locs : List Loc) (ls : Array Slot), va_P g.1 vwCl (wX8 g q1 Z0) H → va_D A (wX8 g q1 Z0) → va_S A H0 H locs → lv_has ls 6 [(2, .int z0)] → W p l e RM_X8_layLoaves s m args below meth c H locs 0 0 Q (F0 m 114 ls [])) → W p l e RM_X8_layLoaves s m args below meth c H locs 0 0 Q (F0 m 9 ls []) := by
  have hx := hC.1.1
  have hb := hC.1.2.1
  have hml := hC.1.2.2.1
  have hown := hC.1.2.2.2.1
  have hts := hC.1.2.2.2.2
  intro n
  induction n with
  | zero => intro x2 x3 S1 o h; cases h
  | succ n ih =>
    intro x2 x3 S1 o h H locs ls hP hD hS hl k0
    have h : bd_X8_layLoaves_9 N x2 x3 S1 (fx_it (lf_X8_layLoaves_9 N) n) = some o := h
    unfold bd_X8_layLoaves_9 at h
    refine lv_iload_n hx hb dX8_layLoaves_9 rfl (lv_at hl 2 rfl) ?_
    refine k_if_le (tgt := 114) hC dX8_layLoaves_10 (by decide) h (fun h => ?_) (fun h => ?_)
    · exact k0 x2 S1 (Option.some.inj h).symm _ _ _ hP hD hS (lv_sub hl [1] rfl)
    · refine lv_iload_n hx hb dX8_layLoaves_13 rfl (lv_at hl 2 rfl) ?_
      refine lv_bipush (v := (10 : Int32)) hx hb dX8_layLoaves_14 (by decide) ?_
      refine lv_irem hx hb dX8_layLoaves_16 (by decide) ?_
      refine lv_iconst (v := (1 : Int32)) hx hb dX8_layLoaves_17 (by decide) ?_
      refine lv_isub hx hb dX8_layLoaves_18 ?_
      refine k_topi h (fun x101 h => ?_)
      refine lv_istore (lv' := [(4, .int x101), (0, .ref (q1 100)), (2, .int x2), (3, .int x3)]) hx hb dX8_layLoaves_19 hl (by decide) rfl (fun ls hl => ?_)
      refine lv_iload_n hx hb dX8_layLoaves_21 rfl (lv_at hl 2 rfl) ?_
      obtain ⟨v102, hv103, h⟩ := fx_b1_s h
      have K110 : ∀ (H : Heap) (locs : List Loc) (ls : Array Slot), va_P g.1 vwCl (wX8 g q1 S1) H → va_D A (wX8 g q1 S1) → va_S A H0 H locs → lv_has ls 6 [(4, .int x101), (0, .ref (q1 100)), (3, .int x3)] → W p l e RM_X8_layLoaves s m args below meth c H locs 0 0 Q (F0 m 39 ls [.int v102]) := by
        intro H locs ls hP hD hS hl
        refine lv_istore_n (lv' := [(2, .int v102), (4, .int x101), (0, .ref (q1 100)), (3, .int x3)]) hx hb dX8_layLoaves_39 rfl hl (by decide) rfl (fun ls hl => ?_)
        refine lv_aload_n hx hb dX8_layLoaves_40 rfl (lv_at hl 2 rfl) ?_
        refine k_get (ci := 8) (k := 31) (q0 := 0) (v := .int (S1.1 31)) (C := RX8) (T := TX8) (N := 46) hC uX8_layLoaves_X8 hP rfl rfl (by decide) (List.mem_of_getElem? (i := 1) rfl) rfl dX8_layLoaves_41 ?_
        refine lv_istore (lv' := [(5, .int (S1.1 31)), (2, .int v102), (4, .int x101), (0, .ref (q1 100)), (3, .int x3)]) hx hb dX8_layLoaves_44 hl (by decide) rfl (fun ls hl => ?_)
        obtain ⟨x104, S105, ho106, h⟩ := fx_b2_s h
        refine lw_X8_layLoaves_46 hC hA N q1 v102 x3 x101 N (S1.1 31) S1  (x104, S105) ho106 _ _ _ hP hD hS (lv_sub hl [3, 1, 4, 2, 0] rfl) ?_
        · intro y0 y1 he H locs ls hP hD hS hl
          obtain ⟨rfl, rfl⟩ := fx_j2 he
          refine lv_aload_n hx hb dX8_layLoaves_87 rfl (lv_at hl 0 rfl) ?_
          refine k_get (ci := 8) (k := 30) (q0 := 0) (v := .ref (q1 30)) (C := RX8) (T := TX8) (N := 46) hC uX8_layLoaves_X8 hP rfl rfl (by decide) (List.mem_of_getElem? (i := 2) rfl) rfl dX8_layLoaves_88 ?_
          refine lv_iload hx hb dX8_layLoaves_91 (lv_at hl 4 rfl) ?_
          refine lv_iload hx hb dX8_layLoaves_93 (lv_at hl 3 rfl) ?_
          refine k_ast (q0 := 16) (n := 6) (k := 30) (S := S105) (fun S => (wX8 g q1 S)) hC hP hD hS rfl (fun _ => rfl) dX8_layLoaves_95 h (fun S107 h H locs hP hD hS => ?_)
          refine lv_aload_n hx hb dX8_layLoaves_96 rfl (lv_at hl 0 rfl) ?_
          refine lv_dup hx hb dX8_layLoaves_97 rfl ?_
          refine k_get (ci := 8) (k := 31) (q0 := 0) (v := .int (S107.1 31)) (C := RX8) (T := TX8) (N := 46) hC uX8_layLoaves_X8 hP rfl rfl (by decide) (List.mem_of_getElem? (i := 1) rfl) rfl dX8_layLoaves_98 ?_
          refine lv_iconst (v := (1 : Int32)) hx hb dX8_layLoaves_101 (by decide) ?_
          refine lv_iadd hx hb dX8_layLoaves_102 ?_
          refine k_put (ci := 8) (k := 31) (q0 := 0) (C := RX8) (T := TX8) (N := 46) (S2 := stI S107 31 ((S107.1 31) + (1 : Int32))) tyX8 (fun S => (wX8 g q1 S)) hC uX8_layLoaves_X8 tyX8_ok nmX8 hP hD hS rfl rfl (by decide) (List.mem_of_getElem? (i := 1) rfl) rfl (tyX8_ok 31 (by decide)) (Nat.le_of_ble_eq_true rfl) dX8_layLoaves_103 rfl h (fun S108 h H locs hP hD hS => ?_)
          refine lv_iload_n hx hb dX8_layLoaves_106 rfl (lv_at hl 2 rfl) ?_
          refine lv_bipush (v := (10 : Int32)) hx hb dX8_layLoaves_107 (by decide) ?_
          refine lv_idiv hx hb dX8_layLoaves_109 (by decide) ?_
          refine k_topi h (fun x109 h => ?_)
          refine lv_istore_n (lv' := [(3, .int x109), (0, .ref (q1 100)), (2, .int v102), (4, .int x101), (5, .int x104)]) hx hb dX8_layLoaves_110 rfl hl (by decide) rfl (fun ls hl => ?_)
          refine lv_goto (tgt := 9) hx hb dX8_layLoaves_111 (by decide) ?_
          exact ih v102 x109 S108 o h _ _ _ hP hD hS (lv_sub hl [1, 2, 0] rfl) k0
      refine k_if_eq (tgt := 38) hC dX8_layLoaves_22 (by decide) hv103 (fun hv103 => ?_) (fun hv103 => ?_)
      · refine lv_iconst (v := (0 : Int32)) hx hb dX8_layLoaves_38 (by decide) ?_
        obtain rfl := fx_i1 hv103
        exact K110 _ _ _ hP hD hS (lv_sub hl [0, 1, 3] rfl)
      · refine lv_aload_n hx hb dX8_layLoaves_25 rfl (lv_at hl 1 rfl) ?_
        refine lv_iload hx hb dX8_layLoaves_26 (lv_at hl 0 rfl) ?_
        obtain ⟨v111, hc112, hv103⟩ := fx_b1_s hv103
        refine k_callVi0 (C := RX8) (ci := 8) (qr := 0) (n := 1) (As := [.int x101]) (rest := []) (wc := (wX8 g q1 S1)) (bytes := cX8_isSort) (maxL := 2) (ret := (some .boolean)) hC hl.1 (c_X8_isSort l g N q1 S1 x101 v111 hc112) rfl gX8_layLoaves_X8_isSort (by decide +kernel) rfl rfl ⟨Nat.le_of_ble_eq_true rfl, Nat.le_of_ble_eq_true rfl⟩ rfl rfl rfl (Nat.le_of_ble_eq_true rfl) ⟨Nat.le_of_ble_eq_true rfl, Nat.le_of_ble_eq_true rfl⟩ dX8_layLoaves_28 hP hD hS hA [0, 1, 2, 3, 4, 5, 6, 7, 8, 9, 10, 11, 12, 13, 14, 15, 16, 17, 18, 19, 20, 21, 22, 23] rfl (by decide +kernel) (fun H locs hP hD hS => ?_)
        refine k_if_eq (tgt := 38) hC dX8_layLoaves_31 (by decide) hv103 (fun hv103 => ?_) (fun hv103 => ?_)
        · refine lv_iconst (v := (0 : Int32)) hx hb dX8_layLoaves_38 (by decide) ?_
          obtain rfl := fx_i1 hv103
          exact K110 _ _ _ hP hD hS (lv_sub hl [0, 1, 3] rfl)
        · refine lv_iconst (v := (1 : Int32)) hx hb dX8_layLoaves_34 (by decide) ?_
          refine lv_goto (tgt := 39) hx hb dX8_layLoaves_35 (by decide) ?_
          obtain rfl := fx_i1 hv103
          exact K110 _ _ _ hP hD hS (lv_sub hl [0, 1, 3] rfl)
def f_X8_layLoaves (N : Nat) (S1 : St) (x1 : Int32) : Option (Int32 × St) :=
  fx_lt (stI S1 31 (0 : Int32)) (fun S101 =>
  fx_b2 (fx_it (lf_X8_layLoaves_9 N) N ((1 : Int32), x1, S101)) (fun x102 S103 =>
  fx_bz x102 (some (x102, S103))))
set_option maxRecDepth 100000 in
set_option maxHeartbeats 4000000 in
theorem c_X8_layLoaves (l : Launch) (g : GG) (N : Nat) (q1 : Nat → Nat) (S1 : St) (x1 : Int32) (r : Int32) (F1 : St) (h : f_X8_layLoaves N S1 x1 = some (r, F1)) : Ci l yX8_layLoaves wsX8_layLoaves RM_X8_layLoaves g [.ref (q1 100), .int x1] (wX8 g q1 S1) (wX8 g q1 F1) r := by
  intro sz
  refine Met.ofC (cc := cX8_layLoaves) (maxL := 6) (ret := (some .boolean)) (by decide) rfl (Nat.le_of_ble_eq_true rfl) ?_
  intro p e s m below meth c hC hr hlk hsz A hA9 hA hP hD hS ls hl
  subst hsz
  have hC : Cx p s m ([.ref (q1 100), .int x1] : List Value).toArray c RX8 cX8_layLoaves 6 wsX8_layLoaves g := hC
  have hx := hC.1.1
  have hb := hC.1.2.1
  have hml := hC.1.2.2.1
  have hown := hC.1.2.2.2.1
  have hts := hC.1.2.2.2.2
  have hl : lv_has ls 6 [(0, .ref (q1 100)), (1, .int x1)] := hl
  show W p l e RM_X8_layLoaves s m ([.ref (q1 100), .int x1] : List Value).toArray below meth c s.heap [] 0 0 (Qi below g [.ref (q1 100), .int x1] (wX8 g q1 S1) (wX8 g q1 F1) r s) (F0 m 0 ls [])
  unfold f_X8_layLoaves at h
  refine lv_aload_n hx hb dX8_layLoaves_0 rfl (lv_at hl 0 rfl) ?_
  refine lv_iconst (v := (0 : Int32)) hx hb dX8_layLoaves_1 (by decide) ?_
  refine k_put (ci := 8) (k := 31) (q0 := 0) (C := RX8) (T := TX8) (N := 46) (S2 := stI S1 31 (0 : Int32)) tyX8 (fun S => (wX8 g q1 S)) hC uX8_layLoaves_X8 tyX8_ok nmX8 hP hD hS rfl rfl (by decide) (List.mem_of_getElem? (i := 1) rfl) rfl (tyX8_ok 31 (by decide)) (Nat.le_of_ble_eq_true rfl) dX8_layLoaves_2 rfl h (fun S101 h H locs hP hD hS => ?_)
  refine lv_iconst (v := (1 : Int32)) hx hb dX8_layLoaves_5 (by decide) ?_
  refine lv_istore_n (lv' := [(2, .int (1 : Int32)), (0, .ref (q1 100)), (1, .int x1)]) hx hb dX8_layLoaves_6 rfl hl (by decide) rfl (fun ls hl => ?_)
  refine lv_iload_n hx hb dX8_layLoaves_7 rfl (lv_at hl 2 rfl) ?_
  refine lv_istore_n (lv' := [(3, .int x1), (2, .int (1 : Int32)), (0, .ref (q1 100)), (1, .int x1)]) hx hb dX8_layLoaves_8 rfl hl (by decide) rfl (fun ls hl => ?_)
  obtain ⟨x102, S103, ho104, h⟩ := fx_b2_s h
  refine lw_X8_layLoaves_9 hC hA N q1 N (1 : Int32) x1 S101  (x102, S103) ho104 _ _ _ hP hD hS (lv_sub hl [2, 1, 0] rfl) ?_
  · intro y0 y1 he H locs ls hP hD hS hl
    obtain ⟨rfl, rfl⟩ := fx_j2 he
    refine lv_iload_n hx hb dX8_layLoaves_114 rfl (lv_at hl 0 rfl) ?_
    obtain ⟨hz, h⟩ := fx_bz_s h
    obtain ⟨rfl, rfl⟩ := fx_i2 h
    exact Ci.retz hC hr hlk hz.1 hA9 hP hD hS dX8_layLoaves_115
abbrev RM_X8_isLoaves : Room := { frames := 1, cells := 0, slots := 0, locals := 25 }
def f_X8_isLoaves (N : Nat) (x0 : Int32) : Option (Int32) :=
  fx_b1 (f_X8_in N (Int32.toInt64 x0) (0 : Int64) (666666 : Int64)) (fun v101 =>
  fx_bz v101 (some v101))
set_option maxRecDepth 100000 in
set_option maxHeartbeats 4000000 in
theorem c_X8_isLoaves (l : Launch) (g : GG) (N : Nat) (x0 : Int32) (r : Int32) (h : f_X8_isLoaves N x0 = some r) : Ci l yX8_isLoaves wsX8_isLoaves RM_X8_isLoaves g [.int x0] ([] : va_W) ([] : va_W) r := by
  intro sz
  refine Met.ofC (cc := cX8_isLoaves) (maxL := 1) (ret := (some .boolean)) (by decide) rfl (Nat.le_of_ble_eq_true rfl) ?_
  intro p e s m below meth c hC hr hlk hsz A hA9 hA hP hD hS ls hl
  subst hsz
  have hC : Cx p s m ([.int x0] : List Value).toArray c RX8 cX8_isLoaves 1 wsX8_isLoaves g := hC
  have hx := hC.1.1
  have hb := hC.1.2.1
  have hml := hC.1.2.2.1
  have hown := hC.1.2.2.2.1
  have hts := hC.1.2.2.2.2
  have hl : lv_has ls 1 [(0, .int x0)] := hl
  show W p l e RM_X8_isLoaves s m ([.int x0] : List Value).toArray below meth c s.heap [] 0 0 (Qi below g [.int x0] ([] : va_W) ([] : va_W) r s) (F0 m 0 ls [])
  unfold f_X8_isLoaves at h
  refine lv_iload_n hx hb dX8_isLoaves_0 rfl (lv_at hl 0 rfl) ?_
  refine lv_i2l hx hb dX8_isLoaves_1 rfl ?_
  refine lv_lconst (v := (0 : Int64)) hx hb dX8_isLoaves_2 (by decide) ?_
  refine lv_ldc2 (v := (666666 : Int64)) hx hb hown (hts _ (List.mem_of_getElem? (i := 1) rfl)) dX8_isLoaves_3 ?_
  obtain ⟨v101, hc102, h⟩ := fx_b1_s h
  refine k_callSi0 (n := 3) (As := [.long (Int32.toInt64 x0), .long (0 : Int64), .long (666666 : Int64)]) (rest := []) (wc := ([] : va_W)) (bytes := cX8_in) (maxL := 6) (ret := (some .boolean)) hC hl.1 (c_X8_in l g N (Int32.toInt64 x0) (0 : Int64) (666666 : Int64) v101 hc102) rfl gX8_isLoaves_X8_in (by decide +kernel) ⟨Nat.le_of_ble_eq_true rfl, Nat.le_of_ble_eq_true rfl⟩ rfl rfl rfl (Nat.le_of_ble_eq_true rfl) ⟨Nat.le_of_ble_eq_true rfl, Nat.le_of_ble_eq_true rfl⟩ dX8_isLoaves_6 hP hD hS hA [] rfl (by decide +kernel) (fun H locs hP hD hS => ?_)
  obtain ⟨hz, h⟩ := fx_bz_s h
  obtain rfl := fx_i1 h
  exact Ci.retz hC hr hlk hz.1 hA9 hP hD hS dX8_isLoaves_9
theorem uX8_outBy_X8 : ∀ w ∈ u_ws RX8 TX8 46, w ∈ wsX8_outBy := fun w h => List.mem_cons_of_mem _ (List.mem_append_right _ h)
abbrev RM_X8_outBy : Room := { frames := 0, cells := 0, slots := 0, locals := 0 }
def bd_X8_outBy_4 (N : Nat) (x1 : Int32) (S1 : St) (x2 : Int32) (x3 : Int32) (rec : (Int32 × Int32) → Option (Int32)) : Option (Int32) :=
  (if x3 ≤ 0 then (
    some x2) else (
    fx_lt (x2 + (1 : Int32)) (fun x101 =>
      fx_lt (x3 / (10 : Int32)) (fun x102 =>
      rec (x101, x102)))))
def lf_X8_outBy_4 (N : Nat) (x1 : Int32) (S1 : St) : (Int32 × Int32) → ((Int32 × Int32) → Option (Int32)) → Option (Int32) := fun x rec => bd_X8_outBy_4 N x1 S1 x.1 x.2 rec
set_option maxRecDepth 100000 in
set_option maxHeartbeats 4000000 in
theorem lw_X8_outBy_4 {p : Program} {l : Launch} {e : Env} {s : State} {m : MethodId} {args : Array Value} {below : List Frame} {meth : Method} {c : Code} {Q : State → Prop} {A : Nat → Prop} {H0 : Heap} {g : GG} (hC : Cx p s m args c RX8 cX8_outBy 7 wsX8_outBy g) (hA : ∀ q : Nat, H0.size ≤ q → A q) (N : Nat) (q1 : Nat → Nat) (x1 : Int32) (S1 : St) : ∀ (n : Nat) (x2 : Int32) (x3 : Int32) (o : Int32), fx_it (lf_X8_outBy_4 N x1 S1) n (x2, x3) = some o → ∀ (H : Heap) (locs : List Loc) (ls : Array Slot), va_P g.1 vwCl (wX8 g q1 S1) H → va_D A (wX8 g q1 S1) → va_S A H0 H locs → lv_has ls 7 [(0, .ref (q1 100)), (1, .int x1), (2, .int x2), (3, .int x3)] → (∀ (z0 : Int32), o = z0 → ∀ (H : Heap) (locs : List Loc) (ls : Array Slot), va_P g.1 vwCl (wX8 g q1 S1) H → va_D A (wX8 g q1 S1) → va_S A H0 H locs → lv_has ls 7 [(0, .ref (q1 100)), (1, .int x1), (2, .int z0)] → W p l e RM_X8_outBy s m args below meth c H locs 0 0 Q (F0 m 19 ls [])) → W p l e RM_X8_outBy s m args below meth c H locs 0 0 Q (F0 m 4 ls []) := by
  have hx := hC.1.1
  have hb := hC.1.2.1
  have hml := hC.1.2.2.1
  have hown := hC.1.2.2.2.1
  have hts := hC.1.2.2.2.2
  intro n
  induction n with
  | zero => intro x2 x3 o h; cases h
  | succ n ih =>
    intro x2 x3 o h H locs ls hP hD hS hl k0
    have h : bd_X8_outBy_4 N x1 S1 x2 x3 (fx_it (lf_X8_outBy_4 N x1 S1) n) = some o := h
    unfold bd_X8_outBy_4 at h
    refine lv_iload_n hx hb dX8_outBy_4 rfl (lv_at hl 3 rfl) ?_
    refine k_if_le (tgt := 19) hC dX8_outBy_5 (by decide) h (fun h => ?_) (fun h => ?_)
    · exact k0 x2 (Option.some.inj h).symm _ _ _ hP hD hS (lv_sub hl [0, 1, 2] rfl)
    · refine k_iinc (v := (1 : Int32)) (lv' := fun X => [(2, .int X), (0, .ref (q1 100)), (1, .int x1), (3, .int x3)]) hC dX8_outBy_8 hl (k := 2) rfl (by decide) (by decide) (fun _ => rfl) h (fun x101 h ls hl => ?_)
      refine lv_iload_n hx hb dX8_outBy_11 rfl (lv_at hl 3 rfl) ?_
      refine lv_bipush (v := (10 : Int32)) hx hb dX8_outBy_12 (by decide) ?_
      refine lv_idiv hx hb dX8_outBy_14 (by decide) ?_
      refine k_topi h (fun x102 h => ?_)
      refine lv_istore_n (lv' := [(3, .int x102), (2, .int x101), (0, .ref (q1 100)), (1, .int x1)]) hx hb dX8_outBy_15 rfl hl (by decide) rfl (fun ls hl => ?_)
      refine lv_goto (tgt := 4) hx hb dX8_outBy_16 (by decide) ?_
      exact ih x101 x102 o h _ _ _ hP hD hS (lv_sub hl [2, 3, 1, 0] rfl) k0
def bd_X8_outBy_48 (N : Nat) (S1 : St) (x3 : Int32) (x4 : Int32) (x5 : Int32) (rec : (Int32 × Int32 × Int32) → Option (Nat × Int32)) : Option (Nat × Int32) :=
  (if x5 < 0 then (
    some (1, x3)) else (
    fx_lt (((6 : Int32) * ((x4 - x4 / (10 : Int32) * (10 : Int32)) - (1 : Int32))) + x5) (fun x101 =>
      fx_ald 36 (S1.2 32) x101 (fun v102 =>
      fx_b1 ((if v102 ≤ x3 then (
      some x3) else (
      fx_ald 36 (S1.2 32) x101 (fun v110 =>
        some v110))) : Option (Int32)) (fun v103 =>
      fx_ald 36 (S1.2 32) x101 (fun v105 =>
        (if v105 < 0 then (
        some (0, (0 : Int32))) else (
        fx_ald 36 (S1.2 33) x101 (fun v106 =>
          (if v103 ≤ v106 then (
          fx_lt (x4 / (10 : Int32)) (fun x107 =>
            fx_lt (x5 + (-1 : Int32)) (fun x108 =>
            rec (v103, x107, x108)))) else (
          some (0, (0 : Int32)))))))))))))
def lf_X8_outBy_48 (N : Nat) (S1 : St) : (Int32 × Int32 × Int32) → ((Int32 × Int32 × Int32) → Option (Nat × Int32)) → Option (Nat × Int32) := fun x rec => bd_X8_outBy_48 N S1 x.1 x.2.1 x.2.2 rec
set_option maxRecDepth 100000 in
set_option maxHeartbeats 4000000 in
theorem lw_X8_outBy_48 {p : Program} {l : Launch} {e : Env} {s : State} {m : MethodId} {args : Array Value} {below : List Frame} {meth : Method} {c : Code} {Q : State → Prop} {A : Nat → Prop} {H0 : Heap} {g : GG} (hC : Cx p s m args c RX8 cX8_outBy 7 wsX8_outBy g) (hA : ∀ q : Nat, H0.size ≤ q → A q) (N : Nat) (q1 : Nat → Nat) (S1 : St) : ∀ (n : Nat) (x3 : Int32) (x4 : Int32) (x5 : Int32) (o : Nat × Int32), fx_it (lf_X8_outBy_48 N S1) n (x3, x4, x5) = some o → ∀ (H : Heap) (locs : List Loc) (ls : Array Slot), va_P g.1 vwCl (wX8 g q1 S1) H → va_D A (wX8 g q1 S1) → va_S A H0 H locs → lv_has ls 7 [(0, .ref (q1 100)), (3, .int x3), (4, .int x4), (5, .int x5)] → (∀ (z0 : Int32), o = (0, z0) → ∀ (H : Heap) (locs : List Loc) (ls : Array Slot), va_P g.1 vwCl (wX8 g q1 S1) H → va_D A (wX8 g q1 S1) → va_S A H0 H locs → lv_has ls 7 [] → W p l e RM_X8_outBy s m args below meth c H locs 0 0 Q (F0 m 112 ls [])) → (∀ (z0 : Int32), o = (1, z0) → ∀ (H : Heap) (locs : List Loc) (ls : Array Slot), va_P g.1 vwCl (wX8 g q1 S1) H → va_D A (wX8 g q1 S1) → va_S A H0 H locs → lv_has ls 7 [(3, .int z0)] → W p l e RM_X8_outBy s m args below meth c H locs 0 0 Q (F0 m 128 ls [])) → W p l e RM_X8_outBy s m args below meth c H locs 0 0 Q (F0 m 48 ls []) := by
  have hx := hC.1.1
  have hb := hC.1.2.1
  have hml := hC.1.2.2.1
  have hown := hC.1.2.2.2.1
  have hts := hC.1.2.2.2.2
  intro n
  induction n with
  | zero => intro x3 x4 x5 o h; cases h
  | succ n ih =>
    intro x3 x4 x5 o h H locs ls hP hD hS hl k0 k1
    have h : bd_X8_outBy_48 N S1 x3 x4 x5 (fx_it (lf_X8_outBy_48 N S1) n) = some o := h
    unfold bd_X8_outBy_48 at h
    refine lv_iload hx hb dX8_outBy_48 (lv_at hl 3 rfl) ?_
    refine k_if_lt (tgt := 128) hC dX8_outBy_50 (by decide) h (fun h => ?_) (fun h => ?_)
    · exact k1 x3 (Option.some.inj h).symm _ _ _ hP hD hS (lv_sub hl [1] rfl)
    · refine lv_bipush (v := (6 : Int32)) hx hb dX8_outBy_53 (by decide) ?_
      refine lv_iload hx hb dX8_outBy_55 (lv_at hl 2 rfl) ?_
      refine lv_bipush (v := (10 : Int32)) hx hb dX8_outBy_57 (by decide) ?_
      refine lv_irem hx hb dX8_outBy_59 (by decide) ?_
      refine lv_iconst (v := (1 : Int32)) hx hb dX8_outBy_60 (by decide) ?_
      refine lv_isub hx hb dX8_outBy_61 ?_
      refine lv_imul hx hb dX8_outBy_62 ?_
      refine lv_iload hx hb dX8_outBy_63 (lv_at hl 3 rfl) ?_
      refine lv_iadd hx hb dX8_outBy_65 ?_
      refine k_topi h (fun x101 h => ?_)
      refine lv_istore (lv' := [(6, .int x101), (0, .ref (q1 100)), (3, .int x3), (4, .int x4), (5, .int x5)]) hx hb dX8_outBy_66 hl (by decide) rfl (fun ls hl => ?_)
      refine lv_aload_n hx hb dX8_outBy_68 rfl (lv_at hl 1 rfl) ?_
      refine k_get (ci := 8) (k := 32) (q0 := 0) (v := .ref (q1 32)) (C := RX8) (T := TX8) (N := 46) hC uX8_outBy_X8 hP rfl rfl (by decide) (List.mem_of_getElem? (i := 2) rfl) rfl dX8_outBy_69 ?_
      refine lv_iload hx hb dX8_outBy_72 (lv_at hl 0 rfl) ?_
      refine k_ald (q0 := 17) (n := 36) (F := S1.2 32) hC hP rfl dX8_outBy_74 h (fun v102 h => ?_)
      refine lv_iload_n hx hb dX8_outBy_75 rfl (lv_at hl 2 rfl) ?_
      obtain ⟨v103, hv104, h⟩ := fx_b1_s h
      have K109 : ∀ (H : Heap) (locs : List Loc) (ls : Array Slot), va_P g.1 vwCl (wX8 g q1 S1) H → va_D A (wX8 g q1 S1) → va_S A H0 H locs → lv_has ls 7 [(6, .int x101), (0, .ref (q1 100)), (4, .int x4), (5, .int x5)] → W p l e RM_X8_outBy s m args below meth c H locs 0 0 Q (F0 m 90 ls [.int v103]) := by
        intro H locs ls hP hD hS hl
        refine lv_istore_n (lv' := [(3, .int v103), (6, .int x101), (0, .ref (q1 100)), (4, .int x4), (5, .int x5)]) hx hb dX8_outBy_90 rfl hl (by decide) rfl (fun ls hl => ?_)
        refine lv_aload_n hx hb dX8_outBy_91 rfl (lv_at hl 2 rfl) ?_
        refine k_get (ci := 8) (k := 32) (q0 := 0) (v := .ref (q1 32)) (C := RX8) (T := TX8) (N := 46) hC uX8_outBy_X8 hP rfl rfl (by decide) (List.mem_of_getElem? (i := 2) rfl) rfl dX8_outBy_92 ?_
        refine lv_iload hx hb dX8_outBy_95 (lv_at hl 1 rfl) ?_
        refine k_ald (q0 := 17) (n := 36) (F := S1.2 32) hC hP rfl dX8_outBy_97 h (fun v105 h => ?_)
        refine k_if_lt (tgt := 112) hC dX8_outBy_98 (by decide) h (fun h => ?_) (fun h => ?_)
        · exact k0 (0 : Int32) (Option.some.inj h).symm _ _ _ hP hD hS (lv_sub hl [] rfl)
        · refine lv_iload_n hx hb dX8_outBy_101 rfl (lv_at hl 0 rfl) ?_
          refine lv_aload_n hx hb dX8_outBy_102 rfl (lv_at hl 2 rfl) ?_
          refine k_get (ci := 8) (k := 33) (q0 := 0) (v := .ref (q1 33)) (C := RX8) (T := TX8) (N := 46) hC uX8_outBy_X8 hP rfl rfl (by decide) (List.mem_of_getElem? (i := 3) rfl) rfl dX8_outBy_103 ?_
          refine lv_iload hx hb dX8_outBy_106 (lv_at hl 1 rfl) ?_
          refine k_ald (q0 := 18) (n := 36) (F := S1.2 33) hC hP rfl dX8_outBy_108 h (fun v106 h => ?_)
          refine k_icmp_le (tgt := 115) hC dX8_outBy_109 (by decide) h (fun h => ?_) (fun h => ?_)
          · refine lv_iload hx hb dX8_outBy_115 (lv_at hl 3 rfl) ?_
            refine lv_bipush (v := (10 : Int32)) hx hb dX8_outBy_117 (by decide) ?_
            refine lv_idiv hx hb dX8_outBy_119 (by decide) ?_
            refine k_topi h (fun x107 h => ?_)
            refine lv_istore (lv' := [(4, .int x107), (3, .int v103), (6, .int x101), (0, .ref (q1 100)), (5, .int x5)]) hx hb dX8_outBy_120 hl (by decide) rfl (fun ls hl => ?_)
            refine k_iinc (v := (-1 : Int32)) (lv' := fun X => [(5, .int X), (4, .int x107), (3, .int v103), (6, .int x101), (0, .ref (q1 100))]) hC dX8_outBy_122 hl (k := 4) rfl (by decide) (by decide) (fun _ => rfl) h (fun x108 h ls hl => ?_)
            refine lv_goto (tgt := 48) hx hb dX8_outBy_125 (by decide) ?_
            exact ih v103 x107 x108 o h _ _ _ hP hD hS (lv_sub hl [4, 2, 1, 0] rfl) k0 k1
          · exact k0 (0 : Int32) (Option.some.inj h).symm _ _ _ hP hD hS (lv_sub hl [] rfl)
      refine k_icmp_le (tgt := 89) hC dX8_outBy_76 (by decide) hv104 (fun hv104 => ?_) (fun hv104 => ?_)
      · refine lv_iload_n hx hb dX8_outBy_89 rfl (lv_at hl 2 rfl) ?_
        obtain rfl := fx_i1 hv104
        exact K109 _ _ _ hP hD hS (lv_sub hl [0, 1, 3, 4] rfl)
      · refine lv_aload_n hx hb dX8_outBy_79 rfl (lv_at hl 1 rfl) ?_
        refine k_get (ci := 8) (k := 32) (q0 := 0) (v := .ref (q1 32)) (C := RX8) (T := TX8) (N := 46) hC uX8_outBy_X8 hP rfl rfl (by decide) (List.mem_of_getElem? (i := 2) rfl) rfl dX8_outBy_80 ?_
        refine lv_iload hx hb dX8_outBy_83 (lv_at hl 0 rfl) ?_
        refine k_ald (q0 := 17) (n := 36) (F := S1.2 32) hC hP rfl dX8_outBy_85 hv104 (fun v110 hv104 => ?_)
        refine lv_goto (tgt := 90) hx hb dX8_outBy_86 (by decide) ?_
        obtain rfl := fx_i1 hv104
        exact K109 _ _ _ hP hD hS (lv_sub hl [0, 1, 3, 4] rfl)
def f_X8_outBy (N : Nat) (S1 : St) (x1 : Int32) : Option (Int32) :=
  fx_b1 (fx_it (lf_X8_outBy_4 N x1 S1) N ((0 : Int32), x1)) (fun x101 =>
  (if x101 ≤ (S1.1 1) then (
    fx_b1 ((if x1 = 0 then (
      some (0 : Int32)) else (
      some (1 : Int32))) : Option (Int32)) (fun v103 =>
      fx_lt (x101 - (1 : Int32)) (fun x105 =>
        fx_b2 (fx_it (lf_X8_outBy_48 N S1) N (v103, x1, x105)) (fun t106 x107 =>
        fx_t2 t106 (some (-6 : Int32)) (some x107))))) else (
    some (-6 : Int32))))
set_option maxRecDepth 100000 in
set_option maxHeartbeats 4000000 in
theorem c_X8_outBy (l : Launch) (g : GG) (N : Nat) (q1 : Nat → Nat) (S1 : St) (x1 : Int32) (r : Int32) (h : f_X8_outBy N S1 x1 = some r) : Ci l yX8_outBy wsX8_outBy RM_X8_outBy g [.ref (q1 100), .int x1] (wX8 g q1 S1) (wX8 g q1 S1) r := by
  intro sz
  refine Met.ofC (cc := cX8_outBy) (maxL := 7) (ret := (some .int)) (by decide) rfl (Nat.le_of_ble_eq_true rfl) ?_
  intro p e s m below meth c hC hr hlk hsz A hA9 hA hP hD hS ls hl
  subst hsz
  have hC : Cx p s m ([.ref (q1 100), .int x1] : List Value).toArray c RX8 cX8_outBy 7 wsX8_outBy g := hC
  have hx := hC.1.1
  have hb := hC.1.2.1
  have hml := hC.1.2.2.1
  have hown := hC.1.2.2.2.1
  have hts := hC.1.2.2.2.2
  have hl : lv_has ls 7 [(0, .ref (q1 100)), (1, .int x1)] := hl
  show W p l e RM_X8_outBy s m ([.ref (q1 100), .int x1] : List Value).toArray below meth c s.heap [] 0 0 (Qi below g [.ref (q1 100), .int x1] (wX8 g q1 S1) (wX8 g q1 S1) r s) (F0 m 0 ls [])
  unfold f_X8_outBy at h
  refine lv_iconst (v := (0 : Int32)) hx hb dX8_outBy_0 (by decide) ?_
  refine lv_istore_n (lv' := [(2, .int (0 : Int32)), (0, .ref (q1 100)), (1, .int x1)]) hx hb dX8_outBy_1 rfl hl (by decide) rfl (fun ls hl => ?_)
  refine lv_iload_n hx hb dX8_outBy_2 rfl (lv_at hl 2 rfl) ?_
  refine lv_istore_n (lv' := [(3, .int x1), (2, .int (0 : Int32)), (0, .ref (q1 100)), (1, .int x1)]) hx hb dX8_outBy_3 rfl hl (by decide) rfl (fun ls hl => ?_)
  obtain ⟨x101, ho102, h⟩ := fx_b1_s h
  refine lw_X8_outBy_4 hC hA N q1 x1 S1 N (0 : Int32) x1  x101 ho102 _ _ _ hP hD hS (lv_sub hl [2, 3, 1, 0] rfl) ?_
  · intro y0 he H locs ls hP hD hS hl
    obtain rfl := he
    refine lv_iload_n hx hb dX8_outBy_19 rfl (lv_at hl 2 rfl) ?_
    refine lv_aload_n hx hb dX8_outBy_20 rfl (lv_at hl 0 rfl) ?_
    refine k_get (ci := 8) (k := 1) (q0 := 0) (v := .int (S1.1 1)) (C := RX8) (T := TX8) (N := 46) hC uX8_outBy_X8 hP rfl rfl (by decide) (List.mem_of_getElem? (i := 1) rfl) rfl dX8_outBy_21 ?_
    refine k_icmp_le (tgt := 30) hC dX8_outBy_24 (by decide) h (fun h => ?_) (fun h => ?_)
    · refine lv_iload_n hx hb dX8_outBy_30 rfl (lv_at hl 1 rfl) ?_
      obtain ⟨v103, hv104, h⟩ := fx_b1_s h
      have K109 : ∀ (H : Heap) (locs : List Loc) (ls : Array Slot), va_P g.1 vwCl (wX8 g q1 S1) H → va_D A (wX8 g q1 S1) → va_S A s.heap H locs → lv_has ls 7 [(0, .ref (q1 100)), (1, .int x1), (2, .int x101)] → W p l e RM_X8_outBy s m ([.ref (q1 100), .int x1] : List Value).toArray below meth c H locs 0 0 (Qi below g [.ref (q1 100), .int x1] (wX8 g q1 S1) (wX8 g q1 S1) r s) (F0 m 39 ls [.int v103]) := by
        intro H locs ls hP hD hS hl
        refine lv_istore_n (lv' := [(3, .int v103), (0, .ref (q1 100)), (1, .int x1), (2, .int x101)]) hx hb dX8_outBy_39 rfl hl (by decide) rfl (fun ls hl => ?_)
        refine lv_iload_n hx hb dX8_outBy_40 rfl (lv_at hl 2 rfl) ?_
        refine lv_istore (lv' := [(4, .int x1), (3, .int v103), (0, .ref (q1 100)), (1, .int x1), (2, .int x101)]) hx hb dX8_outBy_41 hl (by decide) rfl (fun ls hl => ?_)
        refine lv_iload_n hx hb dX8_outBy_43 rfl (lv_at hl 4 rfl) ?_
        refine lv_iconst (v := (1 : Int32)) hx hb dX8_outBy_44 (by decide) ?_
        refine lv_isub hx hb dX8_outBy_45 ?_
        refine k_topi h (fun x105 h => ?_)
        refine lv_istore (lv' := [(5, .int x105), (4, .int x1), (3, .int v103), (0, .ref (q1 100)), (1, .int x1), (2, .int x101)]) hx hb dX8_outBy_46 hl (by decide) rfl (fun ls hl => ?_)
        obtain ⟨t106, x107, ho108, h⟩ := fx_b2_s h
        refine lw_X8_outBy_48 hC hA N q1 S1 N v103 x1 x105  (t106, x107) ho108 _ _ _ hP hD hS (lv_sub hl [3, 2, 1, 0] rfl) ?_ ?_
        · intro y0 he H locs ls hP hD hS hl
          obtain ⟨rfl, rfl⟩ := fx_j2 he
          have h := fx_tg2_0 h
          refine lv_bipush (v := (-6 : Int32)) hx hb dX8_outBy_112 (by decide) ?_
          obtain rfl := fx_i1 h
          exact Ci.ret hC hr hlk hA9 hP hD hS dX8_outBy_114
        · intro y0 he H locs ls hP hD hS hl
          obtain ⟨rfl, rfl⟩ := fx_j2 he
          have h := fx_tg2_1 h
          refine lv_iload_n hx hb dX8_outBy_128 rfl (lv_at hl 0 rfl) ?_
          obtain rfl := fx_i1 h
          exact Ci.ret hC hr hlk hA9 hP hD hS dX8_outBy_129
      refine k_if_ne (tgt := 38) hC dX8_outBy_31 (by decide) hv104 (fun hv104 => ?_) (fun hv104 => ?_)
      · refine lv_iconst (v := (1 : Int32)) hx hb dX8_outBy_38 (by decide) ?_
        obtain rfl := fx_i1 hv104
        exact K109 _ _ _ hP hD hS (lv_sub hl [0, 1, 2] rfl)
      · refine lv_iconst (v := (0 : Int32)) hx hb dX8_outBy_34 (by decide) ?_
        refine lv_goto (tgt := 39) hx hb dX8_outBy_35 (by decide) ?_
        obtain rfl := fx_i1 hv104
        exact K109 _ _ _ hP hD hS (lv_sub hl [0, 1, 2] rfl)
    · refine lv_bipush (v := (-6 : Int32)) hx hb dX8_outBy_27 (by decide) ?_
      obtain rfl := fx_i1 h
      exact Ci.ret hC hr hlk hA9 hP hD hS dX8_outBy_29
theorem uX8_firstRow_X8 : ∀ w ∈ u_ws RX8 TX8 46, w ∈ wsX8_firstRow := fun w h => List.mem_cons_of_mem _ (List.mem_append_right _ h)
abbrev RM_X8_firstRow : Room := { frames := 0, cells := 0, slots := 0, locals := 0 }
def bd_X8_firstRow_7 (N : Nat) (x1 : Int32) (x2 : Int32) (S1 : St) (rec : (Int32 × St) → Option (St)) : Option (St) :=
  (if (S1.1 31) ≤ x2 then (
    some S1) else (
    (if ((x1 >>> (x2 &&& 31)) &&& (1 : Int32)) = (1 : Int32) then (
      fx_ald 6 (S1.2 30) x2 (fun v102 =>
        fx_ast 6 S1 34 (S1.1 35) v102 (fun S103 =>
        fx_lt (stI S103 35 ((S103.1 35) + (1 : Int32))) (fun S104 =>
        fx_lt (x2 + (1 : Int32)) (fun x105 =>
        rec (x105, S104)))))) else (
      fx_lt (x2 + (1 : Int32)) (fun x101 =>
        rec (x101, S1))))))
def lf_X8_firstRow_7 (N : Nat) (x1 : Int32) : (Int32 × St) → ((Int32 × St) → Option (St)) → Option (St) := fun x rec => bd_X8_firstRow_7 N x1 x.1 x.2 rec
set_option maxRecDepth 100000 in
set_option maxHeartbeats 4000000 in
theorem lw_X8_firstRow_7 {p : Program} {l : Launch} {e : Env} {s : State} {m : MethodId} {args : Array Value} {below : List Frame} {meth : Method} {c : Code} {Q : State → Prop} {A : Nat → Prop} {H0 : Heap} {g : GG} (hC : Cx p s m args c RX8 cX8_firstRow 3 wsX8_firstRow g) (hA : ∀ q : Nat, H0.size ≤ q → A q) (N : Nat) (q1 : Nat → Nat) (x1 : Int32) : ∀ (n : Nat) (x2 : Int32) (S1 : St) (o : St), fx_it (lf_X8_firstRow_7 N x1) n (x2, S1) = some o → ∀ (H : Heap) (locs : List Loc) (ls : Array Slot), va_P g.1 vwCl (wX8 g q1 S1) H → va_D A (wX8 g q1 S1) → va_S A H0 H locs → lv_has ls 3 [(0, .ref (q1 100)), (1, .int x1), (2, .int x2)] → (∀ (Z0 : St), o = Z0 → ∀ (H : Heap) (locs : List Loc) (ls : Array Slot), va_P g.1 vwCl (wX8 g q1 Z0) H → va_D A (wX8 g q1 Z0) → va_S A H0 H locs → lv_has ls 3 [] → W p l e RM_X8_firstRow s m args below meth c H locs 0 0 Q (F0 m 55 ls [])) → W p l e RM_X8_firstRow s m args below meth c H locs 0 0 Q (F0 m 7 ls []) := by
  have hx := hC.1.1
  have hb := hC.1.2.1
  have hml := hC.1.2.2.1
  have hown := hC.1.2.2.2.1
  have hts := hC.1.2.2.2.2
  intro n
  induction n with
  | zero => intro x2 S1 o h; cases h
  | succ n ih =>
    intro x2 S1 o h H locs ls hP hD hS hl k0
    have h : bd_X8_firstRow_7 N x1 x2 S1 (fx_it (lf_X8_firstRow_7 N x1) n) = some o := h
    unfold bd_X8_firstRow_7 at h
    refine lv_iload_n hx hb dX8_firstRow_7 rfl (lv_at hl 2 rfl) ?_
    refine lv_aload_n hx hb dX8_firstRow_8 rfl (lv_at hl 0 rfl) ?_
    refine k_get (ci := 8) (k := 31) (q0 := 0) (v := .int (S1.1 31)) (C := RX8) (T := TX8) (N := 46) hC uX8_firstRow_X8 hP rfl rfl (by decide) (List.mem_of_getElem? (i := 2) rfl) rfl dX8_firstRow_9 ?_
    refine k_icmp_ge (tgt := 55) hC dX8_firstRow_12 (by decide) h (fun h => ?_) (fun h => ?_)
    · exact k0 S1 (Option.some.inj h).symm _ _ _ hP hD hS (lv_sub hl [] rfl)
    · refine lv_iload_n hx hb dX8_firstRow_15 rfl (lv_at hl 1 rfl) ?_
      refine lv_iload_n hx hb dX8_firstRow_16 rfl (lv_at hl 2 rfl) ?_
      refine lv_ishr hx hb dX8_firstRow_17 ?_
      refine lv_iconst (v := (1 : Int32)) hx hb dX8_firstRow_18 (by decide) ?_
      refine lv_iand hx hb dX8_firstRow_19 ?_
      refine lv_iconst (v := (1 : Int32)) hx hb dX8_firstRow_20 (by decide) ?_
      refine k_icmp_ne (tgt := 49) hC dX8_firstRow_21 (by decide) h (fun h => ?_) (fun h => ?_)
      · refine k_iinc (v := (1 : Int32)) (lv' := fun X => [(2, .int X), (0, .ref (q1 100)), (1, .int x1)]) hC dX8_firstRow_49 hl (k := 2) rfl (by decide) (by decide) (fun _ => rfl) h (fun x101 h ls hl => ?_)
        refine lv_goto (tgt := 7) hx hb dX8_firstRow_52 (by decide) ?_
        exact ih x101 S1 o h _ _ _ hP hD hS (lv_sub hl [1, 2, 0] rfl) k0
      · refine lv_aload_n hx hb dX8_firstRow_24 rfl (lv_at hl 0 rfl) ?_
        refine k_get (ci := 8) (k := 34) (q0 := 0) (v := .ref (q1 34)) (C := RX8) (T := TX8) (N := 46) hC uX8_firstRow_X8 hP rfl rfl (by decide) (List.mem_of_getElem? (i := 3) rfl) rfl dX8_firstRow_25 ?_
        refine lv_aload_n hx hb dX8_firstRow_28 rfl (lv_at hl 0 rfl) ?_
        refine k_get (ci := 8) (k := 35) (q0 := 0) (v := .int (S1.1 35)) (C := RX8) (T := TX8) (N := 46) hC uX8_firstRow_X8 hP rfl rfl (by decide) (List.mem_of_getElem? (i := 1) rfl) rfl dX8_firstRow_29 ?_
        refine lv_aload_n hx hb dX8_firstRow_32 rfl (lv_at hl 0 rfl) ?_
        refine k_get (ci := 8) (k := 30) (q0 := 0) (v := .ref (q1 30)) (C := RX8) (T := TX8) (N := 46) hC uX8_firstRow_X8 hP rfl rfl (by decide) (List.mem_of_getElem? (i := 4) rfl) rfl dX8_firstRow_33 ?_
        refine lv_iload_n hx hb dX8_firstRow_36 rfl (lv_at hl 2 rfl) ?_
        refine k_ald (q0 := 16) (n := 6) (F := S1.2 30) hC hP rfl dX8_firstRow_37 h (fun v102 h => ?_)
        refine k_ast (q0 := 19) (n := 6) (k := 34) (S := S1) (fun S => (wX8 g q1 S)) hC hP hD hS rfl (fun _ => rfl) dX8_firstRow_38 h (fun S103 h H locs hP hD hS => ?_)
        refine lv_aload_n hx hb dX8_firstRow_39 rfl (lv_at hl 0 rfl) ?_
        refine lv_dup hx hb dX8_firstRow_40 rfl ?_
        refine k_get (ci := 8) (k := 35) (q0 := 0) (v := .int (S103.1 35)) (C := RX8) (T := TX8) (N := 46) hC uX8_firstRow_X8 hP rfl rfl (by decide) (List.mem_of_getElem? (i := 1) rfl) rfl dX8_firstRow_41 ?_
        refine lv_iconst (v := (1 : Int32)) hx hb dX8_firstRow_44 (by decide) ?_
        refine lv_iadd hx hb dX8_firstRow_45 ?_
        refine k_put (ci := 8) (k := 35) (q0 := 0) (C := RX8) (T := TX8) (N := 46) (S2 := stI S103 35 ((S103.1 35) + (1 : Int32))) tyX8 (fun S => (wX8 g q1 S)) hC uX8_firstRow_X8 tyX8_ok nmX8 hP hD hS rfl rfl (by decide) (List.mem_of_getElem? (i := 1) rfl) rfl (tyX8_ok 35 (by decide)) (Nat.le_of_ble_eq_true rfl) dX8_firstRow_46 rfl h (fun S104 h H locs hP hD hS => ?_)
        refine k_iinc (v := (1 : Int32)) (lv' := fun X => [(2, .int X), (0, .ref (q1 100)), (1, .int x1)]) hC dX8_firstRow_49 hl (k := 2) rfl (by decide) (by decide) (fun _ => rfl) h (fun x105 h ls hl => ?_)
        refine lv_goto (tgt := 7) hx hb dX8_firstRow_52 (by decide) ?_
        exact ih x105 S104 o h _ _ _ hP hD hS (lv_sub hl [1, 2, 0] rfl) k0
def f_X8_firstRow (N : Nat) (S1 : St) (x1 : Int32) : Option (St) :=
  fx_lt (stI S1 35 (0 : Int32)) (fun S101 =>
  fx_b1 (fx_it (lf_X8_firstRow_7 N x1) N ((0 : Int32), S101)) (fun S102 =>
  some S102))
set_option maxRecDepth 100000 in
set_option maxHeartbeats 4000000 in
theorem c_X8_firstRow (l : Launch) (g : GG) (N : Nat) (q1 : Nat → Nat) (S1 : St) (x1 : Int32) (F1 : St) (h : f_X8_firstRow N S1 x1 = some F1) : Cv l yX8_firstRow wsX8_firstRow RM_X8_firstRow g [.ref (q1 100), .int x1] (wX8 g q1 S1) (wX8 g q1 F1) := by
  intro sz
  refine Met.ofC (cc := cX8_firstRow) (maxL := 3) (ret := none) (by decide) rfl (Nat.le_of_ble_eq_true rfl) ?_
  intro p e s m below meth c hC hr hlk hsz A hA9 hA hP hD hS ls hl
  subst hsz
  have hC : Cx p s m ([.ref (q1 100), .int x1] : List Value).toArray c RX8 cX8_firstRow 3 wsX8_firstRow g := hC
  have hx := hC.1.1
  have hb := hC.1.2.1
  have hml := hC.1.2.2.1
  have hown := hC.1.2.2.2.1
  have hts := hC.1.2.2.2.2
  have hl : lv_has ls 3 [(0, .ref (q1 100)), (1, .int x1)] := hl
  show W p l e RM_X8_firstRow s m ([.ref (q1 100), .int x1] : List Value).toArray below meth c s.heap [] 0 0 (Qv below g [.ref (q1 100), .int x1] (wX8 g q1 S1) (wX8 g q1 F1) s) (F0 m 0 ls [])
  unfold f_X8_firstRow at h
  refine lv_aload_n hx hb dX8_firstRow_0 rfl (lv_at hl 0 rfl) ?_
  refine lv_iconst (v := (0 : Int32)) hx hb dX8_firstRow_1 (by decide) ?_
  refine k_put (ci := 8) (k := 35) (q0 := 0) (C := RX8) (T := TX8) (N := 46) (S2 := stI S1 35 (0 : Int32)) tyX8 (fun S => (wX8 g q1 S)) hC uX8_firstRow_X8 tyX8_ok nmX8 hP hD hS rfl rfl (by decide) (List.mem_of_getElem? (i := 1) rfl) rfl (tyX8_ok 35 (by decide)) (Nat.le_of_ble_eq_true rfl) dX8_firstRow_2 rfl h (fun S101 h H locs hP hD hS => ?_)
  refine lv_iconst (v := (0 : Int32)) hx hb dX8_firstRow_5 (by decide) ?_
  refine lv_istore_n (lv' := [(2, .int (0 : Int32)), (0, .ref (q1 100)), (1, .int x1)]) hx hb dX8_firstRow_6 rfl hl (by decide) rfl (fun ls hl => ?_)
  obtain ⟨S102, ho103, h⟩ := fx_b1_s h
  refine lw_X8_firstRow_7 hC hA N q1 x1 N (0 : Int32) S101  S102 ho103 _ _ _ hP hD hS (lv_sub hl [1, 2, 0] rfl) ?_
  · intro y0 he H locs ls hP hD hS hl
    obtain rfl := he
    obtain rfl := fx_i1 h
    exact Cv.ret hC hr hlk hA9 hP hD hS dX8_firstRow_55
theorem uX8_rowNumber_X8 : ∀ w ∈ u_ws RX8 TX8 46, w ∈ wsX8_rowNumber := fun w h => List.mem_cons_of_mem _ (List.mem_append_right _ h)
abbrev RM_X8_rowNumber : Room := { frames := 0, cells := 0, slots := 0, locals := 0 }
def bd_X8_rowNumber_4 (N : Nat) (S1 : St) (x1 : Int32) (x2 : Int32) (rec : (Int32 × Int32) → Option (Int32)) : Option (Int32) :=
  (if (S1.1 35) ≤ x2 then (
    some x1) else (
    fx_ald 6 (S1.2 34) x2 (fun v101 =>
      fx_lt ((((10 : Int32) * x1) + v101) + (1 : Int32)) (fun x102 =>
      fx_lt (x2 + (1 : Int32)) (fun x103 =>
      rec (x102, x103))))))
def lf_X8_rowNumber_4 (N : Nat) (S1 : St) : (Int32 × Int32) → ((Int32 × Int32) → Option (Int32)) → Option (Int32) := fun x rec => bd_X8_rowNumber_4 N S1 x.1 x.2 rec
set_option maxRecDepth 100000 in
set_option maxHeartbeats 4000000 in
theorem lw_X8_rowNumber_4 {p : Program} {l : Launch} {e : Env} {s : State} {m : MethodId} {args : Array Value} {below : List Frame} {meth : Method} {c : Code} {Q : State → Prop} {A : Nat → Prop} {H0 : Heap} {g : GG} (hC : Cx p s m args c RX8 cX8_rowNumber 3 wsX8_rowNumber g) (hA : ∀ q : Nat, H0.size ≤ q → A q) (N : Nat) (q1 : Nat → Nat) (S1 : St) : ∀ (n : Nat) (x1 : Int32) (x2 : Int32) (o : Int32), fx_it (lf_X8_rowNumber_4 N S1) n (x1, x2) = some o → ∀ (H : Heap) (locs : List Loc) (ls : Array Slot), va_P g.1 vwCl (wX8 g q1 S1) H → va_D A (wX8 g q1 S1) → va_S A H0 H locs → lv_has ls 3 [(0, .ref (q1 100)), (1, .int x1), (2, .int x2)] → (∀ (z0 : Int32), o = z0 → ∀ (H : Heap) (locs : List Loc) (ls : Array Slot), va_P g.1 vwCl (wX8 g q1 S1) H → va_D A (wX8 g q1 S1) → va_S A H0 H locs → lv_has ls 3 [(1, .int z0)] → W p l e RM_X8_rowNumber s m args below meth c H locs 0 0 Q (F0 m 32 ls [])) → W p l e RM_X8_rowNumber s m args below meth c H locs 0 0 Q (F0 m 4 ls []) := by
  have hx := hC.1.1
  have hb := hC.1.2.1
  have hml := hC.1.2.2.1
  have hown := hC.1.2.2.2.1
  have hts := hC.1.2.2.2.2
  intro n
  induction n with
  | zero => intro x1 x2 o h; cases h
  | succ n ih =>
    intro x1 x2 o h H locs ls hP hD hS hl k0
    have h : bd_X8_rowNumber_4 N S1 x1 x2 (fx_it (lf_X8_rowNumber_4 N S1) n) = some o := h
    unfold bd_X8_rowNumber_4 at h
    refine lv_iload_n hx hb dX8_rowNumber_4 rfl (lv_at hl 2 rfl) ?_
    refine lv_aload_n hx hb dX8_rowNumber_5 rfl (lv_at hl 0 rfl) ?_
    refine k_get (ci := 8) (k := 35) (q0 := 0) (v := .int (S1.1 35)) (C := RX8) (T := TX8) (N := 46) hC uX8_rowNumber_X8 hP rfl rfl (by decide) (List.mem_of_getElem? (i := 1) rfl) rfl dX8_rowNumber_6 ?_
    refine k_icmp_ge (tgt := 32) hC dX8_rowNumber_9 (by decide) h (fun h => ?_) (fun h => ?_)
    · exact k0 x1 (Option.some.inj h).symm _ _ _ hP hD hS (lv_sub hl [1] rfl)
    · refine lv_bipush (v := (10 : Int32)) hx hb dX8_rowNumber_12 (by decide) ?_
      refine lv_iload_n hx hb dX8_rowNumber_14 rfl (lv_at hl 1 rfl) ?_
      refine lv_imul hx hb dX8_rowNumber_15 ?_
      refine lv_aload_n hx hb dX8_rowNumber_16 rfl (lv_at hl 0 rfl) ?_
      refine k_get (ci := 8) (k := 34) (q0 := 0) (v := .ref (q1 34)) (C := RX8) (T := TX8) (N := 46) hC uX8_rowNumber_X8 hP rfl rfl (by decide) (List.mem_of_getElem? (i := 2) rfl) rfl dX8_rowNumber_17 ?_
      refine lv_iload_n hx hb dX8_rowNumber_20 rfl (lv_at hl 2 rfl) ?_
      refine k_ald (q0 := 19) (n := 6) (F := S1.2 34) hC hP rfl dX8_rowNumber_21 h (fun v101 h => ?_)
      refine lv_iadd hx hb dX8_rowNumber_22 ?_
      refine lv_iconst (v := (1 : Int32)) hx hb dX8_rowNumber_23 (by decide) ?_
      refine lv_iadd hx hb dX8_rowNumber_24 ?_
      refine k_topi h (fun x102 h => ?_)
      refine lv_istore_n (lv' := [(1, .int x102), (0, .ref (q1 100)), (2, .int x2)]) hx hb dX8_rowNumber_25 rfl hl (by decide) rfl (fun ls hl => ?_)
      refine k_iinc (v := (1 : Int32)) (lv' := fun X => [(2, .int X), (1, .int x102), (0, .ref (q1 100))]) hC dX8_rowNumber_26 hl (k := 2) rfl (by decide) (by decide) (fun _ => rfl) h (fun x103 h ls hl => ?_)
      refine lv_goto (tgt := 4) hx hb dX8_rowNumber_29 (by decide) ?_
      exact ih x102 x103 o h _ _ _ hP hD hS (lv_sub hl [2, 1, 0] rfl) k0
def f_X8_rowNumber (N : Nat) (S1 : St) : Option (Int32) :=
  fx_b1 (fx_it (lf_X8_rowNumber_4 N S1) N ((0 : Int32), (0 : Int32))) (fun x101 =>
  some x101)
set_option maxRecDepth 100000 in
set_option maxHeartbeats 4000000 in
theorem c_X8_rowNumber (l : Launch) (g : GG) (N : Nat) (q1 : Nat → Nat) (S1 : St) (r : Int32) (h : f_X8_rowNumber N S1 = some r) : Ci l yX8_rowNumber wsX8_rowNumber RM_X8_rowNumber g [.ref (q1 100)] (wX8 g q1 S1) (wX8 g q1 S1) r := by
  intro sz
  refine Met.ofC (cc := cX8_rowNumber) (maxL := 3) (ret := (some .int)) (by decide) rfl (Nat.le_of_ble_eq_true rfl) ?_
  intro p e s m below meth c hC hr hlk hsz A hA9 hA hP hD hS ls hl
  subst hsz
  have hC : Cx p s m ([.ref (q1 100)] : List Value).toArray c RX8 cX8_rowNumber 3 wsX8_rowNumber g := hC
  have hx := hC.1.1
  have hb := hC.1.2.1
  have hml := hC.1.2.2.1
  have hown := hC.1.2.2.2.1
  have hts := hC.1.2.2.2.2
  have hl : lv_has ls 3 [(0, .ref (q1 100))] := hl
  show W p l e RM_X8_rowNumber s m ([.ref (q1 100)] : List Value).toArray below meth c s.heap [] 0 0 (Qi below g [.ref (q1 100)] (wX8 g q1 S1) (wX8 g q1 S1) r s) (F0 m 0 ls [])
  unfold f_X8_rowNumber at h
  refine lv_iconst (v := (0 : Int32)) hx hb dX8_rowNumber_0 (by decide) ?_
  refine lv_istore_n (lv' := [(1, .int (0 : Int32)), (0, .ref (q1 100))]) hx hb dX8_rowNumber_1 rfl hl (by decide) rfl (fun ls hl => ?_)
  refine lv_iconst (v := (0 : Int32)) hx hb dX8_rowNumber_2 (by decide) ?_
  refine lv_istore_n (lv' := [(2, .int (0 : Int32)), (1, .int (0 : Int32)), (0, .ref (q1 100))]) hx hb dX8_rowNumber_3 rfl hl (by decide) rfl (fun ls hl => ?_)
  obtain ⟨x101, ho102, h⟩ := fx_b1_s h
  refine lw_X8_rowNumber_4 hC hA N q1 S1 N (0 : Int32) (0 : Int32)  x101 ho102 _ _ _ hP hD hS (lv_sub hl [2, 1, 0] rfl) ?_
  · intro y0 he H locs ls hP hD hS hl
    obtain rfl := he
    refine lv_iload_n hx hb dX8_rowNumber_32 rfl (lv_at hl 0 rfl) ?_
    obtain rfl := fx_i1 h
    exact Ci.ret hC hr hlk hA9 hP hD hS dX8_rowNumber_33
theorem uX8_change_X8 : ∀ w ∈ u_ws RX8 TX8 46, w ∈ wsX8_change := fun w h => List.mem_cons_of_mem _ (List.mem_append_right _ h)
abbrev RM_X8_change : Room := { frames := 0, cells := 0, slots := 0, locals := 0 }
def f_X8_change (N : Nat) (S1 : St) (x1 : Int32) (x2 : Int32) : Option (St) :=
  fx_ald 6 (S1.2 34) x1 (fun v101 =>
  fx_ald 6 (S1.2 34) x2 (fun v102 =>
  fx_ast 6 S1 34 x1 v102 (fun S103 =>
  fx_ast 6 S103 34 x2 v101 (fun S104 =>
  some S104))))
set_option maxRecDepth 100000 in
set_option maxHeartbeats 4000000 in
theorem c_X8_change (l : Launch) (g : GG) (N : Nat) (q1 : Nat → Nat) (S1 : St) (x1 : Int32) (x2 : Int32) (F1 : St) (h : f_X8_change N S1 x1 x2 = some F1) : Cv l yX8_change wsX8_change RM_X8_change g [.ref (q1 100), .int x1, .int x2] (wX8 g q1 S1) (wX8 g q1 F1) := by
  intro sz
  refine Met.ofC (cc := cX8_change) (maxL := 4) (ret := none) (by decide) rfl (Nat.le_of_ble_eq_true rfl) ?_
  intro p e s m below meth c hC hr hlk hsz A hA9 hA hP hD hS ls hl
  subst hsz
  have hC : Cx p s m ([.ref (q1 100), .int x1, .int x2] : List Value).toArray c RX8 cX8_change 4 wsX8_change g := hC
  have hx := hC.1.1
  have hb := hC.1.2.1
  have hml := hC.1.2.2.1
  have hown := hC.1.2.2.2.1
  have hts := hC.1.2.2.2.2
  have hl : lv_has ls 4 [(0, .ref (q1 100)), (1, .int x1), (2, .int x2)] := hl
  show W p l e RM_X8_change s m ([.ref (q1 100), .int x1, .int x2] : List Value).toArray below meth c s.heap [] 0 0 (Qv below g [.ref (q1 100), .int x1, .int x2] (wX8 g q1 S1) (wX8 g q1 F1) s) (F0 m 0 ls [])
  unfold f_X8_change at h
  refine lv_aload_n hx hb dX8_change_0 rfl (lv_at hl 0 rfl) ?_
  refine k_get (ci := 8) (k := 34) (q0 := 0) (v := .ref (q1 34)) (C := RX8) (T := TX8) (N := 46) hC uX8_change_X8 hP rfl rfl (by decide) (List.mem_of_getElem? (i := 1) rfl) rfl dX8_change_1 ?_
  refine lv_iload_n hx hb dX8_change_4 rfl (lv_at hl 1 rfl) ?_
  refine k_ald (q0 := 19) (n := 6) (F := S1.2 34) hC hP rfl dX8_change_5 h (fun v101 h => ?_)
  refine lv_istore_n (lv' := [(3, .int v101), (0, .ref (q1 100)), (1, .int x1), (2, .int x2)]) hx hb dX8_change_6 rfl hl (by decide) rfl (fun ls hl => ?_)
  refine lv_aload_n hx hb dX8_change_7 rfl (lv_at hl 1 rfl) ?_
  refine k_get (ci := 8) (k := 34) (q0 := 0) (v := .ref (q1 34)) (C := RX8) (T := TX8) (N := 46) hC uX8_change_X8 hP rfl rfl (by decide) (List.mem_of_getElem? (i := 1) rfl) rfl dX8_change_8 ?_
  refine lv_iload_n hx hb dX8_change_11 rfl (lv_at hl 2 rfl) ?_
  refine lv_aload_n hx hb dX8_change_12 rfl (lv_at hl 1 rfl) ?_
  refine k_get (ci := 8) (k := 34) (q0 := 0) (v := .ref (q1 34)) (C := RX8) (T := TX8) (N := 46) hC uX8_change_X8 hP rfl rfl (by decide) (List.mem_of_getElem? (i := 1) rfl) rfl dX8_change_13 ?_
  refine lv_iload_n hx hb dX8_change_16 rfl (lv_at hl 3 rfl) ?_
  refine k_ald (q0 := 19) (n := 6) (F := S1.2 34) hC hP rfl dX8_change_17 h (fun v102 h => ?_)
  refine k_ast (q0 := 19) (n := 6) (k := 34) (S := S1) (fun S => (wX8 g q1 S)) hC hP hD hS rfl (fun _ => rfl) dX8_change_18 h (fun S103 h H locs hP hD hS => ?_)
  refine lv_aload_n hx hb dX8_change_19 rfl (lv_at hl 1 rfl) ?_
  refine k_get (ci := 8) (k := 34) (q0 := 0) (v := .ref (q1 34)) (C := RX8) (T := TX8) (N := 46) hC uX8_change_X8 hP rfl rfl (by decide) (List.mem_of_getElem? (i := 1) rfl) rfl dX8_change_20 ?_
  refine lv_iload_n hx hb dX8_change_23 rfl (lv_at hl 3 rfl) ?_
  refine lv_iload_n hx hb dX8_change_24 rfl (lv_at hl 0 rfl) ?_
  refine k_ast (q0 := 19) (n := 6) (k := 34) (S := S103) (fun S => (wX8 g q1 S)) hC hP hD hS rfl (fun _ => rfl) dX8_change_25 h (fun S104 h H locs hP hD hS => ?_)
  obtain rfl := fx_i1 h
  exact Cv.ret hC hr hlk hA9 hP hD hS dX8_change_26
theorem uX8_nextRow_X8 : ∀ w ∈ u_ws RX8 TX8 46, w ∈ wsX8_nextRow := fun w h => List.mem_cons_of_mem _ (List.mem_append_right _ h)
abbrev RM_X8_nextRow : Room := { frames := 1, cells := 0, slots := 0, locals := 23 }
def bd_X8_nextRow_7 (N : Nat) (S1 : St) (x1 : Int32) (rec : (Int32) → Option (Int32)) : Option (Int32) :=
  (if x1 < 0 then (
    some x1) else (
    fx_ald 6 (S1.2 34) x1 (fun v101 =>
      fx_ald 6 (S1.2 34) (x1 + (1 : Int32)) (fun v102 =>
      (if v101 < v102 then (
      some x1) else (
      fx_lt (x1 + (-1 : Int32)) (fun x103 =>
        rec x103)))))))
def lf_X8_nextRow_7 (N : Nat) (S1 : St) : (Int32) → ((Int32) → Option (Int32)) → Option (Int32) := fun x rec => bd_X8_nextRow_7 N S1 x rec
set_option maxRecDepth 100000 in
set_option maxHeartbeats 4000000 in
theorem lw_X8_nextRow_7 {p : Program} {l : Launch} {e : Env} {s : State} {m : MethodId} {args : Array Value} {below : List Frame} {meth : Method} {c : Code} {Q : State → Prop} {A : Nat → Prop} {H0 : Heap} {g : GG} (hC : Cx p s m args c RX8 cX8_nextRow 5 wsX8_nextRow g) (hA : ∀ q : Nat, H0.size ≤ q → A q) (N : Nat) (q1 : Nat → Nat) (S1 : St) : ∀ (n : Nat) (x1 : Int32) (o : Int32), fx_it (lf_X8_nextRow_7 N S1) n x1 = some o → ∀ (H : Heap) (locs : List Loc) (ls : Array Slot), va_P g.1 vwCl (wX8 g q1 S1) H → va_D A (wX8 g q1 S1) → va_S A H0 H locs → lv_has ls 5 [(0, .ref (q1 100)), (1, .int x1)] → (∀ (z0 : Int32), o = z0 → ∀ (H : Heap) (locs : List Loc) (ls : Array Slot), va_P g.1 vwCl (wX8 g q1 S1) H → va_D A (wX8 g q1 S1) → va_S A H0 H locs → lv_has ls 5 [(0, .ref (q1 100)), (1, .int z0)] → W p l e RM_X8_nextRow s m args below meth c H locs 0 0 Q (F0 m 34 ls [])) → W p l e RM_X8_nextRow s m args below meth c H locs 0 0 Q (F0 m 7 ls []) := by
  have hx := hC.1.1
  have hb := hC.1.2.1
  have hml := hC.1.2.2.1
  have hown := hC.1.2.2.2.1
  have hts := hC.1.2.2.2.2
  intro n
  induction n with
  | zero => intro x1 o h; cases h
  | succ n ih =>
    intro x1 o h H locs ls hP hD hS hl k0
    have h : bd_X8_nextRow_7 N S1 x1 (fx_it (lf_X8_nextRow_7 N S1) n) = some o := h
    unfold bd_X8_nextRow_7 at h
    refine lv_iload_n hx hb dX8_nextRow_7 rfl (lv_at hl 1 rfl) ?_
    refine k_if_lt (tgt := 34) hC dX8_nextRow_8 (by decide) h (fun h => ?_) (fun h => ?_)
    · exact k0 x1 (Option.some.inj h).symm _ _ _ hP hD hS (lv_sub hl [0, 1] rfl)
    · refine lv_aload_n hx hb dX8_nextRow_11 rfl (lv_at hl 0 rfl) ?_
      refine k_get (ci := 8) (k := 34) (q0 := 0) (v := .ref (q1 34)) (C := RX8) (T := TX8) (N := 46) hC uX8_nextRow_X8 hP rfl rfl (by decide) (List.mem_of_getElem? (i := 2) rfl) rfl dX8_nextRow_12 ?_
      refine lv_iload_n hx hb dX8_nextRow_15 rfl (lv_at hl 1 rfl) ?_
      refine k_ald (q0 := 19) (n := 6) (F := S1.2 34) hC hP rfl dX8_nextRow_16 h (fun v101 h => ?_)
      refine lv_aload_n hx hb dX8_nextRow_17 rfl (lv_at hl 0 rfl) ?_
      refine k_get (ci := 8) (k := 34) (q0 := 0) (v := .ref (q1 34)) (C := RX8) (T := TX8) (N := 46) hC uX8_nextRow_X8 hP rfl rfl (by decide) (List.mem_of_getElem? (i := 2) rfl) rfl dX8_nextRow_18 ?_
      refine lv_iload_n hx hb dX8_nextRow_21 rfl (lv_at hl 1 rfl) ?_
      refine lv_iconst (v := (1 : Int32)) hx hb dX8_nextRow_22 (by decide) ?_
      refine lv_iadd hx hb dX8_nextRow_23 ?_
      refine k_ald (q0 := 19) (n := 6) (F := S1.2 34) hC hP rfl dX8_nextRow_24 h (fun v102 h => ?_)
      refine k_icmp_lt (tgt := 34) hC dX8_nextRow_25 (by decide) h (fun h => ?_) (fun h => ?_)
      · exact k0 x1 (Option.some.inj h).symm _ _ _ hP hD hS (lv_sub hl [0, 1] rfl)
      · refine k_iinc (v := (-1 : Int32)) (lv' := fun X => [(1, .int X), (0, .ref (q1 100))]) hC dX8_nextRow_28 hl (k := 1) rfl (by decide) (by decide) (fun _ => rfl) h (fun x103 h ls hl => ?_)
        refine lv_goto (tgt := 7) hx hb dX8_nextRow_31 (by decide) ?_
        exact ih x103 o h _ _ _ hP hD hS (lv_sub hl [1, 0] rfl) k0
def bd_X8_nextRow_47 (N : Nat) (x1 : Int32) (S1 : St) (x2 : Int32) (rec : (Int32) → Option (Int32)) : Option (Int32) :=
  fx_ald 6 (S1.2 34) x2 (fun v101 =>
    fx_ald 6 (S1.2 34) x1 (fun v102 =>
    (if v102 < v101 then (
    some x2) else (
    fx_lt (x2 + (-1 : Int32)) (fun x103 =>
      rec x103)))))
def lf_X8_nextRow_47 (N : Nat) (x1 : Int32) (S1 : St) : (Int32) → ((Int32) → Option (Int32)) → Option (Int32) := fun x rec => bd_X8_nextRow_47 N x1 S1 x rec
set_option maxRecDepth 100000 in
set_option maxHeartbeats 4000000 in
theorem lw_X8_nextRow_47 {p : Program} {l : Launch} {e : Env} {s : State} {m : MethodId} {args : Array Value} {below : List Frame} {meth : Method} {c : Code} {Q : State → Prop} {A : Nat → Prop} {H0 : Heap} {g : GG} (hC : Cx p s m args c RX8 cX8_nextRow 5 wsX8_nextRow g) (hA : ∀ q : Nat, H0.size ≤ q → A q) (N : Nat) (q1 : Nat → Nat) (x1 : Int32) (S1 : St) : ∀ (n : Nat) (x2 : Int32) (o : Int32), fx_it (lf_X8_nextRow_47 N x1 S1) n x2 = some o → ∀ (H : Heap) (locs : List Loc) (ls : Array Slot), va_P g.1 vwCl (wX8 g q1 S1) H → va_D A (wX8 g q1 S1) → va_S A H0 H locs → lv_has ls 5 [(0, .ref (q1 100)), (1, .int x1), (2, .int x2)] → (∀ (z0 : Int32), o = z0 → ∀ (H : Heap) (locs : List Loc) (ls : Array Slot), va_P g.1 vwCl (wX8 g q1 S1) H → va_D A (wX8 g q1 S1) → va_S A H0 H locs → lv_has ls 5 [(0, .ref (q1 100)), (1, .int x1), (2, .int z0)] → W p l e RM_X8_nextRow s m args below meth c H locs 0 0 Q (F0 m 68 ls [])) → W p l e RM_X8_nextRow s m args below meth c H locs 0 0 Q (F0 m 47 ls []) := by
  have hx := hC.1.1
  have hb := hC.1.2.1
  have hml := hC.1.2.2.1
  have hown := hC.1.2.2.2.1
  have hts := hC.1.2.2.2.2
  intro n
  induction n with
  | zero => intro x2 o h; cases h
  | succ n ih =>
    intro x2 o h H locs ls hP hD hS hl k0
    have h : bd_X8_nextRow_47 N x1 S1 x2 (fx_it (lf_X8_nextRow_47 N x1 S1) n) = some o := h
    unfold bd_X8_nextRow_47 at h
    refine lv_aload_n hx hb dX8_nextRow_47 rfl (lv_at hl 0 rfl) ?_
    refine k_get (ci := 8) (k := 34) (q0 := 0) (v := .ref (q1 34)) (C := RX8) (T := TX8) (N := 46) hC uX8_nextRow_X8 hP rfl rfl (by decide) (List.mem_of_getElem? (i := 2) rfl) rfl dX8_nextRow_48 ?_
    refine lv_iload_n hx hb dX8_nextRow_51 rfl (lv_at hl 2 rfl) ?_
    refine k_ald (q0 := 19) (n := 6) (F := S1.2 34) hC hP rfl dX8_nextRow_52 h (fun v101 h => ?_)
    refine lv_aload_n hx hb dX8_nextRow_53 rfl (lv_at hl 0 rfl) ?_
    refine k_get (ci := 8) (k := 34) (q0 := 0) (v := .ref (q1 34)) (C := RX8) (T := TX8) (N := 46) hC uX8_nextRow_X8 hP rfl rfl (by decide) (List.mem_of_getElem? (i := 2) rfl) rfl dX8_nextRow_54 ?_
    refine lv_iload_n hx hb dX8_nextRow_57 rfl (lv_at hl 1 rfl) ?_
    refine k_ald (q0 := 19) (n := 6) (F := S1.2 34) hC hP rfl dX8_nextRow_58 h (fun v102 h => ?_)
    refine k_icmp_gt (tgt := 68) hC dX8_nextRow_59 (by decide) h (fun h => ?_) (fun h => ?_)
    · exact k0 x2 (Option.some.inj h).symm _ _ _ hP hD hS (lv_sub hl [0, 1, 2] rfl)
    · refine k_iinc (v := (-1 : Int32)) (lv' := fun X => [(2, .int X), (0, .ref (q1 100)), (1, .int x1)]) hC dX8_nextRow_62 hl (k := 2) rfl (by decide) (by decide) (fun _ => rfl) h (fun x103 h ls hl => ?_)
      refine lv_goto (tgt := 47) hx hb dX8_nextRow_65 (by decide) ?_
      exact ih x103 o h _ _ _ hP hD hS (lv_sub hl [1, 2, 0] rfl) k0
def bd_X8_nextRow_86 (N : Nat) (x3 : Int32) (x4 : Int32) (S1 : St) (rec : (Int32 × Int32 × St) → Option (St)) : Option (St) :=
  (if x4 ≤ x3 then (
    some S1) else (
    fx_b1 (f_X8_change N S1 x3 x4) (fun S101 =>
      fx_lt (x3 + (1 : Int32)) (fun x102 =>
      fx_lt (x4 + (-1 : Int32)) (fun x103 =>
      rec (x102, x103, S101))))))
def lf_X8_nextRow_86 (N : Nat) : (Int32 × Int32 × St) → ((Int32 × Int32 × St) → Option (St)) → Option (St) := fun x rec => bd_X8_nextRow_86 N x.1 x.2.1 x.2.2 rec
set_option maxRecDepth 100000 in
set_option maxHeartbeats 4000000 in
theorem lw_X8_nextRow_86 {p : Program} {l : Launch} {e : Env} {s : State} {m : MethodId} {args : Array Value} {below : List Frame} {meth : Method} {c : Code} {Q : State → Prop} {A : Nat → Prop} {H0 : Heap} {g : GG} (hC : Cx p s m args c RX8 cX8_nextRow 5 wsX8_nextRow g) (hA : ∀ q : Nat, H0.size ≤ q → A q) (N : Nat) (q1 : Nat → Nat) : ∀ (n : Nat) (x3 : Int32) (x4 : Int32) (S1 : St) (o : St), fx_it (lf_X8_nextRow_86 N) n (x3, x4, S1) = some o → ∀ (H : Heap) (locs : List Loc) (ls : Array Slot), va_P g.1 vwCl (wX8 g q1 S1) H → va_D A (wX8 g q1 S1) → va_S A H0 H locs → lv_has ls 5 [(0, .ref (q1 100)), (3, .int x3), (4, .int x4)] → (∀ (Z0 : St), o = Z0 → ∀ (H : Heap) (locs : List Loc) (ls : Array Slot), va_P g.1 vwCl (wX8 g q1 Z0) H → va_D A (wX8 g q1 Z0) → va_S A H0 H locs → lv_has ls 5 [] → W p l e RM_X8_nextRow s m args below meth c H locs 0 0 Q (F0 m 108 ls [])) → W p l e RM_X8_nextRow s m args below meth c H locs 0 0 Q (F0 m 86 ls []) := by
  have hx := hC.1.1
  have hb := hC.1.2.1
  have hml := hC.1.2.2.1
  have hown := hC.1.2.2.2.1
  have hts := hC.1.2.2.2.2
  intro n
  induction n with
  | zero => intro x3 x4 S1 o h; cases h
  | succ n ih =>
    intro x3 x4 S1 o h H locs ls hP hD hS hl k0
    have h : bd_X8_nextRow_86 N x3 x4 S1 (fx_it (lf_X8_nextRow_86 N) n) = some o := h
    unfold bd_X8_nextRow_86 at h
    refine lv_iload_n hx hb dX8_nextRow_86 rfl (lv_at hl 1 rfl) ?_
    refine lv_iload hx hb dX8_nextRow_87 (lv_at hl 2 rfl) ?_
    refine k_icmp_ge (tgt := 108) hC dX8_nextRow_89 (by decide) h (fun h => ?_) (fun h => ?_)
    · exact k0 S1 (Option.some.inj h).symm _ _ _ hP hD hS (lv_sub hl [] rfl)
    · refine lv_aload_n hx hb dX8_nextRow_92 rfl (lv_at hl 0 rfl) ?_
      refine lv_iload_n hx hb dX8_nextRow_93 rfl (lv_at hl 1 rfl) ?_
      refine lv_iload hx hb dX8_nextRow_94 (lv_at hl 2 rfl) ?_
      obtain ⟨S101, hc104, h⟩ := fx_b1_s h
      refine k_callVv (C := RX8) (ci := 8) (qr := 0) (n := 2) (As := [.int x3, .int x4]) (rest := []) (wc := (wX8 g q1 S1)) (w1 := (wX8 g q1 S101)) (ws2 := (wX8 g q1 S101)) (bytes := cX8_change) (maxL := 4) (ret := none) hC hl.1 (c_X8_change l g N q1 S1 x3 x4 S101 hc104) rfl gX8_nextRow_X8_change (by decide +kernel) rfl rfl ⟨Nat.le_of_ble_eq_true rfl, Nat.le_of_ble_eq_true rfl⟩ rfl rfl rfl (Nat.le_of_ble_eq_true rfl) ⟨Nat.le_of_ble_eq_true rfl, Nat.le_of_ble_eq_true rfl⟩ dX8_nextRow_96 hP hD hS hA [0, 1, 2, 3, 4, 5, 6, 7, 8, 9, 10, 11, 12, 13, 14, 15, 16, 17, 18, 19, 20, 21, 22, 23] rfl (by decide +kernel) [q1 100, q1 6, q1 8, q1 9, q1 10, q1 11, q1 12, q1 13, q1 14, q1 15, q1 16, q1 18, q1 20, q1 21, q1 23, q1 27, q1 30, q1 32, q1 33, q1 34, q1 39, q1 41, q1 42, q1 43] rfl rfl rfl [] ([] : va_W) rfl rfl (n2 := 24) rfl (by decide +kernel) (fun H locs hP hD hS => ?_)
      refine k_iinc (v := (1 : Int32)) (lv' := fun X => [(3, .int X), (0, .ref (q1 100)), (4, .int x4)]) hC dX8_nextRow_99 hl (k := 1) rfl (by decide) (by decide) (fun _ => rfl) h (fun x102 h ls hl => ?_)
      refine k_iinc (v := (-1 : Int32)) (lv' := fun X => [(4, .int X), (3, .int x102), (0, .ref (q1 100))]) hC dX8_nextRow_102 hl (k := 2) rfl (by decide) (by decide) (fun _ => rfl) h (fun x103 h ls hl => ?_)
      refine lv_goto (tgt := 86) hx hb dX8_nextRow_105 (by decide) ?_
      exact ih x102 x103 S101 o h _ _ _ hP hD hS (lv_sub hl [2, 1, 0] rfl) k0
def f_X8_nextRow (N : Nat) (S1 : St) : Option (Int32 × St) :=
  fx_lt ((S1.1 35) - (2 : Int32)) (fun x101 =>
  fx_b1 (fx_it (lf_X8_nextRow_7 N S1) N x101) (fun x102 =>
  (if 0 ≤ x102 then (
    fx_lt ((S1.1 35) - (1 : Int32)) (fun x104 =>
      fx_b1 (fx_it (lf_X8_nextRow_47 N x102 S1) N x104) (fun x105 =>
      fx_b1 (f_X8_change N S1 x102 x105) (fun S107 =>
        fx_lt (x102 + (1 : Int32)) (fun x108 =>
        fx_lt ((S107.1 35) - (1 : Int32)) (fun x109 =>
        fx_b1 (fx_it (lf_X8_nextRow_86 N) N (x108, x109, S107)) (fun S110 =>
        some ((1 : Int32), S110)))))))) else (
    some ((0 : Int32), S1)))))
set_option maxRecDepth 100000 in
set_option maxHeartbeats 4000000 in
theorem c_X8_nextRow (l : Launch) (g : GG) (N : Nat) (q1 : Nat → Nat) (S1 : St) (r : Int32) (F1 : St) (h : f_X8_nextRow N S1 = some (r, F1)) : Ci l yX8_nextRow wsX8_nextRow RM_X8_nextRow g [.ref (q1 100)] (wX8 g q1 S1) (wX8 g q1 F1) r := by
  intro sz
  refine Met.ofC (cc := cX8_nextRow) (maxL := 5) (ret := (some .boolean)) (by decide) rfl (Nat.le_of_ble_eq_true rfl) ?_
  intro p e s m below meth c hC hr hlk hsz A hA9 hA hP hD hS ls hl
  subst hsz
  have hC : Cx p s m ([.ref (q1 100)] : List Value).toArray c RX8 cX8_nextRow 5 wsX8_nextRow g := hC
  have hx := hC.1.1
  have hb := hC.1.2.1
  have hml := hC.1.2.2.1
  have hown := hC.1.2.2.2.1
  have hts := hC.1.2.2.2.2
  have hl : lv_has ls 5 [(0, .ref (q1 100))] := hl
  show W p l e RM_X8_nextRow s m ([.ref (q1 100)] : List Value).toArray below meth c s.heap [] 0 0 (Qi below g [.ref (q1 100)] (wX8 g q1 S1) (wX8 g q1 F1) r s) (F0 m 0 ls [])
  unfold f_X8_nextRow at h
  refine lv_aload_n hx hb dX8_nextRow_0 rfl (lv_at hl 0 rfl) ?_
  refine k_get (ci := 8) (k := 35) (q0 := 0) (v := .int (S1.1 35)) (C := RX8) (T := TX8) (N := 46) hC uX8_nextRow_X8 hP rfl rfl (by decide) (List.mem_of_getElem? (i := 1) rfl) rfl dX8_nextRow_1 ?_
  refine lv_iconst (v := (2 : Int32)) hx hb dX8_nextRow_4 (by decide) ?_
  refine lv_isub hx hb dX8_nextRow_5 ?_
  refine k_topi h (fun x101 h => ?_)
  refine lv_istore_n (lv' := [(1, .int x101), (0, .ref (q1 100))]) hx hb dX8_nextRow_6 rfl hl (by decide) rfl (fun ls hl => ?_)
  obtain ⟨x102, ho103, h⟩ := fx_b1_s h
  refine lw_X8_nextRow_7 hC hA N q1 S1 N x101  x102 ho103 _ _ _ hP hD hS (lv_sub hl [1, 0] rfl) ?_
  · intro y0 he H locs ls hP hD hS hl
    obtain rfl := he
    refine lv_iload_n hx hb dX8_nextRow_34 rfl (lv_at hl 1 rfl) ?_
    refine k_if_ge (tgt := 40) hC dX8_nextRow_35 (by decide) h (fun h => ?_) (fun h => ?_)
    · refine lv_aload_n hx hb dX8_nextRow_40 rfl (lv_at hl 0 rfl) ?_
      refine k_get (ci := 8) (k := 35) (q0 := 0) (v := .int (S1.1 35)) (C := RX8) (T := TX8) (N := 46) hC uX8_nextRow_X8 hP rfl rfl (by decide) (List.mem_of_getElem? (i := 1) rfl) rfl dX8_nextRow_41 ?_
      refine lv_iconst (v := (1 : Int32)) hx hb dX8_nextRow_44 (by decide) ?_
      refine lv_isub hx hb dX8_nextRow_45 ?_
      refine k_topi h (fun x104 h => ?_)
      refine lv_istore_n (lv' := [(2, .int x104), (0, .ref (q1 100)), (1, .int x102)]) hx hb dX8_nextRow_46 rfl hl (by decide) rfl (fun ls hl => ?_)
      obtain ⟨x105, ho106, h⟩ := fx_b1_s h
      refine lw_X8_nextRow_47 hC hA N q1 x102 S1 N x104  x105 ho106 _ _ _ hP hD hS (lv_sub hl [1, 2, 0] rfl) ?_
      · intro y0 he H locs ls hP hD hS hl
        obtain rfl := he
        refine lv_aload_n hx hb dX8_nextRow_68 rfl (lv_at hl 0 rfl) ?_
        refine lv_iload_n hx hb dX8_nextRow_69 rfl (lv_at hl 1 rfl) ?_
        refine lv_iload_n hx hb dX8_nextRow_70 rfl (lv_at hl 2 rfl) ?_
        obtain ⟨S107, hc112, h⟩ := fx_b1_s h
        refine k_callVv (C := RX8) (ci := 8) (qr := 0) (n := 2) (As := [.int x102, .int x105]) (rest := []) (wc := (wX8 g q1 S1)) (w1 := (wX8 g q1 S107)) (ws2 := (wX8 g q1 S107)) (bytes := cX8_change) (maxL := 4) (ret := none) hC hl.1 (c_X8_change l g N q1 S1 x102 x105 S107 hc112) rfl gX8_nextRow_X8_change (by decide +kernel) rfl rfl ⟨Nat.le_of_ble_eq_true rfl, Nat.le_of_ble_eq_true rfl⟩ rfl rfl rfl (Nat.le_of_ble_eq_true rfl) ⟨Nat.le_of_ble_eq_true rfl, Nat.le_of_ble_eq_true rfl⟩ dX8_nextRow_71 hP hD hS hA [0, 1, 2, 3, 4, 5, 6, 7, 8, 9, 10, 11, 12, 13, 14, 15, 16, 17, 18, 19, 20, 21, 22, 23] rfl (by decide +kernel) [q1 100, q1 6, q1 8, q1 9, q1 10, q1 11, q1 12, q1 13, q1 14, q1 15, q1 16, q1 18, q1 20, q1 21, q1 23, q1 27, q1 30, q1 32, q1 33, q1 34, q1 39, q1 41, q1 42, q1 43] rfl rfl rfl [] ([] : va_W) rfl rfl (n2 := 24) rfl (by decide +kernel) (fun H locs hP hD hS => ?_)
        refine lv_iload_n hx hb dX8_nextRow_74 rfl (lv_at hl 1 rfl) ?_
        refine lv_iconst (v := (1 : Int32)) hx hb dX8_nextRow_75 (by decide) ?_
        refine lv_iadd hx hb dX8_nextRow_76 ?_
        refine k_topi h (fun x108 h => ?_)
        refine lv_istore_n (lv' := [(3, .int x108), (0, .ref (q1 100)), (1, .int x102), (2, .int x105)]) hx hb dX8_nextRow_77 rfl hl (by decide) rfl (fun ls hl => ?_)
        refine lv_aload_n hx hb dX8_nextRow_78 rfl (lv_at hl 1 rfl) ?_
        refine k_get (ci := 8) (k := 35) (q0 := 0) (v := .int (S107.1 35)) (C := RX8) (T := TX8) (N := 46) hC uX8_nextRow_X8 hP rfl rfl (by decide) (List.mem_of_getElem? (i := 1) rfl) rfl dX8_nextRow_79 ?_
        refine lv_iconst (v := (1 : Int32)) hx hb dX8_nextRow_82 (by decide) ?_
        refine lv_isub hx hb dX8_nextRow_83 ?_
        refine k_topi h (fun x109 h => ?_)
        refine lv_istore (lv' := [(4, .int x109), (3, .int x108), (0, .ref (q1 100)), (1, .int x102), (2, .int x105)]) hx hb dX8_nextRow_84 hl (by decide) rfl (fun ls hl => ?_)
        obtain ⟨S110, ho111, h⟩ := fx_b1_s h
        refine lw_X8_nextRow_86 hC hA N q1 N x108 x109 S107  S110 ho111 _ _ _ hP hD hS (lv_sub hl [2, 1, 0] rfl) ?_
        · intro y0 he H locs ls hP hD hS hl
          obtain rfl := he
          refine lv_iconst (v := (1 : Int32)) hx hb dX8_nextRow_108 (by decide) ?_
          obtain ⟨rfl, rfl⟩ := fx_i2 h
          exact Ci.retz hC hr hlk rfl hA9 hP hD hS dX8_nextRow_109
    · refine lv_iconst (v := (0 : Int32)) hx hb dX8_nextRow_38 (by decide) ?_
      obtain ⟨rfl, rfl⟩ := fx_i2 h
      exact Ci.retz hC hr hlk rfl hA9 hP hD hS dX8_nextRow_39
theorem uX8_goOrders_X8 : ∀ w ∈ u_ws RX8 TX8 46, w ∈ wsX8_goOrders := fun w h => List.mem_cons_of_mem _ (List.mem_append_right _ h)
abbrev RM_X8_goOrders : Room := { frames := 2, cells := 0, slots := 0, locals := 47 }
def bd_X8_goOrders_24 (N : Nat) (x2 : Int32) (S1 : St) (rec : (Int32 × St) → Option (St)) : Option (St) :=
  (if x2 = 0 then (
    some S1) else (
    fx_b1 (f_X8_rowNumber N S1) (fun v101 =>
      fx_b1 (f_X8_outBy N S1 v101) (fun v102 =>
      fx_b1 ((if v102 < 0 then (
      some S1) else (
      fx_b1 ((if (S1.1 36) = 0 then (
        some v101) else (
        some (S1.1 37))) : Option (Int32)) (fun v109 =>
        fx_lt (stI S1 37 v109) (fun S111 =>
          fx_b1 ((if (S111.1 36) = 0 then (
          some v102) else (
          (if (S111.1 38) ≤ v102 then (
            some (S111.1 38)) else (
            some v102)))) : Option (Int32)) (fun v112 =>
          fx_lt (stI S111 38 v112) (fun S114 =>
            fx_lt (stI S114 36 ((S114.1 36) + (1 : Int32))) (fun S115 =>
            some S115))))))) : Option (St)) (fun S103 =>
      fx_b2 (f_X8_nextRow N S103) (fun v105 S106 =>
        rec (v105, S106)))))))
def lf_X8_goOrders_24 (N : Nat) : (Int32 × St) → ((Int32 × St) → Option (St)) → Option (St) := fun x rec => bd_X8_goOrders_24 N x.1 x.2 rec
set_option maxRecDepth 100000 in
set_option maxHeartbeats 4000000 in
theorem lw_X8_goOrders_24 {p : Program} {l : Launch} {e : Env} {s : State} {m : MethodId} {args : Array Value} {below : List Frame} {meth : Method} {c : Code} {Q : State → Prop} {A : Nat → Prop} {H0 : Heap} {g : GG} (hC : Cx p s m args c RX8 cX8_goOrders 5 wsX8_goOrders g) (hA : ∀ q : Nat, H0.size ≤ q → A q) (N : Nat) (q1 : Nat → Nat) : ∀ (n : Nat) (x2 : Int32) (S1 : St) (o : St), fx_it (lf_X8_goOrders_24 N) n (x2, S1) = some o → ∀ (H : Heap) (locs : List Loc) (ls : Array Slot), va_P g.1 vwCl (wX8 g q1 S1) H → va_D A (wX8 g q1 S1) → va_S A H0 H locs → lv_has ls 5 [(0, .ref (q1 100)), (2, .int x2)] → (∀ (Z0 : St), o = Z0 → ∀ (H : Heap) (locs : List Loc) (ls : Array Slot), va_P g.1 vwCl (wX8 g q1 Z0) H → va_D A (wX8 g q1 Z0) → va_S A H0 H locs → lv_has ls 5 [] → W p l e RM_X8_goOrders s m args below meth c H locs 0 0 Q (F0 m 111 ls [])) → W p l e RM_X8_goOrders s m args below meth c H locs 0 0 Q (F0 m 24 ls []) := by
  have hx := hC.1.1
  have hb := hC.1.2.1
  have hml := hC.1.2.2.1
  have hown := hC.1.2.2.2.1
  have hts := hC.1.2.2.2.2
  intro n
  induction n with
  | zero => intro x2 S1 o h; cases h
  | succ n ih =>
    intro x2 S1 o h H locs ls hP hD hS hl k0
    have h : bd_X8_goOrders_24 N x2 S1 (fx_it (lf_X8_goOrders_24 N) n) = some o := h
    unfold bd_X8_goOrders_24 at h
    refine lv_iload_n hx hb dX8_goOrders_24 rfl (lv_at hl 1 rfl) ?_
    refine k_if_eq (tgt := 111) hC dX8_goOrders_25 (by decide) h (fun h => ?_) (fun h => ?_)
    · exact k0 S1 (Option.some.inj h).symm _ _ _ hP hD hS (lv_sub hl [] rfl)
    · refine lv_aload_n hx hb dX8_goOrders_28 rfl (lv_at hl 0 rfl) ?_
      obtain ⟨v101, hc119, h⟩ := fx_b1_s h
      refine k_callVi0 (C := RX8) (ci := 8) (qr := 0) (n := 0) (As := []) (rest := []) (wc := (wX8 g q1 S1)) (bytes := cX8_rowNumber) (maxL := 3) (ret := (some .int)) hC hl.1 (c_X8_rowNumber l g N q1 S1 v101 hc119) rfl gX8_goOrders_X8_rowNumber (by decide +kernel) rfl rfl ⟨Nat.le_of_ble_eq_true rfl, Nat.le_of_ble_eq_true rfl⟩ rfl rfl rfl (Nat.le_of_ble_eq_true rfl) ⟨Nat.le_of_ble_eq_true rfl, Nat.le_of_ble_eq_true rfl⟩ dX8_goOrders_29 hP hD hS hA [0, 1, 2, 3, 4, 5, 6, 7, 8, 9, 10, 11, 12, 13, 14, 15, 16, 17, 18, 19, 20, 21, 22, 23] rfl (by decide +kernel) (fun H locs hP hD hS => ?_)
      refine lv_istore_n (lv' := [(3, .int v101), (0, .ref (q1 100)), (2, .int x2)]) hx hb dX8_goOrders_32 rfl hl (by decide) rfl (fun ls hl => ?_)
      refine lv_aload_n hx hb dX8_goOrders_33 rfl (lv_at hl 1 rfl) ?_
      refine lv_iload_n hx hb dX8_goOrders_34 rfl (lv_at hl 0 rfl) ?_
      obtain ⟨v102, hc118, h⟩ := fx_b1_s h
      refine k_callVi0 (C := RX8) (ci := 8) (qr := 0) (n := 1) (As := [.int v101]) (rest := []) (wc := (wX8 g q1 S1)) (bytes := cX8_outBy) (maxL := 7) (ret := (some .int)) hC hl.1 (c_X8_outBy l g N q1 S1 v101 v102 hc118) rfl gX8_goOrders_X8_outBy (by decide +kernel) rfl rfl ⟨Nat.le_of_ble_eq_true rfl, Nat.le_of_ble_eq_true rfl⟩ rfl rfl rfl (Nat.le_of_ble_eq_true rfl) ⟨Nat.le_of_ble_eq_true rfl, Nat.le_of_ble_eq_true rfl⟩ dX8_goOrders_35 hP hD hS hA [0, 1, 2, 3, 4, 5, 6, 7, 8, 9, 10, 11, 12, 13, 14, 15, 16, 17, 18, 19, 20, 21, 22, 23] rfl (by decide +kernel) (fun H locs hP hD hS => ?_)
      refine lv_istore (lv' := [(4, .int v102), (3, .int v101), (0, .ref (q1 100)), (2, .int x2)]) hx hb dX8_goOrders_38 hl (by decide) rfl (fun ls hl => ?_)
      refine lv_iload hx hb dX8_goOrders_40 (lv_at hl 0 rfl) ?_
      obtain ⟨S103, hv104, h⟩ := fx_b1_s h
      have K108 : ∀ (H : Heap) (locs : List Loc) (ls : Array Slot), va_P g.1 vwCl (wX8 g q1 S103) H → va_D A (wX8 g q1 S103) → va_S A H0 H locs → lv_has ls 5 [(0, .ref (q1 100))] → W p l e RM_X8_goOrders s m args below meth c H locs 0 0 Q (F0 m 103 ls []) := by
        intro H locs ls hP hD hS hl
        refine lv_aload_n hx hb dX8_goOrders_103 rfl (lv_at hl 0 rfl) ?_
        obtain ⟨v105, S106, hc107, h⟩ := fx_b2_s h
        refine k_callVi (C := RX8) (ci := 8) (qr := 0) (n := 0) (As := []) (rest := []) (wc := (wX8 g q1 S103)) (w1 := (wX8 g q1 S106)) (ws2 := (wX8 g q1 S106)) (bytes := cX8_nextRow) (maxL := 5) (ret := (some .boolean)) hC hl.1 (c_X8_nextRow l g N q1 S103 v105 S106 hc107) rfl gX8_goOrders_X8_nextRow (by decide +kernel) rfl rfl ⟨Nat.le_of_ble_eq_true rfl, Nat.le_of_ble_eq_true rfl⟩ rfl rfl rfl (Nat.le_of_ble_eq_true rfl) ⟨Nat.le_of_ble_eq_true rfl, Nat.le_of_ble_eq_true rfl⟩ dX8_goOrders_104 hP hD hS hA [0, 1, 2, 3, 4, 5, 6, 7, 8, 9, 10, 11, 12, 13, 14, 15, 16, 17, 18, 19, 20, 21, 22, 23] rfl (by decide +kernel) [q1 100, q1 6, q1 8, q1 9, q1 10, q1 11, q1 12, q1 13, q1 14, q1 15, q1 16, q1 18, q1 20, q1 21, q1 23, q1 27, q1 30, q1 32, q1 33, q1 34, q1 39, q1 41, q1 42, q1 43] rfl rfl rfl [] ([] : va_W) rfl rfl (n2 := 24) rfl (by decide +kernel) (fun H locs hP hD hS => ?_)
        refine lv_istore_n (lv' := [(2, .int v105), (0, .ref (q1 100))]) hx hb dX8_goOrders_107 rfl hl (by decide) rfl (fun ls hl => ?_)
        refine lv_goto (tgt := 24) hx hb dX8_goOrders_108 (by decide) ?_
        exact ih v105 S106 o h _ _ _ hP hD hS (lv_sub hl [1, 0] rfl) k0
      refine k_if_lt (tgt := 103) hC dX8_goOrders_42 (by decide) hv104 (fun hv104 => ?_) (fun hv104 => ?_)
      · obtain rfl := fx_i1 hv104
        exact K108 _ _ _ hP hD hS (lv_sub hl [2] rfl)
      · refine lv_aload_n hx hb dX8_goOrders_45 rfl (lv_at hl 2 rfl) ?_
        refine lv_aload_n hx hb dX8_goOrders_46 rfl (lv_at hl 2 rfl) ?_
        refine k_get (ci := 8) (k := 36) (q0 := 0) (v := .int (S1.1 36)) (C := RX8) (T := TX8) (N := 46) hC uX8_goOrders_X8 hP rfl rfl (by decide) (List.mem_of_getElem? (i := 1) rfl) rfl dX8_goOrders_47 ?_
        obtain ⟨v109, hv110, hv104⟩ := fx_b1_s hv104
        have K117 : ∀ (H : Heap) (locs : List Loc) (ls : Array Slot), va_P g.1 vwCl (wX8 g q1 S1) H → va_D A (wX8 g q1 S1) → va_S A H0 H locs → lv_has ls 5 [(4, .int v102), (0, .ref (q1 100))] → W p l e RM_X8_goOrders s m args below meth c H locs 0 0 Q (F0 m 61 ls [.int v109, .ref (q1 100)]) := by
          intro H locs ls hP hD hS hl
          refine k_put (ci := 8) (k := 37) (q0 := 0) (C := RX8) (T := TX8) (N := 46) (S2 := stI S1 37 v109) tyX8 (fun S => (wX8 g q1 S)) hC uX8_goOrders_X8 tyX8_ok nmX8 hP hD hS rfl rfl (by decide) (List.mem_of_getElem? (i := 2) rfl) rfl (tyX8_ok 37 (by decide)) (Nat.le_of_ble_eq_true rfl) dX8_goOrders_61 rfl hv104 (fun S111 hv104 H locs hP hD hS => ?_)
          refine lv_aload_n hx hb dX8_goOrders_64 rfl (lv_at hl 1 rfl) ?_
          refine lv_aload_n hx hb dX8_goOrders_65 rfl (lv_at hl 1 rfl) ?_
          refine k_get (ci := 8) (k := 36) (q0 := 0) (v := .int (S111.1 36)) (C := RX8) (T := TX8) (N := 46) hC uX8_goOrders_X8 hP rfl rfl (by decide) (List.mem_of_getElem? (i := 1) rfl) rfl dX8_goOrders_66 ?_
          obtain ⟨v112, hv113, hv104⟩ := fx_b1_s hv104
          have K116 : ∀ (H : Heap) (locs : List Loc) (ls : Array Slot), va_P g.1 vwCl (wX8 g q1 S111) H → va_D A (wX8 g q1 S111) → va_S A H0 H locs → lv_has ls 5 [(0, .ref (q1 100))] → W p l e RM_X8_goOrders s m args below meth c H locs 0 0 Q (F0 m 90 ls [.int v112, .ref (q1 100)]) := by
            intro H locs ls hP hD hS hl
            refine k_put (ci := 8) (k := 38) (q0 := 0) (C := RX8) (T := TX8) (N := 46) (S2 := stI S111 38 v112) tyX8 (fun S => (wX8 g q1 S)) hC uX8_goOrders_X8 tyX8_ok nmX8 hP hD hS rfl rfl (by decide) (List.mem_of_getElem? (i := 3) rfl) rfl (tyX8_ok 38 (by decide)) (Nat.le_of_ble_eq_true rfl) dX8_goOrders_90 rfl hv104 (fun S114 hv104 H locs hP hD hS => ?_)
            refine lv_aload_n hx hb dX8_goOrders_93 rfl (lv_at hl 0 rfl) ?_
            refine lv_dup hx hb dX8_goOrders_94 rfl ?_
            refine k_get (ci := 8) (k := 36) (q0 := 0) (v := .int (S114.1 36)) (C := RX8) (T := TX8) (N := 46) hC uX8_goOrders_X8 hP rfl rfl (by decide) (List.mem_of_getElem? (i := 1) rfl) rfl dX8_goOrders_95 ?_
            refine lv_iconst (v := (1 : Int32)) hx hb dX8_goOrders_98 (by decide) ?_
            refine lv_iadd hx hb dX8_goOrders_99 ?_
            refine k_put (ci := 8) (k := 36) (q0 := 0) (C := RX8) (T := TX8) (N := 46) (S2 := stI S114 36 ((S114.1 36) + (1 : Int32))) tyX8 (fun S => (wX8 g q1 S)) hC uX8_goOrders_X8 tyX8_ok nmX8 hP hD hS rfl rfl (by decide) (List.mem_of_getElem? (i := 1) rfl) rfl (tyX8_ok 36 (by decide)) (Nat.le_of_ble_eq_true rfl) dX8_goOrders_100 rfl hv104 (fun S115 hv104 H locs hP hD hS => ?_)
            obtain rfl := fx_i1 hv104
            exact K108 _ _ _ hP hD hS (lv_sub hl [0] rfl)
          refine k_if_eq (tgt := 81) hC dX8_goOrders_69 (by decide) hv113 (fun hv113 => ?_) (fun hv113 => ?_)
          · refine lv_iload hx hb dX8_goOrders_81 (lv_at hl 0 rfl) ?_
            refine lv_goto (tgt := 90) hx hb dX8_goOrders_83 (by decide) ?_
            obtain rfl := fx_i1 hv113
            exact K116 _ _ _ hP hD hS (lv_sub hl [1] rfl)
          · refine lv_iload hx hb dX8_goOrders_72 (lv_at hl 0 rfl) ?_
            refine lv_aload_n hx hb dX8_goOrders_74 rfl (lv_at hl 1 rfl) ?_
            refine k_get (ci := 8) (k := 38) (q0 := 0) (v := .int (S111.1 38)) (C := RX8) (T := TX8) (N := 46) hC uX8_goOrders_X8 hP rfl rfl (by decide) (List.mem_of_getElem? (i := 3) rfl) rfl dX8_goOrders_75 ?_
            refine k_icmp_ge (tgt := 86) hC dX8_goOrders_78 (by decide) hv113 (fun hv113 => ?_) (fun hv113 => ?_)
            · refine lv_aload_n hx hb dX8_goOrders_86 rfl (lv_at hl 1 rfl) ?_
              refine k_get (ci := 8) (k := 38) (q0 := 0) (v := .int (S111.1 38)) (C := RX8) (T := TX8) (N := 46) hC uX8_goOrders_X8 hP rfl rfl (by decide) (List.mem_of_getElem? (i := 3) rfl) rfl dX8_goOrders_87 ?_
              obtain rfl := fx_i1 hv113
              exact K116 _ _ _ hP hD hS (lv_sub hl [1] rfl)
            · refine lv_iload hx hb dX8_goOrders_81 (lv_at hl 0 rfl) ?_
              refine lv_goto (tgt := 90) hx hb dX8_goOrders_83 (by decide) ?_
              obtain rfl := fx_i1 hv113
              exact K116 _ _ _ hP hD hS (lv_sub hl [1] rfl)
        refine k_if_ne (tgt := 57) hC dX8_goOrders_50 (by decide) hv110 (fun hv110 => ?_) (fun hv110 => ?_)
        · refine lv_aload_n hx hb dX8_goOrders_57 rfl (lv_at hl 2 rfl) ?_
          refine k_get (ci := 8) (k := 37) (q0 := 0) (v := .int (S1.1 37)) (C := RX8) (T := TX8) (N := 46) hC uX8_goOrders_X8 hP rfl rfl (by decide) (List.mem_of_getElem? (i := 2) rfl) rfl dX8_goOrders_58 ?_
          obtain rfl := fx_i1 hv110
          exact K117 _ _ _ hP hD hS (lv_sub hl [0, 2] rfl)
        · refine lv_iload_n hx hb dX8_goOrders_53 rfl (lv_at hl 1 rfl) ?_
          refine lv_goto (tgt := 61) hx hb dX8_goOrders_54 (by decide) ?_
          obtain rfl := fx_i1 hv110
          exact K117 _ _ _ hP hD hS (lv_sub hl [0, 2] rfl)
def f_X8_goOrders (N : Nat) (S1 : St) (x1 : Int32) : Option (St) :=
  fx_lt (stI S1 36 (0 : Int32)) (fun S101 =>
  fx_lt (stI S101 37 (-6 : Int32)) (fun S102 =>
  fx_lt (stI S102 38 (-6 : Int32)) (fun S103 =>
  fx_b1 (f_X8_firstRow N S103 x1) (fun S104 =>
  fx_b1 (fx_it (lf_X8_goOrders_24 N) N ((1 : Int32), S104)) (fun S105 =>
  some S105)))))
set_option maxRecDepth 100000 in
set_option maxHeartbeats 4000000 in
theorem c_X8_goOrders (l : Launch) (g : GG) (N : Nat) (q1 : Nat → Nat) (S1 : St) (x1 : Int32) (F1 : St) (h : f_X8_goOrders N S1 x1 = some F1) : Cv l yX8_goOrders wsX8_goOrders RM_X8_goOrders g [.ref (q1 100), .int x1] (wX8 g q1 S1) (wX8 g q1 F1) := by
  intro sz
  refine Met.ofC (cc := cX8_goOrders) (maxL := 5) (ret := none) (by decide) rfl (Nat.le_of_ble_eq_true rfl) ?_
  intro p e s m below meth c hC hr hlk hsz A hA9 hA hP hD hS ls hl
  subst hsz
  have hC : Cx p s m ([.ref (q1 100), .int x1] : List Value).toArray c RX8 cX8_goOrders 5 wsX8_goOrders g := hC
  have hx := hC.1.1
  have hb := hC.1.2.1
  have hml := hC.1.2.2.1
  have hown := hC.1.2.2.2.1
  have hts := hC.1.2.2.2.2
  have hl : lv_has ls 5 [(0, .ref (q1 100)), (1, .int x1)] := hl
  show W p l e RM_X8_goOrders s m ([.ref (q1 100), .int x1] : List Value).toArray below meth c s.heap [] 0 0 (Qv below g [.ref (q1 100), .int x1] (wX8 g q1 S1) (wX8 g q1 F1) s) (F0 m 0 ls [])
  unfold f_X8_goOrders at h
  refine lv_aload_n hx hb dX8_goOrders_0 rfl (lv_at hl 0 rfl) ?_
  refine lv_iconst (v := (0 : Int32)) hx hb dX8_goOrders_1 (by decide) ?_
  refine k_put (ci := 8) (k := 36) (q0 := 0) (C := RX8) (T := TX8) (N := 46) (S2 := stI S1 36 (0 : Int32)) tyX8 (fun S => (wX8 g q1 S)) hC uX8_goOrders_X8 tyX8_ok nmX8 hP hD hS rfl rfl (by decide) (List.mem_of_getElem? (i := 1) rfl) rfl (tyX8_ok 36 (by decide)) (Nat.le_of_ble_eq_true rfl) dX8_goOrders_2 rfl h (fun S101 h H locs hP hD hS => ?_)
  refine lv_aload_n hx hb dX8_goOrders_5 rfl (lv_at hl 0 rfl) ?_
  refine lv_bipush (v := (-6 : Int32)) hx hb dX8_goOrders_6 (by decide) ?_
  refine k_put (ci := 8) (k := 37) (q0 := 0) (C := RX8) (T := TX8) (N := 46) (S2 := stI S101 37 (-6 : Int32)) tyX8 (fun S => (wX8 g q1 S)) hC uX8_goOrders_X8 tyX8_ok nmX8 hP hD hS rfl rfl (by decide) (List.mem_of_getElem? (i := 2) rfl) rfl (tyX8_ok 37 (by decide)) (Nat.le_of_ble_eq_true rfl) dX8_goOrders_8 rfl h (fun S102 h H locs hP hD hS => ?_)
  refine lv_aload_n hx hb dX8_goOrders_11 rfl (lv_at hl 0 rfl) ?_
  refine lv_bipush (v := (-6 : Int32)) hx hb dX8_goOrders_12 (by decide) ?_
  refine k_put (ci := 8) (k := 38) (q0 := 0) (C := RX8) (T := TX8) (N := 46) (S2 := stI S102 38 (-6 : Int32)) tyX8 (fun S => (wX8 g q1 S)) hC uX8_goOrders_X8 tyX8_ok nmX8 hP hD hS rfl rfl (by decide) (List.mem_of_getElem? (i := 3) rfl) rfl (tyX8_ok 38 (by decide)) (Nat.le_of_ble_eq_true rfl) dX8_goOrders_14 rfl h (fun S103 h H locs hP hD hS => ?_)
  refine lv_aload_n hx hb dX8_goOrders_17 rfl (lv_at hl 0 rfl) ?_
  refine lv_iload_n hx hb dX8_goOrders_18 rfl (lv_at hl 1 rfl) ?_
  obtain ⟨S104, hc107, h⟩ := fx_b1_s h
  refine k_callVv (C := RX8) (ci := 8) (qr := 0) (n := 1) (As := [.int x1]) (rest := []) (wc := (wX8 g q1 S103)) (w1 := (wX8 g q1 S104)) (ws2 := (wX8 g q1 S104)) (bytes := cX8_firstRow) (maxL := 3) (ret := none) hC hl.1 (c_X8_firstRow l g N q1 S103 x1 S104 hc107) rfl gX8_goOrders_X8_firstRow (by decide +kernel) rfl rfl ⟨Nat.le_of_ble_eq_true rfl, Nat.le_of_ble_eq_true rfl⟩ rfl rfl rfl (Nat.le_of_ble_eq_true rfl) ⟨Nat.le_of_ble_eq_true rfl, Nat.le_of_ble_eq_true rfl⟩ dX8_goOrders_19 hP hD hS hA [0, 1, 2, 3, 4, 5, 6, 7, 8, 9, 10, 11, 12, 13, 14, 15, 16, 17, 18, 19, 20, 21, 22, 23] rfl (by decide +kernel) [q1 100, q1 6, q1 8, q1 9, q1 10, q1 11, q1 12, q1 13, q1 14, q1 15, q1 16, q1 18, q1 20, q1 21, q1 23, q1 27, q1 30, q1 32, q1 33, q1 34, q1 39, q1 41, q1 42, q1 43] rfl rfl rfl [] ([] : va_W) rfl rfl (n2 := 24) rfl (by decide +kernel) (fun H locs hP hD hS => ?_)
  refine lv_iconst (v := (1 : Int32)) hx hb dX8_goOrders_22 (by decide) ?_
  refine lv_istore_n (lv' := [(2, .int (1 : Int32)), (0, .ref (q1 100)), (1, .int x1)]) hx hb dX8_goOrders_23 rfl hl (by decide) rfl (fun ls hl => ?_)
  obtain ⟨S105, ho106, h⟩ := fx_b1_s h
  refine lw_X8_goOrders_24 hC hA N q1 N (1 : Int32) S104  S105 ho106 _ _ _ hP hD hS (lv_sub hl [1, 0] rfl) ?_
  · intro y0 he H locs ls hP hD hS hl
    obtain rfl := he
    obtain rfl := fx_i1 h
    exact Cv.ret hC hr hlk hA9 hP hD hS dX8_goOrders_111
theorem uX8_orders_X8 : ∀ w ∈ u_ws RX8 TX8 46, w ∈ wsX8_orders := fun w h => List.mem_cons_of_mem _ (List.mem_append_right _ h)
abbrev RM_X8_orders : Room := { frames := 4, cells := 0, slots := 0, locals := 91 }
def f_X8_orders (N : Nat) (S1 : St) (x1 : Int32) (x2 : Int32) : Option (Int32 × St) :=
  fx_b1 (f_X8_in N (Int32.toInt64 x2) (0 : Int64) (2 : Int64)) (fun v101 =>
  (if v101 = 0 then (
  some ((-2 : Int32), S1)) else (
  fx_b1 (f_X8_isLoaves N x1) (fun v102 =>
    (if v102 = 0 then (
    some ((-2 : Int32), S1)) else (
    fx_b2 (f_X8_layLoaves N S1 x1) (fun v103 S104 =>
      (if v103 = 0 then (
      some ((-1 : Int32), S104)) else (
      fx_b1 (f_X8_layRipe N S104 (S104.1 2)) (fun S105 =>
        fx_b1 (f_X8_goOrders N S105 (((1 : Int32) <<< ((S105.1 31) &&& 31)) - (1 : Int32))) (fun S106 =>
        (if x2 = 0 then (
        some ((S106.1 36), S106)) else (
        (if x2 = (1 : Int32) then (
          some ((S106.1 37), S106)) else (
          some ((S106.1 38), S106))))))))))))))))
set_option maxRecDepth 100000 in
set_option maxHeartbeats 4000000 in
theorem c_X8_orders (l : Launch) (g : GG) (N : Nat) (q1 : Nat → Nat) (S1 : St) (x1 : Int32) (x2 : Int32) (r : Int32) (F1 : St) (h : f_X8_orders N S1 x1 x2 = some (r, F1)) : Ci l yX8_orders wsX8_orders RM_X8_orders g [.ref (q1 100), .int x1, .int x2] (wX8 g q1 S1) (wX8 g q1 F1) r := by
  intro sz
  refine Met.ofC (cc := cX8_orders) (maxL := 3) (ret := (some .int)) (by decide) rfl (Nat.le_of_ble_eq_true rfl) ?_
  intro p e s m below meth c hC hr hlk hsz A hA9 hA hP hD hS ls hl
  subst hsz
  have hC : Cx p s m ([.ref (q1 100), .int x1, .int x2] : List Value).toArray c RX8 cX8_orders 3 wsX8_orders g := hC
  have hx := hC.1.1
  have hb := hC.1.2.1
  have hml := hC.1.2.2.1
  have hown := hC.1.2.2.2.1
  have hts := hC.1.2.2.2.2
  have hl : lv_has ls 3 [(0, .ref (q1 100)), (1, .int x1), (2, .int x2)] := hl
  show W p l e RM_X8_orders s m ([.ref (q1 100), .int x1, .int x2] : List Value).toArray below meth c s.heap [] 0 0 (Qi below g [.ref (q1 100), .int x1, .int x2] (wX8 g q1 S1) (wX8 g q1 F1) r s) (F0 m 0 ls [])
  unfold f_X8_orders at h
  refine lv_iload_n hx hb dX8_orders_0 rfl (lv_at hl 2 rfl) ?_
  refine lv_i2l hx hb dX8_orders_1 rfl ?_
  refine lv_lconst (v := (0 : Int64)) hx hb dX8_orders_2 (by decide) ?_
  refine lv_ldc2 (v := (2 : Int64)) hx hb hown (hts _ (List.mem_of_getElem? (i := 1) rfl)) dX8_orders_3 ?_
  obtain ⟨v101, hc111, h⟩ := fx_b1_s h
  refine k_callSi0 (n := 3) (As := [.long (Int32.toInt64 x2), .long (0 : Int64), .long (2 : Int64)]) (rest := []) (wc := ([] : va_W)) (bytes := cX8_in) (maxL := 6) (ret := (some .boolean)) hC hl.1 (c_X8_in l g N (Int32.toInt64 x2) (0 : Int64) (2 : Int64) v101 hc111) rfl gX8_orders_X8_in (by decide +kernel) ⟨Nat.le_of_ble_eq_true rfl, Nat.le_of_ble_eq_true rfl⟩ rfl rfl rfl (Nat.le_of_ble_eq_true rfl) ⟨Nat.le_of_ble_eq_true rfl, Nat.le_of_ble_eq_true rfl⟩ dX8_orders_6 hP hD hS hA [] rfl (by decide +kernel) (fun H locs hP hD hS => ?_)
  refine k_if_eq (tgt := 19) hC dX8_orders_9 (by decide) h (fun h => ?_) (fun h => ?_)
  · refine lv_bipush (v := (-2 : Int32)) hx hb dX8_orders_19 (by decide) ?_
    obtain ⟨rfl, rfl⟩ := fx_i2 h
    exact Ci.ret hC hr hlk hA9 hP hD hS dX8_orders_21
  · refine lv_iload_n hx hb dX8_orders_12 rfl (lv_at hl 1 rfl) ?_
    obtain ⟨v102, hc110, h⟩ := fx_b1_s h
    refine k_callSi0 (n := 1) (As := [.int x1]) (rest := []) (wc := ([] : va_W)) (bytes := cX8_isLoaves) (maxL := 1) (ret := (some .boolean)) hC hl.1 (c_X8_isLoaves l g N x1 v102 hc110) rfl gX8_orders_X8_isLoaves (by decide +kernel) ⟨Nat.le_of_ble_eq_true rfl, Nat.le_of_ble_eq_true rfl⟩ rfl rfl rfl (Nat.le_of_ble_eq_true rfl) ⟨Nat.le_of_ble_eq_true rfl, Nat.le_of_ble_eq_true rfl⟩ dX8_orders_13 hP hD hS hA [] rfl (by decide +kernel) (fun H locs hP hD hS => ?_)
    refine k_if_ne (tgt := 22) hC dX8_orders_16 (by decide) h (fun h => ?_) (fun h => ?_)
    · refine lv_aload_n hx hb dX8_orders_22 rfl (lv_at hl 0 rfl) ?_
      refine lv_iload_n hx hb dX8_orders_23 rfl (lv_at hl 1 rfl) ?_
      obtain ⟨v103, S104, hc109, h⟩ := fx_b2_s h
      refine k_callVi (C := RX8) (ci := 8) (qr := 0) (n := 1) (As := [.int x1]) (rest := []) (wc := (wX8 g q1 S1)) (w1 := (wX8 g q1 S104)) (ws2 := (wX8 g q1 S104)) (bytes := cX8_layLoaves) (maxL := 6) (ret := (some .boolean)) hC hl.1 (c_X8_layLoaves l g N q1 S1 x1 v103 S104 hc109) rfl gX8_orders_X8_layLoaves (by decide +kernel) rfl rfl ⟨Nat.le_of_ble_eq_true rfl, Nat.le_of_ble_eq_true rfl⟩ rfl rfl rfl (Nat.le_of_ble_eq_true rfl) ⟨Nat.le_of_ble_eq_true rfl, Nat.le_of_ble_eq_true rfl⟩ dX8_orders_24 hP hD hS hA [0, 1, 2, 3, 4, 5, 6, 7, 8, 9, 10, 11, 12, 13, 14, 15, 16, 17, 18, 19, 20, 21, 22, 23] rfl (by decide +kernel) [q1 100, q1 6, q1 8, q1 9, q1 10, q1 11, q1 12, q1 13, q1 14, q1 15, q1 16, q1 18, q1 20, q1 21, q1 23, q1 27, q1 30, q1 32, q1 33, q1 34, q1 39, q1 41, q1 42, q1 43] rfl rfl rfl [] ([] : va_W) rfl rfl (n2 := 24) rfl (by decide +kernel) (fun H locs hP hD hS => ?_)
      refine k_if_ne (tgt := 32) hC dX8_orders_27 (by decide) h (fun h => ?_) (fun h => ?_)
      · refine lv_aload_n hx hb dX8_orders_32 rfl (lv_at hl 0 rfl) ?_
        refine lv_aload_n hx hb dX8_orders_33 rfl (lv_at hl 0 rfl) ?_
        refine k_get (ci := 8) (k := 2) (q0 := 0) (v := .int (S104.1 2)) (C := RX8) (T := TX8) (N := 46) hC uX8_orders_X8 hP rfl rfl (by decide) (List.mem_of_getElem? (i := 2) rfl) rfl dX8_orders_34 ?_
        obtain ⟨S105, hc108, h⟩ := fx_b1_s h
        refine k_callVv (C := RX8) (ci := 8) (qr := 0) (n := 1) (As := [.int (S104.1 2)]) (rest := []) (wc := (wX8 g q1 S104)) (w1 := (wX8 g q1 S105)) (ws2 := (wX8 g q1 S105)) (bytes := cX8_layRipe) (maxL := 4) (ret := none) hC hl.1 (c_X8_layRipe l g N q1 S104 (S104.1 2) S105 hc108) rfl gX8_orders_X8_layRipe (by decide +kernel) rfl rfl ⟨Nat.le_of_ble_eq_true rfl, Nat.le_of_ble_eq_true rfl⟩ rfl rfl rfl (Nat.le_of_ble_eq_true rfl) ⟨Nat.le_of_ble_eq_true rfl, Nat.le_of_ble_eq_true rfl⟩ dX8_orders_37 hP hD hS hA [0, 1, 2, 3, 4, 5, 6, 7, 8, 9, 10, 11, 12, 13, 14, 15, 16, 17, 18, 19, 20, 21, 22, 23] rfl (by decide +kernel) [q1 100, q1 6, q1 8, q1 9, q1 10, q1 11, q1 12, q1 13, q1 14, q1 15, q1 16, q1 18, q1 20, q1 21, q1 23, q1 27, q1 30, q1 32, q1 33, q1 34, q1 39, q1 41, q1 42, q1 43] rfl rfl rfl [] ([] : va_W) rfl rfl (n2 := 24) rfl (by decide +kernel) (fun H locs hP hD hS => ?_)
        refine lv_aload_n hx hb dX8_orders_40 rfl (lv_at hl 0 rfl) ?_
        refine lv_iconst (v := (1 : Int32)) hx hb dX8_orders_41 (by decide) ?_
        refine lv_aload_n hx hb dX8_orders_42 rfl (lv_at hl 0 rfl) ?_
        refine k_get (ci := 8) (k := 31) (q0 := 0) (v := .int (S105.1 31)) (C := RX8) (T := TX8) (N := 46) hC uX8_orders_X8 hP rfl rfl (by decide) (List.mem_of_getElem? (i := 3) rfl) rfl dX8_orders_43 ?_
        refine lv_ishl hx hb dX8_orders_46 ?_
        refine lv_iconst (v := (1 : Int32)) hx hb dX8_orders_47 (by decide) ?_
        refine lv_isub hx hb dX8_orders_48 ?_
        obtain ⟨S106, hc107, h⟩ := fx_b1_s h
        refine k_callVv (C := RX8) (ci := 8) (qr := 0) (n := 1) (As := [.int (((1 : Int32) <<< ((S105.1 31) &&& 31)) - (1 : Int32))]) (rest := []) (wc := (wX8 g q1 S105)) (w1 := (wX8 g q1 S106)) (ws2 := (wX8 g q1 S106)) (bytes := cX8_goOrders) (maxL := 5) (ret := none) hC hl.1 (c_X8_goOrders l g N q1 S105 (((1 : Int32) <<< ((S105.1 31) &&& 31)) - (1 : Int32)) S106 hc107) rfl gX8_orders_X8_goOrders (by decide +kernel) rfl rfl ⟨Nat.le_of_ble_eq_true rfl, Nat.le_of_ble_eq_true rfl⟩ rfl rfl rfl (Nat.le_of_ble_eq_true rfl) ⟨Nat.le_of_ble_eq_true rfl, Nat.le_of_ble_eq_true rfl⟩ dX8_orders_49 hP hD hS hA [0, 1, 2, 3, 4, 5, 6, 7, 8, 9, 10, 11, 12, 13, 14, 15, 16, 17, 18, 19, 20, 21, 22, 23] rfl (by decide +kernel) [q1 100, q1 6, q1 8, q1 9, q1 10, q1 11, q1 12, q1 13, q1 14, q1 15, q1 16, q1 18, q1 20, q1 21, q1 23, q1 27, q1 30, q1 32, q1 33, q1 34, q1 39, q1 41, q1 42, q1 43] rfl rfl rfl [] ([] : va_W) rfl rfl (n2 := 24) rfl (by decide +kernel) (fun H locs hP hD hS => ?_)
        refine lv_iload_n hx hb dX8_orders_52 rfl (lv_at hl 2 rfl) ?_
        refine k_if_ne (tgt := 63) hC dX8_orders_53 (by decide) h (fun h => ?_) (fun h => ?_)
        · refine lv_iload_n hx hb dX8_orders_63 rfl (lv_at hl 2 rfl) ?_
          refine lv_iconst (v := (1 : Int32)) hx hb dX8_orders_64 (by decide) ?_
          refine k_icmp_ne (tgt := 75) hC dX8_orders_65 (by decide) h (fun h => ?_) (fun h => ?_)
          · refine lv_aload_n hx hb dX8_orders_75 rfl (lv_at hl 0 rfl) ?_
            refine k_get (ci := 8) (k := 38) (q0 := 0) (v := .int (S106.1 38)) (C := RX8) (T := TX8) (N := 46) hC uX8_orders_X8 hP rfl rfl (by decide) (List.mem_of_getElem? (i := 6) rfl) rfl dX8_orders_76 ?_
            obtain ⟨rfl, rfl⟩ := fx_i2 h
            exact Ci.ret hC hr hlk hA9 hP hD hS dX8_orders_79
          · refine lv_aload_n hx hb dX8_orders_68 rfl (lv_at hl 0 rfl) ?_
            refine k_get (ci := 8) (k := 37) (q0 := 0) (v := .int (S106.1 37)) (C := RX8) (T := TX8) (N := 46) hC uX8_orders_X8 hP rfl rfl (by decide) (List.mem_of_getElem? (i := 5) rfl) rfl dX8_orders_69 ?_
            refine lv_goto (tgt := 79) hx hb dX8_orders_72 (by decide) ?_
            obtain ⟨rfl, rfl⟩ := fx_i2 h
            exact Ci.ret hC hr hlk hA9 hP hD hS dX8_orders_79
        · refine lv_aload_n hx hb dX8_orders_56 rfl (lv_at hl 0 rfl) ?_
          refine k_get (ci := 8) (k := 36) (q0 := 0) (v := .int (S106.1 36)) (C := RX8) (T := TX8) (N := 46) hC uX8_orders_X8 hP rfl rfl (by decide) (List.mem_of_getElem? (i := 4) rfl) rfl dX8_orders_57 ?_
          refine lv_goto (tgt := 79) hx hb dX8_orders_60 (by decide) ?_
          obtain ⟨rfl, rfl⟩ := fx_i2 h
          exact Ci.ret hC hr hlk hA9 hP hD hS dX8_orders_79
      · refine lv_iconst (v := (-1 : Int32)) hx hb dX8_orders_30 (by decide) ?_
        obtain ⟨rfl, rfl⟩ := fx_i2 h
        exact Ci.ret hC hr hlk hA9 hP hD hS dX8_orders_31
    · refine lv_bipush (v := (-2 : Int32)) hx hb dX8_orders_19 (by decide) ?_
      obtain ⟨rfl, rfl⟩ := fx_i2 h
      exact Ci.ret hC hr hlk hA9 hP hD hS dX8_orders_21
theorem uX8_worthOf_X8 : ∀ w ∈ u_ws RX8 TX8 46, w ∈ wsX8_worthOf := fun w h => List.mem_cons_of_mem _ (List.mem_append_right _ h)
abbrev RM_X8_worthOf : Room := { frames := 0, cells := 0, slots := 0, locals := 0 }
def bd_X8_worthOf_4 (N : Nat) (x1 : Int32) (S1 : St) (x2 : Int32) (x3 : Int32) (rec : (Int32 × Int32) → Option (Int32)) : Option (Int32) :=
  (if (S1.1 31) ≤ x3 then (
    some x2) else (
    (if ((x1 >>> (x3 &&& 31)) &&& (1 : Int32)) = (1 : Int32) then (
      fx_ald 6 (S1.2 30) x3 (fun v103 =>
        fx_ald 6 (S1.2 10) v103 (fun v104 =>
        fx_lt (x2 + v104) (fun x105 =>
        fx_lt (x3 + (1 : Int32)) (fun x106 =>
        rec (x105, x106)))))) else (
      fx_lt (x2 + (0 : Int32)) (fun x101 =>
        fx_lt (x3 + (1 : Int32)) (fun x102 =>
        rec (x101, x102)))))))
def lf_X8_worthOf_4 (N : Nat) (x1 : Int32) (S1 : St) : (Int32 × Int32) → ((Int32 × Int32) → Option (Int32)) → Option (Int32) := fun x rec => bd_X8_worthOf_4 N x1 S1 x.1 x.2 rec
set_option maxRecDepth 100000 in
set_option maxHeartbeats 4000000 in
theorem lw_X8_worthOf_4 {p : Program} {l : Launch} {e : Env} {s : State} {m : MethodId} {args : Array Value} {below : List Frame} {meth : Method} {c : Code} {Q : State → Prop} {A : Nat → Prop} {H0 : Heap} {g : GG} (hC : Cx p s m args c RX8 cX8_worthOf 4 wsX8_worthOf g) (hA : ∀ q : Nat, H0.size ≤ q → A q) (N : Nat) (q1 : Nat → Nat) (x1 : Int32) (S1 : St) : ∀ (n : Nat) (x2 : Int32) (x3 : Int32) (o : Int32), fx_it (lf_X8_worthOf_4 N x1 S1) n (x2, x3) = some o → ∀ (H : Heap) (locs : List Loc) (ls : Array Slot), va_P g.1 vwCl (wX8 g q1 S1) H → va_D A (wX8 g q1 S1) → va_S A H0 H locs → lv_has ls 4 [(0, .ref (q1 100)), (1, .int x1), (2, .int x2), (3, .int x3)] → (∀ (z0 : Int32), o = z0 → ∀ (H : Heap) (locs : List Loc) (ls : Array Slot), va_P g.1 vwCl (wX8 g q1 S1) H → va_D A (wX8 g q1 S1) → va_S A H0 H locs → lv_has ls 4 [(2, .int z0)] → W p l e RM_X8_worthOf s m args below meth c H locs 0 0 Q (F0 m 45 ls [])) → W p l e RM_X8_worthOf s m args below meth c H locs 0 0 Q (F0 m 4 ls []) := by
  have hx := hC.1.1
  have hb := hC.1.2.1
  have hml := hC.1.2.2.1
  have hown := hC.1.2.2.2.1
  have hts := hC.1.2.2.2.2
  intro n
  induction n with
  | zero => intro x2 x3 o h; cases h
  | succ n ih =>
    intro x2 x3 o h H locs ls hP hD hS hl k0
    have h : bd_X8_worthOf_4 N x1 S1 x2 x3 (fx_it (lf_X8_worthOf_4 N x1 S1) n) = some o := h
    unfold bd_X8_worthOf_4 at h
    refine lv_iload_n hx hb dX8_worthOf_4 rfl (lv_at hl 3 rfl) ?_
    refine lv_aload_n hx hb dX8_worthOf_5 rfl (lv_at hl 0 rfl) ?_
    refine k_get (ci := 8) (k := 31) (q0 := 0) (v := .int (S1.1 31)) (C := RX8) (T := TX8) (N := 46) hC uX8_worthOf_X8 hP rfl rfl (by decide) (List.mem_of_getElem? (i := 1) rfl) rfl dX8_worthOf_6 ?_
    refine k_icmp_ge (tgt := 45) hC dX8_worthOf_9 (by decide) h (fun h => ?_) (fun h => ?_)
    · exact k0 x2 (Option.some.inj h).symm _ _ _ hP hD hS (lv_sub hl [2] rfl)
    · refine lv_iload_n hx hb dX8_worthOf_12 rfl (lv_at hl 2 rfl) ?_
      refine lv_iload_n hx hb dX8_worthOf_13 rfl (lv_at hl 1 rfl) ?_
      refine lv_iload_n hx hb dX8_worthOf_14 rfl (lv_at hl 3 rfl) ?_
      refine lv_ishr hx hb dX8_worthOf_15 ?_
      refine lv_iconst (v := (1 : Int32)) hx hb dX8_worthOf_16 (by decide) ?_
      refine lv_iand hx hb dX8_worthOf_17 ?_
      refine lv_iconst (v := (1 : Int32)) hx hb dX8_worthOf_18 (by decide) ?_
      refine k_icmp_ne (tgt := 36) hC dX8_worthOf_19 (by decide) h (fun h => ?_) (fun h => ?_)
      · refine lv_iconst (v := (0 : Int32)) hx hb dX8_worthOf_36 (by decide) ?_
        refine lv_iadd hx hb dX8_worthOf_37 ?_
        refine k_topi h (fun x101 h => ?_)
        refine lv_istore_n (lv' := [(2, .int x101), (0, .ref (q1 100)), (1, .int x1), (3, .int x3)]) hx hb dX8_worthOf_38 rfl hl (by decide) rfl (fun ls hl => ?_)
        refine k_iinc (v := (1 : Int32)) (lv' := fun X => [(3, .int X), (2, .int x101), (0, .ref (q1 100)), (1, .int x1)]) hC dX8_worthOf_39 hl (k := 3) rfl (by decide) (by decide) (fun _ => rfl) h (fun x102 h ls hl => ?_)
        refine lv_goto (tgt := 4) hx hb dX8_worthOf_42 (by decide) ?_
        exact ih x101 x102 o h _ _ _ hP hD hS (lv_sub hl [2, 3, 1, 0] rfl) k0
      · refine lv_aload_n hx hb dX8_worthOf_22 rfl (lv_at hl 0 rfl) ?_
        refine k_get (ci := 8) (k := 10) (q0 := 0) (v := .ref (q1 10)) (C := RX8) (T := TX8) (N := 46) hC uX8_worthOf_X8 hP rfl rfl (by decide) (List.mem_of_getElem? (i := 2) rfl) rfl dX8_worthOf_23 ?_
        refine lv_aload_n hx hb dX8_worthOf_26 rfl (lv_at hl 0 rfl) ?_
        refine k_get (ci := 8) (k := 30) (q0 := 0) (v := .ref (q1 30)) (C := RX8) (T := TX8) (N := 46) hC uX8_worthOf_X8 hP rfl rfl (by decide) (List.mem_of_getElem? (i := 3) rfl) rfl dX8_worthOf_27 ?_
        refine lv_iload_n hx hb dX8_worthOf_30 rfl (lv_at hl 3 rfl) ?_
        refine k_ald (q0 := 16) (n := 6) (F := S1.2 30) hC hP rfl dX8_worthOf_31 h (fun v103 h => ?_)
        refine k_ald (q0 := 4) (n := 6) (F := S1.2 10) hC hP rfl dX8_worthOf_32 h (fun v104 h => ?_)
        refine lv_goto (tgt := 37) hx hb dX8_worthOf_33 (by decide) ?_
        refine lv_iadd hx hb dX8_worthOf_37 ?_
        refine k_topi h (fun x105 h => ?_)
        refine lv_istore_n (lv' := [(2, .int x105), (0, .ref (q1 100)), (1, .int x1), (3, .int x3)]) hx hb dX8_worthOf_38 rfl hl (by decide) rfl (fun ls hl => ?_)
        refine k_iinc (v := (1 : Int32)) (lv' := fun X => [(3, .int X), (2, .int x105), (0, .ref (q1 100)), (1, .int x1)]) hC dX8_worthOf_39 hl (k := 3) rfl (by decide) (by decide) (fun _ => rfl) h (fun x106 h ls hl => ?_)
        refine lv_goto (tgt := 4) hx hb dX8_worthOf_42 (by decide) ?_
        exact ih x105 x106 o h _ _ _ hP hD hS (lv_sub hl [2, 3, 1, 0] rfl) k0
def f_X8_worthOf (N : Nat) (S1 : St) (x1 : Int32) : Option (Int32) :=
  fx_b1 (fx_it (lf_X8_worthOf_4 N x1 S1) N ((0 : Int32), (0 : Int32))) (fun x101 =>
  some x101)
set_option maxRecDepth 100000 in
set_option maxHeartbeats 4000000 in
theorem c_X8_worthOf (l : Launch) (g : GG) (N : Nat) (q1 : Nat → Nat) (S1 : St) (x1 : Int32) (r : Int32) (h : f_X8_worthOf N S1 x1 = some r) : Ci l yX8_worthOf wsX8_worthOf RM_X8_worthOf g [.ref (q1 100), .int x1] (wX8 g q1 S1) (wX8 g q1 S1) r := by
  intro sz
  refine Met.ofC (cc := cX8_worthOf) (maxL := 4) (ret := (some .int)) (by decide) rfl (Nat.le_of_ble_eq_true rfl) ?_
  intro p e s m below meth c hC hr hlk hsz A hA9 hA hP hD hS ls hl
  subst hsz
  have hC : Cx p s m ([.ref (q1 100), .int x1] : List Value).toArray c RX8 cX8_worthOf 4 wsX8_worthOf g := hC
  have hx := hC.1.1
  have hb := hC.1.2.1
  have hml := hC.1.2.2.1
  have hown := hC.1.2.2.2.1
  have hts := hC.1.2.2.2.2
  have hl : lv_has ls 4 [(0, .ref (q1 100)), (1, .int x1)] := hl
  show W p l e RM_X8_worthOf s m ([.ref (q1 100), .int x1] : List Value).toArray below meth c s.heap [] 0 0 (Qi below g [.ref (q1 100), .int x1] (wX8 g q1 S1) (wX8 g q1 S1) r s) (F0 m 0 ls [])
  unfold f_X8_worthOf at h
  refine lv_iconst (v := (0 : Int32)) hx hb dX8_worthOf_0 (by decide) ?_
  refine lv_istore_n (lv' := [(2, .int (0 : Int32)), (0, .ref (q1 100)), (1, .int x1)]) hx hb dX8_worthOf_1 rfl hl (by decide) rfl (fun ls hl => ?_)
  refine lv_iconst (v := (0 : Int32)) hx hb dX8_worthOf_2 (by decide) ?_
  refine lv_istore_n (lv' := [(3, .int (0 : Int32)), (2, .int (0 : Int32)), (0, .ref (q1 100)), (1, .int x1)]) hx hb dX8_worthOf_3 rfl hl (by decide) rfl (fun ls hl => ?_)
  obtain ⟨x101, ho102, h⟩ := fx_b1_s h
  refine lw_X8_worthOf_4 hC hA N q1 x1 S1 N (0 : Int32) (0 : Int32)  x101 ho102 _ _ _ hP hD hS (lv_sub hl [2, 3, 1, 0] rfl) ?_
  · intro y0 he H locs ls hP hD hS hl
    obtain rfl := he
    refine lv_iload_n hx hb dX8_worthOf_45 rfl (lv_at hl 0 rfl) ?_
    obtain rfl := fx_i1 h
    exact Ci.ret hC hr hlk hA9 hP hD hS dX8_worthOf_46
theorem uX8_two_X8 : ∀ w ∈ u_ws RX8 TX8 46, w ∈ wsX8_two := fun w h => List.mem_cons_of_mem _ (List.mem_append_right _ h)
abbrev RM_X8_two : Room := { frames := 4, cells := 0, slots := 0, locals := 91 }
def bd_X8_two_72 (N : Nat) (x2 : Int32) (x3 : Int32) (x4 : Int32) (S1 : St) (rec : (Int32 × St) → Option (St)) : Option (St) :=
  (if x3 ≤ x4 then (
    some S1) else (
    fx_b1 (f_X8_goOrders N S1 x4) (fun S101 =>
      fx_ast 16 S101 39 x4 (S101.1 37) (fun S102 =>
      fx_lt (x4 + (1 : Int32)) (fun x103 =>
      rec (x103, S102))))))
def lf_X8_two_72 (N : Nat) (x2 : Int32) (x3 : Int32) : (Int32 × St) → ((Int32 × St) → Option (St)) → Option (St) := fun x rec => bd_X8_two_72 N x2 x3 x.1 x.2 rec
set_option maxRecDepth 100000 in
set_option maxHeartbeats 4000000 in
theorem lw_X8_two_72 {p : Program} {l : Launch} {e : Env} {s : State} {m : MethodId} {args : Array Value} {below : List Frame} {meth : Method} {c : Code} {Q : State → Prop} {A : Nat → Prop} {H0 : Heap} {g : GG} (hC : Cx p s m args c RX8 cX8_two 13 wsX8_two g) (hA : ∀ q : Nat, H0.size ≤ q → A q) (N : Nat) (q1 : Nat → Nat) (x2 : Int32) (x3 : Int32) : ∀ (n : Nat) (x4 : Int32) (S1 : St) (o : St), fx_it (lf_X8_two_72 N x2 x3) n (x4, S1) = some o → ∀ (H : Heap) (locs : List Loc) (ls : Array Slot), va_P g.1 vwCl (wX8 g q1 S1) H → va_D A (wX8 g q1 S1) → va_S A H0 H locs → lv_has ls 13 [(0, .ref (q1 100)), (2, .int x2), (3, .int x3), (4, .int x4)] → (∀ (Z0 : St), o = Z0 → ∀ (H : Heap) (locs : List Loc) (ls : Array Slot), va_P g.1 vwCl (wX8 g q1 Z0) H → va_D A (wX8 g q1 Z0) → va_S A H0 H locs → lv_has ls 13 [(0, .ref (q1 100)), (2, .int x2), (3, .int x3)] → W p l e RM_X8_two s m args below meth c H locs 0 0 Q (F0 m 101 ls [])) → W p l e RM_X8_two s m args below meth c H locs 0 0 Q (F0 m 72 ls []) := by
  have hx := hC.1.1
  have hb := hC.1.2.1
  have hml := hC.1.2.2.1
  have hown := hC.1.2.2.2.1
  have hts := hC.1.2.2.2.2
  intro n
  induction n with
  | zero => intro x4 S1 o h; cases h
  | succ n ih =>
    intro x4 S1 o h H locs ls hP hD hS hl k0
    have h : bd_X8_two_72 N x2 x3 x4 S1 (fx_it (lf_X8_two_72 N x2 x3) n) = some o := h
    unfold bd_X8_two_72 at h
    refine lv_iload hx hb dX8_two_72 (lv_at hl 3 rfl) ?_
    refine lv_iload_n hx hb dX8_two_74 rfl (lv_at hl 2 rfl) ?_
    refine k_icmp_ge (tgt := 101) hC dX8_two_75 (by decide) h (fun h => ?_) (fun h => ?_)
    · exact k0 S1 (Option.some.inj h).symm _ _ _ hP hD hS (lv_sub hl [0, 1, 2] rfl)
    · refine lv_aload_n hx hb dX8_two_78 rfl (lv_at hl 0 rfl) ?_
      refine lv_iload hx hb dX8_two_79 (lv_at hl 3 rfl) ?_
      obtain ⟨S101, hc104, h⟩ := fx_b1_s h
      refine k_callVv (C := RX8) (ci := 8) (qr := 0) (n := 1) (As := [.int x4]) (rest := []) (wc := (wX8 g q1 S1)) (w1 := (wX8 g q1 S101)) (ws2 := (wX8 g q1 S101)) (bytes := cX8_goOrders) (maxL := 5) (ret := none) hC hl.1 (c_X8_goOrders l g N q1 S1 x4 S101 hc104) rfl gX8_two_X8_goOrders (by decide +kernel) rfl rfl ⟨Nat.le_of_ble_eq_true rfl, Nat.le_of_ble_eq_true rfl⟩ rfl rfl rfl (Nat.le_of_ble_eq_true rfl) ⟨Nat.le_of_ble_eq_true rfl, Nat.le_of_ble_eq_true rfl⟩ dX8_two_81 hP hD hS hA [0, 1, 2, 3, 4, 5, 6, 7, 8, 9, 10, 11, 12, 13, 14, 15, 16, 17, 18, 19, 20, 21, 22, 23] rfl (by decide +kernel) [q1 100, q1 6, q1 8, q1 9, q1 10, q1 11, q1 12, q1 13, q1 14, q1 15, q1 16, q1 18, q1 20, q1 21, q1 23, q1 27, q1 30, q1 32, q1 33, q1 34, q1 39, q1 41, q1 42, q1 43] rfl rfl rfl [] ([] : va_W) rfl rfl (n2 := 24) rfl (by decide +kernel) (fun H locs hP hD hS => ?_)
      refine lv_aload_n hx hb dX8_two_84 rfl (lv_at hl 0 rfl) ?_
      refine k_get (ci := 8) (k := 39) (q0 := 0) (v := .ref (q1 39)) (C := RX8) (T := TX8) (N := 46) hC uX8_two_X8 hP rfl rfl (by decide) (List.mem_of_getElem? (i := 5) rfl) rfl dX8_two_85 ?_
      refine lv_iload hx hb dX8_two_88 (lv_at hl 3 rfl) ?_
      refine lv_aload_n hx hb dX8_two_90 rfl (lv_at hl 0 rfl) ?_
      refine k_get (ci := 8) (k := 37) (q0 := 0) (v := .int (S101.1 37)) (C := RX8) (T := TX8) (N := 46) hC uX8_two_X8 hP rfl rfl (by decide) (List.mem_of_getElem? (i := 6) rfl) rfl dX8_two_91 ?_
      refine k_ast (q0 := 20) (n := 16) (k := 39) (S := S101) (fun S => (wX8 g q1 S)) hC hP hD hS rfl (fun _ => rfl) dX8_two_94 h (fun S102 h H locs hP hD hS => ?_)
      refine k_iinc (v := (1 : Int32)) (lv' := fun X => [(4, .int X), (0, .ref (q1 100)), (2, .int x2), (3, .int x3)]) hC dX8_two_95 hl (k := 3) rfl (by decide) (by decide) (fun _ => rfl) h (fun x103 h ls hl => ?_)
      refine lv_goto (tgt := 72) hx hb dX8_two_98 (by decide) ?_
      exact ih x103 S102 o h _ _ _ hP hD hS (lv_sub hl [1, 2, 3, 0] rfl) k0
def bd_X8_two_114 (N : Nat) (x2 : Int32) (x3 : Int32) (S1 : St) (x4 : Int32) (x5 : Int32) (x6 : Int32) (x7 : Int32) (rec : (Int32 × Int32 × Int32 × Int32) → Option (Int32 × Int32 × Int32)) : Option (Int32 × Int32 × Int32) :=
  (if (x3 * x3) ≤ x7 then (
    some (x4, x5, x6)) else (
    fx_nz x3 (
      fx_lt (x7 / x3) (fun x101 =>
      fx_nz x3 (
      fx_lt (x7 - x7 / x3 * x3) (fun x102 =>
      (if (x101 &&& x102) = 0 then (
      fx_ald 16 (S1.2 39) x101 (fun v104 =>
        (if v104 < 0 then (
        fx_lt (x7 + (1 : Int32)) (fun x105 =>
          rec (x4, x5, x6, x105))) else (
        fx_ald 16 (S1.2 39) x102 (fun v106 =>
          (if v106 < 0 then (
          fx_lt (x7 + (1 : Int32)) (fun x107 =>
            rec (x4, x5, x6, x107))) else (
          fx_b1 (f_X8_worthOf N S1 (x101 ||| x102)) (fun v108 =>
            fx_b1 ((if v108 = x4 then (
            some (1 : Int32)) else (
            some (0 : Int32))) : Option (Int32)) (fun v109 =>
            fx_ald 16 (S1.2 39) x101 (fun v111 =>
              fx_b1 ((if v111 < x5 then (
              some (1 : Int32)) else (
              fx_ald 16 (S1.2 39) x101 (fun v123 =>
                (if v123 = x5 then (
                fx_ald 16 (S1.2 39) x102 (fun v124 =>
                  (if x6 ≤ v124 then (
                  some (0 : Int32)) else (
                  some (1 : Int32))))) else (
                some (0 : Int32)))))) : Option (Int32)) (fun v112 =>
              (if x4 < v108 then (
                fx_ald 16 (S1.2 39) x101 (fun v114 =>
                  fx_ald 16 (S1.2 39) x102 (fun v115 =>
                  fx_lt (x7 + (1 : Int32)) (fun x116 =>
                  rec (v108, v114, v115, x116))))) else (
                (if v109 = 0 then (
                  fx_lt (x7 + (1 : Int32)) (fun x117 =>
                    rec (x4, x5, x6, x117))) else (
                  (if v112 = 0 then (
                    fx_lt (x7 + (1 : Int32)) (fun x118 =>
                      rec (x4, x5, x6, x118))) else (
                    fx_ald 16 (S1.2 39) x101 (fun v119 =>
                      fx_ald 16 (S1.2 39) x102 (fun v120 =>
                      fx_lt (x7 + (1 : Int32)) (fun x121 =>
                      rec (v108, v119, v120, x121))))))))))))))))))))) else (
      fx_lt (x7 + (1 : Int32)) (fun x103 =>
        rec (x4, x5, x6, x103))))))))))
def lf_X8_two_114 (N : Nat) (x2 : Int32) (x3 : Int32) (S1 : St) : (Int32 × Int32 × Int32 × Int32) → ((Int32 × Int32 × Int32 × Int32) → Option (Int32 × Int32 × Int32)) → Option (Int32 × Int32 × Int32) := fun x rec => bd_X8_two_114 N x2 x3 S1 x.1 x.2.1 x.2.2.1 x.2.2.2 rec
set_option maxRecDepth 100000 in
set_option maxHeartbeats 4000000 in
theorem lw_X8_two_114 {p : Program} {l : Launch} {e : Env} {s : State} {m : MethodId} {args : Array Value} {below : List Frame} {meth : Method} {c : Code} {Q : State → Prop} {A : Nat → Prop} {H0 : Heap} {g : GG} (hC : Cx p s m args c RX8 cX8_two 13 wsX8_two g) (hA : ∀ q : Nat, H0.size ≤ q → A q) (N : Nat) (q1 : Nat → Nat) (x2 : Int32) (x3 : Int32) (S1 : St) : ∀ (n : Nat) (x4 : Int32) (x5 : Int32) (x6 : Int32) (x7 : Int32) (o : Int32 × Int32 × Int32), fx_it (lf_X8_two_114 N x2 x3 S1) n (x4, x5, x6, x7) = some o → ∀ (H : Heap) (locs : List Loc) (ls : Array Slot), va_P g.1 vwCl (wX8 g q1 S1) H → va_D A (wX8 g q1 S1) → va_S A H0 H locs → lv_has ls 13 [(0, .ref (q1 100)), (2, .int x2), (3, .int x3), (4, .int x4), (5, .int x5), (6, .int x6), (7, .int x7)] → (∀ (z0 : Int32) (z1 : Int32) (z2 : Int32), o = (z0, z1, z2) → ∀ (H : Heap) (locs : List Loc) (ls : Array Slot), va_P g.1 vwCl (wX8 g q1 S1) H → va_D A (wX8 g q1 S1) → va_S A H0 H locs → lv_has ls 13 [(2, .int x2), (4, .int z0), (5, .int z1), (6, .int z2)] → W p l e RM_X8_two s m args below meth c H locs 0 0 Q (F0 m 275 ls [])) → W p l e RM_X8_two s m args below meth c H locs 0 0 Q (F0 m 114 ls []) := by
  have hx := hC.1.1
  have hb := hC.1.2.1
  have hml := hC.1.2.2.1
  have hown := hC.1.2.2.2.1
  have hts := hC.1.2.2.2.2
  intro n
  induction n with
  | zero => intro x4 x5 x6 x7 o h; cases h
  | succ n ih =>
    intro x4 x5 x6 x7 o h H locs ls hP hD hS hl k0
    have h : bd_X8_two_114 N x2 x3 S1 x4 x5 x6 x7 (fx_it (lf_X8_two_114 N x2 x3 S1) n) = some o := h
    unfold bd_X8_two_114 at h
    refine lv_iload hx hb dX8_two_114 (lv_at hl 6 rfl) ?_
    refine lv_iload_n hx hb dX8_two_116 rfl (lv_at hl 2 rfl) ?_
    refine lv_iload_n hx hb dX8_two_117 rfl (lv_at hl 2 rfl) ?_
    refine lv_imul hx hb dX8_two_118 ?_
    refine k_icmp_ge (tgt := 275) hC dX8_two_119 (by decide) h (fun h => ?_) (fun h => ?_)
    · exact k0 x4 x5 x6 (Option.some.inj h).symm _ _ _ hP hD hS (lv_sub hl [1, 3, 4, 5] rfl)
    · refine lv_iload hx hb dX8_two_122 (lv_at hl 6 rfl) ?_
      refine lv_iload_n hx hb dX8_two_124 rfl (lv_at hl 2 rfl) ?_
      obtain ⟨hne, h⟩ := fx_nz_s h
      refine lv_idiv hx hb dX8_two_125 hne ?_
      refine k_topi h (fun x101 h => ?_)
      refine lv_istore (lv' := [(8, .int x101), (0, .ref (q1 100)), (2, .int x2), (3, .int x3), (4, .int x4), (5, .int x5), (6, .int x6), (7, .int x7)]) hx hb dX8_two_126 hl (by decide) rfl (fun ls hl => ?_)
      refine lv_iload hx hb dX8_two_128 (lv_at hl 7 rfl) ?_
      refine lv_iload_n hx hb dX8_two_130 rfl (lv_at hl 3 rfl) ?_
      obtain ⟨hne, h⟩ := fx_nz_s h
      refine lv_irem hx hb dX8_two_131 hne ?_
      refine k_topi h (fun x102 h => ?_)
      refine lv_istore (lv' := [(9, .int x102), (8, .int x101), (0, .ref (q1 100)), (2, .int x2), (3, .int x3), (4, .int x4), (5, .int x5), (6, .int x6), (7, .int x7)]) hx hb dX8_two_132 hl (by decide) rfl (fun ls hl => ?_)
      refine lv_iload hx hb dX8_two_134 (lv_at hl 1 rfl) ?_
      refine lv_iload hx hb dX8_two_136 (lv_at hl 0 rfl) ?_
      refine lv_iand hx hb dX8_two_138 ?_
      refine k_if_ne (tgt := 269) hC dX8_two_139 (by decide) h (fun h => ?_) (fun h => ?_)
      · refine k_iinc (v := (1 : Int32)) (lv' := fun X => [(7, .int X), (9, .int x102), (8, .int x101), (0, .ref (q1 100)), (2, .int x2), (3, .int x3), (4, .int x4), (5, .int x5), (6, .int x6)]) hC dX8_two_269 hl (k := 8) rfl (by decide) (by decide) (fun _ => rfl) h (fun x103 h ls hl => ?_)
        refine lv_goto (tgt := 114) hx hb dX8_two_272 (by decide) ?_
        exact ih x4 x5 x6 x103 o h _ _ _ hP hD hS (lv_sub hl [3, 4, 5, 6, 7, 8, 0] rfl) k0
      · refine lv_aload_n hx hb dX8_two_142 rfl (lv_at hl 2 rfl) ?_
        refine k_get (ci := 8) (k := 39) (q0 := 0) (v := .ref (q1 39)) (C := RX8) (T := TX8) (N := 46) hC uX8_two_X8 hP rfl rfl (by decide) (List.mem_of_getElem? (i := 5) rfl) rfl dX8_two_143 ?_
        refine lv_iload hx hb dX8_two_146 (lv_at hl 1 rfl) ?_
        refine k_ald (q0 := 20) (n := 16) (F := S1.2 39) hC hP rfl dX8_two_148 h (fun v104 h => ?_)
        refine k_if_lt (tgt := 269) hC dX8_two_149 (by decide) h (fun h => ?_) (fun h => ?_)
        · refine k_iinc (v := (1 : Int32)) (lv' := fun X => [(7, .int X), (9, .int x102), (8, .int x101), (0, .ref (q1 100)), (2, .int x2), (3, .int x3), (4, .int x4), (5, .int x5), (6, .int x6)]) hC dX8_two_269 hl (k := 8) rfl (by decide) (by decide) (fun _ => rfl) h (fun x105 h ls hl => ?_)
          refine lv_goto (tgt := 114) hx hb dX8_two_272 (by decide) ?_
          exact ih x4 x5 x6 x105 o h _ _ _ hP hD hS (lv_sub hl [3, 4, 5, 6, 7, 8, 0] rfl) k0
        · refine lv_aload_n hx hb dX8_two_152 rfl (lv_at hl 2 rfl) ?_
          refine k_get (ci := 8) (k := 39) (q0 := 0) (v := .ref (q1 39)) (C := RX8) (T := TX8) (N := 46) hC uX8_two_X8 hP rfl rfl (by decide) (List.mem_of_getElem? (i := 5) rfl) rfl dX8_two_153 ?_
          refine lv_iload hx hb dX8_two_156 (lv_at hl 0 rfl) ?_
          refine k_ald (q0 := 20) (n := 16) (F := S1.2 39) hC hP rfl dX8_two_158 h (fun v106 h => ?_)
          refine k_if_lt (tgt := 269) hC dX8_two_159 (by decide) h (fun h => ?_) (fun h => ?_)
          · refine k_iinc (v := (1 : Int32)) (lv' := fun X => [(7, .int X), (9, .int x102), (8, .int x101), (0, .ref (q1 100)), (2, .int x2), (3, .int x3), (4, .int x4), (5, .int x5), (6, .int x6)]) hC dX8_two_269 hl (k := 8) rfl (by decide) (by decide) (fun _ => rfl) h (fun x107 h ls hl => ?_)
            refine lv_goto (tgt := 114) hx hb dX8_two_272 (by decide) ?_
            exact ih x4 x5 x6 x107 o h _ _ _ hP hD hS (lv_sub hl [3, 4, 5, 6, 7, 8, 0] rfl) k0
          · refine lv_aload_n hx hb dX8_two_162 rfl (lv_at hl 2 rfl) ?_
            refine lv_iload hx hb dX8_two_163 (lv_at hl 1 rfl) ?_
            refine lv_iload hx hb dX8_two_165 (lv_at hl 0 rfl) ?_
            refine lv_ior hx hb dX8_two_167 ?_
            obtain ⟨v108, hc126, h⟩ := fx_b1_s h
            refine k_callVi0 (C := RX8) (ci := 8) (qr := 0) (n := 1) (As := [.int (x101 ||| x102)]) (rest := []) (wc := (wX8 g q1 S1)) (bytes := cX8_worthOf) (maxL := 4) (ret := (some .int)) hC hl.1 (c_X8_worthOf l g N q1 S1 (x101 ||| x102) v108 hc126) rfl gX8_two_X8_worthOf (by decide +kernel) rfl rfl ⟨Nat.le_of_ble_eq_true rfl, Nat.le_of_ble_eq_true rfl⟩ rfl rfl rfl (Nat.le_of_ble_eq_true rfl) ⟨Nat.le_of_ble_eq_true rfl, Nat.le_of_ble_eq_true rfl⟩ dX8_two_168 hP hD hS hA [0, 1, 2, 3, 4, 5, 6, 7, 8, 9, 10, 11, 12, 13, 14, 15, 16, 17, 18, 19, 20, 21, 22, 23] rfl (by decide +kernel) (fun H locs hP hD hS => ?_)
            refine lv_istore (lv' := [(10, .int v108), (9, .int x102), (8, .int x101), (0, .ref (q1 100)), (2, .int x2), (3, .int x3), (4, .int x4), (5, .int x5), (6, .int x6), (7, .int x7)]) hx hb dX8_two_171 hl (by decide) rfl (fun ls hl => ?_)
            refine lv_iload hx hb dX8_two_173 (lv_at hl 0 rfl) ?_
            refine lv_iload hx hb dX8_two_175 (lv_at hl 6 rfl) ?_
            obtain ⟨v109, hv110, h⟩ := fx_b1_s h
            have K125 : ∀ (H : Heap) (locs : List Loc) (ls : Array Slot), va_P g.1 vwCl (wX8 g q1 S1) H → va_D A (wX8 g q1 S1) → va_S A H0 H locs → lv_has ls 13 [(10, .int v108), (9, .int x102), (8, .int x101), (0, .ref (q1 100)), (2, .int x2), (3, .int x3), (4, .int x4), (5, .int x5), (6, .int x6), (7, .int x7)] → W p l e RM_X8_two s m args below meth c H locs 0 0 Q (F0 m 185 ls [.int v109]) := by
              intro H locs ls hP hD hS hl
              refine lv_istore (lv' := [(11, .int v109), (10, .int v108), (9, .int x102), (8, .int x101), (0, .ref (q1 100)), (2, .int x2), (3, .int x3), (4, .int x4), (5, .int x5), (6, .int x6), (7, .int x7)]) hx hb dX8_two_185 hl (by decide) rfl (fun ls hl => ?_)
              refine lv_aload_n hx hb dX8_two_187 rfl (lv_at hl 4 rfl) ?_
              refine k_get (ci := 8) (k := 39) (q0 := 0) (v := .ref (q1 39)) (C := RX8) (T := TX8) (N := 46) hC uX8_two_X8 hP rfl rfl (by decide) (List.mem_of_getElem? (i := 5) rfl) rfl dX8_two_188 ?_
              refine lv_iload hx hb dX8_two_191 (lv_at hl 3 rfl) ?_
              refine k_ald (q0 := 20) (n := 16) (F := S1.2 39) hC hP rfl dX8_two_193 h (fun v111 h => ?_)
              refine lv_iload hx hb dX8_two_194 (lv_at hl 8 rfl) ?_
              obtain ⟨v112, hv113, h⟩ := fx_b1_s h
              have K122 : ∀ (H : Heap) (locs : List Loc) (ls : Array Slot), va_P g.1 vwCl (wX8 g q1 S1) H → va_D A (wX8 g q1 S1) → va_S A H0 H locs → lv_has ls 13 [(11, .int v109), (10, .int v108), (9, .int x102), (8, .int x101), (0, .ref (q1 100)), (2, .int x2), (3, .int x3), (4, .int x4), (5, .int x5), (6, .int x6), (7, .int x7)] → W p l e RM_X8_two s m args below meth c H locs 0 0 Q (F0 m 228 ls [.int v112]) := by
                intro H locs ls hP hD hS hl
                refine lv_istore (lv' := [(12, .int v112), (11, .int v109), (10, .int v108), (9, .int x102), (8, .int x101), (0, .ref (q1 100)), (2, .int x2), (3, .int x3), (4, .int x4), (5, .int x5), (6, .int x6), (7, .int x7)]) hx hb dX8_two_228 hl (by decide) rfl (fun ls hl => ?_)
                refine lv_iload hx hb dX8_two_230 (lv_at hl 2 rfl) ?_
                refine lv_iload hx hb dX8_two_232 (lv_at hl 8 rfl) ?_
                refine k_icmp_gt (tgt := 247) hC dX8_two_234 (by decide) h (fun h => ?_) (fun h => ?_)
                · refine lv_iload hx hb dX8_two_247 (lv_at hl 2 rfl) ?_
                  refine lv_istore (lv' := [(4, .int v108), (12, .int v112), (11, .int v109), (10, .int v108), (9, .int x102), (8, .int x101), (0, .ref (q1 100)), (2, .int x2), (3, .int x3), (5, .int x5), (6, .int x6), (7, .int x7)]) hx hb dX8_two_249 hl (by decide) rfl (fun ls hl => ?_)
                  refine lv_aload_n hx hb dX8_two_251 rfl (lv_at hl 6 rfl) ?_
                  refine k_get (ci := 8) (k := 39) (q0 := 0) (v := .ref (q1 39)) (C := RX8) (T := TX8) (N := 46) hC uX8_two_X8 hP rfl rfl (by decide) (List.mem_of_getElem? (i := 5) rfl) rfl dX8_two_252 ?_
                  refine lv_iload hx hb dX8_two_255 (lv_at hl 5 rfl) ?_
                  refine k_ald (q0 := 20) (n := 16) (F := S1.2 39) hC hP rfl dX8_two_257 h (fun v114 h => ?_)
                  refine lv_istore (lv' := [(5, .int v114), (4, .int v108), (12, .int v112), (11, .int v109), (10, .int v108), (9, .int x102), (8, .int x101), (0, .ref (q1 100)), (2, .int x2), (3, .int x3), (6, .int x6), (7, .int x7)]) hx hb dX8_two_258 hl (by decide) rfl (fun ls hl => ?_)
                  refine lv_aload_n hx hb dX8_two_260 rfl (lv_at hl 7 rfl) ?_
                  refine k_get (ci := 8) (k := 39) (q0 := 0) (v := .ref (q1 39)) (C := RX8) (T := TX8) (N := 46) hC uX8_two_X8 hP rfl rfl (by decide) (List.mem_of_getElem? (i := 5) rfl) rfl dX8_two_261 ?_
                  refine lv_iload hx hb dX8_two_264 (lv_at hl 5 rfl) ?_
                  refine k_ald (q0 := 20) (n := 16) (F := S1.2 39) hC hP rfl dX8_two_266 h (fun v115 h => ?_)
                  refine lv_istore (lv' := [(6, .int v115), (5, .int v114), (4, .int v108), (12, .int v112), (11, .int v109), (10, .int v108), (9, .int x102), (8, .int x101), (0, .ref (q1 100)), (2, .int x2), (3, .int x3), (7, .int x7)]) hx hb dX8_two_267 hl (by decide) rfl (fun ls hl => ?_)
                  refine k_iinc (v := (1 : Int32)) (lv' := fun X => [(7, .int X), (6, .int v115), (5, .int v114), (4, .int v108), (12, .int v112), (11, .int v109), (10, .int v108), (9, .int x102), (8, .int x101), (0, .ref (q1 100)), (2, .int x2), (3, .int x3)]) hC dX8_two_269 hl (k := 11) rfl (by decide) (by decide) (fun _ => rfl) h (fun x116 h ls hl => ?_)
                  refine lv_goto (tgt := 114) hx hb dX8_two_272 (by decide) ?_
                  exact ih v108 v114 v115 x116 o h _ _ _ hP hD hS (lv_sub hl [9, 10, 11, 3, 2, 1, 0] rfl) k0
                · refine lv_iload hx hb dX8_two_237 (lv_at hl 1 rfl) ?_
                  refine k_if_eq (tgt := 269) hC dX8_two_239 (by decide) h (fun h => ?_) (fun h => ?_)
                  · refine k_iinc (v := (1 : Int32)) (lv' := fun X => [(7, .int X), (12, .int v112), (11, .int v109), (10, .int v108), (9, .int x102), (8, .int x101), (0, .ref (q1 100)), (2, .int x2), (3, .int x3), (4, .int x4), (5, .int x5), (6, .int x6)]) hC dX8_two_269 hl (k := 11) rfl (by decide) (by decide) (fun _ => rfl) h (fun x117 h ls hl => ?_)
                    refine lv_goto (tgt := 114) hx hb dX8_two_272 (by decide) ?_
                    exact ih x4 x5 x6 x117 o h _ _ _ hP hD hS (lv_sub hl [6, 7, 8, 9, 10, 11, 0] rfl) k0
                  · refine lv_iload hx hb dX8_two_242 (lv_at hl 0 rfl) ?_
                    refine k_if_eq (tgt := 269) hC dX8_two_244 (by decide) h (fun h => ?_) (fun h => ?_)
                    · refine k_iinc (v := (1 : Int32)) (lv' := fun X => [(7, .int X), (12, .int v112), (11, .int v109), (10, .int v108), (9, .int x102), (8, .int x101), (0, .ref (q1 100)), (2, .int x2), (3, .int x3), (4, .int x4), (5, .int x5), (6, .int x6)]) hC dX8_two_269 hl (k := 11) rfl (by decide) (by decide) (fun _ => rfl) h (fun x118 h ls hl => ?_)
                      refine lv_goto (tgt := 114) hx hb dX8_two_272 (by decide) ?_
                      exact ih x4 x5 x6 x118 o h _ _ _ hP hD hS (lv_sub hl [6, 7, 8, 9, 10, 11, 0] rfl) k0
                    · refine lv_iload hx hb dX8_two_247 (lv_at hl 2 rfl) ?_
                      refine lv_istore (lv' := [(4, .int v108), (12, .int v112), (11, .int v109), (10, .int v108), (9, .int x102), (8, .int x101), (0, .ref (q1 100)), (2, .int x2), (3, .int x3), (5, .int x5), (6, .int x6), (7, .int x7)]) hx hb dX8_two_249 hl (by decide) rfl (fun ls hl => ?_)
                      refine lv_aload_n hx hb dX8_two_251 rfl (lv_at hl 6 rfl) ?_
                      refine k_get (ci := 8) (k := 39) (q0 := 0) (v := .ref (q1 39)) (C := RX8) (T := TX8) (N := 46) hC uX8_two_X8 hP rfl rfl (by decide) (List.mem_of_getElem? (i := 5) rfl) rfl dX8_two_252 ?_
                      refine lv_iload hx hb dX8_two_255 (lv_at hl 5 rfl) ?_
                      refine k_ald (q0 := 20) (n := 16) (F := S1.2 39) hC hP rfl dX8_two_257 h (fun v119 h => ?_)
                      refine lv_istore (lv' := [(5, .int v119), (4, .int v108), (12, .int v112), (11, .int v109), (10, .int v108), (9, .int x102), (8, .int x101), (0, .ref (q1 100)), (2, .int x2), (3, .int x3), (6, .int x6), (7, .int x7)]) hx hb dX8_two_258 hl (by decide) rfl (fun ls hl => ?_)
                      refine lv_aload_n hx hb dX8_two_260 rfl (lv_at hl 7 rfl) ?_
                      refine k_get (ci := 8) (k := 39) (q0 := 0) (v := .ref (q1 39)) (C := RX8) (T := TX8) (N := 46) hC uX8_two_X8 hP rfl rfl (by decide) (List.mem_of_getElem? (i := 5) rfl) rfl dX8_two_261 ?_
                      refine lv_iload hx hb dX8_two_264 (lv_at hl 5 rfl) ?_
                      refine k_ald (q0 := 20) (n := 16) (F := S1.2 39) hC hP rfl dX8_two_266 h (fun v120 h => ?_)
                      refine lv_istore (lv' := [(6, .int v120), (5, .int v119), (4, .int v108), (12, .int v112), (11, .int v109), (10, .int v108), (9, .int x102), (8, .int x101), (0, .ref (q1 100)), (2, .int x2), (3, .int x3), (7, .int x7)]) hx hb dX8_two_267 hl (by decide) rfl (fun ls hl => ?_)
                      refine k_iinc (v := (1 : Int32)) (lv' := fun X => [(7, .int X), (6, .int v120), (5, .int v119), (4, .int v108), (12, .int v112), (11, .int v109), (10, .int v108), (9, .int x102), (8, .int x101), (0, .ref (q1 100)), (2, .int x2), (3, .int x3)]) hC dX8_two_269 hl (k := 11) rfl (by decide) (by decide) (fun _ => rfl) h (fun x121 h ls hl => ?_)
                      refine lv_goto (tgt := 114) hx hb dX8_two_272 (by decide) ?_
                      exact ih v108 v119 v120 x121 o h _ _ _ hP hD hS (lv_sub hl [9, 10, 11, 3, 2, 1, 0] rfl) k0
              refine k_icmp_lt (tgt := 223) hC dX8_two_196 (by decide) hv113 (fun hv113 => ?_) (fun hv113 => ?_)
              · refine lv_iconst (v := (1 : Int32)) hx hb dX8_two_223 (by decide) ?_
                refine lv_goto (tgt := 228) hx hb dX8_two_224 (by decide) ?_
                obtain rfl := fx_i1 hv113
                exact K122 _ _ _ hP hD hS (lv_sub hl [0, 1, 2, 3, 4, 5, 6, 7, 8, 9, 10] rfl)
              · refine lv_aload_n hx hb dX8_two_199 rfl (lv_at hl 4 rfl) ?_
                refine k_get (ci := 8) (k := 39) (q0 := 0) (v := .ref (q1 39)) (C := RX8) (T := TX8) (N := 46) hC uX8_two_X8 hP rfl rfl (by decide) (List.mem_of_getElem? (i := 5) rfl) rfl dX8_two_200 ?_
                refine lv_iload hx hb dX8_two_203 (lv_at hl 3 rfl) ?_
                refine k_ald (q0 := 20) (n := 16) (F := S1.2 39) hC hP rfl dX8_two_205 hv113 (fun v123 hv113 => ?_)
                refine lv_iload hx hb dX8_two_206 (lv_at hl 8 rfl) ?_
                refine k_icmp_ne (tgt := 227) hC dX8_two_208 (by decide) hv113 (fun hv113 => ?_) (fun hv113 => ?_)
                · refine lv_iconst (v := (0 : Int32)) hx hb dX8_two_227 (by decide) ?_
                  obtain rfl := fx_i1 hv113
                  exact K122 _ _ _ hP hD hS (lv_sub hl [0, 1, 2, 3, 4, 5, 6, 7, 8, 9, 10] rfl)
                · refine lv_aload_n hx hb dX8_two_211 rfl (lv_at hl 4 rfl) ?_
                  refine k_get (ci := 8) (k := 39) (q0 := 0) (v := .ref (q1 39)) (C := RX8) (T := TX8) (N := 46) hC uX8_two_X8 hP rfl rfl (by decide) (List.mem_of_getElem? (i := 5) rfl) rfl dX8_two_212 ?_
                  refine lv_iload hx hb dX8_two_215 (lv_at hl 2 rfl) ?_
                  refine k_ald (q0 := 20) (n := 16) (F := S1.2 39) hC hP rfl dX8_two_217 hv113 (fun v124 hv113 => ?_)
                  refine lv_iload hx hb dX8_two_218 (lv_at hl 9 rfl) ?_
                  refine k_icmp_ge (tgt := 227) hC dX8_two_220 (by decide) hv113 (fun hv113 => ?_) (fun hv113 => ?_)
                  · refine lv_iconst (v := (0 : Int32)) hx hb dX8_two_227 (by decide) ?_
                    obtain rfl := fx_i1 hv113
                    exact K122 _ _ _ hP hD hS (lv_sub hl [0, 1, 2, 3, 4, 5, 6, 7, 8, 9, 10] rfl)
                  · refine lv_iconst (v := (1 : Int32)) hx hb dX8_two_223 (by decide) ?_
                    refine lv_goto (tgt := 228) hx hb dX8_two_224 (by decide) ?_
                    obtain rfl := fx_i1 hv113
                    exact K122 _ _ _ hP hD hS (lv_sub hl [0, 1, 2, 3, 4, 5, 6, 7, 8, 9, 10] rfl)
            refine k_icmp_ne (tgt := 184) hC dX8_two_177 (by decide) hv110 (fun hv110 => ?_) (fun hv110 => ?_)
            · refine lv_iconst (v := (0 : Int32)) hx hb dX8_two_184 (by decide) ?_
              obtain rfl := fx_i1 hv110
              exact K125 _ _ _ hP hD hS (lv_sub hl [0, 1, 2, 3, 4, 5, 6, 7, 8, 9] rfl)
            · refine lv_iconst (v := (1 : Int32)) hx hb dX8_two_180 (by decide) ?_
              refine lv_goto (tgt := 185) hx hb dX8_two_181 (by decide) ?_
              obtain rfl := fx_i1 hv110
              exact K125 _ _ _ hP hD hS (lv_sub hl [0, 1, 2, 3, 4, 5, 6, 7, 8, 9] rfl)
def f_X8_two (N : Nat) (S1 : St) (x1 : Int32) (x2 : Int32) : Option (Int32 × St) :=
  fx_b1 (f_X8_in N (Int32.toInt64 x2) (0 : Int64) (2 : Int64)) (fun v101 =>
  (if v101 = 0 then (
  some ((-2 : Int32), S1)) else (
  fx_b1 (f_X8_isLoaves N x1) (fun v102 =>
    (if v102 = 0 then (
    some ((-2 : Int32), S1)) else (
    fx_b2 (f_X8_layLoaves N S1 x1) (fun v103 S104 =>
      (if v103 = 0 then (
      some ((-1 : Int32), S104)) else (
      (if (S104.1 31) ≤ (4 : Int32) then (
        (if (S104.1 0) = (1 : Int32) then (
          some ((-3 : Int32), S104)) else (
          fx_b1 (f_X8_layRipe N S104 (S104.1 2)) (fun S105 =>
            fx_lt ((1 : Int32) <<< ((S105.1 31) &&& 31)) (fun x106 =>
            fx_b1 (fx_it (lf_X8_two_72 N x2 x106) N ((0 : Int32), S105)) (fun S107 =>
            fx_b3 (fx_it (lf_X8_two_114 N x2 x106 S107) N ((-6 : Int32), (0 : Int32), (0 : Int32), (0 : Int32))) (fun x109 x110 x111 =>
              (if x2 = 0 then (
                some (x109, S107)) else (
                (if x2 = (1 : Int32) then (
                  some (x110, S107)) else (
                  some (x111, S107)))))))))))) else (
        some ((-4 : Int32), S104))))))))))))
set_option maxRecDepth 100000 in
set_option maxHeartbeats 4000000 in
theorem c_X8_two (l : Launch) (g : GG) (N : Nat) (q1 : Nat → Nat) (S1 : St) (x1 : Int32) (x2 : Int32) (r : Int32) (F1 : St) (h : f_X8_two N S1 x1 x2 = some (r, F1)) : Ci l yX8_two wsX8_two RM_X8_two g [.ref (q1 100), .int x1, .int x2] (wX8 g q1 S1) (wX8 g q1 F1) r := by
  intro sz
  refine Met.ofC (cc := cX8_two) (maxL := 13) (ret := (some .int)) (by decide) rfl (Nat.le_of_ble_eq_true rfl) ?_
  intro p e s m below meth c hC hr hlk hsz A hA9 hA hP hD hS ls hl
  subst hsz
  have hC : Cx p s m ([.ref (q1 100), .int x1, .int x2] : List Value).toArray c RX8 cX8_two 13 wsX8_two g := hC
  have hx := hC.1.1
  have hb := hC.1.2.1
  have hml := hC.1.2.2.1
  have hown := hC.1.2.2.2.1
  have hts := hC.1.2.2.2.2
  have hl : lv_has ls 13 [(0, .ref (q1 100)), (1, .int x1), (2, .int x2)] := hl
  show W p l e RM_X8_two s m ([.ref (q1 100), .int x1, .int x2] : List Value).toArray below meth c s.heap [] 0 0 (Qi below g [.ref (q1 100), .int x1, .int x2] (wX8 g q1 S1) (wX8 g q1 F1) r s) (F0 m 0 ls [])
  unfold f_X8_two at h
  refine lv_iload_n hx hb dX8_two_0 rfl (lv_at hl 2 rfl) ?_
  refine lv_i2l hx hb dX8_two_1 rfl ?_
  refine lv_lconst (v := (0 : Int64)) hx hb dX8_two_2 (by decide) ?_
  refine lv_ldc2 (v := (2 : Int64)) hx hb hown (hts _ (List.mem_of_getElem? (i := 1) rfl)) dX8_two_3 ?_
  obtain ⟨v101, hc116, h⟩ := fx_b1_s h
  refine k_callSi0 (n := 3) (As := [.long (Int32.toInt64 x2), .long (0 : Int64), .long (2 : Int64)]) (rest := []) (wc := ([] : va_W)) (bytes := cX8_in) (maxL := 6) (ret := (some .boolean)) hC hl.1 (c_X8_in l g N (Int32.toInt64 x2) (0 : Int64) (2 : Int64) v101 hc116) rfl gX8_two_X8_in (by decide +kernel) ⟨Nat.le_of_ble_eq_true rfl, Nat.le_of_ble_eq_true rfl⟩ rfl rfl rfl (Nat.le_of_ble_eq_true rfl) ⟨Nat.le_of_ble_eq_true rfl, Nat.le_of_ble_eq_true rfl⟩ dX8_two_6 hP hD hS hA [] rfl (by decide +kernel) (fun H locs hP hD hS => ?_)
  refine k_if_eq (tgt := 19) hC dX8_two_9 (by decide) h (fun h => ?_) (fun h => ?_)
  · refine lv_bipush (v := (-2 : Int32)) hx hb dX8_two_19 (by decide) ?_
    obtain ⟨rfl, rfl⟩ := fx_i2 h
    exact Ci.ret hC hr hlk hA9 hP hD hS dX8_two_21
  · refine lv_iload_n hx hb dX8_two_12 rfl (lv_at hl 1 rfl) ?_
    obtain ⟨v102, hc115, h⟩ := fx_b1_s h
    refine k_callSi0 (n := 1) (As := [.int x1]) (rest := []) (wc := ([] : va_W)) (bytes := cX8_isLoaves) (maxL := 1) (ret := (some .boolean)) hC hl.1 (c_X8_isLoaves l g N x1 v102 hc115) rfl gX8_two_X8_isLoaves (by decide +kernel) ⟨Nat.le_of_ble_eq_true rfl, Nat.le_of_ble_eq_true rfl⟩ rfl rfl rfl (Nat.le_of_ble_eq_true rfl) ⟨Nat.le_of_ble_eq_true rfl, Nat.le_of_ble_eq_true rfl⟩ dX8_two_13 hP hD hS hA [] rfl (by decide +kernel) (fun H locs hP hD hS => ?_)
    refine k_if_ne (tgt := 22) hC dX8_two_16 (by decide) h (fun h => ?_) (fun h => ?_)
    · refine lv_aload_n hx hb dX8_two_22 rfl (lv_at hl 0 rfl) ?_
      refine lv_iload_n hx hb dX8_two_23 rfl (lv_at hl 1 rfl) ?_
      obtain ⟨v103, S104, hc114, h⟩ := fx_b2_s h
      refine k_callVi (C := RX8) (ci := 8) (qr := 0) (n := 1) (As := [.int x1]) (rest := []) (wc := (wX8 g q1 S1)) (w1 := (wX8 g q1 S104)) (ws2 := (wX8 g q1 S104)) (bytes := cX8_layLoaves) (maxL := 6) (ret := (some .boolean)) hC hl.1 (c_X8_layLoaves l g N q1 S1 x1 v103 S104 hc114) rfl gX8_two_X8_layLoaves (by decide +kernel) rfl rfl ⟨Nat.le_of_ble_eq_true rfl, Nat.le_of_ble_eq_true rfl⟩ rfl rfl rfl (Nat.le_of_ble_eq_true rfl) ⟨Nat.le_of_ble_eq_true rfl, Nat.le_of_ble_eq_true rfl⟩ dX8_two_24 hP hD hS hA [0, 1, 2, 3, 4, 5, 6, 7, 8, 9, 10, 11, 12, 13, 14, 15, 16, 17, 18, 19, 20, 21, 22, 23] rfl (by decide +kernel) [q1 100, q1 6, q1 8, q1 9, q1 10, q1 11, q1 12, q1 13, q1 14, q1 15, q1 16, q1 18, q1 20, q1 21, q1 23, q1 27, q1 30, q1 32, q1 33, q1 34, q1 39, q1 41, q1 42, q1 43] rfl rfl rfl [] ([] : va_W) rfl rfl (n2 := 24) rfl (by decide +kernel) (fun H locs hP hD hS => ?_)
      refine k_if_ne (tgt := 32) hC dX8_two_27 (by decide) h (fun h => ?_) (fun h => ?_)
      · refine lv_aload_n hx hb dX8_two_32 rfl (lv_at hl 0 rfl) ?_
        refine k_get (ci := 8) (k := 31) (q0 := 0) (v := .int (S104.1 31)) (C := RX8) (T := TX8) (N := 46) hC uX8_two_X8 hP rfl rfl (by decide) (List.mem_of_getElem? (i := 2) rfl) rfl dX8_two_33 ?_
        refine lv_iconst (v := (4 : Int32)) hx hb dX8_two_36 (by decide) ?_
        refine k_icmp_le (tgt := 43) hC dX8_two_37 (by decide) h (fun h => ?_) (fun h => ?_)
        · refine lv_aload_n hx hb dX8_two_43 rfl (lv_at hl 0 rfl) ?_
          refine k_get (ci := 8) (k := 0) (q0 := 0) (v := .int (S104.1 0)) (C := RX8) (T := TX8) (N := 46) hC uX8_two_X8 hP rfl rfl (by decide) (List.mem_of_getElem? (i := 3) rfl) rfl dX8_two_44 ?_
          refine lv_iconst (v := (1 : Int32)) hx hb dX8_two_47 (by decide) ?_
          refine k_icmp_ne (tgt := 54) hC dX8_two_48 (by decide) h (fun h => ?_) (fun h => ?_)
          · refine lv_aload_n hx hb dX8_two_54 rfl (lv_at hl 0 rfl) ?_
            refine lv_aload_n hx hb dX8_two_55 rfl (lv_at hl 0 rfl) ?_
            refine k_get (ci := 8) (k := 2) (q0 := 0) (v := .int (S104.1 2)) (C := RX8) (T := TX8) (N := 46) hC uX8_two_X8 hP rfl rfl (by decide) (List.mem_of_getElem? (i := 4) rfl) rfl dX8_two_56 ?_
            obtain ⟨S105, hc113, h⟩ := fx_b1_s h
            refine k_callVv (C := RX8) (ci := 8) (qr := 0) (n := 1) (As := [.int (S104.1 2)]) (rest := []) (wc := (wX8 g q1 S104)) (w1 := (wX8 g q1 S105)) (ws2 := (wX8 g q1 S105)) (bytes := cX8_layRipe) (maxL := 4) (ret := none) hC hl.1 (c_X8_layRipe l g N q1 S104 (S104.1 2) S105 hc113) rfl gX8_two_X8_layRipe (by decide +kernel) rfl rfl ⟨Nat.le_of_ble_eq_true rfl, Nat.le_of_ble_eq_true rfl⟩ rfl rfl rfl (Nat.le_of_ble_eq_true rfl) ⟨Nat.le_of_ble_eq_true rfl, Nat.le_of_ble_eq_true rfl⟩ dX8_two_59 hP hD hS hA [0, 1, 2, 3, 4, 5, 6, 7, 8, 9, 10, 11, 12, 13, 14, 15, 16, 17, 18, 19, 20, 21, 22, 23] rfl (by decide +kernel) [q1 100, q1 6, q1 8, q1 9, q1 10, q1 11, q1 12, q1 13, q1 14, q1 15, q1 16, q1 18, q1 20, q1 21, q1 23, q1 27, q1 30, q1 32, q1 33, q1 34, q1 39, q1 41, q1 42, q1 43] rfl rfl rfl [] ([] : va_W) rfl rfl (n2 := 24) rfl (by decide +kernel) (fun H locs hP hD hS => ?_)
            refine lv_iconst (v := (1 : Int32)) hx hb dX8_two_62 (by decide) ?_
            refine lv_aload_n hx hb dX8_two_63 rfl (lv_at hl 0 rfl) ?_
            refine k_get (ci := 8) (k := 31) (q0 := 0) (v := .int (S105.1 31)) (C := RX8) (T := TX8) (N := 46) hC uX8_two_X8 hP rfl rfl (by decide) (List.mem_of_getElem? (i := 2) rfl) rfl dX8_two_64 ?_
            refine lv_ishl hx hb dX8_two_67 ?_
            refine k_topi h (fun x106 h => ?_)
            refine lv_istore_n (lv' := [(3, .int x106), (0, .ref (q1 100)), (1, .int x1), (2, .int x2)]) hx hb dX8_two_68 rfl hl (by decide) rfl (fun ls hl => ?_)
            refine lv_iconst (v := (0 : Int32)) hx hb dX8_two_69 (by decide) ?_
            refine lv_istore (lv' := [(4, .int (0 : Int32)), (3, .int x106), (0, .ref (q1 100)), (1, .int x1), (2, .int x2)]) hx hb dX8_two_70 hl (by decide) rfl (fun ls hl => ?_)
            obtain ⟨S107, ho108, h⟩ := fx_b1_s h
            refine lw_X8_two_72 hC hA N q1 x2 x106 N (0 : Int32) S105  S107 ho108 _ _ _ hP hD hS (lv_sub hl [2, 4, 1, 0] rfl) ?_
            · intro y0 he H locs ls hP hD hS hl
              obtain rfl := he
              refine lv_bipush (v := (-6 : Int32)) hx hb dX8_two_101 (by decide) ?_
              refine lv_istore (lv' := [(4, .int (-6 : Int32)), (0, .ref (q1 100)), (2, .int x2), (3, .int x106)]) hx hb dX8_two_103 hl (by decide) rfl (fun ls hl => ?_)
              refine lv_iconst (v := (0 : Int32)) hx hb dX8_two_105 (by decide) ?_
              refine lv_istore (lv' := [(5, .int (0 : Int32)), (4, .int (-6 : Int32)), (0, .ref (q1 100)), (2, .int x2), (3, .int x106)]) hx hb dX8_two_106 hl (by decide) rfl (fun ls hl => ?_)
              refine lv_iconst (v := (0 : Int32)) hx hb dX8_two_108 (by decide) ?_
              refine lv_istore (lv' := [(6, .int (0 : Int32)), (5, .int (0 : Int32)), (4, .int (-6 : Int32)), (0, .ref (q1 100)), (2, .int x2), (3, .int x106)]) hx hb dX8_two_109 hl (by decide) rfl (fun ls hl => ?_)
              refine lv_iconst (v := (0 : Int32)) hx hb dX8_two_111 (by decide) ?_
              refine lv_istore (lv' := [(7, .int (0 : Int32)), (6, .int (0 : Int32)), (5, .int (0 : Int32)), (4, .int (-6 : Int32)), (0, .ref (q1 100)), (2, .int x2), (3, .int x106)]) hx hb dX8_two_112 hl (by decide) rfl (fun ls hl => ?_)
              obtain ⟨x109, x110, x111, ho112, h⟩ := fx_b3_s h
              refine lw_X8_two_114 hC hA N q1 x2 x106 S107 N (-6 : Int32) (0 : Int32) (0 : Int32) (0 : Int32)  (x109, x110, x111) ho112 _ _ _ hP hD hS (lv_sub hl [4, 5, 6, 3, 2, 1, 0] rfl) ?_
              · intro y0 y1 y2 he H locs ls hP hD hS hl
                obtain ⟨rfl, rfl, rfl⟩ := fx_j3 he
                refine lv_iload_n hx hb dX8_two_275 rfl (lv_at hl 0 rfl) ?_
                refine k_if_ne (tgt := 284) hC dX8_two_276 (by decide) h (fun h => ?_) (fun h => ?_)
                · refine lv_iload_n hx hb dX8_two_284 rfl (lv_at hl 0 rfl) ?_
                  refine lv_iconst (v := (1 : Int32)) hx hb dX8_two_285 (by decide) ?_
                  refine k_icmp_ne (tgt := 294) hC dX8_two_286 (by decide) h (fun h => ?_) (fun h => ?_)
                  · refine lv_iload hx hb dX8_two_294 (lv_at hl 3 rfl) ?_
                    obtain ⟨rfl, rfl⟩ := fx_i2 h
                    exact Ci.ret hC hr hlk hA9 hP hD hS dX8_two_296
                  · refine lv_iload hx hb dX8_two_289 (lv_at hl 2 rfl) ?_
                    refine lv_goto (tgt := 296) hx hb dX8_two_291 (by decide) ?_
                    obtain ⟨rfl, rfl⟩ := fx_i2 h
                    exact Ci.ret hC hr hlk hA9 hP hD hS dX8_two_296
                · refine lv_iload hx hb dX8_two_279 (lv_at hl 1 rfl) ?_
                  refine lv_goto (tgt := 296) hx hb dX8_two_281 (by decide) ?_
                  obtain ⟨rfl, rfl⟩ := fx_i2 h
                  exact Ci.ret hC hr hlk hA9 hP hD hS dX8_two_296
          · refine lv_bipush (v := (-3 : Int32)) hx hb dX8_two_51 (by decide) ?_
            obtain ⟨rfl, rfl⟩ := fx_i2 h
            exact Ci.ret hC hr hlk hA9 hP hD hS dX8_two_53
        · refine lv_bipush (v := (-4 : Int32)) hx hb dX8_two_40 (by decide) ?_
          obtain ⟨rfl, rfl⟩ := fx_i2 h
          exact Ci.ret hC hr hlk hA9 hP hD hS dX8_two_42
      · refine lv_iconst (v := (-1 : Int32)) hx hb dX8_two_30 (by decide) ?_
        obtain ⟨rfl, rfl⟩ := fx_i2 h
        exact Ci.ret hC hr hlk hA9 hP hD hS dX8_two_31
    · refine lv_bipush (v := (-2 : Int32)) hx hb dX8_two_19 (by decide) ?_
      obtain ⟨rfl, rfl⟩ := fx_i2 h
      exact Ci.ret hC hr hlk hA9 hP hD hS dX8_two_21
theorem uX8_warm_X8 : ∀ w ∈ u_ws RX8 TX8 46, w ∈ wsX8_warm := fun w h => List.mem_cons_of_mem _ (List.mem_append_right _ h)
abbrev RM_X8_warm : Room := { frames := 4, cells := 0, slots := 0, locals := 91 }
def bd_X8_warm_22 (N : Nat) (x2 : Int32) (S1 : St) (rec : (Int32 × St) → Option (Nat × Int32 × St)) : Option (Nat × Int32 × St) :=
  (if (100 : Int32) ≤ x2 then (
    some (1, (0 : Int32), S1)) else (
    fx_b1 (f_X8_layRipe N S1 x2) (fun S101 =>
      fx_b1 (f_X8_goOrders N S101 (((1 : Int32) <<< ((S101.1 31) &&& 31)) - (1 : Int32))) (fun S102 =>
      (if (S102.1 36) ≤ 0 then (
      fx_lt (x2 + (1 : Int32)) (fun x103 =>
        rec (x103, S102))) else (
      some (0, x2, S102)))))))
def lf_X8_warm_22 (N : Nat) : (Int32 × St) → ((Int32 × St) → Option (Nat × Int32 × St)) → Option (Nat × Int32 × St) := fun x rec => bd_X8_warm_22 N x.1 x.2 rec
set_option maxRecDepth 100000 in
set_option maxHeartbeats 4000000 in
theorem lw_X8_warm_22 {p : Program} {l : Launch} {e : Env} {s : State} {m : MethodId} {args : Array Value} {below : List Frame} {meth : Method} {c : Code} {Q : State → Prop} {A : Nat → Prop} {H0 : Heap} {g : GG} (hC : Cx p s m args c RX8 cX8_warm 3 wsX8_warm g) (hA : ∀ q : Nat, H0.size ≤ q → A q) (N : Nat) (q1 : Nat → Nat) : ∀ (n : Nat) (x2 : Int32) (S1 : St) (o : Nat × Int32 × St), fx_it (lf_X8_warm_22 N) n (x2, S1) = some o → ∀ (H : Heap) (locs : List Loc) (ls : Array Slot), va_P g.1 vwCl (wX8 g q1 S1) H → va_D A (wX8 g q1 S1) → va_S A H0 H locs → lv_has ls 3 [(0, .ref (q1 100)), (2, .int x2)] → (∀ (z0 : Int32) (Z0 : St), o = (0, z0, Z0) → ∀ (H : Heap) (locs : List Loc) (ls : Array Slot), va_P g.1 vwCl (wX8 g q1 Z0) H → va_D A (wX8 g q1 Z0) → va_S A H0 H locs → lv_has ls 3 [(2, .int z0)] → W p l e RM_X8_warm s m args below meth c H locs 0 0 Q (F0 m 52 ls [])) → (∀ (z0 : Int32) (Z0 : St), o = (1, z0, Z0) → ∀ (H : Heap) (locs : List Loc) (ls : Array Slot), va_P g.1 vwCl (wX8 g q1 Z0) H → va_D A (wX8 g q1 Z0) → va_S A H0 H locs → lv_has ls 3 [] → W p l e RM_X8_warm s m args below meth c H locs 0 0 Q (F0 m 60 ls [])) → W p l e RM_X8_warm s m args below meth c H locs 0 0 Q (F0 m 22 ls []) := by
  have hx := hC.1.1
  have hb := hC.1.2.1
  have hml := hC.1.2.2.1
  have hown := hC.1.2.2.2.1
  have hts := hC.1.2.2.2.2
  intro n
  induction n with
  | zero => intro x2 S1 o h; cases h
  | succ n ih =>
    intro x2 S1 o h H locs ls hP hD hS hl k0 k1
    have h : bd_X8_warm_22 N x2 S1 (fx_it (lf_X8_warm_22 N) n) = some o := h
    unfold bd_X8_warm_22 at h
    refine lv_iload_n hx hb dX8_warm_22 rfl (lv_at hl 1 rfl) ?_
    refine lv_bipush (v := (100 : Int32)) hx hb dX8_warm_23 (by decide) ?_
    refine k_icmp_ge (tgt := 60) hC dX8_warm_25 (by decide) h (fun h => ?_) (fun h => ?_)
    · exact k1 (0 : Int32) S1 (Option.some.inj h).symm _ _ _ hP hD hS (lv_sub hl [] rfl)
    · refine lv_aload_n hx hb dX8_warm_28 rfl (lv_at hl 0 rfl) ?_
      refine lv_iload_n hx hb dX8_warm_29 rfl (lv_at hl 1 rfl) ?_
      obtain ⟨S101, hc105, h⟩ := fx_b1_s h
      refine k_callVv (C := RX8) (ci := 8) (qr := 0) (n := 1) (As := [.int x2]) (rest := []) (wc := (wX8 g q1 S1)) (w1 := (wX8 g q1 S101)) (ws2 := (wX8 g q1 S101)) (bytes := cX8_layRipe) (maxL := 4) (ret := none) hC hl.1 (c_X8_layRipe l g N q1 S1 x2 S101 hc105) rfl gX8_warm_X8_layRipe (by decide +kernel) rfl rfl ⟨Nat.le_of_ble_eq_true rfl, Nat.le_of_ble_eq_true rfl⟩ rfl rfl rfl (Nat.le_of_ble_eq_true rfl) ⟨Nat.le_of_ble_eq_true rfl, Nat.le_of_ble_eq_true rfl⟩ dX8_warm_30 hP hD hS hA [0, 1, 2, 3, 4, 5, 6, 7, 8, 9, 10, 11, 12, 13, 14, 15, 16, 17, 18, 19, 20, 21, 22, 23] rfl (by decide +kernel) [q1 100, q1 6, q1 8, q1 9, q1 10, q1 11, q1 12, q1 13, q1 14, q1 15, q1 16, q1 18, q1 20, q1 21, q1 23, q1 27, q1 30, q1 32, q1 33, q1 34, q1 39, q1 41, q1 42, q1 43] rfl rfl rfl [] ([] : va_W) rfl rfl (n2 := 24) rfl (by decide +kernel) (fun H locs hP hD hS => ?_)
      refine lv_aload_n hx hb dX8_warm_33 rfl (lv_at hl 0 rfl) ?_
      refine lv_iconst (v := (1 : Int32)) hx hb dX8_warm_34 (by decide) ?_
      refine lv_aload_n hx hb dX8_warm_35 rfl (lv_at hl 0 rfl) ?_
      refine k_get (ci := 8) (k := 31) (q0 := 0) (v := .int (S101.1 31)) (C := RX8) (T := TX8) (N := 46) hC uX8_warm_X8 hP rfl rfl (by decide) (List.mem_of_getElem? (i := 1) rfl) rfl dX8_warm_36 ?_
      refine lv_ishl hx hb dX8_warm_39 ?_
      refine lv_iconst (v := (1 : Int32)) hx hb dX8_warm_40 (by decide) ?_
      refine lv_isub hx hb dX8_warm_41 ?_
      obtain ⟨S102, hc104, h⟩ := fx_b1_s h
      refine k_callVv (C := RX8) (ci := 8) (qr := 0) (n := 1) (As := [.int (((1 : Int32) <<< ((S101.1 31) &&& 31)) - (1 : Int32))]) (rest := []) (wc := (wX8 g q1 S101)) (w1 := (wX8 g q1 S102)) (ws2 := (wX8 g q1 S102)) (bytes := cX8_goOrders) (maxL := 5) (ret := none) hC hl.1 (c_X8_goOrders l g N q1 S101 (((1 : Int32) <<< ((S101.1 31) &&& 31)) - (1 : Int32)) S102 hc104) rfl gX8_warm_X8_goOrders (by decide +kernel) rfl rfl ⟨Nat.le_of_ble_eq_true rfl, Nat.le_of_ble_eq_true rfl⟩ rfl rfl rfl (Nat.le_of_ble_eq_true rfl) ⟨Nat.le_of_ble_eq_true rfl, Nat.le_of_ble_eq_true rfl⟩ dX8_warm_42 hP hD hS hA [0, 1, 2, 3, 4, 5, 6, 7, 8, 9, 10, 11, 12, 13, 14, 15, 16, 17, 18, 19, 20, 21, 22, 23] rfl (by decide +kernel) [q1 100, q1 6, q1 8, q1 9, q1 10, q1 11, q1 12, q1 13, q1 14, q1 15, q1 16, q1 18, q1 20, q1 21, q1 23, q1 27, q1 30, q1 32, q1 33, q1 34, q1 39, q1 41, q1 42, q1 43] rfl rfl rfl [] ([] : va_W) rfl rfl (n2 := 24) rfl (by decide +kernel) (fun H locs hP hD hS => ?_)
      refine lv_aload_n hx hb dX8_warm_45 rfl (lv_at hl 0 rfl) ?_
      refine k_get (ci := 8) (k := 36) (q0 := 0) (v := .int (S102.1 36)) (C := RX8) (T := TX8) (N := 46) hC uX8_warm_X8 hP rfl rfl (by decide) (List.mem_of_getElem? (i := 2) rfl) rfl dX8_warm_46 ?_
      refine k_if_le (tgt := 54) hC dX8_warm_49 (by decide) h (fun h => ?_) (fun h => ?_)
      · refine k_iinc (v := (1 : Int32)) (lv' := fun X => [(2, .int X), (0, .ref (q1 100))]) hC dX8_warm_54 hl (k := 1) rfl (by decide) (by decide) (fun _ => rfl) h (fun x103 h ls hl => ?_)
        refine lv_goto (tgt := 22) hx hb dX8_warm_57 (by decide) ?_
        exact ih x103 S102 o h _ _ _ hP hD hS (lv_sub hl [1, 0] rfl) k0 k1
      · exact k0 x2 S102 (Option.some.inj h).symm _ _ _ hP hD hS (lv_sub hl [1] rfl)
def f_X8_warm (N : Nat) (S1 : St) (x1 : Int32) : Option (Int32 × St) :=
  fx_b1 (f_X8_isLoaves N x1) (fun v101 =>
  (if v101 = 0 then (
  some ((-2 : Int32), S1)) else (
  fx_b2 (f_X8_layLoaves N S1 x1) (fun v102 S103 =>
    (if v102 = 0 then (
    some ((-1 : Int32), S103)) else (
    fx_b3 (fx_it (lf_X8_warm_22 N) N ((0 : Int32), S103)) (fun t104 x105 S106 =>
      fx_t2 t104 (some (x105, S106)) (some ((-6 : Int32), S106)))))))))
set_option maxRecDepth 100000 in
set_option maxHeartbeats 4000000 in
theorem c_X8_warm (l : Launch) (g : GG) (N : Nat) (q1 : Nat → Nat) (S1 : St) (x1 : Int32) (r : Int32) (F1 : St) (h : f_X8_warm N S1 x1 = some (r, F1)) : Ci l yX8_warm wsX8_warm RM_X8_warm g [.ref (q1 100), .int x1] (wX8 g q1 S1) (wX8 g q1 F1) r := by
  intro sz
  refine Met.ofC (cc := cX8_warm) (maxL := 3) (ret := (some .int)) (by decide) rfl (Nat.le_of_ble_eq_true rfl) ?_
  intro p e s m below meth c hC hr hlk hsz A hA9 hA hP hD hS ls hl
  subst hsz
  have hC : Cx p s m ([.ref (q1 100), .int x1] : List Value).toArray c RX8 cX8_warm 3 wsX8_warm g := hC
  have hx := hC.1.1
  have hb := hC.1.2.1
  have hml := hC.1.2.2.1
  have hown := hC.1.2.2.2.1
  have hts := hC.1.2.2.2.2
  have hl : lv_has ls 3 [(0, .ref (q1 100)), (1, .int x1)] := hl
  show W p l e RM_X8_warm s m ([.ref (q1 100), .int x1] : List Value).toArray below meth c s.heap [] 0 0 (Qi below g [.ref (q1 100), .int x1] (wX8 g q1 S1) (wX8 g q1 F1) r s) (F0 m 0 ls [])
  unfold f_X8_warm at h
  refine lv_iload_n hx hb dX8_warm_0 rfl (lv_at hl 1 rfl) ?_
  obtain ⟨v101, hc109, h⟩ := fx_b1_s h
  refine k_callSi0 (n := 1) (As := [.int x1]) (rest := []) (wc := ([] : va_W)) (bytes := cX8_isLoaves) (maxL := 1) (ret := (some .boolean)) hC hl.1 (c_X8_isLoaves l g N x1 v101 hc109) rfl gX8_warm_X8_isLoaves (by decide +kernel) ⟨Nat.le_of_ble_eq_true rfl, Nat.le_of_ble_eq_true rfl⟩ rfl rfl rfl (Nat.le_of_ble_eq_true rfl) ⟨Nat.le_of_ble_eq_true rfl, Nat.le_of_ble_eq_true rfl⟩ dX8_warm_1 hP hD hS hA [] rfl (by decide +kernel) (fun H locs hP hD hS => ?_)
  refine k_if_ne (tgt := 10) hC dX8_warm_4 (by decide) h (fun h => ?_) (fun h => ?_)
  · refine lv_aload_n hx hb dX8_warm_10 rfl (lv_at hl 0 rfl) ?_
    refine lv_iload_n hx hb dX8_warm_11 rfl (lv_at hl 1 rfl) ?_
    obtain ⟨v102, S103, hc108, h⟩ := fx_b2_s h
    refine k_callVi (C := RX8) (ci := 8) (qr := 0) (n := 1) (As := [.int x1]) (rest := []) (wc := (wX8 g q1 S1)) (w1 := (wX8 g q1 S103)) (ws2 := (wX8 g q1 S103)) (bytes := cX8_layLoaves) (maxL := 6) (ret := (some .boolean)) hC hl.1 (c_X8_layLoaves l g N q1 S1 x1 v102 S103 hc108) rfl gX8_warm_X8_layLoaves (by decide +kernel) rfl rfl ⟨Nat.le_of_ble_eq_true rfl, Nat.le_of_ble_eq_true rfl⟩ rfl rfl rfl (Nat.le_of_ble_eq_true rfl) ⟨Nat.le_of_ble_eq_true rfl, Nat.le_of_ble_eq_true rfl⟩ dX8_warm_12 hP hD hS hA [0, 1, 2, 3, 4, 5, 6, 7, 8, 9, 10, 11, 12, 13, 14, 15, 16, 17, 18, 19, 20, 21, 22, 23] rfl (by decide +kernel) [q1 100, q1 6, q1 8, q1 9, q1 10, q1 11, q1 12, q1 13, q1 14, q1 15, q1 16, q1 18, q1 20, q1 21, q1 23, q1 27, q1 30, q1 32, q1 33, q1 34, q1 39, q1 41, q1 42, q1 43] rfl rfl rfl [] ([] : va_W) rfl rfl (n2 := 24) rfl (by decide +kernel) (fun H locs hP hD hS => ?_)
    refine k_if_ne (tgt := 20) hC dX8_warm_15 (by decide) h (fun h => ?_) (fun h => ?_)
    · refine lv_iconst (v := (0 : Int32)) hx hb dX8_warm_20 (by decide) ?_
      refine lv_istore_n (lv' := [(2, .int (0 : Int32)), (0, .ref (q1 100)), (1, .int x1)]) hx hb dX8_warm_21 rfl hl (by decide) rfl (fun ls hl => ?_)
      obtain ⟨t104, x105, S106, ho107, h⟩ := fx_b3_s h
      refine lw_X8_warm_22 hC hA N q1 N (0 : Int32) S103  (t104, x105, S106) ho107 _ _ _ hP hD hS (lv_sub hl [1, 0] rfl) ?_ ?_
      · intro y0 y1 he H locs ls hP hD hS hl
        obtain ⟨rfl, rfl, rfl⟩ := fx_j3 he
        have h := fx_tg2_0 h
        refine lv_iload_n hx hb dX8_warm_52 rfl (lv_at hl 0 rfl) ?_
        obtain ⟨rfl, rfl⟩ := fx_i2 h
        exact Ci.ret hC hr hlk hA9 hP hD hS dX8_warm_53
      · intro y0 y1 he H locs ls hP hD hS hl
        obtain ⟨rfl, rfl, rfl⟩ := fx_j3 he
        have h := fx_tg2_1 h
        refine lv_bipush (v := (-6 : Int32)) hx hb dX8_warm_60 (by decide) ?_
        obtain ⟨rfl, rfl⟩ := fx_i2 h
        exact Ci.ret hC hr hlk hA9 hP hD hS dX8_warm_62
    · refine lv_iconst (v := (-1 : Int32)) hx hb dX8_warm_18 (by decide) ?_
      obtain ⟨rfl, rfl⟩ := fx_i2 h
      exact Ci.ret hC hr hlk hA9 hP hD hS dX8_warm_19
  · refine lv_bipush (v := (-2 : Int32)) hx hb dX8_warm_7 (by decide) ?_
    obtain ⟨rfl, rfl⟩ := fx_i2 h
    exact Ci.ret hC hr hlk hA9 hP hD hS dX8_warm_9
