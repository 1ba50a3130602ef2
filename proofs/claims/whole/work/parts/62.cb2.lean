/-! laid by wip/whole/mkctor.py: what the constructors make -/
def z_X1 : St := (fun k => 0, fun _ _ => 0)
theorem df_X1 : ∀ j, j < 14 → defaultValue (tyX1 j) = vp_V [.int 0, .null, .null, .null, .null, .int 0, .int 0, .int 0, .null, .null, .null, .int 0, .int 0, .int 0] j := by
  intro j hj
  match j, hj with
  | 0, _ => rfl
  | 1, _ => rfl
  | 2, _ => rfl
  | 3, _ => rfl
  | 4, _ => rfl
  | 5, _ => rfl
  | 6, _ => rfl
  | 7, _ => rfl
  | 8, _ => rfl
  | 9, _ => rfl
  | 10, _ => rfl
  | 11, _ => rfl
  | 12, _ => rfl
  | 13, _ => rfl
  | j + 14, hj => exact absurd hj (by omega)
abbrev RM_X1_init : Room := { frames := 1, cells := 7, slots := 180, locals := 12 }
theorem uX1_init_X1 : ∀ w ∈ u_ws RX1 TX1 14, w ∈ wsX1_init := fun w h => List.mem_cons_of_mem _ (List.mem_append_right _ h)
set_option maxRecDepth 100000 in
set_option maxHeartbeats 1000000 in
theorem c_X1_init (l : Launch) (g : GG) (h0 : Nat) : CvN (U := Nat → Nat) E0 l yX1_init wsX1_init RM_X1_init g [.ref h0] [(h0, .inr (1, [.int 0, .null, .null, .null, .null, .int 0, .int 0, .int 0, .null, .null, .null, .int 0, .int 0, .int 0]))] 7 180 (fun q => q 100 = h0) (fun q => wX1 g q z_X1) := by
  intro sz
  refine Met.ofCN (cc := cX1_init) (maxL := 1) (ret := none) (by decide) rfl (Nat.le_of_ble_eq_true rfl) ?_
  intro p e s m below meth c hC hr hlk hin hE hsz A hA9 hA hP hD hS ls hl
  subst hsz
  have hC : Cx p s m ([.ref h0] : List Value).toArray c RX1 cX1_init 1 wsX1_init g := hC
  have hx := hC.1.1
  have hb := hC.1.2.1
  have hml := hC.1.2.2.1
  have hown := hC.1.2.2.2.1
  have hts := hC.1.2.2.2.2
  have hl : lv_has ls 1 [(0, .ref h0)] := hl
  refine lv_aload_n hx hb dX1_init_0 rfl (lv_at hl 0 rfl) ?_
  refine W.objInit hx hb hown (hts (.methodLink RX1 3 objectInit) (List.mem_of_getElem? (i := 1) rfl)) (hts (.instanceMethod objectInit) (List.mem_of_getElem? (i := 2) rfl)) (hts (.code objectInit ⟨#[0xb1]⟩ 1 none) (List.mem_of_getElem? (i := 3) rfl)) rfl (by rw [hml]; exact hl.1) rfl dX1_init_1 (Nat.le_of_ble_eq_true rfl) (Nat.le_of_ble_eq_true rfl) ?_
  refine W.eq (g2 := F0 m 4 ls []) rfl ?_
  refine lv_aload_n hx hb dX1_init_4 rfl (lv_at hl 0 rfl) ?_
  refine lv_bipush (v := (6 : Int32)) hx hb dX1_init_5 (by decide) ?_
  refine k_newi (n' := 6) hC (List.mem_of_getElem? (i := 4) rfl) hP hD hS hA (by decide) rfl (by decide) (Nat.le_of_ble_eq_true rfl) (Nat.le_of_ble_eq_true rfl) dX1_init_7 (fun a0 H hP hD hS => ?_)
  have hP : va_P g.1 vwCl [(h0, .inr (1, [.int 0, .null, .null, .null, .null, .int 0, .int 0, .int 0, .null, .null, .null, .int 0, .int 0, .int 0])), (a0, .inl (g.2.1, 6, .inl (fun _ => 0)))] H := hP
  have hD : va_D A [(h0, .inr (1, [.int 0, .null, .null, .null, .null, .int 0, .int 0, .int 0, .null, .null, .null, .int 0, .int 0, .int 0])), (a0, .inl (g.2.1, 6, .inl (fun _ => 0)))] := hD
  refine va_putF (D := g.1) (cl := vwCl) (fs := [.int 0, .null, .null, .null, .null, .int 0, .int 0, .int 0, .null, .null, .null, .int 0, .int 0, .int 0]) (ci := 1) (v := .ref a0) (ty := .array .int) (C := RX1) (T := TX1) (N := 14) hx hb hts uX1_init_X1 tyX1 tyX1_ok nmX1 hown hC.2.1 hP hD hS 0 rfl rfl 1 (by decide) (hts _ (List.mem_of_getElem? (i := 5) rfl)) (fun _ h9 => h9) rfl hin rfl (tyX1_ok 1 (by decide)) rfl rfl (Nat.le_of_ble_eq_true rfl) dX1_init_9 (fun H locs hP hD hS => ?_)
  have hP : va_P g.1 vwCl [(h0, .inr (1, [.int 0, .ref a0, .null, .null, .null, .int 0, .int 0, .int 0, .null, .null, .null, .int 0, .int 0, .int 0])), (a0, .inl (g.2.1, 6, .inl (fun _ => 0)))] H := hP
  have hD : va_D A [(h0, .inr (1, [.int 0, .ref a0, .null, .null, .null, .int 0, .int 0, .int 0, .null, .null, .null, .int 0, .int 0, .int 0])), (a0, .inl (g.2.1, 6, .inl (fun _ => 0)))] := hD
  refine lv_aload_n hx hb dX1_init_12 rfl (lv_at hl 0 rfl) ?_
  refine lv_bipush (v := (36 : Int32)) hx hb dX1_init_13 (by decide) ?_
  refine k_newi (n' := 36) hC (List.mem_of_getElem? (i := 4) rfl) hP hD hS hA (by decide) rfl (by decide) (Nat.le_of_ble_eq_true rfl) (Nat.le_of_ble_eq_true rfl) dX1_init_15 (fun a1 H hP hD hS => ?_)
  have hP : va_P g.1 vwCl [(h0, .inr (1, [.int 0, .ref a0, .null, .null, .null, .int 0, .int 0, .int 0, .null, .null, .null, .int 0, .int 0, .int 0])), (a0, .inl (g.2.1, 6, .inl (fun _ => 0))), (a1, .inl (g.2.1, 36, .inl (fun _ => 0)))] H := hP
  have hD : va_D A [(h0, .inr (1, [.int 0, .ref a0, .null, .null, .null, .int 0, .int 0, .int 0, .null, .null, .null, .int 0, .int 0, .int 0])), (a0, .inl (g.2.1, 6, .inl (fun _ => 0))), (a1, .inl (g.2.1, 36, .inl (fun _ => 0)))] := hD
  refine va_putF (D := g.1) (cl := vwCl) (fs := [.int 0, .ref a0, .null, .null, .null, .int 0, .int 0, .int 0, .null, .null, .null, .int 0, .int 0, .int 0]) (ci := 1) (v := .ref a1) (ty := .array .int) (C := RX1) (T := TX1) (N := 14) hx hb hts uX1_init_X1 tyX1 tyX1_ok nmX1 hown hC.2.1 hP hD hS 0 rfl rfl 2 (by decide) (hts _ (List.mem_of_getElem? (i := 6) rfl)) (fun _ h9 => h9) rfl hin rfl (tyX1_ok 2 (by decide)) rfl rfl (Nat.le_of_ble_eq_true rfl) dX1_init_17 (fun H locs hP hD hS => ?_)
  have hP : va_P g.1 vwCl [(h0, .inr (1, [.int 0, .ref a0, .ref a1, .null, .null, .int 0, .int 0, .int 0, .null, .null, .null, .int 0, .int 0, .int 0])), (a0, .inl (g.2.1, 6, .inl (fun _ => 0))), (a1, .inl (g.2.1, 36, .inl (fun _ => 0)))] H := hP
  have hD : va_D A [(h0, .inr (1, [.int 0, .ref a0, .ref a1, .null, .null, .int 0, .int 0, .int 0, .null, .null, .null, .int 0, .int 0, .int 0])), (a0, .inl (g.2.1, 6, .inl (fun _ => 0))), (a1, .inl (g.2.1, 36, .inl (fun _ => 0)))] := hD
  refine lv_aload_n hx hb dX1_init_20 rfl (lv_at hl 0 rfl) ?_
  refine lv_bipush (v := (36 : Int32)) hx hb dX1_init_21 (by decide) ?_
  refine k_newi (n' := 36) hC (List.mem_of_getElem? (i := 4) rfl) hP hD hS hA (by decide) rfl (by decide) (Nat.le_of_ble_eq_true rfl) (Nat.le_of_ble_eq_true rfl) dX1_init_23 (fun a2 H hP hD hS => ?_)
  have hP : va_P g.1 vwCl [(h0, .inr (1, [.int 0, .ref a0, .ref a1, .null, .null, .int 0, .int 0, .int 0, .null, .null, .null, .int 0, .int 0, .int 0])), (a0, .inl (g.2.1, 6, .inl (fun _ => 0))), (a1, .inl (g.2.1, 36, .inl (fun _ => 0))), (a2, .inl (g.2.1, 36, .inl (fun _ => 0)))] H := hP
  have hD : va_D A [(h0, .inr (1, [.int 0, .ref a0, .ref a1, .null, .null, .int 0, .int 0, .int 0, .null, .null, .null, .int 0, .int 0, .int 0])), (a0, .inl (g.2.1, 6, .inl (fun _ => 0))), (a1, .inl (g.2.1, 36, .inl (fun _ => 0))), (a2, .inl (g.2.1, 36, .inl (fun _ => 0)))] := hD
  refine va_putF (D := g.1) (cl := vwCl) (fs := [.int 0, .ref a0, .ref a1, .null, .null, .int 0, .int 0, .int 0, .null, .null, .null, .int 0, .int 0, .int 0]) (ci := 1) (v := .ref a2) (ty := .array .int) (C := RX1) (T := TX1) (N := 14) hx hb hts uX1_init_X1 tyX1 tyX1_ok nmX1 hown hC.2.1 hP hD hS 0 rfl rfl 3 (by decide) (hts _ (List.mem_of_getElem? (i := 7) rfl)) (fun _ h9 => h9) rfl hin rfl (tyX1_ok 3 (by decide)) rfl rfl (Nat.le_of_ble_eq_true rfl) dX1_init_25 (fun H locs hP hD hS => ?_)
  have hP : va_P g.1 vwCl [(h0, .inr (1, [.int 0, .ref a0, .ref a1, .ref a2, .null, .int 0, .int 0, .int 0, .null, .null, .null, .int 0, .int 0, .int 0])), (a0, .inl (g.2.1, 6, .inl (fun _ => 0))), (a1, .inl (g.2.1, 36, .inl (fun _ => 0))), (a2, .inl (g.2.1, 36, .inl (fun _ => 0)))] H := hP
  have hD : va_D A [(h0, .inr (1, [.int 0, .ref a0, .ref a1, .ref a2, .null, .int 0, .int 0, .int 0, .null, .null, .null, .int 0, .int 0, .int 0])), (a0, .inl (g.2.1, 6, .inl (fun _ => 0))), (a1, .inl (g.2.1, 36, .inl (fun _ => 0))), (a2, .inl (g.2.1, 36, .inl (fun _ => 0)))] := hD
  refine lv_aload_n hx hb dX1_init_28 rfl (lv_at hl 0 rfl) ?_
  refine lv_bipush (v := (6 : Int32)) hx hb dX1_init_29 (by decide) ?_
  refine k_newi (n' := 6) hC (List.mem_of_getElem? (i := 4) rfl) hP hD hS hA (by decide) rfl (by decide) (Nat.le_of_ble_eq_true rfl) (Nat.le_of_ble_eq_true rfl) dX1_init_31 (fun a3 H hP hD hS => ?_)
  have hP : va_P g.1 vwCl [(h0, .inr (1, [.int 0, .ref a0, .ref a1, .ref a2, .null, .int 0, .int 0, .int 0, .null, .null, .null, .int 0, .int 0, .int 0])), (a0, .inl (g.2.1, 6, .inl (fun _ => 0))), (a1, .inl (g.2.1, 36, .inl (fun _ => 0))), (a2, .inl (g.2.1, 36, .inl (fun _ => 0))), (a3, .inl (g.2.1, 6, .inl (fun _ => 0)))] H := hP
  have hD : va_D A [(h0, .inr (1, [.int 0, .ref a0, .ref a1, .ref a2, .null, .int 0, .int 0, .int 0, .null, .null, .null, .int 0, .int 0, .int 0])), (a0, .inl (g.2.1, 6, .inl (fun _ => 0))), (a1, .inl (g.2.1, 36, .inl (fun _ => 0))), (a2, .inl (g.2.1, 36, .inl (fun _ => 0))), (a3, .inl (g.2.1, 6, .inl (fun _ => 0)))] := hD
  refine va_putF (D := g.1) (cl := vwCl) (fs := [.int 0, .ref a0, .ref a1, .ref a2, .null, .int 0, .int 0, .int 0, .null, .null, .null, .int 0, .int 0, .int 0]) (ci := 1) (v := .ref a3) (ty := .array .int) (C := RX1) (T := TX1) (N := 14) hx hb hts uX1_init_X1 tyX1 tyX1_ok nmX1 hown hC.2.1 hP hD hS 0 rfl rfl 4 (by decide) (hts _ (List.mem_of_getElem? (i := 8) rfl)) (fun _ h9 => h9) rfl hin rfl (tyX1_ok 4 (by decide)) rfl rfl (Nat.le_of_ble_eq_true rfl) dX1_init_33 (fun H locs hP hD hS => ?_)
  have hP : va_P g.1 vwCl [(h0, .inr (1, [.int 0, .ref a0, .ref a1, .ref a2, .ref a3, .int 0, .int 0, .int 0, .null, .null, .null, .int 0, .int 0, .int 0])), (a0, .inl (g.2.1, 6, .inl (fun _ => 0))), (a1, .inl (g.2.1, 36, .inl (fun _ => 0))), (a2, .inl (g.2.1, 36, .inl (fun _ => 0))), (a3, .inl (g.2.1, 6, .inl (fun _ => 0)))] H := hP
  have hD : va_D A [(h0, .inr (1, [.int 0, .ref a0, .ref a1, .ref a2, .ref a3, .int 0, .int 0, .int 0, .null, .null, .null, .int 0, .int 0, .int 0])), (a0, .inl (g.2.1, 6, .inl (fun _ => 0))), (a1, .inl (g.2.1, 36, .inl (fun _ => 0))), (a2, .inl (g.2.1, 36, .inl (fun _ => 0))), (a3, .inl (g.2.1, 6, .inl (fun _ => 0)))] := hD
  refine lv_aload_n hx hb dX1_init_36 rfl (lv_at hl 0 rfl) ?_
  refine lv_bipush (v := (64 : Int32)) hx hb dX1_init_37 (by decide) ?_
  refine k_newi (n' := 64) hC (List.mem_of_getElem? (i := 4) rfl) hP hD hS hA (by decide) rfl (by decide) (Nat.le_of_ble_eq_true rfl) (Nat.le_of_ble_eq_true rfl) dX1_init_39 (fun a4 H hP hD hS => ?_)
  have hP : va_P g.1 vwCl [(h0, .inr (1, [.int 0, .ref a0, .ref a1, .ref a2, .ref a3, .int 0, .int 0, .int 0, .null, .null, .null, .int 0, .int 0, .int 0])), (a0, .inl (g.2.1, 6, .inl (fun _ => 0))), (a1, .inl (g.2.1, 36, .inl (fun _ => 0))), (a2, .inl (g.2.1, 36, .inl (fun _ => 0))), (a3, .inl (g.2.1, 6, .inl (fun _ => 0))), (a4, .inl (g.2.1, 64, .inl (fun _ => 0)))] H := hP
  have hD : va_D A [(h0, .inr (1, [.int 0, .ref a0, .ref a1, .ref a2, .ref a3, .int 0, .int 0, .int 0, .null, .null, .null, .int 0, .int 0, .int 0])), (a0, .inl (g.2.1, 6, .inl (fun _ => 0))), (a1, .inl (g.2.1, 36, .inl (fun _ => 0))), (a2, .inl (g.2.1, 36, .inl (fun _ => 0))), (a3, .inl (g.2.1, 6, .inl (fun _ => 0))), (a4, .inl (g.2.1, 64, .inl (fun _ => 0)))] := hD
  refine va_putF (D := g.1) (cl := vwCl) (fs := [.int 0, .ref a0, .ref a1, .ref a2, .ref a3, .int 0, .int 0, .int 0, .null, .null, .null, .int 0, .int 0, .int 0]) (ci := 1) (v := .ref a4) (ty := .array .int) (C := RX1) (T := TX1) (N := 14) hx hb hts uX1_init_X1 tyX1 tyX1_ok nmX1 hown hC.2.1 hP hD hS 0 rfl rfl 8 (by decide) (hts _ (List.mem_of_getElem? (i := 9) rfl)) (fun _ h9 => h9) rfl hin rfl (tyX1_ok 8 (by decide)) rfl rfl (Nat.le_of_ble_eq_true rfl) dX1_init_41 (fun H locs hP hD hS => ?_)
  have hP : va_P g.1 vwCl [(h0, .inr (1, [.int 0, .ref a0, .ref a1, .ref a2, .ref a3, .int 0, .int 0, .int 0, .ref a4, .null, .null, .int 0, .int 0, .int 0])), (a0, .inl (g.2.1, 6, .inl (fun _ => 0))), (a1, .inl (g.2.1, 36, .inl (fun _ => 0))), (a2, .inl (g.2.1, 36, .inl (fun _ => 0))), (a3, .inl (g.2.1, 6, .inl (fun _ => 0))), (a4, .inl (g.2.1, 64, .inl (fun _ => 0)))] H := hP
  have hD : va_D A [(h0, .inr (1, [.int 0, .ref a0, .ref a1, .ref a2, .ref a3, .int 0, .int 0, .int 0, .ref a4, .null, .null, .int 0, .int 0, .int 0])), (a0, .inl (g.2.1, 6, .inl (fun _ => 0))), (a1, .inl (g.2.1, 36, .inl (fun _ => 0))), (a2, .inl (g.2.1, 36, .inl (fun _ => 0))), (a3, .inl (g.2.1, 6, .inl (fun _ => 0))), (a4, .inl (g.2.1, 64, .inl (fun _ => 0)))] := hD
  refine lv_aload_n hx hb dX1_init_44 rfl (lv_at hl 0 rfl) ?_
  refine lv_bipush (v := (16 : Int32)) hx hb dX1_init_45 (by decide) ?_
  refine k_newi (n' := 16) hC (List.mem_of_getElem? (i := 4) rfl) hP hD hS hA (by decide) rfl (by decide) (Nat.le_of_ble_eq_true rfl) (Nat.le_of_ble_eq_true rfl) dX1_init_47 (fun a5 H hP hD hS => ?_)
  have hP : va_P g.1 vwCl [(h0, .inr (1, [.int 0, .ref a0, .ref a1, .ref a2, .ref a3, .int 0, .int 0, .int 0, .ref a4, .null, .null, .int 0, .int 0, .int 0])), (a0, .inl (g.2.1, 6, .inl (fun _ => 0))), (a1, .inl (g.2.1, 36, .inl (fun _ => 0))), (a2, .inl (g.2.1, 36, .inl (fun _ => 0))), (a3, .inl (g.2.1, 6, .inl (fun _ => 0))), (a4, .inl (g.2.1, 64, .inl (fun _ => 0))), (a5, .inl (g.2.1, 16, .inl (fun _ => 0)))] H := hP
  have hD : va_D A [(h0, .inr (1, [.int 0, .ref a0, .ref a1, .ref a2, .ref a3, .int 0, .int 0, .int 0, .ref a4, .null, .null, .int 0, .int 0, .int 0])), (a0, .inl (g.2.1, 6, .inl (fun _ => 0))), (a1, .inl (g.2.1, 36, .inl (fun _ => 0))), (a2, .inl (g.2.1, 36, .inl (fun _ => 0))), (a3, .inl (g.2.1, 6, .inl (fun _ => 0))), (a4, .inl (g.2.1, 64, .inl (fun _ => 0))), (a5, .inl (g.2.1, 16, .inl (fun _ => 0)))] := hD
  refine va_putF (D := g.1) (cl := vwCl) (fs := [.int 0, .ref a0, .ref a1, .ref a2, .ref a3, .int 0, .int 0, .int 0, .ref a4, .null, .null, .int 0, .int 0, .int 0]) (ci := 1) (v := .ref a5) (ty := .array .int) (C := RX1) (T := TX1) (N := 14) hx hb hts uX1_init_X1 tyX1 tyX1_ok nmX1 hown hC.2.1 hP hD hS 0 rfl rfl 9 (by decide) (hts _ (List.mem_of_getElem? (i := 10) rfl)) (fun _ h9 => h9) rfl hin rfl (tyX1_ok 9 (by decide)) rfl rfl (Nat.le_of_ble_eq_true rfl) dX1_init_49 (fun H locs hP hD hS => ?_)
  have hP : va_P g.1 vwCl [(h0, .inr (1, [.int 0, .ref a0, .ref a1, .ref a2, .ref a3, .int 0, .int 0, .int 0, .ref a4, .ref a5, .null, .int 0, .int 0, .int 0])), (a0, .inl (g.2.1, 6, .inl (fun _ => 0))), (a1, .inl (g.2.1, 36, .inl (fun _ => 0))), (a2, .inl (g.2.1, 36, .inl (fun _ => 0))), (a3, .inl (g.2.1, 6, .inl (fun _ => 0))), (a4, .inl (g.2.1, 64, .inl (fun _ => 0))), (a5, .inl (g.2.1, 16, .inl (fun _ => 0)))] H := hP
  have hD : va_D A [(h0, .inr (1, [.int 0, .ref a0, .ref a1, .ref a2, .ref a3, .int 0, .int 0, .int 0, .ref a4, .ref a5, .null, .int 0, .int 0, .int 0])), (a0, .inl (g.2.1, 6, .inl (fun _ => 0))), (a1, .inl (g.2.1, 36, .inl (fun _ => 0))), (a2, .inl (g.2.1, 36, .inl (fun _ => 0))), (a3, .inl (g.2.1, 6, .inl (fun _ => 0))), (a4, .inl (g.2.1, 64, .inl (fun _ => 0))), (a5, .inl (g.2.1, 16, .inl (fun _ => 0)))] := hD
  refine lv_aload_n hx hb dX1_init_52 rfl (lv_at hl 0 rfl) ?_
  refine lv_bipush (v := (16 : Int32)) hx hb dX1_init_53 (by decide) ?_
  refine k_newi (n' := 16) hC (List.mem_of_getElem? (i := 4) rfl) hP hD hS hA (by decide) rfl (by decide) (Nat.le_of_ble_eq_true rfl) (Nat.le_of_ble_eq_true rfl) dX1_init_55 (fun a6 H hP hD hS => ?_)
  have hP : va_P g.1 vwCl [(h0, .inr (1, [.int 0, .ref a0, .ref a1, .ref a2, .ref a3, .int 0, .int 0, .int 0, .ref a4, .ref a5, .null, .int 0, .int 0, .int 0])), (a0, .inl (g.2.1, 6, .inl (fun _ => 0))), (a1, .inl (g.2.1, 36, .inl (fun _ => 0))), (a2, .inl (g.2.1, 36, .inl (fun _ => 0))), (a3, .inl (g.2.1, 6, .inl (fun _ => 0))), (a4, .inl (g.2.1, 64, .inl (fun _ => 0))), (a5, .inl (g.2.1, 16, .inl (fun _ => 0))), (a6, .inl (g.2.1, 16, .inl (fun _ => 0)))] H := hP
  have hD : va_D A [(h0, .inr (1, [.int 0, .ref a0, .ref a1, .ref a2, .ref a3, .int 0, .int 0, .int 0, .ref a4, .ref a5, .null, .int 0, .int 0, .int 0])), (a0, .inl (g.2.1, 6, .inl (fun _ => 0))), (a1, .inl (g.2.1, 36, .inl (fun _ => 0))), (a2, .inl (g.2.1, 36, .inl (fun _ => 0))), (a3, .inl (g.2.1, 6, .inl (fun _ => 0))), (a4, .inl (g.2.1, 64, .inl (fun _ => 0))), (a5, .inl (g.2.1, 16, .inl (fun _ => 0))), (a6, .inl (g.2.1, 16, .inl (fun _ => 0)))] := hD
  refine va_putF (D := g.1) (cl := vwCl) (fs := [.int 0, .ref a0, .ref a1, .ref a2, .ref a3, .int 0, .int 0, .int 0, .ref a4, .ref a5, .null, .int 0, .int 0, .int 0]) (ci := 1) (v := .ref a6) (ty := .array .int) (C := RX1) (T := TX1) (N := 14) hx hb hts uX1_init_X1 tyX1 tyX1_ok nmX1 hown hC.2.1 hP hD hS 0 rfl rfl 10 (by decide) (hts _ (List.mem_of_getElem? (i := 11) rfl)) (fun _ h9 => h9) rfl hin rfl (tyX1_ok 10 (by decide)) rfl rfl (Nat.le_of_ble_eq_true rfl) dX1_init_57 (fun H locs hP hD hS => ?_)
  have hP : va_P g.1 vwCl [(h0, .inr (1, [.int 0, .ref a0, .ref a1, .ref a2, .ref a3, .int 0, .int 0, .int 0, .ref a4, .ref a5, .ref a6, .int 0, .int 0, .int 0])), (a0, .inl (g.2.1, 6, .inl (fun _ => 0))), (a1, .inl (g.2.1, 36, .inl (fun _ => 0))), (a2, .inl (g.2.1, 36, .inl (fun _ => 0))), (a3, .inl (g.2.1, 6, .inl (fun _ => 0))), (a4, .inl (g.2.1, 64, .inl (fun _ => 0))), (a5, .inl (g.2.1, 16, .inl (fun _ => 0))), (a6, .inl (g.2.1, 16, .inl (fun _ => 0)))] H := hP
  have hD : va_D A [(h0, .inr (1, [.int 0, .ref a0, .ref a1, .ref a2, .ref a3, .int 0, .int 0, .int 0, .ref a4, .ref a5, .ref a6, .int 0, .int 0, .int 0])), (a0, .inl (g.2.1, 6, .inl (fun _ => 0))), (a1, .inl (g.2.1, 36, .inl (fun _ => 0))), (a2, .inl (g.2.1, 36, .inl (fun _ => 0))), (a3, .inl (g.2.1, 6, .inl (fun _ => 0))), (a4, .inl (g.2.1, 64, .inl (fun _ => 0))), (a5, .inl (g.2.1, 16, .inl (fun _ => 0))), (a6, .inl (g.2.1, 16, .inl (fun _ => 0)))] := hD
  refine W.widen (k := 7) (n := 180) (Nat.le_refl _) (Nat.le_refl _) ?_
  exact CvN.ret (U := Nat → Nat) (w' := fun q => wX1 g q z_X1) (fun k => if k = 1 then a0 else if k = 2 then a1 else if k = 3 then a2 else if k = 4 then a3 else if k = 8 then a4 else if k = 9 then a5 else if k = 10 then a6 else h0) hC hr hlk hA9 rfl hP hD hS dX1_init_60
