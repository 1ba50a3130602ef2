/-! laid by wip/whole/mkctor.py: what the constructors make -/
theorem pr2 {α : Type} (a b f : List α) : (a ++ (b ++ f)).Perm (b ++ (a ++ f)) := List.perm_append_comm_assoc a b f
theorem pr3 {α : Type} (a b c f : List α) : (a ++ (b ++ (c ++ f))).Perm (c ++ (b ++ (a ++ f))) := ((pr2 b c f).append_left a).trans ((pr2 a c (b ++ f)).trans ((pr2 a b f).append_left c))
theorem pr4 {α : Type} (a b c d f : List α) : (a ++ (b ++ (c ++ (d ++ f)))).Perm (d ++ (c ++ (b ++ (a ++ f)))) := ((pr3 b c d f).append_left a).trans ((pr2 a d (c ++ (b ++ f))).trans (((pr2 a c (b ++ f)).trans ((pr2 a b f).append_left c)).append_left d))
theorem pr5 {α : Type} (a b c d e f : List α) : (a ++ (b ++ (c ++ (d ++ (e ++ f))))).Perm (e ++ (d ++ (c ++ (b ++ (a ++ f))))) := ((pr4 b c d e f).append_left a).trans ((pr2 a e (d ++ (c ++ (b ++ f)))).trans (((pr2 a d (c ++ (b ++ f))).trans (((pr2 a c (b ++ f)).trans ((pr2 a b f).append_left c)).append_left d)).append_left e))
theorem pr4n {α : Type} (a b c d : List α) : (a ++ (b ++ (c ++ d))).Perm (d ++ (c ++ (b ++ a))) := by
  have h := pr4 a b c d []
  rw [List.append_nil, List.append_nil] at h
  exact h
def z_X3 : St := (fun k => match k with | 0 => 2 | 1 => 4 | 2 => 30 | 3 => 1 | 4 => 2 | _ => 0, fun _ _ => 0)
theorem df_X3 : ∀ j, j < 11 → defaultValue (tyX3 j) = vp_V [.int 0, .int 0, .int 0, .int 0, .int 0, .int 0, .null, .null, .null, .null, .null] j := by
  intro j hj
  match j, hj with
  | 0, _ => rfl
  | 1, _ => rfl
  | 2, _ => rfl
  | 3, _ => rfl
  | 4, _ => rfl
  | 5, _ => rfl
  | 6, _ => rfl
  | 7, _ => rfl
  | 8, _ => rfl
  | 9, _ => rfl
  | 10, _ => rfl
  | j + 11, hj => exact absurd hj (by omega)
abbrev RM_X3_init : Room := { frames := 1, cells := 5, slots := 62, locals := 12 }
theorem uX3_init_X3 : ∀ w ∈ u_ws RX3 TX3 11, w ∈ wsX3_init := fun w h => List.mem_cons_of_mem _ (List.mem_append_right _ h)
set_option maxRecDepth 100000 in
set_option maxHeartbeats 1000000 in
theorem c_X3_init (l : Launch) (g : GG) (h0 : Nat) : CvN (U := Nat → Nat) E0 l yX3_init wsX3_init RM_X3_init g [.ref h0] [(h0, .inr (3, [.int 0, .int 0, .int 0, .int 0, .int 0, .int 0, .null, .null, .null, .null, .null]))] 5 62 (fun q => q 100 = h0) (fun q => wX3 g q z_X3) := by
  intro sz
  refine Met.ofCN (cc := cX3_init) (maxL := 1) (ret := none) (by decide) rfl (Nat.le_of_ble_eq_true rfl) ?_
  intro p e s m below meth c hC hr hlk hin hE hsz A hA9 hA hP hD hS ls hl
  subst hsz
  have hC : Cx p s m ([.ref h0] : List Value).toArray c RX3 cX3_init 1 wsX3_init g := hC
  have hx := hC.1.1
  have hb := hC.1.2.1
  have hml := hC.1.2.2.1
  have hown := hC.1.2.2.2.1
  have hts := hC.1.2.2.2.2
  have hl : lv_has ls 1 [(0, .ref h0)] := hl
  refine lv_aload_n hx hb dX3_init_0 rfl (lv_at hl 0 rfl) ?_
  refine W.objInit hx hb hown (hts (.methodLink RX3 3 objectInit) (List.mem_of_getElem? (i := 1) rfl)) (hts (.instanceMethod objectInit) (List.mem_of_getElem? (i := 2) rfl)) (hts (.code objectInit ⟨#[0xb1]⟩ 1 none) (List.mem_of_getElem? (i := 3) rfl)) rfl (by rw [hml]; exact hl.1) rfl dX3_init_1 (Nat.le_of_ble_eq_true rfl) (Nat.le_of_ble_eq_true rfl) ?_
  refine W.eq (g2 := F0 m 4 ls []) rfl ?_
  refine lv_aload_n hx hb dX3_init_4 rfl (lv_at hl 0 rfl) ?_
  refine lv_iconst (v := 2) hx hb dX3_init_5 (by decide) ?_
  refine va_put (D := g.1) (cl := vwCl) (fs := [.int 0, .int 0, .int 0, .int 0, .int 0, .int 0, .null, .null, .null, .null, .null]) (ci := 3) (v := .int 2) (ty := .int) (C := RX3) (T := TX3) (N := 11) hx hb hts uX3_init_X3 tyX3 tyX3_ok nmX3 hown hC.2.1 hP hD hS 0 rfl rfl 0 (by decide) (hts _ (List.mem_of_getElem? (i := 4) rfl)) (fun _ h9 => h9) rfl (tyX3_ok 0 (by decide)) rfl rfl (Nat.le_of_ble_eq_true rfl) dX3_init_6 (fun H locs hP hD hS => ?_)
  have hP : va_P g.1 vwCl [(h0, .inr (3, [.int 2, .int 0, .int 0, .int 0, .int 0, .int 0, .null, .null, .null, .null, .null]))] H := hP
  have hD : va_D A [(h0, .inr (3, [.int 2, .int 0, .int 0, .int 0, .int 0, .int 0, .null, .null, .null, .null, .null]))] := hD
  refine lv_aload_n hx hb dX3_init_9 rfl (lv_at hl 0 rfl) ?_
  refine lv_iconst (v := 4) hx hb dX3_init_10 (by decide) ?_
  refine va_put (D := g.1) (cl := vwCl) (fs := [.int 2, .int 0, .int 0, .int 0, .int 0, .int 0, .null, .null, .null, .null, .null]) (ci := 3) (v := .int 4) (ty := .int) (C := RX3) (T := TX3) (N := 11) hx hb hts uX3_init_X3 tyX3 tyX3_ok nmX3 hown hC.2.1 hP hD hS 0 rfl rfl 1 (by decide) (hts _ (List.mem_of_getElem? (i := 5) rfl)) (fun _ h9 => h9) rfl (tyX3_ok 1 (by decide)) rfl rfl (Nat.le_of_ble_eq_true rfl) dX3_init_11 (fun H locs hP hD hS => ?_)
  have hP : va_P g.1 vwCl [(h0, .inr (3, [.int 2, .int 4, .int 0, .int 0, .int 0, .int 0, .null, .null, .null, .null, .null]))] H := hP
  have hD : va_D A [(h0, .inr (3, [.int 2, .int 4, .int 0, .int 0, .int 0, .int 0, .null, .null, .null, .null, .null]))] := hD
  refine lv_aload_n hx hb dX3_init_14 rfl (lv_at hl 0 rfl) ?_
  refine lv_bipush (v := (30 : Int32)) hx hb dX3_init_15 (by decide) ?_
  refine va_put (D := g.1) (cl := vwCl) (fs := [.int 2, .int 4, .int 0, .int 0, .int 0, .int 0, .null, .null, .null, .null, .null]) (ci := 3) (v := .int 30) (ty := .int) (C := RX3) (T := TX3) (N := 11) hx hb hts uX3_init_X3 tyX3 tyX3_ok nmX3 hown hC.2.1 hP hD hS 0 rfl rfl 2 (by decide) (hts _ (List.mem_of_getElem? (i := 6) rfl)) (fun _ h9 => h9) rfl (tyX3_ok 2 (by decide)) rfl rfl (Nat.le_of_ble_eq_true rfl) dX3_init_17 (fun H locs hP hD hS => ?_)
  have hP : va_P g.1 vwCl [(h0, .inr (3, [.int 2, .int 4, .int 30, .int 0, .int 0, .int 0, .null, .null, .null, .null, .null]))] H := hP
  have hD : va_D A [(h0, .inr (3, [.int 2, .int 4, .int 30, .int 0, .int 0, .int 0, .null, .null, .null, .null, .null]))] := hD
  refine lv_aload_n hx hb dX3_init_20 rfl (lv_at hl 0 rfl) ?_
  refine lv_iconst (v := 1) hx hb dX3_init_21 (by decide) ?_
  refine va_put (D := g.1) (cl := vwCl) (fs := [.int 2, .int 4, .int 30, .int 0, .int 0, .int 0, .null, .null, .null, .null, .null]) (ci := 3) (v := .int 1) (ty := .int) (C := RX3) (T := TX3) (N := 11) hx hb hts uX3_init_X3 tyX3 tyX3_ok nmX3 hown hC.2.1 hP hD hS 0 rfl rfl 3 (by decide) (hts _ (List.mem_of_getElem? (i := 7) rfl)) (fun _ h9 => h9) rfl (tyX3_ok 3 (by decide)) rfl rfl (Nat.le_of_ble_eq_true rfl) dX3_init_22 (fun H locs hP hD hS => ?_)
  have hP : va_P g.1 vwCl [(h0, .inr (3, [.int 2, .int 4, .int 30, .int 1, .int 0, .int 0, .null, .null, .null, .null, .null]))] H := hP
  have hD : va_D A [(h0, .inr (3, [.int 2, .int 4, .int 30, .int 1, .int 0, .int 0, .null, .null, .null, .null, .null]))] := hD
  refine lv_aload_n hx hb dX3_init_25 rfl (lv_at hl 0 rfl) ?_
  refine lv_iconst (v := 2) hx hb dX3_init_26 (by decide) ?_
  refine va_put (D := g.1) (cl := vwCl) (fs := [.int 2, .int 4, .int 30, .int 1, .int 0, .int 0, .null, .null, .null, .null, .null]) (ci := 3) (v := .int 2) (ty := .int) (C := RX3) (T := TX3) (N := 11) hx hb hts uX3_init_X3 tyX3 tyX3_ok nmX3 hown hC.2.1 hP hD hS 0 rfl rfl 4 (by decide) (hts _ (List.mem_of_getElem? (i := 8) rfl)) (fun _ h9 => h9) rfl (tyX3_ok 4 (by decide)) rfl rfl (Nat.le_of_ble_eq_true rfl) dX3_init_27 (fun H locs hP hD hS => ?_)
  have hP : va_P g.1 vwCl [(h0, .inr (3, [.int 2, .int 4, .int 30, .int 1, .int 2, .int 0, .null, .null, .null, .null, .null]))] H := hP
  have hD : va_D A [(h0, .inr (3, [.int 2, .int 4, .int 30, .int 1, .int 2, .int 0, .null, .null, .null, .null, .null]))] := hD
  refine lv_aload_n hx hb dX3_init_30 rfl (lv_at hl 0 rfl) ?_
  refine lv_bipush (v := (6 : Int32)) hx hb dX3_init_31 (by decide) ?_
  refine k_newi (n' := 6) hC (List.mem_of_getElem? (i := 9) rfl) hP hD hS hA (by decide) rfl (by decide) (Nat.le_of_ble_eq_true rfl) (Nat.le_of_ble_eq_true rfl) dX3_init_33 (fun a0 H hP hD hS => ?_)
  have hP : va_P g.1 vwCl [(h0, .inr (3, [.int 2, .int 4, .int 30, .int 1, .int 2, .int 0, .null, .null, .null, .null, .null])), (a0, .inl (g.2.1, 6, .inl (fun _ => 0)))] H := hP
  have hD : va_D A [(h0, .inr (3, [.int 2, .int 4, .int 30, .int 1, .int 2, .int 0, .null, .null, .null, .null, .null])), (a0, .inl (g.2.1, 6, .inl (fun _ => 0)))] := hD
  refine va_putF (D := g.1) (cl := vwCl) (fs := [.int 2, .int 4, .int 30, .int 1, .int 2, .int 0, .null, .null, .null, .null, .null]) (ci := 3) (v := .ref a0) (ty := .array .int) (C := RX3) (T := TX3) (N := 11) hx hb hts uX3_init_X3 tyX3 tyX3_ok nmX3 hown hC.2.1 hP hD hS 0 rfl rfl 6 (by decide) (hts _ (List.mem_of_getElem? (i := 10) rfl)) (fun _ h9 => h9) rfl hin rfl (tyX3_ok 6 (by decide)) rfl rfl (Nat.le_of_ble_eq_true rfl) dX3_init_35 (fun H locs hP hD hS => ?_)
  have hP : va_P g.1 vwCl [(h0, .inr (3, [.int 2, .int 4, .int 30, .int 1, .int 2, .int 0, .ref a0, .null, .null, .null, .null])), (a0, .inl (g.2.1, 6, .inl (fun _ => 0)))] H := hP
  have hD : va_D A [(h0, .inr (3, [.int 2, .int 4, .int 30, .int 1, .int 2, .int 0, .ref a0, .null, .null, .null, .null])), (a0, .inl (g.2.1, 6, .inl (fun _ => 0)))] := hD
  refine lv_aload_n hx hb dX3_init_38 rfl (lv_at hl 0 rfl) ?_
  refine lv_iconst (v := 4) hx hb dX3_init_39 (by decide) ?_
  refine k_newi (n' := 4) hC (List.mem_of_getElem? (i := 9) rfl) hP hD hS hA (by decide) rfl (by decide) (Nat.le_of_ble_eq_true rfl) (Nat.le_of_ble_eq_true rfl) dX3_init_40 (fun a1 H hP hD hS => ?_)
  have hP : va_P g.1 vwCl [(h0, .inr (3, [.int 2, .int 4, .int 30, .int 1, .int 2, .int 0, .ref a0, .null, .null, .null, .null])), (a0, .inl (g.2.1, 6, .inl (fun _ => 0))), (a1, .inl (g.2.1, 4, .inl (fun _ => 0)))] H := hP
  have hD : va_D A [(h0, .inr (3, [.int 2, .int 4, .int 30, .int 1, .int 2, .int 0, .ref a0, .null, .null, .null, .null])), (a0, .inl (g.2.1, 6, .inl (fun _ => 0))), (a1, .inl (g.2.1, 4, .inl (fun _ => 0)))] := hD
  refine va_putF (D := g.1) (cl := vwCl) (fs := [.int 2, .int 4, .int 30, .int 1, .int 2, .int 0, .ref a0, .null, .null, .null, .null]) (ci := 3) (v := .ref a1) (ty := .array .int) (C := RX3) (T := TX3) (N := 11) hx hb hts uX3_init_X3 tyX3 tyX3_ok nmX3 hown hC.2.1 hP hD hS 0 rfl rfl 7 (by decide) (hts _ (List.mem_of_getElem? (i := 11) rfl)) (fun _ h9 => h9) rfl hin rfl (tyX3_ok 7 (by decide)) rfl rfl (Nat.le_of_ble_eq_true rfl) dX3_init_42 (fun H locs hP hD hS => ?_)
  have hP : va_P g.1 vwCl [(h0, .inr (3, [.int 2, .int 4, .int 30, .int 1, .int 2, .int 0, .ref a0, .ref a1, .null, .null, .null])), (a0, .inl (g.2.1, 6, .inl (fun _ => 0))), (a1, .inl (g.2.1, 4, .inl (fun _ => 0)))] H := hP
  have hD : va_D A [(h0, .inr (3, [.int 2, .int 4, .int 30, .int 1, .int 2, .int 0, .ref a0, .ref a1, .null, .null, .null])), (a0, .inl (g.2.1, 6, .inl (fun _ => 0))), (a1, .inl (g.2.1, 4, .inl (fun _ => 0)))] := hD
  refine lv_aload_n hx hb dX3_init_45 rfl (lv_at hl 0 rfl) ?_
  refine lv_bipush (v := (24 : Int32)) hx hb dX3_init_46 (by decide) ?_
  refine k_newi (n' := 24) hC (List.mem_of_getElem? (i := 9) rfl) hP hD hS hA (by decide) rfl (by decide) (Nat.le_of_ble_eq_true rfl) (Nat.le_of_ble_eq_true rfl) dX3_init_48 (fun a2 H hP hD hS => ?_)
  have hP : va_P g.1 vwCl [(h0, .inr (3, [.int 2, .int 4, .int 30, .int 1, .int 2, .int 0, .ref a0, .ref a1, .null, .null, .null])), (a0, .inl (g.2.1, 6, .inl (fun _ => 0))), (a1, .inl (g.2.1, 4, .inl (fun _ => 0))), (a2, .inl (g.2.1, 24, .inl (fun _ => 0)))] H := hP
  have hD : va_D A [(h0, .inr (3, [.int 2, .int 4, .int 30, .int 1, .int 2, .int 0, .ref a0, .ref a1, .null, .null, .null])), (a0, .inl (g.2.1, 6, .inl (fun _ => 0))), (a1, .inl (g.2.1, 4, .inl (fun _ => 0))), (a2, .inl (g.2.1, 24, .inl (fun _ => 0)))] := hD
  refine va_putF (D := g.1) (cl := vwCl) (fs := [.int 2, .int 4, .int 30, .int 1, .int 2, .int 0, .ref a0, .ref a1, .null, .null, .null]) (ci := 3) (v := .ref a2) (ty := .array .int) (C := RX3) (T := TX3) (N := 11) hx hb hts uX3_init_X3 tyX3 tyX3_ok nmX3 hown hC.2.1 hP hD hS 0 rfl rfl 8 (by decide) (hts _ (List.mem_of_getElem? (i := 12) rfl)) (fun _ h9 => h9) rfl hin rfl (tyX3_ok 8 (by decide)) rfl rfl (Nat.le_of_ble_eq_true rfl) dX3_init_50 (fun H locs hP hD hS => ?_)
  have hP : va_P g.1 vwCl [(h0, .inr (3, [.int 2, .int 4, .int 30, .int 1, .int 2, .int 0, .ref a0, .ref a1, .ref a2, .null, .null])), (a0, .inl (g.2.1, 6, .inl (fun _ => 0))), (a1, .inl (g.2.1, 4, .inl (fun _ => 0))), (a2, .inl (g.2.1, 24, .inl (fun _ => 0)))] H := hP
  have hD : va_D A [(h0, .inr (3, [.int 2, .int 4, .int 30, .int 1, .int 2, .int 0, .ref a0, .ref a1, .ref a2, .null, .null])), (a0, .inl (g.2.1, 6, .inl (fun _ => 0))), (a1, .inl (g.2.1, 4, .inl (fun _ => 0))), (a2, .inl (g.2.1, 24, .inl (fun _ => 0)))] := hD
  refine lv_aload_n hx hb dX3_init_53 rfl (lv_at hl 0 rfl) ?_
  refine lv_bipush (v := (24 : Int32)) hx hb dX3_init_54 (by decide) ?_
  refine k_newi (n' := 24) hC (List.mem_of_getElem? (i := 9) rfl) hP hD hS hA (by decide) rfl (by decide) (Nat.le_of_ble_eq_true rfl) (Nat.le_of_ble_eq_true rfl) dX3_init_56 (fun a3 H hP hD hS => ?_)
  have hP : va_P g.1 vwCl [(h0, .inr (3, [.int 2, .int 4, .int 30, .int 1, .int 2, .int 0, .ref a0, .ref a1, .ref a2, .null, .null])), (a0, .inl (g.2.1, 6, .inl (fun _ => 0))), (a1, .inl (g.2.1, 4, .inl (fun _ => 0))), (a2, .inl (g.2.1, 24, .inl (fun _ => 0))), (a3, .inl (g.2.1, 24, .inl (fun _ => 0)))] H := hP
  have hD : va_D A [(h0, .inr (3, [.int 2, .int 4, .int 30, .int 1, .int 2, .int 0, .ref a0, .ref a1, .ref a2, .null, .null])), (a0, .inl (g.2.1, 6, .inl (fun _ => 0))), (a1, .inl (g.2.1, 4, .inl (fun _ => 0))), (a2, .inl (g.2.1, 24, .inl (fun _ => 0))), (a3, .inl (g.2.1, 24, .inl (fun _ => 0)))] := hD
  refine va_putF (D := g.1) (cl := vwCl) (fs := [.int 2, .int 4, .int 30, .int 1, .int 2, .int 0, .ref a0, .ref a1, .ref a2, .null, .null]) (ci := 3) (v := .ref a3) (ty := .array .int) (C := RX3) (T := TX3) (N := 11) hx hb hts uX3_init_X3 tyX3 tyX3_ok nmX3 hown hC.2.1 hP hD hS 0 rfl rfl 9 (by decide) (hts _ (List.mem_of_getElem? (i := 13) rfl)) (fun _ h9 => h9) rfl hin rfl (tyX3_ok 9 (by decide)) rfl rfl (Nat.le_of_ble_eq_true rfl) dX3_init_58 (fun H locs hP hD hS => ?_)
  have hP : va_P g.1 vwCl [(h0, .inr (3, [.int 2, .int 4, .int 30, .int 1, .int 2, .int 0, .ref a0, .ref a1, .ref a2, .ref a3, .null])), (a0, .inl (g.2.1, 6, .inl (fun _ => 0))), (a1, .inl (g.2.1, 4, .inl (fun _ => 0))), (a2, .inl (g.2.1, 24, .inl (fun _ => 0))), (a3, .inl (g.2.1, 24, .inl (fun _ => 0)))] H := hP
  have hD : va_D A [(h0, .inr (3, [.int 2, .int 4, .int 30, .int 1, .int 2, .int 0, .ref a0, .ref a1, .ref a2, .ref a3, .null])), (a0, .inl (g.2.1, 6, .inl (fun _ => 0))), (a1, .inl (g.2.1, 4, .inl (fun _ => 0))), (a2, .inl (g.2.1, 24, .inl (fun _ => 0))), (a3, .inl (g.2.1, 24, .inl (fun _ => 0)))] := hD
  refine lv_aload_n hx hb dX3_init_61 rfl (lv_at hl 0 rfl) ?_
  refine lv_iconst (v := 4) hx hb dX3_init_62 (by decide) ?_
  refine k_newi (n' := 4) hC (List.mem_of_getElem? (i := 9) rfl) hP hD hS hA (by decide) rfl (by decide) (Nat.le_of_ble_eq_true rfl) (Nat.le_of_ble_eq_true rfl) dX3_init_63 (fun a4 H hP hD hS => ?_)
  have hP : va_P g.1 vwCl [(h0, .inr (3, [.int 2, .int 4, .int 30, .int 1, .int 2, .int 0, .ref a0, .ref a1, .ref a2, .ref a3, .null])), (a0, .inl (g.2.1, 6, .inl (fun _ => 0))), (a1, .inl (g.2.1, 4, .inl (fun _ => 0))), (a2, .inl (g.2.1, 24, .inl (fun _ => 0))), (a3, .inl (g.2.1, 24, .inl (fun _ => 0))), (a4, .inl (g.2.1, 4, .inl (fun _ => 0)))] H := hP
  have hD : va_D A [(h0, .inr (3, [.int 2, .int 4, .int 30, .int 1, .int 2, .int 0, .ref a0, .ref a1, .ref a2, .ref a3, .null])), (a0, .inl (g.2.1, 6, .inl (fun _ => 0))), (a1, .inl (g.2.1, 4, .inl (fun _ => 0))), (a2, .inl (g.2.1, 24, .inl (fun _ => 0))), (a3, .inl (g.2.1, 24, .inl (fun _ => 0))), (a4, .inl (g.2.1, 4, .inl (fun _ => 0)))] := hD
  refine va_putF (D := g.1) (cl := vwCl) (fs := [.int 2, .int 4, .int 30, .int 1, .int 2, .int 0, .ref a0, .ref a1, .ref a2, .ref a3, .null]) (ci := 3) (v := .ref a4) (ty := .array .int) (C := RX3) (T := TX3) (N := 11) hx hb hts uX3_init_X3 tyX3 tyX3_ok nmX3 hown hC.2.1 hP hD hS 0 rfl rfl 10 (by decide) (hts _ (List.mem_of_getElem? (i := 14) rfl)) (fun _ h9 => h9) rfl hin rfl (tyX3_ok 10 (by decide)) rfl rfl (Nat.le_of_ble_eq_true rfl) dX3_init_65 (fun H locs hP hD hS => ?_)
  have hP : va_P g.1 vwCl [(h0, .inr (3, [.int 2, .int 4, .int 30, .int 1, .int 2, .int 0, .ref a0, .ref a1, .ref a2, .ref a3, .ref a4])), (a0, .inl (g.2.1, 6, .inl (fun _ => 0))), (a1, .inl (g.2.1, 4, .inl (fun _ => 0))), (a2, .inl (g.2.1, 24, .inl (fun _ => 0))), (a3, .inl (g.2.1, 24, .inl (fun _ => 0))), (a4, .inl (g.2.1, 4, .inl (fun _ => 0)))] H := hP
  have hD : va_D A [(h0, .inr (3, [.int 2, .int 4, .int 30, .int 1, .int 2, .int 0, .ref a0, .ref a1, .ref a2, .ref a3, .ref a4])), (a0, .inl (g.2.1, 6, .inl (fun _ => 0))), (a1, .inl (g.2.1, 4, .inl (fun _ => 0))), (a2, .inl (g.2.1, 24, .inl (fun _ => 0))), (a3, .inl (g.2.1, 24, .inl (fun _ => 0))), (a4, .inl (g.2.1, 4, .inl (fun _ => 0)))] := hD
  refine W.widen (k := 5) (n := 62) (Nat.le_refl _) (Nat.le_refl _) ?_
  exact CvN.ret (U := Nat → Nat) (w' := fun q => wX3 g q z_X3) (fun k => if k = 6 then a0 else if k = 7 then a1 else if k = 8 then a2 else if k = 9 then a3 else if k = 10 then a4 else h0) hC hr hlk hA9 rfl hP hD hS dX3_init_68
def z_X6 : St := (fun k => 0, fun _ _ => 0)
theorem df_X6 : ∀ j, j < 5 → defaultValue (tyX6 j) = vp_V [.int 0, .null, .null, .null, .null] j := by
  intro j hj
  match j, hj with
  | 0, _ => rfl
  | 1, _ => rfl
  | 2, _ => rfl
  | 3, _ => rfl
  | 4, _ => rfl
  | j + 5, hj => exact absurd hj (by omega)
abbrev RM_X6_init : Room := { frames := 1, cells := 4, slots := 24, locals := 12 }
theorem uX6_init_X6 : ∀ w ∈ u_ws RX6 TX6 5, w ∈ wsX6_init := fun w h => List.mem_cons_of_mem _ (List.mem_append_right _ h)
set_option maxRecDepth 100000 in
set_option maxHeartbeats 1000000 in
theorem c_X6_init (l : Launch) (g : GG) (h0 : Nat) : CvN (U := Nat → Nat) E0 l yX6_init wsX6_init RM_X6_init g [.ref h0] [(h0, .inr (6, [.int 0, .null, .null, .null, .null]))] 4 24 (fun q => q 100 = h0) (fun q => wX6 g q z_X6) := by
  intro sz
  refine Met.ofCN (cc := cX6_init) (maxL := 1) (ret := none) (by decide) rfl (Nat.le_of_ble_eq_true rfl) ?_
  intro p e s m below meth c hC hr hlk hin hE hsz A hA9 hA hP hD hS ls hl
  subst hsz
  have hC : Cx p s m ([.ref h0] : List Value).toArray c RX6 cX6_init 1 wsX6_init g := hC
  have hx := hC.1.1
  have hb := hC.1.2.1
  have hml := hC.1.2.2.1
  have hown := hC.1.2.2.2.1
  have hts := hC.1.2.2.2.2
  have hl : lv_has ls 1 [(0, .ref h0)] := hl
  refine lv_aload_n hx hb dX6_init_0 rfl (lv_at hl 0 rfl) ?_
  refine W.objInit hx hb hown (hts (.methodLink RX6 3 objectInit) (List.mem_of_getElem? (i := 1) rfl)) (hts (.instanceMethod objectInit) (List.mem_of_getElem? (i := 2) rfl)) (hts (.code objectInit ⟨#[0xb1]⟩ 1 none) (List.mem_of_getElem? (i := 3) rfl)) rfl (by rw [hml]; exact hl.1) rfl dX6_init_1 (Nat.le_of_ble_eq_true rfl) (Nat.le_of_ble_eq_true rfl) ?_
  refine W.eq (g2 := F0 m 4 ls []) rfl ?_
  refine lv_aload_n hx hb dX6_init_4 rfl (lv_at hl 0 rfl) ?_
  refine lv_bipush (v := (6 : Int32)) hx hb dX6_init_5 (by decide) ?_
  refine k_newi (n' := 6) hC (List.mem_of_getElem? (i := 4) rfl) hP hD hS hA (by decide) rfl (by decide) (Nat.le_of_ble_eq_true rfl) (Nat.le_of_ble_eq_true rfl) dX6_init_7 (fun a0 H hP hD hS => ?_)
  have hP : va_P g.1 vwCl [(h0, .inr (6, [.int 0, .null, .null, .null, .null])), (a0, .inl (g.2.1, 6, .inl (fun _ => 0)))] H := hP
  have hD : va_D A [(h0, .inr (6, [.int 0, .null, .null, .null, .null])), (a0, .inl (g.2.1, 6, .inl (fun _ => 0)))] := hD
  refine va_putF (D := g.1) (cl := vwCl) (fs := [.int 0, .null, .null, .null, .null]) (ci := 6) (v := .ref a0) (ty := .array .int) (C := RX6) (T := TX6) (N := 5) hx hb hts uX6_init_X6 tyX6 tyX6_ok nmX6 hown hC.2.1 hP hD hS 0 rfl rfl 1 (by decide) (hts _ (List.mem_of_getElem? (i := 5) rfl)) (fun _ h9 => h9) rfl hin rfl (tyX6_ok 1 (by decide)) rfl rfl (Nat.le_of_ble_eq_true rfl) dX6_init_9 (fun H locs hP hD hS => ?_)
  have hP : va_P g.1 vwCl [(h0, .inr (6, [.int 0, .ref a0, .null, .null, .null])), (a0, .inl (g.2.1, 6, .inl (fun _ => 0)))] H := hP
  have hD : va_D A [(h0, .inr (6, [.int 0, .ref a0, .null, .null, .null])), (a0, .inl (g.2.1, 6, .inl (fun _ => 0)))] := hD
  refine lv_aload_n hx hb dX6_init_12 rfl (lv_at hl 0 rfl) ?_
  refine lv_bipush (v := (6 : Int32)) hx hb dX6_init_13 (by decide) ?_
  refine k_newi (n' := 6) hC (List.mem_of_getElem? (i := 4) rfl) hP hD hS hA (by decide) rfl (by decide) (Nat.le_of_ble_eq_true rfl) (Nat.le_of_ble_eq_true rfl) dX6_init_15 (fun a1 H hP hD hS => ?_)
  have hP : va_P g.1 vwCl [(h0, .inr (6, [.int 0, .ref a0, .null, .null, .null])), (a0, .inl (g.2.1, 6, .inl (fun _ => 0))), (a1, .inl (g.2.1, 6, .inl (fun _ => 0)))] H := hP
  have hD : va_D A [(h0, .inr (6, [.int 0, .ref a0, .null, .null, .null])), (a0, .inl (g.2.1, 6, .inl (fun _ => 0))), (a1, .inl (g.2.1, 6, .inl (fun _ => 0)))] := hD
  refine va_putF (D := g.1) (cl := vwCl) (fs := [.int 0, .ref a0, .null, .null, .null]) (ci := 6) (v := .ref a1) (ty := .array .int) (C := RX6) (T := TX6) (N := 5) hx hb hts uX6_init_X6 tyX6 tyX6_ok nmX6 hown hC.2.1 hP hD hS 0 rfl rfl 2 (by decide) (hts _ (List.mem_of_getElem? (i := 6) rfl)) (fun _ h9 => h9) rfl hin rfl (tyX6_ok 2 (by decide)) rfl rfl (Nat.le_of_ble_eq_true rfl) dX6_init_17 (fun H locs hP hD hS => ?_)
  have hP : va_P g.1 vwCl [(h0, .inr (6, [.int 0, .ref a0, .ref a1, .null, .null])), (a0, .inl (g.2.1, 6, .inl (fun _ => 0))), (a1, .inl (g.2.1, 6, .inl (fun _ => 0)))] H := hP
  have hD : va_D A [(h0, .inr (6, [.int 0, .ref a0, .ref a1, .null, .null])), (a0, .inl (g.2.1, 6, .inl (fun _ => 0))), (a1, .inl (g.2.1, 6, .inl (fun _ => 0)))] := hD
  refine lv_aload_n hx hb dX6_init_20 rfl (lv_at hl 0 rfl) ?_
  refine lv_bipush (v := (6 : Int32)) hx hb dX6_init_21 (by decide) ?_
  refine k_newi (n' := 6) hC (List.mem_of_getElem? (i := 4) rfl) hP hD hS hA (by decide) rfl (by decide) (Nat.le_of_ble_eq_true rfl) (Nat.le_of_ble_eq_true rfl) dX6_init_23 (fun a2 H hP hD hS => ?_)
  have hP : va_P g.1 vwCl [(h0, .inr (6, [.int 0, .ref a0, .ref a1, .null, .null])), (a0, .inl (g.2.1, 6, .inl (fun _ => 0))), (a1, .inl (g.2.1, 6, .inl (fun _ => 0))), (a2, .inl (g.2.1, 6, .inl (fun _ => 0)))] H := hP
  have hD : va_D A [(h0, .inr (6, [.int 0, .ref a0, .ref a1, .null, .null])), (a0, .inl (g.2.1, 6, .inl (fun _ => 0))), (a1, .inl (g.2.1, 6, .inl (fun _ => 0))), (a2, .inl (g.2.1, 6, .inl (fun _ => 0)))] := hD
  refine va_putF (D := g.1) (cl := vwCl) (fs := [.int 0, .ref a0, .ref a1, .null, .null]) (ci := 6) (v := .ref a2) (ty := .array .int) (C := RX6) (T := TX6) (N := 5) hx hb hts uX6_init_X6 tyX6 tyX6_ok nmX6 hown hC.2.1 hP hD hS 0 rfl rfl 3 (by decide) (hts _ (List.mem_of_getElem? (i := 7) rfl)) (fun _ h9 => h9) rfl hin rfl (tyX6_ok 3 (by decide)) rfl rfl (Nat.le_of_ble_eq_true rfl) dX6_init_25 (fun H locs hP hD hS => ?_)
  have hP : va_P g.1 vwCl [(h0, .inr (6, [.int 0, .ref a0, .ref a1, .ref a2, .null])), (a0, .inl (g.2.1, 6, .inl (fun _ => 0))), (a1, .inl (g.2.1, 6, .inl (fun _ => 0))), (a2, .inl (g.2.1, 6, .inl (fun _ => 0)))] H := hP
  have hD : va_D A [(h0, .inr (6, [.int 0, .ref a0, .ref a1, .ref a2, .null])), (a0, .inl (g.2.1, 6, .inl (fun _ => 0))), (a1, .inl (g.2.1, 6, .inl (fun _ => 0))), (a2, .inl (g.2.1, 6, .inl (fun _ => 0)))] := hD
  refine lv_aload_n hx hb dX6_init_28 rfl (lv_at hl 0 rfl) ?_
  refine lv_bipush (v := (6 : Int32)) hx hb dX6_init_29 (by decide) ?_
  refine k_newi (n' := 6) hC (List.mem_of_getElem? (i := 4) rfl) hP hD hS hA (by decide) rfl (by decide) (Nat.le_of_ble_eq_true rfl) (Nat.le_of_ble_eq_true rfl) dX6_init_31 (fun a3 H hP hD hS => ?_)
  have hP : va_P g.1 vwCl [(h0, .inr (6, [.int 0, .ref a0, .ref a1, .ref a2, .null])), (a0, .inl (g.2.1, 6, .inl (fun _ => 0))), (a1, .inl (g.2.1, 6, .inl (fun _ => 0))), (a2, .inl (g.2.1, 6, .inl (fun _ => 0))), (a3, .inl (g.2.1, 6, .inl (fun _ => 0)))] H := hP
  have hD : va_D A [(h0, .inr (6, [.int 0, .ref a0, .ref a1, .ref a2, .null])), (a0, .inl (g.2.1, 6, .inl (fun _ => 0))), (a1, .inl (g.2.1, 6, .inl (fun _ => 0))), (a2, .inl (g.2.1, 6, .inl (fun _ => 0))), (a3, .inl (g.2.1, 6, .inl (fun _ => 0)))] := hD
  refine va_putF (D := g.1) (cl := vwCl) (fs := [.int 0, .ref a0, .ref a1, .ref a2, .null]) (ci := 6) (v := .ref a3) (ty := .array .int) (C := RX6) (T := TX6) (N := 5) hx hb hts uX6_init_X6 tyX6 tyX6_ok nmX6 hown hC.2.1 hP hD hS 0 rfl rfl 4 (by decide) (hts _ (List.mem_of_getElem? (i := 8) rfl)) (fun _ h9 => h9) rfl hin rfl (tyX6_ok 4 (by decide)) rfl rfl (Nat.le_of_ble_eq_true rfl) dX6_init_33 (fun H locs hP hD hS => ?_)
  have hP : va_P g.1 vwCl [(h0, .inr (6, [.int 0, .ref a0, .ref a1, .ref a2, .ref a3])), (a0, .inl (g.2.1, 6, .inl (fun _ => 0))), (a1, .inl (g.2.1, 6, .inl (fun _ => 0))), (a2, .inl (g.2.1, 6, .inl (fun _ => 0))), (a3, .inl (g.2.1, 6, .inl (fun _ => 0)))] H := hP
  have hD : va_D A [(h0, .inr (6, [.int 0, .ref a0, .ref a1, .ref a2, .ref a3])), (a0, .inl (g.2.1, 6, .inl (fun _ => 0))), (a1, .inl (g.2.1, 6, .inl (fun _ => 0))), (a2, .inl (g.2.1, 6, .inl (fun _ => 0))), (a3, .inl (g.2.1, 6, .inl (fun _ => 0)))] := hD
  refine W.widen (k := 4) (n := 24) (Nat.le_refl _) (Nat.le_refl _) ?_
  exact CvN.ret (U := Nat → Nat) (w' := fun q => wX6 g q z_X6) (fun k => if k = 1 then a0 else if k = 2 then a1 else if k = 3 then a2 else if k = 4 then a3 else h0) hC hr hlk hA9 rfl hP hD hS dX6_init_36
def z_X5 : St := (fun k => 0, fun _ _ => 0)
theorem df_X5 : ∀ j, j < 2 → defaultValue (tyX5 j) = vp_V [.int 0, .null] j := by
  intro j hj
  match j, hj with
  | 0, _ => rfl
  | 1, _ => rfl
  | j + 2, hj => exact absurd hj (by omega)
abbrev RM_X5_init : Room := { frames := 1, cells := 1, slots := 6, locals := 12 }
theorem uX5_init_X5 : ∀ w ∈ u_ws RX5 TX5 2, w ∈ wsX5_init := fun w h => List.mem_cons_of_mem _ (List.mem_append_right _ h)
set_option maxRecDepth 100000 in
set_option maxHeartbeats 1000000 in
theorem c_X5_init (l : Launch) (g : GG) (h0 : Nat) : CvN (U := Nat → Nat) E0 l yX5_init wsX5_init RM_X5_init g [.ref h0] [(h0, .inr (5, [.int 0, .null]))] 1 6 (fun q => q 100 = h0) (fun q => wX5 g q z_X5) := by
  intro sz
  refine Met.ofCN (cc := cX5_init) (maxL := 1) (ret := none) (by decide) rfl (Nat.le_of_ble_eq_true rfl) ?_
  intro p e s m below meth c hC hr hlk hin hE hsz A hA9 hA hP hD hS ls hl
  subst hsz
  have hC : Cx p s m ([.ref h0] : List Value).toArray c RX5 cX5_init 1 wsX5_init g := hC
  have hx := hC.1.1
  have hb := hC.1.2.1
  have hml := hC.1.2.2.1
  have hown := hC.1.2.2.2.1
  have hts := hC.1.2.2.2.2
  have hl : lv_has ls 1 [(0, .ref h0)] := hl
  refine lv_aload_n hx hb dX5_init_0 rfl (lv_at hl 0 rfl) ?_
  refine W.objInit hx hb hown (hts (.methodLink RX5 3 objectInit) (List.mem_of_getElem? (i := 1) rfl)) (hts (.instanceMethod objectInit) (List.mem_of_getElem? (i := 2) rfl)) (hts (.code objectInit ⟨#[0xb1]⟩ 1 none) (List.mem_of_getElem? (i := 3) rfl)) rfl (by rw [hml]; exact hl.1) rfl dX5_init_1 (Nat.le_of_ble_eq_true rfl) (Nat.le_of_ble_eq_true rfl) ?_
  refine W.eq (g2 := F0 m 4 ls []) rfl ?_
  refine lv_aload_n hx hb dX5_init_4 rfl (lv_at hl 0 rfl) ?_
  refine lv_bipush (v := (6 : Int32)) hx hb dX5_init_5 (by decide) ?_
  refine k_newi (n' := 6) hC (List.mem_of_getElem? (i := 4) rfl) hP hD hS hA (by decide) rfl (by decide) (Nat.le_of_ble_eq_true rfl) (Nat.le_of_ble_eq_true rfl) dX5_init_7 (fun a0 H hP hD hS => ?_)
  have hP : va_P g.1 vwCl [(h0, .inr (5, [.int 0, .null])), (a0, .inl (g.2.1, 6, .inl (fun _ => 0)))] H := hP
  have hD : va_D A [(h0, .inr (5, [.int 0, .null])), (a0, .inl (g.2.1, 6, .inl (fun _ => 0)))] := hD
  refine va_putF (D := g.1) (cl := vwCl) (fs := [.int 0, .null]) (ci := 5) (v := .ref a0) (ty := .array .int) (C := RX5) (T := TX5) (N := 2) hx hb hts uX5_init_X5 tyX5 tyX5_ok nmX5 hown hC.2.1 hP hD hS 0 rfl rfl 1 (by decide) (hts _ (List.mem_of_getElem? (i := 5) rfl)) (fun _ h9 => h9) rfl hin rfl (tyX5_ok 1 (by decide)) rfl rfl (Nat.le_of_ble_eq_true rfl) dX5_init_9 (fun H locs hP hD hS => ?_)
  have hP : va_P g.1 vwCl [(h0, .inr (5, [.int 0, .ref a0])), (a0, .inl (g.2.1, 6, .inl (fun _ => 0)))] H := hP
  have hD : va_D A [(h0, .inr (5, [.int 0, .ref a0])), (a0, .inl (g.2.1, 6, .inl (fun _ => 0)))] := hD
  refine W.widen (k := 1) (n := 6) (Nat.le_refl _) (Nat.le_refl _) ?_
  exact CvN.ret (U := Nat → Nat) (w' := fun q => wX5 g q z_X5) (fun k => if k = 1 then a0 else h0) hC hr hlk hA9 rfl hP hD hS dX5_init_12
def z_X4 : St := (fun k => 0, fun _ _ => 0)
theorem df_X4 : ∀ j, j < 2 → defaultValue (tyX4 j) = vp_V [.int 0, .null] j := by
  intro j hj
  match j, hj with
  | 0, _ => rfl
  | 1, _ => rfl
  | j + 2, hj => exact absurd hj (by omega)
abbrev RM_X4_init : Room := { frames := 1, cells := 1, slots := 60, locals := 12 }
theorem uX4_init_X4 : ∀ w ∈ u_ws RX4 TX4 2, w ∈ wsX4_init := fun w h => List.mem_cons_of_mem _ (List.mem_append_right _ h)
set_option maxRecDepth 100000 in
set_option maxHeartbeats 1000000 in
theorem c_X4_init (l : Launch) (g : GG) (h0 : Nat) : CvN (U := Nat → Nat) E0 l yX4_init wsX4_init RM_X4_init g [.ref h0] [(h0, .inr (4, [.int 0, .null]))] 1 60 (fun q => q 100 = h0) (fun q => wX4 g q z_X4) := by
  intro sz
  refine Met.ofCN (cc := cX4_init) (maxL := 1) (ret := none) (by decide) rfl (Nat.le_of_ble_eq_true rfl) ?_
  intro p e s m below meth c hC hr hlk hin hE hsz A hA9 hA hP hD hS ls hl
  subst hsz
  have hC : Cx p s m ([.ref h0] : List Value).toArray c RX4 cX4_init 1 wsX4_init g := hC
  have hx := hC.1.1
  have hb := hC.1.2.1
  have hml := hC.1.2.2.1
  have hown := hC.1.2.2.2.1
  have hts := hC.1.2.2.2.2
  have hl : lv_has ls 1 [(0, .ref h0)] := hl
  refine lv_aload_n hx hb dX4_init_0 rfl (lv_at hl 0 rfl) ?_
  refine W.objInit hx hb hown (hts (.methodLink RX4 3 objectInit) (List.mem_of_getElem? (i := 1) rfl)) (hts (.instanceMethod objectInit) (List.mem_of_getElem? (i := 2) rfl)) (hts (.code objectInit ⟨#[0xb1]⟩ 1 none) (List.mem_of_getElem? (i := 3) rfl)) rfl (by rw [hml]; exact hl.1) rfl dX4_init_1 (Nat.le_of_ble_eq_true rfl) (Nat.le_of_ble_eq_true rfl) ?_
  refine W.eq (g2 := F0 m 4 ls []) rfl ?_
  refine lv_aload_n hx hb dX4_init_4 rfl (lv_at hl 0 rfl) ?_
  refine lv_bipush (v := (60 : Int32)) hx hb dX4_init_5 (by decide) ?_
  refine k_newi (n' := 60) hC (List.mem_of_getElem? (i := 4) rfl) hP hD hS hA (by decide) rfl (by decide) (Nat.le_of_ble_eq_true rfl) (Nat.le_of_ble_eq_true rfl) dX4_init_7 (fun a0 H hP hD hS => ?_)
  have hP : va_P g.1 vwCl [(h0, .inr (4, [.int 0, .null])), (a0, .inl (g.2.1, 60, .inl (fun _ => 0)))] H := hP
  have hD : va_D A [(h0, .inr (4, [.int 0, .null])), (a0, .inl (g.2.1, 60, .inl (fun _ => 0)))] := hD
  refine va_putF (D := g.1) (cl := vwCl) (fs := [.int 0, .null]) (ci := 4) (v := .ref a0) (ty := .array .int) (C := RX4) (T := TX4) (N := 2) hx hb hts uX4_init_X4 tyX4 tyX4_ok nmX4 hown hC.2.1 hP hD hS 0 rfl rfl 1 (by decide) (hts _ (List.mem_of_getElem? (i := 5) rfl)) (fun _ h9 => h9) rfl hin rfl (tyX4_ok 1 (by decide)) rfl rfl (Nat.le_of_ble_eq_true rfl) dX4_init_9 (fun H locs hP hD hS => ?_)
  have hP : va_P g.1 vwCl [(h0, .inr (4, [.int 0, .ref a0])), (a0, .inl (g.2.1, 60, .inl (fun _ => 0)))] H := hP
  have hD : va_D A [(h0, .inr (4, [.int 0, .ref a0])), (a0, .inl (g.2.1, 60, .inl (fun _ => 0)))] := hD
  refine W.widen (k := 1) (n := 60) (Nat.le_refl _) (Nat.le_refl _) ?_
  exact CvN.ret (U := Nat → Nat) (w' := fun q => wX4 g q z_X4) (fun k => if k = 1 then a0 else h0) hC hr hlk hA9 rfl hP hD hS dX4_init_12
