/-! laid by wip/whole/mkctor.py: what the constructors make -/
theorem df_X7 : ∀ j, j < 5 → defaultValue (tyX7 j) = vp_V [.null, .null, .null, .null, .null] j := by
  intro j hj
  match j, hj with
  | 0, _ => rfl
  | 1, _ => rfl
  | 2, _ => rfl
  | 3, _ => rfl
  | 4, _ => rfl
  | j + 5, hj => exact absurd hj (by omega)
abbrev RM_X7_init : Room := { frames := 3, cells := 32, slots := 449, locals := 52 }
theorem uX7_init_X0 : ∀ w ∈ u_ws RX0 TX0 3, w ∈ wsX7_init := fun w h => List.mem_cons_of_mem _ (List.mem_append_left _ (List.mem_append_left _ (List.mem_append_left _ (List.mem_append_left _ (List.mem_append_left _ (List.mem_append_left _ (List.mem_append_left _ (List.mem_append_right _ h))))))))
theorem uX7_init_X1 : ∀ w ∈ u_ws RX1 TX1 14, w ∈ wsX7_init := fun w h => List.mem_cons_of_mem _ (List.mem_append_left _ (List.mem_append_left _ (List.mem_append_left _ (List.mem_append_right _ h))))
theorem uX7_init_X2 : ∀ w ∈ u_ws RX2 TX2 5, w ∈ wsX7_init := fun w h => List.mem_cons_of_mem _ (List.mem_append_left _ (List.mem_append_left _ (List.mem_append_left _ (List.mem_append_left _ (List.mem_append_right _ h)))))
theorem uX7_init_X4 : ∀ w ∈ u_ws RX4 TX4 2, w ∈ wsX7_init := fun w h => List.mem_cons_of_mem _ (List.mem_append_left _ (List.mem_append_left _ (List.mem_append_left _ (List.mem_append_left _ (List.mem_append_left _ (List.mem_append_right _ h))))))
theorem uX7_init_X7 : ∀ w ∈ u_ws RX7 TX7 5, w ∈ wsX7_init := fun w h => List.mem_cons_of_mem _ (List.mem_append_left _ (List.mem_append_left _ (List.mem_append_left _ (List.mem_append_left _ (List.mem_append_left _ (List.mem_append_left _ (List.mem_append_right _ h)))))))
def wn_X7 (g : GG) (u : (Nat → Nat) × (Nat → Nat) × (Nat → Nat) × (Nat → Nat) × (Nat → Nat) × (Nat → Nat) × (Nat → Nat) × (Nat → Nat) × (Nat → Nat)) : va_W := (wX7 g u.1 u.2.1 u.2.2.2.2.2.1 u.2.2.2.2.2.2.1 u.2.2.2.2.2.2.2.2 ++ (wX0 g u.2.1 u.2.2.1 u.2.2.2.1 u.2.2.2.2.1 ++ (wX3 g u.2.2.1 z_X3 ++ (wX6 g u.2.2.2.1 z_X6 ++ (wX5 g u.2.2.2.2.1 z_X5 ++ (wX4 g u.2.2.2.2.2.1 z_X4 ++ (wX2 g u.2.2.2.2.2.2.1 u.2.2.2.2.2.2.2.1 z_X2 ++ (wX3 g u.2.2.2.2.2.2.2.1 z_X3 ++ (wX1 g u.2.2.2.2.2.2.2.2 z_X1 ++ ([(u.1 1, .inl (g.2.2.2, 2, .inr (.inr (.inr (.inr (fun _ => none))))))]))))))))))
set_option maxRecDepth 100000 in
set_option maxHeartbeats 1000000 in
theorem c_X7_init (l : Launch) (g : GG) (h0 : Nat) : CvN (U := (Nat → Nat) × (Nat → Nat) × (Nat → Nat) × (Nat → Nat) × (Nat → Nat) × (Nat → Nat) × (Nat → Nat) × (Nat → Nat) × (Nat → Nat)) EA l yX7_init wsX7_init RM_X7_init g [.ref h0] [(h0, .inr (7, [.null, .null, .null, .null, .null]))] 32 449 (fun u => u.1 100 = h0) (fun u => wn_X7 g u) := by
  intro sz
  refine Met.ofCN (cc := cX7_init) (maxL := 1) (ret := none) (by decide) rfl (Nat.le_of_ble_eq_true rfl) ?_
  intro p e s m below meth c hC hr hlk hin hE hsz A hA9 hA hP hD hS ls hl
  subst hsz
  have hC : Cx p s m ([.ref h0] : List Value).toArray c RX7 cX7_init 1 wsX7_init g := hC
  have hx := hC.1.1
  have hb := hC.1.2.1
  have hml := hC.1.2.2.1
  have hown := hC.1.2.2.2.1
  have hts := hC.1.2.2.2.2
  have hl : lv_has ls 1 [(0, .ref h0)] := hl
  refine lv_aload_n hx hb dX7_init_0 rfl (lv_at hl 0 rfl) ?_
  refine W.objInit hx hb hown (hts (.methodLink RX7 1 objectInit) (List.mem_of_getElem? (i := 1) rfl)) (hts (.instanceMethod objectInit) (List.mem_of_getElem? (i := 2) rfl)) (hts (.code objectInit ⟨#[0xb1]⟩ 1 none) (List.mem_of_getElem? (i := 3) rfl)) rfl (by rw [hml]; exact hl.1) rfl dX7_init_1 (Nat.le_of_ble_eq_true rfl) (Nat.le_of_ble_eq_true rfl) ?_
  refine W.eq (g2 := F0 m 4 ls []) rfl ?_
  refine lv_aload_n hx hb dX7_init_4 rfl (lv_at hl 0 rfl) ?_
  refine va_new (ci := 0) (fs := [.null, .null, .null]) (C := RX0) (T := TX0) (N := 3) hx hb hts uX7_init_X0 tyX0 tyX0_ok hown (hts (.classLink RX7 7 RX0) (List.mem_of_getElem? (i := 4) rfl)) (hts (.instantiable RX0 3) (List.mem_of_getElem? (i := 5) rfl)) (hts (.initialized RX0) (List.mem_of_getElem? (i := 6) rfl)) hC.2.1 hP hD hS hA rfl df_X0 (Nat.le_of_ble_eq_true rfl) (Nat.le_of_ble_eq_true rfl) dX7_init_5 (fun b0 H hP hD hS => ?_)
  refine lv_dup hx hb dX7_init_8 rfl ?_
  refine k_ctorN (rest := [.ref b0, .ref h0]) (wc := [(b0, .inr (0, [.null, .null, .null]))]) (bytes := cX0_init) (maxL := 1) hC hl.1 (c_X0_init l g b0) rfl ggX7_init_X0_init (List.mem_of_getElem? (i := 3) rfl) (List.mem_of_getElem? (i := 6) rfl) (List.mem_of_getElem? (i := 21) rfl) rfl (by decide +kernel) ⟨Nat.le_of_ble_eq_true rfl, Nat.le_of_ble_eq_true rfl⟩ rfl rfl (Nat.le_of_ble_eq_true rfl) ⟨Nat.le_of_ble_eq_true rfl, Nat.le_of_ble_eq_true rfl⟩ dX7_init_9 hP hD hS hA List.perm_append_comm (fun u1 H locs hpu hP hD hS => ?_)
  have hpu : u1.1 100 = b0 := hpu
  rw [← hpu]
  refine va_putF (D := g.1) (cl := vwCl) (fs := [.null, .null, .null, .null, .null]) (ci := 7) (v := .ref (u1.1 100)) (ty := .object "BrickOven$Bakery") (C := RX7) (T := TX7) (N := 5) hx hb hts uX7_init_X7 tyX7 tyX7_ok nmX7 hown hC.2.1 hP hD hS 14 rfl rfl 0 (by decide) (hts _ (List.mem_of_getElem? (i := 7) rfl)) (fun _ h9 => h9) rfl hin rfl (tyX7_ok 0 (by decide)) rfl rfl (Nat.le_of_ble_eq_true rfl) dX7_init_12 (fun H locs hP hD hS => ?_)
  refine lv_aload_n hx hb dX7_init_15 rfl (lv_at hl 0 rfl) ?_
  refine lv_iconst (v := 2) hx hb dX7_init_16 (by decide) ?_
  refine k_newq (n' := 2) hC hE (List.mem_of_getElem? (i := 4) rfl) hP hD hS hA (by decide) rfl (by decide) (Nat.le_of_ble_eq_true rfl) (Nat.le_of_ble_eq_true rfl) dX7_init_17 (fun a0 H hP hD hS => ?_)
  refine va_putF (D := g.1) (cl := vwCl) (fs := [.ref (u1.1 100), .null, .null, .null, .null]) (ci := 7) (v := .ref a0) (ty := .array (.object "BrickOven$Bakery")) (C := RX7) (T := TX7) (N := 5) hx hb hts uX7_init_X7 tyX7 tyX7_ok nmX7 hown hC.2.1 hP hD hS 14 rfl rfl 1 (by decide) (hts _ (List.mem_of_getElem? (i := 8) rfl)) (fun _ h9 => h9) rfl hin rfl (tyX7_ok 1 (by decide)) rfl rfl (Nat.le_of_ble_eq_true rfl) dX7_init_20 (fun H locs hP hD hS => ?_)
  refine lv_aload_n hx hb dX7_init_23 rfl (lv_at hl 0 rfl) ?_
  refine va_new (ci := 4) (fs := [.int 0, .null]) (C := RX4) (T := TX4) (N := 2) hx hb hts uX7_init_X4 tyX4 tyX4_ok hown (hts (.classLink RX7 20 RX4) (List.mem_of_getElem? (i := 9) rfl)) (hts (.instantiable RX4 2) (List.mem_of_getElem? (i := 10) rfl)) (hts (.initialized RX4) (List.mem_of_getElem? (i := 11) rfl)) hC.2.1 hP hD hS hA rfl df_X4 (Nat.le_of_ble_eq_true rfl) (Nat.le_of_ble_eq_true rfl) dX7_init_24 (fun b1 H hP hD hS => ?_)
  refine lv_dup hx hb dX7_init_27 rfl ?_
  refine k_ctorN (rest := [.ref b1, .ref h0]) (wc := [(b1, .inr (4, [.int 0, .null]))]) (bytes := cX4_init) (maxL := 1) hC hl.1 (c_X4_init l g b1) rfl ggX7_init_X4_init (List.mem_of_getElem? (i := 0) rfl) (List.mem_of_getElem? (i := 11) rfl) (List.mem_of_getElem? (i := 61) rfl) rfl (by decide +kernel) ⟨Nat.le_of_ble_eq_true rfl, Nat.le_of_ble_eq_true rfl⟩ rfl rfl (Nat.le_of_ble_eq_true rfl) ⟨Nat.le_of_ble_eq_true rfl, Nat.le_of_ble_eq_true rfl⟩ dX7_init_28 hP hD hS hA List.perm_append_comm (fun u2 H locs hpu hP hD hS => ?_)
  have hpu : u2 100 = b1 := hpu
  rw [← hpu]
  refine va_putF (D := g.1) (cl := vwCl) (fs := [.ref (u1.1 100), .ref a0, .null, .null, .null]) (ci := 7) (v := .ref (u2 100)) (ty := .object "BrickOven$Pad") (C := RX7) (T := TX7) (N := 5) hx hb hts uX7_init_X7 tyX7 tyX7_ok nmX7 hown hC.2.1 hP hD hS 16 rfl rfl 2 (by decide) (hts _ (List.mem_of_getElem? (i := 12) rfl)) (fun _ h9 => h9) rfl hin rfl (tyX7_ok 2 (by decide)) rfl rfl (Nat.le_of_ble_eq_true rfl) dX7_init_31 (fun H locs hP hD hS => ?_)
  refine lv_aload_n hx hb dX7_init_34 rfl (lv_at hl 0 rfl) ?_
  refine va_new (ci := 2) (fs := [.null, .int 0, .int 0, .int 0, .int 0]) (C := RX2) (T := TX2) (N := 5) hx hb hts uX7_init_X2 tyX2 tyX2_ok hown (hts (.classLink RX7 27 RX2) (List.mem_of_getElem? (i := 13) rfl)) (hts (.instantiable RX2 5) (List.mem_of_getElem? (i := 14) rfl)) (hts (.initialized RX2) (List.mem_of_getElem? (i := 15) rfl)) hC.2.1 hP hD hS hA rfl df_X2 (Nat.le_of_ble_eq_true rfl) (Nat.le_of_ble_eq_true rfl) dX7_init_35 (fun b2 H hP hD hS => ?_)
  refine lv_dup hx hb dX7_init_38 rfl ?_
  refine k_ctorN (rest := [.ref b2, .ref h0]) (wc := [(b2, .inr (2, [.null, .int 0, .int 0, .int 0, .int 0]))]) (bytes := cX2_init) (maxL := 1) hC hl.1 (c_X2_init l g b2) rfl ggX7_init_X2_init (List.mem_of_getElem? (i := 1) rfl) (List.mem_of_getElem? (i := 15) rfl) (List.mem_of_getElem? (i := 65) rfl) rfl (by decide +kernel) ⟨Nat.le_of_ble_eq_true rfl, Nat.le_of_ble_eq_true rfl⟩ rfl rfl (Nat.le_of_ble_eq_true rfl) ⟨Nat.le_of_ble_eq_true rfl, Nat.le_of_ble_eq_true rfl⟩ dX7_init_39 hP hD hS hA List.perm_append_comm (fun u3 H locs hpu hP hD hS => ?_)
  have hpu : u3.1 100 = b2 := hpu
  rw [← hpu]
  refine va_putF (D := g.1) (cl := vwCl) (fs := [.ref (u1.1 100), .ref a0, .ref (u2 100), .null, .null]) (ci := 7) (v := .ref (u3.1 100)) (ty := .object "BrickOven$Day") (C := RX7) (T := TX7) (N := 5) hx hb hts uX7_init_X7 tyX7 tyX7_ok nmX7 hown hC.2.1 hP hD hS 23 rfl rfl 3 (by decide) (hts _ (List.mem_of_getElem? (i := 16) rfl)) (fun _ h9 => h9) rfl hin rfl (tyX7_ok 3 (by decide)) rfl rfl (Nat.le_of_ble_eq_true rfl) dX7_init_42 (fun H locs hP hD hS => ?_)
  refine lv_aload_n hx hb dX7_init_45 rfl (lv_at hl 0 rfl) ?_
  refine va_new (ci := 1) (fs := [.int 0, .null, .null, .null, .null, .int 0, .int 0, .int 0, .null, .null, .null, .int 0, .int 0, .int 0]) (C := RX1) (T := TX1) (N := 14) hx hb hts uX7_init_X1 tyX1 tyX1_ok hown (hts (.classLink RX7 34 RX1) (List.mem_of_getElem? (i := 17) rfl)) (hts (.instantiable RX1 14) (List.mem_of_getElem? (i := 18) rfl)) (hts (.initialized RX1) (List.mem_of_getElem? (i := 19) rfl)) hC.2.1 hP hD hS hA rfl df_X1 (Nat.le_of_ble_eq_true rfl) (Nat.le_of_ble_eq_true rfl) dX7_init_46 (fun b3 H hP hD hS => ?_)
  refine lv_dup hx hb dX7_init_49 rfl ?_
  refine k_ctorN (rest := [.ref b3, .ref h0]) (wc := [(b3, .inr (1, [.int 0, .null, .null, .null, .null, .int 0, .int 0, .int 0, .null, .null, .null, .int 0, .int 0, .int 0]))]) (bytes := cX1_init) (maxL := 1) hC hl.1 (c_X1_init l g b3) rfl ggX7_init_X1_init (List.mem_of_getElem? (i := 2) rfl) (List.mem_of_getElem? (i := 19) rfl) (List.mem_of_getElem? (i := 70) rfl) rfl (by decide +kernel) ⟨Nat.le_of_ble_eq_true rfl, Nat.le_of_ble_eq_true rfl⟩ rfl rfl (Nat.le_of_ble_eq_true rfl) ⟨Nat.le_of_ble_eq_true rfl, Nat.le_of_ble_eq_true rfl⟩ dX7_init_50 hP hD hS hA List.perm_append_comm (fun u4 H locs hpu hP hD hS => ?_)
  have hpu : u4 100 = b3 := hpu
  rw [← hpu]
  refine va_putF (D := g.1) (cl := vwCl) (fs := [.ref (u1.1 100), .ref a0, .ref (u2 100), .ref (u3.1 100), .null]) (ci := 7) (v := .ref (u4 100)) (ty := .object "BrickOven$Batch") (C := RX7) (T := TX7) (N := 5) hx hb hts uX7_init_X7 tyX7 tyX7_ok nmX7 hown hC.2.1 hP hD hS 31 rfl rfl 4 (by decide) (hts _ (List.mem_of_getElem? (i := 20) rfl)) (fun _ h9 => h9) rfl hin rfl (tyX7_ok 4 (by decide)) rfl rfl (Nat.le_of_ble_eq_true rfl) dX7_init_53 (fun H locs hP hD hS => ?_)
  refine W.widen (k := 32) (n := 449) (Nat.le_refl _) (Nat.le_refl _) ?_
  have hp : List.Perm (wX1 g u4 z_X1 ++ ((wX2 g u3.1 u3.2 z_X2 ++ (wX3 g u3.2 z_X3)) ++ (wX4 g u2 z_X4 ++ ((wX0 g u1.1 u1.2.1 u1.2.2.1 u1.2.2.2 ++ (wX3 g u1.2.1 z_X3 ++ (wX6 g u1.2.2.1 z_X6 ++ (wX5 g u1.2.2.2 z_X5)))) ++ ([(h0, .inr (7, [.ref (u1.1 100), .ref a0, .ref (u2 100), .ref (u3.1 100), .ref (u4 100)]))] ++ ([(a0, .inl (g.2.2.2, 2, .inr (.inr (.inr (.inr (fun _ => none))))))])))))) (wn_X7 g ((fun k => if k = 1 then a0 else h0), u1.1, u1.2.1, u1.2.2.1, u1.2.2.2, u2, u3.1, u3.2, u4)) := pr5 _ _ _ _ _ _
  exact CvN.ret (w' := fun u => wn_X7 g u) ((fun k => if k = 1 then a0 else h0), u1.1, u1.2.1, u1.2.2.1, u1.2.2.2, u2, u3.1, u3.2, u4) hC hr hlk hA9 rfl (wp_perm hp hP) (wd_perm hp hD) hS dX7_init_56
