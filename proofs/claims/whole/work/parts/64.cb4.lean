/-! laid by wip/whole/mkctor.py: what the constructors make -/
theorem df_X0 : ∀ j, j < 3 → defaultValue (tyX0 j) = vp_V [.null, .null, .null] j := by
  intro j hj
  match j, hj with
  | 0, _ => rfl
  | 1, _ => rfl
  | 2, _ => rfl
  | j + 3, hj => exact absurd hj (by omega)
abbrev RM_X0_init : Room := { frames := 2, cells := 13, slots := 110, locals := 32 }
theorem uX0_init_X0 : ∀ w ∈ u_ws RX0 TX0 3, w ∈ wsX0_init := fun w h => List.mem_cons_of_mem _ (List.mem_append_left _ (List.mem_append_left _ (List.mem_append_right _ h)))
theorem uX0_init_X3 : ∀ w ∈ u_ws RX3 TX3 11, w ∈ wsX0_init := fun w h => List.mem_cons_of_mem _ (List.mem_append_left _ (List.mem_append_left _ (List.mem_append_left _ (List.mem_append_right _ h))))
theorem uX0_init_X5 : ∀ w ∈ u_ws RX5 TX5 2, w ∈ wsX0_init := fun w h => List.mem_cons_of_mem _ (List.mem_append_right _ h)
theorem uX0_init_X6 : ∀ w ∈ u_ws RX6 TX6 5, w ∈ wsX0_init := fun w h => List.mem_cons_of_mem _ (List.mem_append_left _ (List.mem_append_right _ h))
def wn_X0 (g : GG) (u : (Nat → Nat) × (Nat → Nat) × (Nat → Nat) × (Nat → Nat)) : va_W := (wX0 g u.1 u.2.1 u.2.2.1 u.2.2.2 ++ (wX3 g u.2.1 z_X3 ++ (wX6 g u.2.2.1 z_X6 ++ (wX5 g u.2.2.2 z_X5))))
set_option maxRecDepth 100000 in
set_option maxHeartbeats 1000000 in
theorem c_X0_init (l : Launch) (g : GG) (h0 : Nat) : CvN (U := (Nat → Nat) × (Nat → Nat) × (Nat → Nat) × (Nat → Nat)) E0 l yX0_init wsX0_init RM_X0_init g [.ref h0] [(h0, .inr (0, [.null, .null, .null]))] 13 110 (fun u => u.1 100 = h0) (fun u => wn_X0 g u) := by
  intro sz
  refine Met.ofCN (cc := cX0_init) (maxL := 1) (ret := none) (by decide) rfl (Nat.le_of_ble_eq_true rfl) ?_
  intro p e s m below meth c hC hr hlk hin hE hsz A hA9 hA hP hD hS ls hl
  subst hsz
  have hC : Cx p s m ([.ref h0] : List Value).toArray c RX0 cX0_init 1 wsX0_init g := hC
  have hx := hC.1.1
  have hb := hC.1.2.1
  have hml := hC.1.2.2.1
  have hown := hC.1.2.2.2.1
  have hts := hC.1.2.2.2.2
  have hl : lv_has ls 1 [(0, .ref h0)] := hl
  refine lv_aload_n hx hb dX0_init_0 rfl (lv_at hl 0 rfl) ?_
  refine W.objInit hx hb hown (hts (.methodLink RX0 1 objectInit) (List.mem_of_getElem? (i := 1) rfl)) (hts (.instanceMethod objectInit) (List.mem_of_getElem? (i := 2) rfl)) (hts (.code objectInit ⟨#[0xb1]⟩ 1 none) (List.mem_of_getElem? (i := 3) rfl)) rfl (by rw [hml]; exact hl.1) rfl dX0_init_1 (Nat.le_of_ble_eq_true rfl) (Nat.le_of_ble_eq_true rfl) ?_
  refine W.eq (g2 := F0 m 4 ls []) rfl ?_
  refine lv_aload_n hx hb dX0_init_4 rfl (lv_at hl 0 rfl) ?_
  refine va_new (ci := 3) (fs := [.int 0, .int 0, .int 0, .int 0, .int 0, .int 0, .null, .null, .null, .null, .null]) (C := RX3) (T := TX3) (N := 11) hx hb hts uX0_init_X3 tyX3 tyX3_ok hown (hts (.classLink RX0 7 RX3) (List.mem_of_getElem? (i := 4) rfl)) (hts (.instantiable RX3 11) (List.mem_of_getElem? (i := 5) rfl)) (hts (.initialized RX3) (List.mem_of_getElem? (i := 6) rfl)) hC.2.1 hP hD hS hA rfl df_X3 (Nat.le_of_ble_eq_true rfl) (Nat.le_of_ble_eq_true rfl) dX0_init_5 (fun b0 H hP hD hS => ?_)
  refine lv_dup hx hb dX0_init_8 rfl ?_
  refine k_ctorN (rest := [.ref b0, .ref h0]) (wc := [(b0, .inr (3, [.int 0, .int 0, .int 0, .int 0, .int 0, .int 0, .null, .null, .null, .null, .null]))]) (bytes := cX3_init) (maxL := 1) hC hl.1 (c_X3_init l g b0) rfl ggX0_init_X3_init (List.mem_of_getElem? (i := 6) rfl) (List.mem_of_getElem? (i := 6) rfl) (List.mem_of_getElem? (i := 16) rfl) rfl (by decide +kernel) ⟨Nat.le_of_ble_eq_true rfl, Nat.le_of_ble_eq_true rfl⟩ rfl rfl (Nat.le_of_ble_eq_true rfl) ⟨Nat.le_of_ble_eq_true rfl, Nat.le_of_ble_eq_true rfl⟩ dX0_init_9 hP hD hS hA List.perm_append_comm (fun u1 H locs hpu hP hD hS => ?_)
  have hpu : u1 100 = b0 := hpu
  rw [← hpu]
  refine va_putF (D := g.1) (cl := vwCl) (fs := [.null, .null, .null]) (ci := 0) (v := .ref (u1 100)) (ty := .object "BrickOven$Oven") (C := RX0) (T := TX0) (N := 3) hx hb hts uX0_init_X0 tyX0 tyX0_ok nmX0 hown hC.2.1 hP hD hS 6 rfl rfl 0 (by decide) (hts _ (List.mem_of_getElem? (i := 7) rfl)) (fun _ h9 => h9) rfl hin rfl (tyX0_ok 0 (by decide)) rfl rfl (Nat.le_of_ble_eq_true rfl) dX0_init_12 (fun H locs hP hD hS => ?_)
  refine lv_aload_n hx hb dX0_init_15 rfl (lv_at hl 0 rfl) ?_
  refine va_new (ci := 6) (fs := [.int 0, .null, .null, .null, .null]) (C := RX6) (T := TX6) (N := 5) hx hb hts uX0_init_X6 tyX6 tyX6_ok hown (hts (.classLink RX0 16 RX6) (List.mem_of_getElem? (i := 8) rfl)) (hts (.instantiable RX6 5) (List.mem_of_getElem? (i := 9) rfl)) (hts (.initialized RX6) (List.mem_of_getElem? (i := 10) rfl)) hC.2.1 hP hD hS hA rfl df_X6 (Nat.le_of_ble_eq_true rfl) (Nat.le_of_ble_eq_true rfl) dX0_init_16 (fun b1 H hP hD hS => ?_)
  refine lv_dup hx hb dX0_init_19 rfl ?_
  refine k_ctorN (rest := [.ref b1, .ref h0]) (wc := [(b1, .inr (6, [.int 0, .null, .null, .null, .null]))]) (bytes := cX6_init) (maxL := 1) hC hl.1 (c_X6_init l g b1) rfl ggX0_init_X6_init (List.mem_of_getElem? (i := 4) rfl) (List.mem_of_getElem? (i := 10) rfl) (List.mem_of_getElem? (i := 30) rfl) rfl (by decide +kernel) ⟨Nat.le_of_ble_eq_true rfl, Nat.le_of_ble_eq_true rfl⟩ rfl rfl (Nat.le_of_ble_eq_true rfl) ⟨Nat.le_of_ble_eq_true rfl, Nat.le_of_ble_eq_true rfl⟩ dX0_init_20 hP hD hS hA List.perm_append_comm (fun u2 H locs hpu hP hD hS => ?_)
  have hpu : u2 100 = b1 := hpu
  rw [← hpu]
  refine va_putF (D := g.1) (cl := vwCl) (fs := [.ref (u1 100), .null, .null]) (ci := 0) (v := .ref (u2 100)) (ty := .object "BrickOven$Sorts") (C := RX0) (T := TX0) (N := 3) hx hb hts uX0_init_X0 tyX0 tyX0_ok nmX0 hown hC.2.1 hP hD hS 11 rfl rfl 1 (by decide) (hts _ (List.mem_of_getElem? (i := 11) rfl)) (fun _ h9 => h9) rfl hin rfl (tyX0_ok 1 (by decide)) rfl rfl (Nat.le_of_ble_eq_true rfl) dX0_init_23 (fun H locs hP hD hS => ?_)
  refine lv_aload_n hx hb dX0_init_26 rfl (lv_at hl 0 rfl) ?_
  refine va_new (ci := 5) (fs := [.int 0, .null]) (C := RX5) (T := TX5) (N := 2) hx hb hts uX0_init_X5 tyX5 tyX5_ok hown (hts (.classLink RX0 23 RX5) (List.mem_of_getElem? (i := 12) rfl)) (hts (.instantiable RX5 2) (List.mem_of_getElem? (i := 13) rfl)) (hts (.initialized RX5) (List.mem_of_getElem? (i := 14) rfl)) hC.2.1 hP hD hS hA rfl df_X5 (Nat.le_of_ble_eq_true rfl) (Nat.le_of_ble_eq_true rfl) dX0_init_27 (fun b2 H hP hD hS => ?_)
  refine lv_dup hx hb dX0_init_30 rfl ?_
  refine k_ctorN (rest := [.ref b2, .ref h0]) (wc := [(b2, .inr (5, [.int 0, .null]))]) (bytes := cX5_init) (maxL := 1) hC hl.1 (c_X5_init l g b2) rfl ggX0_init_X5_init (List.mem_of_getElem? (i := 5) rfl) (List.mem_of_getElem? (i := 14) rfl) (List.mem_of_getElem? (i := 37) rfl) rfl (by decide +kernel) ⟨Nat.le_of_ble_eq_true rfl, Nat.le_of_ble_eq_true rfl⟩ rfl rfl (Nat.le_of_ble_eq_true rfl) ⟨Nat.le_of_ble_eq_true rfl, Nat.le_of_ble_eq_true rfl⟩ dX0_init_31 hP hD hS hA List.perm_append_comm (fun u3 H locs hpu hP hD hS => ?_)
  have hpu : u3 100 = b2 := hpu
  rw [← hpu]
  refine va_putF (D := g.1) (cl := vwCl) (fs := [.ref (u1 100), .ref (u2 100), .null]) (ci := 0) (v := .ref (u3 100)) (ty := .object "BrickOven$Sights") (C := RX0) (T := TX0) (N := 3) hx hb hts uX0_init_X0 tyX0 tyX0_ok nmX0 hown hC.2.1 hP hD hS 13 rfl rfl 2 (by decide) (hts _ (List.mem_of_getElem? (i := 15) rfl)) (fun _ h9 => h9) rfl hin rfl (tyX0_ok 2 (by decide)) rfl rfl (Nat.le_of_ble_eq_true rfl) dX0_init_34 (fun H locs hP hD hS => ?_)
  refine W.widen (k := 13) (n := 110) (Nat.le_refl _) (Nat.le_refl _) ?_
  have hp : List.Perm (wX5 g u3 z_X5 ++ (wX6 g u2 z_X6 ++ (wX3 g u1 z_X3 ++ ([(h0, .inr (0, [.ref (u1 100), .ref (u2 100), .ref (u3 100)]))])))) (wn_X0 g ((fun k => h0), u1, u2, u3)) := pr4n _ _ _ _
  exact CvN.ret (w' := fun u => wn_X0 g u) ((fun k => h0), u1, u2, u3) hC hr hlk hA9 rfl (wp_perm hp hP) (wd_perm hp hD) hS dX0_init_37
def z_X2 : St := (fun _ => 0, fun _ _ => 0)
theorem df_X2 : ∀ j, j < 5 → defaultValue (tyX2 j) = vp_V [.null, .int 0, .int 0, .int 0, .int 0] j := by
  intro j hj
  match j, hj with
  | 0, _ => rfl
  | 1, _ => rfl
  | 2, _ => rfl
  | 3, _ => rfl
  | 4, _ => rfl
  | j + 5, hj => exact absurd hj (by omega)
abbrev RM_X2_init : Room := { frames := 2, cells := 6, slots := 73, locals := 32 }
theorem uX2_init_X2 : ∀ w ∈ u_ws RX2 TX2 5, w ∈ wsX2_init := fun w h => List.mem_cons_of_mem _ (List.mem_append_right _ h)
theorem uX2_init_X3 : ∀ w ∈ u_ws RX3 TX3 11, w ∈ wsX2_init := fun w h => List.mem_cons_of_mem _ (List.mem_append_left _ (List.mem_append_right _ h))
def wn_X2 (g : GG) (u : (Nat → Nat) × (Nat → Nat)) : va_W := (wX2 g u.1 u.2 z_X2 ++ (wX3 g u.2 z_X3))
set_option maxRecDepth 100000 in
set_option maxHeartbeats 1000000 in
theorem c_X2_init (l : Launch) (g : GG) (h0 : Nat) : CvN (U := (Nat → Nat) × (Nat → Nat)) E0 l yX2_init wsX2_init RM_X2_init g [.ref h0] [(h0, .inr (2, [.null, .int 0, .int 0, .int 0, .int 0]))] 6 73 (fun u => u.1 100 = h0) (fun u => wn_X2 g u) := by
  intro sz
  refine Met.ofCN (cc := cX2_init) (maxL := 1) (ret := none) (by decide) rfl (Nat.le_of_ble_eq_true rfl) ?_
  intro p e s m below meth c hC hr hlk hin hE hsz A hA9 hA hP hD hS ls hl
  subst hsz
  have hC : Cx p s m ([.ref h0] : List Value).toArray c RX2 cX2_init 1 wsX2_init g := hC
  have hx := hC.1.1
  have hb := hC.1.2.1
  have hml := hC.1.2.2.1
  have hown := hC.1.2.2.2.1
  have hts := hC.1.2.2.2.2
  have hl : lv_has ls 1 [(0, .ref h0)] := hl
  refine lv_aload_n hx hb dX2_init_0 rfl (lv_at hl 0 rfl) ?_
  refine W.objInit hx hb hown (hts (.methodLink RX2 3 objectInit) (List.mem_of_getElem? (i := 1) rfl)) (hts (.instanceMethod objectInit) (List.mem_of_getElem? (i := 2) rfl)) (hts (.code objectInit ⟨#[0xb1]⟩ 1 none) (List.mem_of_getElem? (i := 3) rfl)) rfl (by rw [hml]; exact hl.1) rfl dX2_init_1 (Nat.le_of_ble_eq_true rfl) (Nat.le_of_ble_eq_true rfl) ?_
  refine W.eq (g2 := F0 m 4 ls []) rfl ?_
  refine lv_aload_n hx hb dX2_init_4 rfl (lv_at hl 0 rfl) ?_
  refine va_new (ci := 3) (fs := [.int 0, .int 0, .int 0, .int 0, .int 0, .int 0, .null, .null, .null, .null, .null]) (C := RX3) (T := TX3) (N := 11) hx hb hts uX2_init_X3 tyX3 tyX3_ok hown (hts (.classLink RX2 9 RX3) (List.mem_of_getElem? (i := 4) rfl)) (hts (.instantiable RX3 11) (List.mem_of_getElem? (i := 5) rfl)) (hts (.initialized RX3) (List.mem_of_getElem? (i := 6) rfl)) hC.2.1 hP hD hS hA rfl df_X3 (Nat.le_of_ble_eq_true rfl) (Nat.le_of_ble_eq_true rfl) dX2_init_5 (fun b0 H hP hD hS => ?_)
  refine lv_dup hx hb dX2_init_8 rfl ?_
  refine k_ctorN (rest := [.ref b0, .ref h0]) (wc := [(b0, .inr (3, [.int 0, .int 0, .int 0, .int 0, .int 0, .int 0, .null, .null, .null, .null, .null]))]) (bytes := cX3_init) (maxL := 1) hC hl.1 (c_X3_init l g b0) rfl ggX2_init_X3_init (List.mem_of_getElem? (i := 8) rfl) (List.mem_of_getElem? (i := 6) rfl) (List.mem_of_getElem? (i := 8) rfl) rfl (by decide +kernel) ⟨Nat.le_of_ble_eq_true rfl, Nat.le_of_ble_eq_true rfl⟩ rfl rfl (Nat.le_of_ble_eq_true rfl) ⟨Nat.le_of_ble_eq_true rfl, Nat.le_of_ble_eq_true rfl⟩ dX2_init_9 hP hD hS hA List.perm_append_comm (fun u1 H locs hpu hP hD hS => ?_)
  have hpu : u1 100 = b0 := hpu
  rw [← hpu]
  refine va_putF (D := g.1) (cl := vwCl) (fs := [.null, .int 0, .int 0, .int 0, .int 0]) (ci := 2) (v := .ref (u1 100)) (ty := .object "BrickOven$Oven") (C := RX2) (T := TX2) (N := 5) hx hb hts uX2_init_X2 tyX2 tyX2_ok nmX2 hown hC.2.1 hP hD hS 6 rfl rfl 0 (by decide) (hts _ (List.mem_of_getElem? (i := 7) rfl)) (fun _ h9 => h9) rfl hin rfl (tyX2_ok 0 (by decide)) rfl rfl (Nat.le_of_ble_eq_true rfl) dX2_init_12 (fun H locs hP hD hS => ?_)
  refine W.widen (k := 6) (n := 73) (Nat.le_refl _) (Nat.le_refl _) ?_
  have hp : List.Perm (wX3 g u1 z_X3 ++ ([(h0, .inr (2, [.ref (u1 100), .int 0, .int 0, .int 0, .int 0]))])) (wn_X2 g ((fun k => h0), u1)) := List.perm_append_comm
  exact CvN.ret (w' := fun u => wn_X2 g u) ((fun k => h0), u1) hC hr hlk hA9 rfl (wp_perm hp hP) (wd_perm hp hD) hS dX2_init_15
