/-! laid by wip/whole/mkimg.py: image and restore of the class. Cells: the object, its row of images, the bakery now, the image -/
theorem pr_end {α : Type} (a b c : List α) : (a ++ (b ++ c)).Perm (c ++ (a ++ b)) := by
  have h := List.perm_append_comm (l₁ := a ++ b) (l₂ := c)
  rw [List.append_assoc] at h
  exact h
theorem pr_mid {α : Type} (d a b c : List α) : (d ++ (a ++ (b ++ c))).Perm ((d ++ c) ++ (a ++ b)) := by
  rw [List.append_assoc]
  exact (pr_end a b c).append_left d
theorem pr_end' {α : Type} (a b c : List α) : (c ++ (a ++ b)).Perm (a ++ (b ++ c)) := (pr_end a b c).symm
/-- the row of images -/
def wAR (g : GG) (q : Nat → Nat) (f : Nat → Option Nat) : va_W := [(q 1, .inl (g.2.2.2, 2, .inr (.inr (.inr (.inr f)))))]
theorem within01 (N : Nat) {k : Nat} (hk : k < 2) : f_X7_within N (nI k) 0 1 = some 1 := by
  rw [pv_within, pv_b_t (by rw [t32_0, t32_1, pv_nI _ (by omega)]; omega)]
theorem within01x (N : Nat) {x : Int32} (h : ¬ (0 ≤ x.toInt ∧ x.toInt ≤ 1)) : f_X7_within N x 0 1 = some 0 := by
  rw [pv_within, pv_b_f (by rw [t32_0, t32_1]; exact h)]
theorem uX7_restore_X7 : ∀ w ∈ u_ws RX7 TX7 5, w ∈ wsX7_restore := fun w h => List.mem_cons_of_mem _ (List.mem_append_left _ (List.mem_append_left _ (List.mem_append_left _ (List.mem_append_left _ (List.mem_append_right _ h)))))
theorem uX7_restore_X0 : ∀ w ∈ u_ws RX0 TX0 3, w ∈ wsX7_restore := fun w h => List.mem_cons_of_mem _ (List.mem_append_left _ (List.mem_append_left _ (List.mem_append_left _ (List.mem_append_right _ h))))
abbrev RM_X7_restore : Room := { frames := 4, cells := 0, slots := 0, locals := 80 }
set_option maxRecDepth 100000 in
set_option maxHeartbeats 1000000 in
theorem c_X7_restore_x (l : Launch) (g : GG) (q1 : Nat → Nat) (q2 : Nat → Nat) (q6 : Nat → Nat) (q7 : Nat → Nat) (q9 : Nat → Nat) (x1 : Int32) (hx1 : ¬ (0 ≤ x1.toInt ∧ x1.toInt ≤ 1)) : Ci l yX7_restore wsX7_restore RM_X7_restore g [.ref (q1 100), .int x1] (wX7 g q1 q2 q6 q7 q9) (wX7 g q1 q2 q6 q7 q9) (-2) := by
  intro sz
  refine Met.ofC (cc := cX7_restore) (maxL := 2) (ret := (some .int)) (by decide) rfl (Nat.le_of_ble_eq_true rfl) ?_
  intro p e s m below meth c hC hr hlk hsz A hA9 hA hP hD hS ls hl
  subst hsz
  have hC : Cx p s m ([.ref (q1 100), .int x1] : List Value).toArray c RX7 cX7_restore 2 wsX7_restore g := hC
  have hx := hC.1.1
  have hb := hC.1.2.1
  have hml := hC.1.2.2.1
  have hown := hC.1.2.2.2.1
  have hts := hC.1.2.2.2.2
  have hl : lv_has ls 2 [(0, .ref (q1 100)), (1, .int x1)] := hl
  refine lv_iload_n hx hb dX7_restore_0 rfl (lv_at hl 1 rfl) ?_
  refine lv_iconst (v := (0 : Int32)) hx hb dX7_restore_1 (by decide) ?_
  refine lv_iconst (v := (1 : Int32)) hx hb dX7_restore_2 (by decide) ?_
  refine k_callSi0 (n := 3) (As := [.int (x1), .int (0 : Int32), .int (1 : Int32)]) (rest := []) (wc := ([] : va_W)) (bytes := cX7_within) (maxL := 3) (ret := (some .boolean)) hC hl.1 (c_X7_within l g 0 (x1) (0 : Int32) (1 : Int32) 0 (within01x 0 hx1)) rfl gX7_restore_X7_within (by decide +kernel) ⟨Nat.le_of_ble_eq_true rfl, Nat.le_of_ble_eq_true rfl⟩ rfl rfl rfl (Nat.le_of_ble_eq_true rfl) ⟨Nat.le_of_ble_eq_true rfl, Nat.le_of_ble_eq_true rfl⟩ dX7_restore_3 hP hD hS hA [] rfl (by decide +kernel) (fun H locs hP hD hS => ?_)
  refine lv_if_ne (tgt := 12) hx hb dX7_restore_6 (by decide) (fun q => absurd rfl q) (fun q => ?_)
  refine lv_bipush (v := (-2 : Int32)) hx hb dX7_restore_9 (by decide) ?_
  exact Ci.ret hC hr hlk hA9 hP hD hS dX7_restore_11
theorem uX7_image_X7 : ∀ w ∈ u_ws RX7 TX7 5, w ∈ wsX7_image := fun w h => List.mem_cons_of_mem _ (List.mem_append_left _ (List.mem_append_left _ (List.mem_append_left _ (List.mem_append_left _ (List.mem_append_right _ h)))))
theorem uX7_image_X0 : ∀ w ∈ u_ws RX0 TX0 3, w ∈ wsX7_image := fun w h => List.mem_cons_of_mem _ (List.mem_append_left _ (List.mem_append_left _ (List.mem_append_left _ (List.mem_append_right _ h))))
abbrev RM_X7_image : Room := { frames := 4, cells := 0, slots := 0, locals := 80 }
set_option maxRecDepth 100000 in
set_option maxHeartbeats 1000000 in
theorem c_X7_image_x (l : Launch) (g : GG) (q1 : Nat → Nat) (q2 : Nat → Nat) (q6 : Nat → Nat) (q7 : Nat → Nat) (q9 : Nat → Nat) (x1 : Int32) (hx1 : ¬ (0 ≤ x1.toInt ∧ x1.toInt ≤ 1)) : Ci l yX7_image wsX7_image RM_X7_image g [.ref (q1 100), .int x1] (wX7 g q1 q2 q6 q7 q9) (wX7 g q1 q2 q6 q7 q9) (-2) := by
  intro sz
  refine Met.ofC (cc := cX7_image) (maxL := 2) (ret := (some .int)) (by decide) rfl (Nat.le_of_ble_eq_true rfl) ?_
  intro p e s m below meth c hC hr hlk hsz A hA9 hA hP hD hS ls hl
  subst hsz
  have hC : Cx p s m ([.ref (q1 100), .int x1] : List Value).toArray c RX7 cX7_image 2 wsX7_image g := hC
  have hx := hC.1.1
  have hb := hC.1.2.1
  have hml := hC.1.2.2.1
  have hown := hC.1.2.2.2.1
  have hts := hC.1.2.2.2.2
  have hl : lv_has ls 2 [(0, .ref (q1 100)), (1, .int x1)] := hl
  refine lv_iload_n hx hb dX7_image_0 rfl (lv_at hl 1 rfl) ?_
  refine lv_iconst (v := (0 : Int32)) hx hb dX7_image_1 (by decide) ?_
  refine lv_iconst (v := (1 : Int32)) hx hb dX7_image_2 (by decide) ?_
  refine k_callSi0 (n := 3) (As := [.int (x1), .int (0 : Int32), .int (1 : Int32)]) (rest := []) (wc := ([] : va_W)) (bytes := cX7_within) (maxL := 3) (ret := (some .boolean)) hC hl.1 (c_X7_within l g 0 (x1) (0 : Int32) (1 : Int32) 0 (within01x 0 hx1)) rfl gX7_image_X7_within (by decide +kernel) ⟨Nat.le_of_ble_eq_true rfl, Nat.le_of_ble_eq_true rfl⟩ rfl rfl rfl (Nat.le_of_ble_eq_true rfl) ⟨Nat.le_of_ble_eq_true rfl, Nat.le_of_ble_eq_true rfl⟩ dX7_image_3 hP hD hS hA [] rfl (by decide +kernel) (fun H locs hP hD hS => ?_)
  refine lv_if_ne (tgt := 12) hx hb dX7_image_6 (by decide) (fun q => absurd rfl q) (fun q => ?_)
  refine lv_bipush (v := (-2 : Int32)) hx hb dX7_image_9 (by decide) ?_
  exact Ci.ret hC hr hlk hA9 hP hD hS dX7_image_11
set_option maxRecDepth 100000 in
set_option maxHeartbeats 1000000 in
theorem c_X7_restore_n (l : Launch) (g : GG) (q1 : Nat → Nat) (q2 : Nat → Nat) (q6 : Nat → Nat) (q7 : Nat → Nat) (q9 : Nat → Nat) (f : Nat → Option Nat) {k : Nat} (hk : k < 2) (hfk : f k = none) : Ci l yX7_restore wsX7_restore RM_X7_restore g [.ref (q1 100), .int (nI k)] (wX7 g q1 q2 q6 q7 q9 ++ wAR g q1 f) (wX7 g q1 q2 q6 q7 q9 ++ wAR g q1 f) (-3) := by
  intro sz
  refine Met.ofC (cc := cX7_restore) (maxL := 2) (ret := (some .int)) (by decide) rfl (Nat.le_of_ble_eq_true rfl) ?_
  intro p e s m below meth c hC hr hlk hsz A hA9 hA hP hD hS ls hl
  subst hsz
  have hC : Cx p s m ([.ref (q1 100), .int (nI k)] : List Value).toArray c RX7 cX7_restore 2 wsX7_restore g := hC
  have hx := hC.1.1
  have hb := hC.1.2.1
  have hml := hC.1.2.2.1
  have hown := hC.1.2.2.2.1
  have hts := hC.1.2.2.2.2
  have hl : lv_has ls 2 [(0, .ref (q1 100)), (1, .int (nI k))] := hl
  refine lv_iload_n hx hb dX7_restore_0 rfl (lv_at hl 1 rfl) ?_
  refine lv_iconst (v := (0 : Int32)) hx hb dX7_restore_1 (by decide) ?_
  refine lv_iconst (v := (1 : Int32)) hx hb dX7_restore_2 (by decide) ?_
  refine k_callSi0 (n := 3) (As := [.int (nI k), .int (0 : Int32), .int (1 : Int32)]) (rest := []) (wc := ([] : va_W)) (bytes := cX7_within) (maxL := 3) (ret := (some .boolean)) hC hl.1 (c_X7_within l g 0 (nI k) (0 : Int32) (1 : Int32) 1 (within01 0 hk)) rfl gX7_restore_X7_within (by decide +kernel) ⟨Nat.le_of_ble_eq_true rfl, Nat.le_of_ble_eq_true rfl⟩ rfl rfl rfl (Nat.le_of_ble_eq_true rfl) ⟨Nat.le_of_ble_eq_true rfl, Nat.le_of_ble_eq_true rfl⟩ dX7_restore_3 hP hD hS hA [] rfl (by decide +kernel) (fun H locs hP hD hS => ?_)
  refine lv_if_ne (tgt := 12) hx hb dX7_restore_6 (by decide) (fun q => ?_) (fun q => absurd q (by decide))
  refine lv_aload_n hx hb dX7_restore_12 rfl (lv_at hl 0 rfl) ?_
  refine k_get (ci := 7) (k := 1) (q0 := 0) (v := .ref (q1 1)) (C := RX7) (T := TX7) (N := 5) hC uX7_restore_X7 hP rfl rfl (by decide) (List.mem_of_getElem? (i := 1) rfl) rfl dX7_restore_13 ?_
  refine lv_iload_n hx hb dX7_restore_16 rfl (lv_at hl 1 rfl) ?_
  refine va_aldq (C := "BrickOven$Bakery") hx hb hC.2.1 hP 1 2 rfl rfl (vp_in_nI (n := k) hk (by decide)) dX7_restore_17 ?_
  rw [show va_rf (f (nI k).toNatClampNeg) = .null by rw [nI_clamp (by omega), hfk]; rfl]
  refine lv_ifnonnullN hx hb dX7_restore_18 ?_
  refine lv_bipush (v := (-3 : Int32)) hx hb dX7_restore_21 (by decide) ?_
  exact Ci.ret hC hr hlk hA9 hP hD hS dX7_restore_23
set_option maxRecDepth 100000 in
set_option maxHeartbeats 1000000 in
theorem c_X7_restore_s (l : Launch) (g : GG) (N : Nat) (q1 : Nat → Nat) (q2 : Nat → Nat) (q6 : Nat → Nat) (q7 : Nat → Nat) (q9 : Nat → Nat) (q3 : Nat → Nat) (q4 : Nat → Nat) (q5 : Nat → Nat) (i1 : Nat → Nat) (i2 : Nat → Nat) (i3 : Nat → Nat) (i4 : Nat → Nat) (f : Nat → Option Nat) {k : Nat} (O S T Oi Si Ti F2 F3 F4 : St) (hk : k < 2) (hfk : f k = some (i1 100)) (h : f_X0_copyFrom N O S T Oi Si Ti = some (F2, F3, F4)) : Ci l yX7_restore wsX7_restore RM_X7_restore g [.ref (q1 100), .int (nI k)] (wX7 g q1 q2 q6 q7 q9 ++ (wAR g q1 f ++ (wX0 g q2 q3 q4 q5 ++ (wX3 g q3 O ++ (wX6 g q4 S ++ (wX5 g q5 T ++ (wX0 g i1 i2 i3 i4 ++ (wX3 g i2 Oi ++ (wX6 g i3 Si ++ (wX5 g i4 Ti)))))))))) (wX7 g q1 q2 q6 q7 q9 ++ (wAR g q1 f ++ (wX0 g q2 q3 q4 q5 ++ (wX3 g q3 F2 ++ (wX6 g q4 F3 ++ (wX5 g q5 F4 ++ (wX0 g i1 i2 i3 i4 ++ (wX3 g i2 Oi ++ (wX6 g i3 Si ++ (wX5 g i4 Ti)))))))))) 1 := by
  intro sz
  refine Met.ofC (cc := cX7_restore) (maxL := 2) (ret := (some .int)) (by decide) rfl (Nat.le_of_ble_eq_true rfl) ?_
  intro p e s m below meth c hC hr hlk hsz A hA9 hA hP hD hS ls hl
  subst hsz
  have hC : Cx p s m ([.ref (q1 100), .int (nI k)] : List Value).toArray c RX7 cX7_restore 2 wsX7_restore g := hC
  have hx := hC.1.1
  have hb := hC.1.2.1
  have hml := hC.1.2.2.1
  have hown := hC.1.2.2.2.1
  have hts := hC.1.2.2.2.2
  have hl : lv_has ls 2 [(0, .ref (q1 100)), (1, .int (nI k))] := hl
  refine lv_iload_n hx hb dX7_restore_0 rfl (lv_at hl 1 rfl) ?_
  refine lv_iconst (v := (0 : Int32)) hx hb dX7_restore_1 (by decide) ?_
  refine lv_iconst (v := (1 : Int32)) hx hb dX7_restore_2 (by decide) ?_
  refine k_callSi0 (n := 3) (As := [.int (nI k), .int (0 : Int32), .int (1 : Int32)]) (rest := []) (wc := ([] : va_W)) (bytes := cX7_within) (maxL := 3) (ret := (some .boolean)) hC hl.1 (c_X7_within l g 0 (nI k) (0 : Int32) (1 : Int32) 1 (within01 0 hk)) rfl gX7_restore_X7_within (by decide +kernel) ⟨Nat.le_of_ble_eq_true rfl, Nat.le_of_ble_eq_true rfl⟩ rfl rfl rfl (Nat.le_of_ble_eq_true rfl) ⟨Nat.le_of_ble_eq_true rfl, Nat.le_of_ble_eq_true rfl⟩ dX7_restore_3 hP hD hS hA [] rfl (by decide +kernel) (fun H locs hP hD hS => ?_)
  refine lv_if_ne (tgt := 12) hx hb dX7_restore_6 (by decide) (fun q => ?_) (fun q => absurd q (by decide))
  refine lv_aload_n hx hb dX7_restore_12 rfl (lv_at hl 0 rfl) ?_
  refine k_get (ci := 7) (k := 1) (q0 := 0) (v := .ref (q1 1)) (C := RX7) (T := TX7) (N := 5) hC uX7_restore_X7 hP rfl rfl (by decide) (List.mem_of_getElem? (i := 1) rfl) rfl dX7_restore_13 ?_
  refine lv_iload_n hx hb dX7_restore_16 rfl (lv_at hl 1 rfl) ?_
  refine va_aldq (C := "BrickOven$Bakery") hx hb hC.2.1 hP 1 2 rfl rfl (vp_in_nI (n := k) hk (by decide)) dX7_restore_17 ?_
  rw [show va_rf (f (nI k).toNatClampNeg) = .ref (i1 100) by rw [nI_clamp (by omega), hfk]; rfl]
  refine lv_ifnonnull (tgt := 24) hx hb dX7_restore_18 (by decide) ?_
  refine lv_aload_n hx hb dX7_restore_24 rfl (lv_at hl 0 rfl) ?_
  refine k_get (ci := 7) (k := 0) (q0 := 0) (v := .ref (q2 100)) (C := RX7) (T := TX7) (N := 5) hC uX7_restore_X7 hP rfl rfl (by decide) (List.mem_of_getElem? (i := 2) rfl) rfl dX7_restore_25 ?_
  refine lv_aload_n hx hb dX7_restore_28 rfl (lv_at hl 0 rfl) ?_
  refine k_get (ci := 7) (k := 1) (q0 := 0) (v := .ref (q1 1)) (C := RX7) (T := TX7) (N := 5) hC uX7_restore_X7 hP rfl rfl (by decide) (List.mem_of_getElem? (i := 1) rfl) rfl dX7_restore_29 ?_
  refine lv_iload_n hx hb dX7_restore_32 rfl (lv_at hl 1 rfl) ?_
  refine va_aldq (C := "BrickOven$Bakery") hx hb hC.2.1 hP 1 2 rfl rfl (vp_in_nI (n := k) hk (by decide)) dX7_restore_33 ?_
  rw [show va_rf (f (nI k).toNatClampNeg) = .ref (i1 100) by rw [nI_clamp (by omega), hfk]; rfl]
  refine k_pVv (C := RX0) (ci := 0) (qr := 0) (n := 1) (As := [.ref (i1 100)]) (rest := []) (bytes := cX0_copyFrom) (maxL := 2) (ret := none) hC hl.1 (c_X0_copyFrom l g N q2 q3 q4 q5 i1 i2 i3 i4 O S T Oi Si Ti F2 F3 F4 h) rfl gX7_restore_X0_copyFrom (by decide +kernel) rfl rfl ⟨Nat.le_of_ble_eq_true rfl, Nat.le_of_ble_eq_true rfl⟩ rfl rfl rfl (Nat.le_of_ble_eq_true rfl) ⟨Nat.le_of_ble_eq_true rfl, Nat.le_of_ble_eq_true rfl⟩ dX7_restore_34 hP hD hS hA (pr_end (wX7 g q1 q2 q6 q7 q9) (wAR g q1 f) _) (fun H locs hP hD hS => ?_)
  refine lv_iconst (v := (1 : Int32)) hx hb dX7_restore_37 (by decide) ?_
  have hpp := pr_end' (wX7 g q1 q2 q6 q7 q9) (wAR g q1 f) (wX0 g q2 q3 q4 q5 ++ (wX3 g q3 F2 ++ (wX6 g q4 F3 ++ (wX5 g q5 F4 ++ (wX0 g i1 i2 i3 i4 ++ (wX3 g i2 Oi ++ (wX6 g i3 Si ++ (wX5 g i4 Ti))))))))
  exact Ci.ret hC hr hlk hA9 (wp_perm hpp hP) (wd_perm hpp hD) hS dX7_restore_38
set_option maxRecDepth 100000 in
set_option maxHeartbeats 1000000 in
theorem c_X7_image_s (l : Launch) (g : GG) (N : Nat) (q1 : Nat → Nat) (q2 : Nat → Nat) (q6 : Nat → Nat) (q7 : Nat → Nat) (q9 : Nat → Nat) (q3 : Nat → Nat) (q4 : Nat → Nat) (q5 : Nat → Nat) (i1 : Nat → Nat) (i2 : Nat → Nat) (i3 : Nat → Nat) (i4 : Nat → Nat) (f : Nat → Option Nat) {k : Nat} (O S T Oi Si Ti F2 F3 F4 : St) (hk : k < 2) (hfk : f k = some (i1 100)) (h : f_X0_copyFrom N Oi Si Ti O S T = some (F2, F3, F4)) : Ci l yX7_image wsX7_image RM_X7_image g [.ref (q1 100), .int (nI k)] (wX7 g q1 q2 q6 q7 q9 ++ (wAR g q1 f ++ (wX0 g i1 i2 i3 i4 ++ (wX3 g i2 Oi ++ (wX6 g i3 Si ++ (wX5 g i4 Ti ++ (wX0 g q2 q3 q4 q5 ++ (wX3 g q3 O ++ (wX6 g q4 S ++ (wX5 g q5 T)))))))))) (wX7 g q1 q2 q6 q7 q9 ++ (wAR g q1 f ++ (wX0 g i1 i2 i3 i4 ++ (wX3 g i2 F2 ++ (wX6 g i3 F3 ++ (wX5 g i4 F4 ++ (wX0 g q2 q3 q4 q5 ++ (wX3 g q3 O ++ (wX6 g q4 S ++ (wX5 g q5 T)))))))))) 1 := by
  intro sz
  refine Met.ofC (cc := cX7_image) (maxL := 2) (ret := (some .int)) (by decide) rfl (Nat.le_of_ble_eq_true rfl) ?_
  intro p e s m below meth c hC hr hlk hsz A hA9 hA hP hD hS ls hl
  subst hsz
  have hC : Cx p s m ([.ref (q1 100), .int (nI k)] : List Value).toArray c RX7 cX7_image 2 wsX7_image g := hC
  have hx := hC.1.1
  have hb := hC.1.2.1
  have hml := hC.1.2.2.1
  have hown := hC.1.2.2.2.1
  have hts := hC.1.2.2.2.2
  have hl : lv_has ls 2 [(0, .ref (q1 100)), (1, .int (nI k))] := hl
  refine lv_iload_n hx hb dX7_image_0 rfl (lv_at hl 1 rfl) ?_
  refine lv_iconst (v := (0 : Int32)) hx hb dX7_image_1 (by decide) ?_
  refine lv_iconst (v := (1 : Int32)) hx hb dX7_image_2 (by decide) ?_
  refine k_callSi0 (n := 3) (As := [.int (nI k), .int (0 : Int32), .int (1 : Int32)]) (rest := []) (wc := ([] : va_W)) (bytes := cX7_within) (maxL := 3) (ret := (some .boolean)) hC hl.1 (c_X7_within l g 0 (nI k) (0 : Int32) (1 : Int32) 1 (within01 0 hk)) rfl gX7_image_X7_within (by decide +kernel) ⟨Nat.le_of_ble_eq_true rfl, Nat.le_of_ble_eq_true rfl⟩ rfl rfl rfl (Nat.le_of_ble_eq_true rfl) ⟨Nat.le_of_ble_eq_true rfl, Nat.le_of_ble_eq_true rfl⟩ dX7_image_3 hP hD hS hA [] rfl (by decide +kernel) (fun H locs hP hD hS => ?_)
  refine lv_if_ne (tgt := 12) hx hb dX7_image_6 (by decide) (fun q => ?_) (fun q => absurd q (by decide))
  refine lv_aload_n hx hb dX7_image_12 rfl (lv_at hl 0 rfl) ?_
  refine k_get (ci := 7) (k := 1) (q0 := 0) (v := .ref (q1 1)) (C := RX7) (T := TX7) (N := 5) hC uX7_image_X7 hP rfl rfl (by decide) (List.mem_of_getElem? (i := 1) rfl) rfl dX7_image_13 ?_
  refine lv_iload_n hx hb dX7_image_16 rfl (lv_at hl 1 rfl) ?_
  refine va_aldq (C := "BrickOven$Bakery") hx hb hC.2.1 hP 1 2 rfl rfl (vp_in_nI (n := k) hk (by decide)) dX7_image_17 ?_
  rw [show va_rf (f (nI k).toNatClampNeg) = .ref (i1 100) by rw [nI_clamp (by omega), hfk]; rfl]
  refine lv_ifnonnull (tgt := 34) hx hb dX7_image_18 (by decide) ?_
  refine lv_aload_n hx hb dX7_image_34 rfl (lv_at hl 0 rfl) ?_
  refine k_get (ci := 7) (k := 1) (q0 := 0) (v := .ref (q1 1)) (C := RX7) (T := TX7) (N := 5) hC uX7_image_X7 hP rfl rfl (by decide) (List.mem_of_getElem? (i := 1) rfl) rfl dX7_image_35 ?_
  refine lv_iload_n hx hb dX7_image_38 rfl (lv_at hl 1 rfl) ?_
  refine va_aldq (C := "BrickOven$Bakery") hx hb hC.2.1 hP 1 2 rfl rfl (vp_in_nI (n := k) hk (by decide)) dX7_image_39 ?_
  rw [show va_rf (f (nI k).toNatClampNeg) = .ref (i1 100) by rw [nI_clamp (by omega), hfk]; rfl]
  refine lv_aload_n hx hb dX7_image_40 rfl (lv_at hl 0 rfl) ?_
  refine k_get (ci := 7) (k := 0) (q0 := 0) (v := .ref (q2 100)) (C := RX7) (T := TX7) (N := 5) hC uX7_image_X7 hP rfl rfl (by decide) (List.mem_of_getElem? (i := 5) rfl) rfl dX7_image_41 ?_
  refine k_pVv (C := RX0) (ci := 0) (qr := 0) (n := 1) (As := [.ref (q2 100)]) (rest := []) (bytes := cX0_copyFrom) (maxL := 2) (ret := none) hC hl.1 (c_X0_copyFrom l g N i1 i2 i3 i4 q2 q3 q4 q5 Oi Si Ti O S T F2 F3 F4 h) rfl gX7_image_X0_copyFrom (by decide +kernel) rfl rfl ⟨Nat.le_of_ble_eq_true rfl, Nat.le_of_ble_eq_true rfl⟩ rfl rfl rfl (Nat.le_of_ble_eq_true rfl) ⟨Nat.le_of_ble_eq_true rfl, Nat.le_of_ble_eq_true rfl⟩ dX7_image_44 hP hD hS hA (pr_end (wX7 g q1 q2 q6 q7 q9) (wAR g q1 f) _) (fun H locs hP hD hS => ?_)
  refine lv_iconst (v := (1 : Int32)) hx hb dX7_image_47 (by decide) ?_
  have hpp := pr_end' (wX7 g q1 q2 q6 q7 q9) (wAR g q1 f) (wX0 g i1 i2 i3 i4 ++ (wX3 g i2 F2 ++ (wX6 g i3 F3 ++ (wX5 g i4 F4 ++ (wX0 g q2 q3 q4 q5 ++ (wX3 g q3 O ++ (wX6 g q4 S ++ (wX5 g q5 T))))))))
  exact Ci.ret hC hr hlk hA9 (wp_perm hpp hP) (wd_perm hpp hD) hS dX7_image_48
abbrev RM_X7_imageN : Room := { frames := 4, cells := 14, slots := 113, locals := 80 }
def wIN (g : GG) (q1 : Nat → Nat) (q2 : Nat → Nat) (q6 : Nat → Nat) (q7 : Nat → Nat) (q9 : Nat → Nat) (q3 : Nat → Nat) (q4 : Nat → Nat) (q5 : Nat → Nat) (f : Nat → Option Nat) (k : Nat) (O S T F2 F3 F4 : St) (u : (Nat → Nat) × (Nat → Nat) × (Nat → Nat) × (Nat → Nat)) : va_W := wX7 g q1 q2 q6 q7 q9 ++ (wAR g q1 (va_up f k (some (u.1 100))) ++ (wX0 g u.1 u.2.1 u.2.2.1 u.2.2.2 ++ (wX3 g u.2.1 F2 ++ (wX6 g u.2.2.1 F3 ++ (wX5 g u.2.2.2 F4 ++ (wX0 g q2 q3 q4 q5 ++ (wX3 g q3 O ++ (wX6 g q4 S ++ (wX5 g q5 T)))))))))
set_option maxRecDepth 100000 in
set_option maxHeartbeats 1000000 in
theorem c_X7_image_n (l : Launch) (g : GG) (N : Nat) (q1 : Nat → Nat) (q2 : Nat → Nat) (q6 : Nat → Nat) (q7 : Nat → Nat) (q9 : Nat → Nat) (q3 : Nat → Nat) (q4 : Nat → Nat) (q5 : Nat → Nat) (f : Nat → Option Nat) {k : Nat} (O S T F2 F3 F4 : St) (hk : k < 2) (hfk : f k = none) (h : f_X0_copyFrom N z_X3 z_X6 z_X5 O S T = some (F2, F3, F4)) : CiN (U := (Nat → Nat) × (Nat → Nat) × (Nat → Nat) × (Nat → Nat)) E0 l yX7_image wsX7_image RM_X7_imageN g [.ref (q1 100), .int (nI k)] (wX7 g q1 q2 q6 q7 q9 ++ (wAR g q1 f ++ (wX0 g q2 q3 q4 q5 ++ (wX3 g q3 O ++ (wX6 g q4 S ++ (wX5 g q5 T)))))) 14 113 (fun r _ => r = 1) (wIN g q1 q2 q6 q7 q9 q3 q4 q5 f k O S T F2 F3 F4) := by
  intro sz
  refine Met.ofCN (cc := cX7_image) (maxL := 2) (ret := (some .int)) (by decide) rfl (Nat.le_of_ble_eq_true rfl) ?_
  intro p e s m below meth c hC hr hlk _ _ hsz A hA9 hA hP hD hS ls hl
  subst hsz
  have hC : Cx p s m ([.ref (q1 100), .int (nI k)] : List Value).toArray c RX7 cX7_image 2 wsX7_image g := hC
  have hx := hC.1.1
  have hb := hC.1.2.1
  have hml := hC.1.2.2.1
  have hown := hC.1.2.2.2.1
  have hts := hC.1.2.2.2.2
  have hl : lv_has ls 2 [(0, .ref (q1 100)), (1, .int (nI k))] := hl
  refine lv_iload_n hx hb dX7_image_0 rfl (lv_at hl 1 rfl) ?_
  refine lv_iconst (v := (0 : Int32)) hx hb dX7_image_1 (by decide) ?_
  refine lv_iconst (v := (1 : Int32)) hx hb dX7_image_2 (by decide) ?_
  refine k_callSi0 (n := 3) (As := [.int (nI k), .int (0 : Int32), .int (1 : Int32)]) (rest := []) (wc := ([] : va_W)) (bytes := cX7_within) (maxL := 3) (ret := (some .boolean)) hC hl.1 (c_X7_within l g 0 (nI k) (0 : Int32) (1 : Int32) 1 (within01 0 hk)) rfl gX7_image_X7_within (by decide +kernel) ⟨Nat.le_of_ble_eq_true rfl, Nat.le_of_ble_eq_true rfl⟩ rfl rfl rfl (Nat.le_of_ble_eq_true rfl) ⟨Nat.le_of_ble_eq_true rfl, Nat.le_of_ble_eq_true rfl⟩ dX7_image_3 hP hD hS hA [] rfl (by decide +kernel) (fun H locs hP hD hS => ?_)
  refine lv_if_ne (tgt := 12) hx hb dX7_image_6 (by decide) (fun q => ?_) (fun q => absurd q (by decide))
  refine lv_aload_n hx hb dX7_image_12 rfl (lv_at hl 0 rfl) ?_
  refine k_get (ci := 7) (k := 1) (q0 := 0) (v := .ref (q1 1)) (C := RX7) (T := TX7) (N := 5) hC uX7_image_X7 hP rfl rfl (by decide) (List.mem_of_getElem? (i := 1) rfl) rfl dX7_image_13 ?_
  refine lv_iload_n hx hb dX7_image_16 rfl (lv_at hl 1 rfl) ?_
  refine va_aldq (C := "BrickOven$Bakery") hx hb hC.2.1 hP 1 2 rfl rfl (vp_in_nI (n := k) hk (by decide)) dX7_image_17 ?_
  rw [show va_rf (f (nI k).toNatClampNeg) = .null by rw [nI_clamp (by omega), hfk]; rfl]
  refine lv_ifnonnullN hx hb dX7_image_18 ?_
  refine lv_aload_n hx hb dX7_image_21 rfl (lv_at hl 0 rfl) ?_
  refine k_get (ci := 7) (k := 1) (q0 := 0) (v := .ref (q1 1)) (C := RX7) (T := TX7) (N := 5) hC uX7_image_X7 hP rfl rfl (by decide) (List.mem_of_getElem? (i := 1) rfl) rfl dX7_image_22 ?_
  refine lv_iload_n hx hb dX7_image_25 rfl (lv_at hl 1 rfl) ?_
  refine va_new (ci := 0) (fs := [.null, .null, .null]) (C := RX0) (T := TX0) (N := 3) hx hb hts uX7_image_X0 tyX0 tyX0_ok hown (hts (.classLink RX7 7 RX0) (List.mem_of_getElem? (i := 2) rfl)) (hts (.instantiable RX0 3) (List.mem_of_getElem? (i := 3) rfl)) (hts (.initialized RX0) (List.mem_of_getElem? (i := 4) rfl)) hC.2.1 hP hD hS hA rfl df_X0 (Nat.le_of_ble_eq_true rfl) (Nat.le_of_ble_eq_true rfl) dX7_image_26 (fun b0 H hP hD hS => ?_)
  refine lv_dup hx hb dX7_image_29 rfl ?_
  refine k_ctorN (rest := [.ref b0, .int (nI k), .ref (q1 1)]) (wc := [(b0, .inr (0, [.null, .null, .null]))]) (bytes := cX0_init) (maxL := 1) hC hl.1 (c_X0_init l g b0) rfl ggX7_image_X0_init (List.mem_of_getElem? (i := 3) rfl) (List.mem_of_getElem? (i := 4) rfl) (List.mem_of_getElem? (i := 10) rfl) rfl (by decide +kernel) ⟨Nat.le_of_ble_eq_true rfl, Nat.le_of_ble_eq_true rfl⟩ rfl rfl (Nat.le_of_ble_eq_true rfl) ⟨Nat.le_of_ble_eq_true rfl, Nat.le_of_ble_eq_true rfl⟩ dX7_image_30 hP hD hS hA List.perm_append_comm (fun u H locs hpu hP hD hS => ?_)
  have hpu : u.1 100 = b0 := hpu
  rw [← hpu]
  refine va_astq (r := (RX0, TX0, 3)) (v := u.1 100) hx hb hC.2.1 hP hD hS 15 2 0 0 rfl rfl rfl rfl (vp_in_nI (n := k) hk (by decide)) dX7_image_33 (fun H locs hP hD hS => ?_)
  rw [nI_clamp (by omega)] at hP hD
  have hP : va_P g.1 vwCl (wn_X0 g u ++ (wX7 g q1 q2 q6 q7 q9 ++ (wAR g q1 (va_up f k (some (u.1 100))) ++ (wX0 g q2 q3 q4 q5 ++ (wX3 g q3 O ++ (wX6 g q4 S ++ (wX5 g q5 T))))))) H := hP
  have hD : va_D A (wn_X0 g u ++ (wX7 g q1 q2 q6 q7 q9 ++ (wAR g q1 (va_up f k (some (u.1 100))) ++ (wX0 g q2 q3 q4 q5 ++ (wX3 g q3 O ++ (wX6 g q4 S ++ (wX5 g q5 T))))))) := hD
  refine lv_aload_n hx hb dX7_image_34 rfl (lv_at hl 0 rfl) ?_
  refine k_get (ci := 7) (k := 1) (q0 := 14) (v := .ref (q1 1)) (C := RX7) (T := TX7) (N := 5) hC uX7_image_X7 hP rfl rfl (by decide) (List.mem_of_getElem? (i := 1) rfl) rfl dX7_image_35 ?_
  refine lv_iload_n hx hb dX7_image_38 rfl (lv_at hl 1 rfl) ?_
  refine va_aldq (C := "BrickOven$Bakery") hx hb hC.2.1 hP 15 2 rfl rfl (vp_in_nI (n := k) hk (by decide)) dX7_image_39 ?_
  rw [show va_rf (va_up f k (some (u.1 100)) (nI k).toNatClampNeg) = .ref (u.1 100) by rw [nI_clamp (by omega)]; unfold va_up; rw [if_pos rfl]; rfl]
  refine lv_aload_n hx hb dX7_image_40 rfl (lv_at hl 0 rfl) ?_
  refine k_get (ci := 7) (k := 0) (q0 := 14) (v := .ref (q2 100)) (C := RX7) (T := TX7) (N := 5) hC uX7_image_X7 hP rfl rfl (by decide) (List.mem_of_getElem? (i := 5) rfl) rfl dX7_image_41 ?_
  refine k_pVv (C := RX0) (ci := 0) (qr := 0) (n := 1) (As := [.ref (q2 100)]) (rest := []) (bytes := cX0_copyFrom) (maxL := 2) (ret := none) hC hl.1 (c_X0_copyFrom l g N u.1 u.2.1 u.2.2.1 u.2.2.2 q2 q3 q4 q5 z_X3 z_X6 z_X5 O S T F2 F3 F4 h) rfl gX7_image_X0_copyFrom (by decide +kernel) rfl rfl ⟨Nat.le_of_ble_eq_true rfl, Nat.le_of_ble_eq_true rfl⟩ rfl rfl rfl (Nat.le_of_ble_eq_true rfl) ⟨Nat.le_of_ble_eq_true rfl, Nat.le_of_ble_eq_true rfl⟩ dX7_image_44 hP hD hS hA (pr_mid (wn_X0 g u) (wX7 g q1 q2 q6 q7 q9) (wAR g q1 (va_up f k (some (u.1 100)))) (wX0 g q2 q3 q4 q5 ++ (wX3 g q3 O ++ (wX6 g q4 S ++ (wX5 g q5 T))))) (fun H locs hP hD hS => ?_)
  refine lv_iconst (v := (1 : Int32)) hx hb dX7_image_47 (by decide) ?_
  have hpp := pr_end' (wX7 g q1 q2 q6 q7 q9) (wAR g q1 (va_up f k (some (u.1 100)))) (wX0 g u.1 u.2.1 u.2.2.1 u.2.2.2 ++ (wX3 g u.2.1 F2 ++ (wX6 g u.2.2.1 F3 ++ (wX5 g u.2.2.2 F4 ++ (wX0 g q2 q3 q4 q5 ++ (wX3 g q3 O ++ (wX6 g q4 S ++ (wX5 g q5 T))))))))
  refine W.widen (k := 14) (n := 113) (Nat.le_refl _) (Nat.le_refl _) ?_
  exact CiN.ret (w' := wIN g q1 q2 q6 q7 q9 q3 q4 q5 f k O S T F2 F3 F4) u hC hr hlk hA9 rfl (wp_perm hpp hP) (wd_perm hpp hD) hS dX7_image_48
