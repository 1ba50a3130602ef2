/-! laid by wip/whole/mklaw.py: the law's cases -/
set_option maxRecDepth 100000 in
set_option maxHeartbeats 1000000 in
theorem lc_spoilt {p : Program} {l : Launch} {e : Env} {s : State} {m : MethodId} {below : List Frame} {meth : Method} {c : Code} {Q : State → Prop} {g : GG} {b L i C1 S1 : Nat} {xs : Nat → Int32} (N : Nat) (hN : 2000 ≤ N) (hC : Cx p s m #[Value.ref b] c RL cL_law 4 lw_tbl g) (hX : va_X b L xs s s.heap) (hbl : b < s.heap.size) (hi : i + 6 ≤ L) (hL : L ≤ 3072) (hroom : C1 ≤ 600000 ∧ S1 ≤ 7302250) (q1 q2 q3 q4 q5 q6 q7 q8 q9 qm : Nat → Nat) (K : LK p l e s m below meth c Q g b i C1 S1 q1 q2 q3 q4 q5 q6 q7 q8 q9 qm) : ∀ (O S T P D E B M : St) (f : Nat → Option Nat) (I0 I1 : Img) (H : Heap) (locs : List Loc) (ls : Array Slot) (cells slots : Nat), cells + 14 ≤ C1 → slots + 113 ≤ S1 → LI O S T P M f I0 I1 → va_P g.1 vwCl (LW g q1 q2 q3 q4 q5 q6 q7 q8 q9 qm O S T P D E B M f I0 I1) H → va_D (fun q : Nat => s.heap.size ≤ q) (LW g q1 q2 q3 q4 q5 q6 q7 q8 q9 qm O S T P D E B M f I0 I1) → va_S (fun q : Nat => s.heap.size ≤ q) s.heap H locs → lv_has ls 4 [(0, .ref b), (1, .ref (q1 100)), (2, .ref (qm 100)), (3, .int (nI i))] → W p l e room_1 s m #[Value.ref b] below meth c H locs cells slots Q (F0 m 586 ls []) := by
  have hx := hC.1.1
  have hb := hC.1.2.1
  have hA : ∀ q : Nat, s.heap.size ≤ q → (fun q : Nat => s.heap.size ≤ q) q := fun _ h => h
  have hbA : ¬ (fun q : Nat => s.heap.size ≤ q) b := Nat.not_le.mpr hbl
  intro O S T P D E B M f I0 I1 H locs ls cells slots hc1 hs1 hLI hP hD hS hl
  obtain ⟨⟨hI, hR⟩, hG0, hG1⟩ := id hLI
  obtain ⟨r, D', E', M', h7, h8, hR2, hK2⟩ := op_spoilt N hN D E B hI hR
  refine lv_aload_n hx hb dL_law_586 rfl (lv_at hl 1 rfl) ?_
  refine k_pVi (C := RX7) (ci := 7) (qr := 0) (n := 0) (As := []) (rest := []) (bytes := cX7_spoilt) (maxL := 2) (ret := (some .int)) hC hl.1 (c_X7_spoilt l g N q1 q2 q3 q4 q5 q6 q7 q8 q9 O S T P D E B r D' E' h7) rfl hL_X7_spoilt (by decide +kernel) rfl rfl ⟨Nat.le_of_ble_eq_true rfl, Nat.le_of_ble_eq_true rfl⟩ rfl rfl rfl (Nat.le_of_ble_eq_true rfl) (show cells + 0 ≤ 600000 ∧ slots + 0 ≤ 7302250 by omega) dL_law_587 hP hD hS hA (List.Perm.refl _) (fun H locs hP hD hS => ?_)
  refine lv_aload_n hx hb dL_law_590 rfl (lv_at hl 2 rfl) ?_
  refine k_pVi (C := RX8) (ci := 8) (qr := 0) (n := 0) (As := []) (rest := [.int r]) (bytes := cX8_spoilt) (maxL := 2) (ret := (some .int)) hC hl.1 (c_X8_spoilt l g N qm M r M' h8) rfl hL_X8_spoilt (by decide +kernel) rfl rfl ⟨Nat.le_of_ble_eq_true rfl, Nat.le_of_ble_eq_true rfl⟩ rfl rfl rfl (Nat.le_of_ble_eq_true rfl) (show cells + 0 ≤ 600000 ∧ slots + 0 ≤ 7302250 by omega) dL_law_591 hP hD hS hA (pr2 _ _ _) (fun H locs hP hD hS => ?_)
  refine lv_icmp_eq (tgt := 1035) hx hb dL_law_594 (by decide) (fun _ => ?_) (fun q => absurd rfl q)
  refine W.widen (k := C1) (n := S1) (by omega) (by omega) ?_
  exact K O S T P D' E' B M' f I0 I1 H locs ls (hLI.go hI hR2 hK2) (wp_perm (pr2 _ _ _) hP) (wd_perm (pr2 _ _ _) hD) hS hl
set_option maxRecDepth 100000 in
set_option maxHeartbeats 1000000 in
theorem lc_ripe {p : Program} {l : Launch} {e : Env} {s : State} {m : MethodId} {below : List Frame} {meth : Method} {c : Code} {Q : State → Prop} {g : GG} {b L i C1 S1 : Nat} {xs : Nat → Int32} (N : Nat) (hN : 2000 ≤ N) (hC : Cx p s m #[Value.ref b] c RL cL_law 4 lw_tbl g) (hX : va_X b L xs s s.heap) (hbl : b < s.heap.size) (hi : i + 6 ≤ L) (hL : L ≤ 3072) (hroom : C1 ≤ 600000 ∧ S1 ≤ 7302250) (q1 q2 q3 q4 q5 q6 q7 q8 q9 qm : Nat → Nat) (K : LK p l e s m below meth c Q g b i C1 S1 q1 q2 q3 q4 q5 q6 q7 q8 q9 qm) : ∀ (O S T P D E B M : St) (f : Nat → Option Nat) (I0 I1 : Img) (H : Heap) (locs : List Loc) (ls : Array Slot) (cells slots : Nat), cells + 14 ≤ C1 → slots + 113 ≤ S1 → LI O S T P M f I0 I1 → va_P g.1 vwCl (LW g q1 q2 q3 q4 q5 q6 q7 q8 q9 qm O S T P D E B M f I0 I1) H → va_D (fun q : Nat => s.heap.size ≤ q) (LW g q1 q2 q3 q4 q5 q6 q7 q8 q9 qm O S T P D E B M f I0 I1) → va_S (fun q : Nat => s.heap.size ≤ q) s.heap H locs → lv_has ls 4 [(0, .ref b), (1, .ref (q1 100)), (2, .ref (qm 100)), (3, .int (nI i))] → W p l e room_1 s m #[Value.ref b] below meth c H locs cells slots Q (F0 m 599 ls []) := by
  have hx := hC.1.1
  have hb := hC.1.2.1
  have hA : ∀ q : Nat, s.heap.size ≤ q → (fun q : Nat => s.heap.size ≤ q) q := fun _ h => h
  have hbA : ¬ (fun q : Nat => s.heap.size ≤ q) b := Nat.not_le.mpr hbl
  intro O S T P D E B M f I0 I1 H locs ls cells slots hc1 hs1 hLI hP hD hS hl
  obtain ⟨⟨hI, hR⟩, hG0, hG1⟩ := id hLI
  have hin1 : vp_in (nI i + 1) L := by rw [show nI i + 1 = nI (i + 1) from nI_add i 1]; exact vp_in_nI (by omega) (by omega)
  have hin2 : vp_in (nI i + 2) L := by rw [show nI i + 2 = nI (i + 2) from nI_add i 2]; exact vp_in_nI (by omega) (by omega)
  have hin3 : vp_in (nI i + 3) L := by rw [show nI i + 3 = nI (i + 3) from nI_add i 3]; exact vp_in_nI (by omega) (by omega)
  obtain ⟨r, M', h7, h8, hX2⟩ := op_ripe N hN D E B hI hR (xs (nI i + 1).toNatClampNeg) (xs (nI i + 2).toNatClampNeg) (xs (nI i + 3).toNatClampNeg)
  refine lv_aload_n hx hb dL_law_599 rfl (lv_at hl 1 rfl) ?_
  refine lv_aload_n hx hb dL_law_600 rfl (lv_at hl 0 rfl) ?_
  refine lv_iload_n hx hb dL_law_601 rfl (lv_at hl 3 rfl) ?_
  refine lv_iconst (v := 1) hx hb dL_law_602 (by decide) ?_
  refine lv_iadd hx hb dL_law_603 ?_
  refine va_sld hx hb hX hbl hbA hS hin1 dL_law_604 ?_
  refine lv_aload_n hx hb dL_law_605 rfl (lv_at hl 0 rfl) ?_
  refine lv_iload_n hx hb dL_law_606 rfl (lv_at hl 3 rfl) ?_
  refine lv_iconst (v := 2) hx hb dL_law_607 (by decide) ?_
  refine lv_iadd hx hb dL_law_608 ?_
  refine va_sld hx hb hX hbl hbA hS hin2 dL_law_609 ?_
  refine lv_aload_n hx hb dL_law_610 rfl (lv_at hl 0 rfl) ?_
  refine lv_iload_n hx hb dL_law_611 rfl (lv_at hl 3 rfl) ?_
  refine lv_iconst (v := 3) hx hb dL_law_612 (by decide) ?_
  refine lv_iadd hx hb dL_law_613 ?_
  refine va_sld hx hb hX hbl hbA hS hin3 dL_law_614 ?_
  refine k_pVi (C := RX7) (ci := 7) (qr := 0) (n := 3) (As := [.int (xs (nI i + 1).toNatClampNeg), .int (xs (nI i + 2).toNatClampNeg), .int (xs (nI i + 3).toNatClampNeg)]) (rest := []) (bytes := cX7_ripe) (maxL := 7) (ret := (some .int)) hC hl.1 (c_X7_ripe l g N q1 q2 q3 q4 q5 q6 q7 q8 q9 O S T P D E B (xs (nI i + 1).toNatClampNeg) (xs (nI i + 2).toNatClampNeg) (xs (nI i + 3).toNatClampNeg) r h7) rfl hL_X7_ripe (by decide +kernel) rfl rfl ⟨Nat.le_of_ble_eq_true rfl, Nat.le_of_ble_eq_true rfl⟩ rfl rfl rfl (Nat.le_of_ble_eq_true rfl) (show cells + 0 ≤ 600000 ∧ slots + 0 ≤ 7302250 by omega) dL_law_615 hP hD hS hA (List.Perm.refl _) (fun H locs hP hD hS => ?_)
  refine lv_aload_n hx hb dL_law_618 rfl (lv_at hl 2 rfl) ?_
  refine lv_aload_n hx hb dL_law_619 rfl (lv_at hl 0 rfl) ?_
  refine lv_iload_n hx hb dL_law_620 rfl (lv_at hl 3 rfl) ?_
  refine lv_iconst (v := 1) hx hb dL_law_621 (by decide) ?_
  refine lv_iadd hx hb dL_law_622 ?_
  refine va_sld hx hb hX hbl hbA hS hin1 dL_law_623 ?_
  refine lv_aload_n hx hb dL_law_624 rfl (lv_at hl 0 rfl) ?_
  refine lv_iload_n hx hb dL_law_625 rfl (lv_at hl 3 rfl) ?_
  refine lv_iconst (v := 2) hx hb dL_law_626 (by decide) ?_
  refine lv_iadd hx hb dL_law_627 ?_
  refine va_sld hx hb hX hbl hbA hS hin2 dL_law_628 ?_
  refine lv_aload_n hx hb dL_law_629 rfl (lv_at hl 0 rfl) ?_
  refine lv_iload_n hx hb dL_law_630 rfl (lv_at hl 3 rfl) ?_
  refine lv_iconst (v := 3) hx hb dL_law_631 (by decide) ?_
  refine lv_iadd hx hb dL_law_632 ?_
  refine va_sld hx hb hX hbl hbA hS hin3 dL_law_633 ?_
  refine k_pVi (C := RX8) (ci := 8) (qr := 0) (n := 3) (As := [.int (xs (nI i + 1).toNatClampNeg), .int (xs (nI i + 2).toNatClampNeg), .int (xs (nI i + 3).toNatClampNeg)]) (rest := [.int r]) (bytes := cX8_ripe) (maxL := 4) (ret := (some .int)) hC hl.1 (c_X8_ripe l g N qm M (xs (nI i + 1).toNatClampNeg) (xs (nI i + 2).toNatClampNeg) (xs (nI i + 3).toNatClampNeg) r M' h8) rfl hL_X8_ripe (by decide +kernel) rfl rfl ⟨Nat.le_of_ble_eq_true rfl, Nat.le_of_ble_eq_true rfl⟩ rfl rfl rfl (Nat.le_of_ble_eq_true rfl) (show cells + 0 ≤ 600000 ∧ slots + 0 ≤ 7302250 by omega) dL_law_634 hP hD hS hA (pr2 _ _ _) (fun H locs hP hD hS => ?_)
  refine lv_icmp_eq (tgt := 1035) hx hb dL_law_637 (by decide) (fun _ => ?_) (fun q => absurd rfl q)
  refine W.widen (k := C1) (n := S1) (by omega) (by omega) ?_
  exact K O S T P D E B M' f I0 I1 H locs ls (hLI.go hI (hX2.R hR) hX2.2) (wp_perm (pr2 _ _ _) hP) (wd_perm (pr2 _ _ _) hD) hS hl
set_option maxRecDepth 100000 in
set_option maxHeartbeats 1000000 in
theorem lc_hot {p : Program} {l : Launch} {e : Env} {s : State} {m : MethodId} {below : List Frame} {meth : Method} {c : Code} {Q : State → Prop} {g : GG} {b L i C1 S1 : Nat} {xs : Nat → Int32} (N : Nat) (hN : 2000 ≤ N) (hC : Cx p s m #[Value.ref b] c RL cL_law 4 lw_tbl g) (hX : va_X b L xs s s.heap) (hbl : b < s.heap.size) (hi : i + 6 ≤ L) (hL : L ≤ 3072) (hroom : C1 ≤ 600000 ∧ S1 ≤ 7302250) (q1 q2 q3 q4 q5 q6 q7 q8 q9 qm : Nat → Nat) (K : LK p l e s m below meth c Q g b i C1 S1 q1 q2 q3 q4 q5 q6 q7 q8 q9 qm) : ∀ (O S T P D E B M : St) (f : Nat → Option Nat) (I0 I1 : Img) (H : Heap) (locs : List Loc) (ls : Array Slot) (cells slots : Nat), cells + 14 ≤ C1 → slots + 113 ≤ S1 → LI O S T P M f I0 I1 → va_P g.1 vwCl (LW g q1 q2 q3 q4 q5 q6 q7 q8 q9 qm O S T P D E B M f I0 I1) H → va_D (fun q : Nat => s.heap.size ≤ q) (LW g q1 q2 q3 q4 q5 q6 q7 q8 q9 qm O S T P D E B M f I0 I1) → va_S (fun q : Nat => s.heap.size ≤ q) s.heap H locs → lv_has ls 4 [(0, .ref b), (1, .ref (q1 100)), (2, .ref (qm 100)), (3, .int (nI i))] → W p l e room_1 s m #[Value.ref b] below meth c H locs cells slots Q (F0 m 642 ls []) := by
  have hx := hC.1.1
  have hb := hC.1.2.1
  have hA : ∀ q : Nat, s.heap.size ≤ q → (fun q : Nat => s.heap.size ≤ q) q := fun _ h => h
  have hbA : ¬ (fun q : Nat => s.heap.size ≤ q) b := Nat.not_le.mpr hbl
  intro O S T P D E B M f I0 I1 H locs ls cells slots hc1 hs1 hLI hP hD hS hl
  obtain ⟨⟨hI, hR⟩, hG0, hG1⟩ := id hLI
  have hin1 : vp_in (nI i + 1) L := by rw [show nI i + 1 = nI (i + 1) from nI_add i 1]; exact vp_in_nI (by omega) (by omega)
  obtain ⟨r, h7, h8⟩ := op_hot N hN D E B hI hR (xs (nI i + 1).toNatClampNeg)
  refine lv_aload_n hx hb dL_law_642 rfl (lv_at hl 1 rfl) ?_
  refine lv_aload_n hx hb dL_law_643 rfl (lv_at hl 0 rfl) ?_
  refine lv_iload_n hx hb dL_law_644 rfl (lv_at hl 3 rfl) ?_
  refine lv_iconst (v := 1) hx hb dL_law_645 (by decide) ?_
  refine lv_iadd hx hb dL_law_646 ?_
  refine va_sld hx hb hX hbl hbA hS hin1 dL_law_647 ?_
  refine k_pVi (C := RX7) (ci := 7) (qr := 0) (n := 1) (As := [.int (xs (nI i + 1).toNatClampNeg)]) (rest := []) (bytes := cX7_hot) (maxL := 4) (ret := (some .int)) hC hl.1 (c_X7_hot l g N q1 q2 q3 q4 q5 q6 q7 q8 q9 O S T P D E B (xs (nI i + 1).toNatClampNeg) r h7) rfl hL_X7_hot (by decide +kernel) rfl rfl ⟨Nat.le_of_ble_eq_true rfl, Nat.le_of_ble_eq_true rfl⟩ rfl rfl rfl (Nat.le_of_ble_eq_true rfl) (show cells + 0 ≤ 600000 ∧ slots + 0 ≤ 7302250 by omega) dL_law_648 hP hD hS hA (List.Perm.refl _) (fun H locs hP hD hS => ?_)
  refine lv_aload_n hx hb dL_law_651 rfl (lv_at hl 2 rfl) ?_
  refine lv_aload_n hx hb dL_law_652 rfl (lv_at hl 0 rfl) ?_
  refine lv_iload_n hx hb dL_law_653 rfl (lv_at hl 3 rfl) ?_
  refine lv_iconst (v := 1) hx hb dL_law_654 (by decide) ?_
  refine lv_iadd hx hb dL_law_655 ?_
  refine va_sld hx hb hX hbl hbA hS hin1 dL_law_656 ?_
  refine k_pVi (C := RX8) (ci := 8) (qr := 0) (n := 1) (As := [.int (xs (nI i + 1).toNatClampNeg)]) (rest := [.int r]) (bytes := cX8_hot) (maxL := 4) (ret := (some .int)) hC hl.1 (c_X8_hot l g N qm M (xs (nI i + 1).toNatClampNeg) r h8) rfl hL_X8_hot (by decide +kernel) rfl rfl ⟨Nat.le_of_ble_eq_true rfl, Nat.le_of_ble_eq_true rfl⟩ rfl rfl rfl (Nat.le_of_ble_eq_true rfl) (show cells + 0 ≤ 600000 ∧ slots + 0 ≤ 7302250 by omega) dL_law_657 hP hD hS hA (pr2 _ _ _) (fun H locs hP hD hS => ?_)
  refine lv_icmp_eq (tgt := 1035) hx hb dL_law_660 (by decide) (fun _ => ?_) (fun q => absurd rfl q)
  refine W.widen (k := C1) (n := S1) (by omega) (by omega) ?_
  exact K O S T P D E B M f I0 I1 H locs ls (hLI.go hI hR (pv_K.rf M)) (wp_perm (pr2 _ _ _) hP) (wd_perm (pr2 _ _ _) hD) hS hl
set_option maxRecDepth 100000 in
set_option maxHeartbeats 1000000 in
theorem lc_still {p : Program} {l : Launch} {e : Env} {s : State} {m : MethodId} {below : List Frame} {meth : Method} {c : Code} {Q : State → Prop} {g : GG} {b L i C1 S1 : Nat} {xs : Nat → Int32} (N : Nat) (hN : 2000 ≤ N) (hC : Cx p s m #[Value.ref b] c RL cL_law 4 lw_tbl g) (hX : va_X b L xs s s.heap) (hbl : b < s.heap.size) (hi : i + 6 ≤ L) (hL : L ≤ 3072) (hroom : C1 ≤ 600000 ∧ S1 ≤ 7302250) (q1 q2 q3 q4 q5 q6 q7 q8 q9 qm : Nat → Nat) (K : LK p l e s m below meth c Q g b i C1 S1 q1 q2 q3 q4 q5 q6 q7 q8 q9 qm) : ∀ (O S T P D E B M : St) (f : Nat → Option Nat) (I0 I1 : Img) (H : Heap) (locs : List Loc) (ls : Array Slot) (cells slots : Nat), cells + 14 ≤ C1 → slots + 113 ≤ S1 → LI O S T P M f I0 I1 → va_P g.1 vwCl (LW g q1 q2 q3 q4 q5 q6 q7 q8 q9 qm O S T P D E B M f I0 I1) H → va_D (fun q : Nat => s.heap.size ≤ q) (LW g q1 q2 q3 q4 q5 q6 q7 q8 q9 qm O S T P D E B M f I0 I1) → va_S (fun q : Nat => s.heap.size ≤ q) s.heap H locs → lv_has ls 4 [(0, .ref b), (1, .ref (q1 100)), (2, .ref (qm 100)), (3, .int (nI i))] → W p l e room_1 s m #[Value.ref b] below meth c H locs cells slots Q (F0 m 665 ls []) := by
  have hx := hC.1.1
  have hb := hC.1.2.1
  have hA : ∀ q : Nat, s.heap.size ≤ q → (fun q : Nat => s.heap.size ≤ q) q := fun _ h => h
  have hbA : ¬ (fun q : Nat => s.heap.size ≤ q) b := Nat.not_le.mpr hbl
  intro O S T P D E B M f I0 I1 H locs ls cells slots hc1 hs1 hLI hP hD hS hl
  obtain ⟨⟨hI, hR⟩, hG0, hG1⟩ := id hLI
  have hin1 : vp_in (nI i + 1) L := by rw [show nI i + 1 = nI (i + 1) from nI_add i 1]; exact vp_in_nI (by omega) (by omega)
  obtain ⟨r, M', h7, h8, hX2⟩ := op_still N hN D E B hI hR (xs (nI i + 1).toNatClampNeg)
  refine lv_aload_n hx hb dL_law_665 rfl (lv_at hl 1 rfl) ?_
  refine lv_aload_n hx hb dL_law_666 rfl (lv_at hl 0 rfl) ?_
  refine lv_iload_n hx hb dL_law_667 rfl (lv_at hl 3 rfl) ?_
  refine lv_iconst (v := 1) hx hb dL_law_668 (by decide) ?_
  refine lv_iadd hx hb dL_law_669 ?_
  refine va_sld hx hb hX hbl hbA hS hin1 dL_law_670 ?_
  refine k_pVi (C := RX7) (ci := 7) (qr := 0) (n := 1) (As := [.int (xs (nI i + 1).toNatClampNeg)]) (rest := []) (bytes := cX7_still) (maxL := 5) (ret := (some .int)) hC hl.1 (c_X7_still l g N q1 q2 q3 q4 q5 q6 q7 q8 q9 O S T P D E B (xs (nI i + 1).toNatClampNeg) r h7) rfl hL_X7_still (by decide +kernel) rfl rfl ⟨Nat.le_of_ble_eq_true rfl, Nat.le_of_ble_eq_true rfl⟩ rfl rfl rfl (Nat.le_of_ble_eq_true rfl) (show cells + 0 ≤ 600000 ∧ slots + 0 ≤ 7302250 by omega) dL_law_671 hP hD hS hA (List.Perm.refl _) (fun H locs hP hD hS => ?_)
  refine lv_aload_n hx hb dL_law_674 rfl (lv_at hl 2 rfl) ?_
  refine lv_aload_n hx hb dL_law_675 rfl (lv_at hl 0 rfl) ?_
  refine lv_iload_n hx hb dL_law_676 rfl (lv_at hl 3 rfl) ?_
  refine lv_iconst (v := 1) hx hb dL_law_677 (by decide) ?_
  refine lv_iadd hx hb dL_law_678 ?_
  refine va_sld hx hb hX hbl hbA hS hin1 dL_law_679 ?_
  refine k_pVi (C := RX8) (ci := 8) (qr := 0) (n := 1) (As := [.int (xs (nI i + 1).toNatClampNeg)]) (rest := [.int r]) (bytes := cX8_still) (maxL := 6) (ret := (some .int)) hC hl.1 (c_X8_still l g N qm M (xs (nI i + 1).toNatClampNeg) r M' h8) rfl hL_X8_still (by decide +kernel) rfl rfl ⟨Nat.le_of_ble_eq_true rfl, Nat.le_of_ble_eq_true rfl⟩ rfl rfl rfl (Nat.le_of_ble_eq_true rfl) (show cells + 0 ≤ 600000 ∧ slots + 0 ≤ 7302250 by omega) dL_law_680 hP hD hS hA (pr2 _ _ _) (fun H locs hP hD hS => ?_)
  refine lv_icmp_eq (tgt := 1035) hx hb dL_law_683 (by decide) (fun _ => ?_) (fun q => absurd rfl q)
  refine W.widen (k := C1) (n := S1) (by omega) (by omega) ?_
  exact K O S T P D E B M' f I0 I1 H locs ls (hLI.go hI (hX2.R hR) hX2.2) (wp_perm (pr2 _ _ _) hP) (wd_perm (pr2 _ _ _) hD) hS hl
set_option maxRecDepth 100000 in
set_option maxHeartbeats 1000000 in
theorem lc_orders {p : Program} {l : Launch} {e : Env} {s : State} {m : MethodId} {below : List Frame} {meth : Method} {c : Code} {Q : State → Prop} {g : GG} {b L i C1 S1 : Nat} {xs : Nat → Int32} (N : Nat) (hN : 2000 ≤ N) (hC : Cx p s m #[Value.ref b] c RL cL_law 4 lw_tbl g) (hX : va_X b L xs s s.heap) (hbl : b < s.heap.size) (hi : i + 6 ≤ L) (hL : L ≤ 3072) (hroom : C1 ≤ 600000 ∧ S1 ≤ 7302250) (q1 q2 q3 q4 q5 q6 q7 q8 q9 qm : Nat → Nat) (K : LK p l e s m below meth c Q g b i C1 S1 q1 q2 q3 q4 q5 q6 q7 q8 q9 qm) : ∀ (O S T P D E B M : St) (f : Nat → Option Nat) (I0 I1 : Img) (H : Heap) (locs : List Loc) (ls : Array Slot) (cells slots : Nat), cells + 14 ≤ C1 → slots + 113 ≤ S1 → LI O S T P M f I0 I1 → va_P g.1 vwCl (LW g q1 q2 q3 q4 q5 q6 q7 q8 q9 qm O S T P D E B M f I0 I1) H → va_D (fun q : Nat => s.heap.size ≤ q) (LW g q1 q2 q3 q4 q5 q6 q7 q8 q9 qm O S T P D E B M f I0 I1) → va_S (fun q : Nat => s.heap.size ≤ q) s.heap H locs → lv_has ls 4 [(0, .ref b), (1, .ref (q1 100)), (2, .ref (qm 100)), (3, .int (nI i))] → W p l e room_1 s m #[Value.ref b] below meth c H locs cells slots Q (F0 m 688 ls []) := by
  have hx := hC.1.1
  have hb := hC.1.2.1
  have hA : ∀ q : Nat, s.heap.size ≤ q → (fun q : Nat => s.heap.size ≤ q) q := fun _ h => h
  have hbA : ¬ (fun q : Nat => s.heap.size ≤ q) b := Nat.not_le.mpr hbl
  intro O S T P D E B M f I0 I1 H locs ls cells slots hc1 hs1 hLI hP hD hS hl
  obtain ⟨⟨hI, hR⟩, hG0, hG1⟩ := id hLI
  have hin1 : vp_in (nI i + 1) L := by rw [show nI i + 1 = nI (i + 1) from nI_add i 1]; exact vp_in_nI (by omega) (by omega)
  have hin2 : vp_in (nI i + 2) L := by rw [show nI i + 2 = nI (i + 2) from nI_add i 2]; exact vp_in_nI (by omega) (by omega)
  obtain ⟨r, B', M', h7, h8, hX2⟩ := op_orders N hN D E B hI hR (xs (nI i + 1).toNatClampNeg) (xs (nI i + 2).toNatClampNeg)
  refine lv_aload_n hx hb dL_law_688 rfl (lv_at hl 1 rfl) ?_
  refine lv_aload_n hx hb dL_law_689 rfl (lv_at hl 0 rfl) ?_
  refine lv_iload_n hx hb dL_law_690 rfl (lv_at hl 3 rfl) ?_
  refine lv_iconst (v := 1) hx hb dL_law_691 (by decide) ?_
  refine lv_iadd hx hb dL_law_692 ?_
  refine va_sld hx hb hX hbl hbA hS hin1 dL_law_693 ?_
  refine lv_aload_n hx hb dL_law_694 rfl (lv_at hl 0 rfl) ?_
  refine lv_iload_n hx hb dL_law_695 rfl (lv_at hl 3 rfl) ?_
  refine lv_iconst (v := 2) hx hb dL_law_696 (by decide) ?_
  refine lv_iadd hx hb dL_law_697 ?_
  refine va_sld hx hb hX hbl hbA hS hin2 dL_law_698 ?_
  refine k_pVi (C := RX7) (ci := 7) (qr := 0) (n := 2) (As := [.int (xs (nI i + 1).toNatClampNeg), .int (xs (nI i + 2).toNatClampNeg)]) (rest := []) (bytes := cX7_orders) (maxL := 4) (ret := (some .int)) hC hl.1 (c_X7_orders l g N q1 q2 q3 q4 q5 q6 q7 q8 q9 O S T P D E B (xs (nI i + 1).toNatClampNeg) (xs (nI i + 2).toNatClampNeg) r B' h7) rfl hL_X7_orders (by decide +kernel) rfl rfl ⟨Nat.le_of_ble_eq_true rfl, Nat.le_of_ble_eq_true rfl⟩ rfl rfl rfl (Nat.le_of_ble_eq_true rfl) (show cells + 0 ≤ 600000 ∧ slots + 0 ≤ 7302250 by omega) dL_law_699 hP hD hS hA (List.Perm.refl _) (fun H locs hP hD hS => ?_)
  refine lv_aload_n hx hb dL_law_702 rfl (lv_at hl 2 rfl) ?_
  refine lv_aload_n hx hb dL_law_703 rfl (lv_at hl 0 rfl) ?_
  refine lv_iload_n hx hb dL_law_704 rfl (lv_at hl 3 rfl) ?_
  refine lv_iconst (v := 1) hx hb dL_law_705 (by decide) ?_
  refine lv_iadd hx hb dL_law_706 ?_
  refine va_sld hx hb hX hbl hbA hS hin1 dL_law_707 ?_
  refine lv_aload_n hx hb dL_law_708 rfl (lv_at hl 0 rfl) ?_
  refine lv_iload_n hx hb dL_law_709 rfl (lv_at hl 3 rfl) ?_
  refine lv_iconst (v := 2) hx hb dL_law_710 (by decide) ?_
  refine lv_iadd hx hb dL_law_711 ?_
  refine va_sld hx hb hX hbl hbA hS hin2 dL_law_712 ?_
  refine k_pVi (C := RX8) (ci := 8) (qr := 0) (n := 2) (As := [.int (xs (nI i + 1).toNatClampNeg), .int (xs (nI i + 2).toNatClampNeg)]) (rest := [.int r]) (bytes := cX8_orders) (maxL := 3) (ret := (some .int)) hC hl.1 (c_X8_orders l g N qm M (xs (nI i + 1).toNatClampNeg) (xs (nI i + 2).toNatClampNeg) r M' h8) rfl hL_X8_orders (by decide +kernel) rfl rfl ⟨Nat.le_of_ble_eq_true rfl, Nat.le_of_ble_eq_true rfl⟩ rfl rfl rfl (Nat.le_of_ble_eq_true rfl) (show cells + 0 ≤ 600000 ∧ slots + 0 ≤ 7302250 by omega) dL_law_713 hP hD hS hA (pr2 _ _ _) (fun H locs hP hD hS => ?_)
  refine lv_icmp_eq (tgt := 1035) hx hb dL_law_716 (by decide) (fun _ => ?_) (fun q => absurd rfl q)
  refine W.widen (k := C1) (n := S1) (by omega) (by omega) ?_
  exact K O S T P D E B' M' f I0 I1 H locs ls (hLI.go hI (hX2.R hR) hX2.2) (wp_perm (pr2 _ _ _) hP) (wd_perm (pr2 _ _ _) hD) hS hl
set_option maxRecDepth 100000 in
set_option maxHeartbeats 1000000 in
theorem lc_two {p : Program} {l : Launch} {e : Env} {s : State} {m : MethodId} {below : List Frame} {meth : Method} {c : Code} {Q : State → Prop} {g : GG} {b L i C1 S1 : Nat} {xs : Nat → Int32} (N : Nat) (hN : 2000 ≤ N) (hC : Cx p s m #[Value.ref b] c RL cL_law 4 lw_tbl g) (hX : va_X b L xs s s.heap) (hbl : b < s.heap.size) (hi : i + 6 ≤ L) (hL : L ≤ 3072) (hroom : C1 ≤ 600000 ∧ S1 ≤ 7302250) (q1 q2 q3 q4 q5 q6 q7 q8 q9 qm : Nat → Nat) (K : LK p l e s m below meth c Q g b i C1 S1 q1 q2 q3 q4 q5 q6 q7 q8 q9 qm) : ∀ (O S T P D E B M : St) (f : Nat → Option Nat) (I0 I1 : Img) (H : Heap) (locs : List Loc) (ls : Array Slot) (cells slots : Nat), cells + 14 ≤ C1 → slots + 113 ≤ S1 → LI O S T P M f I0 I1 → va_P g.1 vwCl (LW g q1 q2 q3 q4 q5 q6 q7 q8 q9 qm O S T P D E B M f I0 I1) H → va_D (fun q : Nat => s.heap.size ≤ q) (LW g q1 q2 q3 q4 q5 q6 q7 q8 q9 qm O S T P D E B M f I0 I1) → va_S (fun q : Nat => s.heap.size ≤ q) s.heap H locs → lv_has ls 4 [(0, .ref b), (1, .ref (q1 100)), (2, .ref (qm 100)), (3, .int (nI i))] → W p l e room_1 s m #[Value.ref b] below meth c H locs cells slots Q (F0 m 721 ls []) := by
  have hx := hC.1.1
  have hb := hC.1.2.1
  have hA : ∀ q : Nat, s.heap.size ≤ q → (fun q : Nat => s.heap.size ≤ q) q := fun _ h => h
  have hbA : ¬ (fun q : Nat => s.heap.size ≤ q) b := Nat.not_le.mpr hbl
  intro O S T P D E B M f I0 I1 H locs ls cells slots hc1 hs1 hLI hP hD hS hl
  obtain ⟨⟨hI, hR⟩, hG0, hG1⟩ := id hLI
  have hin1 : vp_in (nI i + 1) L := by rw [show nI i + 1 = nI (i + 1) from nI_add i 1]; exact vp_in_nI (by omega) (by omega)
  have hin2 : vp_in (nI i + 2) L := by rw [show nI i + 2 = nI (i + 2) from nI_add i 2]; exact vp_in_nI (by omega) (by omega)
  obtain ⟨r, B', M', h7, h8, hX2⟩ := op_two N hN D E B hI hR (xs (nI i + 1).toNatClampNeg) (xs (nI i + 2).toNatClampNeg)
  refine lv_aload_n hx hb dL_law_721 rfl (lv_at hl 1 rfl) ?_
  refine lv_aload_n hx hb dL_law_722 rfl (lv_at hl 0 rfl) ?_
  refine lv_iload_n hx hb dL_law_723 rfl (lv_at hl 3 rfl) ?_
  refine lv_iconst (v := 1) hx hb dL_law_724 (by decide) ?_
  refine lv_iadd hx hb dL_law_725 ?_
  refine va_sld hx hb hX hbl hbA hS hin1 dL_law_726 ?_
  refine lv_aload_n hx hb dL_law_727 rfl (lv_at hl 0 rfl) ?_
  refine lv_iload_n hx hb dL_law_728 rfl (lv_at hl 3 rfl) ?_
  refine lv_iconst (v := 2) hx hb dL_law_729 (by decide) ?_
  refine lv_iadd hx hb dL_law_730 ?_
  refine va_sld hx hb hX hbl hbA hS hin2 dL_law_731 ?_
  refine k_pVi (C := RX7) (ci := 7) (qr := 0) (n := 2) (As := [.int (xs (nI i + 1).toNatClampNeg), .int (xs (nI i + 2).toNatClampNeg)]) (rest := []) (bytes := cX7_two) (maxL := 4) (ret := (some .int)) hC hl.1 (c_X7_two l g N q1 q2 q3 q4 q5 q6 q7 q8 q9 O S T P D E B (xs (nI i + 1).toNatClampNeg) (xs (nI i + 2).toNatClampNeg) r B' h7) rfl hL_X7_two (by decide +kernel) rfl rfl ⟨Nat.le_of_ble_eq_true rfl, Nat.le_of_ble_eq_true rfl⟩ rfl rfl rfl (Nat.le_of_ble_eq_true rfl) (show cells + 0 ≤ 600000 ∧ slots + 0 ≤ 7302250 by omega) dL_law_732 hP hD hS hA (List.Perm.refl _) (fun H locs hP hD hS => ?_)
  refine lv_aload_n hx hb dL_law_735 rfl (lv_at hl 2 rfl) ?_
  refine lv_aload_n hx hb dL_law_736 rfl (lv_at hl 0 rfl) ?_
  refine lv_iload_n hx hb dL_law_737 rfl (lv_at hl 3 rfl) ?_
  refine lv_iconst (v := 1) hx hb dL_law_738 (by decide) ?_
  refine lv_iadd hx hb dL_law_739 ?_
  refine va_sld hx hb hX hbl hbA hS hin1 dL_law_740 ?_
  refine lv_aload_n hx hb dL_law_741 rfl (lv_at hl 0 rfl) ?_
  refine lv_iload_n hx hb dL_law_742 rfl (lv_at hl 3 rfl) ?_
  refine lv_iconst (v := 2) hx hb dL_law_743 (by decide) ?_
  refine lv_iadd hx hb dL_law_744 ?_
  refine va_sld hx hb hX hbl hbA hS hin2 dL_law_745 ?_
  refine k_pVi (C := RX8) (ci := 8) (qr := 0) (n := 2) (As := [.int (xs (nI i + 1).toNatClampNeg), .int (xs (nI i + 2).toNatClampNeg)]) (rest := [.int r]) (bytes := cX8_two) (maxL := 13) (ret := (some .int)) hC hl.1 (c_X8_two l g N qm M (xs (nI i + 1).toNatClampNeg) (xs (nI i + 2).toNatClampNeg) r M' h8) rfl hL_X8_two (by decide +kernel) rfl rfl ⟨Nat.le_of_ble_eq_true rfl, Nat.le_of_ble_eq_true rfl⟩ rfl rfl rfl (Nat.le_of_ble_eq_true rfl) (show cells + 0 ≤ 600000 ∧ slots + 0 ≤ 7302250 by omega) dL_law_746 hP hD hS hA (pr2 _ _ _) (fun H locs hP hD hS => ?_)
  refine lv_icmp_eq (tgt := 1035) hx hb dL_law_749 (by decide) (fun _ => ?_) (fun q => absurd rfl q)
  refine W.widen (k := C1) (n := S1) (by omega) (by omega) ?_
  exact K O S T P D E B' M' f I0 I1 H locs ls (hLI.go hI (hX2.R hR) hX2.2) (wp_perm (pr2 _ _ _) hP) (wd_perm (pr2 _ _ _) hD) hS hl
set_option maxRecDepth 100000 in
set_option maxHeartbeats 1000000 in
theorem lc_warm {p : Program} {l : Launch} {e : Env} {s : State} {m : MethodId} {below : List Frame} {meth : Method} {c : Code} {Q : State → Prop} {g : GG} {b L i C1 S1 : Nat} {xs : Nat → Int32} (N : Nat) (hN : 2000 ≤ N) (hC : Cx p s m #[Value.ref b] c RL cL_law 4 lw_tbl g) (hX : va_X b L xs s s.heap) (hbl : b < s.heap.size) (hi : i + 6 ≤ L) (hL : L ≤ 3072) (hroom : C1 ≤ 600000 ∧ S1 ≤ 7302250) (q1 q2 q3 q4 q5 q6 q7 q8 q9 qm : Nat → Nat) (K : LK p l e s m below meth c Q g b i C1 S1 q1 q2 q3 q4 q5 q6 q7 q8 q9 qm) : ∀ (O S T P D E B M : St) (f : Nat → Option Nat) (I0 I1 : Img) (H : Heap) (locs : List Loc) (ls : Array Slot) (cells slots : Nat), cells + 14 ≤ C1 → slots + 113 ≤ S1 → LI O S T P M f I0 I1 → va_P g.1 vwCl (LW g q1 q2 q3 q4 q5 q6 q7 q8 q9 qm O S T P D E B M f I0 I1) H → va_D (fun q : Nat => s.heap.size ≤ q) (LW g q1 q2 q3 q4 q5 q6 q7 q8 q9 qm O S T P D E B M f I0 I1) → va_S (fun q : Nat => s.heap.size ≤ q) s.heap H locs → lv_has ls 4 [(0, .ref b), (1, .ref (q1 100)), (2, .ref (qm 100)), (3, .int (nI i))] → W p l e room_1 s m #[Value.ref b] below meth c H locs cells slots Q (F0 m 754 ls []) := by
  have hx := hC.1.1
  have hb := hC.1.2.1
  have hA : ∀ q : Nat, s.heap.size ≤ q → (fun q : Nat => s.heap.size ≤ q) q := fun _ h => h
  have hbA : ¬ (fun q : Nat => s.heap.size ≤ q) b := Nat.not_le.mpr hbl
  intro O S T P D E B M f I0 I1 H locs ls cells slots hc1 hs1 hLI hP hD hS hl
  obtain ⟨⟨hI, hR⟩, hG0, hG1⟩ := id hLI
  have hin1 : vp_in (nI i + 1) L := by rw [show nI i + 1 = nI (i + 1) from nI_add i 1]; exact vp_in_nI (by omega) (by omega)
  obtain ⟨r, B', M', h7, h8, hX2⟩ := op_warm N hN D E B hI hR (xs (nI i + 1).toNatClampNeg)
  refine lv_aload_n hx hb dL_law_754 rfl (lv_at hl 1 rfl) ?_
  refine lv_aload_n hx hb dL_law_755 rfl (lv_at hl 0 rfl) ?_
  refine lv_iload_n hx hb dL_law_756 rfl (lv_at hl 3 rfl) ?_
  refine lv_iconst (v := 1) hx hb dL_law_757 (by decide) ?_
  refine lv_iadd hx hb dL_law_758 ?_
  refine va_sld hx hb hX hbl hbA hS hin1 dL_law_759 ?_
  refine k_pVi (C := RX7) (ci := 7) (qr := 0) (n := 1) (As := [.int (xs (nI i + 1).toNatClampNeg)]) (rest := []) (bytes := cX7_warm) (maxL := 4) (ret := (some .int)) hC hl.1 (c_X7_warm l g N q1 q2 q3 q4 q5 q6 q7 q8 q9 O S T P D E B (xs (nI i + 1).toNatClampNeg) r B' h7) rfl hL_X7_warm (by decide +kernel) rfl rfl ⟨Nat.le_of_ble_eq_true rfl, Nat.le_of_ble_eq_true rfl⟩ rfl rfl rfl (Nat.le_of_ble_eq_true rfl) (show cells + 0 ≤ 600000 ∧ slots + 0 ≤ 7302250 by omega) dL_law_760 hP hD hS hA (List.Perm.refl _) (fun H locs hP hD hS => ?_)
  refine lv_aload_n hx hb dL_law_763 rfl (lv_at hl 2 rfl) ?_
  refine lv_aload_n hx hb dL_law_764 rfl (lv_at hl 0 rfl) ?_
  refine lv_iload_n hx hb dL_law_765 rfl (lv_at hl 3 rfl) ?_
  refine lv_iconst (v := 1) hx hb dL_law_766 (by decide) ?_
  refine lv_iadd hx hb dL_law_767 ?_
  refine va_sld hx hb hX hbl hbA hS hin1 dL_law_768 ?_
  refine k_pVi (C := RX8) (ci := 8) (qr := 0) (n := 1) (As := [.int (xs (nI i + 1).toNatClampNeg)]) (rest := [.int r]) (bytes := cX8_warm) (maxL := 3) (ret := (some .int)) hC hl.1 (c_X8_warm l g N qm M (xs (nI i + 1).toNatClampNeg) r M' h8) rfl hL_X8_warm (by decide +kernel) rfl rfl ⟨Nat.le_of_ble_eq_true rfl, Nat.le_of_ble_eq_true rfl⟩ rfl rfl rfl (Nat.le_of_ble_eq_true rfl) (show cells + 0 ≤ 600000 ∧ slots + 0 ≤ 7302250 by omega) dL_law_769 hP hD hS hA (pr2 _ _ _) (fun H locs hP hD hS => ?_)
  refine lv_icmp_eq (tgt := 1035) hx hb dL_law_772 (by decide) (fun _ => ?_) (fun q => absurd rfl q)
  refine W.widen (k := C1) (n := S1) (by omega) (by omega) ?_
  exact K O S T P D E B' M' f I0 I1 H locs ls (hLI.go hI (hX2.R hR) hX2.2) (wp_perm (pr2 _ _ _) hP) (wd_perm (pr2 _ _ _) hD) hS hl
set_option maxRecDepth 100000 in
set_option maxHeartbeats 1000000 in
theorem lc_seen {p : Program} {l : Launch} {e : Env} {s : State} {m : MethodId} {below : List Frame} {meth : Method} {c : Code} {Q : State → Prop} {g : GG} {b L i C1 S1 : Nat} {xs : Nat → Int32} (N : Nat) (hN : 2000 ≤ N) (hC : Cx p s m #[Value.ref b] c RL cL_law 4 lw_tbl g) (hX : va_X b L xs s s.heap) (hbl : b < s.heap.size) (hi : i + 6 ≤ L) (hL : L ≤ 3072) (hroom : C1 ≤ 600000 ∧ S1 ≤ 7302250) (q1 q2 q3 q4 q5 q6 q7 q8 q9 qm : Nat → Nat) (K : LK p l e s m below meth c Q g b i C1 S1 q1 q2 q3 q4 q5 q6 q7 q8 q9 qm) : ∀ (O S T P D E B M : St) (f : Nat → Option Nat) (I0 I1 : Img) (H : Heap) (locs : List Loc) (ls : Array Slot) (cells slots : Nat), cells + 14 ≤ C1 → slots + 113 ≤ S1 → LI O S T P M f I0 I1 → va_P g.1 vwCl (LW g q1 q2 q3 q4 q5 q6 q7 q8 q9 qm O S T P D E B M f I0 I1) H → va_D (fun q : Nat => s.heap.size ≤ q) (LW g q1 q2 q3 q4 q5 q6 q7 q8 q9 qm O S T P D E B M f I0 I1) → va_S (fun q : Nat => s.heap.size ≤ q) s.heap H locs → lv_has ls 4 [(0, .ref b), (1, .ref (q1 100)), (2, .ref (qm 100)), (3, .int (nI i))] → W p l e room_1 s m #[Value.ref b] below meth c H locs cells slots Q (F0 m 777 ls []) := by
  have hx := hC.1.1
  have hb := hC.1.2.1
  have hA : ∀ q : Nat, s.heap.size ≤ q → (fun q : Nat => s.heap.size ≤ q) q := fun _ h => h
  have hbA : ¬ (fun q : Nat => s.heap.size ≤ q) b := Nat.not_le.mpr hbl
  intro O S T P D E B M f I0 I1 H locs ls cells slots hc1 hs1 hLI hP hD hS hl
  obtain ⟨⟨hI, hR⟩, hG0, hG1⟩ := id hLI
  have hin1 : vp_in (nI i + 1) L := by rw [show nI i + 1 = nI (i + 1) from nI_add i 1]; exact vp_in_nI (by omega) (by omega)
  obtain ⟨r, T', M', h7, h8, hI2, hR2, hK2⟩ := op_seen N D E B hI hR (xs (nI i + 1).toNatClampNeg)
  refine lv_aload_n hx hb dL_law_777 rfl (lv_at hl 1 rfl) ?_
  refine lv_aload_n hx hb dL_law_778 rfl (lv_at hl 0 rfl) ?_
  refine lv_iload_n hx hb dL_law_779 rfl (lv_at hl 3 rfl) ?_
  refine lv_iconst (v := 1) hx hb dL_law_780 (by decide) ?_
  refine lv_iadd hx hb dL_law_781 ?_
  refine va_sld hx hb hX hbl hbA hS hin1 dL_law_782 ?_
  refine k_pVi (C := RX7) (ci := 7) (qr := 0) (n := 1) (As := [.int (xs (nI i + 1).toNatClampNeg)]) (rest := []) (bytes := cX7_seen) (maxL := 3) (ret := (some .int)) hC hl.1 (c_X7_seen l g N q1 q2 q3 q4 q5 q6 q7 q8 q9 O S T P D E B (xs (nI i + 1).toNatClampNeg) r T' h7) rfl hL_X7_seen (by decide +kernel) rfl rfl ⟨Nat.le_of_ble_eq_true rfl, Nat.le_of_ble_eq_true rfl⟩ rfl rfl rfl (Nat.le_of_ble_eq_true rfl) (show cells + 0 ≤ 600000 ∧ slots + 0 ≤ 7302250 by omega) dL_law_783 hP hD hS hA (List.Perm.refl _) (fun H locs hP hD hS => ?_)
  refine lv_aload_n hx hb dL_law_786 rfl (lv_at hl 2 rfl) ?_
  refine lv_aload_n hx hb dL_law_787 rfl (lv_at hl 0 rfl) ?_
  refine lv_iload_n hx hb dL_law_788 rfl (lv_at hl 3 rfl) ?_
  refine lv_iconst (v := 1) hx hb dL_law_789 (by decide) ?_
  refine lv_iadd hx hb dL_law_790 ?_
  refine va_sld hx hb hX hbl hbA hS hin1 dL_law_791 ?_
  refine k_pVi (C := RX8) (ci := 8) (qr := 0) (n := 1) (As := [.int (xs (nI i + 1).toNatClampNeg)]) (rest := [.int r]) (bytes := cX8_seen) (maxL := 2) (ret := (some .int)) hC hl.1 (c_X8_seen l g N qm M (xs (nI i + 1).toNatClampNeg) r M' h8) rfl hL_X8_seen (by decide +kernel) rfl rfl ⟨Nat.le_of_ble_eq_true rfl, Nat.le_of_ble_eq_true rfl⟩ rfl rfl rfl (Nat.le_of_ble_eq_true rfl) (show cells + 0 ≤ 600000 ∧ slots + 0 ≤ 7302250 by omega) dL_law_792 hP hD hS hA (pr2 _ _ _) (fun H locs hP hD hS => ?_)
  refine lv_icmp_eq (tgt := 1035) hx hb dL_law_795 (by decide) (fun _ => ?_) (fun q => absurd rfl q)
  refine W.widen (k := C1) (n := S1) (by omega) (by omega) ?_
  exact K O S T' P D E B M' f I0 I1 H locs ls (hLI.go hI2 hR2 hK2) (wp_perm (pr2 _ _ _) hP) (wd_perm (pr2 _ _ _) hD) hS hl
set_option maxRecDepth 100000 in
set_option maxHeartbeats 1000000 in
theorem lc_forget {p : Program} {l : Launch} {e : Env} {s : State} {m : MethodId} {below : List Frame} {meth : Method} {c : Code} {Q : State → Prop} {g : GG} {b L i C1 S1 : Nat} {xs : Nat → Int32} (N : Nat) (hN : 2000 ≤ N) (hC : Cx p s m #[Value.ref b] c RL cL_law 4 lw_tbl g) (hX : va_X b L xs s s.heap) (hbl : b < s.heap.size) (hi : i + 6 ≤ L) (hL : L ≤ 3072) (hroom : C1 ≤ 600000 ∧ S1 ≤ 7302250) (q1 q2 q3 q4 q5 q6 q7 q8 q9 qm : Nat → Nat) (K : LK p l e s m below meth c Q g b i C1 S1 q1 q2 q3 q4 q5 q6 q7 q8 q9 qm) : ∀ (O S T P D E B M : St) (f : Nat → Option Nat) (I0 I1 : Img) (H : Heap) (locs : List Loc) (ls : Array Slot) (cells slots : Nat), cells + 14 ≤ C1 → slots + 113 ≤ S1 → LI O S T P M f I0 I1 → va_P g.1 vwCl (LW g q1 q2 q3 q4 q5 q6 q7 q8 q9 qm O S T P D E B M f I0 I1) H → va_D (fun q : Nat => s.heap.size ≤ q) (LW g q1 q2 q3 q4 q5 q6 q7 q8 q9 qm O S T P D E B M f I0 I1) → va_S (fun q : Nat => s.heap.size ≤ q) s.heap H locs → lv_has ls 4 [(0, .ref b), (1, .ref (q1 100)), (2, .ref (qm 100)), (3, .int (nI i))] → W p l e room_1 s m #[Value.ref b] below meth c H locs cells slots Q (F0 m 800 ls []) := by
  have hx := hC.1.1
  have hb := hC.1.2.1
  have hA : ∀ q : Nat, s.heap.size ≤ q → (fun q : Nat => s.heap.size ≤ q) q := fun _ h => h
  have hbA : ¬ (fun q : Nat => s.heap.size ≤ q) b := Nat.not_le.mpr hbl
  intro O S T P D E B M f I0 I1 H locs ls cells slots hc1 hs1 hLI hP hD hS hl
  obtain ⟨⟨hI, hR⟩, hG0, hG1⟩ := id hLI
  obtain ⟨r, T', M', h7, h8, hI2, hR2, hK2⟩ := op_forget N D E B hI hR
  refine lv_aload_n hx hb dL_law_800 rfl (lv_at hl 1 rfl) ?_
  refine k_pVi (C := RX7) (ci := 7) (qr := 0) (n := 0) (As := []) (rest := []) (bytes := cX7_forget) (maxL := 2) (ret := (some .int)) hC hl.1 (c_X7_forget l g N q1 q2 q3 q4 q5 q6 q7 q8 q9 O S T P D E B r T' h7) rfl hL_X7_forget (by decide +kernel) rfl rfl ⟨Nat.le_of_ble_eq_true rfl, Nat.le_of_ble_eq_true rfl⟩ rfl rfl rfl (Nat.le_of_ble_eq_true rfl) (show cells + 0 ≤ 600000 ∧ slots + 0 ≤ 7302250 by omega) dL_law_801 hP hD hS hA (List.Perm.refl _) (fun H locs hP hD hS => ?_)
  refine lv_aload_n hx hb dL_law_804 rfl (lv_at hl 2 rfl) ?_
  refine k_pVi (C := RX8) (ci := 8) (qr := 0) (n := 0) (As := []) (rest := [.int r]) (bytes := cX8_forget) (maxL := 2) (ret := (some .int)) hC hl.1 (c_X8_forget l g N qm M r M' h8) rfl hL_X8_forget (by decide +kernel) rfl rfl ⟨Nat.le_of_ble_eq_true rfl, Nat.le_of_ble_eq_true rfl⟩ rfl rfl rfl (Nat.le_of_ble_eq_true rfl) (show cells + 0 ≤ 600000 ∧ slots + 0 ≤ 7302250 by omega) dL_law_805 hP hD hS hA (pr2 _ _ _) (fun H locs hP hD hS => ?_)
  refine lv_icmp_eq (tgt := 1035) hx hb dL_law_808 (by decide) (fun _ => ?_) (fun q => absurd rfl q)
  refine W.widen (k := C1) (n := S1) (by omega) (by omega) ?_
  exact K O S T' P D E B M' f I0 I1 H locs ls (hLI.go hI2 hR2 hK2) (wp_perm (pr2 _ _ _) hP) (wd_perm (pr2 _ _ _) hD) hS hl
set_option maxRecDepth 100000 in
set_option maxHeartbeats 1000000 in
theorem lc_stood {p : Program} {l : Launch} {e : Env} {s : State} {m : MethodId} {below : List Frame} {meth : Method} {c : Code} {Q : State → Prop} {g : GG} {b L i C1 S1 : Nat} {xs : Nat → Int32} (N : Nat) (hN : 2000 ≤ N) (hC : Cx p s m #[Value.ref b] c RL cL_law 4 lw_tbl g) (hX : va_X b L xs s s.heap) (hbl : b < s.heap.size) (hi : i + 6 ≤ L) (hL : L ≤ 3072) (hroom : C1 ≤ 600000 ∧ S1 ≤ 7302250) (q1 q2 q3 q4 q5 q6 q7 q8 q9 qm : Nat → Nat) (K : LK p l e s m below meth c Q g b i C1 S1 q1 q2 q3 q4 q5 q6 q7 q8 q9 qm) : ∀ (O S T P D E B M : St) (f : Nat → Option Nat) (I0 I1 : Img) (H : Heap) (locs : List Loc) (ls : Array Slot) (cells slots : Nat), cells + 14 ≤ C1 → slots + 113 ≤ S1 → LI O S T P M f I0 I1 → va_P g.1 vwCl (LW g q1 q2 q3 q4 q5 q6 q7 q8 q9 qm O S T P D E B M f I0 I1) H → va_D (fun q : Nat => s.heap.size ≤ q) (LW g q1 q2 q3 q4 q5 q6 q7 q8 q9 qm O S T P D E B M f I0 I1) → va_S (fun q : Nat => s.heap.size ≤ q) s.heap H locs → lv_has ls 4 [(0, .ref b), (1, .ref (q1 100)), (2, .ref (qm 100)), (3, .int (nI i))] → W p l e room_1 s m #[Value.ref b] below meth c H locs cells slots Q (F0 m 813 ls []) := by
  have hx := hC.1.1
  have hb := hC.1.2.1
  have hA : ∀ q : Nat, s.heap.size ≤ q → (fun q : Nat => s.heap.size ≤ q) q := fun _ h => h
  have hbA : ¬ (fun q : Nat => s.heap.size ≤ q) b := Nat.not_le.mpr hbl
  intro O S T P D E B M f I0 I1 H locs ls cells slots hc1 hs1 hLI hP hD hS hl
  obtain ⟨⟨hI, hR⟩, hG0, hG1⟩ := id hLI
  have hin1 : vp_in (nI i + 1) L := by rw [show nI i + 1 = nI (i + 1) from nI_add i 1]; exact vp_in_nI (by omega) (by omega)
  have hin2 : vp_in (nI i + 2) L := by rw [show nI i + 2 = nI (i + 2) from nI_add i 2]; exact vp_in_nI (by omega) (by omega)
  obtain ⟨r, M', h7, h8, hX2⟩ := op_stood N hN D E B hI hR (xs (nI i + 1).toNatClampNeg) (xs (nI i + 2).toNatClampNeg)
  refine lv_aload_n hx hb dL_law_813 rfl (lv_at hl 1 rfl) ?_
  refine lv_aload_n hx hb dL_law_814 rfl (lv_at hl 0 rfl) ?_
  refine lv_iload_n hx hb dL_law_815 rfl (lv_at hl 3 rfl) ?_
  refine lv_iconst (v := 1) hx hb dL_law_816 (by decide) ?_
  refine lv_iadd hx hb dL_law_817 ?_
  refine va_sld hx hb hX hbl hbA hS hin1 dL_law_818 ?_
  refine lv_aload_n hx hb dL_law_819 rfl (lv_at hl 0 rfl) ?_
  refine lv_iload_n hx hb dL_law_820 rfl (lv_at hl 3 rfl) ?_
  refine lv_iconst (v := 2) hx hb dL_law_821 (by decide) ?_
  refine lv_iadd hx hb dL_law_822 ?_
  refine va_sld hx hb hX hbl hbA hS hin2 dL_law_823 ?_
  refine k_pVi (C := RX7) (ci := 7) (qr := 0) (n := 2) (As := [.int (xs (nI i + 1).toNatClampNeg), .int (xs (nI i + 2).toNatClampNeg)]) (rest := []) (bytes := cX7_stood) (maxL := 7) (ret := (some .int)) hC hl.1 (c_X7_stood l g N q1 q2 q3 q4 q5 q6 q7 q8 q9 O S T P D E B (xs (nI i + 1).toNatClampNeg) (xs (nI i + 2).toNatClampNeg) r h7) rfl hL_X7_stood (by decide +kernel) rfl rfl ⟨Nat.le_of_ble_eq_true rfl, Nat.le_of_ble_eq_true rfl⟩ rfl rfl rfl (Nat.le_of_ble_eq_true rfl) (show cells + 0 ≤ 600000 ∧ slots + 0 ≤ 7302250 by omega) dL_law_824 hP hD hS hA (List.Perm.refl _) (fun H locs hP hD hS => ?_)
  refine lv_aload_n hx hb dL_law_827 rfl (lv_at hl 2 rfl) ?_
  refine lv_aload_n hx hb dL_law_828 rfl (lv_at hl 0 rfl) ?_
  refine lv_iload_n hx hb dL_law_829 rfl (lv_at hl 3 rfl) ?_
  refine lv_iconst (v := 1) hx hb dL_law_830 (by decide) ?_
  refine lv_iadd hx hb dL_law_831 ?_
  refine va_sld hx hb hX hbl hbA hS hin1 dL_law_832 ?_
  refine lv_aload_n hx hb dL_law_833 rfl (lv_at hl 0 rfl) ?_
  refine lv_iload_n hx hb dL_law_834 rfl (lv_at hl 3 rfl) ?_
  refine lv_iconst (v := 2) hx hb dL_law_835 (by decide) ?_
  refine lv_iadd hx hb dL_law_836 ?_
  refine va_sld hx hb hX hbl hbA hS hin2 dL_law_837 ?_
  refine k_pVi (C := RX8) (ci := 8) (qr := 0) (n := 2) (As := [.int (xs (nI i + 1).toNatClampNeg), .int (xs (nI i + 2).toNatClampNeg)]) (rest := [.int r]) (bytes := cX8_stood) (maxL := 6) (ret := (some .int)) hC hl.1 (c_X8_stood l g N qm M (xs (nI i + 1).toNatClampNeg) (xs (nI i + 2).toNatClampNeg) r M' h8) rfl hL_X8_stood (by decide +kernel) rfl rfl ⟨Nat.le_of_ble_eq_true rfl, Nat.le_of_ble_eq_true rfl⟩ rfl rfl rfl (Nat.le_of_ble_eq_true rfl) (show cells + 0 ≤ 600000 ∧ slots + 0 ≤ 7302250 by omega) dL_law_838 hP hD hS hA (pr2 _ _ _) (fun H locs hP hD hS => ?_)
  refine lv_icmp_eq (tgt := 1035) hx hb dL_law_841 (by decide) (fun _ => ?_) (fun q => absurd rfl q)
  refine W.widen (k := C1) (n := S1) (by omega) (by omega) ?_
  exact K O S T P D E B M' f I0 I1 H locs ls (hLI.go hI (hX2.R hR) hX2.2) (wp_perm (pr2 _ _ _) hP) (wd_perm (pr2 _ _ _) hD) hS hl
set_option maxRecDepth 100000 in
set_option maxHeartbeats 1000000 in
theorem lc_both {p : Program} {l : Launch} {e : Env} {s : State} {m : MethodId} {below : List Frame} {meth : Method} {c : Code} {Q : State → Prop} {g : GG} {b L i C1 S1 : Nat} {xs : Nat → Int32} (N : Nat) (hN : 2000 ≤ N) (hC : Cx p s m #[Value.ref b] c RL cL_law 4 lw_tbl g) (hX : va_X b L xs s s.heap) (hbl : b < s.heap.size) (hi : i + 6 ≤ L) (hL : L ≤ 3072) (hroom : C1 ≤ 600000 ∧ S1 ≤ 7302250) (q1 q2 q3 q4 q5 q6 q7 q8 q9 qm : Nat → Nat) (K : LK p l e s m below meth c Q g b i C1 S1 q1 q2 q3 q4 q5 q6 q7 q8 q9 qm) : ∀ (O S T P D E B M : St) (f : Nat → Option Nat) (I0 I1 : Img) (H : Heap) (locs : List Loc) (ls : Array Slot) (cells slots : Nat), cells + 14 ≤ C1 → slots + 113 ≤ S1 → LI O S T P M f I0 I1 → va_P g.1 vwCl (LW g q1 q2 q3 q4 q5 q6 q7 q8 q9 qm O S T P D E B M f I0 I1) H → va_D (fun q : Nat => s.heap.size ≤ q) (LW g q1 q2 q3 q4 q5 q6 q7 q8 q9 qm O S T P D E B M f I0 I1) → va_S (fun q : Nat => s.heap.size ≤ q) s.heap H locs → lv_has ls 4 [(0, .ref b), (1, .ref (q1 100)), (2, .ref (qm 100)), (3, .int (nI i))] → W p l e room_1 s m #[Value.ref b] below meth c H locs cells slots Q (F0 m 846 ls []) := by
  have hx := hC.1.1
  have hb := hC.1.2.1
  have hA : ∀ q : Nat, s.heap.size ≤ q → (fun q : Nat => s.heap.size ≤ q) q := fun _ h => h
  have hbA : ¬ (fun q : Nat => s.heap.size ≤ q) b := Nat.not_le.mpr hbl
  intro O S T P D E B M f I0 I1 H locs ls cells slots hc1 hs1 hLI hP hD hS hl
  obtain ⟨⟨hI, hR⟩, hG0, hG1⟩ := id hLI
  obtain ⟨r, M', h7, h8, hX2⟩ := op_both N hN D E B hI hR
  refine lv_aload_n hx hb dL_law_846 rfl (lv_at hl 1 rfl) ?_
  refine k_pVi (C := RX7) (ci := 7) (qr := 0) (n := 0) (As := []) (rest := []) (bytes := cX7_both) (maxL := 5) (ret := (some .int)) hC hl.1 (c_X7_both l g N q1 q2 q3 q4 q5 q6 q7 q8 q9 O S T P D E B r h7) rfl hL_X7_both (by decide +kernel) rfl rfl ⟨Nat.le_of_ble_eq_true rfl, Nat.le_of_ble_eq_true rfl⟩ rfl rfl rfl (Nat.le_of_ble_eq_true rfl) (show cells + 0 ≤ 600000 ∧ slots + 0 ≤ 7302250 by omega) dL_law_847 hP hD hS hA (List.Perm.refl _) (fun H locs hP hD hS => ?_)
  refine lv_aload_n hx hb dL_law_850 rfl (lv_at hl 2 rfl) ?_
  refine k_pVi (C := RX8) (ci := 8) (qr := 0) (n := 0) (As := []) (rest := [.int r]) (bytes := cX8_both) (maxL := 5) (ret := (some .int)) hC hl.1 (c_X8_both l g N qm M r M' h8) rfl hL_X8_both (by decide +kernel) rfl rfl ⟨Nat.le_of_ble_eq_true rfl, Nat.le_of_ble_eq_true rfl⟩ rfl rfl rfl (Nat.le_of_ble_eq_true rfl) (show cells + 0 ≤ 600000 ∧ slots + 0 ≤ 7302250 by omega) dL_law_851 hP hD hS hA (pr2 _ _ _) (fun H locs hP hD hS => ?_)
  refine lv_icmp_eq (tgt := 1035) hx hb dL_law_854 (by decide) (fun _ => ?_) (fun q => absurd rfl q)
  refine W.widen (k := C1) (n := S1) (by omega) (by omega) ?_
  exact K O S T P D E B M' f I0 I1 H locs ls (hLI.go hI (hX2.R hR) hX2.2) (wp_perm (pr2 _ _ _) hP) (wd_perm (pr2 _ _ _) hD) hS hl
set_option maxRecDepth 100000 in
set_option maxHeartbeats 1000000 in
theorem lc_winds {p : Program} {l : Launch} {e : Env} {s : State} {m : MethodId} {below : List Frame} {meth : Method} {c : Code} {Q : State → Prop} {g : GG} {b L i C1 S1 : Nat} {xs : Nat → Int32} (N : Nat) (hN : 2000 ≤ N) (hC : Cx p s m #[Value.ref b] c RL cL_law 4 lw_tbl g) (hX : va_X b L xs s s.heap) (hbl : b < s.heap.size) (hi : i + 6 ≤ L) (hL : L ≤ 3072) (hroom : C1 ≤ 600000 ∧ S1 ≤ 7302250) (q1 q2 q3 q4 q5 q6 q7 q8 q9 qm : Nat → Nat) (K : LK p l e s m below meth c Q g b i C1 S1 q1 q2 q3 q4 q5 q6 q7 q8 q9 qm) : ∀ (O S T P D E B M : St) (f : Nat → Option Nat) (I0 I1 : Img) (H : Heap) (locs : List Loc) (ls : Array Slot) (cells slots : Nat), cells + 14 ≤ C1 → slots + 113 ≤ S1 → LI O S T P M f I0 I1 → va_P g.1 vwCl (LW g q1 q2 q3 q4 q5 q6 q7 q8 q9 qm O S T P D E B M f I0 I1) H → va_D (fun q : Nat => s.heap.size ≤ q) (LW g q1 q2 q3 q4 q5 q6 q7 q8 q9 qm O S T P D E B M f I0 I1) → va_S (fun q : Nat => s.heap.size ≤ q) s.heap H locs → lv_has ls 4 [(0, .ref b), (1, .ref (q1 100)), (2, .ref (qm 100)), (3, .int (nI i))] → W p l e room_1 s m #[Value.ref b] below meth c H locs cells slots Q (F0 m 859 ls []) := by
  have hx := hC.1.1
  have hb := hC.1.2.1
  have hA : ∀ q : Nat, s.heap.size ≤ q → (fun q : Nat => s.heap.size ≤ q) q := fun _ h => h
  have hbA : ¬ (fun q : Nat => s.heap.size ≤ q) b := Nat.not_le.mpr hbl
  intro O S T P D E B M f I0 I1 H locs ls cells slots hc1 hs1 hLI hP hD hS hl
  obtain ⟨⟨hI, hR⟩, hG0, hG1⟩ := id hLI
  have hin1 : vp_in (nI i + 1) L := by rw [show nI i + 1 = nI (i + 1) from nI_add i 1]; exact vp_in_nI (by omega) (by omega)
  have hin2 : vp_in (nI i + 2) L := by rw [show nI i + 2 = nI (i + 2) from nI_add i 2]; exact vp_in_nI (by omega) (by omega)
  have hin3 : vp_in (nI i + 3) L := by rw [show nI i + 3 = nI (i + 3) from nI_add i 3]; exact vp_in_nI (by omega) (by omega)
  have hin4 : vp_in (nI i + 4) L := by rw [show nI i + 4 = nI (i + 4) from nI_add i 4]; exact vp_in_nI (by omega) (by omega)
  have hin5 : vp_in (nI i + 5) L := by rw [show nI i + 5 = nI (i + 5) from nI_add i 5]; exact vp_in_nI (by omega) (by omega)
  obtain ⟨r, h7, h8⟩ := op_winds N hN D E B hI hR (xs (nI i + 1).toNatClampNeg) (xs (nI i + 2).toNatClampNeg) (xs (nI i + 3).toNatClampNeg) (xs (nI i + 4).toNatClampNeg) (xs (nI i + 5).toNatClampNeg)
  refine lv_aload_n hx hb dL_law_859 rfl (lv_at hl 1 rfl) ?_
  refine lv_aload_n hx hb dL_law_860 rfl (lv_at hl 0 rfl) ?_
  refine lv_iload_n hx hb dL_law_861 rfl (lv_at hl 3 rfl) ?_
  refine lv_iconst (v := 1) hx hb dL_law_862 (by decide) ?_
  refine lv_iadd hx hb dL_law_863 ?_
  refine va_sld hx hb hX hbl hbA hS hin1 dL_law_864 ?_
  refine lv_aload_n hx hb dL_law_865 rfl (lv_at hl 0 rfl) ?_
  refine lv_iload_n hx hb dL_law_866 rfl (lv_at hl 3 rfl) ?_
  refine lv_iconst (v := 2) hx hb dL_law_867 (by decide) ?_
  refine lv_iadd hx hb dL_law_868 ?_
  refine va_sld hx hb hX hbl hbA hS hin2 dL_law_869 ?_
  refine lv_aload_n hx hb dL_law_870 rfl (lv_at hl 0 rfl) ?_
  refine lv_iload_n hx hb dL_law_871 rfl (lv_at hl 3 rfl) ?_
  refine lv_iconst (v := 3) hx hb dL_law_872 (by decide) ?_
  refine lv_iadd hx hb dL_law_873 ?_
  refine va_sld hx hb hX hbl hbA hS hin3 dL_law_874 ?_
  refine lv_aload_n hx hb dL_law_875 rfl (lv_at hl 0 rfl) ?_
  refine lv_iload_n hx hb dL_law_876 rfl (lv_at hl 3 rfl) ?_
  refine lv_iconst (v := 4) hx hb dL_law_877 (by decide) ?_
  refine lv_iadd hx hb dL_law_878 ?_
  refine va_sld hx hb hX hbl hbA hS hin4 dL_law_879 ?_
  refine lv_aload_n hx hb dL_law_880 rfl (lv_at hl 0 rfl) ?_
  refine lv_iload_n hx hb dL_law_881 rfl (lv_at hl 3 rfl) ?_
  refine lv_iconst (v := 5) hx hb dL_law_882 (by decide) ?_
  refine lv_iadd hx hb dL_law_883 ?_
  refine va_sld hx hb hX hbl hbA hS hin5 dL_law_884 ?_
  refine k_pVl (C := RX7) (ci := 7) (qr := 0) (n := 5) (As := [.int (xs (nI i + 1).toNatClampNeg), .int (xs (nI i + 2).toNatClampNeg), .int (xs (nI i + 3).toNatClampNeg), .int (xs (nI i + 4).toNatClampNeg), .int (xs (nI i + 5).toNatClampNeg)]) (rest := []) (bytes := cX7_winds) (maxL := 12) (ret := (some .long)) hC hl.1 (c_X7_winds l g N q1 q2 q3 q4 q5 q6 q7 q8 q9 O S T P D E B (xs (nI i + 1).toNatClampNeg) (xs (nI i + 2).toNatClampNeg) (xs (nI i + 3).toNatClampNeg) (xs (nI i + 4).toNatClampNeg) (xs (nI i + 5).toNatClampNeg) r h7) rfl hL_X7_winds (by decide +kernel) rfl rfl ⟨Nat.le_of_ble_eq_true rfl, Nat.le_of_ble_eq_true rfl⟩ rfl rfl rfl (Nat.le_of_ble_eq_true rfl) (show cells + 0 ≤ 600000 ∧ slots + 0 ≤ 7302250 by omega) dL_law_885 hP hD hS hA (List.Perm.refl _) (fun H locs hP hD hS => ?_)
  refine lv_aload_n hx hb dL_law_888 rfl (lv_at hl 2 rfl) ?_
  refine lv_aload_n hx hb dL_law_889 rfl (lv_at hl 0 rfl) ?_
  refine lv_iload_n hx hb dL_law_890 rfl (lv_at hl 3 rfl) ?_
  refine lv_iconst (v := 1) hx hb dL_law_891 (by decide) ?_
  refine lv_iadd hx hb dL_law_892 ?_
  refine va_sld hx hb hX hbl hbA hS hin1 dL_law_893 ?_
  refine lv_aload_n hx hb dL_law_894 rfl (lv_at hl 0 rfl) ?_
  refine lv_iload_n hx hb dL_law_895 rfl (lv_at hl 3 rfl) ?_
  refine lv_iconst (v := 2) hx hb dL_law_896 (by decide) ?_
  refine lv_iadd hx hb dL_law_897 ?_
  refine va_sld hx hb hX hbl hbA hS hin2 dL_law_898 ?_
  refine lv_aload_n hx hb dL_law_899 rfl (lv_at hl 0 rfl) ?_
  refine lv_iload_n hx hb dL_law_900 rfl (lv_at hl 3 rfl) ?_
  refine lv_iconst (v := 3) hx hb dL_law_901 (by decide) ?_
  refine lv_iadd hx hb dL_law_902 ?_
  refine va_sld hx hb hX hbl hbA hS hin3 dL_law_903 ?_
  refine lv_aload_n hx hb dL_law_904 rfl (lv_at hl 0 rfl) ?_
  refine lv_iload_n hx hb dL_law_905 rfl (lv_at hl 3 rfl) ?_
  refine lv_iconst (v := 4) hx hb dL_law_906 (by decide) ?_
  refine lv_iadd hx hb dL_law_907 ?_
  refine va_sld hx hb hX hbl hbA hS hin4 dL_law_908 ?_
  refine lv_aload_n hx hb dL_law_909 rfl (lv_at hl 0 rfl) ?_
  refine lv_iload_n hx hb dL_law_910 rfl (lv_at hl 3 rfl) ?_
  refine lv_iconst (v := 5) hx hb dL_law_911 (by decide) ?_
  refine lv_iadd hx hb dL_law_912 ?_
  refine va_sld hx hb hX hbl hbA hS hin5 dL_law_913 ?_
  refine k_pVl (C := RX8) (ci := 8) (qr := 0) (n := 5) (As := [.int (xs (nI i + 1).toNatClampNeg), .int (xs (nI i + 2).toNatClampNeg), .int (xs (nI i + 3).toNatClampNeg), .int (xs (nI i + 4).toNatClampNeg), .int (xs (nI i + 5).toNatClampNeg)]) (rest := [.long r]) (bytes := cX8_winds) (maxL := 14) (ret := (some .long)) hC hl.1 (c_X8_winds l g N qm M (xs (nI i + 1).toNatClampNeg) (xs (nI i + 2).toNatClampNeg) (xs (nI i + 3).toNatClampNeg) (xs (nI i + 4).toNatClampNeg) (xs (nI i + 5).toNatClampNeg) r h8) rfl hL_X8_winds (by decide +kernel) rfl rfl ⟨Nat.le_of_ble_eq_true rfl, Nat.le_of_ble_eq_true rfl⟩ rfl rfl rfl (Nat.le_of_ble_eq_true rfl) (show cells + 0 ≤ 600000 ∧ slots + 0 ≤ 7302250 by omega) dL_law_914 hP hD hS hA (pr2 _ _ _) (fun H locs hP hD hS => ?_)
  refine W.lcmp hx hb dL_law_917 ?_
  refine lv_if_eq (tgt := 1035) hx hb dL_law_918 (by decide) (fun _ => ?_) (fun q => absurd ((lg_cmp_eq r r).mpr rfl) q)
  refine W.widen (k := C1) (n := S1) (by omega) (by omega) ?_
  exact K O S T P D E B M f I0 I1 H locs ls (hLI.go hI hR (pv_K.rf M)) (wp_perm (pr2 _ _ _) hP) (wd_perm (pr2 _ _ _) hD) hS hl
set_option maxRecDepth 100000 in
set_option maxHeartbeats 1000000 in
theorem lc_year {p : Program} {l : Launch} {e : Env} {s : State} {m : MethodId} {below : List Frame} {meth : Method} {c : Code} {Q : State → Prop} {g : GG} {b L i C1 S1 : Nat} {xs : Nat → Int32} (N : Nat) (hN : 2000 ≤ N) (hC : Cx p s m #[Value.ref b] c RL cL_law 4 lw_tbl g) (hX : va_X b L xs s s.heap) (hbl : b < s.heap.size) (hi : i + 6 ≤ L) (hL : L ≤ 3072) (hroom : C1 ≤ 600000 ∧ S1 ≤ 7302250) (q1 q2 q3 q4 q5 q6 q7 q8 q9 qm : Nat → Nat) (K : LK p l e s m below meth c Q g b i C1 S1 q1 q2 q3 q4 q5 q6 q7 q8 q9 qm) : ∀ (O S T P D E B M : St) (f : Nat → Option Nat) (I0 I1 : Img) (H : Heap) (locs : List Loc) (ls : Array Slot) (cells slots : Nat), cells + 14 ≤ C1 → slots + 113 ≤ S1 → LI O S T P M f I0 I1 → va_P g.1 vwCl (LW g q1 q2 q3 q4 q5 q6 q7 q8 q9 qm O S T P D E B M f I0 I1) H → va_D (fun q : Nat => s.heap.size ≤ q) (LW g q1 q2 q3 q4 q5 q6 q7 q8 q9 qm O S T P D E B M f I0 I1) → va_S (fun q : Nat => s.heap.size ≤ q) s.heap H locs → lv_has ls 4 [(0, .ref b), (1, .ref (q1 100)), (2, .ref (qm 100)), (3, .int (nI i))] → W p l e room_1 s m #[Value.ref b] below meth c H locs cells slots Q (F0 m 923 ls []) := by
  have hx := hC.1.1
  have hb := hC.1.2.1
  have hA : ∀ q : Nat, s.heap.size ≤ q → (fun q : Nat => s.heap.size ≤ q) q := fun _ h => h
  have hbA : ¬ (fun q : Nat => s.heap.size ≤ q) b := Nat.not_le.mpr hbl
  intro O S T P D E B M f I0 I1 H locs ls cells slots hc1 hs1 hLI hP hD hS hl
  obtain ⟨⟨hI, hR⟩, hG0, hG1⟩ := id hLI
  have hin1 : vp_in (nI i + 1) L := by rw [show nI i + 1 = nI (i + 1) from nI_add i 1]; exact vp_in_nI (by omega) (by omega)
  have hin2 : vp_in (nI i + 2) L := by rw [show nI i + 2 = nI (i + 2) from nI_add i 2]; exact vp_in_nI (by omega) (by omega)
  have hin3 : vp_in (nI i + 3) L := by rw [show nI i + 3 = nI (i + 3) from nI_add i 3]; exact vp_in_nI (by omega) (by omega)
  obtain ⟨r, M', h7, h8, hX2⟩ := op_year N hN D E B hI hR (xs (nI i + 1).toNatClampNeg) (xs (nI i + 2).toNatClampNeg) (xs (nI i + 3).toNatClampNeg)
  refine lv_aload_n hx hb dL_law_923 rfl (lv_at hl 1 rfl) ?_
  refine lv_aload_n hx hb dL_law_924 rfl (lv_at hl 0 rfl) ?_
  refine lv_iload_n hx hb dL_law_925 rfl (lv_at hl 3 rfl) ?_
  refine lv_iconst (v := 1) hx hb dL_law_926 (by decide) ?_
  refine lv_iadd hx hb dL_law_927 ?_
  refine va_sld hx hb hX hbl hbA hS hin1 dL_law_928 ?_
  refine lv_aload_n hx hb dL_law_929 rfl (lv_at hl 0 rfl) ?_
  refine lv_iload_n hx hb dL_law_930 rfl (lv_at hl 3 rfl) ?_
  refine lv_iconst (v := 2) hx hb dL_law_931 (by decide) ?_
  refine lv_iadd hx hb dL_law_932 ?_
  refine va_sld hx hb hX hbl hbA hS hin2 dL_law_933 ?_
  refine lv_aload_n hx hb dL_law_934 rfl (lv_at hl 0 rfl) ?_
  refine lv_iload_n hx hb dL_law_935 rfl (lv_at hl 3 rfl) ?_
  refine lv_iconst (v := 3) hx hb dL_law_936 (by decide) ?_
  refine lv_iadd hx hb dL_law_937 ?_
  refine va_sld hx hb hX hbl hbA hS hin3 dL_law_938 ?_
  refine k_pVi (C := RX7) (ci := 7) (qr := 0) (n := 3) (As := [.int (xs (nI i + 1).toNatClampNeg), .int (xs (nI i + 2).toNatClampNeg), .int (xs (nI i + 3).toNatClampNeg)]) (rest := []) (bytes := cX7_year) (maxL := 7) (ret := (some .int)) hC hl.1 (c_X7_year l g N q1 q2 q3 q4 q5 q6 q7 q8 q9 O S T P D E B (xs (nI i + 1).toNatClampNeg) (xs (nI i + 2).toNatClampNeg) (xs (nI i + 3).toNatClampNeg) r h7) rfl hL_X7_year (by decide +kernel) rfl rfl ⟨Nat.le_of_ble_eq_true rfl, Nat.le_of_ble_eq_true rfl⟩ rfl rfl rfl (Nat.le_of_ble_eq_true rfl) (show cells + 0 ≤ 600000 ∧ slots + 0 ≤ 7302250 by omega) dL_law_939 hP hD hS hA (List.Perm.refl _) (fun H locs hP hD hS => ?_)
  refine lv_aload_n hx hb dL_law_942 rfl (lv_at hl 2 rfl) ?_
  refine lv_aload_n hx hb dL_law_943 rfl (lv_at hl 0 rfl) ?_
  refine lv_iload_n hx hb dL_law_944 rfl (lv_at hl 3 rfl) ?_
  refine lv_iconst (v := 1) hx hb dL_law_945 (by decide) ?_
  refine lv_iadd hx hb dL_law_946 ?_
  refine va_sld hx hb hX hbl hbA hS hin1 dL_law_947 ?_
  refine lv_aload_n hx hb dL_law_948 rfl (lv_at hl 0 rfl) ?_
  refine lv_iload_n hx hb dL_law_949 rfl (lv_at hl 3 rfl) ?_
  refine lv_iconst (v := 2) hx hb dL_law_950 (by decide) ?_
  refine lv_iadd hx hb dL_law_951 ?_
  refine va_sld hx hb hX hbl hbA hS hin2 dL_law_952 ?_
  refine lv_aload_n hx hb dL_law_953 rfl (lv_at hl 0 rfl) ?_
  refine lv_iload_n hx hb dL_law_954 rfl (lv_at hl 3 rfl) ?_
  refine lv_iconst (v := 3) hx hb dL_law_955 (by decide) ?_
  refine lv_iadd hx hb dL_law_956 ?_
  refine va_sld hx hb hX hbl hbA hS hin3 dL_law_957 ?_
  refine k_pVi (C := RX8) (ci := 8) (qr := 0) (n := 3) (As := [.int (xs (nI i + 1).toNatClampNeg), .int (xs (nI i + 2).toNatClampNeg), .int (xs (nI i + 3).toNatClampNeg)]) (rest := [.int r]) (bytes := cX8_year) (maxL := 8) (ret := (some .int)) hC hl.1 (c_X8_year l g N qm M (xs (nI i + 1).toNatClampNeg) (xs (nI i + 2).toNatClampNeg) (xs (nI i + 3).toNatClampNeg) r M' h8) rfl hL_X8_year (by decide +kernel) rfl rfl ⟨Nat.le_of_ble_eq_true rfl, Nat.le_of_ble_eq_true rfl⟩ rfl rfl rfl (Nat.le_of_ble_eq_true rfl) (show cells + 0 ≤ 600000 ∧ slots + 0 ≤ 7302250 by omega) dL_law_958 hP hD hS hA (pr2 _ _ _) (fun H locs hP hD hS => ?_)
  refine lv_icmp_eq (tgt := 1035) hx hb dL_law_961 (by decide) (fun _ => ?_) (fun q => absurd rfl q)
  refine W.widen (k := C1) (n := S1) (by omega) (by omega) ?_
  exact K O S T P D E B M' f I0 I1 H locs ls (hLI.go hI (hX2.R hR) hX2.2) (wp_perm (pr2 _ _ _) hP) (wd_perm (pr2 _ _ _) hD) hS hl
set_option maxRecDepth 100000 in
set_option maxHeartbeats 1000000 in
theorem lc_told {p : Program} {l : Launch} {e : Env} {s : State} {m : MethodId} {below : List Frame} {meth : Method} {c : Code} {Q : State → Prop} {g : GG} {b L i C1 S1 : Nat} {xs : Nat → Int32} (N : Nat) (hN : 2000 ≤ N) (hC : Cx p s m #[Value.ref b] c RL cL_law 4 lw_tbl g) (hX : va_X b L xs s s.heap) (hbl : b < s.heap.size) (hi : i + 6 ≤ L) (hL : L ≤ 3072) (hroom : C1 ≤ 600000 ∧ S1 ≤ 7302250) (q1 q2 q3 q4 q5 q6 q7 q8 q9 qm : Nat → Nat) (K : LK p l e s m below meth c Q g b i C1 S1 q1 q2 q3 q4 q5 q6 q7 q8 q9 qm) : ∀ (O S T P D E B M : St) (f : Nat → Option Nat) (I0 I1 : Img) (H : Heap) (locs : List Loc) (ls : Array Slot) (cells slots : Nat), cells + 14 ≤ C1 → slots + 113 ≤ S1 → LI O S T P M f I0 I1 → va_P g.1 vwCl (LW g q1 q2 q3 q4 q5 q6 q7 q8 q9 qm O S T P D E B M f I0 I1) H → va_D (fun q : Nat => s.heap.size ≤ q) (LW g q1 q2 q3 q4 q5 q6 q7 q8 q9 qm O S T P D E B M f I0 I1) → va_S (fun q : Nat => s.heap.size ≤ q) s.heap H locs → lv_has ls 4 [(0, .ref b), (1, .ref (q1 100)), (2, .ref (qm 100)), (3, .int (nI i))] → W p l e room_1 s m #[Value.ref b] below meth c H locs cells slots Q (F0 m 1012 ls []) := by
  have hx := hC.1.1
  have hb := hC.1.2.1
  have hA : ∀ q : Nat, s.heap.size ≤ q → (fun q : Nat => s.heap.size ≤ q) q := fun _ h => h
  have hbA : ¬ (fun q : Nat => s.heap.size ≤ q) b := Nat.not_le.mpr hbl
  intro O S T P D E B M f I0 I1 H locs ls cells slots hc1 hs1 hLI hP hD hS hl
  obtain ⟨⟨hI, hR⟩, hG0, hG1⟩ := id hLI
  have hin1 : vp_in (nI i + 1) L := by rw [show nI i + 1 = nI (i + 1) from nI_add i 1]; exact vp_in_nI (by omega) (by omega)
  obtain ⟨r, h7, h8⟩ := op_told N D E B hI hR (xs (nI i + 1).toNatClampNeg)
  refine lv_aload_n hx hb dL_law_1012 rfl (lv_at hl 1 rfl) ?_
  refine lv_aload_n hx hb dL_law_1013 rfl (lv_at hl 0 rfl) ?_
  refine lv_iload_n hx hb dL_law_1014 rfl (lv_at hl 3 rfl) ?_
  refine lv_iconst (v := 1) hx hb dL_law_1015 (by decide) ?_
  refine lv_iadd hx hb dL_law_1016 ?_
  refine va_sld hx hb hX hbl hbA hS hin1 dL_law_1017 ?_
  refine k_pVi (C := RX7) (ci := 7) (qr := 0) (n := 1) (As := [.int (xs (nI i + 1).toNatClampNeg)]) (rest := []) (bytes := cX7_told) (maxL := 3) (ret := (some .int)) hC hl.1 (c_X7_told l g N q1 q2 q3 q4 q5 q6 q7 q8 q9 O S T P D E B (xs (nI i + 1).toNatClampNeg) r h7) rfl hL_X7_told (by decide +kernel) rfl rfl ⟨Nat.le_of_ble_eq_true rfl, Nat.le_of_ble_eq_true rfl⟩ rfl rfl rfl (Nat.le_of_ble_eq_true rfl) (show cells + 0 ≤ 600000 ∧ slots + 0 ≤ 7302250 by omega) dL_law_1018 hP hD hS hA (List.Perm.refl _) (fun H locs hP hD hS => ?_)
  refine lv_aload_n hx hb dL_law_1021 rfl (lv_at hl 2 rfl) ?_
  refine lv_aload_n hx hb dL_law_1022 rfl (lv_at hl 0 rfl) ?_
  refine lv_iload_n hx hb dL_law_1023 rfl (lv_at hl 3 rfl) ?_
  refine lv_iconst (v := 1) hx hb dL_law_1024 (by decide) ?_
  refine lv_iadd hx hb dL_law_1025 ?_
  refine va_sld hx hb hX hbl hbA hS hin1 dL_law_1026 ?_
  refine k_pVi (C := RX8) (ci := 8) (qr := 0) (n := 1) (As := [.int (xs (nI i + 1).toNatClampNeg)]) (rest := [.int r]) (bytes := cX8_told) (maxL := 2) (ret := (some .int)) hC hl.1 (c_X8_told l g N qm M (xs (nI i + 1).toNatClampNeg) r h8) rfl hL_X8_told (by decide +kernel) rfl rfl ⟨Nat.le_of_ble_eq_true rfl, Nat.le_of_ble_eq_true rfl⟩ rfl rfl rfl (Nat.le_of_ble_eq_true rfl) (show cells + 0 ≤ 600000 ∧ slots + 0 ≤ 7302250 by omega) dL_law_1027 hP hD hS hA (pr2 _ _ _) (fun H locs hP hD hS => ?_)
  refine lv_icmp_eq (tgt := 1035) hx hb dL_law_1030 (by decide) (fun _ => ?_) (fun q => absurd rfl q)
  refine W.widen (k := C1) (n := S1) (by omega) (by omega) ?_
  exact K O S T P D E B M f I0 I1 H locs ls (hLI.go hI hR (pv_K.rf M)) (wp_perm (pr2 _ _ _) hP) (wd_perm (pr2 _ _ _) hD) hS hl
