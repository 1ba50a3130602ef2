/-! laid by wip/whole/mklaw2.py: the law's cases of image and restore -/
set_option maxRecDepth 100000 in
set_option maxHeartbeats 1000000 in
theorem lc_restore {p : Program} {l : Launch} {e : Env} {s : State} {m : MethodId} {below : List Frame} {meth : Method} {c : Code} {Q : State → Prop} {g : GG} {b L i C1 S1 : Nat} {xs : Nat → Int32} (N : Nat) (hN : 2000 ≤ N) (hC : Cx p s m #[Value.ref b] c RL cL_law 4 lw_tbl g) (hX : va_X b L xs s s.heap) (hbl : b < s.heap.size) (hi : i + 6 ≤ L) (hL : L ≤ 3072) (hroom : C1 ≤ 600000 ∧ S1 ≤ 7302250) (q1 q2 q3 q4 q5 q6 q7 q8 q9 qm : Nat → Nat) (K : LK p l e s m below meth c Q g b i C1 S1 q1 q2 q3 q4 q5 q6 q7 q8 q9 qm) : ∀ (O S T P D E B M : St) (f : Nat → Option Nat) (I0 I1 : Img) (H : Heap) (locs : List Loc) (ls : Array Slot) (cells slots : Nat), cells + 14 ≤ C1 → slots + 113 ≤ S1 → LI O S T P M f I0 I1 → va_P g.1 vwCl (LW g q1 q2 q3 q4 q5 q6 q7 q8 q9 qm O S T P D E B M f I0 I1) H → va_D (fun q : Nat => s.heap.size ≤ q) (LW g q1 q2 q3 q4 q5 q6 q7 q8 q9 qm O S T P D E B M f I0 I1) → va_S (fun q : Nat => s.heap.size ≤ q) s.heap H locs → lv_has ls 4 [(0, .ref b), (1, .ref (q1 100)), (2, .ref (qm 100)), (3, .int (nI i))] → W p l e room_1 s m #[Value.ref b] below meth c H locs cells slots Q (F0 m 989 ls []) := by
  have hx := hC.1.1
  have hb := hC.1.2.1
  have hA : ∀ q : Nat, s.heap.size ≤ q → (fun q : Nat => s.heap.size ≤ q) q := fun _ h => h
  have hbA : ¬ (fun q : Nat => s.heap.size ≤ q) b := Nat.not_le.mpr hbl
  intro O S T P D E B M f I0 I1 H locs ls cells slots hc1 hs1 hLI hP hD hS hl
  obtain ⟨⟨hI, hR⟩, hG0, hG1⟩ := id hLI
  have hin1 : vp_in (nI i + 1) L := by rw [show nI i + 1 = nI (i + 1) from nI_add i 1]; exact vp_in_nI (by omega) (by omega)
  refine lv_aload_n hx hb dL_law_989 rfl (lv_at hl 1 rfl) ?_
  refine lv_aload_n hx hb dL_law_990 rfl (lv_at hl 0 rfl) ?_
  refine lv_iload_n hx hb dL_law_991 rfl (lv_at hl 3 rfl) ?_
  refine lv_iconst (v := 1) hx hb dL_law_992 (by decide) ?_
  refine lv_iadd hx hb dL_law_993 ?_
  refine va_sld hx hb hX hbl hbA hS hin1 dL_law_994 ?_
  by_cases hy : 0 ≤ (xs (nI i + 1).toNatClampNeg).toInt ∧ (xs (nI i + 1).toNatClampNeg).toInt ≤ 1
  · obtain ⟨k, ek, hk⟩ := pv_num hy
    rw [ek]
    rcases (show k = 0 ∨ k = 1 by omega) with rfl | rfl
    · cases I0 with
      | none =>
        obtain ⟨g1, g2⟩ := id hG0
        refine k_pVi (C := RX7) (ci := 7) (qr := 0) (n := 1) (As := [.int (nI 0)]) (rest := []) (bytes := cX7_restore) (maxL := 2) (ret := (some .int)) hC hl.1 (c_X7_restore_n l g q1 q2 q6 q7 q9 f (k := 0) (by omega) g1) rfl hL_X7_restore (by decide +kernel) rfl rfl ⟨Nat.le_of_ble_eq_true rfl, Nat.le_of_ble_eq_true rfl⟩ rfl rfl rfl (Nat.le_of_ble_eq_true rfl) (show cells + 0 ≤ 600000 ∧ slots + 0 ≤ 7302250 by omega) dL_law_995 hP hD hS hA (pm_n (wX7 g q1 q2 q6 q7 q9) (wX0 g q2 q3 q4 q5) (wX3 g q3 O) (wX6 g q4 S) (wX5 g q5 T) (wX4 g q6 P ++ (wX2 g q7 q8 D ++ (wX3 g q8 E ++ (wX1 g q9 B)))) (wX8 g qm M) (wAR g q1 f) (wI g none) (wI g I1)) (fun H locs hP hD hS => ?_)
        have hP := wp_perm (pm_n (wX7 g q1 q2 q6 q7 q9) (wX0 g q2 q3 q4 q5) (wX3 g q3 O) (wX6 g q4 S) (wX5 g q5 T) (wX4 g q6 P ++ (wX2 g q7 q8 D ++ (wX3 g q8 E ++ (wX1 g q9 B)))) (wX8 g qm M) (wAR g q1 f) (wI g none) (wI g I1)).symm hP
        have hD := wd_perm (pm_n (wX7 g q1 q2 q6 q7 q9) (wX0 g q2 q3 q4 q5) (wX3 g q3 O) (wX6 g q4 S) (wX5 g q5 T) (wX4 g q6 P ++ (wX2 g q7 q8 D ++ (wX3 g q8 E ++ (wX1 g q9 B)))) (wX8 g qm M) (wAR g q1 f) (wI g none) (wI g I1)).symm hD
        refine lv_aload_n hx hb dL_law_998 rfl (lv_at hl 2 rfl) ?_
        refine lv_aload_n hx hb dL_law_999 rfl (lv_at hl 0 rfl) ?_
        refine lv_iload_n hx hb dL_law_1000 rfl (lv_at hl 3 rfl) ?_
        refine lv_iconst (v := 1) hx hb dL_law_1001 (by decide) ?_
        refine lv_iadd hx hb dL_law_1002 ?_
        refine va_sld hx hb hX hbl hbA hS hin1 dL_law_1003 ?_
        rw [ek]
        refine k_pVi (C := RX8) (ci := 8) (qr := 0) (n := 1) (As := [.int (nI 0)]) (rest := [.int (-3)]) (bytes := cX8_restore) (maxL := 2) (ret := (some .int)) hC hl.1 (c_X8_restore l g N qm M (nI 0) (-3) M (op_restore8n N (by omega) g2)) rfl hL_X8_restore (by decide +kernel) rfl rfl ⟨Nat.le_of_ble_eq_true rfl, Nat.le_of_ble_eq_true rfl⟩ rfl rfl rfl (Nat.le_of_ble_eq_true rfl) (show cells + 0 ≤ 600000 ∧ slots + 0 ≤ 7302250 by omega) dL_law_1004 hP hD hS hA (pr2 _ _ _) (fun H locs hP hD hS => ?_)
        refine lv_icmp_eq (tgt := 1035) hx hb dL_law_1007 (by decide) (fun _ => ?_) (fun q => absurd rfl q)
        refine W.widen (k := C1) (n := S1) (by omega) (by omega) ?_
        exact K O S T P D E B M f none I1 H locs ls hLI (wp_perm (pr2 _ _ _) hP) (wd_perm (pr2 _ _ _) hD) hS hl
      | some q =>
        obtain ⟨a, b2, c2, d2, Oi, Si, Ti⟩ := q
        obtain ⟨g1, g2, g3, g4, g5, g6⟩ := id hG0
        obtain ⟨O2, S2, T2, hc, e1, e2, e3⟩ := pv_copy0 N (A := O) (O := Oi) S Si T Ti g4.2.2.2.2.2.1
        obtain ⟨M2, h8, hR2, k1, k2⟩ := op_restore8 N (by omega) hR (k := 0) (by omega) g2 g3
        have hK2 : pv_K M M2 := ⟨funext k2, k1⟩
        refine k_pVi (C := RX7) (ci := 7) (qr := 0) (n := 1) (As := [.int (nI 0)]) (rest := []) (bytes := cX7_restore) (maxL := 2) (ret := (some .int)) hC hl.1 (c_X7_restore_s l g N q1 q2 q6 q7 q9 q3 q4 q5 a b2 c2 d2 f (k := 0) O S T Oi Si Ti O2 S2 T2 (by omega) g1 hc) rfl hL_X7_restore (by decide +kernel) rfl rfl ⟨Nat.le_of_ble_eq_true rfl, Nat.le_of_ble_eq_true rfl⟩ rfl rfl rfl (Nat.le_of_ble_eq_true rfl) (show cells + 0 ≤ 600000 ∧ slots + 0 ≤ 7302250 by omega) dL_law_995 hP hD hS hA (pm_r0 (wX7 g q1 q2 q6 q7 q9) (wX0 g q2 q3 q4 q5) (wX3 g q3 O) (wX6 g q4 S) (wX5 g q5 T) (wX4 g q6 P ++ (wX2 g q7 q8 D ++ (wX3 g q8 E ++ (wX1 g q9 B)))) (wX8 g qm M) (wAR g q1 f) (wI g I1) (wX0 g a b2 c2 d2) (wX3 g b2 Oi) (wX6 g c2 Si) (wX5 g d2 Ti)) (fun H locs hP hD hS => ?_)
        have hP := wp_perm (pm_r0 (wX7 g q1 q2 q6 q7 q9) (wX0 g q2 q3 q4 q5) (wX3 g q3 O2) (wX6 g q4 S2) (wX5 g q5 T2) (wX4 g q6 P ++ (wX2 g q7 q8 D ++ (wX3 g q8 E ++ (wX1 g q9 B)))) (wX8 g qm M) (wAR g q1 f) (wI g I1) (wX0 g a b2 c2 d2) (wX3 g b2 Oi) (wX6 g c2 Si) (wX5 g d2 Ti)).symm hP
        have hD := wd_perm (pm_r0 (wX7 g q1 q2 q6 q7 q9) (wX0 g q2 q3 q4 q5) (wX3 g q3 O2) (wX6 g q4 S2) (wX5 g q5 T2) (wX4 g q6 P ++ (wX2 g q7 q8 D ++ (wX3 g q8 E ++ (wX1 g q9 B)))) (wX8 g qm M) (wAR g q1 f) (wI g I1) (wX0 g a b2 c2 d2) (wX3 g b2 Oi) (wX6 g c2 Si) (wX5 g d2 Ti)).symm hD
        refine lv_aload_n hx hb dL_law_998 rfl (lv_at hl 2 rfl) ?_
        refine lv_aload_n hx hb dL_law_999 rfl (lv_at hl 0 rfl) ?_
        refine lv_iload_n hx hb dL_law_1000 rfl (lv_at hl 3 rfl) ?_
        refine lv_iconst (v := 1) hx hb dL_law_1001 (by decide) ?_
        refine lv_iadd hx hb dL_law_1002 ?_
        refine va_sld hx hb hX hbl hbA hS hin1 dL_law_1003 ?_
        rw [ek]
        refine k_pVi (C := RX8) (ci := 8) (qr := 0) (n := 1) (As := [.int (nI 0)]) (rest := [.int 1]) (bytes := cX8_restore) (maxL := 2) (ret := (some .int)) hC hl.1 (c_X8_restore l g N qm M (nI 0) 1 M2 h8) rfl hL_X8_restore (by decide +kernel) rfl rfl ⟨Nat.le_of_ble_eq_true rfl, Nat.le_of_ble_eq_true rfl⟩ rfl rfl rfl (Nat.le_of_ble_eq_true rfl) (show cells + 0 ≤ 600000 ∧ slots + 0 ≤ 7302250 by omega) dL_law_1004 hP hD hS hA (pr2 _ _ _) (fun H locs hP hD hS => ?_)
        refine lv_icmp_eq (tgt := 1035) hx hb dL_law_1007 (by decide) (fun _ => ?_) (fun q => absurd rfl q)
        refine W.widen (k := C1) (n := S1) (by omega) (by omega) ?_
        exact K O2 S2 T2 P D E B M2 f (some (a, b2, c2, d2, Oi, Si, Ti)) I1 H locs ls ⟨⟨⟨e1.IO g4, e2.IS g5, e3.IT g6, hI.2.2.2⟩, e1.RO hR2.1, e2.RS hR2.2.1, e3.RT hR2.2.2.1, hR2.2.2.2⟩, hG0.K hK2, hG1.K hK2⟩ (wp_perm (pr2 _ _ _) hP) (wd_perm (pr2 _ _ _) hD) hS hl
    · cases I1 with
      | none =>
        obtain ⟨g1, g2⟩ := id hG1
        refine k_pVi (C := RX7) (ci := 7) (qr := 0) (n := 1) (As := [.int (nI 1)]) (rest := []) (bytes := cX7_restore) (maxL := 2) (ret := (some .int)) hC hl.1 (c_X7_restore_n l g q1 q2 q6 q7 q9 f (k := 1) (by omega) g1) rfl hL_X7_restore (by decide +kernel) rfl rfl ⟨Nat.le_of_ble_eq_true rfl, Nat.le_of_ble_eq_true rfl⟩ rfl rfl rfl (Nat.le_of_ble_eq_true rfl) (show cells + 0 ≤ 600000 ∧ slots + 0 ≤ 7302250 by omega) dL_law_995 hP hD hS hA (pm_n (wX7 g q1 q2 q6 q7 q9) (wX0 g q2 q3 q4 q5) (wX3 g q3 O) (wX6 g q4 S) (wX5 g q5 T) (wX4 g q6 P ++ (wX2 g q7 q8 D ++ (wX3 g q8 E ++ (wX1 g q9 B)))) (wX8 g qm M) (wAR g q1 f) (wI g I0) (wI g none)) (fun H locs hP hD hS => ?_)
        have hP := wp_perm (pm_n (wX7 g q1 q2 q6 q7 q9) (wX0 g q2 q3 q4 q5) (wX3 g q3 O) (wX6 g q4 S) (wX5 g q5 T) (wX4 g q6 P ++ (wX2 g q7 q8 D ++ (wX3 g q8 E ++ (wX1 g q9 B)))) (wX8 g qm M) (wAR g q1 f) (wI g I0) (wI g none)).symm hP
        have hD := wd_perm (pm_n (wX7 g q1 q2 q6 q7 q9) (wX0 g q2 q3 q4 q5) (wX3 g q3 O) (wX6 g q4 S) (wX5 g q5 T) (wX4 g q6 P ++ (wX2 g q7 q8 D ++ (wX3 g q8 E ++ (wX1 g q9 B)))) (wX8 g qm M) (wAR g q1 f) (wI g I0) (wI g none)).symm hD
        refine lv_aload_n hx hb dL_law_998 rfl (lv_at hl 2 rfl) ?_
        refine lv_aload_n hx hb dL_law_999 rfl (lv_at hl 0 rfl) ?_
        refine lv_iload_n hx hb dL_law_1000 rfl (lv_at hl 3 rfl) ?_
        refine lv_iconst (v := 1) hx hb dL_law_1001 (by decide) ?_
        refine lv_iadd hx hb dL_law_1002 ?_
        refine va_sld hx hb hX hbl hbA hS hin1 dL_law_1003 ?_
        rw [ek]
        refine k_pVi (C := RX8) (ci := 8) (qr := 0) (n := 1) (As := [.int (nI 1)]) (rest := [.int (-3)]) (bytes := cX8_restore) (maxL := 2) (ret := (some .int)) hC hl.1 (c_X8_restore l g N qm M (nI 1) (-3) M (op_restore8n N (by omega) g2)) rfl hL_X8_restore (by decide +kernel) rfl rfl ⟨Nat.le_of_ble_eq_true rfl, Nat.le_of_ble_eq_true rfl⟩ rfl rfl rfl (Nat.le_of_ble_eq_true rfl) (show cells + 0 ≤ 600000 ∧ slots + 0 ≤ 7302250 by omega) dL_law_1004 hP hD hS hA (pr2 _ _ _) (fun H locs hP hD hS => ?_)
        refine lv_icmp_eq (tgt := 1035) hx hb dL_law_1007 (by decide) (fun _ => ?_) (fun q => absurd rfl q)
        refine W.widen (k := C1) (n := S1) (by omega) (by omega) ?_
        exact K O S T P D E B M f I0 none H locs ls hLI (wp_perm (pr2 _ _ _) hP) (wd_perm (pr2 _ _ _) hD) hS hl
      | some q =>
        obtain ⟨a, b2, c2, d2, Oi, Si, Ti⟩ := q
        obtain ⟨g1, g2, g3, g4, g5, g6⟩ := id hG1
        obtain ⟨O2, S2, T2, hc, e1, e2, e3⟩ := pv_copy0 N (A := O) (O := Oi) S Si T Ti g4.2.2.2.2.2.1
        obtain ⟨M2, h8, hR2, k1, k2⟩ := op_restore8 N (by omega) hR (k := 1) (by omega) g2 g3
        have hK2 : pv_K M M2 := ⟨funext k2, k1⟩
        refine k_pVi (C := RX7) (ci := 7) (qr := 0) (n := 1) (As := [.int (nI 1)]) (rest := []) (bytes := cX7_restore) (maxL := 2) (ret := (some .int)) hC hl.1 (c_X7_restore_s l g N q1 q2 q6 q7 q9 q3 q4 q5 a b2 c2 d2 f (k := 1) O S T Oi Si Ti O2 S2 T2 (by omega) g1 hc) rfl hL_X7_restore (by decide +kernel) rfl rfl ⟨Nat.le_of_ble_eq_true rfl, Nat.le_of_ble_eq_true rfl⟩ rfl rfl rfl (Nat.le_of_ble_eq_true rfl) (show cells + 0 ≤ 600000 ∧ slots + 0 ≤ 7302250 by omega) dL_law_995 hP hD hS hA (pm_r1 (wX7 g q1 q2 q6 q7 q9) (wX0 g q2 q3 q4 q5) (wX3 g q3 O) (wX6 g q4 S) (wX5 g q5 T) (wX4 g q6 P ++ (wX2 g q7 q8 D ++ (wX3 g q8 E ++ (wX1 g q9 B)))) (wX8 g qm M) (wAR g q1 f) (wI g I0) (wX0 g a b2 c2 d2) (wX3 g b2 Oi) (wX6 g c2 Si) (wX5 g d2 Ti)) (fun H locs hP hD hS => ?_)
        have hP := wp_perm (pm_r1 (wX7 g q1 q2 q6 q7 q9) (wX0 g q2 q3 q4 q5) (wX3 g q3 O2) (wX6 g q4 S2) (wX5 g q5 T2) (wX4 g q6 P ++ (wX2 g q7 q8 D ++ (wX3 g q8 E ++ (wX1 g q9 B)))) (wX8 g qm M) (wAR g q1 f) (wI g I0) (wX0 g a b2 c2 d2) (wX3 g b2 Oi) (wX6 g c2 Si) (wX5 g d2 Ti)).symm hP
        have hD := wd_perm (pm_r1 (wX7 g q1 q2 q6 q7 q9) (wX0 g q2 q3 q4 q5) (wX3 g q3 O2) (wX6 g q4 S2) (wX5 g q5 T2) (wX4 g q6 P ++ (wX2 g q7 q8 D ++ (wX3 g q8 E ++ (wX1 g q9 B)))) (wX8 g qm M) (wAR g q1 f) (wI g I0) (wX0 g a b2 c2 d2) (wX3 g b2 Oi) (wX6 g c2 Si) (wX5 g d2 Ti)).symm hD
        refine lv_aload_n hx hb dL_law_998 rfl (lv_at hl 2 rfl) ?_
        refine lv_aload_n hx hb dL_law_999 rfl (lv_at hl 0 rfl) ?_
        refine lv_iload_n hx hb dL_law_1000 rfl (lv_at hl 3 rfl) ?_
        refine lv_iconst (v := 1) hx hb dL_law_1001 (by decide) ?_
        refine lv_iadd hx hb dL_law_1002 ?_
        refine va_sld hx hb hX hbl hbA hS hin1 dL_law_1003 ?_
        rw [ek]
        refine k_pVi (C := RX8) (ci := 8) (qr := 0) (n := 1) (As := [.int (nI 1)]) (rest := [.int 1]) (bytes := cX8_restore) (maxL := 2) (ret := (some .int)) hC hl.1 (c_X8_restore l g N qm M (nI 1) 1 M2 h8) rfl hL_X8_restore (by decide +kernel) rfl rfl ⟨Nat.le_of_ble_eq_true rfl, Nat.le_of_ble_eq_true rfl⟩ rfl rfl rfl (Nat.le_of_ble_eq_true rfl) (show cells + 0 ≤ 600000 ∧ slots + 0 ≤ 7302250 by omega) dL_law_1004 hP hD hS hA (pr2 _ _ _) (fun H locs hP hD hS => ?_)
        refine lv_icmp_eq (tgt := 1035) hx hb dL_law_1007 (by decide) (fun _ => ?_) (fun q => absurd rfl q)
        refine W.widen (k := C1) (n := S1) (by omega) (by omega) ?_
        exact K O2 S2 T2 P D E B M2 f I0 (some (a, b2, c2, d2, Oi, Si, Ti)) H locs ls ⟨⟨⟨e1.IO g4, e2.IS g5, e3.IT g6, hI.2.2.2⟩, e1.RO hR2.1, e2.RS hR2.2.1, e3.RT hR2.2.2.1, hR2.2.2.2⟩, hG0.K hK2, hG1.K hK2⟩ (wp_perm (pr2 _ _ _) hP) (wd_perm (pr2 _ _ _) hD) hS hl
  · refine k_pVi (C := RX7) (ci := 7) (qr := 0) (n := 1) (As := [.int (xs (nI i + 1).toNatClampNeg)]) (rest := []) (bytes := cX7_restore) (maxL := 2) (ret := (some .int)) hC hl.1 (c_X7_restore_x l g q1 q2 q6 q7 q9 (xs (nI i + 1).toNatClampNeg) hy) rfl hL_X7_restore (by decide +kernel) rfl rfl ⟨Nat.le_of_ble_eq_true rfl, Nat.le_of_ble_eq_true rfl⟩ rfl rfl rfl (Nat.le_of_ble_eq_true rfl) (show cells + 0 ≤ 600000 ∧ slots + 0 ≤ 7302250 by omega) dL_law_995 hP hD hS hA (pm_x (wX7 g q1 q2 q6 q7 q9) (wX0 g q2 q3 q4 q5) (wX3 g q3 O) (wX6 g q4 S) (wX5 g q5 T) (wX4 g q6 P ++ (wX2 g q7 q8 D ++ (wX3 g q8 E ++ (wX1 g q9 B)))) (wX8 g qm M) (wAR g q1 f) (wI g I0) (wI g I1)) (fun H locs hP hD hS => ?_)
    have hP := wp_perm (pm_x (wX7 g q1 q2 q6 q7 q9) (wX0 g q2 q3 q4 q5) (wX3 g q3 O) (wX6 g q4 S) (wX5 g q5 T) (wX4 g q6 P ++ (wX2 g q7 q8 D ++ (wX3 g q8 E ++ (wX1 g q9 B)))) (wX8 g qm M) (wAR g q1 f) (wI g I0) (wI g I1)).symm hP
    have hD := wd_perm (pm_x (wX7 g q1 q2 q6 q7 q9) (wX0 g q2 q3 q4 q5) (wX3 g q3 O) (wX6 g q4 S) (wX5 g q5 T) (wX4 g q6 P ++ (wX2 g q7 q8 D ++ (wX3 g q8 E ++ (wX1 g q9 B)))) (wX8 g qm M) (wAR g q1 f) (wI g I0) (wI g I1)).symm hD
    refine lv_aload_n hx hb dL_law_998 rfl (lv_at hl 2 rfl) ?_
    refine lv_aload_n hx hb dL_law_999 rfl (lv_at hl 0 rfl) ?_
    refine lv_iload_n hx hb dL_law_1000 rfl (lv_at hl 3 rfl) ?_
    refine lv_iconst (v := 1) hx hb dL_law_1001 (by decide) ?_
    refine lv_iadd hx hb dL_law_1002 ?_
    refine va_sld hx hb hX hbl hbA hS hin1 dL_law_1003 ?_
    refine k_pVi (C := RX8) (ci := 8) (qr := 0) (n := 1) (As := [.int (xs (nI i + 1).toNatClampNeg)]) (rest := [.int (-2)]) (bytes := cX8_restore) (maxL := 2) (ret := (some .int)) hC hl.1 (c_X8_restore l g N qm M (xs (nI i + 1).toNatClampNeg) (-2) M (op_restore8x N hy)) rfl hL_X8_restore (by decide +kernel) rfl rfl ⟨Nat.le_of_ble_eq_true rfl, Nat.le_of_ble_eq_true rfl⟩ rfl rfl rfl (Nat.le_of_ble_eq_true rfl) (show cells + 0 ≤ 600000 ∧ slots + 0 ≤ 7302250 by omega) dL_law_1004 hP hD hS hA (pr2 _ _ _) (fun H locs hP hD hS => ?_)
    refine lv_icmp_eq (tgt := 1035) hx hb dL_law_1007 (by decide) (fun _ => ?_) (fun q => absurd rfl q)
    refine W.widen (k := C1) (n := S1) (by omega) (by omega) ?_
    exact K O S T P D E B M f I0 I1 H locs ls hLI (wp_perm (pr2 _ _ _) hP) (wd_perm (pr2 _ _ _) hD) hS hl
set_option maxRecDepth 100000 in
set_option maxHeartbeats 1000000 in
theorem lc_image {p : Program} {l : Launch} {e : Env} {s : State} {m : MethodId} {below : List Frame} {meth : Method} {c : Code} {Q : State → Prop} {g : GG} {b L i C1 S1 : Nat} {xs : Nat → Int32} (N : Nat) (hN : 2000 ≤ N) (hC : Cx p s m #[Value.ref b] c RL cL_law 4 lw_tbl g) (hX : va_X b L xs s s.heap) (hbl : b < s.heap.size) (hi : i + 6 ≤ L) (hL : L ≤ 3072) (hroom : C1 ≤ 600000 ∧ S1 ≤ 7302250) (q1 q2 q3 q4 q5 q6 q7 q8 q9 qm : Nat → Nat) (K : LK p l e s m below meth c Q g b i C1 S1 q1 q2 q3 q4 q5 q6 q7 q8 q9 qm) : ∀ (O S T P D E B M : St) (f : Nat → Option Nat) (I0 I1 : Img) (H : Heap) (locs : List Loc) (ls : Array Slot) (cells slots : Nat), cells + 14 ≤ C1 → slots + 113 ≤ S1 → LI O S T P M f I0 I1 → va_P g.1 vwCl (LW g q1 q2 q3 q4 q5 q6 q7 q8 q9 qm O S T P D E B M f I0 I1) H → va_D (fun q : Nat => s.heap.size ≤ q) (LW g q1 q2 q3 q4 q5 q6 q7 q8 q9 qm O S T P D E B M f I0 I1) → va_S (fun q : Nat => s.heap.size ≤ q) s.heap H locs → lv_has ls 4 [(0, .ref b), (1, .ref (q1 100)), (2, .ref (qm 100)), (3, .int (nI i))] → W p l e room_1 s m #[Value.ref b] below meth c H locs cells slots Q (F0 m 966 ls []) := by
  have hx := hC.1.1
  have hb := hC.1.2.1
  have hA : ∀ q : Nat, s.heap.size ≤ q → (fun q : Nat => s.heap.size ≤ q) q := fun _ h => h
  have hbA : ¬ (fun q : Nat => s.heap.size ≤ q) b := Nat.not_le.mpr hbl
  intro O S T P D E B M f I0 I1 H locs ls cells slots hc1 hs1 hLI hP hD hS hl
  obtain ⟨⟨hI, hR⟩, hG0, hG1⟩ := id hLI
  have hin1 : vp_in (nI i + 1) L := by rw [show nI i + 1 = nI (i + 1) from nI_add i 1]; exact vp_in_nI (by omega) (by omega)
  refine lv_aload_n hx hb dL_law_966 rfl (lv_at hl 1 rfl) ?_
  refine lv_aload_n hx hb dL_law_967 rfl (lv_at hl 0 rfl) ?_
  refine lv_iload_n hx hb dL_law_968 rfl (lv_at hl 3 rfl) ?_
  refine lv_iconst (v := 1) hx hb dL_law_969 (by decide) ?_
  refine lv_iadd hx hb dL_law_970 ?_
  refine va_sld hx hb hX hbl hbA hS hin1 dL_law_971 ?_
  by_cases hy : 0 ≤ (xs (nI i + 1).toNatClampNeg).toInt ∧ (xs (nI i + 1).toNatClampNeg).toInt ≤ 1
  · obtain ⟨k, ek, hk⟩ := pv_num hy
    rw [ek]
    rcases (show k = 0 ∨ k = 1 by omega) with rfl | rfl
    · cases I0 with
      | none =>
        obtain ⟨g1, g2⟩ := id hG0
        obtain ⟨O2, S2, T2, hc, e1, e2, e3⟩ := pv_copy0 N (A := z_X3) (O := O) z_X6 S z_X5 T hI.1.2.2.2.2.2.1
        obtain ⟨M2, h8, hR2, k1, k2, k3, k4⟩ := op_image8 N (by omega) hR (k := 0) (by omega)
        refine k_pVN (C := RX7) (ci := 7) (qr := 0) (n := 1) (As := [.int (nI 0)]) (rest := []) (bytes := cX7_image) (maxL := 2) (ret := (some .int)) hC hl.1 (c_X7_image_n l g N q1 q2 q6 q7 q9 q3 q4 q5 f (k := 0) O S T O2 S2 T2 (by omega) g1 hc) rfl hL_X7_image (by decide +kernel) rfl rfl ⟨Nat.le_of_ble_eq_true rfl, Nat.le_of_ble_eq_true rfl⟩ rfl rfl rfl (Nat.le_of_ble_eq_true rfl) (show cells + 14 ≤ 600000 ∧ slots + 113 ≤ 7302250 by omega) dL_law_972 hP hD hS hA (pm_w (wX7 g q1 q2 q6 q7 q9) (wX0 g q2 q3 q4 q5) (wX3 g q3 O) (wX6 g q4 S) (wX5 g q5 T) (wX4 g q6 P ++ (wX2 g q7 q8 D ++ (wX3 g q8 E ++ (wX1 g q9 B)))) (wX8 g qm M) (wAR g q1 f) (wI g none) (wI g I1)) (fun z u H locs hz hP hD hS => ?_)
        have hz : z = 1 := hz
        subst hz
        have hP := wp_perm (pm_v0 (wX7 g q1 q2 q6 q7 q9) (wX0 g q2 q3 q4 q5) (wX3 g q3 O) (wX6 g q4 S) (wX5 g q5 T) (wX4 g q6 P ++ (wX2 g q7 q8 D ++ (wX3 g q8 E ++ (wX1 g q9 B)))) (wX8 g qm M) (wAR g q1 (va_up f 0 (some (u.1 100)))) (wI g I1) (wX0 g u.1 u.2.1 u.2.2.1 u.2.2.2) (wX3 g u.2.1 O2) (wX6 g u.2.2.1 S2) (wX5 g u.2.2.2 T2)) hP
        have hD := wd_perm (pm_v0 (wX7 g q1 q2 q6 q7 q9) (wX0 g q2 q3 q4 q5) (wX3 g q3 O) (wX6 g q4 S) (wX5 g q5 T) (wX4 g q6 P ++ (wX2 g q7 q8 D ++ (wX3 g q8 E ++ (wX1 g q9 B)))) (wX8 g qm M) (wAR g q1 (va_up f 0 (some (u.1 100)))) (wI g I1) (wX0 g u.1 u.2.1 u.2.2.1 u.2.2.2) (wX3 g u.2.1 O2) (wX6 g u.2.2.1 S2) (wX5 g u.2.2.2 T2)) hD
        refine lv_aload_n hx hb dL_law_975 rfl (lv_at hl 2 rfl) ?_
        refine lv_aload_n hx hb dL_law_976 rfl (lv_at hl 0 rfl) ?_
        refine lv_iload_n hx hb dL_law_977 rfl (lv_at hl 3 rfl) ?_
        refine lv_iconst (v := 1) hx hb dL_law_978 (by decide) ?_
        refine lv_iadd hx hb dL_law_979 ?_
        refine va_sld hx hb hX hbl hbA hS hin1 dL_law_980 ?_
        rw [ek]
        refine k_pVi (C := RX8) (ci := 8) (qr := 0) (n := 1) (As := [.int (nI 0)]) (rest := [.int 1]) (bytes := cX8_image) (maxL := 2) (ret := (some .int)) hC hl.1 (c_X8_image l g N qm M (nI 0) 1 M2 h8) rfl hL_X8_image (by decide +kernel) rfl rfl ⟨Nat.le_of_ble_eq_true rfl, Nat.le_of_ble_eq_true rfl⟩ rfl rfl rfl (Nat.le_of_ble_eq_true rfl) (show cells + 14 + 0 ≤ 600000 ∧ slots + 113 + 0 ≤ 7302250 by omega) dL_law_981 hP hD hS hA (pr2 _ _ _) (fun H locs hP hD hS => ?_)
        refine lv_icmp_eq (tgt := 1035) hx hb dL_law_984 (by decide) (fun _ => ?_) (fun q => absurd rfl q)
        refine W.widen (k := C1) (n := S1) (by omega) (by omega) ?_
        exact K O S T P D E B M2 (va_up f 0 (some (u.1 100))) (some (u.1, u.2.1, u.2.2.1, u.2.2.2, O2, S2, T2)) I1 H locs ls ⟨⟨hI, hR2⟩, ⟨show va_up f 0 (some (u.1 100)) 0 = _ from if_pos rfl, by rw [k1]; decide, pv_Im_E k3 e1 e2 e3, e1.IO hI.1, e2.IS hI.2.1, e3.IT hI.2.2.1⟩, hG1.to (show va_up f 0 (some (u.1 100)) 1 = f 1 from if_neg (by decide)) (k2 1 (by omega)) (fun x hx => k4 _ (by omega))⟩ (wp_perm (pr2 _ _ _) hP) (wd_perm (pr2 _ _ _) hD) hS hl
      | some q =>
        obtain ⟨a, b2, c2, d2, Oi, Si, Ti⟩ := q
        obtain ⟨g1, g2, g3, g4, g5, g6⟩ := id hG0
        obtain ⟨O2, S2, T2, hc, e1, e2, e3⟩ := pv_copy0 N (A := Oi) (O := O) Si S Ti T hI.1.2.2.2.2.2.1
        obtain ⟨M2, h8, hR2, k1, k2, k3, k4⟩ := op_image8 N (by omega) hR (k := 0) (by omega)
        refine k_pVi (C := RX7) (ci := 7) (qr := 0) (n := 1) (As := [.int (nI 0)]) (rest := []) (bytes := cX7_image) (maxL := 2) (ret := (some .int)) hC hl.1 (c_X7_image_s l g N q1 q2 q6 q7 q9 q3 q4 q5 a b2 c2 d2 f (k := 0) O S T Oi Si Ti O2 S2 T2 (by omega) g1 hc) rfl hL_X7_image (by decide +kernel) rfl rfl ⟨Nat.le_of_ble_eq_true rfl, Nat.le_of_ble_eq_true rfl⟩ rfl rfl rfl (Nat.le_of_ble_eq_true rfl) (show cells + 0 ≤ 600000 ∧ slots + 0 ≤ 7302250 by omega) dL_law_972 hP hD hS hA (pm_i0 (wX7 g q1 q2 q6 q7 q9) (wX0 g q2 q3 q4 q5) (wX3 g q3 O) (wX6 g q4 S) (wX5 g q5 T) (wX4 g q6 P ++ (wX2 g q7 q8 D ++ (wX3 g q8 E ++ (wX1 g q9 B)))) (wX8 g qm M) (wAR g q1 f) (wI g I1) (wX0 g a b2 c2 d2) (wX3 g b2 Oi) (wX6 g c2 Si) (wX5 g d2 Ti)) (fun H locs hP hD hS => ?_)
        have hP := wp_perm (pm_i0 (wX7 g q1 q2 q6 q7 q9) (wX0 g q2 q3 q4 q5) (wX3 g q3 O) (wX6 g q4 S) (wX5 g q5 T) (wX4 g q6 P ++ (wX2 g q7 q8 D ++ (wX3 g q8 E ++ (wX1 g q9 B)))) (wX8 g qm M) (wAR g q1 f) (wI g I1) (wX0 g a b2 c2 d2) (wX3 g b2 O2) (wX6 g c2 S2) (wX5 g d2 T2)).symm hP
        have hD := wd_perm (pm_i0 (wX7 g q1 q2 q6 q7 q9) (wX0 g q2 q3 q4 q5) (wX3 g q3 O) (wX6 g q4 S) (wX5 g q5 T) (wX4 g q6 P ++ (wX2 g q7 q8 D ++ (wX3 g q8 E ++ (wX1 g q9 B)))) (wX8 g qm M) (wAR g q1 f) (wI g I1) (wX0 g a b2 c2 d2) (wX3 g b2 O2) (wX6 g c2 S2) (wX5 g d2 T2)).symm hD
        refine lv_aload_n hx hb dL_law_975 rfl (lv_at hl 2 rfl) ?_
        refine lv_aload_n hx hb dL_law_976 rfl (lv_at hl 0 rfl) ?_
        refine lv_iload_n hx hb dL_law_977 rfl (lv_at hl 3 rfl) ?_
        refine lv_iconst (v := 1) hx hb dL_law_978 (by decide) ?_
        refine lv_iadd hx hb dL_law_979 ?_
        refine va_sld hx hb hX hbl hbA hS hin1 dL_law_980 ?_
        rw [ek]
        refine k_pVi (C := RX8) (ci := 8) (qr := 0) (n := 1) (As := [.int (nI 0)]) (rest := [.int 1]) (bytes := cX8_image) (maxL := 2) (ret := (some .int)) hC hl.1 (c_X8_image l g N qm M (nI 0) 1 M2 h8) rfl hL_X8_image (by decide +kernel) rfl rfl ⟨Nat.le_of_ble_eq_true rfl, Nat.le_of_ble_eq_true rfl⟩ rfl rfl rfl (Nat.le_of_ble_eq_true rfl) (show cells + 0 ≤ 600000 ∧ slots + 0 ≤ 7302250 by omega) dL_law_981 hP hD hS hA (pr2 _ _ _) (fun H locs hP hD hS => ?_)
        refine lv_icmp_eq (tgt := 1035) hx hb dL_law_984 (by decide) (fun _ => ?_) (fun q => absurd rfl q)
        refine W.widen (k := C1) (n := S1) (by omega) (by omega) ?_
        exact K O S T P D E B M2 f (some (a, b2, c2, d2, O2, S2, T2)) I1 H locs ls ⟨⟨hI, hR2⟩, ⟨g1, by rw [k1]; decide, pv_Im_E k3 e1 e2 e3, e1.IO hI.1, e2.IS hI.2.1, e3.IT hI.2.2.1⟩, hG1.to rfl (k2 1 (by omega)) (fun x hx => k4 _ (by omega))⟩ (wp_perm (pr2 _ _ _) hP) (wd_perm (pr2 _ _ _) hD) hS hl
    · cases I1 with
      | none =>
        obtain ⟨g1, g2⟩ := id hG1
        obtain ⟨O2, S2, T2, hc, e1, e2, e3⟩ := pv_copy0 N (A := z_X3) (O := O) z_X6 S z_X5 T hI.1.2.2.2.2.2.1
        obtain ⟨M2, h8, hR2, k1, k2, k3, k4⟩ := op_image8 N (by omega) hR (k := 1) (by omega)
        refine k_pVN (C := RX7) (ci := 7) (qr := 0) (n := 1) (As := [.int (nI 1)]) (rest := []) (bytes := cX7_image) (maxL := 2) (ret := (some .int)) hC hl.1 (c_X7_image_n l g N q1 q2 q6 q7 q9 q3 q4 q5 f (k := 1) O S T O2 S2 T2 (by omega) g1 hc) rfl hL_X7_image (by decide +kernel) rfl rfl ⟨Nat.le_of_ble_eq_true rfl, Nat.le_of_ble_eq_true rfl⟩ rfl rfl rfl (Nat.le_of_ble_eq_true rfl) (show cells + 14 ≤ 600000 ∧ slots + 113 ≤ 7302250 by omega) dL_law_972 hP hD hS hA (pm_w (wX7 g q1 q2 q6 q7 q9) (wX0 g q2 q3 q4 q5) (wX3 g q3 O) (wX6 g q4 S) (wX5 g q5 T) (wX4 g q6 P ++ (wX2 g q7 q8 D ++ (wX3 g q8 E ++ (wX1 g q9 B)))) (wX8 g qm M) (wAR g q1 f) (wI g I0) (wI g none)) (fun z u H locs hz hP hD hS => ?_)
        have hz : z = 1 := hz
        subst hz
        have hP := wp_perm (pm_v1 (wX7 g q1 q2 q6 q7 q9) (wX0 g q2 q3 q4 q5) (wX3 g q3 O) (wX6 g q4 S) (wX5 g q5 T) (wX4 g q6 P ++ (wX2 g q7 q8 D ++ (wX3 g q8 E ++ (wX1 g q9 B)))) (wX8 g qm M) (wAR g q1 (va_up f 1 (some (u.1 100)))) (wI g I0) (wX0 g u.1 u.2.1 u.2.2.1 u.2.2.2) (wX3 g u.2.1 O2) (wX6 g u.2.2.1 S2) (wX5 g u.2.2.2 T2)) hP
        have hD := wd_perm (pm_v1 (wX7 g q1 q2 q6 q7 q9) (wX0 g q2 q3 q4 q5) (wX3 g q3 O) (wX6 g q4 S) (wX5 g q5 T) (wX4 g q6 P ++ (wX2 g q7 q8 D ++ (wX3 g q8 E ++ (wX1 g q9 B)))) (wX8 g qm M) (wAR g q1 (va_up f 1 (some (u.1 100)))) (wI g I0) (wX0 g u.1 u.2.1 u.2.2.1 u.2.2.2) (wX3 g u.2.1 O2) (wX6 g u.2.2.1 S2) (wX5 g u.2.2.2 T2)) hD
        refine lv_aload_n hx hb dL_law_975 rfl (lv_at hl 2 rfl) ?_
        refine lv_aload_n hx hb dL_law_976 rfl (lv_at hl 0 rfl) ?_
        refine lv_iload_n hx hb dL_law_977 rfl (lv_at hl 3 rfl) ?_
        refine lv_iconst (v := 1) hx hb dL_law_978 (by decide) ?_
        refine lv_iadd hx hb dL_law_979 ?_
        refine va_sld hx hb hX hbl hbA hS hin1 dL_law_980 ?_
        rw [ek]
        refine k_pVi (C := RX8) (ci := 8) (qr := 0) (n := 1) (As := [.int (nI 1)]) (rest := [.int 1]) (bytes := cX8_image) (maxL := 2) (ret := (some .int)) hC hl.1 (c_X8_image l g N qm M (nI 1) 1 M2 h8) rfl hL_X8_image (by decide +kernel) rfl rfl ⟨Nat.le_of_ble_eq_true rfl, Nat.le_of_ble_eq_true rfl⟩ rfl rfl rfl (Nat.le_of_ble_eq_true rfl) (show cells + 14 + 0 ≤ 600000 ∧ slots + 113 + 0 ≤ 7302250 by omega) dL_law_981 hP hD hS hA (pr2 _ _ _) (fun H locs hP hD hS => ?_)
        refine lv_icmp_eq (tgt := 1035) hx hb dL_law_984 (by decide) (fun _ => ?_) (fun q => absurd rfl q)
        refine W.widen (k := C1) (n := S1) (by omega) (by omega) ?_
        exact K O S T P D E B M2 (va_up f 1 (some (u.1 100))) I0 (some (u.1, u.2.1, u.2.2.1, u.2.2.2, O2, S2, T2)) H locs ls ⟨⟨hI, hR2⟩, hG0.to (show va_up f 1 (some (u.1 100)) 0 = f 0 from if_neg (by decide)) (k2 0 (by omega)) (fun x hx => k4 _ (by omega)), ⟨show va_up f 1 (some (u.1 100)) 1 = _ from if_pos rfl, by rw [k1]; decide, pv_Im_E k3 e1 e2 e3, e1.IO hI.1, e2.IS hI.2.1, e3.IT hI.2.2.1⟩⟩ (wp_perm (pr2 _ _ _) hP) (wd_perm (pr2 _ _ _) hD) hS hl
      | some q =>
        obtain ⟨a, b2, c2, d2, Oi, Si, Ti⟩ := q
        obtain ⟨g1, g2, g3, g4, g5, g6⟩ := id hG1
        obtain ⟨O2, S2, T2, hc, e1, e2, e3⟩ := pv_copy0 N (A := Oi) (O := O) Si S Ti T hI.1.2.2.2.2.2.1
        obtain ⟨M2, h8, hR2, k1, k2, k3, k4⟩ := op_image8 N (by omega) hR (k := 1) (by omega)
        refine k_pVi (C := RX7) (ci := 7) (qr := 0) (n := 1) (As := [.int (nI 1)]) (rest := []) (bytes := cX7_image) (maxL := 2) (ret := (some .int)) hC hl.1 (c_X7_image_s l g N q1 q2 q6 q7 q9 q3 q4 q5 a b2 c2 d2 f (k := 1) O S T Oi Si Ti O2 S2 T2 (by omega) g1 hc) rfl hL_X7_image (by decide +kernel) rfl rfl ⟨Nat.le_of_ble_eq_true rfl, Nat.le_of_ble_eq_true rfl⟩ rfl rfl rfl (Nat.le_of_ble_eq_true rfl) (show cells + 0 ≤ 600000 ∧ slots + 0 ≤ 7302250 by omega) dL_law_972 hP hD hS hA (pm_i1 (wX7 g q1 q2 q6 q7 q9) (wX0 g q2 q3 q4 q5) (wX3 g q3 O) (wX6 g q4 S) (wX5 g q5 T) (wX4 g q6 P ++ (wX2 g q7 q8 D ++ (wX3 g q8 E ++ (wX1 g q9 B)))) (wX8 g qm M) (wAR g q1 f) (wI g I0) (wX0 g a b2 c2 d2) (wX3 g b2 Oi) (wX6 g c2 Si) (wX5 g d2 Ti)) (fun H locs hP hD hS => ?_)
        have hP := wp_perm (pm_i1 (wX7 g q1 q2 q6 q7 q9) (wX0 g q2 q3 q4 q5) (wX3 g q3 O) (wX6 g q4 S) (wX5 g q5 T) (wX4 g q6 P ++ (wX2 g q7 q8 D ++ (wX3 g q8 E ++ (wX1 g q9 B)))) (wX8 g qm M) (wAR g q1 f) (wI g I0) (wX0 g a b2 c2 d2) (wX3 g b2 O2) (wX6 g c2 S2) (wX5 g d2 T2)).symm hP
        have hD := wd_perm (pm_i1 (wX7 g q1 q2 q6 q7 q9) (wX0 g q2 q3 q4 q5) (wX3 g q3 O) (wX6 g q4 S) (wX5 g q5 T) (wX4 g q6 P ++ (wX2 g q7 q8 D ++ (wX3 g q8 E ++ (wX1 g q9 B)))) (wX8 g qm M) (wAR g q1 f) (wI g I0) (wX0 g a b2 c2 d2) (wX3 g b2 O2) (wX6 g c2 S2) (wX5 g d2 T2)).symm hD
        refine lv_aload_n hx hb dL_law_975 rfl (lv_at hl 2 rfl) ?_
        refine lv_aload_n hx hb dL_law_976 rfl (lv_at hl 0 rfl) ?_
        refine lv_iload_n hx hb dL_law_977 rfl (lv_at hl 3 rfl) ?_
        refine lv_iconst (v := 1) hx hb dL_law_978 (by decide) ?_
        refine lv_iadd hx hb dL_law_979 ?_
        refine va_sld hx hb hX hbl hbA hS hin1 dL_law_980 ?_
        rw [ek]
        refine k_pVi (C := RX8) (ci := 8) (qr := 0) (n := 1) (As := [.int (nI 1)]) (rest := [.int 1]) (bytes := cX8_image) (maxL := 2) (ret := (some .int)) hC hl.1 (c_X8_image l g N qm M (nI 1) 1 M2 h8) rfl hL_X8_image (by decide +kernel) rfl rfl ⟨Nat.le_of_ble_eq_true rfl, Nat.le_of_ble_eq_true rfl⟩ rfl rfl rfl (Nat.le_of_ble_eq_true rfl) (show cells + 0 ≤ 600000 ∧ slots + 0 ≤ 7302250 by omega) dL_law_981 hP hD hS hA (pr2 _ _ _) (fun H locs hP hD hS => ?_)
        refine lv_icmp_eq (tgt := 1035) hx hb dL_law_984 (by decide) (fun _ => ?_) (fun q => absurd rfl q)
        refine W.widen (k := C1) (n := S1) (by omega) (by omega) ?_
        exact K O S T P D E B M2 f I0 (some (a, b2, c2, d2, O2, S2, T2)) H locs ls ⟨⟨hI, hR2⟩, hG0.to rfl (k2 0 (by omega)) (fun x hx => k4 _ (by omega)), ⟨g1, by rw [k1]; decide, pv_Im_E k3 e1 e2 e3, e1.IO hI.1, e2.IS hI.2.1, e3.IT hI.2.2.1⟩⟩ (wp_perm (pr2 _ _ _) hP) (wd_perm (pr2 _ _ _) hD) hS hl
  · refine k_pVi (C := RX7) (ci := 7) (qr := 0) (n := 1) (As := [.int (xs (nI i + 1).toNatClampNeg)]) (rest := []) (bytes := cX7_image) (maxL := 2) (ret := (some .int)) hC hl.1 (c_X7_image_x l g q1 q2 q6 q7 q9 (xs (nI i + 1).toNatClampNeg) hy) rfl hL_X7_image (by decide +kernel) rfl rfl ⟨Nat.le_of_ble_eq_true rfl, Nat.le_of_ble_eq_true rfl⟩ rfl rfl rfl (Nat.le_of_ble_eq_true rfl) (show cells + 0 ≤ 600000 ∧ slots + 0 ≤ 7302250 by omega) dL_law_972 hP hD hS hA (pm_x (wX7 g q1 q2 q6 q7 q9) (wX0 g q2 q3 q4 q5) (wX3 g q3 O) (wX6 g q4 S) (wX5 g q5 T) (wX4 g q6 P ++ (wX2 g q7 q8 D ++ (wX3 g q8 E ++ (wX1 g q9 B)))) (wX8 g qm M) (wAR g q1 f) (wI g I0) (wI g I1)) (fun H locs hP hD hS => ?_)
    have hP := wp_perm (pm_x (wX7 g q1 q2 q6 q7 q9) (wX0 g q2 q3 q4 q5) (wX3 g q3 O) (wX6 g q4 S) (wX5 g q5 T) (wX4 g q6 P ++ (wX2 g q7 q8 D ++ (wX3 g q8 E ++ (wX1 g q9 B)))) (wX8 g qm M) (wAR g q1 f) (wI g I0) (wI g I1)).symm hP
    have hD := wd_perm (pm_x (wX7 g q1 q2 q6 q7 q9) (wX0 g q2 q3 q4 q5) (wX3 g q3 O) (wX6 g q4 S) (wX5 g q5 T) (wX4 g q6 P ++ (wX2 g q7 q8 D ++ (wX3 g q8 E ++ (wX1 g q9 B)))) (wX8 g qm M) (wAR g q1 f) (wI g I0) (wI g I1)).symm hD
    refine lv_aload_n hx hb dL_law_975 rfl (lv_at hl 2 rfl) ?_
    refine lv_aload_n hx hb dL_law_976 rfl (lv_at hl 0 rfl) ?_
    refine lv_iload_n hx hb dL_law_977 rfl (lv_at hl 3 rfl) ?_
    refine lv_iconst (v := 1) hx hb dL_law_978 (by decide) ?_
    refine lv_iadd hx hb dL_law_979 ?_
    refine va_sld hx hb hX hbl hbA hS hin1 dL_law_980 ?_
    refine k_pVi (C := RX8) (ci := 8) (qr := 0) (n := 1) (As := [.int (xs (nI i + 1).toNatClampNeg)]) (rest := [.int (-2)]) (bytes := cX8_image) (maxL := 2) (ret := (some .int)) hC hl.1 (c_X8_image l g N qm M (xs (nI i + 1).toNatClampNeg) (-2) M (op_image8x N hy)) rfl hL_X8_image (by decide +kernel) rfl rfl ⟨Nat.le_of_ble_eq_true rfl, Nat.le_of_ble_eq_true rfl⟩ rfl rfl rfl (Nat.le_of_ble_eq_true rfl) (show cells + 0 ≤ 600000 ∧ slots + 0 ≤ 7302250 by omega) dL_law_981 hP hD hS hA (pr2 _ _ _) (fun H locs hP hD hS => ?_)
    refine lv_icmp_eq (tgt := 1035) hx hb dL_law_984 (by decide) (fun _ => ?_) (fun q => absurd rfl q)
    refine W.widen (k := C1) (n := S1) (by omega) (by omega) ?_
    exact K O S T P D E B M f I0 I1 H locs ls hLI (wp_perm (pr2 _ _ _) hP) (wd_perm (pr2 _ _ _) hD) hS hl
