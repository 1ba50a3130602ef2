/-! laid by wip/whole/mklaw.py: the law's cases -/
set_option maxRecDepth 100000 in
set_option maxHeartbeats 1000000 in
theorem lc_oven {p : Program} {l : Launch} {e : Env} {s : State} {m : MethodId} {below : List Frame} {meth : Method} {c : Code} {Q : State → Prop} {g : GG} {b L i C1 S1 : Nat} {xs : Nat → Int32} (N : Nat) (hN : 2000 ≤ N) (hC : Cx p s m #[Value.ref b] c RL cL_law 4 lw_tbl g) (hX : va_X b L xs s s.heap) (hbl : b < s.heap.size) (hi : i + 6 ≤ L) (hL : L ≤ 3072) (hroom : C1 ≤ 600000 ∧ S1 ≤ 7302250) (q1 q2 q3 q4 q5 q6 q7 q8 q9 qm : Nat → Nat) (K : LK p l e s m below meth c Q g b i C1 S1 q1 q2 q3 q4 q5 q6 q7 q8 q9 qm) : ∀ (O S T P D E B M : St) (f : Nat → Option Nat) (I0 I1 : Img) (H : Heap) (locs : List Loc) (ls : Array Slot) (cells slots : Nat), cells + 14 ≤ C1 → slots + 113 ≤ S1 → LI O S T P M f I0 I1 → va_P g.1 vwCl (LW g q1 q2 q3 q4 q5 q6 q7 q8 q9 qm O S T P D E B M f I0 I1) H → va_D (fun q : Nat => s.heap.size ≤ q) (LW g q1 q2 q3 q4 q5 q6 q7 q8 q9 qm O S T P D E B M f I0 I1) → va_S (fun q : Nat => s.heap.size ≤ q) s.heap H locs → lv_has ls 4 [(0, .ref b), (1, .ref (q1 100)), (2, .ref (qm 100)), (3, .int (nI i))] → W p l e room_1 s m #[Value.ref b] below meth c H locs cells slots Q (F0 m 168 ls []) := by
  have hx := hC.1.1
  have hb := hC.1.2.1
  have hA : ∀ q : Nat, s.heap.size ≤ q → (fun q : Nat => s.heap.size ≤ q) q := fun _ h => h
  have hbA : ¬ (fun q : Nat => s.heap.size ≤ q) b := Nat.not_le.mpr hbl
  intro O S T P D E B M f I0 I1 H locs ls cells slots hc1 hs1 hLI hP hD hS hl
  obtain ⟨⟨hI, hR⟩, hG0, hG1⟩ := id hLI
  have hin1 : vp_in (nI i + 1) L := by rw [show nI i + 1 = nI (i + 1) from nI_add i 1]; exact vp_in_nI (by omega) (by omega)
  have hin2 : vp_in (nI i + 2) L := by rw [show nI i + 2 = nI (i + 2) from nI_add i 2]; exact vp_in_nI (by omega) (by omega)
  obtain ⟨r, O', T', M', h7, h8, hI2, hR2, hK2⟩ := op_oven N hN D E B hI hR (xs (nI i + 1).toNatClampNeg) (xs (nI i + 2).toNatClampNeg)
  refine lv_aload_n hx hb dL_law_168 rfl (lv_at hl 1 rfl) ?_
  refine lv_aload_n hx hb dL_law_169 rfl (lv_at hl 0 rfl) ?_
  refine lv_iload_n hx hb dL_law_170 rfl (lv_at hl 3 rfl) ?_
  refine lv_iconst (v := 1) hx hb dL_law_171 (by decide) ?_
  refine lv_iadd hx hb dL_law_172 ?_
  refine va_sld hx hb hX hbl hbA hS hin1 dL_law_173 ?_
  refine lv_aload_n hx hb dL_law_174 rfl (lv_at hl 0 rfl) ?_
  refine lv_iload_n hx hb dL_law_175 rfl (lv_at hl 3 rfl) ?_
  refine lv_iconst (v := 2) hx hb dL_law_176 (by decide) ?_
  refine lv_iadd hx hb dL_law_177 ?_
  refine va_sld hx hb hX hbl hbA hS hin2 dL_law_178 ?_
  refine k_pVi (C := RX7) (ci := 7) (qr := 0) (n := 2) (As := [.int (xs (nI i + 1).toNatClampNeg), .int (xs (nI i + 2).toNatClampNeg)]) (rest := []) (bytes := cX7_oven) (maxL := 3) (ret := (some .int)) hC hl.1 (c_X7_oven l g N q1 q2 q3 q4 q5 q6 q7 q8 q9 O S T P D E B (xs (nI i + 1).toNatClampNeg) (xs (nI i + 2).toNatClampNeg) r O' T' h7) rfl hL_X7_oven (by decide +kernel) rfl rfl ⟨Nat.le_of_ble_eq_true rfl, Nat.le_of_ble_eq_true rfl⟩ rfl rfl rfl (Nat.le_of_ble_eq_true rfl) (show cells + 0 ≤ 600000 ∧ slots + 0 ≤ 7302250 by omega) dL_law_179 hP hD hS hA (List.Perm.refl _) (fun H locs hP hD hS => ?_)
  refine lv_aload_n hx hb dL_law_182 rfl (lv_at hl 2 rfl) ?_
  refine lv_aload_n hx hb dL_law_183 rfl (lv_at hl 0 rfl) ?_
  refine lv_iload_n hx hb dL_law_184 rfl (lv_at hl 3 rfl) ?_
  refine lv_iconst (v := 1) hx hb dL_law_185 (by decide) ?_
  refine lv_iadd hx hb dL_law_186 ?_
  refine va_sld hx hb hX hbl hbA hS hin1 dL_law_187 ?_
  refine lv_aload_n hx hb dL_law_188 rfl (lv_at hl 0 rfl) ?_
  refine lv_iload_n hx hb dL_law_189 rfl (lv_at hl 3 rfl) ?_
  refine lv_iconst (v := 2) hx hb dL_law_190 (by decide) ?_
  refine lv_iadd hx hb dL_law_191 ?_
  refine va_sld hx hb hX hbl hbA hS hin2 dL_law_192 ?_
  refine k_pVi (C := RX8) (ci := 8) (qr := 0) (n := 2) (As := [.int (xs (nI i + 1).toNatClampNeg), .int (xs (nI i + 2).toNatClampNeg)]) (rest := [.int r]) (bytes := cX8_oven) (maxL := 4) (ret := (some .int)) hC hl.1 (c_X8_oven l g N qm M (xs (nI i + 1).toNatClampNeg) (xs (nI i + 2).toNatClampNeg) r M' h8) rfl hL_X8_oven (by decide +kernel) rfl rfl ⟨Nat.le_of_ble_eq_true rfl, Nat.le_of_ble_eq_true rfl⟩ rfl rfl rfl (Nat.le_of_ble_eq_true rfl) (show cells + 0 ≤ 600000 ∧ slots + 0 ≤ 7302250 by omega) dL_law_193 hP hD hS hA (pr2 _ _ _) (fun H locs hP hD hS => ?_)
  refine lv_icmp_eq (tgt := 1035) hx hb dL_law_196 (by decide) (fun _ => ?_) (fun q => absurd rfl q)
  refine W.widen (k := C1) (n := S1) (by omega) (by omega) ?_
  exact K O' S T' P D E B M' f I0 I1 H locs ls (hLI.go hI2 hR2 hK2) (wp_perm (pr2 _ _ _) hP) (wd_perm (pr2 _ _ _) hD) hS hl
set_option maxRecDepth 100000 in
set_option maxHeartbeats 1000000 in
theorem lc_set {p : Program} {l : Launch} {e : Env} {s : State} {m : MethodId} {below : List Frame} {meth : Method} {c : Code} {Q : State → Prop} {g : GG} {b L i C1 S1 : Nat} {xs : Nat → Int32} (N : Nat) (hN : 2000 ≤ N) (hC : Cx p s m #[Value.ref b] c RL cL_law 4 lw_tbl g) (hX : va_X b L xs s s.heap) (hbl : b < s.heap.size) (hi : i + 6 ≤ L) (hL : L ≤ 3072) (hroom : C1 ≤ 600000 ∧ S1 ≤ 7302250) (q1 q2 q3 q4 q5 q6 q7 q8 q9 qm : Nat → Nat) (K : LK p l e s m below meth c Q g b i C1 S1 q1 q2 q3 q4 q5 q6 q7 q8 q9 qm) : ∀ (O S T P D E B M : St) (f : Nat → Option Nat) (I0 I1 : Img) (H : Heap) (locs : List Loc) (ls : Array Slot) (cells slots : Nat), cells + 14 ≤ C1 → slots + 113 ≤ S1 → LI O S T P M f I0 I1 → va_P g.1 vwCl (LW g q1 q2 q3 q4 q5 q6 q7 q8 q9 qm O S T P D E B M f I0 I1) H → va_D (fun q : Nat => s.heap.size ≤ q) (LW g q1 q2 q3 q4 q5 q6 q7 q8 q9 qm O S T P D E B M f I0 I1) → va_S (fun q : Nat => s.heap.size ≤ q) s.heap H locs → lv_has ls 4 [(0, .ref b), (1, .ref (q1 100)), (2, .ref (qm 100)), (3, .int (nI i))] → W p l e room_1 s m #[Value.ref b] below meth c H locs cells slots Q (F0 m 201 ls []) := by
  have hx := hC.1.1
  have hb := hC.1.2.1
  have hA : ∀ q : Nat, s.heap.size ≤ q → (fun q : Nat => s.heap.size ≤ q) q := fun _ h => h
  have hbA : ¬ (fun q : Nat => s.heap.size ≤ q) b := Nat.not_le.mpr hbl
  intro O S T P D E B M f I0 I1 H locs ls cells slots hc1 hs1 hLI hP hD hS hl
  obtain ⟨⟨hI, hR⟩, hG0, hG1⟩ := id hLI
  have hin1 : vp_in (nI i + 1) L := by rw [show nI i + 1 = nI (i + 1) from nI_add i 1]; exact vp_in_nI (by omega) (by omega)
  have hin2 : vp_in (nI i + 2) L := by rw [show nI i + 2 = nI (i + 2) from nI_add i 2]; exact vp_in_nI (by omega) (by omega)
  obtain ⟨r, O', M', h7, h8, hI2, hR2, hK2⟩ := op_set N D E B hI hR (xs (nI i + 1).toNatClampNeg) (xs (nI i + 2).toNatClampNeg)
  refine lv_aload_n hx hb dL_law_201 rfl (lv_at hl 1 rfl) ?_
  refine lv_aload_n hx hb dL_law_202 rfl (lv_at hl 0 rfl) ?_
  refine lv_iload_n hx hb dL_law_203 rfl (lv_at hl 3 rfl) ?_
  refine lv_iconst (v := 1) hx hb dL_law_204 (by decide) ?_
  refine lv_iadd hx hb dL_law_205 ?_
  refine va_sld hx hb hX hbl hbA hS hin1 dL_law_206 ?_
  refine lv_aload_n hx hb dL_law_207 rfl (lv_at hl 0 rfl) ?_
  refine lv_iload_n hx hb dL_law_208 rfl (lv_at hl 3 rfl) ?_
  refine lv_iconst (v := 2) hx hb dL_law_209 (by decide) ?_
  refine lv_iadd hx hb dL_law_210 ?_
  refine va_sld hx hb hX hbl hbA hS hin2 dL_law_211 ?_
  refine k_pVi (C := RX7) (ci := 7) (qr := 0) (n := 2) (As := [.int (xs (nI i + 1).toNatClampNeg), .int (xs (nI i + 2).toNatClampNeg)]) (rest := []) (bytes := cX7_set) (maxL := 5) (ret := (some .int)) hC hl.1 (c_X7_set l g N q1 q2 q3 q4 q5 q6 q7 q8 q9 O S T P D E B (xs (nI i + 1).toNatClampNeg) (xs (nI i + 2).toNatClampNeg) r O' h7) rfl hL_X7_set (by decide +kernel) rfl rfl ⟨Nat.le_of_ble_eq_true rfl, Nat.le_of_ble_eq_true rfl⟩ rfl rfl rfl (Nat.le_of_ble_eq_true rfl) (show cells + 0 ≤ 600000 ∧ slots + 0 ≤ 7302250 by omega) dL_law_212 hP hD hS hA (List.Perm.refl _) (fun H locs hP hD hS => ?_)
  refine lv_aload_n hx hb dL_law_215 rfl (lv_at hl 2 rfl) ?_
  refine lv_aload_n hx hb dL_law_216 rfl (lv_at hl 0 rfl) ?_
  refine lv_iload_n hx hb dL_law_217 rfl (lv_at hl 3 rfl) ?_
  refine lv_iconst (v := 1) hx hb dL_law_218 (by decide) ?_
  refine lv_iadd hx hb dL_law_219 ?_
  refine va_sld hx hb hX hbl hbA hS hin1 dL_law_220 ?_
  refine lv_aload_n hx hb dL_law_221 rfl (lv_at hl 0 rfl) ?_
  refine lv_iload_n hx hb dL_law_222 rfl (lv_at hl 3 rfl) ?_
  refine lv_iconst (v := 2) hx hb dL_law_223 (by decide) ?_
  refine lv_iadd hx hb dL_law_224 ?_
  refine va_sld hx hb hX hbl hbA hS hin2 dL_law_225 ?_
  refine k_pVi (C := RX8) (ci := 8) (qr := 0) (n := 2) (As := [.int (xs (nI i + 1).toNatClampNeg), .int (xs (nI i + 2).toNatClampNeg)]) (rest := [.int r]) (bytes := cX8_set) (maxL := 4) (ret := (some .int)) hC hl.1 (c_X8_set l g N qm M (xs (nI i + 1).toNatClampNeg) (xs (nI i + 2).toNatClampNeg) r M' h8) rfl hL_X8_set (by decide +kernel) rfl rfl ⟨Nat.le_of_ble_eq_true rfl, Nat.le_of_ble_eq_true rfl⟩ rfl rfl rfl (Nat.le_of_ble_eq_true rfl) (show cells + 0 ≤ 600000 ∧ slots + 0 ≤ 7302250 by omega) dL_law_226 hP hD hS hA (pr2 _ _ _) (fun H locs hP hD hS => ?_)
  refine lv_icmp_eq (tgt := 1035) hx hb dL_law_229 (by decide) (fun _ => ?_) (fun q => absurd rfl q)
  refine W.widen (k := C1) (n := S1) (by omega) (by omega) ?_
  exact K O' S T P D E B M' f I0 I1 H locs ls (hLI.go hI2 hR2 hK2) (wp_perm (pr2 _ _ _) hP) (wd_perm (pr2 _ _ _) hD) hS hl
set_option maxRecDepth 100000 in
set_option maxHeartbeats 1000000 in
theorem lc_less {p : Program} {l : Launch} {e : Env} {s : State} {m : MethodId} {below : List Frame} {meth : Method} {c : Code} {Q : State → Prop} {g : GG} {b L i C1 S1 : Nat} {xs : Nat → Int32} (N : Nat) (hN : 2000 ≤ N) (hC : Cx p s m #[Value.ref b] c RL cL_law 4 lw_tbl g) (hX : va_X b L xs s s.heap) (hbl : b < s.heap.size) (hi : i + 6 ≤ L) (hL : L ≤ 3072) (hroom : C1 ≤ 600000 ∧ S1 ≤ 7302250) (q1 q2 q3 q4 q5 q6 q7 q8 q9 qm : Nat → Nat) (K : LK p l e s m below meth c Q g b i C1 S1 q1 q2 q3 q4 q5 q6 q7 q8 q9 qm) : ∀ (O S T P D E B M : St) (f : Nat → Option Nat) (I0 I1 : Img) (H : Heap) (locs : List Loc) (ls : Array Slot) (cells slots : Nat), cells + 14 ≤ C1 → slots + 113 ≤ S1 → LI O S T P M f I0 I1 → va_P g.1 vwCl (LW g q1 q2 q3 q4 q5 q6 q7 q8 q9 qm O S T P D E B M f I0 I1) H → va_D (fun q : Nat => s.heap.size ≤ q) (LW g q1 q2 q3 q4 q5 q6 q7 q8 q9 qm O S T P D E B M f I0 I1) → va_S (fun q : Nat => s.heap.size ≤ q) s.heap H locs → lv_has ls 4 [(0, .ref b), (1, .ref (q1 100)), (2, .ref (qm 100)), (3, .int (nI i))] → W p l e room_1 s m #[Value.ref b] below meth c H locs cells slots Q (F0 m 234 ls []) := by
  have hx := hC.1.1
  have hb := hC.1.2.1
  have hA : ∀ q : Nat, s.heap.size ≤ q → (fun q : Nat => s.heap.size ≤ q) q := fun _ h => h
  have hbA : ¬ (fun q : Nat => s.heap.size ≤ q) b := Nat.not_le.mpr hbl
  intro O S T P D E B M f I0 I1 H locs ls cells slots hc1 hs1 hLI hP hD hS hl
  obtain ⟨⟨hI, hR⟩, hG0, hG1⟩ := id hLI
  have hin1 : vp_in (nI i + 1) L := by rw [show nI i + 1 = nI (i + 1) from nI_add i 1]; exact vp_in_nI (by omega) (by omega)
  have hin2 : vp_in (nI i + 2) L := by rw [show nI i + 2 = nI (i + 2) from nI_add i 2]; exact vp_in_nI (by omega) (by omega)
  obtain ⟨r, O', M', h7, h8, hI2, hR2, hK2⟩ := op_less N D E B hI hR (xs (nI i + 1).toNatClampNeg) (xs (nI i + 2).toNatClampNeg)
  refine lv_aload_n hx hb dL_law_234 rfl (lv_at hl 1 rfl) ?_
  refine lv_aload_n hx hb dL_law_235 rfl (lv_at hl 0 rfl) ?_
  refine lv_iload_n hx hb dL_law_236 rfl (lv_at hl 3 rfl) ?_
  refine lv_iconst (v := 1) hx hb dL_law_237 (by decide) ?_
  refine lv_iadd hx hb dL_law_238 ?_
  refine va_sld hx hb hX hbl hbA hS hin1 dL_law_239 ?_
  refine lv_aload_n hx hb dL_law_240 rfl (lv_at hl 0 rfl) ?_
  refine lv_iload_n hx hb dL_law_241 rfl (lv_at hl 3 rfl) ?_
  refine lv_iconst (v := 2) hx hb dL_law_242 (by decide) ?_
  refine lv_iadd hx hb dL_law_243 ?_
  refine va_sld hx hb hX hbl hbA hS hin2 dL_law_244 ?_
  refine k_pVi (C := RX7) (ci := 7) (qr := 0) (n := 2) (As := [.int (xs (nI i + 1).toNatClampNeg), .int (xs (nI i + 2).toNatClampNeg)]) (rest := []) (bytes := cX7_less) (maxL := 4) (ret := (some .int)) hC hl.1 (c_X7_less l g N q1 q2 q3 q4 q5 q6 q7 q8 q9 O S T P D E B (xs (nI i + 1).toNatClampNeg) (xs (nI i + 2).toNatClampNeg) r O' h7) rfl hL_X7_less (by decide +kernel) rfl rfl ⟨Nat.le_of_ble_eq_true rfl, Nat.le_of_ble_eq_true rfl⟩ rfl rfl rfl (Nat.le_of_ble_eq_true rfl) (show cells + 0 ≤ 600000 ∧ slots + 0 ≤ 7302250 by omega) dL_law_245 hP hD hS hA (List.Perm.refl _) (fun H locs hP hD hS => ?_)
  refine lv_aload_n hx hb dL_law_248 rfl (lv_at hl 2 rfl) ?_
  refine lv_aload_n hx hb dL_law_249 rfl (lv_at hl 0 rfl) ?_
  refine lv_iload_n hx hb dL_law_250 rfl (lv_at hl 3 rfl) ?_
  refine lv_iconst (v := 1) hx hb dL_law_251 (by decide) ?_
  refine lv_iadd hx hb dL_law_252 ?_
  refine va_sld hx hb hX hbl hbA hS hin1 dL_law_253 ?_
  refine lv_aload_n hx hb dL_law_254 rfl (lv_at hl 0 rfl) ?_
  refine lv_iload_n hx hb dL_law_255 rfl (lv_at hl 3 rfl) ?_
  refine lv_iconst (v := 2) hx hb dL_law_256 (by decide) ?_
  refine lv_iadd hx hb dL_law_257 ?_
  refine va_sld hx hb hX hbl hbA hS hin2 dL_law_258 ?_
  refine k_pVi (C := RX8) (ci := 8) (qr := 0) (n := 2) (As := [.int (xs (nI i + 1).toNatClampNeg), .int (xs (nI i + 2).toNatClampNeg)]) (rest := [.int r]) (bytes := cX8_less) (maxL := 4) (ret := (some .int)) hC hl.1 (c_X8_less l g N qm M (xs (nI i + 1).toNatClampNeg) (xs (nI i + 2).toNatClampNeg) r M' h8) rfl hL_X8_less (by decide +kernel) rfl rfl ⟨Nat.le_of_ble_eq_true rfl, Nat.le_of_ble_eq_true rfl⟩ rfl rfl rfl (Nat.le_of_ble_eq_true rfl) (show cells + 0 ≤ 600000 ∧ slots + 0 ≤ 7302250 by omega) dL_law_259 hP hD hS hA (pr2 _ _ _) (fun H locs hP hD hS => ?_)
  refine lv_icmp_eq (tgt := 1035) hx hb dL_law_262 (by decide) (fun _ => ?_) (fun q => absurd rfl q)
  refine W.widen (k := C1) (n := S1) (by omega) (by omega) ?_
  exact K O' S T P D E B M' f I0 I1 H locs ls (hLI.go hI2 hR2 hK2) (wp_perm (pr2 _ _ _) hP) (wd_perm (pr2 _ _ _) hD) hS hl
set_option maxRecDepth 100000 in
set_option maxHeartbeats 1000000 in
theorem lc_sort {p : Program} {l : Launch} {e : Env} {s : State} {m : MethodId} {below : List Frame} {meth : Method} {c : Code} {Q : State → Prop} {g : GG} {b L i C1 S1 : Nat} {xs : Nat → Int32} (N : Nat) (hN : 2000 ≤ N) (hC : Cx p s m #[Value.ref b] c RL cL_law 4 lw_tbl g) (hX : va_X b L xs s s.heap) (hbl : b < s.heap.size) (hi : i + 6 ≤ L) (hL : L ≤ 3072) (hroom : C1 ≤ 600000 ∧ S1 ≤ 7302250) (q1 q2 q3 q4 q5 q6 q7 q8 q9 qm : Nat → Nat) (K : LK p l e s m below meth c Q g b i C1 S1 q1 q2 q3 q4 q5 q6 q7 q8 q9 qm) : ∀ (O S T P D E B M : St) (f : Nat → Option Nat) (I0 I1 : Img) (H : Heap) (locs : List Loc) (ls : Array Slot) (cells slots : Nat), cells + 14 ≤ C1 → slots + 113 ≤ S1 → LI O S T P M f I0 I1 → va_P g.1 vwCl (LW g q1 q2 q3 q4 q5 q6 q7 q8 q9 qm O S T P D E B M f I0 I1) H → va_D (fun q : Nat => s.heap.size ≤ q) (LW g q1 q2 q3 q4 q5 q6 q7 q8 q9 qm O S T P D E B M f I0 I1) → va_S (fun q : Nat => s.heap.size ≤ q) s.heap H locs → lv_has ls 4 [(0, .ref b), (1, .ref (q1 100)), (2, .ref (qm 100)), (3, .int (nI i))] → W p l e room_1 s m #[Value.ref b] below meth c H locs cells slots Q (F0 m 267 ls []) := by
  have hx := hC.1.1
  have hb := hC.1.2.1
  have hA : ∀ q : Nat, s.heap.size ≤ q → (fun q : Nat => s.heap.size ≤ q) q := fun _ h => h
  have hbA : ¬ (fun q : Nat => s.heap.size ≤ q) b := Nat.not_le.mpr hbl
  intro O S T P D E B M f I0 I1 H locs ls cells slots hc1 hs1 hLI hP hD hS hl
  obtain ⟨⟨hI, hR⟩, hG0, hG1⟩ := id hLI
  have hin1 : vp_in (nI i + 1) L := by rw [show nI i + 1 = nI (i + 1) from nI_add i 1]; exact vp_in_nI (by omega) (by omega)
  have hin2 : vp_in (nI i + 2) L := by rw [show nI i + 2 = nI (i + 2) from nI_add i 2]; exact vp_in_nI (by omega) (by omega)
  have hin3 : vp_in (nI i + 3) L := by rw [show nI i + 3 = nI (i + 3) from nI_add i 3]; exact vp_in_nI (by omega) (by omega)
  have hin4 : vp_in (nI i + 4) L := by rw [show nI i + 4 = nI (i + 4) from nI_add i 4]; exact vp_in_nI (by omega) (by omega)
  obtain ⟨r, S', M', h7, h8, hI2, hR2, hK2⟩ := op_sort N hN D E B hI hR (xs (nI i + 1).toNatClampNeg) (xs (nI i + 2).toNatClampNeg) (xs (nI i + 3).toNatClampNeg) (xs (nI i + 4).toNatClampNeg)
  refine lv_aload_n hx hb dL_law_267 rfl (lv_at hl 1 rfl) ?_
  refine lv_aload_n hx hb dL_law_268 rfl (lv_at hl 0 rfl) ?_
  refine lv_iload_n hx hb dL_law_269 rfl (lv_at hl 3 rfl) ?_
  refine lv_iconst (v := 1) hx hb dL_law_270 (by decide) ?_
  refine lv_iadd hx hb dL_law_271 ?_
  refine va_sld hx hb hX hbl hbA hS hin1 dL_law_272 ?_
  refine lv_aload_n hx hb dL_law_273 rfl (lv_at hl 0 rfl) ?_
  refine lv_iload_n hx hb dL_law_274 rfl (lv_at hl 3 rfl) ?_
  refine lv_iconst (v := 2) hx hb dL_law_275 (by decide) ?_
  refine lv_iadd hx hb dL_law_276 ?_
  refine va_sld hx hb hX hbl hbA hS hin2 dL_law_277 ?_
  refine lv_aload_n hx hb dL_law_278 rfl (lv_at hl 0 rfl) ?_
  refine lv_iload_n hx hb dL_law_279 rfl (lv_at hl 3 rfl) ?_
  refine lv_iconst (v := 3) hx hb dL_law_280 (by decide) ?_
  refine lv_iadd hx hb dL_law_281 ?_
  refine va_sld hx hb hX hbl hbA hS hin3 dL_law_282 ?_
  refine lv_aload_n hx hb dL_law_283 rfl (lv_at hl 0 rfl) ?_
  refine lv_iload_n hx hb dL_law_284 rfl (lv_at hl 3 rfl) ?_
  refine lv_iconst (v := 4) hx hb dL_law_285 (by decide) ?_
  refine lv_iadd hx hb dL_law_286 ?_
  refine va_sld hx hb hX hbl hbA hS hin4 dL_law_287 ?_
  refine k_pVi (C := RX7) (ci := 7) (qr := 0) (n := 4) (As := [.int (xs (nI i + 1).toNatClampNeg), .int (xs (nI i + 2).toNatClampNeg), .int (xs (nI i + 3).toNatClampNeg), .int (xs (nI i + 4).toNatClampNeg)]) (rest := []) (bytes := cX7_sort) (maxL := 6) (ret := (some .int)) hC hl.1 (c_X7_sort l g N q1 q2 q3 q4 q5 q6 q7 q8 q9 O S T P D E B (xs (nI i + 1).toNatClampNeg) (xs (nI i + 2).toNatClampNeg) (xs (nI i + 3).toNatClampNeg) (xs (nI i + 4).toNatClampNeg) r S' h7) rfl hL_X7_sort (by decide +kernel) rfl rfl ⟨Nat.le_of_ble_eq_true rfl, Nat.le_of_ble_eq_true rfl⟩ rfl rfl rfl (Nat.le_of_ble_eq_true rfl) (show cells + 0 ≤ 600000 ∧ slots + 0 ≤ 7302250 by omega) dL_law_288 hP hD hS hA (List.Perm.refl _) (fun H locs hP hD hS => ?_)
  refine lv_aload_n hx hb dL_law_291 rfl (lv_at hl 2 rfl) ?_
  refine lv_aload_n hx hb dL_law_292 rfl (lv_at hl 0 rfl) ?_
  refine lv_iload_n hx hb dL_law_293 rfl (lv_at hl 3 rfl) ?_
  refine lv_iconst (v := 1) hx hb dL_law_294 (by decide) ?_
  refine lv_iadd hx hb dL_law_295 ?_
  refine va_sld hx hb hX hbl hbA hS hin1 dL_law_296 ?_
  refine lv_aload_n hx hb dL_law_297 rfl (lv_at hl 0 rfl) ?_
  refine lv_iload_n hx hb dL_law_298 rfl (lv_at hl 3 rfl) ?_
  refine lv_iconst (v := 2) hx hb dL_law_299 (by decide) ?_
  refine lv_iadd hx hb dL_law_300 ?_
  refine va_sld hx hb hX hbl hbA hS hin2 dL_law_301 ?_
  refine lv_aload_n hx hb dL_law_302 rfl (lv_at hl 0 rfl) ?_
  refine lv_iload_n hx hb dL_law_303 rfl (lv_at hl 3 rfl) ?_
  refine lv_iconst (v := 3) hx hb dL_law_304 (by decide) ?_
  refine lv_iadd hx hb dL_law_305 ?_
  refine va_sld hx hb hX hbl hbA hS hin3 dL_law_306 ?_
  refine lv_aload_n hx hb dL_law_307 rfl (lv_at hl 0 rfl) ?_
  refine lv_iload_n hx hb dL_law_308 rfl (lv_at hl 3 rfl) ?_
  refine lv_iconst (v := 4) hx hb dL_law_309 (by decide) ?_
  refine lv_iadd hx hb dL_law_310 ?_
  refine va_sld hx hb hX hbl hbA hS hin4 dL_law_311 ?_
  refine k_pVi (C := RX8) (ci := 8) (qr := 0) (n := 4) (As := [.int (xs (nI i + 1).toNatClampNeg), .int (xs (nI i + 2).toNatClampNeg), .int (xs (nI i + 3).toNatClampNeg), .int (xs (nI i + 4).toNatClampNeg)]) (rest := [.int r]) (bytes := cX8_sort) (maxL := 5) (ret := (some .int)) hC hl.1 (c_X8_sort l g N qm M (xs (nI i + 1).toNatClampNeg) (xs (nI i + 2).toNatClampNeg) (xs (nI i + 3).toNatClampNeg) (xs (nI i + 4).toNatClampNeg) r M' h8) rfl hL_X8_sort (by decide +kernel) rfl rfl ⟨Nat.le_of_ble_eq_true rfl, Nat.le_of_ble_eq_true rfl⟩ rfl rfl rfl (Nat.le_of_ble_eq_true rfl) (show cells + 0 ≤ 600000 ∧ slots + 0 ≤ 7302250 by omega) dL_law_312 hP hD hS hA (pr2 _ _ _) (fun H locs hP hD hS => ?_)
  refine lv_icmp_eq (tgt := 1035) hx hb dL_law_315 (by decide) (fun _ => ?_) (fun q => absurd rfl q)
  refine W.widen (k := C1) (n := S1) (by omega) (by omega) ?_
  exact K O S' T P D E B M' f I0 I1 H locs ls (hLI.go hI2 hR2 hK2) (wp_perm (pr2 _ _ _) hP) (wd_perm (pr2 _ _ _) hD) hS hl
set_option maxRecDepth 100000 in
set_option maxHeartbeats 1000000 in
theorem lc_apart {p : Program} {l : Launch} {e : Env} {s : State} {m : MethodId} {below : List Frame} {meth : Method} {c : Code} {Q : State → Prop} {g : GG} {b L i C1 S1 : Nat} {xs : Nat → Int32} (N : Nat) (hN : 2000 ≤ N) (hC : Cx p s m #[Value.ref b] c RL cL_law 4 lw_tbl g) (hX : va_X b L xs s s.heap) (hbl : b < s.heap.size) (hi : i + 6 ≤ L) (hL : L ≤ 3072) (hroom : C1 ≤ 600000 ∧ S1 ≤ 7302250) (q1 q2 q3 q4 q5 q6 q7 q8 q9 qm : Nat → Nat) (K : LK p l e s m below meth c Q g b i C1 S1 q1 q2 q3 q4 q5 q6 q7 q8 q9 qm) : ∀ (O S T P D E B M : St) (f : Nat → Option Nat) (I0 I1 : Img) (H : Heap) (locs : List Loc) (ls : Array Slot) (cells slots : Nat), cells + 14 ≤ C1 → slots + 113 ≤ S1 → LI O S T P M f I0 I1 → va_P g.1 vwCl (LW g q1 q2 q3 q4 q5 q6 q7 q8 q9 qm O S T P D E B M f I0 I1) H → va_D (fun q : Nat => s.heap.size ≤ q) (LW g q1 q2 q3 q4 q5 q6 q7 q8 q9 qm O S T P D E B M f I0 I1) → va_S (fun q : Nat => s.heap.size ≤ q) s.heap H locs → lv_has ls 4 [(0, .ref b), (1, .ref (q1 100)), (2, .ref (qm 100)), (3, .int (nI i))] → W p l e room_1 s m #[Value.ref b] below meth c H locs cells slots Q (F0 m 320 ls []) := by
  have hx := hC.1.1
  have hb := hC.1.2.1
  have hA : ∀ q : Nat, s.heap.size ≤ q → (fun q : Nat => s.heap.size ≤ q) q := fun _ h => h
  have hbA : ¬ (fun q : Nat => s.heap.size ≤ q) b := Nat.not_le.mpr hbl
  intro O S T P D E B M f I0 I1 H locs ls cells slots hc1 hs1 hLI hP hD hS hl
  obtain ⟨⟨hI, hR⟩, hG0, hG1⟩ := id hLI
  have hin1 : vp_in (nI i + 1) L := by rw [show nI i + 1 = nI (i + 1) from nI_add i 1]; exact vp_in_nI (by omega) (by omega)
  have hin2 : vp_in (nI i + 2) L := by rw [show nI i + 2 = nI (i + 2) from nI_add i 2]; exact vp_in_nI (by omega) (by omega)
  have hin3 : vp_in (nI i + 3) L := by rw [show nI i + 3 = nI (i + 3) from nI_add i 3]; exact vp_in_nI (by omega) (by omega)
  by_cases c3 : (xs (nI i + 3).toNatClampNeg) = 0
  · obtain ⟨r, S', M', h7, h8, hI2, hR2, hK2⟩ := op_apart N D E B hI hR (xs (nI i + 1).toNatClampNeg) (xs (nI i + 2).toNatClampNeg) (0 : Int32)
    refine lv_aload_n hx hb dL_law_320 rfl (lv_at hl 1 rfl) ?_
    refine lv_aload_n hx hb dL_law_321 rfl (lv_at hl 0 rfl) ?_
    refine lv_iload_n hx hb dL_law_322 rfl (lv_at hl 3 rfl) ?_
    refine lv_iconst (v := 1) hx hb dL_law_323 (by decide) ?_
    refine lv_iadd hx hb dL_law_324 ?_
    refine va_sld hx hb hX hbl hbA hS hin1 dL_law_325 ?_
    refine lv_aload_n hx hb dL_law_326 rfl (lv_at hl 0 rfl) ?_
    refine lv_iload_n hx hb dL_law_327 rfl (lv_at hl 3 rfl) ?_
    refine lv_iconst (v := 2) hx hb dL_law_328 (by decide) ?_
    refine lv_iadd hx hb dL_law_329 ?_
    refine va_sld hx hb hX hbl hbA hS hin2 dL_law_330 ?_
    refine lv_aload_n hx hb dL_law_331 rfl (lv_at hl 0 rfl) ?_
    refine lv_iload_n hx hb dL_law_332 rfl (lv_at hl 3 rfl) ?_
    refine lv_iconst (v := 3) hx hb dL_law_333 (by decide) ?_
    refine lv_iadd hx hb dL_law_334 ?_
    refine va_sld hx hb hX hbl hbA hS hin3 dL_law_335 ?_
    refine lv_if_eq (tgt := 343) hx hb dL_law_336 (by decide) (fun _ => ?_) (fun q => absurd c3 q)
    refine lv_iconst (v := 0) hx hb dL_law_343 (by decide) ?_
    refine k_pVi (C := RX7) (ci := 7) (qr := 0) (n := 3) (As := [.int (xs (nI i + 1).toNatClampNeg), .int (xs (nI i + 2).toNatClampNeg), .int (0 : Int32)]) (rest := []) (bytes := cX7_apart) (maxL := 4) (ret := (some .int)) hC hl.1 (c_X7_apart l g N q1 q2 q3 q4 q5 q6 q7 q8 q9 O S T P D E B (xs (nI i + 1).toNatClampNeg) (xs (nI i + 2).toNatClampNeg) (0 : Int32) r S' h7) rfl hL_X7_apart (by decide +kernel) rfl rfl ⟨Nat.le_of_ble_eq_true rfl, Nat.le_of_ble_eq_true rfl⟩ rfl rfl rfl (Nat.le_of_ble_eq_true rfl) (show cells + 0 ≤ 600000 ∧ slots + 0 ≤ 7302250 by omega) dL_law_344 hP hD hS hA (List.Perm.refl _) (fun H locs hP hD hS => ?_)
    refine lv_aload_n hx hb dL_law_347 rfl (lv_at hl 2 rfl) ?_
    refine lv_aload_n hx hb dL_law_348 rfl (lv_at hl 0 rfl) ?_
    refine lv_iload_n hx hb dL_law_349 rfl (lv_at hl 3 rfl) ?_
    refine lv_iconst (v := 1) hx hb dL_law_350 (by decide) ?_
    refine lv_iadd hx hb dL_law_351 ?_
    refine va_sld hx hb hX hbl hbA hS hin1 dL_law_352 ?_
    refine lv_aload_n hx hb dL_law_353 rfl (lv_at hl 0 rfl) ?_
    refine lv_iload_n hx hb dL_law_354 rfl (lv_at hl 3 rfl) ?_
    refine lv_iconst (v := 2) hx hb dL_law_355 (by decide) ?_
    refine lv_iadd hx hb dL_law_356 ?_
    refine va_sld hx hb hX hbl hbA hS hin2 dL_law_357 ?_
    refine lv_aload_n hx hb dL_law_358 rfl (lv_at hl 0 rfl) ?_
    refine lv_iload_n hx hb dL_law_359 rfl (lv_at hl 3 rfl) ?_
    refine lv_iconst (v := 3) hx hb dL_law_360 (by decide) ?_
    refine lv_iadd hx hb dL_law_361 ?_
    refine va_sld hx hb hX hbl hbA hS hin3 dL_law_362 ?_
    refine lv_if_eq (tgt := 370) hx hb dL_law_363 (by decide) (fun _ => ?_) (fun q => absurd c3 q)
    refine lv_iconst (v := 0) hx hb dL_law_370 (by decide) ?_
    refine k_pVi (C := RX8) (ci := 8) (qr := 0) (n := 3) (As := [.int (xs (nI i + 1).toNatClampNeg), .int (xs (nI i + 2).toNatClampNeg), .int (0 : Int32)]) (rest := [.int r]) (bytes := cX8_apart) (maxL := 4) (ret := (some .int)) hC hl.1 (c_X8_apart l g N qm M (xs (nI i + 1).toNatClampNeg) (xs (nI i + 2).toNatClampNeg) (0 : Int32) r M' h8) rfl hL_X8_apart (by decide +kernel) rfl rfl ⟨Nat.le_of_ble_eq_true rfl, Nat.le_of_ble_eq_true rfl⟩ rfl rfl rfl (Nat.le_of_ble_eq_true rfl) (show cells + 0 ≤ 600000 ∧ slots + 0 ≤ 7302250 by omega) dL_law_371 hP hD hS hA (pr2 _ _ _) (fun H locs hP hD hS => ?_)
    refine lv_icmp_eq (tgt := 1035) hx hb dL_law_374 (by decide) (fun _ => ?_) (fun q => absurd rfl q)
    refine W.widen (k := C1) (n := S1) (by omega) (by omega) ?_
    exact K O S' T P D E B M' f I0 I1 H locs ls (hLI.go hI2 hR2 hK2) (wp_perm (pr2 _ _ _) hP) (wd_perm (pr2 _ _ _) hD) hS hl
  · obtain ⟨r, S', M', h7, h8, hI2, hR2, hK2⟩ := op_apart N D E B hI hR (xs (nI i + 1).toNatClampNeg) (xs (nI i + 2).toNatClampNeg) (1 : Int32)
    refine lv_aload_n hx hb dL_law_320 rfl (lv_at hl 1 rfl) ?_
    refine lv_aload_n hx hb dL_law_321 rfl (lv_at hl 0 rfl) ?_
    refine lv_iload_n hx hb dL_law_322 rfl (lv_at hl 3 rfl) ?_
    refine lv_iconst (v := 1) hx hb dL_law_323 (by decide) ?_
    refine lv_iadd hx hb dL_law_324 ?_
    refine va_sld hx hb hX hbl hbA hS hin1 dL_law_325 ?_
    refine lv_aload_n hx hb dL_law_326 rfl (lv_at hl 0 rfl) ?_
    refine lv_iload_n hx hb dL_law_327 rfl (lv_at hl 3 rfl) ?_
    refine lv_iconst (v := 2) hx hb dL_law_328 (by decide) ?_
    refine lv_iadd hx hb dL_law_329 ?_
    refine va_sld hx hb hX hbl hbA hS hin2 dL_law_330 ?_
    refine lv_aload_n hx hb dL_law_331 rfl (lv_at hl 0 rfl) ?_
    refine lv_iload_n hx hb dL_law_332 rfl (lv_at hl 3 rfl) ?_
    refine lv_iconst (v := 3) hx hb dL_law_333 (by decide) ?_
    refine lv_iadd hx hb dL_law_334 ?_
    refine va_sld hx hb hX hbl hbA hS hin3 dL_law_335 ?_
    refine lv_if_eq (tgt := 343) hx hb dL_law_336 (by decide) (fun q => absurd q c3) (fun _ => ?_)
    refine lv_iconst (v := 1) hx hb dL_law_339 (by decide) ?_
    refine lv_goto (tgt := 344) hx hb dL_law_340 (by decide) ?_
    refine k_pVi (C := RX7) (ci := 7) (qr := 0) (n := 3) (As := [.int (xs (nI i + 1).toNatClampNeg), .int (xs (nI i + 2).toNatClampNeg), .int (1 : Int32)]) (rest := []) (bytes := cX7_apart) (maxL := 4) (ret := (some .int)) hC hl.1 (c_X7_apart l g N q1 q2 q3 q4 q5 q6 q7 q8 q9 O S T P D E B (xs (nI i + 1).toNatClampNeg) (xs (nI i + 2).toNatClampNeg) (1 : Int32) r S' h7) rfl hL_X7_apart (by decide +kernel) rfl rfl ⟨Nat.le_of_ble_eq_true rfl, Nat.le_of_ble_eq_true rfl⟩ rfl rfl rfl (Nat.le_of_ble_eq_true rfl) (show cells + 0 ≤ 600000 ∧ slots + 0 ≤ 7302250 by omega) dL_law_344 hP hD hS hA (List.Perm.refl _) (fun H locs hP hD hS => ?_)
    refine lv_aload_n hx hb dL_law_347 rfl (lv_at hl 2 rfl) ?_
    refine lv_aload_n hx hb dL_law_348 rfl (lv_at hl 0 rfl) ?_
    refine lv_iload_n hx hb dL_law_349 rfl (lv_at hl 3 rfl) ?_
    refine lv_iconst (v := 1) hx hb dL_law_350 (by decide) ?_
    refine lv_iadd hx hb dL_law_351 ?_
    refine va_sld hx hb hX hbl hbA hS hin1 dL_law_352 ?_
    refine lv_aload_n hx hb dL_law_353 rfl (lv_at hl 0 rfl) ?_
    refine lv_iload_n hx hb dL_law_354 rfl (lv_at hl 3 rfl) ?_
    refine lv_iconst (v := 2) hx hb dL_law_355 (by decide) ?_
    refine lv_iadd hx hb dL_law_356 ?_
    refine va_sld hx hb hX hbl hbA hS hin2 dL_law_357 ?_
    refine lv_aload_n hx hb dL_law_358 rfl (lv_at hl 0 rfl) ?_
    refine lv_iload_n hx hb dL_law_359 rfl (lv_at hl 3 rfl) ?_
    refine lv_iconst (v := 3) hx hb dL_law_360 (by decide) ?_
    refine lv_iadd hx hb dL_law_361 ?_
    refine va_sld hx hb hX hbl hbA hS hin3 dL_law_362 ?_
    refine lv_if_eq (tgt := 370) hx hb dL_law_363 (by decide) (fun q => absurd q c3) (fun _ => ?_)
    refine lv_iconst (v := 1) hx hb dL_law_366 (by decide) ?_
    refine lv_goto (tgt := 371) hx hb dL_law_367 (by decide) ?_
    refine k_pVi (C := RX8) (ci := 8) (qr := 0) (n := 3) (As := [.int (xs (nI i + 1).toNatClampNeg), .int (xs (nI i + 2).toNatClampNeg), .int (1 : Int32)]) (rest := [.int r]) (bytes := cX8_apart) (maxL := 4) (ret := (some .int)) hC hl.1 (c_X8_apart l g N qm M (xs (nI i + 1).toNatClampNeg) (xs (nI i + 2).toNatClampNeg) (1 : Int32) r M' h8) rfl hL_X8_apart (by decide +kernel) rfl rfl ⟨Nat.le_of_ble_eq_true rfl, Nat.le_of_ble_eq_true rfl⟩ rfl rfl rfl (Nat.le_of_ble_eq_true rfl) (show cells + 0 ≤ 600000 ∧ slots + 0 ≤ 7302250 by omega) dL_law_371 hP hD hS hA (pr2 _ _ _) (fun H locs hP hD hS => ?_)
    refine lv_icmp_eq (tgt := 1035) hx hb dL_law_374 (by decide) (fun _ => ?_) (fun q => absurd rfl q)
    refine W.widen (k := C1) (n := S1) (by omega) (by omega) ?_
    exact K O S' T P D E B M' f I0 I1 H locs ls (hLI.go hI2 hR2 hK2) (wp_perm (pr2 _ _ _) hP) (wd_perm (pr2 _ _ _) hD) hS hl
set_option maxRecDepth 100000 in
set_option maxHeartbeats 1000000 in
theorem lc_say {p : Program} {l : Launch} {e : Env} {s : State} {m : MethodId} {below : List Frame} {meth : Method} {c : Code} {Q : State → Prop} {g : GG} {b L i C1 S1 : Nat} {xs : Nat → Int32} (N : Nat) (hN : 2000 ≤ N) (hC : Cx p s m #[Value.ref b] c RL cL_law 4 lw_tbl g) (hX : va_X b L xs s s.heap) (hbl : b < s.heap.size) (hi : i + 6 ≤ L) (hL : L ≤ 3072) (hroom : C1 ≤ 600000 ∧ S1 ≤ 7302250) (q1 q2 q3 q4 q5 q6 q7 q8 q9 qm : Nat → Nat) (K : LK p l e s m below meth c Q g b i C1 S1 q1 q2 q3 q4 q5 q6 q7 q8 q9 qm) : ∀ (O S T P D E B M : St) (f : Nat → Option Nat) (I0 I1 : Img) (H : Heap) (locs : List Loc) (ls : Array Slot) (cells slots : Nat), cells + 14 ≤ C1 → slots + 113 ≤ S1 → LI O S T P M f I0 I1 → va_P g.1 vwCl (LW g q1 q2 q3 q4 q5 q6 q7 q8 q9 qm O S T P D E B M f I0 I1) H → va_D (fun q : Nat => s.heap.size ≤ q) (LW g q1 q2 q3 q4 q5 q6 q7 q8 q9 qm O S T P D E B M f I0 I1) → va_S (fun q : Nat => s.heap.size ≤ q) s.heap H locs → lv_has ls 4 [(0, .ref b), (1, .ref (q1 100)), (2, .ref (qm 100)), (3, .int (nI i))] → W p l e room_1 s m #[Value.ref b] below meth c H locs cells slots Q (F0 m 379 ls []) := by
  have hx := hC.1.1
  have hb := hC.1.2.1
  have hA : ∀ q : Nat, s.heap.size ≤ q → (fun q : Nat => s.heap.size ≤ q) q := fun _ h => h
  have hbA : ¬ (fun q : Nat => s.heap.size ≤ q) b := Nat.not_le.mpr hbl
  intro O S T P D E B M f I0 I1 H locs ls cells slots hc1 hs1 hLI hP hD hS hl
  obtain ⟨⟨hI, hR⟩, hG0, hG1⟩ := id hLI
  have hin1 : vp_in (nI i + 1) L := by rw [show nI i + 1 = nI (i + 1) from nI_add i 1]; exact vp_in_nI (by omega) (by omega)
  obtain ⟨r, P', M', h7, h8, hI2, hR2, hK2⟩ := op_say N D E B hI hR (xs (nI i + 1).toNatClampNeg)
  refine lv_aload_n hx hb dL_law_379 rfl (lv_at hl 1 rfl) ?_
  refine lv_aload_n hx hb dL_law_380 rfl (lv_at hl 0 rfl) ?_
  refine lv_iload_n hx hb dL_law_381 rfl (lv_at hl 3 rfl) ?_
  refine lv_iconst (v := 1) hx hb dL_law_382 (by decide) ?_
  refine lv_iadd hx hb dL_law_383 ?_
  refine va_sld hx hb hX hbl hbA hS hin1 dL_law_384 ?_
  refine k_pVi (C := RX7) (ci := 7) (qr := 0) (n := 1) (As := [.int (xs (nI i + 1).toNatClampNeg)]) (rest := []) (bytes := cX7_say) (maxL := 2) (ret := (some .int)) hC hl.1 (c_X7_say l g N q1 q2 q3 q4 q5 q6 q7 q8 q9 O S T P D E B (xs (nI i + 1).toNatClampNeg) r P' h7) rfl hL_X7_say (by decide +kernel) rfl rfl ⟨Nat.le_of_ble_eq_true rfl, Nat.le_of_ble_eq_true rfl⟩ rfl rfl rfl (Nat.le_of_ble_eq_true rfl) (show cells + 0 ≤ 600000 ∧ slots + 0 ≤ 7302250 by omega) dL_law_385 hP hD hS hA (List.Perm.refl _) (fun H locs hP hD hS => ?_)
  refine lv_aload_n hx hb dL_law_388 rfl (lv_at hl 2 rfl) ?_
  refine lv_aload_n hx hb dL_law_389 rfl (lv_at hl 0 rfl) ?_
  refine lv_iload_n hx hb dL_law_390 rfl (lv_at hl 3 rfl) ?_
  refine lv_iconst (v := 1) hx hb dL_law_391 (by decide) ?_
  refine lv_iadd hx hb dL_law_392 ?_
  refine va_sld hx hb hX hbl hbA hS hin1 dL_law_393 ?_
  refine k_pVi (C := RX8) (ci := 8) (qr := 0) (n := 1) (As := [.int (xs (nI i + 1).toNatClampNeg)]) (rest := [.int r]) (bytes := cX8_say) (maxL := 2) (ret := (some .int)) hC hl.1 (c_X8_say l g N qm M (xs (nI i + 1).toNatClampNeg) r M' h8) rfl hL_X8_say (by decide +kernel) rfl rfl ⟨Nat.le_of_ble_eq_true rfl, Nat.le_of_ble_eq_true rfl⟩ rfl rfl rfl (Nat.le_of_ble_eq_true rfl) (show cells + 0 ≤ 600000 ∧ slots + 0 ≤ 7302250 by omega) dL_law_394 hP hD hS hA (pr2 _ _ _) (fun H locs hP hD hS => ?_)
  refine lv_icmp_eq (tgt := 1035) hx hb dL_law_397 (by decide) (fun _ => ?_) (fun q => absurd rfl q)
  refine W.widen (k := C1) (n := S1) (by omega) (by omega) ?_
  exact K O S T P' D E B M' f I0 I1 H locs ls (hLI.go hI2 hR2 hK2) (wp_perm (pr2 _ _ _) hP) (wd_perm (pr2 _ _ _) hD) hS hl
set_option maxRecDepth 100000 in
set_option maxHeartbeats 1000000 in
theorem lc_wipe {p : Program} {l : Launch} {e : Env} {s : State} {m : MethodId} {below : List Frame} {meth : Method} {c : Code} {Q : State → Prop} {g : GG} {b L i C1 S1 : Nat} {xs : Nat → Int32} (N : Nat) (hN : 2000 ≤ N) (hC : Cx p s m #[Value.ref b] c RL cL_law 4 lw_tbl g) (hX : va_X b L xs s s.heap) (hbl : b < s.heap.size) (hi : i + 6 ≤ L) (hL : L ≤ 3072) (hroom : C1 ≤ 600000 ∧ S1 ≤ 7302250) (q1 q2 q3 q4 q5 q6 q7 q8 q9 qm : Nat → Nat) (K : LK p l e s m below meth c Q g b i C1 S1 q1 q2 q3 q4 q5 q6 q7 q8 q9 qm) : ∀ (O S T P D E B M : St) (f : Nat → Option Nat) (I0 I1 : Img) (H : Heap) (locs : List Loc) (ls : Array Slot) (cells slots : Nat), cells + 14 ≤ C1 → slots + 113 ≤ S1 → LI O S T P M f I0 I1 → va_P g.1 vwCl (LW g q1 q2 q3 q4 q5 q6 q7 q8 q9 qm O S T P D E B M f I0 I1) H → va_D (fun q : Nat => s.heap.size ≤ q) (LW g q1 q2 q3 q4 q5 q6 q7 q8 q9 qm O S T P D E B M f I0 I1) → va_S (fun q : Nat => s.heap.size ≤ q) s.heap H locs → lv_has ls 4 [(0, .ref b), (1, .ref (q1 100)), (2, .ref (qm 100)), (3, .int (nI i))] → W p l e room_1 s m #[Value.ref b] below meth c H locs cells slots Q (F0 m 402 ls []) := by
  have hx := hC.1.1
  have hb := hC.1.2.1
  have hA : ∀ q : Nat, s.heap.size ≤ q → (fun q : Nat => s.heap.size ≤ q) q := fun _ h => h
  have hbA : ¬ (fun q : Nat => s.heap.size ≤ q) b := Nat.not_le.mpr hbl
  intro O S T P D E B M f I0 I1 H locs ls cells slots hc1 hs1 hLI hP hD hS hl
  obtain ⟨⟨hI, hR⟩, hG0, hG1⟩ := id hLI
  obtain ⟨r, P', M', h7, h8, hI2, hR2, hK2⟩ := op_wipe N D E B hI hR
  refine lv_aload_n hx hb dL_law_402 rfl (lv_at hl 1 rfl) ?_
  refine k_pVi (C := RX7) (ci := 7) (qr := 0) (n := 0) (As := []) (rest := []) (bytes := cX7_wipe) (maxL := 2) (ret := (some .int)) hC hl.1 (c_X7_wipe l g N q1 q2 q3 q4 q5 q6 q7 q8 q9 O S T P D E B r P' h7) rfl hL_X7_wipe (by decide +kernel) rfl rfl ⟨Nat.le_of_ble_eq_true rfl, Nat.le_of_ble_eq_true rfl⟩ rfl rfl rfl (Nat.le_of_ble_eq_true rfl) (show cells + 0 ≤ 600000 ∧ slots + 0 ≤ 7302250 by omega) dL_law_403 hP hD hS hA (List.Perm.refl _) (fun H locs hP hD hS => ?_)
  refine lv_aload_n hx hb dL_law_406 rfl (lv_at hl 2 rfl) ?_
  refine k_pVi (C := RX8) (ci := 8) (qr := 0) (n := 0) (As := []) (rest := [.int r]) (bytes := cX8_wipe) (maxL := 2) (ret := (some .int)) hC hl.1 (c_X8_wipe l g N qm M r M' h8) rfl hL_X8_wipe (by decide +kernel) rfl rfl ⟨Nat.le_of_ble_eq_true rfl, Nat.le_of_ble_eq_true rfl⟩ rfl rfl rfl (Nat.le_of_ble_eq_true rfl) (show cells + 0 ≤ 600000 ∧ slots + 0 ≤ 7302250 by omega) dL_law_407 hP hD hS hA (pr2 _ _ _) (fun H locs hP hD hS => ?_)
  refine lv_icmp_eq (tgt := 1035) hx hb dL_law_410 (by decide) (fun _ => ?_) (fun q => absurd rfl q)
  refine W.widen (k := C1) (n := S1) (by omega) (by omega) ?_
  exact K O S T P' D E B M' f I0 I1 H locs ls (hLI.go hI2 hR2 hK2) (wp_perm (pr2 _ _ _) hP) (wd_perm (pr2 _ _ _) hD) hS hl
set_option maxRecDepth 100000 in
set_option maxHeartbeats 1000000 in
theorem lc_fault {p : Program} {l : Launch} {e : Env} {s : State} {m : MethodId} {below : List Frame} {meth : Method} {c : Code} {Q : State → Prop} {g : GG} {b L i C1 S1 : Nat} {xs : Nat → Int32} (N : Nat) (hN : 2000 ≤ N) (hC : Cx p s m #[Value.ref b] c RL cL_law 4 lw_tbl g) (hX : va_X b L xs s s.heap) (hbl : b < s.heap.size) (hi : i + 6 ≤ L) (hL : L ≤ 3072) (hroom : C1 ≤ 600000 ∧ S1 ≤ 7302250) (q1 q2 q3 q4 q5 q6 q7 q8 q9 qm : Nat → Nat) (K : LK p l e s m below meth c Q g b i C1 S1 q1 q2 q3 q4 q5 q6 q7 q8 q9 qm) : ∀ (O S T P D E B M : St) (f : Nat → Option Nat) (I0 I1 : Img) (H : Heap) (locs : List Loc) (ls : Array Slot) (cells slots : Nat), cells + 14 ≤ C1 → slots + 113 ≤ S1 → LI O S T P M f I0 I1 → va_P g.1 vwCl (LW g q1 q2 q3 q4 q5 q6 q7 q8 q9 qm O S T P D E B M f I0 I1) H → va_D (fun q : Nat => s.heap.size ≤ q) (LW g q1 q2 q3 q4 q5 q6 q7 q8 q9 qm O S T P D E B M f I0 I1) → va_S (fun q : Nat => s.heap.size ≤ q) s.heap H locs → lv_has ls 4 [(0, .ref b), (1, .ref (q1 100)), (2, .ref (qm 100)), (3, .int (nI i))] → W p l e room_1 s m #[Value.ref b] below meth c H locs cells slots Q (F0 m 415 ls []) := by
  have hx := hC.1.1
  have hb := hC.1.2.1
  have hA : ∀ q : Nat, s.heap.size ≤ q → (fun q : Nat => s.heap.size ≤ q) q := fun _ h => h
  have hbA : ¬ (fun q : Nat => s.heap.size ≤ q) b := Nat.not_le.mpr hbl
  intro O S T P D E B M f I0 I1 H locs ls cells slots hc1 hs1 hLI hP hD hS hl
  obtain ⟨⟨hI, hR⟩, hG0, hG1⟩ := id hLI
  obtain ⟨r, M', h7, h8, hX2⟩ := op_fault N hN D E B hI hR
  refine lv_aload_n hx hb dL_law_415 rfl (lv_at hl 1 rfl) ?_
  refine k_pVi (C := RX7) (ci := 7) (qr := 0) (n := 0) (As := []) (rest := []) (bytes := cX7_fault) (maxL := 1) (ret := (some .int)) hC hl.1 (c_X7_fault l g N q1 q2 q3 q4 q5 q6 q7 q8 q9 O S T P D E B r h7) rfl hL_X7_fault (by decide +kernel) rfl rfl ⟨Nat.le_of_ble_eq_true rfl, Nat.le_of_ble_eq_true rfl⟩ rfl rfl rfl (Nat.le_of_ble_eq_true rfl) (show cells + 0 ≤ 600000 ∧ slots + 0 ≤ 7302250 by omega) dL_law_416 hP hD hS hA (List.Perm.refl _) (fun H locs hP hD hS => ?_)
  refine lv_aload_n hx hb dL_law_419 rfl (lv_at hl 2 rfl) ?_
  refine k_pVi (C := RX8) (ci := 8) (qr := 0) (n := 0) (As := []) (rest := [.int r]) (bytes := cX8_fault) (maxL := 5) (ret := (some .int)) hC hl.1 (c_X8_fault l g N qm M r M' h8) rfl hL_X8_fault (by decide +kernel) rfl rfl ⟨Nat.le_of_ble_eq_true rfl, Nat.le_of_ble_eq_true rfl⟩ rfl rfl rfl (Nat.le_of_ble_eq_true rfl) (show cells + 0 ≤ 600000 ∧ slots + 0 ≤ 7302250 by omega) dL_law_420 hP hD hS hA (pr2 _ _ _) (fun H locs hP hD hS => ?_)
  refine lv_icmp_eq (tgt := 1035) hx hb dL_law_423 (by decide) (fun _ => ?_) (fun q => absurd rfl q)
  refine W.widen (k := C1) (n := S1) (by omega) (by omega) ?_
  exact K O S T P D E B M' f I0 I1 H locs ls (hLI.go hI (hX2.R hR) hX2.2) (wp_perm (pr2 _ _ _) hP) (wd_perm (pr2 _ _ _) hD) hS hl
set_option maxRecDepth 100000 in
set_option maxHeartbeats 1000000 in
theorem lc_judge {p : Program} {l : Launch} {e : Env} {s : State} {m : MethodId} {below : List Frame} {meth : Method} {c : Code} {Q : State → Prop} {g : GG} {b L i C1 S1 : Nat} {xs : Nat → Int32} (N : Nat) (hN : 2000 ≤ N) (hC : Cx p s m #[Value.ref b] c RL cL_law 4 lw_tbl g) (hX : va_X b L xs s s.heap) (hbl : b < s.heap.size) (hi : i + 6 ≤ L) (hL : L ≤ 3072) (hroom : C1 ≤ 600000 ∧ S1 ≤ 7302250) (q1 q2 q3 q4 q5 q6 q7 q8 q9 qm : Nat → Nat) (K : LK p l e s m below meth c Q g b i C1 S1 q1 q2 q3 q4 q5 q6 q7 q8 q9 qm) : ∀ (O S T P D E B M : St) (f : Nat → Option Nat) (I0 I1 : Img) (H : Heap) (locs : List Loc) (ls : Array Slot) (cells slots : Nat), cells + 14 ≤ C1 → slots + 113 ≤ S1 → LI O S T P M f I0 I1 → va_P g.1 vwCl (LW g q1 q2 q3 q4 q5 q6 q7 q8 q9 qm O S T P D E B M f I0 I1) H → va_D (fun q : Nat => s.heap.size ≤ q) (LW g q1 q2 q3 q4 q5 q6 q7 q8 q9 qm O S T P D E B M f I0 I1) → va_S (fun q : Nat => s.heap.size ≤ q) s.heap H locs → lv_has ls 4 [(0, .ref b), (1, .ref (q1 100)), (2, .ref (qm 100)), (3, .int (nI i))] → W p l e room_1 s m #[Value.ref b] below meth c H locs cells slots Q (F0 m 428 ls []) := by
  have hx := hC.1.1
  have hb := hC.1.2.1
  have hA : ∀ q : Nat, s.heap.size ≤ q → (fun q : Nat => s.heap.size ≤ q) q := fun _ h => h
  have hbA : ¬ (fun q : Nat => s.heap.size ≤ q) b := Nat.not_le.mpr hbl
  intro O S T P D E B M f I0 I1 H locs ls cells slots hc1 hs1 hLI hP hD hS hl
  obtain ⟨⟨hI, hR⟩, hG0, hG1⟩ := id hLI
  have hin1 : vp_in (nI i + 1) L := by rw [show nI i + 1 = nI (i + 1) from nI_add i 1]; exact vp_in_nI (by omega) (by omega)
  obtain ⟨r, D', E', M', h7, h8, hR2, hK2⟩ := op_judge N hN D E B hI hR (xs (nI i + 1).toNatClampNeg)
  refine lv_aload_n hx hb dL_law_428 rfl (lv_at hl 1 rfl) ?_
  refine lv_aload_n hx hb dL_law_429 rfl (lv_at hl 0 rfl) ?_
  refine lv_iload_n hx hb dL_law_430 rfl (lv_at hl 3 rfl) ?_
  refine lv_iconst (v := 1) hx hb dL_law_431 (by decide) ?_
  refine lv_iadd hx hb dL_law_432 ?_
  refine va_sld hx hb hX hbl hbA hS hin1 dL_law_433 ?_
  refine k_pVi (C := RX7) (ci := 7) (qr := 0) (n := 1) (As := [.int (xs (nI i + 1).toNatClampNeg)]) (rest := []) (bytes := cX7_judge) (maxL := 3) (ret := (some .int)) hC hl.1 (c_X7_judge l g N q1 q2 q3 q4 q5 q6 q7 q8 q9 O S T P D E B (xs (nI i + 1).toNatClampNeg) r D' E' h7) rfl hL_X7_judge (by decide +kernel) rfl rfl ⟨Nat.le_of_ble_eq_true rfl, Nat.le_of_ble_eq_true rfl⟩ rfl rfl rfl (Nat.le_of_ble_eq_true rfl) (show cells + 0 ≤ 600000 ∧ slots + 0 ≤ 7302250 by omega) dL_law_434 hP hD hS hA (List.Perm.refl _) (fun H locs hP hD hS => ?_)
  refine lv_aload_n hx hb dL_law_437 rfl (lv_at hl 2 rfl) ?_
  refine lv_aload_n hx hb dL_law_438 rfl (lv_at hl 0 rfl) ?_
  refine lv_iload_n hx hb dL_law_439 rfl (lv_at hl 3 rfl) ?_
  refine lv_iconst (v := 1) hx hb dL_law_440 (by decide) ?_
  refine lv_iadd hx hb dL_law_441 ?_
  refine va_sld hx hb hX hbl hbA hS hin1 dL_law_442 ?_
  refine k_pVi (C := RX8) (ci := 8) (qr := 0) (n := 1) (As := [.int (xs (nI i + 1).toNatClampNeg)]) (rest := [.int r]) (bytes := cX8_judge) (maxL := 3) (ret := (some .int)) hC hl.1 (c_X8_judge l g N qm M (xs (nI i + 1).toNatClampNeg) r M' h8) rfl hL_X8_judge (by decide +kernel) rfl rfl ⟨Nat.le_of_ble_eq_true rfl, Nat.le_of_ble_eq_true rfl⟩ rfl rfl rfl (Nat.le_of_ble_eq_true rfl) (show cells + 0 ≤ 600000 ∧ slots + 0 ≤ 7302250 by omega) dL_law_443 hP hD hS hA (pr2 _ _ _) (fun H locs hP hD hS => ?_)
  refine lv_icmp_eq (tgt := 1035) hx hb dL_law_446 (by decide) (fun _ => ?_) (fun q => absurd rfl q)
  refine W.widen (k := C1) (n := S1) (by omega) (by omega) ?_
  exact K O S T P D' E' B M' f I0 I1 H locs ls (hLI.go hI hR2 hK2) (wp_perm (pr2 _ _ _) hP) (wd_perm (pr2 _ _ _) hD) hS hl
set_option maxRecDepth 100000 in
set_option maxHeartbeats 1000000 in
theorem lc_heat {p : Program} {l : Launch} {e : Env} {s : State} {m : MethodId} {below : List Frame} {meth : Method} {c : Code} {Q : State → Prop} {g : GG} {b L i C1 S1 : Nat} {xs : Nat → Int32} (N : Nat) (hN : 2000 ≤ N) (hC : Cx p s m #[Value.ref b] c RL cL_law 4 lw_tbl g) (hX : va_X b L xs s s.heap) (hbl : b < s.heap.size) (hi : i + 6 ≤ L) (hL : L ≤ 3072) (hroom : C1 ≤ 600000 ∧ S1 ≤ 7302250) (q1 q2 q3 q4 q5 q6 q7 q8 q9 qm : Nat → Nat) (K : LK p l e s m below meth c Q g b i C1 S1 q1 q2 q3 q4 q5 q6 q7 q8 q9 qm) : ∀ (O S T P D E B M : St) (f : Nat → Option Nat) (I0 I1 : Img) (H : Heap) (locs : List Loc) (ls : Array Slot) (cells slots : Nat), cells + 14 ≤ C1 → slots + 113 ≤ S1 → LI O S T P M f I0 I1 → va_P g.1 vwCl (LW g q1 q2 q3 q4 q5 q6 q7 q8 q9 qm O S T P D E B M f I0 I1) H → va_D (fun q : Nat => s.heap.size ≤ q) (LW g q1 q2 q3 q4 q5 q6 q7 q8 q9 qm O S T P D E B M f I0 I1) → va_S (fun q : Nat => s.heap.size ≤ q) s.heap H locs → lv_has ls 4 [(0, .ref b), (1, .ref (q1 100)), (2, .ref (qm 100)), (3, .int (nI i))] → W p l e room_1 s m #[Value.ref b] below meth c H locs cells slots Q (F0 m 451 ls []) := by
  have hx := hC.1.1
  have hb := hC.1.2.1
  have hA : ∀ q : Nat, s.heap.size ≤ q → (fun q : Nat => s.heap.size ≤ q) q := fun _ h => h
  have hbA : ¬ (fun q : Nat => s.heap.size ≤ q) b := Nat.not_le.mpr hbl
  intro O S T P D E B M f I0 I1 H locs ls cells slots hc1 hs1 hLI hP hD hS hl
  obtain ⟨⟨hI, hR⟩, hG0, hG1⟩ := id hLI
  obtain ⟨r, D', E', M', h7, h8, hR2, hK2⟩ := op_heat N hN D E B hI hR
  refine lv_aload_n hx hb dL_law_451 rfl (lv_at hl 1 rfl) ?_
  refine k_pVi (C := RX7) (ci := 7) (qr := 0) (n := 0) (As := []) (rest := []) (bytes := cX7_heat) (maxL := 2) (ret := (some .int)) hC hl.1 (c_X7_heat l g N q1 q2 q3 q4 q5 q6 q7 q8 q9 O S T P D E B r D' E' h7) rfl hL_X7_heat (by decide +kernel) rfl rfl ⟨Nat.le_of_ble_eq_true rfl, Nat.le_of_ble_eq_true rfl⟩ rfl rfl rfl (Nat.le_of_ble_eq_true rfl) (show cells + 0 ≤ 600000 ∧ slots + 0 ≤ 7302250 by omega) dL_law_452 hP hD hS hA (List.Perm.refl _) (fun H locs hP hD hS => ?_)
  refine lv_aload_n hx hb dL_law_455 rfl (lv_at hl 2 rfl) ?_
  refine k_pVi (C := RX8) (ci := 8) (qr := 0) (n := 0) (As := []) (rest := [.int r]) (bytes := cX8_heat) (maxL := 3) (ret := (some .int)) hC hl.1 (c_X8_heat l g N qm M r M' h8) rfl hL_X8_heat (by decide +kernel) rfl rfl ⟨Nat.le_of_ble_eq_true rfl, Nat.le_of_ble_eq_true rfl⟩ rfl rfl rfl (Nat.le_of_ble_eq_true rfl) (show cells + 0 ≤ 600000 ∧ slots + 0 ≤ 7302250 by omega) dL_law_456 hP hD hS hA (pr2 _ _ _) (fun H locs hP hD hS => ?_)
  refine lv_icmp_eq (tgt := 1035) hx hb dL_law_459 (by decide) (fun _ => ?_) (fun q => absurd rfl q)
  refine W.widen (k := C1) (n := S1) (by omega) (by omega) ?_
  exact K O S T P D' E' B M' f I0 I1 H locs ls (hLI.go hI hR2 hK2) (wp_perm (pr2 _ _ _) hP) (wd_perm (pr2 _ _ _) hD) hS hl
set_option maxRecDepth 100000 in
set_option maxHeartbeats 1000000 in
theorem lc_behind {p : Program} {l : Launch} {e : Env} {s : State} {m : MethodId} {below : List Frame} {meth : Method} {c : Code} {Q : State → Prop} {g : GG} {b L i C1 S1 : Nat} {xs : Nat → Int32} (N : Nat) (hN : 2000 ≤ N) (hC : Cx p s m #[Value.ref b] c RL cL_law 4 lw_tbl g) (hX : va_X b L xs s s.heap) (hbl : b < s.heap.size) (hi : i + 6 ≤ L) (hL : L ≤ 3072) (hroom : C1 ≤ 600000 ∧ S1 ≤ 7302250) (q1 q2 q3 q4 q5 q6 q7 q8 q9 qm : Nat → Nat) (K : LK p l e s m below meth c Q g b i C1 S1 q1 q2 q3 q4 q5 q6 q7 q8 q9 qm) : ∀ (O S T P D E B M : St) (f : Nat → Option Nat) (I0 I1 : Img) (H : Heap) (locs : List Loc) (ls : Array Slot) (cells slots : Nat), cells + 14 ≤ C1 → slots + 113 ≤ S1 → LI O S T P M f I0 I1 → va_P g.1 vwCl (LW g q1 q2 q3 q4 q5 q6 q7 q8 q9 qm O S T P D E B M f I0 I1) H → va_D (fun q : Nat => s.heap.size ≤ q) (LW g q1 q2 q3 q4 q5 q6 q7 q8 q9 qm O S T P D E B M f I0 I1) → va_S (fun q : Nat => s.heap.size ≤ q) s.heap H locs → lv_has ls 4 [(0, .ref b), (1, .ref (q1 100)), (2, .ref (qm 100)), (3, .int (nI i))] → W p l e room_1 s m #[Value.ref b] below meth c H locs cells slots Q (F0 m 464 ls []) := by
  have hx := hC.1.1
  have hb := hC.1.2.1
  have hA : ∀ q : Nat, s.heap.size ≤ q → (fun q : Nat => s.heap.size ≤ q) q := fun _ h => h
  have hbA : ¬ (fun q : Nat => s.heap.size ≤ q) b := Nat.not_le.mpr hbl
  intro O S T P D E B M f I0 I1 H locs ls cells slots hc1 hs1 hLI hP hD hS hl
  obtain ⟨⟨hI, hR⟩, hG0, hG1⟩ := id hLI
  have hin1 : vp_in (nI i + 1) L := by rw [show nI i + 1 = nI (i + 1) from nI_add i 1]; exact vp_in_nI (by omega) (by omega)
  have hin2 : vp_in (nI i + 2) L := by rw [show nI i + 2 = nI (i + 2) from nI_add i 2]; exact vp_in_nI (by omega) (by omega)
  have hin3 : vp_in (nI i + 3) L := by rw [show nI i + 3 = nI (i + 3) from nI_add i 3]; exact vp_in_nI (by omega) (by omega)
  obtain ⟨r, D', E', M', h7, h8, hR2, hK2⟩ := op_behind N hN D E B hI hR (xs (nI i + 1).toNatClampNeg) (xs (nI i + 2).toNatClampNeg) (xs (nI i + 3).toNatClampNeg)
  refine lv_aload_n hx hb dL_law_464 rfl (lv_at hl 1 rfl) ?_
  refine lv_aload_n hx hb dL_law_465 rfl (lv_at hl 0 rfl) ?_
  refine lv_iload_n hx hb dL_law_466 rfl (lv_at hl 3 rfl) ?_
  refine lv_iconst (v := 1) hx hb dL_law_467 (by decide) ?_
  refine lv_iadd hx hb dL_law_468 ?_
  refine va_sld hx hb hX hbl hbA hS hin1 dL_law_469 ?_
  refine lv_aload_n hx hb dL_law_470 rfl (lv_at hl 0 rfl) ?_
  refine lv_iload_n hx hb dL_law_471 rfl (lv_at hl 3 rfl) ?_
  refine lv_iconst (v := 2) hx hb dL_law_472 (by decide) ?_
  refine lv_iadd hx hb dL_law_473 ?_
  refine va_sld hx hb hX hbl hbA hS hin2 dL_law_474 ?_
  refine lv_aload_n hx hb dL_law_475 rfl (lv_at hl 0 rfl) ?_
  refine lv_iload_n hx hb dL_law_476 rfl (lv_at hl 3 rfl) ?_
  refine lv_iconst (v := 3) hx hb dL_law_477 (by decide) ?_
  refine lv_iadd hx hb dL_law_478 ?_
  refine va_sld hx hb hX hbl hbA hS hin3 dL_law_479 ?_
  refine k_pVi (C := RX7) (ci := 7) (qr := 0) (n := 3) (As := [.int (xs (nI i + 1).toNatClampNeg), .int (xs (nI i + 2).toNatClampNeg), .int (xs (nI i + 3).toNatClampNeg)]) (rest := []) (bytes := cX7_behind) (maxL := 5) (ret := (some .int)) hC hl.1 (c_X7_behind l g N q1 q2 q3 q4 q5 q6 q7 q8 q9 O S T P D E B (xs (nI i + 1).toNatClampNeg) (xs (nI i + 2).toNatClampNeg) (xs (nI i + 3).toNatClampNeg) r D' E' h7) rfl hL_X7_behind (by decide +kernel) rfl rfl ⟨Nat.le_of_ble_eq_true rfl, Nat.le_of_ble_eq_true rfl⟩ rfl rfl rfl (Nat.le_of_ble_eq_true rfl) (show cells + 0 ≤ 600000 ∧ slots + 0 ≤ 7302250 by omega) dL_law_480 hP hD hS hA (List.Perm.refl _) (fun H locs hP hD hS => ?_)
  refine lv_aload_n hx hb dL_law_483 rfl (lv_at hl 2 rfl) ?_
  refine lv_aload_n hx hb dL_law_484 rfl (lv_at hl 0 rfl) ?_
  refine lv_iload_n hx hb dL_law_485 rfl (lv_at hl 3 rfl) ?_
  refine lv_iconst (v := 1) hx hb dL_law_486 (by decide) ?_
  refine lv_iadd hx hb dL_law_487 ?_
  refine va_sld hx hb hX hbl hbA hS hin1 dL_law_488 ?_
  refine lv_aload_n hx hb dL_law_489 rfl (lv_at hl 0 rfl) ?_
  refine lv_iload_n hx hb dL_law_490 rfl (lv_at hl 3 rfl) ?_
  refine lv_iconst (v := 2) hx hb dL_law_491 (by decide) ?_
  refine lv_iadd hx hb dL_law_492 ?_
  refine va_sld hx hb hX hbl hbA hS hin2 dL_law_493 ?_
  refine lv_aload_n hx hb dL_law_494 rfl (lv_at hl 0 rfl) ?_
  refine lv_iload_n hx hb dL_law_495 rfl (lv_at hl 3 rfl) ?_
  refine lv_iconst (v := 3) hx hb dL_law_496 (by decide) ?_
  refine lv_iadd hx hb dL_law_497 ?_
  refine va_sld hx hb hX hbl hbA hS hin3 dL_law_498 ?_
  refine k_pVi (C := RX8) (ci := 8) (qr := 0) (n := 3) (As := [.int (xs (nI i + 1).toNatClampNeg), .int (xs (nI i + 2).toNatClampNeg), .int (xs (nI i + 3).toNatClampNeg)]) (rest := [.int r]) (bytes := cX8_behind) (maxL := 6) (ret := (some .int)) hC hl.1 (c_X8_behind l g N qm M (xs (nI i + 1).toNatClampNeg) (xs (nI i + 2).toNatClampNeg) (xs (nI i + 3).toNatClampNeg) r M' h8) rfl hL_X8_behind (by decide +kernel) rfl rfl ⟨Nat.le_of_ble_eq_true rfl, Nat.le_of_ble_eq_true rfl⟩ rfl rfl rfl (Nat.le_of_ble_eq_true rfl) (show cells + 0 ≤ 600000 ∧ slots + 0 ≤ 7302250 by omega) dL_law_499 hP hD hS hA (pr2 _ _ _) (fun H locs hP hD hS => ?_)
  refine lv_icmp_eq (tgt := 1035) hx hb dL_law_502 (by decide) (fun _ => ?_) (fun q => absurd rfl q)
  refine W.widen (k := C1) (n := S1) (by omega) (by omega) ?_
  exact K O S T P D' E' B M' f I0 I1 H locs ls (hLI.go hI hR2 hK2) (wp_perm (pr2 _ _ _) hP) (wd_perm (pr2 _ _ _) hD) hS hl
set_option maxRecDepth 100000 in
set_option maxHeartbeats 1000000 in
theorem lc_done {p : Program} {l : Launch} {e : Env} {s : State} {m : MethodId} {below : List Frame} {meth : Method} {c : Code} {Q : State → Prop} {g : GG} {b L i C1 S1 : Nat} {xs : Nat → Int32} (N : Nat) (hN : 2000 ≤ N) (hC : Cx p s m #[Value.ref b] c RL cL_law 4 lw_tbl g) (hX : va_X b L xs s s.heap) (hbl : b < s.heap.size) (hi : i + 6 ≤ L) (hL : L ≤ 3072) (hroom : C1 ≤ 600000 ∧ S1 ≤ 7302250) (q1 q2 q3 q4 q5 q6 q7 q8 q9 qm : Nat → Nat) (K : LK p l e s m below meth c Q g b i C1 S1 q1 q2 q3 q4 q5 q6 q7 q8 q9 qm) : ∀ (O S T P D E B M : St) (f : Nat → Option Nat) (I0 I1 : Img) (H : Heap) (locs : List Loc) (ls : Array Slot) (cells slots : Nat), cells + 14 ≤ C1 → slots + 113 ≤ S1 → LI O S T P M f I0 I1 → va_P g.1 vwCl (LW g q1 q2 q3 q4 q5 q6 q7 q8 q9 qm O S T P D E B M f I0 I1) H → va_D (fun q : Nat => s.heap.size ≤ q) (LW g q1 q2 q3 q4 q5 q6 q7 q8 q9 qm O S T P D E B M f I0 I1) → va_S (fun q : Nat => s.heap.size ≤ q) s.heap H locs → lv_has ls 4 [(0, .ref b), (1, .ref (q1 100)), (2, .ref (qm 100)), (3, .int (nI i))] → W p l e room_1 s m #[Value.ref b] below meth c H locs cells slots Q (F0 m 507 ls []) := by
  have hx := hC.1.1
  have hb := hC.1.2.1
  have hA : ∀ q : Nat, s.heap.size ≤ q → (fun q : Nat => s.heap.size ≤ q) q := fun _ h => h
  have hbA : ¬ (fun q : Nat => s.heap.size ≤ q) b := Nat.not_le.mpr hbl
  intro O S T P D E B M f I0 I1 H locs ls cells slots hc1 hs1 hLI hP hD hS hl
  obtain ⟨⟨hI, hR⟩, hG0, hG1⟩ := id hLI
  obtain ⟨r, O', P', D', E', M', h7, h8, hI2, hR2, hK2⟩ := op_done N hN D E B hI hR
  refine lv_aload_n hx hb dL_law_507 rfl (lv_at hl 1 rfl) ?_
  refine k_pVi (C := RX7) (ci := 7) (qr := 0) (n := 0) (As := []) (rest := []) (bytes := cX7_done) (maxL := 2) (ret := (some .int)) hC hl.1 (c_X7_done l g N q1 q2 q3 q4 q5 q6 q7 q8 q9 O S T P D E B r O' P' D' E' h7) rfl hL_X7_done (by decide +kernel) rfl rfl ⟨Nat.le_of_ble_eq_true rfl, Nat.le_of_ble_eq_true rfl⟩ rfl rfl rfl (Nat.le_of_ble_eq_true rfl) (show cells + 0 ≤ 600000 ∧ slots + 0 ≤ 7302250 by omega) dL_law_508 hP hD hS hA (List.Perm.refl _) (fun H locs hP hD hS => ?_)
  refine lv_aload_n hx hb dL_law_511 rfl (lv_at hl 2 rfl) ?_
  refine k_pVi (C := RX8) (ci := 8) (qr := 0) (n := 0) (As := []) (rest := [.int r]) (bytes := cX8_done) (maxL := 2) (ret := (some .int)) hC hl.1 (c_X8_done l g N qm M r M' h8) rfl hL_X8_done (by decide +kernel) rfl rfl ⟨Nat.le_of_ble_eq_true rfl, Nat.le_of_ble_eq_true rfl⟩ rfl rfl rfl (Nat.le_of_ble_eq_true rfl) (show cells + 0 ≤ 600000 ∧ slots + 0 ≤ 7302250 by omega) dL_law_512 hP hD hS hA (pr2 _ _ _) (fun H locs hP hD hS => ?_)
  refine lv_icmp_eq (tgt := 1035) hx hb dL_law_515 (by decide) (fun _ => ?_) (fun q => absurd rfl q)
  refine W.widen (k := C1) (n := S1) (by omega) (by omega) ?_
  exact K O' S T P' D' E' B M' f I0 I1 H locs ls (hLI.go hI2 hR2 hK2) (wp_perm (pr2 _ _ _) hP) (wd_perm (pr2 _ _ _) hD) hS hl
set_option maxRecDepth 100000 in
set_option maxHeartbeats 1000000 in
theorem lc_out {p : Program} {l : Launch} {e : Env} {s : State} {m : MethodId} {below : List Frame} {meth : Method} {c : Code} {Q : State → Prop} {g : GG} {b L i C1 S1 : Nat} {xs : Nat → Int32} (N : Nat) (hN : 2000 ≤ N) (hC : Cx p s m #[Value.ref b] c RL cL_law 4 lw_tbl g) (hX : va_X b L xs s s.heap) (hbl : b < s.heap.size) (hi : i + 6 ≤ L) (hL : L ≤ 3072) (hroom : C1 ≤ 600000 ∧ S1 ≤ 7302250) (q1 q2 q3 q4 q5 q6 q7 q8 q9 qm : Nat → Nat) (K : LK p l e s m below meth c Q g b i C1 S1 q1 q2 q3 q4 q5 q6 q7 q8 q9 qm) : ∀ (O S T P D E B M : St) (f : Nat → Option Nat) (I0 I1 : Img) (H : Heap) (locs : List Loc) (ls : Array Slot) (cells slots : Nat), cells + 14 ≤ C1 → slots + 113 ≤ S1 → LI O S T P M f I0 I1 → va_P g.1 vwCl (LW g q1 q2 q3 q4 q5 q6 q7 q8 q9 qm O S T P D E B M f I0 I1) H → va_D (fun q : Nat => s.heap.size ≤ q) (LW g q1 q2 q3 q4 q5 q6 q7 q8 q9 qm O S T P D E B M f I0 I1) → va_S (fun q : Nat => s.heap.size ≤ q) s.heap H locs → lv_has ls 4 [(0, .ref b), (1, .ref (q1 100)), (2, .ref (qm 100)), (3, .int (nI i))] → W p l e room_1 s m #[Value.ref b] below meth c H locs cells slots Q (F0 m 520 ls []) := by
  have hx := hC.1.1
  have hb := hC.1.2.1
  have hA : ∀ q : Nat, s.heap.size ≤ q → (fun q : Nat => s.heap.size ≤ q) q := fun _ h => h
  have hbA : ¬ (fun q : Nat => s.heap.size ≤ q) b := Nat.not_le.mpr hbl
  intro O S T P D E B M f I0 I1 H locs ls cells slots hc1 hs1 hLI hP hD hS hl
  obtain ⟨⟨hI, hR⟩, hG0, hG1⟩ := id hLI
  have hin1 : vp_in (nI i + 1) L := by rw [show nI i + 1 = nI (i + 1) from nI_add i 1]; exact vp_in_nI (by omega) (by omega)
  obtain ⟨r, h7, h8⟩ := op_out N D E B hR (xs (nI i + 1).toNatClampNeg)
  refine lv_aload_n hx hb dL_law_520 rfl (lv_at hl 1 rfl) ?_
  refine lv_aload_n hx hb dL_law_521 rfl (lv_at hl 0 rfl) ?_
  refine lv_iload_n hx hb dL_law_522 rfl (lv_at hl 3 rfl) ?_
  refine lv_iconst (v := 1) hx hb dL_law_523 (by decide) ?_
  refine lv_iadd hx hb dL_law_524 ?_
  refine va_sld hx hb hX hbl hbA hS hin1 dL_law_525 ?_
  refine k_pVi (C := RX7) (ci := 7) (qr := 0) (n := 1) (As := [.int (xs (nI i + 1).toNatClampNeg)]) (rest := []) (bytes := cX7_out) (maxL := 2) (ret := (some .int)) hC hl.1 (c_X7_out l g N q1 q2 q3 q4 q5 q6 q7 q8 q9 O S T P D E B (xs (nI i + 1).toNatClampNeg) r h7) rfl hL_X7_out (by decide +kernel) rfl rfl ⟨Nat.le_of_ble_eq_true rfl, Nat.le_of_ble_eq_true rfl⟩ rfl rfl rfl (Nat.le_of_ble_eq_true rfl) (show cells + 0 ≤ 600000 ∧ slots + 0 ≤ 7302250 by omega) dL_law_526 hP hD hS hA (List.Perm.refl _) (fun H locs hP hD hS => ?_)
  refine lv_aload_n hx hb dL_law_529 rfl (lv_at hl 2 rfl) ?_
  refine lv_aload_n hx hb dL_law_530 rfl (lv_at hl 0 rfl) ?_
  refine lv_iload_n hx hb dL_law_531 rfl (lv_at hl 3 rfl) ?_
  refine lv_iconst (v := 1) hx hb dL_law_532 (by decide) ?_
  refine lv_iadd hx hb dL_law_533 ?_
  refine va_sld hx hb hX hbl hbA hS hin1 dL_law_534 ?_
  refine k_pVi (C := RX8) (ci := 8) (qr := 0) (n := 1) (As := [.int (xs (nI i + 1).toNatClampNeg)]) (rest := [.int r]) (bytes := cX8_out) (maxL := 2) (ret := (some .int)) hC hl.1 (c_X8_out l g N qm M (xs (nI i + 1).toNatClampNeg) r h8) rfl hL_X8_out (by decide +kernel) rfl rfl ⟨Nat.le_of_ble_eq_true rfl, Nat.le_of_ble_eq_true rfl⟩ rfl rfl rfl (Nat.le_of_ble_eq_true rfl) (show cells + 0 ≤ 600000 ∧ slots + 0 ≤ 7302250 by omega) dL_law_535 hP hD hS hA (pr2 _ _ _) (fun H locs hP hD hS => ?_)
  refine lv_icmp_eq (tgt := 1035) hx hb dL_law_538 (by decide) (fun _ => ?_) (fun q => absurd rfl q)
  refine W.widen (k := C1) (n := S1) (by omega) (by omega) ?_
  exact K O S T P D E B M f I0 I1 H locs ls (hLI.go hI hR (pv_K.rf M)) (wp_perm (pr2 _ _ _) hP) (wd_perm (pr2 _ _ _) hD) hS hl
set_option maxRecDepth 100000 in
set_option maxHeartbeats 1000000 in
theorem lc_state {p : Program} {l : Launch} {e : Env} {s : State} {m : MethodId} {below : List Frame} {meth : Method} {c : Code} {Q : State → Prop} {g : GG} {b L i C1 S1 : Nat} {xs : Nat → Int32} (N : Nat) (hN : 2000 ≤ N) (hC : Cx p s m #[Value.ref b] c RL cL_law 4 lw_tbl g) (hX : va_X b L xs s s.heap) (hbl : b < s.heap.size) (hi : i + 6 ≤ L) (hL : L ≤ 3072) (hroom : C1 ≤ 600000 ∧ S1 ≤ 7302250) (q1 q2 q3 q4 q5 q6 q7 q8 q9 qm : Nat → Nat) (K : LK p l e s m below meth c Q g b i C1 S1 q1 q2 q3 q4 q5 q6 q7 q8 q9 qm) : ∀ (O S T P D E B M : St) (f : Nat → Option Nat) (I0 I1 : Img) (H : Heap) (locs : List Loc) (ls : Array Slot) (cells slots : Nat), cells + 14 ≤ C1 → slots + 113 ≤ S1 → LI O S T P M f I0 I1 → va_P g.1 vwCl (LW g q1 q2 q3 q4 q5 q6 q7 q8 q9 qm O S T P D E B M f I0 I1) H → va_D (fun q : Nat => s.heap.size ≤ q) (LW g q1 q2 q3 q4 q5 q6 q7 q8 q9 qm O S T P D E B M f I0 I1) → va_S (fun q : Nat => s.heap.size ≤ q) s.heap H locs → lv_has ls 4 [(0, .ref b), (1, .ref (q1 100)), (2, .ref (qm 100)), (3, .int (nI i))] → W p l e room_1 s m #[Value.ref b] below meth c H locs cells slots Q (F0 m 543 ls []) := by
  have hx := hC.1.1
  have hb := hC.1.2.1
  have hA : ∀ q : Nat, s.heap.size ≤ q → (fun q : Nat => s.heap.size ≤ q) q := fun _ h => h
  have hbA : ¬ (fun q : Nat => s.heap.size ≤ q) b := Nat.not_le.mpr hbl
  intro O S T P D E B M f I0 I1 H locs ls cells slots hc1 hs1 hLI hP hD hS hl
  obtain ⟨⟨hI, hR⟩, hG0, hG1⟩ := id hLI
  have hin1 : vp_in (nI i + 1) L := by rw [show nI i + 1 = nI (i + 1) from nI_add i 1]; exact vp_in_nI (by omega) (by omega)
  have hin2 : vp_in (nI i + 2) L := by rw [show nI i + 2 = nI (i + 2) from nI_add i 2]; exact vp_in_nI (by omega) (by omega)
  have hin3 : vp_in (nI i + 3) L := by rw [show nI i + 3 = nI (i + 3) from nI_add i 3]; exact vp_in_nI (by omega) (by omega)
  obtain ⟨r, h7, h8⟩ := op_state N D E B hI hR (xs (nI i + 1).toNatClampNeg) (xs (nI i + 2).toNatClampNeg) (xs (nI i + 3).toNatClampNeg)
  refine lv_aload_n hx hb dL_law_543 rfl (lv_at hl 1 rfl) ?_
  refine lv_aload_n hx hb dL_law_544 rfl (lv_at hl 0 rfl) ?_
  refine lv_iload_n hx hb dL_law_545 rfl (lv_at hl 3 rfl) ?_
  refine lv_iconst (v := 1) hx hb dL_law_546 (by decide) ?_
  refine lv_iadd hx hb dL_law_547 ?_
  refine va_sld hx hb hX hbl hbA hS hin1 dL_law_548 ?_
  refine lv_aload_n hx hb dL_law_549 rfl (lv_at hl 0 rfl) ?_
  refine lv_iload_n hx hb dL_law_550 rfl (lv_at hl 3 rfl) ?_
  refine lv_iconst (v := 2) hx hb dL_law_551 (by decide) ?_
  refine lv_iadd hx hb dL_law_552 ?_
  refine va_sld hx hb hX hbl hbA hS hin2 dL_law_553 ?_
  refine lv_aload_n hx hb dL_law_554 rfl (lv_at hl 0 rfl) ?_
  refine lv_iload_n hx hb dL_law_555 rfl (lv_at hl 3 rfl) ?_
  refine lv_iconst (v := 3) hx hb dL_law_556 (by decide) ?_
  refine lv_iadd hx hb dL_law_557 ?_
  refine va_sld hx hb hX hbl hbA hS hin3 dL_law_558 ?_
  refine k_pVi (C := RX7) (ci := 7) (qr := 0) (n := 3) (As := [.int (xs (nI i + 1).toNatClampNeg), .int (xs (nI i + 2).toNatClampNeg), .int (xs (nI i + 3).toNatClampNeg)]) (rest := []) (bytes := cX7_state) (maxL := 5) (ret := (some .int)) hC hl.1 (c_X7_state l g N q1 q2 q3 q4 q5 q6 q7 q8 q9 O S T P D E B (xs (nI i + 1).toNatClampNeg) (xs (nI i + 2).toNatClampNeg) (xs (nI i + 3).toNatClampNeg) r h7) rfl hL_X7_state (by decide +kernel) rfl rfl ⟨Nat.le_of_ble_eq_true rfl, Nat.le_of_ble_eq_true rfl⟩ rfl rfl rfl (Nat.le_of_ble_eq_true rfl) (show cells + 0 ≤ 600000 ∧ slots + 0 ≤ 7302250 by omega) dL_law_559 hP hD hS hA (List.Perm.refl _) (fun H locs hP hD hS => ?_)
  refine lv_aload_n hx hb dL_law_562 rfl (lv_at hl 2 rfl) ?_
  refine lv_aload_n hx hb dL_law_563 rfl (lv_at hl 0 rfl) ?_
  refine lv_iload_n hx hb dL_law_564 rfl (lv_at hl 3 rfl) ?_
  refine lv_iconst (v := 1) hx hb dL_law_565 (by decide) ?_
  refine lv_iadd hx hb dL_law_566 ?_
  refine va_sld hx hb hX hbl hbA hS hin1 dL_law_567 ?_
  refine lv_aload_n hx hb dL_law_568 rfl (lv_at hl 0 rfl) ?_
  refine lv_iload_n hx hb dL_law_569 rfl (lv_at hl 3 rfl) ?_
  refine lv_iconst (v := 2) hx hb dL_law_570 (by decide) ?_
  refine lv_iadd hx hb dL_law_571 ?_
  refine va_sld hx hb hX hbl hbA hS hin2 dL_law_572 ?_
  refine lv_aload_n hx hb dL_law_573 rfl (lv_at hl 0 rfl) ?_
  refine lv_iload_n hx hb dL_law_574 rfl (lv_at hl 3 rfl) ?_
  refine lv_iconst (v := 3) hx hb dL_law_575 (by decide) ?_
  refine lv_iadd hx hb dL_law_576 ?_
  refine va_sld hx hb hX hbl hbA hS hin3 dL_law_577 ?_
  refine k_pVi (C := RX8) (ci := 8) (qr := 0) (n := 3) (As := [.int (xs (nI i + 1).toNatClampNeg), .int (xs (nI i + 2).toNatClampNeg), .int (xs (nI i + 3).toNatClampNeg)]) (rest := [.int r]) (bytes := cX8_state) (maxL := 4) (ret := (some .int)) hC hl.1 (c_X8_state l g N qm M (xs (nI i + 1).toNatClampNeg) (xs (nI i + 2).toNatClampNeg) (xs (nI i + 3).toNatClampNeg) r h8) rfl hL_X8_state (by decide +kernel) rfl rfl ⟨Nat.le_of_ble_eq_true rfl, Nat.le_of_ble_eq_true rfl⟩ rfl rfl rfl (Nat.le_of_ble_eq_true rfl) (show cells + 0 ≤ 600000 ∧ slots + 0 ≤ 7302250 by omega) dL_law_578 hP hD hS hA (pr2 _ _ _) (fun H locs hP hD hS => ?_)
  refine lv_icmp_eq (tgt := 1035) hx hb dL_law_581 (by decide) (fun _ => ?_) (fun q => absurd rfl q)
  refine W.widen (k := C1) (n := S1) (by omega) (by omega) ?_
  exact K O S T P D E B M f I0 I1 H locs ls (hLI.go hI hR (pv_K.rf M)) (wp_perm (pr2 _ _ _) hP) (wd_perm (pr2 _ _ _) hD) hS hl
