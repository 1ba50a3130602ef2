/-! the law from its entry -/
section PMT
variable {α : Type} (m a x0 x3 x6 x5 x4 x2 y3 x1 ar : List α)
theorem pm_s : (m ++ ((a ++ (x0 ++ (x3 ++ (x6 ++ (x5 ++ (x4 ++ (x2 ++ (y3 ++ (x1 ++ ar))))))))) ++ [])).Perm ((a ++ (x0 ++ (x3 ++ (x6 ++ (x5 ++ (x4 ++ (x2 ++ (y3 ++ x1)))))))) ++ (m ++ (ar ++ ([] ++ [])))) := pr_cnt (fun x => by simp only [List.count_append, List.count_nil]; omega)
end PMT
theorem z_I : pv_I z_X3 z_X6 z_X5 z_X4 := by
  refine ⟨⟨by decide, by decide, by decide, by decide, by decide, Or.inl rfl, fun j _ => ?_, fun r _ => ?_, fun r p _ _ h => ?_⟩, ⟨by decide, fun j _ => ?_, fun j _ => ?_, fun j _ => ?_⟩, ⟨by decide, fun j _ => ?_⟩, (show 0 ≤ (0 : Int32).toInt ∧ (0 : Int32).toInt ≤ 60 by decide)⟩
  · show 0 ≤ (0 : Int32).toInt ∧ (0 : Int32).toInt ≤ 9
    decide
  · show 0 ≤ (0 : Int32).toInt ∧ (0 : Int32).toInt ≤ (4 : Int32).toInt
    decide
  · have h : (p : Int) < (0 : Int32).toInt := h
    rw [t32_0] at h
    omega
  · show 0 ≤ (0 : Int32).toInt ∧ (0 : Int32).toInt ≤ 500
    decide
  · show 0 ≤ (0 : Int32).toInt ∧ (0 : Int32).toInt ≤ 500
    decide
  · show 0 ≤ (0 : Int32).toInt ∧ (0 : Int32).toInt ≤ 99
    decide
  · show 0 ≤ (0 : Int32).toInt ∧ (0 : Int32).toInt ≤ 5000
    decide
theorem z_R : pv_R z_X3 z_X6 z_X5 z_X4 z_X8 := ⟨⟨rfl, rfl, rfl, rfl, rfl, rfl, fun _ _ => rfl, fun _ _ => rfl, fun _ _ => rfl, fun _ _ => rfl, fun _ _ => rfl⟩, ⟨rfl, fun _ _ => rfl, fun _ _ => rfl, fun _ _ => rfl, fun _ _ => rfl⟩, ⟨rfl, fun _ _ => rfl⟩, rfl, fun _ _ => rfl⟩
theorem z_LI : LI z_X3 z_X6 z_X5 z_X4 z_X8 (fun _ => none) none none := ⟨⟨z_I, z_R⟩, ⟨rfl, rfl⟩, rfl, rfl⟩
set_option maxRecDepth 20000 in
theorem nests_in : ∀ w ∈ nests, w ∈ lw_tbl := in_r [189, 206, 235, 73, 131, 160, 79, 547, 211, 331, 369, 409] (by decide +kernel)
theorem arr_known {s : State} {args : Array Value} {ty : FieldType} (h : (Cond.arrayClass ty).before args s = true) : ∃ cA, ArrOfT s cA ty ∧ s.vm.findClass ("[" ++ ty.toString) = some cA := by
  obtain ⟨cA, kA, comp, h1, h2, h3⟩ := Cond.arrayClass_spec h
  exact ⟨cA, fun n z => ⟨fun k h => (by cases h), kA, h2, comp, h3⟩, h1⟩
theorem arq_known {s : State} {args : Array Value} {C : String} (h : (Cond.arrayOver (.object C)).before args s = true) : ∃ cA, ArrOfT s cA (.object C) ∧ va_RA s cA (.object C) := by
  obtain ⟨comp, c, k, h1, h2, h3, h4, h5⟩ := Cond.arrayOver_spec h
  exact ⟨c, fun n z => ⟨fun k h => (by cases h), k, h3, comp, h4⟩, k, comp, h3, h4, h1, h5⟩
set_option maxRecDepth 100000 in
set_option maxHeartbeats 2000000 in
theorem kn_start {s : State} {args : Array Value} (hts : ∀ w ∈ lw_tbl, w.before args s = true) : ∃ g : GG, KN g s ∧ EA s := by
  obtain ⟨c0, i0, hKn0⟩ := u_known (C := RX0) (T := TX0) (N := 3) (n := 3) hts in_wsX00 (hts (.instantiable RX0 3) (List.mem_of_getElem? (i := 72) (by decide +kernel)))
  obtain ⟨c1, i1, hKn1⟩ := u_known (C := RX1) (T := TX1) (N := 14) (n := 14) hts in_wsX10 (hts (.instantiable RX1 14) (List.mem_of_getElem? (i := 234) (by decide +kernel)))
  obtain ⟨c2, i2, hKn2⟩ := u_known (C := RX2) (T := TX2) (N := 5) (n := 5) hts in_wsX20 (hts (.instantiable RX2 5) (List.mem_of_getElem? (i := 205) (by decide +kernel)))
  obtain ⟨c3, i3, hKn3⟩ := u_known (C := RX3) (T := TX3) (N := 11) (n := 11) hts in_wsX30 (hts (.instantiable RX3 11) (List.mem_of_getElem? (i := 78) (by decide +kernel)))
  obtain ⟨c4, i4, hKn4⟩ := u_known (C := RX4) (T := TX4) (N := 2) (n := 2) hts in_wsX40 (hts (.instantiable RX4 2) (List.mem_of_getElem? (i := 188) (by decide +kernel)))
  obtain ⟨c5, i5, hKn5⟩ := u_known (C := RX5) (T := TX5) (N := 2) (n := 2) hts in_wsX50 (hts (.instantiable RX5 2) (List.mem_of_getElem? (i := 159) (by decide +kernel)))
  obtain ⟨c6, i6, hKn6⟩ := u_known (C := RX6) (T := TX6) (N := 5) (n := 5) hts in_wsX60 (hts (.instantiable RX6 5) (List.mem_of_getElem? (i := 130) (by decide +kernel)))
  obtain ⟨c7, i7, hKn7⟩ := u_known (C := RX7) (T := TX7) (N := 5) (n := 5) hts in_wsX70 (hts (.instantiable RX7 5) (List.mem_of_getElem? (i := 64) (by decide +kernel)))
  obtain ⟨c8, i8, hKn8⟩ := u_known (C := RX8) (T := TX8) (N := 46) (n := 46) hts in_wsX80 (hts (.instantiable RX8 46) (List.mem_of_getElem? (i := 690) (by decide +kernel)))
  obtain ⟨aI, hI1, hI2⟩ := arr_known (hts (.arrayClass .int) (List.mem_of_getElem? (i := 128) (by decide +kernel)))
  obtain ⟨aZ, hZ1, hZ2⟩ := arr_known (hts (.arrayClass .boolean) (List.mem_of_getElem? (i := 834) (by decide +kernel)))
  have hO := hts (.arrayOver (.object "BrickOven$Bakery")) (List.mem_of_getElem? (i := 186) (by decide +kernel))
  obtain ⟨aQ, hQ1, hQ2⟩ := arq_known hO
  refine ⟨((fun k => if k = 0 then c0 else if k = 1 then c1 else if k = 2 then c2 else if k = 3 then c3 else if k = 4 then c4 else if k = 5 then c5 else if k = 6 then c6 else if k = 7 then c7 else c8, fun k => if k = 0 then i0 else if k = 1 then i1 else if k = 2 then i2 else if k = 3 then i3 else if k = 4 then i4 else if k = 5 then i5 else if k = 6 then i6 else if k = 7 then i7 else i8), aI, aZ, aQ), ⟨⟨fun k q hq => ?_, fun k q hq => ?_⟩, fun w hw => ?_⟩, va_AO.of hO⟩
  · match k, hq with
    | 0, hq => cases hq; exact hKn0
    | 1, hq => cases hq; exact hKn1
    | 2, hq => cases hq; exact hKn2
    | 3, hq => cases hq; exact hKn3
    | 4, hq => cases hq; exact hKn4
    | 5, hq => cases hq; exact hKn5
    | 6, hq => cases hq; exact hKn6
    | 7, hq => cases hq; exact hKn7
    | 8, hq => cases hq; exact hKn8
    | k + 9, hq => exact absurd hq (by simp [vwCl])
  · match k, hq with
    | 0, hq => cases hq; exact ⟨hI1, hI2⟩
    | 1, hq => cases hq; exact ⟨hZ1, hZ2⟩
    | 2, hq => cases hq; exact ⟨hQ1, hQ2⟩
    | k + 3, hq => exact absurd hq (by simp [tyG])
  · have h := hts w (nests_in w hw)
    obtain ⟨a, i, y, h9, rfl⟩ := nests_form w hw
    exact va_Nw.of rfl h
set_option maxRecDepth 100000 in
set_option maxHeartbeats 2000000 in
theorem whole_start {p : Program} {e : Env} {s : State} {m : MethodId} {below : List Frame} {meth : Method} {c : Code} (l : Launch) (hflags : l.flags = flags0) {b L : Nat} {xs : Nat → Int32} (hL : L ≤ 3072) (C0 : lw_At p s m meth c b L xs) : W p l e room_1 s m #[Value.ref b] below meth c s.heap [] 0 0 (lw_Z below #[Value.ref b] s) (entryFrame m ([Value.ref b] : List Value).toArray 4) := by
  obtain ⟨hx, hb, hr, hml, hown, hts, hX, hbl, hlocks, hgv⟩ := id C0
  obtain ⟨g, hKN, hE⟩ := kn_start hts
  have hC : Cx p s m #[Value.ref b] c RL cL_law 4 lw_tbl g := ⟨⟨hx, hb, hml, hown, hts⟩, hKN⟩
  have hA : ∀ q : Nat, s.heap.size ≤ q → (fun q : Nat => s.heap.size ≤ q) q := fun _ h => h
  have hS : va_S (fun q : Nat => s.heap.size ≤ q) s.heap s.heap [] := va_S.rf
  have hP : va_P g.1 vwCl [] s.heap := fun k q h => by simp at h
  have hD : va_D (fun q : Nat => s.heap.size ≤ q) [] := ⟨fun i j p q h => by simp at h, fun k q h => by simp at h⟩
  have hl := lv_entry ([.ref b]) (n := 4) (Nat.le_of_ble_eq_true rfl)
  rw [lg_entry_eq]
  generalize (lg_sl ([.ref b]) ++ List.replicate (4 - (lg_sl ([.ref b])).length) Slot.unset).toArray = ls at hl ⊢
  have hl : lv_has ls 4 [(0, .ref b)] := hl
  refine va_new (ci := 7) (fs := [.null, .null, .null, .null, .null]) (C := RX7) (T := TX7) (N := 5) hx hb hts in_wsX70 tyX7 tyX7_ok hown (hts (.classLink RL 7 RX7) (List.mem_of_getElem? (i := 63) (by decide +kernel))) (hts (.instantiable RX7 5) (List.mem_of_getElem? (i := 64) (by decide +kernel))) (hts (.initialized RX7) (List.mem_of_getElem? (i := 50) (by decide +kernel))) hC.2.1 hP hD hS hA rfl df_X7 (Nat.le_of_ble_eq_true rfl) (Nat.le_of_ble_eq_true rfl) dL_law_0 (fun a H hP hD hS => ?_)
  refine lv_dup hx hb dL_law_3 rfl ?_
  refine k_ctorL (E := EA) (rest := [.ref a]) (wc := [(a, .inr (7, [.null, .null, .null, .null, .null]))]) (bytes := cX7_init) (maxL := 1) EA.blind (fun U hW => va_AO.moved hW.alike hE) hC hl.1 (c_X7_init l g a) rfl hL_X7_init (List.mem_of_getElem? (i := 65) (by decide +kernel)) (List.mem_of_getElem? (i := 50) (by decide +kernel)) (List.mem_of_getElem? (i := 66) (by decide +kernel)) rfl (by decide +kernel) ⟨Nat.le_of_ble_eq_true rfl, Nat.le_of_ble_eq_true rfl⟩ rfl rfl (Nat.le_of_ble_eq_true rfl) ⟨Nat.le_of_ble_eq_true rfl, Nat.le_of_ble_eq_true rfl⟩ dL_law_4 hP hD hS hA List.perm_append_comm (fun u H locs hpu hP hD hS => ?_)
  have hpu : u.1 100 = a := hpu
  rw [← hpu]
  refine lv_astore_n (lv' := [(1, .ref (u.1 100)), (0, .ref b)]) hx hb dL_law_7 rfl hl (by decide) rfl (fun ls hl => ?_)
  refine va_new (ci := 8) (fs := [.int 0, .int 0, .int 0, .int 0, .int 0, .int 0, .null, .int 0, .null, .null, .null, .null, .null, .null, .null, .null, .null, .int 0, .null, .int 0, .null, .null, .int 0, .null, .int 0, .int 0, .int 0, .null, .int 0, .int 0, .null, .int 0, .null, .null, .null, .int 0, .int 0, .int 0, .int 0, .null, .int 0, .null, .null, .null, .int 0, .int 0]) (C := RX8) (T := TX8) (N := 46) hx hb hts in_wsX80 tyX8 tyX8_ok hown (hts (.classLink RL 10 RX8) (List.mem_of_getElem? (i := 689) (by decide +kernel))) (hts (.instantiable RX8 46) (List.mem_of_getElem? (i := 690) (by decide +kernel))) (hts (.initialized RX8) (List.mem_of_getElem? (i := 58) (by decide +kernel))) hC.2.1 hP hD hS hA rfl df_X8 (Nat.le_of_ble_eq_true rfl) (Nat.le_of_ble_eq_true rfl) dL_law_8 (fun a8 H hP hD hS => ?_)
  refine lv_dup hx hb dL_law_11 rfl ?_
  refine k_ctorL (E := E0) (rest := [.ref a8]) (wc := [(a8, .inr (8, [.int 0, .int 0, .int 0, .int 0, .int 0, .int 0, .null, .int 0, .null, .null, .null, .null, .null, .null, .null, .null, .null, .int 0, .null, .int 0, .null, .null, .int 0, .null, .int 0, .int 0, .int 0, .null, .int 0, .int 0, .null, .int 0, .null, .null, .null, .int 0, .int 0, .int 0, .int 0, .null, .int 0, .null, .null, .null, .int 0, .int 0]))]) (bytes := cX8_init) (maxL := 1) (fun _ _ _ _ h => h) (fun _ _ => trivial) hC hl.1 (c_X8_init l g a8) rfl hL_X8_init (List.mem_of_getElem? (i := 691) (by decide +kernel)) (List.mem_of_getElem? (i := 58) (by decide +kernel)) (List.mem_of_getElem? (i := 692) (by decide +kernel)) rfl (by decide +kernel) ⟨Nat.le_of_ble_eq_true rfl, Nat.le_of_ble_eq_true rfl⟩ rfl rfl (Nat.le_of_ble_eq_true rfl) ⟨Nat.le_of_ble_eq_true rfl, Nat.le_of_ble_eq_true rfl⟩ dL_law_12 hP hD hS hA List.perm_append_comm (fun qm H locs hpm hP hD hS => ?_)
  have hpm : qm 100 = a8 := hpm
  rw [← hpm]
  refine lv_astore_n (lv' := [(2, .ref (qm 100)), (1, .ref (u.1 100)), (0, .ref b)]) hx hb dL_law_15 rfl hl (by decide) rfl (fun ls hl => ?_)
  refine lv_iconst (v := 0) hx hb dL_law_16 (by decide) ?_
  refine lv_istore_n (lv' := [(3, .int 0), (2, .ref (qm 100)), (1, .ref (u.1 100)), (0, .ref b)]) hx hb dL_law_17 rfl hl (by decide) rfl (fun ls hl => ?_)
  refine W.widen (k := 57 + 14 * 0) (n := 1180 + 113 * 0) (Nat.le_of_ble_eq_true rfl) (Nat.le_of_ble_eq_true rfl) ?_
  have hpp := pm_s (wX8 g qm z_X8) (wX7 g u.1 u.2.1 u.2.2.2.2.2.1 u.2.2.2.2.2.2.1 u.2.2.2.2.2.2.2.2) (wX0 g u.2.1 u.2.2.1 u.2.2.2.1 u.2.2.2.2.1) (wX3 g u.2.2.1 z_X3) (wX6 g u.2.2.2.1 z_X6) (wX5 g u.2.2.2.2.1 z_X5) (wX4 g u.2.2.2.2.2.1 z_X4) (wX2 g u.2.2.2.2.2.2.1 u.2.2.2.2.2.2.2.1 z_X2) (wX3 g u.2.2.2.2.2.2.2.1 z_X3) (wX1 g u.2.2.2.2.2.2.2.2 z_X1) (wAR g u.1 (fun _ => none))
  exact law_loop 2000 (Nat.le_refl _) hL C0 hC (u.1) (u.2.1) (u.2.2.1) (u.2.2.2.1) (u.2.2.2.2.1) (u.2.2.2.2.2.1) (u.2.2.2.2.2.2.1) (u.2.2.2.2.2.2.2.1) (u.2.2.2.2.2.2.2.2) qm (L + 1) 0 z_X3 z_X6 z_X5 z_X4 z_X2 z_X3 z_X1 z_X8 (fun _ => none) none none H locs ls (by omega) (by omega) z_LI (wp_perm hpp hP) (wd_perm hpp hD) hS (lv_sub hl [3, 2, 1, 0] rfl)
