/-! the skeleton's words (kit), and the law's loop -/
def lw_P (b : Addr) (xs : List Int32) (args : Array Value) (s : State) : Prop := args = #[.ref b] ∧ s.IntsAt b xs ∧ xs.length ≤ 3072 ∧ (Jvm.Cond.and given_1 narrow_1).before args s = true
def lw_Q (_ : Array Value) (s : State) (o : Outcome) (t : State) : Prop := o = .returned (some (.int 1)) ∧ Framed s o t [] 600000 7302250
def lw_Z (below : List Frame) (a : Array Value) (s : State) : State → Prop := fun t => ∃ o, t.status = .running ∧ Ended t below o ∧ lw_Q a s o t
/-- the law's own end, with 1 on the stack, nothing written that was there before, its room as the claim has it -/
theorem lw_ret {p : Program} {l : Launch} {e : Env} {s : State} {m : MethodId} {below : List Frame} {meth : Method} {c : Code} {b : Nat} (hx : p.tables.exec = Jvm.exec) (hb : c.code = code) (hr : meth.sig.returnType = ret) (hlocks : meth.locks = false) {pc : Nat} {H : Heap} {ls : Array Slot} (hdg : decode code pc = .ok (.ireturn, 1)) : W p l e room_1 s m #[Value.ref b] below meth c H [] 600000 7302250 (lw_Z below #[Value.ref b] s) (F0 m pc ls [.int 1]) := by
  intro T hT X
  obtain ⟨fs, hret, hrun, hended, hW, hframe⟩ := X.leave (v := some (.int 1)) (hlocks := hlocks) (fun h => by rw [hr] at h; cases h)
  have hmeth' : T.vm.method? m = some meth := X.method'
  refine ⟨T.setFrames fs, ?_, .returned (some (.int 1)), hrun, hended, rfl, ⟨_, rfl⟩, hW, hframe⟩
  jvm_step X.here [X.here.top, hx, hb, hdg, hmeth', hr, ret, narrow_b1]
  (try refine ⟨rfl, ?_⟩); (try refine ⟨rfl, ?_⟩)
  first | (intro acts; rw [hret _ acts rfl rfl rfl]) | rw [hret _ _ rfl rfl rfl]
  exact Steps.refl _
/-- what holds at the law's entry: the machine, the code, the tables' words (any of lw_tbl by 'hts w (by decide +kernel)'), the script of L ints xs at the cell b, what the Statement gives of the start (any of its parts by flat_of_before) -/
def lw_At (p : Program) (s : State) (m : MethodId) (meth : Method) (c : Code) (b L : Nat) (xs : Nat → Int32) : Prop :=
  p.tables.exec = Jvm.exec ∧ c.code = code ∧ meth.sig.returnType = ret ∧ c.maxLocals = 4 ∧ s.vm.findClass R_law = some m.cls ∧ (∀ w ∈ lw_tbl, w.before #[Value.ref b] s = true) ∧ va_X b L xs s s.heap ∧ b < s.heap.size ∧ meth.locks = false ∧ (Jvm.Cond.and given_1 narrow_1).before #[Value.ref b] s = true
set_option maxRecDepth 100000 in
set_option maxHeartbeats 2000000 in
/-- the law's loop: at its head, j calls made -/
theorem law_loop {p : Program} {l : Launch} {e : Env} {s : State} {m : MethodId} {below : List Frame} {meth : Method} {c : Code} {g : GG} {b L : Nat} {xs : Nat → Int32} (N : Nat) (hN : 2000 ≤ N) (hL : L ≤ 3072) (C0 : lw_At p s m meth c b L xs) (hC : Cx p s m #[Value.ref b] c RL cL_law 4 lw_tbl g) (q1 q2 q3 q4 q5 q6 q7 q8 q9 qm : Nat → Nat) : ∀ (n j : Nat) (O S T P D E B M : St) (f : Nat → Option Nat) (I0 I1 : Img) (H : Heap) (locs : List Loc) (ls : Array Slot), L < 6 * (j + n) → 6 * j ≤ L → LI O S T P M f I0 I1 → va_P g.1 vwCl (LW g q1 q2 q3 q4 q5 q6 q7 q8 q9 qm O S T P D E B M f I0 I1) H → va_D (fun q : Nat => s.heap.size ≤ q) (LW g q1 q2 q3 q4 q5 q6 q7 q8 q9 qm O S T P D E B M f I0 I1) → va_S (fun q : Nat => s.heap.size ≤ q) s.heap H locs → lv_has ls 4 [(0, .ref b), (1, .ref (q1 100)), (2, .ref (qm 100)), (3, .int (nI (6 * j)))] → W p l e room_1 s m #[Value.ref b] below meth c H locs (57 + 14 * j) (1180 + 113 * j) (lw_Z below #[Value.ref b] s) (F0 m 18 ls []) := by
  obtain ⟨hx, hb, hr, hml, hown, hts, hX, hbl, hlocks, hgv⟩ := C0
  have hA : ∀ q : Nat, s.heap.size ≤ q → (fun q : Nat => s.heap.size ≤ q) q := fun _ h => h
  have hbA : ¬ (fun q : Nat => s.heap.size ≤ q) b := Nat.not_le.mpr hbl
  intro n
  induction n with
  | zero => intro j O S T P D E B M f I0 I1 H locs ls h1 h2; omega
  | succ n ih =>
    intro j O S T P D E B M f I0 I1 H locs ls h1 h2 hLI hP hD hS hl
    refine lv_iload_n hx hb dL_law_18 rfl (lv_at hl 3 rfl) ?_
    refine lv_aload_n hx hb dL_law_19 rfl (lv_at hl 0 rfl) ?_
    refine va_slen hx hb hX hbl hbA hS dL_law_20 ?_
    refine lv_bipush (v := (6 : Int32)) hx hb dL_law_21 (by decide) ?_
    refine lv_isub hx hb dL_law_23 ?_
    have eL : (Int32.ofNat L - 6).toInt = (L : Int) - 6 := pk_sub_toInt (a := L) (b := 6) (by omega) (by omega)
    have eI : (nI (6 * j)).toInt = ((6 * j : Nat) : Int) := pv_nI _ (by omega)
    refine lv_icmp_gt (tgt := 1041) hx hb dL_law_24 (by decide) (fun c1 => ?_) (fun c1 => ?_)
    · refine lv_iconst (v := 1) hx hb dL_law_1041 (by decide) ?_
      refine va_forget (fun q hq => hS.2.2 q hq) ?_
      refine W.widen (k := 600000) (n := 7302250) (by omega) (by omega) ?_
      exact lw_ret hx hb hr hlocks dL_law_1042
    · rw [Int32.lt_iff_toInt_lt, eL, eI] at c1
      have hi : 6 * j + 6 ≤ L := by omega
      have K : LK p l e s m below meth c (lw_Z below #[Value.ref b] s) g b (6 * j) (57 + 14 * (j + 1)) (1180 + 113 * (j + 1)) q1 q2 q3 q4 q5 q6 q7 q8 q9 qm := by
        intro O S T P D E B M f I0 I1 H locs ls hLI hP hD hS hl
        refine lv_iinc (v := nI (6 * (j + 1))) (lv' := [(3, .int (nI (6 * (j + 1)))), (0, .ref b), (1, .ref (q1 100)), (2, .ref (qm 100))]) hx hb dL_law_1035 hl (k := 3) rfl (show nI (6 * j) + nI 6 = nI (6 * (j + 1)) by rw [nI_add]; congr 1) (by decide) rfl (fun ls hl => ?_)
        refine lv_goto (tgt := 18) hx hb dL_law_1038 (by decide) ?_
        exact ih (j + 1) O S T P D E B M f I0 I1 H locs ls (by omega) (by omega) hLI hP hD hS (lv_sub hl [1, 2, 3, 0] rfl)
      have hroom : 57 + 14 * (j + 1) ≤ 600000 ∧ 1180 + 113 * (j + 1) ≤ 7302250 := by omega
      refine lv_aload_n hx hb dL_law_27 rfl (lv_at hl 0 rfl) ?_
      refine lv_iload_n hx hb dL_law_28 rfl (lv_at hl 3 rfl) ?_
      refine va_sld hx hb hX hbl hbA hS (vp_in_nI (n := 6 * j) (by omega) (by omega)) dL_law_29 ?_
      refine lv_bipush (v := (31 : Int32)) hx hb dL_law_30 (by decide) ?_
      refine lv_iand hx hb dL_law_32 ?_
      obtain ⟨w, hw, ew⟩ := pk_andE (xs (nI (6 * j)).toNatClampNeg) (m := (31 : Int32)) 5 (by decide)
      refine k_eqi ew ?_
      rcases (show w = 0 ∨ w = 1 ∨ w = 2 ∨ w = 3 ∨ w = 4 ∨ w = 5 ∨ w = 6 ∨ w = 7 ∨ w = 8 ∨ w = 9 ∨ w = 10 ∨ w = 11 ∨ w = 12 ∨ w = 13 ∨ w = 14 ∨ w = 15 ∨ w = 16 ∨ w = 17 ∨ w = 18 ∨ w = 19 ∨ w = 20 ∨ w = 21 ∨ w = 22 ∨ w = 23 ∨ w = 24 ∨ w = 25 ∨ w = 26 ∨ w = 27 ∨ w = 28 ∨ w = 29 ∨ w = 30 ∨ w = 31 by omega) with rfl | rfl | rfl | rfl | rfl | rfl | rfl | rfl | rfl | rfl | rfl | rfl | rfl | rfl | rfl | rfl | rfl | rfl | rfl | rfl | rfl | rfl | rfl | rfl | rfl | rfl | rfl | rfl | rfl | rfl | rfl | rfl
      · refine lv_tableIn (tgt := 168) hx hb dL_law_33 (by decide) (by decide) rfl (by decide) ?_
        exact lc_oven N hN hC hX hbl hi hL hroom q1 q2 q3 q4 q5 q6 q7 q8 q9 qm K O S T P D E B M f I0 I1 H locs ls _ _ (by omega) (by omega) hLI hP hD hS hl
      · refine lv_tableIn (tgt := 201) hx hb dL_law_33 (by decide) (by decide) rfl (by decide) ?_
        exact lc_set N hN hC hX hbl hi hL hroom q1 q2 q3 q4 q5 q6 q7 q8 q9 qm K O S T P D E B M f I0 I1 H locs ls _ _ (by omega) (by omega) hLI hP hD hS hl
      · refine lv_tableIn (tgt := 234) hx hb dL_law_33 (by decide) (by decide) rfl (by decide) ?_
        exact lc_less N hN hC hX hbl hi hL hroom q1 q2 q3 q4 q5 q6 q7 q8 q9 qm K O S T P D E B M f I0 I1 H locs ls _ _ (by omega) (by omega) hLI hP hD hS hl
      · refine lv_tableIn (tgt := 267) hx hb dL_law_33 (by decide) (by decide) rfl (by decide) ?_
        exact lc_sort N hN hC hX hbl hi hL hroom q1 q2 q3 q4 q5 q6 q7 q8 q9 qm K O S T P D E B M f I0 I1 H locs ls _ _ (by omega) (by omega) hLI hP hD hS hl
      · refine lv_tableIn (tgt := 320) hx hb dL_law_33 (by decide) (by decide) rfl (by decide) ?_
        exact lc_apart N hN hC hX hbl hi hL hroom q1 q2 q3 q4 q5 q6 q7 q8 q9 qm K O S T P D E B M f I0 I1 H locs ls _ _ (by omega) (by omega) hLI hP hD hS hl
      · refine lv_tableIn (tgt := 379) hx hb dL_law_33 (by decide) (by decide) rfl (by decide) ?_
        exact lc_say N hN hC hX hbl hi hL hroom q1 q2 q3 q4 q5 q6 q7 q8 q9 qm K O S T P D E B M f I0 I1 H locs ls _ _ (by omega) (by omega) hLI hP hD hS hl
      · refine lv_tableIn (tgt := 402) hx hb dL_law_33 (by decide) (by decide) rfl (by decide) ?_
        exact lc_wipe N hN hC hX hbl hi hL hroom q1 q2 q3 q4 q5 q6 q7 q8 q9 qm K O S T P D E B M f I0 I1 H locs ls _ _ (by omega) (by omega) hLI hP hD hS hl
      · refine lv_tableIn (tgt := 415) hx hb dL_law_33 (by decide) (by decide) rfl (by decide) ?_
        exact lc_fault N hN hC hX hbl hi hL hroom q1 q2 q3 q4 q5 q6 q7 q8 q9 qm K O S T P D E B M f I0 I1 H locs ls _ _ (by omega) (by omega) hLI hP hD hS hl
      · refine lv_tableIn (tgt := 428) hx hb dL_law_33 (by decide) (by decide) rfl (by decide) ?_
        exact lc_judge N hN hC hX hbl hi hL hroom q1 q2 q3 q4 q5 q6 q7 q8 q9 qm K O S T P D E B M f I0 I1 H locs ls _ _ (by omega) (by omega) hLI hP hD hS hl
      · refine lv_tableIn (tgt := 451) hx hb dL_law_33 (by decide) (by decide) rfl (by decide) ?_
        exact lc_heat N hN hC hX hbl hi hL hroom q1 q2 q3 q4 q5 q6 q7 q8 q9 qm K O S T P D E B M f I0 I1 H locs ls _ _ (by omega) (by omega) hLI hP hD hS hl
      · refine lv_tableIn (tgt := 464) hx hb dL_law_33 (by decide) (by decide) rfl (by decide) ?_
        exact lc_behind N hN hC hX hbl hi hL hroom q1 q2 q3 q4 q5 q6 q7 q8 q9 qm K O S T P D E B M f I0 I1 H locs ls _ _ (by omega) (by omega) hLI hP hD hS hl
      · refine lv_tableIn (tgt := 507) hx hb dL_law_33 (by decide) (by decide) rfl (by decide) ?_
        exact lc_done N hN hC hX hbl hi hL hroom q1 q2 q3 q4 q5 q6 q7 q8 q9 qm K O S T P D E B M f I0 I1 H locs ls _ _ (by omega) (by omega) hLI hP hD hS hl
      · refine lv_tableIn (tgt := 520) hx hb dL_law_33 (by decide) (by decide) rfl (by decide) ?_
        exact lc_out N hN hC hX hbl hi hL hroom q1 q2 q3 q4 q5 q6 q7 q8 q9 qm K O S T P D E B M f I0 I1 H locs ls _ _ (by omega) (by omega) hLI hP hD hS hl
      · refine lv_tableIn (tgt := 543) hx hb dL_law_33 (by decide) (by decide) rfl (by decide) ?_
        exact lc_state N hN hC hX hbl hi hL hroom q1 q2 q3 q4 q5 q6 q7 q8 q9 qm K O S T P D E B M f I0 I1 H locs ls _ _ (by omega) (by omega) hLI hP hD hS hl
      · refine lv_tableIn (tgt := 586) hx hb dL_law_33 (by decide) (by decide) rfl (by decide) ?_
        exact lc_spoilt N hN hC hX hbl hi hL hroom q1 q2 q3 q4 q5 q6 q7 q8 q9 qm K O S T P D E B M f I0 I1 H locs ls _ _ (by omega) (by omega) hLI hP hD hS hl
      · refine lv_tableIn (tgt := 599) hx hb dL_law_33 (by decide) (by decide) rfl (by decide) ?_
        exact lc_ripe N hN hC hX hbl hi hL hroom q1 q2 q3 q4 q5 q6 q7 q8 q9 qm K O S T P D E B M f I0 I1 H locs ls _ _ (by omega) (by omega) hLI hP hD hS hl
      · refine lv_tableIn (tgt := 642) hx hb dL_law_33 (by decide) (by decide) rfl (by decide) ?_
        exact lc_hot N hN hC hX hbl hi hL hroom q1 q2 q3 q4 q5 q6 q7 q8 q9 qm K O S T P D E B M f I0 I1 H locs ls _ _ (by omega) (by omega) hLI hP hD hS hl
      · refine lv_tableIn (tgt := 665) hx hb dL_law_33 (by decide) (by decide) rfl (by decide) ?_
        exact lc_still N hN hC hX hbl hi hL hroom q1 q2 q3 q4 q5 q6 q7 q8 q9 qm K O S T P D E B M f I0 I1 H locs ls _ _ (by omega) (by omega) hLI hP hD hS hl
      · refine lv_tableIn (tgt := 688) hx hb dL_law_33 (by decide) (by decide) rfl (by decide) ?_
        exact lc_orders N hN hC hX hbl hi hL hroom q1 q2 q3 q4 q5 q6 q7 q8 q9 qm K O S T P D E B M f I0 I1 H locs ls _ _ (by omega) (by omega) hLI hP hD hS hl
      · refine lv_tableIn (tgt := 721) hx hb dL_law_33 (by decide) (by decide) rfl (by decide) ?_
        exact lc_two N hN hC hX hbl hi hL hroom q1 q2 q3 q4 q5 q6 q7 q8 q9 qm K O S T P D E B M f I0 I1 H locs ls _ _ (by omega) (by omega) hLI hP hD hS hl
      · refine lv_tableIn (tgt := 754) hx hb dL_law_33 (by decide) (by decide) rfl (by decide) ?_
        exact lc_warm N hN hC hX hbl hi hL hroom q1 q2 q3 q4 q5 q6 q7 q8 q9 qm K O S T P D E B M f I0 I1 H locs ls _ _ (by omega) (by omega) hLI hP hD hS hl
      · refine lv_tableIn (tgt := 777) hx hb dL_law_33 (by decide) (by decide) rfl (by decide) ?_
        exact lc_seen N hN hC hX hbl hi hL hroom q1 q2 q3 q4 q5 q6 q7 q8 q9 qm K O S T P D E B M f I0 I1 H locs ls _ _ (by omega) (by omega) hLI hP hD hS hl
      · refine lv_tableIn (tgt := 800) hx hb dL_law_33 (by decide) (by decide) rfl (by decide) ?_
        exact lc_forget N hN hC hX hbl hi hL hroom q1 q2 q3 q4 q5 q6 q7 q8 q9 qm K O S T P D E B M f I0 I1 H locs ls _ _ (by omega) (by omega) hLI hP hD hS hl
      · refine lv_tableIn (tgt := 813) hx hb dL_law_33 (by decide) (by decide) rfl (by decide) ?_
        exact lc_stood N hN hC hX hbl hi hL hroom q1 q2 q3 q4 q5 q6 q7 q8 q9 qm K O S T P D E B M f I0 I1 H locs ls _ _ (by omega) (by omega) hLI hP hD hS hl
      · refine lv_tableIn (tgt := 846) hx hb dL_law_33 (by decide) (by decide) rfl (by decide) ?_
        exact lc_both N hN hC hX hbl hi hL hroom q1 q2 q3 q4 q5 q6 q7 q8 q9 qm K O S T P D E B M f I0 I1 H locs ls _ _ (by omega) (by omega) hLI hP hD hS hl
      · refine lv_tableIn (tgt := 859) hx hb dL_law_33 (by decide) (by decide) rfl (by decide) ?_
        exact lc_winds N hN hC hX hbl hi hL hroom q1 q2 q3 q4 q5 q6 q7 q8 q9 qm K O S T P D E B M f I0 I1 H locs ls _ _ (by omega) (by omega) hLI hP hD hS hl
      · refine lv_tableIn (tgt := 923) hx hb dL_law_33 (by decide) (by decide) rfl (by decide) ?_
        exact lc_year N hN hC hX hbl hi hL hroom q1 q2 q3 q4 q5 q6 q7 q8 q9 qm K O S T P D E B M f I0 I1 H locs ls _ _ (by omega) (by omega) hLI hP hD hS hl
      · refine lv_tableIn (tgt := 966) hx hb dL_law_33 (by decide) (by decide) rfl (by decide) ?_
        exact lc_image N hN hC hX hbl hi hL hroom q1 q2 q3 q4 q5 q6 q7 q8 q9 qm K O S T P D E B M f I0 I1 H locs ls _ _ (by omega) (by omega) hLI hP hD hS hl
      · refine lv_tableIn (tgt := 989) hx hb dL_law_33 (by decide) (by decide) rfl (by decide) ?_
        exact lc_restore N hN hC hX hbl hi hL hroom q1 q2 q3 q4 q5 q6 q7 q8 q9 qm K O S T P D E B M f I0 I1 H locs ls _ _ (by omega) (by omega) hLI hP hD hS hl
      · refine lv_tableIn (tgt := 1012) hx hb dL_law_33 (by decide) (by decide) rfl (by decide) ?_
        exact lc_told N hN hC hX hbl hi hL hroom q1 q2 q3 q4 q5 q6 q7 q8 q9 qm K O S T P D E B M f I0 I1 H locs ls _ _ (by omega) (by omega) hLI hP hD hS hl
      · refine lv_tableOut (tgt := 1035) hx hb dL_law_33 (Or.inr (by decide)) (by decide) ?_
        refine W.widen (k := 57 + 14 * (j + 1)) (n := 1180 + 113 * (j + 1)) (by omega) (by omega) ?_
        exact K O S T P D E B M f I0 I1 H locs ls hLI hP hD hS hl
      · refine lv_tableOut (tgt := 1035) hx hb dL_law_33 (Or.inr (by decide)) (by decide) ?_
        refine W.widen (k := 57 + 14 * (j + 1)) (n := 1180 + 113 * (j + 1)) (by omega) (by omega) ?_
        exact K O S T P D E B M f I0 I1 H locs ls hLI hP hD hS hl
