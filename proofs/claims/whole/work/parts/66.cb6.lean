/-! calls of methods, the world up to its order -/
section CB4
variable {p : Program} {l : Launch} {e : Env} {R : Room} {s : State} {m : MethodId} {args : Array Value} {below : List Frame} {meth : Method} {c : Code} {H : Heap} {locs : List Loc} {cells slots : Nat} {Q : State → Prop} {cc : ByteArray} {pc : Nat} {ls : Array Slot} {rest : List Value} {own : String} {nL : Nat} {Ts : List Cond} {g : GG} {A : Nat → Prop} {H0 : Heap} {ws : va_W}
variable {y : MethodName} {wy ws9 : List Cond} {rm : Room} {bytes : ByteArray} {maxL index n b : Nat} {ret : Option FieldType} {As : List Value} {wc wr w1 : va_W} {C : String} {ci qr Nc : Nat} {Tc : u_T} {fs : List Value}

theorem k_pVi {z : Int32} (hC : Cx p s m args c own cc nL Ts g) (hsz : ls.size = nL) (hM0 : Ci l y wy rm g (.ref b :: As) wc w1 z) (hw : wy = Cond.code y bytes maxL ret :: ws9) (hg : GoodIn Ts (wsV own index C y wy)) (hd : y.cls = C ∧ y.cls ≠ "java/lang/invoke/MethodHandle" ∧ y.cls ≠ "java/lang/invoke/VarHandle" ∧ (parseMethodDescriptor y.desc).map (fun d => d.parameters.length) = some n) (hc : vwCl[ci]? = some (C, Tc, Nc)) (he : wc[qr]? = some (b, .inr (ci, fs))) (hR : rm.frames + 1 ≤ R.frames ∧ 8 + (maxL + 11) + rm.locals ≤ R.locals) (hrc : rm.cells = 0) (hrs : rm.slots = 0) (hn : As.length = n) (hrest : (rest.map fun v => v.category).sum ≤ 8) (hf : cells + 0 ≤ R.cells ∧ slots + 0 ≤ R.slots) (hdg : decode cc pc = .ok (.invokevirtual index, 3)) (hP : va_P g.1 vwCl ws H) (hD : va_D A ws) (hS : va_S A H0 H locs) (hA : ∀ q, H0.size ≤ q → A q) (hp : ws.Perm (wc ++ wr))
    (kk : ∀ (H1 : Heap) (locs1 : List Loc), va_P g.1 vwCl (w1 ++ wr) H1 → va_D A (w1 ++ wr) → va_S A H0 H1 locs1 → W p l e R s m args below meth c H1 locs1 cells slots Q (F0 m (pc + 3) ls (.int z :: rest))) : W p l e R s m args below meth c H locs cells slots Q (F0 m pc ls (As.reverse ++ .ref b :: rest)) := by
  have hP := wp_perm hp hP
  have hD := wd_perm hp hD
  have hPc := wp_left hP
  have hDc := wd_left hD
  have hFc := w_free hD hS hA
  have hM := hM0 H.size
  refine va_calli (va_runV hC.1 hM (cwV n hC.1.2.2.2.2 hg hw hrc hrs hd hR) ⟨Pre.blind, va_recv hC.2.1 hPc hc he, fun U hU hW => ⟨rfl, by rw [hU], by rw [hU]; exact hPc, KN.warm hW hC.2, ⟨hDc.1, fun _ _ _ => trivial⟩⟩⟩ rfl hn hsz rfl (lv_room hrest) hdg hf) hS (fun q _ h => hFc q h) hFc (fun x u t H1 locs1 ht hvm hw9 hB hz1 hk1 hS1 => ?_)
  subst hw9
  obtain ⟨hP1, hD1⟩ := hB
  rw [ht] at hP1
  obtain ⟨hP2, hD2⟩ := w_join hP hD hk1 hFc hP1 hD1
  exact kk H1 locs1 hP2 hD2 hS1
theorem k_pVl {z : Int64} (hC : Cx p s m args c own cc nL Ts g) (hsz : ls.size = nL) (hM0 : Cl l y wy rm g (.ref b :: As) wc w1 z) (hw : wy = Cond.code y bytes maxL ret :: ws9) (hg : GoodIn Ts (wsV own index C y wy)) (hd : y.cls = C ∧ y.cls ≠ "java/lang/invoke/MethodHandle" ∧ y.cls ≠ "java/lang/invoke/VarHandle" ∧ (parseMethodDescriptor y.desc).map (fun d => d.parameters.length) = some n) (hc : vwCl[ci]? = some (C, Tc, Nc)) (he : wc[qr]? = some (b, .inr (ci, fs))) (hR : rm.frames + 1 ≤ R.frames ∧ 8 + (maxL + 11) + rm.locals ≤ R.locals) (hrc : rm.cells = 0) (hrs : rm.slots = 0) (hn : As.length = n) (hrest : (rest.map fun v => v.category).sum ≤ 8) (hf : cells + 0 ≤ R.cells ∧ slots + 0 ≤ R.slots) (hdg : decode cc pc = .ok (.invokevirtual index, 3)) (hP : va_P g.1 vwCl ws H) (hD : va_D A ws) (hS : va_S A H0 H locs) (hA : ∀ q, H0.size ≤ q → A q) (hp : ws.Perm (wc ++ wr))
    (kk : ∀ (H1 : Heap) (locs1 : List Loc), va_P g.1 vwCl (w1 ++ wr) H1 → va_D A (w1 ++ wr) → va_S A H0 H1 locs1 → W p l e R s m args below meth c H1 locs1 cells slots Q (F0 m (pc + 3) ls (.long z :: rest))) : W p l e R s m args below meth c H locs cells slots Q (F0 m pc ls (As.reverse ++ .ref b :: rest)) := by
  have hP := wp_perm hp hP
  have hD := wd_perm hp hD
  have hPc := wp_left hP
  have hDc := wd_left hD
  have hFc := w_free hD hS hA
  have hM := hM0 H.size
  refine va_calll (va_runV hC.1 hM (cwV n hC.1.2.2.2.2 hg hw hrc hrs hd hR) ⟨Pre.blind, va_recv hC.2.1 hPc hc he, fun U hU hW => ⟨rfl, by rw [hU], by rw [hU]; exact hPc, KN.warm hW hC.2, ⟨hDc.1, fun _ _ _ => trivial⟩⟩⟩ rfl hn hsz rfl (lv_room hrest) hdg hf) hS (fun q _ h => hFc q h) hFc (fun x u t H1 locs1 ht hvm hw9 hB hz1 hk1 hS1 => ?_)
  subst hw9
  obtain ⟨hP1, hD1⟩ := hB
  rw [ht] at hP1
  obtain ⟨hP2, hD2⟩ := w_join hP hD hk1 hFc hP1 hD1
  exact kk H1 locs1 hP2 hD2 hS1
theorem k_pVv (hC : Cx p s m args c own cc nL Ts g) (hsz : ls.size = nL) (hM0 : Cv l y wy rm g (.ref b :: As) wc w1) (hw : wy = Cond.code y bytes maxL ret :: ws9) (hg : GoodIn Ts (wsV own index C y wy)) (hd : y.cls = C ∧ y.cls ≠ "java/lang/invoke/MethodHandle" ∧ y.cls ≠ "java/lang/invoke/VarHandle" ∧ (parseMethodDescriptor y.desc).map (fun d => d.parameters.length) = some n) (hc : vwCl[ci]? = some (C, Tc, Nc)) (he : wc[qr]? = some (b, .inr (ci, fs))) (hR : rm.frames + 1 ≤ R.frames ∧ 8 + (maxL + 11) + rm.locals ≤ R.locals) (hrc : rm.cells = 0) (hrs : rm.slots = 0) (hn : As.length = n) (hrest : (rest.map fun v => v.category).sum ≤ 8) (hf : cells + 0 ≤ R.cells ∧ slots + 0 ≤ R.slots) (hdg : decode cc pc = .ok (.invokevirtual index, 3)) (hP : va_P g.1 vwCl ws H) (hD : va_D A ws) (hS : va_S A H0 H locs) (hA : ∀ q, H0.size ≤ q → A q) (hp : ws.Perm (wc ++ wr))
    (kk : ∀ (H1 : Heap) (locs1 : List Loc), va_P g.1 vwCl (w1 ++ wr) H1 → va_D A (w1 ++ wr) → va_S A H0 H1 locs1 → W p l e R s m args below meth c H1 locs1 cells slots Q (F0 m (pc + 3) ls (rest))) : W p l e R s m args below meth c H locs cells slots Q (F0 m pc ls (As.reverse ++ .ref b :: rest)) := by
  have hP := wp_perm hp hP
  have hD := wd_perm hp hD
  have hPc := wp_left hP
  have hDc := wd_left hD
  have hFc := w_free hD hS hA
  have hM := hM0 H.size
  refine va_callv (va_runV hC.1 hM (cwV n hC.1.2.2.2.2 hg hw hrc hrs hd hR) ⟨Pre.blind, va_recv hC.2.1 hPc hc he, fun U hU hW => ⟨rfl, by rw [hU], by rw [hU]; exact hPc, KN.warm hW hC.2, ⟨hDc.1, fun _ _ _ => trivial⟩⟩⟩ rfl hn hsz rfl (lv_room hrest) hdg hf) hS (fun q _ h => hFc q h) hFc (fun u t H1 locs1 ht hvm hw9 hB hz1 hk1 hS1 => ?_)
  obtain ⟨hP1, hD1⟩ := hB
  rw [ht] at hP1
  obtain ⟨hP2, hD2⟩ := w_join hP hD hk1 hFc hP1 hD1
  exact kk H1 locs1 hP2 hD2 hS1
theorem k_pVN {U : Type} {mc ms : Nat} {post : Int32 → U → Prop} {w' : U → va_W} (hC : Cx p s m args c own cc nL Ts g) (hsz : ls.size = nL) (hM0 : CiN E0 l y wy rm g (.ref b :: As) wc mc ms post w') (hw : wy = Cond.code y bytes maxL ret :: ws9) (hg : GoodIn Ts (wsV own index C y wy)) (hd : y.cls = C ∧ y.cls ≠ "java/lang/invoke/MethodHandle" ∧ y.cls ≠ "java/lang/invoke/VarHandle" ∧ (parseMethodDescriptor y.desc).map (fun d => d.parameters.length) = some n) (hc : vwCl[ci]? = some (C, Tc, Nc)) (he : wc[qr]? = some (b, .inr (ci, fs))) (hR : rm.frames + 1 ≤ R.frames ∧ 8 + (maxL + 11) + rm.locals ≤ R.locals) (hrc : rm.cells = mc) (hrs : rm.slots = ms) (hn : As.length = n) (hrest : (rest.map fun v => v.category).sum ≤ 8) (hf : cells + mc ≤ R.cells ∧ slots + ms ≤ R.slots) (hdg : decode cc pc = .ok (.invokevirtual index, 3)) (hP : va_P g.1 vwCl ws H) (hD : va_D A ws) (hS : va_S A H0 H locs) (hA : ∀ q, H0.size ≤ q → A q) (hp : ws.Perm (wc ++ wr))
    (kk : ∀ (z : Int32) (u : U) (H1 : Heap) (locs1 : List Loc), post z u → va_P g.1 vwCl (w' u ++ wr) H1 → va_D A (w' u ++ wr) → va_S A H0 H1 locs1 → W p l e R s m args below meth c H1 locs1 (cells + mc) (slots + ms) Q (F0 m (pc + 3) ls (.int z :: rest))) : W p l e R s m args below meth c H locs cells slots Q (F0 m pc ls (As.reverse ++ .ref b :: rest)) := by
  have hP := wp_perm hp hP
  have hD := wd_perm hp hD
  have hPc := wp_left hP
  have hDc := wd_left hD
  have hFc := w_free hD hS hA
  have hM := hM0 H.size
  refine va_calli (va_runV hC.1 hM (cwV n hC.1.2.2.2.2 hg hw hrc hrs hd hR) ⟨PreE.blind (fun _ _ _ _ h => h), va_recv hC.2.1 hPc hc he, fun U hU hW => ⟨rfl, ⟨by rw [hU], by rw [hU]; exact hPc, KN.warm hW hC.2, ⟨hDc.1, fun _ _ _ => trivial⟩⟩, trivial⟩⟩ rfl hn hsz rfl (lv_room hrest) hdg hf) hS (fun q _ h => hFc q h) hFc (fun x u t H1 locs1 ht hvm hw9 hB hz1 hk1 hS1 => ?_)
  obtain ⟨hP1, hD1⟩ := hB
  rw [ht] at hP1
  obtain ⟨hP2, hD2⟩ := w_join hP hD hk1 hFc hP1 hD1
  exact kk x u H1 locs1 hw9 hP2 hD2 hS1
end CB4
