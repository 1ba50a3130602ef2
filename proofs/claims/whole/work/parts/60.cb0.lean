/-! worlds up to their order; contracts that make cells -/
theorem wp_mem {D : va_G} {cl : List vw_C} {ws : va_W} {H : Heap} : va_P D cl ws H ↔ ∀ q, q ∈ ws → va_at D cl q H :=
  ⟨fun h q hq => by obtain ⟨i, hi⟩ := List.getElem?_of_mem hq; exact h i q hi, fun h k q hk => h q (List.mem_of_getElem? hk)⟩
theorem wd_mem {A : Nat → Prop} {ws : va_W} : va_D A ws ↔ ws.Pairwise (fun p q => p.1 ≠ q.1) ∧ ∀ q, q ∈ ws → A q.1 := by
  constructor
  · intro h
    refine ⟨List.pairwise_iff_getElem.mpr (fun i j hi hj hij z => ?_), fun q hq => ?_⟩
    · have := h.1 i j ws[i] ws[j] (List.getElem?_eq_getElem hi) (List.getElem?_eq_getElem hj) z
      omega
    · obtain ⟨i, hi⟩ := List.getElem?_of_mem hq
      exact h.2 i q hi
  · rintro ⟨h1, h2⟩
    have h1 := List.pairwise_iff_getElem.mp h1
    refine ⟨fun i j p q hp hq z => ?_, fun k q hk => h2 q (List.mem_of_getElem? hk)⟩
    obtain ⟨hi, ei⟩ := List.getElem?_eq_some_iff.mp hp
    obtain ⟨hj, ej⟩ := List.getElem?_eq_some_iff.mp hq
    rcases Nat.lt_trichotomy i j with c | c | c
    · exact absurd (by rw [ei, ej]; exact z) (h1 i j hi hj c)
    · exact c
    · exact absurd (by rw [ei, ej]; exact z.symm) (h1 j i hj hi c)
theorem wp_perm {D : va_G} {cl : List vw_C} {ws ws' : va_W} {H : Heap} (hp : ws.Perm ws') (h : va_P D cl ws H) : va_P D cl ws' H := wp_mem.mpr (fun q hq => wp_mem.mp h q (hp.mem_iff.mpr hq))
theorem wd_perm {A : Nat → Prop} {ws ws' : va_W} (hp : ws.Perm ws') (h : va_D A ws) : va_D A ws' := by
  obtain ⟨h1, h2⟩ := wd_mem.mp h
  exact wd_mem.mpr ⟨(hp.pairwise_iff (fun h => Ne.symm h)).mp h1, fun q hq => h2 q (hp.mem_iff.mpr hq)⟩
theorem wp_left {D : va_G} {cl : List vw_C} {a b : va_W} {H : Heap} (h : va_P D cl (a ++ b) H) : va_P D cl a H := wp_mem.mpr (fun q hq => wp_mem.mp h q (List.mem_append_left _ hq))
theorem wd_left {A : Nat → Prop} {a b : va_W} (h : va_D A (a ++ b)) : va_D A a := by
  obtain ⟨h1, h2⟩ := wd_mem.mp h
  exact wd_mem.mpr ⟨(List.pairwise_append.mp h1).1, fun q hq => h2 q (List.mem_append_left _ hq)⟩
theorem wa_mem {ws : va_W} {sz q : Nat} (h : va_A ws sz q) : (∃ e, (q, e) ∈ ws) ∨ sz ≤ q := by
  rcases h with ⟨k, e, h⟩ | h
  · exact Or.inl ⟨e, List.mem_of_getElem? h⟩
  · exact Or.inr h
theorem w_free {A0 : Nat → Prop} {wc wr : va_W} {H0 H : Heap} {locs : List Loc} (hD : va_D A0 (wc ++ wr)) (hS : va_S A0 H0 H locs) (hA : ∀ q, H0.size ≤ q → A0 q) : ∀ q, va_A wc H.size q → A0 q := by
  intro q h
  rcases wa_mem h with ⟨e, h⟩ | h
  · exact (wd_mem.mp hD).2 _ (List.mem_append_left _ h)
  · exact hA q (Nat.le_trans hS.1 h)
/-- behind a call: what came back beside what it did not have -/
theorem w_join {A0 : Nat → Prop} {D : va_G} {cl : List vw_C} {wc wr w1 : va_W} {H H1 : Heap} (hP : va_P D cl (wc ++ wr) H) (hD : va_D A0 (wc ++ wr)) (hk : ∀ q : Nat, q < H.size → ¬ va_A wc H.size q → H1[q]? = H[q]?) (hF : ∀ q, va_A wc H.size q → A0 q) (hP1 : va_P D cl w1 H1) (hD1 : va_D (va_A wc H.size) w1) : va_P D cl (w1 ++ wr) H1 ∧ va_D A0 (w1 ++ wr) := by
  have hP := wp_mem.mp hP
  obtain ⟨d1, d2⟩ := wd_mem.mp hD
  obtain ⟨e1, e2⟩ := wd_mem.mp hD1
  have hP1 := wp_mem.mp hP1
  obtain ⟨-, d4, d5⟩ := List.pairwise_append.mp d1
  have apart : ∀ q, q ∈ wr → q.1 < H.size ∧ ¬ va_A wc H.size q.1 := by
    intro q hq
    have hl := (hP q (List.mem_append_right _ hq)).lt
    refine ⟨hl, fun h => ?_⟩
    rcases wa_mem h with ⟨e, h⟩ | h
    · exact d5 _ h _ hq rfl
    · omega
  refine ⟨wp_mem.mpr (fun q hq => ?_), wd_mem.mpr ⟨List.pairwise_append.mpr ⟨e1, d4, fun a ha b hb z => ?_⟩, fun q hq => ?_⟩⟩
  · rcases List.mem_append.mp hq with h | h
    · exact hP1 q h
    · obtain ⟨g1, g2⟩ := apart q h
      exact (hP q (List.mem_append_right _ h)).kept (hk q.1 g1 g2)
  · exact (apart b hb).2 (by rw [← z]; exact e2 a ha)
  · rcases List.mem_append.mp hq with h | h
    · exact hF _ (e2 q h)
    · exact d2 q (List.mem_append_right _ h)
/-- a contract that makes cells: E is what more it needs of the machine's tables -/
def PreE (E : State → Prop) (g : GG) (w : va_W) (sz : Nat) (U : State) : Prop := Pre g w sz U ∧ E U
def CvN {U : Type} (E : State → Prop) (l : Launch) (y : MethodName) (wy : List Cond) (rm : Room) (g : GG) (av : List Value) (w : va_W) (mc ms : Nat) (post : U → Prop) (w' : U → va_W) : Prop := ∀ sz : Nat, Met l y wy rm (va_Pc av (PreE E g w sz)) (va_Qv post (fun u t => Pst g w (w' u) sz t) (va_A w sz)) mc ms (va_A w sz)
def CiN {U : Type} (E : State → Prop) (l : Launch) (y : MethodName) (wy : List Cond) (rm : Room) (g : GG) (av : List Value) (w : va_W) (mc ms : Nat) (post : Int32 → U → Prop) (w' : U → va_W) : Prop := ∀ sz : Nat, Met l y wy rm (va_Pc av (PreE E g w sz)) (va_Qi post (fun u t => Pst g w (w' u) sz t) (va_A w sz)) mc ms (va_A w sz)
def E0 : State → Prop := fun _ => True
def EA : State → Prop := va_AO "BrickOven$Bakery"
theorem EA.blind (a : Array Value) (U : State) (f : JFrame) (mk : MethodId) (h : EA U) : EA (U.calling f mk a) := va_AO.moved (u := U) (U := U.calling f mk a) (Vm.Alike.refl U.vm) h
theorem PreE.blind {E : State → Prop} (hE : ∀ (a : Array Value) (U : State) (f : JFrame) (mk : MethodId), E U → E (U.calling f mk a)) {g : GG} {w : va_W} {sz : Nat} {av : List Value} : FrameBlind (va_Pc av (PreE E g w sz)) := by
  intro a U f mk h
  obtain ⟨h0, h1, h2⟩ := h
  have := Pre.blind (g := g) (w := w) (sz := sz) (av := av) a U f mk ⟨h0, h1⟩
  exact ⟨this.1, this.2, hE a U f mk h2⟩
section CB1
variable {l : Launch} {y : MethodName} {wy ws' : List Cond} {rm : Room} {g : GG} {av : List Value} {w : va_W} {cc : ByteArray} {maxL mc ms : Nat} {ret : Option FieldType}
theorem Met.ofCN {Qc : Array Value → State → Outcome → State → Prop} {sz : Nat} {E : State → Prop} (hy : plainName y.cls = true) (hw : wy = Cond.code y cc maxL ret :: ws') (hlen : (lg_sl av).length ≤ maxL)
    (body : ∀ (p : Program) (e : Env) (s : State) (m : MethodId) (below : List Frame) (meth : Method) (c : Code), Cx p s m av.toArray c y.cls cc maxL wy g → meth.sig.returnType = ret → meth.locks = false → meth.name = y.name → E s → s.heap.size = sz → ∀ A : Nat → Prop, A = va_A w s.heap.size → (∀ q : Nat, s.heap.size ≤ q → A q) → va_P g.1 vwCl w s.heap → va_D A w → va_S A s.heap s.heap [] → ∀ ls : Array Slot, lv_has ls maxL (lv_args 0 av) →
      W p l e rm s m av.toArray below meth c s.heap [] 0 0 (MQ below Qc av.toArray s mc ms (va_A w sz)) (F0 m 0 ls [])) : Met l y wy rm (va_Pc av (PreE E g w sz)) Qc mc ms (va_A w sz) := by
  refine Met.ofW (cc := cc) (maxL := maxL) (ret := ret) hy hw ?_
  intro p e s m args below meth c s₁ B hml hv
  obtain ⟨rfl, ⟨hsz, hP, hK, hD0⟩, hE⟩ := hv
  have hts := atoms_spec (ws := wy) B.pre
  have hown : s.vm.findClass y.cls = some m.cls := findClass_of_methodNamed B.named
  have hl := lv_entry av (n := maxL) hlen
  rw [lg_entry_eq]
  exact body p e s m below meth c ⟨⟨B.exec, B.bytes, hml, hown, hts⟩, hK⟩ B.returns B.notSynchronized (name_of_methodNamed B.named B.method).1 hE hsz _ rfl (fun q h => Or.inr h) hP (hD0.self (sz := s.heap.size)) va_S.rf _ hl
end CB1
section CB2
variable {p : Program} {l : Launch} {e : Env} {R : Room} {s : State} {m : MethodId} {below : List Frame} {meth : Method} {c : Code} {H : Heap} {locs : List Loc} {own : String} {cc : ByteArray} {nL pc mc ms : Nat} {Ts : List Cond} {g : GG} {av : List Value} {w : va_W} {A : Nat → Prop} {ls : Array Slot} {U : Type} {w' : U → va_W}
theorem CvN.ret {post : U → Prop} (u : U) (hC : Cx p s m av.toArray c own cc nL Ts g) (hr : meth.sig.returnType = none) (hlk : meth.locks = false) (hA : A = va_A w s.heap.size) (hp : post u) (hP : va_P g.1 vwCl (w' u) H) (hD : va_D A (w' u)) (hS : va_S A s.heap H locs) (hd : decode cc pc = .ok (.return_, 1)) : W p l e R s m av.toArray below meth c H locs mc ms (MQ below (va_Qv post (fun u t => Pst g w (w' u) s.heap.size t) (va_A w s.heap.size)) av.toArray s mc ms (va_A w s.heap.size)) (F0 m pc ls []) := by
  subst hA
  exact W.vret hC.1.1 hC.1.2.1 hr (fun t ht hW => ⟨⟨u, rfl, hp, by rw [ht]; exact hP, hD⟩, hS.F ht⟩) hS.2.2 hd hlk
theorem CiN.ret {post : Int32 → U → Prop} {r : Int32} (u : U) (hC : Cx p s m av.toArray c own cc nL Ts g) (hr : meth.sig.returnType = some .int) (hlk : meth.locks = false) (hA : A = va_A w s.heap.size) (hp : post r u) (hP : va_P g.1 vwCl (w' u) H) (hD : va_D A (w' u)) (hS : va_S A s.heap H locs) (hd : decode cc pc = .ok (.ireturn, 1)) : W p l e R s m av.toArray below meth c H locs mc ms (MQ below (va_Qi post (fun u t => Pst g w (w' u) s.heap.size t) (va_A w s.heap.size)) av.toArray s mc ms (va_A w s.heap.size)) (F0 m pc ls [.int r]) := by
  subst hA
  exact W.iret (v := r) hC.1.1 hC.1.2.1 hr (fun t ht hW => ⟨⟨r, u, rfl, hp, by rw [ht]; exact hP, hD⟩, hS.F ht⟩) hS.2.2 hd hlk
end CB2
section CB3
variable {p : Program} {l : Launch} {e : Env} {R : Room} {s : State} {m : MethodId} {args : Array Value} {below : List Frame} {meth : Method} {c : Code} {H : Heap} {locs : List Loc} {cells slots : Nat} {Q : State → Prop} {cc : ByteArray} {pc : Nat} {ls : Array Slot} {rest : List Value} {own : String} {nL : Nat} {Ts : List Cond} {g : GG} {A : Nat → Prop} {H0 : Heap} {ws : va_W}
theorem k_newi {n : Int32} {n' : Nat} (hC : Cx p s m args c own cc nL Ts g) (harr : Cond.arrayClass .int ∈ Ts) (hP : va_P g.1 vwCl ws H) (hD : va_D A ws) (hS : va_S A H0 H locs) (hA : ∀ q, H0.size ≤ q → A q) (hn : ¬ n < 0) (hN : n.toNatClampNeg = n') (hbytes : n' * 4 ≤ 536870912) (hcells : cells + 1 ≤ R.cells) (hslots : slots + n' ≤ R.slots) (hdg : decode cc pc = .ok (.newarray .int, 2))
    (kk : ∀ (q : Nat) (H1 : Heap), va_P g.1 vwCl (ws ++ [(q, .inl (g.2.1, n', .inl (fun _ => 0)))]) H1 → va_D A (ws ++ [(q, .inl (g.2.1, n', .inl (fun _ => 0)))]) → va_S A H0 H1 locs → W p l e R s m args below meth c H1 locs (cells + 1) (slots + n') Q (F0 m (pc + 2) ls (.ref q :: rest))) : W p l e R s m args below meth c H locs cells slots Q (F0 m pc ls (.int n :: rest)) := by
  refine va_newa (atype := .int) (ty := .int) (a0 := (n', .inl (fun _ => 0))) hC.1.1 hC.1.2.1 (hC.1.2.2.2.2 _ harr) rfl hC.2.1 hP hD hS hA (fun cA => rfl) hn hN hbytes hcells hslots hdg (fun q cA H1 hK hP hD hS => ?_)
  have h1 : s.vm.findClass ("[" ++ (FieldType.int).toString) = some cA := (hK.2 3 (cA, .int) rfl).2
  have h2 : s.vm.findClass ("[" ++ (FieldType.int).toString) = some g.2.1 := (hC.2.1.2 0 (g.2.1, .int) rfl).2
  have e : cA = g.2.1 := Option.some.inj (h1.symm.trans h2)
  subst e
  exact kk q H1 hP hD hS
theorem k_newz {n : Int32} {n' : Nat} (hC : Cx p s m args c own cc nL Ts g) (harr : Cond.arrayClass .boolean ∈ Ts) (hP : va_P g.1 vwCl ws H) (hD : va_D A ws) (hS : va_S A H0 H locs) (hA : ∀ q, H0.size ≤ q → A q) (hn : ¬ n < 0) (hN : n.toNatClampNeg = n') (hbytes : n' * componentBytes .boolean ≤ 536870912) (hcells : cells + 1 ≤ R.cells) (hslots : slots + n' ≤ R.slots) (hdg : decode cc pc = .ok (.newarray .boolean, 2))
    (kk : ∀ (q : Nat) (H1 : Heap), va_P g.1 vwCl (ws ++ [(q, .inl (g.2.2.1, n', .inl (fun _ => 0)))]) H1 → va_D A (ws ++ [(q, .inl (g.2.2.1, n', .inl (fun _ => 0)))]) → va_S A H0 H1 locs → W p l e R s m args below meth c H1 locs (cells + 1) (slots + n') Q (F0 m (pc + 2) ls (.ref q :: rest))) : W p l e R s m args below meth c H locs cells slots Q (F0 m pc ls (.int n :: rest)) := by
  refine va_newa (atype := .boolean) (ty := .boolean) (a0 := (n', .inl (fun _ => 0))) hC.1.1 hC.1.2.1 (hC.1.2.2.2.2 _ harr) rfl hC.2.1 hP hD hS hA (fun cA => rfl) hn hN hbytes hcells hslots hdg (fun q cA H1 hK hP hD hS => ?_)
  have h1 : s.vm.findClass ("[" ++ (FieldType.boolean).toString) = some cA := (hK.2 3 (cA, .boolean) rfl).2
  have h2 : s.vm.findClass ("[" ++ (FieldType.boolean).toString) = some g.2.2.1 := (hC.2.1.2 1 (g.2.2.1, .boolean) rfl).2
  have e : cA = g.2.2.1 := Option.some.inj (h1.symm.trans h2)
  subst e
  exact kk q H1 hP hD hS
theorem k_newq {n : Int32} {n' index : Nat} (hC : Cx p s m args c own cc nL Ts g) (hE : EA s) (hlk : Cond.classLink own index "BrickOven$Bakery" ∈ Ts) (hP : va_P g.1 vwCl ws H) (hD : va_D A ws) (hS : va_S A H0 H locs) (hA : ∀ q, H0.size ≤ q → A q) (hn : ¬ n < 0) (hN : n.toNatClampNeg = n') (hbytes : n' * 4 ≤ 536870912) (hcells : cells + 1 ≤ R.cells) (hslots : slots + n' ≤ R.slots) (hdg : decode cc pc = .ok (.anewarray index, 3))
    (kk : ∀ (q : Nat) (H1 : Heap), va_P g.1 vwCl (ws ++ [(q, .inl (g.2.2.2, n', .inr (.inr (.inr (.inr (fun _ => none))))))]) H1 → va_D A (ws ++ [(q, .inl (g.2.2.2, n', .inr (.inr (.inr (.inr (fun _ => none))))))]) → va_S A H0 H1 locs → W p l e R s m args below meth c H1 locs (cells + 1) (slots + n') Q (F0 m (pc + 3) ls (.ref q :: rest))) : W p l e R s m args below meth c H locs cells slots Q (F0 m pc ls (.int n :: rest)) := by
  refine va_newq (C := "BrickOven$Bakery") hC.1.1 hC.1.2.1 hC.1.2.2.2.1 (hC.1.2.2.2.2 _ hlk) hE hC.2.1 hP hD hS hA hn hN hbytes hcells hslots hdg (fun q cA H1 hK hP hD hS => ?_)
  obtain ⟨-, -, -, -, -, h1⟩ := (hK.2 3 (cA, .object "BrickOven$Bakery") rfl).2
  obtain ⟨-, -, -, -, -, h2⟩ := (hC.2.1.2 2 (g.2.2.2, .object "BrickOven$Bakery") rfl).2
  have e : cA = g.2.2.2 := Option.some.inj (h1.symm.trans h2)
  subst e
  exact kk q H1 hP hD hS
/-- a nest mate's constructor -/
theorem k_ctorN {U : Type} {y : MethodName} {wy ws9 : List Cond} {rm : Room} {bytes : ByteArray} {maxL index a mc ms : Nat} {wc wr : va_W} {post : U → Prop} {w' : U → va_W} (hC : Cx p s m args c own cc nL Ts g) (hsz : ls.size = nL) (hM0 : CvN E0 l y wy rm g [.ref a] wc mc ms post w') (hw : wy = Cond.code y bytes maxL none :: ws9) (hg : GoodIn Ts wy) (hnest : Cond.methodLinkNest own index y "BrickOven" ∈ nests) (hini : Cond.initialized y.cls ∈ Ts) (hinst : Cond.instanceMethod y ∈ Ts) (hy : y.name = "<init>") (hd : y.cls ≠ "java/lang/invoke/MethodHandle" ∧ y.cls ≠ "java/lang/invoke/VarHandle" ∧ (parseMethodDescriptor y.desc).map (fun d => d.parameters.length) = some 0) (hR : rm.frames + 1 ≤ R.frames ∧ 8 + (maxL + 11) + rm.locals ≤ R.locals) (hrc : rm.cells = mc) (hrs : rm.slots = ms) (hrest : (rest.map fun v => v.category).sum ≤ 8) (hf : cells + mc ≤ R.cells ∧ slots + ms ≤ R.slots) (hdg : decode cc pc = .ok (.invokespecial index, 3)) (hP : va_P g.1 vwCl ws H) (hD : va_D A ws) (hS : va_S A H0 H locs) (hA : ∀ q, H0.size ≤ q → A q) (hp : ws.Perm (wc ++ wr))
    (kk : ∀ (u : U) (H1 : Heap) (locs1 : List Loc), post u → va_P g.1 vwCl (w' u ++ wr) H1 → va_D A (w' u ++ wr) → va_S A H0 H1 locs1 → W p l e R s m args below meth c H1 locs1 (cells + mc) (slots + ms) Q (F0 m (pc + 3) ls rest)) : W p l e R s m args below meth c H locs cells slots Q (F0 m pc ls (.ref a :: rest)) := by
  have hP := wp_perm hp hP
  have hD := wd_perm hp hD
  have hPc := wp_left hP
  have hDc := wd_left hD
  have hFc := w_free hD hS hA
  have hM := hM0 H.size
  refine va_callv (va_runIN (As := []) (rest := rest) hC.1 hM ⟨va_cnB 0 hC.1.2.2.2.2 hg hw hrc hrs (hC.2.2 _ hnest) (hC.1.2.2.2.2 _ hini) hd hR, hy, hC.1.2.2.2.2 _ hinst⟩ ⟨PreE.blind (fun _ _ _ _ h => h), fun U hU hW => ⟨rfl, ⟨by rw [hU], by rw [hU]; exact hPc, KN.warm hW hC.2, ⟨hDc.1, fun _ _ _ => trivial⟩⟩, trivial⟩⟩ rfl rfl hsz rfl (lv_room hrest) hdg hf) hS (fun q _ h => hFc q h) hFc (fun u t H1 locs1 ht hvm hw9 hB hz1 hk1 hS1 => ?_)
  obtain ⟨hP1, hD1⟩ := hB
  rw [ht] at hP1
  obtain ⟨hP2, hD2⟩ := w_join hP hD hk1 hFc hP1 hD1
  exact kk u H1 locs1 hw9 hP2 hD2 hS1
/-- a public constructor -/
theorem k_ctorL {U : Type} {E : State → Prop} {y : MethodName} {wy ws9 : List Cond} {rm : Room} {bytes : ByteArray} {maxL index a mc ms : Nat} {wc wr : va_W} {post : U → Prop} {w' : U → va_W} (hEb : ∀ (a : Array Value) (U : State) (f : JFrame) (mk : MethodId), E U → E (U.calling f mk a)) (hEw : ∀ U : State, s.WarmedH U.vm → E U) (hC : Cx p s m args c own cc nL Ts g) (hsz : ls.size = nL) (hM0 : CvN E l y wy rm g [.ref a] wc mc ms post w') (hw : wy = Cond.code y bytes maxL none :: ws9) (hg : GoodIn Ts wy) (hlink : Cond.methodLink own index y ∈ Ts) (hini : Cond.initialized y.cls ∈ Ts) (hinst : Cond.instanceMethod y ∈ Ts) (hy : y.name = "<init>") (hd : y.cls ≠ "java/lang/invoke/MethodHandle" ∧ y.cls ≠ "java/lang/invoke/VarHandle" ∧ (parseMethodDescriptor y.desc).map (fun d => d.parameters.length) = some 0) (hR : rm.frames + 1 ≤ R.frames ∧ 8 + (maxL + 11) + rm.locals ≤ R.locals) (hrc : rm.cells = mc) (hrs : rm.slots = ms) (hrest : (rest.map fun v => v.category).sum ≤ 8) (hf : cells + mc ≤ R.cells ∧ slots + ms ≤ R.slots) (hdg : decode cc pc = .ok (.invokespecial index, 3)) (hP : va_P g.1 vwCl ws H) (hD : va_D A ws) (hS : va_S A H0 H locs) (hA : ∀ q, H0.size ≤ q → A q) (hp : ws.Perm (wc ++ wr))
    (kk : ∀ (u : U) (H1 : Heap) (locs1 : List Loc), post u → va_P g.1 vwCl (w' u ++ wr) H1 → va_D A (w' u ++ wr) → va_S A H0 H1 locs1 → W p l e R s m args below meth c H1 locs1 (cells + mc) (slots + ms) Q (F0 m (pc + 3) ls rest)) : W p l e R s m args below meth c H locs cells slots Q (F0 m pc ls (.ref a :: rest)) := by
  have hP := wp_perm hp hP
  have hD := wd_perm hp hD
  have hPc := wp_left hP
  have hDc := wd_left hD
  have hFc := w_free hD hS hA
  have hM := hM0 H.size
  refine va_callv (va_runI (As := []) (rest := rest) hC.1 hM (cwI 0 hC.1.2.2.2.2 hg hw hrc hrs (hC.1.2.2.2.2 _ hini) (hC.1.2.2.2.2 _ hlink) (hC.1.2.2.2.2 _ hinst) hy hd hR) ⟨PreE.blind hEb, fun U hU hW => ⟨rfl, ⟨by rw [hU], by rw [hU]; exact hPc, KN.warm hW hC.2, ⟨hDc.1, fun _ _ _ => trivial⟩⟩, hEw U hW⟩⟩ rfl rfl hsz rfl (lv_room hrest) hdg hf) hS (fun q _ h => hFc q h) hFc (fun u t H1 locs1 ht hvm hw9 hB hz1 hk1 hS1 => ?_)
  obtain ⟨hP1, hD1⟩ := hB
  rw [ht] at hP1
  obtain ⟨hP2, hD2⟩ := w_join hP hD hk1 hFc hP1 hD1
  exact kk u H1 locs1 hw9 hP2 hD2 hS1
end CB3
