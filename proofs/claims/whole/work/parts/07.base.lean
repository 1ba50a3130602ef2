/-! the state of a leaf object: its ints by slot, its int rows by slot; the semantic functions' words (fx_); contracts (Ci, Cv, Cl); rows over them (k_) -/
abbrev St : Type := (Nat → Int32) × (Nat → Nat → Int32)
abbrev GG : Type := va_G × ClassId × ClassId × ClassId
def stI (S : St) (k : Nat) (v : Int32) : St := (upd S.1 k v, S.2)
def stA (S : St) (k : Nat) (f : Nat → Int32) : St := (S.1, fun j => if j = k then f else S.2 j)
def fx_lt {α ρ : Type} (x : α) (k : α → Option ρ) : Option ρ := k x
def fx_ald {ρ : Type} (n : Nat) (f : Nat → Int32) (i : Int32) (k : Int32 → Option ρ) : Option ρ := if i < 0 ∨ n ≤ i.toNatClampNeg then none else k (f i.toNatClampNeg)
def fx_ast {ρ : Type} (n : Nat) (S : St) (a : Nat) (i x : Int32) (k : St → Option ρ) : Option ρ := if i < 0 ∨ n ≤ i.toNatClampNeg then none else k (stA S a (upd (S.2 a) i.toNatClampNeg x))
def fx_nz {ρ : Type} (y : Int32) (k : Option ρ) : Option ρ := if y = 0 then none else k
def fx_nzl {ρ : Type} (y : Int64) (k : Option ρ) : Option ρ := if y = 0 then none else k
def fx_bz {ρ : Type} (v : Int32) (k : Option ρ) : Option ρ := if v = 0 ∨ v = 1 then k else none
def fx_cpy {ρ : Type} (n0 : Nat) (F : Nat → Int32) (n1 : Nat) (S : St) (k : Nat) (sp dp n : Int32) (f : St → Option ρ) : Option ρ := if sp < 0 ∨ dp < 0 ∨ n < 0 ∨ n0 < sp.toNatClampNeg + n.toNatClampNeg ∨ n1 < dp.toNatClampNeg + n.toNatClampNeg then none else f (stA S k (va_cpy F (S.2 k) sp.toNatClampNeg dp.toNatClampNeg n.toNatClampNeg))
def fx_ok {ρ : Type} (b : Bool) (k : Option ρ) : Option ρ := if b = true then k else none
def fx_b1 {α ρ : Type} (o : Option α) (k : α → Option ρ) : Option ρ := match o with | none => none | some a => k a
def fx_b2 {α β ρ : Type} (o : Option (α × β)) (k : α → β → Option ρ) : Option ρ := match o with | none => none | some a => k a.1 a.2
def fx_b3 {α β γ ρ : Type} (o : Option (α × β × γ)) (k : α → β → γ → Option ρ) : Option ρ := match o with | none => none | some a => k a.1 a.2.1 a.2.2
def fx_b4 {α β γ δ ρ : Type} (o : Option (α × β × γ × δ)) (k : α → β → γ → δ → Option ρ) : Option ρ := match o with | none => none | some a => k a.1 a.2.1 a.2.2.1 a.2.2.2
def fx_b5 {α β γ δ ε ρ : Type} (o : Option (α × β × γ × δ × ε)) (k : α → β → γ → δ → ε → Option ρ) : Option ρ := match o with | none => none | some a => k a.1 a.2.1 a.2.2.1 a.2.2.2.1 a.2.2.2.2
def fx_b6 {α β γ δ ε ζ ρ : Type} (o : Option (α × β × γ × δ × ε × ζ)) (k : α → β → γ → δ → ε → ζ → Option ρ) : Option ρ := match o with | none => none | some a => k a.1 a.2.1 a.2.2.1 a.2.2.2.1 a.2.2.2.2.1 a.2.2.2.2.2
/-- a loop: its body gets the way back to its head; fuel -/
def fx_it {σ ρ : Type} (b : σ → (σ → Option ρ) → Option ρ) : Nat → σ → Option ρ
  | 0, _ => none
  | n + 1, x => b x (fx_it b n)
theorem fx_b1_s {α ρ : Type} {o : Option α} {k : α → Option ρ} {r : ρ} (h : fx_b1 o k = some r) : ∃ a, o = some a ∧ k a = some r := by
  cases o with
  | none => cases h
  | some a => exact ⟨a, rfl, h⟩
theorem fx_b2_s {α β ρ : Type} {o : Option (α × β)} {k : α → β → Option ρ} {r : ρ} (h : fx_b2 o k = some r) : ∃ a b, o = some (a, b) ∧ k a b = some r := by
  cases o with
  | none => cases h
  | some a => exact ⟨_, _, rfl, h⟩
theorem fx_b3_s {α β γ ρ : Type} {o : Option (α × β × γ)} {k : α → β → γ → Option ρ} {r : ρ} (h : fx_b3 o k = some r) : ∃ a b c, o = some (a, b, c) ∧ k a b c = some r := by
  cases o with
  | none => cases h
  | some a => exact ⟨_, _, _, rfl, h⟩
theorem fx_b4_s {α β γ δ ρ : Type} {o : Option (α × β × γ × δ)} {k : α → β → γ → δ → Option ρ} {r : ρ} (h : fx_b4 o k = some r) : ∃ a b c d, o = some (a, b, c, d) ∧ k a b c d = some r := by
  cases o with
  | none => cases h
  | some a => exact ⟨_, _, _, _, rfl, h⟩
theorem fx_b5_s {α β γ δ ε ρ : Type} {o : Option (α × β × γ × δ × ε)} {k : α → β → γ → δ → ε → Option ρ} {r : ρ} (h : fx_b5 o k = some r) : ∃ a b c d e, o = some (a, b, c, d, e) ∧ k a b c d e = some r := by
  cases o with
  | none => cases h
  | some a => exact ⟨_, _, _, _, _, rfl, h⟩
theorem fx_b6_s {α β γ δ ε ζ ρ : Type} {o : Option (α × β × γ × δ × ε × ζ)} {k : α → β → γ → δ → ε → ζ → Option ρ} {r : ρ} (h : fx_b6 o k = some r) : ∃ a b c d e f, o = some (a, b, c, d, e, f) ∧ k a b c d e f = some r := by
  cases o with
  | none => cases h
  | some a => exact ⟨_, _, _, _, _, _, rfl, h⟩
theorem fx_i1 {α : Type} {a a' : α} (h : some a = some a') : a' = a := (Option.some.inj h).symm
theorem fx_i2 {α β : Type} {a a' : α} {b b' : β} (h : some (a, b) = some (a', b')) : a' = a ∧ b' = b := by cases h; exact ⟨rfl, rfl⟩
theorem fx_i3 {α β γ : Type} {a a' : α} {b b' : β} {c c' : γ} (h : some (a, b, c) = some (a', b', c')) : a' = a ∧ b' = b ∧ c' = c := by cases h; exact ⟨rfl, rfl, rfl⟩
theorem fx_i4 {α β γ δ : Type} {a a' : α} {b b' : β} {c c' : γ} {d d' : δ} (h : some (a, b, c, d) = some (a', b', c', d')) : a' = a ∧ b' = b ∧ c' = c ∧ d' = d := by cases h; exact ⟨rfl, rfl, rfl, rfl⟩
theorem fx_i5 {α β γ δ ε : Type} {a a' : α} {b b' : β} {c c' : γ} {d d' : δ} {e e' : ε} (h : some (a, b, c, d, e) = some (a', b', c', d', e')) : a' = a ∧ b' = b ∧ c' = c ∧ d' = d ∧ e' = e := by cases h; exact ⟨rfl, rfl, rfl, rfl, rfl⟩
theorem fx_i6 {α β γ δ ε ζ : Type} {a a' : α} {b b' : β} {c c' : γ} {d d' : δ} {e e' : ε} {f f' : ζ} (h : some (a, b, c, d, e, f) = some (a', b', c', d', e', f')) : a' = a ∧ b' = b ∧ c' = c ∧ d' = d ∧ e' = e ∧ f' = f := by cases h; exact ⟨rfl, rfl, rfl, rfl, rfl, rfl⟩
theorem fx_nz_s {ρ : Type} {y : Int32} {k : Option ρ} {r : ρ} (h : fx_nz y k = some r) : ¬ y = 0 ∧ k = some r := by
  unfold fx_nz at h
  by_cases c : y = 0
  · rw [if_pos c] at h; cases h
  · rw [if_neg c] at h; exact ⟨c, h⟩
theorem fx_nzl_s {ρ : Type} {y : Int64} {k : Option ρ} {r : ρ} (h : fx_nzl y k = some r) : ¬ y = 0 ∧ k = some r := by
  unfold fx_nzl at h
  by_cases c : y = 0
  · rw [if_pos c] at h; cases h
  · rw [if_neg c] at h; exact ⟨c, h⟩
theorem fx_ok_s {ρ : Type} {b : Bool} {k : Option ρ} {r : ρ} (h : fx_ok b k = some r) : b = true ∧ k = some r := by
  unfold fx_ok at h
  by_cases c : b = true
  · rw [if_pos c] at h; exact ⟨c, h⟩
  · rw [if_neg c] at h; cases h
theorem fx_bz_s {ρ : Type} {v : Int32} {k : Option ρ} {r : ρ} (h : fx_bz v k = some r) : (narrow .boolean (.int v) = .int v ∧ fits .boolean (.int v) = true) ∧ k = some r := by
  unfold fx_bz at h
  by_cases c : v = 0 ∨ v = 1
  · rw [if_pos c] at h
    refine ⟨?_, h⟩
    rcases c with rfl | rfl <;> exact ⟨rfl, rfl⟩
  · rw [if_neg c] at h; cases h
def tyG (g : GG) : List (ClassId × FieldType) := [(g.2.1, .int), (g.2.2.1, .boolean), (g.2.2.2, .object "BrickOven$Bakery")]
def nests : List Cond := [.methodLinkNest RX7 22 yX4_init "BrickOven", .methodLinkNest RX7 29 yX2_init "BrickOven", .methodLinkNest RX7 36 yX1_init "BrickOven", .methodLinkNest RX7 9 yX0_init "BrickOven", .methodLinkNest RX0 18 yX6_init "BrickOven", .methodLinkNest RX0 25 yX5_init "BrickOven", .methodLinkNest RX0 9 yX3_init "BrickOven", .methodLinkNest RX1 70 yX7_firstMinute "BrickOven", .methodLinkNest RX2 11 yX3_init "BrickOven", .methodLinkNest RX3 59 yX7_within "BrickOven", .methodLinkNest RX4 19 yX7_within "BrickOven", .methodLinkNest RX6 34 yX7_isKind "BrickOven"]
theorem nests_form : ∀ w ∈ nests, ∃ (a : String) (i : Nat) (y : MethodName) (h : String), w = Cond.methodLinkNest a i y h := by
  intro w hw
  simp only [nests, List.mem_cons, List.not_mem_nil, or_false] at hw
  rcases hw with rfl | rfl | rfl | rfl | rfl | rfl | rfl | rfl | rfl | rfl | rfl | rfl <;> exact ⟨_, _, _, _, rfl⟩
def KN (g : GG) (U : State) : Prop := va_K g.1 vwCl (tyG g) U ∧ ∀ w ∈ nests, va_Nw w U
theorem KN.warm {g : GG} {s U : State} (hW : s.WarmedH U.vm) (h : KN g s) : KN g U := by
  refine ⟨va_K.moved hW.alike h.1, fun w hw => ?_⟩
  obtain ⟨a, i, y, k, rfl⟩ := nests_form w hw
  exact va_Nw.warmM hW (h.2 _ hw)
theorem KN.blind {g : GG} {U V : State} (hv : U.vm = V.vm) (h : KN g U) : KN g V := by
  refine ⟨va_K.moved (by rw [hv]; exact Vm.Alike.refl V.vm) h.1, fun w hw => ?_⟩
  obtain ⟨a, i, y, k, rfl⟩ := nests_form w hw
  exact va_Nw.same rfl hv (h.2 _ hw)
/-- what a walk of a method's body stands on -/
def Cx (p : Program) (s : State) (m : MethodId) (args : Array Value) (c : Code) (own : String) (cc : ByteArray) (nL : Nat) (Ts : List Cond) (g : GG) : Prop := CallFix p m c cc nL s args Ts own ∧ KN g s
def Pre (g : GG) (w : va_W) (sz : Nat) (U : State) : Prop := U.heap.size = sz ∧ va_P g.1 vwCl w U.heap ∧ KN g U ∧ va_D (fun _ => True) w
def Pst (g : GG) (w w' : va_W) (sz : Nat) (t : State) : Prop := va_P g.1 vwCl w' t.heap ∧ va_D (va_A w sz) w'
theorem Pre.blind {g : GG} {w : va_W} {sz : Nat} {av : List Value} : FrameBlind (va_Pc av (Pre g w sz)) := by
  intro a U f mk h
  obtain ⟨h0, h1, h2, h3, h4⟩ := h
  exact ⟨h0, h1, h2, KN.blind (U := U) (V := U.calling f mk a) rfl h3, h4⟩
def Ci (l : Launch) (y : MethodName) (wy : List Cond) (rm : Room) (g : GG) (av : List Value) (w w' : va_W) (r : Int32) : Prop := ∀ sz : Nat, Met l y wy rm (va_Pc av (Pre g w sz)) (va_Qi (fun x (_ : Unit) => x = r) (fun _ t => Pst g w w' sz t) (va_A w sz)) 0 0 (va_A w sz)
def Cl (l : Launch) (y : MethodName) (wy : List Cond) (rm : Room) (g : GG) (av : List Value) (w w' : va_W) (r : Int64) : Prop := ∀ sz : Nat, Met l y wy rm (va_Pc av (Pre g w sz)) (va_Ql (fun x (_ : Unit) => x = r) (fun _ t => Pst g w w' sz t) (va_A w sz)) 0 0 (va_A w sz)
def Cv (l : Launch) (y : MethodName) (wy : List Cond) (rm : Room) (g : GG) (av : List Value) (w w' : va_W) : Prop := ∀ sz : Nat, Met l y wy rm (va_Pc av (Pre g w sz)) (va_Qv (fun (_ : Unit) => True) (fun _ t => Pst g w w' sz t) (va_A w sz)) 0 0 (va_A w sz)
def Qi (below : List Frame) (g : GG) (av : List Value) (w w' : va_W) (r : Int32) (s : State) : State → Prop := MQ below (va_Qi (fun x (_ : Unit) => x = r) (fun _ t => Pst g w w' s.heap.size t) (va_A w s.heap.size)) av.toArray s 0 0 (va_A w s.heap.size)
def Ql (below : List Frame) (g : GG) (av : List Value) (w w' : va_W) (r : Int64) (s : State) : State → Prop := MQ below (va_Ql (fun x (_ : Unit) => x = r) (fun _ t => Pst g w w' s.heap.size t) (va_A w s.heap.size)) av.toArray s 0 0 (va_A w s.heap.size)
def Qv (below : List Frame) (g : GG) (av : List Value) (w w' : va_W) (s : State) : State → Prop := MQ below (va_Qv (fun (_ : Unit) => True) (fun _ t => Pst g w w' s.heap.size t) (va_A w s.heap.size)) av.toArray s 0 0 (va_A w s.heap.size)
section BASE1
variable {l : Launch} {y : MethodName} {wy ws' : List Cond} {rm : Room} {g : GG} {av : List Value} {w w' : va_W} {cc : ByteArray} {maxL : Nat} {ret : Option FieldType}
theorem Met.ofC {Qc : Array Value → State → Outcome → State → Prop} {sz : Nat} (hy : plainName y.cls = true) (hw : wy = Cond.code y cc maxL ret :: ws') (hlen : (lg_sl av).length ≤ maxL)
    (body : ∀ (p : Program) (e : Env) (s : State) (m : MethodId) (below : List Frame) (meth : Method) (c : Code), Cx p s m av.toArray c y.cls cc maxL wy g → meth.sig.returnType = ret → meth.locks = false → s.heap.size = sz → ∀ A : Nat → Prop, A = va_A w s.heap.size → (∀ q : Nat, s.heap.size ≤ q → A q) → va_P g.1 vwCl w s.heap → va_D A w → va_S A s.heap s.heap [] → ∀ ls : Array Slot, lv_has ls maxL (lv_args 0 av) →
      W p l e rm s m av.toArray below meth c s.heap [] 0 0 (MQ below Qc av.toArray s 0 0 (va_A w sz)) (F0 m 0 ls [])) : Met l y wy rm (va_Pc av (Pre g w sz)) Qc 0 0 (va_A w sz) := by
  refine Met.ofW (cc := cc) (maxL := maxL) (ret := ret) hy hw ?_
  intro p e s m args below meth c s₁ B hml hv
  obtain ⟨rfl, hsz, hP, hK, hD0⟩ := hv
  have hts := atoms_spec (ws := wy) B.pre
  have hown : s.vm.findClass y.cls = some m.cls := findClass_of_methodNamed B.named
  have hl := lv_entry av (n := maxL) hlen
  rw [lg_entry_eq]
  exact body p e s m below meth c ⟨⟨B.exec, B.bytes, hml, hown, hts⟩, hK⟩ B.returns B.notSynchronized hsz _ rfl (fun q h => Or.inr h) hP (hD0.self (sz := s.heap.size)) va_S.rf _ hl
end BASE1
section BASE2
variable {p : Program} {l : Launch} {e : Env} {R : Room} {s : State} {m : MethodId} {below : List Frame} {meth : Method} {c : Code} {H : Heap} {locs : List Loc} {own : String} {cc : ByteArray} {nL pc : Nat} {Ts : List Cond} {g : GG} {av : List Value} {w w' : va_W} {A : Nat → Prop} {ls : Array Slot}
theorem Ci.ret {r : Int32} (hC : Cx p s m av.toArray c own cc nL Ts g) (hr : meth.sig.returnType = some .int) (hlk : meth.locks = false) (hA : A = va_A w s.heap.size) (hP : va_P g.1 vwCl w' H) (hD : va_D A w') (hS : va_S A s.heap H locs) (hd : decode cc pc = .ok (.ireturn, 1)) : W p l e R s m av.toArray below meth c H locs 0 0 (Qi below g av w w' r s) (F0 m pc ls [.int r]) := by
  subst hA
  exact W.iret (v := r) hC.1.1 hC.1.2.1 hr (fun t ht hW => ⟨⟨r, (), rfl, rfl, by rw [ht]; exact hP, hD⟩, hS.F ht⟩) hS.2.2 hd hlk
theorem Ci.retz {r : Int32} (hC : Cx p s m av.toArray c own cc nL Ts g) (hr : meth.sig.returnType = some .boolean) (hlk : meth.locks = false) (hn : narrow .boolean (.int r) = .int r) (hA : A = va_A w s.heap.size) (hP : va_P g.1 vwCl w' H) (hD : va_D A w') (hS : va_S A s.heap H locs) (hd : decode cc pc = .ok (.ireturn, 1)) : W p l e R s m av.toArray below meth c H locs 0 0 (Qi below g av w w' r s) (F0 m pc ls [.int r]) := by
  subst hA
  exact W.zret (v := r) (ty := .boolean) hC.1.1 hC.1.2.1 hr hn (fun t ht hW => ⟨⟨r, (), rfl, rfl, by rw [ht]; exact hP, hD⟩, hS.F ht⟩) hS.2.2 hd hlk
theorem Cl.ret {r : Int64} (hC : Cx p s m av.toArray c own cc nL Ts g) (hr : meth.sig.returnType = some .long) (hlk : meth.locks = false) (hA : A = va_A w s.heap.size) (hP : va_P g.1 vwCl w' H) (hD : va_D A w') (hS : va_S A s.heap H locs) (hd : decode cc pc = .ok (.lreturn, 1)) : W p l e R s m av.toArray below meth c H locs 0 0 (Ql below g av w w' r s) (F0 m pc ls [.long r]) := by
  subst hA
  exact W.lret (v := r) hC.1.1 hC.1.2.1 hr (fun t ht hW => ⟨⟨r, (), rfl, rfl, by rw [ht]; exact hP, hD⟩, hS.F ht⟩) hS.2.2 hd hlk
theorem Cv.ret (hC : Cx p s m av.toArray c own cc nL Ts g) (hr : meth.sig.returnType = none) (hlk : meth.locks = false) (hA : A = va_A w s.heap.size) (hP : va_P g.1 vwCl w' H) (hD : va_D A w') (hS : va_S A s.heap H locs) (hd : decode cc pc = .ok (.return_, 1)) : W p l e R s m av.toArray below meth c H locs 0 0 (Qv below g av w w' s) (F0 m pc ls []) := by
  subst hA
  exact W.vret hC.1.1 hC.1.2.1 hr (fun t ht hW => ⟨⟨(), rfl, trivial, by rw [ht]; exact hP, hD⟩, hS.F ht⟩) hS.2.2 hd hlk
end BASE2
theorem part_P {D : va_G} {cl : List vw_C} {isC : List Nat} {ws wc : va_W} {H : Heap} (hP : va_P D cl ws H) (hC : isC.map (fun i => ws[i]?) = wc.map some) : va_P D cl wc H := by
  intro k q hq
  have e1 : (isC.map (fun i => ws[i]?))[k]? = some (some q) := by rw [hC, List.getElem?_map, hq]; rfl
  rw [List.getElem?_map] at e1
  cases hi : isC[k]? with
  | none => rw [hi] at e1; cases e1
  | some i => rw [hi] at e1; exact hP i q (Option.some.inj e1)
theorem fx_j2 {α β : Type} {a a' : α} {b b' : β} (h : (a, b) = (a', b')) : a = a' ∧ b = b' := by cases h; exact ⟨rfl, rfl⟩
theorem fx_j3 {α β γ : Type} {a a' : α} {b b' : β} {c c' : γ} (h : (a, b, c) = (a', b', c')) : a = a' ∧ b = b' ∧ c = c' := by cases h; exact ⟨rfl, rfl, rfl⟩
theorem fx_j4 {α β γ δ : Type} {a a' : α} {b b' : β} {c c' : γ} {d d' : δ} (h : (a, b, c, d) = (a', b', c', d')) : a = a' ∧ b = b' ∧ c = c' ∧ d = d' := by cases h; exact ⟨rfl, rfl, rfl, rfl⟩
theorem fx_j5 {α β γ δ ε : Type} {a a' : α} {b b' : β} {c c' : γ} {d d' : δ} {e e' : ε} (h : (a, b, c, d, e) = (a', b', c', d', e')) : a = a' ∧ b = b' ∧ c = c' ∧ d = d' ∧ e = e' := by cases h; exact ⟨rfl, rfl, rfl, rfl, rfl⟩
theorem fx_j6 {α β γ δ ε ζ : Type} {a a' : α} {b b' : β} {c c' : γ} {d d' : δ} {e e' : ε} {f f' : ζ} (h : (a, b, c, d, e, f) = (a', b', c', d', e', f')) : a = a' ∧ b = b' ∧ c = c' ∧ d = d' ∧ e = e' ∧ f = f' := by cases h; exact ⟨rfl, rfl, rfl, rfl, rfl, rfl⟩
def fx_t2 {ρ : Type} (t : Nat) (a b : Option ρ) : Option ρ := if t = 0 then a else b
def fx_t3 {ρ : Type} (t : Nat) (a b c : Option ρ) : Option ρ := if t = 0 then a else if t = 1 then b else c
theorem fx_tg2_0 {ρ : Type} {a b : Option ρ} {r : ρ} (h : fx_t2 0 a b = some r) : a = some r := h
theorem fx_tg2_1 {ρ : Type} {a b : Option ρ} {r : ρ} (h : fx_t2 1 a b = some r) : b = some r := h
theorem fx_tg3_0 {ρ : Type} {a b c : Option ρ} {r : ρ} (h : fx_t3 0 a b c = some r) : a = some r := h
theorem fx_tg3_1 {ρ : Type} {a b c : Option ρ} {r : ρ} (h : fx_t3 1 a b c = some r) : b = some r := h
theorem fx_tg3_2 {ρ : Type} {a b c : Option ρ} {r : ρ} (h : fx_t3 2 a b c = some r) : c = some r := h
theorem fx_ifp {ρ : Type} {x y : Int32} {a b : Option ρ} {r : ρ} (q : x = y) (h : (if x = y then a else b) = some r) : a = some r := by rw [if_pos q] at h; exact h
theorem fx_ifn {ρ : Type} {x y : Int32} {a b : Option ρ} {r : ρ} (q : ¬ x = y) (h : (if x = y then a else b) = some r) : b = some r := by rw [if_neg q] at h; exact h
theorem fx_swo3 {x : Int32} (h0 : ¬ x = 0) (h1 : ¬ x = 1) (h2 : ¬ x = 2) (h3 : ¬ x = 3) : x.toInt < 0 ∨ 3 < x.toInt := by
  have e : ∀ (k : Int32) (j : Int), k.toInt = j → ¬ x = k → ¬ x.toInt = j := fun k j hk hn h => hn (Int32.toInt_inj.mp (h.trans hk.symm))
  have e0 := e 0 0 (by decide) h0
  have e1 := e 1 1 (by decide) h1
  have e2 := e 2 2 (by decide) h2
  have e3 := e 3 3 (by decide) h3
  omega
theorem fx_swo8 {x : Int32} (h0 : ¬ x = 0) (h1 : ¬ x = 1) (h2 : ¬ x = 2) (h3 : ¬ x = 3) (h4 : ¬ x = 4) (h5 : ¬ x = 5) (h6 : ¬ x = 6) (h7 : ¬ x = 7) (h8 : ¬ x = 8) : x.toInt < 0 ∨ 8 < x.toInt := by
  have e : ∀ (k : Int32) (j : Int), k.toInt = j → ¬ x = k → ¬ x.toInt = j := fun k j hk hn h => hn (Int32.toInt_inj.mp (h.trans hk.symm))
  have e0 := e 0 0 (by decide) h0
  have e1 := e 1 1 (by decide) h1
  have e2 := e 2 2 (by decide) h2
  have e3 := e 3 3 (by decide) h3
  have e4 := e 4 4 (by decide) h4
  have e5 := e 5 5 (by decide) h5
  have e6 := e 6 6 (by decide) h6
  have e7 := e 7 7 (by decide) h7
  have e8 := e 8 8 (by decide) h8
  omega
def fx_fl (n : Nat) (v : Int32) (F : Nat → Int32) : Nat → Int32 := fun j => if j < n then v else F j
theorem fx_fl_s (i : Nat) (v : Int32) (F : Nat → Int32) : upd (fx_fl i v F) i v = fx_fl (i + 1) v F := by
  funext j
  unfold upd fx_fl
  by_cases h : j = i
  · subst h; simp
  · by_cases h2 : j < i
    · simp [h, h2, Nat.lt_succ_of_lt h2]
    · have : ¬ j < i + 1 := by omega
      simp [h, h2, this]
theorem fx_fl_0 (v : Int32) (F : Nat → Int32) : fx_fl 0 v F = F := by funext j; simp [fx_fl]
abbrev RM_fill : Room := { frames := 0, cells := 0, slots := 0, locals := 0 }
set_option maxRecDepth 100000 in
theorem lw_fill {p : Program} {l : Launch} {e : Env} {s : State} {m : MethodId} {args : Array Value} {below : List Frame} {meth : Method} {c : Code} {Q : State → Prop} {A : Nat → Prop} {H0 : Heap} {g : GG} (hC : Cx p s m args c RJ7 cJ7_fill_53178 4 wsJ7_fill_53178 g) (a n : Nat) (hn : n < 2147483648) (F : Nat → Int32) (v : Int32) : ∀ (d i : Nat), i + d = n → ∀ (H : Heap) (locs : List Loc) (ls : Array Slot), va_P g.1 vwCl [(a, .inl (g.2.1, n, .inl (fx_fl i v F)))] H → va_D A [(a, .inl (g.2.1, n, .inl (fx_fl i v F)))] → va_S A H0 H locs → lv_has ls 4 [(0, .ref a), (1, .int v), (2, .int (nI i)), (3, .int (nI n))] → (∀ (H : Heap) (locs : List Loc) (ls : Array Slot), va_P g.1 vwCl [(a, .inl (g.2.1, n, .inl (fx_fl n v F)))] H → va_D A [(a, .inl (g.2.1, n, .inl (fx_fl n v F)))] → va_S A H0 H locs → W p l e RM_fill s m args below meth c H locs 0 0 Q (F0 m 20 ls [])) → W p l e RM_fill s m args below meth c H locs 0 0 Q (F0 m 5 ls []) := by
  have hx := hC.1.1
  have hb := hC.1.2.1
  intro d
  induction d with
  | zero =>
    intro i hi H locs ls hP hD hS hl k
    have hi : i = n := by omega
    subst hi
    refine lv_iload_n hx hb dJ7_fill_53178_5 rfl (lv_at hl 2 rfl) ?_
    refine lv_iload_n hx hb dJ7_fill_53178_6 rfl (lv_at hl 3 rfl) ?_
    refine lv_icmp_ge (tgt := 20) hx hb dJ7_fill_53178_7 (by decide) (fun q => ?_) (fun q => ?_)
    · exact k _ _ _ hP hD hS
    · exact absurd (Int32.le_refl _) q
  | succ d ih =>
    intro i hi H locs ls hP hD hS hl k
    refine lv_iload_n hx hb dJ7_fill_53178_5 rfl (lv_at hl 2 rfl) ?_
    refine lv_iload_n hx hb dJ7_fill_53178_6 rfl (lv_at hl 3 rfl) ?_
    refine lv_icmp_ge (tgt := 20) hx hb dJ7_fill_53178_7 (by decide) (fun q => ?_) (fun q => ?_)
    · exact absurd q (nI_ge (by omega) (by omega))
    · refine lv_aload_n hx hb dJ7_fill_53178_10 rfl (lv_at hl 0 rfl) ?_
      refine lv_iload_n hx hb dJ7_fill_53178_11 rfl (lv_at hl 2 rfl) ?_
      refine lv_iload_n hx hb dJ7_fill_53178_12 rfl (lv_at hl 1 rfl) ?_
      refine va_iast hx hb hC.2.1 hP hD hS 0 0 rfl rfl (vp_in_nI (n := i) (by omega) (by omega)) dJ7_fill_53178_13 (fun H locs hP hD hS => ?_)
      rw [nI_clamp (by omega), fx_fl_s] at hP hD
      refine lv_iinc (v := nI (i + 1)) (lv' := [(2, .int (nI (i + 1))), (0, .ref a), (1, .int v), (3, .int (nI n))]) hx hb dJ7_fill_53178_14 hl (k := 2) rfl (nI_1 i) (by decide) rfl (fun ls hl => ?_)
      refine lv_goto (tgt := 5) hx hb dJ7_fill_53178_17 (by decide) ?_
      exact ih (i + 1) (by omega) _ _ _ hP hD hS (lv_sub hl [1, 2, 0, 3] rfl) k
set_option maxRecDepth 100000 in
/-- Arrays.fill(row, v): every place of the row holds v -/
theorem c_J7_fill (l : Launch) (g : GG) (a n : Nat) (hn : n < 2147483648) (F : Nat → Int32) (v : Int32) : Cv l yJ7_fill_53178 wsJ7_fill_53178 RM_fill g [.ref a, .int v] [(a, .inl (g.2.1, n, .inl F))] [(a, .inl (g.2.1, n, .inl (fx_fl n v F)))] := by
  intro sz
  refine Met.ofC (cc := cJ7_fill_53178) (maxL := 4) (ret := none) (by decide) rfl (Nat.le_of_ble_eq_true rfl) ?_
  intro p e s m below meth c hC hr hlk hsz A hA9 hA hP hD hS ls hl
  subst hsz
  have hC : Cx p s m ([.ref a, .int v] : List Value).toArray c RJ7 cJ7_fill_53178 4 wsJ7_fill_53178 g := hC
  have hx := hC.1.1
  have hb := hC.1.2.1
  have hl : lv_has ls 4 [(0, .ref a), (1, .int v)] := hl
  show W p l e RM_fill s m ([.ref a, .int v] : List Value).toArray below meth c s.heap [] 0 0 (Qv below g [.ref a, .int v] [(a, .inl (g.2.1, n, .inl F))] [(a, .inl (g.2.1, n, .inl (fx_fl n v F)))] s) (F0 m 0 ls [])
  refine lv_iconst (v := 0) hx hb dJ7_fill_53178_0 (by decide) ?_
  refine lv_istore_n (lv' := [(2, .int 0), (0, .ref a), (1, .int v)]) hx hb dJ7_fill_53178_1 rfl hl (by decide) rfl (fun ls hl => ?_)
  refine lv_aload_n hx hb dJ7_fill_53178_2 rfl (lv_at hl 1 rfl) ?_
  refine va_alen hx hb hC.2.1 hP 0 0 rfl (ty := .int) rfl rfl dJ7_fill_53178_3 ?_
  refine lv_istore_n (lv' := [(3, .int (nI n)), (2, .int 0), (0, .ref a), (1, .int v)]) hx hb dJ7_fill_53178_4 rfl hl (by decide) rfl (fun ls hl => ?_)
  have hP : va_P g.1 vwCl [(a, .inl (g.2.1, n, .inl (fx_fl 0 v F)))] s.heap := by rw [fx_fl_0]; exact hP
  have hD : va_D A [(a, .inl (g.2.1, n, .inl (fx_fl 0 v F)))] := by rw [fx_fl_0]; exact hD
  exact lw_fill hC a n hn F v n 0 (by omega) _ _ _ hP hD hS (lv_sub hl [2, 3, 1, 0] rfl) (fun H locs ls hP hD hS => Cv.ret hC hr hlk hA9 hP hD hS dJ7_fill_53178_20)

/-- behind a call that leaves its world as it was -/
theorem same_P {A : Nat → Prop} {D : va_G} {cl : List vw_C} {isC : List Nat} {ws wc : va_W} {H H1 : Heap} (hP : va_P D cl ws H) (hD : va_D A ws) (hC : isC.map (fun i => ws[i]?) = wc.map some) (hP1 : va_P D cl wc H1) (hk : ∀ q : Nat, q < H.size → ¬ va_A wc H.size q → H1[q]? = H[q]?) : va_P D cl ws H1 := by
  intro k q hq
  by_cases hm : k ∈ isC
  · obtain ⟨j, hj⟩ := List.getElem?_of_mem hm
    have e1 : (isC.map (fun i => ws[i]?))[j]? = some (some q) := by rw [List.getElem?_map, hj]; exact congrArg some hq
    rw [hC, List.getElem?_map] at e1
    cases hw : wc[j]? with
    | none => rw [hw] at e1; cases e1
    | some z =>
      rw [hw] at e1
      have e2 : z = q := Option.some.inj (Option.some.inj e1)
      subst e2
      exact hP1 j z hw
  · have hlt := (hP k q hq).lt
    refine (hP k q hq).kept (hk q.1 hlt (fun z => ?_))
    rcases z with ⟨j, e, z⟩ | z
    · have e1 : (isC.map (fun i => ws[i]?))[j]? = some (some (q.1, e)) := by rw [hC, List.getElem?_map, z]; rfl
      rw [List.getElem?_map] at e1
      cases hi : isC[j]? with
      | none => rw [hi] at e1; cases e1
      | some i =>
        rw [hi] at e1
        have hik := hD.1 k i q (q.1, e) hq (Option.some.inj e1) rfl
        exact hm (hik ▸ List.mem_of_getElem? hi)
    · omega
/-- behind a call: ws2 is ws with the callee's cells as they came back -/
theorem put_at {isC isR : List Nat} {n2 : Nat} {ws wc w1 ws2 : va_W} (hC : isC.map (fun i => ws[i]?) = wc.map some) {ad : List Nat} {wr : va_W} (had1 : w1.map (·.1) = ad) (had2 : wc.map (·.1) = ad) (hI2 : isC.map (fun i => ws2[i]?) = w1.map some) (hR1 : isR.map (fun i => ws[i]?) = wr.map some) (hR3 : isR.map (fun i => ws2[i]?) = wr.map some) (hlen : ws2.length = n2) (hcov : (List.range n2).all (fun k => isC.contains k || isR.contains k) = true) (k : Nat) (q : Nat × va_E) (h : ws2[k]? = some q) : ((∃ j : Nat, isC[j]? = some k ∧ w1[j]? = some q) ∨ (k ∉ isC ∧ ws[k]? = some q)) ∧ ∃ q0, ws[k]? = some q0 ∧ q0.1 = q.1 := by
  have had : w1.map (·.1) = wc.map (·.1) := had1.trans had2.symm
  have hR2 : isR.map (fun i => ws2[i]?) = isR.map (fun i => ws[i]?) := hR3.trans hR1.symm
  have hk : k < n2 := by rw [← hlen]; exact (List.getElem?_eq_some_iff.mp h).1
  by_cases hm : k ∈ isC
  · obtain ⟨j, hj⟩ := List.getElem?_of_mem hm
    have e1 : (isC.map (fun i => ws2[i]?))[j]? = some (some q) := by rw [List.getElem?_map, hj]; exact congrArg some h
    rw [hI2, List.getElem?_map] at e1
    have e3 : (isC.map (fun i => ws[i]?))[j]? = some ws[k]? := by rw [List.getElem?_map, hj]; rfl
    rw [hC, List.getElem?_map] at e3
    cases hw : w1[j]? with
    | none => rw [hw] at e1; cases e1
    | some z =>
      rw [hw] at e1
      have e2 : z = q := Option.some.inj (Option.some.inj e1)
      subst e2
      have e4 : (w1.map (·.1))[j]? = some z.1 := by rw [List.getElem?_map, hw]; rfl
      rw [had, List.getElem?_map] at e4
      cases hv : wc[j]? with
      | none => rw [hv] at e4; cases e4
      | some v =>
        rw [hv] at e3 e4
        exact ⟨Or.inl ⟨j, hj, hw⟩, v, (Option.some.inj e3).symm, Option.some.inj e4⟩
  · have h1 := List.all_eq_true.mp hcov k (List.mem_range.mpr hk)
    have h2 : k ∈ isR := by
      rcases Bool.or_eq_true _ _ ▸ h1 with z | z
      · exact absurd (List.contains_iff_mem.mp z) hm
      · exact List.contains_iff_mem.mp z
    obtain ⟨j, hj⟩ := List.getElem?_of_mem h2
    have e1 : (isR.map (fun i => ws2[i]?))[j]? = some (some q) := by rw [List.getElem?_map, hj]; exact congrArg some h
    rw [hR2, List.getElem?_map, hj] at e1
    have e2 : ws[k]? = some q := Option.some.inj e1
    exact ⟨Or.inr ⟨hm, e2⟩, q, e2, rfl⟩
theorem put_D {A : Nat → Prop} {ws ws2 : va_W} (hD : va_D A ws) (h : ∀ (k : Nat) (q : Nat × va_E), ws2[k]? = some q → ∃ q0, ws[k]? = some q0 ∧ q0.1 = q.1) : va_D A ws2 := by
  refine ⟨fun i j x z hi hj hxz => ?_, fun k q hk => ?_⟩
  · obtain ⟨x0, a1, a2⟩ := h i x hi
    obtain ⟨z0, b1, b2⟩ := h j z hj
    exact hD.1 i j x0 z0 a1 b1 (a2.trans (hxz.trans b2.symm))
  · obtain ⟨q0, a1, a2⟩ := h k q hk
    rw [← a2]
    exact hD.2 k q0 a1
theorem put_P {A : Nat → Prop} {D : va_G} {cl : List vw_C} {isC : List Nat} {ws wc w1 ws2 : va_W} {H H1 : Heap} (hP : va_P D cl ws H) (hD : va_D A ws) (hC : isC.map (fun i => ws[i]?) = wc.map some) (h : ∀ (k : Nat) (q : Nat × va_E), ws2[k]? = some q → (∃ j : Nat, isC[j]? = some k ∧ w1[j]? = some q) ∨ (k ∉ isC ∧ ws[k]? = some q)) (hP1 : va_P D cl w1 H1) (hk : ∀ q : Nat, q < H.size → ¬ va_A wc H.size q → H1[q]? = H[q]?) : va_P D cl ws2 H1 := by
  intro k q hq
  rcases h k q hq with ⟨j, -, h2⟩ | ⟨h1, h2⟩
  · exact hP1 j q h2
  · have hlt := (hP k q h2).lt
    refine (hP k q h2).kept (hk q.1 hlt (fun z => ?_))
    rcases z with ⟨j, e, z⟩ | z
    · have e1 : (isC.map (fun i => ws[i]?))[j]? = some (some (q.1, e)) := by rw [hC, List.getElem?_map, z]; rfl
      rw [List.getElem?_map] at e1
      cases hi : isC[j]? with
      | none => rw [hi] at e1; cases e1
      | some i =>
        rw [hi] at e1
        have hik := hD.1 k i q (q.1, e) h2 (Option.some.inj e1) rfl
        exact h1 (hik ▸ List.mem_of_getElem? hi)
    · omega
section BASE3
variable {p : Program} {l : Launch} {e : Env} {R : Room} {s : State} {m : MethodId} {args : Array Value} {below : List Frame} {meth : Method} {c : Code} {H : Heap} {locs : List Loc} {cells slots : Nat} {Q : State → Prop} {cc : ByteArray} {pc : Nat} {ls : Array Slot} {rest : List Value} {own : String} {nL : Nat} {Ts : List Cond} {g : GG} {A : Nat → Prop} {H0 : Heap} {ρ : Type} {r : ρ}
theorem k_topi {x : Int32} {f : Int32 → Option ρ} (h : fx_lt x f = some r) (k : ∀ y : Int32, f y = some r → W p l e R s m args below meth c H locs cells slots Q (F0 m pc ls (.int y :: rest))) : W p l e R s m args below meth c H locs cells slots Q (F0 m pc ls (.int x :: rest)) := k x h
theorem k_topl {x : Int64} {f : Int64 → Option ρ} (h : fx_lt x f = some r) (k : ∀ y : Int64, f y = some r → W p l e R s m args below meth c H locs cells slots Q (F0 m pc ls (.long y :: rest))) : W p l e R s m args below meth c H locs cells slots Q (F0 m pc ls (.long x :: rest)) := k x h
theorem k_iinc {i k : Nat} {n : Int} {x v : Int32} {lv : List (Nat × Value)} {lv' : Int32 → List (Nat × Value)} {f : Int32 → Option ρ} (hC : Cx p s m args c own cc nL Ts g) (hdg : decode cc pc = .ok (.iinc i n, 3)) (h0 : lv_has ls nL lv) (hk : lv[k]? = some (i, .int x)) (hv : Int32.ofInt n = v) (hn : i < nL) (hl : ∀ X : Int32, (i, Value.int X) :: lv.filter (fun q => !(q.1 == i) && !(q.1 + 1 == i && q.2.category == 2)) = lv' X) (h : fx_lt (x + v) f = some r) (kk : ∀ X : Int32, f X = some r → ∀ ls' : Array Slot, lv_has ls' nL (lv' X) → W p l e R s m args below meth c H locs cells slots Q (F0 m (pc + 3) ls' rest)) : W p l e R s m args below meth c H locs cells slots Q (F0 m pc ls rest) := by
  subst hv
  exact lv_iinc (v := x + Int32.ofInt n) (lv' := lv' (x + Int32.ofInt n)) hC.1.1 hC.1.2.1 hdg h0 hk rfl hn (hl _) (fun ls9 h9 => kk _ h ls9 h9)
theorem k_name {S2 : St} {f : St → Option ρ} {gf : JFrame} (w : St → va_W) (h : fx_lt S2 f = some r) (hP : va_P g.1 vwCl (w S2) H) (hD : va_D A (w S2)) (kk : ∀ (S3 : St), f S3 = some r → va_P g.1 vwCl (w S3) H → va_D A (w S3) → W p l e R s m args below meth c H locs cells slots Q gf) : W p l e R s m args below meth c H locs cells slots Q gf := kk S2 h hP hD
theorem k_eqi {x v : Int32} (q : x = v) (k : W p l e R s m args below meth c H locs cells slots Q (F0 m pc ls (.int v :: rest))) : W p l e R s m args below meth c H locs cells slots Q (F0 m pc ls (.int x :: rest)) := by rw [q]; exact k
theorem k_if_eq {x : Int32} {a b : Option ρ} (hC : Cx p s m args c own cc nL Ts g) {off : Int} {tgt : Nat} (hdg : decode cc pc = .ok (.ifCond .eq off, 3)) (ht : (pc : Int) + off = (tgt : Int)) (h : (if x = 0 then a else b) = some r) (kt : a = some r → W p l e R s m args below meth c H locs cells slots Q (F0 m tgt ls rest)) (kf : b = some r → W p l e R s m args below meth c H locs cells slots Q (F0 m (pc + 3) ls rest)) : W p l e R s m args below meth c H locs cells slots Q (F0 m pc ls (.int x :: rest)) :=
  lv_if_eq hC.1.1 hC.1.2.1 hdg ht (fun q => kt (by rw [if_pos q] at h; exact h)) (fun q => kf (by rw [if_neg q] at h; exact h))
theorem k_if_ne {x : Int32} {a b : Option ρ} (hC : Cx p s m args c own cc nL Ts g) {off : Int} {tgt : Nat} (hdg : decode cc pc = .ok (.ifCond .ne off, 3)) (ht : (pc : Int) + off = (tgt : Int)) (h : (if x = 0 then a else b) = some r) (kt : b = some r → W p l e R s m args below meth c H locs cells slots Q (F0 m tgt ls rest)) (kf : a = some r → W p l e R s m args below meth c H locs cells slots Q (F0 m (pc + 3) ls rest)) : W p l e R s m args below meth c H locs cells slots Q (F0 m pc ls (.int x :: rest)) :=
  lv_if_ne hC.1.1 hC.1.2.1 hdg ht (fun q => kt (by rw [if_neg q] at h; exact h)) (fun q => kf (by rw [if_pos q] at h; exact h))
theorem k_if_lt {x : Int32} {a b : Option ρ} (hC : Cx p s m args c own cc nL Ts g) {off : Int} {tgt : Nat} (hdg : decode cc pc = .ok (.ifCond .lt off, 3)) (ht : (pc : Int) + off = (tgt : Int)) (h : (if x < 0 then a else b) = some r) (kt : a = some r → W p l e R s m args below meth c H locs cells slots Q (F0 m tgt ls rest)) (kf : b = some r → W p l e R s m args below meth c H locs cells slots Q (F0 m (pc + 3) ls rest)) : W p l e R s m args below meth c H locs cells slots Q (F0 m pc ls (.int x :: rest)) :=
  lv_if_lt hC.1.1 hC.1.2.1 hdg ht (fun q => kt (by rw [if_pos q] at h; exact h)) (fun q => kf (by rw [if_neg q] at h; exact h))
theorem k_if_ge {x : Int32} {a b : Option ρ} (hC : Cx p s m args c own cc nL Ts g) {off : Int} {tgt : Nat} (hdg : decode cc pc = .ok (.ifCond .ge off, 3)) (ht : (pc : Int) + off = (tgt : Int)) (h : (if 0 ≤ x then a else b) = some r) (kt : a = some r → W p l e R s m args below meth c H locs cells slots Q (F0 m tgt ls rest)) (kf : b = some r → W p l e R s m args below meth c H locs cells slots Q (F0 m (pc + 3) ls rest)) : W p l e R s m args below meth c H locs cells slots Q (F0 m pc ls (.int x :: rest)) :=
  lv_if_ge hC.1.1 hC.1.2.1 hdg ht (fun q => kt (by rw [if_pos q] at h; exact h)) (fun q => kf (by rw [if_neg q] at h; exact h))
theorem k_if_gt {x : Int32} {a b : Option ρ} (hC : Cx p s m args c own cc nL Ts g) {off : Int} {tgt : Nat} (hdg : decode cc pc = .ok (.ifCond .gt off, 3)) (ht : (pc : Int) + off = (tgt : Int)) (h : (if 0 < x then a else b) = some r) (kt : a = some r → W p l e R s m args below meth c H locs cells slots Q (F0 m tgt ls rest)) (kf : b = some r → W p l e R s m args below meth c H locs cells slots Q (F0 m (pc + 3) ls rest)) : W p l e R s m args below meth c H locs cells slots Q (F0 m pc ls (.int x :: rest)) :=
  lv_if_gt hC.1.1 hC.1.2.1 hdg ht (fun q => kt (by rw [if_pos q] at h; exact h)) (fun q => kf (by rw [if_neg q] at h; exact h))
theorem k_if_le {x : Int32} {a b : Option ρ} (hC : Cx p s m args c own cc nL Ts g) {off : Int} {tgt : Nat} (hdg : decode cc pc = .ok (.ifCond .le off, 3)) (ht : (pc : Int) + off = (tgt : Int)) (h : (if x ≤ 0 then a else b) = some r) (kt : a = some r → W p l e R s m args below meth c H locs cells slots Q (F0 m tgt ls rest)) (kf : b = some r → W p l e R s m args below meth c H locs cells slots Q (F0 m (pc + 3) ls rest)) : W p l e R s m args below meth c H locs cells slots Q (F0 m pc ls (.int x :: rest)) :=
  lv_if_le hC.1.1 hC.1.2.1 hdg ht (fun q => kt (by rw [if_pos q] at h; exact h)) (fun q => kf (by rw [if_neg q] at h; exact h))
theorem k_icmp_eq {x y : Int32} {a b : Option ρ} (hC : Cx p s m args c own cc nL Ts g) {off : Int} {tgt : Nat} (hdg : decode cc pc = .ok (.if_icmp .eq off, 3)) (ht : (pc : Int) + off = (tgt : Int)) (h : (if x = y then a else b) = some r) (kt : a = some r → W p l e R s m args below meth c H locs cells slots Q (F0 m tgt ls rest)) (kf : b = some r → W p l e R s m args below meth c H locs cells slots Q (F0 m (pc + 3) ls rest)) : W p l e R s m args below meth c H locs cells slots Q (F0 m pc ls (.int y :: .int x :: rest)) :=
  lv_icmp_eq hC.1.1 hC.1.2.1 hdg ht (fun q => kt (by rw [if_pos q] at h; exact h)) (fun q => kf (by rw [if_neg q] at h; exact h))
theorem k_icmp_ne {x y : Int32} {a b : Option ρ} (hC : Cx p s m args c own cc nL Ts g) {off : Int} {tgt : Nat} (hdg : decode cc pc = .ok (.if_icmp .ne off, 3)) (ht : (pc : Int) + off = (tgt : Int)) (h : (if x = y then a else b) = some r) (kt : b = some r → W p l e R s m args below meth c H locs cells slots Q (F0 m tgt ls rest)) (kf : a = some r → W p l e R s m args below meth c H locs cells slots Q (F0 m (pc + 3) ls rest)) : W p l e R s m args below meth c H locs cells slots Q (F0 m pc ls (.int y :: .int x :: rest)) :=
  lv_icmp_ne hC.1.1 hC.1.2.1 hdg ht (fun q => kt (by rw [if_neg q] at h; exact h)) (fun q => kf (by rw [if_pos q] at h; exact h))
theorem k_icmp_lt {x y : Int32} {a b : Option ρ} (hC : Cx p s m args c own cc nL Ts g) {off : Int} {tgt : Nat} (hdg : decode cc pc = .ok (.if_icmp .lt off, 3)) (ht : (pc : Int) + off = (tgt : Int)) (h : (if x < y then a else b) = some r) (kt : a = some r → W p l e R s m args below meth c H locs cells slots Q (F0 m tgt ls rest)) (kf : b = some r → W p l e R s m args below meth c H locs cells slots Q (F0 m (pc + 3) ls rest)) : W p l e R s m args below meth c H locs cells slots Q (F0 m pc ls (.int y :: .int x :: rest)) :=
  lv_icmp_lt hC.1.1 hC.1.2.1 hdg ht (fun q => kt (by rw [if_pos q] at h; exact h)) (fun q => kf (by rw [if_neg q] at h; exact h))
theorem k_icmp_ge {x y : Int32} {a b : Option ρ} (hC : Cx p s m args c own cc nL Ts g) {off : Int} {tgt : Nat} (hdg : decode cc pc = .ok (.if_icmp .ge off, 3)) (ht : (pc : Int) + off = (tgt : Int)) (h : (if y ≤ x then a else b) = some r) (kt : a = some r → W p l e R s m args below meth c H locs cells slots Q (F0 m tgt ls rest)) (kf : b = some r → W p l e R s m args below meth c H locs cells slots Q (F0 m (pc + 3) ls rest)) : W p l e R s m args below meth c H locs cells slots Q (F0 m pc ls (.int y :: .int x :: rest)) :=
  lv_icmp_ge hC.1.1 hC.1.2.1 hdg ht (fun q => kt (by rw [if_pos q] at h; exact h)) (fun q => kf (by rw [if_neg q] at h; exact h))
theorem k_icmp_gt {x y : Int32} {a b : Option ρ} (hC : Cx p s m args c own cc nL Ts g) {off : Int} {tgt : Nat} (hdg : decode cc pc = .ok (.if_icmp .gt off, 3)) (ht : (pc : Int) + off = (tgt : Int)) (h : (if y < x then a else b) = some r) (kt : a = some r → W p l e R s m args below meth c H locs cells slots Q (F0 m tgt ls rest)) (kf : b = some r → W p l e R s m args below meth c H locs cells slots Q (F0 m (pc + 3) ls rest)) : W p l e R s m args below meth c H locs cells slots Q (F0 m pc ls (.int y :: .int x :: rest)) :=
  lv_icmp_gt hC.1.1 hC.1.2.1 hdg ht (fun q => kt (by rw [if_pos q] at h; exact h)) (fun q => kf (by rw [if_neg q] at h; exact h))
theorem k_icmp_le {x y : Int32} {a b : Option ρ} (hC : Cx p s m args c own cc nL Ts g) {off : Int} {tgt : Nat} (hdg : decode cc pc = .ok (.if_icmp .le off, 3)) (ht : (pc : Int) + off = (tgt : Int)) (h : (if x ≤ y then a else b) = some r) (kt : a = some r → W p l e R s m args below meth c H locs cells slots Q (F0 m tgt ls rest)) (kf : b = some r → W p l e R s m args below meth c H locs cells slots Q (F0 m (pc + 3) ls rest)) : W p l e R s m args below meth c H locs cells slots Q (F0 m pc ls (.int y :: .int x :: rest)) :=
  lv_icmp_le hC.1.1 hC.1.2.1 hdg ht (fun q => kt (by rw [if_pos q] at h; exact h)) (fun q => kf (by rw [if_neg q] at h; exact h))
theorem k_get {ws : va_W} {a ci k index q0 N : Nat} {C : String} {T : u_T} {fs : List Value} {v : Value} (hC : Cx p s m args c own cc nL Ts g) (hin : ∀ w ∈ u_ws C T N, w ∈ Ts) (hP : va_P g.1 vwCl ws H) (he : ws[q0]? = some (a, .inr (ci, fs))) (hc : vwCl[ci]? = some (C, T, N)) (hk : k < N) (hlk : Cond.fieldLink own index (T k).1 (T k).2.1 (T k).2.2.1 ∈ Ts) (hv : fs[k]? = some v) (hdg : decode cc pc = .ok (.getfield index, 3)) (kk : W p l e R s m args below meth c H locs cells slots Q (F0 m (pc + 3) ls (v :: rest))) : W p l e R s m args below meth c H locs cells slots Q (F0 m pc ls (.ref a :: rest)) :=
  va_get hC.1.1 hC.1.2.1 hC.1.2.2.2.2 hin hC.1.2.2.2.1 hC.2.1 hP q0 he hc k hk (hC.1.2.2.2.2 _ hlk) (fun _ h9 => h9) hv hdg kk
theorem k_put {ws : va_W} {a ci k index q0 N : Nat} {C : String} {T : u_T} {fs : List Value} {x : Int32} {S2 : St} {f : St → Option ρ} (ty0 : Nat → FieldType) (w : St → va_W) (hC : Cx p s m args c own cc nL Ts g) (hin : ∀ w ∈ u_ws C T N, w ∈ Ts) (hty : ∀ k, k < N → parseFieldDescriptor (T k).2.2.1 = some (ty0 k)) (hnm : ∀ a, a < N → ∀ b, b < N → a ≠ b → (T a).2.1 ≠ (T b).2.1) (hP : va_P g.1 vwCl ws H) (hD : va_D A ws) (hS : va_S A H0 H locs) (he : ws[q0]? = some (a, .inr (ci, fs))) (hc : vwCl[ci]? = some (C, T, N)) (hk : k < N) (hlk : Cond.fieldLink own index (T k).1 (T k).2.1 (T k).2.2.1 ∈ Ts) (hfin : (T k).2.2.2 = false) (hd : parseFieldDescriptor (T k).2.2.1 = some .int) (hl : k < fs.length) (hdg : decode cc pc = .ok (.putfield index, 3)) (hset : ws.set q0 (a, .inr (ci, fs.set k (.int x))) = w S2) (h : fx_lt S2 f = some r) (kk : ∀ (S3 : St), f S3 = some r → ∀ (H1 : Heap) (locs1 : List Loc), va_P g.1 vwCl (w S3) H1 → va_D A (w S3) → va_S A H0 H1 locs1 → W p l e R s m args below meth c H1 locs1 cells slots Q (F0 m (pc + 3) ls rest)) : W p l e R s m args below meth c H locs cells slots Q (F0 m pc ls (.int x :: .ref a :: rest)) := by
  refine va_put hC.1.1 hC.1.2.1 hC.1.2.2.2.2 hin ty0 hty hnm hC.1.2.2.2.1 hC.2.1 hP hD hS q0 he hc k hk (hC.1.2.2.2.2 _ hlk) (fun _ h9 => h9) hfin (ty := .int) (v := .int x) hd rfl rfl hl hdg (fun H1 locs1 hP hD hS => ?_)
  rw [hset] at hP hD
  exact kk S2 h H1 locs1 hP hD hS
theorem k_putz {ws : va_W} {a ci k index q0 N : Nat} {C : String} {T : u_T} {fs : List Value} {x : Int32} {S2 : St} {f : St → Option ρ} (ty0 : Nat → FieldType) (w : St → va_W) (hC : Cx p s m args c own cc nL Ts g) (hin : ∀ w ∈ u_ws C T N, w ∈ Ts) (hty : ∀ k, k < N → parseFieldDescriptor (T k).2.2.1 = some (ty0 k)) (hnm : ∀ a, a < N → ∀ b, b < N → a ≠ b → (T a).2.1 ≠ (T b).2.1) (hP : va_P g.1 vwCl ws H) (hD : va_D A ws) (hS : va_S A H0 H locs) (he : ws[q0]? = some (a, .inr (ci, fs))) (hc : vwCl[ci]? = some (C, T, N)) (hk : k < N) (hlk : Cond.fieldLink own index (T k).1 (T k).2.1 (T k).2.2.1 ∈ Ts) (hfin : (T k).2.2.2 = false) (hd : parseFieldDescriptor (T k).2.2.1 = some .boolean) (hn : narrow .boolean (.int x) = .int x ∧ fits .boolean (.int x) = true) (hl : k < fs.length) (hdg : decode cc pc = .ok (.putfield index, 3)) (hset : ws.set q0 (a, .inr (ci, fs.set k (.int x))) = w S2) (h : fx_lt S2 f = some r) (kk : ∀ (S3 : St), f S3 = some r → ∀ (H1 : Heap) (locs1 : List Loc), va_P g.1 vwCl (w S3) H1 → va_D A (w S3) → va_S A H0 H1 locs1 → W p l e R s m args below meth c H1 locs1 cells slots Q (F0 m (pc + 3) ls rest)) : W p l e R s m args below meth c H locs cells slots Q (F0 m pc ls (.int x :: .ref a :: rest)) := by
  refine va_put hC.1.1 hC.1.2.1 hC.1.2.2.2.2 hin ty0 hty hnm hC.1.2.2.2.1 hC.2.1 hP hD hS q0 he hc k hk (hC.1.2.2.2.2 _ hlk) (fun _ h9 => h9) hfin (ty := .boolean) (v := .int x) hd hn.1 hn.2 hl hdg (fun H1 locs1 hP hD hS => ?_)
  rw [hset] at hP hD
  exact kk S2 h H1 locs1 hP hD hS
theorem k_ald {ws : va_W} {a q0 n : Nat} {F : Nat → Int32} {i : Int32} {f : Int32 → Option ρ} (hC : Cx p s m args c own cc nL Ts g) (hP : va_P g.1 vwCl ws H) (he : ws[q0]? = some (a, .inl (g.2.1, n, .inl F))) (hdg : decode cc pc = .ok (.iaload, 1)) (h : fx_ald n F i f = some r) (kk : ∀ v : Int32, f v = some r → W p l e R s m args below meth c H locs cells slots Q (F0 m (pc + 1) ls (.int v :: rest))) : W p l e R s m args below meth c H locs cells slots Q (F0 m pc ls (.int i :: .ref a :: rest)) := by
  unfold fx_ald at h
  by_cases q : i < 0 ∨ n ≤ i.toNatClampNeg
  · rw [if_pos q] at h; cases h
  · rw [if_neg q] at h
    exact va_iald hC.1.1 hC.1.2.1 hC.2.1 hP q0 0 he rfl q hdg (kk _ h)
theorem k_aldz {ws : va_W} {a q0 n : Nat} {F : Nat → Int32} {i : Int32} {f : Int32 → Option ρ} (hC : Cx p s m args c own cc nL Ts g) (hP : va_P g.1 vwCl ws H) (he : ws[q0]? = some (a, .inl (g.2.2.1, n, .inl F))) (hdg : decode cc pc = .ok (.baload, 1)) (h : fx_ald n F i f = some r) (kk : ∀ v : Int32, f v = some r → W p l e R s m args below meth c H locs cells slots Q (F0 m (pc + 1) ls (.int v :: rest))) : W p l e R s m args below meth c H locs cells slots Q (F0 m pc ls (.int i :: .ref a :: rest)) := by
  unfold fx_ald at h
  by_cases q : i < 0 ∨ n ≤ i.toNatClampNeg
  · rw [if_pos q] at h; cases h
  · rw [if_neg q] at h
    exact va_zald hC.1.1 hC.1.2.1 hC.2.1 hP q0 1 he rfl q hdg (kk _ h)
theorem k_ast {ws : va_W} {a q0 n k : Nat} {i x : Int32} {S : St} {f : St → Option ρ} (w : St → va_W) (hC : Cx p s m args c own cc nL Ts g) (hP : va_P g.1 vwCl ws H) (hD : va_D A ws) (hS : va_S A H0 H locs) (he : ws[q0]? = some (a, .inl (g.2.1, n, .inl (S.2 k)))) (hset : ∀ F : Nat → Int32, ws.set q0 (a, .inl (g.2.1, n, .inl F)) = w (stA S k F)) (hdg : decode cc pc = .ok (.iastore, 1)) (h : fx_ast n S k i x f = some r) (kk : ∀ (S3 : St), f S3 = some r → ∀ (H1 : Heap) (locs1 : List Loc), va_P g.1 vwCl (w S3) H1 → va_D A (w S3) → va_S A H0 H1 locs1 → W p l e R s m args below meth c H1 locs1 cells slots Q (F0 m (pc + 1) ls rest)) : W p l e R s m args below meth c H locs cells slots Q (F0 m pc ls (.int x :: .int i :: .ref a :: rest)) := by
  unfold fx_ast at h
  by_cases q : i < 0 ∨ n ≤ i.toNatClampNeg
  · rw [if_pos q] at h; cases h
  · rw [if_neg q] at h
    refine va_iast hC.1.1 hC.1.2.1 hC.2.1 hP hD hS q0 0 he rfl q hdg (fun H1 locs1 hP hD hS => ?_)
    rw [hset] at hP hD
    exact kk _ h H1 locs1 hP hD hS
theorem k_astz {ws : va_W} {a q0 n k : Nat} {i x : Int32} {S : St} {f : St → Option ρ} (w : St → va_W) (hC : Cx p s m args c own cc nL Ts g) (hP : va_P g.1 vwCl ws H) (hD : va_D A ws) (hS : va_S A H0 H locs) (he : ws[q0]? = some (a, .inl (g.2.2.1, n, .inl (S.2 k)))) (hset : ∀ F : Nat → Int32, ws.set q0 (a, .inl (g.2.2.1, n, .inl F)) = w (stA S k F)) (hn : vp_nar .boolean x = x) (hdg : decode cc pc = .ok (.bastore, 1)) (h : fx_ast n S k i x f = some r) (kk : ∀ (S3 : St), f S3 = some r → ∀ (H1 : Heap) (locs1 : List Loc), va_P g.1 vwCl (w S3) H1 → va_D A (w S3) → va_S A H0 H1 locs1 → W p l e R s m args below meth c H1 locs1 cells slots Q (F0 m (pc + 1) ls rest)) : W p l e R s m args below meth c H locs cells slots Q (F0 m pc ls (.int x :: .int i :: .ref a :: rest)) := by
  unfold fx_ast at h
  by_cases q : i < 0 ∨ n ≤ i.toNatClampNeg
  · rw [if_pos q] at h; cases h
  · rw [if_neg q] at h
    refine va_zast hC.1.1 hC.1.2.1 hC.2.1 hP hD hS q0 1 he rfl q hdg (fun H1 locs1 hP hD hS => ?_)
    rw [hn, hset] at hP hD
    exact kk _ h H1 locs1 hP hD hS
theorem k_copy {ws : va_W} {a0 a q0 q1 n0 n1 index k : Nat} {F : Nat → Int32} {S : St} {sp dp n : Int32} {f : St → Option ρ} (w : St → va_W) (hC : Cx p s m args c own cc nL Ts g) (hsz : ls.size = nL) (hlink : Cond.methodLink own index arraycopyName ∈ Ts) (hnat : Cond.native arraycopyName ∈ Ts) (hstat : Cond.static arraycopyName ∈ Ts) (hini : Cond.initialized "java/lang/System" ∈ Ts) (hP : va_P g.1 vwCl ws H) (hD : va_D A ws) (hS : va_S A H0 H locs) (he0 : ws[q0]? = some (a0, .inl (g.2.1, n0, .inl F))) (he : ws[q1]? = some (a, .inl (g.2.1, n1, .inl (S.2 k)))) (hset : ∀ F : Nat → Int32, ws.set q1 (a, .inl (g.2.1, n1, .inl F)) = w (stA S k F)) (hfr : 1 ≤ R.frames) (hlo : (rest.map fun v => v.category).sum + (nativeFrameWords "java/lang/System" "arraycopy" 5 + 11) ≤ R.locals) (hdg : decode cc pc = .ok (.invokestatic index, 3)) (h : fx_cpy n0 F n1 S k sp dp n f = some r) (kk : ∀ (S3 : St), f S3 = some r → ∀ (H1 : Heap) (locs1 : List Loc), va_P g.1 vwCl (w S3) H1 → va_D A (w S3) → va_S A H0 H1 locs1 → W p l e R s m args below meth c H1 locs1 cells slots Q (F0 m (pc + 3) ls rest)) : W p l e R s m args below meth c H locs cells slots Q (F0 m pc ls (.int n :: .int dp :: .ref a :: .int sp :: .ref a0 :: rest)) := by
  unfold fx_cpy at h
  by_cases q : sp < 0 ∨ dp < 0 ∨ n < 0 ∨ n0 < sp.toNatClampNeg + n.toNatClampNeg ∨ n1 < dp.toNatClampNeg + n.toNatClampNeg
  · rw [if_pos q] at h; cases h
  · rw [if_neg q] at h
    have hT := hC.1.2.2.2.2
    refine va_copyi hC.1.1 hC.1.2.1 (hC.1.2.2.1.trans hsz.symm) hC.1.2.2.2.1 (hT _ hlink) (hT _ hnat) (hT _ hstat) (hT _ hini) hC.2.1 hP hD hS q0 q1 0 0 (ty := .int) he0 he rfl rfl rfl (fun z => q (Or.inl z)) (fun z => q (Or.inr (Or.inl z))) (fun z => q (Or.inr (Or.inr (Or.inl z)))) (Nat.le_of_not_lt (fun z => q (Or.inr (Or.inr (Or.inr (Or.inl z)))))) (Nat.le_of_not_lt (fun z => q (Or.inr (Or.inr (Or.inr (Or.inr z)))))) (fun _ _ => rfl) hfr hlo hdg (fun H1 locs1 hP hD hS => ?_)
    rw [hset] at hP hD
    exact kk _ h H1 locs1 hP hD hS
end BASE3
section BASE4
variable {p : Program} {l : Launch} {e : Env} {R : Room} {s : State} {m : MethodId} {args : Array Value} {below : List Frame} {meth : Method} {c : Code} {H : Heap} {locs : List Loc} {cells slots : Nat} {Q : State → Prop} {cc : ByteArray} {pc : Nat} {ls : Array Slot} {rest : List Value} {own : String} {nL : Nat} {Ts : List Cond} {g : GG} {A : Nat → Prop} {H0 : Heap} {ρ : Type} {r : ρ}
variable {y : MethodName} {wy ws9 : List Cond} {rm : Room} {bytes : ByteArray} {maxL index n b : Nat} {ret : Option FieldType} {ws wc w1 ws2 : va_W} {As : List Value}
theorem k_callVi0 {C : String} {ci qr Nc : Nat} {Tc : u_T} {fs : List Value} {z : Int32} (hC : Cx p s m args c own cc nL Ts g) (hsz : ls.size = nL) (hM0 : Ci l y wy rm g (.ref b :: As) wc wc z) (hw : wy = Cond.code y bytes maxL ret :: ws9) (hg : GoodIn Ts (wsV own index C y wy)) (hd : y.cls = C ∧ y.cls ≠ "java/lang/invoke/MethodHandle" ∧ y.cls ≠ "java/lang/invoke/VarHandle" ∧ (parseMethodDescriptor y.desc).map (fun d => d.parameters.length) = some n) (hc : vwCl[ci]? = some (C, Tc, Nc)) (he : wc[qr]? = some (b, .inr (ci, fs))) (hR : rm.frames + 1 ≤ R.frames ∧ 8 + (maxL + 11) + rm.locals ≤ R.locals) (hrc : rm.cells = 0) (hrs : rm.slots = 0) (hn : As.length = n) (hrest : (rest.map fun v => v.category).sum ≤ 8) (hf : cells + 0 ≤ R.cells ∧ slots + 0 ≤ R.slots) (hdg : decode cc pc = .ok (.invokevirtual index, 3)) (hP : va_P g.1 vwCl ws H) (hD : va_D A ws) (hS : va_S A H0 H locs) (hA : ∀ q, H0.size ≤ q → A q) (isC : List Nat) (hIs : isC.map (fun i => ws[i]?) = wc.map some) (hnd : va_nd isC = true) (kk : ∀ (H1 : Heap) (locs1 : List Loc), va_P g.1 vwCl ws H1 → va_D A ws → va_S A H0 H1 locs1 → W p l e R s m args below meth c H1 locs1 cells slots Q (F0 m (pc + 3) ls (.int z :: rest))) : W p l e R s m args below meth c H locs cells slots Q (F0 m pc ls (As.reverse ++ .ref b :: rest)) := by
  have hPc := part_P hP hIs
  have hDc := hD.sub isC hnd hIs
  have hFc := va_free hD hS hA isC hIs
  have hM := hM0 H.size
  refine va_calli (va_runV hC.1 hM (cwV n hC.1.2.2.2.2 hg hw hrc hrs hd hR) ⟨Pre.blind, va_recv hC.2.1 hPc hc he, fun U hU hW => ⟨rfl, by rw [hU], by rw [hU]; exact hPc, KN.warm hW hC.2, ⟨hDc.1, fun _ _ _ => trivial⟩⟩⟩ rfl hn hsz rfl (lv_room hrest) hdg hf) hS (fun q _ h => hFc q h) hFc (fun x u t H1 locs1 ht hvm hw9 hB hz1 hk1 hS1 => ?_)
  subst hw9
  obtain ⟨hP1, hD1⟩ := hB
  rw [ht] at hP1
  exact kk H1 locs1 (same_P hP hD hIs hP1 hk1) hD hS1
theorem k_callVi {C : String} {ci qr Nc : Nat} {Tc : u_T} {fs : List Value} {z : Int32} {n2 : Nat} (hC : Cx p s m args c own cc nL Ts g) (hsz : ls.size = nL) (hM0 : Ci l y wy rm g (.ref b :: As) wc w1 z) (hw : wy = Cond.code y bytes maxL ret :: ws9) (hg : GoodIn Ts (wsV own index C y wy)) (hd : y.cls = C ∧ y.cls ≠ "java/lang/invoke/MethodHandle" ∧ y.cls ≠ "java/lang/invoke/VarHandle" ∧ (parseMethodDescriptor y.desc).map (fun d => d.parameters.length) = some n) (hc : vwCl[ci]? = some (C, Tc, Nc)) (he : wc[qr]? = some (b, .inr (ci, fs))) (hR : rm.frames + 1 ≤ R.frames ∧ 8 + (maxL + 11) + rm.locals ≤ R.locals) (hrc : rm.cells = 0) (hrs : rm.slots = 0) (hn : As.length = n) (hrest : (rest.map fun v => v.category).sum ≤ 8) (hf : cells + 0 ≤ R.cells ∧ slots + 0 ≤ R.slots) (hdg : decode cc pc = .ok (.invokevirtual index, 3)) (hP : va_P g.1 vwCl ws H) (hD : va_D A ws) (hS : va_S A H0 H locs) (hA : ∀ q, H0.size ≤ q → A q) (isC : List Nat) (hIs : isC.map (fun i => ws[i]?) = wc.map some) (hnd : va_nd isC = true) (ad : List Nat) (had1 : w1.map (·.1) = ad) (had2 : wc.map (·.1) = ad) (hI2 : isC.map (fun i => ws2[i]?) = w1.map some) (isR : List Nat) (wr : va_W) (hR1 : isR.map (fun i => ws[i]?) = wr.map some) (hR3 : isR.map (fun i => ws2[i]?) = wr.map some) (hlen : ws2.length = n2) (hcov : (List.range n2).all (fun k => isC.contains k || isR.contains k) = true) (kk : ∀ (H1 : Heap) (locs1 : List Loc), va_P g.1 vwCl ws2 H1 → va_D A ws2 → va_S A H0 H1 locs1 → W p l e R s m args below meth c H1 locs1 cells slots Q (F0 m (pc + 3) ls (.int z :: rest))) : W p l e R s m args below meth c H locs cells slots Q (F0 m pc ls (As.reverse ++ .ref b :: rest)) := by
  have hPc := part_P hP hIs
  have hDc := hD.sub isC hnd hIs
  have hFc := va_free hD hS hA isC hIs
  have hM := hM0 H.size
  refine va_calli (va_runV hC.1 hM (cwV n hC.1.2.2.2.2 hg hw hrc hrs hd hR) ⟨Pre.blind, va_recv hC.2.1 hPc hc he, fun U hU hW => ⟨rfl, by rw [hU], by rw [hU]; exact hPc, KN.warm hW hC.2, ⟨hDc.1, fun _ _ _ => trivial⟩⟩⟩ rfl hn hsz rfl (lv_room hrest) hdg hf) hS (fun q _ h => hFc q h) hFc (fun x u t H1 locs1 ht hvm hw9 hB hz1 hk1 hS1 => ?_)
  subst hw9
  obtain ⟨hP1, hD1⟩ := hB
  rw [ht] at hP1
  have hat := put_at hIs had1 had2 hI2 hR1 hR3 hlen hcov
  exact kk H1 locs1 (put_P hP hD hIs (fun k q h => (hat k q h).1) hP1 hk1) (put_D hD (fun k q h => (hat k q h).2)) hS1
theorem k_callVl0 {C : String} {ci qr Nc : Nat} {Tc : u_T} {fs : List Value} {z : Int64} (hC : Cx p s m args c own cc nL Ts g) (hsz : ls.size = nL) (hM0 : Cl l y wy rm g (.ref b :: As) wc wc z) (hw : wy = Cond.code y bytes maxL ret :: ws9) (hg : GoodIn Ts (wsV own index C y wy)) (hd : y.cls = C ∧ y.cls ≠ "java/lang/invoke/MethodHandle" ∧ y.cls ≠ "java/lang/invoke/VarHandle" ∧ (parseMethodDescriptor y.desc).map (fun d => d.parameters.length) = some n) (hc : vwCl[ci]? = some (C, Tc, Nc)) (he : wc[qr]? = some (b, .inr (ci, fs))) (hR : rm.frames + 1 ≤ R.frames ∧ 8 + (maxL + 11) + rm.locals ≤ R.locals) (hrc : rm.cells = 0) (hrs : rm.slots = 0) (hn : As.length = n) (hrest : (rest.map fun v => v.category).sum ≤ 8) (hf : cells + 0 ≤ R.cells ∧ slots + 0 ≤ R.slots) (hdg : decode cc pc = .ok (.invokevirtual index, 3)) (hP : va_P g.1 vwCl ws H) (hD : va_D A ws) (hS : va_S A H0 H locs) (hA : ∀ q, H0.size ≤ q → A q) (isC : List Nat) (hIs : isC.map (fun i => ws[i]?) = wc.map some) (hnd : va_nd isC = true) (kk : ∀ (H1 : Heap) (locs1 : List Loc), va_P g.1 vwCl ws H1 → va_D A ws → va_S A H0 H1 locs1 → W p l e R s m args below meth c H1 locs1 cells slots Q (F0 m (pc + 3) ls (.long z :: rest))) : W p l e R s m args below meth c H locs cells slots Q (F0 m pc ls (As.reverse ++ .ref b :: rest)) := by
  have hPc := part_P hP hIs
  have hDc := hD.sub isC hnd hIs
  have hFc := va_free hD hS hA isC hIs
  have hM := hM0 H.size
  refine va_calll (va_runV hC.1 hM (cwV n hC.1.2.2.2.2 hg hw hrc hrs hd hR) ⟨Pre.blind, va_recv hC.2.1 hPc hc he, fun U hU hW => ⟨rfl, by rw [hU], by rw [hU]; exact hPc, KN.warm hW hC.2, ⟨hDc.1, fun _ _ _ => trivial⟩⟩⟩ rfl hn hsz rfl (lv_room hrest) hdg hf) hS (fun q _ h => hFc q h) hFc (fun x u t H1 locs1 ht hvm hw9 hB hz1 hk1 hS1 => ?_)
  subst hw9
  obtain ⟨hP1, hD1⟩ := hB
  rw [ht] at hP1
  exact kk H1 locs1 (same_P hP hD hIs hP1 hk1) hD hS1
theorem k_callVl {C : String} {ci qr Nc : Nat} {Tc : u_T} {fs : List Value} {z : Int64} {n2 : Nat} (hC : Cx p s m args c own cc nL Ts g) (hsz : ls.size = nL) (hM0 : Cl l y wy rm g (.ref b :: As) wc w1 z) (hw : wy = Cond.code y bytes maxL ret :: ws9) (hg : GoodIn Ts (wsV own index C y wy)) (hd : y.cls = C ∧ y.cls ≠ "java/lang/invoke/MethodHandle" ∧ y.cls ≠ "java/lang/invoke/VarHandle" ∧ (parseMethodDescriptor y.desc).map (fun d => d.parameters.length) = some n) (hc : vwCl[ci]? = some (C, Tc, Nc)) (he : wc[qr]? = some (b, .inr (ci, fs))) (hR : rm.frames + 1 ≤ R.frames ∧ 8 + (maxL + 11) + rm.locals ≤ R.locals) (hrc : rm.cells = 0) (hrs : rm.slots = 0) (hn : As.length = n) (hrest : (rest.map fun v => v.category).sum ≤ 8) (hf : cells + 0 ≤ R.cells ∧ slots + 0 ≤ R.slots) (hdg : decode cc pc = .ok (.invokevirtual index, 3)) (hP : va_P g.1 vwCl ws H) (hD : va_D A ws) (hS : va_S A H0 H locs) (hA : ∀ q, H0.size ≤ q → A q) (isC : List Nat) (hIs : isC.map (fun i => ws[i]?) = wc.map some) (hnd : va_nd isC = true) (ad : List Nat) (had1 : w1.map (·.1) = ad) (had2 : wc.map (·.1) = ad) (hI2 : isC.map (fun i => ws2[i]?) = w1.map some) (isR : List Nat) (wr : va_W) (hR1 : isR.map (fun i => ws[i]?) = wr.map some) (hR3 : isR.map (fun i => ws2[i]?) = wr.map some) (hlen : ws2.length = n2) (hcov : (List.range n2).all (fun k => isC.contains k || isR.contains k) = true) (kk : ∀ (H1 : Heap) (locs1 : List Loc), va_P g.1 vwCl ws2 H1 → va_D A ws2 → va_S A H0 H1 locs1 → W p l e R s m args below meth c H1 locs1 cells slots Q (F0 m (pc + 3) ls (.long z :: rest))) : W p l e R s m args below meth c H locs cells slots Q (F0 m pc ls (As.reverse ++ .ref b :: rest)) := by
  have hPc := part_P hP hIs
  have hDc := hD.sub isC hnd hIs
  have hFc := va_free hD hS hA isC hIs
  have hM := hM0 H.size
  refine va_calll (va_runV hC.1 hM (cwV n hC.1.2.2.2.2 hg hw hrc hrs hd hR) ⟨Pre.blind, va_recv hC.2.1 hPc hc he, fun U hU hW => ⟨rfl, by rw [hU], by rw [hU]; exact hPc, KN.warm hW hC.2, ⟨hDc.1, fun _ _ _ => trivial⟩⟩⟩ rfl hn hsz rfl (lv_room hrest) hdg hf) hS (fun q _ h => hFc q h) hFc (fun x u t H1 locs1 ht hvm hw9 hB hz1 hk1 hS1 => ?_)
  subst hw9
  obtain ⟨hP1, hD1⟩ := hB
  rw [ht] at hP1
  have hat := put_at hIs had1 had2 hI2 hR1 hR3 hlen hcov
  exact kk H1 locs1 (put_P hP hD hIs (fun k q h => (hat k q h).1) hP1 hk1) (put_D hD (fun k q h => (hat k q h).2)) hS1
theorem k_callVv0 {C : String} {ci qr Nc : Nat} {Tc : u_T} {fs : List Value}  (hC : Cx p s m args c own cc nL Ts g) (hsz : ls.size = nL) (hM0 : Cv l y wy rm g (.ref b :: As) wc wc) (hw : wy = Cond.code y bytes maxL ret :: ws9) (hg : GoodIn Ts (wsV own index C y wy)) (hd : y.cls = C ∧ y.cls ≠ "java/lang/invoke/MethodHandle" ∧ y.cls ≠ "java/lang/invoke/VarHandle" ∧ (parseMethodDescriptor y.desc).map (fun d => d.parameters.length) = some n) (hc : vwCl[ci]? = some (C, Tc, Nc)) (he : wc[qr]? = some (b, .inr (ci, fs))) (hR : rm.frames + 1 ≤ R.frames ∧ 8 + (maxL + 11) + rm.locals ≤ R.locals) (hrc : rm.cells = 0) (hrs : rm.slots = 0) (hn : As.length = n) (hrest : (rest.map fun v => v.category).sum ≤ 8) (hf : cells + 0 ≤ R.cells ∧ slots + 0 ≤ R.slots) (hdg : decode cc pc = .ok (.invokevirtual index, 3)) (hP : va_P g.1 vwCl ws H) (hD : va_D A ws) (hS : va_S A H0 H locs) (hA : ∀ q, H0.size ≤ q → A q) (isC : List Nat) (hIs : isC.map (fun i => ws[i]?) = wc.map some) (hnd : va_nd isC = true) (kk : ∀ (H1 : Heap) (locs1 : List Loc), va_P g.1 vwCl ws H1 → va_D A ws → va_S A H0 H1 locs1 → W p l e R s m args below meth c H1 locs1 cells slots Q (F0 m (pc + 3) ls (rest))) : W p l e R s m args below meth c H locs cells slots Q (F0 m pc ls (As.reverse ++ .ref b :: rest)) := by
  have hPc := part_P hP hIs
  have hDc := hD.sub isC hnd hIs
  have hFc := va_free hD hS hA isC hIs
  have hM := hM0 H.size
  refine va_callv (va_runV hC.1 hM (cwV n hC.1.2.2.2.2 hg hw hrc hrs hd hR) ⟨Pre.blind, va_recv hC.2.1 hPc hc he, fun U hU hW => ⟨rfl, by rw [hU], by rw [hU]; exact hPc, KN.warm hW hC.2, ⟨hDc.1, fun _ _ _ => trivial⟩⟩⟩ rfl hn hsz rfl (lv_room hrest) hdg hf) hS (fun q _ h => hFc q h) hFc (fun u t H1 locs1 ht hvm hw9 hB hz1 hk1 hS1 => ?_)
  obtain ⟨hP1, hD1⟩ := hB
  rw [ht] at hP1
  exact kk H1 locs1 (same_P hP hD hIs hP1 hk1) hD hS1
theorem k_callVv {C : String} {ci qr Nc : Nat} {Tc : u_T} {fs : List Value}  {n2 : Nat} (hC : Cx p s m args c own cc nL Ts g) (hsz : ls.size = nL) (hM0 : Cv l y wy rm g (.ref b :: As) wc w1) (hw : wy = Cond.code y bytes maxL ret :: ws9) (hg : GoodIn Ts (wsV own index C y wy)) (hd : y.cls = C ∧ y.cls ≠ "java/lang/invoke/MethodHandle" ∧ y.cls ≠ "java/lang/invoke/VarHandle" ∧ (parseMethodDescriptor y.desc).map (fun d => d.parameters.length) = some n) (hc : vwCl[ci]? = some (C, Tc, Nc)) (he : wc[qr]? = some (b, .inr (ci, fs))) (hR : rm.frames + 1 ≤ R.frames ∧ 8 + (maxL + 11) + rm.locals ≤ R.locals) (hrc : rm.cells = 0) (hrs : rm.slots = 0) (hn : As.length = n) (hrest : (rest.map fun v => v.category).sum ≤ 8) (hf : cells + 0 ≤ R.cells ∧ slots + 0 ≤ R.slots) (hdg : decode cc pc = .ok (.invokevirtual index, 3)) (hP : va_P g.1 vwCl ws H) (hD : va_D A ws) (hS : va_S A H0 H locs) (hA : ∀ q, H0.size ≤ q → A q) (isC : List Nat) (hIs : isC.map (fun i => ws[i]?) = wc.map some) (hnd : va_nd isC = true) (ad : List Nat) (had1 : w1.map (·.1) = ad) (had2 : wc.map (·.1) = ad) (hI2 : isC.map (fun i => ws2[i]?) = w1.map some) (isR : List Nat) (wr : va_W) (hR1 : isR.map (fun i => ws[i]?) = wr.map some) (hR3 : isR.map (fun i => ws2[i]?) = wr.map some) (hlen : ws2.length = n2) (hcov : (List.range n2).all (fun k => isC.contains k || isR.contains k) = true) (kk : ∀ (H1 : Heap) (locs1 : List Loc), va_P g.1 vwCl ws2 H1 → va_D A ws2 → va_S A H0 H1 locs1 → W p l e R s m args below meth c H1 locs1 cells slots Q (F0 m (pc + 3) ls (rest))) : W p l e R s m args below meth c H locs cells slots Q (F0 m pc ls (As.reverse ++ .ref b :: rest)) := by
  have hPc := part_P hP hIs
  have hDc := hD.sub isC hnd hIs
  have hFc := va_free hD hS hA isC hIs
  have hM := hM0 H.size
  refine va_callv (va_runV hC.1 hM (cwV n hC.1.2.2.2.2 hg hw hrc hrs hd hR) ⟨Pre.blind, va_recv hC.2.1 hPc hc he, fun U hU hW => ⟨rfl, by rw [hU], by rw [hU]; exact hPc, KN.warm hW hC.2, ⟨hDc.1, fun _ _ _ => trivial⟩⟩⟩ rfl hn hsz rfl (lv_room hrest) hdg hf) hS (fun q _ h => hFc q h) hFc (fun u t H1 locs1 ht hvm hw9 hB hz1 hk1 hS1 => ?_)
  obtain ⟨hP1, hD1⟩ := hB
  rw [ht] at hP1
  have hat := put_at hIs had1 had2 hI2 hR1 hR3 hlen hcov
  exact kk H1 locs1 (put_P hP hD hIs (fun k q h => (hat k q h).1) hP1 hk1) (put_D hD (fun k q h => (hat k q h).2)) hS1
theorem k_callSi0  {z : Int32} (hC : Cx p s m args c own cc nL Ts g) (hsz : ls.size = nL) (hM0 : Ci l y wy rm g As wc wc z) (hw : wy = Cond.code y bytes maxL ret :: ws9) (hg : GoodIn Ts (va_wsS own index y wy)) (hd : y.cls ≠ "java/lang/invoke/MethodHandle" ∧ y.cls ≠ "java/lang/invoke/VarHandle" ∧ (parseMethodDescriptor y.desc).map (fun d => d.parameters.length) = some n) (hR : rm.frames + 1 ≤ R.frames ∧ 8 + (maxL + 11) + rm.locals ≤ R.locals) (hrc : rm.cells = 0) (hrs : rm.slots = 0) (hn : As.length = n) (hrest : (rest.map fun v => v.category).sum ≤ 8) (hf : cells + 0 ≤ R.cells ∧ slots + 0 ≤ R.slots) (hdg : decode cc pc = .ok (.invokestatic index, 3)) (hP : va_P g.1 vwCl ws H) (hD : va_D A ws) (hS : va_S A H0 H locs) (hA : ∀ q, H0.size ≤ q → A q) (isC : List Nat) (hIs : isC.map (fun i => ws[i]?) = wc.map some) (hnd : va_nd isC = true) (kk : ∀ (H1 : Heap) (locs1 : List Loc), va_P g.1 vwCl ws H1 → va_D A ws → va_S A H0 H1 locs1 → W p l e R s m args below meth c H1 locs1 cells slots Q (F0 m (pc + 3) ls (.int z :: rest))) : W p l e R s m args below meth c H locs cells slots Q (F0 m pc ls (As.reverse ++ rest)) := by
  have hPc := part_P hP hIs
  have hDc := hD.sub isC hnd hIs
  have hFc := va_free hD hS hA isC hIs
  have hM := hM0 H.size
  refine va_calli (va_runS hC.1 hM (va_cwS n hC.1.2.2.2.2 hg hw hrc hrs hd hR) ⟨Pre.blind, fun U hU hW => ⟨rfl, by rw [hU], by rw [hU]; exact hPc, KN.warm hW hC.2, ⟨hDc.1, fun _ _ _ => trivial⟩⟩⟩ rfl hn hsz rfl (lv_room hrest) hdg hf) hS (fun q _ h => hFc q h) hFc (fun x u t H1 locs1 ht hvm hw9 hB hz1 hk1 hS1 => ?_)
  subst hw9
  obtain ⟨hP1, hD1⟩ := hB
  rw [ht] at hP1
  exact kk H1 locs1 (same_P hP hD hIs hP1 hk1) hD hS1
theorem k_callSi  {z : Int32} {n2 : Nat} (hC : Cx p s m args c own cc nL Ts g) (hsz : ls.size = nL) (hM0 : Ci l y wy rm g As wc w1 z) (hw : wy = Cond.code y bytes maxL ret :: ws9) (hg : GoodIn Ts (va_wsS own index y wy)) (hd : y.cls ≠ "java/lang/invoke/MethodHandle" ∧ y.cls ≠ "java/lang/invoke/VarHandle" ∧ (parseMethodDescriptor y.desc).map (fun d => d.parameters.length) = some n) (hR : rm.frames + 1 ≤ R.frames ∧ 8 + (maxL + 11) + rm.locals ≤ R.locals) (hrc : rm.cells = 0) (hrs : rm.slots = 0) (hn : As.length = n) (hrest : (rest.map fun v => v.category).sum ≤ 8) (hf : cells + 0 ≤ R.cells ∧ slots + 0 ≤ R.slots) (hdg : decode cc pc = .ok (.invokestatic index, 3)) (hP : va_P g.1 vwCl ws H) (hD : va_D A ws) (hS : va_S A H0 H locs) (hA : ∀ q, H0.size ≤ q → A q) (isC : List Nat) (hIs : isC.map (fun i => ws[i]?) = wc.map some) (hnd : va_nd isC = true) (ad : List Nat) (had1 : w1.map (·.1) = ad) (had2 : wc.map (·.1) = ad) (hI2 : isC.map (fun i => ws2[i]?) = w1.map some) (isR : List Nat) (wr : va_W) (hR1 : isR.map (fun i => ws[i]?) = wr.map some) (hR3 : isR.map (fun i => ws2[i]?) = wr.map some) (hlen : ws2.length = n2) (hcov : (List.range n2).all (fun k => isC.contains k || isR.contains k) = true) (kk : ∀ (H1 : Heap) (locs1 : List Loc), va_P g.1 vwCl ws2 H1 → va_D A ws2 → va_S A H0 H1 locs1 → W p l e R s m args below meth c H1 locs1 cells slots Q (F0 m (pc + 3) ls (.int z :: rest))) : W p l e R s m args below meth c H locs cells slots Q (F0 m pc ls (As.reverse ++ rest)) := by
  have hPc := part_P hP hIs
  have hDc := hD.sub isC hnd hIs
  have hFc := va_free hD hS hA isC hIs
  have hM := hM0 H.size
  refine va_calli (va_runS hC.1 hM (va_cwS n hC.1.2.2.2.2 hg hw hrc hrs hd hR) ⟨Pre.blind, fun U hU hW => ⟨rfl, by rw [hU], by rw [hU]; exact hPc, KN.warm hW hC.2, ⟨hDc.1, fun _ _ _ => trivial⟩⟩⟩ rfl hn hsz rfl (lv_room hrest) hdg hf) hS (fun q _ h => hFc q h) hFc (fun x u t H1 locs1 ht hvm hw9 hB hz1 hk1 hS1 => ?_)
  subst hw9
  obtain ⟨hP1, hD1⟩ := hB
  rw [ht] at hP1
  have hat := put_at hIs had1 had2 hI2 hR1 hR3 hlen hcov
  exact kk H1 locs1 (put_P hP hD hIs (fun k q h => (hat k q h).1) hP1 hk1) (put_D hD (fun k q h => (hat k q h).2)) hS1
theorem k_callSl0  {z : Int64} (hC : Cx p s m args c own cc nL Ts g) (hsz : ls.size = nL) (hM0 : Cl l y wy rm g As wc wc z) (hw : wy = Cond.code y bytes maxL ret :: ws9) (hg : GoodIn Ts (va_wsS own index y wy)) (hd : y.cls ≠ "java/lang/invoke/MethodHandle" ∧ y.cls ≠ "java/lang/invoke/VarHandle" ∧ (parseMethodDescriptor y.desc).map (fun d => d.parameters.length) = some n) (hR : rm.frames + 1 ≤ R.frames ∧ 8 + (maxL + 11) + rm.locals ≤ R.locals) (hrc : rm.cells = 0) (hrs : rm.slots = 0) (hn : As.length = n) (hrest : (rest.map fun v => v.category).sum ≤ 8) (hf : cells + 0 ≤ R.cells ∧ slots + 0 ≤ R.slots) (hdg : decode cc pc = .ok (.invokestatic index, 3)) (hP : va_P g.1 vwCl ws H) (hD : va_D A ws) (hS : va_S A H0 H locs) (hA : ∀ q, H0.size ≤ q → A q) (isC : List Nat) (hIs : isC.map (fun i => ws[i]?) = wc.map some) (hnd : va_nd isC = true) (kk : ∀ (H1 : Heap) (locs1 : List Loc), va_P g.1 vwCl ws H1 → va_D A ws → va_S A H0 H1 locs1 → W p l e R s m args below meth c H1 locs1 cells slots Q (F0 m (pc + 3) ls (.long z :: rest))) : W p l e R s m args below meth c H locs cells slots Q (F0 m pc ls (As.reverse ++ rest)) := by
  have hPc := part_P hP hIs
  have hDc := hD.sub isC hnd hIs
  have hFc := va_free hD hS hA isC hIs
  have hM := hM0 H.size
  refine va_calll (va_runS hC.1 hM (va_cwS n hC.1.2.2.2.2 hg hw hrc hrs hd hR) ⟨Pre.blind, fun U hU hW => ⟨rfl, by rw [hU], by rw [hU]; exact hPc, KN.warm hW hC.2, ⟨hDc.1, fun _ _ _ => trivial⟩⟩⟩ rfl hn hsz rfl (lv_room hrest) hdg hf) hS (fun q _ h => hFc q h) hFc (fun x u t H1 locs1 ht hvm hw9 hB hz1 hk1 hS1 => ?_)
  subst hw9
  obtain ⟨hP1, hD1⟩ := hB
  rw [ht] at hP1
  exact kk H1 locs1 (same_P hP hD hIs hP1 hk1) hD hS1
theorem k_callSl  {z : Int64} {n2 : Nat} (hC : Cx p s m args c own cc nL Ts g) (hsz : ls.size = nL) (hM0 : Cl l y wy rm g As wc w1 z) (hw : wy = Cond.code y bytes maxL ret :: ws9) (hg : GoodIn Ts (va_wsS own index y wy)) (hd : y.cls ≠ "java/lang/invoke/MethodHandle" ∧ y.cls ≠ "java/lang/invoke/VarHandle" ∧ (parseMethodDescriptor y.desc).map (fun d => d.parameters.length) = some n) (hR : rm.frames + 1 ≤ R.frames ∧ 8 + (maxL + 11) + rm.locals ≤ R.locals) (hrc : rm.cells = 0) (hrs : rm.slots = 0) (hn : As.length = n) (hrest : (rest.map fun v => v.category).sum ≤ 8) (hf : cells + 0 ≤ R.cells ∧ slots + 0 ≤ R.slots) (hdg : decode cc pc = .ok (.invokestatic index, 3)) (hP : va_P g.1 vwCl ws H) (hD : va_D A ws) (hS : va_S A H0 H locs) (hA : ∀ q, H0.size ≤ q → A q) (isC : List Nat) (hIs : isC.map (fun i => ws[i]?) = wc.map some) (hnd : va_nd isC = true) (ad : List Nat) (had1 : w1.map (·.1) = ad) (had2 : wc.map (·.1) = ad) (hI2 : isC.map (fun i => ws2[i]?) = w1.map some) (isR : List Nat) (wr : va_W) (hR1 : isR.map (fun i => ws[i]?) = wr.map some) (hR3 : isR.map (fun i => ws2[i]?) = wr.map some) (hlen : ws2.length = n2) (hcov : (List.range n2).all (fun k => isC.contains k || isR.contains k) = true) (kk : ∀ (H1 : Heap) (locs1 : List Loc), va_P g.1 vwCl ws2 H1 → va_D A ws2 → va_S A H0 H1 locs1 → W p l e R s m args below meth c H1 locs1 cells slots Q (F0 m (pc + 3) ls (.long z :: rest))) : W p l e R s m args below meth c H locs cells slots Q (F0 m pc ls (As.reverse ++ rest)) := by
  have hPc := part_P hP hIs
  have hDc := hD.sub isC hnd hIs
  have hFc := va_free hD hS hA isC hIs
  have hM := hM0 H.size
  refine va_calll (va_runS hC.1 hM (va_cwS n hC.1.2.2.2.2 hg hw hrc hrs hd hR) ⟨Pre.blind, fun U hU hW => ⟨rfl, by rw [hU], by rw [hU]; exact hPc, KN.warm hW hC.2, ⟨hDc.1, fun _ _ _ => trivial⟩⟩⟩ rfl hn hsz rfl (lv_room hrest) hdg hf) hS (fun q _ h => hFc q h) hFc (fun x u t H1 locs1 ht hvm hw9 hB hz1 hk1 hS1 => ?_)
  subst hw9
  obtain ⟨hP1, hD1⟩ := hB
  rw [ht] at hP1
  have hat := put_at hIs had1 had2 hI2 hR1 hR3 hlen hcov
  exact kk H1 locs1 (put_P hP hD hIs (fun k q h => (hat k q h).1) hP1 hk1) (put_D hD (fun k q h => (hat k q h).2)) hS1
theorem k_callSv0   (hC : Cx p s m args c own cc nL Ts g) (hsz : ls.size = nL) (hM0 : Cv l y wy rm g As wc wc) (hw : wy = Cond.code y bytes maxL ret :: ws9) (hg : GoodIn Ts (va_wsS own index y wy)) (hd : y.cls ≠ "java/lang/invoke/MethodHandle" ∧ y.cls ≠ "java/lang/invoke/VarHandle" ∧ (parseMethodDescriptor y.desc).map (fun d => d.parameters.length) = some n) (hR : rm.frames + 1 ≤ R.frames ∧ 8 + (maxL + 11) + rm.locals ≤ R.locals) (hrc : rm.cells = 0) (hrs : rm.slots = 0) (hn : As.length = n) (hrest : (rest.map fun v => v.category).sum ≤ 8) (hf : cells + 0 ≤ R.cells ∧ slots + 0 ≤ R.slots) (hdg : decode cc pc = .ok (.invokestatic index, 3)) (hP : va_P g.1 vwCl ws H) (hD : va_D A ws) (hS : va_S A H0 H locs) (hA : ∀ q, H0.size ≤ q → A q) (isC : List Nat) (hIs : isC.map (fun i => ws[i]?) = wc.map some) (hnd : va_nd isC = true) (kk : ∀ (H1 : Heap) (locs1 : List Loc), va_P g.1 vwCl ws H1 → va_D A ws → va_S A H0 H1 locs1 → W p l e R s m args below meth c H1 locs1 cells slots Q (F0 m (pc + 3) ls (rest))) : W p l e R s m args below meth c H locs cells slots Q (F0 m pc ls (As.reverse ++ rest)) := by
  have hPc := part_P hP hIs
  have hDc := hD.sub isC hnd hIs
  have hFc := va_free hD hS hA isC hIs
  have hM := hM0 H.size
  refine va_callv (va_runS hC.1 hM (va_cwS n hC.1.2.2.2.2 hg hw hrc hrs hd hR) ⟨Pre.blind, fun U hU hW => ⟨rfl, by rw [hU], by rw [hU]; exact hPc, KN.warm hW hC.2, ⟨hDc.1, fun _ _ _ => trivial⟩⟩⟩ rfl hn hsz rfl (lv_room hrest) hdg hf) hS (fun q _ h => hFc q h) hFc (fun u t H1 locs1 ht hvm hw9 hB hz1 hk1 hS1 => ?_)
  obtain ⟨hP1, hD1⟩ := hB
  rw [ht] at hP1
  exact kk H1 locs1 (same_P hP hD hIs hP1 hk1) hD hS1
theorem k_callSv   {n2 : Nat} (hC : Cx p s m args c own cc nL Ts g) (hsz : ls.size = nL) (hM0 : Cv l y wy rm g As wc w1) (hw : wy = Cond.code y bytes maxL ret :: ws9) (hg : GoodIn Ts (va_wsS own index y wy)) (hd : y.cls ≠ "java/lang/invoke/MethodHandle" ∧ y.cls ≠ "java/lang/invoke/VarHandle" ∧ (parseMethodDescriptor y.desc).map (fun d => d.parameters.length) = some n) (hR : rm.frames + 1 ≤ R.frames ∧ 8 + (maxL + 11) + rm.locals ≤ R.locals) (hrc : rm.cells = 0) (hrs : rm.slots = 0) (hn : As.length = n) (hrest : (rest.map fun v => v.category).sum ≤ 8) (hf : cells + 0 ≤ R.cells ∧ slots + 0 ≤ R.slots) (hdg : decode cc pc = .ok (.invokestatic index, 3)) (hP : va_P g.1 vwCl ws H) (hD : va_D A ws) (hS : va_S A H0 H locs) (hA : ∀ q, H0.size ≤ q → A q) (isC : List Nat) (hIs : isC.map (fun i => ws[i]?) = wc.map some) (hnd : va_nd isC = true) (ad : List Nat) (had1 : w1.map (·.1) = ad) (had2 : wc.map (·.1) = ad) (hI2 : isC.map (fun i => ws2[i]?) = w1.map some) (isR : List Nat) (wr : va_W) (hR1 : isR.map (fun i => ws[i]?) = wr.map some) (hR3 : isR.map (fun i => ws2[i]?) = wr.map some) (hlen : ws2.length = n2) (hcov : (List.range n2).all (fun k => isC.contains k || isR.contains k) = true) (kk : ∀ (H1 : Heap) (locs1 : List Loc), va_P g.1 vwCl ws2 H1 → va_D A ws2 → va_S A H0 H1 locs1 → W p l e R s m args below meth c H1 locs1 cells slots Q (F0 m (pc + 3) ls (rest))) : W p l e R s m args below meth c H locs cells slots Q (F0 m pc ls (As.reverse ++ rest)) := by
  have hPc := part_P hP hIs
  have hDc := hD.sub isC hnd hIs
  have hFc := va_free hD hS hA isC hIs
  have hM := hM0 H.size
  refine va_callv (va_runS hC.1 hM (va_cwS n hC.1.2.2.2.2 hg hw hrc hrs hd hR) ⟨Pre.blind, fun U hU hW => ⟨rfl, by rw [hU], by rw [hU]; exact hPc, KN.warm hW hC.2, ⟨hDc.1, fun _ _ _ => trivial⟩⟩⟩ rfl hn hsz rfl (lv_room hrest) hdg hf) hS (fun q _ h => hFc q h) hFc (fun u t H1 locs1 ht hvm hw9 hB hz1 hk1 hS1 => ?_)
  obtain ⟨hP1, hD1⟩ := hB
  rw [ht] at hP1
  have hat := put_at hIs had1 had2 hI2 hR1 hR3 hlen hcov
  exact kk H1 locs1 (put_P hP hD hIs (fun k q h => (hat k q h).1) hP1 hk1) (put_D hD (fun k q h => (hat k q h).2)) hS1
theorem k_callNi0  {z : Int32} (hC : Cx p s m args c own cc nL Ts g) (hsz : ls.size = nL) (hM0 : Ci l y wy rm g As wc wc z) (hw : wy = Cond.code y bytes maxL ret :: ws9) (hg : GoodIn Ts wy) (hnest : Cond.methodLinkNest own index y "BrickOven" ∈ nests) (hini : Cond.initialized y.cls ∈ Ts) (hstat : Cond.static y ∈ Ts) (hd : y.cls ≠ "java/lang/invoke/MethodHandle" ∧ y.cls ≠ "java/lang/invoke/VarHandle" ∧ (parseMethodDescriptor y.desc).map (fun d => d.parameters.length) = some n) (hR : rm.frames + 1 ≤ R.frames ∧ 8 + (maxL + 11) + rm.locals ≤ R.locals) (hrc : rm.cells = 0) (hrs : rm.slots = 0) (hn : As.length = n) (hrest : (rest.map fun v => v.category).sum ≤ 8) (hf : cells + 0 ≤ R.cells ∧ slots + 0 ≤ R.slots) (hdg : decode cc pc = .ok (.invokestatic index, 3)) (hP : va_P g.1 vwCl ws H) (hD : va_D A ws) (hS : va_S A H0 H locs) (hA : ∀ q, H0.size ≤ q → A q) (isC : List Nat) (hIs : isC.map (fun i => ws[i]?) = wc.map some) (hnd : va_nd isC = true) (kk : ∀ (H1 : Heap) (locs1 : List Loc), va_P g.1 vwCl ws H1 → va_D A ws → va_S A H0 H1 locs1 → W p l e R s m args below meth c H1 locs1 cells slots Q (F0 m (pc + 3) ls (.int z :: rest))) : W p l e R s m args below meth c H locs cells slots Q (F0 m pc ls (As.reverse ++ rest)) := by
  have hPc := part_P hP hIs
  have hDc := hD.sub isC hnd hIs
  have hFc := va_free hD hS hA isC hIs
  have hM := hM0 H.size
  refine va_calli (va_runSN hC.1 hM ⟨va_cnB n hC.1.2.2.2.2 hg hw hrc hrs (hC.2.2 _ hnest) (hC.1.2.2.2.2 _ hini) hd hR, hC.1.2.2.2.2 _ hstat, trivial⟩ ⟨Pre.blind, fun U hU hW => ⟨rfl, by rw [hU], by rw [hU]; exact hPc, KN.warm hW hC.2, ⟨hDc.1, fun _ _ _ => trivial⟩⟩⟩ rfl hn hsz rfl (lv_room hrest) hdg hf) hS (fun q _ h => hFc q h) hFc (fun x u t H1 locs1 ht hvm hw9 hB hz1 hk1 hS1 => ?_)
  subst hw9
  obtain ⟨hP1, hD1⟩ := hB
  rw [ht] at hP1
  exact kk H1 locs1 (same_P hP hD hIs hP1 hk1) hD hS1
theorem k_callNi  {z : Int32} {n2 : Nat} (hC : Cx p s m args c own cc nL Ts g) (hsz : ls.size = nL) (hM0 : Ci l y wy rm g As wc w1 z) (hw : wy = Cond.code y bytes maxL ret :: ws9) (hg : GoodIn Ts wy) (hnest : Cond.methodLinkNest own index y "BrickOven" ∈ nests) (hini : Cond.initialized y.cls ∈ Ts) (hstat : Cond.static y ∈ Ts) (hd : y.cls ≠ "java/lang/invoke/MethodHandle" ∧ y.cls ≠ "java/lang/invoke/VarHandle" ∧ (parseMethodDescriptor y.desc).map (fun d => d.parameters.length) = some n) (hR : rm.frames + 1 ≤ R.frames ∧ 8 + (maxL + 11) + rm.locals ≤ R.locals) (hrc : rm.cells = 0) (hrs : rm.slots = 0) (hn : As.length = n) (hrest : (rest.map fun v => v.category).sum ≤ 8) (hf : cells + 0 ≤ R.cells ∧ slots + 0 ≤ R.slots) (hdg : decode cc pc = .ok (.invokestatic index, 3)) (hP : va_P g.1 vwCl ws H) (hD : va_D A ws) (hS : va_S A H0 H locs) (hA : ∀ q, H0.size ≤ q → A q) (isC : List Nat) (hIs : isC.map (fun i => ws[i]?) = wc.map some) (hnd : va_nd isC = true) (ad : List Nat) (had1 : w1.map (·.1) = ad) (had2 : wc.map (·.1) = ad) (hI2 : isC.map (fun i => ws2[i]?) = w1.map some) (isR : List Nat) (wr : va_W) (hR1 : isR.map (fun i => ws[i]?) = wr.map some) (hR3 : isR.map (fun i => ws2[i]?) = wr.map some) (hlen : ws2.length = n2) (hcov : (List.range n2).all (fun k => isC.contains k || isR.contains k) = true) (kk : ∀ (H1 : Heap) (locs1 : List Loc), va_P g.1 vwCl ws2 H1 → va_D A ws2 → va_S A H0 H1 locs1 → W p l e R s m args below meth c H1 locs1 cells slots Q (F0 m (pc + 3) ls (.int z :: rest))) : W p l e R s m args below meth c H locs cells slots Q (F0 m pc ls (As.reverse ++ rest)) := by
  have hPc := part_P hP hIs
  have hDc := hD.sub isC hnd hIs
  have hFc := va_free hD hS hA isC hIs
  have hM := hM0 H.size
  refine va_calli (va_runSN hC.1 hM ⟨va_cnB n hC.1.2.2.2.2 hg hw hrc hrs (hC.2.2 _ hnest) (hC.1.2.2.2.2 _ hini) hd hR, hC.1.2.2.2.2 _ hstat, trivial⟩ ⟨Pre.blind, fun U hU hW => ⟨rfl, by rw [hU], by rw [hU]; exact hPc, KN.warm hW hC.2, ⟨hDc.1, fun _ _ _ => trivial⟩⟩⟩ rfl hn hsz rfl (lv_room hrest) hdg hf) hS (fun q _ h => hFc q h) hFc (fun x u t H1 locs1 ht hvm hw9 hB hz1 hk1 hS1 => ?_)
  subst hw9
  obtain ⟨hP1, hD1⟩ := hB
  rw [ht] at hP1
  have hat := put_at hIs had1 had2 hI2 hR1 hR3 hlen hcov
  exact kk H1 locs1 (put_P hP hD hIs (fun k q h => (hat k q h).1) hP1 hk1) (put_D hD (fun k q h => (hat k q h).2)) hS1
theorem k_callNl0  {z : Int64} (hC : Cx p s m args c own cc nL Ts g) (hsz : ls.size = nL) (hM0 : Cl l y wy rm g As wc wc z) (hw : wy = Cond.code y bytes maxL ret :: ws9) (hg : GoodIn Ts wy) (hnest : Cond.methodLinkNest own index y "BrickOven" ∈ nests) (hini : Cond.initialized y.cls ∈ Ts) (hstat : Cond.static y ∈ Ts) (hd : y.cls ≠ "java/lang/invoke/MethodHandle" ∧ y.cls ≠ "java/lang/invoke/VarHandle" ∧ (parseMethodDescriptor y.desc).map (fun d => d.parameters.length) = some n) (hR : rm.frames + 1 ≤ R.frames ∧ 8 + (maxL + 11) + rm.locals ≤ R.locals) (hrc : rm.cells = 0) (hrs : rm.slots = 0) (hn : As.length = n) (hrest : (rest.map fun v => v.category).sum ≤ 8) (hf : cells + 0 ≤ R.cells ∧ slots + 0 ≤ R.slots) (hdg : decode cc pc = .ok (.invokestatic index, 3)) (hP : va_P g.1 vwCl ws H) (hD : va_D A ws) (hS : va_S A H0 H locs) (hA : ∀ q, H0.size ≤ q → A q) (isC : List Nat) (hIs : isC.map (fun i => ws[i]?) = wc.map some) (hnd : va_nd isC = true) (kk : ∀ (H1 : Heap) (locs1 : List Loc), va_P g.1 vwCl ws H1 → va_D A ws → va_S A H0 H1 locs1 → W p l e R s m args below meth c H1 locs1 cells slots Q (F0 m (pc + 3) ls (.long z :: rest))) : W p l e R s m args below meth c H locs cells slots Q (F0 m pc ls (As.reverse ++ rest)) := by
  have hPc := part_P hP hIs
  have hDc := hD.sub isC hnd hIs
  have hFc := va_free hD hS hA isC hIs
  have hM := hM0 H.size
  refine va_calll (va_runSN hC.1 hM ⟨va_cnB n hC.1.2.2.2.2 hg hw hrc hrs (hC.2.2 _ hnest) (hC.1.2.2.2.2 _ hini) hd hR, hC.1.2.2.2.2 _ hstat, trivial⟩ ⟨Pre.blind, fun U hU hW => ⟨rfl, by rw [hU], by rw [hU]; exact hPc, KN.warm hW hC.2, ⟨hDc.1, fun _ _ _ => trivial⟩⟩⟩ rfl hn hsz rfl (lv_room hrest) hdg hf) hS (fun q _ h => hFc q h) hFc (fun x u t H1 locs1 ht hvm hw9 hB hz1 hk1 hS1 => ?_)
  subst hw9
  obtain ⟨hP1, hD1⟩ := hB
  rw [ht] at hP1
  exact kk H1 locs1 (same_P hP hD hIs hP1 hk1) hD hS1
theorem k_callNl  {z : Int64} {n2 : Nat} (hC : Cx p s m args c own cc nL Ts g) (hsz : ls.size = nL) (hM0 : Cl l y wy rm g As wc w1 z) (hw : wy = Cond.code y bytes maxL ret :: ws9) (hg : GoodIn Ts wy) (hnest : Cond.methodLinkNest own index y "BrickOven" ∈ nests) (hini : Cond.initialized y.cls ∈ Ts) (hstat : Cond.static y ∈ Ts) (hd : y.cls ≠ "java/lang/invoke/MethodHandle" ∧ y.cls ≠ "java/lang/invoke/VarHandle" ∧ (parseMethodDescriptor y.desc).map (fun d => d.parameters.length) = some n) (hR : rm.frames + 1 ≤ R.frames ∧ 8 + (maxL + 11) + rm.locals ≤ R.locals) (hrc : rm.cells = 0) (hrs : rm.slots = 0) (hn : As.length = n) (hrest : (rest.map fun v => v.category).sum ≤ 8) (hf : cells + 0 ≤ R.cells ∧ slots + 0 ≤ R.slots) (hdg : decode cc pc = .ok (.invokestatic index, 3)) (hP : va_P g.1 vwCl ws H) (hD : va_D A ws) (hS : va_S A H0 H locs) (hA : ∀ q, H0.size ≤ q → A q) (isC : List Nat) (hIs : isC.map (fun i => ws[i]?) = wc.map some) (hnd : va_nd isC = true) (ad : List Nat) (had1 : w1.map (·.1) = ad) (had2 : wc.map (·.1) = ad) (hI2 : isC.map (fun i => ws2[i]?) = w1.map some) (isR : List Nat) (wr : va_W) (hR1 : isR.map (fun i => ws[i]?) = wr.map some) (hR3 : isR.map (fun i => ws2[i]?) = wr.map some) (hlen : ws2.length = n2) (hcov : (List.range n2).all (fun k => isC.contains k || isR.contains k) = true) (kk : ∀ (H1 : Heap) (locs1 : List Loc), va_P g.1 vwCl ws2 H1 → va_D A ws2 → va_S A H0 H1 locs1 → W p l e R s m args below meth c H1 locs1 cells slots Q (F0 m (pc + 3) ls (.long z :: rest))) : W p l e R s m args below meth c H locs cells slots Q (F0 m pc ls (As.reverse ++ rest)) := by
  have hPc := part_P hP hIs
  have hDc := hD.sub isC hnd hIs
  have hFc := va_free hD hS hA isC hIs
  have hM := hM0 H.size
  refine va_calll (va_runSN hC.1 hM ⟨va_cnB n hC.1.2.2.2.2 hg hw hrc hrs (hC.2.2 _ hnest) (hC.1.2.2.2.2 _ hini) hd hR, hC.1.2.2.2.2 _ hstat, trivial⟩ ⟨Pre.blind, fun U hU hW => ⟨rfl, by rw [hU], by rw [hU]; exact hPc, KN.warm hW hC.2, ⟨hDc.1, fun _ _ _ => trivial⟩⟩⟩ rfl hn hsz rfl (lv_room hrest) hdg hf) hS (fun q _ h => hFc q h) hFc (fun x u t H1 locs1 ht hvm hw9 hB hz1 hk1 hS1 => ?_)
  subst hw9
  obtain ⟨hP1, hD1⟩ := hB
  rw [ht] at hP1
  have hat := put_at hIs had1 had2 hI2 hR1 hR3 hlen hcov
  exact kk H1 locs1 (put_P hP hD hIs (fun k q h => (hat k q h).1) hP1 hk1) (put_D hD (fun k q h => (hat k q h).2)) hS1
theorem k_callNv0   (hC : Cx p s m args c own cc nL Ts g) (hsz : ls.size = nL) (hM0 : Cv l y wy rm g As wc wc) (hw : wy = Cond.code y bytes maxL ret :: ws9) (hg : GoodIn Ts wy) (hnest : Cond.methodLinkNest own index y "BrickOven" ∈ nests) (hini : Cond.initialized y.cls ∈ Ts) (hstat : Cond.static y ∈ Ts) (hd : y.cls ≠ "java/lang/invoke/MethodHandle" ∧ y.cls ≠ "java/lang/invoke/VarHandle" ∧ (parseMethodDescriptor y.desc).map (fun d => d.parameters.length) = some n) (hR : rm.frames + 1 ≤ R.frames ∧ 8 + (maxL + 11) + rm.locals ≤ R.locals) (hrc : rm.cells = 0) (hrs : rm.slots = 0) (hn : As.length = n) (hrest : (rest.map fun v => v.category).sum ≤ 8) (hf : cells + 0 ≤ R.cells ∧ slots + 0 ≤ R.slots) (hdg : decode cc pc = .ok (.invokestatic index, 3)) (hP : va_P g.1 vwCl ws H) (hD : va_D A ws) (hS : va_S A H0 H locs) (hA : ∀ q, H0.size ≤ q → A q) (isC : List Nat) (hIs : isC.map (fun i => ws[i]?) = wc.map some) (hnd : va_nd isC = true) (kk : ∀ (H1 : Heap) (locs1 : List Loc), va_P g.1 vwCl ws H1 → va_D A ws → va_S A H0 H1 locs1 → W p l e R s m args below meth c H1 locs1 cells slots Q (F0 m (pc + 3) ls (rest))) : W p l e R s m args below meth c H locs cells slots Q (F0 m pc ls (As.reverse ++ rest)) := by
  have hPc := part_P hP hIs
  have hDc := hD.sub isC hnd hIs
  have hFc := va_free hD hS hA isC hIs
  have hM := hM0 H.size
  refine va_callv (va_runSN hC.1 hM ⟨va_cnB n hC.1.2.2.2.2 hg hw hrc hrs (hC.2.2 _ hnest) (hC.1.2.2.2.2 _ hini) hd hR, hC.1.2.2.2.2 _ hstat, trivial⟩ ⟨Pre.blind, fun U hU hW => ⟨rfl, by rw [hU], by rw [hU]; exact hPc, KN.warm hW hC.2, ⟨hDc.1, fun _ _ _ => trivial⟩⟩⟩ rfl hn hsz rfl (lv_room hrest) hdg hf) hS (fun q _ h => hFc q h) hFc (fun u t H1 locs1 ht hvm hw9 hB hz1 hk1 hS1 => ?_)
  obtain ⟨hP1, hD1⟩ := hB
  rw [ht] at hP1
  exact kk H1 locs1 (same_P hP hD hIs hP1 hk1) hD hS1
theorem k_callNv   {n2 : Nat} (hC : Cx p s m args c own cc nL Ts g) (hsz : ls.size = nL) (hM0 : Cv l y wy rm g As wc w1) (hw : wy = Cond.code y bytes maxL ret :: ws9) (hg : GoodIn Ts wy) (hnest : Cond.methodLinkNest own index y "BrickOven" ∈ nests) (hini : Cond.initialized y.cls ∈ Ts) (hstat : Cond.static y ∈ Ts) (hd : y.cls ≠ "java/lang/invoke/MethodHandle" ∧ y.cls ≠ "java/lang/invoke/VarHandle" ∧ (parseMethodDescriptor y.desc).map (fun d => d.parameters.length) = some n) (hR : rm.frames + 1 ≤ R.frames ∧ 8 + (maxL + 11) + rm.locals ≤ R.locals) (hrc : rm.cells = 0) (hrs : rm.slots = 0) (hn : As.length = n) (hrest : (rest.map fun v => v.category).sum ≤ 8) (hf : cells + 0 ≤ R.cells ∧ slots + 0 ≤ R.slots) (hdg : decode cc pc = .ok (.invokestatic index, 3)) (hP : va_P g.1 vwCl ws H) (hD : va_D A ws) (hS : va_S A H0 H locs) (hA : ∀ q, H0.size ≤ q → A q) (isC : List Nat) (hIs : isC.map (fun i => ws[i]?) = wc.map some) (hnd : va_nd isC = true) (ad : List Nat) (had1 : w1.map (·.1) = ad) (had2 : wc.map (·.1) = ad) (hI2 : isC.map (fun i => ws2[i]?) = w1.map some) (isR : List Nat) (wr : va_W) (hR1 : isR.map (fun i => ws[i]?) = wr.map some) (hR3 : isR.map (fun i => ws2[i]?) = wr.map some) (hlen : ws2.length = n2) (hcov : (List.range n2).all (fun k => isC.contains k || isR.contains k) = true) (kk : ∀ (H1 : Heap) (locs1 : List Loc), va_P g.1 vwCl ws2 H1 → va_D A ws2 → va_S A H0 H1 locs1 → W p l e R s m args below meth c H1 locs1 cells slots Q (F0 m (pc + 3) ls (rest))) : W p l e R s m args below meth c H locs cells slots Q (F0 m pc ls (As.reverse ++ rest)) := by
  have hPc := part_P hP hIs
  have hDc := hD.sub isC hnd hIs
  have hFc := va_free hD hS hA isC hIs
  have hM := hM0 H.size
  refine va_callv (va_runSN hC.1 hM ⟨va_cnB n hC.1.2.2.2.2 hg hw hrc hrs (hC.2.2 _ hnest) (hC.1.2.2.2.2 _ hini) hd hR, hC.1.2.2.2.2 _ hstat, trivial⟩ ⟨Pre.blind, fun U hU hW => ⟨rfl, by rw [hU], by rw [hU]; exact hPc, KN.warm hW hC.2, ⟨hDc.1, fun _ _ _ => trivial⟩⟩⟩ rfl hn hsz rfl (lv_room hrest) hdg hf) hS (fun q _ h => hFc q h) hFc (fun u t H1 locs1 ht hvm hw9 hB hz1 hk1 hS1 => ?_)
  obtain ⟨hP1, hD1⟩ := hB
  rw [ht] at hP1
  have hat := put_at hIs had1 had2 hI2 hR1 hR3 hlen hcov
  exact kk H1 locs1 (put_P hP hD hIs (fun k q h => (hat k q h).1) hP1 hk1) (put_D hD (fun k q h => (hat k q h).2)) hS1
end BASE4
