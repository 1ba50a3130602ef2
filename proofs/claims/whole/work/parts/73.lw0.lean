/-! the law's world: the class's object, the reference, the images; what holds between calls -/
def R_law : String := "BrickOvenLaw"
abbrev Img : Type := Option ((Nat → Nat) × (Nat → Nat) × (Nat → Nat) × (Nat → Nat) × St × St × St)
def wI (g : GG) (I : Img) : va_W := match I with
  | none => []
  | some (a, b, c, d, O, S, T) => wX0 g a b c d ++ (wX3 g b O ++ (wX6 g c S ++ (wX5 g d T)))
def pv_G (k : Nat) (I : Img) (f : Nat → Option Nat) (M : St) : Prop := match I with
  | none => f k = none ∧ M.2 43 k = 0
  | some (a, _, _, _, O, S, T) => f k = some (a 100) ∧ ¬ M.2 43 k = 0 ∧ pv_Im (120 * k) (M.2 42) O S T ∧ pv_IO O ∧ pv_IS S ∧ pv_IT T
theorem pv_Im.cong {b : Nat} {F F' : Nat → Int32} {O S T : St} (h : pv_Im b F O S T) (e : ∀ x, x < 100 → F' (b + x) = F (b + x)) : pv_Im b F' O S T := ⟨fun x hx => by rw [e x (by omega)]; exact h.1 x hx, fun x h8 hx => by rw [e x hx]; exact h.2 x h8 hx⟩
theorem pv_G.to {k : Nat} {I : Img} {f f' : Nat → Option Nat} {M M' : St} (h : pv_G k I f M) (e0 : f' k = f k) (e1 : M'.2 43 k = M.2 43 k) (e2 : ∀ x, x < 100 → M'.2 42 (120 * k + x) = M.2 42 (120 * k + x)) : pv_G k I f' M' := by
  cases I with
  | none => exact ⟨e0.trans h.1, e1.trans h.2⟩
  | some q =>
    obtain ⟨a, b, c, d, O, S, T⟩ := q
    obtain ⟨h1, h2, h3, h4⟩ := h
    exact ⟨e0.trans h1, by rw [e1]; exact h2, h3.cong e2, h4⟩
theorem pv_G.K {k : Nat} {I : Img} {f : Nat → Option Nat} {M M' : St} (h : pv_G k I f M) (hK : pv_K M M') : pv_G k I f M' := h.to rfl (by rw [hK.2]) (fun x _ => by rw [hK.1])
def LI (O S T P M : St) (f : Nat → Option Nat) (I0 I1 : Img) : Prop := (pv_I O S T P ∧ pv_R O S T P M) ∧ pv_G 0 I0 f M ∧ pv_G 1 I1 f M
theorem LI.go {O S T P M O' S' T' P' M' : St} {f : Nat → Option Nat} {I0 I1 : Img} (h : LI O S T P M f I0 I1) (hI : pv_I O' S' T' P') (hR : pv_R O' S' T' P' M') (hK : pv_K M M') : LI O' S' T' P' M' f I0 I1 := ⟨⟨hI, hR⟩, h.2.1.K hK, h.2.2.K hK⟩
abbrev LW (g : GG) (q1 q2 q3 q4 q5 q6 q7 q8 q9 qm : Nat → Nat) (O S T P D E B M : St) (f : Nat → Option Nat) (I0 I1 : Img) : va_W := (wX7 g q1 q2 q6 q7 q9 ++ (wX0 g q2 q3 q4 q5 ++ (wX3 g q3 O ++ (wX6 g q4 S ++ (wX5 g q5 T ++ (wX4 g q6 P ++ (wX2 g q7 q8 D ++ (wX3 g q8 E ++ (wX1 g q9 B))))))))) ++ (wX8 g qm M ++ (wAR g q1 f ++ (wI g I0 ++ wI g I1)))
/-- behind a call: all goes on -/
def LK (p : Program) (l : Launch) (e : Env) (s : State) (m : MethodId) (below : List Frame) (meth : Method) (c : Code) (Q : State → Prop) (g : GG) (b i C1 S1 : Nat) (q1 q2 q3 q4 q5 q6 q7 q8 q9 qm : Nat → Nat) : Prop := ∀ (O S T P D E B M : St) (f : Nat → Option Nat) (I0 I1 : Img) (H : Heap) (locs : List Loc) (ls : Array Slot), LI O S T P M f I0 I1 → va_P g.1 vwCl (LW g q1 q2 q3 q4 q5 q6 q7 q8 q9 qm O S T P D E B M f I0 I1) H → va_D (fun q : Nat => s.heap.size ≤ q) (LW g q1 q2 q3 q4 q5 q6 q7 q8 q9 qm O S T P D E B M f I0 I1) → va_S (fun q : Nat => s.heap.size ≤ q) s.heap H locs → lv_has ls 4 [(0, .ref b), (1, .ref (q1 100)), (2, .ref (qm 100)), (3, .int (nI i))] → W p l e room_1 s m #[Value.ref b] below meth c H locs C1 S1 Q (F0 m 1035 ls [])
theorem pr_cnt {α : Type} {l₁ l₂ : List α} (h : ∀ [BEq α] [LawfulBEq α] (x : α), l₁.count x = l₂.count x) : l₁.Perm l₂ := by
  haveI : DecidableEq α := fun a b => Classical.propDecidable (a = b)
  exact List.perm_iff_count.mpr (fun x => h x)
section PMS
variable {α : Type} (a x0 x3 x6 x5 r m ar j0 j1 y0 y3 y6 y5 ar' x0' x3' x6' x5' : List α)
theorem pm_x : ((a ++ (x0 ++ (x3 ++ (x6 ++ (x5 ++ r))))) ++ (m ++ (ar ++ (j0 ++ j1)))).Perm (a ++ ((x0 ++ (x3 ++ (x6 ++ (x5 ++ r)))) ++ (m ++ (ar ++ (j0 ++ j1))))) := pr_cnt (fun x => by simp only [List.count_append]; omega)
theorem pm_n : ((a ++ (x0 ++ (x3 ++ (x6 ++ (x5 ++ r))))) ++ (m ++ (ar ++ (j0 ++ j1)))).Perm ((a ++ ar) ++ ((x0 ++ (x3 ++ (x6 ++ (x5 ++ r)))) ++ (m ++ (j0 ++ j1)))) := pr_cnt (fun x => by simp only [List.count_append]; omega)
/-- now, then the image 0 -/
theorem pm_r0 : ((a ++ (x0 ++ (x3 ++ (x6 ++ (x5 ++ r))))) ++ (m ++ (ar ++ ((y0 ++ (y3 ++ (y6 ++ y5))) ++ j1)))).Perm ((a ++ (ar ++ (x0 ++ (x3 ++ (x6 ++ (x5 ++ (y0 ++ (y3 ++ (y6 ++ y5))))))))) ++ (r ++ (m ++ j1))) := pr_cnt (fun x => by simp only [List.count_append]; omega)
theorem pm_r1 : ((a ++ (x0 ++ (x3 ++ (x6 ++ (x5 ++ r))))) ++ (m ++ (ar ++ (j0 ++ (y0 ++ (y3 ++ (y6 ++ y5))))))).Perm ((a ++ (ar ++ (x0 ++ (x3 ++ (x6 ++ (x5 ++ (y0 ++ (y3 ++ (y6 ++ y5))))))))) ++ (r ++ (m ++ j0))) := pr_cnt (fun x => by simp only [List.count_append]; omega)
/-- the image 0, then now -/
theorem pm_i0 : ((a ++ (x0 ++ (x3 ++ (x6 ++ (x5 ++ r))))) ++ (m ++ (ar ++ ((y0 ++ (y3 ++ (y6 ++ y5))) ++ j1)))).Perm ((a ++ (ar ++ (y0 ++ (y3 ++ (y6 ++ (y5 ++ (x0 ++ (x3 ++ (x6 ++ x5))))))))) ++ (r ++ (m ++ j1))) := pr_cnt (fun x => by simp only [List.count_append]; omega)
theorem pm_i1 : ((a ++ (x0 ++ (x3 ++ (x6 ++ (x5 ++ r))))) ++ (m ++ (ar ++ (j0 ++ (y0 ++ (y3 ++ (y6 ++ y5))))))).Perm ((a ++ (ar ++ (y0 ++ (y3 ++ (y6 ++ (y5 ++ (x0 ++ (x3 ++ (x6 ++ x5))))))))) ++ (r ++ (m ++ j0))) := pr_cnt (fun x => by simp only [List.count_append]; omega)
/-- now alone -/
theorem pm_w : ((a ++ (x0 ++ (x3 ++ (x6 ++ (x5 ++ r))))) ++ (m ++ (ar ++ (j0 ++ j1)))).Perm ((a ++ (ar ++ (x0 ++ (x3 ++ (x6 ++ x5))))) ++ (r ++ (m ++ (j0 ++ j1)))) := pr_cnt (fun x => by simp only [List.count_append]; omega)
/-- a new image, and the rest as it was with an empty place -/
theorem pm_v0 : ((a ++ (ar ++ (y0 ++ (y3 ++ (y6 ++ (y5 ++ (x0 ++ (x3 ++ (x6 ++ x5))))))))) ++ (r ++ (m ++ ([] ++ j1)))).Perm ((a ++ (x0 ++ (x3 ++ (x6 ++ (x5 ++ r))))) ++ (m ++ (ar ++ ((y0 ++ (y3 ++ (y6 ++ y5))) ++ j1)))) := pr_cnt (fun x => by simp only [List.count_append, List.count_nil]; omega)
theorem pm_v1 : ((a ++ (ar ++ (y0 ++ (y3 ++ (y6 ++ (y5 ++ (x0 ++ (x3 ++ (x6 ++ x5))))))))) ++ (r ++ (m ++ (j0 ++ [])))).Perm ((a ++ (x0 ++ (x3 ++ (x6 ++ (x5 ++ r))))) ++ (m ++ (ar ++ (j0 ++ (y0 ++ (y3 ++ (y6 ++ y5))))))) := pr_cnt (fun x => by simp only [List.count_append, List.count_nil]; omega)
end PMS
