/-! THE CLAIM OUT OF ONE WALK OF THE LAW'S BODY. Your part is whole_start (and what it stands on); all else here is the same for every law, but numbers. -/
def R_law : String := "StakeHouseLaw"
def lw_P (b : Addr) (xs : List Int32) (args : Array Value) (s : State) : Prop := args = #[.ref b] ∧ s.IntsAt b xs ∧ xs.length ≤ 3072 ∧ (Jvm.Cond.and given_1 narrow_1).before args s = true
def lw_Q (_ : Array Value) (s : State) (o : Outcome) (t : State) : Prop := o = .returned (some (.int 1)) ∧ Framed s o t [] 600000 7302250
def lw_Z (below : List Frame) (a : Array Value) (s : State) : State → Prop := fun t => ∃ o, t.status = .running ∧ Ended t below o ∧ lw_Q a s o t
/-- the law's own end, with 1 on the stack, nothing written that was there before, its room as the claim has it -/
theorem lw_ret {p : Program} {l : Launch} {e : Env} {s : State} {m : MethodId} {below : List Frame} {meth : Method} {c : Code} {b : Nat} (hx : p.tables.exec = Jvm.exec) (hb : c.code = code) (hr : meth.sig.returnType = ret) (hlocks : meth.locks = false) {pc : Nat} {H : Heap} {ls : Array Slot} (hdg : decode code pc = .ok (.ireturn, 1)) : W p l e room_1 s m #[Value.ref b] below meth c H [] 600000 7302250 (lw_Z below #[Value.ref b] s) (F0 m pc ls [.int 1]) := by
  intro T hT X
  obtain ⟨fs, hret, hrun, hended, hW, hframe⟩ := X.leave (v := some (.int 1)) (hlocks := hlocks) (fun h => by rw [hr] at h; cases h)
  have hmeth' : T.vm.method? m = some meth := X.method'
  refine ⟨T.setFrames fs, ?_, .returned (some (.int 1)), hrun, hended, rfl, ⟨_, rfl⟩, hW, hframe⟩
  jvm_step X.here [X.here.top, hx, hb, hdg, hmeth', hr, ret, narrow_b1]
  (try refine ⟨rfl, ?_⟩); (try refine ⟨rfl, ?_⟩)
  first | (intro acts; rw [hret _ acts rfl rfl rfl]) | rw [hret _ _ rfl rfl rfl]
  exact Steps.refl _
/-- what holds at the law's entry: the machine, the code, the tables' words (any of lw_tbl by 'hts w (by decide +kernel)'), the script of L ints xs at the cell b, what the Statement gives of the start (any of its parts by flat_of_before) -/
def lw_At (p : Program) (s : State) (m : MethodId) (meth : Method) (c : Code) (b L : Nat) (xs : Nat → Int32) : Prop :=
  p.tables.exec = Jvm.exec ∧ c.code = code ∧ meth.sig.returnType = ret ∧ c.maxLocals = 4 ∧ s.vm.findClass R_law = some m.cls ∧ (∀ w ∈ lw_tbl, w.before #[Value.ref b] s = true) ∧ va_X b L xs s s.heap ∧ b < s.heap.size ∧ meth.locks = false ∧ (Jvm.Cond.and given_1 narrow_1).before #[Value.ref b] s = true
/-- what holds at the loop's head, before the call i: the class and the reference stand for the same -/
def LI (E : eT) (s : State) (b i : Nat) (H : Heap) (locs : List Loc) (ls : Array Slot) : Prop := ∃ (ad am : Nat → Nat) (g hz n : Nat) (mk : Int64) (td : Nat → Nat) (gr : Nat → Option Nat) (cf ce ck : Nat → Nat) (rv : Nat → Nat → Int64) (st : Nat → Int32) (wo : Nat → Nat → Int64) (kd ch tm tx lm : Nat → Int32) (bs nw th : Nat → Int64) (pd : Int64) (ga gb : Nat → Nat) (gd : Nat → gT) (gm : va_W), lawF E g hz n td gr cf ce ck rv kd ch tm tx lm ga gb gd gm ∧ va_P E.1 vwCl (wX E ad g hz n mk (fun j => nI (td j)) gr cf ce ck rv st wo ++ (wM E am g hz n kd ch tm tx lm (fun j => nI (td j)) mk bs nw th pd ++ gm)) H ∧ va_D (fun q : Nat => s.heap.size ≤ q) (wX E ad g hz n mk (fun j => nI (td j)) gr cf ce ck rv st wo ++ (wM E am g hz n kd ch tm tx lm (fun j => nI (td j)) mk bs nw th pd ++ gm)) ∧ va_S (fun q : Nat => s.heap.size ≤ q) s.heap H locs ∧ lv_has ls 4 [(0, .ref b), (1, .ref (ad 0)), (2, .ref (am 0)), (3, .int (nI (6 * i)))]
section LP
variable {p : Program} {l : Launch} {e : Env} {R : Room} {s : State} {m : MethodId} {args : Array Value} {below : List Frame} {meth : Method} {c : Code} {H : Heap} {locs : List Loc} {Q : State → Prop} {pc : Nat} {ls : Array Slot}
/-- a counted loop whose turns may make cells -/
theorem wLoopC (N c0 s0 dc ds : Nat) (I : Nat → Heap → List Loc → Array Slot → Prop)
    (hs : ∀ (i : Nat) (H : Heap) (locs : List Loc) (ls : Array Slot), i < N → I i H locs ls → (∀ (H : Heap) (locs : List Loc) (ls : Array Slot), I (i + 1) H locs ls → W p l e R s m args below meth c H locs (c0 + dc * (i + 1)) (s0 + ds * (i + 1)) Q (F0 m pc ls [])) → W p l e R s m args below meth c H locs (c0 + dc * i) (s0 + ds * i) Q (F0 m pc ls []))
    (hx : ∀ (H : Heap) (locs : List Loc) (ls : Array Slot), I N H locs ls → W p l e R s m args below meth c H locs (c0 + dc * N) (s0 + ds * N) Q (F0 m pc ls [])) (hI : I 0 H locs ls) : W p l e R s m args below meth c H locs c0 s0 Q (F0 m pc ls []) := by
  have key : ∀ (n i : Nat) (H : Heap) (locs : List Loc) (ls : Array Slot), i + n = N → I i H locs ls → W p l e R s m args below meth c H locs (c0 + dc * i) (s0 + ds * i) Q (F0 m pc ls []) := by
    intro n
    induction n with
    | zero => intro i H locs ls hi h; have : i = N := by omega
              subst this; exact hx H locs ls h
    | succ n ih => intro i H locs ls hi h; exact hs i H locs ls (by omega) h (fun H locs ls h => ih (i + 1) H locs ls (by omega) h)
  exact key N 0 H locs ls (by omega) hI
end LP
