/-! BASE: the environment of all contracts, pure and writing contracts, loops, locals at fixed places, numbers -/
abbrev eT : Type := va_G × (Nat → ClassId)
abbrev eTys (E : eT) : List (ClassId × FieldType) := [(E.2 0, .int), (E.2 1, .long), (E.2 2, .object RX1), (E.2 3, .array .long)]
def eNest : List Cond := [.fieldLinkNest RX4 157 RX0 "what" "I" RX4, .fieldLinkNest RX4 154 RX0 "rows" "[[J" RX4, .fieldLinkNest RX4 170 RX0 "first" "I" RX4, .fieldLinkNest RX4 173 RX0 "end" "I" RX4, .fieldLinkNest RX4 151 RX0 "known" "I" RX4, .fieldLinkNest RX4 146 RX1 "chance" "I" RX4, .fieldLinkNest RX4 134 RX1 "limit" "I" RX4, .fieldLinkNest RX4 143 RX1 "gains" "[I" RX4, .castable RX2 RX1, .castable RX3 RX1, .arrayOver (.object RX1), .arrayOver (.array .long)]
def eEv (E : eT) (U : State) : Prop := va_K E.1 vwCl (eTys E) U ∧ ∀ w ∈ eNest, va_Nw w U
theorem eNest_of {w : Cond} (h : w ∈ eNest) : (∃ (a : String) (i : Nat) (b n d h : String), w = .fieldLinkNest a i b n d h) ∨ (∃ C T : String, w = .castable C T) ∨ ∃ ty : FieldType, w = .arrayOver ty := by
  simp only [eNest, List.mem_cons, List.not_mem_nil, or_false] at h
  rcases h with rfl | rfl | rfl | rfl | rfl | rfl | rfl | rfl | rfl | rfl | rfl | rfl <;> first | exact Or.inl ⟨_, _, _, _, _, _, rfl⟩ | exact Or.inr (Or.inl ⟨_, _, rfl⟩) | exact Or.inr (Or.inr ⟨_, rfl⟩)
theorem va_Nw.warmO {ty : FieldType} {s U : State} (hW : s.WarmedH U.vm) (hZ : va_Nw (.arrayOver ty) s) : va_Nw (.arrayOver ty) U := by
  have h : (Cond.arrayOver ty).before #[] (s.setVm U.vm) = true := by rw [Cond.arrayOver_setVmC hW.alike]; exact hZ
  exact h
theorem eEv.warm {E : eT} {s U : State} (hW : s.WarmedH U.vm) (h : eEv E s) : eEv E U := ⟨va_K.moved hW.alike h.1, fun w hw => by
  rcases eNest_of hw with ⟨a, i, b, n, d, g, rfl⟩ | ⟨C, T, rfl⟩ | ⟨ty, rfl⟩
  · exact va_Nw.warmF hW (h.2 _ hw)
  · exact va_Nw.warmC hW (h.2 _ hw)
  · exact va_Nw.warmO hW (h.2 _ hw)⟩
theorem eEv.call {E : eT} {U : State} {g : JFrame} {mk : MethodId} {a : Array Value} (h : eEv E U) : eEv E (U.calling g mk a) := ⟨va_K.moved (u := U) (U := U.calling g mk a) (Vm.Alike.refl U.vm) h.1, fun w hw => by
  rcases eNest_of hw with ⟨a', i, b, n, d, g', rfl⟩ | ⟨C, T, rfl⟩ | ⟨ty, rfl⟩
  · exact va_Nw.same (u := U) (U := U.calling g mk a) rfl rfl (h.2 _ hw)
  · exact va_Nw.same (u := U) (U := U.calling g mk a) rfl rfl (h.2 _ hw)
  · exact h.2 _ hw⟩
def ePP (E : eT) (ws : va_W) (U : State) : Prop := va_P E.1 vwCl ws U.heap ∧ eEv E U
def ePW (E : eT) (ws : va_W) (sz : Nat) (U : State) : Prop := U.heap.size = sz ∧ va_P E.1 vwCl ws U.heap ∧ va_D (fun _ => True) ws ∧ eEv E U
def eAt (E : eT) (A : Nat → Prop) (ws : va_W) (t : State) : Prop := va_P E.1 vwCl ws t.heap ∧ va_D A ws
theorem ePu_blind {E : eT} {ws : va_W} {av : List Value} : FrameBlind (va_Pc av (ePP E ws)) := fun _ _ _ _ h => ⟨h.1, h.2.1, h.2.2.call⟩
theorem ePw_blind {E : eT} {ws : va_W} {av : List Value} {sz : Nat} : FrameBlind (va_Pc av (ePW E ws sz)) := fun _ _ _ _ h => ⟨h.1, h.2.1, h.2.2.1, h.2.2.2.1, h.2.2.2.2.call⟩
theorem ePu_S {E : eT} {ws : va_W} {s : State} {H : Heap} {As : List Value} (hP : va_P E.1 vwCl ws H) (hE : eEv E s) : PreS s H (va_Pc As (ePP E ws)) As := ⟨ePu_blind, fun U hU hW => ⟨rfl, by rw [hU]; exact hP, hE.warm hW⟩⟩
theorem ePu_V {E : eT} {ws : va_W} {s : State} {H : Heap} {As : List Value} {ci k a : Nat} {q : vw_C} {fs : List Value} (hP : va_P E.1 vwCl ws H) (hE : eEv E s) (hc : vwCl[ci]? = some q) (he : ws[k]? = some (a, .inr (ci, fs))) : PreV s H q.1 a (va_Pc (.ref a :: As) (ePP E ws)) As := ⟨ePu_blind, va_recv hE.1 hP hc he, fun U hU hW => ⟨rfl, by rw [hU]; exact hP, hE.warm hW⟩⟩
theorem ePw_S {E : eT} {ws : va_W} {s : State} {H : Heap} {As : List Value} {A : Nat → Prop} (hP : va_P E.1 vwCl ws H) (hD : va_D A ws) (hE : eEv E s) : PreS s H (va_Pc As (ePW E ws H.size)) As := ⟨ePw_blind, fun U hU hW => ⟨rfl, by rw [hU], by rw [hU]; exact hP, hD.weaken (fun _ _ _ _ => trivial), hE.warm hW⟩⟩
theorem ePw_V {E : eT} {ws : va_W} {s : State} {H : Heap} {As : List Value} {A : Nat → Prop} {ci k a : Nat} {q : vw_C} {fs : List Value} (hP : va_P E.1 vwCl ws H) (hD : va_D A ws) (hE : eEv E s) (hc : vwCl[ci]? = some q) (he : ws[k]? = some (a, .inr (ci, fs))) : PreV s H q.1 a (va_Pc (.ref a :: As) (ePW E ws H.size)) As := ⟨ePw_blind, va_recv hE.1 hP hc he, fun U hU hW => ⟨rfl, by rw [hU], by rw [hU]; exact hP, hD.weaken (fun _ _ _ _ => trivial), hE.warm hW⟩⟩
/-- contracts of methods that only read -/
abbrev mPi (l : Launch) (y : MethodName) (w : List Cond) (fr lo : Nat) (E : eT) (ws : va_W) (av : List Value) (post : Int32 → Prop) : Prop := Met l y w ({ frames := fr, cells := 0, slots := 0, locals := lo }) (va_Pc av (ePP E ws)) (vp_Si post) 0 0 (fun _ => False)
abbrev mPl (l : Launch) (y : MethodName) (w : List Cond) (fr lo : Nat) (E : eT) (ws : va_W) (av : List Value) (post : Int64 → Prop) : Prop := Met l y w ({ frames := fr, cells := 0, slots := 0, locals := lo }) (va_Pc av (ePP E ws)) (vp_Sl post) 0 0 (fun _ => False)
abbrev mPq (l : Launch) (y : MethodName) (w : List Cond) (fr lo : Nat) (E : eT) (ws : va_W) (av : List Value) (post : Option Nat → Prop) : Prop := Met l y w ({ frames := fr, cells := 0, slots := 0, locals := lo }) (va_Pc av (ePP E ws)) (va_Sq post) 0 0 (fun _ => False)
/-- contracts of methods that write: the cells behind it -/
abbrev mWi (l : Launch) (y : MethodName) (w : List Cond) (fr lo mc ms : Nat) (E : eT) (ws : va_W) (av : List Value) (post : Int32 → va_W → Prop) : Prop := ∀ sz : Nat, Met l y w ({ frames := fr, cells := mc, slots := ms, locals := lo }) (va_Pc av (ePW E ws sz)) (va_Qi post (eAt E (va_A ws sz)) (va_A ws sz)) mc ms (va_A ws sz)
abbrev mWl (l : Launch) (y : MethodName) (w : List Cond) (fr lo mc ms : Nat) (E : eT) (ws : va_W) (av : List Value) (post : Int64 → va_W → Prop) : Prop := ∀ sz : Nat, Met l y w ({ frames := fr, cells := mc, slots := ms, locals := lo }) (va_Pc av (ePW E ws sz)) (va_Ql post (eAt E (va_A ws sz)) (va_A ws sz)) mc ms (va_A ws sz)
abbrev mWv (l : Launch) (y : MethodName) (w : List Cond) (fr lo mc ms : Nat) (E : eT) (ws : va_W) (av : List Value) (post : va_W → Prop) : Prop := ∀ sz : Nat, Met l y w ({ frames := fr, cells := mc, slots := ms, locals := lo }) (va_Pc av (ePW E ws sz)) (va_Qv post (eAt E (va_A ws sz)) (va_A ws sz)) mc ms (va_A ws sz)
abbrev mWr (l : Launch) (y : MethodName) (w : List Cond) (fr lo mc ms : Nat) (E : eT) (ws : va_W) (av : List Value) (post : Nat × va_W → Prop) : Prop := ∀ sz : Nat, Met l y w ({ frames := fr, cells := mc, slots := ms, locals := lo }) (va_Pc av (ePW E ws sz)) (va_Qr post (fun u a t => u.1 = a ∧ eAt E (va_A ws sz) u.2 t) (va_A ws sz)) mc ms (va_A ws sz)
theorem eFree {A0 : Nat → Prop} {ws : va_W} {H0 H : Heap} {locs : List Loc} (hD : va_D A0 ws) (hS : va_S A0 H0 H locs) (hA : ∀ q, H0.size ≤ q → A0 q) : ∀ q, va_A ws H.size q → A0 q := by
  intro q h
  rcases h with ⟨k, e, h⟩ | h
  · exact hD.2 k (q, e) h
  · exact hA q (Nat.le_trans hS.1 h)
def lset (lv : List (Nat × Value)) (k : Nat) (q : Nat × Value) : List (Nat × Value) := lv.take k ++ q :: lv.drop (k + 1)
def lok1 (i : Nat) (q : Nat × Value) : Bool := !(q.1 == i) && !(q.1 + 1 == i && q.2.category == 2)
def lok2 (i : Nat) (q : Nat × Value) : Bool := !(q.1 == i) && (!(q.1 == i + 1) && !(q.1 + 1 == i && q.2.category == 2))
theorem lset_in {lv : List (Nat × Value)} {k : Nat} {x : Nat × Value} {f : Nat × Value → Bool} (h : (lv.take k ++ lv.drop (k + 1)).all f = true) {q : Nat × Value} (hq : q ∈ lset lv k x) : q ∈ x :: lv.filter f := by
  have ha := List.all_eq_true.mp h
  rcases List.mem_append.mp hq with h1 | h1
  · exact List.mem_cons_of_mem _ (List.mem_filter.mpr ⟨List.mem_of_mem_take h1, ha q (List.mem_append_left _ h1)⟩)
  · rcases List.mem_cons.mp h1 with rfl | h2
    · exact List.mem_cons_self
    · exact List.mem_cons_of_mem _ (List.mem_filter.mpr ⟨List.mem_of_mem_drop h2, ha q (List.mem_append_right _ h2)⟩)
theorem lset_has {ls : Array Slot} {nL k : Nat} {lv : List (Nat × Value)} {x : Nat × Value} {f : Nat × Value → Bool} (h : (lv.take k ++ lv.drop (k + 1)).all f = true) (hl : lv_has ls nL (x :: lv.filter f)) : lv_has ls nL (lset lv k x) := ⟨hl.1, hl.2.1, fun q hq => hl.2.2 q (lset_in h hq)⟩
section EB
variable {p : Program} {l : Launch} {e : Env} {R : Room} {s : State} {m : MethodId} {args : Array Value} {below : List Frame} {meth : Method} {c : Code} {H : Heap} {locs : List Loc} {cells slots : Nat} {Q : State → Prop}
variable {cc : ByteArray} {pc : Nat} {ls : Array Slot} {rest : List Value}
theorem st_i1 (hexec : p.tables.exec = Jvm.exec) (hb : c.code = cc) {k : Fin 4} {i nL : Nat} {x : Int32} {lv : List (Nat × Value)} (q0 : Nat) (hdg : decode cc pc = .ok (.istore_n k, 1)) (hi : (k : Nat) = i) (h : lv_has ls nL lv) (hn : i < nL) (hk : (lv.take q0 ++ lv.drop (q0 + 1)).all (lok1 i) = true)
    (kk : ∀ ls, lv_has ls nL (lset lv q0 (i, .int x)) → W p l e R s m args below meth c H locs cells slots Q (F0 m (pc + 1) ls rest)) : W p l e R s m args below meth c H locs cells slots Q (F0 m pc ls (.int x :: rest)) := lv_istore_n hexec hb hdg hi h hn rfl (fun ls hl => kk ls (lset_has hk hl))
theorem st_i2 (hexec : p.tables.exec = Jvm.exec) (hb : c.code = cc) {i nL : Nat} {x : Int32} {lv : List (Nat × Value)} (q0 : Nat) (hdg : decode cc pc = .ok (.istore i, 2)) (h : lv_has ls nL lv) (hn : i < nL) (hk : (lv.take q0 ++ lv.drop (q0 + 1)).all (lok1 i) = true)
    (kk : ∀ ls, lv_has ls nL (lset lv q0 (i, .int x)) → W p l e R s m args below meth c H locs cells slots Q (F0 m (pc + 2) ls rest)) : W p l e R s m args below meth c H locs cells slots Q (F0 m pc ls (.int x :: rest)) := lv_istore hexec hb hdg h hn rfl (fun ls hl => kk ls (lset_has hk hl))
theorem st_l1 (hexec : p.tables.exec = Jvm.exec) (hb : c.code = cc) {k : Fin 4} {i nL : Nat} {x : Int64} {lv : List (Nat × Value)} (q0 : Nat) (hdg : decode cc pc = .ok (.lstore_n k, 1)) (hi : (k : Nat) = i) (h : lv_has ls nL lv) (hn : i + 1 < nL) (hk : (lv.take q0 ++ lv.drop (q0 + 1)).all (lok2 i) = true)
    (kk : ∀ ls, lv_has ls nL (lset lv q0 (i, .long x)) → W p l e R s m args below meth c H locs cells slots Q (F0 m (pc + 1) ls rest)) : W p l e R s m args below meth c H locs cells slots Q (F0 m pc ls (.long x :: rest)) := lv_lstore_n hexec hb hdg hi h hn rfl (fun ls hl => kk ls (lset_has hk hl))
theorem st_l2 (hexec : p.tables.exec = Jvm.exec) (hb : c.code = cc) {i nL : Nat} {x : Int64} {lv : List (Nat × Value)} (q0 : Nat) (hdg : decode cc pc = .ok (.lstore i, 2)) (h : lv_has ls nL lv) (hn : i + 1 < nL) (hk : (lv.take q0 ++ lv.drop (q0 + 1)).all (lok2 i) = true)
    (kk : ∀ ls, lv_has ls nL (lset lv q0 (i, .long x)) → W p l e R s m args below meth c H locs cells slots Q (F0 m (pc + 2) ls rest)) : W p l e R s m args below meth c H locs cells slots Q (F0 m pc ls (.long x :: rest)) := lv_lstore hexec hb hdg h hn rfl (fun ls hl => kk ls (lset_has hk hl))
theorem st_a1 (hexec : p.tables.exec = Jvm.exec) (hb : c.code = cc) {k : Fin 4} {i nL : Nat} {x : Nat} {lv : List (Nat × Value)} (q0 : Nat) (hdg : decode cc pc = .ok (.astore_n k, 1)) (hi : (k : Nat) = i) (h : lv_has ls nL lv) (hn : i < nL) (hk : (lv.take q0 ++ lv.drop (q0 + 1)).all (lok1 i) = true)
    (kk : ∀ ls, lv_has ls nL (lset lv q0 (i, .ref x)) → W p l e R s m args below meth c H locs cells slots Q (F0 m (pc + 1) ls rest)) : W p l e R s m args below meth c H locs cells slots Q (F0 m pc ls (.ref x :: rest)) := lv_astore_n hexec hb hdg hi h hn rfl (fun ls hl => kk ls (lset_has hk hl))
theorem st_a2 (hexec : p.tables.exec = Jvm.exec) (hb : c.code = cc) {i nL : Nat} {x : Nat} {lv : List (Nat × Value)} (q0 : Nat) (hdg : decode cc pc = .ok (.astore i, 2)) (h : lv_has ls nL lv) (hn : i < nL) (hk : (lv.take q0 ++ lv.drop (q0 + 1)).all (lok1 i) = true)
    (kk : ∀ ls, lv_has ls nL (lset lv q0 (i, .ref x)) → W p l e R s m args below meth c H locs cells slots Q (F0 m (pc + 2) ls rest)) : W p l e R s m args below meth c H locs cells slots Q (F0 m pc ls (.ref x :: rest)) := lv_astore hexec hb hdg h hn rfl (fun ls hl => kk ls (lset_has hk hl))
theorem st_inc (hexec : p.tables.exec = Jvm.exec) (hb : c.code = cc) {i nL : Nat} {n : Int} {x v : Int32} {lv : List (Nat × Value)} (q0 : Nat) (hdg : decode cc pc = .ok (.iinc i n, 3)) (h : lv_has ls nL lv) (h0 : lv[q0]? = some (i, .int x)) (hv : x + Int32.ofInt n = v) (hn : i < nL) (hk : (lv.take q0 ++ lv.drop (q0 + 1)).all (lok1 i) = true)
    (kk : ∀ ls, lv_has ls nL (lset lv q0 (i, .int v)) → W p l e R s m args below meth c H locs cells slots Q (F0 m (pc + 3) ls rest)) : W p l e R s m args below meth c H locs cells slots Q (F0 m pc ls (rest)) := lv_iinc hexec hb hdg h h0 hv hn rfl (fun ls hl => kk ls (lset_has hk hl))
theorem tp_i {x y : Int32} (h : x = y) (k : W p l e R s m args below meth c H locs cells slots Q (F0 m pc ls (.int y :: rest))) : W p l e R s m args below meth c H locs cells slots Q (F0 m pc ls (.int x :: rest)) := by rw [h]; exact k
theorem tp_l {x y : Int64} (h : x = y) (k : W p l e R s m args below meth c H locs cells slots Q (F0 m pc ls (.long y :: rest))) : W p l e R s m args below meth c H locs cells slots Q (F0 m pc ls (.long x :: rest)) := by rw [h]; exact k
theorem tp_r {x y : Value} (h : x = y) (k : W p l e R s m args below meth c H locs cells slots Q (F0 m pc ls (y :: rest))) : W p l e R s m args below meth c H locs cells slots Q (F0 m pc ls (x :: rest)) := by rw [h]; exact k
/-- a counted loop that leaves the heap alone -/
theorem wLoop {st : List Value} (N i0 : Nat) (I : Nat → Array Slot → Prop) (h0 : i0 ≤ N)
    (hs : ∀ (i : Nat) (ls : Array Slot), i < N → I i ls → (∀ ls, I (i + 1) ls → W p l e R s m args below meth c H locs cells slots Q (F0 m pc ls st)) → W p l e R s m args below meth c H locs cells slots Q (F0 m pc ls st))
    (hx : ∀ ls : Array Slot, I N ls → W p l e R s m args below meth c H locs cells slots Q (F0 m pc ls st)) (hI : I i0 ls) : W p l e R s m args below meth c H locs cells slots Q (F0 m pc ls st) := by
  have key : ∀ (n i : Nat) (ls : Array Slot), i + n = N → I i ls → W p l e R s m args below meth c H locs cells slots Q (F0 m pc ls st) := by
    intro n
    induction n with
    | zero => intro i ls hi h; have : i = N := by omega
              subst this; exact hx ls h
    | succ n ih => intro i ls hi h; exact hs i ls (by omega) h (fun ls h => ih (i + 1) ls (by omega) h)
  exact key (N - i0) i0 ls (by omega) hI
/-- a counted loop over the heap -/
theorem wLoopH {st : List Value} (N i0 : Nat) (I : Nat → Heap → List Loc → Array Slot → Prop) (h0 : i0 ≤ N)
    (hs : ∀ (i : Nat) (H : Heap) (locs : List Loc) (ls : Array Slot), i < N → I i H locs ls → (∀ (H : Heap) (locs : List Loc) (ls : Array Slot), I (i + 1) H locs ls → W p l e R s m args below meth c H locs cells slots Q (F0 m pc ls st)) → W p l e R s m args below meth c H locs cells slots Q (F0 m pc ls st))
    (hx : ∀ (H : Heap) (locs : List Loc) (ls : Array Slot), I N H locs ls → W p l e R s m args below meth c H locs cells slots Q (F0 m pc ls st)) (hI : I i0 H locs ls) : W p l e R s m args below meth c H locs cells slots Q (F0 m pc ls st) := by
  have key : ∀ (n i : Nat) (H : Heap) (locs : List Loc) (ls : Array Slot), i + n = N → I i H locs ls → W p l e R s m args below meth c H locs cells slots Q (F0 m pc ls st) := by
    intro n
    induction n with
    | zero => intro i H locs ls hi h; have : i = N := by omega
              subst this; exact hx H locs ls h
    | succ n ih => intro i H locs ls hi h; exact hs i H locs ls (by omega) h (fun H locs ls h => ih (i + 1) H locs ls (by omega) h)
  exact key (N - i0) i0 H locs ls (by omega) hI
/-- branches that meet again: the rest is walked once -/
theorem wCut {α : Type} {g : JFrame} (fr : α → JFrame) (P : α → Prop) (tail : ∀ a : α, P a → W p l e R s m args below meth c H locs cells slots Q (fr a))
    (main : (∀ a : α, P a → W p l e R s m args below meth c H locs cells slots Q (fr a)) → W p l e R s m args below meth c H locs cells slots Q g) : W p l e R s m args below meth c H locs cells slots Q g := main tail
theorem wCutH {α : Type} {g : JFrame} (fr : α → JFrame) (P : α → Heap → List Loc → Prop) (tail : ∀ (a : α) (H : Heap) (locs : List Loc), P a H locs → W p l e R s m args below meth c H locs cells slots Q (fr a))
    (main : (∀ (a : α) (H : Heap) (locs : List Loc), P a H locs → W p l e R s m args below meth c H locs cells slots Q (fr a)) → W p l e R s m args below meth c H locs cells slots Q g) : W p l e R s m args below meth c H locs cells slots Q g := main tail
/-- compares of small numbers -/
theorem n_lt (hexec : p.tables.exec = Jvm.exec) (hb : c.code = cc) {a b : Nat} (ha : a < 2 ^ 31) (hb2 : b < 2 ^ 31) {off : Int} (tgt : Nat) (hdg : decode cc pc = .ok (.if_icmp .lt off, 3)) (ht : (pc : Int) + off = (tgt : Int))
    (kt : a < b → W p l e R s m args below meth c H locs cells slots Q (F0 m tgt ls rest)) (kf : b ≤ a → W p l e R s m args below meth c H locs cells slots Q (F0 m (pc + 3) ls rest)) : W p l e R s m args below meth c H locs cells slots Q (F0 m pc ls (.int (nI b) :: .int (nI a) :: rest)) :=
  lv_icmp_lt hexec hb hdg ht (fun h => kt ((nI_ltI ha hb2).mp h)) (fun h => kf (Nat.not_lt.mp fun q => h ((nI_ltI ha hb2).mpr q)))
theorem n_le (hexec : p.tables.exec = Jvm.exec) (hb : c.code = cc) {a b : Nat} (ha : a < 2 ^ 31) (hb2 : b < 2 ^ 31) {off : Int} (tgt : Nat) (hdg : decode cc pc = .ok (.if_icmp .le off, 3)) (ht : (pc : Int) + off = (tgt : Int))
    (kt : a ≤ b → W p l e R s m args below meth c H locs cells slots Q (F0 m tgt ls rest)) (kf : b < a → W p l e R s m args below meth c H locs cells slots Q (F0 m (pc + 3) ls rest)) : W p l e R s m args below meth c H locs cells slots Q (F0 m pc ls (.int (nI b) :: .int (nI a) :: rest)) :=
  lv_icmp_le hexec hb hdg ht (fun h => kt ((nI_leI ha hb2).mp h)) (fun h => kf (Nat.not_le.mp fun q => h ((nI_leI ha hb2).mpr q)))
theorem n_gt (hexec : p.tables.exec = Jvm.exec) (hb : c.code = cc) {a b : Nat} (ha : a < 2 ^ 31) (hb2 : b < 2 ^ 31) {off : Int} (tgt : Nat) (hdg : decode cc pc = .ok (.if_icmp .gt off, 3)) (ht : (pc : Int) + off = (tgt : Int))
    (kt : b < a → W p l e R s m args below meth c H locs cells slots Q (F0 m tgt ls rest)) (kf : a ≤ b → W p l e R s m args below meth c H locs cells slots Q (F0 m (pc + 3) ls rest)) : W p l e R s m args below meth c H locs cells slots Q (F0 m pc ls (.int (nI b) :: .int (nI a) :: rest)) :=
  lv_icmp_gt hexec hb hdg ht (fun h => kt ((nI_ltI hb2 ha).mp h)) (fun h => kf (Nat.not_lt.mp fun q => h ((nI_ltI hb2 ha).mpr q)))
theorem n_ge (hexec : p.tables.exec = Jvm.exec) (hb : c.code = cc) {a b : Nat} (ha : a < 2 ^ 31) (hb2 : b < 2 ^ 31) {off : Int} (tgt : Nat) (hdg : decode cc pc = .ok (.if_icmp .ge off, 3)) (ht : (pc : Int) + off = (tgt : Int))
    (kt : b ≤ a → W p l e R s m args below meth c H locs cells slots Q (F0 m tgt ls rest)) (kf : a < b → W p l e R s m args below meth c H locs cells slots Q (F0 m (pc + 3) ls rest)) : W p l e R s m args below meth c H locs cells slots Q (F0 m pc ls (.int (nI b) :: .int (nI a) :: rest)) :=
  lv_icmp_ge hexec hb hdg ht (fun h => kt ((nI_leI hb2 ha).mp h)) (fun h => kf (Nat.not_le.mp fun q => h ((nI_leI hb2 ha).mpr q)))
theorem n_eq (hexec : p.tables.exec = Jvm.exec) (hb : c.code = cc) {a b : Nat} (ha : a < 2 ^ 31) (hb2 : b < 2 ^ 31) {off : Int} (tgt : Nat) (hdg : decode cc pc = .ok (.if_icmp .eq off, 3)) (ht : (pc : Int) + off = (tgt : Int))
    (kt : a = b → W p l e R s m args below meth c H locs cells slots Q (F0 m tgt ls rest)) (kf : ¬ a = b → W p l e R s m args below meth c H locs cells slots Q (F0 m (pc + 3) ls rest)) : W p l e R s m args below meth c H locs cells slots Q (F0 m pc ls (.int (nI b) :: .int (nI a) :: rest)) :=
  lv_icmp_eq hexec hb hdg ht (fun h => kt ((nI_eq ha hb2).mp h)) (fun h => kf (fun q => h ((nI_eq ha hb2).mpr q)))
theorem n_ne (hexec : p.tables.exec = Jvm.exec) (hb : c.code = cc) {a b : Nat} (ha : a < 2 ^ 31) (hb2 : b < 2 ^ 31) {off : Int} (tgt : Nat) (hdg : decode cc pc = .ok (.if_icmp .ne off, 3)) (ht : (pc : Int) + off = (tgt : Int))
    (kt : ¬ a = b → W p l e R s m args below meth c H locs cells slots Q (F0 m tgt ls rest)) (kf : a = b → W p l e R s m args below meth c H locs cells slots Q (F0 m (pc + 3) ls rest)) : W p l e R s m args below meth c H locs cells slots Q (F0 m pc ls (.int (nI b) :: .int (nI a) :: rest)) :=
  lv_icmp_ne hexec hb hdg ht (fun h => kt (fun q => h ((nI_eq ha hb2).mpr q))) (fun h => kf ((nI_eq ha hb2).mp h))
theorem z_eq (hexec : p.tables.exec = Jvm.exec) (hb : c.code = cc) {a : Nat} (ha : a < 2 ^ 31) {off : Int} (tgt : Nat) (hdg : decode cc pc = .ok (.ifCond .eq off, 3)) (ht : (pc : Int) + off = (tgt : Int))
    (kt : a = 0 → W p l e R s m args below meth c H locs cells slots Q (F0 m tgt ls rest)) (kf : 0 < a → W p l e R s m args below meth c H locs cells slots Q (F0 m (pc + 3) ls rest)) : W p l e R s m args below meth c H locs cells slots Q (F0 m pc ls (.int (nI a) :: rest)) :=
  lv_if_eq hexec hb hdg ht (fun h => kt ((nI_eq ha (by decide)).mp h)) (fun h => kf (Nat.pos_of_ne_zero fun q => h ((nI_eq ha (b := 0) (by decide)).mpr q)))
theorem z_ne (hexec : p.tables.exec = Jvm.exec) (hb : c.code = cc) {a : Nat} (ha : a < 2 ^ 31) {off : Int} (tgt : Nat) (hdg : decode cc pc = .ok (.ifCond .ne off, 3)) (ht : (pc : Int) + off = (tgt : Int))
    (kt : 0 < a → W p l e R s m args below meth c H locs cells slots Q (F0 m tgt ls rest)) (kf : a = 0 → W p l e R s m args below meth c H locs cells slots Q (F0 m (pc + 3) ls rest)) : W p l e R s m args below meth c H locs cells slots Q (F0 m pc ls (.int (nI a) :: rest)) :=
  lv_if_ne hexec hb hdg ht (fun h => kt (Nat.pos_of_ne_zero fun q => h ((nI_eq ha (b := 0) (by decide)).mpr q))) (fun h => kf ((nI_eq ha (by decide)).mp h))
/-- an answer that is 1 or 0, and the branch on it -/
theorem q_eq (hexec : p.tables.exec = Jvm.exec) (hb : c.code = cc) {C : Prop} {dC : Decidable C} {off : Int} (tgt : Nat) (hdg : decode cc pc = .ok (.ifCond .eq off, 3)) (ht : (pc : Int) + off = (tgt : Int))
    (kt : ¬ C → W p l e R s m args below meth c H locs cells slots Q (F0 m tgt ls rest)) (kf : C → W p l e R s m args below meth c H locs cells slots Q (F0 m (pc + 3) ls rest)) : W p l e R s m args below meth c H locs cells slots Q (F0 m pc ls (.int (@ite Int32 C dC 1 0) :: rest)) :=
  lv_if_eq hexec hb hdg ht (fun h => kt (fun q => by rw [if_pos q] at h; exact absurd h (by decide))) (fun h => kf (Classical.byContradiction fun q => h (by rw [if_neg q])))
theorem q_ne (hexec : p.tables.exec = Jvm.exec) (hb : c.code = cc) {C : Prop} {dC : Decidable C} {off : Int} (tgt : Nat) (hdg : decode cc pc = .ok (.ifCond .ne off, 3)) (ht : (pc : Int) + off = (tgt : Int))
    (kt : C → W p l e R s m args below meth c H locs cells slots Q (F0 m tgt ls rest)) (kf : ¬ C → W p l e R s m args below meth c H locs cells slots Q (F0 m (pc + 3) ls rest)) : W p l e R s m args below meth c H locs cells slots Q (F0 m pc ls (.int (@ite Int32 C dC 1 0) :: rest)) :=
  lv_if_ne hexec hb hdg ht (fun h => kt (Classical.byContradiction fun q => h (by rw [if_neg q]))) (fun h => kf (fun q => by rw [if_pos q] at h; exact absurd h (by decide)))
/-- a row of a grid of longs -/
theorem va_ald2 {D : va_G} {cl : List vw_C} {a : Nat} {tys : List (ClassId × FieldType)} {ws : va_W} (hexec : p.tables.exec = Jvm.exec) (hb : c.code = cc) (hK : va_K D cl tys s) (hP : va_P D cl ws H) (q0 t0 : Nat) {cA : ClassId} {n : Nat} {f : Nat → Option Nat} (ha : ws[q0]? = some (a, .inl (cA, n, .inr (.inr (.inr (.inr f)))))) (ht : tys[t0]? = some (cA, .array .long)) {i : Int32} (hin : vp_in i n) (hdg : decode cc pc = .ok (.aaload, 1))
    (kk : W p l e R s m args below meth c H locs cells slots Q (F0 m (pc + 1) ls (va_rf (f i.toNatClampNeg) :: rest))) : W p l e R s m args below meth c H locs cells slots Q (F0 m pc ls (.int i :: .ref a :: rest)) := by
  have hlt : i.toNatClampNeg < n := Nat.not_le.mp fun q => hin (Or.inr q)
  exact W.aald (v := va_rf (f i.toNatClampNeg)) (ty := .array .long) hexec hb (hP q0 _ ha) ((hK.2 t0 _ ht).1 n (fun j => va_rf (f j))) rfl (fun q => by cases q) (by show ¬ (i < 0 ∨ (arrV _ _ _).slots.size ≤ _); rw [arrV_size]; exact hin) (by show (arrV _ _ _).slots[_]? = _; rw [arrV_read _ _ hlt]) rfl rfl hdg kk
end EB
section ED
variable {p : Program} {l : Launch} {e : Env} {R : Room} {s : State} {m : MethodId} {args : Array Value} {below : List Frame} {meth : Method} {c : Code} {H : Heap} {locs : List Loc} {cells slots : Nat} {Q : State → Prop}
variable {cc : ByteArray} {pc : Nat} {ls : Array Slot} {rest : List Value} {A0 : Nat → Prop} {H0 : Heap} {mc ms : Nat} {E : eT} {ws : va_W} {g : JFrame} {Qa : State → Outcome → State → Prop} {free : Addr → Prop}
theorem run_weak (h : va_Run p l e R s m args below meth c H locs cells slots mc ms g rest Qa free) : CallRun p l e R s m args below meth c H locs cells slots mc ms g rest Qa free := fun T hT X => by
  obtain ⟨v, st₀, t, T', L, h0, X', hL, e1, e2, hq, st⟩ := h T hT X
  exact ⟨v, st₀, t, T', L, h0, X', hL, e1, hq, st⟩
/-- a new row of ints, of longs -/
theorem va_newI (hexec : p.tables.exec = Jvm.exec) (hb : c.code = cc) (harr : (Cond.arrayClass .int).before args s = true) (hE : eEv E s) (hP : va_P E.1 vwCl ws H) (hD : va_D A0 ws) (hS : va_S A0 H0 H locs) (hA : ∀ q, H0.size ≤ q → A0 q) {N : Nat} (hN : N ≤ 65536) (hcells : cells + 1 ≤ R.cells) (hslots : slots + N ≤ R.slots) (hdg : decode cc pc = .ok (.newarray .int, 2))
    (kk : ∀ (q : Nat) (H : Heap), va_P E.1 vwCl (ws ++ [(q, .inl (E.2 0, N, .inl (fun _ => nI 0)))]) H → va_D A0 (ws ++ [(q, .inl (E.2 0, N, .inl (fun _ => nI 0)))]) → va_S A0 H0 H locs → W p l e R s m args below meth c H locs (cells + 1) (slots + N) Q (F0 m (pc + 2) ls (.ref q :: rest))) : W p l e R s m args below meth c H locs cells slots Q (F0 m pc ls (.int (nI N) :: rest)) := by
  refine va_newa (atype := .int) (ty := .int) (a0 := (N, .inl (fun _ => nI 0))) hexec hb harr rfl hE.1 hP hD hS hA (fun cA => rfl) (nI_pos (by omega)) (nI_clamp (by omega)) (by show N * 4 ≤ _; omega) hcells hslots hdg (fun q cA H1 hK hP hD hS => ?_)
  have h1 : s.vm.findClass ("[" ++ FieldType.int.toString) = some cA := (hK.2 4 (cA, .int) rfl).2
  have h2 : s.vm.findClass ("[" ++ FieldType.int.toString) = some (E.2 0) := (hK.2 0 (E.2 0, .int) rfl).2
  have e : cA = E.2 0 := Option.some.inj (h1.symm.trans h2)
  rw [e] at hP hD
  exact kk q H1 hP hD hS
theorem va_newJ (hexec : p.tables.exec = Jvm.exec) (hb : c.code = cc) (harr : (Cond.arrayClass .long).before args s = true) (hE : eEv E s) (hP : va_P E.1 vwCl ws H) (hD : va_D A0 ws) (hS : va_S A0 H0 H locs) (hA : ∀ q, H0.size ≤ q → A0 q) {N : Nat} (hN : N ≤ 65536) (hcells : cells + 1 ≤ R.cells) (hslots : slots + N ≤ R.slots) (hdg : decode cc pc = .ok (.newarray .long, 2))
    (kk : ∀ (q : Nat) (H : Heap), va_P E.1 vwCl (ws ++ [(q, .inl (E.2 1, N, .inr (.inl (fun _ => lN 0))))]) H → va_D A0 (ws ++ [(q, .inl (E.2 1, N, .inr (.inl (fun _ => lN 0))))]) → va_S A0 H0 H locs → W p l e R s m args below meth c H locs (cells + 1) (slots + N) Q (F0 m (pc + 2) ls (.ref q :: rest))) : W p l e R s m args below meth c H locs cells slots Q (F0 m pc ls (.int (nI N) :: rest)) := by
  refine va_newa (atype := .long) (ty := .long) (a0 := (N, .inr (.inl (fun _ => lN 0)))) hexec hb harr rfl hE.1 hP hD hS hA (fun cA => rfl) (nI_pos (by omega)) (nI_clamp (by omega)) (by show N * 8 ≤ _; omega) hcells hslots hdg (fun q cA H1 hK hP hD hS => ?_)
  have h1 : s.vm.findClass ("[" ++ FieldType.long.toString) = some cA := (hK.2 4 (cA, .long) rfl).2
  have h2 : s.vm.findClass ("[" ++ FieldType.long.toString) = some (E.2 1) := (hK.2 1 (E.2 1, .long) rfl).2
  have e : cA = E.2 1 := Option.some.inj (h1.symm.trans h2)
  rw [e] at hP hD
  exact kk q H1 hP hD hS
end ED
section EC
variable {p : Program} {l : Launch} {e : Env} {R : Room} {s : State} {m : MethodId} {args : Array Value} {below : List Frame} {meth : Method} {c : Code} {H : Heap} {locs : List Loc} {cells slots : Nat} {Q : State → Prop}
variable {cc : ByteArray} {pc : Nat} {ls : Array Slot} {rest st0 : List Value} {a : Array Value} {A0 : Nat → Prop} {H0 : Heap} {mc ms : Nat} {E : eT} {ws : va_W}
theorem cW_i {post : Int32 → va_W → Prop} (hr : va_Run p l e R s m args below meth c H locs cells slots mc ms (F0 m pc ls st0) rest (va_Qi post (eAt E (va_A ws H.size)) (va_A ws H.size) a) (va_A ws H.size)) (hS : va_S A0 H0 H locs) (hD : va_D A0 ws) (hA : ∀ q, H0.size ≤ q → A0 q)
    (kk : ∀ (r : Int32) (ws1 : va_W) (H1 : Heap) (locs1 : List Loc), post r ws1 → va_P E.1 vwCl ws1 H1 → va_D A0 ws1 → va_S A0 H0 H1 locs1 → W p l e R s m args below meth c H1 locs1 (cells + mc) (slots + ms) Q (F0 m (pc + 3) ls (.int r :: rest))) : W p l e R s m args below meth c H locs cells slots Q (F0 m pc ls st0) :=
  va_calli hr hS (fun q _ h => eFree hD hS hA q h) (eFree hD hS hA) (fun r u t H1 locs1 ht _ hp hB _ _ hS1 => kk r u H1 locs1 hp (by rw [← ht]; exact hB.1) (hB.2.weaken (fun _ _ _ h => eFree hD hS hA _ h)) hS1)
theorem cW_l {post : Int64 → va_W → Prop} (hr : va_Run p l e R s m args below meth c H locs cells slots mc ms (F0 m pc ls st0) rest (va_Ql post (eAt E (va_A ws H.size)) (va_A ws H.size) a) (va_A ws H.size)) (hS : va_S A0 H0 H locs) (hD : va_D A0 ws) (hA : ∀ q, H0.size ≤ q → A0 q)
    (kk : ∀ (r : Int64) (ws1 : va_W) (H1 : Heap) (locs1 : List Loc), post r ws1 → va_P E.1 vwCl ws1 H1 → va_D A0 ws1 → va_S A0 H0 H1 locs1 → W p l e R s m args below meth c H1 locs1 (cells + mc) (slots + ms) Q (F0 m (pc + 3) ls (.long r :: rest))) : W p l e R s m args below meth c H locs cells slots Q (F0 m pc ls st0) :=
  va_calll hr hS (fun q _ h => eFree hD hS hA q h) (eFree hD hS hA) (fun r u t H1 locs1 ht _ hp hB _ _ hS1 => kk r u H1 locs1 hp (by rw [← ht]; exact hB.1) (hB.2.weaken (fun _ _ _ h => eFree hD hS hA _ h)) hS1)
theorem cW_v {post : va_W → Prop} (hr : va_Run p l e R s m args below meth c H locs cells slots mc ms (F0 m pc ls st0) rest (va_Qv post (eAt E (va_A ws H.size)) (va_A ws H.size) a) (va_A ws H.size)) (hS : va_S A0 H0 H locs) (hD : va_D A0 ws) (hA : ∀ q, H0.size ≤ q → A0 q)
    (kk : ∀ (ws1 : va_W) (H1 : Heap) (locs1 : List Loc), post ws1 → va_P E.1 vwCl ws1 H1 → va_D A0 ws1 → va_S A0 H0 H1 locs1 → W p l e R s m args below meth c H1 locs1 (cells + mc) (slots + ms) Q (F0 m (pc + 3) ls rest)) : W p l e R s m args below meth c H locs cells slots Q (F0 m pc ls st0) :=
  va_callv hr hS (fun q _ h => eFree hD hS hA q h) (eFree hD hS hA) (fun u t H1 locs1 ht _ hp hB _ _ hS1 => kk u H1 locs1 hp (by rw [← ht]; exact hB.1) (hB.2.weaken (fun _ _ _ h => eFree hD hS hA _ h)) hS1)
theorem cW_r {post : Nat × va_W → Prop} (hr : va_Run p l e R s m args below meth c H locs cells slots mc ms (F0 m pc ls st0) rest (va_Qr post (fun u a t => u.1 = a ∧ eAt E (va_A ws H.size) u.2 t) (va_A ws H.size) a) (va_A ws H.size)) (hS : va_S A0 H0 H locs) (hD : va_D A0 ws) (hA : ∀ q, H0.size ≤ q → A0 q)
    (kk : ∀ (r : Nat) (ws1 : va_W) (H1 : Heap) (locs1 : List Loc), post (r, ws1) → va_P E.1 vwCl ws1 H1 → va_D A0 ws1 → va_S A0 H0 H1 locs1 → W p l e R s m args below meth c H1 locs1 (cells + mc) (slots + ms) Q (F0 m (pc + 3) ls (.ref r :: rest))) : W p l e R s m args below meth c H locs cells slots Q (F0 m pc ls st0) :=
  va_callr hr hS (fun q _ h => eFree hD hS hA q h) (eFree hD hS hA) (fun u ra t H1 locs1 ht _ hp hB _ _ hS1 => by
    obtain ⟨u1, u2⟩ := u
    obtain ⟨rfl, hB⟩ := hB
    exact kk u1 u2 H1 locs1 hp (by rw [← ht]; exact hB.1) (hB.2.weaken (fun _ _ _ h => eFree hD hS hA _ h)) hS1)
theorem ret_Pi {post : Int32 → Prop} {v : Int32} (hexec : p.tables.exec = Jvm.exec) (hb : c.code = cc) (hr : meth.sig.returnType = some .int) (hlocks : meth.locks = false) (hdg : decode cc pc = .ok (.ireturn, 1)) (hp : post v) : W p l e R s m args below meth c s.heap [] 0 0 (MQ below (vp_Si post) args s 0 0 (fun _ => False)) (F0 m pc ls [.int v]) :=
  W.iret hexec hb hr (fun t ht _ => ⟨v, rfl, hp, ht⟩) (fun q hq => by cases hq) hdg hlocks
theorem ret_Pz {post : Int32 → Prop} {v : Int32} (hexec : p.tables.exec = Jvm.exec) (hb : c.code = cc) (hr : meth.sig.returnType = some .boolean) (hlocks : meth.locks = false) (hdg : decode cc pc = .ok (.ireturn, 1)) (hn : narrow .boolean (.int v) = .int v) (hp : post v) : W p l e R s m args below meth c s.heap [] 0 0 (MQ below (vp_Si post) args s 0 0 (fun _ => False)) (F0 m pc ls [.int v]) :=
  W.zret hexec hb hr hn (fun t ht _ => ⟨v, rfl, hp, ht⟩) (fun q hq => by cases hq) hdg hlocks
theorem ret_Pl {post : Int64 → Prop} {v : Int64} (hexec : p.tables.exec = Jvm.exec) (hb : c.code = cc) (hr : meth.sig.returnType = some .long) (hlocks : meth.locks = false) (hdg : decode cc pc = .ok (.lreturn, 1)) (hp : post v) : W p l e R s m args below meth c s.heap [] 0 0 (MQ below (vp_Sl post) args s 0 0 (fun _ => False)) (F0 m pc ls [.long v]) :=
  W.lret hexec hb hr (fun t ht _ => ⟨v, rfl, hp, ht⟩) (fun q hq => by cases hq) hdg hlocks
theorem ret_Pq {post : Option Nat → Prop} {C : String} (v : Option Nat) (hexec : p.tables.exec = Jvm.exec) (hb : c.code = cc) (hr : meth.sig.returnType = some (.object C)) (hlocks : meth.locks = false) (hdg : decode cc pc = .ok (.areturn, 1)) (hp : post v) : W p l e R s m args below meth c s.heap [] 0 0 (MQ below (va_Sq post) args s 0 0 (fun _ => False)) (F0 m pc ls [va_rf v]) :=
  W.aret hexec hb hr (Or.inl ⟨C, rfl⟩) (by cases v with | none => exact Or.inl rfl | some a => exact Or.inr ⟨a, rfl⟩) (fun t ht _ => ⟨v, rfl, hp, ht⟩) (fun q hq => by cases hq) hdg hlocks
theorem ret_Wi {A : Nat → Prop} {post : Int32 → va_W → Prop} {v : Int32} (hexec : p.tables.exec = Jvm.exec) (hb : c.code = cc) (hr : meth.sig.returnType = some .int) (hlocks : meth.locks = false) (hdg : decode cc pc = .ok (.ireturn, 1)) (hP : va_P E.1 vwCl ws H) (hD : va_D A ws) (hS : va_S A s.heap H locs) (hp : post v ws) : W p l e R s m args below meth c H locs cells slots (MQ below (va_Qi post (eAt E A) A) args s cells slots A) (F0 m pc ls [.int v]) :=
  W.iret hexec hb hr (fun t ht _ => ⟨⟨v, ws, rfl, hp, by rw [ht]; exact hP, hD⟩, hS.F ht⟩) hS.2.2 hdg hlocks
theorem ret_Wl {A : Nat → Prop} {post : Int64 → va_W → Prop} {v : Int64} (hexec : p.tables.exec = Jvm.exec) (hb : c.code = cc) (hr : meth.sig.returnType = some .long) (hlocks : meth.locks = false) (hdg : decode cc pc = .ok (.lreturn, 1)) (hP : va_P E.1 vwCl ws H) (hD : va_D A ws) (hS : va_S A s.heap H locs) (hp : post v ws) : W p l e R s m args below meth c H locs cells slots (MQ below (va_Ql post (eAt E A) A) args s cells slots A) (F0 m pc ls [.long v]) :=
  W.lret hexec hb hr (fun t ht _ => ⟨⟨v, ws, rfl, hp, by rw [ht]; exact hP, hD⟩, hS.F ht⟩) hS.2.2 hdg hlocks
theorem ret_Wv {A : Nat → Prop} {post : va_W → Prop} (hexec : p.tables.exec = Jvm.exec) (hb : c.code = cc) (hr : meth.sig.returnType = none) (hlocks : meth.locks = false) (hdg : decode cc pc = .ok (.return_, 1)) (hP : va_P E.1 vwCl ws H) (hD : va_D A ws) (hS : va_S A s.heap H locs) (hp : post ws) : W p l e R s m args below meth c H locs cells slots (MQ below (va_Qv post (eAt E A) A) args s cells slots A) (F0 m pc ls []) :=
  W.vret hexec hb hr (fun t ht _ => ⟨⟨ws, rfl, hp, by rw [ht]; exact hP, hD⟩, hS.F ht⟩) hS.2.2 hdg hlocks
theorem ret_Wr {A : Nat → Prop} {post : Nat × va_W → Prop} {v : Nat} {rt : FieldType} (hexec : p.tables.exec = Jvm.exec) (hb : c.code = cc) (hr : meth.sig.returnType = some rt) (hrt : (∃ n, rt = .object n) ∨ ∃ t, rt = .array t) (hlocks : meth.locks = false) (hdg : decode cc pc = .ok (.areturn, 1)) (hP : va_P E.1 vwCl ws H) (hD : va_D A ws) (hS : va_S A s.heap H locs) (hp : post (v, ws)) : W p l e R s m args below meth c H locs cells slots (MQ below (va_Qr post (fun u a t => u.1 = a ∧ eAt E A u.2 t) A) args s cells slots A) (F0 m pc ls [.ref v]) :=
  W.aret hexec hb hr hrt (Or.inr ⟨v, rfl⟩) (fun t ht _ => ⟨⟨(v, ws), v, rfl, hp, rfl, by rw [ht]; exact hP, hD⟩, hS.F ht⟩) hS.2.2 hdg hlocks
end EC
/-- a contract out of its body's walk: methods that only read -/
theorem mP_of {l : Launch} {y : MethodName} {w w' : List Cond} {fr lo maxL : Nat} {E : eT} {ws : va_W} {av : List Value} {Qc : Array Value → State → Outcome → State → Prop} {cc : ByteArray} {ret : Option FieldType} (hy : plainName y.cls = true) (hw : w = Cond.code y cc maxL ret :: w') (hlen : (lg_sl av).length ≤ maxL)
    (body : ∀ (p : Program) (e : Env) (s : State) (m : MethodId) (below : List Frame) (meth : Method) (c : Code) (ls : Array Slot), p.tables.exec = Jvm.exec → c.code = cc → meth.sig.returnType = ret → c.maxLocals = maxL → (∀ x ∈ w, x.before av.toArray s = true) → s.vm.findClass y.cls = some m.cls → meth.locks = false → eEv E s → va_P E.1 vwCl ws s.heap → lv_has ls maxL (lv_args 0 av) →
      W p l e ({ frames := fr, cells := 0, slots := 0, locals := lo }) s m av.toArray below meth c s.heap [] 0 0 (MQ below Qc av.toArray s 0 0 (fun _ => False)) (F0 m 0 ls [])) : Met l y w ({ frames := fr, cells := 0, slots := 0, locals := lo }) (va_Pc av (ePP E ws)) Qc 0 0 (fun _ => False) := by
  refine Met.ofW (cc := cc) (maxL := maxL) (ret := ret) hy hw ?_
  intro p e s m args below meth c s₁ B hml hv
  obtain ⟨rfl, hP, hE⟩ := hv
  have hts := atoms_spec (ws := w) B.pre
  have hown : s.vm.findClass y.cls = some m.cls := findClass_of_methodNamed B.named
  have hl := lv_entry av (n := maxL) hlen
  rw [lg_entry_eq]
  exact body p e s m below meth c _ B.exec B.bytes B.returns hml hts hown B.notSynchronized hE hP hl
/-- methods that write -/
theorem mW_of {l : Launch} {y : MethodName} {w w' : List Cond} {fr lo maxL mc ms sz : Nat} {E : eT} {ws : va_W} {av : List Value} {Qc : Nat → Array Value → State → Outcome → State → Prop} {cc : ByteArray} {ret : Option FieldType} (hy : plainName y.cls = true) (hw : w = Cond.code y cc maxL ret :: w') (hlen : (lg_sl av).length ≤ maxL)
    (body : ∀ (p : Program) (e : Env) (s : State) (m : MethodId) (below : List Frame) (meth : Method) (c : Code) (ls : Array Slot), p.tables.exec = Jvm.exec → c.code = cc → meth.sig.returnType = ret → c.maxLocals = maxL → (∀ x ∈ w, x.before av.toArray s = true) → s.vm.findClass y.cls = some m.cls → meth.locks = false → (y.name = meth.name) → eEv E s → va_P E.1 vwCl ws s.heap → va_D (va_A ws s.heap.size) ws → lv_has ls maxL (lv_args 0 av) →
      W p l e ({ frames := fr, cells := mc, slots := ms, locals := lo }) s m av.toArray below meth c s.heap [] 0 0 (MQ below (Qc s.heap.size) av.toArray s mc ms (va_A ws s.heap.size)) (F0 m 0 ls [])) : Met l y w ({ frames := fr, cells := mc, slots := ms, locals := lo }) (va_Pc av (ePW E ws sz)) (Qc sz) mc ms (va_A ws sz) := by
  refine Met.ofW (cc := cc) (maxL := maxL) (ret := ret) hy hw ?_
  intro p e s m args below meth c s₁ B hml hv
  obtain ⟨rfl, hsz, hP, hD, hE⟩ := hv
  subst hsz
  have hts := atoms_spec (ws := w) B.pre
  have hown : s.vm.findClass y.cls = some m.cls := findClass_of_methodNamed B.named
  have hl := lv_entry av (n := maxL) hlen
  have hin : y.name = meth.name := ((name_of_methodNamed B.named B.method).1).symm
  rw [lg_entry_eq]
  exact body p e s m below meth c _ B.exec B.bytes B.returns hml hts hown B.notSynchronized hin hE hP (hD.self) hl
