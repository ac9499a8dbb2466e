/-! THE STATE'S WORDS: games, the worlds of the class and of the reference -/
abbrev gT : Type := Nat × Nat × Nat × Nat × Nat
def gK (d : gT) : Nat := d.1
def gC (d : gT) : Nat := d.2.1
def gM (d : gT) : Nat := d.2.2.1
def gX (d : gT) : Nat := d.2.2.2.1
def gL (d : gT) : Nat := d.2.2.2.2
def gOk (d : gT) : Prop := gK d ≤ 2 ∧ gC d ≤ 16 ∧ (gK d ≠ 0 → 1 ≤ gM d ∧ gM d ≤ 9) ∧ (gK d = 2 → gX d ≤ 10) ∧ 1 ≤ gL d ∧ gL d ≤ 32
def gWin (d : gT) (s : Nat) : Nat := if gK d = 0 then s else if gK d = 1 then s * gM d else s * gM d - s * gM d * gX d / 10
theorem gWin_le {d : gT} (h : gOk d) {s : Nat} (hs : s ≤ 32) : gWin d s ≤ 288 := by
  unfold gWin
  obtain ⟨-, -, h3, -, -, -⟩ := h
  split
  · omega
  · rename_i h0
    have := h3 h0
    have h9 : s * gM d ≤ 32 * 9 := Nat.mul_le_mul hs this.2
    split <;> omega
/-- the cell of a game: its kind says which fields it has, and where -/
def gmE (d : gT) (b : Nat) : va_E := if gK d = 0 then .inr (1, [.int (nI (gC d)), .int (nI (gL d)), .ref b]) else if gK d = 1 then .inr (2, [.int (nI (gC d)), .int (nI (gL d)), .ref b, .int (nI (gM d))]) else .inr (3, [.int (nI (gM d)), .int (nI (gC d)), .int (nI (gL d)), .ref b, .int (nI (gX d))])
def gnE (E : eT) (d : gT) : va_E := .inl (E.2 0, 33, .inl (fun s => nI (gWin d s)))
/-- the games of a world: the n first places of the games' row, and where the games' cells lie -/
def gAll (E : eT) (ws : va_W) (gr : Nat → Option Nat) (n : Nat) (pl ga gb : Nat → Nat) (gd : Nat → gT) : Prop := ∀ i, i < n → gr i = some (ga i) ∧ ws[pl i]? = some (ga i, gmE (gd i) (gb i)) ∧ ws[pl i + 1]? = some (gb i, gnE E (gd i)) ∧ gOk (gd i)
abbrev xE (ad : Nat → Nat) (g hz n : Nat) (mk : Int64) : va_E := .inr (4, [.ref (ad 1), .ref (ad 2), .ref (ad 3), .ref (ad 4), .ref (ad 5), .ref (ad 6), .ref (ad 7), .int (nI g), .int (nI hz), .int (nI n), .long mk])
abbrev xGr (E : eT) (gr : Nat → Option Nat) : va_E := .inl (E.2 2, 4, .inr (.inr (.inr (.inr gr))))
abbrev xI (E : eT) (n : Nat) (f : Nat → Int32) : va_E := .inl (E.2 0, n, .inl f)
abbrev xJ (E : eT) (n : Nat) (f : Nat → Int64) : va_E := .inl (E.2 1, n, .inr (.inl f))
abbrev xO (E : eT) (n : Nat) (f : Nat → Option Nat) : va_E := .inl (E.2 3, n, .inr (.inr (.inr (.inr f))))
abbrev xC (ad : Nat → Nat) (cf ce ck : Nat → Nat) (c : Nat) : va_E := .inr (0, [.int (nI (if c = 1 then 2 else 0)), .ref (ad (10 + c)), .int (nI (cf c)), .int (nI (ce c)), .int (nI (ck c))])
/-- a chart's rows -/
def xR (ad : Nat → Nat) (c : Nat) : Nat → Option Nat := fun i => if i < 13 then some (ad (13 + (13 * c + i))) else none
def xW2 (ad : Nat → Nat) : Nat → Option Nat := fun i => if i < 2 then some (ad (8 + i)) else none
/-- the world of the class: the object, its rows, three charts, their rows -/
def wX (E : eT) (ad : Nat → Nat) (g hz n : Nat) (mk : Int64) (td : Nat → Int32) (gr : Nat → Option Nat) (cf ce ck : Nat → Nat) (rv : Nat → Nat → Int64) (st : Nat → Int32) (wo : Nat → Nat → Int64) : va_W :=
  [(ad 0, xE ad g hz n mk), (ad 1, xGr E gr), (ad 2, xI E 33 td), (ad 3, xC ad cf ce ck 0), (ad 4, xC ad cf ce ck 1), (ad 5, xC ad cf ce ck 2), (ad 6, xI E 198 st), (ad 7, xO E 2 (xW2 ad)), (ad 8, xJ E 198 (wo 0)), (ad 9, xJ E 198 (wo 1)), (ad 10, xO E 13 (xR ad 0)), (ad 11, xO E 13 (xR ad 1)), (ad 12, xO E 13 (xR ad 2))] ++ (List.range 39).map (fun j => (ad (13 + j), xJ E 33 (rv j)))
section XB
variable {p : Program} {l : Launch} {e : Env} {R : Room} {s : State} {m : MethodId} {args : Array Value} {below : List Frame} {meth : Method} {c : Code} {H : Heap} {locs : List Loc} {cells slots : Nat} {Q : State → Prop}
variable {cc : ByteArray} {pc : Nat} {ls : Array Slot} {rest : List Value} {E : eT} {ws : va_W}
/-- a game's fields, whatever its kind -/
theorem gf_limit (hexec : p.tables.exec = Jvm.exec) (hb : c.code = cc) {Ts : List Cond} (hts : ∀ w ∈ Ts, w.before args s = true) (h1 : ∀ w ∈ wsX10, w ∈ Ts) (h2 : ∀ w ∈ wsX20, w ∈ Ts) (h3 : ∀ w ∈ wsX30, w ∈ Ts) (hown : s.vm.findClass RX4 = some m.cls) (hE : eEv E s) (hP : va_P E.1 vwCl ws H) {k a b : Nat} {d : gT} (hg : ws[k]? = some (a, gmE d b)) (hdg : decode cc pc = .ok (.getfield 134, 3))
    (kk : W p l e R s m args below meth c H locs cells slots Q (F0 m (pc + 3) ls (.int (nI (gL d)) :: rest))) : W p l e R s m args below meth c H locs cells slots Q (F0 m pc ls (.ref a :: rest)) := by
  have hN := va_Nw.use (A := args) rfl (hE.2 (.fieldLinkNest RX4 134 RX1 "limit" "I" RX4) (by decide +kernel))
  unfold gmE at hg
  split at hg
  · exact va_getN (D := E.1) (ci := 1) (C := RX1) (T := TX1) (N := 3) hexec hb hts h1 hown hE.1 hP k hg rfl 1 (by decide) hN (fun _ h9 => h9) rfl hdg kk
  · split at hg
    · exact va_getN (D := E.1) (ci := 2) (C := RX2) (T := TX2) (N := 4) hexec hb hts h2 hown hE.1 hP k hg rfl 1 (by decide) hN (fun _ h9 => h9) rfl hdg kk
    · exact va_getN (D := E.1) (ci := 3) (C := RX3) (T := TX3) (N := 5) hexec hb hts h3 hown hE.1 hP k hg rfl 2 (by decide) hN (fun _ h9 => h9) rfl hdg kk
theorem gf_chance (hexec : p.tables.exec = Jvm.exec) (hb : c.code = cc) {Ts : List Cond} (hts : ∀ w ∈ Ts, w.before args s = true) (h1 : ∀ w ∈ wsX10, w ∈ Ts) (h2 : ∀ w ∈ wsX20, w ∈ Ts) (h3 : ∀ w ∈ wsX30, w ∈ Ts) (hown : s.vm.findClass RX4 = some m.cls) (hE : eEv E s) (hP : va_P E.1 vwCl ws H) {k a b : Nat} {d : gT} (hg : ws[k]? = some (a, gmE d b)) (hdg : decode cc pc = .ok (.getfield 146, 3))
    (kk : W p l e R s m args below meth c H locs cells slots Q (F0 m (pc + 3) ls (.int (nI (gC d)) :: rest))) : W p l e R s m args below meth c H locs cells slots Q (F0 m pc ls (.ref a :: rest)) := by
  have hN := va_Nw.use (A := args) rfl (hE.2 (.fieldLinkNest RX4 146 RX1 "chance" "I" RX4) (by decide +kernel))
  unfold gmE at hg
  split at hg
  · exact va_getN (D := E.1) (ci := 1) (C := RX1) (T := TX1) (N := 3) hexec hb hts h1 hown hE.1 hP k hg rfl 0 (by decide) hN (fun _ h9 => h9) rfl hdg kk
  · split at hg
    · exact va_getN (D := E.1) (ci := 2) (C := RX2) (T := TX2) (N := 4) hexec hb hts h2 hown hE.1 hP k hg rfl 0 (by decide) hN (fun _ h9 => h9) rfl hdg kk
    · exact va_getN (D := E.1) (ci := 3) (C := RX3) (T := TX3) (N := 5) hexec hb hts h3 hown hE.1 hP k hg rfl 1 (by decide) hN (fun _ h9 => h9) rfl hdg kk
theorem gf_gains (hexec : p.tables.exec = Jvm.exec) (hb : c.code = cc) {Ts : List Cond} (hts : ∀ w ∈ Ts, w.before args s = true) (h1 : ∀ w ∈ wsX10, w ∈ Ts) (h2 : ∀ w ∈ wsX20, w ∈ Ts) (h3 : ∀ w ∈ wsX30, w ∈ Ts) (hown : s.vm.findClass RX4 = some m.cls) (hE : eEv E s) (hP : va_P E.1 vwCl ws H) {k a b : Nat} {d : gT} (hg : ws[k]? = some (a, gmE d b)) (hdg : decode cc pc = .ok (.getfield 143, 3))
    (kk : W p l e R s m args below meth c H locs cells slots Q (F0 m (pc + 3) ls (.ref b :: rest))) : W p l e R s m args below meth c H locs cells slots Q (F0 m pc ls (.ref a :: rest)) := by
  have hN := va_Nw.use (A := args) rfl (hE.2 (.fieldLinkNest RX4 143 RX1 "gains" "[I" RX4) (by decide +kernel))
  unfold gmE at hg
  split at hg
  · exact va_getN (D := E.1) (ci := 1) (C := RX1) (T := TX1) (N := 3) hexec hb hts h1 hown hE.1 hP k hg rfl 2 (by decide) hN (fun _ h9 => h9) rfl hdg kk
  · split at hg
    · exact va_getN (D := E.1) (ci := 2) (C := RX2) (T := TX2) (N := 4) hexec hb hts h2 hown hE.1 hP k hg rfl 2 (by decide) hN (fun _ h9 => h9) rfl hdg kk
    · exact va_getN (D := E.1) (ci := 3) (C := RX3) (T := TX3) (N := 5) hexec hb hts h3 hown hE.1 hP k hg rfl 3 (by decide) hN (fun _ h9 => h9) rfl hdg kk
end XB
/-! numbers -/
theorem nI_min {a b : Nat} (ha : a < 2 ^ 31) (hb : b < 2 ^ 31) : (if nI b < nI a then nI b else nI a) = nI (min a b) := by
  by_cases h : b < a
  · rw [if_pos ((nI_ltI hb ha).mpr h), Nat.min_eq_right (Nat.le_of_lt h)]
  · rw [if_neg (fun q => h ((nI_ltI hb ha).mp q)), Nat.min_eq_left (Nat.not_lt.mp h)]
theorem lN_max {a b : Nat} (ha : a < 2 ^ 63) (hb : b < 2 ^ 63) : (if lN a < lN b then lN b else lN a) = lN (max a b) := by
  by_cases h : a < b
  · rw [if_pos ((pk_lLT ha hb).mpr h), Nat.max_eq_right (Nat.le_of_lt h)]
  · rw [if_neg (fun q => h ((pk_lLT ha hb).mp q)), Nat.max_eq_left (Nat.not_lt.mp h)]
/-- in a told range: as numbers -/
theorem nI_rng {v : Int32} {a b : Nat} (hb : b < 2 ^ 31) (h : nI a ≤ v ∧ v ≤ nI b) (ha : a < 2 ^ 31) : ∃ j : Nat, a ≤ j ∧ j ≤ b ∧ v = nI j := by
  have h0 : ¬ v < 0 := fun q => by
    have h1 := Int32.le_iff_toInt_le.mp h.1
    have h2 := Int32.lt_iff_toInt_lt.mp q
    rw [nI_toInt ha] at h1
    have : (0 : Int32).toInt = 0 := rfl
    omega
  obtain ⟨j, hj, rfl⟩ := nI_of h0
  exact ⟨j, (nI_leI ha hj).mp h.1, (nI_leI hj hb).mp h.2, rfl⟩
theorem nI_rngI {j a b : Nat} (hj : j < 2 ^ 31) (ha : a < 2 ^ 31) (hb : b < 2 ^ 31) : (nI a ≤ nI j ∧ nI j ≤ nI b) ↔ (a ≤ j ∧ j ≤ b) := by
  rw [nI_leI ha hj, nI_leI hj hb]
theorem nI_gm {v : Int32} {n : Nat} (hn : n < 2 ^ 31) : (nI 0 ≤ v ∧ v ≤ nI n - nI 1) ↔ ∃ i : Nat, i < n ∧ v = nI i := by
  cases n with
  | zero =>
    constructor
    · intro h
      have h1 := Int32.le_iff_toInt_le.mp h.1
      have h2 := Int32.le_iff_toInt_le.mp h.2
      have e1 : (nI 0).toInt = 0 := rfl
      have e2 : (nI 0 - nI 1).toInt = -1 := rfl
      omega
    · rintro ⟨i, hi, -⟩
      omega
  | succ k =>
    rw [show nI (k + 1) - nI 1 = nI k from nI_pred k]
    constructor
    · intro h
      obtain ⟨j, h1, h2, rfl⟩ := nI_rng (by omega) h (by decide)
      exact ⟨j, by omega, rfl⟩
    · rintro ⟨i, hi, rfl⟩
      exact (nI_rngI (by omega) (by decide) (by omega)).mpr ⟨by omega, by omega⟩
