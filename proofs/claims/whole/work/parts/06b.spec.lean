/-! WHAT IS COMPUTED, in numbers -/
theorem lN_max2 {a b : Nat} (ha : a < 2 ^ 63) (hb : b < 2 ^ 63) : (if lN b < lN a then lN a else lN b) = lN (max a b) := by
  by_cases h : b < a
  · rw [if_pos ((pk_lLT hb ha).mpr h), Nat.max_eq_left (Nat.le_of_lt h)]
  · rw [if_neg (fun q => h ((pk_lLT hb ha).mp q)), Nat.max_eq_right (Nat.not_lt.mp h)]
def gMix (d : gT) (x y : Nat) : Nat := gC d * x + (16 - gC d) * y
theorem gMix_le {d : gT} (hd : gOk d) {x y B : Nat} (hx : x ≤ B) (hy : y ≤ B) : gMix d x y ≤ 16 * B := by
  have hc := hd.2.1
  have h1 : gC d * x ≤ gC d * B := Nat.mul_le_mul_left _ hx
  have h2 : (16 - gC d) * y ≤ (16 - gC d) * B := Nat.mul_le_mul_left _ hy
  have h3 : gC d * B + (16 - gC d) * B = 16 * B := by rw [← Nat.add_mul]; congr 1; omega
  unfold gMix
  omega
/-- a stake s played from the purse q, the worths behind it being v -/
def gVal (g : Nat) (d : gT) (v : Nat → Nat) (q s : Nat) : Nat := gMix d (v (min g (q + gWin d s))) (v (q - s))
theorem gVal_le {g : Nat} {d : gT} {v : Nat → Nat} {q s B : Nat} (hd : gOk d) (hv : ∀ j, j ≤ g → v j ≤ B) (hq : q ≤ g) : gVal g d v q s ≤ 16 * B := gMix_le hd (hv _ (Nat.min_le_left _ _)) (hv _ (by omega))
def gS (g : Nat) (d : gT) (v : Nat → Nat) (q : Nat) : Nat → Nat → Nat
  | 0, a => a
  | s + 1, a => max (gS g d v q s a) (gVal g d v q (s + 1))
theorem gS_acc (g : Nat) (d : gT) (v : Nat → Nat) (q a : Nat) : ∀ k, gS g d v q k a = max a (gS g d v q k 0)
  | 0 => by simp [gS]
  | k + 1 => by
    simp only [gS]
    rw [gS_acc g d v q a k]
    omega
theorem gS_le {g : Nat} {d : gT} {v : Nat → Nat} {q a B : Nat} (hd : gOk d) (hv : ∀ j, j ≤ g → v j ≤ B) (hq : q ≤ g) (ha : a ≤ 16 * B) : ∀ k, gS g d v q k a ≤ 16 * B
  | 0 => ha
  | k + 1 => by
    have h1 := gS_le hd hv hq ha k
    have h2 := gVal_le (s := k + 1) hd hv hq
    simp only [gS]
    omega
/-- the best over the games lo, lo + 1 .. (cnt of them) -/
def gG (g : Nat) (gd : Nat → gT) (v : Nat → Nat) (q lo : Nat) : Nat → Nat → Nat
  | 0, a => a
  | k + 1, a => max (gG g gd v q lo k a) (gS g (gd (lo + k)) v q (min q (gL (gd (lo + k)))) 0)
theorem gG_le {g : Nat} {gd : Nat → gT} {v : Nat → Nat} {q lo a B : Nat} (hv : ∀ j, j ≤ g → v j ≤ B) (hq : q ≤ g) (ha : a ≤ 16 * B) : ∀ k, (∀ i, i < k → gOk (gd (lo + i))) → gG g gd v q lo k a ≤ 16 * B
  | 0, _ => ha
  | k + 1, hd => by
    have h1 := gG_le (lo := lo) hv hq ha k (fun i hi => hd i (by omega))
    have h2 := gS_le (a := 0) (hd k (by omega)) hv hq (Nat.zero_le _) (min q (gL (gd (lo + k))))
    simp only [gG]
    omega
def gTurn (g : Nat) (gd : Nat → gT) (lo cnt : Nat) (v : Nat → Nat) (q : Nat) : Nat := if 1 ≤ q ∧ q < g then gG g gd v q lo cnt (16 * v q) else 16 * v q
theorem gTurn_le {g : Nat} {gd : Nat → gT} {lo cnt : Nat} {v : Nat → Nat} {q B : Nat} (hd : ∀ i, i < cnt → gOk (gd (lo + i))) (hv : ∀ j, j ≤ g → v j ≤ B) (hq : q ≤ g) : gTurn g gd lo cnt v q ≤ 16 * B := by
  have h := hv q hq
  unfold gTurn
  split
  · exact gG_le hv hq (by omega) cnt hd
  · omega
/-- what a purse is worth with no turn left -/
def eW (g what q : Nat) : Nat := if what = 0 then (if q = g then 1 else 0) else if what = 1 then (if q = 0 then 1 else 0) else if what = 2 then q else 0
theorem eW_le {g what q : Nat} (hq : q ≤ g) (hg : g ≤ 32) : eW g what q ≤ 32 := by
  unfold eW
  repeat' split
  all_goals omega
def gBst (g : Nat) (gd : Nat → gT) (lo cnt what : Nat) : Nat → Nat → Nat
  | 0 => eW g what
  | t + 1 => gTurn g gd lo cnt (gBst g gd lo cnt what t)
theorem gBst_le {g : Nat} {gd : Nat → gT} {lo cnt what : Nat} (hg : g ≤ 32) (hd : ∀ i, i < cnt → gOk (gd (lo + i))) : ∀ t q, q ≤ g → gBst g gd lo cnt what t q ≤ 32 * 16 ^ t
  | 0, q, hq => by simpa [gBst] using eW_le hq hg
  | t + 1, q, hq => by
    have h := gTurn_le (lo := lo) (cnt := cnt) hd (gBst_le (what := what) hg hd t) hq
    simp only [gBst]
    rw [Nat.pow_succ]
    omega
theorem pow16_le {t n : Nat} (h : t ≤ n) : 16 ^ t ≤ 16 ^ n := Nat.pow_le_pow_right (by decide) h
/-- bold play: the least stake that reaches the goal -/
def gB (g : Nat) (d : gT) (q most : Nat) : Nat → Nat
  | 0 => most
  | k + 1 => if g ≤ q + gWin d (most - (k + 1)) then most - (k + 1) else gB g d q most k
def gBold (g : Nat) (d : gT) (q : Nat) : Nat := gB g d q (min q (gL d)) (min q (gL d) - 1)
theorem gB_le (g : Nat) (d : gT) (q most : Nat) : ∀ k, gB g d q most k ≤ most
  | 0 => Nat.le_refl _
  | k + 1 => by
    have := gB_le g d q most k
    simp only [gB]
    split <;> omega
theorem gB_pos (g : Nat) (d : gT) (q most : Nat) : ∀ k, k < most → 1 ≤ gB g d q most k
  | 0, h => h
  | k + 1, h => by
    have := gB_pos g d q most k (by omega)
    simp only [gB]
    split <;> omega
/-- what a plan stakes; r: how often a doubled stake was doubled -/
def gPl (g : Nat) (d : gT) (td : Nat → Nat) (plan q r : Nat) : Nat := if plan = 0 then gBold g d q else if plan = 1 then 1 else if plan = 2 then min (td q) (min q (gL d)) else min (2 ^ r) (min q (gL d))
theorem gPl_le {g : Nat} {d : gT} {td : Nat → Nat} {plan q r : Nat} (hd : gOk d) (hq : 1 ≤ q) : gPl g d td plan q r ≤ min q (gL d) := by
  have h1 := gB_le g d q (min q (gL d)) (min q (gL d) - 1)
  have h2 := hd.2.2.2.2.1
  unfold gPl gBold
  repeat' split
  all_goals omega
/-- all stakes that have the best chance, as bits -/
def gBits (g : Nat) (d : gT) (v : Nat → Nat) (q top : Nat) : Nat → Int64
  | 0 => if 16 * v q = top then lN 1 else lN 0
  | s + 1 => if gVal g d v q (s + 1) = top then gBits g d v q top s ||| (lN 1 <<< ((nI (s + 1)).toInt64 &&& 63)) else gBits g d v q top s
theorem ldv {f : Nat → Int64} {v : Nat → Nat} {g j : Nat} (hf : ∀ j, j ≤ g → f j = lN (v j)) (hj : j ≤ g) (hg : g ≤ 32) : f (nI j).toNatClampNeg = lN (v j) := by
  rw [nI_clamp (by omega)]
  exact hf j hj
/-- a plan's stake at a purse; 0: nothing is played -/
def gSt (g : Nat) (d : gT) (td : Nat → Nat) (plan r q : Nat) : Nat := if 1 ≤ q ∧ q < g then gPl g d td plan q r else 0
theorem gSt_le {g : Nat} {d : gT} {td : Nat → Nat} {plan r q : Nat} (hd : gOk d) : gSt g d td plan r q ≤ min q (gL d) := by
  unfold gSt
  split
  · rename_i h; exact gPl_le hd h.1
  · omega
def gRg (plan : Nat) : Nat := if plan = 3 then 6 else 1
/-- what a plan brings with j turns left, at a rung and a purse -/
def gV (g : Nat) (d : gT) (S : Nat → Nat → Nat) (what rg : Nat) : Nat → Nat → Nat → Nat
  | 0, _, q => eW g what q
  | j + 1, r, q => if S r q = 0 then 16 * gV g d S what rg j r q else (if what = 3 then 16 ^ (j + 1) else 0) + gMix d (gV g d S what rg j 0 (min g (q + gWin d (S r q)))) (gV g d S what rg j (min (r + 1) (rg - 1)) (q - S r q))
theorem gV_le {g : Nat} {d : gT} {S : Nat → Nat → Nat} {what rg : Nat} (hg : g ≤ 32) (hd : gOk d) (hw : what ≠ 3) : ∀ j r q, q ≤ g → gV g d S what rg j r q ≤ 32 * 16 ^ j
  | 0, r, q, hq => by simpa [gV] using eW_le hq hg
  | j + 1, r, q, hq => by
    have h1 := gV_le (S := S) (rg := rg) hg hd hw j r q hq
    have h2 := gMix_le hd (gV_le (S := S) (rg := rg) hg hd hw j 0 (min g (q + gWin d (S r q))) (Nat.min_le_left _ _)) (gV_le (S := S) (rg := rg) hg hd hw j (min (r + 1) (rg - 1)) (q - S r q) (by omega))
    simp only [gV]
    rw [Nat.pow_succ]
    split
    · omega
    · (try rw [if_neg hw]); omega
theorem nI_and1 {a : Nat} (h : a < 2 ^ 31) : nI a &&& nI 1 = nI (a % 2) := pk_andN (by omega) 1 (by decide)
theorem sh16 : ∀ j, j ≤ 11 → lN 1 <<< ((nI (4 * (j + 1))).toInt64 &&& 63) = lN (16 ^ (j + 1))
  | 0, _ => by decide
  | 1, _ => by decide
  | 2, _ => by decide
  | 3, _ => by decide
  | 4, _ => by decide
  | 5, _ => by decide
  | 6, _ => by decide
  | 7, _ => by decide
  | 8, _ => by decide
  | 9, _ => by decide
  | 10, _ => by decide
  | 11, _ => by decide
