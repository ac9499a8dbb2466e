/-! FORWARD AND BACKWARD: the reference follows what may come, the class counts from the end; both bring the same -/
theorem sm_s (f : Nat → Nat) (k : Nat) : sm f (k + 1) = sm f k + f k := rfl
theorem sm_congr {f f' : Nat → Nat} : ∀ k, (∀ x, x < k → f x = f' x) → sm f k = sm f' k
  | 0, _ => rfl
  | k + 1, h => by
    simp only [sm]
    rw [sm_congr k (fun x hx => h x (by omega)), h k (by omega)]
theorem sm_add (f f' : Nat → Nat) : ∀ k, sm (fun x => f x + f' x) k = sm f k + sm f' k
  | 0 => rfl
  | k + 1 => by
    simp only [sm]
    rw [sm_add f f' k]
    omega
theorem sm_mul (c : Nat) (f : Nat → Nat) : ∀ k, sm (fun x => c * f x) k = c * sm f k
  | 0 => rfl
  | k + 1 => by
    simp only [sm]
    rw [sm_mul c f k, Nat.mul_add]
theorem sm_zero : ∀ k, sm (fun _ => 0) k = 0
  | 0 => rfl
  | k + 1 => by simp only [sm]; rw [sm_zero k]
theorem sm_ge {f : Nat → Nat} {x : Nat} : ∀ k, x < k → f x ≤ sm f k
  | k + 1, h => by
    simp only [sm]
    by_cases e : x = k
    · subst e; omega
    · have := sm_ge (f := f) (x := x) k (by omega)
      omega
theorem sm_up {f φ : Nat → Nat} {a v : Nat} : ∀ k, sm (fun x => va_up f a (f a + v) x * φ x) k = sm (fun x => f x * φ x) k + (if a < k then v * φ a else 0)
  | 0 => by simp [sm]
  | k + 1 => by
    simp only [sm]
    rw [sm_up k]
    by_cases e : k = a
    · subst e
      rw [vu_at, if_neg (by omega), if_pos (by omega), Nat.add_mul]
      omega
    · rw [vu_no e]
      by_cases h : a < k
      · rw [if_pos h, if_pos (by omega)]; omega
      · rw [if_neg h, if_neg (by omega)]; omega
/-- sums by rows of 65 -/
theorem sm_app (f : Nat → Nat) (a : Nat) : ∀ b, sm f (a + b) = sm f a + sm (fun x => f (a + x)) b
  | 0 => by simp [sm]
  | b + 1 => by
    rw [← Nat.add_assoc]
    simp only [sm]
    rw [sm_app f a b]
    omega
theorem sm_rows (N e : Nat → Nat) : ∀ K, sm (fun x => N x * e (x / 65)) (65 * K) = sm (fun p => e p * sm (fun w => N (65 * p + w)) 65) K
  | 0 => rfl
  | K + 1 => by
    rw [Nat.mul_succ, sm_app, sm_s _ K, sm_rows N e K, ← sm_mul]
    congr 1
    apply sm_congr
    intro x hx
    rw [show (65 * K + x) / 65 = K by omega, Nat.mul_comm]
theorem sm_one (W : Nat → Nat) (p0 : Nat) : ∀ K, p0 < K → sm (fun p => (if p = p0 then 1 else 0) * W p) K = W p0
  | K + 1, h => by
    simp only [sm]
    by_cases e : K = p0
    · subst e
      have h0 : sm (fun p => (if p = K then 1 else 0) * W p) K = 0 := by
        rw [sm_congr K (f' := fun _ => 0) (fun x hx => by rw [if_neg (by omega), Nat.zero_mul]), sm_zero]
      rw [h0, if_pos rfl]; omega
    · rw [sm_one W p0 K (by omega), if_neg e]; omega
theorem sm_cut {f : Nat → Nat} {a : Nat} : ∀ b, (∀ x, a ≤ x → x < a + b → f x = 0) → sm f (a + b) = sm f a
  | 0, _ => rfl
  | b + 1, h => by
    rw [← Nat.add_assoc]
    simp only [sm]
    rw [sm_cut b (fun x h1 h2 => h x h1 (by omega)), h (a + b) (by omega) (by omega)]
    omega
/-- one turn, from a state 65 * purse + wanted stake -/
def fS (g : Nat) (d : gT) (td : Nat → Nat) (plan x : Nat) : Nat := if x / 65 = 0 ∨ x / 65 = g then 0 else if plan = 3 then min (x % 65) (min (x / 65) (gL d)) else gPl g d td plan (x / 65) 0
def fWn (g : Nat) (d : gT) (td : Nat → Nat) (plan x : Nat) : Nat := 65 * min g (x / 65 + gWin d (fS g d td plan x)) + 1
def fLs (g : Nat) (d : gT) (td : Nat → Nat) (plan x : Nat) : Nat := 65 * (x / 65 - fS g d td plan x) + (if plan = 3 then 2 * fS g d td plan x else 1)
def fAdd (f : Nat → Nat) (x v : Nat) : Nat → Nat := va_up f x (f x + v)
def fT (g : Nat) (d : gT) (td : Nat → Nat) (plan : Nat) (N : Nat → Nat) : Nat → Nat → Nat
  | 0 => fun _ => 0
  | m + 1 => if N m = 0 then fT g d td plan N m else if fS g d td plan m = 0 then fAdd (fT g d td plan N m) m (16 * N m) else fAdd (fAdd (fT g d td plan N m) (fWn g d td plan m) (gC d * N m)) (fLs g d td plan m) ((16 - gC d) * N m)
def fSo (g : Nat) (d : gT) (td : Nat → Nat) (plan : Nat) (N : Nat → Nat) : Nat → Nat
  | 0 => 0
  | m + 1 => if N m = 0 then fSo g d td plan N m else if fS g d td plan m = 0 then fSo g d td plan N m else fSo g d td plan N m + N m
def fNow (g : Nat) (d : gT) (td : Nat → Nat) (plan q : Nat) : Nat → Nat → Nat
  | 0 => fun x => if x = 65 * q + 1 then 1 else 0
  | k + 1 => fT g d td plan (fNow g d td plan q k) 2145
def fPd (g : Nat) (d : gT) (td : Nat → Nat) (plan q : Nat) : Nat → Nat
  | 0 => 0
  | k + 1 => 16 * fPd g d td plan q k + 16 * fSo g d td plan (fNow g d td plan q k) 2145
section FD
variable {g : Nat} {d : gT} {td : Nat → Nat} {plan : Nat}
theorem fS_le (hd : gOk d) (x : Nat) : fS g d td plan x ≤ min (x / 65) (gL d) := by
  unfold fS
  split
  · omega
  · split
    · omega
    · exact gPl_le hd (by omega)
theorem fS_in (hd : gOk d) {x : Nat} (hx : x / 65 ≤ g) (hs : fS g d td plan x ≠ 0) : 1 ≤ x / 65 ∧ x / 65 < g := by
  unfold fS at hs
  split at hs
  · exact absurd rfl hs
  · omega
theorem fWn_lt (hg : g ≤ 32) (x : Nat) : fWn g d td plan x < 2145 ∧ fWn g d td plan x / 65 ≤ g := by
  unfold fWn
  omega
theorem fLs_lt (hg : g ≤ 32) (hd : gOk d) {x : Nat} (hx : x / 65 ≤ g) (hs : fS g d td plan x ≠ 0) : fLs g d td plan x < 2145 ∧ fLs g d td plan x / 65 ≤ g := by
  have h1 := fS_le (g := g) (td := td) (plan := plan) hd x
  have h2 := fS_in hd hx hs
  have h3 := hd.2.2.2.2.2
  unfold fLs
  split <;> omega
/-- who is somewhere is at a purse up to the goal -/
def fSup (g : Nat) (N : Nat → Nat) : Prop := ∀ x, N x ≠ 0 → x < 2145 ∧ x / 65 ≤ g
theorem fAdd_sup {N : Nat → Nat} {x v : Nat} (h : fSup g N) (hx : x < 2145 ∧ x / 65 ≤ g) : fSup g (fAdd N x v) := by
  intro y hy
  unfold fAdd at hy
  by_cases e : y = x
  · subst e; exact hx
  · rw [vu_no e] at hy; exact h y hy
theorem fT_sup (hg : g ≤ 32) (hd : gOk d) {N : Nat → Nat} (hN : fSup g N) : ∀ m, fSup g (fT g d td plan N m)
  | 0 => fun x hx => absurd rfl hx
  | m + 1 => by
    have ih := fT_sup hg hd hN m
    simp only [fT]
    split
    · exact ih
    · rename_i h0
      have hm := hN m h0
      split
      · exact fAdd_sup ih hm
      · rename_i hs
        exact fAdd_sup (fAdd_sup ih (fWn_lt hg m)) (fLs_lt hg hd hm.2 hs)
theorem fNow_sup (hg : g ≤ 32) (hd : gOk d) {q : Nat} (hq : q ≤ g) : ∀ k, fSup g (fNow g d td plan q k)
  | 0 => by
    intro x hx
    simp only [fNow] at hx
    split at hx
    · omega
    · exact absurd rfl hx
  | k + 1 => fT_sup hg hd (fNow_sup hg hd hq k) 2145
/-- what a turn makes of worths -/
def fP (g : Nat) (d : gT) (td : Nat → Nat) (plan : Nat) (φ : Nat → Nat) (x : Nat) : Nat := if fS g d td plan x = 0 then 16 * φ x else gC d * φ (fWn g d td plan x) + (16 - gC d) * φ (fLs g d td plan x)
theorem fT_dual (hg : g ≤ 32) (hd : gOk d) {N : Nat → Nat} (hN : fSup g N) (φ : Nat → Nat) : ∀ m, sm (fun x => fT g d td plan N m x * φ x) 2145 = sm (fun x => N x * fP g d td plan φ x) m
  | 0 => by
    show sm (fun x => 0 * φ x) 2145 = 0
    rw [sm_congr 2145 (f' := fun _ => 0) (fun x _ => Nat.zero_mul _), sm_zero]
  | m + 1 => by
    have ih := fT_dual hg hd hN φ m
    rw [sm_s _ m]
    have e : fT g d td plan N (m + 1) = if N m = 0 then fT g d td plan N m else if fS g d td plan m = 0 then fAdd (fT g d td plan N m) m (16 * N m) else fAdd (fAdd (fT g d td plan N m) (fWn g d td plan m) (gC d * N m)) (fLs g d td plan m) ((16 - gC d) * N m) := rfl
    rw [e]
    by_cases h0 : N m = 0
    · rw [if_pos h0, ih, h0, Nat.zero_mul, Nat.add_zero]
    · have hm := hN m h0
      rw [if_neg h0]
      by_cases hs : fS g d td plan m = 0
      · rw [if_pos hs]
        unfold fAdd
        rw [sm_up, if_pos hm.1, ih]
        rw [show fP g d td plan φ m = 16 * φ m from if_pos hs]
        rw [show 16 * N m * φ m = N m * (16 * φ m) by rw [Nat.mul_comm 16, Nat.mul_assoc]]
      · rw [if_neg hs]
        unfold fAdd
        rw [sm_up, if_pos (fLs_lt hg hd hm.2 hs).1, sm_up, if_pos (fWn_lt hg m).1, ih]
        rw [show fP g d td plan φ m = gC d * φ (fWn g d td plan m) + (16 - gC d) * φ (fLs g d td plan m) from if_neg hs]
        rw [Nat.mul_add, ← Nat.mul_assoc, ← Nat.mul_assoc, Nat.mul_comm (N m), Nat.mul_comm (N m)]
        omega
theorem fNow_sum (hg : g ≤ 32) (hd : gOk d) {q : Nat} (hq : q ≤ g) : ∀ k, sm (fun x => fNow g d td plan q k x * 1) 2145 = 16 ^ k
  | 0 => sm_one (fun _ => 1) (65 * q + 1) 2145 (by omega)
  | k + 1 => by
    have h := fT_dual (d := d) (td := td) (plan := plan) hg hd (fNow_sup (td := td) (plan := plan) hg hd hq k) (fun _ => 1) 2145
    have e0 : fNow g d td plan q (k + 1) = fT g d td plan (fNow g d td plan q k) 2145 := rfl
    have e1 : ∀ x, fP g d td plan (fun _ => 1) x = 16 := fun x => by
      have hc := hd.2.1
      show (if fS g d td plan x = 0 then 16 * 1 else gC d * 1 + (16 - gC d) * 1) = 16
      split <;> omega
    rw [e0, h, sm_congr 2145 (f' := fun x => 16 * (fNow g d td plan q k x * 1)) (fun x _ => by rw [e1]; omega), sm_mul, fNow_sum hg hd hq k, Nat.pow_succ]
    omega
theorem fNow_le (hg : g ≤ 32) (hd : gOk d) {q : Nat} (hq : q ≤ g) {k : Nat} (hk : k ≤ 12) {x : Nat} (hx : x < 2145) : fNow g d td plan q k x ≤ 2 ^ 48 := by
  have h1 := fNow_sum (td := td) (plan := plan) hg hd hq k
  have h2 := sm_ge (f := fun x => fNow g d td plan q k x * 1) 2145 hx
  have h3 := pow16_le hk
  have e : 16 ^ 12 = 2 ^ 48 := by decide
  simp only [Nat.mul_one] at h1 h2
  omega
/-- the worth of a state, with j turns left -/
def uV (g : Nat) (d : gT) (td : Nat → Nat) (plan what : Nat) : Nat → Nat → Nat
  | 0 => fun x => eW g what (x / 65)
  | j + 1 => fun x => (if fS g d td plan x = 0 then 0 else if what = 3 then 16 ^ (j + 1) else 0) + fP g d td plan (uV g d td plan what j) x
theorem fSo_sum (N : Nat → Nat) (c : Nat) : ∀ m, sm (fun x => N x * (if fS g d td plan x = 0 then 0 else c)) m = fSo g d td plan N m * c
  | 0 => by
    show 0 = 0 * c
    rw [Nat.zero_mul]
  | m + 1 => by
    have e : fSo g d td plan N (m + 1) = if N m = 0 then fSo g d td plan N m else if fS g d td plan m = 0 then fSo g d td plan N m else fSo g d td plan N m + N m := rfl
    rw [sm_s _ m, fSo_sum N c m, e]
    by_cases h0 : N m = 0
    · rw [if_pos h0, h0, Nat.zero_mul, Nat.add_zero]
    · rw [if_neg h0]
      by_cases hs : fS g d td plan m = 0
      · rw [if_pos hs, if_pos hs, Nat.mul_zero, Nat.add_zero]
      · rw [if_neg hs, if_neg hs, Nat.add_mul]
theorem flow (hg : g ≤ 32) (hd : gOk d) {q : Nat} (hq : q ≤ g) (what : Nat) : ∀ k j, (if what = 3 then fPd g d td plan q k * 16 ^ j else 0) + sm (fun x => fNow g d td plan q k x * uV g d td plan what j x) 2145 = sm (fun x => fNow g d td plan q 0 x * uV g d td plan what (j + k) x) 2145
  | 0, j => by
    have e1 : fPd g d td plan q 0 = 0 := rfl
    rw [e1, Nat.zero_mul, Nat.add_zero]
    split <;> omega
  | k + 1, j => by
    have ih := flow hg hd hq what k (j + 1)
    rw [show j + 1 + k = j + (k + 1) by omega] at ih
    rw [← ih]
    have e0 : fNow g d td plan q (k + 1) = fT g d td plan (fNow g d td plan q k) 2145 := rfl
    have e1 : fPd g d td plan q (k + 1) = 16 * fPd g d td plan q k + 16 * fSo g d td plan (fNow g d td plan q k) 2145 := rfl
    have h1 := fT_dual (d := d) (td := td) (plan := plan) hg hd (fNow_sup (td := td) (plan := plan) hg hd hq k) (uV g d td plan what j) 2145
    have h2 := fSo_sum (g := g) (d := d) (td := td) (plan := plan) (fNow g d td plan q k) (if what = 3 then 16 ^ (j + 1) else 0) 2145
    have h3 : sm (fun x => fNow g d td plan q k x * uV g d td plan what (j + 1) x) 2145 = sm (fun x => fNow g d td plan q k x * (if fS g d td plan x = 0 then 0 else if what = 3 then 16 ^ (j + 1) else 0)) 2145 + sm (fun x => fNow g d td plan q k x * fP g d td plan (uV g d td plan what j) x) 2145 := by
      rw [← sm_add]
      apply sm_congr
      intro x _
      exact Nat.mul_add _ _ _
    rw [h3, h2, e0, e1, h1]
    by_cases hw : what = 3
    · rw [if_pos hw, if_pos hw, if_pos hw, Nat.add_mul, Nat.pow_succ]
      rw [show 16 * fPd g d td plan q k * 16 ^ j = fPd g d td plan q k * (16 ^ j * 16) by rw [Nat.mul_comm 16, Nat.mul_assoc, Nat.mul_comm 16]]
      rw [show 16 * fSo g d td plan (fNow g d td plan q k) 2145 * 16 ^ j = fSo g d td plan (fNow g d td plan q k) 2145 * (16 ^ j * 16) by rw [Nat.mul_comm 16, Nat.mul_assoc, Nat.mul_comm 16]]
      omega
    · rw [if_neg hw, if_neg hw, if_neg hw]; omega
/-- a wanted stake and a rung that stand for each other -/
def fRel (d : gT) (plan p w r : Nat) : Prop := (plan = 3 → min w (min p (gL d)) = min (2 ^ r) (min p (gL d)) ∧ r ≤ 5) ∧ (plan ≠ 3 → r = 0)
theorem two_le {r : Nat} (h : r ≤ 5) : 1 ≤ 2 ^ r ∧ 2 ^ r ≤ 32 := ⟨Nat.one_le_two_pow, Nat.pow_le_pow_right (by decide) h⟩
theorem uV_gV (hg : g ≤ 32) (hd : gOk d) (hpl : plan ≤ 3) (what : Nat) : ∀ j p w r, p ≤ g → w < 65 → fRel d plan p w r → uV g d td plan what j (65 * p + w) = gV g d (gSt g d td plan) what (gRg plan) j r p
  | 0, p, w, r, hp, hw, hr => by
    simp only [uV, gV]
    rw [show (65 * p + w) / 65 = p by omega]
  | j + 1, p, w, r, hp, hw, hr => by
    have eD : (65 * p + w) / 65 = p := by omega
    have eM : (65 * p + w) % 65 = w := by omega
    have hL1 := hd.2.2.2.2.1
    have hL2 := hd.2.2.2.2.2
    have eS : fS g d td plan (65 * p + w) = gSt g d td plan r p := by
      unfold fS gSt
      rw [eD, eM]
      by_cases h0 : p = 0 ∨ p = g
      · rw [if_pos h0, if_neg (by omega)]
      · rw [if_neg h0, if_pos (show 1 ≤ p ∧ p < g by omega)]
        by_cases h3 : plan = 3
        · rw [if_pos h3, (hr.1 h3).1]
          unfold gPl
          rw [if_neg (by omega), if_neg (by omega), if_neg (by omega)]
        · rw [if_neg h3, hr.2 h3]
    simp only [uV, gV]
    unfold fP
    rw [eS]
    by_cases hs : gSt g d td plan r p = 0
    · rw [if_pos hs, if_pos hs, if_pos hs, uV_gV hg hd hpl what j p w r hp hw hr]
      omega
    · rw [if_neg hs, if_neg hs, if_neg hs]
      have hin : 1 ≤ p ∧ p < g := by
        unfold gSt at hs
        split at hs
        · assumption
        · exact absurd rfl hs
      have hsl := gSt_le (g := g) (td := td) (plan := plan) (r := r) (q := p) hd
      have e1 : uV g d td plan what j (fWn g d td plan (65 * p + w)) = gV g d (gSt g d td plan) what (gRg plan) j 0 (min g (p + gWin d (gSt g d td plan r p))) := by
        unfold fWn
        rw [eS, eD]
        exact uV_gV hg hd hpl what j _ 1 0 (by omega) (by omega) ⟨fun _ => ⟨rfl, by omega⟩, fun _ => rfl⟩
      have e2 : uV g d td plan what j (fLs g d td plan (65 * p + w)) = gV g d (gSt g d td plan) what (gRg plan) j (min (r + 1) (gRg plan - 1)) (p - gSt g d td plan r p) := by
        unfold fLs
        rw [eS, eD]
        refine uV_gV hg hd hpl what j _ _ _ (by omega) (by split <;> omega) ⟨fun h3 => ?_, fun h3 => ?_⟩
        · have hr3 := hr.1 h3
          have eR : gRg plan = 6 := if_pos h3
          have eg : gSt g d td plan r p = min (2 ^ r) (min p (gL d)) := by
            unfold gSt
            rw [if_pos hin]
            unfold gPl
            rw [if_neg (by omega), if_neg (by omega), if_neg (by omega)]
          rw [if_pos h3, eR]
          have t1 := two_le hr3.2
          refine ⟨?_, by omega⟩
          by_cases hr5 : r = 5
          · subst hr5
            rw [show min (5 + 1) (6 - 1) = 5 by omega]
            omega
          · rw [show min (r + 1) (6 - 1) = r + 1 by omega, Nat.pow_succ]
            omega
        · have eR : gRg plan = 1 := if_neg h3
          rw [eR]; omega
      rw [e1, e2]
      rfl
/-- what the reference follows to its end is what the class counts -/
theorem flow_end (hg : g ≤ 32) (hd : gOk d) (hpl : plan ≤ 3) {q : Nat} (hq : q ≤ g) (what t : Nat) : (if what = 3 then fPd g d td plan q t else 0) + sm (fun x => fNow g d td plan q t x * eW g what (x / 65)) 2145 = gV g d (gSt g d td plan) what (gRg plan) t 0 q := by
  have h := flow (td := td) (plan := plan) hg hd hq what t 0
  rw [Nat.zero_add] at h
  have h1 : sm (fun x => fNow g d td plan q 0 x * uV g d td plan what t x) 2145 = uV g d td plan what t (65 * q + 1) := sm_one (fun x => uV g d td plan what t x) (65 * q + 1) 2145 (by omega)
  rw [h1, uV_gV hg hd hpl what t q 1 0 hq (by omega) ⟨fun _ => ⟨rfl, by omega⟩, fun _ => rfl⟩] at h
  rw [← h, Nat.pow_zero, Nat.mul_one]
  rfl
theorem end_0 (hg : g ≤ 32) (hd : gOk d) (hpl : plan ≤ 3) {q : Nat} (hq : q ≤ g) (t : Nat) : sm (fun w => fNow g d td plan q t (65 * g + w)) 65 = gV g d (gSt g d td plan) 0 (gRg plan) t 0 q := by
  have h := flow_end (td := td) hg hd hpl hq 0 t
  rw [if_neg (by decide), Nat.zero_add] at h
  rw [← h, show 2145 = 65 * 33 by decide, sm_rows (fun x => fNow g d td plan q t x) (fun p => eW g 0 p) 33]
  have := sm_one (fun p => sm (fun w => fNow g d td plan q t (65 * p + w)) 65) g 33 (by omega)
  exact this.symm
theorem end_1 (hg : g ≤ 32) (hd : gOk d) (hpl : plan ≤ 3) {q : Nat} (hq : q ≤ g) (t : Nat) : sm (fun w => fNow g d td plan q t (65 * 0 + w)) 65 = gV g d (gSt g d td plan) 1 (gRg plan) t 0 q := by
  have h := flow_end (td := td) hg hd hpl hq 1 t
  rw [if_neg (by decide), Nat.zero_add] at h
  rw [← h, show 2145 = 65 * 33 by decide, sm_rows (fun x => fNow g d td plan q t x) (fun p => eW g 1 p) 33]
  have := sm_one (fun p => sm (fun w => fNow g d td plan q t (65 * p + w)) 65) 0 33 (by omega)
  exact this.symm
theorem end_2 (hg : g ≤ 32) (hd : gOk d) (hpl : plan ≤ 3) {q : Nat} (hq : q ≤ g) (t : Nat) : sm (fun p => p * sm (fun w => fNow g d td plan q t (65 * p + w)) 65) (g + 1) = gV g d (gSt g d td plan) 2 (gRg plan) t 0 q := by
  have h := flow_end (td := td) hg hd hpl hq 2 t
  rw [if_neg (by decide), Nat.zero_add] at h
  rw [← h, show 2145 = 65 * 33 by decide, sm_rows (fun x => fNow g d td plan q t x) (fun p => eW g 2 p) 33]
  have hc := sm_cut (f := fun p => p * sm (fun w => fNow g d td plan q t (65 * p + w)) 65) (a := g + 1) (32 - g) (fun x h1 h2 => by
    have h0 : sm (fun w => fNow g d td plan q t (65 * x + w)) 65 = 0 := by
      rw [sm_congr 65 (f' := fun _ => 0) (fun w hw => Classical.byContradiction fun hne => by have := (fNow_sup hg hd hq t (65 * x + w) hne).2; omega), sm_zero]
    show x * sm (fun w => fNow g d td plan q t (65 * x + w)) 65 = 0
    rw [h0, Nat.mul_zero])
  rw [show g + 1 + (32 - g) = 33 by omega] at hc
  exact hc.symm
theorem end_3 (hg : g ≤ 32) (hd : gOk d) (hpl : plan ≤ 3) {q : Nat} (hq : q ≤ g) (t : Nat) : fPd g d td plan q t = gV g d (gSt g d td plan) 3 (gRg plan) t 0 q := by
  have h := flow_end (td := td) hg hd hpl hq 3 t
  rw [if_pos rfl, sm_congr (f := fun x => fNow g d td plan q t x * eW g 3 (x / 65)) 2145 (f' := fun _ => 0) (fun x _ => Nat.mul_zero _), sm_zero, Nat.add_zero] at h
  exact h
end FD
