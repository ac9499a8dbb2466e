/-! writers: charts forgotten and covered; goal, horizon, told numbers; drop -/
set_option maxHeartbeats 4000000 in
set_option maxRecDepth 100000 in
/-- Chart.forget -/
theorem c_forget (l : Launch) (E : eT) (ws : va_W) (kc ac : Nat) (v0 v1 v2 v3 v4 : Value) (hC : ws[kc]? = some (ac, .inr (0, [v0, v1, v2, v3, v4]))) : mWv l yX0_forget wsX0_forget 0 0 0 0 E (ws) [.ref ac] (fun ws1 => ws1 = ws.set kc (ac, .inr (0, [v0, v1, v2, v3, .int (nI 0)]))) := by
  intro sz
  refine mW_of (cc := cX0_forget) (maxL := 1) (ret := none) (Qc := fun sz => va_Qv (fun ws1 => ws1 = ws.set kc (ac, .inr (0, [v0, v1, v2, v3, .int (nI 0)]))) (eAt E (va_A (ws) sz)) (va_A (ws) sz)) (by decide) rfl (Nat.le_of_ble_eq_true rfl) ?_
  intro p0 e0 s m below meth c0 ls hx hb hr hml hts hown hlocks hin hE hP hD hl
  have hS : va_S (va_A (ws) s.heap.size) s.heap s.heap [] := va_S.rf
  have hA : ∀ q, s.heap.size ≤ q → (va_A (ws) s.heap.size) q := fun q h => Or.inr h
  have hown : s.vm.findClass RX0 = some m.cls := hown
  have hl : lv_has ls 1 [(0, .ref ac)] := hl
  have hinX0 : ∀ w ∈ wsX00, w ∈ wsX0_forget := by decide +kernel
  refine lv_aload_n hx hb dX0_forget_0 rfl (lv_at hl 0 rfl) ?_
  refine lv_iconst (v := nI 0) hx hb dX0_forget_1 (by decide) ?_
  refine va_put (D := E.1) (ci := 0) (ty := .int) (C := RX0) (T := TX0) (N := 5) hx hb hts hinX0 tyX0 tyX0_ok nmX0 hown hE.1 hP hD hS kc hC rfl 4 (by decide) (hts (.fieldLink RX0 23 "StakeHouse$Chart" "known" "I") (by decide +kernel)) (fun _ h9 => h9) rfl (by decide +kernel) rfl rfl (Nat.le_of_ble_eq_true rfl) dX0_forget_2 (fun H locs hP hD hS => ?_)
  exact ret_Wv hx hb hr hlocks dX0_forget_5 hP hD hS rfl
set_option maxHeartbeats 4000000 in
set_option maxRecDepth 100000 in
/-- Chart.cover -/
theorem c_cover (l : Launch) (E : eT) (ws : va_W) (kc ac w0 o0 f0 t0 k0 f t : Nat) (hf0 : f0 < 2 ^ 31) (ht0 : t0 < 2 ^ 31) (hf : f < 2 ^ 31) (ht : t < 2 ^ 31) (hC : ws[kc]? = some (ac, .inr (0, [.int (nI w0), .ref o0, .int (nI f0), .int (nI t0), .int (nI k0)]))) : mWv l yX0_cover wsX0_cover 0 0 0 0 E (ws) [.ref ac, .int (nI f), .int (nI t)] (fun ws1 => (f = f0 ∧ t = t0 ∧ ws1 = ws) ∨ (¬ (f = f0 ∧ t = t0) ∧ ws1 = ws.set kc (ac, .inr (0, [.int (nI w0), .ref o0, .int (nI f), .int (nI t), .int (nI 0)])))) := by
  intro sz
  refine mW_of (cc := cX0_cover) (maxL := 3) (ret := none) (Qc := fun sz => va_Qv (fun ws1 => (f = f0 ∧ t = t0 ∧ ws1 = ws) ∨ (¬ (f = f0 ∧ t = t0) ∧ ws1 = ws.set kc (ac, .inr (0, [.int (nI w0), .ref o0, .int (nI f), .int (nI t), .int (nI 0)])))) (eAt E (va_A (ws) sz)) (va_A (ws) sz)) (by decide) rfl (Nat.le_of_ble_eq_true rfl) ?_
  intro p0 e0 s m below meth c0 ls hx hb hr hml hts hown hlocks hin hE hP hD hl
  have hS : va_S (va_A (ws) s.heap.size) s.heap s.heap [] := va_S.rf
  have hA : ∀ q, s.heap.size ≤ q → (va_A (ws) s.heap.size) q := fun q h => Or.inr h
  have hown : s.vm.findClass RX0 = some m.cls := hown
  have hl : lv_has ls 3 [(0, .ref ac), (1, .int (nI f)), (2, .int (nI t))] := hl
  have hinX0 : ∀ w ∈ wsX00, w ∈ wsX0_cover := by decide +kernel
  refine lv_iload_n hx hb dX0_cover_0 rfl (lv_at hl 1 rfl) ?_
  refine lv_aload_n hx hb dX0_cover_1 rfl (lv_at hl 0 rfl) ?_
  refine va_get (D := E.1) (ci := 0) (C := RX0) (T := TX0) (N := 5) hx hb hts hinX0 hown hE.1 hP kc hC rfl 2 (by decide) (hts (.fieldLink RX0 16 "StakeHouse$Chart" "first" "I") (by decide +kernel)) (fun _ h9 => h9) rfl dX0_cover_2 ?_
  refine n_ne hx hb (by omega) (by omega) 16 dX0_cover_5 (by decide) (fun c5 => ?_) (fun c5 => ?_)
  · skip
    have hlen : kc < ws.length := (List.getElem?_eq_some_iff.mp hC).1
    refine lv_aload_n hx hb dX0_cover_16 rfl (lv_at hl 0 rfl) ?_
    refine lv_iload_n hx hb dX0_cover_17 rfl (lv_at hl 1 rfl) ?_
    refine va_put (D := E.1) (ci := 0) (ty := .int) (C := RX0) (T := TX0) (N := 5) hx hb hts hinX0 tyX0 tyX0_ok nmX0 hown hE.1 hP hD hS kc hC rfl 2 (by decide) (hts (.fieldLink RX0 16 "StakeHouse$Chart" "first" "I") (by decide +kernel)) (fun _ h9 => h9) rfl (by decide +kernel) rfl rfl (Nat.le_of_ble_eq_true rfl) dX0_cover_18 (fun H locs hP hD hS => ?_)
    have hP : va_P E.1 vwCl (ws.set kc (ac, .inr (0, [.int (nI w0), .ref o0, .int (nI f), .int (nI t0), .int (nI k0)]))) H := hP
    have hD : va_D (va_A (ws) s.heap.size) (ws.set kc (ac, .inr (0, [.int (nI w0), .ref o0, .int (nI f), .int (nI t0), .int (nI k0)]))) := hD
    refine lv_aload_n hx hb dX0_cover_21 rfl (lv_at hl 0 rfl) ?_
    refine lv_iload_n hx hb dX0_cover_22 rfl (lv_at hl 2 rfl) ?_
    refine va_put (D := E.1) (ci := 0) (ty := .int) (C := RX0) (T := TX0) (N := 5) hx hb hts hinX0 tyX0 tyX0_ok nmX0 hown hE.1 hP hD hS kc (List.getElem?_set_self hlen) rfl 3 (by decide) (hts (.fieldLink RX0 20 "StakeHouse$Chart" "end" "I") (by decide +kernel)) (fun _ h9 => h9) rfl (by decide +kernel) rfl rfl (Nat.le_of_ble_eq_true rfl) dX0_cover_23 (fun H locs hP hD hS => ?_)
    have hP : va_P E.1 vwCl (ws.set kc (ac, .inr (0, [.int (nI w0), .ref o0, .int (nI f), .int (nI t), .int (nI k0)]))) H := (by rw [List.set_set] at hP; exact hP)
    have hD : va_D (va_A (ws) s.heap.size) (ws.set kc (ac, .inr (0, [.int (nI w0), .ref o0, .int (nI f), .int (nI t), .int (nI k0)]))) := (by rw [List.set_set] at hD; exact hD)
    refine lv_aload_n hx hb dX0_cover_26 rfl (lv_at hl 0 rfl) ?_
    refine lv_iconst (v := nI 0) hx hb dX0_cover_27 (by decide) ?_
    refine va_put (D := E.1) (ci := 0) (ty := .int) (C := RX0) (T := TX0) (N := 5) hx hb hts hinX0 tyX0 tyX0_ok nmX0 hown hE.1 hP hD hS kc (List.getElem?_set_self hlen) rfl 4 (by decide) (hts (.fieldLink RX0 23 "StakeHouse$Chart" "known" "I") (by decide +kernel)) (fun _ h9 => h9) rfl (by decide +kernel) rfl rfl (Nat.le_of_ble_eq_true rfl) dX0_cover_28 (fun H locs hP hD hS => ?_)
    have hP : va_P E.1 vwCl (ws.set kc (ac, .inr (0, [.int (nI w0), .ref o0, .int (nI f), .int (nI t), .int (nI 0)]))) H := (by rw [List.set_set] at hP; exact hP)
    have hD : va_D (va_A (ws) s.heap.size) (ws.set kc (ac, .inr (0, [.int (nI w0), .ref o0, .int (nI f), .int (nI t), .int (nI 0)]))) := (by rw [List.set_set] at hD; exact hD)
    exact ret_Wv hx hb hr hlocks dX0_cover_31 hP hD hS (Or.inr ⟨fun q => c5 q.1, rfl⟩)
  · skip
    refine lv_iload_n hx hb dX0_cover_8 rfl (lv_at hl 2 rfl) ?_
    refine lv_aload_n hx hb dX0_cover_9 rfl (lv_at hl 0 rfl) ?_
    refine va_get (D := E.1) (ci := 0) (C := RX0) (T := TX0) (N := 5) hx hb hts hinX0 hown hE.1 hP kc hC rfl 3 (by decide) (hts (.fieldLink RX0 20 "StakeHouse$Chart" "end" "I") (by decide +kernel)) (fun _ h9 => h9) rfl dX0_cover_10 ?_
    refine n_eq hx hb (by omega) (by omega) 31 dX0_cover_13 (by decide) (fun c13 => ?_) (fun c13 => ?_)
    · skip
      exact ret_Wv hx hb hr hlocks dX0_cover_31 hP hD hS (Or.inl ⟨c5, c13, rfl⟩)
    · skip
      have hlen : kc < ws.length := (List.getElem?_eq_some_iff.mp hC).1
      refine lv_aload_n hx hb dX0_cover_16 rfl (lv_at hl 0 rfl) ?_
      refine lv_iload_n hx hb dX0_cover_17 rfl (lv_at hl 1 rfl) ?_
      refine va_put (D := E.1) (ci := 0) (ty := .int) (C := RX0) (T := TX0) (N := 5) hx hb hts hinX0 tyX0 tyX0_ok nmX0 hown hE.1 hP hD hS kc hC rfl 2 (by decide) (hts (.fieldLink RX0 16 "StakeHouse$Chart" "first" "I") (by decide +kernel)) (fun _ h9 => h9) rfl (by decide +kernel) rfl rfl (Nat.le_of_ble_eq_true rfl) dX0_cover_18 (fun H locs hP hD hS => ?_)
      have hP : va_P E.1 vwCl (ws.set kc (ac, .inr (0, [.int (nI w0), .ref o0, .int (nI f), .int (nI t0), .int (nI k0)]))) H := hP
      have hD : va_D (va_A (ws) s.heap.size) (ws.set kc (ac, .inr (0, [.int (nI w0), .ref o0, .int (nI f), .int (nI t0), .int (nI k0)]))) := hD
      refine lv_aload_n hx hb dX0_cover_21 rfl (lv_at hl 0 rfl) ?_
      refine lv_iload_n hx hb dX0_cover_22 rfl (lv_at hl 2 rfl) ?_
      refine va_put (D := E.1) (ci := 0) (ty := .int) (C := RX0) (T := TX0) (N := 5) hx hb hts hinX0 tyX0 tyX0_ok nmX0 hown hE.1 hP hD hS kc (List.getElem?_set_self hlen) rfl 3 (by decide) (hts (.fieldLink RX0 20 "StakeHouse$Chart" "end" "I") (by decide +kernel)) (fun _ h9 => h9) rfl (by decide +kernel) rfl rfl (Nat.le_of_ble_eq_true rfl) dX0_cover_23 (fun H locs hP hD hS => ?_)
      have hP : va_P E.1 vwCl (ws.set kc (ac, .inr (0, [.int (nI w0), .ref o0, .int (nI f), .int (nI t), .int (nI k0)]))) H := (by rw [List.set_set] at hP; exact hP)
      have hD : va_D (va_A (ws) s.heap.size) (ws.set kc (ac, .inr (0, [.int (nI w0), .ref o0, .int (nI f), .int (nI t), .int (nI k0)]))) := (by rw [List.set_set] at hD; exact hD)
      refine lv_aload_n hx hb dX0_cover_26 rfl (lv_at hl 0 rfl) ?_
      refine lv_iconst (v := nI 0) hx hb dX0_cover_27 (by decide) ?_
      refine va_put (D := E.1) (ci := 0) (ty := .int) (C := RX0) (T := TX0) (N := 5) hx hb hts hinX0 tyX0 tyX0_ok nmX0 hown hE.1 hP hD hS kc (List.getElem?_set_self hlen) rfl 4 (by decide) (hts (.fieldLink RX0 23 "StakeHouse$Chart" "known" "I") (by decide +kernel)) (fun _ h9 => h9) rfl (by decide +kernel) rfl rfl (Nat.le_of_ble_eq_true rfl) dX0_cover_28 (fun H locs hP hD hS => ?_)
      have hP : va_P E.1 vwCl (ws.set kc (ac, .inr (0, [.int (nI w0), .ref o0, .int (nI f), .int (nI t), .int (nI 0)]))) H := (by rw [List.set_set] at hP; exact hP)
      have hD : va_D (va_A (ws) s.heap.size) (ws.set kc (ac, .inr (0, [.int (nI w0), .ref o0, .int (nI f), .int (nI t), .int (nI 0)]))) := (by rw [List.set_set] at hD; exact hD)
      exact ret_Wv hx hb hr hlocks dX0_cover_31 hP hD hS (Or.inr ⟨fun q => c13 q.2, rfl⟩)
set_option maxHeartbeats 4000000 in
set_option maxRecDepth 100000 in
/-- forgetCharts -/
theorem c_forgetCharts (l : Launch) (E : eT) (ad : Nat → Nat) (g hz n : Nat) (mk : Int64) (td : Nat → Int32) (gr : Nat → Option Nat) (cf ce ck : Nat → Nat) (rv : Nat → Nat → Int64) (st : Nat → Int32) (wo : Nat → Nat → Int64) (rest : va_W) : mWv l yX4_forgetCharts wsX4_forgetCharts 1 22 0 0 E (wX E ad g hz n mk td gr cf ce ck rv st wo ++ rest) [.ref (ad 0)] (fun ws1 => ws1 = wX E ad g hz n mk td gr cf ce (fun _ => 0) rv st wo ++ rest) := by
  intro sz
  refine mW_of (cc := cX4_forgetCharts) (maxL := 1) (ret := none) (Qc := fun sz => va_Qv (fun ws1 => ws1 = wX E ad g hz n mk td gr cf ce (fun _ => 0) rv st wo ++ rest) (eAt E (va_A (wX E ad g hz n mk td gr cf ce ck rv st wo ++ rest) sz)) (va_A (wX E ad g hz n mk td gr cf ce ck rv st wo ++ rest) sz)) (by decide) rfl (Nat.le_of_ble_eq_true rfl) ?_
  intro p0 e0 s m below meth c0 ls hx hb hr hml hts hown hlocks hin hE hP hD hl
  have hS : va_S (va_A (wX E ad g hz n mk td gr cf ce ck rv st wo ++ rest) s.heap.size) s.heap s.heap [] := va_S.rf
  have hA : ∀ q, s.heap.size ≤ q → (va_A (wX E ad g hz n mk td gr cf ce ck rv st wo ++ rest) s.heap.size) q := fun q h => Or.inr h
  have hown : s.vm.findClass RX4 = some m.cls := hown
  have hl : lv_has ls 1 [(0, .ref (ad 0))] := hl
  have hinX4 : ∀ w ∈ wsX40, w ∈ wsX4_forgetCharts := by decide +kernel
  have hinX0 : ∀ w ∈ wsX00, w ∈ wsX4_forgetCharts := by decide +kernel
  refine lv_aload_n hx hb dX4_forgetCharts_0 rfl (lv_at hl 0 rfl) ?_
  refine va_get (D := E.1) (ci := 4) (C := RX4) (T := TX4) (N := 11) hx hb hts hinX4 hown hE.1 hP 0 rfl rfl 2 (by decide) (hts (.fieldLink RX4 24 "StakeHouse" "bestChart" "LStakeHouse$Chart;") (by decide +kernel)) (fun _ h9 => h9) rfl dX4_forgetCharts_1 ?_
  refine cW_v (va_runV ⟨hx, hb, hml, hown, hts⟩ (c_forget l E _ 3 (ad 3) _ _ _ _ _ rfl _) (cwV 0 hts gX4_forgetCharts_X0_forget rfl rfl rfl (by decide +kernel) ⟨Nat.le_of_ble_eq_true rfl, Nat.le_of_ble_eq_true rfl⟩) (ePw_V hP hD hE (ci := 0) (k := 3) rfl rfl) rfl rfl hl.1 rfl (lv_room (Nat.le_of_ble_eq_true rfl)) dX4_forgetCharts_4 ⟨Nat.zero_le _, Nat.zero_le _⟩) hS hD hA (fun ws9 H locs hr9 hP hD hS => ?_)
  subst hr9
  have hP : va_P E.1 vwCl (wX E ad g hz n mk td gr cf ce (va_up ck 0 0) rv st wo ++ rest) H := hP
  have hD : va_D (va_A (wX E ad g hz n mk td gr cf ce ck rv st wo ++ rest) s.heap.size) (wX E ad g hz n mk td gr cf ce (va_up ck 0 0) rv st wo ++ rest) := hD
  refine lv_aload_n hx hb dX4_forgetCharts_7 rfl (lv_at hl 0 rfl) ?_
  refine va_get (D := E.1) (ci := 4) (C := RX4) (T := TX4) (N := 11) hx hb hts hinX4 hown hE.1 hP 0 rfl rfl 3 (by decide) (hts (.fieldLink RX4 28 "StakeHouse" "meanChart" "LStakeHouse$Chart;") (by decide +kernel)) (fun _ h9 => h9) rfl dX4_forgetCharts_8 ?_
  refine cW_v (va_runV ⟨hx, hb, hml, hown, hts⟩ (c_forget l E _ 4 (ad 4) _ _ _ _ _ rfl _) (cwV 0 hts gX4_forgetCharts_X0_forget rfl rfl rfl (by decide +kernel) ⟨Nat.le_of_ble_eq_true rfl, Nat.le_of_ble_eq_true rfl⟩) (ePw_V hP hD hE (ci := 0) (k := 4) rfl rfl) rfl rfl hl.1 rfl (lv_room (Nat.le_of_ble_eq_true rfl)) dX4_forgetCharts_11 ⟨Nat.zero_le _, Nat.zero_le _⟩) hS hD hA (fun ws9 H locs hr9 hP hD hS => ?_)
  subst hr9
  have hP : va_P E.1 vwCl (wX E ad g hz n mk td gr cf ce (va_up (va_up ck 0 0) 1 0) rv st wo ++ rest) H := hP
  have hD : va_D (va_A (wX E ad g hz n mk td gr cf ce ck rv st wo ++ rest) s.heap.size) (wX E ad g hz n mk td gr cf ce (va_up (va_up ck 0 0) 1 0) rv st wo ++ rest) := hD
  refine lv_aload_n hx hb dX4_forgetCharts_14 rfl (lv_at hl 0 rfl) ?_
  refine va_get (D := E.1) (ci := 4) (C := RX4) (T := TX4) (N := 11) hx hb hts hinX4 hown hE.1 hP 0 rfl rfl 4 (by decide) (hts (.fieldLink RX4 31 "StakeHouse" "aloneChart" "LStakeHouse$Chart;") (by decide +kernel)) (fun _ h9 => h9) rfl dX4_forgetCharts_15 ?_
  refine cW_v (va_runV ⟨hx, hb, hml, hown, hts⟩ (c_forget l E _ 5 (ad 5) _ _ _ _ _ rfl _) (cwV 0 hts gX4_forgetCharts_X0_forget rfl rfl rfl (by decide +kernel) ⟨Nat.le_of_ble_eq_true rfl, Nat.le_of_ble_eq_true rfl⟩) (ePw_V hP hD hE (ci := 0) (k := 5) rfl rfl) rfl rfl hl.1 rfl (lv_room (Nat.le_of_ble_eq_true rfl)) dX4_forgetCharts_18 ⟨Nat.zero_le _, Nat.zero_le _⟩) hS hD hA (fun ws9 H locs hr9 hP hD hS => ?_)
  subst hr9
  have hP : va_P E.1 vwCl (wX E ad g hz n mk td gr cf ce (fun _ => 0) rv st wo ++ rest) H := hP
  have hD : va_D (va_A (wX E ad g hz n mk td gr cf ce ck rv st wo ++ rest) s.heap.size) (wX E ad g hz n mk td gr cf ce (fun _ => 0) rv st wo ++ rest) := hD
  exact ret_Wv hx hb hr hlocks dX4_forgetCharts_21 hP hD hS rfl
set_option maxHeartbeats 4000000 in
set_option maxRecDepth 100000 in
/-- changeGoal -/
theorem c_changeGoal (l : Launch) (E : eT) (ad : Nat → Nat) (g hz n : Nat) (mk : Int64) (td : Nat → Int32) (gr : Nat → Option Nat) (cf ce ck : Nat → Nat) (rv : Nat → Nat → Int64) (st : Nat → Int32) (wo : Nat → Nat → Int64) (rest : va_W) (v : Nat) : mWi l yX4_changeGoal wsX4_changeGoal 2 50 0 0 E (wX E ad g hz n mk td gr cf ce ck rv st wo ++ rest) [.ref (ad 0), .int (nI v)] (fun r ws1 => r = nI g ∧ ws1 = wX E ad v hz n mk (fun _ => nI 0) gr cf ce (fun _ => 0) rv st wo ++ rest) := by
  intro sz
  refine mW_of (cc := cX4_changeGoal) (maxL := 4) (ret := (some .int)) (Qc := fun sz => va_Qi (fun r ws1 => r = nI g ∧ ws1 = wX E ad v hz n mk (fun _ => nI 0) gr cf ce (fun _ => 0) rv st wo ++ rest) (eAt E (va_A (wX E ad g hz n mk td gr cf ce ck rv st wo ++ rest) sz)) (va_A (wX E ad g hz n mk td gr cf ce ck rv st wo ++ rest) sz)) (by decide) rfl (Nat.le_of_ble_eq_true rfl) ?_
  intro p0 e0 s m below meth c0 ls hx hb hr hml hts hown hlocks hin hE hP hD hl
  have hS : va_S (va_A (wX E ad g hz n mk td gr cf ce ck rv st wo ++ rest) s.heap.size) s.heap s.heap [] := va_S.rf
  have hA : ∀ q, s.heap.size ≤ q → (va_A (wX E ad g hz n mk td gr cf ce ck rv st wo ++ rest) s.heap.size) q := fun q h => Or.inr h
  have hown : s.vm.findClass RX4 = some m.cls := hown
  have hl : lv_has ls 4 [(0, .ref (ad 0)), (1, .int (nI v))] := hl
  have hinX4 : ∀ w ∈ wsX40, w ∈ wsX4_changeGoal := by decide +kernel
  refine lv_aload_n hx hb dX4_changeGoal_0 rfl (lv_at hl 0 rfl) ?_
  refine va_get (D := E.1) (ci := 4) (C := RX4) (T := TX4) (N := 11) hx hb hts hinX4 hown hE.1 hP 0 rfl rfl 7 (by decide) (hts (.fieldLink RX4 42 "StakeHouse" "goal" "I") (by decide +kernel)) (fun _ h9 => h9) rfl dX4_changeGoal_1 ?_
  refine st_i1 hx hb 2 dX4_changeGoal_4 rfl hl (by decide) rfl (fun ls hl => ?_)
  refine lv_aload_n hx hb dX4_changeGoal_5 rfl (lv_at hl 0 rfl) ?_
  refine lv_iload_n hx hb dX4_changeGoal_6 rfl (lv_at hl 1 rfl) ?_
  refine va_put (D := E.1) (ci := 4) (ty := .int) (C := RX4) (T := TX4) (N := 11) hx hb hts hinX4 tyX4 tyX4_ok nmX4 hown hE.1 hP hD hS 0 rfl rfl 7 (by decide) (hts (.fieldLink RX4 42 "StakeHouse" "goal" "I") (by decide +kernel)) (fun _ h9 => h9) rfl (by decide +kernel) rfl rfl (Nat.le_of_ble_eq_true rfl) dX4_changeGoal_7 (fun H locs hP hD hS => ?_)
  have hP : va_P E.1 vwCl (wX E ad v hz n mk td gr cf ce ck rv st wo ++ rest) H := hP
  have hD : va_D (va_A (wX E ad g hz n mk td gr cf ce ck rv st wo ++ rest) s.heap.size) (wX E ad v hz n mk td gr cf ce ck rv st wo ++ rest) := hD
  refine lv_iconst (v := nI 0) hx hb dX4_changeGoal_10 (by decide) ?_
  refine st_i1 hx hb 3 dX4_changeGoal_11 rfl hl (by decide) rfl (fun ls hl => ?_)
  refine wLoopH 33 0 (fun i H locs ls => ∃ t1 : Nat → Int32, (∀ j, j < i → t1 j = nI 0) ∧ va_P E.1 vwCl (wX E ad v hz n mk t1 gr cf ce ck rv st wo ++ rest) H ∧ va_D (va_A (wX E ad g hz n mk td gr cf ce ck rv st wo ++ rest) s.heap.size) (wX E ad v hz n mk t1 gr cf ce ck rv st wo ++ rest) ∧ va_S (va_A (wX E ad g hz n mk td gr cf ce ck rv st wo ++ rest) s.heap.size) s.heap H locs ∧ lv_has ls 4 [(0, .ref (ad 0)), (1, .int (nI v)), (2, .int (nI g)), (3, .int (nI i))]) (Nat.zero_le _) (fun i H locs ls hi_i hI ih => ?_) (fun H locs ls hI => ?_) ⟨td, fun j hj => absurd hj (by omega), hP, hD, hS, hl⟩
  · skip
    obtain ⟨t1, ht1, hP, hD, hS, hl⟩ := hI
    refine lv_iload_n hx hb dX4_changeGoal_12 rfl (lv_at hl 3 rfl) ?_
    refine lv_bipush (v := nI 33) hx hb dX4_changeGoal_13 (by decide) ?_
    refine n_ge hx hb (by omega) (by omega) 31 dX4_changeGoal_15 (by decide) (fun c15 => ?_) (fun c15 => ?_)
    · skip
      exact absurd c15 (by omega)
    · skip
      refine lv_aload_n hx hb dX4_changeGoal_18 rfl (lv_at hl 0 rfl) ?_
      refine va_get (D := E.1) (ci := 4) (C := RX4) (T := TX4) (N := 11) hx hb hts hinX4 hown hE.1 hP 0 rfl rfl 1 (by decide) (hts (.fieldLink RX4 15 "StakeHouse" "told" "[I") (by decide +kernel)) (fun _ h9 => h9) rfl dX4_changeGoal_19 ?_
      refine lv_iload_n hx hb dX4_changeGoal_22 rfl (lv_at hl 3 rfl) ?_
      refine lv_iconst (v := nI 0) hx hb dX4_changeGoal_23 (by decide) ?_
      refine va_iast hx hb hE.1 hP hD hS 2 0 rfl rfl (vp_in_nI (by omega) (by decide)) dX4_changeGoal_24 (fun H locs hP hD hS => ?_)
      have hP : va_P E.1 vwCl (wX E ad v hz n mk (upd t1 (nI i).toNatClampNeg (nI 0)) gr cf ce ck rv st wo ++ rest) H := hP
      have hD : va_D (va_A (wX E ad g hz n mk td gr cf ce ck rv st wo ++ rest) s.heap.size) (wX E ad v hz n mk (upd t1 (nI i).toNatClampNeg (nI 0)) gr cf ce ck rv st wo ++ rest) := hD
      refine st_inc hx hb 3 dX4_changeGoal_25 hl rfl (nI_1 _) (by decide) rfl (fun ls hl => ?_)
      refine lv_goto (tgt := 12) hx hb dX4_changeGoal_28 (by decide) ?_
      refine ih _ _ _ ⟨_, fun j hj => ?_, hP, hD, hS, hl⟩
      rw [nI_clamp (by omega)]
      by_cases hji : j = i
      · subst hji; exact pk_us
      · rw [pk_un hji]; exact ht1 j (by omega)
  · skip
    obtain ⟨t1, ht1, hP, hD, hS, hl⟩ := hI
    have hP : va_P E.1 vwCl (wX E ad v hz n mk (fun _ => nI 0) gr cf ce ck rv st wo ++ rest) H := va_P_re hP (k := 2) rfl (xI_congr (f' := fun _ => nI 0) ht1)
    have hD : va_D (va_A (wX E ad g hz n mk td gr cf ce ck rv st wo ++ rest) s.heap.size) (wX E ad v hz n mk (fun _ => nI 0) gr cf ce ck rv st wo ++ rest) := va_D.set (p := 2) (e0 := xI E 33 t1) (e := xI E 33 (fun _ => nI 0)) hD rfl
    refine lv_iload_n hx hb dX4_changeGoal_12 rfl (lv_at hl 3 rfl) ?_
    refine lv_bipush (v := nI 33) hx hb dX4_changeGoal_13 (by decide) ?_
    refine n_ge hx hb (by omega) (by omega) 31 dX4_changeGoal_15 (by decide) (fun c15 => ?_) (fun c15 => ?_)
    · skip
      refine lv_aload_n hx hb dX4_changeGoal_31 rfl (lv_at hl 0 rfl) ?_
      refine cW_v (va_runV ⟨hx, hb, hml, hown, hts⟩ (c_forgetCharts l E ad v hz n mk (fun _ => nI 0) gr cf ce ck rv st wo rest _) (cwV 0 hts gX4_changeGoal_X4_forgetCharts rfl rfl rfl (by decide +kernel) ⟨Nat.le_of_ble_eq_true rfl, Nat.le_of_ble_eq_true rfl⟩) (ePw_V hP hD hE (ci := 4) (k := 0) rfl rfl) rfl rfl hl.1 rfl (lv_room (Nat.le_of_ble_eq_true rfl)) dX4_changeGoal_32 ⟨Nat.zero_le _, Nat.zero_le _⟩) hS hD hA (fun ws9 H locs hr9 hP hD hS => ?_)
      subst hr9
      refine lv_iload_n hx hb dX4_changeGoal_35 rfl (lv_at hl 2 rfl) ?_
      exact ret_Wi hx hb hr hlocks dX4_changeGoal_36 hP hD hS ⟨rfl, rfl⟩
    · skip
      exact absurd c15 (by omega)
/-- set's answer, and what becomes of goal, horizon, told numbers, charts -/
def set_of (g hz : Nat) (td : Nat → Int32) (ck : Nat → Nat) (wv vv : Int32) (r : Int32) (g1 hz1 : Nat) (td1 : Nat → Int32) (ck1 : Nat → Nat) : Prop := (∃ v : Nat, wv = 0 ∧ vv = nI v ∧ 2 ≤ v ∧ v ≤ 32 ∧ r = nI g ∧ g1 = v ∧ hz1 = hz ∧ td1 = (fun _ => nI 0) ∧ ck1 = (fun _ => 0)) ∨ (∃ v : Nat, wv = 1 ∧ vv = nI v ∧ v ≤ 12 ∧ r = nI hz ∧ g1 = g ∧ hz1 = v ∧ td1 = td ∧ ck1 = ck) ∨ ((¬ (wv = 0 ∧ nI 2 ≤ vv ∧ vv ≤ nI 32)) ∧ (¬ (wv = 1 ∧ nI 0 ≤ vv ∧ vv ≤ nI 12)) ∧ r = -1 ∧ g1 = g ∧ hz1 = hz ∧ td1 = td ∧ ck1 = ck)
set_option maxHeartbeats 4000000 in
set_option maxRecDepth 100000 in
/-- set -/
theorem c_set (l : Launch) (E : eT) (ad : Nat → Nat) (g hz n : Nat) (mk : Int64) (td : Nat → Int32) (gr : Nat → Option Nat) (cf ce ck : Nat → Nat) (rv : Nat → Nat → Int64) (st : Nat → Int32) (wo : Nat → Nat → Int64) (rest : va_W) (wv vv : Int32) : mWi l yX4_set wsX4_set 3 80 0 0 E (wX E ad g hz n mk td gr cf ce ck rv st wo ++ rest) [.ref (ad 0), .int wv, .int vv] (fun r ws1 => ∃ (g1 hz1 : Nat) (td1 : Nat → Int32) (ck1 : Nat → Nat), set_of g hz td ck wv vv r g1 hz1 td1 ck1 ∧ ws1 = wX E ad g1 hz1 n mk td1 gr cf ce ck1 rv st wo ++ rest) := by
  intro sz
  refine mW_of (cc := cX4_set) (maxL := 4) (ret := (some .int)) (Qc := fun sz => va_Qi (fun r ws1 => ∃ (g1 hz1 : Nat) (td1 : Nat → Int32) (ck1 : Nat → Nat), set_of g hz td ck wv vv r g1 hz1 td1 ck1 ∧ ws1 = wX E ad g1 hz1 n mk td1 gr cf ce ck1 rv st wo ++ rest) (eAt E (va_A (wX E ad g hz n mk td gr cf ce ck rv st wo ++ rest) sz)) (va_A (wX E ad g hz n mk td gr cf ce ck rv st wo ++ rest) sz)) (by decide) rfl (Nat.le_of_ble_eq_true rfl) ?_
  intro p0 e0 s m below meth c0 ls hx hb hr hml hts hown hlocks hin hE hP hD hl
  have hS : va_S (va_A (wX E ad g hz n mk td gr cf ce ck rv st wo ++ rest) s.heap.size) s.heap s.heap [] := va_S.rf
  have hA : ∀ q, s.heap.size ≤ q → (va_A (wX E ad g hz n mk td gr cf ce ck rv st wo ++ rest) s.heap.size) q := fun q h => Or.inr h
  have hown : s.vm.findClass RX4 = some m.cls := hown
  have hl : lv_has ls 4 [(0, .ref (ad 0)), (1, .int wv), (2, .int vv)] := hl
  have hinX4 : ∀ w ∈ wsX40, w ∈ wsX4_set := by decide +kernel
  refine lv_iload_n hx hb dX4_set_0 rfl (lv_at hl 1 rfl) ?_
  refine lv_if_ne (tgt := 20) hx hb dX4_set_1 (by decide) (fun c1 => ?_) (fun c1 => ?_)
  · skip
    refine lv_iload_n hx hb dX4_set_20 rfl (lv_at hl 1 rfl) ?_
    refine lv_iconst (v := nI 1) hx hb dX4_set_21 (by decide) ?_
    refine lv_icmp_ne (tgt := 47) hx hb dX4_set_22 (by decide) (fun c22 => ?_) (fun c22 => ?_)
    · skip
      refine lv_iconst (v := (-1)) hx hb dX4_set_47 (by decide) ?_
      exact ret_Wi hx hb hr hlocks dX4_set_48 hP hD hS ⟨g, hz, td, ck, Or.inr (Or.inr ⟨fun q => c1 q.1, fun q => c22 q.1, rfl, rfl, rfl, rfl, rfl⟩), rfl⟩
    · skip
      refine lv_iload_n hx hb dX4_set_25 rfl (lv_at hl 2 rfl) ?_
      refine lv_iconst (v := nI 0) hx hb dX4_set_26 (by decide) ?_
      refine lv_bipush (v := nI 12) hx hb dX4_set_27 (by decide) ?_
      refine vp_callSi (W.runS ⟨hx, hb, hml, hown, hts⟩ (c_within l E _ _ _ _) (va_cwS 3 hts gX4_set_X4_within rfl rfl rfl (by decide +kernel) ⟨Nat.le_of_ble_eq_true rfl, Nat.le_of_ble_eq_true rfl⟩) (ePu_S hP hE) rfl rfl hl.1 rfl (lv_room (Nat.le_of_ble_eq_true rfl)) dX4_set_29 ⟨Nat.zero_le _, Nat.zero_le _⟩) (fun r9 hr9 => ?_)
      subst hr9
      refine q_eq hx hb 47 dX4_set_32 (by decide) (fun c32 => ?_) (fun c32 => ?_)
      · skip
        refine lv_iconst (v := (-1)) hx hb dX4_set_47 (by decide) ?_
        exact ret_Wi hx hb hr hlocks dX4_set_48 hP hD hS ⟨g, hz, td, ck, Or.inr (Or.inr ⟨fun q => c1 q.1, fun q => c32 q.2, rfl, rfl, rfl, rfl, rfl⟩), rfl⟩
      · skip
        obtain ⟨v, -, hv2, rfl⟩ := nI_rng (by decide) c32 (by decide)
        refine lv_aload_n hx hb dX4_set_35 rfl (lv_at hl 0 rfl) ?_
        refine va_get (D := E.1) (ci := 4) (C := RX4) (T := TX4) (N := 11) hx hb hts hinX4 hown hE.1 hP 0 rfl rfl 8 (by decide) (hts (.fieldLink RX4 46 "StakeHouse" "horizon" "I") (by decide +kernel)) (fun _ h9 => h9) rfl dX4_set_36 ?_
        refine st_i1 hx hb 3 dX4_set_39 rfl hl (by decide) rfl (fun ls hl => ?_)
        refine lv_aload_n hx hb dX4_set_40 rfl (lv_at hl 0 rfl) ?_
        refine lv_iload_n hx hb dX4_set_41 rfl (lv_at hl 2 rfl) ?_
        refine va_put (D := E.1) (ci := 4) (ty := .int) (C := RX4) (T := TX4) (N := 11) hx hb hts hinX4 tyX4 tyX4_ok nmX4 hown hE.1 hP hD hS 0 rfl rfl 8 (by decide) (hts (.fieldLink RX4 46 "StakeHouse" "horizon" "I") (by decide +kernel)) (fun _ h9 => h9) rfl (by decide +kernel) rfl rfl (Nat.le_of_ble_eq_true rfl) dX4_set_42 (fun H locs hP hD hS => ?_)
        have hP : va_P E.1 vwCl (wX E ad g v n mk td gr cf ce ck rv st wo ++ rest) H := hP
        have hD : va_D (va_A (wX E ad g hz n mk td gr cf ce ck rv st wo ++ rest) s.heap.size) (wX E ad g v n mk td gr cf ce ck rv st wo ++ rest) := hD
        refine lv_iload_n hx hb dX4_set_45 rfl (lv_at hl 3 rfl) ?_
        exact ret_Wi hx hb hr hlocks dX4_set_46 hP hD hS ⟨g, v, td, ck, Or.inr (Or.inl ⟨v, c22, rfl, hv2, rfl, rfl, rfl, rfl, rfl⟩), rfl⟩
  · skip
    refine lv_iload_n hx hb dX4_set_4 rfl (lv_at hl 2 rfl) ?_
    refine lv_iconst (v := nI 2) hx hb dX4_set_5 (by decide) ?_
    refine lv_bipush (v := nI 32) hx hb dX4_set_6 (by decide) ?_
    refine vp_callSi (W.runS ⟨hx, hb, hml, hown, hts⟩ (c_within l E _ _ _ _) (va_cwS 3 hts gX4_set_X4_within rfl rfl rfl (by decide +kernel) ⟨Nat.le_of_ble_eq_true rfl, Nat.le_of_ble_eq_true rfl⟩) (ePu_S hP hE) rfl rfl hl.1 rfl (lv_room (Nat.le_of_ble_eq_true rfl)) dX4_set_8 ⟨Nat.zero_le _, Nat.zero_le _⟩) (fun r9 hr9 => ?_)
    subst hr9
    refine q_eq hx hb 20 dX4_set_11 (by decide) (fun c11 => ?_) (fun c11 => ?_)
    · skip
      refine lv_iload_n hx hb dX4_set_20 rfl (lv_at hl 1 rfl) ?_
      refine lv_iconst (v := nI 1) hx hb dX4_set_21 (by decide) ?_
      refine lv_icmp_ne (tgt := 47) hx hb dX4_set_22 (by decide) (fun c22 => ?_) (fun c22 => ?_)
      · skip
        refine lv_iconst (v := (-1)) hx hb dX4_set_47 (by decide) ?_
        exact ret_Wi hx hb hr hlocks dX4_set_48 hP hD hS ⟨g, hz, td, ck, Or.inr (Or.inr ⟨fun q => c11 q.2, fun q => c22 q.1, rfl, rfl, rfl, rfl, rfl⟩), rfl⟩
      · skip
        refine lv_iload_n hx hb dX4_set_25 rfl (lv_at hl 2 rfl) ?_
        refine lv_iconst (v := nI 0) hx hb dX4_set_26 (by decide) ?_
        refine lv_bipush (v := nI 12) hx hb dX4_set_27 (by decide) ?_
        refine vp_callSi (W.runS ⟨hx, hb, hml, hown, hts⟩ (c_within l E _ _ _ _) (va_cwS 3 hts gX4_set_X4_within rfl rfl rfl (by decide +kernel) ⟨Nat.le_of_ble_eq_true rfl, Nat.le_of_ble_eq_true rfl⟩) (ePu_S hP hE) rfl rfl hl.1 rfl (lv_room (Nat.le_of_ble_eq_true rfl)) dX4_set_29 ⟨Nat.zero_le _, Nat.zero_le _⟩) (fun r9 hr9 => ?_)
        subst hr9
        refine q_eq hx hb 47 dX4_set_32 (by decide) (fun c32 => ?_) (fun c32 => ?_)
        · skip
          refine lv_iconst (v := (-1)) hx hb dX4_set_47 (by decide) ?_
          exact ret_Wi hx hb hr hlocks dX4_set_48 hP hD hS ⟨g, hz, td, ck, Or.inr (Or.inr ⟨fun q => c11 q.2, fun q => c32 q.2, rfl, rfl, rfl, rfl, rfl⟩), rfl⟩
        · skip
          obtain ⟨v, -, hv2, rfl⟩ := nI_rng (by decide) c32 (by decide)
          refine lv_aload_n hx hb dX4_set_35 rfl (lv_at hl 0 rfl) ?_
          refine va_get (D := E.1) (ci := 4) (C := RX4) (T := TX4) (N := 11) hx hb hts hinX4 hown hE.1 hP 0 rfl rfl 8 (by decide) (hts (.fieldLink RX4 46 "StakeHouse" "horizon" "I") (by decide +kernel)) (fun _ h9 => h9) rfl dX4_set_36 ?_
          refine st_i1 hx hb 3 dX4_set_39 rfl hl (by decide) rfl (fun ls hl => ?_)
          refine lv_aload_n hx hb dX4_set_40 rfl (lv_at hl 0 rfl) ?_
          refine lv_iload_n hx hb dX4_set_41 rfl (lv_at hl 2 rfl) ?_
          refine va_put (D := E.1) (ci := 4) (ty := .int) (C := RX4) (T := TX4) (N := 11) hx hb hts hinX4 tyX4 tyX4_ok nmX4 hown hE.1 hP hD hS 0 rfl rfl 8 (by decide) (hts (.fieldLink RX4 46 "StakeHouse" "horizon" "I") (by decide +kernel)) (fun _ h9 => h9) rfl (by decide +kernel) rfl rfl (Nat.le_of_ble_eq_true rfl) dX4_set_42 (fun H locs hP hD hS => ?_)
          have hP : va_P E.1 vwCl (wX E ad g v n mk td gr cf ce ck rv st wo ++ rest) H := hP
          have hD : va_D (va_A (wX E ad g hz n mk td gr cf ce ck rv st wo ++ rest) s.heap.size) (wX E ad g v n mk td gr cf ce ck rv st wo ++ rest) := hD
          refine lv_iload_n hx hb dX4_set_45 rfl (lv_at hl 3 rfl) ?_
          exact ret_Wi hx hb hr hlocks dX4_set_46 hP hD hS ⟨g, v, td, ck, Or.inr (Or.inl ⟨v, c22, rfl, hv2, rfl, rfl, rfl, rfl, rfl⟩), rfl⟩
    · skip
      obtain ⟨v, hv1, hv2, rfl⟩ := nI_rng (by decide) c11 (by decide)
      refine lv_aload_n hx hb dX4_set_14 rfl (lv_at hl 0 rfl) ?_
      refine lv_iload_n hx hb dX4_set_15 rfl (lv_at hl 2 rfl) ?_
      refine cW_i (va_runV ⟨hx, hb, hml, hown, hts⟩ (c_changeGoal l E ad g hz n mk td gr cf ce ck rv st wo rest v _) (cwV 1 hts gX4_set_X4_changeGoal rfl rfl rfl (by decide +kernel) ⟨Nat.le_of_ble_eq_true rfl, Nat.le_of_ble_eq_true rfl⟩) (ePw_V hP hD hE (ci := 4) (k := 0) rfl rfl) rfl rfl hl.1 rfl (lv_room (Nat.le_of_ble_eq_true rfl)) dX4_set_16 ⟨Nat.zero_le _, Nat.zero_le _⟩) hS hD hA (fun r9 ws9 H locs hr9 hP hD hS => ?_)
      obtain ⟨rfl, rfl⟩ := hr9
      exact ret_Wi hx hb hr hlocks dX4_set_19 hP hD hS ⟨v, hz, _, _, Or.inl ⟨v, c1, rfl, hv1, hv2, rfl, rfl, rfl, rfl, rfl⟩, rfl⟩
/-- tell's answer, and the told numbers behind it -/
def tel_of (g : Nat) (td : Nat → Nat) (qv vv : Int32) (r : Int32) (td1 : Nat → Nat) : Prop := (∃ q v : Nat, qv = nI q ∧ vv = nI v ∧ 1 ≤ q ∧ q < g ∧ v ≤ 32 ∧ r = nI (td q) ∧ td1 = va_up td q v) ∨ ((¬ ((nI 1 ≤ qv ∧ qv ≤ nI (g - 1)) ∧ nI 0 ≤ vv ∧ vv ≤ nI 32)) ∧ r = -1 ∧ td1 = td)
set_option maxHeartbeats 4000000 in
set_option maxRecDepth 100000 in
/-- tell -/
theorem c_tell (l : Launch) (E : eT) (ad : Nat → Nat) (g hz n : Nat) (mk : Int64) (td : Nat → Nat) (gr : Nat → Option Nat) (cf ce ck : Nat → Nat) (rv : Nat → Nat → Int64) (st : Nat → Int32) (wo : Nat → Nat → Int64) (rest : va_W) (hg2 : 2 ≤ g) (hg32 : g ≤ 32) (qv vv : Int32) : mWi l yX4_tell wsX4_tell 2 50 0 0 E (wX E ad g hz n mk (fun j => nI (td j)) gr cf ce ck rv st wo ++ rest) [.ref (ad 0), .int qv, .int vv] (fun r ws1 => ∃ td1 : Nat → Nat, tel_of g td qv vv r td1 ∧ ws1 = wX E ad g hz n mk (fun j => nI (td1 j)) gr cf ce ck rv st wo ++ rest) := by
  intro sz
  refine mW_of (cc := cX4_tell) (maxL := 4) (ret := (some .int)) (Qc := fun sz => va_Qi (fun r ws1 => ∃ td1 : Nat → Nat, tel_of g td qv vv r td1 ∧ ws1 = wX E ad g hz n mk (fun j => nI (td1 j)) gr cf ce ck rv st wo ++ rest) (eAt E (va_A (wX E ad g hz n mk (fun j => nI (td j)) gr cf ce ck rv st wo ++ rest) sz)) (va_A (wX E ad g hz n mk (fun j => nI (td j)) gr cf ce ck rv st wo ++ rest) sz)) (by decide) rfl (Nat.le_of_ble_eq_true rfl) ?_
  intro p0 e0 s m below meth c0 ls hx hb hr hml hts hown hlocks hin hE hP hD hl
  have hS : va_S (va_A (wX E ad g hz n mk (fun j => nI (td j)) gr cf ce ck rv st wo ++ rest) s.heap.size) s.heap s.heap [] := va_S.rf
  have hA : ∀ q, s.heap.size ≤ q → (va_A (wX E ad g hz n mk (fun j => nI (td j)) gr cf ce ck rv st wo ++ rest) s.heap.size) q := fun q h => Or.inr h
  have hown : s.vm.findClass RX4 = some m.cls := hown
  have hl : lv_has ls 4 [(0, .ref (ad 0)), (1, .int qv), (2, .int vv)] := hl
  have hinX4 : ∀ w ∈ wsX40, w ∈ wsX4_tell := by decide +kernel
  refine lv_aload_n hx hb dX4_tell_0 rfl (lv_at hl 0 rfl) ?_
  refine lv_iload_n hx hb dX4_tell_1 rfl (lv_at hl 1 rfl) ?_
  refine vp_callSi (W.runV ⟨hx, hb, hml, hown, hts⟩ (c_isPlayed l E _ ad g hz n mk rfl hg2 _) (cwV 1 hts gX4_tell_X4_isPlayed rfl rfl rfl (by decide +kernel) ⟨Nat.le_of_ble_eq_true rfl, Nat.le_of_ble_eq_true rfl⟩) (ePu_V hP hE (ci := 4) (k := 0) rfl rfl) rfl rfl hl.1 rfl (lv_room (Nat.le_of_ble_eq_true rfl)) dX4_tell_2 ⟨Nat.zero_le _, Nat.zero_le _⟩) (fun r9 hr9 => ?_)
  subst hr9
  refine q_eq hx hb 18 dX4_tell_5 (by decide) (fun c5 => ?_) (fun c5 => ?_)
  · skip
    refine lv_iconst (v := (-1)) hx hb dX4_tell_18 (by decide) ?_
    exact ret_Wi hx hb hr hlocks dX4_tell_19 hP hD hS ⟨td, Or.inr ⟨fun q => c5 q.1, rfl, rfl⟩, rfl⟩
  · skip
    obtain ⟨q, hq1, hq2, rfl⟩ := nI_rng (by omega) c5 (by decide)
    refine lv_iload_n hx hb dX4_tell_8 rfl (lv_at hl 2 rfl) ?_
    refine lv_iconst (v := nI 0) hx hb dX4_tell_9 (by decide) ?_
    refine lv_bipush (v := nI 32) hx hb dX4_tell_10 (by decide) ?_
    refine vp_callSi (W.runS ⟨hx, hb, hml, hown, hts⟩ (c_within l E _ _ _ _) (va_cwS 3 hts gX4_tell_X4_within rfl rfl rfl (by decide +kernel) ⟨Nat.le_of_ble_eq_true rfl, Nat.le_of_ble_eq_true rfl⟩) (ePu_S hP hE) rfl rfl hl.1 rfl (lv_room (Nat.le_of_ble_eq_true rfl)) dX4_tell_12 ⟨Nat.zero_le _, Nat.zero_le _⟩) (fun r9 hr9 => ?_)
    subst hr9
    refine q_ne hx hb 20 dX4_tell_15 (by decide) (fun c15 => ?_) (fun c15 => ?_)
    · skip
      obtain ⟨v, -, hv2, rfl⟩ := nI_rng (by decide) c15 (by decide)
      refine lv_aload_n hx hb dX4_tell_20 rfl (lv_at hl 0 rfl) ?_
      refine va_get (D := E.1) (ci := 4) (C := RX4) (T := TX4) (N := 11) hx hb hts hinX4 hown hE.1 hP 0 rfl rfl 1 (by decide) (hts (.fieldLink RX4 15 "StakeHouse" "told" "[I") (by decide +kernel)) (fun _ h9 => h9) rfl dX4_tell_21 ?_
      refine lv_iload_n hx hb dX4_tell_24 rfl (lv_at hl 1 rfl) ?_
      refine va_iald hx hb hE.1 hP 2 0 rfl rfl (vp_in_nI (by omega) (by decide)) dX4_tell_25 ?_
      refine tp_i (show _ = nI (td q) by rw [nI_clamp (by omega)]) ?_
      refine st_i1 hx hb 3 dX4_tell_26 rfl hl (by decide) rfl (fun ls hl => ?_)
      refine lv_aload_n hx hb dX4_tell_27 rfl (lv_at hl 0 rfl) ?_
      refine va_get (D := E.1) (ci := 4) (C := RX4) (T := TX4) (N := 11) hx hb hts hinX4 hown hE.1 hP 0 rfl rfl 1 (by decide) (hts (.fieldLink RX4 15 "StakeHouse" "told" "[I") (by decide +kernel)) (fun _ h9 => h9) rfl dX4_tell_28 ?_
      refine lv_iload_n hx hb dX4_tell_31 rfl (lv_at hl 1 rfl) ?_
      refine lv_iload_n hx hb dX4_tell_32 rfl (lv_at hl 2 rfl) ?_
      refine va_iast hx hb hE.1 hP hD hS 2 0 rfl rfl (vp_in_nI (by omega) (by decide)) dX4_tell_33 (fun H locs hP hD hS => ?_)
      have hP : va_P E.1 vwCl (wX E ad g hz n mk (fun j => nI (va_up td q v j)) gr cf ce ck rv st wo ++ rest) H := (by rw [nI_clamp (by omega), upd_nI] at hP; exact hP)
      have hD : va_D (va_A (wX E ad g hz n mk (fun j => nI (td j)) gr cf ce ck rv st wo ++ rest) s.heap.size) (wX E ad g hz n mk (fun j => nI (va_up td q v j)) gr cf ce ck rv st wo ++ rest) := (by rw [nI_clamp (by omega), upd_nI] at hD; exact hD)
      refine lv_iload_n hx hb dX4_tell_34 rfl (lv_at hl 3 rfl) ?_
      exact ret_Wi hx hb hr hlocks dX4_tell_35 hP hD hS ⟨_, Or.inl ⟨q, v, rfl, rfl, hq1, by omega, hv2, rfl, rfl⟩, rfl⟩
    · skip
      refine lv_iconst (v := (-1)) hx hb dX4_tell_18 (by decide) ?_
      exact ret_Wi hx hb hr hlocks dX4_tell_19 hP hD hS ⟨td, Or.inr ⟨fun q => c15 q.2, rfl, rfl⟩, rfl⟩
set_option maxHeartbeats 4000000 in
set_option maxRecDepth 100000 in
/-- drop -/
theorem c_drop (l : Launch) (E : eT) (ad : Nat → Nat) (g hz n : Nat) (mk : Int64) (td : Nat → Int32) (gr : Nat → Option Nat) (cf ce ck : Nat → Nat) (rv : Nat → Nat → Int64) (st : Nat → Int32) (wo : Nat → Nat → Int64) (rest : va_W) (hn : n ≤ 4) : mWi l yX4_drop wsX4_drop 2 50 0 0 E (wX E ad g hz n mk td gr cf ce ck rv st wo ++ rest) [.ref (ad 0)] (fun r ws1 => (n = 0 ∧ r = -2 ∧ ws1 = wX E ad g hz n mk td gr cf ce ck rv st wo ++ rest) ∨ (1 ≤ n ∧ r = nI (n - 1) ∧ ws1 = wX E ad g hz (n - 1) mk td (va_up gr (n - 1) none) cf ce (fun _ => 0) rv st wo ++ rest)) := by
  intro sz
  refine mW_of (cc := cX4_drop) (maxL := 1) (ret := (some .int)) (Qc := fun sz => va_Qi (fun r ws1 => (n = 0 ∧ r = -2 ∧ ws1 = wX E ad g hz n mk td gr cf ce ck rv st wo ++ rest) ∨ (1 ≤ n ∧ r = nI (n - 1) ∧ ws1 = wX E ad g hz (n - 1) mk td (va_up gr (n - 1) none) cf ce (fun _ => 0) rv st wo ++ rest)) (eAt E (va_A (wX E ad g hz n mk td gr cf ce ck rv st wo ++ rest) sz)) (va_A (wX E ad g hz n mk td gr cf ce ck rv st wo ++ rest) sz)) (by decide) rfl (Nat.le_of_ble_eq_true rfl) ?_
  intro p0 e0 s m below meth c0 ls hx hb hr hml hts hown hlocks hin hE hP hD hl
  have hS : va_S (va_A (wX E ad g hz n mk td gr cf ce ck rv st wo ++ rest) s.heap.size) s.heap s.heap [] := va_S.rf
  have hA : ∀ q, s.heap.size ≤ q → (va_A (wX E ad g hz n mk td gr cf ce ck rv st wo ++ rest) s.heap.size) q := fun q h => Or.inr h
  have hown : s.vm.findClass RX4 = some m.cls := hown
  have hl : lv_has ls 1 [(0, .ref (ad 0))] := hl
  have hinX4 : ∀ w ∈ wsX40, w ∈ wsX4_drop := by decide +kernel
  refine lv_aload_n hx hb dX4_drop_0 rfl (lv_at hl 0 rfl) ?_
  refine va_get (D := E.1) (ci := 4) (C := RX4) (T := TX4) (N := 11) hx hb hts hinX4 hown hE.1 hP 0 rfl rfl 9 (by decide) (hts (.fieldLink RX4 49 "StakeHouse" "held" "I") (by decide +kernel)) (fun _ h9 => h9) rfl dX4_drop_1 ?_
  refine lv_iconst (v := nI 1) hx hb dX4_drop_4 (by decide) ?_
  refine n_ge hx hb (by omega) (by omega) 11 dX4_drop_5 (by decide) (fun c5 => ?_) (fun c5 => ?_)
  · skip
    refine lv_aload_n hx hb dX4_drop_11 rfl (lv_at hl 0 rfl) ?_
    refine lv_dup hx hb dX4_drop_12 rfl ?_
    refine va_get (D := E.1) (ci := 4) (C := RX4) (T := TX4) (N := 11) hx hb hts hinX4 hown hE.1 hP 0 rfl rfl 9 (by decide) (hts (.fieldLink RX4 49 "StakeHouse" "held" "I") (by decide +kernel)) (fun _ h9 => h9) rfl dX4_drop_13 ?_
    refine lv_iconst (v := nI 1) hx hb dX4_drop_16 (by decide) ?_
    refine lv_isub hx hb dX4_drop_17 ?_
    refine tp_i (pk_sub (by omega)) ?_
    refine va_put (D := E.1) (ci := 4) (ty := .int) (C := RX4) (T := TX4) (N := 11) hx hb hts hinX4 tyX4 tyX4_ok nmX4 hown hE.1 hP hD hS 0 rfl rfl 9 (by decide) (hts (.fieldLink RX4 49 "StakeHouse" "held" "I") (by decide +kernel)) (fun _ h9 => h9) rfl (by decide +kernel) rfl rfl (Nat.le_of_ble_eq_true rfl) dX4_drop_18 (fun H locs hP hD hS => ?_)
    have hP : va_P E.1 vwCl (wX E ad g hz (n - 1) mk td gr cf ce ck rv st wo ++ rest) H := hP
    have hD : va_D (va_A (wX E ad g hz n mk td gr cf ce ck rv st wo ++ rest) s.heap.size) (wX E ad g hz (n - 1) mk td gr cf ce ck rv st wo ++ rest) := hD
    refine lv_aload_n hx hb dX4_drop_21 rfl (lv_at hl 0 rfl) ?_
    refine va_get (D := E.1) (ci := 4) (C := RX4) (T := TX4) (N := 11) hx hb hts hinX4 hown hE.1 hP 0 rfl rfl 0 (by decide) (hts (.fieldLink RX4 11 "StakeHouse" "games" "[LStakeHouse$EvenGame;") (by decide +kernel)) (fun _ h9 => h9) rfl dX4_drop_22 ?_
    refine lv_aload_n hx hb dX4_drop_25 rfl (lv_at hl 0 rfl) ?_
    refine va_get (D := E.1) (ci := 4) (C := RX4) (T := TX4) (N := 11) hx hb hts hinX4 hown hE.1 hP 0 rfl rfl 9 (by decide) (hts (.fieldLink RX4 49 "StakeHouse" "held" "I") (by decide +kernel)) (fun _ h9 => h9) rfl dX4_drop_26 ?_
    refine lv_null hx hb dX4_drop_29 ?_
    refine va_astqN hx hb hE.1 hP hD hS 1 2 rfl rfl (vp_in_nI (by omega) (by decide)) dX4_drop_30 (fun H locs hP hD hS => ?_)
    rw [nI_clamp (by omega)] at hP hD
    have hP : va_P E.1 vwCl (wX E ad g hz (n - 1) mk td (va_up gr (n - 1) none) cf ce ck rv st wo ++ rest) H := hP
    have hD : va_D (va_A (wX E ad g hz n mk td gr cf ce ck rv st wo ++ rest) s.heap.size) (wX E ad g hz (n - 1) mk td (va_up gr (n - 1) none) cf ce ck rv st wo ++ rest) := hD
    refine lv_aload_n hx hb dX4_drop_31 rfl (lv_at hl 0 rfl) ?_
    refine cW_v (va_runV ⟨hx, hb, hml, hown, hts⟩ (c_forgetCharts l E ad g hz (n - 1) mk td (va_up gr (n - 1) none) cf ce ck rv st wo rest _) (cwV 0 hts gX4_drop_X4_forgetCharts rfl rfl rfl (by decide +kernel) ⟨Nat.le_of_ble_eq_true rfl, Nat.le_of_ble_eq_true rfl⟩) (ePw_V hP hD hE (ci := 4) (k := 0) rfl rfl) rfl rfl hl.1 rfl (lv_room (Nat.le_of_ble_eq_true rfl)) dX4_drop_32 ⟨Nat.zero_le _, Nat.zero_le _⟩) hS hD hA (fun ws9 H locs hr9 hP hD hS => ?_)
    subst hr9
    refine lv_aload_n hx hb dX4_drop_35 rfl (lv_at hl 0 rfl) ?_
    refine va_get (D := E.1) (ci := 4) (C := RX4) (T := TX4) (N := 11) hx hb hts hinX4 hown hE.1 hP 0 rfl rfl 9 (by decide) (hts (.fieldLink RX4 49 "StakeHouse" "held" "I") (by decide +kernel)) (fun _ h9 => h9) rfl dX4_drop_36 ?_
    exact ret_Wi hx hb hr hlocks dX4_drop_39 hP hD hS (Or.inr ⟨c5, rfl, rfl⟩)
  · skip
    refine lv_bipush (v := (-2)) hx hb dX4_drop_8 (by decide) ?_
    exact ret_Wi hx hb hr hlocks dX4_drop_10 hP hD hS (Or.inl ⟨by omega, rfl, rfl⟩)
