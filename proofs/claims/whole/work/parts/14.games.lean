/-! the games: gains, marks, how they are made and kept; game, win -/
theorem gmE_0 {d : gT} {b : Nat} (h : gK d = 0) : gmE d b = .inr (1, [.int (nI (gC d)), .int (nI (gL d)), .ref b]) := by
  unfold gmE
  rw [if_pos h]
theorem gmE_1 {d : gT} {b : Nat} (h : gK d = 1) : gmE d b = .inr (2, [.int (nI (gC d)), .int (nI (gL d)), .ref b, .int (nI (gM d))]) := by
  unfold gmE
  rw [if_neg (by omega), if_pos h]
theorem gmE_2 {d : gT} {b : Nat} (h : gK d = 2) : gmE d b = .inr (3, [.int (nI (gM d)), .int (nI (gC d)), .int (nI (gL d)), .ref b, .int (nI (gX d))]) := by
  unfold gmE
  rw [if_neg (by omega), if_neg (by omega)]
theorem gWin_0 {d : gT} (h : gK d = 0) (s : Nat) : gWin d s = s := by unfold gWin; rw [if_pos h]
theorem gWin_1 {d : gT} (h : gK d = 1) (s : Nat) : gWin d s = s * gM d := by unfold gWin; rw [if_neg (by omega), if_pos h]
theorem gWin_2 {d : gT} (h : gK d = 2) (s : Nat) : gWin d s = s * gM d - s * gM d * gX d / 10 := by unfold gWin; rw [if_neg (by omega), if_neg (by omega)]
theorem gWin_z (d : gT) : gWin d 0 = 0 := by unfold gWin; split <;> simp
def gMark (d : gT) : Nat := if gK d = 0 then 1 else if gK d = 1 then 11 else 111
theorem app_last {α : Type} (l : List α) (x : α) : (l ++ [x])[l.length]? = some x := by simp
theorem app_2a {α : Type} (l : List α) (x y : α) : (l ++ [x, y])[l.length]? = some x := by simp
theorem app_2b {α : Type} (l : List α) (x y : α) : (l ++ [x, y])[l.length + 1]? = some y := by simp
theorem app_s1 {α : Type} (l : List α) (x y z : α) : ((l ++ [x]) ++ [y]).set l.length z = l ++ [z, y] := by simp [List.set_append]
theorem app_s2 {α : Type} (l : List α) (x y z : α) : (l ++ [x, y]).set (l.length + 1) z = l ++ [x, z] := by simp [List.set_append]
theorem wX_setRest {E : eT} {ad : Nat → Nat} {g hz n : Nat} {mk : Int64} {td : Nat → Int32} {gr : Nat → Option Nat} {cf ce ck : Nat → Nat} {rv : Nat → Nat → Int64} {st : Nat → Int32} {wo : Nat → Nat → Int64} {rest : va_W} {k : Nat} {x : Nat × va_E} : (wX E ad g hz n mk td gr cf ce ck rv st wo ++ rest).set (52 + k) x = wX E ad g hz n mk td gr cf ce ck rv st wo ++ rest.set k x := by
  rw [List.set_append_right _ _ (by rw [wX_len]; omega), wX_len, show 52 + k - 52 = k by omega]
set_option maxHeartbeats 4000000 in
set_option maxRecDepth 100000 in
/-- EvenGame.gain -/
theorem c_X1_gain (l : Launch) (E : eT) (ws : va_W) (a : Nat) (x : Int32) : mPi l yX1_gain wsX1_gain 0 0 E ws [.ref a, .int x] (fun r => r = x) := by
  refine mP_of (cc := cX1_gain) (maxL := 2) (ret := (some .int)) (by decide) rfl (Nat.le_of_ble_eq_true rfl) ?_
  intro p0 e0 s m below meth c0 ls hx hb hr hml hts hown hlocks hE hP hl
  have hown : s.vm.findClass RX1 = some m.cls := hown
  have hl : lv_has ls 2 [(0, .ref a), (1, .int x)] := hl
  refine lv_iload_n hx hb dX1_gain_0 rfl (lv_at hl 1 rfl) ?_
  exact ret_Pi hx hb hr hlocks dX1_gain_1 rfl
set_option maxHeartbeats 4000000 in
set_option maxRecDepth 100000 in
/-- EvenGame.mark -/
theorem c_X1_mark (l : Launch) (E : eT) (ws : va_W) (a : Nat) : mPi l yX1_mark wsX1_mark 0 0 E ws [.ref a] (fun r => r = nI 1) := by
  refine mP_of (cc := cX1_mark) (maxL := 1) (ret := (some .int)) (by decide) rfl (Nat.le_of_ble_eq_true rfl) ?_
  intro p0 e0 s m below meth c0 ls hx hb hr hml hts hown hlocks hE hP hl
  have hown : s.vm.findClass RX1 = some m.cls := hown
  have hl : lv_has ls 1 [(0, .ref a)] := hl
  refine lv_iconst (v := nI 1) hx hb dX1_mark_0 (by decide) ?_
  exact ret_Pi hx hb hr hlocks dX1_mark_1 rfl
set_option maxHeartbeats 4000000 in
set_option maxRecDepth 100000 in
/-- LongGame.gain -/
theorem c_X2_gain (l : Launch) (E : eT) (ws : va_W) (k a b : Nat) (d : gT) (hd : gOk d) (hg : ws[k]? = some (a, gmE d b)) (hk : gK d = 1 ∨ gK d = 2) (st : Nat) : mPi l yX2_gain wsX2_gain 1 21 E ws [.ref a, .int (nI st)] (fun r => r = nI (st * gM d)) := by
  refine mP_of (cc := cX2_gain) (maxL := 2) (ret := (some .int)) (by decide) rfl (Nat.le_of_ble_eq_true rfl) ?_
  intro p0 e0 s m below meth c0 ls hx hb hr hml hts hown hlocks hE hP hl
  have hown : s.vm.findClass RX2 = some m.cls := hown
  have hl : lv_has ls 2 [(0, .ref a), (1, .int (nI st))] := hl
  have hinX2 : ∀ w ∈ wsX20, w ∈ wsX2_gain := by decide +kernel
  have hinX3 : ∀ w ∈ wsX30, w ∈ wsX2_gain := by decide +kernel
  rcases hk with hk | hk
  · skip
    rw [gmE_1 hk] at hg
    refine lv_aload_n hx hb dX2_gain_0 rfl (lv_at hl 0 rfl) ?_
    refine lv_iload_n hx hb dX2_gain_1 rfl (lv_at hl 1 rfl) ?_
    refine vp_callSi (run_weak (va_runSU (hE.1.1 2 _ rfl).2 ⟨hx, hb, hml, hown, hts⟩ (c_X1_gain l E ws a _) (va_cwSU 1 hts gX2_gain_X1_gain_s13 rfl rfl rfl (by decide +kernel) ⟨Nat.le_of_ble_eq_true rfl, Nat.le_of_ble_eq_true rfl⟩) (ePu_V hP hE (ci := 2) (k := k) rfl hg) rfl rfl hl.1 rfl (lv_room (Nat.le_of_ble_eq_true rfl)) dX2_gain_2 ⟨Nat.zero_le _, Nat.zero_le _⟩)) (fun r9 hr9 => ?_)
    subst hr9
    refine lv_aload_n hx hb dX2_gain_5 rfl (lv_at hl 0 rfl) ?_
    refine va_get (D := E.1) (ci := 2) (C := RX2) (T := TX2) (N := 4) hx hb hts hinX2 hown hE.1 hP k hg rfl 3 (by decide) (hts (.fieldLink RX2 7 "StakeHouse$LongGame" "times" "I") (by decide +kernel)) (fun _ h9 => h9) rfl dX2_gain_6 ?_
    refine lv_imul hx hb dX2_gain_9 ?_
    refine tp_i (pk_mul _ _) ?_
    exact ret_Pi hx hb hr hlocks dX2_gain_10 rfl
  · skip
    rw [gmE_2 hk] at hg
    refine lv_aload_n hx hb dX2_gain_0 rfl (lv_at hl 0 rfl) ?_
    refine lv_iload_n hx hb dX2_gain_1 rfl (lv_at hl 1 rfl) ?_
    refine vp_callSi (run_weak (va_runSU (hE.1.1 3 _ rfl).2 ⟨hx, hb, hml, hown, hts⟩ (c_X1_gain l E ws a _) (va_cwSU 1 hts gX2_gain_X1_gain_s13 rfl rfl rfl (by decide +kernel) ⟨Nat.le_of_ble_eq_true rfl, Nat.le_of_ble_eq_true rfl⟩) (ePu_V hP hE (ci := 3) (k := k) rfl hg) rfl rfl hl.1 rfl (lv_room (Nat.le_of_ble_eq_true rfl)) dX2_gain_2 ⟨Nat.zero_le _, Nat.zero_le _⟩)) (fun r9 hr9 => ?_)
    subst hr9
    refine lv_aload_n hx hb dX2_gain_5 rfl (lv_at hl 0 rfl) ?_
    refine va_get (D := E.1) (ci := 3) (C := RX3) (T := TX3) (N := 5) hx hb hts hinX3 hown hE.1 hP k hg rfl 0 (by decide) (hts (.fieldLink RX2 7 "StakeHouse$LongGame" "times" "I") (by decide +kernel)) (fun _ h9 => h9) rfl dX2_gain_6 ?_
    refine lv_imul hx hb dX2_gain_9 ?_
    refine tp_i (pk_mul _ _) ?_
    exact ret_Pi hx hb hr hlocks dX2_gain_10 rfl
set_option maxHeartbeats 4000000 in
set_option maxRecDepth 100000 in
/-- LongGame.mark -/
theorem c_X2_mark (l : Launch) (E : eT) (ws : va_W) (k a b : Nat) (d : gT) (hd : gOk d) (hg : ws[k]? = some (a, gmE d b)) (hk : gK d = 1 ∨ gK d = 2) : mPi l yX2_mark wsX2_mark 1 20 E ws [.ref a] (fun r => r = nI 11) := by
  refine mP_of (cc := cX2_mark) (maxL := 1) (ret := (some .int)) (by decide) rfl (Nat.le_of_ble_eq_true rfl) ?_
  intro p0 e0 s m below meth c0 ls hx hb hr hml hts hown hlocks hE hP hl
  have hown : s.vm.findClass RX2 = some m.cls := hown
  have hl : lv_has ls 1 [(0, .ref a)] := hl
  rcases hk with hk | hk
  · skip
    rw [gmE_1 hk] at hg
    refine lv_aload_n hx hb dX2_mark_0 rfl (lv_at hl 0 rfl) ?_
    refine vp_callSi (run_weak (va_runSU (hE.1.1 2 _ rfl).2 ⟨hx, hb, hml, hown, hts⟩ (c_X1_mark l E ws a) (va_cwSU 0 hts gX2_mark_X1_mark_s17 rfl rfl rfl (by decide +kernel) ⟨Nat.le_of_ble_eq_true rfl, Nat.le_of_ble_eq_true rfl⟩) (ePu_V hP hE (ci := 2) (k := k) rfl hg) rfl rfl hl.1 rfl (lv_room (Nat.le_of_ble_eq_true rfl)) dX2_mark_1 ⟨Nat.zero_le _, Nat.zero_le _⟩)) (fun r9 hr9 => ?_)
    subst hr9
    refine lv_bipush (v := nI 10) hx hb dX2_mark_4 (by decide) ?_
    refine lv_iadd hx hb dX2_mark_6 ?_
    refine tp_i (nI_add _ _) ?_
    exact ret_Pi hx hb hr hlocks dX2_mark_7 rfl
  · skip
    rw [gmE_2 hk] at hg
    refine lv_aload_n hx hb dX2_mark_0 rfl (lv_at hl 0 rfl) ?_
    refine vp_callSi (run_weak (va_runSU (hE.1.1 3 _ rfl).2 ⟨hx, hb, hml, hown, hts⟩ (c_X1_mark l E ws a) (va_cwSU 0 hts gX2_mark_X1_mark_s17 rfl rfl rfl (by decide +kernel) ⟨Nat.le_of_ble_eq_true rfl, Nat.le_of_ble_eq_true rfl⟩) (ePu_V hP hE (ci := 3) (k := k) rfl hg) rfl rfl hl.1 rfl (lv_room (Nat.le_of_ble_eq_true rfl)) dX2_mark_1 ⟨Nat.zero_le _, Nat.zero_le _⟩)) (fun r9 hr9 => ?_)
    subst hr9
    refine lv_bipush (v := nI 10) hx hb dX2_mark_4 (by decide) ?_
    refine lv_iadd hx hb dX2_mark_6 ?_
    refine tp_i (nI_add _ _) ?_
    exact ret_Pi hx hb hr hlocks dX2_mark_7 rfl
set_option maxHeartbeats 4000000 in
set_option maxRecDepth 100000 in
/-- TaxedGame.gain -/
theorem c_X3_gain (l : Launch) (E : eT) (ws : va_W) (k a b : Nat) (d : gT) (hd : gOk d) (hg : ws[k]? = some (a, gmE d b)) (hk : gK d = 2) (st : Nat) (hst : st ≤ 32) : mPi l yX3_gain wsX3_gain 2 45 E ws [.ref a, .int (nI st)] (fun r => r = nI (gWin d st)) := by
  refine mP_of (cc := cX3_gain) (maxL := 3) (ret := (some .int)) (by decide) rfl (Nat.le_of_ble_eq_true rfl) ?_
  intro p0 e0 s m below meth c0 ls hx hb hr hml hts hown hlocks hE hP hl
  have hown : s.vm.findClass RX3 = some m.cls := hown
  have hl : lv_has ls 3 [(0, .ref a), (1, .int (nI st))] := hl
  have hinX3 : ∀ w ∈ wsX30, w ∈ wsX3_gain := by decide +kernel
  have hg1 : ws[k]? = some (a, .inr (3, [.int (nI (gM d)), .int (nI (gC d)), .int (nI (gL d)), .ref b, .int (nI (gX d))])) := by rw [hg, gmE_2 hk]
  have hM := hd.2.2.1 (by omega)
  have hX := hd.2.2.2.1 hk
  have hb1 : st * gM d ≤ 32 * 9 := Nat.mul_le_mul hst hM.2
  have hb2 : st * gM d * gX d ≤ 288 * 10 := Nat.mul_le_mul hb1 hX
  have hb3 : st * gM d * gX d / 10 ≤ st * gM d := by
    have : st * gM d * gX d ≤ st * gM d * 10 := Nat.mul_le_mul_left _ hX
    omega
  refine lv_aload_n hx hb dX3_gain_0 rfl (lv_at hl 0 rfl) ?_
  refine lv_iload_n hx hb dX3_gain_1 rfl (lv_at hl 1 rfl) ?_
  refine vp_callSi (run_weak (va_runSU (hE.1.1 3 _ rfl).2 ⟨hx, hb, hml, hown, hts⟩ (c_X2_gain l E ws k a b d hd hg (Or.inr hk) st) (va_cwSU 1 hts gX3_gain_X2_gain_s15 rfl rfl rfl (by decide +kernel) ⟨Nat.le_of_ble_eq_true rfl, Nat.le_of_ble_eq_true rfl⟩) (ePu_V hP hE (ci := 3) (k := k) rfl hg1) rfl rfl hl.1 rfl (lv_room (Nat.le_of_ble_eq_true rfl)) dX3_gain_2 ⟨Nat.zero_le _, Nat.zero_le _⟩)) (fun r9 hr9 => ?_)
  subst hr9
  refine st_i1 hx hb 2 dX3_gain_5 rfl hl (by decide) rfl (fun ls hl => ?_)
  refine lv_iload_n hx hb dX3_gain_6 rfl (lv_at hl 2 rfl) ?_
  refine lv_iload_n hx hb dX3_gain_7 rfl (lv_at hl 2 rfl) ?_
  refine lv_aload_n hx hb dX3_gain_8 rfl (lv_at hl 0 rfl) ?_
  refine va_get (D := E.1) (ci := 3) (C := RX3) (T := TX3) (N := 5) hx hb hts hinX3 hown hE.1 hP k hg1 rfl 4 (by decide) (hts (.fieldLink RX3 9 "StakeHouse$TaxedGame" "tax" "I") (by decide +kernel)) (fun _ h9 => h9) rfl dX3_gain_9 ?_
  refine lv_imul hx hb dX3_gain_12 ?_
  refine tp_i (pk_mul _ _) ?_
  refine lv_bipush (v := nI 10) hx hb dX3_gain_13 (by decide) ?_
  refine lv_idiv hx hb dX3_gain_15 (by decide) ?_
  refine tp_i (pk_div (by omega) (by decide) (by decide)) ?_
  refine lv_isub hx hb dX3_gain_16 ?_
  refine tp_i (pk_sub hb3) ?_
  exact ret_Pi hx hb hr hlocks dX3_gain_17 (by rw [gWin_2 hk])
set_option maxHeartbeats 4000000 in
set_option maxRecDepth 100000 in
/-- TaxedGame.mark -/
theorem c_X3_mark (l : Launch) (E : eT) (ws : va_W) (k a b : Nat) (d : gT) (hd : gOk d) (hg : ws[k]? = some (a, gmE d b)) (hk : gK d = 2) : mPi l yX3_mark wsX3_mark 2 45 E ws [.ref a] (fun r => r = nI 111) := by
  refine mP_of (cc := cX3_mark) (maxL := 1) (ret := (some .int)) (by decide) rfl (Nat.le_of_ble_eq_true rfl) ?_
  intro p0 e0 s m below meth c0 ls hx hb hr hml hts hown hlocks hE hP hl
  have hown : s.vm.findClass RX3 = some m.cls := hown
  have hl : lv_has ls 1 [(0, .ref a)] := hl
  have hg1 : ws[k]? = some (a, .inr (3, [.int (nI (gM d)), .int (nI (gC d)), .int (nI (gL d)), .ref b, .int (nI (gX d))])) := by rw [hg, gmE_2 hk]
  refine lv_aload_n hx hb dX3_mark_0 rfl (lv_at hl 0 rfl) ?_
  refine vp_callSi (run_weak (va_runSU (hE.1.1 3 _ rfl).2 ⟨hx, hb, hml, hown, hts⟩ (c_X2_mark l E ws k a b d hd hg (Or.inr hk)) (va_cwSU 0 hts gX3_mark_X2_mark_s19 rfl rfl rfl (by decide +kernel) ⟨Nat.le_of_ble_eq_true rfl, Nat.le_of_ble_eq_true rfl⟩) (ePu_V hP hE (ci := 3) (k := k) rfl hg1) rfl rfl hl.1 rfl (lv_room (Nat.le_of_ble_eq_true rfl)) dX3_mark_1 ⟨Nat.zero_le _, Nat.zero_le _⟩)) (fun r9 hr9 => ?_)
  subst hr9
  refine lv_bipush (v := nI 100) hx hb dX3_mark_4 (by decide) ?_
  refine lv_iadd hx hb dX3_mark_6 ?_
  refine tp_i (nI_add _ _) ?_
  exact ret_Pi hx hb hr hlocks dX3_mark_7 rfl
set_option maxHeartbeats 4000000 in
set_option maxRecDepth 100000 in
/-- EvenGame.keepGains -/
theorem c_keepGains (l : Launch) (E : eT) (ws : va_W) (k a b : Nat) (d : gT) (hd : gOk d) (hg : ws[k]? = some (a, gmE d b)) (k2 : Nat) (hne : k2 ≠ k) (hb2 : ws[k2]? = some (b, xI E 33 (fun _ => nI 0))) : mWv l yX1_keepGains wsX1_keepGains 3 70 0 0 E (ws) [.ref a] (fun ws1 => ws1 = ws.set k2 (b, gnE E d)) := by
  intro sz
  refine mW_of (cc := cX1_keepGains) (maxL := 2) (ret := none) (Qc := fun sz => va_Qv (fun ws1 => ws1 = ws.set k2 (b, gnE E d)) (eAt E (va_A (ws) sz)) (va_A (ws) sz)) (by decide) rfl (Nat.le_of_ble_eq_true rfl) ?_
  intro p0 e0 s m below meth c0 ls hx hb hr hml hts hown hlocks hin hE hP hD hl
  have hS : va_S (va_A (ws) s.heap.size) s.heap s.heap [] := va_S.rf
  have hA : ∀ q, s.heap.size ≤ q → (va_A (ws) s.heap.size) q := fun q h => Or.inr h
  have hown : s.vm.findClass RX1 = some m.cls := hown
  have hl : lv_has ls 2 [(0, .ref a)] := hl
  have hinX1 : ∀ w ∈ wsX10, w ∈ wsX1_keepGains := by decide +kernel
  have hinX2 : ∀ w ∈ wsX20, w ∈ wsX1_keepGains := by decide +kernel
  have hinX3 : ∀ w ∈ wsX30, w ∈ wsX1_keepGains := by decide +kernel
  have hlen : k2 < ws.length := (List.getElem?_eq_some_iff.mp hb2).1
  rcases (show gK d = 0 ∨ gK d = 1 ∨ gK d = 2 by have := hd.1; omega) with hk | hk | hk
  · skip
    refine lv_iconst (v := nI 1) hx hb dX1_keepGains_0 (by decide) ?_
    refine st_i1 hx hb 1 dX1_keepGains_1 rfl hl (by decide) rfl (fun ls hl => ?_)
    refine wLoopH 32 0 (fun i H locs ls => ∃ f1 : Nat → Int32, (∀ j, j ≤ i → f1 j = nI (gWin d j)) ∧ va_P E.1 vwCl (ws.set k2 (b, xI E 33 f1)) H ∧ va_D (va_A (ws) s.heap.size) (ws.set k2 (b, xI E 33 f1)) ∧ va_S (va_A (ws) s.heap.size) s.heap H locs ∧ lv_has ls 2 [(0, .ref a), (1, .int (nI (i + 1)))]) (Nat.zero_le _) (fun i H locs ls hi_i hI ih => ?_) (fun H locs ls hI => ?_) ⟨fun _ => nI 0, fun j hj => by rw [show j = 0 by omega, gWin_z], by rw [set_same _ _ _ hb2]; exact hP, by rw [set_same _ _ _ hb2]; exact hD, hS, hl⟩
    · skip
      obtain ⟨f1, hf1, hP, hD, hS, hl⟩ := hI
      have hgo : (ws.set k2 (b, xI E 33 f1))[k]? = some (a, gmE d b) := (List.getElem?_set_ne hne).trans hg
      have hg1 : (ws.set k2 (b, xI E 33 f1))[k]? = some (a, .inr (1, [.int (nI (gC d)), .int (nI (gL d)), .ref b])) := by rw [hgo, gmE_0 hk]
      refine lv_iload_n hx hb dX1_keepGains_2 rfl (lv_at hl 1 rfl) ?_
      refine lv_bipush (v := nI 32) hx hb dX1_keepGains_3 (by decide) ?_
      refine n_gt hx hb (by omega) (by omega) 25 dX1_keepGains_5 (by decide) (fun c5 => ?_) (fun c5 => ?_)
      · skip
        exact absurd c5 (by omega)
      · skip
        refine lv_aload_n hx hb dX1_keepGains_8 rfl (lv_at hl 0 rfl) ?_
        refine va_get (D := E.1) (ci := 1) (C := RX1) (T := TX1) (N := 3) hx hb hts hinX1 hown hE.1 hP k hg1 rfl 2 (by decide) (hts (.fieldLink RX1 9 "StakeHouse$EvenGame" "gains" "[I") (by decide +kernel)) (fun _ h9 => h9) rfl dX1_keepGains_9 ?_
        refine lv_iload_n hx hb dX1_keepGains_12 rfl (lv_at hl 1 rfl) ?_
        refine lv_aload_n hx hb dX1_keepGains_13 rfl (lv_at hl 0 rfl) ?_
        refine lv_iload_n hx hb dX1_keepGains_14 rfl (lv_at hl 1 rfl) ?_
        refine vp_callSi (W.runV ⟨hx, hb, hml, hown, hts⟩ (c_X1_gain l E _ a (nI (i + 1))) (cwV 1 hts gX1_keepGains_X1_gain rfl rfl rfl (by decide +kernel) ⟨Nat.le_of_ble_eq_true rfl, Nat.le_of_ble_eq_true rfl⟩) (ePu_V hP hE (ci := 1) (k := k) rfl hg1) rfl rfl hl.1 rfl (lv_room (Nat.le_of_ble_eq_true rfl)) dX1_keepGains_15 ⟨Nat.zero_le _, Nat.zero_le _⟩) (fun r9 hr9 => ?_)
        subst hr9
        refine va_iast hx hb hE.1 hP hD hS k2 0 (List.getElem?_set_self hlen) rfl (vp_in_nI (by omega) (by decide)) dX1_keepGains_18 (fun H locs hP hD hS => ?_)
        rw [List.set_set, nI_clamp (by omega)] at hP hD
        refine st_inc hx hb 1 dX1_keepGains_19 hl rfl (nI_1 _) (by decide) rfl (fun ls hl => ?_)
        refine lv_goto (tgt := 2) hx hb dX1_keepGains_22 (by decide) ?_
        refine ih _ _ _ ⟨_, fun j hj => ?_, hP, hD, hS, hl⟩
        by_cases hji : j = i + 1
        · subst hji; rw [pk_us, gWin_0 hk]
        · rw [pk_un hji]; exact hf1 j (by omega)
    · skip
      obtain ⟨f1, hf1, hP, hD, hS, hl⟩ := hI
      have hP : va_P E.1 vwCl (ws.set k2 (b, gnE E d)) H := by
        have h9 := va_P_re hP (k := k2) (List.getElem?_set_self hlen) (xI_congr (E := E) (n := 33) (f := f1) (f' := fun s => nI (gWin d s)) (fun j hj => hf1 j (by omega)))
        rw [List.set_set] at h9
        exact h9
      have hD : va_D (va_A (ws) s.heap.size) (ws.set k2 (b, gnE E d)) := by
        have h9 := va_D.set (p := k2) (e := gnE E d) hD (List.getElem?_set_self hlen)
        rw [List.set_set] at h9
        exact h9
      refine lv_iload_n hx hb dX1_keepGains_2 rfl (lv_at hl 1 rfl) ?_
      refine lv_bipush (v := nI 32) hx hb dX1_keepGains_3 (by decide) ?_
      refine n_gt hx hb (by omega) (by omega) 25 dX1_keepGains_5 (by decide) (fun c5 => ?_) (fun c5 => ?_)
      · skip
        exact ret_Wv hx hb hr hlocks dX1_keepGains_25 hP hD hS rfl
      · skip
        exact absurd c5 (by omega)
  · skip
    refine lv_iconst (v := nI 1) hx hb dX1_keepGains_0 (by decide) ?_
    refine st_i1 hx hb 1 dX1_keepGains_1 rfl hl (by decide) rfl (fun ls hl => ?_)
    refine wLoopH 32 0 (fun i H locs ls => ∃ f1 : Nat → Int32, (∀ j, j ≤ i → f1 j = nI (gWin d j)) ∧ va_P E.1 vwCl (ws.set k2 (b, xI E 33 f1)) H ∧ va_D (va_A (ws) s.heap.size) (ws.set k2 (b, xI E 33 f1)) ∧ va_S (va_A (ws) s.heap.size) s.heap H locs ∧ lv_has ls 2 [(0, .ref a), (1, .int (nI (i + 1)))]) (Nat.zero_le _) (fun i H locs ls hi_i hI ih => ?_) (fun H locs ls hI => ?_) ⟨fun _ => nI 0, fun j hj => by rw [show j = 0 by omega, gWin_z], by rw [set_same _ _ _ hb2]; exact hP, by rw [set_same _ _ _ hb2]; exact hD, hS, hl⟩
    · skip
      obtain ⟨f1, hf1, hP, hD, hS, hl⟩ := hI
      have hgo : (ws.set k2 (b, xI E 33 f1))[k]? = some (a, gmE d b) := (List.getElem?_set_ne hne).trans hg
      have hg1 : (ws.set k2 (b, xI E 33 f1))[k]? = some (a, .inr (2, [.int (nI (gC d)), .int (nI (gL d)), .ref b, .int (nI (gM d))])) := by rw [hgo, gmE_1 hk]
      refine lv_iload_n hx hb dX1_keepGains_2 rfl (lv_at hl 1 rfl) ?_
      refine lv_bipush (v := nI 32) hx hb dX1_keepGains_3 (by decide) ?_
      refine n_gt hx hb (by omega) (by omega) 25 dX1_keepGains_5 (by decide) (fun c5 => ?_) (fun c5 => ?_)
      · skip
        exact absurd c5 (by omega)
      · skip
        refine lv_aload_n hx hb dX1_keepGains_8 rfl (lv_at hl 0 rfl) ?_
        refine va_get (D := E.1) (ci := 2) (C := RX2) (T := TX2) (N := 4) hx hb hts hinX2 hown hE.1 hP k hg1 rfl 2 (by decide) (hts (.fieldLink RX1 9 "StakeHouse$EvenGame" "gains" "[I") (by decide +kernel)) (fun _ h9 => h9) rfl dX1_keepGains_9 ?_
        refine lv_iload_n hx hb dX1_keepGains_12 rfl (lv_at hl 1 rfl) ?_
        refine lv_aload_n hx hb dX1_keepGains_13 rfl (lv_at hl 0 rfl) ?_
        refine lv_iload_n hx hb dX1_keepGains_14 rfl (lv_at hl 1 rfl) ?_
        refine vp_callSi (run_weak (va_runU (x := ⟨"StakeHouse$EvenGame", "gain", "(I)I"⟩) ⟨hx, hb, hml, hown, hts⟩ (c_X2_gain l E _ k a b d hd hgo (Or.inl hk) (i + 1)) (va_cwO 1 hts gX1_keepGains_X2_gain_u22X2 rfl rfl rfl (show Cond.code ⟨"StakeHouse$EvenGame", "gain", "(I)I"⟩ cX1_gain 2 (some .int) ∈ wsX1_keepGains from List.mem_of_getElem? (i := 6) rfl) (by decide +kernel) ⟨Nat.le_of_ble_eq_true rfl, Nat.le_of_ble_eq_true rfl⟩) (ePu_V hP hE (ci := 2) (k := k) rfl hg1) rfl rfl hl.1 rfl (lv_room (Nat.le_of_ble_eq_true rfl)) dX1_keepGains_15 ⟨Nat.zero_le _, Nat.zero_le _⟩)) (fun r9 hr9 => ?_)
        subst hr9
        refine va_iast hx hb hE.1 hP hD hS k2 0 (List.getElem?_set_self hlen) rfl (vp_in_nI (by omega) (by decide)) dX1_keepGains_18 (fun H locs hP hD hS => ?_)
        rw [List.set_set, nI_clamp (by omega)] at hP hD
        refine st_inc hx hb 1 dX1_keepGains_19 hl rfl (nI_1 _) (by decide) rfl (fun ls hl => ?_)
        refine lv_goto (tgt := 2) hx hb dX1_keepGains_22 (by decide) ?_
        refine ih _ _ _ ⟨_, fun j hj => ?_, hP, hD, hS, hl⟩
        by_cases hji : j = i + 1
        · subst hji; rw [pk_us, gWin_1 hk]
        · rw [pk_un hji]; exact hf1 j (by omega)
    · skip
      obtain ⟨f1, hf1, hP, hD, hS, hl⟩ := hI
      have hP : va_P E.1 vwCl (ws.set k2 (b, gnE E d)) H := by
        have h9 := va_P_re hP (k := k2) (List.getElem?_set_self hlen) (xI_congr (E := E) (n := 33) (f := f1) (f' := fun s => nI (gWin d s)) (fun j hj => hf1 j (by omega)))
        rw [List.set_set] at h9
        exact h9
      have hD : va_D (va_A (ws) s.heap.size) (ws.set k2 (b, gnE E d)) := by
        have h9 := va_D.set (p := k2) (e := gnE E d) hD (List.getElem?_set_self hlen)
        rw [List.set_set] at h9
        exact h9
      refine lv_iload_n hx hb dX1_keepGains_2 rfl (lv_at hl 1 rfl) ?_
      refine lv_bipush (v := nI 32) hx hb dX1_keepGains_3 (by decide) ?_
      refine n_gt hx hb (by omega) (by omega) 25 dX1_keepGains_5 (by decide) (fun c5 => ?_) (fun c5 => ?_)
      · skip
        exact ret_Wv hx hb hr hlocks dX1_keepGains_25 hP hD hS rfl
      · skip
        exact absurd c5 (by omega)
  · skip
    refine lv_iconst (v := nI 1) hx hb dX1_keepGains_0 (by decide) ?_
    refine st_i1 hx hb 1 dX1_keepGains_1 rfl hl (by decide) rfl (fun ls hl => ?_)
    refine wLoopH 32 0 (fun i H locs ls => ∃ f1 : Nat → Int32, (∀ j, j ≤ i → f1 j = nI (gWin d j)) ∧ va_P E.1 vwCl (ws.set k2 (b, xI E 33 f1)) H ∧ va_D (va_A (ws) s.heap.size) (ws.set k2 (b, xI E 33 f1)) ∧ va_S (va_A (ws) s.heap.size) s.heap H locs ∧ lv_has ls 2 [(0, .ref a), (1, .int (nI (i + 1)))]) (Nat.zero_le _) (fun i H locs ls hi_i hI ih => ?_) (fun H locs ls hI => ?_) ⟨fun _ => nI 0, fun j hj => by rw [show j = 0 by omega, gWin_z], by rw [set_same _ _ _ hb2]; exact hP, by rw [set_same _ _ _ hb2]; exact hD, hS, hl⟩
    · skip
      obtain ⟨f1, hf1, hP, hD, hS, hl⟩ := hI
      have hgo : (ws.set k2 (b, xI E 33 f1))[k]? = some (a, gmE d b) := (List.getElem?_set_ne hne).trans hg
      have hg1 : (ws.set k2 (b, xI E 33 f1))[k]? = some (a, .inr (3, [.int (nI (gM d)), .int (nI (gC d)), .int (nI (gL d)), .ref b, .int (nI (gX d))])) := by rw [hgo, gmE_2 hk]
      refine lv_iload_n hx hb dX1_keepGains_2 rfl (lv_at hl 1 rfl) ?_
      refine lv_bipush (v := nI 32) hx hb dX1_keepGains_3 (by decide) ?_
      refine n_gt hx hb (by omega) (by omega) 25 dX1_keepGains_5 (by decide) (fun c5 => ?_) (fun c5 => ?_)
      · skip
        exact absurd c5 (by omega)
      · skip
        refine lv_aload_n hx hb dX1_keepGains_8 rfl (lv_at hl 0 rfl) ?_
        refine va_get (D := E.1) (ci := 3) (C := RX3) (T := TX3) (N := 5) hx hb hts hinX3 hown hE.1 hP k hg1 rfl 3 (by decide) (hts (.fieldLink RX1 9 "StakeHouse$EvenGame" "gains" "[I") (by decide +kernel)) (fun _ h9 => h9) rfl dX1_keepGains_9 ?_
        refine lv_iload_n hx hb dX1_keepGains_12 rfl (lv_at hl 1 rfl) ?_
        refine lv_aload_n hx hb dX1_keepGains_13 rfl (lv_at hl 0 rfl) ?_
        refine lv_iload_n hx hb dX1_keepGains_14 rfl (lv_at hl 1 rfl) ?_
        refine vp_callSi (run_weak (va_runU (x := ⟨"StakeHouse$EvenGame", "gain", "(I)I"⟩) ⟨hx, hb, hml, hown, hts⟩ (c_X3_gain l E _ k a b d hd hgo hk (i + 1) (by omega)) (va_cwO 1 hts gX1_keepGains_X3_gain_u22X3 rfl rfl rfl (show Cond.code ⟨"StakeHouse$EvenGame", "gain", "(I)I"⟩ cX1_gain 2 (some .int) ∈ wsX1_keepGains from List.mem_of_getElem? (i := 6) rfl) (by decide +kernel) ⟨Nat.le_of_ble_eq_true rfl, Nat.le_of_ble_eq_true rfl⟩) (ePu_V hP hE (ci := 3) (k := k) rfl hg1) rfl rfl hl.1 rfl (lv_room (Nat.le_of_ble_eq_true rfl)) dX1_keepGains_15 ⟨Nat.zero_le _, Nat.zero_le _⟩)) (fun r9 hr9 => ?_)
        subst hr9
        refine va_iast hx hb hE.1 hP hD hS k2 0 (List.getElem?_set_self hlen) rfl (vp_in_nI (by omega) (by decide)) dX1_keepGains_18 (fun H locs hP hD hS => ?_)
        rw [List.set_set, nI_clamp (by omega)] at hP hD
        refine st_inc hx hb 1 dX1_keepGains_19 hl rfl (nI_1 _) (by decide) rfl (fun ls hl => ?_)
        refine lv_goto (tgt := 2) hx hb dX1_keepGains_22 (by decide) ?_
        refine ih _ _ _ ⟨_, fun j hj => ?_, hP, hD, hS, hl⟩
        by_cases hji : j = i + 1
        · subst hji; rw [pk_us]
        · rw [pk_un hji]; exact hf1 j (by omega)
    · skip
      obtain ⟨f1, hf1, hP, hD, hS, hl⟩ := hI
      have hP : va_P E.1 vwCl (ws.set k2 (b, gnE E d)) H := by
        have h9 := va_P_re hP (k := k2) (List.getElem?_set_self hlen) (xI_congr (E := E) (n := 33) (f := f1) (f' := fun s => nI (gWin d s)) (fun j hj => hf1 j (by omega)))
        rw [List.set_set] at h9
        exact h9
      have hD : va_D (va_A (ws) s.heap.size) (ws.set k2 (b, gnE E d)) := by
        have h9 := va_D.set (p := k2) (e := gnE E d) hD (List.getElem?_set_self hlen)
        rw [List.set_set] at h9
        exact h9
      refine lv_iload_n hx hb dX1_keepGains_2 rfl (lv_at hl 1 rfl) ?_
      refine lv_bipush (v := nI 32) hx hb dX1_keepGains_3 (by decide) ?_
      refine n_gt hx hb (by omega) (by omega) 25 dX1_keepGains_5 (by decide) (fun c5 => ?_) (fun c5 => ?_)
      · skip
        exact ret_Wv hx hb hr hlocks dX1_keepGains_25 hP hD hS rfl
      · skip
        exact absurd c5 (by omega)
set_option maxHeartbeats 4000000 in
set_option maxRecDepth 100000 in
/-- EvenGame.<init>, of a game of kind 0 -/
theorem c_X1_init_0 (l : Launch) (E : eT) (ws : va_W) (k a : Nat) (v0 v1 v2 : Value) (hC : ws[k]? = some (a, .inr (1, [v0, v1, v2]))) (c lim : Int32) : mWv l yX1_init wsX1_init 1 20 1 33 E (ws) [.ref a, .int c, .int lim] (fun ws1 => ∃ b : Nat, ws1 = (ws ++ [(b, xI E 33 (fun _ => nI 0))]).set k (a, .inr (1, [.int c, .int lim, .ref b]))) := by
  intro sz
  refine mW_of (cc := cX1_init) (maxL := 3) (ret := none) (Qc := fun sz => va_Qv (fun ws1 => ∃ b : Nat, ws1 = (ws ++ [(b, xI E 33 (fun _ => nI 0))]).set k (a, .inr (1, [.int c, .int lim, .ref b]))) (eAt E (va_A (ws) sz)) (va_A (ws) sz)) (by decide) rfl (Nat.le_of_ble_eq_true rfl) ?_
  intro p0 e0 s m below meth c0 ls hx hb hr hml hts hown hlocks hin hE hP hD hl
  have hS : va_S (va_A (ws) s.heap.size) s.heap s.heap [] := va_S.rf
  have hA : ∀ q, s.heap.size ≤ q → (va_A (ws) s.heap.size) q := fun q h => Or.inr h
  have hown : s.vm.findClass RX1 = some m.cls := hown
  have hl : lv_has ls 3 [(0, .ref a), (1, .int c), (2, .int lim)] := hl
  have hinX1 : ∀ w ∈ wsX10, w ∈ wsX1_init := by decide +kernel
  have hlen : k < ws.length := (List.getElem?_eq_some_iff.mp hC).1
  refine lv_aload_n hx hb dX1_init_0 rfl (lv_at hl 0 rfl) ?_
  refine W.objInit hx hb hown (hts (.methodLink RX1 3 objectInit) (by decide +kernel)) (hts (.instanceMethod objectInit) (by decide +kernel)) (hts (.code objectInit ⟨#[0xb1]⟩ 1 none) (by decide +kernel)) rfl (by rw [hml]; exact hl.1) rfl dX1_init_1 (Nat.le_of_ble_eq_true rfl) (Nat.le_of_ble_eq_true rfl) ?_
  refine W.eq (g2 := F0 m 4 ls []) rfl ?_
  refine lv_aload_n hx hb dX1_init_4 rfl (lv_at hl 0 rfl) ?_
  refine lv_bipush (v := nI 33) hx hb dX1_init_5 (by decide) ?_
  refine va_newI hx hb (hts (.arrayClass .int) (by decide +kernel)) hE hP hD hS hA (by decide) (Nat.le_of_ble_eq_true rfl) (Nat.le_of_ble_eq_true rfl) dX1_init_7 (fun b H hP hD hS => ?_)
  have hlen2 : k < (ws ++ [(b, xI E 33 (fun _ => nI 0))]).length := by rw [List.length_append]; omega
  refine va_putF (D := E.1) (ci := 1) (ty := .array .int) (C := RX1) (T := TX1) (N := 3) hx hb hts hinX1 tyX1 tyX1_ok nmX1 hown hE.1 hP hD hS k ((List.getElem?_append_left hlen).trans hC) rfl 2 (by decide) (hts (.fieldLink RX1 9 "StakeHouse$EvenGame" "gains" "[I") (by decide +kernel)) (fun _ h9 => h9) rfl hin.symm rfl (by decide +kernel) rfl rfl (Nat.le_of_ble_eq_true rfl) dX1_init_9 (fun H locs hP hD hS => ?_)
  have hP : va_P E.1 vwCl ((ws ++ [(b, xI E 33 (fun _ => nI 0))]).set k (a, .inr (1, [v0, v1, .ref b]))) H := hP
  have hD : va_D (va_A (ws) s.heap.size) ((ws ++ [(b, xI E 33 (fun _ => nI 0))]).set k (a, .inr (1, [v0, v1, .ref b]))) := hD
  refine lv_aload_n hx hb dX1_init_12 rfl (lv_at hl 0 rfl) ?_
  refine lv_iload_n hx hb dX1_init_13 rfl (lv_at hl 1 rfl) ?_
  refine va_putF (D := E.1) (ci := 1) (ty := .int) (C := RX1) (T := TX1) (N := 3) hx hb hts hinX1 tyX1 tyX1_ok nmX1 hown hE.1 hP hD hS k (List.getElem?_set_self hlen2) rfl 0 (by decide) (hts (.fieldLink RX1 15 "StakeHouse$EvenGame" "chance" "I") (by decide +kernel)) (fun _ h9 => h9) rfl hin.symm rfl (by decide +kernel) rfl rfl (Nat.le_of_ble_eq_true rfl) dX1_init_14 (fun H locs hP hD hS => ?_)
  have hP : va_P E.1 vwCl ((ws ++ [(b, xI E 33 (fun _ => nI 0))]).set k (a, .inr (1, [.int c, v1, .ref b]))) H := (by rw [List.set_set] at hP; exact hP)
  have hD : va_D (va_A (ws) s.heap.size) ((ws ++ [(b, xI E 33 (fun _ => nI 0))]).set k (a, .inr (1, [.int c, v1, .ref b]))) := (by rw [List.set_set] at hD; exact hD)
  refine lv_aload_n hx hb dX1_init_17 rfl (lv_at hl 0 rfl) ?_
  refine lv_iload_n hx hb dX1_init_18 rfl (lv_at hl 2 rfl) ?_
  refine va_putF (D := E.1) (ci := 1) (ty := .int) (C := RX1) (T := TX1) (N := 3) hx hb hts hinX1 tyX1 tyX1_ok nmX1 hown hE.1 hP hD hS k (List.getElem?_set_self hlen2) rfl 1 (by decide) (hts (.fieldLink RX1 19 "StakeHouse$EvenGame" "limit" "I") (by decide +kernel)) (fun _ h9 => h9) rfl hin.symm rfl (by decide +kernel) rfl rfl (Nat.le_of_ble_eq_true rfl) dX1_init_19 (fun H locs hP hD hS => ?_)
  have hP : va_P E.1 vwCl ((ws ++ [(b, xI E 33 (fun _ => nI 0))]).set k (a, .inr (1, [.int c, .int lim, .ref b]))) H := (by rw [List.set_set] at hP; exact hP)
  have hD : va_D (va_A (ws) s.heap.size) ((ws ++ [(b, xI E 33 (fun _ => nI 0))]).set k (a, .inr (1, [.int c, .int lim, .ref b]))) := (by rw [List.set_set] at hD; exact hD)
  exact ret_Wv hx hb hr hlocks dX1_init_22 hP hD hS ⟨b, rfl⟩
set_option maxHeartbeats 4000000 in
set_option maxRecDepth 100000 in
/-- EvenGame.<init>, of a game of kind 1 -/
theorem c_X1_init_1 (l : Launch) (E : eT) (ws : va_W) (k a : Nat) (v0 v1 v2 v3 : Value) (hC : ws[k]? = some (a, .inr (2, [v0, v1, v2, v3]))) (c lim : Int32) : mWv l yX1_init wsX1_init 1 20 1 33 E (ws) [.ref a, .int c, .int lim] (fun ws1 => ∃ b : Nat, ws1 = (ws ++ [(b, xI E 33 (fun _ => nI 0))]).set k (a, .inr (2, [.int c, .int lim, .ref b, v3]))) := by
  intro sz
  refine mW_of (cc := cX1_init) (maxL := 3) (ret := none) (Qc := fun sz => va_Qv (fun ws1 => ∃ b : Nat, ws1 = (ws ++ [(b, xI E 33 (fun _ => nI 0))]).set k (a, .inr (2, [.int c, .int lim, .ref b, v3]))) (eAt E (va_A (ws) sz)) (va_A (ws) sz)) (by decide) rfl (Nat.le_of_ble_eq_true rfl) ?_
  intro p0 e0 s m below meth c0 ls hx hb hr hml hts hown hlocks hin hE hP hD hl
  have hS : va_S (va_A (ws) s.heap.size) s.heap s.heap [] := va_S.rf
  have hA : ∀ q, s.heap.size ≤ q → (va_A (ws) s.heap.size) q := fun q h => Or.inr h
  have hown : s.vm.findClass RX1 = some m.cls := hown
  have hl : lv_has ls 3 [(0, .ref a), (1, .int c), (2, .int lim)] := hl
  have hinX2 : ∀ w ∈ wsX20, w ∈ wsX1_init := by decide +kernel
  have hlen : k < ws.length := (List.getElem?_eq_some_iff.mp hC).1
  refine lv_aload_n hx hb dX1_init_0 rfl (lv_at hl 0 rfl) ?_
  refine W.objInit hx hb hown (hts (.methodLink RX1 3 objectInit) (by decide +kernel)) (hts (.instanceMethod objectInit) (by decide +kernel)) (hts (.code objectInit ⟨#[0xb1]⟩ 1 none) (by decide +kernel)) rfl (by rw [hml]; exact hl.1) rfl dX1_init_1 (Nat.le_of_ble_eq_true rfl) (Nat.le_of_ble_eq_true rfl) ?_
  refine W.eq (g2 := F0 m 4 ls []) rfl ?_
  refine lv_aload_n hx hb dX1_init_4 rfl (lv_at hl 0 rfl) ?_
  refine lv_bipush (v := nI 33) hx hb dX1_init_5 (by decide) ?_
  refine va_newI hx hb (hts (.arrayClass .int) (by decide +kernel)) hE hP hD hS hA (by decide) (Nat.le_of_ble_eq_true rfl) (Nat.le_of_ble_eq_true rfl) dX1_init_7 (fun b H hP hD hS => ?_)
  have hlen2 : k < (ws ++ [(b, xI E 33 (fun _ => nI 0))]).length := by rw [List.length_append]; omega
  refine va_putF (D := E.1) (ci := 2) (ty := .array .int) (C := RX2) (T := TX2) (N := 4) hx hb hts hinX2 tyX2 tyX2_ok nmX2 hown hE.1 hP hD hS k ((List.getElem?_append_left hlen).trans hC) rfl 2 (by decide) (hts (.fieldLink RX1 9 "StakeHouse$EvenGame" "gains" "[I") (by decide +kernel)) (fun _ h9 => h9) rfl hin.symm rfl (by decide +kernel) rfl rfl (Nat.le_of_ble_eq_true rfl) dX1_init_9 (fun H locs hP hD hS => ?_)
  have hP : va_P E.1 vwCl ((ws ++ [(b, xI E 33 (fun _ => nI 0))]).set k (a, .inr (2, [v0, v1, .ref b, v3]))) H := hP
  have hD : va_D (va_A (ws) s.heap.size) ((ws ++ [(b, xI E 33 (fun _ => nI 0))]).set k (a, .inr (2, [v0, v1, .ref b, v3]))) := hD
  refine lv_aload_n hx hb dX1_init_12 rfl (lv_at hl 0 rfl) ?_
  refine lv_iload_n hx hb dX1_init_13 rfl (lv_at hl 1 rfl) ?_
  refine va_putF (D := E.1) (ci := 2) (ty := .int) (C := RX2) (T := TX2) (N := 4) hx hb hts hinX2 tyX2 tyX2_ok nmX2 hown hE.1 hP hD hS k (List.getElem?_set_self hlen2) rfl 0 (by decide) (hts (.fieldLink RX1 15 "StakeHouse$EvenGame" "chance" "I") (by decide +kernel)) (fun _ h9 => h9) rfl hin.symm rfl (by decide +kernel) rfl rfl (Nat.le_of_ble_eq_true rfl) dX1_init_14 (fun H locs hP hD hS => ?_)
  have hP : va_P E.1 vwCl ((ws ++ [(b, xI E 33 (fun _ => nI 0))]).set k (a, .inr (2, [.int c, v1, .ref b, v3]))) H := (by rw [List.set_set] at hP; exact hP)
  have hD : va_D (va_A (ws) s.heap.size) ((ws ++ [(b, xI E 33 (fun _ => nI 0))]).set k (a, .inr (2, [.int c, v1, .ref b, v3]))) := (by rw [List.set_set] at hD; exact hD)
  refine lv_aload_n hx hb dX1_init_17 rfl (lv_at hl 0 rfl) ?_
  refine lv_iload_n hx hb dX1_init_18 rfl (lv_at hl 2 rfl) ?_
  refine va_putF (D := E.1) (ci := 2) (ty := .int) (C := RX2) (T := TX2) (N := 4) hx hb hts hinX2 tyX2 tyX2_ok nmX2 hown hE.1 hP hD hS k (List.getElem?_set_self hlen2) rfl 1 (by decide) (hts (.fieldLink RX1 19 "StakeHouse$EvenGame" "limit" "I") (by decide +kernel)) (fun _ h9 => h9) rfl hin.symm rfl (by decide +kernel) rfl rfl (Nat.le_of_ble_eq_true rfl) dX1_init_19 (fun H locs hP hD hS => ?_)
  have hP : va_P E.1 vwCl ((ws ++ [(b, xI E 33 (fun _ => nI 0))]).set k (a, .inr (2, [.int c, .int lim, .ref b, v3]))) H := (by rw [List.set_set] at hP; exact hP)
  have hD : va_D (va_A (ws) s.heap.size) ((ws ++ [(b, xI E 33 (fun _ => nI 0))]).set k (a, .inr (2, [.int c, .int lim, .ref b, v3]))) := (by rw [List.set_set] at hD; exact hD)
  exact ret_Wv hx hb hr hlocks dX1_init_22 hP hD hS ⟨b, rfl⟩
set_option maxHeartbeats 4000000 in
set_option maxRecDepth 100000 in
/-- EvenGame.<init>, of a game of kind 2 -/
theorem c_X1_init_2 (l : Launch) (E : eT) (ws : va_W) (k a : Nat) (v0 v1 v2 v3 v4 : Value) (hC : ws[k]? = some (a, .inr (3, [v0, v1, v2, v3, v4]))) (c lim : Int32) : mWv l yX1_init wsX1_init 1 20 1 33 E (ws) [.ref a, .int c, .int lim] (fun ws1 => ∃ b : Nat, ws1 = (ws ++ [(b, xI E 33 (fun _ => nI 0))]).set k (a, .inr (3, [v0, .int c, .int lim, .ref b, v4]))) := by
  intro sz
  refine mW_of (cc := cX1_init) (maxL := 3) (ret := none) (Qc := fun sz => va_Qv (fun ws1 => ∃ b : Nat, ws1 = (ws ++ [(b, xI E 33 (fun _ => nI 0))]).set k (a, .inr (3, [v0, .int c, .int lim, .ref b, v4]))) (eAt E (va_A (ws) sz)) (va_A (ws) sz)) (by decide) rfl (Nat.le_of_ble_eq_true rfl) ?_
  intro p0 e0 s m below meth c0 ls hx hb hr hml hts hown hlocks hin hE hP hD hl
  have hS : va_S (va_A (ws) s.heap.size) s.heap s.heap [] := va_S.rf
  have hA : ∀ q, s.heap.size ≤ q → (va_A (ws) s.heap.size) q := fun q h => Or.inr h
  have hown : s.vm.findClass RX1 = some m.cls := hown
  have hl : lv_has ls 3 [(0, .ref a), (1, .int c), (2, .int lim)] := hl
  have hinX3 : ∀ w ∈ wsX30, w ∈ wsX1_init := by decide +kernel
  have hlen : k < ws.length := (List.getElem?_eq_some_iff.mp hC).1
  refine lv_aload_n hx hb dX1_init_0 rfl (lv_at hl 0 rfl) ?_
  refine W.objInit hx hb hown (hts (.methodLink RX1 3 objectInit) (by decide +kernel)) (hts (.instanceMethod objectInit) (by decide +kernel)) (hts (.code objectInit ⟨#[0xb1]⟩ 1 none) (by decide +kernel)) rfl (by rw [hml]; exact hl.1) rfl dX1_init_1 (Nat.le_of_ble_eq_true rfl) (Nat.le_of_ble_eq_true rfl) ?_
  refine W.eq (g2 := F0 m 4 ls []) rfl ?_
  refine lv_aload_n hx hb dX1_init_4 rfl (lv_at hl 0 rfl) ?_
  refine lv_bipush (v := nI 33) hx hb dX1_init_5 (by decide) ?_
  refine va_newI hx hb (hts (.arrayClass .int) (by decide +kernel)) hE hP hD hS hA (by decide) (Nat.le_of_ble_eq_true rfl) (Nat.le_of_ble_eq_true rfl) dX1_init_7 (fun b H hP hD hS => ?_)
  have hlen2 : k < (ws ++ [(b, xI E 33 (fun _ => nI 0))]).length := by rw [List.length_append]; omega
  refine va_putF (D := E.1) (ci := 3) (ty := .array .int) (C := RX3) (T := TX3) (N := 5) hx hb hts hinX3 tyX3 tyX3_ok nmX3 hown hE.1 hP hD hS k ((List.getElem?_append_left hlen).trans hC) rfl 3 (by decide) (hts (.fieldLink RX1 9 "StakeHouse$EvenGame" "gains" "[I") (by decide +kernel)) (fun _ h9 => h9) rfl hin.symm rfl (by decide +kernel) rfl rfl (Nat.le_of_ble_eq_true rfl) dX1_init_9 (fun H locs hP hD hS => ?_)
  have hP : va_P E.1 vwCl ((ws ++ [(b, xI E 33 (fun _ => nI 0))]).set k (a, .inr (3, [v0, v1, v2, .ref b, v4]))) H := hP
  have hD : va_D (va_A (ws) s.heap.size) ((ws ++ [(b, xI E 33 (fun _ => nI 0))]).set k (a, .inr (3, [v0, v1, v2, .ref b, v4]))) := hD
  refine lv_aload_n hx hb dX1_init_12 rfl (lv_at hl 0 rfl) ?_
  refine lv_iload_n hx hb dX1_init_13 rfl (lv_at hl 1 rfl) ?_
  refine va_putF (D := E.1) (ci := 3) (ty := .int) (C := RX3) (T := TX3) (N := 5) hx hb hts hinX3 tyX3 tyX3_ok nmX3 hown hE.1 hP hD hS k (List.getElem?_set_self hlen2) rfl 1 (by decide) (hts (.fieldLink RX1 15 "StakeHouse$EvenGame" "chance" "I") (by decide +kernel)) (fun _ h9 => h9) rfl hin.symm rfl (by decide +kernel) rfl rfl (Nat.le_of_ble_eq_true rfl) dX1_init_14 (fun H locs hP hD hS => ?_)
  have hP : va_P E.1 vwCl ((ws ++ [(b, xI E 33 (fun _ => nI 0))]).set k (a, .inr (3, [v0, .int c, v2, .ref b, v4]))) H := (by rw [List.set_set] at hP; exact hP)
  have hD : va_D (va_A (ws) s.heap.size) ((ws ++ [(b, xI E 33 (fun _ => nI 0))]).set k (a, .inr (3, [v0, .int c, v2, .ref b, v4]))) := (by rw [List.set_set] at hD; exact hD)
  refine lv_aload_n hx hb dX1_init_17 rfl (lv_at hl 0 rfl) ?_
  refine lv_iload_n hx hb dX1_init_18 rfl (lv_at hl 2 rfl) ?_
  refine va_putF (D := E.1) (ci := 3) (ty := .int) (C := RX3) (T := TX3) (N := 5) hx hb hts hinX3 tyX3 tyX3_ok nmX3 hown hE.1 hP hD hS k (List.getElem?_set_self hlen2) rfl 2 (by decide) (hts (.fieldLink RX1 19 "StakeHouse$EvenGame" "limit" "I") (by decide +kernel)) (fun _ h9 => h9) rfl hin.symm rfl (by decide +kernel) rfl rfl (Nat.le_of_ble_eq_true rfl) dX1_init_19 (fun H locs hP hD hS => ?_)
  have hP : va_P E.1 vwCl ((ws ++ [(b, xI E 33 (fun _ => nI 0))]).set k (a, .inr (3, [v0, .int c, .int lim, .ref b, v4]))) H := (by rw [List.set_set] at hP; exact hP)
  have hD : va_D (va_A (ws) s.heap.size) ((ws ++ [(b, xI E 33 (fun _ => nI 0))]).set k (a, .inr (3, [v0, .int c, .int lim, .ref b, v4]))) := (by rw [List.set_set] at hD; exact hD)
  exact ret_Wv hx hb hr hlocks dX1_init_22 hP hD hS ⟨b, rfl⟩
set_option maxHeartbeats 4000000 in
set_option maxRecDepth 100000 in
/-- LongGame.<init>, of a game of kind 1 -/
theorem c_X2_init_1 (l : Launch) (E : eT) (ws : va_W) (k a : Nat) (v0 v1 v2 v3 : Value) (hC : ws[k]? = some (a, .inr (2, [v0, v1, v2, v3]))) (c lim tm : Int32) : mWv l yX2_init wsX2_init 2 45 1 33 E (ws) [.ref a, .int c, .int lim, .int tm] (fun ws1 => ∃ b : Nat, ws1 = (ws ++ [(b, xI E 33 (fun _ => nI 0))]).set k (a, .inr (2, [.int c, .int lim, .ref b, .int tm]))) := by
  intro sz
  refine mW_of (cc := cX2_init) (maxL := 4) (ret := none) (Qc := fun sz => va_Qv (fun ws1 => ∃ b : Nat, ws1 = (ws ++ [(b, xI E 33 (fun _ => nI 0))]).set k (a, .inr (2, [.int c, .int lim, .ref b, .int tm]))) (eAt E (va_A (ws) sz)) (va_A (ws) sz)) (by decide) rfl (Nat.le_of_ble_eq_true rfl) ?_
  intro p0 e0 s m below meth c0 ls hx hb hr hml hts hown hlocks hin hE hP hD hl
  have hS : va_S (va_A (ws) s.heap.size) s.heap s.heap [] := va_S.rf
  have hA : ∀ q, s.heap.size ≤ q → (va_A (ws) s.heap.size) q := fun q h => Or.inr h
  have hown : s.vm.findClass RX2 = some m.cls := hown
  have hl : lv_has ls 4 [(0, .ref a), (1, .int c), (2, .int lim), (3, .int tm)] := hl
  have hinX2 : ∀ w ∈ wsX20, w ∈ wsX2_init := by decide +kernel
  have hlen : k < ws.length := (List.getElem?_eq_some_iff.mp hC).1
  refine lv_aload_n hx hb dX2_init_0 rfl (lv_at hl 0 rfl) ?_
  refine lv_iload_n hx hb dX2_init_1 rfl (lv_at hl 1 rfl) ?_
  refine lv_iload_n hx hb dX2_init_2 rfl (lv_at hl 2 rfl) ?_
  refine cW_v (va_runI ⟨hx, hb, hml, hown, hts⟩ (c_X1_init_1 l E ws k a v0 v1 v2 v3 hC c lim _) (cwI 2 hts gX2_init_X1_init rfl rfl rfl (hts (.initialized RX1) (by decide +kernel)) (hts (.methodLink RX2 1 yX1_init) (by decide +kernel)) (hts (.instanceMethod yX1_init) (by decide +kernel)) rfl (by decide +kernel) ⟨Nat.le_of_ble_eq_true rfl, Nat.le_of_ble_eq_true rfl⟩) (ePw_S hP hD hE) rfl rfl hl.1 rfl (lv_room (Nat.le_of_ble_eq_true rfl)) dX2_init_3 ⟨Nat.le_of_ble_eq_true rfl, Nat.le_of_ble_eq_true rfl⟩) hS hD hA (fun ws9 H locs hr9 hP hD hS => ?_)
  obtain ⟨b, rfl⟩ := hr9
  have hlen2 : k < (ws ++ [(b, xI E 33 (fun _ => nI 0))]).length := by rw [List.length_append]; omega
  refine lv_aload_n hx hb dX2_init_6 rfl (lv_at hl 0 rfl) ?_
  refine lv_iload_n hx hb dX2_init_7 rfl (lv_at hl 3 rfl) ?_
  refine va_putF (D := E.1) (ci := 2) (ty := .int) (C := RX2) (T := TX2) (N := 4) hx hb hts hinX2 tyX2 tyX2_ok nmX2 hown hE.1 hP hD hS k (List.getElem?_set_self hlen2) rfl 3 (by decide) (hts (.fieldLink RX2 7 "StakeHouse$LongGame" "times" "I") (by decide +kernel)) (fun _ h9 => h9) rfl hin.symm rfl (by decide +kernel) rfl rfl (Nat.le_of_ble_eq_true rfl) dX2_init_8 (fun H locs hP hD hS => ?_)
  have hP : va_P E.1 vwCl ((ws ++ [(b, xI E 33 (fun _ => nI 0))]).set k (a, .inr (2, [.int c, .int lim, .ref b, .int tm]))) H := (by rw [List.set_set] at hP; exact hP)
  have hD : va_D (va_A (ws) s.heap.size) ((ws ++ [(b, xI E 33 (fun _ => nI 0))]).set k (a, .inr (2, [.int c, .int lim, .ref b, .int tm]))) := (by rw [List.set_set] at hD; exact hD)
  exact ret_Wv hx hb hr hlocks dX2_init_11 hP hD hS ⟨b, rfl⟩
set_option maxHeartbeats 4000000 in
set_option maxRecDepth 100000 in
/-- LongGame.<init>, of a game of kind 2 -/
theorem c_X2_init_2 (l : Launch) (E : eT) (ws : va_W) (k a : Nat) (v0 v1 v2 v3 v4 : Value) (hC : ws[k]? = some (a, .inr (3, [v0, v1, v2, v3, v4]))) (c lim tm : Int32) : mWv l yX2_init wsX2_init 2 45 1 33 E (ws) [.ref a, .int c, .int lim, .int tm] (fun ws1 => ∃ b : Nat, ws1 = (ws ++ [(b, xI E 33 (fun _ => nI 0))]).set k (a, .inr (3, [.int tm, .int c, .int lim, .ref b, v4]))) := by
  intro sz
  refine mW_of (cc := cX2_init) (maxL := 4) (ret := none) (Qc := fun sz => va_Qv (fun ws1 => ∃ b : Nat, ws1 = (ws ++ [(b, xI E 33 (fun _ => nI 0))]).set k (a, .inr (3, [.int tm, .int c, .int lim, .ref b, v4]))) (eAt E (va_A (ws) sz)) (va_A (ws) sz)) (by decide) rfl (Nat.le_of_ble_eq_true rfl) ?_
  intro p0 e0 s m below meth c0 ls hx hb hr hml hts hown hlocks hin hE hP hD hl
  have hS : va_S (va_A (ws) s.heap.size) s.heap s.heap [] := va_S.rf
  have hA : ∀ q, s.heap.size ≤ q → (va_A (ws) s.heap.size) q := fun q h => Or.inr h
  have hown : s.vm.findClass RX2 = some m.cls := hown
  have hl : lv_has ls 4 [(0, .ref a), (1, .int c), (2, .int lim), (3, .int tm)] := hl
  have hinX3 : ∀ w ∈ wsX30, w ∈ wsX2_init := by decide +kernel
  have hlen : k < ws.length := (List.getElem?_eq_some_iff.mp hC).1
  refine lv_aload_n hx hb dX2_init_0 rfl (lv_at hl 0 rfl) ?_
  refine lv_iload_n hx hb dX2_init_1 rfl (lv_at hl 1 rfl) ?_
  refine lv_iload_n hx hb dX2_init_2 rfl (lv_at hl 2 rfl) ?_
  refine cW_v (va_runI ⟨hx, hb, hml, hown, hts⟩ (c_X1_init_2 l E ws k a v0 v1 v2 v3 v4 hC c lim _) (cwI 2 hts gX2_init_X1_init rfl rfl rfl (hts (.initialized RX1) (by decide +kernel)) (hts (.methodLink RX2 1 yX1_init) (by decide +kernel)) (hts (.instanceMethod yX1_init) (by decide +kernel)) rfl (by decide +kernel) ⟨Nat.le_of_ble_eq_true rfl, Nat.le_of_ble_eq_true rfl⟩) (ePw_S hP hD hE) rfl rfl hl.1 rfl (lv_room (Nat.le_of_ble_eq_true rfl)) dX2_init_3 ⟨Nat.le_of_ble_eq_true rfl, Nat.le_of_ble_eq_true rfl⟩) hS hD hA (fun ws9 H locs hr9 hP hD hS => ?_)
  obtain ⟨b, rfl⟩ := hr9
  have hlen2 : k < (ws ++ [(b, xI E 33 (fun _ => nI 0))]).length := by rw [List.length_append]; omega
  refine lv_aload_n hx hb dX2_init_6 rfl (lv_at hl 0 rfl) ?_
  refine lv_iload_n hx hb dX2_init_7 rfl (lv_at hl 3 rfl) ?_
  refine va_putF (D := E.1) (ci := 3) (ty := .int) (C := RX3) (T := TX3) (N := 5) hx hb hts hinX3 tyX3 tyX3_ok nmX3 hown hE.1 hP hD hS k (List.getElem?_set_self hlen2) rfl 0 (by decide) (hts (.fieldLink RX2 7 "StakeHouse$LongGame" "times" "I") (by decide +kernel)) (fun _ h9 => h9) rfl hin.symm rfl (by decide +kernel) rfl rfl (Nat.le_of_ble_eq_true rfl) dX2_init_8 (fun H locs hP hD hS => ?_)
  have hP : va_P E.1 vwCl ((ws ++ [(b, xI E 33 (fun _ => nI 0))]).set k (a, .inr (3, [.int tm, .int c, .int lim, .ref b, v4]))) H := (by rw [List.set_set] at hP; exact hP)
  have hD : va_D (va_A (ws) s.heap.size) ((ws ++ [(b, xI E 33 (fun _ => nI 0))]).set k (a, .inr (3, [.int tm, .int c, .int lim, .ref b, v4]))) := (by rw [List.set_set] at hD; exact hD)
  exact ret_Wv hx hb hr hlocks dX2_init_11 hP hD hS ⟨b, rfl⟩
set_option maxHeartbeats 4000000 in
set_option maxRecDepth 100000 in
/-- TaxedGame.<init> -/
theorem c_X3_init (l : Launch) (E : eT) (ws : va_W) (k a : Nat) (v0 v1 v2 v3 v4 : Value) (hC : ws[k]? = some (a, .inr (3, [v0, v1, v2, v3, v4]))) (c lim tm tx : Int32) : mWv l yX3_init wsX3_init 3 70 1 33 E (ws) [.ref a, .int c, .int lim, .int tm, .int tx] (fun ws1 => ∃ b : Nat, ws1 = (ws ++ [(b, xI E 33 (fun _ => nI 0))]).set k (a, .inr (3, [.int tm, .int c, .int lim, .ref b, .int tx]))) := by
  intro sz
  refine mW_of (cc := cX3_init) (maxL := 5) (ret := none) (Qc := fun sz => va_Qv (fun ws1 => ∃ b : Nat, ws1 = (ws ++ [(b, xI E 33 (fun _ => nI 0))]).set k (a, .inr (3, [.int tm, .int c, .int lim, .ref b, .int tx]))) (eAt E (va_A (ws) sz)) (va_A (ws) sz)) (by decide) rfl (Nat.le_of_ble_eq_true rfl) ?_
  intro p0 e0 s m below meth c0 ls hx hb hr hml hts hown hlocks hin hE hP hD hl
  have hS : va_S (va_A (ws) s.heap.size) s.heap s.heap [] := va_S.rf
  have hA : ∀ q, s.heap.size ≤ q → (va_A (ws) s.heap.size) q := fun q h => Or.inr h
  have hown : s.vm.findClass RX3 = some m.cls := hown
  have hl : lv_has ls 5 [(0, .ref a), (1, .int c), (2, .int lim), (3, .int tm), (4, .int tx)] := hl
  have hinX3 : ∀ w ∈ wsX30, w ∈ wsX3_init := by decide +kernel
  have hlen : k < ws.length := (List.getElem?_eq_some_iff.mp hC).1
  refine lv_aload_n hx hb dX3_init_0 rfl (lv_at hl 0 rfl) ?_
  refine lv_iload_n hx hb dX3_init_1 rfl (lv_at hl 1 rfl) ?_
  refine lv_iload_n hx hb dX3_init_2 rfl (lv_at hl 2 rfl) ?_
  refine lv_iload_n hx hb dX3_init_3 rfl (lv_at hl 3 rfl) ?_
  refine cW_v (va_runI ⟨hx, hb, hml, hown, hts⟩ (c_X2_init_2 l E ws k a v0 v1 v2 v3 v4 hC c lim tm _) (cwI 3 hts gX3_init_X2_init rfl rfl rfl (hts (.initialized RX2) (by decide +kernel)) (hts (.methodLink RX3 3 yX2_init) (by decide +kernel)) (hts (.instanceMethod yX2_init) (by decide +kernel)) rfl (by decide +kernel) ⟨Nat.le_of_ble_eq_true rfl, Nat.le_of_ble_eq_true rfl⟩) (ePw_S hP hD hE) rfl rfl hl.1 rfl (lv_room (Nat.le_of_ble_eq_true rfl)) dX3_init_4 ⟨Nat.le_of_ble_eq_true rfl, Nat.le_of_ble_eq_true rfl⟩) hS hD hA (fun ws9 H locs hr9 hP hD hS => ?_)
  obtain ⟨b, rfl⟩ := hr9
  have hlen2 : k < (ws ++ [(b, xI E 33 (fun _ => nI 0))]).length := by rw [List.length_append]; omega
  refine lv_aload_n hx hb dX3_init_7 rfl (lv_at hl 0 rfl) ?_
  refine lv_iload hx hb dX3_init_8 (lv_at hl 4 rfl) ?_
  refine va_putF (D := E.1) (ci := 3) (ty := .int) (C := RX3) (T := TX3) (N := 5) hx hb hts hinX3 tyX3 tyX3_ok nmX3 hown hE.1 hP hD hS k (List.getElem?_set_self hlen2) rfl 4 (by decide) (hts (.fieldLink RX3 9 "StakeHouse$TaxedGame" "tax" "I") (by decide +kernel)) (fun _ h9 => h9) rfl hin.symm rfl (by decide +kernel) rfl rfl (Nat.le_of_ble_eq_true rfl) dX3_init_10 (fun H locs hP hD hS => ?_)
  have hP : va_P E.1 vwCl ((ws ++ [(b, xI E 33 (fun _ => nI 0))]).set k (a, .inr (3, [.int tm, .int c, .int lim, .ref b, .int tx]))) H := (by rw [List.set_set] at hP; exact hP)
  have hD : va_D (va_A (ws) s.heap.size) ((ws ++ [(b, xI E 33 (fun _ => nI 0))]).set k (a, .inr (3, [.int tm, .int c, .int lim, .ref b, .int tx]))) := (by rw [List.set_set] at hD; exact hD)
  exact ret_Wv hx hb hr hlocks dX3_init_13 hP hD hS ⟨b, rfl⟩
/-- the five numbers of a call of game() that tell a game -/
def gArg (d : gT) (kv cv mv xv lv : Int32) : Prop := gOk d ∧ kv = nI (gK d) ∧ cv = nI (gC d) ∧ lv = nI (gL d) ∧ (gK d ≠ 0 → mv = nI (gM d)) ∧ (gK d = 2 → xv = nI (gX d))
set_option maxHeartbeats 4000000 in
set_option maxRecDepth 100000 in
/-- newGame -/
theorem c_newGame (l : Launch) (E : eT) (ws : va_W) (d : gT) (kv cv mv xv lv : Int32) (hd : gArg d kv cv mv xv lv) : mWr l yX4_newGame wsX4_newGame 4 95 2 38 E (ws) [.int kv, .int cv, .int mv, .int xv, .int lv] (fun u : Nat × va_W => ∃ b : Nat, u.2 = ws ++ [(u.1, gmE d b), (b, xI E 33 (fun _ => nI 0))]) := by
  intro sz
  refine mW_of (cc := cX4_newGame) (maxL := 5) (ret := (some (.object "StakeHouse$EvenGame"))) (Qc := fun sz => va_Qr (fun u : Nat × va_W => ∃ b : Nat, u.2 = ws ++ [(u.1, gmE d b), (b, xI E 33 (fun _ => nI 0))]) (fun u a t => u.1 = a ∧ eAt E (va_A (ws) sz) u.2 t) (va_A (ws) sz)) (by decide) rfl (Nat.le_of_ble_eq_true rfl) ?_
  intro p0 e0 s m below meth c0 ls hx hb hr hml hts hown hlocks hin hE hP hD hl
  have hS : va_S (va_A (ws) s.heap.size) s.heap s.heap [] := va_S.rf
  have hA : ∀ q, s.heap.size ≤ q → (va_A (ws) s.heap.size) q := fun q h => Or.inr h
  have hown : s.vm.findClass RX4 = some m.cls := hown
  have hl : lv_has ls 5 [(0, .int kv), (1, .int cv), (2, .int mv), (3, .int xv), (4, .int lv)] := hl
  have hinX1 : ∀ w ∈ wsX10, w ∈ wsX4_newGame := by decide +kernel
  have hinX2 : ∀ w ∈ wsX20, w ∈ wsX4_newGame := by decide +kernel
  have hinX3 : ∀ w ∈ wsX30, w ∈ wsX4_newGame := by decide +kernel
  obtain ⟨hd, rfl, rfl, rfl, hm, hx9⟩ := hd
  have hK2 := hd.1
  refine lv_iload_n hx hb dX4_newGame_0 rfl (lv_at hl 0 rfl) ?_
  refine lv_iconst (v := nI 2) hx hb dX4_newGame_1 (by decide) ?_
  refine n_ne hx hb (by omega) (by omega) 18 dX4_newGame_2 (by decide) (fun c2 => ?_) (fun c2 => ?_)
  · skip
    refine lv_iload_n hx hb dX4_newGame_18 rfl (lv_at hl 0 rfl) ?_
    refine lv_iconst (v := nI 1) hx hb dX4_newGame_19 (by decide) ?_
    refine n_ne hx hb (by omega) (by omega) 35 dX4_newGame_20 (by decide) (fun c20 => ?_) (fun c20 => ?_)
    · skip
      refine va_new (ci := 1) (fs := [.int (nI 0), .int (nI 0), .null]) (C := RX1) (T := TX1) (N := 3) hx hb hts hinX1 tyX1 tyX1_ok hown (hts (.classLink RX4 9 RX1) (by decide +kernel)) (hts (.instantiable RX1 3) (by decide +kernel)) (hts (.initialized RX1) (by decide +kernel)) hE.1 hP hD hS hA rfl (fun j hj => by rcases (show j = 0 ∨ j = 1 ∨ j = 2 by omega) with rfl | rfl | rfl <;> rfl) (Nat.le_of_ble_eq_true rfl) (Nat.le_of_ble_eq_true rfl) dX4_newGame_35 (fun q H hP hD hS => ?_)
      refine lv_dup hx hb dX4_newGame_38 rfl ?_
      refine lv_iload_n hx hb dX4_newGame_39 rfl (lv_at hl 1 rfl) ?_
      refine lv_iload hx hb dX4_newGame_40 (lv_at hl 4 rfl) ?_
      refine cW_v (va_runI ⟨hx, hb, hml, hown, hts⟩ (c_X1_init_0 l E _ ws.length q (.int (nI 0)) (.int (nI 0)) .null (app_last _ _) (nI (gC d)) (nI (gL d)) _) (cwI 2 hts gX4_newGame_X1_init rfl rfl rfl (hts (.initialized RX1) (by decide +kernel)) (hts (.methodLink RX4 132 yX1_init) (by decide +kernel)) (hts (.instanceMethod yX1_init) (by decide +kernel)) rfl (by decide +kernel) ⟨Nat.le_of_ble_eq_true rfl, Nat.le_of_ble_eq_true rfl⟩) (ePw_S hP hD hE) rfl rfl hl.1 rfl (lv_room (Nat.le_of_ble_eq_true rfl)) dX4_newGame_42 ⟨Nat.le_of_ble_eq_true rfl, Nat.le_of_ble_eq_true rfl⟩) hS hD hA (fun ws9 H locs hr9 hP hD hS => ?_)
      obtain ⟨b, rfl⟩ := hr9
      rw [app_s1] at hP hD
      refine W.widen (k := 2) (n := 38) (by decide) (by decide) ?_
      exact ret_Wr hx hb hr (Or.inl ⟨_, rfl⟩) hlocks dX4_newGame_45 hP hD hS ⟨b, by rw [gmE_0 (by omega)]⟩
    · skip
      refine va_new (ci := 2) (fs := [.int (nI 0), .int (nI 0), .null, .int (nI 0)]) (C := RX2) (T := TX2) (N := 4) hx hb hts hinX2 tyX2 tyX2_ok hown (hts (.classLink RX4 127 RX2) (by decide +kernel)) (hts (.instantiable RX2 4) (by decide +kernel)) (hts (.initialized RX2) (by decide +kernel)) hE.1 hP hD hS hA rfl (fun j hj => by rcases (show j = 0 ∨ j = 1 ∨ j = 2 ∨ j = 3 by omega) with rfl | rfl | rfl | rfl <;> rfl) (Nat.le_of_ble_eq_true rfl) (Nat.le_of_ble_eq_true rfl) dX4_newGame_23 (fun q H hP hD hS => ?_)
      refine lv_dup hx hb dX4_newGame_26 rfl ?_
      refine lv_iload_n hx hb dX4_newGame_27 rfl (lv_at hl 1 rfl) ?_
      refine lv_iload hx hb dX4_newGame_28 (lv_at hl 4 rfl) ?_
      refine lv_iload_n hx hb dX4_newGame_30 rfl (lv_at hl 2 rfl) ?_
      refine cW_v (va_runI ⟨hx, hb, hml, hown, hts⟩ (c_X2_init_1 l E _ ws.length q (.int (nI 0)) (.int (nI 0)) .null (.int (nI 0)) (app_last _ _) (nI (gC d)) (nI (gL d)) mv _) (cwI 3 hts gX4_newGame_X2_init rfl rfl rfl (hts (.initialized RX2) (by decide +kernel)) (hts (.methodLink RX4 129 yX2_init) (by decide +kernel)) (hts (.instanceMethod yX2_init) (by decide +kernel)) rfl (by decide +kernel) ⟨Nat.le_of_ble_eq_true rfl, Nat.le_of_ble_eq_true rfl⟩) (ePw_S hP hD hE) rfl rfl hl.1 rfl (lv_room (Nat.le_of_ble_eq_true rfl)) dX4_newGame_31 ⟨Nat.le_of_ble_eq_true rfl, Nat.le_of_ble_eq_true rfl⟩) hS hD hA (fun ws9 H locs hr9 hP hD hS => ?_)
      obtain ⟨b, rfl⟩ := hr9
      rw [app_s1] at hP hD
      refine W.widen (k := 2) (n := 38) (by decide) (by decide) ?_
      rw [hm (by omega)] at hP hD
      exact ret_Wr hx hb hr (Or.inl ⟨_, rfl⟩) hlocks dX4_newGame_34 hP hD hS ⟨b, by rw [gmE_1 (by omega)]⟩
  · skip
    refine va_new (ci := 3) (fs := [.int (nI 0), .int (nI 0), .int (nI 0), .null, .int (nI 0)]) (C := RX3) (T := TX3) (N := 5) hx hb hts hinX3 tyX3 tyX3_ok hown (hts (.classLink RX4 122 RX3) (by decide +kernel)) (hts (.instantiable RX3 5) (by decide +kernel)) (hts (.initialized RX3) (by decide +kernel)) hE.1 hP hD hS hA rfl (fun j hj => by rcases (show j = 0 ∨ j = 1 ∨ j = 2 ∨ j = 3 ∨ j = 4 by omega) with rfl | rfl | rfl | rfl | rfl <;> rfl) (Nat.le_of_ble_eq_true rfl) (Nat.le_of_ble_eq_true rfl) dX4_newGame_5 (fun q H hP hD hS => ?_)
    refine lv_dup hx hb dX4_newGame_8 rfl ?_
    refine lv_iload_n hx hb dX4_newGame_9 rfl (lv_at hl 1 rfl) ?_
    refine lv_iload hx hb dX4_newGame_10 (lv_at hl 4 rfl) ?_
    refine lv_iload_n hx hb dX4_newGame_12 rfl (lv_at hl 2 rfl) ?_
    refine lv_iload_n hx hb dX4_newGame_13 rfl (lv_at hl 3 rfl) ?_
    refine cW_v (va_runI ⟨hx, hb, hml, hown, hts⟩ (c_X3_init l E _ ws.length q (.int (nI 0)) (.int (nI 0)) (.int (nI 0)) .null (.int (nI 0)) (app_last _ _) (nI (gC d)) (nI (gL d)) mv xv _) (cwI 4 hts gX4_newGame_X3_init rfl rfl rfl (hts (.initialized RX3) (by decide +kernel)) (hts (.methodLink RX4 124 yX3_init) (by decide +kernel)) (hts (.instanceMethod yX3_init) (by decide +kernel)) rfl (by decide +kernel) ⟨Nat.le_of_ble_eq_true rfl, Nat.le_of_ble_eq_true rfl⟩) (ePw_S hP hD hE) rfl rfl hl.1 rfl (lv_room (Nat.le_of_ble_eq_true rfl)) dX4_newGame_14 ⟨Nat.le_of_ble_eq_true rfl, Nat.le_of_ble_eq_true rfl⟩) hS hD hA (fun ws9 H locs hr9 hP hD hS => ?_)
    obtain ⟨b, rfl⟩ := hr9
    rw [app_s1] at hP hD
    refine W.widen (k := 2) (n := 38) (by decide) (by decide) ?_
    rw [hm (by omega), hx9 (by omega)] at hP hD
    exact ret_Wr hx hb hr (Or.inl ⟨_, rfl⟩) hlocks dX4_newGame_17 hP hD hS ⟨b, by rw [gmE_2 (by omega)]⟩
section AG
variable {p : Program} {l : Launch} {e : Env} {R : Room} {s : State} {m : MethodId} {args : Array Value} {below : List Frame} {meth : Method} {c : Code} {H : Heap} {locs : List Loc} {cells slots : Nat} {Q : State → Prop}
variable {cc : ByteArray} {pc : Nat} {ls : Array Slot} {rest : List Value} {E : eT} {ws : va_W} {A0 : Nat → Prop} {H0 : Heap}
theorem ast_game (hexec : p.tables.exec = Jvm.exec) (hb : c.code = cc) (hE : eEv E s) (hP : va_P E.1 vwCl ws H) (hD : va_D A0 ws) (hS : va_S A0 H0 H locs) {k v b x i ad9 : Nat} {d : gT} {f : Nat → Option Nat} (ha : ws[x]? = some (ad9, xGr E f)) (hg : ws[k]? = some (v, gmE d b)) (hi : i < 4) (hdg : decode cc pc = .ok (.aastore, 1))
    (kk : ∀ (H : Heap) (locs : List Loc), va_P E.1 vwCl (ws.set x (ad9, xGr E (va_up f i (some v)))) H → va_D A0 (ws.set x (ad9, xGr E (va_up f i (some v)))) → va_S A0 H0 H locs → W p l e R s m args below meth c H locs cells slots Q (F0 m (pc + 1) ls rest)) : W p l e R s m args below meth c H locs cells slots Q (F0 m pc ls (.ref v :: .int (nI i) :: .ref ad9 :: rest)) := by
  have hc2 : va_Nw (.castable RX2 RX1) s := hE.2 _ (by decide +kernel)
  have hc3 : va_Nw (.castable RX3 RX1) s := hE.2 _ (by decide +kernel)
  have hin : vp_in (nI i) 4 := vp_in_nI hi (by decide)
  have e : (nI i).toNatClampNeg = i := nI_clamp (by omega)
  unfold gmE at hg
  split at hg
  · exact va_astq hexec hb hE.1 hP hD hS x 2 k 1 ha rfl hg rfl hin hdg (fun H locs hP hD hS => kk H locs (by rw [e] at hP; exact hP) (by rw [e] at hD; exact hD) hS)
  · split at hg
    · exact va_astqO hexec hb hE.1 hP hD hS x 2 k 2 ha rfl hc2 hg rfl hin hdg (fun H locs hP hD hS => kk H locs (by rw [e] at hP; exact hP) (by rw [e] at hD; exact hD) hS)
    · exact va_astqO hexec hb hE.1 hP hD hS x 2 k 3 ha rfl hc3 hg rfl hin hdg (fun H locs hP hD hS => kk H locs (by rw [e] at hP; exact hP) (by rw [e] at hD; exact hD) hS)
end AG
theorem gArg_of {kv cv mv xv lv : Int32} (h1 : nI 0 ≤ kv ∧ kv ≤ nI 2) (h2 : nI 0 ≤ cv ∧ cv ≤ nI 16) (h3 : nI 1 ≤ lv ∧ lv ≤ nI 32) (h4 : kv ≠ 0 → nI 1 ≤ mv ∧ mv ≤ nI 9) (h5 : kv = nI 2 → nI 0 ≤ xv ∧ xv ≤ nI 10) : ∃ d : gT, gArg d kv cv mv xv lv := by
  obtain ⟨k, -, hk, rfl⟩ := nI_rng (by decide) h1 (by decide)
  obtain ⟨c, -, hc, rfl⟩ := nI_rng (by decide) h2 (by decide)
  obtain ⟨lm, hl1, hl2, rfl⟩ := nI_rng (by decide) h3 (by decide)
  have e0 : nI k = 0 ↔ k = 0 := nI_eq (by omega) (b := 0) (by decide)
  have e2 : nI k = nI 2 ↔ k = 2 := nI_eq (by omega) (by decide)
  by_cases k0 : k = 0
  · exact ⟨(k, c, 0, 0, lm), ⟨hk, hc, fun h => absurd k0 h, fun h => by have h9 : k = 2 := h; omega, hl1, hl2⟩, rfl, rfl, rfl, fun h => absurd k0 h, fun h => by have h9 : k = 2 := h; omega⟩
  · obtain ⟨mm, hm1, hm2, rfl⟩ := nI_rng (by decide) (h4 (fun q => k0 (e0.mp q))) (by decide)
    by_cases k2 : k = 2
    · obtain ⟨xx, -, hx2, rfl⟩ := nI_rng (by decide) (h5 (e2.mpr k2)) (by decide)
      exact ⟨(k, c, mm, xx, lm), ⟨hk, hc, fun _ => ⟨hm1, hm2⟩, fun _ => hx2, hl1, hl2⟩, rfl, rfl, rfl, fun _ => rfl, fun _ => rfl⟩
    · exact ⟨(k, c, mm, 0, lm), ⟨hk, hc, fun _ => ⟨hm1, hm2⟩, fun h => absurd h k2, hl1, hl2⟩, rfl, rfl, rfl, fun _ => rfl, fun h => absurd h k2⟩
theorem gArg_1 {d : gT} {kv cv mv xv lv : Int32} (h : gArg d kv cv mv xv lv) : (nI 0 ≤ kv ∧ kv ≤ nI 2) ∧ (nI 0 ≤ cv ∧ cv ≤ nI 16) ∧ (nI 1 ≤ lv ∧ lv ≤ nI 32) ∧ (kv ≠ 0 → nI 1 ≤ mv ∧ mv ≤ nI 9) ∧ (kv = nI 2 → nI 0 ≤ xv ∧ xv ≤ nI 10) := by
  obtain ⟨⟨h1, h2, h3, h4, h5, h6⟩, rfl, rfl, rfl, hm, hx⟩ := h
  have e0 : nI (gK d) = 0 ↔ gK d = 0 := nI_eq (by omega) (b := 0) (by decide)
  have e2 : nI (gK d) = nI 2 ↔ gK d = 2 := nI_eq (by omega) (by decide)
  refine ⟨(nI_rngI (by omega) (by decide) (by decide)).mpr ⟨by omega, h1⟩, (nI_rngI (by omega) (by decide) (by decide)).mpr ⟨by omega, h2⟩, (nI_rngI (by omega) (by decide) (by decide)).mpr ⟨h5, h6⟩, fun q => ?_, fun q => ?_⟩
  · have h9 := h3 (fun z => q (e0.mpr z))
    rw [hm (fun z => q (e0.mpr z))]
    exact (nI_rngI (by omega) (by decide) (by decide)).mpr h9
  · rw [hx (e2.mp q)]
    have h9 := h4 (e2.mp q)
    exact (nI_rngI (by omega) (by decide) (by decide)).mpr ⟨by omega, h9⟩
set_option maxHeartbeats 4000000 in
set_option maxRecDepth 100000 in
/-- game -/
theorem c_game (l : Launch) (E : eT) (ad : Nat → Nat) (g hz n : Nat) (mk : Int64) (td : Nat → Int32) (gr : Nat → Option Nat) (cf ce ck : Nat → Nat) (rv : Nat → Nat → Int64) (st : Nat → Int32) (wo : Nat → Nat → Int64) (rest : va_W) (hn : n ≤ 4) (kv cv mv xv lv : Int32) : mWi l yX4_game wsX4_game 5 125 2 38 E (wX E ad g hz n mk td gr cf ce ck rv st wo ++ rest) [.ref (ad 0), .int kv, .int cv, .int mv, .int xv, .int lv] (fun r ws1 => ((¬ ∃ d : gT, gArg d kv cv mv xv lv) ∧ r = -1 ∧ ws1 = wX E ad g hz n mk td gr cf ce ck rv st wo ++ rest) ∨ ((∃ d : gT, gArg d kv cv mv xv lv) ∧ n = 4 ∧ r = -3 ∧ ws1 = wX E ad g hz n mk td gr cf ce ck rv st wo ++ rest) ∨ (∃ (d : gT) (q b : Nat), gArg d kv cv mv xv lv ∧ n < 4 ∧ r = nI n ∧ ws1 = wX E ad g hz (n + 1) mk td (va_up gr n (some q)) cf ce (fun _ => 0) rv st wo ++ (rest ++ [(q, gmE d b), (b, gnE E d)]))) := by
  intro sz
  refine mW_of (cc := cX4_game) (maxL := 7) (ret := (some .int)) (Qc := fun sz => va_Qi (fun r ws1 => ((¬ ∃ d : gT, gArg d kv cv mv xv lv) ∧ r = -1 ∧ ws1 = wX E ad g hz n mk td gr cf ce ck rv st wo ++ rest) ∨ ((∃ d : gT, gArg d kv cv mv xv lv) ∧ n = 4 ∧ r = -3 ∧ ws1 = wX E ad g hz n mk td gr cf ce ck rv st wo ++ rest) ∨ (∃ (d : gT) (q b : Nat), gArg d kv cv mv xv lv ∧ n < 4 ∧ r = nI n ∧ ws1 = wX E ad g hz (n + 1) mk td (va_up gr n (some q)) cf ce (fun _ => 0) rv st wo ++ (rest ++ [(q, gmE d b), (b, gnE E d)]))) (eAt E (va_A (wX E ad g hz n mk td gr cf ce ck rv st wo ++ rest) sz)) (va_A (wX E ad g hz n mk td gr cf ce ck rv st wo ++ rest) sz)) (by decide) rfl (Nat.le_of_ble_eq_true rfl) ?_
  intro p0 e0 s m below meth c0 ls hx hb hr hml hts hown hlocks hin hE hP hD hl
  have hS : va_S (va_A (wX E ad g hz n mk td gr cf ce ck rv st wo ++ rest) s.heap.size) s.heap s.heap [] := va_S.rf
  have hA : ∀ q, s.heap.size ≤ q → (va_A (wX E ad g hz n mk td gr cf ce ck rv st wo ++ rest) s.heap.size) q := fun q h => Or.inr h
  have hown : s.vm.findClass RX4 = some m.cls := hown
  have hl : lv_has ls 7 [(0, .ref (ad 0)), (1, .int kv), (2, .int cv), (3, .int mv), (4, .int xv), (5, .int lv)] := hl
  have hinX4 : ∀ w ∈ wsX40, w ∈ wsX4_game := by decide +kernel
  refine lv_iload_n hx hb dX4_game_0 rfl (lv_at hl 1 rfl) ?_
  refine lv_iconst (v := nI 0) hx hb dX4_game_1 (by decide) ?_
  refine lv_iconst (v := nI 2) hx hb dX4_game_2 (by decide) ?_
  refine vp_callSi (W.runS ⟨hx, hb, hml, hown, hts⟩ (c_within l E _ _ _ _) (va_cwS 3 hts gX4_game_X4_within rfl rfl rfl (by decide +kernel) ⟨Nat.le_of_ble_eq_true rfl, Nat.le_of_ble_eq_true rfl⟩) (ePu_S hP hE) rfl rfl hl.1 rfl (lv_room (Nat.le_of_ble_eq_true rfl)) dX4_game_3 ⟨Nat.zero_le _, Nat.zero_le _⟩) (fun r9 hr9 => ?_)
  subst hr9
  refine q_eq hx hb 30 dX4_game_6 (by decide) (fun c6 => ?_) (fun c6 => ?_)
  · skip
    refine lv_iconst (v := (-1)) hx hb dX4_game_30 (by decide) ?_
    refine W.widen (k := 2) (n := 38) (by decide) (by decide) ?_
    exact ret_Wi hx hb hr hlocks dX4_game_31 hP hD hS (Or.inl ⟨fun ⟨d, hd⟩ => c6 (gArg_1 hd).1, rfl, rfl⟩)
  · skip
    refine lv_iload_n hx hb dX4_game_9 rfl (lv_at hl 2 rfl) ?_
    refine lv_iconst (v := nI 0) hx hb dX4_game_10 (by decide) ?_
    refine lv_bipush (v := nI 16) hx hb dX4_game_11 (by decide) ?_
    refine vp_callSi (W.runS ⟨hx, hb, hml, hown, hts⟩ (c_within l E _ _ _ _) (va_cwS 3 hts gX4_game_X4_within rfl rfl rfl (by decide +kernel) ⟨Nat.le_of_ble_eq_true rfl, Nat.le_of_ble_eq_true rfl⟩) (ePu_S hP hE) rfl rfl hl.1 rfl (lv_room (Nat.le_of_ble_eq_true rfl)) dX4_game_13 ⟨Nat.zero_le _, Nat.zero_le _⟩) (fun r9 hr9 => ?_)
    subst hr9
    refine q_eq hx hb 30 dX4_game_16 (by decide) (fun c16 => ?_) (fun c16 => ?_)
    · skip
      refine lv_iconst (v := (-1)) hx hb dX4_game_30 (by decide) ?_
      refine W.widen (k := 2) (n := 38) (by decide) (by decide) ?_
      exact ret_Wi hx hb hr hlocks dX4_game_31 hP hD hS (Or.inl ⟨fun ⟨d, hd⟩ => c16 (gArg_1 hd).2.1, rfl, rfl⟩)
    · skip
      refine lv_iload hx hb dX4_game_19 (lv_at hl 5 rfl) ?_
      refine lv_iconst (v := nI 1) hx hb dX4_game_21 (by decide) ?_
      refine lv_bipush (v := nI 32) hx hb dX4_game_22 (by decide) ?_
      refine vp_callSi (W.runS ⟨hx, hb, hml, hown, hts⟩ (c_within l E _ _ _ _) (va_cwS 3 hts gX4_game_X4_within rfl rfl rfl (by decide +kernel) ⟨Nat.le_of_ble_eq_true rfl, Nat.le_of_ble_eq_true rfl⟩) (ePu_S hP hE) rfl rfl hl.1 rfl (lv_room (Nat.le_of_ble_eq_true rfl)) dX4_game_24 ⟨Nat.zero_le _, Nat.zero_le _⟩) (fun r9 hr9 => ?_)
      subst hr9
      refine q_ne hx hb 32 dX4_game_27 (by decide) (fun c27 => ?_) (fun c27 => ?_)
      · skip
        refine lv_iload_n hx hb dX4_game_32 rfl (lv_at hl 1 rfl) ?_
        refine lv_if_eq (tgt := 48) hx hb dX4_game_33 (by decide) (fun c33 => ?_) (fun c33 => ?_)
        · skip
          have h4 : kv ≠ 0 → nI 1 ≤ mv ∧ mv ≤ nI 9 := fun q => absurd c33 q
          refine lv_iload_n hx hb dX4_game_48 rfl (lv_at hl 1 rfl) ?_
          refine lv_iconst (v := nI 2) hx hb dX4_game_49 (by decide) ?_
          refine lv_icmp_ne (tgt := 66) hx hb dX4_game_50 (by decide) (fun c50 => ?_) (fun c50 => ?_)
          · skip
            have h5 : kv = nI 2 → nI 0 ≤ xv ∧ xv ≤ nI 10 := fun q => absurd q c50
            have hex := gArg_of c6 c16 c27 h4 h5
            obtain ⟨d, hd⟩ := id hex
            refine lv_aload_n hx hb dX4_game_66 rfl (lv_at hl 0 rfl) ?_
            refine va_get (D := E.1) (ci := 4) (C := RX4) (T := TX4) (N := 11) hx hb hts hinX4 hown hE.1 hP 0 rfl rfl 9 (by decide) (hts (.fieldLink RX4 49 "StakeHouse" "held" "I") (by decide +kernel)) (fun _ h9 => h9) rfl dX4_game_67 ?_
            refine lv_iconst (v := nI 4) hx hb dX4_game_70 (by decide) ?_
            refine n_lt hx hb (by omega) (by omega) 77 dX4_game_71 (by decide) (fun c71 => ?_) (fun c71 => ?_)
            · skip
              have hK9 : gK d = 0 ∨ gK d = 1 ∨ gK d = 2 := by have := hd.1.1; omega
              refine lv_iload_n hx hb dX4_game_77 rfl (lv_at hl 1 rfl) ?_
              refine lv_iload_n hx hb dX4_game_78 rfl (lv_at hl 2 rfl) ?_
              refine lv_iload_n hx hb dX4_game_79 rfl (lv_at hl 3 rfl) ?_
              refine lv_iload hx hb dX4_game_80 (lv_at hl 4 rfl) ?_
              refine lv_iload hx hb dX4_game_82 (lv_at hl 5 rfl) ?_
              refine cW_r (va_runS ⟨hx, hb, hml, hown, hts⟩ (c_newGame l E _ d kv cv mv xv lv hd _) (va_cwS 5 hts gX4_game_X4_newGame rfl rfl rfl (by decide +kernel) ⟨Nat.le_of_ble_eq_true rfl, Nat.le_of_ble_eq_true rfl⟩) (ePw_S hP hD hE) rfl rfl hl.1 rfl (lv_room (Nat.le_of_ble_eq_true rfl)) dX4_game_84 ⟨Nat.le_of_ble_eq_true rfl, Nat.le_of_ble_eq_true rfl⟩) hS hD hA (fun r9 ws9 H locs hr9 hP hD hS => ?_)
              obtain ⟨b, hr9⟩ := hr9
              dsimp only at hr9
              subst hr9
              rw [List.append_assoc] at hP hD
              have hgo := (wX_rest (E := E) (ad := ad) (g := g) (hz := hz) (n := n) (mk := mk) (td := td) (gr := gr) (cf := cf) (ce := ce) (ck := ck) (rv := rv) (st := st) (wo := wo)).trans (app_2a rest (r9, gmE d b) (b, xI E 33 (fun _ => nI 0)))
              have hbo := (wX_rest (E := E) (ad := ad) (g := g) (hz := hz) (n := n) (mk := mk) (td := td) (gr := gr) (cf := cf) (ce := ce) (ck := ck) (rv := rv) (st := st) (wo := wo)).trans (app_2b rest (r9, gmE d b) (b, xI E 33 (fun _ => nI 0)))
              refine st_a2 hx hb 6 dX4_game_87 hl (by decide) rfl (fun ls hl => ?_)
              refine lv_aload hx hb dX4_game_89 (lv_at hl 6 rfl) ?_
              refine wCutH (fun _ : Unit => F0 m 94 ls []) (fun _ H locs => va_P E.1 vwCl (wX E ad g hz n mk td gr cf ce ck rv st wo ++ (rest ++ [(r9, gmE d b), (b, gnE E d)])) H ∧ va_D (va_A (wX E ad g hz n mk td gr cf ce ck rv st wo ++ rest) s.heap.size) (wX E ad g hz n mk td gr cf ce ck rv st wo ++ (rest ++ [(r9, gmE d b), (b, gnE E d)])) ∧ va_S (va_A (wX E ad g hz n mk td gr cf ce ck rv st wo ++ rest) s.heap.size) s.heap H locs) ?_ ?_
              · skip
                rintro ⟨⟩ H locs ⟨hP, hD, hS⟩
                refine lv_aload_n hx hb dX4_game_94 rfl (lv_at hl 0 rfl) ?_
                refine va_get (D := E.1) (ci := 4) (C := RX4) (T := TX4) (N := 11) hx hb hts hinX4 hown hE.1 hP 0 rfl rfl 0 (by decide) (hts (.fieldLink RX4 11 "StakeHouse" "games" "[LStakeHouse$EvenGame;") (by decide +kernel)) (fun _ h9 => h9) rfl dX4_game_95 ?_
                refine lv_aload_n hx hb dX4_game_98 rfl (lv_at hl 0 rfl) ?_
                refine va_get (D := E.1) (ci := 4) (C := RX4) (T := TX4) (N := 11) hx hb hts hinX4 hown hE.1 hP 0 rfl rfl 9 (by decide) (hts (.fieldLink RX4 49 "StakeHouse" "held" "I") (by decide +kernel)) (fun _ h9 => h9) rfl dX4_game_99 ?_
                refine lv_aload hx hb dX4_game_102 (lv_at hl 6 rfl) ?_
                refine ast_game hx hb hE hP hD hS (x := 1) rfl (wX_rest.trans (app_2a rest (r9, gmE d b) (b, gnE E d))) c71 dX4_game_104 (fun H locs hP hD hS => ?_)
                have hP : va_P E.1 vwCl (wX E ad g hz n mk td (va_up gr n (some r9)) cf ce ck rv st wo ++ (rest ++ [(r9, gmE d b), (b, gnE E d)])) H := hP
                have hD : va_D (va_A (wX E ad g hz n mk td gr cf ce ck rv st wo ++ rest) s.heap.size) (wX E ad g hz n mk td (va_up gr n (some r9)) cf ce ck rv st wo ++ (rest ++ [(r9, gmE d b), (b, gnE E d)])) := hD
                refine lv_aload_n hx hb dX4_game_105 rfl (lv_at hl 0 rfl) ?_
                refine lv_dup hx hb dX4_game_106 rfl ?_
                refine va_get (D := E.1) (ci := 4) (C := RX4) (T := TX4) (N := 11) hx hb hts hinX4 hown hE.1 hP 0 rfl rfl 9 (by decide) (hts (.fieldLink RX4 49 "StakeHouse" "held" "I") (by decide +kernel)) (fun _ h9 => h9) rfl dX4_game_107 ?_
                refine lv_iconst (v := nI 1) hx hb dX4_game_110 (by decide) ?_
                refine lv_iadd hx hb dX4_game_111 ?_
                refine tp_i (nI_add _ _) ?_
                refine va_put (D := E.1) (ci := 4) (ty := .int) (C := RX4) (T := TX4) (N := 11) hx hb hts hinX4 tyX4 tyX4_ok nmX4 hown hE.1 hP hD hS 0 rfl rfl 9 (by decide) (hts (.fieldLink RX4 49 "StakeHouse" "held" "I") (by decide +kernel)) (fun _ h9 => h9) rfl (by decide +kernel) rfl rfl (Nat.le_of_ble_eq_true rfl) dX4_game_112 (fun H locs hP hD hS => ?_)
                have hP : va_P E.1 vwCl (wX E ad g hz (n + 1) mk td (va_up gr n (some r9)) cf ce ck rv st wo ++ (rest ++ [(r9, gmE d b), (b, gnE E d)])) H := hP
                have hD : va_D (va_A (wX E ad g hz n mk td gr cf ce ck rv st wo ++ rest) s.heap.size) (wX E ad g hz (n + 1) mk td (va_up gr n (some r9)) cf ce ck rv st wo ++ (rest ++ [(r9, gmE d b), (b, gnE E d)])) := hD
                refine lv_aload_n hx hb dX4_game_115 rfl (lv_at hl 0 rfl) ?_
                refine cW_v (va_runV ⟨hx, hb, hml, hown, hts⟩ (c_forgetCharts l E ad g hz (n + 1) mk td (va_up gr n (some r9)) cf ce ck rv st wo (rest ++ [(r9, gmE d b), (b, gnE E d)]) _) (cwV 0 hts gX4_game_X4_forgetCharts rfl rfl rfl (by decide +kernel) ⟨Nat.le_of_ble_eq_true rfl, Nat.le_of_ble_eq_true rfl⟩) (ePw_V hP hD hE (ci := 4) (k := 0) rfl rfl) rfl rfl hl.1 rfl (lv_room (Nat.le_of_ble_eq_true rfl)) dX4_game_116 ⟨Nat.le_of_ble_eq_true rfl, Nat.le_of_ble_eq_true rfl⟩) hS hD hA (fun ws9 H locs hr9 hP hD hS => ?_)
                subst hr9
                refine lv_aload_n hx hb dX4_game_119 rfl (lv_at hl 0 rfl) ?_
                refine va_get (D := E.1) (ci := 4) (C := RX4) (T := TX4) (N := 11) hx hb hts hinX4 hown hE.1 hP 0 rfl rfl 9 (by decide) (hts (.fieldLink RX4 49 "StakeHouse" "held" "I") (by decide +kernel)) (fun _ h9 => h9) rfl dX4_game_120 ?_
                refine lv_iconst (v := nI 1) hx hb dX4_game_123 (by decide) ?_
                refine lv_isub hx hb dX4_game_124 ?_
                refine tp_i (show _ = nI n from nI_pred n) ?_
                exact ret_Wi hx hb hr hlocks dX4_game_125 hP hD hS (Or.inr (Or.inr ⟨d, r9, b, hd, c71, rfl, rfl⟩))
              · skip
                intro K
                rcases hK9 with hk | hk | hk
                · skip
                  have hg1 := hgo.trans (congrArg (fun e => some (r9, e)) (gmE_0 (b := b) hk))
                  refine cW_v (va_runV ⟨hx, hb, hml, hown, hts⟩ (c_keepGains l E _ (52 + rest.length) r9 b d hd.1 hgo (52 + (rest.length + 1)) (by omega) hbo _) (cwV 0 hts gX4_game_X1_keepGains rfl rfl rfl (by decide +kernel) ⟨Nat.le_of_ble_eq_true rfl, Nat.le_of_ble_eq_true rfl⟩) (ePw_V hP hD hE (ci := 1) (k := (52 + rest.length)) rfl hg1) rfl rfl hl.1 rfl (lv_room (Nat.le_of_ble_eq_true rfl)) dX4_game_91 ⟨Nat.le_of_ble_eq_true rfl, Nat.le_of_ble_eq_true rfl⟩) hS hD hA (fun ws9 H locs hr9 hP hD hS => ?_)
                  subst hr9
                  rw [wX_setRest, app_s2] at hP hD
                  exact K () H locs ⟨hP, hD, hS⟩
                · skip
                  have hg1 := hgo.trans (congrArg (fun e => some (r9, e)) (gmE_1 (b := b) hk))
                  refine cW_v (va_runU (x := ⟨"StakeHouse$EvenGame", "keepGains", "()V"⟩) ⟨hx, hb, hml, hown, hts⟩ (c_keepGains l E _ (52 + rest.length) r9 b d hd.1 hgo (52 + (rest.length + 1)) (by omega) hbo _) (va_cwU 0 hts gX4_game_X1_keepGains_u68X2 rfl rfl rfl rfl (by decide +kernel) ⟨Nat.le_of_ble_eq_true rfl, Nat.le_of_ble_eq_true rfl⟩) (ePw_V hP hD hE (ci := 2) (k := (52 + rest.length)) rfl hg1) rfl rfl hl.1 rfl (lv_room (Nat.le_of_ble_eq_true rfl)) dX4_game_91 ⟨Nat.le_of_ble_eq_true rfl, Nat.le_of_ble_eq_true rfl⟩) hS hD hA (fun ws9 H locs hr9 hP hD hS => ?_)
                  subst hr9
                  rw [wX_setRest, app_s2] at hP hD
                  exact K () H locs ⟨hP, hD, hS⟩
                · skip
                  have hg1 := hgo.trans (congrArg (fun e => some (r9, e)) (gmE_2 (b := b) hk))
                  refine cW_v (va_runU (x := ⟨"StakeHouse$EvenGame", "keepGains", "()V"⟩) ⟨hx, hb, hml, hown, hts⟩ (c_keepGains l E _ (52 + rest.length) r9 b d hd.1 hgo (52 + (rest.length + 1)) (by omega) hbo _) (va_cwU 0 hts gX4_game_X1_keepGains_u68X3 rfl rfl rfl rfl (by decide +kernel) ⟨Nat.le_of_ble_eq_true rfl, Nat.le_of_ble_eq_true rfl⟩) (ePw_V hP hD hE (ci := 3) (k := (52 + rest.length)) rfl hg1) rfl rfl hl.1 rfl (lv_room (Nat.le_of_ble_eq_true rfl)) dX4_game_91 ⟨Nat.le_of_ble_eq_true rfl, Nat.le_of_ble_eq_true rfl⟩) hS hD hA (fun ws9 H locs hr9 hP hD hS => ?_)
                  subst hr9
                  rw [wX_setRest, app_s2] at hP hD
                  exact K () H locs ⟨hP, hD, hS⟩
            · skip
              refine lv_bipush (v := (-3)) hx hb dX4_game_74 (by decide) ?_
              refine W.widen (k := 2) (n := 38) (by decide) (by decide) ?_
              exact ret_Wi hx hb hr hlocks dX4_game_76 hP hD hS (Or.inr (Or.inl ⟨hex, by omega, rfl, rfl⟩))
          · skip
            refine lv_iload hx hb dX4_game_53 (lv_at hl 4 rfl) ?_
            refine lv_iconst (v := nI 0) hx hb dX4_game_55 (by decide) ?_
            refine lv_bipush (v := nI 10) hx hb dX4_game_56 (by decide) ?_
            refine vp_callSi (W.runS ⟨hx, hb, hml, hown, hts⟩ (c_within l E _ _ _ _) (va_cwS 3 hts gX4_game_X4_within rfl rfl rfl (by decide +kernel) ⟨Nat.le_of_ble_eq_true rfl, Nat.le_of_ble_eq_true rfl⟩) (ePu_S hP hE) rfl rfl hl.1 rfl (lv_room (Nat.le_of_ble_eq_true rfl)) dX4_game_58 ⟨Nat.zero_le _, Nat.zero_le _⟩) (fun r9 hr9 => ?_)
            subst hr9
            refine q_ne hx hb 66 dX4_game_61 (by decide) (fun c61 => ?_) (fun c61 => ?_)
            · skip
              have h5 : kv = nI 2 → nI 0 ≤ xv ∧ xv ≤ nI 10 := fun _ => c61
              have hex := gArg_of c6 c16 c27 h4 h5
              obtain ⟨d, hd⟩ := id hex
              refine lv_aload_n hx hb dX4_game_66 rfl (lv_at hl 0 rfl) ?_
              refine va_get (D := E.1) (ci := 4) (C := RX4) (T := TX4) (N := 11) hx hb hts hinX4 hown hE.1 hP 0 rfl rfl 9 (by decide) (hts (.fieldLink RX4 49 "StakeHouse" "held" "I") (by decide +kernel)) (fun _ h9 => h9) rfl dX4_game_67 ?_
              refine lv_iconst (v := nI 4) hx hb dX4_game_70 (by decide) ?_
              refine n_lt hx hb (by omega) (by omega) 77 dX4_game_71 (by decide) (fun c71 => ?_) (fun c71 => ?_)
              · skip
                have hK9 : gK d = 0 ∨ gK d = 1 ∨ gK d = 2 := by have := hd.1.1; omega
                refine lv_iload_n hx hb dX4_game_77 rfl (lv_at hl 1 rfl) ?_
                refine lv_iload_n hx hb dX4_game_78 rfl (lv_at hl 2 rfl) ?_
                refine lv_iload_n hx hb dX4_game_79 rfl (lv_at hl 3 rfl) ?_
                refine lv_iload hx hb dX4_game_80 (lv_at hl 4 rfl) ?_
                refine lv_iload hx hb dX4_game_82 (lv_at hl 5 rfl) ?_
                refine cW_r (va_runS ⟨hx, hb, hml, hown, hts⟩ (c_newGame l E _ d kv cv mv xv lv hd _) (va_cwS 5 hts gX4_game_X4_newGame rfl rfl rfl (by decide +kernel) ⟨Nat.le_of_ble_eq_true rfl, Nat.le_of_ble_eq_true rfl⟩) (ePw_S hP hD hE) rfl rfl hl.1 rfl (lv_room (Nat.le_of_ble_eq_true rfl)) dX4_game_84 ⟨Nat.le_of_ble_eq_true rfl, Nat.le_of_ble_eq_true rfl⟩) hS hD hA (fun r9 ws9 H locs hr9 hP hD hS => ?_)
                obtain ⟨b, hr9⟩ := hr9
                dsimp only at hr9
                subst hr9
                rw [List.append_assoc] at hP hD
                have hgo := (wX_rest (E := E) (ad := ad) (g := g) (hz := hz) (n := n) (mk := mk) (td := td) (gr := gr) (cf := cf) (ce := ce) (ck := ck) (rv := rv) (st := st) (wo := wo)).trans (app_2a rest (r9, gmE d b) (b, xI E 33 (fun _ => nI 0)))
                have hbo := (wX_rest (E := E) (ad := ad) (g := g) (hz := hz) (n := n) (mk := mk) (td := td) (gr := gr) (cf := cf) (ce := ce) (ck := ck) (rv := rv) (st := st) (wo := wo)).trans (app_2b rest (r9, gmE d b) (b, xI E 33 (fun _ => nI 0)))
                refine st_a2 hx hb 6 dX4_game_87 hl (by decide) rfl (fun ls hl => ?_)
                refine lv_aload hx hb dX4_game_89 (lv_at hl 6 rfl) ?_
                refine wCutH (fun _ : Unit => F0 m 94 ls []) (fun _ H locs => va_P E.1 vwCl (wX E ad g hz n mk td gr cf ce ck rv st wo ++ (rest ++ [(r9, gmE d b), (b, gnE E d)])) H ∧ va_D (va_A (wX E ad g hz n mk td gr cf ce ck rv st wo ++ rest) s.heap.size) (wX E ad g hz n mk td gr cf ce ck rv st wo ++ (rest ++ [(r9, gmE d b), (b, gnE E d)])) ∧ va_S (va_A (wX E ad g hz n mk td gr cf ce ck rv st wo ++ rest) s.heap.size) s.heap H locs) ?_ ?_
                · skip
                  rintro ⟨⟩ H locs ⟨hP, hD, hS⟩
                  refine lv_aload_n hx hb dX4_game_94 rfl (lv_at hl 0 rfl) ?_
                  refine va_get (D := E.1) (ci := 4) (C := RX4) (T := TX4) (N := 11) hx hb hts hinX4 hown hE.1 hP 0 rfl rfl 0 (by decide) (hts (.fieldLink RX4 11 "StakeHouse" "games" "[LStakeHouse$EvenGame;") (by decide +kernel)) (fun _ h9 => h9) rfl dX4_game_95 ?_
                  refine lv_aload_n hx hb dX4_game_98 rfl (lv_at hl 0 rfl) ?_
                  refine va_get (D := E.1) (ci := 4) (C := RX4) (T := TX4) (N := 11) hx hb hts hinX4 hown hE.1 hP 0 rfl rfl 9 (by decide) (hts (.fieldLink RX4 49 "StakeHouse" "held" "I") (by decide +kernel)) (fun _ h9 => h9) rfl dX4_game_99 ?_
                  refine lv_aload hx hb dX4_game_102 (lv_at hl 6 rfl) ?_
                  refine ast_game hx hb hE hP hD hS (x := 1) rfl (wX_rest.trans (app_2a rest (r9, gmE d b) (b, gnE E d))) c71 dX4_game_104 (fun H locs hP hD hS => ?_)
                  have hP : va_P E.1 vwCl (wX E ad g hz n mk td (va_up gr n (some r9)) cf ce ck rv st wo ++ (rest ++ [(r9, gmE d b), (b, gnE E d)])) H := hP
                  have hD : va_D (va_A (wX E ad g hz n mk td gr cf ce ck rv st wo ++ rest) s.heap.size) (wX E ad g hz n mk td (va_up gr n (some r9)) cf ce ck rv st wo ++ (rest ++ [(r9, gmE d b), (b, gnE E d)])) := hD
                  refine lv_aload_n hx hb dX4_game_105 rfl (lv_at hl 0 rfl) ?_
                  refine lv_dup hx hb dX4_game_106 rfl ?_
                  refine va_get (D := E.1) (ci := 4) (C := RX4) (T := TX4) (N := 11) hx hb hts hinX4 hown hE.1 hP 0 rfl rfl 9 (by decide) (hts (.fieldLink RX4 49 "StakeHouse" "held" "I") (by decide +kernel)) (fun _ h9 => h9) rfl dX4_game_107 ?_
                  refine lv_iconst (v := nI 1) hx hb dX4_game_110 (by decide) ?_
                  refine lv_iadd hx hb dX4_game_111 ?_
                  refine tp_i (nI_add _ _) ?_
                  refine va_put (D := E.1) (ci := 4) (ty := .int) (C := RX4) (T := TX4) (N := 11) hx hb hts hinX4 tyX4 tyX4_ok nmX4 hown hE.1 hP hD hS 0 rfl rfl 9 (by decide) (hts (.fieldLink RX4 49 "StakeHouse" "held" "I") (by decide +kernel)) (fun _ h9 => h9) rfl (by decide +kernel) rfl rfl (Nat.le_of_ble_eq_true rfl) dX4_game_112 (fun H locs hP hD hS => ?_)
                  have hP : va_P E.1 vwCl (wX E ad g hz (n + 1) mk td (va_up gr n (some r9)) cf ce ck rv st wo ++ (rest ++ [(r9, gmE d b), (b, gnE E d)])) H := hP
                  have hD : va_D (va_A (wX E ad g hz n mk td gr cf ce ck rv st wo ++ rest) s.heap.size) (wX E ad g hz (n + 1) mk td (va_up gr n (some r9)) cf ce ck rv st wo ++ (rest ++ [(r9, gmE d b), (b, gnE E d)])) := hD
                  refine lv_aload_n hx hb dX4_game_115 rfl (lv_at hl 0 rfl) ?_
                  refine cW_v (va_runV ⟨hx, hb, hml, hown, hts⟩ (c_forgetCharts l E ad g hz (n + 1) mk td (va_up gr n (some r9)) cf ce ck rv st wo (rest ++ [(r9, gmE d b), (b, gnE E d)]) _) (cwV 0 hts gX4_game_X4_forgetCharts rfl rfl rfl (by decide +kernel) ⟨Nat.le_of_ble_eq_true rfl, Nat.le_of_ble_eq_true rfl⟩) (ePw_V hP hD hE (ci := 4) (k := 0) rfl rfl) rfl rfl hl.1 rfl (lv_room (Nat.le_of_ble_eq_true rfl)) dX4_game_116 ⟨Nat.le_of_ble_eq_true rfl, Nat.le_of_ble_eq_true rfl⟩) hS hD hA (fun ws9 H locs hr9 hP hD hS => ?_)
                  subst hr9
                  refine lv_aload_n hx hb dX4_game_119 rfl (lv_at hl 0 rfl) ?_
                  refine va_get (D := E.1) (ci := 4) (C := RX4) (T := TX4) (N := 11) hx hb hts hinX4 hown hE.1 hP 0 rfl rfl 9 (by decide) (hts (.fieldLink RX4 49 "StakeHouse" "held" "I") (by decide +kernel)) (fun _ h9 => h9) rfl dX4_game_120 ?_
                  refine lv_iconst (v := nI 1) hx hb dX4_game_123 (by decide) ?_
                  refine lv_isub hx hb dX4_game_124 ?_
                  refine tp_i (show _ = nI n from nI_pred n) ?_
                  exact ret_Wi hx hb hr hlocks dX4_game_125 hP hD hS (Or.inr (Or.inr ⟨d, r9, b, hd, c71, rfl, rfl⟩))
                · skip
                  intro K
                  rcases hK9 with hk | hk | hk
                  · skip
                    have hg1 := hgo.trans (congrArg (fun e => some (r9, e)) (gmE_0 (b := b) hk))
                    refine cW_v (va_runV ⟨hx, hb, hml, hown, hts⟩ (c_keepGains l E _ (52 + rest.length) r9 b d hd.1 hgo (52 + (rest.length + 1)) (by omega) hbo _) (cwV 0 hts gX4_game_X1_keepGains rfl rfl rfl (by decide +kernel) ⟨Nat.le_of_ble_eq_true rfl, Nat.le_of_ble_eq_true rfl⟩) (ePw_V hP hD hE (ci := 1) (k := (52 + rest.length)) rfl hg1) rfl rfl hl.1 rfl (lv_room (Nat.le_of_ble_eq_true rfl)) dX4_game_91 ⟨Nat.le_of_ble_eq_true rfl, Nat.le_of_ble_eq_true rfl⟩) hS hD hA (fun ws9 H locs hr9 hP hD hS => ?_)
                    subst hr9
                    rw [wX_setRest, app_s2] at hP hD
                    exact K () H locs ⟨hP, hD, hS⟩
                  · skip
                    have hg1 := hgo.trans (congrArg (fun e => some (r9, e)) (gmE_1 (b := b) hk))
                    refine cW_v (va_runU (x := ⟨"StakeHouse$EvenGame", "keepGains", "()V"⟩) ⟨hx, hb, hml, hown, hts⟩ (c_keepGains l E _ (52 + rest.length) r9 b d hd.1 hgo (52 + (rest.length + 1)) (by omega) hbo _) (va_cwU 0 hts gX4_game_X1_keepGains_u68X2 rfl rfl rfl rfl (by decide +kernel) ⟨Nat.le_of_ble_eq_true rfl, Nat.le_of_ble_eq_true rfl⟩) (ePw_V hP hD hE (ci := 2) (k := (52 + rest.length)) rfl hg1) rfl rfl hl.1 rfl (lv_room (Nat.le_of_ble_eq_true rfl)) dX4_game_91 ⟨Nat.le_of_ble_eq_true rfl, Nat.le_of_ble_eq_true rfl⟩) hS hD hA (fun ws9 H locs hr9 hP hD hS => ?_)
                    subst hr9
                    rw [wX_setRest, app_s2] at hP hD
                    exact K () H locs ⟨hP, hD, hS⟩
                  · skip
                    have hg1 := hgo.trans (congrArg (fun e => some (r9, e)) (gmE_2 (b := b) hk))
                    refine cW_v (va_runU (x := ⟨"StakeHouse$EvenGame", "keepGains", "()V"⟩) ⟨hx, hb, hml, hown, hts⟩ (c_keepGains l E _ (52 + rest.length) r9 b d hd.1 hgo (52 + (rest.length + 1)) (by omega) hbo _) (va_cwU 0 hts gX4_game_X1_keepGains_u68X3 rfl rfl rfl rfl (by decide +kernel) ⟨Nat.le_of_ble_eq_true rfl, Nat.le_of_ble_eq_true rfl⟩) (ePw_V hP hD hE (ci := 3) (k := (52 + rest.length)) rfl hg1) rfl rfl hl.1 rfl (lv_room (Nat.le_of_ble_eq_true rfl)) dX4_game_91 ⟨Nat.le_of_ble_eq_true rfl, Nat.le_of_ble_eq_true rfl⟩) hS hD hA (fun ws9 H locs hr9 hP hD hS => ?_)
                    subst hr9
                    rw [wX_setRest, app_s2] at hP hD
                    exact K () H locs ⟨hP, hD, hS⟩
              · skip
                refine lv_bipush (v := (-3)) hx hb dX4_game_74 (by decide) ?_
                refine W.widen (k := 2) (n := 38) (by decide) (by decide) ?_
                exact ret_Wi hx hb hr hlocks dX4_game_76 hP hD hS (Or.inr (Or.inl ⟨hex, by omega, rfl, rfl⟩))
            · skip
              refine lv_iconst (v := (-1)) hx hb dX4_game_64 (by decide) ?_
              refine W.widen (k := 2) (n := 38) (by decide) (by decide) ?_
              exact ret_Wi hx hb hr hlocks dX4_game_65 hP hD hS (Or.inl ⟨fun ⟨d, hd⟩ => c61 ((gArg_1 hd).2.2.2.2 c50), rfl, rfl⟩)
        · skip
          refine lv_iload_n hx hb dX4_game_36 rfl (lv_at hl 3 rfl) ?_
          refine lv_iconst (v := nI 1) hx hb dX4_game_37 (by decide) ?_
          refine lv_bipush (v := nI 9) hx hb dX4_game_38 (by decide) ?_
          refine vp_callSi (W.runS ⟨hx, hb, hml, hown, hts⟩ (c_within l E _ _ _ _) (va_cwS 3 hts gX4_game_X4_within rfl rfl rfl (by decide +kernel) ⟨Nat.le_of_ble_eq_true rfl, Nat.le_of_ble_eq_true rfl⟩) (ePu_S hP hE) rfl rfl hl.1 rfl (lv_room (Nat.le_of_ble_eq_true rfl)) dX4_game_40 ⟨Nat.zero_le _, Nat.zero_le _⟩) (fun r9 hr9 => ?_)
          subst hr9
          refine q_ne hx hb 48 dX4_game_43 (by decide) (fun c43 => ?_) (fun c43 => ?_)
          · skip
            have h4 : kv ≠ 0 → nI 1 ≤ mv ∧ mv ≤ nI 9 := fun _ => c43
            refine lv_iload_n hx hb dX4_game_48 rfl (lv_at hl 1 rfl) ?_
            refine lv_iconst (v := nI 2) hx hb dX4_game_49 (by decide) ?_
            refine lv_icmp_ne (tgt := 66) hx hb dX4_game_50 (by decide) (fun c50 => ?_) (fun c50 => ?_)
            · skip
              have h5 : kv = nI 2 → nI 0 ≤ xv ∧ xv ≤ nI 10 := fun q => absurd q c50
              have hex := gArg_of c6 c16 c27 h4 h5
              obtain ⟨d, hd⟩ := id hex
              refine lv_aload_n hx hb dX4_game_66 rfl (lv_at hl 0 rfl) ?_
              refine va_get (D := E.1) (ci := 4) (C := RX4) (T := TX4) (N := 11) hx hb hts hinX4 hown hE.1 hP 0 rfl rfl 9 (by decide) (hts (.fieldLink RX4 49 "StakeHouse" "held" "I") (by decide +kernel)) (fun _ h9 => h9) rfl dX4_game_67 ?_
              refine lv_iconst (v := nI 4) hx hb dX4_game_70 (by decide) ?_
              refine n_lt hx hb (by omega) (by omega) 77 dX4_game_71 (by decide) (fun c71 => ?_) (fun c71 => ?_)
              · skip
                have hK9 : gK d = 0 ∨ gK d = 1 ∨ gK d = 2 := by have := hd.1.1; omega
                refine lv_iload_n hx hb dX4_game_77 rfl (lv_at hl 1 rfl) ?_
                refine lv_iload_n hx hb dX4_game_78 rfl (lv_at hl 2 rfl) ?_
                refine lv_iload_n hx hb dX4_game_79 rfl (lv_at hl 3 rfl) ?_
                refine lv_iload hx hb dX4_game_80 (lv_at hl 4 rfl) ?_
                refine lv_iload hx hb dX4_game_82 (lv_at hl 5 rfl) ?_
                refine cW_r (va_runS ⟨hx, hb, hml, hown, hts⟩ (c_newGame l E _ d kv cv mv xv lv hd _) (va_cwS 5 hts gX4_game_X4_newGame rfl rfl rfl (by decide +kernel) ⟨Nat.le_of_ble_eq_true rfl, Nat.le_of_ble_eq_true rfl⟩) (ePw_S hP hD hE) rfl rfl hl.1 rfl (lv_room (Nat.le_of_ble_eq_true rfl)) dX4_game_84 ⟨Nat.le_of_ble_eq_true rfl, Nat.le_of_ble_eq_true rfl⟩) hS hD hA (fun r9 ws9 H locs hr9 hP hD hS => ?_)
                obtain ⟨b, hr9⟩ := hr9
                dsimp only at hr9
                subst hr9
                rw [List.append_assoc] at hP hD
                have hgo := (wX_rest (E := E) (ad := ad) (g := g) (hz := hz) (n := n) (mk := mk) (td := td) (gr := gr) (cf := cf) (ce := ce) (ck := ck) (rv := rv) (st := st) (wo := wo)).trans (app_2a rest (r9, gmE d b) (b, xI E 33 (fun _ => nI 0)))
                have hbo := (wX_rest (E := E) (ad := ad) (g := g) (hz := hz) (n := n) (mk := mk) (td := td) (gr := gr) (cf := cf) (ce := ce) (ck := ck) (rv := rv) (st := st) (wo := wo)).trans (app_2b rest (r9, gmE d b) (b, xI E 33 (fun _ => nI 0)))
                refine st_a2 hx hb 6 dX4_game_87 hl (by decide) rfl (fun ls hl => ?_)
                refine lv_aload hx hb dX4_game_89 (lv_at hl 6 rfl) ?_
                refine wCutH (fun _ : Unit => F0 m 94 ls []) (fun _ H locs => va_P E.1 vwCl (wX E ad g hz n mk td gr cf ce ck rv st wo ++ (rest ++ [(r9, gmE d b), (b, gnE E d)])) H ∧ va_D (va_A (wX E ad g hz n mk td gr cf ce ck rv st wo ++ rest) s.heap.size) (wX E ad g hz n mk td gr cf ce ck rv st wo ++ (rest ++ [(r9, gmE d b), (b, gnE E d)])) ∧ va_S (va_A (wX E ad g hz n mk td gr cf ce ck rv st wo ++ rest) s.heap.size) s.heap H locs) ?_ ?_
                · skip
                  rintro ⟨⟩ H locs ⟨hP, hD, hS⟩
                  refine lv_aload_n hx hb dX4_game_94 rfl (lv_at hl 0 rfl) ?_
                  refine va_get (D := E.1) (ci := 4) (C := RX4) (T := TX4) (N := 11) hx hb hts hinX4 hown hE.1 hP 0 rfl rfl 0 (by decide) (hts (.fieldLink RX4 11 "StakeHouse" "games" "[LStakeHouse$EvenGame;") (by decide +kernel)) (fun _ h9 => h9) rfl dX4_game_95 ?_
                  refine lv_aload_n hx hb dX4_game_98 rfl (lv_at hl 0 rfl) ?_
                  refine va_get (D := E.1) (ci := 4) (C := RX4) (T := TX4) (N := 11) hx hb hts hinX4 hown hE.1 hP 0 rfl rfl 9 (by decide) (hts (.fieldLink RX4 49 "StakeHouse" "held" "I") (by decide +kernel)) (fun _ h9 => h9) rfl dX4_game_99 ?_
                  refine lv_aload hx hb dX4_game_102 (lv_at hl 6 rfl) ?_
                  refine ast_game hx hb hE hP hD hS (x := 1) rfl (wX_rest.trans (app_2a rest (r9, gmE d b) (b, gnE E d))) c71 dX4_game_104 (fun H locs hP hD hS => ?_)
                  have hP : va_P E.1 vwCl (wX E ad g hz n mk td (va_up gr n (some r9)) cf ce ck rv st wo ++ (rest ++ [(r9, gmE d b), (b, gnE E d)])) H := hP
                  have hD : va_D (va_A (wX E ad g hz n mk td gr cf ce ck rv st wo ++ rest) s.heap.size) (wX E ad g hz n mk td (va_up gr n (some r9)) cf ce ck rv st wo ++ (rest ++ [(r9, gmE d b), (b, gnE E d)])) := hD
                  refine lv_aload_n hx hb dX4_game_105 rfl (lv_at hl 0 rfl) ?_
                  refine lv_dup hx hb dX4_game_106 rfl ?_
                  refine va_get (D := E.1) (ci := 4) (C := RX4) (T := TX4) (N := 11) hx hb hts hinX4 hown hE.1 hP 0 rfl rfl 9 (by decide) (hts (.fieldLink RX4 49 "StakeHouse" "held" "I") (by decide +kernel)) (fun _ h9 => h9) rfl dX4_game_107 ?_
                  refine lv_iconst (v := nI 1) hx hb dX4_game_110 (by decide) ?_
                  refine lv_iadd hx hb dX4_game_111 ?_
                  refine tp_i (nI_add _ _) ?_
                  refine va_put (D := E.1) (ci := 4) (ty := .int) (C := RX4) (T := TX4) (N := 11) hx hb hts hinX4 tyX4 tyX4_ok nmX4 hown hE.1 hP hD hS 0 rfl rfl 9 (by decide) (hts (.fieldLink RX4 49 "StakeHouse" "held" "I") (by decide +kernel)) (fun _ h9 => h9) rfl (by decide +kernel) rfl rfl (Nat.le_of_ble_eq_true rfl) dX4_game_112 (fun H locs hP hD hS => ?_)
                  have hP : va_P E.1 vwCl (wX E ad g hz (n + 1) mk td (va_up gr n (some r9)) cf ce ck rv st wo ++ (rest ++ [(r9, gmE d b), (b, gnE E d)])) H := hP
                  have hD : va_D (va_A (wX E ad g hz n mk td gr cf ce ck rv st wo ++ rest) s.heap.size) (wX E ad g hz (n + 1) mk td (va_up gr n (some r9)) cf ce ck rv st wo ++ (rest ++ [(r9, gmE d b), (b, gnE E d)])) := hD
                  refine lv_aload_n hx hb dX4_game_115 rfl (lv_at hl 0 rfl) ?_
                  refine cW_v (va_runV ⟨hx, hb, hml, hown, hts⟩ (c_forgetCharts l E ad g hz (n + 1) mk td (va_up gr n (some r9)) cf ce ck rv st wo (rest ++ [(r9, gmE d b), (b, gnE E d)]) _) (cwV 0 hts gX4_game_X4_forgetCharts rfl rfl rfl (by decide +kernel) ⟨Nat.le_of_ble_eq_true rfl, Nat.le_of_ble_eq_true rfl⟩) (ePw_V hP hD hE (ci := 4) (k := 0) rfl rfl) rfl rfl hl.1 rfl (lv_room (Nat.le_of_ble_eq_true rfl)) dX4_game_116 ⟨Nat.le_of_ble_eq_true rfl, Nat.le_of_ble_eq_true rfl⟩) hS hD hA (fun ws9 H locs hr9 hP hD hS => ?_)
                  subst hr9
                  refine lv_aload_n hx hb dX4_game_119 rfl (lv_at hl 0 rfl) ?_
                  refine va_get (D := E.1) (ci := 4) (C := RX4) (T := TX4) (N := 11) hx hb hts hinX4 hown hE.1 hP 0 rfl rfl 9 (by decide) (hts (.fieldLink RX4 49 "StakeHouse" "held" "I") (by decide +kernel)) (fun _ h9 => h9) rfl dX4_game_120 ?_
                  refine lv_iconst (v := nI 1) hx hb dX4_game_123 (by decide) ?_
                  refine lv_isub hx hb dX4_game_124 ?_
                  refine tp_i (show _ = nI n from nI_pred n) ?_
                  exact ret_Wi hx hb hr hlocks dX4_game_125 hP hD hS (Or.inr (Or.inr ⟨d, r9, b, hd, c71, rfl, rfl⟩))
                · skip
                  intro K
                  rcases hK9 with hk | hk | hk
                  · skip
                    have hg1 := hgo.trans (congrArg (fun e => some (r9, e)) (gmE_0 (b := b) hk))
                    refine cW_v (va_runV ⟨hx, hb, hml, hown, hts⟩ (c_keepGains l E _ (52 + rest.length) r9 b d hd.1 hgo (52 + (rest.length + 1)) (by omega) hbo _) (cwV 0 hts gX4_game_X1_keepGains rfl rfl rfl (by decide +kernel) ⟨Nat.le_of_ble_eq_true rfl, Nat.le_of_ble_eq_true rfl⟩) (ePw_V hP hD hE (ci := 1) (k := (52 + rest.length)) rfl hg1) rfl rfl hl.1 rfl (lv_room (Nat.le_of_ble_eq_true rfl)) dX4_game_91 ⟨Nat.le_of_ble_eq_true rfl, Nat.le_of_ble_eq_true rfl⟩) hS hD hA (fun ws9 H locs hr9 hP hD hS => ?_)
                    subst hr9
                    rw [wX_setRest, app_s2] at hP hD
                    exact K () H locs ⟨hP, hD, hS⟩
                  · skip
                    have hg1 := hgo.trans (congrArg (fun e => some (r9, e)) (gmE_1 (b := b) hk))
                    refine cW_v (va_runU (x := ⟨"StakeHouse$EvenGame", "keepGains", "()V"⟩) ⟨hx, hb, hml, hown, hts⟩ (c_keepGains l E _ (52 + rest.length) r9 b d hd.1 hgo (52 + (rest.length + 1)) (by omega) hbo _) (va_cwU 0 hts gX4_game_X1_keepGains_u68X2 rfl rfl rfl rfl (by decide +kernel) ⟨Nat.le_of_ble_eq_true rfl, Nat.le_of_ble_eq_true rfl⟩) (ePw_V hP hD hE (ci := 2) (k := (52 + rest.length)) rfl hg1) rfl rfl hl.1 rfl (lv_room (Nat.le_of_ble_eq_true rfl)) dX4_game_91 ⟨Nat.le_of_ble_eq_true rfl, Nat.le_of_ble_eq_true rfl⟩) hS hD hA (fun ws9 H locs hr9 hP hD hS => ?_)
                    subst hr9
                    rw [wX_setRest, app_s2] at hP hD
                    exact K () H locs ⟨hP, hD, hS⟩
                  · skip
                    have hg1 := hgo.trans (congrArg (fun e => some (r9, e)) (gmE_2 (b := b) hk))
                    refine cW_v (va_runU (x := ⟨"StakeHouse$EvenGame", "keepGains", "()V"⟩) ⟨hx, hb, hml, hown, hts⟩ (c_keepGains l E _ (52 + rest.length) r9 b d hd.1 hgo (52 + (rest.length + 1)) (by omega) hbo _) (va_cwU 0 hts gX4_game_X1_keepGains_u68X3 rfl rfl rfl rfl (by decide +kernel) ⟨Nat.le_of_ble_eq_true rfl, Nat.le_of_ble_eq_true rfl⟩) (ePw_V hP hD hE (ci := 3) (k := (52 + rest.length)) rfl hg1) rfl rfl hl.1 rfl (lv_room (Nat.le_of_ble_eq_true rfl)) dX4_game_91 ⟨Nat.le_of_ble_eq_true rfl, Nat.le_of_ble_eq_true rfl⟩) hS hD hA (fun ws9 H locs hr9 hP hD hS => ?_)
                    subst hr9
                    rw [wX_setRest, app_s2] at hP hD
                    exact K () H locs ⟨hP, hD, hS⟩
              · skip
                refine lv_bipush (v := (-3)) hx hb dX4_game_74 (by decide) ?_
                refine W.widen (k := 2) (n := 38) (by decide) (by decide) ?_
                exact ret_Wi hx hb hr hlocks dX4_game_76 hP hD hS (Or.inr (Or.inl ⟨hex, by omega, rfl, rfl⟩))
            · skip
              refine lv_iload hx hb dX4_game_53 (lv_at hl 4 rfl) ?_
              refine lv_iconst (v := nI 0) hx hb dX4_game_55 (by decide) ?_
              refine lv_bipush (v := nI 10) hx hb dX4_game_56 (by decide) ?_
              refine vp_callSi (W.runS ⟨hx, hb, hml, hown, hts⟩ (c_within l E _ _ _ _) (va_cwS 3 hts gX4_game_X4_within rfl rfl rfl (by decide +kernel) ⟨Nat.le_of_ble_eq_true rfl, Nat.le_of_ble_eq_true rfl⟩) (ePu_S hP hE) rfl rfl hl.1 rfl (lv_room (Nat.le_of_ble_eq_true rfl)) dX4_game_58 ⟨Nat.zero_le _, Nat.zero_le _⟩) (fun r9 hr9 => ?_)
              subst hr9
              refine q_ne hx hb 66 dX4_game_61 (by decide) (fun c61 => ?_) (fun c61 => ?_)
              · skip
                have h5 : kv = nI 2 → nI 0 ≤ xv ∧ xv ≤ nI 10 := fun _ => c61
                have hex := gArg_of c6 c16 c27 h4 h5
                obtain ⟨d, hd⟩ := id hex
                refine lv_aload_n hx hb dX4_game_66 rfl (lv_at hl 0 rfl) ?_
                refine va_get (D := E.1) (ci := 4) (C := RX4) (T := TX4) (N := 11) hx hb hts hinX4 hown hE.1 hP 0 rfl rfl 9 (by decide) (hts (.fieldLink RX4 49 "StakeHouse" "held" "I") (by decide +kernel)) (fun _ h9 => h9) rfl dX4_game_67 ?_
                refine lv_iconst (v := nI 4) hx hb dX4_game_70 (by decide) ?_
                refine n_lt hx hb (by omega) (by omega) 77 dX4_game_71 (by decide) (fun c71 => ?_) (fun c71 => ?_)
                · skip
                  have hK9 : gK d = 0 ∨ gK d = 1 ∨ gK d = 2 := by have := hd.1.1; omega
                  refine lv_iload_n hx hb dX4_game_77 rfl (lv_at hl 1 rfl) ?_
                  refine lv_iload_n hx hb dX4_game_78 rfl (lv_at hl 2 rfl) ?_
                  refine lv_iload_n hx hb dX4_game_79 rfl (lv_at hl 3 rfl) ?_
                  refine lv_iload hx hb dX4_game_80 (lv_at hl 4 rfl) ?_
                  refine lv_iload hx hb dX4_game_82 (lv_at hl 5 rfl) ?_
                  refine cW_r (va_runS ⟨hx, hb, hml, hown, hts⟩ (c_newGame l E _ d kv cv mv xv lv hd _) (va_cwS 5 hts gX4_game_X4_newGame rfl rfl rfl (by decide +kernel) ⟨Nat.le_of_ble_eq_true rfl, Nat.le_of_ble_eq_true rfl⟩) (ePw_S hP hD hE) rfl rfl hl.1 rfl (lv_room (Nat.le_of_ble_eq_true rfl)) dX4_game_84 ⟨Nat.le_of_ble_eq_true rfl, Nat.le_of_ble_eq_true rfl⟩) hS hD hA (fun r9 ws9 H locs hr9 hP hD hS => ?_)
                  obtain ⟨b, hr9⟩ := hr9
                  dsimp only at hr9
                  subst hr9
                  rw [List.append_assoc] at hP hD
                  have hgo := (wX_rest (E := E) (ad := ad) (g := g) (hz := hz) (n := n) (mk := mk) (td := td) (gr := gr) (cf := cf) (ce := ce) (ck := ck) (rv := rv) (st := st) (wo := wo)).trans (app_2a rest (r9, gmE d b) (b, xI E 33 (fun _ => nI 0)))
                  have hbo := (wX_rest (E := E) (ad := ad) (g := g) (hz := hz) (n := n) (mk := mk) (td := td) (gr := gr) (cf := cf) (ce := ce) (ck := ck) (rv := rv) (st := st) (wo := wo)).trans (app_2b rest (r9, gmE d b) (b, xI E 33 (fun _ => nI 0)))
                  refine st_a2 hx hb 6 dX4_game_87 hl (by decide) rfl (fun ls hl => ?_)
                  refine lv_aload hx hb dX4_game_89 (lv_at hl 6 rfl) ?_
                  refine wCutH (fun _ : Unit => F0 m 94 ls []) (fun _ H locs => va_P E.1 vwCl (wX E ad g hz n mk td gr cf ce ck rv st wo ++ (rest ++ [(r9, gmE d b), (b, gnE E d)])) H ∧ va_D (va_A (wX E ad g hz n mk td gr cf ce ck rv st wo ++ rest) s.heap.size) (wX E ad g hz n mk td gr cf ce ck rv st wo ++ (rest ++ [(r9, gmE d b), (b, gnE E d)])) ∧ va_S (va_A (wX E ad g hz n mk td gr cf ce ck rv st wo ++ rest) s.heap.size) s.heap H locs) ?_ ?_
                  · skip
                    rintro ⟨⟩ H locs ⟨hP, hD, hS⟩
                    refine lv_aload_n hx hb dX4_game_94 rfl (lv_at hl 0 rfl) ?_
                    refine va_get (D := E.1) (ci := 4) (C := RX4) (T := TX4) (N := 11) hx hb hts hinX4 hown hE.1 hP 0 rfl rfl 0 (by decide) (hts (.fieldLink RX4 11 "StakeHouse" "games" "[LStakeHouse$EvenGame;") (by decide +kernel)) (fun _ h9 => h9) rfl dX4_game_95 ?_
                    refine lv_aload_n hx hb dX4_game_98 rfl (lv_at hl 0 rfl) ?_
                    refine va_get (D := E.1) (ci := 4) (C := RX4) (T := TX4) (N := 11) hx hb hts hinX4 hown hE.1 hP 0 rfl rfl 9 (by decide) (hts (.fieldLink RX4 49 "StakeHouse" "held" "I") (by decide +kernel)) (fun _ h9 => h9) rfl dX4_game_99 ?_
                    refine lv_aload hx hb dX4_game_102 (lv_at hl 6 rfl) ?_
                    refine ast_game hx hb hE hP hD hS (x := 1) rfl (wX_rest.trans (app_2a rest (r9, gmE d b) (b, gnE E d))) c71 dX4_game_104 (fun H locs hP hD hS => ?_)
                    have hP : va_P E.1 vwCl (wX E ad g hz n mk td (va_up gr n (some r9)) cf ce ck rv st wo ++ (rest ++ [(r9, gmE d b), (b, gnE E d)])) H := hP
                    have hD : va_D (va_A (wX E ad g hz n mk td gr cf ce ck rv st wo ++ rest) s.heap.size) (wX E ad g hz n mk td (va_up gr n (some r9)) cf ce ck rv st wo ++ (rest ++ [(r9, gmE d b), (b, gnE E d)])) := hD
                    refine lv_aload_n hx hb dX4_game_105 rfl (lv_at hl 0 rfl) ?_
                    refine lv_dup hx hb dX4_game_106 rfl ?_
                    refine va_get (D := E.1) (ci := 4) (C := RX4) (T := TX4) (N := 11) hx hb hts hinX4 hown hE.1 hP 0 rfl rfl 9 (by decide) (hts (.fieldLink RX4 49 "StakeHouse" "held" "I") (by decide +kernel)) (fun _ h9 => h9) rfl dX4_game_107 ?_
                    refine lv_iconst (v := nI 1) hx hb dX4_game_110 (by decide) ?_
                    refine lv_iadd hx hb dX4_game_111 ?_
                    refine tp_i (nI_add _ _) ?_
                    refine va_put (D := E.1) (ci := 4) (ty := .int) (C := RX4) (T := TX4) (N := 11) hx hb hts hinX4 tyX4 tyX4_ok nmX4 hown hE.1 hP hD hS 0 rfl rfl 9 (by decide) (hts (.fieldLink RX4 49 "StakeHouse" "held" "I") (by decide +kernel)) (fun _ h9 => h9) rfl (by decide +kernel) rfl rfl (Nat.le_of_ble_eq_true rfl) dX4_game_112 (fun H locs hP hD hS => ?_)
                    have hP : va_P E.1 vwCl (wX E ad g hz (n + 1) mk td (va_up gr n (some r9)) cf ce ck rv st wo ++ (rest ++ [(r9, gmE d b), (b, gnE E d)])) H := hP
                    have hD : va_D (va_A (wX E ad g hz n mk td gr cf ce ck rv st wo ++ rest) s.heap.size) (wX E ad g hz (n + 1) mk td (va_up gr n (some r9)) cf ce ck rv st wo ++ (rest ++ [(r9, gmE d b), (b, gnE E d)])) := hD
                    refine lv_aload_n hx hb dX4_game_115 rfl (lv_at hl 0 rfl) ?_
                    refine cW_v (va_runV ⟨hx, hb, hml, hown, hts⟩ (c_forgetCharts l E ad g hz (n + 1) mk td (va_up gr n (some r9)) cf ce ck rv st wo (rest ++ [(r9, gmE d b), (b, gnE E d)]) _) (cwV 0 hts gX4_game_X4_forgetCharts rfl rfl rfl (by decide +kernel) ⟨Nat.le_of_ble_eq_true rfl, Nat.le_of_ble_eq_true rfl⟩) (ePw_V hP hD hE (ci := 4) (k := 0) rfl rfl) rfl rfl hl.1 rfl (lv_room (Nat.le_of_ble_eq_true rfl)) dX4_game_116 ⟨Nat.le_of_ble_eq_true rfl, Nat.le_of_ble_eq_true rfl⟩) hS hD hA (fun ws9 H locs hr9 hP hD hS => ?_)
                    subst hr9
                    refine lv_aload_n hx hb dX4_game_119 rfl (lv_at hl 0 rfl) ?_
                    refine va_get (D := E.1) (ci := 4) (C := RX4) (T := TX4) (N := 11) hx hb hts hinX4 hown hE.1 hP 0 rfl rfl 9 (by decide) (hts (.fieldLink RX4 49 "StakeHouse" "held" "I") (by decide +kernel)) (fun _ h9 => h9) rfl dX4_game_120 ?_
                    refine lv_iconst (v := nI 1) hx hb dX4_game_123 (by decide) ?_
                    refine lv_isub hx hb dX4_game_124 ?_
                    refine tp_i (show _ = nI n from nI_pred n) ?_
                    exact ret_Wi hx hb hr hlocks dX4_game_125 hP hD hS (Or.inr (Or.inr ⟨d, r9, b, hd, c71, rfl, rfl⟩))
                  · skip
                    intro K
                    rcases hK9 with hk | hk | hk
                    · skip
                      have hg1 := hgo.trans (congrArg (fun e => some (r9, e)) (gmE_0 (b := b) hk))
                      refine cW_v (va_runV ⟨hx, hb, hml, hown, hts⟩ (c_keepGains l E _ (52 + rest.length) r9 b d hd.1 hgo (52 + (rest.length + 1)) (by omega) hbo _) (cwV 0 hts gX4_game_X1_keepGains rfl rfl rfl (by decide +kernel) ⟨Nat.le_of_ble_eq_true rfl, Nat.le_of_ble_eq_true rfl⟩) (ePw_V hP hD hE (ci := 1) (k := (52 + rest.length)) rfl hg1) rfl rfl hl.1 rfl (lv_room (Nat.le_of_ble_eq_true rfl)) dX4_game_91 ⟨Nat.le_of_ble_eq_true rfl, Nat.le_of_ble_eq_true rfl⟩) hS hD hA (fun ws9 H locs hr9 hP hD hS => ?_)
                      subst hr9
                      rw [wX_setRest, app_s2] at hP hD
                      exact K () H locs ⟨hP, hD, hS⟩
                    · skip
                      have hg1 := hgo.trans (congrArg (fun e => some (r9, e)) (gmE_1 (b := b) hk))
                      refine cW_v (va_runU (x := ⟨"StakeHouse$EvenGame", "keepGains", "()V"⟩) ⟨hx, hb, hml, hown, hts⟩ (c_keepGains l E _ (52 + rest.length) r9 b d hd.1 hgo (52 + (rest.length + 1)) (by omega) hbo _) (va_cwU 0 hts gX4_game_X1_keepGains_u68X2 rfl rfl rfl rfl (by decide +kernel) ⟨Nat.le_of_ble_eq_true rfl, Nat.le_of_ble_eq_true rfl⟩) (ePw_V hP hD hE (ci := 2) (k := (52 + rest.length)) rfl hg1) rfl rfl hl.1 rfl (lv_room (Nat.le_of_ble_eq_true rfl)) dX4_game_91 ⟨Nat.le_of_ble_eq_true rfl, Nat.le_of_ble_eq_true rfl⟩) hS hD hA (fun ws9 H locs hr9 hP hD hS => ?_)
                      subst hr9
                      rw [wX_setRest, app_s2] at hP hD
                      exact K () H locs ⟨hP, hD, hS⟩
                    · skip
                      have hg1 := hgo.trans (congrArg (fun e => some (r9, e)) (gmE_2 (b := b) hk))
                      refine cW_v (va_runU (x := ⟨"StakeHouse$EvenGame", "keepGains", "()V"⟩) ⟨hx, hb, hml, hown, hts⟩ (c_keepGains l E _ (52 + rest.length) r9 b d hd.1 hgo (52 + (rest.length + 1)) (by omega) hbo _) (va_cwU 0 hts gX4_game_X1_keepGains_u68X3 rfl rfl rfl rfl (by decide +kernel) ⟨Nat.le_of_ble_eq_true rfl, Nat.le_of_ble_eq_true rfl⟩) (ePw_V hP hD hE (ci := 3) (k := (52 + rest.length)) rfl hg1) rfl rfl hl.1 rfl (lv_room (Nat.le_of_ble_eq_true rfl)) dX4_game_91 ⟨Nat.le_of_ble_eq_true rfl, Nat.le_of_ble_eq_true rfl⟩) hS hD hA (fun ws9 H locs hr9 hP hD hS => ?_)
                      subst hr9
                      rw [wX_setRest, app_s2] at hP hD
                      exact K () H locs ⟨hP, hD, hS⟩
                · skip
                  refine lv_bipush (v := (-3)) hx hb dX4_game_74 (by decide) ?_
                  refine W.widen (k := 2) (n := 38) (by decide) (by decide) ?_
                  exact ret_Wi hx hb hr hlocks dX4_game_76 hP hD hS (Or.inr (Or.inl ⟨hex, by omega, rfl, rfl⟩))
              · skip
                refine lv_iconst (v := (-1)) hx hb dX4_game_64 (by decide) ?_
                refine W.widen (k := 2) (n := 38) (by decide) (by decide) ?_
                exact ret_Wi hx hb hr hlocks dX4_game_65 hP hD hS (Or.inl ⟨fun ⟨d, hd⟩ => c61 ((gArg_1 hd).2.2.2.2 c50), rfl, rfl⟩)
          · skip
            refine lv_iconst (v := (-1)) hx hb dX4_game_46 (by decide) ?_
            refine W.widen (k := 2) (n := 38) (by decide) (by decide) ?_
            exact ret_Wi hx hb hr hlocks dX4_game_47 hP hD hS (Or.inl ⟨fun ⟨d, hd⟩ => c43 ((gArg_1 hd).2.2.2.1 c33), rfl, rfl⟩)
      · skip
        refine lv_iconst (v := (-1)) hx hb dX4_game_30 (by decide) ?_
        refine W.widen (k := 2) (n := 38) (by decide) (by decide) ?_
        exact ret_Wi hx hb hr hlocks dX4_game_31 hP hD hS (Or.inl ⟨fun ⟨d, hd⟩ => c27 (gArg_1 hd).2.2.1, rfl, rfl⟩)
/-- win's answer, and the trace behind it -/
def win_of (n : Nat) (gd : Nat → gT) (mk : Int64) (iv sv : Int32) (r : Int32) (mk1 : Int64) : Prop := (∃ i st : Nat, iv = nI i ∧ sv = nI st ∧ i < n ∧ 1 ≤ st ∧ st ≤ 32 ∧ r = nI (gWin (gd i) st) ∧ mk1 = mk + lN (gMark (gd i))) ∨ ((¬ ∃ i st : Nat, iv = nI i ∧ sv = nI st ∧ i < n ∧ 1 ≤ st ∧ st ≤ 32) ∧ r = -1 ∧ mk1 = mk)
set_option maxHeartbeats 4000000 in
set_option maxRecDepth 100000 in
/-- win -/
theorem c_win (l : Launch) (E : eT) (ad : Nat → Nat) (g hz n : Nat) (mk : Int64) (td : Nat → Int32) (gr : Nat → Option Nat) (cf ce ck : Nat → Nat) (rv : Nat → Nat → Int64) (st : Nat → Int32) (wo : Nat → Nat → Int64) (rest : va_W) (hn : n ≤ 4) (pl ga gb : Nat → Nat) (gd : Nat → gT) (hGA : gAll E rest gr n pl ga gb gd) (iv sv : Int32) : mWi l yX4_win wsX4_win 3 75 0 0 E (wX E ad g hz n mk td gr cf ce ck rv st wo ++ rest) [.ref (ad 0), .int iv, .int sv] (fun r ws1 => ∃ mk1 : Int64, win_of n gd mk iv sv r mk1 ∧ ws1 = wX E ad g hz n mk1 td gr cf ce ck rv st wo ++ rest) := by
  intro sz
  refine mW_of (cc := cX4_win) (maxL := 4) (ret := (some .int)) (Qc := fun sz => va_Qi (fun r ws1 => ∃ mk1 : Int64, win_of n gd mk iv sv r mk1 ∧ ws1 = wX E ad g hz n mk1 td gr cf ce ck rv st wo ++ rest) (eAt E (va_A (wX E ad g hz n mk td gr cf ce ck rv st wo ++ rest) sz)) (va_A (wX E ad g hz n mk td gr cf ce ck rv st wo ++ rest) sz)) (by decide) rfl (Nat.le_of_ble_eq_true rfl) ?_
  intro p0 e0 s m below meth c0 ls hx hb hr hml hts hown hlocks hin hE hP hD hl
  have hS : va_S (va_A (wX E ad g hz n mk td gr cf ce ck rv st wo ++ rest) s.heap.size) s.heap s.heap [] := va_S.rf
  have hA : ∀ q, s.heap.size ≤ q → (va_A (wX E ad g hz n mk td gr cf ce ck rv st wo ++ rest) s.heap.size) q := fun q h => Or.inr h
  have hown : s.vm.findClass RX4 = some m.cls := hown
  have hl : lv_has ls 4 [(0, .ref (ad 0)), (1, .int iv), (2, .int sv)] := hl
  have hinX4 : ∀ w ∈ wsX40, w ∈ wsX4_win := by decide +kernel
  refine lv_aload_n hx hb dX4_win_0 rfl (lv_at hl 0 rfl) ?_
  refine lv_iload_n hx hb dX4_win_1 rfl (lv_at hl 1 rfl) ?_
  refine va_csq (W.runV ⟨hx, hb, hml, hown, hts⟩ (c_gameAt l E _ ad g hz n mk rfl hn gr rfl _) (cwV 1 hts gX4_win_X4_gameAt rfl rfl rfl (by decide +kernel) ⟨Nat.le_of_ble_eq_true rfl, Nat.le_of_ble_eq_true rfl⟩) (ePu_V hP hE (ci := 4) (k := 0) rfl rfl) rfl rfl hl.1 rfl (lv_room (Nat.le_of_ble_eq_true rfl)) dX4_win_2 ⟨Nat.zero_le _, Nat.zero_le _⟩) (fun r9 hr9 => ?_)
  by_cases hi9 : ∃ i : Nat, i < n ∧ iv = nI i
  · skip
    obtain ⟨i, hi, rfl⟩ := hi9
    have hr9 := gameAt_in hGA hn hi hr9
    subst hr9
    refine tp_r (show va_rf (some _) = .ref (ga i) from rfl) ?_
    refine st_a1 hx hb 3 dX4_win_5 rfl hl (by decide) rfl (fun ls hl => ?_)
    refine lv_aload_n hx hb dX4_win_6 rfl (lv_at hl 3 rfl) ?_
    refine lv_ifnull hx hb dX4_win_7 ?_
    refine lv_iload_n hx hb dX4_win_10 rfl (lv_at hl 2 rfl) ?_
    refine lv_iconst (v := nI 1) hx hb dX4_win_11 (by decide) ?_
    refine lv_bipush (v := nI 32) hx hb dX4_win_12 (by decide) ?_
    refine vp_callSi (W.runS ⟨hx, hb, hml, hown, hts⟩ (c_within l E _ _ _ _) (va_cwS 3 hts gX4_win_X4_within rfl rfl rfl (by decide +kernel) ⟨Nat.le_of_ble_eq_true rfl, Nat.le_of_ble_eq_true rfl⟩) (ePu_S hP hE) rfl rfl hl.1 rfl (lv_room (Nat.le_of_ble_eq_true rfl)) dX4_win_14 ⟨Nat.zero_le _, Nat.zero_le _⟩) (fun r9 hr9 => ?_)
    subst hr9
    refine q_ne hx hb 22 dX4_win_17 (by decide) (fun c17 => ?_) (fun c17 => ?_)
    · skip
      obtain ⟨st9, hs1, hs2, rfl⟩ := nI_rng (by decide) c17 (by decide)
      have hdi := (hGA _ hi).2.2.2
      rcases (show gK (gd i) = 0 ∨ gK (gd i) = 1 ∨ gK (gd i) = 2 by have := hdi.1; omega) with hk | hk | hk
      · skip
        have hmk : gMark (gd i) = 1 := if_pos hk
        refine lv_aload_n hx hb dX4_win_22 rfl (lv_at hl 0 rfl) ?_
        refine lv_dup hx hb dX4_win_23 rfl ?_
        refine va_get (D := E.1) (ci := 4) (C := RX4) (T := TX4) (N := 11) hx hb hts hinX4 hown hE.1 hP 0 rfl rfl 10 (by decide) (hts (.fieldLink RX4 52 "StakeHouse" "marks" "J") (by decide +kernel)) (fun _ h9 => h9) rfl dX4_win_24 ?_
        refine lv_aload_n hx hb dX4_win_27 rfl (lv_at hl 3 rfl) ?_
        refine vp_callSi (W.runV ⟨hx, hb, hml, hown, hts⟩ (c_X1_mark l E _ (ga i)) (cwV 0 hts gX4_win_X1_mark rfl rfl rfl (by decide +kernel) ⟨Nat.le_of_ble_eq_true rfl, Nat.le_of_ble_eq_true rfl⟩) (ePu_V hP hE (ci := 1) (k := (52 + pl i)) rfl (show (wX E ad g hz n mk td gr cf ce ck rv st wo ++ rest)[52 + pl i]? = some (ga i, .inr (1, [.int (nI (gC (gd i))), .int (nI (gL (gd i))), .ref (gb i)])) from wX_rest.trans ((hGA _ hi).2.1.trans (congrArg (fun e => some (ga i, e)) (gmE_0 (b := gb i) hk))))) rfl rfl hl.1 rfl (lv_room (Nat.le_of_ble_eq_true rfl)) dX4_win_28 ⟨Nat.zero_le _, Nat.zero_le _⟩) (fun r9 hr9 => ?_)
        subst hr9
        refine lv_i2l (v := lN _) hx hb dX4_win_31 (nI_l (by omega)) ?_
        refine lv_ladd hx hb dX4_win_32 ?_
        refine va_put (D := E.1) (ci := 4) (ty := .long) (C := RX4) (T := TX4) (N := 11) hx hb hts hinX4 tyX4 tyX4_ok nmX4 hown hE.1 hP hD hS 0 rfl rfl 10 (by decide) (hts (.fieldLink RX4 52 "StakeHouse" "marks" "J") (by decide +kernel)) (fun _ h9 => h9) rfl (by decide +kernel) rfl rfl (Nat.le_of_ble_eq_true rfl) dX4_win_33 (fun H locs hP hD hS => ?_)
        have hP : va_P E.1 vwCl (wX E ad g hz n (mk + lN 1) td gr cf ce ck rv st wo ++ rest) H := hP
        have hD : va_D (va_A (wX E ad g hz n mk td gr cf ce ck rv st wo ++ rest) s.heap.size) (wX E ad g hz n (mk + lN 1) td gr cf ce ck rv st wo ++ rest) := hD
        refine lv_aload_n hx hb dX4_win_36 rfl (lv_at hl 3 rfl) ?_
        refine lv_iload_n hx hb dX4_win_37 rfl (lv_at hl 2 rfl) ?_
        refine vp_callSi (W.runV ⟨hx, hb, hml, hown, hts⟩ (c_X1_gain l E _ (ga i) (nI st9)) (cwV 1 hts gX4_win_X1_gain rfl rfl rfl (by decide +kernel) ⟨Nat.le_of_ble_eq_true rfl, Nat.le_of_ble_eq_true rfl⟩) (ePu_V hP hE (ci := 1) (k := (52 + pl i)) rfl (show (wX E ad g hz n (mk + lN 1) td gr cf ce ck rv st wo ++ rest)[52 + pl i]? = some (ga i, .inr (1, [.int (nI (gC (gd i))), .int (nI (gL (gd i))), .ref (gb i)])) from wX_rest.trans ((hGA _ hi).2.1.trans (congrArg (fun e => some (ga i, e)) (gmE_0 (b := gb i) hk))))) rfl rfl hl.1 rfl (lv_room (Nat.le_of_ble_eq_true rfl)) dX4_win_38 ⟨Nat.zero_le _, Nat.zero_le _⟩) (fun r9 hr9 => ?_)
        subst hr9
        exact ret_Wi hx hb hr hlocks dX4_win_41 hP hD hS ⟨_, Or.inl ⟨i, st9, rfl, rfl, hi, hs1, hs2, by rw [gWin_0 hk], by rw [hmk]⟩, rfl⟩
      · skip
        have hmk : gMark (gd i) = 11 := (if_neg (by omega)).trans (if_pos hk)
        refine lv_aload_n hx hb dX4_win_22 rfl (lv_at hl 0 rfl) ?_
        refine lv_dup hx hb dX4_win_23 rfl ?_
        refine va_get (D := E.1) (ci := 4) (C := RX4) (T := TX4) (N := 11) hx hb hts hinX4 hown hE.1 hP 0 rfl rfl 10 (by decide) (hts (.fieldLink RX4 52 "StakeHouse" "marks" "J") (by decide +kernel)) (fun _ h9 => h9) rfl dX4_win_24 ?_
        refine lv_aload_n hx hb dX4_win_27 rfl (lv_at hl 3 rfl) ?_
        refine vp_callSi (run_weak (va_runU (x := ⟨"StakeHouse$EvenGame", "mark", "()I"⟩) ⟨hx, hb, hml, hown, hts⟩ (c_X2_mark l E _ (52 + pl i) (ga i) (gb i) (gd i) hdi (wX_rest.trans (hGA _ hi).2.1) (Or.inl hk)) (va_cwO 0 hts gX4_win_X2_mark_u78X2 rfl rfl rfl (show Cond.code ⟨"StakeHouse$EvenGame", "mark", "()I"⟩ cX1_mark 1 (some .int) ∈ wsX4_win by decide +kernel) (by decide +kernel) ⟨Nat.le_of_ble_eq_true rfl, Nat.le_of_ble_eq_true rfl⟩) (ePu_V hP hE (ci := 2) (k := (52 + pl i)) rfl (show (wX E ad g hz n mk td gr cf ce ck rv st wo ++ rest)[52 + pl i]? = some (ga i, .inr (2, [.int (nI (gC (gd i))), .int (nI (gL (gd i))), .ref (gb i), .int (nI (gM (gd i)))])) from wX_rest.trans ((hGA _ hi).2.1.trans (congrArg (fun e => some (ga i, e)) (gmE_1 (b := gb i) hk))))) rfl rfl hl.1 rfl (lv_room (Nat.le_of_ble_eq_true rfl)) dX4_win_28 ⟨Nat.zero_le _, Nat.zero_le _⟩)) (fun r9 hr9 => ?_)
        subst hr9
        refine lv_i2l (v := lN _) hx hb dX4_win_31 (nI_l (by omega)) ?_
        refine lv_ladd hx hb dX4_win_32 ?_
        refine va_put (D := E.1) (ci := 4) (ty := .long) (C := RX4) (T := TX4) (N := 11) hx hb hts hinX4 tyX4 tyX4_ok nmX4 hown hE.1 hP hD hS 0 rfl rfl 10 (by decide) (hts (.fieldLink RX4 52 "StakeHouse" "marks" "J") (by decide +kernel)) (fun _ h9 => h9) rfl (by decide +kernel) rfl rfl (Nat.le_of_ble_eq_true rfl) dX4_win_33 (fun H locs hP hD hS => ?_)
        have hP : va_P E.1 vwCl (wX E ad g hz n (mk + lN 11) td gr cf ce ck rv st wo ++ rest) H := hP
        have hD : va_D (va_A (wX E ad g hz n mk td gr cf ce ck rv st wo ++ rest) s.heap.size) (wX E ad g hz n (mk + lN 11) td gr cf ce ck rv st wo ++ rest) := hD
        refine lv_aload_n hx hb dX4_win_36 rfl (lv_at hl 3 rfl) ?_
        refine lv_iload_n hx hb dX4_win_37 rfl (lv_at hl 2 rfl) ?_
        refine vp_callSi (run_weak (va_runU (x := ⟨"StakeHouse$EvenGame", "gain", "(I)I"⟩) ⟨hx, hb, hml, hown, hts⟩ (c_X2_gain l E _ (52 + pl i) (ga i) (gb i) (gd i) hdi (wX_rest.trans (hGA _ hi).2.1) (Or.inl hk) st9) (va_cwO 1 hts gX4_win_X2_gain_u82X2 rfl rfl rfl (show Cond.code ⟨"StakeHouse$EvenGame", "gain", "(I)I"⟩ cX1_gain 2 (some .int) ∈ wsX4_win by decide +kernel) (by decide +kernel) ⟨Nat.le_of_ble_eq_true rfl, Nat.le_of_ble_eq_true rfl⟩) (ePu_V hP hE (ci := 2) (k := (52 + pl i)) rfl (show (wX E ad g hz n (mk + lN 11) td gr cf ce ck rv st wo ++ rest)[52 + pl i]? = some (ga i, .inr (2, [.int (nI (gC (gd i))), .int (nI (gL (gd i))), .ref (gb i), .int (nI (gM (gd i)))])) from wX_rest.trans ((hGA _ hi).2.1.trans (congrArg (fun e => some (ga i, e)) (gmE_1 (b := gb i) hk))))) rfl rfl hl.1 rfl (lv_room (Nat.le_of_ble_eq_true rfl)) dX4_win_38 ⟨Nat.zero_le _, Nat.zero_le _⟩)) (fun r9 hr9 => ?_)
        subst hr9
        exact ret_Wi hx hb hr hlocks dX4_win_41 hP hD hS ⟨_, Or.inl ⟨i, st9, rfl, rfl, hi, hs1, hs2, by rw [gWin_1 hk], by rw [hmk]⟩, rfl⟩
      · skip
        have hmk : gMark (gd i) = 111 := (if_neg (by omega)).trans (if_neg (by omega))
        refine lv_aload_n hx hb dX4_win_22 rfl (lv_at hl 0 rfl) ?_
        refine lv_dup hx hb dX4_win_23 rfl ?_
        refine va_get (D := E.1) (ci := 4) (C := RX4) (T := TX4) (N := 11) hx hb hts hinX4 hown hE.1 hP 0 rfl rfl 10 (by decide) (hts (.fieldLink RX4 52 "StakeHouse" "marks" "J") (by decide +kernel)) (fun _ h9 => h9) rfl dX4_win_24 ?_
        refine lv_aload_n hx hb dX4_win_27 rfl (lv_at hl 3 rfl) ?_
        refine vp_callSi (run_weak (va_runU (x := ⟨"StakeHouse$EvenGame", "mark", "()I"⟩) ⟨hx, hb, hml, hown, hts⟩ (c_X3_mark l E _ (52 + pl i) (ga i) (gb i) (gd i) hdi (wX_rest.trans (hGA _ hi).2.1) hk) (va_cwO 0 hts gX4_win_X3_mark_u78X3 rfl rfl rfl (show Cond.code ⟨"StakeHouse$EvenGame", "mark", "()I"⟩ cX1_mark 1 (some .int) ∈ wsX4_win by decide +kernel) (by decide +kernel) ⟨Nat.le_of_ble_eq_true rfl, Nat.le_of_ble_eq_true rfl⟩) (ePu_V hP hE (ci := 3) (k := (52 + pl i)) rfl (show (wX E ad g hz n mk td gr cf ce ck rv st wo ++ rest)[52 + pl i]? = some (ga i, .inr (3, [.int (nI (gM (gd i))), .int (nI (gC (gd i))), .int (nI (gL (gd i))), .ref (gb i), .int (nI (gX (gd i)))])) from wX_rest.trans ((hGA _ hi).2.1.trans (congrArg (fun e => some (ga i, e)) (gmE_2 (b := gb i) hk))))) rfl rfl hl.1 rfl (lv_room (Nat.le_of_ble_eq_true rfl)) dX4_win_28 ⟨Nat.zero_le _, Nat.zero_le _⟩)) (fun r9 hr9 => ?_)
        subst hr9
        refine lv_i2l (v := lN _) hx hb dX4_win_31 (nI_l (by omega)) ?_
        refine lv_ladd hx hb dX4_win_32 ?_
        refine va_put (D := E.1) (ci := 4) (ty := .long) (C := RX4) (T := TX4) (N := 11) hx hb hts hinX4 tyX4 tyX4_ok nmX4 hown hE.1 hP hD hS 0 rfl rfl 10 (by decide) (hts (.fieldLink RX4 52 "StakeHouse" "marks" "J") (by decide +kernel)) (fun _ h9 => h9) rfl (by decide +kernel) rfl rfl (Nat.le_of_ble_eq_true rfl) dX4_win_33 (fun H locs hP hD hS => ?_)
        have hP : va_P E.1 vwCl (wX E ad g hz n (mk + lN 111) td gr cf ce ck rv st wo ++ rest) H := hP
        have hD : va_D (va_A (wX E ad g hz n mk td gr cf ce ck rv st wo ++ rest) s.heap.size) (wX E ad g hz n (mk + lN 111) td gr cf ce ck rv st wo ++ rest) := hD
        refine lv_aload_n hx hb dX4_win_36 rfl (lv_at hl 3 rfl) ?_
        refine lv_iload_n hx hb dX4_win_37 rfl (lv_at hl 2 rfl) ?_
        refine vp_callSi (run_weak (va_runU (x := ⟨"StakeHouse$EvenGame", "gain", "(I)I"⟩) ⟨hx, hb, hml, hown, hts⟩ (c_X3_gain l E _ (52 + pl i) (ga i) (gb i) (gd i) hdi (wX_rest.trans (hGA _ hi).2.1) hk st9 (by omega)) (va_cwO 1 hts gX4_win_X3_gain_u82X3 rfl rfl rfl (show Cond.code ⟨"StakeHouse$EvenGame", "gain", "(I)I"⟩ cX1_gain 2 (some .int) ∈ wsX4_win by decide +kernel) (by decide +kernel) ⟨Nat.le_of_ble_eq_true rfl, Nat.le_of_ble_eq_true rfl⟩) (ePu_V hP hE (ci := 3) (k := (52 + pl i)) rfl (show (wX E ad g hz n (mk + lN 111) td gr cf ce ck rv st wo ++ rest)[52 + pl i]? = some (ga i, .inr (3, [.int (nI (gM (gd i))), .int (nI (gC (gd i))), .int (nI (gL (gd i))), .ref (gb i), .int (nI (gX (gd i)))])) from wX_rest.trans ((hGA _ hi).2.1.trans (congrArg (fun e => some (ga i, e)) (gmE_2 (b := gb i) hk))))) rfl rfl hl.1 rfl (lv_room (Nat.le_of_ble_eq_true rfl)) dX4_win_38 ⟨Nat.zero_le _, Nat.zero_le _⟩)) (fun r9 hr9 => ?_)
        subst hr9
        exact ret_Wi hx hb hr hlocks dX4_win_41 hP hD hS ⟨_, Or.inl ⟨i, st9, rfl, rfl, hi, hs1, hs2, rfl, by rw [hmk]⟩, rfl⟩
    · skip
      refine lv_iconst (v := (-1)) hx hb dX4_win_20 (by decide) ?_
      exact ret_Wi hx hb hr hlocks dX4_win_21 hP hD hS ⟨mk, Or.inr ⟨fun ⟨i, st, e1, e2, g1, g2, g3⟩ => c17 (by rw [e2]; exact (nI_rngI (by omega) (by decide) (by decide)).mpr ⟨g2, g3⟩), rfl, rfl⟩, rfl⟩
  · skip
    have hr9 := gameAt_out hn hi9 hr9
    subst hr9
    refine tp_r (show va_rf none = .null from rfl) ?_
    refine lv_astore_nN hx hb dX4_win_5 rfl hl (by decide) rfl (fun ls hl => ?_)
    refine lv_aload_nN hx hb dX4_win_6 rfl (lv_at hl 0 rfl) ?_
    refine lv_ifnullN (tgt := 20) hx hb dX4_win_7 (by decide) ?_
    refine lv_iconst (v := (-1)) hx hb dX4_win_20 (by decide) ?_
    exact ret_Wi hx hb hr hlocks dX4_win_21 hP hD hS ⟨mk, Or.inr ⟨fun ⟨i, st, e1, e2, g1, g2, g3⟩ => hi9 ⟨i, g1, e1⟩, rfl, rfl⟩, rfl⟩
