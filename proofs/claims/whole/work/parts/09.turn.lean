/-! StakeHouse: a turn over all games; count, trace, stake -/
theorem gameAt_in {E : eT} {ws : va_W} {gr : Nat → Option Nat} {n : Nat} {pl ga gb : Nat → Nat} {gd : Nat → gT} (h : gAll E ws gr n pl ga gb gd) (hn : n ≤ 4) {i : Nat} (hi : i < n) {r : Option Nat} (hr : r = if nI 0 ≤ nI i ∧ nI i ≤ nI n - nI 1 then gr (nI i).toNatClampNeg else none) : r = some (ga i) := by
  rw [hr, if_pos ((nI_gm (by omega)).mpr ⟨i, hi, rfl⟩), nI_clamp (by omega)]
  exact (h i hi).1
theorem gameAt_out {gr : Nat → Option Nat} {n : Nat} {v : Int32} (hn : n ≤ 4) (hv : ¬ ∃ i : Nat, i < n ∧ v = nI i) {r : Option Nat} (hr : r = if nI 0 ≤ v ∧ v ≤ nI n - nI 1 then gr v.toNatClampNeg else none) : r = none := by
  rw [hr, if_neg (fun q => hv ((nI_gm (by omega)).mp q))]
set_option maxHeartbeats 4000000 in
set_option maxRecDepth 100000 in
/-- greatestTurn -/
theorem c_greatestTurn (l : Launch) (E : eT) (ws : va_W) (ad : Nat → Nat) (g hz n : Nat) (mk : Int64) (hX : ws[0]? = some (ad 0, xE ad g hz n mk)) (hg2 : 2 ≤ g) (hg32 : g ≤ 32) (hn : n ≤ 4) (gr : Nat → Option Nat) (hG : ws[1]? = some (ad 1, xGr E gr)) (pl ga gb : Nat → Nat) (gd : Nat → gT) (hGA : gAll E ws gr n pl ga gb gd) (kc ac w0 o0 : Nat) (k0 : Int32) (lo cnt : Nat) (hlc : lo + cnt ≤ n) (hC : ws[kc]? = some (ac, .inr (0, [.int (nI w0), .ref o0, .int (nI lo), .int (nI (lo + cnt)), .int k0]))) (kb ab : Nat) (f : Nat → Int64) (v : Nat → Nat) (hbf : ws[kb]? = some (ab, xJ E 33 f)) (hf : ∀ j, j ≤ g → f j = lN (v j)) (hv : ∀ j, j ≤ g → v j ≤ 2 ^ 49) (q : Nat) (hq : q ≤ g) : mPl l yX4_greatestTurn wsX4_greatestTurn 3 80 E ws [.ref (ad 0), .ref ac, .ref ab, .int (nI q)] (fun r => r = lN (gTurn g gd lo cnt v q)) := by
  refine mP_of (cc := cX4_greatestTurn) (maxL := 8) (ret := (some .long)) (by decide) rfl (Nat.le_of_ble_eq_true rfl) ?_
  intro p0 e0 s m below meth c0 ls hx hb hr hml hts hown hlocks hE hP hl
  have hown : s.vm.findClass RX4 = some m.cls := hown
  have hl : lv_has ls 8 [(0, .ref (ad 0)), (1, .ref ac), (2, .ref ab), (3, .int (nI q))] := hl
  have hinX4 : ∀ w ∈ wsX40, w ∈ wsX4_greatestTurn := by decide +kernel
  have hinX0 : ∀ w ∈ wsX00, w ∈ wsX4_greatestTurn := by decide +kernel
  have hvq := hv q hq
  refine lv_ldc2 (v := 16) hx hb hown (hts (.constantLong RX4 168 (16)) (by decide +kernel)) dX4_greatestTurn_0 ?_
  refine tp_l (show (16 : Int64) = lN 16 from rfl) ?_
  refine lv_aload_n hx hb dX4_greatestTurn_3 rfl (lv_at hl 2 rfl) ?_
  refine lv_iload_n hx hb dX4_greatestTurn_4 rfl (lv_at hl 3 rfl) ?_
  refine va_lald hx hb hE.1 hP kb 1 hbf rfl (vp_in_nI (by omega) (by decide)) dX4_greatestTurn_5 ?_
  refine tp_l (ldv hf (by omega) hg32) ?_
  refine lv_lmul hx hb dX4_greatestTurn_6 ?_
  refine tp_l (lN_mul _ _) ?_
  refine st_l2 hx hb 4 dX4_greatestTurn_7 hl (by decide) rfl (fun ls hl => ?_)
  refine lv_aload_n hx hb dX4_greatestTurn_9 rfl (lv_at hl 0 rfl) ?_
  refine lv_iload_n hx hb dX4_greatestTurn_10 rfl (lv_at hl 3 rfl) ?_
  refine vp_callSi (W.runV ⟨hx, hb, hml, hown, hts⟩ (c_isPlayed l E ws ad g hz n mk hX hg2 _) (cwV 1 hts gX4_greatestTurn_X4_isPlayed rfl rfl rfl (by decide +kernel) ⟨Nat.le_of_ble_eq_true rfl, Nat.le_of_ble_eq_true rfl⟩) (ePu_V hP hE (ci := 4) (k := 0) rfl hX) rfl rfl hl.1 rfl (lv_room (Nat.le_of_ble_eq_true rfl)) dX4_greatestTurn_11 ⟨Nat.zero_le _, Nat.zero_le _⟩) (fun r9 hr9 => ?_)
  subst hr9
  refine q_ne hx hb 20 dX4_greatestTurn_14 (by decide) (fun c14 => ?_) (fun c14 => ?_)
  · skip
    rw [nI_rngI (by omega) (by decide) (by omega)] at c14
    refine lv_aload_n hx hb dX4_greatestTurn_20 rfl (lv_at hl 1 rfl) ?_
    refine va_getN (D := E.1) (ci := 0) (C := RX0) (T := TX0) (N := 5) hx hb hts hinX0 hown hE.1 hP kc hC rfl 2 (by decide) (va_Nw.use rfl (hE.2 (.fieldLinkNest RX4 170 RX0 "first" "I" RX4) (by decide +kernel))) (fun _ h9 => h9) rfl dX4_greatestTurn_21 ?_
    refine st_i2 hx hb 5 dX4_greatestTurn_24 hl (by decide) rfl (fun ls hl => ?_)
    refine wLoop cnt 0 (fun i ls => lv_has ls 8 [(0, .ref (ad 0)), (1, .ref ac), (2, .ref ab), (3, .int (nI q)), (4, .long (lN (gG g gd v q lo i (16 * v q)))), (6, .int (nI (lo + i)))]) (Nat.zero_le _) (fun i ls hi hl ih => ?_) (fun ls hl => ?_) hl
    · skip
      refine lv_iload hx hb dX4_greatestTurn_26 (lv_at hl 5 rfl) ?_
      refine lv_aload_n hx hb dX4_greatestTurn_28 rfl (lv_at hl 1 rfl) ?_
      refine va_getN (D := E.1) (ci := 0) (C := RX0) (T := TX0) (N := 5) hx hb hts hinX0 hown hE.1 hP kc hC rfl 3 (by decide) (va_Nw.use rfl (hE.2 (.fieldLinkNest RX4 173 RX0 "end" "I" RX4) (by decide +kernel))) (fun _ h9 => h9) rfl dX4_greatestTurn_29 ?_
      refine n_ge hx hb (by omega) (by omega) 69 dX4_greatestTurn_32 (by decide) (fun c32 => ?_) (fun c32 => ?_)
      · skip
        exact absurd c32 (by omega)
      · skip
        refine lv_aload_n hx hb dX4_greatestTurn_35 rfl (lv_at hl 0 rfl) ?_
        refine lv_iload hx hb dX4_greatestTurn_36 (lv_at hl 5 rfl) ?_
        refine va_csq (W.runV ⟨hx, hb, hml, hown, hts⟩ (c_gameAt l E ws ad g hz n mk hX hn gr hG _) (cwV 1 hts gX4_greatestTurn_X4_gameAt rfl rfl rfl (by decide +kernel) ⟨Nat.le_of_ble_eq_true rfl, Nat.le_of_ble_eq_true rfl⟩) (ePu_V hP hE (ci := 4) (k := 0) rfl hX) rfl rfl hl.1 rfl (lv_room (Nat.le_of_ble_eq_true rfl)) dX4_greatestTurn_38 ⟨Nat.zero_le _, Nat.zero_le _⟩) (fun r9 hr9 => ?_)
        have hr9 := gameAt_in hGA hn (by omega) hr9
        subst hr9
        refine tp_r (show va_rf (some _) = .ref (ga (lo + i)) from rfl) ?_
        refine st_a2 hx hb 6 dX4_greatestTurn_41 hl (by decide) rfl (fun ls hl => ?_)
        refine lv_aload hx hb dX4_greatestTurn_43 (lv_at hl 6 rfl) ?_
        refine lv_ifnull hx hb dX4_greatestTurn_45 ?_
        refine lv_lload hx hb dX4_greatestTurn_48 (lv_at hl 4 rfl) ?_
        refine lv_aload_n hx hb dX4_greatestTurn_50 rfl (lv_at hl 0 rfl) ?_
        refine lv_aload hx hb dX4_greatestTurn_51 (lv_at hl 6 rfl) ?_
        refine lv_aload_n hx hb dX4_greatestTurn_53 rfl (lv_at hl 2 rfl) ?_
        refine lv_iload_n hx hb dX4_greatestTurn_54 rfl (lv_at hl 3 rfl) ?_
        refine vp_callSl (W.runV ⟨hx, hb, hml, hown, hts⟩ (c_greatestStake l E ws ad g hz n mk hX hg32 (pl (lo + i)) (ga (lo + i)) (gb (lo + i)) (gd (lo + i)) (hGA _ (by omega)).2.2.2 (hGA _ (by omega)).2.1 (hGA _ (by omega)).2.2.1 kb ab f v hbf hf hv q hq) (cwV 3 hts gX4_greatestTurn_X4_greatestStake rfl rfl rfl (by decide +kernel) ⟨Nat.le_of_ble_eq_true rfl, Nat.le_of_ble_eq_true rfl⟩) (ePu_V hP hE (ci := 4) (k := 0) rfl hX) rfl rfl hl.1 rfl (lv_room (Nat.le_of_ble_eq_true rfl)) dX4_greatestTurn_55 ⟨Nat.zero_le _, Nat.zero_le _⟩) (fun r9 hr9 => ?_)
        subst hr9
        have hb1 := gG_le (gd := gd) (lo := lo) (a := 16 * v q) hv hq (by omega) i (fun j hj => (hGA _ (by omega)).2.2.2)
        have hb2 := gS_le (a := 0) (hGA (lo + i) (by omega)).2.2.2 hv hq (Nat.zero_le _) (min q (gL (gd (lo + i))))
        refine va_mmax_long hx hb (hml.trans hl.1.symm) hown (hts (.methodLink RX4 180 Lib.MathLoose.max_long.x) (by decide +kernel)) (hts (.static Lib.MathLoose.max_long.x) (by decide +kernel)) (hts (.initialized "java/lang/Math") (by decide +kernel)) (hts (.code Lib.MathLoose.max_long.x Lib.MathLoose.max_long.code 4 (some .long)) (by decide +kernel)) (Nat.le_of_ble_eq_true rfl) (Nat.le_of_ble_eq_true rfl) (Nat.zero_le _) (Nat.zero_le _) dX4_greatestTurn_58 ?_
        refine tp_l (lN_max2 (by omega) (by omega)) ?_
        refine st_l2 hx hb 4 dX4_greatestTurn_61 hl (by decide) rfl (fun ls hl => ?_)
        refine st_inc hx hb 5 dX4_greatestTurn_63 hl rfl (nI_1 _) (by decide) rfl (fun ls hl => ?_)
        refine lv_goto (tgt := 26) hx hb dX4_greatestTurn_66 (by decide) ?_
        exact ih _ (lv_sub hl [0, 1, 2, 3, 4, 5] rfl)
    · skip
      refine lv_iload hx hb dX4_greatestTurn_26 (lv_at hl 5 rfl) ?_
      refine lv_aload_n hx hb dX4_greatestTurn_28 rfl (lv_at hl 1 rfl) ?_
      refine va_getN (D := E.1) (ci := 0) (C := RX0) (T := TX0) (N := 5) hx hb hts hinX0 hown hE.1 hP kc hC rfl 3 (by decide) (va_Nw.use rfl (hE.2 (.fieldLinkNest RX4 173 RX0 "end" "I" RX4) (by decide +kernel))) (fun _ h9 => h9) rfl dX4_greatestTurn_29 ?_
      refine n_ge hx hb (by omega) (by omega) 69 dX4_greatestTurn_32 (by decide) (fun c32 => ?_) (fun c32 => ?_)
      · skip
        refine lv_lload hx hb dX4_greatestTurn_69 (lv_at hl 4 rfl) ?_
        exact ret_Pl hx hb hr hlocks dX4_greatestTurn_71 (show _ = lN (gTurn g gd lo cnt v q) by unfold gTurn; rw [if_pos (by omega)])
      · skip
        exact absurd c32 (by omega)
  · skip
    rw [nI_rngI (by omega) (by decide) (by omega)] at c14
    refine lv_lload hx hb dX4_greatestTurn_17 (lv_at hl 4 rfl) ?_
    exact ret_Pl hx hb hr hlocks dX4_greatestTurn_19 (show _ = lN (gTurn g gd lo cnt v q) by unfold gTurn; rw [if_neg (by omega)])
def cnt_of (g hz n : Nat) (v : Int32) : Int32 := if v = 0 then nI g else if v = 1 then nI hz else if v = 2 then nI n else -1
set_option maxHeartbeats 4000000 in
set_option maxRecDepth 100000 in
/-- count -/
theorem c_count (l : Launch) (E : eT) (ws : va_W) (ad : Nat → Nat) (g hz n : Nat) (mk : Int64) (hX : ws[0]? = some (ad 0, xE ad g hz n mk)) (v : Int32) : mPi l yX4_count wsX4_count 0 0 E ws [.ref (ad 0), .int v] (fun r => r = cnt_of g hz n v) := by
  refine mP_of (cc := cX4_count) (maxL := 2) (ret := (some .int)) (by decide) rfl (Nat.le_of_ble_eq_true rfl) ?_
  intro p0 e0 s m below meth c0 ls hx hb hr hml hts hown hlocks hE hP hl
  have hown : s.vm.findClass RX4 = some m.cls := hown
  have hl : lv_has ls 2 [(0, .ref (ad 0)), (1, .int v)] := hl
  have hinX4 : ∀ w ∈ wsX40, w ∈ wsX4_count := by decide +kernel
  refine lv_iload_n hx hb dX4_count_0 rfl (lv_at hl 1 rfl) ?_
  by_cases h0 : v = 0
  · skip
    subst h0
    refine lv_tableIn (tgt := 28) hx hb dX4_count_1 (by decide) (by decide) rfl (by decide) ?_
    refine lv_aload_n hx hb dX4_count_28 rfl (lv_at hl 0 rfl) ?_
    refine va_get (D := E.1) (ci := 4) (C := RX4) (T := TX4) (N := 11) hx hb hts hinX4 hown hE.1 hP 0 hX rfl 7 (by decide) (hts (.fieldLink RX4 42 "StakeHouse" "goal" "I") (by decide +kernel)) (fun _ h9 => h9) rfl dX4_count_29 ?_
    exact ret_Pi hx hb hr hlocks dX4_count_32 rfl
  by_cases h1 : v = 1
  · skip
    subst h1
    refine lv_tableIn (tgt := 33) hx hb dX4_count_1 (by decide) (by decide) rfl (by decide) ?_
    refine lv_aload_n hx hb dX4_count_33 rfl (lv_at hl 0 rfl) ?_
    refine va_get (D := E.1) (ci := 4) (C := RX4) (T := TX4) (N := 11) hx hb hts hinX4 hown hE.1 hP 0 hX rfl 8 (by decide) (hts (.fieldLink RX4 46 "StakeHouse" "horizon" "I") (by decide +kernel)) (fun _ h9 => h9) rfl dX4_count_34 ?_
    exact ret_Pi hx hb hr hlocks dX4_count_37 rfl
  by_cases h2 : v = 2
  · skip
    subst h2
    refine lv_tableIn (tgt := 38) hx hb dX4_count_1 (by decide) (by decide) rfl (by decide) ?_
    refine lv_aload_n hx hb dX4_count_38 rfl (lv_at hl 0 rfl) ?_
    refine va_get (D := E.1) (ci := 4) (C := RX4) (T := TX4) (N := 11) hx hb hts hinX4 hown hE.1 hP 0 hX rfl 9 (by decide) (hts (.fieldLink RX4 49 "StakeHouse" "held" "I") (by decide +kernel)) (fun _ h9 => h9) rfl dX4_count_39 ?_
    exact ret_Pi hx hb hr hlocks dX4_count_42 rfl
  have g0 := lv_neT h0 (show (0 : Int32).toInt = 0 from rfl)
  have g1 := lv_neT h1 (show (1 : Int32).toInt = 1 from rfl)
  have g2 := lv_neT h2 (show (2 : Int32).toInt = 2 from rfl)
  refine lv_tableOut (tgt := 43) hx hb dX4_count_1 (by omega) (by decide) ?_
  refine lv_iconst (v := (-1)) hx hb dX4_count_43 (by decide) ?_
  exact ret_Pi hx hb hr hlocks dX4_count_44 (show _ = cnt_of g hz n v by unfold cnt_of; rw [if_neg h0, if_neg h1, if_neg h2])
set_option maxHeartbeats 4000000 in
set_option maxRecDepth 100000 in
/-- trace -/
theorem c_trace (l : Launch) (E : eT) (ws : va_W) (ad : Nat → Nat) (g hz n : Nat) (mk : Int64) (hX : ws[0]? = some (ad 0, xE ad g hz n mk)) : mPl l yX4_trace wsX4_trace 0 0 E ws [.ref (ad 0)] (fun r => r = mk) := by
  refine mP_of (cc := cX4_trace) (maxL := 1) (ret := (some .long)) (by decide) rfl (Nat.le_of_ble_eq_true rfl) ?_
  intro p0 e0 s m below meth c0 ls hx hb hr hml hts hown hlocks hE hP hl
  have hown : s.vm.findClass RX4 = some m.cls := hown
  have hl : lv_has ls 1 [(0, .ref (ad 0))] := hl
  have hinX4 : ∀ w ∈ wsX40, w ∈ wsX4_trace := by decide +kernel
  refine lv_aload_n hx hb dX4_trace_0 rfl (lv_at hl 0 rfl) ?_
  refine va_get (D := E.1) (ci := 4) (C := RX4) (T := TX4) (N := 11) hx hb hts hinX4 hown hE.1 hP 0 hX rfl 10 (by decide) (hts (.fieldLink RX4 52 "StakeHouse" "marks" "J") (by decide +kernel)) (fun _ h9 => h9) rfl dX4_trace_1 ?_
  exact ret_Pl hx hb hr hlocks dX4_trace_4 rfl
/-- stake's answer -/
def stk_of (g n : Nat) (gd : Nat → gT) (td : Nat → Nat) (pv iv qv : Int32) (r : Int32) : Prop := (∀ (p i q : Nat), pv = nI p → iv = nI i → qv = nI q → p ≤ 2 → i < n → 1 ≤ q → q < g → r = nI (gPl g (gd i) td p q 0)) ∧ ((¬ ∃ (p i q : Nat), pv = nI p ∧ iv = nI i ∧ qv = nI q ∧ p ≤ 2 ∧ i < n ∧ 1 ≤ q ∧ q < g) → r = -1)
theorem stk_no {g n : Nat} {gd : Nat → gT} {td : Nat → Nat} {pv iv qv : Int32} (h : ¬ ∃ (p i q : Nat), pv = nI p ∧ iv = nI i ∧ qv = nI q ∧ p ≤ 2 ∧ i < n ∧ 1 ≤ q ∧ q < g) : stk_of g n gd td pv iv qv (-1) := ⟨fun p i q e1 e2 e3 h1 h2 h3 h4 => absurd ⟨p, i, q, e1, e2, e3, h1, h2, h3, h4⟩ h, fun _ => rfl⟩
theorem stk_yes {g n : Nat} {gd : Nat → gT} {td : Nat → Nat} {p i q : Nat} (hg : g ≤ 32) (hn : n ≤ 4) (h1 : p ≤ 2) (h2 : i < n) (h3 : 1 ≤ q) (h4 : q < g) : stk_of g n gd td (nI p) (nI i) (nI q) (nI (gPl g (gd i) td p q 0)) := by
  refine ⟨fun p' i' q' e1 e2 e3 g1 g2 g3 g4 => ?_, fun h => absurd ⟨p, i, q, rfl, rfl, rfl, h1, h2, h3, h4⟩ h⟩
  rw [nI_eq (by omega) (by omega)] at e1 e2 e3
  rw [e1, e2, e3]
set_option maxHeartbeats 4000000 in
set_option maxRecDepth 100000 in
/-- stake -/
theorem c_stake (l : Launch) (E : eT) (ws : va_W) (ad : Nat → Nat) (g hz n : Nat) (mk : Int64) (hX : ws[0]? = some (ad 0, xE ad g hz n mk)) (hg2 : 2 ≤ g) (hg32 : g ≤ 32) (hn : n ≤ 4) (gr : Nat → Option Nat) (hG : ws[1]? = some (ad 1, xGr E gr)) (pl ga gb : Nat → Nat) (gd : Nat → gT) (hGA : gAll E ws gr n pl ga gb gd) (td : Nat → Nat) (htd : ws[2]? = some (ad 2, xI E 33 (fun j => nI (td j)))) (htd2 : ∀ j, td j ≤ 32) (pv iv qv : Int32) : mPi l yX4_stake wsX4_stake 4 110 E ws [.ref (ad 0), .int pv, .int iv, .int qv] (stk_of g n gd td pv iv qv) := by
  refine mP_of (cc := cX4_stake) (maxL := 5) (ret := (some .int)) (by decide) rfl (Nat.le_of_ble_eq_true rfl) ?_
  intro p0 e0 s m below meth c0 ls hx hb hr hml hts hown hlocks hE hP hl
  have hown : s.vm.findClass RX4 = some m.cls := hown
  have hl : lv_has ls 5 [(0, .ref (ad 0)), (1, .int pv), (2, .int iv), (3, .int qv)] := hl
  have hinX4 : ∀ w ∈ wsX40, w ∈ wsX4_stake := by decide +kernel
  refine lv_aload_n hx hb dX4_stake_0 rfl (lv_at hl 0 rfl) ?_
  refine lv_iload_n hx hb dX4_stake_1 rfl (lv_at hl 2 rfl) ?_
  refine va_csq (W.runV ⟨hx, hb, hml, hown, hts⟩ (c_gameAt l E ws ad g hz n mk hX hn gr hG _) (cwV 1 hts gX4_stake_X4_gameAt rfl rfl rfl (by decide +kernel) ⟨Nat.le_of_ble_eq_true rfl, Nat.le_of_ble_eq_true rfl⟩) (ePu_V hP hE (ci := 4) (k := 0) rfl hX) rfl rfl hl.1 rfl (lv_room (Nat.le_of_ble_eq_true rfl)) dX4_stake_2 ⟨Nat.zero_le _, Nat.zero_le _⟩) (fun r9 hr9 => ?_)
  by_cases hi9 : ∃ i : Nat, i < n ∧ iv = nI i
  · skip
    obtain ⟨i, hi, rfl⟩ := hi9
    have hr9 := gameAt_in hGA hn hi hr9
    subst hr9
    refine tp_r (show va_rf (some _) = .ref (ga i) from rfl) ?_
    refine st_a2 hx hb 4 dX4_stake_5 hl (by decide) rfl (fun ls hl => ?_)
    refine lv_aload hx hb dX4_stake_7 (lv_at hl 4 rfl) ?_
    refine lv_ifnull hx hb dX4_stake_9 ?_
    refine lv_iload_n hx hb dX4_stake_12 rfl (lv_at hl 1 rfl) ?_
    refine lv_iconst (v := nI 0) hx hb dX4_stake_13 (by decide) ?_
    refine lv_iconst (v := nI 2) hx hb dX4_stake_14 (by decide) ?_
    refine vp_callSi (W.runS ⟨hx, hb, hml, hown, hts⟩ (c_within l E ws _ _ _) (va_cwS 3 hts gX4_stake_X4_within rfl rfl rfl (by decide +kernel) ⟨Nat.le_of_ble_eq_true rfl, Nat.le_of_ble_eq_true rfl⟩) (ePu_S hP hE) rfl rfl hl.1 rfl (lv_room (Nat.le_of_ble_eq_true rfl)) dX4_stake_15 ⟨Nat.zero_le _, Nat.zero_le _⟩) (fun r9 hr9 => ?_)
    subst hr9
    refine q_eq hx hb 29 dX4_stake_18 (by decide) (fun c18 => ?_) (fun c18 => ?_)
    · skip
      refine lv_iconst (v := (-1)) hx hb dX4_stake_29 (by decide) ?_
      exact ret_Pi hx hb hr hlocks dX4_stake_30 (stk_no (fun ⟨p, i, q, e1, e2, e3, g1, g2, g3, g4⟩ => c18 (by rw [e1]; exact (nI_rngI (by omega) (by decide) (by decide)).mpr ⟨by omega, g1⟩)))
    · skip
      obtain ⟨p, -, hp2, rfl⟩ := nI_rng (by decide) c18 (by decide)
      refine lv_aload_n hx hb dX4_stake_21 rfl (lv_at hl 0 rfl) ?_
      refine lv_iload_n hx hb dX4_stake_22 rfl (lv_at hl 3 rfl) ?_
      refine vp_callSi (W.runV ⟨hx, hb, hml, hown, hts⟩ (c_isPlayed l E ws ad g hz n mk hX hg2 _) (cwV 1 hts gX4_stake_X4_isPlayed rfl rfl rfl (by decide +kernel) ⟨Nat.le_of_ble_eq_true rfl, Nat.le_of_ble_eq_true rfl⟩) (ePu_V hP hE (ci := 4) (k := 0) rfl hX) rfl rfl hl.1 rfl (lv_room (Nat.le_of_ble_eq_true rfl)) dX4_stake_23 ⟨Nat.zero_le _, Nat.zero_le _⟩) (fun r9 hr9 => ?_)
      subst hr9
      refine q_ne hx hb 31 dX4_stake_26 (by decide) (fun c26 => ?_) (fun c26 => ?_)
      · skip
        obtain ⟨q, hq1, hq2, rfl⟩ := nI_rng (by omega) c26 (by decide)
        refine lv_aload_n hx hb dX4_stake_31 rfl (lv_at hl 0 rfl) ?_
        refine lv_iload_n hx hb dX4_stake_32 rfl (lv_at hl 1 rfl) ?_
        refine lv_aload hx hb dX4_stake_33 (lv_at hl 4 rfl) ?_
        refine lv_iload_n hx hb dX4_stake_35 rfl (lv_at hl 3 rfl) ?_
        refine lv_iconst (v := nI 0) hx hb dX4_stake_36 (by decide) ?_
        refine vp_callSi (W.runV ⟨hx, hb, hml, hown, hts⟩ (c_planned l E ws ad g hz n mk hX hg32 (pl i) (ga i) (gb i) (gd i) (hGA _ hi).2.2.2 (hGA _ hi).2.1 (hGA _ hi).2.2.1 td htd htd2 p q 0 (by omega) (by decide) hq1 (by omega)) (cwV 4 hts gX4_stake_X4_planned rfl rfl rfl (by decide +kernel) ⟨Nat.le_of_ble_eq_true rfl, Nat.le_of_ble_eq_true rfl⟩) (ePu_V hP hE (ci := 4) (k := 0) rfl hX) rfl rfl hl.1 rfl (lv_room (Nat.le_of_ble_eq_true rfl)) dX4_stake_37 ⟨Nat.zero_le _, Nat.zero_le _⟩) (fun r9 hr9 => ?_)
        subst hr9
        exact ret_Pi hx hb hr hlocks dX4_stake_40 (stk_yes hg32 hn hp2 hi hq1 (by omega))
      · skip
        refine lv_iconst (v := (-1)) hx hb dX4_stake_29 (by decide) ?_
        exact ret_Pi hx hb hr hlocks dX4_stake_30 (stk_no (fun ⟨p, i, q, e1, e2, e3, g1, g2, g3, g4⟩ => c26 (by rw [e3]; exact (nI_rngI (by omega) (by decide) (by omega)).mpr ⟨g3, by omega⟩)))
  · skip
    have hr9 := gameAt_out hn hi9 hr9
    subst hr9
    refine tp_r (show va_rf none = .null from rfl) ?_
    refine lv_astoreN hx hb dX4_stake_5 hl (by decide) rfl (fun ls hl => ?_)
    refine lv_aloadN hx hb dX4_stake_7 (lv_at hl 0 rfl) ?_
    refine lv_ifnullN (tgt := 29) hx hb dX4_stake_9 (by decide) ?_
    refine lv_iconst (v := (-1)) hx hb dX4_stake_29 (by decide) ?_
    exact ret_Pi hx hb hr hlocks dX4_stake_30 (stk_no (fun ⟨p, i, q, e1, e2, e3, g1, g2, g3, g4⟩ => hi9 ⟨i, g2, e2⟩))
