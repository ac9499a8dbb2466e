/-! StakeHouse: what reads more (best stakes, plans) -/
set_option maxHeartbeats 4000000 in
set_option maxRecDepth 100000 in
/-- greatestStake -/
theorem c_greatestStake (l : Launch) (E : eT) (ws : va_W) (ad : Nat → Nat) (g hz n : Nat) (mk : Int64) (hX : ws[0]? = some (ad 0, xE ad g hz n mk)) (hg32 : g ≤ 32) (k a b : Nat) (d : gT) (hd : gOk d) (hg : ws[k]? = some (a, gmE d b)) (hgn : ws[k + 1]? = some (b, gnE E d)) (kb ab : Nat) (f : Nat → Int64) (v : Nat → Nat) (hbf : ws[kb]? = some (ab, xJ E 33 f)) (hf : ∀ j, j ≤ g → f j = lN (v j)) (hv : ∀ j, j ≤ g → v j ≤ 2 ^ 49) (q : Nat) (hq : q ≤ g) : mPl l yX4_greatestStake wsX4_greatestStake 2 50 E ws [.ref (ad 0), .ref a, .ref ab, .int (nI q)] (fun r => r = lN (gS g d v q (min q (gL d)) 0)) := by
  refine mP_of (cc := cX4_greatestStake) (maxL := 8) (ret := (some .long)) (by decide) rfl (Nat.le_of_ble_eq_true rfl) ?_
  intro p0 e0 s m below meth c0 ls hx hb hr hml hts hown hlocks hE hP hl
  have hown : s.vm.findClass RX4 = some m.cls := hown
  have hl : lv_has ls 8 [(0, .ref (ad 0)), (1, .ref a), (2, .ref ab), (3, .int (nI q))] := hl
  have hinX4 : ∀ w ∈ wsX40, w ∈ wsX4_greatestStake := by decide +kernel
  have hinX1 : ∀ w ∈ wsX10, w ∈ wsX4_greatestStake := by decide +kernel
  have hinX2 : ∀ w ∈ wsX20, w ∈ wsX4_greatestStake := by decide +kernel
  have hinX3 : ∀ w ∈ wsX30, w ∈ wsX4_greatestStake := by decide +kernel
  refine lv_aload_n hx hb dX4_greatestStake_0 rfl (lv_at hl 1 rfl) ?_
  refine lv_iload_n hx hb dX4_greatestStake_1 rfl (lv_at hl 3 rfl) ?_
  refine vp_callSi (W.runS ⟨hx, hb, hml, hown, hts⟩ (c_mostStake l E ws k a b d hd hg q (by omega)) (va_cwS 2 hts gX4_greatestStake_X4_mostStake rfl rfl rfl (by decide +kernel) ⟨Nat.le_of_ble_eq_true rfl, Nat.le_of_ble_eq_true rfl⟩) (ePu_S hP hE) rfl rfl hl.1 rfl (lv_room (Nat.le_of_ble_eq_true rfl)) dX4_greatestStake_2 ⟨Nat.zero_le _, Nat.zero_le _⟩) (fun r9 hr9 => ?_)
  subst hr9
  refine st_i2 hx hb 4 dX4_greatestStake_5 hl (by decide) rfl (fun ls hl => ?_)
  refine lv_lconst (v := lN 0) hx hb dX4_greatestStake_7 rfl ?_
  refine st_l2 hx hb 5 dX4_greatestStake_8 hl (by decide) rfl (fun ls hl => ?_)
  refine lv_iconst (v := nI 1) hx hb dX4_greatestStake_10 (by decide) ?_
  refine st_i2 hx hb 6 dX4_greatestStake_11 hl (by decide) rfl (fun ls hl => ?_)
  have hL1 := hd.2.2.2.2.2
  refine wLoop (min q (gL d)) 0 (fun i ls => lv_has ls 8 [(0, .ref (ad 0)), (1, .ref a), (2, .ref ab), (3, .int (nI q)), (4, .int (nI (min q (gL d)))), (5, .long (lN (gS g d v q i 0))), (7, .int (nI (i + 1)))]) (Nat.zero_le _) (fun i ls hi hl ih => ?_) (fun ls hl => ?_) hl
  · skip
    refine lv_iload hx hb dX4_greatestStake_13 (lv_at hl 6 rfl) ?_
    refine lv_iload hx hb dX4_greatestStake_15 (lv_at hl 4 rfl) ?_
    refine n_gt hx hb (by omega) (by omega) 53 dX4_greatestStake_17 (by decide) (fun c17 => ?_) (fun c17 => ?_)
    · skip
      exact absurd c17 (by omega)
    · skip
      refine lv_lload hx hb dX4_greatestStake_20 (lv_at hl 5 rfl) ?_
      refine lv_aload_n hx hb dX4_greatestStake_22 rfl (lv_at hl 1 rfl) ?_
      refine lv_aload_n hx hb dX4_greatestStake_23 rfl (lv_at hl 2 rfl) ?_
      refine lv_aload_n hx hb dX4_greatestStake_24 rfl (lv_at hl 0 rfl) ?_
      refine lv_aload_n hx hb dX4_greatestStake_25 rfl (lv_at hl 1 rfl) ?_
      refine lv_iload_n hx hb dX4_greatestStake_26 rfl (lv_at hl 3 rfl) ?_
      refine lv_iload hx hb dX4_greatestStake_27 (lv_at hl 6 rfl) ?_
      refine vp_callSi (W.runV ⟨hx, hb, hml, hown, hts⟩ (c_raised l E ws ad g hz n mk hX hg32 k a b d hd hg hgn q (i + 1) (by omega) (by omega)) (cwV 3 hts gX4_greatestStake_X4_raised rfl rfl rfl (by decide +kernel) ⟨Nat.le_of_ble_eq_true rfl, Nat.le_of_ble_eq_true rfl⟩) (ePu_V hP hE (ci := 4) (k := 0) rfl hX) rfl rfl hl.1 rfl (lv_room (Nat.le_of_ble_eq_true rfl)) dX4_greatestStake_29 ⟨Nat.zero_le _, Nat.zero_le _⟩) (fun r9 hr9 => ?_)
      subst hr9
      refine va_lald hx hb hE.1 hP kb 1 hbf rfl (vp_in_nI (by omega) (by decide)) dX4_greatestStake_32 ?_
      refine tp_l (ldv hf (by omega) hg32) ?_
      refine lv_aload_n hx hb dX4_greatestStake_33 rfl (lv_at hl 2 rfl) ?_
      refine lv_iload_n hx hb dX4_greatestStake_34 rfl (lv_at hl 3 rfl) ?_
      refine lv_iload hx hb dX4_greatestStake_35 (lv_at hl 6 rfl) ?_
      refine lv_isub hx hb dX4_greatestStake_37 ?_
      refine tp_i (pk_sub (by omega)) ?_
      refine va_lald hx hb hE.1 hP kb 1 hbf rfl (vp_in_nI (by omega) (by decide)) dX4_greatestStake_38 ?_
      refine tp_l (ldv hf (by omega) hg32) ?_
      refine vp_callSl (W.runS ⟨hx, hb, hml, hown, hts⟩ (c_mixed l E ws k a b d hd hg _ _) (va_cwS 3 hts gX4_greatestStake_X4_mixed rfl rfl rfl (by decide +kernel) ⟨Nat.le_of_ble_eq_true rfl, Nat.le_of_ble_eq_true rfl⟩) (ePu_S hP hE) rfl rfl hl.1 rfl (lv_room (Nat.le_of_ble_eq_true rfl)) dX4_greatestStake_39 ⟨Nat.zero_le _, Nat.zero_le _⟩) (fun r9 hr9 => ?_)
      subst hr9
      have hb1 := gS_le (a := 0) hd hv hq (Nat.zero_le _) i
      have hb2 := gMix_le hd (hv (min g (q + gWin d (i + 1))) (by omega)) (hv (q - (i + 1)) (by omega))
      unfold gMix at hb2
      refine va_mmax_long hx hb (hml.trans hl.1.symm) hown (hts (.methodLink RX4 180 Lib.MathLoose.max_long.x) (by decide +kernel)) (hts (.static Lib.MathLoose.max_long.x) (by decide +kernel)) (hts (.initialized "java/lang/Math") (by decide +kernel)) (hts (.code Lib.MathLoose.max_long.x Lib.MathLoose.max_long.code 4 (some .long)) (by decide +kernel)) (Nat.le_of_ble_eq_true rfl) (Nat.le_of_ble_eq_true rfl) (Nat.zero_le _) (Nat.zero_le _) dX4_greatestStake_42 ?_
      refine tp_l (lN_max2 (by omega) (by omega)) ?_
      refine st_l2 hx hb 5 dX4_greatestStake_45 hl (by decide) rfl (fun ls hl => ?_)
      refine st_inc hx hb 6 dX4_greatestStake_47 hl rfl (nI_1 _) (by decide) rfl (fun ls hl => ?_)
      refine lv_goto (tgt := 13) hx hb dX4_greatestStake_50 (by decide) ?_
      exact ih _ hl
  · skip
    refine lv_iload hx hb dX4_greatestStake_13 (lv_at hl 6 rfl) ?_
    refine lv_iload hx hb dX4_greatestStake_15 (lv_at hl 4 rfl) ?_
    refine n_gt hx hb (by omega) (by omega) 53 dX4_greatestStake_17 (by decide) (fun c17 => ?_) (fun c17 => ?_)
    · skip
      refine lv_lload hx hb dX4_greatestStake_53 (lv_at hl 5 rfl) ?_
      exact ret_Pl hx hb hr hlocks dX4_greatestStake_55 rfl
    · skip
      exact absurd c17 (by omega)
set_option maxHeartbeats 4000000 in
set_option maxRecDepth 100000 in
/-- boldStake -/
theorem c_boldStake (l : Launch) (E : eT) (ws : va_W) (ad : Nat → Nat) (g hz n : Nat) (mk : Int64) (hX : ws[0]? = some (ad 0, xE ad g hz n mk)) (hg32 : g ≤ 32) (k a b : Nat) (d : gT) (hd : gOk d) (hg : ws[k]? = some (a, gmE d b)) (hgn : ws[k + 1]? = some (b, gnE E d)) (q : Nat) (hq1 : 1 ≤ q) (hq : q ≤ g) : mPi l yX4_boldStake wsX4_boldStake 2 50 E ws [.ref (ad 0), .ref a, .int (nI q)] (fun r => r = nI (gBold g d q)) := by
  refine mP_of (cc := cX4_boldStake) (maxL := 5) (ret := (some .int)) (by decide) rfl (Nat.le_of_ble_eq_true rfl) ?_
  intro p0 e0 s m below meth c0 ls hx hb hr hml hts hown hlocks hE hP hl
  have hown : s.vm.findClass RX4 = some m.cls := hown
  have hl : lv_has ls 5 [(0, .ref (ad 0)), (1, .ref a), (2, .int (nI q))] := hl
  have hinX4 : ∀ w ∈ wsX40, w ∈ wsX4_boldStake := by decide +kernel
  have hinX1 : ∀ w ∈ wsX10, w ∈ wsX4_boldStake := by decide +kernel
  have hinX2 : ∀ w ∈ wsX20, w ∈ wsX4_boldStake := by decide +kernel
  have hinX3 : ∀ w ∈ wsX30, w ∈ wsX4_boldStake := by decide +kernel
  refine lv_aload_n hx hb dX4_boldStake_0 rfl (lv_at hl 1 rfl) ?_
  refine lv_iload_n hx hb dX4_boldStake_1 rfl (lv_at hl 2 rfl) ?_
  refine vp_callSi (W.runS ⟨hx, hb, hml, hown, hts⟩ (c_mostStake l E ws k a b d hd hg q (by omega)) (va_cwS 2 hts gX4_boldStake_X4_mostStake rfl rfl rfl (by decide +kernel) ⟨Nat.le_of_ble_eq_true rfl, Nat.le_of_ble_eq_true rfl⟩) (ePu_S hP hE) rfl rfl hl.1 rfl (lv_room (Nat.le_of_ble_eq_true rfl)) dX4_boldStake_2 ⟨Nat.zero_le _, Nat.zero_le _⟩) (fun r9 hr9 => ?_)
  subst hr9
  refine st_i1 hx hb 3 dX4_boldStake_5 rfl hl (by decide) rfl (fun ls hl => ?_)
  refine lv_iconst (v := nI 1) hx hb dX4_boldStake_6 (by decide) ?_
  refine st_i2 hx hb 4 dX4_boldStake_7 hl (by decide) rfl (fun ls hl => ?_)
  have hL1 := hd.2.2.2.2.2
  have hL0 := hd.2.2.2.2.1
  refine wLoop (min q (gL d) - 1) 0 (fun i ls => gBold g d q = gB g d q (min q (gL d)) (min q (gL d) - (i + 1)) ∧ lv_has ls 5 [(0, .ref (ad 0)), (1, .ref a), (2, .int (nI q)), (3, .int (nI (min q (gL d)))), (4, .int (nI (i + 1)))]) (Nat.zero_le _) (fun i ls hi hI ih => ?_) (fun ls hI => ?_) ⟨rfl, hl⟩
  · skip
    obtain ⟨hI, hl⟩ := hI
    have hW := gWin_le hd (s := i + 1) (by omega)
    refine lv_iload hx hb dX4_boldStake_9 (lv_at hl 4 rfl) ?_
    refine lv_iload_n hx hb dX4_boldStake_11 rfl (lv_at hl 3 rfl) ?_
    refine n_ge hx hb (by omega) (by omega) 40 dX4_boldStake_12 (by decide) (fun c12 => ?_) (fun c12 => ?_)
    · skip
      exact absurd c12 (by omega)
    · skip
      refine lv_iload_n hx hb dX4_boldStake_15 rfl (lv_at hl 2 rfl) ?_
      refine lv_aload_n hx hb dX4_boldStake_16 rfl (lv_at hl 1 rfl) ?_
      refine gf_gains hx hb hts hinX1 hinX2 hinX3 hown hE hP hg dX4_boldStake_17 ?_
      refine lv_iload hx hb dX4_boldStake_20 (lv_at hl 4 rfl) ?_
      refine va_iald hx hb hE.1 hP (k + 1) 0 hgn rfl (vp_in_nI (by omega) (by decide)) dX4_boldStake_22 ?_
      refine tp_i (show _ = nI (gWin d (i + 1)) by rw [nI_clamp (by omega)]) ?_
      refine lv_iadd hx hb dX4_boldStake_23 ?_
      refine tp_i (nI_add _ _) ?_
      refine lv_aload_n hx hb dX4_boldStake_24 rfl (lv_at hl 0 rfl) ?_
      refine va_get (D := E.1) (ci := 4) (C := RX4) (T := TX4) (N := 11) hx hb hts hinX4 hown hE.1 hP 0 hX rfl 7 (by decide) (hts (.fieldLink RX4 42 "StakeHouse" "goal" "I") (by decide +kernel)) (fun _ h9 => h9) rfl dX4_boldStake_25 ?_
      refine n_lt hx hb (by omega) (by omega) 34 dX4_boldStake_28 (by decide) (fun c28 => ?_) (fun c28 => ?_)
      · skip
        have e1 : min q (gL d) - (i + 1) = (min q (gL d) - (i + 1 + 1)) + 1 := by omega
        have e2 : min q (gL d) - (min q (gL d) - (i + 1 + 1) + 1) = i + 1 := by omega
        refine st_inc hx hb 4 dX4_boldStake_34 hl rfl (nI_1 _) (by decide) rfl (fun ls hl => ?_)
        refine lv_goto (tgt := 9) hx hb dX4_boldStake_37 (by decide) ?_
        refine ih _ ⟨?_, hl⟩
        rw [hI, e1, gB, e2, if_neg (by omega)]
      · skip
        have e1 : min q (gL d) - (i + 1) = (min q (gL d) - (i + 1 + 1)) + 1 := by omega
        have e2 : min q (gL d) - (min q (gL d) - (i + 1 + 1) + 1) = i + 1 := by omega
        refine lv_iload hx hb dX4_boldStake_31 (lv_at hl 4 rfl) ?_
        exact ret_Pi hx hb hr hlocks dX4_boldStake_33 (by rw [hI, e1, gB, e2, if_pos (by omega)])
  · skip
    obtain ⟨hI, hl⟩ := hI
    refine lv_iload hx hb dX4_boldStake_9 (lv_at hl 4 rfl) ?_
    refine lv_iload_n hx hb dX4_boldStake_11 rfl (lv_at hl 3 rfl) ?_
    refine n_ge hx hb (by omega) (by omega) 40 dX4_boldStake_12 (by decide) (fun c12 => ?_) (fun c12 => ?_)
    · skip
      refine lv_iload_n hx hb dX4_boldStake_40 rfl (lv_at hl 3 rfl) ?_
      exact ret_Pi hx hb hr hlocks dX4_boldStake_41 (by rw [hI, show min q (gL d) - (min q (gL d) - 1 + 1) = 0 by omega]; rfl)
    · skip
      exact absurd c12 (by omega)
theorem nI_sh1 : ∀ r, r ≤ 5 → nI 1 <<< (nI r &&& 31) = nI (2 ^ r)
  | 0, _ => by decide
  | 1, _ => by decide
  | 2, _ => by decide
  | 3, _ => by decide
  | 4, _ => by decide
  | 5, _ => by decide
set_option maxHeartbeats 4000000 in
set_option maxRecDepth 100000 in
/-- planned -/
theorem c_planned (l : Launch) (E : eT) (ws : va_W) (ad : Nat → Nat) (g hz n : Nat) (mk : Int64) (hX : ws[0]? = some (ad 0, xE ad g hz n mk)) (hg32 : g ≤ 32) (k a b : Nat) (d : gT) (hd : gOk d) (hg : ws[k]? = some (a, gmE d b)) (hgn : ws[k + 1]? = some (b, gnE E d)) (td : Nat → Nat) (htd : ws[2]? = some (ad 2, xI E 33 (fun j => nI (td j)))) (htd2 : ∀ j, td j ≤ 32) (plan q r : Nat) (hpl : plan ≤ 3) (hr5 : r ≤ 5) (hq1 : 1 ≤ q) (hq : q ≤ g) : mPi l yX4_planned wsX4_planned 3 80 E ws [.ref (ad 0), .int (nI plan), .ref a, .int (nI q), .int (nI r)] (fun x => x = nI (gPl g d td plan q r)) := by
  refine mP_of (cc := cX4_planned) (maxL := 5) (ret := (some .int)) (by decide) rfl (Nat.le_of_ble_eq_true rfl) ?_
  intro p0 e0 s m below meth c0 ls hx hb hr hml hts hown hlocks hE hP hl
  have hown : s.vm.findClass RX4 = some m.cls := hown
  have hl : lv_has ls 5 [(0, .ref (ad 0)), (1, .int (nI plan)), (2, .ref a), (3, .int (nI q)), (4, .int (nI r))] := hl
  have hinX4 : ∀ w ∈ wsX40, w ∈ wsX4_planned := by decide +kernel
  have hinX1 : ∀ w ∈ wsX10, w ∈ wsX4_planned := by decide +kernel
  have hinX2 : ∀ w ∈ wsX20, w ∈ wsX4_planned := by decide +kernel
  have hinX3 : ∀ w ∈ wsX30, w ∈ wsX4_planned := by decide +kernel
  have hL1 := hd.2.2.2.2.2
  have ht9 := htd2 q
  refine lv_iload_n hx hb dX4_planned_0 rfl (lv_at hl 1 rfl) ?_
  rcases (show plan = 0 ∨ plan = 1 ∨ plan = 2 ∨ plan = 3 by omega) with rfl | rfl | rfl | rfl
  · skip
    refine lv_tableIn (tgt := 28) hx hb dX4_planned_1 (by decide) (by decide) rfl (by decide) ?_
    refine lv_aload_n hx hb dX4_planned_28 rfl (lv_at hl 0 rfl) ?_
    refine lv_aload_n hx hb dX4_planned_29 rfl (lv_at hl 2 rfl) ?_
    refine lv_iload_n hx hb dX4_planned_30 rfl (lv_at hl 3 rfl) ?_
    refine vp_callSi (W.runV ⟨hx, hb, hml, hown, hts⟩ (c_boldStake l E ws ad g hz n mk hX hg32 k a b d hd hg hgn q hq1 hq) (cwV 2 hts gX4_planned_X4_boldStake rfl rfl rfl (by decide +kernel) ⟨Nat.le_of_ble_eq_true rfl, Nat.le_of_ble_eq_true rfl⟩) (ePu_V hP hE (ci := 4) (k := 0) rfl hX) rfl rfl hl.1 rfl (lv_room (Nat.le_of_ble_eq_true rfl)) dX4_planned_31 ⟨Nat.zero_le _, Nat.zero_le _⟩) (fun r9 hr9 => ?_)
    subst hr9
    exact ret_Pi hx hb hr hlocks dX4_planned_34 rfl
  · skip
    refine lv_tableIn (tgt := 35) hx hb dX4_planned_1 (by decide) (by decide) rfl (by decide) ?_
    refine lv_iconst (v := nI 1) hx hb dX4_planned_35 (by decide) ?_
    exact ret_Pi hx hb hr hlocks dX4_planned_36 rfl
  · skip
    refine lv_tableIn (tgt := 37) hx hb dX4_planned_1 (by decide) (by decide) rfl (by decide) ?_
    refine lv_aload_n hx hb dX4_planned_37 rfl (lv_at hl 0 rfl) ?_
    refine va_get (D := E.1) (ci := 4) (C := RX4) (T := TX4) (N := 11) hx hb hts hinX4 hown hE.1 hP 0 hX rfl 1 (by decide) (hts (.fieldLink RX4 15 "StakeHouse" "told" "[I") (by decide +kernel)) (fun _ h9 => h9) rfl dX4_planned_38 ?_
    refine lv_iload_n hx hb dX4_planned_41 rfl (lv_at hl 3 rfl) ?_
    refine va_iald hx hb hE.1 hP 2 0 htd rfl (vp_in_nI (by omega) (by decide)) dX4_planned_42 ?_
    refine tp_i (show _ = nI (td q) by rw [nI_clamp (by omega)]) ?_
    refine lv_aload_n hx hb dX4_planned_43 rfl (lv_at hl 2 rfl) ?_
    refine lv_iload_n hx hb dX4_planned_44 rfl (lv_at hl 3 rfl) ?_
    refine vp_callSi (W.runS ⟨hx, hb, hml, hown, hts⟩ (c_mostStake l E ws k a b d hd hg q (by omega)) (va_cwS 2 hts gX4_planned_X4_mostStake rfl rfl rfl (by decide +kernel) ⟨Nat.le_of_ble_eq_true rfl, Nat.le_of_ble_eq_true rfl⟩) (ePu_S hP hE) rfl rfl hl.1 rfl (lv_room (Nat.le_of_ble_eq_true rfl)) dX4_planned_45 ⟨Nat.zero_le _, Nat.zero_le _⟩) (fun r9 hr9 => ?_)
    subst hr9
    refine va_mmin hx hb (hml.trans hl.1.symm) hown (hts (.methodLink RX4 137 Lib.Math.min.name) (by decide +kernel)) (hts (.static Lib.Math.min.name) (by decide +kernel)) (hts (.initialized "java/lang/Math") (by decide +kernel)) (hts (.code Lib.Math.min.name Lib.Math.min.code 2 (some .int)) (by decide +kernel)) (Nat.le_of_ble_eq_true rfl) (Nat.le_of_ble_eq_true rfl) (Nat.zero_le _) (Nat.zero_le _) dX4_planned_48 ?_
    refine tp_i (nI_min (by omega) (by omega)) ?_
    exact ret_Pi hx hb hr hlocks dX4_planned_51 rfl
  · skip
    refine lv_tableOut (tgt := 52) hx hb dX4_planned_1 (Or.inr (by decide)) (by decide) ?_
    refine lv_iconst (v := nI 1) hx hb dX4_planned_52 (by decide) ?_
    refine lv_iload hx hb dX4_planned_53 (lv_at hl 4 rfl) ?_
    refine lv_ishl hx hb dX4_planned_55 ?_
    refine tp_i (show _ = nI (2 ^ r) from nI_sh1 r hr5) ?_
    have h2r : 2 ^ r ≤ 32 := (Nat.pow_le_pow_right (by decide) hr5 : 2 ^ r ≤ 2 ^ 5)
    refine lv_aload_n hx hb dX4_planned_56 rfl (lv_at hl 2 rfl) ?_
    refine lv_iload_n hx hb dX4_planned_57 rfl (lv_at hl 3 rfl) ?_
    refine vp_callSi (W.runS ⟨hx, hb, hml, hown, hts⟩ (c_mostStake l E ws k a b d hd hg q (by omega)) (va_cwS 2 hts gX4_planned_X4_mostStake rfl rfl rfl (by decide +kernel) ⟨Nat.le_of_ble_eq_true rfl, Nat.le_of_ble_eq_true rfl⟩) (ePu_S hP hE) rfl rfl hl.1 rfl (lv_room (Nat.le_of_ble_eq_true rfl)) dX4_planned_58 ⟨Nat.zero_le _, Nat.zero_le _⟩) (fun r9 hr9 => ?_)
    subst hr9
    refine va_mmin hx hb (hml.trans hl.1.symm) hown (hts (.methodLink RX4 137 Lib.Math.min.name) (by decide +kernel)) (hts (.static Lib.Math.min.name) (by decide +kernel)) (hts (.initialized "java/lang/Math") (by decide +kernel)) (hts (.code Lib.Math.min.name Lib.Math.min.code 2 (some .int)) (by decide +kernel)) (Nat.le_of_ble_eq_true rfl) (Nat.le_of_ble_eq_true rfl) (Nat.zero_le _) (Nat.zero_le _) dX4_planned_61 ?_
    refine tp_i (nI_min (by omega) (by omega)) ?_
    exact ret_Pi hx hb hr hlocks dX4_planned_64 rfl
set_option maxHeartbeats 4000000 in
set_option maxRecDepth 100000 in
/-- bestStakes -/
theorem c_bestStakes (l : Launch) (E : eT) (ws : va_W) (ad : Nat → Nat) (g hz n : Nat) (mk : Int64) (hX : ws[0]? = some (ad 0, xE ad g hz n mk)) (hg32 : g ≤ 32) (k a b : Nat) (d : gT) (hd : gOk d) (hg : ws[k]? = some (a, gmE d b)) (hgn : ws[k + 1]? = some (b, gnE E d)) (kb ab : Nat) (f : Nat → Int64) (v : Nat → Nat) (hbf : ws[kb]? = some (ab, xJ E 33 f)) (hf : ∀ j, j ≤ g → f j = lN (v j)) (hv : ∀ j, j ≤ g → v j ≤ 2 ^ 49) (q top : Nat) (hq : q ≤ g) (htop : top < 2 ^ 63) : mPl l yX4_bestStakes wsX4_bestStakes 2 50 E ws [.ref (ad 0), .ref a, .int (nI q), .long (lN top), .ref ab] (fun r => r = gBits g d v q top (min q (gL d))) := by
  refine mP_of (cc := cX4_bestStakes) (maxL := 10) (ret := (some .long)) (by decide) rfl (Nat.le_of_ble_eq_true rfl) ?_
  intro p0 e0 s m below meth c0 ls hx hb hr hml hts hown hlocks hE hP hl
  have hown : s.vm.findClass RX4 = some m.cls := hown
  have hl : lv_has ls 10 [(0, .ref (ad 0)), (1, .ref a), (2, .int (nI q)), (3, .long (lN top)), (5, .ref ab)] := hl
  have hinX4 : ∀ w ∈ wsX40, w ∈ wsX4_bestStakes := by decide +kernel
  have hinX1 : ∀ w ∈ wsX10, w ∈ wsX4_bestStakes := by decide +kernel
  have hinX2 : ∀ w ∈ wsX20, w ∈ wsX4_bestStakes := by decide +kernel
  have hinX3 : ∀ w ∈ wsX30, w ∈ wsX4_bestStakes := by decide +kernel
  have hL1 := hd.2.2.2.2.2
  have hvq := hv q hq
  refine wCut (fun x : Int64 => F0 m 18 ls [.long x]) (fun x => x = gBits g d v q top 0) ?_ ?_
  · skip
    intro x hx0
    subst hx0
    refine st_l2 hx hb 5 dX4_bestStakes_18 hl (by decide) rfl (fun ls hl => ?_)
    refine lv_aload_n hx hb dX4_bestStakes_20 rfl (lv_at hl 1 rfl) ?_
    refine lv_iload_n hx hb dX4_bestStakes_21 rfl (lv_at hl 2 rfl) ?_
    refine vp_callSi (W.runS ⟨hx, hb, hml, hown, hts⟩ (c_mostStake l E ws k a b d hd hg q (by omega)) (va_cwS 2 hts gX4_bestStakes_X4_mostStake rfl rfl rfl (by decide +kernel) ⟨Nat.le_of_ble_eq_true rfl, Nat.le_of_ble_eq_true rfl⟩) (ePu_S hP hE) rfl rfl hl.1 rfl (lv_room (Nat.le_of_ble_eq_true rfl)) dX4_bestStakes_22 ⟨Nat.zero_le _, Nat.zero_le _⟩) (fun r9 hr9 => ?_)
    subst hr9
    refine st_i2 hx hb 6 dX4_bestStakes_25 hl (by decide) rfl (fun ls hl => ?_)
    refine lv_iconst (v := nI 1) hx hb dX4_bestStakes_27 (by decide) ?_
    refine st_i2 hx hb 7 dX4_bestStakes_28 hl (by decide) rfl (fun ls hl => ?_)
    refine wLoop (min q (gL d)) 0 (fun i ls => lv_has ls 10 [(0, .ref (ad 0)), (1, .ref a), (2, .int (nI q)), (3, .long (lN top)), (5, .ref ab), (6, .long (gBits g d v q top i)), (8, .int (nI (min q (gL d)))), (9, .int (nI (i + 1)))]) (Nat.zero_le _) (fun i ls hi hl ih => ?_) (fun ls hl => ?_) hl
    · skip
      refine lv_iload hx hb dX4_bestStakes_30 (lv_at hl 7 rfl) ?_
      refine lv_iload hx hb dX4_bestStakes_32 (lv_at hl 6 rfl) ?_
      refine n_gt hx hb (by omega) (by omega) 79 dX4_bestStakes_34 (by decide) (fun c34 => ?_) (fun c34 => ?_)
      · skip
        exact absurd c34 (by omega)
      · skip
        refine lv_aload_n hx hb dX4_bestStakes_37 rfl (lv_at hl 1 rfl) ?_
        refine lv_aload hx hb dX4_bestStakes_38 (lv_at hl 4 rfl) ?_
        refine lv_aload_n hx hb dX4_bestStakes_40 rfl (lv_at hl 0 rfl) ?_
        refine lv_aload_n hx hb dX4_bestStakes_41 rfl (lv_at hl 1 rfl) ?_
        refine lv_iload_n hx hb dX4_bestStakes_42 rfl (lv_at hl 2 rfl) ?_
        refine lv_iload hx hb dX4_bestStakes_43 (lv_at hl 7 rfl) ?_
        refine vp_callSi (W.runV ⟨hx, hb, hml, hown, hts⟩ (c_raised l E ws ad g hz n mk hX hg32 k a b d hd hg hgn q (i + 1) (by omega) (by omega)) (cwV 3 hts gX4_bestStakes_X4_raised rfl rfl rfl (by decide +kernel) ⟨Nat.le_of_ble_eq_true rfl, Nat.le_of_ble_eq_true rfl⟩) (ePu_V hP hE (ci := 4) (k := 0) rfl hX) rfl rfl hl.1 rfl (lv_room (Nat.le_of_ble_eq_true rfl)) dX4_bestStakes_45 ⟨Nat.zero_le _, Nat.zero_le _⟩) (fun r9 hr9 => ?_)
        subst hr9
        refine va_lald hx hb hE.1 hP kb 1 hbf rfl (vp_in_nI (by omega) (by decide)) dX4_bestStakes_48 ?_
        refine tp_l (ldv hf (by omega) hg32) ?_
        refine lv_aload hx hb dX4_bestStakes_49 (lv_at hl 4 rfl) ?_
        refine lv_iload_n hx hb dX4_bestStakes_51 rfl (lv_at hl 2 rfl) ?_
        refine lv_iload hx hb dX4_bestStakes_52 (lv_at hl 7 rfl) ?_
        refine lv_isub hx hb dX4_bestStakes_54 ?_
        refine tp_i (pk_sub (by omega)) ?_
        refine va_lald hx hb hE.1 hP kb 1 hbf rfl (vp_in_nI (by omega) (by decide)) dX4_bestStakes_55 ?_
        refine tp_l (ldv hf (by omega) hg32) ?_
        refine vp_callSl (W.runS ⟨hx, hb, hml, hown, hts⟩ (c_mixed l E ws k a b d hd hg _ _) (va_cwS 3 hts gX4_bestStakes_X4_mixed rfl rfl rfl (by decide +kernel) ⟨Nat.le_of_ble_eq_true rfl, Nat.le_of_ble_eq_true rfl⟩) (ePu_S hP hE) rfl rfl hl.1 rfl (lv_room (Nat.le_of_ble_eq_true rfl)) dX4_bestStakes_56 ⟨Nat.zero_le _, Nat.zero_le _⟩) (fun r9 hr9 => ?_)
        subst hr9
        refine lv_lload_n hx hb dX4_bestStakes_59 rfl (lv_at hl 3 rfl) ?_
        refine W.lcmp hx hb dX4_bestStakes_60 ?_
        have hb2 := gMix_le hd (hv (min g (q + gWin d (i + 1))) (by omega)) (hv (q - (i + 1)) (by omega))
        unfold gMix at hb2
        refine lv_if_ne (tgt := 73) hx hb dX4_bestStakes_61 (by decide) (fun c61 => ?_) (fun c61 => ?_)
        · skip
          rw [lg_cmp_eq, pk_lEQ (by omega) htop] at c61
          refine st_inc hx hb 7 dX4_bestStakes_73 hl rfl (nI_1 _) (by decide) rfl (fun ls hl => ?_)
          refine lv_goto (tgt := 30) hx hb dX4_bestStakes_76 (by decide) ?_
          refine ih _ ?_
          have e9 : gBits g d v q top (i + 1) = gBits g d v q top i := if_neg c61
          rw [e9]
          exact hl
        · skip
          rw [lg_cmp_eq, pk_lEQ (by omega) htop] at c61
          refine lv_lload hx hb dX4_bestStakes_64 (lv_at hl 5 rfl) ?_
          refine lv_lconst (v := lN 1) hx hb dX4_bestStakes_66 rfl ?_
          refine lv_iload hx hb dX4_bestStakes_67 (lv_at hl 7 rfl) ?_
          refine lv_lshl hx hb dX4_bestStakes_69 rfl ?_
          refine lv_lor hx hb dX4_bestStakes_70 ?_
          refine st_l2 hx hb 5 dX4_bestStakes_71 hl (by decide) rfl (fun ls hl => ?_)
          refine st_inc hx hb 7 dX4_bestStakes_73 hl rfl (nI_1 _) (by decide) rfl (fun ls hl => ?_)
          refine lv_goto (tgt := 30) hx hb dX4_bestStakes_76 (by decide) ?_
          refine ih _ ?_
          have e9 : gBits g d v q top (i + 1) = gBits g d v q top i ||| (lN 1 <<< ((nI (i + 1)).toInt64 &&& 63)) := if_pos c61
          rw [e9]
          exact hl
    · skip
      refine lv_iload hx hb dX4_bestStakes_30 (lv_at hl 7 rfl) ?_
      refine lv_iload hx hb dX4_bestStakes_32 (lv_at hl 6 rfl) ?_
      refine n_gt hx hb (by omega) (by omega) 79 dX4_bestStakes_34 (by decide) (fun c34 => ?_) (fun c34 => ?_)
      · skip
        refine lv_lload hx hb dX4_bestStakes_79 (lv_at hl 5 rfl) ?_
        exact ret_Pl hx hb hr hlocks dX4_bestStakes_81 rfl
      · skip
        exact absurd c34 (by omega)
  · skip
    intro K
    refine lv_ldc2 (v := 16) hx hb hown (hts (.constantLong RX4 168 (16)) (by decide +kernel)) dX4_bestStakes_0 ?_
    refine tp_l (show (16 : Int64) = lN 16 from rfl) ?_
    refine lv_aload hx hb dX4_bestStakes_3 (lv_at hl 4 rfl) ?_
    refine lv_iload_n hx hb dX4_bestStakes_5 rfl (lv_at hl 2 rfl) ?_
    refine va_lald hx hb hE.1 hP kb 1 hbf rfl (vp_in_nI (by omega) (by decide)) dX4_bestStakes_6 ?_
    refine tp_l (ldv hf (by omega) hg32) ?_
    refine lv_lmul hx hb dX4_bestStakes_7 ?_
    refine tp_l (lN_mul _ _) ?_
    refine lv_lload_n hx hb dX4_bestStakes_8 rfl (lv_at hl 3 rfl) ?_
    refine W.lcmp hx hb dX4_bestStakes_9 ?_
    refine lv_if_ne (tgt := 17) hx hb dX4_bestStakes_10 (by decide) (fun c10 => ?_) (fun c10 => ?_)
    · skip
      rw [lg_cmp_eq, pk_lEQ (by omega) htop] at c10
      refine lv_lconst (v := lN 0) hx hb dX4_bestStakes_17 rfl ?_
      exact K _ (show _ = if 16 * v q = top then lN 1 else lN 0 by rw [if_neg c10])
    · skip
      rw [lg_cmp_eq, pk_lEQ (by omega) htop] at c10
      refine lv_lconst (v := lN 1) hx hb dX4_bestStakes_13 rfl ?_
      refine lv_goto (tgt := 18) hx hb dX4_bestStakes_14 (by decide) ?_
      exact K _ (show _ = if 16 * v q = top then lN 1 else lN 0 by rw [if_pos c10])
