/-! plans: rungs laid and played, what a plan brings -/
set_option maxHeartbeats 4000000 in
set_option maxRecDepth 100000 in
/-- layRung -/
theorem c_layRung (l : Launch) (E : eT) (ad : Nat → Nat) (g hz n : Nat) (mk : Int64) (td : Nat → Nat) (gr : Nat → Option Nat) (cf ce ck : Nat → Nat) (rv : Nat → Nat → Int64) (st : Nat → Int32) (wo : Nat → Nat → Int64) (rest : va_W) (hg2 : 2 ≤ g) (hg32 : g ≤ 32) (htd2 : ∀ j, td j ≤ 32) (kg a b : Nat) (d : gT) (hd : gOk d) (hg : rest[kg]? = some (a, gmE d b)) (hgn : rest[kg + 1]? = some (b, gnE E d)) (plan r what : Nat) (hpl : plan ≤ 3) (hr5 : r ≤ 5) (hw3 : what ≤ 3) : mWv l yX4_layRung wsX4_layRung 4 110 0 0 E (wX E ad g hz n mk (fun j => nI (td j)) gr cf ce ck rv st wo ++ rest) [.ref (ad 0), .int (nI plan), .ref a, .int (nI r), .int (nI what)] (fun ws1 => ∃ (st1 : Nat → Int32) (wo1 : Nat → Nat → Int64), (∀ x, (x < r * 33 ∨ r * 33 + g < x) → st1 x = st x ∧ wo1 0 x = wo 0 x) ∧ (∀ q, q ≤ g → st1 (r * 33 + q) = nI (gSt g d td plan r q) ∧ wo1 0 (r * 33 + q) = lN (eW g what q)) ∧ ws1 = wX E ad g hz n mk (fun j => nI (td j)) gr cf ce ck rv st1 wo1 ++ rest) := by
  intro sz
  refine mW_of (cc := cX4_layRung) (maxL := 7) (ret := none) (Qc := fun sz => va_Qv (fun ws1 => ∃ (st1 : Nat → Int32) (wo1 : Nat → Nat → Int64), (∀ x, (x < r * 33 ∨ r * 33 + g < x) → st1 x = st x ∧ wo1 0 x = wo 0 x) ∧ (∀ q, q ≤ g → st1 (r * 33 + q) = nI (gSt g d td plan r q) ∧ wo1 0 (r * 33 + q) = lN (eW g what q)) ∧ ws1 = wX E ad g hz n mk (fun j => nI (td j)) gr cf ce ck rv st1 wo1 ++ rest) (eAt E (va_A (wX E ad g hz n mk (fun j => nI (td j)) gr cf ce ck rv st wo ++ rest) sz)) (va_A (wX E ad g hz n mk (fun j => nI (td j)) gr cf ce ck rv st wo ++ rest) sz)) (by decide) rfl (Nat.le_of_ble_eq_true rfl) ?_
  intro p0 e0 s m below meth c0 ls hx hb hr hml hts hown hlocks hin hE hP hD hl
  have hS : va_S (va_A (wX E ad g hz n mk (fun j => nI (td j)) gr cf ce ck rv st wo ++ rest) s.heap.size) s.heap s.heap [] := va_S.rf
  have hA : ∀ q, s.heap.size ≤ q → (va_A (wX E ad g hz n mk (fun j => nI (td j)) gr cf ce ck rv st wo ++ rest) s.heap.size) q := fun q h => Or.inr h
  have hown : s.vm.findClass RX4 = some m.cls := hown
  have hl : lv_has ls 7 [(0, .ref (ad 0)), (1, .int (nI plan)), (2, .ref a), (3, .int (nI r)), (4, .int (nI what))] := hl
  have hinX4 : ∀ w ∈ wsX40, w ∈ wsX4_layRung := by decide +kernel
  refine lv_iconst (v := nI 0) hx hb dX4_layRung_0 (by decide) ?_
  refine st_i2 hx hb 5 dX4_layRung_1 hl (by decide) rfl (fun ls hl => ?_)
  refine wLoopH (g + 1) 0 (fun k H locs ls => ∃ (st1 : Nat → Int32) (wo1 : Nat → Nat → Int64), (∀ x, (x < r * 33 ∨ r * 33 + g < x) → st1 x = st x ∧ wo1 0 x = wo 0 x) ∧ (∀ q, q < k → st1 (r * 33 + q) = nI (gSt g d td plan r q) ∧ wo1 0 (r * 33 + q) = lN (eW g what q)) ∧ va_P E.1 vwCl (wX E ad g hz n mk (fun j => nI (td j)) gr cf ce ck rv st1 wo1 ++ rest) H ∧ va_D (va_A (wX E ad g hz n mk (fun j => nI (td j)) gr cf ce ck rv st wo ++ rest) s.heap.size) (wX E ad g hz n mk (fun j => nI (td j)) gr cf ce ck rv st1 wo1 ++ rest) ∧ va_S (va_A (wX E ad g hz n mk (fun j => nI (td j)) gr cf ce ck rv st wo ++ rest) s.heap.size) s.heap H locs ∧ lv_has ls 7 [(0, .ref (ad 0)), (1, .int (nI plan)), (2, .ref a), (3, .int (nI r)), (4, .int (nI what)), (5, .int (nI k))]) (Nat.zero_le _) (fun k H locs ls hi_k hI ihk => ?_) (fun H locs ls hI => ?_) ⟨st, wo, fun _ _ => ⟨rfl, rfl⟩, fun q hq => absurd hq (by omega), hP, hD, hS, hl⟩
  · skip
    obtain ⟨st1, wo1, hx1, hq1, hP, hD, hS, hl⟩ := hI
    refine lv_iload hx hb dX4_layRung_3 (lv_at hl 5 rfl) ?_
    refine lv_aload_n hx hb dX4_layRung_5 rfl (lv_at hl 0 rfl) ?_
    refine va_get (D := E.1) (ci := 4) (C := RX4) (T := TX4) (N := 11) hx hb hts hinX4 hown hE.1 hP 0 rfl rfl 7 (by decide) (hts (.fieldLink RX4 42 "StakeHouse" "goal" "I") (by decide +kernel)) (fun _ h9 => h9) rfl dX4_layRung_6 ?_
    refine n_gt hx hb (by omega) (by omega) 73 dX4_layRung_9 (by decide) (fun c9 => ?_) (fun c9 => ?_)
    · skip
      exact absurd c9 (by omega)
    · skip
      refine lv_iload_n hx hb dX4_layRung_12 rfl (lv_at hl 3 rfl) ?_
      refine lv_bipush (v := nI 33) hx hb dX4_layRung_13 (by decide) ?_
      refine lv_imul hx hb dX4_layRung_15 ?_
      refine tp_i (pk_mul _ _) ?_
      refine lv_iload hx hb dX4_layRung_16 (lv_at hl 5 rfl) ?_
      refine lv_iadd hx hb dX4_layRung_18 ?_
      refine tp_i (nI_add _ _) ?_
      refine st_i2 hx hb 6 dX4_layRung_19 hl (by decide) rfl (fun ls hl => ?_)
      refine lv_aload_n hx hb dX4_layRung_21 rfl (lv_at hl 0 rfl) ?_
      refine va_get (D := E.1) (ci := 4) (C := RX4) (T := TX4) (N := 11) hx hb hts hinX4 hown hE.1 hP 0 rfl rfl 5 (by decide) (hts (.fieldLink RX4 34 "StakeHouse" "staked" "[I") (by decide +kernel)) (fun _ h9 => h9) rfl dX4_layRung_22 ?_
      refine lv_iload hx hb dX4_layRung_25 (lv_at hl 6 rfl) ?_
      refine lv_aload_n hx hb dX4_layRung_27 rfl (lv_at hl 0 rfl) ?_
      refine lv_iload hx hb dX4_layRung_28 (lv_at hl 5 rfl) ?_
      refine vp_callSi (W.runV ⟨hx, hb, hml, hown, hts⟩ (c_isPlayed l E _ ad g hz n mk rfl hg2 _) (cwV 1 hts gX4_layRung_X4_isPlayed rfl rfl rfl (by decide +kernel) ⟨Nat.le_of_ble_eq_true rfl, Nat.le_of_ble_eq_true rfl⟩) (ePu_V hP hE (ci := 4) (k := 0) rfl rfl) rfl rfl hl.1 rfl (lv_room (Nat.le_of_ble_eq_true rfl)) dX4_layRung_30 ⟨Nat.zero_le _, Nat.zero_le _⟩) (fun r9 hr9 => ?_)
      subst hr9
      refine q_eq hx hb 48 dX4_layRung_33 (by decide) (fun c33 => ?_) (fun c33 => ?_)
      · skip
        rw [nI_rngI (by omega) (by decide) (by omega)] at c33
        refine lv_iconst (v := nI 0) hx hb dX4_layRung_48 (by decide) ?_
        refine va_iast hx hb hE.1 hP hD hS 6 0 rfl rfl (vp_in_nI (by omega) (by decide)) dX4_layRung_49 (fun H locs hP hD hS => ?_)
        have hP : va_P E.1 vwCl (wX E ad g hz n mk (fun j => nI (td j)) gr cf ce ck rv (upd st1 (r * 33 + k) (nI 0)) wo1 ++ rest) H := (by rw [nI_clamp (by omega)] at hP; exact hP)
        have hD : va_D (va_A (wX E ad g hz n mk (fun j => nI (td j)) gr cf ce ck rv st wo ++ rest) s.heap.size) (wX E ad g hz n mk (fun j => nI (td j)) gr cf ce ck rv (upd st1 (r * 33 + k) (nI 0)) wo1 ++ rest) := (by rw [nI_clamp (by omega)] at hD; exact hD)
        refine lv_aload_n hx hb dX4_layRung_50 rfl (lv_at hl 0 rfl) ?_
        refine va_get (D := E.1) (ci := 4) (C := RX4) (T := TX4) (N := 11) hx hb hts hinX4 hown hE.1 hP 0 rfl rfl 6 (by decide) (hts (.fieldLink RX4 39 "StakeHouse" "worth" "[[J") (by decide +kernel)) (fun _ h9 => h9) rfl dX4_layRung_51 ?_
        refine lv_iconst (v := nI 0) hx hb dX4_layRung_54 (by decide) ?_
        refine va_ald2 hx hb hE.1 hP 7 3 rfl rfl (vp_in_nI (by omega) (by decide)) dX4_layRung_55 ?_
        refine tp_r (xW2_at (i := 0) (by decide)) ?_
        refine lv_iload hx hb dX4_layRung_56 (lv_at hl 6 rfl) ?_
        refine lv_aload_n hx hb dX4_layRung_58 rfl (lv_at hl 0 rfl) ?_
        refine lv_iload hx hb dX4_layRung_59 (lv_at hl 4 rfl) ?_
        refine lv_iload hx hb dX4_layRung_61 (lv_at hl 5 rfl) ?_
        refine vp_callSl (W.runV ⟨hx, hb, hml, hown, hts⟩ (c_endWorth l E _ ad g hz n mk rfl hg32 what k hw3 (by omega)) (cwV 2 hts gX4_layRung_X4_endWorth rfl rfl rfl (by decide +kernel) ⟨Nat.le_of_ble_eq_true rfl, Nat.le_of_ble_eq_true rfl⟩) (ePu_V hP hE (ci := 4) (k := 0) rfl rfl) rfl rfl hl.1 rfl (lv_room (Nat.le_of_ble_eq_true rfl)) dX4_layRung_63 ⟨Nat.zero_le _, Nat.zero_le _⟩) (fun r9 hr9 => ?_)
        subst hr9
        refine va_last hx hb hE.1 hP hD hS (8 + 0) 1 (wX_W (b := 0) (by decide)) rfl (vp_in_nI (by omega) (by decide)) dX4_layRung_66 (fun H locs hP hD hS => ?_)
        rw [wX_setW (by decide), nI_clamp (by omega)] at hP hD
        refine st_inc hx hb 5 dX4_layRung_67 hl rfl (nI_1 _) (by decide) rfl (fun ls hl => ?_)
        refine lv_goto (tgt := 3) hx hb dX4_layRung_70 (by decide) ?_
        have e9 : gSt g d td plan r k = 0 := if_neg (by omega)
        refine ihk _ _ _ ⟨_, _, fun x hx => ⟨?_, ?_⟩, fun q hq => ⟨?_, ?_⟩, hP, hD, hS, lv_sub hl [0, 1, 2, 3, 4, 5] rfl⟩
        · rw [pk_un (by omega)]; exact (hx1 x hx).1
        · rw [vu_at, pk_uLn (by omega)]; exact (hx1 x hx).2
        · by_cases hqk : q = k
          · subst hqk; rw [pk_us, e9]
          · rw [pk_un (by omega)]; exact (hq1 q (by omega)).1
        · rw [vu_at]
          by_cases hqk : q = k
          · subst hqk; exact pk_uLs
          · rw [pk_uLn (by omega)]; exact (hq1 q (by omega)).2
      · skip
        rw [nI_rngI (by omega) (by decide) (by omega)] at c33
        refine lv_aload_n hx hb dX4_layRung_36 rfl (lv_at hl 0 rfl) ?_
        refine lv_iload_n hx hb dX4_layRung_37 rfl (lv_at hl 1 rfl) ?_
        refine lv_aload_n hx hb dX4_layRung_38 rfl (lv_at hl 2 rfl) ?_
        refine lv_iload hx hb dX4_layRung_39 (lv_at hl 5 rfl) ?_
        refine lv_iload_n hx hb dX4_layRung_41 rfl (lv_at hl 3 rfl) ?_
        refine vp_callSi (W.runV ⟨hx, hb, hml, hown, hts⟩ (c_planned l E _ ad g hz n mk rfl hg32 (52 + kg) a b d hd (wX_rest.trans hg) (wX_rest.trans hgn) td rfl htd2 plan k r hpl hr5 (by omega) (by omega)) (cwV 4 hts gX4_layRung_X4_planned rfl rfl rfl (by decide +kernel) ⟨Nat.le_of_ble_eq_true rfl, Nat.le_of_ble_eq_true rfl⟩) (ePu_V hP hE (ci := 4) (k := 0) rfl rfl) rfl rfl hl.1 rfl (lv_room (Nat.le_of_ble_eq_true rfl)) dX4_layRung_42 ⟨Nat.zero_le _, Nat.zero_le _⟩) (fun r9 hr9 => ?_)
        subst hr9
        refine lv_goto (tgt := 49) hx hb dX4_layRung_45 (by decide) ?_
        refine va_iast hx hb hE.1 hP hD hS 6 0 rfl rfl (vp_in_nI (by omega) (by decide)) dX4_layRung_49 (fun H locs hP hD hS => ?_)
        have hP : va_P E.1 vwCl (wX E ad g hz n mk (fun j => nI (td j)) gr cf ce ck rv (upd st1 (r * 33 + k) (nI (gPl g d td plan k r))) wo1 ++ rest) H := (by rw [nI_clamp (by omega)] at hP; exact hP)
        have hD : va_D (va_A (wX E ad g hz n mk (fun j => nI (td j)) gr cf ce ck rv st wo ++ rest) s.heap.size) (wX E ad g hz n mk (fun j => nI (td j)) gr cf ce ck rv (upd st1 (r * 33 + k) (nI (gPl g d td plan k r))) wo1 ++ rest) := (by rw [nI_clamp (by omega)] at hD; exact hD)
        refine lv_aload_n hx hb dX4_layRung_50 rfl (lv_at hl 0 rfl) ?_
        refine va_get (D := E.1) (ci := 4) (C := RX4) (T := TX4) (N := 11) hx hb hts hinX4 hown hE.1 hP 0 rfl rfl 6 (by decide) (hts (.fieldLink RX4 39 "StakeHouse" "worth" "[[J") (by decide +kernel)) (fun _ h9 => h9) rfl dX4_layRung_51 ?_
        refine lv_iconst (v := nI 0) hx hb dX4_layRung_54 (by decide) ?_
        refine va_ald2 hx hb hE.1 hP 7 3 rfl rfl (vp_in_nI (by omega) (by decide)) dX4_layRung_55 ?_
        refine tp_r (xW2_at (i := 0) (by decide)) ?_
        refine lv_iload hx hb dX4_layRung_56 (lv_at hl 6 rfl) ?_
        refine lv_aload_n hx hb dX4_layRung_58 rfl (lv_at hl 0 rfl) ?_
        refine lv_iload hx hb dX4_layRung_59 (lv_at hl 4 rfl) ?_
        refine lv_iload hx hb dX4_layRung_61 (lv_at hl 5 rfl) ?_
        refine vp_callSl (W.runV ⟨hx, hb, hml, hown, hts⟩ (c_endWorth l E _ ad g hz n mk rfl hg32 what k hw3 (by omega)) (cwV 2 hts gX4_layRung_X4_endWorth rfl rfl rfl (by decide +kernel) ⟨Nat.le_of_ble_eq_true rfl, Nat.le_of_ble_eq_true rfl⟩) (ePu_V hP hE (ci := 4) (k := 0) rfl rfl) rfl rfl hl.1 rfl (lv_room (Nat.le_of_ble_eq_true rfl)) dX4_layRung_63 ⟨Nat.zero_le _, Nat.zero_le _⟩) (fun r9 hr9 => ?_)
        subst hr9
        refine va_last hx hb hE.1 hP hD hS (8 + 0) 1 (wX_W (b := 0) (by decide)) rfl (vp_in_nI (by omega) (by decide)) dX4_layRung_66 (fun H locs hP hD hS => ?_)
        rw [wX_setW (by decide), nI_clamp (by omega)] at hP hD
        refine st_inc hx hb 5 dX4_layRung_67 hl rfl (nI_1 _) (by decide) rfl (fun ls hl => ?_)
        refine lv_goto (tgt := 3) hx hb dX4_layRung_70 (by decide) ?_
        have e9 : gSt g d td plan r k = (gPl g d td plan k r) := if_pos (by omega)
        refine ihk _ _ _ ⟨_, _, fun x hx => ⟨?_, ?_⟩, fun q hq => ⟨?_, ?_⟩, hP, hD, hS, lv_sub hl [0, 1, 2, 3, 4, 5] rfl⟩
        · rw [pk_un (by omega)]; exact (hx1 x hx).1
        · rw [vu_at, pk_uLn (by omega)]; exact (hx1 x hx).2
        · by_cases hqk : q = k
          · subst hqk; rw [pk_us, e9]
          · rw [pk_un (by omega)]; exact (hq1 q (by omega)).1
        · rw [vu_at]
          by_cases hqk : q = k
          · subst hqk; exact pk_uLs
          · rw [pk_uLn (by omega)]; exact (hq1 q (by omega)).2
  · skip
    obtain ⟨st1, wo1, hx1, hq1, hP, hD, hS, hl⟩ := hI
    refine lv_iload hx hb dX4_layRung_3 (lv_at hl 5 rfl) ?_
    refine lv_aload_n hx hb dX4_layRung_5 rfl (lv_at hl 0 rfl) ?_
    refine va_get (D := E.1) (ci := 4) (C := RX4) (T := TX4) (N := 11) hx hb hts hinX4 hown hE.1 hP 0 rfl rfl 7 (by decide) (hts (.fieldLink RX4 42 "StakeHouse" "goal" "I") (by decide +kernel)) (fun _ h9 => h9) rfl dX4_layRung_6 ?_
    refine n_gt hx hb (by omega) (by omega) 73 dX4_layRung_9 (by decide) (fun c9 => ?_) (fun c9 => ?_)
    · skip
      exact ret_Wv hx hb hr hlocks dX4_layRung_73 hP hD hS ⟨st1, wo1, hx1, fun q hq => hq1 q (by omega), rfl⟩
    · skip
      exact absurd c9 (by omega)
set_option maxHeartbeats 4000000 in
set_option maxRecDepth 100000 in
/-- playRung -/
theorem c_playRung (l : Launch) (E : eT) (ad : Nat → Nat) (g hz n : Nat) (mk : Int64) (td : Nat → Int32) (gr : Nat → Option Nat) (cf ce ck : Nat → Nat) (rv : Nat → Nat → Int64) (st : Nat → Int32) (wo : Nat → Nat → Int64) (rest : va_W) (hg2 : 2 ≤ g) (hg32 : g ≤ 32) (kg a b : Nat) (d : gT) (hd : gOk d) (hg : rest[kg]? = some (a, gmE d b)) (hgn : rest[kg + 1]? = some (b, gnE E d)) (S : Nat → Nat → Nat) (hSl : ∀ r q, S r q ≤ min q (gL d)) (what rg j r : Nat) (hw3 : what ≤ 3) (hrg : rg ≤ 6) (hj : j ≤ 11) (hr : r < rg) (hst : ∀ q, q ≤ g → st (r * 33 + q) = nI (S r q)) (hbe : ∀ r1, r1 < rg → ∀ q, q ≤ g → wo (j % 2) (r1 * 33 + q) = lN (gV g d S what rg j r1 q)) : mWv l yX4_playRung wsX4_playRung 2 60 0 0 E (wX E ad g hz n mk td gr cf ce ck rv st wo ++ rest) [.ref (ad 0), .ref a, .int (nI r), .int (nI (min (r + 1) (rg - 1))), .int (nI (j + 1)), .int (nI what)] (fun ws1 => ∃ wo1 : Nat → Nat → Int64, wo1 (j % 2) = wo (j % 2) ∧ (∀ x, (x < r * 33 ∨ r * 33 + g < x) → wo1 ((j + 1) % 2) x = wo ((j + 1) % 2) x) ∧ (∀ q, q ≤ g → wo1 ((j + 1) % 2) (r * 33 + q) = lN (gV g d S what rg (j + 1) r q)) ∧ ws1 = wX E ad g hz n mk td gr cf ce ck rv st wo1 ++ rest) := by
  intro sz
  refine mW_of (cc := cX4_playRung) (maxL := 13) (ret := none) (Qc := fun sz => va_Qv (fun ws1 => ∃ wo1 : Nat → Nat → Int64, wo1 (j % 2) = wo (j % 2) ∧ (∀ x, (x < r * 33 ∨ r * 33 + g < x) → wo1 ((j + 1) % 2) x = wo ((j + 1) % 2) x) ∧ (∀ q, q ≤ g → wo1 ((j + 1) % 2) (r * 33 + q) = lN (gV g d S what rg (j + 1) r q)) ∧ ws1 = wX E ad g hz n mk td gr cf ce ck rv st wo1 ++ rest) (eAt E (va_A (wX E ad g hz n mk td gr cf ce ck rv st wo ++ rest) sz)) (va_A (wX E ad g hz n mk td gr cf ce ck rv st wo ++ rest) sz)) (by decide) rfl (Nat.le_of_ble_eq_true rfl) ?_
  intro p0 e0 s m below meth c0 ls hx hb hr0 hml hts hown hlocks hin hE hP hD hl
  have hS : va_S (va_A (wX E ad g hz n mk td gr cf ce ck rv st wo ++ rest) s.heap.size) s.heap s.heap [] := va_S.rf
  have hA : ∀ q, s.heap.size ≤ q → (va_A (wX E ad g hz n mk td gr cf ce ck rv st wo ++ rest) s.heap.size) q := fun q h => Or.inr h
  have hown : s.vm.findClass RX4 = some m.cls := hown
  have hl : lv_has ls 13 [(0, .ref (ad 0)), (1, .ref a), (2, .int (nI r)), (3, .int (nI (min (r + 1) (rg - 1)))), (4, .int (nI (j + 1))), (5, .int (nI what))] := hl
  have hinX4 : ∀ w ∈ wsX40, w ∈ wsX4_playRung := by decide +kernel
  have hL1 := hd.2.2.2.2.2
  refine lv_aload_n hx hb dX4_playRung_0 rfl (lv_at hl 0 rfl) ?_
  refine va_get (D := E.1) (ci := 4) (C := RX4) (T := TX4) (N := 11) hx hb hts hinX4 hown hE.1 hP 0 rfl rfl 6 (by decide) (hts (.fieldLink RX4 39 "StakeHouse" "worth" "[[J") (by decide +kernel)) (fun _ h9 => h9) rfl dX4_playRung_1 ?_
  refine lv_iload hx hb dX4_playRung_4 (lv_at hl 4 rfl) ?_
  refine lv_iconst (v := nI 1) hx hb dX4_playRung_6 (by decide) ?_
  refine lv_isub hx hb dX4_playRung_7 ?_
  refine tp_i (show _ = nI j from nI_pred j) ?_
  refine lv_iconst (v := nI 1) hx hb dX4_playRung_8 (by decide) ?_
  refine lv_iand hx hb dX4_playRung_9 ?_
  refine tp_i (nI_and1 (by omega)) ?_
  refine va_ald2 hx hb hE.1 hP 7 3 rfl rfl (vp_in_nI (by omega) (by decide)) dX4_playRung_10 ?_
  refine tp_r (xW2_at (by omega)) ?_
  refine st_a2 hx hb 6 dX4_playRung_11 hl (by decide) rfl (fun ls hl => ?_)
  refine lv_aload_n hx hb dX4_playRung_13 rfl (lv_at hl 0 rfl) ?_
  refine va_get (D := E.1) (ci := 4) (C := RX4) (T := TX4) (N := 11) hx hb hts hinX4 hown hE.1 hP 0 rfl rfl 6 (by decide) (hts (.fieldLink RX4 39 "StakeHouse" "worth" "[[J") (by decide +kernel)) (fun _ h9 => h9) rfl dX4_playRung_14 ?_
  refine lv_iload hx hb dX4_playRung_17 (lv_at hl 4 rfl) ?_
  refine lv_iconst (v := nI 1) hx hb dX4_playRung_19 (by decide) ?_
  refine lv_iand hx hb dX4_playRung_20 ?_
  refine tp_i (nI_and1 (by omega)) ?_
  refine va_ald2 hx hb hE.1 hP 7 3 rfl rfl (vp_in_nI (by omega) (by decide)) dX4_playRung_21 ?_
  refine tp_r (xW2_at (by omega)) ?_
  refine st_a2 hx hb 7 dX4_playRung_22 hl (by decide) rfl (fun ls hl => ?_)
  refine wCut (fun x : Int64 => F0 m 40 ls [.long x]) (fun x => x = lN (if what = 3 then 16 ^ (j + 1) else 0)) ?_ ?_
  · skip
    intro x hx0
    subst hx0
    refine st_l2 hx hb 8 dX4_playRung_40 hl (by decide) rfl (fun ls hl => ?_)
    refine lv_iconst (v := nI 0) hx hb dX4_playRung_42 (by decide) ?_
    refine st_i2 hx hb 9 dX4_playRung_43 hl (by decide) rfl (fun ls hl => ?_)
    refine wLoopH (g + 1) 0 (fun k H locs ls => ∃ wo1 : Nat → Nat → Int64, wo1 (j % 2) = wo (j % 2) ∧ (∀ x, (x < r * 33 ∨ r * 33 + g < x) → wo1 ((j + 1) % 2) x = wo ((j + 1) % 2) x) ∧ (∀ q, q < k → wo1 ((j + 1) % 2) (r * 33 + q) = lN (gV g d S what rg (j + 1) r q)) ∧ va_P E.1 vwCl (wX E ad g hz n mk td gr cf ce ck rv st wo1 ++ rest) H ∧ va_D (va_A (wX E ad g hz n mk td gr cf ce ck rv st wo ++ rest) s.heap.size) (wX E ad g hz n mk td gr cf ce ck rv st wo1 ++ rest) ∧ va_S (va_A (wX E ad g hz n mk td gr cf ce ck rv st wo ++ rest) s.heap.size) s.heap H locs ∧ lv_has ls 13 [(0, .ref (ad 0)), (1, .ref a), (2, .int (nI r)), (3, .int (nI (min (r + 1) (rg - 1)))), (4, .int (nI (j + 1))), (5, .int (nI what)), (6, .ref (ad (8 + j % 2))), (7, .ref (ad (8 + (j + 1) % 2))), (8, .long (lN (if what = 3 then 16 ^ (j + 1) else 0))), (10, .int (nI k))]) (Nat.zero_le _) (fun k H locs ls hi_k hI ihk => ?_) (fun H locs ls hI => ?_) ⟨wo, rfl, fun _ _ => rfl, fun q hq => absurd hq (by omega), hP, hD, hS, hl⟩
    · skip
      obtain ⟨wo1, hw1, hx1, hq1, hP, hD, hS, hl⟩ := hI
      refine lv_iload hx hb dX4_playRung_45 (lv_at hl 9 rfl) ?_
      refine lv_aload_n hx hb dX4_playRung_47 rfl (lv_at hl 0 rfl) ?_
      refine va_get (D := E.1) (ci := 4) (C := RX4) (T := TX4) (N := 11) hx hb hts hinX4 hown hE.1 hP 0 rfl rfl 7 (by decide) (hts (.fieldLink RX4 42 "StakeHouse" "goal" "I") (by decide +kernel)) (fun _ h9 => h9) rfl dX4_playRung_48 ?_
      refine n_gt hx hb (by omega) (by omega) 133 dX4_playRung_51 (by decide) (fun c51 => ?_) (fun c51 => ?_)
      · skip
        exact absurd c51 (by omega)
      · skip
        refine lv_iload_n hx hb dX4_playRung_54 rfl (lv_at hl 2 rfl) ?_
        refine lv_bipush (v := nI 33) hx hb dX4_playRung_55 (by decide) ?_
        refine lv_imul hx hb dX4_playRung_57 ?_
        refine tp_i (pk_mul _ _) ?_
        refine lv_iload hx hb dX4_playRung_58 (lv_at hl 9 rfl) ?_
        refine lv_iadd hx hb dX4_playRung_60 ?_
        refine tp_i (nI_add _ _) ?_
        refine st_i2 hx hb 10 dX4_playRung_61 hl (by decide) rfl (fun ls hl => ?_)
        refine lv_aload_n hx hb dX4_playRung_63 rfl (lv_at hl 0 rfl) ?_
        refine va_get (D := E.1) (ci := 4) (C := RX4) (T := TX4) (N := 11) hx hb hts hinX4 hown hE.1 hP 0 rfl rfl 5 (by decide) (hts (.fieldLink RX4 34 "StakeHouse" "staked" "[I") (by decide +kernel)) (fun _ h9 => h9) rfl dX4_playRung_64 ?_
        refine lv_iload hx hb dX4_playRung_67 (lv_at hl 10 rfl) ?_
        refine va_iald hx hb hE.1 hP 6 0 rfl rfl (vp_in_nI (by omega) (by decide)) dX4_playRung_69 ?_
        refine tp_i (show _ = nI (S r k) by rw [nI_clamp (by omega)]; exact hst k (by omega)) ?_
        have hSk := hSl r k
        refine st_i2 hx hb 11 dX4_playRung_70 hl (by decide) rfl (fun ls hl => ?_)
        refine lv_aload hx hb dX4_playRung_72 (lv_at hl 7 rfl) ?_
        refine lv_iload hx hb dX4_playRung_74 (lv_at hl 10 rfl) ?_
        refine lv_iload hx hb dX4_playRung_76 (lv_at hl 11 rfl) ?_
        refine lv_iconst (v := nI 1) hx hb dX4_playRung_78 (by decide) ?_
        refine n_ge hx hb (by omega) (by omega) 94 dX4_playRung_79 (by decide) (fun c79 => ?_) (fun c79 => ?_)
        · skip
          refine lv_lload hx hb dX4_playRung_94 (lv_at hl 8 rfl) ?_
          refine lv_aload_n hx hb dX4_playRung_96 rfl (lv_at hl 1 rfl) ?_
          refine lv_aload hx hb dX4_playRung_97 (lv_at hl 6 rfl) ?_
          refine lv_aload_n hx hb dX4_playRung_99 rfl (lv_at hl 0 rfl) ?_
          refine lv_aload_n hx hb dX4_playRung_100 rfl (lv_at hl 1 rfl) ?_
          refine lv_iload hx hb dX4_playRung_101 (lv_at hl 9 rfl) ?_
          refine lv_iload hx hb dX4_playRung_103 (lv_at hl 11 rfl) ?_
          refine vp_callSi (W.runV ⟨hx, hb, hml, hown, hts⟩ (c_raised l E _ ad g hz n mk rfl hg32 (52 + kg) a b d hd (wX_rest.trans hg) (wX_rest.trans hgn) k (S r k) (by omega) (by omega)) (cwV 3 hts gX4_playRung_X4_raised rfl rfl rfl (by decide +kernel) ⟨Nat.le_of_ble_eq_true rfl, Nat.le_of_ble_eq_true rfl⟩) (ePu_V hP hE (ci := 4) (k := 0) rfl rfl) rfl rfl hl.1 rfl (lv_room (Nat.le_of_ble_eq_true rfl)) dX4_playRung_105 ⟨Nat.zero_le _, Nat.zero_le _⟩) (fun r9 hr9 => ?_)
          subst hr9
          refine va_lald hx hb hE.1 hP (8 + j % 2) 1 (wX_W (by omega)) rfl (vp_in_nI (by omega) (by decide)) dX4_playRung_108 ?_
          refine tp_l (show _ = lN (gV g d S what rg j 0 (min g (k + gWin d (S r k)))) by rw [nI_clamp (by omega), hw1]; have h0 := hbe 0 (by omega) (min g (k + gWin d (S r k))) (by omega); rwa [Nat.zero_mul, Nat.zero_add] at h0) ?_
          refine lv_aload hx hb dX4_playRung_109 (lv_at hl 6 rfl) ?_
          refine lv_iload_n hx hb dX4_playRung_111 rfl (lv_at hl 3 rfl) ?_
          refine lv_bipush (v := nI 33) hx hb dX4_playRung_112 (by decide) ?_
          refine lv_imul hx hb dX4_playRung_114 ?_
          refine tp_i (pk_mul _ _) ?_
          refine lv_iload hx hb dX4_playRung_115 (lv_at hl 9 rfl) ?_
          refine lv_iadd hx hb dX4_playRung_117 ?_
          refine tp_i (nI_add _ _) ?_
          refine lv_iload hx hb dX4_playRung_118 (lv_at hl 11 rfl) ?_
          refine lv_isub hx hb dX4_playRung_120 ?_
          refine tp_i (show _ = nI (min (r + 1) (rg - 1) * 33 + (k - S r k)) by rw [pk_sub (by omega)]; congr 1; omega) ?_
          refine va_lald hx hb hE.1 hP (8 + j % 2) 1 (wX_W (by omega)) rfl (vp_in_nI (by omega) (by decide)) dX4_playRung_121 ?_
          refine tp_l (show _ = lN (gV g d S what rg j (min (r + 1) (rg - 1)) (k - S r k)) by rw [nI_clamp (by omega), hw1]; exact hbe _ (by omega) _ (by omega)) ?_
          refine vp_callSl (W.runS ⟨hx, hb, hml, hown, hts⟩ (c_mixed l E _ (52 + kg) a b d hd (wX_rest.trans hg) _ _) (va_cwS 3 hts gX4_playRung_X4_mixed rfl rfl rfl (by decide +kernel) ⟨Nat.le_of_ble_eq_true rfl, Nat.le_of_ble_eq_true rfl⟩) (ePu_S hP hE) rfl rfl hl.1 rfl (lv_room (Nat.le_of_ble_eq_true rfl)) dX4_playRung_122 ⟨Nat.zero_le _, Nat.zero_le _⟩) (fun r9 hr9 => ?_)
          subst hr9
          refine lv_ladd hx hb dX4_playRung_125 ?_
          refine tp_l (lN_add _ _) ?_
          refine va_last hx hb hE.1 hP hD hS (8 + (j + 1) % 2) 1 (wX_W (by omega)) rfl (vp_in_nI (by omega) (by decide)) dX4_playRung_126 (fun H locs hP hD hS => ?_)
          rw [wX_setW (by omega), nI_clamp (by omega)] at hP hD
          refine st_inc hx hb 9 dX4_playRung_127 hl rfl (nI_1 _) (by decide) rfl (fun ls hl => ?_)
          refine lv_goto (tgt := 45) hx hb dX4_playRung_130 (by decide) ?_
          have e9 : gV g d S what rg (j + 1) r k = (if what = 3 then 16 ^ (j + 1) else 0) + gMix d (gV g d S what rg j 0 (min g (k + gWin d (S r k)))) (gV g d S what rg j (min (r + 1) (rg - 1)) (k - S r k)) := if_neg (by omega)
          refine ihk _ _ _ ⟨_, (vu_no (by omega)).trans hw1, fun x hx => ?_, fun q hq => ?_, hP, hD, hS, lv_sub hl [0, 1, 2, 3, 4, 5, 6, 7, 8, 9] rfl⟩
          · rw [vu_at, pk_uLn (by omega)]; exact hx1 x hx
          · rw [vu_at]
            by_cases hqk : q = k
            · subst hqk; rw [pk_uLs, e9]; try rfl
            · rw [pk_uLn (by omega)]; exact hq1 q (by omega)
        · skip
          refine lv_ldc2 (v := 16) hx hb hown (hts (.constantLong RX4 168 (16)) (by decide +kernel)) dX4_playRung_82 ?_
          refine tp_l (show (16 : Int64) = lN 16 from rfl) ?_
          refine lv_aload hx hb dX4_playRung_85 (lv_at hl 6 rfl) ?_
          refine lv_iload hx hb dX4_playRung_87 (lv_at hl 10 rfl) ?_
          refine va_lald hx hb hE.1 hP (8 + j % 2) 1 (wX_W (by omega)) rfl (vp_in_nI (by omega) (by decide)) dX4_playRung_89 ?_
          refine tp_l (show _ = lN (gV g d S what rg j r k) by rw [nI_clamp (by omega), hw1]; exact hbe r hr k (by omega)) ?_
          refine lv_lmul hx hb dX4_playRung_90 ?_
          refine tp_l (lN_mul _ _) ?_
          refine lv_goto (tgt := 126) hx hb dX4_playRung_91 (by decide) ?_
          refine va_last hx hb hE.1 hP hD hS (8 + (j + 1) % 2) 1 (wX_W (by omega)) rfl (vp_in_nI (by omega) (by decide)) dX4_playRung_126 (fun H locs hP hD hS => ?_)
          rw [wX_setW (by omega), nI_clamp (by omega)] at hP hD
          refine st_inc hx hb 9 dX4_playRung_127 hl rfl (nI_1 _) (by decide) rfl (fun ls hl => ?_)
          refine lv_goto (tgt := 45) hx hb dX4_playRung_130 (by decide) ?_
          have e9 : gV g d S what rg (j + 1) r k = 16 * gV g d S what rg j r k := if_pos (by omega)
          refine ihk _ _ _ ⟨_, (vu_no (by omega)).trans hw1, fun x hx => ?_, fun q hq => ?_, hP, hD, hS, lv_sub hl [0, 1, 2, 3, 4, 5, 6, 7, 8, 9] rfl⟩
          · rw [vu_at, pk_uLn (by omega)]; exact hx1 x hx
          · rw [vu_at]
            by_cases hqk : q = k
            · subst hqk; rw [pk_uLs, e9]; try rfl
            · rw [pk_uLn (by omega)]; exact hq1 q (by omega)
    · skip
      obtain ⟨wo1, hw1, hx1, hq1, hP, hD, hS, hl⟩ := hI
      refine lv_iload hx hb dX4_playRung_45 (lv_at hl 9 rfl) ?_
      refine lv_aload_n hx hb dX4_playRung_47 rfl (lv_at hl 0 rfl) ?_
      refine va_get (D := E.1) (ci := 4) (C := RX4) (T := TX4) (N := 11) hx hb hts hinX4 hown hE.1 hP 0 rfl rfl 7 (by decide) (hts (.fieldLink RX4 42 "StakeHouse" "goal" "I") (by decide +kernel)) (fun _ h9 => h9) rfl dX4_playRung_48 ?_
      refine n_gt hx hb (by omega) (by omega) 133 dX4_playRung_51 (by decide) (fun c51 => ?_) (fun c51 => ?_)
      · skip
        exact ret_Wv hx hb hr0 hlocks dX4_playRung_133 hP hD hS ⟨wo1, hw1, hx1, fun q hq => hq1 q (by omega), rfl⟩
      · skip
        exact absurd c51 (by omega)
  · skip
    intro K
    refine lv_iload hx hb dX4_playRung_24 (lv_at hl 5 rfl) ?_
    refine lv_iconst (v := nI 3) hx hb dX4_playRung_26 (by decide) ?_
    refine n_ne hx hb (by omega) (by omega) 39 dX4_playRung_27 (by decide) (fun c27 => ?_) (fun c27 => ?_)
    · skip
      refine lv_lconst (v := lN 0) hx hb dX4_playRung_39 rfl ?_
      exact K _ (by rw [if_neg c27])
    · skip
      refine lv_lconst (v := lN 1) hx hb dX4_playRung_30 rfl ?_
      refine lv_iconst (v := nI 4) hx hb dX4_playRung_31 (by decide) ?_
      refine lv_iload hx hb dX4_playRung_32 (lv_at hl 4 rfl) ?_
      refine lv_imul hx hb dX4_playRung_34 ?_
      refine tp_i (pk_mul _ _) ?_
      refine lv_lshl hx hb dX4_playRung_35 (sh16 j hj) ?_
      refine lv_goto (tgt := 40) hx hb dX4_playRung_36 (by decide) ?_
      exact K _ (by rw [if_pos c27])
set_option maxHeartbeats 4000000 in
set_option maxRecDepth 100000 in
/-- planWorth -/
theorem c_planWorth (l : Launch) (E : eT) (ad : Nat → Nat) (g hz n : Nat) (mk : Int64) (td : Nat → Nat) (gr : Nat → Option Nat) (cf ce ck : Nat → Nat) (rv : Nat → Nat → Int64) (st : Nat → Int32) (wo : Nat → Nat → Int64) (rest : va_W) (hg2 : 2 ≤ g) (hg32 : g ≤ 32) (htd2 : ∀ j, td j ≤ 32) (kg a b : Nat) (d : gT) (hd : gOk d) (hg : rest[kg]? = some (a, gmE d b)) (hgn : rest[kg + 1]? = some (b, gnE E d)) (plan q t what : Nat) (hpl : plan ≤ 3) (hq : q ≤ g) (ht : t ≤ 12) (hw3 : what ≤ 3) : mWl l yX4_planWorth wsX4_planWorth 5 140 0 0 E (wX E ad g hz n mk (fun j => nI (td j)) gr cf ce ck rv st wo ++ rest) [.ref (ad 0), .int (nI plan), .ref a, .int (nI q), .int (nI t), .int (nI what)] (fun x ws1 => x = lN (gV g d (gSt g d td plan) what (gRg plan) t 0 q) ∧ ∃ (st1 : Nat → Int32) (wo1 : Nat → Nat → Int64), ws1 = wX E ad g hz n mk (fun j => nI (td j)) gr cf ce ck rv st1 wo1 ++ rest) := by
  intro sz
  refine mW_of (cc := cX4_planWorth) (maxL := 10) (ret := (some .long)) (Qc := fun sz => va_Ql (fun x ws1 => x = lN (gV g d (gSt g d td plan) what (gRg plan) t 0 q) ∧ ∃ (st1 : Nat → Int32) (wo1 : Nat → Nat → Int64), ws1 = wX E ad g hz n mk (fun j => nI (td j)) gr cf ce ck rv st1 wo1 ++ rest) (eAt E (va_A (wX E ad g hz n mk (fun j => nI (td j)) gr cf ce ck rv st wo ++ rest) sz)) (va_A (wX E ad g hz n mk (fun j => nI (td j)) gr cf ce ck rv st wo ++ rest) sz)) (by decide) rfl (Nat.le_of_ble_eq_true rfl) ?_
  intro p0 e0 s m below meth c0 ls hx hb hr hml hts hown hlocks hin hE hP hD hl
  have hS : va_S (va_A (wX E ad g hz n mk (fun j => nI (td j)) gr cf ce ck rv st wo ++ rest) s.heap.size) s.heap s.heap [] := va_S.rf
  have hA : ∀ q, s.heap.size ≤ q → (va_A (wX E ad g hz n mk (fun j => nI (td j)) gr cf ce ck rv st wo ++ rest) s.heap.size) q := fun q h => Or.inr h
  have hown : s.vm.findClass RX4 = some m.cls := hown
  have hl : lv_has ls 10 [(0, .ref (ad 0)), (1, .int (nI plan)), (2, .ref a), (3, .int (nI q)), (4, .int (nI t)), (5, .int (nI what))] := hl
  have hinX4 : ∀ w ∈ wsX40, w ∈ wsX4_planWorth := by decide +kernel
  have hR1 : 1 ≤ (gRg plan) ∧ (gRg plan) ≤ 6 := by unfold gRg; split <;> omega
  refine wCut (fun x : Int32 => F0 m 11 ls [.int x]) (fun x => x = nI (gRg plan)) ?_ ?_
  · skip
    intro x hx0
    subst hx0
    refine st_i2 hx hb 6 dX4_planWorth_11 hl (by decide) rfl (fun ls hl => ?_)
    refine lv_iconst (v := nI 0) hx hb dX4_planWorth_13 (by decide) ?_
    refine st_i2 hx hb 7 dX4_planWorth_14 hl (by decide) rfl (fun ls hl => ?_)
    refine wLoopH (gRg plan) 0 (fun i H locs ls => ∃ (st1 : Nat → Int32) (wo1 : Nat → Nat → Int64), (∀ r, r < i → ∀ q, q ≤ g → st1 (r * 33 + q) = nI ((gSt g d td plan) r q) ∧ wo1 0 (r * 33 + q) = lN (gV g d (gSt g d td plan) what (gRg plan) 0 r q)) ∧ va_P E.1 vwCl (wX E ad g hz n mk (fun j => nI (td j)) gr cf ce ck rv st1 wo1 ++ rest) H ∧ va_D (va_A (wX E ad g hz n mk (fun j => nI (td j)) gr cf ce ck rv st wo ++ rest) s.heap.size) (wX E ad g hz n mk (fun j => nI (td j)) gr cf ce ck rv st1 wo1 ++ rest) ∧ va_S (va_A (wX E ad g hz n mk (fun j => nI (td j)) gr cf ce ck rv st wo ++ rest) s.heap.size) s.heap H locs ∧ lv_has ls 10 [(0, .ref (ad 0)), (1, .int (nI plan)), (2, .ref a), (3, .int (nI q)), (4, .int (nI t)), (5, .int (nI what)), (6, .int (nI (gRg plan))), (7, .int (nI i))]) (Nat.zero_le _) (fun i H locs ls hi_i hI ih => ?_) (fun H locs ls hI => ?_) ⟨st, wo, fun r hr => absurd hr (by omega), hP, hD, hS, hl⟩
    · skip
      obtain ⟨st1, wo1, hr1, hP, hD, hS, hl⟩ := hI
      refine lv_iload hx hb dX4_planWorth_16 (lv_at hl 7 rfl) ?_
      refine lv_iload hx hb dX4_planWorth_18 (lv_at hl 6 rfl) ?_
      refine n_ge hx hb (by omega) (by omega) 39 dX4_planWorth_20 (by decide) (fun c20 => ?_) (fun c20 => ?_)
      · skip
        exact absurd c20 (by omega)
      · skip
        refine lv_aload_n hx hb dX4_planWorth_23 rfl (lv_at hl 0 rfl) ?_
        refine lv_iload_n hx hb dX4_planWorth_24 rfl (lv_at hl 1 rfl) ?_
        refine lv_aload_n hx hb dX4_planWorth_25 rfl (lv_at hl 2 rfl) ?_
        refine lv_iload hx hb dX4_planWorth_26 (lv_at hl 7 rfl) ?_
        refine lv_iload hx hb dX4_planWorth_28 (lv_at hl 5 rfl) ?_
        refine cW_v (va_runV ⟨hx, hb, hml, hown, hts⟩ (c_layRung l E ad g hz n mk td gr cf ce ck rv st1 wo1 rest hg2 hg32 htd2 kg a b d hd hg hgn plan i what hpl (by omega) hw3 _) (cwV 4 hts gX4_planWorth_X4_layRung rfl rfl rfl (by decide +kernel) ⟨Nat.le_of_ble_eq_true rfl, Nat.le_of_ble_eq_true rfl⟩) (ePw_V hP hD hE (ci := 4) (k := 0) rfl rfl) rfl rfl hl.1 rfl (lv_room (Nat.le_of_ble_eq_true rfl)) dX4_planWorth_30 ⟨Nat.zero_le _, Nat.zero_le _⟩) hS hD hA (fun ws9 H locs hr9 hP hD hS => ?_)
        obtain ⟨st2, wo2, hx2, hq2, rfl⟩ := hr9
        refine st_inc hx hb 7 dX4_planWorth_33 hl rfl (nI_1 _) (by decide) rfl (fun ls hl => ?_)
        refine lv_goto (tgt := 16) hx hb dX4_planWorth_36 (by decide) ?_
        refine ih _ _ _ ⟨st2, wo2, fun r hr q hq => ?_, hP, hD, hS, hl⟩
        by_cases hri : r = i
        · subst hri; exact hq2 q hq
        · rw [(hx2 _ (by omega)).1, (hx2 _ (by omega)).2]; exact hr1 r (by omega) q hq
    · skip
      obtain ⟨st1, wo1, hr1, hP, hD, hS, hl⟩ := hI
      refine lv_iload hx hb dX4_planWorth_16 (lv_at hl 7 rfl) ?_
      refine lv_iload hx hb dX4_planWorth_18 (lv_at hl 6 rfl) ?_
      refine n_ge hx hb (by omega) (by omega) 39 dX4_planWorth_20 (by decide) (fun c20 => ?_) (fun c20 => ?_)
      · skip
        refine lv_iconst (v := nI 1) hx hb dX4_planWorth_39 (by decide) ?_
        refine st_i2 hx hb 7 dX4_planWorth_40 hl (by decide) rfl (fun ls hl => ?_)
        refine wLoopH t 0 (fun j H locs ls => ∃ wo2 : Nat → Nat → Int64, (∀ r, r < (gRg plan) → ∀ q, q ≤ g → wo2 (j % 2) (r * 33 + q) = lN (gV g d (gSt g d td plan) what (gRg plan) j r q)) ∧ va_P E.1 vwCl (wX E ad g hz n mk (fun j => nI (td j)) gr cf ce ck rv st1 wo2 ++ rest) H ∧ va_D (va_A (wX E ad g hz n mk (fun j => nI (td j)) gr cf ce ck rv st wo ++ rest) s.heap.size) (wX E ad g hz n mk (fun j => nI (td j)) gr cf ce ck rv st1 wo2 ++ rest) ∧ va_S (va_A (wX E ad g hz n mk (fun j => nI (td j)) gr cf ce ck rv st wo ++ rest) s.heap.size) s.heap H locs ∧ lv_has ls 10 [(0, .ref (ad 0)), (1, .int (nI plan)), (2, .ref a), (3, .int (nI q)), (4, .int (nI t)), (5, .int (nI what)), (6, .int (nI (gRg plan))), (7, .int (nI (j + 1)))]) (Nat.zero_le _) (fun j H locs ls hi_j hI ihj => ?_) (fun H locs ls hI => ?_) ⟨wo1, fun r hr q hq => (hr1 r hr q hq).2, hP, hD, hS, hl⟩
        · skip
          obtain ⟨wo2, hr2, hP, hD, hS, hl⟩ := hI
          refine lv_iload hx hb dX4_planWorth_42 (lv_at hl 7 rfl) ?_
          refine lv_iload hx hb dX4_planWorth_44 (lv_at hl 4 rfl) ?_
          refine n_gt hx hb (by omega) (by omega) 97 dX4_planWorth_46 (by decide) (fun c46 => ?_) (fun c46 => ?_)
          · skip
            exact absurd c46 (by omega)
          · skip
            refine lv_iconst (v := nI 0) hx hb dX4_planWorth_49 (by decide) ?_
            refine st_i2 hx hb 8 dX4_planWorth_50 hl (by decide) rfl (fun ls hl => ?_)
            refine wLoopH (gRg plan) 0 (fun i H locs ls => ∃ wo3 : Nat → Nat → Int64, wo3 (j % 2) = wo2 (j % 2) ∧ (∀ r, r < i → ∀ q, q ≤ g → wo3 ((j + 1) % 2) (r * 33 + q) = lN (gV g d (gSt g d td plan) what (gRg plan) (j + 1) r q)) ∧ va_P E.1 vwCl (wX E ad g hz n mk (fun j => nI (td j)) gr cf ce ck rv st1 wo3 ++ rest) H ∧ va_D (va_A (wX E ad g hz n mk (fun j => nI (td j)) gr cf ce ck rv st wo ++ rest) s.heap.size) (wX E ad g hz n mk (fun j => nI (td j)) gr cf ce ck rv st1 wo3 ++ rest) ∧ va_S (va_A (wX E ad g hz n mk (fun j => nI (td j)) gr cf ce ck rv st wo ++ rest) s.heap.size) s.heap H locs ∧ lv_has ls 10 [(0, .ref (ad 0)), (1, .int (nI plan)), (2, .ref a), (3, .int (nI q)), (4, .int (nI t)), (5, .int (nI what)), (6, .int (nI (gRg plan))), (7, .int (nI (j + 1))), (8, .int (nI i))]) (Nat.zero_le _) (fun i H locs ls hi_i hI ihi => ?_) (fun H locs ls hI => ?_) ⟨wo2, rfl, fun r hr => absurd hr (by omega), hP, hD, hS, hl⟩
            · skip
              obtain ⟨wo3, hw3e, hr3, hP, hD, hS, hl⟩ := hI
              refine lv_iload hx hb dX4_planWorth_52 (lv_at hl 8 rfl) ?_
              refine lv_iload hx hb dX4_planWorth_54 (lv_at hl 6 rfl) ?_
              refine n_ge hx hb (by omega) (by omega) 91 dX4_planWorth_56 (by decide) (fun c56 => ?_) (fun c56 => ?_)
              · skip
                exact absurd c56 (by omega)
              · skip
                refine lv_iload hx hb dX4_planWorth_59 (lv_at hl 8 rfl) ?_
                refine lv_iconst (v := nI 1) hx hb dX4_planWorth_61 (by decide) ?_
                refine lv_iadd hx hb dX4_planWorth_62 ?_
                refine tp_i (nI_add _ _) ?_
                refine lv_iload hx hb dX4_planWorth_63 (lv_at hl 6 rfl) ?_
                refine lv_iconst (v := nI 1) hx hb dX4_planWorth_65 (by decide) ?_
                refine lv_isub hx hb dX4_planWorth_66 ?_
                refine tp_i (pk_sub (by omega)) ?_
                refine va_mmin hx hb (hml.trans hl.1.symm) hown (hts (.methodLink RX4 137 Lib.Math.min.name) (by decide +kernel)) (hts (.static Lib.Math.min.name) (by decide +kernel)) (hts (.initialized "java/lang/Math") (by decide +kernel)) (hts (.code Lib.Math.min.name Lib.Math.min.code 2 (some .int)) (by decide +kernel)) (Nat.le_of_ble_eq_true rfl) (Nat.le_of_ble_eq_true rfl) (Nat.zero_le _) (Nat.zero_le _) dX4_planWorth_67 ?_
                refine tp_i (nI_min (by omega) (by omega)) ?_
                refine st_i2 hx hb 9 dX4_planWorth_70 hl (by decide) rfl (fun ls hl => ?_)
                refine lv_aload_n hx hb dX4_planWorth_72 rfl (lv_at hl 0 rfl) ?_
                refine lv_aload_n hx hb dX4_planWorth_73 rfl (lv_at hl 2 rfl) ?_
                refine lv_iload hx hb dX4_planWorth_74 (lv_at hl 8 rfl) ?_
                refine lv_iload hx hb dX4_planWorth_76 (lv_at hl 9 rfl) ?_
                refine lv_iload hx hb dX4_planWorth_78 (lv_at hl 7 rfl) ?_
                refine lv_iload hx hb dX4_planWorth_80 (lv_at hl 5 rfl) ?_
                refine cW_v (va_runV ⟨hx, hb, hml, hown, hts⟩ (c_playRung l E ad g hz n mk (fun j => nI (td j)) gr cf ce ck rv st1 wo3 rest hg2 hg32 kg a b d hd hg hgn (gSt g d td plan) (fun r q => gSt_le hd) what (gRg plan) j i hw3 hR1.2 (by omega) hi_i (fun q hq => (hr1 i hi_i q hq).1) (fun r1 h1 q hq => by rw [hw3e]; exact hr2 r1 h1 q hq) _) (cwV 5 hts gX4_planWorth_X4_playRung rfl rfl rfl (by decide +kernel) ⟨Nat.le_of_ble_eq_true rfl, Nat.le_of_ble_eq_true rfl⟩) (ePw_V hP hD hE (ci := 4) (k := 0) rfl rfl) rfl rfl hl.1 rfl (lv_room (Nat.le_of_ble_eq_true rfl)) dX4_planWorth_82 ⟨Nat.zero_le _, Nat.zero_le _⟩) hS hD hA (fun ws9 H locs hr9 hP hD hS => ?_)
                obtain ⟨wo4, hw4, hx4, hq4, rfl⟩ := hr9
                refine st_inc hx hb 8 dX4_planWorth_85 hl rfl (nI_1 _) (by decide) rfl (fun ls hl => ?_)
                refine lv_goto (tgt := 52) hx hb dX4_planWorth_88 (by decide) ?_
                refine ihi _ _ _ ⟨wo4, hw4.trans hw3e, fun r hr q hq => ?_, hP, hD, hS, lv_sub hl [0, 1, 2, 3, 4, 5, 6, 7, 8] rfl⟩
                by_cases hri : r = i
                · subst hri; exact hq4 q hq
                · rw [hx4 _ (by omega)]; exact hr3 r (by omega) q hq
            · skip
              obtain ⟨wo3, hw3e, hr3, hP, hD, hS, hl⟩ := hI
              refine lv_iload hx hb dX4_planWorth_52 (lv_at hl 8 rfl) ?_
              refine lv_iload hx hb dX4_planWorth_54 (lv_at hl 6 rfl) ?_
              refine n_ge hx hb (by omega) (by omega) 91 dX4_planWorth_56 (by decide) (fun c56 => ?_) (fun c56 => ?_)
              · skip
                refine st_inc hx hb 7 dX4_planWorth_91 hl rfl (nI_1 _) (by decide) rfl (fun ls hl => ?_)
                refine lv_goto (tgt := 42) hx hb dX4_planWorth_94 (by decide) ?_
                exact ihj _ _ _ ⟨wo3, hr3, hP, hD, hS, lv_sub hl [0, 1, 2, 3, 4, 5, 6, 7] rfl⟩
              · skip
                exact absurd c56 (by omega)
        · skip
          obtain ⟨wo2, hr2, hP, hD, hS, hl⟩ := hI
          refine lv_iload hx hb dX4_planWorth_42 (lv_at hl 7 rfl) ?_
          refine lv_iload hx hb dX4_planWorth_44 (lv_at hl 4 rfl) ?_
          refine n_gt hx hb (by omega) (by omega) 97 dX4_planWorth_46 (by decide) (fun c46 => ?_) (fun c46 => ?_)
          · skip
            refine lv_aload_n hx hb dX4_planWorth_97 rfl (lv_at hl 0 rfl) ?_
            refine va_get (D := E.1) (ci := 4) (C := RX4) (T := TX4) (N := 11) hx hb hts hinX4 hown hE.1 hP 0 rfl rfl 6 (by decide) (hts (.fieldLink RX4 39 "StakeHouse" "worth" "[[J") (by decide +kernel)) (fun _ h9 => h9) rfl dX4_planWorth_98 ?_
            refine lv_iload hx hb dX4_planWorth_101 (lv_at hl 4 rfl) ?_
            refine lv_iconst (v := nI 1) hx hb dX4_planWorth_103 (by decide) ?_
            refine lv_iand hx hb dX4_planWorth_104 ?_
            refine tp_i (nI_and1 (by omega)) ?_
            refine va_ald2 hx hb hE.1 hP 7 3 rfl rfl (vp_in_nI (by omega) (by decide)) dX4_planWorth_105 ?_
            refine tp_r (xW2_at (by omega)) ?_
            refine lv_iload_n hx hb dX4_planWorth_106 rfl (lv_at hl 3 rfl) ?_
            refine va_lald hx hb hE.1 hP (8 + t % 2) 1 (wX_W (by omega)) rfl (vp_in_nI (by omega) (by decide)) dX4_planWorth_107 ?_
            refine tp_l (show _ = lN (gV g d (gSt g d td plan) what (gRg plan) t 0 q) by rw [nI_clamp (by omega)]; have h0 := hr2 0 (by omega) q hq; rwa [Nat.zero_mul, Nat.zero_add] at h0) ?_
            exact ret_Wl hx hb hr hlocks dX4_planWorth_108 hP hD hS ⟨rfl, st1, wo2, rfl⟩
          · skip
            exact absurd c46 (by omega)
      · skip
        exact absurd c20 (by omega)
  · skip
    intro K
    refine lv_iload_n hx hb dX4_planWorth_0 rfl (lv_at hl 1 rfl) ?_
    refine lv_iconst (v := nI 3) hx hb dX4_planWorth_1 (by decide) ?_
    refine n_ne hx hb (by omega) (by omega) 10 dX4_planWorth_2 (by decide) (fun c2 => ?_) (fun c2 => ?_)
    · skip
      refine lv_iconst (v := nI 1) hx hb dX4_planWorth_10 (by decide) ?_
      exact K _ (show _ = nI (if plan = 3 then 6 else 1) by rw [if_neg c2])
    · skip
      refine lv_bipush (v := nI 6) hx hb dX4_planWorth_5 (by decide) ?_
      refine lv_goto (tgt := 11) hx hb dX4_planWorth_7 (by decide) ?_
      exact K _ (show _ = nI (if plan = 3 then 6 else 1) by rw [if_pos c2])
/-- plan's answer -/
def pln_of (g hz n : Nat) (gd : Nat → gT) (td : Nat → Nat) (pv iv qv tv wv : Int32) (r : Int64) : Prop := (∃ p i q t w : Nat, pv = nI p ∧ iv = nI i ∧ qv = nI q ∧ tv = nI t ∧ wv = nI w ∧ p ≤ 3 ∧ i < n ∧ q ≤ g ∧ t ≤ hz ∧ w ≤ 3 ∧ r = lN (gV g (gd i) (gSt g (gd i) td p) w (gRg p) t 0 q)) ∨ ((¬ ∃ p i q t w : Nat, pv = nI p ∧ iv = nI i ∧ qv = nI q ∧ tv = nI t ∧ wv = nI w ∧ p ≤ 3 ∧ i < n ∧ q ≤ g ∧ t ≤ hz ∧ w ≤ 3) ∧ r = -1)
/-- bold's answer -/
def bld_of (g hz n : Nat) (gd : Nat → gT) (td : Nat → Nat) (iv qv tv : Int32) (r : Int32) : Prop := (∃ i q t : Nat, iv = nI i ∧ qv = nI q ∧ tv = nI t ∧ i < n ∧ q ≤ g ∧ t ≤ hz ∧ r = if gV g (gd i) (gSt g (gd i) td 0) 0 (gRg 0) t 0 q = gBst g gd i 1 0 t q then 1 else 0) ∨ ((¬ ∃ i q t : Nat, iv = nI i ∧ qv = nI q ∧ tv = nI t ∧ i < n ∧ q ≤ g ∧ t ≤ hz) ∧ r = -1)
set_option maxHeartbeats 4000000 in
set_option maxRecDepth 100000 in
/-- plan -/
theorem c_plan (l : Launch) (E : eT) (ad : Nat → Nat) (g hz n : Nat) (mk : Int64) (td : Nat → Nat) (gr : Nat → Option Nat) (cf ce ck : Nat → Nat) (rv : Nat → Nat → Int64) (st : Nat → Int32) (wo : Nat → Nat → Int64) (rest : va_W) (hg2 : 2 ≤ g) (hg32 : g ≤ 32) (hhz : hz ≤ 12) (htd2 : ∀ j, td j ≤ 32) (hn : n ≤ 4) (pl ga gb : Nat → Nat) (gd : Nat → gT) (hGA : gAll E rest gr n pl ga gb gd) (pv iv qv tv wv : Int32) : mWl l yX4_plan wsX4_plan 6 170 0 0 E (wX E ad g hz n mk (fun j => nI (td j)) gr cf ce ck rv st wo ++ rest) [.ref (ad 0), .int pv, .int iv, .int qv, .int tv, .int wv] (fun r ws1 => pln_of g hz n gd td pv iv qv tv wv r ∧ ∃ (st1 : Nat → Int32) (wo1 : Nat → Nat → Int64), ws1 = wX E ad g hz n mk (fun j => nI (td j)) gr cf ce ck rv st1 wo1 ++ rest) := by
  intro sz
  refine mW_of (cc := cX4_plan) (maxL := 7) (ret := (some .long)) (Qc := fun sz => va_Ql (fun r ws1 => pln_of g hz n gd td pv iv qv tv wv r ∧ ∃ (st1 : Nat → Int32) (wo1 : Nat → Nat → Int64), ws1 = wX E ad g hz n mk (fun j => nI (td j)) gr cf ce ck rv st1 wo1 ++ rest) (eAt E (va_A (wX E ad g hz n mk (fun j => nI (td j)) gr cf ce ck rv st wo ++ rest) sz)) (va_A (wX E ad g hz n mk (fun j => nI (td j)) gr cf ce ck rv st wo ++ rest) sz)) (by decide) rfl (Nat.le_of_ble_eq_true rfl) ?_
  intro p0 e0 s m below meth c0 ls hx hb hr hml hts hown hlocks hin hE hP hD hl
  have hS : va_S (va_A (wX E ad g hz n mk (fun j => nI (td j)) gr cf ce ck rv st wo ++ rest) s.heap.size) s.heap s.heap [] := va_S.rf
  have hA : ∀ q, s.heap.size ≤ q → (va_A (wX E ad g hz n mk (fun j => nI (td j)) gr cf ce ck rv st wo ++ rest) s.heap.size) q := fun q h => Or.inr h
  have hown : s.vm.findClass RX4 = some m.cls := hown
  have hl : lv_has ls 7 [(0, .ref (ad 0)), (1, .int pv), (2, .int iv), (3, .int qv), (4, .int tv), (5, .int wv)] := hl
  have hinX4 : ∀ w ∈ wsX40, w ∈ wsX4_plan := by decide +kernel
  refine lv_aload_n hx hb dX4_plan_0 rfl (lv_at hl 0 rfl) ?_
  refine lv_iload_n hx hb dX4_plan_1 rfl (lv_at hl 2 rfl) ?_
  refine va_csq (W.runV ⟨hx, hb, hml, hown, hts⟩ (c_gameAt l E _ ad g hz n mk rfl hn gr rfl _) (cwV 1 hts gX4_plan_X4_gameAt rfl rfl rfl (by decide +kernel) ⟨Nat.le_of_ble_eq_true rfl, Nat.le_of_ble_eq_true rfl⟩) (ePu_V hP hE (ci := 4) (k := 0) rfl rfl) rfl rfl hl.1 rfl (lv_room (Nat.le_of_ble_eq_true rfl)) dX4_plan_2 ⟨Nat.zero_le _, Nat.zero_le _⟩) (fun r9 hr9 => ?_)
  by_cases hi9 : ∃ i : Nat, i < n ∧ iv = nI i
  · skip
    obtain ⟨i, hi, rfl⟩ := hi9
    have hr9 := gameAt_in hGA hn hi hr9
    subst hr9
    refine tp_r (show va_rf (some _) = .ref (ga i) from rfl) ?_
    refine st_a2 hx hb 6 dX4_plan_5 hl (by decide) rfl (fun ls hl => ?_)
    refine lv_aload hx hb dX4_plan_7 (lv_at hl 6 rfl) ?_
    refine lv_ifnull hx hb dX4_plan_9 ?_
    refine lv_iload_n hx hb dX4_plan_12 rfl (lv_at hl 1 rfl) ?_
    refine lv_iconst (v := nI 0) hx hb dX4_plan_13 (by decide) ?_
    refine lv_iconst (v := nI 3) hx hb dX4_plan_14 (by decide) ?_
    refine vp_callSi (W.runS ⟨hx, hb, hml, hown, hts⟩ (c_within l E _ _ _ _) (va_cwS 3 hts gX4_plan_X4_within rfl rfl rfl (by decide +kernel) ⟨Nat.le_of_ble_eq_true rfl, Nat.le_of_ble_eq_true rfl⟩) (ePu_S hP hE) rfl rfl hl.1 rfl (lv_room (Nat.le_of_ble_eq_true rfl)) dX4_plan_15 ⟨Nat.zero_le _, Nat.zero_le _⟩) (fun r9 hr9 => ?_)
    subst hr9
    refine q_eq hx hb 31 dX4_plan_18 (by decide) (fun c18 => ?_) (fun c18 => ?_)
    · skip
      refine lv_ldc2 (v := -1) hx hb hown (hts (.constantLong RX4 93 (-1)) (by decide +kernel)) dX4_plan_31 ?_
      exact ret_Wl hx hb hr hlocks dX4_plan_34 hP hD hS ⟨Or.inr ⟨fun ⟨p, i, q, t, w, e1, e2, e3, e4, e5, g1, g2, g3, g4, g5⟩ => c18 (by rw [e1]; exact (nI_rngI (by omega) (by decide) (by decide)).mpr ⟨by omega, g1⟩), rfl⟩, st, wo, rfl⟩
    · skip
      obtain ⟨p, -, hp3, rfl⟩ := nI_rng (by decide) c18 (by decide)
      refine lv_iload hx hb dX4_plan_21 (lv_at hl 5 rfl) ?_
      refine lv_iconst (v := nI 0) hx hb dX4_plan_23 (by decide) ?_
      refine lv_iconst (v := nI 3) hx hb dX4_plan_24 (by decide) ?_
      refine vp_callSi (W.runS ⟨hx, hb, hml, hown, hts⟩ (c_within l E _ _ _ _) (va_cwS 3 hts gX4_plan_X4_within rfl rfl rfl (by decide +kernel) ⟨Nat.le_of_ble_eq_true rfl, Nat.le_of_ble_eq_true rfl⟩) (ePu_S hP hE) rfl rfl hl.1 rfl (lv_room (Nat.le_of_ble_eq_true rfl)) dX4_plan_25 ⟨Nat.zero_le _, Nat.zero_le _⟩) (fun r9 hr9 => ?_)
      subst hr9
      refine q_ne hx hb 35 dX4_plan_28 (by decide) (fun c28 => ?_) (fun c28 => ?_)
      · skip
        obtain ⟨w, -, hw3, rfl⟩ := nI_rng (by decide) c28 (by decide)
        refine lv_aload_n hx hb dX4_plan_35 rfl (lv_at hl 0 rfl) ?_
        refine lv_iload_n hx hb dX4_plan_36 rfl (lv_at hl 3 rfl) ?_
        refine lv_iload hx hb dX4_plan_37 (lv_at hl 4 rfl) ?_
        refine vp_callSi (W.runV ⟨hx, hb, hml, hown, hts⟩ (c_isSpot l E _ ad g hz n mk rfl _ _) (cwV 2 hts gX4_plan_X4_isSpot rfl rfl rfl (by decide +kernel) ⟨Nat.le_of_ble_eq_true rfl, Nat.le_of_ble_eq_true rfl⟩) (ePu_V hP hE (ci := 4) (k := 0) rfl rfl) rfl rfl hl.1 rfl (lv_room (Nat.le_of_ble_eq_true rfl)) dX4_plan_39 ⟨Nat.zero_le _, Nat.zero_le _⟩) (fun r9 hr9 => ?_)
        subst hr9
        refine q_ne hx hb 49 dX4_plan_42 (by decide) (fun c42 => ?_) (fun c42 => ?_)
        · skip
          obtain ⟨⟨hq1, hq2⟩, ht1, ht2⟩ := c42
          obtain ⟨q, -, hq, rfl⟩ := nI_rng (by omega) ⟨hq1, hq2⟩ (by decide)
          obtain ⟨t, -, ht, rfl⟩ := nI_rng (by omega) ⟨ht1, ht2⟩ (by decide)
          refine lv_aload_n hx hb dX4_plan_49 rfl (lv_at hl 0 rfl) ?_
          refine lv_iload_n hx hb dX4_plan_50 rfl (lv_at hl 1 rfl) ?_
          refine lv_aload hx hb dX4_plan_51 (lv_at hl 6 rfl) ?_
          refine lv_iload_n hx hb dX4_plan_53 rfl (lv_at hl 3 rfl) ?_
          refine lv_iload hx hb dX4_plan_54 (lv_at hl 4 rfl) ?_
          refine lv_iload hx hb dX4_plan_56 (lv_at hl 5 rfl) ?_
          refine cW_l (va_runV ⟨hx, hb, hml, hown, hts⟩ (c_planWorth l E ad g hz n mk td gr cf ce ck rv st wo rest hg2 hg32 htd2 (pl i) (ga i) (gb i) (gd i) (hGA _ hi).2.2.2 (hGA _ hi).2.1 (hGA _ hi).2.2.1 p q t w hp3 hq (by omega) hw3 _) (cwV 5 hts gX4_plan_X4_planWorth rfl rfl rfl (by decide +kernel) ⟨Nat.le_of_ble_eq_true rfl, Nat.le_of_ble_eq_true rfl⟩) (ePw_V hP hD hE (ci := 4) (k := 0) rfl rfl) rfl rfl hl.1 rfl (lv_room (Nat.le_of_ble_eq_true rfl)) dX4_plan_58 ⟨Nat.zero_le _, Nat.zero_le _⟩) hS hD hA (fun r9 ws9 H locs hr9 hP hD hS => ?_)
          obtain ⟨rfl, st1, wo1, rfl⟩ := hr9
          exact ret_Wl hx hb hr hlocks dX4_plan_61 hP hD hS ⟨Or.inl ⟨p, i, q, t, w, rfl, rfl, rfl, rfl, rfl, hp3, hi, hq, ht, hw3, rfl⟩, st1, wo1, rfl⟩
        · skip
          refine lv_ldc2 (v := -1) hx hb hown (hts (.constantLong RX4 93 (-1)) (by decide +kernel)) dX4_plan_45 ?_
          exact ret_Wl hx hb hr hlocks dX4_plan_48 hP hD hS ⟨Or.inr ⟨fun ⟨p, i, q, t, w, e1, e2, e3, e4, e5, g1, g2, g3, g4, g5⟩ => c42 (by rw [e3, e4]; exact ⟨(nI_rngI (by omega) (by decide) (by omega)).mpr ⟨by omega, g3⟩, (nI_rngI (by omega) (by decide) (by omega)).mpr ⟨by omega, g4⟩⟩), rfl⟩, st, wo, rfl⟩
      · skip
        refine lv_ldc2 (v := -1) hx hb hown (hts (.constantLong RX4 93 (-1)) (by decide +kernel)) dX4_plan_31 ?_
        exact ret_Wl hx hb hr hlocks dX4_plan_34 hP hD hS ⟨Or.inr ⟨fun ⟨p, i, q, t, w, e1, e2, e3, e4, e5, g1, g2, g3, g4, g5⟩ => c28 (by rw [e5]; exact (nI_rngI (by omega) (by decide) (by decide)).mpr ⟨by omega, g5⟩), rfl⟩, st, wo, rfl⟩
  · skip
    have hr9 := gameAt_out hn hi9 hr9
    subst hr9
    refine tp_r (show va_rf none = .null from rfl) ?_
    refine lv_astoreN hx hb dX4_plan_5 hl (by decide) rfl (fun ls hl => ?_)
    refine lv_aloadN hx hb dX4_plan_7 (lv_at hl 0 rfl) ?_
    refine lv_ifnullN (tgt := 31) hx hb dX4_plan_9 (by decide) ?_
    refine lv_ldc2 (v := -1) hx hb hown (hts (.constantLong RX4 93 (-1)) (by decide +kernel)) dX4_plan_31 ?_
    exact ret_Wl hx hb hr hlocks dX4_plan_34 hP hD hS ⟨Or.inr ⟨fun ⟨p, i, q, t, w, e1, e2, e3, e4, e5, g1, g2, g3, g4, g5⟩ => hi9 ⟨i, g2, e2⟩, rfl⟩, st, wo, rfl⟩
set_option maxHeartbeats 4000000 in
set_option maxRecDepth 100000 in
/-- bold -/
theorem c_bold (l : Launch) (E : eT) (ad : Nat → Nat) (g hz n : Nat) (mk : Int64) (td : Nat → Nat) (gr : Nat → Option Nat) (cf ce ck : Nat → Nat) (rv : Nat → Nat → Int64) (st : Nat → Int32) (wo : Nat → Nat → Int64) (rest : va_W) (hg2 : 2 ≤ g) (hg32 : g ≤ 32) (hhz : hz ≤ 12) (htd2 : ∀ j, td j ≤ 32) (hn : n ≤ 4) (pl ga gb : Nat → Nat) (gd : Nat → gT) (hGA : gAll E rest gr n pl ga gb gd) (hV : chV g gd cf ce ck rv) (iv qv tv : Int32) : mWi l yX4_bold wsX4_bold 6 170 0 0 E (wX E ad g hz n mk (fun j => nI (td j)) gr cf ce ck rv st wo ++ rest) [.ref (ad 0), .int iv, .int qv, .int tv] (fun r ws1 => bld_of g hz n gd td iv qv tv r ∧ ∃ (cf1 ce1 ck1 : Nat → Nat) (rv1 : Nat → Nat → Int64) (st1 : Nat → Int32) (wo1 : Nat → Nat → Int64), chV g gd cf1 ce1 ck1 rv1 ∧ ws1 = wX E ad g hz n mk (fun j => nI (td j)) gr cf1 ce1 ck1 rv1 st1 wo1 ++ rest) := by
  intro sz
  refine mW_of (cc := cX4_bold) (maxL := 7) (ret := (some .int)) (Qc := fun sz => va_Qi (fun r ws1 => bld_of g hz n gd td iv qv tv r ∧ ∃ (cf1 ce1 ck1 : Nat → Nat) (rv1 : Nat → Nat → Int64) (st1 : Nat → Int32) (wo1 : Nat → Nat → Int64), chV g gd cf1 ce1 ck1 rv1 ∧ ws1 = wX E ad g hz n mk (fun j => nI (td j)) gr cf1 ce1 ck1 rv1 st1 wo1 ++ rest) (eAt E (va_A (wX E ad g hz n mk (fun j => nI (td j)) gr cf ce ck rv st wo ++ rest) sz)) (va_A (wX E ad g hz n mk (fun j => nI (td j)) gr cf ce ck rv st wo ++ rest) sz)) (by decide) rfl (Nat.le_of_ble_eq_true rfl) ?_
  intro p0 e0 s m below meth c0 ls hx hb hr hml hts hown hlocks hin hE hP hD hl
  have hS : va_S (va_A (wX E ad g hz n mk (fun j => nI (td j)) gr cf ce ck rv st wo ++ rest) s.heap.size) s.heap s.heap [] := va_S.rf
  have hA : ∀ q, s.heap.size ≤ q → (va_A (wX E ad g hz n mk (fun j => nI (td j)) gr cf ce ck rv st wo ++ rest) s.heap.size) q := fun q h => Or.inr h
  have hown : s.vm.findClass RX4 = some m.cls := hown
  have hl : lv_has ls 7 [(0, .ref (ad 0)), (1, .int iv), (2, .int qv), (3, .int tv)] := hl
  have hinX4 : ∀ w ∈ wsX40, w ∈ wsX4_bold := by decide +kernel
  refine lv_aload_n hx hb dX4_bold_0 rfl (lv_at hl 0 rfl) ?_
  refine lv_iload_n hx hb dX4_bold_1 rfl (lv_at hl 1 rfl) ?_
  refine va_csq (W.runV ⟨hx, hb, hml, hown, hts⟩ (c_gameAt l E _ ad g hz n mk rfl hn gr rfl _) (cwV 1 hts gX4_bold_X4_gameAt rfl rfl rfl (by decide +kernel) ⟨Nat.le_of_ble_eq_true rfl, Nat.le_of_ble_eq_true rfl⟩) (ePu_V hP hE (ci := 4) (k := 0) rfl rfl) rfl rfl hl.1 rfl (lv_room (Nat.le_of_ble_eq_true rfl)) dX4_bold_2 ⟨Nat.zero_le _, Nat.zero_le _⟩) (fun r9 hr9 => ?_)
  by_cases hi9 : ∃ i : Nat, i < n ∧ iv = nI i
  · skip
    obtain ⟨i, hi, rfl⟩ := hi9
    have hr9 := gameAt_in hGA hn hi hr9
    subst hr9
    refine tp_r (show va_rf (some _) = .ref (ga i) from rfl) ?_
    refine st_a2 hx hb 4 dX4_bold_5 hl (by decide) rfl (fun ls hl => ?_)
    refine lv_aload hx hb dX4_bold_7 (lv_at hl 4 rfl) ?_
    refine lv_ifnull hx hb dX4_bold_9 ?_
    refine lv_aload_n hx hb dX4_bold_12 rfl (lv_at hl 0 rfl) ?_
    refine lv_iload_n hx hb dX4_bold_13 rfl (lv_at hl 2 rfl) ?_
    refine lv_iload_n hx hb dX4_bold_14 rfl (lv_at hl 3 rfl) ?_
    refine vp_callSi (W.runV ⟨hx, hb, hml, hown, hts⟩ (c_isSpot l E _ ad g hz n mk rfl _ _) (cwV 2 hts gX4_bold_X4_isSpot rfl rfl rfl (by decide +kernel) ⟨Nat.le_of_ble_eq_true rfl, Nat.le_of_ble_eq_true rfl⟩) (ePu_V hP hE (ci := 4) (k := 0) rfl rfl) rfl rfl hl.1 rfl (lv_room (Nat.le_of_ble_eq_true rfl)) dX4_bold_15 ⟨Nat.zero_le _, Nat.zero_le _⟩) (fun r9 hr9 => ?_)
    subst hr9
    refine q_ne hx hb 23 dX4_bold_18 (by decide) (fun c18 => ?_) (fun c18 => ?_)
    · skip
      obtain ⟨⟨hq1, hq2⟩, ht1, ht2⟩ := c18
      obtain ⟨q, -, hq, rfl⟩ := nI_rng (by omega) ⟨hq1, hq2⟩ (by decide)
      obtain ⟨t, -, ht, rfl⟩ := nI_rng (by omega) ⟨ht1, ht2⟩ (by decide)
      have hA1 := gV_le (S := gSt g (gd i) td 0) (what := 0) (rg := gRg 0) hg32 (hGA _ hi).2.2.2 (by decide) t 0 q hq
      have hA2 := gBst_le (what := 0) hg32 (lo := i) (cnt := 1) (fun k hk => (hGA (i + k) (by omega)).2.2.2) t q hq
      have hA3 := b53 (t := t) (by omega)
      refine lv_aload_n hx hb dX4_bold_23 rfl (lv_at hl 0 rfl) ?_
      refine va_get (D := E.1) (ci := 4) (C := RX4) (T := TX4) (N := 11) hx hb hts hinX4 hown hE.1 hP 0 rfl rfl 4 (by decide) (hts (.fieldLink RX4 31 "StakeHouse" "aloneChart" "LStakeHouse$Chart;") (by decide +kernel)) (fun _ h9 => h9) rfl dX4_bold_24 ?_
      refine lv_iload_n hx hb dX4_bold_27 rfl (lv_at hl 1 rfl) ?_
      refine lv_iload_n hx hb dX4_bold_28 rfl (lv_at hl 1 rfl) ?_
      refine lv_iconst (v := nI 1) hx hb dX4_bold_29 (by decide) ?_
      refine lv_iadd hx hb dX4_bold_30 ?_
      refine tp_i (nI_add _ _) ?_
      refine cW_v (va_runV ⟨hx, hb, hml, hown, hts⟩ (c_cover l E _ 5 (ad 5) 0 (ad 12) (cf 2) (ce 2) (ck 2) i (i + 1) (by have := (hV 2 (by decide)).1; omega) (by have := (hV 2 (by decide)).2.1; omega) (by omega) (by omega) rfl _) (cwV 2 hts gX4_bold_X0_cover rfl rfl rfl (by decide +kernel) ⟨Nat.le_of_ble_eq_true rfl, Nat.le_of_ble_eq_true rfl⟩) (ePw_V hP hD hE (ci := 0) (k := 5) rfl rfl) rfl rfl hl.1 rfl (lv_room (Nat.le_of_ble_eq_true rfl)) dX4_bold_31 ⟨Nat.zero_le _, Nat.zero_le _⟩) hS hD hA (fun ws9 H locs hr9 hP hD hS => ?_)
      obtain ⟨cf1, ce1, ck1, hV1, hlo, hhi, rfl⟩ := cov_of (c := 2) (lo := i) (cnt := 1) (by decide) (by omega) hV hr9
      refine lv_aload_n hx hb dX4_bold_34 rfl (lv_at hl 0 rfl) ?_
      refine lv_aload_n hx hb dX4_bold_35 rfl (lv_at hl 0 rfl) ?_
      refine va_get (D := E.1) (ci := 4) (C := RX4) (T := TX4) (N := 11) hx hb hts hinX4 hown hE.1 hP 0 rfl rfl 4 (by decide) (hts (.fieldLink RX4 31 "StakeHouse" "aloneChart" "LStakeHouse$Chart;") (by decide +kernel)) (fun _ h9 => h9) rfl dX4_bold_36 ?_
      refine lv_iload_n hx hb dX4_bold_39 rfl (lv_at hl 3 rfl) ?_
      refine cW_r (va_runV ⟨hx, hb, hml, hown, hts⟩ (c_chartRow l E ad g hz n mk (fun j => nI (td j)) gr cf1 ce1 ck1 rv st wo rest hg2 hg32 hn pl ga gb gd hGA 2 (by decide) i 1 hlo hhi (by omega) (hV1 2 (by decide)).2.2.1 (by have := (hV1 2 (by decide)).2.2.2; rw [hhi, hlo, show i + 1 - i = 1 by omega] at this; exact this) t (by omega) _) (cwV 2 hts gX4_bold_X4_chartRow rfl rfl rfl (by decide +kernel) ⟨Nat.le_of_ble_eq_true rfl, Nat.le_of_ble_eq_true rfl⟩) (ePw_V hP hD hE (ci := 4) (k := 0) rfl rfl) rfl rfl hl.1 rfl (lv_room (Nat.le_of_ble_eq_true rfl)) dX4_bold_40 ⟨Nat.zero_le _, Nat.zero_le _⟩) hS hD hA (fun r9 ws9 H locs hr9 hP hD hS => ?_)
      obtain ⟨rfl, rv1, hr1, hrow, rfl⟩ := hr9
      have hV2 := chV_row hV1 hlo hhi (by have := (hV1 2 (by decide)).2.2.1; omega) hr1 hrow
      refine lv_iload_n hx hb dX4_bold_43 rfl (lv_at hl 2 rfl) ?_
      refine va_lald hx hb hE.1 hP (13 + (13 * 2 + t)) 1 (wX_R (by omega)) rfl (vp_in_nI (by omega) (by decide)) dX4_bold_44 ?_
      refine tp_l (show _ = lN (gBst g gd i 1 0 t q) by rw [nI_clamp (by omega)]; exact hrow t (by omega) q (by omega)) ?_
      refine st_l2 hx hb 5 dX4_bold_45 hl (by decide) rfl (fun ls hl => ?_)
      refine lv_aload_n hx hb dX4_bold_47 rfl (lv_at hl 0 rfl) ?_
      refine lv_iconst (v := nI 0) hx hb dX4_bold_48 (by decide) ?_
      refine lv_aload hx hb dX4_bold_49 (lv_at hl 4 rfl) ?_
      refine lv_iload_n hx hb dX4_bold_51 rfl (lv_at hl 2 rfl) ?_
      refine lv_iload_n hx hb dX4_bold_52 rfl (lv_at hl 3 rfl) ?_
      refine lv_iconst (v := nI 0) hx hb dX4_bold_53 (by decide) ?_
      refine cW_l (va_runV ⟨hx, hb, hml, hown, hts⟩ (c_planWorth l E ad g hz n mk td gr cf1 ce1 _ rv1 st wo rest hg2 hg32 htd2 (pl i) (ga i) (gb i) (gd i) (hGA _ hi).2.2.2 (hGA _ hi).2.1 (hGA _ hi).2.2.1 0 q t 0 (by decide) hq (by omega) (by decide) _) (cwV 5 hts gX4_bold_X4_planWorth rfl rfl rfl (by decide +kernel) ⟨Nat.le_of_ble_eq_true rfl, Nat.le_of_ble_eq_true rfl⟩) (ePw_V hP hD hE (ci := 4) (k := 0) rfl rfl) rfl rfl hl.1 rfl (lv_room (Nat.le_of_ble_eq_true rfl)) dX4_bold_54 ⟨Nat.zero_le _, Nat.zero_le _⟩) hS hD hA (fun r9 ws9 H locs hr9 hP hD hS => ?_)
      obtain ⟨rfl, st1, wo1, rfl⟩ := hr9
      refine lv_lload hx hb dX4_bold_57 (lv_at hl 5 rfl) ?_
      refine W.lcmp hx hb dX4_bold_59 ?_
      refine lv_if_ne (tgt := 67) hx hb dX4_bold_60 (by decide) (fun c60 => ?_) (fun c60 => ?_)
      · skip
        rw [lg_cmp_eq, pk_lEQ (by omega) (by omega)] at c60
        refine lv_iconst (v := nI 0) hx hb dX4_bold_67 (by decide) ?_
        exact ret_Wi hx hb hr hlocks dX4_bold_68 hP hD hS ⟨Or.inl ⟨i, q, t, rfl, rfl, rfl, hi, hq, ht, by rw [if_neg c60]; rfl⟩, cf1, ce1, _, rv1, st1, wo1, hV2, rfl⟩
      · skip
        rw [lg_cmp_eq, pk_lEQ (by omega) (by omega)] at c60
        refine lv_iconst (v := nI 1) hx hb dX4_bold_63 (by decide) ?_
        refine lv_goto (tgt := 68) hx hb dX4_bold_64 (by decide) ?_
        exact ret_Wi hx hb hr hlocks dX4_bold_68 hP hD hS ⟨Or.inl ⟨i, q, t, rfl, rfl, rfl, hi, hq, ht, by rw [if_pos c60]; rfl⟩, cf1, ce1, _, rv1, st1, wo1, hV2, rfl⟩
    · skip
      refine lv_iconst (v := (-1)) hx hb dX4_bold_21 (by decide) ?_
      exact ret_Wi hx hb hr hlocks dX4_bold_22 hP hD hS ⟨Or.inr ⟨fun ⟨i, q, t, e1, e2, e3, g1, g2, g3⟩ => c18 (by rw [e2, e3]; exact ⟨(nI_rngI (by omega) (by decide) (by omega)).mpr ⟨by omega, g2⟩, (nI_rngI (by omega) (by decide) (by omega)).mpr ⟨by omega, g3⟩⟩), rfl⟩, cf, ce, ck, rv, st, wo, hV, rfl⟩
  · skip
    have hr9 := gameAt_out hn hi9 hr9
    subst hr9
    refine tp_r (show va_rf none = .null from rfl) ?_
    refine lv_astoreN hx hb dX4_bold_5 hl (by decide) rfl (fun ls hl => ?_)
    refine lv_aloadN hx hb dX4_bold_7 (lv_at hl 0 rfl) ?_
    refine lv_ifnullN (tgt := 21) hx hb dX4_bold_9 (by decide) ?_
    refine lv_iconst (v := (-1)) hx hb dX4_bold_21 (by decide) ?_
    exact ret_Wi hx hb hr hlocks dX4_bold_22 hP hD hS ⟨Or.inr ⟨fun ⟨i, q, t, e1, e2, e3, g1, g2, g3⟩ => hi9 ⟨i, g1, e1⟩, rfl⟩, cf, ce, ck, rv, st, wo, hV, rfl⟩
