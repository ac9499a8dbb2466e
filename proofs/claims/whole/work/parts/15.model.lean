/-! the reference: its world, what it reads, its table of the best -/
abbrev mE (am : Nat → Nat) (g hz n : Nat) (tr pd : Int64) : va_E := .inr (5, [.int (nI g), .int (nI hz), .int (nI n), .ref (am 1), .ref (am 2), .ref (am 3), .ref (am 4), .ref (am 5), .ref (am 6), .long tr, .ref (am 7), .ref (am 8), .ref (am 9), .long pd])
def wM (E : eT) (am : Nat → Nat) (g hz n : Nat) (kd ch tm tx lm : Nat → Int32) (td : Nat → Int32) (tr : Int64) (bs nw th : Nat → Int64) (pd : Int64) : va_W := [(am 0, mE am g hz n tr pd), (am 1, xI E 4 kd), (am 2, xI E 4 ch), (am 3, xI E 4 tm), (am 4, xI E 4 tx), (am 5, xI E 4 lm), (am 6, xI E 33 td), (am 7, xJ E 429 bs), (am 8, xJ E 2145 nw), (am 9, xJ E 2145 th)]
set_option maxHeartbeats 4000000 in
set_option maxRecDepth 100000 in
/-- in -/
theorem c_in (l : Launch) (E : eT) (ws : va_W) (v lo hi : Int32) : mPi l yX5_in wsX5_in 0 0 E ws [.int v, .int lo, .int hi] (fun r => r = if lo ≤ v ∧ v ≤ hi then 1 else 0) := by
  refine mP_of (cc := cX5_in) (maxL := 3) (ret := (some .boolean)) (by decide) rfl (Nat.le_of_ble_eq_true rfl) ?_
  intro p0 e0 s m below meth c0 ls hx hb hr hml hts hown hlocks hE hP hl
  have hown : s.vm.findClass RX5 = some m.cls := hown
  have hl : lv_has ls 3 [(0, .int v), (1, .int lo), (2, .int hi)] := hl
  refine lv_iload_n hx hb dX5_in_0 rfl (lv_at hl 0 rfl) ?_
  refine lv_iload_n hx hb dX5_in_1 rfl (lv_at hl 1 rfl) ?_
  refine lv_icmp_lt (tgt := 14) hx hb dX5_in_2 (by decide) (fun c2 => ?_) (fun c2 => ?_)
  · skip
    refine lv_iconst (v := nI 0) hx hb dX5_in_14 (by decide) ?_
    exact ret_Pz hx hb hr hlocks dX5_in_15 rfl (by rw [if_neg (fun q => absurd c2 (Int32.not_lt.mpr q.1))]; rfl)
  · skip
    refine lv_iload_n hx hb dX5_in_5 rfl (lv_at hl 0 rfl) ?_
    refine lv_iload_n hx hb dX5_in_6 rfl (lv_at hl 2 rfl) ?_
    refine lv_icmp_gt (tgt := 14) hx hb dX5_in_7 (by decide) (fun c7 => ?_) (fun c7 => ?_)
    · skip
      refine lv_iconst (v := nI 0) hx hb dX5_in_14 (by decide) ?_
      exact ret_Pz hx hb hr hlocks dX5_in_15 rfl (by rw [if_neg (fun q => absurd c7 (Int32.not_lt.mpr q.2))]; rfl)
    · skip
      refine lv_iconst (v := nI 1) hx hb dX5_in_10 (by decide) ?_
      refine lv_goto (tgt := 15) hx hb dX5_in_11 (by decide) ?_
      exact ret_Pz hx hb hr hlocks dX5_in_15 rfl (by rw [if_pos ⟨Int32.not_lt.mp c2, Int32.not_lt.mp c7⟩]; rfl)
set_option maxHeartbeats 4000000 in
set_option maxRecDepth 100000 in
/-- isGame -/
theorem m_isGame (l : Launch) (E : eT) (am : Nat → Nat) (g hz n : Nat) (kd ch tm tx lm : Nat → Int32) (td : Nat → Int32) (tr : Int64) (bs nw th : Nat → Int64) (pd : Int64) (rest : va_W) (v : Int32) : mPi l yX5_isGame wsX5_isGame 1 22 E (wM E am g hz n kd ch tm tx lm td tr bs nw th pd ++ rest) [.ref (am 0), .int v] (fun r => r = if nI 0 ≤ v ∧ v ≤ nI n - nI 1 then 1 else 0) := by
  refine mP_of (cc := cX5_isGame) (maxL := 2) (ret := (some .boolean)) (by decide) rfl (Nat.le_of_ble_eq_true rfl) ?_
  intro p0 e0 s m below meth c0 ls hx hb hr hml hts hown hlocks hE hP hl
  have hown : s.vm.findClass RX5 = some m.cls := hown
  have hl : lv_has ls 2 [(0, .ref (am 0)), (1, .int v)] := hl
  have hinX5 : ∀ w ∈ wsX50, w ∈ wsX5_isGame := by decide +kernel
  refine lv_iload_n hx hb dX5_isGame_0 rfl (lv_at hl 1 rfl) ?_
  refine lv_iconst (v := nI 0) hx hb dX5_isGame_1 (by decide) ?_
  refine lv_aload_n hx hb dX5_isGame_2 rfl (lv_at hl 0 rfl) ?_
  refine va_get (D := E.1) (ci := 5) (C := RX5) (T := TX5) (N := 14) hx hb hts hinX5 hown hE.1 hP 0 rfl rfl 2 (by decide) (hts (.fieldLink RX5 45 "StakeHouseModel" "games" "I") (by decide +kernel)) (fun _ h9 => h9) rfl dX5_isGame_3 ?_
  refine lv_iconst (v := nI 1) hx hb dX5_isGame_6 (by decide) ?_
  refine lv_isub hx hb dX5_isGame_7 ?_
  refine vp_callSi (W.runS ⟨hx, hb, hml, hown, hts⟩ (c_in l E _ _ _ _) (va_cwS 3 hts gX5_isGame_X5_in rfl rfl rfl (by decide +kernel) ⟨Nat.le_of_ble_eq_true rfl, Nat.le_of_ble_eq_true rfl⟩) (ePu_S hP hE) rfl rfl hl.1 rfl (lv_room (Nat.le_of_ble_eq_true rfl)) dX5_isGame_8 ⟨Nat.zero_le _, Nat.zero_le _⟩) (fun r9 hr9 => ?_)
  subst hr9
  exact ret_Pz hx hb hr hlocks dX5_isGame_11 (by split <;> rfl) rfl
set_option maxHeartbeats 4000000 in
set_option maxRecDepth 100000 in
/-- isPurse -/
theorem m_isPurse (l : Launch) (E : eT) (am : Nat → Nat) (g hz n : Nat) (kd ch tm tx lm : Nat → Int32) (td : Nat → Int32) (tr : Int64) (bs nw th : Nat → Int64) (pd : Int64) (rest : va_W) (v : Int32) : mPi l yX5_isPurse wsX5_isPurse 1 22 E (wM E am g hz n kd ch tm tx lm td tr bs nw th pd ++ rest) [.ref (am 0), .int v] (fun r => r = if nI 0 ≤ v ∧ v ≤ nI g then 1 else 0) := by
  refine mP_of (cc := cX5_isPurse) (maxL := 2) (ret := (some .boolean)) (by decide) rfl (Nat.le_of_ble_eq_true rfl) ?_
  intro p0 e0 s m below meth c0 ls hx hb hr hml hts hown hlocks hE hP hl
  have hown : s.vm.findClass RX5 = some m.cls := hown
  have hl : lv_has ls 2 [(0, .ref (am 0)), (1, .int v)] := hl
  have hinX5 : ∀ w ∈ wsX50, w ∈ wsX5_isPurse := by decide +kernel
  refine lv_iload_n hx hb dX5_isPurse_0 rfl (lv_at hl 1 rfl) ?_
  refine lv_iconst (v := nI 0) hx hb dX5_isPurse_1 (by decide) ?_
  refine lv_aload_n hx hb dX5_isPurse_2 rfl (lv_at hl 0 rfl) ?_
  refine va_get (D := E.1) (ci := 5) (C := RX5) (T := TX5) (N := 14) hx hb hts hinX5 hown hE.1 hP 0 rfl rfl 0 (by decide) (hts (.fieldLink RX5 7 "StakeHouseModel" "goal" "I") (by decide +kernel)) (fun _ h9 => h9) rfl dX5_isPurse_3 ?_
  refine vp_callSi (W.runS ⟨hx, hb, hml, hown, hts⟩ (c_in l E _ _ _ _) (va_cwS 3 hts gX5_isPurse_X5_in rfl rfl rfl (by decide +kernel) ⟨Nat.le_of_ble_eq_true rfl, Nat.le_of_ble_eq_true rfl⟩) (ePu_S hP hE) rfl rfl hl.1 rfl (lv_room (Nat.le_of_ble_eq_true rfl)) dX5_isPurse_6 ⟨Nat.zero_le _, Nat.zero_le _⟩) (fun r9 hr9 => ?_)
  subst hr9
  exact ret_Pz hx hb hr hlocks dX5_isPurse_9 (by split <;> rfl) rfl
set_option maxHeartbeats 4000000 in
set_option maxRecDepth 100000 in
/-- winOf -/
theorem m_winOf (l : Launch) (E : eT) (am : Nat → Nat) (g hz n : Nat) (kd ch tm tx lm : Nat → Int32) (td : Nat → Int32) (tr : Int64) (bs nw th : Nat → Int64) (pd : Int64) (rest : va_W) (hn : n ≤ 4) (gd : Nat → gT) (hM : ∀ i, i < n → gArg (gd i) (kd i) (ch i) (tm i) (tx i) (lm i)) (i st : Nat) (hi : i < n) (hst : st ≤ 32) : mPi l yX5_winOf wsX5_winOf 0 0 E (wM E am g hz n kd ch tm tx lm td tr bs nw th pd ++ rest) [.ref (am 0), .int (nI i), .int (nI st)] (fun r => r = nI (gWin (gd i) st)) := by
  refine mP_of (cc := cX5_winOf) (maxL := 4) (ret := (some .int)) (by decide) rfl (Nat.le_of_ble_eq_true rfl) ?_
  intro p0 e0 s m below meth c0 ls hx hb hr hml hts hown hlocks hE hP hl
  have hown : s.vm.findClass RX5 = some m.cls := hown
  have hl : lv_has ls 4 [(0, .ref (am 0)), (1, .int (nI i)), (2, .int (nI st))] := hl
  have hinX5 : ∀ w ∈ wsX50, w ∈ wsX5_winOf := by decide +kernel
  obtain ⟨hd, hkd, -, -, hm, hx9⟩ := hM i hi
  have hK2 := hd.1
  refine lv_aload_n hx hb dX5_winOf_0 rfl (lv_at hl 0 rfl) ?_
  refine va_get (D := E.1) (ci := 5) (C := RX5) (T := TX5) (N := 14) hx hb hts hinX5 hown hE.1 hP 0 rfl rfl 3 (by decide) (hts (.fieldLink RX5 16 "StakeHouseModel" "kind" "[I") (by decide +kernel)) (fun _ h9 => h9) rfl dX5_winOf_1 ?_
  refine lv_iload_n hx hb dX5_winOf_4 rfl (lv_at hl 1 rfl) ?_
  refine va_iald hx hb hE.1 hP 1 0 rfl rfl (vp_in_nI (by omega) (by decide)) dX5_winOf_5 ?_
  refine tp_i (show _ = nI (gK (gd i)) by rw [nI_clamp (by omega)]; exact hkd) ?_
  refine z_ne hx hb (by omega) 13 dX5_winOf_6 (by decide) (fun c6 => ?_) (fun c6 => ?_)
  · skip
    refine lv_iload_n hx hb dX5_winOf_13 rfl (lv_at hl 2 rfl) ?_
    refine lv_aload_n hx hb dX5_winOf_14 rfl (lv_at hl 0 rfl) ?_
    refine va_get (D := E.1) (ci := 5) (C := RX5) (T := TX5) (N := 14) hx hb hts hinX5 hown hE.1 hP 0 rfl rfl 5 (by decide) (hts (.fieldLink RX5 23 "StakeHouseModel" "times" "[I") (by decide +kernel)) (fun _ h9 => h9) rfl dX5_winOf_15 ?_
    refine lv_iload_n hx hb dX5_winOf_18 rfl (lv_at hl 1 rfl) ?_
    refine va_iald hx hb hE.1 hP 3 0 rfl rfl (vp_in_nI (by omega) (by decide)) dX5_winOf_19 ?_
    refine tp_i (show _ = nI (gM (gd i)) by rw [nI_clamp (by omega)]; exact hm (by omega)) ?_
    refine lv_imul hx hb dX5_winOf_20 ?_
    refine tp_i (pk_mul _ _) ?_
    refine st_i1 hx hb 3 dX5_winOf_21 rfl hl (by decide) rfl (fun ls hl => ?_)
    refine lv_aload_n hx hb dX5_winOf_22 rfl (lv_at hl 0 rfl) ?_
    refine va_get (D := E.1) (ci := 5) (C := RX5) (T := TX5) (N := 14) hx hb hts hinX5 hown hE.1 hP 0 rfl rfl 3 (by decide) (hts (.fieldLink RX5 16 "StakeHouseModel" "kind" "[I") (by decide +kernel)) (fun _ h9 => h9) rfl dX5_winOf_23 ?_
    refine lv_iload_n hx hb dX5_winOf_26 rfl (lv_at hl 1 rfl) ?_
    refine va_iald hx hb hE.1 hP 1 0 rfl rfl (vp_in_nI (by omega) (by decide)) dX5_winOf_27 ?_
    refine tp_i (show _ = nI (gK (gd i)) by rw [nI_clamp (by omega)]; exact hkd) ?_
    refine lv_iconst (v := nI 2) hx hb dX5_winOf_28 (by decide) ?_
    refine n_ne hx hb (by omega) (by omega) 48 dX5_winOf_29 (by decide) (fun c29 => ?_) (fun c29 => ?_)
    · skip
      refine lv_iload_n hx hb dX5_winOf_48 rfl (lv_at hl 3 rfl) ?_
      exact ret_Pi hx hb hr hlocks dX5_winOf_49 (by rw [gWin_1 (by omega)])
    · skip
      have hM1 := hd.2.2.1 (by omega)
      have hX := hd.2.2.2.1 (by omega)
      have hb1 : st * gM (gd i) ≤ 32 * 9 := Nat.mul_le_mul hst hM1.2
      have hb2 : st * gM (gd i) * gX (gd i) ≤ 288 * 10 := Nat.mul_le_mul hb1 hX
      have hb3 : st * gM (gd i) * gX (gd i) / 10 ≤ st * gM (gd i) := by
        have : st * gM (gd i) * gX (gd i) ≤ st * gM (gd i) * 10 := Nat.mul_le_mul_left _ hX
        omega
      refine lv_iload_n hx hb dX5_winOf_32 rfl (lv_at hl 3 rfl) ?_
      refine lv_iload_n hx hb dX5_winOf_33 rfl (lv_at hl 3 rfl) ?_
      refine lv_aload_n hx hb dX5_winOf_34 rfl (lv_at hl 0 rfl) ?_
      refine va_get (D := E.1) (ci := 5) (C := RX5) (T := TX5) (N := 14) hx hb hts hinX5 hown hE.1 hP 0 rfl rfl 6 (by decide) (hts (.fieldLink RX5 26 "StakeHouseModel" "tax" "[I") (by decide +kernel)) (fun _ h9 => h9) rfl dX5_winOf_35 ?_
      refine lv_iload_n hx hb dX5_winOf_38 rfl (lv_at hl 1 rfl) ?_
      refine va_iald hx hb hE.1 hP 4 0 rfl rfl (vp_in_nI (by omega) (by decide)) dX5_winOf_39 ?_
      refine tp_i (show _ = nI (gX (gd i)) by rw [nI_clamp (by omega)]; exact hx9 (by omega)) ?_
      refine lv_imul hx hb dX5_winOf_40 ?_
      refine tp_i (pk_mul _ _) ?_
      refine lv_bipush (v := nI 10) hx hb dX5_winOf_41 (by decide) ?_
      refine lv_idiv hx hb dX5_winOf_43 (by decide) ?_
      refine tp_i (pk_div (by omega) (by decide) (by decide)) ?_
      refine lv_isub hx hb dX5_winOf_44 ?_
      refine tp_i (pk_sub hb3) ?_
      refine lv_goto (tgt := 49) hx hb dX5_winOf_45 (by decide) ?_
      exact ret_Pi hx hb hr hlocks dX5_winOf_49 (by rw [gWin_2 (by omega)])
  · skip
    refine lv_iload_n hx hb dX5_winOf_9 rfl (lv_at hl 2 rfl) ?_
    refine lv_goto (tgt := 21) hx hb dX5_winOf_10 (by decide) ?_
    refine st_i1 hx hb 3 dX5_winOf_21 rfl hl (by decide) rfl (fun ls hl => ?_)
    refine lv_aload_n hx hb dX5_winOf_22 rfl (lv_at hl 0 rfl) ?_
    refine va_get (D := E.1) (ci := 5) (C := RX5) (T := TX5) (N := 14) hx hb hts hinX5 hown hE.1 hP 0 rfl rfl 3 (by decide) (hts (.fieldLink RX5 16 "StakeHouseModel" "kind" "[I") (by decide +kernel)) (fun _ h9 => h9) rfl dX5_winOf_23 ?_
    refine lv_iload_n hx hb dX5_winOf_26 rfl (lv_at hl 1 rfl) ?_
    refine va_iald hx hb hE.1 hP 1 0 rfl rfl (vp_in_nI (by omega) (by decide)) dX5_winOf_27 ?_
    refine tp_i (show _ = nI (gK (gd i)) by rw [nI_clamp (by omega)]; exact hkd) ?_
    refine lv_iconst (v := nI 2) hx hb dX5_winOf_28 (by decide) ?_
    refine n_ne hx hb (by omega) (by omega) 48 dX5_winOf_29 (by decide) (fun c29 => ?_) (fun c29 => ?_)
    · skip
      refine lv_iload_n hx hb dX5_winOf_48 rfl (lv_at hl 3 rfl) ?_
      exact ret_Pi hx hb hr hlocks dX5_winOf_49 (by rw [gWin_0 (by omega)])
    · skip
      exact absurd c29 (by omega)
set_option maxHeartbeats 4000000 in
set_option maxRecDepth 100000 in
/-- behind -/
theorem m_behind (l : Launch) (E : eT) (am : Nat → Nat) (g hz n : Nat) (kd ch tm tx lm : Nat → Int32) (td : Nat → Int32) (tr : Int64) (bs nw th : Nat → Int64) (pd : Int64) (rest : va_W) (hn : n ≤ 4) (gd : Nat → gT) (hM : ∀ i, i < n → gArg (gd i) (kd i) (ch i) (tm i) (tx i) (lm i)) (hg32 : g ≤ 32) (i q st : Nat) (hi : i < n) (hq : q ≤ 32) (hst : st ≤ 32) : mPi l yX5_behind wsX5_behind 1 24 E (wM E am g hz n kd ch tm tx lm td tr bs nw th pd ++ rest) [.ref (am 0), .int (nI i), .int (nI q), .int (nI st)] (fun r => r = nI (min g (q + gWin (gd i) st))) := by
  refine mP_of (cc := cX5_behind) (maxL := 5) (ret := (some .int)) (by decide) rfl (Nat.le_of_ble_eq_true rfl) ?_
  intro p0 e0 s m below meth c0 ls hx hb hr hml hts hown hlocks hE hP hl
  have hown : s.vm.findClass RX5 = some m.cls := hown
  have hl : lv_has ls 5 [(0, .ref (am 0)), (1, .int (nI i)), (2, .int (nI q)), (3, .int (nI st))] := hl
  have hinX5 : ∀ w ∈ wsX50, w ∈ wsX5_behind := by decide +kernel
  have hW := gWin_le (hM i hi).1 hst
  refine lv_iload_n hx hb dX5_behind_0 rfl (lv_at hl 2 rfl) ?_
  refine lv_aload_n hx hb dX5_behind_1 rfl (lv_at hl 0 rfl) ?_
  refine lv_iload_n hx hb dX5_behind_2 rfl (lv_at hl 1 rfl) ?_
  refine lv_iload_n hx hb dX5_behind_3 rfl (lv_at hl 3 rfl) ?_
  refine vp_callSi (W.runV ⟨hx, hb, hml, hown, hts⟩ (m_winOf l E am g hz n kd ch tm tx lm td tr bs nw th pd rest hn gd hM i st hi hst) (cwV 2 hts gX5_behind_X5_winOf rfl rfl rfl (by decide +kernel) ⟨Nat.le_of_ble_eq_true rfl, Nat.le_of_ble_eq_true rfl⟩) (ePu_V hP hE (ci := 5) (k := 0) rfl rfl) rfl rfl hl.1 rfl (lv_room (Nat.le_of_ble_eq_true rfl)) dX5_behind_4 ⟨Nat.zero_le _, Nat.zero_le _⟩) (fun r9 hr9 => ?_)
  subst hr9
  refine lv_iadd hx hb dX5_behind_7 ?_
  refine tp_i (nI_add _ _) ?_
  refine st_i2 hx hb 4 dX5_behind_8 hl (by decide) rfl (fun ls hl => ?_)
  refine lv_iload hx hb dX5_behind_10 (lv_at hl 4 rfl) ?_
  refine lv_aload_n hx hb dX5_behind_12 rfl (lv_at hl 0 rfl) ?_
  refine va_get (D := E.1) (ci := 5) (C := RX5) (T := TX5) (N := 14) hx hb hts hinX5 hown hE.1 hP 0 rfl rfl 0 (by decide) (hts (.fieldLink RX5 7 "StakeHouseModel" "goal" "I") (by decide +kernel)) (fun _ h9 => h9) rfl dX5_behind_13 ?_
  refine n_le hx hb (by omega) (by omega) 26 dX5_behind_16 (by decide) (fun c16 => ?_) (fun c16 => ?_)
  · skip
    refine lv_iload hx hb dX5_behind_26 (lv_at hl 4 rfl) ?_
    exact ret_Pi hx hb hr hlocks dX5_behind_28 (by congr 1; omega)
  · skip
    refine lv_aload_n hx hb dX5_behind_19 rfl (lv_at hl 0 rfl) ?_
    refine va_get (D := E.1) (ci := 5) (C := RX5) (T := TX5) (N := 14) hx hb hts hinX5 hown hE.1 hP 0 rfl rfl 0 (by decide) (hts (.fieldLink RX5 7 "StakeHouseModel" "goal" "I") (by decide +kernel)) (fun _ h9 => h9) rfl dX5_behind_20 ?_
    refine lv_goto (tgt := 28) hx hb dX5_behind_23 (by decide) ?_
    exact ret_Pi hx hb hr hlocks dX5_behind_28 (by congr 1; omega)
set_option maxHeartbeats 4000000 in
set_option maxRecDepth 100000 in
/-- mostAt -/
theorem m_mostAt (l : Launch) (E : eT) (am : Nat → Nat) (g hz n : Nat) (kd ch tm tx lm : Nat → Int32) (td : Nat → Int32) (tr : Int64) (bs nw th : Nat → Int64) (pd : Int64) (rest : va_W) (hn : n ≤ 4) (gd : Nat → gT) (hM : ∀ i, i < n → gArg (gd i) (kd i) (ch i) (tm i) (tx i) (lm i)) (i q : Nat) (hi : i < n) (hq : q < 2 ^ 31) : mPi l yX5_mostAt wsX5_mostAt 0 0 E (wM E am g hz n kd ch tm tx lm td tr bs nw th pd ++ rest) [.ref (am 0), .int (nI i), .int (nI q)] (fun r => r = nI (min q (gL (gd i)))) := by
  refine mP_of (cc := cX5_mostAt) (maxL := 3) (ret := (some .int)) (by decide) rfl (Nat.le_of_ble_eq_true rfl) ?_
  intro p0 e0 s m below meth c0 ls hx hb hr hml hts hown hlocks hE hP hl
  have hown : s.vm.findClass RX5 = some m.cls := hown
  have hl : lv_has ls 3 [(0, .ref (am 0)), (1, .int (nI i)), (2, .int (nI q))] := hl
  have hinX5 : ∀ w ∈ wsX50, w ∈ wsX5_mostAt := by decide +kernel
  obtain ⟨hd, -, -, hlm, -, -⟩ := hM i hi
  have hL1 := hd.2.2.2.2.2
  refine lv_iload_n hx hb dX5_mostAt_0 rfl (lv_at hl 2 rfl) ?_
  refine lv_aload_n hx hb dX5_mostAt_1 rfl (lv_at hl 0 rfl) ?_
  refine va_get (D := E.1) (ci := 5) (C := RX5) (T := TX5) (N := 14) hx hb hts hinX5 hown hE.1 hP 0 rfl rfl 7 (by decide) (hts (.fieldLink RX5 29 "StakeHouseModel" "limit" "[I") (by decide +kernel)) (fun _ h9 => h9) rfl dX5_mostAt_2 ?_
  refine lv_iload_n hx hb dX5_mostAt_5 rfl (lv_at hl 1 rfl) ?_
  refine va_iald hx hb hE.1 hP 5 0 rfl rfl (vp_in_nI (by omega) (by decide)) dX5_mostAt_6 ?_
  refine tp_i (show _ = nI (gL (gd i)) by rw [nI_clamp (by omega)]; exact hlm) ?_
  refine n_ge hx hb (by omega) (by omega) 14 dX5_mostAt_7 (by decide) (fun c7 => ?_) (fun c7 => ?_)
  · skip
    refine lv_aload_n hx hb dX5_mostAt_14 rfl (lv_at hl 0 rfl) ?_
    refine va_get (D := E.1) (ci := 5) (C := RX5) (T := TX5) (N := 14) hx hb hts hinX5 hown hE.1 hP 0 rfl rfl 7 (by decide) (hts (.fieldLink RX5 29 "StakeHouseModel" "limit" "[I") (by decide +kernel)) (fun _ h9 => h9) rfl dX5_mostAt_15 ?_
    refine lv_iload_n hx hb dX5_mostAt_18 rfl (lv_at hl 1 rfl) ?_
    refine va_iald hx hb hE.1 hP 5 0 rfl rfl (vp_in_nI (by omega) (by decide)) dX5_mostAt_19 ?_
    refine tp_i (show _ = nI (gL (gd i)) by rw [nI_clamp (by omega)]; exact hlm) ?_
    exact ret_Pi hx hb hr hlocks dX5_mostAt_20 (by congr 1; omega)
  · skip
    refine lv_iload_n hx hb dX5_mostAt_10 rfl (lv_at hl 2 rfl) ?_
    refine lv_goto (tgt := 20) hx hb dX5_mostAt_11 (by decide) ?_
    exact ret_Pi hx hb hr hlocks dX5_mostAt_20 (by congr 1; omega)
set_option maxHeartbeats 4000000 in
set_option maxRecDepth 100000 in
/-- worth -/
theorem m_worth (l : Launch) (E : eT) (am : Nat → Nat) (g hz n : Nat) (kd ch tm tx lm : Nat → Int32) (td : Nat → Int32) (tr : Int64) (bs nw th : Nat → Int64) (pd : Int64) (rest : va_W) (hn : n ≤ 4) (gd : Nat → gT) (hM : ∀ i, i < n → gArg (gd i) (kd i) (ch i) (tm i) (tx i) (lm i)) (hg32 : g ≤ 32) (i q st j : Nat) (v : Nat → Nat) (hi : i < n) (hq : q ≤ g) (hst : st ≤ q) (hj : j ≤ 11) (hv : ∀ x, x ≤ g → bs (33 * j + x) = lN (v x)) : mPl l yX5_worth wsX5_worth 2 50 E (wM E am g hz n kd ch tm tx lm td tr bs nw th pd ++ rest) [.ref (am 0), .int (nI i), .int (nI q), .int (nI st), .int (nI (j + 1))] (fun r => r = lN (gVal g (gd i) v q st)) := by
  refine mP_of (cc := cX5_worth) (maxL := 9) (ret := (some .long)) (by decide) rfl (Nat.le_of_ble_eq_true rfl) ?_
  intro p0 e0 s m below meth c0 ls hx hb hr hml hts hown hlocks hE hP hl
  have hown : s.vm.findClass RX5 = some m.cls := hown
  have hl : lv_has ls 9 [(0, .ref (am 0)), (1, .int (nI i)), (2, .int (nI q)), (3, .int (nI st)), (4, .int (nI (j + 1)))] := hl
  have hinX5 : ∀ w ∈ wsX50, w ∈ wsX5_worth := by decide +kernel
  obtain ⟨hd, -, hch, -, -, -⟩ := hM i hi
  have hC := hd.2.1
  refine lv_aload_n hx hb dX5_worth_0 rfl (lv_at hl 0 rfl) ?_
  refine va_get (D := E.1) (ci := 5) (C := RX5) (T := TX5) (N := 14) hx hb hts hinX5 hown hE.1 hP 0 rfl rfl 10 (by decide) (hts (.fieldLink RX5 35 "StakeHouseModel" "best" "[J") (by decide +kernel)) (fun _ h9 => h9) rfl dX5_worth_1 ?_
  refine lv_bipush (v := nI 33) hx hb dX5_worth_4 (by decide) ?_
  refine lv_iload hx hb dX5_worth_6 (lv_at hl 4 rfl) ?_
  refine lv_iconst (v := nI 1) hx hb dX5_worth_8 (by decide) ?_
  refine lv_isub hx hb dX5_worth_9 ?_
  refine tp_i (show _ = nI j from nI_pred j) ?_
  refine lv_imul hx hb dX5_worth_10 ?_
  refine tp_i (pk_mul _ _) ?_
  refine lv_aload_n hx hb dX5_worth_11 rfl (lv_at hl 0 rfl) ?_
  refine lv_iload_n hx hb dX5_worth_12 rfl (lv_at hl 1 rfl) ?_
  refine lv_iload_n hx hb dX5_worth_13 rfl (lv_at hl 2 rfl) ?_
  refine lv_iload_n hx hb dX5_worth_14 rfl (lv_at hl 3 rfl) ?_
  refine vp_callSi (W.runV ⟨hx, hb, hml, hown, hts⟩ (m_behind l E am g hz n kd ch tm tx lm td tr bs nw th pd rest hn gd hM hg32 i q st hi (by omega) (by omega)) (cwV 3 hts gX5_worth_X5_behind rfl rfl rfl (by decide +kernel) ⟨Nat.le_of_ble_eq_true rfl, Nat.le_of_ble_eq_true rfl⟩) (ePu_V hP hE (ci := 5) (k := 0) rfl rfl) rfl rfl hl.1 rfl (lv_room (Nat.le_of_ble_eq_true rfl)) dX5_worth_15 ⟨Nat.zero_le _, Nat.zero_le _⟩) (fun r9 hr9 => ?_)
  subst hr9
  refine lv_iadd hx hb dX5_worth_18 ?_
  refine tp_i (nI_add _ _) ?_
  refine va_lald hx hb hE.1 hP 7 1 rfl rfl (vp_in_nI (by omega) (by decide)) dX5_worth_19 ?_
  refine tp_l (show _ = lN (v (min g (q + gWin (gd i) st))) by rw [nI_clamp (by omega)]; exact hv _ (by omega)) ?_
  refine st_l2 hx hb 5 dX5_worth_20 hl (by decide) rfl (fun ls hl => ?_)
  refine lv_aload_n hx hb dX5_worth_22 rfl (lv_at hl 0 rfl) ?_
  refine va_get (D := E.1) (ci := 5) (C := RX5) (T := TX5) (N := 14) hx hb hts hinX5 hown hE.1 hP 0 rfl rfl 10 (by decide) (hts (.fieldLink RX5 35 "StakeHouseModel" "best" "[J") (by decide +kernel)) (fun _ h9 => h9) rfl dX5_worth_23 ?_
  refine lv_bipush (v := nI 33) hx hb dX5_worth_26 (by decide) ?_
  refine lv_iload hx hb dX5_worth_28 (lv_at hl 4 rfl) ?_
  refine lv_iconst (v := nI 1) hx hb dX5_worth_30 (by decide) ?_
  refine lv_isub hx hb dX5_worth_31 ?_
  refine tp_i (show _ = nI j from nI_pred j) ?_
  refine lv_imul hx hb dX5_worth_32 ?_
  refine tp_i (pk_mul _ _) ?_
  refine lv_iload_n hx hb dX5_worth_33 rfl (lv_at hl 2 rfl) ?_
  refine lv_iadd hx hb dX5_worth_34 ?_
  refine tp_i (nI_add _ _) ?_
  refine lv_iload_n hx hb dX5_worth_35 rfl (lv_at hl 3 rfl) ?_
  refine lv_isub hx hb dX5_worth_36 ?_
  refine tp_i (show _ = nI (33 * j + (q - st)) by rw [pk_sub (by omega)]; congr 1; omega) ?_
  refine va_lald hx hb hE.1 hP 7 1 rfl rfl (vp_in_nI (by omega) (by decide)) dX5_worth_37 ?_
  refine tp_l (show _ = lN (v (q - st)) by rw [nI_clamp (by omega)]; exact hv _ (by omega)) ?_
  refine st_l2 hx hb 6 dX5_worth_38 hl (by decide) rfl (fun ls hl => ?_)
  refine lv_aload_n hx hb dX5_worth_40 rfl (lv_at hl 0 rfl) ?_
  refine va_get (D := E.1) (ci := 5) (C := RX5) (T := TX5) (N := 14) hx hb hts hinX5 hown hE.1 hP 0 rfl rfl 4 (by decide) (hts (.fieldLink RX5 20 "StakeHouseModel" "chance" "[I") (by decide +kernel)) (fun _ h9 => h9) rfl dX5_worth_41 ?_
  refine lv_iload_n hx hb dX5_worth_44 rfl (lv_at hl 1 rfl) ?_
  refine va_iald hx hb hE.1 hP 2 0 rfl rfl (vp_in_nI (by omega) (by decide)) dX5_worth_45 ?_
  refine tp_i (show _ = nI (gC (gd i)) by rw [nI_clamp (by omega)]; exact hch) ?_
  refine lv_i2l (v := lN _) hx hb dX5_worth_46 (nI_l (by omega)) ?_
  refine lv_lload hx hb dX5_worth_47 (lv_at hl 5 rfl) ?_
  refine lv_lmul hx hb dX5_worth_49 ?_
  refine tp_l (lN_mul _ _) ?_
  refine lv_bipush (v := nI 16) hx hb dX5_worth_50 (by decide) ?_
  refine lv_aload_n hx hb dX5_worth_52 rfl (lv_at hl 0 rfl) ?_
  refine va_get (D := E.1) (ci := 5) (C := RX5) (T := TX5) (N := 14) hx hb hts hinX5 hown hE.1 hP 0 rfl rfl 4 (by decide) (hts (.fieldLink RX5 20 "StakeHouseModel" "chance" "[I") (by decide +kernel)) (fun _ h9 => h9) rfl dX5_worth_53 ?_
  refine lv_iload_n hx hb dX5_worth_56 rfl (lv_at hl 1 rfl) ?_
  refine va_iald hx hb hE.1 hP 2 0 rfl rfl (vp_in_nI (by omega) (by decide)) dX5_worth_57 ?_
  refine tp_i (show _ = nI (gC (gd i)) by rw [nI_clamp (by omega)]; exact hch) ?_
  refine lv_isub hx hb dX5_worth_58 ?_
  refine tp_i (pk_sub hC) ?_
  refine lv_i2l (v := lN _) hx hb dX5_worth_59 (nI_l (by omega)) ?_
  refine lv_lload hx hb dX5_worth_60 (lv_at hl 6 rfl) ?_
  refine lv_lmul hx hb dX5_worth_62 ?_
  refine tp_l (lN_mul _ _) ?_
  refine lv_ladd hx hb dX5_worth_63 ?_
  refine tp_l (lN_add _ _) ?_
  exact ret_Pl hx hb hr hlocks dX5_worth_64 rfl
set_option maxHeartbeats 4000000 in
set_option maxRecDepth 100000 in
/-- least -/
theorem m_least (l : Launch) (E : eT) (ws : va_W) (a b : Nat) (ha : a < 2 ^ 31) (hb0 : b < 2 ^ 31) : mPi l yX5_least wsX5_least 0 0 E ws [.int (nI a), .int (nI b)] (fun r => r = nI (min a b)) := by
  refine mP_of (cc := cX5_least) (maxL := 2) (ret := (some .int)) (by decide) rfl (Nat.le_of_ble_eq_true rfl) ?_
  intro p0 e0 s m below meth c0 ls hx hb hr hml hts hown hlocks hE hP hl
  have hown : s.vm.findClass RX5 = some m.cls := hown
  have hl : lv_has ls 2 [(0, .int (nI a)), (1, .int (nI b))] := hl
  refine lv_iload_n hx hb dX5_least_0 rfl (lv_at hl 0 rfl) ?_
  refine lv_iload_n hx hb dX5_least_1 rfl (lv_at hl 1 rfl) ?_
  refine n_ge hx hb (by omega) (by omega) 9 dX5_least_2 (by decide) (fun c2 => ?_) (fun c2 => ?_)
  · skip
    refine lv_iload_n hx hb dX5_least_9 rfl (lv_at hl 1 rfl) ?_
    exact ret_Pi hx hb hr hlocks dX5_least_10 (by congr 1; omega)
  · skip
    refine lv_iload_n hx hb dX5_least_5 rfl (lv_at hl 0 rfl) ?_
    refine lv_goto (tgt := 10) hx hb dX5_least_6 (by decide) ?_
    exact ret_Pi hx hb hr hlocks dX5_least_10 (by congr 1; omega)
set_option maxHeartbeats 4000000 in
set_option maxRecDepth 100000 in
/-- stakeOf -/
theorem m_stakeOf (l : Launch) (E : eT) (am : Nat → Nat) (g hz n : Nat) (kd ch tm tx lm : Nat → Int32) (td : Nat → Nat) (tr : Int64) (bs nw th : Nat → Int64) (pd : Int64) (rest : va_W) (hn : n ≤ 4) (gd : Nat → gT) (hM : ∀ i, i < n → gArg (gd i) (kd i) (ch i) (tm i) (tx i) (lm i)) (hg32 : g ≤ 32) (htd2 : ∀ j, td j ≤ 32) (plan i q : Nat) (hpl : plan ≤ 2) (hi : i < n) (hq1 : 1 ≤ q) (hq : q ≤ g) : mPi l yX5_stakeOf wsX5_stakeOf 1 24 E (wM E am g hz n kd ch tm tx lm (fun j => nI (td j)) tr bs nw th pd ++ rest) [.ref (am 0), .int (nI plan), .int (nI i), .int (nI q)] (fun r => r = nI (gPl g (gd i) td plan q 0)) := by
  refine mP_of (cc := cX5_stakeOf) (maxL := 6) (ret := (some .int)) (by decide) rfl (Nat.le_of_ble_eq_true rfl) ?_
  intro p0 e0 s m below meth c0 ls hx hb hr hml hts hown hlocks hE hP hl
  have hown : s.vm.findClass RX5 = some m.cls := hown
  have hl : lv_has ls 6 [(0, .ref (am 0)), (1, .int (nI plan)), (2, .int (nI i)), (3, .int (nI q))] := hl
  have hinX5 : ∀ w ∈ wsX50, w ∈ wsX5_stakeOf := by decide +kernel
  have hd := (hM i hi).1
  have hL1 := hd.2.2.2.2.2
  have hL0 := hd.2.2.2.2.1
  have htq := htd2 q
  refine lv_aload_n hx hb dX5_stakeOf_0 rfl (lv_at hl 0 rfl) ?_
  refine lv_iload_n hx hb dX5_stakeOf_1 rfl (lv_at hl 2 rfl) ?_
  refine lv_iload_n hx hb dX5_stakeOf_2 rfl (lv_at hl 3 rfl) ?_
  refine vp_callSi (W.runV ⟨hx, hb, hml, hown, hts⟩ (m_mostAt l E am g hz n kd ch tm tx lm (fun j => nI (td j)) tr bs nw th pd rest hn gd hM i q hi (by omega)) (cwV 2 hts gX5_stakeOf_X5_mostAt rfl rfl rfl (by decide +kernel) ⟨Nat.le_of_ble_eq_true rfl, Nat.le_of_ble_eq_true rfl⟩) (ePu_V hP hE (ci := 5) (k := 0) rfl rfl) rfl rfl hl.1 rfl (lv_room (Nat.le_of_ble_eq_true rfl)) dX5_stakeOf_3 ⟨Nat.zero_le _, Nat.zero_le _⟩) (fun r9 hr9 => ?_)
  subst hr9
  refine st_i2 hx hb 4 dX5_stakeOf_6 hl (by decide) rfl (fun ls hl => ?_)
  refine lv_iload_n hx hb dX5_stakeOf_8 rfl (lv_at hl 1 rfl) ?_
  refine lv_iconst (v := nI 1) hx hb dX5_stakeOf_9 (by decide) ?_
  refine n_ne hx hb (by omega) (by omega) 15 dX5_stakeOf_10 (by decide) (fun c10 => ?_) (fun c10 => ?_)
  · skip
    refine lv_iload_n hx hb dX5_stakeOf_15 rfl (lv_at hl 1 rfl) ?_
    refine lv_iconst (v := nI 2) hx hb dX5_stakeOf_16 (by decide) ?_
    refine n_ne hx hb (by omega) (by omega) 32 dX5_stakeOf_17 (by decide) (fun c17 => ?_) (fun c17 => ?_)
    · skip
      obtain rfl : plan = 0 := by omega
      refine lv_iconst (v := nI 1) hx hb dX5_stakeOf_32 (by decide) ?_
      refine st_i2 hx hb 5 dX5_stakeOf_33 hl (by decide) rfl (fun ls hl => ?_)
      refine wLoop (min q (gL (gd i))) 0 (fun k ls => gBold g (gd i) q = gB g (gd i) q (min q (gL (gd i))) ((min q (gL (gd i))) - (k + 1)) ∧ lv_has ls 6 [(0, .ref (am 0)), (1, .int (nI 0)), (2, .int (nI i)), (3, .int (nI q)), (4, .int (nI (min q (gL (gd i))))), (5, .int (nI (k + 1)))]) (Nat.zero_le _) (fun k ls hk hI ih => ?_) (fun ls hI => ?_) ⟨rfl, hl⟩
      · skip
        obtain ⟨hI, hl⟩ := hI
        refine lv_iload hx hb dX5_stakeOf_35 (lv_at hl 5 rfl) ?_
        refine lv_iload hx hb dX5_stakeOf_37 (lv_at hl 4 rfl) ?_
        refine n_gt hx hb (by omega) (by omega) 67 dX5_stakeOf_39 (by decide) (fun c39 => ?_) (fun c39 => ?_)
        · skip
          exact absurd c39 (by omega)
        · skip
          refine lv_iload_n hx hb dX5_stakeOf_42 rfl (lv_at hl 3 rfl) ?_
          refine lv_aload_n hx hb dX5_stakeOf_43 rfl (lv_at hl 0 rfl) ?_
          refine lv_iload_n hx hb dX5_stakeOf_44 rfl (lv_at hl 2 rfl) ?_
          refine lv_iload hx hb dX5_stakeOf_45 (lv_at hl 5 rfl) ?_
          refine vp_callSi (W.runV ⟨hx, hb, hml, hown, hts⟩ (m_winOf l E am g hz n kd ch tm tx lm (fun j => nI (td j)) tr bs nw th pd rest hn gd hM i (k + 1) hi (by omega)) (cwV 2 hts gX5_stakeOf_X5_winOf rfl rfl rfl (by decide +kernel) ⟨Nat.le_of_ble_eq_true rfl, Nat.le_of_ble_eq_true rfl⟩) (ePu_V hP hE (ci := 5) (k := 0) rfl rfl) rfl rfl hl.1 rfl (lv_room (Nat.le_of_ble_eq_true rfl)) dX5_stakeOf_47 ⟨Nat.zero_le _, Nat.zero_le _⟩) (fun r9 hr9 => ?_)
          subst hr9
          have hW := gWin_le hd (s := k + 1) (by omega)
          refine lv_iadd hx hb dX5_stakeOf_50 ?_
          refine tp_i (nI_add _ _) ?_
          refine lv_aload_n hx hb dX5_stakeOf_51 rfl (lv_at hl 0 rfl) ?_
          refine va_get (D := E.1) (ci := 5) (C := RX5) (T := TX5) (N := 14) hx hb hts hinX5 hown hE.1 hP 0 rfl rfl 0 (by decide) (hts (.fieldLink RX5 7 "StakeHouseModel" "goal" "I") (by decide +kernel)) (fun _ h9 => h9) rfl dX5_stakeOf_52 ?_
          refine n_lt hx hb (by omega) (by omega) 61 dX5_stakeOf_55 (by decide) (fun c55 => ?_) (fun c55 => ?_)
          · skip
            refine st_inc hx hb 5 dX5_stakeOf_61 hl rfl (nI_1 _) (by decide) rfl (fun ls hl => ?_)
            refine lv_goto (tgt := 35) hx hb dX5_stakeOf_64 (by decide) ?_
            refine ih _ ⟨?_, hl⟩
            by_cases he : k + 1 < (min q (gL (gd i)))
            · have e1 : (min q (gL (gd i))) - (k + 1) = ((min q (gL (gd i))) - (k + 1 + 1)) + 1 := by omega
              have e2 : (min q (gL (gd i))) - ((min q (gL (gd i))) - (k + 1 + 1) + 1) = k + 1 := by omega
              rw [hI, e1, gB, e2, if_neg (by omega)]
            · rw [hI, show (min q (gL (gd i))) - (k + 1) = (min q (gL (gd i))) - (k + 1 + 1) by omega]
          · skip
            refine lv_iload hx hb dX5_stakeOf_58 (lv_at hl 5 rfl) ?_
            exact ret_Pi hx hb hr hlocks dX5_stakeOf_60 (show nI (k + 1) = nI (gBold g (gd i) q) by
                  by_cases he : k + 1 < (min q (gL (gd i)))
                  · have e1 : (min q (gL (gd i))) - (k + 1) = ((min q (gL (gd i))) - (k + 1 + 1)) + 1 := by omega
                    have e2 : (min q (gL (gd i))) - ((min q (gL (gd i))) - (k + 1 + 1) + 1) = k + 1 := by omega
                    rw [hI, e1, gB, e2, if_pos (by omega)]
                  · rw [hI, show (min q (gL (gd i))) - (k + 1) = 0 by omega, gB]; congr 1; omega)
      · skip
        obtain ⟨hI, hl⟩ := hI
        refine lv_iload hx hb dX5_stakeOf_35 (lv_at hl 5 rfl) ?_
        refine lv_iload hx hb dX5_stakeOf_37 (lv_at hl 4 rfl) ?_
        refine n_gt hx hb (by omega) (by omega) 67 dX5_stakeOf_39 (by decide) (fun c39 => ?_) (fun c39 => ?_)
        · skip
          refine lv_iload hx hb dX5_stakeOf_67 (lv_at hl 4 rfl) ?_
          exact ret_Pi hx hb hr hlocks dX5_stakeOf_69 (show nI (min q (gL (gd i))) = nI (gBold g (gd i) q) by rw [hI, show (min q (gL (gd i))) - ((min q (gL (gd i))) + 1) = 0 by omega, gB])
        · skip
          exact absurd c39 (by omega)
    · skip
      subst c17
      refine lv_aload_n hx hb dX5_stakeOf_20 rfl (lv_at hl 0 rfl) ?_
      refine va_get (D := E.1) (ci := 5) (C := RX5) (T := TX5) (N := 14) hx hb hts hinX5 hown hE.1 hP 0 rfl rfl 8 (by decide) (hts (.fieldLink RX5 32 "StakeHouseModel" "told" "[I") (by decide +kernel)) (fun _ h9 => h9) rfl dX5_stakeOf_21 ?_
      refine lv_iload_n hx hb dX5_stakeOf_24 rfl (lv_at hl 3 rfl) ?_
      refine va_iald hx hb hE.1 hP 6 0 rfl rfl (vp_in_nI (by omega) (by decide)) dX5_stakeOf_25 ?_
      refine tp_i (show _ = nI (td q) by rw [nI_clamp (by omega)]) ?_
      refine lv_iload hx hb dX5_stakeOf_26 (lv_at hl 4 rfl) ?_
      refine vp_callSi (W.runS ⟨hx, hb, hml, hown, hts⟩ (m_least l E _ _ _ (by omega) (by omega)) (va_cwS 2 hts gX5_stakeOf_X5_least rfl rfl rfl (by decide +kernel) ⟨Nat.le_of_ble_eq_true rfl, Nat.le_of_ble_eq_true rfl⟩) (ePu_S hP hE) rfl rfl hl.1 rfl (lv_room (Nat.le_of_ble_eq_true rfl)) dX5_stakeOf_28 ⟨Nat.zero_le _, Nat.zero_le _⟩) (fun r9 hr9 => ?_)
      subst hr9
      exact ret_Pi hx hb hr hlocks dX5_stakeOf_31 rfl
  · skip
    subst c10
    refine lv_iconst (v := nI 1) hx hb dX5_stakeOf_13 (by decide) ?_
    exact ret_Pi hx hb hr hlocks dX5_stakeOf_14 rfl
set_option maxHeartbeats 4000000 in
set_option maxRecDepth 100000 in
/-- stake -/
theorem m_stake (l : Launch) (E : eT) (am : Nat → Nat) (g hz n : Nat) (kd ch tm tx lm : Nat → Int32) (td : Nat → Nat) (tr : Int64) (bs nw th : Nat → Int64) (pd : Int64) (rest : va_W) (hn : n ≤ 4) (gd : Nat → gT) (hM : ∀ i, i < n → gArg (gd i) (kd i) (ch i) (tm i) (tx i) (lm i)) (hg2 : 2 ≤ g) (hg32 : g ≤ 32) (htd2 : ∀ j, td j ≤ 32) (pv iv qv : Int32) : mPi l yX5_stake wsX5_stake 2 60 E (wM E am g hz n kd ch tm tx lm (fun j => nI (td j)) tr bs nw th pd ++ rest) [.ref (am 0), .int pv, .int iv, .int qv] (stk_of g n gd td pv iv qv) := by
  refine mP_of (cc := cX5_stake) (maxL := 4) (ret := (some .int)) (by decide) rfl (Nat.le_of_ble_eq_true rfl) ?_
  intro p0 e0 s m below meth c0 ls hx hb hr hml hts hown hlocks hE hP hl
  have hown : s.vm.findClass RX5 = some m.cls := hown
  have hl : lv_has ls 4 [(0, .ref (am 0)), (1, .int pv), (2, .int iv), (3, .int qv)] := hl
  have hinX5 : ∀ w ∈ wsX50, w ∈ wsX5_stake := by decide +kernel
  refine lv_iload_n hx hb dX5_stake_0 rfl (lv_at hl 1 rfl) ?_
  refine lv_iconst (v := nI 0) hx hb dX5_stake_1 (by decide) ?_
  refine lv_iconst (v := nI 2) hx hb dX5_stake_2 (by decide) ?_
  refine vp_callSi (W.runS ⟨hx, hb, hml, hown, hts⟩ (c_in l E _ _ _ _) (va_cwS 3 hts gX5_stake_X5_in rfl rfl rfl (by decide +kernel) ⟨Nat.le_of_ble_eq_true rfl, Nat.le_of_ble_eq_true rfl⟩) (ePu_S hP hE) rfl rfl hl.1 rfl (lv_room (Nat.le_of_ble_eq_true rfl)) dX5_stake_3 ⟨Nat.zero_le _, Nat.zero_le _⟩) (fun r9 hr9 => ?_)
  subst hr9
  refine q_eq hx hb 41 dX5_stake_6 (by decide) (fun c6 => ?_) (fun c6 => ?_)
  · skip
    refine lv_iconst (v := (-1)) hx hb dX5_stake_41 (by decide) ?_
    exact ret_Pi hx hb hr hlocks dX5_stake_42 (stk_no (fun ⟨p, i, q, e1, e2, e3, g1, g2, g3, g4⟩ => c6 (by rw [e1]; exact (nI_rngI (by omega) (by decide) (by decide)).mpr ⟨by omega, g1⟩)))
  · skip
    obtain ⟨p, -, hp2, rfl⟩ := nI_rng (by decide) c6 (by decide)
    refine lv_aload_n hx hb dX5_stake_9 rfl (lv_at hl 0 rfl) ?_
    refine lv_iload_n hx hb dX5_stake_10 rfl (lv_at hl 2 rfl) ?_
    refine vp_callSi (W.runV ⟨hx, hb, hml, hown, hts⟩ (m_isGame l E am g hz n kd ch tm tx lm (fun j => nI (td j)) tr bs nw th pd rest _) (cwV 1 hts gX5_stake_X5_isGame rfl rfl rfl (by decide +kernel) ⟨Nat.le_of_ble_eq_true rfl, Nat.le_of_ble_eq_true rfl⟩) (ePu_V hP hE (ci := 5) (k := 0) rfl rfl) rfl rfl hl.1 rfl (lv_room (Nat.le_of_ble_eq_true rfl)) dX5_stake_11 ⟨Nat.zero_le _, Nat.zero_le _⟩) (fun r9 hr9 => ?_)
    subst hr9
    refine q_eq hx hb 41 dX5_stake_14 (by decide) (fun c14 => ?_) (fun c14 => ?_)
    · skip
      refine lv_iconst (v := (-1)) hx hb dX5_stake_41 (by decide) ?_
      exact ret_Pi hx hb hr hlocks dX5_stake_42 (stk_no (fun ⟨p, i, q, e1, e2, e3, g1, g2, g3, g4⟩ => c14 ((nI_gm (by omega)).mpr ⟨i, g2, e2⟩)))
    · skip
      obtain ⟨i, hi, rfl⟩ := (nI_gm (by omega)).mp c14
      refine lv_iload_n hx hb dX5_stake_17 rfl (lv_at hl 3 rfl) ?_
      refine lv_iconst (v := nI 1) hx hb dX5_stake_18 (by decide) ?_
      refine lv_aload_n hx hb dX5_stake_19 rfl (lv_at hl 0 rfl) ?_
      refine va_get (D := E.1) (ci := 5) (C := RX5) (T := TX5) (N := 14) hx hb hts hinX5 hown hE.1 hP 0 rfl rfl 0 (by decide) (hts (.fieldLink RX5 7 "StakeHouseModel" "goal" "I") (by decide +kernel)) (fun _ h9 => h9) rfl dX5_stake_20 ?_
      refine lv_iconst (v := nI 1) hx hb dX5_stake_23 (by decide) ?_
      refine lv_isub hx hb dX5_stake_24 ?_
      refine tp_i (pk_sub (by omega)) ?_
      refine vp_callSi (W.runS ⟨hx, hb, hml, hown, hts⟩ (c_in l E _ _ _ _) (va_cwS 3 hts gX5_stake_X5_in rfl rfl rfl (by decide +kernel) ⟨Nat.le_of_ble_eq_true rfl, Nat.le_of_ble_eq_true rfl⟩) (ePu_S hP hE) rfl rfl hl.1 rfl (lv_room (Nat.le_of_ble_eq_true rfl)) dX5_stake_25 ⟨Nat.zero_le _, Nat.zero_le _⟩) (fun r9 hr9 => ?_)
      subst hr9
      refine q_eq hx hb 41 dX5_stake_28 (by decide) (fun c28 => ?_) (fun c28 => ?_)
      · skip
        refine lv_iconst (v := (-1)) hx hb dX5_stake_41 (by decide) ?_
        exact ret_Pi hx hb hr hlocks dX5_stake_42 (stk_no (fun ⟨p, i, q, e1, e2, e3, g1, g2, g3, g4⟩ => c28 (by rw [e3]; exact (nI_rngI (by omega) (by decide) (by omega)).mpr ⟨g3, by omega⟩)))
      · skip
        obtain ⟨q, hq1, hq2, rfl⟩ := nI_rng (by omega) c28 (by decide)
        refine lv_aload_n hx hb dX5_stake_31 rfl (lv_at hl 0 rfl) ?_
        refine lv_iload_n hx hb dX5_stake_32 rfl (lv_at hl 1 rfl) ?_
        refine lv_iload_n hx hb dX5_stake_33 rfl (lv_at hl 2 rfl) ?_
        refine lv_iload_n hx hb dX5_stake_34 rfl (lv_at hl 3 rfl) ?_
        refine vp_callSi (W.runV ⟨hx, hb, hml, hown, hts⟩ (m_stakeOf l E am g hz n kd ch tm tx lm td tr bs nw th pd rest hn gd hM hg32 htd2 p i q hp2 hi hq1 (by omega)) (cwV 3 hts gX5_stake_X5_stakeOf rfl rfl rfl (by decide +kernel) ⟨Nat.le_of_ble_eq_true rfl, Nat.le_of_ble_eq_true rfl⟩) (ePu_V hP hE (ci := 5) (k := 0) rfl rfl) rfl rfl hl.1 rfl (lv_room (Nat.le_of_ble_eq_true rfl)) dX5_stake_35 ⟨Nat.zero_le _, Nat.zero_le _⟩) (fun r9 hr9 => ?_)
        subst hr9
        refine lv_goto (tgt := 42) hx hb dX5_stake_38 (by decide) ?_
        exact ret_Pi hx hb hr hlocks dX5_stake_42 (stk_yes hg32 hn hp2 hi hq1 (by omega))
set_option maxHeartbeats 4000000 in
set_option maxRecDepth 100000 in
/-- count -/
theorem m_count (l : Launch) (E : eT) (am : Nat → Nat) (g hz n : Nat) (kd ch tm tx lm : Nat → Int32) (td : Nat → Int32) (tr : Int64) (bs nw th : Nat → Int64) (pd : Int64) (rest : va_W) (v : Int32) : mPi l yX5_count wsX5_count 0 0 E (wM E am g hz n kd ch tm tx lm td tr bs nw th pd ++ rest) [.ref (am 0), .int v] (fun r => r = cnt_of g hz n v) := by
  refine mP_of (cc := cX5_count) (maxL := 2) (ret := (some .int)) (by decide) rfl (Nat.le_of_ble_eq_true rfl) ?_
  intro p0 e0 s m below meth c0 ls hx hb hr hml hts hown hlocks hE hP hl
  have hown : s.vm.findClass RX5 = some m.cls := hown
  have hl : lv_has ls 2 [(0, .ref (am 0)), (1, .int v)] := hl
  have hinX5 : ∀ w ∈ wsX50, w ∈ wsX5_count := by decide +kernel
  refine lv_iload_n hx hb dX5_count_0 rfl (lv_at hl 1 rfl) ?_
  refine lv_if_ne (tgt := 11) hx hb dX5_count_1 (by decide) (fun c1 => ?_) (fun c1 => ?_)
  · skip
    refine lv_iload_n hx hb dX5_count_11 rfl (lv_at hl 1 rfl) ?_
    refine lv_iconst (v := nI 1) hx hb dX5_count_12 (by decide) ?_
    refine lv_icmp_ne (tgt := 23) hx hb dX5_count_13 (by decide) (fun c13 => ?_) (fun c13 => ?_)
    · skip
      refine lv_iload_n hx hb dX5_count_23 rfl (lv_at hl 1 rfl) ?_
      refine lv_iconst (v := nI 2) hx hb dX5_count_24 (by decide) ?_
      refine lv_icmp_ne (tgt := 35) hx hb dX5_count_25 (by decide) (fun c25 => ?_) (fun c25 => ?_)
      · skip
        refine lv_iconst (v := (-1)) hx hb dX5_count_35 (by decide) ?_
        exact ret_Pi hx hb hr hlocks dX5_count_36 (show _ = cnt_of g hz n v from ((if_neg c1).trans ((if_neg c13).trans (if_neg c25))).symm)
      · skip
        refine lv_aload_n hx hb dX5_count_28 rfl (lv_at hl 0 rfl) ?_
        refine va_get (D := E.1) (ci := 5) (C := RX5) (T := TX5) (N := 14) hx hb hts hinX5 hown hE.1 hP 0 rfl rfl 2 (by decide) (hts (.fieldLink RX5 45 "StakeHouseModel" "games" "I") (by decide +kernel)) (fun _ h9 => h9) rfl dX5_count_29 ?_
        refine lv_goto (tgt := 36) hx hb dX5_count_32 (by decide) ?_
        exact ret_Pi hx hb hr hlocks dX5_count_36 (show _ = cnt_of g hz n v from ((if_neg c1).trans ((if_neg c13).trans (if_pos c25))).symm)
    · skip
      refine lv_aload_n hx hb dX5_count_16 rfl (lv_at hl 0 rfl) ?_
      refine va_get (D := E.1) (ci := 5) (C := RX5) (T := TX5) (N := 14) hx hb hts hinX5 hown hE.1 hP 0 rfl rfl 1 (by decide) (hts (.fieldLink RX5 13 "StakeHouseModel" "horizon" "I") (by decide +kernel)) (fun _ h9 => h9) rfl dX5_count_17 ?_
      refine lv_goto (tgt := 36) hx hb dX5_count_20 (by decide) ?_
      exact ret_Pi hx hb hr hlocks dX5_count_36 (show _ = cnt_of g hz n v from ((if_neg c1).trans (if_pos c13)).symm)
  · skip
    refine lv_aload_n hx hb dX5_count_4 rfl (lv_at hl 0 rfl) ?_
    refine va_get (D := E.1) (ci := 5) (C := RX5) (T := TX5) (N := 14) hx hb hts hinX5 hown hE.1 hP 0 rfl rfl 0 (by decide) (hts (.fieldLink RX5 7 "StakeHouseModel" "goal" "I") (by decide +kernel)) (fun _ h9 => h9) rfl dX5_count_5 ?_
    refine lv_goto (tgt := 36) hx hb dX5_count_8 (by decide) ?_
    exact ret_Pi hx hb hr hlocks dX5_count_36 (show _ = cnt_of g hz n v by unfold cnt_of; rw [if_pos c1])
set_option maxHeartbeats 4000000 in
set_option maxRecDepth 100000 in
/-- trace -/
theorem m_trace (l : Launch) (E : eT) (am : Nat → Nat) (g hz n : Nat) (kd ch tm tx lm : Nat → Int32) (td : Nat → Int32) (tr : Int64) (bs nw th : Nat → Int64) (pd : Int64) (rest : va_W) : mPl l yX5_trace wsX5_trace 0 0 E (wM E am g hz n kd ch tm tx lm td tr bs nw th pd ++ rest) [.ref (am 0)] (fun r => r = tr) := by
  refine mP_of (cc := cX5_trace) (maxL := 1) (ret := (some .long)) (by decide) rfl (Nat.le_of_ble_eq_true rfl) ?_
  intro p0 e0 s m below meth c0 ls hx hb hr hml hts hown hlocks hE hP hl
  have hown : s.vm.findClass RX5 = some m.cls := hown
  have hl : lv_has ls 1 [(0, .ref (am 0))] := hl
  have hinX5 : ∀ w ∈ wsX50, w ∈ wsX5_trace := by decide +kernel
  refine lv_aload_n hx hb dX5_trace_0 rfl (lv_at hl 0 rfl) ?_
  refine va_get (D := E.1) (ci := 5) (C := RX5) (T := TX5) (N := 14) hx hb hts hinX5 hown hE.1 hP 0 rfl rfl 9 (by decide) (hts (.fieldLink RX5 56 "StakeHouseModel" "trace" "J") (by decide +kernel)) (fun _ h9 => h9) rfl dX5_trace_1 ?_
  exact ret_Pl hx hb hr hlocks dX5_trace_4 rfl
def sm (f : Nat → Nat) : Nat → Nat
  | 0 => 0
  | k + 1 => sm f k + f k
set_option maxHeartbeats 4000000 in
set_option maxRecDepth 100000 in
/-- weightAt -/
theorem m_weightAt (l : Launch) (E : eT) (am : Nat → Nat) (g hz n : Nat) (kd ch tm tx lm : Nat → Int32) (td : Nat → Int32) (tr : Int64) (bs nw th : Nat → Int64) (pd : Int64) (rest : va_W) (N : Nat → Nat) (hN : ∀ x, x < 2145 → nw x = lN (N x)) (q : Nat) (hq : q ≤ 32) : mPl l yX5_weightAt wsX5_weightAt 0 0 E (wM E am g hz n kd ch tm tx lm td tr bs nw th pd ++ rest) [.ref (am 0), .int (nI q)] (fun r => r = lN (sm (fun x => N (65 * q + x)) 65)) := by
  refine mP_of (cc := cX5_weightAt) (maxL := 5) (ret := (some .long)) (by decide) rfl (Nat.le_of_ble_eq_true rfl) ?_
  intro p0 e0 s m below meth c0 ls hx hb hr hml hts hown hlocks hE hP hl
  have hown : s.vm.findClass RX5 = some m.cls := hown
  have hl : lv_has ls 5 [(0, .ref (am 0)), (1, .int (nI q))] := hl
  have hinX5 : ∀ w ∈ wsX50, w ∈ wsX5_weightAt := by decide +kernel
  refine lv_lconst (v := lN 0) hx hb dX5_weightAt_0 rfl ?_
  refine st_l1 hx hb 2 dX5_weightAt_1 rfl hl (by decide) rfl (fun ls hl => ?_)
  refine lv_iconst (v := nI 0) hx hb dX5_weightAt_2 (by decide) ?_
  refine st_i2 hx hb 3 dX5_weightAt_3 hl (by decide) rfl (fun ls hl => ?_)
  refine wLoop 65 0 (fun i ls => lv_has ls 5 [(0, .ref (am 0)), (1, .int (nI q)), (2, .long (lN (sm (fun x => N (65 * q + x)) i))), (4, .int (nI i))]) (Nat.zero_le _) (fun i ls hi hl ih => ?_) (fun ls hl => ?_) hl
  · skip
    refine lv_iload hx hb dX5_weightAt_5 (lv_at hl 3 rfl) ?_
    refine lv_bipush (v := nI 65) hx hb dX5_weightAt_7 (by decide) ?_
    refine n_ge hx hb (by omega) (by omega) 33 dX5_weightAt_9 (by decide) (fun c9 => ?_) (fun c9 => ?_)
    · skip
      exact absurd c9 (by omega)
    · skip
      refine lv_lload_n hx hb dX5_weightAt_12 rfl (lv_at hl 2 rfl) ?_
      refine lv_aload_n hx hb dX5_weightAt_13 rfl (lv_at hl 0 rfl) ?_
      refine va_get (D := E.1) (ci := 5) (C := RX5) (T := TX5) (N := 14) hx hb hts hinX5 hown hE.1 hP 0 rfl rfl 11 (by decide) (hts (.fieldLink RX5 39 "StakeHouseModel" "now" "[J") (by decide +kernel)) (fun _ h9 => h9) rfl dX5_weightAt_14 ?_
      refine lv_bipush (v := nI 65) hx hb dX5_weightAt_17 (by decide) ?_
      refine lv_iload_n hx hb dX5_weightAt_19 rfl (lv_at hl 1 rfl) ?_
      refine lv_imul hx hb dX5_weightAt_20 ?_
      refine tp_i (pk_mul _ _) ?_
      refine lv_iload hx hb dX5_weightAt_21 (lv_at hl 3 rfl) ?_
      refine lv_iadd hx hb dX5_weightAt_23 ?_
      refine tp_i (nI_add _ _) ?_
      refine va_lald hx hb hE.1 hP 8 1 rfl rfl (vp_in_nI (by omega) (by decide)) dX5_weightAt_24 ?_
      refine tp_l (show _ = lN (N (65 * q + i)) by rw [nI_clamp (by omega)]; exact hN _ (by omega)) ?_
      refine lv_ladd hx hb dX5_weightAt_25 ?_
      refine tp_l (lN_add _ _) ?_
      refine st_l1 hx hb 2 dX5_weightAt_26 rfl hl (by decide) rfl (fun ls hl => ?_)
      refine st_inc hx hb 3 dX5_weightAt_27 hl rfl (nI_1 _) (by decide) rfl (fun ls hl => ?_)
      refine lv_goto (tgt := 5) hx hb dX5_weightAt_30 (by decide) ?_
      exact ih _ hl
  · skip
    refine lv_iload hx hb dX5_weightAt_5 (lv_at hl 3 rfl) ?_
    refine lv_bipush (v := nI 65) hx hb dX5_weightAt_7 (by decide) ?_
    refine n_ge hx hb (by omega) (by omega) 33 dX5_weightAt_9 (by decide) (fun c9 => ?_) (fun c9 => ?_)
    · skip
      refine lv_lload_n hx hb dX5_weightAt_33 rfl (lv_at hl 2 rfl) ?_
      exact ret_Pl hx hb hr hlocks dX5_weightAt_34 rfl
    · skip
      exact absurd c9 (by omega)
set_option maxHeartbeats 4000000 in
set_option maxRecDepth 100000 in
/-- work -/
theorem m_work (l : Launch) (E : eT) (am : Nat → Nat) (g hz n : Nat) (kd ch tm tx lm : Nat → Int32) (td : Nat → Int32) (tr : Int64) (bs nw th : Nat → Int64) (pd : Int64) (rest : va_W) (hn : n ≤ 4) (gd : Nat → gT) (hM : ∀ i, i < n → gArg (gd i) (kd i) (ch i) (tm i) (tx i) (lm i)) (hg2 : 2 ≤ g) (hg32 : g ≤ 32) (t mn lo cnt : Nat) (ht : t ≤ 12) (hmn : mn ≤ 1) (hc1 : 1 ≤ cnt) (hlc : lo + cnt ≤ n) : mWv l yX5_work wsX5_work 3 80 0 0 E (wM E am g hz n kd ch tm tx lm td tr bs nw th pd ++ rest) [.ref (am 0), .int (nI t), .int (nI mn), .int (nI lo), .int (nI (lo + cnt - 1))] (fun ws1 => ∃ bs1 : Nat → Int64, (∀ k, k ≤ t → ∀ q, q ≤ g → bs1 (33 * k + q) = lN (gBst g gd lo cnt (2 * mn) k q)) ∧ ws1 = wM E am g hz n kd ch tm tx lm td tr bs1 nw th pd ++ rest) := by
  intro sz
  refine mW_of (cc := cX5_work) (maxL := 13) (ret := none) (Qc := fun sz => va_Qv (fun ws1 => ∃ bs1 : Nat → Int64, (∀ k, k ≤ t → ∀ q, q ≤ g → bs1 (33 * k + q) = lN (gBst g gd lo cnt (2 * mn) k q)) ∧ ws1 = wM E am g hz n kd ch tm tx lm td tr bs1 nw th pd ++ rest) (eAt E (va_A (wM E am g hz n kd ch tm tx lm td tr bs nw th pd ++ rest) sz)) (va_A (wM E am g hz n kd ch tm tx lm td tr bs nw th pd ++ rest) sz)) (by decide) rfl (Nat.le_of_ble_eq_true rfl) ?_
  intro p0 e0 s m below meth c0 ls hx hb hr hml hts hown hlocks hin hE hP hD hl
  have hS : va_S (va_A (wM E am g hz n kd ch tm tx lm td tr bs nw th pd ++ rest) s.heap.size) s.heap s.heap [] := va_S.rf
  have hA : ∀ q, s.heap.size ≤ q → (va_A (wM E am g hz n kd ch tm tx lm td tr bs nw th pd ++ rest) s.heap.size) q := fun q h => Or.inr h
  have hown : s.vm.findClass RX5 = some m.cls := hown
  have hl : lv_has ls 13 [(0, .ref (am 0)), (1, .int (nI t)), (2, .int (nI mn)), (3, .int (nI lo)), (4, .int (nI (lo + cnt - 1)))] := hl
  have hinX5 : ∀ w ∈ wsX50, w ∈ wsX5_work := by decide +kernel
  have hOk : ∀ i, i < cnt → gOk (gd (lo + i)) := fun i hi => (hM _ (by omega)).1
  refine lv_iconst (v := nI 0) hx hb dX5_work_0 (by decide) ?_
  refine st_i2 hx hb 5 dX5_work_1 hl (by decide) rfl (fun ls hl => ?_)
  refine wLoopH (g + 1) 0 (fun k H locs ls => ∃ bs1 : Nat → Int64, (∀ q, q < k → bs1 q = lN (gBst g gd lo cnt (2 * mn) 0 q)) ∧ va_P E.1 vwCl (wM E am g hz n kd ch tm tx lm td tr bs1 nw th pd ++ rest) H ∧ va_D (va_A (wM E am g hz n kd ch tm tx lm td tr bs nw th pd ++ rest) s.heap.size) (wM E am g hz n kd ch tm tx lm td tr bs1 nw th pd ++ rest) ∧ va_S (va_A (wM E am g hz n kd ch tm tx lm td tr bs nw th pd ++ rest) s.heap.size) s.heap H locs ∧ lv_has ls 13 [(0, .ref (am 0)), (1, .int (nI t)), (2, .int (nI mn)), (3, .int (nI lo)), (4, .int (nI (lo + cnt - 1))), (5, .int (nI k))]) (Nat.zero_le _) (fun k H locs ls hi_k hI ihk => ?_) (fun H locs ls hI => ?_) ⟨bs, fun q hq => absurd hq (by omega), hP, hD, hS, hl⟩
  · skip
    obtain ⟨bs1, hb1, hP, hD, hS, hl⟩ := hI
    refine lv_iload hx hb dX5_work_3 (lv_at hl 5 rfl) ?_
    refine lv_aload_n hx hb dX5_work_5 rfl (lv_at hl 0 rfl) ?_
    refine va_get (D := E.1) (ci := 5) (C := RX5) (T := TX5) (N := 14) hx hb hts hinX5 hown hE.1 hP 0 rfl rfl 0 (by decide) (hts (.fieldLink RX5 7 "StakeHouseModel" "goal" "I") (by decide +kernel)) (fun _ h9 => h9) rfl dX5_work_6 ?_
    refine n_gt hx hb (by omega) (by omega) 49 dX5_work_9 (by decide) (fun c9 => ?_) (fun c9 => ?_)
    · skip
      exact absurd c9 (by omega)
    · skip
      refine lv_aload_n hx hb dX5_work_12 rfl (lv_at hl 0 rfl) ?_
      refine va_get (D := E.1) (ci := 5) (C := RX5) (T := TX5) (N := 14) hx hb hts hinX5 hown hE.1 hP 0 rfl rfl 10 (by decide) (hts (.fieldLink RX5 35 "StakeHouseModel" "best" "[J") (by decide +kernel)) (fun _ h9 => h9) rfl dX5_work_13 ?_
      refine lv_iload hx hb dX5_work_16 (lv_at hl 5 rfl) ?_
      refine lv_iload_n hx hb dX5_work_18 rfl (lv_at hl 2 rfl) ?_
      refine z_eq hx hb (by omega) 28 dX5_work_19 (by decide) (fun c19 => ?_) (fun c19 => ?_)
      · skip
        obtain rfl : mn = 0 := c19
        refine lv_iload hx hb dX5_work_28 (lv_at hl 5 rfl) ?_
        refine lv_aload_n hx hb dX5_work_30 rfl (lv_at hl 0 rfl) ?_
        refine va_get (D := E.1) (ci := 5) (C := RX5) (T := TX5) (N := 14) hx hb hts hinX5 hown hE.1 hP 0 rfl rfl 0 (by decide) (hts (.fieldLink RX5 7 "StakeHouseModel" "goal" "I") (by decide +kernel)) (fun _ h9 => h9) rfl dX5_work_31 ?_
        refine n_ne hx hb (by omega) (by omega) 41 dX5_work_34 (by decide) (fun c34 => ?_) (fun c34 => ?_)
        · skip
          have e9 : gBst g gd lo cnt (2 * 0) 0 k = 0 := if_neg c34
          refine lv_lconst (v := lN 0) hx hb dX5_work_41 rfl ?_
          refine va_last hx hb hE.1 hP hD hS 7 1 rfl rfl (vp_in_nI (by omega) (by decide)) dX5_work_42 (fun H locs hP hD hS => ?_)
          have hP : va_P E.1 vwCl (wM E am g hz n kd ch tm tx lm td tr (vp_updL bs1 k (lN 0)) nw th pd ++ rest) H := (by rw [nI_clamp (by omega)] at hP; exact hP)
          have hD : va_D (va_A (wM E am g hz n kd ch tm tx lm td tr bs nw th pd ++ rest) s.heap.size) (wM E am g hz n kd ch tm tx lm td tr (vp_updL bs1 k (lN 0)) nw th pd ++ rest) := (by rw [nI_clamp (by omega)] at hD; exact hD)
          refine st_inc hx hb 5 dX5_work_43 hl rfl (nI_1 _) (by decide) rfl (fun ls hl => ?_)
          refine lv_goto (tgt := 3) hx hb dX5_work_46 (by decide) ?_
          refine ihk _ _ _ ⟨_, fun q hq => ?_, hP, hD, hS, hl⟩
          by_cases hqk : q = k
          · subst hqk; rw [pk_uLs, e9]
          · rw [pk_uLn hqk]; exact hb1 q (by omega)
        · skip
          have e9 : gBst g gd lo cnt (2 * 0) 0 k = 1 := if_pos c34
          refine lv_lconst (v := lN 1) hx hb dX5_work_37 rfl ?_
          refine lv_goto (tgt := 42) hx hb dX5_work_38 (by decide) ?_
          refine va_last hx hb hE.1 hP hD hS 7 1 rfl rfl (vp_in_nI (by omega) (by decide)) dX5_work_42 (fun H locs hP hD hS => ?_)
          have hP : va_P E.1 vwCl (wM E am g hz n kd ch tm tx lm td tr (vp_updL bs1 k (lN 1)) nw th pd ++ rest) H := (by rw [nI_clamp (by omega)] at hP; exact hP)
          have hD : va_D (va_A (wM E am g hz n kd ch tm tx lm td tr bs nw th pd ++ rest) s.heap.size) (wM E am g hz n kd ch tm tx lm td tr (vp_updL bs1 k (lN 1)) nw th pd ++ rest) := (by rw [nI_clamp (by omega)] at hD; exact hD)
          refine st_inc hx hb 5 dX5_work_43 hl rfl (nI_1 _) (by decide) rfl (fun ls hl => ?_)
          refine lv_goto (tgt := 3) hx hb dX5_work_46 (by decide) ?_
          refine ihk _ _ _ ⟨_, fun q hq => ?_, hP, hD, hS, hl⟩
          by_cases hqk : q = k
          · subst hqk; rw [pk_uLs, e9]
          · rw [pk_uLn hqk]; exact hb1 q (by omega)
      · skip
        obtain rfl : mn = 1 := by omega
        have e9 : gBst g gd lo cnt (2 * 1) 0 k = k := rfl
        refine lv_iload hx hb dX5_work_22 (lv_at hl 5 rfl) ?_
        refine lv_i2l (v := lN _) hx hb dX5_work_24 (nI_l (by omega)) ?_
        refine lv_goto (tgt := 42) hx hb dX5_work_25 (by decide) ?_
        refine va_last hx hb hE.1 hP hD hS 7 1 rfl rfl (vp_in_nI (by omega) (by decide)) dX5_work_42 (fun H locs hP hD hS => ?_)
        have hP : va_P E.1 vwCl (wM E am g hz n kd ch tm tx lm td tr (vp_updL bs1 k (lN k)) nw th pd ++ rest) H := (by rw [nI_clamp (by omega)] at hP; exact hP)
        have hD : va_D (va_A (wM E am g hz n kd ch tm tx lm td tr bs nw th pd ++ rest) s.heap.size) (wM E am g hz n kd ch tm tx lm td tr (vp_updL bs1 k (lN k)) nw th pd ++ rest) := (by rw [nI_clamp (by omega)] at hD; exact hD)
        refine st_inc hx hb 5 dX5_work_43 hl rfl (nI_1 _) (by decide) rfl (fun ls hl => ?_)
        refine lv_goto (tgt := 3) hx hb dX5_work_46 (by decide) ?_
        refine ihk _ _ _ ⟨_, fun q hq => ?_, hP, hD, hS, hl⟩
        by_cases hqk : q = k
        · subst hqk; rw [pk_uLs, e9]
        · rw [pk_uLn hqk]; exact hb1 q (by omega)
  · skip
    obtain ⟨bs1, hb1, hP, hD, hS, hl⟩ := hI
    refine lv_iload hx hb dX5_work_3 (lv_at hl 5 rfl) ?_
    refine lv_aload_n hx hb dX5_work_5 rfl (lv_at hl 0 rfl) ?_
    refine va_get (D := E.1) (ci := 5) (C := RX5) (T := TX5) (N := 14) hx hb hts hinX5 hown hE.1 hP 0 rfl rfl 0 (by decide) (hts (.fieldLink RX5 7 "StakeHouseModel" "goal" "I") (by decide +kernel)) (fun _ h9 => h9) rfl dX5_work_6 ?_
    refine n_gt hx hb (by omega) (by omega) 49 dX5_work_9 (by decide) (fun c9 => ?_) (fun c9 => ?_)
    · skip
      refine lv_iconst (v := nI 1) hx hb dX5_work_49 (by decide) ?_
      refine st_i2 hx hb 5 dX5_work_50 hl (by decide) rfl (fun ls hl => ?_)
      refine wLoopH t 0 (fun i H locs ls => ∃ bs2 : Nat → Int64, (∀ k, k ≤ i → ∀ q, q ≤ g → bs2 (33 * k + q) = lN (gBst g gd lo cnt (2 * mn) k q)) ∧ va_P E.1 vwCl (wM E am g hz n kd ch tm tx lm td tr bs2 nw th pd ++ rest) H ∧ va_D (va_A (wM E am g hz n kd ch tm tx lm td tr bs nw th pd ++ rest) s.heap.size) (wM E am g hz n kd ch tm tx lm td tr bs2 nw th pd ++ rest) ∧ va_S (va_A (wM E am g hz n kd ch tm tx lm td tr bs nw th pd ++ rest) s.heap.size) s.heap H locs ∧ lv_has ls 13 [(0, .ref (am 0)), (1, .int (nI t)), (2, .int (nI mn)), (3, .int (nI lo)), (4, .int (nI (lo + cnt - 1))), (5, .int (nI (i + 1)))]) (Nat.zero_le _) (fun i H locs ls hi_i hI ihi => ?_) (fun H locs ls hI => ?_) ⟨bs1, fun k hk q hq => by rw [show k = 0 by omega, Nat.mul_zero, Nat.zero_add]; exact hb1 q (by omega), hP, hD, hS, hl⟩
      · skip
        obtain ⟨bs2, hb2, hP, hD, hS, hl⟩ := hI
        refine lv_iload hx hb dX5_work_52 (lv_at hl 5 rfl) ?_
        refine lv_iload_n hx hb dX5_work_54 rfl (lv_at hl 1 rfl) ?_
        refine n_gt hx hb (by omega) (by omega) 201 dX5_work_55 (by decide) (fun c55 => ?_) (fun c55 => ?_)
        · skip
          exact absurd c55 (by omega)
        · skip
          refine lv_iconst (v := nI 0) hx hb dX5_work_58 (by decide) ?_
          refine st_i2 hx hb 6 dX5_work_59 hl (by decide) rfl (fun ls hl => ?_)
          refine wLoopH (g + 1) 0 (fun q H locs ls => ∃ bs3 : Nat → Int64, (∀ k, k ≤ i → ∀ x, x ≤ g → bs3 (33 * k + x) = lN (gBst g gd lo cnt (2 * mn) k x)) ∧ (∀ x, x < q → bs3 (33 * (i + 1) + x) = lN (gBst g gd lo cnt (2 * mn) (i + 1) x)) ∧ va_P E.1 vwCl (wM E am g hz n kd ch tm tx lm td tr bs3 nw th pd ++ rest) H ∧ va_D (va_A (wM E am g hz n kd ch tm tx lm td tr bs nw th pd ++ rest) s.heap.size) (wM E am g hz n kd ch tm tx lm td tr bs3 nw th pd ++ rest) ∧ va_S (va_A (wM E am g hz n kd ch tm tx lm td tr bs nw th pd ++ rest) s.heap.size) s.heap H locs ∧ lv_has ls 13 [(0, .ref (am 0)), (1, .int (nI t)), (2, .int (nI mn)), (3, .int (nI lo)), (4, .int (nI (lo + cnt - 1))), (5, .int (nI (i + 1))), (6, .int (nI q))]) (Nat.zero_le _) (fun q H locs ls hi_q hI ihq => ?_) (fun H locs ls hI => ?_) ⟨bs2, hb2, fun x hx => absurd hx (by omega), hP, hD, hS, hl⟩
          · skip
            obtain ⟨bs3, hb3, hq3, hP, hD, hS, hl⟩ := hI
            have hBd : ∀ x, x ≤ g → gBst g gd lo cnt (2 * mn) i x ≤ 2 ^ 49 := fun x hx => Nat.le_trans (gBst_le hg32 hOk i x hx) (b49 (by omega))
            refine lv_iload hx hb dX5_work_61 (lv_at hl 6 rfl) ?_
            refine lv_aload_n hx hb dX5_work_63 rfl (lv_at hl 0 rfl) ?_
            refine va_get (D := E.1) (ci := 5) (C := RX5) (T := TX5) (N := 14) hx hb hts hinX5 hown hE.1 hP 0 rfl rfl 0 (by decide) (hts (.fieldLink RX5 7 "StakeHouseModel" "goal" "I") (by decide +kernel)) (fun _ h9 => h9) rfl dX5_work_64 ?_
            refine n_gt hx hb (by omega) (by omega) 195 dX5_work_67 (by decide) (fun c67 => ?_) (fun c67 => ?_)
            · skip
              exact absurd c67 (by omega)
            · skip
              refine lv_ldc2 (v := 16) hx hb hown (hts (.constantLong RX5 72 (16)) (by decide +kernel)) dX5_work_70 ?_
              refine tp_l (show (16 : Int64) = lN 16 from rfl) ?_
              refine lv_aload_n hx hb dX5_work_73 rfl (lv_at hl 0 rfl) ?_
              refine va_get (D := E.1) (ci := 5) (C := RX5) (T := TX5) (N := 14) hx hb hts hinX5 hown hE.1 hP 0 rfl rfl 10 (by decide) (hts (.fieldLink RX5 35 "StakeHouseModel" "best" "[J") (by decide +kernel)) (fun _ h9 => h9) rfl dX5_work_74 ?_
              refine lv_bipush (v := nI 33) hx hb dX5_work_77 (by decide) ?_
              refine lv_iload hx hb dX5_work_79 (lv_at hl 5 rfl) ?_
              refine lv_iconst (v := nI 1) hx hb dX5_work_81 (by decide) ?_
              refine lv_isub hx hb dX5_work_82 ?_
              refine tp_i (show _ = nI i from nI_pred i) ?_
              refine lv_imul hx hb dX5_work_83 ?_
              refine tp_i (pk_mul _ _) ?_
              refine lv_iload hx hb dX5_work_84 (lv_at hl 6 rfl) ?_
              refine lv_iadd hx hb dX5_work_86 ?_
              refine tp_i (nI_add _ _) ?_
              refine va_lald hx hb hE.1 hP 7 1 rfl rfl (vp_in_nI (by omega) (by decide)) dX5_work_87 ?_
              refine tp_l (show _ = lN (gBst g gd lo cnt (2 * mn) i q) by rw [nI_clamp (by omega)]; exact hb3 i (by omega) q (by omega)) ?_
              refine lv_lmul hx hb dX5_work_88 ?_
              refine tp_l (lN_mul _ _) ?_
              refine st_l2 hx hb 7 dX5_work_89 hl (by decide) rfl (fun ls hl => ?_)
              refine lv_iload_n hx hb dX5_work_91 rfl (lv_at hl 3 rfl) ?_
              refine st_i2 hx hb 8 dX5_work_92 hl (by decide) rfl (fun ls hl => ?_)
              refine wCut (fun ls : Array Slot => F0 m 174 ls []) (fun ls => lv_has ls 13 [(0, .ref (am 0)), (1, .int (nI t)), (2, .int (nI mn)), (3, .int (nI lo)), (4, .int (nI (lo + cnt - 1))), (5, .int (nI (i + 1))), (6, .int (nI q)), (7, .long (lN (gBst g gd lo cnt (2 * mn) (i + 1) q)))]) ?_ ?_
              · skip
                intro ls hl
                refine lv_aload_n hx hb dX5_work_174 rfl (lv_at hl 0 rfl) ?_
                refine va_get (D := E.1) (ci := 5) (C := RX5) (T := TX5) (N := 14) hx hb hts hinX5 hown hE.1 hP 0 rfl rfl 10 (by decide) (hts (.fieldLink RX5 35 "StakeHouseModel" "best" "[J") (by decide +kernel)) (fun _ h9 => h9) rfl dX5_work_175 ?_
                refine lv_bipush (v := nI 33) hx hb dX5_work_178 (by decide) ?_
                refine lv_iload hx hb dX5_work_180 (lv_at hl 5 rfl) ?_
                refine lv_imul hx hb dX5_work_182 ?_
                refine tp_i (pk_mul _ _) ?_
                refine lv_iload hx hb dX5_work_183 (lv_at hl 6 rfl) ?_
                refine lv_iadd hx hb dX5_work_185 ?_
                refine tp_i (nI_add _ _) ?_
                refine lv_lload hx hb dX5_work_186 (lv_at hl 7 rfl) ?_
                refine va_last hx hb hE.1 hP hD hS 7 1 rfl rfl (vp_in_nI (by omega) (by decide)) dX5_work_188 (fun H locs hP hD hS => ?_)
                have hP : va_P E.1 vwCl (wM E am g hz n kd ch tm tx lm td tr (vp_updL bs3 (33 * (i + 1) + q) (lN (gBst g gd lo cnt (2 * mn) (i + 1) q))) nw th pd ++ rest) H := (by rw [nI_clamp (by omega)] at hP; exact hP)
                have hD : va_D (va_A (wM E am g hz n kd ch tm tx lm td tr bs nw th pd ++ rest) s.heap.size) (wM E am g hz n kd ch tm tx lm td tr (vp_updL bs3 (33 * (i + 1) + q) (lN (gBst g gd lo cnt (2 * mn) (i + 1) q))) nw th pd ++ rest) := (by rw [nI_clamp (by omega)] at hD; exact hD)
                refine st_inc hx hb 6 dX5_work_189 hl rfl (nI_1 _) (by decide) rfl (fun ls hl => ?_)
                refine lv_goto (tgt := 61) hx hb dX5_work_192 (by decide) ?_
                refine ihq _ _ _ ⟨_, fun k hk x hx => ?_, fun x hx => ?_, hP, hD, hS, lv_sub hl [0, 1, 2, 3, 4, 5, 6] rfl⟩
                · rw [pk_uLn (by omega)]; exact hb3 k hk x hx
                · by_cases hxq : x = q
                  · subst hxq; exact pk_uLs
                  · rw [pk_uLn (by omega)]; exact hq3 x (by omega)
              · skip
                intro K
                by_cases hpl : 1 ≤ q ∧ q < g
                · skip
                  have eT : gBst g gd lo cnt (2 * mn) (i + 1) q = gG g gd (gBst g gd lo cnt (2 * mn) i) q lo cnt (16 * gBst g gd lo cnt (2 * mn) i q) := if_pos hpl
                  refine wLoop cnt 0 (fun j ls => lv_has ls 13 [(0, .ref (am 0)), (1, .int (nI t)), (2, .int (nI mn)), (3, .int (nI lo)), (4, .int (nI (lo + cnt - 1))), (5, .int (nI (i + 1))), (6, .int (nI q)), (7, .long (lN (gG g gd (gBst g gd lo cnt (2 * mn) i) q lo j (16 * gBst g gd lo cnt (2 * mn) i q)))), (9, .int (nI (lo + j)))]) (Nat.zero_le _) (fun j ls hj hl ihj => ?_) (fun ls hl => ?_) hl
                  · skip
                    have hdj := (hM (lo + j) (by omega)).1
                    have hL1 := hdj.2.2.2.2.2
                    have hgb := gG_le (gd := gd) (lo := lo) (a := 16 * gBst g gd lo cnt (2 * mn) i q) hBd (show q ≤ g by omega) (by have := hBd q (by omega); omega) j (fun k hk => hOk k (by omega))
                    refine lv_iload hx hb dX5_work_94 (lv_at hl 8 rfl) ?_
                    refine lv_iload hx hb dX5_work_96 (lv_at hl 4 rfl) ?_
                    refine n_gt hx hb (by omega) (by omega) 174 dX5_work_98 (by decide) (fun c98 => ?_) (fun c98 => ?_)
                    · skip
                      exact absurd c98 (by omega)
                    · skip
                      refine lv_iload hx hb dX5_work_101 (lv_at hl 6 rfl) ?_
                      refine lv_if_le (tgt := 174) hx hb dX5_work_103 (by decide) (fun c103 => absurd ((nI_leI (b := 0) (by omega) (by decide)).mp c103) (by omega)) (fun c103 => ?_)
                      refine lv_iload hx hb dX5_work_106 (lv_at hl 6 rfl) ?_
                      refine lv_aload_n hx hb dX5_work_108 rfl (lv_at hl 0 rfl) ?_
                      refine va_get (D := E.1) (ci := 5) (C := RX5) (T := TX5) (N := 14) hx hb hts hinX5 hown hE.1 hP 0 rfl rfl 0 (by decide) (hts (.fieldLink RX5 7 "StakeHouseModel" "goal" "I") (by decide +kernel)) (fun _ h9 => h9) rfl dX5_work_109 ?_
                      refine n_ge hx hb (by omega) (by omega) 174 dX5_work_112 (by decide) (fun c112 => ?_) (fun c112 => ?_)
                      · skip
                        exact absurd c112 (by omega)
                      · skip
                        refine lv_iconst (v := nI 1) hx hb dX5_work_115 (by decide) ?_
                        refine st_i2 hx hb 9 dX5_work_116 hl (by decide) rfl (fun ls hl => ?_)
                        refine wLoop (min q (gL (gd (lo + j)))) 0 (fun s ls => lv_has ls 13 [(0, .ref (am 0)), (1, .int (nI t)), (2, .int (nI mn)), (3, .int (nI lo)), (4, .int (nI (lo + cnt - 1))), (5, .int (nI (i + 1))), (6, .int (nI q)), (7, .long (lN (gS g (gd (lo + j)) (gBst g gd lo cnt (2 * mn) i) q s (gG g gd (gBst g gd lo cnt (2 * mn) i) q lo j (16 * gBst g gd lo cnt (2 * mn) i q))))), (9, .int (nI (lo + j))), (10, .int (nI (s + 1)))]) (Nat.zero_le _) (fun s ls hs hl ihs => ?_) (fun ls hl => ?_) hl
                        · skip
                          refine lv_iload hx hb dX5_work_118 (lv_at hl 9 rfl) ?_
                          refine lv_aload_n hx hb dX5_work_120 rfl (lv_at hl 0 rfl) ?_
                          refine lv_iload hx hb dX5_work_121 (lv_at hl 8 rfl) ?_
                          refine lv_iload hx hb dX5_work_123 (lv_at hl 6 rfl) ?_
                          refine vp_callSi (W.runV ⟨hx, hb, hml, hown, hts⟩ (m_mostAt l E am g hz n kd ch tm tx lm td tr bs3 nw th pd rest hn gd hM (lo + j) q (by omega) (by omega)) (cwV 2 hts gX5_work_X5_mostAt rfl rfl rfl (by decide +kernel) ⟨Nat.le_of_ble_eq_true rfl, Nat.le_of_ble_eq_true rfl⟩) (ePu_V hP hE (ci := 5) (k := 0) rfl rfl) rfl rfl hl.1 rfl (lv_room (Nat.le_of_ble_eq_true rfl)) dX5_work_125 ⟨Nat.zero_le _, Nat.zero_le _⟩) (fun r9 hr9 => ?_)
                          subst hr9
                          refine n_gt hx hb (by omega) (by omega) 168 dX5_work_128 (by decide) (fun c128 => ?_) (fun c128 => ?_)
                          · skip
                            exact absurd c128 (by omega)
                          · skip
                            refine lv_aload_n hx hb dX5_work_131 rfl (lv_at hl 0 rfl) ?_
                            refine lv_iload hx hb dX5_work_132 (lv_at hl 8 rfl) ?_
                            refine lv_iload hx hb dX5_work_134 (lv_at hl 6 rfl) ?_
                            refine lv_iload hx hb dX5_work_136 (lv_at hl 9 rfl) ?_
                            refine lv_iload hx hb dX5_work_138 (lv_at hl 5 rfl) ?_
                            refine vp_callSl (W.runV ⟨hx, hb, hml, hown, hts⟩ (m_worth l E am g hz n kd ch tm tx lm td tr bs3 nw th pd rest hn gd hM hg32 (lo + j) q (s + 1) i (gBst g gd lo cnt (2 * mn) i) (by omega) (by omega) (by omega) (by omega) (fun x hx => hb3 i (by omega) x hx)) (cwV 4 hts gX5_work_X5_worth rfl rfl rfl (by decide +kernel) ⟨Nat.le_of_ble_eq_true rfl, Nat.le_of_ble_eq_true rfl⟩) (ePu_V hP hE (ci := 5) (k := 0) rfl rfl) rfl rfl hl.1 rfl (lv_room (Nat.le_of_ble_eq_true rfl)) dX5_work_140 ⟨Nat.zero_le _, Nat.zero_le _⟩) (fun r9 hr9 => ?_)
                            subst hr9
                            refine st_l2 hx hb 10 dX5_work_143 hl (by decide) rfl (fun ls hl => ?_)
                            refine lv_lload hx hb dX5_work_145 (lv_at hl 10 rfl) ?_
                            refine lv_lload hx hb dX5_work_147 (lv_at hl 7 rfl) ?_
                            refine W.lcmp hx hb dX5_work_149 ?_
                            have hs1 := gS_le (a := (gG g gd (gBst g gd lo cnt (2 * mn) i) q lo j (16 * gBst g gd lo cnt (2 * mn) i q))) hdj hBd (show q ≤ g by omega) hgb s
                            have hs2 := gVal_le (s := s + 1) hdj hBd (show q ≤ g by omega)
                            refine lv_if_le (tgt := 158) hx hb dX5_work_150 (by decide) (fun c150 => ?_) (fun c150 => ?_)
                            · skip
                              rw [lg_cmp_le, pk_lLE (by omega) (by omega)] at c150
                              refine lv_lload hx hb dX5_work_158 (lv_at hl 7 rfl) ?_
                              refine st_l2 hx hb 7 dX5_work_160 hl (by decide) rfl (fun ls hl => ?_)
                              refine st_inc hx hb 9 dX5_work_162 hl rfl (nI_1 _) (by decide) rfl (fun ls hl => ?_)
                              refine lv_goto (tgt := 118) hx hb dX5_work_165 (by decide) ?_
                              refine ihs _ ?_
                              have e9 : gS g (gd (lo + j)) (gBst g gd lo cnt (2 * mn) i) q (s + 1) (gG g gd (gBst g gd lo cnt (2 * mn) i) q lo j (16 * gBst g gd lo cnt (2 * mn) i q)) = gS g (gd (lo + j)) (gBst g gd lo cnt (2 * mn) i) q s (gG g gd (gBst g gd lo cnt (2 * mn) i) q lo j (16 * gBst g gd lo cnt (2 * mn) i q)) := Nat.max_eq_left c150
                              rw [e9]
                              exact lv_sub hl [0, 1, 2, 3, 4, 5, 6, 7, 8, 9] rfl
                            · skip
                              rw [lg_cmp_le, pk_lLE (by omega) (by omega)] at c150
                              refine lv_lload hx hb dX5_work_153 (lv_at hl 10 rfl) ?_
                              refine lv_goto (tgt := 160) hx hb dX5_work_155 (by decide) ?_
                              refine st_l2 hx hb 7 dX5_work_160 hl (by decide) rfl (fun ls hl => ?_)
                              refine st_inc hx hb 9 dX5_work_162 hl rfl (nI_1 _) (by decide) rfl (fun ls hl => ?_)
                              refine lv_goto (tgt := 118) hx hb dX5_work_165 (by decide) ?_
                              refine ihs _ ?_
                              have e9 : gS g (gd (lo + j)) (gBst g gd lo cnt (2 * mn) i) q (s + 1) (gG g gd (gBst g gd lo cnt (2 * mn) i) q lo j (16 * gBst g gd lo cnt (2 * mn) i q)) = gVal g (gd (lo + j)) (gBst g gd lo cnt (2 * mn) i) q (s + 1) := Nat.max_eq_right (by omega)
                              rw [e9]
                              exact lv_sub hl [0, 1, 2, 3, 4, 5, 6, 7, 8, 9] rfl
                        · skip
                          refine lv_iload hx hb dX5_work_118 (lv_at hl 9 rfl) ?_
                          refine lv_aload_n hx hb dX5_work_120 rfl (lv_at hl 0 rfl) ?_
                          refine lv_iload hx hb dX5_work_121 (lv_at hl 8 rfl) ?_
                          refine lv_iload hx hb dX5_work_123 (lv_at hl 6 rfl) ?_
                          refine vp_callSi (W.runV ⟨hx, hb, hml, hown, hts⟩ (m_mostAt l E am g hz n kd ch tm tx lm td tr bs3 nw th pd rest hn gd hM (lo + j) q (by omega) (by omega)) (cwV 2 hts gX5_work_X5_mostAt rfl rfl rfl (by decide +kernel) ⟨Nat.le_of_ble_eq_true rfl, Nat.le_of_ble_eq_true rfl⟩) (ePu_V hP hE (ci := 5) (k := 0) rfl rfl) rfl rfl hl.1 rfl (lv_room (Nat.le_of_ble_eq_true rfl)) dX5_work_125 ⟨Nat.zero_le _, Nat.zero_le _⟩) (fun r9 hr9 => ?_)
                          subst hr9
                          refine n_gt hx hb (by omega) (by omega) 168 dX5_work_128 (by decide) (fun c128 => ?_) (fun c128 => ?_)
                          · skip
                            refine st_inc hx hb 8 dX5_work_168 hl rfl (nI_1 _) (by decide) rfl (fun ls hl => ?_)
                            refine lv_goto (tgt := 94) hx hb dX5_work_171 (by decide) ?_
                            refine ihj _ ?_
                            have e9 : gG g gd (gBst g gd lo cnt (2 * mn) i) q lo (j + 1) (16 * gBst g gd lo cnt (2 * mn) i q) = gS g (gd (lo + j)) (gBst g gd lo cnt (2 * mn) i) q (min q (gL (gd (lo + j)))) (gG g gd (gBst g gd lo cnt (2 * mn) i) q lo j (16 * gBst g gd lo cnt (2 * mn) i q)) := (gS_acc _ _ _ _ _ _).symm
                            rw [e9]
                            exact lv_sub hl [0, 1, 2, 3, 4, 5, 6, 7, 8] rfl
                          · skip
                            exact absurd c128 (by omega)
                  · skip
                    refine lv_iload hx hb dX5_work_94 (lv_at hl 8 rfl) ?_
                    refine lv_iload hx hb dX5_work_96 (lv_at hl 4 rfl) ?_
                    refine n_gt hx hb (by omega) (by omega) 174 dX5_work_98 (by decide) (fun c98 => ?_) (fun c98 => ?_)
                    · skip
                      refine K _ ?_
                      rw [eT]
                      exact lv_sub hl [0, 1, 2, 3, 4, 5, 6, 7] rfl
                    · skip
                      exact absurd c98 (by omega)
                · skip
                  have eT : gBst g gd lo cnt (2 * mn) (i + 1) q = 16 * gBst g gd lo cnt (2 * mn) i q := if_neg hpl
                  refine lv_iload hx hb dX5_work_94 (lv_at hl 8 rfl) ?_
                  refine lv_iload hx hb dX5_work_96 (lv_at hl 4 rfl) ?_
                  refine n_gt hx hb (by omega) (by omega) 174 dX5_work_98 (by decide) (fun c98 => ?_) (fun c98 => ?_)
                  · skip
                    exact absurd c98 (by omega)
                  · skip
                    refine lv_iload hx hb dX5_work_101 (lv_at hl 6 rfl) ?_
                    refine lv_if_le (tgt := 174) hx hb dX5_work_103 (by decide) (fun c103 => ?_) (fun c103 => ?_)
                    · skip
                      refine K _ ?_
                      rw [eT]
                      exact lv_sub hl [0, 1, 2, 3, 4, 5, 6, 7] rfl
                    · skip
                      have c103 : ¬ q ≤ 0 := fun z => c103 ((nI_leI (b := 0) (by omega) (by decide)).mpr z)
                      refine lv_iload hx hb dX5_work_106 (lv_at hl 6 rfl) ?_
                      refine lv_aload_n hx hb dX5_work_108 rfl (lv_at hl 0 rfl) ?_
                      refine va_get (D := E.1) (ci := 5) (C := RX5) (T := TX5) (N := 14) hx hb hts hinX5 hown hE.1 hP 0 rfl rfl 0 (by decide) (hts (.fieldLink RX5 7 "StakeHouseModel" "goal" "I") (by decide +kernel)) (fun _ h9 => h9) rfl dX5_work_109 ?_
                      refine n_ge hx hb (by omega) (by omega) 174 dX5_work_112 (by decide) (fun c112 => ?_) (fun c112 => ?_)
                      · skip
                        refine K _ ?_
                        rw [eT]
                        exact lv_sub hl [0, 1, 2, 3, 4, 5, 6, 7] rfl
                      · skip
                        exact absurd hpl (by omega)
          · skip
            obtain ⟨bs3, hb3, hq3, hP, hD, hS, hl⟩ := hI
            refine lv_iload hx hb dX5_work_61 (lv_at hl 6 rfl) ?_
            refine lv_aload_n hx hb dX5_work_63 rfl (lv_at hl 0 rfl) ?_
            refine va_get (D := E.1) (ci := 5) (C := RX5) (T := TX5) (N := 14) hx hb hts hinX5 hown hE.1 hP 0 rfl rfl 0 (by decide) (hts (.fieldLink RX5 7 "StakeHouseModel" "goal" "I") (by decide +kernel)) (fun _ h9 => h9) rfl dX5_work_64 ?_
            refine n_gt hx hb (by omega) (by omega) 195 dX5_work_67 (by decide) (fun c67 => ?_) (fun c67 => ?_)
            · skip
              refine st_inc hx hb 5 dX5_work_195 hl rfl (nI_1 _) (by decide) rfl (fun ls hl => ?_)
              refine lv_goto (tgt := 52) hx hb dX5_work_198 (by decide) ?_
              refine ihi _ _ _ ⟨bs3, fun k hk x hx => ?_, hP, hD, hS, lv_sub hl [0, 1, 2, 3, 4, 5] rfl⟩
              by_cases hki : k = i + 1
              · subst hki; exact hq3 x (by omega)
              · exact hb3 k (by omega) x hx
            · skip
              exact absurd c67 (by omega)
      · skip
        obtain ⟨bs2, hb2, hP, hD, hS, hl⟩ := hI
        refine lv_iload hx hb dX5_work_52 (lv_at hl 5 rfl) ?_
        refine lv_iload_n hx hb dX5_work_54 rfl (lv_at hl 1 rfl) ?_
        refine n_gt hx hb (by omega) (by omega) 201 dX5_work_55 (by decide) (fun c55 => ?_) (fun c55 => ?_)
        · skip
          exact ret_Wv hx hb hr hlocks dX5_work_201 hP hD hS ⟨bs2, hb2, rfl⟩
        · skip
          exact absurd c55 (by omega)
    · skip
      exact absurd c9 (by omega)
