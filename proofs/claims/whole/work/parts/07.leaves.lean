/-! StakeHouse: the leaves (they only read) -/
set_option maxHeartbeats 4000000 in
set_option maxRecDepth 100000 in
/-- within -/
theorem c_within (l : Launch) (E : eT) (ws : va_W) (v lo hi : Int32) : mPi l yX4_within wsX4_within 0 0 E ws [.int v, .int lo, .int hi] (fun r => r = if lo ≤ v ∧ v ≤ hi then 1 else 0) := by
  refine mP_of (cc := cX4_within) (maxL := 3) (ret := (some .boolean)) (by decide) rfl (Nat.le_of_ble_eq_true rfl) ?_
  intro p0 e0 s m below meth c0 ls hx hb hr hml hts hown hlocks hE hP hl
  have hown : s.vm.findClass RX4 = some m.cls := hown
  have hl : lv_has ls 3 [(0, .int v), (1, .int lo), (2, .int hi)] := hl
  refine lv_iload_n hx hb dX4_within_0 rfl (lv_at hl 0 rfl) ?_
  refine lv_iload_n hx hb dX4_within_1 rfl (lv_at hl 1 rfl) ?_
  refine lv_icmp_lt (tgt := 14) hx hb dX4_within_2 (by decide) (fun c2 => ?_) (fun c2 => ?_)
  · skip
    refine lv_iconst (v := nI 0) hx hb dX4_within_14 (by decide) ?_
    exact ret_Pz hx hb hr hlocks dX4_within_15 rfl (by rw [if_neg (fun q => absurd c2 (Int32.not_lt.mpr q.1))]; rfl)
  · skip
    refine lv_iload_n hx hb dX4_within_5 rfl (lv_at hl 0 rfl) ?_
    refine lv_iload_n hx hb dX4_within_6 rfl (lv_at hl 2 rfl) ?_
    refine lv_icmp_gt (tgt := 14) hx hb dX4_within_7 (by decide) (fun c7 => ?_) (fun c7 => ?_)
    · skip
      refine lv_iconst (v := nI 0) hx hb dX4_within_14 (by decide) ?_
      exact ret_Pz hx hb hr hlocks dX4_within_15 rfl (by rw [if_neg (fun q => absurd c7 (Int32.not_lt.mpr q.2))]; rfl)
    · skip
      refine lv_iconst (v := nI 1) hx hb dX4_within_10 (by decide) ?_
      refine lv_goto (tgt := 15) hx hb dX4_within_11 (by decide) ?_
      exact ret_Pz hx hb hr hlocks dX4_within_15 rfl (by rw [if_pos ⟨Int32.not_lt.mp c2, Int32.not_lt.mp c7⟩]; rfl)
set_option maxHeartbeats 4000000 in
set_option maxRecDepth 100000 in
/-- isSpot -/
theorem c_isSpot (l : Launch) (E : eT) (ws : va_W) (ad : Nat → Nat) (g hz n : Nat) (mk : Int64) (hX : ws[0]? = some (ad 0, xE ad g hz n mk)) (v t : Int32) : mPi l yX4_isSpot wsX4_isSpot 1 22 E ws [.ref (ad 0), .int v, .int t] (fun r => r = if (nI 0 ≤ v ∧ v ≤ nI g) ∧ (nI 0 ≤ t ∧ t ≤ nI hz) then 1 else 0) := by
  refine mP_of (cc := cX4_isSpot) (maxL := 3) (ret := (some .boolean)) (by decide) rfl (Nat.le_of_ble_eq_true rfl) ?_
  intro p0 e0 s m below meth c0 ls hx hb hr hml hts hown hlocks hE hP hl
  have hown : s.vm.findClass RX4 = some m.cls := hown
  have hl : lv_has ls 3 [(0, .ref (ad 0)), (1, .int v), (2, .int t)] := hl
  have hinX4 : ∀ w ∈ wsX40, w ∈ wsX4_isSpot := by decide +kernel
  refine lv_iload_n hx hb dX4_isSpot_0 rfl (lv_at hl 1 rfl) ?_
  refine lv_iconst (v := nI 0) hx hb dX4_isSpot_1 (by decide) ?_
  refine lv_aload_n hx hb dX4_isSpot_2 rfl (lv_at hl 0 rfl) ?_
  refine va_get (D := E.1) (ci := 4) (C := RX4) (T := TX4) (N := 11) hx hb hts hinX4 hown hE.1 hP 0 hX rfl 7 (by decide) (hts (.fieldLink RX4 42 "StakeHouse" "goal" "I") (by decide +kernel)) (fun _ h9 => h9) rfl dX4_isSpot_3 ?_
  refine vp_callSi (W.runS ⟨hx, hb, hml, hown, hts⟩ (c_within l E ws _ _ _) (va_cwS 3 hts gX4_isSpot_X4_within rfl rfl rfl (by decide +kernel) ⟨Nat.le_of_ble_eq_true rfl, Nat.le_of_ble_eq_true rfl⟩) (ePu_S hP hE) rfl rfl hl.1 rfl (lv_room (Nat.le_of_ble_eq_true rfl)) dX4_isSpot_6 ⟨Nat.zero_le _, Nat.zero_le _⟩) (fun r9 hr9 => ?_)
  subst hr9
  refine q_eq hx hb 28 dX4_isSpot_9 (by decide) (fun c9 => ?_) (fun c9 => ?_)
  · skip
    refine lv_iconst (v := nI 0) hx hb dX4_isSpot_28 (by decide) ?_
    exact ret_Pz hx hb hr hlocks dX4_isSpot_29 rfl (by rw [if_neg (fun q => c9 q.1)]; rfl)
  · skip
    refine lv_iload_n hx hb dX4_isSpot_12 rfl (lv_at hl 2 rfl) ?_
    refine lv_iconst (v := nI 0) hx hb dX4_isSpot_13 (by decide) ?_
    refine lv_aload_n hx hb dX4_isSpot_14 rfl (lv_at hl 0 rfl) ?_
    refine va_get (D := E.1) (ci := 4) (C := RX4) (T := TX4) (N := 11) hx hb hts hinX4 hown hE.1 hP 0 hX rfl 8 (by decide) (hts (.fieldLink RX4 46 "StakeHouse" "horizon" "I") (by decide +kernel)) (fun _ h9 => h9) rfl dX4_isSpot_15 ?_
    refine vp_callSi (W.runS ⟨hx, hb, hml, hown, hts⟩ (c_within l E ws _ _ _) (va_cwS 3 hts gX4_isSpot_X4_within rfl rfl rfl (by decide +kernel) ⟨Nat.le_of_ble_eq_true rfl, Nat.le_of_ble_eq_true rfl⟩) (ePu_S hP hE) rfl rfl hl.1 rfl (lv_room (Nat.le_of_ble_eq_true rfl)) dX4_isSpot_18 ⟨Nat.zero_le _, Nat.zero_le _⟩) (fun r9 hr9 => ?_)
    subst hr9
    refine q_eq hx hb 28 dX4_isSpot_21 (by decide) (fun c21 => ?_) (fun c21 => ?_)
    · skip
      refine lv_iconst (v := nI 0) hx hb dX4_isSpot_28 (by decide) ?_
      exact ret_Pz hx hb hr hlocks dX4_isSpot_29 rfl (by rw [if_neg (fun q => c21 q.2)]; rfl)
    · skip
      refine lv_iconst (v := nI 1) hx hb dX4_isSpot_24 (by decide) ?_
      refine lv_goto (tgt := 29) hx hb dX4_isSpot_25 (by decide) ?_
      exact ret_Pz hx hb hr hlocks dX4_isSpot_29 rfl (by rw [if_pos ⟨c9, c21⟩]; rfl)
set_option maxHeartbeats 4000000 in
set_option maxRecDepth 100000 in
/-- isPlayed -/
theorem c_isPlayed (l : Launch) (E : eT) (ws : va_W) (ad : Nat → Nat) (g hz n : Nat) (mk : Int64) (hX : ws[0]? = some (ad 0, xE ad g hz n mk)) (hg : 2 ≤ g) (v : Int32) : mPi l yX4_isPlayed wsX4_isPlayed 1 22 E ws [.ref (ad 0), .int v] (fun r => r = if nI 1 ≤ v ∧ v ≤ nI (g - 1) then 1 else 0) := by
  refine mP_of (cc := cX4_isPlayed) (maxL := 2) (ret := (some .boolean)) (by decide) rfl (Nat.le_of_ble_eq_true rfl) ?_
  intro p0 e0 s m below meth c0 ls hx hb hr hml hts hown hlocks hE hP hl
  have hown : s.vm.findClass RX4 = some m.cls := hown
  have hl : lv_has ls 2 [(0, .ref (ad 0)), (1, .int v)] := hl
  have hinX4 : ∀ w ∈ wsX40, w ∈ wsX4_isPlayed := by decide +kernel
  refine lv_iload_n hx hb dX4_isPlayed_0 rfl (lv_at hl 1 rfl) ?_
  refine lv_iconst (v := nI 1) hx hb dX4_isPlayed_1 (by decide) ?_
  refine lv_aload_n hx hb dX4_isPlayed_2 rfl (lv_at hl 0 rfl) ?_
  refine va_get (D := E.1) (ci := 4) (C := RX4) (T := TX4) (N := 11) hx hb hts hinX4 hown hE.1 hP 0 hX rfl 7 (by decide) (hts (.fieldLink RX4 42 "StakeHouse" "goal" "I") (by decide +kernel)) (fun _ h9 => h9) rfl dX4_isPlayed_3 ?_
  refine lv_iconst (v := nI 1) hx hb dX4_isPlayed_6 (by decide) ?_
  refine lv_isub hx hb dX4_isPlayed_7 ?_
  refine tp_i (pk_sub (by omega)) ?_
  refine vp_callSi (W.runS ⟨hx, hb, hml, hown, hts⟩ (c_within l E ws _ _ _) (va_cwS 3 hts gX4_isPlayed_X4_within rfl rfl rfl (by decide +kernel) ⟨Nat.le_of_ble_eq_true rfl, Nat.le_of_ble_eq_true rfl⟩) (ePu_S hP hE) rfl rfl hl.1 rfl (lv_room (Nat.le_of_ble_eq_true rfl)) dX4_isPlayed_8 ⟨Nat.zero_le _, Nat.zero_le _⟩) (fun r9 hr9 => ?_)
  subst hr9
  exact ret_Pz hx hb hr hlocks dX4_isPlayed_11 (by split <;> rfl) rfl
set_option maxHeartbeats 4000000 in
set_option maxRecDepth 100000 in
/-- gameAt -/
theorem c_gameAt (l : Launch) (E : eT) (ws : va_W) (ad : Nat → Nat) (g hz n : Nat) (mk : Int64) (hX : ws[0]? = some (ad 0, xE ad g hz n mk)) (hn : n ≤ 4) (gr : Nat → Option Nat) (hG : ws[1]? = some (ad 1, xGr E gr)) (v : Int32) : mPq l yX4_gameAt wsX4_gameAt 1 22 E ws [.ref (ad 0), .int v] (fun r => r = if nI 0 ≤ v ∧ v ≤ nI n - nI 1 then gr v.toNatClampNeg else none) := by
  refine mP_of (cc := cX4_gameAt) (maxL := 2) (ret := (some (.object "StakeHouse$EvenGame"))) (by decide) rfl (Nat.le_of_ble_eq_true rfl) ?_
  intro p0 e0 s m below meth c0 ls hx hb hr hml hts hown hlocks hE hP hl
  have hown : s.vm.findClass RX4 = some m.cls := hown
  have hl : lv_has ls 2 [(0, .ref (ad 0)), (1, .int v)] := hl
  have hinX4 : ∀ w ∈ wsX40, w ∈ wsX4_gameAt := by decide +kernel
  refine lv_iload_n hx hb dX4_gameAt_0 rfl (lv_at hl 1 rfl) ?_
  refine lv_iconst (v := nI 0) hx hb dX4_gameAt_1 (by decide) ?_
  refine lv_aload_n hx hb dX4_gameAt_2 rfl (lv_at hl 0 rfl) ?_
  refine va_get (D := E.1) (ci := 4) (C := RX4) (T := TX4) (N := 11) hx hb hts hinX4 hown hE.1 hP 0 hX rfl 9 (by decide) (hts (.fieldLink RX4 49 "StakeHouse" "held" "I") (by decide +kernel)) (fun _ h9 => h9) rfl dX4_gameAt_3 ?_
  refine lv_iconst (v := nI 1) hx hb dX4_gameAt_6 (by decide) ?_
  refine lv_isub hx hb dX4_gameAt_7 ?_
  refine vp_callSi (W.runS ⟨hx, hb, hml, hown, hts⟩ (c_within l E ws _ _ _) (va_cwS 3 hts gX4_gameAt_X4_within rfl rfl rfl (by decide +kernel) ⟨Nat.le_of_ble_eq_true rfl, Nat.le_of_ble_eq_true rfl⟩) (ePu_S hP hE) rfl rfl hl.1 rfl (lv_room (Nat.le_of_ble_eq_true rfl)) dX4_gameAt_8 ⟨Nat.zero_le _, Nat.zero_le _⟩) (fun r9 hr9 => ?_)
  subst hr9
  refine q_eq hx hb 23 dX4_gameAt_11 (by decide) (fun c11 => ?_) (fun c11 => ?_)
  · skip
    refine lv_null hx hb dX4_gameAt_23 ?_
    exact ret_Pq none hx hb hr hlocks dX4_gameAt_24 (by rw [if_neg c11])
  · skip
    refine lv_aload_n hx hb dX4_gameAt_14 rfl (lv_at hl 0 rfl) ?_
    refine va_get (D := E.1) (ci := 4) (C := RX4) (T := TX4) (N := 11) hx hb hts hinX4 hown hE.1 hP 0 hX rfl 0 (by decide) (hts (.fieldLink RX4 11 "StakeHouse" "games" "[LStakeHouse$EvenGame;") (by decide +kernel)) (fun _ h9 => h9) rfl dX4_gameAt_15 ?_
    refine lv_iload_n hx hb dX4_gameAt_18 rfl (lv_at hl 1 rfl) ?_
    have h19 : vp_in v 4 := by
      obtain ⟨i, hi, rfl⟩ := (nI_gm (by omega)).mp c11
      exact vp_in_nI (by omega) (by decide)
    refine va_aldq hx hb hE.1 hP 1 2 hG rfl h19 dX4_gameAt_19 ?_
    refine lv_goto (tgt := 24) hx hb dX4_gameAt_20 (by decide) ?_
    exact ret_Pq _ hx hb hr hlocks dX4_gameAt_24 (by rw [if_pos c11])
set_option maxHeartbeats 4000000 in
set_option maxRecDepth 100000 in
/-- mostStake -/
theorem c_mostStake (l : Launch) (E : eT) (ws : va_W) (k a b : Nat) (d : gT) (hd : gOk d) (hg : ws[k]? = some (a, gmE d b)) (q : Nat) (hq : q < 2 ^ 31) : mPi l yX4_mostStake wsX4_mostStake 1 21 E ws [.ref a, .int (nI q)] (fun r => r = nI (min q (gL d))) := by
  refine mP_of (cc := cX4_mostStake) (maxL := 2) (ret := (some .int)) (by decide) rfl (Nat.le_of_ble_eq_true rfl) ?_
  intro p0 e0 s m below meth c0 ls hx hb hr hml hts hown hlocks hE hP hl
  have hown : s.vm.findClass RX4 = some m.cls := hown
  have hl : lv_has ls 2 [(0, .ref a), (1, .int (nI q))] := hl
  have hinX1 : ∀ w ∈ wsX10, w ∈ wsX4_mostStake := by decide +kernel
  have hinX2 : ∀ w ∈ wsX20, w ∈ wsX4_mostStake := by decide +kernel
  have hinX3 : ∀ w ∈ wsX30, w ∈ wsX4_mostStake := by decide +kernel
  have hL : gL d < 2 ^ 31 := by have := hd.2.2.2.2.2; omega
  refine lv_iload_n hx hb dX4_mostStake_0 rfl (lv_at hl 1 rfl) ?_
  refine lv_aload_n hx hb dX4_mostStake_1 rfl (lv_at hl 0 rfl) ?_
  refine gf_limit hx hb hts hinX1 hinX2 hinX3 hown hE hP hg dX4_mostStake_2 ?_
  refine va_mmin hx hb (hml.trans hl.1.symm) hown (hts (.methodLink RX4 137 Lib.Math.min.name) (by decide +kernel)) (hts (.static Lib.Math.min.name) (by decide +kernel)) (hts (.initialized "java/lang/Math") (by decide +kernel)) (hts (.code Lib.Math.min.name Lib.Math.min.code 2 (some .int)) (by decide +kernel)) (Nat.le_of_ble_eq_true rfl) (Nat.le_of_ble_eq_true rfl) (Nat.zero_le _) (Nat.zero_le _) dX4_mostStake_5 ?_
  refine tp_i (nI_min hq hL) ?_
  exact ret_Pi hx hb hr hlocks dX4_mostStake_8 rfl
set_option maxHeartbeats 4000000 in
set_option maxRecDepth 100000 in
/-- raised -/
theorem c_raised (l : Launch) (E : eT) (ws : va_W) (ad : Nat → Nat) (g hz n : Nat) (mk : Int64) (hX : ws[0]? = some (ad 0, xE ad g hz n mk)) (hg32 : g ≤ 32) (k a b : Nat) (d : gT) (hd : gOk d) (hg : ws[k]? = some (a, gmE d b)) (hgn : ws[k + 1]? = some (b, gnE E d)) (q st : Nat) (hq : q ≤ 32) (hst : st ≤ 32) : mPi l yX4_raised wsX4_raised 1 21 E ws [.ref (ad 0), .ref a, .int (nI q), .int (nI st)] (fun r => r = nI (min g (q + gWin d st))) := by
  refine mP_of (cc := cX4_raised) (maxL := 4) (ret := (some .int)) (by decide) rfl (Nat.le_of_ble_eq_true rfl) ?_
  intro p0 e0 s m below meth c0 ls hx hb hr hml hts hown hlocks hE hP hl
  have hown : s.vm.findClass RX4 = some m.cls := hown
  have hl : lv_has ls 4 [(0, .ref (ad 0)), (1, .ref a), (2, .int (nI q)), (3, .int (nI st))] := hl
  have hinX4 : ∀ w ∈ wsX40, w ∈ wsX4_raised := by decide +kernel
  have hinX1 : ∀ w ∈ wsX10, w ∈ wsX4_raised := by decide +kernel
  have hinX2 : ∀ w ∈ wsX20, w ∈ wsX4_raised := by decide +kernel
  have hinX3 : ∀ w ∈ wsX30, w ∈ wsX4_raised := by decide +kernel
  have hW := gWin_le hd hst
  refine lv_aload_n hx hb dX4_raised_0 rfl (lv_at hl 0 rfl) ?_
  refine va_get (D := E.1) (ci := 4) (C := RX4) (T := TX4) (N := 11) hx hb hts hinX4 hown hE.1 hP 0 hX rfl 7 (by decide) (hts (.fieldLink RX4 42 "StakeHouse" "goal" "I") (by decide +kernel)) (fun _ h9 => h9) rfl dX4_raised_1 ?_
  refine lv_iload_n hx hb dX4_raised_4 rfl (lv_at hl 2 rfl) ?_
  refine lv_aload_n hx hb dX4_raised_5 rfl (lv_at hl 1 rfl) ?_
  refine gf_gains hx hb hts hinX1 hinX2 hinX3 hown hE hP hg dX4_raised_6 ?_
  refine lv_iload_n hx hb dX4_raised_9 rfl (lv_at hl 3 rfl) ?_
  refine va_iald hx hb hE.1 hP (k + 1) 0 hgn rfl (vp_in_nI (by omega) (by decide)) dX4_raised_10 ?_
  refine tp_i (show _ = nI (gWin d st) by rw [nI_clamp (by omega)]) ?_
  refine lv_iadd hx hb dX4_raised_11 ?_
  refine tp_i (nI_add _ _) ?_
  refine va_mmin hx hb (hml.trans hl.1.symm) hown (hts (.methodLink RX4 137 Lib.Math.min.name) (by decide +kernel)) (hts (.static Lib.Math.min.name) (by decide +kernel)) (hts (.initialized "java/lang/Math") (by decide +kernel)) (hts (.code Lib.Math.min.name Lib.Math.min.code 2 (some .int)) (by decide +kernel)) (Nat.le_of_ble_eq_true rfl) (Nat.le_of_ble_eq_true rfl) (Nat.zero_le _) (Nat.zero_le _) dX4_raised_12 ?_
  refine tp_i (nI_min (by omega) (by omega)) ?_
  exact ret_Pi hx hb hr hlocks dX4_raised_15 rfl
set_option maxHeartbeats 4000000 in
set_option maxRecDepth 100000 in
/-- mixed -/
theorem c_mixed (l : Launch) (E : eT) (ws : va_W) (k a b : Nat) (d : gT) (hd : gOk d) (hg : ws[k]? = some (a, gmE d b)) (x y : Nat) : mPl l yX4_mixed wsX4_mixed 0 0 E ws [.ref a, .long (lN x), .long (lN y)] (fun r => r = lN (gC d * x + (16 - gC d) * y)) := by
  refine mP_of (cc := cX4_mixed) (maxL := 5) (ret := (some .long)) (by decide) rfl (Nat.le_of_ble_eq_true rfl) ?_
  intro p0 e0 s m below meth c0 ls hx hb hr hml hts hown hlocks hE hP hl
  have hown : s.vm.findClass RX4 = some m.cls := hown
  have hl : lv_has ls 5 [(0, .ref a), (1, .long (lN x)), (3, .long (lN y))] := hl
  have hinX1 : ∀ w ∈ wsX10, w ∈ wsX4_mixed := by decide +kernel
  have hinX2 : ∀ w ∈ wsX20, w ∈ wsX4_mixed := by decide +kernel
  have hinX3 : ∀ w ∈ wsX30, w ∈ wsX4_mixed := by decide +kernel
  have hC : gC d ≤ 16 := hd.2.1
  refine lv_aload_n hx hb dX4_mixed_0 rfl (lv_at hl 0 rfl) ?_
  refine gf_chance hx hb hts hinX1 hinX2 hinX3 hown hE hP hg dX4_mixed_1 ?_
  refine lv_i2l (v := lN _) hx hb dX4_mixed_4 (nI_l (by omega)) ?_
  refine lv_lload_n hx hb dX4_mixed_5 rfl (lv_at hl 1 rfl) ?_
  refine lv_lmul hx hb dX4_mixed_6 ?_
  refine tp_l (lN_mul _ _) ?_
  refine lv_bipush (v := nI 16) hx hb dX4_mixed_7 (by decide) ?_
  refine lv_aload_n hx hb dX4_mixed_9 rfl (lv_at hl 0 rfl) ?_
  refine gf_chance hx hb hts hinX1 hinX2 hinX3 hown hE hP hg dX4_mixed_10 ?_
  refine lv_isub hx hb dX4_mixed_13 ?_
  refine tp_i (pk_sub hC) ?_
  refine lv_i2l (v := lN _) hx hb dX4_mixed_14 (nI_l (by omega)) ?_
  refine lv_lload_n hx hb dX4_mixed_15 rfl (lv_at hl 2 rfl) ?_
  refine lv_lmul hx hb dX4_mixed_16 ?_
  refine tp_l (lN_mul _ _) ?_
  refine lv_ladd hx hb dX4_mixed_17 ?_
  refine tp_l (lN_add _ _) ?_
  exact ret_Pl hx hb hr hlocks dX4_mixed_18 rfl
set_option maxHeartbeats 4000000 in
set_option maxRecDepth 100000 in
/-- endWorth -/
theorem c_endWorth (l : Launch) (E : eT) (ws : va_W) (ad : Nat → Nat) (g hz n : Nat) (mk : Int64) (hX : ws[0]? = some (ad 0, xE ad g hz n mk)) (hg32 : g ≤ 32) (what q : Nat) (hw : what ≤ 3) (hq : q ≤ 32) : mPl l yX4_endWorth wsX4_endWorth 0 0 E ws [.ref (ad 0), .int (nI what), .int (nI q)] (fun r => r = lN (eW g what q)) := by
  refine mP_of (cc := cX4_endWorth) (maxL := 3) (ret := (some .long)) (by decide) rfl (Nat.le_of_ble_eq_true rfl) ?_
  intro p0 e0 s m below meth c0 ls hx hb hr hml hts hown hlocks hE hP hl
  have hown : s.vm.findClass RX4 = some m.cls := hown
  have hl : lv_has ls 3 [(0, .ref (ad 0)), (1, .int (nI what)), (2, .int (nI q))] := hl
  have hinX4 : ∀ w ∈ wsX40, w ∈ wsX4_endWorth := by decide +kernel
  refine lv_iload_n hx hb dX4_endWorth_0 rfl (lv_at hl 1 rfl) ?_
  rcases (show what = 0 ∨ what = 1 ∨ what = 2 ∨ what = 3 by omega) with rfl | rfl | rfl | rfl
  · skip
    refine lv_tableIn (tgt := 28) hx hb dX4_endWorth_1 (by decide) (by decide) rfl (by decide) ?_
    refine lv_iload_n hx hb dX4_endWorth_28 rfl (lv_at hl 2 rfl) ?_
    refine lv_aload_n hx hb dX4_endWorth_29 rfl (lv_at hl 0 rfl) ?_
    refine va_get (D := E.1) (ci := 4) (C := RX4) (T := TX4) (N := 11) hx hb hts hinX4 hown hE.1 hP 0 hX rfl 7 (by decide) (hts (.fieldLink RX4 42 "StakeHouse" "goal" "I") (by decide +kernel)) (fun _ h9 => h9) rfl dX4_endWorth_30 ?_
    refine n_ne hx hb (by omega) (by omega) 40 dX4_endWorth_33 (by decide) (fun c33 => ?_) (fun c33 => ?_)
    · skip
      refine lv_lconst (v := lN 0) hx hb dX4_endWorth_40 rfl ?_
      exact ret_Pl hx hb hr hlocks dX4_endWorth_41 (show lN 0 = lN (if q = g then 1 else 0) by rw [if_neg (by omega)])
    · skip
      refine lv_lconst (v := lN 1) hx hb dX4_endWorth_36 rfl ?_
      refine lv_goto (tgt := 41) hx hb dX4_endWorth_37 (by decide) ?_
      exact ret_Pl hx hb hr hlocks dX4_endWorth_41 (show lN 1 = lN (if q = g then 1 else 0) by rw [if_pos (by omega)])
  · skip
    refine lv_tableIn (tgt := 42) hx hb dX4_endWorth_1 (by decide) (by decide) rfl (by decide) ?_
    refine lv_iload_n hx hb dX4_endWorth_42 rfl (lv_at hl 2 rfl) ?_
    refine z_ne hx hb (by omega) 50 dX4_endWorth_43 (by decide) (fun c43 => ?_) (fun c43 => ?_)
    · skip
      refine lv_lconst (v := lN 0) hx hb dX4_endWorth_50 rfl ?_
      exact ret_Pl hx hb hr hlocks dX4_endWorth_51 (show lN 0 = lN (if q = 0 then 1 else 0) by rw [if_neg (by omega)])
    · skip
      refine lv_lconst (v := lN 1) hx hb dX4_endWorth_46 rfl ?_
      refine lv_goto (tgt := 51) hx hb dX4_endWorth_47 (by decide) ?_
      exact ret_Pl hx hb hr hlocks dX4_endWorth_51 (show lN 1 = lN (if q = 0 then 1 else 0) by rw [if_pos (by omega)])
  · skip
    refine lv_tableIn (tgt := 52) hx hb dX4_endWorth_1 (by decide) (by decide) rfl (by decide) ?_
    refine lv_iload_n hx hb dX4_endWorth_52 rfl (lv_at hl 2 rfl) ?_
    refine lv_i2l (v := lN _) hx hb dX4_endWorth_53 (nI_l (by omega)) ?_
    exact ret_Pl hx hb hr hlocks dX4_endWorth_54 rfl
  · skip
    refine lv_tableOut (tgt := 55) hx hb dX4_endWorth_1 (Or.inr (by decide)) (by decide) ?_
    refine lv_lconst (v := lN 0) hx hb dX4_endWorth_55 rfl ?_
    exact ret_Pl hx hb hr hlocks dX4_endWorth_56 rfl
