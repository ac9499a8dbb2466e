/-! the charts: rows of the best, kept; best, mean, stakes -/
def chOk (g : Nat) (gd : Nat → gT) (lo cnt what k : Nat) (rv : Nat → Nat → Int64) (c : Nat) : Prop := ∀ i, i < k → ∀ q, q ≤ g → rv (13 * c + i) q = lN (gBst g gd lo cnt what i q)
/-- all charts hold what they say -/
def chV (g : Nat) (gd : Nat → gT) (cf ce ck : Nat → Nat) (rv : Nat → Nat → Int64) : Prop := ∀ c, c < 3 → cf c ≤ 4 ∧ ce c ≤ 4 ∧ ck c ≤ 13 ∧ chOk g gd (cf c) (ce c - cf c) (if c = 1 then 2 else 0) (ck c) rv c
theorem b49 {t : Nat} (h : t ≤ 11) : 32 * 16 ^ t ≤ 2 ^ 49 := by
  have := pow16_le h
  have e : 32 * 16 ^ 11 = 2 ^ 49 := by decide
  omega
theorem b53 {t : Nat} (h : t ≤ 12) : 32 * 16 ^ t ≤ 2 ^ 53 := by
  have := pow16_le h
  have e : 32 * 16 ^ 12 = 2 ^ 53 := by decide
  omega
set_option maxHeartbeats 4000000 in
set_option maxRecDepth 100000 in
/-- chartRow -/
theorem c_chartRow (l : Launch) (E : eT) (ad : Nat → Nat) (g hz n : Nat) (mk : Int64) (td : Nat → Int32) (gr : Nat → Option Nat) (cf ce ck : Nat → Nat) (rv : Nat → Nat → Int64) (st : Nat → Int32) (wo : Nat → Nat → Int64) (rest : va_W) (hg2 : 2 ≤ g) (hg32 : g ≤ 32) (hn : n ≤ 4) (pl ga gb : Nat → Nat) (gd : Nat → gT) (hGA : gAll E rest gr n pl ga gb gd) (c : Nat) (hc : c < 3) (lo cnt : Nat) (hlo : cf c = lo) (hhi : ce c = lo + cnt) (hlc : lo + cnt ≤ n) (hck : ck c ≤ 13) (hch : chOk g gd lo cnt (if c = 1 then 2 else 0) (ck c) rv c) (t : Nat) (ht : t ≤ 12) : mWr l yX4_chartRow wsX4_chartRow 4 110 0 0 E (wX E ad g hz n mk td gr cf ce ck rv st wo ++ rest) [.ref (ad 0), .ref (ad (3 + c)), .int (nI t)] (fun u : Nat × va_W => u.1 = ad (13 + (13 * c + t)) ∧ ∃ rv1 : Nat → Nat → Int64, (∀ j, (j < 13 * c ∨ 13 * c + 13 ≤ j) → rv1 j = rv j) ∧ chOk g gd lo cnt (if c = 1 then 2 else 0) (max (ck c) (t + 1)) rv1 c ∧ u.2 = wX E ad g hz n mk td gr cf ce (va_up ck c (max (ck c) (t + 1))) rv1 st wo ++ rest) := by
  intro sz
  refine mW_of (cc := cX4_chartRow) (maxL := 5) (ret := (some (.array .long))) (Qc := fun sz => va_Qr (fun u : Nat × va_W => u.1 = ad (13 + (13 * c + t)) ∧ ∃ rv1 : Nat → Nat → Int64, (∀ j, (j < 13 * c ∨ 13 * c + 13 ≤ j) → rv1 j = rv j) ∧ chOk g gd lo cnt (if c = 1 then 2 else 0) (max (ck c) (t + 1)) rv1 c ∧ u.2 = wX E ad g hz n mk td gr cf ce (va_up ck c (max (ck c) (t + 1))) rv1 st wo ++ rest) (fun u a t => u.1 = a ∧ eAt E (va_A (wX E ad g hz n mk td gr cf ce ck rv st wo ++ rest) sz) u.2 t) (va_A (wX E ad g hz n mk td gr cf ce ck rv st wo ++ rest) sz)) (by decide) rfl (Nat.le_of_ble_eq_true rfl) ?_
  intro p0 e0 s m below meth c0 ls hx hb hr hml hts hown hlocks hin hE hP hD hl
  have hS : va_S (va_A (wX E ad g hz n mk td gr cf ce ck rv st wo ++ rest) s.heap.size) s.heap s.heap [] := va_S.rf
  have hA : ∀ q, s.heap.size ≤ q → (va_A (wX E ad g hz n mk td gr cf ce ck rv st wo ++ rest) s.heap.size) q := fun q h => Or.inr h
  have hown : s.vm.findClass RX4 = some m.cls := hown
  have hl : lv_has ls 5 [(0, .ref (ad 0)), (1, .ref (ad (3 + c))), (2, .int (nI t))] := hl
  have hinX4 : ∀ w ∈ wsX40, w ∈ wsX4_chartRow := by decide +kernel
  have hinX0 : ∀ w ∈ wsX00, w ∈ wsX4_chartRow := by decide +kernel
  subst hlo
  have hOk : ∀ i, i < cnt → gOk (gd (cf c + i)) := fun i hi => (hGA _ (by omega)).2.2.2
  refine lv_aload_n hx hb dX4_chartRow_0 rfl (lv_at hl 1 rfl) ?_
  refine va_getN (D := E.1) (ci := 0) (C := RX0) (T := TX0) (N := 5) hx hb hts hinX0 hown hE.1 hP (3 + c) (wX_C hc) rfl 4 (by decide) (va_Nw.use rfl (hE.2 (.fieldLinkNest RX4 151 RX0 "known" "I" RX4) (by decide +kernel))) (fun _ h9 => h9) rfl dX4_chartRow_1 ?_
  refine st_i1 hx hb 3 dX4_chartRow_4 rfl hl (by decide) rfl (fun ls hl => ?_)
  refine wLoopH (max (ck c) (t + 1)) (ck c) (fun i H locs ls => ck c ≤ i ∧ ∃ rv1 : Nat → Nat → Int64, (∀ j, (j < 13 * c ∨ 13 * c + 13 ≤ j) → rv1 j = rv j) ∧ chOk g gd (cf c) cnt (if c = 1 then 2 else 0) i rv1 c ∧ va_P E.1 vwCl (wX E ad g hz n mk td gr cf ce (va_up ck c i) rv1 st wo ++ rest) H ∧ va_D (va_A (wX E ad g hz n mk td gr cf ce ck rv st wo ++ rest) s.heap.size) (wX E ad g hz n mk td gr cf ce (va_up ck c i) rv1 st wo ++ rest) ∧ va_S (va_A (wX E ad g hz n mk td gr cf ce ck rv st wo ++ rest) s.heap.size) s.heap H locs ∧ lv_has ls 5 [(0, .ref (ad 0)), (1, .ref (ad (3 + c))), (2, .int (nI t)), (3, .int (nI i))]) (Nat.le_max_left _ _) (fun i H locs ls hi_i hI ih => ?_) (fun H locs ls hI => ?_) ⟨Nat.le_refl _, rv, fun _ _ => rfl, hch, (by rw [vu_self]; exact hP), (by rw [vu_self]; exact hD), hS, hl⟩
  · skip
    obtain ⟨hki, rv1, hr1, hrow, hP, hD, hS, hl⟩ := hI
    refine lv_iload_n hx hb dX4_chartRow_5 rfl (lv_at hl 3 rfl) ?_
    refine lv_iload_n hx hb dX4_chartRow_6 rfl (lv_at hl 2 rfl) ?_
    refine n_gt hx hb (by omega) (by omega) 83 dX4_chartRow_7 (by decide) (fun c7 => ?_) (fun c7 => ?_)
    · skip
      exact absurd c7 (by omega)
    · skip
      refine lv_iconst (v := nI 0) hx hb dX4_chartRow_10 (by decide) ?_
      refine st_i2 hx hb 4 dX4_chartRow_11 hl (by decide) rfl (fun ls hl => ?_)
      refine wLoopH (g + 1) 0 (fun k H locs ls => ∃ rv2 : Nat → Nat → Int64, (∀ j, j ≠ 13 * c + i → rv2 j = rv1 j) ∧ (∀ q, q < k → rv2 (13 * c + i) q = lN (gBst g gd (cf c) cnt (if c = 1 then 2 else 0) i q)) ∧ va_P E.1 vwCl (wX E ad g hz n mk td gr cf ce (va_up ck c i) rv2 st wo ++ rest) H ∧ va_D (va_A (wX E ad g hz n mk td gr cf ce ck rv st wo ++ rest) s.heap.size) (wX E ad g hz n mk td gr cf ce (va_up ck c i) rv2 st wo ++ rest) ∧ va_S (va_A (wX E ad g hz n mk td gr cf ce ck rv st wo ++ rest) s.heap.size) s.heap H locs ∧ lv_has ls 5 [(0, .ref (ad 0)), (1, .ref (ad (3 + c))), (2, .int (nI t)), (3, .int (nI i)), (4, .int (nI k))]) (Nat.zero_le _) (fun k H locs ls hi_k hI ihk => ?_) (fun H locs ls hI => ?_) ⟨rv1, fun _ _ => rfl, fun q hq => absurd hq (by omega), hP, hD, hS, hl⟩
      · skip
        obtain ⟨rv2, hr2, hk2, hP, hD, hS, hl⟩ := hI
        refine lv_iload hx hb dX4_chartRow_13 (lv_at hl 4 rfl) ?_
        refine lv_aload_n hx hb dX4_chartRow_15 rfl (lv_at hl 0 rfl) ?_
        refine va_get (D := E.1) (ci := 4) (C := RX4) (T := TX4) (N := 11) hx hb hts hinX4 hown hE.1 hP 0 rfl rfl 7 (by decide) (hts (.fieldLink RX4 42 "StakeHouse" "goal" "I") (by decide +kernel)) (fun _ h9 => h9) rfl dX4_chartRow_16 ?_
        refine n_gt hx hb (by omega) (by omega) 70 dX4_chartRow_19 (by decide) (fun c19 => ?_) (fun c19 => ?_)
        · skip
          exact absurd c19 (by omega)
        · skip
          refine lv_aload_n hx hb dX4_chartRow_22 rfl (lv_at hl 1 rfl) ?_
          refine va_getN (D := E.1) (ci := 0) (C := RX0) (T := TX0) (N := 5) hx hb hts hinX0 hown hE.1 hP (3 + c) (wX_C hc) rfl 1 (by decide) (va_Nw.use rfl (hE.2 (.fieldLinkNest RX4 154 RX0 "rows" "[[J" RX4) (by decide +kernel))) (fun _ h9 => h9) rfl dX4_chartRow_23 ?_
          refine lv_iload_n hx hb dX4_chartRow_26 rfl (lv_at hl 3 rfl) ?_
          refine va_ald2 hx hb hE.1 hP (10 + c) 3 (wX_O hc) rfl (vp_in_nI (by omega) (by decide)) dX4_chartRow_27 ?_
          refine tp_r (xR_at (by omega)) ?_
          refine lv_iload hx hb dX4_chartRow_28 (lv_at hl 4 rfl) ?_
          refine lv_iload_n hx hb dX4_chartRow_30 rfl (lv_at hl 3 rfl) ?_
          refine lv_iconst (v := nI 1) hx hb dX4_chartRow_31 (by decide) ?_
          refine n_ge hx hb (by omega) (by omega) 48 dX4_chartRow_32 (by decide) (fun c32 => ?_) (fun c32 => ?_)
          · skip
            obtain ⟨z, rfl⟩ : ∃ z, i = z + 1 := ⟨i - 1, by omega⟩
            refine lv_aload_n hx hb dX4_chartRow_48 rfl (lv_at hl 0 rfl) ?_
            refine lv_aload_n hx hb dX4_chartRow_49 rfl (lv_at hl 1 rfl) ?_
            refine lv_aload_n hx hb dX4_chartRow_50 rfl (lv_at hl 1 rfl) ?_
            refine va_getN (D := E.1) (ci := 0) (C := RX0) (T := TX0) (N := 5) hx hb hts hinX0 hown hE.1 hP (3 + c) (wX_C hc) rfl 1 (by decide) (va_Nw.use rfl (hE.2 (.fieldLinkNest RX4 154 RX0 "rows" "[[J" RX4) (by decide +kernel))) (fun _ h9 => h9) rfl dX4_chartRow_51 ?_
            refine lv_iload_n hx hb dX4_chartRow_54 rfl (lv_at hl 3 rfl) ?_
            refine lv_iconst (v := nI 1) hx hb dX4_chartRow_55 (by decide) ?_
            refine lv_isub hx hb dX4_chartRow_56 ?_
            refine tp_i (show _ = nI z from nI_pred z) ?_
            refine va_ald2 hx hb hE.1 hP (10 + c) 3 (wX_O hc) rfl (vp_in_nI (by omega) (by decide)) dX4_chartRow_57 ?_
            refine tp_r (xR_at (by omega)) ?_
            refine lv_iload hx hb dX4_chartRow_58 (lv_at hl 4 rfl) ?_
            refine vp_callSl (W.runV ⟨hx, hb, hml, hown, hts⟩ (c_greatestTurn l E _ ad g hz n mk rfl hg2 hg32 hn gr rfl (fun i => 52 + pl i) ga gb gd (gAll_of hGA) (3 + c) (ad (3 + c)) (if c = 1 then 2 else 0) (ad (10 + c)) _ (cf c) cnt hlc (by rw [← hhi]; exact wX_C hc) (13 + (13 * c + z)) (ad (13 + (13 * c + z))) (rv2 (13 * c + z)) (gBst g gd (cf c) cnt (if c = 1 then 2 else 0) z) (wX_R (by omega)) (fun j hj => by rw [hr2 _ (by omega)]; exact hrow z (by omega) j hj) (fun j hj => Nat.le_trans (gBst_le hg32 hOk z j hj) (b49 (by omega))) k (by omega)) (cwV 3 hts gX4_chartRow_X4_greatestTurn rfl rfl rfl (by decide +kernel) ⟨Nat.le_of_ble_eq_true rfl, Nat.le_of_ble_eq_true rfl⟩) (ePu_V hP hE (ci := 4) (k := 0) rfl rfl) rfl rfl hl.1 rfl (lv_room (Nat.le_of_ble_eq_true rfl)) dX4_chartRow_60 ⟨Nat.zero_le _, Nat.zero_le _⟩) (fun r9 hr9 => ?_)
            subst hr9
            refine va_last hx hb hE.1 hP hD hS (13 + (13 * c + (z + 1))) 1 (wX_R (by omega)) rfl (vp_in_nI (by omega) (by decide)) dX4_chartRow_63 (fun H locs hP hD hS => ?_)
            rw [wX_setR (by omega), nI_clamp (by omega)] at hP hD
            refine st_inc hx hb 4 dX4_chartRow_64 hl rfl (nI_1 _) (by decide) rfl (fun ls hl => ?_)
            refine lv_goto (tgt := 13) hx hb dX4_chartRow_67 (by decide) ?_
            refine ihk _ _ _ ⟨_, fun j hj => (vu_no hj).trans (hr2 j hj), fun q hq => ?_, hP, hD, hS, hl⟩
            rw [vu_at]
            by_cases hqk : q = k
            · subst hqk; exact pk_uLs
            · rw [pk_uLn hqk]; exact hk2 q (by omega)
          · skip
            obtain rfl : i = 0 := by omega
            refine lv_aload_n hx hb dX4_chartRow_35 rfl (lv_at hl 0 rfl) ?_
            refine lv_aload_n hx hb dX4_chartRow_36 rfl (lv_at hl 1 rfl) ?_
            refine va_getN (D := E.1) (ci := 0) (C := RX0) (T := TX0) (N := 5) hx hb hts hinX0 hown hE.1 hP (3 + c) (wX_C hc) rfl 0 (by decide) (va_Nw.use rfl (hE.2 (.fieldLinkNest RX4 157 RX0 "what" "I" RX4) (by decide +kernel))) (fun _ h9 => h9) rfl dX4_chartRow_37 ?_
            refine lv_iload hx hb dX4_chartRow_40 (lv_at hl 4 rfl) ?_
            refine vp_callSl (W.runV ⟨hx, hb, hml, hown, hts⟩ (c_endWorth l E _ ad g hz n mk rfl hg32 (if c = 1 then 2 else 0) k (by split <;> omega) (by omega)) (cwV 2 hts gX4_chartRow_X4_endWorth rfl rfl rfl (by decide +kernel) ⟨Nat.le_of_ble_eq_true rfl, Nat.le_of_ble_eq_true rfl⟩) (ePu_V hP hE (ci := 4) (k := 0) rfl rfl) rfl rfl hl.1 rfl (lv_room (Nat.le_of_ble_eq_true rfl)) dX4_chartRow_42 ⟨Nat.zero_le _, Nat.zero_le _⟩) (fun r9 hr9 => ?_)
            subst hr9
            refine lv_goto (tgt := 63) hx hb dX4_chartRow_45 (by decide) ?_
            refine va_last hx hb hE.1 hP hD hS (13 + (13 * c + 0)) 1 (wX_R (by omega)) rfl (vp_in_nI (by omega) (by decide)) dX4_chartRow_63 (fun H locs hP hD hS => ?_)
            rw [wX_setR (by omega), nI_clamp (by omega)] at hP hD
            refine st_inc hx hb 4 dX4_chartRow_64 hl rfl (nI_1 _) (by decide) rfl (fun ls hl => ?_)
            refine lv_goto (tgt := 13) hx hb dX4_chartRow_67 (by decide) ?_
            refine ihk _ _ _ ⟨_, fun j hj => (vu_no hj).trans (hr2 j hj), fun q hq => ?_, hP, hD, hS, hl⟩
            rw [vu_at]
            by_cases hqk : q = k
            · subst hqk; exact pk_uLs
            · rw [pk_uLn hqk]; exact hk2 q (by omega)
      · skip
        obtain ⟨rv2, hr2, hk2, hP, hD, hS, hl⟩ := hI
        refine lv_iload hx hb dX4_chartRow_13 (lv_at hl 4 rfl) ?_
        refine lv_aload_n hx hb dX4_chartRow_15 rfl (lv_at hl 0 rfl) ?_
        refine va_get (D := E.1) (ci := 4) (C := RX4) (T := TX4) (N := 11) hx hb hts hinX4 hown hE.1 hP 0 rfl rfl 7 (by decide) (hts (.fieldLink RX4 42 "StakeHouse" "goal" "I") (by decide +kernel)) (fun _ h9 => h9) rfl dX4_chartRow_16 ?_
        refine n_gt hx hb (by omega) (by omega) 70 dX4_chartRow_19 (by decide) (fun c19 => ?_) (fun c19 => ?_)
        · skip
          refine lv_aload_n hx hb dX4_chartRow_70 rfl (lv_at hl 1 rfl) ?_
          refine lv_iload_n hx hb dX4_chartRow_71 rfl (lv_at hl 3 rfl) ?_
          refine lv_iconst (v := nI 1) hx hb dX4_chartRow_72 (by decide) ?_
          refine lv_iadd hx hb dX4_chartRow_73 ?_
          refine tp_i (nI_add _ _) ?_
          refine va_putN (D := E.1) (ci := 0) (ty := .int) (C := RX0) (T := TX0) (N := 5) hx hb hts hinX0 tyX0 tyX0_ok nmX0 hown hE.1 hP hD hS (3 + c) (wX_C hc) rfl 4 (by decide) (va_Nw.use rfl (hE.2 (.fieldLinkNest RX4 151 RX0 "known" "I" RX4) (by decide +kernel))) (fun _ h9 => h9) rfl (by decide +kernel) rfl rfl (Nat.le_of_ble_eq_true rfl) dX4_chartRow_74 (fun H locs hP hD hS => ?_)
          have hP : va_P E.1 vwCl (wX E ad g hz n mk td gr cf ce (va_up ck c (i + 1)) rv2 st wo ++ rest) H := by rw [← bx_uu ck c i (i + 1), ← wX_setCk hc]; exact hP
          have hD : va_D (va_A (wX E ad g hz n mk td gr cf ce ck rv st wo ++ rest) s.heap.size) (wX E ad g hz n mk td gr cf ce (va_up ck c (i + 1)) rv2 st wo ++ rest) := by rw [← bx_uu ck c i (i + 1), ← wX_setCk hc]; exact hD
          refine st_inc hx hb 3 dX4_chartRow_77 hl rfl (nI_1 _) (by decide) rfl (fun ls hl => ?_)
          refine lv_goto (tgt := 5) hx hb dX4_chartRow_80 (by decide) ?_
          refine ih _ _ _ ⟨by omega, rv2, fun j hj => (hr2 j (by omega)).trans (hr1 j hj), fun k hk q hq => ?_, hP, hD, hS, lv_sub hl [0, 1, 2, 3] rfl⟩
          by_cases hki : k = i
          · subst hki; exact hk2 q (by omega)
          · rw [hr2 _ (by omega)]; exact hrow k (by omega) q hq
        · skip
          exact absurd c19 (by omega)
  · skip
    obtain ⟨hki, rv1, hr1, hrow, hP, hD, hS, hl⟩ := hI
    refine lv_iload_n hx hb dX4_chartRow_5 rfl (lv_at hl 3 rfl) ?_
    refine lv_iload_n hx hb dX4_chartRow_6 rfl (lv_at hl 2 rfl) ?_
    refine n_gt hx hb (by omega) (by omega) 83 dX4_chartRow_7 (by decide) (fun c7 => ?_) (fun c7 => ?_)
    · skip
      refine lv_aload_n hx hb dX4_chartRow_83 rfl (lv_at hl 1 rfl) ?_
      refine va_getN (D := E.1) (ci := 0) (C := RX0) (T := TX0) (N := 5) hx hb hts hinX0 hown hE.1 hP (3 + c) (wX_C hc) rfl 1 (by decide) (va_Nw.use rfl (hE.2 (.fieldLinkNest RX4 154 RX0 "rows" "[[J" RX4) (by decide +kernel))) (fun _ h9 => h9) rfl dX4_chartRow_84 ?_
      refine lv_iload_n hx hb dX4_chartRow_87 rfl (lv_at hl 2 rfl) ?_
      refine va_ald2 hx hb hE.1 hP (10 + c) 3 (wX_O hc) rfl (vp_in_nI (by omega) (by decide)) dX4_chartRow_88 ?_
      refine tp_r (xR_at (by omega)) ?_
      exact ret_Wr hx hb hr (Or.inr ⟨_, rfl⟩) hlocks dX4_chartRow_89 hP hD hS ⟨rfl, rv1, hr1, hrow, rfl⟩
    · skip
      exact absurd c7 (by omega)
/-- behind cover: the charts still hold what they say, and this one is of the games lo .. lo + cnt -/
theorem cov_of {E : eT} {ad : Nat → Nat} {g hz n : Nat} {mk : Int64} {td : Nat → Int32} {gr : Nat → Option Nat} {cf ce ck : Nat → Nat} {rv : Nat → Nat → Int64} {st : Nat → Int32} {wo : Nat → Nat → Int64} {rest ws1 : va_W} {gd : Nat → gT} {c lo cnt : Nat} (hc : c < 3) (hl4 : lo + cnt ≤ 4) (hV : chV g gd cf ce ck rv)
    (h : (lo = cf c ∧ lo + cnt = ce c ∧ ws1 = wX E ad g hz n mk td gr cf ce ck rv st wo ++ rest) ∨ (¬ (lo = cf c ∧ lo + cnt = ce c) ∧ ws1 = (wX E ad g hz n mk td gr cf ce ck rv st wo ++ rest).set (3 + c) (ad (3 + c), .inr (0, [.int (nI (if c = 1 then 2 else 0)), .ref (ad (10 + c)), .int (nI lo), .int (nI (lo + cnt)), .int (nI 0)])))) :
    ∃ cf1 ce1 ck1 : Nat → Nat, chV g gd cf1 ce1 ck1 rv ∧ cf1 c = lo ∧ ce1 c = lo + cnt ∧ ws1 = wX E ad g hz n mk td gr cf1 ce1 ck1 rv st wo ++ rest := by
  rcases h with ⟨h1, h2, rfl⟩ | ⟨-, rfl⟩
  · exact ⟨cf, ce, ck, hV, h1.symm, h2.symm, rfl⟩
  · refine ⟨_, _, _, ?_, vu_at _ _ _, vu_at _ _ _, wX_setC hc⟩
    intro c' hc'
    by_cases e : c' = c
    · subst e
      rw [vu_at, vu_at, vu_at]
      exact ⟨by omega, hl4, by omega, fun i hi => absurd hi (by omega)⟩
    · rw [vu_no e, vu_no e, vu_no e]
      exact hV c' hc'
theorem chV_row {g : Nat} {gd : Nat → gT} {cf ce ck : Nat → Nat} {rv rv1 : Nat → Nat → Int64} {c lo cnt k : Nat} (hV : chV g gd cf ce ck rv) (hlo : cf c = lo) (hhi : ce c = lo + cnt) (hk : k ≤ 13) (h1 : ∀ j, (j < 13 * c ∨ 13 * c + 13 ≤ j) → rv1 j = rv j) (h2 : chOk g gd lo cnt (if c = 1 then 2 else 0) k rv1 c) : chV g gd cf ce (va_up ck c k) rv1 := by
  intro c' hc'
  obtain ⟨a1, a2, a3, a4⟩ := hV c' hc'
  by_cases e : c' = c
  · subst e
    rw [vu_at, hhi, hlo, show lo + cnt - lo = cnt by omega]
    exact ⟨by omega, by omega, hk, h2⟩
  · rw [vu_no e]
    refine ⟨a1, a2, a3, fun i hi q hq => ?_⟩
    rw [h1 _ (by omega)]
    exact a4 i hi q hq
/-- best's and mean's answer -/
def bst_of (g hz n : Nat) (gd : Nat → gT) (what : Nat) (qv tv : Int32) (r : Int64) : Prop := (∃ q t : Nat, qv = nI q ∧ tv = nI t ∧ q ≤ g ∧ t ≤ hz ∧ ((n = 0 ∧ r = -2) ∨ (1 ≤ n ∧ r = lN (gBst g gd 0 n what t q)))) ∨ ((¬ ((nI 0 ≤ qv ∧ qv ≤ nI g) ∧ nI 0 ≤ tv ∧ tv ≤ nI hz)) ∧ r = -1)
set_option maxHeartbeats 4000000 in
set_option maxRecDepth 100000 in
/-- greatestFrom -/
theorem c_greatestFrom (l : Launch) (E : eT) (ad : Nat → Nat) (g hz n : Nat) (mk : Int64) (td : Nat → Int32) (gr : Nat → Option Nat) (cf ce ck : Nat → Nat) (rv : Nat → Nat → Int64) (st : Nat → Int32) (wo : Nat → Nat → Int64) (rest : va_W) (hg2 : 2 ≤ g) (hg32 : g ≤ 32) (hhz : hz ≤ 12) (hn : n ≤ 4) (pl ga gb : Nat → Nat) (gd : Nat → gT) (hGA : gAll E rest gr n pl ga gb gd) (hV : chV g gd cf ce ck rv) (c : Nat) (hc : c < 3) (qv tv : Int32) : mWl l yX4_greatestFrom wsX4_greatestFrom 5 140 0 0 E (wX E ad g hz n mk td gr cf ce ck rv st wo ++ rest) [.ref (ad 0), .ref (ad (3 + c)), .int qv, .int tv] (fun r ws1 => bst_of g hz n gd (if c = 1 then 2 else 0) qv tv r ∧ ∃ (cf1 ce1 ck1 : Nat → Nat) (rv1 : Nat → Nat → Int64), chV g gd cf1 ce1 ck1 rv1 ∧ ws1 = wX E ad g hz n mk td gr cf1 ce1 ck1 rv1 st wo ++ rest) := by
  intro sz
  refine mW_of (cc := cX4_greatestFrom) (maxL := 4) (ret := (some .long)) (Qc := fun sz => va_Ql (fun r ws1 => bst_of g hz n gd (if c = 1 then 2 else 0) qv tv r ∧ ∃ (cf1 ce1 ck1 : Nat → Nat) (rv1 : Nat → Nat → Int64), chV g gd cf1 ce1 ck1 rv1 ∧ ws1 = wX E ad g hz n mk td gr cf1 ce1 ck1 rv1 st wo ++ rest) (eAt E (va_A (wX E ad g hz n mk td gr cf ce ck rv st wo ++ rest) sz)) (va_A (wX E ad g hz n mk td gr cf ce ck rv st wo ++ rest) sz)) (by decide) rfl (Nat.le_of_ble_eq_true rfl) ?_
  intro p0 e0 s m below meth c0 ls hx hb hr hml hts hown hlocks hin hE hP hD hl
  have hS : va_S (va_A (wX E ad g hz n mk td gr cf ce ck rv st wo ++ rest) s.heap.size) s.heap s.heap [] := va_S.rf
  have hA : ∀ q, s.heap.size ≤ q → (va_A (wX E ad g hz n mk td gr cf ce ck rv st wo ++ rest) s.heap.size) q := fun q h => Or.inr h
  have hown : s.vm.findClass RX4 = some m.cls := hown
  have hl : lv_has ls 4 [(0, .ref (ad 0)), (1, .ref (ad (3 + c))), (2, .int qv), (3, .int tv)] := hl
  have hinX4 : ∀ w ∈ wsX40, w ∈ wsX4_greatestFrom := by decide +kernel
  refine lv_aload_n hx hb dX4_greatestFrom_0 rfl (lv_at hl 0 rfl) ?_
  refine lv_iload_n hx hb dX4_greatestFrom_1 rfl (lv_at hl 2 rfl) ?_
  refine lv_iload_n hx hb dX4_greatestFrom_2 rfl (lv_at hl 3 rfl) ?_
  refine vp_callSi (W.runV ⟨hx, hb, hml, hown, hts⟩ (c_isSpot l E _ ad g hz n mk rfl _ _) (cwV 2 hts gX4_greatestFrom_X4_isSpot rfl rfl rfl (by decide +kernel) ⟨Nat.le_of_ble_eq_true rfl, Nat.le_of_ble_eq_true rfl⟩) (ePu_V hP hE (ci := 4) (k := 0) rfl rfl) rfl rfl hl.1 rfl (lv_room (Nat.le_of_ble_eq_true rfl)) dX4_greatestFrom_3 ⟨Nat.zero_le _, Nat.zero_le _⟩) (fun r9 hr9 => ?_)
  subst hr9
  refine q_ne hx hb 13 dX4_greatestFrom_6 (by decide) (fun c6 => ?_) (fun c6 => ?_)
  · skip
    obtain ⟨⟨hq1, hq2⟩, ht1, ht2⟩ := c6
    obtain ⟨q, -, hq, rfl⟩ := nI_rng (by omega) ⟨hq1, hq2⟩ (by decide)
    obtain ⟨t, -, ht, rfl⟩ := nI_rng (by omega) ⟨ht1, ht2⟩ (by decide)
    refine lv_aload_n hx hb dX4_greatestFrom_13 rfl (lv_at hl 0 rfl) ?_
    refine va_get (D := E.1) (ci := 4) (C := RX4) (T := TX4) (N := 11) hx hb hts hinX4 hown hE.1 hP 0 rfl rfl 9 (by decide) (hts (.fieldLink RX4 49 "StakeHouse" "held" "I") (by decide +kernel)) (fun _ h9 => h9) rfl dX4_greatestFrom_14 ?_
    refine lv_iconst (v := nI 1) hx hb dX4_greatestFrom_17 (by decide) ?_
    refine n_ge hx hb (by omega) (by omega) 25 dX4_greatestFrom_18 (by decide) (fun c18 => ?_) (fun c18 => ?_)
    · skip
      refine lv_aload_n hx hb dX4_greatestFrom_25 rfl (lv_at hl 1 rfl) ?_
      refine lv_iconst (v := nI 0) hx hb dX4_greatestFrom_26 (by decide) ?_
      refine lv_aload_n hx hb dX4_greatestFrom_27 rfl (lv_at hl 0 rfl) ?_
      refine va_get (D := E.1) (ci := 4) (C := RX4) (T := TX4) (N := 11) hx hb hts hinX4 hown hE.1 hP 0 rfl rfl 9 (by decide) (hts (.fieldLink RX4 49 "StakeHouse" "held" "I") (by decide +kernel)) (fun _ h9 => h9) rfl dX4_greatestFrom_28 ?_
      refine cW_v (va_runV ⟨hx, hb, hml, hown, hts⟩ (c_cover l E _ (3 + c) (ad (3 + c)) (if c = 1 then 2 else 0) (ad (10 + c)) (cf c) (ce c) (ck c) 0 n (by have := (hV c hc).1; omega) (by have := (hV c hc).2.1; omega) (by decide) (by omega) (wX_C hc) _) (cwV 2 hts gX4_greatestFrom_X0_cover rfl rfl rfl (by decide +kernel) ⟨Nat.le_of_ble_eq_true rfl, Nat.le_of_ble_eq_true rfl⟩) (ePw_V hP hD hE (ci := 0) (k := (3 + c)) rfl (wX_C hc)) rfl rfl hl.1 rfl (lv_room (Nat.le_of_ble_eq_true rfl)) dX4_greatestFrom_31 ⟨Nat.zero_le _, Nat.zero_le _⟩) hS hD hA (fun ws9 H locs hr9 hP hD hS => ?_)
      obtain ⟨cf1, ce1, ck1, hV1, hlo, hhi, rfl⟩ := cov_of (lo := 0) (cnt := n) hc (by omega) hV (by rw [Nat.zero_add]; exact hr9)
      refine lv_aload_n hx hb dX4_greatestFrom_34 rfl (lv_at hl 0 rfl) ?_
      refine lv_aload_n hx hb dX4_greatestFrom_35 rfl (lv_at hl 1 rfl) ?_
      refine lv_iload_n hx hb dX4_greatestFrom_36 rfl (lv_at hl 3 rfl) ?_
      refine cW_r (va_runV ⟨hx, hb, hml, hown, hts⟩ (c_chartRow l E ad g hz n mk td gr cf1 ce1 ck1 rv st wo rest hg2 hg32 hn pl ga gb gd hGA c hc 0 n hlo hhi (by omega) (hV1 c hc).2.2.1 (by have := (hV1 c hc).2.2.2; rw [hhi, hlo, Nat.zero_add] at this; exact this) t (by omega) _) (cwV 2 hts gX4_greatestFrom_X4_chartRow rfl rfl rfl (by decide +kernel) ⟨Nat.le_of_ble_eq_true rfl, Nat.le_of_ble_eq_true rfl⟩) (ePw_V hP hD hE (ci := 4) (k := 0) rfl rfl) rfl rfl hl.1 rfl (lv_room (Nat.le_of_ble_eq_true rfl)) dX4_greatestFrom_37 ⟨Nat.zero_le _, Nat.zero_le _⟩) hS hD hA (fun r9 ws9 H locs hr9 hP hD hS => ?_)
      obtain ⟨rfl, rv1, hr1, hrow, rfl⟩ := hr9
      refine lv_iload_n hx hb dX4_greatestFrom_40 rfl (lv_at hl 2 rfl) ?_
      refine va_lald hx hb hE.1 hP (13 + (13 * c + t)) 1 (wX_R (by omega)) rfl (vp_in_nI (by omega) (by decide)) dX4_greatestFrom_41 ?_
      refine tp_l (show _ = lN (gBst g gd 0 n (if c = 1 then 2 else 0) t q) by rw [nI_clamp (by omega)]; exact hrow t (by omega) q hq) ?_
      exact ret_Wl hx hb hr hlocks dX4_greatestFrom_42 hP hD hS ⟨Or.inl ⟨q, t, rfl, rfl, hq, ht, Or.inr ⟨c18, rfl⟩⟩, cf1, ce1, _, rv1, chV_row hV1 hlo hhi (by have := (hV1 c hc).2.2.1; omega) hr1 hrow, rfl⟩
    · skip
      refine lv_ldc2 (v := -2) hx hb hown (hts (.constantLong RX4 149 (-2)) (by decide +kernel)) dX4_greatestFrom_21 ?_
      exact ret_Wl hx hb hr hlocks dX4_greatestFrom_24 hP hD hS ⟨Or.inl ⟨q, t, rfl, rfl, hq, ht, Or.inl ⟨by omega, rfl⟩⟩, cf, ce, ck, rv, hV, rfl⟩
  · skip
    refine lv_ldc2 (v := -1) hx hb hown (hts (.constantLong RX4 93 (-1)) (by decide +kernel)) dX4_greatestFrom_9 ?_
    exact ret_Wl hx hb hr hlocks dX4_greatestFrom_12 hP hD hS ⟨Or.inr ⟨c6, rfl⟩, cf, ce, ck, rv, hV, rfl⟩
set_option maxHeartbeats 4000000 in
set_option maxRecDepth 100000 in
/-- best -/
theorem c_best (l : Launch) (E : eT) (ad : Nat → Nat) (g hz n : Nat) (mk : Int64) (td : Nat → Int32) (gr : Nat → Option Nat) (cf ce ck : Nat → Nat) (rv : Nat → Nat → Int64) (st : Nat → Int32) (wo : Nat → Nat → Int64) (rest : va_W) (hg2 : 2 ≤ g) (hg32 : g ≤ 32) (hhz : hz ≤ 12) (hn : n ≤ 4) (pl ga gb : Nat → Nat) (gd : Nat → gT) (hGA : gAll E rest gr n pl ga gb gd) (hV : chV g gd cf ce ck rv) (qv tv : Int32) : mWl l yX4_best wsX4_best 6 170 0 0 E (wX E ad g hz n mk td gr cf ce ck rv st wo ++ rest) [.ref (ad 0), .int qv, .int tv] (fun r ws1 => bst_of g hz n gd 0 qv tv r ∧ ∃ (cf1 ce1 ck1 : Nat → Nat) (rv1 : Nat → Nat → Int64), chV g gd cf1 ce1 ck1 rv1 ∧ ws1 = wX E ad g hz n mk td gr cf1 ce1 ck1 rv1 st wo ++ rest) := by
  intro sz
  refine mW_of (cc := cX4_best) (maxL := 3) (ret := (some .long)) (Qc := fun sz => va_Ql (fun r ws1 => bst_of g hz n gd 0 qv tv r ∧ ∃ (cf1 ce1 ck1 : Nat → Nat) (rv1 : Nat → Nat → Int64), chV g gd cf1 ce1 ck1 rv1 ∧ ws1 = wX E ad g hz n mk td gr cf1 ce1 ck1 rv1 st wo ++ rest) (eAt E (va_A (wX E ad g hz n mk td gr cf ce ck rv st wo ++ rest) sz)) (va_A (wX E ad g hz n mk td gr cf ce ck rv st wo ++ rest) sz)) (by decide) rfl (Nat.le_of_ble_eq_true rfl) ?_
  intro p0 e0 s m below meth c0 ls hx hb hr hml hts hown hlocks hin hE hP hD hl
  have hS : va_S (va_A (wX E ad g hz n mk td gr cf ce ck rv st wo ++ rest) s.heap.size) s.heap s.heap [] := va_S.rf
  have hA : ∀ q, s.heap.size ≤ q → (va_A (wX E ad g hz n mk td gr cf ce ck rv st wo ++ rest) s.heap.size) q := fun q h => Or.inr h
  have hown : s.vm.findClass RX4 = some m.cls := hown
  have hl : lv_has ls 3 [(0, .ref (ad 0)), (1, .int qv), (2, .int tv)] := hl
  have hinX4 : ∀ w ∈ wsX40, w ∈ wsX4_best := by decide +kernel
  refine lv_aload_n hx hb dX4_best_0 rfl (lv_at hl 0 rfl) ?_
  refine lv_aload_n hx hb dX4_best_1 rfl (lv_at hl 0 rfl) ?_
  refine va_get (D := E.1) (ci := 4) (C := RX4) (T := TX4) (N := 11) hx hb hts hinX4 hown hE.1 hP 0 rfl rfl 2 (by decide) (hts (.fieldLink RX4 24 "StakeHouse" "bestChart" "LStakeHouse$Chart;") (by decide +kernel)) (fun _ h9 => h9) rfl dX4_best_2 ?_
  refine lv_iload_n hx hb dX4_best_5 rfl (lv_at hl 1 rfl) ?_
  refine lv_iload_n hx hb dX4_best_6 rfl (lv_at hl 2 rfl) ?_
  refine cW_l (va_runV ⟨hx, hb, hml, hown, hts⟩ (c_greatestFrom l E ad g hz n mk td gr cf ce ck rv st wo rest hg2 hg32 hhz hn pl ga gb gd hGA hV 0 (by decide) qv tv _) (cwV 3 hts gX4_best_X4_greatestFrom rfl rfl rfl (by decide +kernel) ⟨Nat.le_of_ble_eq_true rfl, Nat.le_of_ble_eq_true rfl⟩) (ePw_V hP hD hE (ci := 4) (k := 0) rfl rfl) rfl rfl hl.1 rfl (lv_room (Nat.le_of_ble_eq_true rfl)) dX4_best_7 ⟨Nat.zero_le _, Nat.zero_le _⟩) hS hD hA (fun r9 ws9 H locs hr9 hP hD hS => ?_)
  obtain ⟨hr0, cf1, ce1, ck1, rv1, hV1, rfl⟩ := hr9
  exact ret_Wl hx hb hr hlocks dX4_best_10 hP hD hS ⟨hr0, cf1, ce1, ck1, rv1, hV1, rfl⟩
set_option maxHeartbeats 4000000 in
set_option maxRecDepth 100000 in
/-- mean -/
theorem c_mean (l : Launch) (E : eT) (ad : Nat → Nat) (g hz n : Nat) (mk : Int64) (td : Nat → Int32) (gr : Nat → Option Nat) (cf ce ck : Nat → Nat) (rv : Nat → Nat → Int64) (st : Nat → Int32) (wo : Nat → Nat → Int64) (rest : va_W) (hg2 : 2 ≤ g) (hg32 : g ≤ 32) (hhz : hz ≤ 12) (hn : n ≤ 4) (pl ga gb : Nat → Nat) (gd : Nat → gT) (hGA : gAll E rest gr n pl ga gb gd) (hV : chV g gd cf ce ck rv) (qv tv : Int32) : mWl l yX4_mean wsX4_mean 6 170 0 0 E (wX E ad g hz n mk td gr cf ce ck rv st wo ++ rest) [.ref (ad 0), .int qv, .int tv] (fun r ws1 => bst_of g hz n gd 2 qv tv r ∧ ∃ (cf1 ce1 ck1 : Nat → Nat) (rv1 : Nat → Nat → Int64), chV g gd cf1 ce1 ck1 rv1 ∧ ws1 = wX E ad g hz n mk td gr cf1 ce1 ck1 rv1 st wo ++ rest) := by
  intro sz
  refine mW_of (cc := cX4_mean) (maxL := 3) (ret := (some .long)) (Qc := fun sz => va_Ql (fun r ws1 => bst_of g hz n gd 2 qv tv r ∧ ∃ (cf1 ce1 ck1 : Nat → Nat) (rv1 : Nat → Nat → Int64), chV g gd cf1 ce1 ck1 rv1 ∧ ws1 = wX E ad g hz n mk td gr cf1 ce1 ck1 rv1 st wo ++ rest) (eAt E (va_A (wX E ad g hz n mk td gr cf ce ck rv st wo ++ rest) sz)) (va_A (wX E ad g hz n mk td gr cf ce ck rv st wo ++ rest) sz)) (by decide) rfl (Nat.le_of_ble_eq_true rfl) ?_
  intro p0 e0 s m below meth c0 ls hx hb hr hml hts hown hlocks hin hE hP hD hl
  have hS : va_S (va_A (wX E ad g hz n mk td gr cf ce ck rv st wo ++ rest) s.heap.size) s.heap s.heap [] := va_S.rf
  have hA : ∀ q, s.heap.size ≤ q → (va_A (wX E ad g hz n mk td gr cf ce ck rv st wo ++ rest) s.heap.size) q := fun q h => Or.inr h
  have hown : s.vm.findClass RX4 = some m.cls := hown
  have hl : lv_has ls 3 [(0, .ref (ad 0)), (1, .int qv), (2, .int tv)] := hl
  have hinX4 : ∀ w ∈ wsX40, w ∈ wsX4_mean := by decide +kernel
  refine lv_aload_n hx hb dX4_mean_0 rfl (lv_at hl 0 rfl) ?_
  refine lv_aload_n hx hb dX4_mean_1 rfl (lv_at hl 0 rfl) ?_
  refine va_get (D := E.1) (ci := 4) (C := RX4) (T := TX4) (N := 11) hx hb hts hinX4 hown hE.1 hP 0 rfl rfl 3 (by decide) (hts (.fieldLink RX4 28 "StakeHouse" "meanChart" "LStakeHouse$Chart;") (by decide +kernel)) (fun _ h9 => h9) rfl dX4_mean_2 ?_
  refine lv_iload_n hx hb dX4_mean_5 rfl (lv_at hl 1 rfl) ?_
  refine lv_iload_n hx hb dX4_mean_6 rfl (lv_at hl 2 rfl) ?_
  refine cW_l (va_runV ⟨hx, hb, hml, hown, hts⟩ (c_greatestFrom l E ad g hz n mk td gr cf ce ck rv st wo rest hg2 hg32 hhz hn pl ga gb gd hGA hV 1 (by decide) qv tv _) (cwV 3 hts gX4_mean_X4_greatestFrom rfl rfl rfl (by decide +kernel) ⟨Nat.le_of_ble_eq_true rfl, Nat.le_of_ble_eq_true rfl⟩) (ePw_V hP hD hE (ci := 4) (k := 0) rfl rfl) rfl rfl hl.1 rfl (lv_room (Nat.le_of_ble_eq_true rfl)) dX4_mean_7 ⟨Nat.zero_le _, Nat.zero_le _⟩) hS hD hA (fun r9 ws9 H locs hr9 hP hD hS => ?_)
  obtain ⟨hr0, cf1, ce1, ck1, rv1, hV1, rfl⟩ := hr9
  exact ret_Wl hx hb hr hlocks dX4_mean_10 hP hD hS ⟨hr0, cf1, ce1, ck1, rv1, hV1, rfl⟩
/-- stakes' answer -/
def sts_of (g hz n : Nat) (gd : Nat → gT) (iv qv tv : Int32) (r : Int64) : Prop := (∃ i q t : Nat, iv = nI i ∧ qv = nI q ∧ tv = nI t ∧ i < n ∧ q ≤ g ∧ 1 ≤ t ∧ t ≤ hz ∧ r = if 1 ≤ q ∧ q < g then gBits g (gd i) (gBst g gd 0 n 0 (t - 1)) q (gBst g gd 0 n 0 t q) (min q (gL (gd i))) else lN 0) ∨ ((¬ ∃ i q t : Nat, iv = nI i ∧ qv = nI q ∧ tv = nI t ∧ i < n ∧ q ≤ g ∧ 1 ≤ t ∧ t ≤ hz) ∧ r = -1)
set_option maxHeartbeats 4000000 in
set_option maxRecDepth 100000 in
/-- stakes -/
theorem c_stakes (l : Launch) (E : eT) (ad : Nat → Nat) (g hz n : Nat) (mk : Int64) (td : Nat → Int32) (gr : Nat → Option Nat) (cf ce ck : Nat → Nat) (rv : Nat → Nat → Int64) (st : Nat → Int32) (wo : Nat → Nat → Int64) (rest : va_W) (hg2 : 2 ≤ g) (hg32 : g ≤ 32) (hhz : hz ≤ 12) (hn : n ≤ 4) (pl ga gb : Nat → Nat) (gd : Nat → gT) (hGA : gAll E rest gr n pl ga gb gd) (hV : chV g gd cf ce ck rv) (iv qv tv : Int32) : mWl l yX4_stakes wsX4_stakes 5 140 0 0 E (wX E ad g hz n mk td gr cf ce ck rv st wo ++ rest) [.ref (ad 0), .int iv, .int qv, .int tv] (fun r ws1 => sts_of g hz n gd iv qv tv r ∧ ∃ (cf1 ce1 ck1 : Nat → Nat) (rv1 : Nat → Nat → Int64), chV g gd cf1 ce1 ck1 rv1 ∧ ws1 = wX E ad g hz n mk td gr cf1 ce1 ck1 rv1 st wo ++ rest) := by
  intro sz
  refine mW_of (cc := cX4_stakes) (maxL := 5) (ret := (some .long)) (Qc := fun sz => va_Ql (fun r ws1 => sts_of g hz n gd iv qv tv r ∧ ∃ (cf1 ce1 ck1 : Nat → Nat) (rv1 : Nat → Nat → Int64), chV g gd cf1 ce1 ck1 rv1 ∧ ws1 = wX E ad g hz n mk td gr cf1 ce1 ck1 rv1 st wo ++ rest) (eAt E (va_A (wX E ad g hz n mk td gr cf ce ck rv st wo ++ rest) sz)) (va_A (wX E ad g hz n mk td gr cf ce ck rv st wo ++ rest) sz)) (by decide) rfl (Nat.le_of_ble_eq_true rfl) ?_
  intro p0 e0 s m below meth c0 ls hx hb hr hml hts hown hlocks hin hE hP hD hl
  have hS : va_S (va_A (wX E ad g hz n mk td gr cf ce ck rv st wo ++ rest) s.heap.size) s.heap s.heap [] := va_S.rf
  have hA : ∀ q, s.heap.size ≤ q → (va_A (wX E ad g hz n mk td gr cf ce ck rv st wo ++ rest) s.heap.size) q := fun q h => Or.inr h
  have hown : s.vm.findClass RX4 = some m.cls := hown
  have hl : lv_has ls 5 [(0, .ref (ad 0)), (1, .int iv), (2, .int qv), (3, .int tv)] := hl
  have hinX4 : ∀ w ∈ wsX40, w ∈ wsX4_stakes := by decide +kernel
  refine lv_aload_n hx hb dX4_stakes_0 rfl (lv_at hl 0 rfl) ?_
  refine lv_iload_n hx hb dX4_stakes_1 rfl (lv_at hl 1 rfl) ?_
  refine va_csq (W.runV ⟨hx, hb, hml, hown, hts⟩ (c_gameAt l E _ ad g hz n mk rfl hn gr rfl _) (cwV 1 hts gX4_stakes_X4_gameAt rfl rfl rfl (by decide +kernel) ⟨Nat.le_of_ble_eq_true rfl, Nat.le_of_ble_eq_true rfl⟩) (ePu_V hP hE (ci := 4) (k := 0) rfl rfl) rfl rfl hl.1 rfl (lv_room (Nat.le_of_ble_eq_true rfl)) dX4_stakes_2 ⟨Nat.zero_le _, Nat.zero_le _⟩) (fun r9 hr9 => ?_)
  by_cases hi9 : ∃ i : Nat, i < n ∧ iv = nI i
  · skip
    obtain ⟨i, hi, rfl⟩ := hi9
    have hr9 := gameAt_in hGA hn hi hr9
    subst hr9
    refine tp_r (show va_rf (some _) = .ref (ga i) from rfl) ?_
    refine st_a2 hx hb 4 dX4_stakes_5 hl (by decide) rfl (fun ls hl => ?_)
    refine lv_aload hx hb dX4_stakes_7 (lv_at hl 4 rfl) ?_
    refine lv_ifnull hx hb dX4_stakes_9 ?_
    refine lv_aload_n hx hb dX4_stakes_12 rfl (lv_at hl 0 rfl) ?_
    refine lv_iload_n hx hb dX4_stakes_13 rfl (lv_at hl 2 rfl) ?_
    refine lv_iload_n hx hb dX4_stakes_14 rfl (lv_at hl 3 rfl) ?_
    refine vp_callSi (W.runV ⟨hx, hb, hml, hown, hts⟩ (c_isSpot l E _ ad g hz n mk rfl _ _) (cwV 2 hts gX4_stakes_X4_isSpot rfl rfl rfl (by decide +kernel) ⟨Nat.le_of_ble_eq_true rfl, Nat.le_of_ble_eq_true rfl⟩) (ePu_V hP hE (ci := 4) (k := 0) rfl rfl) rfl rfl hl.1 rfl (lv_room (Nat.le_of_ble_eq_true rfl)) dX4_stakes_15 ⟨Nat.zero_le _, Nat.zero_le _⟩) (fun r9 hr9 => ?_)
    subst hr9
    refine q_eq hx hb 26 dX4_stakes_18 (by decide) (fun c18 => ?_) (fun c18 => ?_)
    · skip
      refine lv_ldc2 (v := -1) hx hb hown (hts (.constantLong RX4 93 (-1)) (by decide +kernel)) dX4_stakes_26 ?_
      exact ret_Wl hx hb hr hlocks dX4_stakes_29 hP hD hS ⟨Or.inr ⟨fun ⟨i, q, t, e1, e2, e3, g1, g2, g3, g4⟩ => c18 (by rw [e2, e3]; exact ⟨(nI_rngI (by omega) (by decide) (by omega)).mpr ⟨by omega, g2⟩, (nI_rngI (by omega) (by decide) (by omega)).mpr ⟨by omega, g4⟩⟩), rfl⟩, cf, ce, ck, rv, hV, rfl⟩
    · skip
      obtain ⟨⟨hq1, hq2⟩, ht1, ht2⟩ := c18
      obtain ⟨q, -, hq, rfl⟩ := nI_rng (by omega) ⟨hq1, hq2⟩ (by decide)
      obtain ⟨t, -, ht, rfl⟩ := nI_rng (by omega) ⟨ht1, ht2⟩ (by decide)
      refine lv_iload_n hx hb dX4_stakes_21 rfl (lv_at hl 3 rfl) ?_
      refine lv_iconst (v := nI 1) hx hb dX4_stakes_22 (by decide) ?_
      refine n_ge hx hb (by omega) (by omega) 30 dX4_stakes_23 (by decide) (fun c23 => ?_) (fun c23 => ?_)
      · skip
        refine lv_aload_n hx hb dX4_stakes_30 rfl (lv_at hl 0 rfl) ?_
        refine lv_iload_n hx hb dX4_stakes_31 rfl (lv_at hl 2 rfl) ?_
        refine vp_callSi (W.runV ⟨hx, hb, hml, hown, hts⟩ (c_isPlayed l E _ ad g hz n mk rfl hg2 _) (cwV 1 hts gX4_stakes_X4_isPlayed rfl rfl rfl (by decide +kernel) ⟨Nat.le_of_ble_eq_true rfl, Nat.le_of_ble_eq_true rfl⟩) (ePu_V hP hE (ci := 4) (k := 0) rfl rfl) rfl rfl hl.1 rfl (lv_room (Nat.le_of_ble_eq_true rfl)) dX4_stakes_32 ⟨Nat.zero_le _, Nat.zero_le _⟩) (fun r9 hr9 => ?_)
        subst hr9
        refine q_ne hx hb 40 dX4_stakes_35 (by decide) (fun c35 => ?_) (fun c35 => ?_)
        · skip
          rw [nI_rngI (by omega) (by decide) (by omega)] at c35
          refine lv_aload_n hx hb dX4_stakes_40 rfl (lv_at hl 0 rfl) ?_
          refine va_get (D := E.1) (ci := 4) (C := RX4) (T := TX4) (N := 11) hx hb hts hinX4 hown hE.1 hP 0 rfl rfl 2 (by decide) (hts (.fieldLink RX4 24 "StakeHouse" "bestChart" "LStakeHouse$Chart;") (by decide +kernel)) (fun _ h9 => h9) rfl dX4_stakes_41 ?_
          refine lv_iconst (v := nI 0) hx hb dX4_stakes_44 (by decide) ?_
          refine lv_aload_n hx hb dX4_stakes_45 rfl (lv_at hl 0 rfl) ?_
          refine va_get (D := E.1) (ci := 4) (C := RX4) (T := TX4) (N := 11) hx hb hts hinX4 hown hE.1 hP 0 rfl rfl 9 (by decide) (hts (.fieldLink RX4 49 "StakeHouse" "held" "I") (by decide +kernel)) (fun _ h9 => h9) rfl dX4_stakes_46 ?_
          refine cW_v (va_runV ⟨hx, hb, hml, hown, hts⟩ (c_cover l E _ 3 (ad 3) 0 (ad 10) (cf 0) (ce 0) (ck 0) 0 n (by have := (hV 0 (by decide)).1; omega) (by have := (hV 0 (by decide)).2.1; omega) (by decide) (by omega) rfl _) (cwV 2 hts gX4_stakes_X0_cover rfl rfl rfl (by decide +kernel) ⟨Nat.le_of_ble_eq_true rfl, Nat.le_of_ble_eq_true rfl⟩) (ePw_V hP hD hE (ci := 0) (k := 3) rfl rfl) rfl rfl hl.1 rfl (lv_room (Nat.le_of_ble_eq_true rfl)) dX4_stakes_49 ⟨Nat.zero_le _, Nat.zero_le _⟩) hS hD hA (fun ws9 H locs hr9 hP hD hS => ?_)
          obtain ⟨cf1, ce1, ck1, hV1, hlo, hhi, rfl⟩ := cov_of (c := 0) (lo := 0) (cnt := n) (by decide) (by omega) hV (by rw [Nat.zero_add]; exact hr9)
          refine lv_aload_n hx hb dX4_stakes_52 rfl (lv_at hl 0 rfl) ?_
          refine lv_aload hx hb dX4_stakes_53 (lv_at hl 4 rfl) ?_
          refine lv_iload_n hx hb dX4_stakes_55 rfl (lv_at hl 2 rfl) ?_
          refine lv_aload_n hx hb dX4_stakes_56 rfl (lv_at hl 0 rfl) ?_
          refine lv_aload_n hx hb dX4_stakes_57 rfl (lv_at hl 0 rfl) ?_
          refine va_get (D := E.1) (ci := 4) (C := RX4) (T := TX4) (N := 11) hx hb hts hinX4 hown hE.1 hP 0 rfl rfl 2 (by decide) (hts (.fieldLink RX4 24 "StakeHouse" "bestChart" "LStakeHouse$Chart;") (by decide +kernel)) (fun _ h9 => h9) rfl dX4_stakes_58 ?_
          refine lv_iload_n hx hb dX4_stakes_61 rfl (lv_at hl 3 rfl) ?_
          refine cW_r (va_runV ⟨hx, hb, hml, hown, hts⟩ (c_chartRow l E ad g hz n mk td gr cf1 ce1 ck1 rv st wo rest hg2 hg32 hn pl ga gb gd hGA 0 (by decide) 0 n hlo hhi (by omega) (hV1 0 (by decide)).2.2.1 (by have := (hV1 0 (by decide)).2.2.2; rw [hhi, hlo, Nat.zero_add] at this; exact this) t (by omega) _) (cwV 2 hts gX4_stakes_X4_chartRow rfl rfl rfl (by decide +kernel) ⟨Nat.le_of_ble_eq_true rfl, Nat.le_of_ble_eq_true rfl⟩) (ePw_V hP hD hE (ci := 4) (k := 0) rfl rfl) rfl rfl hl.1 rfl (lv_room (Nat.le_of_ble_eq_true rfl)) dX4_stakes_62 ⟨Nat.zero_le _, Nat.zero_le _⟩) hS hD hA (fun r9 ws9 H locs hr9 hP hD hS => ?_)
          obtain ⟨rfl, rv1, hr1, hrow, rfl⟩ := hr9
          have hV2 := chV_row hV1 hlo hhi (by have := (hV1 0 (by decide)).2.2.1; omega) hr1 hrow
          refine lv_iload_n hx hb dX4_stakes_65 rfl (lv_at hl 2 rfl) ?_
          refine va_lald hx hb hE.1 hP (13 + (13 * 0 + t)) 1 (wX_R (by omega)) rfl (vp_in_nI (by omega) (by decide)) dX4_stakes_66 ?_
          refine tp_l (show _ = lN (gBst g gd 0 n 0 t q) by rw [nI_clamp (by omega)]; exact hrow t (by omega) q (by omega)) ?_
          refine lv_aload_n hx hb dX4_stakes_67 rfl (lv_at hl 0 rfl) ?_
          refine lv_aload_n hx hb dX4_stakes_68 rfl (lv_at hl 0 rfl) ?_
          refine va_get (D := E.1) (ci := 4) (C := RX4) (T := TX4) (N := 11) hx hb hts hinX4 hown hE.1 hP 0 rfl rfl 2 (by decide) (hts (.fieldLink RX4 24 "StakeHouse" "bestChart" "LStakeHouse$Chart;") (by decide +kernel)) (fun _ h9 => h9) rfl dX4_stakes_69 ?_
          refine lv_iload_n hx hb dX4_stakes_72 rfl (lv_at hl 3 rfl) ?_
          refine lv_iconst (v := nI 1) hx hb dX4_stakes_73 (by decide) ?_
          refine lv_isub hx hb dX4_stakes_74 ?_
          refine tp_i (pk_sub (by omega)) ?_
          refine cW_r (va_runV ⟨hx, hb, hml, hown, hts⟩ (c_chartRow l E ad g hz n mk td gr cf1 ce1 _ rv1 st wo rest hg2 hg32 hn pl ga gb gd hGA 0 (by decide) 0 n hlo hhi (by omega) (hV2 0 (by decide)).2.2.1 (by have := (hV2 0 (by decide)).2.2.2; rw [hhi, hlo, Nat.zero_add] at this; exact this) (t - 1) (by omega) _) (cwV 2 hts gX4_stakes_X4_chartRow rfl rfl rfl (by decide +kernel) ⟨Nat.le_of_ble_eq_true rfl, Nat.le_of_ble_eq_true rfl⟩) (ePw_V hP hD hE (ci := 4) (k := 0) rfl rfl) rfl rfl hl.1 rfl (lv_room (Nat.le_of_ble_eq_true rfl)) dX4_stakes_75 ⟨Nat.zero_le _, Nat.zero_le _⟩) hS hD hA (fun r9 ws9 H locs hr9 hP hD hS => ?_)
          obtain ⟨rfl, rv2, hr2, hrow2, rfl⟩ := hr9
          have hV3 := chV_row hV2 hlo hhi (by have := (hV2 0 (by decide)).2.2.1; omega) hr2 hrow2
          refine vp_callSl (W.runV ⟨hx, hb, hml, hown, hts⟩ (c_bestStakes l E _ ad g hz n mk rfl hg32 (52 + pl i) (ga i) (gb i) (gd i) (hGA _ hi).2.2.2 (wX_rest.trans (hGA _ hi).2.1) (wX_rest.trans (hGA _ hi).2.2.1) (13 + (13 * 0 + (t - 1))) (ad (13 + (13 * 0 + (t - 1)))) (rv2 (13 * 0 + (t - 1))) (gBst g gd 0 n 0 (t - 1)) (wX_R (by omega)) (fun j hj => hrow2 (t - 1) (by omega) j hj) (fun j hj => Nat.le_trans (gBst_le hg32 (fun i hi => by rw [Nat.zero_add]; exact (hGA _ hi).2.2.2) (t - 1) j hj) (b49 (by omega))) q (gBst g gd 0 n 0 t q) (by omega) (by have h1 := gBst_le (what := 0) hg32 (lo := 0) (cnt := n) (fun i hi => by rw [Nat.zero_add]; exact (hGA _ hi).2.2.2) t q (by omega); have h2 := b53 (t := t) (by omega); omega)) (cwV 4 hts gX4_stakes_X4_bestStakes rfl rfl rfl (by decide +kernel) ⟨Nat.le_of_ble_eq_true rfl, Nat.le_of_ble_eq_true rfl⟩) (ePu_V hP hE (ci := 4) (k := 0) rfl rfl) rfl rfl hl.1 rfl (lv_room (Nat.le_of_ble_eq_true rfl)) dX4_stakes_78 ⟨Nat.zero_le _, Nat.zero_le _⟩) (fun r9 hr9 => ?_)
          subst hr9
          exact ret_Wl hx hb hr hlocks dX4_stakes_81 hP hD hS ⟨Or.inl ⟨i, q, t, rfl, rfl, rfl, hi, hq, c23, ht, by rw [if_pos (by omega)]⟩, cf1, ce1, _, rv2, hV3, rfl⟩
        · skip
          rw [nI_rngI (by omega) (by decide) (by omega)] at c35
          refine lv_lconst (v := lN 0) hx hb dX4_stakes_38 rfl ?_
          exact ret_Wl hx hb hr hlocks dX4_stakes_39 hP hD hS ⟨Or.inl ⟨i, q, t, rfl, rfl, rfl, hi, hq, c23, ht, by rw [if_neg (by omega)]⟩, cf, ce, ck, rv, hV, rfl⟩
      · skip
        refine lv_ldc2 (v := -1) hx hb hown (hts (.constantLong RX4 93 (-1)) (by decide +kernel)) dX4_stakes_26 ?_
        exact ret_Wl hx hb hr hlocks dX4_stakes_29 hP hD hS ⟨Or.inr ⟨fun ⟨i, q, t, e1, e2, e3, g1, g2, g3, g4⟩ => by rw [nI_eq (by omega) (by omega)] at e3; omega, rfl⟩, cf, ce, ck, rv, hV, rfl⟩
  · skip
    have hr9 := gameAt_out hn hi9 hr9
    subst hr9
    refine tp_r (show va_rf none = .null from rfl) ?_
    refine lv_astoreN hx hb dX4_stakes_5 hl (by decide) rfl (fun ls hl => ?_)
    refine lv_aloadN hx hb dX4_stakes_7 (lv_at hl 0 rfl) ?_
    refine lv_ifnullN (tgt := 26) hx hb dX4_stakes_9 (by decide) ?_
    refine lv_ldc2 (v := -1) hx hb hown (hts (.constantLong RX4 93 (-1)) (by decide +kernel)) dX4_stakes_26 ?_
    exact ret_Wl hx hb hr hlocks dX4_stakes_29 hP hD hS ⟨Or.inr ⟨fun ⟨i, q, t, e1, e2, e3, g1, g2, g3, g4⟩ => hi9 ⟨i, g1, e1⟩, rfl⟩, cf, ce, ck, rv, hV, rfl⟩
