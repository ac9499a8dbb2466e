/-! the reference: plans followed; plan, bold -/
theorem th_add {f : Nat → Int64} {F : Nat → Nat} {a v K : Nat} (h : ∀ x, x < K → f x = lN (F x)) : ∀ x, x < K → vp_updL f a (lN (F a + v)) x = lN (fAdd F a v x) := by
  intro x hx
  unfold vp_updL fAdd va_up
  split
  · rfl
  · exact h x hx
set_option maxHeartbeats 4000000 in
set_option maxRecDepth 100000 in
/-- follow -/
theorem m_follow (l : Launch) (E : eT) (am : Nat → Nat) (g hz n : Nat) (kd ch tm tx lm : Nat → Int32) (td : Nat → Nat) (tr : Int64) (bs nw th : Nat → Int64) (pd : Int64) (rest : va_W) (hn : n ≤ 4) (gd : Nat → gT) (hM : ∀ i, i < n → gArg (gd i) (kd i) (ch i) (tm i) (tx i) (lm i)) (hg2 : 2 ≤ g) (hg32 : g ≤ 32) (htd2 : ∀ j, td j ≤ 32) (plan i q t : Nat) (hpl : plan ≤ 3) (hi : i < n) (hq : q ≤ g) (ht : t ≤ 12) : mWv l yX5_follow wsX5_follow 2 50 0 0 E (wM E am g hz n kd ch tm tx lm (fun j => nI (td j)) tr bs nw th pd ++ rest) [.ref (am 0), .int (nI plan), .int (nI i), .int (nI q), .int (nI t)] (fun ws1 => ∃ nw1 th1 : Nat → Int64, (∀ x, x < 2145 → nw1 x = lN ((fNow g (gd i) td plan q t) x)) ∧ ws1 = wM E am g hz n kd ch tm tx lm (fun j => nI (td j)) tr bs nw1 th1 (lN (fPd g (gd i) td plan q t)) ++ rest) := by
  intro sz
  refine mW_of (cc := cX5_follow) (maxL := 12) (ret := none) (Qc := fun sz => va_Qv (fun ws1 => ∃ nw1 th1 : Nat → Int64, (∀ x, x < 2145 → nw1 x = lN ((fNow g (gd i) td plan q t) x)) ∧ ws1 = wM E am g hz n kd ch tm tx lm (fun j => nI (td j)) tr bs nw1 th1 (lN (fPd g (gd i) td plan q t)) ++ rest) (eAt E (va_A (wM E am g hz n kd ch tm tx lm (fun j => nI (td j)) tr bs nw th pd ++ rest) sz)) (va_A (wM E am g hz n kd ch tm tx lm (fun j => nI (td j)) tr bs nw th pd ++ rest) sz)) (by decide) rfl (Nat.le_of_ble_eq_true rfl) ?_
  intro p0 e0 s m below meth c0 ls hx hb hr hml hts hown hlocks hin hE hP hD hl
  have hS : va_S (va_A (wM E am g hz n kd ch tm tx lm (fun j => nI (td j)) tr bs nw th pd ++ rest) s.heap.size) s.heap s.heap [] := va_S.rf
  have hA : ∀ q, s.heap.size ≤ q → (va_A (wM E am g hz n kd ch tm tx lm (fun j => nI (td j)) tr bs nw th pd ++ rest) s.heap.size) q := fun q h => Or.inr h
  have hown : s.vm.findClass RX5 = some m.cls := hown
  have hl : lv_has ls 12 [(0, .ref (am 0)), (1, .int (nI plan)), (2, .int (nI i)), (3, .int (nI q)), (4, .int (nI t))] := hl
  have hinX5 : ∀ w ∈ wsX50, w ∈ wsX5_follow := by decide +kernel
  have hd := (hM i hi).1
  have hC := hd.2.1
  have hL1 := hd.2.2.2.2.2
  refine lv_iconst (v := nI 0) hx hb dX5_follow_0 (by decide) ?_
  refine st_i2 hx hb 5 dX5_follow_1 hl (by decide) rfl (fun ls hl => ?_)
  refine wLoopH 2145 0 (fun x9 H locs ls => ∃ nw1 : Nat → Int64, (∀ y, y < x9 → nw1 y = lN 0) ∧ va_P E.1 vwCl (wM E am g hz n kd ch tm tx lm (fun j => nI (td j)) tr bs nw1 th pd ++ rest) H ∧ va_D (va_A (wM E am g hz n kd ch tm tx lm (fun j => nI (td j)) tr bs nw th pd ++ rest) s.heap.size) (wM E am g hz n kd ch tm tx lm (fun j => nI (td j)) tr bs nw1 th pd ++ rest) ∧ va_S (va_A (wM E am g hz n kd ch tm tx lm (fun j => nI (td j)) tr bs nw th pd ++ rest) s.heap.size) s.heap H locs ∧ lv_has ls 12 [(0, .ref (am 0)), (1, .int (nI plan)), (2, .int (nI i)), (3, .int (nI q)), (4, .int (nI t)), (5, .int (nI x9))]) (Nat.zero_le _) (fun x9 H locs ls hi_x9 hI ihx => ?_) (fun H locs ls hI => ?_) ⟨nw, fun y hy => absurd hy (by omega), hP, hD, hS, hl⟩
  · skip
    obtain ⟨nw1, hn1, hP, hD, hS, hl⟩ := hI
    refine lv_iload hx hb dX5_follow_3 (lv_at hl 5 rfl) ?_
    refine lv_sipush (v := nI 2145) hx hb dX5_follow_5 (by decide) ?_
    refine n_ge hx hb (by omega) (by omega) 25 dX5_follow_8 (by decide) (fun c8 => ?_) (fun c8 => ?_)
    · skip
      exact absurd c8 (by omega)
    · skip
      refine lv_aload_n hx hb dX5_follow_11 rfl (lv_at hl 0 rfl) ?_
      refine va_get (D := E.1) (ci := 5) (C := RX5) (T := TX5) (N := 14) hx hb hts hinX5 hown hE.1 hP 0 rfl rfl 11 (by decide) (hts (.fieldLink RX5 39 "StakeHouseModel" "now" "[J") (by decide +kernel)) (fun _ h9 => h9) rfl dX5_follow_12 ?_
      refine lv_iload hx hb dX5_follow_15 (lv_at hl 5 rfl) ?_
      refine lv_lconst (v := lN 0) hx hb dX5_follow_17 rfl ?_
      refine va_last hx hb hE.1 hP hD hS 8 1 rfl rfl (vp_in_nI (by omega) (by decide)) dX5_follow_18 (fun H locs hP hD hS => ?_)
      have hP : va_P E.1 vwCl (wM E am g hz n kd ch tm tx lm (fun j => nI (td j)) tr bs (vp_updL nw1 x9 (lN 0)) th pd ++ rest) H := (by rw [nI_clamp (by omega)] at hP; exact hP)
      have hD : va_D (va_A (wM E am g hz n kd ch tm tx lm (fun j => nI (td j)) tr bs nw th pd ++ rest) s.heap.size) (wM E am g hz n kd ch tm tx lm (fun j => nI (td j)) tr bs (vp_updL nw1 x9 (lN 0)) th pd ++ rest) := (by rw [nI_clamp (by omega)] at hD; exact hD)
      refine st_inc hx hb 5 dX5_follow_19 hl rfl (nI_1 _) (by decide) rfl (fun ls hl => ?_)
      refine lv_goto (tgt := 3) hx hb dX5_follow_22 (by decide) ?_
      refine ihx _ _ _ ⟨_, fun y hy => ?_, hP, hD, hS, hl⟩
      by_cases hyx : y = x9
      · subst hyx; exact pk_uLs
      · rw [pk_uLn hyx]; exact hn1 y (by omega)
  · skip
    obtain ⟨nw1, hn1, hP, hD, hS, hl⟩ := hI
    refine lv_iload hx hb dX5_follow_3 (lv_at hl 5 rfl) ?_
    refine lv_sipush (v := nI 2145) hx hb dX5_follow_5 (by decide) ?_
    refine n_ge hx hb (by omega) (by omega) 25 dX5_follow_8 (by decide) (fun c8 => ?_) (fun c8 => ?_)
    · skip
      refine lv_aload_n hx hb dX5_follow_25 rfl (lv_at hl 0 rfl) ?_
      refine va_get (D := E.1) (ci := 5) (C := RX5) (T := TX5) (N := 14) hx hb hts hinX5 hown hE.1 hP 0 rfl rfl 11 (by decide) (hts (.fieldLink RX5 39 "StakeHouseModel" "now" "[J") (by decide +kernel)) (fun _ h9 => h9) rfl dX5_follow_26 ?_
      refine lv_bipush (v := nI 65) hx hb dX5_follow_29 (by decide) ?_
      refine lv_iload_n hx hb dX5_follow_31 rfl (lv_at hl 3 rfl) ?_
      refine lv_imul hx hb dX5_follow_32 ?_
      refine tp_i (pk_mul _ _) ?_
      refine lv_iconst (v := nI 1) hx hb dX5_follow_33 (by decide) ?_
      refine lv_iadd hx hb dX5_follow_34 ?_
      refine tp_i (nI_add _ _) ?_
      refine lv_lconst (v := lN 1) hx hb dX5_follow_35 rfl ?_
      refine va_last hx hb hE.1 hP hD hS 8 1 rfl rfl (vp_in_nI (by omega) (by decide)) dX5_follow_36 (fun H locs hP hD hS => ?_)
      have hP : va_P E.1 vwCl (wM E am g hz n kd ch tm tx lm (fun j => nI (td j)) tr bs (vp_updL nw1 (65 * q + 1) (lN 1)) th pd ++ rest) H := (by rw [nI_clamp (by omega)] at hP; exact hP)
      have hD : va_D (va_A (wM E am g hz n kd ch tm tx lm (fun j => nI (td j)) tr bs nw th pd ++ rest) s.heap.size) (wM E am g hz n kd ch tm tx lm (fun j => nI (td j)) tr bs (vp_updL nw1 (65 * q + 1) (lN 1)) th pd ++ rest) := (by rw [nI_clamp (by omega)] at hD; exact hD)
      refine lv_aload_n hx hb dX5_follow_37 rfl (lv_at hl 0 rfl) ?_
      refine lv_lconst (v := lN 0) hx hb dX5_follow_38 rfl ?_
      refine va_put (D := E.1) (ci := 5) (ty := .long) (C := RX5) (T := TX5) (N := 14) hx hb hts hinX5 tyX5 tyX5_ok nmX5 hown hE.1 hP hD hS 0 rfl rfl 13 (by decide) (hts (.fieldLink RX5 98 "StakeHouseModel" "played" "J") (by decide +kernel)) (fun _ h9 => h9) rfl (by decide +kernel) rfl rfl (Nat.le_of_ble_eq_true rfl) dX5_follow_39 (fun H locs hP hD hS => ?_)
      have hP : va_P E.1 vwCl (wM E am g hz n kd ch tm tx lm (fun j => nI (td j)) tr bs (vp_updL nw1 (65 * q + 1) (lN 1)) th (lN 0) ++ rest) H := hP
      have hD : va_D (va_A (wM E am g hz n kd ch tm tx lm (fun j => nI (td j)) tr bs nw th pd ++ rest) s.heap.size) (wM E am g hz n kd ch tm tx lm (fun j => nI (td j)) tr bs (vp_updL nw1 (65 * q + 1) (lN 1)) th (lN 0) ++ rest) := hD
      refine lv_iconst (v := nI 0) hx hb dX5_follow_42 (by decide) ?_
      refine st_i2 hx hb 5 dX5_follow_43 hl (by decide) rfl (fun ls hl => ?_)
      refine wLoopH t 0 (fun k H locs ls => ∃ nw2 th2 : Nat → Int64, (∀ x, x < 2145 → nw2 x = lN ((fNow g (gd i) td plan q k) x)) ∧ va_P E.1 vwCl (wM E am g hz n kd ch tm tx lm (fun j => nI (td j)) tr bs nw2 th2 (lN (fPd g (gd i) td plan q k)) ++ rest) H ∧ va_D (va_A (wM E am g hz n kd ch tm tx lm (fun j => nI (td j)) tr bs nw th pd ++ rest) s.heap.size) (wM E am g hz n kd ch tm tx lm (fun j => nI (td j)) tr bs nw2 th2 (lN (fPd g (gd i) td plan q k)) ++ rest) ∧ va_S (va_A (wM E am g hz n kd ch tm tx lm (fun j => nI (td j)) tr bs nw th pd ++ rest) s.heap.size) s.heap H locs ∧ lv_has ls 12 [(0, .ref (am 0)), (1, .int (nI plan)), (2, .int (nI i)), (3, .int (nI q)), (4, .int (nI t)), (5, .int (nI k))]) (Nat.zero_le _) (fun k H locs ls hi_k hI ihk => ?_) (fun H locs ls hI => ?_) ⟨_, th, fun x hx => by
          show vp_updL nw1 (65 * q + 1) (lN 1) x = lN (if x = 65 * q + 1 then 1 else 0)
          by_cases hxq : x = 65 * q + 1
          · rw [if_pos hxq, hxq]; exact pk_uLs
          · rw [if_neg hxq, pk_uLn hxq]; exact hn1 x hx, hP, hD, hS, hl⟩
      · skip
        obtain ⟨nw2, th2, hn2, hP, hD, hS, hl⟩ := hI
        have hsup := fNow_sup (td := td) (plan := plan) hg32 hd hq k
        refine lv_iload hx hb dX5_follow_45 (lv_at hl 5 rfl) ?_
        refine lv_iload hx hb dX5_follow_47 (lv_at hl 4 rfl) ?_
        refine n_ge hx hb (by omega) (by omega) 361 dX5_follow_49 (by decide) (fun c49 => ?_) (fun c49 => ?_)
        · skip
          exact absurd c49 (by omega)
        · skip
          refine lv_iconst (v := nI 0) hx hb dX5_follow_52 (by decide) ?_
          refine st_i2 hx hb 6 dX5_follow_53 hl (by decide) rfl (fun ls hl => ?_)
          refine wLoopH 2145 0 (fun x9 H locs ls => ∃ th3 : Nat → Int64, (∀ y, y < x9 → th3 y = lN 0) ∧ va_P E.1 vwCl (wM E am g hz n kd ch tm tx lm (fun j => nI (td j)) tr bs nw2 th3 (lN (fPd g (gd i) td plan q k)) ++ rest) H ∧ va_D (va_A (wM E am g hz n kd ch tm tx lm (fun j => nI (td j)) tr bs nw th pd ++ rest) s.heap.size) (wM E am g hz n kd ch tm tx lm (fun j => nI (td j)) tr bs nw2 th3 (lN (fPd g (gd i) td plan q k)) ++ rest) ∧ va_S (va_A (wM E am g hz n kd ch tm tx lm (fun j => nI (td j)) tr bs nw th pd ++ rest) s.heap.size) s.heap H locs ∧ lv_has ls 12 [(0, .ref (am 0)), (1, .int (nI plan)), (2, .int (nI i)), (3, .int (nI q)), (4, .int (nI t)), (5, .int (nI k)), (6, .int (nI x9))]) (Nat.zero_le _) (fun x9 H locs ls hi_x9 hI ihx => ?_) (fun H locs ls hI => ?_) ⟨th2, fun y hy => absurd hy (by omega), hP, hD, hS, hl⟩
          · skip
            obtain ⟨th3, hn3, hP, hD, hS, hl⟩ := hI
            refine lv_iload hx hb dX5_follow_55 (lv_at hl 6 rfl) ?_
            refine lv_sipush (v := nI 2145) hx hb dX5_follow_57 (by decide) ?_
            refine n_ge hx hb (by omega) (by omega) 77 dX5_follow_60 (by decide) (fun c60 => ?_) (fun c60 => ?_)
            · skip
              exact absurd c60 (by omega)
            · skip
              refine lv_aload_n hx hb dX5_follow_63 rfl (lv_at hl 0 rfl) ?_
              refine va_get (D := E.1) (ci := 5) (C := RX5) (T := TX5) (N := 14) hx hb hts hinX5 hown hE.1 hP 0 rfl rfl 12 (by decide) (hts (.fieldLink RX5 42 "StakeHouseModel" "then" "[J") (by decide +kernel)) (fun _ h9 => h9) rfl dX5_follow_64 ?_
              refine lv_iload hx hb dX5_follow_67 (lv_at hl 6 rfl) ?_
              refine lv_lconst (v := lN 0) hx hb dX5_follow_69 rfl ?_
              refine va_last hx hb hE.1 hP hD hS 9 1 rfl rfl (vp_in_nI (by omega) (by decide)) dX5_follow_70 (fun H locs hP hD hS => ?_)
              have hP : va_P E.1 vwCl (wM E am g hz n kd ch tm tx lm (fun j => nI (td j)) tr bs nw2 (vp_updL th3 x9 (lN 0)) (lN (fPd g (gd i) td plan q k)) ++ rest) H := (by rw [nI_clamp (by omega)] at hP; exact hP)
              have hD : va_D (va_A (wM E am g hz n kd ch tm tx lm (fun j => nI (td j)) tr bs nw th pd ++ rest) s.heap.size) (wM E am g hz n kd ch tm tx lm (fun j => nI (td j)) tr bs nw2 (vp_updL th3 x9 (lN 0)) (lN (fPd g (gd i) td plan q k)) ++ rest) := (by rw [nI_clamp (by omega)] at hD; exact hD)
              refine st_inc hx hb 6 dX5_follow_71 hl rfl (nI_1 _) (by decide) rfl (fun ls hl => ?_)
              refine lv_goto (tgt := 55) hx hb dX5_follow_74 (by decide) ?_
              refine ihx _ _ _ ⟨_, fun y hy => ?_, hP, hD, hS, hl⟩
              by_cases hyx : y = x9
              · subst hyx; exact pk_uLs
              · rw [pk_uLn hyx]; exact hn3 y (by omega)
          · skip
            obtain ⟨th3, hn3, hP, hD, hS, hl⟩ := hI
            refine lv_iload hx hb dX5_follow_55 (lv_at hl 6 rfl) ?_
            refine lv_sipush (v := nI 2145) hx hb dX5_follow_57 (by decide) ?_
            refine n_ge hx hb (by omega) (by omega) 77 dX5_follow_60 (by decide) (fun c60 => ?_) (fun c60 => ?_)
            · skip
              refine lv_aload_n hx hb dX5_follow_77 rfl (lv_at hl 0 rfl) ?_
              refine lv_dup hx hb dX5_follow_78 rfl ?_
              refine va_get (D := E.1) (ci := 5) (C := RX5) (T := TX5) (N := 14) hx hb hts hinX5 hown hE.1 hP 0 rfl rfl 13 (by decide) (hts (.fieldLink RX5 98 "StakeHouseModel" "played" "J") (by decide +kernel)) (fun _ h9 => h9) rfl dX5_follow_79 ?_
              refine lv_ldc2 (v := 16) hx hb hown (hts (.constantLong RX5 72 (16)) (by decide +kernel)) dX5_follow_82 ?_
              refine tp_l (show (16 : Int64) = lN 16 from rfl) ?_
              refine lv_lmul hx hb dX5_follow_85 ?_
              refine tp_l (lN_mul _ _) ?_
              refine va_put (D := E.1) (ci := 5) (ty := .long) (C := RX5) (T := TX5) (N := 14) hx hb hts hinX5 tyX5 tyX5_ok nmX5 hown hE.1 hP hD hS 0 rfl rfl 13 (by decide) (hts (.fieldLink RX5 98 "StakeHouseModel" "played" "J") (by decide +kernel)) (fun _ h9 => h9) rfl (by decide +kernel) rfl rfl (Nat.le_of_ble_eq_true rfl) dX5_follow_86 (fun H locs hP hD hS => ?_)
              have hP : va_P E.1 vwCl (wM E am g hz n kd ch tm tx lm (fun j => nI (td j)) tr bs nw2 th3 (lN ((fPd g (gd i) td plan q k) * 16)) ++ rest) H := hP
              have hD : va_D (va_A (wM E am g hz n kd ch tm tx lm (fun j => nI (td j)) tr bs nw th pd ++ rest) s.heap.size) (wM E am g hz n kd ch tm tx lm (fun j => nI (td j)) tr bs nw2 th3 (lN ((fPd g (gd i) td plan q k) * 16)) ++ rest) := hD
              refine lv_lconst (v := lN 0) hx hb dX5_follow_89 rfl ?_
              refine st_l2 hx hb 6 dX5_follow_90 hl (by decide) rfl (fun ls hl => ?_)
              refine lv_iconst (v := nI 0) hx hb dX5_follow_92 (by decide) ?_
              refine st_i2 hx hb 7 dX5_follow_93 hl (by decide) rfl (fun ls hl => ?_)
              refine wLoopH 2145 0 (fun m9 H locs ls => ∃ th4 : Nat → Int64, (∀ x, x < 2145 → th4 x = lN ((fT g (gd i) td plan (fNow g (gd i) td plan q k) m9) x)) ∧ va_P E.1 vwCl (wM E am g hz n kd ch tm tx lm (fun j => nI (td j)) tr bs nw2 th4 (lN ((fPd g (gd i) td plan q k) * 16)) ++ rest) H ∧ va_D (va_A (wM E am g hz n kd ch tm tx lm (fun j => nI (td j)) tr bs nw th pd ++ rest) s.heap.size) (wM E am g hz n kd ch tm tx lm (fun j => nI (td j)) tr bs nw2 th4 (lN ((fPd g (gd i) td plan q k) * 16)) ++ rest) ∧ va_S (va_A (wM E am g hz n kd ch tm tx lm (fun j => nI (td j)) tr bs nw th pd ++ rest) s.heap.size) s.heap H locs ∧ lv_has ls 12 [(0, .ref (am 0)), (1, .int (nI plan)), (2, .int (nI i)), (3, .int (nI q)), (4, .int (nI t)), (5, .int (nI k)), (6, .long (lN (fSo g (gd i) td plan (fNow g (gd i) td plan q k) m9))), (8, .int (nI m9))]) (Nat.zero_le _) (fun m9 H locs ls hi_m9 hI ihm => ?_) (fun H locs ls hI => ?_) ⟨th3, fun x hx => hn3 x hx, hP, hD, hS, hl⟩
              · skip
                obtain ⟨th4, hth, hP, hD, hS, hl⟩ := hI
                have hbm := fNow_le (td := td) (plan := plan) hg32 hd hq (k := k) (by omega) (show m9 < 2145 by omega)
                refine lv_iload hx hb dX5_follow_95 (lv_at hl 7 rfl) ?_
                refine lv_sipush (v := nI 2145) hx hb dX5_follow_97 (by decide) ?_
                refine n_ge hx hb (by omega) (by omega) 309 dX5_follow_100 (by decide) (fun c100 => ?_) (fun c100 => ?_)
                · skip
                  exact absurd c100 (by omega)
                · skip
                  refine lv_aload_n hx hb dX5_follow_103 rfl (lv_at hl 0 rfl) ?_
                  refine va_get (D := E.1) (ci := 5) (C := RX5) (T := TX5) (N := 14) hx hb hts hinX5 hown hE.1 hP 0 rfl rfl 11 (by decide) (hts (.fieldLink RX5 39 "StakeHouseModel" "now" "[J") (by decide +kernel)) (fun _ h9 => h9) rfl dX5_follow_104 ?_
                  refine lv_iload hx hb dX5_follow_107 (lv_at hl 7 rfl) ?_
                  refine va_lald hx hb hE.1 hP 8 1 rfl rfl (vp_in_nI (by omega) (by decide)) dX5_follow_109 ?_
                  refine tp_l (show _ = lN ((fNow g (gd i) td plan q k) m9) by rw [nI_clamp (by omega)]; exact hn2 m9 (by omega)) ?_
                  refine lv_lconst (v := lN 0) hx hb dX5_follow_110 rfl ?_
                  refine W.lcmp hx hb dX5_follow_111 ?_
                  refine lv_if_le (tgt := 303) hx hb dX5_follow_112 (by decide) (fun c112 => ?_) (fun c112 => ?_)
                  · skip
                    rw [lg_cmp_le, pk_lLE (by omega) (by decide)] at c112
                    have e0 : ((fNow g (gd i) td plan q k) m9) = 0 := by omega
                    refine st_inc hx hb 7 dX5_follow_303 hl rfl (nI_1 _) (by decide) rfl (fun ls hl => ?_)
                    refine lv_goto (tgt := 95) hx hb dX5_follow_306 (by decide) ?_
                    have e1 : (fT g (gd i) td plan (fNow g (gd i) td plan q k) (m9 + 1)) = (fT g (gd i) td plan (fNow g (gd i) td plan q k) m9) := if_pos e0
                    have e2 : (fSo g (gd i) td plan (fNow g (gd i) td plan q k) (m9 + 1)) = (fSo g (gd i) td plan (fNow g (gd i) td plan q k) m9) := if_pos e0
                    refine ihm _ _ _ ⟨th4, by rw [e1]; exact hth, hP, hD, hS, by rw [e2]; exact hl⟩
                  · skip
                    rw [lg_cmp_le, pk_lLE (by omega) (by decide)] at c112
                    have e0 : ¬ ((fNow g (gd i) td plan q k) m9) = 0 := by omega
                    have hm9 := hsup m9 e0
                    refine lv_iload hx hb dX5_follow_115 (lv_at hl 7 rfl) ?_
                    refine lv_bipush (v := nI 65) hx hb dX5_follow_117 (by decide) ?_
                    refine lv_idiv hx hb dX5_follow_119 (by decide) ?_
                    refine tp_i (pk_div (by omega) (by decide) (by decide)) ?_
                    refine st_i2 hx hb 8 dX5_follow_120 hl (by decide) rfl (fun ls hl => ?_)
                    refine lv_iload hx hb dX5_follow_122 (lv_at hl 7 rfl) ?_
                    refine lv_bipush (v := nI 65) hx hb dX5_follow_124 (by decide) ?_
                    refine lv_irem hx hb dX5_follow_126 (by decide) ?_
                    refine tp_i (pk_rem (by omega) (by decide) (by decide)) ?_
                    refine st_i2 hx hb 9 dX5_follow_127 hl (by decide) rfl (fun ls hl => ?_)
                    refine wCut (fun x : Int32 => F0 m 175 ls [.int x]) (fun x => x = nI (fS g (gd i) td plan m9)) ?_ ?_
                    · skip
                      intro x hx0
                      subst hx0
                      have hSl := fS_le (g := g) (td := td) (plan := plan) hd m9
                      refine st_i2 hx hb 10 dX5_follow_175 hl (by decide) rfl (fun ls hl => ?_)
                      refine lv_iload hx hb dX5_follow_177 (lv_at hl 10 rfl) ?_
                      refine z_ne hx hb (by omega) 206 dX5_follow_179 (by decide) (fun c179 => ?_) (fun c179 => ?_)
                      · skip
                        have hin := fS_in hd hm9.2 (show (fS g (gd i) td plan m9) ≠ 0 by omega)
                        have e1 : (fT g (gd i) td plan (fNow g (gd i) td plan q k) (m9 + 1)) = fAdd (fAdd (fT g (gd i) td plan (fNow g (gd i) td plan q k) m9) (fWn g (gd i) td plan m9) (gC (gd i) * ((fNow g (gd i) td plan q k) m9))) (fLs g (gd i) td plan m9) ((16 - gC (gd i)) * ((fNow g (gd i) td plan q k) m9)) := (if_neg e0).trans (if_neg (by omega))
                        have e2 : (fSo g (gd i) td plan (fNow g (gd i) td plan q k) (m9 + 1)) = (fSo g (gd i) td plan (fNow g (gd i) td plan q k) m9) + ((fNow g (gd i) td plan q k) m9) := (if_neg e0).trans (if_neg (by omega))
                        have hWn := fWn_lt (d := gd i) (td := td) (plan := plan) hg32 m9
                        have hLs := fLs_lt (td := td) (plan := plan) hg32 hd hm9.2 (show (fS g (gd i) td plan m9) ≠ 0 by omega)
                        refine lv_lload hx hb dX5_follow_206 (lv_at hl 6 rfl) ?_
                        refine lv_aload_n hx hb dX5_follow_208 rfl (lv_at hl 0 rfl) ?_
                        refine va_get (D := E.1) (ci := 5) (C := RX5) (T := TX5) (N := 14) hx hb hts hinX5 hown hE.1 hP 0 rfl rfl 11 (by decide) (hts (.fieldLink RX5 39 "StakeHouseModel" "now" "[J") (by decide +kernel)) (fun _ h9 => h9) rfl dX5_follow_209 ?_
                        refine lv_iload hx hb dX5_follow_212 (lv_at hl 7 rfl) ?_
                        refine va_lald hx hb hE.1 hP 8 1 rfl rfl (vp_in_nI (by omega) (by decide)) dX5_follow_214 ?_
                        refine tp_l (show _ = lN ((fNow g (gd i) td plan q k) m9) by rw [nI_clamp (by omega)]; exact hn2 m9 (by omega)) ?_
                        refine lv_ladd hx hb dX5_follow_215 ?_
                        refine tp_l (lN_add _ _) ?_
                        refine st_l2 hx hb 6 dX5_follow_216 hl (by decide) rfl (fun ls hl => ?_)
                        refine lv_aload_n hx hb dX5_follow_218 rfl (lv_at hl 0 rfl) ?_
                        refine va_get (D := E.1) (ci := 5) (C := RX5) (T := TX5) (N := 14) hx hb hts hinX5 hown hE.1 hP 0 rfl rfl 12 (by decide) (hts (.fieldLink RX5 42 "StakeHouseModel" "then" "[J") (by decide +kernel)) (fun _ h9 => h9) rfl dX5_follow_219 ?_
                        refine lv_bipush (v := nI 65) hx hb dX5_follow_222 (by decide) ?_
                        refine lv_aload_n hx hb dX5_follow_224 rfl (lv_at hl 0 rfl) ?_
                        refine lv_iload_n hx hb dX5_follow_225 rfl (lv_at hl 2 rfl) ?_
                        refine lv_iload hx hb dX5_follow_226 (lv_at hl 8 rfl) ?_
                        refine lv_iload hx hb dX5_follow_228 (lv_at hl 10 rfl) ?_
                        refine vp_callSi (W.runV ⟨hx, hb, hml, hown, hts⟩ (m_behind l E am g hz n kd ch tm tx lm (fun j => nI (td j)) tr bs nw2 th4 (lN ((fPd g (gd i) td plan q k) * 16)) rest hn gd hM hg32 i (m9 / 65) (fS g (gd i) td plan m9) hi (by omega) (by omega)) (cwV 3 hts gX5_follow_X5_behind rfl rfl rfl (by decide +kernel) ⟨Nat.le_of_ble_eq_true rfl, Nat.le_of_ble_eq_true rfl⟩) (ePu_V hP hE (ci := 5) (k := 0) rfl rfl) rfl rfl hl.1 rfl (lv_room (Nat.le_of_ble_eq_true rfl)) dX5_follow_230 ⟨Nat.zero_le _, Nat.zero_le _⟩) (fun r9 hr9 => ?_)
                        subst hr9
                        refine lv_imul hx hb dX5_follow_233 ?_
                        refine tp_i (pk_mul _ _) ?_
                        refine lv_iconst (v := nI 1) hx hb dX5_follow_234 (by decide) ?_
                        refine lv_iadd hx hb dX5_follow_235 ?_
                        refine tp_i (show _ = nI (fWn g (gd i) td plan m9) from nI_add _ _) ?_
                        refine lv_dup2_11 hx hb dX5_follow_236 rfl rfl ?_
                        refine va_lald hx hb hE.1 hP 9 1 rfl rfl (vp_in_nI (by omega) (by decide)) dX5_follow_237 ?_
                        refine tp_l (show _ = lN ((fT g (gd i) td plan (fNow g (gd i) td plan q k) m9) (fWn g (gd i) td plan m9)) by rw [nI_clamp (by omega)]; exact hth _ hWn.1) ?_
                        refine lv_aload_n hx hb dX5_follow_238 rfl (lv_at hl 0 rfl) ?_
                        refine va_get (D := E.1) (ci := 5) (C := RX5) (T := TX5) (N := 14) hx hb hts hinX5 hown hE.1 hP 0 rfl rfl 4 (by decide) (hts (.fieldLink RX5 20 "StakeHouseModel" "chance" "[I") (by decide +kernel)) (fun _ h9 => h9) rfl dX5_follow_239 ?_
                        refine lv_iload_n hx hb dX5_follow_242 rfl (lv_at hl 2 rfl) ?_
                        refine va_iald hx hb hE.1 hP 2 0 rfl rfl (vp_in_nI (by omega) (by decide)) dX5_follow_243 ?_
                        refine tp_i (show _ = nI (gC (gd i)) by rw [nI_clamp (by omega)]; exact (hM i hi).2.2.1) ?_
                        refine lv_i2l (v := lN _) hx hb dX5_follow_244 (nI_l (by omega)) ?_
                        refine lv_aload_n hx hb dX5_follow_245 rfl (lv_at hl 0 rfl) ?_
                        refine va_get (D := E.1) (ci := 5) (C := RX5) (T := TX5) (N := 14) hx hb hts hinX5 hown hE.1 hP 0 rfl rfl 11 (by decide) (hts (.fieldLink RX5 39 "StakeHouseModel" "now" "[J") (by decide +kernel)) (fun _ h9 => h9) rfl dX5_follow_246 ?_
                        refine lv_iload hx hb dX5_follow_249 (lv_at hl 7 rfl) ?_
                        refine va_lald hx hb hE.1 hP 8 1 rfl rfl (vp_in_nI (by omega) (by decide)) dX5_follow_251 ?_
                        refine tp_l (show _ = lN ((fNow g (gd i) td plan q k) m9) by rw [nI_clamp (by omega)]; exact hn2 m9 (by omega)) ?_
                        refine lv_lmul hx hb dX5_follow_252 ?_
                        refine tp_l (lN_mul _ _) ?_
                        refine lv_ladd hx hb dX5_follow_253 ?_
                        refine tp_l (lN_add _ _) ?_
                        refine va_last hx hb hE.1 hP hD hS 9 1 rfl rfl (vp_in_nI (by omega) (by decide)) dX5_follow_254 (fun H locs hP hD hS => ?_)
                        have hP : va_P E.1 vwCl (wM E am g hz n kd ch tm tx lm (fun j => nI (td j)) tr bs nw2 (vp_updL th4 (fWn g (gd i) td plan m9) (lN ((fT g (gd i) td plan (fNow g (gd i) td plan q k) m9) (fWn g (gd i) td plan m9) + gC (gd i) * ((fNow g (gd i) td plan q k) m9)))) (lN ((fPd g (gd i) td plan q k) * 16)) ++ rest) H := (by rw [nI_clamp (by omega)] at hP; exact hP)
                        have hD : va_D (va_A (wM E am g hz n kd ch tm tx lm (fun j => nI (td j)) tr bs nw th pd ++ rest) s.heap.size) (wM E am g hz n kd ch tm tx lm (fun j => nI (td j)) tr bs nw2 (vp_updL th4 (fWn g (gd i) td plan m9) (lN ((fT g (gd i) td plan (fNow g (gd i) td plan q k) m9) (fWn g (gd i) td plan m9) + gC (gd i) * ((fNow g (gd i) td plan q k) m9)))) (lN ((fPd g (gd i) td plan q k) * 16)) ++ rest) := (by rw [nI_clamp (by omega)] at hD; exact hD)
                        have hth2 := th_add (a := fWn g (gd i) td plan m9) (v := gC (gd i) * ((fNow g (gd i) td plan q k) m9)) hth
                        refine lv_aload_n hx hb dX5_follow_255 rfl (lv_at hl 0 rfl) ?_
                        refine va_get (D := E.1) (ci := 5) (C := RX5) (T := TX5) (N := 14) hx hb hts hinX5 hown hE.1 hP 0 rfl rfl 12 (by decide) (hts (.fieldLink RX5 42 "StakeHouseModel" "then" "[J") (by decide +kernel)) (fun _ h9 => h9) rfl dX5_follow_256 ?_
                        refine lv_bipush (v := nI 65) hx hb dX5_follow_259 (by decide) ?_
                        refine lv_iload hx hb dX5_follow_261 (lv_at hl 8 rfl) ?_
                        refine lv_iload hx hb dX5_follow_263 (lv_at hl 10 rfl) ?_
                        refine lv_isub hx hb dX5_follow_265 ?_
                        refine tp_i (pk_sub (by omega)) ?_
                        refine lv_imul hx hb dX5_follow_266 ?_
                        refine tp_i (pk_mul _ _) ?_
                        refine wCut (fun x : Int32 => F0 m 280 ls [.int x, .int (nI (65 * (m9 / 65 - (fS g (gd i) td plan m9)))), .ref (am 9)]) (fun x => x = nI (if plan = 3 then 2 * (fS g (gd i) td plan m9) else 1)) ?_ ?_
                        · skip
                          intro x hx0
                          subst hx0
                          refine lv_iadd hx hb dX5_follow_280 ?_
                          refine tp_i (show _ = nI (fLs g (gd i) td plan m9) from nI_add _ _) ?_
                          refine lv_dup2_11 hx hb dX5_follow_281 rfl rfl ?_
                          refine va_lald hx hb hE.1 hP 9 1 rfl rfl (vp_in_nI (by omega) (by decide)) dX5_follow_282 ?_
                          refine tp_l (show _ = lN ((fAdd (fT g (gd i) td plan (fNow g (gd i) td plan q k) m9) (fWn g (gd i) td plan m9) (gC (gd i) * ((fNow g (gd i) td plan q k) m9))) (fLs g (gd i) td plan m9)) by rw [nI_clamp (by omega)]; exact hth2 _ hLs.1) ?_
                          refine lv_bipush (v := nI 16) hx hb dX5_follow_283 (by decide) ?_
                          refine lv_aload_n hx hb dX5_follow_285 rfl (lv_at hl 0 rfl) ?_
                          refine va_get (D := E.1) (ci := 5) (C := RX5) (T := TX5) (N := 14) hx hb hts hinX5 hown hE.1 hP 0 rfl rfl 4 (by decide) (hts (.fieldLink RX5 20 "StakeHouseModel" "chance" "[I") (by decide +kernel)) (fun _ h9 => h9) rfl dX5_follow_286 ?_
                          refine lv_iload_n hx hb dX5_follow_289 rfl (lv_at hl 2 rfl) ?_
                          refine va_iald hx hb hE.1 hP 2 0 rfl rfl (vp_in_nI (by omega) (by decide)) dX5_follow_290 ?_
                          refine tp_i (show _ = nI (gC (gd i)) by rw [nI_clamp (by omega)]; exact (hM i hi).2.2.1) ?_
                          refine lv_isub hx hb dX5_follow_291 ?_
                          refine tp_i (pk_sub hC) ?_
                          refine lv_i2l (v := lN _) hx hb dX5_follow_292 (nI_l (by omega)) ?_
                          refine lv_aload_n hx hb dX5_follow_293 rfl (lv_at hl 0 rfl) ?_
                          refine va_get (D := E.1) (ci := 5) (C := RX5) (T := TX5) (N := 14) hx hb hts hinX5 hown hE.1 hP 0 rfl rfl 11 (by decide) (hts (.fieldLink RX5 39 "StakeHouseModel" "now" "[J") (by decide +kernel)) (fun _ h9 => h9) rfl dX5_follow_294 ?_
                          refine lv_iload hx hb dX5_follow_297 (lv_at hl 7 rfl) ?_
                          refine va_lald hx hb hE.1 hP 8 1 rfl rfl (vp_in_nI (by omega) (by decide)) dX5_follow_299 ?_
                          refine tp_l (show _ = lN ((fNow g (gd i) td plan q k) m9) by rw [nI_clamp (by omega)]; exact hn2 m9 (by omega)) ?_
                          refine lv_lmul hx hb dX5_follow_300 ?_
                          refine tp_l (lN_mul _ _) ?_
                          refine lv_ladd hx hb dX5_follow_301 ?_
                          refine tp_l (lN_add _ _) ?_
                          refine va_last hx hb hE.1 hP hD hS 9 1 rfl rfl (vp_in_nI (by omega) (by decide)) dX5_follow_302 (fun H locs hP hD hS => ?_)
                          have hP : va_P E.1 vwCl (wM E am g hz n kd ch tm tx lm (fun j => nI (td j)) tr bs nw2 (vp_updL (vp_updL th4 (fWn g (gd i) td plan m9) (lN ((fT g (gd i) td plan (fNow g (gd i) td plan q k) m9) (fWn g (gd i) td plan m9) + gC (gd i) * ((fNow g (gd i) td plan q k) m9)))) (fLs g (gd i) td plan m9) (lN ((fAdd (fT g (gd i) td plan (fNow g (gd i) td plan q k) m9) (fWn g (gd i) td plan m9) (gC (gd i) * ((fNow g (gd i) td plan q k) m9))) (fLs g (gd i) td plan m9) + (16 - gC (gd i)) * ((fNow g (gd i) td plan q k) m9)))) (lN ((fPd g (gd i) td plan q k) * 16)) ++ rest) H := (by rw [nI_clamp (by omega)] at hP; exact hP)
                          have hD : va_D (va_A (wM E am g hz n kd ch tm tx lm (fun j => nI (td j)) tr bs nw th pd ++ rest) s.heap.size) (wM E am g hz n kd ch tm tx lm (fun j => nI (td j)) tr bs nw2 (vp_updL (vp_updL th4 (fWn g (gd i) td plan m9) (lN ((fT g (gd i) td plan (fNow g (gd i) td plan q k) m9) (fWn g (gd i) td plan m9) + gC (gd i) * ((fNow g (gd i) td plan q k) m9)))) (fLs g (gd i) td plan m9) (lN ((fAdd (fT g (gd i) td plan (fNow g (gd i) td plan q k) m9) (fWn g (gd i) td plan m9) (gC (gd i) * ((fNow g (gd i) td plan q k) m9))) (fLs g (gd i) td plan m9) + (16 - gC (gd i)) * ((fNow g (gd i) td plan q k) m9)))) (lN ((fPd g (gd i) td plan q k) * 16)) ++ rest) := (by rw [nI_clamp (by omega)] at hD; exact hD)
                          refine st_inc hx hb 7 dX5_follow_303 hl rfl (nI_1 _) (by decide) rfl (fun ls hl => ?_)
                          refine lv_goto (tgt := 95) hx hb dX5_follow_306 (by decide) ?_
                          refine ihm _ _ _ ⟨_, by rw [e1]; exact th_add hth2, hP, hD, hS, by rw [e2]; exact lv_sub hl [0, 1, 2, 3, 4, 5, 6, 7] rfl⟩
                        · skip
                          intro K
                          refine lv_iload_n hx hb dX5_follow_267 rfl (lv_at hl 1 rfl) ?_
                          refine lv_iconst (v := nI 3) hx hb dX5_follow_268 (by decide) ?_
                          refine n_ne hx hb (by omega) (by omega) 279 dX5_follow_269 (by decide) (fun c269 => ?_) (fun c269 => ?_)
                          · skip
                            refine lv_iconst (v := nI 1) hx hb dX5_follow_279 (by decide) ?_
                            exact K _ (by rw [if_neg c269])
                          · skip
                            refine lv_iconst (v := nI 2) hx hb dX5_follow_272 (by decide) ?_
                            refine lv_iload hx hb dX5_follow_273 (lv_at hl 10 rfl) ?_
                            refine lv_imul hx hb dX5_follow_275 ?_
                            refine tp_i (pk_mul _ _) ?_
                            refine lv_goto (tgt := 280) hx hb dX5_follow_276 (by decide) ?_
                            exact K _ (by rw [if_pos c269])
                      · skip
                        have e1 : (fT g (gd i) td plan (fNow g (gd i) td plan q k) (m9 + 1)) = fAdd (fT g (gd i) td plan (fNow g (gd i) td plan q k) m9) m9 (16 * ((fNow g (gd i) td plan q k) m9)) := (if_neg e0).trans (if_pos c179)
                        have e2 : (fSo g (gd i) td plan (fNow g (gd i) td plan q k) (m9 + 1)) = (fSo g (gd i) td plan (fNow g (gd i) td plan q k) m9) := (if_neg e0).trans (if_pos c179)
                        refine lv_aload_n hx hb dX5_follow_182 rfl (lv_at hl 0 rfl) ?_
                        refine va_get (D := E.1) (ci := 5) (C := RX5) (T := TX5) (N := 14) hx hb hts hinX5 hown hE.1 hP 0 rfl rfl 12 (by decide) (hts (.fieldLink RX5 42 "StakeHouseModel" "then" "[J") (by decide +kernel)) (fun _ h9 => h9) rfl dX5_follow_183 ?_
                        refine lv_iload hx hb dX5_follow_186 (lv_at hl 7 rfl) ?_
                        refine lv_dup2_11 hx hb dX5_follow_188 rfl rfl ?_
                        refine va_lald hx hb hE.1 hP 9 1 rfl rfl (vp_in_nI (by omega) (by decide)) dX5_follow_189 ?_
                        refine tp_l (show _ = lN ((fT g (gd i) td plan (fNow g (gd i) td plan q k) m9) m9) by rw [nI_clamp (by omega)]; exact hth _ (by omega)) ?_
                        refine lv_ldc2 (v := 16) hx hb hown (hts (.constantLong RX5 72 (16)) (by decide +kernel)) dX5_follow_190 ?_
                        refine tp_l (show (16 : Int64) = lN 16 from rfl) ?_
                        refine lv_aload_n hx hb dX5_follow_193 rfl (lv_at hl 0 rfl) ?_
                        refine va_get (D := E.1) (ci := 5) (C := RX5) (T := TX5) (N := 14) hx hb hts hinX5 hown hE.1 hP 0 rfl rfl 11 (by decide) (hts (.fieldLink RX5 39 "StakeHouseModel" "now" "[J") (by decide +kernel)) (fun _ h9 => h9) rfl dX5_follow_194 ?_
                        refine lv_iload hx hb dX5_follow_197 (lv_at hl 7 rfl) ?_
                        refine va_lald hx hb hE.1 hP 8 1 rfl rfl (vp_in_nI (by omega) (by decide)) dX5_follow_199 ?_
                        refine tp_l (show _ = lN ((fNow g (gd i) td plan q k) m9) by rw [nI_clamp (by omega)]; exact hn2 m9 (by omega)) ?_
                        refine lv_lmul hx hb dX5_follow_200 ?_
                        refine tp_l (lN_mul _ _) ?_
                        refine lv_ladd hx hb dX5_follow_201 ?_
                        refine tp_l (lN_add _ _) ?_
                        refine va_last hx hb hE.1 hP hD hS 9 1 rfl rfl (vp_in_nI (by omega) (by decide)) dX5_follow_202 (fun H locs hP hD hS => ?_)
                        have hP : va_P E.1 vwCl (wM E am g hz n kd ch tm tx lm (fun j => nI (td j)) tr bs nw2 (vp_updL th4 m9 (lN ((fT g (gd i) td plan (fNow g (gd i) td plan q k) m9) m9 + 16 * ((fNow g (gd i) td plan q k) m9)))) (lN ((fPd g (gd i) td plan q k) * 16)) ++ rest) H := (by rw [nI_clamp (by omega)] at hP; exact hP)
                        have hD : va_D (va_A (wM E am g hz n kd ch tm tx lm (fun j => nI (td j)) tr bs nw th pd ++ rest) s.heap.size) (wM E am g hz n kd ch tm tx lm (fun j => nI (td j)) tr bs nw2 (vp_updL th4 m9 (lN ((fT g (gd i) td plan (fNow g (gd i) td plan q k) m9) m9 + 16 * ((fNow g (gd i) td plan q k) m9)))) (lN ((fPd g (gd i) td plan q k) * 16)) ++ rest) := (by rw [nI_clamp (by omega)] at hD; exact hD)
                        refine lv_goto (tgt := 303) hx hb dX5_follow_203 (by decide) ?_
                        refine st_inc hx hb 7 dX5_follow_303 hl rfl (nI_1 _) (by decide) rfl (fun ls hl => ?_)
                        refine lv_goto (tgt := 95) hx hb dX5_follow_306 (by decide) ?_
                        refine ihm _ _ _ ⟨_, by rw [e1]; exact th_add hth, hP, hD, hS, by rw [e2]; exact lv_sub hl [0, 1, 2, 3, 4, 5, 6, 7] rfl⟩
                    · skip
                      intro K
                      refine lv_iload hx hb dX5_follow_129 (lv_at hl 8 rfl) ?_
                      refine z_eq hx hb (by omega) 143 dX5_follow_131 (by decide) (fun c131 => ?_) (fun c131 => ?_)
                      · skip
                        refine lv_iconst (v := nI 0) hx hb dX5_follow_143 (by decide) ?_
                        refine lv_goto (tgt := 175) hx hb dX5_follow_144 (by decide) ?_
                        exact K _ (show nI 0 = nI (fS g (gd i) td plan m9) from congrArg nI (show 0 = (fS g (gd i) td plan m9) from (if_pos (Or.inl c131)).symm))
                      · skip
                        refine lv_iload hx hb dX5_follow_134 (lv_at hl 8 rfl) ?_
                        refine lv_aload_n hx hb dX5_follow_136 rfl (lv_at hl 0 rfl) ?_
                        refine va_get (D := E.1) (ci := 5) (C := RX5) (T := TX5) (N := 14) hx hb hts hinX5 hown hE.1 hP 0 rfl rfl 0 (by decide) (hts (.fieldLink RX5 7 "StakeHouseModel" "goal" "I") (by decide +kernel)) (fun _ h9 => h9) rfl dX5_follow_137 ?_
                        refine n_ne hx hb (by omega) (by omega) 147 dX5_follow_140 (by decide) (fun c140 => ?_) (fun c140 => ?_)
                        · skip
                          refine lv_iload_n hx hb dX5_follow_147 rfl (lv_at hl 1 rfl) ?_
                          refine lv_iconst (v := nI 3) hx hb dX5_follow_148 (by decide) ?_
                          refine n_ne hx hb (by omega) (by omega) 167 dX5_follow_149 (by decide) (fun c149 => ?_) (fun c149 => ?_)
                          · skip
                            refine lv_aload_n hx hb dX5_follow_167 rfl (lv_at hl 0 rfl) ?_
                            refine lv_iload_n hx hb dX5_follow_168 rfl (lv_at hl 1 rfl) ?_
                            refine lv_iload_n hx hb dX5_follow_169 rfl (lv_at hl 2 rfl) ?_
                            refine lv_iload hx hb dX5_follow_170 (lv_at hl 8 rfl) ?_
                            refine vp_callSi (W.runV ⟨hx, hb, hml, hown, hts⟩ (m_stakeOf l E am g hz n kd ch tm tx lm td tr bs nw2 th4 (lN ((fPd g (gd i) td plan q k) * 16)) rest hn gd hM hg32 htd2 plan i (m9 / 65) (by omega) hi (by omega) (by omega)) (cwV 3 hts gX5_follow_X5_stakeOf rfl rfl rfl (by decide +kernel) ⟨Nat.le_of_ble_eq_true rfl, Nat.le_of_ble_eq_true rfl⟩) (ePu_V hP hE (ci := 5) (k := 0) rfl rfl) rfl rfl hl.1 rfl (lv_room (Nat.le_of_ble_eq_true rfl)) dX5_follow_172 ⟨Nat.zero_le _, Nat.zero_le _⟩) (fun r9 hr9 => ?_)
                            subst hr9
                            exact K _ (congrArg nI (show _ = (fS g (gd i) td plan m9) from ((if_neg (by omega)).trans (if_neg c149)).symm))
                          · skip
                            refine lv_iload hx hb dX5_follow_152 (lv_at hl 9 rfl) ?_
                            refine lv_aload_n hx hb dX5_follow_154 rfl (lv_at hl 0 rfl) ?_
                            refine lv_iload_n hx hb dX5_follow_155 rfl (lv_at hl 2 rfl) ?_
                            refine lv_iload hx hb dX5_follow_156 (lv_at hl 8 rfl) ?_
                            refine vp_callSi (W.runV ⟨hx, hb, hml, hown, hts⟩ (m_mostAt l E am g hz n kd ch tm tx lm (fun j => nI (td j)) tr bs nw2 th4 (lN ((fPd g (gd i) td plan q k) * 16)) rest hn gd hM i (m9 / 65) hi (by omega)) (cwV 2 hts gX5_follow_X5_mostAt rfl rfl rfl (by decide +kernel) ⟨Nat.le_of_ble_eq_true rfl, Nat.le_of_ble_eq_true rfl⟩) (ePu_V hP hE (ci := 5) (k := 0) rfl rfl) rfl rfl hl.1 rfl (lv_room (Nat.le_of_ble_eq_true rfl)) dX5_follow_158 ⟨Nat.zero_le _, Nat.zero_le _⟩) (fun r9 hr9 => ?_)
                            subst hr9
                            refine vp_callSi (W.runS ⟨hx, hb, hml, hown, hts⟩ (m_least l E _ _ _ (by omega) (by omega)) (va_cwS 2 hts gX5_follow_X5_least rfl rfl rfl (by decide +kernel) ⟨Nat.le_of_ble_eq_true rfl, Nat.le_of_ble_eq_true rfl⟩) (ePu_S hP hE) rfl rfl hl.1 rfl (lv_room (Nat.le_of_ble_eq_true rfl)) dX5_follow_161 ⟨Nat.zero_le _, Nat.zero_le _⟩) (fun r9 hr9 => ?_)
                            subst hr9
                            refine lv_goto (tgt := 175) hx hb dX5_follow_164 (by decide) ?_
                            exact K _ (congrArg nI (show _ = (fS g (gd i) td plan m9) from ((if_neg (by omega)).trans (if_pos c149)).symm))
                        · skip
                          refine lv_iconst (v := nI 0) hx hb dX5_follow_143 (by decide) ?_
                          refine lv_goto (tgt := 175) hx hb dX5_follow_144 (by decide) ?_
                          exact K _ (show nI 0 = nI (fS g (gd i) td plan m9) from congrArg nI (show 0 = (fS g (gd i) td plan m9) from (if_pos (Or.inr c140)).symm))
              · skip
                obtain ⟨th4, hth, hP, hD, hS, hl⟩ := hI
                refine lv_iload hx hb dX5_follow_95 (lv_at hl 7 rfl) ?_
                refine lv_sipush (v := nI 2145) hx hb dX5_follow_97 (by decide) ?_
                refine n_ge hx hb (by omega) (by omega) 309 dX5_follow_100 (by decide) (fun c100 => ?_) (fun c100 => ?_)
                · skip
                  refine lv_aload_n hx hb dX5_follow_309 rfl (lv_at hl 0 rfl) ?_
                  refine lv_dup hx hb dX5_follow_310 rfl ?_
                  refine va_get (D := E.1) (ci := 5) (C := RX5) (T := TX5) (N := 14) hx hb hts hinX5 hown hE.1 hP 0 rfl rfl 13 (by decide) (hts (.fieldLink RX5 98 "StakeHouseModel" "played" "J") (by decide +kernel)) (fun _ h9 => h9) rfl dX5_follow_311 ?_
                  refine lv_ldc2 (v := 16) hx hb hown (hts (.constantLong RX5 72 (16)) (by decide +kernel)) dX5_follow_314 ?_
                  refine tp_l (show (16 : Int64) = lN 16 from rfl) ?_
                  refine lv_lload hx hb dX5_follow_317 (lv_at hl 6 rfl) ?_
                  refine lv_lmul hx hb dX5_follow_319 ?_
                  refine tp_l (lN_mul _ _) ?_
                  refine lv_ladd hx hb dX5_follow_320 ?_
                  refine tp_l (show _ = lN (fPd g (gd i) td plan q (k + 1)) by rw [lN_add, Nat.mul_comm]; rfl) ?_
                  refine va_put (D := E.1) (ci := 5) (ty := .long) (C := RX5) (T := TX5) (N := 14) hx hb hts hinX5 tyX5 tyX5_ok nmX5 hown hE.1 hP hD hS 0 rfl rfl 13 (by decide) (hts (.fieldLink RX5 98 "StakeHouseModel" "played" "J") (by decide +kernel)) (fun _ h9 => h9) rfl (by decide +kernel) rfl rfl (Nat.le_of_ble_eq_true rfl) dX5_follow_321 (fun H locs hP hD hS => ?_)
                  have hP : va_P E.1 vwCl (wM E am g hz n kd ch tm tx lm (fun j => nI (td j)) tr bs nw2 th4 (lN (fPd g (gd i) td plan q (k + 1))) ++ rest) H := hP
                  have hD : va_D (va_A (wM E am g hz n kd ch tm tx lm (fun j => nI (td j)) tr bs nw th pd ++ rest) s.heap.size) (wM E am g hz n kd ch tm tx lm (fun j => nI (td j)) tr bs nw2 th4 (lN (fPd g (gd i) td plan q (k + 1))) ++ rest) := hD
                  refine lv_iconst (v := nI 0) hx hb dX5_follow_324 (by decide) ?_
                  refine st_i2 hx hb 7 dX5_follow_325 hl (by decide) rfl (fun ls hl => ?_)
                  refine wLoopH 2145 0 (fun x9 H locs ls => ∃ nw3 : Nat → Int64, (∀ y, y < x9 → nw3 y = lN ((fNow g (gd i) td plan q (k + 1)) y)) ∧ va_P E.1 vwCl (wM E am g hz n kd ch tm tx lm (fun j => nI (td j)) tr bs nw3 th4 (lN (fPd g (gd i) td plan q (k + 1))) ++ rest) H ∧ va_D (va_A (wM E am g hz n kd ch tm tx lm (fun j => nI (td j)) tr bs nw th pd ++ rest) s.heap.size) (wM E am g hz n kd ch tm tx lm (fun j => nI (td j)) tr bs nw3 th4 (lN (fPd g (gd i) td plan q (k + 1))) ++ rest) ∧ va_S (va_A (wM E am g hz n kd ch tm tx lm (fun j => nI (td j)) tr bs nw th pd ++ rest) s.heap.size) s.heap H locs ∧ lv_has ls 12 [(0, .ref (am 0)), (1, .int (nI plan)), (2, .int (nI i)), (3, .int (nI q)), (4, .int (nI t)), (5, .int (nI k)), (6, .long (lN (fSo g (gd i) td plan (fNow g (gd i) td plan q k) 2145))), (8, .int (nI x9))]) (Nat.zero_le _) (fun x9 H locs ls hi_x9 hI ihx => ?_) (fun H locs ls hI => ?_) ⟨nw2, fun y hy => absurd hy (by omega), hP, hD, hS, hl⟩
                  · skip
                    obtain ⟨nw3, hn3, hP, hD, hS, hl⟩ := hI
                    refine lv_iload hx hb dX5_follow_327 (lv_at hl 7 rfl) ?_
                    refine lv_sipush (v := nI 2145) hx hb dX5_follow_329 (by decide) ?_
                    refine n_ge hx hb (by omega) (by omega) 355 dX5_follow_332 (by decide) (fun c332 => ?_) (fun c332 => ?_)
                    · skip
                      exact absurd c332 (by omega)
                    · skip
                      refine lv_aload_n hx hb dX5_follow_335 rfl (lv_at hl 0 rfl) ?_
                      refine va_get (D := E.1) (ci := 5) (C := RX5) (T := TX5) (N := 14) hx hb hts hinX5 hown hE.1 hP 0 rfl rfl 11 (by decide) (hts (.fieldLink RX5 39 "StakeHouseModel" "now" "[J") (by decide +kernel)) (fun _ h9 => h9) rfl dX5_follow_336 ?_
                      refine lv_iload hx hb dX5_follow_339 (lv_at hl 7 rfl) ?_
                      refine lv_aload_n hx hb dX5_follow_341 rfl (lv_at hl 0 rfl) ?_
                      refine va_get (D := E.1) (ci := 5) (C := RX5) (T := TX5) (N := 14) hx hb hts hinX5 hown hE.1 hP 0 rfl rfl 12 (by decide) (hts (.fieldLink RX5 42 "StakeHouseModel" "then" "[J") (by decide +kernel)) (fun _ h9 => h9) rfl dX5_follow_342 ?_
                      refine lv_iload hx hb dX5_follow_345 (lv_at hl 7 rfl) ?_
                      refine va_lald hx hb hE.1 hP 9 1 rfl rfl (vp_in_nI (by omega) (by decide)) dX5_follow_347 ?_
                      refine tp_l (show _ = lN ((fT g (gd i) td plan (fNow g (gd i) td plan q k) 2145) x9) by rw [nI_clamp (by omega)]; exact hth _ (by omega)) ?_
                      refine va_last hx hb hE.1 hP hD hS 8 1 rfl rfl (vp_in_nI (by omega) (by decide)) dX5_follow_348 (fun H locs hP hD hS => ?_)
                      have hP : va_P E.1 vwCl (wM E am g hz n kd ch tm tx lm (fun j => nI (td j)) tr bs (vp_updL nw3 x9 (lN ((fT g (gd i) td plan (fNow g (gd i) td plan q k) 2145) x9))) th4 (lN (fPd g (gd i) td plan q (k + 1))) ++ rest) H := (by rw [nI_clamp (by omega)] at hP; exact hP)
                      have hD : va_D (va_A (wM E am g hz n kd ch tm tx lm (fun j => nI (td j)) tr bs nw th pd ++ rest) s.heap.size) (wM E am g hz n kd ch tm tx lm (fun j => nI (td j)) tr bs (vp_updL nw3 x9 (lN ((fT g (gd i) td plan (fNow g (gd i) td plan q k) 2145) x9))) th4 (lN (fPd g (gd i) td plan q (k + 1))) ++ rest) := (by rw [nI_clamp (by omega)] at hD; exact hD)
                      refine st_inc hx hb 7 dX5_follow_349 hl rfl (nI_1 _) (by decide) rfl (fun ls hl => ?_)
                      refine lv_goto (tgt := 327) hx hb dX5_follow_352 (by decide) ?_
                      refine ihx _ _ _ ⟨_, fun y hy => ?_, hP, hD, hS, hl⟩
                      by_cases hyx : y = x9
                      · subst hyx; exact pk_uLs
                      · rw [pk_uLn hyx]; exact hn3 y (by omega)
                  · skip
                    obtain ⟨nw3, hn3, hP, hD, hS, hl⟩ := hI
                    refine lv_iload hx hb dX5_follow_327 (lv_at hl 7 rfl) ?_
                    refine lv_sipush (v := nI 2145) hx hb dX5_follow_329 (by decide) ?_
                    refine n_ge hx hb (by omega) (by omega) 355 dX5_follow_332 (by decide) (fun c332 => ?_) (fun c332 => ?_)
                    · skip
                      refine st_inc hx hb 5 dX5_follow_355 hl rfl (nI_1 _) (by decide) rfl (fun ls hl => ?_)
                      refine lv_goto (tgt := 45) hx hb dX5_follow_358 (by decide) ?_
                      exact ihk _ _ _ ⟨nw3, th4, hn3, hP, hD, hS, lv_sub hl [0, 1, 2, 3, 4, 5] rfl⟩
                    · skip
                      exact absurd c332 (by omega)
                · skip
                  exact absurd c100 (by omega)
            · skip
              exact absurd c60 (by omega)
      · skip
        obtain ⟨nw2, th2, hn2, hP, hD, hS, hl⟩ := hI
        refine lv_iload hx hb dX5_follow_45 (lv_at hl 5 rfl) ?_
        refine lv_iload hx hb dX5_follow_47 (lv_at hl 4 rfl) ?_
        refine n_ge hx hb (by omega) (by omega) 361 dX5_follow_49 (by decide) (fun c49 => ?_) (fun c49 => ?_)
        · skip
          exact ret_Wv hx hb hr hlocks dX5_follow_361 hP hD hS ⟨nw2, th2, hn2, rfl⟩
        · skip
          exact absurd c49 (by omega)
    · skip
      exact absurd c8 (by omega)
set_option maxHeartbeats 4000000 in
set_option maxRecDepth 100000 in
/-- plan -/
theorem m_plan (l : Launch) (E : eT) (am : Nat → Nat) (g hz n : Nat) (kd ch tm tx lm : Nat → Int32) (td : Nat → Nat) (tr : Int64) (bs nw th : Nat → Int64) (pd : Int64) (rest : va_W) (hn : n ≤ 4) (gd : Nat → gT) (hM : ∀ i, i < n → gArg (gd i) (kd i) (ch i) (tm i) (tx i) (lm i)) (hg2 : 2 ≤ g) (hg32 : g ≤ 32) (hhz : hz ≤ 12) (htd2 : ∀ j, td j ≤ 32) (pv iv qv tv wv : Int32) : mWl l yX5_plan wsX5_plan 3 85 0 0 E (wM E am g hz n kd ch tm tx lm (fun j => nI (td j)) tr bs nw th pd ++ rest) [.ref (am 0), .int pv, .int iv, .int qv, .int tv, .int wv] (fun r ws1 => pln_of g hz n gd td pv iv qv tv wv r ∧ ∃ (nw1 th1 : Nat → Int64) (pd1 : Int64), ws1 = wM E am g hz n kd ch tm tx lm (fun j => nI (td j)) tr bs nw1 th1 pd1 ++ rest) := by
  intro sz
  refine mW_of (cc := cX5_plan) (maxL := 9) (ret := (some .long)) (Qc := fun sz => va_Ql (fun r ws1 => pln_of g hz n gd td pv iv qv tv wv r ∧ ∃ (nw1 th1 : Nat → Int64) (pd1 : Int64), ws1 = wM E am g hz n kd ch tm tx lm (fun j => nI (td j)) tr bs nw1 th1 pd1 ++ rest) (eAt E (va_A (wM E am g hz n kd ch tm tx lm (fun j => nI (td j)) tr bs nw th pd ++ rest) sz)) (va_A (wM E am g hz n kd ch tm tx lm (fun j => nI (td j)) tr bs nw th pd ++ rest) sz)) (by decide) rfl (Nat.le_of_ble_eq_true rfl) ?_
  intro p0 e0 s m below meth c0 ls hx hb hr hml hts hown hlocks hin hE hP hD hl
  have hS : va_S (va_A (wM E am g hz n kd ch tm tx lm (fun j => nI (td j)) tr bs nw th pd ++ rest) s.heap.size) s.heap s.heap [] := va_S.rf
  have hA : ∀ q, s.heap.size ≤ q → (va_A (wM E am g hz n kd ch tm tx lm (fun j => nI (td j)) tr bs nw th pd ++ rest) s.heap.size) q := fun q h => Or.inr h
  have hown : s.vm.findClass RX5 = some m.cls := hown
  have hl : lv_has ls 9 [(0, .ref (am 0)), (1, .int pv), (2, .int iv), (3, .int qv), (4, .int tv), (5, .int wv)] := hl
  have hinX5 : ∀ w ∈ wsX50, w ∈ wsX5_plan := by decide +kernel
  refine lv_iload_n hx hb dX5_plan_0 rfl (lv_at hl 1 rfl) ?_
  refine lv_iconst (v := nI 0) hx hb dX5_plan_1 (by decide) ?_
  refine lv_iconst (v := nI 3) hx hb dX5_plan_2 (by decide) ?_
  refine vp_callSi (W.runS ⟨hx, hb, hml, hown, hts⟩ (c_in l E _ _ _ _) (va_cwS 3 hts gX5_plan_X5_in rfl rfl rfl (by decide +kernel) ⟨Nat.le_of_ble_eq_true rfl, Nat.le_of_ble_eq_true rfl⟩) (ePu_S hP hE) rfl rfl hl.1 rfl (lv_room (Nat.le_of_ble_eq_true rfl)) dX5_plan_3 ⟨Nat.zero_le _, Nat.zero_le _⟩) (fun r9 hr9 => ?_)
  subst hr9
  refine q_eq hx hb 48 dX5_plan_6 (by decide) (fun c6 => ?_) (fun c6 => ?_)
  · skip
    refine lv_ldc2 (v := -1) hx hb hown (hts (.constantLong RX5 84 (-1)) (by decide +kernel)) dX5_plan_48 ?_
    exact ret_Wl hx hb hr hlocks dX5_plan_51 hP hD hS ⟨Or.inr ⟨fun ⟨p, i, q, t, w, e1, e2, e3, e4, e5, g1, g2, g3, g4, g5⟩ => c6 (by rw [e1]; exact (nI_rngI (by omega) (by decide) (by decide)).mpr ⟨by omega, g1⟩), rfl⟩, nw, th, pd, rfl⟩
  · skip
    obtain ⟨p, -, hp3, rfl⟩ := nI_rng (by decide) c6 (by decide)
    refine lv_aload_n hx hb dX5_plan_9 rfl (lv_at hl 0 rfl) ?_
    refine lv_iload_n hx hb dX5_plan_10 rfl (lv_at hl 2 rfl) ?_
    refine vp_callSi (W.runV ⟨hx, hb, hml, hown, hts⟩ (m_isGame l E am g hz n kd ch tm tx lm (fun j => nI (td j)) tr bs nw th pd rest _) (cwV 1 hts gX5_plan_X5_isGame rfl rfl rfl (by decide +kernel) ⟨Nat.le_of_ble_eq_true rfl, Nat.le_of_ble_eq_true rfl⟩) (ePu_V hP hE (ci := 5) (k := 0) rfl rfl) rfl rfl hl.1 rfl (lv_room (Nat.le_of_ble_eq_true rfl)) dX5_plan_11 ⟨Nat.zero_le _, Nat.zero_le _⟩) (fun r9 hr9 => ?_)
    subst hr9
    refine q_eq hx hb 48 dX5_plan_14 (by decide) (fun c14 => ?_) (fun c14 => ?_)
    · skip
      refine lv_ldc2 (v := -1) hx hb hown (hts (.constantLong RX5 84 (-1)) (by decide +kernel)) dX5_plan_48 ?_
      exact ret_Wl hx hb hr hlocks dX5_plan_51 hP hD hS ⟨Or.inr ⟨fun ⟨p, i, q, t, w, e1, e2, e3, e4, e5, g1, g2, g3, g4, g5⟩ => c14 ((nI_gm (by omega)).mpr ⟨i, g2, e2⟩), rfl⟩, nw, th, pd, rfl⟩
    · skip
      obtain ⟨i, hi, rfl⟩ := (nI_gm (by omega)).mp c14
      refine lv_aload_n hx hb dX5_plan_17 rfl (lv_at hl 0 rfl) ?_
      refine lv_iload_n hx hb dX5_plan_18 rfl (lv_at hl 3 rfl) ?_
      refine vp_callSi (W.runV ⟨hx, hb, hml, hown, hts⟩ (m_isPurse l E am g hz n kd ch tm tx lm (fun j => nI (td j)) tr bs nw th pd rest _) (cwV 1 hts gX5_plan_X5_isPurse rfl rfl rfl (by decide +kernel) ⟨Nat.le_of_ble_eq_true rfl, Nat.le_of_ble_eq_true rfl⟩) (ePu_V hP hE (ci := 5) (k := 0) rfl rfl) rfl rfl hl.1 rfl (lv_room (Nat.le_of_ble_eq_true rfl)) dX5_plan_19 ⟨Nat.zero_le _, Nat.zero_le _⟩) (fun r9 hr9 => ?_)
      subst hr9
      refine q_eq hx hb 48 dX5_plan_22 (by decide) (fun c22 => ?_) (fun c22 => ?_)
      · skip
        refine lv_ldc2 (v := -1) hx hb hown (hts (.constantLong RX5 84 (-1)) (by decide +kernel)) dX5_plan_48 ?_
        exact ret_Wl hx hb hr hlocks dX5_plan_51 hP hD hS ⟨Or.inr ⟨fun ⟨p, i, q, t, w, e1, e2, e3, e4, e5, g1, g2, g3, g4, g5⟩ => c22 (by rw [e3]; exact (nI_rngI (by omega) (by decide) (by omega)).mpr ⟨by omega, g3⟩), rfl⟩, nw, th, pd, rfl⟩
      · skip
        obtain ⟨q, -, hq, rfl⟩ := nI_rng (by omega) c22 (by decide)
        refine lv_iload hx hb dX5_plan_25 (lv_at hl 4 rfl) ?_
        refine lv_iconst (v := nI 0) hx hb dX5_plan_27 (by decide) ?_
        refine lv_aload_n hx hb dX5_plan_28 rfl (lv_at hl 0 rfl) ?_
        refine va_get (D := E.1) (ci := 5) (C := RX5) (T := TX5) (N := 14) hx hb hts hinX5 hown hE.1 hP 0 rfl rfl 1 (by decide) (hts (.fieldLink RX5 13 "StakeHouseModel" "horizon" "I") (by decide +kernel)) (fun _ h9 => h9) rfl dX5_plan_29 ?_
        refine vp_callSi (W.runS ⟨hx, hb, hml, hown, hts⟩ (c_in l E _ _ _ _) (va_cwS 3 hts gX5_plan_X5_in rfl rfl rfl (by decide +kernel) ⟨Nat.le_of_ble_eq_true rfl, Nat.le_of_ble_eq_true rfl⟩) (ePu_S hP hE) rfl rfl hl.1 rfl (lv_room (Nat.le_of_ble_eq_true rfl)) dX5_plan_32 ⟨Nat.zero_le _, Nat.zero_le _⟩) (fun r9 hr9 => ?_)
        subst hr9
        refine q_eq hx hb 48 dX5_plan_35 (by decide) (fun c35 => ?_) (fun c35 => ?_)
        · skip
          refine lv_ldc2 (v := -1) hx hb hown (hts (.constantLong RX5 84 (-1)) (by decide +kernel)) dX5_plan_48 ?_
          exact ret_Wl hx hb hr hlocks dX5_plan_51 hP hD hS ⟨Or.inr ⟨fun ⟨p, i, q, t, w, e1, e2, e3, e4, e5, g1, g2, g3, g4, g5⟩ => c35 (by rw [e4]; exact (nI_rngI (by omega) (by decide) (by omega)).mpr ⟨by omega, g4⟩), rfl⟩, nw, th, pd, rfl⟩
        · skip
          obtain ⟨t, -, ht, rfl⟩ := nI_rng (by omega) c35 (by decide)
          refine lv_iload hx hb dX5_plan_38 (lv_at hl 5 rfl) ?_
          refine lv_iconst (v := nI 0) hx hb dX5_plan_40 (by decide) ?_
          refine lv_iconst (v := nI 3) hx hb dX5_plan_41 (by decide) ?_
          refine vp_callSi (W.runS ⟨hx, hb, hml, hown, hts⟩ (c_in l E _ _ _ _) (va_cwS 3 hts gX5_plan_X5_in rfl rfl rfl (by decide +kernel) ⟨Nat.le_of_ble_eq_true rfl, Nat.le_of_ble_eq_true rfl⟩) (ePu_S hP hE) rfl rfl hl.1 rfl (lv_room (Nat.le_of_ble_eq_true rfl)) dX5_plan_42 ⟨Nat.zero_le _, Nat.zero_le _⟩) (fun r9 hr9 => ?_)
          subst hr9
          refine q_ne hx hb 52 dX5_plan_45 (by decide) (fun c45 => ?_) (fun c45 => ?_)
          · skip
            obtain ⟨w, -, hw3, rfl⟩ := nI_rng (by decide) c45 (by decide)
            have hd := (hM i hi).1
            refine lv_aload_n hx hb dX5_plan_52 rfl (lv_at hl 0 rfl) ?_
            refine lv_iload_n hx hb dX5_plan_53 rfl (lv_at hl 1 rfl) ?_
            refine lv_iload_n hx hb dX5_plan_54 rfl (lv_at hl 2 rfl) ?_
            refine lv_iload_n hx hb dX5_plan_55 rfl (lv_at hl 3 rfl) ?_
            refine lv_iload hx hb dX5_plan_56 (lv_at hl 4 rfl) ?_
            refine cW_v (va_runV ⟨hx, hb, hml, hown, hts⟩ (m_follow l E am g hz n kd ch tm tx lm td tr bs nw th pd rest hn gd hM hg2 hg32 htd2 p i q t hp3 hi hq (by omega) _) (cwV 4 hts gX5_plan_X5_follow rfl rfl rfl (by decide +kernel) ⟨Nat.le_of_ble_eq_true rfl, Nat.le_of_ble_eq_true rfl⟩) (ePw_V hP hD hE (ci := 5) (k := 0) rfl rfl) rfl rfl hl.1 rfl (lv_room (Nat.le_of_ble_eq_true rfl)) dX5_plan_58 ⟨Nat.zero_le _, Nat.zero_le _⟩) hS hD hA (fun ws9 H locs hr9 hP hD hS => ?_)
            obtain ⟨nw1, th1, hn1, rfl⟩ := hr9
            refine lv_iload hx hb dX5_plan_61 (lv_at hl 5 rfl) ?_
            refine lv_iconst (v := nI 3) hx hb dX5_plan_63 (by decide) ?_
            refine n_ne hx hb (by omega) (by omega) 72 dX5_plan_64 (by decide) (fun c64 => ?_) (fun c64 => ?_)
            · skip
              refine lv_iload hx hb dX5_plan_72 (lv_at hl 5 rfl) ?_
              refine lv_iconst (v := nI 2) hx hb dX5_plan_74 (by decide) ?_
              refine n_ge hx hb (by omega) (by omega) 96 dX5_plan_75 (by decide) (fun c75 => ?_) (fun c75 => ?_)
              · skip
                obtain rfl : w = 2 := by omega
                refine lv_lconst (v := lN 0) hx hb dX5_plan_96 rfl ?_
                refine st_l2 hx hb 6 dX5_plan_97 hl (by decide) rfl (fun ls hl => ?_)
                refine lv_iconst (v := nI 0) hx hb dX5_plan_99 (by decide) ?_
                refine st_i2 hx hb 7 dX5_plan_100 hl (by decide) rfl (fun ls hl => ?_)
                refine wLoop (g + 1) 0 (fun z ls => lv_has ls 9 [(0, .ref (am 0)), (1, .int (nI p)), (2, .int (nI i)), (3, .int (nI q)), (4, .int (nI t)), (5, .int (nI 2)), (6, .long (lN (sm (fun z => z * sm (fun x => fNow g (gd i) td p q t (65 * z + x)) 65) z))), (8, .int (nI z))]) (Nat.zero_le _) (fun z ls hz9 hl ih => ?_) (fun ls hl => ?_) hl
                · skip
                  refine lv_iload hx hb dX5_plan_102 (lv_at hl 7 rfl) ?_
                  refine lv_aload_n hx hb dX5_plan_104 rfl (lv_at hl 0 rfl) ?_
                  refine va_get (D := E.1) (ci := 5) (C := RX5) (T := TX5) (N := 14) hx hb hts hinX5 hown hE.1 hP 0 rfl rfl 0 (by decide) (hts (.fieldLink RX5 7 "StakeHouseModel" "goal" "I") (by decide +kernel)) (fun _ h9 => h9) rfl dX5_plan_105 ?_
                  refine n_gt hx hb (by omega) (by omega) 132 dX5_plan_108 (by decide) (fun c108 => ?_) (fun c108 => ?_)
                  · skip
                    exact absurd c108 (by omega)
                  · skip
                    refine lv_lload hx hb dX5_plan_111 (lv_at hl 6 rfl) ?_
                    refine lv_iload hx hb dX5_plan_113 (lv_at hl 7 rfl) ?_
                    refine lv_i2l (v := lN _) hx hb dX5_plan_115 (nI_l (by omega)) ?_
                    refine lv_aload_n hx hb dX5_plan_116 rfl (lv_at hl 0 rfl) ?_
                    refine lv_iload hx hb dX5_plan_117 (lv_at hl 7 rfl) ?_
                    refine vp_callSl (W.runV ⟨hx, hb, hml, hown, hts⟩ (m_weightAt l E am g hz n kd ch tm tx lm (fun j => nI (td j)) tr bs nw1 th1 (lN (fPd g (gd i) td p q t)) rest (fNow g (gd i) td p q t) hn1 z (by omega)) (cwV 1 hts gX5_plan_X5_weightAt rfl rfl rfl (by decide +kernel) ⟨Nat.le_of_ble_eq_true rfl, Nat.le_of_ble_eq_true rfl⟩) (ePu_V hP hE (ci := 5) (k := 0) rfl rfl) rfl rfl hl.1 rfl (lv_room (Nat.le_of_ble_eq_true rfl)) dX5_plan_119 ⟨Nat.zero_le _, Nat.zero_le _⟩) (fun r9 hr9 => ?_)
                    subst hr9
                    refine lv_lmul hx hb dX5_plan_122 ?_
                    refine tp_l (lN_mul _ _) ?_
                    refine lv_ladd hx hb dX5_plan_123 ?_
                    refine tp_l (lN_add _ _) ?_
                    refine st_l2 hx hb 6 dX5_plan_124 hl (by decide) rfl (fun ls hl => ?_)
                    refine st_inc hx hb 7 dX5_plan_126 hl rfl (nI_1 _) (by decide) rfl (fun ls hl => ?_)
                    refine lv_goto (tgt := 102) hx hb dX5_plan_129 (by decide) ?_
                    exact ih _ hl
                · skip
                  refine lv_iload hx hb dX5_plan_102 (lv_at hl 7 rfl) ?_
                  refine lv_aload_n hx hb dX5_plan_104 rfl (lv_at hl 0 rfl) ?_
                  refine va_get (D := E.1) (ci := 5) (C := RX5) (T := TX5) (N := 14) hx hb hts hinX5 hown hE.1 hP 0 rfl rfl 0 (by decide) (hts (.fieldLink RX5 7 "StakeHouseModel" "goal" "I") (by decide +kernel)) (fun _ h9 => h9) rfl dX5_plan_105 ?_
                  refine n_gt hx hb (by omega) (by omega) 132 dX5_plan_108 (by decide) (fun c108 => ?_) (fun c108 => ?_)
                  · skip
                    refine lv_lload hx hb dX5_plan_132 (lv_at hl 6 rfl) ?_
                    exact ret_Wl hx hb hr hlocks dX5_plan_134 hP hD hS ⟨Or.inl ⟨p, i, q, t, 2, rfl, rfl, rfl, rfl, rfl, hp3, hi, hq, ht, hw3, congrArg lN (end_2 hg32 hd hp3 hq t)⟩, nw1, th1, _, rfl⟩
                  · skip
                    exact absurd c108 (by omega)
              · skip
                refine lv_aload_n hx hb dX5_plan_78 rfl (lv_at hl 0 rfl) ?_
                refine lv_iload hx hb dX5_plan_79 (lv_at hl 5 rfl) ?_
                refine z_ne hx hb (by omega) 91 dX5_plan_81 (by decide) (fun c81 => ?_) (fun c81 => ?_)
                · skip
                  obtain rfl : w = 1 := by omega
                  refine lv_iconst (v := nI 0) hx hb dX5_plan_91 (by decide) ?_
                  refine vp_callSl (W.runV ⟨hx, hb, hml, hown, hts⟩ (m_weightAt l E am g hz n kd ch tm tx lm (fun j => nI (td j)) tr bs nw1 th1 (lN (fPd g (gd i) td p q t)) rest (fNow g (gd i) td p q t) hn1 0 (by omega)) (cwV 1 hts gX5_plan_X5_weightAt rfl rfl rfl (by decide +kernel) ⟨Nat.le_of_ble_eq_true rfl, Nat.le_of_ble_eq_true rfl⟩) (ePu_V hP hE (ci := 5) (k := 0) rfl rfl) rfl rfl hl.1 rfl (lv_room (Nat.le_of_ble_eq_true rfl)) dX5_plan_92 ⟨Nat.zero_le _, Nat.zero_le _⟩) (fun r9 hr9 => ?_)
                  subst hr9
                  exact ret_Wl hx hb hr hlocks dX5_plan_95 hP hD hS ⟨Or.inl ⟨p, i, q, t, 1, rfl, rfl, rfl, rfl, rfl, hp3, hi, hq, ht, hw3, congrArg lN (end_1 hg32 hd hp3 hq t)⟩, nw1, th1, _, rfl⟩
                · skip
                  obtain rfl : w = 0 := c81
                  refine lv_aload_n hx hb dX5_plan_84 rfl (lv_at hl 0 rfl) ?_
                  refine va_get (D := E.1) (ci := 5) (C := RX5) (T := TX5) (N := 14) hx hb hts hinX5 hown hE.1 hP 0 rfl rfl 0 (by decide) (hts (.fieldLink RX5 7 "StakeHouseModel" "goal" "I") (by decide +kernel)) (fun _ h9 => h9) rfl dX5_plan_85 ?_
                  refine lv_goto (tgt := 92) hx hb dX5_plan_88 (by decide) ?_
                  refine vp_callSl (W.runV ⟨hx, hb, hml, hown, hts⟩ (m_weightAt l E am g hz n kd ch tm tx lm (fun j => nI (td j)) tr bs nw1 th1 (lN (fPd g (gd i) td p q t)) rest (fNow g (gd i) td p q t) hn1 g (by omega)) (cwV 1 hts gX5_plan_X5_weightAt rfl rfl rfl (by decide +kernel) ⟨Nat.le_of_ble_eq_true rfl, Nat.le_of_ble_eq_true rfl⟩) (ePu_V hP hE (ci := 5) (k := 0) rfl rfl) rfl rfl hl.1 rfl (lv_room (Nat.le_of_ble_eq_true rfl)) dX5_plan_92 ⟨Nat.zero_le _, Nat.zero_le _⟩) (fun r9 hr9 => ?_)
                  subst hr9
                  exact ret_Wl hx hb hr hlocks dX5_plan_95 hP hD hS ⟨Or.inl ⟨p, i, q, t, 0, rfl, rfl, rfl, rfl, rfl, hp3, hi, hq, ht, hw3, congrArg lN (end_0 hg32 hd hp3 hq t)⟩, nw1, th1, _, rfl⟩
            · skip
              obtain rfl : w = 3 := c64
              refine lv_aload_n hx hb dX5_plan_67 rfl (lv_at hl 0 rfl) ?_
              refine va_get (D := E.1) (ci := 5) (C := RX5) (T := TX5) (N := 14) hx hb hts hinX5 hown hE.1 hP 0 rfl rfl 13 (by decide) (hts (.fieldLink RX5 98 "StakeHouseModel" "played" "J") (by decide +kernel)) (fun _ h9 => h9) rfl dX5_plan_68 ?_
              exact ret_Wl hx hb hr hlocks dX5_plan_71 hP hD hS ⟨Or.inl ⟨p, i, q, t, 3, rfl, rfl, rfl, rfl, rfl, hp3, hi, hq, ht, hw3, congrArg lN (end_3 hg32 hd hp3 hq t)⟩, nw1, th1, _, rfl⟩
          · skip
            refine lv_ldc2 (v := -1) hx hb hown (hts (.constantLong RX5 84 (-1)) (by decide +kernel)) dX5_plan_48 ?_
            exact ret_Wl hx hb hr hlocks dX5_plan_51 hP hD hS ⟨Or.inr ⟨fun ⟨p, i, q, t, w, e1, e2, e3, e4, e5, g1, g2, g3, g4, g5⟩ => c45 (by rw [e5]; exact (nI_rngI (by omega) (by decide) (by decide)).mpr ⟨by omega, g5⟩), rfl⟩, nw, th, pd, rfl⟩
set_option maxHeartbeats 4000000 in
set_option maxRecDepth 100000 in
/-- bold -/
theorem m_bold (l : Launch) (E : eT) (am : Nat → Nat) (g hz n : Nat) (kd ch tm tx lm : Nat → Int32) (td : Nat → Nat) (tr : Int64) (bs nw th : Nat → Int64) (pd : Int64) (rest : va_W) (hn : n ≤ 4) (gd : Nat → gT) (hM : ∀ i, i < n → gArg (gd i) (kd i) (ch i) (tm i) (tx i) (lm i)) (hg2 : 2 ≤ g) (hg32 : g ≤ 32) (hhz : hz ≤ 12) (htd2 : ∀ j, td j ≤ 32) (iv qv tv : Int32) : mWi l yX5_bold wsX5_bold 4 115 0 0 E (wM E am g hz n kd ch tm tx lm (fun j => nI (td j)) tr bs nw th pd ++ rest) [.ref (am 0), .int iv, .int qv, .int tv] (fun r ws1 => bld_of g hz n gd td iv qv tv r ∧ ∃ (bs1 nw1 th1 : Nat → Int64) (pd1 : Int64), ws1 = wM E am g hz n kd ch tm tx lm (fun j => nI (td j)) tr bs1 nw1 th1 pd1 ++ rest) := by
  intro sz
  refine mW_of (cc := cX5_bold) (maxL := 6) (ret := (some .int)) (Qc := fun sz => va_Qi (fun r ws1 => bld_of g hz n gd td iv qv tv r ∧ ∃ (bs1 nw1 th1 : Nat → Int64) (pd1 : Int64), ws1 = wM E am g hz n kd ch tm tx lm (fun j => nI (td j)) tr bs1 nw1 th1 pd1 ++ rest) (eAt E (va_A (wM E am g hz n kd ch tm tx lm (fun j => nI (td j)) tr bs nw th pd ++ rest) sz)) (va_A (wM E am g hz n kd ch tm tx lm (fun j => nI (td j)) tr bs nw th pd ++ rest) sz)) (by decide) rfl (Nat.le_of_ble_eq_true rfl) ?_
  intro p0 e0 s m below meth c0 ls hx hb hr hml hts hown hlocks hin hE hP hD hl
  have hS : va_S (va_A (wM E am g hz n kd ch tm tx lm (fun j => nI (td j)) tr bs nw th pd ++ rest) s.heap.size) s.heap s.heap [] := va_S.rf
  have hA : ∀ q, s.heap.size ≤ q → (va_A (wM E am g hz n kd ch tm tx lm (fun j => nI (td j)) tr bs nw th pd ++ rest) s.heap.size) q := fun q h => Or.inr h
  have hown : s.vm.findClass RX5 = some m.cls := hown
  have hl : lv_has ls 6 [(0, .ref (am 0)), (1, .int iv), (2, .int qv), (3, .int tv)] := hl
  have hinX5 : ∀ w ∈ wsX50, w ∈ wsX5_bold := by decide +kernel
  refine lv_aload_n hx hb dX5_bold_0 rfl (lv_at hl 0 rfl) ?_
  refine lv_iload_n hx hb dX5_bold_1 rfl (lv_at hl 1 rfl) ?_
  refine vp_callSi (W.runV ⟨hx, hb, hml, hown, hts⟩ (m_isGame l E am g hz n kd ch tm tx lm (fun j => nI (td j)) tr bs nw th pd rest _) (cwV 1 hts gX5_bold_X5_isGame rfl rfl rfl (by decide +kernel) ⟨Nat.le_of_ble_eq_true rfl, Nat.le_of_ble_eq_true rfl⟩) (ePu_V hP hE (ci := 5) (k := 0) rfl rfl) rfl rfl hl.1 rfl (lv_room (Nat.le_of_ble_eq_true rfl)) dX5_bold_2 ⟨Nat.zero_le _, Nat.zero_le _⟩) (fun r9 hr9 => ?_)
  subst hr9
  refine q_eq hx hb 28 dX5_bold_5 (by decide) (fun c5 => ?_) (fun c5 => ?_)
  · skip
    refine lv_iconst (v := (-1)) hx hb dX5_bold_28 (by decide) ?_
    exact ret_Wi hx hb hr hlocks dX5_bold_29 hP hD hS ⟨Or.inr ⟨fun ⟨i, q, t, e1, e2, e3, g1, g2, g3⟩ => c5 ((nI_gm (by omega)).mpr ⟨i, g1, e1⟩), rfl⟩, bs, nw, th, pd, rfl⟩
  · skip
    obtain ⟨i, hi, rfl⟩ := (nI_gm (by omega)).mp c5
    refine lv_aload_n hx hb dX5_bold_8 rfl (lv_at hl 0 rfl) ?_
    refine lv_iload_n hx hb dX5_bold_9 rfl (lv_at hl 2 rfl) ?_
    refine vp_callSi (W.runV ⟨hx, hb, hml, hown, hts⟩ (m_isPurse l E am g hz n kd ch tm tx lm (fun j => nI (td j)) tr bs nw th pd rest _) (cwV 1 hts gX5_bold_X5_isPurse rfl rfl rfl (by decide +kernel) ⟨Nat.le_of_ble_eq_true rfl, Nat.le_of_ble_eq_true rfl⟩) (ePu_V hP hE (ci := 5) (k := 0) rfl rfl) rfl rfl hl.1 rfl (lv_room (Nat.le_of_ble_eq_true rfl)) dX5_bold_10 ⟨Nat.zero_le _, Nat.zero_le _⟩) (fun r9 hr9 => ?_)
    subst hr9
    refine q_eq hx hb 28 dX5_bold_13 (by decide) (fun c13 => ?_) (fun c13 => ?_)
    · skip
      refine lv_iconst (v := (-1)) hx hb dX5_bold_28 (by decide) ?_
      exact ret_Wi hx hb hr hlocks dX5_bold_29 hP hD hS ⟨Or.inr ⟨fun ⟨i, q, t, e1, e2, e3, g1, g2, g3⟩ => c13 (by rw [e2]; exact (nI_rngI (by omega) (by decide) (by omega)).mpr ⟨by omega, g2⟩), rfl⟩, bs, nw, th, pd, rfl⟩
    · skip
      obtain ⟨q, -, hq, rfl⟩ := nI_rng (by omega) c13 (by decide)
      refine lv_iload_n hx hb dX5_bold_16 rfl (lv_at hl 3 rfl) ?_
      refine lv_iconst (v := nI 0) hx hb dX5_bold_17 (by decide) ?_
      refine lv_aload_n hx hb dX5_bold_18 rfl (lv_at hl 0 rfl) ?_
      refine va_get (D := E.1) (ci := 5) (C := RX5) (T := TX5) (N := 14) hx hb hts hinX5 hown hE.1 hP 0 rfl rfl 1 (by decide) (hts (.fieldLink RX5 13 "StakeHouseModel" "horizon" "I") (by decide +kernel)) (fun _ h9 => h9) rfl dX5_bold_19 ?_
      refine vp_callSi (W.runS ⟨hx, hb, hml, hown, hts⟩ (c_in l E _ _ _ _) (va_cwS 3 hts gX5_bold_X5_in rfl rfl rfl (by decide +kernel) ⟨Nat.le_of_ble_eq_true rfl, Nat.le_of_ble_eq_true rfl⟩) (ePu_S hP hE) rfl rfl hl.1 rfl (lv_room (Nat.le_of_ble_eq_true rfl)) dX5_bold_22 ⟨Nat.zero_le _, Nat.zero_le _⟩) (fun r9 hr9 => ?_)
      subst hr9
      refine q_ne hx hb 30 dX5_bold_25 (by decide) (fun c25 => ?_) (fun c25 => ?_)
      · skip
        obtain ⟨t, -, ht, rfl⟩ := nI_rng (by omega) c25 (by decide)
        have hd := (hM i hi).1
        have hA1 := gV_le (S := gSt g (gd i) td 0) (what := 0) (rg := gRg 0) hg32 hd (by decide) t 0 q hq
        have hA2 := gBst_le (what := 0) hg32 (lo := i) (cnt := 1) (fun k hk => (hM (i + k) (by omega)).1) t q hq
        have hA3 := b53 (t := t) (by omega)
        refine lv_aload_n hx hb dX5_bold_30 rfl (lv_at hl 0 rfl) ?_
        refine lv_iconst (v := nI 0) hx hb dX5_bold_31 (by decide) ?_
        refine lv_iload_n hx hb dX5_bold_32 rfl (lv_at hl 1 rfl) ?_
        refine lv_iload_n hx hb dX5_bold_33 rfl (lv_at hl 2 rfl) ?_
        refine lv_iload_n hx hb dX5_bold_34 rfl (lv_at hl 3 rfl) ?_
        refine cW_v (va_runV ⟨hx, hb, hml, hown, hts⟩ (m_follow l E am g hz n kd ch tm tx lm td tr bs nw th pd rest hn gd hM hg2 hg32 htd2 0 i q t (by decide) hi hq (by omega) _) (cwV 4 hts gX5_bold_X5_follow rfl rfl rfl (by decide +kernel) ⟨Nat.le_of_ble_eq_true rfl, Nat.le_of_ble_eq_true rfl⟩) (ePw_V hP hD hE (ci := 5) (k := 0) rfl rfl) rfl rfl hl.1 rfl (lv_room (Nat.le_of_ble_eq_true rfl)) dX5_bold_35 ⟨Nat.zero_le _, Nat.zero_le _⟩) hS hD hA (fun ws9 H locs hr9 hP hD hS => ?_)
        obtain ⟨nw1, th1, hn1, rfl⟩ := hr9
        refine lv_aload_n hx hb dX5_bold_38 rfl (lv_at hl 0 rfl) ?_
        refine lv_aload_n hx hb dX5_bold_39 rfl (lv_at hl 0 rfl) ?_
        refine va_get (D := E.1) (ci := 5) (C := RX5) (T := TX5) (N := 14) hx hb hts hinX5 hown hE.1 hP 0 rfl rfl 0 (by decide) (hts (.fieldLink RX5 7 "StakeHouseModel" "goal" "I") (by decide +kernel)) (fun _ h9 => h9) rfl dX5_bold_40 ?_
        refine vp_callSl (W.runV ⟨hx, hb, hml, hown, hts⟩ (m_weightAt l E am g hz n kd ch tm tx lm (fun j => nI (td j)) tr bs nw1 th1 (lN (fPd g (gd i) td 0 q t)) rest (fNow g (gd i) td 0 q t) hn1 g (by omega)) (cwV 1 hts gX5_bold_X5_weightAt rfl rfl rfl (by decide +kernel) ⟨Nat.le_of_ble_eq_true rfl, Nat.le_of_ble_eq_true rfl⟩) (ePu_V hP hE (ci := 5) (k := 0) rfl rfl) rfl rfl hl.1 rfl (lv_room (Nat.le_of_ble_eq_true rfl)) dX5_bold_43 ⟨Nat.zero_le _, Nat.zero_le _⟩) (fun r9 hr9 => ?_)
        subst hr9
        refine tp_l (show _ = lN (gV g (gd i) (gSt g (gd i) td 0) 0 (gRg 0) t 0 q) from congrArg lN (end_0 hg32 hd (by decide) hq t)) ?_
        refine st_l2 hx hb 4 dX5_bold_46 hl (by decide) rfl (fun ls hl => ?_)
        refine lv_aload_n hx hb dX5_bold_48 rfl (lv_at hl 0 rfl) ?_
        refine lv_iload_n hx hb dX5_bold_49 rfl (lv_at hl 3 rfl) ?_
        refine lv_iconst (v := nI 0) hx hb dX5_bold_50 (by decide) ?_
        refine lv_iload_n hx hb dX5_bold_51 rfl (lv_at hl 1 rfl) ?_
        refine lv_iload_n hx hb dX5_bold_52 rfl (lv_at hl 1 rfl) ?_
        refine tp_i (show nI i = nI (i + 1 - 1) from rfl) ?_
        refine cW_v (va_runV ⟨hx, hb, hml, hown, hts⟩ (m_work l E am g hz n kd ch tm tx lm (fun j => nI (td j)) tr bs nw1 th1 (lN (fPd g (gd i) td 0 q t)) rest hn gd hM hg2 hg32 t 0 i 1 (by omega) (by decide) (by decide) (by omega) _) (cwV 4 hts gX5_bold_X5_work rfl rfl rfl (by decide +kernel) ⟨Nat.le_of_ble_eq_true rfl, Nat.le_of_ble_eq_true rfl⟩) (ePw_V hP hD hE (ci := 5) (k := 0) rfl rfl) rfl rfl hl.1 rfl (lv_room (Nat.le_of_ble_eq_true rfl)) dX5_bold_53 ⟨Nat.zero_le _, Nat.zero_le _⟩) hS hD hA (fun ws9 H locs hr9 hP hD hS => ?_)
        obtain ⟨bs1, hb1, rfl⟩ := hr9
        refine lv_aload_n hx hb dX5_bold_56 rfl (lv_at hl 0 rfl) ?_
        refine va_get (D := E.1) (ci := 5) (C := RX5) (T := TX5) (N := 14) hx hb hts hinX5 hown hE.1 hP 0 rfl rfl 10 (by decide) (hts (.fieldLink RX5 35 "StakeHouseModel" "best" "[J") (by decide +kernel)) (fun _ h9 => h9) rfl dX5_bold_57 ?_
        refine lv_bipush (v := nI 33) hx hb dX5_bold_60 (by decide) ?_
        refine lv_iload_n hx hb dX5_bold_62 rfl (lv_at hl 3 rfl) ?_
        refine lv_imul hx hb dX5_bold_63 ?_
        refine tp_i (pk_mul _ _) ?_
        refine lv_iload_n hx hb dX5_bold_64 rfl (lv_at hl 2 rfl) ?_
        refine lv_iadd hx hb dX5_bold_65 ?_
        refine tp_i (nI_add _ _) ?_
        refine va_lald hx hb hE.1 hP 7 1 rfl rfl (vp_in_nI (by omega) (by decide)) dX5_bold_66 ?_
        refine tp_l (show _ = lN (gBst g gd i 1 0 t q) by rw [nI_clamp (by omega)]; exact hb1 t (by omega) q hq) ?_
        refine lv_lload hx hb dX5_bold_67 (lv_at hl 4 rfl) ?_
        refine W.lcmp hx hb dX5_bold_69 ?_
        refine lv_if_ne (tgt := 77) hx hb dX5_bold_70 (by decide) (fun c70 => ?_) (fun c70 => ?_)
        · skip
          rw [lg_cmp_eq, pk_lEQ (by omega) (by omega)] at c70
          refine lv_iconst (v := nI 0) hx hb dX5_bold_77 (by decide) ?_
          exact ret_Wi hx hb hr hlocks dX5_bold_78 hP hD hS ⟨Or.inl ⟨i, q, t, rfl, rfl, rfl, hi, hq, ht, by rw [if_neg (fun z => c70 z.symm)]; rfl⟩, bs1, nw1, th1, _, rfl⟩
        · skip
          rw [lg_cmp_eq, pk_lEQ (by omega) (by omega)] at c70
          refine lv_iconst (v := nI 1) hx hb dX5_bold_73 (by decide) ?_
          refine lv_goto (tgt := 78) hx hb dX5_bold_74 (by decide) ?_
          exact ret_Wi hx hb hr hlocks dX5_bold_78 hP hD hS ⟨Or.inl ⟨i, q, t, rfl, rfl, rfl, hi, hq, ht, by rw [if_pos c70.symm]; rfl⟩, bs1, nw1, th1, _, rfl⟩
      · skip
        refine lv_iconst (v := (-1)) hx hb dX5_bold_28 (by decide) ?_
        exact ret_Wi hx hb hr hlocks dX5_bold_29 hP hD hS ⟨Or.inr ⟨fun ⟨i, q, t, e1, e2, e3, g1, g2, g3⟩ => c25 (by rw [e3]; exact (nI_rngI (by omega) (by decide) (by omega)).mpr ⟨by omega, g3⟩), rfl⟩, bs, nw, th, pd, rfl⟩
