/-! the reference: what writes, but for plans -/
set_option maxHeartbeats 4000000 in
set_option maxRecDepth 100000 in
/-- set -/
theorem m_set (l : Launch) (E : eT) (am : Nat → Nat) (g hz n : Nat) (kd ch tm tx lm : Nat → Int32) (td : Nat → Int32) (tr : Int64) (bs nw th : Nat → Int64) (pd : Int64) (rest : va_W) (wv vv : Int32) : mWi l yX5_set wsX5_set 1 24 0 0 E (wM E am g hz n kd ch tm tx lm td tr bs nw th pd ++ rest) [.ref (am 0), .int wv, .int vv] (fun r ws1 => ∃ (g1 hz1 : Nat) (td1 : Nat → Int32), set_of g hz td (fun _ => 0) wv vv r g1 hz1 td1 (fun _ => 0) ∧ ws1 = wM E am g1 hz1 n kd ch tm tx lm td1 tr bs nw th pd ++ rest) := by
  intro sz
  refine mW_of (cc := cX5_set) (maxL := 5) (ret := (some .int)) (Qc := fun sz => va_Qi (fun r ws1 => ∃ (g1 hz1 : Nat) (td1 : Nat → Int32), set_of g hz td (fun _ => 0) wv vv r g1 hz1 td1 (fun _ => 0) ∧ ws1 = wM E am g1 hz1 n kd ch tm tx lm td1 tr bs nw th pd ++ rest) (eAt E (va_A (wM E am g hz n kd ch tm tx lm td tr bs nw th pd ++ rest) sz)) (va_A (wM E am g hz n kd ch tm tx lm td tr bs nw th pd ++ rest) sz)) (by decide) rfl (Nat.le_of_ble_eq_true rfl) ?_
  intro p0 e0 s m below meth c0 ls hx hb hr hml hts hown hlocks hin hE hP hD hl
  have hS : va_S (va_A (wM E am g hz n kd ch tm tx lm td tr bs nw th pd ++ rest) s.heap.size) s.heap s.heap [] := va_S.rf
  have hA : ∀ q, s.heap.size ≤ q → (va_A (wM E am g hz n kd ch tm tx lm td tr bs nw th pd ++ rest) s.heap.size) q := fun q h => Or.inr h
  have hown : s.vm.findClass RX5 = some m.cls := hown
  have hl : lv_has ls 5 [(0, .ref (am 0)), (1, .int wv), (2, .int vv)] := hl
  have hinX5 : ∀ w ∈ wsX50, w ∈ wsX5_set := by decide +kernel
  refine lv_iconst (v := (-1)) hx hb dX5_set_0 (by decide) ?_
  refine st_i1 hx hb 3 dX5_set_1 rfl hl (by decide) rfl (fun ls hl => ?_)
  refine lv_iload_n hx hb dX5_set_2 rfl (lv_at hl 1 rfl) ?_
  refine lv_if_ne (tgt := 53) hx hb dX5_set_3 (by decide) (fun c3 => ?_) (fun c3 => ?_)
  · skip
    refine lv_iload_n hx hb dX5_set_53 rfl (lv_at hl 1 rfl) ?_
    refine lv_iconst (v := nI 1) hx hb dX5_set_54 (by decide) ?_
    refine lv_icmp_ne (tgt := 78) hx hb dX5_set_55 (by decide) (fun c55 => ?_) (fun c55 => ?_)
    · skip
      refine lv_iload_n hx hb dX5_set_78 rfl (lv_at hl 3 rfl) ?_
      exact ret_Wi hx hb hr hlocks dX5_set_79 hP hD hS ⟨g, hz, td, Or.inr (Or.inr ⟨fun q => c3 q.1, fun q => c55 q.1, rfl, rfl, rfl, rfl, rfl⟩), rfl⟩
    · skip
      refine lv_iload_n hx hb dX5_set_58 rfl (lv_at hl 2 rfl) ?_
      refine lv_iconst (v := nI 0) hx hb dX5_set_59 (by decide) ?_
      refine lv_bipush (v := nI 12) hx hb dX5_set_60 (by decide) ?_
      refine vp_callSi (W.runS ⟨hx, hb, hml, hown, hts⟩ (c_in l E _ _ _ _) (va_cwS 3 hts gX5_set_X5_in rfl rfl rfl (by decide +kernel) ⟨Nat.le_of_ble_eq_true rfl, Nat.le_of_ble_eq_true rfl⟩) (ePu_S hP hE) rfl rfl hl.1 rfl (lv_room (Nat.le_of_ble_eq_true rfl)) dX5_set_62 ⟨Nat.zero_le _, Nat.zero_le _⟩) (fun r9 hr9 => ?_)
      subst hr9
      refine q_eq hx hb 78 dX5_set_65 (by decide) (fun c65 => ?_) (fun c65 => ?_)
      · skip
        refine lv_iload_n hx hb dX5_set_78 rfl (lv_at hl 3 rfl) ?_
        exact ret_Wi hx hb hr hlocks dX5_set_79 hP hD hS ⟨g, hz, td, Or.inr (Or.inr ⟨fun q => c3 q.1, fun q => c65 q.2, rfl, rfl, rfl, rfl, rfl⟩), rfl⟩
      · skip
        obtain ⟨v, -, hv2, rfl⟩ := nI_rng (by decide) c65 (by decide)
        refine lv_aload_n hx hb dX5_set_68 rfl (lv_at hl 0 rfl) ?_
        refine va_get (D := E.1) (ci := 5) (C := RX5) (T := TX5) (N := 14) hx hb hts hinX5 hown hE.1 hP 0 rfl rfl 1 (by decide) (hts (.fieldLink RX5 13 "StakeHouseModel" "horizon" "I") (by decide +kernel)) (fun _ h9 => h9) rfl dX5_set_69 ?_
        refine st_i1 hx hb 3 dX5_set_72 rfl hl (by decide) rfl (fun ls hl => ?_)
        refine lv_aload_n hx hb dX5_set_73 rfl (lv_at hl 0 rfl) ?_
        refine lv_iload_n hx hb dX5_set_74 rfl (lv_at hl 2 rfl) ?_
        refine va_put (D := E.1) (ci := 5) (ty := .int) (C := RX5) (T := TX5) (N := 14) hx hb hts hinX5 tyX5 tyX5_ok nmX5 hown hE.1 hP hD hS 0 rfl rfl 1 (by decide) (hts (.fieldLink RX5 13 "StakeHouseModel" "horizon" "I") (by decide +kernel)) (fun _ h9 => h9) rfl (by decide +kernel) rfl rfl (Nat.le_of_ble_eq_true rfl) dX5_set_75 (fun H locs hP hD hS => ?_)
        have hP : va_P E.1 vwCl (wM E am g v n kd ch tm tx lm td tr bs nw th pd ++ rest) H := hP
        have hD : va_D (va_A (wM E am g hz n kd ch tm tx lm td tr bs nw th pd ++ rest) s.heap.size) (wM E am g v n kd ch tm tx lm td tr bs nw th pd ++ rest) := hD
        refine lv_iload_n hx hb dX5_set_78 rfl (lv_at hl 3 rfl) ?_
        exact ret_Wi hx hb hr hlocks dX5_set_79 hP hD hS ⟨g, v, td, Or.inr (Or.inl ⟨v, c55, rfl, hv2, rfl, rfl, rfl, rfl, rfl⟩), rfl⟩
  · skip
    refine lv_iload_n hx hb dX5_set_6 rfl (lv_at hl 2 rfl) ?_
    refine lv_iconst (v := nI 2) hx hb dX5_set_7 (by decide) ?_
    refine lv_bipush (v := nI 32) hx hb dX5_set_8 (by decide) ?_
    refine vp_callSi (W.runS ⟨hx, hb, hml, hown, hts⟩ (c_in l E _ _ _ _) (va_cwS 3 hts gX5_set_X5_in rfl rfl rfl (by decide +kernel) ⟨Nat.le_of_ble_eq_true rfl, Nat.le_of_ble_eq_true rfl⟩) (ePu_S hP hE) rfl rfl hl.1 rfl (lv_room (Nat.le_of_ble_eq_true rfl)) dX5_set_10 ⟨Nat.zero_le _, Nat.zero_le _⟩) (fun r9 hr9 => ?_)
    subst hr9
    refine q_eq hx hb 53 dX5_set_13 (by decide) (fun c13 => ?_) (fun c13 => ?_)
    · skip
      refine lv_iload_n hx hb dX5_set_53 rfl (lv_at hl 1 rfl) ?_
      refine lv_iconst (v := nI 1) hx hb dX5_set_54 (by decide) ?_
      refine lv_icmp_ne (tgt := 78) hx hb dX5_set_55 (by decide) (fun c55 => ?_) (fun c55 => ?_)
      · skip
        refine lv_iload_n hx hb dX5_set_78 rfl (lv_at hl 3 rfl) ?_
        exact ret_Wi hx hb hr hlocks dX5_set_79 hP hD hS ⟨g, hz, td, Or.inr (Or.inr ⟨fun q => c13 q.2, fun q => c55 q.1, rfl, rfl, rfl, rfl, rfl⟩), rfl⟩
      · skip
        refine lv_iload_n hx hb dX5_set_58 rfl (lv_at hl 2 rfl) ?_
        refine lv_iconst (v := nI 0) hx hb dX5_set_59 (by decide) ?_
        refine lv_bipush (v := nI 12) hx hb dX5_set_60 (by decide) ?_
        refine vp_callSi (W.runS ⟨hx, hb, hml, hown, hts⟩ (c_in l E _ _ _ _) (va_cwS 3 hts gX5_set_X5_in rfl rfl rfl (by decide +kernel) ⟨Nat.le_of_ble_eq_true rfl, Nat.le_of_ble_eq_true rfl⟩) (ePu_S hP hE) rfl rfl hl.1 rfl (lv_room (Nat.le_of_ble_eq_true rfl)) dX5_set_62 ⟨Nat.zero_le _, Nat.zero_le _⟩) (fun r9 hr9 => ?_)
        subst hr9
        refine q_eq hx hb 78 dX5_set_65 (by decide) (fun c65 => ?_) (fun c65 => ?_)
        · skip
          refine lv_iload_n hx hb dX5_set_78 rfl (lv_at hl 3 rfl) ?_
          exact ret_Wi hx hb hr hlocks dX5_set_79 hP hD hS ⟨g, hz, td, Or.inr (Or.inr ⟨fun q => c13 q.2, fun q => c65 q.2, rfl, rfl, rfl, rfl, rfl⟩), rfl⟩
        · skip
          obtain ⟨v, -, hv2, rfl⟩ := nI_rng (by decide) c65 (by decide)
          refine lv_aload_n hx hb dX5_set_68 rfl (lv_at hl 0 rfl) ?_
          refine va_get (D := E.1) (ci := 5) (C := RX5) (T := TX5) (N := 14) hx hb hts hinX5 hown hE.1 hP 0 rfl rfl 1 (by decide) (hts (.fieldLink RX5 13 "StakeHouseModel" "horizon" "I") (by decide +kernel)) (fun _ h9 => h9) rfl dX5_set_69 ?_
          refine st_i1 hx hb 3 dX5_set_72 rfl hl (by decide) rfl (fun ls hl => ?_)
          refine lv_aload_n hx hb dX5_set_73 rfl (lv_at hl 0 rfl) ?_
          refine lv_iload_n hx hb dX5_set_74 rfl (lv_at hl 2 rfl) ?_
          refine va_put (D := E.1) (ci := 5) (ty := .int) (C := RX5) (T := TX5) (N := 14) hx hb hts hinX5 tyX5 tyX5_ok nmX5 hown hE.1 hP hD hS 0 rfl rfl 1 (by decide) (hts (.fieldLink RX5 13 "StakeHouseModel" "horizon" "I") (by decide +kernel)) (fun _ h9 => h9) rfl (by decide +kernel) rfl rfl (Nat.le_of_ble_eq_true rfl) dX5_set_75 (fun H locs hP hD hS => ?_)
          have hP : va_P E.1 vwCl (wM E am g v n kd ch tm tx lm td tr bs nw th pd ++ rest) H := hP
          have hD : va_D (va_A (wM E am g hz n kd ch tm tx lm td tr bs nw th pd ++ rest) s.heap.size) (wM E am g v n kd ch tm tx lm td tr bs nw th pd ++ rest) := hD
          refine lv_iload_n hx hb dX5_set_78 rfl (lv_at hl 3 rfl) ?_
          exact ret_Wi hx hb hr hlocks dX5_set_79 hP hD hS ⟨g, v, td, Or.inr (Or.inl ⟨v, c55, rfl, hv2, rfl, rfl, rfl, rfl, rfl⟩), rfl⟩
    · skip
      obtain ⟨v, hv1, hv2, rfl⟩ := nI_rng (by decide) c13 (by decide)
      refine lv_aload_n hx hb dX5_set_16 rfl (lv_at hl 0 rfl) ?_
      refine va_get (D := E.1) (ci := 5) (C := RX5) (T := TX5) (N := 14) hx hb hts hinX5 hown hE.1 hP 0 rfl rfl 0 (by decide) (hts (.fieldLink RX5 7 "StakeHouseModel" "goal" "I") (by decide +kernel)) (fun _ h9 => h9) rfl dX5_set_17 ?_
      refine st_i1 hx hb 3 dX5_set_20 rfl hl (by decide) rfl (fun ls hl => ?_)
      refine lv_aload_n hx hb dX5_set_21 rfl (lv_at hl 0 rfl) ?_
      refine lv_iload_n hx hb dX5_set_22 rfl (lv_at hl 2 rfl) ?_
      refine va_put (D := E.1) (ci := 5) (ty := .int) (C := RX5) (T := TX5) (N := 14) hx hb hts hinX5 tyX5 tyX5_ok nmX5 hown hE.1 hP hD hS 0 rfl rfl 0 (by decide) (hts (.fieldLink RX5 7 "StakeHouseModel" "goal" "I") (by decide +kernel)) (fun _ h9 => h9) rfl (by decide +kernel) rfl rfl (Nat.le_of_ble_eq_true rfl) dX5_set_23 (fun H locs hP hD hS => ?_)
      have hP : va_P E.1 vwCl (wM E am v hz n kd ch tm tx lm td tr bs nw th pd ++ rest) H := hP
      have hD : va_D (va_A (wM E am g hz n kd ch tm tx lm td tr bs nw th pd ++ rest) s.heap.size) (wM E am v hz n kd ch tm tx lm td tr bs nw th pd ++ rest) := hD
      refine lv_iconst (v := nI 0) hx hb dX5_set_26 (by decide) ?_
      refine st_i2 hx hb 4 dX5_set_27 hl (by decide) rfl (fun ls hl => ?_)
      refine wLoopH 33 0 (fun i H locs ls => ∃ t1 : Nat → Int32, (∀ j, j < i → t1 j = nI 0) ∧ va_P E.1 vwCl (wM E am v hz n kd ch tm tx lm t1 tr bs nw th pd ++ rest) H ∧ va_D (va_A (wM E am g hz n kd ch tm tx lm td tr bs nw th pd ++ rest) s.heap.size) (wM E am v hz n kd ch tm tx lm t1 tr bs nw th pd ++ rest) ∧ va_S (va_A (wM E am g hz n kd ch tm tx lm td tr bs nw th pd ++ rest) s.heap.size) s.heap H locs ∧ lv_has ls 5 [(0, .ref (am 0)), (1, .int wv), (2, .int (nI v)), (3, .int (nI g)), (4, .int (nI i))]) (Nat.zero_le _) (fun i H locs ls hi_i hI ih => ?_) (fun H locs ls hI => ?_) ⟨td, fun j hj => absurd hj (by omega), hP, hD, hS, hl⟩
      · skip
        obtain ⟨t1, ht1, hP, hD, hS, hl⟩ := hI
        refine lv_iload hx hb dX5_set_29 (lv_at hl 4 rfl) ?_
        refine lv_bipush (v := nI 33) hx hb dX5_set_31 (by decide) ?_
        refine n_ge hx hb (by omega) (by omega) 50 dX5_set_33 (by decide) (fun c33 => ?_) (fun c33 => ?_)
        · skip
          exact absurd c33 (by omega)
        · skip
          refine lv_aload_n hx hb dX5_set_36 rfl (lv_at hl 0 rfl) ?_
          refine va_get (D := E.1) (ci := 5) (C := RX5) (T := TX5) (N := 14) hx hb hts hinX5 hown hE.1 hP 0 rfl rfl 8 (by decide) (hts (.fieldLink RX5 32 "StakeHouseModel" "told" "[I") (by decide +kernel)) (fun _ h9 => h9) rfl dX5_set_37 ?_
          refine lv_iload hx hb dX5_set_40 (lv_at hl 4 rfl) ?_
          refine lv_iconst (v := nI 0) hx hb dX5_set_42 (by decide) ?_
          refine va_iast hx hb hE.1 hP hD hS 6 0 rfl rfl (vp_in_nI (by omega) (by decide)) dX5_set_43 (fun H locs hP hD hS => ?_)
          have hP : va_P E.1 vwCl (wM E am v hz n kd ch tm tx lm (upd t1 (nI i).toNatClampNeg (nI 0)) tr bs nw th pd ++ rest) H := hP
          have hD : va_D (va_A (wM E am g hz n kd ch tm tx lm td tr bs nw th pd ++ rest) s.heap.size) (wM E am v hz n kd ch tm tx lm (upd t1 (nI i).toNatClampNeg (nI 0)) tr bs nw th pd ++ rest) := hD
          refine st_inc hx hb 4 dX5_set_44 hl rfl (nI_1 _) (by decide) rfl (fun ls hl => ?_)
          refine lv_goto (tgt := 29) hx hb dX5_set_47 (by decide) ?_
          refine ih _ _ _ ⟨_, fun j hj => ?_, hP, hD, hS, hl⟩
          rw [nI_clamp (by omega)]
          by_cases hji : j = i
          · subst hji; exact pk_us
          · rw [pk_un hji]; exact ht1 j (by omega)
      · skip
        obtain ⟨t1, ht1, hP, hD, hS, hl⟩ := hI
        have hP : va_P E.1 vwCl (wM E am v hz n kd ch tm tx lm (fun _ => nI 0) tr bs nw th pd ++ rest) H := va_P_re hP (k := 6) rfl (xI_congr (f' := fun _ => nI 0) ht1)
        have hD : va_D (va_A (wM E am g hz n kd ch tm tx lm td tr bs nw th pd ++ rest) s.heap.size) (wM E am v hz n kd ch tm tx lm (fun _ => nI 0) tr bs nw th pd ++ rest) := va_D.set (p := 6) (e0 := xI E 33 t1) (e := xI E 33 (fun _ => nI 0)) hD rfl
        refine lv_iload hx hb dX5_set_29 (lv_at hl 4 rfl) ?_
        refine lv_bipush (v := nI 33) hx hb dX5_set_31 (by decide) ?_
        refine n_ge hx hb (by omega) (by omega) 50 dX5_set_33 (by decide) (fun c33 => ?_) (fun c33 => ?_)
        · skip
          refine lv_goto (tgt := 78) hx hb dX5_set_50 (by decide) ?_
          refine lv_iload_n hx hb dX5_set_78 rfl (lv_at hl 3 rfl) ?_
          exact ret_Wi hx hb hr hlocks dX5_set_79 hP hD hS ⟨v, hz, _, Or.inl ⟨v, c3, rfl, hv1, hv2, rfl, rfl, rfl, rfl, rfl⟩, rfl⟩
        · skip
          exact absurd c33 (by omega)
set_option maxHeartbeats 4000000 in
set_option maxRecDepth 100000 in
/-- game -/
theorem m_game (l : Launch) (E : eT) (am : Nat → Nat) (g hz n : Nat) (kd ch tm tx lm : Nat → Int32) (td : Nat → Int32) (tr : Int64) (bs nw th : Nat → Int64) (pd : Int64) (rest : va_W) (hn : n ≤ 4) (kv cv mv xv lv : Int32) : mWi l yX5_game wsX5_game 1 24 0 0 E (wM E am g hz n kd ch tm tx lm td tr bs nw th pd ++ rest) [.ref (am 0), .int kv, .int cv, .int mv, .int xv, .int lv] (fun r ws1 => ((¬ ∃ d : gT, gArg d kv cv mv xv lv) ∧ r = -1 ∧ ws1 = wM E am g hz n kd ch tm tx lm td tr bs nw th pd ++ rest) ∨ ((∃ d : gT, gArg d kv cv mv xv lv) ∧ n = 4 ∧ r = -3 ∧ ws1 = wM E am g hz n kd ch tm tx lm td tr bs nw th pd ++ rest) ∨ ((∃ d : gT, gArg d kv cv mv xv lv) ∧ n < 4 ∧ r = nI n ∧ ws1 = wM E am g hz (n + 1) (upd kd n kv) (upd ch n cv) (upd tm n mv) (upd tx n xv) (upd lm n lv) td tr bs nw th pd ++ rest)) := by
  intro sz
  refine mW_of (cc := cX5_game) (maxL := 7) (ret := (some .int)) (Qc := fun sz => va_Qi (fun r ws1 => ((¬ ∃ d : gT, gArg d kv cv mv xv lv) ∧ r = -1 ∧ ws1 = wM E am g hz n kd ch tm tx lm td tr bs nw th pd ++ rest) ∨ ((∃ d : gT, gArg d kv cv mv xv lv) ∧ n = 4 ∧ r = -3 ∧ ws1 = wM E am g hz n kd ch tm tx lm td tr bs nw th pd ++ rest) ∨ ((∃ d : gT, gArg d kv cv mv xv lv) ∧ n < 4 ∧ r = nI n ∧ ws1 = wM E am g hz (n + 1) (upd kd n kv) (upd ch n cv) (upd tm n mv) (upd tx n xv) (upd lm n lv) td tr bs nw th pd ++ rest)) (eAt E (va_A (wM E am g hz n kd ch tm tx lm td tr bs nw th pd ++ rest) sz)) (va_A (wM E am g hz n kd ch tm tx lm td tr bs nw th pd ++ rest) sz)) (by decide) rfl (Nat.le_of_ble_eq_true rfl) ?_
  intro p0 e0 s m below meth c0 ls hx hb hr hml hts hown hlocks hin hE hP hD hl
  have hS : va_S (va_A (wM E am g hz n kd ch tm tx lm td tr bs nw th pd ++ rest) s.heap.size) s.heap s.heap [] := va_S.rf
  have hA : ∀ q, s.heap.size ≤ q → (va_A (wM E am g hz n kd ch tm tx lm td tr bs nw th pd ++ rest) s.heap.size) q := fun q h => Or.inr h
  have hown : s.vm.findClass RX5 = some m.cls := hown
  have hl : lv_has ls 7 [(0, .ref (am 0)), (1, .int kv), (2, .int cv), (3, .int mv), (4, .int xv), (5, .int lv)] := hl
  have hinX5 : ∀ w ∈ wsX50, w ∈ wsX5_game := by decide +kernel
  refine wCut (fun x : Int32 => F0 m 65 ls [.int x]) (fun x => (x = nI 1 ∧ ∃ d : gT, gArg d kv cv mv xv lv) ∨ (x = nI 0 ∧ ¬ ∃ d : gT, gArg d kv cv mv xv lv)) ?_ ?_
  · skip
    intro x hx0
    refine st_i2 hx hb 6 dX5_game_65 hl (by decide) rfl (fun ls hl => ?_)
    refine lv_iload hx hb dX5_game_67 (lv_at hl 6 rfl) ?_
    refine lv_if_ne (tgt := 74) hx hb dX5_game_69 (by decide) (fun c69 => ?_) (fun c69 => ?_)
    · skip
      have hex : ∃ d : gT, gArg d kv cv mv xv lv := by
        rcases hx0 with ⟨-, h⟩ | ⟨h, -⟩
        · exact h
        · exact absurd h c69
      refine lv_aload_n hx hb dX5_game_74 rfl (lv_at hl 0 rfl) ?_
      refine va_get (D := E.1) (ci := 5) (C := RX5) (T := TX5) (N := 14) hx hb hts hinX5 hown hE.1 hP 0 rfl rfl 2 (by decide) (hts (.fieldLink RX5 45 "StakeHouseModel" "games" "I") (by decide +kernel)) (fun _ h9 => h9) rfl dX5_game_75 ?_
      refine lv_iconst (v := nI 4) hx hb dX5_game_78 (by decide) ?_
      refine n_ne hx hb (by omega) (by omega) 85 dX5_game_79 (by decide) (fun c79 => ?_) (fun c79 => ?_)
      · skip
        refine lv_aload_n hx hb dX5_game_85 rfl (lv_at hl 0 rfl) ?_
        refine va_get (D := E.1) (ci := 5) (C := RX5) (T := TX5) (N := 14) hx hb hts hinX5 hown hE.1 hP 0 rfl rfl 3 (by decide) (hts (.fieldLink RX5 16 "StakeHouseModel" "kind" "[I") (by decide +kernel)) (fun _ h9 => h9) rfl dX5_game_86 ?_
        refine lv_aload_n hx hb dX5_game_89 rfl (lv_at hl 0 rfl) ?_
        refine va_get (D := E.1) (ci := 5) (C := RX5) (T := TX5) (N := 14) hx hb hts hinX5 hown hE.1 hP 0 rfl rfl 2 (by decide) (hts (.fieldLink RX5 45 "StakeHouseModel" "games" "I") (by decide +kernel)) (fun _ h9 => h9) rfl dX5_game_90 ?_
        refine lv_iload_n hx hb dX5_game_93 rfl (lv_at hl 1 rfl) ?_
        refine va_iast hx hb hE.1 hP hD hS 1 0 rfl rfl (vp_in_nI (by omega) (by decide)) dX5_game_94 (fun H locs hP hD hS => ?_)
        have hP : va_P E.1 vwCl (wM E am g hz n (upd kd n kv) ch tm tx lm td tr bs nw th pd ++ rest) H := (by rw [nI_clamp (by omega)] at hP; exact hP)
        have hD : va_D (va_A (wM E am g hz n kd ch tm tx lm td tr bs nw th pd ++ rest) s.heap.size) (wM E am g hz n (upd kd n kv) ch tm tx lm td tr bs nw th pd ++ rest) := (by rw [nI_clamp (by omega)] at hD; exact hD)
        refine lv_aload_n hx hb dX5_game_95 rfl (lv_at hl 0 rfl) ?_
        refine va_get (D := E.1) (ci := 5) (C := RX5) (T := TX5) (N := 14) hx hb hts hinX5 hown hE.1 hP 0 rfl rfl 4 (by decide) (hts (.fieldLink RX5 20 "StakeHouseModel" "chance" "[I") (by decide +kernel)) (fun _ h9 => h9) rfl dX5_game_96 ?_
        refine lv_aload_n hx hb dX5_game_99 rfl (lv_at hl 0 rfl) ?_
        refine va_get (D := E.1) (ci := 5) (C := RX5) (T := TX5) (N := 14) hx hb hts hinX5 hown hE.1 hP 0 rfl rfl 2 (by decide) (hts (.fieldLink RX5 45 "StakeHouseModel" "games" "I") (by decide +kernel)) (fun _ h9 => h9) rfl dX5_game_100 ?_
        refine lv_iload_n hx hb dX5_game_103 rfl (lv_at hl 2 rfl) ?_
        refine va_iast hx hb hE.1 hP hD hS 2 0 rfl rfl (vp_in_nI (by omega) (by decide)) dX5_game_104 (fun H locs hP hD hS => ?_)
        have hP : va_P E.1 vwCl (wM E am g hz n (upd kd n kv) (upd ch n cv) tm tx lm td tr bs nw th pd ++ rest) H := (by rw [nI_clamp (by omega)] at hP; exact hP)
        have hD : va_D (va_A (wM E am g hz n kd ch tm tx lm td tr bs nw th pd ++ rest) s.heap.size) (wM E am g hz n (upd kd n kv) (upd ch n cv) tm tx lm td tr bs nw th pd ++ rest) := (by rw [nI_clamp (by omega)] at hD; exact hD)
        refine lv_aload_n hx hb dX5_game_105 rfl (lv_at hl 0 rfl) ?_
        refine va_get (D := E.1) (ci := 5) (C := RX5) (T := TX5) (N := 14) hx hb hts hinX5 hown hE.1 hP 0 rfl rfl 5 (by decide) (hts (.fieldLink RX5 23 "StakeHouseModel" "times" "[I") (by decide +kernel)) (fun _ h9 => h9) rfl dX5_game_106 ?_
        refine lv_aload_n hx hb dX5_game_109 rfl (lv_at hl 0 rfl) ?_
        refine va_get (D := E.1) (ci := 5) (C := RX5) (T := TX5) (N := 14) hx hb hts hinX5 hown hE.1 hP 0 rfl rfl 2 (by decide) (hts (.fieldLink RX5 45 "StakeHouseModel" "games" "I") (by decide +kernel)) (fun _ h9 => h9) rfl dX5_game_110 ?_
        refine lv_iload_n hx hb dX5_game_113 rfl (lv_at hl 3 rfl) ?_
        refine va_iast hx hb hE.1 hP hD hS 3 0 rfl rfl (vp_in_nI (by omega) (by decide)) dX5_game_114 (fun H locs hP hD hS => ?_)
        have hP : va_P E.1 vwCl (wM E am g hz n (upd kd n kv) (upd ch n cv) (upd tm n mv) tx lm td tr bs nw th pd ++ rest) H := (by rw [nI_clamp (by omega)] at hP; exact hP)
        have hD : va_D (va_A (wM E am g hz n kd ch tm tx lm td tr bs nw th pd ++ rest) s.heap.size) (wM E am g hz n (upd kd n kv) (upd ch n cv) (upd tm n mv) tx lm td tr bs nw th pd ++ rest) := (by rw [nI_clamp (by omega)] at hD; exact hD)
        refine lv_aload_n hx hb dX5_game_115 rfl (lv_at hl 0 rfl) ?_
        refine va_get (D := E.1) (ci := 5) (C := RX5) (T := TX5) (N := 14) hx hb hts hinX5 hown hE.1 hP 0 rfl rfl 6 (by decide) (hts (.fieldLink RX5 26 "StakeHouseModel" "tax" "[I") (by decide +kernel)) (fun _ h9 => h9) rfl dX5_game_116 ?_
        refine lv_aload_n hx hb dX5_game_119 rfl (lv_at hl 0 rfl) ?_
        refine va_get (D := E.1) (ci := 5) (C := RX5) (T := TX5) (N := 14) hx hb hts hinX5 hown hE.1 hP 0 rfl rfl 2 (by decide) (hts (.fieldLink RX5 45 "StakeHouseModel" "games" "I") (by decide +kernel)) (fun _ h9 => h9) rfl dX5_game_120 ?_
        refine lv_iload hx hb dX5_game_123 (lv_at hl 4 rfl) ?_
        refine va_iast hx hb hE.1 hP hD hS 4 0 rfl rfl (vp_in_nI (by omega) (by decide)) dX5_game_125 (fun H locs hP hD hS => ?_)
        have hP : va_P E.1 vwCl (wM E am g hz n (upd kd n kv) (upd ch n cv) (upd tm n mv) (upd tx n xv) lm td tr bs nw th pd ++ rest) H := (by rw [nI_clamp (by omega)] at hP; exact hP)
        have hD : va_D (va_A (wM E am g hz n kd ch tm tx lm td tr bs nw th pd ++ rest) s.heap.size) (wM E am g hz n (upd kd n kv) (upd ch n cv) (upd tm n mv) (upd tx n xv) lm td tr bs nw th pd ++ rest) := (by rw [nI_clamp (by omega)] at hD; exact hD)
        refine lv_aload_n hx hb dX5_game_126 rfl (lv_at hl 0 rfl) ?_
        refine va_get (D := E.1) (ci := 5) (C := RX5) (T := TX5) (N := 14) hx hb hts hinX5 hown hE.1 hP 0 rfl rfl 7 (by decide) (hts (.fieldLink RX5 29 "StakeHouseModel" "limit" "[I") (by decide +kernel)) (fun _ h9 => h9) rfl dX5_game_127 ?_
        refine lv_aload_n hx hb dX5_game_130 rfl (lv_at hl 0 rfl) ?_
        refine va_get (D := E.1) (ci := 5) (C := RX5) (T := TX5) (N := 14) hx hb hts hinX5 hown hE.1 hP 0 rfl rfl 2 (by decide) (hts (.fieldLink RX5 45 "StakeHouseModel" "games" "I") (by decide +kernel)) (fun _ h9 => h9) rfl dX5_game_131 ?_
        refine lv_iload hx hb dX5_game_134 (lv_at hl 5 rfl) ?_
        refine va_iast hx hb hE.1 hP hD hS 5 0 rfl rfl (vp_in_nI (by omega) (by decide)) dX5_game_136 (fun H locs hP hD hS => ?_)
        have hP : va_P E.1 vwCl (wM E am g hz n (upd kd n kv) (upd ch n cv) (upd tm n mv) (upd tx n xv) (upd lm n lv) td tr bs nw th pd ++ rest) H := (by rw [nI_clamp (by omega)] at hP; exact hP)
        have hD : va_D (va_A (wM E am g hz n kd ch tm tx lm td tr bs nw th pd ++ rest) s.heap.size) (wM E am g hz n (upd kd n kv) (upd ch n cv) (upd tm n mv) (upd tx n xv) (upd lm n lv) td tr bs nw th pd ++ rest) := (by rw [nI_clamp (by omega)] at hD; exact hD)
        refine lv_aload_n hx hb dX5_game_137 rfl (lv_at hl 0 rfl) ?_
        refine lv_dup hx hb dX5_game_138 rfl ?_
        refine va_get (D := E.1) (ci := 5) (C := RX5) (T := TX5) (N := 14) hx hb hts hinX5 hown hE.1 hP 0 rfl rfl 2 (by decide) (hts (.fieldLink RX5 45 "StakeHouseModel" "games" "I") (by decide +kernel)) (fun _ h9 => h9) rfl dX5_game_139 ?_
        refine lv_iconst (v := nI 1) hx hb dX5_game_142 (by decide) ?_
        refine lv_iadd hx hb dX5_game_143 ?_
        refine tp_i (nI_add _ _) ?_
        refine va_put (D := E.1) (ci := 5) (ty := .int) (C := RX5) (T := TX5) (N := 14) hx hb hts hinX5 tyX5 tyX5_ok nmX5 hown hE.1 hP hD hS 0 rfl rfl 2 (by decide) (hts (.fieldLink RX5 45 "StakeHouseModel" "games" "I") (by decide +kernel)) (fun _ h9 => h9) rfl (by decide +kernel) rfl rfl (Nat.le_of_ble_eq_true rfl) dX5_game_144 (fun H locs hP hD hS => ?_)
        have hP : va_P E.1 vwCl (wM E am g hz (n + 1) (upd kd n kv) (upd ch n cv) (upd tm n mv) (upd tx n xv) (upd lm n lv) td tr bs nw th pd ++ rest) H := hP
        have hD : va_D (va_A (wM E am g hz n kd ch tm tx lm td tr bs nw th pd ++ rest) s.heap.size) (wM E am g hz (n + 1) (upd kd n kv) (upd ch n cv) (upd tm n mv) (upd tx n xv) (upd lm n lv) td tr bs nw th pd ++ rest) := hD
        refine lv_aload_n hx hb dX5_game_147 rfl (lv_at hl 0 rfl) ?_
        refine va_get (D := E.1) (ci := 5) (C := RX5) (T := TX5) (N := 14) hx hb hts hinX5 hown hE.1 hP 0 rfl rfl 2 (by decide) (hts (.fieldLink RX5 45 "StakeHouseModel" "games" "I") (by decide +kernel)) (fun _ h9 => h9) rfl dX5_game_148 ?_
        refine lv_iconst (v := nI 1) hx hb dX5_game_151 (by decide) ?_
        refine lv_isub hx hb dX5_game_152 ?_
        refine tp_i (show _ = nI n from nI_pred n) ?_
        exact ret_Wi hx hb hr hlocks dX5_game_153 hP hD hS (Or.inr (Or.inr ⟨hex, by omega, rfl, rfl⟩))
      · skip
        refine lv_bipush (v := (-3)) hx hb dX5_game_82 (by decide) ?_
        exact ret_Wi hx hb hr hlocks dX5_game_84 hP hD hS (Or.inr (Or.inl ⟨hex, c79, rfl, rfl⟩))
    · skip
      have hex : ¬ ∃ d : gT, gArg d kv cv mv xv lv := by
        rcases hx0 with ⟨h, -⟩ | ⟨-, h⟩
        · rw [h] at c69; exact absurd c69 (by decide)
        · exact h
      refine lv_iconst (v := (-1)) hx hb dX5_game_72 (by decide) ?_
      exact ret_Wi hx hb hr hlocks dX5_game_73 hP hD hS (Or.inl ⟨hex, rfl, rfl⟩)
  · skip
    intro K
    refine lv_iload_n hx hb dX5_game_0 rfl (lv_at hl 1 rfl) ?_
    refine lv_iconst (v := nI 0) hx hb dX5_game_1 (by decide) ?_
    refine lv_iconst (v := nI 2) hx hb dX5_game_2 (by decide) ?_
    refine vp_callSi (W.runS ⟨hx, hb, hml, hown, hts⟩ (c_in l E _ _ _ _) (va_cwS 3 hts gX5_game_X5_in rfl rfl rfl (by decide +kernel) ⟨Nat.le_of_ble_eq_true rfl, Nat.le_of_ble_eq_true rfl⟩) (ePu_S hP hE) rfl rfl hl.1 rfl (lv_room (Nat.le_of_ble_eq_true rfl)) dX5_game_3 ⟨Nat.zero_le _, Nat.zero_le _⟩) (fun r9 hr9 => ?_)
    subst hr9
    refine q_eq hx hb 64 dX5_game_6 (by decide) (fun c6 => ?_) (fun c6 => ?_)
    · skip
      refine lv_iconst (v := nI 0) hx hb dX5_game_64 (by decide) ?_
      exact K _ (Or.inr ⟨rfl, fun ⟨d, hd⟩ => c6 (gArg_1 hd).1⟩)
    · skip
      refine lv_iload_n hx hb dX5_game_9 rfl (lv_at hl 2 rfl) ?_
      refine lv_iconst (v := nI 0) hx hb dX5_game_10 (by decide) ?_
      refine lv_bipush (v := nI 16) hx hb dX5_game_11 (by decide) ?_
      refine vp_callSi (W.runS ⟨hx, hb, hml, hown, hts⟩ (c_in l E _ _ _ _) (va_cwS 3 hts gX5_game_X5_in rfl rfl rfl (by decide +kernel) ⟨Nat.le_of_ble_eq_true rfl, Nat.le_of_ble_eq_true rfl⟩) (ePu_S hP hE) rfl rfl hl.1 rfl (lv_room (Nat.le_of_ble_eq_true rfl)) dX5_game_13 ⟨Nat.zero_le _, Nat.zero_le _⟩) (fun r9 hr9 => ?_)
      subst hr9
      refine q_eq hx hb 64 dX5_game_16 (by decide) (fun c16 => ?_) (fun c16 => ?_)
      · skip
        refine lv_iconst (v := nI 0) hx hb dX5_game_64 (by decide) ?_
        exact K _ (Or.inr ⟨rfl, fun ⟨d, hd⟩ => c16 (gArg_1 hd).2.1⟩)
      · skip
        refine lv_iload_n hx hb dX5_game_19 rfl (lv_at hl 1 rfl) ?_
        refine lv_if_eq (tgt := 33) hx hb dX5_game_20 (by decide) (fun c20 => ?_) (fun c20 => ?_)
        · skip
          have h4 : kv ≠ 0 → nI 1 ≤ mv ∧ mv ≤ nI 9 := fun q => absurd c20 q
          refine lv_iload_n hx hb dX5_game_33 rfl (lv_at hl 1 rfl) ?_
          refine lv_iconst (v := nI 2) hx hb dX5_game_34 (by decide) ?_
          refine lv_icmp_lt (tgt := 49) hx hb dX5_game_35 (by decide) (fun c35 => ?_) (fun c35 => ?_)
          · skip
            have h5 : kv = nI 2 → nI 0 ≤ xv ∧ xv ≤ nI 10 := fun z => by rw [z] at c35; exact absurd c35 (by decide)
            refine lv_iload hx hb dX5_game_49 (lv_at hl 5 rfl) ?_
            refine lv_iconst (v := nI 1) hx hb dX5_game_51 (by decide) ?_
            refine lv_bipush (v := nI 32) hx hb dX5_game_52 (by decide) ?_
            refine vp_callSi (W.runS ⟨hx, hb, hml, hown, hts⟩ (c_in l E _ _ _ _) (va_cwS 3 hts gX5_game_X5_in rfl rfl rfl (by decide +kernel) ⟨Nat.le_of_ble_eq_true rfl, Nat.le_of_ble_eq_true rfl⟩) (ePu_S hP hE) rfl rfl hl.1 rfl (lv_room (Nat.le_of_ble_eq_true rfl)) dX5_game_54 ⟨Nat.zero_le _, Nat.zero_le _⟩) (fun r9 hr9 => ?_)
            subst hr9
            refine q_eq hx hb 64 dX5_game_57 (by decide) (fun c57 => ?_) (fun c57 => ?_)
            · skip
              refine lv_iconst (v := nI 0) hx hb dX5_game_64 (by decide) ?_
              exact K _ (Or.inr ⟨rfl, fun ⟨d, hd⟩ => c57 (gArg_1 hd).2.2.1⟩)
            · skip
              refine lv_iconst (v := nI 1) hx hb dX5_game_60 (by decide) ?_
              refine lv_goto (tgt := 65) hx hb dX5_game_61 (by decide) ?_
              exact K _ (Or.inl ⟨rfl, gArg_of c6 c16 c57 h4 h5⟩)
          · skip
            have e2 : kv = nI 2 := Int32.le_antisymm c6.2 (Int32.not_lt.mp c35)
            refine lv_iload hx hb dX5_game_38 (lv_at hl 4 rfl) ?_
            refine lv_iconst (v := nI 0) hx hb dX5_game_40 (by decide) ?_
            refine lv_bipush (v := nI 10) hx hb dX5_game_41 (by decide) ?_
            refine vp_callSi (W.runS ⟨hx, hb, hml, hown, hts⟩ (c_in l E _ _ _ _) (va_cwS 3 hts gX5_game_X5_in rfl rfl rfl (by decide +kernel) ⟨Nat.le_of_ble_eq_true rfl, Nat.le_of_ble_eq_true rfl⟩) (ePu_S hP hE) rfl rfl hl.1 rfl (lv_room (Nat.le_of_ble_eq_true rfl)) dX5_game_43 ⟨Nat.zero_le _, Nat.zero_le _⟩) (fun r9 hr9 => ?_)
            subst hr9
            refine q_eq hx hb 64 dX5_game_46 (by decide) (fun c46 => ?_) (fun c46 => ?_)
            · skip
              refine lv_iconst (v := nI 0) hx hb dX5_game_64 (by decide) ?_
              exact K _ (Or.inr ⟨rfl, fun ⟨d, hd⟩ => c46 ((gArg_1 hd).2.2.2.2 e2)⟩)
            · skip
              have h5 : kv = nI 2 → nI 0 ≤ xv ∧ xv ≤ nI 10 := fun _ => c46
              refine lv_iload hx hb dX5_game_49 (lv_at hl 5 rfl) ?_
              refine lv_iconst (v := nI 1) hx hb dX5_game_51 (by decide) ?_
              refine lv_bipush (v := nI 32) hx hb dX5_game_52 (by decide) ?_
              refine vp_callSi (W.runS ⟨hx, hb, hml, hown, hts⟩ (c_in l E _ _ _ _) (va_cwS 3 hts gX5_game_X5_in rfl rfl rfl (by decide +kernel) ⟨Nat.le_of_ble_eq_true rfl, Nat.le_of_ble_eq_true rfl⟩) (ePu_S hP hE) rfl rfl hl.1 rfl (lv_room (Nat.le_of_ble_eq_true rfl)) dX5_game_54 ⟨Nat.zero_le _, Nat.zero_le _⟩) (fun r9 hr9 => ?_)
              subst hr9
              refine q_eq hx hb 64 dX5_game_57 (by decide) (fun c57 => ?_) (fun c57 => ?_)
              · skip
                refine lv_iconst (v := nI 0) hx hb dX5_game_64 (by decide) ?_
                exact K _ (Or.inr ⟨rfl, fun ⟨d, hd⟩ => c57 (gArg_1 hd).2.2.1⟩)
              · skip
                refine lv_iconst (v := nI 1) hx hb dX5_game_60 (by decide) ?_
                refine lv_goto (tgt := 65) hx hb dX5_game_61 (by decide) ?_
                exact K _ (Or.inl ⟨rfl, gArg_of c6 c16 c57 h4 h5⟩)
        · skip
          refine lv_iload_n hx hb dX5_game_23 rfl (lv_at hl 3 rfl) ?_
          refine lv_iconst (v := nI 1) hx hb dX5_game_24 (by decide) ?_
          refine lv_bipush (v := nI 9) hx hb dX5_game_25 (by decide) ?_
          refine vp_callSi (W.runS ⟨hx, hb, hml, hown, hts⟩ (c_in l E _ _ _ _) (va_cwS 3 hts gX5_game_X5_in rfl rfl rfl (by decide +kernel) ⟨Nat.le_of_ble_eq_true rfl, Nat.le_of_ble_eq_true rfl⟩) (ePu_S hP hE) rfl rfl hl.1 rfl (lv_room (Nat.le_of_ble_eq_true rfl)) dX5_game_27 ⟨Nat.zero_le _, Nat.zero_le _⟩) (fun r9 hr9 => ?_)
          subst hr9
          refine q_eq hx hb 64 dX5_game_30 (by decide) (fun c30 => ?_) (fun c30 => ?_)
          · skip
            refine lv_iconst (v := nI 0) hx hb dX5_game_64 (by decide) ?_
            exact K _ (Or.inr ⟨rfl, fun ⟨d, hd⟩ => c30 ((gArg_1 hd).2.2.2.1 c20)⟩)
          · skip
            have h4 : kv ≠ 0 → nI 1 ≤ mv ∧ mv ≤ nI 9 := fun _ => c30
            refine lv_iload_n hx hb dX5_game_33 rfl (lv_at hl 1 rfl) ?_
            refine lv_iconst (v := nI 2) hx hb dX5_game_34 (by decide) ?_
            refine lv_icmp_lt (tgt := 49) hx hb dX5_game_35 (by decide) (fun c35 => ?_) (fun c35 => ?_)
            · skip
              have h5 : kv = nI 2 → nI 0 ≤ xv ∧ xv ≤ nI 10 := fun z => by rw [z] at c35; exact absurd c35 (by decide)
              refine lv_iload hx hb dX5_game_49 (lv_at hl 5 rfl) ?_
              refine lv_iconst (v := nI 1) hx hb dX5_game_51 (by decide) ?_
              refine lv_bipush (v := nI 32) hx hb dX5_game_52 (by decide) ?_
              refine vp_callSi (W.runS ⟨hx, hb, hml, hown, hts⟩ (c_in l E _ _ _ _) (va_cwS 3 hts gX5_game_X5_in rfl rfl rfl (by decide +kernel) ⟨Nat.le_of_ble_eq_true rfl, Nat.le_of_ble_eq_true rfl⟩) (ePu_S hP hE) rfl rfl hl.1 rfl (lv_room (Nat.le_of_ble_eq_true rfl)) dX5_game_54 ⟨Nat.zero_le _, Nat.zero_le _⟩) (fun r9 hr9 => ?_)
              subst hr9
              refine q_eq hx hb 64 dX5_game_57 (by decide) (fun c57 => ?_) (fun c57 => ?_)
              · skip
                refine lv_iconst (v := nI 0) hx hb dX5_game_64 (by decide) ?_
                exact K _ (Or.inr ⟨rfl, fun ⟨d, hd⟩ => c57 (gArg_1 hd).2.2.1⟩)
              · skip
                refine lv_iconst (v := nI 1) hx hb dX5_game_60 (by decide) ?_
                refine lv_goto (tgt := 65) hx hb dX5_game_61 (by decide) ?_
                exact K _ (Or.inl ⟨rfl, gArg_of c6 c16 c57 h4 h5⟩)
            · skip
              have e2 : kv = nI 2 := Int32.le_antisymm c6.2 (Int32.not_lt.mp c35)
              refine lv_iload hx hb dX5_game_38 (lv_at hl 4 rfl) ?_
              refine lv_iconst (v := nI 0) hx hb dX5_game_40 (by decide) ?_
              refine lv_bipush (v := nI 10) hx hb dX5_game_41 (by decide) ?_
              refine vp_callSi (W.runS ⟨hx, hb, hml, hown, hts⟩ (c_in l E _ _ _ _) (va_cwS 3 hts gX5_game_X5_in rfl rfl rfl (by decide +kernel) ⟨Nat.le_of_ble_eq_true rfl, Nat.le_of_ble_eq_true rfl⟩) (ePu_S hP hE) rfl rfl hl.1 rfl (lv_room (Nat.le_of_ble_eq_true rfl)) dX5_game_43 ⟨Nat.zero_le _, Nat.zero_le _⟩) (fun r9 hr9 => ?_)
              subst hr9
              refine q_eq hx hb 64 dX5_game_46 (by decide) (fun c46 => ?_) (fun c46 => ?_)
              · skip
                refine lv_iconst (v := nI 0) hx hb dX5_game_64 (by decide) ?_
                exact K _ (Or.inr ⟨rfl, fun ⟨d, hd⟩ => c46 ((gArg_1 hd).2.2.2.2 e2)⟩)
              · skip
                have h5 : kv = nI 2 → nI 0 ≤ xv ∧ xv ≤ nI 10 := fun _ => c46
                refine lv_iload hx hb dX5_game_49 (lv_at hl 5 rfl) ?_
                refine lv_iconst (v := nI 1) hx hb dX5_game_51 (by decide) ?_
                refine lv_bipush (v := nI 32) hx hb dX5_game_52 (by decide) ?_
                refine vp_callSi (W.runS ⟨hx, hb, hml, hown, hts⟩ (c_in l E _ _ _ _) (va_cwS 3 hts gX5_game_X5_in rfl rfl rfl (by decide +kernel) ⟨Nat.le_of_ble_eq_true rfl, Nat.le_of_ble_eq_true rfl⟩) (ePu_S hP hE) rfl rfl hl.1 rfl (lv_room (Nat.le_of_ble_eq_true rfl)) dX5_game_54 ⟨Nat.zero_le _, Nat.zero_le _⟩) (fun r9 hr9 => ?_)
                subst hr9
                refine q_eq hx hb 64 dX5_game_57 (by decide) (fun c57 => ?_) (fun c57 => ?_)
                · skip
                  refine lv_iconst (v := nI 0) hx hb dX5_game_64 (by decide) ?_
                  exact K _ (Or.inr ⟨rfl, fun ⟨d, hd⟩ => c57 (gArg_1 hd).2.2.1⟩)
                · skip
                  refine lv_iconst (v := nI 1) hx hb dX5_game_60 (by decide) ?_
                  refine lv_goto (tgt := 65) hx hb dX5_game_61 (by decide) ?_
                  exact K _ (Or.inl ⟨rfl, gArg_of c6 c16 c57 h4 h5⟩)
set_option maxHeartbeats 4000000 in
set_option maxRecDepth 100000 in
/-- drop -/
theorem m_drop (l : Launch) (E : eT) (am : Nat → Nat) (g hz n : Nat) (kd ch tm tx lm : Nat → Int32) (td : Nat → Int32) (tr : Int64) (bs nw th : Nat → Int64) (pd : Int64) (rest : va_W) (hn : n ≤ 4) : mWi l yX5_drop wsX5_drop 0 0 0 0 E (wM E am g hz n kd ch tm tx lm td tr bs nw th pd ++ rest) [.ref (am 0)] (fun r ws1 => (n = 0 ∧ r = -2 ∧ ws1 = wM E am g hz n kd ch tm tx lm td tr bs nw th pd ++ rest) ∨ (1 ≤ n ∧ r = nI (n - 1) ∧ ws1 = wM E am g hz (n - 1) kd ch tm tx lm td tr bs nw th pd ++ rest)) := by
  intro sz
  refine mW_of (cc := cX5_drop) (maxL := 1) (ret := (some .int)) (Qc := fun sz => va_Qi (fun r ws1 => (n = 0 ∧ r = -2 ∧ ws1 = wM E am g hz n kd ch tm tx lm td tr bs nw th pd ++ rest) ∨ (1 ≤ n ∧ r = nI (n - 1) ∧ ws1 = wM E am g hz (n - 1) kd ch tm tx lm td tr bs nw th pd ++ rest)) (eAt E (va_A (wM E am g hz n kd ch tm tx lm td tr bs nw th pd ++ rest) sz)) (va_A (wM E am g hz n kd ch tm tx lm td tr bs nw th pd ++ rest) sz)) (by decide) rfl (Nat.le_of_ble_eq_true rfl) ?_
  intro p0 e0 s m below meth c0 ls hx hb hr hml hts hown hlocks hin hE hP hD hl
  have hS : va_S (va_A (wM E am g hz n kd ch tm tx lm td tr bs nw th pd ++ rest) s.heap.size) s.heap s.heap [] := va_S.rf
  have hA : ∀ q, s.heap.size ≤ q → (va_A (wM E am g hz n kd ch tm tx lm td tr bs nw th pd ++ rest) s.heap.size) q := fun q h => Or.inr h
  have hown : s.vm.findClass RX5 = some m.cls := hown
  have hl : lv_has ls 1 [(0, .ref (am 0))] := hl
  have hinX5 : ∀ w ∈ wsX50, w ∈ wsX5_drop := by decide +kernel
  refine lv_aload_n hx hb dX5_drop_0 rfl (lv_at hl 0 rfl) ?_
  refine va_get (D := E.1) (ci := 5) (C := RX5) (T := TX5) (N := 14) hx hb hts hinX5 hown hE.1 hP 0 rfl rfl 2 (by decide) (hts (.fieldLink RX5 45 "StakeHouseModel" "games" "I") (by decide +kernel)) (fun _ h9 => h9) rfl dX5_drop_1 ?_
  refine z_ne hx hb (by omega) 10 dX5_drop_4 (by decide) (fun c4 => ?_) (fun c4 => ?_)
  · skip
    refine lv_aload_n hx hb dX5_drop_10 rfl (lv_at hl 0 rfl) ?_
    refine lv_dup hx hb dX5_drop_11 rfl ?_
    refine va_get (D := E.1) (ci := 5) (C := RX5) (T := TX5) (N := 14) hx hb hts hinX5 hown hE.1 hP 0 rfl rfl 2 (by decide) (hts (.fieldLink RX5 45 "StakeHouseModel" "games" "I") (by decide +kernel)) (fun _ h9 => h9) rfl dX5_drop_12 ?_
    refine lv_iconst (v := nI 1) hx hb dX5_drop_15 (by decide) ?_
    refine lv_isub hx hb dX5_drop_16 ?_
    refine tp_i (pk_sub (by omega)) ?_
    refine va_put (D := E.1) (ci := 5) (ty := .int) (C := RX5) (T := TX5) (N := 14) hx hb hts hinX5 tyX5 tyX5_ok nmX5 hown hE.1 hP hD hS 0 rfl rfl 2 (by decide) (hts (.fieldLink RX5 45 "StakeHouseModel" "games" "I") (by decide +kernel)) (fun _ h9 => h9) rfl (by decide +kernel) rfl rfl (Nat.le_of_ble_eq_true rfl) dX5_drop_17 (fun H locs hP hD hS => ?_)
    have hP : va_P E.1 vwCl (wM E am g hz (n - 1) kd ch tm tx lm td tr bs nw th pd ++ rest) H := hP
    have hD : va_D (va_A (wM E am g hz n kd ch tm tx lm td tr bs nw th pd ++ rest) s.heap.size) (wM E am g hz (n - 1) kd ch tm tx lm td tr bs nw th pd ++ rest) := hD
    refine lv_aload_n hx hb dX5_drop_20 rfl (lv_at hl 0 rfl) ?_
    refine va_get (D := E.1) (ci := 5) (C := RX5) (T := TX5) (N := 14) hx hb hts hinX5 hown hE.1 hP 0 rfl rfl 2 (by decide) (hts (.fieldLink RX5 45 "StakeHouseModel" "games" "I") (by decide +kernel)) (fun _ h9 => h9) rfl dX5_drop_21 ?_
    exact ret_Wi hx hb hr hlocks dX5_drop_24 hP hD hS (Or.inr ⟨c4, rfl, rfl⟩)
  · skip
    refine lv_bipush (v := (-2)) hx hb dX5_drop_7 (by decide) ?_
    exact ret_Wi hx hb hr hlocks dX5_drop_9 hP hD hS (Or.inl ⟨c4, rfl, rfl⟩)
set_option maxHeartbeats 4000000 in
set_option maxRecDepth 100000 in
/-- win -/
theorem m_win (l : Launch) (E : eT) (am : Nat → Nat) (g hz n : Nat) (kd ch tm tx lm : Nat → Int32) (td : Nat → Int32) (tr : Int64) (bs nw th : Nat → Int64) (pd : Int64) (rest : va_W) (hn : n ≤ 4) (gd : Nat → gT) (hM : ∀ i, i < n → gArg (gd i) (kd i) (ch i) (tm i) (tx i) (lm i)) (iv sv : Int32) : mWi l yX5_win wsX5_win 2 50 0 0 E (wM E am g hz n kd ch tm tx lm td tr bs nw th pd ++ rest) [.ref (am 0), .int iv, .int sv] (fun r ws1 => ∃ mk1 : Int64, win_of n gd tr iv sv r mk1 ∧ ws1 = wM E am g hz n kd ch tm tx lm td mk1 bs nw th pd ++ rest) := by
  intro sz
  refine mW_of (cc := cX5_win) (maxL := 3) (ret := (some .int)) (Qc := fun sz => va_Qi (fun r ws1 => ∃ mk1 : Int64, win_of n gd tr iv sv r mk1 ∧ ws1 = wM E am g hz n kd ch tm tx lm td mk1 bs nw th pd ++ rest) (eAt E (va_A (wM E am g hz n kd ch tm tx lm td tr bs nw th pd ++ rest) sz)) (va_A (wM E am g hz n kd ch tm tx lm td tr bs nw th pd ++ rest) sz)) (by decide) rfl (Nat.le_of_ble_eq_true rfl) ?_
  intro p0 e0 s m below meth c0 ls hx hb hr hml hts hown hlocks hin hE hP hD hl
  have hS : va_S (va_A (wM E am g hz n kd ch tm tx lm td tr bs nw th pd ++ rest) s.heap.size) s.heap s.heap [] := va_S.rf
  have hA : ∀ q, s.heap.size ≤ q → (va_A (wM E am g hz n kd ch tm tx lm td tr bs nw th pd ++ rest) s.heap.size) q := fun q h => Or.inr h
  have hown : s.vm.findClass RX5 = some m.cls := hown
  have hl : lv_has ls 3 [(0, .ref (am 0)), (1, .int iv), (2, .int sv)] := hl
  have hinX5 : ∀ w ∈ wsX50, w ∈ wsX5_win := by decide +kernel
  refine lv_aload_n hx hb dX5_win_0 rfl (lv_at hl 0 rfl) ?_
  refine lv_iload_n hx hb dX5_win_1 rfl (lv_at hl 1 rfl) ?_
  refine vp_callSi (W.runV ⟨hx, hb, hml, hown, hts⟩ (m_isGame l E am g hz n kd ch tm tx lm td tr bs nw th pd rest _) (cwV 1 hts gX5_win_X5_isGame rfl rfl rfl (by decide +kernel) ⟨Nat.le_of_ble_eq_true rfl, Nat.le_of_ble_eq_true rfl⟩) (ePu_V hP hE (ci := 5) (k := 0) rfl rfl) rfl rfl hl.1 rfl (lv_room (Nat.le_of_ble_eq_true rfl)) dX5_win_2 ⟨Nat.zero_le _, Nat.zero_le _⟩) (fun r9 hr9 => ?_)
  subst hr9
  refine q_eq hx hb 18 dX5_win_5 (by decide) (fun c5 => ?_) (fun c5 => ?_)
  · skip
    refine lv_iconst (v := (-1)) hx hb dX5_win_18 (by decide) ?_
    exact ret_Wi hx hb hr hlocks dX5_win_19 hP hD hS ⟨tr, Or.inr ⟨fun ⟨i, st, e1, e2, g1, g2, g3⟩ => c5 ((nI_gm (by omega)).mpr ⟨i, g1, e1⟩), rfl, rfl⟩, rfl⟩
  · skip
    obtain ⟨i, hi, rfl⟩ := (nI_gm (by omega)).mp c5
    refine lv_iload_n hx hb dX5_win_8 rfl (lv_at hl 2 rfl) ?_
    refine lv_iconst (v := nI 1) hx hb dX5_win_9 (by decide) ?_
    refine lv_bipush (v := nI 32) hx hb dX5_win_10 (by decide) ?_
    refine vp_callSi (W.runS ⟨hx, hb, hml, hown, hts⟩ (c_in l E _ _ _ _) (va_cwS 3 hts gX5_win_X5_in rfl rfl rfl (by decide +kernel) ⟨Nat.le_of_ble_eq_true rfl, Nat.le_of_ble_eq_true rfl⟩) (ePu_S hP hE) rfl rfl hl.1 rfl (lv_room (Nat.le_of_ble_eq_true rfl)) dX5_win_12 ⟨Nat.zero_le _, Nat.zero_le _⟩) (fun r9 hr9 => ?_)
    subst hr9
    refine q_ne hx hb 20 dX5_win_15 (by decide) (fun c15 => ?_) (fun c15 => ?_)
    · skip
      obtain ⟨st, hs1, hs2, rfl⟩ := nI_rng (by decide) c15 (by decide)
      have hK2 := (hM i hi).1.1
      refine lv_aload_n hx hb dX5_win_20 rfl (lv_at hl 0 rfl) ?_
      refine lv_dup hx hb dX5_win_21 rfl ?_
      refine va_get (D := E.1) (ci := 5) (C := RX5) (T := TX5) (N := 14) hx hb hts hinX5 hown hE.1 hP 0 rfl rfl 9 (by decide) (hts (.fieldLink RX5 56 "StakeHouseModel" "trace" "J") (by decide +kernel)) (fun _ h9 => h9) rfl dX5_win_22 ?_
      refine lv_aload_n hx hb dX5_win_25 rfl (lv_at hl 0 rfl) ?_
      refine va_get (D := E.1) (ci := 5) (C := RX5) (T := TX5) (N := 14) hx hb hts hinX5 hown hE.1 hP 0 rfl rfl 3 (by decide) (hts (.fieldLink RX5 16 "StakeHouseModel" "kind" "[I") (by decide +kernel)) (fun _ h9 => h9) rfl dX5_win_26 ?_
      refine lv_iload_n hx hb dX5_win_29 rfl (lv_at hl 1 rfl) ?_
      refine va_iald hx hb hE.1 hP 1 0 rfl rfl (vp_in_nI (by omega) (by decide)) dX5_win_30 ?_
      refine tp_i (show _ = nI (gK (gd i)) by rw [nI_clamp (by omega)]; exact (hM i hi).2.1) ?_
      refine z_ne hx hb (by omega) 38 dX5_win_31 (by decide) (fun c31 => ?_) (fun c31 => ?_)
      · skip
        refine lv_aload_n hx hb dX5_win_38 rfl (lv_at hl 0 rfl) ?_
        refine va_get (D := E.1) (ci := 5) (C := RX5) (T := TX5) (N := 14) hx hb hts hinX5 hown hE.1 hP 0 rfl rfl 3 (by decide) (hts (.fieldLink RX5 16 "StakeHouseModel" "kind" "[I") (by decide +kernel)) (fun _ h9 => h9) rfl dX5_win_39 ?_
        refine lv_iload_n hx hb dX5_win_42 rfl (lv_at hl 1 rfl) ?_
        refine va_iald hx hb hE.1 hP 1 0 rfl rfl (vp_in_nI (by omega) (by decide)) dX5_win_43 ?_
        refine tp_i (show _ = nI (gK (gd i)) by rw [nI_clamp (by omega)]; exact (hM i hi).2.1) ?_
        refine lv_iconst (v := nI 1) hx hb dX5_win_44 (by decide) ?_
        refine n_ne hx hb (by omega) (by omega) 54 dX5_win_45 (by decide) (fun c45 => ?_) (fun c45 => ?_)
        · skip
          have hmk : gMark (gd i) = 111 := (if_neg (by omega)).trans (if_neg (by omega))
          refine lv_ldc2 (v := 111) hx hb hown (hts (.constantLong RX5 62 (111)) (by decide +kernel)) dX5_win_54 ?_
          refine tp_l (show (111 : Int64) = lN 111 from rfl) ?_
          refine lv_ladd hx hb dX5_win_57 ?_
          refine va_put (D := E.1) (ci := 5) (ty := .long) (C := RX5) (T := TX5) (N := 14) hx hb hts hinX5 tyX5 tyX5_ok nmX5 hown hE.1 hP hD hS 0 rfl rfl 9 (by decide) (hts (.fieldLink RX5 56 "StakeHouseModel" "trace" "J") (by decide +kernel)) (fun _ h9 => h9) rfl (by decide +kernel) rfl rfl (Nat.le_of_ble_eq_true rfl) dX5_win_58 (fun H locs hP hD hS => ?_)
          have hP : va_P E.1 vwCl (wM E am g hz n kd ch tm tx lm td (tr + lN 111) bs nw th pd ++ rest) H := hP
          have hD : va_D (va_A (wM E am g hz n kd ch tm tx lm td tr bs nw th pd ++ rest) s.heap.size) (wM E am g hz n kd ch tm tx lm td (tr + lN 111) bs nw th pd ++ rest) := hD
          refine lv_aload_n hx hb dX5_win_61 rfl (lv_at hl 0 rfl) ?_
          refine lv_iload_n hx hb dX5_win_62 rfl (lv_at hl 1 rfl) ?_
          refine lv_iload_n hx hb dX5_win_63 rfl (lv_at hl 2 rfl) ?_
          refine vp_callSi (W.runV ⟨hx, hb, hml, hown, hts⟩ (m_winOf l E am g hz n kd ch tm tx lm td (tr + lN 111) bs nw th pd rest hn gd hM i st hi hs2) (cwV 2 hts gX5_win_X5_winOf rfl rfl rfl (by decide +kernel) ⟨Nat.le_of_ble_eq_true rfl, Nat.le_of_ble_eq_true rfl⟩) (ePu_V hP hE (ci := 5) (k := 0) rfl rfl) rfl rfl hl.1 rfl (lv_room (Nat.le_of_ble_eq_true rfl)) dX5_win_64 ⟨Nat.zero_le _, Nat.zero_le _⟩) (fun r9 hr9 => ?_)
          subst hr9
          exact ret_Wi hx hb hr hlocks dX5_win_67 hP hD hS ⟨_, Or.inl ⟨i, st, rfl, rfl, hi, hs1, hs2, rfl, by rw [hmk]⟩, rfl⟩
        · skip
          have hmk : gMark (gd i) = 11 := (if_neg (by omega)).trans (if_pos (by omega))
          refine lv_ldc2 (v := 11) hx hb hown (hts (.constantLong RX5 60 (11)) (by decide +kernel)) dX5_win_48 ?_
          refine tp_l (show (11 : Int64) = lN 11 from rfl) ?_
          refine lv_goto (tgt := 57) hx hb dX5_win_51 (by decide) ?_
          refine lv_ladd hx hb dX5_win_57 ?_
          refine va_put (D := E.1) (ci := 5) (ty := .long) (C := RX5) (T := TX5) (N := 14) hx hb hts hinX5 tyX5 tyX5_ok nmX5 hown hE.1 hP hD hS 0 rfl rfl 9 (by decide) (hts (.fieldLink RX5 56 "StakeHouseModel" "trace" "J") (by decide +kernel)) (fun _ h9 => h9) rfl (by decide +kernel) rfl rfl (Nat.le_of_ble_eq_true rfl) dX5_win_58 (fun H locs hP hD hS => ?_)
          have hP : va_P E.1 vwCl (wM E am g hz n kd ch tm tx lm td (tr + lN 11) bs nw th pd ++ rest) H := hP
          have hD : va_D (va_A (wM E am g hz n kd ch tm tx lm td tr bs nw th pd ++ rest) s.heap.size) (wM E am g hz n kd ch tm tx lm td (tr + lN 11) bs nw th pd ++ rest) := hD
          refine lv_aload_n hx hb dX5_win_61 rfl (lv_at hl 0 rfl) ?_
          refine lv_iload_n hx hb dX5_win_62 rfl (lv_at hl 1 rfl) ?_
          refine lv_iload_n hx hb dX5_win_63 rfl (lv_at hl 2 rfl) ?_
          refine vp_callSi (W.runV ⟨hx, hb, hml, hown, hts⟩ (m_winOf l E am g hz n kd ch tm tx lm td (tr + lN 11) bs nw th pd rest hn gd hM i st hi hs2) (cwV 2 hts gX5_win_X5_winOf rfl rfl rfl (by decide +kernel) ⟨Nat.le_of_ble_eq_true rfl, Nat.le_of_ble_eq_true rfl⟩) (ePu_V hP hE (ci := 5) (k := 0) rfl rfl) rfl rfl hl.1 rfl (lv_room (Nat.le_of_ble_eq_true rfl)) dX5_win_64 ⟨Nat.zero_le _, Nat.zero_le _⟩) (fun r9 hr9 => ?_)
          subst hr9
          exact ret_Wi hx hb hr hlocks dX5_win_67 hP hD hS ⟨_, Or.inl ⟨i, st, rfl, rfl, hi, hs1, hs2, rfl, by rw [hmk]⟩, rfl⟩
      · skip
        have hmk : gMark (gd i) = 1 := if_pos (by omega)
        refine lv_lconst (v := lN 1) hx hb dX5_win_34 rfl ?_
        refine lv_goto (tgt := 57) hx hb dX5_win_35 (by decide) ?_
        refine lv_ladd hx hb dX5_win_57 ?_
        refine va_put (D := E.1) (ci := 5) (ty := .long) (C := RX5) (T := TX5) (N := 14) hx hb hts hinX5 tyX5 tyX5_ok nmX5 hown hE.1 hP hD hS 0 rfl rfl 9 (by decide) (hts (.fieldLink RX5 56 "StakeHouseModel" "trace" "J") (by decide +kernel)) (fun _ h9 => h9) rfl (by decide +kernel) rfl rfl (Nat.le_of_ble_eq_true rfl) dX5_win_58 (fun H locs hP hD hS => ?_)
        have hP : va_P E.1 vwCl (wM E am g hz n kd ch tm tx lm td (tr + lN 1) bs nw th pd ++ rest) H := hP
        have hD : va_D (va_A (wM E am g hz n kd ch tm tx lm td tr bs nw th pd ++ rest) s.heap.size) (wM E am g hz n kd ch tm tx lm td (tr + lN 1) bs nw th pd ++ rest) := hD
        refine lv_aload_n hx hb dX5_win_61 rfl (lv_at hl 0 rfl) ?_
        refine lv_iload_n hx hb dX5_win_62 rfl (lv_at hl 1 rfl) ?_
        refine lv_iload_n hx hb dX5_win_63 rfl (lv_at hl 2 rfl) ?_
        refine vp_callSi (W.runV ⟨hx, hb, hml, hown, hts⟩ (m_winOf l E am g hz n kd ch tm tx lm td (tr + lN 1) bs nw th pd rest hn gd hM i st hi hs2) (cwV 2 hts gX5_win_X5_winOf rfl rfl rfl (by decide +kernel) ⟨Nat.le_of_ble_eq_true rfl, Nat.le_of_ble_eq_true rfl⟩) (ePu_V hP hE (ci := 5) (k := 0) rfl rfl) rfl rfl hl.1 rfl (lv_room (Nat.le_of_ble_eq_true rfl)) dX5_win_64 ⟨Nat.zero_le _, Nat.zero_le _⟩) (fun r9 hr9 => ?_)
        subst hr9
        exact ret_Wi hx hb hr hlocks dX5_win_67 hP hD hS ⟨_, Or.inl ⟨i, st, rfl, rfl, hi, hs1, hs2, rfl, by rw [hmk]⟩, rfl⟩
    · skip
      refine lv_iconst (v := (-1)) hx hb dX5_win_18 (by decide) ?_
      exact ret_Wi hx hb hr hlocks dX5_win_19 hP hD hS ⟨tr, Or.inr ⟨fun ⟨i, st, e1, e2, g1, g2, g3⟩ => c15 (by rw [e2]; exact (nI_rngI (by omega) (by decide) (by decide)).mpr ⟨g2, g3⟩), rfl, rfl⟩, rfl⟩
set_option maxHeartbeats 4000000 in
set_option maxRecDepth 100000 in
/-- best -/
theorem m_best (l : Launch) (E : eT) (am : Nat → Nat) (g hz n : Nat) (kd ch tm tx lm : Nat → Int32) (td : Nat → Int32) (tr : Int64) (bs nw th : Nat → Int64) (pd : Int64) (rest : va_W) (hn : n ≤ 4) (gd : Nat → gT) (hM : ∀ i, i < n → gArg (gd i) (kd i) (ch i) (tm i) (tx i) (lm i)) (hg2 : 2 ≤ g) (hg32 : g ≤ 32) (hhz : hz ≤ 12) (qv tv : Int32) : mWl l yX5_best wsX5_best 4 115 0 0 E (wM E am g hz n kd ch tm tx lm td tr bs nw th pd ++ rest) [.ref (am 0), .int qv, .int tv] (fun r ws1 => bst_of g hz n gd 0 qv tv r ∧ ∃ bs1 : Nat → Int64, ws1 = wM E am g hz n kd ch tm tx lm td tr bs1 nw th pd ++ rest) := by
  intro sz
  refine mW_of (cc := cX5_best) (maxL := 3) (ret := (some .long)) (Qc := fun sz => va_Ql (fun r ws1 => bst_of g hz n gd 0 qv tv r ∧ ∃ bs1 : Nat → Int64, ws1 = wM E am g hz n kd ch tm tx lm td tr bs1 nw th pd ++ rest) (eAt E (va_A (wM E am g hz n kd ch tm tx lm td tr bs nw th pd ++ rest) sz)) (va_A (wM E am g hz n kd ch tm tx lm td tr bs nw th pd ++ rest) sz)) (by decide) rfl (Nat.le_of_ble_eq_true rfl) ?_
  intro p0 e0 s m below meth c0 ls hx hb hr hml hts hown hlocks hin hE hP hD hl
  have hS : va_S (va_A (wM E am g hz n kd ch tm tx lm td tr bs nw th pd ++ rest) s.heap.size) s.heap s.heap [] := va_S.rf
  have hA : ∀ q, s.heap.size ≤ q → (va_A (wM E am g hz n kd ch tm tx lm td tr bs nw th pd ++ rest) s.heap.size) q := fun q h => Or.inr h
  have hown : s.vm.findClass RX5 = some m.cls := hown
  have hl : lv_has ls 3 [(0, .ref (am 0)), (1, .int qv), (2, .int tv)] := hl
  have hinX5 : ∀ w ∈ wsX50, w ∈ wsX5_best := by decide +kernel
  refine lv_aload_n hx hb dX5_best_0 rfl (lv_at hl 0 rfl) ?_
  refine lv_iload_n hx hb dX5_best_1 rfl (lv_at hl 1 rfl) ?_
  refine vp_callSi (W.runV ⟨hx, hb, hml, hown, hts⟩ (m_isPurse l E am g hz n kd ch tm tx lm td tr bs nw th pd rest _) (cwV 1 hts gX5_best_X5_isPurse rfl rfl rfl (by decide +kernel) ⟨Nat.le_of_ble_eq_true rfl, Nat.le_of_ble_eq_true rfl⟩) (ePu_V hP hE (ci := 5) (k := 0) rfl rfl) rfl rfl hl.1 rfl (lv_room (Nat.le_of_ble_eq_true rfl)) dX5_best_2 ⟨Nat.zero_le _, Nat.zero_le _⟩) (fun r9 hr9 => ?_)
  subst hr9
  refine q_eq hx hb 20 dX5_best_5 (by decide) (fun c5 => ?_) (fun c5 => ?_)
  · skip
    refine lv_ldc2 (v := -1) hx hb hown (hts (.constantLong RX5 84 (-1)) (by decide +kernel)) dX5_best_20 ?_
    exact ret_Wl hx hb hr hlocks dX5_best_23 hP hD hS ⟨Or.inr ⟨fun z => c5 z.1, rfl⟩, bs, rfl⟩
  · skip
    obtain ⟨q, -, hq, rfl⟩ := nI_rng (by omega) c5 (by decide)
    refine lv_iload_n hx hb dX5_best_8 rfl (lv_at hl 2 rfl) ?_
    refine lv_iconst (v := nI 0) hx hb dX5_best_9 (by decide) ?_
    refine lv_aload_n hx hb dX5_best_10 rfl (lv_at hl 0 rfl) ?_
    refine va_get (D := E.1) (ci := 5) (C := RX5) (T := TX5) (N := 14) hx hb hts hinX5 hown hE.1 hP 0 rfl rfl 1 (by decide) (hts (.fieldLink RX5 13 "StakeHouseModel" "horizon" "I") (by decide +kernel)) (fun _ h9 => h9) rfl dX5_best_11 ?_
    refine vp_callSi (W.runS ⟨hx, hb, hml, hown, hts⟩ (c_in l E _ _ _ _) (va_cwS 3 hts gX5_best_X5_in rfl rfl rfl (by decide +kernel) ⟨Nat.le_of_ble_eq_true rfl, Nat.le_of_ble_eq_true rfl⟩) (ePu_S hP hE) rfl rfl hl.1 rfl (lv_room (Nat.le_of_ble_eq_true rfl)) dX5_best_14 ⟨Nat.zero_le _, Nat.zero_le _⟩) (fun r9 hr9 => ?_)
    subst hr9
    refine q_ne hx hb 24 dX5_best_17 (by decide) (fun c17 => ?_) (fun c17 => ?_)
    · skip
      obtain ⟨t, -, ht, rfl⟩ := nI_rng (by omega) c17 (by decide)
      refine lv_aload_n hx hb dX5_best_24 rfl (lv_at hl 0 rfl) ?_
      refine va_get (D := E.1) (ci := 5) (C := RX5) (T := TX5) (N := 14) hx hb hts hinX5 hown hE.1 hP 0 rfl rfl 2 (by decide) (hts (.fieldLink RX5 45 "StakeHouseModel" "games" "I") (by decide +kernel)) (fun _ h9 => h9) rfl dX5_best_25 ?_
      refine z_ne hx hb (by omega) 35 dX5_best_28 (by decide) (fun c28 => ?_) (fun c28 => ?_)
      · skip
        refine lv_aload_n hx hb dX5_best_35 rfl (lv_at hl 0 rfl) ?_
        refine lv_iload_n hx hb dX5_best_36 rfl (lv_at hl 2 rfl) ?_
        refine lv_iconst (v := nI 0) hx hb dX5_best_37 (by decide) ?_
        refine lv_iconst (v := nI 0) hx hb dX5_best_38 (by decide) ?_
        refine lv_aload_n hx hb dX5_best_39 rfl (lv_at hl 0 rfl) ?_
        refine va_get (D := E.1) (ci := 5) (C := RX5) (T := TX5) (N := 14) hx hb hts hinX5 hown hE.1 hP 0 rfl rfl 2 (by decide) (hts (.fieldLink RX5 45 "StakeHouseModel" "games" "I") (by decide +kernel)) (fun _ h9 => h9) rfl dX5_best_40 ?_
        refine lv_iconst (v := nI 1) hx hb dX5_best_43 (by decide) ?_
        refine lv_isub hx hb dX5_best_44 ?_
        refine tp_i (show _ = nI (0 + n - 1) by rw [pk_sub (by omega), Nat.zero_add]) ?_
        refine cW_v (va_runV ⟨hx, hb, hml, hown, hts⟩ (m_work l E am g hz n kd ch tm tx lm td tr bs nw th pd rest hn gd hM hg2 hg32 t 0 0 n (by omega) (by decide) c28 (by omega) _) (cwV 4 hts gX5_best_X5_work rfl rfl rfl (by decide +kernel) ⟨Nat.le_of_ble_eq_true rfl, Nat.le_of_ble_eq_true rfl⟩) (ePw_V hP hD hE (ci := 5) (k := 0) rfl rfl) rfl rfl hl.1 rfl (lv_room (Nat.le_of_ble_eq_true rfl)) dX5_best_45 ⟨Nat.zero_le _, Nat.zero_le _⟩) hS hD hA (fun ws9 H locs hr9 hP hD hS => ?_)
        obtain ⟨bs1, hb1, rfl⟩ := hr9
        refine lv_aload_n hx hb dX5_best_48 rfl (lv_at hl 0 rfl) ?_
        refine va_get (D := E.1) (ci := 5) (C := RX5) (T := TX5) (N := 14) hx hb hts hinX5 hown hE.1 hP 0 rfl rfl 10 (by decide) (hts (.fieldLink RX5 35 "StakeHouseModel" "best" "[J") (by decide +kernel)) (fun _ h9 => h9) rfl dX5_best_49 ?_
        refine lv_bipush (v := nI 33) hx hb dX5_best_52 (by decide) ?_
        refine lv_iload_n hx hb dX5_best_54 rfl (lv_at hl 2 rfl) ?_
        refine lv_imul hx hb dX5_best_55 ?_
        refine tp_i (pk_mul _ _) ?_
        refine lv_iload_n hx hb dX5_best_56 rfl (lv_at hl 1 rfl) ?_
        refine lv_iadd hx hb dX5_best_57 ?_
        refine tp_i (nI_add _ _) ?_
        refine va_lald hx hb hE.1 hP 7 1 rfl rfl (vp_in_nI (by omega) (by decide)) dX5_best_58 ?_
        refine tp_l (show _ = lN (gBst g gd 0 n 0 t q) by rw [nI_clamp (by omega)]; exact hb1 t (by omega) q hq) ?_
        exact ret_Wl hx hb hr hlocks dX5_best_59 hP hD hS ⟨Or.inl ⟨q, t, rfl, rfl, hq, ht, Or.inr ⟨c28, rfl⟩⟩, bs1, rfl⟩
      · skip
        refine lv_ldc2 (v := -2) hx hb hown (hts (.constantLong RX5 86 (-2)) (by decide +kernel)) dX5_best_31 ?_
        exact ret_Wl hx hb hr hlocks dX5_best_34 hP hD hS ⟨Or.inl ⟨q, t, rfl, rfl, hq, ht, Or.inl ⟨c28, rfl⟩⟩, bs, rfl⟩
    · skip
      refine lv_ldc2 (v := -1) hx hb hown (hts (.constantLong RX5 84 (-1)) (by decide +kernel)) dX5_best_20 ?_
      exact ret_Wl hx hb hr hlocks dX5_best_23 hP hD hS ⟨Or.inr ⟨fun z => c17 z.2, rfl⟩, bs, rfl⟩
set_option maxHeartbeats 4000000 in
set_option maxRecDepth 100000 in
/-- mean -/
theorem m_mean (l : Launch) (E : eT) (am : Nat → Nat) (g hz n : Nat) (kd ch tm tx lm : Nat → Int32) (td : Nat → Int32) (tr : Int64) (bs nw th : Nat → Int64) (pd : Int64) (rest : va_W) (hn : n ≤ 4) (gd : Nat → gT) (hM : ∀ i, i < n → gArg (gd i) (kd i) (ch i) (tm i) (tx i) (lm i)) (hg2 : 2 ≤ g) (hg32 : g ≤ 32) (hhz : hz ≤ 12) (qv tv : Int32) : mWl l yX5_mean wsX5_mean 4 115 0 0 E (wM E am g hz n kd ch tm tx lm td tr bs nw th pd ++ rest) [.ref (am 0), .int qv, .int tv] (fun r ws1 => bst_of g hz n gd 2 qv tv r ∧ ∃ bs1 : Nat → Int64, ws1 = wM E am g hz n kd ch tm tx lm td tr bs1 nw th pd ++ rest) := by
  intro sz
  refine mW_of (cc := cX5_mean) (maxL := 3) (ret := (some .long)) (Qc := fun sz => va_Ql (fun r ws1 => bst_of g hz n gd 2 qv tv r ∧ ∃ bs1 : Nat → Int64, ws1 = wM E am g hz n kd ch tm tx lm td tr bs1 nw th pd ++ rest) (eAt E (va_A (wM E am g hz n kd ch tm tx lm td tr bs nw th pd ++ rest) sz)) (va_A (wM E am g hz n kd ch tm tx lm td tr bs nw th pd ++ rest) sz)) (by decide) rfl (Nat.le_of_ble_eq_true rfl) ?_
  intro p0 e0 s m below meth c0 ls hx hb hr hml hts hown hlocks hin hE hP hD hl
  have hS : va_S (va_A (wM E am g hz n kd ch tm tx lm td tr bs nw th pd ++ rest) s.heap.size) s.heap s.heap [] := va_S.rf
  have hA : ∀ q, s.heap.size ≤ q → (va_A (wM E am g hz n kd ch tm tx lm td tr bs nw th pd ++ rest) s.heap.size) q := fun q h => Or.inr h
  have hown : s.vm.findClass RX5 = some m.cls := hown
  have hl : lv_has ls 3 [(0, .ref (am 0)), (1, .int qv), (2, .int tv)] := hl
  have hinX5 : ∀ w ∈ wsX50, w ∈ wsX5_mean := by decide +kernel
  refine lv_aload_n hx hb dX5_mean_0 rfl (lv_at hl 0 rfl) ?_
  refine lv_iload_n hx hb dX5_mean_1 rfl (lv_at hl 1 rfl) ?_
  refine vp_callSi (W.runV ⟨hx, hb, hml, hown, hts⟩ (m_isPurse l E am g hz n kd ch tm tx lm td tr bs nw th pd rest _) (cwV 1 hts gX5_mean_X5_isPurse rfl rfl rfl (by decide +kernel) ⟨Nat.le_of_ble_eq_true rfl, Nat.le_of_ble_eq_true rfl⟩) (ePu_V hP hE (ci := 5) (k := 0) rfl rfl) rfl rfl hl.1 rfl (lv_room (Nat.le_of_ble_eq_true rfl)) dX5_mean_2 ⟨Nat.zero_le _, Nat.zero_le _⟩) (fun r9 hr9 => ?_)
  subst hr9
  refine q_eq hx hb 20 dX5_mean_5 (by decide) (fun c5 => ?_) (fun c5 => ?_)
  · skip
    refine lv_ldc2 (v := -1) hx hb hown (hts (.constantLong RX5 84 (-1)) (by decide +kernel)) dX5_mean_20 ?_
    exact ret_Wl hx hb hr hlocks dX5_mean_23 hP hD hS ⟨Or.inr ⟨fun z => c5 z.1, rfl⟩, bs, rfl⟩
  · skip
    obtain ⟨q, -, hq, rfl⟩ := nI_rng (by omega) c5 (by decide)
    refine lv_iload_n hx hb dX5_mean_8 rfl (lv_at hl 2 rfl) ?_
    refine lv_iconst (v := nI 0) hx hb dX5_mean_9 (by decide) ?_
    refine lv_aload_n hx hb dX5_mean_10 rfl (lv_at hl 0 rfl) ?_
    refine va_get (D := E.1) (ci := 5) (C := RX5) (T := TX5) (N := 14) hx hb hts hinX5 hown hE.1 hP 0 rfl rfl 1 (by decide) (hts (.fieldLink RX5 13 "StakeHouseModel" "horizon" "I") (by decide +kernel)) (fun _ h9 => h9) rfl dX5_mean_11 ?_
    refine vp_callSi (W.runS ⟨hx, hb, hml, hown, hts⟩ (c_in l E _ _ _ _) (va_cwS 3 hts gX5_mean_X5_in rfl rfl rfl (by decide +kernel) ⟨Nat.le_of_ble_eq_true rfl, Nat.le_of_ble_eq_true rfl⟩) (ePu_S hP hE) rfl rfl hl.1 rfl (lv_room (Nat.le_of_ble_eq_true rfl)) dX5_mean_14 ⟨Nat.zero_le _, Nat.zero_le _⟩) (fun r9 hr9 => ?_)
    subst hr9
    refine q_ne hx hb 24 dX5_mean_17 (by decide) (fun c17 => ?_) (fun c17 => ?_)
    · skip
      obtain ⟨t, -, ht, rfl⟩ := nI_rng (by omega) c17 (by decide)
      refine lv_aload_n hx hb dX5_mean_24 rfl (lv_at hl 0 rfl) ?_
      refine va_get (D := E.1) (ci := 5) (C := RX5) (T := TX5) (N := 14) hx hb hts hinX5 hown hE.1 hP 0 rfl rfl 2 (by decide) (hts (.fieldLink RX5 45 "StakeHouseModel" "games" "I") (by decide +kernel)) (fun _ h9 => h9) rfl dX5_mean_25 ?_
      refine z_ne hx hb (by omega) 35 dX5_mean_28 (by decide) (fun c28 => ?_) (fun c28 => ?_)
      · skip
        refine lv_aload_n hx hb dX5_mean_35 rfl (lv_at hl 0 rfl) ?_
        refine lv_iload_n hx hb dX5_mean_36 rfl (lv_at hl 2 rfl) ?_
        refine lv_iconst (v := nI 1) hx hb dX5_mean_37 (by decide) ?_
        refine lv_iconst (v := nI 0) hx hb dX5_mean_38 (by decide) ?_
        refine lv_aload_n hx hb dX5_mean_39 rfl (lv_at hl 0 rfl) ?_
        refine va_get (D := E.1) (ci := 5) (C := RX5) (T := TX5) (N := 14) hx hb hts hinX5 hown hE.1 hP 0 rfl rfl 2 (by decide) (hts (.fieldLink RX5 45 "StakeHouseModel" "games" "I") (by decide +kernel)) (fun _ h9 => h9) rfl dX5_mean_40 ?_
        refine lv_iconst (v := nI 1) hx hb dX5_mean_43 (by decide) ?_
        refine lv_isub hx hb dX5_mean_44 ?_
        refine tp_i (show _ = nI (0 + n - 1) by rw [pk_sub (by omega), Nat.zero_add]) ?_
        refine cW_v (va_runV ⟨hx, hb, hml, hown, hts⟩ (m_work l E am g hz n kd ch tm tx lm td tr bs nw th pd rest hn gd hM hg2 hg32 t 1 0 n (by omega) (by decide) c28 (by omega) _) (cwV 4 hts gX5_mean_X5_work rfl rfl rfl (by decide +kernel) ⟨Nat.le_of_ble_eq_true rfl, Nat.le_of_ble_eq_true rfl⟩) (ePw_V hP hD hE (ci := 5) (k := 0) rfl rfl) rfl rfl hl.1 rfl (lv_room (Nat.le_of_ble_eq_true rfl)) dX5_mean_45 ⟨Nat.zero_le _, Nat.zero_le _⟩) hS hD hA (fun ws9 H locs hr9 hP hD hS => ?_)
        obtain ⟨bs1, hb1, rfl⟩ := hr9
        refine lv_aload_n hx hb dX5_mean_48 rfl (lv_at hl 0 rfl) ?_
        refine va_get (D := E.1) (ci := 5) (C := RX5) (T := TX5) (N := 14) hx hb hts hinX5 hown hE.1 hP 0 rfl rfl 10 (by decide) (hts (.fieldLink RX5 35 "StakeHouseModel" "best" "[J") (by decide +kernel)) (fun _ h9 => h9) rfl dX5_mean_49 ?_
        refine lv_bipush (v := nI 33) hx hb dX5_mean_52 (by decide) ?_
        refine lv_iload_n hx hb dX5_mean_54 rfl (lv_at hl 2 rfl) ?_
        refine lv_imul hx hb dX5_mean_55 ?_
        refine tp_i (pk_mul _ _) ?_
        refine lv_iload_n hx hb dX5_mean_56 rfl (lv_at hl 1 rfl) ?_
        refine lv_iadd hx hb dX5_mean_57 ?_
        refine tp_i (nI_add _ _) ?_
        refine va_lald hx hb hE.1 hP 7 1 rfl rfl (vp_in_nI (by omega) (by decide)) dX5_mean_58 ?_
        refine tp_l (show _ = lN (gBst g gd 0 n 2 t q) by rw [nI_clamp (by omega)]; exact hb1 t (by omega) q hq) ?_
        exact ret_Wl hx hb hr hlocks dX5_mean_59 hP hD hS ⟨Or.inl ⟨q, t, rfl, rfl, hq, ht, Or.inr ⟨c28, rfl⟩⟩, bs1, rfl⟩
      · skip
        refine lv_ldc2 (v := -2) hx hb hown (hts (.constantLong RX5 86 (-2)) (by decide +kernel)) dX5_mean_31 ?_
        exact ret_Wl hx hb hr hlocks dX5_mean_34 hP hD hS ⟨Or.inl ⟨q, t, rfl, rfl, hq, ht, Or.inl ⟨c28, rfl⟩⟩, bs, rfl⟩
    · skip
      refine lv_ldc2 (v := -1) hx hb hown (hts (.constantLong RX5 84 (-1)) (by decide +kernel)) dX5_mean_20 ?_
      exact ret_Wl hx hb hr hlocks dX5_mean_23 hP hD hS ⟨Or.inr ⟨fun z => c17 z.2, rfl⟩, bs, rfl⟩
set_option maxHeartbeats 4000000 in
set_option maxRecDepth 100000 in
/-- stakes -/
theorem m_stakes (l : Launch) (E : eT) (am : Nat → Nat) (g hz n : Nat) (kd ch tm tx lm : Nat → Int32) (td : Nat → Int32) (tr : Int64) (bs nw th : Nat → Int64) (pd : Int64) (rest : va_W) (hn : n ≤ 4) (gd : Nat → gT) (hM : ∀ i, i < n → gArg (gd i) (kd i) (ch i) (tm i) (tx i) (lm i)) (hg2 : 2 ≤ g) (hg32 : g ≤ 32) (hhz : hz ≤ 12) (iv qv tv : Int32) : mWl l yX5_stakes wsX5_stakes 4 115 0 0 E (wM E am g hz n kd ch tm tx lm td tr bs nw th pd ++ rest) [.ref (am 0), .int iv, .int qv, .int tv] (fun r ws1 => sts_of g hz n gd iv qv tv r ∧ ∃ bs1 : Nat → Int64, ws1 = wM E am g hz n kd ch tm tx lm td tr bs1 nw th pd ++ rest) := by
  intro sz
  refine mW_of (cc := cX5_stakes) (maxL := 9) (ret := (some .long)) (Qc := fun sz => va_Ql (fun r ws1 => sts_of g hz n gd iv qv tv r ∧ ∃ bs1 : Nat → Int64, ws1 = wM E am g hz n kd ch tm tx lm td tr bs1 nw th pd ++ rest) (eAt E (va_A (wM E am g hz n kd ch tm tx lm td tr bs nw th pd ++ rest) sz)) (va_A (wM E am g hz n kd ch tm tx lm td tr bs nw th pd ++ rest) sz)) (by decide) rfl (Nat.le_of_ble_eq_true rfl) ?_
  intro p0 e0 s m below meth c0 ls hx hb hr hml hts hown hlocks hin hE hP hD hl
  have hS : va_S (va_A (wM E am g hz n kd ch tm tx lm td tr bs nw th pd ++ rest) s.heap.size) s.heap s.heap [] := va_S.rf
  have hA : ∀ q, s.heap.size ≤ q → (va_A (wM E am g hz n kd ch tm tx lm td tr bs nw th pd ++ rest) s.heap.size) q := fun q h => Or.inr h
  have hown : s.vm.findClass RX5 = some m.cls := hown
  have hl : lv_has ls 9 [(0, .ref (am 0)), (1, .int iv), (2, .int qv), (3, .int tv)] := hl
  have hinX5 : ∀ w ∈ wsX50, w ∈ wsX5_stakes := by decide +kernel
  refine lv_aload_n hx hb dX5_stakes_0 rfl (lv_at hl 0 rfl) ?_
  refine lv_iload_n hx hb dX5_stakes_1 rfl (lv_at hl 1 rfl) ?_
  refine vp_callSi (W.runV ⟨hx, hb, hml, hown, hts⟩ (m_isGame l E am g hz n kd ch tm tx lm td tr bs nw th pd rest _) (cwV 1 hts gX5_stakes_X5_isGame rfl rfl rfl (by decide +kernel) ⟨Nat.le_of_ble_eq_true rfl, Nat.le_of_ble_eq_true rfl⟩) (ePu_V hP hE (ci := 5) (k := 0) rfl rfl) rfl rfl hl.1 rfl (lv_room (Nat.le_of_ble_eq_true rfl)) dX5_stakes_2 ⟨Nat.zero_le _, Nat.zero_le _⟩) (fun r9 hr9 => ?_)
  subst hr9
  refine q_eq hx hb 28 dX5_stakes_5 (by decide) (fun c5 => ?_) (fun c5 => ?_)
  · skip
    refine lv_ldc2 (v := -1) hx hb hown (hts (.constantLong RX5 84 (-1)) (by decide +kernel)) dX5_stakes_28 ?_
    exact ret_Wl hx hb hr hlocks dX5_stakes_31 hP hD hS ⟨Or.inr ⟨fun ⟨i, q, t, e1, e2, e3, g1, g2, g3, g4⟩ => c5 ((nI_gm (by omega)).mpr ⟨i, g1, e1⟩), rfl⟩, bs, rfl⟩
  · skip
    obtain ⟨i, hi, rfl⟩ := (nI_gm (by omega)).mp c5
    refine lv_aload_n hx hb dX5_stakes_8 rfl (lv_at hl 0 rfl) ?_
    refine lv_iload_n hx hb dX5_stakes_9 rfl (lv_at hl 2 rfl) ?_
    refine vp_callSi (W.runV ⟨hx, hb, hml, hown, hts⟩ (m_isPurse l E am g hz n kd ch tm tx lm td tr bs nw th pd rest _) (cwV 1 hts gX5_stakes_X5_isPurse rfl rfl rfl (by decide +kernel) ⟨Nat.le_of_ble_eq_true rfl, Nat.le_of_ble_eq_true rfl⟩) (ePu_V hP hE (ci := 5) (k := 0) rfl rfl) rfl rfl hl.1 rfl (lv_room (Nat.le_of_ble_eq_true rfl)) dX5_stakes_10 ⟨Nat.zero_le _, Nat.zero_le _⟩) (fun r9 hr9 => ?_)
    subst hr9
    refine q_eq hx hb 28 dX5_stakes_13 (by decide) (fun c13 => ?_) (fun c13 => ?_)
    · skip
      refine lv_ldc2 (v := -1) hx hb hown (hts (.constantLong RX5 84 (-1)) (by decide +kernel)) dX5_stakes_28 ?_
      exact ret_Wl hx hb hr hlocks dX5_stakes_31 hP hD hS ⟨Or.inr ⟨fun ⟨i, q, t, e1, e2, e3, g1, g2, g3, g4⟩ => c13 (by rw [e2]; exact (nI_rngI (by omega) (by decide) (by omega)).mpr ⟨by omega, g2⟩), rfl⟩, bs, rfl⟩
    · skip
      obtain ⟨q, -, hq, rfl⟩ := nI_rng (by omega) c13 (by decide)
      refine lv_iload_n hx hb dX5_stakes_16 rfl (lv_at hl 3 rfl) ?_
      refine lv_iconst (v := nI 1) hx hb dX5_stakes_17 (by decide) ?_
      refine lv_aload_n hx hb dX5_stakes_18 rfl (lv_at hl 0 rfl) ?_
      refine va_get (D := E.1) (ci := 5) (C := RX5) (T := TX5) (N := 14) hx hb hts hinX5 hown hE.1 hP 0 rfl rfl 1 (by decide) (hts (.fieldLink RX5 13 "StakeHouseModel" "horizon" "I") (by decide +kernel)) (fun _ h9 => h9) rfl dX5_stakes_19 ?_
      refine vp_callSi (W.runS ⟨hx, hb, hml, hown, hts⟩ (c_in l E _ _ _ _) (va_cwS 3 hts gX5_stakes_X5_in rfl rfl rfl (by decide +kernel) ⟨Nat.le_of_ble_eq_true rfl, Nat.le_of_ble_eq_true rfl⟩) (ePu_S hP hE) rfl rfl hl.1 rfl (lv_room (Nat.le_of_ble_eq_true rfl)) dX5_stakes_22 ⟨Nat.zero_le _, Nat.zero_le _⟩) (fun r9 hr9 => ?_)
      subst hr9
      refine q_ne hx hb 32 dX5_stakes_25 (by decide) (fun c25 => ?_) (fun c25 => ?_)
      · skip
        obtain ⟨t, ht1, ht, rfl⟩ := nI_rng (by omega) c25 (by decide)
        obtain ⟨j, rfl⟩ : ∃ z, t = z + 1 := ⟨t - 1, by omega⟩
        refine lv_iload_n hx hb dX5_stakes_32 rfl (lv_at hl 2 rfl) ?_
        refine z_eq hx hb (by omega) 44 dX5_stakes_33 (by decide) (fun c33 => ?_) (fun c33 => ?_)
        · skip
          refine lv_lconst (v := lN 0) hx hb dX5_stakes_44 rfl ?_
          exact ret_Wl hx hb hr hlocks dX5_stakes_45 hP hD hS ⟨Or.inl ⟨i, q, j + 1, rfl, rfl, rfl, hi, hq, ht1, ht, by rw [if_neg (by omega)]⟩, bs, rfl⟩
        · skip
          refine lv_iload_n hx hb dX5_stakes_36 rfl (lv_at hl 2 rfl) ?_
          refine lv_aload_n hx hb dX5_stakes_37 rfl (lv_at hl 0 rfl) ?_
          refine va_get (D := E.1) (ci := 5) (C := RX5) (T := TX5) (N := 14) hx hb hts hinX5 hown hE.1 hP 0 rfl rfl 0 (by decide) (hts (.fieldLink RX5 7 "StakeHouseModel" "goal" "I") (by decide +kernel)) (fun _ h9 => h9) rfl dX5_stakes_38 ?_
          refine n_ne hx hb (by omega) (by omega) 46 dX5_stakes_41 (by decide) (fun c41 => ?_) (fun c41 => ?_)
          · skip
            refine lv_aload_n hx hb dX5_stakes_46 rfl (lv_at hl 0 rfl) ?_
            refine lv_iload_n hx hb dX5_stakes_47 rfl (lv_at hl 3 rfl) ?_
            refine lv_iconst (v := nI 0) hx hb dX5_stakes_48 (by decide) ?_
            refine lv_iconst (v := nI 0) hx hb dX5_stakes_49 (by decide) ?_
            refine lv_aload_n hx hb dX5_stakes_50 rfl (lv_at hl 0 rfl) ?_
            refine va_get (D := E.1) (ci := 5) (C := RX5) (T := TX5) (N := 14) hx hb hts hinX5 hown hE.1 hP 0 rfl rfl 2 (by decide) (hts (.fieldLink RX5 45 "StakeHouseModel" "games" "I") (by decide +kernel)) (fun _ h9 => h9) rfl dX5_stakes_51 ?_
            refine lv_iconst (v := nI 1) hx hb dX5_stakes_54 (by decide) ?_
            refine lv_isub hx hb dX5_stakes_55 ?_
            refine tp_i (show _ = nI (0 + n - 1) by rw [pk_sub (by omega), Nat.zero_add]) ?_
            refine cW_v (va_runV ⟨hx, hb, hml, hown, hts⟩ (m_work l E am g hz n kd ch tm tx lm td tr bs nw th pd rest hn gd hM hg2 hg32 (j + 1) 0 0 n (by omega) (by decide) (by omega) (by omega) _) (cwV 4 hts gX5_stakes_X5_work rfl rfl rfl (by decide +kernel) ⟨Nat.le_of_ble_eq_true rfl, Nat.le_of_ble_eq_true rfl⟩) (ePw_V hP hD hE (ci := 5) (k := 0) rfl rfl) rfl rfl hl.1 rfl (lv_room (Nat.le_of_ble_eq_true rfl)) dX5_stakes_56 ⟨Nat.zero_le _, Nat.zero_le _⟩) hS hD hA (fun ws9 H locs hr9 hP hD hS => ?_)
            obtain ⟨bs1, hb1, rfl⟩ := hr9
            refine lv_aload_n hx hb dX5_stakes_59 rfl (lv_at hl 0 rfl) ?_
            refine va_get (D := E.1) (ci := 5) (C := RX5) (T := TX5) (N := 14) hx hb hts hinX5 hown hE.1 hP 0 rfl rfl 10 (by decide) (hts (.fieldLink RX5 35 "StakeHouseModel" "best" "[J") (by decide +kernel)) (fun _ h9 => h9) rfl dX5_stakes_60 ?_
            refine lv_bipush (v := nI 33) hx hb dX5_stakes_63 (by decide) ?_
            refine lv_iload_n hx hb dX5_stakes_65 rfl (lv_at hl 3 rfl) ?_
            refine lv_imul hx hb dX5_stakes_66 ?_
            refine tp_i (pk_mul _ _) ?_
            refine lv_iload_n hx hb dX5_stakes_67 rfl (lv_at hl 2 rfl) ?_
            refine lv_iadd hx hb dX5_stakes_68 ?_
            refine tp_i (nI_add _ _) ?_
            refine va_lald hx hb hE.1 hP 7 1 rfl rfl (vp_in_nI (by omega) (by decide)) dX5_stakes_69 ?_
            refine tp_l (show _ = lN (gBst g gd 0 n 0 (j + 1) q) by rw [nI_clamp (by omega)]; exact hb1 (j + 1) (by omega) q hq) ?_
            refine st_l2 hx hb 4 dX5_stakes_70 hl (by decide) rfl (fun ls hl => ?_)
            refine lv_ldc2 (v := 16) hx hb hown (hts (.constantLong RX5 72 (16)) (by decide +kernel)) dX5_stakes_72 ?_
            refine tp_l (show (16 : Int64) = lN 16 from rfl) ?_
            refine lv_aload_n hx hb dX5_stakes_75 rfl (lv_at hl 0 rfl) ?_
            refine va_get (D := E.1) (ci := 5) (C := RX5) (T := TX5) (N := 14) hx hb hts hinX5 hown hE.1 hP 0 rfl rfl 10 (by decide) (hts (.fieldLink RX5 35 "StakeHouseModel" "best" "[J") (by decide +kernel)) (fun _ h9 => h9) rfl dX5_stakes_76 ?_
            refine lv_bipush (v := nI 33) hx hb dX5_stakes_79 (by decide) ?_
            refine lv_iload_n hx hb dX5_stakes_81 rfl (lv_at hl 3 rfl) ?_
            refine lv_iconst (v := nI 1) hx hb dX5_stakes_82 (by decide) ?_
            refine lv_isub hx hb dX5_stakes_83 ?_
            refine tp_i (show _ = nI j from nI_pred j) ?_
            refine lv_imul hx hb dX5_stakes_84 ?_
            refine tp_i (pk_mul _ _) ?_
            refine lv_iload_n hx hb dX5_stakes_85 rfl (lv_at hl 2 rfl) ?_
            refine lv_iadd hx hb dX5_stakes_86 ?_
            refine tp_i (nI_add _ _) ?_
            refine va_lald hx hb hE.1 hP 7 1 rfl rfl (vp_in_nI (by omega) (by decide)) dX5_stakes_87 ?_
            refine tp_l (show _ = lN ((gBst g gd 0 n 0 j) q) by rw [nI_clamp (by omega)]; exact hb1 j (by omega) q hq) ?_
            refine lv_lmul hx hb dX5_stakes_88 ?_
            refine tp_l (lN_mul _ _) ?_
            refine lv_lload hx hb dX5_stakes_89 (lv_at hl 4 rfl) ?_
            refine W.lcmp hx hb dX5_stakes_91 ?_
            have hd := (hM i hi).1
            have hL1 := hd.2.2.2.2.2
            have hBd : ∀ x, x ≤ g → (gBst g gd 0 n 0 j) x ≤ 2 ^ 49 := fun x hx => Nat.le_trans (gBst_le hg32 (fun k hk => by rw [Nat.zero_add]; exact (hM k hk).1) j x hx) (b49 (by omega))
            have hTp : (gBst g gd 0 n 0 (j + 1) q) < 2 ^ 63 := by
              have h1 := gBst_le (what := 0) (lo := 0) (cnt := n) hg32 (fun k hk => by rw [Nat.zero_add]; exact (hM k hk).1) (j + 1) q hq
              have h2 := b53 (t := j + 1) (by omega)
              omega
            have hVq := hBd q hq
            skip
            refine lv_if_ne (tgt := 99) hx hb dX5_stakes_92 (by decide) (fun c92 => ?_) (fun c92 => ?_)
            · skip
              rw [lg_cmp_eq, pk_lEQ (by omega) hTp] at c92
              refine lv_lconst (v := lN 0) hx hb dX5_stakes_99 rfl ?_
              refine tp_l (show _ = gBits g (gd i) (gBst g gd 0 n 0 j) q (gBst g gd 0 n 0 (j + 1) q) 0 from (if_neg c92).symm) ?_
              refine st_l2 hx hb 5 dX5_stakes_100 hl (by decide) rfl (fun ls hl => ?_)
              refine lv_iconst (v := nI 1) hx hb dX5_stakes_102 (by decide) ?_
              refine st_i2 hx hb 6 dX5_stakes_103 hl (by decide) rfl (fun ls hl => ?_)
              refine wLoop (min q (gL (gd i))) 0 (fun s9 ls => lv_has ls 9 [(0, .ref (am 0)), (1, .int (nI i)), (2, .int (nI q)), (3, .int (nI (j + 1))), (4, .long (lN (gBst g gd 0 n 0 (j + 1) q))), (6, .long (gBits g (gd i) (gBst g gd 0 n 0 j) q (gBst g gd 0 n 0 (j + 1) q) s9)), (8, .int (nI (s9 + 1)))]) (Nat.zero_le _) (fun s9 ls hs9 hl ih => ?_) (fun ls hl => ?_) hl
              · skip
                refine lv_iload hx hb dX5_stakes_105 (lv_at hl 6 rfl) ?_
                refine lv_aload_n hx hb dX5_stakes_107 rfl (lv_at hl 0 rfl) ?_
                refine lv_iload_n hx hb dX5_stakes_108 rfl (lv_at hl 1 rfl) ?_
                refine lv_iload_n hx hb dX5_stakes_109 rfl (lv_at hl 2 rfl) ?_
                refine vp_callSi (W.runV ⟨hx, hb, hml, hown, hts⟩ (m_mostAt l E am g hz n kd ch tm tx lm td tr bs1 nw th pd rest hn gd hM i q hi (by omega)) (cwV 2 hts gX5_stakes_X5_mostAt rfl rfl rfl (by decide +kernel) ⟨Nat.le_of_ble_eq_true rfl, Nat.le_of_ble_eq_true rfl⟩) (ePu_V hP hE (ci := 5) (k := 0) rfl rfl) rfl rfl hl.1 rfl (lv_room (Nat.le_of_ble_eq_true rfl)) dX5_stakes_110 ⟨Nat.zero_le _, Nat.zero_le _⟩) (fun r9 hr9 => ?_)
                subst hr9
                refine n_gt hx hb (by omega) (by omega) 150 dX5_stakes_113 (by decide) (fun c113 => ?_) (fun c113 => ?_)
                · skip
                  exact absurd c113 (by omega)
                · skip
                  refine lv_lload hx hb dX5_stakes_116 (lv_at hl 5 rfl) ?_
                  refine lv_aload_n hx hb dX5_stakes_118 rfl (lv_at hl 0 rfl) ?_
                  refine lv_iload_n hx hb dX5_stakes_119 rfl (lv_at hl 1 rfl) ?_
                  refine lv_iload_n hx hb dX5_stakes_120 rfl (lv_at hl 2 rfl) ?_
                  refine lv_iload hx hb dX5_stakes_121 (lv_at hl 6 rfl) ?_
                  refine lv_iload_n hx hb dX5_stakes_123 rfl (lv_at hl 3 rfl) ?_
                  refine vp_callSl (W.runV ⟨hx, hb, hml, hown, hts⟩ (m_worth l E am g hz n kd ch tm tx lm td tr bs1 nw th pd rest hn gd hM hg32 i q (s9 + 1) j (gBst g gd 0 n 0 j) hi hq (by omega) (by omega) (fun x hx => hb1 j (by omega) x hx)) (cwV 4 hts gX5_stakes_X5_worth rfl rfl rfl (by decide +kernel) ⟨Nat.le_of_ble_eq_true rfl, Nat.le_of_ble_eq_true rfl⟩) (ePu_V hP hE (ci := 5) (k := 0) rfl rfl) rfl rfl hl.1 rfl (lv_room (Nat.le_of_ble_eq_true rfl)) dX5_stakes_124 ⟨Nat.zero_le _, Nat.zero_le _⟩) (fun r9 hr9 => ?_)
                  subst hr9
                  refine lv_lload hx hb dX5_stakes_127 (lv_at hl 4 rfl) ?_
                  refine W.lcmp hx hb dX5_stakes_129 ?_
                  have hs2 := gVal_le (s := s9 + 1) hd hBd hq
                  refine lv_if_ne (tgt := 140) hx hb dX5_stakes_130 (by decide) (fun c130 => ?_) (fun c130 => ?_)
                  · skip
                    rw [lg_cmp_eq, pk_lEQ (by omega) hTp] at c130
                    refine lv_lconst (v := lN 0) hx hb dX5_stakes_140 rfl ?_
                    refine lv_lor hx hb dX5_stakes_141 ?_
                    refine tp_l (show _ = gBits g (gd i) (gBst g gd 0 n 0 j) q (gBst g gd 0 n 0 (j + 1) q) (s9 + 1) from (Int64.or_zero).trans (if_neg c130).symm) ?_
                    refine st_l2 hx hb 5 dX5_stakes_142 hl (by decide) rfl (fun ls hl => ?_)
                    refine st_inc hx hb 6 dX5_stakes_144 hl rfl (nI_1 _) (by decide) rfl (fun ls hl => ?_)
                    refine lv_goto (tgt := 105) hx hb dX5_stakes_147 (by decide) ?_
                    exact ih _ hl
                  · skip
                    rw [lg_cmp_eq, pk_lEQ (by omega) hTp] at c130
                    refine lv_lconst (v := lN 1) hx hb dX5_stakes_133 rfl ?_
                    refine lv_iload hx hb dX5_stakes_134 (lv_at hl 6 rfl) ?_
                    refine lv_lshl hx hb dX5_stakes_136 rfl ?_
                    refine lv_goto (tgt := 141) hx hb dX5_stakes_137 (by decide) ?_
                    refine lv_lor hx hb dX5_stakes_141 ?_
                    refine tp_l (show _ = gBits g (gd i) (gBst g gd 0 n 0 j) q (gBst g gd 0 n 0 (j + 1) q) (s9 + 1) from (if_pos c130).symm) ?_
                    refine st_l2 hx hb 5 dX5_stakes_142 hl (by decide) rfl (fun ls hl => ?_)
                    refine st_inc hx hb 6 dX5_stakes_144 hl rfl (nI_1 _) (by decide) rfl (fun ls hl => ?_)
                    refine lv_goto (tgt := 105) hx hb dX5_stakes_147 (by decide) ?_
                    exact ih _ hl
              · skip
                refine lv_iload hx hb dX5_stakes_105 (lv_at hl 6 rfl) ?_
                refine lv_aload_n hx hb dX5_stakes_107 rfl (lv_at hl 0 rfl) ?_
                refine lv_iload_n hx hb dX5_stakes_108 rfl (lv_at hl 1 rfl) ?_
                refine lv_iload_n hx hb dX5_stakes_109 rfl (lv_at hl 2 rfl) ?_
                refine vp_callSi (W.runV ⟨hx, hb, hml, hown, hts⟩ (m_mostAt l E am g hz n kd ch tm tx lm td tr bs1 nw th pd rest hn gd hM i q hi (by omega)) (cwV 2 hts gX5_stakes_X5_mostAt rfl rfl rfl (by decide +kernel) ⟨Nat.le_of_ble_eq_true rfl, Nat.le_of_ble_eq_true rfl⟩) (ePu_V hP hE (ci := 5) (k := 0) rfl rfl) rfl rfl hl.1 rfl (lv_room (Nat.le_of_ble_eq_true rfl)) dX5_stakes_110 ⟨Nat.zero_le _, Nat.zero_le _⟩) (fun r9 hr9 => ?_)
                subst hr9
                refine n_gt hx hb (by omega) (by omega) 150 dX5_stakes_113 (by decide) (fun c113 => ?_) (fun c113 => ?_)
                · skip
                  refine lv_lload hx hb dX5_stakes_150 (lv_at hl 5 rfl) ?_
                  exact ret_Wl hx hb hr hlocks dX5_stakes_152 hP hD hS ⟨Or.inl ⟨i, q, j + 1, rfl, rfl, rfl, hi, hq, ht1, ht, by rw [if_pos (by omega)]; rfl⟩, bs1, rfl⟩
                · skip
                  exact absurd c113 (by omega)
            · skip
              rw [lg_cmp_eq, pk_lEQ (by omega) hTp] at c92
              refine lv_lconst (v := lN 1) hx hb dX5_stakes_95 rfl ?_
              refine lv_goto (tgt := 100) hx hb dX5_stakes_96 (by decide) ?_
              refine tp_l (show _ = gBits g (gd i) (gBst g gd 0 n 0 j) q (gBst g gd 0 n 0 (j + 1) q) 0 from (if_pos c92).symm) ?_
              refine st_l2 hx hb 5 dX5_stakes_100 hl (by decide) rfl (fun ls hl => ?_)
              refine lv_iconst (v := nI 1) hx hb dX5_stakes_102 (by decide) ?_
              refine st_i2 hx hb 6 dX5_stakes_103 hl (by decide) rfl (fun ls hl => ?_)
              refine wLoop (min q (gL (gd i))) 0 (fun s9 ls => lv_has ls 9 [(0, .ref (am 0)), (1, .int (nI i)), (2, .int (nI q)), (3, .int (nI (j + 1))), (4, .long (lN (gBst g gd 0 n 0 (j + 1) q))), (6, .long (gBits g (gd i) (gBst g gd 0 n 0 j) q (gBst g gd 0 n 0 (j + 1) q) s9)), (8, .int (nI (s9 + 1)))]) (Nat.zero_le _) (fun s9 ls hs9 hl ih => ?_) (fun ls hl => ?_) hl
              · skip
                refine lv_iload hx hb dX5_stakes_105 (lv_at hl 6 rfl) ?_
                refine lv_aload_n hx hb dX5_stakes_107 rfl (lv_at hl 0 rfl) ?_
                refine lv_iload_n hx hb dX5_stakes_108 rfl (lv_at hl 1 rfl) ?_
                refine lv_iload_n hx hb dX5_stakes_109 rfl (lv_at hl 2 rfl) ?_
                refine vp_callSi (W.runV ⟨hx, hb, hml, hown, hts⟩ (m_mostAt l E am g hz n kd ch tm tx lm td tr bs1 nw th pd rest hn gd hM i q hi (by omega)) (cwV 2 hts gX5_stakes_X5_mostAt rfl rfl rfl (by decide +kernel) ⟨Nat.le_of_ble_eq_true rfl, Nat.le_of_ble_eq_true rfl⟩) (ePu_V hP hE (ci := 5) (k := 0) rfl rfl) rfl rfl hl.1 rfl (lv_room (Nat.le_of_ble_eq_true rfl)) dX5_stakes_110 ⟨Nat.zero_le _, Nat.zero_le _⟩) (fun r9 hr9 => ?_)
                subst hr9
                refine n_gt hx hb (by omega) (by omega) 150 dX5_stakes_113 (by decide) (fun c113 => ?_) (fun c113 => ?_)
                · skip
                  exact absurd c113 (by omega)
                · skip
                  refine lv_lload hx hb dX5_stakes_116 (lv_at hl 5 rfl) ?_
                  refine lv_aload_n hx hb dX5_stakes_118 rfl (lv_at hl 0 rfl) ?_
                  refine lv_iload_n hx hb dX5_stakes_119 rfl (lv_at hl 1 rfl) ?_
                  refine lv_iload_n hx hb dX5_stakes_120 rfl (lv_at hl 2 rfl) ?_
                  refine lv_iload hx hb dX5_stakes_121 (lv_at hl 6 rfl) ?_
                  refine lv_iload_n hx hb dX5_stakes_123 rfl (lv_at hl 3 rfl) ?_
                  refine vp_callSl (W.runV ⟨hx, hb, hml, hown, hts⟩ (m_worth l E am g hz n kd ch tm tx lm td tr bs1 nw th pd rest hn gd hM hg32 i q (s9 + 1) j (gBst g gd 0 n 0 j) hi hq (by omega) (by omega) (fun x hx => hb1 j (by omega) x hx)) (cwV 4 hts gX5_stakes_X5_worth rfl rfl rfl (by decide +kernel) ⟨Nat.le_of_ble_eq_true rfl, Nat.le_of_ble_eq_true rfl⟩) (ePu_V hP hE (ci := 5) (k := 0) rfl rfl) rfl rfl hl.1 rfl (lv_room (Nat.le_of_ble_eq_true rfl)) dX5_stakes_124 ⟨Nat.zero_le _, Nat.zero_le _⟩) (fun r9 hr9 => ?_)
                  subst hr9
                  refine lv_lload hx hb dX5_stakes_127 (lv_at hl 4 rfl) ?_
                  refine W.lcmp hx hb dX5_stakes_129 ?_
                  have hs2 := gVal_le (s := s9 + 1) hd hBd hq
                  refine lv_if_ne (tgt := 140) hx hb dX5_stakes_130 (by decide) (fun c130 => ?_) (fun c130 => ?_)
                  · skip
                    rw [lg_cmp_eq, pk_lEQ (by omega) hTp] at c130
                    refine lv_lconst (v := lN 0) hx hb dX5_stakes_140 rfl ?_
                    refine lv_lor hx hb dX5_stakes_141 ?_
                    refine tp_l (show _ = gBits g (gd i) (gBst g gd 0 n 0 j) q (gBst g gd 0 n 0 (j + 1) q) (s9 + 1) from (Int64.or_zero).trans (if_neg c130).symm) ?_
                    refine st_l2 hx hb 5 dX5_stakes_142 hl (by decide) rfl (fun ls hl => ?_)
                    refine st_inc hx hb 6 dX5_stakes_144 hl rfl (nI_1 _) (by decide) rfl (fun ls hl => ?_)
                    refine lv_goto (tgt := 105) hx hb dX5_stakes_147 (by decide) ?_
                    exact ih _ hl
                  · skip
                    rw [lg_cmp_eq, pk_lEQ (by omega) hTp] at c130
                    refine lv_lconst (v := lN 1) hx hb dX5_stakes_133 rfl ?_
                    refine lv_iload hx hb dX5_stakes_134 (lv_at hl 6 rfl) ?_
                    refine lv_lshl hx hb dX5_stakes_136 rfl ?_
                    refine lv_goto (tgt := 141) hx hb dX5_stakes_137 (by decide) ?_
                    refine lv_lor hx hb dX5_stakes_141 ?_
                    refine tp_l (show _ = gBits g (gd i) (gBst g gd 0 n 0 j) q (gBst g gd 0 n 0 (j + 1) q) (s9 + 1) from (if_pos c130).symm) ?_
                    refine st_l2 hx hb 5 dX5_stakes_142 hl (by decide) rfl (fun ls hl => ?_)
                    refine st_inc hx hb 6 dX5_stakes_144 hl rfl (nI_1 _) (by decide) rfl (fun ls hl => ?_)
                    refine lv_goto (tgt := 105) hx hb dX5_stakes_147 (by decide) ?_
                    exact ih _ hl
              · skip
                refine lv_iload hx hb dX5_stakes_105 (lv_at hl 6 rfl) ?_
                refine lv_aload_n hx hb dX5_stakes_107 rfl (lv_at hl 0 rfl) ?_
                refine lv_iload_n hx hb dX5_stakes_108 rfl (lv_at hl 1 rfl) ?_
                refine lv_iload_n hx hb dX5_stakes_109 rfl (lv_at hl 2 rfl) ?_
                refine vp_callSi (W.runV ⟨hx, hb, hml, hown, hts⟩ (m_mostAt l E am g hz n kd ch tm tx lm td tr bs1 nw th pd rest hn gd hM i q hi (by omega)) (cwV 2 hts gX5_stakes_X5_mostAt rfl rfl rfl (by decide +kernel) ⟨Nat.le_of_ble_eq_true rfl, Nat.le_of_ble_eq_true rfl⟩) (ePu_V hP hE (ci := 5) (k := 0) rfl rfl) rfl rfl hl.1 rfl (lv_room (Nat.le_of_ble_eq_true rfl)) dX5_stakes_110 ⟨Nat.zero_le _, Nat.zero_le _⟩) (fun r9 hr9 => ?_)
                subst hr9
                refine n_gt hx hb (by omega) (by omega) 150 dX5_stakes_113 (by decide) (fun c113 => ?_) (fun c113 => ?_)
                · skip
                  refine lv_lload hx hb dX5_stakes_150 (lv_at hl 5 rfl) ?_
                  exact ret_Wl hx hb hr hlocks dX5_stakes_152 hP hD hS ⟨Or.inl ⟨i, q, j + 1, rfl, rfl, rfl, hi, hq, ht1, ht, by rw [if_pos (by omega)]; rfl⟩, bs1, rfl⟩
                · skip
                  exact absurd c113 (by omega)
          · skip
            refine lv_lconst (v := lN 0) hx hb dX5_stakes_44 rfl ?_
            exact ret_Wl hx hb hr hlocks dX5_stakes_45 hP hD hS ⟨Or.inl ⟨i, q, j + 1, rfl, rfl, rfl, hi, hq, ht1, ht, by rw [if_neg (by omega)]⟩, bs, rfl⟩
      · skip
        refine lv_ldc2 (v := -1) hx hb hown (hts (.constantLong RX5 84 (-1)) (by decide +kernel)) dX5_stakes_28 ?_
        exact ret_Wl hx hb hr hlocks dX5_stakes_31 hP hD hS ⟨Or.inr ⟨fun ⟨i, q, t, e1, e2, e3, g1, g2, g3, g4⟩ => c25 (by rw [e3]; exact (nI_rngI (by omega) (by decide) (by omega)).mpr ⟨g3, g4⟩), rfl⟩, bs, rfl⟩
set_option maxHeartbeats 4000000 in
set_option maxRecDepth 100000 in
/-- tell -/
theorem m_tell (l : Launch) (E : eT) (am : Nat → Nat) (g hz n : Nat) (kd ch tm tx lm : Nat → Int32) (td : Nat → Nat) (tr : Int64) (bs nw th : Nat → Int64) (pd : Int64) (rest : va_W) (hg2 : 2 ≤ g) (hg32 : g ≤ 32) (qv vv : Int32) : mWi l yX5_tell wsX5_tell 1 24 0 0 E (wM E am g hz n kd ch tm tx lm (fun j => nI (td j)) tr bs nw th pd ++ rest) [.ref (am 0), .int qv, .int vv] (fun r ws1 => ∃ td1 : Nat → Nat, tel_of g td qv vv r td1 ∧ ws1 = wM E am g hz n kd ch tm tx lm (fun j => nI (td1 j)) tr bs nw th pd ++ rest) := by
  intro sz
  refine mW_of (cc := cX5_tell) (maxL := 4) (ret := (some .int)) (Qc := fun sz => va_Qi (fun r ws1 => ∃ td1 : Nat → Nat, tel_of g td qv vv r td1 ∧ ws1 = wM E am g hz n kd ch tm tx lm (fun j => nI (td1 j)) tr bs nw th pd ++ rest) (eAt E (va_A (wM E am g hz n kd ch tm tx lm (fun j => nI (td j)) tr bs nw th pd ++ rest) sz)) (va_A (wM E am g hz n kd ch tm tx lm (fun j => nI (td j)) tr bs nw th pd ++ rest) sz)) (by decide) rfl (Nat.le_of_ble_eq_true rfl) ?_
  intro p0 e0 s m below meth c0 ls hx hb hr hml hts hown hlocks hin hE hP hD hl
  have hS : va_S (va_A (wM E am g hz n kd ch tm tx lm (fun j => nI (td j)) tr bs nw th pd ++ rest) s.heap.size) s.heap s.heap [] := va_S.rf
  have hA : ∀ q, s.heap.size ≤ q → (va_A (wM E am g hz n kd ch tm tx lm (fun j => nI (td j)) tr bs nw th pd ++ rest) s.heap.size) q := fun q h => Or.inr h
  have hown : s.vm.findClass RX5 = some m.cls := hown
  have hl : lv_has ls 4 [(0, .ref (am 0)), (1, .int qv), (2, .int vv)] := hl
  have hinX5 : ∀ w ∈ wsX50, w ∈ wsX5_tell := by decide +kernel
  refine lv_iload_n hx hb dX5_tell_0 rfl (lv_at hl 1 rfl) ?_
  refine lv_iconst (v := nI 1) hx hb dX5_tell_1 (by decide) ?_
  refine lv_aload_n hx hb dX5_tell_2 rfl (lv_at hl 0 rfl) ?_
  refine va_get (D := E.1) (ci := 5) (C := RX5) (T := TX5) (N := 14) hx hb hts hinX5 hown hE.1 hP 0 rfl rfl 0 (by decide) (hts (.fieldLink RX5 7 "StakeHouseModel" "goal" "I") (by decide +kernel)) (fun _ h9 => h9) rfl dX5_tell_3 ?_
  refine lv_iconst (v := nI 1) hx hb dX5_tell_6 (by decide) ?_
  refine lv_isub hx hb dX5_tell_7 ?_
  refine tp_i (pk_sub (by omega)) ?_
  refine vp_callSi (W.runS ⟨hx, hb, hml, hown, hts⟩ (c_in l E _ _ _ _) (va_cwS 3 hts gX5_tell_X5_in rfl rfl rfl (by decide +kernel) ⟨Nat.le_of_ble_eq_true rfl, Nat.le_of_ble_eq_true rfl⟩) (ePu_S hP hE) rfl rfl hl.1 rfl (lv_room (Nat.le_of_ble_eq_true rfl)) dX5_tell_8 ⟨Nat.zero_le _, Nat.zero_le _⟩) (fun r9 hr9 => ?_)
  subst hr9
  refine q_eq hx hb 24 dX5_tell_11 (by decide) (fun c11 => ?_) (fun c11 => ?_)
  · skip
    refine lv_iconst (v := (-1)) hx hb dX5_tell_24 (by decide) ?_
    exact ret_Wi hx hb hr hlocks dX5_tell_25 hP hD hS ⟨td, Or.inr ⟨fun q => c11 q.1, rfl, rfl⟩, rfl⟩
  · skip
    obtain ⟨q, hq1, hq2, rfl⟩ := nI_rng (by omega) c11 (by decide)
    refine lv_iload_n hx hb dX5_tell_14 rfl (lv_at hl 2 rfl) ?_
    refine lv_iconst (v := nI 0) hx hb dX5_tell_15 (by decide) ?_
    refine lv_bipush (v := nI 32) hx hb dX5_tell_16 (by decide) ?_
    refine vp_callSi (W.runS ⟨hx, hb, hml, hown, hts⟩ (c_in l E _ _ _ _) (va_cwS 3 hts gX5_tell_X5_in rfl rfl rfl (by decide +kernel) ⟨Nat.le_of_ble_eq_true rfl, Nat.le_of_ble_eq_true rfl⟩) (ePu_S hP hE) rfl rfl hl.1 rfl (lv_room (Nat.le_of_ble_eq_true rfl)) dX5_tell_18 ⟨Nat.zero_le _, Nat.zero_le _⟩) (fun r9 hr9 => ?_)
    subst hr9
    refine q_ne hx hb 26 dX5_tell_21 (by decide) (fun c21 => ?_) (fun c21 => ?_)
    · skip
      obtain ⟨v, -, hv2, rfl⟩ := nI_rng (by decide) c21 (by decide)
      refine lv_aload_n hx hb dX5_tell_26 rfl (lv_at hl 0 rfl) ?_
      refine va_get (D := E.1) (ci := 5) (C := RX5) (T := TX5) (N := 14) hx hb hts hinX5 hown hE.1 hP 0 rfl rfl 8 (by decide) (hts (.fieldLink RX5 32 "StakeHouseModel" "told" "[I") (by decide +kernel)) (fun _ h9 => h9) rfl dX5_tell_27 ?_
      refine lv_iload_n hx hb dX5_tell_30 rfl (lv_at hl 1 rfl) ?_
      refine va_iald hx hb hE.1 hP 6 0 rfl rfl (vp_in_nI (by omega) (by decide)) dX5_tell_31 ?_
      refine tp_i (show _ = nI (td q) by rw [nI_clamp (by omega)]) ?_
      refine st_i1 hx hb 3 dX5_tell_32 rfl hl (by decide) rfl (fun ls hl => ?_)
      refine lv_aload_n hx hb dX5_tell_33 rfl (lv_at hl 0 rfl) ?_
      refine va_get (D := E.1) (ci := 5) (C := RX5) (T := TX5) (N := 14) hx hb hts hinX5 hown hE.1 hP 0 rfl rfl 8 (by decide) (hts (.fieldLink RX5 32 "StakeHouseModel" "told" "[I") (by decide +kernel)) (fun _ h9 => h9) rfl dX5_tell_34 ?_
      refine lv_iload_n hx hb dX5_tell_37 rfl (lv_at hl 1 rfl) ?_
      refine lv_iload_n hx hb dX5_tell_38 rfl (lv_at hl 2 rfl) ?_
      refine va_iast hx hb hE.1 hP hD hS 6 0 rfl rfl (vp_in_nI (by omega) (by decide)) dX5_tell_39 (fun H locs hP hD hS => ?_)
      have hP : va_P E.1 vwCl (wM E am g hz n kd ch tm tx lm (fun j => nI (va_up td q v j)) tr bs nw th pd ++ rest) H := (by rw [nI_clamp (by omega), upd_nI] at hP; exact hP)
      have hD : va_D (va_A (wM E am g hz n kd ch tm tx lm (fun j => nI (td j)) tr bs nw th pd ++ rest) s.heap.size) (wM E am g hz n kd ch tm tx lm (fun j => nI (va_up td q v j)) tr bs nw th pd ++ rest) := (by rw [nI_clamp (by omega), upd_nI] at hD; exact hD)
      refine lv_iload_n hx hb dX5_tell_40 rfl (lv_at hl 3 rfl) ?_
      exact ret_Wi hx hb hr hlocks dX5_tell_41 hP hD hS ⟨_, Or.inl ⟨q, v, rfl, rfl, hq1, by omega, hv2, rfl, rfl⟩, rfl⟩
    · skip
      refine lv_iconst (v := (-1)) hx hb dX5_tell_24 (by decide) ?_
      exact ret_Wi hx hb hr hlocks dX5_tell_25 hP hD hS ⟨td, Or.inr ⟨fun q => c21 q.2, rfl, rfl⟩, rfl⟩
