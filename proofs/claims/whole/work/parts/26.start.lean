set_option maxHeartbeats 4000000 in
set_option maxRecDepth 100000 in
/-- the law's loop -/
theorem law_loop {p : Program} {l : Launch} {e : Env} {s : State} {m : MethodId} {below : List Frame} {meth : Method} {c : Code} {b L : Nat} {xs : Nat → Int32} (hL : L ≤ 3072) (C0 : lw_At p s m meth c b L xs) {E : eT} (hE : eEv E s) {H : Heap} {locs : List Loc} {ls : Array Slot} (hI : LI E s b 0 H locs ls) : W p l e room_1 s m #[Value.ref b] below meth c H locs 62 6771 (lw_Z below #[Value.ref b] s) (F0 m 18 ls []) := by
  obtain ⟨hx, hb, hr, hml, hown, hts, hX, hbl, hlocks, hgv⟩ := id C0
  have hbA : ¬ (fun q : Nat => s.heap.size ≤ q) b := Nat.not_le.mpr hbl
  refine wLoopC (L / 6) 62 6771 2 38 (fun i H locs ls => LI E s b i H locs ls) (fun i H locs ls hi hI ih => ?_) (fun H locs ls hI => ?_) hI
  · skip
    have h6 : 6 * i + 6 ≤ L := by omega
    have hI0 := hI
    obtain ⟨ad, am, g, hz, n, mk, td, gr, cf, ce, ck, rv, st, wo, kd, ch, tm, tx, lm, bs, nw, th, pd, ga, gb, gd, gm, F, hP, hD, hS, hl⟩ := hI
    refine lv_iload_n hx hb dL_law_18 rfl (lv_at hl 3 rfl) ?_
    refine lv_aload_n hx hb dL_law_19 rfl (lv_at hl 0 rfl) ?_
    refine va_slen hx hb hX hbl hbA hS dL_law_20 ?_
    refine tp_i (show _ = nI L from rfl) ?_
    refine lv_bipush (v := nI 6) hx hb dL_law_21 (by decide) ?_
    refine lv_isub hx hb dL_law_23 ?_
    refine tp_i (pk_sub (by omega)) ?_
    refine n_gt hx hb (by omega) (by omega) 580 dL_law_24 (by decide) (fun c24 => ?_) (fun c24 => ?_)
    · skip
      exact absurd c24 (by omega)
    · skip
      refine lv_aload_n hx hb dL_law_27 rfl (lv_at hl 0 rfl) ?_
      refine lv_iload_n hx hb dL_law_28 rfl (lv_at hl 3 rfl) ?_
      refine va_sld hx hb hX hbl hbA hS (vp_in_nI (by omega) (by omega)) dL_law_29 ?_
      refine tp_i (show _ = xs (6 * i) by rw [nI_clamp (by omega)]) ?_
      refine lv_bipush (v := nI 15) hx hb dL_law_30 (by decide) ?_
      refine lv_iand hx hb dL_law_32 ?_
      have K574 : ∀ (H : Heap) (locs : List Loc) (ls : Array Slot), LI E s b i H locs ls → W p l e room_1 s m #[Value.ref b] below meth c H locs (62 + 2 * i + 2) (6771 + 38 * i + 38) (lw_Z below #[Value.ref b] s) (F0 m 574 ls []) := by
        rintro H locs ls ⟨ad, am, g, hz, n, mk, td, gr, cf, ce, ck, rv, st, wo, kd, ch, tm, tx, lm, bs, nw, th, pd, ga, gb, gd, gm, F, hP, hD, hS, hl⟩
        refine st_inc hx hb 3 dL_law_574 hl rfl (show nI (6 * i) + Int32.ofInt 6 = nI (6 * (i + 1)) from nI_add (6 * i) 6) (by decide) rfl (fun ls hl => ?_)
        refine lv_goto (tgt := 18) hx hb dL_law_577 (by decide) ?_
        exact ih _ _ _ ⟨ad, am, g, hz, n, mk, td, gr, cf, ce, ck, rv, st, wo, kd, ch, tm, tx, lm, bs, nw, th, pd, ga, gb, gd, gm, F, hP, hD, hS, hl⟩
      obtain ⟨j, hj, ej⟩ := pk_andE (xs (6 * i)) (m := nI 15) 4 (by decide)
      refine tp_i ej ?_
      rcases (show j = 0 ∨ j = 1 ∨ j = 2 ∨ j = 3 ∨ j = 4 ∨ j = 5 ∨ j = 6 ∨ j = 7 ∨ j = 8 ∨ j = 9 ∨ j = 10 ∨ j = 11 ∨ j = 12 ∨ j = 13 ∨ j = 14 ∨ j = 15 by omega) with rfl | rfl | rfl | rfl | rfl | rfl | rfl | rfl | rfl | rfl | rfl | rfl | rfl | rfl | rfl | rfl
      · refine lv_tableIn (tgt := 100) hx hb dL_law_33 (by decide) (by decide) rfl (by decide) ?_
        exact law_c0 C0 hE h6 hL (by omega) (by omega) K574 hI0
      · refine lv_tableIn (tgt := 133) hx hb dL_law_33 (by decide) (by decide) rfl (by decide) ?_
        exact law_c1 C0 hE h6 hL (by omega) (by omega) K574 hI0
      · refine lv_tableIn (tgt := 196) hx hb dL_law_33 (by decide) (by decide) rfl (by decide) ?_
        exact law_c2 C0 hE h6 hL (by omega) (by omega) K574 hI0
      · refine lv_tableIn (tgt := 209) hx hb dL_law_33 (by decide) (by decide) rfl (by decide) ?_
        exact law_c3 C0 hE h6 hL (by omega) (by omega) K574 hI0
      · refine lv_tableIn (tgt := 242) hx hb dL_law_33 (by decide) (by decide) rfl (by decide) ?_
        exact law_c4 C0 hE h6 hL (by omega) (by omega) K574 hI0
      · refine lv_tableIn (tgt := 276) hx hb dL_law_33 (by decide) (by decide) rfl (by decide) ?_
        exact law_c5 C0 hE h6 hL (by omega) (by omega) K574 hI0
      · refine lv_tableIn (tgt := 320) hx hb dL_law_33 (by decide) (by decide) rfl (by decide) ?_
        exact law_c6 C0 hE h6 hL (by omega) (by omega) K574 hI0
      · refine lv_tableIn (tgt := 354) hx hb dL_law_33 (by decide) (by decide) rfl (by decide) ?_
        exact law_c7 C0 hE h6 hL (by omega) (by omega) K574 hI0
      · refine lv_tableIn (tgt := 387) hx hb dL_law_33 (by decide) (by decide) rfl (by decide) ?_
        exact law_c8 C0 hE h6 hL (by omega) (by omega) K574 hI0
      · refine lv_tableIn (tgt := 430) hx hb dL_law_33 (by decide) (by decide) rfl (by decide) ?_
        exact law_c9 C0 hE h6 hL (by omega) (by omega) K574 hI0
      · refine lv_tableIn (tgt := 494) hx hb dL_law_33 (by decide) (by decide) rfl (by decide) ?_
        exact law_c10 C0 hE h6 hL (by omega) (by omega) K574 hI0
      · refine lv_tableIn (tgt := 537) hx hb dL_law_33 (by decide) (by decide) rfl (by decide) ?_
        exact law_c11 C0 hE h6 hL (by omega) (by omega) K574 hI0
      · refine lv_tableIn (tgt := 560) hx hb dL_law_33 (by decide) (by decide) rfl (by decide) ?_
        exact law_c12 C0 hE h6 hL (by omega) (by omega) K574 hI0
      · refine lv_tableOut (tgt := 574) hx hb dL_law_33 (Or.inr (by decide)) (by decide) ?_
        refine W.widen (k := 62 + 2 * i + 2) (n := 6771 + 38 * i + 38) (by omega) (by omega) ?_
        exact K574 _ _ _ hI0
      · refine lv_tableOut (tgt := 574) hx hb dL_law_33 (Or.inr (by decide)) (by decide) ?_
        refine W.widen (k := 62 + 2 * i + 2) (n := 6771 + 38 * i + 38) (by omega) (by omega) ?_
        exact K574 _ _ _ hI0
      · refine lv_tableOut (tgt := 574) hx hb dL_law_33 (Or.inr (by decide)) (by decide) ?_
        refine W.widen (k := 62 + 2 * i + 2) (n := 6771 + 38 * i + 38) (by omega) (by omega) ?_
        exact K574 _ _ _ hI0
  · skip
    obtain ⟨ad, am, g, hz, n, mk, td, gr, cf, ce, ck, rv, st, wo, kd, ch, tm, tx, lm, bs, nw, th, pd, ga, gb, gd, gm, F, hP, hD, hS, hl⟩ := hI
    refine lv_iload_n hx hb dL_law_18 rfl (lv_at hl 3 rfl) ?_
    refine lv_aload_n hx hb dL_law_19 rfl (lv_at hl 0 rfl) ?_
    refine va_slen hx hb hX hbl hbA hS dL_law_20 ?_
    refine tp_i (show _ = nI L from rfl) ?_
    refine lv_bipush (v := nI 6) hx hb dL_law_21 (by decide) ?_
    refine lv_isub hx hb dL_law_23 ?_
    refine lv_icmp_gt (tgt := 580) hx hb dL_law_24 (by decide) (fun c24 => ?_) (fun c24 => absurd ?_ c24)
    · refine lv_iconst (v := 1) hx hb dL_law_580 (by decide) ?_
      refine va_forget (fun q hq => hS.2.2 q hq) ?_
      refine W.widen (k := 600000) (n := 7302250) (by omega) (by omega) ?_
      exact lw_ret hx hb hr hlocks dL_law_581
    · by_cases h6 : 6 ≤ L
      · rw [pk_sub h6]
        exact (nI_ltI (by omega) (by omega)).mpr (by omega)
      · rw [show 6 * (L / 6) = 0 by omega]
        exact pk_sneg (by decide) (by omega)
/-- an array class, by the tables -/
theorem arr_known {s : State} {args : Array Value} {ty : FieldType} (h : (Cond.arrayClass ty).before args s = true) : ∃ cA : ClassId, ArrOfT s cA ty ∧ s.vm.findClass ("[" ++ ty.toString) = some cA := by
  obtain ⟨c, k, comp, h1, h2, h3⟩ := Cond.arrayClass_spec h
  exact ⟨c, fun n z => ⟨(fun q hq => by cases hq), k, h2, comp, h3⟩, h1⟩
set_option maxHeartbeats 4000000 in
set_option maxRecDepth 100000 in
/-- THE LAW, from its entry -/
theorem whole_start {p : Program} {e : Env} {s : State} {m : MethodId} {below : List Frame} {meth : Method} {c : Code} (l : Launch) {b L : Nat} {xs : Nat → Int32} (hL : L ≤ 3072) (C0 : lw_At p s m meth c b L xs) : W p l e room_1 s m #[Value.ref b] below meth c s.heap [] 0 0 (lw_Z below #[Value.ref b] s) (entryFrame m ([Value.ref b] : List Value).toArray 4) := by
  obtain ⟨hx, hb, hr, hml, hown, hts0, hX, hbl, hlocks, hgv⟩ := id C0
  have hts : ∀ w ∈ wsL_law, w.before #[Value.ref b] s = true := fun w h => hts0 w (wsL_law_in w h)
  have hown : s.vm.findClass RL = some m.cls := hown
  have hA : ∀ q : Nat, s.heap.size ≤ q → (fun q : Nat => s.heap.size ≤ q) q := fun _ h => h
  obtain ⟨d0, iS0, hKn0⟩ := u_known (C := RX0) (T := TX0) (N := 5) (n := 5) hts0 inX0 (hts0 (.instantiable RX0 5) (by decide +kernel))
  obtain ⟨d1, iS1, hKn1⟩ := u_known (C := RX1) (T := TX1) (N := 3) (n := 3) hts0 inX1 (hts0 (.instantiable RX1 3) (by decide +kernel))
  obtain ⟨d2, iS2, hKn2⟩ := u_known (C := RX2) (T := TX2) (N := 4) (n := 4) hts0 inX2 (hts0 (.instantiable RX2 4) (by decide +kernel))
  obtain ⟨d3, iS3, hKn3⟩ := u_known (C := RX3) (T := TX3) (N := 5) (n := 5) hts0 inX3 (hts0 (.instantiable RX3 5) (by decide +kernel))
  obtain ⟨d4, iS4, hKn4⟩ := u_known (C := RX4) (T := TX4) (N := 11) (n := 11) hts0 inX4 (hts0 (.instantiable RX4 11) (by decide +kernel))
  obtain ⟨d5, iS5, hKn5⟩ := u_known (C := RX5) (T := TX5) (N := 14) (n := 14) hts0 inX5 (hts0 (.instantiable RX5 14) (by decide +kernel))
  obtain ⟨dC, dI, hKc⟩ : ∃ (dC : Nat → ClassId) (dI : Nat → Nat → Nat), ∀ (k : Nat) (q : vw_C), vwCl[k]? = some q → u_Kn s q.1 q.2.1 q.2.2 (dC k) (dI k) := by
    refine ⟨fun k => if k = 0 then d0 else if k = 1 then d1 else if k = 2 then d2 else if k = 3 then d3 else if k = 4 then d4 else d5, fun k => if k = 0 then iS0 else if k = 1 then iS1 else if k = 2 then iS2 else if k = 3 then iS3 else if k = 4 then iS4 else iS5, ?_⟩
    intro k q hq
    match k, hq with
    | 0, hq => cases hq; exact hKn0
    | 1, hq => cases hq; exact hKn1
    | 2, hq => cases hq; exact hKn2
    | 3, hq => cases hq; exact hKn3
    | 4, hq => cases hq; exact hKn4
    | 5, hq => cases hq; exact hKn5
    | k + 6, hq => simp [vwCl] at hq
  obtain ⟨cI, aI1, aI2⟩ := arr_known (hts0 (.arrayClass .int) (by decide +kernel))
  obtain ⟨cJ, aJ1, aJ2⟩ := arr_known (hts0 (.arrayClass .long) (by decide +kernel))
  obtain ⟨cpG, cG, kG, g1, -, g3, g4, g5⟩ := Cond.arrayOver_spec (hts0 (.arrayOver (.object RX1)) (by decide +kernel))
  obtain ⟨cpO, cO, kO, o1, o3, o4, o5⟩ := Cond.arrayOver_specA (hts0 (.arrayOver (.array .long)) (by decide +kernel))
  obtain ⟨E, hE1, hE2⟩ : ∃ E : eT, E.1 = (dC, dI) ∧ E.2 = fun k => if k = 0 then cI else if k = 1 then cJ else if k = 2 then cG else cO := ⟨(_, _), rfl, rfl⟩
  have hE : eEv E s := by
    refine ⟨⟨?_, ?_⟩, fun w hw => ?_⟩
    · rw [hE1]; exact hKc
    · intro k q hq
      match k, hq with
      | 0, hq => cases hq; rw [hE2]; exact ⟨aI1, aI2⟩
      | 1, hq => cases hq; rw [hE2]; exact ⟨aJ1, aJ2⟩
      | 2, hq => cases hq; rw [hE2]; exact ⟨fun n z => ⟨(fun q hq => by cases hq), kG, g3, cpG, g4⟩, kG, cpG, g3, g4, g1, g5⟩
      | 3, hq => cases hq; rw [hE2]; exact ⟨fun n z => ⟨(fun q hq => by cases hq), kO, o3, cpO, o4⟩, o5⟩
      | k + 4, hq => simp [eTys] at hq
    · have hin : ∀ w ∈ eNest, w ∈ lw_tbl := by decide +kernel
      have h0 := hts0 w (hin w hw)
      rcases eNest_of hw with ⟨a', i, b', n, d, g', rfl⟩ | ⟨C, T, rfl⟩ | ⟨ty, rfl⟩
      · exact va_Nw.of rfl h0
      · exact va_Nw.of rfl h0
      · exact h0
  have hS : va_S (fun q : Nat => s.heap.size ≤ q) s.heap s.heap [] := va_S.rf
  have hP : va_P E.1 vwCl [] s.heap := fun k q h => by simp at h
  have hD : va_D (fun q : Nat => s.heap.size ≤ q) [] := ⟨fun i j p q h => by simp at h, fun k q h => by simp at h⟩
  have hl := lv_entry ([.ref b]) (n := 4) (Nat.le_of_ble_eq_true rfl)
  rw [lg_entry_eq]
  generalize (lg_sl ([.ref b]) ++ List.replicate (4 - (lg_sl ([.ref b])).length) Slot.unset).toArray = ls at hl ⊢
  have hl : lv_has ls 4 [(0, .ref b)] := hl
  refine va_new (D := E.1) (ci := 4) (fs := [.null, .null, .null, .null, .null, .null, .null, .int (nI 0), .int (nI 0), .int (nI 0), .long (lN 0)]) (C := RX4) (T := TX4) (N := 11) hx hb hts inlX4 tyX4 tyX4_ok hown (hts (.classLink RL 7 RX4) (by decide +kernel)) (hts (.instantiable RX4 11) (by decide +kernel)) (hts (.initialized RX4) (by decide +kernel)) hE.1 hP hD hS hA rfl (fun j hj => by rcases (show j = 0 ∨ j = 1 ∨ j = 2 ∨ j = 3 ∨ j = 4 ∨ j = 5 ∨ j = 6 ∨ j = 7 ∨ j = 8 ∨ j = 9 ∨ j = 10 by omega) with rfl | rfl | rfl | rfl | rfl | rfl | rfl | rfl | rfl | rfl | rfl <;> rfl) (Nat.le_of_ble_eq_true rfl) (Nat.le_of_ble_eq_true rfl) dL_law_0 (fun qx H hP hD hS => ?_)
  have hP : va_P E.1 vwCl [(qx, .inr (4, [.null, .null, .null, .null, .null, .null, .null, .int (nI 0), .int (nI 0), .int (nI 0), .long (lN 0)]))] H := hP
  have hD : va_D (fun q : Nat => s.heap.size ≤ q) [(qx, .inr (4, [.null, .null, .null, .null, .null, .null, .null, .int (nI 0), .int (nI 0), .int (nI 0), .long (lN 0)]))] := hD
  refine lv_dup hx hb dL_law_3 rfl ?_
  refine cW_v (va_runI ⟨hx, hb, hml, hown, hts⟩ (c_X4_init l E qx .null .null .null .null .null .null .null (.int (nI 0)) (.int (nI 0)) (.int (nI 0)) (.long (lN 0)) _) (cwI 0 hts gL_law_X4_init rfl rfl rfl (hts (.initialized RX4) (by decide +kernel)) (hts (.methodLink RL 9 yX4_init) (by decide +kernel)) (hts (.instanceMethod yX4_init) (by decide +kernel)) rfl (by decide +kernel) ⟨Nat.le_of_ble_eq_true rfl, Nat.le_of_ble_eq_true rfl⟩) (ePw_S hP hD hE) rfl rfl hl.1 rfl (lv_room (Nat.le_of_ble_eq_true rfl)) dL_law_4 ⟨Nat.le_of_ble_eq_true rfl, Nat.le_of_ble_eq_true rfl⟩) hS hD hA (fun ws9 H locs hr9 hP hD hS => ?_)
  obtain ⟨ad, rfl, rfl⟩ := hr9
  refine st_a1 hx hb 1 dL_law_7 rfl hl (by decide) rfl (fun ls hl => ?_)
  refine va_new (D := E.1) (ci := 5) (fs := [.int (nI 0), .int (nI 0), .int (nI 0), .null, .null, .null, .null, .null, .null, .long (lN 0), .null, .null, .null, .long (lN 0)]) (C := RX5) (T := TX5) (N := 14) hx hb hts inlX5 tyX5 tyX5_ok hown (hts (.classLink RL 10 RX5) (by decide +kernel)) (hts (.instantiable RX5 14) (by decide +kernel)) (hts (.initialized RX5) (by decide +kernel)) hE.1 hP hD hS hA rfl (fun j hj => by rcases (show j = 0 ∨ j = 1 ∨ j = 2 ∨ j = 3 ∨ j = 4 ∨ j = 5 ∨ j = 6 ∨ j = 7 ∨ j = 8 ∨ j = 9 ∨ j = 10 ∨ j = 11 ∨ j = 12 ∨ j = 13 by omega) with rfl | rfl | rfl | rfl | rfl | rfl | rfl | rfl | rfl | rfl | rfl | rfl | rfl | rfl <;> rfl) (Nat.le_of_ble_eq_true rfl) (Nat.le_of_ble_eq_true rfl) dL_law_8 (fun qm H hP hD hS => ?_)
  refine lv_dup hx hb dL_law_11 rfl ?_
  refine cW_v (va_runI ⟨hx, hb, hml, hown, hts⟩ (m_init l E (wX E ad 8 4 0 (lN 0) (fun _ => nI 0) (fun _ => none) (fun _ => 0) (fun _ => 0) (fun _ => 0) (fun _ _ => lN 0) (fun _ => nI 0) (fun _ _ => lN 0)) qm (.int (nI 0)) (.int (nI 0)) (.int (nI 0)) .null .null .null .null .null .null .null .null .null (lN 0) (lN 0) _) (cwI 0 hts gL_law_X5_init rfl rfl rfl (hts (.initialized RX5) (by decide +kernel)) (hts (.methodLink RL 12 yX5_init) (by decide +kernel)) (hts (.instanceMethod yX5_init) (by decide +kernel)) rfl (by decide +kernel) ⟨Nat.le_of_ble_eq_true rfl, Nat.le_of_ble_eq_true rfl⟩) (ePw_S hP hD hE) rfl rfl hl.1 rfl (lv_room (Nat.le_of_ble_eq_true rfl)) dL_law_12 ⟨Nat.le_of_ble_eq_true rfl, Nat.le_of_ble_eq_true rfl⟩) hS hD hA (fun ws9 H locs hr9 hP hD hS => ?_)
  obtain ⟨am, rfl, rfl⟩ := hr9
  refine st_a1 hx hb 2 dL_law_15 rfl hl (by decide) rfl (fun ls hl => ?_)
  refine lv_iconst (v := nI 0) hx hb dL_law_16 (by decide) ?_
  refine st_i1 hx hb 3 dL_law_17 rfl hl (by decide) rfl (fun ls hl => ?_)
  refine law_loop hL C0 hE ⟨ad, am, 8, 4, 0, lN 0, fun _ => 0, fun _ => none, fun _ => 0, fun _ => 0, fun _ => 0, fun _ _ => lN 0, fun _ => nI 0, fun _ _ => lN 0, fun _ => nI 0, fun _ => nI 0, fun _ => nI 0, fun _ => nI 0, fun _ => nI 0, fun _ => lN 0, fun _ => lN 0, fun _ => lN 0, lN 0, fun _ => 0, fun _ => 0, fun _ => (0, 0, 0, 0, 0), [], ⟨by decide, by decide, by decide, by decide, fun _ => Nat.zero_le _, fun c hc => ⟨Nat.zero_le _, Nat.zero_le _, Nat.zero_le _, fun i hi => absurd hi (Nat.not_lt_zero i)⟩, fun i hi => absurd hi (Nat.not_lt_zero i), fun i hi => absurd hi (Nat.not_lt_zero i), rfl⟩, ?_, ?_, hS, hl⟩
  · rw [List.append_nil]; exact hP
  · rw [List.append_nil]; exact hD
