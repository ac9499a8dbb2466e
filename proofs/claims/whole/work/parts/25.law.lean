/-! the law, call by call -/
set_option maxHeartbeats 4000000 in
set_option maxRecDepth 100000 in
/-- set -/
theorem law_c0 {p : Program} {l : Launch} {e : Env} {s : State} {m : MethodId} {below : List Frame} {meth : Method} {c : Code} {b L : Nat} {xs : Nat → Int32} (C0 : lw_At p s m meth c b L xs) {E : eT} (hE : eEv E s) {i : Nat} (hi : 6 * i + 6 ≤ L) (hL : L ≤ 3072) {cA sA : Nat} (hcA : cA + 2 ≤ 600000) (hsA : sA + 38 ≤ 7302250) (K : ∀ (H : Heap) (locs : List Loc) (ls : Array Slot), LI E s b i H locs ls → W p l e room_1 s m #[Value.ref b] below meth c H locs (cA + 2) (sA + 38) (lw_Z below #[Value.ref b] s) (F0 m 574 ls [])) {H : Heap} {locs : List Loc} {ls : Array Slot} (hI : LI E s b i H locs ls) : W p l e room_1 s m #[Value.ref b] below meth c H locs cA sA (lw_Z below #[Value.ref b] s) (F0 m 100 ls []) := by
  obtain ⟨hx, hb, hr, hml, hown, hts, hX, hbl, hlocks, hgv⟩ := C0
  have hts : ∀ w ∈ wsL_law, w.before #[Value.ref b] s = true := fun w h => hts w (wsL_law_in w h)
  have hown : s.vm.findClass RL = some m.cls := hown
  have hA : ∀ q : Nat, s.heap.size ≤ q → (fun q : Nat => s.heap.size ≤ q) q := fun _ h => h
  have hbA : ¬ (fun q : Nat => s.heap.size ≤ q) b := Nat.not_le.mpr hbl
  obtain ⟨ad, am, g, hz, n, mk, td, gr, cf, ce, ck, rv, st, wo, kd, ch, tm, tx, lm, bs, nw, th, pd, ga, gb, gd, gm, F, hP, hD, hS, hl⟩ := hI
  obtain ⟨hg2, hg32, hhz, hn, htd2, hV, hGA, hM, hgl⟩ := id F
  refine lv_aload_n hx hb dL_law_100 rfl (lv_at hl 1 rfl) ?_
  refine lv_aload_n hx hb dL_law_101 rfl (lv_at hl 0 rfl) ?_
  refine lv_iload_n hx hb dL_law_102 rfl (lv_at hl 3 rfl) ?_
  refine lv_iconst (v := nI 1) hx hb dL_law_103 (by decide) ?_
  refine lv_iadd hx hb dL_law_104 ?_
  refine tp_i (nI_add _ _) ?_
  refine va_sld hx hb hX hbl hbA hS (vp_in_nI (by omega) (by omega)) dL_law_105 ?_
  refine tp_i (show _ = xs (6 * i + 1) by rw [nI_clamp (by omega)]) ?_
  refine lv_aload_n hx hb dL_law_106 rfl (lv_at hl 0 rfl) ?_
  refine lv_iload_n hx hb dL_law_107 rfl (lv_at hl 3 rfl) ?_
  refine lv_iconst (v := nI 2) hx hb dL_law_108 (by decide) ?_
  refine lv_iadd hx hb dL_law_109 ?_
  refine tp_i (nI_add _ _) ?_
  refine va_sld hx hb hX hbl hbA hS (vp_in_nI (by omega) (by omega)) dL_law_110 ?_
  refine tp_i (show _ = xs (6 * i + 2) by rw [nI_clamp (by omega)]) ?_
  refine cW_i (va_runV ⟨hx, hb, hml, hown, hts⟩ (c_set l E ad g hz n mk (fun j => nI (td j)) gr cf ce ck rv st wo (wM E am g hz n kd ch tm tx lm (fun j => nI (td j)) mk bs nw th pd ++ gm) (xs (6 * i + 1)) (xs (6 * i + 2)) _) (cwV 2 hts gL_law_X4_set rfl rfl rfl (by decide +kernel) ⟨Nat.le_of_ble_eq_true rfl, Nat.le_of_ble_eq_true rfl⟩) (ePw_V hP hD hE (ci := 4) (k := 0) rfl rfl) rfl rfl hl.1 rfl (lv_room (Nat.le_of_ble_eq_true rfl)) dL_law_111 ⟨by show _ ≤ 600000; omega, by show _ ≤ 7302250; omega⟩) hS hD hA (fun ra ws9 H locs hr9 hP hD hS => ?_)
  obtain ⟨g1, hz1, td1, ck1, hs1, rfl⟩ := hr9
  have hP := vP_rot hP
  have hD := vD_rot hD
  refine lv_aload_n hx hb dL_law_114 rfl (lv_at hl 2 rfl) ?_
  refine lv_aload_n hx hb dL_law_115 rfl (lv_at hl 0 rfl) ?_
  refine lv_iload_n hx hb dL_law_116 rfl (lv_at hl 3 rfl) ?_
  refine lv_iconst (v := nI 1) hx hb dL_law_117 (by decide) ?_
  refine lv_iadd hx hb dL_law_118 ?_
  refine tp_i (nI_add _ _) ?_
  refine va_sld hx hb hX hbl hbA hS (vp_in_nI (by omega) (by omega)) dL_law_119 ?_
  refine tp_i (show _ = xs (6 * i + 1) by rw [nI_clamp (by omega)]) ?_
  refine lv_aload_n hx hb dL_law_120 rfl (lv_at hl 0 rfl) ?_
  refine lv_iload_n hx hb dL_law_121 rfl (lv_at hl 3 rfl) ?_
  refine lv_iconst (v := nI 2) hx hb dL_law_122 (by decide) ?_
  refine lv_iadd hx hb dL_law_123 ?_
  refine tp_i (nI_add _ _) ?_
  refine va_sld hx hb hX hbl hbA hS (vp_in_nI (by omega) (by omega)) dL_law_124 ?_
  refine tp_i (show _ = xs (6 * i + 2) by rw [nI_clamp (by omega)]) ?_
  refine cW_i (va_runV ⟨hx, hb, hml, hown, hts⟩ (m_set l E am g hz n kd ch tm tx lm (fun j => nI (td j)) mk bs nw th pd (gm ++ (wX E ad g1 hz1 n mk td1 gr cf ce ck1 rv st wo)) (xs (6 * i + 1)) (xs (6 * i + 2)) _) (cwV 2 hts gL_law_X5_set rfl rfl rfl (by decide +kernel) ⟨Nat.le_of_ble_eq_true rfl, Nat.le_of_ble_eq_true rfl⟩) (ePw_V hP hD hE (ci := 5) (k := 0) rfl rfl) rfl rfl hl.1 rfl (lv_room (Nat.le_of_ble_eq_true rfl)) dL_law_125 ⟨by show _ ≤ 600000; omega, by show _ ≤ 7302250; omega⟩) hS hD hA (fun rb ws9 H locs hr9 hP hD hS => ?_)
  obtain ⟨g2, hz2, td2, hs2, rfl⟩ := hr9
  have hP := vP_rot (vP_rot hP)
  have hD := vD_rot (vD_rot hD)
  obtain ⟨rfl, rfl, rfl, rfl⟩ := set_det hs1 hs2
  obtain ⟨td3, rfl, F3⟩ := set_out F hs1
  refine lv_icmp_eq (tgt := 574) hx hb dL_law_128 (by decide) (fun c9 => ?_) (fun c9 => absurd rfl c9)
  refine W.widen (k := cA + 2) (n := sA + 38) (by omega) (by omega) ?_
  exact K _ _ _ ⟨ad, am, g2, hz2, n, mk, td3, gr, cf, ce, ck1, rv, st, wo, kd, ch, tm, tx, lm, bs, nw, th, pd, ga, gb, gd, gm, F3, hP, hD, hS, hl⟩
set_option maxHeartbeats 4000000 in
set_option maxRecDepth 100000 in
/-- game -/
theorem law_c1 {p : Program} {l : Launch} {e : Env} {s : State} {m : MethodId} {below : List Frame} {meth : Method} {c : Code} {b L : Nat} {xs : Nat → Int32} (C0 : lw_At p s m meth c b L xs) {E : eT} (hE : eEv E s) {i : Nat} (hi : 6 * i + 6 ≤ L) (hL : L ≤ 3072) {cA sA : Nat} (hcA : cA + 2 ≤ 600000) (hsA : sA + 38 ≤ 7302250) (K : ∀ (H : Heap) (locs : List Loc) (ls : Array Slot), LI E s b i H locs ls → W p l e room_1 s m #[Value.ref b] below meth c H locs (cA + 2) (sA + 38) (lw_Z below #[Value.ref b] s) (F0 m 574 ls [])) {H : Heap} {locs : List Loc} {ls : Array Slot} (hI : LI E s b i H locs ls) : W p l e room_1 s m #[Value.ref b] below meth c H locs cA sA (lw_Z below #[Value.ref b] s) (F0 m 133 ls []) := by
  obtain ⟨hx, hb, hr, hml, hown, hts, hX, hbl, hlocks, hgv⟩ := C0
  have hts : ∀ w ∈ wsL_law, w.before #[Value.ref b] s = true := fun w h => hts w (wsL_law_in w h)
  have hown : s.vm.findClass RL = some m.cls := hown
  have hA : ∀ q : Nat, s.heap.size ≤ q → (fun q : Nat => s.heap.size ≤ q) q := fun _ h => h
  have hbA : ¬ (fun q : Nat => s.heap.size ≤ q) b := Nat.not_le.mpr hbl
  obtain ⟨ad, am, g, hz, n, mk, td, gr, cf, ce, ck, rv, st, wo, kd, ch, tm, tx, lm, bs, nw, th, pd, ga, gb, gd, gm, F, hP, hD, hS, hl⟩ := hI
  obtain ⟨hg2, hg32, hhz, hn, htd2, hV, hGA, hM, hgl⟩ := id F
  refine lv_aload_n hx hb dL_law_133 rfl (lv_at hl 1 rfl) ?_
  refine lv_aload_n hx hb dL_law_134 rfl (lv_at hl 0 rfl) ?_
  refine lv_iload_n hx hb dL_law_135 rfl (lv_at hl 3 rfl) ?_
  refine lv_iconst (v := nI 1) hx hb dL_law_136 (by decide) ?_
  refine lv_iadd hx hb dL_law_137 ?_
  refine tp_i (nI_add _ _) ?_
  refine va_sld hx hb hX hbl hbA hS (vp_in_nI (by omega) (by omega)) dL_law_138 ?_
  refine tp_i (show _ = xs (6 * i + 1) by rw [nI_clamp (by omega)]) ?_
  refine lv_aload_n hx hb dL_law_139 rfl (lv_at hl 0 rfl) ?_
  refine lv_iload_n hx hb dL_law_140 rfl (lv_at hl 3 rfl) ?_
  refine lv_iconst (v := nI 2) hx hb dL_law_141 (by decide) ?_
  refine lv_iadd hx hb dL_law_142 ?_
  refine tp_i (nI_add _ _) ?_
  refine va_sld hx hb hX hbl hbA hS (vp_in_nI (by omega) (by omega)) dL_law_143 ?_
  refine tp_i (show _ = xs (6 * i + 2) by rw [nI_clamp (by omega)]) ?_
  refine lv_aload_n hx hb dL_law_144 rfl (lv_at hl 0 rfl) ?_
  refine lv_iload_n hx hb dL_law_145 rfl (lv_at hl 3 rfl) ?_
  refine lv_iconst (v := nI 3) hx hb dL_law_146 (by decide) ?_
  refine lv_iadd hx hb dL_law_147 ?_
  refine tp_i (nI_add _ _) ?_
  refine va_sld hx hb hX hbl hbA hS (vp_in_nI (by omega) (by omega)) dL_law_148 ?_
  refine tp_i (show _ = xs (6 * i + 3) by rw [nI_clamp (by omega)]) ?_
  refine lv_aload_n hx hb dL_law_149 rfl (lv_at hl 0 rfl) ?_
  refine lv_iload_n hx hb dL_law_150 rfl (lv_at hl 3 rfl) ?_
  refine lv_iconst (v := nI 4) hx hb dL_law_151 (by decide) ?_
  refine lv_iadd hx hb dL_law_152 ?_
  refine tp_i (nI_add _ _) ?_
  refine va_sld hx hb hX hbl hbA hS (vp_in_nI (by omega) (by omega)) dL_law_153 ?_
  refine tp_i (show _ = xs (6 * i + 4) by rw [nI_clamp (by omega)]) ?_
  refine lv_aload_n hx hb dL_law_154 rfl (lv_at hl 0 rfl) ?_
  refine lv_iload_n hx hb dL_law_155 rfl (lv_at hl 3 rfl) ?_
  refine lv_iconst (v := nI 5) hx hb dL_law_156 (by decide) ?_
  refine lv_iadd hx hb dL_law_157 ?_
  refine tp_i (nI_add _ _) ?_
  refine va_sld hx hb hX hbl hbA hS (vp_in_nI (by omega) (by omega)) dL_law_158 ?_
  refine tp_i (show _ = xs (6 * i + 5) by rw [nI_clamp (by omega)]) ?_
  refine cW_i (va_runV ⟨hx, hb, hml, hown, hts⟩ (c_game l E ad g hz n mk (fun j => nI (td j)) gr cf ce ck rv st wo (wM E am g hz n kd ch tm tx lm (fun j => nI (td j)) mk bs nw th pd ++ gm) hn (xs (6 * i + 1)) (xs (6 * i + 2)) (xs (6 * i + 3)) (xs (6 * i + 4)) (xs (6 * i + 5)) _) (cwV 5 hts gL_law_X4_game rfl rfl rfl (by decide +kernel) ⟨Nat.le_of_ble_eq_true rfl, Nat.le_of_ble_eq_true rfl⟩) (ePw_V hP hD hE (ci := 4) (k := 0) rfl rfl) rfl rfl hl.1 rfl (lv_room (Nat.le_of_ble_eq_true rfl)) dL_law_159 ⟨by show _ ≤ 600000; omega, by show _ ≤ 7302250; omega⟩) hS hD hA (fun ra ws9 H locs hr9 hP hD hS => ?_)
  rcases hr9 with ⟨hno, rfl, rfl⟩ | ⟨hex, hn4, rfl, rfl⟩ | ⟨d, q, b9, hd, hn4, rfl, rfl⟩
  · skip
    have hP := vP_rot hP
    have hD := vD_rot hD
    refine lv_aload_n hx hb dL_law_162 rfl (lv_at hl 2 rfl) ?_
    refine lv_aload_n hx hb dL_law_163 rfl (lv_at hl 0 rfl) ?_
    refine lv_iload_n hx hb dL_law_164 rfl (lv_at hl 3 rfl) ?_
    refine lv_iconst (v := nI 1) hx hb dL_law_165 (by decide) ?_
    refine lv_iadd hx hb dL_law_166 ?_
    refine tp_i (nI_add _ _) ?_
    refine va_sld hx hb hX hbl hbA hS (vp_in_nI (by omega) (by omega)) dL_law_167 ?_
    refine tp_i (show _ = xs (6 * i + 1) by rw [nI_clamp (by omega)]) ?_
    refine lv_aload_n hx hb dL_law_168 rfl (lv_at hl 0 rfl) ?_
    refine lv_iload_n hx hb dL_law_169 rfl (lv_at hl 3 rfl) ?_
    refine lv_iconst (v := nI 2) hx hb dL_law_170 (by decide) ?_
    refine lv_iadd hx hb dL_law_171 ?_
    refine tp_i (nI_add _ _) ?_
    refine va_sld hx hb hX hbl hbA hS (vp_in_nI (by omega) (by omega)) dL_law_172 ?_
    refine tp_i (show _ = xs (6 * i + 2) by rw [nI_clamp (by omega)]) ?_
    refine lv_aload_n hx hb dL_law_173 rfl (lv_at hl 0 rfl) ?_
    refine lv_iload_n hx hb dL_law_174 rfl (lv_at hl 3 rfl) ?_
    refine lv_iconst (v := nI 3) hx hb dL_law_175 (by decide) ?_
    refine lv_iadd hx hb dL_law_176 ?_
    refine tp_i (nI_add _ _) ?_
    refine va_sld hx hb hX hbl hbA hS (vp_in_nI (by omega) (by omega)) dL_law_177 ?_
    refine tp_i (show _ = xs (6 * i + 3) by rw [nI_clamp (by omega)]) ?_
    refine lv_aload_n hx hb dL_law_178 rfl (lv_at hl 0 rfl) ?_
    refine lv_iload_n hx hb dL_law_179 rfl (lv_at hl 3 rfl) ?_
    refine lv_iconst (v := nI 4) hx hb dL_law_180 (by decide) ?_
    refine lv_iadd hx hb dL_law_181 ?_
    refine tp_i (nI_add _ _) ?_
    refine va_sld hx hb hX hbl hbA hS (vp_in_nI (by omega) (by omega)) dL_law_182 ?_
    refine tp_i (show _ = xs (6 * i + 4) by rw [nI_clamp (by omega)]) ?_
    refine lv_aload_n hx hb dL_law_183 rfl (lv_at hl 0 rfl) ?_
    refine lv_iload_n hx hb dL_law_184 rfl (lv_at hl 3 rfl) ?_
    refine lv_iconst (v := nI 5) hx hb dL_law_185 (by decide) ?_
    refine lv_iadd hx hb dL_law_186 ?_
    refine tp_i (nI_add _ _) ?_
    refine va_sld hx hb hX hbl hbA hS (vp_in_nI (by omega) (by omega)) dL_law_187 ?_
    refine tp_i (show _ = xs (6 * i + 5) by rw [nI_clamp (by omega)]) ?_
    refine cW_i (va_runV ⟨hx, hb, hml, hown, hts⟩ (m_game l E am g hz n kd ch tm tx lm (fun j => nI (td j)) mk bs nw th pd (gm ++ (wX E ad g hz n mk (fun j => nI (td j)) gr cf ce ck rv st wo)) hn (xs (6 * i + 1)) (xs (6 * i + 2)) (xs (6 * i + 3)) (xs (6 * i + 4)) (xs (6 * i + 5)) _) (cwV 5 hts gL_law_X5_game rfl rfl rfl (by decide +kernel) ⟨Nat.le_of_ble_eq_true rfl, Nat.le_of_ble_eq_true rfl⟩) (ePw_V hP hD hE (ci := 5) (k := 0) rfl rfl) rfl rfl hl.1 rfl (lv_room (Nat.le_of_ble_eq_true rfl)) dL_law_188 ⟨by show _ ≤ 600000; omega, by show _ ≤ 7302250; omega⟩) hS hD hA (fun rb ws9 H locs hr9 hP hD hS => ?_)
    rcases hr9 with ⟨hno2, rfl, rfl⟩ | ⟨hex2, hn5, rfl, rfl⟩ | ⟨hex2, hn5, rfl, rfl⟩
    · skip
      have hP := vP_rot (vP_rot hP)
      have hD := vD_rot (vD_rot hD)
      refine lv_icmp_eq (tgt := 574) hx hb dL_law_191 (by decide) (fun c9 => ?_) (fun c9 => absurd rfl c9)
      refine W.widen (k := cA + 2) (n := sA + 38) (by omega) (by omega) ?_
      exact K _ _ _ ⟨ad, am, g, hz, n, mk, td, gr, cf, ce, ck, rv, st, wo, kd, ch, tm, tx, lm, bs, nw, th, pd, ga, gb, gd, gm, F, hP, hD, hS, hl⟩
    · skip
      exact absurd hex2 hno
    · skip
      exact absurd hex2 hno
  · skip
    have hP := vP_rot hP
    have hD := vD_rot hD
    refine lv_aload_n hx hb dL_law_162 rfl (lv_at hl 2 rfl) ?_
    refine lv_aload_n hx hb dL_law_163 rfl (lv_at hl 0 rfl) ?_
    refine lv_iload_n hx hb dL_law_164 rfl (lv_at hl 3 rfl) ?_
    refine lv_iconst (v := nI 1) hx hb dL_law_165 (by decide) ?_
    refine lv_iadd hx hb dL_law_166 ?_
    refine tp_i (nI_add _ _) ?_
    refine va_sld hx hb hX hbl hbA hS (vp_in_nI (by omega) (by omega)) dL_law_167 ?_
    refine tp_i (show _ = xs (6 * i + 1) by rw [nI_clamp (by omega)]) ?_
    refine lv_aload_n hx hb dL_law_168 rfl (lv_at hl 0 rfl) ?_
    refine lv_iload_n hx hb dL_law_169 rfl (lv_at hl 3 rfl) ?_
    refine lv_iconst (v := nI 2) hx hb dL_law_170 (by decide) ?_
    refine lv_iadd hx hb dL_law_171 ?_
    refine tp_i (nI_add _ _) ?_
    refine va_sld hx hb hX hbl hbA hS (vp_in_nI (by omega) (by omega)) dL_law_172 ?_
    refine tp_i (show _ = xs (6 * i + 2) by rw [nI_clamp (by omega)]) ?_
    refine lv_aload_n hx hb dL_law_173 rfl (lv_at hl 0 rfl) ?_
    refine lv_iload_n hx hb dL_law_174 rfl (lv_at hl 3 rfl) ?_
    refine lv_iconst (v := nI 3) hx hb dL_law_175 (by decide) ?_
    refine lv_iadd hx hb dL_law_176 ?_
    refine tp_i (nI_add _ _) ?_
    refine va_sld hx hb hX hbl hbA hS (vp_in_nI (by omega) (by omega)) dL_law_177 ?_
    refine tp_i (show _ = xs (6 * i + 3) by rw [nI_clamp (by omega)]) ?_
    refine lv_aload_n hx hb dL_law_178 rfl (lv_at hl 0 rfl) ?_
    refine lv_iload_n hx hb dL_law_179 rfl (lv_at hl 3 rfl) ?_
    refine lv_iconst (v := nI 4) hx hb dL_law_180 (by decide) ?_
    refine lv_iadd hx hb dL_law_181 ?_
    refine tp_i (nI_add _ _) ?_
    refine va_sld hx hb hX hbl hbA hS (vp_in_nI (by omega) (by omega)) dL_law_182 ?_
    refine tp_i (show _ = xs (6 * i + 4) by rw [nI_clamp (by omega)]) ?_
    refine lv_aload_n hx hb dL_law_183 rfl (lv_at hl 0 rfl) ?_
    refine lv_iload_n hx hb dL_law_184 rfl (lv_at hl 3 rfl) ?_
    refine lv_iconst (v := nI 5) hx hb dL_law_185 (by decide) ?_
    refine lv_iadd hx hb dL_law_186 ?_
    refine tp_i (nI_add _ _) ?_
    refine va_sld hx hb hX hbl hbA hS (vp_in_nI (by omega) (by omega)) dL_law_187 ?_
    refine tp_i (show _ = xs (6 * i + 5) by rw [nI_clamp (by omega)]) ?_
    refine cW_i (va_runV ⟨hx, hb, hml, hown, hts⟩ (m_game l E am g hz n kd ch tm tx lm (fun j => nI (td j)) mk bs nw th pd (gm ++ (wX E ad g hz n mk (fun j => nI (td j)) gr cf ce ck rv st wo)) hn (xs (6 * i + 1)) (xs (6 * i + 2)) (xs (6 * i + 3)) (xs (6 * i + 4)) (xs (6 * i + 5)) _) (cwV 5 hts gL_law_X5_game rfl rfl rfl (by decide +kernel) ⟨Nat.le_of_ble_eq_true rfl, Nat.le_of_ble_eq_true rfl⟩) (ePw_V hP hD hE (ci := 5) (k := 0) rfl rfl) rfl rfl hl.1 rfl (lv_room (Nat.le_of_ble_eq_true rfl)) dL_law_188 ⟨by show _ ≤ 600000; omega, by show _ ≤ 7302250; omega⟩) hS hD hA (fun rb ws9 H locs hr9 hP hD hS => ?_)
    rcases hr9 with ⟨hno2, rfl, rfl⟩ | ⟨hex2, hn5, rfl, rfl⟩ | ⟨hex2, hn5, rfl, rfl⟩
    · skip
      exact absurd hex hno2
    · skip
      have hP := vP_rot (vP_rot hP)
      have hD := vD_rot (vD_rot hD)
      refine lv_icmp_eq (tgt := 574) hx hb dL_law_191 (by decide) (fun c9 => ?_) (fun c9 => absurd rfl c9)
      refine W.widen (k := cA + 2) (n := sA + 38) (by omega) (by omega) ?_
      exact K _ _ _ ⟨ad, am, g, hz, n, mk, td, gr, cf, ce, ck, rv, st, wo, kd, ch, tm, tx, lm, bs, nw, th, pd, ga, gb, gd, gm, F, hP, hD, hS, hl⟩
    · skip
      exact absurd hn4 (by omega)
  · skip
    rw [List.append_assoc] at hP hD
    have hP := vP_rot hP
    have hD := vD_rot hD
    refine lv_aload_n hx hb dL_law_162 rfl (lv_at hl 2 rfl) ?_
    refine lv_aload_n hx hb dL_law_163 rfl (lv_at hl 0 rfl) ?_
    refine lv_iload_n hx hb dL_law_164 rfl (lv_at hl 3 rfl) ?_
    refine lv_iconst (v := nI 1) hx hb dL_law_165 (by decide) ?_
    refine lv_iadd hx hb dL_law_166 ?_
    refine tp_i (nI_add _ _) ?_
    refine va_sld hx hb hX hbl hbA hS (vp_in_nI (by omega) (by omega)) dL_law_167 ?_
    refine tp_i (show _ = xs (6 * i + 1) by rw [nI_clamp (by omega)]) ?_
    refine lv_aload_n hx hb dL_law_168 rfl (lv_at hl 0 rfl) ?_
    refine lv_iload_n hx hb dL_law_169 rfl (lv_at hl 3 rfl) ?_
    refine lv_iconst (v := nI 2) hx hb dL_law_170 (by decide) ?_
    refine lv_iadd hx hb dL_law_171 ?_
    refine tp_i (nI_add _ _) ?_
    refine va_sld hx hb hX hbl hbA hS (vp_in_nI (by omega) (by omega)) dL_law_172 ?_
    refine tp_i (show _ = xs (6 * i + 2) by rw [nI_clamp (by omega)]) ?_
    refine lv_aload_n hx hb dL_law_173 rfl (lv_at hl 0 rfl) ?_
    refine lv_iload_n hx hb dL_law_174 rfl (lv_at hl 3 rfl) ?_
    refine lv_iconst (v := nI 3) hx hb dL_law_175 (by decide) ?_
    refine lv_iadd hx hb dL_law_176 ?_
    refine tp_i (nI_add _ _) ?_
    refine va_sld hx hb hX hbl hbA hS (vp_in_nI (by omega) (by omega)) dL_law_177 ?_
    refine tp_i (show _ = xs (6 * i + 3) by rw [nI_clamp (by omega)]) ?_
    refine lv_aload_n hx hb dL_law_178 rfl (lv_at hl 0 rfl) ?_
    refine lv_iload_n hx hb dL_law_179 rfl (lv_at hl 3 rfl) ?_
    refine lv_iconst (v := nI 4) hx hb dL_law_180 (by decide) ?_
    refine lv_iadd hx hb dL_law_181 ?_
    refine tp_i (nI_add _ _) ?_
    refine va_sld hx hb hX hbl hbA hS (vp_in_nI (by omega) (by omega)) dL_law_182 ?_
    refine tp_i (show _ = xs (6 * i + 4) by rw [nI_clamp (by omega)]) ?_
    refine lv_aload_n hx hb dL_law_183 rfl (lv_at hl 0 rfl) ?_
    refine lv_iload_n hx hb dL_law_184 rfl (lv_at hl 3 rfl) ?_
    refine lv_iconst (v := nI 5) hx hb dL_law_185 (by decide) ?_
    refine lv_iadd hx hb dL_law_186 ?_
    refine tp_i (nI_add _ _) ?_
    refine va_sld hx hb hX hbl hbA hS (vp_in_nI (by omega) (by omega)) dL_law_187 ?_
    refine tp_i (show _ = xs (6 * i + 5) by rw [nI_clamp (by omega)]) ?_
    refine cW_i (va_runV ⟨hx, hb, hml, hown, hts⟩ (m_game l E am g hz n kd ch tm tx lm (fun j => nI (td j)) mk bs nw th pd ((gm ++ [(q, gmE d b9), (b9, gnE E d)]) ++ (wX E ad g hz (n + 1) mk (fun j => nI (td j)) (va_up gr n (some q)) cf ce (fun _ => 0) rv st wo)) hn (xs (6 * i + 1)) (xs (6 * i + 2)) (xs (6 * i + 3)) (xs (6 * i + 4)) (xs (6 * i + 5)) _) (cwV 5 hts gL_law_X5_game rfl rfl rfl (by decide +kernel) ⟨Nat.le_of_ble_eq_true rfl, Nat.le_of_ble_eq_true rfl⟩) (ePw_V hP hD hE (ci := 5) (k := 0) rfl rfl) rfl rfl hl.1 rfl (lv_room (Nat.le_of_ble_eq_true rfl)) dL_law_188 ⟨by show _ ≤ 600000; omega, by show _ ≤ 7302250; omega⟩) hS hD hA (fun rb ws9 H locs hr9 hP hD hS => ?_)
    rcases hr9 with ⟨hno2, rfl, rfl⟩ | ⟨hex2, hn5, rfl, rfl⟩ | ⟨hex2, hn5, rfl, rfl⟩
    · skip
      exact absurd ⟨d, hd⟩ hno2
    · skip
      exact absurd hn4 (by omega)
    · skip
      have hP := vP_rot (vP_rot hP)
      have hD := vD_rot (vD_rot hD)
      refine lv_icmp_eq (tgt := 574) hx hb dL_law_191 (by decide) (fun c9 => ?_) (fun c9 => absurd rfl c9)
      refine W.widen (k := cA + 2) (n := sA + 38) (by omega) (by omega) ?_
      exact K _ _ _ ⟨ad, am, g, hz, n + 1, mk, td, va_up gr n (some q), cf, ce, fun _ => 0, rv, st, wo, upd kd n (xs (6 * i + 1)), upd ch n (xs (6 * i + 2)), upd tm n (xs (6 * i + 3)), upd tx n (xs (6 * i + 4)), upd lm n (xs (6 * i + 5)), bs, nw, th, pd, va_up ga n q, va_up gb n b9, va_up gd n d, (gm ++ [(q, gmE d b9), (b9, gnE E d)]), (game_out F hn4 hd), hP, hD, hS, hl⟩
set_option maxHeartbeats 4000000 in
set_option maxRecDepth 100000 in
/-- drop -/
theorem law_c2 {p : Program} {l : Launch} {e : Env} {s : State} {m : MethodId} {below : List Frame} {meth : Method} {c : Code} {b L : Nat} {xs : Nat → Int32} (C0 : lw_At p s m meth c b L xs) {E : eT} (hE : eEv E s) {i : Nat} (hi : 6 * i + 6 ≤ L) (hL : L ≤ 3072) {cA sA : Nat} (hcA : cA + 2 ≤ 600000) (hsA : sA + 38 ≤ 7302250) (K : ∀ (H : Heap) (locs : List Loc) (ls : Array Slot), LI E s b i H locs ls → W p l e room_1 s m #[Value.ref b] below meth c H locs (cA + 2) (sA + 38) (lw_Z below #[Value.ref b] s) (F0 m 574 ls [])) {H : Heap} {locs : List Loc} {ls : Array Slot} (hI : LI E s b i H locs ls) : W p l e room_1 s m #[Value.ref b] below meth c H locs cA sA (lw_Z below #[Value.ref b] s) (F0 m 196 ls []) := by
  obtain ⟨hx, hb, hr, hml, hown, hts, hX, hbl, hlocks, hgv⟩ := C0
  have hts : ∀ w ∈ wsL_law, w.before #[Value.ref b] s = true := fun w h => hts w (wsL_law_in w h)
  have hown : s.vm.findClass RL = some m.cls := hown
  have hA : ∀ q : Nat, s.heap.size ≤ q → (fun q : Nat => s.heap.size ≤ q) q := fun _ h => h
  have hbA : ¬ (fun q : Nat => s.heap.size ≤ q) b := Nat.not_le.mpr hbl
  obtain ⟨ad, am, g, hz, n, mk, td, gr, cf, ce, ck, rv, st, wo, kd, ch, tm, tx, lm, bs, nw, th, pd, ga, gb, gd, gm, F, hP, hD, hS, hl⟩ := hI
  obtain ⟨hg2, hg32, hhz, hn, htd2, hV, hGA, hM, hgl⟩ := id F
  refine lv_aload_n hx hb dL_law_196 rfl (lv_at hl 1 rfl) ?_
  refine cW_i (va_runV ⟨hx, hb, hml, hown, hts⟩ (c_drop l E ad g hz n mk (fun j => nI (td j)) gr cf ce ck rv st wo (wM E am g hz n kd ch tm tx lm (fun j => nI (td j)) mk bs nw th pd ++ gm) hn _) (cwV 0 hts gL_law_X4_drop rfl rfl rfl (by decide +kernel) ⟨Nat.le_of_ble_eq_true rfl, Nat.le_of_ble_eq_true rfl⟩) (ePw_V hP hD hE (ci := 4) (k := 0) rfl rfl) rfl rfl hl.1 rfl (lv_room (Nat.le_of_ble_eq_true rfl)) dL_law_197 ⟨by show _ ≤ 600000; omega, by show _ ≤ 7302250; omega⟩) hS hD hA (fun ra ws9 H locs hr9 hP hD hS => ?_)
  rcases hr9 with ⟨h0, rfl, rfl⟩ | ⟨h0, rfl, rfl⟩
  · skip
    have hP := vP_rot hP
    have hD := vD_rot hD
    refine lv_aload_n hx hb dL_law_200 rfl (lv_at hl 2 rfl) ?_
    refine cW_i (va_runV ⟨hx, hb, hml, hown, hts⟩ (m_drop l E am g hz n kd ch tm tx lm (fun j => nI (td j)) mk bs nw th pd (gm ++ (wX E ad g hz n mk (fun j => nI (td j)) gr cf ce ck rv st wo)) hn _) (cwV 0 hts gL_law_X5_drop rfl rfl rfl (by decide +kernel) ⟨Nat.le_of_ble_eq_true rfl, Nat.le_of_ble_eq_true rfl⟩) (ePw_V hP hD hE (ci := 5) (k := 0) rfl rfl) rfl rfl hl.1 rfl (lv_room (Nat.le_of_ble_eq_true rfl)) dL_law_201 ⟨by show _ ≤ 600000; omega, by show _ ≤ 7302250; omega⟩) hS hD hA (fun rb ws9 H locs hr9 hP hD hS => ?_)
    rcases hr9 with ⟨h1, rfl, rfl⟩ | ⟨h1, rfl, rfl⟩
    · skip
      have hP := vP_rot (vP_rot hP)
      have hD := vD_rot (vD_rot hD)
      refine lv_icmp_eq (tgt := 574) hx hb dL_law_204 (by decide) (fun c9 => ?_) (fun c9 => absurd rfl c9)
      refine W.widen (k := cA + 2) (n := sA + 38) (by omega) (by omega) ?_
      exact K _ _ _ ⟨ad, am, g, hz, n, mk, td, gr, cf, ce, ck, rv, st, wo, kd, ch, tm, tx, lm, bs, nw, th, pd, ga, gb, gd, gm, F, hP, hD, hS, hl⟩
    · skip
      exact absurd h0 (by omega)
  · skip
    have hP := vP_rot hP
    have hD := vD_rot hD
    refine lv_aload_n hx hb dL_law_200 rfl (lv_at hl 2 rfl) ?_
    refine cW_i (va_runV ⟨hx, hb, hml, hown, hts⟩ (m_drop l E am g hz n kd ch tm tx lm (fun j => nI (td j)) mk bs nw th pd (gm ++ (wX E ad g hz (n - 1) mk (fun j => nI (td j)) (va_up gr (n - 1) none) cf ce (fun _ => 0) rv st wo)) hn _) (cwV 0 hts gL_law_X5_drop rfl rfl rfl (by decide +kernel) ⟨Nat.le_of_ble_eq_true rfl, Nat.le_of_ble_eq_true rfl⟩) (ePw_V hP hD hE (ci := 5) (k := 0) rfl rfl) rfl rfl hl.1 rfl (lv_room (Nat.le_of_ble_eq_true rfl)) dL_law_201 ⟨by show _ ≤ 600000; omega, by show _ ≤ 7302250; omega⟩) hS hD hA (fun rb ws9 H locs hr9 hP hD hS => ?_)
    rcases hr9 with ⟨h1, rfl, rfl⟩ | ⟨h1, rfl, rfl⟩
    · skip
      exact absurd h0 (by omega)
    · skip
      have hP := vP_rot (vP_rot hP)
      have hD := vD_rot (vD_rot hD)
      have hP := take_P (k := 2 * (n - 1)) hP
      have hD := take_D (k := 2 * (n - 1)) hD
      refine lv_icmp_eq (tgt := 574) hx hb dL_law_204 (by decide) (fun c9 => ?_) (fun c9 => absurd rfl c9)
      refine W.widen (k := cA + 2) (n := sA + 38) (by omega) (by omega) ?_
      exact K _ _ _ ⟨ad, am, g, hz, n - 1, mk, td, va_up gr (n - 1) none, cf, ce, fun _ => 0, rv, st, wo, kd, ch, tm, tx, lm, bs, nw, th, pd, ga, gb, gd, gm.take (2 * (n - 1)), (drop_out F h0), hP, hD, hS, hl⟩
set_option maxHeartbeats 4000000 in
set_option maxRecDepth 100000 in
/-- win -/
theorem law_c3 {p : Program} {l : Launch} {e : Env} {s : State} {m : MethodId} {below : List Frame} {meth : Method} {c : Code} {b L : Nat} {xs : Nat → Int32} (C0 : lw_At p s m meth c b L xs) {E : eT} (hE : eEv E s) {i : Nat} (hi : 6 * i + 6 ≤ L) (hL : L ≤ 3072) {cA sA : Nat} (hcA : cA + 2 ≤ 600000) (hsA : sA + 38 ≤ 7302250) (K : ∀ (H : Heap) (locs : List Loc) (ls : Array Slot), LI E s b i H locs ls → W p l e room_1 s m #[Value.ref b] below meth c H locs (cA + 2) (sA + 38) (lw_Z below #[Value.ref b] s) (F0 m 574 ls [])) {H : Heap} {locs : List Loc} {ls : Array Slot} (hI : LI E s b i H locs ls) : W p l e room_1 s m #[Value.ref b] below meth c H locs cA sA (lw_Z below #[Value.ref b] s) (F0 m 209 ls []) := by
  obtain ⟨hx, hb, hr, hml, hown, hts, hX, hbl, hlocks, hgv⟩ := C0
  have hts : ∀ w ∈ wsL_law, w.before #[Value.ref b] s = true := fun w h => hts w (wsL_law_in w h)
  have hown : s.vm.findClass RL = some m.cls := hown
  have hA : ∀ q : Nat, s.heap.size ≤ q → (fun q : Nat => s.heap.size ≤ q) q := fun _ h => h
  have hbA : ¬ (fun q : Nat => s.heap.size ≤ q) b := Nat.not_le.mpr hbl
  obtain ⟨ad, am, g, hz, n, mk, td, gr, cf, ce, ck, rv, st, wo, kd, ch, tm, tx, lm, bs, nw, th, pd, ga, gb, gd, gm, F, hP, hD, hS, hl⟩ := hI
  obtain ⟨hg2, hg32, hhz, hn, htd2, hV, hGA, hM, hgl⟩ := id F
  refine lv_aload_n hx hb dL_law_209 rfl (lv_at hl 1 rfl) ?_
  refine lv_aload_n hx hb dL_law_210 rfl (lv_at hl 0 rfl) ?_
  refine lv_iload_n hx hb dL_law_211 rfl (lv_at hl 3 rfl) ?_
  refine lv_iconst (v := nI 1) hx hb dL_law_212 (by decide) ?_
  refine lv_iadd hx hb dL_law_213 ?_
  refine tp_i (nI_add _ _) ?_
  refine va_sld hx hb hX hbl hbA hS (vp_in_nI (by omega) (by omega)) dL_law_214 ?_
  refine tp_i (show _ = xs (6 * i + 1) by rw [nI_clamp (by omega)]) ?_
  refine lv_aload_n hx hb dL_law_215 rfl (lv_at hl 0 rfl) ?_
  refine lv_iload_n hx hb dL_law_216 rfl (lv_at hl 3 rfl) ?_
  refine lv_iconst (v := nI 2) hx hb dL_law_217 (by decide) ?_
  refine lv_iadd hx hb dL_law_218 ?_
  refine tp_i (nI_add _ _) ?_
  refine va_sld hx hb hX hbl hbA hS (vp_in_nI (by omega) (by omega)) dL_law_219 ?_
  refine tp_i (show _ = xs (6 * i + 2) by rw [nI_clamp (by omega)]) ?_
  refine cW_i (va_runV ⟨hx, hb, hml, hown, hts⟩ (c_win l E ad g hz n mk (fun j => nI (td j)) gr cf ce ck rv st wo (wM E am g hz n kd ch tm tx lm (fun j => nI (td j)) mk bs nw th pd ++ gm) hn (fun i => 10 + 2 * i) ga gb gd (gAll_m hGA) (xs (6 * i + 1)) (xs (6 * i + 2)) _) (cwV 2 hts gL_law_X4_win rfl rfl rfl (by decide +kernel) ⟨Nat.le_of_ble_eq_true rfl, Nat.le_of_ble_eq_true rfl⟩) (ePw_V hP hD hE (ci := 4) (k := 0) rfl rfl) rfl rfl hl.1 rfl (lv_room (Nat.le_of_ble_eq_true rfl)) dL_law_220 ⟨by show _ ≤ 600000; omega, by show _ ≤ 7302250; omega⟩) hS hD hA (fun ra ws9 H locs hr9 hP hD hS => ?_)
  obtain ⟨mk1, hs1, rfl⟩ := hr9
  have hP := vP_rot hP
  have hD := vD_rot hD
  refine lv_aload_n hx hb dL_law_223 rfl (lv_at hl 2 rfl) ?_
  refine lv_aload_n hx hb dL_law_224 rfl (lv_at hl 0 rfl) ?_
  refine lv_iload_n hx hb dL_law_225 rfl (lv_at hl 3 rfl) ?_
  refine lv_iconst (v := nI 1) hx hb dL_law_226 (by decide) ?_
  refine lv_iadd hx hb dL_law_227 ?_
  refine tp_i (nI_add _ _) ?_
  refine va_sld hx hb hX hbl hbA hS (vp_in_nI (by omega) (by omega)) dL_law_228 ?_
  refine tp_i (show _ = xs (6 * i + 1) by rw [nI_clamp (by omega)]) ?_
  refine lv_aload_n hx hb dL_law_229 rfl (lv_at hl 0 rfl) ?_
  refine lv_iload_n hx hb dL_law_230 rfl (lv_at hl 3 rfl) ?_
  refine lv_iconst (v := nI 2) hx hb dL_law_231 (by decide) ?_
  refine lv_iadd hx hb dL_law_232 ?_
  refine tp_i (nI_add _ _) ?_
  refine va_sld hx hb hX hbl hbA hS (vp_in_nI (by omega) (by omega)) dL_law_233 ?_
  refine tp_i (show _ = xs (6 * i + 2) by rw [nI_clamp (by omega)]) ?_
  refine cW_i (va_runV ⟨hx, hb, hml, hown, hts⟩ (m_win l E am g hz n kd ch tm tx lm (fun j => nI (td j)) mk bs nw th pd (gm ++ (wX E ad g hz n mk1 (fun j => nI (td j)) gr cf ce ck rv st wo)) hn gd hM (xs (6 * i + 1)) (xs (6 * i + 2)) _) (cwV 2 hts gL_law_X5_win rfl rfl rfl (by decide +kernel) ⟨Nat.le_of_ble_eq_true rfl, Nat.le_of_ble_eq_true rfl⟩) (ePw_V hP hD hE (ci := 5) (k := 0) rfl rfl) rfl rfl hl.1 rfl (lv_room (Nat.le_of_ble_eq_true rfl)) dL_law_234 ⟨by show _ ≤ 600000; omega, by show _ ≤ 7302250; omega⟩) hS hD hA (fun rb ws9 H locs hr9 hP hD hS => ?_)
  obtain ⟨mk2, hs2, rfl⟩ := hr9
  have hP := vP_rot (vP_rot hP)
  have hD := vD_rot (vD_rot hD)
  obtain ⟨rfl, rfl⟩ := win_det hn hs1 hs2
  refine lv_icmp_eq (tgt := 574) hx hb dL_law_237 (by decide) (fun c9 => ?_) (fun c9 => absurd rfl c9)
  refine W.widen (k := cA + 2) (n := sA + 38) (by omega) (by omega) ?_
  exact K _ _ _ ⟨ad, am, g, hz, n, mk2, td, gr, cf, ce, ck, rv, st, wo, kd, ch, tm, tx, lm, bs, nw, th, pd, ga, gb, gd, gm, F, hP, hD, hS, hl⟩
set_option maxHeartbeats 4000000 in
set_option maxRecDepth 100000 in
/-- best -/
theorem law_c4 {p : Program} {l : Launch} {e : Env} {s : State} {m : MethodId} {below : List Frame} {meth : Method} {c : Code} {b L : Nat} {xs : Nat → Int32} (C0 : lw_At p s m meth c b L xs) {E : eT} (hE : eEv E s) {i : Nat} (hi : 6 * i + 6 ≤ L) (hL : L ≤ 3072) {cA sA : Nat} (hcA : cA + 2 ≤ 600000) (hsA : sA + 38 ≤ 7302250) (K : ∀ (H : Heap) (locs : List Loc) (ls : Array Slot), LI E s b i H locs ls → W p l e room_1 s m #[Value.ref b] below meth c H locs (cA + 2) (sA + 38) (lw_Z below #[Value.ref b] s) (F0 m 574 ls [])) {H : Heap} {locs : List Loc} {ls : Array Slot} (hI : LI E s b i H locs ls) : W p l e room_1 s m #[Value.ref b] below meth c H locs cA sA (lw_Z below #[Value.ref b] s) (F0 m 242 ls []) := by
  obtain ⟨hx, hb, hr, hml, hown, hts, hX, hbl, hlocks, hgv⟩ := C0
  have hts : ∀ w ∈ wsL_law, w.before #[Value.ref b] s = true := fun w h => hts w (wsL_law_in w h)
  have hown : s.vm.findClass RL = some m.cls := hown
  have hA : ∀ q : Nat, s.heap.size ≤ q → (fun q : Nat => s.heap.size ≤ q) q := fun _ h => h
  have hbA : ¬ (fun q : Nat => s.heap.size ≤ q) b := Nat.not_le.mpr hbl
  obtain ⟨ad, am, g, hz, n, mk, td, gr, cf, ce, ck, rv, st, wo, kd, ch, tm, tx, lm, bs, nw, th, pd, ga, gb, gd, gm, F, hP, hD, hS, hl⟩ := hI
  obtain ⟨hg2, hg32, hhz, hn, htd2, hV, hGA, hM, hgl⟩ := id F
  refine lv_aload_n hx hb dL_law_242 rfl (lv_at hl 1 rfl) ?_
  refine lv_aload_n hx hb dL_law_243 rfl (lv_at hl 0 rfl) ?_
  refine lv_iload_n hx hb dL_law_244 rfl (lv_at hl 3 rfl) ?_
  refine lv_iconst (v := nI 1) hx hb dL_law_245 (by decide) ?_
  refine lv_iadd hx hb dL_law_246 ?_
  refine tp_i (nI_add _ _) ?_
  refine va_sld hx hb hX hbl hbA hS (vp_in_nI (by omega) (by omega)) dL_law_247 ?_
  refine tp_i (show _ = xs (6 * i + 1) by rw [nI_clamp (by omega)]) ?_
  refine lv_aload_n hx hb dL_law_248 rfl (lv_at hl 0 rfl) ?_
  refine lv_iload_n hx hb dL_law_249 rfl (lv_at hl 3 rfl) ?_
  refine lv_iconst (v := nI 2) hx hb dL_law_250 (by decide) ?_
  refine lv_iadd hx hb dL_law_251 ?_
  refine tp_i (nI_add _ _) ?_
  refine va_sld hx hb hX hbl hbA hS (vp_in_nI (by omega) (by omega)) dL_law_252 ?_
  refine tp_i (show _ = xs (6 * i + 2) by rw [nI_clamp (by omega)]) ?_
  refine cW_l (va_runV ⟨hx, hb, hml, hown, hts⟩ (c_best l E ad g hz n mk (fun j => nI (td j)) gr cf ce ck rv st wo (wM E am g hz n kd ch tm tx lm (fun j => nI (td j)) mk bs nw th pd ++ gm) hg2 hg32 hhz hn (fun i => 10 + 2 * i) ga gb gd (gAll_m hGA) hV (xs (6 * i + 1)) (xs (6 * i + 2)) _) (cwV 2 hts gL_law_X4_best rfl rfl rfl (by decide +kernel) ⟨Nat.le_of_ble_eq_true rfl, Nat.le_of_ble_eq_true rfl⟩) (ePw_V hP hD hE (ci := 4) (k := 0) rfl rfl) rfl rfl hl.1 rfl (lv_room (Nat.le_of_ble_eq_true rfl)) dL_law_253 ⟨by show _ ≤ 600000; omega, by show _ ≤ 7302250; omega⟩) hS hD hA (fun ra ws9 H locs hr9 hP hD hS => ?_)
  obtain ⟨hs1, cf1, ce1, ck1, rv1, hV1, rfl⟩ := hr9
  have hP := vP_rot hP
  have hD := vD_rot hD
  refine lv_aload_n hx hb dL_law_256 rfl (lv_at hl 2 rfl) ?_
  refine lv_aload_n hx hb dL_law_257 rfl (lv_at hl 0 rfl) ?_
  refine lv_iload_n hx hb dL_law_258 rfl (lv_at hl 3 rfl) ?_
  refine lv_iconst (v := nI 1) hx hb dL_law_259 (by decide) ?_
  refine lv_iadd hx hb dL_law_260 ?_
  refine tp_i (nI_add _ _) ?_
  refine va_sld hx hb hX hbl hbA hS (vp_in_nI (by omega) (by omega)) dL_law_261 ?_
  refine tp_i (show _ = xs (6 * i + 1) by rw [nI_clamp (by omega)]) ?_
  refine lv_aload_n hx hb dL_law_262 rfl (lv_at hl 0 rfl) ?_
  refine lv_iload_n hx hb dL_law_263 rfl (lv_at hl 3 rfl) ?_
  refine lv_iconst (v := nI 2) hx hb dL_law_264 (by decide) ?_
  refine lv_iadd hx hb dL_law_265 ?_
  refine tp_i (nI_add _ _) ?_
  refine va_sld hx hb hX hbl hbA hS (vp_in_nI (by omega) (by omega)) dL_law_266 ?_
  refine tp_i (show _ = xs (6 * i + 2) by rw [nI_clamp (by omega)]) ?_
  refine cW_l (va_runV ⟨hx, hb, hml, hown, hts⟩ (m_best l E am g hz n kd ch tm tx lm (fun j => nI (td j)) mk bs nw th pd (gm ++ (wX E ad g hz n mk (fun j => nI (td j)) gr cf1 ce1 ck1 rv1 st wo)) hn gd hM hg2 hg32 hhz (xs (6 * i + 1)) (xs (6 * i + 2)) _) (cwV 2 hts gL_law_X5_best rfl rfl rfl (by decide +kernel) ⟨Nat.le_of_ble_eq_true rfl, Nat.le_of_ble_eq_true rfl⟩) (ePw_V hP hD hE (ci := 5) (k := 0) rfl rfl) rfl rfl hl.1 rfl (lv_room (Nat.le_of_ble_eq_true rfl)) dL_law_267 ⟨by show _ ≤ 600000; omega, by show _ ≤ 7302250; omega⟩) hS hD hA (fun rb ws9 H locs hr9 hP hD hS => ?_)
  obtain ⟨hs2, bs1, rfl⟩ := hr9
  have hP := vP_rot (vP_rot hP)
  have hD := vD_rot (vD_rot hD)
  obtain rfl := bst_det hg32 hhz hs1 hs2
  refine W.lcmp hx hb dL_law_270 ?_
  refine lv_if_eq (tgt := 574) hx hb dL_law_271 (by decide) (fun c9 => ?_) (fun c9 => absurd ((lg_cmp_eq _ _).mpr rfl) c9)
  refine W.widen (k := cA + 2) (n := sA + 38) (by omega) (by omega) ?_
  exact K _ _ _ ⟨ad, am, g, hz, n, mk, td, gr, cf1, ce1, ck1, rv1, st, wo, kd, ch, tm, tx, lm, bs1, nw, th, pd, ga, gb, gd, gm, ⟨hg2, hg32, hhz, hn, htd2, hV1, hGA, hM, hgl⟩, hP, hD, hS, hl⟩
set_option maxHeartbeats 4000000 in
set_option maxRecDepth 100000 in
/-- mean -/
theorem law_c6 {p : Program} {l : Launch} {e : Env} {s : State} {m : MethodId} {below : List Frame} {meth : Method} {c : Code} {b L : Nat} {xs : Nat → Int32} (C0 : lw_At p s m meth c b L xs) {E : eT} (hE : eEv E s) {i : Nat} (hi : 6 * i + 6 ≤ L) (hL : L ≤ 3072) {cA sA : Nat} (hcA : cA + 2 ≤ 600000) (hsA : sA + 38 ≤ 7302250) (K : ∀ (H : Heap) (locs : List Loc) (ls : Array Slot), LI E s b i H locs ls → W p l e room_1 s m #[Value.ref b] below meth c H locs (cA + 2) (sA + 38) (lw_Z below #[Value.ref b] s) (F0 m 574 ls [])) {H : Heap} {locs : List Loc} {ls : Array Slot} (hI : LI E s b i H locs ls) : W p l e room_1 s m #[Value.ref b] below meth c H locs cA sA (lw_Z below #[Value.ref b] s) (F0 m 320 ls []) := by
  obtain ⟨hx, hb, hr, hml, hown, hts, hX, hbl, hlocks, hgv⟩ := C0
  have hts : ∀ w ∈ wsL_law, w.before #[Value.ref b] s = true := fun w h => hts w (wsL_law_in w h)
  have hown : s.vm.findClass RL = some m.cls := hown
  have hA : ∀ q : Nat, s.heap.size ≤ q → (fun q : Nat => s.heap.size ≤ q) q := fun _ h => h
  have hbA : ¬ (fun q : Nat => s.heap.size ≤ q) b := Nat.not_le.mpr hbl
  obtain ⟨ad, am, g, hz, n, mk, td, gr, cf, ce, ck, rv, st, wo, kd, ch, tm, tx, lm, bs, nw, th, pd, ga, gb, gd, gm, F, hP, hD, hS, hl⟩ := hI
  obtain ⟨hg2, hg32, hhz, hn, htd2, hV, hGA, hM, hgl⟩ := id F
  refine lv_aload_n hx hb dL_law_320 rfl (lv_at hl 1 rfl) ?_
  refine lv_aload_n hx hb dL_law_321 rfl (lv_at hl 0 rfl) ?_
  refine lv_iload_n hx hb dL_law_322 rfl (lv_at hl 3 rfl) ?_
  refine lv_iconst (v := nI 1) hx hb dL_law_323 (by decide) ?_
  refine lv_iadd hx hb dL_law_324 ?_
  refine tp_i (nI_add _ _) ?_
  refine va_sld hx hb hX hbl hbA hS (vp_in_nI (by omega) (by omega)) dL_law_325 ?_
  refine tp_i (show _ = xs (6 * i + 1) by rw [nI_clamp (by omega)]) ?_
  refine lv_aload_n hx hb dL_law_326 rfl (lv_at hl 0 rfl) ?_
  refine lv_iload_n hx hb dL_law_327 rfl (lv_at hl 3 rfl) ?_
  refine lv_iconst (v := nI 2) hx hb dL_law_328 (by decide) ?_
  refine lv_iadd hx hb dL_law_329 ?_
  refine tp_i (nI_add _ _) ?_
  refine va_sld hx hb hX hbl hbA hS (vp_in_nI (by omega) (by omega)) dL_law_330 ?_
  refine tp_i (show _ = xs (6 * i + 2) by rw [nI_clamp (by omega)]) ?_
  refine cW_l (va_runV ⟨hx, hb, hml, hown, hts⟩ (c_mean l E ad g hz n mk (fun j => nI (td j)) gr cf ce ck rv st wo (wM E am g hz n kd ch tm tx lm (fun j => nI (td j)) mk bs nw th pd ++ gm) hg2 hg32 hhz hn (fun i => 10 + 2 * i) ga gb gd (gAll_m hGA) hV (xs (6 * i + 1)) (xs (6 * i + 2)) _) (cwV 2 hts gL_law_X4_mean rfl rfl rfl (by decide +kernel) ⟨Nat.le_of_ble_eq_true rfl, Nat.le_of_ble_eq_true rfl⟩) (ePw_V hP hD hE (ci := 4) (k := 0) rfl rfl) rfl rfl hl.1 rfl (lv_room (Nat.le_of_ble_eq_true rfl)) dL_law_331 ⟨by show _ ≤ 600000; omega, by show _ ≤ 7302250; omega⟩) hS hD hA (fun ra ws9 H locs hr9 hP hD hS => ?_)
  obtain ⟨hs1, cf1, ce1, ck1, rv1, hV1, rfl⟩ := hr9
  have hP := vP_rot hP
  have hD := vD_rot hD
  refine lv_aload_n hx hb dL_law_334 rfl (lv_at hl 2 rfl) ?_
  refine lv_aload_n hx hb dL_law_335 rfl (lv_at hl 0 rfl) ?_
  refine lv_iload_n hx hb dL_law_336 rfl (lv_at hl 3 rfl) ?_
  refine lv_iconst (v := nI 1) hx hb dL_law_337 (by decide) ?_
  refine lv_iadd hx hb dL_law_338 ?_
  refine tp_i (nI_add _ _) ?_
  refine va_sld hx hb hX hbl hbA hS (vp_in_nI (by omega) (by omega)) dL_law_339 ?_
  refine tp_i (show _ = xs (6 * i + 1) by rw [nI_clamp (by omega)]) ?_
  refine lv_aload_n hx hb dL_law_340 rfl (lv_at hl 0 rfl) ?_
  refine lv_iload_n hx hb dL_law_341 rfl (lv_at hl 3 rfl) ?_
  refine lv_iconst (v := nI 2) hx hb dL_law_342 (by decide) ?_
  refine lv_iadd hx hb dL_law_343 ?_
  refine tp_i (nI_add _ _) ?_
  refine va_sld hx hb hX hbl hbA hS (vp_in_nI (by omega) (by omega)) dL_law_344 ?_
  refine tp_i (show _ = xs (6 * i + 2) by rw [nI_clamp (by omega)]) ?_
  refine cW_l (va_runV ⟨hx, hb, hml, hown, hts⟩ (m_mean l E am g hz n kd ch tm tx lm (fun j => nI (td j)) mk bs nw th pd (gm ++ (wX E ad g hz n mk (fun j => nI (td j)) gr cf1 ce1 ck1 rv1 st wo)) hn gd hM hg2 hg32 hhz (xs (6 * i + 1)) (xs (6 * i + 2)) _) (cwV 2 hts gL_law_X5_mean rfl rfl rfl (by decide +kernel) ⟨Nat.le_of_ble_eq_true rfl, Nat.le_of_ble_eq_true rfl⟩) (ePw_V hP hD hE (ci := 5) (k := 0) rfl rfl) rfl rfl hl.1 rfl (lv_room (Nat.le_of_ble_eq_true rfl)) dL_law_345 ⟨by show _ ≤ 600000; omega, by show _ ≤ 7302250; omega⟩) hS hD hA (fun rb ws9 H locs hr9 hP hD hS => ?_)
  obtain ⟨hs2, bs1, rfl⟩ := hr9
  have hP := vP_rot (vP_rot hP)
  have hD := vD_rot (vD_rot hD)
  obtain rfl := bst_det hg32 hhz hs1 hs2
  refine W.lcmp hx hb dL_law_348 ?_
  refine lv_if_eq (tgt := 574) hx hb dL_law_349 (by decide) (fun c9 => ?_) (fun c9 => absurd ((lg_cmp_eq _ _).mpr rfl) c9)
  refine W.widen (k := cA + 2) (n := sA + 38) (by omega) (by omega) ?_
  exact K _ _ _ ⟨ad, am, g, hz, n, mk, td, gr, cf1, ce1, ck1, rv1, st, wo, kd, ch, tm, tx, lm, bs1, nw, th, pd, ga, gb, gd, gm, ⟨hg2, hg32, hhz, hn, htd2, hV1, hGA, hM, hgl⟩, hP, hD, hS, hl⟩
set_option maxHeartbeats 4000000 in
set_option maxRecDepth 100000 in
/-- stakes -/
theorem law_c5 {p : Program} {l : Launch} {e : Env} {s : State} {m : MethodId} {below : List Frame} {meth : Method} {c : Code} {b L : Nat} {xs : Nat → Int32} (C0 : lw_At p s m meth c b L xs) {E : eT} (hE : eEv E s) {i : Nat} (hi : 6 * i + 6 ≤ L) (hL : L ≤ 3072) {cA sA : Nat} (hcA : cA + 2 ≤ 600000) (hsA : sA + 38 ≤ 7302250) (K : ∀ (H : Heap) (locs : List Loc) (ls : Array Slot), LI E s b i H locs ls → W p l e room_1 s m #[Value.ref b] below meth c H locs (cA + 2) (sA + 38) (lw_Z below #[Value.ref b] s) (F0 m 574 ls [])) {H : Heap} {locs : List Loc} {ls : Array Slot} (hI : LI E s b i H locs ls) : W p l e room_1 s m #[Value.ref b] below meth c H locs cA sA (lw_Z below #[Value.ref b] s) (F0 m 276 ls []) := by
  obtain ⟨hx, hb, hr, hml, hown, hts, hX, hbl, hlocks, hgv⟩ := C0
  have hts : ∀ w ∈ wsL_law, w.before #[Value.ref b] s = true := fun w h => hts w (wsL_law_in w h)
  have hown : s.vm.findClass RL = some m.cls := hown
  have hA : ∀ q : Nat, s.heap.size ≤ q → (fun q : Nat => s.heap.size ≤ q) q := fun _ h => h
  have hbA : ¬ (fun q : Nat => s.heap.size ≤ q) b := Nat.not_le.mpr hbl
  obtain ⟨ad, am, g, hz, n, mk, td, gr, cf, ce, ck, rv, st, wo, kd, ch, tm, tx, lm, bs, nw, th, pd, ga, gb, gd, gm, F, hP, hD, hS, hl⟩ := hI
  obtain ⟨hg2, hg32, hhz, hn, htd2, hV, hGA, hM, hgl⟩ := id F
  refine lv_aload_n hx hb dL_law_276 rfl (lv_at hl 1 rfl) ?_
  refine lv_aload_n hx hb dL_law_277 rfl (lv_at hl 0 rfl) ?_
  refine lv_iload_n hx hb dL_law_278 rfl (lv_at hl 3 rfl) ?_
  refine lv_iconst (v := nI 1) hx hb dL_law_279 (by decide) ?_
  refine lv_iadd hx hb dL_law_280 ?_
  refine tp_i (nI_add _ _) ?_
  refine va_sld hx hb hX hbl hbA hS (vp_in_nI (by omega) (by omega)) dL_law_281 ?_
  refine tp_i (show _ = xs (6 * i + 1) by rw [nI_clamp (by omega)]) ?_
  refine lv_aload_n hx hb dL_law_282 rfl (lv_at hl 0 rfl) ?_
  refine lv_iload_n hx hb dL_law_283 rfl (lv_at hl 3 rfl) ?_
  refine lv_iconst (v := nI 2) hx hb dL_law_284 (by decide) ?_
  refine lv_iadd hx hb dL_law_285 ?_
  refine tp_i (nI_add _ _) ?_
  refine va_sld hx hb hX hbl hbA hS (vp_in_nI (by omega) (by omega)) dL_law_286 ?_
  refine tp_i (show _ = xs (6 * i + 2) by rw [nI_clamp (by omega)]) ?_
  refine lv_aload_n hx hb dL_law_287 rfl (lv_at hl 0 rfl) ?_
  refine lv_iload_n hx hb dL_law_288 rfl (lv_at hl 3 rfl) ?_
  refine lv_iconst (v := nI 3) hx hb dL_law_289 (by decide) ?_
  refine lv_iadd hx hb dL_law_290 ?_
  refine tp_i (nI_add _ _) ?_
  refine va_sld hx hb hX hbl hbA hS (vp_in_nI (by omega) (by omega)) dL_law_291 ?_
  refine tp_i (show _ = xs (6 * i + 3) by rw [nI_clamp (by omega)]) ?_
  refine cW_l (va_runV ⟨hx, hb, hml, hown, hts⟩ (c_stakes l E ad g hz n mk (fun j => nI (td j)) gr cf ce ck rv st wo (wM E am g hz n kd ch tm tx lm (fun j => nI (td j)) mk bs nw th pd ++ gm) hg2 hg32 hhz hn (fun i => 10 + 2 * i) ga gb gd (gAll_m hGA) hV (xs (6 * i + 1)) (xs (6 * i + 2)) (xs (6 * i + 3)) _) (cwV 3 hts gL_law_X4_stakes rfl rfl rfl (by decide +kernel) ⟨Nat.le_of_ble_eq_true rfl, Nat.le_of_ble_eq_true rfl⟩) (ePw_V hP hD hE (ci := 4) (k := 0) rfl rfl) rfl rfl hl.1 rfl (lv_room (Nat.le_of_ble_eq_true rfl)) dL_law_292 ⟨by show _ ≤ 600000; omega, by show _ ≤ 7302250; omega⟩) hS hD hA (fun ra ws9 H locs hr9 hP hD hS => ?_)
  obtain ⟨hs1, cf1, ce1, ck1, rv1, hV1, rfl⟩ := hr9
  have hP := vP_rot hP
  have hD := vD_rot hD
  refine lv_aload_n hx hb dL_law_295 rfl (lv_at hl 2 rfl) ?_
  refine lv_aload_n hx hb dL_law_296 rfl (lv_at hl 0 rfl) ?_
  refine lv_iload_n hx hb dL_law_297 rfl (lv_at hl 3 rfl) ?_
  refine lv_iconst (v := nI 1) hx hb dL_law_298 (by decide) ?_
  refine lv_iadd hx hb dL_law_299 ?_
  refine tp_i (nI_add _ _) ?_
  refine va_sld hx hb hX hbl hbA hS (vp_in_nI (by omega) (by omega)) dL_law_300 ?_
  refine tp_i (show _ = xs (6 * i + 1) by rw [nI_clamp (by omega)]) ?_
  refine lv_aload_n hx hb dL_law_301 rfl (lv_at hl 0 rfl) ?_
  refine lv_iload_n hx hb dL_law_302 rfl (lv_at hl 3 rfl) ?_
  refine lv_iconst (v := nI 2) hx hb dL_law_303 (by decide) ?_
  refine lv_iadd hx hb dL_law_304 ?_
  refine tp_i (nI_add _ _) ?_
  refine va_sld hx hb hX hbl hbA hS (vp_in_nI (by omega) (by omega)) dL_law_305 ?_
  refine tp_i (show _ = xs (6 * i + 2) by rw [nI_clamp (by omega)]) ?_
  refine lv_aload_n hx hb dL_law_306 rfl (lv_at hl 0 rfl) ?_
  refine lv_iload_n hx hb dL_law_307 rfl (lv_at hl 3 rfl) ?_
  refine lv_iconst (v := nI 3) hx hb dL_law_308 (by decide) ?_
  refine lv_iadd hx hb dL_law_309 ?_
  refine tp_i (nI_add _ _) ?_
  refine va_sld hx hb hX hbl hbA hS (vp_in_nI (by omega) (by omega)) dL_law_310 ?_
  refine tp_i (show _ = xs (6 * i + 3) by rw [nI_clamp (by omega)]) ?_
  refine cW_l (va_runV ⟨hx, hb, hml, hown, hts⟩ (m_stakes l E am g hz n kd ch tm tx lm (fun j => nI (td j)) mk bs nw th pd (gm ++ (wX E ad g hz n mk (fun j => nI (td j)) gr cf1 ce1 ck1 rv1 st wo)) hn gd hM hg2 hg32 hhz (xs (6 * i + 1)) (xs (6 * i + 2)) (xs (6 * i + 3)) _) (cwV 3 hts gL_law_X5_stakes rfl rfl rfl (by decide +kernel) ⟨Nat.le_of_ble_eq_true rfl, Nat.le_of_ble_eq_true rfl⟩) (ePw_V hP hD hE (ci := 5) (k := 0) rfl rfl) rfl rfl hl.1 rfl (lv_room (Nat.le_of_ble_eq_true rfl)) dL_law_311 ⟨by show _ ≤ 600000; omega, by show _ ≤ 7302250; omega⟩) hS hD hA (fun rb ws9 H locs hr9 hP hD hS => ?_)
  obtain ⟨hs2, bs1, rfl⟩ := hr9
  have hP := vP_rot (vP_rot hP)
  have hD := vD_rot (vD_rot hD)
  obtain rfl := sts_det hg32 hhz hn hs1 hs2
  refine W.lcmp hx hb dL_law_314 ?_
  refine lv_if_eq (tgt := 574) hx hb dL_law_315 (by decide) (fun c9 => ?_) (fun c9 => absurd ((lg_cmp_eq _ _).mpr rfl) c9)
  refine W.widen (k := cA + 2) (n := sA + 38) (by omega) (by omega) ?_
  exact K _ _ _ ⟨ad, am, g, hz, n, mk, td, gr, cf1, ce1, ck1, rv1, st, wo, kd, ch, tm, tx, lm, bs1, nw, th, pd, ga, gb, gd, gm, ⟨hg2, hg32, hhz, hn, htd2, hV1, hGA, hM, hgl⟩, hP, hD, hS, hl⟩
set_option maxHeartbeats 4000000 in
set_option maxRecDepth 100000 in
/-- tell -/
theorem law_c7 {p : Program} {l : Launch} {e : Env} {s : State} {m : MethodId} {below : List Frame} {meth : Method} {c : Code} {b L : Nat} {xs : Nat → Int32} (C0 : lw_At p s m meth c b L xs) {E : eT} (hE : eEv E s) {i : Nat} (hi : 6 * i + 6 ≤ L) (hL : L ≤ 3072) {cA sA : Nat} (hcA : cA + 2 ≤ 600000) (hsA : sA + 38 ≤ 7302250) (K : ∀ (H : Heap) (locs : List Loc) (ls : Array Slot), LI E s b i H locs ls → W p l e room_1 s m #[Value.ref b] below meth c H locs (cA + 2) (sA + 38) (lw_Z below #[Value.ref b] s) (F0 m 574 ls [])) {H : Heap} {locs : List Loc} {ls : Array Slot} (hI : LI E s b i H locs ls) : W p l e room_1 s m #[Value.ref b] below meth c H locs cA sA (lw_Z below #[Value.ref b] s) (F0 m 354 ls []) := by
  obtain ⟨hx, hb, hr, hml, hown, hts, hX, hbl, hlocks, hgv⟩ := C0
  have hts : ∀ w ∈ wsL_law, w.before #[Value.ref b] s = true := fun w h => hts w (wsL_law_in w h)
  have hown : s.vm.findClass RL = some m.cls := hown
  have hA : ∀ q : Nat, s.heap.size ≤ q → (fun q : Nat => s.heap.size ≤ q) q := fun _ h => h
  have hbA : ¬ (fun q : Nat => s.heap.size ≤ q) b := Nat.not_le.mpr hbl
  obtain ⟨ad, am, g, hz, n, mk, td, gr, cf, ce, ck, rv, st, wo, kd, ch, tm, tx, lm, bs, nw, th, pd, ga, gb, gd, gm, F, hP, hD, hS, hl⟩ := hI
  obtain ⟨hg2, hg32, hhz, hn, htd2, hV, hGA, hM, hgl⟩ := id F
  refine lv_aload_n hx hb dL_law_354 rfl (lv_at hl 1 rfl) ?_
  refine lv_aload_n hx hb dL_law_355 rfl (lv_at hl 0 rfl) ?_
  refine lv_iload_n hx hb dL_law_356 rfl (lv_at hl 3 rfl) ?_
  refine lv_iconst (v := nI 1) hx hb dL_law_357 (by decide) ?_
  refine lv_iadd hx hb dL_law_358 ?_
  refine tp_i (nI_add _ _) ?_
  refine va_sld hx hb hX hbl hbA hS (vp_in_nI (by omega) (by omega)) dL_law_359 ?_
  refine tp_i (show _ = xs (6 * i + 1) by rw [nI_clamp (by omega)]) ?_
  refine lv_aload_n hx hb dL_law_360 rfl (lv_at hl 0 rfl) ?_
  refine lv_iload_n hx hb dL_law_361 rfl (lv_at hl 3 rfl) ?_
  refine lv_iconst (v := nI 2) hx hb dL_law_362 (by decide) ?_
  refine lv_iadd hx hb dL_law_363 ?_
  refine tp_i (nI_add _ _) ?_
  refine va_sld hx hb hX hbl hbA hS (vp_in_nI (by omega) (by omega)) dL_law_364 ?_
  refine tp_i (show _ = xs (6 * i + 2) by rw [nI_clamp (by omega)]) ?_
  refine cW_i (va_runV ⟨hx, hb, hml, hown, hts⟩ (c_tell l E ad g hz n mk td gr cf ce ck rv st wo (wM E am g hz n kd ch tm tx lm (fun j => nI (td j)) mk bs nw th pd ++ gm) hg2 hg32 (xs (6 * i + 1)) (xs (6 * i + 2)) _) (cwV 2 hts gL_law_X4_tell rfl rfl rfl (by decide +kernel) ⟨Nat.le_of_ble_eq_true rfl, Nat.le_of_ble_eq_true rfl⟩) (ePw_V hP hD hE (ci := 4) (k := 0) rfl rfl) rfl rfl hl.1 rfl (lv_room (Nat.le_of_ble_eq_true rfl)) dL_law_365 ⟨by show _ ≤ 600000; omega, by show _ ≤ 7302250; omega⟩) hS hD hA (fun ra ws9 H locs hr9 hP hD hS => ?_)
  obtain ⟨td1, hs1, rfl⟩ := hr9
  have hP := vP_rot hP
  have hD := vD_rot hD
  refine lv_aload_n hx hb dL_law_368 rfl (lv_at hl 2 rfl) ?_
  refine lv_aload_n hx hb dL_law_369 rfl (lv_at hl 0 rfl) ?_
  refine lv_iload_n hx hb dL_law_370 rfl (lv_at hl 3 rfl) ?_
  refine lv_iconst (v := nI 1) hx hb dL_law_371 (by decide) ?_
  refine lv_iadd hx hb dL_law_372 ?_
  refine tp_i (nI_add _ _) ?_
  refine va_sld hx hb hX hbl hbA hS (vp_in_nI (by omega) (by omega)) dL_law_373 ?_
  refine tp_i (show _ = xs (6 * i + 1) by rw [nI_clamp (by omega)]) ?_
  refine lv_aload_n hx hb dL_law_374 rfl (lv_at hl 0 rfl) ?_
  refine lv_iload_n hx hb dL_law_375 rfl (lv_at hl 3 rfl) ?_
  refine lv_iconst (v := nI 2) hx hb dL_law_376 (by decide) ?_
  refine lv_iadd hx hb dL_law_377 ?_
  refine tp_i (nI_add _ _) ?_
  refine va_sld hx hb hX hbl hbA hS (vp_in_nI (by omega) (by omega)) dL_law_378 ?_
  refine tp_i (show _ = xs (6 * i + 2) by rw [nI_clamp (by omega)]) ?_
  refine cW_i (va_runV ⟨hx, hb, hml, hown, hts⟩ (m_tell l E am g hz n kd ch tm tx lm td mk bs nw th pd (gm ++ (wX E ad g hz n mk (fun j => nI (td1 j)) gr cf ce ck rv st wo)) hg2 hg32 (xs (6 * i + 1)) (xs (6 * i + 2)) _) (cwV 2 hts gL_law_X5_tell rfl rfl rfl (by decide +kernel) ⟨Nat.le_of_ble_eq_true rfl, Nat.le_of_ble_eq_true rfl⟩) (ePw_V hP hD hE (ci := 5) (k := 0) rfl rfl) rfl rfl hl.1 rfl (lv_room (Nat.le_of_ble_eq_true rfl)) dL_law_379 ⟨by show _ ≤ 600000; omega, by show _ ≤ 7302250; omega⟩) hS hD hA (fun rb ws9 H locs hr9 hP hD hS => ?_)
  obtain ⟨td2, hs2, rfl⟩ := hr9
  have hP := vP_rot (vP_rot hP)
  have hD := vD_rot (vD_rot hD)
  obtain ⟨rfl, rfl⟩ := tel_det hg2 hg32 hs1 hs2
  refine lv_icmp_eq (tgt := 574) hx hb dL_law_382 (by decide) (fun c9 => ?_) (fun c9 => absurd rfl c9)
  refine W.widen (k := cA + 2) (n := sA + 38) (by omega) (by omega) ?_
  exact K _ _ _ ⟨ad, am, g, hz, n, mk, td2, gr, cf, ce, ck, rv, st, wo, kd, ch, tm, tx, lm, bs, nw, th, pd, ga, gb, gd, gm, ⟨hg2, hg32, hhz, hn, tel_le htd2 hs1, hV, hGA, hM, hgl⟩, hP, hD, hS, hl⟩
set_option maxHeartbeats 4000000 in
set_option maxRecDepth 100000 in
/-- stake -/
theorem law_c8 {p : Program} {l : Launch} {e : Env} {s : State} {m : MethodId} {below : List Frame} {meth : Method} {c : Code} {b L : Nat} {xs : Nat → Int32} (C0 : lw_At p s m meth c b L xs) {E : eT} (hE : eEv E s) {i : Nat} (hi : 6 * i + 6 ≤ L) (hL : L ≤ 3072) {cA sA : Nat} (hcA : cA + 2 ≤ 600000) (hsA : sA + 38 ≤ 7302250) (K : ∀ (H : Heap) (locs : List Loc) (ls : Array Slot), LI E s b i H locs ls → W p l e room_1 s m #[Value.ref b] below meth c H locs (cA + 2) (sA + 38) (lw_Z below #[Value.ref b] s) (F0 m 574 ls [])) {H : Heap} {locs : List Loc} {ls : Array Slot} (hI : LI E s b i H locs ls) : W p l e room_1 s m #[Value.ref b] below meth c H locs cA sA (lw_Z below #[Value.ref b] s) (F0 m 387 ls []) := by
  obtain ⟨hx, hb, hr, hml, hown, hts, hX, hbl, hlocks, hgv⟩ := C0
  have hts : ∀ w ∈ wsL_law, w.before #[Value.ref b] s = true := fun w h => hts w (wsL_law_in w h)
  have hown : s.vm.findClass RL = some m.cls := hown
  have hA : ∀ q : Nat, s.heap.size ≤ q → (fun q : Nat => s.heap.size ≤ q) q := fun _ h => h
  have hbA : ¬ (fun q : Nat => s.heap.size ≤ q) b := Nat.not_le.mpr hbl
  obtain ⟨ad, am, g, hz, n, mk, td, gr, cf, ce, ck, rv, st, wo, kd, ch, tm, tx, lm, bs, nw, th, pd, ga, gb, gd, gm, F, hP, hD, hS, hl⟩ := hI
  obtain ⟨hg2, hg32, hhz, hn, htd2, hV, hGA, hM, hgl⟩ := id F
  refine lv_aload_n hx hb dL_law_387 rfl (lv_at hl 1 rfl) ?_
  refine lv_aload_n hx hb dL_law_388 rfl (lv_at hl 0 rfl) ?_
  refine lv_iload_n hx hb dL_law_389 rfl (lv_at hl 3 rfl) ?_
  refine lv_iconst (v := nI 1) hx hb dL_law_390 (by decide) ?_
  refine lv_iadd hx hb dL_law_391 ?_
  refine tp_i (nI_add _ _) ?_
  refine va_sld hx hb hX hbl hbA hS (vp_in_nI (by omega) (by omega)) dL_law_392 ?_
  refine tp_i (show _ = xs (6 * i + 1) by rw [nI_clamp (by omega)]) ?_
  refine lv_aload_n hx hb dL_law_393 rfl (lv_at hl 0 rfl) ?_
  refine lv_iload_n hx hb dL_law_394 rfl (lv_at hl 3 rfl) ?_
  refine lv_iconst (v := nI 2) hx hb dL_law_395 (by decide) ?_
  refine lv_iadd hx hb dL_law_396 ?_
  refine tp_i (nI_add _ _) ?_
  refine va_sld hx hb hX hbl hbA hS (vp_in_nI (by omega) (by omega)) dL_law_397 ?_
  refine tp_i (show _ = xs (6 * i + 2) by rw [nI_clamp (by omega)]) ?_
  refine lv_aload_n hx hb dL_law_398 rfl (lv_at hl 0 rfl) ?_
  refine lv_iload_n hx hb dL_law_399 rfl (lv_at hl 3 rfl) ?_
  refine lv_iconst (v := nI 3) hx hb dL_law_400 (by decide) ?_
  refine lv_iadd hx hb dL_law_401 ?_
  refine tp_i (nI_add _ _) ?_
  refine va_sld hx hb hX hbl hbA hS (vp_in_nI (by omega) (by omega)) dL_law_402 ?_
  refine tp_i (show _ = xs (6 * i + 3) by rw [nI_clamp (by omega)]) ?_
  refine vp_callSi (W.runV ⟨hx, hb, hml, hown, hts⟩ (c_stake l E _ ad g hz n mk rfl hg2 hg32 hn gr rfl (fun i => 52 + (10 + 2 * i)) ga gb gd (gAll_of (gAll_m hGA)) td rfl htd2 (xs (6 * i + 1)) (xs (6 * i + 2)) (xs (6 * i + 3))) (cwV 3 hts gL_law_X4_stake rfl rfl rfl (by decide +kernel) ⟨Nat.le_of_ble_eq_true rfl, Nat.le_of_ble_eq_true rfl⟩) (ePu_V hP hE (ci := 4) (k := 0) rfl rfl) rfl rfl hl.1 rfl (lv_room (Nat.le_of_ble_eq_true rfl)) dL_law_403 ⟨by show _ ≤ 600000; omega, by show _ ≤ 7302250; omega⟩) (fun ra hr9 => ?_)
  have hs1 := hr9
  refine lv_aload_n hx hb dL_law_406 rfl (lv_at hl 2 rfl) ?_
  refine lv_aload_n hx hb dL_law_407 rfl (lv_at hl 0 rfl) ?_
  refine lv_iload_n hx hb dL_law_408 rfl (lv_at hl 3 rfl) ?_
  refine lv_iconst (v := nI 1) hx hb dL_law_409 (by decide) ?_
  refine lv_iadd hx hb dL_law_410 ?_
  refine tp_i (nI_add _ _) ?_
  refine va_sld hx hb hX hbl hbA hS (vp_in_nI (by omega) (by omega)) dL_law_411 ?_
  refine tp_i (show _ = xs (6 * i + 1) by rw [nI_clamp (by omega)]) ?_
  refine lv_aload_n hx hb dL_law_412 rfl (lv_at hl 0 rfl) ?_
  refine lv_iload_n hx hb dL_law_413 rfl (lv_at hl 3 rfl) ?_
  refine lv_iconst (v := nI 2) hx hb dL_law_414 (by decide) ?_
  refine lv_iadd hx hb dL_law_415 ?_
  refine tp_i (nI_add _ _) ?_
  refine va_sld hx hb hX hbl hbA hS (vp_in_nI (by omega) (by omega)) dL_law_416 ?_
  refine tp_i (show _ = xs (6 * i + 2) by rw [nI_clamp (by omega)]) ?_
  refine lv_aload_n hx hb dL_law_417 rfl (lv_at hl 0 rfl) ?_
  refine lv_iload_n hx hb dL_law_418 rfl (lv_at hl 3 rfl) ?_
  refine lv_iconst (v := nI 3) hx hb dL_law_419 (by decide) ?_
  refine lv_iadd hx hb dL_law_420 ?_
  refine tp_i (nI_add _ _) ?_
  refine va_sld hx hb hX hbl hbA hS (vp_in_nI (by omega) (by omega)) dL_law_421 ?_
  refine tp_i (show _ = xs (6 * i + 3) by rw [nI_clamp (by omega)]) ?_
  refine vp_callSi (W.runV ⟨hx, hb, hml, hown, hts⟩ (m_stake l E am g hz n kd ch tm tx lm td mk bs nw th pd (gm ++ (wX E ad g hz n mk (fun j => nI (td j)) gr cf ce ck rv st wo)) hn gd hM hg2 hg32 htd2 (xs (6 * i + 1)) (xs (6 * i + 2)) (xs (6 * i + 3))) (cwV 3 hts gL_law_X5_stake rfl rfl rfl (by decide +kernel) ⟨Nat.le_of_ble_eq_true rfl, Nat.le_of_ble_eq_true rfl⟩) (ePu_V (vP_rot hP) hE (ci := 5) (k := 0) rfl rfl) rfl rfl hl.1 rfl (lv_room (Nat.le_of_ble_eq_true rfl)) dL_law_422 ⟨by show _ ≤ 600000; omega, by show _ ≤ 7302250; omega⟩) (fun rb hr9 => ?_)
  obtain rfl := stk_det hs1 hr9
  refine lv_icmp_eq (tgt := 574) hx hb dL_law_425 (by decide) (fun c9 => ?_) (fun c9 => absurd rfl c9)
  refine W.widen (k := cA + 2) (n := sA + 38) (by omega) (by omega) ?_
  exact K _ _ _ ⟨ad, am, g, hz, n, mk, td, gr, cf, ce, ck, rv, st, wo, kd, ch, tm, tx, lm, bs, nw, th, pd, ga, gb, gd, gm, F, hP, hD, hS, hl⟩
set_option maxHeartbeats 4000000 in
set_option maxRecDepth 100000 in
/-- plan -/
theorem law_c9 {p : Program} {l : Launch} {e : Env} {s : State} {m : MethodId} {below : List Frame} {meth : Method} {c : Code} {b L : Nat} {xs : Nat → Int32} (C0 : lw_At p s m meth c b L xs) {E : eT} (hE : eEv E s) {i : Nat} (hi : 6 * i + 6 ≤ L) (hL : L ≤ 3072) {cA sA : Nat} (hcA : cA + 2 ≤ 600000) (hsA : sA + 38 ≤ 7302250) (K : ∀ (H : Heap) (locs : List Loc) (ls : Array Slot), LI E s b i H locs ls → W p l e room_1 s m #[Value.ref b] below meth c H locs (cA + 2) (sA + 38) (lw_Z below #[Value.ref b] s) (F0 m 574 ls [])) {H : Heap} {locs : List Loc} {ls : Array Slot} (hI : LI E s b i H locs ls) : W p l e room_1 s m #[Value.ref b] below meth c H locs cA sA (lw_Z below #[Value.ref b] s) (F0 m 430 ls []) := by
  obtain ⟨hx, hb, hr, hml, hown, hts, hX, hbl, hlocks, hgv⟩ := C0
  have hts : ∀ w ∈ wsL_law, w.before #[Value.ref b] s = true := fun w h => hts w (wsL_law_in w h)
  have hown : s.vm.findClass RL = some m.cls := hown
  have hA : ∀ q : Nat, s.heap.size ≤ q → (fun q : Nat => s.heap.size ≤ q) q := fun _ h => h
  have hbA : ¬ (fun q : Nat => s.heap.size ≤ q) b := Nat.not_le.mpr hbl
  obtain ⟨ad, am, g, hz, n, mk, td, gr, cf, ce, ck, rv, st, wo, kd, ch, tm, tx, lm, bs, nw, th, pd, ga, gb, gd, gm, F, hP, hD, hS, hl⟩ := hI
  obtain ⟨hg2, hg32, hhz, hn, htd2, hV, hGA, hM, hgl⟩ := id F
  refine lv_aload_n hx hb dL_law_430 rfl (lv_at hl 1 rfl) ?_
  refine lv_aload_n hx hb dL_law_431 rfl (lv_at hl 0 rfl) ?_
  refine lv_iload_n hx hb dL_law_432 rfl (lv_at hl 3 rfl) ?_
  refine lv_iconst (v := nI 1) hx hb dL_law_433 (by decide) ?_
  refine lv_iadd hx hb dL_law_434 ?_
  refine tp_i (nI_add _ _) ?_
  refine va_sld hx hb hX hbl hbA hS (vp_in_nI (by omega) (by omega)) dL_law_435 ?_
  refine tp_i (show _ = xs (6 * i + 1) by rw [nI_clamp (by omega)]) ?_
  refine lv_aload_n hx hb dL_law_436 rfl (lv_at hl 0 rfl) ?_
  refine lv_iload_n hx hb dL_law_437 rfl (lv_at hl 3 rfl) ?_
  refine lv_iconst (v := nI 2) hx hb dL_law_438 (by decide) ?_
  refine lv_iadd hx hb dL_law_439 ?_
  refine tp_i (nI_add _ _) ?_
  refine va_sld hx hb hX hbl hbA hS (vp_in_nI (by omega) (by omega)) dL_law_440 ?_
  refine tp_i (show _ = xs (6 * i + 2) by rw [nI_clamp (by omega)]) ?_
  refine lv_aload_n hx hb dL_law_441 rfl (lv_at hl 0 rfl) ?_
  refine lv_iload_n hx hb dL_law_442 rfl (lv_at hl 3 rfl) ?_
  refine lv_iconst (v := nI 3) hx hb dL_law_443 (by decide) ?_
  refine lv_iadd hx hb dL_law_444 ?_
  refine tp_i (nI_add _ _) ?_
  refine va_sld hx hb hX hbl hbA hS (vp_in_nI (by omega) (by omega)) dL_law_445 ?_
  refine tp_i (show _ = xs (6 * i + 3) by rw [nI_clamp (by omega)]) ?_
  refine lv_aload_n hx hb dL_law_446 rfl (lv_at hl 0 rfl) ?_
  refine lv_iload_n hx hb dL_law_447 rfl (lv_at hl 3 rfl) ?_
  refine lv_iconst (v := nI 4) hx hb dL_law_448 (by decide) ?_
  refine lv_iadd hx hb dL_law_449 ?_
  refine tp_i (nI_add _ _) ?_
  refine va_sld hx hb hX hbl hbA hS (vp_in_nI (by omega) (by omega)) dL_law_450 ?_
  refine tp_i (show _ = xs (6 * i + 4) by rw [nI_clamp (by omega)]) ?_
  refine lv_aload_n hx hb dL_law_451 rfl (lv_at hl 0 rfl) ?_
  refine lv_iload_n hx hb dL_law_452 rfl (lv_at hl 3 rfl) ?_
  refine lv_iconst (v := nI 5) hx hb dL_law_453 (by decide) ?_
  refine lv_iadd hx hb dL_law_454 ?_
  refine tp_i (nI_add _ _) ?_
  refine va_sld hx hb hX hbl hbA hS (vp_in_nI (by omega) (by omega)) dL_law_455 ?_
  refine tp_i (show _ = xs (6 * i + 5) by rw [nI_clamp (by omega)]) ?_
  refine cW_l (va_runV ⟨hx, hb, hml, hown, hts⟩ (c_plan l E ad g hz n mk td gr cf ce ck rv st wo (wM E am g hz n kd ch tm tx lm (fun j => nI (td j)) mk bs nw th pd ++ gm) hg2 hg32 hhz htd2 hn (fun i => 10 + 2 * i) ga gb gd (gAll_m hGA) (xs (6 * i + 1)) (xs (6 * i + 2)) (xs (6 * i + 3)) (xs (6 * i + 4)) (xs (6 * i + 5)) _) (cwV 5 hts gL_law_X4_plan rfl rfl rfl (by decide +kernel) ⟨Nat.le_of_ble_eq_true rfl, Nat.le_of_ble_eq_true rfl⟩) (ePw_V hP hD hE (ci := 4) (k := 0) rfl rfl) rfl rfl hl.1 rfl (lv_room (Nat.le_of_ble_eq_true rfl)) dL_law_456 ⟨by show _ ≤ 600000; omega, by show _ ≤ 7302250; omega⟩) hS hD hA (fun ra ws9 H locs hr9 hP hD hS => ?_)
  obtain ⟨hs1, st1, wo1, rfl⟩ := hr9
  have hP := vP_rot hP
  have hD := vD_rot hD
  refine lv_aload_n hx hb dL_law_459 rfl (lv_at hl 2 rfl) ?_
  refine lv_aload_n hx hb dL_law_460 rfl (lv_at hl 0 rfl) ?_
  refine lv_iload_n hx hb dL_law_461 rfl (lv_at hl 3 rfl) ?_
  refine lv_iconst (v := nI 1) hx hb dL_law_462 (by decide) ?_
  refine lv_iadd hx hb dL_law_463 ?_
  refine tp_i (nI_add _ _) ?_
  refine va_sld hx hb hX hbl hbA hS (vp_in_nI (by omega) (by omega)) dL_law_464 ?_
  refine tp_i (show _ = xs (6 * i + 1) by rw [nI_clamp (by omega)]) ?_
  refine lv_aload_n hx hb dL_law_465 rfl (lv_at hl 0 rfl) ?_
  refine lv_iload_n hx hb dL_law_466 rfl (lv_at hl 3 rfl) ?_
  refine lv_iconst (v := nI 2) hx hb dL_law_467 (by decide) ?_
  refine lv_iadd hx hb dL_law_468 ?_
  refine tp_i (nI_add _ _) ?_
  refine va_sld hx hb hX hbl hbA hS (vp_in_nI (by omega) (by omega)) dL_law_469 ?_
  refine tp_i (show _ = xs (6 * i + 2) by rw [nI_clamp (by omega)]) ?_
  refine lv_aload_n hx hb dL_law_470 rfl (lv_at hl 0 rfl) ?_
  refine lv_iload_n hx hb dL_law_471 rfl (lv_at hl 3 rfl) ?_
  refine lv_iconst (v := nI 3) hx hb dL_law_472 (by decide) ?_
  refine lv_iadd hx hb dL_law_473 ?_
  refine tp_i (nI_add _ _) ?_
  refine va_sld hx hb hX hbl hbA hS (vp_in_nI (by omega) (by omega)) dL_law_474 ?_
  refine tp_i (show _ = xs (6 * i + 3) by rw [nI_clamp (by omega)]) ?_
  refine lv_aload_n hx hb dL_law_475 rfl (lv_at hl 0 rfl) ?_
  refine lv_iload_n hx hb dL_law_476 rfl (lv_at hl 3 rfl) ?_
  refine lv_iconst (v := nI 4) hx hb dL_law_477 (by decide) ?_
  refine lv_iadd hx hb dL_law_478 ?_
  refine tp_i (nI_add _ _) ?_
  refine va_sld hx hb hX hbl hbA hS (vp_in_nI (by omega) (by omega)) dL_law_479 ?_
  refine tp_i (show _ = xs (6 * i + 4) by rw [nI_clamp (by omega)]) ?_
  refine lv_aload_n hx hb dL_law_480 rfl (lv_at hl 0 rfl) ?_
  refine lv_iload_n hx hb dL_law_481 rfl (lv_at hl 3 rfl) ?_
  refine lv_iconst (v := nI 5) hx hb dL_law_482 (by decide) ?_
  refine lv_iadd hx hb dL_law_483 ?_
  refine tp_i (nI_add _ _) ?_
  refine va_sld hx hb hX hbl hbA hS (vp_in_nI (by omega) (by omega)) dL_law_484 ?_
  refine tp_i (show _ = xs (6 * i + 5) by rw [nI_clamp (by omega)]) ?_
  refine cW_l (va_runV ⟨hx, hb, hml, hown, hts⟩ (m_plan l E am g hz n kd ch tm tx lm td mk bs nw th pd (gm ++ (wX E ad g hz n mk (fun j => nI (td j)) gr cf ce ck rv st1 wo1)) hn gd hM hg2 hg32 hhz htd2 (xs (6 * i + 1)) (xs (6 * i + 2)) (xs (6 * i + 3)) (xs (6 * i + 4)) (xs (6 * i + 5)) _) (cwV 5 hts gL_law_X5_plan rfl rfl rfl (by decide +kernel) ⟨Nat.le_of_ble_eq_true rfl, Nat.le_of_ble_eq_true rfl⟩) (ePw_V hP hD hE (ci := 5) (k := 0) rfl rfl) rfl rfl hl.1 rfl (lv_room (Nat.le_of_ble_eq_true rfl)) dL_law_485 ⟨by show _ ≤ 600000; omega, by show _ ≤ 7302250; omega⟩) hS hD hA (fun rb ws9 H locs hr9 hP hD hS => ?_)
  obtain ⟨hs2, nw1, th1, pd1, rfl⟩ := hr9
  have hP := vP_rot (vP_rot hP)
  have hD := vD_rot (vD_rot hD)
  obtain rfl := pln_det hg32 hhz hn hs1 hs2
  refine W.lcmp hx hb dL_law_488 ?_
  refine lv_if_eq (tgt := 574) hx hb dL_law_489 (by decide) (fun c9 => ?_) (fun c9 => absurd ((lg_cmp_eq _ _).mpr rfl) c9)
  refine W.widen (k := cA + 2) (n := sA + 38) (by omega) (by omega) ?_
  exact K _ _ _ ⟨ad, am, g, hz, n, mk, td, gr, cf, ce, ck, rv, st1, wo1, kd, ch, tm, tx, lm, bs, nw1, th1, pd1, ga, gb, gd, gm, F, hP, hD, hS, hl⟩
set_option maxHeartbeats 4000000 in
set_option maxRecDepth 100000 in
/-- bold -/
theorem law_c10 {p : Program} {l : Launch} {e : Env} {s : State} {m : MethodId} {below : List Frame} {meth : Method} {c : Code} {b L : Nat} {xs : Nat → Int32} (C0 : lw_At p s m meth c b L xs) {E : eT} (hE : eEv E s) {i : Nat} (hi : 6 * i + 6 ≤ L) (hL : L ≤ 3072) {cA sA : Nat} (hcA : cA + 2 ≤ 600000) (hsA : sA + 38 ≤ 7302250) (K : ∀ (H : Heap) (locs : List Loc) (ls : Array Slot), LI E s b i H locs ls → W p l e room_1 s m #[Value.ref b] below meth c H locs (cA + 2) (sA + 38) (lw_Z below #[Value.ref b] s) (F0 m 574 ls [])) {H : Heap} {locs : List Loc} {ls : Array Slot} (hI : LI E s b i H locs ls) : W p l e room_1 s m #[Value.ref b] below meth c H locs cA sA (lw_Z below #[Value.ref b] s) (F0 m 494 ls []) := by
  obtain ⟨hx, hb, hr, hml, hown, hts, hX, hbl, hlocks, hgv⟩ := C0
  have hts : ∀ w ∈ wsL_law, w.before #[Value.ref b] s = true := fun w h => hts w (wsL_law_in w h)
  have hown : s.vm.findClass RL = some m.cls := hown
  have hA : ∀ q : Nat, s.heap.size ≤ q → (fun q : Nat => s.heap.size ≤ q) q := fun _ h => h
  have hbA : ¬ (fun q : Nat => s.heap.size ≤ q) b := Nat.not_le.mpr hbl
  obtain ⟨ad, am, g, hz, n, mk, td, gr, cf, ce, ck, rv, st, wo, kd, ch, tm, tx, lm, bs, nw, th, pd, ga, gb, gd, gm, F, hP, hD, hS, hl⟩ := hI
  obtain ⟨hg2, hg32, hhz, hn, htd2, hV, hGA, hM, hgl⟩ := id F
  refine lv_aload_n hx hb dL_law_494 rfl (lv_at hl 1 rfl) ?_
  refine lv_aload_n hx hb dL_law_495 rfl (lv_at hl 0 rfl) ?_
  refine lv_iload_n hx hb dL_law_496 rfl (lv_at hl 3 rfl) ?_
  refine lv_iconst (v := nI 1) hx hb dL_law_497 (by decide) ?_
  refine lv_iadd hx hb dL_law_498 ?_
  refine tp_i (nI_add _ _) ?_
  refine va_sld hx hb hX hbl hbA hS (vp_in_nI (by omega) (by omega)) dL_law_499 ?_
  refine tp_i (show _ = xs (6 * i + 1) by rw [nI_clamp (by omega)]) ?_
  refine lv_aload_n hx hb dL_law_500 rfl (lv_at hl 0 rfl) ?_
  refine lv_iload_n hx hb dL_law_501 rfl (lv_at hl 3 rfl) ?_
  refine lv_iconst (v := nI 2) hx hb dL_law_502 (by decide) ?_
  refine lv_iadd hx hb dL_law_503 ?_
  refine tp_i (nI_add _ _) ?_
  refine va_sld hx hb hX hbl hbA hS (vp_in_nI (by omega) (by omega)) dL_law_504 ?_
  refine tp_i (show _ = xs (6 * i + 2) by rw [nI_clamp (by omega)]) ?_
  refine lv_aload_n hx hb dL_law_505 rfl (lv_at hl 0 rfl) ?_
  refine lv_iload_n hx hb dL_law_506 rfl (lv_at hl 3 rfl) ?_
  refine lv_iconst (v := nI 3) hx hb dL_law_507 (by decide) ?_
  refine lv_iadd hx hb dL_law_508 ?_
  refine tp_i (nI_add _ _) ?_
  refine va_sld hx hb hX hbl hbA hS (vp_in_nI (by omega) (by omega)) dL_law_509 ?_
  refine tp_i (show _ = xs (6 * i + 3) by rw [nI_clamp (by omega)]) ?_
  refine cW_i (va_runV ⟨hx, hb, hml, hown, hts⟩ (c_bold l E ad g hz n mk td gr cf ce ck rv st wo (wM E am g hz n kd ch tm tx lm (fun j => nI (td j)) mk bs nw th pd ++ gm) hg2 hg32 hhz htd2 hn (fun i => 10 + 2 * i) ga gb gd (gAll_m hGA) hV (xs (6 * i + 1)) (xs (6 * i + 2)) (xs (6 * i + 3)) _) (cwV 3 hts gL_law_X4_bold rfl rfl rfl (by decide +kernel) ⟨Nat.le_of_ble_eq_true rfl, Nat.le_of_ble_eq_true rfl⟩) (ePw_V hP hD hE (ci := 4) (k := 0) rfl rfl) rfl rfl hl.1 rfl (lv_room (Nat.le_of_ble_eq_true rfl)) dL_law_510 ⟨by show _ ≤ 600000; omega, by show _ ≤ 7302250; omega⟩) hS hD hA (fun ra ws9 H locs hr9 hP hD hS => ?_)
  obtain ⟨hs1, cf1, ce1, ck1, rv1, st1, wo1, hV1, rfl⟩ := hr9
  have hP := vP_rot hP
  have hD := vD_rot hD
  refine lv_aload_n hx hb dL_law_513 rfl (lv_at hl 2 rfl) ?_
  refine lv_aload_n hx hb dL_law_514 rfl (lv_at hl 0 rfl) ?_
  refine lv_iload_n hx hb dL_law_515 rfl (lv_at hl 3 rfl) ?_
  refine lv_iconst (v := nI 1) hx hb dL_law_516 (by decide) ?_
  refine lv_iadd hx hb dL_law_517 ?_
  refine tp_i (nI_add _ _) ?_
  refine va_sld hx hb hX hbl hbA hS (vp_in_nI (by omega) (by omega)) dL_law_518 ?_
  refine tp_i (show _ = xs (6 * i + 1) by rw [nI_clamp (by omega)]) ?_
  refine lv_aload_n hx hb dL_law_519 rfl (lv_at hl 0 rfl) ?_
  refine lv_iload_n hx hb dL_law_520 rfl (lv_at hl 3 rfl) ?_
  refine lv_iconst (v := nI 2) hx hb dL_law_521 (by decide) ?_
  refine lv_iadd hx hb dL_law_522 ?_
  refine tp_i (nI_add _ _) ?_
  refine va_sld hx hb hX hbl hbA hS (vp_in_nI (by omega) (by omega)) dL_law_523 ?_
  refine tp_i (show _ = xs (6 * i + 2) by rw [nI_clamp (by omega)]) ?_
  refine lv_aload_n hx hb dL_law_524 rfl (lv_at hl 0 rfl) ?_
  refine lv_iload_n hx hb dL_law_525 rfl (lv_at hl 3 rfl) ?_
  refine lv_iconst (v := nI 3) hx hb dL_law_526 (by decide) ?_
  refine lv_iadd hx hb dL_law_527 ?_
  refine tp_i (nI_add _ _) ?_
  refine va_sld hx hb hX hbl hbA hS (vp_in_nI (by omega) (by omega)) dL_law_528 ?_
  refine tp_i (show _ = xs (6 * i + 3) by rw [nI_clamp (by omega)]) ?_
  refine cW_i (va_runV ⟨hx, hb, hml, hown, hts⟩ (m_bold l E am g hz n kd ch tm tx lm td mk bs nw th pd (gm ++ (wX E ad g hz n mk (fun j => nI (td j)) gr cf1 ce1 ck1 rv1 st1 wo1)) hn gd hM hg2 hg32 hhz htd2 (xs (6 * i + 1)) (xs (6 * i + 2)) (xs (6 * i + 3)) _) (cwV 3 hts gL_law_X5_bold rfl rfl rfl (by decide +kernel) ⟨Nat.le_of_ble_eq_true rfl, Nat.le_of_ble_eq_true rfl⟩) (ePw_V hP hD hE (ci := 5) (k := 0) rfl rfl) rfl rfl hl.1 rfl (lv_room (Nat.le_of_ble_eq_true rfl)) dL_law_529 ⟨by show _ ≤ 600000; omega, by show _ ≤ 7302250; omega⟩) hS hD hA (fun rb ws9 H locs hr9 hP hD hS => ?_)
  obtain ⟨hs2, bs1, nw1, th1, pd1, rfl⟩ := hr9
  have hP := vP_rot (vP_rot hP)
  have hD := vD_rot (vD_rot hD)
  obtain rfl := bld_det hg32 hhz hn hs1 hs2
  refine lv_icmp_eq (tgt := 574) hx hb dL_law_532 (by decide) (fun c9 => ?_) (fun c9 => absurd rfl c9)
  refine W.widen (k := cA + 2) (n := sA + 38) (by omega) (by omega) ?_
  exact K _ _ _ ⟨ad, am, g, hz, n, mk, td, gr, cf1, ce1, ck1, rv1, st1, wo1, kd, ch, tm, tx, lm, bs1, nw1, th1, pd1, ga, gb, gd, gm, ⟨hg2, hg32, hhz, hn, htd2, hV1, hGA, hM, hgl⟩, hP, hD, hS, hl⟩
set_option maxHeartbeats 4000000 in
set_option maxRecDepth 100000 in
/-- count -/
theorem law_c11 {p : Program} {l : Launch} {e : Env} {s : State} {m : MethodId} {below : List Frame} {meth : Method} {c : Code} {b L : Nat} {xs : Nat → Int32} (C0 : lw_At p s m meth c b L xs) {E : eT} (hE : eEv E s) {i : Nat} (hi : 6 * i + 6 ≤ L) (hL : L ≤ 3072) {cA sA : Nat} (hcA : cA + 2 ≤ 600000) (hsA : sA + 38 ≤ 7302250) (K : ∀ (H : Heap) (locs : List Loc) (ls : Array Slot), LI E s b i H locs ls → W p l e room_1 s m #[Value.ref b] below meth c H locs (cA + 2) (sA + 38) (lw_Z below #[Value.ref b] s) (F0 m 574 ls [])) {H : Heap} {locs : List Loc} {ls : Array Slot} (hI : LI E s b i H locs ls) : W p l e room_1 s m #[Value.ref b] below meth c H locs cA sA (lw_Z below #[Value.ref b] s) (F0 m 537 ls []) := by
  obtain ⟨hx, hb, hr, hml, hown, hts, hX, hbl, hlocks, hgv⟩ := C0
  have hts : ∀ w ∈ wsL_law, w.before #[Value.ref b] s = true := fun w h => hts w (wsL_law_in w h)
  have hown : s.vm.findClass RL = some m.cls := hown
  have hA : ∀ q : Nat, s.heap.size ≤ q → (fun q : Nat => s.heap.size ≤ q) q := fun _ h => h
  have hbA : ¬ (fun q : Nat => s.heap.size ≤ q) b := Nat.not_le.mpr hbl
  obtain ⟨ad, am, g, hz, n, mk, td, gr, cf, ce, ck, rv, st, wo, kd, ch, tm, tx, lm, bs, nw, th, pd, ga, gb, gd, gm, F, hP, hD, hS, hl⟩ := hI
  obtain ⟨hg2, hg32, hhz, hn, htd2, hV, hGA, hM, hgl⟩ := id F
  refine lv_aload_n hx hb dL_law_537 rfl (lv_at hl 1 rfl) ?_
  refine lv_aload_n hx hb dL_law_538 rfl (lv_at hl 0 rfl) ?_
  refine lv_iload_n hx hb dL_law_539 rfl (lv_at hl 3 rfl) ?_
  refine lv_iconst (v := nI 1) hx hb dL_law_540 (by decide) ?_
  refine lv_iadd hx hb dL_law_541 ?_
  refine tp_i (nI_add _ _) ?_
  refine va_sld hx hb hX hbl hbA hS (vp_in_nI (by omega) (by omega)) dL_law_542 ?_
  refine tp_i (show _ = xs (6 * i + 1) by rw [nI_clamp (by omega)]) ?_
  refine vp_callSi (W.runV ⟨hx, hb, hml, hown, hts⟩ (c_count l E _ ad g hz n mk rfl (xs (6 * i + 1))) (cwV 1 hts gL_law_X4_count rfl rfl rfl (by decide +kernel) ⟨Nat.le_of_ble_eq_true rfl, Nat.le_of_ble_eq_true rfl⟩) (ePu_V hP hE (ci := 4) (k := 0) rfl rfl) rfl rfl hl.1 rfl (lv_room (Nat.le_of_ble_eq_true rfl)) dL_law_543 ⟨by show _ ≤ 600000; omega, by show _ ≤ 7302250; omega⟩) (fun r9 hr9 => ?_)
  subst hr9
  refine lv_aload_n hx hb dL_law_546 rfl (lv_at hl 2 rfl) ?_
  refine lv_aload_n hx hb dL_law_547 rfl (lv_at hl 0 rfl) ?_
  refine lv_iload_n hx hb dL_law_548 rfl (lv_at hl 3 rfl) ?_
  refine lv_iconst (v := nI 1) hx hb dL_law_549 (by decide) ?_
  refine lv_iadd hx hb dL_law_550 ?_
  refine tp_i (nI_add _ _) ?_
  refine va_sld hx hb hX hbl hbA hS (vp_in_nI (by omega) (by omega)) dL_law_551 ?_
  refine tp_i (show _ = xs (6 * i + 1) by rw [nI_clamp (by omega)]) ?_
  refine vp_callSi (W.runV ⟨hx, hb, hml, hown, hts⟩ (m_count l E am g hz n kd ch tm tx lm (fun j => nI (td j)) mk bs nw th pd (gm ++ (wX E ad g hz n mk (fun j => nI (td j)) gr cf ce ck rv st wo)) (xs (6 * i + 1))) (cwV 1 hts gL_law_X5_count rfl rfl rfl (by decide +kernel) ⟨Nat.le_of_ble_eq_true rfl, Nat.le_of_ble_eq_true rfl⟩) (ePu_V (vP_rot hP) hE (ci := 5) (k := 0) rfl rfl) rfl rfl hl.1 rfl (lv_room (Nat.le_of_ble_eq_true rfl)) dL_law_552 ⟨by show _ ≤ 600000; omega, by show _ ≤ 7302250; omega⟩) (fun r9 hr9 => ?_)
  subst hr9
  refine lv_icmp_eq (tgt := 574) hx hb dL_law_555 (by decide) (fun c9 => ?_) (fun c9 => absurd rfl c9)
  refine W.widen (k := cA + 2) (n := sA + 38) (by omega) (by omega) ?_
  exact K _ _ _ ⟨ad, am, g, hz, n, mk, td, gr, cf, ce, ck, rv, st, wo, kd, ch, tm, tx, lm, bs, nw, th, pd, ga, gb, gd, gm, F, hP, hD, hS, hl⟩
set_option maxHeartbeats 4000000 in
set_option maxRecDepth 100000 in
/-- trace -/
theorem law_c12 {p : Program} {l : Launch} {e : Env} {s : State} {m : MethodId} {below : List Frame} {meth : Method} {c : Code} {b L : Nat} {xs : Nat → Int32} (C0 : lw_At p s m meth c b L xs) {E : eT} (hE : eEv E s) {i : Nat} (hi : 6 * i + 6 ≤ L) (hL : L ≤ 3072) {cA sA : Nat} (hcA : cA + 2 ≤ 600000) (hsA : sA + 38 ≤ 7302250) (K : ∀ (H : Heap) (locs : List Loc) (ls : Array Slot), LI E s b i H locs ls → W p l e room_1 s m #[Value.ref b] below meth c H locs (cA + 2) (sA + 38) (lw_Z below #[Value.ref b] s) (F0 m 574 ls [])) {H : Heap} {locs : List Loc} {ls : Array Slot} (hI : LI E s b i H locs ls) : W p l e room_1 s m #[Value.ref b] below meth c H locs cA sA (lw_Z below #[Value.ref b] s) (F0 m 560 ls []) := by
  obtain ⟨hx, hb, hr, hml, hown, hts, hX, hbl, hlocks, hgv⟩ := C0
  have hts : ∀ w ∈ wsL_law, w.before #[Value.ref b] s = true := fun w h => hts w (wsL_law_in w h)
  have hown : s.vm.findClass RL = some m.cls := hown
  have hA : ∀ q : Nat, s.heap.size ≤ q → (fun q : Nat => s.heap.size ≤ q) q := fun _ h => h
  have hbA : ¬ (fun q : Nat => s.heap.size ≤ q) b := Nat.not_le.mpr hbl
  obtain ⟨ad, am, g, hz, n, mk, td, gr, cf, ce, ck, rv, st, wo, kd, ch, tm, tx, lm, bs, nw, th, pd, ga, gb, gd, gm, F, hP, hD, hS, hl⟩ := hI
  obtain ⟨hg2, hg32, hhz, hn, htd2, hV, hGA, hM, hgl⟩ := id F
  refine lv_aload_n hx hb dL_law_560 rfl (lv_at hl 1 rfl) ?_
  refine vp_callSl (W.runV ⟨hx, hb, hml, hown, hts⟩ (c_trace l E _ ad g hz n mk rfl) (cwV 0 hts gL_law_X4_trace rfl rfl rfl (by decide +kernel) ⟨Nat.le_of_ble_eq_true rfl, Nat.le_of_ble_eq_true rfl⟩) (ePu_V hP hE (ci := 4) (k := 0) rfl rfl) rfl rfl hl.1 rfl (lv_room (Nat.le_of_ble_eq_true rfl)) dL_law_561 ⟨by show _ ≤ 600000; omega, by show _ ≤ 7302250; omega⟩) (fun r9 hr9 => ?_)
  refine tp_l hr9 ?_
  refine lv_aload_n hx hb dL_law_564 rfl (lv_at hl 2 rfl) ?_
  refine vp_callSl (W.runV ⟨hx, hb, hml, hown, hts⟩ (m_trace l E am g hz n kd ch tm tx lm (fun j => nI (td j)) mk bs nw th pd (gm ++ (wX E ad g hz n mk (fun j => nI (td j)) gr cf ce ck rv st wo))) (cwV 0 hts gL_law_X5_trace rfl rfl rfl (by decide +kernel) ⟨Nat.le_of_ble_eq_true rfl, Nat.le_of_ble_eq_true rfl⟩) (ePu_V (vP_rot hP) hE (ci := 5) (k := 0) rfl rfl) rfl rfl hl.1 rfl (lv_room (Nat.le_of_ble_eq_true rfl)) dL_law_565 ⟨by show _ ≤ 600000; omega, by show _ ≤ 7302250; omega⟩) (fun r9 hr9 => ?_)
  refine tp_l hr9 ?_
  refine W.lcmp hx hb dL_law_568 ?_
  refine lv_if_eq (tgt := 574) hx hb dL_law_569 (by decide) (fun c9 => ?_) (fun c9 => absurd ((lg_cmp_eq _ _).mpr rfl) c9)
  refine W.widen (k := cA + 2) (n := sA + 38) (by omega) (by omega) ?_
  exact K _ _ _ ⟨ad, am, g, hz, n, mk, td, gr, cf, ce, ck, rv, st, wo, kd, ch, tm, tx, lm, bs, nw, th, pd, ga, gb, gd, gm, F, hP, hD, hS, hl⟩
