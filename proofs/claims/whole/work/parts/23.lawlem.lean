/-! THE LAW: both sides answer alike -/
theorem vP_rot {D : va_G} {cl : List vw_C} {a b c : va_W} {H : Heap} (h : va_P D cl (a ++ (b ++ c)) H) : va_P D cl (b ++ (c ++ a)) H := by
  have h1 := va_P.swap (a := []) (b := a) (c := b ++ c) h
  rw [List.nil_append, List.append_assoc] at h1
  exact h1
theorem vD_rot {A : Nat → Prop} {a b c : va_W} (h : va_D A (a ++ (b ++ c))) : va_D A (b ++ (c ++ a)) := by
  have h1 := va_D.swap (a := []) (b := a) (c := b ++ c) h
  rw [List.nil_append, List.append_assoc] at h1
  exact h1
theorem vP_pre {D : va_G} {cl : List vw_C} {a b : va_W} {H : Heap} (h : va_P D cl (a ++ b) H) : va_P D cl a H := fun k q hk => h k q (by
  rw [List.getElem?_append_left (List.getElem?_eq_some_iff.mp hk).1]
  exact hk)
theorem vD_pre {A : Nat → Prop} {a b : va_W} (h : va_D A (a ++ b)) : va_D A a := by
  have e : ∀ (k : Nat) (q : Nat × va_E), a[k]? = some q → (a ++ b)[k]? = some q := fun k q hk => by
    rw [List.getElem?_append_left (List.getElem?_eq_some_iff.mp hk).1]
    exact hk
  exact ⟨fun i j p q h1 h2 h3 => h.1 i j p q (e i p h1) (e j q h2) h3, fun k q hk => h.2 k q (e k q hk)⟩
theorem nI_inj {a b : Nat} (ha : a < 2 ^ 31) (hb : b < 2 ^ 31) (h : nI a = nI b) : a = b := (nI_eq ha hb).mp h
/-- what holds between two calls -/
def lawF (E : eT) (g hz n : Nat) (td : Nat → Nat) (gr : Nat → Option Nat) (cf ce ck : Nat → Nat) (rv : Nat → Nat → Int64) (kd ch tm tx lm : Nat → Int32) (ga gb : Nat → Nat) (gd : Nat → gT) (gm : va_W) : Prop := 2 ≤ g ∧ g ≤ 32 ∧ hz ≤ 12 ∧ n ≤ 4 ∧ (∀ j, td j ≤ 32) ∧ chV g gd cf ce ck rv ∧ gAll E gm gr n (fun i => 2 * i) ga gb gd ∧ (∀ i, i < n → gArg (gd i) (kd i) (ch i) (tm i) (tx i) (lm i)) ∧ gm.length = 2 * n
theorem wM_len {E : eT} {am : Nat → Nat} {g hz n : Nat} {kd ch tm tx lm td : Nat → Int32} {tr : Int64} {bs nw th : Nat → Int64} {pd : Int64} : (wM E am g hz n kd ch tm tx lm td tr bs nw th pd).length = 10 := rfl
theorem gAll_m {E : eT} {am : Nat → Nat} {g hz n : Nat} {kd ch tm tx lm td : Nat → Int32} {tr : Int64} {bs nw th : Nat → Int64} {pd : Int64} {gr : Nat → Option Nat} {N : Nat} {ga gb : Nat → Nat} {gd : Nat → gT} {gm : va_W} (h : gAll E gm gr N (fun i => 2 * i) ga gb gd) : gAll E (wM E am g hz n kd ch tm tx lm td tr bs nw th pd ++ gm) gr N (fun i => 10 + 2 * i) ga gb gd := by
  intro i hi
  obtain ⟨h1, h2, h3, h4⟩ := h i hi
  refine ⟨h1, ?_, ?_, h4⟩
  · show (_ ++ gm)[10 + 2 * i]? = _
    rw [List.getElem?_append_right (by rw [wM_len]; omega), wM_len, show 10 + 2 * i - 10 = 2 * i by omega]; exact h2
  · show (_ ++ gm)[10 + 2 * i + 1]? = _
    rw [List.getElem?_append_right (by rw [wM_len]; omega), wM_len, show 10 + 2 * i + 1 - 10 = 2 * i + 1 by omega]; exact h3
theorem chV_0 {g g1 : Nat} {gd gd1 : Nat → gT} {cf ce ck : Nat → Nat} {rv : Nat → Nat → Int64} (h : chV g gd cf ce ck rv) : chV g1 gd1 cf ce (fun _ => 0) rv := fun c hc => ⟨(h c hc).1, (h c hc).2.1, Nat.zero_le _, fun i hi => absurd hi (Nat.not_lt_zero i)⟩
theorem set_det {g hz : Nat} {td : Nat → Int32} {ck ck' : Nat → Nat} {wv vv r r' : Int32} {g1 g1' hz1 hz1' : Nat} {td1 td1' : Nat → Int32} {ck1 ck1' : Nat → Nat} (h : set_of g hz td ck wv vv r g1 hz1 td1 ck1) (h' : set_of g hz td ck' wv vv r' g1' hz1' td1' ck1') : r' = r ∧ g1' = g1 ∧ hz1' = hz1 ∧ td1' = td1 := by
  have d01 : ¬ ((0 : Int32) = 1) := by decide
  rcases h with ⟨v, rfl, rfl, a1, a2, rfl, rfl, rfl, rfl, rfl⟩ | ⟨v, rfl, rfl, a2, rfl, rfl, rfl, rfl, rfl⟩ | ⟨b1, b2, rfl, rfl, rfl, rfl, rfl⟩
  · rcases h' with ⟨v', -, e, a1', a2', rfl, rfl, rfl, rfl, rfl⟩ | ⟨v', e, -⟩ | ⟨b1, -⟩
    · have := nI_inj (by omega) (by omega) e
      exact ⟨rfl, this.symm, rfl, rfl⟩
    · exact absurd e d01
    · exact absurd ⟨rfl, (nI_rngI (by omega) (by decide) (by decide)).mpr ⟨a1, a2⟩⟩ b1
  · rcases h' with ⟨v', e, -⟩ | ⟨v', -, e, a2', rfl, rfl, rfl, rfl, rfl⟩ | ⟨-, b2, -⟩
    · exact absurd e.symm d01
    · have := nI_inj (by omega) (by omega) e
      exact ⟨rfl, rfl, this.symm, rfl⟩
    · exact absurd ⟨rfl, (nI_rngI (by omega) (by decide) (by decide)).mpr ⟨by omega, a2⟩⟩ b2
  · rcases h' with ⟨v', rfl, rfl, a1', a2', -⟩ | ⟨v', rfl, rfl, a2', -⟩ | ⟨-, -, rfl, rfl, rfl, rfl, rfl⟩
    · exact absurd ⟨rfl, (nI_rngI (by omega) (by decide) (by decide)).mpr ⟨a1', a2'⟩⟩ b1
    · exact absurd ⟨rfl, (nI_rngI (by omega) (by decide) (by decide)).mpr ⟨by omega, a2'⟩⟩ b2
    · exact ⟨rfl, rfl, rfl, rfl⟩
theorem set_out {E : eT} {g hz n : Nat} {td : Nat → Nat} {gr : Nat → Option Nat} {cf ce ck : Nat → Nat} {rv : Nat → Nat → Int64} {kd ch tm tx lm : Nat → Int32} {ga gb : Nat → Nat} {gd : Nat → gT} {gm : va_W} {wv vv r : Int32} {g1 hz1 : Nat} {td1 : Nat → Int32} {ck1 : Nat → Nat} (F : lawF E g hz n td gr cf ce ck rv kd ch tm tx lm ga gb gd gm) (h : set_of g hz (fun j => nI (td j)) ck wv vv r g1 hz1 td1 ck1) : ∃ td2 : Nat → Nat, td1 = (fun j => nI (td2 j)) ∧ lawF E g1 hz1 n td2 gr cf ce ck1 rv kd ch tm tx lm ga gb gd gm := by
  obtain ⟨f1, f2, f3, f4, f5, f6, f7, f8, f9⟩ := F
  rcases h with ⟨v, -, -, a1, a2, -, rfl, rfl, rfl, rfl⟩ | ⟨v, -, -, a2, -, rfl, rfl, rfl, rfl⟩ | ⟨-, -, -, rfl, rfl, rfl, rfl⟩
  · exact ⟨fun _ => 0, rfl, a1, a2, f3, f4, fun _ => Nat.zero_le _, chV_0 f6, f7, f8, f9⟩
  · exact ⟨td, rfl, f1, f2, a2, f4, f5, f6, f7, f8, f9⟩
  · exact ⟨td, rfl, f1, f2, f3, f4, f5, f6, f7, f8, f9⟩
theorem win_det {n : Nat} {gd : Nat → gT} {mk : Int64} {iv sv r r' : Int32} {m1 m1' : Int64} (hn : n ≤ 4) (h : win_of n gd mk iv sv r m1) (h' : win_of n gd mk iv sv r' m1') : r' = r ∧ m1' = m1 := by
  rcases h with ⟨i, st, rfl, rfl, a1, a2, a3, rfl, rfl⟩ | ⟨b, rfl, rfl⟩
  · rcases h' with ⟨i', st', e1, e2, a1', a2', a3', rfl, rfl⟩ | ⟨b, -⟩
    · have h1 := nI_inj (by omega) (by omega) e1
      have h2 := nI_inj (by omega) (by omega) e2
      subst h1; subst h2
      exact ⟨rfl, rfl⟩
    · exact absurd ⟨i, st, rfl, rfl, a1, a2, a3⟩ b
  · rcases h' with ⟨i', st', e1, e2, a1', a2', a3', -⟩ | ⟨-, rfl, rfl⟩
    · exact absurd ⟨i', st', e1, e2, a1', a2', a3'⟩ b
    · exact ⟨rfl, rfl⟩
theorem bst_det {g hz n : Nat} {gd : Nat → gT} {what : Nat} {qv tv : Int32} {r r' : Int64} (hg : g ≤ 32) (hhz : hz ≤ 12) (h : bst_of g hz n gd what qv tv r) (h' : bst_of g hz n gd what qv tv r') : r' = r := by
  rcases h with ⟨q, t, rfl, rfl, a1, a2, h⟩ | ⟨b, rfl⟩
  · rcases h' with ⟨q', t', e1, e2, a1', a2', h'⟩ | ⟨b, -⟩
    · have h1 := nI_inj (by omega) (by omega) e1
      have h2 := nI_inj (by omega) (by omega) e2
      subst h1; subst h2
      rcases h with ⟨c1, rfl⟩ | ⟨c1, rfl⟩ <;> rcases h' with ⟨c2, rfl⟩ | ⟨c2, rfl⟩ <;> first | rfl | omega
    · exact absurd ⟨(nI_rngI (by omega) (by decide) (by omega)).mpr ⟨by omega, a1⟩, (nI_rngI (by omega) (by decide) (by omega)).mpr ⟨by omega, a2⟩⟩ b
  · rcases h' with ⟨q', t', rfl, rfl, a1', a2', -⟩ | ⟨-, rfl⟩
    · exact absurd ⟨(nI_rngI (by omega) (by decide) (by omega)).mpr ⟨by omega, a1'⟩, (nI_rngI (by omega) (by decide) (by omega)).mpr ⟨by omega, a2'⟩⟩ b
    · rfl
theorem sts_det {g hz n : Nat} {gd : Nat → gT} {iv qv tv : Int32} {r r' : Int64} (hg : g ≤ 32) (hhz : hz ≤ 12) (hn : n ≤ 4) (h : sts_of g hz n gd iv qv tv r) (h' : sts_of g hz n gd iv qv tv r') : r' = r := by
  rcases h with ⟨i, q, t, rfl, rfl, rfl, a1, a2, a3, a4, rfl⟩ | ⟨b, rfl⟩
  · rcases h' with ⟨i', q', t', e1, e2, e3, a1', a2', a3', a4', rfl⟩ | ⟨b, -⟩
    · have h1 := nI_inj (by omega) (by omega) e1
      have h2 := nI_inj (by omega) (by omega) e2
      have h3 := nI_inj (by omega) (by omega) e3
      subst h1; subst h2; subst h3
      rfl
    · exact absurd ⟨i, q, t, rfl, rfl, rfl, a1, a2, a3, a4⟩ b
  · rcases h' with ⟨i', q', t', e1, e2, e3, a1', a2', a3', a4', -⟩ | ⟨-, rfl⟩
    · exact absurd ⟨i', q', t', e1, e2, e3, a1', a2', a3', a4'⟩ b
    · rfl
theorem tel_det {g : Nat} {td : Nat → Nat} {qv vv r r' : Int32} {t1 t1' : Nat → Nat} (hg2 : 2 ≤ g) (hg : g ≤ 32) (h : tel_of g td qv vv r t1) (h' : tel_of g td qv vv r' t1') : r' = r ∧ t1' = t1 := by
  rcases h with ⟨q, v, rfl, rfl, a1, a2, a3, rfl, rfl⟩ | ⟨b, rfl, rfl⟩
  · rcases h' with ⟨q', v', e1, e2, a1', a2', a3', rfl, rfl⟩ | ⟨b, -⟩
    · have h1 := nI_inj (by omega) (by omega) e1
      have h2 := nI_inj (by omega) (by omega) e2
      subst h1; subst h2
      exact ⟨rfl, rfl⟩
    · exact absurd ⟨(nI_rngI (by omega) (by decide) (by omega)).mpr ⟨a1, by omega⟩, (nI_rngI (by omega) (by decide) (by decide)).mpr ⟨by omega, a3⟩⟩ b
  · rcases h' with ⟨q', v', rfl, rfl, a1', a2', a3', -⟩ | ⟨-, rfl, rfl⟩
    · exact absurd ⟨(nI_rngI (by omega) (by decide) (by omega)).mpr ⟨a1', by omega⟩, (nI_rngI (by omega) (by decide) (by decide)).mpr ⟨by omega, a3'⟩⟩ b
    · exact ⟨rfl, rfl⟩
theorem tel_le {g : Nat} {td : Nat → Nat} {qv vv r : Int32} {t1 : Nat → Nat} (ht : ∀ j, td j ≤ 32) (h : tel_of g td qv vv r t1) : ∀ j, t1 j ≤ 32 := by
  rcases h with ⟨q, v, rfl, rfl, a1, a2, a3, rfl, rfl⟩ | ⟨b, rfl, rfl⟩
  · intro j
    by_cases e : j = q
    · subst e; rw [vu_at]; exact a3
    · rw [vu_no e]; exact ht j
  · exact ht
theorem stk_det {g n : Nat} {gd : Nat → gT} {td : Nat → Nat} {pv iv qv r r' : Int32} (h : stk_of g n gd td pv iv qv r) (h' : stk_of g n gd td pv iv qv r') : r' = r := by
  by_cases hx : ∃ (p i q : Nat), pv = nI p ∧ iv = nI i ∧ qv = nI q ∧ p ≤ 2 ∧ i < n ∧ 1 ≤ q ∧ q < g
  · obtain ⟨p, i, q, e1, e2, e3, a1, a2, a3, a4⟩ := hx
    rw [h.1 p i q e1 e2 e3 a1 a2 a3 a4, h'.1 p i q e1 e2 e3 a1 a2 a3 a4]
  · rw [h.2 hx, h'.2 hx]
theorem pln_det {g hz n : Nat} {gd : Nat → gT} {td : Nat → Nat} {pv iv qv tv wv : Int32} {r r' : Int64} (hg : g ≤ 32) (hhz : hz ≤ 12) (hn : n ≤ 4) (h : pln_of g hz n gd td pv iv qv tv wv r) (h' : pln_of g hz n gd td pv iv qv tv wv r') : r' = r := by
  rcases h with ⟨p, i, q, t, w, rfl, rfl, rfl, rfl, rfl, a1, a2, a3, a4, a5, rfl⟩ | ⟨b, rfl⟩
  · rcases h' with ⟨p', i', q', t', w', e1, e2, e3, e4, e5, a1', a2', a3', a4', a5', rfl⟩ | ⟨b, -⟩
    · have h1 := nI_inj (by omega) (by omega) e1
      have h2 := nI_inj (by omega) (by omega) e2
      have h3 := nI_inj (by omega) (by omega) e3
      have h4 := nI_inj (by omega) (by omega) e4
      have h5 := nI_inj (by omega) (by omega) e5
      subst h1; subst h2; subst h3; subst h4; subst h5
      rfl
    · exact absurd ⟨p, i, q, t, w, rfl, rfl, rfl, rfl, rfl, a1, a2, a3, a4, a5⟩ b
  · rcases h' with ⟨p', i', q', t', w', e1, e2, e3, e4, e5, a1', a2', a3', a4', a5', -⟩ | ⟨-, rfl⟩
    · exact absurd ⟨p', i', q', t', w', e1, e2, e3, e4, e5, a1', a2', a3', a4', a5'⟩ b
    · rfl
theorem bld_det {g hz n : Nat} {gd : Nat → gT} {td : Nat → Nat} {iv qv tv r r' : Int32} (hg : g ≤ 32) (hhz : hz ≤ 12) (hn : n ≤ 4) (h : bld_of g hz n gd td iv qv tv r) (h' : bld_of g hz n gd td iv qv tv r') : r' = r := by
  rcases h with ⟨i, q, t, rfl, rfl, rfl, a1, a2, a3, rfl⟩ | ⟨b, rfl⟩
  · rcases h' with ⟨i', q', t', e1, e2, e3, a1', a2', a3', rfl⟩ | ⟨b, -⟩
    · have h1 := nI_inj (by omega) (by omega) e1
      have h2 := nI_inj (by omega) (by omega) e2
      have h3 := nI_inj (by omega) (by omega) e3
      subst h1; subst h2; subst h3
      rfl
    · exact absurd ⟨i, q, t, rfl, rfl, rfl, a1, a2, a3⟩ b
  · rcases h' with ⟨i', q', t', e1, e2, e3, a1', a2', a3', -⟩ | ⟨-, rfl⟩
    · exact absurd ⟨i', q', t', e1, e2, e3, a1', a2', a3'⟩ b
    · rfl
/-- a game more -/
theorem game_out {E : eT} {g hz n : Nat} {td : Nat → Nat} {gr : Nat → Option Nat} {cf ce ck : Nat → Nat} {rv : Nat → Nat → Int64} {kd ch tm tx lm : Nat → Int32} {ga gb : Nat → Nat} {gd : Nat → gT} {gm : va_W} {d : gT} {q b : Nat} {kv cv mv xv lv : Int32} (F : lawF E g hz n td gr cf ce ck rv kd ch tm tx lm ga gb gd gm) (hn : n < 4) (hd : gArg d kv cv mv xv lv) : lawF E g hz (n + 1) td (va_up gr n (some q)) cf ce (fun _ => 0) rv (upd kd n kv) (upd ch n cv) (upd tm n mv) (upd tx n xv) (upd lm n lv) (va_up ga n q) (va_up gb n b) (va_up gd n d) (gm ++ [(q, gmE d b), (b, gnE E d)]) := by
  obtain ⟨f1, f2, f3, f4, f5, f6, f7, f8, f9⟩ := F
  refine ⟨f1, f2, f3, by omega, f5, chV_0 f6, fun i hi => ?_, fun i hi => ?_, by rw [List.length_append, f9]; simp; omega⟩
  · by_cases e : i = n
    · subst e
      rw [vu_at, vu_at, vu_at, vu_at]
      refine ⟨rfl, ?_, ?_, hd.1⟩
      · show (gm ++ [(q, gmE d b), (b, gnE E d)])[2 * i]? = _
        rw [← f9]; exact app_2a gm _ _
      · show (gm ++ [(q, gmE d b), (b, gnE E d)])[2 * i + 1]? = _
        rw [← f9]; exact app_2b gm _ _
    · rw [vu_no e, vu_no e, vu_no e, vu_no e]
      obtain ⟨h1, h2, h3, h4⟩ := f7 i (by omega)
      refine ⟨h1, ?_, ?_, h4⟩
      · show (gm ++ _)[2 * i]? = _
        rw [List.getElem?_append_left (by omega)]; exact h2
      · show (gm ++ _)[2 * i + 1]? = _
        rw [List.getElem?_append_left (by omega)]; exact h3
  · by_cases e : i = n
    · subst e
      rw [vu_at, pk_us, pk_us, pk_us, pk_us, pk_us]; exact hd
    · rw [vu_no e, pk_un e, pk_un e, pk_un e, pk_un e, pk_un e]; exact f8 i (by omega)
/-- a game less -/
theorem drop_out {E : eT} {g hz n : Nat} {td : Nat → Nat} {gr : Nat → Option Nat} {cf ce ck : Nat → Nat} {rv : Nat → Nat → Int64} {kd ch tm tx lm : Nat → Int32} {ga gb : Nat → Nat} {gd : Nat → gT} {gm : va_W} (F : lawF E g hz n td gr cf ce ck rv kd ch tm tx lm ga gb gd gm) (hn : 1 ≤ n) : lawF E g hz (n - 1) td (va_up gr (n - 1) none) cf ce (fun _ => 0) rv kd ch tm tx lm ga gb gd (gm.take (2 * (n - 1))) := by
  obtain ⟨f1, f2, f3, f4, f5, f6, f7, f8, f9⟩ := F
  refine ⟨f1, f2, f3, by omega, f5, chV_0 f6, fun i hi => ?_, fun i hi => f8 i (by omega), by rw [List.length_take]; omega⟩
  obtain ⟨h1, h2, h3, h4⟩ := f7 i (by omega)
  refine ⟨by rw [vu_no (by omega)]; exact h1, ?_, ?_, h4⟩
  · show (gm.take _)[2 * i]? = _
    rw [List.getElem?_take, if_pos (by omega)]; exact h2
  · show (gm.take _)[2 * i + 1]? = _
    rw [List.getElem?_take, if_pos (by omega)]; exact h3
theorem take_P {D : va_G} {cl : List vw_C} {a b c : va_W} {k : Nat} {H : Heap} (h : va_P D cl (a ++ (b ++ c)) H) : va_P D cl (a ++ (b ++ c.take k)) H := by
  rw [← List.take_append_drop k c, ← List.append_assoc b, ← List.append_assoc a] at h
  exact vP_pre h
theorem take_D {A : Nat → Prop} {a b c : va_W} {k : Nat} (h : va_D A (a ++ (b ++ c))) : va_D A (a ++ (b ++ c.take k)) := by
  rw [← List.take_append_drop k c, ← List.append_assoc b, ← List.append_assoc a] at h
  exact vD_pre h
