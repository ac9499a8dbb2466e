/-! THE WORLD OF THE CLASS: its places, and what a store makes of it -/
theorem vu_self {α : Type} (f : Nat → α) (k : Nat) : va_up f k (f k) = f := by
  funext j
  unfold va_up
  split
  · rename_i h; rw [h]
  · rfl
theorem vu_at {α : Type} (f : Nat → α) (k : Nat) (v : α) : va_up f k v k = v := if_pos rfl
theorem vu_no {α : Type} {f : Nat → α} {k j : Nat} {v : α} (h : j ≠ k) : va_up f k v j = f j := if_neg h
theorem xR_at {ad : Nat → Nat} {c i : Nat} (hi : i < 13) : va_rf (xR ad c (nI i).toNatClampNeg) = .ref (ad (13 + (13 * c + i))) := by
  rw [nI_clamp (by omega)]
  show va_rf (if i < 13 then _ else _) = _
  rw [if_pos hi]
  rfl
theorem xW2_at {ad : Nat → Nat} {i : Nat} (hi : i < 2) : va_rf (xW2 ad (nI i).toNatClampNeg) = .ref (ad (8 + i)) := by
  rw [nI_clamp (by omega)]
  show va_rf (if i < 2 then _ else _) = _
  rw [if_pos hi]
  rfl
section XW
variable {E : eT} {ad : Nat → Nat} {g hz n : Nat} {mk : Int64} {td : Nat → Int32} {gr : Nat → Option Nat} {cf ce ck : Nat → Nat} {rv : Nat → Nat → Int64} {st : Nat → Int32} {wo : Nat → Nat → Int64} {rest : va_W}
theorem wX_len : (wX E ad g hz n mk td gr cf ce ck rv st wo).length = 52 := by simp [wX]
theorem wX_C {c : Nat} (hc : c < 3) : (wX E ad g hz n mk td gr cf ce ck rv st wo ++ rest)[3 + c]? = some (ad (3 + c), xC ad cf ce ck c) := by
  rcases (show c = 0 ∨ c = 1 ∨ c = 2 by omega) with rfl | rfl | rfl <;> rfl
theorem wX_O {c : Nat} (hc : c < 3) : (wX E ad g hz n mk td gr cf ce ck rv st wo ++ rest)[10 + c]? = some (ad (10 + c), xO E 13 (xR ad c)) := by
  rcases (show c = 0 ∨ c = 1 ∨ c = 2 by omega) with rfl | rfl | rfl <;> rfl
theorem wX_W {b : Nat} (hb : b < 2) : (wX E ad g hz n mk td gr cf ce ck rv st wo ++ rest)[8 + b]? = some (ad (8 + b), xJ E 198 (wo b)) := by
  rcases (show b = 0 ∨ b = 1 by omega) with rfl | rfl <;> rfl
theorem wX_R {j : Nat} (hj : j < 39) : (wX E ad g hz n mk td gr cf ce ck rv st wo ++ rest)[13 + j]? = some (ad (13 + j), xJ E 33 (rv j)) := by
  rw [List.getElem?_append_left (by rw [wX_len]; omega)]
  unfold wX
  rw [List.getElem?_append_right (by simp)]
  simp [hj]
theorem wX_rest {k : Nat} : (wX E ad g hz n mk td gr cf ce ck rv st wo ++ rest)[52 + k]? = rest[k]? := by
  rw [List.getElem?_append_right (by rw [wX_len]; omega), wX_len]
  congr 1
  omega
theorem wX_setC {c f t k : Nat} (hc : c < 3) : (wX E ad g hz n mk td gr cf ce ck rv st wo ++ rest).set (3 + c) (ad (3 + c), .inr (0, [.int (nI (if c = 1 then 2 else 0)), .ref (ad (10 + c)), .int (nI f), .int (nI t), .int (nI k)])) = wX E ad g hz n mk td gr (va_up cf c f) (va_up ce c t) (va_up ck c k) rv st wo ++ rest := by
  rcases (show c = 0 ∨ c = 1 ∨ c = 2 by omega) with rfl | rfl | rfl <;> rfl
theorem wX_setCk {c k : Nat} (hc : c < 3) : (wX E ad g hz n mk td gr cf ce ck rv st wo ++ rest).set (3 + c) (ad (3 + c), .inr (0, [.int (nI (if c = 1 then 2 else 0)), .ref (ad (10 + c)), .int (nI (cf c)), .int (nI (ce c)), .int (nI k)])) = wX E ad g hz n mk td gr cf ce (va_up ck c k) rv st wo ++ rest := by
  rcases (show c = 0 ∨ c = 1 ∨ c = 2 by omega) with rfl | rfl | rfl <;> rfl
theorem wX_setW {b : Nat} {f : Nat → Int64} (hb : b < 2) : (wX E ad g hz n mk td gr cf ce ck rv st wo ++ rest).set (8 + b) (ad (8 + b), xJ E 198 f) = wX E ad g hz n mk td gr cf ce ck rv st (va_up wo b f) ++ rest := by
  rcases (show b = 0 ∨ b = 1 by omega) with rfl | rfl <;> rfl
theorem set_map_range {α : Type} (F : Nat → α) (x : α) : ∀ (N j : Nat), j < N → ((List.range N).map F).set j x = (List.range N).map (va_up F j x) := by
  intro N j hj
  apply List.ext_getElem?
  intro k
  rw [List.getElem?_set]
  by_cases h : j = k
  · subst h
    simp [hj, va_up]
  · rw [if_neg h]
    by_cases hk : k < N
    · simp [hk, va_up, Ne.symm h]
    · simp [hk]
theorem wX_setR {j : Nat} {f : Nat → Int64} (hj : j < 39) : (wX E ad g hz n mk td gr cf ce ck rv st wo ++ rest).set (13 + j) (ad (13 + j), xJ E 33 f) = wX E ad g hz n mk td gr cf ce ck (va_up rv j f) st wo ++ rest := by
  rw [List.set_append_left _ _ (by rw [wX_len]; omega)]
  congr 1
  unfold wX
  rw [List.set_append_right _ _ (by simp)]
  congr 1
  rw [show 13 + j - _ = j from by simp, set_map_range _ _ _ _ hj]
  apply List.map_congr_left
  intro k _
  unfold va_up
  split
  · rename_i h; subst h; rfl
  · rfl
theorem gAll_of {pl ga gb : Nat → Nat} {gd : Nat → gT} {N : Nat} (h : gAll E rest gr N pl ga gb gd) : gAll E (wX E ad g hz n mk td gr cf ce ck rv st wo ++ rest) gr N (fun i => 52 + pl i) ga gb gd := by
  intro i hi
  obtain ⟨h1, h2, h3, h4⟩ := h i hi
  refine ⟨h1, ?_, ?_, h4⟩
  · rw [wX_rest]; exact h2
  · rw [show 52 + pl i + 1 = 52 + (pl i + 1) by omega, wX_rest]; exact h3
end XW
theorem set_same {α : Type} : ∀ (l : List α) (k : Nat) (x : α), l[k]? = some x → l.set k x = l := by
  intro l k x h
  apply List.ext_getElem?
  intro j
  rw [List.getElem?_set]
  split
  · rename_i e; subst e
    have := (List.getElem?_eq_some_iff.mp h).1
    rw [if_pos this, h]
  · rfl
/-- what a row holds beyond its length doesn't matter -/
theorem va_P_re {D : va_G} {cl : List vw_C} {ws : va_W} {H : Heap} {k a : Nat} {e e' : va_E} (hP : va_P D cl ws H) (hk : ws[k]? = some (a, e)) (he : va_at D cl (a, e) H → va_at D cl (a, e') H) : va_P D cl (ws.set k (a, e')) H := by
  intro j q hq
  rw [List.getElem?_set] at hq
  split at hq
  · split at hq
    · cases hq
      exact he (hP k _ hk)
    · cases hq
  · exact hP j q hq
theorem arrV_congr (c : ClassId) {N : Nat} {f f' : Nat → Value} (h : ∀ j, j < N → f j = f' j) : arrV c N f = arrV c N f' := by
  unfold arrV
  congr 2
  funext j
  exact h j.val j.isLt
theorem xI_congr {D : va_G} {cl : List vw_C} {H : Heap} {a : Nat} {E : eT} {n : Nat} {f f' : Nat → Int32} (h : ∀ j, j < n → f j = f' j) (hP : va_at D cl (a, xI E n f) H) : va_at D cl (a, xI E n f') H := by
  have e : vp_cell (E.2 0) (n, .inl f) = vp_cell (E.2 0) (n, .inl f') := by
    rw [vp_cell_i, vp_cell_i]
    exact arrV_congr _ (fun j hj => by rw [h j hj])
  exact Eq.trans hP (congrArg some e)
theorem xJ_congr {D : va_G} {cl : List vw_C} {H : Heap} {a : Nat} {E : eT} {n : Nat} {f f' : Nat → Int64} (h : ∀ j, j < n → f j = f' j) (hP : va_at D cl (a, xJ E n f) H) : va_at D cl (a, xJ E n f') H := by
  have e : vp_cell (E.2 1) (n, .inr (.inl f)) = vp_cell (E.2 1) (n, .inr (.inl f')) := by
    rw [vp_cell_l, vp_cell_l]
    exact arrV_congr _ (fun j hj => by rw [h j hj])
  exact Eq.trans hP (congrArg some e)
theorem upd_nI {td : Nat → Nat} {k v : Nat} : upd (fun j => nI (td j)) k (nI v) = fun j => nI (va_up td k v j) := by
  funext j
  unfold upd va_up
  split <;> rfl
