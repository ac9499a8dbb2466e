section
-- ===== PART A: goes FIRST, ahead of the names: the tables' words, and 'selects' of the private methods out of them =====
/-- a private method of a class that the tables say can be made, by its rows of tables_1 -/
def lw_okq (q : MethodName × Nat) : Prop := (q.1.cls ≠ "java/lang/invoke/MethodHandle" ∧ q.1.cls ≠ "java/lang/invoke/VarHandle") ∧ Cond.instantiable q.1.cls q.2 ∈ tables_1 ∧ Cond.privateMethod q.1 ∈ tables_1 ∧ Cond.instanceMethod q.1 ∈ tables_1
theorem lw_p0 : lw_okq (⟨"StakeHouse", "changeGoal", "(I)I"⟩, 11) := ⟨⟨by decide +kernel, by decide +kernel⟩, List.mem_of_getElem? (i := 9) (by decide +kernel), List.mem_of_getElem? (i := 92) (by decide +kernel), List.mem_of_getElem? (i := 93) (by decide +kernel)⟩
theorem lw_p1 : lw_okq (⟨"StakeHouse", "forgetCharts", "()V"⟩, 11) := ⟨⟨by decide +kernel, by decide +kernel⟩, List.mem_of_getElem? (i := 9) (by decide +kernel), List.mem_of_getElem? (i := 96) (by decide +kernel), List.mem_of_getElem? (i := 97) (by decide +kernel)⟩
theorem lw_p2 : lw_okq (⟨"StakeHouse", "gameAt", "(I)LStakeHouse$EvenGame;"⟩, 11) := ⟨⟨by decide +kernel, by decide +kernel⟩, List.mem_of_getElem? (i := 9) (by decide +kernel), List.mem_of_getElem? (i := 184) (by decide +kernel), List.mem_of_getElem? (i := 185) (by decide +kernel)⟩
theorem lw_p3 : lw_okq (⟨"StakeHouse", "greatestFrom", "(LStakeHouse$Chart;II)J"⟩, 11) := ⟨⟨by decide +kernel, by decide +kernel⟩, List.mem_of_getElem? (i := 9) (by decide +kernel), List.mem_of_getElem? (i := 206) (by decide +kernel), List.mem_of_getElem? (i := 207) (by decide +kernel)⟩
theorem lw_p4 : lw_okq (⟨"StakeHouse", "isSpot", "(II)Z"⟩, 11) := ⟨⟨by decide +kernel, by decide +kernel⟩, List.mem_of_getElem? (i := 9) (by decide +kernel), List.mem_of_getElem? (i := 210) (by decide +kernel), List.mem_of_getElem? (i := 211) (by decide +kernel)⟩
theorem lw_p5 : lw_okq (⟨"StakeHouse", "chartRow", "(LStakeHouse$Chart;I)[J"⟩, 11) := ⟨⟨by decide +kernel, by decide +kernel⟩, List.mem_of_getElem? (i := 9) (by decide +kernel), List.mem_of_getElem? (i := 220) (by decide +kernel), List.mem_of_getElem? (i := 221) (by decide +kernel)⟩
theorem lw_p6 : lw_okq (⟨"StakeHouse", "endWorth", "(II)J"⟩, 11) := ⟨⟨by decide +kernel, by decide +kernel⟩, List.mem_of_getElem? (i := 9) (by decide +kernel), List.mem_of_getElem? (i := 224) (by decide +kernel), List.mem_of_getElem? (i := 225) (by decide +kernel)⟩
theorem lw_p7 : lw_okq (⟨"StakeHouse", "greatestTurn", "(LStakeHouse$Chart;[JI)J"⟩, 11) := ⟨⟨by decide +kernel, by decide +kernel⟩, List.mem_of_getElem? (i := 9) (by decide +kernel), List.mem_of_getElem? (i := 228) (by decide +kernel), List.mem_of_getElem? (i := 229) (by decide +kernel)⟩
theorem lw_p8 : lw_okq (⟨"StakeHouse", "isPlayed", "(I)Z"⟩, 11) := ⟨⟨by decide +kernel, by decide +kernel⟩, List.mem_of_getElem? (i := 9) (by decide +kernel), List.mem_of_getElem? (i := 233) (by decide +kernel), List.mem_of_getElem? (i := 234) (by decide +kernel)⟩
theorem lw_p9 : lw_okq (⟨"StakeHouse", "greatestStake", "(LStakeHouse$EvenGame;[JI)J"⟩, 11) := ⟨⟨by decide +kernel, by decide +kernel⟩, List.mem_of_getElem? (i := 9) (by decide +kernel), List.mem_of_getElem? (i := 237) (by decide +kernel), List.mem_of_getElem? (i := 238) (by decide +kernel)⟩
theorem lw_p10 : lw_okq (⟨"StakeHouse", "raised", "(LStakeHouse$EvenGame;II)I"⟩, 11) := ⟨⟨by decide +kernel, by decide +kernel⟩, List.mem_of_getElem? (i := 9) (by decide +kernel), List.mem_of_getElem? (i := 247) (by decide +kernel), List.mem_of_getElem? (i := 248) (by decide +kernel)⟩
theorem lw_p11 : lw_okq (⟨"StakeHouse", "bestStakes", "(LStakeHouse$EvenGame;IJ[J)J"⟩, 11) := ⟨⟨by decide +kernel, by decide +kernel⟩, List.mem_of_getElem? (i := 9) (by decide +kernel), List.mem_of_getElem? (i := 261) (by decide +kernel), List.mem_of_getElem? (i := 262) (by decide +kernel)⟩
theorem lw_p12 : lw_okq (⟨"StakeHouse", "planned", "(ILStakeHouse$EvenGame;II)I"⟩, 11) := ⟨⟨by decide +kernel, by decide +kernel⟩, List.mem_of_getElem? (i := 9) (by decide +kernel), List.mem_of_getElem? (i := 277) (by decide +kernel), List.mem_of_getElem? (i := 278) (by decide +kernel)⟩
theorem lw_p13 : lw_okq (⟨"StakeHouse", "boldStake", "(LStakeHouse$EvenGame;I)I"⟩, 11) := ⟨⟨by decide +kernel, by decide +kernel⟩, List.mem_of_getElem? (i := 9) (by decide +kernel), List.mem_of_getElem? (i := 281) (by decide +kernel), List.mem_of_getElem? (i := 282) (by decide +kernel)⟩
theorem lw_p14 : lw_okq (⟨"StakeHouse", "planWorth", "(ILStakeHouse$EvenGame;III)J"⟩, 11) := ⟨⟨by decide +kernel, by decide +kernel⟩, List.mem_of_getElem? (i := 9) (by decide +kernel), List.mem_of_getElem? (i := 289) (by decide +kernel), List.mem_of_getElem? (i := 290) (by decide +kernel)⟩
theorem lw_p15 : lw_okq (⟨"StakeHouse", "layRung", "(ILStakeHouse$EvenGame;II)V"⟩, 11) := ⟨⟨by decide +kernel, by decide +kernel⟩, List.mem_of_getElem? (i := 9) (by decide +kernel), List.mem_of_getElem? (i := 293) (by decide +kernel), List.mem_of_getElem? (i := 294) (by decide +kernel)⟩
def lw_privs_1 : List (MethodName × Nat) := [(⟨"StakeHouse", "changeGoal", "(I)I"⟩, 11), (⟨"StakeHouse", "forgetCharts", "()V"⟩, 11), (⟨"StakeHouse", "gameAt", "(I)LStakeHouse$EvenGame;"⟩, 11), (⟨"StakeHouse", "greatestFrom", "(LStakeHouse$Chart;II)J"⟩, 11), (⟨"StakeHouse", "isSpot", "(II)Z"⟩, 11), (⟨"StakeHouse", "chartRow", "(LStakeHouse$Chart;I)[J"⟩, 11), (⟨"StakeHouse", "endWorth", "(II)J"⟩, 11), (⟨"StakeHouse", "greatestTurn", "(LStakeHouse$Chart;[JI)J"⟩, 11), (⟨"StakeHouse", "isPlayed", "(I)Z"⟩, 11), (⟨"StakeHouse", "greatestStake", "(LStakeHouse$EvenGame;[JI)J"⟩, 11), (⟨"StakeHouse", "raised", "(LStakeHouse$EvenGame;II)I"⟩, 11), (⟨"StakeHouse", "bestStakes", "(LStakeHouse$EvenGame;IJ[J)J"⟩, 11), (⟨"StakeHouse", "planned", "(ILStakeHouse$EvenGame;II)I"⟩, 11), (⟨"StakeHouse", "boldStake", "(LStakeHouse$EvenGame;I)I"⟩, 11), (⟨"StakeHouse", "planWorth", "(ILStakeHouse$EvenGame;III)J"⟩, 11), (⟨"StakeHouse", "layRung", "(ILStakeHouse$EvenGame;II)V"⟩, 11)]
theorem lw_r1 : ∀ q ∈ lw_privs_1, lw_okq q := List.forall_mem_cons.mpr ⟨lw_p0, List.forall_mem_cons.mpr ⟨lw_p1, List.forall_mem_cons.mpr ⟨lw_p2, List.forall_mem_cons.mpr ⟨lw_p3, List.forall_mem_cons.mpr ⟨lw_p4, List.forall_mem_cons.mpr ⟨lw_p5, List.forall_mem_cons.mpr ⟨lw_p6, List.forall_mem_cons.mpr ⟨lw_p7, List.forall_mem_cons.mpr ⟨lw_p8, List.forall_mem_cons.mpr ⟨lw_p9, List.forall_mem_cons.mpr ⟨lw_p10, List.forall_mem_cons.mpr ⟨lw_p11, List.forall_mem_cons.mpr ⟨lw_p12, List.forall_mem_cons.mpr ⟨lw_p13, List.forall_mem_cons.mpr ⟨lw_p14, List.forall_mem_cons.mpr ⟨lw_p15, fun _ h => absurd h List.not_mem_nil⟩⟩⟩⟩⟩⟩⟩⟩⟩⟩⟩⟩⟩⟩⟩⟩
theorem lw_p16 : lw_okq (⟨"StakeHouse", "playRung", "(LStakeHouse$EvenGame;IIII)V"⟩, 11) := ⟨⟨by decide +kernel, by decide +kernel⟩, List.mem_of_getElem? (i := 9) (by decide +kernel), List.mem_of_getElem? (i := 297) (by decide +kernel), List.mem_of_getElem? (i := 298) (by decide +kernel)⟩
theorem lw_p17 : lw_okq (⟨"StakeHouseModel", "isGame", "(I)Z"⟩, 14) := ⟨⟨by decide +kernel, by decide +kernel⟩, List.mem_of_getElem? (i := 313) (by decide +kernel), List.mem_of_getElem? (i := 381) (by decide +kernel), List.mem_of_getElem? (i := 382) (by decide +kernel)⟩
theorem lw_p18 : lw_okq (⟨"StakeHouseModel", "winOf", "(II)I"⟩, 14) := ⟨⟨by decide +kernel, by decide +kernel⟩, List.mem_of_getElem? (i := 313) (by decide +kernel), List.mem_of_getElem? (i := 387) (by decide +kernel), List.mem_of_getElem? (i := 388) (by decide +kernel)⟩
theorem lw_p19 : lw_okq (⟨"StakeHouseModel", "isPurse", "(I)Z"⟩, 14) := ⟨⟨by decide +kernel, by decide +kernel⟩, List.mem_of_getElem? (i := 313) (by decide +kernel), List.mem_of_getElem? (i := 395) (by decide +kernel), List.mem_of_getElem? (i := 396) (by decide +kernel)⟩
theorem lw_p20 : lw_okq (⟨"StakeHouseModel", "work", "(IZII)V"⟩, 14) := ⟨⟨by decide +kernel, by decide +kernel⟩, List.mem_of_getElem? (i := 313) (by decide +kernel), List.mem_of_getElem? (i := 401) (by decide +kernel), List.mem_of_getElem? (i := 402) (by decide +kernel)⟩
theorem lw_p21 : lw_okq (⟨"StakeHouseModel", "mostAt", "(II)I"⟩, 14) := ⟨⟨by decide +kernel, by decide +kernel⟩, List.mem_of_getElem? (i := 313) (by decide +kernel), List.mem_of_getElem? (i := 406) (by decide +kernel), List.mem_of_getElem? (i := 407) (by decide +kernel)⟩
theorem lw_p22 : lw_okq (⟨"StakeHouseModel", "worth", "(IIII)J"⟩, 14) := ⟨⟨by decide +kernel, by decide +kernel⟩, List.mem_of_getElem? (i := 313) (by decide +kernel), List.mem_of_getElem? (i := 410) (by decide +kernel), List.mem_of_getElem? (i := 411) (by decide +kernel)⟩
theorem lw_p23 : lw_okq (⟨"StakeHouseModel", "behind", "(III)I"⟩, 14) := ⟨⟨by decide +kernel, by decide +kernel⟩, List.mem_of_getElem? (i := 313) (by decide +kernel), List.mem_of_getElem? (i := 414) (by decide +kernel), List.mem_of_getElem? (i := 415) (by decide +kernel)⟩
theorem lw_p24 : lw_okq (⟨"StakeHouseModel", "stakeOf", "(III)I"⟩, 14) := ⟨⟨by decide +kernel, by decide +kernel⟩, List.mem_of_getElem? (i := 313) (by decide +kernel), List.mem_of_getElem? (i := 434) (by decide +kernel), List.mem_of_getElem? (i := 435) (by decide +kernel)⟩
theorem lw_p25 : lw_okq (⟨"StakeHouseModel", "follow", "(IIII)V"⟩, 14) := ⟨⟨by decide +kernel, by decide +kernel⟩, List.mem_of_getElem? (i := 313) (by decide +kernel), List.mem_of_getElem? (i := 445) (by decide +kernel), List.mem_of_getElem? (i := 446) (by decide +kernel)⟩
theorem lw_p26 : lw_okq (⟨"StakeHouseModel", "weightAt", "(I)J"⟩, 14) := ⟨⟨by decide +kernel, by decide +kernel⟩, List.mem_of_getElem? (i := 313) (by decide +kernel), List.mem_of_getElem? (i := 449) (by decide +kernel), List.mem_of_getElem? (i := 450) (by decide +kernel)⟩
def lw_privs_2 : List (MethodName × Nat) := [(⟨"StakeHouse", "playRung", "(LStakeHouse$EvenGame;IIII)V"⟩, 11), (⟨"StakeHouseModel", "isGame", "(I)Z"⟩, 14), (⟨"StakeHouseModel", "winOf", "(II)I"⟩, 14), (⟨"StakeHouseModel", "isPurse", "(I)Z"⟩, 14), (⟨"StakeHouseModel", "work", "(IZII)V"⟩, 14), (⟨"StakeHouseModel", "mostAt", "(II)I"⟩, 14), (⟨"StakeHouseModel", "worth", "(IIII)J"⟩, 14), (⟨"StakeHouseModel", "behind", "(III)I"⟩, 14), (⟨"StakeHouseModel", "stakeOf", "(III)I"⟩, 14), (⟨"StakeHouseModel", "follow", "(IIII)V"⟩, 14), (⟨"StakeHouseModel", "weightAt", "(I)J"⟩, 14)]
theorem lw_r2 : ∀ q ∈ lw_privs_2, lw_okq q := List.forall_mem_cons.mpr ⟨lw_p16, List.forall_mem_cons.mpr ⟨lw_p17, List.forall_mem_cons.mpr ⟨lw_p18, List.forall_mem_cons.mpr ⟨lw_p19, List.forall_mem_cons.mpr ⟨lw_p20, List.forall_mem_cons.mpr ⟨lw_p21, List.forall_mem_cons.mpr ⟨lw_p22, List.forall_mem_cons.mpr ⟨lw_p23, List.forall_mem_cons.mpr ⟨lw_p24, List.forall_mem_cons.mpr ⟨lw_p25, List.forall_mem_cons.mpr ⟨lw_p26, fun _ h => absurd h List.not_mem_nil⟩⟩⟩⟩⟩⟩⟩⟩⟩⟩⟩
def lw_privs : List (MethodName × Nat) := lw_privs_1 ++ (lw_privs_2)
def lw_tbl : List Cond := k2_sels lw_privs ++ tables_1
theorem lw_privs_ok : ∀ q ∈ lw_privs, lw_okq q := by
  show ∀ q ∈ lw_privs_1 ++ (lw_privs_2), lw_okq q
  exact List.forall_mem_append.mpr ⟨lw_r1, lw_r2⟩
end
section
/-! ===== BEGIN words of one list among another's, by their places ===== -/
theorem goodIn_r {big : List Cond} (ws : List Cond) (ps : List Nat) (hp : ws = ps.filterMap (fun i => big[i]?)) (h : ws.all goodWord = true) : GoodIn big ws := by
  intro w hw
  have h1 := List.all_eq_true.mp h w hw
  rw [hp] at hw
  obtain ⟨i, -, hi⟩ := List.mem_filterMap.mp hw
  have hm : w ∈ big := by first | exact List.mem_of_getElem? hi | exact List.getElem?_mem hi
  exact ⟨hm, good_of_word h1⟩
theorem goodIn_app {big a b : List Cond} (ha : GoodIn big a) (hb : GoodIn big b) : GoodIn big (a ++ b) := fun w h => (List.mem_append.mp h).elim (ha w) (hb w)
theorem goodIn_ca {big a b : List Cond} {c : Cond} (ha : GoodIn big (c :: a)) (hb : GoodIn big b) : GoodIn big (c :: (a ++ b)) := fun w h => (List.mem_cons.mp h).elim (fun e => ha w (List.mem_cons.mpr (Or.inl e))) (fun h => (List.mem_append.mp h).elim (fun h => ha w (List.mem_cons.mpr (Or.inr h))) (hb w))
theorem goodIn_sub {big ws : List Cond} (hm : ∀ w ∈ ws, w ∈ big) (h : ws.all goodWord = true) : GoodIn big ws := fun w hw => ⟨hm w hw, good_of_word (List.all_eq_true.mp h w hw)⟩
/-! ===== END ===== -/


/-! ===== BEGIN printed: names, fields, word lists, decode rows ===== -/
def RX0 : String := "StakeHouse$Chart"
def TX0 : u_T := fun k => match k with
  | 0 => ("StakeHouse$Chart", "what", "I", true)
  | 1 => ("StakeHouse$Chart", "rows", "[[J", true)
  | 2 => ("StakeHouse$Chart", "first", "I", false)
  | 3 => ("StakeHouse$Chart", "end", "I", false)
  | _ => ("StakeHouse$Chart", "known", "I", false)
def tyX0 : Nat → FieldType := fun k => match k with
  | 0 => .int
  | 1 => .array (.array .long)
  | 2 => .int
  | 3 => .int
  | _ => .int
abbrev wsX00 : List Cond := u_ws RX0 TX0 5
theorem nmX0 : ∀ a, a < 5 → ∀ b, b < 5 → a ≠ b → (TX0 a).2.1 ≠ (TX0 b).2.1 := by decide +kernel
theorem tyX0_ok : ∀ k, k < 5 → parseFieldDescriptor (TX0 k).2.2.1 = some (tyX0 k) := by decide +kernel
abbrev cX0_init : ByteArray := prog_2_method_1_code
def yX0_init : MethodName := ⟨RX0, "<init>", "(I)V"⟩
abbrev cX0_forget : ByteArray := prog_2_method_2_code
def yX0_forget : MethodName := ⟨RX0, "forget", "()V"⟩
abbrev cX0_cover : ByteArray := prog_2_method_3_code
def yX0_cover : MethodName := ⟨RX0, "cover", "(II)V"⟩
def RX1 : String := "StakeHouse$EvenGame"
def TX1 : u_T := fun k => match k with
  | 0 => ("StakeHouse$EvenGame", "chance", "I", true)
  | 1 => ("StakeHouse$EvenGame", "limit", "I", true)
  | _ => ("StakeHouse$EvenGame", "gains", "[I", true)
def tyX1 : Nat → FieldType := fun k => match k with
  | 0 => .int
  | 1 => .int
  | _ => .array .int
abbrev wsX10 : List Cond := u_ws RX1 TX1 3
theorem nmX1 : ∀ a, a < 3 → ∀ b, b < 3 → a ≠ b → (TX1 a).2.1 ≠ (TX1 b).2.1 := by decide +kernel
theorem tyX1_ok : ∀ k, k < 3 → parseFieldDescriptor (TX1 k).2.2.1 = some (tyX1 k) := by decide +kernel
abbrev cX1_init : ByteArray := prog_3_method_1_code
def yX1_init : MethodName := ⟨RX1, "<init>", "(II)V"⟩
abbrev cX1_keepGains : ByteArray := prog_3_method_2_code
def yX1_keepGains : MethodName := ⟨RX1, "keepGains", "()V"⟩
abbrev cX1_gain : ByteArray := prog_3_method_3_code
def yX1_gain : MethodName := ⟨RX1, "gain", "(I)I"⟩
abbrev cX1_mark : ByteArray := prog_3_method_4_code
def yX1_mark : MethodName := ⟨RX1, "mark", "()I"⟩
def RX2 : String := "StakeHouse$LongGame"
def TX2 : u_T := fun k => match k with
  | 0 => ("StakeHouse$EvenGame", "chance", "I", true)
  | 1 => ("StakeHouse$EvenGame", "limit", "I", true)
  | 2 => ("StakeHouse$EvenGame", "gains", "[I", true)
  | _ => ("StakeHouse$LongGame", "times", "I", true)
def tyX2 : Nat → FieldType := fun k => match k with
  | 0 => .int
  | 1 => .int
  | 2 => .array .int
  | _ => .int
abbrev wsX20 : List Cond := u_ws RX2 TX2 4
theorem nmX2 : ∀ a, a < 4 → ∀ b, b < 4 → a ≠ b → (TX2 a).2.1 ≠ (TX2 b).2.1 := by decide +kernel
theorem tyX2_ok : ∀ k, k < 4 → parseFieldDescriptor (TX2 k).2.2.1 = some (tyX2 k) := by decide +kernel
abbrev cX2_init : ByteArray := prog_4_method_1_code
def yX2_init : MethodName := ⟨RX2, "<init>", "(III)V"⟩
abbrev cX2_gain : ByteArray := prog_4_method_2_code
def yX2_gain : MethodName := ⟨RX2, "gain", "(I)I"⟩
abbrev cX2_mark : ByteArray := prog_4_method_3_code
def yX2_mark : MethodName := ⟨RX2, "mark", "()I"⟩
def RX3 : String := "StakeHouse$TaxedGame"
def TX3 : u_T := fun k => match k with
  | 0 => ("StakeHouse$LongGame", "times", "I", true)
  | 1 => ("StakeHouse$EvenGame", "chance", "I", true)
  | 2 => ("StakeHouse$EvenGame", "limit", "I", true)
  | 3 => ("StakeHouse$EvenGame", "gains", "[I", true)
  | _ => ("StakeHouse$TaxedGame", "tax", "I", true)
def tyX3 : Nat → FieldType := fun k => match k with
  | 0 => .int
  | 1 => .int
  | 2 => .int
  | 3 => .array .int
  | _ => .int
abbrev wsX30 : List Cond := u_ws RX3 TX3 5
theorem nmX3 : ∀ a, a < 5 → ∀ b, b < 5 → a ≠ b → (TX3 a).2.1 ≠ (TX3 b).2.1 := by decide +kernel
theorem tyX3_ok : ∀ k, k < 5 → parseFieldDescriptor (TX3 k).2.2.1 = some (tyX3 k) := by decide +kernel
abbrev cX3_init : ByteArray := prog_5_method_1_code
def yX3_init : MethodName := ⟨RX3, "<init>", "(IIII)V"⟩
abbrev cX3_gain : ByteArray := prog_5_method_2_code
def yX3_gain : MethodName := ⟨RX3, "gain", "(I)I"⟩
abbrev cX3_mark : ByteArray := prog_5_method_3_code
def yX3_mark : MethodName := ⟨RX3, "mark", "()I"⟩
def RX4 : String := "StakeHouse"
def TX4 : u_T := fun k => match k with
  | 0 => ("StakeHouse", "games", "[LStakeHouse$EvenGame;", true)
  | 1 => ("StakeHouse", "told", "[I", true)
  | 2 => ("StakeHouse", "bestChart", "LStakeHouse$Chart;", true)
  | 3 => ("StakeHouse", "meanChart", "LStakeHouse$Chart;", true)
  | 4 => ("StakeHouse", "aloneChart", "LStakeHouse$Chart;", true)
  | 5 => ("StakeHouse", "staked", "[I", true)
  | 6 => ("StakeHouse", "worth", "[[J", true)
  | 7 => ("StakeHouse", "goal", "I", false)
  | 8 => ("StakeHouse", "horizon", "I", false)
  | 9 => ("StakeHouse", "held", "I", false)
  | _ => ("StakeHouse", "marks", "J", false)
def tyX4 : Nat → FieldType := fun k => match k with
  | 0 => .array (.object "StakeHouse$EvenGame")
  | 1 => .array .int
  | 2 => .object "StakeHouse$Chart"
  | 3 => .object "StakeHouse$Chart"
  | 4 => .object "StakeHouse$Chart"
  | 5 => .array .int
  | 6 => .array (.array .long)
  | 7 => .int
  | 8 => .int
  | 9 => .int
  | _ => .long
abbrev wsX40 : List Cond := u_ws RX4 TX4 11
theorem nmX4 : ∀ a, a < 11 → ∀ b, b < 11 → a ≠ b → (TX4 a).2.1 ≠ (TX4 b).2.1 := by decide +kernel
theorem tyX4_ok : ∀ k, k < 11 → parseFieldDescriptor (TX4 k).2.2.1 = some (tyX4 k) := by decide +kernel
abbrev cX4_init : ByteArray := prog_1_method_1_code
def yX4_init : MethodName := ⟨RX4, "<init>", "()V"⟩
abbrev cX4_set : ByteArray := prog_1_method_2_code
def yX4_set : MethodName := ⟨RX4, "set", "(II)I"⟩
abbrev cX4_game : ByteArray := prog_1_method_3_code
def yX4_game : MethodName := ⟨RX4, "game", "(IIIII)I"⟩
abbrev cX4_drop : ByteArray := prog_1_method_4_code
def yX4_drop : MethodName := ⟨RX4, "drop", "()I"⟩
abbrev cX4_win : ByteArray := prog_1_method_5_code
def yX4_win : MethodName := ⟨RX4, "win", "(II)I"⟩
abbrev cX4_best : ByteArray := prog_1_method_6_code
def yX4_best : MethodName := ⟨RX4, "best", "(II)J"⟩
abbrev cX4_stakes : ByteArray := prog_1_method_7_code
def yX4_stakes : MethodName := ⟨RX4, "stakes", "(III)J"⟩
abbrev cX4_mean : ByteArray := prog_1_method_8_code
def yX4_mean : MethodName := ⟨RX4, "mean", "(II)J"⟩
abbrev cX4_tell : ByteArray := prog_1_method_9_code
def yX4_tell : MethodName := ⟨RX4, "tell", "(II)I"⟩
abbrev cX4_stake : ByteArray := prog_1_method_10_code
def yX4_stake : MethodName := ⟨RX4, "stake", "(III)I"⟩
abbrev cX4_plan : ByteArray := prog_1_method_11_code
def yX4_plan : MethodName := ⟨RX4, "plan", "(IIIII)J"⟩
abbrev cX4_bold : ByteArray := prog_1_method_12_code
def yX4_bold : MethodName := ⟨RX4, "bold", "(III)I"⟩
abbrev cX4_count : ByteArray := prog_1_method_13_code
def yX4_count : MethodName := ⟨RX4, "count", "(I)I"⟩
abbrev cX4_trace : ByteArray := prog_1_method_14_code
def yX4_trace : MethodName := ⟨RX4, "trace", "()J"⟩
abbrev cX4_within : ByteArray := prog_1_method_15_code
def yX4_within : MethodName := ⟨RX4, "within", "(III)Z"⟩
abbrev cX4_isSpot : ByteArray := prog_1_method_16_code
def yX4_isSpot : MethodName := ⟨RX4, "isSpot", "(II)Z"⟩
abbrev cX4_isPlayed : ByteArray := prog_1_method_17_code
def yX4_isPlayed : MethodName := ⟨RX4, "isPlayed", "(I)Z"⟩
abbrev cX4_gameAt : ByteArray := prog_1_method_18_code
def yX4_gameAt : MethodName := ⟨RX4, "gameAt", "(I)LStakeHouse$EvenGame;"⟩
abbrev cX4_changeGoal : ByteArray := prog_1_method_19_code
def yX4_changeGoal : MethodName := ⟨RX4, "changeGoal", "(I)I"⟩
abbrev cX4_forgetCharts : ByteArray := prog_1_method_20_code
def yX4_forgetCharts : MethodName := ⟨RX4, "forgetCharts", "()V"⟩
abbrev cX4_newGame : ByteArray := prog_1_method_21_code
def yX4_newGame : MethodName := ⟨RX4, "newGame", "(IIIII)LStakeHouse$EvenGame;"⟩
abbrev cX4_mostStake : ByteArray := prog_1_method_22_code
def yX4_mostStake : MethodName := ⟨RX4, "mostStake", "(LStakeHouse$EvenGame;I)I"⟩
abbrev cX4_raised : ByteArray := prog_1_method_23_code
def yX4_raised : MethodName := ⟨RX4, "raised", "(LStakeHouse$EvenGame;II)I"⟩
abbrev cX4_mixed : ByteArray := prog_1_method_24_code
def yX4_mixed : MethodName := ⟨RX4, "mixed", "(LStakeHouse$EvenGame;JJ)J"⟩
abbrev cX4_endWorth : ByteArray := prog_1_method_25_code
def yX4_endWorth : MethodName := ⟨RX4, "endWorth", "(II)J"⟩
abbrev cX4_greatestFrom : ByteArray := prog_1_method_26_code
def yX4_greatestFrom : MethodName := ⟨RX4, "greatestFrom", "(LStakeHouse$Chart;II)J"⟩
abbrev cX4_chartRow : ByteArray := prog_1_method_27_code
def yX4_chartRow : MethodName := ⟨RX4, "chartRow", "(LStakeHouse$Chart;I)[J"⟩
abbrev cX4_greatestTurn : ByteArray := prog_1_method_28_code
def yX4_greatestTurn : MethodName := ⟨RX4, "greatestTurn", "(LStakeHouse$Chart;[JI)J"⟩
abbrev cX4_greatestStake : ByteArray := prog_1_method_29_code
def yX4_greatestStake : MethodName := ⟨RX4, "greatestStake", "(LStakeHouse$EvenGame;[JI)J"⟩
abbrev cX4_bestStakes : ByteArray := prog_1_method_30_code
def yX4_bestStakes : MethodName := ⟨RX4, "bestStakes", "(LStakeHouse$EvenGame;IJ[J)J"⟩
abbrev cX4_planned : ByteArray := prog_1_method_31_code
def yX4_planned : MethodName := ⟨RX4, "planned", "(ILStakeHouse$EvenGame;II)I"⟩
abbrev cX4_boldStake : ByteArray := prog_1_method_32_code
def yX4_boldStake : MethodName := ⟨RX4, "boldStake", "(LStakeHouse$EvenGame;I)I"⟩
abbrev cX4_planWorth : ByteArray := prog_1_method_33_code
def yX4_planWorth : MethodName := ⟨RX4, "planWorth", "(ILStakeHouse$EvenGame;III)J"⟩
abbrev cX4_layRung : ByteArray := prog_1_method_34_code
def yX4_layRung : MethodName := ⟨RX4, "layRung", "(ILStakeHouse$EvenGame;II)V"⟩
abbrev cX4_playRung : ByteArray := prog_1_method_35_code
def yX4_playRung : MethodName := ⟨RX4, "playRung", "(LStakeHouse$EvenGame;IIII)V"⟩
def RX5 : String := "StakeHouseModel"
def TX5 : u_T := fun k => match k with
  | 0 => ("StakeHouseModel", "goal", "I", false)
  | 1 => ("StakeHouseModel", "horizon", "I", false)
  | 2 => ("StakeHouseModel", "games", "I", false)
  | 3 => ("StakeHouseModel", "kind", "[I", true)
  | 4 => ("StakeHouseModel", "chance", "[I", true)
  | 5 => ("StakeHouseModel", "times", "[I", true)
  | 6 => ("StakeHouseModel", "tax", "[I", true)
  | 7 => ("StakeHouseModel", "limit", "[I", true)
  | 8 => ("StakeHouseModel", "told", "[I", true)
  | 9 => ("StakeHouseModel", "trace", "J", false)
  | 10 => ("StakeHouseModel", "best", "[J", true)
  | 11 => ("StakeHouseModel", "now", "[J", true)
  | 12 => ("StakeHouseModel", "then", "[J", true)
  | _ => ("StakeHouseModel", "played", "J", false)
def tyX5 : Nat → FieldType := fun k => match k with
  | 0 => .int
  | 1 => .int
  | 2 => .int
  | 3 => .array .int
  | 4 => .array .int
  | 5 => .array .int
  | 6 => .array .int
  | 7 => .array .int
  | 8 => .array .int
  | 9 => .long
  | 10 => .array .long
  | 11 => .array .long
  | 12 => .array .long
  | _ => .long
abbrev wsX50 : List Cond := u_ws RX5 TX5 14
theorem nmX5 : ∀ a, a < 14 → ∀ b, b < 14 → a ≠ b → (TX5 a).2.1 ≠ (TX5 b).2.1 := by decide +kernel
theorem tyX5_ok : ∀ k, k < 14 → parseFieldDescriptor (TX5 k).2.2.1 = some (tyX5 k) := by decide +kernel
abbrev cX5_init : ByteArray := prog_7_method_1_code
def yX5_init : MethodName := ⟨RX5, "<init>", "()V"⟩
abbrev cX5_in : ByteArray := prog_7_method_3_code
def yX5_in : MethodName := ⟨RX5, "in", "(III)Z"⟩
abbrev cX5_set : ByteArray := prog_7_method_4_code
def yX5_set : MethodName := ⟨RX5, "set", "(II)I"⟩
abbrev cX5_game : ByteArray := prog_7_method_5_code
def yX5_game : MethodName := ⟨RX5, "game", "(IIIII)I"⟩
abbrev cX5_drop : ByteArray := prog_7_method_6_code
def yX5_drop : MethodName := ⟨RX5, "drop", "()I"⟩
abbrev cX5_winOf : ByteArray := prog_7_method_7_code
def yX5_winOf : MethodName := ⟨RX5, "winOf", "(II)I"⟩
abbrev cX5_isGame : ByteArray := prog_7_method_8_code
def yX5_isGame : MethodName := ⟨RX5, "isGame", "(I)Z"⟩
abbrev cX5_win : ByteArray := prog_7_method_9_code
def yX5_win : MethodName := ⟨RX5, "win", "(II)I"⟩
abbrev cX5_behind : ByteArray := prog_7_method_10_code
def yX5_behind : MethodName := ⟨RX5, "behind", "(III)I"⟩
abbrev cX5_mostAt : ByteArray := prog_7_method_11_code
def yX5_mostAt : MethodName := ⟨RX5, "mostAt", "(II)I"⟩
abbrev cX5_worth : ByteArray := prog_7_method_12_code
def yX5_worth : MethodName := ⟨RX5, "worth", "(IIII)J"⟩
abbrev cX5_work : ByteArray := prog_7_method_13_code
def yX5_work : MethodName := ⟨RX5, "work", "(IZII)V"⟩
abbrev cX5_isPurse : ByteArray := prog_7_method_14_code
def yX5_isPurse : MethodName := ⟨RX5, "isPurse", "(I)Z"⟩
abbrev cX5_best : ByteArray := prog_7_method_15_code
def yX5_best : MethodName := ⟨RX5, "best", "(II)J"⟩
abbrev cX5_stakes : ByteArray := prog_7_method_16_code
def yX5_stakes : MethodName := ⟨RX5, "stakes", "(III)J"⟩
abbrev cX5_mean : ByteArray := prog_7_method_17_code
def yX5_mean : MethodName := ⟨RX5, "mean", "(II)J"⟩
abbrev cX5_tell : ByteArray := prog_7_method_18_code
def yX5_tell : MethodName := ⟨RX5, "tell", "(II)I"⟩
abbrev cX5_least : ByteArray := prog_7_method_19_code
def yX5_least : MethodName := ⟨RX5, "least", "(II)I"⟩
abbrev cX5_stakeOf : ByteArray := prog_7_method_20_code
def yX5_stakeOf : MethodName := ⟨RX5, "stakeOf", "(III)I"⟩
abbrev cX5_stake : ByteArray := prog_7_method_21_code
def yX5_stake : MethodName := ⟨RX5, "stake", "(III)I"⟩
abbrev cX5_follow : ByteArray := prog_7_method_22_code
def yX5_follow : MethodName := ⟨RX5, "follow", "(IIII)V"⟩
abbrev cX5_weightAt : ByteArray := prog_7_method_23_code
def yX5_weightAt : MethodName := ⟨RX5, "weightAt", "(I)J"⟩
abbrev cX5_plan : ByteArray := prog_7_method_24_code
def yX5_plan : MethodName := ⟨RX5, "plan", "(IIIII)J"⟩
abbrev cX5_bold : ByteArray := prog_7_method_25_code
def yX5_bold : MethodName := ⟨RX5, "bold", "(III)I"⟩
abbrev cX5_count : ByteArray := prog_7_method_26_code
def yX5_count : MethodName := ⟨RX5, "count", "(I)I"⟩
abbrev cX5_trace : ByteArray := prog_7_method_27_code
def yX5_trace : MethodName := ⟨RX5, "trace", "()J"⟩
def RJ9 : String := "java/lang/Math"
def TJ9 : u_T := fun k => match k with
  | _ => ("", "", "", false)
def tyJ9 : Nat → FieldType := fun k => match k with
  | _ => .int
abbrev wsJ90 : List Cond := u_ws RJ9 TJ9 0
theorem nmJ9 : ∀ a, a < 0 → ∀ b, b < 0 → a ≠ b → (TJ9 a).2.1 ≠ (TJ9 b).2.1 := by decide +kernel
theorem tyJ9_ok : ∀ k, k < 0 → parseFieldDescriptor (TJ9 k).2.2.1 = some (tyJ9 k) := by decide +kernel
abbrev cJ9_max_f86c9 : ByteArray := prog_8_method_66_code
def yJ9_max_f86c9 : MethodName := ⟨RJ9, "max", "(JJ)J"⟩
abbrev cJ9_min_7cf53 : ByteArray := prog_8_method_69_code
def yJ9_min_7cf53 : MethodName := ⟨RJ9, "min", "(II)I"⟩
def RL : String := "StakeHouseLaw"
abbrev cL_law : ByteArray := code
def yL_law : MethodName := ⟨RL, "law", "([I)Z"⟩
def wsX0_init : List Cond := .code yX0_init cX0_init 2 none :: ([.methodLink RX0 3 objectInit, .instanceMethod objectInit, .code objectInit ⟨#[0xb1]⟩ 1 none, .classLink RX0 9 "[[J", .arrayClass .long, .fieldLink RX0 11 "StakeHouse$Chart" "rows" "[[J", .fieldLink RX0 16 "StakeHouse$Chart" "first" "I", .fieldLink RX0 20 "StakeHouse$Chart" "end" "I", .fieldLink RX0 23 "StakeHouse$Chart" "known" "I", .fieldLink RX0 26 "StakeHouse$Chart" "what" "I"] ++ wsX00)
def wsX0_forget : List Cond := .code yX0_forget cX0_forget 1 none :: ([.fieldLink RX0 23 "StakeHouse$Chart" "known" "I"] ++ wsX00)
def wsX0_cover : List Cond := .code yX0_cover cX0_cover 3 none :: ([.fieldLink RX0 16 "StakeHouse$Chart" "first" "I", .fieldLink RX0 20 "StakeHouse$Chart" "end" "I", .fieldLink RX0 23 "StakeHouse$Chart" "known" "I"] ++ wsX00)
def wsX1_init : List Cond := .code yX1_init cX1_init 3 none :: ([.methodLink RX1 3 objectInit, .instanceMethod objectInit, .code objectInit ⟨#[0xb1]⟩ 1 none, .arrayClass .int, .fieldLink RX1 9 "StakeHouse$EvenGame" "gains" "[I", .fieldLink RX1 15 "StakeHouse$EvenGame" "chance" "I", .fieldLink RX1 19 "StakeHouse$EvenGame" "limit" "I"] ++ wsX10 ++ wsX20 ++ wsX30)
def wsX1_gain : List Cond := .code yX1_gain cX1_gain 2 (some .int) :: ([])
def wsX2_gain : List Cond := .code yX2_gain cX2_gain 2 (some .int) :: ([.fieldLink RX2 7 "StakeHouse$LongGame" "times" "I", .methodLink RX2 13 yX1_gain, .sameMethod "StakeHouse$EvenGame" "StakeHouse$EvenGame" "gain" "(I)I", .superclass RX2 RX1, .instanceMethod yX1_gain, .initialized RX1, .code yX1_gain cX1_gain 2 (some .int)] ++ wsX20 ++ wsX30)
def wsX3_gain : List Cond := .code yX3_gain cX3_gain 3 (some .int) :: ([.fieldLink RX3 9 "StakeHouse$TaxedGame" "tax" "I", .methodLink RX3 15 yX2_gain, .sameMethod "StakeHouse$LongGame" "StakeHouse$LongGame" "gain" "(I)I", .superclass RX3 RX2, .instanceMethod yX2_gain, .initialized RX2, .code yX2_gain cX2_gain 2 (some .int), .fieldLink RX2 7 "StakeHouse$LongGame" "times" "I", .methodLink RX2 13 yX1_gain, .sameMethod "StakeHouse$EvenGame" "StakeHouse$EvenGame" "gain" "(I)I", .superclass RX2 RX1, .instanceMethod yX1_gain, .initialized RX1, .code yX1_gain cX1_gain 2 (some .int)] ++ wsX30 ++ wsX20)
def wsX1_keepGains : List Cond := .code yX1_keepGains cX1_keepGains 2 none :: ([.fieldLink RX1 9 "StakeHouse$EvenGame" "gains" "[I", .methodLink RX1 22 yX1_gain, .instanceMethod yX1_gain, .selects RX1 yX1_gain yX1_gain, .initialized RX1, .code yX1_gain cX1_gain 2 (some .int), .methodLink RX1 22 ⟨"StakeHouse$EvenGame", "gain", "(I)I"⟩, .sameMethod "StakeHouse$EvenGame" "StakeHouse$EvenGame" "gain" "(I)I", .instanceMethod ⟨"StakeHouse$EvenGame", "gain", "(I)I"⟩, .selects RX2 ⟨"StakeHouse$EvenGame", "gain", "(I)I"⟩ yX2_gain, .instanceMethod yX2_gain, .initialized RX2, .code yX2_gain cX2_gain 2 (some .int), .fieldLink RX2 7 "StakeHouse$LongGame" "times" "I", .methodLink RX2 13 yX1_gain, .superclass RX2 RX1, .selects RX3 ⟨"StakeHouse$EvenGame", "gain", "(I)I"⟩ yX3_gain, .instanceMethod yX3_gain, .initialized RX3, .code yX3_gain cX3_gain 3 (some .int), .fieldLink RX3 9 "StakeHouse$TaxedGame" "tax" "I", .methodLink RX3 15 yX2_gain, .sameMethod "StakeHouse$LongGame" "StakeHouse$LongGame" "gain" "(I)I", .superclass RX3 RX2] ++ wsX10 ++ wsX20 ++ wsX30)
def wsX1_mark : List Cond := .code yX1_mark cX1_mark 1 (some .int) :: ([])
def wsX2_init : List Cond := .code yX2_init cX2_init 4 none :: ([.fieldLink RX2 7 "StakeHouse$LongGame" "times" "I", .methodLink RX2 1 yX1_init, .instanceMethod yX1_init, .initialized RX1, .code yX1_init cX1_init 3 none, .methodLink RX1 3 objectInit, .instanceMethod objectInit, .code objectInit ⟨#[0xb1]⟩ 1 none, .arrayClass .int, .fieldLink RX1 9 "StakeHouse$EvenGame" "gains" "[I", .fieldLink RX1 15 "StakeHouse$EvenGame" "chance" "I", .fieldLink RX1 19 "StakeHouse$EvenGame" "limit" "I"] ++ wsX20 ++ wsX30 ++ wsX10)
def wsX2_mark : List Cond := .code yX2_mark cX2_mark 1 (some .int) :: ([.methodLink RX2 17 yX1_mark, .sameMethod "StakeHouse$EvenGame" "StakeHouse$EvenGame" "mark" "()I", .superclass RX2 RX1, .instanceMethod yX1_mark, .initialized RX1, .code yX1_mark cX1_mark 1 (some .int)])
def wsX3_init : List Cond := .code yX3_init cX3_init 5 none :: ([.fieldLink RX3 9 "StakeHouse$TaxedGame" "tax" "I", .methodLink RX3 3 yX2_init, .instanceMethod yX2_init, .initialized RX2, .code yX2_init cX2_init 4 none, .fieldLink RX2 7 "StakeHouse$LongGame" "times" "I", .methodLink RX2 1 yX1_init, .instanceMethod yX1_init, .initialized RX1, .code yX1_init cX1_init 3 none, .methodLink RX1 3 objectInit, .instanceMethod objectInit, .code objectInit ⟨#[0xb1]⟩ 1 none, .arrayClass .int, .fieldLink RX1 9 "StakeHouse$EvenGame" "gains" "[I", .fieldLink RX1 15 "StakeHouse$EvenGame" "chance" "I", .fieldLink RX1 19 "StakeHouse$EvenGame" "limit" "I"] ++ wsX30 ++ wsX20 ++ wsX10)
def wsX3_mark : List Cond := .code yX3_mark cX3_mark 1 (some .int) :: ([.methodLink RX3 19 yX2_mark, .sameMethod "StakeHouse$LongGame" "StakeHouse$LongGame" "mark" "()I", .superclass RX3 RX2, .instanceMethod yX2_mark, .initialized RX2, .code yX2_mark cX2_mark 1 (some .int), .methodLink RX2 17 yX1_mark, .sameMethod "StakeHouse$EvenGame" "StakeHouse$EvenGame" "mark" "()I", .superclass RX2 RX1, .instanceMethod yX1_mark, .initialized RX1, .code yX1_mark cX1_mark 1 (some .int)])
def wsX4_init_r1 : List Cond := [Cond.methodLink RX4 3 objectInit, Cond.instanceMethod objectInit, Cond.code objectInit ⟨#[0xb1]⟩ 1 none, Cond.classLink RX4 9 RX1, Cond.fieldLink RX4 11 "StakeHouse" "games" "[LStakeHouse$EvenGame;", Cond.arrayClass .int, Cond.fieldLink RX4 15 "StakeHouse" "told" "[I", Cond.classLink RX4 19 RX0, Cond.instantiable RX0 5, Cond.initialized RX0, Cond.fieldLink RX4 24 "StakeHouse" "bestChart" "LStakeHouse$Chart;", Cond.fieldLink RX4 28 "StakeHouse" "meanChart" "LStakeHouse$Chart;", Cond.fieldLink RX4 31 "StakeHouse" "aloneChart" "LStakeHouse$Chart;", Cond.fieldLink RX4 34 "StakeHouse" "staked" "[I", Cond.classLink RX4 37 "[[J", Cond.arrayClass .long, Cond.fieldLink RX4 39 "StakeHouse" "worth" "[[J", Cond.fieldLink RX4 42 "StakeHouse" "goal" "I", Cond.fieldLink RX4 46 "StakeHouse" "horizon" "I", Cond.fieldLink RX4 49 "StakeHouse" "held" "I", Cond.fieldLink RX4 52 "StakeHouse" "marks" "J", Cond.methodLink RX4 21 yX0_init, Cond.instanceMethod yX0_init, Cond.code yX0_init cX0_init 2 none]
def wsX4_init_r2 : List Cond := [Cond.methodLink RX0 3 objectInit, Cond.classLink RX0 9 "[[J", Cond.fieldLink RX0 11 "StakeHouse$Chart" "rows" "[[J", Cond.fieldLink RX0 16 "StakeHouse$Chart" "first" "I", Cond.fieldLink RX0 20 "StakeHouse$Chart" "end" "I", Cond.fieldLink RX0 23 "StakeHouse$Chart" "known" "I", Cond.fieldLink RX0 26 "StakeHouse$Chart" "what" "I"]
def wsX4_init : List Cond := .code yX4_init cX4_init 1 none :: ((wsX4_init_r1 ++ wsX4_init_r2) ++ wsX40 ++ wsX00)
def wsX4_within : List Cond := .code yX4_within cX4_within 3 (some .boolean) :: ([])
def wsX4_forgetCharts : List Cond := .code yX4_forgetCharts cX4_forgetCharts 1 none :: ([.fieldLink RX4 24 "StakeHouse" "bestChart" "LStakeHouse$Chart;", .fieldLink RX4 28 "StakeHouse" "meanChart" "LStakeHouse$Chart;", .fieldLink RX4 31 "StakeHouse" "aloneChart" "LStakeHouse$Chart;", .methodLink RX4 119 yX0_forget, .instanceMethod yX0_forget, .selects RX0 yX0_forget yX0_forget, .initialized RX0, .code yX0_forget cX0_forget 1 none, .fieldLink RX0 23 "StakeHouse$Chart" "known" "I"] ++ wsX40 ++ wsX00)
def wsX4_changeGoal : List Cond := .code yX4_changeGoal cX4_changeGoal 4 (some .int) :: ([.fieldLink RX4 42 "StakeHouse" "goal" "I", .fieldLink RX4 15 "StakeHouse" "told" "[I", .methodLink RX4 71 yX4_forgetCharts, .instanceMethod yX4_forgetCharts, .selects RX4 yX4_forgetCharts yX4_forgetCharts, .initialized RX4, .code yX4_forgetCharts cX4_forgetCharts 1 none, .fieldLink RX4 24 "StakeHouse" "bestChart" "LStakeHouse$Chart;", .fieldLink RX4 28 "StakeHouse" "meanChart" "LStakeHouse$Chart;", .fieldLink RX4 31 "StakeHouse" "aloneChart" "LStakeHouse$Chart;", .methodLink RX4 119 yX0_forget, .instanceMethod yX0_forget, .selects RX0 yX0_forget yX0_forget, .initialized RX0, .code yX0_forget cX0_forget 1 none, .fieldLink RX0 23 "StakeHouse$Chart" "known" "I"] ++ wsX40 ++ wsX00)
def wsX4_set : List Cond := .code yX4_set cX4_set 4 (some .int) :: ([.fieldLink RX4 46 "StakeHouse" "horizon" "I", .methodLink RX4 56 yX4_within, .static yX4_within, .initialized RX4, .code yX4_within cX4_within 3 (some .boolean), .methodLink RX4 60 yX4_changeGoal, .instanceMethod yX4_changeGoal, .selects RX4 yX4_changeGoal yX4_changeGoal, .code yX4_changeGoal cX4_changeGoal 4 (some .int), .fieldLink RX4 42 "StakeHouse" "goal" "I", .fieldLink RX4 15 "StakeHouse" "told" "[I", .methodLink RX4 71 yX4_forgetCharts, .instanceMethod yX4_forgetCharts, .selects RX4 yX4_forgetCharts yX4_forgetCharts, .code yX4_forgetCharts cX4_forgetCharts 1 none, .fieldLink RX4 24 "StakeHouse" "bestChart" "LStakeHouse$Chart;", .fieldLink RX4 28 "StakeHouse" "meanChart" "LStakeHouse$Chart;", .fieldLink RX4 31 "StakeHouse" "aloneChart" "LStakeHouse$Chart;", .methodLink RX4 119 yX0_forget, .instanceMethod yX0_forget, .selects RX0 yX0_forget yX0_forget, .initialized RX0, .code yX0_forget cX0_forget 1 none, .fieldLink RX0 23 "StakeHouse$Chart" "known" "I"] ++ wsX40 ++ wsX00)
def wsX4_newGame_r1 : List Cond := [Cond.classLink RX4 122 RX3, Cond.instantiable RX3 5, Cond.initialized RX3, Cond.classLink RX4 127 RX2, Cond.instantiable RX2 4, Cond.initialized RX2, Cond.classLink RX4 9 RX1, Cond.instantiable RX1 3, Cond.initialized RX1, Cond.methodLink RX4 124 yX3_init, Cond.instanceMethod yX3_init, Cond.code yX3_init cX3_init 5 none, Cond.fieldLink RX3 9 "StakeHouse$TaxedGame" "tax" "I", Cond.methodLink RX3 3 yX2_init, Cond.instanceMethod yX2_init, Cond.code yX2_init cX2_init 4 none, Cond.fieldLink RX2 7 "StakeHouse$LongGame" "times" "I", Cond.methodLink RX2 1 yX1_init, Cond.instanceMethod yX1_init, Cond.code yX1_init cX1_init 3 none, Cond.methodLink RX1 3 objectInit, Cond.instanceMethod objectInit, Cond.code objectInit ⟨#[0xb1]⟩ 1 none, Cond.arrayClass .int]
def wsX4_newGame_r2 : List Cond := [Cond.fieldLink RX1 9 "StakeHouse$EvenGame" "gains" "[I", Cond.fieldLink RX1 15 "StakeHouse$EvenGame" "chance" "I", Cond.fieldLink RX1 19 "StakeHouse$EvenGame" "limit" "I", Cond.methodLink RX4 129 yX2_init, Cond.methodLink RX4 132 yX1_init]
def wsX4_newGame : List Cond := .code yX4_newGame cX4_newGame 5 (some (.object "StakeHouse$EvenGame")) :: ((wsX4_newGame_r1 ++ wsX4_newGame_r2) ++ wsX30 ++ wsX20 ++ wsX10)
def wsX4_game_r1 : List Cond := [Cond.fieldLink RX4 49 "StakeHouse" "held" "I", Cond.fieldLink RX4 11 "StakeHouse" "games" "[LStakeHouse$EvenGame;", Cond.methodLink RX4 56 yX4_within, Cond.static yX4_within, Cond.initialized RX4, Cond.code yX4_within cX4_within 3 (some .boolean), Cond.methodLink RX4 64 yX4_newGame, Cond.static yX4_newGame, Cond.code yX4_newGame cX4_newGame 5 (some (.object "StakeHouse$EvenGame")), Cond.classLink RX4 122 RX3, Cond.instantiable RX3 5, Cond.initialized RX3, Cond.classLink RX4 127 RX2, Cond.instantiable RX2 4, Cond.initialized RX2, Cond.classLink RX4 9 RX1, Cond.instantiable RX1 3, Cond.initialized RX1, Cond.methodLink RX4 124 yX3_init, Cond.instanceMethod yX3_init, Cond.code yX3_init cX3_init 5 none, Cond.fieldLink RX3 9 "StakeHouse$TaxedGame" "tax" "I", Cond.methodLink RX3 3 yX2_init, Cond.instanceMethod yX2_init]
def wsX4_game_r2 : List Cond := [Cond.code yX2_init cX2_init 4 none, Cond.fieldLink RX2 7 "StakeHouse$LongGame" "times" "I", Cond.methodLink RX2 1 yX1_init, Cond.instanceMethod yX1_init, Cond.code yX1_init cX1_init 3 none, Cond.methodLink RX1 3 objectInit, Cond.instanceMethod objectInit, Cond.code objectInit ⟨#[0xb1]⟩ 1 none, Cond.arrayClass .int, Cond.fieldLink RX1 9 "StakeHouse$EvenGame" "gains" "[I", Cond.fieldLink RX1 15 "StakeHouse$EvenGame" "chance" "I", Cond.fieldLink RX1 19 "StakeHouse$EvenGame" "limit" "I", Cond.methodLink RX4 129 yX2_init, Cond.methodLink RX4 132 yX1_init, Cond.methodLink RX4 68 yX1_keepGains, Cond.instanceMethod yX1_keepGains, Cond.selects RX1 yX1_keepGains yX1_keepGains, Cond.code yX1_keepGains cX1_keepGains 2 none, Cond.methodLink RX1 22 yX1_gain, Cond.instanceMethod yX1_gain, Cond.selects RX1 yX1_gain yX1_gain, Cond.code yX1_gain cX1_gain 2 (some .int), Cond.methodLink RX1 22 ⟨"StakeHouse$EvenGame", "gain", "(I)I"⟩, Cond.sameMethod "StakeHouse$EvenGame" "StakeHouse$EvenGame" "gain" "(I)I"]
def wsX4_game_r3 : List Cond := [Cond.instanceMethod ⟨"StakeHouse$EvenGame", "gain", "(I)I"⟩, Cond.selects RX2 ⟨"StakeHouse$EvenGame", "gain", "(I)I"⟩ yX2_gain, Cond.instanceMethod yX2_gain, Cond.code yX2_gain cX2_gain 2 (some .int), Cond.methodLink RX2 13 yX1_gain, Cond.superclass RX2 RX1, Cond.selects RX3 ⟨"StakeHouse$EvenGame", "gain", "(I)I"⟩ yX3_gain, Cond.instanceMethod yX3_gain, Cond.code yX3_gain cX3_gain 3 (some .int), Cond.methodLink RX3 15 yX2_gain, Cond.sameMethod "StakeHouse$LongGame" "StakeHouse$LongGame" "gain" "(I)I", Cond.superclass RX3 RX2, Cond.methodLink RX4 68 ⟨"StakeHouse$EvenGame", "keepGains", "()V"⟩, Cond.sameMethod "StakeHouse$EvenGame" "StakeHouse$EvenGame" "keepGains" "()V", Cond.selects RX2 ⟨"StakeHouse$EvenGame", "keepGains", "()V"⟩ yX1_keepGains, Cond.selects RX3 ⟨"StakeHouse$EvenGame", "keepGains", "()V"⟩ yX1_keepGains, Cond.methodLink RX4 71 yX4_forgetCharts, Cond.instanceMethod yX4_forgetCharts, Cond.selects RX4 yX4_forgetCharts yX4_forgetCharts, Cond.code yX4_forgetCharts cX4_forgetCharts 1 none, Cond.fieldLink RX4 24 "StakeHouse" "bestChart" "LStakeHouse$Chart;", Cond.fieldLink RX4 28 "StakeHouse" "meanChart" "LStakeHouse$Chart;", Cond.fieldLink RX4 31 "StakeHouse" "aloneChart" "LStakeHouse$Chart;", Cond.methodLink RX4 119 yX0_forget]
def wsX4_game_r4 : List Cond := [Cond.instanceMethod yX0_forget, Cond.selects RX0 yX0_forget yX0_forget, Cond.initialized RX0, Cond.code yX0_forget cX0_forget 1 none, Cond.fieldLink RX0 23 "StakeHouse$Chart" "known" "I"]
def wsX4_game : List Cond := .code yX4_game cX4_game 7 (some .int) :: ((wsX4_game_r1 ++ (wsX4_game_r2 ++ (wsX4_game_r3 ++ wsX4_game_r4))) ++ wsX40 ++ wsX30 ++ wsX20 ++ wsX10 ++ wsX00)
def wsX4_drop : List Cond := .code yX4_drop cX4_drop 1 (some .int) :: ([.fieldLink RX4 49 "StakeHouse" "held" "I", .fieldLink RX4 11 "StakeHouse" "games" "[LStakeHouse$EvenGame;", .methodLink RX4 71 yX4_forgetCharts, .instanceMethod yX4_forgetCharts, .selects RX4 yX4_forgetCharts yX4_forgetCharts, .initialized RX4, .code yX4_forgetCharts cX4_forgetCharts 1 none, .fieldLink RX4 24 "StakeHouse" "bestChart" "LStakeHouse$Chart;", .fieldLink RX4 28 "StakeHouse" "meanChart" "LStakeHouse$Chart;", .fieldLink RX4 31 "StakeHouse" "aloneChart" "LStakeHouse$Chart;", .methodLink RX4 119 yX0_forget, .instanceMethod yX0_forget, .selects RX0 yX0_forget yX0_forget, .initialized RX0, .code yX0_forget cX0_forget 1 none, .fieldLink RX0 23 "StakeHouse$Chart" "known" "I"] ++ wsX40 ++ wsX00)
def wsX4_gameAt : List Cond := .code yX4_gameAt cX4_gameAt 2 (some (.object "StakeHouse$EvenGame")) :: ([.fieldLink RX4 49 "StakeHouse" "held" "I", .fieldLink RX4 11 "StakeHouse" "games" "[LStakeHouse$EvenGame;", .methodLink RX4 56 yX4_within, .static yX4_within, .initialized RX4, .code yX4_within cX4_within 3 (some .boolean)] ++ wsX40)
def wsX4_win_r1 : List Cond := [Cond.fieldLink RX4 52 "StakeHouse" "marks" "J", Cond.methodLink RX4 74 yX4_gameAt, Cond.instanceMethod yX4_gameAt, Cond.selects RX4 yX4_gameAt yX4_gameAt, Cond.initialized RX4, Cond.code yX4_gameAt cX4_gameAt 2 (some (.object "StakeHouse$EvenGame")), Cond.fieldLink RX4 49 "StakeHouse" "held" "I", Cond.fieldLink RX4 11 "StakeHouse" "games" "[LStakeHouse$EvenGame;", Cond.methodLink RX4 56 yX4_within, Cond.static yX4_within, Cond.code yX4_within cX4_within 3 (some .boolean), Cond.methodLink RX4 78 yX1_mark, Cond.instanceMethod yX1_mark, Cond.selects RX1 yX1_mark yX1_mark, Cond.initialized RX1, Cond.code yX1_mark cX1_mark 1 (some .int), Cond.methodLink RX4 78 ⟨"StakeHouse$EvenGame", "mark", "()I"⟩, Cond.sameMethod "StakeHouse$EvenGame" "StakeHouse$EvenGame" "mark" "()I", Cond.instanceMethod ⟨"StakeHouse$EvenGame", "mark", "()I"⟩, Cond.selects RX2 ⟨"StakeHouse$EvenGame", "mark", "()I"⟩ yX2_mark, Cond.instanceMethod yX2_mark, Cond.initialized RX2, Cond.code yX2_mark cX2_mark 1 (some .int), Cond.methodLink RX2 17 yX1_mark]
def wsX4_win_r2 : List Cond := [Cond.superclass RX2 RX1, Cond.selects RX3 ⟨"StakeHouse$EvenGame", "mark", "()I"⟩ yX3_mark, Cond.instanceMethod yX3_mark, Cond.initialized RX3, Cond.code yX3_mark cX3_mark 1 (some .int), Cond.methodLink RX3 19 yX2_mark, Cond.sameMethod "StakeHouse$LongGame" "StakeHouse$LongGame" "mark" "()I", Cond.superclass RX3 RX2, Cond.methodLink RX4 82 yX1_gain, Cond.instanceMethod yX1_gain, Cond.selects RX1 yX1_gain yX1_gain, Cond.code yX1_gain cX1_gain 2 (some .int), Cond.methodLink RX4 82 ⟨"StakeHouse$EvenGame", "gain", "(I)I"⟩, Cond.sameMethod "StakeHouse$EvenGame" "StakeHouse$EvenGame" "gain" "(I)I", Cond.instanceMethod ⟨"StakeHouse$EvenGame", "gain", "(I)I"⟩, Cond.selects RX2 ⟨"StakeHouse$EvenGame", "gain", "(I)I"⟩ yX2_gain, Cond.instanceMethod yX2_gain, Cond.code yX2_gain cX2_gain 2 (some .int), Cond.fieldLink RX2 7 "StakeHouse$LongGame" "times" "I", Cond.methodLink RX2 13 yX1_gain, Cond.selects RX3 ⟨"StakeHouse$EvenGame", "gain", "(I)I"⟩ yX3_gain, Cond.instanceMethod yX3_gain, Cond.code yX3_gain cX3_gain 3 (some .int), Cond.fieldLink RX3 9 "StakeHouse$TaxedGame" "tax" "I"]
def wsX4_win_r3 : List Cond := [Cond.methodLink RX3 15 yX2_gain, Cond.sameMethod "StakeHouse$LongGame" "StakeHouse$LongGame" "gain" "(I)I"]
def wsX4_win : List Cond := .code yX4_win cX4_win 4 (some .int) :: ((wsX4_win_r1 ++ (wsX4_win_r2 ++ wsX4_win_r3)) ++ wsX40 ++ wsX20 ++ wsX30)
def wsX4_isSpot : List Cond := .code yX4_isSpot cX4_isSpot 3 (some .boolean) :: ([.fieldLink RX4 42 "StakeHouse" "goal" "I", .fieldLink RX4 46 "StakeHouse" "horizon" "I", .methodLink RX4 56 yX4_within, .static yX4_within, .initialized RX4, .code yX4_within cX4_within 3 (some .boolean)] ++ wsX40)
def wsX4_endWorth : List Cond := .code yX4_endWorth cX4_endWorth 3 (some .long) :: ([.fieldLink RX4 42 "StakeHouse" "goal" "I"] ++ wsX40)
def wsX4_isPlayed : List Cond := .code yX4_isPlayed cX4_isPlayed 2 (some .boolean) :: ([.fieldLink RX4 42 "StakeHouse" "goal" "I", .methodLink RX4 56 yX4_within, .static yX4_within, .initialized RX4, .code yX4_within cX4_within 3 (some .boolean)] ++ wsX40)
def wsX4_mostStake : List Cond := .code yX4_mostStake cX4_mostStake 2 (some .int) :: ([.methodLink RX4 137 Lib.Math.min.name, .static Lib.Math.min.name, .initialized "java/lang/Math", .code Lib.Math.min.name Lib.Math.min.code 2 (some .int)] ++ wsX10 ++ wsX20 ++ wsX30)
def wsX4_raised : List Cond := .code yX4_raised cX4_raised 4 (some .int) :: ([.fieldLink RX4 42 "StakeHouse" "goal" "I", .methodLink RX4 137 Lib.Math.min.name, .static Lib.Math.min.name, .initialized "java/lang/Math", .code Lib.Math.min.name Lib.Math.min.code 2 (some .int)] ++ wsX40 ++ wsX10 ++ wsX20 ++ wsX30)
def wsX4_mixed : List Cond := .code yX4_mixed cX4_mixed 5 (some .long) :: ([] ++ wsX10 ++ wsX20 ++ wsX30)
def wsX4_greatestStake : List Cond := .code yX4_greatestStake cX4_greatestStake 8 (some .long) :: ([.methodLink RX4 180 Lib.MathLoose.max_long.x, .static Lib.MathLoose.max_long.x, .initialized "java/lang/Math", .code Lib.MathLoose.max_long.x Lib.MathLoose.max_long.code 4 (some .long), .methodLink RX4 184 yX4_mostStake, .static yX4_mostStake, .initialized RX4, .code yX4_mostStake cX4_mostStake 2 (some .int), .methodLink RX4 137 Lib.Math.min.name, .static Lib.Math.min.name, .code Lib.Math.min.name Lib.Math.min.code 2 (some .int), .methodLink RX4 188 yX4_raised, .instanceMethod yX4_raised, .selects RX4 yX4_raised yX4_raised, .code yX4_raised cX4_raised 4 (some .int), .fieldLink RX4 42 "StakeHouse" "goal" "I", .methodLink RX4 192 yX4_mixed, .static yX4_mixed, .code yX4_mixed cX4_mixed 5 (some .long)] ++ wsX10 ++ wsX20 ++ wsX30 ++ wsX40)
def wsX4_greatestTurn_r1 : List Cond := [Cond.constantLong RX4 168 (16), Cond.methodLink RX4 180 Lib.MathLoose.max_long.x, Cond.static Lib.MathLoose.max_long.x, Cond.initialized "java/lang/Math", Cond.code Lib.MathLoose.max_long.x Lib.MathLoose.max_long.code 4 (some .long), Cond.methodLink RX4 95 yX4_isPlayed, Cond.instanceMethod yX4_isPlayed, Cond.selects RX4 yX4_isPlayed yX4_isPlayed, Cond.initialized RX4, Cond.code yX4_isPlayed cX4_isPlayed 2 (some .boolean), Cond.fieldLink RX4 42 "StakeHouse" "goal" "I", Cond.methodLink RX4 56 yX4_within, Cond.static yX4_within, Cond.code yX4_within cX4_within 3 (some .boolean), Cond.methodLink RX4 74 yX4_gameAt, Cond.instanceMethod yX4_gameAt, Cond.selects RX4 yX4_gameAt yX4_gameAt, Cond.code yX4_gameAt cX4_gameAt 2 (some (.object "StakeHouse$EvenGame")), Cond.fieldLink RX4 49 "StakeHouse" "held" "I", Cond.fieldLink RX4 11 "StakeHouse" "games" "[LStakeHouse$EvenGame;", Cond.methodLink RX4 176 yX4_greatestStake, Cond.instanceMethod yX4_greatestStake, Cond.selects RX4 yX4_greatestStake yX4_greatestStake, Cond.code yX4_greatestStake cX4_greatestStake 8 (some .long)]
def wsX4_greatestTurn_r2 : List Cond := [Cond.methodLink RX4 184 yX4_mostStake, Cond.static yX4_mostStake, Cond.code yX4_mostStake cX4_mostStake 2 (some .int), Cond.methodLink RX4 137 Lib.Math.min.name, Cond.static Lib.Math.min.name, Cond.code Lib.Math.min.name Lib.Math.min.code 2 (some .int), Cond.methodLink RX4 188 yX4_raised, Cond.instanceMethod yX4_raised, Cond.selects RX4 yX4_raised yX4_raised, Cond.code yX4_raised cX4_raised 4 (some .int), Cond.methodLink RX4 192 yX4_mixed, Cond.static yX4_mixed, Cond.code yX4_mixed cX4_mixed 5 (some .long)]
def wsX4_greatestTurn : List Cond := .code yX4_greatestTurn cX4_greatestTurn 8 (some .long) :: ((wsX4_greatestTurn_r1 ++ wsX4_greatestTurn_r2) ++ wsX00 ++ wsX40 ++ wsX10 ++ wsX20 ++ wsX30)
def wsX4_chartRow_r1 : List Cond := [Cond.fieldLink RX4 42 "StakeHouse" "goal" "I", Cond.methodLink RX4 160 yX4_endWorth, Cond.instanceMethod yX4_endWorth, Cond.selects RX4 yX4_endWorth yX4_endWorth, Cond.initialized RX4, Cond.code yX4_endWorth cX4_endWorth 3 (some .long), Cond.methodLink RX4 164 yX4_greatestTurn, Cond.instanceMethod yX4_greatestTurn, Cond.selects RX4 yX4_greatestTurn yX4_greatestTurn, Cond.code yX4_greatestTurn cX4_greatestTurn 8 (some .long), Cond.constantLong RX4 168 (16), Cond.methodLink RX4 180 Lib.MathLoose.max_long.x, Cond.static Lib.MathLoose.max_long.x, Cond.initialized "java/lang/Math", Cond.code Lib.MathLoose.max_long.x Lib.MathLoose.max_long.code 4 (some .long), Cond.methodLink RX4 95 yX4_isPlayed, Cond.instanceMethod yX4_isPlayed, Cond.selects RX4 yX4_isPlayed yX4_isPlayed, Cond.code yX4_isPlayed cX4_isPlayed 2 (some .boolean), Cond.methodLink RX4 56 yX4_within, Cond.static yX4_within, Cond.code yX4_within cX4_within 3 (some .boolean), Cond.methodLink RX4 74 yX4_gameAt, Cond.instanceMethod yX4_gameAt]
def wsX4_chartRow_r2 : List Cond := [Cond.selects RX4 yX4_gameAt yX4_gameAt, Cond.code yX4_gameAt cX4_gameAt 2 (some (.object "StakeHouse$EvenGame")), Cond.fieldLink RX4 49 "StakeHouse" "held" "I", Cond.fieldLink RX4 11 "StakeHouse" "games" "[LStakeHouse$EvenGame;", Cond.methodLink RX4 176 yX4_greatestStake, Cond.instanceMethod yX4_greatestStake, Cond.selects RX4 yX4_greatestStake yX4_greatestStake, Cond.code yX4_greatestStake cX4_greatestStake 8 (some .long), Cond.methodLink RX4 184 yX4_mostStake, Cond.static yX4_mostStake, Cond.code yX4_mostStake cX4_mostStake 2 (some .int), Cond.methodLink RX4 137 Lib.Math.min.name, Cond.static Lib.Math.min.name, Cond.code Lib.Math.min.name Lib.Math.min.code 2 (some .int), Cond.methodLink RX4 188 yX4_raised, Cond.instanceMethod yX4_raised, Cond.selects RX4 yX4_raised yX4_raised, Cond.code yX4_raised cX4_raised 4 (some .int), Cond.methodLink RX4 192 yX4_mixed, Cond.static yX4_mixed, Cond.code yX4_mixed cX4_mixed 5 (some .long)]
def wsX4_chartRow : List Cond := .code yX4_chartRow cX4_chartRow 5 (some (.array .long)) :: ((wsX4_chartRow_r1 ++ wsX4_chartRow_r2) ++ wsX00 ++ wsX40 ++ wsX10 ++ wsX20 ++ wsX30)
def wsX4_greatestFrom_r1 : List Cond := [Cond.constantLong RX4 93 (-1), Cond.fieldLink RX4 49 "StakeHouse" "held" "I", Cond.constantLong RX4 149 (-2), Cond.methodLink RX4 89 yX4_isSpot, Cond.instanceMethod yX4_isSpot, Cond.selects RX4 yX4_isSpot yX4_isSpot, Cond.initialized RX4, Cond.code yX4_isSpot cX4_isSpot 3 (some .boolean), Cond.fieldLink RX4 42 "StakeHouse" "goal" "I", Cond.fieldLink RX4 46 "StakeHouse" "horizon" "I", Cond.methodLink RX4 56 yX4_within, Cond.static yX4_within, Cond.code yX4_within cX4_within 3 (some .boolean), Cond.methodLink RX4 99 yX0_cover, Cond.instanceMethod yX0_cover, Cond.selects RX0 yX0_cover yX0_cover, Cond.initialized RX0, Cond.code yX0_cover cX0_cover 3 none, Cond.fieldLink RX0 16 "StakeHouse$Chart" "first" "I", Cond.fieldLink RX0 20 "StakeHouse$Chart" "end" "I", Cond.fieldLink RX0 23 "StakeHouse$Chart" "known" "I", Cond.methodLink RX4 103 yX4_chartRow, Cond.instanceMethod yX4_chartRow, Cond.selects RX4 yX4_chartRow yX4_chartRow]
def wsX4_greatestFrom_r2 : List Cond := [Cond.code yX4_chartRow cX4_chartRow 5 (some (.array .long)), Cond.methodLink RX4 160 yX4_endWorth, Cond.instanceMethod yX4_endWorth, Cond.selects RX4 yX4_endWorth yX4_endWorth, Cond.code yX4_endWorth cX4_endWorth 3 (some .long), Cond.methodLink RX4 164 yX4_greatestTurn, Cond.instanceMethod yX4_greatestTurn, Cond.selects RX4 yX4_greatestTurn yX4_greatestTurn, Cond.code yX4_greatestTurn cX4_greatestTurn 8 (some .long), Cond.constantLong RX4 168 (16), Cond.methodLink RX4 180 Lib.MathLoose.max_long.x, Cond.static Lib.MathLoose.max_long.x, Cond.initialized "java/lang/Math", Cond.code Lib.MathLoose.max_long.x Lib.MathLoose.max_long.code 4 (some .long), Cond.methodLink RX4 95 yX4_isPlayed, Cond.instanceMethod yX4_isPlayed, Cond.selects RX4 yX4_isPlayed yX4_isPlayed, Cond.code yX4_isPlayed cX4_isPlayed 2 (some .boolean), Cond.methodLink RX4 74 yX4_gameAt, Cond.instanceMethod yX4_gameAt, Cond.selects RX4 yX4_gameAt yX4_gameAt, Cond.code yX4_gameAt cX4_gameAt 2 (some (.object "StakeHouse$EvenGame")), Cond.fieldLink RX4 11 "StakeHouse" "games" "[LStakeHouse$EvenGame;", Cond.methodLink RX4 176 yX4_greatestStake]
def wsX4_greatestFrom_r3 : List Cond := [Cond.instanceMethod yX4_greatestStake, Cond.selects RX4 yX4_greatestStake yX4_greatestStake, Cond.code yX4_greatestStake cX4_greatestStake 8 (some .long), Cond.methodLink RX4 184 yX4_mostStake, Cond.static yX4_mostStake, Cond.code yX4_mostStake cX4_mostStake 2 (some .int), Cond.methodLink RX4 137 Lib.Math.min.name, Cond.static Lib.Math.min.name, Cond.code Lib.Math.min.name Lib.Math.min.code 2 (some .int), Cond.methodLink RX4 188 yX4_raised, Cond.instanceMethod yX4_raised, Cond.selects RX4 yX4_raised yX4_raised, Cond.code yX4_raised cX4_raised 4 (some .int), Cond.methodLink RX4 192 yX4_mixed, Cond.static yX4_mixed, Cond.code yX4_mixed cX4_mixed 5 (some .long)]
def wsX4_greatestFrom : List Cond := .code yX4_greatestFrom cX4_greatestFrom 4 (some .long) :: ((wsX4_greatestFrom_r1 ++ (wsX4_greatestFrom_r2 ++ wsX4_greatestFrom_r3)) ++ wsX40 ++ wsX00 ++ wsX10 ++ wsX20 ++ wsX30)
def wsX4_best_r1 : List Cond := [Cond.fieldLink RX4 24 "StakeHouse" "bestChart" "LStakeHouse$Chart;", Cond.methodLink RX4 85 yX4_greatestFrom, Cond.instanceMethod yX4_greatestFrom, Cond.selects RX4 yX4_greatestFrom yX4_greatestFrom, Cond.initialized RX4, Cond.code yX4_greatestFrom cX4_greatestFrom 4 (some .long), Cond.constantLong RX4 93 (-1), Cond.fieldLink RX4 49 "StakeHouse" "held" "I", Cond.constantLong RX4 149 (-2), Cond.methodLink RX4 89 yX4_isSpot, Cond.instanceMethod yX4_isSpot, Cond.selects RX4 yX4_isSpot yX4_isSpot, Cond.code yX4_isSpot cX4_isSpot 3 (some .boolean), Cond.fieldLink RX4 42 "StakeHouse" "goal" "I", Cond.fieldLink RX4 46 "StakeHouse" "horizon" "I", Cond.methodLink RX4 56 yX4_within, Cond.static yX4_within, Cond.code yX4_within cX4_within 3 (some .boolean), Cond.methodLink RX4 99 yX0_cover, Cond.instanceMethod yX0_cover, Cond.selects RX0 yX0_cover yX0_cover, Cond.initialized RX0, Cond.code yX0_cover cX0_cover 3 none, Cond.fieldLink RX0 16 "StakeHouse$Chart" "first" "I"]
def wsX4_best_r2 : List Cond := [Cond.fieldLink RX0 20 "StakeHouse$Chart" "end" "I", Cond.fieldLink RX0 23 "StakeHouse$Chart" "known" "I", Cond.methodLink RX4 103 yX4_chartRow, Cond.instanceMethod yX4_chartRow, Cond.selects RX4 yX4_chartRow yX4_chartRow, Cond.code yX4_chartRow cX4_chartRow 5 (some (.array .long)), Cond.methodLink RX4 160 yX4_endWorth, Cond.instanceMethod yX4_endWorth, Cond.selects RX4 yX4_endWorth yX4_endWorth, Cond.code yX4_endWorth cX4_endWorth 3 (some .long), Cond.methodLink RX4 164 yX4_greatestTurn, Cond.instanceMethod yX4_greatestTurn, Cond.selects RX4 yX4_greatestTurn yX4_greatestTurn, Cond.code yX4_greatestTurn cX4_greatestTurn 8 (some .long), Cond.constantLong RX4 168 (16), Cond.methodLink RX4 180 Lib.MathLoose.max_long.x, Cond.static Lib.MathLoose.max_long.x, Cond.initialized "java/lang/Math", Cond.code Lib.MathLoose.max_long.x Lib.MathLoose.max_long.code 4 (some .long), Cond.methodLink RX4 95 yX4_isPlayed, Cond.instanceMethod yX4_isPlayed, Cond.selects RX4 yX4_isPlayed yX4_isPlayed, Cond.code yX4_isPlayed cX4_isPlayed 2 (some .boolean), Cond.methodLink RX4 74 yX4_gameAt]
def wsX4_best_r3 : List Cond := [Cond.instanceMethod yX4_gameAt, Cond.selects RX4 yX4_gameAt yX4_gameAt, Cond.code yX4_gameAt cX4_gameAt 2 (some (.object "StakeHouse$EvenGame")), Cond.fieldLink RX4 11 "StakeHouse" "games" "[LStakeHouse$EvenGame;", Cond.methodLink RX4 176 yX4_greatestStake, Cond.instanceMethod yX4_greatestStake, Cond.selects RX4 yX4_greatestStake yX4_greatestStake, Cond.code yX4_greatestStake cX4_greatestStake 8 (some .long), Cond.methodLink RX4 184 yX4_mostStake, Cond.static yX4_mostStake, Cond.code yX4_mostStake cX4_mostStake 2 (some .int), Cond.methodLink RX4 137 Lib.Math.min.name, Cond.static Lib.Math.min.name, Cond.code Lib.Math.min.name Lib.Math.min.code 2 (some .int), Cond.methodLink RX4 188 yX4_raised, Cond.instanceMethod yX4_raised, Cond.selects RX4 yX4_raised yX4_raised, Cond.code yX4_raised cX4_raised 4 (some .int), Cond.methodLink RX4 192 yX4_mixed, Cond.static yX4_mixed, Cond.code yX4_mixed cX4_mixed 5 (some .long)]
def wsX4_best : List Cond := .code yX4_best cX4_best 3 (some .long) :: ((wsX4_best_r1 ++ (wsX4_best_r2 ++ wsX4_best_r3)) ++ wsX40 ++ wsX00 ++ wsX10 ++ wsX20 ++ wsX30)
def wsX4_bestStakes : List Cond := .code yX4_bestStakes cX4_bestStakes 10 (some .long) :: ([.constantLong RX4 168 (16), .methodLink RX4 184 yX4_mostStake, .static yX4_mostStake, .initialized RX4, .code yX4_mostStake cX4_mostStake 2 (some .int), .methodLink RX4 137 Lib.Math.min.name, .static Lib.Math.min.name, .initialized "java/lang/Math", .code Lib.Math.min.name Lib.Math.min.code 2 (some .int), .methodLink RX4 188 yX4_raised, .instanceMethod yX4_raised, .selects RX4 yX4_raised yX4_raised, .code yX4_raised cX4_raised 4 (some .int), .fieldLink RX4 42 "StakeHouse" "goal" "I", .methodLink RX4 192 yX4_mixed, .static yX4_mixed, .code yX4_mixed cX4_mixed 5 (some .long)] ++ wsX10 ++ wsX20 ++ wsX30 ++ wsX40)
def wsX4_stakes_r1 : List Cond := [Cond.constantLong RX4 93 (-1), Cond.fieldLink RX4 24 "StakeHouse" "bestChart" "LStakeHouse$Chart;", Cond.fieldLink RX4 49 "StakeHouse" "held" "I", Cond.methodLink RX4 74 yX4_gameAt, Cond.instanceMethod yX4_gameAt, Cond.selects RX4 yX4_gameAt yX4_gameAt, Cond.initialized RX4, Cond.code yX4_gameAt cX4_gameAt 2 (some (.object "StakeHouse$EvenGame")), Cond.fieldLink RX4 11 "StakeHouse" "games" "[LStakeHouse$EvenGame;", Cond.methodLink RX4 56 yX4_within, Cond.static yX4_within, Cond.code yX4_within cX4_within 3 (some .boolean), Cond.methodLink RX4 89 yX4_isSpot, Cond.instanceMethod yX4_isSpot, Cond.selects RX4 yX4_isSpot yX4_isSpot, Cond.code yX4_isSpot cX4_isSpot 3 (some .boolean), Cond.fieldLink RX4 42 "StakeHouse" "goal" "I", Cond.fieldLink RX4 46 "StakeHouse" "horizon" "I", Cond.methodLink RX4 95 yX4_isPlayed, Cond.instanceMethod yX4_isPlayed, Cond.selects RX4 yX4_isPlayed yX4_isPlayed, Cond.code yX4_isPlayed cX4_isPlayed 2 (some .boolean), Cond.methodLink RX4 99 yX0_cover, Cond.instanceMethod yX0_cover]
def wsX4_stakes_r2 : List Cond := [Cond.selects RX0 yX0_cover yX0_cover, Cond.initialized RX0, Cond.code yX0_cover cX0_cover 3 none, Cond.fieldLink RX0 16 "StakeHouse$Chart" "first" "I", Cond.fieldLink RX0 20 "StakeHouse$Chart" "end" "I", Cond.fieldLink RX0 23 "StakeHouse$Chart" "known" "I", Cond.methodLink RX4 103 yX4_chartRow, Cond.instanceMethod yX4_chartRow, Cond.selects RX4 yX4_chartRow yX4_chartRow, Cond.code yX4_chartRow cX4_chartRow 5 (some (.array .long)), Cond.methodLink RX4 160 yX4_endWorth, Cond.instanceMethod yX4_endWorth, Cond.selects RX4 yX4_endWorth yX4_endWorth, Cond.code yX4_endWorth cX4_endWorth 3 (some .long), Cond.methodLink RX4 164 yX4_greatestTurn, Cond.instanceMethod yX4_greatestTurn, Cond.selects RX4 yX4_greatestTurn yX4_greatestTurn, Cond.code yX4_greatestTurn cX4_greatestTurn 8 (some .long), Cond.constantLong RX4 168 (16), Cond.methodLink RX4 180 Lib.MathLoose.max_long.x, Cond.static Lib.MathLoose.max_long.x, Cond.initialized "java/lang/Math", Cond.code Lib.MathLoose.max_long.x Lib.MathLoose.max_long.code 4 (some .long), Cond.methodLink RX4 176 yX4_greatestStake]
def wsX4_stakes_r3 : List Cond := [Cond.instanceMethod yX4_greatestStake, Cond.selects RX4 yX4_greatestStake yX4_greatestStake, Cond.code yX4_greatestStake cX4_greatestStake 8 (some .long), Cond.methodLink RX4 184 yX4_mostStake, Cond.static yX4_mostStake, Cond.code yX4_mostStake cX4_mostStake 2 (some .int), Cond.methodLink RX4 137 Lib.Math.min.name, Cond.static Lib.Math.min.name, Cond.code Lib.Math.min.name Lib.Math.min.code 2 (some .int), Cond.methodLink RX4 188 yX4_raised, Cond.instanceMethod yX4_raised, Cond.selects RX4 yX4_raised yX4_raised, Cond.code yX4_raised cX4_raised 4 (some .int), Cond.methodLink RX4 192 yX4_mixed, Cond.static yX4_mixed, Cond.code yX4_mixed cX4_mixed 5 (some .long), Cond.methodLink RX4 107 yX4_bestStakes, Cond.instanceMethod yX4_bestStakes, Cond.selects RX4 yX4_bestStakes yX4_bestStakes, Cond.code yX4_bestStakes cX4_bestStakes 10 (some .long)]
def wsX4_stakes : List Cond := .code yX4_stakes cX4_stakes 5 (some .long) :: ((wsX4_stakes_r1 ++ (wsX4_stakes_r2 ++ wsX4_stakes_r3)) ++ wsX40 ++ wsX00 ++ wsX10 ++ wsX20 ++ wsX30)
def wsX4_mean_r1 : List Cond := [Cond.fieldLink RX4 28 "StakeHouse" "meanChart" "LStakeHouse$Chart;", Cond.methodLink RX4 85 yX4_greatestFrom, Cond.instanceMethod yX4_greatestFrom, Cond.selects RX4 yX4_greatestFrom yX4_greatestFrom, Cond.initialized RX4, Cond.code yX4_greatestFrom cX4_greatestFrom 4 (some .long), Cond.constantLong RX4 93 (-1), Cond.fieldLink RX4 49 "StakeHouse" "held" "I", Cond.constantLong RX4 149 (-2), Cond.methodLink RX4 89 yX4_isSpot, Cond.instanceMethod yX4_isSpot, Cond.selects RX4 yX4_isSpot yX4_isSpot, Cond.code yX4_isSpot cX4_isSpot 3 (some .boolean), Cond.fieldLink RX4 42 "StakeHouse" "goal" "I", Cond.fieldLink RX4 46 "StakeHouse" "horizon" "I", Cond.methodLink RX4 56 yX4_within, Cond.static yX4_within, Cond.code yX4_within cX4_within 3 (some .boolean), Cond.methodLink RX4 99 yX0_cover, Cond.instanceMethod yX0_cover, Cond.selects RX0 yX0_cover yX0_cover, Cond.initialized RX0, Cond.code yX0_cover cX0_cover 3 none, Cond.fieldLink RX0 16 "StakeHouse$Chart" "first" "I"]
def wsX4_mean_r2 : List Cond := [Cond.fieldLink RX0 20 "StakeHouse$Chart" "end" "I", Cond.fieldLink RX0 23 "StakeHouse$Chart" "known" "I", Cond.methodLink RX4 103 yX4_chartRow, Cond.instanceMethod yX4_chartRow, Cond.selects RX4 yX4_chartRow yX4_chartRow, Cond.code yX4_chartRow cX4_chartRow 5 (some (.array .long)), Cond.methodLink RX4 160 yX4_endWorth, Cond.instanceMethod yX4_endWorth, Cond.selects RX4 yX4_endWorth yX4_endWorth, Cond.code yX4_endWorth cX4_endWorth 3 (some .long), Cond.methodLink RX4 164 yX4_greatestTurn, Cond.instanceMethod yX4_greatestTurn, Cond.selects RX4 yX4_greatestTurn yX4_greatestTurn, Cond.code yX4_greatestTurn cX4_greatestTurn 8 (some .long), Cond.constantLong RX4 168 (16), Cond.methodLink RX4 180 Lib.MathLoose.max_long.x, Cond.static Lib.MathLoose.max_long.x, Cond.initialized "java/lang/Math", Cond.code Lib.MathLoose.max_long.x Lib.MathLoose.max_long.code 4 (some .long), Cond.methodLink RX4 95 yX4_isPlayed, Cond.instanceMethod yX4_isPlayed, Cond.selects RX4 yX4_isPlayed yX4_isPlayed, Cond.code yX4_isPlayed cX4_isPlayed 2 (some .boolean), Cond.methodLink RX4 74 yX4_gameAt]
def wsX4_mean_r3 : List Cond := [Cond.instanceMethod yX4_gameAt, Cond.selects RX4 yX4_gameAt yX4_gameAt, Cond.code yX4_gameAt cX4_gameAt 2 (some (.object "StakeHouse$EvenGame")), Cond.fieldLink RX4 11 "StakeHouse" "games" "[LStakeHouse$EvenGame;", Cond.methodLink RX4 176 yX4_greatestStake, Cond.instanceMethod yX4_greatestStake, Cond.selects RX4 yX4_greatestStake yX4_greatestStake, Cond.code yX4_greatestStake cX4_greatestStake 8 (some .long), Cond.methodLink RX4 184 yX4_mostStake, Cond.static yX4_mostStake, Cond.code yX4_mostStake cX4_mostStake 2 (some .int), Cond.methodLink RX4 137 Lib.Math.min.name, Cond.static Lib.Math.min.name, Cond.code Lib.Math.min.name Lib.Math.min.code 2 (some .int), Cond.methodLink RX4 188 yX4_raised, Cond.instanceMethod yX4_raised, Cond.selects RX4 yX4_raised yX4_raised, Cond.code yX4_raised cX4_raised 4 (some .int), Cond.methodLink RX4 192 yX4_mixed, Cond.static yX4_mixed, Cond.code yX4_mixed cX4_mixed 5 (some .long)]
def wsX4_mean : List Cond := .code yX4_mean cX4_mean 3 (some .long) :: ((wsX4_mean_r1 ++ (wsX4_mean_r2 ++ wsX4_mean_r3)) ++ wsX40 ++ wsX00 ++ wsX10 ++ wsX20 ++ wsX30)
def wsX4_tell : List Cond := .code yX4_tell cX4_tell 4 (some .int) :: ([.fieldLink RX4 15 "StakeHouse" "told" "[I", .methodLink RX4 95 yX4_isPlayed, .instanceMethod yX4_isPlayed, .selects RX4 yX4_isPlayed yX4_isPlayed, .initialized RX4, .code yX4_isPlayed cX4_isPlayed 2 (some .boolean), .fieldLink RX4 42 "StakeHouse" "goal" "I", .methodLink RX4 56 yX4_within, .static yX4_within, .code yX4_within cX4_within 3 (some .boolean)] ++ wsX40)
def wsX4_boldStake : List Cond := .code yX4_boldStake cX4_boldStake 5 (some .int) :: ([.fieldLink RX4 42 "StakeHouse" "goal" "I", .methodLink RX4 184 yX4_mostStake, .static yX4_mostStake, .initialized RX4, .code yX4_mostStake cX4_mostStake 2 (some .int), .methodLink RX4 137 Lib.Math.min.name, .static Lib.Math.min.name, .initialized "java/lang/Math", .code Lib.Math.min.name Lib.Math.min.code 2 (some .int)] ++ wsX10 ++ wsX20 ++ wsX30 ++ wsX40)
def wsX4_planned : List Cond := .code yX4_planned cX4_planned 5 (some .int) :: ([.fieldLink RX4 15 "StakeHouse" "told" "[I", .methodLink RX4 137 Lib.Math.min.name, .static Lib.Math.min.name, .initialized "java/lang/Math", .code Lib.Math.min.name Lib.Math.min.code 2 (some .int), .methodLink RX4 196 yX4_boldStake, .instanceMethod yX4_boldStake, .selects RX4 yX4_boldStake yX4_boldStake, .initialized RX4, .code yX4_boldStake cX4_boldStake 5 (some .int), .fieldLink RX4 42 "StakeHouse" "goal" "I", .methodLink RX4 184 yX4_mostStake, .static yX4_mostStake, .code yX4_mostStake cX4_mostStake 2 (some .int)] ++ wsX40 ++ wsX10 ++ wsX20 ++ wsX30)
def wsX4_stake_r1 : List Cond := [Cond.methodLink RX4 74 yX4_gameAt, Cond.instanceMethod yX4_gameAt, Cond.selects RX4 yX4_gameAt yX4_gameAt, Cond.initialized RX4, Cond.code yX4_gameAt cX4_gameAt 2 (some (.object "StakeHouse$EvenGame")), Cond.fieldLink RX4 49 "StakeHouse" "held" "I", Cond.fieldLink RX4 11 "StakeHouse" "games" "[LStakeHouse$EvenGame;", Cond.methodLink RX4 56 yX4_within, Cond.static yX4_within, Cond.code yX4_within cX4_within 3 (some .boolean), Cond.methodLink RX4 95 yX4_isPlayed, Cond.instanceMethod yX4_isPlayed, Cond.selects RX4 yX4_isPlayed yX4_isPlayed, Cond.code yX4_isPlayed cX4_isPlayed 2 (some .boolean), Cond.fieldLink RX4 42 "StakeHouse" "goal" "I", Cond.methodLink RX4 111 yX4_planned, Cond.instanceMethod yX4_planned, Cond.selects RX4 yX4_planned yX4_planned, Cond.code yX4_planned cX4_planned 5 (some .int), Cond.fieldLink RX4 15 "StakeHouse" "told" "[I", Cond.methodLink RX4 137 Lib.Math.min.name, Cond.static Lib.Math.min.name, Cond.initialized "java/lang/Math", Cond.code Lib.Math.min.name Lib.Math.min.code 2 (some .int)]
def wsX4_stake_r2 : List Cond := [Cond.methodLink RX4 196 yX4_boldStake, Cond.instanceMethod yX4_boldStake, Cond.selects RX4 yX4_boldStake yX4_boldStake, Cond.code yX4_boldStake cX4_boldStake 5 (some .int), Cond.methodLink RX4 184 yX4_mostStake, Cond.static yX4_mostStake, Cond.code yX4_mostStake cX4_mostStake 2 (some .int)]
def wsX4_stake : List Cond := .code yX4_stake cX4_stake 5 (some .int) :: ((wsX4_stake_r1 ++ wsX4_stake_r2) ++ wsX40 ++ wsX10 ++ wsX20 ++ wsX30)
def wsX4_layRung_r1 : List Cond := [Cond.fieldLink RX4 42 "StakeHouse" "goal" "I", Cond.fieldLink RX4 34 "StakeHouse" "staked" "[I", Cond.fieldLink RX4 39 "StakeHouse" "worth" "[[J", Cond.methodLink RX4 95 yX4_isPlayed, Cond.instanceMethod yX4_isPlayed, Cond.selects RX4 yX4_isPlayed yX4_isPlayed, Cond.initialized RX4, Cond.code yX4_isPlayed cX4_isPlayed 2 (some .boolean), Cond.methodLink RX4 56 yX4_within, Cond.static yX4_within, Cond.code yX4_within cX4_within 3 (some .boolean), Cond.methodLink RX4 111 yX4_planned, Cond.instanceMethod yX4_planned, Cond.selects RX4 yX4_planned yX4_planned, Cond.code yX4_planned cX4_planned 5 (some .int), Cond.fieldLink RX4 15 "StakeHouse" "told" "[I", Cond.methodLink RX4 137 Lib.Math.min.name, Cond.static Lib.Math.min.name, Cond.initialized "java/lang/Math", Cond.code Lib.Math.min.name Lib.Math.min.code 2 (some .int), Cond.methodLink RX4 196 yX4_boldStake, Cond.instanceMethod yX4_boldStake, Cond.selects RX4 yX4_boldStake yX4_boldStake, Cond.code yX4_boldStake cX4_boldStake 5 (some .int)]
def wsX4_layRung_r2 : List Cond := [Cond.methodLink RX4 184 yX4_mostStake, Cond.static yX4_mostStake, Cond.code yX4_mostStake cX4_mostStake 2 (some .int), Cond.methodLink RX4 160 yX4_endWorth, Cond.instanceMethod yX4_endWorth, Cond.selects RX4 yX4_endWorth yX4_endWorth, Cond.code yX4_endWorth cX4_endWorth 3 (some .long)]
def wsX4_layRung : List Cond := .code yX4_layRung cX4_layRung 7 none :: ((wsX4_layRung_r1 ++ wsX4_layRung_r2) ++ wsX40 ++ wsX10 ++ wsX20 ++ wsX30)
def wsX4_playRung : List Cond := .code yX4_playRung cX4_playRung 13 none :: ([.fieldLink RX4 39 "StakeHouse" "worth" "[[J", .fieldLink RX4 42 "StakeHouse" "goal" "I", .fieldLink RX4 34 "StakeHouse" "staked" "[I", .constantLong RX4 168 (16), .methodLink RX4 188 yX4_raised, .instanceMethod yX4_raised, .selects RX4 yX4_raised yX4_raised, .initialized RX4, .code yX4_raised cX4_raised 4 (some .int), .methodLink RX4 137 Lib.Math.min.name, .static Lib.Math.min.name, .initialized "java/lang/Math", .code Lib.Math.min.name Lib.Math.min.code 2 (some .int), .methodLink RX4 192 yX4_mixed, .static yX4_mixed, .code yX4_mixed cX4_mixed 5 (some .long)] ++ wsX40 ++ wsX10 ++ wsX20 ++ wsX30)
def wsX4_planWorth_r1 : List Cond := [Cond.methodLink RX4 137 Lib.Math.min.name, Cond.static Lib.Math.min.name, Cond.initialized "java/lang/Math", Cond.code Lib.Math.min.name Lib.Math.min.code 2 (some .int), Cond.fieldLink RX4 39 "StakeHouse" "worth" "[[J", Cond.methodLink RX4 199 yX4_layRung, Cond.instanceMethod yX4_layRung, Cond.selects RX4 yX4_layRung yX4_layRung, Cond.initialized RX4, Cond.code yX4_layRung cX4_layRung 7 none, Cond.fieldLink RX4 42 "StakeHouse" "goal" "I", Cond.fieldLink RX4 34 "StakeHouse" "staked" "[I", Cond.methodLink RX4 95 yX4_isPlayed, Cond.instanceMethod yX4_isPlayed, Cond.selects RX4 yX4_isPlayed yX4_isPlayed, Cond.code yX4_isPlayed cX4_isPlayed 2 (some .boolean), Cond.methodLink RX4 56 yX4_within, Cond.static yX4_within, Cond.code yX4_within cX4_within 3 (some .boolean), Cond.methodLink RX4 111 yX4_planned, Cond.instanceMethod yX4_planned, Cond.selects RX4 yX4_planned yX4_planned, Cond.code yX4_planned cX4_planned 5 (some .int), Cond.fieldLink RX4 15 "StakeHouse" "told" "[I"]
def wsX4_planWorth_r2 : List Cond := [Cond.methodLink RX4 196 yX4_boldStake, Cond.instanceMethod yX4_boldStake, Cond.selects RX4 yX4_boldStake yX4_boldStake, Cond.code yX4_boldStake cX4_boldStake 5 (some .int), Cond.methodLink RX4 184 yX4_mostStake, Cond.static yX4_mostStake, Cond.code yX4_mostStake cX4_mostStake 2 (some .int), Cond.methodLink RX4 160 yX4_endWorth, Cond.instanceMethod yX4_endWorth, Cond.selects RX4 yX4_endWorth yX4_endWorth, Cond.code yX4_endWorth cX4_endWorth 3 (some .long), Cond.methodLink RX4 203 yX4_playRung, Cond.instanceMethod yX4_playRung, Cond.selects RX4 yX4_playRung yX4_playRung, Cond.code yX4_playRung cX4_playRung 13 none, Cond.constantLong RX4 168 (16), Cond.methodLink RX4 188 yX4_raised, Cond.instanceMethod yX4_raised, Cond.selects RX4 yX4_raised yX4_raised, Cond.code yX4_raised cX4_raised 4 (some .int), Cond.methodLink RX4 192 yX4_mixed, Cond.static yX4_mixed, Cond.code yX4_mixed cX4_mixed 5 (some .long)]
def wsX4_planWorth : List Cond := .code yX4_planWorth cX4_planWorth 10 (some .long) :: ((wsX4_planWorth_r1 ++ wsX4_planWorth_r2) ++ wsX40 ++ wsX10 ++ wsX20 ++ wsX30)
def wsX4_plan_r1 : List Cond := [Cond.constantLong RX4 93 (-1), Cond.methodLink RX4 74 yX4_gameAt, Cond.instanceMethod yX4_gameAt, Cond.selects RX4 yX4_gameAt yX4_gameAt, Cond.initialized RX4, Cond.code yX4_gameAt cX4_gameAt 2 (some (.object "StakeHouse$EvenGame")), Cond.fieldLink RX4 49 "StakeHouse" "held" "I", Cond.fieldLink RX4 11 "StakeHouse" "games" "[LStakeHouse$EvenGame;", Cond.methodLink RX4 56 yX4_within, Cond.static yX4_within, Cond.code yX4_within cX4_within 3 (some .boolean), Cond.methodLink RX4 89 yX4_isSpot, Cond.instanceMethod yX4_isSpot, Cond.selects RX4 yX4_isSpot yX4_isSpot, Cond.code yX4_isSpot cX4_isSpot 3 (some .boolean), Cond.fieldLink RX4 42 "StakeHouse" "goal" "I", Cond.fieldLink RX4 46 "StakeHouse" "horizon" "I", Cond.methodLink RX4 115 yX4_planWorth, Cond.instanceMethod yX4_planWorth, Cond.selects RX4 yX4_planWorth yX4_planWorth, Cond.code yX4_planWorth cX4_planWorth 10 (some .long), Cond.methodLink RX4 137 Lib.Math.min.name, Cond.static Lib.Math.min.name, Cond.initialized "java/lang/Math"]
def wsX4_plan_r2 : List Cond := [Cond.code Lib.Math.min.name Lib.Math.min.code 2 (some .int), Cond.fieldLink RX4 39 "StakeHouse" "worth" "[[J", Cond.methodLink RX4 199 yX4_layRung, Cond.instanceMethod yX4_layRung, Cond.selects RX4 yX4_layRung yX4_layRung, Cond.code yX4_layRung cX4_layRung 7 none, Cond.fieldLink RX4 34 "StakeHouse" "staked" "[I", Cond.methodLink RX4 95 yX4_isPlayed, Cond.instanceMethod yX4_isPlayed, Cond.selects RX4 yX4_isPlayed yX4_isPlayed, Cond.code yX4_isPlayed cX4_isPlayed 2 (some .boolean), Cond.methodLink RX4 111 yX4_planned, Cond.instanceMethod yX4_planned, Cond.selects RX4 yX4_planned yX4_planned, Cond.code yX4_planned cX4_planned 5 (some .int), Cond.fieldLink RX4 15 "StakeHouse" "told" "[I", Cond.methodLink RX4 196 yX4_boldStake, Cond.instanceMethod yX4_boldStake, Cond.selects RX4 yX4_boldStake yX4_boldStake, Cond.code yX4_boldStake cX4_boldStake 5 (some .int), Cond.methodLink RX4 184 yX4_mostStake, Cond.static yX4_mostStake, Cond.code yX4_mostStake cX4_mostStake 2 (some .int), Cond.methodLink RX4 160 yX4_endWorth]
def wsX4_plan_r3 : List Cond := [Cond.instanceMethod yX4_endWorth, Cond.selects RX4 yX4_endWorth yX4_endWorth, Cond.code yX4_endWorth cX4_endWorth 3 (some .long), Cond.methodLink RX4 203 yX4_playRung, Cond.instanceMethod yX4_playRung, Cond.selects RX4 yX4_playRung yX4_playRung, Cond.code yX4_playRung cX4_playRung 13 none, Cond.constantLong RX4 168 (16), Cond.methodLink RX4 188 yX4_raised, Cond.instanceMethod yX4_raised, Cond.selects RX4 yX4_raised yX4_raised, Cond.code yX4_raised cX4_raised 4 (some .int), Cond.methodLink RX4 192 yX4_mixed, Cond.static yX4_mixed, Cond.code yX4_mixed cX4_mixed 5 (some .long)]
def wsX4_plan : List Cond := .code yX4_plan cX4_plan 7 (some .long) :: ((wsX4_plan_r1 ++ (wsX4_plan_r2 ++ wsX4_plan_r3)) ++ wsX40 ++ wsX10 ++ wsX20 ++ wsX30)
def wsX4_bold_r1 : List Cond := [Cond.fieldLink RX4 31 "StakeHouse" "aloneChart" "LStakeHouse$Chart;", Cond.methodLink RX4 74 yX4_gameAt, Cond.instanceMethod yX4_gameAt, Cond.selects RX4 yX4_gameAt yX4_gameAt, Cond.initialized RX4, Cond.code yX4_gameAt cX4_gameAt 2 (some (.object "StakeHouse$EvenGame")), Cond.fieldLink RX4 49 "StakeHouse" "held" "I", Cond.fieldLink RX4 11 "StakeHouse" "games" "[LStakeHouse$EvenGame;", Cond.methodLink RX4 56 yX4_within, Cond.static yX4_within, Cond.code yX4_within cX4_within 3 (some .boolean), Cond.methodLink RX4 89 yX4_isSpot, Cond.instanceMethod yX4_isSpot, Cond.selects RX4 yX4_isSpot yX4_isSpot, Cond.code yX4_isSpot cX4_isSpot 3 (some .boolean), Cond.fieldLink RX4 42 "StakeHouse" "goal" "I", Cond.fieldLink RX4 46 "StakeHouse" "horizon" "I", Cond.methodLink RX4 99 yX0_cover, Cond.instanceMethod yX0_cover, Cond.selects RX0 yX0_cover yX0_cover, Cond.initialized RX0, Cond.code yX0_cover cX0_cover 3 none, Cond.fieldLink RX0 16 "StakeHouse$Chart" "first" "I", Cond.fieldLink RX0 20 "StakeHouse$Chart" "end" "I"]
def wsX4_bold_r2 : List Cond := [Cond.fieldLink RX0 23 "StakeHouse$Chart" "known" "I", Cond.methodLink RX4 103 yX4_chartRow, Cond.instanceMethod yX4_chartRow, Cond.selects RX4 yX4_chartRow yX4_chartRow, Cond.code yX4_chartRow cX4_chartRow 5 (some (.array .long)), Cond.methodLink RX4 160 yX4_endWorth, Cond.instanceMethod yX4_endWorth, Cond.selects RX4 yX4_endWorth yX4_endWorth, Cond.code yX4_endWorth cX4_endWorth 3 (some .long), Cond.methodLink RX4 164 yX4_greatestTurn, Cond.instanceMethod yX4_greatestTurn, Cond.selects RX4 yX4_greatestTurn yX4_greatestTurn, Cond.code yX4_greatestTurn cX4_greatestTurn 8 (some .long), Cond.constantLong RX4 168 (16), Cond.methodLink RX4 180 Lib.MathLoose.max_long.x, Cond.static Lib.MathLoose.max_long.x, Cond.initialized "java/lang/Math", Cond.code Lib.MathLoose.max_long.x Lib.MathLoose.max_long.code 4 (some .long), Cond.methodLink RX4 95 yX4_isPlayed, Cond.instanceMethod yX4_isPlayed, Cond.selects RX4 yX4_isPlayed yX4_isPlayed, Cond.code yX4_isPlayed cX4_isPlayed 2 (some .boolean), Cond.methodLink RX4 176 yX4_greatestStake, Cond.instanceMethod yX4_greatestStake]
def wsX4_bold_r3 : List Cond := [Cond.selects RX4 yX4_greatestStake yX4_greatestStake, Cond.code yX4_greatestStake cX4_greatestStake 8 (some .long), Cond.methodLink RX4 184 yX4_mostStake, Cond.static yX4_mostStake, Cond.code yX4_mostStake cX4_mostStake 2 (some .int), Cond.methodLink RX4 137 Lib.Math.min.name, Cond.static Lib.Math.min.name, Cond.code Lib.Math.min.name Lib.Math.min.code 2 (some .int), Cond.methodLink RX4 188 yX4_raised, Cond.instanceMethod yX4_raised, Cond.selects RX4 yX4_raised yX4_raised, Cond.code yX4_raised cX4_raised 4 (some .int), Cond.methodLink RX4 192 yX4_mixed, Cond.static yX4_mixed, Cond.code yX4_mixed cX4_mixed 5 (some .long), Cond.methodLink RX4 115 yX4_planWorth, Cond.instanceMethod yX4_planWorth, Cond.selects RX4 yX4_planWorth yX4_planWorth, Cond.code yX4_planWorth cX4_planWorth 10 (some .long), Cond.fieldLink RX4 39 "StakeHouse" "worth" "[[J", Cond.methodLink RX4 199 yX4_layRung, Cond.instanceMethod yX4_layRung, Cond.selects RX4 yX4_layRung yX4_layRung, Cond.code yX4_layRung cX4_layRung 7 none]
def wsX4_bold_r4 : List Cond := [Cond.fieldLink RX4 34 "StakeHouse" "staked" "[I", Cond.methodLink RX4 111 yX4_planned, Cond.instanceMethod yX4_planned, Cond.selects RX4 yX4_planned yX4_planned, Cond.code yX4_planned cX4_planned 5 (some .int), Cond.fieldLink RX4 15 "StakeHouse" "told" "[I", Cond.methodLink RX4 196 yX4_boldStake, Cond.instanceMethod yX4_boldStake, Cond.selects RX4 yX4_boldStake yX4_boldStake, Cond.code yX4_boldStake cX4_boldStake 5 (some .int), Cond.methodLink RX4 203 yX4_playRung, Cond.instanceMethod yX4_playRung, Cond.selects RX4 yX4_playRung yX4_playRung, Cond.code yX4_playRung cX4_playRung 13 none]
def wsX4_bold : List Cond := .code yX4_bold cX4_bold 7 (some .int) :: ((wsX4_bold_r1 ++ (wsX4_bold_r2 ++ (wsX4_bold_r3 ++ wsX4_bold_r4))) ++ wsX40 ++ wsX00 ++ wsX10 ++ wsX20 ++ wsX30)
def wsX4_count : List Cond := .code yX4_count cX4_count 2 (some .int) :: ([.fieldLink RX4 42 "StakeHouse" "goal" "I", .fieldLink RX4 46 "StakeHouse" "horizon" "I", .fieldLink RX4 49 "StakeHouse" "held" "I"] ++ wsX40)
def wsX4_trace : List Cond := .code yX4_trace cX4_trace 1 (some .long) :: ([.fieldLink RX4 52 "StakeHouse" "marks" "J"] ++ wsX40)
def wsX5_init : List Cond := .code yX5_init cX5_init 1 none :: ([.methodLink RX5 1 objectInit, .instanceMethod objectInit, .code objectInit ⟨#[0xb1]⟩ 1 none, .fieldLink RX5 7 "StakeHouseModel" "goal" "I", .fieldLink RX5 13 "StakeHouseModel" "horizon" "I", .arrayClass .int, .fieldLink RX5 16 "StakeHouseModel" "kind" "[I", .fieldLink RX5 20 "StakeHouseModel" "chance" "[I", .fieldLink RX5 23 "StakeHouseModel" "times" "[I", .fieldLink RX5 26 "StakeHouseModel" "tax" "[I", .fieldLink RX5 29 "StakeHouseModel" "limit" "[I", .fieldLink RX5 32 "StakeHouseModel" "told" "[I", .arrayClass .long, .fieldLink RX5 35 "StakeHouseModel" "best" "[J", .fieldLink RX5 39 "StakeHouseModel" "now" "[J", .fieldLink RX5 42 "StakeHouseModel" "then" "[J", .fieldLink RX5 45 "StakeHouseModel" "games" "I"] ++ wsX50)
def wsX5_in : List Cond := .code yX5_in cX5_in 3 (some .boolean) :: ([])
def wsX5_set : List Cond := .code yX5_set cX5_set 5 (some .int) :: ([.fieldLink RX5 7 "StakeHouseModel" "goal" "I", .fieldLink RX5 32 "StakeHouseModel" "told" "[I", .fieldLink RX5 13 "StakeHouseModel" "horizon" "I", .methodLink RX5 48 yX5_in, .static yX5_in, .initialized RX5, .code yX5_in cX5_in 3 (some .boolean)] ++ wsX50)
def wsX5_game : List Cond := .code yX5_game cX5_game 7 (some .int) :: ([.fieldLink RX5 45 "StakeHouseModel" "games" "I", .fieldLink RX5 16 "StakeHouseModel" "kind" "[I", .fieldLink RX5 20 "StakeHouseModel" "chance" "[I", .fieldLink RX5 23 "StakeHouseModel" "times" "[I", .fieldLink RX5 26 "StakeHouseModel" "tax" "[I", .fieldLink RX5 29 "StakeHouseModel" "limit" "[I", .methodLink RX5 48 yX5_in, .static yX5_in, .initialized RX5, .code yX5_in cX5_in 3 (some .boolean)] ++ wsX50)
def wsX5_drop : List Cond := .code yX5_drop cX5_drop 1 (some .int) :: ([.fieldLink RX5 45 "StakeHouseModel" "games" "I"] ++ wsX50)
def wsX5_winOf : List Cond := .code yX5_winOf cX5_winOf 4 (some .int) :: ([.fieldLink RX5 16 "StakeHouseModel" "kind" "[I", .fieldLink RX5 23 "StakeHouseModel" "times" "[I", .fieldLink RX5 26 "StakeHouseModel" "tax" "[I"] ++ wsX50)
def wsX5_isGame : List Cond := .code yX5_isGame cX5_isGame 2 (some .boolean) :: ([.fieldLink RX5 45 "StakeHouseModel" "games" "I", .methodLink RX5 48 yX5_in, .static yX5_in, .initialized RX5, .code yX5_in cX5_in 3 (some .boolean)] ++ wsX50)
def wsX5_win : List Cond := .code yX5_win cX5_win 3 (some .int) :: ([.fieldLink RX5 56 "StakeHouseModel" "trace" "J", .fieldLink RX5 16 "StakeHouseModel" "kind" "[I", .constantLong RX5 60 (11), .constantLong RX5 62 (111), .methodLink RX5 52 yX5_isGame, .instanceMethod yX5_isGame, .selects RX5 yX5_isGame yX5_isGame, .initialized RX5, .code yX5_isGame cX5_isGame 2 (some .boolean), .fieldLink RX5 45 "StakeHouseModel" "games" "I", .methodLink RX5 48 yX5_in, .static yX5_in, .code yX5_in cX5_in 3 (some .boolean), .methodLink RX5 64 yX5_winOf, .instanceMethod yX5_winOf, .selects RX5 yX5_winOf yX5_winOf, .code yX5_winOf cX5_winOf 4 (some .int), .fieldLink RX5 23 "StakeHouseModel" "times" "[I", .fieldLink RX5 26 "StakeHouseModel" "tax" "[I"] ++ wsX50)
def wsX5_behind : List Cond := .code yX5_behind cX5_behind 5 (some .int) :: ([.fieldLink RX5 7 "StakeHouseModel" "goal" "I", .methodLink RX5 64 yX5_winOf, .instanceMethod yX5_winOf, .selects RX5 yX5_winOf yX5_winOf, .initialized RX5, .code yX5_winOf cX5_winOf 4 (some .int), .fieldLink RX5 16 "StakeHouseModel" "kind" "[I", .fieldLink RX5 23 "StakeHouseModel" "times" "[I", .fieldLink RX5 26 "StakeHouseModel" "tax" "[I"] ++ wsX50)
def wsX5_mostAt : List Cond := .code yX5_mostAt cX5_mostAt 3 (some .int) :: ([.fieldLink RX5 29 "StakeHouseModel" "limit" "[I"] ++ wsX50)
def wsX5_worth : List Cond := .code yX5_worth cX5_worth 9 (some .long) :: ([.fieldLink RX5 35 "StakeHouseModel" "best" "[J", .fieldLink RX5 20 "StakeHouseModel" "chance" "[I", .methodLink RX5 68 yX5_behind, .instanceMethod yX5_behind, .selects RX5 yX5_behind yX5_behind, .initialized RX5, .code yX5_behind cX5_behind 5 (some .int), .fieldLink RX5 7 "StakeHouseModel" "goal" "I", .methodLink RX5 64 yX5_winOf, .instanceMethod yX5_winOf, .selects RX5 yX5_winOf yX5_winOf, .code yX5_winOf cX5_winOf 4 (some .int), .fieldLink RX5 16 "StakeHouseModel" "kind" "[I", .fieldLink RX5 23 "StakeHouseModel" "times" "[I", .fieldLink RX5 26 "StakeHouseModel" "tax" "[I"] ++ wsX50)
def wsX5_work_r1 : List Cond := [Cond.fieldLink RX5 7 "StakeHouseModel" "goal" "I", Cond.fieldLink RX5 35 "StakeHouseModel" "best" "[J", Cond.constantLong RX5 72 (16), Cond.methodLink RX5 74 yX5_mostAt, Cond.instanceMethod yX5_mostAt, Cond.selects RX5 yX5_mostAt yX5_mostAt, Cond.initialized RX5, Cond.code yX5_mostAt cX5_mostAt 3 (some .int), Cond.fieldLink RX5 29 "StakeHouseModel" "limit" "[I", Cond.methodLink RX5 77 yX5_worth, Cond.instanceMethod yX5_worth, Cond.selects RX5 yX5_worth yX5_worth, Cond.code yX5_worth cX5_worth 9 (some .long), Cond.fieldLink RX5 20 "StakeHouseModel" "chance" "[I", Cond.methodLink RX5 68 yX5_behind, Cond.instanceMethod yX5_behind, Cond.selects RX5 yX5_behind yX5_behind, Cond.code yX5_behind cX5_behind 5 (some .int), Cond.methodLink RX5 64 yX5_winOf, Cond.instanceMethod yX5_winOf, Cond.selects RX5 yX5_winOf yX5_winOf, Cond.code yX5_winOf cX5_winOf 4 (some .int), Cond.fieldLink RX5 16 "StakeHouseModel" "kind" "[I", Cond.fieldLink RX5 23 "StakeHouseModel" "times" "[I"]
def wsX5_work_r2 : List Cond := [Cond.fieldLink RX5 26 "StakeHouseModel" "tax" "[I"]
def wsX5_work : List Cond := .code yX5_work cX5_work 13 none :: ((wsX5_work_r1 ++ wsX5_work_r2) ++ wsX50)
def wsX5_isPurse : List Cond := .code yX5_isPurse cX5_isPurse 2 (some .boolean) :: ([.fieldLink RX5 7 "StakeHouseModel" "goal" "I", .methodLink RX5 48 yX5_in, .static yX5_in, .initialized RX5, .code yX5_in cX5_in 3 (some .boolean)] ++ wsX50)
def wsX5_best_r1 : List Cond := [Cond.fieldLink RX5 13 "StakeHouseModel" "horizon" "I", Cond.constantLong RX5 84 (-1), Cond.fieldLink RX5 45 "StakeHouseModel" "games" "I", Cond.constantLong RX5 86 (-2), Cond.fieldLink RX5 35 "StakeHouseModel" "best" "[J", Cond.methodLink RX5 81 yX5_isPurse, Cond.instanceMethod yX5_isPurse, Cond.selects RX5 yX5_isPurse yX5_isPurse, Cond.initialized RX5, Cond.code yX5_isPurse cX5_isPurse 2 (some .boolean), Cond.fieldLink RX5 7 "StakeHouseModel" "goal" "I", Cond.methodLink RX5 48 yX5_in, Cond.static yX5_in, Cond.code yX5_in cX5_in 3 (some .boolean), Cond.methodLink RX5 88 yX5_work, Cond.instanceMethod yX5_work, Cond.selects RX5 yX5_work yX5_work, Cond.code yX5_work cX5_work 13 none, Cond.constantLong RX5 72 (16), Cond.methodLink RX5 74 yX5_mostAt, Cond.instanceMethod yX5_mostAt, Cond.selects RX5 yX5_mostAt yX5_mostAt, Cond.code yX5_mostAt cX5_mostAt 3 (some .int), Cond.fieldLink RX5 29 "StakeHouseModel" "limit" "[I"]
def wsX5_best_r2 : List Cond := [Cond.methodLink RX5 77 yX5_worth, Cond.instanceMethod yX5_worth, Cond.selects RX5 yX5_worth yX5_worth, Cond.code yX5_worth cX5_worth 9 (some .long), Cond.fieldLink RX5 20 "StakeHouseModel" "chance" "[I", Cond.methodLink RX5 68 yX5_behind, Cond.instanceMethod yX5_behind, Cond.selects RX5 yX5_behind yX5_behind, Cond.code yX5_behind cX5_behind 5 (some .int), Cond.methodLink RX5 64 yX5_winOf, Cond.instanceMethod yX5_winOf, Cond.selects RX5 yX5_winOf yX5_winOf, Cond.code yX5_winOf cX5_winOf 4 (some .int), Cond.fieldLink RX5 16 "StakeHouseModel" "kind" "[I", Cond.fieldLink RX5 23 "StakeHouseModel" "times" "[I", Cond.fieldLink RX5 26 "StakeHouseModel" "tax" "[I"]
def wsX5_best : List Cond := .code yX5_best cX5_best 3 (some .long) :: ((wsX5_best_r1 ++ wsX5_best_r2) ++ wsX50)
def wsX5_stakes_r1 : List Cond := [Cond.fieldLink RX5 13 "StakeHouseModel" "horizon" "I", Cond.constantLong RX5 84 (-1), Cond.fieldLink RX5 7 "StakeHouseModel" "goal" "I", Cond.fieldLink RX5 45 "StakeHouseModel" "games" "I", Cond.fieldLink RX5 35 "StakeHouseModel" "best" "[J", Cond.constantLong RX5 72 (16), Cond.methodLink RX5 52 yX5_isGame, Cond.instanceMethod yX5_isGame, Cond.selects RX5 yX5_isGame yX5_isGame, Cond.initialized RX5, Cond.code yX5_isGame cX5_isGame 2 (some .boolean), Cond.methodLink RX5 48 yX5_in, Cond.static yX5_in, Cond.code yX5_in cX5_in 3 (some .boolean), Cond.methodLink RX5 81 yX5_isPurse, Cond.instanceMethod yX5_isPurse, Cond.selects RX5 yX5_isPurse yX5_isPurse, Cond.code yX5_isPurse cX5_isPurse 2 (some .boolean), Cond.methodLink RX5 88 yX5_work, Cond.instanceMethod yX5_work, Cond.selects RX5 yX5_work yX5_work, Cond.code yX5_work cX5_work 13 none, Cond.methodLink RX5 74 yX5_mostAt, Cond.instanceMethod yX5_mostAt]
def wsX5_stakes_r2 : List Cond := [Cond.selects RX5 yX5_mostAt yX5_mostAt, Cond.code yX5_mostAt cX5_mostAt 3 (some .int), Cond.fieldLink RX5 29 "StakeHouseModel" "limit" "[I", Cond.methodLink RX5 77 yX5_worth, Cond.instanceMethod yX5_worth, Cond.selects RX5 yX5_worth yX5_worth, Cond.code yX5_worth cX5_worth 9 (some .long), Cond.fieldLink RX5 20 "StakeHouseModel" "chance" "[I", Cond.methodLink RX5 68 yX5_behind, Cond.instanceMethod yX5_behind, Cond.selects RX5 yX5_behind yX5_behind, Cond.code yX5_behind cX5_behind 5 (some .int), Cond.methodLink RX5 64 yX5_winOf, Cond.instanceMethod yX5_winOf, Cond.selects RX5 yX5_winOf yX5_winOf, Cond.code yX5_winOf cX5_winOf 4 (some .int), Cond.fieldLink RX5 16 "StakeHouseModel" "kind" "[I", Cond.fieldLink RX5 23 "StakeHouseModel" "times" "[I", Cond.fieldLink RX5 26 "StakeHouseModel" "tax" "[I"]
def wsX5_stakes : List Cond := .code yX5_stakes cX5_stakes 9 (some .long) :: ((wsX5_stakes_r1 ++ wsX5_stakes_r2) ++ wsX50)
def wsX5_mean_r1 : List Cond := [Cond.fieldLink RX5 13 "StakeHouseModel" "horizon" "I", Cond.constantLong RX5 84 (-1), Cond.fieldLink RX5 45 "StakeHouseModel" "games" "I", Cond.constantLong RX5 86 (-2), Cond.fieldLink RX5 35 "StakeHouseModel" "best" "[J", Cond.methodLink RX5 81 yX5_isPurse, Cond.instanceMethod yX5_isPurse, Cond.selects RX5 yX5_isPurse yX5_isPurse, Cond.initialized RX5, Cond.code yX5_isPurse cX5_isPurse 2 (some .boolean), Cond.fieldLink RX5 7 "StakeHouseModel" "goal" "I", Cond.methodLink RX5 48 yX5_in, Cond.static yX5_in, Cond.code yX5_in cX5_in 3 (some .boolean), Cond.methodLink RX5 88 yX5_work, Cond.instanceMethod yX5_work, Cond.selects RX5 yX5_work yX5_work, Cond.code yX5_work cX5_work 13 none, Cond.constantLong RX5 72 (16), Cond.methodLink RX5 74 yX5_mostAt, Cond.instanceMethod yX5_mostAt, Cond.selects RX5 yX5_mostAt yX5_mostAt, Cond.code yX5_mostAt cX5_mostAt 3 (some .int), Cond.fieldLink RX5 29 "StakeHouseModel" "limit" "[I"]
def wsX5_mean_r2 : List Cond := [Cond.methodLink RX5 77 yX5_worth, Cond.instanceMethod yX5_worth, Cond.selects RX5 yX5_worth yX5_worth, Cond.code yX5_worth cX5_worth 9 (some .long), Cond.fieldLink RX5 20 "StakeHouseModel" "chance" "[I", Cond.methodLink RX5 68 yX5_behind, Cond.instanceMethod yX5_behind, Cond.selects RX5 yX5_behind yX5_behind, Cond.code yX5_behind cX5_behind 5 (some .int), Cond.methodLink RX5 64 yX5_winOf, Cond.instanceMethod yX5_winOf, Cond.selects RX5 yX5_winOf yX5_winOf, Cond.code yX5_winOf cX5_winOf 4 (some .int), Cond.fieldLink RX5 16 "StakeHouseModel" "kind" "[I", Cond.fieldLink RX5 23 "StakeHouseModel" "times" "[I", Cond.fieldLink RX5 26 "StakeHouseModel" "tax" "[I"]
def wsX5_mean : List Cond := .code yX5_mean cX5_mean 3 (some .long) :: ((wsX5_mean_r1 ++ wsX5_mean_r2) ++ wsX50)
def wsX5_tell : List Cond := .code yX5_tell cX5_tell 4 (some .int) :: ([.fieldLink RX5 7 "StakeHouseModel" "goal" "I", .fieldLink RX5 32 "StakeHouseModel" "told" "[I", .methodLink RX5 48 yX5_in, .static yX5_in, .initialized RX5, .code yX5_in cX5_in 3 (some .boolean)] ++ wsX50)
def wsX5_least : List Cond := .code yX5_least cX5_least 2 (some .int) :: ([])
def wsX5_stakeOf : List Cond := .code yX5_stakeOf cX5_stakeOf 6 (some .int) :: ([.fieldLink RX5 32 "StakeHouseModel" "told" "[I", .fieldLink RX5 7 "StakeHouseModel" "goal" "I", .methodLink RX5 74 yX5_mostAt, .instanceMethod yX5_mostAt, .selects RX5 yX5_mostAt yX5_mostAt, .initialized RX5, .code yX5_mostAt cX5_mostAt 3 (some .int), .fieldLink RX5 29 "StakeHouseModel" "limit" "[I", .methodLink RX5 92 yX5_least, .static yX5_least, .code yX5_least cX5_least 2 (some .int), .methodLink RX5 64 yX5_winOf, .instanceMethod yX5_winOf, .selects RX5 yX5_winOf yX5_winOf, .code yX5_winOf cX5_winOf 4 (some .int), .fieldLink RX5 16 "StakeHouseModel" "kind" "[I", .fieldLink RX5 23 "StakeHouseModel" "times" "[I", .fieldLink RX5 26 "StakeHouseModel" "tax" "[I"] ++ wsX50)
def wsX5_stake_r1 : List Cond := [Cond.fieldLink RX5 7 "StakeHouseModel" "goal" "I", Cond.methodLink RX5 48 yX5_in, Cond.static yX5_in, Cond.initialized RX5, Cond.code yX5_in cX5_in 3 (some .boolean), Cond.methodLink RX5 52 yX5_isGame, Cond.instanceMethod yX5_isGame, Cond.selects RX5 yX5_isGame yX5_isGame, Cond.code yX5_isGame cX5_isGame 2 (some .boolean), Cond.fieldLink RX5 45 "StakeHouseModel" "games" "I", Cond.methodLink RX5 95 yX5_stakeOf, Cond.instanceMethod yX5_stakeOf, Cond.selects RX5 yX5_stakeOf yX5_stakeOf, Cond.code yX5_stakeOf cX5_stakeOf 6 (some .int), Cond.fieldLink RX5 32 "StakeHouseModel" "told" "[I", Cond.methodLink RX5 74 yX5_mostAt, Cond.instanceMethod yX5_mostAt, Cond.selects RX5 yX5_mostAt yX5_mostAt, Cond.code yX5_mostAt cX5_mostAt 3 (some .int), Cond.fieldLink RX5 29 "StakeHouseModel" "limit" "[I", Cond.methodLink RX5 92 yX5_least, Cond.static yX5_least, Cond.code yX5_least cX5_least 2 (some .int), Cond.methodLink RX5 64 yX5_winOf]
def wsX5_stake_r2 : List Cond := [Cond.instanceMethod yX5_winOf, Cond.selects RX5 yX5_winOf yX5_winOf, Cond.code yX5_winOf cX5_winOf 4 (some .int), Cond.fieldLink RX5 16 "StakeHouseModel" "kind" "[I", Cond.fieldLink RX5 23 "StakeHouseModel" "times" "[I", Cond.fieldLink RX5 26 "StakeHouseModel" "tax" "[I"]
def wsX5_stake : List Cond := .code yX5_stake cX5_stake 4 (some .int) :: ((wsX5_stake_r1 ++ wsX5_stake_r2) ++ wsX50)
def wsX5_follow_r1 : List Cond := [Cond.fieldLink RX5 39 "StakeHouseModel" "now" "[J", Cond.fieldLink RX5 98 "StakeHouseModel" "played" "J", Cond.fieldLink RX5 42 "StakeHouseModel" "then" "[J", Cond.constantLong RX5 72 (16), Cond.fieldLink RX5 7 "StakeHouseModel" "goal" "I", Cond.fieldLink RX5 20 "StakeHouseModel" "chance" "[I", Cond.methodLink RX5 74 yX5_mostAt, Cond.instanceMethod yX5_mostAt, Cond.selects RX5 yX5_mostAt yX5_mostAt, Cond.initialized RX5, Cond.code yX5_mostAt cX5_mostAt 3 (some .int), Cond.fieldLink RX5 29 "StakeHouseModel" "limit" "[I", Cond.methodLink RX5 92 yX5_least, Cond.static yX5_least, Cond.code yX5_least cX5_least 2 (some .int), Cond.methodLink RX5 95 yX5_stakeOf, Cond.instanceMethod yX5_stakeOf, Cond.selects RX5 yX5_stakeOf yX5_stakeOf, Cond.code yX5_stakeOf cX5_stakeOf 6 (some .int), Cond.fieldLink RX5 32 "StakeHouseModel" "told" "[I", Cond.methodLink RX5 64 yX5_winOf, Cond.instanceMethod yX5_winOf, Cond.selects RX5 yX5_winOf yX5_winOf, Cond.code yX5_winOf cX5_winOf 4 (some .int)]
def wsX5_follow_r2 : List Cond := [Cond.fieldLink RX5 16 "StakeHouseModel" "kind" "[I", Cond.fieldLink RX5 23 "StakeHouseModel" "times" "[I", Cond.fieldLink RX5 26 "StakeHouseModel" "tax" "[I", Cond.methodLink RX5 68 yX5_behind, Cond.instanceMethod yX5_behind, Cond.selects RX5 yX5_behind yX5_behind, Cond.code yX5_behind cX5_behind 5 (some .int)]
def wsX5_follow : List Cond := .code yX5_follow cX5_follow 12 none :: ((wsX5_follow_r1 ++ wsX5_follow_r2) ++ wsX50)
def wsX5_weightAt : List Cond := .code yX5_weightAt cX5_weightAt 5 (some .long) :: ([.fieldLink RX5 39 "StakeHouseModel" "now" "[J"] ++ wsX50)
def wsX5_plan_r1 : List Cond := [Cond.fieldLink RX5 13 "StakeHouseModel" "horizon" "I", Cond.constantLong RX5 84 (-1), Cond.fieldLink RX5 98 "StakeHouseModel" "played" "J", Cond.fieldLink RX5 7 "StakeHouseModel" "goal" "I", Cond.methodLink RX5 48 yX5_in, Cond.static yX5_in, Cond.initialized RX5, Cond.code yX5_in cX5_in 3 (some .boolean), Cond.methodLink RX5 52 yX5_isGame, Cond.instanceMethod yX5_isGame, Cond.selects RX5 yX5_isGame yX5_isGame, Cond.code yX5_isGame cX5_isGame 2 (some .boolean), Cond.fieldLink RX5 45 "StakeHouseModel" "games" "I", Cond.methodLink RX5 81 yX5_isPurse, Cond.instanceMethod yX5_isPurse, Cond.selects RX5 yX5_isPurse yX5_isPurse, Cond.code yX5_isPurse cX5_isPurse 2 (some .boolean), Cond.methodLink RX5 101 yX5_follow, Cond.instanceMethod yX5_follow, Cond.selects RX5 yX5_follow yX5_follow, Cond.code yX5_follow cX5_follow 12 none, Cond.fieldLink RX5 39 "StakeHouseModel" "now" "[J", Cond.fieldLink RX5 42 "StakeHouseModel" "then" "[J", Cond.constantLong RX5 72 (16)]
def wsX5_plan_r2 : List Cond := [Cond.fieldLink RX5 20 "StakeHouseModel" "chance" "[I", Cond.methodLink RX5 74 yX5_mostAt, Cond.instanceMethod yX5_mostAt, Cond.selects RX5 yX5_mostAt yX5_mostAt, Cond.code yX5_mostAt cX5_mostAt 3 (some .int), Cond.fieldLink RX5 29 "StakeHouseModel" "limit" "[I", Cond.methodLink RX5 92 yX5_least, Cond.static yX5_least, Cond.code yX5_least cX5_least 2 (some .int), Cond.methodLink RX5 95 yX5_stakeOf, Cond.instanceMethod yX5_stakeOf, Cond.selects RX5 yX5_stakeOf yX5_stakeOf, Cond.code yX5_stakeOf cX5_stakeOf 6 (some .int), Cond.fieldLink RX5 32 "StakeHouseModel" "told" "[I", Cond.methodLink RX5 64 yX5_winOf, Cond.instanceMethod yX5_winOf, Cond.selects RX5 yX5_winOf yX5_winOf, Cond.code yX5_winOf cX5_winOf 4 (some .int), Cond.fieldLink RX5 16 "StakeHouseModel" "kind" "[I", Cond.fieldLink RX5 23 "StakeHouseModel" "times" "[I", Cond.fieldLink RX5 26 "StakeHouseModel" "tax" "[I", Cond.methodLink RX5 68 yX5_behind, Cond.instanceMethod yX5_behind, Cond.selects RX5 yX5_behind yX5_behind]
def wsX5_plan_r3 : List Cond := [Cond.code yX5_behind cX5_behind 5 (some .int), Cond.methodLink RX5 105 yX5_weightAt, Cond.instanceMethod yX5_weightAt, Cond.selects RX5 yX5_weightAt yX5_weightAt, Cond.code yX5_weightAt cX5_weightAt 5 (some .long)]
def wsX5_plan : List Cond := .code yX5_plan cX5_plan 9 (some .long) :: ((wsX5_plan_r1 ++ (wsX5_plan_r2 ++ wsX5_plan_r3)) ++ wsX50)
def wsX5_bold_r1 : List Cond := [Cond.fieldLink RX5 13 "StakeHouseModel" "horizon" "I", Cond.fieldLink RX5 7 "StakeHouseModel" "goal" "I", Cond.fieldLink RX5 35 "StakeHouseModel" "best" "[J", Cond.methodLink RX5 52 yX5_isGame, Cond.instanceMethod yX5_isGame, Cond.selects RX5 yX5_isGame yX5_isGame, Cond.initialized RX5, Cond.code yX5_isGame cX5_isGame 2 (some .boolean), Cond.fieldLink RX5 45 "StakeHouseModel" "games" "I", Cond.methodLink RX5 48 yX5_in, Cond.static yX5_in, Cond.code yX5_in cX5_in 3 (some .boolean), Cond.methodLink RX5 81 yX5_isPurse, Cond.instanceMethod yX5_isPurse, Cond.selects RX5 yX5_isPurse yX5_isPurse, Cond.code yX5_isPurse cX5_isPurse 2 (some .boolean), Cond.methodLink RX5 101 yX5_follow, Cond.instanceMethod yX5_follow, Cond.selects RX5 yX5_follow yX5_follow, Cond.code yX5_follow cX5_follow 12 none, Cond.fieldLink RX5 39 "StakeHouseModel" "now" "[J", Cond.fieldLink RX5 98 "StakeHouseModel" "played" "J", Cond.fieldLink RX5 42 "StakeHouseModel" "then" "[J", Cond.constantLong RX5 72 (16)]
def wsX5_bold_r2 : List Cond := [Cond.fieldLink RX5 20 "StakeHouseModel" "chance" "[I", Cond.methodLink RX5 74 yX5_mostAt, Cond.instanceMethod yX5_mostAt, Cond.selects RX5 yX5_mostAt yX5_mostAt, Cond.code yX5_mostAt cX5_mostAt 3 (some .int), Cond.fieldLink RX5 29 "StakeHouseModel" "limit" "[I", Cond.methodLink RX5 92 yX5_least, Cond.static yX5_least, Cond.code yX5_least cX5_least 2 (some .int), Cond.methodLink RX5 95 yX5_stakeOf, Cond.instanceMethod yX5_stakeOf, Cond.selects RX5 yX5_stakeOf yX5_stakeOf, Cond.code yX5_stakeOf cX5_stakeOf 6 (some .int), Cond.fieldLink RX5 32 "StakeHouseModel" "told" "[I", Cond.methodLink RX5 64 yX5_winOf, Cond.instanceMethod yX5_winOf, Cond.selects RX5 yX5_winOf yX5_winOf, Cond.code yX5_winOf cX5_winOf 4 (some .int), Cond.fieldLink RX5 16 "StakeHouseModel" "kind" "[I", Cond.fieldLink RX5 23 "StakeHouseModel" "times" "[I", Cond.fieldLink RX5 26 "StakeHouseModel" "tax" "[I", Cond.methodLink RX5 68 yX5_behind, Cond.instanceMethod yX5_behind, Cond.selects RX5 yX5_behind yX5_behind]
def wsX5_bold_r3 : List Cond := [Cond.code yX5_behind cX5_behind 5 (some .int), Cond.methodLink RX5 105 yX5_weightAt, Cond.instanceMethod yX5_weightAt, Cond.selects RX5 yX5_weightAt yX5_weightAt, Cond.code yX5_weightAt cX5_weightAt 5 (some .long), Cond.methodLink RX5 88 yX5_work, Cond.instanceMethod yX5_work, Cond.selects RX5 yX5_work yX5_work, Cond.code yX5_work cX5_work 13 none, Cond.methodLink RX5 77 yX5_worth, Cond.instanceMethod yX5_worth, Cond.selects RX5 yX5_worth yX5_worth, Cond.code yX5_worth cX5_worth 9 (some .long)]
def wsX5_bold : List Cond := .code yX5_bold cX5_bold 6 (some .int) :: ((wsX5_bold_r1 ++ (wsX5_bold_r2 ++ wsX5_bold_r3)) ++ wsX50)
def wsX5_count : List Cond := .code yX5_count cX5_count 2 (some .int) :: ([.fieldLink RX5 7 "StakeHouseModel" "goal" "I", .fieldLink RX5 13 "StakeHouseModel" "horizon" "I", .fieldLink RX5 45 "StakeHouseModel" "games" "I"] ++ wsX50)
def wsX5_trace : List Cond := .code yX5_trace cX5_trace 1 (some .long) :: ([.fieldLink RX5 56 "StakeHouseModel" "trace" "J"] ++ wsX50)
def wsJ9_max_f86c9 : List Cond := .code yJ9_max_f86c9 cJ9_max_f86c9 4 (some .long) :: ([])
def wsJ9_min_7cf53 : List Cond := .code yJ9_min_7cf53 cJ9_min_7cf53 2 (some .int) :: ([])
abbrev vwCl : List vw_C := [(RX0, TX0, 5), (RX1, TX1, 3), (RX2, TX2, 4), (RX3, TX3, 5), (RX4, TX4, 11), (RX5, TX5, 14)]
end
section
theorem dX0_init_0 : decode cX0_init 0 = .ok (.aload_n 0, 1) := by decide +kernel
theorem dX0_init_1 : decode cX0_init 1 = .ok (.invokespecial 3, 3) := by decide +kernel
theorem dX0_init_4 : decode cX0_init 4 = .ok (.aload_n 0, 1) := by decide +kernel
theorem dX0_init_5 : decode cX0_init 5 = .ok (.bipush 13, 2) := by decide +kernel
theorem dX0_init_7 : decode cX0_init 7 = .ok (.bipush 33, 2) := by decide +kernel
theorem dX0_init_9 : decode cX0_init 9 = .ok (.multianewarray 9 2, 4) := by decide +kernel
theorem dX0_init_13 : decode cX0_init 13 = .ok (.putfield 11, 3) := by decide +kernel
theorem dX0_init_16 : decode cX0_init 16 = .ok (.aload_n 0, 1) := by decide +kernel
theorem dX0_init_17 : decode cX0_init 17 = .ok (.iconst 0, 1) := by decide +kernel
theorem dX0_init_18 : decode cX0_init 18 = .ok (.putfield 16, 3) := by decide +kernel
theorem dX0_init_21 : decode cX0_init 21 = .ok (.aload_n 0, 1) := by decide +kernel
theorem dX0_init_22 : decode cX0_init 22 = .ok (.iconst 0, 1) := by decide +kernel
theorem dX0_init_23 : decode cX0_init 23 = .ok (.putfield 20, 3) := by decide +kernel
theorem dX0_init_26 : decode cX0_init 26 = .ok (.aload_n 0, 1) := by decide +kernel
theorem dX0_init_27 : decode cX0_init 27 = .ok (.iconst 0, 1) := by decide +kernel
theorem dX0_init_28 : decode cX0_init 28 = .ok (.putfield 23, 3) := by decide +kernel
theorem dX0_init_31 : decode cX0_init 31 = .ok (.aload_n 0, 1) := by decide +kernel
theorem dX0_init_32 : decode cX0_init 32 = .ok (.iload_n 1, 1) := by decide +kernel
theorem dX0_init_33 : decode cX0_init 33 = .ok (.putfield 26, 3) := by decide +kernel
theorem dX0_init_36 : decode cX0_init 36 = .ok (.return_, 1) := by decide +kernel
theorem dX0_forget_0 : decode cX0_forget 0 = .ok (.aload_n 0, 1) := by decide +kernel
theorem dX0_forget_1 : decode cX0_forget 1 = .ok (.iconst 0, 1) := by decide +kernel
theorem dX0_forget_2 : decode cX0_forget 2 = .ok (.putfield 23, 3) := by decide +kernel
theorem dX0_forget_5 : decode cX0_forget 5 = .ok (.return_, 1) := by decide +kernel
theorem dX0_cover_0 : decode cX0_cover 0 = .ok (.iload_n 1, 1) := by decide +kernel
theorem dX0_cover_1 : decode cX0_cover 1 = .ok (.aload_n 0, 1) := by decide +kernel
theorem dX0_cover_2 : decode cX0_cover 2 = .ok (.getfield 16, 3) := by decide +kernel
theorem dX0_cover_5 : decode cX0_cover 5 = .ok (.if_icmp .ne 11, 3) := by decide +kernel
theorem dX0_cover_8 : decode cX0_cover 8 = .ok (.iload_n 2, 1) := by decide +kernel
theorem dX0_cover_9 : decode cX0_cover 9 = .ok (.aload_n 0, 1) := by decide +kernel
theorem dX0_cover_10 : decode cX0_cover 10 = .ok (.getfield 20, 3) := by decide +kernel
theorem dX0_cover_13 : decode cX0_cover 13 = .ok (.if_icmp .eq 18, 3) := by decide +kernel
theorem dX0_cover_16 : decode cX0_cover 16 = .ok (.aload_n 0, 1) := by decide +kernel
theorem dX0_cover_17 : decode cX0_cover 17 = .ok (.iload_n 1, 1) := by decide +kernel
theorem dX0_cover_18 : decode cX0_cover 18 = .ok (.putfield 16, 3) := by decide +kernel
theorem dX0_cover_21 : decode cX0_cover 21 = .ok (.aload_n 0, 1) := by decide +kernel
theorem dX0_cover_22 : decode cX0_cover 22 = .ok (.iload_n 2, 1) := by decide +kernel
theorem dX0_cover_23 : decode cX0_cover 23 = .ok (.putfield 20, 3) := by decide +kernel
theorem dX0_cover_26 : decode cX0_cover 26 = .ok (.aload_n 0, 1) := by decide +kernel
theorem dX0_cover_27 : decode cX0_cover 27 = .ok (.iconst 0, 1) := by decide +kernel
theorem dX0_cover_28 : decode cX0_cover 28 = .ok (.putfield 23, 3) := by decide +kernel
theorem dX0_cover_31 : decode cX0_cover 31 = .ok (.return_, 1) := by decide +kernel
theorem dX1_init_0 : decode cX1_init 0 = .ok (.aload_n 0, 1) := by decide +kernel
theorem dX1_init_1 : decode cX1_init 1 = .ok (.invokespecial 3, 3) := by decide +kernel
theorem dX1_init_4 : decode cX1_init 4 = .ok (.aload_n 0, 1) := by decide +kernel
theorem dX1_init_5 : decode cX1_init 5 = .ok (.bipush 33, 2) := by decide +kernel
theorem dX1_init_7 : decode cX1_init 7 = .ok (.newarray .int, 2) := by decide +kernel
theorem dX1_init_9 : decode cX1_init 9 = .ok (.putfield 9, 3) := by decide +kernel
theorem dX1_init_12 : decode cX1_init 12 = .ok (.aload_n 0, 1) := by decide +kernel
theorem dX1_init_13 : decode cX1_init 13 = .ok (.iload_n 1, 1) := by decide +kernel
theorem dX1_init_14 : decode cX1_init 14 = .ok (.putfield 15, 3) := by decide +kernel
theorem dX1_init_17 : decode cX1_init 17 = .ok (.aload_n 0, 1) := by decide +kernel
theorem dX1_init_18 : decode cX1_init 18 = .ok (.iload_n 2, 1) := by decide +kernel
theorem dX1_init_19 : decode cX1_init 19 = .ok (.putfield 19, 3) := by decide +kernel
theorem dX1_init_22 : decode cX1_init 22 = .ok (.return_, 1) := by decide +kernel
set_option maxRecDepth 20000 in
theorem ggX1_keepGains_X1_gain : GoodIn wsX1_keepGains wsX1_gain := goodIn_r _ [6] (by decide +kernel) (by decide +kernel)
set_option maxRecDepth 20000 in
theorem gX1_keepGains_X1_gain : GoodIn wsX1_keepGains (wsV RX1 22 RX1 yX1_gain wsX1_gain) := goodIn_app (goodIn_of _ (by decide +kernel)) ggX1_keepGains_X1_gain
set_option maxRecDepth 20000 in
theorem ggX1_keepGains_X2_gain : GoodIn wsX1_keepGains wsX2_gain := goodIn_r _ [13, 14, 15, 8, 16, 3, 5, 6, 28, 29, 30, 31, 32, 33, 34, 35, 36] (by decide +kernel) (by decide +kernel)
set_option maxRecDepth 20000 in
theorem gX1_keepGains_X2_gain_u22X2 : GoodIn wsX1_keepGains (va_wsO RX1 22 RX2 "StakeHouse$EvenGame" ⟨"StakeHouse$EvenGame", "gain", "(I)I"⟩ yX2_gain wsX2_gain) := goodIn_app (goodIn_of _ (by decide +kernel)) ggX1_keepGains_X2_gain
set_option maxRecDepth 20000 in
theorem ggX1_keepGains_X3_gain : GoodIn wsX1_keepGains wsX3_gain := goodIn_r _ [20, 21, 22, 23, 24, 11, 12, 13, 14, 15, 8, 16, 3, 5, 6, 32, 33, 34, 35, 36, 28, 29, 30, 31] (by decide +kernel) (by decide +kernel)
set_option maxRecDepth 20000 in
theorem gX1_keepGains_X3_gain_u22X3 : GoodIn wsX1_keepGains (va_wsO RX1 22 RX3 "StakeHouse$EvenGame" ⟨"StakeHouse$EvenGame", "gain", "(I)I"⟩ yX3_gain wsX3_gain) := goodIn_app (goodIn_of _ (by decide +kernel)) ggX1_keepGains_X3_gain
theorem dX1_keepGains_0 : decode cX1_keepGains 0 = .ok (.iconst 1, 1) := by decide +kernel
theorem dX1_keepGains_1 : decode cX1_keepGains 1 = .ok (.istore_n 1, 1) := by decide +kernel
theorem dX1_keepGains_2 : decode cX1_keepGains 2 = .ok (.iload_n 1, 1) := by decide +kernel
theorem dX1_keepGains_3 : decode cX1_keepGains 3 = .ok (.bipush 32, 2) := by decide +kernel
theorem dX1_keepGains_5 : decode cX1_keepGains 5 = .ok (.if_icmp .gt 20, 3) := by decide +kernel
theorem dX1_keepGains_8 : decode cX1_keepGains 8 = .ok (.aload_n 0, 1) := by decide +kernel
theorem dX1_keepGains_9 : decode cX1_keepGains 9 = .ok (.getfield 9, 3) := by decide +kernel
theorem dX1_keepGains_12 : decode cX1_keepGains 12 = .ok (.iload_n 1, 1) := by decide +kernel
theorem dX1_keepGains_13 : decode cX1_keepGains 13 = .ok (.aload_n 0, 1) := by decide +kernel
theorem dX1_keepGains_14 : decode cX1_keepGains 14 = .ok (.iload_n 1, 1) := by decide +kernel
theorem dX1_keepGains_15 : decode cX1_keepGains 15 = .ok (.invokevirtual 22, 3) := by decide +kernel
theorem dX1_keepGains_18 : decode cX1_keepGains 18 = .ok (.iastore, 1) := by decide +kernel
theorem dX1_keepGains_19 : decode cX1_keepGains 19 = .ok (.iinc 1 1, 3) := by decide +kernel
theorem dX1_keepGains_22 : decode cX1_keepGains 22 = .ok (.goto (-20), 3) := by decide +kernel
theorem dX1_keepGains_25 : decode cX1_keepGains 25 = .ok (.return_, 1) := by decide +kernel
theorem dX1_gain_0 : decode cX1_gain 0 = .ok (.iload_n 1, 1) := by decide +kernel
theorem dX1_gain_1 : decode cX1_gain 1 = .ok (.ireturn, 1) := by decide +kernel
theorem dX1_mark_0 : decode cX1_mark 0 = .ok (.iconst 1, 1) := by decide +kernel
theorem dX1_mark_1 : decode cX1_mark 1 = .ok (.ireturn, 1) := by decide +kernel
set_option maxRecDepth 20000 in
theorem ggX2_init_X1_init : GoodIn wsX2_init wsX1_init := goodIn_r _ [5, 6, 7, 8, 9, 10, 11, 12, 22, 23, 24, 13, 14, 15, 16, 17, 18, 19, 20, 21] (by decide +kernel) (by decide +kernel)
set_option maxRecDepth 20000 in
theorem gX2_init_X1_init : GoodIn wsX2_init (wsX1_init) := ggX2_init_X1_init
theorem dX2_init_0 : decode cX2_init 0 = .ok (.aload_n 0, 1) := by decide +kernel
theorem dX2_init_1 : decode cX2_init 1 = .ok (.iload_n 1, 1) := by decide +kernel
theorem dX2_init_2 : decode cX2_init 2 = .ok (.iload_n 2, 1) := by decide +kernel
theorem dX2_init_3 : decode cX2_init 3 = .ok (.invokespecial 1, 3) := by decide +kernel
theorem dX2_init_6 : decode cX2_init 6 = .ok (.aload_n 0, 1) := by decide +kernel
theorem dX2_init_7 : decode cX2_init 7 = .ok (.iload_n 3, 1) := by decide +kernel
theorem dX2_init_8 : decode cX2_init 8 = .ok (.putfield 7, 3) := by decide +kernel
theorem dX2_init_11 : decode cX2_init 11 = .ok (.return_, 1) := by decide +kernel
set_option maxRecDepth 20000 in
theorem ggX2_gain_X1_gain : GoodIn wsX2_gain wsX1_gain := goodIn_r _ [7] (by decide +kernel) (by decide +kernel)
set_option maxRecDepth 20000 in
theorem gX2_gain_X1_gain_s13 : GoodIn wsX2_gain (va_wsSU RX2 13 yX1_gain wsX1_gain) := goodIn_app (goodIn_of _ (by decide +kernel)) ggX2_gain_X1_gain
theorem dX2_gain_0 : decode cX2_gain 0 = .ok (.aload_n 0, 1) := by decide +kernel
theorem dX2_gain_1 : decode cX2_gain 1 = .ok (.iload_n 1, 1) := by decide +kernel
theorem dX2_gain_2 : decode cX2_gain 2 = .ok (.invokespecial 13, 3) := by decide +kernel
theorem dX2_gain_5 : decode cX2_gain 5 = .ok (.aload_n 0, 1) := by decide +kernel
theorem dX2_gain_6 : decode cX2_gain 6 = .ok (.getfield 7, 3) := by decide +kernel
theorem dX2_gain_9 : decode cX2_gain 9 = .ok (.imul, 1) := by decide +kernel
theorem dX2_gain_10 : decode cX2_gain 10 = .ok (.ireturn, 1) := by decide +kernel
set_option maxRecDepth 20000 in
theorem ggX2_mark_X1_mark : GoodIn wsX2_mark wsX1_mark := goodIn_r _ [6] (by decide +kernel) (by decide +kernel)
set_option maxRecDepth 20000 in
theorem gX2_mark_X1_mark_s17 : GoodIn wsX2_mark (va_wsSU RX2 17 yX1_mark wsX1_mark) := goodIn_app (goodIn_of _ (by decide +kernel)) ggX2_mark_X1_mark
theorem dX2_mark_0 : decode cX2_mark 0 = .ok (.aload_n 0, 1) := by decide +kernel
theorem dX2_mark_1 : decode cX2_mark 1 = .ok (.invokespecial 17, 3) := by decide +kernel
theorem dX2_mark_4 : decode cX2_mark 4 = .ok (.bipush 10, 2) := by decide +kernel
theorem dX2_mark_6 : decode cX2_mark 6 = .ok (.iadd, 1) := by decide +kernel
theorem dX2_mark_7 : decode cX2_mark 7 = .ok (.ireturn, 1) := by decide +kernel
set_option maxRecDepth 20000 in
theorem ggX3_init_X2_init : GoodIn wsX3_init wsX2_init := goodIn_r _ [5, 6, 7, 8, 9, 10, 11, 12, 13, 14, 15, 16, 17, 23, 24, 25, 26, 18, 19, 20, 21, 22, 27, 28, 29] (by decide +kernel) (by decide +kernel)
set_option maxRecDepth 20000 in
theorem gX3_init_X2_init : GoodIn wsX3_init (wsX2_init) := ggX3_init_X2_init
theorem dX3_init_0 : decode cX3_init 0 = .ok (.aload_n 0, 1) := by decide +kernel
theorem dX3_init_1 : decode cX3_init 1 = .ok (.iload_n 1, 1) := by decide +kernel
theorem dX3_init_2 : decode cX3_init 2 = .ok (.iload_n 2, 1) := by decide +kernel
theorem dX3_init_3 : decode cX3_init 3 = .ok (.iload_n 3, 1) := by decide +kernel
theorem dX3_init_4 : decode cX3_init 4 = .ok (.invokespecial 3, 3) := by decide +kernel
theorem dX3_init_7 : decode cX3_init 7 = .ok (.aload_n 0, 1) := by decide +kernel
theorem dX3_init_8 : decode cX3_init 8 = .ok (.iload 4, 2) := by decide +kernel
theorem dX3_init_10 : decode cX3_init 10 = .ok (.putfield 9, 3) := by decide +kernel
theorem dX3_init_13 : decode cX3_init 13 = .ok (.return_, 1) := by decide +kernel
set_option maxRecDepth 20000 in
theorem ggX3_gain_X2_gain : GoodIn wsX3_gain wsX2_gain := goodIn_r _ [7, 8, 9, 10, 11, 12, 13, 14, 20, 21, 22, 23, 15, 16, 17, 18, 19] (by decide +kernel) (by decide +kernel)
set_option maxRecDepth 20000 in
theorem gX3_gain_X2_gain_s15 : GoodIn wsX3_gain (va_wsSU RX3 15 yX2_gain wsX2_gain) := goodIn_app (goodIn_of _ (by decide +kernel)) ggX3_gain_X2_gain
theorem dX3_gain_0 : decode cX3_gain 0 = .ok (.aload_n 0, 1) := by decide +kernel
theorem dX3_gain_1 : decode cX3_gain 1 = .ok (.iload_n 1, 1) := by decide +kernel
theorem dX3_gain_2 : decode cX3_gain 2 = .ok (.invokespecial 15, 3) := by decide +kernel
theorem dX3_gain_5 : decode cX3_gain 5 = .ok (.istore_n 2, 1) := by decide +kernel
theorem dX3_gain_6 : decode cX3_gain 6 = .ok (.iload_n 2, 1) := by decide +kernel
theorem dX3_gain_7 : decode cX3_gain 7 = .ok (.iload_n 2, 1) := by decide +kernel
theorem dX3_gain_8 : decode cX3_gain 8 = .ok (.aload_n 0, 1) := by decide +kernel
theorem dX3_gain_9 : decode cX3_gain 9 = .ok (.getfield 9, 3) := by decide +kernel
theorem dX3_gain_12 : decode cX3_gain 12 = .ok (.imul, 1) := by decide +kernel
theorem dX3_gain_13 : decode cX3_gain 13 = .ok (.bipush 10, 2) := by decide +kernel
theorem dX3_gain_15 : decode cX3_gain 15 = .ok (.idiv, 1) := by decide +kernel
theorem dX3_gain_16 : decode cX3_gain 16 = .ok (.isub, 1) := by decide +kernel
theorem dX3_gain_17 : decode cX3_gain 17 = .ok (.ireturn, 1) := by decide +kernel
set_option maxRecDepth 20000 in
theorem ggX3_mark_X2_mark : GoodIn wsX3_mark wsX2_mark := goodIn_r _ [6, 7, 8, 9, 10, 11, 12] (by decide +kernel) (by decide +kernel)
set_option maxRecDepth 20000 in
theorem gX3_mark_X2_mark_s19 : GoodIn wsX3_mark (va_wsSU RX3 19 yX2_mark wsX2_mark) := goodIn_app (goodIn_of _ (by decide +kernel)) ggX3_mark_X2_mark
theorem dX3_mark_0 : decode cX3_mark 0 = .ok (.aload_n 0, 1) := by decide +kernel
theorem dX3_mark_1 : decode cX3_mark 1 = .ok (.invokespecial 19, 3) := by decide +kernel
theorem dX3_mark_4 : decode cX3_mark 4 = .ok (.bipush 100, 2) := by decide +kernel
theorem dX3_mark_6 : decode cX3_mark 6 = .ok (.iadd, 1) := by decide +kernel
theorem dX3_mark_7 : decode cX3_mark 7 = .ok (.ireturn, 1) := by decide +kernel
set_option maxRecDepth 20000 in
theorem ggX4_init_X0_init : GoodIn wsX4_init wsX0_init := goodIn_r _ [24, 25, 2, 3, 26, 16, 27, 28, 29, 30, 31, 43, 44, 45, 46, 47] (by decide +kernel) (by decide +kernel)
set_option maxRecDepth 20000 in
theorem gX4_init_X0_init : GoodIn wsX4_init (wsX0_init) := ggX4_init_X0_init
theorem dX4_init_0 : decode cX4_init 0 = .ok (.aload_n 0, 1) := by decide +kernel
theorem dX4_init_1 : decode cX4_init 1 = .ok (.invokespecial 3, 3) := by decide +kernel
theorem dX4_init_4 : decode cX4_init 4 = .ok (.aload_n 0, 1) := by decide +kernel
theorem dX4_init_5 : decode cX4_init 5 = .ok (.iconst 4, 1) := by decide +kernel
theorem dX4_init_6 : decode cX4_init 6 = .ok (.anewarray 9, 3) := by decide +kernel
theorem dX4_init_9 : decode cX4_init 9 = .ok (.putfield 11, 3) := by decide +kernel
theorem dX4_init_12 : decode cX4_init 12 = .ok (.aload_n 0, 1) := by decide +kernel
theorem dX4_init_13 : decode cX4_init 13 = .ok (.bipush 33, 2) := by decide +kernel
theorem dX4_init_15 : decode cX4_init 15 = .ok (.newarray .int, 2) := by decide +kernel
theorem dX4_init_17 : decode cX4_init 17 = .ok (.putfield 15, 3) := by decide +kernel
theorem dX4_init_20 : decode cX4_init 20 = .ok (.aload_n 0, 1) := by decide +kernel
theorem dX4_init_21 : decode cX4_init 21 = .ok (.new 19, 3) := by decide +kernel
theorem dX4_init_24 : decode cX4_init 24 = .ok (.dup, 1) := by decide +kernel
theorem dX4_init_25 : decode cX4_init 25 = .ok (.iconst 0, 1) := by decide +kernel
theorem dX4_init_26 : decode cX4_init 26 = .ok (.invokespecial 21, 3) := by decide +kernel
theorem dX4_init_29 : decode cX4_init 29 = .ok (.putfield 24, 3) := by decide +kernel
theorem dX4_init_32 : decode cX4_init 32 = .ok (.aload_n 0, 1) := by decide +kernel
theorem dX4_init_33 : decode cX4_init 33 = .ok (.new 19, 3) := by decide +kernel
theorem dX4_init_36 : decode cX4_init 36 = .ok (.dup, 1) := by decide +kernel
theorem dX4_init_37 : decode cX4_init 37 = .ok (.iconst 2, 1) := by decide +kernel
theorem dX4_init_38 : decode cX4_init 38 = .ok (.invokespecial 21, 3) := by decide +kernel
theorem dX4_init_41 : decode cX4_init 41 = .ok (.putfield 28, 3) := by decide +kernel
theorem dX4_init_44 : decode cX4_init 44 = .ok (.aload_n 0, 1) := by decide +kernel
theorem dX4_init_45 : decode cX4_init 45 = .ok (.new 19, 3) := by decide +kernel
theorem dX4_init_48 : decode cX4_init 48 = .ok (.dup, 1) := by decide +kernel
theorem dX4_init_49 : decode cX4_init 49 = .ok (.iconst 0, 1) := by decide +kernel
theorem dX4_init_50 : decode cX4_init 50 = .ok (.invokespecial 21, 3) := by decide +kernel
theorem dX4_init_53 : decode cX4_init 53 = .ok (.putfield 31, 3) := by decide +kernel
theorem dX4_init_56 : decode cX4_init 56 = .ok (.aload_n 0, 1) := by decide +kernel
theorem dX4_init_57 : decode cX4_init 57 = .ok (.sipush 198, 3) := by decide +kernel
theorem dX4_init_60 : decode cX4_init 60 = .ok (.newarray .int, 2) := by decide +kernel
theorem dX4_init_62 : decode cX4_init 62 = .ok (.putfield 34, 3) := by decide +kernel
theorem dX4_init_65 : decode cX4_init 65 = .ok (.aload_n 0, 1) := by decide +kernel
theorem dX4_init_66 : decode cX4_init 66 = .ok (.iconst 2, 1) := by decide +kernel
theorem dX4_init_67 : decode cX4_init 67 = .ok (.sipush 198, 3) := by decide +kernel
theorem dX4_init_70 : decode cX4_init 70 = .ok (.multianewarray 37 2, 4) := by decide +kernel
theorem dX4_init_74 : decode cX4_init 74 = .ok (.putfield 39, 3) := by decide +kernel
theorem dX4_init_77 : decode cX4_init 77 = .ok (.aload_n 0, 1) := by decide +kernel
theorem dX4_init_78 : decode cX4_init 78 = .ok (.bipush 8, 2) := by decide +kernel
theorem dX4_init_80 : decode cX4_init 80 = .ok (.putfield 42, 3) := by decide +kernel
theorem dX4_init_83 : decode cX4_init 83 = .ok (.aload_n 0, 1) := by decide +kernel
theorem dX4_init_84 : decode cX4_init 84 = .ok (.iconst 4, 1) := by decide +kernel
theorem dX4_init_85 : decode cX4_init 85 = .ok (.putfield 46, 3) := by decide +kernel
theorem dX4_init_88 : decode cX4_init 88 = .ok (.aload_n 0, 1) := by decide +kernel
theorem dX4_init_89 : decode cX4_init 89 = .ok (.iconst 0, 1) := by decide +kernel
theorem dX4_init_90 : decode cX4_init 90 = .ok (.putfield 49, 3) := by decide +kernel
theorem dX4_init_93 : decode cX4_init 93 = .ok (.aload_n 0, 1) := by decide +kernel
theorem dX4_init_94 : decode cX4_init 94 = .ok (.lconst 0, 1) := by decide +kernel
theorem dX4_init_95 : decode cX4_init 95 = .ok (.putfield 52, 3) := by decide +kernel
theorem dX4_init_98 : decode cX4_init 98 = .ok (.return_, 1) := by decide +kernel
set_option maxRecDepth 20000 in
theorem ggX4_set_X4_within : GoodIn wsX4_set wsX4_within := goodIn_r _ [5] (by decide +kernel) (by decide +kernel)
set_option maxRecDepth 20000 in
theorem gX4_set_X4_within : GoodIn wsX4_set (va_wsS RX4 56 yX4_within wsX4_within) := goodIn_app (goodIn_of _ (by decide +kernel)) ggX4_set_X4_within
set_option maxRecDepth 20000 in
theorem ggX4_set_X4_changeGoal : GoodIn wsX4_set wsX4_changeGoal := goodIn_r _ [9, 10, 11, 12, 13, 14, 4, 15, 16, 17, 18, 19, 20, 21, 22, 23, 24, 25, 26, 27, 28, 29, 30, 31, 32, 33, 34, 35, 36, 37, 38, 39, 40] (by decide +kernel) (by decide +kernel)
set_option maxRecDepth 20000 in
theorem gX4_set_X4_changeGoal : GoodIn wsX4_set (wsV RX4 60 RX4 yX4_changeGoal wsX4_changeGoal) := goodIn_app (goodIn_of _ (by decide +kernel)) ggX4_set_X4_changeGoal
theorem dX4_set_0 : decode cX4_set 0 = .ok (.iload_n 1, 1) := by decide +kernel
theorem dX4_set_1 : decode cX4_set 1 = .ok (.ifCond .ne 19, 3) := by decide +kernel
theorem dX4_set_4 : decode cX4_set 4 = .ok (.iload_n 2, 1) := by decide +kernel
theorem dX4_set_5 : decode cX4_set 5 = .ok (.iconst 2, 1) := by decide +kernel
theorem dX4_set_6 : decode cX4_set 6 = .ok (.bipush 32, 2) := by decide +kernel
theorem dX4_set_8 : decode cX4_set 8 = .ok (.invokestatic 56, 3) := by decide +kernel
theorem dX4_set_11 : decode cX4_set 11 = .ok (.ifCond .eq 9, 3) := by decide +kernel
theorem dX4_set_14 : decode cX4_set 14 = .ok (.aload_n 0, 1) := by decide +kernel
theorem dX4_set_15 : decode cX4_set 15 = .ok (.iload_n 2, 1) := by decide +kernel
theorem dX4_set_16 : decode cX4_set 16 = .ok (.invokevirtual 60, 3) := by decide +kernel
theorem dX4_set_19 : decode cX4_set 19 = .ok (.ireturn, 1) := by decide +kernel
theorem dX4_set_20 : decode cX4_set 20 = .ok (.iload_n 1, 1) := by decide +kernel
theorem dX4_set_21 : decode cX4_set 21 = .ok (.iconst 1, 1) := by decide +kernel
theorem dX4_set_22 : decode cX4_set 22 = .ok (.if_icmp .ne 25, 3) := by decide +kernel
theorem dX4_set_25 : decode cX4_set 25 = .ok (.iload_n 2, 1) := by decide +kernel
theorem dX4_set_26 : decode cX4_set 26 = .ok (.iconst 0, 1) := by decide +kernel
theorem dX4_set_27 : decode cX4_set 27 = .ok (.bipush 12, 2) := by decide +kernel
theorem dX4_set_29 : decode cX4_set 29 = .ok (.invokestatic 56, 3) := by decide +kernel
theorem dX4_set_32 : decode cX4_set 32 = .ok (.ifCond .eq 15, 3) := by decide +kernel
theorem dX4_set_35 : decode cX4_set 35 = .ok (.aload_n 0, 1) := by decide +kernel
theorem dX4_set_36 : decode cX4_set 36 = .ok (.getfield 46, 3) := by decide +kernel
theorem dX4_set_39 : decode cX4_set 39 = .ok (.istore_n 3, 1) := by decide +kernel
theorem dX4_set_40 : decode cX4_set 40 = .ok (.aload_n 0, 1) := by decide +kernel
theorem dX4_set_41 : decode cX4_set 41 = .ok (.iload_n 2, 1) := by decide +kernel
theorem dX4_set_42 : decode cX4_set 42 = .ok (.putfield 46, 3) := by decide +kernel
theorem dX4_set_45 : decode cX4_set 45 = .ok (.iload_n 3, 1) := by decide +kernel
theorem dX4_set_46 : decode cX4_set 46 = .ok (.ireturn, 1) := by decide +kernel
theorem dX4_set_47 : decode cX4_set 47 = .ok (.iconst (-1), 1) := by decide +kernel
theorem dX4_set_48 : decode cX4_set 48 = .ok (.ireturn, 1) := by decide +kernel
set_option maxRecDepth 20000 in
theorem ggX4_game_X4_within : GoodIn wsX4_game wsX4_within := goodIn_r _ [6] (by decide +kernel) (by decide +kernel)
set_option maxRecDepth 20000 in
theorem gX4_game_X4_within : GoodIn wsX4_game (va_wsS RX4 56 yX4_within wsX4_within) := goodIn_app (goodIn_of _ (by decide +kernel)) ggX4_game_X4_within
set_option maxRecDepth 20000 in
theorem ggX4_game_X4_newGame : GoodIn wsX4_game wsX4_newGame := goodIn_r _ [9, 10, 11, 12, 13, 14, 15, 16, 17, 18, 19, 20, 21, 22, 23, 24, 25, 26, 27, 28, 29, 30, 31, 32, 33, 34, 35, 36, 37, 38, 89, 90, 91, 92, 93, 94, 95, 96, 97, 98, 99, 100] (by decide +kernel) (by decide +kernel)
set_option maxRecDepth 20000 in
theorem gX4_game_X4_newGame : GoodIn wsX4_game (va_wsS RX4 64 yX4_newGame wsX4_newGame) := goodIn_app (goodIn_of _ (by decide +kernel)) ggX4_game_X4_newGame
set_option maxRecDepth 20000 in
theorem ggX4_game_X1_keepGains : GoodIn wsX4_game wsX1_keepGains := goodIn_r _ [42, 34, 43, 44, 45, 18, 46, 47, 48, 49, 50, 51, 15, 52, 26, 53, 54, 55, 56, 12, 57, 22, 58, 59, 60, 98, 99, 100, 94, 95, 96, 97, 89, 90, 91, 92, 93] (by decide +kernel) (by decide +kernel)
set_option maxRecDepth 20000 in
theorem gX4_game_X1_keepGains : GoodIn wsX4_game (wsV RX4 68 RX1 yX1_keepGains wsX1_keepGains) := goodIn_app (goodIn_of _ (by decide +kernel)) ggX4_game_X1_keepGains
set_option maxRecDepth 20000 in
theorem gX4_game_X1_keepGains_u68X2 : GoodIn wsX4_game (va_wsU RX4 68 RX2 "StakeHouse$EvenGame" ⟨"StakeHouse$EvenGame", "keepGains", "()V"⟩ yX1_keepGains wsX1_keepGains) := goodIn_app (goodIn_of _ (by decide +kernel)) ggX4_game_X1_keepGains
set_option maxRecDepth 20000 in
theorem gX4_game_X1_keepGains_u68X3 : GoodIn wsX4_game (va_wsU RX4 68 RX3 "StakeHouse$EvenGame" ⟨"StakeHouse$EvenGame", "keepGains", "()V"⟩ yX1_keepGains wsX1_keepGains) := goodIn_app (goodIn_of _ (by decide +kernel)) ggX4_game_X1_keepGains
set_option maxRecDepth 20000 in
theorem ggX4_game_X4_forgetCharts : GoodIn wsX4_game wsX4_forgetCharts := goodIn_r _ [68, 69, 70, 71, 72, 73, 74, 75, 76, 77, 78, 79, 80, 81, 82, 83, 84, 85, 86, 87, 88, 101, 102, 103, 104, 105] (by decide +kernel) (by decide +kernel)
set_option maxRecDepth 20000 in
theorem gX4_game_X4_forgetCharts : GoodIn wsX4_game (wsV RX4 71 RX4 yX4_forgetCharts wsX4_forgetCharts) := goodIn_app (goodIn_of _ (by decide +kernel)) ggX4_game_X4_forgetCharts
theorem dX4_game_0 : decode cX4_game 0 = .ok (.iload_n 1, 1) := by decide +kernel
theorem dX4_game_1 : decode cX4_game 1 = .ok (.iconst 0, 1) := by decide +kernel
theorem dX4_game_2 : decode cX4_game 2 = .ok (.iconst 2, 1) := by decide +kernel
theorem dX4_game_3 : decode cX4_game 3 = .ok (.invokestatic 56, 3) := by decide +kernel
theorem dX4_game_6 : decode cX4_game 6 = .ok (.ifCond .eq 24, 3) := by decide +kernel
theorem dX4_game_9 : decode cX4_game 9 = .ok (.iload_n 2, 1) := by decide +kernel
theorem dX4_game_10 : decode cX4_game 10 = .ok (.iconst 0, 1) := by decide +kernel
theorem dX4_game_11 : decode cX4_game 11 = .ok (.bipush 16, 2) := by decide +kernel
theorem dX4_game_13 : decode cX4_game 13 = .ok (.invokestatic 56, 3) := by decide +kernel
theorem dX4_game_16 : decode cX4_game 16 = .ok (.ifCond .eq 14, 3) := by decide +kernel
theorem dX4_game_19 : decode cX4_game 19 = .ok (.iload 5, 2) := by decide +kernel
theorem dX4_game_21 : decode cX4_game 21 = .ok (.iconst 1, 1) := by decide +kernel
theorem dX4_game_22 : decode cX4_game 22 = .ok (.bipush 32, 2) := by decide +kernel
theorem dX4_game_24 : decode cX4_game 24 = .ok (.invokestatic 56, 3) := by decide +kernel
theorem dX4_game_27 : decode cX4_game 27 = .ok (.ifCond .ne 5, 3) := by decide +kernel
theorem dX4_game_30 : decode cX4_game 30 = .ok (.iconst (-1), 1) := by decide +kernel
theorem dX4_game_31 : decode cX4_game 31 = .ok (.ireturn, 1) := by decide +kernel
theorem dX4_game_32 : decode cX4_game 32 = .ok (.iload_n 1, 1) := by decide +kernel
theorem dX4_game_33 : decode cX4_game 33 = .ok (.ifCond .eq 15, 3) := by decide +kernel
theorem dX4_game_36 : decode cX4_game 36 = .ok (.iload_n 3, 1) := by decide +kernel
theorem dX4_game_37 : decode cX4_game 37 = .ok (.iconst 1, 1) := by decide +kernel
theorem dX4_game_38 : decode cX4_game 38 = .ok (.bipush 9, 2) := by decide +kernel
theorem dX4_game_40 : decode cX4_game 40 = .ok (.invokestatic 56, 3) := by decide +kernel
theorem dX4_game_43 : decode cX4_game 43 = .ok (.ifCond .ne 5, 3) := by decide +kernel
theorem dX4_game_46 : decode cX4_game 46 = .ok (.iconst (-1), 1) := by decide +kernel
theorem dX4_game_47 : decode cX4_game 47 = .ok (.ireturn, 1) := by decide +kernel
theorem dX4_game_48 : decode cX4_game 48 = .ok (.iload_n 1, 1) := by decide +kernel
theorem dX4_game_49 : decode cX4_game 49 = .ok (.iconst 2, 1) := by decide +kernel
theorem dX4_game_50 : decode cX4_game 50 = .ok (.if_icmp .ne 16, 3) := by decide +kernel
theorem dX4_game_53 : decode cX4_game 53 = .ok (.iload 4, 2) := by decide +kernel
theorem dX4_game_55 : decode cX4_game 55 = .ok (.iconst 0, 1) := by decide +kernel
theorem dX4_game_56 : decode cX4_game 56 = .ok (.bipush 10, 2) := by decide +kernel
theorem dX4_game_58 : decode cX4_game 58 = .ok (.invokestatic 56, 3) := by decide +kernel
theorem dX4_game_61 : decode cX4_game 61 = .ok (.ifCond .ne 5, 3) := by decide +kernel
theorem dX4_game_64 : decode cX4_game 64 = .ok (.iconst (-1), 1) := by decide +kernel
theorem dX4_game_65 : decode cX4_game 65 = .ok (.ireturn, 1) := by decide +kernel
theorem dX4_game_66 : decode cX4_game 66 = .ok (.aload_n 0, 1) := by decide +kernel
theorem dX4_game_67 : decode cX4_game 67 = .ok (.getfield 49, 3) := by decide +kernel
theorem dX4_game_70 : decode cX4_game 70 = .ok (.iconst 4, 1) := by decide +kernel
theorem dX4_game_71 : decode cX4_game 71 = .ok (.if_icmp .lt 6, 3) := by decide +kernel
theorem dX4_game_74 : decode cX4_game 74 = .ok (.bipush (-3), 2) := by decide +kernel
theorem dX4_game_76 : decode cX4_game 76 = .ok (.ireturn, 1) := by decide +kernel
theorem dX4_game_77 : decode cX4_game 77 = .ok (.iload_n 1, 1) := by decide +kernel
theorem dX4_game_78 : decode cX4_game 78 = .ok (.iload_n 2, 1) := by decide +kernel
theorem dX4_game_79 : decode cX4_game 79 = .ok (.iload_n 3, 1) := by decide +kernel
theorem dX4_game_80 : decode cX4_game 80 = .ok (.iload 4, 2) := by decide +kernel
theorem dX4_game_82 : decode cX4_game 82 = .ok (.iload 5, 2) := by decide +kernel
theorem dX4_game_84 : decode cX4_game 84 = .ok (.invokestatic 64, 3) := by decide +kernel
theorem dX4_game_87 : decode cX4_game 87 = .ok (.astore 6, 2) := by decide +kernel
theorem dX4_game_89 : decode cX4_game 89 = .ok (.aload 6, 2) := by decide +kernel
theorem dX4_game_91 : decode cX4_game 91 = .ok (.invokevirtual 68, 3) := by decide +kernel
theorem dX4_game_94 : decode cX4_game 94 = .ok (.aload_n 0, 1) := by decide +kernel
theorem dX4_game_95 : decode cX4_game 95 = .ok (.getfield 11, 3) := by decide +kernel
theorem dX4_game_98 : decode cX4_game 98 = .ok (.aload_n 0, 1) := by decide +kernel
theorem dX4_game_99 : decode cX4_game 99 = .ok (.getfield 49, 3) := by decide +kernel
theorem dX4_game_102 : decode cX4_game 102 = .ok (.aload 6, 2) := by decide +kernel
theorem dX4_game_104 : decode cX4_game 104 = .ok (.aastore, 1) := by decide +kernel
theorem dX4_game_105 : decode cX4_game 105 = .ok (.aload_n 0, 1) := by decide +kernel
theorem dX4_game_106 : decode cX4_game 106 = .ok (.dup, 1) := by decide +kernel
theorem dX4_game_107 : decode cX4_game 107 = .ok (.getfield 49, 3) := by decide +kernel
theorem dX4_game_110 : decode cX4_game 110 = .ok (.iconst 1, 1) := by decide +kernel
theorem dX4_game_111 : decode cX4_game 111 = .ok (.iadd, 1) := by decide +kernel
theorem dX4_game_112 : decode cX4_game 112 = .ok (.putfield 49, 3) := by decide +kernel
theorem dX4_game_115 : decode cX4_game 115 = .ok (.aload_n 0, 1) := by decide +kernel
theorem dX4_game_116 : decode cX4_game 116 = .ok (.invokevirtual 71, 3) := by decide +kernel
theorem dX4_game_119 : decode cX4_game 119 = .ok (.aload_n 0, 1) := by decide +kernel
theorem dX4_game_120 : decode cX4_game 120 = .ok (.getfield 49, 3) := by decide +kernel
theorem dX4_game_123 : decode cX4_game 123 = .ok (.iconst 1, 1) := by decide +kernel
theorem dX4_game_124 : decode cX4_game 124 = .ok (.isub, 1) := by decide +kernel
theorem dX4_game_125 : decode cX4_game 125 = .ok (.ireturn, 1) := by decide +kernel
set_option maxRecDepth 20000 in
theorem ggX4_drop_X4_forgetCharts : GoodIn wsX4_drop wsX4_forgetCharts := goodIn_r _ [7, 8, 9, 10, 11, 12, 13, 14, 15, 16, 17, 18, 19, 20, 21, 22, 23, 24, 25, 26, 27, 28, 29, 30, 31, 32] (by decide +kernel) (by decide +kernel)
set_option maxRecDepth 20000 in
theorem gX4_drop_X4_forgetCharts : GoodIn wsX4_drop (wsV RX4 71 RX4 yX4_forgetCharts wsX4_forgetCharts) := goodIn_app (goodIn_of _ (by decide +kernel)) ggX4_drop_X4_forgetCharts
theorem dX4_drop_0 : decode cX4_drop 0 = .ok (.aload_n 0, 1) := by decide +kernel
theorem dX4_drop_1 : decode cX4_drop 1 = .ok (.getfield 49, 3) := by decide +kernel
theorem dX4_drop_4 : decode cX4_drop 4 = .ok (.iconst 1, 1) := by decide +kernel
theorem dX4_drop_5 : decode cX4_drop 5 = .ok (.if_icmp .ge 6, 3) := by decide +kernel
theorem dX4_drop_8 : decode cX4_drop 8 = .ok (.bipush (-2), 2) := by decide +kernel
theorem dX4_drop_10 : decode cX4_drop 10 = .ok (.ireturn, 1) := by decide +kernel
theorem dX4_drop_11 : decode cX4_drop 11 = .ok (.aload_n 0, 1) := by decide +kernel
theorem dX4_drop_12 : decode cX4_drop 12 = .ok (.dup, 1) := by decide +kernel
theorem dX4_drop_13 : decode cX4_drop 13 = .ok (.getfield 49, 3) := by decide +kernel
theorem dX4_drop_16 : decode cX4_drop 16 = .ok (.iconst 1, 1) := by decide +kernel
theorem dX4_drop_17 : decode cX4_drop 17 = .ok (.isub, 1) := by decide +kernel
theorem dX4_drop_18 : decode cX4_drop 18 = .ok (.putfield 49, 3) := by decide +kernel
theorem dX4_drop_21 : decode cX4_drop 21 = .ok (.aload_n 0, 1) := by decide +kernel
theorem dX4_drop_22 : decode cX4_drop 22 = .ok (.getfield 11, 3) := by decide +kernel
theorem dX4_drop_25 : decode cX4_drop 25 = .ok (.aload_n 0, 1) := by decide +kernel
theorem dX4_drop_26 : decode cX4_drop 26 = .ok (.getfield 49, 3) := by decide +kernel
theorem dX4_drop_29 : decode cX4_drop 29 = .ok (.aconst_null, 1) := by decide +kernel
theorem dX4_drop_30 : decode cX4_drop 30 = .ok (.aastore, 1) := by decide +kernel
theorem dX4_drop_31 : decode cX4_drop 31 = .ok (.aload_n 0, 1) := by decide +kernel
theorem dX4_drop_32 : decode cX4_drop 32 = .ok (.invokevirtual 71, 3) := by decide +kernel
theorem dX4_drop_35 : decode cX4_drop 35 = .ok (.aload_n 0, 1) := by decide +kernel
theorem dX4_drop_36 : decode cX4_drop 36 = .ok (.getfield 49, 3) := by decide +kernel
theorem dX4_drop_39 : decode cX4_drop 39 = .ok (.ireturn, 1) := by decide +kernel
set_option maxRecDepth 20000 in
theorem ggX4_win_X4_gameAt : GoodIn wsX4_win wsX4_gameAt := goodIn_r _ [6, 7, 8, 9, 10, 5, 11, 51, 52, 53, 54, 55, 56, 57, 58, 59, 60, 61] (by decide +kernel) (by decide +kernel)
set_option maxRecDepth 20000 in
theorem gX4_win_X4_gameAt : GoodIn wsX4_win (wsV RX4 74 RX4 yX4_gameAt wsX4_gameAt) := goodIn_app (goodIn_of _ (by decide +kernel)) ggX4_win_X4_gameAt
set_option maxRecDepth 20000 in
theorem ggX4_win_X4_within : GoodIn wsX4_win wsX4_within := goodIn_r _ [11] (by decide +kernel) (by decide +kernel)
set_option maxRecDepth 20000 in
theorem gX4_win_X4_within : GoodIn wsX4_win (va_wsS RX4 56 yX4_within wsX4_within) := goodIn_app (goodIn_of _ (by decide +kernel)) ggX4_win_X4_within
set_option maxRecDepth 20000 in
theorem ggX4_win_X1_mark : GoodIn wsX4_win wsX1_mark := goodIn_r _ [16] (by decide +kernel) (by decide +kernel)
set_option maxRecDepth 20000 in
theorem gX4_win_X1_mark : GoodIn wsX4_win (wsV RX4 78 RX1 yX1_mark wsX1_mark) := goodIn_app (goodIn_of _ (by decide +kernel)) ggX4_win_X1_mark
set_option maxRecDepth 20000 in
theorem ggX4_win_X2_mark : GoodIn wsX4_win wsX2_mark := goodIn_r _ [23, 24, 18, 25, 13, 15, 16] (by decide +kernel) (by decide +kernel)
set_option maxRecDepth 20000 in
theorem gX4_win_X2_mark_u78X2 : GoodIn wsX4_win (va_wsO RX4 78 RX2 "StakeHouse$EvenGame" ⟨"StakeHouse$EvenGame", "mark", "()I"⟩ yX2_mark wsX2_mark) := goodIn_app (goodIn_of _ (by decide +kernel)) ggX4_win_X2_mark
set_option maxRecDepth 20000 in
theorem ggX4_win_X3_mark : GoodIn wsX4_win wsX3_mark := goodIn_r _ [29, 30, 31, 32, 21, 22, 23, 24, 18, 25, 13, 15, 16] (by decide +kernel) (by decide +kernel)
set_option maxRecDepth 20000 in
theorem gX4_win_X3_mark_u78X3 : GoodIn wsX4_win (va_wsO RX4 78 RX3 "StakeHouse$EvenGame" ⟨"StakeHouse$EvenGame", "mark", "()I"⟩ yX3_mark wsX3_mark) := goodIn_app (goodIn_of _ (by decide +kernel)) ggX4_win_X3_mark
set_option maxRecDepth 20000 in
theorem ggX4_win_X1_gain : GoodIn wsX4_win wsX1_gain := goodIn_r _ [36] (by decide +kernel) (by decide +kernel)
set_option maxRecDepth 20000 in
theorem gX4_win_X1_gain : GoodIn wsX4_win (wsV RX4 82 RX1 yX1_gain wsX1_gain) := goodIn_app (goodIn_of _ (by decide +kernel)) ggX4_win_X1_gain
set_option maxRecDepth 20000 in
theorem ggX4_win_X2_gain : GoodIn wsX4_win wsX2_gain := goodIn_r _ [42, 43, 44, 38, 25, 34, 15, 36, 62, 63, 64, 65, 66, 67, 68, 69, 70] (by decide +kernel) (by decide +kernel)
set_option maxRecDepth 20000 in
theorem gX4_win_X2_gain_u82X2 : GoodIn wsX4_win (va_wsO RX4 82 RX2 "StakeHouse$EvenGame" ⟨"StakeHouse$EvenGame", "gain", "(I)I"⟩ yX2_gain wsX2_gain) := goodIn_app (goodIn_of _ (by decide +kernel)) ggX4_win_X2_gain
set_option maxRecDepth 20000 in
theorem ggX4_win_X3_gain : GoodIn wsX4_win wsX3_gain := goodIn_r _ [47, 48, 49, 50, 32, 41, 22, 42, 43, 44, 38, 25, 34, 15, 36, 66, 67, 68, 69, 70, 62, 63, 64, 65] (by decide +kernel) (by decide +kernel)
set_option maxRecDepth 20000 in
theorem gX4_win_X3_gain_u82X3 : GoodIn wsX4_win (va_wsO RX4 82 RX3 "StakeHouse$EvenGame" ⟨"StakeHouse$EvenGame", "gain", "(I)I"⟩ yX3_gain wsX3_gain) := goodIn_app (goodIn_of _ (by decide +kernel)) ggX4_win_X3_gain
theorem dX4_win_0 : decode cX4_win 0 = .ok (.aload_n 0, 1) := by decide +kernel
theorem dX4_win_1 : decode cX4_win 1 = .ok (.iload_n 1, 1) := by decide +kernel
theorem dX4_win_2 : decode cX4_win 2 = .ok (.invokevirtual 74, 3) := by decide +kernel
theorem dX4_win_5 : decode cX4_win 5 = .ok (.astore_n 3, 1) := by decide +kernel
theorem dX4_win_6 : decode cX4_win 6 = .ok (.aload_n 3, 1) := by decide +kernel
theorem dX4_win_7 : decode cX4_win 7 = .ok (.ifnull 13, 3) := by decide +kernel
theorem dX4_win_10 : decode cX4_win 10 = .ok (.iload_n 2, 1) := by decide +kernel
theorem dX4_win_11 : decode cX4_win 11 = .ok (.iconst 1, 1) := by decide +kernel
theorem dX4_win_12 : decode cX4_win 12 = .ok (.bipush 32, 2) := by decide +kernel
theorem dX4_win_14 : decode cX4_win 14 = .ok (.invokestatic 56, 3) := by decide +kernel
theorem dX4_win_17 : decode cX4_win 17 = .ok (.ifCond .ne 5, 3) := by decide +kernel
theorem dX4_win_20 : decode cX4_win 20 = .ok (.iconst (-1), 1) := by decide +kernel
theorem dX4_win_21 : decode cX4_win 21 = .ok (.ireturn, 1) := by decide +kernel
theorem dX4_win_22 : decode cX4_win 22 = .ok (.aload_n 0, 1) := by decide +kernel
theorem dX4_win_23 : decode cX4_win 23 = .ok (.dup, 1) := by decide +kernel
theorem dX4_win_24 : decode cX4_win 24 = .ok (.getfield 52, 3) := by decide +kernel
theorem dX4_win_27 : decode cX4_win 27 = .ok (.aload_n 3, 1) := by decide +kernel
theorem dX4_win_28 : decode cX4_win 28 = .ok (.invokevirtual 78, 3) := by decide +kernel
theorem dX4_win_31 : decode cX4_win 31 = .ok (.i2l, 1) := by decide +kernel
theorem dX4_win_32 : decode cX4_win 32 = .ok (.ladd, 1) := by decide +kernel
theorem dX4_win_33 : decode cX4_win 33 = .ok (.putfield 52, 3) := by decide +kernel
theorem dX4_win_36 : decode cX4_win 36 = .ok (.aload_n 3, 1) := by decide +kernel
theorem dX4_win_37 : decode cX4_win 37 = .ok (.iload_n 2, 1) := by decide +kernel
theorem dX4_win_38 : decode cX4_win 38 = .ok (.invokevirtual 82, 3) := by decide +kernel
theorem dX4_win_41 : decode cX4_win 41 = .ok (.ireturn, 1) := by decide +kernel
set_option maxRecDepth 20000 in
theorem ggX4_best_X4_greatestFrom : GoodIn wsX4_best wsX4_greatestFrom := goodIn_r _ [6, 7, 8, 9, 10, 11, 12, 5, 13, 14, 15, 16, 17, 18, 19, 20, 21, 22, 23, 24, 25, 26, 27, 28, 29, 30, 31, 32, 33, 34, 35, 36, 37, 38, 39, 40, 41, 42, 43, 44, 45, 46, 47, 48, 49, 50, 51, 52, 53, 54, 55, 56, 57, 58, 59, 60, 61, 62, 63, 64, 65, 66, 67, 68, 69, 70, 71, 72, 73, 74, 75, 76, 77, 78, 79, 80, 81, 82, 83, 84, 85, 86, 87, 88, 89, 90, 91, 92, 93, 94, 95, 96, 97] (by decide +kernel) (by decide +kernel)
set_option maxRecDepth 20000 in
theorem gX4_best_X4_greatestFrom : GoodIn wsX4_best (wsV RX4 85 RX4 yX4_greatestFrom wsX4_greatestFrom) := goodIn_app (goodIn_of _ (by decide +kernel)) ggX4_best_X4_greatestFrom
theorem dX4_best_0 : decode cX4_best 0 = .ok (.aload_n 0, 1) := by decide +kernel
theorem dX4_best_1 : decode cX4_best 1 = .ok (.aload_n 0, 1) := by decide +kernel
theorem dX4_best_2 : decode cX4_best 2 = .ok (.getfield 24, 3) := by decide +kernel
theorem dX4_best_5 : decode cX4_best 5 = .ok (.iload_n 1, 1) := by decide +kernel
theorem dX4_best_6 : decode cX4_best 6 = .ok (.iload_n 2, 1) := by decide +kernel
theorem dX4_best_7 : decode cX4_best 7 = .ok (.invokevirtual 85, 3) := by decide +kernel
theorem dX4_best_10 : decode cX4_best 10 = .ok (.lreturn, 1) := by decide +kernel
set_option maxRecDepth 20000 in
theorem ggX4_stakes_X4_gameAt : GoodIn wsX4_stakes wsX4_gameAt := goodIn_r _ [8, 3, 9, 10, 11, 7, 12, 69, 70, 71, 72, 73, 74, 75, 76, 77, 78, 79] (by decide +kernel) (by decide +kernel)
set_option maxRecDepth 20000 in
theorem gX4_stakes_X4_gameAt : GoodIn wsX4_stakes (wsV RX4 74 RX4 yX4_gameAt wsX4_gameAt) := goodIn_app (goodIn_of _ (by decide +kernel)) ggX4_stakes_X4_gameAt
set_option maxRecDepth 20000 in
theorem ggX4_stakes_X4_isSpot : GoodIn wsX4_stakes wsX4_isSpot := goodIn_r _ [16, 17, 18, 10, 11, 7, 12, 69, 70, 71, 72, 73, 74, 75, 76, 77, 78, 79] (by decide +kernel) (by decide +kernel)
set_option maxRecDepth 20000 in
theorem gX4_stakes_X4_isSpot : GoodIn wsX4_stakes (wsV RX4 89 RX4 yX4_isSpot wsX4_isSpot) := goodIn_app (goodIn_of _ (by decide +kernel)) ggX4_stakes_X4_isSpot
set_option maxRecDepth 20000 in
theorem ggX4_stakes_X4_isPlayed : GoodIn wsX4_stakes wsX4_isPlayed := goodIn_r _ [22, 17, 10, 11, 7, 12, 69, 70, 71, 72, 73, 74, 75, 76, 77, 78, 79] (by decide +kernel) (by decide +kernel)
set_option maxRecDepth 20000 in
theorem gX4_stakes_X4_isPlayed : GoodIn wsX4_stakes (wsV RX4 95 RX4 yX4_isPlayed wsX4_isPlayed) := goodIn_app (goodIn_of _ (by decide +kernel)) ggX4_stakes_X4_isPlayed
set_option maxRecDepth 20000 in
theorem ggX4_stakes_X0_cover : GoodIn wsX4_stakes wsX0_cover := goodIn_r _ [27, 28, 29, 30, 80, 81, 82, 83, 84] (by decide +kernel) (by decide +kernel)
set_option maxRecDepth 20000 in
theorem gX4_stakes_X0_cover : GoodIn wsX4_stakes (wsV RX4 99 RX0 yX0_cover wsX0_cover) := goodIn_app (goodIn_of _ (by decide +kernel)) ggX4_stakes_X0_cover
set_option maxRecDepth 20000 in
theorem ggX4_stakes_X4_chartRow : GoodIn wsX4_stakes wsX4_chartRow := goodIn_r _ [34, 17, 35, 36, 37, 7, 38, 39, 40, 41, 42, 43, 44, 45, 46, 47, 19, 20, 21, 22, 10, 11, 12, 4, 5, 6, 8, 3, 9, 48, 49, 50, 51, 52, 53, 54, 55, 56, 57, 58, 59, 60, 61, 62, 63, 64, 80, 81, 82, 83, 84, 69, 70, 71, 72, 73, 74, 75, 76, 77, 78, 79, 85, 86, 87, 88, 89, 90, 91, 92, 93, 94, 95, 96] (by decide +kernel) (by decide +kernel)
set_option maxRecDepth 20000 in
theorem gX4_stakes_X4_chartRow : GoodIn wsX4_stakes (wsV RX4 103 RX4 yX4_chartRow wsX4_chartRow) := goodIn_app (goodIn_of _ (by decide +kernel)) ggX4_stakes_X4_chartRow
set_option maxRecDepth 20000 in
theorem ggX4_stakes_X4_bestStakes : GoodIn wsX4_stakes wsX4_bestStakes := goodIn_r _ [68, 43, 52, 53, 7, 54, 55, 56, 46, 57, 58, 59, 60, 61, 17, 62, 63, 64, 85, 86, 87, 88, 89, 90, 91, 92, 93, 94, 95, 96, 69, 70, 71, 72, 73, 74, 75, 76, 77, 78, 79] (by decide +kernel) (by decide +kernel)
set_option maxRecDepth 20000 in
theorem gX4_stakes_X4_bestStakes : GoodIn wsX4_stakes (wsV RX4 107 RX4 yX4_bestStakes wsX4_bestStakes) := goodIn_app (goodIn_of _ (by decide +kernel)) ggX4_stakes_X4_bestStakes
theorem dX4_stakes_0 : decode cX4_stakes 0 = .ok (.aload_n 0, 1) := by decide +kernel
theorem dX4_stakes_1 : decode cX4_stakes 1 = .ok (.iload_n 1, 1) := by decide +kernel
theorem dX4_stakes_2 : decode cX4_stakes 2 = .ok (.invokevirtual 74, 3) := by decide +kernel
theorem dX4_stakes_5 : decode cX4_stakes 5 = .ok (.astore 4, 2) := by decide +kernel
theorem dX4_stakes_7 : decode cX4_stakes 7 = .ok (.aload 4, 2) := by decide +kernel
theorem dX4_stakes_9 : decode cX4_stakes 9 = .ok (.ifnull 17, 3) := by decide +kernel
theorem dX4_stakes_12 : decode cX4_stakes 12 = .ok (.aload_n 0, 1) := by decide +kernel
theorem dX4_stakes_13 : decode cX4_stakes 13 = .ok (.iload_n 2, 1) := by decide +kernel
theorem dX4_stakes_14 : decode cX4_stakes 14 = .ok (.iload_n 3, 1) := by decide +kernel
theorem dX4_stakes_15 : decode cX4_stakes 15 = .ok (.invokevirtual 89, 3) := by decide +kernel
theorem dX4_stakes_18 : decode cX4_stakes 18 = .ok (.ifCond .eq 8, 3) := by decide +kernel
theorem dX4_stakes_21 : decode cX4_stakes 21 = .ok (.iload_n 3, 1) := by decide +kernel
theorem dX4_stakes_22 : decode cX4_stakes 22 = .ok (.iconst 1, 1) := by decide +kernel
theorem dX4_stakes_23 : decode cX4_stakes 23 = .ok (.if_icmp .ge 7, 3) := by decide +kernel
theorem dX4_stakes_26 : decode cX4_stakes 26 = .ok (.ldc2_w 93, 3) := by decide +kernel
theorem dX4_stakes_29 : decode cX4_stakes 29 = .ok (.lreturn, 1) := by decide +kernel
theorem dX4_stakes_30 : decode cX4_stakes 30 = .ok (.aload_n 0, 1) := by decide +kernel
theorem dX4_stakes_31 : decode cX4_stakes 31 = .ok (.iload_n 2, 1) := by decide +kernel
theorem dX4_stakes_32 : decode cX4_stakes 32 = .ok (.invokevirtual 95, 3) := by decide +kernel
theorem dX4_stakes_35 : decode cX4_stakes 35 = .ok (.ifCond .ne 5, 3) := by decide +kernel
theorem dX4_stakes_38 : decode cX4_stakes 38 = .ok (.lconst 0, 1) := by decide +kernel
theorem dX4_stakes_39 : decode cX4_stakes 39 = .ok (.lreturn, 1) := by decide +kernel
theorem dX4_stakes_40 : decode cX4_stakes 40 = .ok (.aload_n 0, 1) := by decide +kernel
theorem dX4_stakes_41 : decode cX4_stakes 41 = .ok (.getfield 24, 3) := by decide +kernel
theorem dX4_stakes_44 : decode cX4_stakes 44 = .ok (.iconst 0, 1) := by decide +kernel
theorem dX4_stakes_45 : decode cX4_stakes 45 = .ok (.aload_n 0, 1) := by decide +kernel
theorem dX4_stakes_46 : decode cX4_stakes 46 = .ok (.getfield 49, 3) := by decide +kernel
theorem dX4_stakes_49 : decode cX4_stakes 49 = .ok (.invokevirtual 99, 3) := by decide +kernel
theorem dX4_stakes_52 : decode cX4_stakes 52 = .ok (.aload_n 0, 1) := by decide +kernel
theorem dX4_stakes_53 : decode cX4_stakes 53 = .ok (.aload 4, 2) := by decide +kernel
theorem dX4_stakes_55 : decode cX4_stakes 55 = .ok (.iload_n 2, 1) := by decide +kernel
theorem dX4_stakes_56 : decode cX4_stakes 56 = .ok (.aload_n 0, 1) := by decide +kernel
theorem dX4_stakes_57 : decode cX4_stakes 57 = .ok (.aload_n 0, 1) := by decide +kernel
theorem dX4_stakes_58 : decode cX4_stakes 58 = .ok (.getfield 24, 3) := by decide +kernel
theorem dX4_stakes_61 : decode cX4_stakes 61 = .ok (.iload_n 3, 1) := by decide +kernel
theorem dX4_stakes_62 : decode cX4_stakes 62 = .ok (.invokevirtual 103, 3) := by decide +kernel
theorem dX4_stakes_65 : decode cX4_stakes 65 = .ok (.iload_n 2, 1) := by decide +kernel
theorem dX4_stakes_66 : decode cX4_stakes 66 = .ok (.laload, 1) := by decide +kernel
theorem dX4_stakes_67 : decode cX4_stakes 67 = .ok (.aload_n 0, 1) := by decide +kernel
theorem dX4_stakes_68 : decode cX4_stakes 68 = .ok (.aload_n 0, 1) := by decide +kernel
theorem dX4_stakes_69 : decode cX4_stakes 69 = .ok (.getfield 24, 3) := by decide +kernel
theorem dX4_stakes_72 : decode cX4_stakes 72 = .ok (.iload_n 3, 1) := by decide +kernel
theorem dX4_stakes_73 : decode cX4_stakes 73 = .ok (.iconst 1, 1) := by decide +kernel
theorem dX4_stakes_74 : decode cX4_stakes 74 = .ok (.isub, 1) := by decide +kernel
theorem dX4_stakes_75 : decode cX4_stakes 75 = .ok (.invokevirtual 103, 3) := by decide +kernel
theorem dX4_stakes_78 : decode cX4_stakes 78 = .ok (.invokevirtual 107, 3) := by decide +kernel
theorem dX4_stakes_81 : decode cX4_stakes 81 = .ok (.lreturn, 1) := by decide +kernel
set_option maxRecDepth 20000 in
theorem ggX4_mean_X4_greatestFrom : GoodIn wsX4_mean wsX4_greatestFrom := goodIn_r _ [6, 7, 8, 9, 10, 11, 12, 5, 13, 14, 15, 16, 17, 18, 19, 20, 21, 22, 23, 24, 25, 26, 27, 28, 29, 30, 31, 32, 33, 34, 35, 36, 37, 38, 39, 40, 41, 42, 43, 44, 45, 46, 47, 48, 49, 50, 51, 52, 53, 54, 55, 56, 57, 58, 59, 60, 61, 62, 63, 64, 65, 66, 67, 68, 69, 70, 71, 72, 73, 74, 75, 76, 77, 78, 79, 80, 81, 82, 83, 84, 85, 86, 87, 88, 89, 90, 91, 92, 93, 94, 95, 96, 97] (by decide +kernel) (by decide +kernel)
set_option maxRecDepth 20000 in
theorem gX4_mean_X4_greatestFrom : GoodIn wsX4_mean (wsV RX4 85 RX4 yX4_greatestFrom wsX4_greatestFrom) := goodIn_app (goodIn_of _ (by decide +kernel)) ggX4_mean_X4_greatestFrom
theorem dX4_mean_0 : decode cX4_mean 0 = .ok (.aload_n 0, 1) := by decide +kernel
theorem dX4_mean_1 : decode cX4_mean 1 = .ok (.aload_n 0, 1) := by decide +kernel
theorem dX4_mean_2 : decode cX4_mean 2 = .ok (.getfield 28, 3) := by decide +kernel
theorem dX4_mean_5 : decode cX4_mean 5 = .ok (.iload_n 1, 1) := by decide +kernel
theorem dX4_mean_6 : decode cX4_mean 6 = .ok (.iload_n 2, 1) := by decide +kernel
theorem dX4_mean_7 : decode cX4_mean 7 = .ok (.invokevirtual 85, 3) := by decide +kernel
theorem dX4_mean_10 : decode cX4_mean 10 = .ok (.lreturn, 1) := by decide +kernel
set_option maxRecDepth 20000 in
theorem ggX4_tell_X4_isPlayed : GoodIn wsX4_tell wsX4_isPlayed := goodIn_r _ [6, 7, 8, 9, 5, 10, 11, 12, 13, 14, 15, 16, 17, 18, 19, 20, 21] (by decide +kernel) (by decide +kernel)
set_option maxRecDepth 20000 in
theorem gX4_tell_X4_isPlayed : GoodIn wsX4_tell (wsV RX4 95 RX4 yX4_isPlayed wsX4_isPlayed) := goodIn_app (goodIn_of _ (by decide +kernel)) ggX4_tell_X4_isPlayed
set_option maxRecDepth 20000 in
theorem ggX4_tell_X4_within : GoodIn wsX4_tell wsX4_within := goodIn_r _ [10] (by decide +kernel) (by decide +kernel)
set_option maxRecDepth 20000 in
theorem gX4_tell_X4_within : GoodIn wsX4_tell (va_wsS RX4 56 yX4_within wsX4_within) := goodIn_app (goodIn_of _ (by decide +kernel)) ggX4_tell_X4_within
theorem dX4_tell_0 : decode cX4_tell 0 = .ok (.aload_n 0, 1) := by decide +kernel
theorem dX4_tell_1 : decode cX4_tell 1 = .ok (.iload_n 1, 1) := by decide +kernel
theorem dX4_tell_2 : decode cX4_tell 2 = .ok (.invokevirtual 95, 3) := by decide +kernel
theorem dX4_tell_5 : decode cX4_tell 5 = .ok (.ifCond .eq 13, 3) := by decide +kernel
theorem dX4_tell_8 : decode cX4_tell 8 = .ok (.iload_n 2, 1) := by decide +kernel
theorem dX4_tell_9 : decode cX4_tell 9 = .ok (.iconst 0, 1) := by decide +kernel
theorem dX4_tell_10 : decode cX4_tell 10 = .ok (.bipush 32, 2) := by decide +kernel
theorem dX4_tell_12 : decode cX4_tell 12 = .ok (.invokestatic 56, 3) := by decide +kernel
theorem dX4_tell_15 : decode cX4_tell 15 = .ok (.ifCond .ne 5, 3) := by decide +kernel
theorem dX4_tell_18 : decode cX4_tell 18 = .ok (.iconst (-1), 1) := by decide +kernel
theorem dX4_tell_19 : decode cX4_tell 19 = .ok (.ireturn, 1) := by decide +kernel
theorem dX4_tell_20 : decode cX4_tell 20 = .ok (.aload_n 0, 1) := by decide +kernel
theorem dX4_tell_21 : decode cX4_tell 21 = .ok (.getfield 15, 3) := by decide +kernel
theorem dX4_tell_24 : decode cX4_tell 24 = .ok (.iload_n 1, 1) := by decide +kernel
theorem dX4_tell_25 : decode cX4_tell 25 = .ok (.iaload, 1) := by decide +kernel
theorem dX4_tell_26 : decode cX4_tell 26 = .ok (.istore_n 3, 1) := by decide +kernel
theorem dX4_tell_27 : decode cX4_tell 27 = .ok (.aload_n 0, 1) := by decide +kernel
theorem dX4_tell_28 : decode cX4_tell 28 = .ok (.getfield 15, 3) := by decide +kernel
theorem dX4_tell_31 : decode cX4_tell 31 = .ok (.iload_n 1, 1) := by decide +kernel
theorem dX4_tell_32 : decode cX4_tell 32 = .ok (.iload_n 2, 1) := by decide +kernel
theorem dX4_tell_33 : decode cX4_tell 33 = .ok (.iastore, 1) := by decide +kernel
theorem dX4_tell_34 : decode cX4_tell 34 = .ok (.iload_n 3, 1) := by decide +kernel
theorem dX4_tell_35 : decode cX4_tell 35 = .ok (.ireturn, 1) := by decide +kernel
set_option maxRecDepth 20000 in
theorem ggX4_stake_X4_gameAt : GoodIn wsX4_stake wsX4_gameAt := goodIn_r _ [5, 6, 7, 8, 9, 4, 10, 32, 33, 34, 35, 36, 37, 38, 39, 40, 41, 42] (by decide +kernel) (by decide +kernel)
set_option maxRecDepth 20000 in
theorem gX4_stake_X4_gameAt : GoodIn wsX4_stake (wsV RX4 74 RX4 yX4_gameAt wsX4_gameAt) := goodIn_app (goodIn_of _ (by decide +kernel)) ggX4_stake_X4_gameAt
set_option maxRecDepth 20000 in
theorem ggX4_stake_X4_within : GoodIn wsX4_stake wsX4_within := goodIn_r _ [10] (by decide +kernel) (by decide +kernel)
set_option maxRecDepth 20000 in
theorem gX4_stake_X4_within : GoodIn wsX4_stake (va_wsS RX4 56 yX4_within wsX4_within) := goodIn_app (goodIn_of _ (by decide +kernel)) ggX4_stake_X4_within
set_option maxRecDepth 20000 in
theorem ggX4_stake_X4_isPlayed : GoodIn wsX4_stake wsX4_isPlayed := goodIn_r _ [14, 15, 8, 9, 4, 10, 32, 33, 34, 35, 36, 37, 38, 39, 40, 41, 42] (by decide +kernel) (by decide +kernel)
set_option maxRecDepth 20000 in
theorem gX4_stake_X4_isPlayed : GoodIn wsX4_stake (wsV RX4 95 RX4 yX4_isPlayed wsX4_isPlayed) := goodIn_app (goodIn_of _ (by decide +kernel)) ggX4_stake_X4_isPlayed
set_option maxRecDepth 20000 in
theorem ggX4_stake_X4_planned : GoodIn wsX4_stake wsX4_planned := goodIn_r _ [19, 20, 21, 22, 23, 24, 25, 26, 27, 4, 28, 15, 29, 30, 31, 32, 33, 34, 35, 36, 37, 38, 39, 40, 41, 42, 43, 44, 45, 46, 47, 48, 49, 50, 51, 52, 53, 54] (by decide +kernel) (by decide +kernel)
set_option maxRecDepth 20000 in
theorem gX4_stake_X4_planned : GoodIn wsX4_stake (wsV RX4 111 RX4 yX4_planned wsX4_planned) := goodIn_app (goodIn_of _ (by decide +kernel)) ggX4_stake_X4_planned
theorem dX4_stake_0 : decode cX4_stake 0 = .ok (.aload_n 0, 1) := by decide +kernel
theorem dX4_stake_1 : decode cX4_stake 1 = .ok (.iload_n 2, 1) := by decide +kernel
theorem dX4_stake_2 : decode cX4_stake 2 = .ok (.invokevirtual 74, 3) := by decide +kernel
theorem dX4_stake_5 : decode cX4_stake 5 = .ok (.astore 4, 2) := by decide +kernel
theorem dX4_stake_7 : decode cX4_stake 7 = .ok (.aload 4, 2) := by decide +kernel
theorem dX4_stake_9 : decode cX4_stake 9 = .ok (.ifnull 20, 3) := by decide +kernel
theorem dX4_stake_12 : decode cX4_stake 12 = .ok (.iload_n 1, 1) := by decide +kernel
theorem dX4_stake_13 : decode cX4_stake 13 = .ok (.iconst 0, 1) := by decide +kernel
theorem dX4_stake_14 : decode cX4_stake 14 = .ok (.iconst 2, 1) := by decide +kernel
theorem dX4_stake_15 : decode cX4_stake 15 = .ok (.invokestatic 56, 3) := by decide +kernel
theorem dX4_stake_18 : decode cX4_stake 18 = .ok (.ifCond .eq 11, 3) := by decide +kernel
theorem dX4_stake_21 : decode cX4_stake 21 = .ok (.aload_n 0, 1) := by decide +kernel
theorem dX4_stake_22 : decode cX4_stake 22 = .ok (.iload_n 3, 1) := by decide +kernel
theorem dX4_stake_23 : decode cX4_stake 23 = .ok (.invokevirtual 95, 3) := by decide +kernel
theorem dX4_stake_26 : decode cX4_stake 26 = .ok (.ifCond .ne 5, 3) := by decide +kernel
theorem dX4_stake_29 : decode cX4_stake 29 = .ok (.iconst (-1), 1) := by decide +kernel
theorem dX4_stake_30 : decode cX4_stake 30 = .ok (.ireturn, 1) := by decide +kernel
theorem dX4_stake_31 : decode cX4_stake 31 = .ok (.aload_n 0, 1) := by decide +kernel
theorem dX4_stake_32 : decode cX4_stake 32 = .ok (.iload_n 1, 1) := by decide +kernel
theorem dX4_stake_33 : decode cX4_stake 33 = .ok (.aload 4, 2) := by decide +kernel
theorem dX4_stake_35 : decode cX4_stake 35 = .ok (.iload_n 3, 1) := by decide +kernel
theorem dX4_stake_36 : decode cX4_stake 36 = .ok (.iconst 0, 1) := by decide +kernel
theorem dX4_stake_37 : decode cX4_stake 37 = .ok (.invokevirtual 111, 3) := by decide +kernel
theorem dX4_stake_40 : decode cX4_stake 40 = .ok (.ireturn, 1) := by decide +kernel
set_option maxRecDepth 20000 in
theorem ggX4_plan_X4_gameAt : GoodIn wsX4_plan wsX4_gameAt := goodIn_r _ [6, 7, 8, 9, 10, 5, 11, 64, 65, 66, 67, 68, 69, 70, 71, 72, 73, 74] (by decide +kernel) (by decide +kernel)
set_option maxRecDepth 20000 in
theorem gX4_plan_X4_gameAt : GoodIn wsX4_plan (wsV RX4 74 RX4 yX4_gameAt wsX4_gameAt) := goodIn_app (goodIn_of _ (by decide +kernel)) ggX4_plan_X4_gameAt
set_option maxRecDepth 20000 in
theorem ggX4_plan_X4_within : GoodIn wsX4_plan wsX4_within := goodIn_r _ [11] (by decide +kernel) (by decide +kernel)
set_option maxRecDepth 20000 in
theorem gX4_plan_X4_within : GoodIn wsX4_plan (va_wsS RX4 56 yX4_within wsX4_within) := goodIn_app (goodIn_of _ (by decide +kernel)) ggX4_plan_X4_within
set_option maxRecDepth 20000 in
theorem ggX4_plan_X4_isSpot : GoodIn wsX4_plan wsX4_isSpot := goodIn_r _ [15, 16, 17, 9, 10, 5, 11, 64, 65, 66, 67, 68, 69, 70, 71, 72, 73, 74] (by decide +kernel) (by decide +kernel)
set_option maxRecDepth 20000 in
theorem gX4_plan_X4_isSpot : GoodIn wsX4_plan (wsV RX4 89 RX4 yX4_isSpot wsX4_isSpot) := goodIn_app (goodIn_of _ (by decide +kernel)) ggX4_plan_X4_isSpot
set_option maxRecDepth 20000 in
theorem ggX4_plan_X4_planWorth : GoodIn wsX4_plan wsX4_planWorth := goodIn_r _ [21, 22, 23, 24, 25, 26, 27, 28, 29, 5, 30, 16, 31, 32, 33, 34, 35, 9, 10, 11, 36, 37, 38, 39, 40, 41, 42, 43, 44, 45, 46, 47, 48, 49, 50, 51, 52, 53, 54, 55, 56, 57, 58, 59, 60, 61, 62, 63, 64, 65, 66, 67, 68, 69, 70, 71, 72, 73, 74, 75, 76, 77, 78, 79, 80, 81, 82, 83, 84, 85, 86] (by decide +kernel) (by decide +kernel)
set_option maxRecDepth 20000 in
theorem gX4_plan_X4_planWorth : GoodIn wsX4_plan (wsV RX4 115 RX4 yX4_planWorth wsX4_planWorth) := goodIn_app (goodIn_of _ (by decide +kernel)) ggX4_plan_X4_planWorth
theorem dX4_plan_0 : decode cX4_plan 0 = .ok (.aload_n 0, 1) := by decide +kernel
theorem dX4_plan_1 : decode cX4_plan 1 = .ok (.iload_n 2, 1) := by decide +kernel
theorem dX4_plan_2 : decode cX4_plan 2 = .ok (.invokevirtual 74, 3) := by decide +kernel
theorem dX4_plan_5 : decode cX4_plan 5 = .ok (.astore 6, 2) := by decide +kernel
theorem dX4_plan_7 : decode cX4_plan 7 = .ok (.aload 6, 2) := by decide +kernel
theorem dX4_plan_9 : decode cX4_plan 9 = .ok (.ifnull 22, 3) := by decide +kernel
theorem dX4_plan_12 : decode cX4_plan 12 = .ok (.iload_n 1, 1) := by decide +kernel
theorem dX4_plan_13 : decode cX4_plan 13 = .ok (.iconst 0, 1) := by decide +kernel
theorem dX4_plan_14 : decode cX4_plan 14 = .ok (.iconst 3, 1) := by decide +kernel
theorem dX4_plan_15 : decode cX4_plan 15 = .ok (.invokestatic 56, 3) := by decide +kernel
theorem dX4_plan_18 : decode cX4_plan 18 = .ok (.ifCond .eq 13, 3) := by decide +kernel
theorem dX4_plan_21 : decode cX4_plan 21 = .ok (.iload 5, 2) := by decide +kernel
theorem dX4_plan_23 : decode cX4_plan 23 = .ok (.iconst 0, 1) := by decide +kernel
theorem dX4_plan_24 : decode cX4_plan 24 = .ok (.iconst 3, 1) := by decide +kernel
theorem dX4_plan_25 : decode cX4_plan 25 = .ok (.invokestatic 56, 3) := by decide +kernel
theorem dX4_plan_28 : decode cX4_plan 28 = .ok (.ifCond .ne 7, 3) := by decide +kernel
theorem dX4_plan_31 : decode cX4_plan 31 = .ok (.ldc2_w 93, 3) := by decide +kernel
theorem dX4_plan_34 : decode cX4_plan 34 = .ok (.lreturn, 1) := by decide +kernel
theorem dX4_plan_35 : decode cX4_plan 35 = .ok (.aload_n 0, 1) := by decide +kernel
theorem dX4_plan_36 : decode cX4_plan 36 = .ok (.iload_n 3, 1) := by decide +kernel
theorem dX4_plan_37 : decode cX4_plan 37 = .ok (.iload 4, 2) := by decide +kernel
theorem dX4_plan_39 : decode cX4_plan 39 = .ok (.invokevirtual 89, 3) := by decide +kernel
theorem dX4_plan_42 : decode cX4_plan 42 = .ok (.ifCond .ne 7, 3) := by decide +kernel
theorem dX4_plan_45 : decode cX4_plan 45 = .ok (.ldc2_w 93, 3) := by decide +kernel
theorem dX4_plan_48 : decode cX4_plan 48 = .ok (.lreturn, 1) := by decide +kernel
theorem dX4_plan_49 : decode cX4_plan 49 = .ok (.aload_n 0, 1) := by decide +kernel
theorem dX4_plan_50 : decode cX4_plan 50 = .ok (.iload_n 1, 1) := by decide +kernel
theorem dX4_plan_51 : decode cX4_plan 51 = .ok (.aload 6, 2) := by decide +kernel
theorem dX4_plan_53 : decode cX4_plan 53 = .ok (.iload_n 3, 1) := by decide +kernel
theorem dX4_plan_54 : decode cX4_plan 54 = .ok (.iload 4, 2) := by decide +kernel
theorem dX4_plan_56 : decode cX4_plan 56 = .ok (.iload 5, 2) := by decide +kernel
theorem dX4_plan_58 : decode cX4_plan 58 = .ok (.invokevirtual 115, 3) := by decide +kernel
theorem dX4_plan_61 : decode cX4_plan 61 = .ok (.lreturn, 1) := by decide +kernel
set_option maxRecDepth 20000 in
theorem ggX4_bold_X4_gameAt : GoodIn wsX4_bold wsX4_gameAt := goodIn_r _ [6, 7, 8, 9, 10, 5, 11, 87, 88, 89, 90, 91, 92, 93, 94, 95, 96, 97] (by decide +kernel) (by decide +kernel)
set_option maxRecDepth 20000 in
theorem gX4_bold_X4_gameAt : GoodIn wsX4_bold (wsV RX4 74 RX4 yX4_gameAt wsX4_gameAt) := goodIn_app (goodIn_of _ (by decide +kernel)) ggX4_bold_X4_gameAt
set_option maxRecDepth 20000 in
theorem ggX4_bold_X4_isSpot : GoodIn wsX4_bold wsX4_isSpot := goodIn_r _ [15, 16, 17, 9, 10, 5, 11, 87, 88, 89, 90, 91, 92, 93, 94, 95, 96, 97] (by decide +kernel) (by decide +kernel)
set_option maxRecDepth 20000 in
theorem gX4_bold_X4_isSpot : GoodIn wsX4_bold (wsV RX4 89 RX4 yX4_isSpot wsX4_isSpot) := goodIn_app (goodIn_of _ (by decide +kernel)) ggX4_bold_X4_isSpot
set_option maxRecDepth 20000 in
theorem ggX4_bold_X0_cover : GoodIn wsX4_bold wsX0_cover := goodIn_r _ [22, 23, 24, 25, 98, 99, 100, 101, 102] (by decide +kernel) (by decide +kernel)
set_option maxRecDepth 20000 in
theorem gX4_bold_X0_cover : GoodIn wsX4_bold (wsV RX4 99 RX0 yX0_cover wsX0_cover) := goodIn_app (goodIn_of _ (by decide +kernel)) ggX4_bold_X0_cover
set_option maxRecDepth 20000 in
theorem ggX4_bold_X4_chartRow : GoodIn wsX4_bold wsX4_chartRow := goodIn_r _ [29, 16, 30, 31, 32, 5, 33, 34, 35, 36, 37, 38, 39, 40, 41, 42, 43, 44, 45, 46, 9, 10, 11, 2, 3, 4, 6, 7, 8, 47, 48, 49, 50, 51, 52, 53, 54, 55, 56, 57, 58, 59, 60, 61, 62, 63, 98, 99, 100, 101, 102, 87, 88, 89, 90, 91, 92, 93, 94, 95, 96, 97, 103, 104, 105, 106, 107, 108, 109, 110, 111, 112, 113, 114] (by decide +kernel) (by decide +kernel)
set_option maxRecDepth 20000 in
theorem gX4_bold_X4_chartRow : GoodIn wsX4_bold (wsV RX4 103 RX4 yX4_chartRow wsX4_chartRow) := goodIn_app (goodIn_of _ (by decide +kernel)) ggX4_bold_X4_chartRow
set_option maxRecDepth 20000 in
theorem ggX4_bold_X4_planWorth : GoodIn wsX4_bold wsX4_planWorth := goodIn_r _ [67, 54, 55, 41, 56, 68, 69, 70, 71, 5, 72, 16, 73, 43, 44, 45, 46, 9, 10, 11, 74, 75, 76, 77, 78, 79, 80, 81, 82, 51, 52, 53, 30, 31, 32, 33, 83, 84, 85, 86, 38, 57, 58, 59, 60, 61, 62, 63, 87, 88, 89, 90, 91, 92, 93, 94, 95, 96, 97, 103, 104, 105, 106, 107, 108, 109, 110, 111, 112, 113, 114] (by decide +kernel) (by decide +kernel)
set_option maxRecDepth 20000 in
theorem gX4_bold_X4_planWorth : GoodIn wsX4_bold (wsV RX4 115 RX4 yX4_planWorth wsX4_planWorth) := goodIn_app (goodIn_of _ (by decide +kernel)) ggX4_bold_X4_planWorth
theorem dX4_bold_0 : decode cX4_bold 0 = .ok (.aload_n 0, 1) := by decide +kernel
theorem dX4_bold_1 : decode cX4_bold 1 = .ok (.iload_n 1, 1) := by decide +kernel
theorem dX4_bold_2 : decode cX4_bold 2 = .ok (.invokevirtual 74, 3) := by decide +kernel
theorem dX4_bold_5 : decode cX4_bold 5 = .ok (.astore 4, 2) := by decide +kernel
theorem dX4_bold_7 : decode cX4_bold 7 = .ok (.aload 4, 2) := by decide +kernel
theorem dX4_bold_9 : decode cX4_bold 9 = .ok (.ifnull 12, 3) := by decide +kernel
theorem dX4_bold_12 : decode cX4_bold 12 = .ok (.aload_n 0, 1) := by decide +kernel
theorem dX4_bold_13 : decode cX4_bold 13 = .ok (.iload_n 2, 1) := by decide +kernel
theorem dX4_bold_14 : decode cX4_bold 14 = .ok (.iload_n 3, 1) := by decide +kernel
theorem dX4_bold_15 : decode cX4_bold 15 = .ok (.invokevirtual 89, 3) := by decide +kernel
theorem dX4_bold_18 : decode cX4_bold 18 = .ok (.ifCond .ne 5, 3) := by decide +kernel
theorem dX4_bold_21 : decode cX4_bold 21 = .ok (.iconst (-1), 1) := by decide +kernel
theorem dX4_bold_22 : decode cX4_bold 22 = .ok (.ireturn, 1) := by decide +kernel
theorem dX4_bold_23 : decode cX4_bold 23 = .ok (.aload_n 0, 1) := by decide +kernel
theorem dX4_bold_24 : decode cX4_bold 24 = .ok (.getfield 31, 3) := by decide +kernel
theorem dX4_bold_27 : decode cX4_bold 27 = .ok (.iload_n 1, 1) := by decide +kernel
theorem dX4_bold_28 : decode cX4_bold 28 = .ok (.iload_n 1, 1) := by decide +kernel
theorem dX4_bold_29 : decode cX4_bold 29 = .ok (.iconst 1, 1) := by decide +kernel
theorem dX4_bold_30 : decode cX4_bold 30 = .ok (.iadd, 1) := by decide +kernel
theorem dX4_bold_31 : decode cX4_bold 31 = .ok (.invokevirtual 99, 3) := by decide +kernel
theorem dX4_bold_34 : decode cX4_bold 34 = .ok (.aload_n 0, 1) := by decide +kernel
theorem dX4_bold_35 : decode cX4_bold 35 = .ok (.aload_n 0, 1) := by decide +kernel
theorem dX4_bold_36 : decode cX4_bold 36 = .ok (.getfield 31, 3) := by decide +kernel
theorem dX4_bold_39 : decode cX4_bold 39 = .ok (.iload_n 3, 1) := by decide +kernel
theorem dX4_bold_40 : decode cX4_bold 40 = .ok (.invokevirtual 103, 3) := by decide +kernel
theorem dX4_bold_43 : decode cX4_bold 43 = .ok (.iload_n 2, 1) := by decide +kernel
theorem dX4_bold_44 : decode cX4_bold 44 = .ok (.laload, 1) := by decide +kernel
theorem dX4_bold_45 : decode cX4_bold 45 = .ok (.lstore 5, 2) := by decide +kernel
theorem dX4_bold_47 : decode cX4_bold 47 = .ok (.aload_n 0, 1) := by decide +kernel
theorem dX4_bold_48 : decode cX4_bold 48 = .ok (.iconst 0, 1) := by decide +kernel
theorem dX4_bold_49 : decode cX4_bold 49 = .ok (.aload 4, 2) := by decide +kernel
theorem dX4_bold_51 : decode cX4_bold 51 = .ok (.iload_n 2, 1) := by decide +kernel
theorem dX4_bold_52 : decode cX4_bold 52 = .ok (.iload_n 3, 1) := by decide +kernel
theorem dX4_bold_53 : decode cX4_bold 53 = .ok (.iconst 0, 1) := by decide +kernel
theorem dX4_bold_54 : decode cX4_bold 54 = .ok (.invokevirtual 115, 3) := by decide +kernel
theorem dX4_bold_57 : decode cX4_bold 57 = .ok (.lload 5, 2) := by decide +kernel
theorem dX4_bold_59 : decode cX4_bold 59 = .ok (.lcmp, 1) := by decide +kernel
theorem dX4_bold_60 : decode cX4_bold 60 = .ok (.ifCond .ne 7, 3) := by decide +kernel
theorem dX4_bold_63 : decode cX4_bold 63 = .ok (.iconst 1, 1) := by decide +kernel
theorem dX4_bold_64 : decode cX4_bold 64 = .ok (.goto 4, 3) := by decide +kernel
theorem dX4_bold_67 : decode cX4_bold 67 = .ok (.iconst 0, 1) := by decide +kernel
theorem dX4_bold_68 : decode cX4_bold 68 = .ok (.ireturn, 1) := by decide +kernel
theorem dX4_count_0 : decode cX4_count 0 = .ok (.iload_n 1, 1) := by decide +kernel
theorem dX4_count_1 : decode cX4_count 1 = .ok (.tableswitch 42 0 2 #[27, 32, 37], 27) := by decide +kernel
theorem dX4_count_28 : decode cX4_count 28 = .ok (.aload_n 0, 1) := by decide +kernel
theorem dX4_count_29 : decode cX4_count 29 = .ok (.getfield 42, 3) := by decide +kernel
theorem dX4_count_32 : decode cX4_count 32 = .ok (.ireturn, 1) := by decide +kernel
theorem dX4_count_33 : decode cX4_count 33 = .ok (.aload_n 0, 1) := by decide +kernel
theorem dX4_count_34 : decode cX4_count 34 = .ok (.getfield 46, 3) := by decide +kernel
theorem dX4_count_37 : decode cX4_count 37 = .ok (.ireturn, 1) := by decide +kernel
theorem dX4_count_38 : decode cX4_count 38 = .ok (.aload_n 0, 1) := by decide +kernel
theorem dX4_count_39 : decode cX4_count 39 = .ok (.getfield 49, 3) := by decide +kernel
theorem dX4_count_42 : decode cX4_count 42 = .ok (.ireturn, 1) := by decide +kernel
theorem dX4_count_43 : decode cX4_count 43 = .ok (.iconst (-1), 1) := by decide +kernel
theorem dX4_count_44 : decode cX4_count 44 = .ok (.ireturn, 1) := by decide +kernel
theorem dX4_trace_0 : decode cX4_trace 0 = .ok (.aload_n 0, 1) := by decide +kernel
theorem dX4_trace_1 : decode cX4_trace 1 = .ok (.getfield 52, 3) := by decide +kernel
theorem dX4_trace_4 : decode cX4_trace 4 = .ok (.lreturn, 1) := by decide +kernel
theorem dX4_within_0 : decode cX4_within 0 = .ok (.iload_n 0, 1) := by decide +kernel
theorem dX4_within_1 : decode cX4_within 1 = .ok (.iload_n 1, 1) := by decide +kernel
theorem dX4_within_2 : decode cX4_within 2 = .ok (.if_icmp .lt 12, 3) := by decide +kernel
theorem dX4_within_5 : decode cX4_within 5 = .ok (.iload_n 0, 1) := by decide +kernel
theorem dX4_within_6 : decode cX4_within 6 = .ok (.iload_n 2, 1) := by decide +kernel
theorem dX4_within_7 : decode cX4_within 7 = .ok (.if_icmp .gt 7, 3) := by decide +kernel
theorem dX4_within_10 : decode cX4_within 10 = .ok (.iconst 1, 1) := by decide +kernel
theorem dX4_within_11 : decode cX4_within 11 = .ok (.goto 4, 3) := by decide +kernel
theorem dX4_within_14 : decode cX4_within 14 = .ok (.iconst 0, 1) := by decide +kernel
theorem dX4_within_15 : decode cX4_within 15 = .ok (.ireturn, 1) := by decide +kernel
set_option maxRecDepth 20000 in
theorem ggX4_isSpot_X4_within : GoodIn wsX4_isSpot wsX4_within := goodIn_r _ [6] (by decide +kernel) (by decide +kernel)
set_option maxRecDepth 20000 in
theorem gX4_isSpot_X4_within : GoodIn wsX4_isSpot (va_wsS RX4 56 yX4_within wsX4_within) := goodIn_app (goodIn_of _ (by decide +kernel)) ggX4_isSpot_X4_within
theorem dX4_isSpot_0 : decode cX4_isSpot 0 = .ok (.iload_n 1, 1) := by decide +kernel
theorem dX4_isSpot_1 : decode cX4_isSpot 1 = .ok (.iconst 0, 1) := by decide +kernel
theorem dX4_isSpot_2 : decode cX4_isSpot 2 = .ok (.aload_n 0, 1) := by decide +kernel
theorem dX4_isSpot_3 : decode cX4_isSpot 3 = .ok (.getfield 42, 3) := by decide +kernel
theorem dX4_isSpot_6 : decode cX4_isSpot 6 = .ok (.invokestatic 56, 3) := by decide +kernel
theorem dX4_isSpot_9 : decode cX4_isSpot 9 = .ok (.ifCond .eq 19, 3) := by decide +kernel
theorem dX4_isSpot_12 : decode cX4_isSpot 12 = .ok (.iload_n 2, 1) := by decide +kernel
theorem dX4_isSpot_13 : decode cX4_isSpot 13 = .ok (.iconst 0, 1) := by decide +kernel
theorem dX4_isSpot_14 : decode cX4_isSpot 14 = .ok (.aload_n 0, 1) := by decide +kernel
theorem dX4_isSpot_15 : decode cX4_isSpot 15 = .ok (.getfield 46, 3) := by decide +kernel
theorem dX4_isSpot_18 : decode cX4_isSpot 18 = .ok (.invokestatic 56, 3) := by decide +kernel
theorem dX4_isSpot_21 : decode cX4_isSpot 21 = .ok (.ifCond .eq 7, 3) := by decide +kernel
theorem dX4_isSpot_24 : decode cX4_isSpot 24 = .ok (.iconst 1, 1) := by decide +kernel
theorem dX4_isSpot_25 : decode cX4_isSpot 25 = .ok (.goto 4, 3) := by decide +kernel
theorem dX4_isSpot_28 : decode cX4_isSpot 28 = .ok (.iconst 0, 1) := by decide +kernel
theorem dX4_isSpot_29 : decode cX4_isSpot 29 = .ok (.ireturn, 1) := by decide +kernel
set_option maxRecDepth 20000 in
theorem ggX4_isPlayed_X4_within : GoodIn wsX4_isPlayed wsX4_within := goodIn_r _ [5] (by decide +kernel) (by decide +kernel)
set_option maxRecDepth 20000 in
theorem gX4_isPlayed_X4_within : GoodIn wsX4_isPlayed (va_wsS RX4 56 yX4_within wsX4_within) := goodIn_app (goodIn_of _ (by decide +kernel)) ggX4_isPlayed_X4_within
theorem dX4_isPlayed_0 : decode cX4_isPlayed 0 = .ok (.iload_n 1, 1) := by decide +kernel
theorem dX4_isPlayed_1 : decode cX4_isPlayed 1 = .ok (.iconst 1, 1) := by decide +kernel
theorem dX4_isPlayed_2 : decode cX4_isPlayed 2 = .ok (.aload_n 0, 1) := by decide +kernel
theorem dX4_isPlayed_3 : decode cX4_isPlayed 3 = .ok (.getfield 42, 3) := by decide +kernel
theorem dX4_isPlayed_6 : decode cX4_isPlayed 6 = .ok (.iconst 1, 1) := by decide +kernel
theorem dX4_isPlayed_7 : decode cX4_isPlayed 7 = .ok (.isub, 1) := by decide +kernel
theorem dX4_isPlayed_8 : decode cX4_isPlayed 8 = .ok (.invokestatic 56, 3) := by decide +kernel
theorem dX4_isPlayed_11 : decode cX4_isPlayed 11 = .ok (.ireturn, 1) := by decide +kernel
set_option maxRecDepth 20000 in
theorem ggX4_gameAt_X4_within : GoodIn wsX4_gameAt wsX4_within := goodIn_r _ [6] (by decide +kernel) (by decide +kernel)
set_option maxRecDepth 20000 in
theorem gX4_gameAt_X4_within : GoodIn wsX4_gameAt (va_wsS RX4 56 yX4_within wsX4_within) := goodIn_app (goodIn_of _ (by decide +kernel)) ggX4_gameAt_X4_within
theorem dX4_gameAt_0 : decode cX4_gameAt 0 = .ok (.iload_n 1, 1) := by decide +kernel
theorem dX4_gameAt_1 : decode cX4_gameAt 1 = .ok (.iconst 0, 1) := by decide +kernel
theorem dX4_gameAt_2 : decode cX4_gameAt 2 = .ok (.aload_n 0, 1) := by decide +kernel
theorem dX4_gameAt_3 : decode cX4_gameAt 3 = .ok (.getfield 49, 3) := by decide +kernel
theorem dX4_gameAt_6 : decode cX4_gameAt 6 = .ok (.iconst 1, 1) := by decide +kernel
theorem dX4_gameAt_7 : decode cX4_gameAt 7 = .ok (.isub, 1) := by decide +kernel
theorem dX4_gameAt_8 : decode cX4_gameAt 8 = .ok (.invokestatic 56, 3) := by decide +kernel
theorem dX4_gameAt_11 : decode cX4_gameAt 11 = .ok (.ifCond .eq 12, 3) := by decide +kernel
theorem dX4_gameAt_14 : decode cX4_gameAt 14 = .ok (.aload_n 0, 1) := by decide +kernel
theorem dX4_gameAt_15 : decode cX4_gameAt 15 = .ok (.getfield 11, 3) := by decide +kernel
theorem dX4_gameAt_18 : decode cX4_gameAt 18 = .ok (.iload_n 1, 1) := by decide +kernel
theorem dX4_gameAt_19 : decode cX4_gameAt 19 = .ok (.aaload, 1) := by decide +kernel
theorem dX4_gameAt_20 : decode cX4_gameAt 20 = .ok (.goto 4, 3) := by decide +kernel
theorem dX4_gameAt_23 : decode cX4_gameAt 23 = .ok (.aconst_null, 1) := by decide +kernel
theorem dX4_gameAt_24 : decode cX4_gameAt 24 = .ok (.areturn, 1) := by decide +kernel
set_option maxRecDepth 20000 in
theorem ggX4_changeGoal_X4_forgetCharts : GoodIn wsX4_changeGoal wsX4_forgetCharts := goodIn_r _ [7, 8, 9, 10, 11, 12, 13, 14, 15, 16, 17, 18, 19, 20, 21, 22, 23, 24, 25, 26, 27, 28, 29, 30, 31, 32] (by decide +kernel) (by decide +kernel)
set_option maxRecDepth 20000 in
theorem gX4_changeGoal_X4_forgetCharts : GoodIn wsX4_changeGoal (wsV RX4 71 RX4 yX4_forgetCharts wsX4_forgetCharts) := goodIn_app (goodIn_of _ (by decide +kernel)) ggX4_changeGoal_X4_forgetCharts
theorem dX4_changeGoal_0 : decode cX4_changeGoal 0 = .ok (.aload_n 0, 1) := by decide +kernel
theorem dX4_changeGoal_1 : decode cX4_changeGoal 1 = .ok (.getfield 42, 3) := by decide +kernel
theorem dX4_changeGoal_4 : decode cX4_changeGoal 4 = .ok (.istore_n 2, 1) := by decide +kernel
theorem dX4_changeGoal_5 : decode cX4_changeGoal 5 = .ok (.aload_n 0, 1) := by decide +kernel
theorem dX4_changeGoal_6 : decode cX4_changeGoal 6 = .ok (.iload_n 1, 1) := by decide +kernel
theorem dX4_changeGoal_7 : decode cX4_changeGoal 7 = .ok (.putfield 42, 3) := by decide +kernel
theorem dX4_changeGoal_10 : decode cX4_changeGoal 10 = .ok (.iconst 0, 1) := by decide +kernel
theorem dX4_changeGoal_11 : decode cX4_changeGoal 11 = .ok (.istore_n 3, 1) := by decide +kernel
theorem dX4_changeGoal_12 : decode cX4_changeGoal 12 = .ok (.iload_n 3, 1) := by decide +kernel
theorem dX4_changeGoal_13 : decode cX4_changeGoal 13 = .ok (.bipush 33, 2) := by decide +kernel
theorem dX4_changeGoal_15 : decode cX4_changeGoal 15 = .ok (.if_icmp .ge 16, 3) := by decide +kernel
theorem dX4_changeGoal_18 : decode cX4_changeGoal 18 = .ok (.aload_n 0, 1) := by decide +kernel
theorem dX4_changeGoal_19 : decode cX4_changeGoal 19 = .ok (.getfield 15, 3) := by decide +kernel
theorem dX4_changeGoal_22 : decode cX4_changeGoal 22 = .ok (.iload_n 3, 1) := by decide +kernel
theorem dX4_changeGoal_23 : decode cX4_changeGoal 23 = .ok (.iconst 0, 1) := by decide +kernel
theorem dX4_changeGoal_24 : decode cX4_changeGoal 24 = .ok (.iastore, 1) := by decide +kernel
theorem dX4_changeGoal_25 : decode cX4_changeGoal 25 = .ok (.iinc 3 1, 3) := by decide +kernel
theorem dX4_changeGoal_28 : decode cX4_changeGoal 28 = .ok (.goto (-16), 3) := by decide +kernel
theorem dX4_changeGoal_31 : decode cX4_changeGoal 31 = .ok (.aload_n 0, 1) := by decide +kernel
theorem dX4_changeGoal_32 : decode cX4_changeGoal 32 = .ok (.invokevirtual 71, 3) := by decide +kernel
theorem dX4_changeGoal_35 : decode cX4_changeGoal 35 = .ok (.iload_n 2, 1) := by decide +kernel
theorem dX4_changeGoal_36 : decode cX4_changeGoal 36 = .ok (.ireturn, 1) := by decide +kernel
set_option maxRecDepth 20000 in
theorem ggX4_forgetCharts_X0_forget : GoodIn wsX4_forgetCharts wsX0_forget := goodIn_r _ [8, 9, 21, 22, 23, 24, 25] (by decide +kernel) (by decide +kernel)
set_option maxRecDepth 20000 in
theorem gX4_forgetCharts_X0_forget : GoodIn wsX4_forgetCharts (wsV RX4 119 RX0 yX0_forget wsX0_forget) := goodIn_app (goodIn_of _ (by decide +kernel)) ggX4_forgetCharts_X0_forget
theorem dX4_forgetCharts_0 : decode cX4_forgetCharts 0 = .ok (.aload_n 0, 1) := by decide +kernel
theorem dX4_forgetCharts_1 : decode cX4_forgetCharts 1 = .ok (.getfield 24, 3) := by decide +kernel
theorem dX4_forgetCharts_4 : decode cX4_forgetCharts 4 = .ok (.invokevirtual 119, 3) := by decide +kernel
theorem dX4_forgetCharts_7 : decode cX4_forgetCharts 7 = .ok (.aload_n 0, 1) := by decide +kernel
theorem dX4_forgetCharts_8 : decode cX4_forgetCharts 8 = .ok (.getfield 28, 3) := by decide +kernel
theorem dX4_forgetCharts_11 : decode cX4_forgetCharts 11 = .ok (.invokevirtual 119, 3) := by decide +kernel
theorem dX4_forgetCharts_14 : decode cX4_forgetCharts 14 = .ok (.aload_n 0, 1) := by decide +kernel
theorem dX4_forgetCharts_15 : decode cX4_forgetCharts 15 = .ok (.getfield 31, 3) := by decide +kernel
theorem dX4_forgetCharts_18 : decode cX4_forgetCharts 18 = .ok (.invokevirtual 119, 3) := by decide +kernel
theorem dX4_forgetCharts_21 : decode cX4_forgetCharts 21 = .ok (.return_, 1) := by decide +kernel
set_option maxRecDepth 20000 in
theorem ggX4_newGame_X3_init : GoodIn wsX4_newGame wsX3_init := goodIn_r _ [12, 13, 14, 15, 6, 16, 17, 18, 19, 9, 20, 21, 22, 23, 24, 25, 26, 27, 30, 31, 32, 33, 34, 35, 36, 37, 38, 39, 40, 41] (by decide +kernel) (by decide +kernel)
set_option maxRecDepth 20000 in
theorem gX4_newGame_X3_init : GoodIn wsX4_newGame (wsX3_init) := ggX4_newGame_X3_init
set_option maxRecDepth 20000 in
theorem ggX4_newGame_X2_init : GoodIn wsX4_newGame wsX2_init := goodIn_r _ [16, 17, 18, 19, 9, 20, 21, 22, 23, 24, 25, 26, 27, 35, 36, 37, 38, 30, 31, 32, 33, 34, 39, 40, 41] (by decide +kernel) (by decide +kernel)
set_option maxRecDepth 20000 in
theorem gX4_newGame_X2_init : GoodIn wsX4_newGame (wsX2_init) := ggX4_newGame_X2_init
set_option maxRecDepth 20000 in
theorem ggX4_newGame_X1_init : GoodIn wsX4_newGame wsX1_init := goodIn_r _ [20, 21, 22, 23, 24, 25, 26, 27, 39, 40, 41, 35, 36, 37, 38, 30, 31, 32, 33, 34] (by decide +kernel) (by decide +kernel)
set_option maxRecDepth 20000 in
theorem gX4_newGame_X1_init : GoodIn wsX4_newGame (wsX1_init) := ggX4_newGame_X1_init
theorem dX4_newGame_0 : decode cX4_newGame 0 = .ok (.iload_n 0, 1) := by decide +kernel
theorem dX4_newGame_1 : decode cX4_newGame 1 = .ok (.iconst 2, 1) := by decide +kernel
theorem dX4_newGame_2 : decode cX4_newGame 2 = .ok (.if_icmp .ne 16, 3) := by decide +kernel
theorem dX4_newGame_5 : decode cX4_newGame 5 = .ok (.new 122, 3) := by decide +kernel
theorem dX4_newGame_8 : decode cX4_newGame 8 = .ok (.dup, 1) := by decide +kernel
theorem dX4_newGame_9 : decode cX4_newGame 9 = .ok (.iload_n 1, 1) := by decide +kernel
theorem dX4_newGame_10 : decode cX4_newGame 10 = .ok (.iload 4, 2) := by decide +kernel
theorem dX4_newGame_12 : decode cX4_newGame 12 = .ok (.iload_n 2, 1) := by decide +kernel
theorem dX4_newGame_13 : decode cX4_newGame 13 = .ok (.iload_n 3, 1) := by decide +kernel
theorem dX4_newGame_14 : decode cX4_newGame 14 = .ok (.invokespecial 124, 3) := by decide +kernel
theorem dX4_newGame_17 : decode cX4_newGame 17 = .ok (.areturn, 1) := by decide +kernel
theorem dX4_newGame_18 : decode cX4_newGame 18 = .ok (.iload_n 0, 1) := by decide +kernel
theorem dX4_newGame_19 : decode cX4_newGame 19 = .ok (.iconst 1, 1) := by decide +kernel
theorem dX4_newGame_20 : decode cX4_newGame 20 = .ok (.if_icmp .ne 15, 3) := by decide +kernel
theorem dX4_newGame_23 : decode cX4_newGame 23 = .ok (.new 127, 3) := by decide +kernel
theorem dX4_newGame_26 : decode cX4_newGame 26 = .ok (.dup, 1) := by decide +kernel
theorem dX4_newGame_27 : decode cX4_newGame 27 = .ok (.iload_n 1, 1) := by decide +kernel
theorem dX4_newGame_28 : decode cX4_newGame 28 = .ok (.iload 4, 2) := by decide +kernel
theorem dX4_newGame_30 : decode cX4_newGame 30 = .ok (.iload_n 2, 1) := by decide +kernel
theorem dX4_newGame_31 : decode cX4_newGame 31 = .ok (.invokespecial 129, 3) := by decide +kernel
theorem dX4_newGame_34 : decode cX4_newGame 34 = .ok (.areturn, 1) := by decide +kernel
theorem dX4_newGame_35 : decode cX4_newGame 35 = .ok (.new 9, 3) := by decide +kernel
theorem dX4_newGame_38 : decode cX4_newGame 38 = .ok (.dup, 1) := by decide +kernel
theorem dX4_newGame_39 : decode cX4_newGame 39 = .ok (.iload_n 1, 1) := by decide +kernel
theorem dX4_newGame_40 : decode cX4_newGame 40 = .ok (.iload 4, 2) := by decide +kernel
theorem dX4_newGame_42 : decode cX4_newGame 42 = .ok (.invokespecial 132, 3) := by decide +kernel
theorem dX4_newGame_45 : decode cX4_newGame 45 = .ok (.areturn, 1) := by decide +kernel
theorem dX4_mostStake_0 : decode cX4_mostStake 0 = .ok (.iload_n 1, 1) := by decide +kernel
theorem dX4_mostStake_1 : decode cX4_mostStake 1 = .ok (.aload_n 0, 1) := by decide +kernel
theorem dX4_mostStake_2 : decode cX4_mostStake 2 = .ok (.getfield 134, 3) := by decide +kernel
theorem dX4_mostStake_5 : decode cX4_mostStake 5 = .ok (.invokestatic 137, 3) := by decide +kernel
theorem dX4_mostStake_8 : decode cX4_mostStake 8 = .ok (.ireturn, 1) := by decide +kernel
theorem dX4_raised_0 : decode cX4_raised 0 = .ok (.aload_n 0, 1) := by decide +kernel
theorem dX4_raised_1 : decode cX4_raised 1 = .ok (.getfield 42, 3) := by decide +kernel
theorem dX4_raised_4 : decode cX4_raised 4 = .ok (.iload_n 2, 1) := by decide +kernel
theorem dX4_raised_5 : decode cX4_raised 5 = .ok (.aload_n 1, 1) := by decide +kernel
theorem dX4_raised_6 : decode cX4_raised 6 = .ok (.getfield 143, 3) := by decide +kernel
theorem dX4_raised_9 : decode cX4_raised 9 = .ok (.iload_n 3, 1) := by decide +kernel
theorem dX4_raised_10 : decode cX4_raised 10 = .ok (.iaload, 1) := by decide +kernel
theorem dX4_raised_11 : decode cX4_raised 11 = .ok (.iadd, 1) := by decide +kernel
theorem dX4_raised_12 : decode cX4_raised 12 = .ok (.invokestatic 137, 3) := by decide +kernel
theorem dX4_raised_15 : decode cX4_raised 15 = .ok (.ireturn, 1) := by decide +kernel
theorem dX4_mixed_0 : decode cX4_mixed 0 = .ok (.aload_n 0, 1) := by decide +kernel
theorem dX4_mixed_1 : decode cX4_mixed 1 = .ok (.getfield 146, 3) := by decide +kernel
theorem dX4_mixed_4 : decode cX4_mixed 4 = .ok (.i2l, 1) := by decide +kernel
theorem dX4_mixed_5 : decode cX4_mixed 5 = .ok (.lload_n 1, 1) := by decide +kernel
theorem dX4_mixed_6 : decode cX4_mixed 6 = .ok (.lmul, 1) := by decide +kernel
theorem dX4_mixed_7 : decode cX4_mixed 7 = .ok (.bipush 16, 2) := by decide +kernel
theorem dX4_mixed_9 : decode cX4_mixed 9 = .ok (.aload_n 0, 1) := by decide +kernel
theorem dX4_mixed_10 : decode cX4_mixed 10 = .ok (.getfield 146, 3) := by decide +kernel
theorem dX4_mixed_13 : decode cX4_mixed 13 = .ok (.isub, 1) := by decide +kernel
theorem dX4_mixed_14 : decode cX4_mixed 14 = .ok (.i2l, 1) := by decide +kernel
theorem dX4_mixed_15 : decode cX4_mixed 15 = .ok (.lload_n 3, 1) := by decide +kernel
theorem dX4_mixed_16 : decode cX4_mixed 16 = .ok (.lmul, 1) := by decide +kernel
theorem dX4_mixed_17 : decode cX4_mixed 17 = .ok (.ladd, 1) := by decide +kernel
theorem dX4_mixed_18 : decode cX4_mixed 18 = .ok (.lreturn, 1) := by decide +kernel
theorem dX4_endWorth_0 : decode cX4_endWorth 0 = .ok (.iload_n 1, 1) := by decide +kernel
theorem dX4_endWorth_1 : decode cX4_endWorth 1 = .ok (.tableswitch 54 0 2 #[27, 41, 51], 27) := by decide +kernel
theorem dX4_endWorth_28 : decode cX4_endWorth 28 = .ok (.iload_n 2, 1) := by decide +kernel
theorem dX4_endWorth_29 : decode cX4_endWorth 29 = .ok (.aload_n 0, 1) := by decide +kernel
theorem dX4_endWorth_30 : decode cX4_endWorth 30 = .ok (.getfield 42, 3) := by decide +kernel
theorem dX4_endWorth_33 : decode cX4_endWorth 33 = .ok (.if_icmp .ne 7, 3) := by decide +kernel
theorem dX4_endWorth_36 : decode cX4_endWorth 36 = .ok (.lconst 1, 1) := by decide +kernel
theorem dX4_endWorth_37 : decode cX4_endWorth 37 = .ok (.goto 4, 3) := by decide +kernel
theorem dX4_endWorth_40 : decode cX4_endWorth 40 = .ok (.lconst 0, 1) := by decide +kernel
theorem dX4_endWorth_41 : decode cX4_endWorth 41 = .ok (.lreturn, 1) := by decide +kernel
theorem dX4_endWorth_42 : decode cX4_endWorth 42 = .ok (.iload_n 2, 1) := by decide +kernel
theorem dX4_endWorth_43 : decode cX4_endWorth 43 = .ok (.ifCond .ne 7, 3) := by decide +kernel
theorem dX4_endWorth_46 : decode cX4_endWorth 46 = .ok (.lconst 1, 1) := by decide +kernel
theorem dX4_endWorth_47 : decode cX4_endWorth 47 = .ok (.goto 4, 3) := by decide +kernel
theorem dX4_endWorth_50 : decode cX4_endWorth 50 = .ok (.lconst 0, 1) := by decide +kernel
theorem dX4_endWorth_51 : decode cX4_endWorth 51 = .ok (.lreturn, 1) := by decide +kernel
theorem dX4_endWorth_52 : decode cX4_endWorth 52 = .ok (.iload_n 2, 1) := by decide +kernel
theorem dX4_endWorth_53 : decode cX4_endWorth 53 = .ok (.i2l, 1) := by decide +kernel
theorem dX4_endWorth_54 : decode cX4_endWorth 54 = .ok (.lreturn, 1) := by decide +kernel
theorem dX4_endWorth_55 : decode cX4_endWorth 55 = .ok (.lconst 0, 1) := by decide +kernel
theorem dX4_endWorth_56 : decode cX4_endWorth 56 = .ok (.lreturn, 1) := by decide +kernel
set_option maxRecDepth 20000 in
theorem ggX4_greatestFrom_X4_isSpot : GoodIn wsX4_greatestFrom wsX4_isSpot := goodIn_r _ [8, 9, 10, 11, 12, 7, 13, 65, 66, 67, 68, 69, 70, 71, 72, 73, 74, 75] (by decide +kernel) (by decide +kernel)
set_option maxRecDepth 20000 in
theorem gX4_greatestFrom_X4_isSpot : GoodIn wsX4_greatestFrom (wsV RX4 89 RX4 yX4_isSpot wsX4_isSpot) := goodIn_app (goodIn_of _ (by decide +kernel)) ggX4_greatestFrom_X4_isSpot
set_option maxRecDepth 20000 in
theorem ggX4_greatestFrom_X0_cover : GoodIn wsX4_greatestFrom wsX0_cover := goodIn_r _ [18, 19, 20, 21, 76, 77, 78, 79, 80] (by decide +kernel) (by decide +kernel)
set_option maxRecDepth 20000 in
theorem gX4_greatestFrom_X0_cover : GoodIn wsX4_greatestFrom (wsV RX4 99 RX0 yX0_cover wsX0_cover) := goodIn_app (goodIn_of _ (by decide +kernel)) ggX4_greatestFrom_X0_cover
set_option maxRecDepth 20000 in
theorem ggX4_greatestFrom_X4_chartRow : GoodIn wsX4_greatestFrom wsX4_chartRow := goodIn_r _ [25, 9, 26, 27, 28, 7, 29, 30, 31, 32, 33, 34, 35, 36, 37, 38, 39, 40, 41, 42, 11, 12, 13, 43, 44, 45, 46, 2, 47, 48, 49, 50, 51, 52, 53, 54, 55, 56, 57, 58, 59, 60, 61, 62, 63, 64, 76, 77, 78, 79, 80, 65, 66, 67, 68, 69, 70, 71, 72, 73, 74, 75, 81, 82, 83, 84, 85, 86, 87, 88, 89, 90, 91, 92] (by decide +kernel) (by decide +kernel)
set_option maxRecDepth 20000 in
theorem gX4_greatestFrom_X4_chartRow : GoodIn wsX4_greatestFrom (wsV RX4 103 RX4 yX4_chartRow wsX4_chartRow) := goodIn_app (goodIn_of _ (by decide +kernel)) ggX4_greatestFrom_X4_chartRow
theorem dX4_greatestFrom_0 : decode cX4_greatestFrom 0 = .ok (.aload_n 0, 1) := by decide +kernel
theorem dX4_greatestFrom_1 : decode cX4_greatestFrom 1 = .ok (.iload_n 2, 1) := by decide +kernel
theorem dX4_greatestFrom_2 : decode cX4_greatestFrom 2 = .ok (.iload_n 3, 1) := by decide +kernel
theorem dX4_greatestFrom_3 : decode cX4_greatestFrom 3 = .ok (.invokevirtual 89, 3) := by decide +kernel
theorem dX4_greatestFrom_6 : decode cX4_greatestFrom 6 = .ok (.ifCond .ne 7, 3) := by decide +kernel
theorem dX4_greatestFrom_9 : decode cX4_greatestFrom 9 = .ok (.ldc2_w 93, 3) := by decide +kernel
theorem dX4_greatestFrom_12 : decode cX4_greatestFrom 12 = .ok (.lreturn, 1) := by decide +kernel
theorem dX4_greatestFrom_13 : decode cX4_greatestFrom 13 = .ok (.aload_n 0, 1) := by decide +kernel
theorem dX4_greatestFrom_14 : decode cX4_greatestFrom 14 = .ok (.getfield 49, 3) := by decide +kernel
theorem dX4_greatestFrom_17 : decode cX4_greatestFrom 17 = .ok (.iconst 1, 1) := by decide +kernel
theorem dX4_greatestFrom_18 : decode cX4_greatestFrom 18 = .ok (.if_icmp .ge 7, 3) := by decide +kernel
theorem dX4_greatestFrom_21 : decode cX4_greatestFrom 21 = .ok (.ldc2_w 149, 3) := by decide +kernel
theorem dX4_greatestFrom_24 : decode cX4_greatestFrom 24 = .ok (.lreturn, 1) := by decide +kernel
theorem dX4_greatestFrom_25 : decode cX4_greatestFrom 25 = .ok (.aload_n 1, 1) := by decide +kernel
theorem dX4_greatestFrom_26 : decode cX4_greatestFrom 26 = .ok (.iconst 0, 1) := by decide +kernel
theorem dX4_greatestFrom_27 : decode cX4_greatestFrom 27 = .ok (.aload_n 0, 1) := by decide +kernel
theorem dX4_greatestFrom_28 : decode cX4_greatestFrom 28 = .ok (.getfield 49, 3) := by decide +kernel
theorem dX4_greatestFrom_31 : decode cX4_greatestFrom 31 = .ok (.invokevirtual 99, 3) := by decide +kernel
theorem dX4_greatestFrom_34 : decode cX4_greatestFrom 34 = .ok (.aload_n 0, 1) := by decide +kernel
theorem dX4_greatestFrom_35 : decode cX4_greatestFrom 35 = .ok (.aload_n 1, 1) := by decide +kernel
theorem dX4_greatestFrom_36 : decode cX4_greatestFrom 36 = .ok (.iload_n 3, 1) := by decide +kernel
theorem dX4_greatestFrom_37 : decode cX4_greatestFrom 37 = .ok (.invokevirtual 103, 3) := by decide +kernel
theorem dX4_greatestFrom_40 : decode cX4_greatestFrom 40 = .ok (.iload_n 2, 1) := by decide +kernel
theorem dX4_greatestFrom_41 : decode cX4_greatestFrom 41 = .ok (.laload, 1) := by decide +kernel
theorem dX4_greatestFrom_42 : decode cX4_greatestFrom 42 = .ok (.lreturn, 1) := by decide +kernel
set_option maxRecDepth 20000 in
theorem ggX4_chartRow_X4_endWorth : GoodIn wsX4_chartRow wsX4_endWorth := goodIn_r _ [6, 1, 51, 52, 53, 54, 55, 56, 57, 58, 59, 60, 61] (by decide +kernel) (by decide +kernel)
set_option maxRecDepth 20000 in
theorem gX4_chartRow_X4_endWorth : GoodIn wsX4_chartRow (wsV RX4 160 RX4 yX4_endWorth wsX4_endWorth) := goodIn_app (goodIn_of _ (by decide +kernel)) ggX4_chartRow_X4_endWorth
set_option maxRecDepth 20000 in
theorem ggX4_chartRow_X4_greatestTurn : GoodIn wsX4_chartRow wsX4_greatestTurn := goodIn_r _ [10, 11, 12, 13, 14, 15, 16, 17, 18, 5, 19, 1, 20, 21, 22, 23, 24, 25, 26, 27, 28, 29, 30, 31, 32, 33, 34, 35, 36, 37, 38, 39, 40, 41, 42, 43, 44, 45, 46, 47, 48, 49, 50, 51, 52, 53, 54, 55, 56, 57, 58, 59, 60, 61, 62, 63, 64, 65, 66, 67, 68, 69, 70, 71, 72, 73] (by decide +kernel) (by decide +kernel)
set_option maxRecDepth 20000 in
theorem gX4_chartRow_X4_greatestTurn : GoodIn wsX4_chartRow (wsV RX4 164 RX4 yX4_greatestTurn wsX4_greatestTurn) := goodIn_app (goodIn_of _ (by decide +kernel)) ggX4_chartRow_X4_greatestTurn
theorem dX4_chartRow_0 : decode cX4_chartRow 0 = .ok (.aload_n 1, 1) := by decide +kernel
theorem dX4_chartRow_1 : decode cX4_chartRow 1 = .ok (.getfield 151, 3) := by decide +kernel
theorem dX4_chartRow_4 : decode cX4_chartRow 4 = .ok (.istore_n 3, 1) := by decide +kernel
theorem dX4_chartRow_5 : decode cX4_chartRow 5 = .ok (.iload_n 3, 1) := by decide +kernel
theorem dX4_chartRow_6 : decode cX4_chartRow 6 = .ok (.iload_n 2, 1) := by decide +kernel
theorem dX4_chartRow_7 : decode cX4_chartRow 7 = .ok (.if_icmp .gt 76, 3) := by decide +kernel
theorem dX4_chartRow_10 : decode cX4_chartRow 10 = .ok (.iconst 0, 1) := by decide +kernel
theorem dX4_chartRow_11 : decode cX4_chartRow 11 = .ok (.istore 4, 2) := by decide +kernel
theorem dX4_chartRow_13 : decode cX4_chartRow 13 = .ok (.iload 4, 2) := by decide +kernel
theorem dX4_chartRow_15 : decode cX4_chartRow 15 = .ok (.aload_n 0, 1) := by decide +kernel
theorem dX4_chartRow_16 : decode cX4_chartRow 16 = .ok (.getfield 42, 3) := by decide +kernel
theorem dX4_chartRow_19 : decode cX4_chartRow 19 = .ok (.if_icmp .gt 51, 3) := by decide +kernel
theorem dX4_chartRow_22 : decode cX4_chartRow 22 = .ok (.aload_n 1, 1) := by decide +kernel
theorem dX4_chartRow_23 : decode cX4_chartRow 23 = .ok (.getfield 154, 3) := by decide +kernel
theorem dX4_chartRow_26 : decode cX4_chartRow 26 = .ok (.iload_n 3, 1) := by decide +kernel
theorem dX4_chartRow_27 : decode cX4_chartRow 27 = .ok (.aaload, 1) := by decide +kernel
theorem dX4_chartRow_28 : decode cX4_chartRow 28 = .ok (.iload 4, 2) := by decide +kernel
theorem dX4_chartRow_30 : decode cX4_chartRow 30 = .ok (.iload_n 3, 1) := by decide +kernel
theorem dX4_chartRow_31 : decode cX4_chartRow 31 = .ok (.iconst 1, 1) := by decide +kernel
theorem dX4_chartRow_32 : decode cX4_chartRow 32 = .ok (.if_icmp .ge 16, 3) := by decide +kernel
theorem dX4_chartRow_35 : decode cX4_chartRow 35 = .ok (.aload_n 0, 1) := by decide +kernel
theorem dX4_chartRow_36 : decode cX4_chartRow 36 = .ok (.aload_n 1, 1) := by decide +kernel
theorem dX4_chartRow_37 : decode cX4_chartRow 37 = .ok (.getfield 157, 3) := by decide +kernel
theorem dX4_chartRow_40 : decode cX4_chartRow 40 = .ok (.iload 4, 2) := by decide +kernel
theorem dX4_chartRow_42 : decode cX4_chartRow 42 = .ok (.invokevirtual 160, 3) := by decide +kernel
theorem dX4_chartRow_45 : decode cX4_chartRow 45 = .ok (.goto 18, 3) := by decide +kernel
theorem dX4_chartRow_48 : decode cX4_chartRow 48 = .ok (.aload_n 0, 1) := by decide +kernel
theorem dX4_chartRow_49 : decode cX4_chartRow 49 = .ok (.aload_n 1, 1) := by decide +kernel
theorem dX4_chartRow_50 : decode cX4_chartRow 50 = .ok (.aload_n 1, 1) := by decide +kernel
theorem dX4_chartRow_51 : decode cX4_chartRow 51 = .ok (.getfield 154, 3) := by decide +kernel
theorem dX4_chartRow_54 : decode cX4_chartRow 54 = .ok (.iload_n 3, 1) := by decide +kernel
theorem dX4_chartRow_55 : decode cX4_chartRow 55 = .ok (.iconst 1, 1) := by decide +kernel
theorem dX4_chartRow_56 : decode cX4_chartRow 56 = .ok (.isub, 1) := by decide +kernel
theorem dX4_chartRow_57 : decode cX4_chartRow 57 = .ok (.aaload, 1) := by decide +kernel
theorem dX4_chartRow_58 : decode cX4_chartRow 58 = .ok (.iload 4, 2) := by decide +kernel
theorem dX4_chartRow_60 : decode cX4_chartRow 60 = .ok (.invokevirtual 164, 3) := by decide +kernel
theorem dX4_chartRow_63 : decode cX4_chartRow 63 = .ok (.lastore, 1) := by decide +kernel
theorem dX4_chartRow_64 : decode cX4_chartRow 64 = .ok (.iinc 4 1, 3) := by decide +kernel
theorem dX4_chartRow_67 : decode cX4_chartRow 67 = .ok (.goto (-54), 3) := by decide +kernel
theorem dX4_chartRow_70 : decode cX4_chartRow 70 = .ok (.aload_n 1, 1) := by decide +kernel
theorem dX4_chartRow_71 : decode cX4_chartRow 71 = .ok (.iload_n 3, 1) := by decide +kernel
theorem dX4_chartRow_72 : decode cX4_chartRow 72 = .ok (.iconst 1, 1) := by decide +kernel
theorem dX4_chartRow_73 : decode cX4_chartRow 73 = .ok (.iadd, 1) := by decide +kernel
theorem dX4_chartRow_74 : decode cX4_chartRow 74 = .ok (.putfield 151, 3) := by decide +kernel
theorem dX4_chartRow_77 : decode cX4_chartRow 77 = .ok (.iinc 3 1, 3) := by decide +kernel
theorem dX4_chartRow_80 : decode cX4_chartRow 80 = .ok (.goto (-75), 3) := by decide +kernel
theorem dX4_chartRow_83 : decode cX4_chartRow 83 = .ok (.aload_n 1, 1) := by decide +kernel
theorem dX4_chartRow_84 : decode cX4_chartRow 84 = .ok (.getfield 154, 3) := by decide +kernel
theorem dX4_chartRow_87 : decode cX4_chartRow 87 = .ok (.iload_n 2, 1) := by decide +kernel
theorem dX4_chartRow_88 : decode cX4_chartRow 88 = .ok (.aaload, 1) := by decide +kernel
theorem dX4_chartRow_89 : decode cX4_chartRow 89 = .ok (.areturn, 1) := by decide +kernel
set_option maxRecDepth 20000 in
theorem ggX4_greatestTurn_X4_isPlayed : GoodIn wsX4_greatestTurn wsX4_isPlayed := goodIn_r _ [10, 11, 12, 13, 9, 14, 43, 44, 45, 46, 47, 48, 49, 50, 51, 52, 53] (by decide +kernel) (by decide +kernel)
set_option maxRecDepth 20000 in
theorem gX4_greatestTurn_X4_isPlayed : GoodIn wsX4_greatestTurn (wsV RX4 95 RX4 yX4_isPlayed wsX4_isPlayed) := goodIn_app (goodIn_of _ (by decide +kernel)) ggX4_greatestTurn_X4_isPlayed
set_option maxRecDepth 20000 in
theorem ggX4_greatestTurn_X4_gameAt : GoodIn wsX4_greatestTurn wsX4_gameAt := goodIn_r _ [18, 19, 20, 12, 13, 9, 14, 43, 44, 45, 46, 47, 48, 49, 50, 51, 52, 53] (by decide +kernel) (by decide +kernel)
set_option maxRecDepth 20000 in
theorem gX4_greatestTurn_X4_gameAt : GoodIn wsX4_greatestTurn (wsV RX4 74 RX4 yX4_gameAt wsX4_gameAt) := goodIn_app (goodIn_of _ (by decide +kernel)) ggX4_greatestTurn_X4_gameAt
set_option maxRecDepth 20000 in
theorem ggX4_greatestTurn_X4_greatestStake : GoodIn wsX4_greatestTurn wsX4_greatestStake := goodIn_r _ [24, 2, 3, 4, 5, 25, 26, 9, 27, 28, 29, 30, 31, 32, 33, 34, 11, 35, 36, 37, 54, 55, 56, 57, 58, 59, 60, 61, 62, 63, 64, 65, 43, 44, 45, 46, 47, 48, 49, 50, 51, 52, 53] (by decide +kernel) (by decide +kernel)
set_option maxRecDepth 20000 in
theorem gX4_greatestTurn_X4_greatestStake : GoodIn wsX4_greatestTurn (wsV RX4 176 RX4 yX4_greatestStake wsX4_greatestStake) := goodIn_app (goodIn_of _ (by decide +kernel)) ggX4_greatestTurn_X4_greatestStake
theorem dX4_greatestTurn_0 : decode cX4_greatestTurn 0 = .ok (.ldc2_w 168, 3) := by decide +kernel
theorem dX4_greatestTurn_3 : decode cX4_greatestTurn 3 = .ok (.aload_n 2, 1) := by decide +kernel
theorem dX4_greatestTurn_4 : decode cX4_greatestTurn 4 = .ok (.iload_n 3, 1) := by decide +kernel
theorem dX4_greatestTurn_5 : decode cX4_greatestTurn 5 = .ok (.laload, 1) := by decide +kernel
theorem dX4_greatestTurn_6 : decode cX4_greatestTurn 6 = .ok (.lmul, 1) := by decide +kernel
theorem dX4_greatestTurn_7 : decode cX4_greatestTurn 7 = .ok (.lstore 4, 2) := by decide +kernel
theorem dX4_greatestTurn_9 : decode cX4_greatestTurn 9 = .ok (.aload_n 0, 1) := by decide +kernel
theorem dX4_greatestTurn_10 : decode cX4_greatestTurn 10 = .ok (.iload_n 3, 1) := by decide +kernel
theorem dX4_greatestTurn_11 : decode cX4_greatestTurn 11 = .ok (.invokevirtual 95, 3) := by decide +kernel
theorem dX4_greatestTurn_14 : decode cX4_greatestTurn 14 = .ok (.ifCond .ne 6, 3) := by decide +kernel
theorem dX4_greatestTurn_17 : decode cX4_greatestTurn 17 = .ok (.lload 4, 2) := by decide +kernel
theorem dX4_greatestTurn_19 : decode cX4_greatestTurn 19 = .ok (.lreturn, 1) := by decide +kernel
theorem dX4_greatestTurn_20 : decode cX4_greatestTurn 20 = .ok (.aload_n 1, 1) := by decide +kernel
theorem dX4_greatestTurn_21 : decode cX4_greatestTurn 21 = .ok (.getfield 170, 3) := by decide +kernel
theorem dX4_greatestTurn_24 : decode cX4_greatestTurn 24 = .ok (.istore 6, 2) := by decide +kernel
theorem dX4_greatestTurn_26 : decode cX4_greatestTurn 26 = .ok (.iload 6, 2) := by decide +kernel
theorem dX4_greatestTurn_28 : decode cX4_greatestTurn 28 = .ok (.aload_n 1, 1) := by decide +kernel
theorem dX4_greatestTurn_29 : decode cX4_greatestTurn 29 = .ok (.getfield 173, 3) := by decide +kernel
theorem dX4_greatestTurn_32 : decode cX4_greatestTurn 32 = .ok (.if_icmp .ge 37, 3) := by decide +kernel
theorem dX4_greatestTurn_35 : decode cX4_greatestTurn 35 = .ok (.aload_n 0, 1) := by decide +kernel
theorem dX4_greatestTurn_36 : decode cX4_greatestTurn 36 = .ok (.iload 6, 2) := by decide +kernel
theorem dX4_greatestTurn_38 : decode cX4_greatestTurn 38 = .ok (.invokevirtual 74, 3) := by decide +kernel
theorem dX4_greatestTurn_41 : decode cX4_greatestTurn 41 = .ok (.astore 7, 2) := by decide +kernel
theorem dX4_greatestTurn_43 : decode cX4_greatestTurn 43 = .ok (.aload 7, 2) := by decide +kernel
theorem dX4_greatestTurn_45 : decode cX4_greatestTurn 45 = .ok (.ifnull 18, 3) := by decide +kernel
theorem dX4_greatestTurn_48 : decode cX4_greatestTurn 48 = .ok (.lload 4, 2) := by decide +kernel
theorem dX4_greatestTurn_50 : decode cX4_greatestTurn 50 = .ok (.aload_n 0, 1) := by decide +kernel
theorem dX4_greatestTurn_51 : decode cX4_greatestTurn 51 = .ok (.aload 7, 2) := by decide +kernel
theorem dX4_greatestTurn_53 : decode cX4_greatestTurn 53 = .ok (.aload_n 2, 1) := by decide +kernel
theorem dX4_greatestTurn_54 : decode cX4_greatestTurn 54 = .ok (.iload_n 3, 1) := by decide +kernel
theorem dX4_greatestTurn_55 : decode cX4_greatestTurn 55 = .ok (.invokevirtual 176, 3) := by decide +kernel
theorem dX4_greatestTurn_58 : decode cX4_greatestTurn 58 = .ok (.invokestatic 180, 3) := by decide +kernel
theorem dX4_greatestTurn_61 : decode cX4_greatestTurn 61 = .ok (.lstore 4, 2) := by decide +kernel
theorem dX4_greatestTurn_63 : decode cX4_greatestTurn 63 = .ok (.iinc 6 1, 3) := by decide +kernel
theorem dX4_greatestTurn_66 : decode cX4_greatestTurn 66 = .ok (.goto (-40), 3) := by decide +kernel
theorem dX4_greatestTurn_69 : decode cX4_greatestTurn 69 = .ok (.lload 4, 2) := by decide +kernel
theorem dX4_greatestTurn_71 : decode cX4_greatestTurn 71 = .ok (.lreturn, 1) := by decide +kernel
set_option maxRecDepth 20000 in
theorem ggX4_greatestStake_X4_mostStake : GoodIn wsX4_greatestStake wsX4_mostStake := goodIn_r _ [8, 9, 10, 3, 11, 20, 21, 22, 23, 24, 25, 26, 27, 28, 29, 30, 31] (by decide +kernel) (by decide +kernel)
set_option maxRecDepth 20000 in
theorem gX4_greatestStake_X4_mostStake : GoodIn wsX4_greatestStake (va_wsS RX4 184 yX4_mostStake wsX4_mostStake) := goodIn_app (goodIn_of _ (by decide +kernel)) ggX4_greatestStake_X4_mostStake
set_option maxRecDepth 20000 in
theorem ggX4_greatestStake_X4_raised : GoodIn wsX4_greatestStake wsX4_raised := goodIn_r _ [15, 16, 9, 10, 3, 11, 32, 33, 34, 35, 36, 37, 38, 39, 40, 41, 42, 20, 21, 22, 23, 24, 25, 26, 27, 28, 29, 30, 31] (by decide +kernel) (by decide +kernel)
set_option maxRecDepth 20000 in
theorem gX4_greatestStake_X4_raised : GoodIn wsX4_greatestStake (wsV RX4 188 RX4 yX4_raised wsX4_raised) := goodIn_app (goodIn_of _ (by decide +kernel)) ggX4_greatestStake_X4_raised
set_option maxRecDepth 20000 in
theorem ggX4_greatestStake_X4_mixed : GoodIn wsX4_greatestStake wsX4_mixed := goodIn_r _ [19, 20, 21, 22, 23, 24, 25, 26, 27, 28, 29, 30, 31] (by decide +kernel) (by decide +kernel)
set_option maxRecDepth 20000 in
theorem gX4_greatestStake_X4_mixed : GoodIn wsX4_greatestStake (va_wsS RX4 192 yX4_mixed wsX4_mixed) := goodIn_app (goodIn_of _ (by decide +kernel)) ggX4_greatestStake_X4_mixed
theorem dX4_greatestStake_0 : decode cX4_greatestStake 0 = .ok (.aload_n 1, 1) := by decide +kernel
theorem dX4_greatestStake_1 : decode cX4_greatestStake 1 = .ok (.iload_n 3, 1) := by decide +kernel
theorem dX4_greatestStake_2 : decode cX4_greatestStake 2 = .ok (.invokestatic 184, 3) := by decide +kernel
theorem dX4_greatestStake_5 : decode cX4_greatestStake 5 = .ok (.istore 4, 2) := by decide +kernel
theorem dX4_greatestStake_7 : decode cX4_greatestStake 7 = .ok (.lconst 0, 1) := by decide +kernel
theorem dX4_greatestStake_8 : decode cX4_greatestStake 8 = .ok (.lstore 5, 2) := by decide +kernel
theorem dX4_greatestStake_10 : decode cX4_greatestStake 10 = .ok (.iconst 1, 1) := by decide +kernel
theorem dX4_greatestStake_11 : decode cX4_greatestStake 11 = .ok (.istore 7, 2) := by decide +kernel
theorem dX4_greatestStake_13 : decode cX4_greatestStake 13 = .ok (.iload 7, 2) := by decide +kernel
theorem dX4_greatestStake_15 : decode cX4_greatestStake 15 = .ok (.iload 4, 2) := by decide +kernel
theorem dX4_greatestStake_17 : decode cX4_greatestStake 17 = .ok (.if_icmp .gt 36, 3) := by decide +kernel
theorem dX4_greatestStake_20 : decode cX4_greatestStake 20 = .ok (.lload 5, 2) := by decide +kernel
theorem dX4_greatestStake_22 : decode cX4_greatestStake 22 = .ok (.aload_n 1, 1) := by decide +kernel
theorem dX4_greatestStake_23 : decode cX4_greatestStake 23 = .ok (.aload_n 2, 1) := by decide +kernel
theorem dX4_greatestStake_24 : decode cX4_greatestStake 24 = .ok (.aload_n 0, 1) := by decide +kernel
theorem dX4_greatestStake_25 : decode cX4_greatestStake 25 = .ok (.aload_n 1, 1) := by decide +kernel
theorem dX4_greatestStake_26 : decode cX4_greatestStake 26 = .ok (.iload_n 3, 1) := by decide +kernel
theorem dX4_greatestStake_27 : decode cX4_greatestStake 27 = .ok (.iload 7, 2) := by decide +kernel
theorem dX4_greatestStake_29 : decode cX4_greatestStake 29 = .ok (.invokevirtual 188, 3) := by decide +kernel
theorem dX4_greatestStake_32 : decode cX4_greatestStake 32 = .ok (.laload, 1) := by decide +kernel
theorem dX4_greatestStake_33 : decode cX4_greatestStake 33 = .ok (.aload_n 2, 1) := by decide +kernel
theorem dX4_greatestStake_34 : decode cX4_greatestStake 34 = .ok (.iload_n 3, 1) := by decide +kernel
theorem dX4_greatestStake_35 : decode cX4_greatestStake 35 = .ok (.iload 7, 2) := by decide +kernel
theorem dX4_greatestStake_37 : decode cX4_greatestStake 37 = .ok (.isub, 1) := by decide +kernel
theorem dX4_greatestStake_38 : decode cX4_greatestStake 38 = .ok (.laload, 1) := by decide +kernel
theorem dX4_greatestStake_39 : decode cX4_greatestStake 39 = .ok (.invokestatic 192, 3) := by decide +kernel
theorem dX4_greatestStake_42 : decode cX4_greatestStake 42 = .ok (.invokestatic 180, 3) := by decide +kernel
theorem dX4_greatestStake_45 : decode cX4_greatestStake 45 = .ok (.lstore 5, 2) := by decide +kernel
theorem dX4_greatestStake_47 : decode cX4_greatestStake 47 = .ok (.iinc 7 1, 3) := by decide +kernel
theorem dX4_greatestStake_50 : decode cX4_greatestStake 50 = .ok (.goto (-37), 3) := by decide +kernel
theorem dX4_greatestStake_53 : decode cX4_greatestStake 53 = .ok (.lload 5, 2) := by decide +kernel
theorem dX4_greatestStake_55 : decode cX4_greatestStake 55 = .ok (.lreturn, 1) := by decide +kernel
set_option maxRecDepth 20000 in
theorem ggX4_bestStakes_X4_mostStake : GoodIn wsX4_bestStakes wsX4_mostStake := goodIn_r _ [5, 6, 7, 8, 9, 18, 19, 20, 21, 22, 23, 24, 25, 26, 27, 28, 29] (by decide +kernel) (by decide +kernel)
set_option maxRecDepth 20000 in
theorem gX4_bestStakes_X4_mostStake : GoodIn wsX4_bestStakes (va_wsS RX4 184 yX4_mostStake wsX4_mostStake) := goodIn_app (goodIn_of _ (by decide +kernel)) ggX4_bestStakes_X4_mostStake
set_option maxRecDepth 20000 in
theorem ggX4_bestStakes_X4_raised : GoodIn wsX4_bestStakes wsX4_raised := goodIn_r _ [13, 14, 6, 7, 8, 9, 30, 31, 32, 33, 34, 35, 36, 37, 38, 39, 40, 18, 19, 20, 21, 22, 23, 24, 25, 26, 27, 28, 29] (by decide +kernel) (by decide +kernel)
set_option maxRecDepth 20000 in
theorem gX4_bestStakes_X4_raised : GoodIn wsX4_bestStakes (wsV RX4 188 RX4 yX4_raised wsX4_raised) := goodIn_app (goodIn_of _ (by decide +kernel)) ggX4_bestStakes_X4_raised
set_option maxRecDepth 20000 in
theorem ggX4_bestStakes_X4_mixed : GoodIn wsX4_bestStakes wsX4_mixed := goodIn_r _ [17, 18, 19, 20, 21, 22, 23, 24, 25, 26, 27, 28, 29] (by decide +kernel) (by decide +kernel)
set_option maxRecDepth 20000 in
theorem gX4_bestStakes_X4_mixed : GoodIn wsX4_bestStakes (va_wsS RX4 192 yX4_mixed wsX4_mixed) := goodIn_app (goodIn_of _ (by decide +kernel)) ggX4_bestStakes_X4_mixed
theorem dX4_bestStakes_0 : decode cX4_bestStakes 0 = .ok (.ldc2_w 168, 3) := by decide +kernel
theorem dX4_bestStakes_3 : decode cX4_bestStakes 3 = .ok (.aload 5, 2) := by decide +kernel
theorem dX4_bestStakes_5 : decode cX4_bestStakes 5 = .ok (.iload_n 2, 1) := by decide +kernel
theorem dX4_bestStakes_6 : decode cX4_bestStakes 6 = .ok (.laload, 1) := by decide +kernel
theorem dX4_bestStakes_7 : decode cX4_bestStakes 7 = .ok (.lmul, 1) := by decide +kernel
theorem dX4_bestStakes_8 : decode cX4_bestStakes 8 = .ok (.lload_n 3, 1) := by decide +kernel
theorem dX4_bestStakes_9 : decode cX4_bestStakes 9 = .ok (.lcmp, 1) := by decide +kernel
theorem dX4_bestStakes_10 : decode cX4_bestStakes 10 = .ok (.ifCond .ne 7, 3) := by decide +kernel
theorem dX4_bestStakes_13 : decode cX4_bestStakes 13 = .ok (.lconst 1, 1) := by decide +kernel
theorem dX4_bestStakes_14 : decode cX4_bestStakes 14 = .ok (.goto 4, 3) := by decide +kernel
theorem dX4_bestStakes_17 : decode cX4_bestStakes 17 = .ok (.lconst 0, 1) := by decide +kernel
theorem dX4_bestStakes_18 : decode cX4_bestStakes 18 = .ok (.lstore 6, 2) := by decide +kernel
theorem dX4_bestStakes_20 : decode cX4_bestStakes 20 = .ok (.aload_n 1, 1) := by decide +kernel
theorem dX4_bestStakes_21 : decode cX4_bestStakes 21 = .ok (.iload_n 2, 1) := by decide +kernel
theorem dX4_bestStakes_22 : decode cX4_bestStakes 22 = .ok (.invokestatic 184, 3) := by decide +kernel
theorem dX4_bestStakes_25 : decode cX4_bestStakes 25 = .ok (.istore 8, 2) := by decide +kernel
theorem dX4_bestStakes_27 : decode cX4_bestStakes 27 = .ok (.iconst 1, 1) := by decide +kernel
theorem dX4_bestStakes_28 : decode cX4_bestStakes 28 = .ok (.istore 9, 2) := by decide +kernel
theorem dX4_bestStakes_30 : decode cX4_bestStakes 30 = .ok (.iload 9, 2) := by decide +kernel
theorem dX4_bestStakes_32 : decode cX4_bestStakes 32 = .ok (.iload 8, 2) := by decide +kernel
theorem dX4_bestStakes_34 : decode cX4_bestStakes 34 = .ok (.if_icmp .gt 45, 3) := by decide +kernel
theorem dX4_bestStakes_37 : decode cX4_bestStakes 37 = .ok (.aload_n 1, 1) := by decide +kernel
theorem dX4_bestStakes_38 : decode cX4_bestStakes 38 = .ok (.aload 5, 2) := by decide +kernel
theorem dX4_bestStakes_40 : decode cX4_bestStakes 40 = .ok (.aload_n 0, 1) := by decide +kernel
theorem dX4_bestStakes_41 : decode cX4_bestStakes 41 = .ok (.aload_n 1, 1) := by decide +kernel
theorem dX4_bestStakes_42 : decode cX4_bestStakes 42 = .ok (.iload_n 2, 1) := by decide +kernel
theorem dX4_bestStakes_43 : decode cX4_bestStakes 43 = .ok (.iload 9, 2) := by decide +kernel
theorem dX4_bestStakes_45 : decode cX4_bestStakes 45 = .ok (.invokevirtual 188, 3) := by decide +kernel
theorem dX4_bestStakes_48 : decode cX4_bestStakes 48 = .ok (.laload, 1) := by decide +kernel
theorem dX4_bestStakes_49 : decode cX4_bestStakes 49 = .ok (.aload 5, 2) := by decide +kernel
theorem dX4_bestStakes_51 : decode cX4_bestStakes 51 = .ok (.iload_n 2, 1) := by decide +kernel
theorem dX4_bestStakes_52 : decode cX4_bestStakes 52 = .ok (.iload 9, 2) := by decide +kernel
theorem dX4_bestStakes_54 : decode cX4_bestStakes 54 = .ok (.isub, 1) := by decide +kernel
theorem dX4_bestStakes_55 : decode cX4_bestStakes 55 = .ok (.laload, 1) := by decide +kernel
theorem dX4_bestStakes_56 : decode cX4_bestStakes 56 = .ok (.invokestatic 192, 3) := by decide +kernel
theorem dX4_bestStakes_59 : decode cX4_bestStakes 59 = .ok (.lload_n 3, 1) := by decide +kernel
theorem dX4_bestStakes_60 : decode cX4_bestStakes 60 = .ok (.lcmp, 1) := by decide +kernel
theorem dX4_bestStakes_61 : decode cX4_bestStakes 61 = .ok (.ifCond .ne 12, 3) := by decide +kernel
theorem dX4_bestStakes_64 : decode cX4_bestStakes 64 = .ok (.lload 6, 2) := by decide +kernel
theorem dX4_bestStakes_66 : decode cX4_bestStakes 66 = .ok (.lconst 1, 1) := by decide +kernel
theorem dX4_bestStakes_67 : decode cX4_bestStakes 67 = .ok (.iload 9, 2) := by decide +kernel
theorem dX4_bestStakes_69 : decode cX4_bestStakes 69 = .ok (.lshl, 1) := by decide +kernel
theorem dX4_bestStakes_70 : decode cX4_bestStakes 70 = .ok (.lor, 1) := by decide +kernel
theorem dX4_bestStakes_71 : decode cX4_bestStakes 71 = .ok (.lstore 6, 2) := by decide +kernel
theorem dX4_bestStakes_73 : decode cX4_bestStakes 73 = .ok (.iinc 9 1, 3) := by decide +kernel
theorem dX4_bestStakes_76 : decode cX4_bestStakes 76 = .ok (.goto (-46), 3) := by decide +kernel
theorem dX4_bestStakes_79 : decode cX4_bestStakes 79 = .ok (.lload 6, 2) := by decide +kernel
theorem dX4_bestStakes_81 : decode cX4_bestStakes 81 = .ok (.lreturn, 1) := by decide +kernel
set_option maxRecDepth 20000 in
theorem ggX4_planned_X4_boldStake : GoodIn wsX4_planned wsX4_boldStake := goodIn_r _ [10, 11, 12, 13, 9, 14, 2, 3, 4, 5, 26, 27, 28, 29, 30, 31, 32, 33, 34, 35, 36, 37, 15, 16, 17, 18, 19, 20, 21, 22, 23, 24, 25] (by decide +kernel) (by decide +kernel)
set_option maxRecDepth 20000 in
theorem gX4_planned_X4_boldStake : GoodIn wsX4_planned (wsV RX4 196 RX4 yX4_boldStake wsX4_boldStake) := goodIn_app (goodIn_of _ (by decide +kernel)) ggX4_planned_X4_boldStake
set_option maxRecDepth 20000 in
theorem ggX4_planned_X4_mostStake : GoodIn wsX4_planned wsX4_mostStake := goodIn_r _ [14, 2, 3, 4, 5, 26, 27, 28, 29, 30, 31, 32, 33, 34, 35, 36, 37] (by decide +kernel) (by decide +kernel)
set_option maxRecDepth 20000 in
theorem gX4_planned_X4_mostStake : GoodIn wsX4_planned (va_wsS RX4 184 yX4_mostStake wsX4_mostStake) := goodIn_app (goodIn_of _ (by decide +kernel)) ggX4_planned_X4_mostStake
theorem dX4_planned_0 : decode cX4_planned 0 = .ok (.iload_n 1, 1) := by decide +kernel
theorem dX4_planned_1 : decode cX4_planned 1 = .ok (.tableswitch 51 0 2 #[27, 34, 36], 27) := by decide +kernel
theorem dX4_planned_28 : decode cX4_planned 28 = .ok (.aload_n 0, 1) := by decide +kernel
theorem dX4_planned_29 : decode cX4_planned 29 = .ok (.aload_n 2, 1) := by decide +kernel
theorem dX4_planned_30 : decode cX4_planned 30 = .ok (.iload_n 3, 1) := by decide +kernel
theorem dX4_planned_31 : decode cX4_planned 31 = .ok (.invokevirtual 196, 3) := by decide +kernel
theorem dX4_planned_34 : decode cX4_planned 34 = .ok (.ireturn, 1) := by decide +kernel
theorem dX4_planned_35 : decode cX4_planned 35 = .ok (.iconst 1, 1) := by decide +kernel
theorem dX4_planned_36 : decode cX4_planned 36 = .ok (.ireturn, 1) := by decide +kernel
theorem dX4_planned_37 : decode cX4_planned 37 = .ok (.aload_n 0, 1) := by decide +kernel
theorem dX4_planned_38 : decode cX4_planned 38 = .ok (.getfield 15, 3) := by decide +kernel
theorem dX4_planned_41 : decode cX4_planned 41 = .ok (.iload_n 3, 1) := by decide +kernel
theorem dX4_planned_42 : decode cX4_planned 42 = .ok (.iaload, 1) := by decide +kernel
theorem dX4_planned_43 : decode cX4_planned 43 = .ok (.aload_n 2, 1) := by decide +kernel
theorem dX4_planned_44 : decode cX4_planned 44 = .ok (.iload_n 3, 1) := by decide +kernel
theorem dX4_planned_45 : decode cX4_planned 45 = .ok (.invokestatic 184, 3) := by decide +kernel
theorem dX4_planned_48 : decode cX4_planned 48 = .ok (.invokestatic 137, 3) := by decide +kernel
theorem dX4_planned_51 : decode cX4_planned 51 = .ok (.ireturn, 1) := by decide +kernel
theorem dX4_planned_52 : decode cX4_planned 52 = .ok (.iconst 1, 1) := by decide +kernel
theorem dX4_planned_53 : decode cX4_planned 53 = .ok (.iload 4, 2) := by decide +kernel
theorem dX4_planned_55 : decode cX4_planned 55 = .ok (.ishl, 1) := by decide +kernel
theorem dX4_planned_56 : decode cX4_planned 56 = .ok (.aload_n 2, 1) := by decide +kernel
theorem dX4_planned_57 : decode cX4_planned 57 = .ok (.iload_n 3, 1) := by decide +kernel
theorem dX4_planned_58 : decode cX4_planned 58 = .ok (.invokestatic 184, 3) := by decide +kernel
theorem dX4_planned_61 : decode cX4_planned 61 = .ok (.invokestatic 137, 3) := by decide +kernel
theorem dX4_planned_64 : decode cX4_planned 64 = .ok (.ireturn, 1) := by decide +kernel
set_option maxRecDepth 20000 in
theorem ggX4_boldStake_X4_mostStake : GoodIn wsX4_boldStake wsX4_mostStake := goodIn_r _ [5, 6, 7, 8, 9, 10, 11, 12, 13, 14, 15, 16, 17, 18, 19, 20, 21] (by decide +kernel) (by decide +kernel)
set_option maxRecDepth 20000 in
theorem gX4_boldStake_X4_mostStake : GoodIn wsX4_boldStake (va_wsS RX4 184 yX4_mostStake wsX4_mostStake) := goodIn_app (goodIn_of _ (by decide +kernel)) ggX4_boldStake_X4_mostStake
theorem dX4_boldStake_0 : decode cX4_boldStake 0 = .ok (.aload_n 1, 1) := by decide +kernel
theorem dX4_boldStake_1 : decode cX4_boldStake 1 = .ok (.iload_n 2, 1) := by decide +kernel
theorem dX4_boldStake_2 : decode cX4_boldStake 2 = .ok (.invokestatic 184, 3) := by decide +kernel
theorem dX4_boldStake_5 : decode cX4_boldStake 5 = .ok (.istore_n 3, 1) := by decide +kernel
theorem dX4_boldStake_6 : decode cX4_boldStake 6 = .ok (.iconst 1, 1) := by decide +kernel
theorem dX4_boldStake_7 : decode cX4_boldStake 7 = .ok (.istore 4, 2) := by decide +kernel
theorem dX4_boldStake_9 : decode cX4_boldStake 9 = .ok (.iload 4, 2) := by decide +kernel
theorem dX4_boldStake_11 : decode cX4_boldStake 11 = .ok (.iload_n 3, 1) := by decide +kernel
theorem dX4_boldStake_12 : decode cX4_boldStake 12 = .ok (.if_icmp .ge 28, 3) := by decide +kernel
theorem dX4_boldStake_15 : decode cX4_boldStake 15 = .ok (.iload_n 2, 1) := by decide +kernel
theorem dX4_boldStake_16 : decode cX4_boldStake 16 = .ok (.aload_n 1, 1) := by decide +kernel
theorem dX4_boldStake_17 : decode cX4_boldStake 17 = .ok (.getfield 143, 3) := by decide +kernel
theorem dX4_boldStake_20 : decode cX4_boldStake 20 = .ok (.iload 4, 2) := by decide +kernel
theorem dX4_boldStake_22 : decode cX4_boldStake 22 = .ok (.iaload, 1) := by decide +kernel
theorem dX4_boldStake_23 : decode cX4_boldStake 23 = .ok (.iadd, 1) := by decide +kernel
theorem dX4_boldStake_24 : decode cX4_boldStake 24 = .ok (.aload_n 0, 1) := by decide +kernel
theorem dX4_boldStake_25 : decode cX4_boldStake 25 = .ok (.getfield 42, 3) := by decide +kernel
theorem dX4_boldStake_28 : decode cX4_boldStake 28 = .ok (.if_icmp .lt 6, 3) := by decide +kernel
theorem dX4_boldStake_31 : decode cX4_boldStake 31 = .ok (.iload 4, 2) := by decide +kernel
theorem dX4_boldStake_33 : decode cX4_boldStake 33 = .ok (.ireturn, 1) := by decide +kernel
theorem dX4_boldStake_34 : decode cX4_boldStake 34 = .ok (.iinc 4 1, 3) := by decide +kernel
theorem dX4_boldStake_37 : decode cX4_boldStake 37 = .ok (.goto (-28), 3) := by decide +kernel
theorem dX4_boldStake_40 : decode cX4_boldStake 40 = .ok (.iload_n 3, 1) := by decide +kernel
theorem dX4_boldStake_41 : decode cX4_boldStake 41 = .ok (.ireturn, 1) := by decide +kernel
set_option maxRecDepth 20000 in
theorem ggX4_planWorth_X4_layRung : GoodIn wsX4_planWorth wsX4_layRung := goodIn_r _ [10, 11, 12, 5, 13, 14, 15, 9, 16, 17, 18, 19, 20, 21, 22, 23, 24, 1, 2, 3, 4, 25, 26, 27, 28, 29, 30, 31, 32, 33, 34, 35, 48, 49, 50, 51, 52, 53, 54, 55, 56, 57, 58, 59, 60, 61, 62, 63, 64, 65, 66, 67, 68, 69, 70] (by decide +kernel) (by decide +kernel)
set_option maxRecDepth 20000 in
theorem gX4_planWorth_X4_layRung : GoodIn wsX4_planWorth (wsV RX4 199 RX4 yX4_layRung wsX4_layRung) := goodIn_app (goodIn_of _ (by decide +kernel)) ggX4_planWorth_X4_layRung
set_option maxRecDepth 20000 in
theorem ggX4_planWorth_X4_playRung : GoodIn wsX4_planWorth wsX4_playRung := goodIn_r _ [39, 5, 11, 12, 40, 41, 42, 43, 9, 44, 1, 2, 3, 4, 45, 46, 47, 48, 49, 50, 51, 52, 53, 54, 55, 56, 57, 58, 59, 60, 61, 62, 63, 64, 65, 66, 67, 68, 69, 70] (by decide +kernel) (by decide +kernel)
set_option maxRecDepth 20000 in
theorem gX4_planWorth_X4_playRung : GoodIn wsX4_planWorth (wsV RX4 203 RX4 yX4_playRung wsX4_playRung) := goodIn_app (goodIn_of _ (by decide +kernel)) ggX4_planWorth_X4_playRung
theorem dX4_planWorth_0 : decode cX4_planWorth 0 = .ok (.iload_n 1, 1) := by decide +kernel
theorem dX4_planWorth_1 : decode cX4_planWorth 1 = .ok (.iconst 3, 1) := by decide +kernel
theorem dX4_planWorth_2 : decode cX4_planWorth 2 = .ok (.if_icmp .ne 8, 3) := by decide +kernel
theorem dX4_planWorth_5 : decode cX4_planWorth 5 = .ok (.bipush 6, 2) := by decide +kernel
theorem dX4_planWorth_7 : decode cX4_planWorth 7 = .ok (.goto 4, 3) := by decide +kernel
theorem dX4_planWorth_10 : decode cX4_planWorth 10 = .ok (.iconst 1, 1) := by decide +kernel
theorem dX4_planWorth_11 : decode cX4_planWorth 11 = .ok (.istore 6, 2) := by decide +kernel
theorem dX4_planWorth_13 : decode cX4_planWorth 13 = .ok (.iconst 0, 1) := by decide +kernel
theorem dX4_planWorth_14 : decode cX4_planWorth 14 = .ok (.istore 7, 2) := by decide +kernel
theorem dX4_planWorth_16 : decode cX4_planWorth 16 = .ok (.iload 7, 2) := by decide +kernel
theorem dX4_planWorth_18 : decode cX4_planWorth 18 = .ok (.iload 6, 2) := by decide +kernel
theorem dX4_planWorth_20 : decode cX4_planWorth 20 = .ok (.if_icmp .ge 19, 3) := by decide +kernel
theorem dX4_planWorth_23 : decode cX4_planWorth 23 = .ok (.aload_n 0, 1) := by decide +kernel
theorem dX4_planWorth_24 : decode cX4_planWorth 24 = .ok (.iload_n 1, 1) := by decide +kernel
theorem dX4_planWorth_25 : decode cX4_planWorth 25 = .ok (.aload_n 2, 1) := by decide +kernel
theorem dX4_planWorth_26 : decode cX4_planWorth 26 = .ok (.iload 7, 2) := by decide +kernel
theorem dX4_planWorth_28 : decode cX4_planWorth 28 = .ok (.iload 5, 2) := by decide +kernel
theorem dX4_planWorth_30 : decode cX4_planWorth 30 = .ok (.invokevirtual 199, 3) := by decide +kernel
theorem dX4_planWorth_33 : decode cX4_planWorth 33 = .ok (.iinc 7 1, 3) := by decide +kernel
theorem dX4_planWorth_36 : decode cX4_planWorth 36 = .ok (.goto (-20), 3) := by decide +kernel
theorem dX4_planWorth_39 : decode cX4_planWorth 39 = .ok (.iconst 1, 1) := by decide +kernel
theorem dX4_planWorth_40 : decode cX4_planWorth 40 = .ok (.istore 7, 2) := by decide +kernel
theorem dX4_planWorth_42 : decode cX4_planWorth 42 = .ok (.iload 7, 2) := by decide +kernel
theorem dX4_planWorth_44 : decode cX4_planWorth 44 = .ok (.iload 4, 2) := by decide +kernel
theorem dX4_planWorth_46 : decode cX4_planWorth 46 = .ok (.if_icmp .gt 51, 3) := by decide +kernel
theorem dX4_planWorth_49 : decode cX4_planWorth 49 = .ok (.iconst 0, 1) := by decide +kernel
theorem dX4_planWorth_50 : decode cX4_planWorth 50 = .ok (.istore 8, 2) := by decide +kernel
theorem dX4_planWorth_52 : decode cX4_planWorth 52 = .ok (.iload 8, 2) := by decide +kernel
theorem dX4_planWorth_54 : decode cX4_planWorth 54 = .ok (.iload 6, 2) := by decide +kernel
theorem dX4_planWorth_56 : decode cX4_planWorth 56 = .ok (.if_icmp .ge 35, 3) := by decide +kernel
theorem dX4_planWorth_59 : decode cX4_planWorth 59 = .ok (.iload 8, 2) := by decide +kernel
theorem dX4_planWorth_61 : decode cX4_planWorth 61 = .ok (.iconst 1, 1) := by decide +kernel
theorem dX4_planWorth_62 : decode cX4_planWorth 62 = .ok (.iadd, 1) := by decide +kernel
theorem dX4_planWorth_63 : decode cX4_planWorth 63 = .ok (.iload 6, 2) := by decide +kernel
theorem dX4_planWorth_65 : decode cX4_planWorth 65 = .ok (.iconst 1, 1) := by decide +kernel
theorem dX4_planWorth_66 : decode cX4_planWorth 66 = .ok (.isub, 1) := by decide +kernel
theorem dX4_planWorth_67 : decode cX4_planWorth 67 = .ok (.invokestatic 137, 3) := by decide +kernel
theorem dX4_planWorth_70 : decode cX4_planWorth 70 = .ok (.istore 9, 2) := by decide +kernel
theorem dX4_planWorth_72 : decode cX4_planWorth 72 = .ok (.aload_n 0, 1) := by decide +kernel
theorem dX4_planWorth_73 : decode cX4_planWorth 73 = .ok (.aload_n 2, 1) := by decide +kernel
theorem dX4_planWorth_74 : decode cX4_planWorth 74 = .ok (.iload 8, 2) := by decide +kernel
theorem dX4_planWorth_76 : decode cX4_planWorth 76 = .ok (.iload 9, 2) := by decide +kernel
theorem dX4_planWorth_78 : decode cX4_planWorth 78 = .ok (.iload 7, 2) := by decide +kernel
theorem dX4_planWorth_80 : decode cX4_planWorth 80 = .ok (.iload 5, 2) := by decide +kernel
theorem dX4_planWorth_82 : decode cX4_planWorth 82 = .ok (.invokevirtual 203, 3) := by decide +kernel
theorem dX4_planWorth_85 : decode cX4_planWorth 85 = .ok (.iinc 8 1, 3) := by decide +kernel
theorem dX4_planWorth_88 : decode cX4_planWorth 88 = .ok (.goto (-36), 3) := by decide +kernel
theorem dX4_planWorth_91 : decode cX4_planWorth 91 = .ok (.iinc 7 1, 3) := by decide +kernel
theorem dX4_planWorth_94 : decode cX4_planWorth 94 = .ok (.goto (-52), 3) := by decide +kernel
theorem dX4_planWorth_97 : decode cX4_planWorth 97 = .ok (.aload_n 0, 1) := by decide +kernel
theorem dX4_planWorth_98 : decode cX4_planWorth 98 = .ok (.getfield 39, 3) := by decide +kernel
theorem dX4_planWorth_101 : decode cX4_planWorth 101 = .ok (.iload 4, 2) := by decide +kernel
theorem dX4_planWorth_103 : decode cX4_planWorth 103 = .ok (.iconst 1, 1) := by decide +kernel
theorem dX4_planWorth_104 : decode cX4_planWorth 104 = .ok (.iand, 1) := by decide +kernel
theorem dX4_planWorth_105 : decode cX4_planWorth 105 = .ok (.aaload, 1) := by decide +kernel
theorem dX4_planWorth_106 : decode cX4_planWorth 106 = .ok (.iload_n 3, 1) := by decide +kernel
theorem dX4_planWorth_107 : decode cX4_planWorth 107 = .ok (.laload, 1) := by decide +kernel
theorem dX4_planWorth_108 : decode cX4_planWorth 108 = .ok (.lreturn, 1) := by decide +kernel
set_option maxRecDepth 20000 in
theorem ggX4_layRung_X4_isPlayed : GoodIn wsX4_layRung wsX4_isPlayed := goodIn_r _ [8, 1, 9, 10, 7, 11, 32, 33, 34, 35, 36, 37, 38, 39, 40, 41, 42] (by decide +kernel) (by decide +kernel)
set_option maxRecDepth 20000 in
theorem gX4_layRung_X4_isPlayed : GoodIn wsX4_layRung (wsV RX4 95 RX4 yX4_isPlayed wsX4_isPlayed) := goodIn_app (goodIn_of _ (by decide +kernel)) ggX4_layRung_X4_isPlayed
set_option maxRecDepth 20000 in
theorem ggX4_layRung_X4_planned : GoodIn wsX4_layRung wsX4_planned := goodIn_r _ [15, 16, 17, 18, 19, 20, 21, 22, 23, 7, 24, 1, 25, 26, 27, 32, 33, 34, 35, 36, 37, 38, 39, 40, 41, 42, 43, 44, 45, 46, 47, 48, 49, 50, 51, 52, 53, 54] (by decide +kernel) (by decide +kernel)
set_option maxRecDepth 20000 in
theorem gX4_layRung_X4_planned : GoodIn wsX4_layRung (wsV RX4 111 RX4 yX4_planned wsX4_planned) := goodIn_app (goodIn_of _ (by decide +kernel)) ggX4_layRung_X4_planned
set_option maxRecDepth 20000 in
theorem ggX4_layRung_X4_endWorth : GoodIn wsX4_layRung wsX4_endWorth := goodIn_r _ [31, 1, 32, 33, 34, 35, 36, 37, 38, 39, 40, 41, 42] (by decide +kernel) (by decide +kernel)
set_option maxRecDepth 20000 in
theorem gX4_layRung_X4_endWorth : GoodIn wsX4_layRung (wsV RX4 160 RX4 yX4_endWorth wsX4_endWorth) := goodIn_app (goodIn_of _ (by decide +kernel)) ggX4_layRung_X4_endWorth
theorem dX4_layRung_0 : decode cX4_layRung 0 = .ok (.iconst 0, 1) := by decide +kernel
theorem dX4_layRung_1 : decode cX4_layRung 1 = .ok (.istore 5, 2) := by decide +kernel
theorem dX4_layRung_3 : decode cX4_layRung 3 = .ok (.iload 5, 2) := by decide +kernel
theorem dX4_layRung_5 : decode cX4_layRung 5 = .ok (.aload_n 0, 1) := by decide +kernel
theorem dX4_layRung_6 : decode cX4_layRung 6 = .ok (.getfield 42, 3) := by decide +kernel
theorem dX4_layRung_9 : decode cX4_layRung 9 = .ok (.if_icmp .gt 64, 3) := by decide +kernel
theorem dX4_layRung_12 : decode cX4_layRung 12 = .ok (.iload_n 3, 1) := by decide +kernel
theorem dX4_layRung_13 : decode cX4_layRung 13 = .ok (.bipush 33, 2) := by decide +kernel
theorem dX4_layRung_15 : decode cX4_layRung 15 = .ok (.imul, 1) := by decide +kernel
theorem dX4_layRung_16 : decode cX4_layRung 16 = .ok (.iload 5, 2) := by decide +kernel
theorem dX4_layRung_18 : decode cX4_layRung 18 = .ok (.iadd, 1) := by decide +kernel
theorem dX4_layRung_19 : decode cX4_layRung 19 = .ok (.istore 6, 2) := by decide +kernel
theorem dX4_layRung_21 : decode cX4_layRung 21 = .ok (.aload_n 0, 1) := by decide +kernel
theorem dX4_layRung_22 : decode cX4_layRung 22 = .ok (.getfield 34, 3) := by decide +kernel
theorem dX4_layRung_25 : decode cX4_layRung 25 = .ok (.iload 6, 2) := by decide +kernel
theorem dX4_layRung_27 : decode cX4_layRung 27 = .ok (.aload_n 0, 1) := by decide +kernel
theorem dX4_layRung_28 : decode cX4_layRung 28 = .ok (.iload 5, 2) := by decide +kernel
theorem dX4_layRung_30 : decode cX4_layRung 30 = .ok (.invokevirtual 95, 3) := by decide +kernel
theorem dX4_layRung_33 : decode cX4_layRung 33 = .ok (.ifCond .eq 15, 3) := by decide +kernel
theorem dX4_layRung_36 : decode cX4_layRung 36 = .ok (.aload_n 0, 1) := by decide +kernel
theorem dX4_layRung_37 : decode cX4_layRung 37 = .ok (.iload_n 1, 1) := by decide +kernel
theorem dX4_layRung_38 : decode cX4_layRung 38 = .ok (.aload_n 2, 1) := by decide +kernel
theorem dX4_layRung_39 : decode cX4_layRung 39 = .ok (.iload 5, 2) := by decide +kernel
theorem dX4_layRung_41 : decode cX4_layRung 41 = .ok (.iload_n 3, 1) := by decide +kernel
theorem dX4_layRung_42 : decode cX4_layRung 42 = .ok (.invokevirtual 111, 3) := by decide +kernel
theorem dX4_layRung_45 : decode cX4_layRung 45 = .ok (.goto 4, 3) := by decide +kernel
theorem dX4_layRung_48 : decode cX4_layRung 48 = .ok (.iconst 0, 1) := by decide +kernel
theorem dX4_layRung_49 : decode cX4_layRung 49 = .ok (.iastore, 1) := by decide +kernel
theorem dX4_layRung_50 : decode cX4_layRung 50 = .ok (.aload_n 0, 1) := by decide +kernel
theorem dX4_layRung_51 : decode cX4_layRung 51 = .ok (.getfield 39, 3) := by decide +kernel
theorem dX4_layRung_54 : decode cX4_layRung 54 = .ok (.iconst 0, 1) := by decide +kernel
theorem dX4_layRung_55 : decode cX4_layRung 55 = .ok (.aaload, 1) := by decide +kernel
theorem dX4_layRung_56 : decode cX4_layRung 56 = .ok (.iload 6, 2) := by decide +kernel
theorem dX4_layRung_58 : decode cX4_layRung 58 = .ok (.aload_n 0, 1) := by decide +kernel
theorem dX4_layRung_59 : decode cX4_layRung 59 = .ok (.iload 4, 2) := by decide +kernel
theorem dX4_layRung_61 : decode cX4_layRung 61 = .ok (.iload 5, 2) := by decide +kernel
theorem dX4_layRung_63 : decode cX4_layRung 63 = .ok (.invokevirtual 160, 3) := by decide +kernel
theorem dX4_layRung_66 : decode cX4_layRung 66 = .ok (.lastore, 1) := by decide +kernel
theorem dX4_layRung_67 : decode cX4_layRung 67 = .ok (.iinc 5 1, 3) := by decide +kernel
theorem dX4_layRung_70 : decode cX4_layRung 70 = .ok (.goto (-67), 3) := by decide +kernel
theorem dX4_layRung_73 : decode cX4_layRung 73 = .ok (.return_, 1) := by decide +kernel
set_option maxRecDepth 20000 in
theorem ggX4_playRung_X4_raised : GoodIn wsX4_playRung wsX4_raised := goodIn_r _ [9, 2, 10, 11, 12, 13, 17, 18, 19, 20, 21, 22, 23, 24, 25, 26, 27, 28, 29, 30, 31, 32, 33, 34, 35, 36, 37, 38, 39] (by decide +kernel) (by decide +kernel)
set_option maxRecDepth 20000 in
theorem gX4_playRung_X4_raised : GoodIn wsX4_playRung (wsV RX4 188 RX4 yX4_raised wsX4_raised) := goodIn_app (goodIn_of _ (by decide +kernel)) ggX4_playRung_X4_raised
set_option maxRecDepth 20000 in
theorem ggX4_playRung_X4_mixed : GoodIn wsX4_playRung wsX4_mixed := goodIn_r _ [16, 28, 29, 30, 31, 32, 33, 34, 35, 36, 37, 38, 39] (by decide +kernel) (by decide +kernel)
set_option maxRecDepth 20000 in
theorem gX4_playRung_X4_mixed : GoodIn wsX4_playRung (va_wsS RX4 192 yX4_mixed wsX4_mixed) := goodIn_app (goodIn_of _ (by decide +kernel)) ggX4_playRung_X4_mixed
theorem dX4_playRung_0 : decode cX4_playRung 0 = .ok (.aload_n 0, 1) := by decide +kernel
theorem dX4_playRung_1 : decode cX4_playRung 1 = .ok (.getfield 39, 3) := by decide +kernel
theorem dX4_playRung_4 : decode cX4_playRung 4 = .ok (.iload 4, 2) := by decide +kernel
theorem dX4_playRung_6 : decode cX4_playRung 6 = .ok (.iconst 1, 1) := by decide +kernel
theorem dX4_playRung_7 : decode cX4_playRung 7 = .ok (.isub, 1) := by decide +kernel
theorem dX4_playRung_8 : decode cX4_playRung 8 = .ok (.iconst 1, 1) := by decide +kernel
theorem dX4_playRung_9 : decode cX4_playRung 9 = .ok (.iand, 1) := by decide +kernel
theorem dX4_playRung_10 : decode cX4_playRung 10 = .ok (.aaload, 1) := by decide +kernel
theorem dX4_playRung_11 : decode cX4_playRung 11 = .ok (.astore 6, 2) := by decide +kernel
theorem dX4_playRung_13 : decode cX4_playRung 13 = .ok (.aload_n 0, 1) := by decide +kernel
theorem dX4_playRung_14 : decode cX4_playRung 14 = .ok (.getfield 39, 3) := by decide +kernel
theorem dX4_playRung_17 : decode cX4_playRung 17 = .ok (.iload 4, 2) := by decide +kernel
theorem dX4_playRung_19 : decode cX4_playRung 19 = .ok (.iconst 1, 1) := by decide +kernel
theorem dX4_playRung_20 : decode cX4_playRung 20 = .ok (.iand, 1) := by decide +kernel
theorem dX4_playRung_21 : decode cX4_playRung 21 = .ok (.aaload, 1) := by decide +kernel
theorem dX4_playRung_22 : decode cX4_playRung 22 = .ok (.astore 7, 2) := by decide +kernel
theorem dX4_playRung_24 : decode cX4_playRung 24 = .ok (.iload 5, 2) := by decide +kernel
theorem dX4_playRung_26 : decode cX4_playRung 26 = .ok (.iconst 3, 1) := by decide +kernel
theorem dX4_playRung_27 : decode cX4_playRung 27 = .ok (.if_icmp .ne 12, 3) := by decide +kernel
theorem dX4_playRung_30 : decode cX4_playRung 30 = .ok (.lconst 1, 1) := by decide +kernel
theorem dX4_playRung_31 : decode cX4_playRung 31 = .ok (.iconst 4, 1) := by decide +kernel
theorem dX4_playRung_32 : decode cX4_playRung 32 = .ok (.iload 4, 2) := by decide +kernel
theorem dX4_playRung_34 : decode cX4_playRung 34 = .ok (.imul, 1) := by decide +kernel
theorem dX4_playRung_35 : decode cX4_playRung 35 = .ok (.lshl, 1) := by decide +kernel
theorem dX4_playRung_36 : decode cX4_playRung 36 = .ok (.goto 4, 3) := by decide +kernel
theorem dX4_playRung_39 : decode cX4_playRung 39 = .ok (.lconst 0, 1) := by decide +kernel
theorem dX4_playRung_40 : decode cX4_playRung 40 = .ok (.lstore 8, 2) := by decide +kernel
theorem dX4_playRung_42 : decode cX4_playRung 42 = .ok (.iconst 0, 1) := by decide +kernel
theorem dX4_playRung_43 : decode cX4_playRung 43 = .ok (.istore 10, 2) := by decide +kernel
theorem dX4_playRung_45 : decode cX4_playRung 45 = .ok (.iload 10, 2) := by decide +kernel
theorem dX4_playRung_47 : decode cX4_playRung 47 = .ok (.aload_n 0, 1) := by decide +kernel
theorem dX4_playRung_48 : decode cX4_playRung 48 = .ok (.getfield 42, 3) := by decide +kernel
theorem dX4_playRung_51 : decode cX4_playRung 51 = .ok (.if_icmp .gt 82, 3) := by decide +kernel
theorem dX4_playRung_54 : decode cX4_playRung 54 = .ok (.iload_n 2, 1) := by decide +kernel
theorem dX4_playRung_55 : decode cX4_playRung 55 = .ok (.bipush 33, 2) := by decide +kernel
theorem dX4_playRung_57 : decode cX4_playRung 57 = .ok (.imul, 1) := by decide +kernel
theorem dX4_playRung_58 : decode cX4_playRung 58 = .ok (.iload 10, 2) := by decide +kernel
theorem dX4_playRung_60 : decode cX4_playRung 60 = .ok (.iadd, 1) := by decide +kernel
theorem dX4_playRung_61 : decode cX4_playRung 61 = .ok (.istore 11, 2) := by decide +kernel
theorem dX4_playRung_63 : decode cX4_playRung 63 = .ok (.aload_n 0, 1) := by decide +kernel
theorem dX4_playRung_64 : decode cX4_playRung 64 = .ok (.getfield 34, 3) := by decide +kernel
theorem dX4_playRung_67 : decode cX4_playRung 67 = .ok (.iload 11, 2) := by decide +kernel
theorem dX4_playRung_69 : decode cX4_playRung 69 = .ok (.iaload, 1) := by decide +kernel
theorem dX4_playRung_70 : decode cX4_playRung 70 = .ok (.istore 12, 2) := by decide +kernel
theorem dX4_playRung_72 : decode cX4_playRung 72 = .ok (.aload 7, 2) := by decide +kernel
theorem dX4_playRung_74 : decode cX4_playRung 74 = .ok (.iload 11, 2) := by decide +kernel
theorem dX4_playRung_76 : decode cX4_playRung 76 = .ok (.iload 12, 2) := by decide +kernel
theorem dX4_playRung_78 : decode cX4_playRung 78 = .ok (.iconst 1, 1) := by decide +kernel
theorem dX4_playRung_79 : decode cX4_playRung 79 = .ok (.if_icmp .ge 15, 3) := by decide +kernel
theorem dX4_playRung_82 : decode cX4_playRung 82 = .ok (.ldc2_w 168, 3) := by decide +kernel
theorem dX4_playRung_85 : decode cX4_playRung 85 = .ok (.aload 6, 2) := by decide +kernel
theorem dX4_playRung_87 : decode cX4_playRung 87 = .ok (.iload 11, 2) := by decide +kernel
theorem dX4_playRung_89 : decode cX4_playRung 89 = .ok (.laload, 1) := by decide +kernel
theorem dX4_playRung_90 : decode cX4_playRung 90 = .ok (.lmul, 1) := by decide +kernel
theorem dX4_playRung_91 : decode cX4_playRung 91 = .ok (.goto 35, 3) := by decide +kernel
theorem dX4_playRung_94 : decode cX4_playRung 94 = .ok (.lload 8, 2) := by decide +kernel
theorem dX4_playRung_96 : decode cX4_playRung 96 = .ok (.aload_n 1, 1) := by decide +kernel
theorem dX4_playRung_97 : decode cX4_playRung 97 = .ok (.aload 6, 2) := by decide +kernel
theorem dX4_playRung_99 : decode cX4_playRung 99 = .ok (.aload_n 0, 1) := by decide +kernel
theorem dX4_playRung_100 : decode cX4_playRung 100 = .ok (.aload_n 1, 1) := by decide +kernel
theorem dX4_playRung_101 : decode cX4_playRung 101 = .ok (.iload 10, 2) := by decide +kernel
theorem dX4_playRung_103 : decode cX4_playRung 103 = .ok (.iload 12, 2) := by decide +kernel
theorem dX4_playRung_105 : decode cX4_playRung 105 = .ok (.invokevirtual 188, 3) := by decide +kernel
theorem dX4_playRung_108 : decode cX4_playRung 108 = .ok (.laload, 1) := by decide +kernel
theorem dX4_playRung_109 : decode cX4_playRung 109 = .ok (.aload 6, 2) := by decide +kernel
theorem dX4_playRung_111 : decode cX4_playRung 111 = .ok (.iload_n 3, 1) := by decide +kernel
theorem dX4_playRung_112 : decode cX4_playRung 112 = .ok (.bipush 33, 2) := by decide +kernel
theorem dX4_playRung_114 : decode cX4_playRung 114 = .ok (.imul, 1) := by decide +kernel
theorem dX4_playRung_115 : decode cX4_playRung 115 = .ok (.iload 10, 2) := by decide +kernel
theorem dX4_playRung_117 : decode cX4_playRung 117 = .ok (.iadd, 1) := by decide +kernel
theorem dX4_playRung_118 : decode cX4_playRung 118 = .ok (.iload 12, 2) := by decide +kernel
theorem dX4_playRung_120 : decode cX4_playRung 120 = .ok (.isub, 1) := by decide +kernel
theorem dX4_playRung_121 : decode cX4_playRung 121 = .ok (.laload, 1) := by decide +kernel
theorem dX4_playRung_122 : decode cX4_playRung 122 = .ok (.invokestatic 192, 3) := by decide +kernel
theorem dX4_playRung_125 : decode cX4_playRung 125 = .ok (.ladd, 1) := by decide +kernel
theorem dX4_playRung_126 : decode cX4_playRung 126 = .ok (.lastore, 1) := by decide +kernel
theorem dX4_playRung_127 : decode cX4_playRung 127 = .ok (.iinc 10 1, 3) := by decide +kernel
theorem dX4_playRung_130 : decode cX4_playRung 130 = .ok (.goto (-85), 3) := by decide +kernel
theorem dX4_playRung_133 : decode cX4_playRung 133 = .ok (.return_, 1) := by decide +kernel
end
section
theorem dX5_init_0 : decode cX5_init 0 = .ok (.aload_n 0, 1) := by decide +kernel
theorem dX5_init_1 : decode cX5_init 1 = .ok (.invokespecial 1, 3) := by decide +kernel
theorem dX5_init_4 : decode cX5_init 4 = .ok (.aload_n 0, 1) := by decide +kernel
theorem dX5_init_5 : decode cX5_init 5 = .ok (.bipush 8, 2) := by decide +kernel
theorem dX5_init_7 : decode cX5_init 7 = .ok (.putfield 7, 3) := by decide +kernel
theorem dX5_init_10 : decode cX5_init 10 = .ok (.aload_n 0, 1) := by decide +kernel
theorem dX5_init_11 : decode cX5_init 11 = .ok (.iconst 4, 1) := by decide +kernel
theorem dX5_init_12 : decode cX5_init 12 = .ok (.putfield 13, 3) := by decide +kernel
theorem dX5_init_15 : decode cX5_init 15 = .ok (.aload_n 0, 1) := by decide +kernel
theorem dX5_init_16 : decode cX5_init 16 = .ok (.iconst 4, 1) := by decide +kernel
theorem dX5_init_17 : decode cX5_init 17 = .ok (.newarray .int, 2) := by decide +kernel
theorem dX5_init_19 : decode cX5_init 19 = .ok (.putfield 16, 3) := by decide +kernel
theorem dX5_init_22 : decode cX5_init 22 = .ok (.aload_n 0, 1) := by decide +kernel
theorem dX5_init_23 : decode cX5_init 23 = .ok (.iconst 4, 1) := by decide +kernel
theorem dX5_init_24 : decode cX5_init 24 = .ok (.newarray .int, 2) := by decide +kernel
theorem dX5_init_26 : decode cX5_init 26 = .ok (.putfield 20, 3) := by decide +kernel
theorem dX5_init_29 : decode cX5_init 29 = .ok (.aload_n 0, 1) := by decide +kernel
theorem dX5_init_30 : decode cX5_init 30 = .ok (.iconst 4, 1) := by decide +kernel
theorem dX5_init_31 : decode cX5_init 31 = .ok (.newarray .int, 2) := by decide +kernel
theorem dX5_init_33 : decode cX5_init 33 = .ok (.putfield 23, 3) := by decide +kernel
theorem dX5_init_36 : decode cX5_init 36 = .ok (.aload_n 0, 1) := by decide +kernel
theorem dX5_init_37 : decode cX5_init 37 = .ok (.iconst 4, 1) := by decide +kernel
theorem dX5_init_38 : decode cX5_init 38 = .ok (.newarray .int, 2) := by decide +kernel
theorem dX5_init_40 : decode cX5_init 40 = .ok (.putfield 26, 3) := by decide +kernel
theorem dX5_init_43 : decode cX5_init 43 = .ok (.aload_n 0, 1) := by decide +kernel
theorem dX5_init_44 : decode cX5_init 44 = .ok (.iconst 4, 1) := by decide +kernel
theorem dX5_init_45 : decode cX5_init 45 = .ok (.newarray .int, 2) := by decide +kernel
theorem dX5_init_47 : decode cX5_init 47 = .ok (.putfield 29, 3) := by decide +kernel
theorem dX5_init_50 : decode cX5_init 50 = .ok (.aload_n 0, 1) := by decide +kernel
theorem dX5_init_51 : decode cX5_init 51 = .ok (.bipush 33, 2) := by decide +kernel
theorem dX5_init_53 : decode cX5_init 53 = .ok (.newarray .int, 2) := by decide +kernel
theorem dX5_init_55 : decode cX5_init 55 = .ok (.putfield 32, 3) := by decide +kernel
theorem dX5_init_58 : decode cX5_init 58 = .ok (.aload_n 0, 1) := by decide +kernel
theorem dX5_init_59 : decode cX5_init 59 = .ok (.sipush 429, 3) := by decide +kernel
theorem dX5_init_62 : decode cX5_init 62 = .ok (.newarray .long, 2) := by decide +kernel
theorem dX5_init_64 : decode cX5_init 64 = .ok (.putfield 35, 3) := by decide +kernel
theorem dX5_init_67 : decode cX5_init 67 = .ok (.aload_n 0, 1) := by decide +kernel
theorem dX5_init_68 : decode cX5_init 68 = .ok (.sipush 2145, 3) := by decide +kernel
theorem dX5_init_71 : decode cX5_init 71 = .ok (.newarray .long, 2) := by decide +kernel
theorem dX5_init_73 : decode cX5_init 73 = .ok (.putfield 39, 3) := by decide +kernel
theorem dX5_init_76 : decode cX5_init 76 = .ok (.aload_n 0, 1) := by decide +kernel
theorem dX5_init_77 : decode cX5_init 77 = .ok (.sipush 2145, 3) := by decide +kernel
theorem dX5_init_80 : decode cX5_init 80 = .ok (.newarray .long, 2) := by decide +kernel
theorem dX5_init_82 : decode cX5_init 82 = .ok (.putfield 42, 3) := by decide +kernel
theorem dX5_init_85 : decode cX5_init 85 = .ok (.aload_n 0, 1) := by decide +kernel
theorem dX5_init_86 : decode cX5_init 86 = .ok (.iconst 0, 1) := by decide +kernel
theorem dX5_init_87 : decode cX5_init 87 = .ok (.putfield 45, 3) := by decide +kernel
theorem dX5_init_90 : decode cX5_init 90 = .ok (.return_, 1) := by decide +kernel
theorem dX5_in_0 : decode cX5_in 0 = .ok (.iload_n 0, 1) := by decide +kernel
theorem dX5_in_1 : decode cX5_in 1 = .ok (.iload_n 1, 1) := by decide +kernel
theorem dX5_in_2 : decode cX5_in 2 = .ok (.if_icmp .lt 12, 3) := by decide +kernel
theorem dX5_in_5 : decode cX5_in 5 = .ok (.iload_n 0, 1) := by decide +kernel
theorem dX5_in_6 : decode cX5_in 6 = .ok (.iload_n 2, 1) := by decide +kernel
theorem dX5_in_7 : decode cX5_in 7 = .ok (.if_icmp .gt 7, 3) := by decide +kernel
theorem dX5_in_10 : decode cX5_in 10 = .ok (.iconst 1, 1) := by decide +kernel
theorem dX5_in_11 : decode cX5_in 11 = .ok (.goto 4, 3) := by decide +kernel
theorem dX5_in_14 : decode cX5_in 14 = .ok (.iconst 0, 1) := by decide +kernel
theorem dX5_in_15 : decode cX5_in 15 = .ok (.ireturn, 1) := by decide +kernel
set_option maxRecDepth 20000 in
theorem ggX5_set_X5_in : GoodIn wsX5_set wsX5_in := goodIn_r _ [7] (by decide +kernel) (by decide +kernel)
set_option maxRecDepth 20000 in
theorem gX5_set_X5_in : GoodIn wsX5_set (va_wsS RX5 48 yX5_in wsX5_in) := goodIn_app (goodIn_of _ (by decide +kernel)) ggX5_set_X5_in
theorem dX5_set_0 : decode cX5_set 0 = .ok (.iconst (-1), 1) := by decide +kernel
theorem dX5_set_1 : decode cX5_set 1 = .ok (.istore_n 3, 1) := by decide +kernel
theorem dX5_set_2 : decode cX5_set 2 = .ok (.iload_n 1, 1) := by decide +kernel
theorem dX5_set_3 : decode cX5_set 3 = .ok (.ifCond .ne 50, 3) := by decide +kernel
theorem dX5_set_6 : decode cX5_set 6 = .ok (.iload_n 2, 1) := by decide +kernel
theorem dX5_set_7 : decode cX5_set 7 = .ok (.iconst 2, 1) := by decide +kernel
theorem dX5_set_8 : decode cX5_set 8 = .ok (.bipush 32, 2) := by decide +kernel
theorem dX5_set_10 : decode cX5_set 10 = .ok (.invokestatic 48, 3) := by decide +kernel
theorem dX5_set_13 : decode cX5_set 13 = .ok (.ifCond .eq 40, 3) := by decide +kernel
theorem dX5_set_16 : decode cX5_set 16 = .ok (.aload_n 0, 1) := by decide +kernel
theorem dX5_set_17 : decode cX5_set 17 = .ok (.getfield 7, 3) := by decide +kernel
theorem dX5_set_20 : decode cX5_set 20 = .ok (.istore_n 3, 1) := by decide +kernel
theorem dX5_set_21 : decode cX5_set 21 = .ok (.aload_n 0, 1) := by decide +kernel
theorem dX5_set_22 : decode cX5_set 22 = .ok (.iload_n 2, 1) := by decide +kernel
theorem dX5_set_23 : decode cX5_set 23 = .ok (.putfield 7, 3) := by decide +kernel
theorem dX5_set_26 : decode cX5_set 26 = .ok (.iconst 0, 1) := by decide +kernel
theorem dX5_set_27 : decode cX5_set 27 = .ok (.istore 4, 2) := by decide +kernel
theorem dX5_set_29 : decode cX5_set 29 = .ok (.iload 4, 2) := by decide +kernel
theorem dX5_set_31 : decode cX5_set 31 = .ok (.bipush 33, 2) := by decide +kernel
theorem dX5_set_33 : decode cX5_set 33 = .ok (.if_icmp .ge 17, 3) := by decide +kernel
theorem dX5_set_36 : decode cX5_set 36 = .ok (.aload_n 0, 1) := by decide +kernel
theorem dX5_set_37 : decode cX5_set 37 = .ok (.getfield 32, 3) := by decide +kernel
theorem dX5_set_40 : decode cX5_set 40 = .ok (.iload 4, 2) := by decide +kernel
theorem dX5_set_42 : decode cX5_set 42 = .ok (.iconst 0, 1) := by decide +kernel
theorem dX5_set_43 : decode cX5_set 43 = .ok (.iastore, 1) := by decide +kernel
theorem dX5_set_44 : decode cX5_set 44 = .ok (.iinc 4 1, 3) := by decide +kernel
theorem dX5_set_47 : decode cX5_set 47 = .ok (.goto (-18), 3) := by decide +kernel
theorem dX5_set_50 : decode cX5_set 50 = .ok (.goto 28, 3) := by decide +kernel
theorem dX5_set_53 : decode cX5_set 53 = .ok (.iload_n 1, 1) := by decide +kernel
theorem dX5_set_54 : decode cX5_set 54 = .ok (.iconst 1, 1) := by decide +kernel
theorem dX5_set_55 : decode cX5_set 55 = .ok (.if_icmp .ne 23, 3) := by decide +kernel
theorem dX5_set_58 : decode cX5_set 58 = .ok (.iload_n 2, 1) := by decide +kernel
theorem dX5_set_59 : decode cX5_set 59 = .ok (.iconst 0, 1) := by decide +kernel
theorem dX5_set_60 : decode cX5_set 60 = .ok (.bipush 12, 2) := by decide +kernel
theorem dX5_set_62 : decode cX5_set 62 = .ok (.invokestatic 48, 3) := by decide +kernel
theorem dX5_set_65 : decode cX5_set 65 = .ok (.ifCond .eq 13, 3) := by decide +kernel
theorem dX5_set_68 : decode cX5_set 68 = .ok (.aload_n 0, 1) := by decide +kernel
theorem dX5_set_69 : decode cX5_set 69 = .ok (.getfield 13, 3) := by decide +kernel
theorem dX5_set_72 : decode cX5_set 72 = .ok (.istore_n 3, 1) := by decide +kernel
theorem dX5_set_73 : decode cX5_set 73 = .ok (.aload_n 0, 1) := by decide +kernel
theorem dX5_set_74 : decode cX5_set 74 = .ok (.iload_n 2, 1) := by decide +kernel
theorem dX5_set_75 : decode cX5_set 75 = .ok (.putfield 13, 3) := by decide +kernel
theorem dX5_set_78 : decode cX5_set 78 = .ok (.iload_n 3, 1) := by decide +kernel
theorem dX5_set_79 : decode cX5_set 79 = .ok (.ireturn, 1) := by decide +kernel
set_option maxRecDepth 20000 in
theorem ggX5_game_X5_in : GoodIn wsX5_game wsX5_in := goodIn_r _ [10] (by decide +kernel) (by decide +kernel)
set_option maxRecDepth 20000 in
theorem gX5_game_X5_in : GoodIn wsX5_game (va_wsS RX5 48 yX5_in wsX5_in) := goodIn_app (goodIn_of _ (by decide +kernel)) ggX5_game_X5_in
theorem dX5_game_0 : decode cX5_game 0 = .ok (.iload_n 1, 1) := by decide +kernel
theorem dX5_game_1 : decode cX5_game 1 = .ok (.iconst 0, 1) := by decide +kernel
theorem dX5_game_2 : decode cX5_game 2 = .ok (.iconst 2, 1) := by decide +kernel
theorem dX5_game_3 : decode cX5_game 3 = .ok (.invokestatic 48, 3) := by decide +kernel
theorem dX5_game_6 : decode cX5_game 6 = .ok (.ifCond .eq 58, 3) := by decide +kernel
theorem dX5_game_9 : decode cX5_game 9 = .ok (.iload_n 2, 1) := by decide +kernel
theorem dX5_game_10 : decode cX5_game 10 = .ok (.iconst 0, 1) := by decide +kernel
theorem dX5_game_11 : decode cX5_game 11 = .ok (.bipush 16, 2) := by decide +kernel
theorem dX5_game_13 : decode cX5_game 13 = .ok (.invokestatic 48, 3) := by decide +kernel
theorem dX5_game_16 : decode cX5_game 16 = .ok (.ifCond .eq 48, 3) := by decide +kernel
theorem dX5_game_19 : decode cX5_game 19 = .ok (.iload_n 1, 1) := by decide +kernel
theorem dX5_game_20 : decode cX5_game 20 = .ok (.ifCond .eq 13, 3) := by decide +kernel
theorem dX5_game_23 : decode cX5_game 23 = .ok (.iload_n 3, 1) := by decide +kernel
theorem dX5_game_24 : decode cX5_game 24 = .ok (.iconst 1, 1) := by decide +kernel
theorem dX5_game_25 : decode cX5_game 25 = .ok (.bipush 9, 2) := by decide +kernel
theorem dX5_game_27 : decode cX5_game 27 = .ok (.invokestatic 48, 3) := by decide +kernel
theorem dX5_game_30 : decode cX5_game 30 = .ok (.ifCond .eq 34, 3) := by decide +kernel
theorem dX5_game_33 : decode cX5_game 33 = .ok (.iload_n 1, 1) := by decide +kernel
theorem dX5_game_34 : decode cX5_game 34 = .ok (.iconst 2, 1) := by decide +kernel
theorem dX5_game_35 : decode cX5_game 35 = .ok (.if_icmp .lt 14, 3) := by decide +kernel
theorem dX5_game_38 : decode cX5_game 38 = .ok (.iload 4, 2) := by decide +kernel
theorem dX5_game_40 : decode cX5_game 40 = .ok (.iconst 0, 1) := by decide +kernel
theorem dX5_game_41 : decode cX5_game 41 = .ok (.bipush 10, 2) := by decide +kernel
theorem dX5_game_43 : decode cX5_game 43 = .ok (.invokestatic 48, 3) := by decide +kernel
theorem dX5_game_46 : decode cX5_game 46 = .ok (.ifCond .eq 18, 3) := by decide +kernel
theorem dX5_game_49 : decode cX5_game 49 = .ok (.iload 5, 2) := by decide +kernel
theorem dX5_game_51 : decode cX5_game 51 = .ok (.iconst 1, 1) := by decide +kernel
theorem dX5_game_52 : decode cX5_game 52 = .ok (.bipush 32, 2) := by decide +kernel
theorem dX5_game_54 : decode cX5_game 54 = .ok (.invokestatic 48, 3) := by decide +kernel
theorem dX5_game_57 : decode cX5_game 57 = .ok (.ifCond .eq 7, 3) := by decide +kernel
theorem dX5_game_60 : decode cX5_game 60 = .ok (.iconst 1, 1) := by decide +kernel
theorem dX5_game_61 : decode cX5_game 61 = .ok (.goto 4, 3) := by decide +kernel
theorem dX5_game_64 : decode cX5_game 64 = .ok (.iconst 0, 1) := by decide +kernel
theorem dX5_game_65 : decode cX5_game 65 = .ok (.istore 6, 2) := by decide +kernel
theorem dX5_game_67 : decode cX5_game 67 = .ok (.iload 6, 2) := by decide +kernel
theorem dX5_game_69 : decode cX5_game 69 = .ok (.ifCond .ne 5, 3) := by decide +kernel
theorem dX5_game_72 : decode cX5_game 72 = .ok (.iconst (-1), 1) := by decide +kernel
theorem dX5_game_73 : decode cX5_game 73 = .ok (.ireturn, 1) := by decide +kernel
theorem dX5_game_74 : decode cX5_game 74 = .ok (.aload_n 0, 1) := by decide +kernel
theorem dX5_game_75 : decode cX5_game 75 = .ok (.getfield 45, 3) := by decide +kernel
theorem dX5_game_78 : decode cX5_game 78 = .ok (.iconst 4, 1) := by decide +kernel
theorem dX5_game_79 : decode cX5_game 79 = .ok (.if_icmp .ne 6, 3) := by decide +kernel
theorem dX5_game_82 : decode cX5_game 82 = .ok (.bipush (-3), 2) := by decide +kernel
theorem dX5_game_84 : decode cX5_game 84 = .ok (.ireturn, 1) := by decide +kernel
theorem dX5_game_85 : decode cX5_game 85 = .ok (.aload_n 0, 1) := by decide +kernel
theorem dX5_game_86 : decode cX5_game 86 = .ok (.getfield 16, 3) := by decide +kernel
theorem dX5_game_89 : decode cX5_game 89 = .ok (.aload_n 0, 1) := by decide +kernel
theorem dX5_game_90 : decode cX5_game 90 = .ok (.getfield 45, 3) := by decide +kernel
theorem dX5_game_93 : decode cX5_game 93 = .ok (.iload_n 1, 1) := by decide +kernel
theorem dX5_game_94 : decode cX5_game 94 = .ok (.iastore, 1) := by decide +kernel
theorem dX5_game_95 : decode cX5_game 95 = .ok (.aload_n 0, 1) := by decide +kernel
theorem dX5_game_96 : decode cX5_game 96 = .ok (.getfield 20, 3) := by decide +kernel
theorem dX5_game_99 : decode cX5_game 99 = .ok (.aload_n 0, 1) := by decide +kernel
theorem dX5_game_100 : decode cX5_game 100 = .ok (.getfield 45, 3) := by decide +kernel
theorem dX5_game_103 : decode cX5_game 103 = .ok (.iload_n 2, 1) := by decide +kernel
theorem dX5_game_104 : decode cX5_game 104 = .ok (.iastore, 1) := by decide +kernel
theorem dX5_game_105 : decode cX5_game 105 = .ok (.aload_n 0, 1) := by decide +kernel
theorem dX5_game_106 : decode cX5_game 106 = .ok (.getfield 23, 3) := by decide +kernel
theorem dX5_game_109 : decode cX5_game 109 = .ok (.aload_n 0, 1) := by decide +kernel
theorem dX5_game_110 : decode cX5_game 110 = .ok (.getfield 45, 3) := by decide +kernel
theorem dX5_game_113 : decode cX5_game 113 = .ok (.iload_n 3, 1) := by decide +kernel
theorem dX5_game_114 : decode cX5_game 114 = .ok (.iastore, 1) := by decide +kernel
theorem dX5_game_115 : decode cX5_game 115 = .ok (.aload_n 0, 1) := by decide +kernel
theorem dX5_game_116 : decode cX5_game 116 = .ok (.getfield 26, 3) := by decide +kernel
theorem dX5_game_119 : decode cX5_game 119 = .ok (.aload_n 0, 1) := by decide +kernel
theorem dX5_game_120 : decode cX5_game 120 = .ok (.getfield 45, 3) := by decide +kernel
theorem dX5_game_123 : decode cX5_game 123 = .ok (.iload 4, 2) := by decide +kernel
theorem dX5_game_125 : decode cX5_game 125 = .ok (.iastore, 1) := by decide +kernel
theorem dX5_game_126 : decode cX5_game 126 = .ok (.aload_n 0, 1) := by decide +kernel
theorem dX5_game_127 : decode cX5_game 127 = .ok (.getfield 29, 3) := by decide +kernel
theorem dX5_game_130 : decode cX5_game 130 = .ok (.aload_n 0, 1) := by decide +kernel
theorem dX5_game_131 : decode cX5_game 131 = .ok (.getfield 45, 3) := by decide +kernel
theorem dX5_game_134 : decode cX5_game 134 = .ok (.iload 5, 2) := by decide +kernel
theorem dX5_game_136 : decode cX5_game 136 = .ok (.iastore, 1) := by decide +kernel
theorem dX5_game_137 : decode cX5_game 137 = .ok (.aload_n 0, 1) := by decide +kernel
theorem dX5_game_138 : decode cX5_game 138 = .ok (.dup, 1) := by decide +kernel
theorem dX5_game_139 : decode cX5_game 139 = .ok (.getfield 45, 3) := by decide +kernel
theorem dX5_game_142 : decode cX5_game 142 = .ok (.iconst 1, 1) := by decide +kernel
theorem dX5_game_143 : decode cX5_game 143 = .ok (.iadd, 1) := by decide +kernel
theorem dX5_game_144 : decode cX5_game 144 = .ok (.putfield 45, 3) := by decide +kernel
theorem dX5_game_147 : decode cX5_game 147 = .ok (.aload_n 0, 1) := by decide +kernel
theorem dX5_game_148 : decode cX5_game 148 = .ok (.getfield 45, 3) := by decide +kernel
theorem dX5_game_151 : decode cX5_game 151 = .ok (.iconst 1, 1) := by decide +kernel
theorem dX5_game_152 : decode cX5_game 152 = .ok (.isub, 1) := by decide +kernel
theorem dX5_game_153 : decode cX5_game 153 = .ok (.ireturn, 1) := by decide +kernel
theorem dX5_drop_0 : decode cX5_drop 0 = .ok (.aload_n 0, 1) := by decide +kernel
theorem dX5_drop_1 : decode cX5_drop 1 = .ok (.getfield 45, 3) := by decide +kernel
theorem dX5_drop_4 : decode cX5_drop 4 = .ok (.ifCond .ne 6, 3) := by decide +kernel
theorem dX5_drop_7 : decode cX5_drop 7 = .ok (.bipush (-2), 2) := by decide +kernel
theorem dX5_drop_9 : decode cX5_drop 9 = .ok (.ireturn, 1) := by decide +kernel
theorem dX5_drop_10 : decode cX5_drop 10 = .ok (.aload_n 0, 1) := by decide +kernel
theorem dX5_drop_11 : decode cX5_drop 11 = .ok (.dup, 1) := by decide +kernel
theorem dX5_drop_12 : decode cX5_drop 12 = .ok (.getfield 45, 3) := by decide +kernel
theorem dX5_drop_15 : decode cX5_drop 15 = .ok (.iconst 1, 1) := by decide +kernel
theorem dX5_drop_16 : decode cX5_drop 16 = .ok (.isub, 1) := by decide +kernel
theorem dX5_drop_17 : decode cX5_drop 17 = .ok (.putfield 45, 3) := by decide +kernel
theorem dX5_drop_20 : decode cX5_drop 20 = .ok (.aload_n 0, 1) := by decide +kernel
theorem dX5_drop_21 : decode cX5_drop 21 = .ok (.getfield 45, 3) := by decide +kernel
theorem dX5_drop_24 : decode cX5_drop 24 = .ok (.ireturn, 1) := by decide +kernel
theorem dX5_winOf_0 : decode cX5_winOf 0 = .ok (.aload_n 0, 1) := by decide +kernel
theorem dX5_winOf_1 : decode cX5_winOf 1 = .ok (.getfield 16, 3) := by decide +kernel
theorem dX5_winOf_4 : decode cX5_winOf 4 = .ok (.iload_n 1, 1) := by decide +kernel
theorem dX5_winOf_5 : decode cX5_winOf 5 = .ok (.iaload, 1) := by decide +kernel
theorem dX5_winOf_6 : decode cX5_winOf 6 = .ok (.ifCond .ne 7, 3) := by decide +kernel
theorem dX5_winOf_9 : decode cX5_winOf 9 = .ok (.iload_n 2, 1) := by decide +kernel
theorem dX5_winOf_10 : decode cX5_winOf 10 = .ok (.goto 11, 3) := by decide +kernel
theorem dX5_winOf_13 : decode cX5_winOf 13 = .ok (.iload_n 2, 1) := by decide +kernel
theorem dX5_winOf_14 : decode cX5_winOf 14 = .ok (.aload_n 0, 1) := by decide +kernel
theorem dX5_winOf_15 : decode cX5_winOf 15 = .ok (.getfield 23, 3) := by decide +kernel
theorem dX5_winOf_18 : decode cX5_winOf 18 = .ok (.iload_n 1, 1) := by decide +kernel
theorem dX5_winOf_19 : decode cX5_winOf 19 = .ok (.iaload, 1) := by decide +kernel
theorem dX5_winOf_20 : decode cX5_winOf 20 = .ok (.imul, 1) := by decide +kernel
theorem dX5_winOf_21 : decode cX5_winOf 21 = .ok (.istore_n 3, 1) := by decide +kernel
theorem dX5_winOf_22 : decode cX5_winOf 22 = .ok (.aload_n 0, 1) := by decide +kernel
theorem dX5_winOf_23 : decode cX5_winOf 23 = .ok (.getfield 16, 3) := by decide +kernel
theorem dX5_winOf_26 : decode cX5_winOf 26 = .ok (.iload_n 1, 1) := by decide +kernel
theorem dX5_winOf_27 : decode cX5_winOf 27 = .ok (.iaload, 1) := by decide +kernel
theorem dX5_winOf_28 : decode cX5_winOf 28 = .ok (.iconst 2, 1) := by decide +kernel
theorem dX5_winOf_29 : decode cX5_winOf 29 = .ok (.if_icmp .ne 19, 3) := by decide +kernel
theorem dX5_winOf_32 : decode cX5_winOf 32 = .ok (.iload_n 3, 1) := by decide +kernel
theorem dX5_winOf_33 : decode cX5_winOf 33 = .ok (.iload_n 3, 1) := by decide +kernel
theorem dX5_winOf_34 : decode cX5_winOf 34 = .ok (.aload_n 0, 1) := by decide +kernel
theorem dX5_winOf_35 : decode cX5_winOf 35 = .ok (.getfield 26, 3) := by decide +kernel
theorem dX5_winOf_38 : decode cX5_winOf 38 = .ok (.iload_n 1, 1) := by decide +kernel
theorem dX5_winOf_39 : decode cX5_winOf 39 = .ok (.iaload, 1) := by decide +kernel
theorem dX5_winOf_40 : decode cX5_winOf 40 = .ok (.imul, 1) := by decide +kernel
theorem dX5_winOf_41 : decode cX5_winOf 41 = .ok (.bipush 10, 2) := by decide +kernel
theorem dX5_winOf_43 : decode cX5_winOf 43 = .ok (.idiv, 1) := by decide +kernel
theorem dX5_winOf_44 : decode cX5_winOf 44 = .ok (.isub, 1) := by decide +kernel
theorem dX5_winOf_45 : decode cX5_winOf 45 = .ok (.goto 4, 3) := by decide +kernel
theorem dX5_winOf_48 : decode cX5_winOf 48 = .ok (.iload_n 3, 1) := by decide +kernel
theorem dX5_winOf_49 : decode cX5_winOf 49 = .ok (.ireturn, 1) := by decide +kernel
set_option maxRecDepth 20000 in
theorem ggX5_isGame_X5_in : GoodIn wsX5_isGame wsX5_in := goodIn_r _ [5] (by decide +kernel) (by decide +kernel)
set_option maxRecDepth 20000 in
theorem gX5_isGame_X5_in : GoodIn wsX5_isGame (va_wsS RX5 48 yX5_in wsX5_in) := goodIn_app (goodIn_of _ (by decide +kernel)) ggX5_isGame_X5_in
theorem dX5_isGame_0 : decode cX5_isGame 0 = .ok (.iload_n 1, 1) := by decide +kernel
theorem dX5_isGame_1 : decode cX5_isGame 1 = .ok (.iconst 0, 1) := by decide +kernel
theorem dX5_isGame_2 : decode cX5_isGame 2 = .ok (.aload_n 0, 1) := by decide +kernel
theorem dX5_isGame_3 : decode cX5_isGame 3 = .ok (.getfield 45, 3) := by decide +kernel
theorem dX5_isGame_6 : decode cX5_isGame 6 = .ok (.iconst 1, 1) := by decide +kernel
theorem dX5_isGame_7 : decode cX5_isGame 7 = .ok (.isub, 1) := by decide +kernel
theorem dX5_isGame_8 : decode cX5_isGame 8 = .ok (.invokestatic 48, 3) := by decide +kernel
theorem dX5_isGame_11 : decode cX5_isGame 11 = .ok (.ireturn, 1) := by decide +kernel
set_option maxRecDepth 20000 in
theorem ggX5_win_X5_isGame : GoodIn wsX5_win wsX5_isGame := goodIn_r _ [9, 10, 11, 12, 8, 13, 20, 21, 22, 23, 24, 25, 26, 27, 28, 29, 30, 31, 32, 33] (by decide +kernel) (by decide +kernel)
set_option maxRecDepth 20000 in
theorem gX5_win_X5_isGame : GoodIn wsX5_win (wsV RX5 52 RX5 yX5_isGame wsX5_isGame) := goodIn_app (goodIn_of _ (by decide +kernel)) ggX5_win_X5_isGame
set_option maxRecDepth 20000 in
theorem ggX5_win_X5_in : GoodIn wsX5_win wsX5_in := goodIn_r _ [13] (by decide +kernel) (by decide +kernel)
set_option maxRecDepth 20000 in
theorem gX5_win_X5_in : GoodIn wsX5_win (va_wsS RX5 48 yX5_in wsX5_in) := goodIn_app (goodIn_of _ (by decide +kernel)) ggX5_win_X5_in
set_option maxRecDepth 20000 in
theorem ggX5_win_X5_winOf : GoodIn wsX5_win wsX5_winOf := goodIn_r _ [17, 2, 18, 19, 20, 21, 22, 23, 24, 25, 26, 27, 28, 29, 30, 31, 32, 33] (by decide +kernel) (by decide +kernel)
set_option maxRecDepth 20000 in
theorem gX5_win_X5_winOf : GoodIn wsX5_win (wsV RX5 64 RX5 yX5_winOf wsX5_winOf) := goodIn_app (goodIn_of _ (by decide +kernel)) ggX5_win_X5_winOf
theorem dX5_win_0 : decode cX5_win 0 = .ok (.aload_n 0, 1) := by decide +kernel
theorem dX5_win_1 : decode cX5_win 1 = .ok (.iload_n 1, 1) := by decide +kernel
theorem dX5_win_2 : decode cX5_win 2 = .ok (.invokevirtual 52, 3) := by decide +kernel
theorem dX5_win_5 : decode cX5_win 5 = .ok (.ifCond .eq 13, 3) := by decide +kernel
theorem dX5_win_8 : decode cX5_win 8 = .ok (.iload_n 2, 1) := by decide +kernel
theorem dX5_win_9 : decode cX5_win 9 = .ok (.iconst 1, 1) := by decide +kernel
theorem dX5_win_10 : decode cX5_win 10 = .ok (.bipush 32, 2) := by decide +kernel
theorem dX5_win_12 : decode cX5_win 12 = .ok (.invokestatic 48, 3) := by decide +kernel
theorem dX5_win_15 : decode cX5_win 15 = .ok (.ifCond .ne 5, 3) := by decide +kernel
theorem dX5_win_18 : decode cX5_win 18 = .ok (.iconst (-1), 1) := by decide +kernel
theorem dX5_win_19 : decode cX5_win 19 = .ok (.ireturn, 1) := by decide +kernel
theorem dX5_win_20 : decode cX5_win 20 = .ok (.aload_n 0, 1) := by decide +kernel
theorem dX5_win_21 : decode cX5_win 21 = .ok (.dup, 1) := by decide +kernel
theorem dX5_win_22 : decode cX5_win 22 = .ok (.getfield 56, 3) := by decide +kernel
theorem dX5_win_25 : decode cX5_win 25 = .ok (.aload_n 0, 1) := by decide +kernel
theorem dX5_win_26 : decode cX5_win 26 = .ok (.getfield 16, 3) := by decide +kernel
theorem dX5_win_29 : decode cX5_win 29 = .ok (.iload_n 1, 1) := by decide +kernel
theorem dX5_win_30 : decode cX5_win 30 = .ok (.iaload, 1) := by decide +kernel
theorem dX5_win_31 : decode cX5_win 31 = .ok (.ifCond .ne 7, 3) := by decide +kernel
theorem dX5_win_34 : decode cX5_win 34 = .ok (.lconst 1, 1) := by decide +kernel
theorem dX5_win_35 : decode cX5_win 35 = .ok (.goto 22, 3) := by decide +kernel
theorem dX5_win_38 : decode cX5_win 38 = .ok (.aload_n 0, 1) := by decide +kernel
theorem dX5_win_39 : decode cX5_win 39 = .ok (.getfield 16, 3) := by decide +kernel
theorem dX5_win_42 : decode cX5_win 42 = .ok (.iload_n 1, 1) := by decide +kernel
theorem dX5_win_43 : decode cX5_win 43 = .ok (.iaload, 1) := by decide +kernel
theorem dX5_win_44 : decode cX5_win 44 = .ok (.iconst 1, 1) := by decide +kernel
theorem dX5_win_45 : decode cX5_win 45 = .ok (.if_icmp .ne 9, 3) := by decide +kernel
theorem dX5_win_48 : decode cX5_win 48 = .ok (.ldc2_w 60, 3) := by decide +kernel
theorem dX5_win_51 : decode cX5_win 51 = .ok (.goto 6, 3) := by decide +kernel
theorem dX5_win_54 : decode cX5_win 54 = .ok (.ldc2_w 62, 3) := by decide +kernel
theorem dX5_win_57 : decode cX5_win 57 = .ok (.ladd, 1) := by decide +kernel
theorem dX5_win_58 : decode cX5_win 58 = .ok (.putfield 56, 3) := by decide +kernel
theorem dX5_win_61 : decode cX5_win 61 = .ok (.aload_n 0, 1) := by decide +kernel
theorem dX5_win_62 : decode cX5_win 62 = .ok (.iload_n 1, 1) := by decide +kernel
theorem dX5_win_63 : decode cX5_win 63 = .ok (.iload_n 2, 1) := by decide +kernel
theorem dX5_win_64 : decode cX5_win 64 = .ok (.invokevirtual 64, 3) := by decide +kernel
theorem dX5_win_67 : decode cX5_win 67 = .ok (.ireturn, 1) := by decide +kernel
set_option maxRecDepth 20000 in
theorem ggX5_behind_X5_winOf : GoodIn wsX5_behind wsX5_winOf := goodIn_r _ [6, 7, 8, 9, 10, 11, 12, 13, 14, 15, 16, 17, 18, 19, 20, 21, 22, 23] (by decide +kernel) (by decide +kernel)
set_option maxRecDepth 20000 in
theorem gX5_behind_X5_winOf : GoodIn wsX5_behind (wsV RX5 64 RX5 yX5_winOf wsX5_winOf) := goodIn_app (goodIn_of _ (by decide +kernel)) ggX5_behind_X5_winOf
theorem dX5_behind_0 : decode cX5_behind 0 = .ok (.iload_n 2, 1) := by decide +kernel
theorem dX5_behind_1 : decode cX5_behind 1 = .ok (.aload_n 0, 1) := by decide +kernel
theorem dX5_behind_2 : decode cX5_behind 2 = .ok (.iload_n 1, 1) := by decide +kernel
theorem dX5_behind_3 : decode cX5_behind 3 = .ok (.iload_n 3, 1) := by decide +kernel
theorem dX5_behind_4 : decode cX5_behind 4 = .ok (.invokevirtual 64, 3) := by decide +kernel
theorem dX5_behind_7 : decode cX5_behind 7 = .ok (.iadd, 1) := by decide +kernel
theorem dX5_behind_8 : decode cX5_behind 8 = .ok (.istore 4, 2) := by decide +kernel
theorem dX5_behind_10 : decode cX5_behind 10 = .ok (.iload 4, 2) := by decide +kernel
theorem dX5_behind_12 : decode cX5_behind 12 = .ok (.aload_n 0, 1) := by decide +kernel
theorem dX5_behind_13 : decode cX5_behind 13 = .ok (.getfield 7, 3) := by decide +kernel
theorem dX5_behind_16 : decode cX5_behind 16 = .ok (.if_icmp .le 10, 3) := by decide +kernel
theorem dX5_behind_19 : decode cX5_behind 19 = .ok (.aload_n 0, 1) := by decide +kernel
theorem dX5_behind_20 : decode cX5_behind 20 = .ok (.getfield 7, 3) := by decide +kernel
theorem dX5_behind_23 : decode cX5_behind 23 = .ok (.goto 5, 3) := by decide +kernel
theorem dX5_behind_26 : decode cX5_behind 26 = .ok (.iload 4, 2) := by decide +kernel
theorem dX5_behind_28 : decode cX5_behind 28 = .ok (.ireturn, 1) := by decide +kernel
theorem dX5_mostAt_0 : decode cX5_mostAt 0 = .ok (.iload_n 2, 1) := by decide +kernel
theorem dX5_mostAt_1 : decode cX5_mostAt 1 = .ok (.aload_n 0, 1) := by decide +kernel
theorem dX5_mostAt_2 : decode cX5_mostAt 2 = .ok (.getfield 29, 3) := by decide +kernel
theorem dX5_mostAt_5 : decode cX5_mostAt 5 = .ok (.iload_n 1, 1) := by decide +kernel
theorem dX5_mostAt_6 : decode cX5_mostAt 6 = .ok (.iaload, 1) := by decide +kernel
theorem dX5_mostAt_7 : decode cX5_mostAt 7 = .ok (.if_icmp .ge 7, 3) := by decide +kernel
theorem dX5_mostAt_10 : decode cX5_mostAt 10 = .ok (.iload_n 2, 1) := by decide +kernel
theorem dX5_mostAt_11 : decode cX5_mostAt 11 = .ok (.goto 9, 3) := by decide +kernel
theorem dX5_mostAt_14 : decode cX5_mostAt 14 = .ok (.aload_n 0, 1) := by decide +kernel
theorem dX5_mostAt_15 : decode cX5_mostAt 15 = .ok (.getfield 29, 3) := by decide +kernel
theorem dX5_mostAt_18 : decode cX5_mostAt 18 = .ok (.iload_n 1, 1) := by decide +kernel
theorem dX5_mostAt_19 : decode cX5_mostAt 19 = .ok (.iaload, 1) := by decide +kernel
theorem dX5_mostAt_20 : decode cX5_mostAt 20 = .ok (.ireturn, 1) := by decide +kernel
set_option maxRecDepth 20000 in
theorem ggX5_worth_X5_behind : GoodIn wsX5_worth wsX5_behind := goodIn_r _ [7, 8, 9, 10, 11, 6, 12, 13, 14, 15, 16, 17, 18, 19, 20, 21, 22, 23, 24, 25, 26, 27, 28, 29] (by decide +kernel) (by decide +kernel)
set_option maxRecDepth 20000 in
theorem gX5_worth_X5_behind : GoodIn wsX5_worth (wsV RX5 68 RX5 yX5_behind wsX5_behind) := goodIn_app (goodIn_of _ (by decide +kernel)) ggX5_worth_X5_behind
theorem dX5_worth_0 : decode cX5_worth 0 = .ok (.aload_n 0, 1) := by decide +kernel
theorem dX5_worth_1 : decode cX5_worth 1 = .ok (.getfield 35, 3) := by decide +kernel
theorem dX5_worth_4 : decode cX5_worth 4 = .ok (.bipush 33, 2) := by decide +kernel
theorem dX5_worth_6 : decode cX5_worth 6 = .ok (.iload 4, 2) := by decide +kernel
theorem dX5_worth_8 : decode cX5_worth 8 = .ok (.iconst 1, 1) := by decide +kernel
theorem dX5_worth_9 : decode cX5_worth 9 = .ok (.isub, 1) := by decide +kernel
theorem dX5_worth_10 : decode cX5_worth 10 = .ok (.imul, 1) := by decide +kernel
theorem dX5_worth_11 : decode cX5_worth 11 = .ok (.aload_n 0, 1) := by decide +kernel
theorem dX5_worth_12 : decode cX5_worth 12 = .ok (.iload_n 1, 1) := by decide +kernel
theorem dX5_worth_13 : decode cX5_worth 13 = .ok (.iload_n 2, 1) := by decide +kernel
theorem dX5_worth_14 : decode cX5_worth 14 = .ok (.iload_n 3, 1) := by decide +kernel
theorem dX5_worth_15 : decode cX5_worth 15 = .ok (.invokevirtual 68, 3) := by decide +kernel
theorem dX5_worth_18 : decode cX5_worth 18 = .ok (.iadd, 1) := by decide +kernel
theorem dX5_worth_19 : decode cX5_worth 19 = .ok (.laload, 1) := by decide +kernel
theorem dX5_worth_20 : decode cX5_worth 20 = .ok (.lstore 5, 2) := by decide +kernel
theorem dX5_worth_22 : decode cX5_worth 22 = .ok (.aload_n 0, 1) := by decide +kernel
theorem dX5_worth_23 : decode cX5_worth 23 = .ok (.getfield 35, 3) := by decide +kernel
theorem dX5_worth_26 : decode cX5_worth 26 = .ok (.bipush 33, 2) := by decide +kernel
theorem dX5_worth_28 : decode cX5_worth 28 = .ok (.iload 4, 2) := by decide +kernel
theorem dX5_worth_30 : decode cX5_worth 30 = .ok (.iconst 1, 1) := by decide +kernel
theorem dX5_worth_31 : decode cX5_worth 31 = .ok (.isub, 1) := by decide +kernel
theorem dX5_worth_32 : decode cX5_worth 32 = .ok (.imul, 1) := by decide +kernel
theorem dX5_worth_33 : decode cX5_worth 33 = .ok (.iload_n 2, 1) := by decide +kernel
theorem dX5_worth_34 : decode cX5_worth 34 = .ok (.iadd, 1) := by decide +kernel
theorem dX5_worth_35 : decode cX5_worth 35 = .ok (.iload_n 3, 1) := by decide +kernel
theorem dX5_worth_36 : decode cX5_worth 36 = .ok (.isub, 1) := by decide +kernel
theorem dX5_worth_37 : decode cX5_worth 37 = .ok (.laload, 1) := by decide +kernel
theorem dX5_worth_38 : decode cX5_worth 38 = .ok (.lstore 7, 2) := by decide +kernel
theorem dX5_worth_40 : decode cX5_worth 40 = .ok (.aload_n 0, 1) := by decide +kernel
theorem dX5_worth_41 : decode cX5_worth 41 = .ok (.getfield 20, 3) := by decide +kernel
theorem dX5_worth_44 : decode cX5_worth 44 = .ok (.iload_n 1, 1) := by decide +kernel
theorem dX5_worth_45 : decode cX5_worth 45 = .ok (.iaload, 1) := by decide +kernel
theorem dX5_worth_46 : decode cX5_worth 46 = .ok (.i2l, 1) := by decide +kernel
theorem dX5_worth_47 : decode cX5_worth 47 = .ok (.lload 5, 2) := by decide +kernel
theorem dX5_worth_49 : decode cX5_worth 49 = .ok (.lmul, 1) := by decide +kernel
theorem dX5_worth_50 : decode cX5_worth 50 = .ok (.bipush 16, 2) := by decide +kernel
theorem dX5_worth_52 : decode cX5_worth 52 = .ok (.aload_n 0, 1) := by decide +kernel
theorem dX5_worth_53 : decode cX5_worth 53 = .ok (.getfield 20, 3) := by decide +kernel
theorem dX5_worth_56 : decode cX5_worth 56 = .ok (.iload_n 1, 1) := by decide +kernel
theorem dX5_worth_57 : decode cX5_worth 57 = .ok (.iaload, 1) := by decide +kernel
theorem dX5_worth_58 : decode cX5_worth 58 = .ok (.isub, 1) := by decide +kernel
theorem dX5_worth_59 : decode cX5_worth 59 = .ok (.i2l, 1) := by decide +kernel
theorem dX5_worth_60 : decode cX5_worth 60 = .ok (.lload 7, 2) := by decide +kernel
theorem dX5_worth_62 : decode cX5_worth 62 = .ok (.lmul, 1) := by decide +kernel
theorem dX5_worth_63 : decode cX5_worth 63 = .ok (.ladd, 1) := by decide +kernel
theorem dX5_worth_64 : decode cX5_worth 64 = .ok (.lreturn, 1) := by decide +kernel
set_option maxRecDepth 20000 in
theorem ggX5_work_X5_mostAt : GoodIn wsX5_work wsX5_mostAt := goodIn_r _ [8, 9, 26, 27, 28, 29, 30, 31, 32, 33, 34, 35, 36, 37, 38, 39] (by decide +kernel) (by decide +kernel)
set_option maxRecDepth 20000 in
theorem gX5_work_X5_mostAt : GoodIn wsX5_work (wsV RX5 74 RX5 yX5_mostAt wsX5_mostAt) := goodIn_app (goodIn_of _ (by decide +kernel)) ggX5_work_X5_mostAt
set_option maxRecDepth 20000 in
theorem ggX5_work_X5_worth : GoodIn wsX5_work wsX5_worth := goodIn_r _ [13, 2, 14, 15, 16, 17, 7, 18, 1, 19, 20, 21, 22, 23, 24, 25, 26, 27, 28, 29, 30, 31, 32, 33, 34, 35, 36, 37, 38, 39] (by decide +kernel) (by decide +kernel)
set_option maxRecDepth 20000 in
theorem gX5_work_X5_worth : GoodIn wsX5_work (wsV RX5 77 RX5 yX5_worth wsX5_worth) := goodIn_app (goodIn_of _ (by decide +kernel)) ggX5_work_X5_worth
theorem dX5_work_0 : decode cX5_work 0 = .ok (.iconst 0, 1) := by decide +kernel
theorem dX5_work_1 : decode cX5_work 1 = .ok (.istore 5, 2) := by decide +kernel
theorem dX5_work_3 : decode cX5_work 3 = .ok (.iload 5, 2) := by decide +kernel
theorem dX5_work_5 : decode cX5_work 5 = .ok (.aload_n 0, 1) := by decide +kernel
theorem dX5_work_6 : decode cX5_work 6 = .ok (.getfield 7, 3) := by decide +kernel
theorem dX5_work_9 : decode cX5_work 9 = .ok (.if_icmp .gt 40, 3) := by decide +kernel
theorem dX5_work_12 : decode cX5_work 12 = .ok (.aload_n 0, 1) := by decide +kernel
theorem dX5_work_13 : decode cX5_work 13 = .ok (.getfield 35, 3) := by decide +kernel
theorem dX5_work_16 : decode cX5_work 16 = .ok (.iload 5, 2) := by decide +kernel
theorem dX5_work_18 : decode cX5_work 18 = .ok (.iload_n 2, 1) := by decide +kernel
theorem dX5_work_19 : decode cX5_work 19 = .ok (.ifCond .eq 9, 3) := by decide +kernel
theorem dX5_work_22 : decode cX5_work 22 = .ok (.iload 5, 2) := by decide +kernel
theorem dX5_work_24 : decode cX5_work 24 = .ok (.i2l, 1) := by decide +kernel
theorem dX5_work_25 : decode cX5_work 25 = .ok (.goto 17, 3) := by decide +kernel
theorem dX5_work_28 : decode cX5_work 28 = .ok (.iload 5, 2) := by decide +kernel
theorem dX5_work_30 : decode cX5_work 30 = .ok (.aload_n 0, 1) := by decide +kernel
theorem dX5_work_31 : decode cX5_work 31 = .ok (.getfield 7, 3) := by decide +kernel
theorem dX5_work_34 : decode cX5_work 34 = .ok (.if_icmp .ne 7, 3) := by decide +kernel
theorem dX5_work_37 : decode cX5_work 37 = .ok (.lconst 1, 1) := by decide +kernel
theorem dX5_work_38 : decode cX5_work 38 = .ok (.goto 4, 3) := by decide +kernel
theorem dX5_work_41 : decode cX5_work 41 = .ok (.lconst 0, 1) := by decide +kernel
theorem dX5_work_42 : decode cX5_work 42 = .ok (.lastore, 1) := by decide +kernel
theorem dX5_work_43 : decode cX5_work 43 = .ok (.iinc 5 1, 3) := by decide +kernel
theorem dX5_work_46 : decode cX5_work 46 = .ok (.goto (-43), 3) := by decide +kernel
theorem dX5_work_49 : decode cX5_work 49 = .ok (.iconst 1, 1) := by decide +kernel
theorem dX5_work_50 : decode cX5_work 50 = .ok (.istore 5, 2) := by decide +kernel
theorem dX5_work_52 : decode cX5_work 52 = .ok (.iload 5, 2) := by decide +kernel
theorem dX5_work_54 : decode cX5_work 54 = .ok (.iload_n 1, 1) := by decide +kernel
theorem dX5_work_55 : decode cX5_work 55 = .ok (.if_icmp .gt 146, 3) := by decide +kernel
theorem dX5_work_58 : decode cX5_work 58 = .ok (.iconst 0, 1) := by decide +kernel
theorem dX5_work_59 : decode cX5_work 59 = .ok (.istore 6, 2) := by decide +kernel
theorem dX5_work_61 : decode cX5_work 61 = .ok (.iload 6, 2) := by decide +kernel
theorem dX5_work_63 : decode cX5_work 63 = .ok (.aload_n 0, 1) := by decide +kernel
theorem dX5_work_64 : decode cX5_work 64 = .ok (.getfield 7, 3) := by decide +kernel
theorem dX5_work_67 : decode cX5_work 67 = .ok (.if_icmp .gt 128, 3) := by decide +kernel
theorem dX5_work_70 : decode cX5_work 70 = .ok (.ldc2_w 72, 3) := by decide +kernel
theorem dX5_work_73 : decode cX5_work 73 = .ok (.aload_n 0, 1) := by decide +kernel
theorem dX5_work_74 : decode cX5_work 74 = .ok (.getfield 35, 3) := by decide +kernel
theorem dX5_work_77 : decode cX5_work 77 = .ok (.bipush 33, 2) := by decide +kernel
theorem dX5_work_79 : decode cX5_work 79 = .ok (.iload 5, 2) := by decide +kernel
theorem dX5_work_81 : decode cX5_work 81 = .ok (.iconst 1, 1) := by decide +kernel
theorem dX5_work_82 : decode cX5_work 82 = .ok (.isub, 1) := by decide +kernel
theorem dX5_work_83 : decode cX5_work 83 = .ok (.imul, 1) := by decide +kernel
theorem dX5_work_84 : decode cX5_work 84 = .ok (.iload 6, 2) := by decide +kernel
theorem dX5_work_86 : decode cX5_work 86 = .ok (.iadd, 1) := by decide +kernel
theorem dX5_work_87 : decode cX5_work 87 = .ok (.laload, 1) := by decide +kernel
theorem dX5_work_88 : decode cX5_work 88 = .ok (.lmul, 1) := by decide +kernel
theorem dX5_work_89 : decode cX5_work 89 = .ok (.lstore 7, 2) := by decide +kernel
theorem dX5_work_91 : decode cX5_work 91 = .ok (.iload_n 3, 1) := by decide +kernel
theorem dX5_work_92 : decode cX5_work 92 = .ok (.istore 9, 2) := by decide +kernel
theorem dX5_work_94 : decode cX5_work 94 = .ok (.iload 9, 2) := by decide +kernel
theorem dX5_work_96 : decode cX5_work 96 = .ok (.iload 4, 2) := by decide +kernel
theorem dX5_work_98 : decode cX5_work 98 = .ok (.if_icmp .gt 76, 3) := by decide +kernel
theorem dX5_work_101 : decode cX5_work 101 = .ok (.iload 6, 2) := by decide +kernel
theorem dX5_work_103 : decode cX5_work 103 = .ok (.ifCond .le 71, 3) := by decide +kernel
theorem dX5_work_106 : decode cX5_work 106 = .ok (.iload 6, 2) := by decide +kernel
theorem dX5_work_108 : decode cX5_work 108 = .ok (.aload_n 0, 1) := by decide +kernel
theorem dX5_work_109 : decode cX5_work 109 = .ok (.getfield 7, 3) := by decide +kernel
theorem dX5_work_112 : decode cX5_work 112 = .ok (.if_icmp .ge 62, 3) := by decide +kernel
theorem dX5_work_115 : decode cX5_work 115 = .ok (.iconst 1, 1) := by decide +kernel
theorem dX5_work_116 : decode cX5_work 116 = .ok (.istore 10, 2) := by decide +kernel
theorem dX5_work_118 : decode cX5_work 118 = .ok (.iload 10, 2) := by decide +kernel
theorem dX5_work_120 : decode cX5_work 120 = .ok (.aload_n 0, 1) := by decide +kernel
theorem dX5_work_121 : decode cX5_work 121 = .ok (.iload 9, 2) := by decide +kernel
theorem dX5_work_123 : decode cX5_work 123 = .ok (.iload 6, 2) := by decide +kernel
theorem dX5_work_125 : decode cX5_work 125 = .ok (.invokevirtual 74, 3) := by decide +kernel
theorem dX5_work_128 : decode cX5_work 128 = .ok (.if_icmp .gt 40, 3) := by decide +kernel
theorem dX5_work_131 : decode cX5_work 131 = .ok (.aload_n 0, 1) := by decide +kernel
theorem dX5_work_132 : decode cX5_work 132 = .ok (.iload 9, 2) := by decide +kernel
theorem dX5_work_134 : decode cX5_work 134 = .ok (.iload 6, 2) := by decide +kernel
theorem dX5_work_136 : decode cX5_work 136 = .ok (.iload 10, 2) := by decide +kernel
theorem dX5_work_138 : decode cX5_work 138 = .ok (.iload 5, 2) := by decide +kernel
theorem dX5_work_140 : decode cX5_work 140 = .ok (.invokevirtual 77, 3) := by decide +kernel
theorem dX5_work_143 : decode cX5_work 143 = .ok (.lstore 11, 2) := by decide +kernel
theorem dX5_work_145 : decode cX5_work 145 = .ok (.lload 11, 2) := by decide +kernel
theorem dX5_work_147 : decode cX5_work 147 = .ok (.lload 7, 2) := by decide +kernel
theorem dX5_work_149 : decode cX5_work 149 = .ok (.lcmp, 1) := by decide +kernel
theorem dX5_work_150 : decode cX5_work 150 = .ok (.ifCond .le 8, 3) := by decide +kernel
theorem dX5_work_153 : decode cX5_work 153 = .ok (.lload 11, 2) := by decide +kernel
theorem dX5_work_155 : decode cX5_work 155 = .ok (.goto 5, 3) := by decide +kernel
theorem dX5_work_158 : decode cX5_work 158 = .ok (.lload 7, 2) := by decide +kernel
theorem dX5_work_160 : decode cX5_work 160 = .ok (.lstore 7, 2) := by decide +kernel
theorem dX5_work_162 : decode cX5_work 162 = .ok (.iinc 10 1, 3) := by decide +kernel
theorem dX5_work_165 : decode cX5_work 165 = .ok (.goto (-47), 3) := by decide +kernel
theorem dX5_work_168 : decode cX5_work 168 = .ok (.iinc 9 1, 3) := by decide +kernel
theorem dX5_work_171 : decode cX5_work 171 = .ok (.goto (-77), 3) := by decide +kernel
theorem dX5_work_174 : decode cX5_work 174 = .ok (.aload_n 0, 1) := by decide +kernel
theorem dX5_work_175 : decode cX5_work 175 = .ok (.getfield 35, 3) := by decide +kernel
theorem dX5_work_178 : decode cX5_work 178 = .ok (.bipush 33, 2) := by decide +kernel
theorem dX5_work_180 : decode cX5_work 180 = .ok (.iload 5, 2) := by decide +kernel
theorem dX5_work_182 : decode cX5_work 182 = .ok (.imul, 1) := by decide +kernel
theorem dX5_work_183 : decode cX5_work 183 = .ok (.iload 6, 2) := by decide +kernel
theorem dX5_work_185 : decode cX5_work 185 = .ok (.iadd, 1) := by decide +kernel
theorem dX5_work_186 : decode cX5_work 186 = .ok (.lload 7, 2) := by decide +kernel
theorem dX5_work_188 : decode cX5_work 188 = .ok (.lastore, 1) := by decide +kernel
theorem dX5_work_189 : decode cX5_work 189 = .ok (.iinc 6 1, 3) := by decide +kernel
theorem dX5_work_192 : decode cX5_work 192 = .ok (.goto (-131), 3) := by decide +kernel
theorem dX5_work_195 : decode cX5_work 195 = .ok (.iinc 5 1, 3) := by decide +kernel
theorem dX5_work_198 : decode cX5_work 198 = .ok (.goto (-146), 3) := by decide +kernel
theorem dX5_work_201 : decode cX5_work 201 = .ok (.return_, 1) := by decide +kernel
set_option maxRecDepth 20000 in
theorem ggX5_isPurse_X5_in : GoodIn wsX5_isPurse wsX5_in := goodIn_r _ [5] (by decide +kernel) (by decide +kernel)
set_option maxRecDepth 20000 in
theorem gX5_isPurse_X5_in : GoodIn wsX5_isPurse (va_wsS RX5 48 yX5_in wsX5_in) := goodIn_app (goodIn_of _ (by decide +kernel)) ggX5_isPurse_X5_in
theorem dX5_isPurse_0 : decode cX5_isPurse 0 = .ok (.iload_n 1, 1) := by decide +kernel
theorem dX5_isPurse_1 : decode cX5_isPurse 1 = .ok (.iconst 0, 1) := by decide +kernel
theorem dX5_isPurse_2 : decode cX5_isPurse 2 = .ok (.aload_n 0, 1) := by decide +kernel
theorem dX5_isPurse_3 : decode cX5_isPurse 3 = .ok (.getfield 7, 3) := by decide +kernel
theorem dX5_isPurse_6 : decode cX5_isPurse 6 = .ok (.invokestatic 48, 3) := by decide +kernel
theorem dX5_isPurse_9 : decode cX5_isPurse 9 = .ok (.ireturn, 1) := by decide +kernel
set_option maxRecDepth 20000 in
theorem ggX5_best_X5_isPurse : GoodIn wsX5_best wsX5_isPurse := goodIn_r _ [10, 11, 12, 13, 9, 14, 41, 42, 43, 44, 45, 46, 47, 48, 49, 50, 51, 52, 53, 54] (by decide +kernel) (by decide +kernel)
set_option maxRecDepth 20000 in
theorem gX5_best_X5_isPurse : GoodIn wsX5_best (wsV RX5 81 RX5 yX5_isPurse wsX5_isPurse) := goodIn_app (goodIn_of _ (by decide +kernel)) ggX5_best_X5_isPurse
set_option maxRecDepth 20000 in
theorem ggX5_best_X5_in : GoodIn wsX5_best wsX5_in := goodIn_r _ [14] (by decide +kernel) (by decide +kernel)
set_option maxRecDepth 20000 in
theorem gX5_best_X5_in : GoodIn wsX5_best (va_wsS RX5 48 yX5_in wsX5_in) := goodIn_app (goodIn_of _ (by decide +kernel)) ggX5_best_X5_in
set_option maxRecDepth 20000 in
theorem ggX5_best_X5_work : GoodIn wsX5_best wsX5_work := goodIn_r _ [18, 11, 5, 19, 20, 21, 22, 9, 23, 24, 25, 26, 27, 28, 29, 30, 31, 32, 33, 34, 35, 36, 37, 38, 39, 40, 41, 42, 43, 44, 45, 46, 47, 48, 49, 50, 51, 52, 53, 54] (by decide +kernel) (by decide +kernel)
set_option maxRecDepth 20000 in
theorem gX5_best_X5_work : GoodIn wsX5_best (wsV RX5 88 RX5 yX5_work wsX5_work) := goodIn_app (goodIn_of _ (by decide +kernel)) ggX5_best_X5_work
theorem dX5_best_0 : decode cX5_best 0 = .ok (.aload_n 0, 1) := by decide +kernel
theorem dX5_best_1 : decode cX5_best 1 = .ok (.iload_n 1, 1) := by decide +kernel
theorem dX5_best_2 : decode cX5_best 2 = .ok (.invokevirtual 81, 3) := by decide +kernel
theorem dX5_best_5 : decode cX5_best 5 = .ok (.ifCond .eq 15, 3) := by decide +kernel
theorem dX5_best_8 : decode cX5_best 8 = .ok (.iload_n 2, 1) := by decide +kernel
theorem dX5_best_9 : decode cX5_best 9 = .ok (.iconst 0, 1) := by decide +kernel
theorem dX5_best_10 : decode cX5_best 10 = .ok (.aload_n 0, 1) := by decide +kernel
theorem dX5_best_11 : decode cX5_best 11 = .ok (.getfield 13, 3) := by decide +kernel
theorem dX5_best_14 : decode cX5_best 14 = .ok (.invokestatic 48, 3) := by decide +kernel
theorem dX5_best_17 : decode cX5_best 17 = .ok (.ifCond .ne 7, 3) := by decide +kernel
theorem dX5_best_20 : decode cX5_best 20 = .ok (.ldc2_w 84, 3) := by decide +kernel
theorem dX5_best_23 : decode cX5_best 23 = .ok (.lreturn, 1) := by decide +kernel
theorem dX5_best_24 : decode cX5_best 24 = .ok (.aload_n 0, 1) := by decide +kernel
theorem dX5_best_25 : decode cX5_best 25 = .ok (.getfield 45, 3) := by decide +kernel
theorem dX5_best_28 : decode cX5_best 28 = .ok (.ifCond .ne 7, 3) := by decide +kernel
theorem dX5_best_31 : decode cX5_best 31 = .ok (.ldc2_w 86, 3) := by decide +kernel
theorem dX5_best_34 : decode cX5_best 34 = .ok (.lreturn, 1) := by decide +kernel
theorem dX5_best_35 : decode cX5_best 35 = .ok (.aload_n 0, 1) := by decide +kernel
theorem dX5_best_36 : decode cX5_best 36 = .ok (.iload_n 2, 1) := by decide +kernel
theorem dX5_best_37 : decode cX5_best 37 = .ok (.iconst 0, 1) := by decide +kernel
theorem dX5_best_38 : decode cX5_best 38 = .ok (.iconst 0, 1) := by decide +kernel
theorem dX5_best_39 : decode cX5_best 39 = .ok (.aload_n 0, 1) := by decide +kernel
theorem dX5_best_40 : decode cX5_best 40 = .ok (.getfield 45, 3) := by decide +kernel
theorem dX5_best_43 : decode cX5_best 43 = .ok (.iconst 1, 1) := by decide +kernel
theorem dX5_best_44 : decode cX5_best 44 = .ok (.isub, 1) := by decide +kernel
theorem dX5_best_45 : decode cX5_best 45 = .ok (.invokevirtual 88, 3) := by decide +kernel
theorem dX5_best_48 : decode cX5_best 48 = .ok (.aload_n 0, 1) := by decide +kernel
theorem dX5_best_49 : decode cX5_best 49 = .ok (.getfield 35, 3) := by decide +kernel
theorem dX5_best_52 : decode cX5_best 52 = .ok (.bipush 33, 2) := by decide +kernel
theorem dX5_best_54 : decode cX5_best 54 = .ok (.iload_n 2, 1) := by decide +kernel
theorem dX5_best_55 : decode cX5_best 55 = .ok (.imul, 1) := by decide +kernel
theorem dX5_best_56 : decode cX5_best 56 = .ok (.iload_n 1, 1) := by decide +kernel
theorem dX5_best_57 : decode cX5_best 57 = .ok (.iadd, 1) := by decide +kernel
theorem dX5_best_58 : decode cX5_best 58 = .ok (.laload, 1) := by decide +kernel
theorem dX5_best_59 : decode cX5_best 59 = .ok (.lreturn, 1) := by decide +kernel
set_option maxRecDepth 20000 in
theorem ggX5_stakes_X5_isGame : GoodIn wsX5_stakes wsX5_isGame := goodIn_r _ [11, 4, 12, 13, 10, 14, 44, 45, 46, 47, 48, 49, 50, 51, 52, 53, 54, 55, 56, 57] (by decide +kernel) (by decide +kernel)
set_option maxRecDepth 20000 in
theorem gX5_stakes_X5_isGame : GoodIn wsX5_stakes (wsV RX5 52 RX5 yX5_isGame wsX5_isGame) := goodIn_app (goodIn_of _ (by decide +kernel)) ggX5_stakes_X5_isGame
set_option maxRecDepth 20000 in
theorem ggX5_stakes_X5_isPurse : GoodIn wsX5_stakes wsX5_isPurse := goodIn_r _ [18, 3, 12, 13, 10, 14, 44, 45, 46, 47, 48, 49, 50, 51, 52, 53, 54, 55, 56, 57] (by decide +kernel) (by decide +kernel)
set_option maxRecDepth 20000 in
theorem gX5_stakes_X5_isPurse : GoodIn wsX5_stakes (wsV RX5 81 RX5 yX5_isPurse wsX5_isPurse) := goodIn_app (goodIn_of _ (by decide +kernel)) ggX5_stakes_X5_isPurse
set_option maxRecDepth 20000 in
theorem ggX5_stakes_X5_in : GoodIn wsX5_stakes wsX5_in := goodIn_r _ [14] (by decide +kernel) (by decide +kernel)
set_option maxRecDepth 20000 in
theorem gX5_stakes_X5_in : GoodIn wsX5_stakes (va_wsS RX5 48 yX5_in wsX5_in) := goodIn_app (goodIn_of _ (by decide +kernel)) ggX5_stakes_X5_in
set_option maxRecDepth 20000 in
theorem ggX5_stakes_X5_work : GoodIn wsX5_stakes wsX5_work := goodIn_r _ [22, 3, 5, 6, 23, 24, 25, 10, 26, 27, 28, 29, 30, 31, 32, 33, 34, 35, 36, 37, 38, 39, 40, 41, 42, 43, 44, 45, 46, 47, 48, 49, 50, 51, 52, 53, 54, 55, 56, 57] (by decide +kernel) (by decide +kernel)
set_option maxRecDepth 20000 in
theorem gX5_stakes_X5_work : GoodIn wsX5_stakes (wsV RX5 88 RX5 yX5_work wsX5_work) := goodIn_app (goodIn_of _ (by decide +kernel)) ggX5_stakes_X5_work
set_option maxRecDepth 20000 in
theorem ggX5_stakes_X5_mostAt : GoodIn wsX5_stakes wsX5_mostAt := goodIn_r _ [26, 27, 44, 45, 46, 47, 48, 49, 50, 51, 52, 53, 54, 55, 56, 57] (by decide +kernel) (by decide +kernel)
set_option maxRecDepth 20000 in
theorem gX5_stakes_X5_mostAt : GoodIn wsX5_stakes (wsV RX5 74 RX5 yX5_mostAt wsX5_mostAt) := goodIn_app (goodIn_of _ (by decide +kernel)) ggX5_stakes_X5_mostAt
set_option maxRecDepth 20000 in
theorem ggX5_stakes_X5_worth : GoodIn wsX5_stakes wsX5_worth := goodIn_r _ [31, 5, 32, 33, 34, 35, 10, 36, 3, 37, 38, 39, 40, 41, 42, 43, 44, 45, 46, 47, 48, 49, 50, 51, 52, 53, 54, 55, 56, 57] (by decide +kernel) (by decide +kernel)
set_option maxRecDepth 20000 in
theorem gX5_stakes_X5_worth : GoodIn wsX5_stakes (wsV RX5 77 RX5 yX5_worth wsX5_worth) := goodIn_app (goodIn_of _ (by decide +kernel)) ggX5_stakes_X5_worth
theorem dX5_stakes_0 : decode cX5_stakes 0 = .ok (.aload_n 0, 1) := by decide +kernel
theorem dX5_stakes_1 : decode cX5_stakes 1 = .ok (.iload_n 1, 1) := by decide +kernel
theorem dX5_stakes_2 : decode cX5_stakes 2 = .ok (.invokevirtual 52, 3) := by decide +kernel
theorem dX5_stakes_5 : decode cX5_stakes 5 = .ok (.ifCond .eq 23, 3) := by decide +kernel
theorem dX5_stakes_8 : decode cX5_stakes 8 = .ok (.aload_n 0, 1) := by decide +kernel
theorem dX5_stakes_9 : decode cX5_stakes 9 = .ok (.iload_n 2, 1) := by decide +kernel
theorem dX5_stakes_10 : decode cX5_stakes 10 = .ok (.invokevirtual 81, 3) := by decide +kernel
theorem dX5_stakes_13 : decode cX5_stakes 13 = .ok (.ifCond .eq 15, 3) := by decide +kernel
theorem dX5_stakes_16 : decode cX5_stakes 16 = .ok (.iload_n 3, 1) := by decide +kernel
theorem dX5_stakes_17 : decode cX5_stakes 17 = .ok (.iconst 1, 1) := by decide +kernel
theorem dX5_stakes_18 : decode cX5_stakes 18 = .ok (.aload_n 0, 1) := by decide +kernel
theorem dX5_stakes_19 : decode cX5_stakes 19 = .ok (.getfield 13, 3) := by decide +kernel
theorem dX5_stakes_22 : decode cX5_stakes 22 = .ok (.invokestatic 48, 3) := by decide +kernel
theorem dX5_stakes_25 : decode cX5_stakes 25 = .ok (.ifCond .ne 7, 3) := by decide +kernel
theorem dX5_stakes_28 : decode cX5_stakes 28 = .ok (.ldc2_w 84, 3) := by decide +kernel
theorem dX5_stakes_31 : decode cX5_stakes 31 = .ok (.lreturn, 1) := by decide +kernel
theorem dX5_stakes_32 : decode cX5_stakes 32 = .ok (.iload_n 2, 1) := by decide +kernel
theorem dX5_stakes_33 : decode cX5_stakes 33 = .ok (.ifCond .eq 11, 3) := by decide +kernel
theorem dX5_stakes_36 : decode cX5_stakes 36 = .ok (.iload_n 2, 1) := by decide +kernel
theorem dX5_stakes_37 : decode cX5_stakes 37 = .ok (.aload_n 0, 1) := by decide +kernel
theorem dX5_stakes_38 : decode cX5_stakes 38 = .ok (.getfield 7, 3) := by decide +kernel
theorem dX5_stakes_41 : decode cX5_stakes 41 = .ok (.if_icmp .ne 5, 3) := by decide +kernel
theorem dX5_stakes_44 : decode cX5_stakes 44 = .ok (.lconst 0, 1) := by decide +kernel
theorem dX5_stakes_45 : decode cX5_stakes 45 = .ok (.lreturn, 1) := by decide +kernel
theorem dX5_stakes_46 : decode cX5_stakes 46 = .ok (.aload_n 0, 1) := by decide +kernel
theorem dX5_stakes_47 : decode cX5_stakes 47 = .ok (.iload_n 3, 1) := by decide +kernel
theorem dX5_stakes_48 : decode cX5_stakes 48 = .ok (.iconst 0, 1) := by decide +kernel
theorem dX5_stakes_49 : decode cX5_stakes 49 = .ok (.iconst 0, 1) := by decide +kernel
theorem dX5_stakes_50 : decode cX5_stakes 50 = .ok (.aload_n 0, 1) := by decide +kernel
theorem dX5_stakes_51 : decode cX5_stakes 51 = .ok (.getfield 45, 3) := by decide +kernel
theorem dX5_stakes_54 : decode cX5_stakes 54 = .ok (.iconst 1, 1) := by decide +kernel
theorem dX5_stakes_55 : decode cX5_stakes 55 = .ok (.isub, 1) := by decide +kernel
theorem dX5_stakes_56 : decode cX5_stakes 56 = .ok (.invokevirtual 88, 3) := by decide +kernel
theorem dX5_stakes_59 : decode cX5_stakes 59 = .ok (.aload_n 0, 1) := by decide +kernel
theorem dX5_stakes_60 : decode cX5_stakes 60 = .ok (.getfield 35, 3) := by decide +kernel
theorem dX5_stakes_63 : decode cX5_stakes 63 = .ok (.bipush 33, 2) := by decide +kernel
theorem dX5_stakes_65 : decode cX5_stakes 65 = .ok (.iload_n 3, 1) := by decide +kernel
theorem dX5_stakes_66 : decode cX5_stakes 66 = .ok (.imul, 1) := by decide +kernel
theorem dX5_stakes_67 : decode cX5_stakes 67 = .ok (.iload_n 2, 1) := by decide +kernel
theorem dX5_stakes_68 : decode cX5_stakes 68 = .ok (.iadd, 1) := by decide +kernel
theorem dX5_stakes_69 : decode cX5_stakes 69 = .ok (.laload, 1) := by decide +kernel
theorem dX5_stakes_70 : decode cX5_stakes 70 = .ok (.lstore 4, 2) := by decide +kernel
theorem dX5_stakes_72 : decode cX5_stakes 72 = .ok (.ldc2_w 72, 3) := by decide +kernel
theorem dX5_stakes_75 : decode cX5_stakes 75 = .ok (.aload_n 0, 1) := by decide +kernel
theorem dX5_stakes_76 : decode cX5_stakes 76 = .ok (.getfield 35, 3) := by decide +kernel
theorem dX5_stakes_79 : decode cX5_stakes 79 = .ok (.bipush 33, 2) := by decide +kernel
theorem dX5_stakes_81 : decode cX5_stakes 81 = .ok (.iload_n 3, 1) := by decide +kernel
theorem dX5_stakes_82 : decode cX5_stakes 82 = .ok (.iconst 1, 1) := by decide +kernel
theorem dX5_stakes_83 : decode cX5_stakes 83 = .ok (.isub, 1) := by decide +kernel
theorem dX5_stakes_84 : decode cX5_stakes 84 = .ok (.imul, 1) := by decide +kernel
theorem dX5_stakes_85 : decode cX5_stakes 85 = .ok (.iload_n 2, 1) := by decide +kernel
theorem dX5_stakes_86 : decode cX5_stakes 86 = .ok (.iadd, 1) := by decide +kernel
theorem dX5_stakes_87 : decode cX5_stakes 87 = .ok (.laload, 1) := by decide +kernel
theorem dX5_stakes_88 : decode cX5_stakes 88 = .ok (.lmul, 1) := by decide +kernel
theorem dX5_stakes_89 : decode cX5_stakes 89 = .ok (.lload 4, 2) := by decide +kernel
theorem dX5_stakes_91 : decode cX5_stakes 91 = .ok (.lcmp, 1) := by decide +kernel
theorem dX5_stakes_92 : decode cX5_stakes 92 = .ok (.ifCond .ne 7, 3) := by decide +kernel
theorem dX5_stakes_95 : decode cX5_stakes 95 = .ok (.lconst 1, 1) := by decide +kernel
theorem dX5_stakes_96 : decode cX5_stakes 96 = .ok (.goto 4, 3) := by decide +kernel
theorem dX5_stakes_99 : decode cX5_stakes 99 = .ok (.lconst 0, 1) := by decide +kernel
theorem dX5_stakes_100 : decode cX5_stakes 100 = .ok (.lstore 6, 2) := by decide +kernel
theorem dX5_stakes_102 : decode cX5_stakes 102 = .ok (.iconst 1, 1) := by decide +kernel
theorem dX5_stakes_103 : decode cX5_stakes 103 = .ok (.istore 8, 2) := by decide +kernel
theorem dX5_stakes_105 : decode cX5_stakes 105 = .ok (.iload 8, 2) := by decide +kernel
theorem dX5_stakes_107 : decode cX5_stakes 107 = .ok (.aload_n 0, 1) := by decide +kernel
theorem dX5_stakes_108 : decode cX5_stakes 108 = .ok (.iload_n 1, 1) := by decide +kernel
theorem dX5_stakes_109 : decode cX5_stakes 109 = .ok (.iload_n 2, 1) := by decide +kernel
theorem dX5_stakes_110 : decode cX5_stakes 110 = .ok (.invokevirtual 74, 3) := by decide +kernel
theorem dX5_stakes_113 : decode cX5_stakes 113 = .ok (.if_icmp .gt 37, 3) := by decide +kernel
theorem dX5_stakes_116 : decode cX5_stakes 116 = .ok (.lload 6, 2) := by decide +kernel
theorem dX5_stakes_118 : decode cX5_stakes 118 = .ok (.aload_n 0, 1) := by decide +kernel
theorem dX5_stakes_119 : decode cX5_stakes 119 = .ok (.iload_n 1, 1) := by decide +kernel
theorem dX5_stakes_120 : decode cX5_stakes 120 = .ok (.iload_n 2, 1) := by decide +kernel
theorem dX5_stakes_121 : decode cX5_stakes 121 = .ok (.iload 8, 2) := by decide +kernel
theorem dX5_stakes_123 : decode cX5_stakes 123 = .ok (.iload_n 3, 1) := by decide +kernel
theorem dX5_stakes_124 : decode cX5_stakes 124 = .ok (.invokevirtual 77, 3) := by decide +kernel
theorem dX5_stakes_127 : decode cX5_stakes 127 = .ok (.lload 4, 2) := by decide +kernel
theorem dX5_stakes_129 : decode cX5_stakes 129 = .ok (.lcmp, 1) := by decide +kernel
theorem dX5_stakes_130 : decode cX5_stakes 130 = .ok (.ifCond .ne 10, 3) := by decide +kernel
theorem dX5_stakes_133 : decode cX5_stakes 133 = .ok (.lconst 1, 1) := by decide +kernel
theorem dX5_stakes_134 : decode cX5_stakes 134 = .ok (.iload 8, 2) := by decide +kernel
theorem dX5_stakes_136 : decode cX5_stakes 136 = .ok (.lshl, 1) := by decide +kernel
theorem dX5_stakes_137 : decode cX5_stakes 137 = .ok (.goto 4, 3) := by decide +kernel
theorem dX5_stakes_140 : decode cX5_stakes 140 = .ok (.lconst 0, 1) := by decide +kernel
theorem dX5_stakes_141 : decode cX5_stakes 141 = .ok (.lor, 1) := by decide +kernel
theorem dX5_stakes_142 : decode cX5_stakes 142 = .ok (.lstore 6, 2) := by decide +kernel
theorem dX5_stakes_144 : decode cX5_stakes 144 = .ok (.iinc 8 1, 3) := by decide +kernel
theorem dX5_stakes_147 : decode cX5_stakes 147 = .ok (.goto (-42), 3) := by decide +kernel
theorem dX5_stakes_150 : decode cX5_stakes 150 = .ok (.lload 6, 2) := by decide +kernel
theorem dX5_stakes_152 : decode cX5_stakes 152 = .ok (.lreturn, 1) := by decide +kernel
set_option maxRecDepth 20000 in
theorem ggX5_mean_X5_isPurse : GoodIn wsX5_mean wsX5_isPurse := goodIn_r _ [10, 11, 12, 13, 9, 14, 41, 42, 43, 44, 45, 46, 47, 48, 49, 50, 51, 52, 53, 54] (by decide +kernel) (by decide +kernel)
set_option maxRecDepth 20000 in
theorem gX5_mean_X5_isPurse : GoodIn wsX5_mean (wsV RX5 81 RX5 yX5_isPurse wsX5_isPurse) := goodIn_app (goodIn_of _ (by decide +kernel)) ggX5_mean_X5_isPurse
set_option maxRecDepth 20000 in
theorem ggX5_mean_X5_in : GoodIn wsX5_mean wsX5_in := goodIn_r _ [14] (by decide +kernel) (by decide +kernel)
set_option maxRecDepth 20000 in
theorem gX5_mean_X5_in : GoodIn wsX5_mean (va_wsS RX5 48 yX5_in wsX5_in) := goodIn_app (goodIn_of _ (by decide +kernel)) ggX5_mean_X5_in
set_option maxRecDepth 20000 in
theorem ggX5_mean_X5_work : GoodIn wsX5_mean wsX5_work := goodIn_r _ [18, 11, 5, 19, 20, 21, 22, 9, 23, 24, 25, 26, 27, 28, 29, 30, 31, 32, 33, 34, 35, 36, 37, 38, 39, 40, 41, 42, 43, 44, 45, 46, 47, 48, 49, 50, 51, 52, 53, 54] (by decide +kernel) (by decide +kernel)
set_option maxRecDepth 20000 in
theorem gX5_mean_X5_work : GoodIn wsX5_mean (wsV RX5 88 RX5 yX5_work wsX5_work) := goodIn_app (goodIn_of _ (by decide +kernel)) ggX5_mean_X5_work
theorem dX5_mean_0 : decode cX5_mean 0 = .ok (.aload_n 0, 1) := by decide +kernel
theorem dX5_mean_1 : decode cX5_mean 1 = .ok (.iload_n 1, 1) := by decide +kernel
theorem dX5_mean_2 : decode cX5_mean 2 = .ok (.invokevirtual 81, 3) := by decide +kernel
theorem dX5_mean_5 : decode cX5_mean 5 = .ok (.ifCond .eq 15, 3) := by decide +kernel
theorem dX5_mean_8 : decode cX5_mean 8 = .ok (.iload_n 2, 1) := by decide +kernel
theorem dX5_mean_9 : decode cX5_mean 9 = .ok (.iconst 0, 1) := by decide +kernel
theorem dX5_mean_10 : decode cX5_mean 10 = .ok (.aload_n 0, 1) := by decide +kernel
theorem dX5_mean_11 : decode cX5_mean 11 = .ok (.getfield 13, 3) := by decide +kernel
theorem dX5_mean_14 : decode cX5_mean 14 = .ok (.invokestatic 48, 3) := by decide +kernel
theorem dX5_mean_17 : decode cX5_mean 17 = .ok (.ifCond .ne 7, 3) := by decide +kernel
theorem dX5_mean_20 : decode cX5_mean 20 = .ok (.ldc2_w 84, 3) := by decide +kernel
theorem dX5_mean_23 : decode cX5_mean 23 = .ok (.lreturn, 1) := by decide +kernel
theorem dX5_mean_24 : decode cX5_mean 24 = .ok (.aload_n 0, 1) := by decide +kernel
theorem dX5_mean_25 : decode cX5_mean 25 = .ok (.getfield 45, 3) := by decide +kernel
theorem dX5_mean_28 : decode cX5_mean 28 = .ok (.ifCond .ne 7, 3) := by decide +kernel
theorem dX5_mean_31 : decode cX5_mean 31 = .ok (.ldc2_w 86, 3) := by decide +kernel
theorem dX5_mean_34 : decode cX5_mean 34 = .ok (.lreturn, 1) := by decide +kernel
theorem dX5_mean_35 : decode cX5_mean 35 = .ok (.aload_n 0, 1) := by decide +kernel
theorem dX5_mean_36 : decode cX5_mean 36 = .ok (.iload_n 2, 1) := by decide +kernel
theorem dX5_mean_37 : decode cX5_mean 37 = .ok (.iconst 1, 1) := by decide +kernel
theorem dX5_mean_38 : decode cX5_mean 38 = .ok (.iconst 0, 1) := by decide +kernel
theorem dX5_mean_39 : decode cX5_mean 39 = .ok (.aload_n 0, 1) := by decide +kernel
theorem dX5_mean_40 : decode cX5_mean 40 = .ok (.getfield 45, 3) := by decide +kernel
theorem dX5_mean_43 : decode cX5_mean 43 = .ok (.iconst 1, 1) := by decide +kernel
theorem dX5_mean_44 : decode cX5_mean 44 = .ok (.isub, 1) := by decide +kernel
theorem dX5_mean_45 : decode cX5_mean 45 = .ok (.invokevirtual 88, 3) := by decide +kernel
theorem dX5_mean_48 : decode cX5_mean 48 = .ok (.aload_n 0, 1) := by decide +kernel
theorem dX5_mean_49 : decode cX5_mean 49 = .ok (.getfield 35, 3) := by decide +kernel
theorem dX5_mean_52 : decode cX5_mean 52 = .ok (.bipush 33, 2) := by decide +kernel
theorem dX5_mean_54 : decode cX5_mean 54 = .ok (.iload_n 2, 1) := by decide +kernel
theorem dX5_mean_55 : decode cX5_mean 55 = .ok (.imul, 1) := by decide +kernel
theorem dX5_mean_56 : decode cX5_mean 56 = .ok (.iload_n 1, 1) := by decide +kernel
theorem dX5_mean_57 : decode cX5_mean 57 = .ok (.iadd, 1) := by decide +kernel
theorem dX5_mean_58 : decode cX5_mean 58 = .ok (.laload, 1) := by decide +kernel
theorem dX5_mean_59 : decode cX5_mean 59 = .ok (.lreturn, 1) := by decide +kernel
set_option maxRecDepth 20000 in
theorem ggX5_tell_X5_in : GoodIn wsX5_tell wsX5_in := goodIn_r _ [6] (by decide +kernel) (by decide +kernel)
set_option maxRecDepth 20000 in
theorem gX5_tell_X5_in : GoodIn wsX5_tell (va_wsS RX5 48 yX5_in wsX5_in) := goodIn_app (goodIn_of _ (by decide +kernel)) ggX5_tell_X5_in
theorem dX5_tell_0 : decode cX5_tell 0 = .ok (.iload_n 1, 1) := by decide +kernel
theorem dX5_tell_1 : decode cX5_tell 1 = .ok (.iconst 1, 1) := by decide +kernel
theorem dX5_tell_2 : decode cX5_tell 2 = .ok (.aload_n 0, 1) := by decide +kernel
theorem dX5_tell_3 : decode cX5_tell 3 = .ok (.getfield 7, 3) := by decide +kernel
theorem dX5_tell_6 : decode cX5_tell 6 = .ok (.iconst 1, 1) := by decide +kernel
theorem dX5_tell_7 : decode cX5_tell 7 = .ok (.isub, 1) := by decide +kernel
theorem dX5_tell_8 : decode cX5_tell 8 = .ok (.invokestatic 48, 3) := by decide +kernel
theorem dX5_tell_11 : decode cX5_tell 11 = .ok (.ifCond .eq 13, 3) := by decide +kernel
theorem dX5_tell_14 : decode cX5_tell 14 = .ok (.iload_n 2, 1) := by decide +kernel
theorem dX5_tell_15 : decode cX5_tell 15 = .ok (.iconst 0, 1) := by decide +kernel
theorem dX5_tell_16 : decode cX5_tell 16 = .ok (.bipush 32, 2) := by decide +kernel
theorem dX5_tell_18 : decode cX5_tell 18 = .ok (.invokestatic 48, 3) := by decide +kernel
theorem dX5_tell_21 : decode cX5_tell 21 = .ok (.ifCond .ne 5, 3) := by decide +kernel
theorem dX5_tell_24 : decode cX5_tell 24 = .ok (.iconst (-1), 1) := by decide +kernel
theorem dX5_tell_25 : decode cX5_tell 25 = .ok (.ireturn, 1) := by decide +kernel
theorem dX5_tell_26 : decode cX5_tell 26 = .ok (.aload_n 0, 1) := by decide +kernel
theorem dX5_tell_27 : decode cX5_tell 27 = .ok (.getfield 32, 3) := by decide +kernel
theorem dX5_tell_30 : decode cX5_tell 30 = .ok (.iload_n 1, 1) := by decide +kernel
theorem dX5_tell_31 : decode cX5_tell 31 = .ok (.iaload, 1) := by decide +kernel
theorem dX5_tell_32 : decode cX5_tell 32 = .ok (.istore_n 3, 1) := by decide +kernel
theorem dX5_tell_33 : decode cX5_tell 33 = .ok (.aload_n 0, 1) := by decide +kernel
theorem dX5_tell_34 : decode cX5_tell 34 = .ok (.getfield 32, 3) := by decide +kernel
theorem dX5_tell_37 : decode cX5_tell 37 = .ok (.iload_n 1, 1) := by decide +kernel
theorem dX5_tell_38 : decode cX5_tell 38 = .ok (.iload_n 2, 1) := by decide +kernel
theorem dX5_tell_39 : decode cX5_tell 39 = .ok (.iastore, 1) := by decide +kernel
theorem dX5_tell_40 : decode cX5_tell 40 = .ok (.iload_n 3, 1) := by decide +kernel
theorem dX5_tell_41 : decode cX5_tell 41 = .ok (.ireturn, 1) := by decide +kernel
theorem dX5_least_0 : decode cX5_least 0 = .ok (.iload_n 0, 1) := by decide +kernel
theorem dX5_least_1 : decode cX5_least 1 = .ok (.iload_n 1, 1) := by decide +kernel
theorem dX5_least_2 : decode cX5_least 2 = .ok (.if_icmp .ge 7, 3) := by decide +kernel
theorem dX5_least_5 : decode cX5_least 5 = .ok (.iload_n 0, 1) := by decide +kernel
theorem dX5_least_6 : decode cX5_least 6 = .ok (.goto 4, 3) := by decide +kernel
theorem dX5_least_9 : decode cX5_least 9 = .ok (.iload_n 1, 1) := by decide +kernel
theorem dX5_least_10 : decode cX5_least 10 = .ok (.ireturn, 1) := by decide +kernel
set_option maxRecDepth 20000 in
theorem ggX5_stakeOf_X5_mostAt : GoodIn wsX5_stakeOf wsX5_mostAt := goodIn_r _ [7, 8, 19, 20, 21, 22, 23, 24, 25, 26, 27, 28, 29, 30, 31, 32] (by decide +kernel) (by decide +kernel)
set_option maxRecDepth 20000 in
theorem gX5_stakeOf_X5_mostAt : GoodIn wsX5_stakeOf (wsV RX5 74 RX5 yX5_mostAt wsX5_mostAt) := goodIn_app (goodIn_of _ (by decide +kernel)) ggX5_stakeOf_X5_mostAt
set_option maxRecDepth 20000 in
theorem ggX5_stakeOf_X5_least : GoodIn wsX5_stakeOf wsX5_least := goodIn_r _ [11] (by decide +kernel) (by decide +kernel)
set_option maxRecDepth 20000 in
theorem gX5_stakeOf_X5_least : GoodIn wsX5_stakeOf (va_wsS RX5 92 yX5_least wsX5_least) := goodIn_app (goodIn_of _ (by decide +kernel)) ggX5_stakeOf_X5_least
set_option maxRecDepth 20000 in
theorem ggX5_stakeOf_X5_winOf : GoodIn wsX5_stakeOf wsX5_winOf := goodIn_r _ [15, 16, 17, 18, 19, 20, 21, 22, 23, 24, 25, 26, 27, 28, 29, 30, 31, 32] (by decide +kernel) (by decide +kernel)
set_option maxRecDepth 20000 in
theorem gX5_stakeOf_X5_winOf : GoodIn wsX5_stakeOf (wsV RX5 64 RX5 yX5_winOf wsX5_winOf) := goodIn_app (goodIn_of _ (by decide +kernel)) ggX5_stakeOf_X5_winOf
theorem dX5_stakeOf_0 : decode cX5_stakeOf 0 = .ok (.aload_n 0, 1) := by decide +kernel
theorem dX5_stakeOf_1 : decode cX5_stakeOf 1 = .ok (.iload_n 2, 1) := by decide +kernel
theorem dX5_stakeOf_2 : decode cX5_stakeOf 2 = .ok (.iload_n 3, 1) := by decide +kernel
theorem dX5_stakeOf_3 : decode cX5_stakeOf 3 = .ok (.invokevirtual 74, 3) := by decide +kernel
theorem dX5_stakeOf_6 : decode cX5_stakeOf 6 = .ok (.istore 4, 2) := by decide +kernel
theorem dX5_stakeOf_8 : decode cX5_stakeOf 8 = .ok (.iload_n 1, 1) := by decide +kernel
theorem dX5_stakeOf_9 : decode cX5_stakeOf 9 = .ok (.iconst 1, 1) := by decide +kernel
theorem dX5_stakeOf_10 : decode cX5_stakeOf 10 = .ok (.if_icmp .ne 5, 3) := by decide +kernel
theorem dX5_stakeOf_13 : decode cX5_stakeOf 13 = .ok (.iconst 1, 1) := by decide +kernel
theorem dX5_stakeOf_14 : decode cX5_stakeOf 14 = .ok (.ireturn, 1) := by decide +kernel
theorem dX5_stakeOf_15 : decode cX5_stakeOf 15 = .ok (.iload_n 1, 1) := by decide +kernel
theorem dX5_stakeOf_16 : decode cX5_stakeOf 16 = .ok (.iconst 2, 1) := by decide +kernel
theorem dX5_stakeOf_17 : decode cX5_stakeOf 17 = .ok (.if_icmp .ne 15, 3) := by decide +kernel
theorem dX5_stakeOf_20 : decode cX5_stakeOf 20 = .ok (.aload_n 0, 1) := by decide +kernel
theorem dX5_stakeOf_21 : decode cX5_stakeOf 21 = .ok (.getfield 32, 3) := by decide +kernel
theorem dX5_stakeOf_24 : decode cX5_stakeOf 24 = .ok (.iload_n 3, 1) := by decide +kernel
theorem dX5_stakeOf_25 : decode cX5_stakeOf 25 = .ok (.iaload, 1) := by decide +kernel
theorem dX5_stakeOf_26 : decode cX5_stakeOf 26 = .ok (.iload 4, 2) := by decide +kernel
theorem dX5_stakeOf_28 : decode cX5_stakeOf 28 = .ok (.invokestatic 92, 3) := by decide +kernel
theorem dX5_stakeOf_31 : decode cX5_stakeOf 31 = .ok (.ireturn, 1) := by decide +kernel
theorem dX5_stakeOf_32 : decode cX5_stakeOf 32 = .ok (.iconst 1, 1) := by decide +kernel
theorem dX5_stakeOf_33 : decode cX5_stakeOf 33 = .ok (.istore 5, 2) := by decide +kernel
theorem dX5_stakeOf_35 : decode cX5_stakeOf 35 = .ok (.iload 5, 2) := by decide +kernel
theorem dX5_stakeOf_37 : decode cX5_stakeOf 37 = .ok (.iload 4, 2) := by decide +kernel
theorem dX5_stakeOf_39 : decode cX5_stakeOf 39 = .ok (.if_icmp .gt 28, 3) := by decide +kernel
theorem dX5_stakeOf_42 : decode cX5_stakeOf 42 = .ok (.iload_n 3, 1) := by decide +kernel
theorem dX5_stakeOf_43 : decode cX5_stakeOf 43 = .ok (.aload_n 0, 1) := by decide +kernel
theorem dX5_stakeOf_44 : decode cX5_stakeOf 44 = .ok (.iload_n 2, 1) := by decide +kernel
theorem dX5_stakeOf_45 : decode cX5_stakeOf 45 = .ok (.iload 5, 2) := by decide +kernel
theorem dX5_stakeOf_47 : decode cX5_stakeOf 47 = .ok (.invokevirtual 64, 3) := by decide +kernel
theorem dX5_stakeOf_50 : decode cX5_stakeOf 50 = .ok (.iadd, 1) := by decide +kernel
theorem dX5_stakeOf_51 : decode cX5_stakeOf 51 = .ok (.aload_n 0, 1) := by decide +kernel
theorem dX5_stakeOf_52 : decode cX5_stakeOf 52 = .ok (.getfield 7, 3) := by decide +kernel
theorem dX5_stakeOf_55 : decode cX5_stakeOf 55 = .ok (.if_icmp .lt 6, 3) := by decide +kernel
theorem dX5_stakeOf_58 : decode cX5_stakeOf 58 = .ok (.iload 5, 2) := by decide +kernel
theorem dX5_stakeOf_60 : decode cX5_stakeOf 60 = .ok (.ireturn, 1) := by decide +kernel
theorem dX5_stakeOf_61 : decode cX5_stakeOf 61 = .ok (.iinc 5 1, 3) := by decide +kernel
theorem dX5_stakeOf_64 : decode cX5_stakeOf 64 = .ok (.goto (-29), 3) := by decide +kernel
theorem dX5_stakeOf_67 : decode cX5_stakeOf 67 = .ok (.iload 4, 2) := by decide +kernel
theorem dX5_stakeOf_69 : decode cX5_stakeOf 69 = .ok (.ireturn, 1) := by decide +kernel
set_option maxRecDepth 20000 in
theorem ggX5_stake_X5_in : GoodIn wsX5_stake wsX5_in := goodIn_r _ [5] (by decide +kernel) (by decide +kernel)
set_option maxRecDepth 20000 in
theorem gX5_stake_X5_in : GoodIn wsX5_stake (va_wsS RX5 48 yX5_in wsX5_in) := goodIn_app (goodIn_of _ (by decide +kernel)) ggX5_stake_X5_in
set_option maxRecDepth 20000 in
theorem ggX5_stake_X5_isGame : GoodIn wsX5_stake wsX5_isGame := goodIn_r _ [9, 10, 2, 3, 4, 5, 31, 32, 33, 34, 35, 36, 37, 38, 39, 40, 41, 42, 43, 44] (by decide +kernel) (by decide +kernel)
set_option maxRecDepth 20000 in
theorem gX5_stake_X5_isGame : GoodIn wsX5_stake (wsV RX5 52 RX5 yX5_isGame wsX5_isGame) := goodIn_app (goodIn_of _ (by decide +kernel)) ggX5_stake_X5_isGame
set_option maxRecDepth 20000 in
theorem ggX5_stake_X5_stakeOf : GoodIn wsX5_stake wsX5_stakeOf := goodIn_r _ [14, 15, 1, 16, 17, 18, 4, 19, 20, 21, 22, 23, 24, 25, 26, 27, 28, 29, 30, 31, 32, 33, 34, 35, 36, 37, 38, 39, 40, 41, 42, 43, 44] (by decide +kernel) (by decide +kernel)
set_option maxRecDepth 20000 in
theorem gX5_stake_X5_stakeOf : GoodIn wsX5_stake (wsV RX5 95 RX5 yX5_stakeOf wsX5_stakeOf) := goodIn_app (goodIn_of _ (by decide +kernel)) ggX5_stake_X5_stakeOf
theorem dX5_stake_0 : decode cX5_stake 0 = .ok (.iload_n 1, 1) := by decide +kernel
theorem dX5_stake_1 : decode cX5_stake 1 = .ok (.iconst 0, 1) := by decide +kernel
theorem dX5_stake_2 : decode cX5_stake 2 = .ok (.iconst 2, 1) := by decide +kernel
theorem dX5_stake_3 : decode cX5_stake 3 = .ok (.invokestatic 48, 3) := by decide +kernel
theorem dX5_stake_6 : decode cX5_stake 6 = .ok (.ifCond .eq 35, 3) := by decide +kernel
theorem dX5_stake_9 : decode cX5_stake 9 = .ok (.aload_n 0, 1) := by decide +kernel
theorem dX5_stake_10 : decode cX5_stake 10 = .ok (.iload_n 2, 1) := by decide +kernel
theorem dX5_stake_11 : decode cX5_stake 11 = .ok (.invokevirtual 52, 3) := by decide +kernel
theorem dX5_stake_14 : decode cX5_stake 14 = .ok (.ifCond .eq 27, 3) := by decide +kernel
theorem dX5_stake_17 : decode cX5_stake 17 = .ok (.iload_n 3, 1) := by decide +kernel
theorem dX5_stake_18 : decode cX5_stake 18 = .ok (.iconst 1, 1) := by decide +kernel
theorem dX5_stake_19 : decode cX5_stake 19 = .ok (.aload_n 0, 1) := by decide +kernel
theorem dX5_stake_20 : decode cX5_stake 20 = .ok (.getfield 7, 3) := by decide +kernel
theorem dX5_stake_23 : decode cX5_stake 23 = .ok (.iconst 1, 1) := by decide +kernel
theorem dX5_stake_24 : decode cX5_stake 24 = .ok (.isub, 1) := by decide +kernel
theorem dX5_stake_25 : decode cX5_stake 25 = .ok (.invokestatic 48, 3) := by decide +kernel
theorem dX5_stake_28 : decode cX5_stake 28 = .ok (.ifCond .eq 13, 3) := by decide +kernel
theorem dX5_stake_31 : decode cX5_stake 31 = .ok (.aload_n 0, 1) := by decide +kernel
theorem dX5_stake_32 : decode cX5_stake 32 = .ok (.iload_n 1, 1) := by decide +kernel
theorem dX5_stake_33 : decode cX5_stake 33 = .ok (.iload_n 2, 1) := by decide +kernel
theorem dX5_stake_34 : decode cX5_stake 34 = .ok (.iload_n 3, 1) := by decide +kernel
theorem dX5_stake_35 : decode cX5_stake 35 = .ok (.invokevirtual 95, 3) := by decide +kernel
theorem dX5_stake_38 : decode cX5_stake 38 = .ok (.goto 4, 3) := by decide +kernel
theorem dX5_stake_41 : decode cX5_stake 41 = .ok (.iconst (-1), 1) := by decide +kernel
theorem dX5_stake_42 : decode cX5_stake 42 = .ok (.ireturn, 1) := by decide +kernel
set_option maxRecDepth 20000 in
theorem ggX5_follow_X5_mostAt : GoodIn wsX5_follow wsX5_mostAt := goodIn_r _ [11, 12, 32, 33, 34, 35, 36, 37, 38, 39, 40, 41, 42, 43, 44, 45] (by decide +kernel) (by decide +kernel)
set_option maxRecDepth 20000 in
theorem gX5_follow_X5_mostAt : GoodIn wsX5_follow (wsV RX5 74 RX5 yX5_mostAt wsX5_mostAt) := goodIn_app (goodIn_of _ (by decide +kernel)) ggX5_follow_X5_mostAt
set_option maxRecDepth 20000 in
theorem ggX5_follow_X5_least : GoodIn wsX5_follow wsX5_least := goodIn_r _ [15] (by decide +kernel) (by decide +kernel)
set_option maxRecDepth 20000 in
theorem gX5_follow_X5_least : GoodIn wsX5_follow (va_wsS RX5 92 yX5_least wsX5_least) := goodIn_app (goodIn_of _ (by decide +kernel)) ggX5_follow_X5_least
set_option maxRecDepth 20000 in
theorem ggX5_follow_X5_stakeOf : GoodIn wsX5_follow wsX5_stakeOf := goodIn_r _ [19, 20, 5, 7, 8, 9, 10, 11, 12, 13, 14, 15, 21, 22, 23, 24, 25, 26, 27, 32, 33, 34, 35, 36, 37, 38, 39, 40, 41, 42, 43, 44, 45] (by decide +kernel) (by decide +kernel)
set_option maxRecDepth 20000 in
theorem gX5_follow_X5_stakeOf : GoodIn wsX5_follow (wsV RX5 95 RX5 yX5_stakeOf wsX5_stakeOf) := goodIn_app (goodIn_of _ (by decide +kernel)) ggX5_follow_X5_stakeOf
set_option maxRecDepth 20000 in
theorem ggX5_follow_X5_behind : GoodIn wsX5_follow wsX5_behind := goodIn_r _ [31, 5, 21, 22, 23, 10, 24, 25, 26, 27, 32, 33, 34, 35, 36, 37, 38, 39, 40, 41, 42, 43, 44, 45] (by decide +kernel) (by decide +kernel)
set_option maxRecDepth 20000 in
theorem gX5_follow_X5_behind : GoodIn wsX5_follow (wsV RX5 68 RX5 yX5_behind wsX5_behind) := goodIn_app (goodIn_of _ (by decide +kernel)) ggX5_follow_X5_behind
theorem dX5_follow_0 : decode cX5_follow 0 = .ok (.iconst 0, 1) := by decide +kernel
theorem dX5_follow_1 : decode cX5_follow 1 = .ok (.istore 5, 2) := by decide +kernel
theorem dX5_follow_3 : decode cX5_follow 3 = .ok (.iload 5, 2) := by decide +kernel
theorem dX5_follow_5 : decode cX5_follow 5 = .ok (.sipush 2145, 3) := by decide +kernel
theorem dX5_follow_8 : decode cX5_follow 8 = .ok (.if_icmp .ge 17, 3) := by decide +kernel
theorem dX5_follow_11 : decode cX5_follow 11 = .ok (.aload_n 0, 1) := by decide +kernel
theorem dX5_follow_12 : decode cX5_follow 12 = .ok (.getfield 39, 3) := by decide +kernel
theorem dX5_follow_15 : decode cX5_follow 15 = .ok (.iload 5, 2) := by decide +kernel
theorem dX5_follow_17 : decode cX5_follow 17 = .ok (.lconst 0, 1) := by decide +kernel
theorem dX5_follow_18 : decode cX5_follow 18 = .ok (.lastore, 1) := by decide +kernel
theorem dX5_follow_19 : decode cX5_follow 19 = .ok (.iinc 5 1, 3) := by decide +kernel
theorem dX5_follow_22 : decode cX5_follow 22 = .ok (.goto (-19), 3) := by decide +kernel
theorem dX5_follow_25 : decode cX5_follow 25 = .ok (.aload_n 0, 1) := by decide +kernel
theorem dX5_follow_26 : decode cX5_follow 26 = .ok (.getfield 39, 3) := by decide +kernel
theorem dX5_follow_29 : decode cX5_follow 29 = .ok (.bipush 65, 2) := by decide +kernel
theorem dX5_follow_31 : decode cX5_follow 31 = .ok (.iload_n 3, 1) := by decide +kernel
theorem dX5_follow_32 : decode cX5_follow 32 = .ok (.imul, 1) := by decide +kernel
theorem dX5_follow_33 : decode cX5_follow 33 = .ok (.iconst 1, 1) := by decide +kernel
theorem dX5_follow_34 : decode cX5_follow 34 = .ok (.iadd, 1) := by decide +kernel
theorem dX5_follow_35 : decode cX5_follow 35 = .ok (.lconst 1, 1) := by decide +kernel
theorem dX5_follow_36 : decode cX5_follow 36 = .ok (.lastore, 1) := by decide +kernel
theorem dX5_follow_37 : decode cX5_follow 37 = .ok (.aload_n 0, 1) := by decide +kernel
theorem dX5_follow_38 : decode cX5_follow 38 = .ok (.lconst 0, 1) := by decide +kernel
theorem dX5_follow_39 : decode cX5_follow 39 = .ok (.putfield 98, 3) := by decide +kernel
theorem dX5_follow_42 : decode cX5_follow 42 = .ok (.iconst 0, 1) := by decide +kernel
theorem dX5_follow_43 : decode cX5_follow 43 = .ok (.istore 5, 2) := by decide +kernel
theorem dX5_follow_45 : decode cX5_follow 45 = .ok (.iload 5, 2) := by decide +kernel
theorem dX5_follow_47 : decode cX5_follow 47 = .ok (.iload 4, 2) := by decide +kernel
theorem dX5_follow_49 : decode cX5_follow 49 = .ok (.if_icmp .ge 312, 3) := by decide +kernel
theorem dX5_follow_52 : decode cX5_follow 52 = .ok (.iconst 0, 1) := by decide +kernel
theorem dX5_follow_53 : decode cX5_follow 53 = .ok (.istore 6, 2) := by decide +kernel
theorem dX5_follow_55 : decode cX5_follow 55 = .ok (.iload 6, 2) := by decide +kernel
theorem dX5_follow_57 : decode cX5_follow 57 = .ok (.sipush 2145, 3) := by decide +kernel
theorem dX5_follow_60 : decode cX5_follow 60 = .ok (.if_icmp .ge 17, 3) := by decide +kernel
theorem dX5_follow_63 : decode cX5_follow 63 = .ok (.aload_n 0, 1) := by decide +kernel
theorem dX5_follow_64 : decode cX5_follow 64 = .ok (.getfield 42, 3) := by decide +kernel
theorem dX5_follow_67 : decode cX5_follow 67 = .ok (.iload 6, 2) := by decide +kernel
theorem dX5_follow_69 : decode cX5_follow 69 = .ok (.lconst 0, 1) := by decide +kernel
theorem dX5_follow_70 : decode cX5_follow 70 = .ok (.lastore, 1) := by decide +kernel
theorem dX5_follow_71 : decode cX5_follow 71 = .ok (.iinc 6 1, 3) := by decide +kernel
theorem dX5_follow_74 : decode cX5_follow 74 = .ok (.goto (-19), 3) := by decide +kernel
theorem dX5_follow_77 : decode cX5_follow 77 = .ok (.aload_n 0, 1) := by decide +kernel
theorem dX5_follow_78 : decode cX5_follow 78 = .ok (.dup, 1) := by decide +kernel
theorem dX5_follow_79 : decode cX5_follow 79 = .ok (.getfield 98, 3) := by decide +kernel
theorem dX5_follow_82 : decode cX5_follow 82 = .ok (.ldc2_w 72, 3) := by decide +kernel
theorem dX5_follow_85 : decode cX5_follow 85 = .ok (.lmul, 1) := by decide +kernel
theorem dX5_follow_86 : decode cX5_follow 86 = .ok (.putfield 98, 3) := by decide +kernel
theorem dX5_follow_89 : decode cX5_follow 89 = .ok (.lconst 0, 1) := by decide +kernel
theorem dX5_follow_90 : decode cX5_follow 90 = .ok (.lstore 6, 2) := by decide +kernel
theorem dX5_follow_92 : decode cX5_follow 92 = .ok (.iconst 0, 1) := by decide +kernel
theorem dX5_follow_93 : decode cX5_follow 93 = .ok (.istore 8, 2) := by decide +kernel
theorem dX5_follow_95 : decode cX5_follow 95 = .ok (.iload 8, 2) := by decide +kernel
theorem dX5_follow_97 : decode cX5_follow 97 = .ok (.sipush 2145, 3) := by decide +kernel
theorem dX5_follow_100 : decode cX5_follow 100 = .ok (.if_icmp .ge 209, 3) := by decide +kernel
theorem dX5_follow_103 : decode cX5_follow 103 = .ok (.aload_n 0, 1) := by decide +kernel
theorem dX5_follow_104 : decode cX5_follow 104 = .ok (.getfield 39, 3) := by decide +kernel
theorem dX5_follow_107 : decode cX5_follow 107 = .ok (.iload 8, 2) := by decide +kernel
theorem dX5_follow_109 : decode cX5_follow 109 = .ok (.laload, 1) := by decide +kernel
theorem dX5_follow_110 : decode cX5_follow 110 = .ok (.lconst 0, 1) := by decide +kernel
theorem dX5_follow_111 : decode cX5_follow 111 = .ok (.lcmp, 1) := by decide +kernel
theorem dX5_follow_112 : decode cX5_follow 112 = .ok (.ifCond .le 191, 3) := by decide +kernel
theorem dX5_follow_115 : decode cX5_follow 115 = .ok (.iload 8, 2) := by decide +kernel
theorem dX5_follow_117 : decode cX5_follow 117 = .ok (.bipush 65, 2) := by decide +kernel
theorem dX5_follow_119 : decode cX5_follow 119 = .ok (.idiv, 1) := by decide +kernel
theorem dX5_follow_120 : decode cX5_follow 120 = .ok (.istore 9, 2) := by decide +kernel
theorem dX5_follow_122 : decode cX5_follow 122 = .ok (.iload 8, 2) := by decide +kernel
theorem dX5_follow_124 : decode cX5_follow 124 = .ok (.bipush 65, 2) := by decide +kernel
theorem dX5_follow_126 : decode cX5_follow 126 = .ok (.irem, 1) := by decide +kernel
theorem dX5_follow_127 : decode cX5_follow 127 = .ok (.istore 10, 2) := by decide +kernel
theorem dX5_follow_129 : decode cX5_follow 129 = .ok (.iload 9, 2) := by decide +kernel
theorem dX5_follow_131 : decode cX5_follow 131 = .ok (.ifCond .eq 12, 3) := by decide +kernel
theorem dX5_follow_134 : decode cX5_follow 134 = .ok (.iload 9, 2) := by decide +kernel
theorem dX5_follow_136 : decode cX5_follow 136 = .ok (.aload_n 0, 1) := by decide +kernel
theorem dX5_follow_137 : decode cX5_follow 137 = .ok (.getfield 7, 3) := by decide +kernel
theorem dX5_follow_140 : decode cX5_follow 140 = .ok (.if_icmp .ne 7, 3) := by decide +kernel
theorem dX5_follow_143 : decode cX5_follow 143 = .ok (.iconst 0, 1) := by decide +kernel
theorem dX5_follow_144 : decode cX5_follow 144 = .ok (.goto 31, 3) := by decide +kernel
theorem dX5_follow_147 : decode cX5_follow 147 = .ok (.iload_n 1, 1) := by decide +kernel
theorem dX5_follow_148 : decode cX5_follow 148 = .ok (.iconst 3, 1) := by decide +kernel
theorem dX5_follow_149 : decode cX5_follow 149 = .ok (.if_icmp .ne 18, 3) := by decide +kernel
theorem dX5_follow_152 : decode cX5_follow 152 = .ok (.iload 10, 2) := by decide +kernel
theorem dX5_follow_154 : decode cX5_follow 154 = .ok (.aload_n 0, 1) := by decide +kernel
theorem dX5_follow_155 : decode cX5_follow 155 = .ok (.iload_n 2, 1) := by decide +kernel
theorem dX5_follow_156 : decode cX5_follow 156 = .ok (.iload 9, 2) := by decide +kernel
theorem dX5_follow_158 : decode cX5_follow 158 = .ok (.invokevirtual 74, 3) := by decide +kernel
theorem dX5_follow_161 : decode cX5_follow 161 = .ok (.invokestatic 92, 3) := by decide +kernel
theorem dX5_follow_164 : decode cX5_follow 164 = .ok (.goto 11, 3) := by decide +kernel
theorem dX5_follow_167 : decode cX5_follow 167 = .ok (.aload_n 0, 1) := by decide +kernel
theorem dX5_follow_168 : decode cX5_follow 168 = .ok (.iload_n 1, 1) := by decide +kernel
theorem dX5_follow_169 : decode cX5_follow 169 = .ok (.iload_n 2, 1) := by decide +kernel
theorem dX5_follow_170 : decode cX5_follow 170 = .ok (.iload 9, 2) := by decide +kernel
theorem dX5_follow_172 : decode cX5_follow 172 = .ok (.invokevirtual 95, 3) := by decide +kernel
theorem dX5_follow_175 : decode cX5_follow 175 = .ok (.istore 11, 2) := by decide +kernel
theorem dX5_follow_177 : decode cX5_follow 177 = .ok (.iload 11, 2) := by decide +kernel
theorem dX5_follow_179 : decode cX5_follow 179 = .ok (.ifCond .ne 27, 3) := by decide +kernel
theorem dX5_follow_182 : decode cX5_follow 182 = .ok (.aload_n 0, 1) := by decide +kernel
theorem dX5_follow_183 : decode cX5_follow 183 = .ok (.getfield 42, 3) := by decide +kernel
theorem dX5_follow_186 : decode cX5_follow 186 = .ok (.iload 8, 2) := by decide +kernel
theorem dX5_follow_188 : decode cX5_follow 188 = .ok (.dup2, 1) := by decide +kernel
theorem dX5_follow_189 : decode cX5_follow 189 = .ok (.laload, 1) := by decide +kernel
theorem dX5_follow_190 : decode cX5_follow 190 = .ok (.ldc2_w 72, 3) := by decide +kernel
theorem dX5_follow_193 : decode cX5_follow 193 = .ok (.aload_n 0, 1) := by decide +kernel
theorem dX5_follow_194 : decode cX5_follow 194 = .ok (.getfield 39, 3) := by decide +kernel
theorem dX5_follow_197 : decode cX5_follow 197 = .ok (.iload 8, 2) := by decide +kernel
theorem dX5_follow_199 : decode cX5_follow 199 = .ok (.laload, 1) := by decide +kernel
theorem dX5_follow_200 : decode cX5_follow 200 = .ok (.lmul, 1) := by decide +kernel
theorem dX5_follow_201 : decode cX5_follow 201 = .ok (.ladd, 1) := by decide +kernel
theorem dX5_follow_202 : decode cX5_follow 202 = .ok (.lastore, 1) := by decide +kernel
theorem dX5_follow_203 : decode cX5_follow 203 = .ok (.goto 100, 3) := by decide +kernel
theorem dX5_follow_206 : decode cX5_follow 206 = .ok (.lload 6, 2) := by decide +kernel
theorem dX5_follow_208 : decode cX5_follow 208 = .ok (.aload_n 0, 1) := by decide +kernel
theorem dX5_follow_209 : decode cX5_follow 209 = .ok (.getfield 39, 3) := by decide +kernel
theorem dX5_follow_212 : decode cX5_follow 212 = .ok (.iload 8, 2) := by decide +kernel
theorem dX5_follow_214 : decode cX5_follow 214 = .ok (.laload, 1) := by decide +kernel
theorem dX5_follow_215 : decode cX5_follow 215 = .ok (.ladd, 1) := by decide +kernel
theorem dX5_follow_216 : decode cX5_follow 216 = .ok (.lstore 6, 2) := by decide +kernel
theorem dX5_follow_218 : decode cX5_follow 218 = .ok (.aload_n 0, 1) := by decide +kernel
theorem dX5_follow_219 : decode cX5_follow 219 = .ok (.getfield 42, 3) := by decide +kernel
theorem dX5_follow_222 : decode cX5_follow 222 = .ok (.bipush 65, 2) := by decide +kernel
theorem dX5_follow_224 : decode cX5_follow 224 = .ok (.aload_n 0, 1) := by decide +kernel
theorem dX5_follow_225 : decode cX5_follow 225 = .ok (.iload_n 2, 1) := by decide +kernel
theorem dX5_follow_226 : decode cX5_follow 226 = .ok (.iload 9, 2) := by decide +kernel
theorem dX5_follow_228 : decode cX5_follow 228 = .ok (.iload 11, 2) := by decide +kernel
theorem dX5_follow_230 : decode cX5_follow 230 = .ok (.invokevirtual 68, 3) := by decide +kernel
theorem dX5_follow_233 : decode cX5_follow 233 = .ok (.imul, 1) := by decide +kernel
theorem dX5_follow_234 : decode cX5_follow 234 = .ok (.iconst 1, 1) := by decide +kernel
theorem dX5_follow_235 : decode cX5_follow 235 = .ok (.iadd, 1) := by decide +kernel
theorem dX5_follow_236 : decode cX5_follow 236 = .ok (.dup2, 1) := by decide +kernel
theorem dX5_follow_237 : decode cX5_follow 237 = .ok (.laload, 1) := by decide +kernel
theorem dX5_follow_238 : decode cX5_follow 238 = .ok (.aload_n 0, 1) := by decide +kernel
theorem dX5_follow_239 : decode cX5_follow 239 = .ok (.getfield 20, 3) := by decide +kernel
theorem dX5_follow_242 : decode cX5_follow 242 = .ok (.iload_n 2, 1) := by decide +kernel
theorem dX5_follow_243 : decode cX5_follow 243 = .ok (.iaload, 1) := by decide +kernel
theorem dX5_follow_244 : decode cX5_follow 244 = .ok (.i2l, 1) := by decide +kernel
theorem dX5_follow_245 : decode cX5_follow 245 = .ok (.aload_n 0, 1) := by decide +kernel
theorem dX5_follow_246 : decode cX5_follow 246 = .ok (.getfield 39, 3) := by decide +kernel
theorem dX5_follow_249 : decode cX5_follow 249 = .ok (.iload 8, 2) := by decide +kernel
theorem dX5_follow_251 : decode cX5_follow 251 = .ok (.laload, 1) := by decide +kernel
theorem dX5_follow_252 : decode cX5_follow 252 = .ok (.lmul, 1) := by decide +kernel
theorem dX5_follow_253 : decode cX5_follow 253 = .ok (.ladd, 1) := by decide +kernel
theorem dX5_follow_254 : decode cX5_follow 254 = .ok (.lastore, 1) := by decide +kernel
theorem dX5_follow_255 : decode cX5_follow 255 = .ok (.aload_n 0, 1) := by decide +kernel
theorem dX5_follow_256 : decode cX5_follow 256 = .ok (.getfield 42, 3) := by decide +kernel
theorem dX5_follow_259 : decode cX5_follow 259 = .ok (.bipush 65, 2) := by decide +kernel
theorem dX5_follow_261 : decode cX5_follow 261 = .ok (.iload 9, 2) := by decide +kernel
theorem dX5_follow_263 : decode cX5_follow 263 = .ok (.iload 11, 2) := by decide +kernel
theorem dX5_follow_265 : decode cX5_follow 265 = .ok (.isub, 1) := by decide +kernel
theorem dX5_follow_266 : decode cX5_follow 266 = .ok (.imul, 1) := by decide +kernel
theorem dX5_follow_267 : decode cX5_follow 267 = .ok (.iload_n 1, 1) := by decide +kernel
theorem dX5_follow_268 : decode cX5_follow 268 = .ok (.iconst 3, 1) := by decide +kernel
theorem dX5_follow_269 : decode cX5_follow 269 = .ok (.if_icmp .ne 10, 3) := by decide +kernel
theorem dX5_follow_272 : decode cX5_follow 272 = .ok (.iconst 2, 1) := by decide +kernel
theorem dX5_follow_273 : decode cX5_follow 273 = .ok (.iload 11, 2) := by decide +kernel
theorem dX5_follow_275 : decode cX5_follow 275 = .ok (.imul, 1) := by decide +kernel
theorem dX5_follow_276 : decode cX5_follow 276 = .ok (.goto 4, 3) := by decide +kernel
theorem dX5_follow_279 : decode cX5_follow 279 = .ok (.iconst 1, 1) := by decide +kernel
theorem dX5_follow_280 : decode cX5_follow 280 = .ok (.iadd, 1) := by decide +kernel
theorem dX5_follow_281 : decode cX5_follow 281 = .ok (.dup2, 1) := by decide +kernel
theorem dX5_follow_282 : decode cX5_follow 282 = .ok (.laload, 1) := by decide +kernel
theorem dX5_follow_283 : decode cX5_follow 283 = .ok (.bipush 16, 2) := by decide +kernel
theorem dX5_follow_285 : decode cX5_follow 285 = .ok (.aload_n 0, 1) := by decide +kernel
theorem dX5_follow_286 : decode cX5_follow 286 = .ok (.getfield 20, 3) := by decide +kernel
theorem dX5_follow_289 : decode cX5_follow 289 = .ok (.iload_n 2, 1) := by decide +kernel
theorem dX5_follow_290 : decode cX5_follow 290 = .ok (.iaload, 1) := by decide +kernel
theorem dX5_follow_291 : decode cX5_follow 291 = .ok (.isub, 1) := by decide +kernel
theorem dX5_follow_292 : decode cX5_follow 292 = .ok (.i2l, 1) := by decide +kernel
theorem dX5_follow_293 : decode cX5_follow 293 = .ok (.aload_n 0, 1) := by decide +kernel
theorem dX5_follow_294 : decode cX5_follow 294 = .ok (.getfield 39, 3) := by decide +kernel
theorem dX5_follow_297 : decode cX5_follow 297 = .ok (.iload 8, 2) := by decide +kernel
theorem dX5_follow_299 : decode cX5_follow 299 = .ok (.laload, 1) := by decide +kernel
theorem dX5_follow_300 : decode cX5_follow 300 = .ok (.lmul, 1) := by decide +kernel
theorem dX5_follow_301 : decode cX5_follow 301 = .ok (.ladd, 1) := by decide +kernel
theorem dX5_follow_302 : decode cX5_follow 302 = .ok (.lastore, 1) := by decide +kernel
theorem dX5_follow_303 : decode cX5_follow 303 = .ok (.iinc 8 1, 3) := by decide +kernel
theorem dX5_follow_306 : decode cX5_follow 306 = .ok (.goto (-211), 3) := by decide +kernel
theorem dX5_follow_309 : decode cX5_follow 309 = .ok (.aload_n 0, 1) := by decide +kernel
theorem dX5_follow_310 : decode cX5_follow 310 = .ok (.dup, 1) := by decide +kernel
theorem dX5_follow_311 : decode cX5_follow 311 = .ok (.getfield 98, 3) := by decide +kernel
theorem dX5_follow_314 : decode cX5_follow 314 = .ok (.ldc2_w 72, 3) := by decide +kernel
theorem dX5_follow_317 : decode cX5_follow 317 = .ok (.lload 6, 2) := by decide +kernel
theorem dX5_follow_319 : decode cX5_follow 319 = .ok (.lmul, 1) := by decide +kernel
theorem dX5_follow_320 : decode cX5_follow 320 = .ok (.ladd, 1) := by decide +kernel
theorem dX5_follow_321 : decode cX5_follow 321 = .ok (.putfield 98, 3) := by decide +kernel
theorem dX5_follow_324 : decode cX5_follow 324 = .ok (.iconst 0, 1) := by decide +kernel
theorem dX5_follow_325 : decode cX5_follow 325 = .ok (.istore 8, 2) := by decide +kernel
theorem dX5_follow_327 : decode cX5_follow 327 = .ok (.iload 8, 2) := by decide +kernel
theorem dX5_follow_329 : decode cX5_follow 329 = .ok (.sipush 2145, 3) := by decide +kernel
theorem dX5_follow_332 : decode cX5_follow 332 = .ok (.if_icmp .ge 23, 3) := by decide +kernel
theorem dX5_follow_335 : decode cX5_follow 335 = .ok (.aload_n 0, 1) := by decide +kernel
theorem dX5_follow_336 : decode cX5_follow 336 = .ok (.getfield 39, 3) := by decide +kernel
theorem dX5_follow_339 : decode cX5_follow 339 = .ok (.iload 8, 2) := by decide +kernel
theorem dX5_follow_341 : decode cX5_follow 341 = .ok (.aload_n 0, 1) := by decide +kernel
theorem dX5_follow_342 : decode cX5_follow 342 = .ok (.getfield 42, 3) := by decide +kernel
theorem dX5_follow_345 : decode cX5_follow 345 = .ok (.iload 8, 2) := by decide +kernel
theorem dX5_follow_347 : decode cX5_follow 347 = .ok (.laload, 1) := by decide +kernel
theorem dX5_follow_348 : decode cX5_follow 348 = .ok (.lastore, 1) := by decide +kernel
theorem dX5_follow_349 : decode cX5_follow 349 = .ok (.iinc 8 1, 3) := by decide +kernel
theorem dX5_follow_352 : decode cX5_follow 352 = .ok (.goto (-25), 3) := by decide +kernel
theorem dX5_follow_355 : decode cX5_follow 355 = .ok (.iinc 5 1, 3) := by decide +kernel
theorem dX5_follow_358 : decode cX5_follow 358 = .ok (.goto (-313), 3) := by decide +kernel
theorem dX5_follow_361 : decode cX5_follow 361 = .ok (.return_, 1) := by decide +kernel
theorem dX5_weightAt_0 : decode cX5_weightAt 0 = .ok (.lconst 0, 1) := by decide +kernel
theorem dX5_weightAt_1 : decode cX5_weightAt 1 = .ok (.lstore_n 2, 1) := by decide +kernel
theorem dX5_weightAt_2 : decode cX5_weightAt 2 = .ok (.iconst 0, 1) := by decide +kernel
theorem dX5_weightAt_3 : decode cX5_weightAt 3 = .ok (.istore 4, 2) := by decide +kernel
theorem dX5_weightAt_5 : decode cX5_weightAt 5 = .ok (.iload 4, 2) := by decide +kernel
theorem dX5_weightAt_7 : decode cX5_weightAt 7 = .ok (.bipush 65, 2) := by decide +kernel
theorem dX5_weightAt_9 : decode cX5_weightAt 9 = .ok (.if_icmp .ge 24, 3) := by decide +kernel
theorem dX5_weightAt_12 : decode cX5_weightAt 12 = .ok (.lload_n 2, 1) := by decide +kernel
theorem dX5_weightAt_13 : decode cX5_weightAt 13 = .ok (.aload_n 0, 1) := by decide +kernel
theorem dX5_weightAt_14 : decode cX5_weightAt 14 = .ok (.getfield 39, 3) := by decide +kernel
theorem dX5_weightAt_17 : decode cX5_weightAt 17 = .ok (.bipush 65, 2) := by decide +kernel
theorem dX5_weightAt_19 : decode cX5_weightAt 19 = .ok (.iload_n 1, 1) := by decide +kernel
theorem dX5_weightAt_20 : decode cX5_weightAt 20 = .ok (.imul, 1) := by decide +kernel
theorem dX5_weightAt_21 : decode cX5_weightAt 21 = .ok (.iload 4, 2) := by decide +kernel
theorem dX5_weightAt_23 : decode cX5_weightAt 23 = .ok (.iadd, 1) := by decide +kernel
theorem dX5_weightAt_24 : decode cX5_weightAt 24 = .ok (.laload, 1) := by decide +kernel
theorem dX5_weightAt_25 : decode cX5_weightAt 25 = .ok (.ladd, 1) := by decide +kernel
theorem dX5_weightAt_26 : decode cX5_weightAt 26 = .ok (.lstore_n 2, 1) := by decide +kernel
theorem dX5_weightAt_27 : decode cX5_weightAt 27 = .ok (.iinc 4 1, 3) := by decide +kernel
theorem dX5_weightAt_30 : decode cX5_weightAt 30 = .ok (.goto (-25), 3) := by decide +kernel
theorem dX5_weightAt_33 : decode cX5_weightAt 33 = .ok (.lload_n 2, 1) := by decide +kernel
theorem dX5_weightAt_34 : decode cX5_weightAt 34 = .ok (.lreturn, 1) := by decide +kernel
set_option maxRecDepth 20000 in
theorem ggX5_plan_X5_in : GoodIn wsX5_plan wsX5_in := goodIn_r _ [8] (by decide +kernel) (by decide +kernel)
set_option maxRecDepth 20000 in
theorem gX5_plan_X5_in : GoodIn wsX5_plan (va_wsS RX5 48 yX5_in wsX5_in) := goodIn_app (goodIn_of _ (by decide +kernel)) ggX5_plan_X5_in
set_option maxRecDepth 20000 in
theorem ggX5_plan_X5_isGame : GoodIn wsX5_plan wsX5_isGame := goodIn_r _ [12, 13, 5, 6, 7, 8, 54, 55, 56, 57, 58, 59, 60, 61, 62, 63, 64, 65, 66, 67] (by decide +kernel) (by decide +kernel)
set_option maxRecDepth 20000 in
theorem gX5_plan_X5_isGame : GoodIn wsX5_plan (wsV RX5 52 RX5 yX5_isGame wsX5_isGame) := goodIn_app (goodIn_of _ (by decide +kernel)) ggX5_plan_X5_isGame
set_option maxRecDepth 20000 in
theorem ggX5_plan_X5_isPurse : GoodIn wsX5_plan wsX5_isPurse := goodIn_r _ [17, 4, 5, 6, 7, 8, 54, 55, 56, 57, 58, 59, 60, 61, 62, 63, 64, 65, 66, 67] (by decide +kernel) (by decide +kernel)
set_option maxRecDepth 20000 in
theorem gX5_plan_X5_isPurse : GoodIn wsX5_plan (wsV RX5 81 RX5 yX5_isPurse wsX5_isPurse) := goodIn_app (goodIn_of _ (by decide +kernel)) ggX5_plan_X5_isPurse
set_option maxRecDepth 20000 in
theorem ggX5_plan_X5_follow : GoodIn wsX5_plan wsX5_follow := goodIn_r _ [21, 22, 3, 23, 24, 4, 25, 26, 27, 28, 7, 29, 30, 31, 32, 33, 34, 35, 36, 37, 38, 39, 40, 41, 42, 43, 44, 45, 46, 47, 48, 49, 54, 55, 56, 57, 58, 59, 60, 61, 62, 63, 64, 65, 66, 67] (by decide +kernel) (by decide +kernel)
set_option maxRecDepth 20000 in
theorem gX5_plan_X5_follow : GoodIn wsX5_plan (wsV RX5 101 RX5 yX5_follow wsX5_follow) := goodIn_app (goodIn_of _ (by decide +kernel)) ggX5_plan_X5_follow
set_option maxRecDepth 20000 in
theorem ggX5_plan_X5_weightAt : GoodIn wsX5_plan wsX5_weightAt := goodIn_r _ [53, 22, 54, 55, 56, 57, 58, 59, 60, 61, 62, 63, 64, 65, 66, 67] (by decide +kernel) (by decide +kernel)
set_option maxRecDepth 20000 in
theorem gX5_plan_X5_weightAt : GoodIn wsX5_plan (wsV RX5 105 RX5 yX5_weightAt wsX5_weightAt) := goodIn_app (goodIn_of _ (by decide +kernel)) ggX5_plan_X5_weightAt
theorem dX5_plan_0 : decode cX5_plan 0 = .ok (.iload_n 1, 1) := by decide +kernel
theorem dX5_plan_1 : decode cX5_plan 1 = .ok (.iconst 0, 1) := by decide +kernel
theorem dX5_plan_2 : decode cX5_plan 2 = .ok (.iconst 3, 1) := by decide +kernel
theorem dX5_plan_3 : decode cX5_plan 3 = .ok (.invokestatic 48, 3) := by decide +kernel
theorem dX5_plan_6 : decode cX5_plan 6 = .ok (.ifCond .eq 42, 3) := by decide +kernel
theorem dX5_plan_9 : decode cX5_plan 9 = .ok (.aload_n 0, 1) := by decide +kernel
theorem dX5_plan_10 : decode cX5_plan 10 = .ok (.iload_n 2, 1) := by decide +kernel
theorem dX5_plan_11 : decode cX5_plan 11 = .ok (.invokevirtual 52, 3) := by decide +kernel
theorem dX5_plan_14 : decode cX5_plan 14 = .ok (.ifCond .eq 34, 3) := by decide +kernel
theorem dX5_plan_17 : decode cX5_plan 17 = .ok (.aload_n 0, 1) := by decide +kernel
theorem dX5_plan_18 : decode cX5_plan 18 = .ok (.iload_n 3, 1) := by decide +kernel
theorem dX5_plan_19 : decode cX5_plan 19 = .ok (.invokevirtual 81, 3) := by decide +kernel
theorem dX5_plan_22 : decode cX5_plan 22 = .ok (.ifCond .eq 26, 3) := by decide +kernel
theorem dX5_plan_25 : decode cX5_plan 25 = .ok (.iload 4, 2) := by decide +kernel
theorem dX5_plan_27 : decode cX5_plan 27 = .ok (.iconst 0, 1) := by decide +kernel
theorem dX5_plan_28 : decode cX5_plan 28 = .ok (.aload_n 0, 1) := by decide +kernel
theorem dX5_plan_29 : decode cX5_plan 29 = .ok (.getfield 13, 3) := by decide +kernel
theorem dX5_plan_32 : decode cX5_plan 32 = .ok (.invokestatic 48, 3) := by decide +kernel
theorem dX5_plan_35 : decode cX5_plan 35 = .ok (.ifCond .eq 13, 3) := by decide +kernel
theorem dX5_plan_38 : decode cX5_plan 38 = .ok (.iload 5, 2) := by decide +kernel
theorem dX5_plan_40 : decode cX5_plan 40 = .ok (.iconst 0, 1) := by decide +kernel
theorem dX5_plan_41 : decode cX5_plan 41 = .ok (.iconst 3, 1) := by decide +kernel
theorem dX5_plan_42 : decode cX5_plan 42 = .ok (.invokestatic 48, 3) := by decide +kernel
theorem dX5_plan_45 : decode cX5_plan 45 = .ok (.ifCond .ne 7, 3) := by decide +kernel
theorem dX5_plan_48 : decode cX5_plan 48 = .ok (.ldc2_w 84, 3) := by decide +kernel
theorem dX5_plan_51 : decode cX5_plan 51 = .ok (.lreturn, 1) := by decide +kernel
theorem dX5_plan_52 : decode cX5_plan 52 = .ok (.aload_n 0, 1) := by decide +kernel
theorem dX5_plan_53 : decode cX5_plan 53 = .ok (.iload_n 1, 1) := by decide +kernel
theorem dX5_plan_54 : decode cX5_plan 54 = .ok (.iload_n 2, 1) := by decide +kernel
theorem dX5_plan_55 : decode cX5_plan 55 = .ok (.iload_n 3, 1) := by decide +kernel
theorem dX5_plan_56 : decode cX5_plan 56 = .ok (.iload 4, 2) := by decide +kernel
theorem dX5_plan_58 : decode cX5_plan 58 = .ok (.invokevirtual 101, 3) := by decide +kernel
theorem dX5_plan_61 : decode cX5_plan 61 = .ok (.iload 5, 2) := by decide +kernel
theorem dX5_plan_63 : decode cX5_plan 63 = .ok (.iconst 3, 1) := by decide +kernel
theorem dX5_plan_64 : decode cX5_plan 64 = .ok (.if_icmp .ne 8, 3) := by decide +kernel
theorem dX5_plan_67 : decode cX5_plan 67 = .ok (.aload_n 0, 1) := by decide +kernel
theorem dX5_plan_68 : decode cX5_plan 68 = .ok (.getfield 98, 3) := by decide +kernel
theorem dX5_plan_71 : decode cX5_plan 71 = .ok (.lreturn, 1) := by decide +kernel
theorem dX5_plan_72 : decode cX5_plan 72 = .ok (.iload 5, 2) := by decide +kernel
theorem dX5_plan_74 : decode cX5_plan 74 = .ok (.iconst 2, 1) := by decide +kernel
theorem dX5_plan_75 : decode cX5_plan 75 = .ok (.if_icmp .ge 21, 3) := by decide +kernel
theorem dX5_plan_78 : decode cX5_plan 78 = .ok (.aload_n 0, 1) := by decide +kernel
theorem dX5_plan_79 : decode cX5_plan 79 = .ok (.iload 5, 2) := by decide +kernel
theorem dX5_plan_81 : decode cX5_plan 81 = .ok (.ifCond .ne 10, 3) := by decide +kernel
theorem dX5_plan_84 : decode cX5_plan 84 = .ok (.aload_n 0, 1) := by decide +kernel
theorem dX5_plan_85 : decode cX5_plan 85 = .ok (.getfield 7, 3) := by decide +kernel
theorem dX5_plan_88 : decode cX5_plan 88 = .ok (.goto 4, 3) := by decide +kernel
theorem dX5_plan_91 : decode cX5_plan 91 = .ok (.iconst 0, 1) := by decide +kernel
theorem dX5_plan_92 : decode cX5_plan 92 = .ok (.invokevirtual 105, 3) := by decide +kernel
theorem dX5_plan_95 : decode cX5_plan 95 = .ok (.lreturn, 1) := by decide +kernel
theorem dX5_plan_96 : decode cX5_plan 96 = .ok (.lconst 0, 1) := by decide +kernel
theorem dX5_plan_97 : decode cX5_plan 97 = .ok (.lstore 6, 2) := by decide +kernel
theorem dX5_plan_99 : decode cX5_plan 99 = .ok (.iconst 0, 1) := by decide +kernel
theorem dX5_plan_100 : decode cX5_plan 100 = .ok (.istore 8, 2) := by decide +kernel
theorem dX5_plan_102 : decode cX5_plan 102 = .ok (.iload 8, 2) := by decide +kernel
theorem dX5_plan_104 : decode cX5_plan 104 = .ok (.aload_n 0, 1) := by decide +kernel
theorem dX5_plan_105 : decode cX5_plan 105 = .ok (.getfield 7, 3) := by decide +kernel
theorem dX5_plan_108 : decode cX5_plan 108 = .ok (.if_icmp .gt 24, 3) := by decide +kernel
theorem dX5_plan_111 : decode cX5_plan 111 = .ok (.lload 6, 2) := by decide +kernel
theorem dX5_plan_113 : decode cX5_plan 113 = .ok (.iload 8, 2) := by decide +kernel
theorem dX5_plan_115 : decode cX5_plan 115 = .ok (.i2l, 1) := by decide +kernel
theorem dX5_plan_116 : decode cX5_plan 116 = .ok (.aload_n 0, 1) := by decide +kernel
theorem dX5_plan_117 : decode cX5_plan 117 = .ok (.iload 8, 2) := by decide +kernel
theorem dX5_plan_119 : decode cX5_plan 119 = .ok (.invokevirtual 105, 3) := by decide +kernel
theorem dX5_plan_122 : decode cX5_plan 122 = .ok (.lmul, 1) := by decide +kernel
theorem dX5_plan_123 : decode cX5_plan 123 = .ok (.ladd, 1) := by decide +kernel
theorem dX5_plan_124 : decode cX5_plan 124 = .ok (.lstore 6, 2) := by decide +kernel
theorem dX5_plan_126 : decode cX5_plan 126 = .ok (.iinc 8 1, 3) := by decide +kernel
theorem dX5_plan_129 : decode cX5_plan 129 = .ok (.goto (-27), 3) := by decide +kernel
theorem dX5_plan_132 : decode cX5_plan 132 = .ok (.lload 6, 2) := by decide +kernel
theorem dX5_plan_134 : decode cX5_plan 134 = .ok (.lreturn, 1) := by decide +kernel
set_option maxRecDepth 20000 in
theorem ggX5_bold_X5_isGame : GoodIn wsX5_bold wsX5_isGame := goodIn_r _ [8, 9, 10, 11, 7, 12, 62, 63, 64, 65, 66, 67, 68, 69, 70, 71, 72, 73, 74, 75] (by decide +kernel) (by decide +kernel)
set_option maxRecDepth 20000 in
theorem gX5_bold_X5_isGame : GoodIn wsX5_bold (wsV RX5 52 RX5 yX5_isGame wsX5_isGame) := goodIn_app (goodIn_of _ (by decide +kernel)) ggX5_bold_X5_isGame
set_option maxRecDepth 20000 in
theorem ggX5_bold_X5_isPurse : GoodIn wsX5_bold wsX5_isPurse := goodIn_r _ [16, 2, 10, 11, 7, 12, 62, 63, 64, 65, 66, 67, 68, 69, 70, 71, 72, 73, 74, 75] (by decide +kernel) (by decide +kernel)
set_option maxRecDepth 20000 in
theorem gX5_bold_X5_isPurse : GoodIn wsX5_bold (wsV RX5 81 RX5 yX5_isPurse wsX5_isPurse) := goodIn_app (goodIn_of _ (by decide +kernel)) ggX5_bold_X5_isPurse
set_option maxRecDepth 20000 in
theorem ggX5_bold_X5_in : GoodIn wsX5_bold wsX5_in := goodIn_r _ [12] (by decide +kernel) (by decide +kernel)
set_option maxRecDepth 20000 in
theorem gX5_bold_X5_in : GoodIn wsX5_bold (va_wsS RX5 48 yX5_in wsX5_in) := goodIn_app (goodIn_of _ (by decide +kernel)) ggX5_bold_X5_in
set_option maxRecDepth 20000 in
theorem ggX5_bold_X5_follow : GoodIn wsX5_bold wsX5_follow := goodIn_r _ [20, 21, 22, 23, 24, 2, 25, 26, 27, 28, 7, 29, 30, 31, 32, 33, 34, 35, 36, 37, 38, 39, 40, 41, 42, 43, 44, 45, 46, 47, 48, 49, 62, 63, 64, 65, 66, 67, 68, 69, 70, 71, 72, 73, 74, 75] (by decide +kernel) (by decide +kernel)
set_option maxRecDepth 20000 in
theorem gX5_bold_X5_follow : GoodIn wsX5_bold (wsV RX5 101 RX5 yX5_follow wsX5_follow) := goodIn_app (goodIn_of _ (by decide +kernel)) ggX5_bold_X5_follow
set_option maxRecDepth 20000 in
theorem ggX5_bold_X5_weightAt : GoodIn wsX5_bold wsX5_weightAt := goodIn_r _ [53, 21, 62, 63, 64, 65, 66, 67, 68, 69, 70, 71, 72, 73, 74, 75] (by decide +kernel) (by decide +kernel)
set_option maxRecDepth 20000 in
theorem gX5_bold_X5_weightAt : GoodIn wsX5_bold (wsV RX5 105 RX5 yX5_weightAt wsX5_weightAt) := goodIn_app (goodIn_of _ (by decide +kernel)) ggX5_bold_X5_weightAt
set_option maxRecDepth 20000 in
theorem ggX5_bold_X5_work : GoodIn wsX5_bold wsX5_work := goodIn_r _ [57, 2, 3, 24, 26, 27, 28, 7, 29, 30, 58, 59, 60, 61, 25, 46, 47, 48, 49, 39, 40, 41, 42, 43, 44, 45, 62, 63, 64, 65, 66, 67, 68, 69, 70, 71, 72, 73, 74, 75] (by decide +kernel) (by decide +kernel)
set_option maxRecDepth 20000 in
theorem gX5_bold_X5_work : GoodIn wsX5_bold (wsV RX5 88 RX5 yX5_work wsX5_work) := goodIn_app (goodIn_of _ (by decide +kernel)) ggX5_bold_X5_work
theorem dX5_bold_0 : decode cX5_bold 0 = .ok (.aload_n 0, 1) := by decide +kernel
theorem dX5_bold_1 : decode cX5_bold 1 = .ok (.iload_n 1, 1) := by decide +kernel
theorem dX5_bold_2 : decode cX5_bold 2 = .ok (.invokevirtual 52, 3) := by decide +kernel
theorem dX5_bold_5 : decode cX5_bold 5 = .ok (.ifCond .eq 23, 3) := by decide +kernel
theorem dX5_bold_8 : decode cX5_bold 8 = .ok (.aload_n 0, 1) := by decide +kernel
theorem dX5_bold_9 : decode cX5_bold 9 = .ok (.iload_n 2, 1) := by decide +kernel
theorem dX5_bold_10 : decode cX5_bold 10 = .ok (.invokevirtual 81, 3) := by decide +kernel
theorem dX5_bold_13 : decode cX5_bold 13 = .ok (.ifCond .eq 15, 3) := by decide +kernel
theorem dX5_bold_16 : decode cX5_bold 16 = .ok (.iload_n 3, 1) := by decide +kernel
theorem dX5_bold_17 : decode cX5_bold 17 = .ok (.iconst 0, 1) := by decide +kernel
theorem dX5_bold_18 : decode cX5_bold 18 = .ok (.aload_n 0, 1) := by decide +kernel
theorem dX5_bold_19 : decode cX5_bold 19 = .ok (.getfield 13, 3) := by decide +kernel
theorem dX5_bold_22 : decode cX5_bold 22 = .ok (.invokestatic 48, 3) := by decide +kernel
theorem dX5_bold_25 : decode cX5_bold 25 = .ok (.ifCond .ne 5, 3) := by decide +kernel
theorem dX5_bold_28 : decode cX5_bold 28 = .ok (.iconst (-1), 1) := by decide +kernel
theorem dX5_bold_29 : decode cX5_bold 29 = .ok (.ireturn, 1) := by decide +kernel
theorem dX5_bold_30 : decode cX5_bold 30 = .ok (.aload_n 0, 1) := by decide +kernel
theorem dX5_bold_31 : decode cX5_bold 31 = .ok (.iconst 0, 1) := by decide +kernel
theorem dX5_bold_32 : decode cX5_bold 32 = .ok (.iload_n 1, 1) := by decide +kernel
theorem dX5_bold_33 : decode cX5_bold 33 = .ok (.iload_n 2, 1) := by decide +kernel
theorem dX5_bold_34 : decode cX5_bold 34 = .ok (.iload_n 3, 1) := by decide +kernel
theorem dX5_bold_35 : decode cX5_bold 35 = .ok (.invokevirtual 101, 3) := by decide +kernel
theorem dX5_bold_38 : decode cX5_bold 38 = .ok (.aload_n 0, 1) := by decide +kernel
theorem dX5_bold_39 : decode cX5_bold 39 = .ok (.aload_n 0, 1) := by decide +kernel
theorem dX5_bold_40 : decode cX5_bold 40 = .ok (.getfield 7, 3) := by decide +kernel
theorem dX5_bold_43 : decode cX5_bold 43 = .ok (.invokevirtual 105, 3) := by decide +kernel
theorem dX5_bold_46 : decode cX5_bold 46 = .ok (.lstore 4, 2) := by decide +kernel
theorem dX5_bold_48 : decode cX5_bold 48 = .ok (.aload_n 0, 1) := by decide +kernel
theorem dX5_bold_49 : decode cX5_bold 49 = .ok (.iload_n 3, 1) := by decide +kernel
theorem dX5_bold_50 : decode cX5_bold 50 = .ok (.iconst 0, 1) := by decide +kernel
theorem dX5_bold_51 : decode cX5_bold 51 = .ok (.iload_n 1, 1) := by decide +kernel
theorem dX5_bold_52 : decode cX5_bold 52 = .ok (.iload_n 1, 1) := by decide +kernel
theorem dX5_bold_53 : decode cX5_bold 53 = .ok (.invokevirtual 88, 3) := by decide +kernel
theorem dX5_bold_56 : decode cX5_bold 56 = .ok (.aload_n 0, 1) := by decide +kernel
theorem dX5_bold_57 : decode cX5_bold 57 = .ok (.getfield 35, 3) := by decide +kernel
theorem dX5_bold_60 : decode cX5_bold 60 = .ok (.bipush 33, 2) := by decide +kernel
theorem dX5_bold_62 : decode cX5_bold 62 = .ok (.iload_n 3, 1) := by decide +kernel
theorem dX5_bold_63 : decode cX5_bold 63 = .ok (.imul, 1) := by decide +kernel
theorem dX5_bold_64 : decode cX5_bold 64 = .ok (.iload_n 2, 1) := by decide +kernel
theorem dX5_bold_65 : decode cX5_bold 65 = .ok (.iadd, 1) := by decide +kernel
theorem dX5_bold_66 : decode cX5_bold 66 = .ok (.laload, 1) := by decide +kernel
theorem dX5_bold_67 : decode cX5_bold 67 = .ok (.lload 4, 2) := by decide +kernel
theorem dX5_bold_69 : decode cX5_bold 69 = .ok (.lcmp, 1) := by decide +kernel
theorem dX5_bold_70 : decode cX5_bold 70 = .ok (.ifCond .ne 7, 3) := by decide +kernel
theorem dX5_bold_73 : decode cX5_bold 73 = .ok (.iconst 1, 1) := by decide +kernel
theorem dX5_bold_74 : decode cX5_bold 74 = .ok (.goto 4, 3) := by decide +kernel
theorem dX5_bold_77 : decode cX5_bold 77 = .ok (.iconst 0, 1) := by decide +kernel
theorem dX5_bold_78 : decode cX5_bold 78 = .ok (.ireturn, 1) := by decide +kernel
theorem dX5_count_0 : decode cX5_count 0 = .ok (.iload_n 1, 1) := by decide +kernel
theorem dX5_count_1 : decode cX5_count 1 = .ok (.ifCond .ne 10, 3) := by decide +kernel
theorem dX5_count_4 : decode cX5_count 4 = .ok (.aload_n 0, 1) := by decide +kernel
theorem dX5_count_5 : decode cX5_count 5 = .ok (.getfield 7, 3) := by decide +kernel
theorem dX5_count_8 : decode cX5_count 8 = .ok (.goto 28, 3) := by decide +kernel
theorem dX5_count_11 : decode cX5_count 11 = .ok (.iload_n 1, 1) := by decide +kernel
theorem dX5_count_12 : decode cX5_count 12 = .ok (.iconst 1, 1) := by decide +kernel
theorem dX5_count_13 : decode cX5_count 13 = .ok (.if_icmp .ne 10, 3) := by decide +kernel
theorem dX5_count_16 : decode cX5_count 16 = .ok (.aload_n 0, 1) := by decide +kernel
theorem dX5_count_17 : decode cX5_count 17 = .ok (.getfield 13, 3) := by decide +kernel
theorem dX5_count_20 : decode cX5_count 20 = .ok (.goto 16, 3) := by decide +kernel
theorem dX5_count_23 : decode cX5_count 23 = .ok (.iload_n 1, 1) := by decide +kernel
theorem dX5_count_24 : decode cX5_count 24 = .ok (.iconst 2, 1) := by decide +kernel
theorem dX5_count_25 : decode cX5_count 25 = .ok (.if_icmp .ne 10, 3) := by decide +kernel
theorem dX5_count_28 : decode cX5_count 28 = .ok (.aload_n 0, 1) := by decide +kernel
theorem dX5_count_29 : decode cX5_count 29 = .ok (.getfield 45, 3) := by decide +kernel
theorem dX5_count_32 : decode cX5_count 32 = .ok (.goto 4, 3) := by decide +kernel
theorem dX5_count_35 : decode cX5_count 35 = .ok (.iconst (-1), 1) := by decide +kernel
theorem dX5_count_36 : decode cX5_count 36 = .ok (.ireturn, 1) := by decide +kernel
theorem dX5_trace_0 : decode cX5_trace 0 = .ok (.aload_n 0, 1) := by decide +kernel
theorem dX5_trace_1 : decode cX5_trace 1 = .ok (.getfield 56, 3) := by decide +kernel
theorem dX5_trace_4 : decode cX5_trace 4 = .ok (.lreturn, 1) := by decide +kernel
theorem dJ9_max_f86c9_0 : decode cJ9_max_f86c9 0 = .ok (.lload_n 0, 1) := by decide +kernel
theorem dJ9_max_f86c9_1 : decode cJ9_max_f86c9 1 = .ok (.lload_n 2, 1) := by decide +kernel
theorem dJ9_max_f86c9_2 : decode cJ9_max_f86c9 2 = .ok (.lcmp, 1) := by decide +kernel
theorem dJ9_max_f86c9_3 : decode cJ9_max_f86c9 3 = .ok (.ifCond .lt 7, 3) := by decide +kernel
theorem dJ9_max_f86c9_6 : decode cJ9_max_f86c9 6 = .ok (.lload_n 0, 1) := by decide +kernel
theorem dJ9_max_f86c9_7 : decode cJ9_max_f86c9 7 = .ok (.goto 4, 3) := by decide +kernel
theorem dJ9_max_f86c9_10 : decode cJ9_max_f86c9 10 = .ok (.lload_n 2, 1) := by decide +kernel
theorem dJ9_max_f86c9_11 : decode cJ9_max_f86c9 11 = .ok (.lreturn, 1) := by decide +kernel
theorem dJ9_min_7cf53_0 : decode cJ9_min_7cf53 0 = .ok (.iload_n 0, 1) := by decide +kernel
theorem dJ9_min_7cf53_1 : decode cJ9_min_7cf53 1 = .ok (.iload_n 1, 1) := by decide +kernel
theorem dJ9_min_7cf53_2 : decode cJ9_min_7cf53 2 = .ok (.if_icmp .gt 7, 3) := by decide +kernel
theorem dJ9_min_7cf53_5 : decode cJ9_min_7cf53 5 = .ok (.iload_n 0, 1) := by decide +kernel
theorem dJ9_min_7cf53_6 : decode cJ9_min_7cf53 6 = .ok (.goto 4, 3) := by decide +kernel
theorem dJ9_min_7cf53_9 : decode cJ9_min_7cf53 9 = .ok (.iload_n 1, 1) := by decide +kernel
theorem dJ9_min_7cf53_10 : decode cJ9_min_7cf53 10 = .ok (.ireturn, 1) := by decide +kernel
end
section
/-! BASE: the environment of all contracts, pure and writing contracts, loops, locals at fixed places, numbers -/
abbrev eT : Type := va_G × (Nat → ClassId)
abbrev eTys (E : eT) : List (ClassId × FieldType) := [(E.2 0, .int), (E.2 1, .long), (E.2 2, .object RX1), (E.2 3, .array .long)]
def eNest : List Cond := [.fieldLinkNest RX4 157 RX0 "what" "I" RX4, .fieldLinkNest RX4 154 RX0 "rows" "[[J" RX4, .fieldLinkNest RX4 170 RX0 "first" "I" RX4, .fieldLinkNest RX4 173 RX0 "end" "I" RX4, .fieldLinkNest RX4 151 RX0 "known" "I" RX4, .fieldLinkNest RX4 146 RX1 "chance" "I" RX4, .fieldLinkNest RX4 134 RX1 "limit" "I" RX4, .fieldLinkNest RX4 143 RX1 "gains" "[I" RX4, .castable RX2 RX1, .castable RX3 RX1]
def eEv (E : eT) (U : State) : Prop := va_K E.1 vwCl (eTys E) U ∧ ∀ w ∈ eNest, va_Nw w U
theorem eNest_of {w : Cond} (h : w ∈ eNest) : (∃ (a : String) (i : Nat) (b n d h : String), w = .fieldLinkNest a i b n d h) ∨ ∃ C T : String, w = .castable C T := by
  simp only [eNest, List.mem_cons, List.not_mem_nil, or_false] at h
  rcases h with rfl | rfl | rfl | rfl | rfl | rfl | rfl | rfl | rfl | rfl <;> first | exact Or.inl ⟨_, _, _, _, _, _, rfl⟩ | exact Or.inr ⟨_, _, rfl⟩
theorem eEv.warm {E : eT} {s U : State} (hW : s.WarmedH U.vm) (h : eEv E s) : eEv E U := ⟨va_K.moved hW.alike h.1, fun w hw => by
  rcases eNest_of hw with ⟨a, i, b, n, d, g, rfl⟩ | ⟨C, T, rfl⟩
  · exact va_Nw.warmF hW (h.2 _ hw)
  · exact va_Nw.warmC hW (h.2 _ hw)⟩
theorem eEv.call {E : eT} {U : State} {g : JFrame} {mk : MethodId} {a : Array Value} (h : eEv E U) : eEv E (U.calling g mk a) := ⟨va_K.moved (u := U) (U := U.calling g mk a) (Vm.Alike.refl U.vm) h.1, fun w hw => by
  rcases eNest_of hw with ⟨a', i, b, n, d, g', rfl⟩ | ⟨C, T, rfl⟩
  · exact va_Nw.same (u := U) (U := U.calling g mk a) rfl rfl (h.2 _ hw)
  · exact va_Nw.same (u := U) (U := U.calling g mk a) rfl rfl (h.2 _ hw)⟩
def ePP (E : eT) (ws : va_W) (U : State) : Prop := va_P E.1 vwCl ws U.heap ∧ eEv E U
def ePW (E : eT) (ws : va_W) (sz : Nat) (U : State) : Prop := U.heap.size = sz ∧ va_P E.1 vwCl ws U.heap ∧ va_D (fun _ => True) ws ∧ eEv E U
def eAt (E : eT) (A : Nat → Prop) (ws : va_W) (t : State) : Prop := va_P E.1 vwCl ws t.heap ∧ va_D A ws
theorem ePu_blind {E : eT} {ws : va_W} {av : List Value} : FrameBlind (va_Pc av (ePP E ws)) := fun _ _ _ _ h => ⟨h.1, h.2.1, h.2.2.call⟩
theorem ePw_blind {E : eT} {ws : va_W} {av : List Value} {sz : Nat} : FrameBlind (va_Pc av (ePW E ws sz)) := fun _ _ _ _ h => ⟨h.1, h.2.1, h.2.2.1, h.2.2.2.1, h.2.2.2.2.call⟩
theorem ePu_S {E : eT} {ws : va_W} {s : State} {H : Heap} {As : List Value} (hP : va_P E.1 vwCl ws H) (hE : eEv E s) : PreS s H (va_Pc As (ePP E ws)) As := ⟨ePu_blind, fun U hU hW => ⟨rfl, by rw [hU]; exact hP, hE.warm hW⟩⟩
theorem ePu_V {E : eT} {ws : va_W} {s : State} {H : Heap} {As : List Value} {ci k a : Nat} {q : vw_C} {fs : List Value} (hP : va_P E.1 vwCl ws H) (hE : eEv E s) (hc : vwCl[ci]? = some q) (he : ws[k]? = some (a, .inr (ci, fs))) : PreV s H q.1 a (va_Pc (.ref a :: As) (ePP E ws)) As := ⟨ePu_blind, va_recv hE.1 hP hc he, fun U hU hW => ⟨rfl, by rw [hU]; exact hP, hE.warm hW⟩⟩
theorem ePw_S {E : eT} {ws : va_W} {s : State} {H : Heap} {As : List Value} {A : Nat → Prop} (hP : va_P E.1 vwCl ws H) (hD : va_D A ws) (hE : eEv E s) : PreS s H (va_Pc As (ePW E ws H.size)) As := ⟨ePw_blind, fun U hU hW => ⟨rfl, by rw [hU], by rw [hU]; exact hP, hD.weaken (fun _ _ _ _ => trivial), hE.warm hW⟩⟩
theorem ePw_V {E : eT} {ws : va_W} {s : State} {H : Heap} {As : List Value} {A : Nat → Prop} {ci k a : Nat} {q : vw_C} {fs : List Value} (hP : va_P E.1 vwCl ws H) (hD : va_D A ws) (hE : eEv E s) (hc : vwCl[ci]? = some q) (he : ws[k]? = some (a, .inr (ci, fs))) : PreV s H q.1 a (va_Pc (.ref a :: As) (ePW E ws H.size)) As := ⟨ePw_blind, va_recv hE.1 hP hc he, fun U hU hW => ⟨rfl, by rw [hU], by rw [hU]; exact hP, hD.weaken (fun _ _ _ _ => trivial), hE.warm hW⟩⟩
/-- contracts of methods that only read -/
abbrev mPi (l : Launch) (y : MethodName) (w : List Cond) (fr lo : Nat) (E : eT) (ws : va_W) (av : List Value) (post : Int32 → Prop) : Prop := Met l y w ({ frames := fr, cells := 0, slots := 0, locals := lo }) (va_Pc av (ePP E ws)) (vp_Si post) 0 0 (fun _ => False)
abbrev mPl (l : Launch) (y : MethodName) (w : List Cond) (fr lo : Nat) (E : eT) (ws : va_W) (av : List Value) (post : Int64 → Prop) : Prop := Met l y w ({ frames := fr, cells := 0, slots := 0, locals := lo }) (va_Pc av (ePP E ws)) (vp_Sl post) 0 0 (fun _ => False)
abbrev mPq (l : Launch) (y : MethodName) (w : List Cond) (fr lo : Nat) (E : eT) (ws : va_W) (av : List Value) (post : Option Nat → Prop) : Prop := Met l y w ({ frames := fr, cells := 0, slots := 0, locals := lo }) (va_Pc av (ePP E ws)) (va_Sq post) 0 0 (fun _ => False)
/-- contracts of methods that write: the cells behind it -/
abbrev mWi (l : Launch) (y : MethodName) (w : List Cond) (fr lo mc ms : Nat) (E : eT) (ws : va_W) (av : List Value) (post : Int32 → va_W → Prop) : Prop := ∀ sz : Nat, Met l y w ({ frames := fr, cells := mc, slots := ms, locals := lo }) (va_Pc av (ePW E ws sz)) (va_Qi post (eAt E (va_A ws sz)) (va_A ws sz)) mc ms (va_A ws sz)
abbrev mWl (l : Launch) (y : MethodName) (w : List Cond) (fr lo mc ms : Nat) (E : eT) (ws : va_W) (av : List Value) (post : Int64 → va_W → Prop) : Prop := ∀ sz : Nat, Met l y w ({ frames := fr, cells := mc, slots := ms, locals := lo }) (va_Pc av (ePW E ws sz)) (va_Ql post (eAt E (va_A ws sz)) (va_A ws sz)) mc ms (va_A ws sz)
abbrev mWv (l : Launch) (y : MethodName) (w : List Cond) (fr lo mc ms : Nat) (E : eT) (ws : va_W) (av : List Value) (post : va_W → Prop) : Prop := ∀ sz : Nat, Met l y w ({ frames := fr, cells := mc, slots := ms, locals := lo }) (va_Pc av (ePW E ws sz)) (va_Qv post (eAt E (va_A ws sz)) (va_A ws sz)) mc ms (va_A ws sz)
abbrev mWr (l : Launch) (y : MethodName) (w : List Cond) (fr lo mc ms : Nat) (E : eT) (ws : va_W) (av : List Value) (post : Nat × va_W → Prop) : Prop := ∀ sz : Nat, Met l y w ({ frames := fr, cells := mc, slots := ms, locals := lo }) (va_Pc av (ePW E ws sz)) (va_Qr post (fun u a t => u.1 = a ∧ eAt E (va_A ws sz) u.2 t) (va_A ws sz)) mc ms (va_A ws sz)
theorem eFree {A0 : Nat → Prop} {ws : va_W} {H0 H : Heap} {locs : List Loc} (hD : va_D A0 ws) (hS : va_S A0 H0 H locs) (hA : ∀ q, H0.size ≤ q → A0 q) : ∀ q, va_A ws H.size q → A0 q := by
  intro q h
  rcases h with ⟨k, e, h⟩ | h
  · exact hD.2 k (q, e) h
  · exact hA q (Nat.le_trans hS.1 h)
def lset (lv : List (Nat × Value)) (k : Nat) (q : Nat × Value) : List (Nat × Value) := lv.take k ++ q :: lv.drop (k + 1)
def lok1 (i : Nat) (q : Nat × Value) : Bool := !(q.1 == i) && !(q.1 + 1 == i && q.2.category == 2)
def lok2 (i : Nat) (q : Nat × Value) : Bool := !(q.1 == i) && (!(q.1 == i + 1) && !(q.1 + 1 == i && q.2.category == 2))
theorem lset_in {lv : List (Nat × Value)} {k : Nat} {x : Nat × Value} {f : Nat × Value → Bool} (h : (lv.take k ++ lv.drop (k + 1)).all f = true) {q : Nat × Value} (hq : q ∈ lset lv k x) : q ∈ x :: lv.filter f := by
  have ha := List.all_eq_true.mp h
  rcases List.mem_append.mp hq with h1 | h1
  · exact List.mem_cons_of_mem _ (List.mem_filter.mpr ⟨List.mem_of_mem_take h1, ha q (List.mem_append_left _ h1)⟩)
  · rcases List.mem_cons.mp h1 with rfl | h2
    · exact List.mem_cons_self
    · exact List.mem_cons_of_mem _ (List.mem_filter.mpr ⟨List.mem_of_mem_drop h2, ha q (List.mem_append_right _ h2)⟩)
theorem lset_has {ls : Array Slot} {nL k : Nat} {lv : List (Nat × Value)} {x : Nat × Value} {f : Nat × Value → Bool} (h : (lv.take k ++ lv.drop (k + 1)).all f = true) (hl : lv_has ls nL (x :: lv.filter f)) : lv_has ls nL (lset lv k x) := ⟨hl.1, hl.2.1, fun q hq => hl.2.2 q (lset_in h hq)⟩
section EB
variable {p : Program} {l : Launch} {e : Env} {R : Room} {s : State} {m : MethodId} {args : Array Value} {below : List Frame} {meth : Method} {c : Code} {H : Heap} {locs : List Loc} {cells slots : Nat} {Q : State → Prop}
variable {cc : ByteArray} {pc : Nat} {ls : Array Slot} {rest : List Value}
theorem st_i1 (hexec : p.tables.exec = Jvm.exec) (hb : c.code = cc) {k : Fin 4} {i nL : Nat} {x : Int32} {lv : List (Nat × Value)} (q0 : Nat) (hdg : decode cc pc = .ok (.istore_n k, 1)) (hi : (k : Nat) = i) (h : lv_has ls nL lv) (hn : i < nL) (hk : (lv.take q0 ++ lv.drop (q0 + 1)).all (lok1 i) = true)
    (kk : ∀ ls, lv_has ls nL (lset lv q0 (i, .int x)) → W p l e R s m args below meth c H locs cells slots Q (F0 m (pc + 1) ls rest)) : W p l e R s m args below meth c H locs cells slots Q (F0 m pc ls (.int x :: rest)) := lv_istore_n hexec hb hdg hi h hn rfl (fun ls hl => kk ls (lset_has hk hl))
theorem st_i2 (hexec : p.tables.exec = Jvm.exec) (hb : c.code = cc) {i nL : Nat} {x : Int32} {lv : List (Nat × Value)} (q0 : Nat) (hdg : decode cc pc = .ok (.istore i, 2)) (h : lv_has ls nL lv) (hn : i < nL) (hk : (lv.take q0 ++ lv.drop (q0 + 1)).all (lok1 i) = true)
    (kk : ∀ ls, lv_has ls nL (lset lv q0 (i, .int x)) → W p l e R s m args below meth c H locs cells slots Q (F0 m (pc + 2) ls rest)) : W p l e R s m args below meth c H locs cells slots Q (F0 m pc ls (.int x :: rest)) := lv_istore hexec hb hdg h hn rfl (fun ls hl => kk ls (lset_has hk hl))
theorem st_l1 (hexec : p.tables.exec = Jvm.exec) (hb : c.code = cc) {k : Fin 4} {i nL : Nat} {x : Int64} {lv : List (Nat × Value)} (q0 : Nat) (hdg : decode cc pc = .ok (.lstore_n k, 1)) (hi : (k : Nat) = i) (h : lv_has ls nL lv) (hn : i + 1 < nL) (hk : (lv.take q0 ++ lv.drop (q0 + 1)).all (lok2 i) = true)
    (kk : ∀ ls, lv_has ls nL (lset lv q0 (i, .long x)) → W p l e R s m args below meth c H locs cells slots Q (F0 m (pc + 1) ls rest)) : W p l e R s m args below meth c H locs cells slots Q (F0 m pc ls (.long x :: rest)) := lv_lstore_n hexec hb hdg hi h hn rfl (fun ls hl => kk ls (lset_has hk hl))
theorem st_l2 (hexec : p.tables.exec = Jvm.exec) (hb : c.code = cc) {i nL : Nat} {x : Int64} {lv : List (Nat × Value)} (q0 : Nat) (hdg : decode cc pc = .ok (.lstore i, 2)) (h : lv_has ls nL lv) (hn : i + 1 < nL) (hk : (lv.take q0 ++ lv.drop (q0 + 1)).all (lok2 i) = true)
    (kk : ∀ ls, lv_has ls nL (lset lv q0 (i, .long x)) → W p l e R s m args below meth c H locs cells slots Q (F0 m (pc + 2) ls rest)) : W p l e R s m args below meth c H locs cells slots Q (F0 m pc ls (.long x :: rest)) := lv_lstore hexec hb hdg h hn rfl (fun ls hl => kk ls (lset_has hk hl))
theorem st_a1 (hexec : p.tables.exec = Jvm.exec) (hb : c.code = cc) {k : Fin 4} {i nL : Nat} {x : Nat} {lv : List (Nat × Value)} (q0 : Nat) (hdg : decode cc pc = .ok (.astore_n k, 1)) (hi : (k : Nat) = i) (h : lv_has ls nL lv) (hn : i < nL) (hk : (lv.take q0 ++ lv.drop (q0 + 1)).all (lok1 i) = true)
    (kk : ∀ ls, lv_has ls nL (lset lv q0 (i, .ref x)) → W p l e R s m args below meth c H locs cells slots Q (F0 m (pc + 1) ls rest)) : W p l e R s m args below meth c H locs cells slots Q (F0 m pc ls (.ref x :: rest)) := lv_astore_n hexec hb hdg hi h hn rfl (fun ls hl => kk ls (lset_has hk hl))
theorem st_a2 (hexec : p.tables.exec = Jvm.exec) (hb : c.code = cc) {i nL : Nat} {x : Nat} {lv : List (Nat × Value)} (q0 : Nat) (hdg : decode cc pc = .ok (.astore i, 2)) (h : lv_has ls nL lv) (hn : i < nL) (hk : (lv.take q0 ++ lv.drop (q0 + 1)).all (lok1 i) = true)
    (kk : ∀ ls, lv_has ls nL (lset lv q0 (i, .ref x)) → W p l e R s m args below meth c H locs cells slots Q (F0 m (pc + 2) ls rest)) : W p l e R s m args below meth c H locs cells slots Q (F0 m pc ls (.ref x :: rest)) := lv_astore hexec hb hdg h hn rfl (fun ls hl => kk ls (lset_has hk hl))
theorem st_inc (hexec : p.tables.exec = Jvm.exec) (hb : c.code = cc) {i nL : Nat} {n : Int} {x v : Int32} {lv : List (Nat × Value)} (q0 : Nat) (hdg : decode cc pc = .ok (.iinc i n, 3)) (h : lv_has ls nL lv) (h0 : lv[q0]? = some (i, .int x)) (hv : x + Int32.ofInt n = v) (hn : i < nL) (hk : (lv.take q0 ++ lv.drop (q0 + 1)).all (lok1 i) = true)
    (kk : ∀ ls, lv_has ls nL (lset lv q0 (i, .int v)) → W p l e R s m args below meth c H locs cells slots Q (F0 m (pc + 3) ls rest)) : W p l e R s m args below meth c H locs cells slots Q (F0 m pc ls (rest)) := lv_iinc hexec hb hdg h h0 hv hn rfl (fun ls hl => kk ls (lset_has hk hl))
theorem tp_i {x y : Int32} (h : x = y) (k : W p l e R s m args below meth c H locs cells slots Q (F0 m pc ls (.int y :: rest))) : W p l e R s m args below meth c H locs cells slots Q (F0 m pc ls (.int x :: rest)) := by rw [h]; exact k
theorem tp_l {x y : Int64} (h : x = y) (k : W p l e R s m args below meth c H locs cells slots Q (F0 m pc ls (.long y :: rest))) : W p l e R s m args below meth c H locs cells slots Q (F0 m pc ls (.long x :: rest)) := by rw [h]; exact k
theorem tp_r {x y : Value} (h : x = y) (k : W p l e R s m args below meth c H locs cells slots Q (F0 m pc ls (y :: rest))) : W p l e R s m args below meth c H locs cells slots Q (F0 m pc ls (x :: rest)) := by rw [h]; exact k
/-- a counted loop that leaves the heap alone -/
theorem wLoop {st : List Value} (N i0 : Nat) (I : Nat → Array Slot → Prop) (h0 : i0 ≤ N)
    (hs : ∀ (i : Nat) (ls : Array Slot), i < N → I i ls → (∀ ls, I (i + 1) ls → W p l e R s m args below meth c H locs cells slots Q (F0 m pc ls st)) → W p l e R s m args below meth c H locs cells slots Q (F0 m pc ls st))
    (hx : ∀ ls : Array Slot, I N ls → W p l e R s m args below meth c H locs cells slots Q (F0 m pc ls st)) (hI : I i0 ls) : W p l e R s m args below meth c H locs cells slots Q (F0 m pc ls st) := by
  have key : ∀ (n i : Nat) (ls : Array Slot), i + n = N → I i ls → W p l e R s m args below meth c H locs cells slots Q (F0 m pc ls st) := by
    intro n
    induction n with
    | zero => intro i ls hi h; have : i = N := by omega
              subst this; exact hx ls h
    | succ n ih => intro i ls hi h; exact hs i ls (by omega) h (fun ls h => ih (i + 1) ls (by omega) h)
  exact key (N - i0) i0 ls (by omega) hI
/-- a counted loop over the heap -/
theorem wLoopH {st : List Value} (N i0 : Nat) (I : Nat → Heap → List Loc → Array Slot → Prop) (h0 : i0 ≤ N)
    (hs : ∀ (i : Nat) (H : Heap) (locs : List Loc) (ls : Array Slot), i < N → I i H locs ls → (∀ (H : Heap) (locs : List Loc) (ls : Array Slot), I (i + 1) H locs ls → W p l e R s m args below meth c H locs cells slots Q (F0 m pc ls st)) → W p l e R s m args below meth c H locs cells slots Q (F0 m pc ls st))
    (hx : ∀ (H : Heap) (locs : List Loc) (ls : Array Slot), I N H locs ls → W p l e R s m args below meth c H locs cells slots Q (F0 m pc ls st)) (hI : I i0 H locs ls) : W p l e R s m args below meth c H locs cells slots Q (F0 m pc ls st) := by
  have key : ∀ (n i : Nat) (H : Heap) (locs : List Loc) (ls : Array Slot), i + n = N → I i H locs ls → W p l e R s m args below meth c H locs cells slots Q (F0 m pc ls st) := by
    intro n
    induction n with
    | zero => intro i H locs ls hi h; have : i = N := by omega
              subst this; exact hx H locs ls h
    | succ n ih => intro i H locs ls hi h; exact hs i H locs ls (by omega) h (fun H locs ls h => ih (i + 1) H locs ls (by omega) h)
  exact key (N - i0) i0 H locs ls (by omega) hI
/-- branches that meet again: the rest is walked once -/
theorem wCut {α : Type} {g : JFrame} (fr : α → JFrame) (P : α → Prop) (tail : ∀ a : α, P a → W p l e R s m args below meth c H locs cells slots Q (fr a))
    (main : (∀ a : α, P a → W p l e R s m args below meth c H locs cells slots Q (fr a)) → W p l e R s m args below meth c H locs cells slots Q g) : W p l e R s m args below meth c H locs cells slots Q g := main tail
theorem wCutH {α : Type} {g : JFrame} (fr : α → JFrame) (P : α → Heap → List Loc → Prop) (tail : ∀ (a : α) (H : Heap) (locs : List Loc), P a H locs → W p l e R s m args below meth c H locs cells slots Q (fr a))
    (main : (∀ (a : α) (H : Heap) (locs : List Loc), P a H locs → W p l e R s m args below meth c H locs cells slots Q (fr a)) → W p l e R s m args below meth c H locs cells slots Q g) : W p l e R s m args below meth c H locs cells slots Q g := main tail
/-- compares of small numbers -/
theorem n_lt (hexec : p.tables.exec = Jvm.exec) (hb : c.code = cc) {a b : Nat} (ha : a < 2 ^ 31) (hb2 : b < 2 ^ 31) {off : Int} (tgt : Nat) (hdg : decode cc pc = .ok (.if_icmp .lt off, 3)) (ht : (pc : Int) + off = (tgt : Int))
    (kt : a < b → W p l e R s m args below meth c H locs cells slots Q (F0 m tgt ls rest)) (kf : b ≤ a → W p l e R s m args below meth c H locs cells slots Q (F0 m (pc + 3) ls rest)) : W p l e R s m args below meth c H locs cells slots Q (F0 m pc ls (.int (nI b) :: .int (nI a) :: rest)) :=
  lv_icmp_lt hexec hb hdg ht (fun h => kt ((nI_ltI ha hb2).mp h)) (fun h => kf (Nat.not_lt.mp fun q => h ((nI_ltI ha hb2).mpr q)))
theorem n_le (hexec : p.tables.exec = Jvm.exec) (hb : c.code = cc) {a b : Nat} (ha : a < 2 ^ 31) (hb2 : b < 2 ^ 31) {off : Int} (tgt : Nat) (hdg : decode cc pc = .ok (.if_icmp .le off, 3)) (ht : (pc : Int) + off = (tgt : Int))
    (kt : a ≤ b → W p l e R s m args below meth c H locs cells slots Q (F0 m tgt ls rest)) (kf : b < a → W p l e R s m args below meth c H locs cells slots Q (F0 m (pc + 3) ls rest)) : W p l e R s m args below meth c H locs cells slots Q (F0 m pc ls (.int (nI b) :: .int (nI a) :: rest)) :=
  lv_icmp_le hexec hb hdg ht (fun h => kt ((nI_leI ha hb2).mp h)) (fun h => kf (Nat.not_le.mp fun q => h ((nI_leI ha hb2).mpr q)))
theorem n_gt (hexec : p.tables.exec = Jvm.exec) (hb : c.code = cc) {a b : Nat} (ha : a < 2 ^ 31) (hb2 : b < 2 ^ 31) {off : Int} (tgt : Nat) (hdg : decode cc pc = .ok (.if_icmp .gt off, 3)) (ht : (pc : Int) + off = (tgt : Int))
    (kt : b < a → W p l e R s m args below meth c H locs cells slots Q (F0 m tgt ls rest)) (kf : a ≤ b → W p l e R s m args below meth c H locs cells slots Q (F0 m (pc + 3) ls rest)) : W p l e R s m args below meth c H locs cells slots Q (F0 m pc ls (.int (nI b) :: .int (nI a) :: rest)) :=
  lv_icmp_gt hexec hb hdg ht (fun h => kt ((nI_ltI hb2 ha).mp h)) (fun h => kf (Nat.not_lt.mp fun q => h ((nI_ltI hb2 ha).mpr q)))
theorem n_ge (hexec : p.tables.exec = Jvm.exec) (hb : c.code = cc) {a b : Nat} (ha : a < 2 ^ 31) (hb2 : b < 2 ^ 31) {off : Int} (tgt : Nat) (hdg : decode cc pc = .ok (.if_icmp .ge off, 3)) (ht : (pc : Int) + off = (tgt : Int))
    (kt : b ≤ a → W p l e R s m args below meth c H locs cells slots Q (F0 m tgt ls rest)) (kf : a < b → W p l e R s m args below meth c H locs cells slots Q (F0 m (pc + 3) ls rest)) : W p l e R s m args below meth c H locs cells slots Q (F0 m pc ls (.int (nI b) :: .int (nI a) :: rest)) :=
  lv_icmp_ge hexec hb hdg ht (fun h => kt ((nI_leI hb2 ha).mp h)) (fun h => kf (Nat.not_le.mp fun q => h ((nI_leI hb2 ha).mpr q)))
theorem n_eq (hexec : p.tables.exec = Jvm.exec) (hb : c.code = cc) {a b : Nat} (ha : a < 2 ^ 31) (hb2 : b < 2 ^ 31) {off : Int} (tgt : Nat) (hdg : decode cc pc = .ok (.if_icmp .eq off, 3)) (ht : (pc : Int) + off = (tgt : Int))
    (kt : a = b → W p l e R s m args below meth c H locs cells slots Q (F0 m tgt ls rest)) (kf : ¬ a = b → W p l e R s m args below meth c H locs cells slots Q (F0 m (pc + 3) ls rest)) : W p l e R s m args below meth c H locs cells slots Q (F0 m pc ls (.int (nI b) :: .int (nI a) :: rest)) :=
  lv_icmp_eq hexec hb hdg ht (fun h => kt ((nI_eq ha hb2).mp h)) (fun h => kf (fun q => h ((nI_eq ha hb2).mpr q)))
theorem n_ne (hexec : p.tables.exec = Jvm.exec) (hb : c.code = cc) {a b : Nat} (ha : a < 2 ^ 31) (hb2 : b < 2 ^ 31) {off : Int} (tgt : Nat) (hdg : decode cc pc = .ok (.if_icmp .ne off, 3)) (ht : (pc : Int) + off = (tgt : Int))
    (kt : ¬ a = b → W p l e R s m args below meth c H locs cells slots Q (F0 m tgt ls rest)) (kf : a = b → W p l e R s m args below meth c H locs cells slots Q (F0 m (pc + 3) ls rest)) : W p l e R s m args below meth c H locs cells slots Q (F0 m pc ls (.int (nI b) :: .int (nI a) :: rest)) :=
  lv_icmp_ne hexec hb hdg ht (fun h => kt (fun q => h ((nI_eq ha hb2).mpr q))) (fun h => kf ((nI_eq ha hb2).mp h))
theorem z_eq (hexec : p.tables.exec = Jvm.exec) (hb : c.code = cc) {a : Nat} (ha : a < 2 ^ 31) {off : Int} (tgt : Nat) (hdg : decode cc pc = .ok (.ifCond .eq off, 3)) (ht : (pc : Int) + off = (tgt : Int))
    (kt : a = 0 → W p l e R s m args below meth c H locs cells slots Q (F0 m tgt ls rest)) (kf : 0 < a → W p l e R s m args below meth c H locs cells slots Q (F0 m (pc + 3) ls rest)) : W p l e R s m args below meth c H locs cells slots Q (F0 m pc ls (.int (nI a) :: rest)) :=
  lv_if_eq hexec hb hdg ht (fun h => kt ((nI_eq ha (by decide)).mp h)) (fun h => kf (Nat.pos_of_ne_zero fun q => h ((nI_eq ha (b := 0) (by decide)).mpr q)))
theorem z_ne (hexec : p.tables.exec = Jvm.exec) (hb : c.code = cc) {a : Nat} (ha : a < 2 ^ 31) {off : Int} (tgt : Nat) (hdg : decode cc pc = .ok (.ifCond .ne off, 3)) (ht : (pc : Int) + off = (tgt : Int))
    (kt : 0 < a → W p l e R s m args below meth c H locs cells slots Q (F0 m tgt ls rest)) (kf : a = 0 → W p l e R s m args below meth c H locs cells slots Q (F0 m (pc + 3) ls rest)) : W p l e R s m args below meth c H locs cells slots Q (F0 m pc ls (.int (nI a) :: rest)) :=
  lv_if_ne hexec hb hdg ht (fun h => kt (Nat.pos_of_ne_zero fun q => h ((nI_eq ha (b := 0) (by decide)).mpr q))) (fun h => kf ((nI_eq ha (by decide)).mp h))
/-- an answer that is 1 or 0, and the branch on it -/
theorem q_eq (hexec : p.tables.exec = Jvm.exec) (hb : c.code = cc) {C : Prop} {dC : Decidable C} {off : Int} (tgt : Nat) (hdg : decode cc pc = .ok (.ifCond .eq off, 3)) (ht : (pc : Int) + off = (tgt : Int))
    (kt : ¬ C → W p l e R s m args below meth c H locs cells slots Q (F0 m tgt ls rest)) (kf : C → W p l e R s m args below meth c H locs cells slots Q (F0 m (pc + 3) ls rest)) : W p l e R s m args below meth c H locs cells slots Q (F0 m pc ls (.int (@ite Int32 C dC 1 0) :: rest)) :=
  lv_if_eq hexec hb hdg ht (fun h => kt (fun q => by rw [if_pos q] at h; exact absurd h (by decide))) (fun h => kf (Classical.byContradiction fun q => h (by rw [if_neg q])))
theorem q_ne (hexec : p.tables.exec = Jvm.exec) (hb : c.code = cc) {C : Prop} {dC : Decidable C} {off : Int} (tgt : Nat) (hdg : decode cc pc = .ok (.ifCond .ne off, 3)) (ht : (pc : Int) + off = (tgt : Int))
    (kt : C → W p l e R s m args below meth c H locs cells slots Q (F0 m tgt ls rest)) (kf : ¬ C → W p l e R s m args below meth c H locs cells slots Q (F0 m (pc + 3) ls rest)) : W p l e R s m args below meth c H locs cells slots Q (F0 m pc ls (.int (@ite Int32 C dC 1 0) :: rest)) :=
  lv_if_ne hexec hb hdg ht (fun h => kt (Classical.byContradiction fun q => h (by rw [if_neg q]))) (fun h => kf (fun q => by rw [if_pos q] at h; exact absurd h (by decide)))
/-- a row of a grid of longs -/
theorem va_ald2 {D : va_G} {cl : List vw_C} {a : Nat} {tys : List (ClassId × FieldType)} {ws : va_W} (hexec : p.tables.exec = Jvm.exec) (hb : c.code = cc) (hK : va_K D cl tys s) (hP : va_P D cl ws H) (q0 t0 : Nat) {cA : ClassId} {n : Nat} {f : Nat → Option Nat} (ha : ws[q0]? = some (a, .inl (cA, n, .inr (.inr (.inr (.inr f)))))) (ht : tys[t0]? = some (cA, .array .long)) {i : Int32} (hin : vp_in i n) (hdg : decode cc pc = .ok (.aaload, 1))
    (kk : W p l e R s m args below meth c H locs cells slots Q (F0 m (pc + 1) ls (va_rf (f i.toNatClampNeg) :: rest))) : W p l e R s m args below meth c H locs cells slots Q (F0 m pc ls (.int i :: .ref a :: rest)) := by
  have hlt : i.toNatClampNeg < n := Nat.not_le.mp fun q => hin (Or.inr q)
  exact W.aald (v := va_rf (f i.toNatClampNeg)) (ty := .array .long) hexec hb (hP q0 _ ha) ((hK.2 t0 _ ht).1 n (fun j => va_rf (f j))) rfl (fun q => by cases q) (by show ¬ (i < 0 ∨ (arrV _ _ _).slots.size ≤ _); rw [arrV_size]; exact hin) (by show (arrV _ _ _).slots[_]? = _; rw [arrV_read _ _ hlt]) rfl rfl hdg kk
end EB
section ED
variable {p : Program} {l : Launch} {e : Env} {R : Room} {s : State} {m : MethodId} {args : Array Value} {below : List Frame} {meth : Method} {c : Code} {H : Heap} {locs : List Loc} {cells slots : Nat} {Q : State → Prop}
variable {cc : ByteArray} {pc : Nat} {ls : Array Slot} {rest : List Value} {A0 : Nat → Prop} {H0 : Heap} {mc ms : Nat} {E : eT} {ws : va_W} {g : JFrame} {Qa : State → Outcome → State → Prop} {free : Addr → Prop}
theorem run_weak (h : va_Run p l e R s m args below meth c H locs cells slots mc ms g rest Qa free) : CallRun p l e R s m args below meth c H locs cells slots mc ms g rest Qa free := fun T hT X => by
  obtain ⟨v, st₀, t, T', L, h0, X', hL, e1, e2, hq, st⟩ := h T hT X
  exact ⟨v, st₀, t, T', L, h0, X', hL, e1, hq, st⟩
/-- a new row of ints, of longs -/
theorem va_newI (hexec : p.tables.exec = Jvm.exec) (hb : c.code = cc) (harr : (Cond.arrayClass .int).before args s = true) (hE : eEv E s) (hP : va_P E.1 vwCl ws H) (hD : va_D A0 ws) (hS : va_S A0 H0 H locs) (hA : ∀ q, H0.size ≤ q → A0 q) {N : Nat} (hN : N ≤ 65536) (hcells : cells + 1 ≤ R.cells) (hslots : slots + N ≤ R.slots) (hdg : decode cc pc = .ok (.newarray .int, 2))
    (kk : ∀ (q : Nat) (H : Heap), va_P E.1 vwCl (ws ++ [(q, .inl (E.2 0, N, .inl (fun _ => nI 0)))]) H → va_D A0 (ws ++ [(q, .inl (E.2 0, N, .inl (fun _ => nI 0)))]) → va_S A0 H0 H locs → W p l e R s m args below meth c H locs (cells + 1) (slots + N) Q (F0 m (pc + 2) ls (.ref q :: rest))) : W p l e R s m args below meth c H locs cells slots Q (F0 m pc ls (.int (nI N) :: rest)) := by
  refine va_newa (atype := .int) (ty := .int) (a0 := (N, .inl (fun _ => nI 0))) hexec hb harr rfl hE.1 hP hD hS hA (fun cA => rfl) (nI_pos (by omega)) (nI_clamp (by omega)) (by show N * 4 ≤ _; omega) hcells hslots hdg (fun q cA H1 hK hP hD hS => ?_)
  have h1 : s.vm.findClass ("[" ++ FieldType.int.toString) = some cA := (hK.2 4 (cA, .int) rfl).2
  have h2 : s.vm.findClass ("[" ++ FieldType.int.toString) = some (E.2 0) := (hK.2 0 (E.2 0, .int) rfl).2
  have e : cA = E.2 0 := Option.some.inj (h1.symm.trans h2)
  rw [e] at hP hD
  exact kk q H1 hP hD hS
theorem va_newJ (hexec : p.tables.exec = Jvm.exec) (hb : c.code = cc) (harr : (Cond.arrayClass .long).before args s = true) (hE : eEv E s) (hP : va_P E.1 vwCl ws H) (hD : va_D A0 ws) (hS : va_S A0 H0 H locs) (hA : ∀ q, H0.size ≤ q → A0 q) {N : Nat} (hN : N ≤ 65536) (hcells : cells + 1 ≤ R.cells) (hslots : slots + N ≤ R.slots) (hdg : decode cc pc = .ok (.newarray .long, 2))
    (kk : ∀ (q : Nat) (H : Heap), va_P E.1 vwCl (ws ++ [(q, .inl (E.2 1, N, .inr (.inl (fun _ => lN 0))))]) H → va_D A0 (ws ++ [(q, .inl (E.2 1, N, .inr (.inl (fun _ => lN 0))))]) → va_S A0 H0 H locs → W p l e R s m args below meth c H locs (cells + 1) (slots + N) Q (F0 m (pc + 2) ls (.ref q :: rest))) : W p l e R s m args below meth c H locs cells slots Q (F0 m pc ls (.int (nI N) :: rest)) := by
  refine va_newa (atype := .long) (ty := .long) (a0 := (N, .inr (.inl (fun _ => lN 0)))) hexec hb harr rfl hE.1 hP hD hS hA (fun cA => rfl) (nI_pos (by omega)) (nI_clamp (by omega)) (by show N * 8 ≤ _; omega) hcells hslots hdg (fun q cA H1 hK hP hD hS => ?_)
  have h1 : s.vm.findClass ("[" ++ FieldType.long.toString) = some cA := (hK.2 4 (cA, .long) rfl).2
  have h2 : s.vm.findClass ("[" ++ FieldType.long.toString) = some (E.2 1) := (hK.2 1 (E.2 1, .long) rfl).2
  have e : cA = E.2 1 := Option.some.inj (h1.symm.trans h2)
  rw [e] at hP hD
  exact kk q H1 hP hD hS
end ED
section EC
variable {p : Program} {l : Launch} {e : Env} {R : Room} {s : State} {m : MethodId} {args : Array Value} {below : List Frame} {meth : Method} {c : Code} {H : Heap} {locs : List Loc} {cells slots : Nat} {Q : State → Prop}
variable {cc : ByteArray} {pc : Nat} {ls : Array Slot} {rest st0 : List Value} {a : Array Value} {A0 : Nat → Prop} {H0 : Heap} {mc ms : Nat} {E : eT} {ws : va_W}
theorem cW_i {post : Int32 → va_W → Prop} (hr : va_Run p l e R s m args below meth c H locs cells slots mc ms (F0 m pc ls st0) rest (va_Qi post (eAt E (va_A ws H.size)) (va_A ws H.size) a) (va_A ws H.size)) (hS : va_S A0 H0 H locs) (hD : va_D A0 ws) (hA : ∀ q, H0.size ≤ q → A0 q)
    (kk : ∀ (r : Int32) (ws1 : va_W) (H1 : Heap) (locs1 : List Loc), post r ws1 → va_P E.1 vwCl ws1 H1 → va_D A0 ws1 → va_S A0 H0 H1 locs1 → W p l e R s m args below meth c H1 locs1 (cells + mc) (slots + ms) Q (F0 m (pc + 3) ls (.int r :: rest))) : W p l e R s m args below meth c H locs cells slots Q (F0 m pc ls st0) :=
  va_calli hr hS (fun q _ h => eFree hD hS hA q h) (eFree hD hS hA) (fun r u t H1 locs1 ht _ hp hB _ _ hS1 => kk r u H1 locs1 hp (by rw [← ht]; exact hB.1) (hB.2.weaken (fun _ _ _ h => eFree hD hS hA _ h)) hS1)
theorem cW_l {post : Int64 → va_W → Prop} (hr : va_Run p l e R s m args below meth c H locs cells slots mc ms (F0 m pc ls st0) rest (va_Ql post (eAt E (va_A ws H.size)) (va_A ws H.size) a) (va_A ws H.size)) (hS : va_S A0 H0 H locs) (hD : va_D A0 ws) (hA : ∀ q, H0.size ≤ q → A0 q)
    (kk : ∀ (r : Int64) (ws1 : va_W) (H1 : Heap) (locs1 : List Loc), post r ws1 → va_P E.1 vwCl ws1 H1 → va_D A0 ws1 → va_S A0 H0 H1 locs1 → W p l e R s m args below meth c H1 locs1 (cells + mc) (slots + ms) Q (F0 m (pc + 3) ls (.long r :: rest))) : W p l e R s m args below meth c H locs cells slots Q (F0 m pc ls st0) :=
  va_calll hr hS (fun q _ h => eFree hD hS hA q h) (eFree hD hS hA) (fun r u t H1 locs1 ht _ hp hB _ _ hS1 => kk r u H1 locs1 hp (by rw [← ht]; exact hB.1) (hB.2.weaken (fun _ _ _ h => eFree hD hS hA _ h)) hS1)
theorem cW_v {post : va_W → Prop} (hr : va_Run p l e R s m args below meth c H locs cells slots mc ms (F0 m pc ls st0) rest (va_Qv post (eAt E (va_A ws H.size)) (va_A ws H.size) a) (va_A ws H.size)) (hS : va_S A0 H0 H locs) (hD : va_D A0 ws) (hA : ∀ q, H0.size ≤ q → A0 q)
    (kk : ∀ (ws1 : va_W) (H1 : Heap) (locs1 : List Loc), post ws1 → va_P E.1 vwCl ws1 H1 → va_D A0 ws1 → va_S A0 H0 H1 locs1 → W p l e R s m args below meth c H1 locs1 (cells + mc) (slots + ms) Q (F0 m (pc + 3) ls rest)) : W p l e R s m args below meth c H locs cells slots Q (F0 m pc ls st0) :=
  va_callv hr hS (fun q _ h => eFree hD hS hA q h) (eFree hD hS hA) (fun u t H1 locs1 ht _ hp hB _ _ hS1 => kk u H1 locs1 hp (by rw [← ht]; exact hB.1) (hB.2.weaken (fun _ _ _ h => eFree hD hS hA _ h)) hS1)
theorem cW_r {post : Nat × va_W → Prop} (hr : va_Run p l e R s m args below meth c H locs cells slots mc ms (F0 m pc ls st0) rest (va_Qr post (fun u a t => u.1 = a ∧ eAt E (va_A ws H.size) u.2 t) (va_A ws H.size) a) (va_A ws H.size)) (hS : va_S A0 H0 H locs) (hD : va_D A0 ws) (hA : ∀ q, H0.size ≤ q → A0 q)
    (kk : ∀ (r : Nat) (ws1 : va_W) (H1 : Heap) (locs1 : List Loc), post (r, ws1) → va_P E.1 vwCl ws1 H1 → va_D A0 ws1 → va_S A0 H0 H1 locs1 → W p l e R s m args below meth c H1 locs1 (cells + mc) (slots + ms) Q (F0 m (pc + 3) ls (.ref r :: rest))) : W p l e R s m args below meth c H locs cells slots Q (F0 m pc ls st0) :=
  va_callr hr hS (fun q _ h => eFree hD hS hA q h) (eFree hD hS hA) (fun u ra t H1 locs1 ht _ hp hB _ _ hS1 => by
    obtain ⟨u1, u2⟩ := u
    obtain ⟨rfl, hB⟩ := hB
    exact kk u1 u2 H1 locs1 hp (by rw [← ht]; exact hB.1) (hB.2.weaken (fun _ _ _ h => eFree hD hS hA _ h)) hS1)
theorem ret_Pi {post : Int32 → Prop} {v : Int32} (hexec : p.tables.exec = Jvm.exec) (hb : c.code = cc) (hr : meth.sig.returnType = some .int) (hlocks : meth.locks = false) (hdg : decode cc pc = .ok (.ireturn, 1)) (hp : post v) : W p l e R s m args below meth c s.heap [] 0 0 (MQ below (vp_Si post) args s 0 0 (fun _ => False)) (F0 m pc ls [.int v]) :=
  W.iret hexec hb hr (fun t ht _ => ⟨v, rfl, hp, ht⟩) (fun q hq => by cases hq) hdg hlocks
theorem ret_Pz {post : Int32 → Prop} {v : Int32} (hexec : p.tables.exec = Jvm.exec) (hb : c.code = cc) (hr : meth.sig.returnType = some .boolean) (hlocks : meth.locks = false) (hdg : decode cc pc = .ok (.ireturn, 1)) (hn : narrow .boolean (.int v) = .int v) (hp : post v) : W p l e R s m args below meth c s.heap [] 0 0 (MQ below (vp_Si post) args s 0 0 (fun _ => False)) (F0 m pc ls [.int v]) :=
  W.zret hexec hb hr hn (fun t ht _ => ⟨v, rfl, hp, ht⟩) (fun q hq => by cases hq) hdg hlocks
theorem ret_Pl {post : Int64 → Prop} {v : Int64} (hexec : p.tables.exec = Jvm.exec) (hb : c.code = cc) (hr : meth.sig.returnType = some .long) (hlocks : meth.locks = false) (hdg : decode cc pc = .ok (.lreturn, 1)) (hp : post v) : W p l e R s m args below meth c s.heap [] 0 0 (MQ below (vp_Sl post) args s 0 0 (fun _ => False)) (F0 m pc ls [.long v]) :=
  W.lret hexec hb hr (fun t ht _ => ⟨v, rfl, hp, ht⟩) (fun q hq => by cases hq) hdg hlocks
theorem ret_Pq {post : Option Nat → Prop} {C : String} (v : Option Nat) (hexec : p.tables.exec = Jvm.exec) (hb : c.code = cc) (hr : meth.sig.returnType = some (.object C)) (hlocks : meth.locks = false) (hdg : decode cc pc = .ok (.areturn, 1)) (hp : post v) : W p l e R s m args below meth c s.heap [] 0 0 (MQ below (va_Sq post) args s 0 0 (fun _ => False)) (F0 m pc ls [va_rf v]) :=
  W.aret hexec hb hr (Or.inl ⟨C, rfl⟩) (by cases v with | none => exact Or.inl rfl | some a => exact Or.inr ⟨a, rfl⟩) (fun t ht _ => ⟨v, rfl, hp, ht⟩) (fun q hq => by cases hq) hdg hlocks
theorem ret_Wi {A : Nat → Prop} {post : Int32 → va_W → Prop} {v : Int32} (hexec : p.tables.exec = Jvm.exec) (hb : c.code = cc) (hr : meth.sig.returnType = some .int) (hlocks : meth.locks = false) (hdg : decode cc pc = .ok (.ireturn, 1)) (hP : va_P E.1 vwCl ws H) (hD : va_D A ws) (hS : va_S A s.heap H locs) (hp : post v ws) : W p l e R s m args below meth c H locs cells slots (MQ below (va_Qi post (eAt E A) A) args s cells slots A) (F0 m pc ls [.int v]) :=
  W.iret hexec hb hr (fun t ht _ => ⟨⟨v, ws, rfl, hp, by rw [ht]; exact hP, hD⟩, hS.F ht⟩) hS.2.2 hdg hlocks
theorem ret_Wl {A : Nat → Prop} {post : Int64 → va_W → Prop} {v : Int64} (hexec : p.tables.exec = Jvm.exec) (hb : c.code = cc) (hr : meth.sig.returnType = some .long) (hlocks : meth.locks = false) (hdg : decode cc pc = .ok (.lreturn, 1)) (hP : va_P E.1 vwCl ws H) (hD : va_D A ws) (hS : va_S A s.heap H locs) (hp : post v ws) : W p l e R s m args below meth c H locs cells slots (MQ below (va_Ql post (eAt E A) A) args s cells slots A) (F0 m pc ls [.long v]) :=
  W.lret hexec hb hr (fun t ht _ => ⟨⟨v, ws, rfl, hp, by rw [ht]; exact hP, hD⟩, hS.F ht⟩) hS.2.2 hdg hlocks
theorem ret_Wv {A : Nat → Prop} {post : va_W → Prop} (hexec : p.tables.exec = Jvm.exec) (hb : c.code = cc) (hr : meth.sig.returnType = none) (hlocks : meth.locks = false) (hdg : decode cc pc = .ok (.return_, 1)) (hP : va_P E.1 vwCl ws H) (hD : va_D A ws) (hS : va_S A s.heap H locs) (hp : post ws) : W p l e R s m args below meth c H locs cells slots (MQ below (va_Qv post (eAt E A) A) args s cells slots A) (F0 m pc ls []) :=
  W.vret hexec hb hr (fun t ht _ => ⟨⟨ws, rfl, hp, by rw [ht]; exact hP, hD⟩, hS.F ht⟩) hS.2.2 hdg hlocks
theorem ret_Wr {A : Nat → Prop} {post : Nat × va_W → Prop} {v : Nat} {rt : FieldType} (hexec : p.tables.exec = Jvm.exec) (hb : c.code = cc) (hr : meth.sig.returnType = some rt) (hrt : (∃ n, rt = .object n) ∨ ∃ t, rt = .array t) (hlocks : meth.locks = false) (hdg : decode cc pc = .ok (.areturn, 1)) (hP : va_P E.1 vwCl ws H) (hD : va_D A ws) (hS : va_S A s.heap H locs) (hp : post (v, ws)) : W p l e R s m args below meth c H locs cells slots (MQ below (va_Qr post (fun u a t => u.1 = a ∧ eAt E A u.2 t) A) args s cells slots A) (F0 m pc ls [.ref v]) :=
  W.aret hexec hb hr hrt (Or.inr ⟨v, rfl⟩) (fun t ht _ => ⟨⟨(v, ws), v, rfl, hp, rfl, by rw [ht]; exact hP, hD⟩, hS.F ht⟩) hS.2.2 hdg hlocks
end EC
/-- a contract out of its body's walk: methods that only read -/
theorem mP_of {l : Launch} {y : MethodName} {w w' : List Cond} {fr lo maxL : Nat} {E : eT} {ws : va_W} {av : List Value} {Qc : Array Value → State → Outcome → State → Prop} {cc : ByteArray} {ret : Option FieldType} (hy : plainName y.cls = true) (hw : w = Cond.code y cc maxL ret :: w') (hlen : (lg_sl av).length ≤ maxL)
    (body : ∀ (p : Program) (e : Env) (s : State) (m : MethodId) (below : List Frame) (meth : Method) (c : Code) (ls : Array Slot), p.tables.exec = Jvm.exec → c.code = cc → meth.sig.returnType = ret → c.maxLocals = maxL → (∀ x ∈ w, x.before av.toArray s = true) → s.vm.findClass y.cls = some m.cls → meth.locks = false → eEv E s → va_P E.1 vwCl ws s.heap → lv_has ls maxL (lv_args 0 av) →
      W p l e ({ frames := fr, cells := 0, slots := 0, locals := lo }) s m av.toArray below meth c s.heap [] 0 0 (MQ below Qc av.toArray s 0 0 (fun _ => False)) (F0 m 0 ls [])) : Met l y w ({ frames := fr, cells := 0, slots := 0, locals := lo }) (va_Pc av (ePP E ws)) Qc 0 0 (fun _ => False) := by
  refine Met.ofW (cc := cc) (maxL := maxL) (ret := ret) hy hw ?_
  intro p e s m args below meth c s₁ B hml hv
  obtain ⟨rfl, hP, hE⟩ := hv
  have hts := atoms_spec (ws := w) B.pre
  have hown : s.vm.findClass y.cls = some m.cls := findClass_of_methodNamed B.named
  have hl := lv_entry av (n := maxL) hlen
  rw [lg_entry_eq]
  exact body p e s m below meth c _ B.exec B.bytes B.returns hml hts hown B.notSynchronized hE hP hl
/-- methods that write -/
theorem mW_of {l : Launch} {y : MethodName} {w w' : List Cond} {fr lo maxL mc ms sz : Nat} {E : eT} {ws : va_W} {av : List Value} {Qc : Nat → Array Value → State → Outcome → State → Prop} {cc : ByteArray} {ret : Option FieldType} (hy : plainName y.cls = true) (hw : w = Cond.code y cc maxL ret :: w') (hlen : (lg_sl av).length ≤ maxL)
    (body : ∀ (p : Program) (e : Env) (s : State) (m : MethodId) (below : List Frame) (meth : Method) (c : Code) (ls : Array Slot), p.tables.exec = Jvm.exec → c.code = cc → meth.sig.returnType = ret → c.maxLocals = maxL → (∀ x ∈ w, x.before av.toArray s = true) → s.vm.findClass y.cls = some m.cls → meth.locks = false → (y.name = meth.name) → eEv E s → va_P E.1 vwCl ws s.heap → va_D (va_A ws s.heap.size) ws → lv_has ls maxL (lv_args 0 av) →
      W p l e ({ frames := fr, cells := mc, slots := ms, locals := lo }) s m av.toArray below meth c s.heap [] 0 0 (MQ below (Qc s.heap.size) av.toArray s mc ms (va_A ws s.heap.size)) (F0 m 0 ls [])) : Met l y w ({ frames := fr, cells := mc, slots := ms, locals := lo }) (va_Pc av (ePW E ws sz)) (Qc sz) mc ms (va_A ws sz) := by
  refine Met.ofW (cc := cc) (maxL := maxL) (ret := ret) hy hw ?_
  intro p e s m args below meth c s₁ B hml hv
  obtain ⟨rfl, hsz, hP, hD, hE⟩ := hv
  subst hsz
  have hts := atoms_spec (ws := w) B.pre
  have hown : s.vm.findClass y.cls = some m.cls := findClass_of_methodNamed B.named
  have hl := lv_entry av (n := maxL) hlen
  have hin : y.name = meth.name := ((name_of_methodNamed B.named B.method).1).symm
  rw [lg_entry_eq]
  exact body p e s m below meth c _ B.exec B.bytes B.returns hml hts hown B.notSynchronized hin hE hP (hD.self) hl
end
section
/-! THE STATE'S WORDS: games, the worlds of the class and of the reference -/
abbrev gT : Type := Nat × Nat × Nat × Nat × Nat
def gK (d : gT) : Nat := d.1
def gC (d : gT) : Nat := d.2.1
def gM (d : gT) : Nat := d.2.2.1
def gX (d : gT) : Nat := d.2.2.2.1
def gL (d : gT) : Nat := d.2.2.2.2
def gOk (d : gT) : Prop := gK d ≤ 2 ∧ gC d ≤ 16 ∧ (gK d ≠ 0 → 1 ≤ gM d ∧ gM d ≤ 9) ∧ (gK d = 2 → gX d ≤ 10) ∧ 1 ≤ gL d ∧ gL d ≤ 32
def gWin (d : gT) (s : Nat) : Nat := if gK d = 0 then s else if gK d = 1 then s * gM d else s * gM d - s * gM d * gX d / 10
theorem gWin_le {d : gT} (h : gOk d) {s : Nat} (hs : s ≤ 32) : gWin d s ≤ 288 := by
  unfold gWin
  obtain ⟨-, -, h3, -, -, -⟩ := h
  split
  · omega
  · rename_i h0
    have := h3 h0
    have h9 : s * gM d ≤ 32 * 9 := Nat.mul_le_mul hs this.2
    split <;> omega
/-- the cell of a game: its kind says which fields it has, and where -/
def gmE (d : gT) (b : Nat) : va_E := if gK d = 0 then .inr (1, [.int (nI (gC d)), .int (nI (gL d)), .ref b]) else if gK d = 1 then .inr (2, [.int (nI (gC d)), .int (nI (gL d)), .ref b, .int (nI (gM d))]) else .inr (3, [.int (nI (gM d)), .int (nI (gC d)), .int (nI (gL d)), .ref b, .int (nI (gX d))])
def gnE (E : eT) (d : gT) : va_E := .inl (E.2 0, 33, .inl (fun s => nI (gWin d s)))
/-- the games of a world: the n first places of the games' row, and where the games' cells lie -/
def gAll (E : eT) (ws : va_W) (gr : Nat → Option Nat) (n : Nat) (pl ga gb : Nat → Nat) (gd : Nat → gT) : Prop := ∀ i, i < n → gr i = some (ga i) ∧ ws[pl i]? = some (ga i, gmE (gd i) (gb i)) ∧ ws[pl i + 1]? = some (gb i, gnE E (gd i)) ∧ gOk (gd i)
abbrev xE (ad : Nat → Nat) (g hz n : Nat) (mk : Int64) : va_E := .inr (4, [.ref (ad 1), .ref (ad 2), .ref (ad 3), .ref (ad 4), .ref (ad 5), .ref (ad 6), .ref (ad 7), .int (nI g), .int (nI hz), .int (nI n), .long mk])
abbrev xGr (E : eT) (gr : Nat → Option Nat) : va_E := .inl (E.2 2, 4, .inr (.inr (.inr (.inr gr))))
abbrev xI (E : eT) (n : Nat) (f : Nat → Int32) : va_E := .inl (E.2 0, n, .inl f)
abbrev xJ (E : eT) (n : Nat) (f : Nat → Int64) : va_E := .inl (E.2 1, n, .inr (.inl f))
abbrev xO (E : eT) (n : Nat) (f : Nat → Option Nat) : va_E := .inl (E.2 3, n, .inr (.inr (.inr (.inr f))))
abbrev xC (ad : Nat → Nat) (cf ce ck : Nat → Nat) (c : Nat) : va_E := .inr (0, [.int (nI (if c = 1 then 2 else 0)), .ref (ad (10 + c)), .int (nI (cf c)), .int (nI (ce c)), .int (nI (ck c))])
/-- a chart's rows -/
def xR (ad : Nat → Nat) (c : Nat) : Nat → Option Nat := fun i => if i < 13 then some (ad (13 + (13 * c + i))) else none
def xW2 (ad : Nat → Nat) : Nat → Option Nat := fun i => if i < 2 then some (ad (8 + i)) else none
/-- the world of the class: the object, its rows, three charts, their rows -/
def wX (E : eT) (ad : Nat → Nat) (g hz n : Nat) (mk : Int64) (td : Nat → Int32) (gr : Nat → Option Nat) (cf ce ck : Nat → Nat) (rv : Nat → Nat → Int64) (st : Nat → Int32) (wo : Nat → Nat → Int64) : va_W :=
  [(ad 0, xE ad g hz n mk), (ad 1, xGr E gr), (ad 2, xI E 33 td), (ad 3, xC ad cf ce ck 0), (ad 4, xC ad cf ce ck 1), (ad 5, xC ad cf ce ck 2), (ad 6, xI E 198 st), (ad 7, xO E 2 (xW2 ad)), (ad 8, xJ E 198 (wo 0)), (ad 9, xJ E 198 (wo 1)), (ad 10, xO E 13 (xR ad 0)), (ad 11, xO E 13 (xR ad 1)), (ad 12, xO E 13 (xR ad 2))] ++ (List.range 39).map (fun j => (ad (13 + j), xJ E 33 (rv j)))
section XB
variable {p : Program} {l : Launch} {e : Env} {R : Room} {s : State} {m : MethodId} {args : Array Value} {below : List Frame} {meth : Method} {c : Code} {H : Heap} {locs : List Loc} {cells slots : Nat} {Q : State → Prop}
variable {cc : ByteArray} {pc : Nat} {ls : Array Slot} {rest : List Value} {E : eT} {ws : va_W}
/-- a game's fields, whatever its kind -/
theorem gf_limit (hexec : p.tables.exec = Jvm.exec) (hb : c.code = cc) {Ts : List Cond} (hts : ∀ w ∈ Ts, w.before args s = true) (h1 : ∀ w ∈ wsX10, w ∈ Ts) (h2 : ∀ w ∈ wsX20, w ∈ Ts) (h3 : ∀ w ∈ wsX30, w ∈ Ts) (hown : s.vm.findClass RX4 = some m.cls) (hE : eEv E s) (hP : va_P E.1 vwCl ws H) {k a b : Nat} {d : gT} (hg : ws[k]? = some (a, gmE d b)) (hdg : decode cc pc = .ok (.getfield 134, 3))
    (kk : W p l e R s m args below meth c H locs cells slots Q (F0 m (pc + 3) ls (.int (nI (gL d)) :: rest))) : W p l e R s m args below meth c H locs cells slots Q (F0 m pc ls (.ref a :: rest)) := by
  have hN := va_Nw.use (A := args) rfl (hE.2 (.fieldLinkNest RX4 134 RX1 "limit" "I" RX4) (by decide +kernel))
  unfold gmE at hg
  split at hg
  · exact va_getN (D := E.1) (ci := 1) (C := RX1) (T := TX1) (N := 3) hexec hb hts h1 hown hE.1 hP k hg rfl 1 (by decide) hN (fun _ h9 => h9) rfl hdg kk
  · split at hg
    · exact va_getN (D := E.1) (ci := 2) (C := RX2) (T := TX2) (N := 4) hexec hb hts h2 hown hE.1 hP k hg rfl 1 (by decide) hN (fun _ h9 => h9) rfl hdg kk
    · exact va_getN (D := E.1) (ci := 3) (C := RX3) (T := TX3) (N := 5) hexec hb hts h3 hown hE.1 hP k hg rfl 2 (by decide) hN (fun _ h9 => h9) rfl hdg kk
theorem gf_chance (hexec : p.tables.exec = Jvm.exec) (hb : c.code = cc) {Ts : List Cond} (hts : ∀ w ∈ Ts, w.before args s = true) (h1 : ∀ w ∈ wsX10, w ∈ Ts) (h2 : ∀ w ∈ wsX20, w ∈ Ts) (h3 : ∀ w ∈ wsX30, w ∈ Ts) (hown : s.vm.findClass RX4 = some m.cls) (hE : eEv E s) (hP : va_P E.1 vwCl ws H) {k a b : Nat} {d : gT} (hg : ws[k]? = some (a, gmE d b)) (hdg : decode cc pc = .ok (.getfield 146, 3))
    (kk : W p l e R s m args below meth c H locs cells slots Q (F0 m (pc + 3) ls (.int (nI (gC d)) :: rest))) : W p l e R s m args below meth c H locs cells slots Q (F0 m pc ls (.ref a :: rest)) := by
  have hN := va_Nw.use (A := args) rfl (hE.2 (.fieldLinkNest RX4 146 RX1 "chance" "I" RX4) (by decide +kernel))
  unfold gmE at hg
  split at hg
  · exact va_getN (D := E.1) (ci := 1) (C := RX1) (T := TX1) (N := 3) hexec hb hts h1 hown hE.1 hP k hg rfl 0 (by decide) hN (fun _ h9 => h9) rfl hdg kk
  · split at hg
    · exact va_getN (D := E.1) (ci := 2) (C := RX2) (T := TX2) (N := 4) hexec hb hts h2 hown hE.1 hP k hg rfl 0 (by decide) hN (fun _ h9 => h9) rfl hdg kk
    · exact va_getN (D := E.1) (ci := 3) (C := RX3) (T := TX3) (N := 5) hexec hb hts h3 hown hE.1 hP k hg rfl 1 (by decide) hN (fun _ h9 => h9) rfl hdg kk
theorem gf_gains (hexec : p.tables.exec = Jvm.exec) (hb : c.code = cc) {Ts : List Cond} (hts : ∀ w ∈ Ts, w.before args s = true) (h1 : ∀ w ∈ wsX10, w ∈ Ts) (h2 : ∀ w ∈ wsX20, w ∈ Ts) (h3 : ∀ w ∈ wsX30, w ∈ Ts) (hown : s.vm.findClass RX4 = some m.cls) (hE : eEv E s) (hP : va_P E.1 vwCl ws H) {k a b : Nat} {d : gT} (hg : ws[k]? = some (a, gmE d b)) (hdg : decode cc pc = .ok (.getfield 143, 3))
    (kk : W p l e R s m args below meth c H locs cells slots Q (F0 m (pc + 3) ls (.ref b :: rest))) : W p l e R s m args below meth c H locs cells slots Q (F0 m pc ls (.ref a :: rest)) := by
  have hN := va_Nw.use (A := args) rfl (hE.2 (.fieldLinkNest RX4 143 RX1 "gains" "[I" RX4) (by decide +kernel))
  unfold gmE at hg
  split at hg
  · exact va_getN (D := E.1) (ci := 1) (C := RX1) (T := TX1) (N := 3) hexec hb hts h1 hown hE.1 hP k hg rfl 2 (by decide) hN (fun _ h9 => h9) rfl hdg kk
  · split at hg
    · exact va_getN (D := E.1) (ci := 2) (C := RX2) (T := TX2) (N := 4) hexec hb hts h2 hown hE.1 hP k hg rfl 2 (by decide) hN (fun _ h9 => h9) rfl hdg kk
    · exact va_getN (D := E.1) (ci := 3) (C := RX3) (T := TX3) (N := 5) hexec hb hts h3 hown hE.1 hP k hg rfl 3 (by decide) hN (fun _ h9 => h9) rfl hdg kk
end XB
/-! numbers -/
theorem nI_min {a b : Nat} (ha : a < 2 ^ 31) (hb : b < 2 ^ 31) : (if nI b < nI a then nI b else nI a) = nI (min a b) := by
  by_cases h : b < a
  · rw [if_pos ((nI_ltI hb ha).mpr h), Nat.min_eq_right (Nat.le_of_lt h)]
  · rw [if_neg (fun q => h ((nI_ltI hb ha).mp q)), Nat.min_eq_left (Nat.not_lt.mp h)]
theorem lN_max {a b : Nat} (ha : a < 2 ^ 63) (hb : b < 2 ^ 63) : (if lN a < lN b then lN b else lN a) = lN (max a b) := by
  by_cases h : a < b
  · rw [if_pos ((pk_lLT ha hb).mpr h), Nat.max_eq_right (Nat.le_of_lt h)]
  · rw [if_neg (fun q => h ((pk_lLT ha hb).mp q)), Nat.max_eq_left (Nat.not_lt.mp h)]
/-- in a told range: as numbers -/
theorem nI_rng {v : Int32} {a b : Nat} (hb : b < 2 ^ 31) (h : nI a ≤ v ∧ v ≤ nI b) (ha : a < 2 ^ 31) : ∃ j : Nat, a ≤ j ∧ j ≤ b ∧ v = nI j := by
  have h0 : ¬ v < 0 := fun q => by
    have h1 := Int32.le_iff_toInt_le.mp h.1
    have h2 := Int32.lt_iff_toInt_lt.mp q
    rw [nI_toInt ha] at h1
    have : (0 : Int32).toInt = 0 := rfl
    omega
  obtain ⟨j, hj, rfl⟩ := nI_of h0
  exact ⟨j, (nI_leI ha hj).mp h.1, (nI_leI hj hb).mp h.2, rfl⟩
theorem nI_rngI {j a b : Nat} (hj : j < 2 ^ 31) (ha : a < 2 ^ 31) (hb : b < 2 ^ 31) : (nI a ≤ nI j ∧ nI j ≤ nI b) ↔ (a ≤ j ∧ j ≤ b) := by
  rw [nI_leI ha hj, nI_leI hj hb]
theorem nI_gm {v : Int32} {n : Nat} (hn : n < 2 ^ 31) : (nI 0 ≤ v ∧ v ≤ nI n - nI 1) ↔ ∃ i : Nat, i < n ∧ v = nI i := by
  cases n with
  | zero =>
    constructor
    · intro h
      have h1 := Int32.le_iff_toInt_le.mp h.1
      have h2 := Int32.le_iff_toInt_le.mp h.2
      have e1 : (nI 0).toInt = 0 := rfl
      have e2 : (nI 0 - nI 1).toInt = -1 := rfl
      omega
    · rintro ⟨i, hi, -⟩
      omega
  | succ k =>
    rw [show nI (k + 1) - nI 1 = nI k from nI_pred k]
    constructor
    · intro h
      obtain ⟨j, h1, h2, rfl⟩ := nI_rng (by omega) h (by decide)
      exact ⟨j, by omega, rfl⟩
    · rintro ⟨i, hi, rfl⟩
      exact (nI_rngI (by omega) (by decide) (by omega)).mpr ⟨by omega, by omega⟩
end
section
/-! WHAT IS COMPUTED, in numbers -/
theorem lN_max2 {a b : Nat} (ha : a < 2 ^ 63) (hb : b < 2 ^ 63) : (if lN b < lN a then lN a else lN b) = lN (max a b) := by
  by_cases h : b < a
  · rw [if_pos ((pk_lLT hb ha).mpr h), Nat.max_eq_left (Nat.le_of_lt h)]
  · rw [if_neg (fun q => h ((pk_lLT hb ha).mp q)), Nat.max_eq_right (Nat.not_lt.mp h)]
def gMix (d : gT) (x y : Nat) : Nat := gC d * x + (16 - gC d) * y
theorem gMix_le {d : gT} (hd : gOk d) {x y B : Nat} (hx : x ≤ B) (hy : y ≤ B) : gMix d x y ≤ 16 * B := by
  have hc := hd.2.1
  have h1 : gC d * x ≤ gC d * B := Nat.mul_le_mul_left _ hx
  have h2 : (16 - gC d) * y ≤ (16 - gC d) * B := Nat.mul_le_mul_left _ hy
  have h3 : gC d * B + (16 - gC d) * B = 16 * B := by rw [← Nat.add_mul]; congr 1; omega
  unfold gMix
  omega
/-- a stake s played from the purse q, the worths behind it being v -/
def gVal (g : Nat) (d : gT) (v : Nat → Nat) (q s : Nat) : Nat := gMix d (v (min g (q + gWin d s))) (v (q - s))
theorem gVal_le {g : Nat} {d : gT} {v : Nat → Nat} {q s B : Nat} (hd : gOk d) (hv : ∀ j, j ≤ g → v j ≤ B) (hq : q ≤ g) : gVal g d v q s ≤ 16 * B := gMix_le hd (hv _ (Nat.min_le_left _ _)) (hv _ (by omega))
def gS (g : Nat) (d : gT) (v : Nat → Nat) (q : Nat) : Nat → Nat → Nat
  | 0, a => a
  | s + 1, a => max (gS g d v q s a) (gVal g d v q (s + 1))
theorem gS_acc (g : Nat) (d : gT) (v : Nat → Nat) (q a : Nat) : ∀ k, gS g d v q k a = max a (gS g d v q k 0)
  | 0 => by simp [gS]
  | k + 1 => by
    simp only [gS]
    rw [gS_acc g d v q a k]
    omega
theorem gS_le {g : Nat} {d : gT} {v : Nat → Nat} {q a B : Nat} (hd : gOk d) (hv : ∀ j, j ≤ g → v j ≤ B) (hq : q ≤ g) (ha : a ≤ 16 * B) : ∀ k, gS g d v q k a ≤ 16 * B
  | 0 => ha
  | k + 1 => by
    have h1 := gS_le hd hv hq ha k
    have h2 := gVal_le (s := k + 1) hd hv hq
    simp only [gS]
    omega
/-- the best over the games lo, lo + 1 .. (cnt of them) -/
def gG (g : Nat) (gd : Nat → gT) (v : Nat → Nat) (q lo : Nat) : Nat → Nat → Nat
  | 0, a => a
  | k + 1, a => max (gG g gd v q lo k a) (gS g (gd (lo + k)) v q (min q (gL (gd (lo + k)))) 0)
theorem gG_le {g : Nat} {gd : Nat → gT} {v : Nat → Nat} {q lo a B : Nat} (hv : ∀ j, j ≤ g → v j ≤ B) (hq : q ≤ g) (ha : a ≤ 16 * B) : ∀ k, (∀ i, i < k → gOk (gd (lo + i))) → gG g gd v q lo k a ≤ 16 * B
  | 0, _ => ha
  | k + 1, hd => by
    have h1 := gG_le (lo := lo) hv hq ha k (fun i hi => hd i (by omega))
    have h2 := gS_le (a := 0) (hd k (by omega)) hv hq (Nat.zero_le _) (min q (gL (gd (lo + k))))
    simp only [gG]
    omega
def gTurn (g : Nat) (gd : Nat → gT) (lo cnt : Nat) (v : Nat → Nat) (q : Nat) : Nat := if 1 ≤ q ∧ q < g then gG g gd v q lo cnt (16 * v q) else 16 * v q
theorem gTurn_le {g : Nat} {gd : Nat → gT} {lo cnt : Nat} {v : Nat → Nat} {q B : Nat} (hd : ∀ i, i < cnt → gOk (gd (lo + i))) (hv : ∀ j, j ≤ g → v j ≤ B) (hq : q ≤ g) : gTurn g gd lo cnt v q ≤ 16 * B := by
  have h := hv q hq
  unfold gTurn
  split
  · exact gG_le hv hq (by omega) cnt hd
  · omega
/-- what a purse is worth with no turn left -/
def eW (g what q : Nat) : Nat := if what = 0 then (if q = g then 1 else 0) else if what = 1 then (if q = 0 then 1 else 0) else if what = 2 then q else 0
theorem eW_le {g what q : Nat} (hq : q ≤ g) (hg : g ≤ 32) : eW g what q ≤ 32 := by
  unfold eW
  repeat' split
  all_goals omega
def gBst (g : Nat) (gd : Nat → gT) (lo cnt what : Nat) : Nat → Nat → Nat
  | 0 => eW g what
  | t + 1 => gTurn g gd lo cnt (gBst g gd lo cnt what t)
theorem gBst_le {g : Nat} {gd : Nat → gT} {lo cnt what : Nat} (hg : g ≤ 32) (hd : ∀ i, i < cnt → gOk (gd (lo + i))) : ∀ t q, q ≤ g → gBst g gd lo cnt what t q ≤ 32 * 16 ^ t
  | 0, q, hq => by simpa [gBst] using eW_le hq hg
  | t + 1, q, hq => by
    have h := gTurn_le (lo := lo) (cnt := cnt) hd (gBst_le (what := what) hg hd t) hq
    simp only [gBst]
    rw [Nat.pow_succ]
    omega
theorem pow16_le {t n : Nat} (h : t ≤ n) : 16 ^ t ≤ 16 ^ n := Nat.pow_le_pow_right (by decide) h
/-- bold play: the least stake that reaches the goal -/
def gB (g : Nat) (d : gT) (q most : Nat) : Nat → Nat
  | 0 => most
  | k + 1 => if g ≤ q + gWin d (most - (k + 1)) then most - (k + 1) else gB g d q most k
def gBold (g : Nat) (d : gT) (q : Nat) : Nat := gB g d q (min q (gL d)) (min q (gL d) - 1)
theorem gB_le (g : Nat) (d : gT) (q most : Nat) : ∀ k, gB g d q most k ≤ most
  | 0 => Nat.le_refl _
  | k + 1 => by
    have := gB_le g d q most k
    simp only [gB]
    split <;> omega
theorem gB_pos (g : Nat) (d : gT) (q most : Nat) : ∀ k, k < most → 1 ≤ gB g d q most k
  | 0, h => h
  | k + 1, h => by
    have := gB_pos g d q most k (by omega)
    simp only [gB]
    split <;> omega
/-- what a plan stakes; r: how often a doubled stake was doubled -/
def gPl (g : Nat) (d : gT) (td : Nat → Nat) (plan q r : Nat) : Nat := if plan = 0 then gBold g d q else if plan = 1 then 1 else if plan = 2 then min (td q) (min q (gL d)) else min (2 ^ r) (min q (gL d))
theorem gPl_le {g : Nat} {d : gT} {td : Nat → Nat} {plan q r : Nat} (hd : gOk d) (hq : 1 ≤ q) : gPl g d td plan q r ≤ min q (gL d) := by
  have h1 := gB_le g d q (min q (gL d)) (min q (gL d) - 1)
  have h2 := hd.2.2.2.2.1
  unfold gPl gBold
  repeat' split
  all_goals omega
/-- all stakes that have the best chance, as bits -/
def gBits (g : Nat) (d : gT) (v : Nat → Nat) (q top : Nat) : Nat → Int64
  | 0 => if 16 * v q = top then lN 1 else lN 0
  | s + 1 => if gVal g d v q (s + 1) = top then gBits g d v q top s ||| (lN 1 <<< ((nI (s + 1)).toInt64 &&& 63)) else gBits g d v q top s
theorem ldv {f : Nat → Int64} {v : Nat → Nat} {g j : Nat} (hf : ∀ j, j ≤ g → f j = lN (v j)) (hj : j ≤ g) (hg : g ≤ 32) : f (nI j).toNatClampNeg = lN (v j) := by
  rw [nI_clamp (by omega)]
  exact hf j hj
/-- a plan's stake at a purse; 0: nothing is played -/
def gSt (g : Nat) (d : gT) (td : Nat → Nat) (plan r q : Nat) : Nat := if 1 ≤ q ∧ q < g then gPl g d td plan q r else 0
theorem gSt_le {g : Nat} {d : gT} {td : Nat → Nat} {plan r q : Nat} (hd : gOk d) : gSt g d td plan r q ≤ min q (gL d) := by
  unfold gSt
  split
  · rename_i h; exact gPl_le hd h.1
  · omega
def gRg (plan : Nat) : Nat := if plan = 3 then 6 else 1
/-- what a plan brings with j turns left, at a rung and a purse -/
def gV (g : Nat) (d : gT) (S : Nat → Nat → Nat) (what rg : Nat) : Nat → Nat → Nat → Nat
  | 0, _, q => eW g what q
  | j + 1, r, q => if S r q = 0 then 16 * gV g d S what rg j r q else (if what = 3 then 16 ^ (j + 1) else 0) + gMix d (gV g d S what rg j 0 (min g (q + gWin d (S r q)))) (gV g d S what rg j (min (r + 1) (rg - 1)) (q - S r q))
theorem gV_le {g : Nat} {d : gT} {S : Nat → Nat → Nat} {what rg : Nat} (hg : g ≤ 32) (hd : gOk d) (hw : what ≠ 3) : ∀ j r q, q ≤ g → gV g d S what rg j r q ≤ 32 * 16 ^ j
  | 0, r, q, hq => by simpa [gV] using eW_le hq hg
  | j + 1, r, q, hq => by
    have h1 := gV_le (S := S) (rg := rg) hg hd hw j r q hq
    have h2 := gMix_le hd (gV_le (S := S) (rg := rg) hg hd hw j 0 (min g (q + gWin d (S r q))) (Nat.min_le_left _ _)) (gV_le (S := S) (rg := rg) hg hd hw j (min (r + 1) (rg - 1)) (q - S r q) (by omega))
    simp only [gV]
    rw [Nat.pow_succ]
    split
    · omega
    · (try rw [if_neg hw]); omega
theorem nI_and1 {a : Nat} (h : a < 2 ^ 31) : nI a &&& nI 1 = nI (a % 2) := pk_andN (by omega) 1 (by decide)
theorem sh16 : ∀ j, j ≤ 11 → lN 1 <<< ((nI (4 * (j + 1))).toInt64 &&& 63) = lN (16 ^ (j + 1))
  | 0, _ => by decide
  | 1, _ => by decide
  | 2, _ => by decide
  | 3, _ => by decide
  | 4, _ => by decide
  | 5, _ => by decide
  | 6, _ => by decide
  | 7, _ => by decide
  | 8, _ => by decide
  | 9, _ => by decide
  | 10, _ => by decide
  | 11, _ => by decide
end
section
/-! StakeHouse: the leaves (they only read) -/
set_option maxHeartbeats 4000000 in
set_option maxRecDepth 100000 in
/-- within -/
theorem c_within (l : Launch) (E : eT) (ws : va_W) (v lo hi : Int32) : mPi l yX4_within wsX4_within 0 0 E ws [.int v, .int lo, .int hi] (fun r => r = if lo ≤ v ∧ v ≤ hi then 1 else 0) := by
  refine mP_of (cc := cX4_within) (maxL := 3) (ret := (some .boolean)) (by decide) rfl (Nat.le_of_ble_eq_true rfl) ?_
  intro p0 e0 s m below meth c0 ls hx hb hr hml hts hown hlocks hE hP hl
  have hown : s.vm.findClass RX4 = some m.cls := hown
  have hl : lv_has ls 3 [(0, .int v), (1, .int lo), (2, .int hi)] := hl
  refine lv_iload_n hx hb dX4_within_0 rfl (lv_at hl 0 rfl) ?_
  refine lv_iload_n hx hb dX4_within_1 rfl (lv_at hl 1 rfl) ?_
  refine lv_icmp_lt (tgt := 14) hx hb dX4_within_2 (by decide) (fun c2 => ?_) (fun c2 => ?_)
  · skip
    refine lv_iconst (v := nI 0) hx hb dX4_within_14 (by decide) ?_
    exact ret_Pz hx hb hr hlocks dX4_within_15 rfl (by rw [if_neg (fun q => absurd c2 (Int32.not_lt.mpr q.1))]; rfl)
  · skip
    refine lv_iload_n hx hb dX4_within_5 rfl (lv_at hl 0 rfl) ?_
    refine lv_iload_n hx hb dX4_within_6 rfl (lv_at hl 2 rfl) ?_
    refine lv_icmp_gt (tgt := 14) hx hb dX4_within_7 (by decide) (fun c7 => ?_) (fun c7 => ?_)
    · skip
      refine lv_iconst (v := nI 0) hx hb dX4_within_14 (by decide) ?_
      exact ret_Pz hx hb hr hlocks dX4_within_15 rfl (by rw [if_neg (fun q => absurd c7 (Int32.not_lt.mpr q.2))]; rfl)
    · skip
      refine lv_iconst (v := nI 1) hx hb dX4_within_10 (by decide) ?_
      refine lv_goto (tgt := 15) hx hb dX4_within_11 (by decide) ?_
      exact ret_Pz hx hb hr hlocks dX4_within_15 rfl (by rw [if_pos ⟨Int32.not_lt.mp c2, Int32.not_lt.mp c7⟩]; rfl)
set_option maxHeartbeats 4000000 in
set_option maxRecDepth 100000 in
/-- isSpot -/
theorem c_isSpot (l : Launch) (E : eT) (ws : va_W) (ad : Nat → Nat) (g hz n : Nat) (mk : Int64) (hX : ws[0]? = some (ad 0, xE ad g hz n mk)) (v t : Int32) : mPi l yX4_isSpot wsX4_isSpot 1 22 E ws [.ref (ad 0), .int v, .int t] (fun r => r = if (nI 0 ≤ v ∧ v ≤ nI g) ∧ (nI 0 ≤ t ∧ t ≤ nI hz) then 1 else 0) := by
  refine mP_of (cc := cX4_isSpot) (maxL := 3) (ret := (some .boolean)) (by decide) rfl (Nat.le_of_ble_eq_true rfl) ?_
  intro p0 e0 s m below meth c0 ls hx hb hr hml hts hown hlocks hE hP hl
  have hown : s.vm.findClass RX4 = some m.cls := hown
  have hl : lv_has ls 3 [(0, .ref (ad 0)), (1, .int v), (2, .int t)] := hl
  have hinX4 : ∀ w ∈ wsX40, w ∈ wsX4_isSpot := by decide +kernel
  refine lv_iload_n hx hb dX4_isSpot_0 rfl (lv_at hl 1 rfl) ?_
  refine lv_iconst (v := nI 0) hx hb dX4_isSpot_1 (by decide) ?_
  refine lv_aload_n hx hb dX4_isSpot_2 rfl (lv_at hl 0 rfl) ?_
  refine va_get (D := E.1) (ci := 4) (C := RX4) (T := TX4) (N := 11) hx hb hts hinX4 hown hE.1 hP 0 hX rfl 7 (by decide) (hts (.fieldLink RX4 42 "StakeHouse" "goal" "I") (by decide +kernel)) (fun _ h9 => h9) rfl dX4_isSpot_3 ?_
  refine vp_callSi (W.runS ⟨hx, hb, hml, hown, hts⟩ (c_within l E ws _ _ _) (va_cwS 3 hts gX4_isSpot_X4_within rfl rfl rfl (by decide +kernel) ⟨Nat.le_of_ble_eq_true rfl, Nat.le_of_ble_eq_true rfl⟩) (ePu_S hP hE) rfl rfl hl.1 rfl (lv_room (Nat.le_of_ble_eq_true rfl)) dX4_isSpot_6 ⟨Nat.zero_le _, Nat.zero_le _⟩) (fun r9 hr9 => ?_)
  subst hr9
  refine q_eq hx hb 28 dX4_isSpot_9 (by decide) (fun c9 => ?_) (fun c9 => ?_)
  · skip
    refine lv_iconst (v := nI 0) hx hb dX4_isSpot_28 (by decide) ?_
    exact ret_Pz hx hb hr hlocks dX4_isSpot_29 rfl (by rw [if_neg (fun q => c9 q.1)]; rfl)
  · skip
    refine lv_iload_n hx hb dX4_isSpot_12 rfl (lv_at hl 2 rfl) ?_
    refine lv_iconst (v := nI 0) hx hb dX4_isSpot_13 (by decide) ?_
    refine lv_aload_n hx hb dX4_isSpot_14 rfl (lv_at hl 0 rfl) ?_
    refine va_get (D := E.1) (ci := 4) (C := RX4) (T := TX4) (N := 11) hx hb hts hinX4 hown hE.1 hP 0 hX rfl 8 (by decide) (hts (.fieldLink RX4 46 "StakeHouse" "horizon" "I") (by decide +kernel)) (fun _ h9 => h9) rfl dX4_isSpot_15 ?_
    refine vp_callSi (W.runS ⟨hx, hb, hml, hown, hts⟩ (c_within l E ws _ _ _) (va_cwS 3 hts gX4_isSpot_X4_within rfl rfl rfl (by decide +kernel) ⟨Nat.le_of_ble_eq_true rfl, Nat.le_of_ble_eq_true rfl⟩) (ePu_S hP hE) rfl rfl hl.1 rfl (lv_room (Nat.le_of_ble_eq_true rfl)) dX4_isSpot_18 ⟨Nat.zero_le _, Nat.zero_le _⟩) (fun r9 hr9 => ?_)
    subst hr9
    refine q_eq hx hb 28 dX4_isSpot_21 (by decide) (fun c21 => ?_) (fun c21 => ?_)
    · skip
      refine lv_iconst (v := nI 0) hx hb dX4_isSpot_28 (by decide) ?_
      exact ret_Pz hx hb hr hlocks dX4_isSpot_29 rfl (by rw [if_neg (fun q => c21 q.2)]; rfl)
    · skip
      refine lv_iconst (v := nI 1) hx hb dX4_isSpot_24 (by decide) ?_
      refine lv_goto (tgt := 29) hx hb dX4_isSpot_25 (by decide) ?_
      exact ret_Pz hx hb hr hlocks dX4_isSpot_29 rfl (by rw [if_pos ⟨c9, c21⟩]; rfl)
set_option maxHeartbeats 4000000 in
set_option maxRecDepth 100000 in
/-- isPlayed -/
theorem c_isPlayed (l : Launch) (E : eT) (ws : va_W) (ad : Nat → Nat) (g hz n : Nat) (mk : Int64) (hX : ws[0]? = some (ad 0, xE ad g hz n mk)) (hg : 2 ≤ g) (v : Int32) : mPi l yX4_isPlayed wsX4_isPlayed 1 22 E ws [.ref (ad 0), .int v] (fun r => r = if nI 1 ≤ v ∧ v ≤ nI (g - 1) then 1 else 0) := by
  refine mP_of (cc := cX4_isPlayed) (maxL := 2) (ret := (some .boolean)) (by decide) rfl (Nat.le_of_ble_eq_true rfl) ?_
  intro p0 e0 s m below meth c0 ls hx hb hr hml hts hown hlocks hE hP hl
  have hown : s.vm.findClass RX4 = some m.cls := hown
  have hl : lv_has ls 2 [(0, .ref (ad 0)), (1, .int v)] := hl
  have hinX4 : ∀ w ∈ wsX40, w ∈ wsX4_isPlayed := by decide +kernel
  refine lv_iload_n hx hb dX4_isPlayed_0 rfl (lv_at hl 1 rfl) ?_
  refine lv_iconst (v := nI 1) hx hb dX4_isPlayed_1 (by decide) ?_
  refine lv_aload_n hx hb dX4_isPlayed_2 rfl (lv_at hl 0 rfl) ?_
  refine va_get (D := E.1) (ci := 4) (C := RX4) (T := TX4) (N := 11) hx hb hts hinX4 hown hE.1 hP 0 hX rfl 7 (by decide) (hts (.fieldLink RX4 42 "StakeHouse" "goal" "I") (by decide +kernel)) (fun _ h9 => h9) rfl dX4_isPlayed_3 ?_
  refine lv_iconst (v := nI 1) hx hb dX4_isPlayed_6 (by decide) ?_
  refine lv_isub hx hb dX4_isPlayed_7 ?_
  refine tp_i (pk_sub (by omega)) ?_
  refine vp_callSi (W.runS ⟨hx, hb, hml, hown, hts⟩ (c_within l E ws _ _ _) (va_cwS 3 hts gX4_isPlayed_X4_within rfl rfl rfl (by decide +kernel) ⟨Nat.le_of_ble_eq_true rfl, Nat.le_of_ble_eq_true rfl⟩) (ePu_S hP hE) rfl rfl hl.1 rfl (lv_room (Nat.le_of_ble_eq_true rfl)) dX4_isPlayed_8 ⟨Nat.zero_le _, Nat.zero_le _⟩) (fun r9 hr9 => ?_)
  subst hr9
  exact ret_Pz hx hb hr hlocks dX4_isPlayed_11 (by split <;> rfl) rfl
set_option maxHeartbeats 4000000 in
set_option maxRecDepth 100000 in
/-- gameAt -/
theorem c_gameAt (l : Launch) (E : eT) (ws : va_W) (ad : Nat → Nat) (g hz n : Nat) (mk : Int64) (hX : ws[0]? = some (ad 0, xE ad g hz n mk)) (hn : n ≤ 4) (gr : Nat → Option Nat) (hG : ws[1]? = some (ad 1, xGr E gr)) (v : Int32) : mPq l yX4_gameAt wsX4_gameAt 1 22 E ws [.ref (ad 0), .int v] (fun r => r = if nI 0 ≤ v ∧ v ≤ nI n - nI 1 then gr v.toNatClampNeg else none) := by
  refine mP_of (cc := cX4_gameAt) (maxL := 2) (ret := (some (.object "StakeHouse$EvenGame"))) (by decide) rfl (Nat.le_of_ble_eq_true rfl) ?_
  intro p0 e0 s m below meth c0 ls hx hb hr hml hts hown hlocks hE hP hl
  have hown : s.vm.findClass RX4 = some m.cls := hown
  have hl : lv_has ls 2 [(0, .ref (ad 0)), (1, .int v)] := hl
  have hinX4 : ∀ w ∈ wsX40, w ∈ wsX4_gameAt := by decide +kernel
  refine lv_iload_n hx hb dX4_gameAt_0 rfl (lv_at hl 1 rfl) ?_
  refine lv_iconst (v := nI 0) hx hb dX4_gameAt_1 (by decide) ?_
  refine lv_aload_n hx hb dX4_gameAt_2 rfl (lv_at hl 0 rfl) ?_
  refine va_get (D := E.1) (ci := 4) (C := RX4) (T := TX4) (N := 11) hx hb hts hinX4 hown hE.1 hP 0 hX rfl 9 (by decide) (hts (.fieldLink RX4 49 "StakeHouse" "held" "I") (by decide +kernel)) (fun _ h9 => h9) rfl dX4_gameAt_3 ?_
  refine lv_iconst (v := nI 1) hx hb dX4_gameAt_6 (by decide) ?_
  refine lv_isub hx hb dX4_gameAt_7 ?_
  refine vp_callSi (W.runS ⟨hx, hb, hml, hown, hts⟩ (c_within l E ws _ _ _) (va_cwS 3 hts gX4_gameAt_X4_within rfl rfl rfl (by decide +kernel) ⟨Nat.le_of_ble_eq_true rfl, Nat.le_of_ble_eq_true rfl⟩) (ePu_S hP hE) rfl rfl hl.1 rfl (lv_room (Nat.le_of_ble_eq_true rfl)) dX4_gameAt_8 ⟨Nat.zero_le _, Nat.zero_le _⟩) (fun r9 hr9 => ?_)
  subst hr9
  refine q_eq hx hb 23 dX4_gameAt_11 (by decide) (fun c11 => ?_) (fun c11 => ?_)
  · skip
    refine lv_null hx hb dX4_gameAt_23 ?_
    exact ret_Pq none hx hb hr hlocks dX4_gameAt_24 (by rw [if_neg c11])
  · skip
    refine lv_aload_n hx hb dX4_gameAt_14 rfl (lv_at hl 0 rfl) ?_
    refine va_get (D := E.1) (ci := 4) (C := RX4) (T := TX4) (N := 11) hx hb hts hinX4 hown hE.1 hP 0 hX rfl 0 (by decide) (hts (.fieldLink RX4 11 "StakeHouse" "games" "[LStakeHouse$EvenGame;") (by decide +kernel)) (fun _ h9 => h9) rfl dX4_gameAt_15 ?_
    refine lv_iload_n hx hb dX4_gameAt_18 rfl (lv_at hl 1 rfl) ?_
    have h19 : vp_in v 4 := by
      obtain ⟨i, hi, rfl⟩ := (nI_gm (by omega)).mp c11
      exact vp_in_nI (by omega) (by decide)
    refine va_aldq hx hb hE.1 hP 1 2 hG rfl h19 dX4_gameAt_19 ?_
    refine lv_goto (tgt := 24) hx hb dX4_gameAt_20 (by decide) ?_
    exact ret_Pq _ hx hb hr hlocks dX4_gameAt_24 (by rw [if_pos c11])
set_option maxHeartbeats 4000000 in
set_option maxRecDepth 100000 in
/-- mostStake -/
theorem c_mostStake (l : Launch) (E : eT) (ws : va_W) (k a b : Nat) (d : gT) (hd : gOk d) (hg : ws[k]? = some (a, gmE d b)) (q : Nat) (hq : q < 2 ^ 31) : mPi l yX4_mostStake wsX4_mostStake 1 21 E ws [.ref a, .int (nI q)] (fun r => r = nI (min q (gL d))) := by
  refine mP_of (cc := cX4_mostStake) (maxL := 2) (ret := (some .int)) (by decide) rfl (Nat.le_of_ble_eq_true rfl) ?_
  intro p0 e0 s m below meth c0 ls hx hb hr hml hts hown hlocks hE hP hl
  have hown : s.vm.findClass RX4 = some m.cls := hown
  have hl : lv_has ls 2 [(0, .ref a), (1, .int (nI q))] := hl
  have hinX1 : ∀ w ∈ wsX10, w ∈ wsX4_mostStake := by decide +kernel
  have hinX2 : ∀ w ∈ wsX20, w ∈ wsX4_mostStake := by decide +kernel
  have hinX3 : ∀ w ∈ wsX30, w ∈ wsX4_mostStake := by decide +kernel
  have hL : gL d < 2 ^ 31 := by have := hd.2.2.2.2.2; omega
  refine lv_iload_n hx hb dX4_mostStake_0 rfl (lv_at hl 1 rfl) ?_
  refine lv_aload_n hx hb dX4_mostStake_1 rfl (lv_at hl 0 rfl) ?_
  refine gf_limit hx hb hts hinX1 hinX2 hinX3 hown hE hP hg dX4_mostStake_2 ?_
  refine va_mmin hx hb (hml.trans hl.1.symm) hown (hts (.methodLink RX4 137 Lib.Math.min.name) (by decide +kernel)) (hts (.static Lib.Math.min.name) (by decide +kernel)) (hts (.initialized "java/lang/Math") (by decide +kernel)) (hts (.code Lib.Math.min.name Lib.Math.min.code 2 (some .int)) (by decide +kernel)) (Nat.le_of_ble_eq_true rfl) (Nat.le_of_ble_eq_true rfl) (Nat.zero_le _) (Nat.zero_le _) dX4_mostStake_5 ?_
  refine tp_i (nI_min hq hL) ?_
  exact ret_Pi hx hb hr hlocks dX4_mostStake_8 rfl
set_option maxHeartbeats 4000000 in
set_option maxRecDepth 100000 in
/-- raised -/
theorem c_raised (l : Launch) (E : eT) (ws : va_W) (ad : Nat → Nat) (g hz n : Nat) (mk : Int64) (hX : ws[0]? = some (ad 0, xE ad g hz n mk)) (hg32 : g ≤ 32) (k a b : Nat) (d : gT) (hd : gOk d) (hg : ws[k]? = some (a, gmE d b)) (hgn : ws[k + 1]? = some (b, gnE E d)) (q st : Nat) (hq : q ≤ 32) (hst : st ≤ 32) : mPi l yX4_raised wsX4_raised 1 21 E ws [.ref (ad 0), .ref a, .int (nI q), .int (nI st)] (fun r => r = nI (min g (q + gWin d st))) := by
  refine mP_of (cc := cX4_raised) (maxL := 4) (ret := (some .int)) (by decide) rfl (Nat.le_of_ble_eq_true rfl) ?_
  intro p0 e0 s m below meth c0 ls hx hb hr hml hts hown hlocks hE hP hl
  have hown : s.vm.findClass RX4 = some m.cls := hown
  have hl : lv_has ls 4 [(0, .ref (ad 0)), (1, .ref a), (2, .int (nI q)), (3, .int (nI st))] := hl
  have hinX4 : ∀ w ∈ wsX40, w ∈ wsX4_raised := by decide +kernel
  have hinX1 : ∀ w ∈ wsX10, w ∈ wsX4_raised := by decide +kernel
  have hinX2 : ∀ w ∈ wsX20, w ∈ wsX4_raised := by decide +kernel
  have hinX3 : ∀ w ∈ wsX30, w ∈ wsX4_raised := by decide +kernel
  have hW := gWin_le hd hst
  refine lv_aload_n hx hb dX4_raised_0 rfl (lv_at hl 0 rfl) ?_
  refine va_get (D := E.1) (ci := 4) (C := RX4) (T := TX4) (N := 11) hx hb hts hinX4 hown hE.1 hP 0 hX rfl 7 (by decide) (hts (.fieldLink RX4 42 "StakeHouse" "goal" "I") (by decide +kernel)) (fun _ h9 => h9) rfl dX4_raised_1 ?_
  refine lv_iload_n hx hb dX4_raised_4 rfl (lv_at hl 2 rfl) ?_
  refine lv_aload_n hx hb dX4_raised_5 rfl (lv_at hl 1 rfl) ?_
  refine gf_gains hx hb hts hinX1 hinX2 hinX3 hown hE hP hg dX4_raised_6 ?_
  refine lv_iload_n hx hb dX4_raised_9 rfl (lv_at hl 3 rfl) ?_
  refine va_iald hx hb hE.1 hP (k + 1) 0 hgn rfl (vp_in_nI (by omega) (by decide)) dX4_raised_10 ?_
  refine tp_i (show _ = nI (gWin d st) by rw [nI_clamp (by omega)]) ?_
  refine lv_iadd hx hb dX4_raised_11 ?_
  refine tp_i (nI_add _ _) ?_
  refine va_mmin hx hb (hml.trans hl.1.symm) hown (hts (.methodLink RX4 137 Lib.Math.min.name) (by decide +kernel)) (hts (.static Lib.Math.min.name) (by decide +kernel)) (hts (.initialized "java/lang/Math") (by decide +kernel)) (hts (.code Lib.Math.min.name Lib.Math.min.code 2 (some .int)) (by decide +kernel)) (Nat.le_of_ble_eq_true rfl) (Nat.le_of_ble_eq_true rfl) (Nat.zero_le _) (Nat.zero_le _) dX4_raised_12 ?_
  refine tp_i (nI_min (by omega) (by omega)) ?_
  exact ret_Pi hx hb hr hlocks dX4_raised_15 rfl
set_option maxHeartbeats 4000000 in
set_option maxRecDepth 100000 in
/-- mixed -/
theorem c_mixed (l : Launch) (E : eT) (ws : va_W) (k a b : Nat) (d : gT) (hd : gOk d) (hg : ws[k]? = some (a, gmE d b)) (x y : Nat) : mPl l yX4_mixed wsX4_mixed 0 0 E ws [.ref a, .long (lN x), .long (lN y)] (fun r => r = lN (gC d * x + (16 - gC d) * y)) := by
  refine mP_of (cc := cX4_mixed) (maxL := 5) (ret := (some .long)) (by decide) rfl (Nat.le_of_ble_eq_true rfl) ?_
  intro p0 e0 s m below meth c0 ls hx hb hr hml hts hown hlocks hE hP hl
  have hown : s.vm.findClass RX4 = some m.cls := hown
  have hl : lv_has ls 5 [(0, .ref a), (1, .long (lN x)), (3, .long (lN y))] := hl
  have hinX1 : ∀ w ∈ wsX10, w ∈ wsX4_mixed := by decide +kernel
  have hinX2 : ∀ w ∈ wsX20, w ∈ wsX4_mixed := by decide +kernel
  have hinX3 : ∀ w ∈ wsX30, w ∈ wsX4_mixed := by decide +kernel
  have hC : gC d ≤ 16 := hd.2.1
  refine lv_aload_n hx hb dX4_mixed_0 rfl (lv_at hl 0 rfl) ?_
  refine gf_chance hx hb hts hinX1 hinX2 hinX3 hown hE hP hg dX4_mixed_1 ?_
  refine lv_i2l (v := lN _) hx hb dX4_mixed_4 (nI_l (by omega)) ?_
  refine lv_lload_n hx hb dX4_mixed_5 rfl (lv_at hl 1 rfl) ?_
  refine lv_lmul hx hb dX4_mixed_6 ?_
  refine tp_l (lN_mul _ _) ?_
  refine lv_bipush (v := nI 16) hx hb dX4_mixed_7 (by decide) ?_
  refine lv_aload_n hx hb dX4_mixed_9 rfl (lv_at hl 0 rfl) ?_
  refine gf_chance hx hb hts hinX1 hinX2 hinX3 hown hE hP hg dX4_mixed_10 ?_
  refine lv_isub hx hb dX4_mixed_13 ?_
  refine tp_i (pk_sub hC) ?_
  refine lv_i2l (v := lN _) hx hb dX4_mixed_14 (nI_l (by omega)) ?_
  refine lv_lload_n hx hb dX4_mixed_15 rfl (lv_at hl 2 rfl) ?_
  refine lv_lmul hx hb dX4_mixed_16 ?_
  refine tp_l (lN_mul _ _) ?_
  refine lv_ladd hx hb dX4_mixed_17 ?_
  refine tp_l (lN_add _ _) ?_
  exact ret_Pl hx hb hr hlocks dX4_mixed_18 rfl
set_option maxHeartbeats 4000000 in
set_option maxRecDepth 100000 in
/-- endWorth -/
theorem c_endWorth (l : Launch) (E : eT) (ws : va_W) (ad : Nat → Nat) (g hz n : Nat) (mk : Int64) (hX : ws[0]? = some (ad 0, xE ad g hz n mk)) (hg32 : g ≤ 32) (what q : Nat) (hw : what ≤ 3) (hq : q ≤ 32) : mPl l yX4_endWorth wsX4_endWorth 0 0 E ws [.ref (ad 0), .int (nI what), .int (nI q)] (fun r => r = lN (eW g what q)) := by
  refine mP_of (cc := cX4_endWorth) (maxL := 3) (ret := (some .long)) (by decide) rfl (Nat.le_of_ble_eq_true rfl) ?_
  intro p0 e0 s m below meth c0 ls hx hb hr hml hts hown hlocks hE hP hl
  have hown : s.vm.findClass RX4 = some m.cls := hown
  have hl : lv_has ls 3 [(0, .ref (ad 0)), (1, .int (nI what)), (2, .int (nI q))] := hl
  have hinX4 : ∀ w ∈ wsX40, w ∈ wsX4_endWorth := by decide +kernel
  refine lv_iload_n hx hb dX4_endWorth_0 rfl (lv_at hl 1 rfl) ?_
  rcases (show what = 0 ∨ what = 1 ∨ what = 2 ∨ what = 3 by omega) with rfl | rfl | rfl | rfl
  · skip
    refine lv_tableIn (tgt := 28) hx hb dX4_endWorth_1 (by decide) (by decide) rfl (by decide) ?_
    refine lv_iload_n hx hb dX4_endWorth_28 rfl (lv_at hl 2 rfl) ?_
    refine lv_aload_n hx hb dX4_endWorth_29 rfl (lv_at hl 0 rfl) ?_
    refine va_get (D := E.1) (ci := 4) (C := RX4) (T := TX4) (N := 11) hx hb hts hinX4 hown hE.1 hP 0 hX rfl 7 (by decide) (hts (.fieldLink RX4 42 "StakeHouse" "goal" "I") (by decide +kernel)) (fun _ h9 => h9) rfl dX4_endWorth_30 ?_
    refine n_ne hx hb (by omega) (by omega) 40 dX4_endWorth_33 (by decide) (fun c33 => ?_) (fun c33 => ?_)
    · skip
      refine lv_lconst (v := lN 0) hx hb dX4_endWorth_40 rfl ?_
      exact ret_Pl hx hb hr hlocks dX4_endWorth_41 (show lN 0 = lN (if q = g then 1 else 0) by rw [if_neg (by omega)])
    · skip
      refine lv_lconst (v := lN 1) hx hb dX4_endWorth_36 rfl ?_
      refine lv_goto (tgt := 41) hx hb dX4_endWorth_37 (by decide) ?_
      exact ret_Pl hx hb hr hlocks dX4_endWorth_41 (show lN 1 = lN (if q = g then 1 else 0) by rw [if_pos (by omega)])
  · skip
    refine lv_tableIn (tgt := 42) hx hb dX4_endWorth_1 (by decide) (by decide) rfl (by decide) ?_
    refine lv_iload_n hx hb dX4_endWorth_42 rfl (lv_at hl 2 rfl) ?_
    refine z_ne hx hb (by omega) 50 dX4_endWorth_43 (by decide) (fun c43 => ?_) (fun c43 => ?_)
    · skip
      refine lv_lconst (v := lN 0) hx hb dX4_endWorth_50 rfl ?_
      exact ret_Pl hx hb hr hlocks dX4_endWorth_51 (show lN 0 = lN (if q = 0 then 1 else 0) by rw [if_neg (by omega)])
    · skip
      refine lv_lconst (v := lN 1) hx hb dX4_endWorth_46 rfl ?_
      refine lv_goto (tgt := 51) hx hb dX4_endWorth_47 (by decide) ?_
      exact ret_Pl hx hb hr hlocks dX4_endWorth_51 (show lN 1 = lN (if q = 0 then 1 else 0) by rw [if_pos (by omega)])
  · skip
    refine lv_tableIn (tgt := 52) hx hb dX4_endWorth_1 (by decide) (by decide) rfl (by decide) ?_
    refine lv_iload_n hx hb dX4_endWorth_52 rfl (lv_at hl 2 rfl) ?_
    refine lv_i2l (v := lN _) hx hb dX4_endWorth_53 (nI_l (by omega)) ?_
    exact ret_Pl hx hb hr hlocks dX4_endWorth_54 rfl
  · skip
    refine lv_tableOut (tgt := 55) hx hb dX4_endWorth_1 (Or.inr (by decide)) (by decide) ?_
    refine lv_lconst (v := lN 0) hx hb dX4_endWorth_55 rfl ?_
    exact ret_Pl hx hb hr hlocks dX4_endWorth_56 rfl
end
section
/-! StakeHouse: what reads more (best stakes, plans) -/
set_option maxHeartbeats 4000000 in
set_option maxRecDepth 100000 in
/-- greatestStake -/
theorem c_greatestStake (l : Launch) (E : eT) (ws : va_W) (ad : Nat → Nat) (g hz n : Nat) (mk : Int64) (hX : ws[0]? = some (ad 0, xE ad g hz n mk)) (hg32 : g ≤ 32) (k a b : Nat) (d : gT) (hd : gOk d) (hg : ws[k]? = some (a, gmE d b)) (hgn : ws[k + 1]? = some (b, gnE E d)) (kb ab : Nat) (f : Nat → Int64) (v : Nat → Nat) (hbf : ws[kb]? = some (ab, xJ E 33 f)) (hf : ∀ j, j ≤ g → f j = lN (v j)) (hv : ∀ j, j ≤ g → v j ≤ 2 ^ 49) (q : Nat) (hq : q ≤ g) : mPl l yX4_greatestStake wsX4_greatestStake 2 50 E ws [.ref (ad 0), .ref a, .ref ab, .int (nI q)] (fun r => r = lN (gS g d v q (min q (gL d)) 0)) := by
  refine mP_of (cc := cX4_greatestStake) (maxL := 8) (ret := (some .long)) (by decide) rfl (Nat.le_of_ble_eq_true rfl) ?_
  intro p0 e0 s m below meth c0 ls hx hb hr hml hts hown hlocks hE hP hl
  have hown : s.vm.findClass RX4 = some m.cls := hown
  have hl : lv_has ls 8 [(0, .ref (ad 0)), (1, .ref a), (2, .ref ab), (3, .int (nI q))] := hl
  have hinX4 : ∀ w ∈ wsX40, w ∈ wsX4_greatestStake := by decide +kernel
  have hinX1 : ∀ w ∈ wsX10, w ∈ wsX4_greatestStake := by decide +kernel
  have hinX2 : ∀ w ∈ wsX20, w ∈ wsX4_greatestStake := by decide +kernel
  have hinX3 : ∀ w ∈ wsX30, w ∈ wsX4_greatestStake := by decide +kernel
  refine lv_aload_n hx hb dX4_greatestStake_0 rfl (lv_at hl 1 rfl) ?_
  refine lv_iload_n hx hb dX4_greatestStake_1 rfl (lv_at hl 3 rfl) ?_
  refine vp_callSi (W.runS ⟨hx, hb, hml, hown, hts⟩ (c_mostStake l E ws k a b d hd hg q (by omega)) (va_cwS 2 hts gX4_greatestStake_X4_mostStake rfl rfl rfl (by decide +kernel) ⟨Nat.le_of_ble_eq_true rfl, Nat.le_of_ble_eq_true rfl⟩) (ePu_S hP hE) rfl rfl hl.1 rfl (lv_room (Nat.le_of_ble_eq_true rfl)) dX4_greatestStake_2 ⟨Nat.zero_le _, Nat.zero_le _⟩) (fun r9 hr9 => ?_)
  subst hr9
  refine st_i2 hx hb 4 dX4_greatestStake_5 hl (by decide) rfl (fun ls hl => ?_)
  refine lv_lconst (v := lN 0) hx hb dX4_greatestStake_7 rfl ?_
  refine st_l2 hx hb 5 dX4_greatestStake_8 hl (by decide) rfl (fun ls hl => ?_)
  refine lv_iconst (v := nI 1) hx hb dX4_greatestStake_10 (by decide) ?_
  refine st_i2 hx hb 6 dX4_greatestStake_11 hl (by decide) rfl (fun ls hl => ?_)
  have hL1 := hd.2.2.2.2.2
  refine wLoop (min q (gL d)) 0 (fun i ls => lv_has ls 8 [(0, .ref (ad 0)), (1, .ref a), (2, .ref ab), (3, .int (nI q)), (4, .int (nI (min q (gL d)))), (5, .long (lN (gS g d v q i 0))), (7, .int (nI (i + 1)))]) (Nat.zero_le _) (fun i ls hi hl ih => ?_) (fun ls hl => ?_) hl
  · skip
    refine lv_iload hx hb dX4_greatestStake_13 (lv_at hl 6 rfl) ?_
    refine lv_iload hx hb dX4_greatestStake_15 (lv_at hl 4 rfl) ?_
    refine n_gt hx hb (by omega) (by omega) 53 dX4_greatestStake_17 (by decide) (fun c17 => ?_) (fun c17 => ?_)
    · skip
      exact absurd c17 (by omega)
    · skip
      refine lv_lload hx hb dX4_greatestStake_20 (lv_at hl 5 rfl) ?_
      refine lv_aload_n hx hb dX4_greatestStake_22 rfl (lv_at hl 1 rfl) ?_
      refine lv_aload_n hx hb dX4_greatestStake_23 rfl (lv_at hl 2 rfl) ?_
      refine lv_aload_n hx hb dX4_greatestStake_24 rfl (lv_at hl 0 rfl) ?_
      refine lv_aload_n hx hb dX4_greatestStake_25 rfl (lv_at hl 1 rfl) ?_
      refine lv_iload_n hx hb dX4_greatestStake_26 rfl (lv_at hl 3 rfl) ?_
      refine lv_iload hx hb dX4_greatestStake_27 (lv_at hl 6 rfl) ?_
      refine vp_callSi (W.runV ⟨hx, hb, hml, hown, hts⟩ (c_raised l E ws ad g hz n mk hX hg32 k a b d hd hg hgn q (i + 1) (by omega) (by omega)) (cwV 3 hts gX4_greatestStake_X4_raised rfl rfl rfl (by decide +kernel) ⟨Nat.le_of_ble_eq_true rfl, Nat.le_of_ble_eq_true rfl⟩) (ePu_V hP hE (ci := 4) (k := 0) rfl hX) rfl rfl hl.1 rfl (lv_room (Nat.le_of_ble_eq_true rfl)) dX4_greatestStake_29 ⟨Nat.zero_le _, Nat.zero_le _⟩) (fun r9 hr9 => ?_)
      subst hr9
      refine va_lald hx hb hE.1 hP kb 1 hbf rfl (vp_in_nI (by omega) (by decide)) dX4_greatestStake_32 ?_
      refine tp_l (ldv hf (by omega) hg32) ?_
      refine lv_aload_n hx hb dX4_greatestStake_33 rfl (lv_at hl 2 rfl) ?_
      refine lv_iload_n hx hb dX4_greatestStake_34 rfl (lv_at hl 3 rfl) ?_
      refine lv_iload hx hb dX4_greatestStake_35 (lv_at hl 6 rfl) ?_
      refine lv_isub hx hb dX4_greatestStake_37 ?_
      refine tp_i (pk_sub (by omega)) ?_
      refine va_lald hx hb hE.1 hP kb 1 hbf rfl (vp_in_nI (by omega) (by decide)) dX4_greatestStake_38 ?_
      refine tp_l (ldv hf (by omega) hg32) ?_
      refine vp_callSl (W.runS ⟨hx, hb, hml, hown, hts⟩ (c_mixed l E ws k a b d hd hg _ _) (va_cwS 3 hts gX4_greatestStake_X4_mixed rfl rfl rfl (by decide +kernel) ⟨Nat.le_of_ble_eq_true rfl, Nat.le_of_ble_eq_true rfl⟩) (ePu_S hP hE) rfl rfl hl.1 rfl (lv_room (Nat.le_of_ble_eq_true rfl)) dX4_greatestStake_39 ⟨Nat.zero_le _, Nat.zero_le _⟩) (fun r9 hr9 => ?_)
      subst hr9
      have hb1 := gS_le (a := 0) hd hv hq (Nat.zero_le _) i
      have hb2 := gMix_le hd (hv (min g (q + gWin d (i + 1))) (by omega)) (hv (q - (i + 1)) (by omega))
      unfold gMix at hb2
      refine va_mmax_long hx hb (hml.trans hl.1.symm) hown (hts (.methodLink RX4 180 Lib.MathLoose.max_long.x) (by decide +kernel)) (hts (.static Lib.MathLoose.max_long.x) (by decide +kernel)) (hts (.initialized "java/lang/Math") (by decide +kernel)) (hts (.code Lib.MathLoose.max_long.x Lib.MathLoose.max_long.code 4 (some .long)) (by decide +kernel)) (Nat.le_of_ble_eq_true rfl) (Nat.le_of_ble_eq_true rfl) (Nat.zero_le _) (Nat.zero_le _) dX4_greatestStake_42 ?_
      refine tp_l (lN_max2 (by omega) (by omega)) ?_
      refine st_l2 hx hb 5 dX4_greatestStake_45 hl (by decide) rfl (fun ls hl => ?_)
      refine st_inc hx hb 6 dX4_greatestStake_47 hl rfl (nI_1 _) (by decide) rfl (fun ls hl => ?_)
      refine lv_goto (tgt := 13) hx hb dX4_greatestStake_50 (by decide) ?_
      exact ih _ hl
  · skip
    refine lv_iload hx hb dX4_greatestStake_13 (lv_at hl 6 rfl) ?_
    refine lv_iload hx hb dX4_greatestStake_15 (lv_at hl 4 rfl) ?_
    refine n_gt hx hb (by omega) (by omega) 53 dX4_greatestStake_17 (by decide) (fun c17 => ?_) (fun c17 => ?_)
    · skip
      refine lv_lload hx hb dX4_greatestStake_53 (lv_at hl 5 rfl) ?_
      exact ret_Pl hx hb hr hlocks dX4_greatestStake_55 rfl
    · skip
      exact absurd c17 (by omega)
set_option maxHeartbeats 4000000 in
set_option maxRecDepth 100000 in
/-- boldStake -/
theorem c_boldStake (l : Launch) (E : eT) (ws : va_W) (ad : Nat → Nat) (g hz n : Nat) (mk : Int64) (hX : ws[0]? = some (ad 0, xE ad g hz n mk)) (hg32 : g ≤ 32) (k a b : Nat) (d : gT) (hd : gOk d) (hg : ws[k]? = some (a, gmE d b)) (hgn : ws[k + 1]? = some (b, gnE E d)) (q : Nat) (hq1 : 1 ≤ q) (hq : q ≤ g) : mPi l yX4_boldStake wsX4_boldStake 2 50 E ws [.ref (ad 0), .ref a, .int (nI q)] (fun r => r = nI (gBold g d q)) := by
  refine mP_of (cc := cX4_boldStake) (maxL := 5) (ret := (some .int)) (by decide) rfl (Nat.le_of_ble_eq_true rfl) ?_
  intro p0 e0 s m below meth c0 ls hx hb hr hml hts hown hlocks hE hP hl
  have hown : s.vm.findClass RX4 = some m.cls := hown
  have hl : lv_has ls 5 [(0, .ref (ad 0)), (1, .ref a), (2, .int (nI q))] := hl
  have hinX4 : ∀ w ∈ wsX40, w ∈ wsX4_boldStake := by decide +kernel
  have hinX1 : ∀ w ∈ wsX10, w ∈ wsX4_boldStake := by decide +kernel
  have hinX2 : ∀ w ∈ wsX20, w ∈ wsX4_boldStake := by decide +kernel
  have hinX3 : ∀ w ∈ wsX30, w ∈ wsX4_boldStake := by decide +kernel
  refine lv_aload_n hx hb dX4_boldStake_0 rfl (lv_at hl 1 rfl) ?_
  refine lv_iload_n hx hb dX4_boldStake_1 rfl (lv_at hl 2 rfl) ?_
  refine vp_callSi (W.runS ⟨hx, hb, hml, hown, hts⟩ (c_mostStake l E ws k a b d hd hg q (by omega)) (va_cwS 2 hts gX4_boldStake_X4_mostStake rfl rfl rfl (by decide +kernel) ⟨Nat.le_of_ble_eq_true rfl, Nat.le_of_ble_eq_true rfl⟩) (ePu_S hP hE) rfl rfl hl.1 rfl (lv_room (Nat.le_of_ble_eq_true rfl)) dX4_boldStake_2 ⟨Nat.zero_le _, Nat.zero_le _⟩) (fun r9 hr9 => ?_)
  subst hr9
  refine st_i1 hx hb 3 dX4_boldStake_5 rfl hl (by decide) rfl (fun ls hl => ?_)
  refine lv_iconst (v := nI 1) hx hb dX4_boldStake_6 (by decide) ?_
  refine st_i2 hx hb 4 dX4_boldStake_7 hl (by decide) rfl (fun ls hl => ?_)
  have hL1 := hd.2.2.2.2.2
  have hL0 := hd.2.2.2.2.1
  refine wLoop (min q (gL d) - 1) 0 (fun i ls => gBold g d q = gB g d q (min q (gL d)) (min q (gL d) - (i + 1)) ∧ lv_has ls 5 [(0, .ref (ad 0)), (1, .ref a), (2, .int (nI q)), (3, .int (nI (min q (gL d)))), (4, .int (nI (i + 1)))]) (Nat.zero_le _) (fun i ls hi hI ih => ?_) (fun ls hI => ?_) ⟨rfl, hl⟩
  · skip
    obtain ⟨hI, hl⟩ := hI
    have hW := gWin_le hd (s := i + 1) (by omega)
    refine lv_iload hx hb dX4_boldStake_9 (lv_at hl 4 rfl) ?_
    refine lv_iload_n hx hb dX4_boldStake_11 rfl (lv_at hl 3 rfl) ?_
    refine n_ge hx hb (by omega) (by omega) 40 dX4_boldStake_12 (by decide) (fun c12 => ?_) (fun c12 => ?_)
    · skip
      exact absurd c12 (by omega)
    · skip
      refine lv_iload_n hx hb dX4_boldStake_15 rfl (lv_at hl 2 rfl) ?_
      refine lv_aload_n hx hb dX4_boldStake_16 rfl (lv_at hl 1 rfl) ?_
      refine gf_gains hx hb hts hinX1 hinX2 hinX3 hown hE hP hg dX4_boldStake_17 ?_
      refine lv_iload hx hb dX4_boldStake_20 (lv_at hl 4 rfl) ?_
      refine va_iald hx hb hE.1 hP (k + 1) 0 hgn rfl (vp_in_nI (by omega) (by decide)) dX4_boldStake_22 ?_
      refine tp_i (show _ = nI (gWin d (i + 1)) by rw [nI_clamp (by omega)]) ?_
      refine lv_iadd hx hb dX4_boldStake_23 ?_
      refine tp_i (nI_add _ _) ?_
      refine lv_aload_n hx hb dX4_boldStake_24 rfl (lv_at hl 0 rfl) ?_
      refine va_get (D := E.1) (ci := 4) (C := RX4) (T := TX4) (N := 11) hx hb hts hinX4 hown hE.1 hP 0 hX rfl 7 (by decide) (hts (.fieldLink RX4 42 "StakeHouse" "goal" "I") (by decide +kernel)) (fun _ h9 => h9) rfl dX4_boldStake_25 ?_
      refine n_lt hx hb (by omega) (by omega) 34 dX4_boldStake_28 (by decide) (fun c28 => ?_) (fun c28 => ?_)
      · skip
        have e1 : min q (gL d) - (i + 1) = (min q (gL d) - (i + 1 + 1)) + 1 := by omega
        have e2 : min q (gL d) - (min q (gL d) - (i + 1 + 1) + 1) = i + 1 := by omega
        refine st_inc hx hb 4 dX4_boldStake_34 hl rfl (nI_1 _) (by decide) rfl (fun ls hl => ?_)
        refine lv_goto (tgt := 9) hx hb dX4_boldStake_37 (by decide) ?_
        refine ih _ ⟨?_, hl⟩
        rw [hI, e1, gB, e2, if_neg (by omega)]
      · skip
        have e1 : min q (gL d) - (i + 1) = (min q (gL d) - (i + 1 + 1)) + 1 := by omega
        have e2 : min q (gL d) - (min q (gL d) - (i + 1 + 1) + 1) = i + 1 := by omega
        refine lv_iload hx hb dX4_boldStake_31 (lv_at hl 4 rfl) ?_
        exact ret_Pi hx hb hr hlocks dX4_boldStake_33 (by rw [hI, e1, gB, e2, if_pos (by omega)])
  · skip
    obtain ⟨hI, hl⟩ := hI
    refine lv_iload hx hb dX4_boldStake_9 (lv_at hl 4 rfl) ?_
    refine lv_iload_n hx hb dX4_boldStake_11 rfl (lv_at hl 3 rfl) ?_
    refine n_ge hx hb (by omega) (by omega) 40 dX4_boldStake_12 (by decide) (fun c12 => ?_) (fun c12 => ?_)
    · skip
      refine lv_iload_n hx hb dX4_boldStake_40 rfl (lv_at hl 3 rfl) ?_
      exact ret_Pi hx hb hr hlocks dX4_boldStake_41 (by rw [hI, show min q (gL d) - (min q (gL d) - 1 + 1) = 0 by omega]; rfl)
    · skip
      exact absurd c12 (by omega)
theorem nI_sh1 : ∀ r, r ≤ 5 → nI 1 <<< (nI r &&& 31) = nI (2 ^ r)
  | 0, _ => by decide
  | 1, _ => by decide
  | 2, _ => by decide
  | 3, _ => by decide
  | 4, _ => by decide
  | 5, _ => by decide
set_option maxHeartbeats 4000000 in
set_option maxRecDepth 100000 in
/-- planned -/
theorem c_planned (l : Launch) (E : eT) (ws : va_W) (ad : Nat → Nat) (g hz n : Nat) (mk : Int64) (hX : ws[0]? = some (ad 0, xE ad g hz n mk)) (hg32 : g ≤ 32) (k a b : Nat) (d : gT) (hd : gOk d) (hg : ws[k]? = some (a, gmE d b)) (hgn : ws[k + 1]? = some (b, gnE E d)) (td : Nat → Nat) (htd : ws[2]? = some (ad 2, xI E 33 (fun j => nI (td j)))) (htd2 : ∀ j, td j ≤ 32) (plan q r : Nat) (hpl : plan ≤ 3) (hr5 : r ≤ 5) (hq1 : 1 ≤ q) (hq : q ≤ g) : mPi l yX4_planned wsX4_planned 3 80 E ws [.ref (ad 0), .int (nI plan), .ref a, .int (nI q), .int (nI r)] (fun x => x = nI (gPl g d td plan q r)) := by
  refine mP_of (cc := cX4_planned) (maxL := 5) (ret := (some .int)) (by decide) rfl (Nat.le_of_ble_eq_true rfl) ?_
  intro p0 e0 s m below meth c0 ls hx hb hr hml hts hown hlocks hE hP hl
  have hown : s.vm.findClass RX4 = some m.cls := hown
  have hl : lv_has ls 5 [(0, .ref (ad 0)), (1, .int (nI plan)), (2, .ref a), (3, .int (nI q)), (4, .int (nI r))] := hl
  have hinX4 : ∀ w ∈ wsX40, w ∈ wsX4_planned := by decide +kernel
  have hinX1 : ∀ w ∈ wsX10, w ∈ wsX4_planned := by decide +kernel
  have hinX2 : ∀ w ∈ wsX20, w ∈ wsX4_planned := by decide +kernel
  have hinX3 : ∀ w ∈ wsX30, w ∈ wsX4_planned := by decide +kernel
  have hL1 := hd.2.2.2.2.2
  have ht9 := htd2 q
  refine lv_iload_n hx hb dX4_planned_0 rfl (lv_at hl 1 rfl) ?_
  rcases (show plan = 0 ∨ plan = 1 ∨ plan = 2 ∨ plan = 3 by omega) with rfl | rfl | rfl | rfl
  · skip
    refine lv_tableIn (tgt := 28) hx hb dX4_planned_1 (by decide) (by decide) rfl (by decide) ?_
    refine lv_aload_n hx hb dX4_planned_28 rfl (lv_at hl 0 rfl) ?_
    refine lv_aload_n hx hb dX4_planned_29 rfl (lv_at hl 2 rfl) ?_
    refine lv_iload_n hx hb dX4_planned_30 rfl (lv_at hl 3 rfl) ?_
    refine vp_callSi (W.runV ⟨hx, hb, hml, hown, hts⟩ (c_boldStake l E ws ad g hz n mk hX hg32 k a b d hd hg hgn q hq1 hq) (cwV 2 hts gX4_planned_X4_boldStake rfl rfl rfl (by decide +kernel) ⟨Nat.le_of_ble_eq_true rfl, Nat.le_of_ble_eq_true rfl⟩) (ePu_V hP hE (ci := 4) (k := 0) rfl hX) rfl rfl hl.1 rfl (lv_room (Nat.le_of_ble_eq_true rfl)) dX4_planned_31 ⟨Nat.zero_le _, Nat.zero_le _⟩) (fun r9 hr9 => ?_)
    subst hr9
    exact ret_Pi hx hb hr hlocks dX4_planned_34 rfl
  · skip
    refine lv_tableIn (tgt := 35) hx hb dX4_planned_1 (by decide) (by decide) rfl (by decide) ?_
    refine lv_iconst (v := nI 1) hx hb dX4_planned_35 (by decide) ?_
    exact ret_Pi hx hb hr hlocks dX4_planned_36 rfl
  · skip
    refine lv_tableIn (tgt := 37) hx hb dX4_planned_1 (by decide) (by decide) rfl (by decide) ?_
    refine lv_aload_n hx hb dX4_planned_37 rfl (lv_at hl 0 rfl) ?_
    refine va_get (D := E.1) (ci := 4) (C := RX4) (T := TX4) (N := 11) hx hb hts hinX4 hown hE.1 hP 0 hX rfl 1 (by decide) (hts (.fieldLink RX4 15 "StakeHouse" "told" "[I") (by decide +kernel)) (fun _ h9 => h9) rfl dX4_planned_38 ?_
    refine lv_iload_n hx hb dX4_planned_41 rfl (lv_at hl 3 rfl) ?_
    refine va_iald hx hb hE.1 hP 2 0 htd rfl (vp_in_nI (by omega) (by decide)) dX4_planned_42 ?_
    refine tp_i (show _ = nI (td q) by rw [nI_clamp (by omega)]) ?_
    refine lv_aload_n hx hb dX4_planned_43 rfl (lv_at hl 2 rfl) ?_
    refine lv_iload_n hx hb dX4_planned_44 rfl (lv_at hl 3 rfl) ?_
    refine vp_callSi (W.runS ⟨hx, hb, hml, hown, hts⟩ (c_mostStake l E ws k a b d hd hg q (by omega)) (va_cwS 2 hts gX4_planned_X4_mostStake rfl rfl rfl (by decide +kernel) ⟨Nat.le_of_ble_eq_true rfl, Nat.le_of_ble_eq_true rfl⟩) (ePu_S hP hE) rfl rfl hl.1 rfl (lv_room (Nat.le_of_ble_eq_true rfl)) dX4_planned_45 ⟨Nat.zero_le _, Nat.zero_le _⟩) (fun r9 hr9 => ?_)
    subst hr9
    refine va_mmin hx hb (hml.trans hl.1.symm) hown (hts (.methodLink RX4 137 Lib.Math.min.name) (by decide +kernel)) (hts (.static Lib.Math.min.name) (by decide +kernel)) (hts (.initialized "java/lang/Math") (by decide +kernel)) (hts (.code Lib.Math.min.name Lib.Math.min.code 2 (some .int)) (by decide +kernel)) (Nat.le_of_ble_eq_true rfl) (Nat.le_of_ble_eq_true rfl) (Nat.zero_le _) (Nat.zero_le _) dX4_planned_48 ?_
    refine tp_i (nI_min (by omega) (by omega)) ?_
    exact ret_Pi hx hb hr hlocks dX4_planned_51 rfl
  · skip
    refine lv_tableOut (tgt := 52) hx hb dX4_planned_1 (Or.inr (by decide)) (by decide) ?_
    refine lv_iconst (v := nI 1) hx hb dX4_planned_52 (by decide) ?_
    refine lv_iload hx hb dX4_planned_53 (lv_at hl 4 rfl) ?_
    refine lv_ishl hx hb dX4_planned_55 ?_
    refine tp_i (show _ = nI (2 ^ r) from nI_sh1 r hr5) ?_
    have h2r : 2 ^ r ≤ 32 := (Nat.pow_le_pow_right (by decide) hr5 : 2 ^ r ≤ 2 ^ 5)
    refine lv_aload_n hx hb dX4_planned_56 rfl (lv_at hl 2 rfl) ?_
    refine lv_iload_n hx hb dX4_planned_57 rfl (lv_at hl 3 rfl) ?_
    refine vp_callSi (W.runS ⟨hx, hb, hml, hown, hts⟩ (c_mostStake l E ws k a b d hd hg q (by omega)) (va_cwS 2 hts gX4_planned_X4_mostStake rfl rfl rfl (by decide +kernel) ⟨Nat.le_of_ble_eq_true rfl, Nat.le_of_ble_eq_true rfl⟩) (ePu_S hP hE) rfl rfl hl.1 rfl (lv_room (Nat.le_of_ble_eq_true rfl)) dX4_planned_58 ⟨Nat.zero_le _, Nat.zero_le _⟩) (fun r9 hr9 => ?_)
    subst hr9
    refine va_mmin hx hb (hml.trans hl.1.symm) hown (hts (.methodLink RX4 137 Lib.Math.min.name) (by decide +kernel)) (hts (.static Lib.Math.min.name) (by decide +kernel)) (hts (.initialized "java/lang/Math") (by decide +kernel)) (hts (.code Lib.Math.min.name Lib.Math.min.code 2 (some .int)) (by decide +kernel)) (Nat.le_of_ble_eq_true rfl) (Nat.le_of_ble_eq_true rfl) (Nat.zero_le _) (Nat.zero_le _) dX4_planned_61 ?_
    refine tp_i (nI_min (by omega) (by omega)) ?_
    exact ret_Pi hx hb hr hlocks dX4_planned_64 rfl
set_option maxHeartbeats 4000000 in
set_option maxRecDepth 100000 in
/-- bestStakes -/
theorem c_bestStakes (l : Launch) (E : eT) (ws : va_W) (ad : Nat → Nat) (g hz n : Nat) (mk : Int64) (hX : ws[0]? = some (ad 0, xE ad g hz n mk)) (hg32 : g ≤ 32) (k a b : Nat) (d : gT) (hd : gOk d) (hg : ws[k]? = some (a, gmE d b)) (hgn : ws[k + 1]? = some (b, gnE E d)) (kb ab : Nat) (f : Nat → Int64) (v : Nat → Nat) (hbf : ws[kb]? = some (ab, xJ E 33 f)) (hf : ∀ j, j ≤ g → f j = lN (v j)) (hv : ∀ j, j ≤ g → v j ≤ 2 ^ 49) (q top : Nat) (hq : q ≤ g) (htop : top < 2 ^ 63) : mPl l yX4_bestStakes wsX4_bestStakes 2 50 E ws [.ref (ad 0), .ref a, .int (nI q), .long (lN top), .ref ab] (fun r => r = gBits g d v q top (min q (gL d))) := by
  refine mP_of (cc := cX4_bestStakes) (maxL := 10) (ret := (some .long)) (by decide) rfl (Nat.le_of_ble_eq_true rfl) ?_
  intro p0 e0 s m below meth c0 ls hx hb hr hml hts hown hlocks hE hP hl
  have hown : s.vm.findClass RX4 = some m.cls := hown
  have hl : lv_has ls 10 [(0, .ref (ad 0)), (1, .ref a), (2, .int (nI q)), (3, .long (lN top)), (5, .ref ab)] := hl
  have hinX4 : ∀ w ∈ wsX40, w ∈ wsX4_bestStakes := by decide +kernel
  have hinX1 : ∀ w ∈ wsX10, w ∈ wsX4_bestStakes := by decide +kernel
  have hinX2 : ∀ w ∈ wsX20, w ∈ wsX4_bestStakes := by decide +kernel
  have hinX3 : ∀ w ∈ wsX30, w ∈ wsX4_bestStakes := by decide +kernel
  have hL1 := hd.2.2.2.2.2
  have hvq := hv q hq
  refine wCut (fun x : Int64 => F0 m 18 ls [.long x]) (fun x => x = gBits g d v q top 0) ?_ ?_
  · skip
    intro x hx0
    subst hx0
    refine st_l2 hx hb 5 dX4_bestStakes_18 hl (by decide) rfl (fun ls hl => ?_)
    refine lv_aload_n hx hb dX4_bestStakes_20 rfl (lv_at hl 1 rfl) ?_
    refine lv_iload_n hx hb dX4_bestStakes_21 rfl (lv_at hl 2 rfl) ?_
    refine vp_callSi (W.runS ⟨hx, hb, hml, hown, hts⟩ (c_mostStake l E ws k a b d hd hg q (by omega)) (va_cwS 2 hts gX4_bestStakes_X4_mostStake rfl rfl rfl (by decide +kernel) ⟨Nat.le_of_ble_eq_true rfl, Nat.le_of_ble_eq_true rfl⟩) (ePu_S hP hE) rfl rfl hl.1 rfl (lv_room (Nat.le_of_ble_eq_true rfl)) dX4_bestStakes_22 ⟨Nat.zero_le _, Nat.zero_le _⟩) (fun r9 hr9 => ?_)
    subst hr9
    refine st_i2 hx hb 6 dX4_bestStakes_25 hl (by decide) rfl (fun ls hl => ?_)
    refine lv_iconst (v := nI 1) hx hb dX4_bestStakes_27 (by decide) ?_
    refine st_i2 hx hb 7 dX4_bestStakes_28 hl (by decide) rfl (fun ls hl => ?_)
    refine wLoop (min q (gL d)) 0 (fun i ls => lv_has ls 10 [(0, .ref (ad 0)), (1, .ref a), (2, .int (nI q)), (3, .long (lN top)), (5, .ref ab), (6, .long (gBits g d v q top i)), (8, .int (nI (min q (gL d)))), (9, .int (nI (i + 1)))]) (Nat.zero_le _) (fun i ls hi hl ih => ?_) (fun ls hl => ?_) hl
    · skip
      refine lv_iload hx hb dX4_bestStakes_30 (lv_at hl 7 rfl) ?_
      refine lv_iload hx hb dX4_bestStakes_32 (lv_at hl 6 rfl) ?_
      refine n_gt hx hb (by omega) (by omega) 79 dX4_bestStakes_34 (by decide) (fun c34 => ?_) (fun c34 => ?_)
      · skip
        exact absurd c34 (by omega)
      · skip
        refine lv_aload_n hx hb dX4_bestStakes_37 rfl (lv_at hl 1 rfl) ?_
        refine lv_aload hx hb dX4_bestStakes_38 (lv_at hl 4 rfl) ?_
        refine lv_aload_n hx hb dX4_bestStakes_40 rfl (lv_at hl 0 rfl) ?_
        refine lv_aload_n hx hb dX4_bestStakes_41 rfl (lv_at hl 1 rfl) ?_
        refine lv_iload_n hx hb dX4_bestStakes_42 rfl (lv_at hl 2 rfl) ?_
        refine lv_iload hx hb dX4_bestStakes_43 (lv_at hl 7 rfl) ?_
        refine vp_callSi (W.runV ⟨hx, hb, hml, hown, hts⟩ (c_raised l E ws ad g hz n mk hX hg32 k a b d hd hg hgn q (i + 1) (by omega) (by omega)) (cwV 3 hts gX4_bestStakes_X4_raised rfl rfl rfl (by decide +kernel) ⟨Nat.le_of_ble_eq_true rfl, Nat.le_of_ble_eq_true rfl⟩) (ePu_V hP hE (ci := 4) (k := 0) rfl hX) rfl rfl hl.1 rfl (lv_room (Nat.le_of_ble_eq_true rfl)) dX4_bestStakes_45 ⟨Nat.zero_le _, Nat.zero_le _⟩) (fun r9 hr9 => ?_)
        subst hr9
        refine va_lald hx hb hE.1 hP kb 1 hbf rfl (vp_in_nI (by omega) (by decide)) dX4_bestStakes_48 ?_
        refine tp_l (ldv hf (by omega) hg32) ?_
        refine lv_aload hx hb dX4_bestStakes_49 (lv_at hl 4 rfl) ?_
        refine lv_iload_n hx hb dX4_bestStakes_51 rfl (lv_at hl 2 rfl) ?_
        refine lv_iload hx hb dX4_bestStakes_52 (lv_at hl 7 rfl) ?_
        refine lv_isub hx hb dX4_bestStakes_54 ?_
        refine tp_i (pk_sub (by omega)) ?_
        refine va_lald hx hb hE.1 hP kb 1 hbf rfl (vp_in_nI (by omega) (by decide)) dX4_bestStakes_55 ?_
        refine tp_l (ldv hf (by omega) hg32) ?_
        refine vp_callSl (W.runS ⟨hx, hb, hml, hown, hts⟩ (c_mixed l E ws k a b d hd hg _ _) (va_cwS 3 hts gX4_bestStakes_X4_mixed rfl rfl rfl (by decide +kernel) ⟨Nat.le_of_ble_eq_true rfl, Nat.le_of_ble_eq_true rfl⟩) (ePu_S hP hE) rfl rfl hl.1 rfl (lv_room (Nat.le_of_ble_eq_true rfl)) dX4_bestStakes_56 ⟨Nat.zero_le _, Nat.zero_le _⟩) (fun r9 hr9 => ?_)
        subst hr9
        refine lv_lload_n hx hb dX4_bestStakes_59 rfl (lv_at hl 3 rfl) ?_
        refine W.lcmp hx hb dX4_bestStakes_60 ?_
        have hb2 := gMix_le hd (hv (min g (q + gWin d (i + 1))) (by omega)) (hv (q - (i + 1)) (by omega))
        unfold gMix at hb2
        refine lv_if_ne (tgt := 73) hx hb dX4_bestStakes_61 (by decide) (fun c61 => ?_) (fun c61 => ?_)
        · skip
          rw [lg_cmp_eq, pk_lEQ (by omega) htop] at c61
          refine st_inc hx hb 7 dX4_bestStakes_73 hl rfl (nI_1 _) (by decide) rfl (fun ls hl => ?_)
          refine lv_goto (tgt := 30) hx hb dX4_bestStakes_76 (by decide) ?_
          refine ih _ ?_
          have e9 : gBits g d v q top (i + 1) = gBits g d v q top i := if_neg c61
          rw [e9]
          exact hl
        · skip
          rw [lg_cmp_eq, pk_lEQ (by omega) htop] at c61
          refine lv_lload hx hb dX4_bestStakes_64 (lv_at hl 5 rfl) ?_
          refine lv_lconst (v := lN 1) hx hb dX4_bestStakes_66 rfl ?_
          refine lv_iload hx hb dX4_bestStakes_67 (lv_at hl 7 rfl) ?_
          refine lv_lshl hx hb dX4_bestStakes_69 rfl ?_
          refine lv_lor hx hb dX4_bestStakes_70 ?_
          refine st_l2 hx hb 5 dX4_bestStakes_71 hl (by decide) rfl (fun ls hl => ?_)
          refine st_inc hx hb 7 dX4_bestStakes_73 hl rfl (nI_1 _) (by decide) rfl (fun ls hl => ?_)
          refine lv_goto (tgt := 30) hx hb dX4_bestStakes_76 (by decide) ?_
          refine ih _ ?_
          have e9 : gBits g d v q top (i + 1) = gBits g d v q top i ||| (lN 1 <<< ((nI (i + 1)).toInt64 &&& 63)) := if_pos c61
          rw [e9]
          exact hl
    · skip
      refine lv_iload hx hb dX4_bestStakes_30 (lv_at hl 7 rfl) ?_
      refine lv_iload hx hb dX4_bestStakes_32 (lv_at hl 6 rfl) ?_
      refine n_gt hx hb (by omega) (by omega) 79 dX4_bestStakes_34 (by decide) (fun c34 => ?_) (fun c34 => ?_)
      · skip
        refine lv_lload hx hb dX4_bestStakes_79 (lv_at hl 5 rfl) ?_
        exact ret_Pl hx hb hr hlocks dX4_bestStakes_81 rfl
      · skip
        exact absurd c34 (by omega)
  · skip
    intro K
    refine lv_ldc2 (v := 16) hx hb hown (hts (.constantLong RX4 168 (16)) (by decide +kernel)) dX4_bestStakes_0 ?_
    refine tp_l (show (16 : Int64) = lN 16 from rfl) ?_
    refine lv_aload hx hb dX4_bestStakes_3 (lv_at hl 4 rfl) ?_
    refine lv_iload_n hx hb dX4_bestStakes_5 rfl (lv_at hl 2 rfl) ?_
    refine va_lald hx hb hE.1 hP kb 1 hbf rfl (vp_in_nI (by omega) (by decide)) dX4_bestStakes_6 ?_
    refine tp_l (ldv hf (by omega) hg32) ?_
    refine lv_lmul hx hb dX4_bestStakes_7 ?_
    refine tp_l (lN_mul _ _) ?_
    refine lv_lload_n hx hb dX4_bestStakes_8 rfl (lv_at hl 3 rfl) ?_
    refine W.lcmp hx hb dX4_bestStakes_9 ?_
    refine lv_if_ne (tgt := 17) hx hb dX4_bestStakes_10 (by decide) (fun c10 => ?_) (fun c10 => ?_)
    · skip
      rw [lg_cmp_eq, pk_lEQ (by omega) htop] at c10
      refine lv_lconst (v := lN 0) hx hb dX4_bestStakes_17 rfl ?_
      exact K _ (show _ = if 16 * v q = top then lN 1 else lN 0 by rw [if_neg c10])
    · skip
      rw [lg_cmp_eq, pk_lEQ (by omega) htop] at c10
      refine lv_lconst (v := lN 1) hx hb dX4_bestStakes_13 rfl ?_
      refine lv_goto (tgt := 18) hx hb dX4_bestStakes_14 (by decide) ?_
      exact K _ (show _ = if 16 * v q = top then lN 1 else lN 0 by rw [if_pos c10])
end
section
/-! StakeHouse: a turn over all games; count, trace, stake -/
theorem gameAt_in {E : eT} {ws : va_W} {gr : Nat → Option Nat} {n : Nat} {pl ga gb : Nat → Nat} {gd : Nat → gT} (h : gAll E ws gr n pl ga gb gd) (hn : n ≤ 4) {i : Nat} (hi : i < n) {r : Option Nat} (hr : r = if nI 0 ≤ nI i ∧ nI i ≤ nI n - nI 1 then gr (nI i).toNatClampNeg else none) : r = some (ga i) := by
  rw [hr, if_pos ((nI_gm (by omega)).mpr ⟨i, hi, rfl⟩), nI_clamp (by omega)]
  exact (h i hi).1
theorem gameAt_out {gr : Nat → Option Nat} {n : Nat} {v : Int32} (hn : n ≤ 4) (hv : ¬ ∃ i : Nat, i < n ∧ v = nI i) {r : Option Nat} (hr : r = if nI 0 ≤ v ∧ v ≤ nI n - nI 1 then gr v.toNatClampNeg else none) : r = none := by
  rw [hr, if_neg (fun q => hv ((nI_gm (by omega)).mp q))]
set_option maxHeartbeats 4000000 in
set_option maxRecDepth 100000 in
/-- greatestTurn -/
theorem c_greatestTurn (l : Launch) (E : eT) (ws : va_W) (ad : Nat → Nat) (g hz n : Nat) (mk : Int64) (hX : ws[0]? = some (ad 0, xE ad g hz n mk)) (hg2 : 2 ≤ g) (hg32 : g ≤ 32) (hn : n ≤ 4) (gr : Nat → Option Nat) (hG : ws[1]? = some (ad 1, xGr E gr)) (pl ga gb : Nat → Nat) (gd : Nat → gT) (hGA : gAll E ws gr n pl ga gb gd) (kc ac w0 o0 : Nat) (k0 : Int32) (lo cnt : Nat) (hlc : lo + cnt ≤ n) (hC : ws[kc]? = some (ac, .inr (0, [.int (nI w0), .ref o0, .int (nI lo), .int (nI (lo + cnt)), .int k0]))) (kb ab : Nat) (f : Nat → Int64) (v : Nat → Nat) (hbf : ws[kb]? = some (ab, xJ E 33 f)) (hf : ∀ j, j ≤ g → f j = lN (v j)) (hv : ∀ j, j ≤ g → v j ≤ 2 ^ 49) (q : Nat) (hq : q ≤ g) : mPl l yX4_greatestTurn wsX4_greatestTurn 3 80 E ws [.ref (ad 0), .ref ac, .ref ab, .int (nI q)] (fun r => r = lN (gTurn g gd lo cnt v q)) := by
  refine mP_of (cc := cX4_greatestTurn) (maxL := 8) (ret := (some .long)) (by decide) rfl (Nat.le_of_ble_eq_true rfl) ?_
  intro p0 e0 s m below meth c0 ls hx hb hr hml hts hown hlocks hE hP hl
  have hown : s.vm.findClass RX4 = some m.cls := hown
  have hl : lv_has ls 8 [(0, .ref (ad 0)), (1, .ref ac), (2, .ref ab), (3, .int (nI q))] := hl
  have hinX4 : ∀ w ∈ wsX40, w ∈ wsX4_greatestTurn := by decide +kernel
  have hinX0 : ∀ w ∈ wsX00, w ∈ wsX4_greatestTurn := by decide +kernel
  have hvq := hv q hq
  refine lv_ldc2 (v := 16) hx hb hown (hts (.constantLong RX4 168 (16)) (by decide +kernel)) dX4_greatestTurn_0 ?_
  refine tp_l (show (16 : Int64) = lN 16 from rfl) ?_
  refine lv_aload_n hx hb dX4_greatestTurn_3 rfl (lv_at hl 2 rfl) ?_
  refine lv_iload_n hx hb dX4_greatestTurn_4 rfl (lv_at hl 3 rfl) ?_
  refine va_lald hx hb hE.1 hP kb 1 hbf rfl (vp_in_nI (by omega) (by decide)) dX4_greatestTurn_5 ?_
  refine tp_l (ldv hf (by omega) hg32) ?_
  refine lv_lmul hx hb dX4_greatestTurn_6 ?_
  refine tp_l (lN_mul _ _) ?_
  refine st_l2 hx hb 4 dX4_greatestTurn_7 hl (by decide) rfl (fun ls hl => ?_)
  refine lv_aload_n hx hb dX4_greatestTurn_9 rfl (lv_at hl 0 rfl) ?_
  refine lv_iload_n hx hb dX4_greatestTurn_10 rfl (lv_at hl 3 rfl) ?_
  refine vp_callSi (W.runV ⟨hx, hb, hml, hown, hts⟩ (c_isPlayed l E ws ad g hz n mk hX hg2 _) (cwV 1 hts gX4_greatestTurn_X4_isPlayed rfl rfl rfl (by decide +kernel) ⟨Nat.le_of_ble_eq_true rfl, Nat.le_of_ble_eq_true rfl⟩) (ePu_V hP hE (ci := 4) (k := 0) rfl hX) rfl rfl hl.1 rfl (lv_room (Nat.le_of_ble_eq_true rfl)) dX4_greatestTurn_11 ⟨Nat.zero_le _, Nat.zero_le _⟩) (fun r9 hr9 => ?_)
  subst hr9
  refine q_ne hx hb 20 dX4_greatestTurn_14 (by decide) (fun c14 => ?_) (fun c14 => ?_)
  · skip
    rw [nI_rngI (by omega) (by decide) (by omega)] at c14
    refine lv_aload_n hx hb dX4_greatestTurn_20 rfl (lv_at hl 1 rfl) ?_
    refine va_getN (D := E.1) (ci := 0) (C := RX0) (T := TX0) (N := 5) hx hb hts hinX0 hown hE.1 hP kc hC rfl 2 (by decide) (va_Nw.use rfl (hE.2 (.fieldLinkNest RX4 170 RX0 "first" "I" RX4) (by decide +kernel))) (fun _ h9 => h9) rfl dX4_greatestTurn_21 ?_
    refine st_i2 hx hb 5 dX4_greatestTurn_24 hl (by decide) rfl (fun ls hl => ?_)
    refine wLoop cnt 0 (fun i ls => lv_has ls 8 [(0, .ref (ad 0)), (1, .ref ac), (2, .ref ab), (3, .int (nI q)), (4, .long (lN (gG g gd v q lo i (16 * v q)))), (6, .int (nI (lo + i)))]) (Nat.zero_le _) (fun i ls hi hl ih => ?_) (fun ls hl => ?_) hl
    · skip
      refine lv_iload hx hb dX4_greatestTurn_26 (lv_at hl 5 rfl) ?_
      refine lv_aload_n hx hb dX4_greatestTurn_28 rfl (lv_at hl 1 rfl) ?_
      refine va_getN (D := E.1) (ci := 0) (C := RX0) (T := TX0) (N := 5) hx hb hts hinX0 hown hE.1 hP kc hC rfl 3 (by decide) (va_Nw.use rfl (hE.2 (.fieldLinkNest RX4 173 RX0 "end" "I" RX4) (by decide +kernel))) (fun _ h9 => h9) rfl dX4_greatestTurn_29 ?_
      refine n_ge hx hb (by omega) (by omega) 69 dX4_greatestTurn_32 (by decide) (fun c32 => ?_) (fun c32 => ?_)
      · skip
        exact absurd c32 (by omega)
      · skip
        refine lv_aload_n hx hb dX4_greatestTurn_35 rfl (lv_at hl 0 rfl) ?_
        refine lv_iload hx hb dX4_greatestTurn_36 (lv_at hl 5 rfl) ?_
        refine va_csq (W.runV ⟨hx, hb, hml, hown, hts⟩ (c_gameAt l E ws ad g hz n mk hX hn gr hG _) (cwV 1 hts gX4_greatestTurn_X4_gameAt rfl rfl rfl (by decide +kernel) ⟨Nat.le_of_ble_eq_true rfl, Nat.le_of_ble_eq_true rfl⟩) (ePu_V hP hE (ci := 4) (k := 0) rfl hX) rfl rfl hl.1 rfl (lv_room (Nat.le_of_ble_eq_true rfl)) dX4_greatestTurn_38 ⟨Nat.zero_le _, Nat.zero_le _⟩) (fun r9 hr9 => ?_)
        have hr9 := gameAt_in hGA hn (by omega) hr9
        subst hr9
        refine tp_r (show va_rf (some _) = .ref (ga (lo + i)) from rfl) ?_
        refine st_a2 hx hb 6 dX4_greatestTurn_41 hl (by decide) rfl (fun ls hl => ?_)
        refine lv_aload hx hb dX4_greatestTurn_43 (lv_at hl 6 rfl) ?_
        refine lv_ifnull hx hb dX4_greatestTurn_45 ?_
        refine lv_lload hx hb dX4_greatestTurn_48 (lv_at hl 4 rfl) ?_
        refine lv_aload_n hx hb dX4_greatestTurn_50 rfl (lv_at hl 0 rfl) ?_
        refine lv_aload hx hb dX4_greatestTurn_51 (lv_at hl 6 rfl) ?_
        refine lv_aload_n hx hb dX4_greatestTurn_53 rfl (lv_at hl 2 rfl) ?_
        refine lv_iload_n hx hb dX4_greatestTurn_54 rfl (lv_at hl 3 rfl) ?_
        refine vp_callSl (W.runV ⟨hx, hb, hml, hown, hts⟩ (c_greatestStake l E ws ad g hz n mk hX hg32 (pl (lo + i)) (ga (lo + i)) (gb (lo + i)) (gd (lo + i)) (hGA _ (by omega)).2.2.2 (hGA _ (by omega)).2.1 (hGA _ (by omega)).2.2.1 kb ab f v hbf hf hv q hq) (cwV 3 hts gX4_greatestTurn_X4_greatestStake rfl rfl rfl (by decide +kernel) ⟨Nat.le_of_ble_eq_true rfl, Nat.le_of_ble_eq_true rfl⟩) (ePu_V hP hE (ci := 4) (k := 0) rfl hX) rfl rfl hl.1 rfl (lv_room (Nat.le_of_ble_eq_true rfl)) dX4_greatestTurn_55 ⟨Nat.zero_le _, Nat.zero_le _⟩) (fun r9 hr9 => ?_)
        subst hr9
        have hb1 := gG_le (gd := gd) (lo := lo) (a := 16 * v q) hv hq (by omega) i (fun j hj => (hGA _ (by omega)).2.2.2)
        have hb2 := gS_le (a := 0) (hGA (lo + i) (by omega)).2.2.2 hv hq (Nat.zero_le _) (min q (gL (gd (lo + i))))
        refine va_mmax_long hx hb (hml.trans hl.1.symm) hown (hts (.methodLink RX4 180 Lib.MathLoose.max_long.x) (by decide +kernel)) (hts (.static Lib.MathLoose.max_long.x) (by decide +kernel)) (hts (.initialized "java/lang/Math") (by decide +kernel)) (hts (.code Lib.MathLoose.max_long.x Lib.MathLoose.max_long.code 4 (some .long)) (by decide +kernel)) (Nat.le_of_ble_eq_true rfl) (Nat.le_of_ble_eq_true rfl) (Nat.zero_le _) (Nat.zero_le _) dX4_greatestTurn_58 ?_
        refine tp_l (lN_max2 (by omega) (by omega)) ?_
        refine st_l2 hx hb 4 dX4_greatestTurn_61 hl (by decide) rfl (fun ls hl => ?_)
        refine st_inc hx hb 5 dX4_greatestTurn_63 hl rfl (nI_1 _) (by decide) rfl (fun ls hl => ?_)
        refine lv_goto (tgt := 26) hx hb dX4_greatestTurn_66 (by decide) ?_
        exact ih _ (lv_sub hl [0, 1, 2, 3, 4, 5] rfl)
    · skip
      refine lv_iload hx hb dX4_greatestTurn_26 (lv_at hl 5 rfl) ?_
      refine lv_aload_n hx hb dX4_greatestTurn_28 rfl (lv_at hl 1 rfl) ?_
      refine va_getN (D := E.1) (ci := 0) (C := RX0) (T := TX0) (N := 5) hx hb hts hinX0 hown hE.1 hP kc hC rfl 3 (by decide) (va_Nw.use rfl (hE.2 (.fieldLinkNest RX4 173 RX0 "end" "I" RX4) (by decide +kernel))) (fun _ h9 => h9) rfl dX4_greatestTurn_29 ?_
      refine n_ge hx hb (by omega) (by omega) 69 dX4_greatestTurn_32 (by decide) (fun c32 => ?_) (fun c32 => ?_)
      · skip
        refine lv_lload hx hb dX4_greatestTurn_69 (lv_at hl 4 rfl) ?_
        exact ret_Pl hx hb hr hlocks dX4_greatestTurn_71 (show _ = lN (gTurn g gd lo cnt v q) by unfold gTurn; rw [if_pos (by omega)])
      · skip
        exact absurd c32 (by omega)
  · skip
    rw [nI_rngI (by omega) (by decide) (by omega)] at c14
    refine lv_lload hx hb dX4_greatestTurn_17 (lv_at hl 4 rfl) ?_
    exact ret_Pl hx hb hr hlocks dX4_greatestTurn_19 (show _ = lN (gTurn g gd lo cnt v q) by unfold gTurn; rw [if_neg (by omega)])
def cnt_of (g hz n : Nat) (v : Int32) : Int32 := if v = 0 then nI g else if v = 1 then nI hz else if v = 2 then nI n else -1
set_option maxHeartbeats 4000000 in
set_option maxRecDepth 100000 in
/-- count -/
theorem c_count (l : Launch) (E : eT) (ws : va_W) (ad : Nat → Nat) (g hz n : Nat) (mk : Int64) (hX : ws[0]? = some (ad 0, xE ad g hz n mk)) (v : Int32) : mPi l yX4_count wsX4_count 0 0 E ws [.ref (ad 0), .int v] (fun r => r = cnt_of g hz n v) := by
  refine mP_of (cc := cX4_count) (maxL := 2) (ret := (some .int)) (by decide) rfl (Nat.le_of_ble_eq_true rfl) ?_
  intro p0 e0 s m below meth c0 ls hx hb hr hml hts hown hlocks hE hP hl
  have hown : s.vm.findClass RX4 = some m.cls := hown
  have hl : lv_has ls 2 [(0, .ref (ad 0)), (1, .int v)] := hl
  have hinX4 : ∀ w ∈ wsX40, w ∈ wsX4_count := by decide +kernel
  refine lv_iload_n hx hb dX4_count_0 rfl (lv_at hl 1 rfl) ?_
  by_cases h0 : v = 0
  · skip
    subst h0
    refine lv_tableIn (tgt := 28) hx hb dX4_count_1 (by decide) (by decide) rfl (by decide) ?_
    refine lv_aload_n hx hb dX4_count_28 rfl (lv_at hl 0 rfl) ?_
    refine va_get (D := E.1) (ci := 4) (C := RX4) (T := TX4) (N := 11) hx hb hts hinX4 hown hE.1 hP 0 hX rfl 7 (by decide) (hts (.fieldLink RX4 42 "StakeHouse" "goal" "I") (by decide +kernel)) (fun _ h9 => h9) rfl dX4_count_29 ?_
    exact ret_Pi hx hb hr hlocks dX4_count_32 rfl
  by_cases h1 : v = 1
  · skip
    subst h1
    refine lv_tableIn (tgt := 33) hx hb dX4_count_1 (by decide) (by decide) rfl (by decide) ?_
    refine lv_aload_n hx hb dX4_count_33 rfl (lv_at hl 0 rfl) ?_
    refine va_get (D := E.1) (ci := 4) (C := RX4) (T := TX4) (N := 11) hx hb hts hinX4 hown hE.1 hP 0 hX rfl 8 (by decide) (hts (.fieldLink RX4 46 "StakeHouse" "horizon" "I") (by decide +kernel)) (fun _ h9 => h9) rfl dX4_count_34 ?_
    exact ret_Pi hx hb hr hlocks dX4_count_37 rfl
  by_cases h2 : v = 2
  · skip
    subst h2
    refine lv_tableIn (tgt := 38) hx hb dX4_count_1 (by decide) (by decide) rfl (by decide) ?_
    refine lv_aload_n hx hb dX4_count_38 rfl (lv_at hl 0 rfl) ?_
    refine va_get (D := E.1) (ci := 4) (C := RX4) (T := TX4) (N := 11) hx hb hts hinX4 hown hE.1 hP 0 hX rfl 9 (by decide) (hts (.fieldLink RX4 49 "StakeHouse" "held" "I") (by decide +kernel)) (fun _ h9 => h9) rfl dX4_count_39 ?_
    exact ret_Pi hx hb hr hlocks dX4_count_42 rfl
  have g0 := lv_neT h0 (show (0 : Int32).toInt = 0 from rfl)
  have g1 := lv_neT h1 (show (1 : Int32).toInt = 1 from rfl)
  have g2 := lv_neT h2 (show (2 : Int32).toInt = 2 from rfl)
  refine lv_tableOut (tgt := 43) hx hb dX4_count_1 (by omega) (by decide) ?_
  refine lv_iconst (v := (-1)) hx hb dX4_count_43 (by decide) ?_
  exact ret_Pi hx hb hr hlocks dX4_count_44 (show _ = cnt_of g hz n v by unfold cnt_of; rw [if_neg h0, if_neg h1, if_neg h2])
set_option maxHeartbeats 4000000 in
set_option maxRecDepth 100000 in
/-- trace -/
theorem c_trace (l : Launch) (E : eT) (ws : va_W) (ad : Nat → Nat) (g hz n : Nat) (mk : Int64) (hX : ws[0]? = some (ad 0, xE ad g hz n mk)) : mPl l yX4_trace wsX4_trace 0 0 E ws [.ref (ad 0)] (fun r => r = mk) := by
  refine mP_of (cc := cX4_trace) (maxL := 1) (ret := (some .long)) (by decide) rfl (Nat.le_of_ble_eq_true rfl) ?_
  intro p0 e0 s m below meth c0 ls hx hb hr hml hts hown hlocks hE hP hl
  have hown : s.vm.findClass RX4 = some m.cls := hown
  have hl : lv_has ls 1 [(0, .ref (ad 0))] := hl
  have hinX4 : ∀ w ∈ wsX40, w ∈ wsX4_trace := by decide +kernel
  refine lv_aload_n hx hb dX4_trace_0 rfl (lv_at hl 0 rfl) ?_
  refine va_get (D := E.1) (ci := 4) (C := RX4) (T := TX4) (N := 11) hx hb hts hinX4 hown hE.1 hP 0 hX rfl 10 (by decide) (hts (.fieldLink RX4 52 "StakeHouse" "marks" "J") (by decide +kernel)) (fun _ h9 => h9) rfl dX4_trace_1 ?_
  exact ret_Pl hx hb hr hlocks dX4_trace_4 rfl
/-- stake's answer -/
def stk_of (g n : Nat) (gd : Nat → gT) (td : Nat → Nat) (pv iv qv : Int32) (r : Int32) : Prop := (∀ (p i q : Nat), pv = nI p → iv = nI i → qv = nI q → p ≤ 2 → i < n → 1 ≤ q → q < g → r = nI (gPl g (gd i) td p q 0)) ∧ ((¬ ∃ (p i q : Nat), pv = nI p ∧ iv = nI i ∧ qv = nI q ∧ p ≤ 2 ∧ i < n ∧ 1 ≤ q ∧ q < g) → r = -1)
theorem stk_no {g n : Nat} {gd : Nat → gT} {td : Nat → Nat} {pv iv qv : Int32} (h : ¬ ∃ (p i q : Nat), pv = nI p ∧ iv = nI i ∧ qv = nI q ∧ p ≤ 2 ∧ i < n ∧ 1 ≤ q ∧ q < g) : stk_of g n gd td pv iv qv (-1) := ⟨fun p i q e1 e2 e3 h1 h2 h3 h4 => absurd ⟨p, i, q, e1, e2, e3, h1, h2, h3, h4⟩ h, fun _ => rfl⟩
theorem stk_yes {g n : Nat} {gd : Nat → gT} {td : Nat → Nat} {p i q : Nat} (hg : g ≤ 32) (hn : n ≤ 4) (h1 : p ≤ 2) (h2 : i < n) (h3 : 1 ≤ q) (h4 : q < g) : stk_of g n gd td (nI p) (nI i) (nI q) (nI (gPl g (gd i) td p q 0)) := by
  refine ⟨fun p' i' q' e1 e2 e3 g1 g2 g3 g4 => ?_, fun h => absurd ⟨p, i, q, rfl, rfl, rfl, h1, h2, h3, h4⟩ h⟩
  rw [nI_eq (by omega) (by omega)] at e1 e2 e3
  rw [e1, e2, e3]
set_option maxHeartbeats 4000000 in
set_option maxRecDepth 100000 in
/-- stake -/
theorem c_stake (l : Launch) (E : eT) (ws : va_W) (ad : Nat → Nat) (g hz n : Nat) (mk : Int64) (hX : ws[0]? = some (ad 0, xE ad g hz n mk)) (hg2 : 2 ≤ g) (hg32 : g ≤ 32) (hn : n ≤ 4) (gr : Nat → Option Nat) (hG : ws[1]? = some (ad 1, xGr E gr)) (pl ga gb : Nat → Nat) (gd : Nat → gT) (hGA : gAll E ws gr n pl ga gb gd) (td : Nat → Nat) (htd : ws[2]? = some (ad 2, xI E 33 (fun j => nI (td j)))) (htd2 : ∀ j, td j ≤ 32) (pv iv qv : Int32) : mPi l yX4_stake wsX4_stake 4 110 E ws [.ref (ad 0), .int pv, .int iv, .int qv] (stk_of g n gd td pv iv qv) := by
  refine mP_of (cc := cX4_stake) (maxL := 5) (ret := (some .int)) (by decide) rfl (Nat.le_of_ble_eq_true rfl) ?_
  intro p0 e0 s m below meth c0 ls hx hb hr hml hts hown hlocks hE hP hl
  have hown : s.vm.findClass RX4 = some m.cls := hown
  have hl : lv_has ls 5 [(0, .ref (ad 0)), (1, .int pv), (2, .int iv), (3, .int qv)] := hl
  have hinX4 : ∀ w ∈ wsX40, w ∈ wsX4_stake := by decide +kernel
  refine lv_aload_n hx hb dX4_stake_0 rfl (lv_at hl 0 rfl) ?_
  refine lv_iload_n hx hb dX4_stake_1 rfl (lv_at hl 2 rfl) ?_
  refine va_csq (W.runV ⟨hx, hb, hml, hown, hts⟩ (c_gameAt l E ws ad g hz n mk hX hn gr hG _) (cwV 1 hts gX4_stake_X4_gameAt rfl rfl rfl (by decide +kernel) ⟨Nat.le_of_ble_eq_true rfl, Nat.le_of_ble_eq_true rfl⟩) (ePu_V hP hE (ci := 4) (k := 0) rfl hX) rfl rfl hl.1 rfl (lv_room (Nat.le_of_ble_eq_true rfl)) dX4_stake_2 ⟨Nat.zero_le _, Nat.zero_le _⟩) (fun r9 hr9 => ?_)
  by_cases hi9 : ∃ i : Nat, i < n ∧ iv = nI i
  · skip
    obtain ⟨i, hi, rfl⟩ := hi9
    have hr9 := gameAt_in hGA hn hi hr9
    subst hr9
    refine tp_r (show va_rf (some _) = .ref (ga i) from rfl) ?_
    refine st_a2 hx hb 4 dX4_stake_5 hl (by decide) rfl (fun ls hl => ?_)
    refine lv_aload hx hb dX4_stake_7 (lv_at hl 4 rfl) ?_
    refine lv_ifnull hx hb dX4_stake_9 ?_
    refine lv_iload_n hx hb dX4_stake_12 rfl (lv_at hl 1 rfl) ?_
    refine lv_iconst (v := nI 0) hx hb dX4_stake_13 (by decide) ?_
    refine lv_iconst (v := nI 2) hx hb dX4_stake_14 (by decide) ?_
    refine vp_callSi (W.runS ⟨hx, hb, hml, hown, hts⟩ (c_within l E ws _ _ _) (va_cwS 3 hts gX4_stake_X4_within rfl rfl rfl (by decide +kernel) ⟨Nat.le_of_ble_eq_true rfl, Nat.le_of_ble_eq_true rfl⟩) (ePu_S hP hE) rfl rfl hl.1 rfl (lv_room (Nat.le_of_ble_eq_true rfl)) dX4_stake_15 ⟨Nat.zero_le _, Nat.zero_le _⟩) (fun r9 hr9 => ?_)
    subst hr9
    refine q_eq hx hb 29 dX4_stake_18 (by decide) (fun c18 => ?_) (fun c18 => ?_)
    · skip
      refine lv_iconst (v := (-1)) hx hb dX4_stake_29 (by decide) ?_
      exact ret_Pi hx hb hr hlocks dX4_stake_30 (stk_no (fun ⟨p, i, q, e1, e2, e3, g1, g2, g3, g4⟩ => c18 (by rw [e1]; exact (nI_rngI (by omega) (by decide) (by decide)).mpr ⟨by omega, g1⟩)))
    · skip
      obtain ⟨p, -, hp2, rfl⟩ := nI_rng (by decide) c18 (by decide)
      refine lv_aload_n hx hb dX4_stake_21 rfl (lv_at hl 0 rfl) ?_
      refine lv_iload_n hx hb dX4_stake_22 rfl (lv_at hl 3 rfl) ?_
      refine vp_callSi (W.runV ⟨hx, hb, hml, hown, hts⟩ (c_isPlayed l E ws ad g hz n mk hX hg2 _) (cwV 1 hts gX4_stake_X4_isPlayed rfl rfl rfl (by decide +kernel) ⟨Nat.le_of_ble_eq_true rfl, Nat.le_of_ble_eq_true rfl⟩) (ePu_V hP hE (ci := 4) (k := 0) rfl hX) rfl rfl hl.1 rfl (lv_room (Nat.le_of_ble_eq_true rfl)) dX4_stake_23 ⟨Nat.zero_le _, Nat.zero_le _⟩) (fun r9 hr9 => ?_)
      subst hr9
      refine q_ne hx hb 31 dX4_stake_26 (by decide) (fun c26 => ?_) (fun c26 => ?_)
      · skip
        obtain ⟨q, hq1, hq2, rfl⟩ := nI_rng (by omega) c26 (by decide)
        refine lv_aload_n hx hb dX4_stake_31 rfl (lv_at hl 0 rfl) ?_
        refine lv_iload_n hx hb dX4_stake_32 rfl (lv_at hl 1 rfl) ?_
        refine lv_aload hx hb dX4_stake_33 (lv_at hl 4 rfl) ?_
        refine lv_iload_n hx hb dX4_stake_35 rfl (lv_at hl 3 rfl) ?_
        refine lv_iconst (v := nI 0) hx hb dX4_stake_36 (by decide) ?_
        refine vp_callSi (W.runV ⟨hx, hb, hml, hown, hts⟩ (c_planned l E ws ad g hz n mk hX hg32 (pl i) (ga i) (gb i) (gd i) (hGA _ hi).2.2.2 (hGA _ hi).2.1 (hGA _ hi).2.2.1 td htd htd2 p q 0 (by omega) (by decide) hq1 (by omega)) (cwV 4 hts gX4_stake_X4_planned rfl rfl rfl (by decide +kernel) ⟨Nat.le_of_ble_eq_true rfl, Nat.le_of_ble_eq_true rfl⟩) (ePu_V hP hE (ci := 4) (k := 0) rfl hX) rfl rfl hl.1 rfl (lv_room (Nat.le_of_ble_eq_true rfl)) dX4_stake_37 ⟨Nat.zero_le _, Nat.zero_le _⟩) (fun r9 hr9 => ?_)
        subst hr9
        exact ret_Pi hx hb hr hlocks dX4_stake_40 (stk_yes hg32 hn hp2 hi hq1 (by omega))
      · skip
        refine lv_iconst (v := (-1)) hx hb dX4_stake_29 (by decide) ?_
        exact ret_Pi hx hb hr hlocks dX4_stake_30 (stk_no (fun ⟨p, i, q, e1, e2, e3, g1, g2, g3, g4⟩ => c26 (by rw [e3]; exact (nI_rngI (by omega) (by decide) (by omega)).mpr ⟨g3, by omega⟩)))
  · skip
    have hr9 := gameAt_out hn hi9 hr9
    subst hr9
    refine tp_r (show va_rf none = .null from rfl) ?_
    refine lv_astoreN hx hb dX4_stake_5 hl (by decide) rfl (fun ls hl => ?_)
    refine lv_aloadN hx hb dX4_stake_7 (lv_at hl 0 rfl) ?_
    refine lv_ifnullN (tgt := 29) hx hb dX4_stake_9 (by decide) ?_
    refine lv_iconst (v := (-1)) hx hb dX4_stake_29 (by decide) ?_
    exact ret_Pi hx hb hr hlocks dX4_stake_30 (stk_no (fun ⟨p, i, q, e1, e2, e3, g1, g2, g3, g4⟩ => hi9 ⟨i, g2, e2⟩))
end
section
/-! THE WORLD OF THE CLASS: its places, and what a store makes of it -/
theorem vu_self {α : Type} (f : Nat → α) (k : Nat) : va_up f k (f k) = f := by
  funext j
  unfold va_up
  split
  · rename_i h; rw [h]
  · rfl
theorem vu_at {α : Type} (f : Nat → α) (k : Nat) (v : α) : va_up f k v k = v := if_pos rfl
theorem vu_no {α : Type} {f : Nat → α} {k j : Nat} {v : α} (h : j ≠ k) : va_up f k v j = f j := if_neg h
theorem xR_at {ad : Nat → Nat} {c i : Nat} (hi : i < 13) : va_rf (xR ad c (nI i).toNatClampNeg) = .ref (ad (13 + (13 * c + i))) := by
  rw [nI_clamp (by omega)]
  show va_rf (if i < 13 then _ else _) = _
  rw [if_pos hi]
  rfl
theorem xW2_at {ad : Nat → Nat} {i : Nat} (hi : i < 2) : va_rf (xW2 ad (nI i).toNatClampNeg) = .ref (ad (8 + i)) := by
  rw [nI_clamp (by omega)]
  show va_rf (if i < 2 then _ else _) = _
  rw [if_pos hi]
  rfl
section XW
variable {E : eT} {ad : Nat → Nat} {g hz n : Nat} {mk : Int64} {td : Nat → Int32} {gr : Nat → Option Nat} {cf ce ck : Nat → Nat} {rv : Nat → Nat → Int64} {st : Nat → Int32} {wo : Nat → Nat → Int64} {rest : va_W}
theorem wX_len : (wX E ad g hz n mk td gr cf ce ck rv st wo).length = 52 := by simp [wX]
theorem wX_C {c : Nat} (hc : c < 3) : (wX E ad g hz n mk td gr cf ce ck rv st wo ++ rest)[3 + c]? = some (ad (3 + c), xC ad cf ce ck c) := by
  rcases (show c = 0 ∨ c = 1 ∨ c = 2 by omega) with rfl | rfl | rfl <;> rfl
theorem wX_O {c : Nat} (hc : c < 3) : (wX E ad g hz n mk td gr cf ce ck rv st wo ++ rest)[10 + c]? = some (ad (10 + c), xO E 13 (xR ad c)) := by
  rcases (show c = 0 ∨ c = 1 ∨ c = 2 by omega) with rfl | rfl | rfl <;> rfl
theorem wX_W {b : Nat} (hb : b < 2) : (wX E ad g hz n mk td gr cf ce ck rv st wo ++ rest)[8 + b]? = some (ad (8 + b), xJ E 198 (wo b)) := by
  rcases (show b = 0 ∨ b = 1 by omega) with rfl | rfl <;> rfl
theorem wX_R {j : Nat} (hj : j < 39) : (wX E ad g hz n mk td gr cf ce ck rv st wo ++ rest)[13 + j]? = some (ad (13 + j), xJ E 33 (rv j)) := by
  rw [List.getElem?_append_left (by rw [wX_len]; omega)]
  unfold wX
  rw [List.getElem?_append_right (by simp)]
  simp [hj]
theorem wX_rest {k : Nat} : (wX E ad g hz n mk td gr cf ce ck rv st wo ++ rest)[52 + k]? = rest[k]? := by
  rw [List.getElem?_append_right (by rw [wX_len]; omega), wX_len]
  congr 1
  omega
theorem wX_setC {c f t k : Nat} (hc : c < 3) : (wX E ad g hz n mk td gr cf ce ck rv st wo ++ rest).set (3 + c) (ad (3 + c), .inr (0, [.int (nI (if c = 1 then 2 else 0)), .ref (ad (10 + c)), .int (nI f), .int (nI t), .int (nI k)])) = wX E ad g hz n mk td gr (va_up cf c f) (va_up ce c t) (va_up ck c k) rv st wo ++ rest := by
  rcases (show c = 0 ∨ c = 1 ∨ c = 2 by omega) with rfl | rfl | rfl <;> rfl
theorem wX_setCk {c k : Nat} (hc : c < 3) : (wX E ad g hz n mk td gr cf ce ck rv st wo ++ rest).set (3 + c) (ad (3 + c), .inr (0, [.int (nI (if c = 1 then 2 else 0)), .ref (ad (10 + c)), .int (nI (cf c)), .int (nI (ce c)), .int (nI k)])) = wX E ad g hz n mk td gr cf ce (va_up ck c k) rv st wo ++ rest := by
  rcases (show c = 0 ∨ c = 1 ∨ c = 2 by omega) with rfl | rfl | rfl <;> rfl
theorem wX_setW {b : Nat} {f : Nat → Int64} (hb : b < 2) : (wX E ad g hz n mk td gr cf ce ck rv st wo ++ rest).set (8 + b) (ad (8 + b), xJ E 198 f) = wX E ad g hz n mk td gr cf ce ck rv st (va_up wo b f) ++ rest := by
  rcases (show b = 0 ∨ b = 1 by omega) with rfl | rfl <;> rfl
theorem set_map_range {α : Type} (F : Nat → α) (x : α) : ∀ (N j : Nat), j < N → ((List.range N).map F).set j x = (List.range N).map (va_up F j x) := by
  intro N j hj
  apply List.ext_getElem?
  intro k
  rw [List.getElem?_set]
  by_cases h : j = k
  · subst h
    simp [hj, va_up]
  · rw [if_neg h]
    by_cases hk : k < N
    · simp [hk, va_up, Ne.symm h]
    · simp [hk]
theorem wX_setR {j : Nat} {f : Nat → Int64} (hj : j < 39) : (wX E ad g hz n mk td gr cf ce ck rv st wo ++ rest).set (13 + j) (ad (13 + j), xJ E 33 f) = wX E ad g hz n mk td gr cf ce ck (va_up rv j f) st wo ++ rest := by
  rw [List.set_append_left _ _ (by rw [wX_len]; omega)]
  congr 1
  unfold wX
  rw [List.set_append_right _ _ (by simp)]
  congr 1
  rw [show 13 + j - _ = j from by simp, set_map_range _ _ _ _ hj]
  apply List.map_congr_left
  intro k _
  unfold va_up
  split
  · rename_i h; subst h; rfl
  · rfl
theorem gAll_of {pl ga gb : Nat → Nat} {gd : Nat → gT} {N : Nat} (h : gAll E rest gr N pl ga gb gd) : gAll E (wX E ad g hz n mk td gr cf ce ck rv st wo ++ rest) gr N (fun i => 52 + pl i) ga gb gd := by
  intro i hi
  obtain ⟨h1, h2, h3, h4⟩ := h i hi
  refine ⟨h1, ?_, ?_, h4⟩
  · rw [wX_rest]; exact h2
  · rw [show 52 + pl i + 1 = 52 + (pl i + 1) by omega, wX_rest]; exact h3
end XW
theorem set_same {α : Type} : ∀ (l : List α) (k : Nat) (x : α), l[k]? = some x → l.set k x = l := by
  intro l k x h
  apply List.ext_getElem?
  intro j
  rw [List.getElem?_set]
  split
  · rename_i e; subst e
    have := (List.getElem?_eq_some_iff.mp h).1
    rw [if_pos this, h]
  · rfl
/-- what a row holds beyond its length doesn't matter -/
theorem va_P_re {D : va_G} {cl : List vw_C} {ws : va_W} {H : Heap} {k a : Nat} {e e' : va_E} (hP : va_P D cl ws H) (hk : ws[k]? = some (a, e)) (he : va_at D cl (a, e) H → va_at D cl (a, e') H) : va_P D cl (ws.set k (a, e')) H := by
  intro j q hq
  rw [List.getElem?_set] at hq
  split at hq
  · split at hq
    · cases hq
      exact he (hP k _ hk)
    · cases hq
  · exact hP j q hq
theorem arrV_congr (c : ClassId) {N : Nat} {f f' : Nat → Value} (h : ∀ j, j < N → f j = f' j) : arrV c N f = arrV c N f' := by
  unfold arrV
  congr 2
  funext j
  exact h j.val j.isLt
theorem xI_congr {D : va_G} {cl : List vw_C} {H : Heap} {a : Nat} {E : eT} {n : Nat} {f f' : Nat → Int32} (h : ∀ j, j < n → f j = f' j) (hP : va_at D cl (a, xI E n f) H) : va_at D cl (a, xI E n f') H := by
  have e : vp_cell (E.2 0) (n, .inl f) = vp_cell (E.2 0) (n, .inl f') := by
    rw [vp_cell_i, vp_cell_i]
    exact arrV_congr _ (fun j hj => by rw [h j hj])
  exact Eq.trans hP (congrArg some e)
theorem xJ_congr {D : va_G} {cl : List vw_C} {H : Heap} {a : Nat} {E : eT} {n : Nat} {f f' : Nat → Int64} (h : ∀ j, j < n → f j = f' j) (hP : va_at D cl (a, xJ E n f) H) : va_at D cl (a, xJ E n f') H := by
  have e : vp_cell (E.2 1) (n, .inr (.inl f)) = vp_cell (E.2 1) (n, .inr (.inl f')) := by
    rw [vp_cell_l, vp_cell_l]
    exact arrV_congr _ (fun j hj => by rw [h j hj])
  exact Eq.trans hP (congrArg some e)
theorem upd_nI {td : Nat → Nat} {k v : Nat} : upd (fun j => nI (td j)) k (nI v) = fun j => nI (va_up td k v j) := by
  funext j
  unfold upd va_up
  split <;> rfl
end
section
/-! writers: charts forgotten and covered; goal, horizon, told numbers; drop -/
set_option maxHeartbeats 4000000 in
set_option maxRecDepth 100000 in
/-- Chart.forget -/
theorem c_forget (l : Launch) (E : eT) (ws : va_W) (kc ac : Nat) (v0 v1 v2 v3 v4 : Value) (hC : ws[kc]? = some (ac, .inr (0, [v0, v1, v2, v3, v4]))) : mWv l yX0_forget wsX0_forget 0 0 0 0 E (ws) [.ref ac] (fun ws1 => ws1 = ws.set kc (ac, .inr (0, [v0, v1, v2, v3, .int (nI 0)]))) := by
  intro sz
  refine mW_of (cc := cX0_forget) (maxL := 1) (ret := none) (Qc := fun sz => va_Qv (fun ws1 => ws1 = ws.set kc (ac, .inr (0, [v0, v1, v2, v3, .int (nI 0)]))) (eAt E (va_A (ws) sz)) (va_A (ws) sz)) (by decide) rfl (Nat.le_of_ble_eq_true rfl) ?_
  intro p0 e0 s m below meth c0 ls hx hb hr hml hts hown hlocks hin hE hP hD hl
  have hS : va_S (va_A (ws) s.heap.size) s.heap s.heap [] := va_S.rf
  have hA : ∀ q, s.heap.size ≤ q → (va_A (ws) s.heap.size) q := fun q h => Or.inr h
  have hown : s.vm.findClass RX0 = some m.cls := hown
  have hl : lv_has ls 1 [(0, .ref ac)] := hl
  have hinX0 : ∀ w ∈ wsX00, w ∈ wsX0_forget := by decide +kernel
  refine lv_aload_n hx hb dX0_forget_0 rfl (lv_at hl 0 rfl) ?_
  refine lv_iconst (v := nI 0) hx hb dX0_forget_1 (by decide) ?_
  refine va_put (D := E.1) (ci := 0) (ty := .int) (C := RX0) (T := TX0) (N := 5) hx hb hts hinX0 tyX0 tyX0_ok nmX0 hown hE.1 hP hD hS kc hC rfl 4 (by decide) (hts (.fieldLink RX0 23 "StakeHouse$Chart" "known" "I") (by decide +kernel)) (fun _ h9 => h9) rfl (by decide +kernel) rfl rfl (Nat.le_of_ble_eq_true rfl) dX0_forget_2 (fun H locs hP hD hS => ?_)
  exact ret_Wv hx hb hr hlocks dX0_forget_5 hP hD hS rfl
set_option maxHeartbeats 4000000 in
set_option maxRecDepth 100000 in
/-- Chart.cover -/
theorem c_cover (l : Launch) (E : eT) (ws : va_W) (kc ac w0 o0 f0 t0 k0 f t : Nat) (hf0 : f0 < 2 ^ 31) (ht0 : t0 < 2 ^ 31) (hf : f < 2 ^ 31) (ht : t < 2 ^ 31) (hC : ws[kc]? = some (ac, .inr (0, [.int (nI w0), .ref o0, .int (nI f0), .int (nI t0), .int (nI k0)]))) : mWv l yX0_cover wsX0_cover 0 0 0 0 E (ws) [.ref ac, .int (nI f), .int (nI t)] (fun ws1 => (f = f0 ∧ t = t0 ∧ ws1 = ws) ∨ (¬ (f = f0 ∧ t = t0) ∧ ws1 = ws.set kc (ac, .inr (0, [.int (nI w0), .ref o0, .int (nI f), .int (nI t), .int (nI 0)])))) := by
  intro sz
  refine mW_of (cc := cX0_cover) (maxL := 3) (ret := none) (Qc := fun sz => va_Qv (fun ws1 => (f = f0 ∧ t = t0 ∧ ws1 = ws) ∨ (¬ (f = f0 ∧ t = t0) ∧ ws1 = ws.set kc (ac, .inr (0, [.int (nI w0), .ref o0, .int (nI f), .int (nI t), .int (nI 0)])))) (eAt E (va_A (ws) sz)) (va_A (ws) sz)) (by decide) rfl (Nat.le_of_ble_eq_true rfl) ?_
  intro p0 e0 s m below meth c0 ls hx hb hr hml hts hown hlocks hin hE hP hD hl
  have hS : va_S (va_A (ws) s.heap.size) s.heap s.heap [] := va_S.rf
  have hA : ∀ q, s.heap.size ≤ q → (va_A (ws) s.heap.size) q := fun q h => Or.inr h
  have hown : s.vm.findClass RX0 = some m.cls := hown
  have hl : lv_has ls 3 [(0, .ref ac), (1, .int (nI f)), (2, .int (nI t))] := hl
  have hinX0 : ∀ w ∈ wsX00, w ∈ wsX0_cover := by decide +kernel
  refine lv_iload_n hx hb dX0_cover_0 rfl (lv_at hl 1 rfl) ?_
  refine lv_aload_n hx hb dX0_cover_1 rfl (lv_at hl 0 rfl) ?_
  refine va_get (D := E.1) (ci := 0) (C := RX0) (T := TX0) (N := 5) hx hb hts hinX0 hown hE.1 hP kc hC rfl 2 (by decide) (hts (.fieldLink RX0 16 "StakeHouse$Chart" "first" "I") (by decide +kernel)) (fun _ h9 => h9) rfl dX0_cover_2 ?_
  refine n_ne hx hb (by omega) (by omega) 16 dX0_cover_5 (by decide) (fun c5 => ?_) (fun c5 => ?_)
  · skip
    have hlen : kc < ws.length := (List.getElem?_eq_some_iff.mp hC).1
    refine lv_aload_n hx hb dX0_cover_16 rfl (lv_at hl 0 rfl) ?_
    refine lv_iload_n hx hb dX0_cover_17 rfl (lv_at hl 1 rfl) ?_
    refine va_put (D := E.1) (ci := 0) (ty := .int) (C := RX0) (T := TX0) (N := 5) hx hb hts hinX0 tyX0 tyX0_ok nmX0 hown hE.1 hP hD hS kc hC rfl 2 (by decide) (hts (.fieldLink RX0 16 "StakeHouse$Chart" "first" "I") (by decide +kernel)) (fun _ h9 => h9) rfl (by decide +kernel) rfl rfl (Nat.le_of_ble_eq_true rfl) dX0_cover_18 (fun H locs hP hD hS => ?_)
    have hP : va_P E.1 vwCl (ws.set kc (ac, .inr (0, [.int (nI w0), .ref o0, .int (nI f), .int (nI t0), .int (nI k0)]))) H := hP
    have hD : va_D (va_A (ws) s.heap.size) (ws.set kc (ac, .inr (0, [.int (nI w0), .ref o0, .int (nI f), .int (nI t0), .int (nI k0)]))) := hD
    refine lv_aload_n hx hb dX0_cover_21 rfl (lv_at hl 0 rfl) ?_
    refine lv_iload_n hx hb dX0_cover_22 rfl (lv_at hl 2 rfl) ?_
    refine va_put (D := E.1) (ci := 0) (ty := .int) (C := RX0) (T := TX0) (N := 5) hx hb hts hinX0 tyX0 tyX0_ok nmX0 hown hE.1 hP hD hS kc (List.getElem?_set_self hlen) rfl 3 (by decide) (hts (.fieldLink RX0 20 "StakeHouse$Chart" "end" "I") (by decide +kernel)) (fun _ h9 => h9) rfl (by decide +kernel) rfl rfl (Nat.le_of_ble_eq_true rfl) dX0_cover_23 (fun H locs hP hD hS => ?_)
    have hP : va_P E.1 vwCl (ws.set kc (ac, .inr (0, [.int (nI w0), .ref o0, .int (nI f), .int (nI t), .int (nI k0)]))) H := (by rw [List.set_set] at hP; exact hP)
    have hD : va_D (va_A (ws) s.heap.size) (ws.set kc (ac, .inr (0, [.int (nI w0), .ref o0, .int (nI f), .int (nI t), .int (nI k0)]))) := (by rw [List.set_set] at hD; exact hD)
    refine lv_aload_n hx hb dX0_cover_26 rfl (lv_at hl 0 rfl) ?_
    refine lv_iconst (v := nI 0) hx hb dX0_cover_27 (by decide) ?_
    refine va_put (D := E.1) (ci := 0) (ty := .int) (C := RX0) (T := TX0) (N := 5) hx hb hts hinX0 tyX0 tyX0_ok nmX0 hown hE.1 hP hD hS kc (List.getElem?_set_self hlen) rfl 4 (by decide) (hts (.fieldLink RX0 23 "StakeHouse$Chart" "known" "I") (by decide +kernel)) (fun _ h9 => h9) rfl (by decide +kernel) rfl rfl (Nat.le_of_ble_eq_true rfl) dX0_cover_28 (fun H locs hP hD hS => ?_)
    have hP : va_P E.1 vwCl (ws.set kc (ac, .inr (0, [.int (nI w0), .ref o0, .int (nI f), .int (nI t), .int (nI 0)]))) H := (by rw [List.set_set] at hP; exact hP)
    have hD : va_D (va_A (ws) s.heap.size) (ws.set kc (ac, .inr (0, [.int (nI w0), .ref o0, .int (nI f), .int (nI t), .int (nI 0)]))) := (by rw [List.set_set] at hD; exact hD)
    exact ret_Wv hx hb hr hlocks dX0_cover_31 hP hD hS (Or.inr ⟨fun q => c5 q.1, rfl⟩)
  · skip
    refine lv_iload_n hx hb dX0_cover_8 rfl (lv_at hl 2 rfl) ?_
    refine lv_aload_n hx hb dX0_cover_9 rfl (lv_at hl 0 rfl) ?_
    refine va_get (D := E.1) (ci := 0) (C := RX0) (T := TX0) (N := 5) hx hb hts hinX0 hown hE.1 hP kc hC rfl 3 (by decide) (hts (.fieldLink RX0 20 "StakeHouse$Chart" "end" "I") (by decide +kernel)) (fun _ h9 => h9) rfl dX0_cover_10 ?_
    refine n_eq hx hb (by omega) (by omega) 31 dX0_cover_13 (by decide) (fun c13 => ?_) (fun c13 => ?_)
    · skip
      exact ret_Wv hx hb hr hlocks dX0_cover_31 hP hD hS (Or.inl ⟨c5, c13, rfl⟩)
    · skip
      have hlen : kc < ws.length := (List.getElem?_eq_some_iff.mp hC).1
      refine lv_aload_n hx hb dX0_cover_16 rfl (lv_at hl 0 rfl) ?_
      refine lv_iload_n hx hb dX0_cover_17 rfl (lv_at hl 1 rfl) ?_
      refine va_put (D := E.1) (ci := 0) (ty := .int) (C := RX0) (T := TX0) (N := 5) hx hb hts hinX0 tyX0 tyX0_ok nmX0 hown hE.1 hP hD hS kc hC rfl 2 (by decide) (hts (.fieldLink RX0 16 "StakeHouse$Chart" "first" "I") (by decide +kernel)) (fun _ h9 => h9) rfl (by decide +kernel) rfl rfl (Nat.le_of_ble_eq_true rfl) dX0_cover_18 (fun H locs hP hD hS => ?_)
      have hP : va_P E.1 vwCl (ws.set kc (ac, .inr (0, [.int (nI w0), .ref o0, .int (nI f), .int (nI t0), .int (nI k0)]))) H := hP
      have hD : va_D (va_A (ws) s.heap.size) (ws.set kc (ac, .inr (0, [.int (nI w0), .ref o0, .int (nI f), .int (nI t0), .int (nI k0)]))) := hD
      refine lv_aload_n hx hb dX0_cover_21 rfl (lv_at hl 0 rfl) ?_
      refine lv_iload_n hx hb dX0_cover_22 rfl (lv_at hl 2 rfl) ?_
      refine va_put (D := E.1) (ci := 0) (ty := .int) (C := RX0) (T := TX0) (N := 5) hx hb hts hinX0 tyX0 tyX0_ok nmX0 hown hE.1 hP hD hS kc (List.getElem?_set_self hlen) rfl 3 (by decide) (hts (.fieldLink RX0 20 "StakeHouse$Chart" "end" "I") (by decide +kernel)) (fun _ h9 => h9) rfl (by decide +kernel) rfl rfl (Nat.le_of_ble_eq_true rfl) dX0_cover_23 (fun H locs hP hD hS => ?_)
      have hP : va_P E.1 vwCl (ws.set kc (ac, .inr (0, [.int (nI w0), .ref o0, .int (nI f), .int (nI t), .int (nI k0)]))) H := (by rw [List.set_set] at hP; exact hP)
      have hD : va_D (va_A (ws) s.heap.size) (ws.set kc (ac, .inr (0, [.int (nI w0), .ref o0, .int (nI f), .int (nI t), .int (nI k0)]))) := (by rw [List.set_set] at hD; exact hD)
      refine lv_aload_n hx hb dX0_cover_26 rfl (lv_at hl 0 rfl) ?_
      refine lv_iconst (v := nI 0) hx hb dX0_cover_27 (by decide) ?_
      refine va_put (D := E.1) (ci := 0) (ty := .int) (C := RX0) (T := TX0) (N := 5) hx hb hts hinX0 tyX0 tyX0_ok nmX0 hown hE.1 hP hD hS kc (List.getElem?_set_self hlen) rfl 4 (by decide) (hts (.fieldLink RX0 23 "StakeHouse$Chart" "known" "I") (by decide +kernel)) (fun _ h9 => h9) rfl (by decide +kernel) rfl rfl (Nat.le_of_ble_eq_true rfl) dX0_cover_28 (fun H locs hP hD hS => ?_)
      have hP : va_P E.1 vwCl (ws.set kc (ac, .inr (0, [.int (nI w0), .ref o0, .int (nI f), .int (nI t), .int (nI 0)]))) H := (by rw [List.set_set] at hP; exact hP)
      have hD : va_D (va_A (ws) s.heap.size) (ws.set kc (ac, .inr (0, [.int (nI w0), .ref o0, .int (nI f), .int (nI t), .int (nI 0)]))) := (by rw [List.set_set] at hD; exact hD)
      exact ret_Wv hx hb hr hlocks dX0_cover_31 hP hD hS (Or.inr ⟨fun q => c13 q.2, rfl⟩)
set_option maxHeartbeats 4000000 in
set_option maxRecDepth 100000 in
/-- forgetCharts -/
theorem c_forgetCharts (l : Launch) (E : eT) (ad : Nat → Nat) (g hz n : Nat) (mk : Int64) (td : Nat → Int32) (gr : Nat → Option Nat) (cf ce ck : Nat → Nat) (rv : Nat → Nat → Int64) (st : Nat → Int32) (wo : Nat → Nat → Int64) (rest : va_W) : mWv l yX4_forgetCharts wsX4_forgetCharts 1 22 0 0 E (wX E ad g hz n mk td gr cf ce ck rv st wo ++ rest) [.ref (ad 0)] (fun ws1 => ws1 = wX E ad g hz n mk td gr cf ce (fun _ => 0) rv st wo ++ rest) := by
  intro sz
  refine mW_of (cc := cX4_forgetCharts) (maxL := 1) (ret := none) (Qc := fun sz => va_Qv (fun ws1 => ws1 = wX E ad g hz n mk td gr cf ce (fun _ => 0) rv st wo ++ rest) (eAt E (va_A (wX E ad g hz n mk td gr cf ce ck rv st wo ++ rest) sz)) (va_A (wX E ad g hz n mk td gr cf ce ck rv st wo ++ rest) sz)) (by decide) rfl (Nat.le_of_ble_eq_true rfl) ?_
  intro p0 e0 s m below meth c0 ls hx hb hr hml hts hown hlocks hin hE hP hD hl
  have hS : va_S (va_A (wX E ad g hz n mk td gr cf ce ck rv st wo ++ rest) s.heap.size) s.heap s.heap [] := va_S.rf
  have hA : ∀ q, s.heap.size ≤ q → (va_A (wX E ad g hz n mk td gr cf ce ck rv st wo ++ rest) s.heap.size) q := fun q h => Or.inr h
  have hown : s.vm.findClass RX4 = some m.cls := hown
  have hl : lv_has ls 1 [(0, .ref (ad 0))] := hl
  have hinX4 : ∀ w ∈ wsX40, w ∈ wsX4_forgetCharts := by decide +kernel
  have hinX0 : ∀ w ∈ wsX00, w ∈ wsX4_forgetCharts := by decide +kernel
  refine lv_aload_n hx hb dX4_forgetCharts_0 rfl (lv_at hl 0 rfl) ?_
  refine va_get (D := E.1) (ci := 4) (C := RX4) (T := TX4) (N := 11) hx hb hts hinX4 hown hE.1 hP 0 rfl rfl 2 (by decide) (hts (.fieldLink RX4 24 "StakeHouse" "bestChart" "LStakeHouse$Chart;") (by decide +kernel)) (fun _ h9 => h9) rfl dX4_forgetCharts_1 ?_
  refine cW_v (va_runV ⟨hx, hb, hml, hown, hts⟩ (c_forget l E _ 3 (ad 3) _ _ _ _ _ rfl _) (cwV 0 hts gX4_forgetCharts_X0_forget rfl rfl rfl (by decide +kernel) ⟨Nat.le_of_ble_eq_true rfl, Nat.le_of_ble_eq_true rfl⟩) (ePw_V hP hD hE (ci := 0) (k := 3) rfl rfl) rfl rfl hl.1 rfl (lv_room (Nat.le_of_ble_eq_true rfl)) dX4_forgetCharts_4 ⟨Nat.zero_le _, Nat.zero_le _⟩) hS hD hA (fun ws9 H locs hr9 hP hD hS => ?_)
  subst hr9
  have hP : va_P E.1 vwCl (wX E ad g hz n mk td gr cf ce (va_up ck 0 0) rv st wo ++ rest) H := hP
  have hD : va_D (va_A (wX E ad g hz n mk td gr cf ce ck rv st wo ++ rest) s.heap.size) (wX E ad g hz n mk td gr cf ce (va_up ck 0 0) rv st wo ++ rest) := hD
  refine lv_aload_n hx hb dX4_forgetCharts_7 rfl (lv_at hl 0 rfl) ?_
  refine va_get (D := E.1) (ci := 4) (C := RX4) (T := TX4) (N := 11) hx hb hts hinX4 hown hE.1 hP 0 rfl rfl 3 (by decide) (hts (.fieldLink RX4 28 "StakeHouse" "meanChart" "LStakeHouse$Chart;") (by decide +kernel)) (fun _ h9 => h9) rfl dX4_forgetCharts_8 ?_
  refine cW_v (va_runV ⟨hx, hb, hml, hown, hts⟩ (c_forget l E _ 4 (ad 4) _ _ _ _ _ rfl _) (cwV 0 hts gX4_forgetCharts_X0_forget rfl rfl rfl (by decide +kernel) ⟨Nat.le_of_ble_eq_true rfl, Nat.le_of_ble_eq_true rfl⟩) (ePw_V hP hD hE (ci := 0) (k := 4) rfl rfl) rfl rfl hl.1 rfl (lv_room (Nat.le_of_ble_eq_true rfl)) dX4_forgetCharts_11 ⟨Nat.zero_le _, Nat.zero_le _⟩) hS hD hA (fun ws9 H locs hr9 hP hD hS => ?_)
  subst hr9
  have hP : va_P E.1 vwCl (wX E ad g hz n mk td gr cf ce (va_up (va_up ck 0 0) 1 0) rv st wo ++ rest) H := hP
  have hD : va_D (va_A (wX E ad g hz n mk td gr cf ce ck rv st wo ++ rest) s.heap.size) (wX E ad g hz n mk td gr cf ce (va_up (va_up ck 0 0) 1 0) rv st wo ++ rest) := hD
  refine lv_aload_n hx hb dX4_forgetCharts_14 rfl (lv_at hl 0 rfl) ?_
  refine va_get (D := E.1) (ci := 4) (C := RX4) (T := TX4) (N := 11) hx hb hts hinX4 hown hE.1 hP 0 rfl rfl 4 (by decide) (hts (.fieldLink RX4 31 "StakeHouse" "aloneChart" "LStakeHouse$Chart;") (by decide +kernel)) (fun _ h9 => h9) rfl dX4_forgetCharts_15 ?_
  refine cW_v (va_runV ⟨hx, hb, hml, hown, hts⟩ (c_forget l E _ 5 (ad 5) _ _ _ _ _ rfl _) (cwV 0 hts gX4_forgetCharts_X0_forget rfl rfl rfl (by decide +kernel) ⟨Nat.le_of_ble_eq_true rfl, Nat.le_of_ble_eq_true rfl⟩) (ePw_V hP hD hE (ci := 0) (k := 5) rfl rfl) rfl rfl hl.1 rfl (lv_room (Nat.le_of_ble_eq_true rfl)) dX4_forgetCharts_18 ⟨Nat.zero_le _, Nat.zero_le _⟩) hS hD hA (fun ws9 H locs hr9 hP hD hS => ?_)
  subst hr9
  have hP : va_P E.1 vwCl (wX E ad g hz n mk td gr cf ce (fun _ => 0) rv st wo ++ rest) H := hP
  have hD : va_D (va_A (wX E ad g hz n mk td gr cf ce ck rv st wo ++ rest) s.heap.size) (wX E ad g hz n mk td gr cf ce (fun _ => 0) rv st wo ++ rest) := hD
  exact ret_Wv hx hb hr hlocks dX4_forgetCharts_21 hP hD hS rfl
set_option maxHeartbeats 4000000 in
set_option maxRecDepth 100000 in
/-- changeGoal -/
theorem c_changeGoal (l : Launch) (E : eT) (ad : Nat → Nat) (g hz n : Nat) (mk : Int64) (td : Nat → Int32) (gr : Nat → Option Nat) (cf ce ck : Nat → Nat) (rv : Nat → Nat → Int64) (st : Nat → Int32) (wo : Nat → Nat → Int64) (rest : va_W) (v : Nat) : mWi l yX4_changeGoal wsX4_changeGoal 2 50 0 0 E (wX E ad g hz n mk td gr cf ce ck rv st wo ++ rest) [.ref (ad 0), .int (nI v)] (fun r ws1 => r = nI g ∧ ws1 = wX E ad v hz n mk (fun _ => nI 0) gr cf ce (fun _ => 0) rv st wo ++ rest) := by
  intro sz
  refine mW_of (cc := cX4_changeGoal) (maxL := 4) (ret := (some .int)) (Qc := fun sz => va_Qi (fun r ws1 => r = nI g ∧ ws1 = wX E ad v hz n mk (fun _ => nI 0) gr cf ce (fun _ => 0) rv st wo ++ rest) (eAt E (va_A (wX E ad g hz n mk td gr cf ce ck rv st wo ++ rest) sz)) (va_A (wX E ad g hz n mk td gr cf ce ck rv st wo ++ rest) sz)) (by decide) rfl (Nat.le_of_ble_eq_true rfl) ?_
  intro p0 e0 s m below meth c0 ls hx hb hr hml hts hown hlocks hin hE hP hD hl
  have hS : va_S (va_A (wX E ad g hz n mk td gr cf ce ck rv st wo ++ rest) s.heap.size) s.heap s.heap [] := va_S.rf
  have hA : ∀ q, s.heap.size ≤ q → (va_A (wX E ad g hz n mk td gr cf ce ck rv st wo ++ rest) s.heap.size) q := fun q h => Or.inr h
  have hown : s.vm.findClass RX4 = some m.cls := hown
  have hl : lv_has ls 4 [(0, .ref (ad 0)), (1, .int (nI v))] := hl
  have hinX4 : ∀ w ∈ wsX40, w ∈ wsX4_changeGoal := by decide +kernel
  refine lv_aload_n hx hb dX4_changeGoal_0 rfl (lv_at hl 0 rfl) ?_
  refine va_get (D := E.1) (ci := 4) (C := RX4) (T := TX4) (N := 11) hx hb hts hinX4 hown hE.1 hP 0 rfl rfl 7 (by decide) (hts (.fieldLink RX4 42 "StakeHouse" "goal" "I") (by decide +kernel)) (fun _ h9 => h9) rfl dX4_changeGoal_1 ?_
  refine st_i1 hx hb 2 dX4_changeGoal_4 rfl hl (by decide) rfl (fun ls hl => ?_)
  refine lv_aload_n hx hb dX4_changeGoal_5 rfl (lv_at hl 0 rfl) ?_
  refine lv_iload_n hx hb dX4_changeGoal_6 rfl (lv_at hl 1 rfl) ?_
  refine va_put (D := E.1) (ci := 4) (ty := .int) (C := RX4) (T := TX4) (N := 11) hx hb hts hinX4 tyX4 tyX4_ok nmX4 hown hE.1 hP hD hS 0 rfl rfl 7 (by decide) (hts (.fieldLink RX4 42 "StakeHouse" "goal" "I") (by decide +kernel)) (fun _ h9 => h9) rfl (by decide +kernel) rfl rfl (Nat.le_of_ble_eq_true rfl) dX4_changeGoal_7 (fun H locs hP hD hS => ?_)
  have hP : va_P E.1 vwCl (wX E ad v hz n mk td gr cf ce ck rv st wo ++ rest) H := hP
  have hD : va_D (va_A (wX E ad g hz n mk td gr cf ce ck rv st wo ++ rest) s.heap.size) (wX E ad v hz n mk td gr cf ce ck rv st wo ++ rest) := hD
  refine lv_iconst (v := nI 0) hx hb dX4_changeGoal_10 (by decide) ?_
  refine st_i1 hx hb 3 dX4_changeGoal_11 rfl hl (by decide) rfl (fun ls hl => ?_)
  refine wLoopH 33 0 (fun i H locs ls => ∃ t1 : Nat → Int32, (∀ j, j < i → t1 j = nI 0) ∧ va_P E.1 vwCl (wX E ad v hz n mk t1 gr cf ce ck rv st wo ++ rest) H ∧ va_D (va_A (wX E ad g hz n mk td gr cf ce ck rv st wo ++ rest) s.heap.size) (wX E ad v hz n mk t1 gr cf ce ck rv st wo ++ rest) ∧ va_S (va_A (wX E ad g hz n mk td gr cf ce ck rv st wo ++ rest) s.heap.size) s.heap H locs ∧ lv_has ls 4 [(0, .ref (ad 0)), (1, .int (nI v)), (2, .int (nI g)), (3, .int (nI i))]) (Nat.zero_le _) (fun i H locs ls hi_i hI ih => ?_) (fun H locs ls hI => ?_) ⟨td, fun j hj => absurd hj (by omega), hP, hD, hS, hl⟩
  · skip
    obtain ⟨t1, ht1, hP, hD, hS, hl⟩ := hI
    refine lv_iload_n hx hb dX4_changeGoal_12 rfl (lv_at hl 3 rfl) ?_
    refine lv_bipush (v := nI 33) hx hb dX4_changeGoal_13 (by decide) ?_
    refine n_ge hx hb (by omega) (by omega) 31 dX4_changeGoal_15 (by decide) (fun c15 => ?_) (fun c15 => ?_)
    · skip
      exact absurd c15 (by omega)
    · skip
      refine lv_aload_n hx hb dX4_changeGoal_18 rfl (lv_at hl 0 rfl) ?_
      refine va_get (D := E.1) (ci := 4) (C := RX4) (T := TX4) (N := 11) hx hb hts hinX4 hown hE.1 hP 0 rfl rfl 1 (by decide) (hts (.fieldLink RX4 15 "StakeHouse" "told" "[I") (by decide +kernel)) (fun _ h9 => h9) rfl dX4_changeGoal_19 ?_
      refine lv_iload_n hx hb dX4_changeGoal_22 rfl (lv_at hl 3 rfl) ?_
      refine lv_iconst (v := nI 0) hx hb dX4_changeGoal_23 (by decide) ?_
      refine va_iast hx hb hE.1 hP hD hS 2 0 rfl rfl (vp_in_nI (by omega) (by decide)) dX4_changeGoal_24 (fun H locs hP hD hS => ?_)
      have hP : va_P E.1 vwCl (wX E ad v hz n mk (upd t1 (nI i).toNatClampNeg (nI 0)) gr cf ce ck rv st wo ++ rest) H := hP
      have hD : va_D (va_A (wX E ad g hz n mk td gr cf ce ck rv st wo ++ rest) s.heap.size) (wX E ad v hz n mk (upd t1 (nI i).toNatClampNeg (nI 0)) gr cf ce ck rv st wo ++ rest) := hD
      refine st_inc hx hb 3 dX4_changeGoal_25 hl rfl (nI_1 _) (by decide) rfl (fun ls hl => ?_)
      refine lv_goto (tgt := 12) hx hb dX4_changeGoal_28 (by decide) ?_
      refine ih _ _ _ ⟨_, fun j hj => ?_, hP, hD, hS, hl⟩
      rw [nI_clamp (by omega)]
      by_cases hji : j = i
      · subst hji; exact pk_us
      · rw [pk_un hji]; exact ht1 j (by omega)
  · skip
    obtain ⟨t1, ht1, hP, hD, hS, hl⟩ := hI
    have hP : va_P E.1 vwCl (wX E ad v hz n mk (fun _ => nI 0) gr cf ce ck rv st wo ++ rest) H := va_P_re hP (k := 2) rfl (xI_congr (f' := fun _ => nI 0) ht1)
    have hD : va_D (va_A (wX E ad g hz n mk td gr cf ce ck rv st wo ++ rest) s.heap.size) (wX E ad v hz n mk (fun _ => nI 0) gr cf ce ck rv st wo ++ rest) := va_D.set (p := 2) (e0 := xI E 33 t1) (e := xI E 33 (fun _ => nI 0)) hD rfl
    refine lv_iload_n hx hb dX4_changeGoal_12 rfl (lv_at hl 3 rfl) ?_
    refine lv_bipush (v := nI 33) hx hb dX4_changeGoal_13 (by decide) ?_
    refine n_ge hx hb (by omega) (by omega) 31 dX4_changeGoal_15 (by decide) (fun c15 => ?_) (fun c15 => ?_)
    · skip
      refine lv_aload_n hx hb dX4_changeGoal_31 rfl (lv_at hl 0 rfl) ?_
      refine cW_v (va_runV ⟨hx, hb, hml, hown, hts⟩ (c_forgetCharts l E ad v hz n mk (fun _ => nI 0) gr cf ce ck rv st wo rest _) (cwV 0 hts gX4_changeGoal_X4_forgetCharts rfl rfl rfl (by decide +kernel) ⟨Nat.le_of_ble_eq_true rfl, Nat.le_of_ble_eq_true rfl⟩) (ePw_V hP hD hE (ci := 4) (k := 0) rfl rfl) rfl rfl hl.1 rfl (lv_room (Nat.le_of_ble_eq_true rfl)) dX4_changeGoal_32 ⟨Nat.zero_le _, Nat.zero_le _⟩) hS hD hA (fun ws9 H locs hr9 hP hD hS => ?_)
      subst hr9
      refine lv_iload_n hx hb dX4_changeGoal_35 rfl (lv_at hl 2 rfl) ?_
      exact ret_Wi hx hb hr hlocks dX4_changeGoal_36 hP hD hS ⟨rfl, rfl⟩
    · skip
      exact absurd c15 (by omega)
/-- set's answer, and what becomes of goal, horizon, told numbers, charts -/
def set_of (g hz : Nat) (td : Nat → Int32) (ck : Nat → Nat) (wv vv : Int32) (r : Int32) (g1 hz1 : Nat) (td1 : Nat → Int32) (ck1 : Nat → Nat) : Prop := (∃ v : Nat, wv = 0 ∧ vv = nI v ∧ 2 ≤ v ∧ v ≤ 32 ∧ r = nI g ∧ g1 = v ∧ hz1 = hz ∧ td1 = (fun _ => nI 0) ∧ ck1 = (fun _ => 0)) ∨ (∃ v : Nat, wv = 1 ∧ vv = nI v ∧ v ≤ 12 ∧ r = nI hz ∧ g1 = g ∧ hz1 = v ∧ td1 = td ∧ ck1 = ck) ∨ ((¬ (wv = 0 ∧ nI 2 ≤ vv ∧ vv ≤ nI 32)) ∧ (¬ (wv = 1 ∧ nI 0 ≤ vv ∧ vv ≤ nI 12)) ∧ r = -1 ∧ g1 = g ∧ hz1 = hz ∧ td1 = td ∧ ck1 = ck)
set_option maxHeartbeats 4000000 in
set_option maxRecDepth 100000 in
/-- set -/
theorem c_set (l : Launch) (E : eT) (ad : Nat → Nat) (g hz n : Nat) (mk : Int64) (td : Nat → Int32) (gr : Nat → Option Nat) (cf ce ck : Nat → Nat) (rv : Nat → Nat → Int64) (st : Nat → Int32) (wo : Nat → Nat → Int64) (rest : va_W) (wv vv : Int32) : mWi l yX4_set wsX4_set 3 80 0 0 E (wX E ad g hz n mk td gr cf ce ck rv st wo ++ rest) [.ref (ad 0), .int wv, .int vv] (fun r ws1 => ∃ (g1 hz1 : Nat) (td1 : Nat → Int32) (ck1 : Nat → Nat), set_of g hz td ck wv vv r g1 hz1 td1 ck1 ∧ ws1 = wX E ad g1 hz1 n mk td1 gr cf ce ck1 rv st wo ++ rest) := by
  intro sz
  refine mW_of (cc := cX4_set) (maxL := 4) (ret := (some .int)) (Qc := fun sz => va_Qi (fun r ws1 => ∃ (g1 hz1 : Nat) (td1 : Nat → Int32) (ck1 : Nat → Nat), set_of g hz td ck wv vv r g1 hz1 td1 ck1 ∧ ws1 = wX E ad g1 hz1 n mk td1 gr cf ce ck1 rv st wo ++ rest) (eAt E (va_A (wX E ad g hz n mk td gr cf ce ck rv st wo ++ rest) sz)) (va_A (wX E ad g hz n mk td gr cf ce ck rv st wo ++ rest) sz)) (by decide) rfl (Nat.le_of_ble_eq_true rfl) ?_
  intro p0 e0 s m below meth c0 ls hx hb hr hml hts hown hlocks hin hE hP hD hl
  have hS : va_S (va_A (wX E ad g hz n mk td gr cf ce ck rv st wo ++ rest) s.heap.size) s.heap s.heap [] := va_S.rf
  have hA : ∀ q, s.heap.size ≤ q → (va_A (wX E ad g hz n mk td gr cf ce ck rv st wo ++ rest) s.heap.size) q := fun q h => Or.inr h
  have hown : s.vm.findClass RX4 = some m.cls := hown
  have hl : lv_has ls 4 [(0, .ref (ad 0)), (1, .int wv), (2, .int vv)] := hl
  have hinX4 : ∀ w ∈ wsX40, w ∈ wsX4_set := by decide +kernel
  refine lv_iload_n hx hb dX4_set_0 rfl (lv_at hl 1 rfl) ?_
  refine lv_if_ne (tgt := 20) hx hb dX4_set_1 (by decide) (fun c1 => ?_) (fun c1 => ?_)
  · skip
    refine lv_iload_n hx hb dX4_set_20 rfl (lv_at hl 1 rfl) ?_
    refine lv_iconst (v := nI 1) hx hb dX4_set_21 (by decide) ?_
    refine lv_icmp_ne (tgt := 47) hx hb dX4_set_22 (by decide) (fun c22 => ?_) (fun c22 => ?_)
    · skip
      refine lv_iconst (v := (-1)) hx hb dX4_set_47 (by decide) ?_
      exact ret_Wi hx hb hr hlocks dX4_set_48 hP hD hS ⟨g, hz, td, ck, Or.inr (Or.inr ⟨fun q => c1 q.1, fun q => c22 q.1, rfl, rfl, rfl, rfl, rfl⟩), rfl⟩
    · skip
      refine lv_iload_n hx hb dX4_set_25 rfl (lv_at hl 2 rfl) ?_
      refine lv_iconst (v := nI 0) hx hb dX4_set_26 (by decide) ?_
      refine lv_bipush (v := nI 12) hx hb dX4_set_27 (by decide) ?_
      refine vp_callSi (W.runS ⟨hx, hb, hml, hown, hts⟩ (c_within l E _ _ _ _) (va_cwS 3 hts gX4_set_X4_within rfl rfl rfl (by decide +kernel) ⟨Nat.le_of_ble_eq_true rfl, Nat.le_of_ble_eq_true rfl⟩) (ePu_S hP hE) rfl rfl hl.1 rfl (lv_room (Nat.le_of_ble_eq_true rfl)) dX4_set_29 ⟨Nat.zero_le _, Nat.zero_le _⟩) (fun r9 hr9 => ?_)
      subst hr9
      refine q_eq hx hb 47 dX4_set_32 (by decide) (fun c32 => ?_) (fun c32 => ?_)
      · skip
        refine lv_iconst (v := (-1)) hx hb dX4_set_47 (by decide) ?_
        exact ret_Wi hx hb hr hlocks dX4_set_48 hP hD hS ⟨g, hz, td, ck, Or.inr (Or.inr ⟨fun q => c1 q.1, fun q => c32 q.2, rfl, rfl, rfl, rfl, rfl⟩), rfl⟩
      · skip
        obtain ⟨v, -, hv2, rfl⟩ := nI_rng (by decide) c32 (by decide)
        refine lv_aload_n hx hb dX4_set_35 rfl (lv_at hl 0 rfl) ?_
        refine va_get (D := E.1) (ci := 4) (C := RX4) (T := TX4) (N := 11) hx hb hts hinX4 hown hE.1 hP 0 rfl rfl 8 (by decide) (hts (.fieldLink RX4 46 "StakeHouse" "horizon" "I") (by decide +kernel)) (fun _ h9 => h9) rfl dX4_set_36 ?_
        refine st_i1 hx hb 3 dX4_set_39 rfl hl (by decide) rfl (fun ls hl => ?_)
        refine lv_aload_n hx hb dX4_set_40 rfl (lv_at hl 0 rfl) ?_
        refine lv_iload_n hx hb dX4_set_41 rfl (lv_at hl 2 rfl) ?_
        refine va_put (D := E.1) (ci := 4) (ty := .int) (C := RX4) (T := TX4) (N := 11) hx hb hts hinX4 tyX4 tyX4_ok nmX4 hown hE.1 hP hD hS 0 rfl rfl 8 (by decide) (hts (.fieldLink RX4 46 "StakeHouse" "horizon" "I") (by decide +kernel)) (fun _ h9 => h9) rfl (by decide +kernel) rfl rfl (Nat.le_of_ble_eq_true rfl) dX4_set_42 (fun H locs hP hD hS => ?_)
        have hP : va_P E.1 vwCl (wX E ad g v n mk td gr cf ce ck rv st wo ++ rest) H := hP
        have hD : va_D (va_A (wX E ad g hz n mk td gr cf ce ck rv st wo ++ rest) s.heap.size) (wX E ad g v n mk td gr cf ce ck rv st wo ++ rest) := hD
        refine lv_iload_n hx hb dX4_set_45 rfl (lv_at hl 3 rfl) ?_
        exact ret_Wi hx hb hr hlocks dX4_set_46 hP hD hS ⟨g, v, td, ck, Or.inr (Or.inl ⟨v, c22, rfl, hv2, rfl, rfl, rfl, rfl, rfl⟩), rfl⟩
  · skip
    refine lv_iload_n hx hb dX4_set_4 rfl (lv_at hl 2 rfl) ?_
    refine lv_iconst (v := nI 2) hx hb dX4_set_5 (by decide) ?_
    refine lv_bipush (v := nI 32) hx hb dX4_set_6 (by decide) ?_
    refine vp_callSi (W.runS ⟨hx, hb, hml, hown, hts⟩ (c_within l E _ _ _ _) (va_cwS 3 hts gX4_set_X4_within rfl rfl rfl (by decide +kernel) ⟨Nat.le_of_ble_eq_true rfl, Nat.le_of_ble_eq_true rfl⟩) (ePu_S hP hE) rfl rfl hl.1 rfl (lv_room (Nat.le_of_ble_eq_true rfl)) dX4_set_8 ⟨Nat.zero_le _, Nat.zero_le _⟩) (fun r9 hr9 => ?_)
    subst hr9
    refine q_eq hx hb 20 dX4_set_11 (by decide) (fun c11 => ?_) (fun c11 => ?_)
    · skip
      refine lv_iload_n hx hb dX4_set_20 rfl (lv_at hl 1 rfl) ?_
      refine lv_iconst (v := nI 1) hx hb dX4_set_21 (by decide) ?_
      refine lv_icmp_ne (tgt := 47) hx hb dX4_set_22 (by decide) (fun c22 => ?_) (fun c22 => ?_)
      · skip
        refine lv_iconst (v := (-1)) hx hb dX4_set_47 (by decide) ?_
        exact ret_Wi hx hb hr hlocks dX4_set_48 hP hD hS ⟨g, hz, td, ck, Or.inr (Or.inr ⟨fun q => c11 q.2, fun q => c22 q.1, rfl, rfl, rfl, rfl, rfl⟩), rfl⟩
      · skip
        refine lv_iload_n hx hb dX4_set_25 rfl (lv_at hl 2 rfl) ?_
        refine lv_iconst (v := nI 0) hx hb dX4_set_26 (by decide) ?_
        refine lv_bipush (v := nI 12) hx hb dX4_set_27 (by decide) ?_
        refine vp_callSi (W.runS ⟨hx, hb, hml, hown, hts⟩ (c_within l E _ _ _ _) (va_cwS 3 hts gX4_set_X4_within rfl rfl rfl (by decide +kernel) ⟨Nat.le_of_ble_eq_true rfl, Nat.le_of_ble_eq_true rfl⟩) (ePu_S hP hE) rfl rfl hl.1 rfl (lv_room (Nat.le_of_ble_eq_true rfl)) dX4_set_29 ⟨Nat.zero_le _, Nat.zero_le _⟩) (fun r9 hr9 => ?_)
        subst hr9
        refine q_eq hx hb 47 dX4_set_32 (by decide) (fun c32 => ?_) (fun c32 => ?_)
        · skip
          refine lv_iconst (v := (-1)) hx hb dX4_set_47 (by decide) ?_
          exact ret_Wi hx hb hr hlocks dX4_set_48 hP hD hS ⟨g, hz, td, ck, Or.inr (Or.inr ⟨fun q => c11 q.2, fun q => c32 q.2, rfl, rfl, rfl, rfl, rfl⟩), rfl⟩
        · skip
          obtain ⟨v, -, hv2, rfl⟩ := nI_rng (by decide) c32 (by decide)
          refine lv_aload_n hx hb dX4_set_35 rfl (lv_at hl 0 rfl) ?_
          refine va_get (D := E.1) (ci := 4) (C := RX4) (T := TX4) (N := 11) hx hb hts hinX4 hown hE.1 hP 0 rfl rfl 8 (by decide) (hts (.fieldLink RX4 46 "StakeHouse" "horizon" "I") (by decide +kernel)) (fun _ h9 => h9) rfl dX4_set_36 ?_
          refine st_i1 hx hb 3 dX4_set_39 rfl hl (by decide) rfl (fun ls hl => ?_)
          refine lv_aload_n hx hb dX4_set_40 rfl (lv_at hl 0 rfl) ?_
          refine lv_iload_n hx hb dX4_set_41 rfl (lv_at hl 2 rfl) ?_
          refine va_put (D := E.1) (ci := 4) (ty := .int) (C := RX4) (T := TX4) (N := 11) hx hb hts hinX4 tyX4 tyX4_ok nmX4 hown hE.1 hP hD hS 0 rfl rfl 8 (by decide) (hts (.fieldLink RX4 46 "StakeHouse" "horizon" "I") (by decide +kernel)) (fun _ h9 => h9) rfl (by decide +kernel) rfl rfl (Nat.le_of_ble_eq_true rfl) dX4_set_42 (fun H locs hP hD hS => ?_)
          have hP : va_P E.1 vwCl (wX E ad g v n mk td gr cf ce ck rv st wo ++ rest) H := hP
          have hD : va_D (va_A (wX E ad g hz n mk td gr cf ce ck rv st wo ++ rest) s.heap.size) (wX E ad g v n mk td gr cf ce ck rv st wo ++ rest) := hD
          refine lv_iload_n hx hb dX4_set_45 rfl (lv_at hl 3 rfl) ?_
          exact ret_Wi hx hb hr hlocks dX4_set_46 hP hD hS ⟨g, v, td, ck, Or.inr (Or.inl ⟨v, c22, rfl, hv2, rfl, rfl, rfl, rfl, rfl⟩), rfl⟩
    · skip
      obtain ⟨v, hv1, hv2, rfl⟩ := nI_rng (by decide) c11 (by decide)
      refine lv_aload_n hx hb dX4_set_14 rfl (lv_at hl 0 rfl) ?_
      refine lv_iload_n hx hb dX4_set_15 rfl (lv_at hl 2 rfl) ?_
      refine cW_i (va_runV ⟨hx, hb, hml, hown, hts⟩ (c_changeGoal l E ad g hz n mk td gr cf ce ck rv st wo rest v _) (cwV 1 hts gX4_set_X4_changeGoal rfl rfl rfl (by decide +kernel) ⟨Nat.le_of_ble_eq_true rfl, Nat.le_of_ble_eq_true rfl⟩) (ePw_V hP hD hE (ci := 4) (k := 0) rfl rfl) rfl rfl hl.1 rfl (lv_room (Nat.le_of_ble_eq_true rfl)) dX4_set_16 ⟨Nat.zero_le _, Nat.zero_le _⟩) hS hD hA (fun r9 ws9 H locs hr9 hP hD hS => ?_)
      obtain ⟨rfl, rfl⟩ := hr9
      exact ret_Wi hx hb hr hlocks dX4_set_19 hP hD hS ⟨v, hz, _, _, Or.inl ⟨v, c1, rfl, hv1, hv2, rfl, rfl, rfl, rfl, rfl⟩, rfl⟩
/-- tell's answer, and the told numbers behind it -/
def tel_of (g : Nat) (td : Nat → Nat) (qv vv : Int32) (r : Int32) (td1 : Nat → Nat) : Prop := (∃ q v : Nat, qv = nI q ∧ vv = nI v ∧ 1 ≤ q ∧ q < g ∧ v ≤ 32 ∧ r = nI (td q) ∧ td1 = va_up td q v) ∨ ((¬ ((nI 1 ≤ qv ∧ qv ≤ nI (g - 1)) ∧ nI 0 ≤ vv ∧ vv ≤ nI 32)) ∧ r = -1 ∧ td1 = td)
set_option maxHeartbeats 4000000 in
set_option maxRecDepth 100000 in
/-- tell -/
theorem c_tell (l : Launch) (E : eT) (ad : Nat → Nat) (g hz n : Nat) (mk : Int64) (td : Nat → Nat) (gr : Nat → Option Nat) (cf ce ck : Nat → Nat) (rv : Nat → Nat → Int64) (st : Nat → Int32) (wo : Nat → Nat → Int64) (rest : va_W) (hg2 : 2 ≤ g) (hg32 : g ≤ 32) (qv vv : Int32) : mWi l yX4_tell wsX4_tell 2 50 0 0 E (wX E ad g hz n mk (fun j => nI (td j)) gr cf ce ck rv st wo ++ rest) [.ref (ad 0), .int qv, .int vv] (fun r ws1 => ∃ td1 : Nat → Nat, tel_of g td qv vv r td1 ∧ ws1 = wX E ad g hz n mk (fun j => nI (td1 j)) gr cf ce ck rv st wo ++ rest) := by
  intro sz
  refine mW_of (cc := cX4_tell) (maxL := 4) (ret := (some .int)) (Qc := fun sz => va_Qi (fun r ws1 => ∃ td1 : Nat → Nat, tel_of g td qv vv r td1 ∧ ws1 = wX E ad g hz n mk (fun j => nI (td1 j)) gr cf ce ck rv st wo ++ rest) (eAt E (va_A (wX E ad g hz n mk (fun j => nI (td j)) gr cf ce ck rv st wo ++ rest) sz)) (va_A (wX E ad g hz n mk (fun j => nI (td j)) gr cf ce ck rv st wo ++ rest) sz)) (by decide) rfl (Nat.le_of_ble_eq_true rfl) ?_
  intro p0 e0 s m below meth c0 ls hx hb hr hml hts hown hlocks hin hE hP hD hl
  have hS : va_S (va_A (wX E ad g hz n mk (fun j => nI (td j)) gr cf ce ck rv st wo ++ rest) s.heap.size) s.heap s.heap [] := va_S.rf
  have hA : ∀ q, s.heap.size ≤ q → (va_A (wX E ad g hz n mk (fun j => nI (td j)) gr cf ce ck rv st wo ++ rest) s.heap.size) q := fun q h => Or.inr h
  have hown : s.vm.findClass RX4 = some m.cls := hown
  have hl : lv_has ls 4 [(0, .ref (ad 0)), (1, .int qv), (2, .int vv)] := hl
  have hinX4 : ∀ w ∈ wsX40, w ∈ wsX4_tell := by decide +kernel
  refine lv_aload_n hx hb dX4_tell_0 rfl (lv_at hl 0 rfl) ?_
  refine lv_iload_n hx hb dX4_tell_1 rfl (lv_at hl 1 rfl) ?_
  refine vp_callSi (W.runV ⟨hx, hb, hml, hown, hts⟩ (c_isPlayed l E _ ad g hz n mk rfl hg2 _) (cwV 1 hts gX4_tell_X4_isPlayed rfl rfl rfl (by decide +kernel) ⟨Nat.le_of_ble_eq_true rfl, Nat.le_of_ble_eq_true rfl⟩) (ePu_V hP hE (ci := 4) (k := 0) rfl rfl) rfl rfl hl.1 rfl (lv_room (Nat.le_of_ble_eq_true rfl)) dX4_tell_2 ⟨Nat.zero_le _, Nat.zero_le _⟩) (fun r9 hr9 => ?_)
  subst hr9
  refine q_eq hx hb 18 dX4_tell_5 (by decide) (fun c5 => ?_) (fun c5 => ?_)
  · skip
    refine lv_iconst (v := (-1)) hx hb dX4_tell_18 (by decide) ?_
    exact ret_Wi hx hb hr hlocks dX4_tell_19 hP hD hS ⟨td, Or.inr ⟨fun q => c5 q.1, rfl, rfl⟩, rfl⟩
  · skip
    obtain ⟨q, hq1, hq2, rfl⟩ := nI_rng (by omega) c5 (by decide)
    refine lv_iload_n hx hb dX4_tell_8 rfl (lv_at hl 2 rfl) ?_
    refine lv_iconst (v := nI 0) hx hb dX4_tell_9 (by decide) ?_
    refine lv_bipush (v := nI 32) hx hb dX4_tell_10 (by decide) ?_
    refine vp_callSi (W.runS ⟨hx, hb, hml, hown, hts⟩ (c_within l E _ _ _ _) (va_cwS 3 hts gX4_tell_X4_within rfl rfl rfl (by decide +kernel) ⟨Nat.le_of_ble_eq_true rfl, Nat.le_of_ble_eq_true rfl⟩) (ePu_S hP hE) rfl rfl hl.1 rfl (lv_room (Nat.le_of_ble_eq_true rfl)) dX4_tell_12 ⟨Nat.zero_le _, Nat.zero_le _⟩) (fun r9 hr9 => ?_)
    subst hr9
    refine q_ne hx hb 20 dX4_tell_15 (by decide) (fun c15 => ?_) (fun c15 => ?_)
    · skip
      obtain ⟨v, -, hv2, rfl⟩ := nI_rng (by decide) c15 (by decide)
      refine lv_aload_n hx hb dX4_tell_20 rfl (lv_at hl 0 rfl) ?_
      refine va_get (D := E.1) (ci := 4) (C := RX4) (T := TX4) (N := 11) hx hb hts hinX4 hown hE.1 hP 0 rfl rfl 1 (by decide) (hts (.fieldLink RX4 15 "StakeHouse" "told" "[I") (by decide +kernel)) (fun _ h9 => h9) rfl dX4_tell_21 ?_
      refine lv_iload_n hx hb dX4_tell_24 rfl (lv_at hl 1 rfl) ?_
      refine va_iald hx hb hE.1 hP 2 0 rfl rfl (vp_in_nI (by omega) (by decide)) dX4_tell_25 ?_
      refine tp_i (show _ = nI (td q) by rw [nI_clamp (by omega)]) ?_
      refine st_i1 hx hb 3 dX4_tell_26 rfl hl (by decide) rfl (fun ls hl => ?_)
      refine lv_aload_n hx hb dX4_tell_27 rfl (lv_at hl 0 rfl) ?_
      refine va_get (D := E.1) (ci := 4) (C := RX4) (T := TX4) (N := 11) hx hb hts hinX4 hown hE.1 hP 0 rfl rfl 1 (by decide) (hts (.fieldLink RX4 15 "StakeHouse" "told" "[I") (by decide +kernel)) (fun _ h9 => h9) rfl dX4_tell_28 ?_
      refine lv_iload_n hx hb dX4_tell_31 rfl (lv_at hl 1 rfl) ?_
      refine lv_iload_n hx hb dX4_tell_32 rfl (lv_at hl 2 rfl) ?_
      refine va_iast hx hb hE.1 hP hD hS 2 0 rfl rfl (vp_in_nI (by omega) (by decide)) dX4_tell_33 (fun H locs hP hD hS => ?_)
      have hP : va_P E.1 vwCl (wX E ad g hz n mk (fun j => nI (va_up td q v j)) gr cf ce ck rv st wo ++ rest) H := (by rw [nI_clamp (by omega), upd_nI] at hP; exact hP)
      have hD : va_D (va_A (wX E ad g hz n mk (fun j => nI (td j)) gr cf ce ck rv st wo ++ rest) s.heap.size) (wX E ad g hz n mk (fun j => nI (va_up td q v j)) gr cf ce ck rv st wo ++ rest) := (by rw [nI_clamp (by omega), upd_nI] at hD; exact hD)
      refine lv_iload_n hx hb dX4_tell_34 rfl (lv_at hl 3 rfl) ?_
      exact ret_Wi hx hb hr hlocks dX4_tell_35 hP hD hS ⟨_, Or.inl ⟨q, v, rfl, rfl, hq1, by omega, hv2, rfl, rfl⟩, rfl⟩
    · skip
      refine lv_iconst (v := (-1)) hx hb dX4_tell_18 (by decide) ?_
      exact ret_Wi hx hb hr hlocks dX4_tell_19 hP hD hS ⟨td, Or.inr ⟨fun q => c15 q.2, rfl, rfl⟩, rfl⟩
set_option maxHeartbeats 4000000 in
set_option maxRecDepth 100000 in
/-- drop -/
theorem c_drop (l : Launch) (E : eT) (ad : Nat → Nat) (g hz n : Nat) (mk : Int64) (td : Nat → Int32) (gr : Nat → Option Nat) (cf ce ck : Nat → Nat) (rv : Nat → Nat → Int64) (st : Nat → Int32) (wo : Nat → Nat → Int64) (rest : va_W) (hn : n ≤ 4) : mWi l yX4_drop wsX4_drop 2 50 0 0 E (wX E ad g hz n mk td gr cf ce ck rv st wo ++ rest) [.ref (ad 0)] (fun r ws1 => (n = 0 ∧ r = -2 ∧ ws1 = wX E ad g hz n mk td gr cf ce ck rv st wo ++ rest) ∨ (1 ≤ n ∧ r = nI (n - 1) ∧ ws1 = wX E ad g hz (n - 1) mk td (va_up gr (n - 1) none) cf ce (fun _ => 0) rv st wo ++ rest)) := by
  intro sz
  refine mW_of (cc := cX4_drop) (maxL := 1) (ret := (some .int)) (Qc := fun sz => va_Qi (fun r ws1 => (n = 0 ∧ r = -2 ∧ ws1 = wX E ad g hz n mk td gr cf ce ck rv st wo ++ rest) ∨ (1 ≤ n ∧ r = nI (n - 1) ∧ ws1 = wX E ad g hz (n - 1) mk td (va_up gr (n - 1) none) cf ce (fun _ => 0) rv st wo ++ rest)) (eAt E (va_A (wX E ad g hz n mk td gr cf ce ck rv st wo ++ rest) sz)) (va_A (wX E ad g hz n mk td gr cf ce ck rv st wo ++ rest) sz)) (by decide) rfl (Nat.le_of_ble_eq_true rfl) ?_
  intro p0 e0 s m below meth c0 ls hx hb hr hml hts hown hlocks hin hE hP hD hl
  have hS : va_S (va_A (wX E ad g hz n mk td gr cf ce ck rv st wo ++ rest) s.heap.size) s.heap s.heap [] := va_S.rf
  have hA : ∀ q, s.heap.size ≤ q → (va_A (wX E ad g hz n mk td gr cf ce ck rv st wo ++ rest) s.heap.size) q := fun q h => Or.inr h
  have hown : s.vm.findClass RX4 = some m.cls := hown
  have hl : lv_has ls 1 [(0, .ref (ad 0))] := hl
  have hinX4 : ∀ w ∈ wsX40, w ∈ wsX4_drop := by decide +kernel
  refine lv_aload_n hx hb dX4_drop_0 rfl (lv_at hl 0 rfl) ?_
  refine va_get (D := E.1) (ci := 4) (C := RX4) (T := TX4) (N := 11) hx hb hts hinX4 hown hE.1 hP 0 rfl rfl 9 (by decide) (hts (.fieldLink RX4 49 "StakeHouse" "held" "I") (by decide +kernel)) (fun _ h9 => h9) rfl dX4_drop_1 ?_
  refine lv_iconst (v := nI 1) hx hb dX4_drop_4 (by decide) ?_
  refine n_ge hx hb (by omega) (by omega) 11 dX4_drop_5 (by decide) (fun c5 => ?_) (fun c5 => ?_)
  · skip
    refine lv_aload_n hx hb dX4_drop_11 rfl (lv_at hl 0 rfl) ?_
    refine lv_dup hx hb dX4_drop_12 rfl ?_
    refine va_get (D := E.1) (ci := 4) (C := RX4) (T := TX4) (N := 11) hx hb hts hinX4 hown hE.1 hP 0 rfl rfl 9 (by decide) (hts (.fieldLink RX4 49 "StakeHouse" "held" "I") (by decide +kernel)) (fun _ h9 => h9) rfl dX4_drop_13 ?_
    refine lv_iconst (v := nI 1) hx hb dX4_drop_16 (by decide) ?_
    refine lv_isub hx hb dX4_drop_17 ?_
    refine tp_i (pk_sub (by omega)) ?_
    refine va_put (D := E.1) (ci := 4) (ty := .int) (C := RX4) (T := TX4) (N := 11) hx hb hts hinX4 tyX4 tyX4_ok nmX4 hown hE.1 hP hD hS 0 rfl rfl 9 (by decide) (hts (.fieldLink RX4 49 "StakeHouse" "held" "I") (by decide +kernel)) (fun _ h9 => h9) rfl (by decide +kernel) rfl rfl (Nat.le_of_ble_eq_true rfl) dX4_drop_18 (fun H locs hP hD hS => ?_)
    have hP : va_P E.1 vwCl (wX E ad g hz (n - 1) mk td gr cf ce ck rv st wo ++ rest) H := hP
    have hD : va_D (va_A (wX E ad g hz n mk td gr cf ce ck rv st wo ++ rest) s.heap.size) (wX E ad g hz (n - 1) mk td gr cf ce ck rv st wo ++ rest) := hD
    refine lv_aload_n hx hb dX4_drop_21 rfl (lv_at hl 0 rfl) ?_
    refine va_get (D := E.1) (ci := 4) (C := RX4) (T := TX4) (N := 11) hx hb hts hinX4 hown hE.1 hP 0 rfl rfl 0 (by decide) (hts (.fieldLink RX4 11 "StakeHouse" "games" "[LStakeHouse$EvenGame;") (by decide +kernel)) (fun _ h9 => h9) rfl dX4_drop_22 ?_
    refine lv_aload_n hx hb dX4_drop_25 rfl (lv_at hl 0 rfl) ?_
    refine va_get (D := E.1) (ci := 4) (C := RX4) (T := TX4) (N := 11) hx hb hts hinX4 hown hE.1 hP 0 rfl rfl 9 (by decide) (hts (.fieldLink RX4 49 "StakeHouse" "held" "I") (by decide +kernel)) (fun _ h9 => h9) rfl dX4_drop_26 ?_
    refine lv_null hx hb dX4_drop_29 ?_
    refine va_astqN hx hb hE.1 hP hD hS 1 2 rfl rfl (vp_in_nI (by omega) (by decide)) dX4_drop_30 (fun H locs hP hD hS => ?_)
    rw [nI_clamp (by omega)] at hP hD
    have hP : va_P E.1 vwCl (wX E ad g hz (n - 1) mk td (va_up gr (n - 1) none) cf ce ck rv st wo ++ rest) H := hP
    have hD : va_D (va_A (wX E ad g hz n mk td gr cf ce ck rv st wo ++ rest) s.heap.size) (wX E ad g hz (n - 1) mk td (va_up gr (n - 1) none) cf ce ck rv st wo ++ rest) := hD
    refine lv_aload_n hx hb dX4_drop_31 rfl (lv_at hl 0 rfl) ?_
    refine cW_v (va_runV ⟨hx, hb, hml, hown, hts⟩ (c_forgetCharts l E ad g hz (n - 1) mk td (va_up gr (n - 1) none) cf ce ck rv st wo rest _) (cwV 0 hts gX4_drop_X4_forgetCharts rfl rfl rfl (by decide +kernel) ⟨Nat.le_of_ble_eq_true rfl, Nat.le_of_ble_eq_true rfl⟩) (ePw_V hP hD hE (ci := 4) (k := 0) rfl rfl) rfl rfl hl.1 rfl (lv_room (Nat.le_of_ble_eq_true rfl)) dX4_drop_32 ⟨Nat.zero_le _, Nat.zero_le _⟩) hS hD hA (fun ws9 H locs hr9 hP hD hS => ?_)
    subst hr9
    refine lv_aload_n hx hb dX4_drop_35 rfl (lv_at hl 0 rfl) ?_
    refine va_get (D := E.1) (ci := 4) (C := RX4) (T := TX4) (N := 11) hx hb hts hinX4 hown hE.1 hP 0 rfl rfl 9 (by decide) (hts (.fieldLink RX4 49 "StakeHouse" "held" "I") (by decide +kernel)) (fun _ h9 => h9) rfl dX4_drop_36 ?_
    exact ret_Wi hx hb hr hlocks dX4_drop_39 hP hD hS (Or.inr ⟨c5, rfl, rfl⟩)
  · skip
    refine lv_bipush (v := (-2)) hx hb dX4_drop_8 (by decide) ?_
    exact ret_Wi hx hb hr hlocks dX4_drop_10 hP hD hS (Or.inl ⟨by omega, rfl, rfl⟩)
end
section
/-! the charts: rows of the best, kept; best, mean, stakes -/
def chOk (g : Nat) (gd : Nat → gT) (lo cnt what k : Nat) (rv : Nat → Nat → Int64) (c : Nat) : Prop := ∀ i, i < k → ∀ q, q ≤ g → rv (13 * c + i) q = lN (gBst g gd lo cnt what i q)
/-- all charts hold what they say -/
def chV (g : Nat) (gd : Nat → gT) (cf ce ck : Nat → Nat) (rv : Nat → Nat → Int64) : Prop := ∀ c, c < 3 → cf c ≤ 4 ∧ ce c ≤ 4 ∧ ck c ≤ 13 ∧ chOk g gd (cf c) (ce c - cf c) (if c = 1 then 2 else 0) (ck c) rv c
theorem b49 {t : Nat} (h : t ≤ 11) : 32 * 16 ^ t ≤ 2 ^ 49 := by
  have := pow16_le h
  have e : 32 * 16 ^ 11 = 2 ^ 49 := by decide
  omega
theorem b53 {t : Nat} (h : t ≤ 12) : 32 * 16 ^ t ≤ 2 ^ 53 := by
  have := pow16_le h
  have e : 32 * 16 ^ 12 = 2 ^ 53 := by decide
  omega
set_option maxHeartbeats 4000000 in
set_option maxRecDepth 100000 in
/-- chartRow -/
theorem c_chartRow (l : Launch) (E : eT) (ad : Nat → Nat) (g hz n : Nat) (mk : Int64) (td : Nat → Int32) (gr : Nat → Option Nat) (cf ce ck : Nat → Nat) (rv : Nat → Nat → Int64) (st : Nat → Int32) (wo : Nat → Nat → Int64) (rest : va_W) (hg2 : 2 ≤ g) (hg32 : g ≤ 32) (hn : n ≤ 4) (pl ga gb : Nat → Nat) (gd : Nat → gT) (hGA : gAll E rest gr n pl ga gb gd) (c : Nat) (hc : c < 3) (lo cnt : Nat) (hlo : cf c = lo) (hhi : ce c = lo + cnt) (hlc : lo + cnt ≤ n) (hck : ck c ≤ 13) (hch : chOk g gd lo cnt (if c = 1 then 2 else 0) (ck c) rv c) (t : Nat) (ht : t ≤ 12) : mWr l yX4_chartRow wsX4_chartRow 4 110 0 0 E (wX E ad g hz n mk td gr cf ce ck rv st wo ++ rest) [.ref (ad 0), .ref (ad (3 + c)), .int (nI t)] (fun u : Nat × va_W => u.1 = ad (13 + (13 * c + t)) ∧ ∃ rv1 : Nat → Nat → Int64, (∀ j, (j < 13 * c ∨ 13 * c + 13 ≤ j) → rv1 j = rv j) ∧ chOk g gd lo cnt (if c = 1 then 2 else 0) (max (ck c) (t + 1)) rv1 c ∧ u.2 = wX E ad g hz n mk td gr cf ce (va_up ck c (max (ck c) (t + 1))) rv1 st wo ++ rest) := by
  intro sz
  refine mW_of (cc := cX4_chartRow) (maxL := 5) (ret := (some (.array .long))) (Qc := fun sz => va_Qr (fun u : Nat × va_W => u.1 = ad (13 + (13 * c + t)) ∧ ∃ rv1 : Nat → Nat → Int64, (∀ j, (j < 13 * c ∨ 13 * c + 13 ≤ j) → rv1 j = rv j) ∧ chOk g gd lo cnt (if c = 1 then 2 else 0) (max (ck c) (t + 1)) rv1 c ∧ u.2 = wX E ad g hz n mk td gr cf ce (va_up ck c (max (ck c) (t + 1))) rv1 st wo ++ rest) (fun u a t => u.1 = a ∧ eAt E (va_A (wX E ad g hz n mk td gr cf ce ck rv st wo ++ rest) sz) u.2 t) (va_A (wX E ad g hz n mk td gr cf ce ck rv st wo ++ rest) sz)) (by decide) rfl (Nat.le_of_ble_eq_true rfl) ?_
  intro p0 e0 s m below meth c0 ls hx hb hr hml hts hown hlocks hin hE hP hD hl
  have hS : va_S (va_A (wX E ad g hz n mk td gr cf ce ck rv st wo ++ rest) s.heap.size) s.heap s.heap [] := va_S.rf
  have hA : ∀ q, s.heap.size ≤ q → (va_A (wX E ad g hz n mk td gr cf ce ck rv st wo ++ rest) s.heap.size) q := fun q h => Or.inr h
  have hown : s.vm.findClass RX4 = some m.cls := hown
  have hl : lv_has ls 5 [(0, .ref (ad 0)), (1, .ref (ad (3 + c))), (2, .int (nI t))] := hl
  have hinX4 : ∀ w ∈ wsX40, w ∈ wsX4_chartRow := by decide +kernel
  have hinX0 : ∀ w ∈ wsX00, w ∈ wsX4_chartRow := by decide +kernel
  subst hlo
  have hOk : ∀ i, i < cnt → gOk (gd (cf c + i)) := fun i hi => (hGA _ (by omega)).2.2.2
  refine lv_aload_n hx hb dX4_chartRow_0 rfl (lv_at hl 1 rfl) ?_
  refine va_getN (D := E.1) (ci := 0) (C := RX0) (T := TX0) (N := 5) hx hb hts hinX0 hown hE.1 hP (3 + c) (wX_C hc) rfl 4 (by decide) (va_Nw.use rfl (hE.2 (.fieldLinkNest RX4 151 RX0 "known" "I" RX4) (by decide +kernel))) (fun _ h9 => h9) rfl dX4_chartRow_1 ?_
  refine st_i1 hx hb 3 dX4_chartRow_4 rfl hl (by decide) rfl (fun ls hl => ?_)
  refine wLoopH (max (ck c) (t + 1)) (ck c) (fun i H locs ls => ck c ≤ i ∧ ∃ rv1 : Nat → Nat → Int64, (∀ j, (j < 13 * c ∨ 13 * c + 13 ≤ j) → rv1 j = rv j) ∧ chOk g gd (cf c) cnt (if c = 1 then 2 else 0) i rv1 c ∧ va_P E.1 vwCl (wX E ad g hz n mk td gr cf ce (va_up ck c i) rv1 st wo ++ rest) H ∧ va_D (va_A (wX E ad g hz n mk td gr cf ce ck rv st wo ++ rest) s.heap.size) (wX E ad g hz n mk td gr cf ce (va_up ck c i) rv1 st wo ++ rest) ∧ va_S (va_A (wX E ad g hz n mk td gr cf ce ck rv st wo ++ rest) s.heap.size) s.heap H locs ∧ lv_has ls 5 [(0, .ref (ad 0)), (1, .ref (ad (3 + c))), (2, .int (nI t)), (3, .int (nI i))]) (Nat.le_max_left _ _) (fun i H locs ls hi_i hI ih => ?_) (fun H locs ls hI => ?_) ⟨Nat.le_refl _, rv, fun _ _ => rfl, hch, (by rw [vu_self]; exact hP), (by rw [vu_self]; exact hD), hS, hl⟩
  · skip
    obtain ⟨hki, rv1, hr1, hrow, hP, hD, hS, hl⟩ := hI
    refine lv_iload_n hx hb dX4_chartRow_5 rfl (lv_at hl 3 rfl) ?_
    refine lv_iload_n hx hb dX4_chartRow_6 rfl (lv_at hl 2 rfl) ?_
    refine n_gt hx hb (by omega) (by omega) 83 dX4_chartRow_7 (by decide) (fun c7 => ?_) (fun c7 => ?_)
    · skip
      exact absurd c7 (by omega)
    · skip
      refine lv_iconst (v := nI 0) hx hb dX4_chartRow_10 (by decide) ?_
      refine st_i2 hx hb 4 dX4_chartRow_11 hl (by decide) rfl (fun ls hl => ?_)
      refine wLoopH (g + 1) 0 (fun k H locs ls => ∃ rv2 : Nat → Nat → Int64, (∀ j, j ≠ 13 * c + i → rv2 j = rv1 j) ∧ (∀ q, q < k → rv2 (13 * c + i) q = lN (gBst g gd (cf c) cnt (if c = 1 then 2 else 0) i q)) ∧ va_P E.1 vwCl (wX E ad g hz n mk td gr cf ce (va_up ck c i) rv2 st wo ++ rest) H ∧ va_D (va_A (wX E ad g hz n mk td gr cf ce ck rv st wo ++ rest) s.heap.size) (wX E ad g hz n mk td gr cf ce (va_up ck c i) rv2 st wo ++ rest) ∧ va_S (va_A (wX E ad g hz n mk td gr cf ce ck rv st wo ++ rest) s.heap.size) s.heap H locs ∧ lv_has ls 5 [(0, .ref (ad 0)), (1, .ref (ad (3 + c))), (2, .int (nI t)), (3, .int (nI i)), (4, .int (nI k))]) (Nat.zero_le _) (fun k H locs ls hi_k hI ihk => ?_) (fun H locs ls hI => ?_) ⟨rv1, fun _ _ => rfl, fun q hq => absurd hq (by omega), hP, hD, hS, hl⟩
      · skip
        obtain ⟨rv2, hr2, hk2, hP, hD, hS, hl⟩ := hI
        refine lv_iload hx hb dX4_chartRow_13 (lv_at hl 4 rfl) ?_
        refine lv_aload_n hx hb dX4_chartRow_15 rfl (lv_at hl 0 rfl) ?_
        refine va_get (D := E.1) (ci := 4) (C := RX4) (T := TX4) (N := 11) hx hb hts hinX4 hown hE.1 hP 0 rfl rfl 7 (by decide) (hts (.fieldLink RX4 42 "StakeHouse" "goal" "I") (by decide +kernel)) (fun _ h9 => h9) rfl dX4_chartRow_16 ?_
        refine n_gt hx hb (by omega) (by omega) 70 dX4_chartRow_19 (by decide) (fun c19 => ?_) (fun c19 => ?_)
        · skip
          exact absurd c19 (by omega)
        · skip
          refine lv_aload_n hx hb dX4_chartRow_22 rfl (lv_at hl 1 rfl) ?_
          refine va_getN (D := E.1) (ci := 0) (C := RX0) (T := TX0) (N := 5) hx hb hts hinX0 hown hE.1 hP (3 + c) (wX_C hc) rfl 1 (by decide) (va_Nw.use rfl (hE.2 (.fieldLinkNest RX4 154 RX0 "rows" "[[J" RX4) (by decide +kernel))) (fun _ h9 => h9) rfl dX4_chartRow_23 ?_
          refine lv_iload_n hx hb dX4_chartRow_26 rfl (lv_at hl 3 rfl) ?_
          refine va_ald2 hx hb hE.1 hP (10 + c) 3 (wX_O hc) rfl (vp_in_nI (by omega) (by decide)) dX4_chartRow_27 ?_
          refine tp_r (xR_at (by omega)) ?_
          refine lv_iload hx hb dX4_chartRow_28 (lv_at hl 4 rfl) ?_
          refine lv_iload_n hx hb dX4_chartRow_30 rfl (lv_at hl 3 rfl) ?_
          refine lv_iconst (v := nI 1) hx hb dX4_chartRow_31 (by decide) ?_
          refine n_ge hx hb (by omega) (by omega) 48 dX4_chartRow_32 (by decide) (fun c32 => ?_) (fun c32 => ?_)
          · skip
            obtain ⟨z, rfl⟩ : ∃ z, i = z + 1 := ⟨i - 1, by omega⟩
            refine lv_aload_n hx hb dX4_chartRow_48 rfl (lv_at hl 0 rfl) ?_
            refine lv_aload_n hx hb dX4_chartRow_49 rfl (lv_at hl 1 rfl) ?_
            refine lv_aload_n hx hb dX4_chartRow_50 rfl (lv_at hl 1 rfl) ?_
            refine va_getN (D := E.1) (ci := 0) (C := RX0) (T := TX0) (N := 5) hx hb hts hinX0 hown hE.1 hP (3 + c) (wX_C hc) rfl 1 (by decide) (va_Nw.use rfl (hE.2 (.fieldLinkNest RX4 154 RX0 "rows" "[[J" RX4) (by decide +kernel))) (fun _ h9 => h9) rfl dX4_chartRow_51 ?_
            refine lv_iload_n hx hb dX4_chartRow_54 rfl (lv_at hl 3 rfl) ?_
            refine lv_iconst (v := nI 1) hx hb dX4_chartRow_55 (by decide) ?_
            refine lv_isub hx hb dX4_chartRow_56 ?_
            refine tp_i (show _ = nI z from nI_pred z) ?_
            refine va_ald2 hx hb hE.1 hP (10 + c) 3 (wX_O hc) rfl (vp_in_nI (by omega) (by decide)) dX4_chartRow_57 ?_
            refine tp_r (xR_at (by omega)) ?_
            refine lv_iload hx hb dX4_chartRow_58 (lv_at hl 4 rfl) ?_
            refine vp_callSl (W.runV ⟨hx, hb, hml, hown, hts⟩ (c_greatestTurn l E _ ad g hz n mk rfl hg2 hg32 hn gr rfl (fun i => 52 + pl i) ga gb gd (gAll_of hGA) (3 + c) (ad (3 + c)) (if c = 1 then 2 else 0) (ad (10 + c)) _ (cf c) cnt hlc (by rw [← hhi]; exact wX_C hc) (13 + (13 * c + z)) (ad (13 + (13 * c + z))) (rv2 (13 * c + z)) (gBst g gd (cf c) cnt (if c = 1 then 2 else 0) z) (wX_R (by omega)) (fun j hj => by rw [hr2 _ (by omega)]; exact hrow z (by omega) j hj) (fun j hj => Nat.le_trans (gBst_le hg32 hOk z j hj) (b49 (by omega))) k (by omega)) (cwV 3 hts gX4_chartRow_X4_greatestTurn rfl rfl rfl (by decide +kernel) ⟨Nat.le_of_ble_eq_true rfl, Nat.le_of_ble_eq_true rfl⟩) (ePu_V hP hE (ci := 4) (k := 0) rfl rfl) rfl rfl hl.1 rfl (lv_room (Nat.le_of_ble_eq_true rfl)) dX4_chartRow_60 ⟨Nat.zero_le _, Nat.zero_le _⟩) (fun r9 hr9 => ?_)
            subst hr9
            refine va_last hx hb hE.1 hP hD hS (13 + (13 * c + (z + 1))) 1 (wX_R (by omega)) rfl (vp_in_nI (by omega) (by decide)) dX4_chartRow_63 (fun H locs hP hD hS => ?_)
            rw [wX_setR (by omega), nI_clamp (by omega)] at hP hD
            refine st_inc hx hb 4 dX4_chartRow_64 hl rfl (nI_1 _) (by decide) rfl (fun ls hl => ?_)
            refine lv_goto (tgt := 13) hx hb dX4_chartRow_67 (by decide) ?_
            refine ihk _ _ _ ⟨_, fun j hj => (vu_no hj).trans (hr2 j hj), fun q hq => ?_, hP, hD, hS, hl⟩
            rw [vu_at]
            by_cases hqk : q = k
            · subst hqk; exact pk_uLs
            · rw [pk_uLn hqk]; exact hk2 q (by omega)
          · skip
            obtain rfl : i = 0 := by omega
            refine lv_aload_n hx hb dX4_chartRow_35 rfl (lv_at hl 0 rfl) ?_
            refine lv_aload_n hx hb dX4_chartRow_36 rfl (lv_at hl 1 rfl) ?_
            refine va_getN (D := E.1) (ci := 0) (C := RX0) (T := TX0) (N := 5) hx hb hts hinX0 hown hE.1 hP (3 + c) (wX_C hc) rfl 0 (by decide) (va_Nw.use rfl (hE.2 (.fieldLinkNest RX4 157 RX0 "what" "I" RX4) (by decide +kernel))) (fun _ h9 => h9) rfl dX4_chartRow_37 ?_
            refine lv_iload hx hb dX4_chartRow_40 (lv_at hl 4 rfl) ?_
            refine vp_callSl (W.runV ⟨hx, hb, hml, hown, hts⟩ (c_endWorth l E _ ad g hz n mk rfl hg32 (if c = 1 then 2 else 0) k (by split <;> omega) (by omega)) (cwV 2 hts gX4_chartRow_X4_endWorth rfl rfl rfl (by decide +kernel) ⟨Nat.le_of_ble_eq_true rfl, Nat.le_of_ble_eq_true rfl⟩) (ePu_V hP hE (ci := 4) (k := 0) rfl rfl) rfl rfl hl.1 rfl (lv_room (Nat.le_of_ble_eq_true rfl)) dX4_chartRow_42 ⟨Nat.zero_le _, Nat.zero_le _⟩) (fun r9 hr9 => ?_)
            subst hr9
            refine lv_goto (tgt := 63) hx hb dX4_chartRow_45 (by decide) ?_
            refine va_last hx hb hE.1 hP hD hS (13 + (13 * c + 0)) 1 (wX_R (by omega)) rfl (vp_in_nI (by omega) (by decide)) dX4_chartRow_63 (fun H locs hP hD hS => ?_)
            rw [wX_setR (by omega), nI_clamp (by omega)] at hP hD
            refine st_inc hx hb 4 dX4_chartRow_64 hl rfl (nI_1 _) (by decide) rfl (fun ls hl => ?_)
            refine lv_goto (tgt := 13) hx hb dX4_chartRow_67 (by decide) ?_
            refine ihk _ _ _ ⟨_, fun j hj => (vu_no hj).trans (hr2 j hj), fun q hq => ?_, hP, hD, hS, hl⟩
            rw [vu_at]
            by_cases hqk : q = k
            · subst hqk; exact pk_uLs
            · rw [pk_uLn hqk]; exact hk2 q (by omega)
      · skip
        obtain ⟨rv2, hr2, hk2, hP, hD, hS, hl⟩ := hI
        refine lv_iload hx hb dX4_chartRow_13 (lv_at hl 4 rfl) ?_
        refine lv_aload_n hx hb dX4_chartRow_15 rfl (lv_at hl 0 rfl) ?_
        refine va_get (D := E.1) (ci := 4) (C := RX4) (T := TX4) (N := 11) hx hb hts hinX4 hown hE.1 hP 0 rfl rfl 7 (by decide) (hts (.fieldLink RX4 42 "StakeHouse" "goal" "I") (by decide +kernel)) (fun _ h9 => h9) rfl dX4_chartRow_16 ?_
        refine n_gt hx hb (by omega) (by omega) 70 dX4_chartRow_19 (by decide) (fun c19 => ?_) (fun c19 => ?_)
        · skip
          refine lv_aload_n hx hb dX4_chartRow_70 rfl (lv_at hl 1 rfl) ?_
          refine lv_iload_n hx hb dX4_chartRow_71 rfl (lv_at hl 3 rfl) ?_
          refine lv_iconst (v := nI 1) hx hb dX4_chartRow_72 (by decide) ?_
          refine lv_iadd hx hb dX4_chartRow_73 ?_
          refine tp_i (nI_add _ _) ?_
          refine va_putN (D := E.1) (ci := 0) (ty := .int) (C := RX0) (T := TX0) (N := 5) hx hb hts hinX0 tyX0 tyX0_ok nmX0 hown hE.1 hP hD hS (3 + c) (wX_C hc) rfl 4 (by decide) (va_Nw.use rfl (hE.2 (.fieldLinkNest RX4 151 RX0 "known" "I" RX4) (by decide +kernel))) (fun _ h9 => h9) rfl (by decide +kernel) rfl rfl (Nat.le_of_ble_eq_true rfl) dX4_chartRow_74 (fun H locs hP hD hS => ?_)
          have hP : va_P E.1 vwCl (wX E ad g hz n mk td gr cf ce (va_up ck c (i + 1)) rv2 st wo ++ rest) H := by rw [← bx_uu ck c i (i + 1), ← wX_setCk hc]; exact hP
          have hD : va_D (va_A (wX E ad g hz n mk td gr cf ce ck rv st wo ++ rest) s.heap.size) (wX E ad g hz n mk td gr cf ce (va_up ck c (i + 1)) rv2 st wo ++ rest) := by rw [← bx_uu ck c i (i + 1), ← wX_setCk hc]; exact hD
          refine st_inc hx hb 3 dX4_chartRow_77 hl rfl (nI_1 _) (by decide) rfl (fun ls hl => ?_)
          refine lv_goto (tgt := 5) hx hb dX4_chartRow_80 (by decide) ?_
          refine ih _ _ _ ⟨by omega, rv2, fun j hj => (hr2 j (by omega)).trans (hr1 j hj), fun k hk q hq => ?_, hP, hD, hS, lv_sub hl [0, 1, 2, 3] rfl⟩
          by_cases hki : k = i
          · subst hki; exact hk2 q (by omega)
          · rw [hr2 _ (by omega)]; exact hrow k (by omega) q hq
        · skip
          exact absurd c19 (by omega)
  · skip
    obtain ⟨hki, rv1, hr1, hrow, hP, hD, hS, hl⟩ := hI
    refine lv_iload_n hx hb dX4_chartRow_5 rfl (lv_at hl 3 rfl) ?_
    refine lv_iload_n hx hb dX4_chartRow_6 rfl (lv_at hl 2 rfl) ?_
    refine n_gt hx hb (by omega) (by omega) 83 dX4_chartRow_7 (by decide) (fun c7 => ?_) (fun c7 => ?_)
    · skip
      refine lv_aload_n hx hb dX4_chartRow_83 rfl (lv_at hl 1 rfl) ?_
      refine va_getN (D := E.1) (ci := 0) (C := RX0) (T := TX0) (N := 5) hx hb hts hinX0 hown hE.1 hP (3 + c) (wX_C hc) rfl 1 (by decide) (va_Nw.use rfl (hE.2 (.fieldLinkNest RX4 154 RX0 "rows" "[[J" RX4) (by decide +kernel))) (fun _ h9 => h9) rfl dX4_chartRow_84 ?_
      refine lv_iload_n hx hb dX4_chartRow_87 rfl (lv_at hl 2 rfl) ?_
      refine va_ald2 hx hb hE.1 hP (10 + c) 3 (wX_O hc) rfl (vp_in_nI (by omega) (by decide)) dX4_chartRow_88 ?_
      refine tp_r (xR_at (by omega)) ?_
      exact ret_Wr hx hb hr (Or.inr ⟨_, rfl⟩) hlocks dX4_chartRow_89 hP hD hS ⟨rfl, rv1, hr1, hrow, rfl⟩
    · skip
      exact absurd c7 (by omega)
/-- behind cover: the charts still hold what they say, and this one is of the games lo .. lo + cnt -/
theorem cov_of {E : eT} {ad : Nat → Nat} {g hz n : Nat} {mk : Int64} {td : Nat → Int32} {gr : Nat → Option Nat} {cf ce ck : Nat → Nat} {rv : Nat → Nat → Int64} {st : Nat → Int32} {wo : Nat → Nat → Int64} {rest ws1 : va_W} {gd : Nat → gT} {c lo cnt : Nat} (hc : c < 3) (hl4 : lo + cnt ≤ 4) (hV : chV g gd cf ce ck rv)
    (h : (lo = cf c ∧ lo + cnt = ce c ∧ ws1 = wX E ad g hz n mk td gr cf ce ck rv st wo ++ rest) ∨ (¬ (lo = cf c ∧ lo + cnt = ce c) ∧ ws1 = (wX E ad g hz n mk td gr cf ce ck rv st wo ++ rest).set (3 + c) (ad (3 + c), .inr (0, [.int (nI (if c = 1 then 2 else 0)), .ref (ad (10 + c)), .int (nI lo), .int (nI (lo + cnt)), .int (nI 0)])))) :
    ∃ cf1 ce1 ck1 : Nat → Nat, chV g gd cf1 ce1 ck1 rv ∧ cf1 c = lo ∧ ce1 c = lo + cnt ∧ ws1 = wX E ad g hz n mk td gr cf1 ce1 ck1 rv st wo ++ rest := by
  rcases h with ⟨h1, h2, rfl⟩ | ⟨-, rfl⟩
  · exact ⟨cf, ce, ck, hV, h1.symm, h2.symm, rfl⟩
  · refine ⟨_, _, _, ?_, vu_at _ _ _, vu_at _ _ _, wX_setC hc⟩
    intro c' hc'
    by_cases e : c' = c
    · subst e
      rw [vu_at, vu_at, vu_at]
      exact ⟨by omega, hl4, by omega, fun i hi => absurd hi (by omega)⟩
    · rw [vu_no e, vu_no e, vu_no e]
      exact hV c' hc'
theorem chV_row {g : Nat} {gd : Nat → gT} {cf ce ck : Nat → Nat} {rv rv1 : Nat → Nat → Int64} {c lo cnt k : Nat} (hV : chV g gd cf ce ck rv) (hlo : cf c = lo) (hhi : ce c = lo + cnt) (hk : k ≤ 13) (h1 : ∀ j, (j < 13 * c ∨ 13 * c + 13 ≤ j) → rv1 j = rv j) (h2 : chOk g gd lo cnt (if c = 1 then 2 else 0) k rv1 c) : chV g gd cf ce (va_up ck c k) rv1 := by
  intro c' hc'
  obtain ⟨a1, a2, a3, a4⟩ := hV c' hc'
  by_cases e : c' = c
  · subst e
    rw [vu_at, hhi, hlo, show lo + cnt - lo = cnt by omega]
    exact ⟨by omega, by omega, hk, h2⟩
  · rw [vu_no e]
    refine ⟨a1, a2, a3, fun i hi q hq => ?_⟩
    rw [h1 _ (by omega)]
    exact a4 i hi q hq
/-- best's and mean's answer -/
def bst_of (g hz n : Nat) (gd : Nat → gT) (what : Nat) (qv tv : Int32) (r : Int64) : Prop := (∃ q t : Nat, qv = nI q ∧ tv = nI t ∧ q ≤ g ∧ t ≤ hz ∧ ((n = 0 ∧ r = -2) ∨ (1 ≤ n ∧ r = lN (gBst g gd 0 n what t q)))) ∨ ((¬ ((nI 0 ≤ qv ∧ qv ≤ nI g) ∧ nI 0 ≤ tv ∧ tv ≤ nI hz)) ∧ r = -1)
set_option maxHeartbeats 4000000 in
set_option maxRecDepth 100000 in
/-- greatestFrom -/
theorem c_greatestFrom (l : Launch) (E : eT) (ad : Nat → Nat) (g hz n : Nat) (mk : Int64) (td : Nat → Int32) (gr : Nat → Option Nat) (cf ce ck : Nat → Nat) (rv : Nat → Nat → Int64) (st : Nat → Int32) (wo : Nat → Nat → Int64) (rest : va_W) (hg2 : 2 ≤ g) (hg32 : g ≤ 32) (hhz : hz ≤ 12) (hn : n ≤ 4) (pl ga gb : Nat → Nat) (gd : Nat → gT) (hGA : gAll E rest gr n pl ga gb gd) (hV : chV g gd cf ce ck rv) (c : Nat) (hc : c < 3) (qv tv : Int32) : mWl l yX4_greatestFrom wsX4_greatestFrom 5 140 0 0 E (wX E ad g hz n mk td gr cf ce ck rv st wo ++ rest) [.ref (ad 0), .ref (ad (3 + c)), .int qv, .int tv] (fun r ws1 => bst_of g hz n gd (if c = 1 then 2 else 0) qv tv r ∧ ∃ (cf1 ce1 ck1 : Nat → Nat) (rv1 : Nat → Nat → Int64), chV g gd cf1 ce1 ck1 rv1 ∧ ws1 = wX E ad g hz n mk td gr cf1 ce1 ck1 rv1 st wo ++ rest) := by
  intro sz
  refine mW_of (cc := cX4_greatestFrom) (maxL := 4) (ret := (some .long)) (Qc := fun sz => va_Ql (fun r ws1 => bst_of g hz n gd (if c = 1 then 2 else 0) qv tv r ∧ ∃ (cf1 ce1 ck1 : Nat → Nat) (rv1 : Nat → Nat → Int64), chV g gd cf1 ce1 ck1 rv1 ∧ ws1 = wX E ad g hz n mk td gr cf1 ce1 ck1 rv1 st wo ++ rest) (eAt E (va_A (wX E ad g hz n mk td gr cf ce ck rv st wo ++ rest) sz)) (va_A (wX E ad g hz n mk td gr cf ce ck rv st wo ++ rest) sz)) (by decide) rfl (Nat.le_of_ble_eq_true rfl) ?_
  intro p0 e0 s m below meth c0 ls hx hb hr hml hts hown hlocks hin hE hP hD hl
  have hS : va_S (va_A (wX E ad g hz n mk td gr cf ce ck rv st wo ++ rest) s.heap.size) s.heap s.heap [] := va_S.rf
  have hA : ∀ q, s.heap.size ≤ q → (va_A (wX E ad g hz n mk td gr cf ce ck rv st wo ++ rest) s.heap.size) q := fun q h => Or.inr h
  have hown : s.vm.findClass RX4 = some m.cls := hown
  have hl : lv_has ls 4 [(0, .ref (ad 0)), (1, .ref (ad (3 + c))), (2, .int qv), (3, .int tv)] := hl
  have hinX4 : ∀ w ∈ wsX40, w ∈ wsX4_greatestFrom := by decide +kernel
  refine lv_aload_n hx hb dX4_greatestFrom_0 rfl (lv_at hl 0 rfl) ?_
  refine lv_iload_n hx hb dX4_greatestFrom_1 rfl (lv_at hl 2 rfl) ?_
  refine lv_iload_n hx hb dX4_greatestFrom_2 rfl (lv_at hl 3 rfl) ?_
  refine vp_callSi (W.runV ⟨hx, hb, hml, hown, hts⟩ (c_isSpot l E _ ad g hz n mk rfl _ _) (cwV 2 hts gX4_greatestFrom_X4_isSpot rfl rfl rfl (by decide +kernel) ⟨Nat.le_of_ble_eq_true rfl, Nat.le_of_ble_eq_true rfl⟩) (ePu_V hP hE (ci := 4) (k := 0) rfl rfl) rfl rfl hl.1 rfl (lv_room (Nat.le_of_ble_eq_true rfl)) dX4_greatestFrom_3 ⟨Nat.zero_le _, Nat.zero_le _⟩) (fun r9 hr9 => ?_)
  subst hr9
  refine q_ne hx hb 13 dX4_greatestFrom_6 (by decide) (fun c6 => ?_) (fun c6 => ?_)
  · skip
    obtain ⟨⟨hq1, hq2⟩, ht1, ht2⟩ := c6
    obtain ⟨q, -, hq, rfl⟩ := nI_rng (by omega) ⟨hq1, hq2⟩ (by decide)
    obtain ⟨t, -, ht, rfl⟩ := nI_rng (by omega) ⟨ht1, ht2⟩ (by decide)
    refine lv_aload_n hx hb dX4_greatestFrom_13 rfl (lv_at hl 0 rfl) ?_
    refine va_get (D := E.1) (ci := 4) (C := RX4) (T := TX4) (N := 11) hx hb hts hinX4 hown hE.1 hP 0 rfl rfl 9 (by decide) (hts (.fieldLink RX4 49 "StakeHouse" "held" "I") (by decide +kernel)) (fun _ h9 => h9) rfl dX4_greatestFrom_14 ?_
    refine lv_iconst (v := nI 1) hx hb dX4_greatestFrom_17 (by decide) ?_
    refine n_ge hx hb (by omega) (by omega) 25 dX4_greatestFrom_18 (by decide) (fun c18 => ?_) (fun c18 => ?_)
    · skip
      refine lv_aload_n hx hb dX4_greatestFrom_25 rfl (lv_at hl 1 rfl) ?_
      refine lv_iconst (v := nI 0) hx hb dX4_greatestFrom_26 (by decide) ?_
      refine lv_aload_n hx hb dX4_greatestFrom_27 rfl (lv_at hl 0 rfl) ?_
      refine va_get (D := E.1) (ci := 4) (C := RX4) (T := TX4) (N := 11) hx hb hts hinX4 hown hE.1 hP 0 rfl rfl 9 (by decide) (hts (.fieldLink RX4 49 "StakeHouse" "held" "I") (by decide +kernel)) (fun _ h9 => h9) rfl dX4_greatestFrom_28 ?_
      refine cW_v (va_runV ⟨hx, hb, hml, hown, hts⟩ (c_cover l E _ (3 + c) (ad (3 + c)) (if c = 1 then 2 else 0) (ad (10 + c)) (cf c) (ce c) (ck c) 0 n (by have := (hV c hc).1; omega) (by have := (hV c hc).2.1; omega) (by decide) (by omega) (wX_C hc) _) (cwV 2 hts gX4_greatestFrom_X0_cover rfl rfl rfl (by decide +kernel) ⟨Nat.le_of_ble_eq_true rfl, Nat.le_of_ble_eq_true rfl⟩) (ePw_V hP hD hE (ci := 0) (k := (3 + c)) rfl (wX_C hc)) rfl rfl hl.1 rfl (lv_room (Nat.le_of_ble_eq_true rfl)) dX4_greatestFrom_31 ⟨Nat.zero_le _, Nat.zero_le _⟩) hS hD hA (fun ws9 H locs hr9 hP hD hS => ?_)
      obtain ⟨cf1, ce1, ck1, hV1, hlo, hhi, rfl⟩ := cov_of (lo := 0) (cnt := n) hc (by omega) hV (by rw [Nat.zero_add]; exact hr9)
      refine lv_aload_n hx hb dX4_greatestFrom_34 rfl (lv_at hl 0 rfl) ?_
      refine lv_aload_n hx hb dX4_greatestFrom_35 rfl (lv_at hl 1 rfl) ?_
      refine lv_iload_n hx hb dX4_greatestFrom_36 rfl (lv_at hl 3 rfl) ?_
      refine cW_r (va_runV ⟨hx, hb, hml, hown, hts⟩ (c_chartRow l E ad g hz n mk td gr cf1 ce1 ck1 rv st wo rest hg2 hg32 hn pl ga gb gd hGA c hc 0 n hlo hhi (by omega) (hV1 c hc).2.2.1 (by have := (hV1 c hc).2.2.2; rw [hhi, hlo, Nat.zero_add] at this; exact this) t (by omega) _) (cwV 2 hts gX4_greatestFrom_X4_chartRow rfl rfl rfl (by decide +kernel) ⟨Nat.le_of_ble_eq_true rfl, Nat.le_of_ble_eq_true rfl⟩) (ePw_V hP hD hE (ci := 4) (k := 0) rfl rfl) rfl rfl hl.1 rfl (lv_room (Nat.le_of_ble_eq_true rfl)) dX4_greatestFrom_37 ⟨Nat.zero_le _, Nat.zero_le _⟩) hS hD hA (fun r9 ws9 H locs hr9 hP hD hS => ?_)
      obtain ⟨rfl, rv1, hr1, hrow, rfl⟩ := hr9
      refine lv_iload_n hx hb dX4_greatestFrom_40 rfl (lv_at hl 2 rfl) ?_
      refine va_lald hx hb hE.1 hP (13 + (13 * c + t)) 1 (wX_R (by omega)) rfl (vp_in_nI (by omega) (by decide)) dX4_greatestFrom_41 ?_
      refine tp_l (show _ = lN (gBst g gd 0 n (if c = 1 then 2 else 0) t q) by rw [nI_clamp (by omega)]; exact hrow t (by omega) q hq) ?_
      exact ret_Wl hx hb hr hlocks dX4_greatestFrom_42 hP hD hS ⟨Or.inl ⟨q, t, rfl, rfl, hq, ht, Or.inr ⟨c18, rfl⟩⟩, cf1, ce1, _, rv1, chV_row hV1 hlo hhi (by have := (hV1 c hc).2.2.1; omega) hr1 hrow, rfl⟩
    · skip
      refine lv_ldc2 (v := -2) hx hb hown (hts (.constantLong RX4 149 (-2)) (by decide +kernel)) dX4_greatestFrom_21 ?_
      exact ret_Wl hx hb hr hlocks dX4_greatestFrom_24 hP hD hS ⟨Or.inl ⟨q, t, rfl, rfl, hq, ht, Or.inl ⟨by omega, rfl⟩⟩, cf, ce, ck, rv, hV, rfl⟩
  · skip
    refine lv_ldc2 (v := -1) hx hb hown (hts (.constantLong RX4 93 (-1)) (by decide +kernel)) dX4_greatestFrom_9 ?_
    exact ret_Wl hx hb hr hlocks dX4_greatestFrom_12 hP hD hS ⟨Or.inr ⟨c6, rfl⟩, cf, ce, ck, rv, hV, rfl⟩
set_option maxHeartbeats 4000000 in
set_option maxRecDepth 100000 in
/-- best -/
theorem c_best (l : Launch) (E : eT) (ad : Nat → Nat) (g hz n : Nat) (mk : Int64) (td : Nat → Int32) (gr : Nat → Option Nat) (cf ce ck : Nat → Nat) (rv : Nat → Nat → Int64) (st : Nat → Int32) (wo : Nat → Nat → Int64) (rest : va_W) (hg2 : 2 ≤ g) (hg32 : g ≤ 32) (hhz : hz ≤ 12) (hn : n ≤ 4) (pl ga gb : Nat → Nat) (gd : Nat → gT) (hGA : gAll E rest gr n pl ga gb gd) (hV : chV g gd cf ce ck rv) (qv tv : Int32) : mWl l yX4_best wsX4_best 6 170 0 0 E (wX E ad g hz n mk td gr cf ce ck rv st wo ++ rest) [.ref (ad 0), .int qv, .int tv] (fun r ws1 => bst_of g hz n gd 0 qv tv r ∧ ∃ (cf1 ce1 ck1 : Nat → Nat) (rv1 : Nat → Nat → Int64), chV g gd cf1 ce1 ck1 rv1 ∧ ws1 = wX E ad g hz n mk td gr cf1 ce1 ck1 rv1 st wo ++ rest) := by
  intro sz
  refine mW_of (cc := cX4_best) (maxL := 3) (ret := (some .long)) (Qc := fun sz => va_Ql (fun r ws1 => bst_of g hz n gd 0 qv tv r ∧ ∃ (cf1 ce1 ck1 : Nat → Nat) (rv1 : Nat → Nat → Int64), chV g gd cf1 ce1 ck1 rv1 ∧ ws1 = wX E ad g hz n mk td gr cf1 ce1 ck1 rv1 st wo ++ rest) (eAt E (va_A (wX E ad g hz n mk td gr cf ce ck rv st wo ++ rest) sz)) (va_A (wX E ad g hz n mk td gr cf ce ck rv st wo ++ rest) sz)) (by decide) rfl (Nat.le_of_ble_eq_true rfl) ?_
  intro p0 e0 s m below meth c0 ls hx hb hr hml hts hown hlocks hin hE hP hD hl
  have hS : va_S (va_A (wX E ad g hz n mk td gr cf ce ck rv st wo ++ rest) s.heap.size) s.heap s.heap [] := va_S.rf
  have hA : ∀ q, s.heap.size ≤ q → (va_A (wX E ad g hz n mk td gr cf ce ck rv st wo ++ rest) s.heap.size) q := fun q h => Or.inr h
  have hown : s.vm.findClass RX4 = some m.cls := hown
  have hl : lv_has ls 3 [(0, .ref (ad 0)), (1, .int qv), (2, .int tv)] := hl
  have hinX4 : ∀ w ∈ wsX40, w ∈ wsX4_best := by decide +kernel
  refine lv_aload_n hx hb dX4_best_0 rfl (lv_at hl 0 rfl) ?_
  refine lv_aload_n hx hb dX4_best_1 rfl (lv_at hl 0 rfl) ?_
  refine va_get (D := E.1) (ci := 4) (C := RX4) (T := TX4) (N := 11) hx hb hts hinX4 hown hE.1 hP 0 rfl rfl 2 (by decide) (hts (.fieldLink RX4 24 "StakeHouse" "bestChart" "LStakeHouse$Chart;") (by decide +kernel)) (fun _ h9 => h9) rfl dX4_best_2 ?_
  refine lv_iload_n hx hb dX4_best_5 rfl (lv_at hl 1 rfl) ?_
  refine lv_iload_n hx hb dX4_best_6 rfl (lv_at hl 2 rfl) ?_
  refine cW_l (va_runV ⟨hx, hb, hml, hown, hts⟩ (c_greatestFrom l E ad g hz n mk td gr cf ce ck rv st wo rest hg2 hg32 hhz hn pl ga gb gd hGA hV 0 (by decide) qv tv _) (cwV 3 hts gX4_best_X4_greatestFrom rfl rfl rfl (by decide +kernel) ⟨Nat.le_of_ble_eq_true rfl, Nat.le_of_ble_eq_true rfl⟩) (ePw_V hP hD hE (ci := 4) (k := 0) rfl rfl) rfl rfl hl.1 rfl (lv_room (Nat.le_of_ble_eq_true rfl)) dX4_best_7 ⟨Nat.zero_le _, Nat.zero_le _⟩) hS hD hA (fun r9 ws9 H locs hr9 hP hD hS => ?_)
  obtain ⟨hr0, cf1, ce1, ck1, rv1, hV1, rfl⟩ := hr9
  exact ret_Wl hx hb hr hlocks dX4_best_10 hP hD hS ⟨hr0, cf1, ce1, ck1, rv1, hV1, rfl⟩
set_option maxHeartbeats 4000000 in
set_option maxRecDepth 100000 in
/-- mean -/
theorem c_mean (l : Launch) (E : eT) (ad : Nat → Nat) (g hz n : Nat) (mk : Int64) (td : Nat → Int32) (gr : Nat → Option Nat) (cf ce ck : Nat → Nat) (rv : Nat → Nat → Int64) (st : Nat → Int32) (wo : Nat → Nat → Int64) (rest : va_W) (hg2 : 2 ≤ g) (hg32 : g ≤ 32) (hhz : hz ≤ 12) (hn : n ≤ 4) (pl ga gb : Nat → Nat) (gd : Nat → gT) (hGA : gAll E rest gr n pl ga gb gd) (hV : chV g gd cf ce ck rv) (qv tv : Int32) : mWl l yX4_mean wsX4_mean 6 170 0 0 E (wX E ad g hz n mk td gr cf ce ck rv st wo ++ rest) [.ref (ad 0), .int qv, .int tv] (fun r ws1 => bst_of g hz n gd 2 qv tv r ∧ ∃ (cf1 ce1 ck1 : Nat → Nat) (rv1 : Nat → Nat → Int64), chV g gd cf1 ce1 ck1 rv1 ∧ ws1 = wX E ad g hz n mk td gr cf1 ce1 ck1 rv1 st wo ++ rest) := by
  intro sz
  refine mW_of (cc := cX4_mean) (maxL := 3) (ret := (some .long)) (Qc := fun sz => va_Ql (fun r ws1 => bst_of g hz n gd 2 qv tv r ∧ ∃ (cf1 ce1 ck1 : Nat → Nat) (rv1 : Nat → Nat → Int64), chV g gd cf1 ce1 ck1 rv1 ∧ ws1 = wX E ad g hz n mk td gr cf1 ce1 ck1 rv1 st wo ++ rest) (eAt E (va_A (wX E ad g hz n mk td gr cf ce ck rv st wo ++ rest) sz)) (va_A (wX E ad g hz n mk td gr cf ce ck rv st wo ++ rest) sz)) (by decide) rfl (Nat.le_of_ble_eq_true rfl) ?_
  intro p0 e0 s m below meth c0 ls hx hb hr hml hts hown hlocks hin hE hP hD hl
  have hS : va_S (va_A (wX E ad g hz n mk td gr cf ce ck rv st wo ++ rest) s.heap.size) s.heap s.heap [] := va_S.rf
  have hA : ∀ q, s.heap.size ≤ q → (va_A (wX E ad g hz n mk td gr cf ce ck rv st wo ++ rest) s.heap.size) q := fun q h => Or.inr h
  have hown : s.vm.findClass RX4 = some m.cls := hown
  have hl : lv_has ls 3 [(0, .ref (ad 0)), (1, .int qv), (2, .int tv)] := hl
  have hinX4 : ∀ w ∈ wsX40, w ∈ wsX4_mean := by decide +kernel
  refine lv_aload_n hx hb dX4_mean_0 rfl (lv_at hl 0 rfl) ?_
  refine lv_aload_n hx hb dX4_mean_1 rfl (lv_at hl 0 rfl) ?_
  refine va_get (D := E.1) (ci := 4) (C := RX4) (T := TX4) (N := 11) hx hb hts hinX4 hown hE.1 hP 0 rfl rfl 3 (by decide) (hts (.fieldLink RX4 28 "StakeHouse" "meanChart" "LStakeHouse$Chart;") (by decide +kernel)) (fun _ h9 => h9) rfl dX4_mean_2 ?_
  refine lv_iload_n hx hb dX4_mean_5 rfl (lv_at hl 1 rfl) ?_
  refine lv_iload_n hx hb dX4_mean_6 rfl (lv_at hl 2 rfl) ?_
  refine cW_l (va_runV ⟨hx, hb, hml, hown, hts⟩ (c_greatestFrom l E ad g hz n mk td gr cf ce ck rv st wo rest hg2 hg32 hhz hn pl ga gb gd hGA hV 1 (by decide) qv tv _) (cwV 3 hts gX4_mean_X4_greatestFrom rfl rfl rfl (by decide +kernel) ⟨Nat.le_of_ble_eq_true rfl, Nat.le_of_ble_eq_true rfl⟩) (ePw_V hP hD hE (ci := 4) (k := 0) rfl rfl) rfl rfl hl.1 rfl (lv_room (Nat.le_of_ble_eq_true rfl)) dX4_mean_7 ⟨Nat.zero_le _, Nat.zero_le _⟩) hS hD hA (fun r9 ws9 H locs hr9 hP hD hS => ?_)
  obtain ⟨hr0, cf1, ce1, ck1, rv1, hV1, rfl⟩ := hr9
  exact ret_Wl hx hb hr hlocks dX4_mean_10 hP hD hS ⟨hr0, cf1, ce1, ck1, rv1, hV1, rfl⟩
/-- stakes' answer -/
def sts_of (g hz n : Nat) (gd : Nat → gT) (iv qv tv : Int32) (r : Int64) : Prop := (∃ i q t : Nat, iv = nI i ∧ qv = nI q ∧ tv = nI t ∧ i < n ∧ q ≤ g ∧ 1 ≤ t ∧ t ≤ hz ∧ r = if 1 ≤ q ∧ q < g then gBits g (gd i) (gBst g gd 0 n 0 (t - 1)) q (gBst g gd 0 n 0 t q) (min q (gL (gd i))) else lN 0) ∨ ((¬ ∃ i q t : Nat, iv = nI i ∧ qv = nI q ∧ tv = nI t ∧ i < n ∧ q ≤ g ∧ 1 ≤ t ∧ t ≤ hz) ∧ r = -1)
set_option maxHeartbeats 4000000 in
set_option maxRecDepth 100000 in
/-- stakes -/
theorem c_stakes (l : Launch) (E : eT) (ad : Nat → Nat) (g hz n : Nat) (mk : Int64) (td : Nat → Int32) (gr : Nat → Option Nat) (cf ce ck : Nat → Nat) (rv : Nat → Nat → Int64) (st : Nat → Int32) (wo : Nat → Nat → Int64) (rest : va_W) (hg2 : 2 ≤ g) (hg32 : g ≤ 32) (hhz : hz ≤ 12) (hn : n ≤ 4) (pl ga gb : Nat → Nat) (gd : Nat → gT) (hGA : gAll E rest gr n pl ga gb gd) (hV : chV g gd cf ce ck rv) (iv qv tv : Int32) : mWl l yX4_stakes wsX4_stakes 5 140 0 0 E (wX E ad g hz n mk td gr cf ce ck rv st wo ++ rest) [.ref (ad 0), .int iv, .int qv, .int tv] (fun r ws1 => sts_of g hz n gd iv qv tv r ∧ ∃ (cf1 ce1 ck1 : Nat → Nat) (rv1 : Nat → Nat → Int64), chV g gd cf1 ce1 ck1 rv1 ∧ ws1 = wX E ad g hz n mk td gr cf1 ce1 ck1 rv1 st wo ++ rest) := by
  intro sz
  refine mW_of (cc := cX4_stakes) (maxL := 5) (ret := (some .long)) (Qc := fun sz => va_Ql (fun r ws1 => sts_of g hz n gd iv qv tv r ∧ ∃ (cf1 ce1 ck1 : Nat → Nat) (rv1 : Nat → Nat → Int64), chV g gd cf1 ce1 ck1 rv1 ∧ ws1 = wX E ad g hz n mk td gr cf1 ce1 ck1 rv1 st wo ++ rest) (eAt E (va_A (wX E ad g hz n mk td gr cf ce ck rv st wo ++ rest) sz)) (va_A (wX E ad g hz n mk td gr cf ce ck rv st wo ++ rest) sz)) (by decide) rfl (Nat.le_of_ble_eq_true rfl) ?_
  intro p0 e0 s m below meth c0 ls hx hb hr hml hts hown hlocks hin hE hP hD hl
  have hS : va_S (va_A (wX E ad g hz n mk td gr cf ce ck rv st wo ++ rest) s.heap.size) s.heap s.heap [] := va_S.rf
  have hA : ∀ q, s.heap.size ≤ q → (va_A (wX E ad g hz n mk td gr cf ce ck rv st wo ++ rest) s.heap.size) q := fun q h => Or.inr h
  have hown : s.vm.findClass RX4 = some m.cls := hown
  have hl : lv_has ls 5 [(0, .ref (ad 0)), (1, .int iv), (2, .int qv), (3, .int tv)] := hl
  have hinX4 : ∀ w ∈ wsX40, w ∈ wsX4_stakes := by decide +kernel
  refine lv_aload_n hx hb dX4_stakes_0 rfl (lv_at hl 0 rfl) ?_
  refine lv_iload_n hx hb dX4_stakes_1 rfl (lv_at hl 1 rfl) ?_
  refine va_csq (W.runV ⟨hx, hb, hml, hown, hts⟩ (c_gameAt l E _ ad g hz n mk rfl hn gr rfl _) (cwV 1 hts gX4_stakes_X4_gameAt rfl rfl rfl (by decide +kernel) ⟨Nat.le_of_ble_eq_true rfl, Nat.le_of_ble_eq_true rfl⟩) (ePu_V hP hE (ci := 4) (k := 0) rfl rfl) rfl rfl hl.1 rfl (lv_room (Nat.le_of_ble_eq_true rfl)) dX4_stakes_2 ⟨Nat.zero_le _, Nat.zero_le _⟩) (fun r9 hr9 => ?_)
  by_cases hi9 : ∃ i : Nat, i < n ∧ iv = nI i
  · skip
    obtain ⟨i, hi, rfl⟩ := hi9
    have hr9 := gameAt_in hGA hn hi hr9
    subst hr9
    refine tp_r (show va_rf (some _) = .ref (ga i) from rfl) ?_
    refine st_a2 hx hb 4 dX4_stakes_5 hl (by decide) rfl (fun ls hl => ?_)
    refine lv_aload hx hb dX4_stakes_7 (lv_at hl 4 rfl) ?_
    refine lv_ifnull hx hb dX4_stakes_9 ?_
    refine lv_aload_n hx hb dX4_stakes_12 rfl (lv_at hl 0 rfl) ?_
    refine lv_iload_n hx hb dX4_stakes_13 rfl (lv_at hl 2 rfl) ?_
    refine lv_iload_n hx hb dX4_stakes_14 rfl (lv_at hl 3 rfl) ?_
    refine vp_callSi (W.runV ⟨hx, hb, hml, hown, hts⟩ (c_isSpot l E _ ad g hz n mk rfl _ _) (cwV 2 hts gX4_stakes_X4_isSpot rfl rfl rfl (by decide +kernel) ⟨Nat.le_of_ble_eq_true rfl, Nat.le_of_ble_eq_true rfl⟩) (ePu_V hP hE (ci := 4) (k := 0) rfl rfl) rfl rfl hl.1 rfl (lv_room (Nat.le_of_ble_eq_true rfl)) dX4_stakes_15 ⟨Nat.zero_le _, Nat.zero_le _⟩) (fun r9 hr9 => ?_)
    subst hr9
    refine q_eq hx hb 26 dX4_stakes_18 (by decide) (fun c18 => ?_) (fun c18 => ?_)
    · skip
      refine lv_ldc2 (v := -1) hx hb hown (hts (.constantLong RX4 93 (-1)) (by decide +kernel)) dX4_stakes_26 ?_
      exact ret_Wl hx hb hr hlocks dX4_stakes_29 hP hD hS ⟨Or.inr ⟨fun ⟨i, q, t, e1, e2, e3, g1, g2, g3, g4⟩ => c18 (by rw [e2, e3]; exact ⟨(nI_rngI (by omega) (by decide) (by omega)).mpr ⟨by omega, g2⟩, (nI_rngI (by omega) (by decide) (by omega)).mpr ⟨by omega, g4⟩⟩), rfl⟩, cf, ce, ck, rv, hV, rfl⟩
    · skip
      obtain ⟨⟨hq1, hq2⟩, ht1, ht2⟩ := c18
      obtain ⟨q, -, hq, rfl⟩ := nI_rng (by omega) ⟨hq1, hq2⟩ (by decide)
      obtain ⟨t, -, ht, rfl⟩ := nI_rng (by omega) ⟨ht1, ht2⟩ (by decide)
      refine lv_iload_n hx hb dX4_stakes_21 rfl (lv_at hl 3 rfl) ?_
      refine lv_iconst (v := nI 1) hx hb dX4_stakes_22 (by decide) ?_
      refine n_ge hx hb (by omega) (by omega) 30 dX4_stakes_23 (by decide) (fun c23 => ?_) (fun c23 => ?_)
      · skip
        refine lv_aload_n hx hb dX4_stakes_30 rfl (lv_at hl 0 rfl) ?_
        refine lv_iload_n hx hb dX4_stakes_31 rfl (lv_at hl 2 rfl) ?_
        refine vp_callSi (W.runV ⟨hx, hb, hml, hown, hts⟩ (c_isPlayed l E _ ad g hz n mk rfl hg2 _) (cwV 1 hts gX4_stakes_X4_isPlayed rfl rfl rfl (by decide +kernel) ⟨Nat.le_of_ble_eq_true rfl, Nat.le_of_ble_eq_true rfl⟩) (ePu_V hP hE (ci := 4) (k := 0) rfl rfl) rfl rfl hl.1 rfl (lv_room (Nat.le_of_ble_eq_true rfl)) dX4_stakes_32 ⟨Nat.zero_le _, Nat.zero_le _⟩) (fun r9 hr9 => ?_)
        subst hr9
        refine q_ne hx hb 40 dX4_stakes_35 (by decide) (fun c35 => ?_) (fun c35 => ?_)
        · skip
          rw [nI_rngI (by omega) (by decide) (by omega)] at c35
          refine lv_aload_n hx hb dX4_stakes_40 rfl (lv_at hl 0 rfl) ?_
          refine va_get (D := E.1) (ci := 4) (C := RX4) (T := TX4) (N := 11) hx hb hts hinX4 hown hE.1 hP 0 rfl rfl 2 (by decide) (hts (.fieldLink RX4 24 "StakeHouse" "bestChart" "LStakeHouse$Chart;") (by decide +kernel)) (fun _ h9 => h9) rfl dX4_stakes_41 ?_
          refine lv_iconst (v := nI 0) hx hb dX4_stakes_44 (by decide) ?_
          refine lv_aload_n hx hb dX4_stakes_45 rfl (lv_at hl 0 rfl) ?_
          refine va_get (D := E.1) (ci := 4) (C := RX4) (T := TX4) (N := 11) hx hb hts hinX4 hown hE.1 hP 0 rfl rfl 9 (by decide) (hts (.fieldLink RX4 49 "StakeHouse" "held" "I") (by decide +kernel)) (fun _ h9 => h9) rfl dX4_stakes_46 ?_
          refine cW_v (va_runV ⟨hx, hb, hml, hown, hts⟩ (c_cover l E _ 3 (ad 3) 0 (ad 10) (cf 0) (ce 0) (ck 0) 0 n (by have := (hV 0 (by decide)).1; omega) (by have := (hV 0 (by decide)).2.1; omega) (by decide) (by omega) rfl _) (cwV 2 hts gX4_stakes_X0_cover rfl rfl rfl (by decide +kernel) ⟨Nat.le_of_ble_eq_true rfl, Nat.le_of_ble_eq_true rfl⟩) (ePw_V hP hD hE (ci := 0) (k := 3) rfl rfl) rfl rfl hl.1 rfl (lv_room (Nat.le_of_ble_eq_true rfl)) dX4_stakes_49 ⟨Nat.zero_le _, Nat.zero_le _⟩) hS hD hA (fun ws9 H locs hr9 hP hD hS => ?_)
          obtain ⟨cf1, ce1, ck1, hV1, hlo, hhi, rfl⟩ := cov_of (c := 0) (lo := 0) (cnt := n) (by decide) (by omega) hV (by rw [Nat.zero_add]; exact hr9)
          refine lv_aload_n hx hb dX4_stakes_52 rfl (lv_at hl 0 rfl) ?_
          refine lv_aload hx hb dX4_stakes_53 (lv_at hl 4 rfl) ?_
          refine lv_iload_n hx hb dX4_stakes_55 rfl (lv_at hl 2 rfl) ?_
          refine lv_aload_n hx hb dX4_stakes_56 rfl (lv_at hl 0 rfl) ?_
          refine lv_aload_n hx hb dX4_stakes_57 rfl (lv_at hl 0 rfl) ?_
          refine va_get (D := E.1) (ci := 4) (C := RX4) (T := TX4) (N := 11) hx hb hts hinX4 hown hE.1 hP 0 rfl rfl 2 (by decide) (hts (.fieldLink RX4 24 "StakeHouse" "bestChart" "LStakeHouse$Chart;") (by decide +kernel)) (fun _ h9 => h9) rfl dX4_stakes_58 ?_
          refine lv_iload_n hx hb dX4_stakes_61 rfl (lv_at hl 3 rfl) ?_
          refine cW_r (va_runV ⟨hx, hb, hml, hown, hts⟩ (c_chartRow l E ad g hz n mk td gr cf1 ce1 ck1 rv st wo rest hg2 hg32 hn pl ga gb gd hGA 0 (by decide) 0 n hlo hhi (by omega) (hV1 0 (by decide)).2.2.1 (by have := (hV1 0 (by decide)).2.2.2; rw [hhi, hlo, Nat.zero_add] at this; exact this) t (by omega) _) (cwV 2 hts gX4_stakes_X4_chartRow rfl rfl rfl (by decide +kernel) ⟨Nat.le_of_ble_eq_true rfl, Nat.le_of_ble_eq_true rfl⟩) (ePw_V hP hD hE (ci := 4) (k := 0) rfl rfl) rfl rfl hl.1 rfl (lv_room (Nat.le_of_ble_eq_true rfl)) dX4_stakes_62 ⟨Nat.zero_le _, Nat.zero_le _⟩) hS hD hA (fun r9 ws9 H locs hr9 hP hD hS => ?_)
          obtain ⟨rfl, rv1, hr1, hrow, rfl⟩ := hr9
          have hV2 := chV_row hV1 hlo hhi (by have := (hV1 0 (by decide)).2.2.1; omega) hr1 hrow
          refine lv_iload_n hx hb dX4_stakes_65 rfl (lv_at hl 2 rfl) ?_
          refine va_lald hx hb hE.1 hP (13 + (13 * 0 + t)) 1 (wX_R (by omega)) rfl (vp_in_nI (by omega) (by decide)) dX4_stakes_66 ?_
          refine tp_l (show _ = lN (gBst g gd 0 n 0 t q) by rw [nI_clamp (by omega)]; exact hrow t (by omega) q (by omega)) ?_
          refine lv_aload_n hx hb dX4_stakes_67 rfl (lv_at hl 0 rfl) ?_
          refine lv_aload_n hx hb dX4_stakes_68 rfl (lv_at hl 0 rfl) ?_
          refine va_get (D := E.1) (ci := 4) (C := RX4) (T := TX4) (N := 11) hx hb hts hinX4 hown hE.1 hP 0 rfl rfl 2 (by decide) (hts (.fieldLink RX4 24 "StakeHouse" "bestChart" "LStakeHouse$Chart;") (by decide +kernel)) (fun _ h9 => h9) rfl dX4_stakes_69 ?_
          refine lv_iload_n hx hb dX4_stakes_72 rfl (lv_at hl 3 rfl) ?_
          refine lv_iconst (v := nI 1) hx hb dX4_stakes_73 (by decide) ?_
          refine lv_isub hx hb dX4_stakes_74 ?_
          refine tp_i (pk_sub (by omega)) ?_
          refine cW_r (va_runV ⟨hx, hb, hml, hown, hts⟩ (c_chartRow l E ad g hz n mk td gr cf1 ce1 _ rv1 st wo rest hg2 hg32 hn pl ga gb gd hGA 0 (by decide) 0 n hlo hhi (by omega) (hV2 0 (by decide)).2.2.1 (by have := (hV2 0 (by decide)).2.2.2; rw [hhi, hlo, Nat.zero_add] at this; exact this) (t - 1) (by omega) _) (cwV 2 hts gX4_stakes_X4_chartRow rfl rfl rfl (by decide +kernel) ⟨Nat.le_of_ble_eq_true rfl, Nat.le_of_ble_eq_true rfl⟩) (ePw_V hP hD hE (ci := 4) (k := 0) rfl rfl) rfl rfl hl.1 rfl (lv_room (Nat.le_of_ble_eq_true rfl)) dX4_stakes_75 ⟨Nat.zero_le _, Nat.zero_le _⟩) hS hD hA (fun r9 ws9 H locs hr9 hP hD hS => ?_)
          obtain ⟨rfl, rv2, hr2, hrow2, rfl⟩ := hr9
          have hV3 := chV_row hV2 hlo hhi (by have := (hV2 0 (by decide)).2.2.1; omega) hr2 hrow2
          refine vp_callSl (W.runV ⟨hx, hb, hml, hown, hts⟩ (c_bestStakes l E _ ad g hz n mk rfl hg32 (52 + pl i) (ga i) (gb i) (gd i) (hGA _ hi).2.2.2 (wX_rest.trans (hGA _ hi).2.1) (wX_rest.trans (hGA _ hi).2.2.1) (13 + (13 * 0 + (t - 1))) (ad (13 + (13 * 0 + (t - 1)))) (rv2 (13 * 0 + (t - 1))) (gBst g gd 0 n 0 (t - 1)) (wX_R (by omega)) (fun j hj => hrow2 (t - 1) (by omega) j hj) (fun j hj => Nat.le_trans (gBst_le hg32 (fun i hi => by rw [Nat.zero_add]; exact (hGA _ hi).2.2.2) (t - 1) j hj) (b49 (by omega))) q (gBst g gd 0 n 0 t q) (by omega) (by have h1 := gBst_le (what := 0) hg32 (lo := 0) (cnt := n) (fun i hi => by rw [Nat.zero_add]; exact (hGA _ hi).2.2.2) t q (by omega); have h2 := b53 (t := t) (by omega); omega)) (cwV 4 hts gX4_stakes_X4_bestStakes rfl rfl rfl (by decide +kernel) ⟨Nat.le_of_ble_eq_true rfl, Nat.le_of_ble_eq_true rfl⟩) (ePu_V hP hE (ci := 4) (k := 0) rfl rfl) rfl rfl hl.1 rfl (lv_room (Nat.le_of_ble_eq_true rfl)) dX4_stakes_78 ⟨Nat.zero_le _, Nat.zero_le _⟩) (fun r9 hr9 => ?_)
          subst hr9
          exact ret_Wl hx hb hr hlocks dX4_stakes_81 hP hD hS ⟨Or.inl ⟨i, q, t, rfl, rfl, rfl, hi, hq, c23, ht, by rw [if_pos (by omega)]⟩, cf1, ce1, _, rv2, hV3, rfl⟩
        · skip
          rw [nI_rngI (by omega) (by decide) (by omega)] at c35
          refine lv_lconst (v := lN 0) hx hb dX4_stakes_38 rfl ?_
          exact ret_Wl hx hb hr hlocks dX4_stakes_39 hP hD hS ⟨Or.inl ⟨i, q, t, rfl, rfl, rfl, hi, hq, c23, ht, by rw [if_neg (by omega)]⟩, cf, ce, ck, rv, hV, rfl⟩
      · skip
        refine lv_ldc2 (v := -1) hx hb hown (hts (.constantLong RX4 93 (-1)) (by decide +kernel)) dX4_stakes_26 ?_
        exact ret_Wl hx hb hr hlocks dX4_stakes_29 hP hD hS ⟨Or.inr ⟨fun ⟨i, q, t, e1, e2, e3, g1, g2, g3, g4⟩ => by rw [nI_eq (by omega) (by omega)] at e3; omega, rfl⟩, cf, ce, ck, rv, hV, rfl⟩
  · skip
    have hr9 := gameAt_out hn hi9 hr9
    subst hr9
    refine tp_r (show va_rf none = .null from rfl) ?_
    refine lv_astoreN hx hb dX4_stakes_5 hl (by decide) rfl (fun ls hl => ?_)
    refine lv_aloadN hx hb dX4_stakes_7 (lv_at hl 0 rfl) ?_
    refine lv_ifnullN (tgt := 26) hx hb dX4_stakes_9 (by decide) ?_
    refine lv_ldc2 (v := -1) hx hb hown (hts (.constantLong RX4 93 (-1)) (by decide +kernel)) dX4_stakes_26 ?_
    exact ret_Wl hx hb hr hlocks dX4_stakes_29 hP hD hS ⟨Or.inr ⟨fun ⟨i, q, t, e1, e2, e3, g1, g2, g3, g4⟩ => hi9 ⟨i, g1, e1⟩, rfl⟩, cf, ce, ck, rv, hV, rfl⟩
end
section
/-! plans: rungs laid and played, what a plan brings -/
set_option maxHeartbeats 4000000 in
set_option maxRecDepth 100000 in
/-- layRung -/
theorem c_layRung (l : Launch) (E : eT) (ad : Nat → Nat) (g hz n : Nat) (mk : Int64) (td : Nat → Nat) (gr : Nat → Option Nat) (cf ce ck : Nat → Nat) (rv : Nat → Nat → Int64) (st : Nat → Int32) (wo : Nat → Nat → Int64) (rest : va_W) (hg2 : 2 ≤ g) (hg32 : g ≤ 32) (htd2 : ∀ j, td j ≤ 32) (kg a b : Nat) (d : gT) (hd : gOk d) (hg : rest[kg]? = some (a, gmE d b)) (hgn : rest[kg + 1]? = some (b, gnE E d)) (plan r what : Nat) (hpl : plan ≤ 3) (hr5 : r ≤ 5) (hw3 : what ≤ 3) : mWv l yX4_layRung wsX4_layRung 4 110 0 0 E (wX E ad g hz n mk (fun j => nI (td j)) gr cf ce ck rv st wo ++ rest) [.ref (ad 0), .int (nI plan), .ref a, .int (nI r), .int (nI what)] (fun ws1 => ∃ (st1 : Nat → Int32) (wo1 : Nat → Nat → Int64), (∀ x, (x < r * 33 ∨ r * 33 + g < x) → st1 x = st x ∧ wo1 0 x = wo 0 x) ∧ (∀ q, q ≤ g → st1 (r * 33 + q) = nI (gSt g d td plan r q) ∧ wo1 0 (r * 33 + q) = lN (eW g what q)) ∧ ws1 = wX E ad g hz n mk (fun j => nI (td j)) gr cf ce ck rv st1 wo1 ++ rest) := by
  intro sz
  refine mW_of (cc := cX4_layRung) (maxL := 7) (ret := none) (Qc := fun sz => va_Qv (fun ws1 => ∃ (st1 : Nat → Int32) (wo1 : Nat → Nat → Int64), (∀ x, (x < r * 33 ∨ r * 33 + g < x) → st1 x = st x ∧ wo1 0 x = wo 0 x) ∧ (∀ q, q ≤ g → st1 (r * 33 + q) = nI (gSt g d td plan r q) ∧ wo1 0 (r * 33 + q) = lN (eW g what q)) ∧ ws1 = wX E ad g hz n mk (fun j => nI (td j)) gr cf ce ck rv st1 wo1 ++ rest) (eAt E (va_A (wX E ad g hz n mk (fun j => nI (td j)) gr cf ce ck rv st wo ++ rest) sz)) (va_A (wX E ad g hz n mk (fun j => nI (td j)) gr cf ce ck rv st wo ++ rest) sz)) (by decide) rfl (Nat.le_of_ble_eq_true rfl) ?_
  intro p0 e0 s m below meth c0 ls hx hb hr hml hts hown hlocks hin hE hP hD hl
  have hS : va_S (va_A (wX E ad g hz n mk (fun j => nI (td j)) gr cf ce ck rv st wo ++ rest) s.heap.size) s.heap s.heap [] := va_S.rf
  have hA : ∀ q, s.heap.size ≤ q → (va_A (wX E ad g hz n mk (fun j => nI (td j)) gr cf ce ck rv st wo ++ rest) s.heap.size) q := fun q h => Or.inr h
  have hown : s.vm.findClass RX4 = some m.cls := hown
  have hl : lv_has ls 7 [(0, .ref (ad 0)), (1, .int (nI plan)), (2, .ref a), (3, .int (nI r)), (4, .int (nI what))] := hl
  have hinX4 : ∀ w ∈ wsX40, w ∈ wsX4_layRung := by decide +kernel
  refine lv_iconst (v := nI 0) hx hb dX4_layRung_0 (by decide) ?_
  refine st_i2 hx hb 5 dX4_layRung_1 hl (by decide) rfl (fun ls hl => ?_)
  refine wLoopH (g + 1) 0 (fun k H locs ls => ∃ (st1 : Nat → Int32) (wo1 : Nat → Nat → Int64), (∀ x, (x < r * 33 ∨ r * 33 + g < x) → st1 x = st x ∧ wo1 0 x = wo 0 x) ∧ (∀ q, q < k → st1 (r * 33 + q) = nI (gSt g d td plan r q) ∧ wo1 0 (r * 33 + q) = lN (eW g what q)) ∧ va_P E.1 vwCl (wX E ad g hz n mk (fun j => nI (td j)) gr cf ce ck rv st1 wo1 ++ rest) H ∧ va_D (va_A (wX E ad g hz n mk (fun j => nI (td j)) gr cf ce ck rv st wo ++ rest) s.heap.size) (wX E ad g hz n mk (fun j => nI (td j)) gr cf ce ck rv st1 wo1 ++ rest) ∧ va_S (va_A (wX E ad g hz n mk (fun j => nI (td j)) gr cf ce ck rv st wo ++ rest) s.heap.size) s.heap H locs ∧ lv_has ls 7 [(0, .ref (ad 0)), (1, .int (nI plan)), (2, .ref a), (3, .int (nI r)), (4, .int (nI what)), (5, .int (nI k))]) (Nat.zero_le _) (fun k H locs ls hi_k hI ihk => ?_) (fun H locs ls hI => ?_) ⟨st, wo, fun _ _ => ⟨rfl, rfl⟩, fun q hq => absurd hq (by omega), hP, hD, hS, hl⟩
  · skip
    obtain ⟨st1, wo1, hx1, hq1, hP, hD, hS, hl⟩ := hI
    refine lv_iload hx hb dX4_layRung_3 (lv_at hl 5 rfl) ?_
    refine lv_aload_n hx hb dX4_layRung_5 rfl (lv_at hl 0 rfl) ?_
    refine va_get (D := E.1) (ci := 4) (C := RX4) (T := TX4) (N := 11) hx hb hts hinX4 hown hE.1 hP 0 rfl rfl 7 (by decide) (hts (.fieldLink RX4 42 "StakeHouse" "goal" "I") (by decide +kernel)) (fun _ h9 => h9) rfl dX4_layRung_6 ?_
    refine n_gt hx hb (by omega) (by omega) 73 dX4_layRung_9 (by decide) (fun c9 => ?_) (fun c9 => ?_)
    · skip
      exact absurd c9 (by omega)
    · skip
      refine lv_iload_n hx hb dX4_layRung_12 rfl (lv_at hl 3 rfl) ?_
      refine lv_bipush (v := nI 33) hx hb dX4_layRung_13 (by decide) ?_
      refine lv_imul hx hb dX4_layRung_15 ?_
      refine tp_i (pk_mul _ _) ?_
      refine lv_iload hx hb dX4_layRung_16 (lv_at hl 5 rfl) ?_
      refine lv_iadd hx hb dX4_layRung_18 ?_
      refine tp_i (nI_add _ _) ?_
      refine st_i2 hx hb 6 dX4_layRung_19 hl (by decide) rfl (fun ls hl => ?_)
      refine lv_aload_n hx hb dX4_layRung_21 rfl (lv_at hl 0 rfl) ?_
      refine va_get (D := E.1) (ci := 4) (C := RX4) (T := TX4) (N := 11) hx hb hts hinX4 hown hE.1 hP 0 rfl rfl 5 (by decide) (hts (.fieldLink RX4 34 "StakeHouse" "staked" "[I") (by decide +kernel)) (fun _ h9 => h9) rfl dX4_layRung_22 ?_
      refine lv_iload hx hb dX4_layRung_25 (lv_at hl 6 rfl) ?_
      refine lv_aload_n hx hb dX4_layRung_27 rfl (lv_at hl 0 rfl) ?_
      refine lv_iload hx hb dX4_layRung_28 (lv_at hl 5 rfl) ?_
      refine vp_callSi (W.runV ⟨hx, hb, hml, hown, hts⟩ (c_isPlayed l E _ ad g hz n mk rfl hg2 _) (cwV 1 hts gX4_layRung_X4_isPlayed rfl rfl rfl (by decide +kernel) ⟨Nat.le_of_ble_eq_true rfl, Nat.le_of_ble_eq_true rfl⟩) (ePu_V hP hE (ci := 4) (k := 0) rfl rfl) rfl rfl hl.1 rfl (lv_room (Nat.le_of_ble_eq_true rfl)) dX4_layRung_30 ⟨Nat.zero_le _, Nat.zero_le _⟩) (fun r9 hr9 => ?_)
      subst hr9
      refine q_eq hx hb 48 dX4_layRung_33 (by decide) (fun c33 => ?_) (fun c33 => ?_)
      · skip
        rw [nI_rngI (by omega) (by decide) (by omega)] at c33
        refine lv_iconst (v := nI 0) hx hb dX4_layRung_48 (by decide) ?_
        refine va_iast hx hb hE.1 hP hD hS 6 0 rfl rfl (vp_in_nI (by omega) (by decide)) dX4_layRung_49 (fun H locs hP hD hS => ?_)
        have hP : va_P E.1 vwCl (wX E ad g hz n mk (fun j => nI (td j)) gr cf ce ck rv (upd st1 (r * 33 + k) (nI 0)) wo1 ++ rest) H := (by rw [nI_clamp (by omega)] at hP; exact hP)
        have hD : va_D (va_A (wX E ad g hz n mk (fun j => nI (td j)) gr cf ce ck rv st wo ++ rest) s.heap.size) (wX E ad g hz n mk (fun j => nI (td j)) gr cf ce ck rv (upd st1 (r * 33 + k) (nI 0)) wo1 ++ rest) := (by rw [nI_clamp (by omega)] at hD; exact hD)
        refine lv_aload_n hx hb dX4_layRung_50 rfl (lv_at hl 0 rfl) ?_
        refine va_get (D := E.1) (ci := 4) (C := RX4) (T := TX4) (N := 11) hx hb hts hinX4 hown hE.1 hP 0 rfl rfl 6 (by decide) (hts (.fieldLink RX4 39 "StakeHouse" "worth" "[[J") (by decide +kernel)) (fun _ h9 => h9) rfl dX4_layRung_51 ?_
        refine lv_iconst (v := nI 0) hx hb dX4_layRung_54 (by decide) ?_
        refine va_ald2 hx hb hE.1 hP 7 3 rfl rfl (vp_in_nI (by omega) (by decide)) dX4_layRung_55 ?_
        refine tp_r (xW2_at (i := 0) (by decide)) ?_
        refine lv_iload hx hb dX4_layRung_56 (lv_at hl 6 rfl) ?_
        refine lv_aload_n hx hb dX4_layRung_58 rfl (lv_at hl 0 rfl) ?_
        refine lv_iload hx hb dX4_layRung_59 (lv_at hl 4 rfl) ?_
        refine lv_iload hx hb dX4_layRung_61 (lv_at hl 5 rfl) ?_
        refine vp_callSl (W.runV ⟨hx, hb, hml, hown, hts⟩ (c_endWorth l E _ ad g hz n mk rfl hg32 what k hw3 (by omega)) (cwV 2 hts gX4_layRung_X4_endWorth rfl rfl rfl (by decide +kernel) ⟨Nat.le_of_ble_eq_true rfl, Nat.le_of_ble_eq_true rfl⟩) (ePu_V hP hE (ci := 4) (k := 0) rfl rfl) rfl rfl hl.1 rfl (lv_room (Nat.le_of_ble_eq_true rfl)) dX4_layRung_63 ⟨Nat.zero_le _, Nat.zero_le _⟩) (fun r9 hr9 => ?_)
        subst hr9
        refine va_last hx hb hE.1 hP hD hS (8 + 0) 1 (wX_W (b := 0) (by decide)) rfl (vp_in_nI (by omega) (by decide)) dX4_layRung_66 (fun H locs hP hD hS => ?_)
        rw [wX_setW (by decide), nI_clamp (by omega)] at hP hD
        refine st_inc hx hb 5 dX4_layRung_67 hl rfl (nI_1 _) (by decide) rfl (fun ls hl => ?_)
        refine lv_goto (tgt := 3) hx hb dX4_layRung_70 (by decide) ?_
        have e9 : gSt g d td plan r k = 0 := if_neg (by omega)
        refine ihk _ _ _ ⟨_, _, fun x hx => ⟨?_, ?_⟩, fun q hq => ⟨?_, ?_⟩, hP, hD, hS, lv_sub hl [0, 1, 2, 3, 4, 5] rfl⟩
        · rw [pk_un (by omega)]; exact (hx1 x hx).1
        · rw [vu_at, pk_uLn (by omega)]; exact (hx1 x hx).2
        · by_cases hqk : q = k
          · subst hqk; rw [pk_us, e9]
          · rw [pk_un (by omega)]; exact (hq1 q (by omega)).1
        · rw [vu_at]
          by_cases hqk : q = k
          · subst hqk; exact pk_uLs
          · rw [pk_uLn (by omega)]; exact (hq1 q (by omega)).2
      · skip
        rw [nI_rngI (by omega) (by decide) (by omega)] at c33
        refine lv_aload_n hx hb dX4_layRung_36 rfl (lv_at hl 0 rfl) ?_
        refine lv_iload_n hx hb dX4_layRung_37 rfl (lv_at hl 1 rfl) ?_
        refine lv_aload_n hx hb dX4_layRung_38 rfl (lv_at hl 2 rfl) ?_
        refine lv_iload hx hb dX4_layRung_39 (lv_at hl 5 rfl) ?_
        refine lv_iload_n hx hb dX4_layRung_41 rfl (lv_at hl 3 rfl) ?_
        refine vp_callSi (W.runV ⟨hx, hb, hml, hown, hts⟩ (c_planned l E _ ad g hz n mk rfl hg32 (52 + kg) a b d hd (wX_rest.trans hg) (wX_rest.trans hgn) td rfl htd2 plan k r hpl hr5 (by omega) (by omega)) (cwV 4 hts gX4_layRung_X4_planned rfl rfl rfl (by decide +kernel) ⟨Nat.le_of_ble_eq_true rfl, Nat.le_of_ble_eq_true rfl⟩) (ePu_V hP hE (ci := 4) (k := 0) rfl rfl) rfl rfl hl.1 rfl (lv_room (Nat.le_of_ble_eq_true rfl)) dX4_layRung_42 ⟨Nat.zero_le _, Nat.zero_le _⟩) (fun r9 hr9 => ?_)
        subst hr9
        refine lv_goto (tgt := 49) hx hb dX4_layRung_45 (by decide) ?_
        refine va_iast hx hb hE.1 hP hD hS 6 0 rfl rfl (vp_in_nI (by omega) (by decide)) dX4_layRung_49 (fun H locs hP hD hS => ?_)
        have hP : va_P E.1 vwCl (wX E ad g hz n mk (fun j => nI (td j)) gr cf ce ck rv (upd st1 (r * 33 + k) (nI (gPl g d td plan k r))) wo1 ++ rest) H := (by rw [nI_clamp (by omega)] at hP; exact hP)
        have hD : va_D (va_A (wX E ad g hz n mk (fun j => nI (td j)) gr cf ce ck rv st wo ++ rest) s.heap.size) (wX E ad g hz n mk (fun j => nI (td j)) gr cf ce ck rv (upd st1 (r * 33 + k) (nI (gPl g d td plan k r))) wo1 ++ rest) := (by rw [nI_clamp (by omega)] at hD; exact hD)
        refine lv_aload_n hx hb dX4_layRung_50 rfl (lv_at hl 0 rfl) ?_
        refine va_get (D := E.1) (ci := 4) (C := RX4) (T := TX4) (N := 11) hx hb hts hinX4 hown hE.1 hP 0 rfl rfl 6 (by decide) (hts (.fieldLink RX4 39 "StakeHouse" "worth" "[[J") (by decide +kernel)) (fun _ h9 => h9) rfl dX4_layRung_51 ?_
        refine lv_iconst (v := nI 0) hx hb dX4_layRung_54 (by decide) ?_
        refine va_ald2 hx hb hE.1 hP 7 3 rfl rfl (vp_in_nI (by omega) (by decide)) dX4_layRung_55 ?_
        refine tp_r (xW2_at (i := 0) (by decide)) ?_
        refine lv_iload hx hb dX4_layRung_56 (lv_at hl 6 rfl) ?_
        refine lv_aload_n hx hb dX4_layRung_58 rfl (lv_at hl 0 rfl) ?_
        refine lv_iload hx hb dX4_layRung_59 (lv_at hl 4 rfl) ?_
        refine lv_iload hx hb dX4_layRung_61 (lv_at hl 5 rfl) ?_
        refine vp_callSl (W.runV ⟨hx, hb, hml, hown, hts⟩ (c_endWorth l E _ ad g hz n mk rfl hg32 what k hw3 (by omega)) (cwV 2 hts gX4_layRung_X4_endWorth rfl rfl rfl (by decide +kernel) ⟨Nat.le_of_ble_eq_true rfl, Nat.le_of_ble_eq_true rfl⟩) (ePu_V hP hE (ci := 4) (k := 0) rfl rfl) rfl rfl hl.1 rfl (lv_room (Nat.le_of_ble_eq_true rfl)) dX4_layRung_63 ⟨Nat.zero_le _, Nat.zero_le _⟩) (fun r9 hr9 => ?_)
        subst hr9
        refine va_last hx hb hE.1 hP hD hS (8 + 0) 1 (wX_W (b := 0) (by decide)) rfl (vp_in_nI (by omega) (by decide)) dX4_layRung_66 (fun H locs hP hD hS => ?_)
        rw [wX_setW (by decide), nI_clamp (by omega)] at hP hD
        refine st_inc hx hb 5 dX4_layRung_67 hl rfl (nI_1 _) (by decide) rfl (fun ls hl => ?_)
        refine lv_goto (tgt := 3) hx hb dX4_layRung_70 (by decide) ?_
        have e9 : gSt g d td plan r k = (gPl g d td plan k r) := if_pos (by omega)
        refine ihk _ _ _ ⟨_, _, fun x hx => ⟨?_, ?_⟩, fun q hq => ⟨?_, ?_⟩, hP, hD, hS, lv_sub hl [0, 1, 2, 3, 4, 5] rfl⟩
        · rw [pk_un (by omega)]; exact (hx1 x hx).1
        · rw [vu_at, pk_uLn (by omega)]; exact (hx1 x hx).2
        · by_cases hqk : q = k
          · subst hqk; rw [pk_us, e9]
          · rw [pk_un (by omega)]; exact (hq1 q (by omega)).1
        · rw [vu_at]
          by_cases hqk : q = k
          · subst hqk; exact pk_uLs
          · rw [pk_uLn (by omega)]; exact (hq1 q (by omega)).2
  · skip
    obtain ⟨st1, wo1, hx1, hq1, hP, hD, hS, hl⟩ := hI
    refine lv_iload hx hb dX4_layRung_3 (lv_at hl 5 rfl) ?_
    refine lv_aload_n hx hb dX4_layRung_5 rfl (lv_at hl 0 rfl) ?_
    refine va_get (D := E.1) (ci := 4) (C := RX4) (T := TX4) (N := 11) hx hb hts hinX4 hown hE.1 hP 0 rfl rfl 7 (by decide) (hts (.fieldLink RX4 42 "StakeHouse" "goal" "I") (by decide +kernel)) (fun _ h9 => h9) rfl dX4_layRung_6 ?_
    refine n_gt hx hb (by omega) (by omega) 73 dX4_layRung_9 (by decide) (fun c9 => ?_) (fun c9 => ?_)
    · skip
      exact ret_Wv hx hb hr hlocks dX4_layRung_73 hP hD hS ⟨st1, wo1, hx1, fun q hq => hq1 q (by omega), rfl⟩
    · skip
      exact absurd c9 (by omega)
set_option maxHeartbeats 4000000 in
set_option maxRecDepth 100000 in
/-- playRung -/
theorem c_playRung (l : Launch) (E : eT) (ad : Nat → Nat) (g hz n : Nat) (mk : Int64) (td : Nat → Int32) (gr : Nat → Option Nat) (cf ce ck : Nat → Nat) (rv : Nat → Nat → Int64) (st : Nat → Int32) (wo : Nat → Nat → Int64) (rest : va_W) (hg2 : 2 ≤ g) (hg32 : g ≤ 32) (kg a b : Nat) (d : gT) (hd : gOk d) (hg : rest[kg]? = some (a, gmE d b)) (hgn : rest[kg + 1]? = some (b, gnE E d)) (S : Nat → Nat → Nat) (hSl : ∀ r q, S r q ≤ min q (gL d)) (what rg j r : Nat) (hw3 : what ≤ 3) (hrg : rg ≤ 6) (hj : j ≤ 11) (hr : r < rg) (hst : ∀ q, q ≤ g → st (r * 33 + q) = nI (S r q)) (hbe : ∀ r1, r1 < rg → ∀ q, q ≤ g → wo (j % 2) (r1 * 33 + q) = lN (gV g d S what rg j r1 q)) : mWv l yX4_playRung wsX4_playRung 2 60 0 0 E (wX E ad g hz n mk td gr cf ce ck rv st wo ++ rest) [.ref (ad 0), .ref a, .int (nI r), .int (nI (min (r + 1) (rg - 1))), .int (nI (j + 1)), .int (nI what)] (fun ws1 => ∃ wo1 : Nat → Nat → Int64, wo1 (j % 2) = wo (j % 2) ∧ (∀ x, (x < r * 33 ∨ r * 33 + g < x) → wo1 ((j + 1) % 2) x = wo ((j + 1) % 2) x) ∧ (∀ q, q ≤ g → wo1 ((j + 1) % 2) (r * 33 + q) = lN (gV g d S what rg (j + 1) r q)) ∧ ws1 = wX E ad g hz n mk td gr cf ce ck rv st wo1 ++ rest) := by
  intro sz
  refine mW_of (cc := cX4_playRung) (maxL := 13) (ret := none) (Qc := fun sz => va_Qv (fun ws1 => ∃ wo1 : Nat → Nat → Int64, wo1 (j % 2) = wo (j % 2) ∧ (∀ x, (x < r * 33 ∨ r * 33 + g < x) → wo1 ((j + 1) % 2) x = wo ((j + 1) % 2) x) ∧ (∀ q, q ≤ g → wo1 ((j + 1) % 2) (r * 33 + q) = lN (gV g d S what rg (j + 1) r q)) ∧ ws1 = wX E ad g hz n mk td gr cf ce ck rv st wo1 ++ rest) (eAt E (va_A (wX E ad g hz n mk td gr cf ce ck rv st wo ++ rest) sz)) (va_A (wX E ad g hz n mk td gr cf ce ck rv st wo ++ rest) sz)) (by decide) rfl (Nat.le_of_ble_eq_true rfl) ?_
  intro p0 e0 s m below meth c0 ls hx hb hr0 hml hts hown hlocks hin hE hP hD hl
  have hS : va_S (va_A (wX E ad g hz n mk td gr cf ce ck rv st wo ++ rest) s.heap.size) s.heap s.heap [] := va_S.rf
  have hA : ∀ q, s.heap.size ≤ q → (va_A (wX E ad g hz n mk td gr cf ce ck rv st wo ++ rest) s.heap.size) q := fun q h => Or.inr h
  have hown : s.vm.findClass RX4 = some m.cls := hown
  have hl : lv_has ls 13 [(0, .ref (ad 0)), (1, .ref a), (2, .int (nI r)), (3, .int (nI (min (r + 1) (rg - 1)))), (4, .int (nI (j + 1))), (5, .int (nI what))] := hl
  have hinX4 : ∀ w ∈ wsX40, w ∈ wsX4_playRung := by decide +kernel
  have hL1 := hd.2.2.2.2.2
  refine lv_aload_n hx hb dX4_playRung_0 rfl (lv_at hl 0 rfl) ?_
  refine va_get (D := E.1) (ci := 4) (C := RX4) (T := TX4) (N := 11) hx hb hts hinX4 hown hE.1 hP 0 rfl rfl 6 (by decide) (hts (.fieldLink RX4 39 "StakeHouse" "worth" "[[J") (by decide +kernel)) (fun _ h9 => h9) rfl dX4_playRung_1 ?_
  refine lv_iload hx hb dX4_playRung_4 (lv_at hl 4 rfl) ?_
  refine lv_iconst (v := nI 1) hx hb dX4_playRung_6 (by decide) ?_
  refine lv_isub hx hb dX4_playRung_7 ?_
  refine tp_i (show _ = nI j from nI_pred j) ?_
  refine lv_iconst (v := nI 1) hx hb dX4_playRung_8 (by decide) ?_
  refine lv_iand hx hb dX4_playRung_9 ?_
  refine tp_i (nI_and1 (by omega)) ?_
  refine va_ald2 hx hb hE.1 hP 7 3 rfl rfl (vp_in_nI (by omega) (by decide)) dX4_playRung_10 ?_
  refine tp_r (xW2_at (by omega)) ?_
  refine st_a2 hx hb 6 dX4_playRung_11 hl (by decide) rfl (fun ls hl => ?_)
  refine lv_aload_n hx hb dX4_playRung_13 rfl (lv_at hl 0 rfl) ?_
  refine va_get (D := E.1) (ci := 4) (C := RX4) (T := TX4) (N := 11) hx hb hts hinX4 hown hE.1 hP 0 rfl rfl 6 (by decide) (hts (.fieldLink RX4 39 "StakeHouse" "worth" "[[J") (by decide +kernel)) (fun _ h9 => h9) rfl dX4_playRung_14 ?_
  refine lv_iload hx hb dX4_playRung_17 (lv_at hl 4 rfl) ?_
  refine lv_iconst (v := nI 1) hx hb dX4_playRung_19 (by decide) ?_
  refine lv_iand hx hb dX4_playRung_20 ?_
  refine tp_i (nI_and1 (by omega)) ?_
  refine va_ald2 hx hb hE.1 hP 7 3 rfl rfl (vp_in_nI (by omega) (by decide)) dX4_playRung_21 ?_
  refine tp_r (xW2_at (by omega)) ?_
  refine st_a2 hx hb 7 dX4_playRung_22 hl (by decide) rfl (fun ls hl => ?_)
  refine wCut (fun x : Int64 => F0 m 40 ls [.long x]) (fun x => x = lN (if what = 3 then 16 ^ (j + 1) else 0)) ?_ ?_
  · skip
    intro x hx0
    subst hx0
    refine st_l2 hx hb 8 dX4_playRung_40 hl (by decide) rfl (fun ls hl => ?_)
    refine lv_iconst (v := nI 0) hx hb dX4_playRung_42 (by decide) ?_
    refine st_i2 hx hb 9 dX4_playRung_43 hl (by decide) rfl (fun ls hl => ?_)
    refine wLoopH (g + 1) 0 (fun k H locs ls => ∃ wo1 : Nat → Nat → Int64, wo1 (j % 2) = wo (j % 2) ∧ (∀ x, (x < r * 33 ∨ r * 33 + g < x) → wo1 ((j + 1) % 2) x = wo ((j + 1) % 2) x) ∧ (∀ q, q < k → wo1 ((j + 1) % 2) (r * 33 + q) = lN (gV g d S what rg (j + 1) r q)) ∧ va_P E.1 vwCl (wX E ad g hz n mk td gr cf ce ck rv st wo1 ++ rest) H ∧ va_D (va_A (wX E ad g hz n mk td gr cf ce ck rv st wo ++ rest) s.heap.size) (wX E ad g hz n mk td gr cf ce ck rv st wo1 ++ rest) ∧ va_S (va_A (wX E ad g hz n mk td gr cf ce ck rv st wo ++ rest) s.heap.size) s.heap H locs ∧ lv_has ls 13 [(0, .ref (ad 0)), (1, .ref a), (2, .int (nI r)), (3, .int (nI (min (r + 1) (rg - 1)))), (4, .int (nI (j + 1))), (5, .int (nI what)), (6, .ref (ad (8 + j % 2))), (7, .ref (ad (8 + (j + 1) % 2))), (8, .long (lN (if what = 3 then 16 ^ (j + 1) else 0))), (10, .int (nI k))]) (Nat.zero_le _) (fun k H locs ls hi_k hI ihk => ?_) (fun H locs ls hI => ?_) ⟨wo, rfl, fun _ _ => rfl, fun q hq => absurd hq (by omega), hP, hD, hS, hl⟩
    · skip
      obtain ⟨wo1, hw1, hx1, hq1, hP, hD, hS, hl⟩ := hI
      refine lv_iload hx hb dX4_playRung_45 (lv_at hl 9 rfl) ?_
      refine lv_aload_n hx hb dX4_playRung_47 rfl (lv_at hl 0 rfl) ?_
      refine va_get (D := E.1) (ci := 4) (C := RX4) (T := TX4) (N := 11) hx hb hts hinX4 hown hE.1 hP 0 rfl rfl 7 (by decide) (hts (.fieldLink RX4 42 "StakeHouse" "goal" "I") (by decide +kernel)) (fun _ h9 => h9) rfl dX4_playRung_48 ?_
      refine n_gt hx hb (by omega) (by omega) 133 dX4_playRung_51 (by decide) (fun c51 => ?_) (fun c51 => ?_)
      · skip
        exact absurd c51 (by omega)
      · skip
        refine lv_iload_n hx hb dX4_playRung_54 rfl (lv_at hl 2 rfl) ?_
        refine lv_bipush (v := nI 33) hx hb dX4_playRung_55 (by decide) ?_
        refine lv_imul hx hb dX4_playRung_57 ?_
        refine tp_i (pk_mul _ _) ?_
        refine lv_iload hx hb dX4_playRung_58 (lv_at hl 9 rfl) ?_
        refine lv_iadd hx hb dX4_playRung_60 ?_
        refine tp_i (nI_add _ _) ?_
        refine st_i2 hx hb 10 dX4_playRung_61 hl (by decide) rfl (fun ls hl => ?_)
        refine lv_aload_n hx hb dX4_playRung_63 rfl (lv_at hl 0 rfl) ?_
        refine va_get (D := E.1) (ci := 4) (C := RX4) (T := TX4) (N := 11) hx hb hts hinX4 hown hE.1 hP 0 rfl rfl 5 (by decide) (hts (.fieldLink RX4 34 "StakeHouse" "staked" "[I") (by decide +kernel)) (fun _ h9 => h9) rfl dX4_playRung_64 ?_
        refine lv_iload hx hb dX4_playRung_67 (lv_at hl 10 rfl) ?_
        refine va_iald hx hb hE.1 hP 6 0 rfl rfl (vp_in_nI (by omega) (by decide)) dX4_playRung_69 ?_
        refine tp_i (show _ = nI (S r k) by rw [nI_clamp (by omega)]; exact hst k (by omega)) ?_
        have hSk := hSl r k
        refine st_i2 hx hb 11 dX4_playRung_70 hl (by decide) rfl (fun ls hl => ?_)
        refine lv_aload hx hb dX4_playRung_72 (lv_at hl 7 rfl) ?_
        refine lv_iload hx hb dX4_playRung_74 (lv_at hl 10 rfl) ?_
        refine lv_iload hx hb dX4_playRung_76 (lv_at hl 11 rfl) ?_
        refine lv_iconst (v := nI 1) hx hb dX4_playRung_78 (by decide) ?_
        refine n_ge hx hb (by omega) (by omega) 94 dX4_playRung_79 (by decide) (fun c79 => ?_) (fun c79 => ?_)
        · skip
          refine lv_lload hx hb dX4_playRung_94 (lv_at hl 8 rfl) ?_
          refine lv_aload_n hx hb dX4_playRung_96 rfl (lv_at hl 1 rfl) ?_
          refine lv_aload hx hb dX4_playRung_97 (lv_at hl 6 rfl) ?_
          refine lv_aload_n hx hb dX4_playRung_99 rfl (lv_at hl 0 rfl) ?_
          refine lv_aload_n hx hb dX4_playRung_100 rfl (lv_at hl 1 rfl) ?_
          refine lv_iload hx hb dX4_playRung_101 (lv_at hl 9 rfl) ?_
          refine lv_iload hx hb dX4_playRung_103 (lv_at hl 11 rfl) ?_
          refine vp_callSi (W.runV ⟨hx, hb, hml, hown, hts⟩ (c_raised l E _ ad g hz n mk rfl hg32 (52 + kg) a b d hd (wX_rest.trans hg) (wX_rest.trans hgn) k (S r k) (by omega) (by omega)) (cwV 3 hts gX4_playRung_X4_raised rfl rfl rfl (by decide +kernel) ⟨Nat.le_of_ble_eq_true rfl, Nat.le_of_ble_eq_true rfl⟩) (ePu_V hP hE (ci := 4) (k := 0) rfl rfl) rfl rfl hl.1 rfl (lv_room (Nat.le_of_ble_eq_true rfl)) dX4_playRung_105 ⟨Nat.zero_le _, Nat.zero_le _⟩) (fun r9 hr9 => ?_)
          subst hr9
          refine va_lald hx hb hE.1 hP (8 + j % 2) 1 (wX_W (by omega)) rfl (vp_in_nI (by omega) (by decide)) dX4_playRung_108 ?_
          refine tp_l (show _ = lN (gV g d S what rg j 0 (min g (k + gWin d (S r k)))) by rw [nI_clamp (by omega), hw1]; have h0 := hbe 0 (by omega) (min g (k + gWin d (S r k))) (by omega); rwa [Nat.zero_mul, Nat.zero_add] at h0) ?_
          refine lv_aload hx hb dX4_playRung_109 (lv_at hl 6 rfl) ?_
          refine lv_iload_n hx hb dX4_playRung_111 rfl (lv_at hl 3 rfl) ?_
          refine lv_bipush (v := nI 33) hx hb dX4_playRung_112 (by decide) ?_
          refine lv_imul hx hb dX4_playRung_114 ?_
          refine tp_i (pk_mul _ _) ?_
          refine lv_iload hx hb dX4_playRung_115 (lv_at hl 9 rfl) ?_
          refine lv_iadd hx hb dX4_playRung_117 ?_
          refine tp_i (nI_add _ _) ?_
          refine lv_iload hx hb dX4_playRung_118 (lv_at hl 11 rfl) ?_
          refine lv_isub hx hb dX4_playRung_120 ?_
          refine tp_i (show _ = nI (min (r + 1) (rg - 1) * 33 + (k - S r k)) by rw [pk_sub (by omega)]; congr 1; omega) ?_
          refine va_lald hx hb hE.1 hP (8 + j % 2) 1 (wX_W (by omega)) rfl (vp_in_nI (by omega) (by decide)) dX4_playRung_121 ?_
          refine tp_l (show _ = lN (gV g d S what rg j (min (r + 1) (rg - 1)) (k - S r k)) by rw [nI_clamp (by omega), hw1]; exact hbe _ (by omega) _ (by omega)) ?_
          refine vp_callSl (W.runS ⟨hx, hb, hml, hown, hts⟩ (c_mixed l E _ (52 + kg) a b d hd (wX_rest.trans hg) _ _) (va_cwS 3 hts gX4_playRung_X4_mixed rfl rfl rfl (by decide +kernel) ⟨Nat.le_of_ble_eq_true rfl, Nat.le_of_ble_eq_true rfl⟩) (ePu_S hP hE) rfl rfl hl.1 rfl (lv_room (Nat.le_of_ble_eq_true rfl)) dX4_playRung_122 ⟨Nat.zero_le _, Nat.zero_le _⟩) (fun r9 hr9 => ?_)
          subst hr9
          refine lv_ladd hx hb dX4_playRung_125 ?_
          refine tp_l (lN_add _ _) ?_
          refine va_last hx hb hE.1 hP hD hS (8 + (j + 1) % 2) 1 (wX_W (by omega)) rfl (vp_in_nI (by omega) (by decide)) dX4_playRung_126 (fun H locs hP hD hS => ?_)
          rw [wX_setW (by omega), nI_clamp (by omega)] at hP hD
          refine st_inc hx hb 9 dX4_playRung_127 hl rfl (nI_1 _) (by decide) rfl (fun ls hl => ?_)
          refine lv_goto (tgt := 45) hx hb dX4_playRung_130 (by decide) ?_
          have e9 : gV g d S what rg (j + 1) r k = (if what = 3 then 16 ^ (j + 1) else 0) + gMix d (gV g d S what rg j 0 (min g (k + gWin d (S r k)))) (gV g d S what rg j (min (r + 1) (rg - 1)) (k - S r k)) := if_neg (by omega)
          refine ihk _ _ _ ⟨_, (vu_no (by omega)).trans hw1, fun x hx => ?_, fun q hq => ?_, hP, hD, hS, lv_sub hl [0, 1, 2, 3, 4, 5, 6, 7, 8, 9] rfl⟩
          · rw [vu_at, pk_uLn (by omega)]; exact hx1 x hx
          · rw [vu_at]
            by_cases hqk : q = k
            · subst hqk; rw [pk_uLs, e9]; try rfl
            · rw [pk_uLn (by omega)]; exact hq1 q (by omega)
        · skip
          refine lv_ldc2 (v := 16) hx hb hown (hts (.constantLong RX4 168 (16)) (by decide +kernel)) dX4_playRung_82 ?_
          refine tp_l (show (16 : Int64) = lN 16 from rfl) ?_
          refine lv_aload hx hb dX4_playRung_85 (lv_at hl 6 rfl) ?_
          refine lv_iload hx hb dX4_playRung_87 (lv_at hl 10 rfl) ?_
          refine va_lald hx hb hE.1 hP (8 + j % 2) 1 (wX_W (by omega)) rfl (vp_in_nI (by omega) (by decide)) dX4_playRung_89 ?_
          refine tp_l (show _ = lN (gV g d S what rg j r k) by rw [nI_clamp (by omega), hw1]; exact hbe r hr k (by omega)) ?_
          refine lv_lmul hx hb dX4_playRung_90 ?_
          refine tp_l (lN_mul _ _) ?_
          refine lv_goto (tgt := 126) hx hb dX4_playRung_91 (by decide) ?_
          refine va_last hx hb hE.1 hP hD hS (8 + (j + 1) % 2) 1 (wX_W (by omega)) rfl (vp_in_nI (by omega) (by decide)) dX4_playRung_126 (fun H locs hP hD hS => ?_)
          rw [wX_setW (by omega), nI_clamp (by omega)] at hP hD
          refine st_inc hx hb 9 dX4_playRung_127 hl rfl (nI_1 _) (by decide) rfl (fun ls hl => ?_)
          refine lv_goto (tgt := 45) hx hb dX4_playRung_130 (by decide) ?_
          have e9 : gV g d S what rg (j + 1) r k = 16 * gV g d S what rg j r k := if_pos (by omega)
          refine ihk _ _ _ ⟨_, (vu_no (by omega)).trans hw1, fun x hx => ?_, fun q hq => ?_, hP, hD, hS, lv_sub hl [0, 1, 2, 3, 4, 5, 6, 7, 8, 9] rfl⟩
          · rw [vu_at, pk_uLn (by omega)]; exact hx1 x hx
          · rw [vu_at]
            by_cases hqk : q = k
            · subst hqk; rw [pk_uLs, e9]; try rfl
            · rw [pk_uLn (by omega)]; exact hq1 q (by omega)
    · skip
      obtain ⟨wo1, hw1, hx1, hq1, hP, hD, hS, hl⟩ := hI
      refine lv_iload hx hb dX4_playRung_45 (lv_at hl 9 rfl) ?_
      refine lv_aload_n hx hb dX4_playRung_47 rfl (lv_at hl 0 rfl) ?_
      refine va_get (D := E.1) (ci := 4) (C := RX4) (T := TX4) (N := 11) hx hb hts hinX4 hown hE.1 hP 0 rfl rfl 7 (by decide) (hts (.fieldLink RX4 42 "StakeHouse" "goal" "I") (by decide +kernel)) (fun _ h9 => h9) rfl dX4_playRung_48 ?_
      refine n_gt hx hb (by omega) (by omega) 133 dX4_playRung_51 (by decide) (fun c51 => ?_) (fun c51 => ?_)
      · skip
        exact ret_Wv hx hb hr0 hlocks dX4_playRung_133 hP hD hS ⟨wo1, hw1, hx1, fun q hq => hq1 q (by omega), rfl⟩
      · skip
        exact absurd c51 (by omega)
  · skip
    intro K
    refine lv_iload hx hb dX4_playRung_24 (lv_at hl 5 rfl) ?_
    refine lv_iconst (v := nI 3) hx hb dX4_playRung_26 (by decide) ?_
    refine n_ne hx hb (by omega) (by omega) 39 dX4_playRung_27 (by decide) (fun c27 => ?_) (fun c27 => ?_)
    · skip
      refine lv_lconst (v := lN 0) hx hb dX4_playRung_39 rfl ?_
      exact K _ (by rw [if_neg c27])
    · skip
      refine lv_lconst (v := lN 1) hx hb dX4_playRung_30 rfl ?_
      refine lv_iconst (v := nI 4) hx hb dX4_playRung_31 (by decide) ?_
      refine lv_iload hx hb dX4_playRung_32 (lv_at hl 4 rfl) ?_
      refine lv_imul hx hb dX4_playRung_34 ?_
      refine tp_i (pk_mul _ _) ?_
      refine lv_lshl hx hb dX4_playRung_35 (sh16 j hj) ?_
      refine lv_goto (tgt := 40) hx hb dX4_playRung_36 (by decide) ?_
      exact K _ (by rw [if_pos c27])
set_option maxHeartbeats 4000000 in
set_option maxRecDepth 100000 in
/-- planWorth -/
theorem c_planWorth (l : Launch) (E : eT) (ad : Nat → Nat) (g hz n : Nat) (mk : Int64) (td : Nat → Nat) (gr : Nat → Option Nat) (cf ce ck : Nat → Nat) (rv : Nat → Nat → Int64) (st : Nat → Int32) (wo : Nat → Nat → Int64) (rest : va_W) (hg2 : 2 ≤ g) (hg32 : g ≤ 32) (htd2 : ∀ j, td j ≤ 32) (kg a b : Nat) (d : gT) (hd : gOk d) (hg : rest[kg]? = some (a, gmE d b)) (hgn : rest[kg + 1]? = some (b, gnE E d)) (plan q t what : Nat) (hpl : plan ≤ 3) (hq : q ≤ g) (ht : t ≤ 12) (hw3 : what ≤ 3) : mWl l yX4_planWorth wsX4_planWorth 5 140 0 0 E (wX E ad g hz n mk (fun j => nI (td j)) gr cf ce ck rv st wo ++ rest) [.ref (ad 0), .int (nI plan), .ref a, .int (nI q), .int (nI t), .int (nI what)] (fun x ws1 => x = lN (gV g d (gSt g d td plan) what (gRg plan) t 0 q) ∧ ∃ (st1 : Nat → Int32) (wo1 : Nat → Nat → Int64), ws1 = wX E ad g hz n mk (fun j => nI (td j)) gr cf ce ck rv st1 wo1 ++ rest) := by
  intro sz
  refine mW_of (cc := cX4_planWorth) (maxL := 10) (ret := (some .long)) (Qc := fun sz => va_Ql (fun x ws1 => x = lN (gV g d (gSt g d td plan) what (gRg plan) t 0 q) ∧ ∃ (st1 : Nat → Int32) (wo1 : Nat → Nat → Int64), ws1 = wX E ad g hz n mk (fun j => nI (td j)) gr cf ce ck rv st1 wo1 ++ rest) (eAt E (va_A (wX E ad g hz n mk (fun j => nI (td j)) gr cf ce ck rv st wo ++ rest) sz)) (va_A (wX E ad g hz n mk (fun j => nI (td j)) gr cf ce ck rv st wo ++ rest) sz)) (by decide) rfl (Nat.le_of_ble_eq_true rfl) ?_
  intro p0 e0 s m below meth c0 ls hx hb hr hml hts hown hlocks hin hE hP hD hl
  have hS : va_S (va_A (wX E ad g hz n mk (fun j => nI (td j)) gr cf ce ck rv st wo ++ rest) s.heap.size) s.heap s.heap [] := va_S.rf
  have hA : ∀ q, s.heap.size ≤ q → (va_A (wX E ad g hz n mk (fun j => nI (td j)) gr cf ce ck rv st wo ++ rest) s.heap.size) q := fun q h => Or.inr h
  have hown : s.vm.findClass RX4 = some m.cls := hown
  have hl : lv_has ls 10 [(0, .ref (ad 0)), (1, .int (nI plan)), (2, .ref a), (3, .int (nI q)), (4, .int (nI t)), (5, .int (nI what))] := hl
  have hinX4 : ∀ w ∈ wsX40, w ∈ wsX4_planWorth := by decide +kernel
  have hR1 : 1 ≤ (gRg plan) ∧ (gRg plan) ≤ 6 := by unfold gRg; split <;> omega
  refine wCut (fun x : Int32 => F0 m 11 ls [.int x]) (fun x => x = nI (gRg plan)) ?_ ?_
  · skip
    intro x hx0
    subst hx0
    refine st_i2 hx hb 6 dX4_planWorth_11 hl (by decide) rfl (fun ls hl => ?_)
    refine lv_iconst (v := nI 0) hx hb dX4_planWorth_13 (by decide) ?_
    refine st_i2 hx hb 7 dX4_planWorth_14 hl (by decide) rfl (fun ls hl => ?_)
    refine wLoopH (gRg plan) 0 (fun i H locs ls => ∃ (st1 : Nat → Int32) (wo1 : Nat → Nat → Int64), (∀ r, r < i → ∀ q, q ≤ g → st1 (r * 33 + q) = nI ((gSt g d td plan) r q) ∧ wo1 0 (r * 33 + q) = lN (gV g d (gSt g d td plan) what (gRg plan) 0 r q)) ∧ va_P E.1 vwCl (wX E ad g hz n mk (fun j => nI (td j)) gr cf ce ck rv st1 wo1 ++ rest) H ∧ va_D (va_A (wX E ad g hz n mk (fun j => nI (td j)) gr cf ce ck rv st wo ++ rest) s.heap.size) (wX E ad g hz n mk (fun j => nI (td j)) gr cf ce ck rv st1 wo1 ++ rest) ∧ va_S (va_A (wX E ad g hz n mk (fun j => nI (td j)) gr cf ce ck rv st wo ++ rest) s.heap.size) s.heap H locs ∧ lv_has ls 10 [(0, .ref (ad 0)), (1, .int (nI plan)), (2, .ref a), (3, .int (nI q)), (4, .int (nI t)), (5, .int (nI what)), (6, .int (nI (gRg plan))), (7, .int (nI i))]) (Nat.zero_le _) (fun i H locs ls hi_i hI ih => ?_) (fun H locs ls hI => ?_) ⟨st, wo, fun r hr => absurd hr (by omega), hP, hD, hS, hl⟩
    · skip
      obtain ⟨st1, wo1, hr1, hP, hD, hS, hl⟩ := hI
      refine lv_iload hx hb dX4_planWorth_16 (lv_at hl 7 rfl) ?_
      refine lv_iload hx hb dX4_planWorth_18 (lv_at hl 6 rfl) ?_
      refine n_ge hx hb (by omega) (by omega) 39 dX4_planWorth_20 (by decide) (fun c20 => ?_) (fun c20 => ?_)
      · skip
        exact absurd c20 (by omega)
      · skip
        refine lv_aload_n hx hb dX4_planWorth_23 rfl (lv_at hl 0 rfl) ?_
        refine lv_iload_n hx hb dX4_planWorth_24 rfl (lv_at hl 1 rfl) ?_
        refine lv_aload_n hx hb dX4_planWorth_25 rfl (lv_at hl 2 rfl) ?_
        refine lv_iload hx hb dX4_planWorth_26 (lv_at hl 7 rfl) ?_
        refine lv_iload hx hb dX4_planWorth_28 (lv_at hl 5 rfl) ?_
        refine cW_v (va_runV ⟨hx, hb, hml, hown, hts⟩ (c_layRung l E ad g hz n mk td gr cf ce ck rv st1 wo1 rest hg2 hg32 htd2 kg a b d hd hg hgn plan i what hpl (by omega) hw3 _) (cwV 4 hts gX4_planWorth_X4_layRung rfl rfl rfl (by decide +kernel) ⟨Nat.le_of_ble_eq_true rfl, Nat.le_of_ble_eq_true rfl⟩) (ePw_V hP hD hE (ci := 4) (k := 0) rfl rfl) rfl rfl hl.1 rfl (lv_room (Nat.le_of_ble_eq_true rfl)) dX4_planWorth_30 ⟨Nat.zero_le _, Nat.zero_le _⟩) hS hD hA (fun ws9 H locs hr9 hP hD hS => ?_)
        obtain ⟨st2, wo2, hx2, hq2, rfl⟩ := hr9
        refine st_inc hx hb 7 dX4_planWorth_33 hl rfl (nI_1 _) (by decide) rfl (fun ls hl => ?_)
        refine lv_goto (tgt := 16) hx hb dX4_planWorth_36 (by decide) ?_
        refine ih _ _ _ ⟨st2, wo2, fun r hr q hq => ?_, hP, hD, hS, hl⟩
        by_cases hri : r = i
        · subst hri; exact hq2 q hq
        · rw [(hx2 _ (by omega)).1, (hx2 _ (by omega)).2]; exact hr1 r (by omega) q hq
    · skip
      obtain ⟨st1, wo1, hr1, hP, hD, hS, hl⟩ := hI
      refine lv_iload hx hb dX4_planWorth_16 (lv_at hl 7 rfl) ?_
      refine lv_iload hx hb dX4_planWorth_18 (lv_at hl 6 rfl) ?_
      refine n_ge hx hb (by omega) (by omega) 39 dX4_planWorth_20 (by decide) (fun c20 => ?_) (fun c20 => ?_)
      · skip
        refine lv_iconst (v := nI 1) hx hb dX4_planWorth_39 (by decide) ?_
        refine st_i2 hx hb 7 dX4_planWorth_40 hl (by decide) rfl (fun ls hl => ?_)
        refine wLoopH t 0 (fun j H locs ls => ∃ wo2 : Nat → Nat → Int64, (∀ r, r < (gRg plan) → ∀ q, q ≤ g → wo2 (j % 2) (r * 33 + q) = lN (gV g d (gSt g d td plan) what (gRg plan) j r q)) ∧ va_P E.1 vwCl (wX E ad g hz n mk (fun j => nI (td j)) gr cf ce ck rv st1 wo2 ++ rest) H ∧ va_D (va_A (wX E ad g hz n mk (fun j => nI (td j)) gr cf ce ck rv st wo ++ rest) s.heap.size) (wX E ad g hz n mk (fun j => nI (td j)) gr cf ce ck rv st1 wo2 ++ rest) ∧ va_S (va_A (wX E ad g hz n mk (fun j => nI (td j)) gr cf ce ck rv st wo ++ rest) s.heap.size) s.heap H locs ∧ lv_has ls 10 [(0, .ref (ad 0)), (1, .int (nI plan)), (2, .ref a), (3, .int (nI q)), (4, .int (nI t)), (5, .int (nI what)), (6, .int (nI (gRg plan))), (7, .int (nI (j + 1)))]) (Nat.zero_le _) (fun j H locs ls hi_j hI ihj => ?_) (fun H locs ls hI => ?_) ⟨wo1, fun r hr q hq => (hr1 r hr q hq).2, hP, hD, hS, hl⟩
        · skip
          obtain ⟨wo2, hr2, hP, hD, hS, hl⟩ := hI
          refine lv_iload hx hb dX4_planWorth_42 (lv_at hl 7 rfl) ?_
          refine lv_iload hx hb dX4_planWorth_44 (lv_at hl 4 rfl) ?_
          refine n_gt hx hb (by omega) (by omega) 97 dX4_planWorth_46 (by decide) (fun c46 => ?_) (fun c46 => ?_)
          · skip
            exact absurd c46 (by omega)
          · skip
            refine lv_iconst (v := nI 0) hx hb dX4_planWorth_49 (by decide) ?_
            refine st_i2 hx hb 8 dX4_planWorth_50 hl (by decide) rfl (fun ls hl => ?_)
            refine wLoopH (gRg plan) 0 (fun i H locs ls => ∃ wo3 : Nat → Nat → Int64, wo3 (j % 2) = wo2 (j % 2) ∧ (∀ r, r < i → ∀ q, q ≤ g → wo3 ((j + 1) % 2) (r * 33 + q) = lN (gV g d (gSt g d td plan) what (gRg plan) (j + 1) r q)) ∧ va_P E.1 vwCl (wX E ad g hz n mk (fun j => nI (td j)) gr cf ce ck rv st1 wo3 ++ rest) H ∧ va_D (va_A (wX E ad g hz n mk (fun j => nI (td j)) gr cf ce ck rv st wo ++ rest) s.heap.size) (wX E ad g hz n mk (fun j => nI (td j)) gr cf ce ck rv st1 wo3 ++ rest) ∧ va_S (va_A (wX E ad g hz n mk (fun j => nI (td j)) gr cf ce ck rv st wo ++ rest) s.heap.size) s.heap H locs ∧ lv_has ls 10 [(0, .ref (ad 0)), (1, .int (nI plan)), (2, .ref a), (3, .int (nI q)), (4, .int (nI t)), (5, .int (nI what)), (6, .int (nI (gRg plan))), (7, .int (nI (j + 1))), (8, .int (nI i))]) (Nat.zero_le _) (fun i H locs ls hi_i hI ihi => ?_) (fun H locs ls hI => ?_) ⟨wo2, rfl, fun r hr => absurd hr (by omega), hP, hD, hS, hl⟩
            · skip
              obtain ⟨wo3, hw3e, hr3, hP, hD, hS, hl⟩ := hI
              refine lv_iload hx hb dX4_planWorth_52 (lv_at hl 8 rfl) ?_
              refine lv_iload hx hb dX4_planWorth_54 (lv_at hl 6 rfl) ?_
              refine n_ge hx hb (by omega) (by omega) 91 dX4_planWorth_56 (by decide) (fun c56 => ?_) (fun c56 => ?_)
              · skip
                exact absurd c56 (by omega)
              · skip
                refine lv_iload hx hb dX4_planWorth_59 (lv_at hl 8 rfl) ?_
                refine lv_iconst (v := nI 1) hx hb dX4_planWorth_61 (by decide) ?_
                refine lv_iadd hx hb dX4_planWorth_62 ?_
                refine tp_i (nI_add _ _) ?_
                refine lv_iload hx hb dX4_planWorth_63 (lv_at hl 6 rfl) ?_
                refine lv_iconst (v := nI 1) hx hb dX4_planWorth_65 (by decide) ?_
                refine lv_isub hx hb dX4_planWorth_66 ?_
                refine tp_i (pk_sub (by omega)) ?_
                refine va_mmin hx hb (hml.trans hl.1.symm) hown (hts (.methodLink RX4 137 Lib.Math.min.name) (by decide +kernel)) (hts (.static Lib.Math.min.name) (by decide +kernel)) (hts (.initialized "java/lang/Math") (by decide +kernel)) (hts (.code Lib.Math.min.name Lib.Math.min.code 2 (some .int)) (by decide +kernel)) (Nat.le_of_ble_eq_true rfl) (Nat.le_of_ble_eq_true rfl) (Nat.zero_le _) (Nat.zero_le _) dX4_planWorth_67 ?_
                refine tp_i (nI_min (by omega) (by omega)) ?_
                refine st_i2 hx hb 9 dX4_planWorth_70 hl (by decide) rfl (fun ls hl => ?_)
                refine lv_aload_n hx hb dX4_planWorth_72 rfl (lv_at hl 0 rfl) ?_
                refine lv_aload_n hx hb dX4_planWorth_73 rfl (lv_at hl 2 rfl) ?_
                refine lv_iload hx hb dX4_planWorth_74 (lv_at hl 8 rfl) ?_
                refine lv_iload hx hb dX4_planWorth_76 (lv_at hl 9 rfl) ?_
                refine lv_iload hx hb dX4_planWorth_78 (lv_at hl 7 rfl) ?_
                refine lv_iload hx hb dX4_planWorth_80 (lv_at hl 5 rfl) ?_
                refine cW_v (va_runV ⟨hx, hb, hml, hown, hts⟩ (c_playRung l E ad g hz n mk (fun j => nI (td j)) gr cf ce ck rv st1 wo3 rest hg2 hg32 kg a b d hd hg hgn (gSt g d td plan) (fun r q => gSt_le hd) what (gRg plan) j i hw3 hR1.2 (by omega) hi_i (fun q hq => (hr1 i hi_i q hq).1) (fun r1 h1 q hq => by rw [hw3e]; exact hr2 r1 h1 q hq) _) (cwV 5 hts gX4_planWorth_X4_playRung rfl rfl rfl (by decide +kernel) ⟨Nat.le_of_ble_eq_true rfl, Nat.le_of_ble_eq_true rfl⟩) (ePw_V hP hD hE (ci := 4) (k := 0) rfl rfl) rfl rfl hl.1 rfl (lv_room (Nat.le_of_ble_eq_true rfl)) dX4_planWorth_82 ⟨Nat.zero_le _, Nat.zero_le _⟩) hS hD hA (fun ws9 H locs hr9 hP hD hS => ?_)
                obtain ⟨wo4, hw4, hx4, hq4, rfl⟩ := hr9
                refine st_inc hx hb 8 dX4_planWorth_85 hl rfl (nI_1 _) (by decide) rfl (fun ls hl => ?_)
                refine lv_goto (tgt := 52) hx hb dX4_planWorth_88 (by decide) ?_
                refine ihi _ _ _ ⟨wo4, hw4.trans hw3e, fun r hr q hq => ?_, hP, hD, hS, lv_sub hl [0, 1, 2, 3, 4, 5, 6, 7, 8] rfl⟩
                by_cases hri : r = i
                · subst hri; exact hq4 q hq
                · rw [hx4 _ (by omega)]; exact hr3 r (by omega) q hq
            · skip
              obtain ⟨wo3, hw3e, hr3, hP, hD, hS, hl⟩ := hI
              refine lv_iload hx hb dX4_planWorth_52 (lv_at hl 8 rfl) ?_
              refine lv_iload hx hb dX4_planWorth_54 (lv_at hl 6 rfl) ?_
              refine n_ge hx hb (by omega) (by omega) 91 dX4_planWorth_56 (by decide) (fun c56 => ?_) (fun c56 => ?_)
              · skip
                refine st_inc hx hb 7 dX4_planWorth_91 hl rfl (nI_1 _) (by decide) rfl (fun ls hl => ?_)
                refine lv_goto (tgt := 42) hx hb dX4_planWorth_94 (by decide) ?_
                exact ihj _ _ _ ⟨wo3, hr3, hP, hD, hS, lv_sub hl [0, 1, 2, 3, 4, 5, 6, 7] rfl⟩
              · skip
                exact absurd c56 (by omega)
        · skip
          obtain ⟨wo2, hr2, hP, hD, hS, hl⟩ := hI
          refine lv_iload hx hb dX4_planWorth_42 (lv_at hl 7 rfl) ?_
          refine lv_iload hx hb dX4_planWorth_44 (lv_at hl 4 rfl) ?_
          refine n_gt hx hb (by omega) (by omega) 97 dX4_planWorth_46 (by decide) (fun c46 => ?_) (fun c46 => ?_)
          · skip
            refine lv_aload_n hx hb dX4_planWorth_97 rfl (lv_at hl 0 rfl) ?_
            refine va_get (D := E.1) (ci := 4) (C := RX4) (T := TX4) (N := 11) hx hb hts hinX4 hown hE.1 hP 0 rfl rfl 6 (by decide) (hts (.fieldLink RX4 39 "StakeHouse" "worth" "[[J") (by decide +kernel)) (fun _ h9 => h9) rfl dX4_planWorth_98 ?_
            refine lv_iload hx hb dX4_planWorth_101 (lv_at hl 4 rfl) ?_
            refine lv_iconst (v := nI 1) hx hb dX4_planWorth_103 (by decide) ?_
            refine lv_iand hx hb dX4_planWorth_104 ?_
            refine tp_i (nI_and1 (by omega)) ?_
            refine va_ald2 hx hb hE.1 hP 7 3 rfl rfl (vp_in_nI (by omega) (by decide)) dX4_planWorth_105 ?_
            refine tp_r (xW2_at (by omega)) ?_
            refine lv_iload_n hx hb dX4_planWorth_106 rfl (lv_at hl 3 rfl) ?_
            refine va_lald hx hb hE.1 hP (8 + t % 2) 1 (wX_W (by omega)) rfl (vp_in_nI (by omega) (by decide)) dX4_planWorth_107 ?_
            refine tp_l (show _ = lN (gV g d (gSt g d td plan) what (gRg plan) t 0 q) by rw [nI_clamp (by omega)]; have h0 := hr2 0 (by omega) q hq; rwa [Nat.zero_mul, Nat.zero_add] at h0) ?_
            exact ret_Wl hx hb hr hlocks dX4_planWorth_108 hP hD hS ⟨rfl, st1, wo2, rfl⟩
          · skip
            exact absurd c46 (by omega)
      · skip
        exact absurd c20 (by omega)
  · skip
    intro K
    refine lv_iload_n hx hb dX4_planWorth_0 rfl (lv_at hl 1 rfl) ?_
    refine lv_iconst (v := nI 3) hx hb dX4_planWorth_1 (by decide) ?_
    refine n_ne hx hb (by omega) (by omega) 10 dX4_planWorth_2 (by decide) (fun c2 => ?_) (fun c2 => ?_)
    · skip
      refine lv_iconst (v := nI 1) hx hb dX4_planWorth_10 (by decide) ?_
      exact K _ (show _ = nI (if plan = 3 then 6 else 1) by rw [if_neg c2])
    · skip
      refine lv_bipush (v := nI 6) hx hb dX4_planWorth_5 (by decide) ?_
      refine lv_goto (tgt := 11) hx hb dX4_planWorth_7 (by decide) ?_
      exact K _ (show _ = nI (if plan = 3 then 6 else 1) by rw [if_pos c2])
/-- plan's answer -/
def pln_of (g hz n : Nat) (gd : Nat → gT) (td : Nat → Nat) (pv iv qv tv wv : Int32) (r : Int64) : Prop := (∃ p i q t w : Nat, pv = nI p ∧ iv = nI i ∧ qv = nI q ∧ tv = nI t ∧ wv = nI w ∧ p ≤ 3 ∧ i < n ∧ q ≤ g ∧ t ≤ hz ∧ w ≤ 3 ∧ r = lN (gV g (gd i) (gSt g (gd i) td p) w (gRg p) t 0 q)) ∨ ((¬ ∃ p i q t w : Nat, pv = nI p ∧ iv = nI i ∧ qv = nI q ∧ tv = nI t ∧ wv = nI w ∧ p ≤ 3 ∧ i < n ∧ q ≤ g ∧ t ≤ hz ∧ w ≤ 3) ∧ r = -1)
/-- bold's answer -/
def bld_of (g hz n : Nat) (gd : Nat → gT) (td : Nat → Nat) (iv qv tv : Int32) (r : Int32) : Prop := (∃ i q t : Nat, iv = nI i ∧ qv = nI q ∧ tv = nI t ∧ i < n ∧ q ≤ g ∧ t ≤ hz ∧ r = if gV g (gd i) (gSt g (gd i) td 0) 0 (gRg 0) t 0 q = gBst g gd i 1 0 t q then 1 else 0) ∨ ((¬ ∃ i q t : Nat, iv = nI i ∧ qv = nI q ∧ tv = nI t ∧ i < n ∧ q ≤ g ∧ t ≤ hz) ∧ r = -1)
set_option maxHeartbeats 4000000 in
set_option maxRecDepth 100000 in
/-- plan -/
theorem c_plan (l : Launch) (E : eT) (ad : Nat → Nat) (g hz n : Nat) (mk : Int64) (td : Nat → Nat) (gr : Nat → Option Nat) (cf ce ck : Nat → Nat) (rv : Nat → Nat → Int64) (st : Nat → Int32) (wo : Nat → Nat → Int64) (rest : va_W) (hg2 : 2 ≤ g) (hg32 : g ≤ 32) (hhz : hz ≤ 12) (htd2 : ∀ j, td j ≤ 32) (hn : n ≤ 4) (pl ga gb : Nat → Nat) (gd : Nat → gT) (hGA : gAll E rest gr n pl ga gb gd) (pv iv qv tv wv : Int32) : mWl l yX4_plan wsX4_plan 6 170 0 0 E (wX E ad g hz n mk (fun j => nI (td j)) gr cf ce ck rv st wo ++ rest) [.ref (ad 0), .int pv, .int iv, .int qv, .int tv, .int wv] (fun r ws1 => pln_of g hz n gd td pv iv qv tv wv r ∧ ∃ (st1 : Nat → Int32) (wo1 : Nat → Nat → Int64), ws1 = wX E ad g hz n mk (fun j => nI (td j)) gr cf ce ck rv st1 wo1 ++ rest) := by
  intro sz
  refine mW_of (cc := cX4_plan) (maxL := 7) (ret := (some .long)) (Qc := fun sz => va_Ql (fun r ws1 => pln_of g hz n gd td pv iv qv tv wv r ∧ ∃ (st1 : Nat → Int32) (wo1 : Nat → Nat → Int64), ws1 = wX E ad g hz n mk (fun j => nI (td j)) gr cf ce ck rv st1 wo1 ++ rest) (eAt E (va_A (wX E ad g hz n mk (fun j => nI (td j)) gr cf ce ck rv st wo ++ rest) sz)) (va_A (wX E ad g hz n mk (fun j => nI (td j)) gr cf ce ck rv st wo ++ rest) sz)) (by decide) rfl (Nat.le_of_ble_eq_true rfl) ?_
  intro p0 e0 s m below meth c0 ls hx hb hr hml hts hown hlocks hin hE hP hD hl
  have hS : va_S (va_A (wX E ad g hz n mk (fun j => nI (td j)) gr cf ce ck rv st wo ++ rest) s.heap.size) s.heap s.heap [] := va_S.rf
  have hA : ∀ q, s.heap.size ≤ q → (va_A (wX E ad g hz n mk (fun j => nI (td j)) gr cf ce ck rv st wo ++ rest) s.heap.size) q := fun q h => Or.inr h
  have hown : s.vm.findClass RX4 = some m.cls := hown
  have hl : lv_has ls 7 [(0, .ref (ad 0)), (1, .int pv), (2, .int iv), (3, .int qv), (4, .int tv), (5, .int wv)] := hl
  have hinX4 : ∀ w ∈ wsX40, w ∈ wsX4_plan := by decide +kernel
  refine lv_aload_n hx hb dX4_plan_0 rfl (lv_at hl 0 rfl) ?_
  refine lv_iload_n hx hb dX4_plan_1 rfl (lv_at hl 2 rfl) ?_
  refine va_csq (W.runV ⟨hx, hb, hml, hown, hts⟩ (c_gameAt l E _ ad g hz n mk rfl hn gr rfl _) (cwV 1 hts gX4_plan_X4_gameAt rfl rfl rfl (by decide +kernel) ⟨Nat.le_of_ble_eq_true rfl, Nat.le_of_ble_eq_true rfl⟩) (ePu_V hP hE (ci := 4) (k := 0) rfl rfl) rfl rfl hl.1 rfl (lv_room (Nat.le_of_ble_eq_true rfl)) dX4_plan_2 ⟨Nat.zero_le _, Nat.zero_le _⟩) (fun r9 hr9 => ?_)
  by_cases hi9 : ∃ i : Nat, i < n ∧ iv = nI i
  · skip
    obtain ⟨i, hi, rfl⟩ := hi9
    have hr9 := gameAt_in hGA hn hi hr9
    subst hr9
    refine tp_r (show va_rf (some _) = .ref (ga i) from rfl) ?_
    refine st_a2 hx hb 6 dX4_plan_5 hl (by decide) rfl (fun ls hl => ?_)
    refine lv_aload hx hb dX4_plan_7 (lv_at hl 6 rfl) ?_
    refine lv_ifnull hx hb dX4_plan_9 ?_
    refine lv_iload_n hx hb dX4_plan_12 rfl (lv_at hl 1 rfl) ?_
    refine lv_iconst (v := nI 0) hx hb dX4_plan_13 (by decide) ?_
    refine lv_iconst (v := nI 3) hx hb dX4_plan_14 (by decide) ?_
    refine vp_callSi (W.runS ⟨hx, hb, hml, hown, hts⟩ (c_within l E _ _ _ _) (va_cwS 3 hts gX4_plan_X4_within rfl rfl rfl (by decide +kernel) ⟨Nat.le_of_ble_eq_true rfl, Nat.le_of_ble_eq_true rfl⟩) (ePu_S hP hE) rfl rfl hl.1 rfl (lv_room (Nat.le_of_ble_eq_true rfl)) dX4_plan_15 ⟨Nat.zero_le _, Nat.zero_le _⟩) (fun r9 hr9 => ?_)
    subst hr9
    refine q_eq hx hb 31 dX4_plan_18 (by decide) (fun c18 => ?_) (fun c18 => ?_)
    · skip
      refine lv_ldc2 (v := -1) hx hb hown (hts (.constantLong RX4 93 (-1)) (by decide +kernel)) dX4_plan_31 ?_
      exact ret_Wl hx hb hr hlocks dX4_plan_34 hP hD hS ⟨Or.inr ⟨fun ⟨p, i, q, t, w, e1, e2, e3, e4, e5, g1, g2, g3, g4, g5⟩ => c18 (by rw [e1]; exact (nI_rngI (by omega) (by decide) (by decide)).mpr ⟨by omega, g1⟩), rfl⟩, st, wo, rfl⟩
    · skip
      obtain ⟨p, -, hp3, rfl⟩ := nI_rng (by decide) c18 (by decide)
      refine lv_iload hx hb dX4_plan_21 (lv_at hl 5 rfl) ?_
      refine lv_iconst (v := nI 0) hx hb dX4_plan_23 (by decide) ?_
      refine lv_iconst (v := nI 3) hx hb dX4_plan_24 (by decide) ?_
      refine vp_callSi (W.runS ⟨hx, hb, hml, hown, hts⟩ (c_within l E _ _ _ _) (va_cwS 3 hts gX4_plan_X4_within rfl rfl rfl (by decide +kernel) ⟨Nat.le_of_ble_eq_true rfl, Nat.le_of_ble_eq_true rfl⟩) (ePu_S hP hE) rfl rfl hl.1 rfl (lv_room (Nat.le_of_ble_eq_true rfl)) dX4_plan_25 ⟨Nat.zero_le _, Nat.zero_le _⟩) (fun r9 hr9 => ?_)
      subst hr9
      refine q_ne hx hb 35 dX4_plan_28 (by decide) (fun c28 => ?_) (fun c28 => ?_)
      · skip
        obtain ⟨w, -, hw3, rfl⟩ := nI_rng (by decide) c28 (by decide)
        refine lv_aload_n hx hb dX4_plan_35 rfl (lv_at hl 0 rfl) ?_
        refine lv_iload_n hx hb dX4_plan_36 rfl (lv_at hl 3 rfl) ?_
        refine lv_iload hx hb dX4_plan_37 (lv_at hl 4 rfl) ?_
        refine vp_callSi (W.runV ⟨hx, hb, hml, hown, hts⟩ (c_isSpot l E _ ad g hz n mk rfl _ _) (cwV 2 hts gX4_plan_X4_isSpot rfl rfl rfl (by decide +kernel) ⟨Nat.le_of_ble_eq_true rfl, Nat.le_of_ble_eq_true rfl⟩) (ePu_V hP hE (ci := 4) (k := 0) rfl rfl) rfl rfl hl.1 rfl (lv_room (Nat.le_of_ble_eq_true rfl)) dX4_plan_39 ⟨Nat.zero_le _, Nat.zero_le _⟩) (fun r9 hr9 => ?_)
        subst hr9
        refine q_ne hx hb 49 dX4_plan_42 (by decide) (fun c42 => ?_) (fun c42 => ?_)
        · skip
          obtain ⟨⟨hq1, hq2⟩, ht1, ht2⟩ := c42
          obtain ⟨q, -, hq, rfl⟩ := nI_rng (by omega) ⟨hq1, hq2⟩ (by decide)
          obtain ⟨t, -, ht, rfl⟩ := nI_rng (by omega) ⟨ht1, ht2⟩ (by decide)
          refine lv_aload_n hx hb dX4_plan_49 rfl (lv_at hl 0 rfl) ?_
          refine lv_iload_n hx hb dX4_plan_50 rfl (lv_at hl 1 rfl) ?_
          refine lv_aload hx hb dX4_plan_51 (lv_at hl 6 rfl) ?_
          refine lv_iload_n hx hb dX4_plan_53 rfl (lv_at hl 3 rfl) ?_
          refine lv_iload hx hb dX4_plan_54 (lv_at hl 4 rfl) ?_
          refine lv_iload hx hb dX4_plan_56 (lv_at hl 5 rfl) ?_
          refine cW_l (va_runV ⟨hx, hb, hml, hown, hts⟩ (c_planWorth l E ad g hz n mk td gr cf ce ck rv st wo rest hg2 hg32 htd2 (pl i) (ga i) (gb i) (gd i) (hGA _ hi).2.2.2 (hGA _ hi).2.1 (hGA _ hi).2.2.1 p q t w hp3 hq (by omega) hw3 _) (cwV 5 hts gX4_plan_X4_planWorth rfl rfl rfl (by decide +kernel) ⟨Nat.le_of_ble_eq_true rfl, Nat.le_of_ble_eq_true rfl⟩) (ePw_V hP hD hE (ci := 4) (k := 0) rfl rfl) rfl rfl hl.1 rfl (lv_room (Nat.le_of_ble_eq_true rfl)) dX4_plan_58 ⟨Nat.zero_le _, Nat.zero_le _⟩) hS hD hA (fun r9 ws9 H locs hr9 hP hD hS => ?_)
          obtain ⟨rfl, st1, wo1, rfl⟩ := hr9
          exact ret_Wl hx hb hr hlocks dX4_plan_61 hP hD hS ⟨Or.inl ⟨p, i, q, t, w, rfl, rfl, rfl, rfl, rfl, hp3, hi, hq, ht, hw3, rfl⟩, st1, wo1, rfl⟩
        · skip
          refine lv_ldc2 (v := -1) hx hb hown (hts (.constantLong RX4 93 (-1)) (by decide +kernel)) dX4_plan_45 ?_
          exact ret_Wl hx hb hr hlocks dX4_plan_48 hP hD hS ⟨Or.inr ⟨fun ⟨p, i, q, t, w, e1, e2, e3, e4, e5, g1, g2, g3, g4, g5⟩ => c42 (by rw [e3, e4]; exact ⟨(nI_rngI (by omega) (by decide) (by omega)).mpr ⟨by omega, g3⟩, (nI_rngI (by omega) (by decide) (by omega)).mpr ⟨by omega, g4⟩⟩), rfl⟩, st, wo, rfl⟩
      · skip
        refine lv_ldc2 (v := -1) hx hb hown (hts (.constantLong RX4 93 (-1)) (by decide +kernel)) dX4_plan_31 ?_
        exact ret_Wl hx hb hr hlocks dX4_plan_34 hP hD hS ⟨Or.inr ⟨fun ⟨p, i, q, t, w, e1, e2, e3, e4, e5, g1, g2, g3, g4, g5⟩ => c28 (by rw [e5]; exact (nI_rngI (by omega) (by decide) (by decide)).mpr ⟨by omega, g5⟩), rfl⟩, st, wo, rfl⟩
  · skip
    have hr9 := gameAt_out hn hi9 hr9
    subst hr9
    refine tp_r (show va_rf none = .null from rfl) ?_
    refine lv_astoreN hx hb dX4_plan_5 hl (by decide) rfl (fun ls hl => ?_)
    refine lv_aloadN hx hb dX4_plan_7 (lv_at hl 0 rfl) ?_
    refine lv_ifnullN (tgt := 31) hx hb dX4_plan_9 (by decide) ?_
    refine lv_ldc2 (v := -1) hx hb hown (hts (.constantLong RX4 93 (-1)) (by decide +kernel)) dX4_plan_31 ?_
    exact ret_Wl hx hb hr hlocks dX4_plan_34 hP hD hS ⟨Or.inr ⟨fun ⟨p, i, q, t, w, e1, e2, e3, e4, e5, g1, g2, g3, g4, g5⟩ => hi9 ⟨i, g2, e2⟩, rfl⟩, st, wo, rfl⟩
set_option maxHeartbeats 4000000 in
set_option maxRecDepth 100000 in
/-- bold -/
theorem c_bold (l : Launch) (E : eT) (ad : Nat → Nat) (g hz n : Nat) (mk : Int64) (td : Nat → Nat) (gr : Nat → Option Nat) (cf ce ck : Nat → Nat) (rv : Nat → Nat → Int64) (st : Nat → Int32) (wo : Nat → Nat → Int64) (rest : va_W) (hg2 : 2 ≤ g) (hg32 : g ≤ 32) (hhz : hz ≤ 12) (htd2 : ∀ j, td j ≤ 32) (hn : n ≤ 4) (pl ga gb : Nat → Nat) (gd : Nat → gT) (hGA : gAll E rest gr n pl ga gb gd) (hV : chV g gd cf ce ck rv) (iv qv tv : Int32) : mWi l yX4_bold wsX4_bold 6 170 0 0 E (wX E ad g hz n mk (fun j => nI (td j)) gr cf ce ck rv st wo ++ rest) [.ref (ad 0), .int iv, .int qv, .int tv] (fun r ws1 => bld_of g hz n gd td iv qv tv r ∧ ∃ (cf1 ce1 ck1 : Nat → Nat) (rv1 : Nat → Nat → Int64) (st1 : Nat → Int32) (wo1 : Nat → Nat → Int64), chV g gd cf1 ce1 ck1 rv1 ∧ ws1 = wX E ad g hz n mk (fun j => nI (td j)) gr cf1 ce1 ck1 rv1 st1 wo1 ++ rest) := by
  intro sz
  refine mW_of (cc := cX4_bold) (maxL := 7) (ret := (some .int)) (Qc := fun sz => va_Qi (fun r ws1 => bld_of g hz n gd td iv qv tv r ∧ ∃ (cf1 ce1 ck1 : Nat → Nat) (rv1 : Nat → Nat → Int64) (st1 : Nat → Int32) (wo1 : Nat → Nat → Int64), chV g gd cf1 ce1 ck1 rv1 ∧ ws1 = wX E ad g hz n mk (fun j => nI (td j)) gr cf1 ce1 ck1 rv1 st1 wo1 ++ rest) (eAt E (va_A (wX E ad g hz n mk (fun j => nI (td j)) gr cf ce ck rv st wo ++ rest) sz)) (va_A (wX E ad g hz n mk (fun j => nI (td j)) gr cf ce ck rv st wo ++ rest) sz)) (by decide) rfl (Nat.le_of_ble_eq_true rfl) ?_
  intro p0 e0 s m below meth c0 ls hx hb hr hml hts hown hlocks hin hE hP hD hl
  have hS : va_S (va_A (wX E ad g hz n mk (fun j => nI (td j)) gr cf ce ck rv st wo ++ rest) s.heap.size) s.heap s.heap [] := va_S.rf
  have hA : ∀ q, s.heap.size ≤ q → (va_A (wX E ad g hz n mk (fun j => nI (td j)) gr cf ce ck rv st wo ++ rest) s.heap.size) q := fun q h => Or.inr h
  have hown : s.vm.findClass RX4 = some m.cls := hown
  have hl : lv_has ls 7 [(0, .ref (ad 0)), (1, .int iv), (2, .int qv), (3, .int tv)] := hl
  have hinX4 : ∀ w ∈ wsX40, w ∈ wsX4_bold := by decide +kernel
  refine lv_aload_n hx hb dX4_bold_0 rfl (lv_at hl 0 rfl) ?_
  refine lv_iload_n hx hb dX4_bold_1 rfl (lv_at hl 1 rfl) ?_
  refine va_csq (W.runV ⟨hx, hb, hml, hown, hts⟩ (c_gameAt l E _ ad g hz n mk rfl hn gr rfl _) (cwV 1 hts gX4_bold_X4_gameAt rfl rfl rfl (by decide +kernel) ⟨Nat.le_of_ble_eq_true rfl, Nat.le_of_ble_eq_true rfl⟩) (ePu_V hP hE (ci := 4) (k := 0) rfl rfl) rfl rfl hl.1 rfl (lv_room (Nat.le_of_ble_eq_true rfl)) dX4_bold_2 ⟨Nat.zero_le _, Nat.zero_le _⟩) (fun r9 hr9 => ?_)
  by_cases hi9 : ∃ i : Nat, i < n ∧ iv = nI i
  · skip
    obtain ⟨i, hi, rfl⟩ := hi9
    have hr9 := gameAt_in hGA hn hi hr9
    subst hr9
    refine tp_r (show va_rf (some _) = .ref (ga i) from rfl) ?_
    refine st_a2 hx hb 4 dX4_bold_5 hl (by decide) rfl (fun ls hl => ?_)
    refine lv_aload hx hb dX4_bold_7 (lv_at hl 4 rfl) ?_
    refine lv_ifnull hx hb dX4_bold_9 ?_
    refine lv_aload_n hx hb dX4_bold_12 rfl (lv_at hl 0 rfl) ?_
    refine lv_iload_n hx hb dX4_bold_13 rfl (lv_at hl 2 rfl) ?_
    refine lv_iload_n hx hb dX4_bold_14 rfl (lv_at hl 3 rfl) ?_
    refine vp_callSi (W.runV ⟨hx, hb, hml, hown, hts⟩ (c_isSpot l E _ ad g hz n mk rfl _ _) (cwV 2 hts gX4_bold_X4_isSpot rfl rfl rfl (by decide +kernel) ⟨Nat.le_of_ble_eq_true rfl, Nat.le_of_ble_eq_true rfl⟩) (ePu_V hP hE (ci := 4) (k := 0) rfl rfl) rfl rfl hl.1 rfl (lv_room (Nat.le_of_ble_eq_true rfl)) dX4_bold_15 ⟨Nat.zero_le _, Nat.zero_le _⟩) (fun r9 hr9 => ?_)
    subst hr9
    refine q_ne hx hb 23 dX4_bold_18 (by decide) (fun c18 => ?_) (fun c18 => ?_)
    · skip
      obtain ⟨⟨hq1, hq2⟩, ht1, ht2⟩ := c18
      obtain ⟨q, -, hq, rfl⟩ := nI_rng (by omega) ⟨hq1, hq2⟩ (by decide)
      obtain ⟨t, -, ht, rfl⟩ := nI_rng (by omega) ⟨ht1, ht2⟩ (by decide)
      have hA1 := gV_le (S := gSt g (gd i) td 0) (what := 0) (rg := gRg 0) hg32 (hGA _ hi).2.2.2 (by decide) t 0 q hq
      have hA2 := gBst_le (what := 0) hg32 (lo := i) (cnt := 1) (fun k hk => (hGA (i + k) (by omega)).2.2.2) t q hq
      have hA3 := b53 (t := t) (by omega)
      refine lv_aload_n hx hb dX4_bold_23 rfl (lv_at hl 0 rfl) ?_
      refine va_get (D := E.1) (ci := 4) (C := RX4) (T := TX4) (N := 11) hx hb hts hinX4 hown hE.1 hP 0 rfl rfl 4 (by decide) (hts (.fieldLink RX4 31 "StakeHouse" "aloneChart" "LStakeHouse$Chart;") (by decide +kernel)) (fun _ h9 => h9) rfl dX4_bold_24 ?_
      refine lv_iload_n hx hb dX4_bold_27 rfl (lv_at hl 1 rfl) ?_
      refine lv_iload_n hx hb dX4_bold_28 rfl (lv_at hl 1 rfl) ?_
      refine lv_iconst (v := nI 1) hx hb dX4_bold_29 (by decide) ?_
      refine lv_iadd hx hb dX4_bold_30 ?_
      refine tp_i (nI_add _ _) ?_
      refine cW_v (va_runV ⟨hx, hb, hml, hown, hts⟩ (c_cover l E _ 5 (ad 5) 0 (ad 12) (cf 2) (ce 2) (ck 2) i (i + 1) (by have := (hV 2 (by decide)).1; omega) (by have := (hV 2 (by decide)).2.1; omega) (by omega) (by omega) rfl _) (cwV 2 hts gX4_bold_X0_cover rfl rfl rfl (by decide +kernel) ⟨Nat.le_of_ble_eq_true rfl, Nat.le_of_ble_eq_true rfl⟩) (ePw_V hP hD hE (ci := 0) (k := 5) rfl rfl) rfl rfl hl.1 rfl (lv_room (Nat.le_of_ble_eq_true rfl)) dX4_bold_31 ⟨Nat.zero_le _, Nat.zero_le _⟩) hS hD hA (fun ws9 H locs hr9 hP hD hS => ?_)
      obtain ⟨cf1, ce1, ck1, hV1, hlo, hhi, rfl⟩ := cov_of (c := 2) (lo := i) (cnt := 1) (by decide) (by omega) hV hr9
      refine lv_aload_n hx hb dX4_bold_34 rfl (lv_at hl 0 rfl) ?_
      refine lv_aload_n hx hb dX4_bold_35 rfl (lv_at hl 0 rfl) ?_
      refine va_get (D := E.1) (ci := 4) (C := RX4) (T := TX4) (N := 11) hx hb hts hinX4 hown hE.1 hP 0 rfl rfl 4 (by decide) (hts (.fieldLink RX4 31 "StakeHouse" "aloneChart" "LStakeHouse$Chart;") (by decide +kernel)) (fun _ h9 => h9) rfl dX4_bold_36 ?_
      refine lv_iload_n hx hb dX4_bold_39 rfl (lv_at hl 3 rfl) ?_
      refine cW_r (va_runV ⟨hx, hb, hml, hown, hts⟩ (c_chartRow l E ad g hz n mk (fun j => nI (td j)) gr cf1 ce1 ck1 rv st wo rest hg2 hg32 hn pl ga gb gd hGA 2 (by decide) i 1 hlo hhi (by omega) (hV1 2 (by decide)).2.2.1 (by have := (hV1 2 (by decide)).2.2.2; rw [hhi, hlo, show i + 1 - i = 1 by omega] at this; exact this) t (by omega) _) (cwV 2 hts gX4_bold_X4_chartRow rfl rfl rfl (by decide +kernel) ⟨Nat.le_of_ble_eq_true rfl, Nat.le_of_ble_eq_true rfl⟩) (ePw_V hP hD hE (ci := 4) (k := 0) rfl rfl) rfl rfl hl.1 rfl (lv_room (Nat.le_of_ble_eq_true rfl)) dX4_bold_40 ⟨Nat.zero_le _, Nat.zero_le _⟩) hS hD hA (fun r9 ws9 H locs hr9 hP hD hS => ?_)
      obtain ⟨rfl, rv1, hr1, hrow, rfl⟩ := hr9
      have hV2 := chV_row hV1 hlo hhi (by have := (hV1 2 (by decide)).2.2.1; omega) hr1 hrow
      refine lv_iload_n hx hb dX4_bold_43 rfl (lv_at hl 2 rfl) ?_
      refine va_lald hx hb hE.1 hP (13 + (13 * 2 + t)) 1 (wX_R (by omega)) rfl (vp_in_nI (by omega) (by decide)) dX4_bold_44 ?_
      refine tp_l (show _ = lN (gBst g gd i 1 0 t q) by rw [nI_clamp (by omega)]; exact hrow t (by omega) q (by omega)) ?_
      refine st_l2 hx hb 5 dX4_bold_45 hl (by decide) rfl (fun ls hl => ?_)
      refine lv_aload_n hx hb dX4_bold_47 rfl (lv_at hl 0 rfl) ?_
      refine lv_iconst (v := nI 0) hx hb dX4_bold_48 (by decide) ?_
      refine lv_aload hx hb dX4_bold_49 (lv_at hl 4 rfl) ?_
      refine lv_iload_n hx hb dX4_bold_51 rfl (lv_at hl 2 rfl) ?_
      refine lv_iload_n hx hb dX4_bold_52 rfl (lv_at hl 3 rfl) ?_
      refine lv_iconst (v := nI 0) hx hb dX4_bold_53 (by decide) ?_
      refine cW_l (va_runV ⟨hx, hb, hml, hown, hts⟩ (c_planWorth l E ad g hz n mk td gr cf1 ce1 _ rv1 st wo rest hg2 hg32 htd2 (pl i) (ga i) (gb i) (gd i) (hGA _ hi).2.2.2 (hGA _ hi).2.1 (hGA _ hi).2.2.1 0 q t 0 (by decide) hq (by omega) (by decide) _) (cwV 5 hts gX4_bold_X4_planWorth rfl rfl rfl (by decide +kernel) ⟨Nat.le_of_ble_eq_true rfl, Nat.le_of_ble_eq_true rfl⟩) (ePw_V hP hD hE (ci := 4) (k := 0) rfl rfl) rfl rfl hl.1 rfl (lv_room (Nat.le_of_ble_eq_true rfl)) dX4_bold_54 ⟨Nat.zero_le _, Nat.zero_le _⟩) hS hD hA (fun r9 ws9 H locs hr9 hP hD hS => ?_)
      obtain ⟨rfl, st1, wo1, rfl⟩ := hr9
      refine lv_lload hx hb dX4_bold_57 (lv_at hl 5 rfl) ?_
      refine W.lcmp hx hb dX4_bold_59 ?_
      refine lv_if_ne (tgt := 67) hx hb dX4_bold_60 (by decide) (fun c60 => ?_) (fun c60 => ?_)
      · skip
        rw [lg_cmp_eq, pk_lEQ (by omega) (by omega)] at c60
        refine lv_iconst (v := nI 0) hx hb dX4_bold_67 (by decide) ?_
        exact ret_Wi hx hb hr hlocks dX4_bold_68 hP hD hS ⟨Or.inl ⟨i, q, t, rfl, rfl, rfl, hi, hq, ht, by rw [if_neg c60]; rfl⟩, cf1, ce1, _, rv1, st1, wo1, hV2, rfl⟩
      · skip
        rw [lg_cmp_eq, pk_lEQ (by omega) (by omega)] at c60
        refine lv_iconst (v := nI 1) hx hb dX4_bold_63 (by decide) ?_
        refine lv_goto (tgt := 68) hx hb dX4_bold_64 (by decide) ?_
        exact ret_Wi hx hb hr hlocks dX4_bold_68 hP hD hS ⟨Or.inl ⟨i, q, t, rfl, rfl, rfl, hi, hq, ht, by rw [if_pos c60]; rfl⟩, cf1, ce1, _, rv1, st1, wo1, hV2, rfl⟩
    · skip
      refine lv_iconst (v := (-1)) hx hb dX4_bold_21 (by decide) ?_
      exact ret_Wi hx hb hr hlocks dX4_bold_22 hP hD hS ⟨Or.inr ⟨fun ⟨i, q, t, e1, e2, e3, g1, g2, g3⟩ => c18 (by rw [e2, e3]; exact ⟨(nI_rngI (by omega) (by decide) (by omega)).mpr ⟨by omega, g2⟩, (nI_rngI (by omega) (by decide) (by omega)).mpr ⟨by omega, g3⟩⟩), rfl⟩, cf, ce, ck, rv, st, wo, hV, rfl⟩
  · skip
    have hr9 := gameAt_out hn hi9 hr9
    subst hr9
    refine tp_r (show va_rf none = .null from rfl) ?_
    refine lv_astoreN hx hb dX4_bold_5 hl (by decide) rfl (fun ls hl => ?_)
    refine lv_aloadN hx hb dX4_bold_7 (lv_at hl 0 rfl) ?_
    refine lv_ifnullN (tgt := 21) hx hb dX4_bold_9 (by decide) ?_
    refine lv_iconst (v := (-1)) hx hb dX4_bold_21 (by decide) ?_
    exact ret_Wi hx hb hr hlocks dX4_bold_22 hP hD hS ⟨Or.inr ⟨fun ⟨i, q, t, e1, e2, e3, g1, g2, g3⟩ => hi9 ⟨i, g1, e1⟩, rfl⟩, cf, ce, ck, rv, st, wo, hV, rfl⟩
end
section
/-! the games: gains, marks, how they are made and kept; game, win -/
theorem gmE_0 {d : gT} {b : Nat} (h : gK d = 0) : gmE d b = .inr (1, [.int (nI (gC d)), .int (nI (gL d)), .ref b]) := by
  unfold gmE
  rw [if_pos h]
theorem gmE_1 {d : gT} {b : Nat} (h : gK d = 1) : gmE d b = .inr (2, [.int (nI (gC d)), .int (nI (gL d)), .ref b, .int (nI (gM d))]) := by
  unfold gmE
  rw [if_neg (by omega), if_pos h]
theorem gmE_2 {d : gT} {b : Nat} (h : gK d = 2) : gmE d b = .inr (3, [.int (nI (gM d)), .int (nI (gC d)), .int (nI (gL d)), .ref b, .int (nI (gX d))]) := by
  unfold gmE
  rw [if_neg (by omega), if_neg (by omega)]
theorem gWin_0 {d : gT} (h : gK d = 0) (s : Nat) : gWin d s = s := by unfold gWin; rw [if_pos h]
theorem gWin_1 {d : gT} (h : gK d = 1) (s : Nat) : gWin d s = s * gM d := by unfold gWin; rw [if_neg (by omega), if_pos h]
theorem gWin_2 {d : gT} (h : gK d = 2) (s : Nat) : gWin d s = s * gM d - s * gM d * gX d / 10 := by unfold gWin; rw [if_neg (by omega), if_neg (by omega)]
theorem gWin_z (d : gT) : gWin d 0 = 0 := by unfold gWin; split <;> simp
def gMark (d : gT) : Nat := if gK d = 0 then 1 else if gK d = 1 then 11 else 111
theorem app_last {α : Type} (l : List α) (x : α) : (l ++ [x])[l.length]? = some x := by simp
theorem app_2a {α : Type} (l : List α) (x y : α) : (l ++ [x, y])[l.length]? = some x := by simp
theorem app_2b {α : Type} (l : List α) (x y : α) : (l ++ [x, y])[l.length + 1]? = some y := by simp
theorem app_s1 {α : Type} (l : List α) (x y z : α) : ((l ++ [x]) ++ [y]).set l.length z = l ++ [z, y] := by simp [List.set_append]
theorem app_s2 {α : Type} (l : List α) (x y z : α) : (l ++ [x, y]).set (l.length + 1) z = l ++ [x, z] := by simp [List.set_append]
theorem wX_setRest {E : eT} {ad : Nat → Nat} {g hz n : Nat} {mk : Int64} {td : Nat → Int32} {gr : Nat → Option Nat} {cf ce ck : Nat → Nat} {rv : Nat → Nat → Int64} {st : Nat → Int32} {wo : Nat → Nat → Int64} {rest : va_W} {k : Nat} {x : Nat × va_E} : (wX E ad g hz n mk td gr cf ce ck rv st wo ++ rest).set (52 + k) x = wX E ad g hz n mk td gr cf ce ck rv st wo ++ rest.set k x := by
  rw [List.set_append_right _ _ (by rw [wX_len]; omega), wX_len, show 52 + k - 52 = k by omega]
set_option maxHeartbeats 4000000 in
set_option maxRecDepth 100000 in
/-- EvenGame.gain -/
theorem c_X1_gain (l : Launch) (E : eT) (ws : va_W) (a : Nat) (x : Int32) : mPi l yX1_gain wsX1_gain 0 0 E ws [.ref a, .int x] (fun r => r = x) := by
  refine mP_of (cc := cX1_gain) (maxL := 2) (ret := (some .int)) (by decide) rfl (Nat.le_of_ble_eq_true rfl) ?_
  intro p0 e0 s m below meth c0 ls hx hb hr hml hts hown hlocks hE hP hl
  have hown : s.vm.findClass RX1 = some m.cls := hown
  have hl : lv_has ls 2 [(0, .ref a), (1, .int x)] := hl
  refine lv_iload_n hx hb dX1_gain_0 rfl (lv_at hl 1 rfl) ?_
  exact ret_Pi hx hb hr hlocks dX1_gain_1 rfl
set_option maxHeartbeats 4000000 in
set_option maxRecDepth 100000 in
/-- EvenGame.mark -/
theorem c_X1_mark (l : Launch) (E : eT) (ws : va_W) (a : Nat) : mPi l yX1_mark wsX1_mark 0 0 E ws [.ref a] (fun r => r = nI 1) := by
  refine mP_of (cc := cX1_mark) (maxL := 1) (ret := (some .int)) (by decide) rfl (Nat.le_of_ble_eq_true rfl) ?_
  intro p0 e0 s m below meth c0 ls hx hb hr hml hts hown hlocks hE hP hl
  have hown : s.vm.findClass RX1 = some m.cls := hown
  have hl : lv_has ls 1 [(0, .ref a)] := hl
  refine lv_iconst (v := nI 1) hx hb dX1_mark_0 (by decide) ?_
  exact ret_Pi hx hb hr hlocks dX1_mark_1 rfl
set_option maxHeartbeats 4000000 in
set_option maxRecDepth 100000 in
/-- LongGame.gain -/
theorem c_X2_gain (l : Launch) (E : eT) (ws : va_W) (k a b : Nat) (d : gT) (hd : gOk d) (hg : ws[k]? = some (a, gmE d b)) (hk : gK d = 1 ∨ gK d = 2) (st : Nat) : mPi l yX2_gain wsX2_gain 1 21 E ws [.ref a, .int (nI st)] (fun r => r = nI (st * gM d)) := by
  refine mP_of (cc := cX2_gain) (maxL := 2) (ret := (some .int)) (by decide) rfl (Nat.le_of_ble_eq_true rfl) ?_
  intro p0 e0 s m below meth c0 ls hx hb hr hml hts hown hlocks hE hP hl
  have hown : s.vm.findClass RX2 = some m.cls := hown
  have hl : lv_has ls 2 [(0, .ref a), (1, .int (nI st))] := hl
  have hinX2 : ∀ w ∈ wsX20, w ∈ wsX2_gain := by decide +kernel
  have hinX3 : ∀ w ∈ wsX30, w ∈ wsX2_gain := by decide +kernel
  rcases hk with hk | hk
  · skip
    rw [gmE_1 hk] at hg
    refine lv_aload_n hx hb dX2_gain_0 rfl (lv_at hl 0 rfl) ?_
    refine lv_iload_n hx hb dX2_gain_1 rfl (lv_at hl 1 rfl) ?_
    refine vp_callSi (run_weak (va_runSU (hE.1.1 2 _ rfl).2 ⟨hx, hb, hml, hown, hts⟩ (c_X1_gain l E ws a _) (va_cwSU 1 hts gX2_gain_X1_gain_s13 rfl rfl rfl (by decide +kernel) ⟨Nat.le_of_ble_eq_true rfl, Nat.le_of_ble_eq_true rfl⟩) (ePu_V hP hE (ci := 2) (k := k) rfl hg) rfl rfl hl.1 rfl (lv_room (Nat.le_of_ble_eq_true rfl)) dX2_gain_2 ⟨Nat.zero_le _, Nat.zero_le _⟩)) (fun r9 hr9 => ?_)
    subst hr9
    refine lv_aload_n hx hb dX2_gain_5 rfl (lv_at hl 0 rfl) ?_
    refine va_get (D := E.1) (ci := 2) (C := RX2) (T := TX2) (N := 4) hx hb hts hinX2 hown hE.1 hP k hg rfl 3 (by decide) (hts (.fieldLink RX2 7 "StakeHouse$LongGame" "times" "I") (by decide +kernel)) (fun _ h9 => h9) rfl dX2_gain_6 ?_
    refine lv_imul hx hb dX2_gain_9 ?_
    refine tp_i (pk_mul _ _) ?_
    exact ret_Pi hx hb hr hlocks dX2_gain_10 rfl
  · skip
    rw [gmE_2 hk] at hg
    refine lv_aload_n hx hb dX2_gain_0 rfl (lv_at hl 0 rfl) ?_
    refine lv_iload_n hx hb dX2_gain_1 rfl (lv_at hl 1 rfl) ?_
    refine vp_callSi (run_weak (va_runSU (hE.1.1 3 _ rfl).2 ⟨hx, hb, hml, hown, hts⟩ (c_X1_gain l E ws a _) (va_cwSU 1 hts gX2_gain_X1_gain_s13 rfl rfl rfl (by decide +kernel) ⟨Nat.le_of_ble_eq_true rfl, Nat.le_of_ble_eq_true rfl⟩) (ePu_V hP hE (ci := 3) (k := k) rfl hg) rfl rfl hl.1 rfl (lv_room (Nat.le_of_ble_eq_true rfl)) dX2_gain_2 ⟨Nat.zero_le _, Nat.zero_le _⟩)) (fun r9 hr9 => ?_)
    subst hr9
    refine lv_aload_n hx hb dX2_gain_5 rfl (lv_at hl 0 rfl) ?_
    refine va_get (D := E.1) (ci := 3) (C := RX3) (T := TX3) (N := 5) hx hb hts hinX3 hown hE.1 hP k hg rfl 0 (by decide) (hts (.fieldLink RX2 7 "StakeHouse$LongGame" "times" "I") (by decide +kernel)) (fun _ h9 => h9) rfl dX2_gain_6 ?_
    refine lv_imul hx hb dX2_gain_9 ?_
    refine tp_i (pk_mul _ _) ?_
    exact ret_Pi hx hb hr hlocks dX2_gain_10 rfl
set_option maxHeartbeats 4000000 in
set_option maxRecDepth 100000 in
/-- LongGame.mark -/
theorem c_X2_mark (l : Launch) (E : eT) (ws : va_W) (k a b : Nat) (d : gT) (hd : gOk d) (hg : ws[k]? = some (a, gmE d b)) (hk : gK d = 1 ∨ gK d = 2) : mPi l yX2_mark wsX2_mark 1 20 E ws [.ref a] (fun r => r = nI 11) := by
  refine mP_of (cc := cX2_mark) (maxL := 1) (ret := (some .int)) (by decide) rfl (Nat.le_of_ble_eq_true rfl) ?_
  intro p0 e0 s m below meth c0 ls hx hb hr hml hts hown hlocks hE hP hl
  have hown : s.vm.findClass RX2 = some m.cls := hown
  have hl : lv_has ls 1 [(0, .ref a)] := hl
  rcases hk with hk | hk
  · skip
    rw [gmE_1 hk] at hg
    refine lv_aload_n hx hb dX2_mark_0 rfl (lv_at hl 0 rfl) ?_
    refine vp_callSi (run_weak (va_runSU (hE.1.1 2 _ rfl).2 ⟨hx, hb, hml, hown, hts⟩ (c_X1_mark l E ws a) (va_cwSU 0 hts gX2_mark_X1_mark_s17 rfl rfl rfl (by decide +kernel) ⟨Nat.le_of_ble_eq_true rfl, Nat.le_of_ble_eq_true rfl⟩) (ePu_V hP hE (ci := 2) (k := k) rfl hg) rfl rfl hl.1 rfl (lv_room (Nat.le_of_ble_eq_true rfl)) dX2_mark_1 ⟨Nat.zero_le _, Nat.zero_le _⟩)) (fun r9 hr9 => ?_)
    subst hr9
    refine lv_bipush (v := nI 10) hx hb dX2_mark_4 (by decide) ?_
    refine lv_iadd hx hb dX2_mark_6 ?_
    refine tp_i (nI_add _ _) ?_
    exact ret_Pi hx hb hr hlocks dX2_mark_7 rfl
  · skip
    rw [gmE_2 hk] at hg
    refine lv_aload_n hx hb dX2_mark_0 rfl (lv_at hl 0 rfl) ?_
    refine vp_callSi (run_weak (va_runSU (hE.1.1 3 _ rfl).2 ⟨hx, hb, hml, hown, hts⟩ (c_X1_mark l E ws a) (va_cwSU 0 hts gX2_mark_X1_mark_s17 rfl rfl rfl (by decide +kernel) ⟨Nat.le_of_ble_eq_true rfl, Nat.le_of_ble_eq_true rfl⟩) (ePu_V hP hE (ci := 3) (k := k) rfl hg) rfl rfl hl.1 rfl (lv_room (Nat.le_of_ble_eq_true rfl)) dX2_mark_1 ⟨Nat.zero_le _, Nat.zero_le _⟩)) (fun r9 hr9 => ?_)
    subst hr9
    refine lv_bipush (v := nI 10) hx hb dX2_mark_4 (by decide) ?_
    refine lv_iadd hx hb dX2_mark_6 ?_
    refine tp_i (nI_add _ _) ?_
    exact ret_Pi hx hb hr hlocks dX2_mark_7 rfl
set_option maxHeartbeats 4000000 in
set_option maxRecDepth 100000 in
/-- TaxedGame.gain -/
theorem c_X3_gain (l : Launch) (E : eT) (ws : va_W) (k a b : Nat) (d : gT) (hd : gOk d) (hg : ws[k]? = some (a, gmE d b)) (hk : gK d = 2) (st : Nat) (hst : st ≤ 32) : mPi l yX3_gain wsX3_gain 2 45 E ws [.ref a, .int (nI st)] (fun r => r = nI (gWin d st)) := by
  refine mP_of (cc := cX3_gain) (maxL := 3) (ret := (some .int)) (by decide) rfl (Nat.le_of_ble_eq_true rfl) ?_
  intro p0 e0 s m below meth c0 ls hx hb hr hml hts hown hlocks hE hP hl
  have hown : s.vm.findClass RX3 = some m.cls := hown
  have hl : lv_has ls 3 [(0, .ref a), (1, .int (nI st))] := hl
  have hinX3 : ∀ w ∈ wsX30, w ∈ wsX3_gain := by decide +kernel
  have hg1 : ws[k]? = some (a, .inr (3, [.int (nI (gM d)), .int (nI (gC d)), .int (nI (gL d)), .ref b, .int (nI (gX d))])) := by rw [hg, gmE_2 hk]
  have hM := hd.2.2.1 (by omega)
  have hX := hd.2.2.2.1 hk
  have hb1 : st * gM d ≤ 32 * 9 := Nat.mul_le_mul hst hM.2
  have hb2 : st * gM d * gX d ≤ 288 * 10 := Nat.mul_le_mul hb1 hX
  have hb3 : st * gM d * gX d / 10 ≤ st * gM d := by
    have : st * gM d * gX d ≤ st * gM d * 10 := Nat.mul_le_mul_left _ hX
    omega
  refine lv_aload_n hx hb dX3_gain_0 rfl (lv_at hl 0 rfl) ?_
  refine lv_iload_n hx hb dX3_gain_1 rfl (lv_at hl 1 rfl) ?_
  refine vp_callSi (run_weak (va_runSU (hE.1.1 3 _ rfl).2 ⟨hx, hb, hml, hown, hts⟩ (c_X2_gain l E ws k a b d hd hg (Or.inr hk) st) (va_cwSU 1 hts gX3_gain_X2_gain_s15 rfl rfl rfl (by decide +kernel) ⟨Nat.le_of_ble_eq_true rfl, Nat.le_of_ble_eq_true rfl⟩) (ePu_V hP hE (ci := 3) (k := k) rfl hg1) rfl rfl hl.1 rfl (lv_room (Nat.le_of_ble_eq_true rfl)) dX3_gain_2 ⟨Nat.zero_le _, Nat.zero_le _⟩)) (fun r9 hr9 => ?_)
  subst hr9
  refine st_i1 hx hb 2 dX3_gain_5 rfl hl (by decide) rfl (fun ls hl => ?_)
  refine lv_iload_n hx hb dX3_gain_6 rfl (lv_at hl 2 rfl) ?_
  refine lv_iload_n hx hb dX3_gain_7 rfl (lv_at hl 2 rfl) ?_
  refine lv_aload_n hx hb dX3_gain_8 rfl (lv_at hl 0 rfl) ?_
  refine va_get (D := E.1) (ci := 3) (C := RX3) (T := TX3) (N := 5) hx hb hts hinX3 hown hE.1 hP k hg1 rfl 4 (by decide) (hts (.fieldLink RX3 9 "StakeHouse$TaxedGame" "tax" "I") (by decide +kernel)) (fun _ h9 => h9) rfl dX3_gain_9 ?_
  refine lv_imul hx hb dX3_gain_12 ?_
  refine tp_i (pk_mul _ _) ?_
  refine lv_bipush (v := nI 10) hx hb dX3_gain_13 (by decide) ?_
  refine lv_idiv hx hb dX3_gain_15 (by decide) ?_
  refine tp_i (pk_div (by omega) (by decide) (by decide)) ?_
  refine lv_isub hx hb dX3_gain_16 ?_
  refine tp_i (pk_sub hb3) ?_
  exact ret_Pi hx hb hr hlocks dX3_gain_17 (by rw [gWin_2 hk])
set_option maxHeartbeats 4000000 in
set_option maxRecDepth 100000 in
/-- TaxedGame.mark -/
theorem c_X3_mark (l : Launch) (E : eT) (ws : va_W) (k a b : Nat) (d : gT) (hd : gOk d) (hg : ws[k]? = some (a, gmE d b)) (hk : gK d = 2) : mPi l yX3_mark wsX3_mark 2 45 E ws [.ref a] (fun r => r = nI 111) := by
  refine mP_of (cc := cX3_mark) (maxL := 1) (ret := (some .int)) (by decide) rfl (Nat.le_of_ble_eq_true rfl) ?_
  intro p0 e0 s m below meth c0 ls hx hb hr hml hts hown hlocks hE hP hl
  have hown : s.vm.findClass RX3 = some m.cls := hown
  have hl : lv_has ls 1 [(0, .ref a)] := hl
  have hg1 : ws[k]? = some (a, .inr (3, [.int (nI (gM d)), .int (nI (gC d)), .int (nI (gL d)), .ref b, .int (nI (gX d))])) := by rw [hg, gmE_2 hk]
  refine lv_aload_n hx hb dX3_mark_0 rfl (lv_at hl 0 rfl) ?_
  refine vp_callSi (run_weak (va_runSU (hE.1.1 3 _ rfl).2 ⟨hx, hb, hml, hown, hts⟩ (c_X2_mark l E ws k a b d hd hg (Or.inr hk)) (va_cwSU 0 hts gX3_mark_X2_mark_s19 rfl rfl rfl (by decide +kernel) ⟨Nat.le_of_ble_eq_true rfl, Nat.le_of_ble_eq_true rfl⟩) (ePu_V hP hE (ci := 3) (k := k) rfl hg1) rfl rfl hl.1 rfl (lv_room (Nat.le_of_ble_eq_true rfl)) dX3_mark_1 ⟨Nat.zero_le _, Nat.zero_le _⟩)) (fun r9 hr9 => ?_)
  subst hr9
  refine lv_bipush (v := nI 100) hx hb dX3_mark_4 (by decide) ?_
  refine lv_iadd hx hb dX3_mark_6 ?_
  refine tp_i (nI_add _ _) ?_
  exact ret_Pi hx hb hr hlocks dX3_mark_7 rfl
set_option maxHeartbeats 4000000 in
set_option maxRecDepth 100000 in
/-- EvenGame.keepGains -/
theorem c_keepGains (l : Launch) (E : eT) (ws : va_W) (k a b : Nat) (d : gT) (hd : gOk d) (hg : ws[k]? = some (a, gmE d b)) (k2 : Nat) (hne : k2 ≠ k) (hb2 : ws[k2]? = some (b, xI E 33 (fun _ => nI 0))) : mWv l yX1_keepGains wsX1_keepGains 3 70 0 0 E (ws) [.ref a] (fun ws1 => ws1 = ws.set k2 (b, gnE E d)) := by
  intro sz
  refine mW_of (cc := cX1_keepGains) (maxL := 2) (ret := none) (Qc := fun sz => va_Qv (fun ws1 => ws1 = ws.set k2 (b, gnE E d)) (eAt E (va_A (ws) sz)) (va_A (ws) sz)) (by decide) rfl (Nat.le_of_ble_eq_true rfl) ?_
  intro p0 e0 s m below meth c0 ls hx hb hr hml hts hown hlocks hin hE hP hD hl
  have hS : va_S (va_A (ws) s.heap.size) s.heap s.heap [] := va_S.rf
  have hA : ∀ q, s.heap.size ≤ q → (va_A (ws) s.heap.size) q := fun q h => Or.inr h
  have hown : s.vm.findClass RX1 = some m.cls := hown
  have hl : lv_has ls 2 [(0, .ref a)] := hl
  have hinX1 : ∀ w ∈ wsX10, w ∈ wsX1_keepGains := by decide +kernel
  have hinX2 : ∀ w ∈ wsX20, w ∈ wsX1_keepGains := by decide +kernel
  have hinX3 : ∀ w ∈ wsX30, w ∈ wsX1_keepGains := by decide +kernel
  have hlen : k2 < ws.length := (List.getElem?_eq_some_iff.mp hb2).1
  rcases (show gK d = 0 ∨ gK d = 1 ∨ gK d = 2 by have := hd.1; omega) with hk | hk | hk
  · skip
    refine lv_iconst (v := nI 1) hx hb dX1_keepGains_0 (by decide) ?_
    refine st_i1 hx hb 1 dX1_keepGains_1 rfl hl (by decide) rfl (fun ls hl => ?_)
    refine wLoopH 32 0 (fun i H locs ls => ∃ f1 : Nat → Int32, (∀ j, j ≤ i → f1 j = nI (gWin d j)) ∧ va_P E.1 vwCl (ws.set k2 (b, xI E 33 f1)) H ∧ va_D (va_A (ws) s.heap.size) (ws.set k2 (b, xI E 33 f1)) ∧ va_S (va_A (ws) s.heap.size) s.heap H locs ∧ lv_has ls 2 [(0, .ref a), (1, .int (nI (i + 1)))]) (Nat.zero_le _) (fun i H locs ls hi_i hI ih => ?_) (fun H locs ls hI => ?_) ⟨fun _ => nI 0, fun j hj => by rw [show j = 0 by omega, gWin_z], by rw [set_same _ _ _ hb2]; exact hP, by rw [set_same _ _ _ hb2]; exact hD, hS, hl⟩
    · skip
      obtain ⟨f1, hf1, hP, hD, hS, hl⟩ := hI
      have hgo : (ws.set k2 (b, xI E 33 f1))[k]? = some (a, gmE d b) := (List.getElem?_set_ne hne).trans hg
      have hg1 : (ws.set k2 (b, xI E 33 f1))[k]? = some (a, .inr (1, [.int (nI (gC d)), .int (nI (gL d)), .ref b])) := by rw [hgo, gmE_0 hk]
      refine lv_iload_n hx hb dX1_keepGains_2 rfl (lv_at hl 1 rfl) ?_
      refine lv_bipush (v := nI 32) hx hb dX1_keepGains_3 (by decide) ?_
      refine n_gt hx hb (by omega) (by omega) 25 dX1_keepGains_5 (by decide) (fun c5 => ?_) (fun c5 => ?_)
      · skip
        exact absurd c5 (by omega)
      · skip
        refine lv_aload_n hx hb dX1_keepGains_8 rfl (lv_at hl 0 rfl) ?_
        refine va_get (D := E.1) (ci := 1) (C := RX1) (T := TX1) (N := 3) hx hb hts hinX1 hown hE.1 hP k hg1 rfl 2 (by decide) (hts (.fieldLink RX1 9 "StakeHouse$EvenGame" "gains" "[I") (by decide +kernel)) (fun _ h9 => h9) rfl dX1_keepGains_9 ?_
        refine lv_iload_n hx hb dX1_keepGains_12 rfl (lv_at hl 1 rfl) ?_
        refine lv_aload_n hx hb dX1_keepGains_13 rfl (lv_at hl 0 rfl) ?_
        refine lv_iload_n hx hb dX1_keepGains_14 rfl (lv_at hl 1 rfl) ?_
        refine vp_callSi (W.runV ⟨hx, hb, hml, hown, hts⟩ (c_X1_gain l E _ a (nI (i + 1))) (cwV 1 hts gX1_keepGains_X1_gain rfl rfl rfl (by decide +kernel) ⟨Nat.le_of_ble_eq_true rfl, Nat.le_of_ble_eq_true rfl⟩) (ePu_V hP hE (ci := 1) (k := k) rfl hg1) rfl rfl hl.1 rfl (lv_room (Nat.le_of_ble_eq_true rfl)) dX1_keepGains_15 ⟨Nat.zero_le _, Nat.zero_le _⟩) (fun r9 hr9 => ?_)
        subst hr9
        refine va_iast hx hb hE.1 hP hD hS k2 0 (List.getElem?_set_self hlen) rfl (vp_in_nI (by omega) (by decide)) dX1_keepGains_18 (fun H locs hP hD hS => ?_)
        rw [List.set_set, nI_clamp (by omega)] at hP hD
        refine st_inc hx hb 1 dX1_keepGains_19 hl rfl (nI_1 _) (by decide) rfl (fun ls hl => ?_)
        refine lv_goto (tgt := 2) hx hb dX1_keepGains_22 (by decide) ?_
        refine ih _ _ _ ⟨_, fun j hj => ?_, hP, hD, hS, hl⟩
        by_cases hji : j = i + 1
        · subst hji; rw [pk_us, gWin_0 hk]
        · rw [pk_un hji]; exact hf1 j (by omega)
    · skip
      obtain ⟨f1, hf1, hP, hD, hS, hl⟩ := hI
      have hP : va_P E.1 vwCl (ws.set k2 (b, gnE E d)) H := by
        have h9 := va_P_re hP (k := k2) (List.getElem?_set_self hlen) (xI_congr (E := E) (n := 33) (f := f1) (f' := fun s => nI (gWin d s)) (fun j hj => hf1 j (by omega)))
        rw [List.set_set] at h9
        exact h9
      have hD : va_D (va_A (ws) s.heap.size) (ws.set k2 (b, gnE E d)) := by
        have h9 := va_D.set (p := k2) (e := gnE E d) hD (List.getElem?_set_self hlen)
        rw [List.set_set] at h9
        exact h9
      refine lv_iload_n hx hb dX1_keepGains_2 rfl (lv_at hl 1 rfl) ?_
      refine lv_bipush (v := nI 32) hx hb dX1_keepGains_3 (by decide) ?_
      refine n_gt hx hb (by omega) (by omega) 25 dX1_keepGains_5 (by decide) (fun c5 => ?_) (fun c5 => ?_)
      · skip
        exact ret_Wv hx hb hr hlocks dX1_keepGains_25 hP hD hS rfl
      · skip
        exact absurd c5 (by omega)
  · skip
    refine lv_iconst (v := nI 1) hx hb dX1_keepGains_0 (by decide) ?_
    refine st_i1 hx hb 1 dX1_keepGains_1 rfl hl (by decide) rfl (fun ls hl => ?_)
    refine wLoopH 32 0 (fun i H locs ls => ∃ f1 : Nat → Int32, (∀ j, j ≤ i → f1 j = nI (gWin d j)) ∧ va_P E.1 vwCl (ws.set k2 (b, xI E 33 f1)) H ∧ va_D (va_A (ws) s.heap.size) (ws.set k2 (b, xI E 33 f1)) ∧ va_S (va_A (ws) s.heap.size) s.heap H locs ∧ lv_has ls 2 [(0, .ref a), (1, .int (nI (i + 1)))]) (Nat.zero_le _) (fun i H locs ls hi_i hI ih => ?_) (fun H locs ls hI => ?_) ⟨fun _ => nI 0, fun j hj => by rw [show j = 0 by omega, gWin_z], by rw [set_same _ _ _ hb2]; exact hP, by rw [set_same _ _ _ hb2]; exact hD, hS, hl⟩
    · skip
      obtain ⟨f1, hf1, hP, hD, hS, hl⟩ := hI
      have hgo : (ws.set k2 (b, xI E 33 f1))[k]? = some (a, gmE d b) := (List.getElem?_set_ne hne).trans hg
      have hg1 : (ws.set k2 (b, xI E 33 f1))[k]? = some (a, .inr (2, [.int (nI (gC d)), .int (nI (gL d)), .ref b, .int (nI (gM d))])) := by rw [hgo, gmE_1 hk]
      refine lv_iload_n hx hb dX1_keepGains_2 rfl (lv_at hl 1 rfl) ?_
      refine lv_bipush (v := nI 32) hx hb dX1_keepGains_3 (by decide) ?_
      refine n_gt hx hb (by omega) (by omega) 25 dX1_keepGains_5 (by decide) (fun c5 => ?_) (fun c5 => ?_)
      · skip
        exact absurd c5 (by omega)
      · skip
        refine lv_aload_n hx hb dX1_keepGains_8 rfl (lv_at hl 0 rfl) ?_
        refine va_get (D := E.1) (ci := 2) (C := RX2) (T := TX2) (N := 4) hx hb hts hinX2 hown hE.1 hP k hg1 rfl 2 (by decide) (hts (.fieldLink RX1 9 "StakeHouse$EvenGame" "gains" "[I") (by decide +kernel)) (fun _ h9 => h9) rfl dX1_keepGains_9 ?_
        refine lv_iload_n hx hb dX1_keepGains_12 rfl (lv_at hl 1 rfl) ?_
        refine lv_aload_n hx hb dX1_keepGains_13 rfl (lv_at hl 0 rfl) ?_
        refine lv_iload_n hx hb dX1_keepGains_14 rfl (lv_at hl 1 rfl) ?_
        refine vp_callSi (run_weak (va_runU (x := ⟨"StakeHouse$EvenGame", "gain", "(I)I"⟩) ⟨hx, hb, hml, hown, hts⟩ (c_X2_gain l E _ k a b d hd hgo (Or.inl hk) (i + 1)) (va_cwO 1 hts gX1_keepGains_X2_gain_u22X2 rfl rfl rfl (show Cond.code ⟨"StakeHouse$EvenGame", "gain", "(I)I"⟩ cX1_gain 2 (some .int) ∈ wsX1_keepGains from List.mem_of_getElem? (i := 6) rfl) (by decide +kernel) ⟨Nat.le_of_ble_eq_true rfl, Nat.le_of_ble_eq_true rfl⟩) (ePu_V hP hE (ci := 2) (k := k) rfl hg1) rfl rfl hl.1 rfl (lv_room (Nat.le_of_ble_eq_true rfl)) dX1_keepGains_15 ⟨Nat.zero_le _, Nat.zero_le _⟩)) (fun r9 hr9 => ?_)
        subst hr9
        refine va_iast hx hb hE.1 hP hD hS k2 0 (List.getElem?_set_self hlen) rfl (vp_in_nI (by omega) (by decide)) dX1_keepGains_18 (fun H locs hP hD hS => ?_)
        rw [List.set_set, nI_clamp (by omega)] at hP hD
        refine st_inc hx hb 1 dX1_keepGains_19 hl rfl (nI_1 _) (by decide) rfl (fun ls hl => ?_)
        refine lv_goto (tgt := 2) hx hb dX1_keepGains_22 (by decide) ?_
        refine ih _ _ _ ⟨_, fun j hj => ?_, hP, hD, hS, hl⟩
        by_cases hji : j = i + 1
        · subst hji; rw [pk_us, gWin_1 hk]
        · rw [pk_un hji]; exact hf1 j (by omega)
    · skip
      obtain ⟨f1, hf1, hP, hD, hS, hl⟩ := hI
      have hP : va_P E.1 vwCl (ws.set k2 (b, gnE E d)) H := by
        have h9 := va_P_re hP (k := k2) (List.getElem?_set_self hlen) (xI_congr (E := E) (n := 33) (f := f1) (f' := fun s => nI (gWin d s)) (fun j hj => hf1 j (by omega)))
        rw [List.set_set] at h9
        exact h9
      have hD : va_D (va_A (ws) s.heap.size) (ws.set k2 (b, gnE E d)) := by
        have h9 := va_D.set (p := k2) (e := gnE E d) hD (List.getElem?_set_self hlen)
        rw [List.set_set] at h9
        exact h9
      refine lv_iload_n hx hb dX1_keepGains_2 rfl (lv_at hl 1 rfl) ?_
      refine lv_bipush (v := nI 32) hx hb dX1_keepGains_3 (by decide) ?_
      refine n_gt hx hb (by omega) (by omega) 25 dX1_keepGains_5 (by decide) (fun c5 => ?_) (fun c5 => ?_)
      · skip
        exact ret_Wv hx hb hr hlocks dX1_keepGains_25 hP hD hS rfl
      · skip
        exact absurd c5 (by omega)
  · skip
    refine lv_iconst (v := nI 1) hx hb dX1_keepGains_0 (by decide) ?_
    refine st_i1 hx hb 1 dX1_keepGains_1 rfl hl (by decide) rfl (fun ls hl => ?_)
    refine wLoopH 32 0 (fun i H locs ls => ∃ f1 : Nat → Int32, (∀ j, j ≤ i → f1 j = nI (gWin d j)) ∧ va_P E.1 vwCl (ws.set k2 (b, xI E 33 f1)) H ∧ va_D (va_A (ws) s.heap.size) (ws.set k2 (b, xI E 33 f1)) ∧ va_S (va_A (ws) s.heap.size) s.heap H locs ∧ lv_has ls 2 [(0, .ref a), (1, .int (nI (i + 1)))]) (Nat.zero_le _) (fun i H locs ls hi_i hI ih => ?_) (fun H locs ls hI => ?_) ⟨fun _ => nI 0, fun j hj => by rw [show j = 0 by omega, gWin_z], by rw [set_same _ _ _ hb2]; exact hP, by rw [set_same _ _ _ hb2]; exact hD, hS, hl⟩
    · skip
      obtain ⟨f1, hf1, hP, hD, hS, hl⟩ := hI
      have hgo : (ws.set k2 (b, xI E 33 f1))[k]? = some (a, gmE d b) := (List.getElem?_set_ne hne).trans hg
      have hg1 : (ws.set k2 (b, xI E 33 f1))[k]? = some (a, .inr (3, [.int (nI (gM d)), .int (nI (gC d)), .int (nI (gL d)), .ref b, .int (nI (gX d))])) := by rw [hgo, gmE_2 hk]
      refine lv_iload_n hx hb dX1_keepGains_2 rfl (lv_at hl 1 rfl) ?_
      refine lv_bipush (v := nI 32) hx hb dX1_keepGains_3 (by decide) ?_
      refine n_gt hx hb (by omega) (by omega) 25 dX1_keepGains_5 (by decide) (fun c5 => ?_) (fun c5 => ?_)
      · skip
        exact absurd c5 (by omega)
      · skip
        refine lv_aload_n hx hb dX1_keepGains_8 rfl (lv_at hl 0 rfl) ?_
        refine va_get (D := E.1) (ci := 3) (C := RX3) (T := TX3) (N := 5) hx hb hts hinX3 hown hE.1 hP k hg1 rfl 3 (by decide) (hts (.fieldLink RX1 9 "StakeHouse$EvenGame" "gains" "[I") (by decide +kernel)) (fun _ h9 => h9) rfl dX1_keepGains_9 ?_
        refine lv_iload_n hx hb dX1_keepGains_12 rfl (lv_at hl 1 rfl) ?_
        refine lv_aload_n hx hb dX1_keepGains_13 rfl (lv_at hl 0 rfl) ?_
        refine lv_iload_n hx hb dX1_keepGains_14 rfl (lv_at hl 1 rfl) ?_
        refine vp_callSi (run_weak (va_runU (x := ⟨"StakeHouse$EvenGame", "gain", "(I)I"⟩) ⟨hx, hb, hml, hown, hts⟩ (c_X3_gain l E _ k a b d hd hgo hk (i + 1) (by omega)) (va_cwO 1 hts gX1_keepGains_X3_gain_u22X3 rfl rfl rfl (show Cond.code ⟨"StakeHouse$EvenGame", "gain", "(I)I"⟩ cX1_gain 2 (some .int) ∈ wsX1_keepGains from List.mem_of_getElem? (i := 6) rfl) (by decide +kernel) ⟨Nat.le_of_ble_eq_true rfl, Nat.le_of_ble_eq_true rfl⟩) (ePu_V hP hE (ci := 3) (k := k) rfl hg1) rfl rfl hl.1 rfl (lv_room (Nat.le_of_ble_eq_true rfl)) dX1_keepGains_15 ⟨Nat.zero_le _, Nat.zero_le _⟩)) (fun r9 hr9 => ?_)
        subst hr9
        refine va_iast hx hb hE.1 hP hD hS k2 0 (List.getElem?_set_self hlen) rfl (vp_in_nI (by omega) (by decide)) dX1_keepGains_18 (fun H locs hP hD hS => ?_)
        rw [List.set_set, nI_clamp (by omega)] at hP hD
        refine st_inc hx hb 1 dX1_keepGains_19 hl rfl (nI_1 _) (by decide) rfl (fun ls hl => ?_)
        refine lv_goto (tgt := 2) hx hb dX1_keepGains_22 (by decide) ?_
        refine ih _ _ _ ⟨_, fun j hj => ?_, hP, hD, hS, hl⟩
        by_cases hji : j = i + 1
        · subst hji; rw [pk_us]
        · rw [pk_un hji]; exact hf1 j (by omega)
    · skip
      obtain ⟨f1, hf1, hP, hD, hS, hl⟩ := hI
      have hP : va_P E.1 vwCl (ws.set k2 (b, gnE E d)) H := by
        have h9 := va_P_re hP (k := k2) (List.getElem?_set_self hlen) (xI_congr (E := E) (n := 33) (f := f1) (f' := fun s => nI (gWin d s)) (fun j hj => hf1 j (by omega)))
        rw [List.set_set] at h9
        exact h9
      have hD : va_D (va_A (ws) s.heap.size) (ws.set k2 (b, gnE E d)) := by
        have h9 := va_D.set (p := k2) (e := gnE E d) hD (List.getElem?_set_self hlen)
        rw [List.set_set] at h9
        exact h9
      refine lv_iload_n hx hb dX1_keepGains_2 rfl (lv_at hl 1 rfl) ?_
      refine lv_bipush (v := nI 32) hx hb dX1_keepGains_3 (by decide) ?_
      refine n_gt hx hb (by omega) (by omega) 25 dX1_keepGains_5 (by decide) (fun c5 => ?_) (fun c5 => ?_)
      · skip
        exact ret_Wv hx hb hr hlocks dX1_keepGains_25 hP hD hS rfl
      · skip
        exact absurd c5 (by omega)
set_option maxHeartbeats 4000000 in
set_option maxRecDepth 100000 in
/-- EvenGame.<init>, of a game of kind 0 -/
theorem c_X1_init_0 (l : Launch) (E : eT) (ws : va_W) (k a : Nat) (v0 v1 v2 : Value) (hC : ws[k]? = some (a, .inr (1, [v0, v1, v2]))) (c lim : Int32) : mWv l yX1_init wsX1_init 1 20 1 33 E (ws) [.ref a, .int c, .int lim] (fun ws1 => ∃ b : Nat, ws1 = (ws ++ [(b, xI E 33 (fun _ => nI 0))]).set k (a, .inr (1, [.int c, .int lim, .ref b]))) := by
  intro sz
  refine mW_of (cc := cX1_init) (maxL := 3) (ret := none) (Qc := fun sz => va_Qv (fun ws1 => ∃ b : Nat, ws1 = (ws ++ [(b, xI E 33 (fun _ => nI 0))]).set k (a, .inr (1, [.int c, .int lim, .ref b]))) (eAt E (va_A (ws) sz)) (va_A (ws) sz)) (by decide) rfl (Nat.le_of_ble_eq_true rfl) ?_
  intro p0 e0 s m below meth c0 ls hx hb hr hml hts hown hlocks hin hE hP hD hl
  have hS : va_S (va_A (ws) s.heap.size) s.heap s.heap [] := va_S.rf
  have hA : ∀ q, s.heap.size ≤ q → (va_A (ws) s.heap.size) q := fun q h => Or.inr h
  have hown : s.vm.findClass RX1 = some m.cls := hown
  have hl : lv_has ls 3 [(0, .ref a), (1, .int c), (2, .int lim)] := hl
  have hinX1 : ∀ w ∈ wsX10, w ∈ wsX1_init := by decide +kernel
  have hlen : k < ws.length := (List.getElem?_eq_some_iff.mp hC).1
  refine lv_aload_n hx hb dX1_init_0 rfl (lv_at hl 0 rfl) ?_
  refine W.objInit hx hb hown (hts (.methodLink RX1 3 objectInit) (by decide +kernel)) (hts (.instanceMethod objectInit) (by decide +kernel)) (hts (.code objectInit ⟨#[0xb1]⟩ 1 none) (by decide +kernel)) rfl (by rw [hml]; exact hl.1) rfl dX1_init_1 (Nat.le_of_ble_eq_true rfl) (Nat.le_of_ble_eq_true rfl) ?_
  refine W.eq (g2 := F0 m 4 ls []) rfl ?_
  refine lv_aload_n hx hb dX1_init_4 rfl (lv_at hl 0 rfl) ?_
  refine lv_bipush (v := nI 33) hx hb dX1_init_5 (by decide) ?_
  refine va_newI hx hb (hts (.arrayClass .int) (by decide +kernel)) hE hP hD hS hA (by decide) (Nat.le_of_ble_eq_true rfl) (Nat.le_of_ble_eq_true rfl) dX1_init_7 (fun b H hP hD hS => ?_)
  have hlen2 : k < (ws ++ [(b, xI E 33 (fun _ => nI 0))]).length := by rw [List.length_append]; omega
  refine va_putF (D := E.1) (ci := 1) (ty := .array .int) (C := RX1) (T := TX1) (N := 3) hx hb hts hinX1 tyX1 tyX1_ok nmX1 hown hE.1 hP hD hS k ((List.getElem?_append_left hlen).trans hC) rfl 2 (by decide) (hts (.fieldLink RX1 9 "StakeHouse$EvenGame" "gains" "[I") (by decide +kernel)) (fun _ h9 => h9) rfl hin.symm rfl (by decide +kernel) rfl rfl (Nat.le_of_ble_eq_true rfl) dX1_init_9 (fun H locs hP hD hS => ?_)
  have hP : va_P E.1 vwCl ((ws ++ [(b, xI E 33 (fun _ => nI 0))]).set k (a, .inr (1, [v0, v1, .ref b]))) H := hP
  have hD : va_D (va_A (ws) s.heap.size) ((ws ++ [(b, xI E 33 (fun _ => nI 0))]).set k (a, .inr (1, [v0, v1, .ref b]))) := hD
  refine lv_aload_n hx hb dX1_init_12 rfl (lv_at hl 0 rfl) ?_
  refine lv_iload_n hx hb dX1_init_13 rfl (lv_at hl 1 rfl) ?_
  refine va_putF (D := E.1) (ci := 1) (ty := .int) (C := RX1) (T := TX1) (N := 3) hx hb hts hinX1 tyX1 tyX1_ok nmX1 hown hE.1 hP hD hS k (List.getElem?_set_self hlen2) rfl 0 (by decide) (hts (.fieldLink RX1 15 "StakeHouse$EvenGame" "chance" "I") (by decide +kernel)) (fun _ h9 => h9) rfl hin.symm rfl (by decide +kernel) rfl rfl (Nat.le_of_ble_eq_true rfl) dX1_init_14 (fun H locs hP hD hS => ?_)
  have hP : va_P E.1 vwCl ((ws ++ [(b, xI E 33 (fun _ => nI 0))]).set k (a, .inr (1, [.int c, v1, .ref b]))) H := (by rw [List.set_set] at hP; exact hP)
  have hD : va_D (va_A (ws) s.heap.size) ((ws ++ [(b, xI E 33 (fun _ => nI 0))]).set k (a, .inr (1, [.int c, v1, .ref b]))) := (by rw [List.set_set] at hD; exact hD)
  refine lv_aload_n hx hb dX1_init_17 rfl (lv_at hl 0 rfl) ?_
  refine lv_iload_n hx hb dX1_init_18 rfl (lv_at hl 2 rfl) ?_
  refine va_putF (D := E.1) (ci := 1) (ty := .int) (C := RX1) (T := TX1) (N := 3) hx hb hts hinX1 tyX1 tyX1_ok nmX1 hown hE.1 hP hD hS k (List.getElem?_set_self hlen2) rfl 1 (by decide) (hts (.fieldLink RX1 19 "StakeHouse$EvenGame" "limit" "I") (by decide +kernel)) (fun _ h9 => h9) rfl hin.symm rfl (by decide +kernel) rfl rfl (Nat.le_of_ble_eq_true rfl) dX1_init_19 (fun H locs hP hD hS => ?_)
  have hP : va_P E.1 vwCl ((ws ++ [(b, xI E 33 (fun _ => nI 0))]).set k (a, .inr (1, [.int c, .int lim, .ref b]))) H := (by rw [List.set_set] at hP; exact hP)
  have hD : va_D (va_A (ws) s.heap.size) ((ws ++ [(b, xI E 33 (fun _ => nI 0))]).set k (a, .inr (1, [.int c, .int lim, .ref b]))) := (by rw [List.set_set] at hD; exact hD)
  exact ret_Wv hx hb hr hlocks dX1_init_22 hP hD hS ⟨b, rfl⟩
set_option maxHeartbeats 4000000 in
set_option maxRecDepth 100000 in
/-- EvenGame.<init>, of a game of kind 1 -/
theorem c_X1_init_1 (l : Launch) (E : eT) (ws : va_W) (k a : Nat) (v0 v1 v2 v3 : Value) (hC : ws[k]? = some (a, .inr (2, [v0, v1, v2, v3]))) (c lim : Int32) : mWv l yX1_init wsX1_init 1 20 1 33 E (ws) [.ref a, .int c, .int lim] (fun ws1 => ∃ b : Nat, ws1 = (ws ++ [(b, xI E 33 (fun _ => nI 0))]).set k (a, .inr (2, [.int c, .int lim, .ref b, v3]))) := by
  intro sz
  refine mW_of (cc := cX1_init) (maxL := 3) (ret := none) (Qc := fun sz => va_Qv (fun ws1 => ∃ b : Nat, ws1 = (ws ++ [(b, xI E 33 (fun _ => nI 0))]).set k (a, .inr (2, [.int c, .int lim, .ref b, v3]))) (eAt E (va_A (ws) sz)) (va_A (ws) sz)) (by decide) rfl (Nat.le_of_ble_eq_true rfl) ?_
  intro p0 e0 s m below meth c0 ls hx hb hr hml hts hown hlocks hin hE hP hD hl
  have hS : va_S (va_A (ws) s.heap.size) s.heap s.heap [] := va_S.rf
  have hA : ∀ q, s.heap.size ≤ q → (va_A (ws) s.heap.size) q := fun q h => Or.inr h
  have hown : s.vm.findClass RX1 = some m.cls := hown
  have hl : lv_has ls 3 [(0, .ref a), (1, .int c), (2, .int lim)] := hl
  have hinX2 : ∀ w ∈ wsX20, w ∈ wsX1_init := by decide +kernel
  have hlen : k < ws.length := (List.getElem?_eq_some_iff.mp hC).1
  refine lv_aload_n hx hb dX1_init_0 rfl (lv_at hl 0 rfl) ?_
  refine W.objInit hx hb hown (hts (.methodLink RX1 3 objectInit) (by decide +kernel)) (hts (.instanceMethod objectInit) (by decide +kernel)) (hts (.code objectInit ⟨#[0xb1]⟩ 1 none) (by decide +kernel)) rfl (by rw [hml]; exact hl.1) rfl dX1_init_1 (Nat.le_of_ble_eq_true rfl) (Nat.le_of_ble_eq_true rfl) ?_
  refine W.eq (g2 := F0 m 4 ls []) rfl ?_
  refine lv_aload_n hx hb dX1_init_4 rfl (lv_at hl 0 rfl) ?_
  refine lv_bipush (v := nI 33) hx hb dX1_init_5 (by decide) ?_
  refine va_newI hx hb (hts (.arrayClass .int) (by decide +kernel)) hE hP hD hS hA (by decide) (Nat.le_of_ble_eq_true rfl) (Nat.le_of_ble_eq_true rfl) dX1_init_7 (fun b H hP hD hS => ?_)
  have hlen2 : k < (ws ++ [(b, xI E 33 (fun _ => nI 0))]).length := by rw [List.length_append]; omega
  refine va_putF (D := E.1) (ci := 2) (ty := .array .int) (C := RX2) (T := TX2) (N := 4) hx hb hts hinX2 tyX2 tyX2_ok nmX2 hown hE.1 hP hD hS k ((List.getElem?_append_left hlen).trans hC) rfl 2 (by decide) (hts (.fieldLink RX1 9 "StakeHouse$EvenGame" "gains" "[I") (by decide +kernel)) (fun _ h9 => h9) rfl hin.symm rfl (by decide +kernel) rfl rfl (Nat.le_of_ble_eq_true rfl) dX1_init_9 (fun H locs hP hD hS => ?_)
  have hP : va_P E.1 vwCl ((ws ++ [(b, xI E 33 (fun _ => nI 0))]).set k (a, .inr (2, [v0, v1, .ref b, v3]))) H := hP
  have hD : va_D (va_A (ws) s.heap.size) ((ws ++ [(b, xI E 33 (fun _ => nI 0))]).set k (a, .inr (2, [v0, v1, .ref b, v3]))) := hD
  refine lv_aload_n hx hb dX1_init_12 rfl (lv_at hl 0 rfl) ?_
  refine lv_iload_n hx hb dX1_init_13 rfl (lv_at hl 1 rfl) ?_
  refine va_putF (D := E.1) (ci := 2) (ty := .int) (C := RX2) (T := TX2) (N := 4) hx hb hts hinX2 tyX2 tyX2_ok nmX2 hown hE.1 hP hD hS k (List.getElem?_set_self hlen2) rfl 0 (by decide) (hts (.fieldLink RX1 15 "StakeHouse$EvenGame" "chance" "I") (by decide +kernel)) (fun _ h9 => h9) rfl hin.symm rfl (by decide +kernel) rfl rfl (Nat.le_of_ble_eq_true rfl) dX1_init_14 (fun H locs hP hD hS => ?_)
  have hP : va_P E.1 vwCl ((ws ++ [(b, xI E 33 (fun _ => nI 0))]).set k (a, .inr (2, [.int c, v1, .ref b, v3]))) H := (by rw [List.set_set] at hP; exact hP)
  have hD : va_D (va_A (ws) s.heap.size) ((ws ++ [(b, xI E 33 (fun _ => nI 0))]).set k (a, .inr (2, [.int c, v1, .ref b, v3]))) := (by rw [List.set_set] at hD; exact hD)
  refine lv_aload_n hx hb dX1_init_17 rfl (lv_at hl 0 rfl) ?_
  refine lv_iload_n hx hb dX1_init_18 rfl (lv_at hl 2 rfl) ?_
  refine va_putF (D := E.1) (ci := 2) (ty := .int) (C := RX2) (T := TX2) (N := 4) hx hb hts hinX2 tyX2 tyX2_ok nmX2 hown hE.1 hP hD hS k (List.getElem?_set_self hlen2) rfl 1 (by decide) (hts (.fieldLink RX1 19 "StakeHouse$EvenGame" "limit" "I") (by decide +kernel)) (fun _ h9 => h9) rfl hin.symm rfl (by decide +kernel) rfl rfl (Nat.le_of_ble_eq_true rfl) dX1_init_19 (fun H locs hP hD hS => ?_)
  have hP : va_P E.1 vwCl ((ws ++ [(b, xI E 33 (fun _ => nI 0))]).set k (a, .inr (2, [.int c, .int lim, .ref b, v3]))) H := (by rw [List.set_set] at hP; exact hP)
  have hD : va_D (va_A (ws) s.heap.size) ((ws ++ [(b, xI E 33 (fun _ => nI 0))]).set k (a, .inr (2, [.int c, .int lim, .ref b, v3]))) := (by rw [List.set_set] at hD; exact hD)
  exact ret_Wv hx hb hr hlocks dX1_init_22 hP hD hS ⟨b, rfl⟩
set_option maxHeartbeats 4000000 in
set_option maxRecDepth 100000 in
/-- EvenGame.<init>, of a game of kind 2 -/
theorem c_X1_init_2 (l : Launch) (E : eT) (ws : va_W) (k a : Nat) (v0 v1 v2 v3 v4 : Value) (hC : ws[k]? = some (a, .inr (3, [v0, v1, v2, v3, v4]))) (c lim : Int32) : mWv l yX1_init wsX1_init 1 20 1 33 E (ws) [.ref a, .int c, .int lim] (fun ws1 => ∃ b : Nat, ws1 = (ws ++ [(b, xI E 33 (fun _ => nI 0))]).set k (a, .inr (3, [v0, .int c, .int lim, .ref b, v4]))) := by
  intro sz
  refine mW_of (cc := cX1_init) (maxL := 3) (ret := none) (Qc := fun sz => va_Qv (fun ws1 => ∃ b : Nat, ws1 = (ws ++ [(b, xI E 33 (fun _ => nI 0))]).set k (a, .inr (3, [v0, .int c, .int lim, .ref b, v4]))) (eAt E (va_A (ws) sz)) (va_A (ws) sz)) (by decide) rfl (Nat.le_of_ble_eq_true rfl) ?_
  intro p0 e0 s m below meth c0 ls hx hb hr hml hts hown hlocks hin hE hP hD hl
  have hS : va_S (va_A (ws) s.heap.size) s.heap s.heap [] := va_S.rf
  have hA : ∀ q, s.heap.size ≤ q → (va_A (ws) s.heap.size) q := fun q h => Or.inr h
  have hown : s.vm.findClass RX1 = some m.cls := hown
  have hl : lv_has ls 3 [(0, .ref a), (1, .int c), (2, .int lim)] := hl
  have hinX3 : ∀ w ∈ wsX30, w ∈ wsX1_init := by decide +kernel
  have hlen : k < ws.length := (List.getElem?_eq_some_iff.mp hC).1
  refine lv_aload_n hx hb dX1_init_0 rfl (lv_at hl 0 rfl) ?_
  refine W.objInit hx hb hown (hts (.methodLink RX1 3 objectInit) (by decide +kernel)) (hts (.instanceMethod objectInit) (by decide +kernel)) (hts (.code objectInit ⟨#[0xb1]⟩ 1 none) (by decide +kernel)) rfl (by rw [hml]; exact hl.1) rfl dX1_init_1 (Nat.le_of_ble_eq_true rfl) (Nat.le_of_ble_eq_true rfl) ?_
  refine W.eq (g2 := F0 m 4 ls []) rfl ?_
  refine lv_aload_n hx hb dX1_init_4 rfl (lv_at hl 0 rfl) ?_
  refine lv_bipush (v := nI 33) hx hb dX1_init_5 (by decide) ?_
  refine va_newI hx hb (hts (.arrayClass .int) (by decide +kernel)) hE hP hD hS hA (by decide) (Nat.le_of_ble_eq_true rfl) (Nat.le_of_ble_eq_true rfl) dX1_init_7 (fun b H hP hD hS => ?_)
  have hlen2 : k < (ws ++ [(b, xI E 33 (fun _ => nI 0))]).length := by rw [List.length_append]; omega
  refine va_putF (D := E.1) (ci := 3) (ty := .array .int) (C := RX3) (T := TX3) (N := 5) hx hb hts hinX3 tyX3 tyX3_ok nmX3 hown hE.1 hP hD hS k ((List.getElem?_append_left hlen).trans hC) rfl 3 (by decide) (hts (.fieldLink RX1 9 "StakeHouse$EvenGame" "gains" "[I") (by decide +kernel)) (fun _ h9 => h9) rfl hin.symm rfl (by decide +kernel) rfl rfl (Nat.le_of_ble_eq_true rfl) dX1_init_9 (fun H locs hP hD hS => ?_)
  have hP : va_P E.1 vwCl ((ws ++ [(b, xI E 33 (fun _ => nI 0))]).set k (a, .inr (3, [v0, v1, v2, .ref b, v4]))) H := hP
  have hD : va_D (va_A (ws) s.heap.size) ((ws ++ [(b, xI E 33 (fun _ => nI 0))]).set k (a, .inr (3, [v0, v1, v2, .ref b, v4]))) := hD
  refine lv_aload_n hx hb dX1_init_12 rfl (lv_at hl 0 rfl) ?_
  refine lv_iload_n hx hb dX1_init_13 rfl (lv_at hl 1 rfl) ?_
  refine va_putF (D := E.1) (ci := 3) (ty := .int) (C := RX3) (T := TX3) (N := 5) hx hb hts hinX3 tyX3 tyX3_ok nmX3 hown hE.1 hP hD hS k (List.getElem?_set_self hlen2) rfl 1 (by decide) (hts (.fieldLink RX1 15 "StakeHouse$EvenGame" "chance" "I") (by decide +kernel)) (fun _ h9 => h9) rfl hin.symm rfl (by decide +kernel) rfl rfl (Nat.le_of_ble_eq_true rfl) dX1_init_14 (fun H locs hP hD hS => ?_)
  have hP : va_P E.1 vwCl ((ws ++ [(b, xI E 33 (fun _ => nI 0))]).set k (a, .inr (3, [v0, .int c, v2, .ref b, v4]))) H := (by rw [List.set_set] at hP; exact hP)
  have hD : va_D (va_A (ws) s.heap.size) ((ws ++ [(b, xI E 33 (fun _ => nI 0))]).set k (a, .inr (3, [v0, .int c, v2, .ref b, v4]))) := (by rw [List.set_set] at hD; exact hD)
  refine lv_aload_n hx hb dX1_init_17 rfl (lv_at hl 0 rfl) ?_
  refine lv_iload_n hx hb dX1_init_18 rfl (lv_at hl 2 rfl) ?_
  refine va_putF (D := E.1) (ci := 3) (ty := .int) (C := RX3) (T := TX3) (N := 5) hx hb hts hinX3 tyX3 tyX3_ok nmX3 hown hE.1 hP hD hS k (List.getElem?_set_self hlen2) rfl 2 (by decide) (hts (.fieldLink RX1 19 "StakeHouse$EvenGame" "limit" "I") (by decide +kernel)) (fun _ h9 => h9) rfl hin.symm rfl (by decide +kernel) rfl rfl (Nat.le_of_ble_eq_true rfl) dX1_init_19 (fun H locs hP hD hS => ?_)
  have hP : va_P E.1 vwCl ((ws ++ [(b, xI E 33 (fun _ => nI 0))]).set k (a, .inr (3, [v0, .int c, .int lim, .ref b, v4]))) H := (by rw [List.set_set] at hP; exact hP)
  have hD : va_D (va_A (ws) s.heap.size) ((ws ++ [(b, xI E 33 (fun _ => nI 0))]).set k (a, .inr (3, [v0, .int c, .int lim, .ref b, v4]))) := (by rw [List.set_set] at hD; exact hD)
  exact ret_Wv hx hb hr hlocks dX1_init_22 hP hD hS ⟨b, rfl⟩
set_option maxHeartbeats 4000000 in
set_option maxRecDepth 100000 in
/-- LongGame.<init>, of a game of kind 1 -/
theorem c_X2_init_1 (l : Launch) (E : eT) (ws : va_W) (k a : Nat) (v0 v1 v2 v3 : Value) (hC : ws[k]? = some (a, .inr (2, [v0, v1, v2, v3]))) (c lim tm : Int32) : mWv l yX2_init wsX2_init 2 45 1 33 E (ws) [.ref a, .int c, .int lim, .int tm] (fun ws1 => ∃ b : Nat, ws1 = (ws ++ [(b, xI E 33 (fun _ => nI 0))]).set k (a, .inr (2, [.int c, .int lim, .ref b, .int tm]))) := by
  intro sz
  refine mW_of (cc := cX2_init) (maxL := 4) (ret := none) (Qc := fun sz => va_Qv (fun ws1 => ∃ b : Nat, ws1 = (ws ++ [(b, xI E 33 (fun _ => nI 0))]).set k (a, .inr (2, [.int c, .int lim, .ref b, .int tm]))) (eAt E (va_A (ws) sz)) (va_A (ws) sz)) (by decide) rfl (Nat.le_of_ble_eq_true rfl) ?_
  intro p0 e0 s m below meth c0 ls hx hb hr hml hts hown hlocks hin hE hP hD hl
  have hS : va_S (va_A (ws) s.heap.size) s.heap s.heap [] := va_S.rf
  have hA : ∀ q, s.heap.size ≤ q → (va_A (ws) s.heap.size) q := fun q h => Or.inr h
  have hown : s.vm.findClass RX2 = some m.cls := hown
  have hl : lv_has ls 4 [(0, .ref a), (1, .int c), (2, .int lim), (3, .int tm)] := hl
  have hinX2 : ∀ w ∈ wsX20, w ∈ wsX2_init := by decide +kernel
  have hlen : k < ws.length := (List.getElem?_eq_some_iff.mp hC).1
  refine lv_aload_n hx hb dX2_init_0 rfl (lv_at hl 0 rfl) ?_
  refine lv_iload_n hx hb dX2_init_1 rfl (lv_at hl 1 rfl) ?_
  refine lv_iload_n hx hb dX2_init_2 rfl (lv_at hl 2 rfl) ?_
  refine cW_v (va_runI ⟨hx, hb, hml, hown, hts⟩ (c_X1_init_1 l E ws k a v0 v1 v2 v3 hC c lim _) (cwI 2 hts gX2_init_X1_init rfl rfl rfl (hts (.initialized RX1) (by decide +kernel)) (hts (.methodLink RX2 1 yX1_init) (by decide +kernel)) (hts (.instanceMethod yX1_init) (by decide +kernel)) rfl (by decide +kernel) ⟨Nat.le_of_ble_eq_true rfl, Nat.le_of_ble_eq_true rfl⟩) (ePw_S hP hD hE) rfl rfl hl.1 rfl (lv_room (Nat.le_of_ble_eq_true rfl)) dX2_init_3 ⟨Nat.le_of_ble_eq_true rfl, Nat.le_of_ble_eq_true rfl⟩) hS hD hA (fun ws9 H locs hr9 hP hD hS => ?_)
  obtain ⟨b, rfl⟩ := hr9
  have hlen2 : k < (ws ++ [(b, xI E 33 (fun _ => nI 0))]).length := by rw [List.length_append]; omega
  refine lv_aload_n hx hb dX2_init_6 rfl (lv_at hl 0 rfl) ?_
  refine lv_iload_n hx hb dX2_init_7 rfl (lv_at hl 3 rfl) ?_
  refine va_putF (D := E.1) (ci := 2) (ty := .int) (C := RX2) (T := TX2) (N := 4) hx hb hts hinX2 tyX2 tyX2_ok nmX2 hown hE.1 hP hD hS k (List.getElem?_set_self hlen2) rfl 3 (by decide) (hts (.fieldLink RX2 7 "StakeHouse$LongGame" "times" "I") (by decide +kernel)) (fun _ h9 => h9) rfl hin.symm rfl (by decide +kernel) rfl rfl (Nat.le_of_ble_eq_true rfl) dX2_init_8 (fun H locs hP hD hS => ?_)
  have hP : va_P E.1 vwCl ((ws ++ [(b, xI E 33 (fun _ => nI 0))]).set k (a, .inr (2, [.int c, .int lim, .ref b, .int tm]))) H := (by rw [List.set_set] at hP; exact hP)
  have hD : va_D (va_A (ws) s.heap.size) ((ws ++ [(b, xI E 33 (fun _ => nI 0))]).set k (a, .inr (2, [.int c, .int lim, .ref b, .int tm]))) := (by rw [List.set_set] at hD; exact hD)
  exact ret_Wv hx hb hr hlocks dX2_init_11 hP hD hS ⟨b, rfl⟩
set_option maxHeartbeats 4000000 in
set_option maxRecDepth 100000 in
/-- LongGame.<init>, of a game of kind 2 -/
theorem c_X2_init_2 (l : Launch) (E : eT) (ws : va_W) (k a : Nat) (v0 v1 v2 v3 v4 : Value) (hC : ws[k]? = some (a, .inr (3, [v0, v1, v2, v3, v4]))) (c lim tm : Int32) : mWv l yX2_init wsX2_init 2 45 1 33 E (ws) [.ref a, .int c, .int lim, .int tm] (fun ws1 => ∃ b : Nat, ws1 = (ws ++ [(b, xI E 33 (fun _ => nI 0))]).set k (a, .inr (3, [.int tm, .int c, .int lim, .ref b, v4]))) := by
  intro sz
  refine mW_of (cc := cX2_init) (maxL := 4) (ret := none) (Qc := fun sz => va_Qv (fun ws1 => ∃ b : Nat, ws1 = (ws ++ [(b, xI E 33 (fun _ => nI 0))]).set k (a, .inr (3, [.int tm, .int c, .int lim, .ref b, v4]))) (eAt E (va_A (ws) sz)) (va_A (ws) sz)) (by decide) rfl (Nat.le_of_ble_eq_true rfl) ?_
  intro p0 e0 s m below meth c0 ls hx hb hr hml hts hown hlocks hin hE hP hD hl
  have hS : va_S (va_A (ws) s.heap.size) s.heap s.heap [] := va_S.rf
  have hA : ∀ q, s.heap.size ≤ q → (va_A (ws) s.heap.size) q := fun q h => Or.inr h
  have hown : s.vm.findClass RX2 = some m.cls := hown
  have hl : lv_has ls 4 [(0, .ref a), (1, .int c), (2, .int lim), (3, .int tm)] := hl
  have hinX3 : ∀ w ∈ wsX30, w ∈ wsX2_init := by decide +kernel
  have hlen : k < ws.length := (List.getElem?_eq_some_iff.mp hC).1
  refine lv_aload_n hx hb dX2_init_0 rfl (lv_at hl 0 rfl) ?_
  refine lv_iload_n hx hb dX2_init_1 rfl (lv_at hl 1 rfl) ?_
  refine lv_iload_n hx hb dX2_init_2 rfl (lv_at hl 2 rfl) ?_
  refine cW_v (va_runI ⟨hx, hb, hml, hown, hts⟩ (c_X1_init_2 l E ws k a v0 v1 v2 v3 v4 hC c lim _) (cwI 2 hts gX2_init_X1_init rfl rfl rfl (hts (.initialized RX1) (by decide +kernel)) (hts (.methodLink RX2 1 yX1_init) (by decide +kernel)) (hts (.instanceMethod yX1_init) (by decide +kernel)) rfl (by decide +kernel) ⟨Nat.le_of_ble_eq_true rfl, Nat.le_of_ble_eq_true rfl⟩) (ePw_S hP hD hE) rfl rfl hl.1 rfl (lv_room (Nat.le_of_ble_eq_true rfl)) dX2_init_3 ⟨Nat.le_of_ble_eq_true rfl, Nat.le_of_ble_eq_true rfl⟩) hS hD hA (fun ws9 H locs hr9 hP hD hS => ?_)
  obtain ⟨b, rfl⟩ := hr9
  have hlen2 : k < (ws ++ [(b, xI E 33 (fun _ => nI 0))]).length := by rw [List.length_append]; omega
  refine lv_aload_n hx hb dX2_init_6 rfl (lv_at hl 0 rfl) ?_
  refine lv_iload_n hx hb dX2_init_7 rfl (lv_at hl 3 rfl) ?_
  refine va_putF (D := E.1) (ci := 3) (ty := .int) (C := RX3) (T := TX3) (N := 5) hx hb hts hinX3 tyX3 tyX3_ok nmX3 hown hE.1 hP hD hS k (List.getElem?_set_self hlen2) rfl 0 (by decide) (hts (.fieldLink RX2 7 "StakeHouse$LongGame" "times" "I") (by decide +kernel)) (fun _ h9 => h9) rfl hin.symm rfl (by decide +kernel) rfl rfl (Nat.le_of_ble_eq_true rfl) dX2_init_8 (fun H locs hP hD hS => ?_)
  have hP : va_P E.1 vwCl ((ws ++ [(b, xI E 33 (fun _ => nI 0))]).set k (a, .inr (3, [.int tm, .int c, .int lim, .ref b, v4]))) H := (by rw [List.set_set] at hP; exact hP)
  have hD : va_D (va_A (ws) s.heap.size) ((ws ++ [(b, xI E 33 (fun _ => nI 0))]).set k (a, .inr (3, [.int tm, .int c, .int lim, .ref b, v4]))) := (by rw [List.set_set] at hD; exact hD)
  exact ret_Wv hx hb hr hlocks dX2_init_11 hP hD hS ⟨b, rfl⟩
set_option maxHeartbeats 4000000 in
set_option maxRecDepth 100000 in
/-- TaxedGame.<init> -/
theorem c_X3_init (l : Launch) (E : eT) (ws : va_W) (k a : Nat) (v0 v1 v2 v3 v4 : Value) (hC : ws[k]? = some (a, .inr (3, [v0, v1, v2, v3, v4]))) (c lim tm tx : Int32) : mWv l yX3_init wsX3_init 3 70 1 33 E (ws) [.ref a, .int c, .int lim, .int tm, .int tx] (fun ws1 => ∃ b : Nat, ws1 = (ws ++ [(b, xI E 33 (fun _ => nI 0))]).set k (a, .inr (3, [.int tm, .int c, .int lim, .ref b, .int tx]))) := by
  intro sz
  refine mW_of (cc := cX3_init) (maxL := 5) (ret := none) (Qc := fun sz => va_Qv (fun ws1 => ∃ b : Nat, ws1 = (ws ++ [(b, xI E 33 (fun _ => nI 0))]).set k (a, .inr (3, [.int tm, .int c, .int lim, .ref b, .int tx]))) (eAt E (va_A (ws) sz)) (va_A (ws) sz)) (by decide) rfl (Nat.le_of_ble_eq_true rfl) ?_
  intro p0 e0 s m below meth c0 ls hx hb hr hml hts hown hlocks hin hE hP hD hl
  have hS : va_S (va_A (ws) s.heap.size) s.heap s.heap [] := va_S.rf
  have hA : ∀ q, s.heap.size ≤ q → (va_A (ws) s.heap.size) q := fun q h => Or.inr h
  have hown : s.vm.findClass RX3 = some m.cls := hown
  have hl : lv_has ls 5 [(0, .ref a), (1, .int c), (2, .int lim), (3, .int tm), (4, .int tx)] := hl
  have hinX3 : ∀ w ∈ wsX30, w ∈ wsX3_init := by decide +kernel
  have hlen : k < ws.length := (List.getElem?_eq_some_iff.mp hC).1
  refine lv_aload_n hx hb dX3_init_0 rfl (lv_at hl 0 rfl) ?_
  refine lv_iload_n hx hb dX3_init_1 rfl (lv_at hl 1 rfl) ?_
  refine lv_iload_n hx hb dX3_init_2 rfl (lv_at hl 2 rfl) ?_
  refine lv_iload_n hx hb dX3_init_3 rfl (lv_at hl 3 rfl) ?_
  refine cW_v (va_runI ⟨hx, hb, hml, hown, hts⟩ (c_X2_init_2 l E ws k a v0 v1 v2 v3 v4 hC c lim tm _) (cwI 3 hts gX3_init_X2_init rfl rfl rfl (hts (.initialized RX2) (by decide +kernel)) (hts (.methodLink RX3 3 yX2_init) (by decide +kernel)) (hts (.instanceMethod yX2_init) (by decide +kernel)) rfl (by decide +kernel) ⟨Nat.le_of_ble_eq_true rfl, Nat.le_of_ble_eq_true rfl⟩) (ePw_S hP hD hE) rfl rfl hl.1 rfl (lv_room (Nat.le_of_ble_eq_true rfl)) dX3_init_4 ⟨Nat.le_of_ble_eq_true rfl, Nat.le_of_ble_eq_true rfl⟩) hS hD hA (fun ws9 H locs hr9 hP hD hS => ?_)
  obtain ⟨b, rfl⟩ := hr9
  have hlen2 : k < (ws ++ [(b, xI E 33 (fun _ => nI 0))]).length := by rw [List.length_append]; omega
  refine lv_aload_n hx hb dX3_init_7 rfl (lv_at hl 0 rfl) ?_
  refine lv_iload hx hb dX3_init_8 (lv_at hl 4 rfl) ?_
  refine va_putF (D := E.1) (ci := 3) (ty := .int) (C := RX3) (T := TX3) (N := 5) hx hb hts hinX3 tyX3 tyX3_ok nmX3 hown hE.1 hP hD hS k (List.getElem?_set_self hlen2) rfl 4 (by decide) (hts (.fieldLink RX3 9 "StakeHouse$TaxedGame" "tax" "I") (by decide +kernel)) (fun _ h9 => h9) rfl hin.symm rfl (by decide +kernel) rfl rfl (Nat.le_of_ble_eq_true rfl) dX3_init_10 (fun H locs hP hD hS => ?_)
  have hP : va_P E.1 vwCl ((ws ++ [(b, xI E 33 (fun _ => nI 0))]).set k (a, .inr (3, [.int tm, .int c, .int lim, .ref b, .int tx]))) H := (by rw [List.set_set] at hP; exact hP)
  have hD : va_D (va_A (ws) s.heap.size) ((ws ++ [(b, xI E 33 (fun _ => nI 0))]).set k (a, .inr (3, [.int tm, .int c, .int lim, .ref b, .int tx]))) := (by rw [List.set_set] at hD; exact hD)
  exact ret_Wv hx hb hr hlocks dX3_init_13 hP hD hS ⟨b, rfl⟩
/-- the five numbers of a call of game() that tell a game -/
def gArg (d : gT) (kv cv mv xv lv : Int32) : Prop := gOk d ∧ kv = nI (gK d) ∧ cv = nI (gC d) ∧ lv = nI (gL d) ∧ (gK d ≠ 0 → mv = nI (gM d)) ∧ (gK d = 2 → xv = nI (gX d))
set_option maxHeartbeats 4000000 in
set_option maxRecDepth 100000 in
/-- newGame -/
theorem c_newGame (l : Launch) (E : eT) (ws : va_W) (d : gT) (kv cv mv xv lv : Int32) (hd : gArg d kv cv mv xv lv) : mWr l yX4_newGame wsX4_newGame 4 95 2 38 E (ws) [.int kv, .int cv, .int mv, .int xv, .int lv] (fun u : Nat × va_W => ∃ b : Nat, u.2 = ws ++ [(u.1, gmE d b), (b, xI E 33 (fun _ => nI 0))]) := by
  intro sz
  refine mW_of (cc := cX4_newGame) (maxL := 5) (ret := (some (.object "StakeHouse$EvenGame"))) (Qc := fun sz => va_Qr (fun u : Nat × va_W => ∃ b : Nat, u.2 = ws ++ [(u.1, gmE d b), (b, xI E 33 (fun _ => nI 0))]) (fun u a t => u.1 = a ∧ eAt E (va_A (ws) sz) u.2 t) (va_A (ws) sz)) (by decide) rfl (Nat.le_of_ble_eq_true rfl) ?_
  intro p0 e0 s m below meth c0 ls hx hb hr hml hts hown hlocks hin hE hP hD hl
  have hS : va_S (va_A (ws) s.heap.size) s.heap s.heap [] := va_S.rf
  have hA : ∀ q, s.heap.size ≤ q → (va_A (ws) s.heap.size) q := fun q h => Or.inr h
  have hown : s.vm.findClass RX4 = some m.cls := hown
  have hl : lv_has ls 5 [(0, .int kv), (1, .int cv), (2, .int mv), (3, .int xv), (4, .int lv)] := hl
  have hinX1 : ∀ w ∈ wsX10, w ∈ wsX4_newGame := by decide +kernel
  have hinX2 : ∀ w ∈ wsX20, w ∈ wsX4_newGame := by decide +kernel
  have hinX3 : ∀ w ∈ wsX30, w ∈ wsX4_newGame := by decide +kernel
  obtain ⟨hd, rfl, rfl, rfl, hm, hx9⟩ := hd
  have hK2 := hd.1
  refine lv_iload_n hx hb dX4_newGame_0 rfl (lv_at hl 0 rfl) ?_
  refine lv_iconst (v := nI 2) hx hb dX4_newGame_1 (by decide) ?_
  refine n_ne hx hb (by omega) (by omega) 18 dX4_newGame_2 (by decide) (fun c2 => ?_) (fun c2 => ?_)
  · skip
    refine lv_iload_n hx hb dX4_newGame_18 rfl (lv_at hl 0 rfl) ?_
    refine lv_iconst (v := nI 1) hx hb dX4_newGame_19 (by decide) ?_
    refine n_ne hx hb (by omega) (by omega) 35 dX4_newGame_20 (by decide) (fun c20 => ?_) (fun c20 => ?_)
    · skip
      refine va_new (ci := 1) (fs := [.int (nI 0), .int (nI 0), .null]) (C := RX1) (T := TX1) (N := 3) hx hb hts hinX1 tyX1 tyX1_ok hown (hts (.classLink RX4 9 RX1) (by decide +kernel)) (hts (.instantiable RX1 3) (by decide +kernel)) (hts (.initialized RX1) (by decide +kernel)) hE.1 hP hD hS hA rfl (fun j hj => by rcases (show j = 0 ∨ j = 1 ∨ j = 2 by omega) with rfl | rfl | rfl <;> rfl) (Nat.le_of_ble_eq_true rfl) (Nat.le_of_ble_eq_true rfl) dX4_newGame_35 (fun q H hP hD hS => ?_)
      refine lv_dup hx hb dX4_newGame_38 rfl ?_
      refine lv_iload_n hx hb dX4_newGame_39 rfl (lv_at hl 1 rfl) ?_
      refine lv_iload hx hb dX4_newGame_40 (lv_at hl 4 rfl) ?_
      refine cW_v (va_runI ⟨hx, hb, hml, hown, hts⟩ (c_X1_init_0 l E _ ws.length q (.int (nI 0)) (.int (nI 0)) .null (app_last _ _) (nI (gC d)) (nI (gL d)) _) (cwI 2 hts gX4_newGame_X1_init rfl rfl rfl (hts (.initialized RX1) (by decide +kernel)) (hts (.methodLink RX4 132 yX1_init) (by decide +kernel)) (hts (.instanceMethod yX1_init) (by decide +kernel)) rfl (by decide +kernel) ⟨Nat.le_of_ble_eq_true rfl, Nat.le_of_ble_eq_true rfl⟩) (ePw_S hP hD hE) rfl rfl hl.1 rfl (lv_room (Nat.le_of_ble_eq_true rfl)) dX4_newGame_42 ⟨Nat.le_of_ble_eq_true rfl, Nat.le_of_ble_eq_true rfl⟩) hS hD hA (fun ws9 H locs hr9 hP hD hS => ?_)
      obtain ⟨b, rfl⟩ := hr9
      rw [app_s1] at hP hD
      refine W.widen (k := 2) (n := 38) (by decide) (by decide) ?_
      exact ret_Wr hx hb hr (Or.inl ⟨_, rfl⟩) hlocks dX4_newGame_45 hP hD hS ⟨b, by rw [gmE_0 (by omega)]⟩
    · skip
      refine va_new (ci := 2) (fs := [.int (nI 0), .int (nI 0), .null, .int (nI 0)]) (C := RX2) (T := TX2) (N := 4) hx hb hts hinX2 tyX2 tyX2_ok hown (hts (.classLink RX4 127 RX2) (by decide +kernel)) (hts (.instantiable RX2 4) (by decide +kernel)) (hts (.initialized RX2) (by decide +kernel)) hE.1 hP hD hS hA rfl (fun j hj => by rcases (show j = 0 ∨ j = 1 ∨ j = 2 ∨ j = 3 by omega) with rfl | rfl | rfl | rfl <;> rfl) (Nat.le_of_ble_eq_true rfl) (Nat.le_of_ble_eq_true rfl) dX4_newGame_23 (fun q H hP hD hS => ?_)
      refine lv_dup hx hb dX4_newGame_26 rfl ?_
      refine lv_iload_n hx hb dX4_newGame_27 rfl (lv_at hl 1 rfl) ?_
      refine lv_iload hx hb dX4_newGame_28 (lv_at hl 4 rfl) ?_
      refine lv_iload_n hx hb dX4_newGame_30 rfl (lv_at hl 2 rfl) ?_
      refine cW_v (va_runI ⟨hx, hb, hml, hown, hts⟩ (c_X2_init_1 l E _ ws.length q (.int (nI 0)) (.int (nI 0)) .null (.int (nI 0)) (app_last _ _) (nI (gC d)) (nI (gL d)) mv _) (cwI 3 hts gX4_newGame_X2_init rfl rfl rfl (hts (.initialized RX2) (by decide +kernel)) (hts (.methodLink RX4 129 yX2_init) (by decide +kernel)) (hts (.instanceMethod yX2_init) (by decide +kernel)) rfl (by decide +kernel) ⟨Nat.le_of_ble_eq_true rfl, Nat.le_of_ble_eq_true rfl⟩) (ePw_S hP hD hE) rfl rfl hl.1 rfl (lv_room (Nat.le_of_ble_eq_true rfl)) dX4_newGame_31 ⟨Nat.le_of_ble_eq_true rfl, Nat.le_of_ble_eq_true rfl⟩) hS hD hA (fun ws9 H locs hr9 hP hD hS => ?_)
      obtain ⟨b, rfl⟩ := hr9
      rw [app_s1] at hP hD
      refine W.widen (k := 2) (n := 38) (by decide) (by decide) ?_
      rw [hm (by omega)] at hP hD
      exact ret_Wr hx hb hr (Or.inl ⟨_, rfl⟩) hlocks dX4_newGame_34 hP hD hS ⟨b, by rw [gmE_1 (by omega)]⟩
  · skip
    refine va_new (ci := 3) (fs := [.int (nI 0), .int (nI 0), .int (nI 0), .null, .int (nI 0)]) (C := RX3) (T := TX3) (N := 5) hx hb hts hinX3 tyX3 tyX3_ok hown (hts (.classLink RX4 122 RX3) (by decide +kernel)) (hts (.instantiable RX3 5) (by decide +kernel)) (hts (.initialized RX3) (by decide +kernel)) hE.1 hP hD hS hA rfl (fun j hj => by rcases (show j = 0 ∨ j = 1 ∨ j = 2 ∨ j = 3 ∨ j = 4 by omega) with rfl | rfl | rfl | rfl | rfl <;> rfl) (Nat.le_of_ble_eq_true rfl) (Nat.le_of_ble_eq_true rfl) dX4_newGame_5 (fun q H hP hD hS => ?_)
    refine lv_dup hx hb dX4_newGame_8 rfl ?_
    refine lv_iload_n hx hb dX4_newGame_9 rfl (lv_at hl 1 rfl) ?_
    refine lv_iload hx hb dX4_newGame_10 (lv_at hl 4 rfl) ?_
    refine lv_iload_n hx hb dX4_newGame_12 rfl (lv_at hl 2 rfl) ?_
    refine lv_iload_n hx hb dX4_newGame_13 rfl (lv_at hl 3 rfl) ?_
    refine cW_v (va_runI ⟨hx, hb, hml, hown, hts⟩ (c_X3_init l E _ ws.length q (.int (nI 0)) (.int (nI 0)) (.int (nI 0)) .null (.int (nI 0)) (app_last _ _) (nI (gC d)) (nI (gL d)) mv xv _) (cwI 4 hts gX4_newGame_X3_init rfl rfl rfl (hts (.initialized RX3) (by decide +kernel)) (hts (.methodLink RX4 124 yX3_init) (by decide +kernel)) (hts (.instanceMethod yX3_init) (by decide +kernel)) rfl (by decide +kernel) ⟨Nat.le_of_ble_eq_true rfl, Nat.le_of_ble_eq_true rfl⟩) (ePw_S hP hD hE) rfl rfl hl.1 rfl (lv_room (Nat.le_of_ble_eq_true rfl)) dX4_newGame_14 ⟨Nat.le_of_ble_eq_true rfl, Nat.le_of_ble_eq_true rfl⟩) hS hD hA (fun ws9 H locs hr9 hP hD hS => ?_)
    obtain ⟨b, rfl⟩ := hr9
    rw [app_s1] at hP hD
    refine W.widen (k := 2) (n := 38) (by decide) (by decide) ?_
    rw [hm (by omega), hx9 (by omega)] at hP hD
    exact ret_Wr hx hb hr (Or.inl ⟨_, rfl⟩) hlocks dX4_newGame_17 hP hD hS ⟨b, by rw [gmE_2 (by omega)]⟩
section AG
variable {p : Program} {l : Launch} {e : Env} {R : Room} {s : State} {m : MethodId} {args : Array Value} {below : List Frame} {meth : Method} {c : Code} {H : Heap} {locs : List Loc} {cells slots : Nat} {Q : State → Prop}
variable {cc : ByteArray} {pc : Nat} {ls : Array Slot} {rest : List Value} {E : eT} {ws : va_W} {A0 : Nat → Prop} {H0 : Heap}
theorem ast_game (hexec : p.tables.exec = Jvm.exec) (hb : c.code = cc) (hE : eEv E s) (hP : va_P E.1 vwCl ws H) (hD : va_D A0 ws) (hS : va_S A0 H0 H locs) {k v b x i ad9 : Nat} {d : gT} {f : Nat → Option Nat} (ha : ws[x]? = some (ad9, xGr E f)) (hg : ws[k]? = some (v, gmE d b)) (hi : i < 4) (hdg : decode cc pc = .ok (.aastore, 1))
    (kk : ∀ (H : Heap) (locs : List Loc), va_P E.1 vwCl (ws.set x (ad9, xGr E (va_up f i (some v)))) H → va_D A0 (ws.set x (ad9, xGr E (va_up f i (some v)))) → va_S A0 H0 H locs → W p l e R s m args below meth c H locs cells slots Q (F0 m (pc + 1) ls rest)) : W p l e R s m args below meth c H locs cells slots Q (F0 m pc ls (.ref v :: .int (nI i) :: .ref ad9 :: rest)) := by
  have hc2 : va_Nw (.castable RX2 RX1) s := hE.2 _ (by decide +kernel)
  have hc3 : va_Nw (.castable RX3 RX1) s := hE.2 _ (by decide +kernel)
  have hin : vp_in (nI i) 4 := vp_in_nI hi (by decide)
  have e : (nI i).toNatClampNeg = i := nI_clamp (by omega)
  unfold gmE at hg
  split at hg
  · exact va_astq hexec hb hE.1 hP hD hS x 2 k 1 ha rfl hg rfl hin hdg (fun H locs hP hD hS => kk H locs (by rw [e] at hP; exact hP) (by rw [e] at hD; exact hD) hS)
  · split at hg
    · exact va_astqO hexec hb hE.1 hP hD hS x 2 k 2 ha rfl hc2 hg rfl hin hdg (fun H locs hP hD hS => kk H locs (by rw [e] at hP; exact hP) (by rw [e] at hD; exact hD) hS)
    · exact va_astqO hexec hb hE.1 hP hD hS x 2 k 3 ha rfl hc3 hg rfl hin hdg (fun H locs hP hD hS => kk H locs (by rw [e] at hP; exact hP) (by rw [e] at hD; exact hD) hS)
end AG
theorem gArg_of {kv cv mv xv lv : Int32} (h1 : nI 0 ≤ kv ∧ kv ≤ nI 2) (h2 : nI 0 ≤ cv ∧ cv ≤ nI 16) (h3 : nI 1 ≤ lv ∧ lv ≤ nI 32) (h4 : kv ≠ 0 → nI 1 ≤ mv ∧ mv ≤ nI 9) (h5 : kv = nI 2 → nI 0 ≤ xv ∧ xv ≤ nI 10) : ∃ d : gT, gArg d kv cv mv xv lv := by
  obtain ⟨k, -, hk, rfl⟩ := nI_rng (by decide) h1 (by decide)
  obtain ⟨c, -, hc, rfl⟩ := nI_rng (by decide) h2 (by decide)
  obtain ⟨lm, hl1, hl2, rfl⟩ := nI_rng (by decide) h3 (by decide)
  have e0 : nI k = 0 ↔ k = 0 := nI_eq (by omega) (b := 0) (by decide)
  have e2 : nI k = nI 2 ↔ k = 2 := nI_eq (by omega) (by decide)
  by_cases k0 : k = 0
  · exact ⟨(k, c, 0, 0, lm), ⟨hk, hc, fun h => absurd k0 h, fun h => by have h9 : k = 2 := h; omega, hl1, hl2⟩, rfl, rfl, rfl, fun h => absurd k0 h, fun h => by have h9 : k = 2 := h; omega⟩
  · obtain ⟨mm, hm1, hm2, rfl⟩ := nI_rng (by decide) (h4 (fun q => k0 (e0.mp q))) (by decide)
    by_cases k2 : k = 2
    · obtain ⟨xx, -, hx2, rfl⟩ := nI_rng (by decide) (h5 (e2.mpr k2)) (by decide)
      exact ⟨(k, c, mm, xx, lm), ⟨hk, hc, fun _ => ⟨hm1, hm2⟩, fun _ => hx2, hl1, hl2⟩, rfl, rfl, rfl, fun _ => rfl, fun _ => rfl⟩
    · exact ⟨(k, c, mm, 0, lm), ⟨hk, hc, fun _ => ⟨hm1, hm2⟩, fun h => absurd h k2, hl1, hl2⟩, rfl, rfl, rfl, fun _ => rfl, fun h => absurd h k2⟩
theorem gArg_1 {d : gT} {kv cv mv xv lv : Int32} (h : gArg d kv cv mv xv lv) : (nI 0 ≤ kv ∧ kv ≤ nI 2) ∧ (nI 0 ≤ cv ∧ cv ≤ nI 16) ∧ (nI 1 ≤ lv ∧ lv ≤ nI 32) ∧ (kv ≠ 0 → nI 1 ≤ mv ∧ mv ≤ nI 9) ∧ (kv = nI 2 → nI 0 ≤ xv ∧ xv ≤ nI 10) := by
  obtain ⟨⟨h1, h2, h3, h4, h5, h6⟩, rfl, rfl, rfl, hm, hx⟩ := h
  have e0 : nI (gK d) = 0 ↔ gK d = 0 := nI_eq (by omega) (b := 0) (by decide)
  have e2 : nI (gK d) = nI 2 ↔ gK d = 2 := nI_eq (by omega) (by decide)
  refine ⟨(nI_rngI (by omega) (by decide) (by decide)).mpr ⟨by omega, h1⟩, (nI_rngI (by omega) (by decide) (by decide)).mpr ⟨by omega, h2⟩, (nI_rngI (by omega) (by decide) (by decide)).mpr ⟨h5, h6⟩, fun q => ?_, fun q => ?_⟩
  · have h9 := h3 (fun z => q (e0.mpr z))
    rw [hm (fun z => q (e0.mpr z))]
    exact (nI_rngI (by omega) (by decide) (by decide)).mpr h9
  · rw [hx (e2.mp q)]
    have h9 := h4 (e2.mp q)
    exact (nI_rngI (by omega) (by decide) (by decide)).mpr ⟨by omega, h9⟩
set_option maxHeartbeats 4000000 in
set_option maxRecDepth 100000 in
/-- game -/
theorem c_game (l : Launch) (E : eT) (ad : Nat → Nat) (g hz n : Nat) (mk : Int64) (td : Nat → Int32) (gr : Nat → Option Nat) (cf ce ck : Nat → Nat) (rv : Nat → Nat → Int64) (st : Nat → Int32) (wo : Nat → Nat → Int64) (rest : va_W) (hn : n ≤ 4) (kv cv mv xv lv : Int32) : mWi l yX4_game wsX4_game 5 125 2 38 E (wX E ad g hz n mk td gr cf ce ck rv st wo ++ rest) [.ref (ad 0), .int kv, .int cv, .int mv, .int xv, .int lv] (fun r ws1 => ((¬ ∃ d : gT, gArg d kv cv mv xv lv) ∧ r = -1 ∧ ws1 = wX E ad g hz n mk td gr cf ce ck rv st wo ++ rest) ∨ ((∃ d : gT, gArg d kv cv mv xv lv) ∧ n = 4 ∧ r = -3 ∧ ws1 = wX E ad g hz n mk td gr cf ce ck rv st wo ++ rest) ∨ (∃ (d : gT) (q b : Nat), gArg d kv cv mv xv lv ∧ n < 4 ∧ r = nI n ∧ ws1 = wX E ad g hz (n + 1) mk td (va_up gr n (some q)) cf ce (fun _ => 0) rv st wo ++ (rest ++ [(q, gmE d b), (b, gnE E d)]))) := by
  intro sz
  refine mW_of (cc := cX4_game) (maxL := 7) (ret := (some .int)) (Qc := fun sz => va_Qi (fun r ws1 => ((¬ ∃ d : gT, gArg d kv cv mv xv lv) ∧ r = -1 ∧ ws1 = wX E ad g hz n mk td gr cf ce ck rv st wo ++ rest) ∨ ((∃ d : gT, gArg d kv cv mv xv lv) ∧ n = 4 ∧ r = -3 ∧ ws1 = wX E ad g hz n mk td gr cf ce ck rv st wo ++ rest) ∨ (∃ (d : gT) (q b : Nat), gArg d kv cv mv xv lv ∧ n < 4 ∧ r = nI n ∧ ws1 = wX E ad g hz (n + 1) mk td (va_up gr n (some q)) cf ce (fun _ => 0) rv st wo ++ (rest ++ [(q, gmE d b), (b, gnE E d)]))) (eAt E (va_A (wX E ad g hz n mk td gr cf ce ck rv st wo ++ rest) sz)) (va_A (wX E ad g hz n mk td gr cf ce ck rv st wo ++ rest) sz)) (by decide) rfl (Nat.le_of_ble_eq_true rfl) ?_
  intro p0 e0 s m below meth c0 ls hx hb hr hml hts hown hlocks hin hE hP hD hl
  have hS : va_S (va_A (wX E ad g hz n mk td gr cf ce ck rv st wo ++ rest) s.heap.size) s.heap s.heap [] := va_S.rf
  have hA : ∀ q, s.heap.size ≤ q → (va_A (wX E ad g hz n mk td gr cf ce ck rv st wo ++ rest) s.heap.size) q := fun q h => Or.inr h
  have hown : s.vm.findClass RX4 = some m.cls := hown
  have hl : lv_has ls 7 [(0, .ref (ad 0)), (1, .int kv), (2, .int cv), (3, .int mv), (4, .int xv), (5, .int lv)] := hl
  have hinX4 : ∀ w ∈ wsX40, w ∈ wsX4_game := by decide +kernel
  refine lv_iload_n hx hb dX4_game_0 rfl (lv_at hl 1 rfl) ?_
  refine lv_iconst (v := nI 0) hx hb dX4_game_1 (by decide) ?_
  refine lv_iconst (v := nI 2) hx hb dX4_game_2 (by decide) ?_
  refine vp_callSi (W.runS ⟨hx, hb, hml, hown, hts⟩ (c_within l E _ _ _ _) (va_cwS 3 hts gX4_game_X4_within rfl rfl rfl (by decide +kernel) ⟨Nat.le_of_ble_eq_true rfl, Nat.le_of_ble_eq_true rfl⟩) (ePu_S hP hE) rfl rfl hl.1 rfl (lv_room (Nat.le_of_ble_eq_true rfl)) dX4_game_3 ⟨Nat.zero_le _, Nat.zero_le _⟩) (fun r9 hr9 => ?_)
  subst hr9
  refine q_eq hx hb 30 dX4_game_6 (by decide) (fun c6 => ?_) (fun c6 => ?_)
  · skip
    refine lv_iconst (v := (-1)) hx hb dX4_game_30 (by decide) ?_
    refine W.widen (k := 2) (n := 38) (by decide) (by decide) ?_
    exact ret_Wi hx hb hr hlocks dX4_game_31 hP hD hS (Or.inl ⟨fun ⟨d, hd⟩ => c6 (gArg_1 hd).1, rfl, rfl⟩)
  · skip
    refine lv_iload_n hx hb dX4_game_9 rfl (lv_at hl 2 rfl) ?_
    refine lv_iconst (v := nI 0) hx hb dX4_game_10 (by decide) ?_
    refine lv_bipush (v := nI 16) hx hb dX4_game_11 (by decide) ?_
    refine vp_callSi (W.runS ⟨hx, hb, hml, hown, hts⟩ (c_within l E _ _ _ _) (va_cwS 3 hts gX4_game_X4_within rfl rfl rfl (by decide +kernel) ⟨Nat.le_of_ble_eq_true rfl, Nat.le_of_ble_eq_true rfl⟩) (ePu_S hP hE) rfl rfl hl.1 rfl (lv_room (Nat.le_of_ble_eq_true rfl)) dX4_game_13 ⟨Nat.zero_le _, Nat.zero_le _⟩) (fun r9 hr9 => ?_)
    subst hr9
    refine q_eq hx hb 30 dX4_game_16 (by decide) (fun c16 => ?_) (fun c16 => ?_)
    · skip
      refine lv_iconst (v := (-1)) hx hb dX4_game_30 (by decide) ?_
      refine W.widen (k := 2) (n := 38) (by decide) (by decide) ?_
      exact ret_Wi hx hb hr hlocks dX4_game_31 hP hD hS (Or.inl ⟨fun ⟨d, hd⟩ => c16 (gArg_1 hd).2.1, rfl, rfl⟩)
    · skip
      refine lv_iload hx hb dX4_game_19 (lv_at hl 5 rfl) ?_
      refine lv_iconst (v := nI 1) hx hb dX4_game_21 (by decide) ?_
      refine lv_bipush (v := nI 32) hx hb dX4_game_22 (by decide) ?_
      refine vp_callSi (W.runS ⟨hx, hb, hml, hown, hts⟩ (c_within l E _ _ _ _) (va_cwS 3 hts gX4_game_X4_within rfl rfl rfl (by decide +kernel) ⟨Nat.le_of_ble_eq_true rfl, Nat.le_of_ble_eq_true rfl⟩) (ePu_S hP hE) rfl rfl hl.1 rfl (lv_room (Nat.le_of_ble_eq_true rfl)) dX4_game_24 ⟨Nat.zero_le _, Nat.zero_le _⟩) (fun r9 hr9 => ?_)
      subst hr9
      refine q_ne hx hb 32 dX4_game_27 (by decide) (fun c27 => ?_) (fun c27 => ?_)
      · skip
        refine lv_iload_n hx hb dX4_game_32 rfl (lv_at hl 1 rfl) ?_
        refine lv_if_eq (tgt := 48) hx hb dX4_game_33 (by decide) (fun c33 => ?_) (fun c33 => ?_)
        · skip
          have h4 : kv ≠ 0 → nI 1 ≤ mv ∧ mv ≤ nI 9 := fun q => absurd c33 q
          refine lv_iload_n hx hb dX4_game_48 rfl (lv_at hl 1 rfl) ?_
          refine lv_iconst (v := nI 2) hx hb dX4_game_49 (by decide) ?_
          refine lv_icmp_ne (tgt := 66) hx hb dX4_game_50 (by decide) (fun c50 => ?_) (fun c50 => ?_)
          · skip
            have h5 : kv = nI 2 → nI 0 ≤ xv ∧ xv ≤ nI 10 := fun q => absurd q c50
            have hex := gArg_of c6 c16 c27 h4 h5
            obtain ⟨d, hd⟩ := id hex
            refine lv_aload_n hx hb dX4_game_66 rfl (lv_at hl 0 rfl) ?_
            refine va_get (D := E.1) (ci := 4) (C := RX4) (T := TX4) (N := 11) hx hb hts hinX4 hown hE.1 hP 0 rfl rfl 9 (by decide) (hts (.fieldLink RX4 49 "StakeHouse" "held" "I") (by decide +kernel)) (fun _ h9 => h9) rfl dX4_game_67 ?_
            refine lv_iconst (v := nI 4) hx hb dX4_game_70 (by decide) ?_
            refine n_lt hx hb (by omega) (by omega) 77 dX4_game_71 (by decide) (fun c71 => ?_) (fun c71 => ?_)
            · skip
              have hK9 : gK d = 0 ∨ gK d = 1 ∨ gK d = 2 := by have := hd.1.1; omega
              refine lv_iload_n hx hb dX4_game_77 rfl (lv_at hl 1 rfl) ?_
              refine lv_iload_n hx hb dX4_game_78 rfl (lv_at hl 2 rfl) ?_
              refine lv_iload_n hx hb dX4_game_79 rfl (lv_at hl 3 rfl) ?_
              refine lv_iload hx hb dX4_game_80 (lv_at hl 4 rfl) ?_
              refine lv_iload hx hb dX4_game_82 (lv_at hl 5 rfl) ?_
              refine cW_r (va_runS ⟨hx, hb, hml, hown, hts⟩ (c_newGame l E _ d kv cv mv xv lv hd _) (va_cwS 5 hts gX4_game_X4_newGame rfl rfl rfl (by decide +kernel) ⟨Nat.le_of_ble_eq_true rfl, Nat.le_of_ble_eq_true rfl⟩) (ePw_S hP hD hE) rfl rfl hl.1 rfl (lv_room (Nat.le_of_ble_eq_true rfl)) dX4_game_84 ⟨Nat.le_of_ble_eq_true rfl, Nat.le_of_ble_eq_true rfl⟩) hS hD hA (fun r9 ws9 H locs hr9 hP hD hS => ?_)
              obtain ⟨b, hr9⟩ := hr9
              dsimp only at hr9
              subst hr9
              rw [List.append_assoc] at hP hD
              have hgo := (wX_rest (E := E) (ad := ad) (g := g) (hz := hz) (n := n) (mk := mk) (td := td) (gr := gr) (cf := cf) (ce := ce) (ck := ck) (rv := rv) (st := st) (wo := wo)).trans (app_2a rest (r9, gmE d b) (b, xI E 33 (fun _ => nI 0)))
              have hbo := (wX_rest (E := E) (ad := ad) (g := g) (hz := hz) (n := n) (mk := mk) (td := td) (gr := gr) (cf := cf) (ce := ce) (ck := ck) (rv := rv) (st := st) (wo := wo)).trans (app_2b rest (r9, gmE d b) (b, xI E 33 (fun _ => nI 0)))
              refine st_a2 hx hb 6 dX4_game_87 hl (by decide) rfl (fun ls hl => ?_)
              refine lv_aload hx hb dX4_game_89 (lv_at hl 6 rfl) ?_
              refine wCutH (fun _ : Unit => F0 m 94 ls []) (fun _ H locs => va_P E.1 vwCl (wX E ad g hz n mk td gr cf ce ck rv st wo ++ (rest ++ [(r9, gmE d b), (b, gnE E d)])) H ∧ va_D (va_A (wX E ad g hz n mk td gr cf ce ck rv st wo ++ rest) s.heap.size) (wX E ad g hz n mk td gr cf ce ck rv st wo ++ (rest ++ [(r9, gmE d b), (b, gnE E d)])) ∧ va_S (va_A (wX E ad g hz n mk td gr cf ce ck rv st wo ++ rest) s.heap.size) s.heap H locs) ?_ ?_
              · skip
                rintro ⟨⟩ H locs ⟨hP, hD, hS⟩
                refine lv_aload_n hx hb dX4_game_94 rfl (lv_at hl 0 rfl) ?_
                refine va_get (D := E.1) (ci := 4) (C := RX4) (T := TX4) (N := 11) hx hb hts hinX4 hown hE.1 hP 0 rfl rfl 0 (by decide) (hts (.fieldLink RX4 11 "StakeHouse" "games" "[LStakeHouse$EvenGame;") (by decide +kernel)) (fun _ h9 => h9) rfl dX4_game_95 ?_
                refine lv_aload_n hx hb dX4_game_98 rfl (lv_at hl 0 rfl) ?_
                refine va_get (D := E.1) (ci := 4) (C := RX4) (T := TX4) (N := 11) hx hb hts hinX4 hown hE.1 hP 0 rfl rfl 9 (by decide) (hts (.fieldLink RX4 49 "StakeHouse" "held" "I") (by decide +kernel)) (fun _ h9 => h9) rfl dX4_game_99 ?_
                refine lv_aload hx hb dX4_game_102 (lv_at hl 6 rfl) ?_
                refine ast_game hx hb hE hP hD hS (x := 1) rfl (wX_rest.trans (app_2a rest (r9, gmE d b) (b, gnE E d))) c71 dX4_game_104 (fun H locs hP hD hS => ?_)
                have hP : va_P E.1 vwCl (wX E ad g hz n mk td (va_up gr n (some r9)) cf ce ck rv st wo ++ (rest ++ [(r9, gmE d b), (b, gnE E d)])) H := hP
                have hD : va_D (va_A (wX E ad g hz n mk td gr cf ce ck rv st wo ++ rest) s.heap.size) (wX E ad g hz n mk td (va_up gr n (some r9)) cf ce ck rv st wo ++ (rest ++ [(r9, gmE d b), (b, gnE E d)])) := hD
                refine lv_aload_n hx hb dX4_game_105 rfl (lv_at hl 0 rfl) ?_
                refine lv_dup hx hb dX4_game_106 rfl ?_
                refine va_get (D := E.1) (ci := 4) (C := RX4) (T := TX4) (N := 11) hx hb hts hinX4 hown hE.1 hP 0 rfl rfl 9 (by decide) (hts (.fieldLink RX4 49 "StakeHouse" "held" "I") (by decide +kernel)) (fun _ h9 => h9) rfl dX4_game_107 ?_
                refine lv_iconst (v := nI 1) hx hb dX4_game_110 (by decide) ?_
                refine lv_iadd hx hb dX4_game_111 ?_
                refine tp_i (nI_add _ _) ?_
                refine va_put (D := E.1) (ci := 4) (ty := .int) (C := RX4) (T := TX4) (N := 11) hx hb hts hinX4 tyX4 tyX4_ok nmX4 hown hE.1 hP hD hS 0 rfl rfl 9 (by decide) (hts (.fieldLink RX4 49 "StakeHouse" "held" "I") (by decide +kernel)) (fun _ h9 => h9) rfl (by decide +kernel) rfl rfl (Nat.le_of_ble_eq_true rfl) dX4_game_112 (fun H locs hP hD hS => ?_)
                have hP : va_P E.1 vwCl (wX E ad g hz (n + 1) mk td (va_up gr n (some r9)) cf ce ck rv st wo ++ (rest ++ [(r9, gmE d b), (b, gnE E d)])) H := hP
                have hD : va_D (va_A (wX E ad g hz n mk td gr cf ce ck rv st wo ++ rest) s.heap.size) (wX E ad g hz (n + 1) mk td (va_up gr n (some r9)) cf ce ck rv st wo ++ (rest ++ [(r9, gmE d b), (b, gnE E d)])) := hD
                refine lv_aload_n hx hb dX4_game_115 rfl (lv_at hl 0 rfl) ?_
                refine cW_v (va_runV ⟨hx, hb, hml, hown, hts⟩ (c_forgetCharts l E ad g hz (n + 1) mk td (va_up gr n (some r9)) cf ce ck rv st wo (rest ++ [(r9, gmE d b), (b, gnE E d)]) _) (cwV 0 hts gX4_game_X4_forgetCharts rfl rfl rfl (by decide +kernel) ⟨Nat.le_of_ble_eq_true rfl, Nat.le_of_ble_eq_true rfl⟩) (ePw_V hP hD hE (ci := 4) (k := 0) rfl rfl) rfl rfl hl.1 rfl (lv_room (Nat.le_of_ble_eq_true rfl)) dX4_game_116 ⟨Nat.le_of_ble_eq_true rfl, Nat.le_of_ble_eq_true rfl⟩) hS hD hA (fun ws9 H locs hr9 hP hD hS => ?_)
                subst hr9
                refine lv_aload_n hx hb dX4_game_119 rfl (lv_at hl 0 rfl) ?_
                refine va_get (D := E.1) (ci := 4) (C := RX4) (T := TX4) (N := 11) hx hb hts hinX4 hown hE.1 hP 0 rfl rfl 9 (by decide) (hts (.fieldLink RX4 49 "StakeHouse" "held" "I") (by decide +kernel)) (fun _ h9 => h9) rfl dX4_game_120 ?_
                refine lv_iconst (v := nI 1) hx hb dX4_game_123 (by decide) ?_
                refine lv_isub hx hb dX4_game_124 ?_
                refine tp_i (show _ = nI n from nI_pred n) ?_
                exact ret_Wi hx hb hr hlocks dX4_game_125 hP hD hS (Or.inr (Or.inr ⟨d, r9, b, hd, c71, rfl, rfl⟩))
              · skip
                intro K
                rcases hK9 with hk | hk | hk
                · skip
                  have hg1 := hgo.trans (congrArg (fun e => some (r9, e)) (gmE_0 (b := b) hk))
                  refine cW_v (va_runV ⟨hx, hb, hml, hown, hts⟩ (c_keepGains l E _ (52 + rest.length) r9 b d hd.1 hgo (52 + (rest.length + 1)) (by omega) hbo _) (cwV 0 hts gX4_game_X1_keepGains rfl rfl rfl (by decide +kernel) ⟨Nat.le_of_ble_eq_true rfl, Nat.le_of_ble_eq_true rfl⟩) (ePw_V hP hD hE (ci := 1) (k := (52 + rest.length)) rfl hg1) rfl rfl hl.1 rfl (lv_room (Nat.le_of_ble_eq_true rfl)) dX4_game_91 ⟨Nat.le_of_ble_eq_true rfl, Nat.le_of_ble_eq_true rfl⟩) hS hD hA (fun ws9 H locs hr9 hP hD hS => ?_)
                  subst hr9
                  rw [wX_setRest, app_s2] at hP hD
                  exact K () H locs ⟨hP, hD, hS⟩
                · skip
                  have hg1 := hgo.trans (congrArg (fun e => some (r9, e)) (gmE_1 (b := b) hk))
                  refine cW_v (va_runU (x := ⟨"StakeHouse$EvenGame", "keepGains", "()V"⟩) ⟨hx, hb, hml, hown, hts⟩ (c_keepGains l E _ (52 + rest.length) r9 b d hd.1 hgo (52 + (rest.length + 1)) (by omega) hbo _) (va_cwU 0 hts gX4_game_X1_keepGains_u68X2 rfl rfl rfl rfl (by decide +kernel) ⟨Nat.le_of_ble_eq_true rfl, Nat.le_of_ble_eq_true rfl⟩) (ePw_V hP hD hE (ci := 2) (k := (52 + rest.length)) rfl hg1) rfl rfl hl.1 rfl (lv_room (Nat.le_of_ble_eq_true rfl)) dX4_game_91 ⟨Nat.le_of_ble_eq_true rfl, Nat.le_of_ble_eq_true rfl⟩) hS hD hA (fun ws9 H locs hr9 hP hD hS => ?_)
                  subst hr9
                  rw [wX_setRest, app_s2] at hP hD
                  exact K () H locs ⟨hP, hD, hS⟩
                · skip
                  have hg1 := hgo.trans (congrArg (fun e => some (r9, e)) (gmE_2 (b := b) hk))
                  refine cW_v (va_runU (x := ⟨"StakeHouse$EvenGame", "keepGains", "()V"⟩) ⟨hx, hb, hml, hown, hts⟩ (c_keepGains l E _ (52 + rest.length) r9 b d hd.1 hgo (52 + (rest.length + 1)) (by omega) hbo _) (va_cwU 0 hts gX4_game_X1_keepGains_u68X3 rfl rfl rfl rfl (by decide +kernel) ⟨Nat.le_of_ble_eq_true rfl, Nat.le_of_ble_eq_true rfl⟩) (ePw_V hP hD hE (ci := 3) (k := (52 + rest.length)) rfl hg1) rfl rfl hl.1 rfl (lv_room (Nat.le_of_ble_eq_true rfl)) dX4_game_91 ⟨Nat.le_of_ble_eq_true rfl, Nat.le_of_ble_eq_true rfl⟩) hS hD hA (fun ws9 H locs hr9 hP hD hS => ?_)
                  subst hr9
                  rw [wX_setRest, app_s2] at hP hD
                  exact K () H locs ⟨hP, hD, hS⟩
            · skip
              refine lv_bipush (v := (-3)) hx hb dX4_game_74 (by decide) ?_
              refine W.widen (k := 2) (n := 38) (by decide) (by decide) ?_
              exact ret_Wi hx hb hr hlocks dX4_game_76 hP hD hS (Or.inr (Or.inl ⟨hex, by omega, rfl, rfl⟩))
          · skip
            refine lv_iload hx hb dX4_game_53 (lv_at hl 4 rfl) ?_
            refine lv_iconst (v := nI 0) hx hb dX4_game_55 (by decide) ?_
            refine lv_bipush (v := nI 10) hx hb dX4_game_56 (by decide) ?_
            refine vp_callSi (W.runS ⟨hx, hb, hml, hown, hts⟩ (c_within l E _ _ _ _) (va_cwS 3 hts gX4_game_X4_within rfl rfl rfl (by decide +kernel) ⟨Nat.le_of_ble_eq_true rfl, Nat.le_of_ble_eq_true rfl⟩) (ePu_S hP hE) rfl rfl hl.1 rfl (lv_room (Nat.le_of_ble_eq_true rfl)) dX4_game_58 ⟨Nat.zero_le _, Nat.zero_le _⟩) (fun r9 hr9 => ?_)
            subst hr9
            refine q_ne hx hb 66 dX4_game_61 (by decide) (fun c61 => ?_) (fun c61 => ?_)
            · skip
              have h5 : kv = nI 2 → nI 0 ≤ xv ∧ xv ≤ nI 10 := fun _ => c61
              have hex := gArg_of c6 c16 c27 h4 h5
              obtain ⟨d, hd⟩ := id hex
              refine lv_aload_n hx hb dX4_game_66 rfl (lv_at hl 0 rfl) ?_
              refine va_get (D := E.1) (ci := 4) (C := RX4) (T := TX4) (N := 11) hx hb hts hinX4 hown hE.1 hP 0 rfl rfl 9 (by decide) (hts (.fieldLink RX4 49 "StakeHouse" "held" "I") (by decide +kernel)) (fun _ h9 => h9) rfl dX4_game_67 ?_
              refine lv_iconst (v := nI 4) hx hb dX4_game_70 (by decide) ?_
              refine n_lt hx hb (by omega) (by omega) 77 dX4_game_71 (by decide) (fun c71 => ?_) (fun c71 => ?_)
              · skip
                have hK9 : gK d = 0 ∨ gK d = 1 ∨ gK d = 2 := by have := hd.1.1; omega
                refine lv_iload_n hx hb dX4_game_77 rfl (lv_at hl 1 rfl) ?_
                refine lv_iload_n hx hb dX4_game_78 rfl (lv_at hl 2 rfl) ?_
                refine lv_iload_n hx hb dX4_game_79 rfl (lv_at hl 3 rfl) ?_
                refine lv_iload hx hb dX4_game_80 (lv_at hl 4 rfl) ?_
                refine lv_iload hx hb dX4_game_82 (lv_at hl 5 rfl) ?_
                refine cW_r (va_runS ⟨hx, hb, hml, hown, hts⟩ (c_newGame l E _ d kv cv mv xv lv hd _) (va_cwS 5 hts gX4_game_X4_newGame rfl rfl rfl (by decide +kernel) ⟨Nat.le_of_ble_eq_true rfl, Nat.le_of_ble_eq_true rfl⟩) (ePw_S hP hD hE) rfl rfl hl.1 rfl (lv_room (Nat.le_of_ble_eq_true rfl)) dX4_game_84 ⟨Nat.le_of_ble_eq_true rfl, Nat.le_of_ble_eq_true rfl⟩) hS hD hA (fun r9 ws9 H locs hr9 hP hD hS => ?_)
                obtain ⟨b, hr9⟩ := hr9
                dsimp only at hr9
                subst hr9
                rw [List.append_assoc] at hP hD
                have hgo := (wX_rest (E := E) (ad := ad) (g := g) (hz := hz) (n := n) (mk := mk) (td := td) (gr := gr) (cf := cf) (ce := ce) (ck := ck) (rv := rv) (st := st) (wo := wo)).trans (app_2a rest (r9, gmE d b) (b, xI E 33 (fun _ => nI 0)))
                have hbo := (wX_rest (E := E) (ad := ad) (g := g) (hz := hz) (n := n) (mk := mk) (td := td) (gr := gr) (cf := cf) (ce := ce) (ck := ck) (rv := rv) (st := st) (wo := wo)).trans (app_2b rest (r9, gmE d b) (b, xI E 33 (fun _ => nI 0)))
                refine st_a2 hx hb 6 dX4_game_87 hl (by decide) rfl (fun ls hl => ?_)
                refine lv_aload hx hb dX4_game_89 (lv_at hl 6 rfl) ?_
                refine wCutH (fun _ : Unit => F0 m 94 ls []) (fun _ H locs => va_P E.1 vwCl (wX E ad g hz n mk td gr cf ce ck rv st wo ++ (rest ++ [(r9, gmE d b), (b, gnE E d)])) H ∧ va_D (va_A (wX E ad g hz n mk td gr cf ce ck rv st wo ++ rest) s.heap.size) (wX E ad g hz n mk td gr cf ce ck rv st wo ++ (rest ++ [(r9, gmE d b), (b, gnE E d)])) ∧ va_S (va_A (wX E ad g hz n mk td gr cf ce ck rv st wo ++ rest) s.heap.size) s.heap H locs) ?_ ?_
                · skip
                  rintro ⟨⟩ H locs ⟨hP, hD, hS⟩
                  refine lv_aload_n hx hb dX4_game_94 rfl (lv_at hl 0 rfl) ?_
                  refine va_get (D := E.1) (ci := 4) (C := RX4) (T := TX4) (N := 11) hx hb hts hinX4 hown hE.1 hP 0 rfl rfl 0 (by decide) (hts (.fieldLink RX4 11 "StakeHouse" "games" "[LStakeHouse$EvenGame;") (by decide +kernel)) (fun _ h9 => h9) rfl dX4_game_95 ?_
                  refine lv_aload_n hx hb dX4_game_98 rfl (lv_at hl 0 rfl) ?_
                  refine va_get (D := E.1) (ci := 4) (C := RX4) (T := TX4) (N := 11) hx hb hts hinX4 hown hE.1 hP 0 rfl rfl 9 (by decide) (hts (.fieldLink RX4 49 "StakeHouse" "held" "I") (by decide +kernel)) (fun _ h9 => h9) rfl dX4_game_99 ?_
                  refine lv_aload hx hb dX4_game_102 (lv_at hl 6 rfl) ?_
                  refine ast_game hx hb hE hP hD hS (x := 1) rfl (wX_rest.trans (app_2a rest (r9, gmE d b) (b, gnE E d))) c71 dX4_game_104 (fun H locs hP hD hS => ?_)
                  have hP : va_P E.1 vwCl (wX E ad g hz n mk td (va_up gr n (some r9)) cf ce ck rv st wo ++ (rest ++ [(r9, gmE d b), (b, gnE E d)])) H := hP
                  have hD : va_D (va_A (wX E ad g hz n mk td gr cf ce ck rv st wo ++ rest) s.heap.size) (wX E ad g hz n mk td (va_up gr n (some r9)) cf ce ck rv st wo ++ (rest ++ [(r9, gmE d b), (b, gnE E d)])) := hD
                  refine lv_aload_n hx hb dX4_game_105 rfl (lv_at hl 0 rfl) ?_
                  refine lv_dup hx hb dX4_game_106 rfl ?_
                  refine va_get (D := E.1) (ci := 4) (C := RX4) (T := TX4) (N := 11) hx hb hts hinX4 hown hE.1 hP 0 rfl rfl 9 (by decide) (hts (.fieldLink RX4 49 "StakeHouse" "held" "I") (by decide +kernel)) (fun _ h9 => h9) rfl dX4_game_107 ?_
                  refine lv_iconst (v := nI 1) hx hb dX4_game_110 (by decide) ?_
                  refine lv_iadd hx hb dX4_game_111 ?_
                  refine tp_i (nI_add _ _) ?_
                  refine va_put (D := E.1) (ci := 4) (ty := .int) (C := RX4) (T := TX4) (N := 11) hx hb hts hinX4 tyX4 tyX4_ok nmX4 hown hE.1 hP hD hS 0 rfl rfl 9 (by decide) (hts (.fieldLink RX4 49 "StakeHouse" "held" "I") (by decide +kernel)) (fun _ h9 => h9) rfl (by decide +kernel) rfl rfl (Nat.le_of_ble_eq_true rfl) dX4_game_112 (fun H locs hP hD hS => ?_)
                  have hP : va_P E.1 vwCl (wX E ad g hz (n + 1) mk td (va_up gr n (some r9)) cf ce ck rv st wo ++ (rest ++ [(r9, gmE d b), (b, gnE E d)])) H := hP
                  have hD : va_D (va_A (wX E ad g hz n mk td gr cf ce ck rv st wo ++ rest) s.heap.size) (wX E ad g hz (n + 1) mk td (va_up gr n (some r9)) cf ce ck rv st wo ++ (rest ++ [(r9, gmE d b), (b, gnE E d)])) := hD
                  refine lv_aload_n hx hb dX4_game_115 rfl (lv_at hl 0 rfl) ?_
                  refine cW_v (va_runV ⟨hx, hb, hml, hown, hts⟩ (c_forgetCharts l E ad g hz (n + 1) mk td (va_up gr n (some r9)) cf ce ck rv st wo (rest ++ [(r9, gmE d b), (b, gnE E d)]) _) (cwV 0 hts gX4_game_X4_forgetCharts rfl rfl rfl (by decide +kernel) ⟨Nat.le_of_ble_eq_true rfl, Nat.le_of_ble_eq_true rfl⟩) (ePw_V hP hD hE (ci := 4) (k := 0) rfl rfl) rfl rfl hl.1 rfl (lv_room (Nat.le_of_ble_eq_true rfl)) dX4_game_116 ⟨Nat.le_of_ble_eq_true rfl, Nat.le_of_ble_eq_true rfl⟩) hS hD hA (fun ws9 H locs hr9 hP hD hS => ?_)
                  subst hr9
                  refine lv_aload_n hx hb dX4_game_119 rfl (lv_at hl 0 rfl) ?_
                  refine va_get (D := E.1) (ci := 4) (C := RX4) (T := TX4) (N := 11) hx hb hts hinX4 hown hE.1 hP 0 rfl rfl 9 (by decide) (hts (.fieldLink RX4 49 "StakeHouse" "held" "I") (by decide +kernel)) (fun _ h9 => h9) rfl dX4_game_120 ?_
                  refine lv_iconst (v := nI 1) hx hb dX4_game_123 (by decide) ?_
                  refine lv_isub hx hb dX4_game_124 ?_
                  refine tp_i (show _ = nI n from nI_pred n) ?_
                  exact ret_Wi hx hb hr hlocks dX4_game_125 hP hD hS (Or.inr (Or.inr ⟨d, r9, b, hd, c71, rfl, rfl⟩))
                · skip
                  intro K
                  rcases hK9 with hk | hk | hk
                  · skip
                    have hg1 := hgo.trans (congrArg (fun e => some (r9, e)) (gmE_0 (b := b) hk))
                    refine cW_v (va_runV ⟨hx, hb, hml, hown, hts⟩ (c_keepGains l E _ (52 + rest.length) r9 b d hd.1 hgo (52 + (rest.length + 1)) (by omega) hbo _) (cwV 0 hts gX4_game_X1_keepGains rfl rfl rfl (by decide +kernel) ⟨Nat.le_of_ble_eq_true rfl, Nat.le_of_ble_eq_true rfl⟩) (ePw_V hP hD hE (ci := 1) (k := (52 + rest.length)) rfl hg1) rfl rfl hl.1 rfl (lv_room (Nat.le_of_ble_eq_true rfl)) dX4_game_91 ⟨Nat.le_of_ble_eq_true rfl, Nat.le_of_ble_eq_true rfl⟩) hS hD hA (fun ws9 H locs hr9 hP hD hS => ?_)
                    subst hr9
                    rw [wX_setRest, app_s2] at hP hD
                    exact K () H locs ⟨hP, hD, hS⟩
                  · skip
                    have hg1 := hgo.trans (congrArg (fun e => some (r9, e)) (gmE_1 (b := b) hk))
                    refine cW_v (va_runU (x := ⟨"StakeHouse$EvenGame", "keepGains", "()V"⟩) ⟨hx, hb, hml, hown, hts⟩ (c_keepGains l E _ (52 + rest.length) r9 b d hd.1 hgo (52 + (rest.length + 1)) (by omega) hbo _) (va_cwU 0 hts gX4_game_X1_keepGains_u68X2 rfl rfl rfl rfl (by decide +kernel) ⟨Nat.le_of_ble_eq_true rfl, Nat.le_of_ble_eq_true rfl⟩) (ePw_V hP hD hE (ci := 2) (k := (52 + rest.length)) rfl hg1) rfl rfl hl.1 rfl (lv_room (Nat.le_of_ble_eq_true rfl)) dX4_game_91 ⟨Nat.le_of_ble_eq_true rfl, Nat.le_of_ble_eq_true rfl⟩) hS hD hA (fun ws9 H locs hr9 hP hD hS => ?_)
                    subst hr9
                    rw [wX_setRest, app_s2] at hP hD
                    exact K () H locs ⟨hP, hD, hS⟩
                  · skip
                    have hg1 := hgo.trans (congrArg (fun e => some (r9, e)) (gmE_2 (b := b) hk))
                    refine cW_v (va_runU (x := ⟨"StakeHouse$EvenGame", "keepGains", "()V"⟩) ⟨hx, hb, hml, hown, hts⟩ (c_keepGains l E _ (52 + rest.length) r9 b d hd.1 hgo (52 + (rest.length + 1)) (by omega) hbo _) (va_cwU 0 hts gX4_game_X1_keepGains_u68X3 rfl rfl rfl rfl (by decide +kernel) ⟨Nat.le_of_ble_eq_true rfl, Nat.le_of_ble_eq_true rfl⟩) (ePw_V hP hD hE (ci := 3) (k := (52 + rest.length)) rfl hg1) rfl rfl hl.1 rfl (lv_room (Nat.le_of_ble_eq_true rfl)) dX4_game_91 ⟨Nat.le_of_ble_eq_true rfl, Nat.le_of_ble_eq_true rfl⟩) hS hD hA (fun ws9 H locs hr9 hP hD hS => ?_)
                    subst hr9
                    rw [wX_setRest, app_s2] at hP hD
                    exact K () H locs ⟨hP, hD, hS⟩
              · skip
                refine lv_bipush (v := (-3)) hx hb dX4_game_74 (by decide) ?_
                refine W.widen (k := 2) (n := 38) (by decide) (by decide) ?_
                exact ret_Wi hx hb hr hlocks dX4_game_76 hP hD hS (Or.inr (Or.inl ⟨hex, by omega, rfl, rfl⟩))
            · skip
              refine lv_iconst (v := (-1)) hx hb dX4_game_64 (by decide) ?_
              refine W.widen (k := 2) (n := 38) (by decide) (by decide) ?_
              exact ret_Wi hx hb hr hlocks dX4_game_65 hP hD hS (Or.inl ⟨fun ⟨d, hd⟩ => c61 ((gArg_1 hd).2.2.2.2 c50), rfl, rfl⟩)
        · skip
          refine lv_iload_n hx hb dX4_game_36 rfl (lv_at hl 3 rfl) ?_
          refine lv_iconst (v := nI 1) hx hb dX4_game_37 (by decide) ?_
          refine lv_bipush (v := nI 9) hx hb dX4_game_38 (by decide) ?_
          refine vp_callSi (W.runS ⟨hx, hb, hml, hown, hts⟩ (c_within l E _ _ _ _) (va_cwS 3 hts gX4_game_X4_within rfl rfl rfl (by decide +kernel) ⟨Nat.le_of_ble_eq_true rfl, Nat.le_of_ble_eq_true rfl⟩) (ePu_S hP hE) rfl rfl hl.1 rfl (lv_room (Nat.le_of_ble_eq_true rfl)) dX4_game_40 ⟨Nat.zero_le _, Nat.zero_le _⟩) (fun r9 hr9 => ?_)
          subst hr9
          refine q_ne hx hb 48 dX4_game_43 (by decide) (fun c43 => ?_) (fun c43 => ?_)
          · skip
            have h4 : kv ≠ 0 → nI 1 ≤ mv ∧ mv ≤ nI 9 := fun _ => c43
            refine lv_iload_n hx hb dX4_game_48 rfl (lv_at hl 1 rfl) ?_
            refine lv_iconst (v := nI 2) hx hb dX4_game_49 (by decide) ?_
            refine lv_icmp_ne (tgt := 66) hx hb dX4_game_50 (by decide) (fun c50 => ?_) (fun c50 => ?_)
            · skip
              have h5 : kv = nI 2 → nI 0 ≤ xv ∧ xv ≤ nI 10 := fun q => absurd q c50
              have hex := gArg_of c6 c16 c27 h4 h5
              obtain ⟨d, hd⟩ := id hex
              refine lv_aload_n hx hb dX4_game_66 rfl (lv_at hl 0 rfl) ?_
              refine va_get (D := E.1) (ci := 4) (C := RX4) (T := TX4) (N := 11) hx hb hts hinX4 hown hE.1 hP 0 rfl rfl 9 (by decide) (hts (.fieldLink RX4 49 "StakeHouse" "held" "I") (by decide +kernel)) (fun _ h9 => h9) rfl dX4_game_67 ?_
              refine lv_iconst (v := nI 4) hx hb dX4_game_70 (by decide) ?_
              refine n_lt hx hb (by omega) (by omega) 77 dX4_game_71 (by decide) (fun c71 => ?_) (fun c71 => ?_)
              · skip
                have hK9 : gK d = 0 ∨ gK d = 1 ∨ gK d = 2 := by have := hd.1.1; omega
                refine lv_iload_n hx hb dX4_game_77 rfl (lv_at hl 1 rfl) ?_
                refine lv_iload_n hx hb dX4_game_78 rfl (lv_at hl 2 rfl) ?_
                refine lv_iload_n hx hb dX4_game_79 rfl (lv_at hl 3 rfl) ?_
                refine lv_iload hx hb dX4_game_80 (lv_at hl 4 rfl) ?_
                refine lv_iload hx hb dX4_game_82 (lv_at hl 5 rfl) ?_
                refine cW_r (va_runS ⟨hx, hb, hml, hown, hts⟩ (c_newGame l E _ d kv cv mv xv lv hd _) (va_cwS 5 hts gX4_game_X4_newGame rfl rfl rfl (by decide +kernel) ⟨Nat.le_of_ble_eq_true rfl, Nat.le_of_ble_eq_true rfl⟩) (ePw_S hP hD hE) rfl rfl hl.1 rfl (lv_room (Nat.le_of_ble_eq_true rfl)) dX4_game_84 ⟨Nat.le_of_ble_eq_true rfl, Nat.le_of_ble_eq_true rfl⟩) hS hD hA (fun r9 ws9 H locs hr9 hP hD hS => ?_)
                obtain ⟨b, hr9⟩ := hr9
                dsimp only at hr9
                subst hr9
                rw [List.append_assoc] at hP hD
                have hgo := (wX_rest (E := E) (ad := ad) (g := g) (hz := hz) (n := n) (mk := mk) (td := td) (gr := gr) (cf := cf) (ce := ce) (ck := ck) (rv := rv) (st := st) (wo := wo)).trans (app_2a rest (r9, gmE d b) (b, xI E 33 (fun _ => nI 0)))
                have hbo := (wX_rest (E := E) (ad := ad) (g := g) (hz := hz) (n := n) (mk := mk) (td := td) (gr := gr) (cf := cf) (ce := ce) (ck := ck) (rv := rv) (st := st) (wo := wo)).trans (app_2b rest (r9, gmE d b) (b, xI E 33 (fun _ => nI 0)))
                refine st_a2 hx hb 6 dX4_game_87 hl (by decide) rfl (fun ls hl => ?_)
                refine lv_aload hx hb dX4_game_89 (lv_at hl 6 rfl) ?_
                refine wCutH (fun _ : Unit => F0 m 94 ls []) (fun _ H locs => va_P E.1 vwCl (wX E ad g hz n mk td gr cf ce ck rv st wo ++ (rest ++ [(r9, gmE d b), (b, gnE E d)])) H ∧ va_D (va_A (wX E ad g hz n mk td gr cf ce ck rv st wo ++ rest) s.heap.size) (wX E ad g hz n mk td gr cf ce ck rv st wo ++ (rest ++ [(r9, gmE d b), (b, gnE E d)])) ∧ va_S (va_A (wX E ad g hz n mk td gr cf ce ck rv st wo ++ rest) s.heap.size) s.heap H locs) ?_ ?_
                · skip
                  rintro ⟨⟩ H locs ⟨hP, hD, hS⟩
                  refine lv_aload_n hx hb dX4_game_94 rfl (lv_at hl 0 rfl) ?_
                  refine va_get (D := E.1) (ci := 4) (C := RX4) (T := TX4) (N := 11) hx hb hts hinX4 hown hE.1 hP 0 rfl rfl 0 (by decide) (hts (.fieldLink RX4 11 "StakeHouse" "games" "[LStakeHouse$EvenGame;") (by decide +kernel)) (fun _ h9 => h9) rfl dX4_game_95 ?_
                  refine lv_aload_n hx hb dX4_game_98 rfl (lv_at hl 0 rfl) ?_
                  refine va_get (D := E.1) (ci := 4) (C := RX4) (T := TX4) (N := 11) hx hb hts hinX4 hown hE.1 hP 0 rfl rfl 9 (by decide) (hts (.fieldLink RX4 49 "StakeHouse" "held" "I") (by decide +kernel)) (fun _ h9 => h9) rfl dX4_game_99 ?_
                  refine lv_aload hx hb dX4_game_102 (lv_at hl 6 rfl) ?_
                  refine ast_game hx hb hE hP hD hS (x := 1) rfl (wX_rest.trans (app_2a rest (r9, gmE d b) (b, gnE E d))) c71 dX4_game_104 (fun H locs hP hD hS => ?_)
                  have hP : va_P E.1 vwCl (wX E ad g hz n mk td (va_up gr n (some r9)) cf ce ck rv st wo ++ (rest ++ [(r9, gmE d b), (b, gnE E d)])) H := hP
                  have hD : va_D (va_A (wX E ad g hz n mk td gr cf ce ck rv st wo ++ rest) s.heap.size) (wX E ad g hz n mk td (va_up gr n (some r9)) cf ce ck rv st wo ++ (rest ++ [(r9, gmE d b), (b, gnE E d)])) := hD
                  refine lv_aload_n hx hb dX4_game_105 rfl (lv_at hl 0 rfl) ?_
                  refine lv_dup hx hb dX4_game_106 rfl ?_
                  refine va_get (D := E.1) (ci := 4) (C := RX4) (T := TX4) (N := 11) hx hb hts hinX4 hown hE.1 hP 0 rfl rfl 9 (by decide) (hts (.fieldLink RX4 49 "StakeHouse" "held" "I") (by decide +kernel)) (fun _ h9 => h9) rfl dX4_game_107 ?_
                  refine lv_iconst (v := nI 1) hx hb dX4_game_110 (by decide) ?_
                  refine lv_iadd hx hb dX4_game_111 ?_
                  refine tp_i (nI_add _ _) ?_
                  refine va_put (D := E.1) (ci := 4) (ty := .int) (C := RX4) (T := TX4) (N := 11) hx hb hts hinX4 tyX4 tyX4_ok nmX4 hown hE.1 hP hD hS 0 rfl rfl 9 (by decide) (hts (.fieldLink RX4 49 "StakeHouse" "held" "I") (by decide +kernel)) (fun _ h9 => h9) rfl (by decide +kernel) rfl rfl (Nat.le_of_ble_eq_true rfl) dX4_game_112 (fun H locs hP hD hS => ?_)
                  have hP : va_P E.1 vwCl (wX E ad g hz (n + 1) mk td (va_up gr n (some r9)) cf ce ck rv st wo ++ (rest ++ [(r9, gmE d b), (b, gnE E d)])) H := hP
                  have hD : va_D (va_A (wX E ad g hz n mk td gr cf ce ck rv st wo ++ rest) s.heap.size) (wX E ad g hz (n + 1) mk td (va_up gr n (some r9)) cf ce ck rv st wo ++ (rest ++ [(r9, gmE d b), (b, gnE E d)])) := hD
                  refine lv_aload_n hx hb dX4_game_115 rfl (lv_at hl 0 rfl) ?_
                  refine cW_v (va_runV ⟨hx, hb, hml, hown, hts⟩ (c_forgetCharts l E ad g hz (n + 1) mk td (va_up gr n (some r9)) cf ce ck rv st wo (rest ++ [(r9, gmE d b), (b, gnE E d)]) _) (cwV 0 hts gX4_game_X4_forgetCharts rfl rfl rfl (by decide +kernel) ⟨Nat.le_of_ble_eq_true rfl, Nat.le_of_ble_eq_true rfl⟩) (ePw_V hP hD hE (ci := 4) (k := 0) rfl rfl) rfl rfl hl.1 rfl (lv_room (Nat.le_of_ble_eq_true rfl)) dX4_game_116 ⟨Nat.le_of_ble_eq_true rfl, Nat.le_of_ble_eq_true rfl⟩) hS hD hA (fun ws9 H locs hr9 hP hD hS => ?_)
                  subst hr9
                  refine lv_aload_n hx hb dX4_game_119 rfl (lv_at hl 0 rfl) ?_
                  refine va_get (D := E.1) (ci := 4) (C := RX4) (T := TX4) (N := 11) hx hb hts hinX4 hown hE.1 hP 0 rfl rfl 9 (by decide) (hts (.fieldLink RX4 49 "StakeHouse" "held" "I") (by decide +kernel)) (fun _ h9 => h9) rfl dX4_game_120 ?_
                  refine lv_iconst (v := nI 1) hx hb dX4_game_123 (by decide) ?_
                  refine lv_isub hx hb dX4_game_124 ?_
                  refine tp_i (show _ = nI n from nI_pred n) ?_
                  exact ret_Wi hx hb hr hlocks dX4_game_125 hP hD hS (Or.inr (Or.inr ⟨d, r9, b, hd, c71, rfl, rfl⟩))
                · skip
                  intro K
                  rcases hK9 with hk | hk | hk
                  · skip
                    have hg1 := hgo.trans (congrArg (fun e => some (r9, e)) (gmE_0 (b := b) hk))
                    refine cW_v (va_runV ⟨hx, hb, hml, hown, hts⟩ (c_keepGains l E _ (52 + rest.length) r9 b d hd.1 hgo (52 + (rest.length + 1)) (by omega) hbo _) (cwV 0 hts gX4_game_X1_keepGains rfl rfl rfl (by decide +kernel) ⟨Nat.le_of_ble_eq_true rfl, Nat.le_of_ble_eq_true rfl⟩) (ePw_V hP hD hE (ci := 1) (k := (52 + rest.length)) rfl hg1) rfl rfl hl.1 rfl (lv_room (Nat.le_of_ble_eq_true rfl)) dX4_game_91 ⟨Nat.le_of_ble_eq_true rfl, Nat.le_of_ble_eq_true rfl⟩) hS hD hA (fun ws9 H locs hr9 hP hD hS => ?_)
                    subst hr9
                    rw [wX_setRest, app_s2] at hP hD
                    exact K () H locs ⟨hP, hD, hS⟩
                  · skip
                    have hg1 := hgo.trans (congrArg (fun e => some (r9, e)) (gmE_1 (b := b) hk))
                    refine cW_v (va_runU (x := ⟨"StakeHouse$EvenGame", "keepGains", "()V"⟩) ⟨hx, hb, hml, hown, hts⟩ (c_keepGains l E _ (52 + rest.length) r9 b d hd.1 hgo (52 + (rest.length + 1)) (by omega) hbo _) (va_cwU 0 hts gX4_game_X1_keepGains_u68X2 rfl rfl rfl rfl (by decide +kernel) ⟨Nat.le_of_ble_eq_true rfl, Nat.le_of_ble_eq_true rfl⟩) (ePw_V hP hD hE (ci := 2) (k := (52 + rest.length)) rfl hg1) rfl rfl hl.1 rfl (lv_room (Nat.le_of_ble_eq_true rfl)) dX4_game_91 ⟨Nat.le_of_ble_eq_true rfl, Nat.le_of_ble_eq_true rfl⟩) hS hD hA (fun ws9 H locs hr9 hP hD hS => ?_)
                    subst hr9
                    rw [wX_setRest, app_s2] at hP hD
                    exact K () H locs ⟨hP, hD, hS⟩
                  · skip
                    have hg1 := hgo.trans (congrArg (fun e => some (r9, e)) (gmE_2 (b := b) hk))
                    refine cW_v (va_runU (x := ⟨"StakeHouse$EvenGame", "keepGains", "()V"⟩) ⟨hx, hb, hml, hown, hts⟩ (c_keepGains l E _ (52 + rest.length) r9 b d hd.1 hgo (52 + (rest.length + 1)) (by omega) hbo _) (va_cwU 0 hts gX4_game_X1_keepGains_u68X3 rfl rfl rfl rfl (by decide +kernel) ⟨Nat.le_of_ble_eq_true rfl, Nat.le_of_ble_eq_true rfl⟩) (ePw_V hP hD hE (ci := 3) (k := (52 + rest.length)) rfl hg1) rfl rfl hl.1 rfl (lv_room (Nat.le_of_ble_eq_true rfl)) dX4_game_91 ⟨Nat.le_of_ble_eq_true rfl, Nat.le_of_ble_eq_true rfl⟩) hS hD hA (fun ws9 H locs hr9 hP hD hS => ?_)
                    subst hr9
                    rw [wX_setRest, app_s2] at hP hD
                    exact K () H locs ⟨hP, hD, hS⟩
              · skip
                refine lv_bipush (v := (-3)) hx hb dX4_game_74 (by decide) ?_
                refine W.widen (k := 2) (n := 38) (by decide) (by decide) ?_
                exact ret_Wi hx hb hr hlocks dX4_game_76 hP hD hS (Or.inr (Or.inl ⟨hex, by omega, rfl, rfl⟩))
            · skip
              refine lv_iload hx hb dX4_game_53 (lv_at hl 4 rfl) ?_
              refine lv_iconst (v := nI 0) hx hb dX4_game_55 (by decide) ?_
              refine lv_bipush (v := nI 10) hx hb dX4_game_56 (by decide) ?_
              refine vp_callSi (W.runS ⟨hx, hb, hml, hown, hts⟩ (c_within l E _ _ _ _) (va_cwS 3 hts gX4_game_X4_within rfl rfl rfl (by decide +kernel) ⟨Nat.le_of_ble_eq_true rfl, Nat.le_of_ble_eq_true rfl⟩) (ePu_S hP hE) rfl rfl hl.1 rfl (lv_room (Nat.le_of_ble_eq_true rfl)) dX4_game_58 ⟨Nat.zero_le _, Nat.zero_le _⟩) (fun r9 hr9 => ?_)
              subst hr9
              refine q_ne hx hb 66 dX4_game_61 (by decide) (fun c61 => ?_) (fun c61 => ?_)
              · skip
                have h5 : kv = nI 2 → nI 0 ≤ xv ∧ xv ≤ nI 10 := fun _ => c61
                have hex := gArg_of c6 c16 c27 h4 h5
                obtain ⟨d, hd⟩ := id hex
                refine lv_aload_n hx hb dX4_game_66 rfl (lv_at hl 0 rfl) ?_
                refine va_get (D := E.1) (ci := 4) (C := RX4) (T := TX4) (N := 11) hx hb hts hinX4 hown hE.1 hP 0 rfl rfl 9 (by decide) (hts (.fieldLink RX4 49 "StakeHouse" "held" "I") (by decide +kernel)) (fun _ h9 => h9) rfl dX4_game_67 ?_
                refine lv_iconst (v := nI 4) hx hb dX4_game_70 (by decide) ?_
                refine n_lt hx hb (by omega) (by omega) 77 dX4_game_71 (by decide) (fun c71 => ?_) (fun c71 => ?_)
                · skip
                  have hK9 : gK d = 0 ∨ gK d = 1 ∨ gK d = 2 := by have := hd.1.1; omega
                  refine lv_iload_n hx hb dX4_game_77 rfl (lv_at hl 1 rfl) ?_
                  refine lv_iload_n hx hb dX4_game_78 rfl (lv_at hl 2 rfl) ?_
                  refine lv_iload_n hx hb dX4_game_79 rfl (lv_at hl 3 rfl) ?_
                  refine lv_iload hx hb dX4_game_80 (lv_at hl 4 rfl) ?_
                  refine lv_iload hx hb dX4_game_82 (lv_at hl 5 rfl) ?_
                  refine cW_r (va_runS ⟨hx, hb, hml, hown, hts⟩ (c_newGame l E _ d kv cv mv xv lv hd _) (va_cwS 5 hts gX4_game_X4_newGame rfl rfl rfl (by decide +kernel) ⟨Nat.le_of_ble_eq_true rfl, Nat.le_of_ble_eq_true rfl⟩) (ePw_S hP hD hE) rfl rfl hl.1 rfl (lv_room (Nat.le_of_ble_eq_true rfl)) dX4_game_84 ⟨Nat.le_of_ble_eq_true rfl, Nat.le_of_ble_eq_true rfl⟩) hS hD hA (fun r9 ws9 H locs hr9 hP hD hS => ?_)
                  obtain ⟨b, hr9⟩ := hr9
                  dsimp only at hr9
                  subst hr9
                  rw [List.append_assoc] at hP hD
                  have hgo := (wX_rest (E := E) (ad := ad) (g := g) (hz := hz) (n := n) (mk := mk) (td := td) (gr := gr) (cf := cf) (ce := ce) (ck := ck) (rv := rv) (st := st) (wo := wo)).trans (app_2a rest (r9, gmE d b) (b, xI E 33 (fun _ => nI 0)))
                  have hbo := (wX_rest (E := E) (ad := ad) (g := g) (hz := hz) (n := n) (mk := mk) (td := td) (gr := gr) (cf := cf) (ce := ce) (ck := ck) (rv := rv) (st := st) (wo := wo)).trans (app_2b rest (r9, gmE d b) (b, xI E 33 (fun _ => nI 0)))
                  refine st_a2 hx hb 6 dX4_game_87 hl (by decide) rfl (fun ls hl => ?_)
                  refine lv_aload hx hb dX4_game_89 (lv_at hl 6 rfl) ?_
                  refine wCutH (fun _ : Unit => F0 m 94 ls []) (fun _ H locs => va_P E.1 vwCl (wX E ad g hz n mk td gr cf ce ck rv st wo ++ (rest ++ [(r9, gmE d b), (b, gnE E d)])) H ∧ va_D (va_A (wX E ad g hz n mk td gr cf ce ck rv st wo ++ rest) s.heap.size) (wX E ad g hz n mk td gr cf ce ck rv st wo ++ (rest ++ [(r9, gmE d b), (b, gnE E d)])) ∧ va_S (va_A (wX E ad g hz n mk td gr cf ce ck rv st wo ++ rest) s.heap.size) s.heap H locs) ?_ ?_
                  · skip
                    rintro ⟨⟩ H locs ⟨hP, hD, hS⟩
                    refine lv_aload_n hx hb dX4_game_94 rfl (lv_at hl 0 rfl) ?_
                    refine va_get (D := E.1) (ci := 4) (C := RX4) (T := TX4) (N := 11) hx hb hts hinX4 hown hE.1 hP 0 rfl rfl 0 (by decide) (hts (.fieldLink RX4 11 "StakeHouse" "games" "[LStakeHouse$EvenGame;") (by decide +kernel)) (fun _ h9 => h9) rfl dX4_game_95 ?_
                    refine lv_aload_n hx hb dX4_game_98 rfl (lv_at hl 0 rfl) ?_
                    refine va_get (D := E.1) (ci := 4) (C := RX4) (T := TX4) (N := 11) hx hb hts hinX4 hown hE.1 hP 0 rfl rfl 9 (by decide) (hts (.fieldLink RX4 49 "StakeHouse" "held" "I") (by decide +kernel)) (fun _ h9 => h9) rfl dX4_game_99 ?_
                    refine lv_aload hx hb dX4_game_102 (lv_at hl 6 rfl) ?_
                    refine ast_game hx hb hE hP hD hS (x := 1) rfl (wX_rest.trans (app_2a rest (r9, gmE d b) (b, gnE E d))) c71 dX4_game_104 (fun H locs hP hD hS => ?_)
                    have hP : va_P E.1 vwCl (wX E ad g hz n mk td (va_up gr n (some r9)) cf ce ck rv st wo ++ (rest ++ [(r9, gmE d b), (b, gnE E d)])) H := hP
                    have hD : va_D (va_A (wX E ad g hz n mk td gr cf ce ck rv st wo ++ rest) s.heap.size) (wX E ad g hz n mk td (va_up gr n (some r9)) cf ce ck rv st wo ++ (rest ++ [(r9, gmE d b), (b, gnE E d)])) := hD
                    refine lv_aload_n hx hb dX4_game_105 rfl (lv_at hl 0 rfl) ?_
                    refine lv_dup hx hb dX4_game_106 rfl ?_
                    refine va_get (D := E.1) (ci := 4) (C := RX4) (T := TX4) (N := 11) hx hb hts hinX4 hown hE.1 hP 0 rfl rfl 9 (by decide) (hts (.fieldLink RX4 49 "StakeHouse" "held" "I") (by decide +kernel)) (fun _ h9 => h9) rfl dX4_game_107 ?_
                    refine lv_iconst (v := nI 1) hx hb dX4_game_110 (by decide) ?_
                    refine lv_iadd hx hb dX4_game_111 ?_
                    refine tp_i (nI_add _ _) ?_
                    refine va_put (D := E.1) (ci := 4) (ty := .int) (C := RX4) (T := TX4) (N := 11) hx hb hts hinX4 tyX4 tyX4_ok nmX4 hown hE.1 hP hD hS 0 rfl rfl 9 (by decide) (hts (.fieldLink RX4 49 "StakeHouse" "held" "I") (by decide +kernel)) (fun _ h9 => h9) rfl (by decide +kernel) rfl rfl (Nat.le_of_ble_eq_true rfl) dX4_game_112 (fun H locs hP hD hS => ?_)
                    have hP : va_P E.1 vwCl (wX E ad g hz (n + 1) mk td (va_up gr n (some r9)) cf ce ck rv st wo ++ (rest ++ [(r9, gmE d b), (b, gnE E d)])) H := hP
                    have hD : va_D (va_A (wX E ad g hz n mk td gr cf ce ck rv st wo ++ rest) s.heap.size) (wX E ad g hz (n + 1) mk td (va_up gr n (some r9)) cf ce ck rv st wo ++ (rest ++ [(r9, gmE d b), (b, gnE E d)])) := hD
                    refine lv_aload_n hx hb dX4_game_115 rfl (lv_at hl 0 rfl) ?_
                    refine cW_v (va_runV ⟨hx, hb, hml, hown, hts⟩ (c_forgetCharts l E ad g hz (n + 1) mk td (va_up gr n (some r9)) cf ce ck rv st wo (rest ++ [(r9, gmE d b), (b, gnE E d)]) _) (cwV 0 hts gX4_game_X4_forgetCharts rfl rfl rfl (by decide +kernel) ⟨Nat.le_of_ble_eq_true rfl, Nat.le_of_ble_eq_true rfl⟩) (ePw_V hP hD hE (ci := 4) (k := 0) rfl rfl) rfl rfl hl.1 rfl (lv_room (Nat.le_of_ble_eq_true rfl)) dX4_game_116 ⟨Nat.le_of_ble_eq_true rfl, Nat.le_of_ble_eq_true rfl⟩) hS hD hA (fun ws9 H locs hr9 hP hD hS => ?_)
                    subst hr9
                    refine lv_aload_n hx hb dX4_game_119 rfl (lv_at hl 0 rfl) ?_
                    refine va_get (D := E.1) (ci := 4) (C := RX4) (T := TX4) (N := 11) hx hb hts hinX4 hown hE.1 hP 0 rfl rfl 9 (by decide) (hts (.fieldLink RX4 49 "StakeHouse" "held" "I") (by decide +kernel)) (fun _ h9 => h9) rfl dX4_game_120 ?_
                    refine lv_iconst (v := nI 1) hx hb dX4_game_123 (by decide) ?_
                    refine lv_isub hx hb dX4_game_124 ?_
                    refine tp_i (show _ = nI n from nI_pred n) ?_
                    exact ret_Wi hx hb hr hlocks dX4_game_125 hP hD hS (Or.inr (Or.inr ⟨d, r9, b, hd, c71, rfl, rfl⟩))
                  · skip
                    intro K
                    rcases hK9 with hk | hk | hk
                    · skip
                      have hg1 := hgo.trans (congrArg (fun e => some (r9, e)) (gmE_0 (b := b) hk))
                      refine cW_v (va_runV ⟨hx, hb, hml, hown, hts⟩ (c_keepGains l E _ (52 + rest.length) r9 b d hd.1 hgo (52 + (rest.length + 1)) (by omega) hbo _) (cwV 0 hts gX4_game_X1_keepGains rfl rfl rfl (by decide +kernel) ⟨Nat.le_of_ble_eq_true rfl, Nat.le_of_ble_eq_true rfl⟩) (ePw_V hP hD hE (ci := 1) (k := (52 + rest.length)) rfl hg1) rfl rfl hl.1 rfl (lv_room (Nat.le_of_ble_eq_true rfl)) dX4_game_91 ⟨Nat.le_of_ble_eq_true rfl, Nat.le_of_ble_eq_true rfl⟩) hS hD hA (fun ws9 H locs hr9 hP hD hS => ?_)
                      subst hr9
                      rw [wX_setRest, app_s2] at hP hD
                      exact K () H locs ⟨hP, hD, hS⟩
                    · skip
                      have hg1 := hgo.trans (congrArg (fun e => some (r9, e)) (gmE_1 (b := b) hk))
                      refine cW_v (va_runU (x := ⟨"StakeHouse$EvenGame", "keepGains", "()V"⟩) ⟨hx, hb, hml, hown, hts⟩ (c_keepGains l E _ (52 + rest.length) r9 b d hd.1 hgo (52 + (rest.length + 1)) (by omega) hbo _) (va_cwU 0 hts gX4_game_X1_keepGains_u68X2 rfl rfl rfl rfl (by decide +kernel) ⟨Nat.le_of_ble_eq_true rfl, Nat.le_of_ble_eq_true rfl⟩) (ePw_V hP hD hE (ci := 2) (k := (52 + rest.length)) rfl hg1) rfl rfl hl.1 rfl (lv_room (Nat.le_of_ble_eq_true rfl)) dX4_game_91 ⟨Nat.le_of_ble_eq_true rfl, Nat.le_of_ble_eq_true rfl⟩) hS hD hA (fun ws9 H locs hr9 hP hD hS => ?_)
                      subst hr9
                      rw [wX_setRest, app_s2] at hP hD
                      exact K () H locs ⟨hP, hD, hS⟩
                    · skip
                      have hg1 := hgo.trans (congrArg (fun e => some (r9, e)) (gmE_2 (b := b) hk))
                      refine cW_v (va_runU (x := ⟨"StakeHouse$EvenGame", "keepGains", "()V"⟩) ⟨hx, hb, hml, hown, hts⟩ (c_keepGains l E _ (52 + rest.length) r9 b d hd.1 hgo (52 + (rest.length + 1)) (by omega) hbo _) (va_cwU 0 hts gX4_game_X1_keepGains_u68X3 rfl rfl rfl rfl (by decide +kernel) ⟨Nat.le_of_ble_eq_true rfl, Nat.le_of_ble_eq_true rfl⟩) (ePw_V hP hD hE (ci := 3) (k := (52 + rest.length)) rfl hg1) rfl rfl hl.1 rfl (lv_room (Nat.le_of_ble_eq_true rfl)) dX4_game_91 ⟨Nat.le_of_ble_eq_true rfl, Nat.le_of_ble_eq_true rfl⟩) hS hD hA (fun ws9 H locs hr9 hP hD hS => ?_)
                      subst hr9
                      rw [wX_setRest, app_s2] at hP hD
                      exact K () H locs ⟨hP, hD, hS⟩
                · skip
                  refine lv_bipush (v := (-3)) hx hb dX4_game_74 (by decide) ?_
                  refine W.widen (k := 2) (n := 38) (by decide) (by decide) ?_
                  exact ret_Wi hx hb hr hlocks dX4_game_76 hP hD hS (Or.inr (Or.inl ⟨hex, by omega, rfl, rfl⟩))
              · skip
                refine lv_iconst (v := (-1)) hx hb dX4_game_64 (by decide) ?_
                refine W.widen (k := 2) (n := 38) (by decide) (by decide) ?_
                exact ret_Wi hx hb hr hlocks dX4_game_65 hP hD hS (Or.inl ⟨fun ⟨d, hd⟩ => c61 ((gArg_1 hd).2.2.2.2 c50), rfl, rfl⟩)
          · skip
            refine lv_iconst (v := (-1)) hx hb dX4_game_46 (by decide) ?_
            refine W.widen (k := 2) (n := 38) (by decide) (by decide) ?_
            exact ret_Wi hx hb hr hlocks dX4_game_47 hP hD hS (Or.inl ⟨fun ⟨d, hd⟩ => c43 ((gArg_1 hd).2.2.2.1 c33), rfl, rfl⟩)
      · skip
        refine lv_iconst (v := (-1)) hx hb dX4_game_30 (by decide) ?_
        refine W.widen (k := 2) (n := 38) (by decide) (by decide) ?_
        exact ret_Wi hx hb hr hlocks dX4_game_31 hP hD hS (Or.inl ⟨fun ⟨d, hd⟩ => c27 (gArg_1 hd).2.2.1, rfl, rfl⟩)
/-- win's answer, and the trace behind it -/
def win_of (n : Nat) (gd : Nat → gT) (mk : Int64) (iv sv : Int32) (r : Int32) (mk1 : Int64) : Prop := (∃ i st : Nat, iv = nI i ∧ sv = nI st ∧ i < n ∧ 1 ≤ st ∧ st ≤ 32 ∧ r = nI (gWin (gd i) st) ∧ mk1 = mk + lN (gMark (gd i))) ∨ ((¬ ∃ i st : Nat, iv = nI i ∧ sv = nI st ∧ i < n ∧ 1 ≤ st ∧ st ≤ 32) ∧ r = -1 ∧ mk1 = mk)
set_option maxHeartbeats 4000000 in
set_option maxRecDepth 100000 in
/-- win -/
theorem c_win (l : Launch) (E : eT) (ad : Nat → Nat) (g hz n : Nat) (mk : Int64) (td : Nat → Int32) (gr : Nat → Option Nat) (cf ce ck : Nat → Nat) (rv : Nat → Nat → Int64) (st : Nat → Int32) (wo : Nat → Nat → Int64) (rest : va_W) (hn : n ≤ 4) (pl ga gb : Nat → Nat) (gd : Nat → gT) (hGA : gAll E rest gr n pl ga gb gd) (iv sv : Int32) : mWi l yX4_win wsX4_win 3 75 0 0 E (wX E ad g hz n mk td gr cf ce ck rv st wo ++ rest) [.ref (ad 0), .int iv, .int sv] (fun r ws1 => ∃ mk1 : Int64, win_of n gd mk iv sv r mk1 ∧ ws1 = wX E ad g hz n mk1 td gr cf ce ck rv st wo ++ rest) := by
  intro sz
  refine mW_of (cc := cX4_win) (maxL := 4) (ret := (some .int)) (Qc := fun sz => va_Qi (fun r ws1 => ∃ mk1 : Int64, win_of n gd mk iv sv r mk1 ∧ ws1 = wX E ad g hz n mk1 td gr cf ce ck rv st wo ++ rest) (eAt E (va_A (wX E ad g hz n mk td gr cf ce ck rv st wo ++ rest) sz)) (va_A (wX E ad g hz n mk td gr cf ce ck rv st wo ++ rest) sz)) (by decide) rfl (Nat.le_of_ble_eq_true rfl) ?_
  intro p0 e0 s m below meth c0 ls hx hb hr hml hts hown hlocks hin hE hP hD hl
  have hS : va_S (va_A (wX E ad g hz n mk td gr cf ce ck rv st wo ++ rest) s.heap.size) s.heap s.heap [] := va_S.rf
  have hA : ∀ q, s.heap.size ≤ q → (va_A (wX E ad g hz n mk td gr cf ce ck rv st wo ++ rest) s.heap.size) q := fun q h => Or.inr h
  have hown : s.vm.findClass RX4 = some m.cls := hown
  have hl : lv_has ls 4 [(0, .ref (ad 0)), (1, .int iv), (2, .int sv)] := hl
  have hinX4 : ∀ w ∈ wsX40, w ∈ wsX4_win := by decide +kernel
  refine lv_aload_n hx hb dX4_win_0 rfl (lv_at hl 0 rfl) ?_
  refine lv_iload_n hx hb dX4_win_1 rfl (lv_at hl 1 rfl) ?_
  refine va_csq (W.runV ⟨hx, hb, hml, hown, hts⟩ (c_gameAt l E _ ad g hz n mk rfl hn gr rfl _) (cwV 1 hts gX4_win_X4_gameAt rfl rfl rfl (by decide +kernel) ⟨Nat.le_of_ble_eq_true rfl, Nat.le_of_ble_eq_true rfl⟩) (ePu_V hP hE (ci := 4) (k := 0) rfl rfl) rfl rfl hl.1 rfl (lv_room (Nat.le_of_ble_eq_true rfl)) dX4_win_2 ⟨Nat.zero_le _, Nat.zero_le _⟩) (fun r9 hr9 => ?_)
  by_cases hi9 : ∃ i : Nat, i < n ∧ iv = nI i
  · skip
    obtain ⟨i, hi, rfl⟩ := hi9
    have hr9 := gameAt_in hGA hn hi hr9
    subst hr9
    refine tp_r (show va_rf (some _) = .ref (ga i) from rfl) ?_
    refine st_a1 hx hb 3 dX4_win_5 rfl hl (by decide) rfl (fun ls hl => ?_)
    refine lv_aload_n hx hb dX4_win_6 rfl (lv_at hl 3 rfl) ?_
    refine lv_ifnull hx hb dX4_win_7 ?_
    refine lv_iload_n hx hb dX4_win_10 rfl (lv_at hl 2 rfl) ?_
    refine lv_iconst (v := nI 1) hx hb dX4_win_11 (by decide) ?_
    refine lv_bipush (v := nI 32) hx hb dX4_win_12 (by decide) ?_
    refine vp_callSi (W.runS ⟨hx, hb, hml, hown, hts⟩ (c_within l E _ _ _ _) (va_cwS 3 hts gX4_win_X4_within rfl rfl rfl (by decide +kernel) ⟨Nat.le_of_ble_eq_true rfl, Nat.le_of_ble_eq_true rfl⟩) (ePu_S hP hE) rfl rfl hl.1 rfl (lv_room (Nat.le_of_ble_eq_true rfl)) dX4_win_14 ⟨Nat.zero_le _, Nat.zero_le _⟩) (fun r9 hr9 => ?_)
    subst hr9
    refine q_ne hx hb 22 dX4_win_17 (by decide) (fun c17 => ?_) (fun c17 => ?_)
    · skip
      obtain ⟨st9, hs1, hs2, rfl⟩ := nI_rng (by decide) c17 (by decide)
      have hdi := (hGA _ hi).2.2.2
      rcases (show gK (gd i) = 0 ∨ gK (gd i) = 1 ∨ gK (gd i) = 2 by have := hdi.1; omega) with hk | hk | hk
      · skip
        have hmk : gMark (gd i) = 1 := if_pos hk
        refine lv_aload_n hx hb dX4_win_22 rfl (lv_at hl 0 rfl) ?_
        refine lv_dup hx hb dX4_win_23 rfl ?_
        refine va_get (D := E.1) (ci := 4) (C := RX4) (T := TX4) (N := 11) hx hb hts hinX4 hown hE.1 hP 0 rfl rfl 10 (by decide) (hts (.fieldLink RX4 52 "StakeHouse" "marks" "J") (by decide +kernel)) (fun _ h9 => h9) rfl dX4_win_24 ?_
        refine lv_aload_n hx hb dX4_win_27 rfl (lv_at hl 3 rfl) ?_
        refine vp_callSi (W.runV ⟨hx, hb, hml, hown, hts⟩ (c_X1_mark l E _ (ga i)) (cwV 0 hts gX4_win_X1_mark rfl rfl rfl (by decide +kernel) ⟨Nat.le_of_ble_eq_true rfl, Nat.le_of_ble_eq_true rfl⟩) (ePu_V hP hE (ci := 1) (k := (52 + pl i)) rfl (show (wX E ad g hz n mk td gr cf ce ck rv st wo ++ rest)[52 + pl i]? = some (ga i, .inr (1, [.int (nI (gC (gd i))), .int (nI (gL (gd i))), .ref (gb i)])) from wX_rest.trans ((hGA _ hi).2.1.trans (congrArg (fun e => some (ga i, e)) (gmE_0 (b := gb i) hk))))) rfl rfl hl.1 rfl (lv_room (Nat.le_of_ble_eq_true rfl)) dX4_win_28 ⟨Nat.zero_le _, Nat.zero_le _⟩) (fun r9 hr9 => ?_)
        subst hr9
        refine lv_i2l (v := lN _) hx hb dX4_win_31 (nI_l (by omega)) ?_
        refine lv_ladd hx hb dX4_win_32 ?_
        refine va_put (D := E.1) (ci := 4) (ty := .long) (C := RX4) (T := TX4) (N := 11) hx hb hts hinX4 tyX4 tyX4_ok nmX4 hown hE.1 hP hD hS 0 rfl rfl 10 (by decide) (hts (.fieldLink RX4 52 "StakeHouse" "marks" "J") (by decide +kernel)) (fun _ h9 => h9) rfl (by decide +kernel) rfl rfl (Nat.le_of_ble_eq_true rfl) dX4_win_33 (fun H locs hP hD hS => ?_)
        have hP : va_P E.1 vwCl (wX E ad g hz n (mk + lN 1) td gr cf ce ck rv st wo ++ rest) H := hP
        have hD : va_D (va_A (wX E ad g hz n mk td gr cf ce ck rv st wo ++ rest) s.heap.size) (wX E ad g hz n (mk + lN 1) td gr cf ce ck rv st wo ++ rest) := hD
        refine lv_aload_n hx hb dX4_win_36 rfl (lv_at hl 3 rfl) ?_
        refine lv_iload_n hx hb dX4_win_37 rfl (lv_at hl 2 rfl) ?_
        refine vp_callSi (W.runV ⟨hx, hb, hml, hown, hts⟩ (c_X1_gain l E _ (ga i) (nI st9)) (cwV 1 hts gX4_win_X1_gain rfl rfl rfl (by decide +kernel) ⟨Nat.le_of_ble_eq_true rfl, Nat.le_of_ble_eq_true rfl⟩) (ePu_V hP hE (ci := 1) (k := (52 + pl i)) rfl (show (wX E ad g hz n (mk + lN 1) td gr cf ce ck rv st wo ++ rest)[52 + pl i]? = some (ga i, .inr (1, [.int (nI (gC (gd i))), .int (nI (gL (gd i))), .ref (gb i)])) from wX_rest.trans ((hGA _ hi).2.1.trans (congrArg (fun e => some (ga i, e)) (gmE_0 (b := gb i) hk))))) rfl rfl hl.1 rfl (lv_room (Nat.le_of_ble_eq_true rfl)) dX4_win_38 ⟨Nat.zero_le _, Nat.zero_le _⟩) (fun r9 hr9 => ?_)
        subst hr9
        exact ret_Wi hx hb hr hlocks dX4_win_41 hP hD hS ⟨_, Or.inl ⟨i, st9, rfl, rfl, hi, hs1, hs2, by rw [gWin_0 hk], by rw [hmk]⟩, rfl⟩
      · skip
        have hmk : gMark (gd i) = 11 := (if_neg (by omega)).trans (if_pos hk)
        refine lv_aload_n hx hb dX4_win_22 rfl (lv_at hl 0 rfl) ?_
        refine lv_dup hx hb dX4_win_23 rfl ?_
        refine va_get (D := E.1) (ci := 4) (C := RX4) (T := TX4) (N := 11) hx hb hts hinX4 hown hE.1 hP 0 rfl rfl 10 (by decide) (hts (.fieldLink RX4 52 "StakeHouse" "marks" "J") (by decide +kernel)) (fun _ h9 => h9) rfl dX4_win_24 ?_
        refine lv_aload_n hx hb dX4_win_27 rfl (lv_at hl 3 rfl) ?_
        refine vp_callSi (run_weak (va_runU (x := ⟨"StakeHouse$EvenGame", "mark", "()I"⟩) ⟨hx, hb, hml, hown, hts⟩ (c_X2_mark l E _ (52 + pl i) (ga i) (gb i) (gd i) hdi (wX_rest.trans (hGA _ hi).2.1) (Or.inl hk)) (va_cwO 0 hts gX4_win_X2_mark_u78X2 rfl rfl rfl (show Cond.code ⟨"StakeHouse$EvenGame", "mark", "()I"⟩ cX1_mark 1 (some .int) ∈ wsX4_win by decide +kernel) (by decide +kernel) ⟨Nat.le_of_ble_eq_true rfl, Nat.le_of_ble_eq_true rfl⟩) (ePu_V hP hE (ci := 2) (k := (52 + pl i)) rfl (show (wX E ad g hz n mk td gr cf ce ck rv st wo ++ rest)[52 + pl i]? = some (ga i, .inr (2, [.int (nI (gC (gd i))), .int (nI (gL (gd i))), .ref (gb i), .int (nI (gM (gd i)))])) from wX_rest.trans ((hGA _ hi).2.1.trans (congrArg (fun e => some (ga i, e)) (gmE_1 (b := gb i) hk))))) rfl rfl hl.1 rfl (lv_room (Nat.le_of_ble_eq_true rfl)) dX4_win_28 ⟨Nat.zero_le _, Nat.zero_le _⟩)) (fun r9 hr9 => ?_)
        subst hr9
        refine lv_i2l (v := lN _) hx hb dX4_win_31 (nI_l (by omega)) ?_
        refine lv_ladd hx hb dX4_win_32 ?_
        refine va_put (D := E.1) (ci := 4) (ty := .long) (C := RX4) (T := TX4) (N := 11) hx hb hts hinX4 tyX4 tyX4_ok nmX4 hown hE.1 hP hD hS 0 rfl rfl 10 (by decide) (hts (.fieldLink RX4 52 "StakeHouse" "marks" "J") (by decide +kernel)) (fun _ h9 => h9) rfl (by decide +kernel) rfl rfl (Nat.le_of_ble_eq_true rfl) dX4_win_33 (fun H locs hP hD hS => ?_)
        have hP : va_P E.1 vwCl (wX E ad g hz n (mk + lN 11) td gr cf ce ck rv st wo ++ rest) H := hP
        have hD : va_D (va_A (wX E ad g hz n mk td gr cf ce ck rv st wo ++ rest) s.heap.size) (wX E ad g hz n (mk + lN 11) td gr cf ce ck rv st wo ++ rest) := hD
        refine lv_aload_n hx hb dX4_win_36 rfl (lv_at hl 3 rfl) ?_
        refine lv_iload_n hx hb dX4_win_37 rfl (lv_at hl 2 rfl) ?_
        refine vp_callSi (run_weak (va_runU (x := ⟨"StakeHouse$EvenGame", "gain", "(I)I"⟩) ⟨hx, hb, hml, hown, hts⟩ (c_X2_gain l E _ (52 + pl i) (ga i) (gb i) (gd i) hdi (wX_rest.trans (hGA _ hi).2.1) (Or.inl hk) st9) (va_cwO 1 hts gX4_win_X2_gain_u82X2 rfl rfl rfl (show Cond.code ⟨"StakeHouse$EvenGame", "gain", "(I)I"⟩ cX1_gain 2 (some .int) ∈ wsX4_win by decide +kernel) (by decide +kernel) ⟨Nat.le_of_ble_eq_true rfl, Nat.le_of_ble_eq_true rfl⟩) (ePu_V hP hE (ci := 2) (k := (52 + pl i)) rfl (show (wX E ad g hz n (mk + lN 11) td gr cf ce ck rv st wo ++ rest)[52 + pl i]? = some (ga i, .inr (2, [.int (nI (gC (gd i))), .int (nI (gL (gd i))), .ref (gb i), .int (nI (gM (gd i)))])) from wX_rest.trans ((hGA _ hi).2.1.trans (congrArg (fun e => some (ga i, e)) (gmE_1 (b := gb i) hk))))) rfl rfl hl.1 rfl (lv_room (Nat.le_of_ble_eq_true rfl)) dX4_win_38 ⟨Nat.zero_le _, Nat.zero_le _⟩)) (fun r9 hr9 => ?_)
        subst hr9
        exact ret_Wi hx hb hr hlocks dX4_win_41 hP hD hS ⟨_, Or.inl ⟨i, st9, rfl, rfl, hi, hs1, hs2, by rw [gWin_1 hk], by rw [hmk]⟩, rfl⟩
      · skip
        have hmk : gMark (gd i) = 111 := (if_neg (by omega)).trans (if_neg (by omega))
        refine lv_aload_n hx hb dX4_win_22 rfl (lv_at hl 0 rfl) ?_
        refine lv_dup hx hb dX4_win_23 rfl ?_
        refine va_get (D := E.1) (ci := 4) (C := RX4) (T := TX4) (N := 11) hx hb hts hinX4 hown hE.1 hP 0 rfl rfl 10 (by decide) (hts (.fieldLink RX4 52 "StakeHouse" "marks" "J") (by decide +kernel)) (fun _ h9 => h9) rfl dX4_win_24 ?_
        refine lv_aload_n hx hb dX4_win_27 rfl (lv_at hl 3 rfl) ?_
        refine vp_callSi (run_weak (va_runU (x := ⟨"StakeHouse$EvenGame", "mark", "()I"⟩) ⟨hx, hb, hml, hown, hts⟩ (c_X3_mark l E _ (52 + pl i) (ga i) (gb i) (gd i) hdi (wX_rest.trans (hGA _ hi).2.1) hk) (va_cwO 0 hts gX4_win_X3_mark_u78X3 rfl rfl rfl (show Cond.code ⟨"StakeHouse$EvenGame", "mark", "()I"⟩ cX1_mark 1 (some .int) ∈ wsX4_win by decide +kernel) (by decide +kernel) ⟨Nat.le_of_ble_eq_true rfl, Nat.le_of_ble_eq_true rfl⟩) (ePu_V hP hE (ci := 3) (k := (52 + pl i)) rfl (show (wX E ad g hz n mk td gr cf ce ck rv st wo ++ rest)[52 + pl i]? = some (ga i, .inr (3, [.int (nI (gM (gd i))), .int (nI (gC (gd i))), .int (nI (gL (gd i))), .ref (gb i), .int (nI (gX (gd i)))])) from wX_rest.trans ((hGA _ hi).2.1.trans (congrArg (fun e => some (ga i, e)) (gmE_2 (b := gb i) hk))))) rfl rfl hl.1 rfl (lv_room (Nat.le_of_ble_eq_true rfl)) dX4_win_28 ⟨Nat.zero_le _, Nat.zero_le _⟩)) (fun r9 hr9 => ?_)
        subst hr9
        refine lv_i2l (v := lN _) hx hb dX4_win_31 (nI_l (by omega)) ?_
        refine lv_ladd hx hb dX4_win_32 ?_
        refine va_put (D := E.1) (ci := 4) (ty := .long) (C := RX4) (T := TX4) (N := 11) hx hb hts hinX4 tyX4 tyX4_ok nmX4 hown hE.1 hP hD hS 0 rfl rfl 10 (by decide) (hts (.fieldLink RX4 52 "StakeHouse" "marks" "J") (by decide +kernel)) (fun _ h9 => h9) rfl (by decide +kernel) rfl rfl (Nat.le_of_ble_eq_true rfl) dX4_win_33 (fun H locs hP hD hS => ?_)
        have hP : va_P E.1 vwCl (wX E ad g hz n (mk + lN 111) td gr cf ce ck rv st wo ++ rest) H := hP
        have hD : va_D (va_A (wX E ad g hz n mk td gr cf ce ck rv st wo ++ rest) s.heap.size) (wX E ad g hz n (mk + lN 111) td gr cf ce ck rv st wo ++ rest) := hD
        refine lv_aload_n hx hb dX4_win_36 rfl (lv_at hl 3 rfl) ?_
        refine lv_iload_n hx hb dX4_win_37 rfl (lv_at hl 2 rfl) ?_
        refine vp_callSi (run_weak (va_runU (x := ⟨"StakeHouse$EvenGame", "gain", "(I)I"⟩) ⟨hx, hb, hml, hown, hts⟩ (c_X3_gain l E _ (52 + pl i) (ga i) (gb i) (gd i) hdi (wX_rest.trans (hGA _ hi).2.1) hk st9 (by omega)) (va_cwO 1 hts gX4_win_X3_gain_u82X3 rfl rfl rfl (show Cond.code ⟨"StakeHouse$EvenGame", "gain", "(I)I"⟩ cX1_gain 2 (some .int) ∈ wsX4_win by decide +kernel) (by decide +kernel) ⟨Nat.le_of_ble_eq_true rfl, Nat.le_of_ble_eq_true rfl⟩) (ePu_V hP hE (ci := 3) (k := (52 + pl i)) rfl (show (wX E ad g hz n (mk + lN 111) td gr cf ce ck rv st wo ++ rest)[52 + pl i]? = some (ga i, .inr (3, [.int (nI (gM (gd i))), .int (nI (gC (gd i))), .int (nI (gL (gd i))), .ref (gb i), .int (nI (gX (gd i)))])) from wX_rest.trans ((hGA _ hi).2.1.trans (congrArg (fun e => some (ga i, e)) (gmE_2 (b := gb i) hk))))) rfl rfl hl.1 rfl (lv_room (Nat.le_of_ble_eq_true rfl)) dX4_win_38 ⟨Nat.zero_le _, Nat.zero_le _⟩)) (fun r9 hr9 => ?_)
        subst hr9
        exact ret_Wi hx hb hr hlocks dX4_win_41 hP hD hS ⟨_, Or.inl ⟨i, st9, rfl, rfl, hi, hs1, hs2, rfl, by rw [hmk]⟩, rfl⟩
    · skip
      refine lv_iconst (v := (-1)) hx hb dX4_win_20 (by decide) ?_
      exact ret_Wi hx hb hr hlocks dX4_win_21 hP hD hS ⟨mk, Or.inr ⟨fun ⟨i, st, e1, e2, g1, g2, g3⟩ => c17 (by rw [e2]; exact (nI_rngI (by omega) (by decide) (by decide)).mpr ⟨g2, g3⟩), rfl, rfl⟩, rfl⟩
  · skip
    have hr9 := gameAt_out hn hi9 hr9
    subst hr9
    refine tp_r (show va_rf none = .null from rfl) ?_
    refine lv_astore_nN hx hb dX4_win_5 rfl hl (by decide) rfl (fun ls hl => ?_)
    refine lv_aload_nN hx hb dX4_win_6 rfl (lv_at hl 0 rfl) ?_
    refine lv_ifnullN (tgt := 20) hx hb dX4_win_7 (by decide) ?_
    refine lv_iconst (v := (-1)) hx hb dX4_win_20 (by decide) ?_
    exact ret_Wi hx hb hr hlocks dX4_win_21 hP hD hS ⟨mk, Or.inr ⟨fun ⟨i, st, e1, e2, g1, g2, g3⟩ => hi9 ⟨i, g1, e1⟩, rfl, rfl⟩, rfl⟩
end
section
/-! the reference: its world, what it reads, its table of the best -/
abbrev mE (am : Nat → Nat) (g hz n : Nat) (tr pd : Int64) : va_E := .inr (5, [.int (nI g), .int (nI hz), .int (nI n), .ref (am 1), .ref (am 2), .ref (am 3), .ref (am 4), .ref (am 5), .ref (am 6), .long tr, .ref (am 7), .ref (am 8), .ref (am 9), .long pd])
def wM (E : eT) (am : Nat → Nat) (g hz n : Nat) (kd ch tm tx lm : Nat → Int32) (td : Nat → Int32) (tr : Int64) (bs nw th : Nat → Int64) (pd : Int64) : va_W := [(am 0, mE am g hz n tr pd), (am 1, xI E 4 kd), (am 2, xI E 4 ch), (am 3, xI E 4 tm), (am 4, xI E 4 tx), (am 5, xI E 4 lm), (am 6, xI E 33 td), (am 7, xJ E 429 bs), (am 8, xJ E 2145 nw), (am 9, xJ E 2145 th)]
set_option maxHeartbeats 4000000 in
set_option maxRecDepth 100000 in
/-- in -/
theorem c_in (l : Launch) (E : eT) (ws : va_W) (v lo hi : Int32) : mPi l yX5_in wsX5_in 0 0 E ws [.int v, .int lo, .int hi] (fun r => r = if lo ≤ v ∧ v ≤ hi then 1 else 0) := by
  refine mP_of (cc := cX5_in) (maxL := 3) (ret := (some .boolean)) (by decide) rfl (Nat.le_of_ble_eq_true rfl) ?_
  intro p0 e0 s m below meth c0 ls hx hb hr hml hts hown hlocks hE hP hl
  have hown : s.vm.findClass RX5 = some m.cls := hown
  have hl : lv_has ls 3 [(0, .int v), (1, .int lo), (2, .int hi)] := hl
  refine lv_iload_n hx hb dX5_in_0 rfl (lv_at hl 0 rfl) ?_
  refine lv_iload_n hx hb dX5_in_1 rfl (lv_at hl 1 rfl) ?_
  refine lv_icmp_lt (tgt := 14) hx hb dX5_in_2 (by decide) (fun c2 => ?_) (fun c2 => ?_)
  · skip
    refine lv_iconst (v := nI 0) hx hb dX5_in_14 (by decide) ?_
    exact ret_Pz hx hb hr hlocks dX5_in_15 rfl (by rw [if_neg (fun q => absurd c2 (Int32.not_lt.mpr q.1))]; rfl)
  · skip
    refine lv_iload_n hx hb dX5_in_5 rfl (lv_at hl 0 rfl) ?_
    refine lv_iload_n hx hb dX5_in_6 rfl (lv_at hl 2 rfl) ?_
    refine lv_icmp_gt (tgt := 14) hx hb dX5_in_7 (by decide) (fun c7 => ?_) (fun c7 => ?_)
    · skip
      refine lv_iconst (v := nI 0) hx hb dX5_in_14 (by decide) ?_
      exact ret_Pz hx hb hr hlocks dX5_in_15 rfl (by rw [if_neg (fun q => absurd c7 (Int32.not_lt.mpr q.2))]; rfl)
    · skip
      refine lv_iconst (v := nI 1) hx hb dX5_in_10 (by decide) ?_
      refine lv_goto (tgt := 15) hx hb dX5_in_11 (by decide) ?_
      exact ret_Pz hx hb hr hlocks dX5_in_15 rfl (by rw [if_pos ⟨Int32.not_lt.mp c2, Int32.not_lt.mp c7⟩]; rfl)
set_option maxHeartbeats 4000000 in
set_option maxRecDepth 100000 in
/-- isGame -/
theorem m_isGame (l : Launch) (E : eT) (am : Nat → Nat) (g hz n : Nat) (kd ch tm tx lm : Nat → Int32) (td : Nat → Int32) (tr : Int64) (bs nw th : Nat → Int64) (pd : Int64) (rest : va_W) (v : Int32) : mPi l yX5_isGame wsX5_isGame 1 22 E (wM E am g hz n kd ch tm tx lm td tr bs nw th pd ++ rest) [.ref (am 0), .int v] (fun r => r = if nI 0 ≤ v ∧ v ≤ nI n - nI 1 then 1 else 0) := by
  refine mP_of (cc := cX5_isGame) (maxL := 2) (ret := (some .boolean)) (by decide) rfl (Nat.le_of_ble_eq_true rfl) ?_
  intro p0 e0 s m below meth c0 ls hx hb hr hml hts hown hlocks hE hP hl
  have hown : s.vm.findClass RX5 = some m.cls := hown
  have hl : lv_has ls 2 [(0, .ref (am 0)), (1, .int v)] := hl
  have hinX5 : ∀ w ∈ wsX50, w ∈ wsX5_isGame := by decide +kernel
  refine lv_iload_n hx hb dX5_isGame_0 rfl (lv_at hl 1 rfl) ?_
  refine lv_iconst (v := nI 0) hx hb dX5_isGame_1 (by decide) ?_
  refine lv_aload_n hx hb dX5_isGame_2 rfl (lv_at hl 0 rfl) ?_
  refine va_get (D := E.1) (ci := 5) (C := RX5) (T := TX5) (N := 14) hx hb hts hinX5 hown hE.1 hP 0 rfl rfl 2 (by decide) (hts (.fieldLink RX5 45 "StakeHouseModel" "games" "I") (by decide +kernel)) (fun _ h9 => h9) rfl dX5_isGame_3 ?_
  refine lv_iconst (v := nI 1) hx hb dX5_isGame_6 (by decide) ?_
  refine lv_isub hx hb dX5_isGame_7 ?_
  refine vp_callSi (W.runS ⟨hx, hb, hml, hown, hts⟩ (c_in l E _ _ _ _) (va_cwS 3 hts gX5_isGame_X5_in rfl rfl rfl (by decide +kernel) ⟨Nat.le_of_ble_eq_true rfl, Nat.le_of_ble_eq_true rfl⟩) (ePu_S hP hE) rfl rfl hl.1 rfl (lv_room (Nat.le_of_ble_eq_true rfl)) dX5_isGame_8 ⟨Nat.zero_le _, Nat.zero_le _⟩) (fun r9 hr9 => ?_)
  subst hr9
  exact ret_Pz hx hb hr hlocks dX5_isGame_11 (by split <;> rfl) rfl
set_option maxHeartbeats 4000000 in
set_option maxRecDepth 100000 in
/-- isPurse -/
theorem m_isPurse (l : Launch) (E : eT) (am : Nat → Nat) (g hz n : Nat) (kd ch tm tx lm : Nat → Int32) (td : Nat → Int32) (tr : Int64) (bs nw th : Nat → Int64) (pd : Int64) (rest : va_W) (v : Int32) : mPi l yX5_isPurse wsX5_isPurse 1 22 E (wM E am g hz n kd ch tm tx lm td tr bs nw th pd ++ rest) [.ref (am 0), .int v] (fun r => r = if nI 0 ≤ v ∧ v ≤ nI g then 1 else 0) := by
  refine mP_of (cc := cX5_isPurse) (maxL := 2) (ret := (some .boolean)) (by decide) rfl (Nat.le_of_ble_eq_true rfl) ?_
  intro p0 e0 s m below meth c0 ls hx hb hr hml hts hown hlocks hE hP hl
  have hown : s.vm.findClass RX5 = some m.cls := hown
  have hl : lv_has ls 2 [(0, .ref (am 0)), (1, .int v)] := hl
  have hinX5 : ∀ w ∈ wsX50, w ∈ wsX5_isPurse := by decide +kernel
  refine lv_iload_n hx hb dX5_isPurse_0 rfl (lv_at hl 1 rfl) ?_
  refine lv_iconst (v := nI 0) hx hb dX5_isPurse_1 (by decide) ?_
  refine lv_aload_n hx hb dX5_isPurse_2 rfl (lv_at hl 0 rfl) ?_
  refine va_get (D := E.1) (ci := 5) (C := RX5) (T := TX5) (N := 14) hx hb hts hinX5 hown hE.1 hP 0 rfl rfl 0 (by decide) (hts (.fieldLink RX5 7 "StakeHouseModel" "goal" "I") (by decide +kernel)) (fun _ h9 => h9) rfl dX5_isPurse_3 ?_
  refine vp_callSi (W.runS ⟨hx, hb, hml, hown, hts⟩ (c_in l E _ _ _ _) (va_cwS 3 hts gX5_isPurse_X5_in rfl rfl rfl (by decide +kernel) ⟨Nat.le_of_ble_eq_true rfl, Nat.le_of_ble_eq_true rfl⟩) (ePu_S hP hE) rfl rfl hl.1 rfl (lv_room (Nat.le_of_ble_eq_true rfl)) dX5_isPurse_6 ⟨Nat.zero_le _, Nat.zero_le _⟩) (fun r9 hr9 => ?_)
  subst hr9
  exact ret_Pz hx hb hr hlocks dX5_isPurse_9 (by split <;> rfl) rfl
set_option maxHeartbeats 4000000 in
set_option maxRecDepth 100000 in
/-- winOf -/
theorem m_winOf (l : Launch) (E : eT) (am : Nat → Nat) (g hz n : Nat) (kd ch tm tx lm : Nat → Int32) (td : Nat → Int32) (tr : Int64) (bs nw th : Nat → Int64) (pd : Int64) (rest : va_W) (hn : n ≤ 4) (gd : Nat → gT) (hM : ∀ i, i < n → gArg (gd i) (kd i) (ch i) (tm i) (tx i) (lm i)) (i st : Nat) (hi : i < n) (hst : st ≤ 32) : mPi l yX5_winOf wsX5_winOf 0 0 E (wM E am g hz n kd ch tm tx lm td tr bs nw th pd ++ rest) [.ref (am 0), .int (nI i), .int (nI st)] (fun r => r = nI (gWin (gd i) st)) := by
  refine mP_of (cc := cX5_winOf) (maxL := 4) (ret := (some .int)) (by decide) rfl (Nat.le_of_ble_eq_true rfl) ?_
  intro p0 e0 s m below meth c0 ls hx hb hr hml hts hown hlocks hE hP hl
  have hown : s.vm.findClass RX5 = some m.cls := hown
  have hl : lv_has ls 4 [(0, .ref (am 0)), (1, .int (nI i)), (2, .int (nI st))] := hl
  have hinX5 : ∀ w ∈ wsX50, w ∈ wsX5_winOf := by decide +kernel
  obtain ⟨hd, hkd, -, -, hm, hx9⟩ := hM i hi
  have hK2 := hd.1
  refine lv_aload_n hx hb dX5_winOf_0 rfl (lv_at hl 0 rfl) ?_
  refine va_get (D := E.1) (ci := 5) (C := RX5) (T := TX5) (N := 14) hx hb hts hinX5 hown hE.1 hP 0 rfl rfl 3 (by decide) (hts (.fieldLink RX5 16 "StakeHouseModel" "kind" "[I") (by decide +kernel)) (fun _ h9 => h9) rfl dX5_winOf_1 ?_
  refine lv_iload_n hx hb dX5_winOf_4 rfl (lv_at hl 1 rfl) ?_
  refine va_iald hx hb hE.1 hP 1 0 rfl rfl (vp_in_nI (by omega) (by decide)) dX5_winOf_5 ?_
  refine tp_i (show _ = nI (gK (gd i)) by rw [nI_clamp (by omega)]; exact hkd) ?_
  refine z_ne hx hb (by omega) 13 dX5_winOf_6 (by decide) (fun c6 => ?_) (fun c6 => ?_)
  · skip
    refine lv_iload_n hx hb dX5_winOf_13 rfl (lv_at hl 2 rfl) ?_
    refine lv_aload_n hx hb dX5_winOf_14 rfl (lv_at hl 0 rfl) ?_
    refine va_get (D := E.1) (ci := 5) (C := RX5) (T := TX5) (N := 14) hx hb hts hinX5 hown hE.1 hP 0 rfl rfl 5 (by decide) (hts (.fieldLink RX5 23 "StakeHouseModel" "times" "[I") (by decide +kernel)) (fun _ h9 => h9) rfl dX5_winOf_15 ?_
    refine lv_iload_n hx hb dX5_winOf_18 rfl (lv_at hl 1 rfl) ?_
    refine va_iald hx hb hE.1 hP 3 0 rfl rfl (vp_in_nI (by omega) (by decide)) dX5_winOf_19 ?_
    refine tp_i (show _ = nI (gM (gd i)) by rw [nI_clamp (by omega)]; exact hm (by omega)) ?_
    refine lv_imul hx hb dX5_winOf_20 ?_
    refine tp_i (pk_mul _ _) ?_
    refine st_i1 hx hb 3 dX5_winOf_21 rfl hl (by decide) rfl (fun ls hl => ?_)
    refine lv_aload_n hx hb dX5_winOf_22 rfl (lv_at hl 0 rfl) ?_
    refine va_get (D := E.1) (ci := 5) (C := RX5) (T := TX5) (N := 14) hx hb hts hinX5 hown hE.1 hP 0 rfl rfl 3 (by decide) (hts (.fieldLink RX5 16 "StakeHouseModel" "kind" "[I") (by decide +kernel)) (fun _ h9 => h9) rfl dX5_winOf_23 ?_
    refine lv_iload_n hx hb dX5_winOf_26 rfl (lv_at hl 1 rfl) ?_
    refine va_iald hx hb hE.1 hP 1 0 rfl rfl (vp_in_nI (by omega) (by decide)) dX5_winOf_27 ?_
    refine tp_i (show _ = nI (gK (gd i)) by rw [nI_clamp (by omega)]; exact hkd) ?_
    refine lv_iconst (v := nI 2) hx hb dX5_winOf_28 (by decide) ?_
    refine n_ne hx hb (by omega) (by omega) 48 dX5_winOf_29 (by decide) (fun c29 => ?_) (fun c29 => ?_)
    · skip
      refine lv_iload_n hx hb dX5_winOf_48 rfl (lv_at hl 3 rfl) ?_
      exact ret_Pi hx hb hr hlocks dX5_winOf_49 (by rw [gWin_1 (by omega)])
    · skip
      have hM1 := hd.2.2.1 (by omega)
      have hX := hd.2.2.2.1 (by omega)
      have hb1 : st * gM (gd i) ≤ 32 * 9 := Nat.mul_le_mul hst hM1.2
      have hb2 : st * gM (gd i) * gX (gd i) ≤ 288 * 10 := Nat.mul_le_mul hb1 hX
      have hb3 : st * gM (gd i) * gX (gd i) / 10 ≤ st * gM (gd i) := by
        have : st * gM (gd i) * gX (gd i) ≤ st * gM (gd i) * 10 := Nat.mul_le_mul_left _ hX
        omega
      refine lv_iload_n hx hb dX5_winOf_32 rfl (lv_at hl 3 rfl) ?_
      refine lv_iload_n hx hb dX5_winOf_33 rfl (lv_at hl 3 rfl) ?_
      refine lv_aload_n hx hb dX5_winOf_34 rfl (lv_at hl 0 rfl) ?_
      refine va_get (D := E.1) (ci := 5) (C := RX5) (T := TX5) (N := 14) hx hb hts hinX5 hown hE.1 hP 0 rfl rfl 6 (by decide) (hts (.fieldLink RX5 26 "StakeHouseModel" "tax" "[I") (by decide +kernel)) (fun _ h9 => h9) rfl dX5_winOf_35 ?_
      refine lv_iload_n hx hb dX5_winOf_38 rfl (lv_at hl 1 rfl) ?_
      refine va_iald hx hb hE.1 hP 4 0 rfl rfl (vp_in_nI (by omega) (by decide)) dX5_winOf_39 ?_
      refine tp_i (show _ = nI (gX (gd i)) by rw [nI_clamp (by omega)]; exact hx9 (by omega)) ?_
      refine lv_imul hx hb dX5_winOf_40 ?_
      refine tp_i (pk_mul _ _) ?_
      refine lv_bipush (v := nI 10) hx hb dX5_winOf_41 (by decide) ?_
      refine lv_idiv hx hb dX5_winOf_43 (by decide) ?_
      refine tp_i (pk_div (by omega) (by decide) (by decide)) ?_
      refine lv_isub hx hb dX5_winOf_44 ?_
      refine tp_i (pk_sub hb3) ?_
      refine lv_goto (tgt := 49) hx hb dX5_winOf_45 (by decide) ?_
      exact ret_Pi hx hb hr hlocks dX5_winOf_49 (by rw [gWin_2 (by omega)])
  · skip
    refine lv_iload_n hx hb dX5_winOf_9 rfl (lv_at hl 2 rfl) ?_
    refine lv_goto (tgt := 21) hx hb dX5_winOf_10 (by decide) ?_
    refine st_i1 hx hb 3 dX5_winOf_21 rfl hl (by decide) rfl (fun ls hl => ?_)
    refine lv_aload_n hx hb dX5_winOf_22 rfl (lv_at hl 0 rfl) ?_
    refine va_get (D := E.1) (ci := 5) (C := RX5) (T := TX5) (N := 14) hx hb hts hinX5 hown hE.1 hP 0 rfl rfl 3 (by decide) (hts (.fieldLink RX5 16 "StakeHouseModel" "kind" "[I") (by decide +kernel)) (fun _ h9 => h9) rfl dX5_winOf_23 ?_
    refine lv_iload_n hx hb dX5_winOf_26 rfl (lv_at hl 1 rfl) ?_
    refine va_iald hx hb hE.1 hP 1 0 rfl rfl (vp_in_nI (by omega) (by decide)) dX5_winOf_27 ?_
    refine tp_i (show _ = nI (gK (gd i)) by rw [nI_clamp (by omega)]; exact hkd) ?_
    refine lv_iconst (v := nI 2) hx hb dX5_winOf_28 (by decide) ?_
    refine n_ne hx hb (by omega) (by omega) 48 dX5_winOf_29 (by decide) (fun c29 => ?_) (fun c29 => ?_)
    · skip
      refine lv_iload_n hx hb dX5_winOf_48 rfl (lv_at hl 3 rfl) ?_
      exact ret_Pi hx hb hr hlocks dX5_winOf_49 (by rw [gWin_0 (by omega)])
    · skip
      exact absurd c29 (by omega)
set_option maxHeartbeats 4000000 in
set_option maxRecDepth 100000 in
/-- behind -/
theorem m_behind (l : Launch) (E : eT) (am : Nat → Nat) (g hz n : Nat) (kd ch tm tx lm : Nat → Int32) (td : Nat → Int32) (tr : Int64) (bs nw th : Nat → Int64) (pd : Int64) (rest : va_W) (hn : n ≤ 4) (gd : Nat → gT) (hM : ∀ i, i < n → gArg (gd i) (kd i) (ch i) (tm i) (tx i) (lm i)) (hg32 : g ≤ 32) (i q st : Nat) (hi : i < n) (hq : q ≤ 32) (hst : st ≤ 32) : mPi l yX5_behind wsX5_behind 1 24 E (wM E am g hz n kd ch tm tx lm td tr bs nw th pd ++ rest) [.ref (am 0), .int (nI i), .int (nI q), .int (nI st)] (fun r => r = nI (min g (q + gWin (gd i) st))) := by
  refine mP_of (cc := cX5_behind) (maxL := 5) (ret := (some .int)) (by decide) rfl (Nat.le_of_ble_eq_true rfl) ?_
  intro p0 e0 s m below meth c0 ls hx hb hr hml hts hown hlocks hE hP hl
  have hown : s.vm.findClass RX5 = some m.cls := hown
  have hl : lv_has ls 5 [(0, .ref (am 0)), (1, .int (nI i)), (2, .int (nI q)), (3, .int (nI st))] := hl
  have hinX5 : ∀ w ∈ wsX50, w ∈ wsX5_behind := by decide +kernel
  have hW := gWin_le (hM i hi).1 hst
  refine lv_iload_n hx hb dX5_behind_0 rfl (lv_at hl 2 rfl) ?_
  refine lv_aload_n hx hb dX5_behind_1 rfl (lv_at hl 0 rfl) ?_
  refine lv_iload_n hx hb dX5_behind_2 rfl (lv_at hl 1 rfl) ?_
  refine lv_iload_n hx hb dX5_behind_3 rfl (lv_at hl 3 rfl) ?_
  refine vp_callSi (W.runV ⟨hx, hb, hml, hown, hts⟩ (m_winOf l E am g hz n kd ch tm tx lm td tr bs nw th pd rest hn gd hM i st hi hst) (cwV 2 hts gX5_behind_X5_winOf rfl rfl rfl (by decide +kernel) ⟨Nat.le_of_ble_eq_true rfl, Nat.le_of_ble_eq_true rfl⟩) (ePu_V hP hE (ci := 5) (k := 0) rfl rfl) rfl rfl hl.1 rfl (lv_room (Nat.le_of_ble_eq_true rfl)) dX5_behind_4 ⟨Nat.zero_le _, Nat.zero_le _⟩) (fun r9 hr9 => ?_)
  subst hr9
  refine lv_iadd hx hb dX5_behind_7 ?_
  refine tp_i (nI_add _ _) ?_
  refine st_i2 hx hb 4 dX5_behind_8 hl (by decide) rfl (fun ls hl => ?_)
  refine lv_iload hx hb dX5_behind_10 (lv_at hl 4 rfl) ?_
  refine lv_aload_n hx hb dX5_behind_12 rfl (lv_at hl 0 rfl) ?_
  refine va_get (D := E.1) (ci := 5) (C := RX5) (T := TX5) (N := 14) hx hb hts hinX5 hown hE.1 hP 0 rfl rfl 0 (by decide) (hts (.fieldLink RX5 7 "StakeHouseModel" "goal" "I") (by decide +kernel)) (fun _ h9 => h9) rfl dX5_behind_13 ?_
  refine n_le hx hb (by omega) (by omega) 26 dX5_behind_16 (by decide) (fun c16 => ?_) (fun c16 => ?_)
  · skip
    refine lv_iload hx hb dX5_behind_26 (lv_at hl 4 rfl) ?_
    exact ret_Pi hx hb hr hlocks dX5_behind_28 (by congr 1; omega)
  · skip
    refine lv_aload_n hx hb dX5_behind_19 rfl (lv_at hl 0 rfl) ?_
    refine va_get (D := E.1) (ci := 5) (C := RX5) (T := TX5) (N := 14) hx hb hts hinX5 hown hE.1 hP 0 rfl rfl 0 (by decide) (hts (.fieldLink RX5 7 "StakeHouseModel" "goal" "I") (by decide +kernel)) (fun _ h9 => h9) rfl dX5_behind_20 ?_
    refine lv_goto (tgt := 28) hx hb dX5_behind_23 (by decide) ?_
    exact ret_Pi hx hb hr hlocks dX5_behind_28 (by congr 1; omega)
set_option maxHeartbeats 4000000 in
set_option maxRecDepth 100000 in
/-- mostAt -/
theorem m_mostAt (l : Launch) (E : eT) (am : Nat → Nat) (g hz n : Nat) (kd ch tm tx lm : Nat → Int32) (td : Nat → Int32) (tr : Int64) (bs nw th : Nat → Int64) (pd : Int64) (rest : va_W) (hn : n ≤ 4) (gd : Nat → gT) (hM : ∀ i, i < n → gArg (gd i) (kd i) (ch i) (tm i) (tx i) (lm i)) (i q : Nat) (hi : i < n) (hq : q < 2 ^ 31) : mPi l yX5_mostAt wsX5_mostAt 0 0 E (wM E am g hz n kd ch tm tx lm td tr bs nw th pd ++ rest) [.ref (am 0), .int (nI i), .int (nI q)] (fun r => r = nI (min q (gL (gd i)))) := by
  refine mP_of (cc := cX5_mostAt) (maxL := 3) (ret := (some .int)) (by decide) rfl (Nat.le_of_ble_eq_true rfl) ?_
  intro p0 e0 s m below meth c0 ls hx hb hr hml hts hown hlocks hE hP hl
  have hown : s.vm.findClass RX5 = some m.cls := hown
  have hl : lv_has ls 3 [(0, .ref (am 0)), (1, .int (nI i)), (2, .int (nI q))] := hl
  have hinX5 : ∀ w ∈ wsX50, w ∈ wsX5_mostAt := by decide +kernel
  obtain ⟨hd, -, -, hlm, -, -⟩ := hM i hi
  have hL1 := hd.2.2.2.2.2
  refine lv_iload_n hx hb dX5_mostAt_0 rfl (lv_at hl 2 rfl) ?_
  refine lv_aload_n hx hb dX5_mostAt_1 rfl (lv_at hl 0 rfl) ?_
  refine va_get (D := E.1) (ci := 5) (C := RX5) (T := TX5) (N := 14) hx hb hts hinX5 hown hE.1 hP 0 rfl rfl 7 (by decide) (hts (.fieldLink RX5 29 "StakeHouseModel" "limit" "[I") (by decide +kernel)) (fun _ h9 => h9) rfl dX5_mostAt_2 ?_
  refine lv_iload_n hx hb dX5_mostAt_5 rfl (lv_at hl 1 rfl) ?_
  refine va_iald hx hb hE.1 hP 5 0 rfl rfl (vp_in_nI (by omega) (by decide)) dX5_mostAt_6 ?_
  refine tp_i (show _ = nI (gL (gd i)) by rw [nI_clamp (by omega)]; exact hlm) ?_
  refine n_ge hx hb (by omega) (by omega) 14 dX5_mostAt_7 (by decide) (fun c7 => ?_) (fun c7 => ?_)
  · skip
    refine lv_aload_n hx hb dX5_mostAt_14 rfl (lv_at hl 0 rfl) ?_
    refine va_get (D := E.1) (ci := 5) (C := RX5) (T := TX5) (N := 14) hx hb hts hinX5 hown hE.1 hP 0 rfl rfl 7 (by decide) (hts (.fieldLink RX5 29 "StakeHouseModel" "limit" "[I") (by decide +kernel)) (fun _ h9 => h9) rfl dX5_mostAt_15 ?_
    refine lv_iload_n hx hb dX5_mostAt_18 rfl (lv_at hl 1 rfl) ?_
    refine va_iald hx hb hE.1 hP 5 0 rfl rfl (vp_in_nI (by omega) (by decide)) dX5_mostAt_19 ?_
    refine tp_i (show _ = nI (gL (gd i)) by rw [nI_clamp (by omega)]; exact hlm) ?_
    exact ret_Pi hx hb hr hlocks dX5_mostAt_20 (by congr 1; omega)
  · skip
    refine lv_iload_n hx hb dX5_mostAt_10 rfl (lv_at hl 2 rfl) ?_
    refine lv_goto (tgt := 20) hx hb dX5_mostAt_11 (by decide) ?_
    exact ret_Pi hx hb hr hlocks dX5_mostAt_20 (by congr 1; omega)
set_option maxHeartbeats 4000000 in
set_option maxRecDepth 100000 in
/-- worth -/
theorem m_worth (l : Launch) (E : eT) (am : Nat → Nat) (g hz n : Nat) (kd ch tm tx lm : Nat → Int32) (td : Nat → Int32) (tr : Int64) (bs nw th : Nat → Int64) (pd : Int64) (rest : va_W) (hn : n ≤ 4) (gd : Nat → gT) (hM : ∀ i, i < n → gArg (gd i) (kd i) (ch i) (tm i) (tx i) (lm i)) (hg32 : g ≤ 32) (i q st j : Nat) (v : Nat → Nat) (hi : i < n) (hq : q ≤ g) (hst : st ≤ q) (hj : j ≤ 11) (hv : ∀ x, x ≤ g → bs (33 * j + x) = lN (v x)) : mPl l yX5_worth wsX5_worth 2 50 E (wM E am g hz n kd ch tm tx lm td tr bs nw th pd ++ rest) [.ref (am 0), .int (nI i), .int (nI q), .int (nI st), .int (nI (j + 1))] (fun r => r = lN (gVal g (gd i) v q st)) := by
  refine mP_of (cc := cX5_worth) (maxL := 9) (ret := (some .long)) (by decide) rfl (Nat.le_of_ble_eq_true rfl) ?_
  intro p0 e0 s m below meth c0 ls hx hb hr hml hts hown hlocks hE hP hl
  have hown : s.vm.findClass RX5 = some m.cls := hown
  have hl : lv_has ls 9 [(0, .ref (am 0)), (1, .int (nI i)), (2, .int (nI q)), (3, .int (nI st)), (4, .int (nI (j + 1)))] := hl
  have hinX5 : ∀ w ∈ wsX50, w ∈ wsX5_worth := by decide +kernel
  obtain ⟨hd, -, hch, -, -, -⟩ := hM i hi
  have hC := hd.2.1
  refine lv_aload_n hx hb dX5_worth_0 rfl (lv_at hl 0 rfl) ?_
  refine va_get (D := E.1) (ci := 5) (C := RX5) (T := TX5) (N := 14) hx hb hts hinX5 hown hE.1 hP 0 rfl rfl 10 (by decide) (hts (.fieldLink RX5 35 "StakeHouseModel" "best" "[J") (by decide +kernel)) (fun _ h9 => h9) rfl dX5_worth_1 ?_
  refine lv_bipush (v := nI 33) hx hb dX5_worth_4 (by decide) ?_
  refine lv_iload hx hb dX5_worth_6 (lv_at hl 4 rfl) ?_
  refine lv_iconst (v := nI 1) hx hb dX5_worth_8 (by decide) ?_
  refine lv_isub hx hb dX5_worth_9 ?_
  refine tp_i (show _ = nI j from nI_pred j) ?_
  refine lv_imul hx hb dX5_worth_10 ?_
  refine tp_i (pk_mul _ _) ?_
  refine lv_aload_n hx hb dX5_worth_11 rfl (lv_at hl 0 rfl) ?_
  refine lv_iload_n hx hb dX5_worth_12 rfl (lv_at hl 1 rfl) ?_
  refine lv_iload_n hx hb dX5_worth_13 rfl (lv_at hl 2 rfl) ?_
  refine lv_iload_n hx hb dX5_worth_14 rfl (lv_at hl 3 rfl) ?_
  refine vp_callSi (W.runV ⟨hx, hb, hml, hown, hts⟩ (m_behind l E am g hz n kd ch tm tx lm td tr bs nw th pd rest hn gd hM hg32 i q st hi (by omega) (by omega)) (cwV 3 hts gX5_worth_X5_behind rfl rfl rfl (by decide +kernel) ⟨Nat.le_of_ble_eq_true rfl, Nat.le_of_ble_eq_true rfl⟩) (ePu_V hP hE (ci := 5) (k := 0) rfl rfl) rfl rfl hl.1 rfl (lv_room (Nat.le_of_ble_eq_true rfl)) dX5_worth_15 ⟨Nat.zero_le _, Nat.zero_le _⟩) (fun r9 hr9 => ?_)
  subst hr9
  refine lv_iadd hx hb dX5_worth_18 ?_
  refine tp_i (nI_add _ _) ?_
  refine va_lald hx hb hE.1 hP 7 1 rfl rfl (vp_in_nI (by omega) (by decide)) dX5_worth_19 ?_
  refine tp_l (show _ = lN (v (min g (q + gWin (gd i) st))) by rw [nI_clamp (by omega)]; exact hv _ (by omega)) ?_
  refine st_l2 hx hb 5 dX5_worth_20 hl (by decide) rfl (fun ls hl => ?_)
  refine lv_aload_n hx hb dX5_worth_22 rfl (lv_at hl 0 rfl) ?_
  refine va_get (D := E.1) (ci := 5) (C := RX5) (T := TX5) (N := 14) hx hb hts hinX5 hown hE.1 hP 0 rfl rfl 10 (by decide) (hts (.fieldLink RX5 35 "StakeHouseModel" "best" "[J") (by decide +kernel)) (fun _ h9 => h9) rfl dX5_worth_23 ?_
  refine lv_bipush (v := nI 33) hx hb dX5_worth_26 (by decide) ?_
  refine lv_iload hx hb dX5_worth_28 (lv_at hl 4 rfl) ?_
  refine lv_iconst (v := nI 1) hx hb dX5_worth_30 (by decide) ?_
  refine lv_isub hx hb dX5_worth_31 ?_
  refine tp_i (show _ = nI j from nI_pred j) ?_
  refine lv_imul hx hb dX5_worth_32 ?_
  refine tp_i (pk_mul _ _) ?_
  refine lv_iload_n hx hb dX5_worth_33 rfl (lv_at hl 2 rfl) ?_
  refine lv_iadd hx hb dX5_worth_34 ?_
  refine tp_i (nI_add _ _) ?_
  refine lv_iload_n hx hb dX5_worth_35 rfl (lv_at hl 3 rfl) ?_
  refine lv_isub hx hb dX5_worth_36 ?_
  refine tp_i (show _ = nI (33 * j + (q - st)) by rw [pk_sub (by omega)]; congr 1; omega) ?_
  refine va_lald hx hb hE.1 hP 7 1 rfl rfl (vp_in_nI (by omega) (by decide)) dX5_worth_37 ?_
  refine tp_l (show _ = lN (v (q - st)) by rw [nI_clamp (by omega)]; exact hv _ (by omega)) ?_
  refine st_l2 hx hb 6 dX5_worth_38 hl (by decide) rfl (fun ls hl => ?_)
  refine lv_aload_n hx hb dX5_worth_40 rfl (lv_at hl 0 rfl) ?_
  refine va_get (D := E.1) (ci := 5) (C := RX5) (T := TX5) (N := 14) hx hb hts hinX5 hown hE.1 hP 0 rfl rfl 4 (by decide) (hts (.fieldLink RX5 20 "StakeHouseModel" "chance" "[I") (by decide +kernel)) (fun _ h9 => h9) rfl dX5_worth_41 ?_
  refine lv_iload_n hx hb dX5_worth_44 rfl (lv_at hl 1 rfl) ?_
  refine va_iald hx hb hE.1 hP 2 0 rfl rfl (vp_in_nI (by omega) (by decide)) dX5_worth_45 ?_
  refine tp_i (show _ = nI (gC (gd i)) by rw [nI_clamp (by omega)]; exact hch) ?_
  refine lv_i2l (v := lN _) hx hb dX5_worth_46 (nI_l (by omega)) ?_
  refine lv_lload hx hb dX5_worth_47 (lv_at hl 5 rfl) ?_
  refine lv_lmul hx hb dX5_worth_49 ?_
  refine tp_l (lN_mul _ _) ?_
  refine lv_bipush (v := nI 16) hx hb dX5_worth_50 (by decide) ?_
  refine lv_aload_n hx hb dX5_worth_52 rfl (lv_at hl 0 rfl) ?_
  refine va_get (D := E.1) (ci := 5) (C := RX5) (T := TX5) (N := 14) hx hb hts hinX5 hown hE.1 hP 0 rfl rfl 4 (by decide) (hts (.fieldLink RX5 20 "StakeHouseModel" "chance" "[I") (by decide +kernel)) (fun _ h9 => h9) rfl dX5_worth_53 ?_
  refine lv_iload_n hx hb dX5_worth_56 rfl (lv_at hl 1 rfl) ?_
  refine va_iald hx hb hE.1 hP 2 0 rfl rfl (vp_in_nI (by omega) (by decide)) dX5_worth_57 ?_
  refine tp_i (show _ = nI (gC (gd i)) by rw [nI_clamp (by omega)]; exact hch) ?_
  refine lv_isub hx hb dX5_worth_58 ?_
  refine tp_i (pk_sub hC) ?_
  refine lv_i2l (v := lN _) hx hb dX5_worth_59 (nI_l (by omega)) ?_
  refine lv_lload hx hb dX5_worth_60 (lv_at hl 6 rfl) ?_
  refine lv_lmul hx hb dX5_worth_62 ?_
  refine tp_l (lN_mul _ _) ?_
  refine lv_ladd hx hb dX5_worth_63 ?_
  refine tp_l (lN_add _ _) ?_
  exact ret_Pl hx hb hr hlocks dX5_worth_64 rfl
set_option maxHeartbeats 4000000 in
set_option maxRecDepth 100000 in
/-- least -/
theorem m_least (l : Launch) (E : eT) (ws : va_W) (a b : Nat) (ha : a < 2 ^ 31) (hb0 : b < 2 ^ 31) : mPi l yX5_least wsX5_least 0 0 E ws [.int (nI a), .int (nI b)] (fun r => r = nI (min a b)) := by
  refine mP_of (cc := cX5_least) (maxL := 2) (ret := (some .int)) (by decide) rfl (Nat.le_of_ble_eq_true rfl) ?_
  intro p0 e0 s m below meth c0 ls hx hb hr hml hts hown hlocks hE hP hl
  have hown : s.vm.findClass RX5 = some m.cls := hown
  have hl : lv_has ls 2 [(0, .int (nI a)), (1, .int (nI b))] := hl
  refine lv_iload_n hx hb dX5_least_0 rfl (lv_at hl 0 rfl) ?_
  refine lv_iload_n hx hb dX5_least_1 rfl (lv_at hl 1 rfl) ?_
  refine n_ge hx hb (by omega) (by omega) 9 dX5_least_2 (by decide) (fun c2 => ?_) (fun c2 => ?_)
  · skip
    refine lv_iload_n hx hb dX5_least_9 rfl (lv_at hl 1 rfl) ?_
    exact ret_Pi hx hb hr hlocks dX5_least_10 (by congr 1; omega)
  · skip
    refine lv_iload_n hx hb dX5_least_5 rfl (lv_at hl 0 rfl) ?_
    refine lv_goto (tgt := 10) hx hb dX5_least_6 (by decide) ?_
    exact ret_Pi hx hb hr hlocks dX5_least_10 (by congr 1; omega)
set_option maxHeartbeats 4000000 in
set_option maxRecDepth 100000 in
/-- stakeOf -/
theorem m_stakeOf (l : Launch) (E : eT) (am : Nat → Nat) (g hz n : Nat) (kd ch tm tx lm : Nat → Int32) (td : Nat → Nat) (tr : Int64) (bs nw th : Nat → Int64) (pd : Int64) (rest : va_W) (hn : n ≤ 4) (gd : Nat → gT) (hM : ∀ i, i < n → gArg (gd i) (kd i) (ch i) (tm i) (tx i) (lm i)) (hg32 : g ≤ 32) (htd2 : ∀ j, td j ≤ 32) (plan i q : Nat) (hpl : plan ≤ 2) (hi : i < n) (hq1 : 1 ≤ q) (hq : q ≤ g) : mPi l yX5_stakeOf wsX5_stakeOf 1 24 E (wM E am g hz n kd ch tm tx lm (fun j => nI (td j)) tr bs nw th pd ++ rest) [.ref (am 0), .int (nI plan), .int (nI i), .int (nI q)] (fun r => r = nI (gPl g (gd i) td plan q 0)) := by
  refine mP_of (cc := cX5_stakeOf) (maxL := 6) (ret := (some .int)) (by decide) rfl (Nat.le_of_ble_eq_true rfl) ?_
  intro p0 e0 s m below meth c0 ls hx hb hr hml hts hown hlocks hE hP hl
  have hown : s.vm.findClass RX5 = some m.cls := hown
  have hl : lv_has ls 6 [(0, .ref (am 0)), (1, .int (nI plan)), (2, .int (nI i)), (3, .int (nI q))] := hl
  have hinX5 : ∀ w ∈ wsX50, w ∈ wsX5_stakeOf := by decide +kernel
  have hd := (hM i hi).1
  have hL1 := hd.2.2.2.2.2
  have hL0 := hd.2.2.2.2.1
  have htq := htd2 q
  refine lv_aload_n hx hb dX5_stakeOf_0 rfl (lv_at hl 0 rfl) ?_
  refine lv_iload_n hx hb dX5_stakeOf_1 rfl (lv_at hl 2 rfl) ?_
  refine lv_iload_n hx hb dX5_stakeOf_2 rfl (lv_at hl 3 rfl) ?_
  refine vp_callSi (W.runV ⟨hx, hb, hml, hown, hts⟩ (m_mostAt l E am g hz n kd ch tm tx lm (fun j => nI (td j)) tr bs nw th pd rest hn gd hM i q hi (by omega)) (cwV 2 hts gX5_stakeOf_X5_mostAt rfl rfl rfl (by decide +kernel) ⟨Nat.le_of_ble_eq_true rfl, Nat.le_of_ble_eq_true rfl⟩) (ePu_V hP hE (ci := 5) (k := 0) rfl rfl) rfl rfl hl.1 rfl (lv_room (Nat.le_of_ble_eq_true rfl)) dX5_stakeOf_3 ⟨Nat.zero_le _, Nat.zero_le _⟩) (fun r9 hr9 => ?_)
  subst hr9
  refine st_i2 hx hb 4 dX5_stakeOf_6 hl (by decide) rfl (fun ls hl => ?_)
  refine lv_iload_n hx hb dX5_stakeOf_8 rfl (lv_at hl 1 rfl) ?_
  refine lv_iconst (v := nI 1) hx hb dX5_stakeOf_9 (by decide) ?_
  refine n_ne hx hb (by omega) (by omega) 15 dX5_stakeOf_10 (by decide) (fun c10 => ?_) (fun c10 => ?_)
  · skip
    refine lv_iload_n hx hb dX5_stakeOf_15 rfl (lv_at hl 1 rfl) ?_
    refine lv_iconst (v := nI 2) hx hb dX5_stakeOf_16 (by decide) ?_
    refine n_ne hx hb (by omega) (by omega) 32 dX5_stakeOf_17 (by decide) (fun c17 => ?_) (fun c17 => ?_)
    · skip
      obtain rfl : plan = 0 := by omega
      refine lv_iconst (v := nI 1) hx hb dX5_stakeOf_32 (by decide) ?_
      refine st_i2 hx hb 5 dX5_stakeOf_33 hl (by decide) rfl (fun ls hl => ?_)
      refine wLoop (min q (gL (gd i))) 0 (fun k ls => gBold g (gd i) q = gB g (gd i) q (min q (gL (gd i))) ((min q (gL (gd i))) - (k + 1)) ∧ lv_has ls 6 [(0, .ref (am 0)), (1, .int (nI 0)), (2, .int (nI i)), (3, .int (nI q)), (4, .int (nI (min q (gL (gd i))))), (5, .int (nI (k + 1)))]) (Nat.zero_le _) (fun k ls hk hI ih => ?_) (fun ls hI => ?_) ⟨rfl, hl⟩
      · skip
        obtain ⟨hI, hl⟩ := hI
        refine lv_iload hx hb dX5_stakeOf_35 (lv_at hl 5 rfl) ?_
        refine lv_iload hx hb dX5_stakeOf_37 (lv_at hl 4 rfl) ?_
        refine n_gt hx hb (by omega) (by omega) 67 dX5_stakeOf_39 (by decide) (fun c39 => ?_) (fun c39 => ?_)
        · skip
          exact absurd c39 (by omega)
        · skip
          refine lv_iload_n hx hb dX5_stakeOf_42 rfl (lv_at hl 3 rfl) ?_
          refine lv_aload_n hx hb dX5_stakeOf_43 rfl (lv_at hl 0 rfl) ?_
          refine lv_iload_n hx hb dX5_stakeOf_44 rfl (lv_at hl 2 rfl) ?_
          refine lv_iload hx hb dX5_stakeOf_45 (lv_at hl 5 rfl) ?_
          refine vp_callSi (W.runV ⟨hx, hb, hml, hown, hts⟩ (m_winOf l E am g hz n kd ch tm tx lm (fun j => nI (td j)) tr bs nw th pd rest hn gd hM i (k + 1) hi (by omega)) (cwV 2 hts gX5_stakeOf_X5_winOf rfl rfl rfl (by decide +kernel) ⟨Nat.le_of_ble_eq_true rfl, Nat.le_of_ble_eq_true rfl⟩) (ePu_V hP hE (ci := 5) (k := 0) rfl rfl) rfl rfl hl.1 rfl (lv_room (Nat.le_of_ble_eq_true rfl)) dX5_stakeOf_47 ⟨Nat.zero_le _, Nat.zero_le _⟩) (fun r9 hr9 => ?_)
          subst hr9
          have hW := gWin_le hd (s := k + 1) (by omega)
          refine lv_iadd hx hb dX5_stakeOf_50 ?_
          refine tp_i (nI_add _ _) ?_
          refine lv_aload_n hx hb dX5_stakeOf_51 rfl (lv_at hl 0 rfl) ?_
          refine va_get (D := E.1) (ci := 5) (C := RX5) (T := TX5) (N := 14) hx hb hts hinX5 hown hE.1 hP 0 rfl rfl 0 (by decide) (hts (.fieldLink RX5 7 "StakeHouseModel" "goal" "I") (by decide +kernel)) (fun _ h9 => h9) rfl dX5_stakeOf_52 ?_
          refine n_lt hx hb (by omega) (by omega) 61 dX5_stakeOf_55 (by decide) (fun c55 => ?_) (fun c55 => ?_)
          · skip
            refine st_inc hx hb 5 dX5_stakeOf_61 hl rfl (nI_1 _) (by decide) rfl (fun ls hl => ?_)
            refine lv_goto (tgt := 35) hx hb dX5_stakeOf_64 (by decide) ?_
            refine ih _ ⟨?_, hl⟩
            by_cases he : k + 1 < (min q (gL (gd i)))
            · have e1 : (min q (gL (gd i))) - (k + 1) = ((min q (gL (gd i))) - (k + 1 + 1)) + 1 := by omega
              have e2 : (min q (gL (gd i))) - ((min q (gL (gd i))) - (k + 1 + 1) + 1) = k + 1 := by omega
              rw [hI, e1, gB, e2, if_neg (by omega)]
            · rw [hI, show (min q (gL (gd i))) - (k + 1) = (min q (gL (gd i))) - (k + 1 + 1) by omega]
          · skip
            refine lv_iload hx hb dX5_stakeOf_58 (lv_at hl 5 rfl) ?_
            exact ret_Pi hx hb hr hlocks dX5_stakeOf_60 (show nI (k + 1) = nI (gBold g (gd i) q) by
                  by_cases he : k + 1 < (min q (gL (gd i)))
                  · have e1 : (min q (gL (gd i))) - (k + 1) = ((min q (gL (gd i))) - (k + 1 + 1)) + 1 := by omega
                    have e2 : (min q (gL (gd i))) - ((min q (gL (gd i))) - (k + 1 + 1) + 1) = k + 1 := by omega
                    rw [hI, e1, gB, e2, if_pos (by omega)]
                  · rw [hI, show (min q (gL (gd i))) - (k + 1) = 0 by omega, gB]; congr 1; omega)
      · skip
        obtain ⟨hI, hl⟩ := hI
        refine lv_iload hx hb dX5_stakeOf_35 (lv_at hl 5 rfl) ?_
        refine lv_iload hx hb dX5_stakeOf_37 (lv_at hl 4 rfl) ?_
        refine n_gt hx hb (by omega) (by omega) 67 dX5_stakeOf_39 (by decide) (fun c39 => ?_) (fun c39 => ?_)
        · skip
          refine lv_iload hx hb dX5_stakeOf_67 (lv_at hl 4 rfl) ?_
          exact ret_Pi hx hb hr hlocks dX5_stakeOf_69 (show nI (min q (gL (gd i))) = nI (gBold g (gd i) q) by rw [hI, show (min q (gL (gd i))) - ((min q (gL (gd i))) + 1) = 0 by omega, gB])
        · skip
          exact absurd c39 (by omega)
    · skip
      subst c17
      refine lv_aload_n hx hb dX5_stakeOf_20 rfl (lv_at hl 0 rfl) ?_
      refine va_get (D := E.1) (ci := 5) (C := RX5) (T := TX5) (N := 14) hx hb hts hinX5 hown hE.1 hP 0 rfl rfl 8 (by decide) (hts (.fieldLink RX5 32 "StakeHouseModel" "told" "[I") (by decide +kernel)) (fun _ h9 => h9) rfl dX5_stakeOf_21 ?_
      refine lv_iload_n hx hb dX5_stakeOf_24 rfl (lv_at hl 3 rfl) ?_
      refine va_iald hx hb hE.1 hP 6 0 rfl rfl (vp_in_nI (by omega) (by decide)) dX5_stakeOf_25 ?_
      refine tp_i (show _ = nI (td q) by rw [nI_clamp (by omega)]) ?_
      refine lv_iload hx hb dX5_stakeOf_26 (lv_at hl 4 rfl) ?_
      refine vp_callSi (W.runS ⟨hx, hb, hml, hown, hts⟩ (m_least l E _ _ _ (by omega) (by omega)) (va_cwS 2 hts gX5_stakeOf_X5_least rfl rfl rfl (by decide +kernel) ⟨Nat.le_of_ble_eq_true rfl, Nat.le_of_ble_eq_true rfl⟩) (ePu_S hP hE) rfl rfl hl.1 rfl (lv_room (Nat.le_of_ble_eq_true rfl)) dX5_stakeOf_28 ⟨Nat.zero_le _, Nat.zero_le _⟩) (fun r9 hr9 => ?_)
      subst hr9
      exact ret_Pi hx hb hr hlocks dX5_stakeOf_31 rfl
  · skip
    subst c10
    refine lv_iconst (v := nI 1) hx hb dX5_stakeOf_13 (by decide) ?_
    exact ret_Pi hx hb hr hlocks dX5_stakeOf_14 rfl
set_option maxHeartbeats 4000000 in
set_option maxRecDepth 100000 in
/-- stake -/
theorem m_stake (l : Launch) (E : eT) (am : Nat → Nat) (g hz n : Nat) (kd ch tm tx lm : Nat → Int32) (td : Nat → Nat) (tr : Int64) (bs nw th : Nat → Int64) (pd : Int64) (rest : va_W) (hn : n ≤ 4) (gd : Nat → gT) (hM : ∀ i, i < n → gArg (gd i) (kd i) (ch i) (tm i) (tx i) (lm i)) (hg2 : 2 ≤ g) (hg32 : g ≤ 32) (htd2 : ∀ j, td j ≤ 32) (pv iv qv : Int32) : mPi l yX5_stake wsX5_stake 2 60 E (wM E am g hz n kd ch tm tx lm (fun j => nI (td j)) tr bs nw th pd ++ rest) [.ref (am 0), .int pv, .int iv, .int qv] (stk_of g n gd td pv iv qv) := by
  refine mP_of (cc := cX5_stake) (maxL := 4) (ret := (some .int)) (by decide) rfl (Nat.le_of_ble_eq_true rfl) ?_
  intro p0 e0 s m below meth c0 ls hx hb hr hml hts hown hlocks hE hP hl
  have hown : s.vm.findClass RX5 = some m.cls := hown
  have hl : lv_has ls 4 [(0, .ref (am 0)), (1, .int pv), (2, .int iv), (3, .int qv)] := hl
  have hinX5 : ∀ w ∈ wsX50, w ∈ wsX5_stake := by decide +kernel
  refine lv_iload_n hx hb dX5_stake_0 rfl (lv_at hl 1 rfl) ?_
  refine lv_iconst (v := nI 0) hx hb dX5_stake_1 (by decide) ?_
  refine lv_iconst (v := nI 2) hx hb dX5_stake_2 (by decide) ?_
  refine vp_callSi (W.runS ⟨hx, hb, hml, hown, hts⟩ (c_in l E _ _ _ _) (va_cwS 3 hts gX5_stake_X5_in rfl rfl rfl (by decide +kernel) ⟨Nat.le_of_ble_eq_true rfl, Nat.le_of_ble_eq_true rfl⟩) (ePu_S hP hE) rfl rfl hl.1 rfl (lv_room (Nat.le_of_ble_eq_true rfl)) dX5_stake_3 ⟨Nat.zero_le _, Nat.zero_le _⟩) (fun r9 hr9 => ?_)
  subst hr9
  refine q_eq hx hb 41 dX5_stake_6 (by decide) (fun c6 => ?_) (fun c6 => ?_)
  · skip
    refine lv_iconst (v := (-1)) hx hb dX5_stake_41 (by decide) ?_
    exact ret_Pi hx hb hr hlocks dX5_stake_42 (stk_no (fun ⟨p, i, q, e1, e2, e3, g1, g2, g3, g4⟩ => c6 (by rw [e1]; exact (nI_rngI (by omega) (by decide) (by decide)).mpr ⟨by omega, g1⟩)))
  · skip
    obtain ⟨p, -, hp2, rfl⟩ := nI_rng (by decide) c6 (by decide)
    refine lv_aload_n hx hb dX5_stake_9 rfl (lv_at hl 0 rfl) ?_
    refine lv_iload_n hx hb dX5_stake_10 rfl (lv_at hl 2 rfl) ?_
    refine vp_callSi (W.runV ⟨hx, hb, hml, hown, hts⟩ (m_isGame l E am g hz n kd ch tm tx lm (fun j => nI (td j)) tr bs nw th pd rest _) (cwV 1 hts gX5_stake_X5_isGame rfl rfl rfl (by decide +kernel) ⟨Nat.le_of_ble_eq_true rfl, Nat.le_of_ble_eq_true rfl⟩) (ePu_V hP hE (ci := 5) (k := 0) rfl rfl) rfl rfl hl.1 rfl (lv_room (Nat.le_of_ble_eq_true rfl)) dX5_stake_11 ⟨Nat.zero_le _, Nat.zero_le _⟩) (fun r9 hr9 => ?_)
    subst hr9
    refine q_eq hx hb 41 dX5_stake_14 (by decide) (fun c14 => ?_) (fun c14 => ?_)
    · skip
      refine lv_iconst (v := (-1)) hx hb dX5_stake_41 (by decide) ?_
      exact ret_Pi hx hb hr hlocks dX5_stake_42 (stk_no (fun ⟨p, i, q, e1, e2, e3, g1, g2, g3, g4⟩ => c14 ((nI_gm (by omega)).mpr ⟨i, g2, e2⟩)))
    · skip
      obtain ⟨i, hi, rfl⟩ := (nI_gm (by omega)).mp c14
      refine lv_iload_n hx hb dX5_stake_17 rfl (lv_at hl 3 rfl) ?_
      refine lv_iconst (v := nI 1) hx hb dX5_stake_18 (by decide) ?_
      refine lv_aload_n hx hb dX5_stake_19 rfl (lv_at hl 0 rfl) ?_
      refine va_get (D := E.1) (ci := 5) (C := RX5) (T := TX5) (N := 14) hx hb hts hinX5 hown hE.1 hP 0 rfl rfl 0 (by decide) (hts (.fieldLink RX5 7 "StakeHouseModel" "goal" "I") (by decide +kernel)) (fun _ h9 => h9) rfl dX5_stake_20 ?_
      refine lv_iconst (v := nI 1) hx hb dX5_stake_23 (by decide) ?_
      refine lv_isub hx hb dX5_stake_24 ?_
      refine tp_i (pk_sub (by omega)) ?_
      refine vp_callSi (W.runS ⟨hx, hb, hml, hown, hts⟩ (c_in l E _ _ _ _) (va_cwS 3 hts gX5_stake_X5_in rfl rfl rfl (by decide +kernel) ⟨Nat.le_of_ble_eq_true rfl, Nat.le_of_ble_eq_true rfl⟩) (ePu_S hP hE) rfl rfl hl.1 rfl (lv_room (Nat.le_of_ble_eq_true rfl)) dX5_stake_25 ⟨Nat.zero_le _, Nat.zero_le _⟩) (fun r9 hr9 => ?_)
      subst hr9
      refine q_eq hx hb 41 dX5_stake_28 (by decide) (fun c28 => ?_) (fun c28 => ?_)
      · skip
        refine lv_iconst (v := (-1)) hx hb dX5_stake_41 (by decide) ?_
        exact ret_Pi hx hb hr hlocks dX5_stake_42 (stk_no (fun ⟨p, i, q, e1, e2, e3, g1, g2, g3, g4⟩ => c28 (by rw [e3]; exact (nI_rngI (by omega) (by decide) (by omega)).mpr ⟨g3, by omega⟩)))
      · skip
        obtain ⟨q, hq1, hq2, rfl⟩ := nI_rng (by omega) c28 (by decide)
        refine lv_aload_n hx hb dX5_stake_31 rfl (lv_at hl 0 rfl) ?_
        refine lv_iload_n hx hb dX5_stake_32 rfl (lv_at hl 1 rfl) ?_
        refine lv_iload_n hx hb dX5_stake_33 rfl (lv_at hl 2 rfl) ?_
        refine lv_iload_n hx hb dX5_stake_34 rfl (lv_at hl 3 rfl) ?_
        refine vp_callSi (W.runV ⟨hx, hb, hml, hown, hts⟩ (m_stakeOf l E am g hz n kd ch tm tx lm td tr bs nw th pd rest hn gd hM hg32 htd2 p i q hp2 hi hq1 (by omega)) (cwV 3 hts gX5_stake_X5_stakeOf rfl rfl rfl (by decide +kernel) ⟨Nat.le_of_ble_eq_true rfl, Nat.le_of_ble_eq_true rfl⟩) (ePu_V hP hE (ci := 5) (k := 0) rfl rfl) rfl rfl hl.1 rfl (lv_room (Nat.le_of_ble_eq_true rfl)) dX5_stake_35 ⟨Nat.zero_le _, Nat.zero_le _⟩) (fun r9 hr9 => ?_)
        subst hr9
        refine lv_goto (tgt := 42) hx hb dX5_stake_38 (by decide) ?_
        exact ret_Pi hx hb hr hlocks dX5_stake_42 (stk_yes hg32 hn hp2 hi hq1 (by omega))
set_option maxHeartbeats 4000000 in
set_option maxRecDepth 100000 in
/-- count -/
theorem m_count (l : Launch) (E : eT) (am : Nat → Nat) (g hz n : Nat) (kd ch tm tx lm : Nat → Int32) (td : Nat → Int32) (tr : Int64) (bs nw th : Nat → Int64) (pd : Int64) (rest : va_W) (v : Int32) : mPi l yX5_count wsX5_count 0 0 E (wM E am g hz n kd ch tm tx lm td tr bs nw th pd ++ rest) [.ref (am 0), .int v] (fun r => r = cnt_of g hz n v) := by
  refine mP_of (cc := cX5_count) (maxL := 2) (ret := (some .int)) (by decide) rfl (Nat.le_of_ble_eq_true rfl) ?_
  intro p0 e0 s m below meth c0 ls hx hb hr hml hts hown hlocks hE hP hl
  have hown : s.vm.findClass RX5 = some m.cls := hown
  have hl : lv_has ls 2 [(0, .ref (am 0)), (1, .int v)] := hl
  have hinX5 : ∀ w ∈ wsX50, w ∈ wsX5_count := by decide +kernel
  refine lv_iload_n hx hb dX5_count_0 rfl (lv_at hl 1 rfl) ?_
  refine lv_if_ne (tgt := 11) hx hb dX5_count_1 (by decide) (fun c1 => ?_) (fun c1 => ?_)
  · skip
    refine lv_iload_n hx hb dX5_count_11 rfl (lv_at hl 1 rfl) ?_
    refine lv_iconst (v := nI 1) hx hb dX5_count_12 (by decide) ?_
    refine lv_icmp_ne (tgt := 23) hx hb dX5_count_13 (by decide) (fun c13 => ?_) (fun c13 => ?_)
    · skip
      refine lv_iload_n hx hb dX5_count_23 rfl (lv_at hl 1 rfl) ?_
      refine lv_iconst (v := nI 2) hx hb dX5_count_24 (by decide) ?_
      refine lv_icmp_ne (tgt := 35) hx hb dX5_count_25 (by decide) (fun c25 => ?_) (fun c25 => ?_)
      · skip
        refine lv_iconst (v := (-1)) hx hb dX5_count_35 (by decide) ?_
        exact ret_Pi hx hb hr hlocks dX5_count_36 (show _ = cnt_of g hz n v from ((if_neg c1).trans ((if_neg c13).trans (if_neg c25))).symm)
      · skip
        refine lv_aload_n hx hb dX5_count_28 rfl (lv_at hl 0 rfl) ?_
        refine va_get (D := E.1) (ci := 5) (C := RX5) (T := TX5) (N := 14) hx hb hts hinX5 hown hE.1 hP 0 rfl rfl 2 (by decide) (hts (.fieldLink RX5 45 "StakeHouseModel" "games" "I") (by decide +kernel)) (fun _ h9 => h9) rfl dX5_count_29 ?_
        refine lv_goto (tgt := 36) hx hb dX5_count_32 (by decide) ?_
        exact ret_Pi hx hb hr hlocks dX5_count_36 (show _ = cnt_of g hz n v from ((if_neg c1).trans ((if_neg c13).trans (if_pos c25))).symm)
    · skip
      refine lv_aload_n hx hb dX5_count_16 rfl (lv_at hl 0 rfl) ?_
      refine va_get (D := E.1) (ci := 5) (C := RX5) (T := TX5) (N := 14) hx hb hts hinX5 hown hE.1 hP 0 rfl rfl 1 (by decide) (hts (.fieldLink RX5 13 "StakeHouseModel" "horizon" "I") (by decide +kernel)) (fun _ h9 => h9) rfl dX5_count_17 ?_
      refine lv_goto (tgt := 36) hx hb dX5_count_20 (by decide) ?_
      exact ret_Pi hx hb hr hlocks dX5_count_36 (show _ = cnt_of g hz n v from ((if_neg c1).trans (if_pos c13)).symm)
  · skip
    refine lv_aload_n hx hb dX5_count_4 rfl (lv_at hl 0 rfl) ?_
    refine va_get (D := E.1) (ci := 5) (C := RX5) (T := TX5) (N := 14) hx hb hts hinX5 hown hE.1 hP 0 rfl rfl 0 (by decide) (hts (.fieldLink RX5 7 "StakeHouseModel" "goal" "I") (by decide +kernel)) (fun _ h9 => h9) rfl dX5_count_5 ?_
    refine lv_goto (tgt := 36) hx hb dX5_count_8 (by decide) ?_
    exact ret_Pi hx hb hr hlocks dX5_count_36 (show _ = cnt_of g hz n v by unfold cnt_of; rw [if_pos c1])
set_option maxHeartbeats 4000000 in
set_option maxRecDepth 100000 in
/-- trace -/
theorem m_trace (l : Launch) (E : eT) (am : Nat → Nat) (g hz n : Nat) (kd ch tm tx lm : Nat → Int32) (td : Nat → Int32) (tr : Int64) (bs nw th : Nat → Int64) (pd : Int64) (rest : va_W) : mPl l yX5_trace wsX5_trace 0 0 E (wM E am g hz n kd ch tm tx lm td tr bs nw th pd ++ rest) [.ref (am 0)] (fun r => r = tr) := by
  refine mP_of (cc := cX5_trace) (maxL := 1) (ret := (some .long)) (by decide) rfl (Nat.le_of_ble_eq_true rfl) ?_
  intro p0 e0 s m below meth c0 ls hx hb hr hml hts hown hlocks hE hP hl
  have hown : s.vm.findClass RX5 = some m.cls := hown
  have hl : lv_has ls 1 [(0, .ref (am 0))] := hl
  have hinX5 : ∀ w ∈ wsX50, w ∈ wsX5_trace := by decide +kernel
  refine lv_aload_n hx hb dX5_trace_0 rfl (lv_at hl 0 rfl) ?_
  refine va_get (D := E.1) (ci := 5) (C := RX5) (T := TX5) (N := 14) hx hb hts hinX5 hown hE.1 hP 0 rfl rfl 9 (by decide) (hts (.fieldLink RX5 56 "StakeHouseModel" "trace" "J") (by decide +kernel)) (fun _ h9 => h9) rfl dX5_trace_1 ?_
  exact ret_Pl hx hb hr hlocks dX5_trace_4 rfl
def sm (f : Nat → Nat) : Nat → Nat
  | 0 => 0
  | k + 1 => sm f k + f k
set_option maxHeartbeats 4000000 in
set_option maxRecDepth 100000 in
/-- weightAt -/
theorem m_weightAt (l : Launch) (E : eT) (am : Nat → Nat) (g hz n : Nat) (kd ch tm tx lm : Nat → Int32) (td : Nat → Int32) (tr : Int64) (bs nw th : Nat → Int64) (pd : Int64) (rest : va_W) (N : Nat → Nat) (hN : ∀ x, x < 2145 → nw x = lN (N x)) (q : Nat) (hq : q ≤ 32) : mPl l yX5_weightAt wsX5_weightAt 0 0 E (wM E am g hz n kd ch tm tx lm td tr bs nw th pd ++ rest) [.ref (am 0), .int (nI q)] (fun r => r = lN (sm (fun x => N (65 * q + x)) 65)) := by
  refine mP_of (cc := cX5_weightAt) (maxL := 5) (ret := (some .long)) (by decide) rfl (Nat.le_of_ble_eq_true rfl) ?_
  intro p0 e0 s m below meth c0 ls hx hb hr hml hts hown hlocks hE hP hl
  have hown : s.vm.findClass RX5 = some m.cls := hown
  have hl : lv_has ls 5 [(0, .ref (am 0)), (1, .int (nI q))] := hl
  have hinX5 : ∀ w ∈ wsX50, w ∈ wsX5_weightAt := by decide +kernel
  refine lv_lconst (v := lN 0) hx hb dX5_weightAt_0 rfl ?_
  refine st_l1 hx hb 2 dX5_weightAt_1 rfl hl (by decide) rfl (fun ls hl => ?_)
  refine lv_iconst (v := nI 0) hx hb dX5_weightAt_2 (by decide) ?_
  refine st_i2 hx hb 3 dX5_weightAt_3 hl (by decide) rfl (fun ls hl => ?_)
  refine wLoop 65 0 (fun i ls => lv_has ls 5 [(0, .ref (am 0)), (1, .int (nI q)), (2, .long (lN (sm (fun x => N (65 * q + x)) i))), (4, .int (nI i))]) (Nat.zero_le _) (fun i ls hi hl ih => ?_) (fun ls hl => ?_) hl
  · skip
    refine lv_iload hx hb dX5_weightAt_5 (lv_at hl 3 rfl) ?_
    refine lv_bipush (v := nI 65) hx hb dX5_weightAt_7 (by decide) ?_
    refine n_ge hx hb (by omega) (by omega) 33 dX5_weightAt_9 (by decide) (fun c9 => ?_) (fun c9 => ?_)
    · skip
      exact absurd c9 (by omega)
    · skip
      refine lv_lload_n hx hb dX5_weightAt_12 rfl (lv_at hl 2 rfl) ?_
      refine lv_aload_n hx hb dX5_weightAt_13 rfl (lv_at hl 0 rfl) ?_
      refine va_get (D := E.1) (ci := 5) (C := RX5) (T := TX5) (N := 14) hx hb hts hinX5 hown hE.1 hP 0 rfl rfl 11 (by decide) (hts (.fieldLink RX5 39 "StakeHouseModel" "now" "[J") (by decide +kernel)) (fun _ h9 => h9) rfl dX5_weightAt_14 ?_
      refine lv_bipush (v := nI 65) hx hb dX5_weightAt_17 (by decide) ?_
      refine lv_iload_n hx hb dX5_weightAt_19 rfl (lv_at hl 1 rfl) ?_
      refine lv_imul hx hb dX5_weightAt_20 ?_
      refine tp_i (pk_mul _ _) ?_
      refine lv_iload hx hb dX5_weightAt_21 (lv_at hl 3 rfl) ?_
      refine lv_iadd hx hb dX5_weightAt_23 ?_
      refine tp_i (nI_add _ _) ?_
      refine va_lald hx hb hE.1 hP 8 1 rfl rfl (vp_in_nI (by omega) (by decide)) dX5_weightAt_24 ?_
      refine tp_l (show _ = lN (N (65 * q + i)) by rw [nI_clamp (by omega)]; exact hN _ (by omega)) ?_
      refine lv_ladd hx hb dX5_weightAt_25 ?_
      refine tp_l (lN_add _ _) ?_
      refine st_l1 hx hb 2 dX5_weightAt_26 rfl hl (by decide) rfl (fun ls hl => ?_)
      refine st_inc hx hb 3 dX5_weightAt_27 hl rfl (nI_1 _) (by decide) rfl (fun ls hl => ?_)
      refine lv_goto (tgt := 5) hx hb dX5_weightAt_30 (by decide) ?_
      exact ih _ hl
  · skip
    refine lv_iload hx hb dX5_weightAt_5 (lv_at hl 3 rfl) ?_
    refine lv_bipush (v := nI 65) hx hb dX5_weightAt_7 (by decide) ?_
    refine n_ge hx hb (by omega) (by omega) 33 dX5_weightAt_9 (by decide) (fun c9 => ?_) (fun c9 => ?_)
    · skip
      refine lv_lload_n hx hb dX5_weightAt_33 rfl (lv_at hl 2 rfl) ?_
      exact ret_Pl hx hb hr hlocks dX5_weightAt_34 rfl
    · skip
      exact absurd c9 (by omega)
set_option maxHeartbeats 4000000 in
set_option maxRecDepth 100000 in
/-- work -/
theorem m_work (l : Launch) (E : eT) (am : Nat → Nat) (g hz n : Nat) (kd ch tm tx lm : Nat → Int32) (td : Nat → Int32) (tr : Int64) (bs nw th : Nat → Int64) (pd : Int64) (rest : va_W) (hn : n ≤ 4) (gd : Nat → gT) (hM : ∀ i, i < n → gArg (gd i) (kd i) (ch i) (tm i) (tx i) (lm i)) (hg2 : 2 ≤ g) (hg32 : g ≤ 32) (t mn lo cnt : Nat) (ht : t ≤ 12) (hmn : mn ≤ 1) (hc1 : 1 ≤ cnt) (hlc : lo + cnt ≤ n) : mWv l yX5_work wsX5_work 3 80 0 0 E (wM E am g hz n kd ch tm tx lm td tr bs nw th pd ++ rest) [.ref (am 0), .int (nI t), .int (nI mn), .int (nI lo), .int (nI (lo + cnt - 1))] (fun ws1 => ∃ bs1 : Nat → Int64, (∀ k, k ≤ t → ∀ q, q ≤ g → bs1 (33 * k + q) = lN (gBst g gd lo cnt (2 * mn) k q)) ∧ ws1 = wM E am g hz n kd ch tm tx lm td tr bs1 nw th pd ++ rest) := by
  intro sz
  refine mW_of (cc := cX5_work) (maxL := 13) (ret := none) (Qc := fun sz => va_Qv (fun ws1 => ∃ bs1 : Nat → Int64, (∀ k, k ≤ t → ∀ q, q ≤ g → bs1 (33 * k + q) = lN (gBst g gd lo cnt (2 * mn) k q)) ∧ ws1 = wM E am g hz n kd ch tm tx lm td tr bs1 nw th pd ++ rest) (eAt E (va_A (wM E am g hz n kd ch tm tx lm td tr bs nw th pd ++ rest) sz)) (va_A (wM E am g hz n kd ch tm tx lm td tr bs nw th pd ++ rest) sz)) (by decide) rfl (Nat.le_of_ble_eq_true rfl) ?_
  intro p0 e0 s m below meth c0 ls hx hb hr hml hts hown hlocks hin hE hP hD hl
  have hS : va_S (va_A (wM E am g hz n kd ch tm tx lm td tr bs nw th pd ++ rest) s.heap.size) s.heap s.heap [] := va_S.rf
  have hA : ∀ q, s.heap.size ≤ q → (va_A (wM E am g hz n kd ch tm tx lm td tr bs nw th pd ++ rest) s.heap.size) q := fun q h => Or.inr h
  have hown : s.vm.findClass RX5 = some m.cls := hown
  have hl : lv_has ls 13 [(0, .ref (am 0)), (1, .int (nI t)), (2, .int (nI mn)), (3, .int (nI lo)), (4, .int (nI (lo + cnt - 1)))] := hl
  have hinX5 : ∀ w ∈ wsX50, w ∈ wsX5_work := by decide +kernel
  have hOk : ∀ i, i < cnt → gOk (gd (lo + i)) := fun i hi => (hM _ (by omega)).1
  refine lv_iconst (v := nI 0) hx hb dX5_work_0 (by decide) ?_
  refine st_i2 hx hb 5 dX5_work_1 hl (by decide) rfl (fun ls hl => ?_)
  refine wLoopH (g + 1) 0 (fun k H locs ls => ∃ bs1 : Nat → Int64, (∀ q, q < k → bs1 q = lN (gBst g gd lo cnt (2 * mn) 0 q)) ∧ va_P E.1 vwCl (wM E am g hz n kd ch tm tx lm td tr bs1 nw th pd ++ rest) H ∧ va_D (va_A (wM E am g hz n kd ch tm tx lm td tr bs nw th pd ++ rest) s.heap.size) (wM E am g hz n kd ch tm tx lm td tr bs1 nw th pd ++ rest) ∧ va_S (va_A (wM E am g hz n kd ch tm tx lm td tr bs nw th pd ++ rest) s.heap.size) s.heap H locs ∧ lv_has ls 13 [(0, .ref (am 0)), (1, .int (nI t)), (2, .int (nI mn)), (3, .int (nI lo)), (4, .int (nI (lo + cnt - 1))), (5, .int (nI k))]) (Nat.zero_le _) (fun k H locs ls hi_k hI ihk => ?_) (fun H locs ls hI => ?_) ⟨bs, fun q hq => absurd hq (by omega), hP, hD, hS, hl⟩
  · skip
    obtain ⟨bs1, hb1, hP, hD, hS, hl⟩ := hI
    refine lv_iload hx hb dX5_work_3 (lv_at hl 5 rfl) ?_
    refine lv_aload_n hx hb dX5_work_5 rfl (lv_at hl 0 rfl) ?_
    refine va_get (D := E.1) (ci := 5) (C := RX5) (T := TX5) (N := 14) hx hb hts hinX5 hown hE.1 hP 0 rfl rfl 0 (by decide) (hts (.fieldLink RX5 7 "StakeHouseModel" "goal" "I") (by decide +kernel)) (fun _ h9 => h9) rfl dX5_work_6 ?_
    refine n_gt hx hb (by omega) (by omega) 49 dX5_work_9 (by decide) (fun c9 => ?_) (fun c9 => ?_)
    · skip
      exact absurd c9 (by omega)
    · skip
      refine lv_aload_n hx hb dX5_work_12 rfl (lv_at hl 0 rfl) ?_
      refine va_get (D := E.1) (ci := 5) (C := RX5) (T := TX5) (N := 14) hx hb hts hinX5 hown hE.1 hP 0 rfl rfl 10 (by decide) (hts (.fieldLink RX5 35 "StakeHouseModel" "best" "[J") (by decide +kernel)) (fun _ h9 => h9) rfl dX5_work_13 ?_
      refine lv_iload hx hb dX5_work_16 (lv_at hl 5 rfl) ?_
      refine lv_iload_n hx hb dX5_work_18 rfl (lv_at hl 2 rfl) ?_
      refine z_eq hx hb (by omega) 28 dX5_work_19 (by decide) (fun c19 => ?_) (fun c19 => ?_)
      · skip
        obtain rfl : mn = 0 := c19
        refine lv_iload hx hb dX5_work_28 (lv_at hl 5 rfl) ?_
        refine lv_aload_n hx hb dX5_work_30 rfl (lv_at hl 0 rfl) ?_
        refine va_get (D := E.1) (ci := 5) (C := RX5) (T := TX5) (N := 14) hx hb hts hinX5 hown hE.1 hP 0 rfl rfl 0 (by decide) (hts (.fieldLink RX5 7 "StakeHouseModel" "goal" "I") (by decide +kernel)) (fun _ h9 => h9) rfl dX5_work_31 ?_
        refine n_ne hx hb (by omega) (by omega) 41 dX5_work_34 (by decide) (fun c34 => ?_) (fun c34 => ?_)
        · skip
          have e9 : gBst g gd lo cnt (2 * 0) 0 k = 0 := if_neg c34
          refine lv_lconst (v := lN 0) hx hb dX5_work_41 rfl ?_
          refine va_last hx hb hE.1 hP hD hS 7 1 rfl rfl (vp_in_nI (by omega) (by decide)) dX5_work_42 (fun H locs hP hD hS => ?_)
          have hP : va_P E.1 vwCl (wM E am g hz n kd ch tm tx lm td tr (vp_updL bs1 k (lN 0)) nw th pd ++ rest) H := (by rw [nI_clamp (by omega)] at hP; exact hP)
          have hD : va_D (va_A (wM E am g hz n kd ch tm tx lm td tr bs nw th pd ++ rest) s.heap.size) (wM E am g hz n kd ch tm tx lm td tr (vp_updL bs1 k (lN 0)) nw th pd ++ rest) := (by rw [nI_clamp (by omega)] at hD; exact hD)
          refine st_inc hx hb 5 dX5_work_43 hl rfl (nI_1 _) (by decide) rfl (fun ls hl => ?_)
          refine lv_goto (tgt := 3) hx hb dX5_work_46 (by decide) ?_
          refine ihk _ _ _ ⟨_, fun q hq => ?_, hP, hD, hS, hl⟩
          by_cases hqk : q = k
          · subst hqk; rw [pk_uLs, e9]
          · rw [pk_uLn hqk]; exact hb1 q (by omega)
        · skip
          have e9 : gBst g gd lo cnt (2 * 0) 0 k = 1 := if_pos c34
          refine lv_lconst (v := lN 1) hx hb dX5_work_37 rfl ?_
          refine lv_goto (tgt := 42) hx hb dX5_work_38 (by decide) ?_
          refine va_last hx hb hE.1 hP hD hS 7 1 rfl rfl (vp_in_nI (by omega) (by decide)) dX5_work_42 (fun H locs hP hD hS => ?_)
          have hP : va_P E.1 vwCl (wM E am g hz n kd ch tm tx lm td tr (vp_updL bs1 k (lN 1)) nw th pd ++ rest) H := (by rw [nI_clamp (by omega)] at hP; exact hP)
          have hD : va_D (va_A (wM E am g hz n kd ch tm tx lm td tr bs nw th pd ++ rest) s.heap.size) (wM E am g hz n kd ch tm tx lm td tr (vp_updL bs1 k (lN 1)) nw th pd ++ rest) := (by rw [nI_clamp (by omega)] at hD; exact hD)
          refine st_inc hx hb 5 dX5_work_43 hl rfl (nI_1 _) (by decide) rfl (fun ls hl => ?_)
          refine lv_goto (tgt := 3) hx hb dX5_work_46 (by decide) ?_
          refine ihk _ _ _ ⟨_, fun q hq => ?_, hP, hD, hS, hl⟩
          by_cases hqk : q = k
          · subst hqk; rw [pk_uLs, e9]
          · rw [pk_uLn hqk]; exact hb1 q (by omega)
      · skip
        obtain rfl : mn = 1 := by omega
        have e9 : gBst g gd lo cnt (2 * 1) 0 k = k := rfl
        refine lv_iload hx hb dX5_work_22 (lv_at hl 5 rfl) ?_
        refine lv_i2l (v := lN _) hx hb dX5_work_24 (nI_l (by omega)) ?_
        refine lv_goto (tgt := 42) hx hb dX5_work_25 (by decide) ?_
        refine va_last hx hb hE.1 hP hD hS 7 1 rfl rfl (vp_in_nI (by omega) (by decide)) dX5_work_42 (fun H locs hP hD hS => ?_)
        have hP : va_P E.1 vwCl (wM E am g hz n kd ch tm tx lm td tr (vp_updL bs1 k (lN k)) nw th pd ++ rest) H := (by rw [nI_clamp (by omega)] at hP; exact hP)
        have hD : va_D (va_A (wM E am g hz n kd ch tm tx lm td tr bs nw th pd ++ rest) s.heap.size) (wM E am g hz n kd ch tm tx lm td tr (vp_updL bs1 k (lN k)) nw th pd ++ rest) := (by rw [nI_clamp (by omega)] at hD; exact hD)
        refine st_inc hx hb 5 dX5_work_43 hl rfl (nI_1 _) (by decide) rfl (fun ls hl => ?_)
        refine lv_goto (tgt := 3) hx hb dX5_work_46 (by decide) ?_
        refine ihk _ _ _ ⟨_, fun q hq => ?_, hP, hD, hS, hl⟩
        by_cases hqk : q = k
        · subst hqk; rw [pk_uLs, e9]
        · rw [pk_uLn hqk]; exact hb1 q (by omega)
  · skip
    obtain ⟨bs1, hb1, hP, hD, hS, hl⟩ := hI
    refine lv_iload hx hb dX5_work_3 (lv_at hl 5 rfl) ?_
    refine lv_aload_n hx hb dX5_work_5 rfl (lv_at hl 0 rfl) ?_
    refine va_get (D := E.1) (ci := 5) (C := RX5) (T := TX5) (N := 14) hx hb hts hinX5 hown hE.1 hP 0 rfl rfl 0 (by decide) (hts (.fieldLink RX5 7 "StakeHouseModel" "goal" "I") (by decide +kernel)) (fun _ h9 => h9) rfl dX5_work_6 ?_
    refine n_gt hx hb (by omega) (by omega) 49 dX5_work_9 (by decide) (fun c9 => ?_) (fun c9 => ?_)
    · skip
      refine lv_iconst (v := nI 1) hx hb dX5_work_49 (by decide) ?_
      refine st_i2 hx hb 5 dX5_work_50 hl (by decide) rfl (fun ls hl => ?_)
      refine wLoopH t 0 (fun i H locs ls => ∃ bs2 : Nat → Int64, (∀ k, k ≤ i → ∀ q, q ≤ g → bs2 (33 * k + q) = lN (gBst g gd lo cnt (2 * mn) k q)) ∧ va_P E.1 vwCl (wM E am g hz n kd ch tm tx lm td tr bs2 nw th pd ++ rest) H ∧ va_D (va_A (wM E am g hz n kd ch tm tx lm td tr bs nw th pd ++ rest) s.heap.size) (wM E am g hz n kd ch tm tx lm td tr bs2 nw th pd ++ rest) ∧ va_S (va_A (wM E am g hz n kd ch tm tx lm td tr bs nw th pd ++ rest) s.heap.size) s.heap H locs ∧ lv_has ls 13 [(0, .ref (am 0)), (1, .int (nI t)), (2, .int (nI mn)), (3, .int (nI lo)), (4, .int (nI (lo + cnt - 1))), (5, .int (nI (i + 1)))]) (Nat.zero_le _) (fun i H locs ls hi_i hI ihi => ?_) (fun H locs ls hI => ?_) ⟨bs1, fun k hk q hq => by rw [show k = 0 by omega, Nat.mul_zero, Nat.zero_add]; exact hb1 q (by omega), hP, hD, hS, hl⟩
      · skip
        obtain ⟨bs2, hb2, hP, hD, hS, hl⟩ := hI
        refine lv_iload hx hb dX5_work_52 (lv_at hl 5 rfl) ?_
        refine lv_iload_n hx hb dX5_work_54 rfl (lv_at hl 1 rfl) ?_
        refine n_gt hx hb (by omega) (by omega) 201 dX5_work_55 (by decide) (fun c55 => ?_) (fun c55 => ?_)
        · skip
          exact absurd c55 (by omega)
        · skip
          refine lv_iconst (v := nI 0) hx hb dX5_work_58 (by decide) ?_
          refine st_i2 hx hb 6 dX5_work_59 hl (by decide) rfl (fun ls hl => ?_)
          refine wLoopH (g + 1) 0 (fun q H locs ls => ∃ bs3 : Nat → Int64, (∀ k, k ≤ i → ∀ x, x ≤ g → bs3 (33 * k + x) = lN (gBst g gd lo cnt (2 * mn) k x)) ∧ (∀ x, x < q → bs3 (33 * (i + 1) + x) = lN (gBst g gd lo cnt (2 * mn) (i + 1) x)) ∧ va_P E.1 vwCl (wM E am g hz n kd ch tm tx lm td tr bs3 nw th pd ++ rest) H ∧ va_D (va_A (wM E am g hz n kd ch tm tx lm td tr bs nw th pd ++ rest) s.heap.size) (wM E am g hz n kd ch tm tx lm td tr bs3 nw th pd ++ rest) ∧ va_S (va_A (wM E am g hz n kd ch tm tx lm td tr bs nw th pd ++ rest) s.heap.size) s.heap H locs ∧ lv_has ls 13 [(0, .ref (am 0)), (1, .int (nI t)), (2, .int (nI mn)), (3, .int (nI lo)), (4, .int (nI (lo + cnt - 1))), (5, .int (nI (i + 1))), (6, .int (nI q))]) (Nat.zero_le _) (fun q H locs ls hi_q hI ihq => ?_) (fun H locs ls hI => ?_) ⟨bs2, hb2, fun x hx => absurd hx (by omega), hP, hD, hS, hl⟩
          · skip
            obtain ⟨bs3, hb3, hq3, hP, hD, hS, hl⟩ := hI
            have hBd : ∀ x, x ≤ g → gBst g gd lo cnt (2 * mn) i x ≤ 2 ^ 49 := fun x hx => Nat.le_trans (gBst_le hg32 hOk i x hx) (b49 (by omega))
            refine lv_iload hx hb dX5_work_61 (lv_at hl 6 rfl) ?_
            refine lv_aload_n hx hb dX5_work_63 rfl (lv_at hl 0 rfl) ?_
            refine va_get (D := E.1) (ci := 5) (C := RX5) (T := TX5) (N := 14) hx hb hts hinX5 hown hE.1 hP 0 rfl rfl 0 (by decide) (hts (.fieldLink RX5 7 "StakeHouseModel" "goal" "I") (by decide +kernel)) (fun _ h9 => h9) rfl dX5_work_64 ?_
            refine n_gt hx hb (by omega) (by omega) 195 dX5_work_67 (by decide) (fun c67 => ?_) (fun c67 => ?_)
            · skip
              exact absurd c67 (by omega)
            · skip
              refine lv_ldc2 (v := 16) hx hb hown (hts (.constantLong RX5 72 (16)) (by decide +kernel)) dX5_work_70 ?_
              refine tp_l (show (16 : Int64) = lN 16 from rfl) ?_
              refine lv_aload_n hx hb dX5_work_73 rfl (lv_at hl 0 rfl) ?_
              refine va_get (D := E.1) (ci := 5) (C := RX5) (T := TX5) (N := 14) hx hb hts hinX5 hown hE.1 hP 0 rfl rfl 10 (by decide) (hts (.fieldLink RX5 35 "StakeHouseModel" "best" "[J") (by decide +kernel)) (fun _ h9 => h9) rfl dX5_work_74 ?_
              refine lv_bipush (v := nI 33) hx hb dX5_work_77 (by decide) ?_
              refine lv_iload hx hb dX5_work_79 (lv_at hl 5 rfl) ?_
              refine lv_iconst (v := nI 1) hx hb dX5_work_81 (by decide) ?_
              refine lv_isub hx hb dX5_work_82 ?_
              refine tp_i (show _ = nI i from nI_pred i) ?_
              refine lv_imul hx hb dX5_work_83 ?_
              refine tp_i (pk_mul _ _) ?_
              refine lv_iload hx hb dX5_work_84 (lv_at hl 6 rfl) ?_
              refine lv_iadd hx hb dX5_work_86 ?_
              refine tp_i (nI_add _ _) ?_
              refine va_lald hx hb hE.1 hP 7 1 rfl rfl (vp_in_nI (by omega) (by decide)) dX5_work_87 ?_
              refine tp_l (show _ = lN (gBst g gd lo cnt (2 * mn) i q) by rw [nI_clamp (by omega)]; exact hb3 i (by omega) q (by omega)) ?_
              refine lv_lmul hx hb dX5_work_88 ?_
              refine tp_l (lN_mul _ _) ?_
              refine st_l2 hx hb 7 dX5_work_89 hl (by decide) rfl (fun ls hl => ?_)
              refine lv_iload_n hx hb dX5_work_91 rfl (lv_at hl 3 rfl) ?_
              refine st_i2 hx hb 8 dX5_work_92 hl (by decide) rfl (fun ls hl => ?_)
              refine wCut (fun ls : Array Slot => F0 m 174 ls []) (fun ls => lv_has ls 13 [(0, .ref (am 0)), (1, .int (nI t)), (2, .int (nI mn)), (3, .int (nI lo)), (4, .int (nI (lo + cnt - 1))), (5, .int (nI (i + 1))), (6, .int (nI q)), (7, .long (lN (gBst g gd lo cnt (2 * mn) (i + 1) q)))]) ?_ ?_
              · skip
                intro ls hl
                refine lv_aload_n hx hb dX5_work_174 rfl (lv_at hl 0 rfl) ?_
                refine va_get (D := E.1) (ci := 5) (C := RX5) (T := TX5) (N := 14) hx hb hts hinX5 hown hE.1 hP 0 rfl rfl 10 (by decide) (hts (.fieldLink RX5 35 "StakeHouseModel" "best" "[J") (by decide +kernel)) (fun _ h9 => h9) rfl dX5_work_175 ?_
                refine lv_bipush (v := nI 33) hx hb dX5_work_178 (by decide) ?_
                refine lv_iload hx hb dX5_work_180 (lv_at hl 5 rfl) ?_
                refine lv_imul hx hb dX5_work_182 ?_
                refine tp_i (pk_mul _ _) ?_
                refine lv_iload hx hb dX5_work_183 (lv_at hl 6 rfl) ?_
                refine lv_iadd hx hb dX5_work_185 ?_
                refine tp_i (nI_add _ _) ?_
                refine lv_lload hx hb dX5_work_186 (lv_at hl 7 rfl) ?_
                refine va_last hx hb hE.1 hP hD hS 7 1 rfl rfl (vp_in_nI (by omega) (by decide)) dX5_work_188 (fun H locs hP hD hS => ?_)
                have hP : va_P E.1 vwCl (wM E am g hz n kd ch tm tx lm td tr (vp_updL bs3 (33 * (i + 1) + q) (lN (gBst g gd lo cnt (2 * mn) (i + 1) q))) nw th pd ++ rest) H := (by rw [nI_clamp (by omega)] at hP; exact hP)
                have hD : va_D (va_A (wM E am g hz n kd ch tm tx lm td tr bs nw th pd ++ rest) s.heap.size) (wM E am g hz n kd ch tm tx lm td tr (vp_updL bs3 (33 * (i + 1) + q) (lN (gBst g gd lo cnt (2 * mn) (i + 1) q))) nw th pd ++ rest) := (by rw [nI_clamp (by omega)] at hD; exact hD)
                refine st_inc hx hb 6 dX5_work_189 hl rfl (nI_1 _) (by decide) rfl (fun ls hl => ?_)
                refine lv_goto (tgt := 61) hx hb dX5_work_192 (by decide) ?_
                refine ihq _ _ _ ⟨_, fun k hk x hx => ?_, fun x hx => ?_, hP, hD, hS, lv_sub hl [0, 1, 2, 3, 4, 5, 6] rfl⟩
                · rw [pk_uLn (by omega)]; exact hb3 k hk x hx
                · by_cases hxq : x = q
                  · subst hxq; exact pk_uLs
                  · rw [pk_uLn (by omega)]; exact hq3 x (by omega)
              · skip
                intro K
                by_cases hpl : 1 ≤ q ∧ q < g
                · skip
                  have eT : gBst g gd lo cnt (2 * mn) (i + 1) q = gG g gd (gBst g gd lo cnt (2 * mn) i) q lo cnt (16 * gBst g gd lo cnt (2 * mn) i q) := if_pos hpl
                  refine wLoop cnt 0 (fun j ls => lv_has ls 13 [(0, .ref (am 0)), (1, .int (nI t)), (2, .int (nI mn)), (3, .int (nI lo)), (4, .int (nI (lo + cnt - 1))), (5, .int (nI (i + 1))), (6, .int (nI q)), (7, .long (lN (gG g gd (gBst g gd lo cnt (2 * mn) i) q lo j (16 * gBst g gd lo cnt (2 * mn) i q)))), (9, .int (nI (lo + j)))]) (Nat.zero_le _) (fun j ls hj hl ihj => ?_) (fun ls hl => ?_) hl
                  · skip
                    have hdj := (hM (lo + j) (by omega)).1
                    have hL1 := hdj.2.2.2.2.2
                    have hgb := gG_le (gd := gd) (lo := lo) (a := 16 * gBst g gd lo cnt (2 * mn) i q) hBd (show q ≤ g by omega) (by have := hBd q (by omega); omega) j (fun k hk => hOk k (by omega))
                    refine lv_iload hx hb dX5_work_94 (lv_at hl 8 rfl) ?_
                    refine lv_iload hx hb dX5_work_96 (lv_at hl 4 rfl) ?_
                    refine n_gt hx hb (by omega) (by omega) 174 dX5_work_98 (by decide) (fun c98 => ?_) (fun c98 => ?_)
                    · skip
                      exact absurd c98 (by omega)
                    · skip
                      refine lv_iload hx hb dX5_work_101 (lv_at hl 6 rfl) ?_
                      refine lv_if_le (tgt := 174) hx hb dX5_work_103 (by decide) (fun c103 => absurd ((nI_leI (b := 0) (by omega) (by decide)).mp c103) (by omega)) (fun c103 => ?_)
                      refine lv_iload hx hb dX5_work_106 (lv_at hl 6 rfl) ?_
                      refine lv_aload_n hx hb dX5_work_108 rfl (lv_at hl 0 rfl) ?_
                      refine va_get (D := E.1) (ci := 5) (C := RX5) (T := TX5) (N := 14) hx hb hts hinX5 hown hE.1 hP 0 rfl rfl 0 (by decide) (hts (.fieldLink RX5 7 "StakeHouseModel" "goal" "I") (by decide +kernel)) (fun _ h9 => h9) rfl dX5_work_109 ?_
                      refine n_ge hx hb (by omega) (by omega) 174 dX5_work_112 (by decide) (fun c112 => ?_) (fun c112 => ?_)
                      · skip
                        exact absurd c112 (by omega)
                      · skip
                        refine lv_iconst (v := nI 1) hx hb dX5_work_115 (by decide) ?_
                        refine st_i2 hx hb 9 dX5_work_116 hl (by decide) rfl (fun ls hl => ?_)
                        refine wLoop (min q (gL (gd (lo + j)))) 0 (fun s ls => lv_has ls 13 [(0, .ref (am 0)), (1, .int (nI t)), (2, .int (nI mn)), (3, .int (nI lo)), (4, .int (nI (lo + cnt - 1))), (5, .int (nI (i + 1))), (6, .int (nI q)), (7, .long (lN (gS g (gd (lo + j)) (gBst g gd lo cnt (2 * mn) i) q s (gG g gd (gBst g gd lo cnt (2 * mn) i) q lo j (16 * gBst g gd lo cnt (2 * mn) i q))))), (9, .int (nI (lo + j))), (10, .int (nI (s + 1)))]) (Nat.zero_le _) (fun s ls hs hl ihs => ?_) (fun ls hl => ?_) hl
                        · skip
                          refine lv_iload hx hb dX5_work_118 (lv_at hl 9 rfl) ?_
                          refine lv_aload_n hx hb dX5_work_120 rfl (lv_at hl 0 rfl) ?_
                          refine lv_iload hx hb dX5_work_121 (lv_at hl 8 rfl) ?_
                          refine lv_iload hx hb dX5_work_123 (lv_at hl 6 rfl) ?_
                          refine vp_callSi (W.runV ⟨hx, hb, hml, hown, hts⟩ (m_mostAt l E am g hz n kd ch tm tx lm td tr bs3 nw th pd rest hn gd hM (lo + j) q (by omega) (by omega)) (cwV 2 hts gX5_work_X5_mostAt rfl rfl rfl (by decide +kernel) ⟨Nat.le_of_ble_eq_true rfl, Nat.le_of_ble_eq_true rfl⟩) (ePu_V hP hE (ci := 5) (k := 0) rfl rfl) rfl rfl hl.1 rfl (lv_room (Nat.le_of_ble_eq_true rfl)) dX5_work_125 ⟨Nat.zero_le _, Nat.zero_le _⟩) (fun r9 hr9 => ?_)
                          subst hr9
                          refine n_gt hx hb (by omega) (by omega) 168 dX5_work_128 (by decide) (fun c128 => ?_) (fun c128 => ?_)
                          · skip
                            exact absurd c128 (by omega)
                          · skip
                            refine lv_aload_n hx hb dX5_work_131 rfl (lv_at hl 0 rfl) ?_
                            refine lv_iload hx hb dX5_work_132 (lv_at hl 8 rfl) ?_
                            refine lv_iload hx hb dX5_work_134 (lv_at hl 6 rfl) ?_
                            refine lv_iload hx hb dX5_work_136 (lv_at hl 9 rfl) ?_
                            refine lv_iload hx hb dX5_work_138 (lv_at hl 5 rfl) ?_
                            refine vp_callSl (W.runV ⟨hx, hb, hml, hown, hts⟩ (m_worth l E am g hz n kd ch tm tx lm td tr bs3 nw th pd rest hn gd hM hg32 (lo + j) q (s + 1) i (gBst g gd lo cnt (2 * mn) i) (by omega) (by omega) (by omega) (by omega) (fun x hx => hb3 i (by omega) x hx)) (cwV 4 hts gX5_work_X5_worth rfl rfl rfl (by decide +kernel) ⟨Nat.le_of_ble_eq_true rfl, Nat.le_of_ble_eq_true rfl⟩) (ePu_V hP hE (ci := 5) (k := 0) rfl rfl) rfl rfl hl.1 rfl (lv_room (Nat.le_of_ble_eq_true rfl)) dX5_work_140 ⟨Nat.zero_le _, Nat.zero_le _⟩) (fun r9 hr9 => ?_)
                            subst hr9
                            refine st_l2 hx hb 10 dX5_work_143 hl (by decide) rfl (fun ls hl => ?_)
                            refine lv_lload hx hb dX5_work_145 (lv_at hl 10 rfl) ?_
                            refine lv_lload hx hb dX5_work_147 (lv_at hl 7 rfl) ?_
                            refine W.lcmp hx hb dX5_work_149 ?_
                            have hs1 := gS_le (a := (gG g gd (gBst g gd lo cnt (2 * mn) i) q lo j (16 * gBst g gd lo cnt (2 * mn) i q))) hdj hBd (show q ≤ g by omega) hgb s
                            have hs2 := gVal_le (s := s + 1) hdj hBd (show q ≤ g by omega)
                            refine lv_if_le (tgt := 158) hx hb dX5_work_150 (by decide) (fun c150 => ?_) (fun c150 => ?_)
                            · skip
                              rw [lg_cmp_le, pk_lLE (by omega) (by omega)] at c150
                              refine lv_lload hx hb dX5_work_158 (lv_at hl 7 rfl) ?_
                              refine st_l2 hx hb 7 dX5_work_160 hl (by decide) rfl (fun ls hl => ?_)
                              refine st_inc hx hb 9 dX5_work_162 hl rfl (nI_1 _) (by decide) rfl (fun ls hl => ?_)
                              refine lv_goto (tgt := 118) hx hb dX5_work_165 (by decide) ?_
                              refine ihs _ ?_
                              have e9 : gS g (gd (lo + j)) (gBst g gd lo cnt (2 * mn) i) q (s + 1) (gG g gd (gBst g gd lo cnt (2 * mn) i) q lo j (16 * gBst g gd lo cnt (2 * mn) i q)) = gS g (gd (lo + j)) (gBst g gd lo cnt (2 * mn) i) q s (gG g gd (gBst g gd lo cnt (2 * mn) i) q lo j (16 * gBst g gd lo cnt (2 * mn) i q)) := Nat.max_eq_left c150
                              rw [e9]
                              exact lv_sub hl [0, 1, 2, 3, 4, 5, 6, 7, 8, 9] rfl
                            · skip
                              rw [lg_cmp_le, pk_lLE (by omega) (by omega)] at c150
                              refine lv_lload hx hb dX5_work_153 (lv_at hl 10 rfl) ?_
                              refine lv_goto (tgt := 160) hx hb dX5_work_155 (by decide) ?_
                              refine st_l2 hx hb 7 dX5_work_160 hl (by decide) rfl (fun ls hl => ?_)
                              refine st_inc hx hb 9 dX5_work_162 hl rfl (nI_1 _) (by decide) rfl (fun ls hl => ?_)
                              refine lv_goto (tgt := 118) hx hb dX5_work_165 (by decide) ?_
                              refine ihs _ ?_
                              have e9 : gS g (gd (lo + j)) (gBst g gd lo cnt (2 * mn) i) q (s + 1) (gG g gd (gBst g gd lo cnt (2 * mn) i) q lo j (16 * gBst g gd lo cnt (2 * mn) i q)) = gVal g (gd (lo + j)) (gBst g gd lo cnt (2 * mn) i) q (s + 1) := Nat.max_eq_right (by omega)
                              rw [e9]
                              exact lv_sub hl [0, 1, 2, 3, 4, 5, 6, 7, 8, 9] rfl
                        · skip
                          refine lv_iload hx hb dX5_work_118 (lv_at hl 9 rfl) ?_
                          refine lv_aload_n hx hb dX5_work_120 rfl (lv_at hl 0 rfl) ?_
                          refine lv_iload hx hb dX5_work_121 (lv_at hl 8 rfl) ?_
                          refine lv_iload hx hb dX5_work_123 (lv_at hl 6 rfl) ?_
                          refine vp_callSi (W.runV ⟨hx, hb, hml, hown, hts⟩ (m_mostAt l E am g hz n kd ch tm tx lm td tr bs3 nw th pd rest hn gd hM (lo + j) q (by omega) (by omega)) (cwV 2 hts gX5_work_X5_mostAt rfl rfl rfl (by decide +kernel) ⟨Nat.le_of_ble_eq_true rfl, Nat.le_of_ble_eq_true rfl⟩) (ePu_V hP hE (ci := 5) (k := 0) rfl rfl) rfl rfl hl.1 rfl (lv_room (Nat.le_of_ble_eq_true rfl)) dX5_work_125 ⟨Nat.zero_le _, Nat.zero_le _⟩) (fun r9 hr9 => ?_)
                          subst hr9
                          refine n_gt hx hb (by omega) (by omega) 168 dX5_work_128 (by decide) (fun c128 => ?_) (fun c128 => ?_)
                          · skip
                            refine st_inc hx hb 8 dX5_work_168 hl rfl (nI_1 _) (by decide) rfl (fun ls hl => ?_)
                            refine lv_goto (tgt := 94) hx hb dX5_work_171 (by decide) ?_
                            refine ihj _ ?_
                            have e9 : gG g gd (gBst g gd lo cnt (2 * mn) i) q lo (j + 1) (16 * gBst g gd lo cnt (2 * mn) i q) = gS g (gd (lo + j)) (gBst g gd lo cnt (2 * mn) i) q (min q (gL (gd (lo + j)))) (gG g gd (gBst g gd lo cnt (2 * mn) i) q lo j (16 * gBst g gd lo cnt (2 * mn) i q)) := (gS_acc _ _ _ _ _ _).symm
                            rw [e9]
                            exact lv_sub hl [0, 1, 2, 3, 4, 5, 6, 7, 8] rfl
                          · skip
                            exact absurd c128 (by omega)
                  · skip
                    refine lv_iload hx hb dX5_work_94 (lv_at hl 8 rfl) ?_
                    refine lv_iload hx hb dX5_work_96 (lv_at hl 4 rfl) ?_
                    refine n_gt hx hb (by omega) (by omega) 174 dX5_work_98 (by decide) (fun c98 => ?_) (fun c98 => ?_)
                    · skip
                      refine K _ ?_
                      rw [eT]
                      exact lv_sub hl [0, 1, 2, 3, 4, 5, 6, 7] rfl
                    · skip
                      exact absurd c98 (by omega)
                · skip
                  have eT : gBst g gd lo cnt (2 * mn) (i + 1) q = 16 * gBst g gd lo cnt (2 * mn) i q := if_neg hpl
                  refine lv_iload hx hb dX5_work_94 (lv_at hl 8 rfl) ?_
                  refine lv_iload hx hb dX5_work_96 (lv_at hl 4 rfl) ?_
                  refine n_gt hx hb (by omega) (by omega) 174 dX5_work_98 (by decide) (fun c98 => ?_) (fun c98 => ?_)
                  · skip
                    exact absurd c98 (by omega)
                  · skip
                    refine lv_iload hx hb dX5_work_101 (lv_at hl 6 rfl) ?_
                    refine lv_if_le (tgt := 174) hx hb dX5_work_103 (by decide) (fun c103 => ?_) (fun c103 => ?_)
                    · skip
                      refine K _ ?_
                      rw [eT]
                      exact lv_sub hl [0, 1, 2, 3, 4, 5, 6, 7] rfl
                    · skip
                      have c103 : ¬ q ≤ 0 := fun z => c103 ((nI_leI (b := 0) (by omega) (by decide)).mpr z)
                      refine lv_iload hx hb dX5_work_106 (lv_at hl 6 rfl) ?_
                      refine lv_aload_n hx hb dX5_work_108 rfl (lv_at hl 0 rfl) ?_
                      refine va_get (D := E.1) (ci := 5) (C := RX5) (T := TX5) (N := 14) hx hb hts hinX5 hown hE.1 hP 0 rfl rfl 0 (by decide) (hts (.fieldLink RX5 7 "StakeHouseModel" "goal" "I") (by decide +kernel)) (fun _ h9 => h9) rfl dX5_work_109 ?_
                      refine n_ge hx hb (by omega) (by omega) 174 dX5_work_112 (by decide) (fun c112 => ?_) (fun c112 => ?_)
                      · skip
                        refine K _ ?_
                        rw [eT]
                        exact lv_sub hl [0, 1, 2, 3, 4, 5, 6, 7] rfl
                      · skip
                        exact absurd hpl (by omega)
          · skip
            obtain ⟨bs3, hb3, hq3, hP, hD, hS, hl⟩ := hI
            refine lv_iload hx hb dX5_work_61 (lv_at hl 6 rfl) ?_
            refine lv_aload_n hx hb dX5_work_63 rfl (lv_at hl 0 rfl) ?_
            refine va_get (D := E.1) (ci := 5) (C := RX5) (T := TX5) (N := 14) hx hb hts hinX5 hown hE.1 hP 0 rfl rfl 0 (by decide) (hts (.fieldLink RX5 7 "StakeHouseModel" "goal" "I") (by decide +kernel)) (fun _ h9 => h9) rfl dX5_work_64 ?_
            refine n_gt hx hb (by omega) (by omega) 195 dX5_work_67 (by decide) (fun c67 => ?_) (fun c67 => ?_)
            · skip
              refine st_inc hx hb 5 dX5_work_195 hl rfl (nI_1 _) (by decide) rfl (fun ls hl => ?_)
              refine lv_goto (tgt := 52) hx hb dX5_work_198 (by decide) ?_
              refine ihi _ _ _ ⟨bs3, fun k hk x hx => ?_, hP, hD, hS, lv_sub hl [0, 1, 2, 3, 4, 5] rfl⟩
              by_cases hki : k = i + 1
              · subst hki; exact hq3 x (by omega)
              · exact hb3 k (by omega) x hx
            · skip
              exact absurd c67 (by omega)
      · skip
        obtain ⟨bs2, hb2, hP, hD, hS, hl⟩ := hI
        refine lv_iload hx hb dX5_work_52 (lv_at hl 5 rfl) ?_
        refine lv_iload_n hx hb dX5_work_54 rfl (lv_at hl 1 rfl) ?_
        refine n_gt hx hb (by omega) (by omega) 201 dX5_work_55 (by decide) (fun c55 => ?_) (fun c55 => ?_)
        · skip
          exact ret_Wv hx hb hr hlocks dX5_work_201 hP hD hS ⟨bs2, hb2, rfl⟩
        · skip
          exact absurd c55 (by omega)
    · skip
      exact absurd c9 (by omega)
end
section
/-! the reference: what writes, but for plans -/
set_option maxHeartbeats 4000000 in
set_option maxRecDepth 100000 in
/-- set -/
theorem m_set (l : Launch) (E : eT) (am : Nat → Nat) (g hz n : Nat) (kd ch tm tx lm : Nat → Int32) (td : Nat → Int32) (tr : Int64) (bs nw th : Nat → Int64) (pd : Int64) (rest : va_W) (wv vv : Int32) : mWi l yX5_set wsX5_set 1 24 0 0 E (wM E am g hz n kd ch tm tx lm td tr bs nw th pd ++ rest) [.ref (am 0), .int wv, .int vv] (fun r ws1 => ∃ (g1 hz1 : Nat) (td1 : Nat → Int32), set_of g hz td (fun _ => 0) wv vv r g1 hz1 td1 (fun _ => 0) ∧ ws1 = wM E am g1 hz1 n kd ch tm tx lm td1 tr bs nw th pd ++ rest) := by
  intro sz
  refine mW_of (cc := cX5_set) (maxL := 5) (ret := (some .int)) (Qc := fun sz => va_Qi (fun r ws1 => ∃ (g1 hz1 : Nat) (td1 : Nat → Int32), set_of g hz td (fun _ => 0) wv vv r g1 hz1 td1 (fun _ => 0) ∧ ws1 = wM E am g1 hz1 n kd ch tm tx lm td1 tr bs nw th pd ++ rest) (eAt E (va_A (wM E am g hz n kd ch tm tx lm td tr bs nw th pd ++ rest) sz)) (va_A (wM E am g hz n kd ch tm tx lm td tr bs nw th pd ++ rest) sz)) (by decide) rfl (Nat.le_of_ble_eq_true rfl) ?_
  intro p0 e0 s m below meth c0 ls hx hb hr hml hts hown hlocks hin hE hP hD hl
  have hS : va_S (va_A (wM E am g hz n kd ch tm tx lm td tr bs nw th pd ++ rest) s.heap.size) s.heap s.heap [] := va_S.rf
  have hA : ∀ q, s.heap.size ≤ q → (va_A (wM E am g hz n kd ch tm tx lm td tr bs nw th pd ++ rest) s.heap.size) q := fun q h => Or.inr h
  have hown : s.vm.findClass RX5 = some m.cls := hown
  have hl : lv_has ls 5 [(0, .ref (am 0)), (1, .int wv), (2, .int vv)] := hl
  have hinX5 : ∀ w ∈ wsX50, w ∈ wsX5_set := by decide +kernel
  refine lv_iconst (v := (-1)) hx hb dX5_set_0 (by decide) ?_
  refine st_i1 hx hb 3 dX5_set_1 rfl hl (by decide) rfl (fun ls hl => ?_)
  refine lv_iload_n hx hb dX5_set_2 rfl (lv_at hl 1 rfl) ?_
  refine lv_if_ne (tgt := 53) hx hb dX5_set_3 (by decide) (fun c3 => ?_) (fun c3 => ?_)
  · skip
    refine lv_iload_n hx hb dX5_set_53 rfl (lv_at hl 1 rfl) ?_
    refine lv_iconst (v := nI 1) hx hb dX5_set_54 (by decide) ?_
    refine lv_icmp_ne (tgt := 78) hx hb dX5_set_55 (by decide) (fun c55 => ?_) (fun c55 => ?_)
    · skip
      refine lv_iload_n hx hb dX5_set_78 rfl (lv_at hl 3 rfl) ?_
      exact ret_Wi hx hb hr hlocks dX5_set_79 hP hD hS ⟨g, hz, td, Or.inr (Or.inr ⟨fun q => c3 q.1, fun q => c55 q.1, rfl, rfl, rfl, rfl, rfl⟩), rfl⟩
    · skip
      refine lv_iload_n hx hb dX5_set_58 rfl (lv_at hl 2 rfl) ?_
      refine lv_iconst (v := nI 0) hx hb dX5_set_59 (by decide) ?_
      refine lv_bipush (v := nI 12) hx hb dX5_set_60 (by decide) ?_
      refine vp_callSi (W.runS ⟨hx, hb, hml, hown, hts⟩ (c_in l E _ _ _ _) (va_cwS 3 hts gX5_set_X5_in rfl rfl rfl (by decide +kernel) ⟨Nat.le_of_ble_eq_true rfl, Nat.le_of_ble_eq_true rfl⟩) (ePu_S hP hE) rfl rfl hl.1 rfl (lv_room (Nat.le_of_ble_eq_true rfl)) dX5_set_62 ⟨Nat.zero_le _, Nat.zero_le _⟩) (fun r9 hr9 => ?_)
      subst hr9
      refine q_eq hx hb 78 dX5_set_65 (by decide) (fun c65 => ?_) (fun c65 => ?_)
      · skip
        refine lv_iload_n hx hb dX5_set_78 rfl (lv_at hl 3 rfl) ?_
        exact ret_Wi hx hb hr hlocks dX5_set_79 hP hD hS ⟨g, hz, td, Or.inr (Or.inr ⟨fun q => c3 q.1, fun q => c65 q.2, rfl, rfl, rfl, rfl, rfl⟩), rfl⟩
      · skip
        obtain ⟨v, -, hv2, rfl⟩ := nI_rng (by decide) c65 (by decide)
        refine lv_aload_n hx hb dX5_set_68 rfl (lv_at hl 0 rfl) ?_
        refine va_get (D := E.1) (ci := 5) (C := RX5) (T := TX5) (N := 14) hx hb hts hinX5 hown hE.1 hP 0 rfl rfl 1 (by decide) (hts (.fieldLink RX5 13 "StakeHouseModel" "horizon" "I") (by decide +kernel)) (fun _ h9 => h9) rfl dX5_set_69 ?_
        refine st_i1 hx hb 3 dX5_set_72 rfl hl (by decide) rfl (fun ls hl => ?_)
        refine lv_aload_n hx hb dX5_set_73 rfl (lv_at hl 0 rfl) ?_
        refine lv_iload_n hx hb dX5_set_74 rfl (lv_at hl 2 rfl) ?_
        refine va_put (D := E.1) (ci := 5) (ty := .int) (C := RX5) (T := TX5) (N := 14) hx hb hts hinX5 tyX5 tyX5_ok nmX5 hown hE.1 hP hD hS 0 rfl rfl 1 (by decide) (hts (.fieldLink RX5 13 "StakeHouseModel" "horizon" "I") (by decide +kernel)) (fun _ h9 => h9) rfl (by decide +kernel) rfl rfl (Nat.le_of_ble_eq_true rfl) dX5_set_75 (fun H locs hP hD hS => ?_)
        have hP : va_P E.1 vwCl (wM E am g v n kd ch tm tx lm td tr bs nw th pd ++ rest) H := hP
        have hD : va_D (va_A (wM E am g hz n kd ch tm tx lm td tr bs nw th pd ++ rest) s.heap.size) (wM E am g v n kd ch tm tx lm td tr bs nw th pd ++ rest) := hD
        refine lv_iload_n hx hb dX5_set_78 rfl (lv_at hl 3 rfl) ?_
        exact ret_Wi hx hb hr hlocks dX5_set_79 hP hD hS ⟨g, v, td, Or.inr (Or.inl ⟨v, c55, rfl, hv2, rfl, rfl, rfl, rfl, rfl⟩), rfl⟩
  · skip
    refine lv_iload_n hx hb dX5_set_6 rfl (lv_at hl 2 rfl) ?_
    refine lv_iconst (v := nI 2) hx hb dX5_set_7 (by decide) ?_
    refine lv_bipush (v := nI 32) hx hb dX5_set_8 (by decide) ?_
    refine vp_callSi (W.runS ⟨hx, hb, hml, hown, hts⟩ (c_in l E _ _ _ _) (va_cwS 3 hts gX5_set_X5_in rfl rfl rfl (by decide +kernel) ⟨Nat.le_of_ble_eq_true rfl, Nat.le_of_ble_eq_true rfl⟩) (ePu_S hP hE) rfl rfl hl.1 rfl (lv_room (Nat.le_of_ble_eq_true rfl)) dX5_set_10 ⟨Nat.zero_le _, Nat.zero_le _⟩) (fun r9 hr9 => ?_)
    subst hr9
    refine q_eq hx hb 53 dX5_set_13 (by decide) (fun c13 => ?_) (fun c13 => ?_)
    · skip
      refine lv_iload_n hx hb dX5_set_53 rfl (lv_at hl 1 rfl) ?_
      refine lv_iconst (v := nI 1) hx hb dX5_set_54 (by decide) ?_
      refine lv_icmp_ne (tgt := 78) hx hb dX5_set_55 (by decide) (fun c55 => ?_) (fun c55 => ?_)
      · skip
        refine lv_iload_n hx hb dX5_set_78 rfl (lv_at hl 3 rfl) ?_
        exact ret_Wi hx hb hr hlocks dX5_set_79 hP hD hS ⟨g, hz, td, Or.inr (Or.inr ⟨fun q => c13 q.2, fun q => c55 q.1, rfl, rfl, rfl, rfl, rfl⟩), rfl⟩
      · skip
        refine lv_iload_n hx hb dX5_set_58 rfl (lv_at hl 2 rfl) ?_
        refine lv_iconst (v := nI 0) hx hb dX5_set_59 (by decide) ?_
        refine lv_bipush (v := nI 12) hx hb dX5_set_60 (by decide) ?_
        refine vp_callSi (W.runS ⟨hx, hb, hml, hown, hts⟩ (c_in l E _ _ _ _) (va_cwS 3 hts gX5_set_X5_in rfl rfl rfl (by decide +kernel) ⟨Nat.le_of_ble_eq_true rfl, Nat.le_of_ble_eq_true rfl⟩) (ePu_S hP hE) rfl rfl hl.1 rfl (lv_room (Nat.le_of_ble_eq_true rfl)) dX5_set_62 ⟨Nat.zero_le _, Nat.zero_le _⟩) (fun r9 hr9 => ?_)
        subst hr9
        refine q_eq hx hb 78 dX5_set_65 (by decide) (fun c65 => ?_) (fun c65 => ?_)
        · skip
          refine lv_iload_n hx hb dX5_set_78 rfl (lv_at hl 3 rfl) ?_
          exact ret_Wi hx hb hr hlocks dX5_set_79 hP hD hS ⟨g, hz, td, Or.inr (Or.inr ⟨fun q => c13 q.2, fun q => c65 q.2, rfl, rfl, rfl, rfl, rfl⟩), rfl⟩
        · skip
          obtain ⟨v, -, hv2, rfl⟩ := nI_rng (by decide) c65 (by decide)
          refine lv_aload_n hx hb dX5_set_68 rfl (lv_at hl 0 rfl) ?_
          refine va_get (D := E.1) (ci := 5) (C := RX5) (T := TX5) (N := 14) hx hb hts hinX5 hown hE.1 hP 0 rfl rfl 1 (by decide) (hts (.fieldLink RX5 13 "StakeHouseModel" "horizon" "I") (by decide +kernel)) (fun _ h9 => h9) rfl dX5_set_69 ?_
          refine st_i1 hx hb 3 dX5_set_72 rfl hl (by decide) rfl (fun ls hl => ?_)
          refine lv_aload_n hx hb dX5_set_73 rfl (lv_at hl 0 rfl) ?_
          refine lv_iload_n hx hb dX5_set_74 rfl (lv_at hl 2 rfl) ?_
          refine va_put (D := E.1) (ci := 5) (ty := .int) (C := RX5) (T := TX5) (N := 14) hx hb hts hinX5 tyX5 tyX5_ok nmX5 hown hE.1 hP hD hS 0 rfl rfl 1 (by decide) (hts (.fieldLink RX5 13 "StakeHouseModel" "horizon" "I") (by decide +kernel)) (fun _ h9 => h9) rfl (by decide +kernel) rfl rfl (Nat.le_of_ble_eq_true rfl) dX5_set_75 (fun H locs hP hD hS => ?_)
          have hP : va_P E.1 vwCl (wM E am g v n kd ch tm tx lm td tr bs nw th pd ++ rest) H := hP
          have hD : va_D (va_A (wM E am g hz n kd ch tm tx lm td tr bs nw th pd ++ rest) s.heap.size) (wM E am g v n kd ch tm tx lm td tr bs nw th pd ++ rest) := hD
          refine lv_iload_n hx hb dX5_set_78 rfl (lv_at hl 3 rfl) ?_
          exact ret_Wi hx hb hr hlocks dX5_set_79 hP hD hS ⟨g, v, td, Or.inr (Or.inl ⟨v, c55, rfl, hv2, rfl, rfl, rfl, rfl, rfl⟩), rfl⟩
    · skip
      obtain ⟨v, hv1, hv2, rfl⟩ := nI_rng (by decide) c13 (by decide)
      refine lv_aload_n hx hb dX5_set_16 rfl (lv_at hl 0 rfl) ?_
      refine va_get (D := E.1) (ci := 5) (C := RX5) (T := TX5) (N := 14) hx hb hts hinX5 hown hE.1 hP 0 rfl rfl 0 (by decide) (hts (.fieldLink RX5 7 "StakeHouseModel" "goal" "I") (by decide +kernel)) (fun _ h9 => h9) rfl dX5_set_17 ?_
      refine st_i1 hx hb 3 dX5_set_20 rfl hl (by decide) rfl (fun ls hl => ?_)
      refine lv_aload_n hx hb dX5_set_21 rfl (lv_at hl 0 rfl) ?_
      refine lv_iload_n hx hb dX5_set_22 rfl (lv_at hl 2 rfl) ?_
      refine va_put (D := E.1) (ci := 5) (ty := .int) (C := RX5) (T := TX5) (N := 14) hx hb hts hinX5 tyX5 tyX5_ok nmX5 hown hE.1 hP hD hS 0 rfl rfl 0 (by decide) (hts (.fieldLink RX5 7 "StakeHouseModel" "goal" "I") (by decide +kernel)) (fun _ h9 => h9) rfl (by decide +kernel) rfl rfl (Nat.le_of_ble_eq_true rfl) dX5_set_23 (fun H locs hP hD hS => ?_)
      have hP : va_P E.1 vwCl (wM E am v hz n kd ch tm tx lm td tr bs nw th pd ++ rest) H := hP
      have hD : va_D (va_A (wM E am g hz n kd ch tm tx lm td tr bs nw th pd ++ rest) s.heap.size) (wM E am v hz n kd ch tm tx lm td tr bs nw th pd ++ rest) := hD
      refine lv_iconst (v := nI 0) hx hb dX5_set_26 (by decide) ?_
      refine st_i2 hx hb 4 dX5_set_27 hl (by decide) rfl (fun ls hl => ?_)
      refine wLoopH 33 0 (fun i H locs ls => ∃ t1 : Nat → Int32, (∀ j, j < i → t1 j = nI 0) ∧ va_P E.1 vwCl (wM E am v hz n kd ch tm tx lm t1 tr bs nw th pd ++ rest) H ∧ va_D (va_A (wM E am g hz n kd ch tm tx lm td tr bs nw th pd ++ rest) s.heap.size) (wM E am v hz n kd ch tm tx lm t1 tr bs nw th pd ++ rest) ∧ va_S (va_A (wM E am g hz n kd ch tm tx lm td tr bs nw th pd ++ rest) s.heap.size) s.heap H locs ∧ lv_has ls 5 [(0, .ref (am 0)), (1, .int wv), (2, .int (nI v)), (3, .int (nI g)), (4, .int (nI i))]) (Nat.zero_le _) (fun i H locs ls hi_i hI ih => ?_) (fun H locs ls hI => ?_) ⟨td, fun j hj => absurd hj (by omega), hP, hD, hS, hl⟩
      · skip
        obtain ⟨t1, ht1, hP, hD, hS, hl⟩ := hI
        refine lv_iload hx hb dX5_set_29 (lv_at hl 4 rfl) ?_
        refine lv_bipush (v := nI 33) hx hb dX5_set_31 (by decide) ?_
        refine n_ge hx hb (by omega) (by omega) 50 dX5_set_33 (by decide) (fun c33 => ?_) (fun c33 => ?_)
        · skip
          exact absurd c33 (by omega)
        · skip
          refine lv_aload_n hx hb dX5_set_36 rfl (lv_at hl 0 rfl) ?_
          refine va_get (D := E.1) (ci := 5) (C := RX5) (T := TX5) (N := 14) hx hb hts hinX5 hown hE.1 hP 0 rfl rfl 8 (by decide) (hts (.fieldLink RX5 32 "StakeHouseModel" "told" "[I") (by decide +kernel)) (fun _ h9 => h9) rfl dX5_set_37 ?_
          refine lv_iload hx hb dX5_set_40 (lv_at hl 4 rfl) ?_
          refine lv_iconst (v := nI 0) hx hb dX5_set_42 (by decide) ?_
          refine va_iast hx hb hE.1 hP hD hS 6 0 rfl rfl (vp_in_nI (by omega) (by decide)) dX5_set_43 (fun H locs hP hD hS => ?_)
          have hP : va_P E.1 vwCl (wM E am v hz n kd ch tm tx lm (upd t1 (nI i).toNatClampNeg (nI 0)) tr bs nw th pd ++ rest) H := hP
          have hD : va_D (va_A (wM E am g hz n kd ch tm tx lm td tr bs nw th pd ++ rest) s.heap.size) (wM E am v hz n kd ch tm tx lm (upd t1 (nI i).toNatClampNeg (nI 0)) tr bs nw th pd ++ rest) := hD
          refine st_inc hx hb 4 dX5_set_44 hl rfl (nI_1 _) (by decide) rfl (fun ls hl => ?_)
          refine lv_goto (tgt := 29) hx hb dX5_set_47 (by decide) ?_
          refine ih _ _ _ ⟨_, fun j hj => ?_, hP, hD, hS, hl⟩
          rw [nI_clamp (by omega)]
          by_cases hji : j = i
          · subst hji; exact pk_us
          · rw [pk_un hji]; exact ht1 j (by omega)
      · skip
        obtain ⟨t1, ht1, hP, hD, hS, hl⟩ := hI
        have hP : va_P E.1 vwCl (wM E am v hz n kd ch tm tx lm (fun _ => nI 0) tr bs nw th pd ++ rest) H := va_P_re hP (k := 6) rfl (xI_congr (f' := fun _ => nI 0) ht1)
        have hD : va_D (va_A (wM E am g hz n kd ch tm tx lm td tr bs nw th pd ++ rest) s.heap.size) (wM E am v hz n kd ch tm tx lm (fun _ => nI 0) tr bs nw th pd ++ rest) := va_D.set (p := 6) (e0 := xI E 33 t1) (e := xI E 33 (fun _ => nI 0)) hD rfl
        refine lv_iload hx hb dX5_set_29 (lv_at hl 4 rfl) ?_
        refine lv_bipush (v := nI 33) hx hb dX5_set_31 (by decide) ?_
        refine n_ge hx hb (by omega) (by omega) 50 dX5_set_33 (by decide) (fun c33 => ?_) (fun c33 => ?_)
        · skip
          refine lv_goto (tgt := 78) hx hb dX5_set_50 (by decide) ?_
          refine lv_iload_n hx hb dX5_set_78 rfl (lv_at hl 3 rfl) ?_
          exact ret_Wi hx hb hr hlocks dX5_set_79 hP hD hS ⟨v, hz, _, Or.inl ⟨v, c3, rfl, hv1, hv2, rfl, rfl, rfl, rfl, rfl⟩, rfl⟩
        · skip
          exact absurd c33 (by omega)
set_option maxHeartbeats 4000000 in
set_option maxRecDepth 100000 in
/-- game -/
theorem m_game (l : Launch) (E : eT) (am : Nat → Nat) (g hz n : Nat) (kd ch tm tx lm : Nat → Int32) (td : Nat → Int32) (tr : Int64) (bs nw th : Nat → Int64) (pd : Int64) (rest : va_W) (hn : n ≤ 4) (kv cv mv xv lv : Int32) : mWi l yX5_game wsX5_game 1 24 0 0 E (wM E am g hz n kd ch tm tx lm td tr bs nw th pd ++ rest) [.ref (am 0), .int kv, .int cv, .int mv, .int xv, .int lv] (fun r ws1 => ((¬ ∃ d : gT, gArg d kv cv mv xv lv) ∧ r = -1 ∧ ws1 = wM E am g hz n kd ch tm tx lm td tr bs nw th pd ++ rest) ∨ ((∃ d : gT, gArg d kv cv mv xv lv) ∧ n = 4 ∧ r = -3 ∧ ws1 = wM E am g hz n kd ch tm tx lm td tr bs nw th pd ++ rest) ∨ ((∃ d : gT, gArg d kv cv mv xv lv) ∧ n < 4 ∧ r = nI n ∧ ws1 = wM E am g hz (n + 1) (upd kd n kv) (upd ch n cv) (upd tm n mv) (upd tx n xv) (upd lm n lv) td tr bs nw th pd ++ rest)) := by
  intro sz
  refine mW_of (cc := cX5_game) (maxL := 7) (ret := (some .int)) (Qc := fun sz => va_Qi (fun r ws1 => ((¬ ∃ d : gT, gArg d kv cv mv xv lv) ∧ r = -1 ∧ ws1 = wM E am g hz n kd ch tm tx lm td tr bs nw th pd ++ rest) ∨ ((∃ d : gT, gArg d kv cv mv xv lv) ∧ n = 4 ∧ r = -3 ∧ ws1 = wM E am g hz n kd ch tm tx lm td tr bs nw th pd ++ rest) ∨ ((∃ d : gT, gArg d kv cv mv xv lv) ∧ n < 4 ∧ r = nI n ∧ ws1 = wM E am g hz (n + 1) (upd kd n kv) (upd ch n cv) (upd tm n mv) (upd tx n xv) (upd lm n lv) td tr bs nw th pd ++ rest)) (eAt E (va_A (wM E am g hz n kd ch tm tx lm td tr bs nw th pd ++ rest) sz)) (va_A (wM E am g hz n kd ch tm tx lm td tr bs nw th pd ++ rest) sz)) (by decide) rfl (Nat.le_of_ble_eq_true rfl) ?_
  intro p0 e0 s m below meth c0 ls hx hb hr hml hts hown hlocks hin hE hP hD hl
  have hS : va_S (va_A (wM E am g hz n kd ch tm tx lm td tr bs nw th pd ++ rest) s.heap.size) s.heap s.heap [] := va_S.rf
  have hA : ∀ q, s.heap.size ≤ q → (va_A (wM E am g hz n kd ch tm tx lm td tr bs nw th pd ++ rest) s.heap.size) q := fun q h => Or.inr h
  have hown : s.vm.findClass RX5 = some m.cls := hown
  have hl : lv_has ls 7 [(0, .ref (am 0)), (1, .int kv), (2, .int cv), (3, .int mv), (4, .int xv), (5, .int lv)] := hl
  have hinX5 : ∀ w ∈ wsX50, w ∈ wsX5_game := by decide +kernel
  refine wCut (fun x : Int32 => F0 m 65 ls [.int x]) (fun x => (x = nI 1 ∧ ∃ d : gT, gArg d kv cv mv xv lv) ∨ (x = nI 0 ∧ ¬ ∃ d : gT, gArg d kv cv mv xv lv)) ?_ ?_
  · skip
    intro x hx0
    refine st_i2 hx hb 6 dX5_game_65 hl (by decide) rfl (fun ls hl => ?_)
    refine lv_iload hx hb dX5_game_67 (lv_at hl 6 rfl) ?_
    refine lv_if_ne (tgt := 74) hx hb dX5_game_69 (by decide) (fun c69 => ?_) (fun c69 => ?_)
    · skip
      have hex : ∃ d : gT, gArg d kv cv mv xv lv := by
        rcases hx0 with ⟨-, h⟩ | ⟨h, -⟩
        · exact h
        · exact absurd h c69
      refine lv_aload_n hx hb dX5_game_74 rfl (lv_at hl 0 rfl) ?_
      refine va_get (D := E.1) (ci := 5) (C := RX5) (T := TX5) (N := 14) hx hb hts hinX5 hown hE.1 hP 0 rfl rfl 2 (by decide) (hts (.fieldLink RX5 45 "StakeHouseModel" "games" "I") (by decide +kernel)) (fun _ h9 => h9) rfl dX5_game_75 ?_
      refine lv_iconst (v := nI 4) hx hb dX5_game_78 (by decide) ?_
      refine n_ne hx hb (by omega) (by omega) 85 dX5_game_79 (by decide) (fun c79 => ?_) (fun c79 => ?_)
      · skip
        refine lv_aload_n hx hb dX5_game_85 rfl (lv_at hl 0 rfl) ?_
        refine va_get (D := E.1) (ci := 5) (C := RX5) (T := TX5) (N := 14) hx hb hts hinX5 hown hE.1 hP 0 rfl rfl 3 (by decide) (hts (.fieldLink RX5 16 "StakeHouseModel" "kind" "[I") (by decide +kernel)) (fun _ h9 => h9) rfl dX5_game_86 ?_
        refine lv_aload_n hx hb dX5_game_89 rfl (lv_at hl 0 rfl) ?_
        refine va_get (D := E.1) (ci := 5) (C := RX5) (T := TX5) (N := 14) hx hb hts hinX5 hown hE.1 hP 0 rfl rfl 2 (by decide) (hts (.fieldLink RX5 45 "StakeHouseModel" "games" "I") (by decide +kernel)) (fun _ h9 => h9) rfl dX5_game_90 ?_
        refine lv_iload_n hx hb dX5_game_93 rfl (lv_at hl 1 rfl) ?_
        refine va_iast hx hb hE.1 hP hD hS 1 0 rfl rfl (vp_in_nI (by omega) (by decide)) dX5_game_94 (fun H locs hP hD hS => ?_)
        have hP : va_P E.1 vwCl (wM E am g hz n (upd kd n kv) ch tm tx lm td tr bs nw th pd ++ rest) H := (by rw [nI_clamp (by omega)] at hP; exact hP)
        have hD : va_D (va_A (wM E am g hz n kd ch tm tx lm td tr bs nw th pd ++ rest) s.heap.size) (wM E am g hz n (upd kd n kv) ch tm tx lm td tr bs nw th pd ++ rest) := (by rw [nI_clamp (by omega)] at hD; exact hD)
        refine lv_aload_n hx hb dX5_game_95 rfl (lv_at hl 0 rfl) ?_
        refine va_get (D := E.1) (ci := 5) (C := RX5) (T := TX5) (N := 14) hx hb hts hinX5 hown hE.1 hP 0 rfl rfl 4 (by decide) (hts (.fieldLink RX5 20 "StakeHouseModel" "chance" "[I") (by decide +kernel)) (fun _ h9 => h9) rfl dX5_game_96 ?_
        refine lv_aload_n hx hb dX5_game_99 rfl (lv_at hl 0 rfl) ?_
        refine va_get (D := E.1) (ci := 5) (C := RX5) (T := TX5) (N := 14) hx hb hts hinX5 hown hE.1 hP 0 rfl rfl 2 (by decide) (hts (.fieldLink RX5 45 "StakeHouseModel" "games" "I") (by decide +kernel)) (fun _ h9 => h9) rfl dX5_game_100 ?_
        refine lv_iload_n hx hb dX5_game_103 rfl (lv_at hl 2 rfl) ?_
        refine va_iast hx hb hE.1 hP hD hS 2 0 rfl rfl (vp_in_nI (by omega) (by decide)) dX5_game_104 (fun H locs hP hD hS => ?_)
        have hP : va_P E.1 vwCl (wM E am g hz n (upd kd n kv) (upd ch n cv) tm tx lm td tr bs nw th pd ++ rest) H := (by rw [nI_clamp (by omega)] at hP; exact hP)
        have hD : va_D (va_A (wM E am g hz n kd ch tm tx lm td tr bs nw th pd ++ rest) s.heap.size) (wM E am g hz n (upd kd n kv) (upd ch n cv) tm tx lm td tr bs nw th pd ++ rest) := (by rw [nI_clamp (by omega)] at hD; exact hD)
        refine lv_aload_n hx hb dX5_game_105 rfl (lv_at hl 0 rfl) ?_
        refine va_get (D := E.1) (ci := 5) (C := RX5) (T := TX5) (N := 14) hx hb hts hinX5 hown hE.1 hP 0 rfl rfl 5 (by decide) (hts (.fieldLink RX5 23 "StakeHouseModel" "times" "[I") (by decide +kernel)) (fun _ h9 => h9) rfl dX5_game_106 ?_
        refine lv_aload_n hx hb dX5_game_109 rfl (lv_at hl 0 rfl) ?_
        refine va_get (D := E.1) (ci := 5) (C := RX5) (T := TX5) (N := 14) hx hb hts hinX5 hown hE.1 hP 0 rfl rfl 2 (by decide) (hts (.fieldLink RX5 45 "StakeHouseModel" "games" "I") (by decide +kernel)) (fun _ h9 => h9) rfl dX5_game_110 ?_
        refine lv_iload_n hx hb dX5_game_113 rfl (lv_at hl 3 rfl) ?_
        refine va_iast hx hb hE.1 hP hD hS 3 0 rfl rfl (vp_in_nI (by omega) (by decide)) dX5_game_114 (fun H locs hP hD hS => ?_)
        have hP : va_P E.1 vwCl (wM E am g hz n (upd kd n kv) (upd ch n cv) (upd tm n mv) tx lm td tr bs nw th pd ++ rest) H := (by rw [nI_clamp (by omega)] at hP; exact hP)
        have hD : va_D (va_A (wM E am g hz n kd ch tm tx lm td tr bs nw th pd ++ rest) s.heap.size) (wM E am g hz n (upd kd n kv) (upd ch n cv) (upd tm n mv) tx lm td tr bs nw th pd ++ rest) := (by rw [nI_clamp (by omega)] at hD; exact hD)
        refine lv_aload_n hx hb dX5_game_115 rfl (lv_at hl 0 rfl) ?_
        refine va_get (D := E.1) (ci := 5) (C := RX5) (T := TX5) (N := 14) hx hb hts hinX5 hown hE.1 hP 0 rfl rfl 6 (by decide) (hts (.fieldLink RX5 26 "StakeHouseModel" "tax" "[I") (by decide +kernel)) (fun _ h9 => h9) rfl dX5_game_116 ?_
        refine lv_aload_n hx hb dX5_game_119 rfl (lv_at hl 0 rfl) ?_
        refine va_get (D := E.1) (ci := 5) (C := RX5) (T := TX5) (N := 14) hx hb hts hinX5 hown hE.1 hP 0 rfl rfl 2 (by decide) (hts (.fieldLink RX5 45 "StakeHouseModel" "games" "I") (by decide +kernel)) (fun _ h9 => h9) rfl dX5_game_120 ?_
        refine lv_iload hx hb dX5_game_123 (lv_at hl 4 rfl) ?_
        refine va_iast hx hb hE.1 hP hD hS 4 0 rfl rfl (vp_in_nI (by omega) (by decide)) dX5_game_125 (fun H locs hP hD hS => ?_)
        have hP : va_P E.1 vwCl (wM E am g hz n (upd kd n kv) (upd ch n cv) (upd tm n mv) (upd tx n xv) lm td tr bs nw th pd ++ rest) H := (by rw [nI_clamp (by omega)] at hP; exact hP)
        have hD : va_D (va_A (wM E am g hz n kd ch tm tx lm td tr bs nw th pd ++ rest) s.heap.size) (wM E am g hz n (upd kd n kv) (upd ch n cv) (upd tm n mv) (upd tx n xv) lm td tr bs nw th pd ++ rest) := (by rw [nI_clamp (by omega)] at hD; exact hD)
        refine lv_aload_n hx hb dX5_game_126 rfl (lv_at hl 0 rfl) ?_
        refine va_get (D := E.1) (ci := 5) (C := RX5) (T := TX5) (N := 14) hx hb hts hinX5 hown hE.1 hP 0 rfl rfl 7 (by decide) (hts (.fieldLink RX5 29 "StakeHouseModel" "limit" "[I") (by decide +kernel)) (fun _ h9 => h9) rfl dX5_game_127 ?_
        refine lv_aload_n hx hb dX5_game_130 rfl (lv_at hl 0 rfl) ?_
        refine va_get (D := E.1) (ci := 5) (C := RX5) (T := TX5) (N := 14) hx hb hts hinX5 hown hE.1 hP 0 rfl rfl 2 (by decide) (hts (.fieldLink RX5 45 "StakeHouseModel" "games" "I") (by decide +kernel)) (fun _ h9 => h9) rfl dX5_game_131 ?_
        refine lv_iload hx hb dX5_game_134 (lv_at hl 5 rfl) ?_
        refine va_iast hx hb hE.1 hP hD hS 5 0 rfl rfl (vp_in_nI (by omega) (by decide)) dX5_game_136 (fun H locs hP hD hS => ?_)
        have hP : va_P E.1 vwCl (wM E am g hz n (upd kd n kv) (upd ch n cv) (upd tm n mv) (upd tx n xv) (upd lm n lv) td tr bs nw th pd ++ rest) H := (by rw [nI_clamp (by omega)] at hP; exact hP)
        have hD : va_D (va_A (wM E am g hz n kd ch tm tx lm td tr bs nw th pd ++ rest) s.heap.size) (wM E am g hz n (upd kd n kv) (upd ch n cv) (upd tm n mv) (upd tx n xv) (upd lm n lv) td tr bs nw th pd ++ rest) := (by rw [nI_clamp (by omega)] at hD; exact hD)
        refine lv_aload_n hx hb dX5_game_137 rfl (lv_at hl 0 rfl) ?_
        refine lv_dup hx hb dX5_game_138 rfl ?_
        refine va_get (D := E.1) (ci := 5) (C := RX5) (T := TX5) (N := 14) hx hb hts hinX5 hown hE.1 hP 0 rfl rfl 2 (by decide) (hts (.fieldLink RX5 45 "StakeHouseModel" "games" "I") (by decide +kernel)) (fun _ h9 => h9) rfl dX5_game_139 ?_
        refine lv_iconst (v := nI 1) hx hb dX5_game_142 (by decide) ?_
        refine lv_iadd hx hb dX5_game_143 ?_
        refine tp_i (nI_add _ _) ?_
        refine va_put (D := E.1) (ci := 5) (ty := .int) (C := RX5) (T := TX5) (N := 14) hx hb hts hinX5 tyX5 tyX5_ok nmX5 hown hE.1 hP hD hS 0 rfl rfl 2 (by decide) (hts (.fieldLink RX5 45 "StakeHouseModel" "games" "I") (by decide +kernel)) (fun _ h9 => h9) rfl (by decide +kernel) rfl rfl (Nat.le_of_ble_eq_true rfl) dX5_game_144 (fun H locs hP hD hS => ?_)
        have hP : va_P E.1 vwCl (wM E am g hz (n + 1) (upd kd n kv) (upd ch n cv) (upd tm n mv) (upd tx n xv) (upd lm n lv) td tr bs nw th pd ++ rest) H := hP
        have hD : va_D (va_A (wM E am g hz n kd ch tm tx lm td tr bs nw th pd ++ rest) s.heap.size) (wM E am g hz (n + 1) (upd kd n kv) (upd ch n cv) (upd tm n mv) (upd tx n xv) (upd lm n lv) td tr bs nw th pd ++ rest) := hD
        refine lv_aload_n hx hb dX5_game_147 rfl (lv_at hl 0 rfl) ?_
        refine va_get (D := E.1) (ci := 5) (C := RX5) (T := TX5) (N := 14) hx hb hts hinX5 hown hE.1 hP 0 rfl rfl 2 (by decide) (hts (.fieldLink RX5 45 "StakeHouseModel" "games" "I") (by decide +kernel)) (fun _ h9 => h9) rfl dX5_game_148 ?_
        refine lv_iconst (v := nI 1) hx hb dX5_game_151 (by decide) ?_
        refine lv_isub hx hb dX5_game_152 ?_
        refine tp_i (show _ = nI n from nI_pred n) ?_
        exact ret_Wi hx hb hr hlocks dX5_game_153 hP hD hS (Or.inr (Or.inr ⟨hex, by omega, rfl, rfl⟩))
      · skip
        refine lv_bipush (v := (-3)) hx hb dX5_game_82 (by decide) ?_
        exact ret_Wi hx hb hr hlocks dX5_game_84 hP hD hS (Or.inr (Or.inl ⟨hex, c79, rfl, rfl⟩))
    · skip
      have hex : ¬ ∃ d : gT, gArg d kv cv mv xv lv := by
        rcases hx0 with ⟨h, -⟩ | ⟨-, h⟩
        · rw [h] at c69; exact absurd c69 (by decide)
        · exact h
      refine lv_iconst (v := (-1)) hx hb dX5_game_72 (by decide) ?_
      exact ret_Wi hx hb hr hlocks dX5_game_73 hP hD hS (Or.inl ⟨hex, rfl, rfl⟩)
  · skip
    intro K
    refine lv_iload_n hx hb dX5_game_0 rfl (lv_at hl 1 rfl) ?_
    refine lv_iconst (v := nI 0) hx hb dX5_game_1 (by decide) ?_
    refine lv_iconst (v := nI 2) hx hb dX5_game_2 (by decide) ?_
    refine vp_callSi (W.runS ⟨hx, hb, hml, hown, hts⟩ (c_in l E _ _ _ _) (va_cwS 3 hts gX5_game_X5_in rfl rfl rfl (by decide +kernel) ⟨Nat.le_of_ble_eq_true rfl, Nat.le_of_ble_eq_true rfl⟩) (ePu_S hP hE) rfl rfl hl.1 rfl (lv_room (Nat.le_of_ble_eq_true rfl)) dX5_game_3 ⟨Nat.zero_le _, Nat.zero_le _⟩) (fun r9 hr9 => ?_)
    subst hr9
    refine q_eq hx hb 64 dX5_game_6 (by decide) (fun c6 => ?_) (fun c6 => ?_)
    · skip
      refine lv_iconst (v := nI 0) hx hb dX5_game_64 (by decide) ?_
      exact K _ (Or.inr ⟨rfl, fun ⟨d, hd⟩ => c6 (gArg_1 hd).1⟩)
    · skip
      refine lv_iload_n hx hb dX5_game_9 rfl (lv_at hl 2 rfl) ?_
      refine lv_iconst (v := nI 0) hx hb dX5_game_10 (by decide) ?_
      refine lv_bipush (v := nI 16) hx hb dX5_game_11 (by decide) ?_
      refine vp_callSi (W.runS ⟨hx, hb, hml, hown, hts⟩ (c_in l E _ _ _ _) (va_cwS 3 hts gX5_game_X5_in rfl rfl rfl (by decide +kernel) ⟨Nat.le_of_ble_eq_true rfl, Nat.le_of_ble_eq_true rfl⟩) (ePu_S hP hE) rfl rfl hl.1 rfl (lv_room (Nat.le_of_ble_eq_true rfl)) dX5_game_13 ⟨Nat.zero_le _, Nat.zero_le _⟩) (fun r9 hr9 => ?_)
      subst hr9
      refine q_eq hx hb 64 dX5_game_16 (by decide) (fun c16 => ?_) (fun c16 => ?_)
      · skip
        refine lv_iconst (v := nI 0) hx hb dX5_game_64 (by decide) ?_
        exact K _ (Or.inr ⟨rfl, fun ⟨d, hd⟩ => c16 (gArg_1 hd).2.1⟩)
      · skip
        refine lv_iload_n hx hb dX5_game_19 rfl (lv_at hl 1 rfl) ?_
        refine lv_if_eq (tgt := 33) hx hb dX5_game_20 (by decide) (fun c20 => ?_) (fun c20 => ?_)
        · skip
          have h4 : kv ≠ 0 → nI 1 ≤ mv ∧ mv ≤ nI 9 := fun q => absurd c20 q
          refine lv_iload_n hx hb dX5_game_33 rfl (lv_at hl 1 rfl) ?_
          refine lv_iconst (v := nI 2) hx hb dX5_game_34 (by decide) ?_
          refine lv_icmp_lt (tgt := 49) hx hb dX5_game_35 (by decide) (fun c35 => ?_) (fun c35 => ?_)
          · skip
            have h5 : kv = nI 2 → nI 0 ≤ xv ∧ xv ≤ nI 10 := fun z => by rw [z] at c35; exact absurd c35 (by decide)
            refine lv_iload hx hb dX5_game_49 (lv_at hl 5 rfl) ?_
            refine lv_iconst (v := nI 1) hx hb dX5_game_51 (by decide) ?_
            refine lv_bipush (v := nI 32) hx hb dX5_game_52 (by decide) ?_
            refine vp_callSi (W.runS ⟨hx, hb, hml, hown, hts⟩ (c_in l E _ _ _ _) (va_cwS 3 hts gX5_game_X5_in rfl rfl rfl (by decide +kernel) ⟨Nat.le_of_ble_eq_true rfl, Nat.le_of_ble_eq_true rfl⟩) (ePu_S hP hE) rfl rfl hl.1 rfl (lv_room (Nat.le_of_ble_eq_true rfl)) dX5_game_54 ⟨Nat.zero_le _, Nat.zero_le _⟩) (fun r9 hr9 => ?_)
            subst hr9
            refine q_eq hx hb 64 dX5_game_57 (by decide) (fun c57 => ?_) (fun c57 => ?_)
            · skip
              refine lv_iconst (v := nI 0) hx hb dX5_game_64 (by decide) ?_
              exact K _ (Or.inr ⟨rfl, fun ⟨d, hd⟩ => c57 (gArg_1 hd).2.2.1⟩)
            · skip
              refine lv_iconst (v := nI 1) hx hb dX5_game_60 (by decide) ?_
              refine lv_goto (tgt := 65) hx hb dX5_game_61 (by decide) ?_
              exact K _ (Or.inl ⟨rfl, gArg_of c6 c16 c57 h4 h5⟩)
          · skip
            have e2 : kv = nI 2 := Int32.le_antisymm c6.2 (Int32.not_lt.mp c35)
            refine lv_iload hx hb dX5_game_38 (lv_at hl 4 rfl) ?_
            refine lv_iconst (v := nI 0) hx hb dX5_game_40 (by decide) ?_
            refine lv_bipush (v := nI 10) hx hb dX5_game_41 (by decide) ?_
            refine vp_callSi (W.runS ⟨hx, hb, hml, hown, hts⟩ (c_in l E _ _ _ _) (va_cwS 3 hts gX5_game_X5_in rfl rfl rfl (by decide +kernel) ⟨Nat.le_of_ble_eq_true rfl, Nat.le_of_ble_eq_true rfl⟩) (ePu_S hP hE) rfl rfl hl.1 rfl (lv_room (Nat.le_of_ble_eq_true rfl)) dX5_game_43 ⟨Nat.zero_le _, Nat.zero_le _⟩) (fun r9 hr9 => ?_)
            subst hr9
            refine q_eq hx hb 64 dX5_game_46 (by decide) (fun c46 => ?_) (fun c46 => ?_)
            · skip
              refine lv_iconst (v := nI 0) hx hb dX5_game_64 (by decide) ?_
              exact K _ (Or.inr ⟨rfl, fun ⟨d, hd⟩ => c46 ((gArg_1 hd).2.2.2.2 e2)⟩)
            · skip
              have h5 : kv = nI 2 → nI 0 ≤ xv ∧ xv ≤ nI 10 := fun _ => c46
              refine lv_iload hx hb dX5_game_49 (lv_at hl 5 rfl) ?_
              refine lv_iconst (v := nI 1) hx hb dX5_game_51 (by decide) ?_
              refine lv_bipush (v := nI 32) hx hb dX5_game_52 (by decide) ?_
              refine vp_callSi (W.runS ⟨hx, hb, hml, hown, hts⟩ (c_in l E _ _ _ _) (va_cwS 3 hts gX5_game_X5_in rfl rfl rfl (by decide +kernel) ⟨Nat.le_of_ble_eq_true rfl, Nat.le_of_ble_eq_true rfl⟩) (ePu_S hP hE) rfl rfl hl.1 rfl (lv_room (Nat.le_of_ble_eq_true rfl)) dX5_game_54 ⟨Nat.zero_le _, Nat.zero_le _⟩) (fun r9 hr9 => ?_)
              subst hr9
              refine q_eq hx hb 64 dX5_game_57 (by decide) (fun c57 => ?_) (fun c57 => ?_)
              · skip
                refine lv_iconst (v := nI 0) hx hb dX5_game_64 (by decide) ?_
                exact K _ (Or.inr ⟨rfl, fun ⟨d, hd⟩ => c57 (gArg_1 hd).2.2.1⟩)
              · skip
                refine lv_iconst (v := nI 1) hx hb dX5_game_60 (by decide) ?_
                refine lv_goto (tgt := 65) hx hb dX5_game_61 (by decide) ?_
                exact K _ (Or.inl ⟨rfl, gArg_of c6 c16 c57 h4 h5⟩)
        · skip
          refine lv_iload_n hx hb dX5_game_23 rfl (lv_at hl 3 rfl) ?_
          refine lv_iconst (v := nI 1) hx hb dX5_game_24 (by decide) ?_
          refine lv_bipush (v := nI 9) hx hb dX5_game_25 (by decide) ?_
          refine vp_callSi (W.runS ⟨hx, hb, hml, hown, hts⟩ (c_in l E _ _ _ _) (va_cwS 3 hts gX5_game_X5_in rfl rfl rfl (by decide +kernel) ⟨Nat.le_of_ble_eq_true rfl, Nat.le_of_ble_eq_true rfl⟩) (ePu_S hP hE) rfl rfl hl.1 rfl (lv_room (Nat.le_of_ble_eq_true rfl)) dX5_game_27 ⟨Nat.zero_le _, Nat.zero_le _⟩) (fun r9 hr9 => ?_)
          subst hr9
          refine q_eq hx hb 64 dX5_game_30 (by decide) (fun c30 => ?_) (fun c30 => ?_)
          · skip
            refine lv_iconst (v := nI 0) hx hb dX5_game_64 (by decide) ?_
            exact K _ (Or.inr ⟨rfl, fun ⟨d, hd⟩ => c30 ((gArg_1 hd).2.2.2.1 c20)⟩)
          · skip
            have h4 : kv ≠ 0 → nI 1 ≤ mv ∧ mv ≤ nI 9 := fun _ => c30
            refine lv_iload_n hx hb dX5_game_33 rfl (lv_at hl 1 rfl) ?_
            refine lv_iconst (v := nI 2) hx hb dX5_game_34 (by decide) ?_
            refine lv_icmp_lt (tgt := 49) hx hb dX5_game_35 (by decide) (fun c35 => ?_) (fun c35 => ?_)
            · skip
              have h5 : kv = nI 2 → nI 0 ≤ xv ∧ xv ≤ nI 10 := fun z => by rw [z] at c35; exact absurd c35 (by decide)
              refine lv_iload hx hb dX5_game_49 (lv_at hl 5 rfl) ?_
              refine lv_iconst (v := nI 1) hx hb dX5_game_51 (by decide) ?_
              refine lv_bipush (v := nI 32) hx hb dX5_game_52 (by decide) ?_
              refine vp_callSi (W.runS ⟨hx, hb, hml, hown, hts⟩ (c_in l E _ _ _ _) (va_cwS 3 hts gX5_game_X5_in rfl rfl rfl (by decide +kernel) ⟨Nat.le_of_ble_eq_true rfl, Nat.le_of_ble_eq_true rfl⟩) (ePu_S hP hE) rfl rfl hl.1 rfl (lv_room (Nat.le_of_ble_eq_true rfl)) dX5_game_54 ⟨Nat.zero_le _, Nat.zero_le _⟩) (fun r9 hr9 => ?_)
              subst hr9
              refine q_eq hx hb 64 dX5_game_57 (by decide) (fun c57 => ?_) (fun c57 => ?_)
              · skip
                refine lv_iconst (v := nI 0) hx hb dX5_game_64 (by decide) ?_
                exact K _ (Or.inr ⟨rfl, fun ⟨d, hd⟩ => c57 (gArg_1 hd).2.2.1⟩)
              · skip
                refine lv_iconst (v := nI 1) hx hb dX5_game_60 (by decide) ?_
                refine lv_goto (tgt := 65) hx hb dX5_game_61 (by decide) ?_
                exact K _ (Or.inl ⟨rfl, gArg_of c6 c16 c57 h4 h5⟩)
            · skip
              have e2 : kv = nI 2 := Int32.le_antisymm c6.2 (Int32.not_lt.mp c35)
              refine lv_iload hx hb dX5_game_38 (lv_at hl 4 rfl) ?_
              refine lv_iconst (v := nI 0) hx hb dX5_game_40 (by decide) ?_
              refine lv_bipush (v := nI 10) hx hb dX5_game_41 (by decide) ?_
              refine vp_callSi (W.runS ⟨hx, hb, hml, hown, hts⟩ (c_in l E _ _ _ _) (va_cwS 3 hts gX5_game_X5_in rfl rfl rfl (by decide +kernel) ⟨Nat.le_of_ble_eq_true rfl, Nat.le_of_ble_eq_true rfl⟩) (ePu_S hP hE) rfl rfl hl.1 rfl (lv_room (Nat.le_of_ble_eq_true rfl)) dX5_game_43 ⟨Nat.zero_le _, Nat.zero_le _⟩) (fun r9 hr9 => ?_)
              subst hr9
              refine q_eq hx hb 64 dX5_game_46 (by decide) (fun c46 => ?_) (fun c46 => ?_)
              · skip
                refine lv_iconst (v := nI 0) hx hb dX5_game_64 (by decide) ?_
                exact K _ (Or.inr ⟨rfl, fun ⟨d, hd⟩ => c46 ((gArg_1 hd).2.2.2.2 e2)⟩)
              · skip
                have h5 : kv = nI 2 → nI 0 ≤ xv ∧ xv ≤ nI 10 := fun _ => c46
                refine lv_iload hx hb dX5_game_49 (lv_at hl 5 rfl) ?_
                refine lv_iconst (v := nI 1) hx hb dX5_game_51 (by decide) ?_
                refine lv_bipush (v := nI 32) hx hb dX5_game_52 (by decide) ?_
                refine vp_callSi (W.runS ⟨hx, hb, hml, hown, hts⟩ (c_in l E _ _ _ _) (va_cwS 3 hts gX5_game_X5_in rfl rfl rfl (by decide +kernel) ⟨Nat.le_of_ble_eq_true rfl, Nat.le_of_ble_eq_true rfl⟩) (ePu_S hP hE) rfl rfl hl.1 rfl (lv_room (Nat.le_of_ble_eq_true rfl)) dX5_game_54 ⟨Nat.zero_le _, Nat.zero_le _⟩) (fun r9 hr9 => ?_)
                subst hr9
                refine q_eq hx hb 64 dX5_game_57 (by decide) (fun c57 => ?_) (fun c57 => ?_)
                · skip
                  refine lv_iconst (v := nI 0) hx hb dX5_game_64 (by decide) ?_
                  exact K _ (Or.inr ⟨rfl, fun ⟨d, hd⟩ => c57 (gArg_1 hd).2.2.1⟩)
                · skip
                  refine lv_iconst (v := nI 1) hx hb dX5_game_60 (by decide) ?_
                  refine lv_goto (tgt := 65) hx hb dX5_game_61 (by decide) ?_
                  exact K _ (Or.inl ⟨rfl, gArg_of c6 c16 c57 h4 h5⟩)
set_option maxHeartbeats 4000000 in
set_option maxRecDepth 100000 in
/-- drop -/
theorem m_drop (l : Launch) (E : eT) (am : Nat → Nat) (g hz n : Nat) (kd ch tm tx lm : Nat → Int32) (td : Nat → Int32) (tr : Int64) (bs nw th : Nat → Int64) (pd : Int64) (rest : va_W) (hn : n ≤ 4) : mWi l yX5_drop wsX5_drop 0 0 0 0 E (wM E am g hz n kd ch tm tx lm td tr bs nw th pd ++ rest) [.ref (am 0)] (fun r ws1 => (n = 0 ∧ r = -2 ∧ ws1 = wM E am g hz n kd ch tm tx lm td tr bs nw th pd ++ rest) ∨ (1 ≤ n ∧ r = nI (n - 1) ∧ ws1 = wM E am g hz (n - 1) kd ch tm tx lm td tr bs nw th pd ++ rest)) := by
  intro sz
  refine mW_of (cc := cX5_drop) (maxL := 1) (ret := (some .int)) (Qc := fun sz => va_Qi (fun r ws1 => (n = 0 ∧ r = -2 ∧ ws1 = wM E am g hz n kd ch tm tx lm td tr bs nw th pd ++ rest) ∨ (1 ≤ n ∧ r = nI (n - 1) ∧ ws1 = wM E am g hz (n - 1) kd ch tm tx lm td tr bs nw th pd ++ rest)) (eAt E (va_A (wM E am g hz n kd ch tm tx lm td tr bs nw th pd ++ rest) sz)) (va_A (wM E am g hz n kd ch tm tx lm td tr bs nw th pd ++ rest) sz)) (by decide) rfl (Nat.le_of_ble_eq_true rfl) ?_
  intro p0 e0 s m below meth c0 ls hx hb hr hml hts hown hlocks hin hE hP hD hl
  have hS : va_S (va_A (wM E am g hz n kd ch tm tx lm td tr bs nw th pd ++ rest) s.heap.size) s.heap s.heap [] := va_S.rf
  have hA : ∀ q, s.heap.size ≤ q → (va_A (wM E am g hz n kd ch tm tx lm td tr bs nw th pd ++ rest) s.heap.size) q := fun q h => Or.inr h
  have hown : s.vm.findClass RX5 = some m.cls := hown
  have hl : lv_has ls 1 [(0, .ref (am 0))] := hl
  have hinX5 : ∀ w ∈ wsX50, w ∈ wsX5_drop := by decide +kernel
  refine lv_aload_n hx hb dX5_drop_0 rfl (lv_at hl 0 rfl) ?_
  refine va_get (D := E.1) (ci := 5) (C := RX5) (T := TX5) (N := 14) hx hb hts hinX5 hown hE.1 hP 0 rfl rfl 2 (by decide) (hts (.fieldLink RX5 45 "StakeHouseModel" "games" "I") (by decide +kernel)) (fun _ h9 => h9) rfl dX5_drop_1 ?_
  refine z_ne hx hb (by omega) 10 dX5_drop_4 (by decide) (fun c4 => ?_) (fun c4 => ?_)
  · skip
    refine lv_aload_n hx hb dX5_drop_10 rfl (lv_at hl 0 rfl) ?_
    refine lv_dup hx hb dX5_drop_11 rfl ?_
    refine va_get (D := E.1) (ci := 5) (C := RX5) (T := TX5) (N := 14) hx hb hts hinX5 hown hE.1 hP 0 rfl rfl 2 (by decide) (hts (.fieldLink RX5 45 "StakeHouseModel" "games" "I") (by decide +kernel)) (fun _ h9 => h9) rfl dX5_drop_12 ?_
    refine lv_iconst (v := nI 1) hx hb dX5_drop_15 (by decide) ?_
    refine lv_isub hx hb dX5_drop_16 ?_
    refine tp_i (pk_sub (by omega)) ?_
    refine va_put (D := E.1) (ci := 5) (ty := .int) (C := RX5) (T := TX5) (N := 14) hx hb hts hinX5 tyX5 tyX5_ok nmX5 hown hE.1 hP hD hS 0 rfl rfl 2 (by decide) (hts (.fieldLink RX5 45 "StakeHouseModel" "games" "I") (by decide +kernel)) (fun _ h9 => h9) rfl (by decide +kernel) rfl rfl (Nat.le_of_ble_eq_true rfl) dX5_drop_17 (fun H locs hP hD hS => ?_)
    have hP : va_P E.1 vwCl (wM E am g hz (n - 1) kd ch tm tx lm td tr bs nw th pd ++ rest) H := hP
    have hD : va_D (va_A (wM E am g hz n kd ch tm tx lm td tr bs nw th pd ++ rest) s.heap.size) (wM E am g hz (n - 1) kd ch tm tx lm td tr bs nw th pd ++ rest) := hD
    refine lv_aload_n hx hb dX5_drop_20 rfl (lv_at hl 0 rfl) ?_
    refine va_get (D := E.1) (ci := 5) (C := RX5) (T := TX5) (N := 14) hx hb hts hinX5 hown hE.1 hP 0 rfl rfl 2 (by decide) (hts (.fieldLink RX5 45 "StakeHouseModel" "games" "I") (by decide +kernel)) (fun _ h9 => h9) rfl dX5_drop_21 ?_
    exact ret_Wi hx hb hr hlocks dX5_drop_24 hP hD hS (Or.inr ⟨c4, rfl, rfl⟩)
  · skip
    refine lv_bipush (v := (-2)) hx hb dX5_drop_7 (by decide) ?_
    exact ret_Wi hx hb hr hlocks dX5_drop_9 hP hD hS (Or.inl ⟨c4, rfl, rfl⟩)
set_option maxHeartbeats 4000000 in
set_option maxRecDepth 100000 in
/-- win -/
theorem m_win (l : Launch) (E : eT) (am : Nat → Nat) (g hz n : Nat) (kd ch tm tx lm : Nat → Int32) (td : Nat → Int32) (tr : Int64) (bs nw th : Nat → Int64) (pd : Int64) (rest : va_W) (hn : n ≤ 4) (gd : Nat → gT) (hM : ∀ i, i < n → gArg (gd i) (kd i) (ch i) (tm i) (tx i) (lm i)) (iv sv : Int32) : mWi l yX5_win wsX5_win 2 50 0 0 E (wM E am g hz n kd ch tm tx lm td tr bs nw th pd ++ rest) [.ref (am 0), .int iv, .int sv] (fun r ws1 => ∃ mk1 : Int64, win_of n gd tr iv sv r mk1 ∧ ws1 = wM E am g hz n kd ch tm tx lm td mk1 bs nw th pd ++ rest) := by
  intro sz
  refine mW_of (cc := cX5_win) (maxL := 3) (ret := (some .int)) (Qc := fun sz => va_Qi (fun r ws1 => ∃ mk1 : Int64, win_of n gd tr iv sv r mk1 ∧ ws1 = wM E am g hz n kd ch tm tx lm td mk1 bs nw th pd ++ rest) (eAt E (va_A (wM E am g hz n kd ch tm tx lm td tr bs nw th pd ++ rest) sz)) (va_A (wM E am g hz n kd ch tm tx lm td tr bs nw th pd ++ rest) sz)) (by decide) rfl (Nat.le_of_ble_eq_true rfl) ?_
  intro p0 e0 s m below meth c0 ls hx hb hr hml hts hown hlocks hin hE hP hD hl
  have hS : va_S (va_A (wM E am g hz n kd ch tm tx lm td tr bs nw th pd ++ rest) s.heap.size) s.heap s.heap [] := va_S.rf
  have hA : ∀ q, s.heap.size ≤ q → (va_A (wM E am g hz n kd ch tm tx lm td tr bs nw th pd ++ rest) s.heap.size) q := fun q h => Or.inr h
  have hown : s.vm.findClass RX5 = some m.cls := hown
  have hl : lv_has ls 3 [(0, .ref (am 0)), (1, .int iv), (2, .int sv)] := hl
  have hinX5 : ∀ w ∈ wsX50, w ∈ wsX5_win := by decide +kernel
  refine lv_aload_n hx hb dX5_win_0 rfl (lv_at hl 0 rfl) ?_
  refine lv_iload_n hx hb dX5_win_1 rfl (lv_at hl 1 rfl) ?_
  refine vp_callSi (W.runV ⟨hx, hb, hml, hown, hts⟩ (m_isGame l E am g hz n kd ch tm tx lm td tr bs nw th pd rest _) (cwV 1 hts gX5_win_X5_isGame rfl rfl rfl (by decide +kernel) ⟨Nat.le_of_ble_eq_true rfl, Nat.le_of_ble_eq_true rfl⟩) (ePu_V hP hE (ci := 5) (k := 0) rfl rfl) rfl rfl hl.1 rfl (lv_room (Nat.le_of_ble_eq_true rfl)) dX5_win_2 ⟨Nat.zero_le _, Nat.zero_le _⟩) (fun r9 hr9 => ?_)
  subst hr9
  refine q_eq hx hb 18 dX5_win_5 (by decide) (fun c5 => ?_) (fun c5 => ?_)
  · skip
    refine lv_iconst (v := (-1)) hx hb dX5_win_18 (by decide) ?_
    exact ret_Wi hx hb hr hlocks dX5_win_19 hP hD hS ⟨tr, Or.inr ⟨fun ⟨i, st, e1, e2, g1, g2, g3⟩ => c5 ((nI_gm (by omega)).mpr ⟨i, g1, e1⟩), rfl, rfl⟩, rfl⟩
  · skip
    obtain ⟨i, hi, rfl⟩ := (nI_gm (by omega)).mp c5
    refine lv_iload_n hx hb dX5_win_8 rfl (lv_at hl 2 rfl) ?_
    refine lv_iconst (v := nI 1) hx hb dX5_win_9 (by decide) ?_
    refine lv_bipush (v := nI 32) hx hb dX5_win_10 (by decide) ?_
    refine vp_callSi (W.runS ⟨hx, hb, hml, hown, hts⟩ (c_in l E _ _ _ _) (va_cwS 3 hts gX5_win_X5_in rfl rfl rfl (by decide +kernel) ⟨Nat.le_of_ble_eq_true rfl, Nat.le_of_ble_eq_true rfl⟩) (ePu_S hP hE) rfl rfl hl.1 rfl (lv_room (Nat.le_of_ble_eq_true rfl)) dX5_win_12 ⟨Nat.zero_le _, Nat.zero_le _⟩) (fun r9 hr9 => ?_)
    subst hr9
    refine q_ne hx hb 20 dX5_win_15 (by decide) (fun c15 => ?_) (fun c15 => ?_)
    · skip
      obtain ⟨st, hs1, hs2, rfl⟩ := nI_rng (by decide) c15 (by decide)
      have hK2 := (hM i hi).1.1
      refine lv_aload_n hx hb dX5_win_20 rfl (lv_at hl 0 rfl) ?_
      refine lv_dup hx hb dX5_win_21 rfl ?_
      refine va_get (D := E.1) (ci := 5) (C := RX5) (T := TX5) (N := 14) hx hb hts hinX5 hown hE.1 hP 0 rfl rfl 9 (by decide) (hts (.fieldLink RX5 56 "StakeHouseModel" "trace" "J") (by decide +kernel)) (fun _ h9 => h9) rfl dX5_win_22 ?_
      refine lv_aload_n hx hb dX5_win_25 rfl (lv_at hl 0 rfl) ?_
      refine va_get (D := E.1) (ci := 5) (C := RX5) (T := TX5) (N := 14) hx hb hts hinX5 hown hE.1 hP 0 rfl rfl 3 (by decide) (hts (.fieldLink RX5 16 "StakeHouseModel" "kind" "[I") (by decide +kernel)) (fun _ h9 => h9) rfl dX5_win_26 ?_
      refine lv_iload_n hx hb dX5_win_29 rfl (lv_at hl 1 rfl) ?_
      refine va_iald hx hb hE.1 hP 1 0 rfl rfl (vp_in_nI (by omega) (by decide)) dX5_win_30 ?_
      refine tp_i (show _ = nI (gK (gd i)) by rw [nI_clamp (by omega)]; exact (hM i hi).2.1) ?_
      refine z_ne hx hb (by omega) 38 dX5_win_31 (by decide) (fun c31 => ?_) (fun c31 => ?_)
      · skip
        refine lv_aload_n hx hb dX5_win_38 rfl (lv_at hl 0 rfl) ?_
        refine va_get (D := E.1) (ci := 5) (C := RX5) (T := TX5) (N := 14) hx hb hts hinX5 hown hE.1 hP 0 rfl rfl 3 (by decide) (hts (.fieldLink RX5 16 "StakeHouseModel" "kind" "[I") (by decide +kernel)) (fun _ h9 => h9) rfl dX5_win_39 ?_
        refine lv_iload_n hx hb dX5_win_42 rfl (lv_at hl 1 rfl) ?_
        refine va_iald hx hb hE.1 hP 1 0 rfl rfl (vp_in_nI (by omega) (by decide)) dX5_win_43 ?_
        refine tp_i (show _ = nI (gK (gd i)) by rw [nI_clamp (by omega)]; exact (hM i hi).2.1) ?_
        refine lv_iconst (v := nI 1) hx hb dX5_win_44 (by decide) ?_
        refine n_ne hx hb (by omega) (by omega) 54 dX5_win_45 (by decide) (fun c45 => ?_) (fun c45 => ?_)
        · skip
          have hmk : gMark (gd i) = 111 := (if_neg (by omega)).trans (if_neg (by omega))
          refine lv_ldc2 (v := 111) hx hb hown (hts (.constantLong RX5 62 (111)) (by decide +kernel)) dX5_win_54 ?_
          refine tp_l (show (111 : Int64) = lN 111 from rfl) ?_
          refine lv_ladd hx hb dX5_win_57 ?_
          refine va_put (D := E.1) (ci := 5) (ty := .long) (C := RX5) (T := TX5) (N := 14) hx hb hts hinX5 tyX5 tyX5_ok nmX5 hown hE.1 hP hD hS 0 rfl rfl 9 (by decide) (hts (.fieldLink RX5 56 "StakeHouseModel" "trace" "J") (by decide +kernel)) (fun _ h9 => h9) rfl (by decide +kernel) rfl rfl (Nat.le_of_ble_eq_true rfl) dX5_win_58 (fun H locs hP hD hS => ?_)
          have hP : va_P E.1 vwCl (wM E am g hz n kd ch tm tx lm td (tr + lN 111) bs nw th pd ++ rest) H := hP
          have hD : va_D (va_A (wM E am g hz n kd ch tm tx lm td tr bs nw th pd ++ rest) s.heap.size) (wM E am g hz n kd ch tm tx lm td (tr + lN 111) bs nw th pd ++ rest) := hD
          refine lv_aload_n hx hb dX5_win_61 rfl (lv_at hl 0 rfl) ?_
          refine lv_iload_n hx hb dX5_win_62 rfl (lv_at hl 1 rfl) ?_
          refine lv_iload_n hx hb dX5_win_63 rfl (lv_at hl 2 rfl) ?_
          refine vp_callSi (W.runV ⟨hx, hb, hml, hown, hts⟩ (m_winOf l E am g hz n kd ch tm tx lm td (tr + lN 111) bs nw th pd rest hn gd hM i st hi hs2) (cwV 2 hts gX5_win_X5_winOf rfl rfl rfl (by decide +kernel) ⟨Nat.le_of_ble_eq_true rfl, Nat.le_of_ble_eq_true rfl⟩) (ePu_V hP hE (ci := 5) (k := 0) rfl rfl) rfl rfl hl.1 rfl (lv_room (Nat.le_of_ble_eq_true rfl)) dX5_win_64 ⟨Nat.zero_le _, Nat.zero_le _⟩) (fun r9 hr9 => ?_)
          subst hr9
          exact ret_Wi hx hb hr hlocks dX5_win_67 hP hD hS ⟨_, Or.inl ⟨i, st, rfl, rfl, hi, hs1, hs2, rfl, by rw [hmk]⟩, rfl⟩
        · skip
          have hmk : gMark (gd i) = 11 := (if_neg (by omega)).trans (if_pos (by omega))
          refine lv_ldc2 (v := 11) hx hb hown (hts (.constantLong RX5 60 (11)) (by decide +kernel)) dX5_win_48 ?_
          refine tp_l (show (11 : Int64) = lN 11 from rfl) ?_
          refine lv_goto (tgt := 57) hx hb dX5_win_51 (by decide) ?_
          refine lv_ladd hx hb dX5_win_57 ?_
          refine va_put (D := E.1) (ci := 5) (ty := .long) (C := RX5) (T := TX5) (N := 14) hx hb hts hinX5 tyX5 tyX5_ok nmX5 hown hE.1 hP hD hS 0 rfl rfl 9 (by decide) (hts (.fieldLink RX5 56 "StakeHouseModel" "trace" "J") (by decide +kernel)) (fun _ h9 => h9) rfl (by decide +kernel) rfl rfl (Nat.le_of_ble_eq_true rfl) dX5_win_58 (fun H locs hP hD hS => ?_)
          have hP : va_P E.1 vwCl (wM E am g hz n kd ch tm tx lm td (tr + lN 11) bs nw th pd ++ rest) H := hP
          have hD : va_D (va_A (wM E am g hz n kd ch tm tx lm td tr bs nw th pd ++ rest) s.heap.size) (wM E am g hz n kd ch tm tx lm td (tr + lN 11) bs nw th pd ++ rest) := hD
          refine lv_aload_n hx hb dX5_win_61 rfl (lv_at hl 0 rfl) ?_
          refine lv_iload_n hx hb dX5_win_62 rfl (lv_at hl 1 rfl) ?_
          refine lv_iload_n hx hb dX5_win_63 rfl (lv_at hl 2 rfl) ?_
          refine vp_callSi (W.runV ⟨hx, hb, hml, hown, hts⟩ (m_winOf l E am g hz n kd ch tm tx lm td (tr + lN 11) bs nw th pd rest hn gd hM i st hi hs2) (cwV 2 hts gX5_win_X5_winOf rfl rfl rfl (by decide +kernel) ⟨Nat.le_of_ble_eq_true rfl, Nat.le_of_ble_eq_true rfl⟩) (ePu_V hP hE (ci := 5) (k := 0) rfl rfl) rfl rfl hl.1 rfl (lv_room (Nat.le_of_ble_eq_true rfl)) dX5_win_64 ⟨Nat.zero_le _, Nat.zero_le _⟩) (fun r9 hr9 => ?_)
          subst hr9
          exact ret_Wi hx hb hr hlocks dX5_win_67 hP hD hS ⟨_, Or.inl ⟨i, st, rfl, rfl, hi, hs1, hs2, rfl, by rw [hmk]⟩, rfl⟩
      · skip
        have hmk : gMark (gd i) = 1 := if_pos (by omega)
        refine lv_lconst (v := lN 1) hx hb dX5_win_34 rfl ?_
        refine lv_goto (tgt := 57) hx hb dX5_win_35 (by decide) ?_
        refine lv_ladd hx hb dX5_win_57 ?_
        refine va_put (D := E.1) (ci := 5) (ty := .long) (C := RX5) (T := TX5) (N := 14) hx hb hts hinX5 tyX5 tyX5_ok nmX5 hown hE.1 hP hD hS 0 rfl rfl 9 (by decide) (hts (.fieldLink RX5 56 "StakeHouseModel" "trace" "J") (by decide +kernel)) (fun _ h9 => h9) rfl (by decide +kernel) rfl rfl (Nat.le_of_ble_eq_true rfl) dX5_win_58 (fun H locs hP hD hS => ?_)
        have hP : va_P E.1 vwCl (wM E am g hz n kd ch tm tx lm td (tr + lN 1) bs nw th pd ++ rest) H := hP
        have hD : va_D (va_A (wM E am g hz n kd ch tm tx lm td tr bs nw th pd ++ rest) s.heap.size) (wM E am g hz n kd ch tm tx lm td (tr + lN 1) bs nw th pd ++ rest) := hD
        refine lv_aload_n hx hb dX5_win_61 rfl (lv_at hl 0 rfl) ?_
        refine lv_iload_n hx hb dX5_win_62 rfl (lv_at hl 1 rfl) ?_
        refine lv_iload_n hx hb dX5_win_63 rfl (lv_at hl 2 rfl) ?_
        refine vp_callSi (W.runV ⟨hx, hb, hml, hown, hts⟩ (m_winOf l E am g hz n kd ch tm tx lm td (tr + lN 1) bs nw th pd rest hn gd hM i st hi hs2) (cwV 2 hts gX5_win_X5_winOf rfl rfl rfl (by decide +kernel) ⟨Nat.le_of_ble_eq_true rfl, Nat.le_of_ble_eq_true rfl⟩) (ePu_V hP hE (ci := 5) (k := 0) rfl rfl) rfl rfl hl.1 rfl (lv_room (Nat.le_of_ble_eq_true rfl)) dX5_win_64 ⟨Nat.zero_le _, Nat.zero_le _⟩) (fun r9 hr9 => ?_)
        subst hr9
        exact ret_Wi hx hb hr hlocks dX5_win_67 hP hD hS ⟨_, Or.inl ⟨i, st, rfl, rfl, hi, hs1, hs2, rfl, by rw [hmk]⟩, rfl⟩
    · skip
      refine lv_iconst (v := (-1)) hx hb dX5_win_18 (by decide) ?_
      exact ret_Wi hx hb hr hlocks dX5_win_19 hP hD hS ⟨tr, Or.inr ⟨fun ⟨i, st, e1, e2, g1, g2, g3⟩ => c15 (by rw [e2]; exact (nI_rngI (by omega) (by decide) (by decide)).mpr ⟨g2, g3⟩), rfl, rfl⟩, rfl⟩
set_option maxHeartbeats 4000000 in
set_option maxRecDepth 100000 in
/-- best -/
theorem m_best (l : Launch) (E : eT) (am : Nat → Nat) (g hz n : Nat) (kd ch tm tx lm : Nat → Int32) (td : Nat → Int32) (tr : Int64) (bs nw th : Nat → Int64) (pd : Int64) (rest : va_W) (hn : n ≤ 4) (gd : Nat → gT) (hM : ∀ i, i < n → gArg (gd i) (kd i) (ch i) (tm i) (tx i) (lm i)) (hg2 : 2 ≤ g) (hg32 : g ≤ 32) (hhz : hz ≤ 12) (qv tv : Int32) : mWl l yX5_best wsX5_best 4 115 0 0 E (wM E am g hz n kd ch tm tx lm td tr bs nw th pd ++ rest) [.ref (am 0), .int qv, .int tv] (fun r ws1 => bst_of g hz n gd 0 qv tv r ∧ ∃ bs1 : Nat → Int64, ws1 = wM E am g hz n kd ch tm tx lm td tr bs1 nw th pd ++ rest) := by
  intro sz
  refine mW_of (cc := cX5_best) (maxL := 3) (ret := (some .long)) (Qc := fun sz => va_Ql (fun r ws1 => bst_of g hz n gd 0 qv tv r ∧ ∃ bs1 : Nat → Int64, ws1 = wM E am g hz n kd ch tm tx lm td tr bs1 nw th pd ++ rest) (eAt E (va_A (wM E am g hz n kd ch tm tx lm td tr bs nw th pd ++ rest) sz)) (va_A (wM E am g hz n kd ch tm tx lm td tr bs nw th pd ++ rest) sz)) (by decide) rfl (Nat.le_of_ble_eq_true rfl) ?_
  intro p0 e0 s m below meth c0 ls hx hb hr hml hts hown hlocks hin hE hP hD hl
  have hS : va_S (va_A (wM E am g hz n kd ch tm tx lm td tr bs nw th pd ++ rest) s.heap.size) s.heap s.heap [] := va_S.rf
  have hA : ∀ q, s.heap.size ≤ q → (va_A (wM E am g hz n kd ch tm tx lm td tr bs nw th pd ++ rest) s.heap.size) q := fun q h => Or.inr h
  have hown : s.vm.findClass RX5 = some m.cls := hown
  have hl : lv_has ls 3 [(0, .ref (am 0)), (1, .int qv), (2, .int tv)] := hl
  have hinX5 : ∀ w ∈ wsX50, w ∈ wsX5_best := by decide +kernel
  refine lv_aload_n hx hb dX5_best_0 rfl (lv_at hl 0 rfl) ?_
  refine lv_iload_n hx hb dX5_best_1 rfl (lv_at hl 1 rfl) ?_
  refine vp_callSi (W.runV ⟨hx, hb, hml, hown, hts⟩ (m_isPurse l E am g hz n kd ch tm tx lm td tr bs nw th pd rest _) (cwV 1 hts gX5_best_X5_isPurse rfl rfl rfl (by decide +kernel) ⟨Nat.le_of_ble_eq_true rfl, Nat.le_of_ble_eq_true rfl⟩) (ePu_V hP hE (ci := 5) (k := 0) rfl rfl) rfl rfl hl.1 rfl (lv_room (Nat.le_of_ble_eq_true rfl)) dX5_best_2 ⟨Nat.zero_le _, Nat.zero_le _⟩) (fun r9 hr9 => ?_)
  subst hr9
  refine q_eq hx hb 20 dX5_best_5 (by decide) (fun c5 => ?_) (fun c5 => ?_)
  · skip
    refine lv_ldc2 (v := -1) hx hb hown (hts (.constantLong RX5 84 (-1)) (by decide +kernel)) dX5_best_20 ?_
    exact ret_Wl hx hb hr hlocks dX5_best_23 hP hD hS ⟨Or.inr ⟨fun z => c5 z.1, rfl⟩, bs, rfl⟩
  · skip
    obtain ⟨q, -, hq, rfl⟩ := nI_rng (by omega) c5 (by decide)
    refine lv_iload_n hx hb dX5_best_8 rfl (lv_at hl 2 rfl) ?_
    refine lv_iconst (v := nI 0) hx hb dX5_best_9 (by decide) ?_
    refine lv_aload_n hx hb dX5_best_10 rfl (lv_at hl 0 rfl) ?_
    refine va_get (D := E.1) (ci := 5) (C := RX5) (T := TX5) (N := 14) hx hb hts hinX5 hown hE.1 hP 0 rfl rfl 1 (by decide) (hts (.fieldLink RX5 13 "StakeHouseModel" "horizon" "I") (by decide +kernel)) (fun _ h9 => h9) rfl dX5_best_11 ?_
    refine vp_callSi (W.runS ⟨hx, hb, hml, hown, hts⟩ (c_in l E _ _ _ _) (va_cwS 3 hts gX5_best_X5_in rfl rfl rfl (by decide +kernel) ⟨Nat.le_of_ble_eq_true rfl, Nat.le_of_ble_eq_true rfl⟩) (ePu_S hP hE) rfl rfl hl.1 rfl (lv_room (Nat.le_of_ble_eq_true rfl)) dX5_best_14 ⟨Nat.zero_le _, Nat.zero_le _⟩) (fun r9 hr9 => ?_)
    subst hr9
    refine q_ne hx hb 24 dX5_best_17 (by decide) (fun c17 => ?_) (fun c17 => ?_)
    · skip
      obtain ⟨t, -, ht, rfl⟩ := nI_rng (by omega) c17 (by decide)
      refine lv_aload_n hx hb dX5_best_24 rfl (lv_at hl 0 rfl) ?_
      refine va_get (D := E.1) (ci := 5) (C := RX5) (T := TX5) (N := 14) hx hb hts hinX5 hown hE.1 hP 0 rfl rfl 2 (by decide) (hts (.fieldLink RX5 45 "StakeHouseModel" "games" "I") (by decide +kernel)) (fun _ h9 => h9) rfl dX5_best_25 ?_
      refine z_ne hx hb (by omega) 35 dX5_best_28 (by decide) (fun c28 => ?_) (fun c28 => ?_)
      · skip
        refine lv_aload_n hx hb dX5_best_35 rfl (lv_at hl 0 rfl) ?_
        refine lv_iload_n hx hb dX5_best_36 rfl (lv_at hl 2 rfl) ?_
        refine lv_iconst (v := nI 0) hx hb dX5_best_37 (by decide) ?_
        refine lv_iconst (v := nI 0) hx hb dX5_best_38 (by decide) ?_
        refine lv_aload_n hx hb dX5_best_39 rfl (lv_at hl 0 rfl) ?_
        refine va_get (D := E.1) (ci := 5) (C := RX5) (T := TX5) (N := 14) hx hb hts hinX5 hown hE.1 hP 0 rfl rfl 2 (by decide) (hts (.fieldLink RX5 45 "StakeHouseModel" "games" "I") (by decide +kernel)) (fun _ h9 => h9) rfl dX5_best_40 ?_
        refine lv_iconst (v := nI 1) hx hb dX5_best_43 (by decide) ?_
        refine lv_isub hx hb dX5_best_44 ?_
        refine tp_i (show _ = nI (0 + n - 1) by rw [pk_sub (by omega), Nat.zero_add]) ?_
        refine cW_v (va_runV ⟨hx, hb, hml, hown, hts⟩ (m_work l E am g hz n kd ch tm tx lm td tr bs nw th pd rest hn gd hM hg2 hg32 t 0 0 n (by omega) (by decide) c28 (by omega) _) (cwV 4 hts gX5_best_X5_work rfl rfl rfl (by decide +kernel) ⟨Nat.le_of_ble_eq_true rfl, Nat.le_of_ble_eq_true rfl⟩) (ePw_V hP hD hE (ci := 5) (k := 0) rfl rfl) rfl rfl hl.1 rfl (lv_room (Nat.le_of_ble_eq_true rfl)) dX5_best_45 ⟨Nat.zero_le _, Nat.zero_le _⟩) hS hD hA (fun ws9 H locs hr9 hP hD hS => ?_)
        obtain ⟨bs1, hb1, rfl⟩ := hr9
        refine lv_aload_n hx hb dX5_best_48 rfl (lv_at hl 0 rfl) ?_
        refine va_get (D := E.1) (ci := 5) (C := RX5) (T := TX5) (N := 14) hx hb hts hinX5 hown hE.1 hP 0 rfl rfl 10 (by decide) (hts (.fieldLink RX5 35 "StakeHouseModel" "best" "[J") (by decide +kernel)) (fun _ h9 => h9) rfl dX5_best_49 ?_
        refine lv_bipush (v := nI 33) hx hb dX5_best_52 (by decide) ?_
        refine lv_iload_n hx hb dX5_best_54 rfl (lv_at hl 2 rfl) ?_
        refine lv_imul hx hb dX5_best_55 ?_
        refine tp_i (pk_mul _ _) ?_
        refine lv_iload_n hx hb dX5_best_56 rfl (lv_at hl 1 rfl) ?_
        refine lv_iadd hx hb dX5_best_57 ?_
        refine tp_i (nI_add _ _) ?_
        refine va_lald hx hb hE.1 hP 7 1 rfl rfl (vp_in_nI (by omega) (by decide)) dX5_best_58 ?_
        refine tp_l (show _ = lN (gBst g gd 0 n 0 t q) by rw [nI_clamp (by omega)]; exact hb1 t (by omega) q hq) ?_
        exact ret_Wl hx hb hr hlocks dX5_best_59 hP hD hS ⟨Or.inl ⟨q, t, rfl, rfl, hq, ht, Or.inr ⟨c28, rfl⟩⟩, bs1, rfl⟩
      · skip
        refine lv_ldc2 (v := -2) hx hb hown (hts (.constantLong RX5 86 (-2)) (by decide +kernel)) dX5_best_31 ?_
        exact ret_Wl hx hb hr hlocks dX5_best_34 hP hD hS ⟨Or.inl ⟨q, t, rfl, rfl, hq, ht, Or.inl ⟨c28, rfl⟩⟩, bs, rfl⟩
    · skip
      refine lv_ldc2 (v := -1) hx hb hown (hts (.constantLong RX5 84 (-1)) (by decide +kernel)) dX5_best_20 ?_
      exact ret_Wl hx hb hr hlocks dX5_best_23 hP hD hS ⟨Or.inr ⟨fun z => c17 z.2, rfl⟩, bs, rfl⟩
set_option maxHeartbeats 4000000 in
set_option maxRecDepth 100000 in
/-- mean -/
theorem m_mean (l : Launch) (E : eT) (am : Nat → Nat) (g hz n : Nat) (kd ch tm tx lm : Nat → Int32) (td : Nat → Int32) (tr : Int64) (bs nw th : Nat → Int64) (pd : Int64) (rest : va_W) (hn : n ≤ 4) (gd : Nat → gT) (hM : ∀ i, i < n → gArg (gd i) (kd i) (ch i) (tm i) (tx i) (lm i)) (hg2 : 2 ≤ g) (hg32 : g ≤ 32) (hhz : hz ≤ 12) (qv tv : Int32) : mWl l yX5_mean wsX5_mean 4 115 0 0 E (wM E am g hz n kd ch tm tx lm td tr bs nw th pd ++ rest) [.ref (am 0), .int qv, .int tv] (fun r ws1 => bst_of g hz n gd 2 qv tv r ∧ ∃ bs1 : Nat → Int64, ws1 = wM E am g hz n kd ch tm tx lm td tr bs1 nw th pd ++ rest) := by
  intro sz
  refine mW_of (cc := cX5_mean) (maxL := 3) (ret := (some .long)) (Qc := fun sz => va_Ql (fun r ws1 => bst_of g hz n gd 2 qv tv r ∧ ∃ bs1 : Nat → Int64, ws1 = wM E am g hz n kd ch tm tx lm td tr bs1 nw th pd ++ rest) (eAt E (va_A (wM E am g hz n kd ch tm tx lm td tr bs nw th pd ++ rest) sz)) (va_A (wM E am g hz n kd ch tm tx lm td tr bs nw th pd ++ rest) sz)) (by decide) rfl (Nat.le_of_ble_eq_true rfl) ?_
  intro p0 e0 s m below meth c0 ls hx hb hr hml hts hown hlocks hin hE hP hD hl
  have hS : va_S (va_A (wM E am g hz n kd ch tm tx lm td tr bs nw th pd ++ rest) s.heap.size) s.heap s.heap [] := va_S.rf
  have hA : ∀ q, s.heap.size ≤ q → (va_A (wM E am g hz n kd ch tm tx lm td tr bs nw th pd ++ rest) s.heap.size) q := fun q h => Or.inr h
  have hown : s.vm.findClass RX5 = some m.cls := hown
  have hl : lv_has ls 3 [(0, .ref (am 0)), (1, .int qv), (2, .int tv)] := hl
  have hinX5 : ∀ w ∈ wsX50, w ∈ wsX5_mean := by decide +kernel
  refine lv_aload_n hx hb dX5_mean_0 rfl (lv_at hl 0 rfl) ?_
  refine lv_iload_n hx hb dX5_mean_1 rfl (lv_at hl 1 rfl) ?_
  refine vp_callSi (W.runV ⟨hx, hb, hml, hown, hts⟩ (m_isPurse l E am g hz n kd ch tm tx lm td tr bs nw th pd rest _) (cwV 1 hts gX5_mean_X5_isPurse rfl rfl rfl (by decide +kernel) ⟨Nat.le_of_ble_eq_true rfl, Nat.le_of_ble_eq_true rfl⟩) (ePu_V hP hE (ci := 5) (k := 0) rfl rfl) rfl rfl hl.1 rfl (lv_room (Nat.le_of_ble_eq_true rfl)) dX5_mean_2 ⟨Nat.zero_le _, Nat.zero_le _⟩) (fun r9 hr9 => ?_)
  subst hr9
  refine q_eq hx hb 20 dX5_mean_5 (by decide) (fun c5 => ?_) (fun c5 => ?_)
  · skip
    refine lv_ldc2 (v := -1) hx hb hown (hts (.constantLong RX5 84 (-1)) (by decide +kernel)) dX5_mean_20 ?_
    exact ret_Wl hx hb hr hlocks dX5_mean_23 hP hD hS ⟨Or.inr ⟨fun z => c5 z.1, rfl⟩, bs, rfl⟩
  · skip
    obtain ⟨q, -, hq, rfl⟩ := nI_rng (by omega) c5 (by decide)
    refine lv_iload_n hx hb dX5_mean_8 rfl (lv_at hl 2 rfl) ?_
    refine lv_iconst (v := nI 0) hx hb dX5_mean_9 (by decide) ?_
    refine lv_aload_n hx hb dX5_mean_10 rfl (lv_at hl 0 rfl) ?_
    refine va_get (D := E.1) (ci := 5) (C := RX5) (T := TX5) (N := 14) hx hb hts hinX5 hown hE.1 hP 0 rfl rfl 1 (by decide) (hts (.fieldLink RX5 13 "StakeHouseModel" "horizon" "I") (by decide +kernel)) (fun _ h9 => h9) rfl dX5_mean_11 ?_
    refine vp_callSi (W.runS ⟨hx, hb, hml, hown, hts⟩ (c_in l E _ _ _ _) (va_cwS 3 hts gX5_mean_X5_in rfl rfl rfl (by decide +kernel) ⟨Nat.le_of_ble_eq_true rfl, Nat.le_of_ble_eq_true rfl⟩) (ePu_S hP hE) rfl rfl hl.1 rfl (lv_room (Nat.le_of_ble_eq_true rfl)) dX5_mean_14 ⟨Nat.zero_le _, Nat.zero_le _⟩) (fun r9 hr9 => ?_)
    subst hr9
    refine q_ne hx hb 24 dX5_mean_17 (by decide) (fun c17 => ?_) (fun c17 => ?_)
    · skip
      obtain ⟨t, -, ht, rfl⟩ := nI_rng (by omega) c17 (by decide)
      refine lv_aload_n hx hb dX5_mean_24 rfl (lv_at hl 0 rfl) ?_
      refine va_get (D := E.1) (ci := 5) (C := RX5) (T := TX5) (N := 14) hx hb hts hinX5 hown hE.1 hP 0 rfl rfl 2 (by decide) (hts (.fieldLink RX5 45 "StakeHouseModel" "games" "I") (by decide +kernel)) (fun _ h9 => h9) rfl dX5_mean_25 ?_
      refine z_ne hx hb (by omega) 35 dX5_mean_28 (by decide) (fun c28 => ?_) (fun c28 => ?_)
      · skip
        refine lv_aload_n hx hb dX5_mean_35 rfl (lv_at hl 0 rfl) ?_
        refine lv_iload_n hx hb dX5_mean_36 rfl (lv_at hl 2 rfl) ?_
        refine lv_iconst (v := nI 1) hx hb dX5_mean_37 (by decide) ?_
        refine lv_iconst (v := nI 0) hx hb dX5_mean_38 (by decide) ?_
        refine lv_aload_n hx hb dX5_mean_39 rfl (lv_at hl 0 rfl) ?_
        refine va_get (D := E.1) (ci := 5) (C := RX5) (T := TX5) (N := 14) hx hb hts hinX5 hown hE.1 hP 0 rfl rfl 2 (by decide) (hts (.fieldLink RX5 45 "StakeHouseModel" "games" "I") (by decide +kernel)) (fun _ h9 => h9) rfl dX5_mean_40 ?_
        refine lv_iconst (v := nI 1) hx hb dX5_mean_43 (by decide) ?_
        refine lv_isub hx hb dX5_mean_44 ?_
        refine tp_i (show _ = nI (0 + n - 1) by rw [pk_sub (by omega), Nat.zero_add]) ?_
        refine cW_v (va_runV ⟨hx, hb, hml, hown, hts⟩ (m_work l E am g hz n kd ch tm tx lm td tr bs nw th pd rest hn gd hM hg2 hg32 t 1 0 n (by omega) (by decide) c28 (by omega) _) (cwV 4 hts gX5_mean_X5_work rfl rfl rfl (by decide +kernel) ⟨Nat.le_of_ble_eq_true rfl, Nat.le_of_ble_eq_true rfl⟩) (ePw_V hP hD hE (ci := 5) (k := 0) rfl rfl) rfl rfl hl.1 rfl (lv_room (Nat.le_of_ble_eq_true rfl)) dX5_mean_45 ⟨Nat.zero_le _, Nat.zero_le _⟩) hS hD hA (fun ws9 H locs hr9 hP hD hS => ?_)
        obtain ⟨bs1, hb1, rfl⟩ := hr9
        refine lv_aload_n hx hb dX5_mean_48 rfl (lv_at hl 0 rfl) ?_
        refine va_get (D := E.1) (ci := 5) (C := RX5) (T := TX5) (N := 14) hx hb hts hinX5 hown hE.1 hP 0 rfl rfl 10 (by decide) (hts (.fieldLink RX5 35 "StakeHouseModel" "best" "[J") (by decide +kernel)) (fun _ h9 => h9) rfl dX5_mean_49 ?_
        refine lv_bipush (v := nI 33) hx hb dX5_mean_52 (by decide) ?_
        refine lv_iload_n hx hb dX5_mean_54 rfl (lv_at hl 2 rfl) ?_
        refine lv_imul hx hb dX5_mean_55 ?_
        refine tp_i (pk_mul _ _) ?_
        refine lv_iload_n hx hb dX5_mean_56 rfl (lv_at hl 1 rfl) ?_
        refine lv_iadd hx hb dX5_mean_57 ?_
        refine tp_i (nI_add _ _) ?_
        refine va_lald hx hb hE.1 hP 7 1 rfl rfl (vp_in_nI (by omega) (by decide)) dX5_mean_58 ?_
        refine tp_l (show _ = lN (gBst g gd 0 n 2 t q) by rw [nI_clamp (by omega)]; exact hb1 t (by omega) q hq) ?_
        exact ret_Wl hx hb hr hlocks dX5_mean_59 hP hD hS ⟨Or.inl ⟨q, t, rfl, rfl, hq, ht, Or.inr ⟨c28, rfl⟩⟩, bs1, rfl⟩
      · skip
        refine lv_ldc2 (v := -2) hx hb hown (hts (.constantLong RX5 86 (-2)) (by decide +kernel)) dX5_mean_31 ?_
        exact ret_Wl hx hb hr hlocks dX5_mean_34 hP hD hS ⟨Or.inl ⟨q, t, rfl, rfl, hq, ht, Or.inl ⟨c28, rfl⟩⟩, bs, rfl⟩
    · skip
      refine lv_ldc2 (v := -1) hx hb hown (hts (.constantLong RX5 84 (-1)) (by decide +kernel)) dX5_mean_20 ?_
      exact ret_Wl hx hb hr hlocks dX5_mean_23 hP hD hS ⟨Or.inr ⟨fun z => c17 z.2, rfl⟩, bs, rfl⟩
set_option maxHeartbeats 4000000 in
set_option maxRecDepth 100000 in
/-- stakes -/
theorem m_stakes (l : Launch) (E : eT) (am : Nat → Nat) (g hz n : Nat) (kd ch tm tx lm : Nat → Int32) (td : Nat → Int32) (tr : Int64) (bs nw th : Nat → Int64) (pd : Int64) (rest : va_W) (hn : n ≤ 4) (gd : Nat → gT) (hM : ∀ i, i < n → gArg (gd i) (kd i) (ch i) (tm i) (tx i) (lm i)) (hg2 : 2 ≤ g) (hg32 : g ≤ 32) (hhz : hz ≤ 12) (iv qv tv : Int32) : mWl l yX5_stakes wsX5_stakes 4 115 0 0 E (wM E am g hz n kd ch tm tx lm td tr bs nw th pd ++ rest) [.ref (am 0), .int iv, .int qv, .int tv] (fun r ws1 => sts_of g hz n gd iv qv tv r ∧ ∃ bs1 : Nat → Int64, ws1 = wM E am g hz n kd ch tm tx lm td tr bs1 nw th pd ++ rest) := by
  intro sz
  refine mW_of (cc := cX5_stakes) (maxL := 9) (ret := (some .long)) (Qc := fun sz => va_Ql (fun r ws1 => sts_of g hz n gd iv qv tv r ∧ ∃ bs1 : Nat → Int64, ws1 = wM E am g hz n kd ch tm tx lm td tr bs1 nw th pd ++ rest) (eAt E (va_A (wM E am g hz n kd ch tm tx lm td tr bs nw th pd ++ rest) sz)) (va_A (wM E am g hz n kd ch tm tx lm td tr bs nw th pd ++ rest) sz)) (by decide) rfl (Nat.le_of_ble_eq_true rfl) ?_
  intro p0 e0 s m below meth c0 ls hx hb hr hml hts hown hlocks hin hE hP hD hl
  have hS : va_S (va_A (wM E am g hz n kd ch tm tx lm td tr bs nw th pd ++ rest) s.heap.size) s.heap s.heap [] := va_S.rf
  have hA : ∀ q, s.heap.size ≤ q → (va_A (wM E am g hz n kd ch tm tx lm td tr bs nw th pd ++ rest) s.heap.size) q := fun q h => Or.inr h
  have hown : s.vm.findClass RX5 = some m.cls := hown
  have hl : lv_has ls 9 [(0, .ref (am 0)), (1, .int iv), (2, .int qv), (3, .int tv)] := hl
  have hinX5 : ∀ w ∈ wsX50, w ∈ wsX5_stakes := by decide +kernel
  refine lv_aload_n hx hb dX5_stakes_0 rfl (lv_at hl 0 rfl) ?_
  refine lv_iload_n hx hb dX5_stakes_1 rfl (lv_at hl 1 rfl) ?_
  refine vp_callSi (W.runV ⟨hx, hb, hml, hown, hts⟩ (m_isGame l E am g hz n kd ch tm tx lm td tr bs nw th pd rest _) (cwV 1 hts gX5_stakes_X5_isGame rfl rfl rfl (by decide +kernel) ⟨Nat.le_of_ble_eq_true rfl, Nat.le_of_ble_eq_true rfl⟩) (ePu_V hP hE (ci := 5) (k := 0) rfl rfl) rfl rfl hl.1 rfl (lv_room (Nat.le_of_ble_eq_true rfl)) dX5_stakes_2 ⟨Nat.zero_le _, Nat.zero_le _⟩) (fun r9 hr9 => ?_)
  subst hr9
  refine q_eq hx hb 28 dX5_stakes_5 (by decide) (fun c5 => ?_) (fun c5 => ?_)
  · skip
    refine lv_ldc2 (v := -1) hx hb hown (hts (.constantLong RX5 84 (-1)) (by decide +kernel)) dX5_stakes_28 ?_
    exact ret_Wl hx hb hr hlocks dX5_stakes_31 hP hD hS ⟨Or.inr ⟨fun ⟨i, q, t, e1, e2, e3, g1, g2, g3, g4⟩ => c5 ((nI_gm (by omega)).mpr ⟨i, g1, e1⟩), rfl⟩, bs, rfl⟩
  · skip
    obtain ⟨i, hi, rfl⟩ := (nI_gm (by omega)).mp c5
    refine lv_aload_n hx hb dX5_stakes_8 rfl (lv_at hl 0 rfl) ?_
    refine lv_iload_n hx hb dX5_stakes_9 rfl (lv_at hl 2 rfl) ?_
    refine vp_callSi (W.runV ⟨hx, hb, hml, hown, hts⟩ (m_isPurse l E am g hz n kd ch tm tx lm td tr bs nw th pd rest _) (cwV 1 hts gX5_stakes_X5_isPurse rfl rfl rfl (by decide +kernel) ⟨Nat.le_of_ble_eq_true rfl, Nat.le_of_ble_eq_true rfl⟩) (ePu_V hP hE (ci := 5) (k := 0) rfl rfl) rfl rfl hl.1 rfl (lv_room (Nat.le_of_ble_eq_true rfl)) dX5_stakes_10 ⟨Nat.zero_le _, Nat.zero_le _⟩) (fun r9 hr9 => ?_)
    subst hr9
    refine q_eq hx hb 28 dX5_stakes_13 (by decide) (fun c13 => ?_) (fun c13 => ?_)
    · skip
      refine lv_ldc2 (v := -1) hx hb hown (hts (.constantLong RX5 84 (-1)) (by decide +kernel)) dX5_stakes_28 ?_
      exact ret_Wl hx hb hr hlocks dX5_stakes_31 hP hD hS ⟨Or.inr ⟨fun ⟨i, q, t, e1, e2, e3, g1, g2, g3, g4⟩ => c13 (by rw [e2]; exact (nI_rngI (by omega) (by decide) (by omega)).mpr ⟨by omega, g2⟩), rfl⟩, bs, rfl⟩
    · skip
      obtain ⟨q, -, hq, rfl⟩ := nI_rng (by omega) c13 (by decide)
      refine lv_iload_n hx hb dX5_stakes_16 rfl (lv_at hl 3 rfl) ?_
      refine lv_iconst (v := nI 1) hx hb dX5_stakes_17 (by decide) ?_
      refine lv_aload_n hx hb dX5_stakes_18 rfl (lv_at hl 0 rfl) ?_
      refine va_get (D := E.1) (ci := 5) (C := RX5) (T := TX5) (N := 14) hx hb hts hinX5 hown hE.1 hP 0 rfl rfl 1 (by decide) (hts (.fieldLink RX5 13 "StakeHouseModel" "horizon" "I") (by decide +kernel)) (fun _ h9 => h9) rfl dX5_stakes_19 ?_
      refine vp_callSi (W.runS ⟨hx, hb, hml, hown, hts⟩ (c_in l E _ _ _ _) (va_cwS 3 hts gX5_stakes_X5_in rfl rfl rfl (by decide +kernel) ⟨Nat.le_of_ble_eq_true rfl, Nat.le_of_ble_eq_true rfl⟩) (ePu_S hP hE) rfl rfl hl.1 rfl (lv_room (Nat.le_of_ble_eq_true rfl)) dX5_stakes_22 ⟨Nat.zero_le _, Nat.zero_le _⟩) (fun r9 hr9 => ?_)
      subst hr9
      refine q_ne hx hb 32 dX5_stakes_25 (by decide) (fun c25 => ?_) (fun c25 => ?_)
      · skip
        obtain ⟨t, ht1, ht, rfl⟩ := nI_rng (by omega) c25 (by decide)
        obtain ⟨j, rfl⟩ : ∃ z, t = z + 1 := ⟨t - 1, by omega⟩
        refine lv_iload_n hx hb dX5_stakes_32 rfl (lv_at hl 2 rfl) ?_
        refine z_eq hx hb (by omega) 44 dX5_stakes_33 (by decide) (fun c33 => ?_) (fun c33 => ?_)
        · skip
          refine lv_lconst (v := lN 0) hx hb dX5_stakes_44 rfl ?_
          exact ret_Wl hx hb hr hlocks dX5_stakes_45 hP hD hS ⟨Or.inl ⟨i, q, j + 1, rfl, rfl, rfl, hi, hq, ht1, ht, by rw [if_neg (by omega)]⟩, bs, rfl⟩
        · skip
          refine lv_iload_n hx hb dX5_stakes_36 rfl (lv_at hl 2 rfl) ?_
          refine lv_aload_n hx hb dX5_stakes_37 rfl (lv_at hl 0 rfl) ?_
          refine va_get (D := E.1) (ci := 5) (C := RX5) (T := TX5) (N := 14) hx hb hts hinX5 hown hE.1 hP 0 rfl rfl 0 (by decide) (hts (.fieldLink RX5 7 "StakeHouseModel" "goal" "I") (by decide +kernel)) (fun _ h9 => h9) rfl dX5_stakes_38 ?_
          refine n_ne hx hb (by omega) (by omega) 46 dX5_stakes_41 (by decide) (fun c41 => ?_) (fun c41 => ?_)
          · skip
            refine lv_aload_n hx hb dX5_stakes_46 rfl (lv_at hl 0 rfl) ?_
            refine lv_iload_n hx hb dX5_stakes_47 rfl (lv_at hl 3 rfl) ?_
            refine lv_iconst (v := nI 0) hx hb dX5_stakes_48 (by decide) ?_
            refine lv_iconst (v := nI 0) hx hb dX5_stakes_49 (by decide) ?_
            refine lv_aload_n hx hb dX5_stakes_50 rfl (lv_at hl 0 rfl) ?_
            refine va_get (D := E.1) (ci := 5) (C := RX5) (T := TX5) (N := 14) hx hb hts hinX5 hown hE.1 hP 0 rfl rfl 2 (by decide) (hts (.fieldLink RX5 45 "StakeHouseModel" "games" "I") (by decide +kernel)) (fun _ h9 => h9) rfl dX5_stakes_51 ?_
            refine lv_iconst (v := nI 1) hx hb dX5_stakes_54 (by decide) ?_
            refine lv_isub hx hb dX5_stakes_55 ?_
            refine tp_i (show _ = nI (0 + n - 1) by rw [pk_sub (by omega), Nat.zero_add]) ?_
            refine cW_v (va_runV ⟨hx, hb, hml, hown, hts⟩ (m_work l E am g hz n kd ch tm tx lm td tr bs nw th pd rest hn gd hM hg2 hg32 (j + 1) 0 0 n (by omega) (by decide) (by omega) (by omega) _) (cwV 4 hts gX5_stakes_X5_work rfl rfl rfl (by decide +kernel) ⟨Nat.le_of_ble_eq_true rfl, Nat.le_of_ble_eq_true rfl⟩) (ePw_V hP hD hE (ci := 5) (k := 0) rfl rfl) rfl rfl hl.1 rfl (lv_room (Nat.le_of_ble_eq_true rfl)) dX5_stakes_56 ⟨Nat.zero_le _, Nat.zero_le _⟩) hS hD hA (fun ws9 H locs hr9 hP hD hS => ?_)
            obtain ⟨bs1, hb1, rfl⟩ := hr9
            refine lv_aload_n hx hb dX5_stakes_59 rfl (lv_at hl 0 rfl) ?_
            refine va_get (D := E.1) (ci := 5) (C := RX5) (T := TX5) (N := 14) hx hb hts hinX5 hown hE.1 hP 0 rfl rfl 10 (by decide) (hts (.fieldLink RX5 35 "StakeHouseModel" "best" "[J") (by decide +kernel)) (fun _ h9 => h9) rfl dX5_stakes_60 ?_
            refine lv_bipush (v := nI 33) hx hb dX5_stakes_63 (by decide) ?_
            refine lv_iload_n hx hb dX5_stakes_65 rfl (lv_at hl 3 rfl) ?_
            refine lv_imul hx hb dX5_stakes_66 ?_
            refine tp_i (pk_mul _ _) ?_
            refine lv_iload_n hx hb dX5_stakes_67 rfl (lv_at hl 2 rfl) ?_
            refine lv_iadd hx hb dX5_stakes_68 ?_
            refine tp_i (nI_add _ _) ?_
            refine va_lald hx hb hE.1 hP 7 1 rfl rfl (vp_in_nI (by omega) (by decide)) dX5_stakes_69 ?_
            refine tp_l (show _ = lN (gBst g gd 0 n 0 (j + 1) q) by rw [nI_clamp (by omega)]; exact hb1 (j + 1) (by omega) q hq) ?_
            refine st_l2 hx hb 4 dX5_stakes_70 hl (by decide) rfl (fun ls hl => ?_)
            refine lv_ldc2 (v := 16) hx hb hown (hts (.constantLong RX5 72 (16)) (by decide +kernel)) dX5_stakes_72 ?_
            refine tp_l (show (16 : Int64) = lN 16 from rfl) ?_
            refine lv_aload_n hx hb dX5_stakes_75 rfl (lv_at hl 0 rfl) ?_
            refine va_get (D := E.1) (ci := 5) (C := RX5) (T := TX5) (N := 14) hx hb hts hinX5 hown hE.1 hP 0 rfl rfl 10 (by decide) (hts (.fieldLink RX5 35 "StakeHouseModel" "best" "[J") (by decide +kernel)) (fun _ h9 => h9) rfl dX5_stakes_76 ?_
            refine lv_bipush (v := nI 33) hx hb dX5_stakes_79 (by decide) ?_
            refine lv_iload_n hx hb dX5_stakes_81 rfl (lv_at hl 3 rfl) ?_
            refine lv_iconst (v := nI 1) hx hb dX5_stakes_82 (by decide) ?_
            refine lv_isub hx hb dX5_stakes_83 ?_
            refine tp_i (show _ = nI j from nI_pred j) ?_
            refine lv_imul hx hb dX5_stakes_84 ?_
            refine tp_i (pk_mul _ _) ?_
            refine lv_iload_n hx hb dX5_stakes_85 rfl (lv_at hl 2 rfl) ?_
            refine lv_iadd hx hb dX5_stakes_86 ?_
            refine tp_i (nI_add _ _) ?_
            refine va_lald hx hb hE.1 hP 7 1 rfl rfl (vp_in_nI (by omega) (by decide)) dX5_stakes_87 ?_
            refine tp_l (show _ = lN ((gBst g gd 0 n 0 j) q) by rw [nI_clamp (by omega)]; exact hb1 j (by omega) q hq) ?_
            refine lv_lmul hx hb dX5_stakes_88 ?_
            refine tp_l (lN_mul _ _) ?_
            refine lv_lload hx hb dX5_stakes_89 (lv_at hl 4 rfl) ?_
            refine W.lcmp hx hb dX5_stakes_91 ?_
            have hd := (hM i hi).1
            have hL1 := hd.2.2.2.2.2
            have hBd : ∀ x, x ≤ g → (gBst g gd 0 n 0 j) x ≤ 2 ^ 49 := fun x hx => Nat.le_trans (gBst_le hg32 (fun k hk => by rw [Nat.zero_add]; exact (hM k hk).1) j x hx) (b49 (by omega))
            have hTp : (gBst g gd 0 n 0 (j + 1) q) < 2 ^ 63 := by
              have h1 := gBst_le (what := 0) (lo := 0) (cnt := n) hg32 (fun k hk => by rw [Nat.zero_add]; exact (hM k hk).1) (j + 1) q hq
              have h2 := b53 (t := j + 1) (by omega)
              omega
            have hVq := hBd q hq
            skip
            refine lv_if_ne (tgt := 99) hx hb dX5_stakes_92 (by decide) (fun c92 => ?_) (fun c92 => ?_)
            · skip
              rw [lg_cmp_eq, pk_lEQ (by omega) hTp] at c92
              refine lv_lconst (v := lN 0) hx hb dX5_stakes_99 rfl ?_
              refine tp_l (show _ = gBits g (gd i) (gBst g gd 0 n 0 j) q (gBst g gd 0 n 0 (j + 1) q) 0 from (if_neg c92).symm) ?_
              refine st_l2 hx hb 5 dX5_stakes_100 hl (by decide) rfl (fun ls hl => ?_)
              refine lv_iconst (v := nI 1) hx hb dX5_stakes_102 (by decide) ?_
              refine st_i2 hx hb 6 dX5_stakes_103 hl (by decide) rfl (fun ls hl => ?_)
              refine wLoop (min q (gL (gd i))) 0 (fun s9 ls => lv_has ls 9 [(0, .ref (am 0)), (1, .int (nI i)), (2, .int (nI q)), (3, .int (nI (j + 1))), (4, .long (lN (gBst g gd 0 n 0 (j + 1) q))), (6, .long (gBits g (gd i) (gBst g gd 0 n 0 j) q (gBst g gd 0 n 0 (j + 1) q) s9)), (8, .int (nI (s9 + 1)))]) (Nat.zero_le _) (fun s9 ls hs9 hl ih => ?_) (fun ls hl => ?_) hl
              · skip
                refine lv_iload hx hb dX5_stakes_105 (lv_at hl 6 rfl) ?_
                refine lv_aload_n hx hb dX5_stakes_107 rfl (lv_at hl 0 rfl) ?_
                refine lv_iload_n hx hb dX5_stakes_108 rfl (lv_at hl 1 rfl) ?_
                refine lv_iload_n hx hb dX5_stakes_109 rfl (lv_at hl 2 rfl) ?_
                refine vp_callSi (W.runV ⟨hx, hb, hml, hown, hts⟩ (m_mostAt l E am g hz n kd ch tm tx lm td tr bs1 nw th pd rest hn gd hM i q hi (by omega)) (cwV 2 hts gX5_stakes_X5_mostAt rfl rfl rfl (by decide +kernel) ⟨Nat.le_of_ble_eq_true rfl, Nat.le_of_ble_eq_true rfl⟩) (ePu_V hP hE (ci := 5) (k := 0) rfl rfl) rfl rfl hl.1 rfl (lv_room (Nat.le_of_ble_eq_true rfl)) dX5_stakes_110 ⟨Nat.zero_le _, Nat.zero_le _⟩) (fun r9 hr9 => ?_)
                subst hr9
                refine n_gt hx hb (by omega) (by omega) 150 dX5_stakes_113 (by decide) (fun c113 => ?_) (fun c113 => ?_)
                · skip
                  exact absurd c113 (by omega)
                · skip
                  refine lv_lload hx hb dX5_stakes_116 (lv_at hl 5 rfl) ?_
                  refine lv_aload_n hx hb dX5_stakes_118 rfl (lv_at hl 0 rfl) ?_
                  refine lv_iload_n hx hb dX5_stakes_119 rfl (lv_at hl 1 rfl) ?_
                  refine lv_iload_n hx hb dX5_stakes_120 rfl (lv_at hl 2 rfl) ?_
                  refine lv_iload hx hb dX5_stakes_121 (lv_at hl 6 rfl) ?_
                  refine lv_iload_n hx hb dX5_stakes_123 rfl (lv_at hl 3 rfl) ?_
                  refine vp_callSl (W.runV ⟨hx, hb, hml, hown, hts⟩ (m_worth l E am g hz n kd ch tm tx lm td tr bs1 nw th pd rest hn gd hM hg32 i q (s9 + 1) j (gBst g gd 0 n 0 j) hi hq (by omega) (by omega) (fun x hx => hb1 j (by omega) x hx)) (cwV 4 hts gX5_stakes_X5_worth rfl rfl rfl (by decide +kernel) ⟨Nat.le_of_ble_eq_true rfl, Nat.le_of_ble_eq_true rfl⟩) (ePu_V hP hE (ci := 5) (k := 0) rfl rfl) rfl rfl hl.1 rfl (lv_room (Nat.le_of_ble_eq_true rfl)) dX5_stakes_124 ⟨Nat.zero_le _, Nat.zero_le _⟩) (fun r9 hr9 => ?_)
                  subst hr9
                  refine lv_lload hx hb dX5_stakes_127 (lv_at hl 4 rfl) ?_
                  refine W.lcmp hx hb dX5_stakes_129 ?_
                  have hs2 := gVal_le (s := s9 + 1) hd hBd hq
                  refine lv_if_ne (tgt := 140) hx hb dX5_stakes_130 (by decide) (fun c130 => ?_) (fun c130 => ?_)
                  · skip
                    rw [lg_cmp_eq, pk_lEQ (by omega) hTp] at c130
                    refine lv_lconst (v := lN 0) hx hb dX5_stakes_140 rfl ?_
                    refine lv_lor hx hb dX5_stakes_141 ?_
                    refine tp_l (show _ = gBits g (gd i) (gBst g gd 0 n 0 j) q (gBst g gd 0 n 0 (j + 1) q) (s9 + 1) from (Int64.or_zero).trans (if_neg c130).symm) ?_
                    refine st_l2 hx hb 5 dX5_stakes_142 hl (by decide) rfl (fun ls hl => ?_)
                    refine st_inc hx hb 6 dX5_stakes_144 hl rfl (nI_1 _) (by decide) rfl (fun ls hl => ?_)
                    refine lv_goto (tgt := 105) hx hb dX5_stakes_147 (by decide) ?_
                    exact ih _ hl
                  · skip
                    rw [lg_cmp_eq, pk_lEQ (by omega) hTp] at c130
                    refine lv_lconst (v := lN 1) hx hb dX5_stakes_133 rfl ?_
                    refine lv_iload hx hb dX5_stakes_134 (lv_at hl 6 rfl) ?_
                    refine lv_lshl hx hb dX5_stakes_136 rfl ?_
                    refine lv_goto (tgt := 141) hx hb dX5_stakes_137 (by decide) ?_
                    refine lv_lor hx hb dX5_stakes_141 ?_
                    refine tp_l (show _ = gBits g (gd i) (gBst g gd 0 n 0 j) q (gBst g gd 0 n 0 (j + 1) q) (s9 + 1) from (if_pos c130).symm) ?_
                    refine st_l2 hx hb 5 dX5_stakes_142 hl (by decide) rfl (fun ls hl => ?_)
                    refine st_inc hx hb 6 dX5_stakes_144 hl rfl (nI_1 _) (by decide) rfl (fun ls hl => ?_)
                    refine lv_goto (tgt := 105) hx hb dX5_stakes_147 (by decide) ?_
                    exact ih _ hl
              · skip
                refine lv_iload hx hb dX5_stakes_105 (lv_at hl 6 rfl) ?_
                refine lv_aload_n hx hb dX5_stakes_107 rfl (lv_at hl 0 rfl) ?_
                refine lv_iload_n hx hb dX5_stakes_108 rfl (lv_at hl 1 rfl) ?_
                refine lv_iload_n hx hb dX5_stakes_109 rfl (lv_at hl 2 rfl) ?_
                refine vp_callSi (W.runV ⟨hx, hb, hml, hown, hts⟩ (m_mostAt l E am g hz n kd ch tm tx lm td tr bs1 nw th pd rest hn gd hM i q hi (by omega)) (cwV 2 hts gX5_stakes_X5_mostAt rfl rfl rfl (by decide +kernel) ⟨Nat.le_of_ble_eq_true rfl, Nat.le_of_ble_eq_true rfl⟩) (ePu_V hP hE (ci := 5) (k := 0) rfl rfl) rfl rfl hl.1 rfl (lv_room (Nat.le_of_ble_eq_true rfl)) dX5_stakes_110 ⟨Nat.zero_le _, Nat.zero_le _⟩) (fun r9 hr9 => ?_)
                subst hr9
                refine n_gt hx hb (by omega) (by omega) 150 dX5_stakes_113 (by decide) (fun c113 => ?_) (fun c113 => ?_)
                · skip
                  refine lv_lload hx hb dX5_stakes_150 (lv_at hl 5 rfl) ?_
                  exact ret_Wl hx hb hr hlocks dX5_stakes_152 hP hD hS ⟨Or.inl ⟨i, q, j + 1, rfl, rfl, rfl, hi, hq, ht1, ht, by rw [if_pos (by omega)]; rfl⟩, bs1, rfl⟩
                · skip
                  exact absurd c113 (by omega)
            · skip
              rw [lg_cmp_eq, pk_lEQ (by omega) hTp] at c92
              refine lv_lconst (v := lN 1) hx hb dX5_stakes_95 rfl ?_
              refine lv_goto (tgt := 100) hx hb dX5_stakes_96 (by decide) ?_
              refine tp_l (show _ = gBits g (gd i) (gBst g gd 0 n 0 j) q (gBst g gd 0 n 0 (j + 1) q) 0 from (if_pos c92).symm) ?_
              refine st_l2 hx hb 5 dX5_stakes_100 hl (by decide) rfl (fun ls hl => ?_)
              refine lv_iconst (v := nI 1) hx hb dX5_stakes_102 (by decide) ?_
              refine st_i2 hx hb 6 dX5_stakes_103 hl (by decide) rfl (fun ls hl => ?_)
              refine wLoop (min q (gL (gd i))) 0 (fun s9 ls => lv_has ls 9 [(0, .ref (am 0)), (1, .int (nI i)), (2, .int (nI q)), (3, .int (nI (j + 1))), (4, .long (lN (gBst g gd 0 n 0 (j + 1) q))), (6, .long (gBits g (gd i) (gBst g gd 0 n 0 j) q (gBst g gd 0 n 0 (j + 1) q) s9)), (8, .int (nI (s9 + 1)))]) (Nat.zero_le _) (fun s9 ls hs9 hl ih => ?_) (fun ls hl => ?_) hl
              · skip
                refine lv_iload hx hb dX5_stakes_105 (lv_at hl 6 rfl) ?_
                refine lv_aload_n hx hb dX5_stakes_107 rfl (lv_at hl 0 rfl) ?_
                refine lv_iload_n hx hb dX5_stakes_108 rfl (lv_at hl 1 rfl) ?_
                refine lv_iload_n hx hb dX5_stakes_109 rfl (lv_at hl 2 rfl) ?_
                refine vp_callSi (W.runV ⟨hx, hb, hml, hown, hts⟩ (m_mostAt l E am g hz n kd ch tm tx lm td tr bs1 nw th pd rest hn gd hM i q hi (by omega)) (cwV 2 hts gX5_stakes_X5_mostAt rfl rfl rfl (by decide +kernel) ⟨Nat.le_of_ble_eq_true rfl, Nat.le_of_ble_eq_true rfl⟩) (ePu_V hP hE (ci := 5) (k := 0) rfl rfl) rfl rfl hl.1 rfl (lv_room (Nat.le_of_ble_eq_true rfl)) dX5_stakes_110 ⟨Nat.zero_le _, Nat.zero_le _⟩) (fun r9 hr9 => ?_)
                subst hr9
                refine n_gt hx hb (by omega) (by omega) 150 dX5_stakes_113 (by decide) (fun c113 => ?_) (fun c113 => ?_)
                · skip
                  exact absurd c113 (by omega)
                · skip
                  refine lv_lload hx hb dX5_stakes_116 (lv_at hl 5 rfl) ?_
                  refine lv_aload_n hx hb dX5_stakes_118 rfl (lv_at hl 0 rfl) ?_
                  refine lv_iload_n hx hb dX5_stakes_119 rfl (lv_at hl 1 rfl) ?_
                  refine lv_iload_n hx hb dX5_stakes_120 rfl (lv_at hl 2 rfl) ?_
                  refine lv_iload hx hb dX5_stakes_121 (lv_at hl 6 rfl) ?_
                  refine lv_iload_n hx hb dX5_stakes_123 rfl (lv_at hl 3 rfl) ?_
                  refine vp_callSl (W.runV ⟨hx, hb, hml, hown, hts⟩ (m_worth l E am g hz n kd ch tm tx lm td tr bs1 nw th pd rest hn gd hM hg32 i q (s9 + 1) j (gBst g gd 0 n 0 j) hi hq (by omega) (by omega) (fun x hx => hb1 j (by omega) x hx)) (cwV 4 hts gX5_stakes_X5_worth rfl rfl rfl (by decide +kernel) ⟨Nat.le_of_ble_eq_true rfl, Nat.le_of_ble_eq_true rfl⟩) (ePu_V hP hE (ci := 5) (k := 0) rfl rfl) rfl rfl hl.1 rfl (lv_room (Nat.le_of_ble_eq_true rfl)) dX5_stakes_124 ⟨Nat.zero_le _, Nat.zero_le _⟩) (fun r9 hr9 => ?_)
                  subst hr9
                  refine lv_lload hx hb dX5_stakes_127 (lv_at hl 4 rfl) ?_
                  refine W.lcmp hx hb dX5_stakes_129 ?_
                  have hs2 := gVal_le (s := s9 + 1) hd hBd hq
                  refine lv_if_ne (tgt := 140) hx hb dX5_stakes_130 (by decide) (fun c130 => ?_) (fun c130 => ?_)
                  · skip
                    rw [lg_cmp_eq, pk_lEQ (by omega) hTp] at c130
                    refine lv_lconst (v := lN 0) hx hb dX5_stakes_140 rfl ?_
                    refine lv_lor hx hb dX5_stakes_141 ?_
                    refine tp_l (show _ = gBits g (gd i) (gBst g gd 0 n 0 j) q (gBst g gd 0 n 0 (j + 1) q) (s9 + 1) from (Int64.or_zero).trans (if_neg c130).symm) ?_
                    refine st_l2 hx hb 5 dX5_stakes_142 hl (by decide) rfl (fun ls hl => ?_)
                    refine st_inc hx hb 6 dX5_stakes_144 hl rfl (nI_1 _) (by decide) rfl (fun ls hl => ?_)
                    refine lv_goto (tgt := 105) hx hb dX5_stakes_147 (by decide) ?_
                    exact ih _ hl
                  · skip
                    rw [lg_cmp_eq, pk_lEQ (by omega) hTp] at c130
                    refine lv_lconst (v := lN 1) hx hb dX5_stakes_133 rfl ?_
                    refine lv_iload hx hb dX5_stakes_134 (lv_at hl 6 rfl) ?_
                    refine lv_lshl hx hb dX5_stakes_136 rfl ?_
                    refine lv_goto (tgt := 141) hx hb dX5_stakes_137 (by decide) ?_
                    refine lv_lor hx hb dX5_stakes_141 ?_
                    refine tp_l (show _ = gBits g (gd i) (gBst g gd 0 n 0 j) q (gBst g gd 0 n 0 (j + 1) q) (s9 + 1) from (if_pos c130).symm) ?_
                    refine st_l2 hx hb 5 dX5_stakes_142 hl (by decide) rfl (fun ls hl => ?_)
                    refine st_inc hx hb 6 dX5_stakes_144 hl rfl (nI_1 _) (by decide) rfl (fun ls hl => ?_)
                    refine lv_goto (tgt := 105) hx hb dX5_stakes_147 (by decide) ?_
                    exact ih _ hl
              · skip
                refine lv_iload hx hb dX5_stakes_105 (lv_at hl 6 rfl) ?_
                refine lv_aload_n hx hb dX5_stakes_107 rfl (lv_at hl 0 rfl) ?_
                refine lv_iload_n hx hb dX5_stakes_108 rfl (lv_at hl 1 rfl) ?_
                refine lv_iload_n hx hb dX5_stakes_109 rfl (lv_at hl 2 rfl) ?_
                refine vp_callSi (W.runV ⟨hx, hb, hml, hown, hts⟩ (m_mostAt l E am g hz n kd ch tm tx lm td tr bs1 nw th pd rest hn gd hM i q hi (by omega)) (cwV 2 hts gX5_stakes_X5_mostAt rfl rfl rfl (by decide +kernel) ⟨Nat.le_of_ble_eq_true rfl, Nat.le_of_ble_eq_true rfl⟩) (ePu_V hP hE (ci := 5) (k := 0) rfl rfl) rfl rfl hl.1 rfl (lv_room (Nat.le_of_ble_eq_true rfl)) dX5_stakes_110 ⟨Nat.zero_le _, Nat.zero_le _⟩) (fun r9 hr9 => ?_)
                subst hr9
                refine n_gt hx hb (by omega) (by omega) 150 dX5_stakes_113 (by decide) (fun c113 => ?_) (fun c113 => ?_)
                · skip
                  refine lv_lload hx hb dX5_stakes_150 (lv_at hl 5 rfl) ?_
                  exact ret_Wl hx hb hr hlocks dX5_stakes_152 hP hD hS ⟨Or.inl ⟨i, q, j + 1, rfl, rfl, rfl, hi, hq, ht1, ht, by rw [if_pos (by omega)]; rfl⟩, bs1, rfl⟩
                · skip
                  exact absurd c113 (by omega)
          · skip
            refine lv_lconst (v := lN 0) hx hb dX5_stakes_44 rfl ?_
            exact ret_Wl hx hb hr hlocks dX5_stakes_45 hP hD hS ⟨Or.inl ⟨i, q, j + 1, rfl, rfl, rfl, hi, hq, ht1, ht, by rw [if_neg (by omega)]⟩, bs, rfl⟩
      · skip
        refine lv_ldc2 (v := -1) hx hb hown (hts (.constantLong RX5 84 (-1)) (by decide +kernel)) dX5_stakes_28 ?_
        exact ret_Wl hx hb hr hlocks dX5_stakes_31 hP hD hS ⟨Or.inr ⟨fun ⟨i, q, t, e1, e2, e3, g1, g2, g3, g4⟩ => c25 (by rw [e3]; exact (nI_rngI (by omega) (by decide) (by omega)).mpr ⟨g3, g4⟩), rfl⟩, bs, rfl⟩
set_option maxHeartbeats 4000000 in
set_option maxRecDepth 100000 in
/-- tell -/
theorem m_tell (l : Launch) (E : eT) (am : Nat → Nat) (g hz n : Nat) (kd ch tm tx lm : Nat → Int32) (td : Nat → Nat) (tr : Int64) (bs nw th : Nat → Int64) (pd : Int64) (rest : va_W) (hg2 : 2 ≤ g) (hg32 : g ≤ 32) (qv vv : Int32) : mWi l yX5_tell wsX5_tell 1 24 0 0 E (wM E am g hz n kd ch tm tx lm (fun j => nI (td j)) tr bs nw th pd ++ rest) [.ref (am 0), .int qv, .int vv] (fun r ws1 => ∃ td1 : Nat → Nat, tel_of g td qv vv r td1 ∧ ws1 = wM E am g hz n kd ch tm tx lm (fun j => nI (td1 j)) tr bs nw th pd ++ rest) := by
  intro sz
  refine mW_of (cc := cX5_tell) (maxL := 4) (ret := (some .int)) (Qc := fun sz => va_Qi (fun r ws1 => ∃ td1 : Nat → Nat, tel_of g td qv vv r td1 ∧ ws1 = wM E am g hz n kd ch tm tx lm (fun j => nI (td1 j)) tr bs nw th pd ++ rest) (eAt E (va_A (wM E am g hz n kd ch tm tx lm (fun j => nI (td j)) tr bs nw th pd ++ rest) sz)) (va_A (wM E am g hz n kd ch tm tx lm (fun j => nI (td j)) tr bs nw th pd ++ rest) sz)) (by decide) rfl (Nat.le_of_ble_eq_true rfl) ?_
  intro p0 e0 s m below meth c0 ls hx hb hr hml hts hown hlocks hin hE hP hD hl
  have hS : va_S (va_A (wM E am g hz n kd ch tm tx lm (fun j => nI (td j)) tr bs nw th pd ++ rest) s.heap.size) s.heap s.heap [] := va_S.rf
  have hA : ∀ q, s.heap.size ≤ q → (va_A (wM E am g hz n kd ch tm tx lm (fun j => nI (td j)) tr bs nw th pd ++ rest) s.heap.size) q := fun q h => Or.inr h
  have hown : s.vm.findClass RX5 = some m.cls := hown
  have hl : lv_has ls 4 [(0, .ref (am 0)), (1, .int qv), (2, .int vv)] := hl
  have hinX5 : ∀ w ∈ wsX50, w ∈ wsX5_tell := by decide +kernel
  refine lv_iload_n hx hb dX5_tell_0 rfl (lv_at hl 1 rfl) ?_
  refine lv_iconst (v := nI 1) hx hb dX5_tell_1 (by decide) ?_
  refine lv_aload_n hx hb dX5_tell_2 rfl (lv_at hl 0 rfl) ?_
  refine va_get (D := E.1) (ci := 5) (C := RX5) (T := TX5) (N := 14) hx hb hts hinX5 hown hE.1 hP 0 rfl rfl 0 (by decide) (hts (.fieldLink RX5 7 "StakeHouseModel" "goal" "I") (by decide +kernel)) (fun _ h9 => h9) rfl dX5_tell_3 ?_
  refine lv_iconst (v := nI 1) hx hb dX5_tell_6 (by decide) ?_
  refine lv_isub hx hb dX5_tell_7 ?_
  refine tp_i (pk_sub (by omega)) ?_
  refine vp_callSi (W.runS ⟨hx, hb, hml, hown, hts⟩ (c_in l E _ _ _ _) (va_cwS 3 hts gX5_tell_X5_in rfl rfl rfl (by decide +kernel) ⟨Nat.le_of_ble_eq_true rfl, Nat.le_of_ble_eq_true rfl⟩) (ePu_S hP hE) rfl rfl hl.1 rfl (lv_room (Nat.le_of_ble_eq_true rfl)) dX5_tell_8 ⟨Nat.zero_le _, Nat.zero_le _⟩) (fun r9 hr9 => ?_)
  subst hr9
  refine q_eq hx hb 24 dX5_tell_11 (by decide) (fun c11 => ?_) (fun c11 => ?_)
  · skip
    refine lv_iconst (v := (-1)) hx hb dX5_tell_24 (by decide) ?_
    exact ret_Wi hx hb hr hlocks dX5_tell_25 hP hD hS ⟨td, Or.inr ⟨fun q => c11 q.1, rfl, rfl⟩, rfl⟩
  · skip
    obtain ⟨q, hq1, hq2, rfl⟩ := nI_rng (by omega) c11 (by decide)
    refine lv_iload_n hx hb dX5_tell_14 rfl (lv_at hl 2 rfl) ?_
    refine lv_iconst (v := nI 0) hx hb dX5_tell_15 (by decide) ?_
    refine lv_bipush (v := nI 32) hx hb dX5_tell_16 (by decide) ?_
    refine vp_callSi (W.runS ⟨hx, hb, hml, hown, hts⟩ (c_in l E _ _ _ _) (va_cwS 3 hts gX5_tell_X5_in rfl rfl rfl (by decide +kernel) ⟨Nat.le_of_ble_eq_true rfl, Nat.le_of_ble_eq_true rfl⟩) (ePu_S hP hE) rfl rfl hl.1 rfl (lv_room (Nat.le_of_ble_eq_true rfl)) dX5_tell_18 ⟨Nat.zero_le _, Nat.zero_le _⟩) (fun r9 hr9 => ?_)
    subst hr9
    refine q_ne hx hb 26 dX5_tell_21 (by decide) (fun c21 => ?_) (fun c21 => ?_)
    · skip
      obtain ⟨v, -, hv2, rfl⟩ := nI_rng (by decide) c21 (by decide)
      refine lv_aload_n hx hb dX5_tell_26 rfl (lv_at hl 0 rfl) ?_
      refine va_get (D := E.1) (ci := 5) (C := RX5) (T := TX5) (N := 14) hx hb hts hinX5 hown hE.1 hP 0 rfl rfl 8 (by decide) (hts (.fieldLink RX5 32 "StakeHouseModel" "told" "[I") (by decide +kernel)) (fun _ h9 => h9) rfl dX5_tell_27 ?_
      refine lv_iload_n hx hb dX5_tell_30 rfl (lv_at hl 1 rfl) ?_
      refine va_iald hx hb hE.1 hP 6 0 rfl rfl (vp_in_nI (by omega) (by decide)) dX5_tell_31 ?_
      refine tp_i (show _ = nI (td q) by rw [nI_clamp (by omega)]) ?_
      refine st_i1 hx hb 3 dX5_tell_32 rfl hl (by decide) rfl (fun ls hl => ?_)
      refine lv_aload_n hx hb dX5_tell_33 rfl (lv_at hl 0 rfl) ?_
      refine va_get (D := E.1) (ci := 5) (C := RX5) (T := TX5) (N := 14) hx hb hts hinX5 hown hE.1 hP 0 rfl rfl 8 (by decide) (hts (.fieldLink RX5 32 "StakeHouseModel" "told" "[I") (by decide +kernel)) (fun _ h9 => h9) rfl dX5_tell_34 ?_
      refine lv_iload_n hx hb dX5_tell_37 rfl (lv_at hl 1 rfl) ?_
      refine lv_iload_n hx hb dX5_tell_38 rfl (lv_at hl 2 rfl) ?_
      refine va_iast hx hb hE.1 hP hD hS 6 0 rfl rfl (vp_in_nI (by omega) (by decide)) dX5_tell_39 (fun H locs hP hD hS => ?_)
      have hP : va_P E.1 vwCl (wM E am g hz n kd ch tm tx lm (fun j => nI (va_up td q v j)) tr bs nw th pd ++ rest) H := (by rw [nI_clamp (by omega), upd_nI] at hP; exact hP)
      have hD : va_D (va_A (wM E am g hz n kd ch tm tx lm (fun j => nI (td j)) tr bs nw th pd ++ rest) s.heap.size) (wM E am g hz n kd ch tm tx lm (fun j => nI (va_up td q v j)) tr bs nw th pd ++ rest) := (by rw [nI_clamp (by omega), upd_nI] at hD; exact hD)
      refine lv_iload_n hx hb dX5_tell_40 rfl (lv_at hl 3 rfl) ?_
      exact ret_Wi hx hb hr hlocks dX5_tell_41 hP hD hS ⟨_, Or.inl ⟨q, v, rfl, rfl, hq1, by omega, hv2, rfl, rfl⟩, rfl⟩
    · skip
      refine lv_iconst (v := (-1)) hx hb dX5_tell_24 (by decide) ?_
      exact ret_Wi hx hb hr hlocks dX5_tell_25 hP hD hS ⟨td, Or.inr ⟨fun q => c21 q.2, rfl, rfl⟩, rfl⟩
end
section
/-! FORWARD AND BACKWARD: the reference follows what may come, the class counts from the end; both bring the same -/
theorem sm_s (f : Nat → Nat) (k : Nat) : sm f (k + 1) = sm f k + f k := rfl
theorem sm_congr {f f' : Nat → Nat} : ∀ k, (∀ x, x < k → f x = f' x) → sm f k = sm f' k
  | 0, _ => rfl
  | k + 1, h => by
    simp only [sm]
    rw [sm_congr k (fun x hx => h x (by omega)), h k (by omega)]
theorem sm_add (f f' : Nat → Nat) : ∀ k, sm (fun x => f x + f' x) k = sm f k + sm f' k
  | 0 => rfl
  | k + 1 => by
    simp only [sm]
    rw [sm_add f f' k]
    omega
theorem sm_mul (c : Nat) (f : Nat → Nat) : ∀ k, sm (fun x => c * f x) k = c * sm f k
  | 0 => rfl
  | k + 1 => by
    simp only [sm]
    rw [sm_mul c f k, Nat.mul_add]
theorem sm_zero : ∀ k, sm (fun _ => 0) k = 0
  | 0 => rfl
  | k + 1 => by simp only [sm]; rw [sm_zero k]
theorem sm_ge {f : Nat → Nat} {x : Nat} : ∀ k, x < k → f x ≤ sm f k
  | k + 1, h => by
    simp only [sm]
    by_cases e : x = k
    · subst e; omega
    · have := sm_ge (f := f) (x := x) k (by omega)
      omega
theorem sm_up {f φ : Nat → Nat} {a v : Nat} : ∀ k, sm (fun x => va_up f a (f a + v) x * φ x) k = sm (fun x => f x * φ x) k + (if a < k then v * φ a else 0)
  | 0 => by simp [sm]
  | k + 1 => by
    simp only [sm]
    rw [sm_up k]
    by_cases e : k = a
    · subst e
      rw [vu_at, if_neg (by omega), if_pos (by omega), Nat.add_mul]
      omega
    · rw [vu_no e]
      by_cases h : a < k
      · rw [if_pos h, if_pos (by omega)]; omega
      · rw [if_neg h, if_neg (by omega)]; omega
/-- sums by rows of 65 -/
theorem sm_app (f : Nat → Nat) (a : Nat) : ∀ b, sm f (a + b) = sm f a + sm (fun x => f (a + x)) b
  | 0 => by simp [sm]
  | b + 1 => by
    rw [← Nat.add_assoc]
    simp only [sm]
    rw [sm_app f a b]
    omega
theorem sm_rows (N e : Nat → Nat) : ∀ K, sm (fun x => N x * e (x / 65)) (65 * K) = sm (fun p => e p * sm (fun w => N (65 * p + w)) 65) K
  | 0 => rfl
  | K + 1 => by
    rw [Nat.mul_succ, sm_app, sm_s _ K, sm_rows N e K, ← sm_mul]
    congr 1
    apply sm_congr
    intro x hx
    rw [show (65 * K + x) / 65 = K by omega, Nat.mul_comm]
theorem sm_one (W : Nat → Nat) (p0 : Nat) : ∀ K, p0 < K → sm (fun p => (if p = p0 then 1 else 0) * W p) K = W p0
  | K + 1, h => by
    simp only [sm]
    by_cases e : K = p0
    · subst e
      have h0 : sm (fun p => (if p = K then 1 else 0) * W p) K = 0 := by
        rw [sm_congr K (f' := fun _ => 0) (fun x hx => by rw [if_neg (by omega), Nat.zero_mul]), sm_zero]
      rw [h0, if_pos rfl]; omega
    · rw [sm_one W p0 K (by omega), if_neg e]; omega
theorem sm_cut {f : Nat → Nat} {a : Nat} : ∀ b, (∀ x, a ≤ x → x < a + b → f x = 0) → sm f (a + b) = sm f a
  | 0, _ => rfl
  | b + 1, h => by
    rw [← Nat.add_assoc]
    simp only [sm]
    rw [sm_cut b (fun x h1 h2 => h x h1 (by omega)), h (a + b) (by omega) (by omega)]
    omega
/-- one turn, from a state 65 * purse + wanted stake -/
def fS (g : Nat) (d : gT) (td : Nat → Nat) (plan x : Nat) : Nat := if x / 65 = 0 ∨ x / 65 = g then 0 else if plan = 3 then min (x % 65) (min (x / 65) (gL d)) else gPl g d td plan (x / 65) 0
def fWn (g : Nat) (d : gT) (td : Nat → Nat) (plan x : Nat) : Nat := 65 * min g (x / 65 + gWin d (fS g d td plan x)) + 1
def fLs (g : Nat) (d : gT) (td : Nat → Nat) (plan x : Nat) : Nat := 65 * (x / 65 - fS g d td plan x) + (if plan = 3 then 2 * fS g d td plan x else 1)
def fAdd (f : Nat → Nat) (x v : Nat) : Nat → Nat := va_up f x (f x + v)
def fT (g : Nat) (d : gT) (td : Nat → Nat) (plan : Nat) (N : Nat → Nat) : Nat → Nat → Nat
  | 0 => fun _ => 0
  | m + 1 => if N m = 0 then fT g d td plan N m else if fS g d td plan m = 0 then fAdd (fT g d td plan N m) m (16 * N m) else fAdd (fAdd (fT g d td plan N m) (fWn g d td plan m) (gC d * N m)) (fLs g d td plan m) ((16 - gC d) * N m)
def fSo (g : Nat) (d : gT) (td : Nat → Nat) (plan : Nat) (N : Nat → Nat) : Nat → Nat
  | 0 => 0
  | m + 1 => if N m = 0 then fSo g d td plan N m else if fS g d td plan m = 0 then fSo g d td plan N m else fSo g d td plan N m + N m
def fNow (g : Nat) (d : gT) (td : Nat → Nat) (plan q : Nat) : Nat → Nat → Nat
  | 0 => fun x => if x = 65 * q + 1 then 1 else 0
  | k + 1 => fT g d td plan (fNow g d td plan q k) 2145
def fPd (g : Nat) (d : gT) (td : Nat → Nat) (plan q : Nat) : Nat → Nat
  | 0 => 0
  | k + 1 => 16 * fPd g d td plan q k + 16 * fSo g d td plan (fNow g d td plan q k) 2145
section FD
variable {g : Nat} {d : gT} {td : Nat → Nat} {plan : Nat}
theorem fS_le (hd : gOk d) (x : Nat) : fS g d td plan x ≤ min (x / 65) (gL d) := by
  unfold fS
  split
  · omega
  · split
    · omega
    · exact gPl_le hd (by omega)
theorem fS_in (hd : gOk d) {x : Nat} (hx : x / 65 ≤ g) (hs : fS g d td plan x ≠ 0) : 1 ≤ x / 65 ∧ x / 65 < g := by
  unfold fS at hs
  split at hs
  · exact absurd rfl hs
  · omega
theorem fWn_lt (hg : g ≤ 32) (x : Nat) : fWn g d td plan x < 2145 ∧ fWn g d td plan x / 65 ≤ g := by
  unfold fWn
  omega
theorem fLs_lt (hg : g ≤ 32) (hd : gOk d) {x : Nat} (hx : x / 65 ≤ g) (hs : fS g d td plan x ≠ 0) : fLs g d td plan x < 2145 ∧ fLs g d td plan x / 65 ≤ g := by
  have h1 := fS_le (g := g) (td := td) (plan := plan) hd x
  have h2 := fS_in hd hx hs
  have h3 := hd.2.2.2.2.2
  unfold fLs
  split <;> omega
/-- who is somewhere is at a purse up to the goal -/
def fSup (g : Nat) (N : Nat → Nat) : Prop := ∀ x, N x ≠ 0 → x < 2145 ∧ x / 65 ≤ g
theorem fAdd_sup {N : Nat → Nat} {x v : Nat} (h : fSup g N) (hx : x < 2145 ∧ x / 65 ≤ g) : fSup g (fAdd N x v) := by
  intro y hy
  unfold fAdd at hy
  by_cases e : y = x
  · subst e; exact hx
  · rw [vu_no e] at hy; exact h y hy
theorem fT_sup (hg : g ≤ 32) (hd : gOk d) {N : Nat → Nat} (hN : fSup g N) : ∀ m, fSup g (fT g d td plan N m)
  | 0 => fun x hx => absurd rfl hx
  | m + 1 => by
    have ih := fT_sup hg hd hN m
    simp only [fT]
    split
    · exact ih
    · rename_i h0
      have hm := hN m h0
      split
      · exact fAdd_sup ih hm
      · rename_i hs
        exact fAdd_sup (fAdd_sup ih (fWn_lt hg m)) (fLs_lt hg hd hm.2 hs)
theorem fNow_sup (hg : g ≤ 32) (hd : gOk d) {q : Nat} (hq : q ≤ g) : ∀ k, fSup g (fNow g d td plan q k)
  | 0 => by
    intro x hx
    simp only [fNow] at hx
    split at hx
    · omega
    · exact absurd rfl hx
  | k + 1 => fT_sup hg hd (fNow_sup hg hd hq k) 2145
/-- what a turn makes of worths -/
def fP (g : Nat) (d : gT) (td : Nat → Nat) (plan : Nat) (φ : Nat → Nat) (x : Nat) : Nat := if fS g d td plan x = 0 then 16 * φ x else gC d * φ (fWn g d td plan x) + (16 - gC d) * φ (fLs g d td plan x)
theorem fT_dual (hg : g ≤ 32) (hd : gOk d) {N : Nat → Nat} (hN : fSup g N) (φ : Nat → Nat) : ∀ m, sm (fun x => fT g d td plan N m x * φ x) 2145 = sm (fun x => N x * fP g d td plan φ x) m
  | 0 => by
    show sm (fun x => 0 * φ x) 2145 = 0
    rw [sm_congr 2145 (f' := fun _ => 0) (fun x _ => Nat.zero_mul _), sm_zero]
  | m + 1 => by
    have ih := fT_dual hg hd hN φ m
    rw [sm_s _ m]
    have e : fT g d td plan N (m + 1) = if N m = 0 then fT g d td plan N m else if fS g d td plan m = 0 then fAdd (fT g d td plan N m) m (16 * N m) else fAdd (fAdd (fT g d td plan N m) (fWn g d td plan m) (gC d * N m)) (fLs g d td plan m) ((16 - gC d) * N m) := rfl
    rw [e]
    by_cases h0 : N m = 0
    · rw [if_pos h0, ih, h0, Nat.zero_mul, Nat.add_zero]
    · have hm := hN m h0
      rw [if_neg h0]
      by_cases hs : fS g d td plan m = 0
      · rw [if_pos hs]
        unfold fAdd
        rw [sm_up, if_pos hm.1, ih]
        rw [show fP g d td plan φ m = 16 * φ m from if_pos hs]
        rw [show 16 * N m * φ m = N m * (16 * φ m) by rw [Nat.mul_comm 16, Nat.mul_assoc]]
      · rw [if_neg hs]
        unfold fAdd
        rw [sm_up, if_pos (fLs_lt hg hd hm.2 hs).1, sm_up, if_pos (fWn_lt hg m).1, ih]
        rw [show fP g d td plan φ m = gC d * φ (fWn g d td plan m) + (16 - gC d) * φ (fLs g d td plan m) from if_neg hs]
        rw [Nat.mul_add, ← Nat.mul_assoc, ← Nat.mul_assoc, Nat.mul_comm (N m), Nat.mul_comm (N m)]
        omega
theorem fNow_sum (hg : g ≤ 32) (hd : gOk d) {q : Nat} (hq : q ≤ g) : ∀ k, sm (fun x => fNow g d td plan q k x * 1) 2145 = 16 ^ k
  | 0 => sm_one (fun _ => 1) (65 * q + 1) 2145 (by omega)
  | k + 1 => by
    have h := fT_dual (d := d) (td := td) (plan := plan) hg hd (fNow_sup (td := td) (plan := plan) hg hd hq k) (fun _ => 1) 2145
    have e0 : fNow g d td plan q (k + 1) = fT g d td plan (fNow g d td plan q k) 2145 := rfl
    have e1 : ∀ x, fP g d td plan (fun _ => 1) x = 16 := fun x => by
      have hc := hd.2.1
      show (if fS g d td plan x = 0 then 16 * 1 else gC d * 1 + (16 - gC d) * 1) = 16
      split <;> omega
    rw [e0, h, sm_congr 2145 (f' := fun x => 16 * (fNow g d td plan q k x * 1)) (fun x _ => by rw [e1]; omega), sm_mul, fNow_sum hg hd hq k, Nat.pow_succ]
    omega
theorem fNow_le (hg : g ≤ 32) (hd : gOk d) {q : Nat} (hq : q ≤ g) {k : Nat} (hk : k ≤ 12) {x : Nat} (hx : x < 2145) : fNow g d td plan q k x ≤ 2 ^ 48 := by
  have h1 := fNow_sum (td := td) (plan := plan) hg hd hq k
  have h2 := sm_ge (f := fun x => fNow g d td plan q k x * 1) 2145 hx
  have h3 := pow16_le hk
  have e : 16 ^ 12 = 2 ^ 48 := by decide
  simp only [Nat.mul_one] at h1 h2
  omega
/-- the worth of a state, with j turns left -/
def uV (g : Nat) (d : gT) (td : Nat → Nat) (plan what : Nat) : Nat → Nat → Nat
  | 0 => fun x => eW g what (x / 65)
  | j + 1 => fun x => (if fS g d td plan x = 0 then 0 else if what = 3 then 16 ^ (j + 1) else 0) + fP g d td plan (uV g d td plan what j) x
theorem fSo_sum (N : Nat → Nat) (c : Nat) : ∀ m, sm (fun x => N x * (if fS g d td plan x = 0 then 0 else c)) m = fSo g d td plan N m * c
  | 0 => by
    show 0 = 0 * c
    rw [Nat.zero_mul]
  | m + 1 => by
    have e : fSo g d td plan N (m + 1) = if N m = 0 then fSo g d td plan N m else if fS g d td plan m = 0 then fSo g d td plan N m else fSo g d td plan N m + N m := rfl
    rw [sm_s _ m, fSo_sum N c m, e]
    by_cases h0 : N m = 0
    · rw [if_pos h0, h0, Nat.zero_mul, Nat.add_zero]
    · rw [if_neg h0]
      by_cases hs : fS g d td plan m = 0
      · rw [if_pos hs, if_pos hs, Nat.mul_zero, Nat.add_zero]
      · rw [if_neg hs, if_neg hs, Nat.add_mul]
theorem flow (hg : g ≤ 32) (hd : gOk d) {q : Nat} (hq : q ≤ g) (what : Nat) : ∀ k j, (if what = 3 then fPd g d td plan q k * 16 ^ j else 0) + sm (fun x => fNow g d td plan q k x * uV g d td plan what j x) 2145 = sm (fun x => fNow g d td plan q 0 x * uV g d td plan what (j + k) x) 2145
  | 0, j => by
    have e1 : fPd g d td plan q 0 = 0 := rfl
    rw [e1, Nat.zero_mul, Nat.add_zero]
    split <;> omega
  | k + 1, j => by
    have ih := flow hg hd hq what k (j + 1)
    rw [show j + 1 + k = j + (k + 1) by omega] at ih
    rw [← ih]
    have e0 : fNow g d td plan q (k + 1) = fT g d td plan (fNow g d td plan q k) 2145 := rfl
    have e1 : fPd g d td plan q (k + 1) = 16 * fPd g d td plan q k + 16 * fSo g d td plan (fNow g d td plan q k) 2145 := rfl
    have h1 := fT_dual (d := d) (td := td) (plan := plan) hg hd (fNow_sup (td := td) (plan := plan) hg hd hq k) (uV g d td plan what j) 2145
    have h2 := fSo_sum (g := g) (d := d) (td := td) (plan := plan) (fNow g d td plan q k) (if what = 3 then 16 ^ (j + 1) else 0) 2145
    have h3 : sm (fun x => fNow g d td plan q k x * uV g d td plan what (j + 1) x) 2145 = sm (fun x => fNow g d td plan q k x * (if fS g d td plan x = 0 then 0 else if what = 3 then 16 ^ (j + 1) else 0)) 2145 + sm (fun x => fNow g d td plan q k x * fP g d td plan (uV g d td plan what j) x) 2145 := by
      rw [← sm_add]
      apply sm_congr
      intro x _
      exact Nat.mul_add _ _ _
    rw [h3, h2, e0, e1, h1]
    by_cases hw : what = 3
    · rw [if_pos hw, if_pos hw, if_pos hw, Nat.add_mul, Nat.pow_succ]
      rw [show 16 * fPd g d td plan q k * 16 ^ j = fPd g d td plan q k * (16 ^ j * 16) by rw [Nat.mul_comm 16, Nat.mul_assoc, Nat.mul_comm 16]]
      rw [show 16 * fSo g d td plan (fNow g d td plan q k) 2145 * 16 ^ j = fSo g d td plan (fNow g d td plan q k) 2145 * (16 ^ j * 16) by rw [Nat.mul_comm 16, Nat.mul_assoc, Nat.mul_comm 16]]
      omega
    · rw [if_neg hw, if_neg hw, if_neg hw]; omega
/-- a wanted stake and a rung that stand for each other -/
def fRel (d : gT) (plan p w r : Nat) : Prop := (plan = 3 → min w (min p (gL d)) = min (2 ^ r) (min p (gL d)) ∧ r ≤ 5) ∧ (plan ≠ 3 → r = 0)
theorem two_le {r : Nat} (h : r ≤ 5) : 1 ≤ 2 ^ r ∧ 2 ^ r ≤ 32 := ⟨Nat.one_le_two_pow, Nat.pow_le_pow_right (by decide) h⟩
theorem uV_gV (hg : g ≤ 32) (hd : gOk d) (hpl : plan ≤ 3) (what : Nat) : ∀ j p w r, p ≤ g → w < 65 → fRel d plan p w r → uV g d td plan what j (65 * p + w) = gV g d (gSt g d td plan) what (gRg plan) j r p
  | 0, p, w, r, hp, hw, hr => by
    simp only [uV, gV]
    rw [show (65 * p + w) / 65 = p by omega]
  | j + 1, p, w, r, hp, hw, hr => by
    have eD : (65 * p + w) / 65 = p := by omega
    have eM : (65 * p + w) % 65 = w := by omega
    have hL1 := hd.2.2.2.2.1
    have hL2 := hd.2.2.2.2.2
    have eS : fS g d td plan (65 * p + w) = gSt g d td plan r p := by
      unfold fS gSt
      rw [eD, eM]
      by_cases h0 : p = 0 ∨ p = g
      · rw [if_pos h0, if_neg (by omega)]
      · rw [if_neg h0, if_pos (show 1 ≤ p ∧ p < g by omega)]
        by_cases h3 : plan = 3
        · rw [if_pos h3, (hr.1 h3).1]
          unfold gPl
          rw [if_neg (by omega), if_neg (by omega), if_neg (by omega)]
        · rw [if_neg h3, hr.2 h3]
    simp only [uV, gV]
    unfold fP
    rw [eS]
    by_cases hs : gSt g d td plan r p = 0
    · rw [if_pos hs, if_pos hs, if_pos hs, uV_gV hg hd hpl what j p w r hp hw hr]
      omega
    · rw [if_neg hs, if_neg hs, if_neg hs]
      have hin : 1 ≤ p ∧ p < g := by
        unfold gSt at hs
        split at hs
        · assumption
        · exact absurd rfl hs
      have hsl := gSt_le (g := g) (td := td) (plan := plan) (r := r) (q := p) hd
      have e1 : uV g d td plan what j (fWn g d td plan (65 * p + w)) = gV g d (gSt g d td plan) what (gRg plan) j 0 (min g (p + gWin d (gSt g d td plan r p))) := by
        unfold fWn
        rw [eS, eD]
        exact uV_gV hg hd hpl what j _ 1 0 (by omega) (by omega) ⟨fun _ => ⟨rfl, by omega⟩, fun _ => rfl⟩
      have e2 : uV g d td plan what j (fLs g d td plan (65 * p + w)) = gV g d (gSt g d td plan) what (gRg plan) j (min (r + 1) (gRg plan - 1)) (p - gSt g d td plan r p) := by
        unfold fLs
        rw [eS, eD]
        refine uV_gV hg hd hpl what j _ _ _ (by omega) (by split <;> omega) ⟨fun h3 => ?_, fun h3 => ?_⟩
        · have hr3 := hr.1 h3
          have eR : gRg plan = 6 := if_pos h3
          have eg : gSt g d td plan r p = min (2 ^ r) (min p (gL d)) := by
            unfold gSt
            rw [if_pos hin]
            unfold gPl
            rw [if_neg (by omega), if_neg (by omega), if_neg (by omega)]
          rw [if_pos h3, eR]
          have t1 := two_le hr3.2
          refine ⟨?_, by omega⟩
          by_cases hr5 : r = 5
          · subst hr5
            rw [show min (5 + 1) (6 - 1) = 5 by omega]
            omega
          · rw [show min (r + 1) (6 - 1) = r + 1 by omega, Nat.pow_succ]
            omega
        · have eR : gRg plan = 1 := if_neg h3
          rw [eR]; omega
      rw [e1, e2]
      rfl
/-- what the reference follows to its end is what the class counts -/
theorem flow_end (hg : g ≤ 32) (hd : gOk d) (hpl : plan ≤ 3) {q : Nat} (hq : q ≤ g) (what t : Nat) : (if what = 3 then fPd g d td plan q t else 0) + sm (fun x => fNow g d td plan q t x * eW g what (x / 65)) 2145 = gV g d (gSt g d td plan) what (gRg plan) t 0 q := by
  have h := flow (td := td) (plan := plan) hg hd hq what t 0
  rw [Nat.zero_add] at h
  have h1 : sm (fun x => fNow g d td plan q 0 x * uV g d td plan what t x) 2145 = uV g d td plan what t (65 * q + 1) := sm_one (fun x => uV g d td plan what t x) (65 * q + 1) 2145 (by omega)
  rw [h1, uV_gV hg hd hpl what t q 1 0 hq (by omega) ⟨fun _ => ⟨rfl, by omega⟩, fun _ => rfl⟩] at h
  rw [← h, Nat.pow_zero, Nat.mul_one]
  rfl
theorem end_0 (hg : g ≤ 32) (hd : gOk d) (hpl : plan ≤ 3) {q : Nat} (hq : q ≤ g) (t : Nat) : sm (fun w => fNow g d td plan q t (65 * g + w)) 65 = gV g d (gSt g d td plan) 0 (gRg plan) t 0 q := by
  have h := flow_end (td := td) hg hd hpl hq 0 t
  rw [if_neg (by decide), Nat.zero_add] at h
  rw [← h, show 2145 = 65 * 33 by decide, sm_rows (fun x => fNow g d td plan q t x) (fun p => eW g 0 p) 33]
  have := sm_one (fun p => sm (fun w => fNow g d td plan q t (65 * p + w)) 65) g 33 (by omega)
  exact this.symm
theorem end_1 (hg : g ≤ 32) (hd : gOk d) (hpl : plan ≤ 3) {q : Nat} (hq : q ≤ g) (t : Nat) : sm (fun w => fNow g d td plan q t (65 * 0 + w)) 65 = gV g d (gSt g d td plan) 1 (gRg plan) t 0 q := by
  have h := flow_end (td := td) hg hd hpl hq 1 t
  rw [if_neg (by decide), Nat.zero_add] at h
  rw [← h, show 2145 = 65 * 33 by decide, sm_rows (fun x => fNow g d td plan q t x) (fun p => eW g 1 p) 33]
  have := sm_one (fun p => sm (fun w => fNow g d td plan q t (65 * p + w)) 65) 0 33 (by omega)
  exact this.symm
theorem end_2 (hg : g ≤ 32) (hd : gOk d) (hpl : plan ≤ 3) {q : Nat} (hq : q ≤ g) (t : Nat) : sm (fun p => p * sm (fun w => fNow g d td plan q t (65 * p + w)) 65) (g + 1) = gV g d (gSt g d td plan) 2 (gRg plan) t 0 q := by
  have h := flow_end (td := td) hg hd hpl hq 2 t
  rw [if_neg (by decide), Nat.zero_add] at h
  rw [← h, show 2145 = 65 * 33 by decide, sm_rows (fun x => fNow g d td plan q t x) (fun p => eW g 2 p) 33]
  have hc := sm_cut (f := fun p => p * sm (fun w => fNow g d td plan q t (65 * p + w)) 65) (a := g + 1) (32 - g) (fun x h1 h2 => by
    have h0 : sm (fun w => fNow g d td plan q t (65 * x + w)) 65 = 0 := by
      rw [sm_congr 65 (f' := fun _ => 0) (fun w hw => Classical.byContradiction fun hne => by have := (fNow_sup hg hd hq t (65 * x + w) hne).2; omega), sm_zero]
    show x * sm (fun w => fNow g d td plan q t (65 * x + w)) 65 = 0
    rw [h0, Nat.mul_zero])
  rw [show g + 1 + (32 - g) = 33 by omega] at hc
  exact hc.symm
theorem end_3 (hg : g ≤ 32) (hd : gOk d) (hpl : plan ≤ 3) {q : Nat} (hq : q ≤ g) (t : Nat) : fPd g d td plan q t = gV g d (gSt g d td plan) 3 (gRg plan) t 0 q := by
  have h := flow_end (td := td) hg hd hpl hq 3 t
  rw [if_pos rfl, sm_congr (f := fun x => fNow g d td plan q t x * eW g 3 (x / 65)) 2145 (f' := fun _ => 0) (fun x _ => Nat.mul_zero _), sm_zero, Nat.add_zero] at h
  exact h
end FD
end
section
/-! the reference: plans followed; plan, bold -/
theorem th_add {f : Nat → Int64} {F : Nat → Nat} {a v K : Nat} (h : ∀ x, x < K → f x = lN (F x)) : ∀ x, x < K → vp_updL f a (lN (F a + v)) x = lN (fAdd F a v x) := by
  intro x hx
  unfold vp_updL fAdd va_up
  split
  · rfl
  · exact h x hx
set_option maxHeartbeats 4000000 in
set_option maxRecDepth 100000 in
/-- follow -/
theorem m_follow (l : Launch) (E : eT) (am : Nat → Nat) (g hz n : Nat) (kd ch tm tx lm : Nat → Int32) (td : Nat → Nat) (tr : Int64) (bs nw th : Nat → Int64) (pd : Int64) (rest : va_W) (hn : n ≤ 4) (gd : Nat → gT) (hM : ∀ i, i < n → gArg (gd i) (kd i) (ch i) (tm i) (tx i) (lm i)) (hg2 : 2 ≤ g) (hg32 : g ≤ 32) (htd2 : ∀ j, td j ≤ 32) (plan i q t : Nat) (hpl : plan ≤ 3) (hi : i < n) (hq : q ≤ g) (ht : t ≤ 12) : mWv l yX5_follow wsX5_follow 2 50 0 0 E (wM E am g hz n kd ch tm tx lm (fun j => nI (td j)) tr bs nw th pd ++ rest) [.ref (am 0), .int (nI plan), .int (nI i), .int (nI q), .int (nI t)] (fun ws1 => ∃ nw1 th1 : Nat → Int64, (∀ x, x < 2145 → nw1 x = lN ((fNow g (gd i) td plan q t) x)) ∧ ws1 = wM E am g hz n kd ch tm tx lm (fun j => nI (td j)) tr bs nw1 th1 (lN (fPd g (gd i) td plan q t)) ++ rest) := by
  intro sz
  refine mW_of (cc := cX5_follow) (maxL := 12) (ret := none) (Qc := fun sz => va_Qv (fun ws1 => ∃ nw1 th1 : Nat → Int64, (∀ x, x < 2145 → nw1 x = lN ((fNow g (gd i) td plan q t) x)) ∧ ws1 = wM E am g hz n kd ch tm tx lm (fun j => nI (td j)) tr bs nw1 th1 (lN (fPd g (gd i) td plan q t)) ++ rest) (eAt E (va_A (wM E am g hz n kd ch tm tx lm (fun j => nI (td j)) tr bs nw th pd ++ rest) sz)) (va_A (wM E am g hz n kd ch tm tx lm (fun j => nI (td j)) tr bs nw th pd ++ rest) sz)) (by decide) rfl (Nat.le_of_ble_eq_true rfl) ?_
  intro p0 e0 s m below meth c0 ls hx hb hr hml hts hown hlocks hin hE hP hD hl
  have hS : va_S (va_A (wM E am g hz n kd ch tm tx lm (fun j => nI (td j)) tr bs nw th pd ++ rest) s.heap.size) s.heap s.heap [] := va_S.rf
  have hA : ∀ q, s.heap.size ≤ q → (va_A (wM E am g hz n kd ch tm tx lm (fun j => nI (td j)) tr bs nw th pd ++ rest) s.heap.size) q := fun q h => Or.inr h
  have hown : s.vm.findClass RX5 = some m.cls := hown
  have hl : lv_has ls 12 [(0, .ref (am 0)), (1, .int (nI plan)), (2, .int (nI i)), (3, .int (nI q)), (4, .int (nI t))] := hl
  have hinX5 : ∀ w ∈ wsX50, w ∈ wsX5_follow := by decide +kernel
  have hd := (hM i hi).1
  have hC := hd.2.1
  have hL1 := hd.2.2.2.2.2
  refine lv_iconst (v := nI 0) hx hb dX5_follow_0 (by decide) ?_
  refine st_i2 hx hb 5 dX5_follow_1 hl (by decide) rfl (fun ls hl => ?_)
  refine wLoopH 2145 0 (fun x9 H locs ls => ∃ nw1 : Nat → Int64, (∀ y, y < x9 → nw1 y = lN 0) ∧ va_P E.1 vwCl (wM E am g hz n kd ch tm tx lm (fun j => nI (td j)) tr bs nw1 th pd ++ rest) H ∧ va_D (va_A (wM E am g hz n kd ch tm tx lm (fun j => nI (td j)) tr bs nw th pd ++ rest) s.heap.size) (wM E am g hz n kd ch tm tx lm (fun j => nI (td j)) tr bs nw1 th pd ++ rest) ∧ va_S (va_A (wM E am g hz n kd ch tm tx lm (fun j => nI (td j)) tr bs nw th pd ++ rest) s.heap.size) s.heap H locs ∧ lv_has ls 12 [(0, .ref (am 0)), (1, .int (nI plan)), (2, .int (nI i)), (3, .int (nI q)), (4, .int (nI t)), (5, .int (nI x9))]) (Nat.zero_le _) (fun x9 H locs ls hi_x9 hI ihx => ?_) (fun H locs ls hI => ?_) ⟨nw, fun y hy => absurd hy (by omega), hP, hD, hS, hl⟩
  · skip
    obtain ⟨nw1, hn1, hP, hD, hS, hl⟩ := hI
    refine lv_iload hx hb dX5_follow_3 (lv_at hl 5 rfl) ?_
    refine lv_sipush (v := nI 2145) hx hb dX5_follow_5 (by decide) ?_
    refine n_ge hx hb (by omega) (by omega) 25 dX5_follow_8 (by decide) (fun c8 => ?_) (fun c8 => ?_)
    · skip
      exact absurd c8 (by omega)
    · skip
      refine lv_aload_n hx hb dX5_follow_11 rfl (lv_at hl 0 rfl) ?_
      refine va_get (D := E.1) (ci := 5) (C := RX5) (T := TX5) (N := 14) hx hb hts hinX5 hown hE.1 hP 0 rfl rfl 11 (by decide) (hts (.fieldLink RX5 39 "StakeHouseModel" "now" "[J") (by decide +kernel)) (fun _ h9 => h9) rfl dX5_follow_12 ?_
      refine lv_iload hx hb dX5_follow_15 (lv_at hl 5 rfl) ?_
      refine lv_lconst (v := lN 0) hx hb dX5_follow_17 rfl ?_
      refine va_last hx hb hE.1 hP hD hS 8 1 rfl rfl (vp_in_nI (by omega) (by decide)) dX5_follow_18 (fun H locs hP hD hS => ?_)
      have hP : va_P E.1 vwCl (wM E am g hz n kd ch tm tx lm (fun j => nI (td j)) tr bs (vp_updL nw1 x9 (lN 0)) th pd ++ rest) H := (by rw [nI_clamp (by omega)] at hP; exact hP)
      have hD : va_D (va_A (wM E am g hz n kd ch tm tx lm (fun j => nI (td j)) tr bs nw th pd ++ rest) s.heap.size) (wM E am g hz n kd ch tm tx lm (fun j => nI (td j)) tr bs (vp_updL nw1 x9 (lN 0)) th pd ++ rest) := (by rw [nI_clamp (by omega)] at hD; exact hD)
      refine st_inc hx hb 5 dX5_follow_19 hl rfl (nI_1 _) (by decide) rfl (fun ls hl => ?_)
      refine lv_goto (tgt := 3) hx hb dX5_follow_22 (by decide) ?_
      refine ihx _ _ _ ⟨_, fun y hy => ?_, hP, hD, hS, hl⟩
      by_cases hyx : y = x9
      · subst hyx; exact pk_uLs
      · rw [pk_uLn hyx]; exact hn1 y (by omega)
  · skip
    obtain ⟨nw1, hn1, hP, hD, hS, hl⟩ := hI
    refine lv_iload hx hb dX5_follow_3 (lv_at hl 5 rfl) ?_
    refine lv_sipush (v := nI 2145) hx hb dX5_follow_5 (by decide) ?_
    refine n_ge hx hb (by omega) (by omega) 25 dX5_follow_8 (by decide) (fun c8 => ?_) (fun c8 => ?_)
    · skip
      refine lv_aload_n hx hb dX5_follow_25 rfl (lv_at hl 0 rfl) ?_
      refine va_get (D := E.1) (ci := 5) (C := RX5) (T := TX5) (N := 14) hx hb hts hinX5 hown hE.1 hP 0 rfl rfl 11 (by decide) (hts (.fieldLink RX5 39 "StakeHouseModel" "now" "[J") (by decide +kernel)) (fun _ h9 => h9) rfl dX5_follow_26 ?_
      refine lv_bipush (v := nI 65) hx hb dX5_follow_29 (by decide) ?_
      refine lv_iload_n hx hb dX5_follow_31 rfl (lv_at hl 3 rfl) ?_
      refine lv_imul hx hb dX5_follow_32 ?_
      refine tp_i (pk_mul _ _) ?_
      refine lv_iconst (v := nI 1) hx hb dX5_follow_33 (by decide) ?_
      refine lv_iadd hx hb dX5_follow_34 ?_
      refine tp_i (nI_add _ _) ?_
      refine lv_lconst (v := lN 1) hx hb dX5_follow_35 rfl ?_
      refine va_last hx hb hE.1 hP hD hS 8 1 rfl rfl (vp_in_nI (by omega) (by decide)) dX5_follow_36 (fun H locs hP hD hS => ?_)
      have hP : va_P E.1 vwCl (wM E am g hz n kd ch tm tx lm (fun j => nI (td j)) tr bs (vp_updL nw1 (65 * q + 1) (lN 1)) th pd ++ rest) H := (by rw [nI_clamp (by omega)] at hP; exact hP)
      have hD : va_D (va_A (wM E am g hz n kd ch tm tx lm (fun j => nI (td j)) tr bs nw th pd ++ rest) s.heap.size) (wM E am g hz n kd ch tm tx lm (fun j => nI (td j)) tr bs (vp_updL nw1 (65 * q + 1) (lN 1)) th pd ++ rest) := (by rw [nI_clamp (by omega)] at hD; exact hD)
      refine lv_aload_n hx hb dX5_follow_37 rfl (lv_at hl 0 rfl) ?_
      refine lv_lconst (v := lN 0) hx hb dX5_follow_38 rfl ?_
      refine va_put (D := E.1) (ci := 5) (ty := .long) (C := RX5) (T := TX5) (N := 14) hx hb hts hinX5 tyX5 tyX5_ok nmX5 hown hE.1 hP hD hS 0 rfl rfl 13 (by decide) (hts (.fieldLink RX5 98 "StakeHouseModel" "played" "J") (by decide +kernel)) (fun _ h9 => h9) rfl (by decide +kernel) rfl rfl (Nat.le_of_ble_eq_true rfl) dX5_follow_39 (fun H locs hP hD hS => ?_)
      have hP : va_P E.1 vwCl (wM E am g hz n kd ch tm tx lm (fun j => nI (td j)) tr bs (vp_updL nw1 (65 * q + 1) (lN 1)) th (lN 0) ++ rest) H := hP
      have hD : va_D (va_A (wM E am g hz n kd ch tm tx lm (fun j => nI (td j)) tr bs nw th pd ++ rest) s.heap.size) (wM E am g hz n kd ch tm tx lm (fun j => nI (td j)) tr bs (vp_updL nw1 (65 * q + 1) (lN 1)) th (lN 0) ++ rest) := hD
      refine lv_iconst (v := nI 0) hx hb dX5_follow_42 (by decide) ?_
      refine st_i2 hx hb 5 dX5_follow_43 hl (by decide) rfl (fun ls hl => ?_)
      refine wLoopH t 0 (fun k H locs ls => ∃ nw2 th2 : Nat → Int64, (∀ x, x < 2145 → nw2 x = lN ((fNow g (gd i) td plan q k) x)) ∧ va_P E.1 vwCl (wM E am g hz n kd ch tm tx lm (fun j => nI (td j)) tr bs nw2 th2 (lN (fPd g (gd i) td plan q k)) ++ rest) H ∧ va_D (va_A (wM E am g hz n kd ch tm tx lm (fun j => nI (td j)) tr bs nw th pd ++ rest) s.heap.size) (wM E am g hz n kd ch tm tx lm (fun j => nI (td j)) tr bs nw2 th2 (lN (fPd g (gd i) td plan q k)) ++ rest) ∧ va_S (va_A (wM E am g hz n kd ch tm tx lm (fun j => nI (td j)) tr bs nw th pd ++ rest) s.heap.size) s.heap H locs ∧ lv_has ls 12 [(0, .ref (am 0)), (1, .int (nI plan)), (2, .int (nI i)), (3, .int (nI q)), (4, .int (nI t)), (5, .int (nI k))]) (Nat.zero_le _) (fun k H locs ls hi_k hI ihk => ?_) (fun H locs ls hI => ?_) ⟨_, th, fun x hx => by
          show vp_updL nw1 (65 * q + 1) (lN 1) x = lN (if x = 65 * q + 1 then 1 else 0)
          by_cases hxq : x = 65 * q + 1
          · rw [if_pos hxq, hxq]; exact pk_uLs
          · rw [if_neg hxq, pk_uLn hxq]; exact hn1 x hx, hP, hD, hS, hl⟩
      · skip
        obtain ⟨nw2, th2, hn2, hP, hD, hS, hl⟩ := hI
        have hsup := fNow_sup (td := td) (plan := plan) hg32 hd hq k
        refine lv_iload hx hb dX5_follow_45 (lv_at hl 5 rfl) ?_
        refine lv_iload hx hb dX5_follow_47 (lv_at hl 4 rfl) ?_
        refine n_ge hx hb (by omega) (by omega) 361 dX5_follow_49 (by decide) (fun c49 => ?_) (fun c49 => ?_)
        · skip
          exact absurd c49 (by omega)
        · skip
          refine lv_iconst (v := nI 0) hx hb dX5_follow_52 (by decide) ?_
          refine st_i2 hx hb 6 dX5_follow_53 hl (by decide) rfl (fun ls hl => ?_)
          refine wLoopH 2145 0 (fun x9 H locs ls => ∃ th3 : Nat → Int64, (∀ y, y < x9 → th3 y = lN 0) ∧ va_P E.1 vwCl (wM E am g hz n kd ch tm tx lm (fun j => nI (td j)) tr bs nw2 th3 (lN (fPd g (gd i) td plan q k)) ++ rest) H ∧ va_D (va_A (wM E am g hz n kd ch tm tx lm (fun j => nI (td j)) tr bs nw th pd ++ rest) s.heap.size) (wM E am g hz n kd ch tm tx lm (fun j => nI (td j)) tr bs nw2 th3 (lN (fPd g (gd i) td plan q k)) ++ rest) ∧ va_S (va_A (wM E am g hz n kd ch tm tx lm (fun j => nI (td j)) tr bs nw th pd ++ rest) s.heap.size) s.heap H locs ∧ lv_has ls 12 [(0, .ref (am 0)), (1, .int (nI plan)), (2, .int (nI i)), (3, .int (nI q)), (4, .int (nI t)), (5, .int (nI k)), (6, .int (nI x9))]) (Nat.zero_le _) (fun x9 H locs ls hi_x9 hI ihx => ?_) (fun H locs ls hI => ?_) ⟨th2, fun y hy => absurd hy (by omega), hP, hD, hS, hl⟩
          · skip
            obtain ⟨th3, hn3, hP, hD, hS, hl⟩ := hI
            refine lv_iload hx hb dX5_follow_55 (lv_at hl 6 rfl) ?_
            refine lv_sipush (v := nI 2145) hx hb dX5_follow_57 (by decide) ?_
            refine n_ge hx hb (by omega) (by omega) 77 dX5_follow_60 (by decide) (fun c60 => ?_) (fun c60 => ?_)
            · skip
              exact absurd c60 (by omega)
            · skip
              refine lv_aload_n hx hb dX5_follow_63 rfl (lv_at hl 0 rfl) ?_
              refine va_get (D := E.1) (ci := 5) (C := RX5) (T := TX5) (N := 14) hx hb hts hinX5 hown hE.1 hP 0 rfl rfl 12 (by decide) (hts (.fieldLink RX5 42 "StakeHouseModel" "then" "[J") (by decide +kernel)) (fun _ h9 => h9) rfl dX5_follow_64 ?_
              refine lv_iload hx hb dX5_follow_67 (lv_at hl 6 rfl) ?_
              refine lv_lconst (v := lN 0) hx hb dX5_follow_69 rfl ?_
              refine va_last hx hb hE.1 hP hD hS 9 1 rfl rfl (vp_in_nI (by omega) (by decide)) dX5_follow_70 (fun H locs hP hD hS => ?_)
              have hP : va_P E.1 vwCl (wM E am g hz n kd ch tm tx lm (fun j => nI (td j)) tr bs nw2 (vp_updL th3 x9 (lN 0)) (lN (fPd g (gd i) td plan q k)) ++ rest) H := (by rw [nI_clamp (by omega)] at hP; exact hP)
              have hD : va_D (va_A (wM E am g hz n kd ch tm tx lm (fun j => nI (td j)) tr bs nw th pd ++ rest) s.heap.size) (wM E am g hz n kd ch tm tx lm (fun j => nI (td j)) tr bs nw2 (vp_updL th3 x9 (lN 0)) (lN (fPd g (gd i) td plan q k)) ++ rest) := (by rw [nI_clamp (by omega)] at hD; exact hD)
              refine st_inc hx hb 6 dX5_follow_71 hl rfl (nI_1 _) (by decide) rfl (fun ls hl => ?_)
              refine lv_goto (tgt := 55) hx hb dX5_follow_74 (by decide) ?_
              refine ihx _ _ _ ⟨_, fun y hy => ?_, hP, hD, hS, hl⟩
              by_cases hyx : y = x9
              · subst hyx; exact pk_uLs
              · rw [pk_uLn hyx]; exact hn3 y (by omega)
          · skip
            obtain ⟨th3, hn3, hP, hD, hS, hl⟩ := hI
            refine lv_iload hx hb dX5_follow_55 (lv_at hl 6 rfl) ?_
            refine lv_sipush (v := nI 2145) hx hb dX5_follow_57 (by decide) ?_
            refine n_ge hx hb (by omega) (by omega) 77 dX5_follow_60 (by decide) (fun c60 => ?_) (fun c60 => ?_)
            · skip
              refine lv_aload_n hx hb dX5_follow_77 rfl (lv_at hl 0 rfl) ?_
              refine lv_dup hx hb dX5_follow_78 rfl ?_
              refine va_get (D := E.1) (ci := 5) (C := RX5) (T := TX5) (N := 14) hx hb hts hinX5 hown hE.1 hP 0 rfl rfl 13 (by decide) (hts (.fieldLink RX5 98 "StakeHouseModel" "played" "J") (by decide +kernel)) (fun _ h9 => h9) rfl dX5_follow_79 ?_
              refine lv_ldc2 (v := 16) hx hb hown (hts (.constantLong RX5 72 (16)) (by decide +kernel)) dX5_follow_82 ?_
              refine tp_l (show (16 : Int64) = lN 16 from rfl) ?_
              refine lv_lmul hx hb dX5_follow_85 ?_
              refine tp_l (lN_mul _ _) ?_
              refine va_put (D := E.1) (ci := 5) (ty := .long) (C := RX5) (T := TX5) (N := 14) hx hb hts hinX5 tyX5 tyX5_ok nmX5 hown hE.1 hP hD hS 0 rfl rfl 13 (by decide) (hts (.fieldLink RX5 98 "StakeHouseModel" "played" "J") (by decide +kernel)) (fun _ h9 => h9) rfl (by decide +kernel) rfl rfl (Nat.le_of_ble_eq_true rfl) dX5_follow_86 (fun H locs hP hD hS => ?_)
              have hP : va_P E.1 vwCl (wM E am g hz n kd ch tm tx lm (fun j => nI (td j)) tr bs nw2 th3 (lN ((fPd g (gd i) td plan q k) * 16)) ++ rest) H := hP
              have hD : va_D (va_A (wM E am g hz n kd ch tm tx lm (fun j => nI (td j)) tr bs nw th pd ++ rest) s.heap.size) (wM E am g hz n kd ch tm tx lm (fun j => nI (td j)) tr bs nw2 th3 (lN ((fPd g (gd i) td plan q k) * 16)) ++ rest) := hD
              refine lv_lconst (v := lN 0) hx hb dX5_follow_89 rfl ?_
              refine st_l2 hx hb 6 dX5_follow_90 hl (by decide) rfl (fun ls hl => ?_)
              refine lv_iconst (v := nI 0) hx hb dX5_follow_92 (by decide) ?_
              refine st_i2 hx hb 7 dX5_follow_93 hl (by decide) rfl (fun ls hl => ?_)
              refine wLoopH 2145 0 (fun m9 H locs ls => ∃ th4 : Nat → Int64, (∀ x, x < 2145 → th4 x = lN ((fT g (gd i) td plan (fNow g (gd i) td plan q k) m9) x)) ∧ va_P E.1 vwCl (wM E am g hz n kd ch tm tx lm (fun j => nI (td j)) tr bs nw2 th4 (lN ((fPd g (gd i) td plan q k) * 16)) ++ rest) H ∧ va_D (va_A (wM E am g hz n kd ch tm tx lm (fun j => nI (td j)) tr bs nw th pd ++ rest) s.heap.size) (wM E am g hz n kd ch tm tx lm (fun j => nI (td j)) tr bs nw2 th4 (lN ((fPd g (gd i) td plan q k) * 16)) ++ rest) ∧ va_S (va_A (wM E am g hz n kd ch tm tx lm (fun j => nI (td j)) tr bs nw th pd ++ rest) s.heap.size) s.heap H locs ∧ lv_has ls 12 [(0, .ref (am 0)), (1, .int (nI plan)), (2, .int (nI i)), (3, .int (nI q)), (4, .int (nI t)), (5, .int (nI k)), (6, .long (lN (fSo g (gd i) td plan (fNow g (gd i) td plan q k) m9))), (8, .int (nI m9))]) (Nat.zero_le _) (fun m9 H locs ls hi_m9 hI ihm => ?_) (fun H locs ls hI => ?_) ⟨th3, fun x hx => hn3 x hx, hP, hD, hS, hl⟩
              · skip
                obtain ⟨th4, hth, hP, hD, hS, hl⟩ := hI
                have hbm := fNow_le (td := td) (plan := plan) hg32 hd hq (k := k) (by omega) (show m9 < 2145 by omega)
                refine lv_iload hx hb dX5_follow_95 (lv_at hl 7 rfl) ?_
                refine lv_sipush (v := nI 2145) hx hb dX5_follow_97 (by decide) ?_
                refine n_ge hx hb (by omega) (by omega) 309 dX5_follow_100 (by decide) (fun c100 => ?_) (fun c100 => ?_)
                · skip
                  exact absurd c100 (by omega)
                · skip
                  refine lv_aload_n hx hb dX5_follow_103 rfl (lv_at hl 0 rfl) ?_
                  refine va_get (D := E.1) (ci := 5) (C := RX5) (T := TX5) (N := 14) hx hb hts hinX5 hown hE.1 hP 0 rfl rfl 11 (by decide) (hts (.fieldLink RX5 39 "StakeHouseModel" "now" "[J") (by decide +kernel)) (fun _ h9 => h9) rfl dX5_follow_104 ?_
                  refine lv_iload hx hb dX5_follow_107 (lv_at hl 7 rfl) ?_
                  refine va_lald hx hb hE.1 hP 8 1 rfl rfl (vp_in_nI (by omega) (by decide)) dX5_follow_109 ?_
                  refine tp_l (show _ = lN ((fNow g (gd i) td plan q k) m9) by rw [nI_clamp (by omega)]; exact hn2 m9 (by omega)) ?_
                  refine lv_lconst (v := lN 0) hx hb dX5_follow_110 rfl ?_
                  refine W.lcmp hx hb dX5_follow_111 ?_
                  refine lv_if_le (tgt := 303) hx hb dX5_follow_112 (by decide) (fun c112 => ?_) (fun c112 => ?_)
                  · skip
                    rw [lg_cmp_le, pk_lLE (by omega) (by decide)] at c112
                    have e0 : ((fNow g (gd i) td plan q k) m9) = 0 := by omega
                    refine st_inc hx hb 7 dX5_follow_303 hl rfl (nI_1 _) (by decide) rfl (fun ls hl => ?_)
                    refine lv_goto (tgt := 95) hx hb dX5_follow_306 (by decide) ?_
                    have e1 : (fT g (gd i) td plan (fNow g (gd i) td plan q k) (m9 + 1)) = (fT g (gd i) td plan (fNow g (gd i) td plan q k) m9) := if_pos e0
                    have e2 : (fSo g (gd i) td plan (fNow g (gd i) td plan q k) (m9 + 1)) = (fSo g (gd i) td plan (fNow g (gd i) td plan q k) m9) := if_pos e0
                    refine ihm _ _ _ ⟨th4, by rw [e1]; exact hth, hP, hD, hS, by rw [e2]; exact hl⟩
                  · skip
                    rw [lg_cmp_le, pk_lLE (by omega) (by decide)] at c112
                    have e0 : ¬ ((fNow g (gd i) td plan q k) m9) = 0 := by omega
                    have hm9 := hsup m9 e0
                    refine lv_iload hx hb dX5_follow_115 (lv_at hl 7 rfl) ?_
                    refine lv_bipush (v := nI 65) hx hb dX5_follow_117 (by decide) ?_
                    refine lv_idiv hx hb dX5_follow_119 (by decide) ?_
                    refine tp_i (pk_div (by omega) (by decide) (by decide)) ?_
                    refine st_i2 hx hb 8 dX5_follow_120 hl (by decide) rfl (fun ls hl => ?_)
                    refine lv_iload hx hb dX5_follow_122 (lv_at hl 7 rfl) ?_
                    refine lv_bipush (v := nI 65) hx hb dX5_follow_124 (by decide) ?_
                    refine lv_irem hx hb dX5_follow_126 (by decide) ?_
                    refine tp_i (pk_rem (by omega) (by decide) (by decide)) ?_
                    refine st_i2 hx hb 9 dX5_follow_127 hl (by decide) rfl (fun ls hl => ?_)
                    refine wCut (fun x : Int32 => F0 m 175 ls [.int x]) (fun x => x = nI (fS g (gd i) td plan m9)) ?_ ?_
                    · skip
                      intro x hx0
                      subst hx0
                      have hSl := fS_le (g := g) (td := td) (plan := plan) hd m9
                      refine st_i2 hx hb 10 dX5_follow_175 hl (by decide) rfl (fun ls hl => ?_)
                      refine lv_iload hx hb dX5_follow_177 (lv_at hl 10 rfl) ?_
                      refine z_ne hx hb (by omega) 206 dX5_follow_179 (by decide) (fun c179 => ?_) (fun c179 => ?_)
                      · skip
                        have hin := fS_in hd hm9.2 (show (fS g (gd i) td plan m9) ≠ 0 by omega)
                        have e1 : (fT g (gd i) td plan (fNow g (gd i) td plan q k) (m9 + 1)) = fAdd (fAdd (fT g (gd i) td plan (fNow g (gd i) td plan q k) m9) (fWn g (gd i) td plan m9) (gC (gd i) * ((fNow g (gd i) td plan q k) m9))) (fLs g (gd i) td plan m9) ((16 - gC (gd i)) * ((fNow g (gd i) td plan q k) m9)) := (if_neg e0).trans (if_neg (by omega))
                        have e2 : (fSo g (gd i) td plan (fNow g (gd i) td plan q k) (m9 + 1)) = (fSo g (gd i) td plan (fNow g (gd i) td plan q k) m9) + ((fNow g (gd i) td plan q k) m9) := (if_neg e0).trans (if_neg (by omega))
                        have hWn := fWn_lt (d := gd i) (td := td) (plan := plan) hg32 m9
                        have hLs := fLs_lt (td := td) (plan := plan) hg32 hd hm9.2 (show (fS g (gd i) td plan m9) ≠ 0 by omega)
                        refine lv_lload hx hb dX5_follow_206 (lv_at hl 6 rfl) ?_
                        refine lv_aload_n hx hb dX5_follow_208 rfl (lv_at hl 0 rfl) ?_
                        refine va_get (D := E.1) (ci := 5) (C := RX5) (T := TX5) (N := 14) hx hb hts hinX5 hown hE.1 hP 0 rfl rfl 11 (by decide) (hts (.fieldLink RX5 39 "StakeHouseModel" "now" "[J") (by decide +kernel)) (fun _ h9 => h9) rfl dX5_follow_209 ?_
                        refine lv_iload hx hb dX5_follow_212 (lv_at hl 7 rfl) ?_
                        refine va_lald hx hb hE.1 hP 8 1 rfl rfl (vp_in_nI (by omega) (by decide)) dX5_follow_214 ?_
                        refine tp_l (show _ = lN ((fNow g (gd i) td plan q k) m9) by rw [nI_clamp (by omega)]; exact hn2 m9 (by omega)) ?_
                        refine lv_ladd hx hb dX5_follow_215 ?_
                        refine tp_l (lN_add _ _) ?_
                        refine st_l2 hx hb 6 dX5_follow_216 hl (by decide) rfl (fun ls hl => ?_)
                        refine lv_aload_n hx hb dX5_follow_218 rfl (lv_at hl 0 rfl) ?_
                        refine va_get (D := E.1) (ci := 5) (C := RX5) (T := TX5) (N := 14) hx hb hts hinX5 hown hE.1 hP 0 rfl rfl 12 (by decide) (hts (.fieldLink RX5 42 "StakeHouseModel" "then" "[J") (by decide +kernel)) (fun _ h9 => h9) rfl dX5_follow_219 ?_
                        refine lv_bipush (v := nI 65) hx hb dX5_follow_222 (by decide) ?_
                        refine lv_aload_n hx hb dX5_follow_224 rfl (lv_at hl 0 rfl) ?_
                        refine lv_iload_n hx hb dX5_follow_225 rfl (lv_at hl 2 rfl) ?_
                        refine lv_iload hx hb dX5_follow_226 (lv_at hl 8 rfl) ?_
                        refine lv_iload hx hb dX5_follow_228 (lv_at hl 10 rfl) ?_
                        refine vp_callSi (W.runV ⟨hx, hb, hml, hown, hts⟩ (m_behind l E am g hz n kd ch tm tx lm (fun j => nI (td j)) tr bs nw2 th4 (lN ((fPd g (gd i) td plan q k) * 16)) rest hn gd hM hg32 i (m9 / 65) (fS g (gd i) td plan m9) hi (by omega) (by omega)) (cwV 3 hts gX5_follow_X5_behind rfl rfl rfl (by decide +kernel) ⟨Nat.le_of_ble_eq_true rfl, Nat.le_of_ble_eq_true rfl⟩) (ePu_V hP hE (ci := 5) (k := 0) rfl rfl) rfl rfl hl.1 rfl (lv_room (Nat.le_of_ble_eq_true rfl)) dX5_follow_230 ⟨Nat.zero_le _, Nat.zero_le _⟩) (fun r9 hr9 => ?_)
                        subst hr9
                        refine lv_imul hx hb dX5_follow_233 ?_
                        refine tp_i (pk_mul _ _) ?_
                        refine lv_iconst (v := nI 1) hx hb dX5_follow_234 (by decide) ?_
                        refine lv_iadd hx hb dX5_follow_235 ?_
                        refine tp_i (show _ = nI (fWn g (gd i) td plan m9) from nI_add _ _) ?_
                        refine lv_dup2_11 hx hb dX5_follow_236 rfl rfl ?_
                        refine va_lald hx hb hE.1 hP 9 1 rfl rfl (vp_in_nI (by omega) (by decide)) dX5_follow_237 ?_
                        refine tp_l (show _ = lN ((fT g (gd i) td plan (fNow g (gd i) td plan q k) m9) (fWn g (gd i) td plan m9)) by rw [nI_clamp (by omega)]; exact hth _ hWn.1) ?_
                        refine lv_aload_n hx hb dX5_follow_238 rfl (lv_at hl 0 rfl) ?_
                        refine va_get (D := E.1) (ci := 5) (C := RX5) (T := TX5) (N := 14) hx hb hts hinX5 hown hE.1 hP 0 rfl rfl 4 (by decide) (hts (.fieldLink RX5 20 "StakeHouseModel" "chance" "[I") (by decide +kernel)) (fun _ h9 => h9) rfl dX5_follow_239 ?_
                        refine lv_iload_n hx hb dX5_follow_242 rfl (lv_at hl 2 rfl) ?_
                        refine va_iald hx hb hE.1 hP 2 0 rfl rfl (vp_in_nI (by omega) (by decide)) dX5_follow_243 ?_
                        refine tp_i (show _ = nI (gC (gd i)) by rw [nI_clamp (by omega)]; exact (hM i hi).2.2.1) ?_
                        refine lv_i2l (v := lN _) hx hb dX5_follow_244 (nI_l (by omega)) ?_
                        refine lv_aload_n hx hb dX5_follow_245 rfl (lv_at hl 0 rfl) ?_
                        refine va_get (D := E.1) (ci := 5) (C := RX5) (T := TX5) (N := 14) hx hb hts hinX5 hown hE.1 hP 0 rfl rfl 11 (by decide) (hts (.fieldLink RX5 39 "StakeHouseModel" "now" "[J") (by decide +kernel)) (fun _ h9 => h9) rfl dX5_follow_246 ?_
                        refine lv_iload hx hb dX5_follow_249 (lv_at hl 7 rfl) ?_
                        refine va_lald hx hb hE.1 hP 8 1 rfl rfl (vp_in_nI (by omega) (by decide)) dX5_follow_251 ?_
                        refine tp_l (show _ = lN ((fNow g (gd i) td plan q k) m9) by rw [nI_clamp (by omega)]; exact hn2 m9 (by omega)) ?_
                        refine lv_lmul hx hb dX5_follow_252 ?_
                        refine tp_l (lN_mul _ _) ?_
                        refine lv_ladd hx hb dX5_follow_253 ?_
                        refine tp_l (lN_add _ _) ?_
                        refine va_last hx hb hE.1 hP hD hS 9 1 rfl rfl (vp_in_nI (by omega) (by decide)) dX5_follow_254 (fun H locs hP hD hS => ?_)
                        have hP : va_P E.1 vwCl (wM E am g hz n kd ch tm tx lm (fun j => nI (td j)) tr bs nw2 (vp_updL th4 (fWn g (gd i) td plan m9) (lN ((fT g (gd i) td plan (fNow g (gd i) td plan q k) m9) (fWn g (gd i) td plan m9) + gC (gd i) * ((fNow g (gd i) td plan q k) m9)))) (lN ((fPd g (gd i) td plan q k) * 16)) ++ rest) H := (by rw [nI_clamp (by omega)] at hP; exact hP)
                        have hD : va_D (va_A (wM E am g hz n kd ch tm tx lm (fun j => nI (td j)) tr bs nw th pd ++ rest) s.heap.size) (wM E am g hz n kd ch tm tx lm (fun j => nI (td j)) tr bs nw2 (vp_updL th4 (fWn g (gd i) td plan m9) (lN ((fT g (gd i) td plan (fNow g (gd i) td plan q k) m9) (fWn g (gd i) td plan m9) + gC (gd i) * ((fNow g (gd i) td plan q k) m9)))) (lN ((fPd g (gd i) td plan q k) * 16)) ++ rest) := (by rw [nI_clamp (by omega)] at hD; exact hD)
                        have hth2 := th_add (a := fWn g (gd i) td plan m9) (v := gC (gd i) * ((fNow g (gd i) td plan q k) m9)) hth
                        refine lv_aload_n hx hb dX5_follow_255 rfl (lv_at hl 0 rfl) ?_
                        refine va_get (D := E.1) (ci := 5) (C := RX5) (T := TX5) (N := 14) hx hb hts hinX5 hown hE.1 hP 0 rfl rfl 12 (by decide) (hts (.fieldLink RX5 42 "StakeHouseModel" "then" "[J") (by decide +kernel)) (fun _ h9 => h9) rfl dX5_follow_256 ?_
                        refine lv_bipush (v := nI 65) hx hb dX5_follow_259 (by decide) ?_
                        refine lv_iload hx hb dX5_follow_261 (lv_at hl 8 rfl) ?_
                        refine lv_iload hx hb dX5_follow_263 (lv_at hl 10 rfl) ?_
                        refine lv_isub hx hb dX5_follow_265 ?_
                        refine tp_i (pk_sub (by omega)) ?_
                        refine lv_imul hx hb dX5_follow_266 ?_
                        refine tp_i (pk_mul _ _) ?_
                        refine wCut (fun x : Int32 => F0 m 280 ls [.int x, .int (nI (65 * (m9 / 65 - (fS g (gd i) td plan m9)))), .ref (am 9)]) (fun x => x = nI (if plan = 3 then 2 * (fS g (gd i) td plan m9) else 1)) ?_ ?_
                        · skip
                          intro x hx0
                          subst hx0
                          refine lv_iadd hx hb dX5_follow_280 ?_
                          refine tp_i (show _ = nI (fLs g (gd i) td plan m9) from nI_add _ _) ?_
                          refine lv_dup2_11 hx hb dX5_follow_281 rfl rfl ?_
                          refine va_lald hx hb hE.1 hP 9 1 rfl rfl (vp_in_nI (by omega) (by decide)) dX5_follow_282 ?_
                          refine tp_l (show _ = lN ((fAdd (fT g (gd i) td plan (fNow g (gd i) td plan q k) m9) (fWn g (gd i) td plan m9) (gC (gd i) * ((fNow g (gd i) td plan q k) m9))) (fLs g (gd i) td plan m9)) by rw [nI_clamp (by omega)]; exact hth2 _ hLs.1) ?_
                          refine lv_bipush (v := nI 16) hx hb dX5_follow_283 (by decide) ?_
                          refine lv_aload_n hx hb dX5_follow_285 rfl (lv_at hl 0 rfl) ?_
                          refine va_get (D := E.1) (ci := 5) (C := RX5) (T := TX5) (N := 14) hx hb hts hinX5 hown hE.1 hP 0 rfl rfl 4 (by decide) (hts (.fieldLink RX5 20 "StakeHouseModel" "chance" "[I") (by decide +kernel)) (fun _ h9 => h9) rfl dX5_follow_286 ?_
                          refine lv_iload_n hx hb dX5_follow_289 rfl (lv_at hl 2 rfl) ?_
                          refine va_iald hx hb hE.1 hP 2 0 rfl rfl (vp_in_nI (by omega) (by decide)) dX5_follow_290 ?_
                          refine tp_i (show _ = nI (gC (gd i)) by rw [nI_clamp (by omega)]; exact (hM i hi).2.2.1) ?_
                          refine lv_isub hx hb dX5_follow_291 ?_
                          refine tp_i (pk_sub hC) ?_
                          refine lv_i2l (v := lN _) hx hb dX5_follow_292 (nI_l (by omega)) ?_
                          refine lv_aload_n hx hb dX5_follow_293 rfl (lv_at hl 0 rfl) ?_
                          refine va_get (D := E.1) (ci := 5) (C := RX5) (T := TX5) (N := 14) hx hb hts hinX5 hown hE.1 hP 0 rfl rfl 11 (by decide) (hts (.fieldLink RX5 39 "StakeHouseModel" "now" "[J") (by decide +kernel)) (fun _ h9 => h9) rfl dX5_follow_294 ?_
                          refine lv_iload hx hb dX5_follow_297 (lv_at hl 7 rfl) ?_
                          refine va_lald hx hb hE.1 hP 8 1 rfl rfl (vp_in_nI (by omega) (by decide)) dX5_follow_299 ?_
                          refine tp_l (show _ = lN ((fNow g (gd i) td plan q k) m9) by rw [nI_clamp (by omega)]; exact hn2 m9 (by omega)) ?_
                          refine lv_lmul hx hb dX5_follow_300 ?_
                          refine tp_l (lN_mul _ _) ?_
                          refine lv_ladd hx hb dX5_follow_301 ?_
                          refine tp_l (lN_add _ _) ?_
                          refine va_last hx hb hE.1 hP hD hS 9 1 rfl rfl (vp_in_nI (by omega) (by decide)) dX5_follow_302 (fun H locs hP hD hS => ?_)
                          have hP : va_P E.1 vwCl (wM E am g hz n kd ch tm tx lm (fun j => nI (td j)) tr bs nw2 (vp_updL (vp_updL th4 (fWn g (gd i) td plan m9) (lN ((fT g (gd i) td plan (fNow g (gd i) td plan q k) m9) (fWn g (gd i) td plan m9) + gC (gd i) * ((fNow g (gd i) td plan q k) m9)))) (fLs g (gd i) td plan m9) (lN ((fAdd (fT g (gd i) td plan (fNow g (gd i) td plan q k) m9) (fWn g (gd i) td plan m9) (gC (gd i) * ((fNow g (gd i) td plan q k) m9))) (fLs g (gd i) td plan m9) + (16 - gC (gd i)) * ((fNow g (gd i) td plan q k) m9)))) (lN ((fPd g (gd i) td plan q k) * 16)) ++ rest) H := (by rw [nI_clamp (by omega)] at hP; exact hP)
                          have hD : va_D (va_A (wM E am g hz n kd ch tm tx lm (fun j => nI (td j)) tr bs nw th pd ++ rest) s.heap.size) (wM E am g hz n kd ch tm tx lm (fun j => nI (td j)) tr bs nw2 (vp_updL (vp_updL th4 (fWn g (gd i) td plan m9) (lN ((fT g (gd i) td plan (fNow g (gd i) td plan q k) m9) (fWn g (gd i) td plan m9) + gC (gd i) * ((fNow g (gd i) td plan q k) m9)))) (fLs g (gd i) td plan m9) (lN ((fAdd (fT g (gd i) td plan (fNow g (gd i) td plan q k) m9) (fWn g (gd i) td plan m9) (gC (gd i) * ((fNow g (gd i) td plan q k) m9))) (fLs g (gd i) td plan m9) + (16 - gC (gd i)) * ((fNow g (gd i) td plan q k) m9)))) (lN ((fPd g (gd i) td plan q k) * 16)) ++ rest) := (by rw [nI_clamp (by omega)] at hD; exact hD)
                          refine st_inc hx hb 7 dX5_follow_303 hl rfl (nI_1 _) (by decide) rfl (fun ls hl => ?_)
                          refine lv_goto (tgt := 95) hx hb dX5_follow_306 (by decide) ?_
                          refine ihm _ _ _ ⟨_, by rw [e1]; exact th_add hth2, hP, hD, hS, by rw [e2]; exact lv_sub hl [0, 1, 2, 3, 4, 5, 6, 7] rfl⟩
                        · skip
                          intro K
                          refine lv_iload_n hx hb dX5_follow_267 rfl (lv_at hl 1 rfl) ?_
                          refine lv_iconst (v := nI 3) hx hb dX5_follow_268 (by decide) ?_
                          refine n_ne hx hb (by omega) (by omega) 279 dX5_follow_269 (by decide) (fun c269 => ?_) (fun c269 => ?_)
                          · skip
                            refine lv_iconst (v := nI 1) hx hb dX5_follow_279 (by decide) ?_
                            exact K _ (by rw [if_neg c269])
                          · skip
                            refine lv_iconst (v := nI 2) hx hb dX5_follow_272 (by decide) ?_
                            refine lv_iload hx hb dX5_follow_273 (lv_at hl 10 rfl) ?_
                            refine lv_imul hx hb dX5_follow_275 ?_
                            refine tp_i (pk_mul _ _) ?_
                            refine lv_goto (tgt := 280) hx hb dX5_follow_276 (by decide) ?_
                            exact K _ (by rw [if_pos c269])
                      · skip
                        have e1 : (fT g (gd i) td plan (fNow g (gd i) td plan q k) (m9 + 1)) = fAdd (fT g (gd i) td plan (fNow g (gd i) td plan q k) m9) m9 (16 * ((fNow g (gd i) td plan q k) m9)) := (if_neg e0).trans (if_pos c179)
                        have e2 : (fSo g (gd i) td plan (fNow g (gd i) td plan q k) (m9 + 1)) = (fSo g (gd i) td plan (fNow g (gd i) td plan q k) m9) := (if_neg e0).trans (if_pos c179)
                        refine lv_aload_n hx hb dX5_follow_182 rfl (lv_at hl 0 rfl) ?_
                        refine va_get (D := E.1) (ci := 5) (C := RX5) (T := TX5) (N := 14) hx hb hts hinX5 hown hE.1 hP 0 rfl rfl 12 (by decide) (hts (.fieldLink RX5 42 "StakeHouseModel" "then" "[J") (by decide +kernel)) (fun _ h9 => h9) rfl dX5_follow_183 ?_
                        refine lv_iload hx hb dX5_follow_186 (lv_at hl 7 rfl) ?_
                        refine lv_dup2_11 hx hb dX5_follow_188 rfl rfl ?_
                        refine va_lald hx hb hE.1 hP 9 1 rfl rfl (vp_in_nI (by omega) (by decide)) dX5_follow_189 ?_
                        refine tp_l (show _ = lN ((fT g (gd i) td plan (fNow g (gd i) td plan q k) m9) m9) by rw [nI_clamp (by omega)]; exact hth _ (by omega)) ?_
                        refine lv_ldc2 (v := 16) hx hb hown (hts (.constantLong RX5 72 (16)) (by decide +kernel)) dX5_follow_190 ?_
                        refine tp_l (show (16 : Int64) = lN 16 from rfl) ?_
                        refine lv_aload_n hx hb dX5_follow_193 rfl (lv_at hl 0 rfl) ?_
                        refine va_get (D := E.1) (ci := 5) (C := RX5) (T := TX5) (N := 14) hx hb hts hinX5 hown hE.1 hP 0 rfl rfl 11 (by decide) (hts (.fieldLink RX5 39 "StakeHouseModel" "now" "[J") (by decide +kernel)) (fun _ h9 => h9) rfl dX5_follow_194 ?_
                        refine lv_iload hx hb dX5_follow_197 (lv_at hl 7 rfl) ?_
                        refine va_lald hx hb hE.1 hP 8 1 rfl rfl (vp_in_nI (by omega) (by decide)) dX5_follow_199 ?_
                        refine tp_l (show _ = lN ((fNow g (gd i) td plan q k) m9) by rw [nI_clamp (by omega)]; exact hn2 m9 (by omega)) ?_
                        refine lv_lmul hx hb dX5_follow_200 ?_
                        refine tp_l (lN_mul _ _) ?_
                        refine lv_ladd hx hb dX5_follow_201 ?_
                        refine tp_l (lN_add _ _) ?_
                        refine va_last hx hb hE.1 hP hD hS 9 1 rfl rfl (vp_in_nI (by omega) (by decide)) dX5_follow_202 (fun H locs hP hD hS => ?_)
                        have hP : va_P E.1 vwCl (wM E am g hz n kd ch tm tx lm (fun j => nI (td j)) tr bs nw2 (vp_updL th4 m9 (lN ((fT g (gd i) td plan (fNow g (gd i) td plan q k) m9) m9 + 16 * ((fNow g (gd i) td plan q k) m9)))) (lN ((fPd g (gd i) td plan q k) * 16)) ++ rest) H := (by rw [nI_clamp (by omega)] at hP; exact hP)
                        have hD : va_D (va_A (wM E am g hz n kd ch tm tx lm (fun j => nI (td j)) tr bs nw th pd ++ rest) s.heap.size) (wM E am g hz n kd ch tm tx lm (fun j => nI (td j)) tr bs nw2 (vp_updL th4 m9 (lN ((fT g (gd i) td plan (fNow g (gd i) td plan q k) m9) m9 + 16 * ((fNow g (gd i) td plan q k) m9)))) (lN ((fPd g (gd i) td plan q k) * 16)) ++ rest) := (by rw [nI_clamp (by omega)] at hD; exact hD)
                        refine lv_goto (tgt := 303) hx hb dX5_follow_203 (by decide) ?_
                        refine st_inc hx hb 7 dX5_follow_303 hl rfl (nI_1 _) (by decide) rfl (fun ls hl => ?_)
                        refine lv_goto (tgt := 95) hx hb dX5_follow_306 (by decide) ?_
                        refine ihm _ _ _ ⟨_, by rw [e1]; exact th_add hth, hP, hD, hS, by rw [e2]; exact lv_sub hl [0, 1, 2, 3, 4, 5, 6, 7] rfl⟩
                    · skip
                      intro K
                      refine lv_iload hx hb dX5_follow_129 (lv_at hl 8 rfl) ?_
                      refine z_eq hx hb (by omega) 143 dX5_follow_131 (by decide) (fun c131 => ?_) (fun c131 => ?_)
                      · skip
                        refine lv_iconst (v := nI 0) hx hb dX5_follow_143 (by decide) ?_
                        refine lv_goto (tgt := 175) hx hb dX5_follow_144 (by decide) ?_
                        exact K _ (show nI 0 = nI (fS g (gd i) td plan m9) from congrArg nI (show 0 = (fS g (gd i) td plan m9) from (if_pos (Or.inl c131)).symm))
                      · skip
                        refine lv_iload hx hb dX5_follow_134 (lv_at hl 8 rfl) ?_
                        refine lv_aload_n hx hb dX5_follow_136 rfl (lv_at hl 0 rfl) ?_
                        refine va_get (D := E.1) (ci := 5) (C := RX5) (T := TX5) (N := 14) hx hb hts hinX5 hown hE.1 hP 0 rfl rfl 0 (by decide) (hts (.fieldLink RX5 7 "StakeHouseModel" "goal" "I") (by decide +kernel)) (fun _ h9 => h9) rfl dX5_follow_137 ?_
                        refine n_ne hx hb (by omega) (by omega) 147 dX5_follow_140 (by decide) (fun c140 => ?_) (fun c140 => ?_)
                        · skip
                          refine lv_iload_n hx hb dX5_follow_147 rfl (lv_at hl 1 rfl) ?_
                          refine lv_iconst (v := nI 3) hx hb dX5_follow_148 (by decide) ?_
                          refine n_ne hx hb (by omega) (by omega) 167 dX5_follow_149 (by decide) (fun c149 => ?_) (fun c149 => ?_)
                          · skip
                            refine lv_aload_n hx hb dX5_follow_167 rfl (lv_at hl 0 rfl) ?_
                            refine lv_iload_n hx hb dX5_follow_168 rfl (lv_at hl 1 rfl) ?_
                            refine lv_iload_n hx hb dX5_follow_169 rfl (lv_at hl 2 rfl) ?_
                            refine lv_iload hx hb dX5_follow_170 (lv_at hl 8 rfl) ?_
                            refine vp_callSi (W.runV ⟨hx, hb, hml, hown, hts⟩ (m_stakeOf l E am g hz n kd ch tm tx lm td tr bs nw2 th4 (lN ((fPd g (gd i) td plan q k) * 16)) rest hn gd hM hg32 htd2 plan i (m9 / 65) (by omega) hi (by omega) (by omega)) (cwV 3 hts gX5_follow_X5_stakeOf rfl rfl rfl (by decide +kernel) ⟨Nat.le_of_ble_eq_true rfl, Nat.le_of_ble_eq_true rfl⟩) (ePu_V hP hE (ci := 5) (k := 0) rfl rfl) rfl rfl hl.1 rfl (lv_room (Nat.le_of_ble_eq_true rfl)) dX5_follow_172 ⟨Nat.zero_le _, Nat.zero_le _⟩) (fun r9 hr9 => ?_)
                            subst hr9
                            exact K _ (congrArg nI (show _ = (fS g (gd i) td plan m9) from ((if_neg (by omega)).trans (if_neg c149)).symm))
                          · skip
                            refine lv_iload hx hb dX5_follow_152 (lv_at hl 9 rfl) ?_
                            refine lv_aload_n hx hb dX5_follow_154 rfl (lv_at hl 0 rfl) ?_
                            refine lv_iload_n hx hb dX5_follow_155 rfl (lv_at hl 2 rfl) ?_
                            refine lv_iload hx hb dX5_follow_156 (lv_at hl 8 rfl) ?_
                            refine vp_callSi (W.runV ⟨hx, hb, hml, hown, hts⟩ (m_mostAt l E am g hz n kd ch tm tx lm (fun j => nI (td j)) tr bs nw2 th4 (lN ((fPd g (gd i) td plan q k) * 16)) rest hn gd hM i (m9 / 65) hi (by omega)) (cwV 2 hts gX5_follow_X5_mostAt rfl rfl rfl (by decide +kernel) ⟨Nat.le_of_ble_eq_true rfl, Nat.le_of_ble_eq_true rfl⟩) (ePu_V hP hE (ci := 5) (k := 0) rfl rfl) rfl rfl hl.1 rfl (lv_room (Nat.le_of_ble_eq_true rfl)) dX5_follow_158 ⟨Nat.zero_le _, Nat.zero_le _⟩) (fun r9 hr9 => ?_)
                            subst hr9
                            refine vp_callSi (W.runS ⟨hx, hb, hml, hown, hts⟩ (m_least l E _ _ _ (by omega) (by omega)) (va_cwS 2 hts gX5_follow_X5_least rfl rfl rfl (by decide +kernel) ⟨Nat.le_of_ble_eq_true rfl, Nat.le_of_ble_eq_true rfl⟩) (ePu_S hP hE) rfl rfl hl.1 rfl (lv_room (Nat.le_of_ble_eq_true rfl)) dX5_follow_161 ⟨Nat.zero_le _, Nat.zero_le _⟩) (fun r9 hr9 => ?_)
                            subst hr9
                            refine lv_goto (tgt := 175) hx hb dX5_follow_164 (by decide) ?_
                            exact K _ (congrArg nI (show _ = (fS g (gd i) td plan m9) from ((if_neg (by omega)).trans (if_pos c149)).symm))
                        · skip
                          refine lv_iconst (v := nI 0) hx hb dX5_follow_143 (by decide) ?_
                          refine lv_goto (tgt := 175) hx hb dX5_follow_144 (by decide) ?_
                          exact K _ (show nI 0 = nI (fS g (gd i) td plan m9) from congrArg nI (show 0 = (fS g (gd i) td plan m9) from (if_pos (Or.inr c140)).symm))
              · skip
                obtain ⟨th4, hth, hP, hD, hS, hl⟩ := hI
                refine lv_iload hx hb dX5_follow_95 (lv_at hl 7 rfl) ?_
                refine lv_sipush (v := nI 2145) hx hb dX5_follow_97 (by decide) ?_
                refine n_ge hx hb (by omega) (by omega) 309 dX5_follow_100 (by decide) (fun c100 => ?_) (fun c100 => ?_)
                · skip
                  refine lv_aload_n hx hb dX5_follow_309 rfl (lv_at hl 0 rfl) ?_
                  refine lv_dup hx hb dX5_follow_310 rfl ?_
                  refine va_get (D := E.1) (ci := 5) (C := RX5) (T := TX5) (N := 14) hx hb hts hinX5 hown hE.1 hP 0 rfl rfl 13 (by decide) (hts (.fieldLink RX5 98 "StakeHouseModel" "played" "J") (by decide +kernel)) (fun _ h9 => h9) rfl dX5_follow_311 ?_
                  refine lv_ldc2 (v := 16) hx hb hown (hts (.constantLong RX5 72 (16)) (by decide +kernel)) dX5_follow_314 ?_
                  refine tp_l (show (16 : Int64) = lN 16 from rfl) ?_
                  refine lv_lload hx hb dX5_follow_317 (lv_at hl 6 rfl) ?_
                  refine lv_lmul hx hb dX5_follow_319 ?_
                  refine tp_l (lN_mul _ _) ?_
                  refine lv_ladd hx hb dX5_follow_320 ?_
                  refine tp_l (show _ = lN (fPd g (gd i) td plan q (k + 1)) by rw [lN_add, Nat.mul_comm]; rfl) ?_
                  refine va_put (D := E.1) (ci := 5) (ty := .long) (C := RX5) (T := TX5) (N := 14) hx hb hts hinX5 tyX5 tyX5_ok nmX5 hown hE.1 hP hD hS 0 rfl rfl 13 (by decide) (hts (.fieldLink RX5 98 "StakeHouseModel" "played" "J") (by decide +kernel)) (fun _ h9 => h9) rfl (by decide +kernel) rfl rfl (Nat.le_of_ble_eq_true rfl) dX5_follow_321 (fun H locs hP hD hS => ?_)
                  have hP : va_P E.1 vwCl (wM E am g hz n kd ch tm tx lm (fun j => nI (td j)) tr bs nw2 th4 (lN (fPd g (gd i) td plan q (k + 1))) ++ rest) H := hP
                  have hD : va_D (va_A (wM E am g hz n kd ch tm tx lm (fun j => nI (td j)) tr bs nw th pd ++ rest) s.heap.size) (wM E am g hz n kd ch tm tx lm (fun j => nI (td j)) tr bs nw2 th4 (lN (fPd g (gd i) td plan q (k + 1))) ++ rest) := hD
                  refine lv_iconst (v := nI 0) hx hb dX5_follow_324 (by decide) ?_
                  refine st_i2 hx hb 7 dX5_follow_325 hl (by decide) rfl (fun ls hl => ?_)
                  refine wLoopH 2145 0 (fun x9 H locs ls => ∃ nw3 : Nat → Int64, (∀ y, y < x9 → nw3 y = lN ((fNow g (gd i) td plan q (k + 1)) y)) ∧ va_P E.1 vwCl (wM E am g hz n kd ch tm tx lm (fun j => nI (td j)) tr bs nw3 th4 (lN (fPd g (gd i) td plan q (k + 1))) ++ rest) H ∧ va_D (va_A (wM E am g hz n kd ch tm tx lm (fun j => nI (td j)) tr bs nw th pd ++ rest) s.heap.size) (wM E am g hz n kd ch tm tx lm (fun j => nI (td j)) tr bs nw3 th4 (lN (fPd g (gd i) td plan q (k + 1))) ++ rest) ∧ va_S (va_A (wM E am g hz n kd ch tm tx lm (fun j => nI (td j)) tr bs nw th pd ++ rest) s.heap.size) s.heap H locs ∧ lv_has ls 12 [(0, .ref (am 0)), (1, .int (nI plan)), (2, .int (nI i)), (3, .int (nI q)), (4, .int (nI t)), (5, .int (nI k)), (6, .long (lN (fSo g (gd i) td plan (fNow g (gd i) td plan q k) 2145))), (8, .int (nI x9))]) (Nat.zero_le _) (fun x9 H locs ls hi_x9 hI ihx => ?_) (fun H locs ls hI => ?_) ⟨nw2, fun y hy => absurd hy (by omega), hP, hD, hS, hl⟩
                  · skip
                    obtain ⟨nw3, hn3, hP, hD, hS, hl⟩ := hI
                    refine lv_iload hx hb dX5_follow_327 (lv_at hl 7 rfl) ?_
                    refine lv_sipush (v := nI 2145) hx hb dX5_follow_329 (by decide) ?_
                    refine n_ge hx hb (by omega) (by omega) 355 dX5_follow_332 (by decide) (fun c332 => ?_) (fun c332 => ?_)
                    · skip
                      exact absurd c332 (by omega)
                    · skip
                      refine lv_aload_n hx hb dX5_follow_335 rfl (lv_at hl 0 rfl) ?_
                      refine va_get (D := E.1) (ci := 5) (C := RX5) (T := TX5) (N := 14) hx hb hts hinX5 hown hE.1 hP 0 rfl rfl 11 (by decide) (hts (.fieldLink RX5 39 "StakeHouseModel" "now" "[J") (by decide +kernel)) (fun _ h9 => h9) rfl dX5_follow_336 ?_
                      refine lv_iload hx hb dX5_follow_339 (lv_at hl 7 rfl) ?_
                      refine lv_aload_n hx hb dX5_follow_341 rfl (lv_at hl 0 rfl) ?_
                      refine va_get (D := E.1) (ci := 5) (C := RX5) (T := TX5) (N := 14) hx hb hts hinX5 hown hE.1 hP 0 rfl rfl 12 (by decide) (hts (.fieldLink RX5 42 "StakeHouseModel" "then" "[J") (by decide +kernel)) (fun _ h9 => h9) rfl dX5_follow_342 ?_
                      refine lv_iload hx hb dX5_follow_345 (lv_at hl 7 rfl) ?_
                      refine va_lald hx hb hE.1 hP 9 1 rfl rfl (vp_in_nI (by omega) (by decide)) dX5_follow_347 ?_
                      refine tp_l (show _ = lN ((fT g (gd i) td plan (fNow g (gd i) td plan q k) 2145) x9) by rw [nI_clamp (by omega)]; exact hth _ (by omega)) ?_
                      refine va_last hx hb hE.1 hP hD hS 8 1 rfl rfl (vp_in_nI (by omega) (by decide)) dX5_follow_348 (fun H locs hP hD hS => ?_)
                      have hP : va_P E.1 vwCl (wM E am g hz n kd ch tm tx lm (fun j => nI (td j)) tr bs (vp_updL nw3 x9 (lN ((fT g (gd i) td plan (fNow g (gd i) td plan q k) 2145) x9))) th4 (lN (fPd g (gd i) td plan q (k + 1))) ++ rest) H := (by rw [nI_clamp (by omega)] at hP; exact hP)
                      have hD : va_D (va_A (wM E am g hz n kd ch tm tx lm (fun j => nI (td j)) tr bs nw th pd ++ rest) s.heap.size) (wM E am g hz n kd ch tm tx lm (fun j => nI (td j)) tr bs (vp_updL nw3 x9 (lN ((fT g (gd i) td plan (fNow g (gd i) td plan q k) 2145) x9))) th4 (lN (fPd g (gd i) td plan q (k + 1))) ++ rest) := (by rw [nI_clamp (by omega)] at hD; exact hD)
                      refine st_inc hx hb 7 dX5_follow_349 hl rfl (nI_1 _) (by decide) rfl (fun ls hl => ?_)
                      refine lv_goto (tgt := 327) hx hb dX5_follow_352 (by decide) ?_
                      refine ihx _ _ _ ⟨_, fun y hy => ?_, hP, hD, hS, hl⟩
                      by_cases hyx : y = x9
                      · subst hyx; exact pk_uLs
                      · rw [pk_uLn hyx]; exact hn3 y (by omega)
                  · skip
                    obtain ⟨nw3, hn3, hP, hD, hS, hl⟩ := hI
                    refine lv_iload hx hb dX5_follow_327 (lv_at hl 7 rfl) ?_
                    refine lv_sipush (v := nI 2145) hx hb dX5_follow_329 (by decide) ?_
                    refine n_ge hx hb (by omega) (by omega) 355 dX5_follow_332 (by decide) (fun c332 => ?_) (fun c332 => ?_)
                    · skip
                      refine st_inc hx hb 5 dX5_follow_355 hl rfl (nI_1 _) (by decide) rfl (fun ls hl => ?_)
                      refine lv_goto (tgt := 45) hx hb dX5_follow_358 (by decide) ?_
                      exact ihk _ _ _ ⟨nw3, th4, hn3, hP, hD, hS, lv_sub hl [0, 1, 2, 3, 4, 5] rfl⟩
                    · skip
                      exact absurd c332 (by omega)
                · skip
                  exact absurd c100 (by omega)
            · skip
              exact absurd c60 (by omega)
      · skip
        obtain ⟨nw2, th2, hn2, hP, hD, hS, hl⟩ := hI
        refine lv_iload hx hb dX5_follow_45 (lv_at hl 5 rfl) ?_
        refine lv_iload hx hb dX5_follow_47 (lv_at hl 4 rfl) ?_
        refine n_ge hx hb (by omega) (by omega) 361 dX5_follow_49 (by decide) (fun c49 => ?_) (fun c49 => ?_)
        · skip
          exact ret_Wv hx hb hr hlocks dX5_follow_361 hP hD hS ⟨nw2, th2, hn2, rfl⟩
        · skip
          exact absurd c49 (by omega)
    · skip
      exact absurd c8 (by omega)
set_option maxHeartbeats 4000000 in
set_option maxRecDepth 100000 in
/-- plan -/
theorem m_plan (l : Launch) (E : eT) (am : Nat → Nat) (g hz n : Nat) (kd ch tm tx lm : Nat → Int32) (td : Nat → Nat) (tr : Int64) (bs nw th : Nat → Int64) (pd : Int64) (rest : va_W) (hn : n ≤ 4) (gd : Nat → gT) (hM : ∀ i, i < n → gArg (gd i) (kd i) (ch i) (tm i) (tx i) (lm i)) (hg2 : 2 ≤ g) (hg32 : g ≤ 32) (hhz : hz ≤ 12) (htd2 : ∀ j, td j ≤ 32) (pv iv qv tv wv : Int32) : mWl l yX5_plan wsX5_plan 3 85 0 0 E (wM E am g hz n kd ch tm tx lm (fun j => nI (td j)) tr bs nw th pd ++ rest) [.ref (am 0), .int pv, .int iv, .int qv, .int tv, .int wv] (fun r ws1 => pln_of g hz n gd td pv iv qv tv wv r ∧ ∃ (nw1 th1 : Nat → Int64) (pd1 : Int64), ws1 = wM E am g hz n kd ch tm tx lm (fun j => nI (td j)) tr bs nw1 th1 pd1 ++ rest) := by
  intro sz
  refine mW_of (cc := cX5_plan) (maxL := 9) (ret := (some .long)) (Qc := fun sz => va_Ql (fun r ws1 => pln_of g hz n gd td pv iv qv tv wv r ∧ ∃ (nw1 th1 : Nat → Int64) (pd1 : Int64), ws1 = wM E am g hz n kd ch tm tx lm (fun j => nI (td j)) tr bs nw1 th1 pd1 ++ rest) (eAt E (va_A (wM E am g hz n kd ch tm tx lm (fun j => nI (td j)) tr bs nw th pd ++ rest) sz)) (va_A (wM E am g hz n kd ch tm tx lm (fun j => nI (td j)) tr bs nw th pd ++ rest) sz)) (by decide) rfl (Nat.le_of_ble_eq_true rfl) ?_
  intro p0 e0 s m below meth c0 ls hx hb hr hml hts hown hlocks hin hE hP hD hl
  have hS : va_S (va_A (wM E am g hz n kd ch tm tx lm (fun j => nI (td j)) tr bs nw th pd ++ rest) s.heap.size) s.heap s.heap [] := va_S.rf
  have hA : ∀ q, s.heap.size ≤ q → (va_A (wM E am g hz n kd ch tm tx lm (fun j => nI (td j)) tr bs nw th pd ++ rest) s.heap.size) q := fun q h => Or.inr h
  have hown : s.vm.findClass RX5 = some m.cls := hown
  have hl : lv_has ls 9 [(0, .ref (am 0)), (1, .int pv), (2, .int iv), (3, .int qv), (4, .int tv), (5, .int wv)] := hl
  have hinX5 : ∀ w ∈ wsX50, w ∈ wsX5_plan := by decide +kernel
  refine lv_iload_n hx hb dX5_plan_0 rfl (lv_at hl 1 rfl) ?_
  refine lv_iconst (v := nI 0) hx hb dX5_plan_1 (by decide) ?_
  refine lv_iconst (v := nI 3) hx hb dX5_plan_2 (by decide) ?_
  refine vp_callSi (W.runS ⟨hx, hb, hml, hown, hts⟩ (c_in l E _ _ _ _) (va_cwS 3 hts gX5_plan_X5_in rfl rfl rfl (by decide +kernel) ⟨Nat.le_of_ble_eq_true rfl, Nat.le_of_ble_eq_true rfl⟩) (ePu_S hP hE) rfl rfl hl.1 rfl (lv_room (Nat.le_of_ble_eq_true rfl)) dX5_plan_3 ⟨Nat.zero_le _, Nat.zero_le _⟩) (fun r9 hr9 => ?_)
  subst hr9
  refine q_eq hx hb 48 dX5_plan_6 (by decide) (fun c6 => ?_) (fun c6 => ?_)
  · skip
    refine lv_ldc2 (v := -1) hx hb hown (hts (.constantLong RX5 84 (-1)) (by decide +kernel)) dX5_plan_48 ?_
    exact ret_Wl hx hb hr hlocks dX5_plan_51 hP hD hS ⟨Or.inr ⟨fun ⟨p, i, q, t, w, e1, e2, e3, e4, e5, g1, g2, g3, g4, g5⟩ => c6 (by rw [e1]; exact (nI_rngI (by omega) (by decide) (by decide)).mpr ⟨by omega, g1⟩), rfl⟩, nw, th, pd, rfl⟩
  · skip
    obtain ⟨p, -, hp3, rfl⟩ := nI_rng (by decide) c6 (by decide)
    refine lv_aload_n hx hb dX5_plan_9 rfl (lv_at hl 0 rfl) ?_
    refine lv_iload_n hx hb dX5_plan_10 rfl (lv_at hl 2 rfl) ?_
    refine vp_callSi (W.runV ⟨hx, hb, hml, hown, hts⟩ (m_isGame l E am g hz n kd ch tm tx lm (fun j => nI (td j)) tr bs nw th pd rest _) (cwV 1 hts gX5_plan_X5_isGame rfl rfl rfl (by decide +kernel) ⟨Nat.le_of_ble_eq_true rfl, Nat.le_of_ble_eq_true rfl⟩) (ePu_V hP hE (ci := 5) (k := 0) rfl rfl) rfl rfl hl.1 rfl (lv_room (Nat.le_of_ble_eq_true rfl)) dX5_plan_11 ⟨Nat.zero_le _, Nat.zero_le _⟩) (fun r9 hr9 => ?_)
    subst hr9
    refine q_eq hx hb 48 dX5_plan_14 (by decide) (fun c14 => ?_) (fun c14 => ?_)
    · skip
      refine lv_ldc2 (v := -1) hx hb hown (hts (.constantLong RX5 84 (-1)) (by decide +kernel)) dX5_plan_48 ?_
      exact ret_Wl hx hb hr hlocks dX5_plan_51 hP hD hS ⟨Or.inr ⟨fun ⟨p, i, q, t, w, e1, e2, e3, e4, e5, g1, g2, g3, g4, g5⟩ => c14 ((nI_gm (by omega)).mpr ⟨i, g2, e2⟩), rfl⟩, nw, th, pd, rfl⟩
    · skip
      obtain ⟨i, hi, rfl⟩ := (nI_gm (by omega)).mp c14
      refine lv_aload_n hx hb dX5_plan_17 rfl (lv_at hl 0 rfl) ?_
      refine lv_iload_n hx hb dX5_plan_18 rfl (lv_at hl 3 rfl) ?_
      refine vp_callSi (W.runV ⟨hx, hb, hml, hown, hts⟩ (m_isPurse l E am g hz n kd ch tm tx lm (fun j => nI (td j)) tr bs nw th pd rest _) (cwV 1 hts gX5_plan_X5_isPurse rfl rfl rfl (by decide +kernel) ⟨Nat.le_of_ble_eq_true rfl, Nat.le_of_ble_eq_true rfl⟩) (ePu_V hP hE (ci := 5) (k := 0) rfl rfl) rfl rfl hl.1 rfl (lv_room (Nat.le_of_ble_eq_true rfl)) dX5_plan_19 ⟨Nat.zero_le _, Nat.zero_le _⟩) (fun r9 hr9 => ?_)
      subst hr9
      refine q_eq hx hb 48 dX5_plan_22 (by decide) (fun c22 => ?_) (fun c22 => ?_)
      · skip
        refine lv_ldc2 (v := -1) hx hb hown (hts (.constantLong RX5 84 (-1)) (by decide +kernel)) dX5_plan_48 ?_
        exact ret_Wl hx hb hr hlocks dX5_plan_51 hP hD hS ⟨Or.inr ⟨fun ⟨p, i, q, t, w, e1, e2, e3, e4, e5, g1, g2, g3, g4, g5⟩ => c22 (by rw [e3]; exact (nI_rngI (by omega) (by decide) (by omega)).mpr ⟨by omega, g3⟩), rfl⟩, nw, th, pd, rfl⟩
      · skip
        obtain ⟨q, -, hq, rfl⟩ := nI_rng (by omega) c22 (by decide)
        refine lv_iload hx hb dX5_plan_25 (lv_at hl 4 rfl) ?_
        refine lv_iconst (v := nI 0) hx hb dX5_plan_27 (by decide) ?_
        refine lv_aload_n hx hb dX5_plan_28 rfl (lv_at hl 0 rfl) ?_
        refine va_get (D := E.1) (ci := 5) (C := RX5) (T := TX5) (N := 14) hx hb hts hinX5 hown hE.1 hP 0 rfl rfl 1 (by decide) (hts (.fieldLink RX5 13 "StakeHouseModel" "horizon" "I") (by decide +kernel)) (fun _ h9 => h9) rfl dX5_plan_29 ?_
        refine vp_callSi (W.runS ⟨hx, hb, hml, hown, hts⟩ (c_in l E _ _ _ _) (va_cwS 3 hts gX5_plan_X5_in rfl rfl rfl (by decide +kernel) ⟨Nat.le_of_ble_eq_true rfl, Nat.le_of_ble_eq_true rfl⟩) (ePu_S hP hE) rfl rfl hl.1 rfl (lv_room (Nat.le_of_ble_eq_true rfl)) dX5_plan_32 ⟨Nat.zero_le _, Nat.zero_le _⟩) (fun r9 hr9 => ?_)
        subst hr9
        refine q_eq hx hb 48 dX5_plan_35 (by decide) (fun c35 => ?_) (fun c35 => ?_)
        · skip
          refine lv_ldc2 (v := -1) hx hb hown (hts (.constantLong RX5 84 (-1)) (by decide +kernel)) dX5_plan_48 ?_
          exact ret_Wl hx hb hr hlocks dX5_plan_51 hP hD hS ⟨Or.inr ⟨fun ⟨p, i, q, t, w, e1, e2, e3, e4, e5, g1, g2, g3, g4, g5⟩ => c35 (by rw [e4]; exact (nI_rngI (by omega) (by decide) (by omega)).mpr ⟨by omega, g4⟩), rfl⟩, nw, th, pd, rfl⟩
        · skip
          obtain ⟨t, -, ht, rfl⟩ := nI_rng (by omega) c35 (by decide)
          refine lv_iload hx hb dX5_plan_38 (lv_at hl 5 rfl) ?_
          refine lv_iconst (v := nI 0) hx hb dX5_plan_40 (by decide) ?_
          refine lv_iconst (v := nI 3) hx hb dX5_plan_41 (by decide) ?_
          refine vp_callSi (W.runS ⟨hx, hb, hml, hown, hts⟩ (c_in l E _ _ _ _) (va_cwS 3 hts gX5_plan_X5_in rfl rfl rfl (by decide +kernel) ⟨Nat.le_of_ble_eq_true rfl, Nat.le_of_ble_eq_true rfl⟩) (ePu_S hP hE) rfl rfl hl.1 rfl (lv_room (Nat.le_of_ble_eq_true rfl)) dX5_plan_42 ⟨Nat.zero_le _, Nat.zero_le _⟩) (fun r9 hr9 => ?_)
          subst hr9
          refine q_ne hx hb 52 dX5_plan_45 (by decide) (fun c45 => ?_) (fun c45 => ?_)
          · skip
            obtain ⟨w, -, hw3, rfl⟩ := nI_rng (by decide) c45 (by decide)
            have hd := (hM i hi).1
            refine lv_aload_n hx hb dX5_plan_52 rfl (lv_at hl 0 rfl) ?_
            refine lv_iload_n hx hb dX5_plan_53 rfl (lv_at hl 1 rfl) ?_
            refine lv_iload_n hx hb dX5_plan_54 rfl (lv_at hl 2 rfl) ?_
            refine lv_iload_n hx hb dX5_plan_55 rfl (lv_at hl 3 rfl) ?_
            refine lv_iload hx hb dX5_plan_56 (lv_at hl 4 rfl) ?_
            refine cW_v (va_runV ⟨hx, hb, hml, hown, hts⟩ (m_follow l E am g hz n kd ch tm tx lm td tr bs nw th pd rest hn gd hM hg2 hg32 htd2 p i q t hp3 hi hq (by omega) _) (cwV 4 hts gX5_plan_X5_follow rfl rfl rfl (by decide +kernel) ⟨Nat.le_of_ble_eq_true rfl, Nat.le_of_ble_eq_true rfl⟩) (ePw_V hP hD hE (ci := 5) (k := 0) rfl rfl) rfl rfl hl.1 rfl (lv_room (Nat.le_of_ble_eq_true rfl)) dX5_plan_58 ⟨Nat.zero_le _, Nat.zero_le _⟩) hS hD hA (fun ws9 H locs hr9 hP hD hS => ?_)
            obtain ⟨nw1, th1, hn1, rfl⟩ := hr9
            refine lv_iload hx hb dX5_plan_61 (lv_at hl 5 rfl) ?_
            refine lv_iconst (v := nI 3) hx hb dX5_plan_63 (by decide) ?_
            refine n_ne hx hb (by omega) (by omega) 72 dX5_plan_64 (by decide) (fun c64 => ?_) (fun c64 => ?_)
            · skip
              refine lv_iload hx hb dX5_plan_72 (lv_at hl 5 rfl) ?_
              refine lv_iconst (v := nI 2) hx hb dX5_plan_74 (by decide) ?_
              refine n_ge hx hb (by omega) (by omega) 96 dX5_plan_75 (by decide) (fun c75 => ?_) (fun c75 => ?_)
              · skip
                obtain rfl : w = 2 := by omega
                refine lv_lconst (v := lN 0) hx hb dX5_plan_96 rfl ?_
                refine st_l2 hx hb 6 dX5_plan_97 hl (by decide) rfl (fun ls hl => ?_)
                refine lv_iconst (v := nI 0) hx hb dX5_plan_99 (by decide) ?_
                refine st_i2 hx hb 7 dX5_plan_100 hl (by decide) rfl (fun ls hl => ?_)
                refine wLoop (g + 1) 0 (fun z ls => lv_has ls 9 [(0, .ref (am 0)), (1, .int (nI p)), (2, .int (nI i)), (3, .int (nI q)), (4, .int (nI t)), (5, .int (nI 2)), (6, .long (lN (sm (fun z => z * sm (fun x => fNow g (gd i) td p q t (65 * z + x)) 65) z))), (8, .int (nI z))]) (Nat.zero_le _) (fun z ls hz9 hl ih => ?_) (fun ls hl => ?_) hl
                · skip
                  refine lv_iload hx hb dX5_plan_102 (lv_at hl 7 rfl) ?_
                  refine lv_aload_n hx hb dX5_plan_104 rfl (lv_at hl 0 rfl) ?_
                  refine va_get (D := E.1) (ci := 5) (C := RX5) (T := TX5) (N := 14) hx hb hts hinX5 hown hE.1 hP 0 rfl rfl 0 (by decide) (hts (.fieldLink RX5 7 "StakeHouseModel" "goal" "I") (by decide +kernel)) (fun _ h9 => h9) rfl dX5_plan_105 ?_
                  refine n_gt hx hb (by omega) (by omega) 132 dX5_plan_108 (by decide) (fun c108 => ?_) (fun c108 => ?_)
                  · skip
                    exact absurd c108 (by omega)
                  · skip
                    refine lv_lload hx hb dX5_plan_111 (lv_at hl 6 rfl) ?_
                    refine lv_iload hx hb dX5_plan_113 (lv_at hl 7 rfl) ?_
                    refine lv_i2l (v := lN _) hx hb dX5_plan_115 (nI_l (by omega)) ?_
                    refine lv_aload_n hx hb dX5_plan_116 rfl (lv_at hl 0 rfl) ?_
                    refine lv_iload hx hb dX5_plan_117 (lv_at hl 7 rfl) ?_
                    refine vp_callSl (W.runV ⟨hx, hb, hml, hown, hts⟩ (m_weightAt l E am g hz n kd ch tm tx lm (fun j => nI (td j)) tr bs nw1 th1 (lN (fPd g (gd i) td p q t)) rest (fNow g (gd i) td p q t) hn1 z (by omega)) (cwV 1 hts gX5_plan_X5_weightAt rfl rfl rfl (by decide +kernel) ⟨Nat.le_of_ble_eq_true rfl, Nat.le_of_ble_eq_true rfl⟩) (ePu_V hP hE (ci := 5) (k := 0) rfl rfl) rfl rfl hl.1 rfl (lv_room (Nat.le_of_ble_eq_true rfl)) dX5_plan_119 ⟨Nat.zero_le _, Nat.zero_le _⟩) (fun r9 hr9 => ?_)
                    subst hr9
                    refine lv_lmul hx hb dX5_plan_122 ?_
                    refine tp_l (lN_mul _ _) ?_
                    refine lv_ladd hx hb dX5_plan_123 ?_
                    refine tp_l (lN_add _ _) ?_
                    refine st_l2 hx hb 6 dX5_plan_124 hl (by decide) rfl (fun ls hl => ?_)
                    refine st_inc hx hb 7 dX5_plan_126 hl rfl (nI_1 _) (by decide) rfl (fun ls hl => ?_)
                    refine lv_goto (tgt := 102) hx hb dX5_plan_129 (by decide) ?_
                    exact ih _ hl
                · skip
                  refine lv_iload hx hb dX5_plan_102 (lv_at hl 7 rfl) ?_
                  refine lv_aload_n hx hb dX5_plan_104 rfl (lv_at hl 0 rfl) ?_
                  refine va_get (D := E.1) (ci := 5) (C := RX5) (T := TX5) (N := 14) hx hb hts hinX5 hown hE.1 hP 0 rfl rfl 0 (by decide) (hts (.fieldLink RX5 7 "StakeHouseModel" "goal" "I") (by decide +kernel)) (fun _ h9 => h9) rfl dX5_plan_105 ?_
                  refine n_gt hx hb (by omega) (by omega) 132 dX5_plan_108 (by decide) (fun c108 => ?_) (fun c108 => ?_)
                  · skip
                    refine lv_lload hx hb dX5_plan_132 (lv_at hl 6 rfl) ?_
                    exact ret_Wl hx hb hr hlocks dX5_plan_134 hP hD hS ⟨Or.inl ⟨p, i, q, t, 2, rfl, rfl, rfl, rfl, rfl, hp3, hi, hq, ht, hw3, congrArg lN (end_2 hg32 hd hp3 hq t)⟩, nw1, th1, _, rfl⟩
                  · skip
                    exact absurd c108 (by omega)
              · skip
                refine lv_aload_n hx hb dX5_plan_78 rfl (lv_at hl 0 rfl) ?_
                refine lv_iload hx hb dX5_plan_79 (lv_at hl 5 rfl) ?_
                refine z_ne hx hb (by omega) 91 dX5_plan_81 (by decide) (fun c81 => ?_) (fun c81 => ?_)
                · skip
                  obtain rfl : w = 1 := by omega
                  refine lv_iconst (v := nI 0) hx hb dX5_plan_91 (by decide) ?_
                  refine vp_callSl (W.runV ⟨hx, hb, hml, hown, hts⟩ (m_weightAt l E am g hz n kd ch tm tx lm (fun j => nI (td j)) tr bs nw1 th1 (lN (fPd g (gd i) td p q t)) rest (fNow g (gd i) td p q t) hn1 0 (by omega)) (cwV 1 hts gX5_plan_X5_weightAt rfl rfl rfl (by decide +kernel) ⟨Nat.le_of_ble_eq_true rfl, Nat.le_of_ble_eq_true rfl⟩) (ePu_V hP hE (ci := 5) (k := 0) rfl rfl) rfl rfl hl.1 rfl (lv_room (Nat.le_of_ble_eq_true rfl)) dX5_plan_92 ⟨Nat.zero_le _, Nat.zero_le _⟩) (fun r9 hr9 => ?_)
                  subst hr9
                  exact ret_Wl hx hb hr hlocks dX5_plan_95 hP hD hS ⟨Or.inl ⟨p, i, q, t, 1, rfl, rfl, rfl, rfl, rfl, hp3, hi, hq, ht, hw3, congrArg lN (end_1 hg32 hd hp3 hq t)⟩, nw1, th1, _, rfl⟩
                · skip
                  obtain rfl : w = 0 := c81
                  refine lv_aload_n hx hb dX5_plan_84 rfl (lv_at hl 0 rfl) ?_
                  refine va_get (D := E.1) (ci := 5) (C := RX5) (T := TX5) (N := 14) hx hb hts hinX5 hown hE.1 hP 0 rfl rfl 0 (by decide) (hts (.fieldLink RX5 7 "StakeHouseModel" "goal" "I") (by decide +kernel)) (fun _ h9 => h9) rfl dX5_plan_85 ?_
                  refine lv_goto (tgt := 92) hx hb dX5_plan_88 (by decide) ?_
                  refine vp_callSl (W.runV ⟨hx, hb, hml, hown, hts⟩ (m_weightAt l E am g hz n kd ch tm tx lm (fun j => nI (td j)) tr bs nw1 th1 (lN (fPd g (gd i) td p q t)) rest (fNow g (gd i) td p q t) hn1 g (by omega)) (cwV 1 hts gX5_plan_X5_weightAt rfl rfl rfl (by decide +kernel) ⟨Nat.le_of_ble_eq_true rfl, Nat.le_of_ble_eq_true rfl⟩) (ePu_V hP hE (ci := 5) (k := 0) rfl rfl) rfl rfl hl.1 rfl (lv_room (Nat.le_of_ble_eq_true rfl)) dX5_plan_92 ⟨Nat.zero_le _, Nat.zero_le _⟩) (fun r9 hr9 => ?_)
                  subst hr9
                  exact ret_Wl hx hb hr hlocks dX5_plan_95 hP hD hS ⟨Or.inl ⟨p, i, q, t, 0, rfl, rfl, rfl, rfl, rfl, hp3, hi, hq, ht, hw3, congrArg lN (end_0 hg32 hd hp3 hq t)⟩, nw1, th1, _, rfl⟩
            · skip
              obtain rfl : w = 3 := c64
              refine lv_aload_n hx hb dX5_plan_67 rfl (lv_at hl 0 rfl) ?_
              refine va_get (D := E.1) (ci := 5) (C := RX5) (T := TX5) (N := 14) hx hb hts hinX5 hown hE.1 hP 0 rfl rfl 13 (by decide) (hts (.fieldLink RX5 98 "StakeHouseModel" "played" "J") (by decide +kernel)) (fun _ h9 => h9) rfl dX5_plan_68 ?_
              exact ret_Wl hx hb hr hlocks dX5_plan_71 hP hD hS ⟨Or.inl ⟨p, i, q, t, 3, rfl, rfl, rfl, rfl, rfl, hp3, hi, hq, ht, hw3, congrArg lN (end_3 hg32 hd hp3 hq t)⟩, nw1, th1, _, rfl⟩
          · skip
            refine lv_ldc2 (v := -1) hx hb hown (hts (.constantLong RX5 84 (-1)) (by decide +kernel)) dX5_plan_48 ?_
            exact ret_Wl hx hb hr hlocks dX5_plan_51 hP hD hS ⟨Or.inr ⟨fun ⟨p, i, q, t, w, e1, e2, e3, e4, e5, g1, g2, g3, g4, g5⟩ => c45 (by rw [e5]; exact (nI_rngI (by omega) (by decide) (by decide)).mpr ⟨by omega, g5⟩), rfl⟩, nw, th, pd, rfl⟩
set_option maxHeartbeats 4000000 in
set_option maxRecDepth 100000 in
/-- bold -/
theorem m_bold (l : Launch) (E : eT) (am : Nat → Nat) (g hz n : Nat) (kd ch tm tx lm : Nat → Int32) (td : Nat → Nat) (tr : Int64) (bs nw th : Nat → Int64) (pd : Int64) (rest : va_W) (hn : n ≤ 4) (gd : Nat → gT) (hM : ∀ i, i < n → gArg (gd i) (kd i) (ch i) (tm i) (tx i) (lm i)) (hg2 : 2 ≤ g) (hg32 : g ≤ 32) (hhz : hz ≤ 12) (htd2 : ∀ j, td j ≤ 32) (iv qv tv : Int32) : mWi l yX5_bold wsX5_bold 4 115 0 0 E (wM E am g hz n kd ch tm tx lm (fun j => nI (td j)) tr bs nw th pd ++ rest) [.ref (am 0), .int iv, .int qv, .int tv] (fun r ws1 => bld_of g hz n gd td iv qv tv r ∧ ∃ (bs1 nw1 th1 : Nat → Int64) (pd1 : Int64), ws1 = wM E am g hz n kd ch tm tx lm (fun j => nI (td j)) tr bs1 nw1 th1 pd1 ++ rest) := by
  intro sz
  refine mW_of (cc := cX5_bold) (maxL := 6) (ret := (some .int)) (Qc := fun sz => va_Qi (fun r ws1 => bld_of g hz n gd td iv qv tv r ∧ ∃ (bs1 nw1 th1 : Nat → Int64) (pd1 : Int64), ws1 = wM E am g hz n kd ch tm tx lm (fun j => nI (td j)) tr bs1 nw1 th1 pd1 ++ rest) (eAt E (va_A (wM E am g hz n kd ch tm tx lm (fun j => nI (td j)) tr bs nw th pd ++ rest) sz)) (va_A (wM E am g hz n kd ch tm tx lm (fun j => nI (td j)) tr bs nw th pd ++ rest) sz)) (by decide) rfl (Nat.le_of_ble_eq_true rfl) ?_
  intro p0 e0 s m below meth c0 ls hx hb hr hml hts hown hlocks hin hE hP hD hl
  have hS : va_S (va_A (wM E am g hz n kd ch tm tx lm (fun j => nI (td j)) tr bs nw th pd ++ rest) s.heap.size) s.heap s.heap [] := va_S.rf
  have hA : ∀ q, s.heap.size ≤ q → (va_A (wM E am g hz n kd ch tm tx lm (fun j => nI (td j)) tr bs nw th pd ++ rest) s.heap.size) q := fun q h => Or.inr h
  have hown : s.vm.findClass RX5 = some m.cls := hown
  have hl : lv_has ls 6 [(0, .ref (am 0)), (1, .int iv), (2, .int qv), (3, .int tv)] := hl
  have hinX5 : ∀ w ∈ wsX50, w ∈ wsX5_bold := by decide +kernel
  refine lv_aload_n hx hb dX5_bold_0 rfl (lv_at hl 0 rfl) ?_
  refine lv_iload_n hx hb dX5_bold_1 rfl (lv_at hl 1 rfl) ?_
  refine vp_callSi (W.runV ⟨hx, hb, hml, hown, hts⟩ (m_isGame l E am g hz n kd ch tm tx lm (fun j => nI (td j)) tr bs nw th pd rest _) (cwV 1 hts gX5_bold_X5_isGame rfl rfl rfl (by decide +kernel) ⟨Nat.le_of_ble_eq_true rfl, Nat.le_of_ble_eq_true rfl⟩) (ePu_V hP hE (ci := 5) (k := 0) rfl rfl) rfl rfl hl.1 rfl (lv_room (Nat.le_of_ble_eq_true rfl)) dX5_bold_2 ⟨Nat.zero_le _, Nat.zero_le _⟩) (fun r9 hr9 => ?_)
  subst hr9
  refine q_eq hx hb 28 dX5_bold_5 (by decide) (fun c5 => ?_) (fun c5 => ?_)
  · skip
    refine lv_iconst (v := (-1)) hx hb dX5_bold_28 (by decide) ?_
    exact ret_Wi hx hb hr hlocks dX5_bold_29 hP hD hS ⟨Or.inr ⟨fun ⟨i, q, t, e1, e2, e3, g1, g2, g3⟩ => c5 ((nI_gm (by omega)).mpr ⟨i, g1, e1⟩), rfl⟩, bs, nw, th, pd, rfl⟩
  · skip
    obtain ⟨i, hi, rfl⟩ := (nI_gm (by omega)).mp c5
    refine lv_aload_n hx hb dX5_bold_8 rfl (lv_at hl 0 rfl) ?_
    refine lv_iload_n hx hb dX5_bold_9 rfl (lv_at hl 2 rfl) ?_
    refine vp_callSi (W.runV ⟨hx, hb, hml, hown, hts⟩ (m_isPurse l E am g hz n kd ch tm tx lm (fun j => nI (td j)) tr bs nw th pd rest _) (cwV 1 hts gX5_bold_X5_isPurse rfl rfl rfl (by decide +kernel) ⟨Nat.le_of_ble_eq_true rfl, Nat.le_of_ble_eq_true rfl⟩) (ePu_V hP hE (ci := 5) (k := 0) rfl rfl) rfl rfl hl.1 rfl (lv_room (Nat.le_of_ble_eq_true rfl)) dX5_bold_10 ⟨Nat.zero_le _, Nat.zero_le _⟩) (fun r9 hr9 => ?_)
    subst hr9
    refine q_eq hx hb 28 dX5_bold_13 (by decide) (fun c13 => ?_) (fun c13 => ?_)
    · skip
      refine lv_iconst (v := (-1)) hx hb dX5_bold_28 (by decide) ?_
      exact ret_Wi hx hb hr hlocks dX5_bold_29 hP hD hS ⟨Or.inr ⟨fun ⟨i, q, t, e1, e2, e3, g1, g2, g3⟩ => c13 (by rw [e2]; exact (nI_rngI (by omega) (by decide) (by omega)).mpr ⟨by omega, g2⟩), rfl⟩, bs, nw, th, pd, rfl⟩
    · skip
      obtain ⟨q, -, hq, rfl⟩ := nI_rng (by omega) c13 (by decide)
      refine lv_iload_n hx hb dX5_bold_16 rfl (lv_at hl 3 rfl) ?_
      refine lv_iconst (v := nI 0) hx hb dX5_bold_17 (by decide) ?_
      refine lv_aload_n hx hb dX5_bold_18 rfl (lv_at hl 0 rfl) ?_
      refine va_get (D := E.1) (ci := 5) (C := RX5) (T := TX5) (N := 14) hx hb hts hinX5 hown hE.1 hP 0 rfl rfl 1 (by decide) (hts (.fieldLink RX5 13 "StakeHouseModel" "horizon" "I") (by decide +kernel)) (fun _ h9 => h9) rfl dX5_bold_19 ?_
      refine vp_callSi (W.runS ⟨hx, hb, hml, hown, hts⟩ (c_in l E _ _ _ _) (va_cwS 3 hts gX5_bold_X5_in rfl rfl rfl (by decide +kernel) ⟨Nat.le_of_ble_eq_true rfl, Nat.le_of_ble_eq_true rfl⟩) (ePu_S hP hE) rfl rfl hl.1 rfl (lv_room (Nat.le_of_ble_eq_true rfl)) dX5_bold_22 ⟨Nat.zero_le _, Nat.zero_le _⟩) (fun r9 hr9 => ?_)
      subst hr9
      refine q_ne hx hb 30 dX5_bold_25 (by decide) (fun c25 => ?_) (fun c25 => ?_)
      · skip
        obtain ⟨t, -, ht, rfl⟩ := nI_rng (by omega) c25 (by decide)
        have hd := (hM i hi).1
        have hA1 := gV_le (S := gSt g (gd i) td 0) (what := 0) (rg := gRg 0) hg32 hd (by decide) t 0 q hq
        have hA2 := gBst_le (what := 0) hg32 (lo := i) (cnt := 1) (fun k hk => (hM (i + k) (by omega)).1) t q hq
        have hA3 := b53 (t := t) (by omega)
        refine lv_aload_n hx hb dX5_bold_30 rfl (lv_at hl 0 rfl) ?_
        refine lv_iconst (v := nI 0) hx hb dX5_bold_31 (by decide) ?_
        refine lv_iload_n hx hb dX5_bold_32 rfl (lv_at hl 1 rfl) ?_
        refine lv_iload_n hx hb dX5_bold_33 rfl (lv_at hl 2 rfl) ?_
        refine lv_iload_n hx hb dX5_bold_34 rfl (lv_at hl 3 rfl) ?_
        refine cW_v (va_runV ⟨hx, hb, hml, hown, hts⟩ (m_follow l E am g hz n kd ch tm tx lm td tr bs nw th pd rest hn gd hM hg2 hg32 htd2 0 i q t (by decide) hi hq (by omega) _) (cwV 4 hts gX5_bold_X5_follow rfl rfl rfl (by decide +kernel) ⟨Nat.le_of_ble_eq_true rfl, Nat.le_of_ble_eq_true rfl⟩) (ePw_V hP hD hE (ci := 5) (k := 0) rfl rfl) rfl rfl hl.1 rfl (lv_room (Nat.le_of_ble_eq_true rfl)) dX5_bold_35 ⟨Nat.zero_le _, Nat.zero_le _⟩) hS hD hA (fun ws9 H locs hr9 hP hD hS => ?_)
        obtain ⟨nw1, th1, hn1, rfl⟩ := hr9
        refine lv_aload_n hx hb dX5_bold_38 rfl (lv_at hl 0 rfl) ?_
        refine lv_aload_n hx hb dX5_bold_39 rfl (lv_at hl 0 rfl) ?_
        refine va_get (D := E.1) (ci := 5) (C := RX5) (T := TX5) (N := 14) hx hb hts hinX5 hown hE.1 hP 0 rfl rfl 0 (by decide) (hts (.fieldLink RX5 7 "StakeHouseModel" "goal" "I") (by decide +kernel)) (fun _ h9 => h9) rfl dX5_bold_40 ?_
        refine vp_callSl (W.runV ⟨hx, hb, hml, hown, hts⟩ (m_weightAt l E am g hz n kd ch tm tx lm (fun j => nI (td j)) tr bs nw1 th1 (lN (fPd g (gd i) td 0 q t)) rest (fNow g (gd i) td 0 q t) hn1 g (by omega)) (cwV 1 hts gX5_bold_X5_weightAt rfl rfl rfl (by decide +kernel) ⟨Nat.le_of_ble_eq_true rfl, Nat.le_of_ble_eq_true rfl⟩) (ePu_V hP hE (ci := 5) (k := 0) rfl rfl) rfl rfl hl.1 rfl (lv_room (Nat.le_of_ble_eq_true rfl)) dX5_bold_43 ⟨Nat.zero_le _, Nat.zero_le _⟩) (fun r9 hr9 => ?_)
        subst hr9
        refine tp_l (show _ = lN (gV g (gd i) (gSt g (gd i) td 0) 0 (gRg 0) t 0 q) from congrArg lN (end_0 hg32 hd (by decide) hq t)) ?_
        refine st_l2 hx hb 4 dX5_bold_46 hl (by decide) rfl (fun ls hl => ?_)
        refine lv_aload_n hx hb dX5_bold_48 rfl (lv_at hl 0 rfl) ?_
        refine lv_iload_n hx hb dX5_bold_49 rfl (lv_at hl 3 rfl) ?_
        refine lv_iconst (v := nI 0) hx hb dX5_bold_50 (by decide) ?_
        refine lv_iload_n hx hb dX5_bold_51 rfl (lv_at hl 1 rfl) ?_
        refine lv_iload_n hx hb dX5_bold_52 rfl (lv_at hl 1 rfl) ?_
        refine tp_i (show nI i = nI (i + 1 - 1) from rfl) ?_
        refine cW_v (va_runV ⟨hx, hb, hml, hown, hts⟩ (m_work l E am g hz n kd ch tm tx lm (fun j => nI (td j)) tr bs nw1 th1 (lN (fPd g (gd i) td 0 q t)) rest hn gd hM hg2 hg32 t 0 i 1 (by omega) (by decide) (by decide) (by omega) _) (cwV 4 hts gX5_bold_X5_work rfl rfl rfl (by decide +kernel) ⟨Nat.le_of_ble_eq_true rfl, Nat.le_of_ble_eq_true rfl⟩) (ePw_V hP hD hE (ci := 5) (k := 0) rfl rfl) rfl rfl hl.1 rfl (lv_room (Nat.le_of_ble_eq_true rfl)) dX5_bold_53 ⟨Nat.zero_le _, Nat.zero_le _⟩) hS hD hA (fun ws9 H locs hr9 hP hD hS => ?_)
        obtain ⟨bs1, hb1, rfl⟩ := hr9
        refine lv_aload_n hx hb dX5_bold_56 rfl (lv_at hl 0 rfl) ?_
        refine va_get (D := E.1) (ci := 5) (C := RX5) (T := TX5) (N := 14) hx hb hts hinX5 hown hE.1 hP 0 rfl rfl 10 (by decide) (hts (.fieldLink RX5 35 "StakeHouseModel" "best" "[J") (by decide +kernel)) (fun _ h9 => h9) rfl dX5_bold_57 ?_
        refine lv_bipush (v := nI 33) hx hb dX5_bold_60 (by decide) ?_
        refine lv_iload_n hx hb dX5_bold_62 rfl (lv_at hl 3 rfl) ?_
        refine lv_imul hx hb dX5_bold_63 ?_
        refine tp_i (pk_mul _ _) ?_
        refine lv_iload_n hx hb dX5_bold_64 rfl (lv_at hl 2 rfl) ?_
        refine lv_iadd hx hb dX5_bold_65 ?_
        refine tp_i (nI_add _ _) ?_
        refine va_lald hx hb hE.1 hP 7 1 rfl rfl (vp_in_nI (by omega) (by decide)) dX5_bold_66 ?_
        refine tp_l (show _ = lN (gBst g gd i 1 0 t q) by rw [nI_clamp (by omega)]; exact hb1 t (by omega) q hq) ?_
        refine lv_lload hx hb dX5_bold_67 (lv_at hl 4 rfl) ?_
        refine W.lcmp hx hb dX5_bold_69 ?_
        refine lv_if_ne (tgt := 77) hx hb dX5_bold_70 (by decide) (fun c70 => ?_) (fun c70 => ?_)
        · skip
          rw [lg_cmp_eq, pk_lEQ (by omega) (by omega)] at c70
          refine lv_iconst (v := nI 0) hx hb dX5_bold_77 (by decide) ?_
          exact ret_Wi hx hb hr hlocks dX5_bold_78 hP hD hS ⟨Or.inl ⟨i, q, t, rfl, rfl, rfl, hi, hq, ht, by rw [if_neg (fun z => c70 z.symm)]; rfl⟩, bs1, nw1, th1, _, rfl⟩
        · skip
          rw [lg_cmp_eq, pk_lEQ (by omega) (by omega)] at c70
          refine lv_iconst (v := nI 1) hx hb dX5_bold_73 (by decide) ?_
          refine lv_goto (tgt := 78) hx hb dX5_bold_74 (by decide) ?_
          exact ret_Wi hx hb hr hlocks dX5_bold_78 hP hD hS ⟨Or.inl ⟨i, q, t, rfl, rfl, rfl, hi, hq, ht, by rw [if_pos c70.symm]; rfl⟩, bs1, nw1, th1, _, rfl⟩
      · skip
        refine lv_iconst (v := (-1)) hx hb dX5_bold_28 (by decide) ?_
        exact ret_Wi hx hb hr hlocks dX5_bold_29 hP hD hS ⟨Or.inr ⟨fun ⟨i, q, t, e1, e2, e3, g1, g2, g3⟩ => c25 (by rw [e3]; exact (nI_rngI (by omega) (by decide) (by omega)).mpr ⟨by omega, g3⟩), rfl⟩, bs, nw, th, pd, rfl⟩
end
