section
-- ===== PART A: goes FIRST, ahead of the names: the tables' words, and 'selects' of the private methods out of them =====
/-- a private method of a class that the tables say can be made, by its rows of tables_1 -/
def lw_okq (q : MethodName × Nat) : Prop := (q.1.cls ≠ "java/lang/invoke/MethodHandle" ∧ q.1.cls ≠ "java/lang/invoke/VarHandle") ∧ Cond.instantiable q.1.cls q.2 ∈ tables_1 ∧ Cond.privateMethod q.1 ∈ tables_1 ∧ Cond.instanceMethod q.1 ∈ tables_1
theorem lw_p0 : lw_okq (⟨"FairRents", "homeAt", "(I)LFairRents$Home;"⟩, 12) := ⟨⟨by decide +kernel, by decide +kernel⟩, List.mem_of_getElem? (i := 14) (by decide +kernel), List.mem_of_getElem? (i := 199) (by decide +kernel), List.mem_of_getElem? (i := 200) (by decide +kernel)⟩
theorem lw_p1 : lw_okq (⟨"FairRents", "lawOn", "(I)LFairRents$Law;"⟩, 12) := ⟨⟨by decide +kernel, by decide +kernel⟩, List.mem_of_getElem? (i := 14) (by decide +kernel), List.mem_of_getElem? (i := 251) (by decide +kernel), List.mem_of_getElem? (i := 252) (by decide +kernel)⟩
theorem lw_p2 : lw_okq (⟨"FairRents$Heads", "insert", "(I)V"⟩, 5) := ⟨⟨by decide +kernel, by decide +kernel⟩, List.mem_of_getElem? (i := 40) (by decide +kernel), List.mem_of_getElem? (i := 316) (by decide +kernel), List.mem_of_getElem? (i := 317) (by decide +kernel)⟩
theorem lw_p3 : lw_okq (⟨"FairRents$Heads", "lowerMiddle", "()I"⟩, 5) := ⟨⟨by decide +kernel, by decide +kernel⟩, List.mem_of_getElem? (i := 40) (by decide +kernel), List.mem_of_getElem? (i := 321) (by decide +kernel), List.mem_of_getElem? (i := 322) (by decide +kernel)⟩
theorem lw_p4 : lw_okq (⟨"FairRents", "barEnd", "(I)I"⟩, 12) := ⟨⟨by decide +kernel, by decide +kernel⟩, List.mem_of_getElem? (i := 14) (by decide +kernel), List.mem_of_getElem? (i := 348) (by decide +kernel), List.mem_of_getElem? (i := 349) (by decide +kernel)⟩
theorem lw_p5 : lw_okq (⟨"FairRents", "latestStanding", "(I)I"⟩, 12) := ⟨⟨by decide +kernel, by decide +kernel⟩, List.mem_of_getElem? (i := 14) (by decide +kernel), List.mem_of_getElem? (i := 352) (by decide +kernel), List.mem_of_getElem? (i := 353) (by decide +kernel)⟩
theorem lw_p6 : lw_okq (⟨"FairRents", "entryAt", "(I)LFairRents$Entry;"⟩, 12) := ⟨⟨by decide +kernel, by decide +kernel⟩, List.mem_of_getElem? (i := 14) (by decide +kernel), List.mem_of_getElem? (i := 356) (by decide +kernel), List.mem_of_getElem? (i := 357) (by decide +kernel)⟩
theorem lw_p7 : lw_okq (⟨"FairRents", "workDues", "(ILFairRents$Letting;I)I"⟩, 12) := ⟨⟨by decide +kernel, by decide +kernel⟩, List.mem_of_getElem? (i := 14) (by decide +kernel), List.mem_of_getElem? (i := 428) (by decide +kernel), List.mem_of_getElem? (i := 429) (by decide +kernel)⟩
theorem lw_p8 : lw_okq (⟨"FairRents", "homesLet", "()I"⟩, 12) := ⟨⟨by decide +kernel, by decide +kernel⟩, List.mem_of_getElem? (i := 14) (by decide +kernel), List.mem_of_getElem? (i := 465) (by decide +kernel), List.mem_of_getElem? (i := 466) (by decide +kernel)⟩
theorem lw_p9 : lw_okq (⟨"FairRents", "lawsTold", "()I"⟩, 12) := ⟨⟨by decide +kernel, by decide +kernel⟩, List.mem_of_getElem? (i := 14) (by decide +kernel), List.mem_of_getElem? (i := 469) (by decide +kernel), List.mem_of_getElem? (i := 470) (by decide +kernel)⟩
theorem lw_p10 : lw_okq (⟨"FairRentsModel", "isHome", "(I)Z"⟩, 30) := ⟨⟨by decide +kernel, by decide +kernel⟩, List.mem_of_getElem? (i := 477) (by decide +kernel), List.mem_of_getElem? (i := 586) (by decide +kernel), List.mem_of_getElem? (i := 587) (by decide +kernel)⟩
theorem lw_p11 : lw_okq (⟨"FairRentsModel", "pointsOf", "(I)I"⟩, 30) := ⟨⟨by decide +kernel, by decide +kernel⟩, List.mem_of_getElem? (i := 477) (by decide +kernel), List.mem_of_getElem? (i := 596) (by decide +kernel), List.mem_of_getElem? (i := 597) (by decide +kernel)⟩
theorem lw_p12 : lw_okq (⟨"FairRentsModel", "lawOf", "(II)I"⟩, 30) := ⟨⟨by decide +kernel, by decide +kernel⟩, List.mem_of_getElem? (i := 477) (by decide +kernel), List.mem_of_getElem? (i := 608) (by decide +kernel), List.mem_of_getElem? (i := 609) (by decide +kernel)⟩
theorem lw_p13 : lw_okq (⟨"FairRentsModel", "yearOf", "(I)I"⟩, 30) := ⟨⟨by decide +kernel, by decide +kernel⟩, List.mem_of_getElem? (i := 477) (by decide +kernel), List.mem_of_getElem? (i := 612) (by decide +kernel), List.mem_of_getElem? (i := 613) (by decide +kernel)⟩
theorem lw_p14 : lw_okq (⟨"FairRentsModel", "headOf", "(III)I"⟩, 30) := ⟨⟨by decide +kernel, by decide +kernel⟩, List.mem_of_getElem? (i := 477) (by decide +kernel), List.mem_of_getElem? (i := 632) (by decide +kernel), List.mem_of_getElem? (i := 633) (by decide +kernel)⟩
theorem lw_p15 : lw_okq (⟨"FairRentsModel", "collect", "(II)V"⟩, 30) := ⟨⟨by decide +kernel, by decide +kernel⟩, List.mem_of_getElem? (i := 477) (by decide +kernel), List.mem_of_getElem? (i := 636) (by decide +kernel), List.mem_of_getElem? (i := 637) (by decide +kernel)⟩
def lw_privs_1 : List (MethodName × Nat) := [(⟨"FairRents", "homeAt", "(I)LFairRents$Home;"⟩, 12), (⟨"FairRents", "lawOn", "(I)LFairRents$Law;"⟩, 12), (⟨"FairRents$Heads", "insert", "(I)V"⟩, 5), (⟨"FairRents$Heads", "lowerMiddle", "()I"⟩, 5), (⟨"FairRents", "barEnd", "(I)I"⟩, 12), (⟨"FairRents", "latestStanding", "(I)I"⟩, 12), (⟨"FairRents", "entryAt", "(I)LFairRents$Entry;"⟩, 12), (⟨"FairRents", "workDues", "(ILFairRents$Letting;I)I"⟩, 12), (⟨"FairRents", "homesLet", "()I"⟩, 12), (⟨"FairRents", "lawsTold", "()I"⟩, 12), (⟨"FairRentsModel", "isHome", "(I)Z"⟩, 30), (⟨"FairRentsModel", "pointsOf", "(I)I"⟩, 30), (⟨"FairRentsModel", "lawOf", "(II)I"⟩, 30), (⟨"FairRentsModel", "yearOf", "(I)I"⟩, 30), (⟨"FairRentsModel", "headOf", "(III)I"⟩, 30), (⟨"FairRentsModel", "collect", "(II)V"⟩, 30)]
theorem lw_r1 : ∀ q ∈ lw_privs_1, lw_okq q := List.forall_mem_cons.mpr ⟨lw_p0, List.forall_mem_cons.mpr ⟨lw_p1, List.forall_mem_cons.mpr ⟨lw_p2, List.forall_mem_cons.mpr ⟨lw_p3, List.forall_mem_cons.mpr ⟨lw_p4, List.forall_mem_cons.mpr ⟨lw_p5, List.forall_mem_cons.mpr ⟨lw_p6, List.forall_mem_cons.mpr ⟨lw_p7, List.forall_mem_cons.mpr ⟨lw_p8, List.forall_mem_cons.mpr ⟨lw_p9, List.forall_mem_cons.mpr ⟨lw_p10, List.forall_mem_cons.mpr ⟨lw_p11, List.forall_mem_cons.mpr ⟨lw_p12, List.forall_mem_cons.mpr ⟨lw_p13, List.forall_mem_cons.mpr ⟨lw_p14, List.forall_mem_cons.mpr ⟨lw_p15, fun _ h => absurd h List.not_mem_nil⟩⟩⟩⟩⟩⟩⟩⟩⟩⟩⟩⟩⟩⟩⟩⟩
theorem lw_p16 : lw_okq (⟨"FairRentsModel", "openOf", "(I)I"⟩, 30) := ⟨⟨by decide +kernel, by decide +kernel⟩, List.mem_of_getElem? (i := 477) (by decide +kernel), List.mem_of_getElem? (i := 649) (by decide +kernel), List.mem_of_getElem? (i := 650) (by decide +kernel)⟩
theorem lw_p17 : lw_okq (⟨"FairRentsModel", "latestOf", "(I)I"⟩, 30) := ⟨⟨by decide +kernel, by decide +kernel⟩, List.mem_of_getElem? (i := 477) (by decide +kernel), List.mem_of_getElem? (i := 653) (by decide +kernel), List.mem_of_getElem? (i := 654) (by decide +kernel)⟩
theorem lw_p18 : lw_okq (⟨"FairRentsModel", "work", "(II)V"⟩, 30) := ⟨⟨by decide +kernel, by decide +kernel⟩, List.mem_of_getElem? (i := 477) (by decide +kernel), List.mem_of_getElem? (i := 677) (by decide +kernel), List.mem_of_getElem? (i := 678) (by decide +kernel)⟩
theorem lw_p19 : lw_okq (⟨"FairRentsModel", "paidBy", "(II)I"⟩, 30) := ⟨⟨by decide +kernel, by decide +kernel⟩, List.mem_of_getElem? (i := 477) (by decide +kernel), List.mem_of_getElem? (i := 686) (by decide +kernel), List.mem_of_getElem? (i := 687) (by decide +kernel)⟩
def lw_privs_2 : List (MethodName × Nat) := [(⟨"FairRentsModel", "openOf", "(I)I"⟩, 30), (⟨"FairRentsModel", "latestOf", "(I)I"⟩, 30), (⟨"FairRentsModel", "work", "(II)V"⟩, 30), (⟨"FairRentsModel", "paidBy", "(II)I"⟩, 30)]
theorem lw_r2 : ∀ q ∈ lw_privs_2, lw_okq q := List.forall_mem_cons.mpr ⟨lw_p16, List.forall_mem_cons.mpr ⟨lw_p17, List.forall_mem_cons.mpr ⟨lw_p18, List.forall_mem_cons.mpr ⟨lw_p19, fun _ h => absurd h List.not_mem_nil⟩⟩⟩⟩
def lw_privs : List (MethodName × Nat) := lw_privs_1 ++ (lw_privs_2)
def lw_tbl : List Cond := k2_sels lw_privs ++ tables_1
theorem lw_privs_ok : ∀ q ∈ lw_privs, lw_okq q := by
  show ∀ q ∈ lw_privs_1 ++ (lw_privs_2), lw_okq q
  exact List.forall_mem_append.mpr ⟨lw_r1, lw_r2⟩
end
section
/-! ===== BEGIN words of one list among another's, by their places ===== -/
theorem goodIn_r {big : List Cond} (ws : List Cond) (ps : List Nat) (hp : ws = ps.filterMap (fun i => big[i]?)) (h : ws.all goodWord = true) : GoodIn big ws := by
  intro w hw
  have h1 := List.all_eq_true.mp h w hw
  rw [hp] at hw
  obtain ⟨i, -, hi⟩ := List.mem_filterMap.mp hw
  have hm : w ∈ big := by first | exact List.mem_of_getElem? hi | exact List.getElem?_mem hi
  exact ⟨hm, good_of_word h1⟩
theorem goodIn_app {big a b : List Cond} (ha : GoodIn big a) (hb : GoodIn big b) : GoodIn big (a ++ b) := fun w h => (List.mem_append.mp h).elim (ha w) (hb w)
theorem goodIn_ca {big a b : List Cond} {c : Cond} (ha : GoodIn big (c :: a)) (hb : GoodIn big b) : GoodIn big (c :: (a ++ b)) := fun w h => (List.mem_cons.mp h).elim (fun e => ha w (List.mem_cons.mpr (Or.inl e))) (fun h => (List.mem_append.mp h).elim (fun h => ha w (List.mem_cons.mpr (Or.inr h))) (hb w))
theorem goodIn_sub {big ws : List Cond} (hm : ∀ w ∈ ws, w ∈ big) (h : ws.all goodWord = true) : GoodIn big ws := fun w hw => ⟨hm w hw, good_of_word (List.all_eq_true.mp h w hw)⟩
/-! ===== END ===== -/

/-! ===== BEGIN printed: names, fields, word lists, decode rows ===== -/
def RX0 : String := "FairRents$Entry"
def TX0 : u_T := fun k => match k with
  | 0 => ("FairRents$Entry", "home", "I", true)
  | 1 => ("FairRents$Entry", "letting", "I", true)
  | 2 => ("FairRents$Entry", "day", "I", true)
  | 3 => ("FairRents$Entry", "law", "LFairRents$Law;", true)
  | 4 => ("FairRents$Entry", "rent", "I", true)
  | 5 => ("FairRents$Entry", "middle", "I", true)
  | 6 => ("FairRents$Entry", "scarcity", "I", true)
  | 7 => ("FairRents$Entry", "repairs", "I", true)
  | _ => ("FairRents$Entry", "stands", "Z", false)
def tyX0 : Nat → FieldType := fun k => match k with
  | 0 => .int
  | 1 => .int
  | 2 => .int
  | 3 => .object "FairRents$Law"
  | 4 => .int
  | 5 => .int
  | 6 => .int
  | 7 => .int
  | _ => .boolean
abbrev wsX00 : List Cond := u_ws RX0 TX0 9
theorem nmX0 : ∀ a, a < 9 → ∀ b, b < 9 → a ≠ b → (TX0 a).2.1 ≠ (TX0 b).2.1 := by decide +kernel
theorem tyX0_ok : ∀ k, k < 9 → parseFieldDescriptor (TX0 k).2.2.1 = some (tyX0 k) := by decide +kernel
abbrev cX0_init : ByteArray := prog_2_method_1_code
def yX0_init : MethodName := ⟨RX0, "<init>", "(IIILFairRents$Law;LFairRents$Heads;)V"⟩
abbrev cX0_binds : ByteArray := prog_2_method_2_code
def yX0_binds : MethodName := ⟨RX0, "binds", "(II)Z"⟩
abbrev cX0_steppedFrom : ByteArray := prog_2_method_3_code
def yX0_steppedFrom : MethodName := ⟨RX0, "steppedFrom", "(II)I"⟩
def RX1 : String := "FairRents$Flat"
def TX1 : u_T := fun k => match k with
  | 0 => ("FairRents$Plain", "rooms", "I", true)
  | _ => ("FairRents$Flat", "floor", "I", true)
def tyX1 : Nat → FieldType := fun k => match k with
  | 0 => .int
  | _ => .int
abbrev wsX10 : List Cond := u_ws RX1 TX1 2
theorem nmX1 : ∀ a, a < 2 → ∀ b, b < 2 → a ≠ b → (TX1 a).2.1 ≠ (TX1 b).2.1 := by decide +kernel
theorem tyX1_ok : ∀ k, k < 2 → parseFieldDescriptor (TX1 k).2.2.1 = some (tyX1 k) := by decide +kernel
abbrev cX1_init : ByteArray := prog_3_method_1_code
def yX1_init : MethodName := ⟨RX1, "<init>", "(II)V"⟩
abbrev cX1_worth : ByteArray := prog_3_method_2_code
def yX1_worth : MethodName := ⟨RX1, "worth", "()I"⟩
abbrev cX1_marks : ByteArray := prog_3_method_3_code
def yX1_marks : MethodName := ⟨RX1, "marks", "()I"⟩
def RX2 : String := "FairRents$Heads"
def TX2 : u_T := fun k => match k with
  | 0 => ("FairRents$Heads", "ordered", "[I", true)
  | 1 => ("FairRents$Heads", "counted", "I", false)
  | 2 => ("FairRents$Heads", "middle", "I", false)
  | 3 => ("FairRents$Heads", "scarcity", "I", false)
  | _ => ("FairRents$Heads", "repairs", "I", false)
def tyX2 : Nat → FieldType := fun k => match k with
  | 0 => .array .int
  | 1 => .int
  | 2 => .int
  | 3 => .int
  | _ => .int
abbrev wsX20 : List Cond := u_ws RX2 TX2 5
theorem nmX2 : ∀ a, a < 5 → ∀ b, b < 5 → a ≠ b → (TX2 a).2.1 ≠ (TX2 b).2.1 := by decide +kernel
theorem tyX2_ok : ∀ k, k < 5 → parseFieldDescriptor (TX2 k).2.2.1 = some (tyX2 k) := by decide +kernel
abbrev cX2_init : ByteArray := prog_4_method_1_code
def yX2_init : MethodName := ⟨RX2, "<init>", "()V"⟩
abbrev cX2_work : ByteArray := prog_4_method_2_code
def yX2_work : MethodName := ⟨RX2, "work", "(LFairRents$Home;LFairRents$Law;[LFairRents$Like;I)V"⟩
abbrev cX2_fairRent : ByteArray := prog_4_method_3_code
def yX2_fairRent : MethodName := ⟨RX2, "fairRent", "()I"⟩
abbrev cX2_insert : ByteArray := prog_4_method_4_code
def yX2_insert : MethodName := ⟨RX2, "insert", "(I)V"⟩
abbrev cX2_lowerMiddle : ByteArray := prog_4_method_5_code
def yX2_lowerMiddle : MethodName := ⟨RX2, "lowerMiddle", "()I"⟩
def RX3 : String := "FairRents$Home"
def TX3 : u_T := fun k => match k with
  | 0 => ("FairRents$Home", "body", "LFairRents$Plain;", true)
  | 1 => ("FairRents$Home", "area", "I", true)
  | 2 => ("FairRents$Home", "letting", "LFairRents$Letting;", true)
  | _ => ("FairRents$Home", "faults", "I", false)
def tyX3 : Nat → FieldType := fun k => match k with
  | 0 => .object "FairRents$Plain"
  | 1 => .int
  | 2 => .object "FairRents$Letting"
  | _ => .int
abbrev wsX30 : List Cond := u_ws RX3 TX3 4
theorem nmX3 : ∀ a, a < 4 → ∀ b, b < 4 → a ≠ b → (TX3 a).2.1 ≠ (TX3 b).2.1 := by decide +kernel
theorem tyX3_ok : ∀ k, k < 4 → parseFieldDescriptor (TX3 k).2.2.1 = some (tyX3 k) := by decide +kernel
abbrev cX3_init : ByteArray := prog_5_method_1_code
def yX3_init : MethodName := ⟨RX3, "<init>", "(LFairRents$Plain;I)V"⟩
def RX4 : String := "FairRents$Law"
def TX4 : u_T := fun k => match k with
  | _ => ("FairRents$Law", "numbers", "[I", true)
def tyX4 : Nat → FieldType := fun k => match k with
  | _ => .array .int
abbrev wsX40 : List Cond := u_ws RX4 TX4 1
theorem nmX4 : ∀ a, a < 1 → ∀ b, b < 1 → a ≠ b → (TX4 a).2.1 ≠ (TX4 b).2.1 := by decide +kernel
theorem tyX4_ok : ∀ k, k < 1 → parseFieldDescriptor (TX4 k).2.2.1 = some (tyX4 k) := by decide +kernel
abbrev cX4_init : ByteArray := prog_6_method_1_code
def yX4_init : MethodName := ⟨RX4, "<init>", "([I)V"⟩
abbrev cX4_number : ByteArray := prog_6_method_2_code
def yX4_number : MethodName := ⟨RX4, "number", "(I)I"⟩
def RX5 : String := "FairRents$Letting"
def TX5 : u_T := fun k => match k with
  | 0 => ("FairRents$Letting", "sums", "[I", true)
  | 1 => ("FairRents$Letting", "number", "I", false)
  | 2 => ("FairRents$Letting", "first", "I", false)
  | 3 => ("FairRents$Letting", "rent", "I", false)
  | _ => ("FairRents$Letting", "paid", "I", false)
def tyX5 : Nat → FieldType := fun k => match k with
  | 0 => .array .int
  | 1 => .int
  | 2 => .int
  | 3 => .int
  | _ => .int
abbrev wsX50 : List Cond := u_ws RX5 TX5 5
theorem nmX5 : ∀ a, a < 5 → ∀ b, b < 5 → a ≠ b → (TX5 a).2.1 ≠ (TX5 b).2.1 := by decide +kernel
theorem tyX5_ok : ∀ k, k < 5 → parseFieldDescriptor (TX5 k).2.2.1 = some (tyX5 k) := by decide +kernel
abbrev cX5_init : ByteArray := prog_7_method_1_code
def yX5_init : MethodName := ⟨RX5, "<init>", "()V"⟩
abbrev cX5_isLet : ByteArray := prog_7_method_2_code
def yX5_isLet : MethodName := ⟨RX5, "isLet", "()Z"⟩
abbrev cX5_covers : ByteArray := prog_7_method_3_code
def yX5_covers : MethodName := ⟨RX5, "covers", "(I)Z"⟩
abbrev cX5_begin : ByteArray := prog_7_method_4_code
def yX5_begin : MethodName := ⟨RX5, "begin", "(II)V"⟩
abbrev cX5_take : ByteArray := prog_7_method_5_code
def yX5_take : MethodName := ⟨RX5, "take", "(II)V"⟩
abbrev cX5_paidOn : ByteArray := prog_7_method_6_code
def yX5_paidOn : MethodName := ⟨RX5, "paidOn", "(I)I"⟩
def RX6 : String := "FairRents$Like"
def TX6 : u_T := fun k => match k with
  | 0 => ("FairRents$Like", "area", "I", true)
  | 1 => ("FairRents$Like", "points", "I", true)
  | 2 => ("FairRents$Like", "rent", "I", true)
  | 3 => ("FairRents$Like", "day", "I", true)
  | _ => ("FairRents$Like", "struck", "Z", false)
def tyX6 : Nat → FieldType := fun k => match k with
  | 0 => .int
  | 1 => .int
  | 2 => .int
  | 3 => .int
  | _ => .boolean
abbrev wsX60 : List Cond := u_ws RX6 TX6 5
theorem nmX6 : ∀ a, a < 5 → ∀ b, b < 5 → a ≠ b → (TX6 a).2.1 ≠ (TX6 b).2.1 := by decide +kernel
theorem tyX6_ok : ∀ k, k < 5 → parseFieldDescriptor (TX6 k).2.2.1 = some (tyX6 k) := by decide +kernel
abbrev cX6_init : ByteArray := prog_8_method_1_code
def yX6_init : MethodName := ⟨RX6, "<init>", "(IIII)V"⟩
abbrev cX6_countsFor : ByteArray := prog_8_method_2_code
def yX6_countsFor : MethodName := ⟨RX6, "countsFor", "(II)Z"⟩
abbrev cX6_putRight : ByteArray := prog_8_method_3_code
def yX6_putRight : MethodName := ⟨RX6, "putRight", "(II)I"⟩
def RX7 : String := "FairRents$Old"
def TX7 : u_T := fun k => match k with
  | 0 => ("FairRents$Flat", "floor", "I", true)
  | _ => ("FairRents$Plain", "rooms", "I", true)
def tyX7 : Nat → FieldType := fun k => match k with
  | 0 => .int
  | _ => .int
abbrev wsX70 : List Cond := u_ws RX7 TX7 2
theorem nmX7 : ∀ a, a < 2 → ∀ b, b < 2 → a ≠ b → (TX7 a).2.1 ≠ (TX7 b).2.1 := by decide +kernel
theorem tyX7_ok : ∀ k, k < 2 → parseFieldDescriptor (TX7 k).2.2.1 = some (tyX7 k) := by decide +kernel
abbrev cX7_init : ByteArray := prog_9_method_1_code
def yX7_init : MethodName := ⟨RX7, "<init>", "(II)V"⟩
abbrev cX7_worth : ByteArray := prog_9_method_2_code
def yX7_worth : MethodName := ⟨RX7, "worth", "()I"⟩
abbrev cX7_marks : ByteArray := prog_9_method_3_code
def yX7_marks : MethodName := ⟨RX7, "marks", "()I"⟩
def RX8 : String := "FairRents$Plain"
def TX8 : u_T := fun k => match k with
  | _ => ("FairRents$Plain", "rooms", "I", true)
def tyX8 : Nat → FieldType := fun k => match k with
  | _ => .int
abbrev wsX80 : List Cond := u_ws RX8 TX8 1
theorem nmX8 : ∀ a, a < 1 → ∀ b, b < 1 → a ≠ b → (TX8 a).2.1 ≠ (TX8 b).2.1 := by decide +kernel
theorem tyX8_ok : ∀ k, k < 1 → parseFieldDescriptor (TX8 k).2.2.1 = some (tyX8 k) := by decide +kernel
abbrev cX8_init : ByteArray := prog_10_method_1_code
def yX8_init : MethodName := ⟨RX8, "<init>", "(I)V"⟩
abbrev cX8_worth : ByteArray := prog_10_method_2_code
def yX8_worth : MethodName := ⟨RX8, "worth", "()I"⟩
abbrev cX8_marks : ByteArray := prog_10_method_3_code
def yX8_marks : MethodName := ⟨RX8, "marks", "()I"⟩
def RX9 : String := "FairRents"
def TX9 : u_T := fun k => match k with
  | 0 => ("FairRents", "homes", "[LFairRents$Home;", true)
  | 1 => ("FairRents", "likes", "[LFairRents$Like;", true)
  | 2 => ("FairRents", "entries", "[LFairRents$Entry;", true)
  | 3 => ("FairRents", "laws", "[LFairRents$Law;", true)
  | 4 => ("FairRents", "firstLaw", "LFairRents$Law;", true)
  | 5 => ("FairRents", "heads", "LFairRents$Heads;", true)
  | 6 => ("FairRents", "dues", "[I", true)
  | 7 => ("FairRents", "homesMade", "I", false)
  | 8 => ("FairRents", "likesTold", "I", false)
  | 9 => ("FairRents", "entriesMade", "I", false)
  | 10 => ("FairRents", "today", "I", false)
  | _ => ("FairRents", "traced", "J", false)
def tyX9 : Nat → FieldType := fun k => match k with
  | 0 => .array (.object "FairRents$Home")
  | 1 => .array (.object "FairRents$Like")
  | 2 => .array (.object "FairRents$Entry")
  | 3 => .array (.object "FairRents$Law")
  | 4 => .object "FairRents$Law"
  | 5 => .object "FairRents$Heads"
  | 6 => .array .int
  | 7 => .int
  | 8 => .int
  | 9 => .int
  | 10 => .int
  | _ => .long
abbrev wsX90 : List Cond := u_ws RX9 TX9 12
theorem nmX9 : ∀ a, a < 12 → ∀ b, b < 12 → a ≠ b → (TX9 a).2.1 ≠ (TX9 b).2.1 := by decide +kernel
theorem tyX9_ok : ∀ k, k < 12 → parseFieldDescriptor (TX9 k).2.2.1 = some (tyX9 k) := by decide +kernel
abbrev cX9_init : ByteArray := prog_1_method_1_code
def yX9_init : MethodName := ⟨RX9, "<init>", "()V"⟩
abbrev cX9_home : ByteArray := prog_1_method_2_code
def yX9_home : MethodName := ⟨RX9, "home", "(IIII)I"⟩
abbrev cX9_faults : ByteArray := prog_1_method_3_code
def yX9_faults : MethodName := ⟨RX9, "faults", "(II)I"⟩
abbrev cX9_points : ByteArray := prog_1_method_4_code
def yX9_points : MethodName := ⟨RX9, "points", "(I)I"⟩
abbrev cX9_law : ByteArray := prog_1_method_5_code
def yX9_law : MethodName := ⟨RX9, "law", "(IIIIIIII)I"⟩
abbrev cX9_force : ByteArray := prog_1_method_6_code
def yX9_force : MethodName := ⟨RX9, "force", "(II)I"⟩
abbrev cX9_like : ByteArray := prog_1_method_7_code
def yX9_like : MethodName := ⟨RX9, "like", "(III)I"⟩
abbrev cX9_strike : ByteArray := prog_1_method_8_code
def yX9_strike : MethodName := ⟨RX9, "strike", "(I)I"⟩
abbrev cX9_days : ByteArray := prog_1_method_9_code
def yX9_days : MethodName := ⟨RX9, "days", "(I)I"⟩
abbrev cX9_head : ByteArray := prog_1_method_10_code
def yX9_head : MethodName := ⟨RX9, "head", "(III)I"⟩
abbrev cX9_let : ByteArray := prog_1_method_11_code
def yX9_let : MethodName := ⟨RX9, "let", "(II)I"⟩
abbrev cX9_ask : ByteArray := prog_1_method_12_code
def yX9_ask : MethodName := ⟨RX9, "ask", "(I)I"⟩
abbrev cX9_open : ByteArray := prog_1_method_13_code
def yX9_open : MethodName := ⟨RX9, "open", "(I)I"⟩
abbrev cX9_appeal : ByteArray := prog_1_method_14_code
def yX9_appeal : MethodName := ⟨RX9, "appeal", "(I)I"⟩
abbrev cX9_entry : ByteArray := prog_1_method_15_code
def yX9_entry : MethodName := ⟨RX9, "entry", "(II)I"⟩
abbrev cX9_latest : ByteArray := prog_1_method_16_code
def yX9_latest : MethodName := ⟨RX9, "latest", "(I)I"⟩
abbrev cX9_due : ByteArray := prog_1_method_17_code
def yX9_due : MethodName := ⟨RX9, "due", "(II)I"⟩
abbrev cX9_pay : ByteArray := prog_1_method_18_code
def yX9_pay : MethodName := ⟨RX9, "pay", "(II)I"⟩
abbrev cX9_owed : ByteArray := prog_1_method_19_code
def yX9_owed : MethodName := ⟨RX9, "owed", "(II)I"⟩
abbrev cX9_count : ByteArray := prog_1_method_20_code
def yX9_count : MethodName := ⟨RX9, "count", "(I)I"⟩
abbrev cX9_trace : ByteArray := prog_1_method_21_code
def yX9_trace : MethodName := ⟨RX9, "trace", "()J"⟩
abbrev cX9_within : ByteArray := prog_1_method_22_code
def yX9_within : MethodName := ⟨RX9, "within", "(III)Z"⟩
abbrev cX9_lawful : ByteArray := prog_1_method_23_code
def yX9_lawful : MethodName := ⟨RX9, "lawful", "([I)Z"⟩
abbrev cX9_bodyOf : ByteArray := prog_1_method_24_code
def yX9_bodyOf : MethodName := ⟨RX9, "bodyOf", "(III)LFairRents$Plain;"⟩
abbrev cX9_homeAt : ByteArray := prog_1_method_25_code
def yX9_homeAt : MethodName := ⟨RX9, "homeAt", "(I)LFairRents$Home;"⟩
abbrev cX9_entryAt : ByteArray := prog_1_method_26_code
def yX9_entryAt : MethodName := ⟨RX9, "entryAt", "(I)LFairRents$Entry;"⟩
abbrev cX9_lawOn : ByteArray := prog_1_method_27_code
def yX9_lawOn : MethodName := ⟨RX9, "lawOn", "(I)LFairRents$Law;"⟩
abbrev cX9_latestStanding : ByteArray := prog_1_method_28_code
def yX9_latestStanding : MethodName := ⟨RX9, "latestStanding", "(I)I"⟩
abbrev cX9_barEnd : ByteArray := prog_1_method_29_code
def yX9_barEnd : MethodName := ⟨RX9, "barEnd", "(I)I"⟩
abbrev cX9_workDues : ByteArray := prog_1_method_30_code
def yX9_workDues : MethodName := ⟨RX9, "workDues", "(ILFairRents$Letting;I)I"⟩
abbrev cX9_homesLet : ByteArray := prog_1_method_31_code
def yX9_homesLet : MethodName := ⟨RX9, "homesLet", "()I"⟩
abbrev cX9_lawsTold : ByteArray := prog_1_method_32_code
def yX9_lawsTold : MethodName := ⟨RX9, "lawsTold", "()I"⟩
def RX10 : String := "FairRentsModel"
def TX10 : u_T := fun k => match k with
  | 0 => ("FairRentsModel", "today", "I", false)
  | 1 => ("FairRentsModel", "homes", "I", false)
  | 2 => ("FairRentsModel", "kind", "[I", true)
  | 3 => ("FairRentsModel", "area", "[I", true)
  | 4 => ("FairRentsModel", "rooms", "[I", true)
  | 5 => ("FairRentsModel", "floor", "[I", true)
  | 6 => ("FairRentsModel", "faults", "[I", true)
  | 7 => ("FairRentsModel", "trace", "J", false)
  | 8 => ("FairRentsModel", "laws", "[I", true)
  | 9 => ("FairRentsModel", "isTold", "[Z", true)
  | 10 => ("FairRentsModel", "likes", "I", false)
  | 11 => ("FairRentsModel", "likeArea", "[I", true)
  | 12 => ("FairRentsModel", "likePoints", "[I", true)
  | 13 => ("FairRentsModel", "likeRent", "[I", true)
  | 14 => ("FairRentsModel", "likeDay", "[I", true)
  | 15 => ("FairRentsModel", "isStruck", "[Z", true)
  | 16 => ("FairRentsModel", "letDay", "[I", true)
  | 17 => ("FairRentsModel", "letRent", "[I", true)
  | 18 => ("FairRentsModel", "letting", "[I", true)
  | 19 => ("FairRentsModel", "paid", "[I", true)
  | 20 => ("FairRentsModel", "entries", "I", false)
  | 21 => ("FairRentsModel", "entryHome", "[I", true)
  | 22 => ("FairRentsModel", "entryDay", "[I", true)
  | 23 => ("FairRentsModel", "entryRent", "[I", true)
  | 24 => ("FairRentsModel", "entryHead", "[I", true)
  | 25 => ("FairRentsModel", "entryLetting", "[I", true)
  | 26 => ("FairRentsModel", "isGone", "[Z", true)
  | 27 => ("FairRentsModel", "right", "[I", true)
  | 28 => ("FairRentsModel", "counted", "I", false)
  | _ => ("FairRentsModel", "dues", "[I", true)
def tyX10 : Nat → FieldType := fun k => match k with
  | 0 => .int
  | 1 => .int
  | 2 => .array .int
  | 3 => .array .int
  | 4 => .array .int
  | 5 => .array .int
  | 6 => .array .int
  | 7 => .long
  | 8 => .array .int
  | 9 => .array .boolean
  | 10 => .int
  | 11 => .array .int
  | 12 => .array .int
  | 13 => .array .int
  | 14 => .array .int
  | 15 => .array .boolean
  | 16 => .array .int
  | 17 => .array .int
  | 18 => .array .int
  | 19 => .array .int
  | 20 => .int
  | 21 => .array .int
  | 22 => .array .int
  | 23 => .array .int
  | 24 => .array .int
  | 25 => .array .int
  | 26 => .array .boolean
  | 27 => .array .int
  | 28 => .int
  | _ => .array .int
abbrev wsX100 : List Cond := u_ws RX10 TX10 30
theorem nmX10 : ∀ a, a < 30 → ∀ b, b < 30 → a ≠ b → (TX10 a).2.1 ≠ (TX10 b).2.1 := by decide +kernel
theorem tyX10_ok : ∀ k, k < 30 → parseFieldDescriptor (TX10 k).2.2.1 = some (tyX10 k) := by decide +kernel
abbrev cX10_init : ByteArray := prog_12_method_1_code
def yX10_init : MethodName := ⟨RX10, "<init>", "()V"⟩
abbrev cX10_in : ByteArray := prog_12_method_3_code
def yX10_in : MethodName := ⟨RX10, "in", "(III)Z"⟩
abbrev cX10_isHome : ByteArray := prog_12_method_4_code
def yX10_isHome : MethodName := ⟨RX10, "isHome", "(I)Z"⟩
abbrev cX10_home : ByteArray := prog_12_method_5_code
def yX10_home : MethodName := ⟨RX10, "home", "(IIII)I"⟩
abbrev cX10_faults : ByteArray := prog_12_method_6_code
def yX10_faults : MethodName := ⟨RX10, "faults", "(II)I"⟩
abbrev cX10_pointsOf : ByteArray := prog_12_method_7_code
def yX10_pointsOf : MethodName := ⟨RX10, "pointsOf", "(I)I"⟩
abbrev cX10_points : ByteArray := prog_12_method_8_code
def yX10_points : MethodName := ⟨RX10, "points", "(I)I"⟩
abbrev cX10_law : ByteArray := prog_12_method_9_code
def yX10_law : MethodName := ⟨RX10, "law", "(IIIIIIII)I"⟩
abbrev cX10_yearOf : ByteArray := prog_12_method_10_code
def yX10_yearOf : MethodName := ⟨RX10, "yearOf", "(I)I"⟩
abbrev cX10_lawOf : ByteArray := prog_12_method_11_code
def yX10_lawOf : MethodName := ⟨RX10, "lawOf", "(II)I"⟩
abbrev cX10_force : ByteArray := prog_12_method_12_code
def yX10_force : MethodName := ⟨RX10, "force", "(II)I"⟩
abbrev cX10_like : ByteArray := prog_12_method_13_code
def yX10_like : MethodName := ⟨RX10, "like", "(III)I"⟩
abbrev cX10_strike : ByteArray := prog_12_method_14_code
def yX10_strike : MethodName := ⟨RX10, "strike", "(I)I"⟩
abbrev cX10_days : ByteArray := prog_12_method_15_code
def yX10_days : MethodName := ⟨RX10, "days", "(I)I"⟩
abbrev cX10_collect : ByteArray := prog_12_method_16_code
def yX10_collect : MethodName := ⟨RX10, "collect", "(II)V"⟩
abbrev cX10_headOf : ByteArray := prog_12_method_17_code
def yX10_headOf : MethodName := ⟨RX10, "headOf", "(III)I"⟩
abbrev cX10_head : ByteArray := prog_12_method_18_code
def yX10_head : MethodName := ⟨RX10, "head", "(III)I"⟩
abbrev cX10_let : ByteArray := prog_12_method_19_code
def yX10_let : MethodName := ⟨RX10, "let", "(II)I"⟩
abbrev cX10_latestOf : ByteArray := prog_12_method_20_code
def yX10_latestOf : MethodName := ⟨RX10, "latestOf", "(I)I"⟩
abbrev cX10_openOf : ByteArray := prog_12_method_21_code
def yX10_openOf : MethodName := ⟨RX10, "openOf", "(I)I"⟩
abbrev cX10_ask : ByteArray := prog_12_method_22_code
def yX10_ask : MethodName := ⟨RX10, "ask", "(I)I"⟩
abbrev cX10_open : ByteArray := prog_12_method_23_code
def yX10_open : MethodName := ⟨RX10, "open", "(I)I"⟩
abbrev cX10_appeal : ByteArray := prog_12_method_24_code
def yX10_appeal : MethodName := ⟨RX10, "appeal", "(I)I"⟩
abbrev cX10_entry : ByteArray := prog_12_method_25_code
def yX10_entry : MethodName := ⟨RX10, "entry", "(II)I"⟩
abbrev cX10_latest : ByteArray := prog_12_method_26_code
def yX10_latest : MethodName := ⟨RX10, "latest", "(I)I"⟩
abbrev cX10_work : ByteArray := prog_12_method_27_code
def yX10_work : MethodName := ⟨RX10, "work", "(II)V"⟩
abbrev cX10_due : ByteArray := prog_12_method_28_code
def yX10_due : MethodName := ⟨RX10, "due", "(II)I"⟩
abbrev cX10_paidBy : ByteArray := prog_12_method_29_code
def yX10_paidBy : MethodName := ⟨RX10, "paidBy", "(II)I"⟩
abbrev cX10_pay : ByteArray := prog_12_method_30_code
def yX10_pay : MethodName := ⟨RX10, "pay", "(II)I"⟩
abbrev cX10_owed : ByteArray := prog_12_method_31_code
def yX10_owed : MethodName := ⟨RX10, "owed", "(II)I"⟩
abbrev cX10_count : ByteArray := prog_12_method_32_code
def yX10_count : MethodName := ⟨RX10, "count", "(I)I"⟩
abbrev cX10_trace : ByteArray := prog_12_method_33_code
def yX10_trace : MethodName := ⟨RX10, "trace", "()J"⟩
def RJ9 : String := "java/lang/Math"
def TJ9 : u_T := fun k => match k with
  | _ => ("", "", "", false)
def tyJ9 : Nat → FieldType := fun k => match k with
  | _ => .int
abbrev wsJ90 : List Cond := u_ws RJ9 TJ9 0
theorem nmJ9 : ∀ a, a < 0 → ∀ b, b < 0 → a ≠ b → (TJ9 a).2.1 ≠ (TJ9 b).2.1 := by decide +kernel
theorem tyJ9_ok : ∀ k, k < 0 → parseFieldDescriptor (TJ9 k).2.2.1 = some (tyJ9 k) := by decide +kernel
abbrev cJ9_floorDiv_7cf53 : ByteArray := prog_13_method_47_code
def yJ9_floorDiv_7cf53 : MethodName := ⟨RJ9, "floorDiv", "(II)I"⟩
abbrev cJ9_max_7cf53 : ByteArray := prog_13_method_65_code
def yJ9_max_7cf53 : MethodName := ⟨RJ9, "max", "(II)I"⟩
abbrev cJ9_min_7cf53 : ByteArray := prog_13_method_69_code
def yJ9_min_7cf53 : MethodName := ⟨RJ9, "min", "(II)I"⟩
def RL : String := "FairRentsLaw"
abbrev cL_law : ByteArray := code
def yL_law : MethodName := ⟨RL, "law", "([I)Z"⟩
def wsX2_fairRent : List Cond := .code yX2_fairRent cX2_fairRent 1 (some .int) :: ([.fieldLink RX2 57 "FairRents$Heads" "middle" "I", .fieldLink RX2 60 "FairRents$Heads" "scarcity" "I", .fieldLink RX2 66 "FairRents$Heads" "repairs" "I", .methodLink RX2 69 Lib.Math.max.name, .static Lib.Math.max.name, .initialized "java/lang/Math", .code Lib.Math.max.name Lib.Math.max.code 2 (some .int)] ++ wsX20)
def wsX0_init_r1 : List Cond := [Cond.methodLink RX0 3 objectInit, Cond.instanceMethod objectInit, Cond.code objectInit ⟨#[0xb1]⟩ 1 none, Cond.fieldLink RX0 9 "FairRents$Entry" "home" "I", Cond.fieldLink RX0 15 "FairRents$Entry" "letting" "I", Cond.fieldLink RX0 18 "FairRents$Entry" "day" "I", Cond.fieldLink RX0 21 "FairRents$Entry" "law" "LFairRents$Law;", Cond.fieldLink RX0 31 "FairRents$Entry" "rent" "I", Cond.fieldLink RX0 34 "FairRents$Heads" "middle" "I", Cond.fieldLink RX0 37 "FairRents$Entry" "middle" "I", Cond.fieldLink RX0 38 "FairRents$Heads" "scarcity" "I", Cond.fieldLink RX0 41 "FairRents$Entry" "scarcity" "I", Cond.fieldLink RX0 42 "FairRents$Heads" "repairs" "I", Cond.fieldLink RX0 45 "FairRents$Entry" "repairs" "I", Cond.fieldLink RX0 46 "FairRents$Entry" "stands" "Z", Cond.methodLink RX0 25 yX2_fairRent, Cond.instanceMethod yX2_fairRent, Cond.selects RX2 yX2_fairRent yX2_fairRent, Cond.initialized RX2, Cond.code yX2_fairRent cX2_fairRent 1 (some .int), Cond.fieldLink RX2 57 "FairRents$Heads" "middle" "I", Cond.fieldLink RX2 60 "FairRents$Heads" "scarcity" "I", Cond.fieldLink RX2 66 "FairRents$Heads" "repairs" "I", Cond.methodLink RX2 69 Lib.Math.max.name]
def wsX0_init_r2 : List Cond := [Cond.static Lib.Math.max.name, Cond.initialized "java/lang/Math", Cond.code Lib.Math.max.name Lib.Math.max.code 2 (some .int)]
def wsX0_init : List Cond := .code yX0_init cX0_init 6 none :: ((wsX0_init_r1 ++ wsX0_init_r2) ++ wsX00 ++ wsX20)
def wsX0_binds : List Cond := .code yX0_binds cX0_binds 3 (some .boolean) :: ([.fieldLink RX0 46 "FairRents$Entry" "stands" "Z", .fieldLink RX0 9 "FairRents$Entry" "home" "I", .fieldLink RX0 15 "FairRents$Entry" "letting" "I"] ++ wsX00)
def wsX9_within : List Cond := .code yX9_within cX9_within 3 (some .boolean) :: ([])
def wsX4_number : List Cond := .code yX4_number cX4_number 2 (some .int) :: ([.fieldLink RX4 9 "FairRents$Law" "numbers" "[I", .static yX9_within, .initialized RX9, .code yX9_within cX9_within 3 (some .boolean)] ++ wsX40)
def wsX0_steppedFrom : List Cond := .code yX0_steppedFrom cX0_steppedFrom 4 (some .int) :: ([.fieldLink RX0 31 "FairRents$Entry" "rent" "I", .fieldLink RX0 18 "FairRents$Entry" "day" "I", .fieldLink RX0 21 "FairRents$Entry" "law" "LFairRents$Law;", .methodLink RX0 56 Lib.Math.min.name, .static Lib.Math.min.name, .initialized "java/lang/Math", .code Lib.Math.min.name Lib.Math.min.code 2 (some .int), .methodLink RX0 50 yX4_number, .instanceMethod yX4_number, .selects RX4 yX4_number yX4_number, .initialized RX4, .code yX4_number cX4_number 2 (some .int), .fieldLink RX4 9 "FairRents$Law" "numbers" "[I", .static yX9_within, .initialized RX9, .code yX9_within cX9_within 3 (some .boolean)] ++ wsX00 ++ wsX40)
def wsX8_init : List Cond := .code yX8_init cX8_init 2 none :: ([.methodLink RX8 1 objectInit, .instanceMethod objectInit, .code objectInit ⟨#[0xb1]⟩ 1 none, .fieldLink RX8 7 "FairRents$Plain" "rooms" "I"] ++ wsX10 ++ wsX70 ++ wsX80)
def wsX1_init : List Cond := .code yX1_init cX1_init 3 none :: ([.fieldLink RX1 7 "FairRents$Flat" "floor" "I", .methodLink RX1 1 yX8_init, .instanceMethod yX8_init, .initialized RX8, .code yX8_init cX8_init 2 none, .methodLink RX8 1 objectInit, .instanceMethod objectInit, .code objectInit ⟨#[0xb1]⟩ 1 none, .fieldLink RX8 7 "FairRents$Plain" "rooms" "I"] ++ wsX10 ++ wsX70 ++ wsX80)
def wsX8_worth : List Cond := .code yX8_worth cX8_worth 1 (some .int) :: ([.fieldLink RX8 7 "FairRents$Plain" "rooms" "I"] ++ wsX10 ++ wsX70 ++ wsX80)
def wsX1_worth : List Cond := .code yX1_worth cX1_worth 1 (some .int) :: ([.fieldLink RX1 7 "FairRents$Flat" "floor" "I", .methodLink RX1 13 yX8_worth, .sameMethod "FairRents$Plain" "FairRents$Plain" "worth" "()I", .superclass RX1 RX8, .instanceMethod yX8_worth, .initialized RX8, .code yX8_worth cX8_worth 1 (some .int), .fieldLink RX8 7 "FairRents$Plain" "rooms" "I"] ++ wsX10 ++ wsX70 ++ wsX80)
def wsX8_marks : List Cond := .code yX8_marks cX8_marks 1 (some .int) :: ([])
def wsX1_marks : List Cond := .code yX1_marks cX1_marks 1 (some .int) :: ([.methodLink RX1 17 yX8_marks, .sameMethod "FairRents$Plain" "FairRents$Plain" "marks" "()I", .superclass RX1 RX8, .instanceMethod yX8_marks, .initialized RX8, .code yX8_marks cX8_marks 1 (some .int)])
def wsX2_init : List Cond := .code yX2_init cX2_init 1 none :: ([.methodLink RX2 3 objectInit, .instanceMethod objectInit, .code objectInit ⟨#[0xb1]⟩ 1 none, .arrayClass .int, .fieldLink RX2 9 "FairRents$Heads" "ordered" "[I"] ++ wsX20)
def wsJ9_floorDiv_7cf53 : List Cond := .code yJ9_floorDiv_7cf53 cJ9_floorDiv_7cf53 3 (some .int) :: ([])
def wsX7_worth : List Cond := .code yX7_worth cX7_worth 2 (some .int) :: ([.methodLink RX7 7 yX1_worth, .sameMethod "FairRents$Flat" "FairRents$Flat" "worth" "()I", .superclass RX7 RX1, .instanceMethod yX1_worth, .initialized RX1, .code yX1_worth cX1_worth 1 (some .int), .fieldLink RX1 7 "FairRents$Flat" "floor" "I", .methodLink RX1 13 yX8_worth, .sameMethod "FairRents$Plain" "FairRents$Plain" "worth" "()I", .superclass RX1 RX8, .instanceMethod yX8_worth, .initialized RX8, .code yX8_worth cX8_worth 1 (some .int), .fieldLink RX8 7 "FairRents$Plain" "rooms" "I", .methodLink RX7 11 yJ9_floorDiv_7cf53, .static yJ9_floorDiv_7cf53, .initialized RJ9, .code yJ9_floorDiv_7cf53 cJ9_floorDiv_7cf53 3 (some .int)] ++ wsX10 ++ wsX70 ++ wsX80)
def wsX6_countsFor : List Cond := .code yX6_countsFor cX6_countsFor 3 (some .boolean) :: ([.fieldLink RX6 22 "FairRents$Like" "struck" "Z", .fieldLink RX6 7 "FairRents$Like" "area" "I", .fieldLink RX6 19 "FairRents$Like" "day" "I"] ++ wsX60)
def wsX6_putRight : List Cond := .code yX6_putRight cX6_putRight 3 (some .int) :: ([.fieldLink RX6 16 "FairRents$Like" "rent" "I", .fieldLink RX6 13 "FairRents$Like" "points" "I"] ++ wsX60)
def wsX2_insert : List Cond := .code yX2_insert cX2_insert 3 none :: ([.fieldLink RX2 15 "FairRents$Heads" "counted" "I", .fieldLink RX2 9 "FairRents$Heads" "ordered" "[I", .static yX9_within, .initialized RX9, .code yX9_within cX9_within 3 (some .boolean)] ++ wsX20)
def wsX2_lowerMiddle : List Cond := .code yX2_lowerMiddle cX2_lowerMiddle 2 (some .int) :: ([.fieldLink RX2 15 "FairRents$Heads" "counted" "I", .fieldLink RX2 9 "FairRents$Heads" "ordered" "[I"] ++ wsX20)
def wsX2_work_r1 : List Cond := [Cond.fieldLink RX2 15 "FairRents$Heads" "counted" "I", Cond.fieldLink RX2 19 "FairRents$Home" "body" "LFairRents$Plain;", Cond.fieldLink RX2 31 "FairRents$Home" "area" "I", Cond.fieldLink RX2 57 "FairRents$Heads" "middle" "I", Cond.fieldLink RX2 60 "FairRents$Heads" "scarcity" "I", Cond.fieldLink RX2 63 "FairRents$Home" "faults" "I", Cond.fieldLink RX2 66 "FairRents$Heads" "repairs" "I", Cond.methodLink RX2 25 ⟨"FairRents$Plain", "worth", "()I"⟩, Cond.sameMethod "FairRents$Plain" "FairRents$Plain" "worth" "()I", Cond.instanceMethod ⟨"FairRents$Plain", "worth", "()I"⟩, Cond.selects RX1 ⟨"FairRents$Plain", "worth", "()I"⟩ yX1_worth, Cond.instanceMethod yX1_worth, Cond.initialized RX1, Cond.code yX1_worth cX1_worth 1 (some .int), Cond.fieldLink RX1 7 "FairRents$Flat" "floor" "I", Cond.methodLink RX1 13 yX8_worth, Cond.superclass RX1 RX8, Cond.instanceMethod yX8_worth, Cond.initialized RX8, Cond.code yX8_worth cX8_worth 1 (some .int), Cond.fieldLink RX8 7 "FairRents$Plain" "rooms" "I", Cond.selects RX7 ⟨"FairRents$Plain", "worth", "()I"⟩ yX7_worth, Cond.instanceMethod yX7_worth, Cond.initialized RX7]
def wsX2_work_r2 : List Cond := [Cond.code yX7_worth cX7_worth 2 (some .int), Cond.methodLink RX7 7 yX1_worth, Cond.sameMethod "FairRents$Flat" "FairRents$Flat" "worth" "()I", Cond.superclass RX7 RX1, Cond.methodLink RX7 11 yJ9_floorDiv_7cf53, Cond.static yJ9_floorDiv_7cf53, Cond.initialized RJ9, Cond.code yJ9_floorDiv_7cf53 cJ9_floorDiv_7cf53 3 (some .int), Cond.methodLink RX2 25 yX8_worth, Cond.selects RX8 yX8_worth yX8_worth, Cond.methodLink RX2 34 yX6_countsFor, Cond.instanceMethod yX6_countsFor, Cond.selects RX6 yX6_countsFor yX6_countsFor, Cond.initialized RX6, Cond.code yX6_countsFor cX6_countsFor 3 (some .boolean), Cond.fieldLink RX6 22 "FairRents$Like" "struck" "Z", Cond.fieldLink RX6 7 "FairRents$Like" "area" "I", Cond.fieldLink RX6 19 "FairRents$Like" "day" "I", Cond.methodLink RX2 40 yX4_number, Cond.instanceMethod yX4_number, Cond.selects RX4 yX4_number yX4_number, Cond.initialized RX4, Cond.code yX4_number cX4_number 2 (some .int), Cond.fieldLink RX4 9 "FairRents$Law" "numbers" "[I"]
def wsX2_work_r3 : List Cond := [Cond.static yX9_within, Cond.initialized RX9, Cond.code yX9_within cX9_within 3 (some .boolean), Cond.methodLink RX2 46 yX6_putRight, Cond.instanceMethod yX6_putRight, Cond.selects RX6 yX6_putRight yX6_putRight, Cond.code yX6_putRight cX6_putRight 3 (some .int), Cond.fieldLink RX6 16 "FairRents$Like" "rent" "I", Cond.fieldLink RX6 13 "FairRents$Like" "points" "I", Cond.methodLink RX2 50 yX2_insert, Cond.instanceMethod yX2_insert, Cond.selects RX2 yX2_insert yX2_insert, Cond.initialized RX2, Cond.code yX2_insert cX2_insert 3 none, Cond.fieldLink RX2 9 "FairRents$Heads" "ordered" "[I", Cond.methodLink RX2 54 yX2_lowerMiddle, Cond.instanceMethod yX2_lowerMiddle, Cond.selects RX2 yX2_lowerMiddle yX2_lowerMiddle, Cond.code yX2_lowerMiddle cX2_lowerMiddle 2 (some .int)]
def wsX2_work : List Cond := .code yX2_work cX2_work 10 none :: ((wsX2_work_r1 ++ (wsX2_work_r2 ++ wsX2_work_r3)) ++ wsX20 ++ wsX30 ++ wsX10 ++ wsX70 ++ wsX80 ++ wsX60 ++ wsX40)
def wsX5_init : List Cond := .code yX5_init cX5_init 1 none :: ([.methodLink RX5 3 objectInit, .instanceMethod objectInit, .code objectInit ⟨#[0xb1]⟩ 1 none, .arrayClass .int, .fieldLink RX5 9 "FairRents$Letting" "sums" "[I"] ++ wsX50)
def wsX3_init : List Cond := .code yX3_init cX3_init 3 none :: ([.methodLink RX3 1 objectInit, .instanceMethod objectInit, .code objectInit ⟨#[0xb1]⟩ 1 none, .fieldLink RX3 7 "FairRents$Home" "body" "LFairRents$Plain;", .fieldLink RX3 13 "FairRents$Home" "area" "I", .classLink RX3 17 RX5, .instantiable RX5 5, .initialized RX5, .fieldLink RX3 20 "FairRents$Home" "letting" "LFairRents$Letting;", .instanceMethod yX5_init, .code yX5_init cX5_init 1 none, .methodLink RX5 3 objectInit, .arrayClass .int, .fieldLink RX5 9 "FairRents$Letting" "sums" "[I"] ++ wsX30 ++ wsX50)
def wsX4_init : List Cond := .code yX4_init cX4_init 2 none :: ([.methodLink RX4 3 objectInit, .instanceMethod objectInit, .code objectInit ⟨#[0xb1]⟩ 1 none, .fieldLink RX4 9 "FairRents$Law" "numbers" "[I"] ++ wsX40)
def wsX5_isLet : List Cond := .code yX5_isLet cX5_isLet 1 (some .boolean) :: ([.fieldLink RX5 15 "FairRents$Letting" "number" "I"] ++ wsX50)
def wsX5_covers : List Cond := .code yX5_covers cX5_covers 2 (some .boolean) :: ([.fieldLink RX5 23 "FairRents$Letting" "first" "I", .methodLink RX5 19 yX5_isLet, .instanceMethod yX5_isLet, .selects RX5 yX5_isLet yX5_isLet, .initialized RX5, .code yX5_isLet cX5_isLet 1 (some .boolean), .fieldLink RX5 15 "FairRents$Letting" "number" "I"] ++ wsX50)
def wsX5_begin : List Cond := .code yX5_begin cX5_begin 4 none :: ([.fieldLink RX5 15 "FairRents$Letting" "number" "I", .fieldLink RX5 23 "FairRents$Letting" "first" "I", .fieldLink RX5 26 "FairRents$Letting" "rent" "I", .fieldLink RX5 29 "FairRents$Letting" "paid" "I", .fieldLink RX5 9 "FairRents$Letting" "sums" "[I"] ++ wsX50)
def wsX5_take : List Cond := .code yX5_take cX5_take 3 none :: ([.fieldLink RX5 9 "FairRents$Letting" "sums" "[I", .fieldLink RX5 29 "FairRents$Letting" "paid" "I", .static yX9_within, .initialized RX9, .code yX9_within cX9_within 3 (some .boolean)] ++ wsX50)
def wsX5_paidOn : List Cond := .code yX5_paidOn cX5_paidOn 2 (some .int) :: ([.fieldLink RX5 9 "FairRents$Letting" "sums" "[I", .static yX9_within, .initialized RX9, .code yX9_within cX9_within 3 (some .boolean)] ++ wsX50)
def wsX6_init : List Cond := .code yX6_init cX6_init 5 none :: ([.methodLink RX6 1 objectInit, .instanceMethod objectInit, .code objectInit ⟨#[0xb1]⟩ 1 none, .fieldLink RX6 7 "FairRents$Like" "area" "I", .fieldLink RX6 13 "FairRents$Like" "points" "I", .fieldLink RX6 16 "FairRents$Like" "rent" "I", .fieldLink RX6 19 "FairRents$Like" "day" "I"] ++ wsX60)
def wsX7_init : List Cond := .code yX7_init cX7_init 3 none :: ([.methodLink RX7 1 yX1_init, .instanceMethod yX1_init, .initialized RX1, .code yX1_init cX1_init 3 none, .fieldLink RX1 7 "FairRents$Flat" "floor" "I", .methodLink RX1 1 yX8_init, .instanceMethod yX8_init, .initialized RX8, .code yX8_init cX8_init 2 none, .methodLink RX8 1 objectInit, .instanceMethod objectInit, .code objectInit ⟨#[0xb1]⟩ 1 none, .fieldLink RX8 7 "FairRents$Plain" "rooms" "I"] ++ wsX10 ++ wsX70 ++ wsX80)
def wsX7_marks : List Cond := .code yX7_marks cX7_marks 1 (some .int) :: ([.methodLink RX7 17 yX1_marks, .sameMethod "FairRents$Flat" "FairRents$Flat" "marks" "()I", .superclass RX7 RX1, .instanceMethod yX1_marks, .initialized RX1, .code yX1_marks cX1_marks 1 (some .int), .methodLink RX1 17 yX8_marks, .sameMethod "FairRents$Plain" "FairRents$Plain" "marks" "()I", .superclass RX1 RX8, .instanceMethod yX8_marks, .initialized RX8, .code yX8_marks cX8_marks 1 (some .int)])
def wsX9_init_r1 : List Cond := [Cond.methodLink RX9 1 objectInit, Cond.instanceMethod objectInit, Cond.code objectInit ⟨#[0xb1]⟩ 1 none, Cond.classLink RX9 9 RX3, Cond.fieldLink RX9 11 "FairRents" "homes" "[LFairRents$Home;", Cond.classLink RX9 15 RX6, Cond.fieldLink RX9 17 "FairRents" "likes" "[LFairRents$Like;", Cond.classLink RX9 21 RX0, Cond.fieldLink RX9 23 "FairRents" "entries" "[LFairRents$Entry;", Cond.classLink RX9 27 RX4, Cond.fieldLink RX9 29 "FairRents" "laws" "[LFairRents$Law;", Cond.instantiable RX4 1, Cond.initialized RX4, Cond.arrayClass .int, Cond.fieldLink RX9 36 "FairRents" "firstLaw" "LFairRents$Law;", Cond.classLink RX9 40 RX2, Cond.instantiable RX2 5, Cond.initialized RX2, Cond.fieldLink RX9 43 "FairRents" "heads" "LFairRents$Heads;", Cond.fieldLink RX9 47 "FairRents" "dues" "[I", Cond.methodLink RX9 33 yX4_init, Cond.instanceMethod yX4_init, Cond.code yX4_init cX4_init 2 none, Cond.methodLink RX4 3 objectInit]
def wsX9_init_r2 : List Cond := [Cond.fieldLink RX4 9 "FairRents$Law" "numbers" "[I", Cond.instanceMethod yX2_init, Cond.code yX2_init cX2_init 1 none, Cond.methodLink RX2 3 objectInit, Cond.fieldLink RX2 9 "FairRents$Heads" "ordered" "[I"]
def wsX9_init : List Cond := .code yX9_init cX9_init 1 none :: ((wsX9_init_r1 ++ wsX9_init_r2) ++ wsX90 ++ wsX40 ++ wsX20)
def wsX9_bodyOf_r1 : List Cond := [Cond.classLink RX9 82 RX8, Cond.instantiable RX8 1, Cond.initialized RX8, Cond.classLink RX9 225 RX1, Cond.instantiable RX1 2, Cond.initialized RX1, Cond.classLink RX9 229 RX7, Cond.instantiable RX7 2, Cond.initialized RX7, Cond.methodLink RX9 222 yX8_init, Cond.instanceMethod yX8_init, Cond.code yX8_init cX8_init 2 none, Cond.methodLink RX8 1 objectInit, Cond.instanceMethod objectInit, Cond.code objectInit ⟨#[0xb1]⟩ 1 none, Cond.fieldLink RX8 7 "FairRents$Plain" "rooms" "I", Cond.methodLink RX9 227 yX1_init, Cond.instanceMethod yX1_init, Cond.code yX1_init cX1_init 3 none, Cond.fieldLink RX1 7 "FairRents$Flat" "floor" "I", Cond.methodLink RX1 1 yX8_init, Cond.methodLink RX9 231 yX7_init, Cond.instanceMethod yX7_init, Cond.code yX7_init cX7_init 3 none]
def wsX9_bodyOf_r2 : List Cond := [Cond.methodLink RX7 1 yX1_init]
def wsX9_bodyOf : List Cond := .code yX9_bodyOf cX9_bodyOf 3 (some (.object "FairRents$Plain")) :: ((wsX9_bodyOf_r1 ++ wsX9_bodyOf_r2) ++ wsX80 ++ wsX10 ++ wsX70)
def wsX9_home_r1 : List Cond := [Cond.fieldLink RX9 55 "FairRents" "homesMade" "I", Cond.fieldLink RX9 11 "FairRents" "homes" "[LFairRents$Home;", Cond.classLink RX9 9 RX3, Cond.instantiable RX3 4, Cond.initialized RX3, Cond.methodLink RX9 51 yX9_within, Cond.static yX9_within, Cond.initialized RX9, Cond.code yX9_within cX9_within 3 (some .boolean), Cond.methodLink RX9 59 yX9_bodyOf, Cond.static yX9_bodyOf, Cond.code yX9_bodyOf cX9_bodyOf 3 (some (.object "FairRents$Plain")), Cond.classLink RX9 82 RX8, Cond.instantiable RX8 1, Cond.initialized RX8, Cond.classLink RX9 225 RX1, Cond.instantiable RX1 2, Cond.initialized RX1, Cond.classLink RX9 229 RX7, Cond.instantiable RX7 2, Cond.initialized RX7, Cond.methodLink RX9 222 yX8_init, Cond.instanceMethod yX8_init, Cond.code yX8_init cX8_init 2 none]
def wsX9_home_r2 : List Cond := [Cond.methodLink RX8 1 objectInit, Cond.instanceMethod objectInit, Cond.code objectInit ⟨#[0xb1]⟩ 1 none, Cond.fieldLink RX8 7 "FairRents$Plain" "rooms" "I", Cond.methodLink RX9 227 yX1_init, Cond.instanceMethod yX1_init, Cond.code yX1_init cX1_init 3 none, Cond.fieldLink RX1 7 "FairRents$Flat" "floor" "I", Cond.methodLink RX1 1 yX8_init, Cond.methodLink RX9 231 yX7_init, Cond.instanceMethod yX7_init, Cond.code yX7_init cX7_init 3 none, Cond.methodLink RX7 1 yX1_init, Cond.methodLink RX9 63 yX3_init, Cond.instanceMethod yX3_init, Cond.code yX3_init cX3_init 3 none, Cond.methodLink RX3 1 objectInit, Cond.fieldLink RX3 7 "FairRents$Home" "body" "LFairRents$Plain;", Cond.fieldLink RX3 13 "FairRents$Home" "area" "I", Cond.classLink RX3 17 RX5, Cond.instantiable RX5 5, Cond.initialized RX5, Cond.fieldLink RX3 20 "FairRents$Home" "letting" "LFairRents$Letting;", Cond.instanceMethod yX5_init]
def wsX9_home_r3 : List Cond := [Cond.code yX5_init cX5_init 1 none, Cond.methodLink RX5 3 objectInit, Cond.arrayClass .int, Cond.fieldLink RX5 9 "FairRents$Letting" "sums" "[I"]
def wsX9_home : List Cond := .code yX9_home cX9_home 5 (some .int) :: ((wsX9_home_r1 ++ (wsX9_home_r2 ++ wsX9_home_r3)) ++ wsX90 ++ wsX30 ++ wsX80 ++ wsX10 ++ wsX70 ++ wsX50)
def wsX9_homeAt : List Cond := .code yX9_homeAt cX9_homeAt 2 (some (.object "FairRents$Home")) :: ([.fieldLink RX9 11 "FairRents" "homes" "[LFairRents$Home;", .methodLink RX9 51 yX9_within, .static yX9_within, .initialized RX9, .code yX9_within cX9_within 3 (some .boolean)] ++ wsX90)
def wsX9_faults : List Cond := .code yX9_faults cX9_faults 5 (some .int) :: ([.fieldLink RX9 70 "FairRents$Home" "faults" "I", .methodLink RX9 66 yX9_homeAt, .instanceMethod yX9_homeAt, .selects RX9 yX9_homeAt yX9_homeAt, .initialized RX9, .code yX9_homeAt cX9_homeAt 2 (some (.object "FairRents$Home")), .fieldLink RX9 11 "FairRents" "homes" "[LFairRents$Home;", .methodLink RX9 51 yX9_within, .static yX9_within, .code yX9_within cX9_within 3 (some .boolean)] ++ wsX30 ++ wsX90)
def wsX9_points_r1 : List Cond := [Cond.fieldLink RX9 73 "FairRents" "traced" "J", Cond.fieldLink RX9 77 "FairRents$Home" "body" "LFairRents$Plain;", Cond.methodLink RX9 66 yX9_homeAt, Cond.instanceMethod yX9_homeAt, Cond.selects RX9 yX9_homeAt yX9_homeAt, Cond.initialized RX9, Cond.code yX9_homeAt cX9_homeAt 2 (some (.object "FairRents$Home")), Cond.fieldLink RX9 11 "FairRents" "homes" "[LFairRents$Home;", Cond.methodLink RX9 51 yX9_within, Cond.static yX9_within, Cond.code yX9_within cX9_within 3 (some .boolean), Cond.methodLink RX9 81 ⟨"FairRents$Plain", "marks", "()I"⟩, Cond.sameMethod "FairRents$Plain" "FairRents$Plain" "marks" "()I", Cond.instanceMethod ⟨"FairRents$Plain", "marks", "()I"⟩, Cond.selects RX1 ⟨"FairRents$Plain", "marks", "()I"⟩ yX1_marks, Cond.instanceMethod yX1_marks, Cond.initialized RX1, Cond.code yX1_marks cX1_marks 1 (some .int), Cond.methodLink RX1 17 yX8_marks, Cond.superclass RX1 RX8, Cond.instanceMethod yX8_marks, Cond.initialized RX8, Cond.code yX8_marks cX8_marks 1 (some .int), Cond.selects RX7 ⟨"FairRents$Plain", "marks", "()I"⟩ yX7_marks]
def wsX9_points_r2 : List Cond := [Cond.instanceMethod yX7_marks, Cond.initialized RX7, Cond.code yX7_marks cX7_marks 1 (some .int), Cond.methodLink RX7 17 yX1_marks, Cond.sameMethod "FairRents$Flat" "FairRents$Flat" "marks" "()I", Cond.superclass RX7 RX1, Cond.methodLink RX9 81 yX8_marks, Cond.selects RX8 yX8_marks yX8_marks, Cond.methodLink RX9 87 ⟨"FairRents$Plain", "worth", "()I"⟩, Cond.sameMethod "FairRents$Plain" "FairRents$Plain" "worth" "()I", Cond.instanceMethod ⟨"FairRents$Plain", "worth", "()I"⟩, Cond.selects RX1 ⟨"FairRents$Plain", "worth", "()I"⟩ yX1_worth, Cond.instanceMethod yX1_worth, Cond.code yX1_worth cX1_worth 1 (some .int), Cond.fieldLink RX1 7 "FairRents$Flat" "floor" "I", Cond.methodLink RX1 13 yX8_worth, Cond.instanceMethod yX8_worth, Cond.code yX8_worth cX8_worth 1 (some .int), Cond.fieldLink RX8 7 "FairRents$Plain" "rooms" "I", Cond.selects RX7 ⟨"FairRents$Plain", "worth", "()I"⟩ yX7_worth, Cond.instanceMethod yX7_worth, Cond.code yX7_worth cX7_worth 2 (some .int), Cond.methodLink RX7 7 yX1_worth, Cond.sameMethod "FairRents$Flat" "FairRents$Flat" "worth" "()I"]
def wsX9_points_r3 : List Cond := [Cond.methodLink RX7 11 yJ9_floorDiv_7cf53, Cond.static yJ9_floorDiv_7cf53, Cond.initialized RJ9, Cond.code yJ9_floorDiv_7cf53 cJ9_floorDiv_7cf53 3 (some .int), Cond.methodLink RX9 87 yX8_worth, Cond.selects RX8 yX8_worth yX8_worth]
def wsX9_points : List Cond := .code yX9_points cX9_points 3 (some .int) :: ((wsX9_points_r1 ++ (wsX9_points_r2 ++ wsX9_points_r3)) ++ wsX90 ++ wsX30 ++ wsX10 ++ wsX70 ++ wsX80)
def wsX9_lawful : List Cond := .code yX9_lawful cX9_lawful 2 (some .boolean) :: ([.fieldLink RX9 216 "FairRents" "LAW_LEAST" "[I", .fieldLink RX9 219 "FairRents" "LAW_MOST" "[I", .methodLink RX9 51 yX9_within, .static yX9_within, .initialized RX9, .code yX9_within cX9_within 3 (some .boolean)])
def wsX9_law : List Cond := .code yX9_law cX9_law 10 (some .int) :: ([.arrayClass .int, .fieldLink RX9 29 "FairRents" "laws" "[LFairRents$Law;", .fieldLink RX9 94 "FairRents" "today" "I", .classLink RX9 27 RX4, .instantiable RX4 1, .initialized RX4, .methodLink RX9 90 yX9_lawful, .static yX9_lawful, .initialized RX9, .code yX9_lawful cX9_lawful 2 (some .boolean), .fieldLink RX9 216 "FairRents" "LAW_LEAST" "[I", .fieldLink RX9 219 "FairRents" "LAW_MOST" "[I", .methodLink RX9 51 yX9_within, .static yX9_within, .code yX9_within cX9_within 3 (some .boolean), .methodLink RX9 33 yX4_init, .instanceMethod yX4_init, .code yX4_init cX4_init 2 none, .methodLink RX4 3 objectInit, .instanceMethod objectInit, .code objectInit ⟨#[0xb1]⟩ 1 none, .fieldLink RX4 9 "FairRents$Law" "numbers" "[I"] ++ wsX90 ++ wsX40)
def wsX9_lawOn : List Cond := .code yX9_lawOn cX9_lawOn 4 (some (.object "FairRents$Law")) :: ([.fieldLink RX9 29 "FairRents" "laws" "[LFairRents$Law;", .methodLink RX9 232 Lib.Math.min.name, .static Lib.Math.min.name, .initialized "java/lang/Math", .code Lib.Math.min.name Lib.Math.min.code 2 (some .int), .fieldLink RX9 36 "FairRents" "firstLaw" "LFairRents$Law;"] ++ wsX90)
def wsX9_force : List Cond := .code yX9_force cX9_force 3 (some .int) :: ([.methodLink RX9 51 yX9_within, .static yX9_within, .initialized RX9, .code yX9_within cX9_within 3 (some .boolean), .methodLink RX9 97 yX9_lawOn, .instanceMethod yX9_lawOn, .selects RX9 yX9_lawOn yX9_lawOn, .code yX9_lawOn cX9_lawOn 4 (some (.object "FairRents$Law")), .fieldLink RX9 29 "FairRents" "laws" "[LFairRents$Law;", .methodLink RX9 232 Lib.Math.min.name, .static Lib.Math.min.name, .initialized "java/lang/Math", .code Lib.Math.min.name Lib.Math.min.code 2 (some .int), .fieldLink RX9 36 "FairRents" "firstLaw" "LFairRents$Law;", .methodLink RX9 101 yX4_number, .instanceMethod yX4_number, .selects RX4 yX4_number yX4_number, .initialized RX4, .code yX4_number cX4_number 2 (some .int), .fieldLink RX4 9 "FairRents$Law" "numbers" "[I"] ++ wsX90 ++ wsX40)
def wsX9_like : List Cond := .code yX9_like cX9_like 4 (some .int) :: ([.fieldLink RX9 105 "FairRents" "likesTold" "I", .fieldLink RX9 17 "FairRents" "likes" "[LFairRents$Like;", .classLink RX9 15 RX6, .instantiable RX6 5, .initialized RX6, .fieldLink RX9 94 "FairRents" "today" "I", .methodLink RX9 51 yX9_within, .static yX9_within, .initialized RX9, .code yX9_within cX9_within 3 (some .boolean), .methodLink RX9 108 yX6_init, .instanceMethod yX6_init, .code yX6_init cX6_init 5 none, .methodLink RX6 1 objectInit, .instanceMethod objectInit, .code objectInit ⟨#[0xb1]⟩ 1 none, .fieldLink RX6 7 "FairRents$Like" "area" "I", .fieldLink RX6 13 "FairRents$Like" "points" "I", .fieldLink RX6 16 "FairRents$Like" "rent" "I", .fieldLink RX6 19 "FairRents$Like" "day" "I"] ++ wsX90 ++ wsX60)
def wsX9_strike : List Cond := .code yX9_strike cX9_strike 3 (some .int) :: ([.fieldLink RX9 17 "FairRents" "likes" "[LFairRents$Like;", .fieldLink RX9 111 "FairRents$Like" "struck" "Z", .methodLink RX9 51 yX9_within, .static yX9_within, .initialized RX9, .code yX9_within cX9_within 3 (some .boolean)] ++ wsX90 ++ wsX60)
def wsX9_days : List Cond := .code yX9_days cX9_days 2 (some .int) :: ([.fieldLink RX9 94 "FairRents" "today" "I", .methodLink RX9 51 yX9_within, .static yX9_within, .initialized RX9, .code yX9_within cX9_within 3 (some .boolean)] ++ wsX90)
def wsX9_head_r1 : List Cond := [Cond.constant RX9 115 (-1000000000), Cond.fieldLink RX9 43 "FairRents" "heads" "LFairRents$Heads;", Cond.fieldLink RX9 17 "FairRents" "likes" "[LFairRents$Like;", Cond.fieldLink RX9 120 "FairRents$Heads" "middle" "I", Cond.fieldLink RX9 123 "FairRents$Heads" "scarcity" "I", Cond.fieldLink RX9 126 "FairRents$Heads" "repairs" "I", Cond.fieldLink RX9 132 "FairRents$Heads" "counted" "I", Cond.methodLink RX9 66 yX9_homeAt, Cond.instanceMethod yX9_homeAt, Cond.selects RX9 yX9_homeAt yX9_homeAt, Cond.initialized RX9, Cond.code yX9_homeAt cX9_homeAt 2 (some (.object "FairRents$Home")), Cond.fieldLink RX9 11 "FairRents" "homes" "[LFairRents$Home;", Cond.methodLink RX9 51 yX9_within, Cond.static yX9_within, Cond.code yX9_within cX9_within 3 (some .boolean), Cond.methodLink RX9 97 yX9_lawOn, Cond.instanceMethod yX9_lawOn, Cond.selects RX9 yX9_lawOn yX9_lawOn, Cond.code yX9_lawOn cX9_lawOn 4 (some (.object "FairRents$Law")), Cond.fieldLink RX9 29 "FairRents" "laws" "[LFairRents$Law;", Cond.methodLink RX9 232 Lib.Math.min.name, Cond.static Lib.Math.min.name, Cond.initialized "java/lang/Math"]
def wsX9_head_r2 : List Cond := [Cond.code Lib.Math.min.name Lib.Math.min.code 2 (some .int), Cond.fieldLink RX9 36 "FairRents" "firstLaw" "LFairRents$Law;", Cond.methodLink RX9 116 yX2_work, Cond.instanceMethod yX2_work, Cond.selects RX2 yX2_work yX2_work, Cond.initialized RX2, Cond.code yX2_work cX2_work 10 none, Cond.fieldLink RX2 15 "FairRents$Heads" "counted" "I", Cond.fieldLink RX2 19 "FairRents$Home" "body" "LFairRents$Plain;", Cond.fieldLink RX2 31 "FairRents$Home" "area" "I", Cond.fieldLink RX2 57 "FairRents$Heads" "middle" "I", Cond.fieldLink RX2 60 "FairRents$Heads" "scarcity" "I", Cond.fieldLink RX2 63 "FairRents$Home" "faults" "I", Cond.fieldLink RX2 66 "FairRents$Heads" "repairs" "I", Cond.methodLink RX2 25 ⟨"FairRents$Plain", "worth", "()I"⟩, Cond.sameMethod "FairRents$Plain" "FairRents$Plain" "worth" "()I", Cond.instanceMethod ⟨"FairRents$Plain", "worth", "()I"⟩, Cond.selects RX1 ⟨"FairRents$Plain", "worth", "()I"⟩ yX1_worth, Cond.instanceMethod yX1_worth, Cond.initialized RX1, Cond.code yX1_worth cX1_worth 1 (some .int), Cond.fieldLink RX1 7 "FairRents$Flat" "floor" "I", Cond.methodLink RX1 13 yX8_worth, Cond.superclass RX1 RX8]
def wsX9_head_r3 : List Cond := [Cond.instanceMethod yX8_worth, Cond.initialized RX8, Cond.code yX8_worth cX8_worth 1 (some .int), Cond.fieldLink RX8 7 "FairRents$Plain" "rooms" "I", Cond.selects RX7 ⟨"FairRents$Plain", "worth", "()I"⟩ yX7_worth, Cond.instanceMethod yX7_worth, Cond.initialized RX7, Cond.code yX7_worth cX7_worth 2 (some .int), Cond.methodLink RX7 7 yX1_worth, Cond.sameMethod "FairRents$Flat" "FairRents$Flat" "worth" "()I", Cond.superclass RX7 RX1, Cond.methodLink RX7 11 yJ9_floorDiv_7cf53, Cond.static yJ9_floorDiv_7cf53, Cond.initialized RJ9, Cond.code yJ9_floorDiv_7cf53 cJ9_floorDiv_7cf53 3 (some .int), Cond.methodLink RX2 25 yX8_worth, Cond.selects RX8 yX8_worth yX8_worth, Cond.methodLink RX2 34 yX6_countsFor, Cond.instanceMethod yX6_countsFor, Cond.selects RX6 yX6_countsFor yX6_countsFor, Cond.initialized RX6, Cond.code yX6_countsFor cX6_countsFor 3 (some .boolean), Cond.fieldLink RX6 22 "FairRents$Like" "struck" "Z", Cond.fieldLink RX6 7 "FairRents$Like" "area" "I"]
def wsX9_head_r4 : List Cond := [Cond.fieldLink RX6 19 "FairRents$Like" "day" "I", Cond.methodLink RX2 40 yX4_number, Cond.instanceMethod yX4_number, Cond.selects RX4 yX4_number yX4_number, Cond.initialized RX4, Cond.code yX4_number cX4_number 2 (some .int), Cond.fieldLink RX4 9 "FairRents$Law" "numbers" "[I", Cond.methodLink RX2 46 yX6_putRight, Cond.instanceMethod yX6_putRight, Cond.selects RX6 yX6_putRight yX6_putRight, Cond.code yX6_putRight cX6_putRight 3 (some .int), Cond.fieldLink RX6 16 "FairRents$Like" "rent" "I", Cond.fieldLink RX6 13 "FairRents$Like" "points" "I", Cond.methodLink RX2 50 yX2_insert, Cond.instanceMethod yX2_insert, Cond.selects RX2 yX2_insert yX2_insert, Cond.code yX2_insert cX2_insert 3 none, Cond.fieldLink RX2 9 "FairRents$Heads" "ordered" "[I", Cond.methodLink RX2 54 yX2_lowerMiddle, Cond.instanceMethod yX2_lowerMiddle, Cond.selects RX2 yX2_lowerMiddle yX2_lowerMiddle, Cond.code yX2_lowerMiddle cX2_lowerMiddle 2 (some .int), Cond.methodLink RX9 129 yX2_fairRent, Cond.instanceMethod yX2_fairRent]
def wsX9_head_r5 : List Cond := [Cond.selects RX2 yX2_fairRent yX2_fairRent, Cond.code yX2_fairRent cX2_fairRent 1 (some .int), Cond.methodLink RX2 69 Lib.Math.max.name, Cond.static Lib.Math.max.name, Cond.code Lib.Math.max.name Lib.Math.max.code 2 (some .int)]
def wsX9_head : List Cond := .code yX9_head cX9_head 5 (some .int) :: ((wsX9_head_r1 ++ (wsX9_head_r2 ++ (wsX9_head_r3 ++ (wsX9_head_r4 ++ wsX9_head_r5)))) ++ wsX90 ++ wsX20 ++ wsX30 ++ wsX10 ++ wsX70 ++ wsX80 ++ wsX60 ++ wsX40)
def wsX9_let : List Cond := .code yX9_let cX9_let 4 (some .int) :: ([.fieldLink RX9 135 "FairRents$Home" "letting" "LFairRents$Letting;", .fieldLink RX9 94 "FairRents" "today" "I", .methodLink RX9 66 yX9_homeAt, .instanceMethod yX9_homeAt, .selects RX9 yX9_homeAt yX9_homeAt, .initialized RX9, .code yX9_homeAt cX9_homeAt 2 (some (.object "FairRents$Home")), .fieldLink RX9 11 "FairRents" "homes" "[LFairRents$Home;", .methodLink RX9 51 yX9_within, .static yX9_within, .code yX9_within cX9_within 3 (some .boolean), .methodLink RX9 139 yX5_begin, .instanceMethod yX5_begin, .selects RX5 yX5_begin yX5_begin, .initialized RX5, .code yX5_begin cX5_begin 4 none, .fieldLink RX5 15 "FairRents$Letting" "number" "I", .fieldLink RX5 23 "FairRents$Letting" "first" "I", .fieldLink RX5 26 "FairRents$Letting" "rent" "I", .fieldLink RX5 29 "FairRents$Letting" "paid" "I", .fieldLink RX5 9 "FairRents$Letting" "sums" "[I"] ++ wsX30 ++ wsX90 ++ wsX50)
def wsX9_latestStanding : List Cond := .code yX9_latestStanding cX9_latestStanding 4 (some .int) :: ([.fieldLink RX9 23 "FairRents" "entries" "[LFairRents$Entry;", .fieldLink RX9 176 "FairRents$Entry" "stands" "Z", .fieldLink RX9 179 "FairRents$Entry" "home" "I"] ++ wsX90 ++ wsX00)
def wsX9_entryAt : List Cond := .code yX9_entryAt cX9_entryAt 2 (some (.object "FairRents$Entry")) :: ([.fieldLink RX9 23 "FairRents" "entries" "[LFairRents$Entry;", .methodLink RX9 51 yX9_within, .static yX9_within, .initialized RX9, .code yX9_within cX9_within 3 (some .boolean)] ++ wsX90)
def wsX9_barEnd : List Cond := .code yX9_barEnd cX9_barEnd 3 (some .int) :: ([.fieldLink RX9 173 "FairRents$Entry" "day" "I", .fieldLink RX9 235 "FairRents$Entry" "law" "LFairRents$Law;", .methodLink RX9 166 yX9_latestStanding, .instanceMethod yX9_latestStanding, .selects RX9 yX9_latestStanding yX9_latestStanding, .initialized RX9, .code yX9_latestStanding cX9_latestStanding 4 (some .int), .fieldLink RX9 23 "FairRents" "entries" "[LFairRents$Entry;", .fieldLink RX9 176 "FairRents$Entry" "stands" "Z", .fieldLink RX9 179 "FairRents$Entry" "home" "I", .methodLink RX9 169 yX9_entryAt, .instanceMethod yX9_entryAt, .selects RX9 yX9_entryAt yX9_entryAt, .code yX9_entryAt cX9_entryAt 2 (some (.object "FairRents$Entry")), .methodLink RX9 51 yX9_within, .static yX9_within, .code yX9_within cX9_within 3 (some .boolean), .methodLink RX9 101 yX4_number, .instanceMethod yX4_number, .selects RX4 yX4_number yX4_number, .initialized RX4, .code yX4_number cX4_number 2 (some .int), .fieldLink RX4 9 "FairRents$Law" "numbers" "[I"] ++ wsX00 ++ wsX90 ++ wsX40)
def wsX9_ask_r1 : List Cond := [Cond.fieldLink RX9 135 "FairRents$Home" "letting" "LFairRents$Letting;", Cond.fieldLink RX9 94 "FairRents" "today" "I", Cond.fieldLink RX9 152 "FairRents" "entriesMade" "I", Cond.fieldLink RX9 23 "FairRents" "entries" "[LFairRents$Entry;", Cond.fieldLink RX9 43 "FairRents" "heads" "LFairRents$Heads;", Cond.fieldLink RX9 17 "FairRents" "likes" "[LFairRents$Like;", Cond.classLink RX9 21 RX0, Cond.instantiable RX0 9, Cond.initialized RX0, Cond.fieldLink RX9 155 "FairRents$Letting" "number" "I", Cond.methodLink RX9 66 yX9_homeAt, Cond.instanceMethod yX9_homeAt, Cond.selects RX9 yX9_homeAt yX9_homeAt, Cond.initialized RX9, Cond.code yX9_homeAt cX9_homeAt 2 (some (.object "FairRents$Home")), Cond.fieldLink RX9 11 "FairRents" "homes" "[LFairRents$Home;", Cond.methodLink RX9 51 yX9_within, Cond.static yX9_within, Cond.code yX9_within cX9_within 3 (some .boolean), Cond.methodLink RX9 145 yX5_isLet, Cond.instanceMethod yX5_isLet, Cond.selects RX5 yX5_isLet yX5_isLet, Cond.initialized RX5, Cond.code yX5_isLet cX5_isLet 1 (some .boolean)]
def wsX9_ask_r2 : List Cond := [Cond.fieldLink RX5 15 "FairRents$Letting" "number" "I", Cond.methodLink RX9 149 yX9_barEnd, Cond.instanceMethod yX9_barEnd, Cond.selects RX9 yX9_barEnd yX9_barEnd, Cond.code yX9_barEnd cX9_barEnd 3 (some .int), Cond.fieldLink RX9 173 "FairRents$Entry" "day" "I", Cond.fieldLink RX9 235 "FairRents$Entry" "law" "LFairRents$Law;", Cond.methodLink RX9 166 yX9_latestStanding, Cond.instanceMethod yX9_latestStanding, Cond.selects RX9 yX9_latestStanding yX9_latestStanding, Cond.code yX9_latestStanding cX9_latestStanding 4 (some .int), Cond.fieldLink RX9 176 "FairRents$Entry" "stands" "Z", Cond.fieldLink RX9 179 "FairRents$Entry" "home" "I", Cond.methodLink RX9 169 yX9_entryAt, Cond.instanceMethod yX9_entryAt, Cond.selects RX9 yX9_entryAt yX9_entryAt, Cond.code yX9_entryAt cX9_entryAt 2 (some (.object "FairRents$Entry")), Cond.methodLink RX9 101 yX4_number, Cond.instanceMethod yX4_number, Cond.selects RX4 yX4_number yX4_number, Cond.initialized RX4, Cond.code yX4_number cX4_number 2 (some .int), Cond.fieldLink RX4 9 "FairRents$Law" "numbers" "[I", Cond.methodLink RX9 97 yX9_lawOn]
def wsX9_ask_r3 : List Cond := [Cond.instanceMethod yX9_lawOn, Cond.selects RX9 yX9_lawOn yX9_lawOn, Cond.code yX9_lawOn cX9_lawOn 4 (some (.object "FairRents$Law")), Cond.fieldLink RX9 29 "FairRents" "laws" "[LFairRents$Law;", Cond.methodLink RX9 232 Lib.Math.min.name, Cond.static Lib.Math.min.name, Cond.initialized "java/lang/Math", Cond.code Lib.Math.min.name Lib.Math.min.code 2 (some .int), Cond.fieldLink RX9 36 "FairRents" "firstLaw" "LFairRents$Law;", Cond.methodLink RX9 116 yX2_work, Cond.instanceMethod yX2_work, Cond.selects RX2 yX2_work yX2_work, Cond.initialized RX2, Cond.code yX2_work cX2_work 10 none, Cond.fieldLink RX2 15 "FairRents$Heads" "counted" "I", Cond.fieldLink RX2 19 "FairRents$Home" "body" "LFairRents$Plain;", Cond.fieldLink RX2 31 "FairRents$Home" "area" "I", Cond.fieldLink RX2 57 "FairRents$Heads" "middle" "I", Cond.fieldLink RX2 60 "FairRents$Heads" "scarcity" "I", Cond.fieldLink RX2 63 "FairRents$Home" "faults" "I", Cond.fieldLink RX2 66 "FairRents$Heads" "repairs" "I", Cond.methodLink RX2 25 ⟨"FairRents$Plain", "worth", "()I"⟩, Cond.sameMethod "FairRents$Plain" "FairRents$Plain" "worth" "()I", Cond.instanceMethod ⟨"FairRents$Plain", "worth", "()I"⟩]
def wsX9_ask_r4 : List Cond := [Cond.selects RX1 ⟨"FairRents$Plain", "worth", "()I"⟩ yX1_worth, Cond.instanceMethod yX1_worth, Cond.initialized RX1, Cond.code yX1_worth cX1_worth 1 (some .int), Cond.fieldLink RX1 7 "FairRents$Flat" "floor" "I", Cond.methodLink RX1 13 yX8_worth, Cond.superclass RX1 RX8, Cond.instanceMethod yX8_worth, Cond.initialized RX8, Cond.code yX8_worth cX8_worth 1 (some .int), Cond.fieldLink RX8 7 "FairRents$Plain" "rooms" "I", Cond.selects RX7 ⟨"FairRents$Plain", "worth", "()I"⟩ yX7_worth, Cond.instanceMethod yX7_worth, Cond.initialized RX7, Cond.code yX7_worth cX7_worth 2 (some .int), Cond.methodLink RX7 7 yX1_worth, Cond.sameMethod "FairRents$Flat" "FairRents$Flat" "worth" "()I", Cond.superclass RX7 RX1, Cond.methodLink RX7 11 yJ9_floorDiv_7cf53, Cond.static yJ9_floorDiv_7cf53, Cond.initialized RJ9, Cond.code yJ9_floorDiv_7cf53 cJ9_floorDiv_7cf53 3 (some .int), Cond.methodLink RX2 25 yX8_worth, Cond.selects RX8 yX8_worth yX8_worth]
def wsX9_ask_r5 : List Cond := [Cond.methodLink RX2 34 yX6_countsFor, Cond.instanceMethod yX6_countsFor, Cond.selects RX6 yX6_countsFor yX6_countsFor, Cond.initialized RX6, Cond.code yX6_countsFor cX6_countsFor 3 (some .boolean), Cond.fieldLink RX6 22 "FairRents$Like" "struck" "Z", Cond.fieldLink RX6 7 "FairRents$Like" "area" "I", Cond.fieldLink RX6 19 "FairRents$Like" "day" "I", Cond.methodLink RX2 40 yX4_number, Cond.methodLink RX2 46 yX6_putRight, Cond.instanceMethod yX6_putRight, Cond.selects RX6 yX6_putRight yX6_putRight, Cond.code yX6_putRight cX6_putRight 3 (some .int), Cond.fieldLink RX6 16 "FairRents$Like" "rent" "I", Cond.fieldLink RX6 13 "FairRents$Like" "points" "I", Cond.methodLink RX2 50 yX2_insert, Cond.instanceMethod yX2_insert, Cond.selects RX2 yX2_insert yX2_insert, Cond.code yX2_insert cX2_insert 3 none, Cond.fieldLink RX2 9 "FairRents$Heads" "ordered" "[I", Cond.methodLink RX2 54 yX2_lowerMiddle, Cond.instanceMethod yX2_lowerMiddle, Cond.selects RX2 yX2_lowerMiddle yX2_lowerMiddle, Cond.code yX2_lowerMiddle cX2_lowerMiddle 2 (some .int)]
def wsX9_ask_r6 : List Cond := [Cond.methodLink RX9 157 yX0_init, Cond.instanceMethod yX0_init, Cond.code yX0_init cX0_init 6 none, Cond.methodLink RX0 3 objectInit, Cond.instanceMethod objectInit, Cond.code objectInit ⟨#[0xb1]⟩ 1 none, Cond.fieldLink RX0 9 "FairRents$Entry" "home" "I", Cond.fieldLink RX0 15 "FairRents$Entry" "letting" "I", Cond.fieldLink RX0 18 "FairRents$Entry" "day" "I", Cond.fieldLink RX0 21 "FairRents$Entry" "law" "LFairRents$Law;", Cond.fieldLink RX0 31 "FairRents$Entry" "rent" "I", Cond.fieldLink RX0 34 "FairRents$Heads" "middle" "I", Cond.fieldLink RX0 37 "FairRents$Entry" "middle" "I", Cond.fieldLink RX0 38 "FairRents$Heads" "scarcity" "I", Cond.fieldLink RX0 41 "FairRents$Entry" "scarcity" "I", Cond.fieldLink RX0 42 "FairRents$Heads" "repairs" "I", Cond.fieldLink RX0 45 "FairRents$Entry" "repairs" "I", Cond.fieldLink RX0 46 "FairRents$Entry" "stands" "Z", Cond.methodLink RX0 25 yX2_fairRent, Cond.instanceMethod yX2_fairRent, Cond.selects RX2 yX2_fairRent yX2_fairRent, Cond.code yX2_fairRent cX2_fairRent 1 (some .int), Cond.methodLink RX2 69 Lib.Math.max.name, Cond.static Lib.Math.max.name]
def wsX9_ask_r7 : List Cond := [Cond.code Lib.Math.max.name Lib.Math.max.code 2 (some .int)]
def wsX9_ask : List Cond := .code yX9_ask cX9_ask 4 (some .int) :: ((wsX9_ask_r1 ++ (wsX9_ask_r2 ++ (wsX9_ask_r3 ++ (wsX9_ask_r4 ++ (wsX9_ask_r5 ++ (wsX9_ask_r6 ++ wsX9_ask_r7)))))) ++ wsX30 ++ wsX90 ++ wsX00 ++ wsX50 ++ wsX40 ++ wsX20 ++ wsX10 ++ wsX70 ++ wsX80 ++ wsX60)
def wsX9_open_r1 : List Cond := [Cond.fieldLink RX9 94 "FairRents" "today" "I", Cond.methodLink RX9 160 Lib.Math.max.name, Cond.static Lib.Math.max.name, Cond.initialized "java/lang/Math", Cond.code Lib.Math.max.name Lib.Math.max.code 2 (some .int), Cond.methodLink RX9 66 yX9_homeAt, Cond.instanceMethod yX9_homeAt, Cond.selects RX9 yX9_homeAt yX9_homeAt, Cond.initialized RX9, Cond.code yX9_homeAt cX9_homeAt 2 (some (.object "FairRents$Home")), Cond.fieldLink RX9 11 "FairRents" "homes" "[LFairRents$Home;", Cond.methodLink RX9 51 yX9_within, Cond.static yX9_within, Cond.code yX9_within cX9_within 3 (some .boolean), Cond.methodLink RX9 149 yX9_barEnd, Cond.instanceMethod yX9_barEnd, Cond.selects RX9 yX9_barEnd yX9_barEnd, Cond.code yX9_barEnd cX9_barEnd 3 (some .int), Cond.fieldLink RX9 173 "FairRents$Entry" "day" "I", Cond.fieldLink RX9 235 "FairRents$Entry" "law" "LFairRents$Law;", Cond.methodLink RX9 166 yX9_latestStanding, Cond.instanceMethod yX9_latestStanding, Cond.selects RX9 yX9_latestStanding yX9_latestStanding, Cond.code yX9_latestStanding cX9_latestStanding 4 (some .int)]
def wsX9_open_r2 : List Cond := [Cond.fieldLink RX9 23 "FairRents" "entries" "[LFairRents$Entry;", Cond.fieldLink RX9 176 "FairRents$Entry" "stands" "Z", Cond.fieldLink RX9 179 "FairRents$Entry" "home" "I", Cond.methodLink RX9 169 yX9_entryAt, Cond.instanceMethod yX9_entryAt, Cond.selects RX9 yX9_entryAt yX9_entryAt, Cond.code yX9_entryAt cX9_entryAt 2 (some (.object "FairRents$Entry")), Cond.methodLink RX9 101 yX4_number, Cond.instanceMethod yX4_number, Cond.selects RX4 yX4_number yX4_number, Cond.initialized RX4, Cond.code yX4_number cX4_number 2 (some .int), Cond.fieldLink RX4 9 "FairRents$Law" "numbers" "[I"]
def wsX9_open : List Cond := .code yX9_open cX9_open 2 (some .int) :: ((wsX9_open_r1 ++ wsX9_open_r2) ++ wsX90 ++ wsX00 ++ wsX40)
def wsX9_appeal : List Cond := .code yX9_appeal cX9_appeal 4 (some .int) :: ([.fieldLink RX9 94 "FairRents" "today" "I", .fieldLink RX9 173 "FairRents$Entry" "day" "I", .fieldLink RX9 176 "FairRents$Entry" "stands" "Z", .methodLink RX9 66 yX9_homeAt, .instanceMethod yX9_homeAt, .selects RX9 yX9_homeAt yX9_homeAt, .initialized RX9, .code yX9_homeAt cX9_homeAt 2 (some (.object "FairRents$Home")), .fieldLink RX9 11 "FairRents" "homes" "[LFairRents$Home;", .methodLink RX9 51 yX9_within, .static yX9_within, .code yX9_within cX9_within 3 (some .boolean), .methodLink RX9 166 yX9_latestStanding, .instanceMethod yX9_latestStanding, .selects RX9 yX9_latestStanding yX9_latestStanding, .code yX9_latestStanding cX9_latestStanding 4 (some .int), .fieldLink RX9 23 "FairRents" "entries" "[LFairRents$Entry;", .fieldLink RX9 179 "FairRents$Entry" "home" "I", .methodLink RX9 169 yX9_entryAt, .instanceMethod yX9_entryAt, .selects RX9 yX9_entryAt yX9_entryAt, .code yX9_entryAt cX9_entryAt 2 (some (.object "FairRents$Entry"))] ++ wsX90 ++ wsX00)
def wsX9_entry : List Cond := .code yX9_entry cX9_entry 4 (some .int) :: ([.constant RX9 115 (-1000000000), .fieldLink RX9 179 "FairRents$Entry" "home" "I", .fieldLink RX9 173 "FairRents$Entry" "day" "I", .fieldLink RX9 182 "FairRents$Entry" "rent" "I", .fieldLink RX9 185 "FairRents$Entry" "middle" "I", .fieldLink RX9 186 "FairRents$Entry" "scarcity" "I", .fieldLink RX9 187 "FairRents$Entry" "repairs" "I", .fieldLink RX9 176 "FairRents$Entry" "stands" "Z", .methodLink RX9 169 yX9_entryAt, .instanceMethod yX9_entryAt, .selects RX9 yX9_entryAt yX9_entryAt, .initialized RX9, .code yX9_entryAt cX9_entryAt 2 (some (.object "FairRents$Entry")), .fieldLink RX9 23 "FairRents" "entries" "[LFairRents$Entry;", .methodLink RX9 51 yX9_within, .static yX9_within, .code yX9_within cX9_within 3 (some .boolean)] ++ wsX00 ++ wsX90)
def wsX9_latest : List Cond := .code yX9_latest cX9_latest 2 (some .int) :: ([.methodLink RX9 66 yX9_homeAt, .instanceMethod yX9_homeAt, .selects RX9 yX9_homeAt yX9_homeAt, .initialized RX9, .code yX9_homeAt cX9_homeAt 2 (some (.object "FairRents$Home")), .fieldLink RX9 11 "FairRents" "homes" "[LFairRents$Home;", .methodLink RX9 51 yX9_within, .static yX9_within, .code yX9_within cX9_within 3 (some .boolean), .methodLink RX9 166 yX9_latestStanding, .instanceMethod yX9_latestStanding, .selects RX9 yX9_latestStanding yX9_latestStanding, .code yX9_latestStanding cX9_latestStanding 4 (some .int), .fieldLink RX9 23 "FairRents" "entries" "[LFairRents$Entry;", .fieldLink RX9 176 "FairRents$Entry" "stands" "Z", .fieldLink RX9 179 "FairRents$Entry" "home" "I"] ++ wsX90 ++ wsX00)
def wsX9_workDues_r1 : List Cond := [Cond.fieldLink RX9 238 "FairRents$Letting" "rent" "I", Cond.fieldLink RX9 204 "FairRents$Letting" "first" "I", Cond.methodLink RX9 160 Lib.Math.max.name, Cond.static Lib.Math.max.name, Cond.initialized "java/lang/Math", Cond.code Lib.Math.max.name Lib.Math.max.code 2 (some .int), Cond.fieldLink RX9 47 "FairRents" "dues" "[I", Cond.fieldLink RX9 23 "FairRents" "entries" "[LFairRents$Entry;", Cond.fieldLink RX9 173 "FairRents$Entry" "day" "I", Cond.fieldLink RX9 155 "FairRents$Letting" "number" "I", Cond.methodLink RX9 239 yX0_binds, Cond.instanceMethod yX0_binds, Cond.selects RX0 yX0_binds yX0_binds, Cond.initialized RX0, Cond.code yX0_binds cX0_binds 3 (some .boolean), Cond.fieldLink RX0 46 "FairRents$Entry" "stands" "Z", Cond.fieldLink RX0 9 "FairRents$Entry" "home" "I", Cond.fieldLink RX0 15 "FairRents$Entry" "letting" "I", Cond.methodLink RX9 243 yX0_steppedFrom, Cond.instanceMethod yX0_steppedFrom, Cond.selects RX0 yX0_steppedFrom yX0_steppedFrom, Cond.code yX0_steppedFrom cX0_steppedFrom 4 (some .int), Cond.fieldLink RX0 31 "FairRents$Entry" "rent" "I", Cond.fieldLink RX0 18 "FairRents$Entry" "day" "I"]
def wsX9_workDues_r2 : List Cond := [Cond.fieldLink RX0 21 "FairRents$Entry" "law" "LFairRents$Law;", Cond.methodLink RX0 56 Lib.Math.min.name, Cond.static Lib.Math.min.name, Cond.code Lib.Math.min.name Lib.Math.min.code 2 (some .int), Cond.methodLink RX0 50 yX4_number, Cond.instanceMethod yX4_number, Cond.selects RX4 yX4_number yX4_number, Cond.initialized RX4, Cond.code yX4_number cX4_number 2 (some .int), Cond.fieldLink RX4 9 "FairRents$Law" "numbers" "[I", Cond.static yX9_within, Cond.initialized RX9, Cond.code yX9_within cX9_within 3 (some .boolean)]
def wsX9_workDues : List Cond := .code yX9_workDues cX9_workDues 10 (some .int) :: ((wsX9_workDues_r1 ++ wsX9_workDues_r2) ++ wsX50 ++ wsX90 ++ wsX00 ++ wsX40)
def wsX9_due_r1 : List Cond := [Cond.fieldLink RX9 94 "FairRents" "today" "I", Cond.fieldLink RX9 135 "FairRents$Home" "letting" "LFairRents$Letting;", Cond.methodLink RX9 66 yX9_homeAt, Cond.instanceMethod yX9_homeAt, Cond.selects RX9 yX9_homeAt yX9_homeAt, Cond.initialized RX9, Cond.code yX9_homeAt cX9_homeAt 2 (some (.object "FairRents$Home")), Cond.fieldLink RX9 11 "FairRents" "homes" "[LFairRents$Home;", Cond.methodLink RX9 51 yX9_within, Cond.static yX9_within, Cond.code yX9_within cX9_within 3 (some .boolean), Cond.methodLink RX9 188 yX5_covers, Cond.instanceMethod yX5_covers, Cond.selects RX5 yX5_covers yX5_covers, Cond.initialized RX5, Cond.code yX5_covers cX5_covers 2 (some .boolean), Cond.fieldLink RX5 23 "FairRents$Letting" "first" "I", Cond.methodLink RX5 19 yX5_isLet, Cond.instanceMethod yX5_isLet, Cond.selects RX5 yX5_isLet yX5_isLet, Cond.code yX5_isLet cX5_isLet 1 (some .boolean), Cond.fieldLink RX5 15 "FairRents$Letting" "number" "I", Cond.methodLink RX9 192 yX9_workDues, Cond.instanceMethod yX9_workDues]
def wsX9_due_r2 : List Cond := [Cond.selects RX9 yX9_workDues yX9_workDues, Cond.code yX9_workDues cX9_workDues 10 (some .int), Cond.fieldLink RX9 238 "FairRents$Letting" "rent" "I", Cond.fieldLink RX9 204 "FairRents$Letting" "first" "I", Cond.methodLink RX9 160 Lib.Math.max.name, Cond.static Lib.Math.max.name, Cond.initialized "java/lang/Math", Cond.code Lib.Math.max.name Lib.Math.max.code 2 (some .int), Cond.fieldLink RX9 47 "FairRents" "dues" "[I", Cond.fieldLink RX9 23 "FairRents" "entries" "[LFairRents$Entry;", Cond.fieldLink RX9 173 "FairRents$Entry" "day" "I", Cond.fieldLink RX9 155 "FairRents$Letting" "number" "I", Cond.methodLink RX9 239 yX0_binds, Cond.instanceMethod yX0_binds, Cond.selects RX0 yX0_binds yX0_binds, Cond.initialized RX0, Cond.code yX0_binds cX0_binds 3 (some .boolean), Cond.fieldLink RX0 46 "FairRents$Entry" "stands" "Z", Cond.fieldLink RX0 9 "FairRents$Entry" "home" "I", Cond.fieldLink RX0 15 "FairRents$Entry" "letting" "I", Cond.methodLink RX9 243 yX0_steppedFrom, Cond.instanceMethod yX0_steppedFrom, Cond.selects RX0 yX0_steppedFrom yX0_steppedFrom, Cond.code yX0_steppedFrom cX0_steppedFrom 4 (some .int)]
def wsX9_due_r3 : List Cond := [Cond.fieldLink RX0 31 "FairRents$Entry" "rent" "I", Cond.fieldLink RX0 18 "FairRents$Entry" "day" "I", Cond.fieldLink RX0 21 "FairRents$Entry" "law" "LFairRents$Law;", Cond.methodLink RX0 56 Lib.Math.min.name, Cond.static Lib.Math.min.name, Cond.code Lib.Math.min.name Lib.Math.min.code 2 (some .int), Cond.methodLink RX0 50 yX4_number, Cond.instanceMethod yX4_number, Cond.selects RX4 yX4_number yX4_number, Cond.initialized RX4, Cond.code yX4_number cX4_number 2 (some .int), Cond.fieldLink RX4 9 "FairRents$Law" "numbers" "[I"]
def wsX9_due : List Cond := .code yX9_due cX9_due 4 (some .int) :: ((wsX9_due_r1 ++ (wsX9_due_r2 ++ wsX9_due_r3)) ++ wsX90 ++ wsX30 ++ wsX50 ++ wsX00 ++ wsX40)
def wsX9_pay_r1 : List Cond := [Cond.constant RX9 196 (100000), Cond.fieldLink RX9 135 "FairRents$Home" "letting" "LFairRents$Letting;", Cond.fieldLink RX9 197 "FairRents$Letting" "paid" "I", Cond.constant RX9 200 (1000000), Cond.fieldLink RX9 94 "FairRents" "today" "I", Cond.methodLink RX9 66 yX9_homeAt, Cond.instanceMethod yX9_homeAt, Cond.selects RX9 yX9_homeAt yX9_homeAt, Cond.initialized RX9, Cond.code yX9_homeAt cX9_homeAt 2 (some (.object "FairRents$Home")), Cond.fieldLink RX9 11 "FairRents" "homes" "[LFairRents$Home;", Cond.methodLink RX9 51 yX9_within, Cond.static yX9_within, Cond.code yX9_within cX9_within 3 (some .boolean), Cond.methodLink RX9 145 yX5_isLet, Cond.instanceMethod yX5_isLet, Cond.selects RX5 yX5_isLet yX5_isLet, Cond.initialized RX5, Cond.code yX5_isLet cX5_isLet 1 (some .boolean), Cond.fieldLink RX5 15 "FairRents$Letting" "number" "I", Cond.methodLink RX9 201 yX5_take, Cond.instanceMethod yX5_take, Cond.selects RX5 yX5_take yX5_take, Cond.code yX5_take cX5_take 3 none]
def wsX9_pay_r2 : List Cond := [Cond.fieldLink RX5 9 "FairRents$Letting" "sums" "[I", Cond.fieldLink RX5 29 "FairRents$Letting" "paid" "I"]
def wsX9_pay : List Cond := .code yX9_pay cX9_pay 4 (some .int) :: ((wsX9_pay_r1 ++ wsX9_pay_r2) ++ wsX30 ++ wsX50 ++ wsX90)
def wsX9_owed_r1 : List Cond := [Cond.fieldLink RX9 94 "FairRents" "today" "I", Cond.fieldLink RX9 135 "FairRents$Home" "letting" "LFairRents$Letting;", Cond.constant RX9 115 (-1000000000), Cond.fieldLink RX9 204 "FairRents$Letting" "first" "I", Cond.methodLink RX9 160 Lib.Math.max.name, Cond.static Lib.Math.max.name, Cond.initialized "java/lang/Math", Cond.code Lib.Math.max.name Lib.Math.max.code 2 (some .int), Cond.fieldLink RX9 47 "FairRents" "dues" "[I", Cond.methodLink RX9 66 yX9_homeAt, Cond.instanceMethod yX9_homeAt, Cond.selects RX9 yX9_homeAt yX9_homeAt, Cond.initialized RX9, Cond.code yX9_homeAt cX9_homeAt 2 (some (.object "FairRents$Home")), Cond.fieldLink RX9 11 "FairRents" "homes" "[LFairRents$Home;", Cond.methodLink RX9 51 yX9_within, Cond.static yX9_within, Cond.code yX9_within cX9_within 3 (some .boolean), Cond.methodLink RX9 188 yX5_covers, Cond.instanceMethod yX5_covers, Cond.selects RX5 yX5_covers yX5_covers, Cond.initialized RX5, Cond.code yX5_covers cX5_covers 2 (some .boolean), Cond.fieldLink RX5 23 "FairRents$Letting" "first" "I"]
def wsX9_owed_r2 : List Cond := [Cond.methodLink RX5 19 yX5_isLet, Cond.instanceMethod yX5_isLet, Cond.selects RX5 yX5_isLet yX5_isLet, Cond.code yX5_isLet cX5_isLet 1 (some .boolean), Cond.fieldLink RX5 15 "FairRents$Letting" "number" "I", Cond.methodLink RX9 192 yX9_workDues, Cond.instanceMethod yX9_workDues, Cond.selects RX9 yX9_workDues yX9_workDues, Cond.code yX9_workDues cX9_workDues 10 (some .int), Cond.fieldLink RX9 238 "FairRents$Letting" "rent" "I", Cond.fieldLink RX9 23 "FairRents" "entries" "[LFairRents$Entry;", Cond.fieldLink RX9 173 "FairRents$Entry" "day" "I", Cond.fieldLink RX9 155 "FairRents$Letting" "number" "I", Cond.methodLink RX9 239 yX0_binds, Cond.instanceMethod yX0_binds, Cond.selects RX0 yX0_binds yX0_binds, Cond.initialized RX0, Cond.code yX0_binds cX0_binds 3 (some .boolean), Cond.fieldLink RX0 46 "FairRents$Entry" "stands" "Z", Cond.fieldLink RX0 9 "FairRents$Entry" "home" "I", Cond.fieldLink RX0 15 "FairRents$Entry" "letting" "I", Cond.methodLink RX9 243 yX0_steppedFrom, Cond.instanceMethod yX0_steppedFrom, Cond.selects RX0 yX0_steppedFrom yX0_steppedFrom]
def wsX9_owed_r3 : List Cond := [Cond.code yX0_steppedFrom cX0_steppedFrom 4 (some .int), Cond.fieldLink RX0 31 "FairRents$Entry" "rent" "I", Cond.fieldLink RX0 18 "FairRents$Entry" "day" "I", Cond.fieldLink RX0 21 "FairRents$Entry" "law" "LFairRents$Law;", Cond.methodLink RX0 56 Lib.Math.min.name, Cond.static Lib.Math.min.name, Cond.code Lib.Math.min.name Lib.Math.min.code 2 (some .int), Cond.methodLink RX0 50 yX4_number, Cond.instanceMethod yX4_number, Cond.selects RX4 yX4_number yX4_number, Cond.initialized RX4, Cond.code yX4_number cX4_number 2 (some .int), Cond.fieldLink RX4 9 "FairRents$Law" "numbers" "[I", Cond.methodLink RX9 207 yX5_paidOn, Cond.instanceMethod yX5_paidOn, Cond.selects RX5 yX5_paidOn yX5_paidOn, Cond.code yX5_paidOn cX5_paidOn 2 (some .int), Cond.fieldLink RX5 9 "FairRents$Letting" "sums" "[I"]
def wsX9_owed : List Cond := .code yX9_owed cX9_owed 7 (some .int) :: ((wsX9_owed_r1 ++ (wsX9_owed_r2 ++ wsX9_owed_r3)) ++ wsX90 ++ wsX30 ++ wsX50 ++ wsX00 ++ wsX40)
def wsX9_homesLet : List Cond := .code yX9_homesLet cX9_homesLet 6 (some .int) :: ([.fieldLink RX9 11 "FairRents" "homes" "[LFairRents$Home;", .fieldLink RX9 135 "FairRents$Home" "letting" "LFairRents$Letting;", .methodLink RX9 145 yX5_isLet, .instanceMethod yX5_isLet, .selects RX5 yX5_isLet yX5_isLet, .initialized RX5, .code yX5_isLet cX5_isLet 1 (some .boolean), .fieldLink RX5 15 "FairRents$Letting" "number" "I"] ++ wsX90 ++ wsX30 ++ wsX50)
def wsX9_lawsTold : List Cond := .code yX9_lawsTold cX9_lawsTold 6 (some .int) :: ([.fieldLink RX9 29 "FairRents" "laws" "[LFairRents$Law;"] ++ wsX90)
def wsX9_count : List Cond := .code yX9_count cX9_count 2 (some .int) :: ([.fieldLink RX9 55 "FairRents" "homesMade" "I", .fieldLink RX9 105 "FairRents" "likesTold" "I", .fieldLink RX9 152 "FairRents" "entriesMade" "I", .fieldLink RX9 94 "FairRents" "today" "I", .methodLink RX9 210 yX9_homesLet, .instanceMethod yX9_homesLet, .selects RX9 yX9_homesLet yX9_homesLet, .initialized RX9, .code yX9_homesLet cX9_homesLet 6 (some .int), .fieldLink RX9 11 "FairRents" "homes" "[LFairRents$Home;", .fieldLink RX9 135 "FairRents$Home" "letting" "LFairRents$Letting;", .methodLink RX9 145 yX5_isLet, .instanceMethod yX5_isLet, .selects RX5 yX5_isLet yX5_isLet, .initialized RX5, .code yX5_isLet cX5_isLet 1 (some .boolean), .fieldLink RX5 15 "FairRents$Letting" "number" "I", .methodLink RX9 213 yX9_lawsTold, .instanceMethod yX9_lawsTold, .selects RX9 yX9_lawsTold yX9_lawsTold, .code yX9_lawsTold cX9_lawsTold 6 (some .int), .fieldLink RX9 29 "FairRents" "laws" "[LFairRents$Law;"] ++ wsX90 ++ wsX30 ++ wsX50)
def wsX9_trace : List Cond := .code yX9_trace cX9_trace 1 (some .long) :: ([.fieldLink RX9 73 "FairRents" "traced" "J"] ++ wsX90)
def wsX10_init_r1 : List Cond := [Cond.methodLink RX10 1 objectInit, Cond.instanceMethod objectInit, Cond.code objectInit ⟨#[0xb1]⟩ 1 none, Cond.arrayClass .int, Cond.fieldLink RX10 7 "FairRentsModel" "kind" "[I", Cond.fieldLink RX10 13 "FairRentsModel" "area" "[I", Cond.fieldLink RX10 16 "FairRentsModel" "rooms" "[I", Cond.fieldLink RX10 19 "FairRentsModel" "floor" "[I", Cond.fieldLink RX10 22 "FairRentsModel" "faults" "[I", Cond.fieldLink RX10 25 "FairRentsModel" "laws" "[I", Cond.arrayClass .boolean, Cond.fieldLink RX10 28 "FairRentsModel" "isTold" "[Z", Cond.fieldLink RX10 32 "FairRentsModel" "likeArea" "[I", Cond.fieldLink RX10 35 "FairRentsModel" "likePoints" "[I", Cond.fieldLink RX10 38 "FairRentsModel" "likeRent" "[I", Cond.fieldLink RX10 41 "FairRentsModel" "likeDay" "[I", Cond.fieldLink RX10 44 "FairRentsModel" "isStruck" "[Z", Cond.fieldLink RX10 47 "FairRentsModel" "letDay" "[I", Cond.fieldLink RX10 50 "FairRentsModel" "letRent" "[I", Cond.fieldLink RX10 53 "FairRentsModel" "letting" "[I", Cond.fieldLink RX10 56 "FairRentsModel" "paid" "[I", Cond.fieldLink RX10 59 "FairRentsModel" "entryHome" "[I", Cond.fieldLink RX10 62 "FairRentsModel" "entryDay" "[I", Cond.fieldLink RX10 65 "FairRentsModel" "entryRent" "[I"]
def wsX10_init_r2 : List Cond := [Cond.fieldLink RX10 68 "FairRentsModel" "entryHead" "[I", Cond.fieldLink RX10 71 "FairRentsModel" "entryLetting" "[I", Cond.fieldLink RX10 74 "FairRentsModel" "isGone" "[Z", Cond.fieldLink RX10 77 "FairRentsModel" "right" "[I", Cond.fieldLink RX10 80 "FairRentsModel" "dues" "[I"]
def wsX10_init : List Cond := .code yX10_init cX10_init 1 none :: ((wsX10_init_r1 ++ wsX10_init_r2) ++ wsX100)
def wsX10_in : List Cond := .code yX10_in cX10_in 3 (some .boolean) :: ([])
def wsX10_isHome : List Cond := .code yX10_isHome cX10_isHome 2 (some .boolean) :: ([.fieldLink RX10 83 "FairRentsModel" "homes" "I", .methodLink RX10 87 yX10_in, .static yX10_in, .initialized RX10, .code yX10_in cX10_in 3 (some .boolean)] ++ wsX100)
def wsX10_home : List Cond := .code yX10_home cX10_home 5 (some .int) :: ([.fieldLink RX10 83 "FairRentsModel" "homes" "I", .fieldLink RX10 7 "FairRentsModel" "kind" "[I", .fieldLink RX10 13 "FairRentsModel" "area" "[I", .fieldLink RX10 16 "FairRentsModel" "rooms" "[I", .fieldLink RX10 19 "FairRentsModel" "floor" "[I", .fieldLink RX10 22 "FairRentsModel" "faults" "[I", .methodLink RX10 87 yX10_in, .static yX10_in, .initialized RX10, .code yX10_in cX10_in 3 (some .boolean)] ++ wsX100)
def wsX10_faults : List Cond := .code yX10_faults cX10_faults 4 (some .int) :: ([.fieldLink RX10 22 "FairRentsModel" "faults" "[I", .methodLink RX10 91 yX10_isHome, .instanceMethod yX10_isHome, .selects RX10 yX10_isHome yX10_isHome, .initialized RX10, .code yX10_isHome cX10_isHome 2 (some .boolean), .fieldLink RX10 83 "FairRentsModel" "homes" "I", .methodLink RX10 87 yX10_in, .static yX10_in, .code yX10_in cX10_in 3 (some .boolean)] ++ wsX100)
def wsX10_pointsOf : List Cond := .code yX10_pointsOf cX10_pointsOf 4 (some .int) :: ([.fieldLink RX10 16 "FairRentsModel" "rooms" "[I", .fieldLink RX10 7 "FairRentsModel" "kind" "[I", .fieldLink RX10 19 "FairRentsModel" "floor" "[I"] ++ wsX100)
def wsX10_points : List Cond := .code yX10_points cX10_points 2 (some .int) :: ([.fieldLink RX10 95 "FairRentsModel" "trace" "J", .fieldLink RX10 7 "FairRentsModel" "kind" "[I", .constantLong RX10 99 (11), .constantLong RX10 101 (111), .methodLink RX10 91 yX10_isHome, .instanceMethod yX10_isHome, .selects RX10 yX10_isHome yX10_isHome, .initialized RX10, .code yX10_isHome cX10_isHome 2 (some .boolean), .fieldLink RX10 83 "FairRentsModel" "homes" "I", .methodLink RX10 87 yX10_in, .static yX10_in, .code yX10_in cX10_in 3 (some .boolean), .methodLink RX10 103 yX10_pointsOf, .instanceMethod yX10_pointsOf, .selects RX10 yX10_pointsOf yX10_pointsOf, .code yX10_pointsOf cX10_pointsOf 4 (some .int), .fieldLink RX10 16 "FairRentsModel" "rooms" "[I", .fieldLink RX10 19 "FairRentsModel" "floor" "[I"] ++ wsX100)
def wsX10_law : List Cond := .code yX10_law cX10_law 11 (some .int) :: ([.fieldLink RX10 107 "FairRentsModel" "today" "I", .fieldLink RX10 25 "FairRentsModel" "laws" "[I", .fieldLink RX10 28 "FairRentsModel" "isTold" "[Z", .methodLink RX10 87 yX10_in, .static yX10_in, .initialized RX10, .code yX10_in cX10_in 3 (some .boolean)] ++ wsX100)
def wsX10_yearOf : List Cond := .code yX10_yearOf cX10_yearOf 3 (some .int) :: ([.fieldLink RX10 28 "FairRentsModel" "isTold" "[Z"] ++ wsX100)
def wsX10_lawOf : List Cond := .code yX10_lawOf cX10_lawOf 3 (some .int) :: ([.fieldLink RX10 25 "FairRentsModel" "laws" "[I", .methodLink RX10 110 yX10_yearOf, .instanceMethod yX10_yearOf, .selects RX10 yX10_yearOf yX10_yearOf, .initialized RX10, .code yX10_yearOf cX10_yearOf 3 (some .int), .fieldLink RX10 28 "FairRentsModel" "isTold" "[Z"] ++ wsX100)
def wsX10_force : List Cond := .code yX10_force cX10_force 3 (some .int) :: ([.methodLink RX10 87 yX10_in, .static yX10_in, .initialized RX10, .code yX10_in cX10_in 3 (some .boolean), .methodLink RX10 113 yX10_lawOf, .instanceMethod yX10_lawOf, .selects RX10 yX10_lawOf yX10_lawOf, .code yX10_lawOf cX10_lawOf 3 (some .int), .fieldLink RX10 25 "FairRentsModel" "laws" "[I", .methodLink RX10 110 yX10_yearOf, .instanceMethod yX10_yearOf, .selects RX10 yX10_yearOf yX10_yearOf, .code yX10_yearOf cX10_yearOf 3 (some .int), .fieldLink RX10 28 "FairRentsModel" "isTold" "[Z"] ++ wsX100)
def wsX10_like : List Cond := .code yX10_like cX10_like 4 (some .int) :: ([.fieldLink RX10 117 "FairRentsModel" "likes" "I", .fieldLink RX10 32 "FairRentsModel" "likeArea" "[I", .fieldLink RX10 35 "FairRentsModel" "likePoints" "[I", .fieldLink RX10 38 "FairRentsModel" "likeRent" "[I", .fieldLink RX10 41 "FairRentsModel" "likeDay" "[I", .fieldLink RX10 107 "FairRentsModel" "today" "I", .fieldLink RX10 44 "FairRentsModel" "isStruck" "[Z", .methodLink RX10 87 yX10_in, .static yX10_in, .initialized RX10, .code yX10_in cX10_in 3 (some .boolean)] ++ wsX100)
def wsX10_strike : List Cond := .code yX10_strike cX10_strike 2 (some .int) :: ([.fieldLink RX10 117 "FairRentsModel" "likes" "I", .fieldLink RX10 44 "FairRentsModel" "isStruck" "[Z", .methodLink RX10 87 yX10_in, .static yX10_in, .initialized RX10, .code yX10_in cX10_in 3 (some .boolean)] ++ wsX100)
def wsX10_days : List Cond := .code yX10_days cX10_days 2 (some .int) :: ([.fieldLink RX10 107 "FairRentsModel" "today" "I", .methodLink RX10 87 yX10_in, .static yX10_in, .initialized RX10, .code yX10_in cX10_in 3 (some .boolean)] ++ wsX100)
def wsX10_collect_r1 : List Cond := [Cond.fieldLink RX10 120 "FairRentsModel" "counted" "I", Cond.fieldLink RX10 117 "FairRentsModel" "likes" "I", Cond.fieldLink RX10 32 "FairRentsModel" "likeArea" "[I", Cond.fieldLink RX10 13 "FairRentsModel" "area" "[I", Cond.fieldLink RX10 41 "FairRentsModel" "likeDay" "[I", Cond.fieldLink RX10 44 "FairRentsModel" "isStruck" "[Z", Cond.fieldLink RX10 38 "FairRentsModel" "likeRent" "[I", Cond.fieldLink RX10 35 "FairRentsModel" "likePoints" "[I", Cond.fieldLink RX10 77 "FairRentsModel" "right" "[I", Cond.methodLink RX10 113 yX10_lawOf, Cond.instanceMethod yX10_lawOf, Cond.selects RX10 yX10_lawOf yX10_lawOf, Cond.initialized RX10, Cond.code yX10_lawOf cX10_lawOf 3 (some .int), Cond.fieldLink RX10 25 "FairRentsModel" "laws" "[I", Cond.methodLink RX10 110 yX10_yearOf, Cond.instanceMethod yX10_yearOf, Cond.selects RX10 yX10_yearOf yX10_yearOf, Cond.code yX10_yearOf cX10_yearOf 3 (some .int), Cond.fieldLink RX10 28 "FairRentsModel" "isTold" "[Z", Cond.methodLink RX10 103 yX10_pointsOf, Cond.instanceMethod yX10_pointsOf, Cond.selects RX10 yX10_pointsOf yX10_pointsOf, Cond.code yX10_pointsOf cX10_pointsOf 4 (some .int)]
def wsX10_collect_r2 : List Cond := [Cond.fieldLink RX10 16 "FairRentsModel" "rooms" "[I", Cond.fieldLink RX10 7 "FairRentsModel" "kind" "[I", Cond.fieldLink RX10 19 "FairRentsModel" "floor" "[I"]
def wsX10_collect : List Cond := .code yX10_collect cX10_collect 6 none :: ((wsX10_collect_r1 ++ wsX10_collect_r2) ++ wsX100)
def wsX10_headOf_r1 : List Cond := [Cond.fieldLink RX10 120 "FairRentsModel" "counted" "I", Cond.fieldLink RX10 77 "FairRentsModel" "right" "[I", Cond.fieldLink RX10 13 "FairRentsModel" "area" "[I", Cond.fieldLink RX10 22 "FairRentsModel" "faults" "[I", Cond.methodLink RX10 123 yX10_collect, Cond.instanceMethod yX10_collect, Cond.selects RX10 yX10_collect yX10_collect, Cond.initialized RX10, Cond.code yX10_collect cX10_collect 6 none, Cond.fieldLink RX10 117 "FairRentsModel" "likes" "I", Cond.fieldLink RX10 32 "FairRentsModel" "likeArea" "[I", Cond.fieldLink RX10 41 "FairRentsModel" "likeDay" "[I", Cond.fieldLink RX10 44 "FairRentsModel" "isStruck" "[Z", Cond.fieldLink RX10 38 "FairRentsModel" "likeRent" "[I", Cond.fieldLink RX10 35 "FairRentsModel" "likePoints" "[I", Cond.methodLink RX10 113 yX10_lawOf, Cond.instanceMethod yX10_lawOf, Cond.selects RX10 yX10_lawOf yX10_lawOf, Cond.code yX10_lawOf cX10_lawOf 3 (some .int), Cond.fieldLink RX10 25 "FairRentsModel" "laws" "[I", Cond.methodLink RX10 110 yX10_yearOf, Cond.instanceMethod yX10_yearOf, Cond.selects RX10 yX10_yearOf yX10_yearOf, Cond.code yX10_yearOf cX10_yearOf 3 (some .int)]
def wsX10_headOf_r2 : List Cond := [Cond.fieldLink RX10 28 "FairRentsModel" "isTold" "[Z", Cond.methodLink RX10 103 yX10_pointsOf, Cond.instanceMethod yX10_pointsOf, Cond.selects RX10 yX10_pointsOf yX10_pointsOf, Cond.code yX10_pointsOf cX10_pointsOf 4 (some .int), Cond.fieldLink RX10 16 "FairRentsModel" "rooms" "[I", Cond.fieldLink RX10 7 "FairRentsModel" "kind" "[I", Cond.fieldLink RX10 19 "FairRentsModel" "floor" "[I"]
def wsX10_headOf : List Cond := .code yX10_headOf cX10_headOf 8 (some .int) :: ((wsX10_headOf_r1 ++ wsX10_headOf_r2) ++ wsX100)
def wsX10_head_r1 : List Cond := [Cond.constant RX10 131 (-1000000000), Cond.methodLink RX10 91 yX10_isHome, Cond.instanceMethod yX10_isHome, Cond.selects RX10 yX10_isHome yX10_isHome, Cond.initialized RX10, Cond.code yX10_isHome cX10_isHome 2 (some .boolean), Cond.fieldLink RX10 83 "FairRentsModel" "homes" "I", Cond.methodLink RX10 87 yX10_in, Cond.static yX10_in, Cond.code yX10_in cX10_in 3 (some .boolean), Cond.methodLink RX10 127 yX10_headOf, Cond.instanceMethod yX10_headOf, Cond.selects RX10 yX10_headOf yX10_headOf, Cond.code yX10_headOf cX10_headOf 8 (some .int), Cond.fieldLink RX10 120 "FairRentsModel" "counted" "I", Cond.fieldLink RX10 77 "FairRentsModel" "right" "[I", Cond.fieldLink RX10 13 "FairRentsModel" "area" "[I", Cond.fieldLink RX10 22 "FairRentsModel" "faults" "[I", Cond.methodLink RX10 123 yX10_collect, Cond.instanceMethod yX10_collect, Cond.selects RX10 yX10_collect yX10_collect, Cond.code yX10_collect cX10_collect 6 none, Cond.fieldLink RX10 117 "FairRentsModel" "likes" "I", Cond.fieldLink RX10 32 "FairRentsModel" "likeArea" "[I"]
def wsX10_head_r2 : List Cond := [Cond.fieldLink RX10 41 "FairRentsModel" "likeDay" "[I", Cond.fieldLink RX10 44 "FairRentsModel" "isStruck" "[Z", Cond.fieldLink RX10 38 "FairRentsModel" "likeRent" "[I", Cond.fieldLink RX10 35 "FairRentsModel" "likePoints" "[I", Cond.methodLink RX10 113 yX10_lawOf, Cond.instanceMethod yX10_lawOf, Cond.selects RX10 yX10_lawOf yX10_lawOf, Cond.code yX10_lawOf cX10_lawOf 3 (some .int), Cond.fieldLink RX10 25 "FairRentsModel" "laws" "[I", Cond.methodLink RX10 110 yX10_yearOf, Cond.instanceMethod yX10_yearOf, Cond.selects RX10 yX10_yearOf yX10_yearOf, Cond.code yX10_yearOf cX10_yearOf 3 (some .int), Cond.fieldLink RX10 28 "FairRentsModel" "isTold" "[Z", Cond.methodLink RX10 103 yX10_pointsOf, Cond.instanceMethod yX10_pointsOf, Cond.selects RX10 yX10_pointsOf yX10_pointsOf, Cond.code yX10_pointsOf cX10_pointsOf 4 (some .int), Cond.fieldLink RX10 16 "FairRentsModel" "rooms" "[I", Cond.fieldLink RX10 7 "FairRentsModel" "kind" "[I", Cond.fieldLink RX10 19 "FairRentsModel" "floor" "[I"]
def wsX10_head : List Cond := .code yX10_head cX10_head 4 (some .int) :: ((wsX10_head_r1 ++ wsX10_head_r2) ++ wsX100)
def wsX10_let : List Cond := .code yX10_let cX10_let 4 (some .int) :: ([.fieldLink RX10 47 "FairRentsModel" "letDay" "[I", .fieldLink RX10 107 "FairRentsModel" "today" "I", .fieldLink RX10 50 "FairRentsModel" "letRent" "[I", .fieldLink RX10 53 "FairRentsModel" "letting" "[I", .fieldLink RX10 56 "FairRentsModel" "paid" "[I", .methodLink RX10 91 yX10_isHome, .instanceMethod yX10_isHome, .selects RX10 yX10_isHome yX10_isHome, .initialized RX10, .code yX10_isHome cX10_isHome 2 (some .boolean), .fieldLink RX10 83 "FairRentsModel" "homes" "I", .methodLink RX10 87 yX10_in, .static yX10_in, .code yX10_in cX10_in 3 (some .boolean)] ++ wsX100)
def wsX10_latestOf : List Cond := .code yX10_latestOf cX10_latestOf 3 (some .int) :: ([.fieldLink RX10 132 "FairRentsModel" "entries" "I", .fieldLink RX10 59 "FairRentsModel" "entryHome" "[I", .fieldLink RX10 74 "FairRentsModel" "isGone" "[Z"] ++ wsX100)
def wsX10_openOf : List Cond := .code yX10_openOf cX10_openOf 4 (some .int) :: ([.fieldLink RX10 62 "FairRentsModel" "entryDay" "[I", .fieldLink RX10 107 "FairRentsModel" "today" "I", .methodLink RX10 135 yX10_latestOf, .instanceMethod yX10_latestOf, .selects RX10 yX10_latestOf yX10_latestOf, .initialized RX10, .code yX10_latestOf cX10_latestOf 3 (some .int), .fieldLink RX10 132 "FairRentsModel" "entries" "I", .fieldLink RX10 59 "FairRentsModel" "entryHome" "[I", .fieldLink RX10 74 "FairRentsModel" "isGone" "[Z", .methodLink RX10 113 yX10_lawOf, .instanceMethod yX10_lawOf, .selects RX10 yX10_lawOf yX10_lawOf, .code yX10_lawOf cX10_lawOf 3 (some .int), .fieldLink RX10 25 "FairRentsModel" "laws" "[I", .methodLink RX10 110 yX10_yearOf, .instanceMethod yX10_yearOf, .selects RX10 yX10_yearOf yX10_yearOf, .code yX10_yearOf cX10_yearOf 3 (some .int), .fieldLink RX10 28 "FairRentsModel" "isTold" "[Z"] ++ wsX100)
def wsX10_ask_r1 : List Cond := [Cond.fieldLink RX10 47 "FairRentsModel" "letDay" "[I", Cond.fieldLink RX10 107 "FairRentsModel" "today" "I", Cond.fieldLink RX10 132 "FairRentsModel" "entries" "I", Cond.fieldLink RX10 59 "FairRentsModel" "entryHome" "[I", Cond.fieldLink RX10 62 "FairRentsModel" "entryDay" "[I", Cond.fieldLink RX10 65 "FairRentsModel" "entryRent" "[I", Cond.fieldLink RX10 68 "FairRentsModel" "entryHead" "[I", Cond.fieldLink RX10 71 "FairRentsModel" "entryLetting" "[I", Cond.fieldLink RX10 53 "FairRentsModel" "letting" "[I", Cond.fieldLink RX10 74 "FairRentsModel" "isGone" "[Z", Cond.methodLink RX10 91 yX10_isHome, Cond.instanceMethod yX10_isHome, Cond.selects RX10 yX10_isHome yX10_isHome, Cond.initialized RX10, Cond.code yX10_isHome cX10_isHome 2 (some .boolean), Cond.fieldLink RX10 83 "FairRentsModel" "homes" "I", Cond.methodLink RX10 87 yX10_in, Cond.static yX10_in, Cond.code yX10_in cX10_in 3 (some .boolean), Cond.methodLink RX10 138 yX10_openOf, Cond.instanceMethod yX10_openOf, Cond.selects RX10 yX10_openOf yX10_openOf, Cond.code yX10_openOf cX10_openOf 4 (some .int), Cond.methodLink RX10 135 yX10_latestOf]
def wsX10_ask_r2 : List Cond := [Cond.instanceMethod yX10_latestOf, Cond.selects RX10 yX10_latestOf yX10_latestOf, Cond.code yX10_latestOf cX10_latestOf 3 (some .int), Cond.methodLink RX10 113 yX10_lawOf, Cond.instanceMethod yX10_lawOf, Cond.selects RX10 yX10_lawOf yX10_lawOf, Cond.code yX10_lawOf cX10_lawOf 3 (some .int), Cond.fieldLink RX10 25 "FairRentsModel" "laws" "[I", Cond.methodLink RX10 110 yX10_yearOf, Cond.instanceMethod yX10_yearOf, Cond.selects RX10 yX10_yearOf yX10_yearOf, Cond.code yX10_yearOf cX10_yearOf 3 (some .int), Cond.fieldLink RX10 28 "FairRentsModel" "isTold" "[Z", Cond.methodLink RX10 127 yX10_headOf, Cond.instanceMethod yX10_headOf, Cond.selects RX10 yX10_headOf yX10_headOf, Cond.code yX10_headOf cX10_headOf 8 (some .int), Cond.fieldLink RX10 120 "FairRentsModel" "counted" "I", Cond.fieldLink RX10 77 "FairRentsModel" "right" "[I", Cond.fieldLink RX10 13 "FairRentsModel" "area" "[I", Cond.fieldLink RX10 22 "FairRentsModel" "faults" "[I", Cond.methodLink RX10 123 yX10_collect, Cond.instanceMethod yX10_collect, Cond.selects RX10 yX10_collect yX10_collect]
def wsX10_ask_r3 : List Cond := [Cond.code yX10_collect cX10_collect 6 none, Cond.fieldLink RX10 117 "FairRentsModel" "likes" "I", Cond.fieldLink RX10 32 "FairRentsModel" "likeArea" "[I", Cond.fieldLink RX10 41 "FairRentsModel" "likeDay" "[I", Cond.fieldLink RX10 44 "FairRentsModel" "isStruck" "[Z", Cond.fieldLink RX10 38 "FairRentsModel" "likeRent" "[I", Cond.fieldLink RX10 35 "FairRentsModel" "likePoints" "[I", Cond.methodLink RX10 103 yX10_pointsOf, Cond.instanceMethod yX10_pointsOf, Cond.selects RX10 yX10_pointsOf yX10_pointsOf, Cond.code yX10_pointsOf cX10_pointsOf 4 (some .int), Cond.fieldLink RX10 16 "FairRentsModel" "rooms" "[I", Cond.fieldLink RX10 7 "FairRentsModel" "kind" "[I", Cond.fieldLink RX10 19 "FairRentsModel" "floor" "[I"]
def wsX10_ask : List Cond := .code yX10_ask cX10_ask 3 (some .int) :: ((wsX10_ask_r1 ++ (wsX10_ask_r2 ++ wsX10_ask_r3)) ++ wsX100)
def wsX10_open_r1 : List Cond := [Cond.methodLink RX10 91 yX10_isHome, Cond.instanceMethod yX10_isHome, Cond.selects RX10 yX10_isHome yX10_isHome, Cond.initialized RX10, Cond.code yX10_isHome cX10_isHome 2 (some .boolean), Cond.fieldLink RX10 83 "FairRentsModel" "homes" "I", Cond.methodLink RX10 87 yX10_in, Cond.static yX10_in, Cond.code yX10_in cX10_in 3 (some .boolean), Cond.methodLink RX10 138 yX10_openOf, Cond.instanceMethod yX10_openOf, Cond.selects RX10 yX10_openOf yX10_openOf, Cond.code yX10_openOf cX10_openOf 4 (some .int), Cond.fieldLink RX10 62 "FairRentsModel" "entryDay" "[I", Cond.fieldLink RX10 107 "FairRentsModel" "today" "I", Cond.methodLink RX10 135 yX10_latestOf, Cond.instanceMethod yX10_latestOf, Cond.selects RX10 yX10_latestOf yX10_latestOf, Cond.code yX10_latestOf cX10_latestOf 3 (some .int), Cond.fieldLink RX10 132 "FairRentsModel" "entries" "I", Cond.fieldLink RX10 59 "FairRentsModel" "entryHome" "[I", Cond.fieldLink RX10 74 "FairRentsModel" "isGone" "[Z", Cond.methodLink RX10 113 yX10_lawOf, Cond.instanceMethod yX10_lawOf]
def wsX10_open_r2 : List Cond := [Cond.selects RX10 yX10_lawOf yX10_lawOf, Cond.code yX10_lawOf cX10_lawOf 3 (some .int), Cond.fieldLink RX10 25 "FairRentsModel" "laws" "[I", Cond.methodLink RX10 110 yX10_yearOf, Cond.instanceMethod yX10_yearOf, Cond.selects RX10 yX10_yearOf yX10_yearOf, Cond.code yX10_yearOf cX10_yearOf 3 (some .int), Cond.fieldLink RX10 28 "FairRentsModel" "isTold" "[Z"]
def wsX10_open : List Cond := .code yX10_open cX10_open 2 (some .int) :: ((wsX10_open_r1 ++ wsX10_open_r2) ++ wsX100)
def wsX10_appeal : List Cond := .code yX10_appeal cX10_appeal 3 (some .int) :: ([.fieldLink RX10 107 "FairRentsModel" "today" "I", .fieldLink RX10 62 "FairRentsModel" "entryDay" "[I", .fieldLink RX10 74 "FairRentsModel" "isGone" "[Z", .methodLink RX10 91 yX10_isHome, .instanceMethod yX10_isHome, .selects RX10 yX10_isHome yX10_isHome, .initialized RX10, .code yX10_isHome cX10_isHome 2 (some .boolean), .fieldLink RX10 83 "FairRentsModel" "homes" "I", .methodLink RX10 87 yX10_in, .static yX10_in, .code yX10_in cX10_in 3 (some .boolean), .methodLink RX10 135 yX10_latestOf, .instanceMethod yX10_latestOf, .selects RX10 yX10_latestOf yX10_latestOf, .code yX10_latestOf cX10_latestOf 3 (some .int), .fieldLink RX10 132 "FairRentsModel" "entries" "I", .fieldLink RX10 59 "FairRentsModel" "entryHome" "[I"] ++ wsX100)
def wsX10_entry : List Cond := .code yX10_entry cX10_entry 3 (some .int) :: ([.fieldLink RX10 132 "FairRentsModel" "entries" "I", .constant RX10 131 (-1000000000), .fieldLink RX10 59 "FairRentsModel" "entryHome" "[I", .fieldLink RX10 62 "FairRentsModel" "entryDay" "[I", .fieldLink RX10 65 "FairRentsModel" "entryRent" "[I", .fieldLink RX10 74 "FairRentsModel" "isGone" "[Z", .fieldLink RX10 68 "FairRentsModel" "entryHead" "[I", .methodLink RX10 87 yX10_in, .static yX10_in, .initialized RX10, .code yX10_in cX10_in 3 (some .boolean)] ++ wsX100)
def wsX10_latest : List Cond := .code yX10_latest cX10_latest 2 (some .int) :: ([.methodLink RX10 91 yX10_isHome, .instanceMethod yX10_isHome, .selects RX10 yX10_isHome yX10_isHome, .initialized RX10, .code yX10_isHome cX10_isHome 2 (some .boolean), .fieldLink RX10 83 "FairRentsModel" "homes" "I", .methodLink RX10 87 yX10_in, .static yX10_in, .code yX10_in cX10_in 3 (some .boolean), .methodLink RX10 135 yX10_latestOf, .instanceMethod yX10_latestOf, .selects RX10 yX10_latestOf yX10_latestOf, .code yX10_latestOf cX10_latestOf 3 (some .int), .fieldLink RX10 132 "FairRentsModel" "entries" "I", .fieldLink RX10 59 "FairRentsModel" "entryHome" "[I", .fieldLink RX10 74 "FairRentsModel" "isGone" "[Z"] ++ wsX100)
def wsX10_work : List Cond := .code yX10_work cX10_work 7 none :: ([.fieldLink RX10 47 "FairRentsModel" "letDay" "[I", .fieldLink RX10 132 "FairRentsModel" "entries" "I", .fieldLink RX10 59 "FairRentsModel" "entryHome" "[I", .fieldLink RX10 74 "FairRentsModel" "isGone" "[Z", .fieldLink RX10 71 "FairRentsModel" "entryLetting" "[I", .fieldLink RX10 53 "FairRentsModel" "letting" "[I", .fieldLink RX10 62 "FairRentsModel" "entryDay" "[I", .fieldLink RX10 80 "FairRentsModel" "dues" "[I", .fieldLink RX10 50 "FairRentsModel" "letRent" "[I", .fieldLink RX10 65 "FairRentsModel" "entryRent" "[I", .methodLink RX10 113 yX10_lawOf, .instanceMethod yX10_lawOf, .selects RX10 yX10_lawOf yX10_lawOf, .initialized RX10, .code yX10_lawOf cX10_lawOf 3 (some .int), .fieldLink RX10 25 "FairRentsModel" "laws" "[I", .methodLink RX10 110 yX10_yearOf, .instanceMethod yX10_yearOf, .selects RX10 yX10_yearOf yX10_yearOf, .code yX10_yearOf cX10_yearOf 3 (some .int), .fieldLink RX10 28 "FairRentsModel" "isTold" "[Z"] ++ wsX100)
def wsX10_due_r1 : List Cond := [Cond.fieldLink RX10 107 "FairRentsModel" "today" "I", Cond.fieldLink RX10 47 "FairRentsModel" "letDay" "[I", Cond.fieldLink RX10 80 "FairRentsModel" "dues" "[I", Cond.methodLink RX10 91 yX10_isHome, Cond.instanceMethod yX10_isHome, Cond.selects RX10 yX10_isHome yX10_isHome, Cond.initialized RX10, Cond.code yX10_isHome cX10_isHome 2 (some .boolean), Cond.fieldLink RX10 83 "FairRentsModel" "homes" "I", Cond.methodLink RX10 87 yX10_in, Cond.static yX10_in, Cond.code yX10_in cX10_in 3 (some .boolean), Cond.methodLink RX10 141 yX10_work, Cond.instanceMethod yX10_work, Cond.selects RX10 yX10_work yX10_work, Cond.code yX10_work cX10_work 7 none, Cond.fieldLink RX10 132 "FairRentsModel" "entries" "I", Cond.fieldLink RX10 59 "FairRentsModel" "entryHome" "[I", Cond.fieldLink RX10 74 "FairRentsModel" "isGone" "[Z", Cond.fieldLink RX10 71 "FairRentsModel" "entryLetting" "[I", Cond.fieldLink RX10 53 "FairRentsModel" "letting" "[I", Cond.fieldLink RX10 62 "FairRentsModel" "entryDay" "[I", Cond.fieldLink RX10 50 "FairRentsModel" "letRent" "[I", Cond.fieldLink RX10 65 "FairRentsModel" "entryRent" "[I"]
def wsX10_due_r2 : List Cond := [Cond.methodLink RX10 113 yX10_lawOf, Cond.instanceMethod yX10_lawOf, Cond.selects RX10 yX10_lawOf yX10_lawOf, Cond.code yX10_lawOf cX10_lawOf 3 (some .int), Cond.fieldLink RX10 25 "FairRentsModel" "laws" "[I", Cond.methodLink RX10 110 yX10_yearOf, Cond.instanceMethod yX10_yearOf, Cond.selects RX10 yX10_yearOf yX10_yearOf, Cond.code yX10_yearOf cX10_yearOf 3 (some .int), Cond.fieldLink RX10 28 "FairRentsModel" "isTold" "[Z"]
def wsX10_due : List Cond := .code yX10_due cX10_due 3 (some .int) :: ((wsX10_due_r1 ++ wsX10_due_r2) ++ wsX100)
def wsX10_paidBy : List Cond := .code yX10_paidBy cX10_paidBy 5 (some .int) :: ([.fieldLink RX10 56 "FairRentsModel" "paid" "[I"] ++ wsX100)
def wsX10_pay : List Cond := .code yX10_pay cX10_pay 4 (some .int) :: ([.constant RX10 144 (100000), .fieldLink RX10 47 "FairRentsModel" "letDay" "[I", .fieldLink RX10 107 "FairRentsModel" "today" "I", .constant RX10 148 (1000000), .fieldLink RX10 56 "FairRentsModel" "paid" "[I", .methodLink RX10 91 yX10_isHome, .instanceMethod yX10_isHome, .selects RX10 yX10_isHome yX10_isHome, .initialized RX10, .code yX10_isHome cX10_isHome 2 (some .boolean), .fieldLink RX10 83 "FairRentsModel" "homes" "I", .methodLink RX10 87 yX10_in, .static yX10_in, .code yX10_in cX10_in 3 (some .boolean), .methodLink RX10 145 yX10_paidBy, .instanceMethod yX10_paidBy, .selects RX10 yX10_paidBy yX10_paidBy, .code yX10_paidBy cX10_paidBy 5 (some .int)] ++ wsX100)
def wsX10_owed_r1 : List Cond := [Cond.fieldLink RX10 107 "FairRentsModel" "today" "I", Cond.fieldLink RX10 47 "FairRentsModel" "letDay" "[I", Cond.constant RX10 131 (-1000000000), Cond.fieldLink RX10 80 "FairRentsModel" "dues" "[I", Cond.methodLink RX10 91 yX10_isHome, Cond.instanceMethod yX10_isHome, Cond.selects RX10 yX10_isHome yX10_isHome, Cond.initialized RX10, Cond.code yX10_isHome cX10_isHome 2 (some .boolean), Cond.fieldLink RX10 83 "FairRentsModel" "homes" "I", Cond.methodLink RX10 87 yX10_in, Cond.static yX10_in, Cond.code yX10_in cX10_in 3 (some .boolean), Cond.methodLink RX10 141 yX10_work, Cond.instanceMethod yX10_work, Cond.selects RX10 yX10_work yX10_work, Cond.code yX10_work cX10_work 7 none, Cond.fieldLink RX10 132 "FairRentsModel" "entries" "I", Cond.fieldLink RX10 59 "FairRentsModel" "entryHome" "[I", Cond.fieldLink RX10 74 "FairRentsModel" "isGone" "[Z", Cond.fieldLink RX10 71 "FairRentsModel" "entryLetting" "[I", Cond.fieldLink RX10 53 "FairRentsModel" "letting" "[I", Cond.fieldLink RX10 62 "FairRentsModel" "entryDay" "[I", Cond.fieldLink RX10 50 "FairRentsModel" "letRent" "[I"]
def wsX10_owed_r2 : List Cond := [Cond.fieldLink RX10 65 "FairRentsModel" "entryRent" "[I", Cond.methodLink RX10 113 yX10_lawOf, Cond.instanceMethod yX10_lawOf, Cond.selects RX10 yX10_lawOf yX10_lawOf, Cond.code yX10_lawOf cX10_lawOf 3 (some .int), Cond.fieldLink RX10 25 "FairRentsModel" "laws" "[I", Cond.methodLink RX10 110 yX10_yearOf, Cond.instanceMethod yX10_yearOf, Cond.selects RX10 yX10_yearOf yX10_yearOf, Cond.code yX10_yearOf cX10_yearOf 3 (some .int), Cond.fieldLink RX10 28 "FairRentsModel" "isTold" "[Z", Cond.methodLink RX10 145 yX10_paidBy, Cond.instanceMethod yX10_paidBy, Cond.selects RX10 yX10_paidBy yX10_paidBy, Cond.code yX10_paidBy cX10_paidBy 5 (some .int), Cond.fieldLink RX10 56 "FairRentsModel" "paid" "[I"]
def wsX10_owed : List Cond := .code yX10_owed cX10_owed 5 (some .int) :: ((wsX10_owed_r1 ++ wsX10_owed_r2) ++ wsX100)
def wsX10_count : List Cond := .code yX10_count cX10_count 4 (some .int) :: ([.fieldLink RX10 83 "FairRentsModel" "homes" "I", .fieldLink RX10 117 "FairRentsModel" "likes" "I", .fieldLink RX10 132 "FairRentsModel" "entries" "I", .fieldLink RX10 107 "FairRentsModel" "today" "I", .fieldLink RX10 47 "FairRentsModel" "letDay" "[I", .fieldLink RX10 28 "FairRentsModel" "isTold" "[Z"] ++ wsX100)
def wsX10_trace : List Cond := .code yX10_trace cX10_trace 1 (some .long) :: ([.fieldLink RX10 95 "FairRentsModel" "trace" "J"] ++ wsX100)
def wsJ9_max_7cf53 : List Cond := .code yJ9_max_7cf53 cJ9_max_7cf53 2 (some .int) :: ([])
def wsJ9_min_7cf53 : List Cond := .code yJ9_min_7cf53 cJ9_min_7cf53 2 (some .int) :: ([])
def wsL_law_r1 : List Cond := [Cond.classLink RL 7 RX9, Cond.instantiable RX9 12, Cond.initialized RX9, Cond.classLink RL 10 RX10, Cond.instantiable RX10 30, Cond.initialized RX10, Cond.methodLink RL 9 yX9_init, Cond.instanceMethod yX9_init, Cond.code yX9_init cX9_init 1 none, Cond.methodLink RX9 1 objectInit, Cond.instanceMethod objectInit, Cond.code objectInit ⟨#[0xb1]⟩ 1 none, Cond.classLink RX9 9 RX3, Cond.fieldLink RX9 11 "FairRents" "homes" "[LFairRents$Home;", Cond.classLink RX9 15 RX6, Cond.fieldLink RX9 17 "FairRents" "likes" "[LFairRents$Like;", Cond.classLink RX9 21 RX0, Cond.fieldLink RX9 23 "FairRents" "entries" "[LFairRents$Entry;", Cond.classLink RX9 27 RX4, Cond.fieldLink RX9 29 "FairRents" "laws" "[LFairRents$Law;", Cond.instantiable RX4 1, Cond.initialized RX4, Cond.arrayClass .int, Cond.fieldLink RX9 36 "FairRents" "firstLaw" "LFairRents$Law;"]
def wsL_law_r2 : List Cond := [Cond.classLink RX9 40 RX2, Cond.instantiable RX2 5, Cond.initialized RX2, Cond.fieldLink RX9 43 "FairRents" "heads" "LFairRents$Heads;", Cond.fieldLink RX9 47 "FairRents" "dues" "[I", Cond.methodLink RX9 33 yX4_init, Cond.instanceMethod yX4_init, Cond.code yX4_init cX4_init 2 none, Cond.methodLink RX4 3 objectInit, Cond.fieldLink RX4 9 "FairRents$Law" "numbers" "[I", Cond.instanceMethod yX2_init, Cond.code yX2_init cX2_init 1 none, Cond.methodLink RX2 3 objectInit, Cond.fieldLink RX2 9 "FairRents$Heads" "ordered" "[I", Cond.methodLink RL 12 yX10_init, Cond.instanceMethod yX10_init, Cond.code yX10_init cX10_init 1 none, Cond.methodLink RX10 1 objectInit, Cond.fieldLink RX10 7 "FairRentsModel" "kind" "[I", Cond.fieldLink RX10 13 "FairRentsModel" "area" "[I", Cond.fieldLink RX10 16 "FairRentsModel" "rooms" "[I", Cond.fieldLink RX10 19 "FairRentsModel" "floor" "[I", Cond.fieldLink RX10 22 "FairRentsModel" "faults" "[I", Cond.fieldLink RX10 25 "FairRentsModel" "laws" "[I"]
def wsL_law_r3 : List Cond := [Cond.arrayClass .boolean, Cond.fieldLink RX10 28 "FairRentsModel" "isTold" "[Z", Cond.fieldLink RX10 32 "FairRentsModel" "likeArea" "[I", Cond.fieldLink RX10 35 "FairRentsModel" "likePoints" "[I", Cond.fieldLink RX10 38 "FairRentsModel" "likeRent" "[I", Cond.fieldLink RX10 41 "FairRentsModel" "likeDay" "[I", Cond.fieldLink RX10 44 "FairRentsModel" "isStruck" "[Z", Cond.fieldLink RX10 47 "FairRentsModel" "letDay" "[I", Cond.fieldLink RX10 50 "FairRentsModel" "letRent" "[I", Cond.fieldLink RX10 53 "FairRentsModel" "letting" "[I", Cond.fieldLink RX10 56 "FairRentsModel" "paid" "[I", Cond.fieldLink RX10 59 "FairRentsModel" "entryHome" "[I", Cond.fieldLink RX10 62 "FairRentsModel" "entryDay" "[I", Cond.fieldLink RX10 65 "FairRentsModel" "entryRent" "[I", Cond.fieldLink RX10 68 "FairRentsModel" "entryHead" "[I", Cond.fieldLink RX10 71 "FairRentsModel" "entryLetting" "[I", Cond.fieldLink RX10 74 "FairRentsModel" "isGone" "[Z", Cond.fieldLink RX10 77 "FairRentsModel" "right" "[I", Cond.fieldLink RX10 80 "FairRentsModel" "dues" "[I", Cond.methodLink RL 13 yX9_home, Cond.instanceMethod yX9_home, Cond.selects RX9 yX9_home yX9_home, Cond.code yX9_home cX9_home 5 (some .int), Cond.fieldLink RX9 55 "FairRents" "homesMade" "I"]
def wsL_law_r4 : List Cond := [Cond.instantiable RX3 4, Cond.initialized RX3, Cond.methodLink RX9 51 yX9_within, Cond.static yX9_within, Cond.code yX9_within cX9_within 3 (some .boolean), Cond.methodLink RX9 59 yX9_bodyOf, Cond.static yX9_bodyOf, Cond.code yX9_bodyOf cX9_bodyOf 3 (some (.object "FairRents$Plain")), Cond.classLink RX9 82 RX8, Cond.instantiable RX8 1, Cond.initialized RX8, Cond.classLink RX9 225 RX1, Cond.instantiable RX1 2, Cond.initialized RX1, Cond.classLink RX9 229 RX7, Cond.instantiable RX7 2, Cond.initialized RX7, Cond.methodLink RX9 222 yX8_init, Cond.instanceMethod yX8_init, Cond.code yX8_init cX8_init 2 none, Cond.methodLink RX8 1 objectInit, Cond.fieldLink RX8 7 "FairRents$Plain" "rooms" "I", Cond.methodLink RX9 227 yX1_init, Cond.instanceMethod yX1_init]
def wsL_law_r5 : List Cond := [Cond.code yX1_init cX1_init 3 none, Cond.fieldLink RX1 7 "FairRents$Flat" "floor" "I", Cond.methodLink RX1 1 yX8_init, Cond.methodLink RX9 231 yX7_init, Cond.instanceMethod yX7_init, Cond.code yX7_init cX7_init 3 none, Cond.methodLink RX7 1 yX1_init, Cond.methodLink RX9 63 yX3_init, Cond.instanceMethod yX3_init, Cond.code yX3_init cX3_init 3 none, Cond.methodLink RX3 1 objectInit, Cond.fieldLink RX3 7 "FairRents$Home" "body" "LFairRents$Plain;", Cond.fieldLink RX3 13 "FairRents$Home" "area" "I", Cond.classLink RX3 17 RX5, Cond.instantiable RX5 5, Cond.initialized RX5, Cond.fieldLink RX3 20 "FairRents$Home" "letting" "LFairRents$Letting;", Cond.instanceMethod yX5_init, Cond.code yX5_init cX5_init 1 none, Cond.methodLink RX5 3 objectInit, Cond.fieldLink RX5 9 "FairRents$Letting" "sums" "[I", Cond.methodLink RL 17 yX10_home, Cond.instanceMethod yX10_home, Cond.selects RX10 yX10_home yX10_home]
def wsL_law_r6 : List Cond := [Cond.code yX10_home cX10_home 5 (some .int), Cond.fieldLink RX10 83 "FairRentsModel" "homes" "I", Cond.methodLink RX10 87 yX10_in, Cond.static yX10_in, Cond.code yX10_in cX10_in 3 (some .boolean), Cond.methodLink RL 18 yX9_faults, Cond.instanceMethod yX9_faults, Cond.selects RX9 yX9_faults yX9_faults, Cond.code yX9_faults cX9_faults 5 (some .int), Cond.fieldLink RX9 70 "FairRents$Home" "faults" "I", Cond.methodLink RX9 66 yX9_homeAt, Cond.instanceMethod yX9_homeAt, Cond.selects RX9 yX9_homeAt yX9_homeAt, Cond.code yX9_homeAt cX9_homeAt 2 (some (.object "FairRents$Home")), Cond.methodLink RL 22 yX10_faults, Cond.instanceMethod yX10_faults, Cond.selects RX10 yX10_faults yX10_faults, Cond.code yX10_faults cX10_faults 4 (some .int), Cond.methodLink RX10 91 yX10_isHome, Cond.instanceMethod yX10_isHome, Cond.selects RX10 yX10_isHome yX10_isHome, Cond.code yX10_isHome cX10_isHome 2 (some .boolean), Cond.methodLink RL 23 yX9_points, Cond.instanceMethod yX9_points]
def wsL_law_r7 : List Cond := [Cond.selects RX9 yX9_points yX9_points, Cond.code yX9_points cX9_points 3 (some .int), Cond.fieldLink RX9 73 "FairRents" "traced" "J", Cond.fieldLink RX9 77 "FairRents$Home" "body" "LFairRents$Plain;", Cond.methodLink RX9 81 ⟨"FairRents$Plain", "marks", "()I"⟩, Cond.sameMethod "FairRents$Plain" "FairRents$Plain" "marks" "()I", Cond.instanceMethod ⟨"FairRents$Plain", "marks", "()I"⟩, Cond.selects RX1 ⟨"FairRents$Plain", "marks", "()I"⟩ yX1_marks, Cond.instanceMethod yX1_marks, Cond.code yX1_marks cX1_marks 1 (some .int), Cond.methodLink RX1 17 yX8_marks, Cond.superclass RX1 RX8, Cond.instanceMethod yX8_marks, Cond.code yX8_marks cX8_marks 1 (some .int), Cond.selects RX7 ⟨"FairRents$Plain", "marks", "()I"⟩ yX7_marks, Cond.instanceMethod yX7_marks, Cond.code yX7_marks cX7_marks 1 (some .int), Cond.methodLink RX7 17 yX1_marks, Cond.sameMethod "FairRents$Flat" "FairRents$Flat" "marks" "()I", Cond.superclass RX7 RX1, Cond.methodLink RX9 81 yX8_marks, Cond.selects RX8 yX8_marks yX8_marks, Cond.methodLink RX9 87 ⟨"FairRents$Plain", "worth", "()I"⟩, Cond.sameMethod "FairRents$Plain" "FairRents$Plain" "worth" "()I"]
def wsL_law_r8 : List Cond := [Cond.instanceMethod ⟨"FairRents$Plain", "worth", "()I"⟩, Cond.selects RX1 ⟨"FairRents$Plain", "worth", "()I"⟩ yX1_worth, Cond.instanceMethod yX1_worth, Cond.code yX1_worth cX1_worth 1 (some .int), Cond.methodLink RX1 13 yX8_worth, Cond.instanceMethod yX8_worth, Cond.code yX8_worth cX8_worth 1 (some .int), Cond.selects RX7 ⟨"FairRents$Plain", "worth", "()I"⟩ yX7_worth, Cond.instanceMethod yX7_worth, Cond.code yX7_worth cX7_worth 2 (some .int), Cond.methodLink RX7 7 yX1_worth, Cond.sameMethod "FairRents$Flat" "FairRents$Flat" "worth" "()I", Cond.methodLink RX7 11 yJ9_floorDiv_7cf53, Cond.static yJ9_floorDiv_7cf53, Cond.initialized RJ9, Cond.code yJ9_floorDiv_7cf53 cJ9_floorDiv_7cf53 3 (some .int), Cond.methodLink RX9 87 yX8_worth, Cond.selects RX8 yX8_worth yX8_worth, Cond.methodLink RL 27 yX10_points, Cond.instanceMethod yX10_points, Cond.selects RX10 yX10_points yX10_points, Cond.code yX10_points cX10_points 2 (some .int), Cond.fieldLink RX10 95 "FairRentsModel" "trace" "J", Cond.constantLong RX10 99 (11)]
def wsL_law_r9 : List Cond := [Cond.constantLong RX10 101 (111), Cond.methodLink RX10 103 yX10_pointsOf, Cond.instanceMethod yX10_pointsOf, Cond.selects RX10 yX10_pointsOf yX10_pointsOf, Cond.code yX10_pointsOf cX10_pointsOf 4 (some .int), Cond.methodLink RL 28 yX9_law, Cond.instanceMethod yX9_law, Cond.selects RX9 yX9_law yX9_law, Cond.code yX9_law cX9_law 10 (some .int), Cond.fieldLink RX9 94 "FairRents" "today" "I", Cond.methodLink RX9 90 yX9_lawful, Cond.static yX9_lawful, Cond.code yX9_lawful cX9_lawful 2 (some .boolean), Cond.fieldLink RX9 216 "FairRents" "LAW_LEAST" "[I", Cond.fieldLink RX9 219 "FairRents" "LAW_MOST" "[I", Cond.methodLink RL 32 yX10_law, Cond.instanceMethod yX10_law, Cond.selects RX10 yX10_law yX10_law, Cond.code yX10_law cX10_law 11 (some .int), Cond.fieldLink RX10 107 "FairRentsModel" "today" "I", Cond.methodLink RL 33 yX9_force, Cond.instanceMethod yX9_force, Cond.selects RX9 yX9_force yX9_force, Cond.code yX9_force cX9_force 3 (some .int)]
def wsL_law_r10 : List Cond := [Cond.methodLink RX9 97 yX9_lawOn, Cond.instanceMethod yX9_lawOn, Cond.selects RX9 yX9_lawOn yX9_lawOn, Cond.code yX9_lawOn cX9_lawOn 4 (some (.object "FairRents$Law")), Cond.methodLink RX9 232 Lib.Math.min.name, Cond.static Lib.Math.min.name, Cond.initialized "java/lang/Math", Cond.code Lib.Math.min.name Lib.Math.min.code 2 (some .int), Cond.methodLink RX9 101 yX4_number, Cond.instanceMethod yX4_number, Cond.selects RX4 yX4_number yX4_number, Cond.code yX4_number cX4_number 2 (some .int), Cond.methodLink RL 36 yX10_force, Cond.instanceMethod yX10_force, Cond.selects RX10 yX10_force yX10_force, Cond.code yX10_force cX10_force 3 (some .int), Cond.methodLink RX10 113 yX10_lawOf, Cond.instanceMethod yX10_lawOf, Cond.selects RX10 yX10_lawOf yX10_lawOf, Cond.code yX10_lawOf cX10_lawOf 3 (some .int), Cond.methodLink RX10 110 yX10_yearOf, Cond.instanceMethod yX10_yearOf, Cond.selects RX10 yX10_yearOf yX10_yearOf, Cond.code yX10_yearOf cX10_yearOf 3 (some .int)]
def wsL_law_r11 : List Cond := [Cond.methodLink RL 37 yX9_like, Cond.instanceMethod yX9_like, Cond.selects RX9 yX9_like yX9_like, Cond.code yX9_like cX9_like 4 (some .int), Cond.fieldLink RX9 105 "FairRents" "likesTold" "I", Cond.instantiable RX6 5, Cond.initialized RX6, Cond.methodLink RX9 108 yX6_init, Cond.instanceMethod yX6_init, Cond.code yX6_init cX6_init 5 none, Cond.methodLink RX6 1 objectInit, Cond.fieldLink RX6 7 "FairRents$Like" "area" "I", Cond.fieldLink RX6 13 "FairRents$Like" "points" "I", Cond.fieldLink RX6 16 "FairRents$Like" "rent" "I", Cond.fieldLink RX6 19 "FairRents$Like" "day" "I", Cond.methodLink RL 41 yX10_like, Cond.instanceMethod yX10_like, Cond.selects RX10 yX10_like yX10_like, Cond.code yX10_like cX10_like 4 (some .int), Cond.fieldLink RX10 117 "FairRentsModel" "likes" "I", Cond.methodLink RL 42 yX9_strike, Cond.instanceMethod yX9_strike, Cond.selects RX9 yX9_strike yX9_strike, Cond.code yX9_strike cX9_strike 3 (some .int)]
def wsL_law_r12 : List Cond := [Cond.fieldLink RX9 111 "FairRents$Like" "struck" "Z", Cond.methodLink RL 45 yX10_strike, Cond.instanceMethod yX10_strike, Cond.selects RX10 yX10_strike yX10_strike, Cond.code yX10_strike cX10_strike 2 (some .int), Cond.methodLink RL 46 yX9_days, Cond.instanceMethod yX9_days, Cond.selects RX9 yX9_days yX9_days, Cond.code yX9_days cX9_days 2 (some .int), Cond.methodLink RL 49 yX10_days, Cond.instanceMethod yX10_days, Cond.selects RX10 yX10_days yX10_days, Cond.code yX10_days cX10_days 2 (some .int), Cond.methodLink RL 50 yX9_head, Cond.instanceMethod yX9_head, Cond.selects RX9 yX9_head yX9_head, Cond.code yX9_head cX9_head 5 (some .int), Cond.constant RX9 115 (-1000000000), Cond.fieldLink RX9 120 "FairRents$Heads" "middle" "I", Cond.fieldLink RX9 123 "FairRents$Heads" "scarcity" "I", Cond.fieldLink RX9 126 "FairRents$Heads" "repairs" "I", Cond.fieldLink RX9 132 "FairRents$Heads" "counted" "I", Cond.methodLink RX9 116 yX2_work, Cond.instanceMethod yX2_work]
def wsL_law_r13 : List Cond := [Cond.selects RX2 yX2_work yX2_work, Cond.code yX2_work cX2_work 10 none, Cond.fieldLink RX2 15 "FairRents$Heads" "counted" "I", Cond.fieldLink RX2 19 "FairRents$Home" "body" "LFairRents$Plain;", Cond.fieldLink RX2 31 "FairRents$Home" "area" "I", Cond.fieldLink RX2 57 "FairRents$Heads" "middle" "I", Cond.fieldLink RX2 60 "FairRents$Heads" "scarcity" "I", Cond.fieldLink RX2 63 "FairRents$Home" "faults" "I", Cond.fieldLink RX2 66 "FairRents$Heads" "repairs" "I", Cond.methodLink RX2 25 ⟨"FairRents$Plain", "worth", "()I"⟩, Cond.methodLink RX2 25 yX8_worth, Cond.methodLink RX2 34 yX6_countsFor, Cond.instanceMethod yX6_countsFor, Cond.selects RX6 yX6_countsFor yX6_countsFor, Cond.code yX6_countsFor cX6_countsFor 3 (some .boolean), Cond.fieldLink RX6 22 "FairRents$Like" "struck" "Z", Cond.methodLink RX2 40 yX4_number, Cond.methodLink RX2 46 yX6_putRight, Cond.instanceMethod yX6_putRight, Cond.selects RX6 yX6_putRight yX6_putRight, Cond.code yX6_putRight cX6_putRight 3 (some .int), Cond.methodLink RX2 50 yX2_insert, Cond.instanceMethod yX2_insert, Cond.selects RX2 yX2_insert yX2_insert]
def wsL_law_r14 : List Cond := [Cond.code yX2_insert cX2_insert 3 none, Cond.methodLink RX2 54 yX2_lowerMiddle, Cond.instanceMethod yX2_lowerMiddle, Cond.selects RX2 yX2_lowerMiddle yX2_lowerMiddle, Cond.code yX2_lowerMiddle cX2_lowerMiddle 2 (some .int), Cond.methodLink RX9 129 yX2_fairRent, Cond.instanceMethod yX2_fairRent, Cond.selects RX2 yX2_fairRent yX2_fairRent, Cond.code yX2_fairRent cX2_fairRent 1 (some .int), Cond.methodLink RX2 69 Lib.Math.max.name, Cond.static Lib.Math.max.name, Cond.code Lib.Math.max.name Lib.Math.max.code 2 (some .int), Cond.methodLink RL 53 yX10_head, Cond.instanceMethod yX10_head, Cond.selects RX10 yX10_head yX10_head, Cond.code yX10_head cX10_head 4 (some .int), Cond.constant RX10 131 (-1000000000), Cond.methodLink RX10 127 yX10_headOf, Cond.instanceMethod yX10_headOf, Cond.selects RX10 yX10_headOf yX10_headOf, Cond.code yX10_headOf cX10_headOf 8 (some .int), Cond.fieldLink RX10 120 "FairRentsModel" "counted" "I", Cond.methodLink RX10 123 yX10_collect, Cond.instanceMethod yX10_collect]
def wsL_law_r15 : List Cond := [Cond.selects RX10 yX10_collect yX10_collect, Cond.code yX10_collect cX10_collect 6 none, Cond.methodLink RL 54 yX9_let, Cond.instanceMethod yX9_let, Cond.selects RX9 yX9_let yX9_let, Cond.code yX9_let cX9_let 4 (some .int), Cond.fieldLink RX9 135 "FairRents$Home" "letting" "LFairRents$Letting;", Cond.methodLink RX9 139 yX5_begin, Cond.instanceMethod yX5_begin, Cond.selects RX5 yX5_begin yX5_begin, Cond.code yX5_begin cX5_begin 4 none, Cond.fieldLink RX5 15 "FairRents$Letting" "number" "I", Cond.fieldLink RX5 23 "FairRents$Letting" "first" "I", Cond.fieldLink RX5 26 "FairRents$Letting" "rent" "I", Cond.fieldLink RX5 29 "FairRents$Letting" "paid" "I", Cond.methodLink RL 57 yX10_let, Cond.instanceMethod yX10_let, Cond.selects RX10 yX10_let yX10_let, Cond.code yX10_let cX10_let 4 (some .int), Cond.methodLink RL 58 yX9_ask, Cond.instanceMethod yX9_ask, Cond.selects RX9 yX9_ask yX9_ask, Cond.code yX9_ask cX9_ask 4 (some .int), Cond.fieldLink RX9 152 "FairRents" "entriesMade" "I"]
def wsL_law_r16 : List Cond := [Cond.instantiable RX0 9, Cond.initialized RX0, Cond.fieldLink RX9 155 "FairRents$Letting" "number" "I", Cond.methodLink RX9 145 yX5_isLet, Cond.instanceMethod yX5_isLet, Cond.selects RX5 yX5_isLet yX5_isLet, Cond.code yX5_isLet cX5_isLet 1 (some .boolean), Cond.methodLink RX9 149 yX9_barEnd, Cond.instanceMethod yX9_barEnd, Cond.selects RX9 yX9_barEnd yX9_barEnd, Cond.code yX9_barEnd cX9_barEnd 3 (some .int), Cond.fieldLink RX9 173 "FairRents$Entry" "day" "I", Cond.fieldLink RX9 235 "FairRents$Entry" "law" "LFairRents$Law;", Cond.methodLink RX9 166 yX9_latestStanding, Cond.instanceMethod yX9_latestStanding, Cond.selects RX9 yX9_latestStanding yX9_latestStanding, Cond.code yX9_latestStanding cX9_latestStanding 4 (some .int), Cond.fieldLink RX9 176 "FairRents$Entry" "stands" "Z", Cond.fieldLink RX9 179 "FairRents$Entry" "home" "I", Cond.methodLink RX9 169 yX9_entryAt, Cond.instanceMethod yX9_entryAt, Cond.selects RX9 yX9_entryAt yX9_entryAt, Cond.code yX9_entryAt cX9_entryAt 2 (some (.object "FairRents$Entry")), Cond.methodLink RX9 157 yX0_init]
def wsL_law_r17 : List Cond := [Cond.instanceMethod yX0_init, Cond.code yX0_init cX0_init 6 none, Cond.methodLink RX0 3 objectInit, Cond.fieldLink RX0 9 "FairRents$Entry" "home" "I", Cond.fieldLink RX0 15 "FairRents$Entry" "letting" "I", Cond.fieldLink RX0 18 "FairRents$Entry" "day" "I", Cond.fieldLink RX0 21 "FairRents$Entry" "law" "LFairRents$Law;", Cond.fieldLink RX0 31 "FairRents$Entry" "rent" "I", Cond.fieldLink RX0 34 "FairRents$Heads" "middle" "I", Cond.fieldLink RX0 37 "FairRents$Entry" "middle" "I", Cond.fieldLink RX0 38 "FairRents$Heads" "scarcity" "I", Cond.fieldLink RX0 41 "FairRents$Entry" "scarcity" "I", Cond.fieldLink RX0 42 "FairRents$Heads" "repairs" "I", Cond.fieldLink RX0 45 "FairRents$Entry" "repairs" "I", Cond.fieldLink RX0 46 "FairRents$Entry" "stands" "Z", Cond.methodLink RX0 25 yX2_fairRent, Cond.methodLink RL 61 yX10_ask, Cond.instanceMethod yX10_ask, Cond.selects RX10 yX10_ask yX10_ask, Cond.code yX10_ask cX10_ask 3 (some .int), Cond.fieldLink RX10 132 "FairRentsModel" "entries" "I", Cond.methodLink RX10 138 yX10_openOf, Cond.instanceMethod yX10_openOf, Cond.selects RX10 yX10_openOf yX10_openOf]
def wsL_law_r18 : List Cond := [Cond.code yX10_openOf cX10_openOf 4 (some .int), Cond.methodLink RX10 135 yX10_latestOf, Cond.instanceMethod yX10_latestOf, Cond.selects RX10 yX10_latestOf yX10_latestOf, Cond.code yX10_latestOf cX10_latestOf 3 (some .int), Cond.methodLink RL 62 yX9_open, Cond.instanceMethod yX9_open, Cond.selects RX9 yX9_open yX9_open, Cond.code yX9_open cX9_open 2 (some .int), Cond.methodLink RX9 160 Lib.Math.max.name, Cond.methodLink RL 65 yX10_open, Cond.instanceMethod yX10_open, Cond.selects RX10 yX10_open yX10_open, Cond.code yX10_open cX10_open 2 (some .int), Cond.methodLink RL 66 yX9_appeal, Cond.instanceMethod yX9_appeal, Cond.selects RX9 yX9_appeal yX9_appeal, Cond.code yX9_appeal cX9_appeal 4 (some .int), Cond.methodLink RL 69 yX10_appeal, Cond.instanceMethod yX10_appeal, Cond.selects RX10 yX10_appeal yX10_appeal, Cond.code yX10_appeal cX10_appeal 3 (some .int), Cond.methodLink RL 70 yX9_entry, Cond.instanceMethod yX9_entry]
def wsL_law_r19 : List Cond := [Cond.selects RX9 yX9_entry yX9_entry, Cond.code yX9_entry cX9_entry 4 (some .int), Cond.fieldLink RX9 182 "FairRents$Entry" "rent" "I", Cond.fieldLink RX9 185 "FairRents$Entry" "middle" "I", Cond.fieldLink RX9 186 "FairRents$Entry" "scarcity" "I", Cond.fieldLink RX9 187 "FairRents$Entry" "repairs" "I", Cond.methodLink RL 73 yX10_entry, Cond.instanceMethod yX10_entry, Cond.selects RX10 yX10_entry yX10_entry, Cond.code yX10_entry cX10_entry 3 (some .int), Cond.methodLink RL 74 yX9_latest, Cond.instanceMethod yX9_latest, Cond.selects RX9 yX9_latest yX9_latest, Cond.code yX9_latest cX9_latest 2 (some .int), Cond.methodLink RL 77 yX10_latest, Cond.instanceMethod yX10_latest, Cond.selects RX10 yX10_latest yX10_latest, Cond.code yX10_latest cX10_latest 2 (some .int), Cond.methodLink RL 78 yX9_due, Cond.instanceMethod yX9_due, Cond.selects RX9 yX9_due yX9_due, Cond.code yX9_due cX9_due 4 (some .int), Cond.methodLink RX9 188 yX5_covers, Cond.instanceMethod yX5_covers]
def wsL_law_r20 : List Cond := [Cond.selects RX5 yX5_covers yX5_covers, Cond.code yX5_covers cX5_covers 2 (some .boolean), Cond.methodLink RX5 19 yX5_isLet, Cond.methodLink RX9 192 yX9_workDues, Cond.instanceMethod yX9_workDues, Cond.selects RX9 yX9_workDues yX9_workDues, Cond.code yX9_workDues cX9_workDues 10 (some .int), Cond.fieldLink RX9 238 "FairRents$Letting" "rent" "I", Cond.fieldLink RX9 204 "FairRents$Letting" "first" "I", Cond.methodLink RX9 239 yX0_binds, Cond.instanceMethod yX0_binds, Cond.selects RX0 yX0_binds yX0_binds, Cond.code yX0_binds cX0_binds 3 (some .boolean), Cond.methodLink RX9 243 yX0_steppedFrom, Cond.instanceMethod yX0_steppedFrom, Cond.selects RX0 yX0_steppedFrom yX0_steppedFrom, Cond.code yX0_steppedFrom cX0_steppedFrom 4 (some .int), Cond.methodLink RX0 56 Lib.Math.min.name, Cond.methodLink RX0 50 yX4_number, Cond.methodLink RL 81 yX10_due, Cond.instanceMethod yX10_due, Cond.selects RX10 yX10_due yX10_due, Cond.code yX10_due cX10_due 3 (some .int), Cond.methodLink RX10 141 yX10_work]
def wsL_law_r21 : List Cond := [Cond.instanceMethod yX10_work, Cond.selects RX10 yX10_work yX10_work, Cond.code yX10_work cX10_work 7 none, Cond.methodLink RL 82 yX9_pay, Cond.instanceMethod yX9_pay, Cond.selects RX9 yX9_pay yX9_pay, Cond.code yX9_pay cX9_pay 4 (some .int), Cond.constant RX9 196 (100000), Cond.fieldLink RX9 197 "FairRents$Letting" "paid" "I", Cond.constant RX9 200 (1000000), Cond.methodLink RX9 201 yX5_take, Cond.instanceMethod yX5_take, Cond.selects RX5 yX5_take yX5_take, Cond.code yX5_take cX5_take 3 none, Cond.methodLink RL 85 yX10_pay, Cond.instanceMethod yX10_pay, Cond.selects RX10 yX10_pay yX10_pay, Cond.code yX10_pay cX10_pay 4 (some .int), Cond.constant RX10 144 (100000), Cond.constant RX10 148 (1000000), Cond.methodLink RX10 145 yX10_paidBy, Cond.instanceMethod yX10_paidBy, Cond.selects RX10 yX10_paidBy yX10_paidBy, Cond.code yX10_paidBy cX10_paidBy 5 (some .int)]
def wsL_law_r22 : List Cond := [Cond.methodLink RL 86 yX9_owed, Cond.instanceMethod yX9_owed, Cond.selects RX9 yX9_owed yX9_owed, Cond.code yX9_owed cX9_owed 7 (some .int), Cond.methodLink RX9 207 yX5_paidOn, Cond.instanceMethod yX5_paidOn, Cond.selects RX5 yX5_paidOn yX5_paidOn, Cond.code yX5_paidOn cX5_paidOn 2 (some .int), Cond.methodLink RL 89 yX10_owed, Cond.instanceMethod yX10_owed, Cond.selects RX10 yX10_owed yX10_owed, Cond.code yX10_owed cX10_owed 5 (some .int), Cond.methodLink RL 90 yX9_count, Cond.instanceMethod yX9_count, Cond.selects RX9 yX9_count yX9_count, Cond.code yX9_count cX9_count 2 (some .int), Cond.methodLink RX9 210 yX9_homesLet, Cond.instanceMethod yX9_homesLet, Cond.selects RX9 yX9_homesLet yX9_homesLet, Cond.code yX9_homesLet cX9_homesLet 6 (some .int), Cond.methodLink RX9 213 yX9_lawsTold, Cond.instanceMethod yX9_lawsTold, Cond.selects RX9 yX9_lawsTold yX9_lawsTold, Cond.code yX9_lawsTold cX9_lawsTold 6 (some .int)]
def wsL_law_r23 : List Cond := [Cond.methodLink RL 93 yX10_count, Cond.instanceMethod yX10_count, Cond.selects RX10 yX10_count yX10_count, Cond.code yX10_count cX10_count 4 (some .int), Cond.methodLink RL 94 yX9_trace, Cond.instanceMethod yX9_trace, Cond.selects RX9 yX9_trace yX9_trace, Cond.code yX9_trace cX9_trace 1 (some .long), Cond.methodLink RL 98 yX10_trace, Cond.instanceMethod yX10_trace, Cond.selects RX10 yX10_trace yX10_trace, Cond.code yX10_trace cX10_trace 1 (some .long)]
def wsL_law : List Cond := (wsL_law_r1 ++ (wsL_law_r2 ++ (wsL_law_r3 ++ (wsL_law_r4 ++ (wsL_law_r5 ++ (wsL_law_r6 ++ (wsL_law_r7 ++ (wsL_law_r8 ++ (wsL_law_r9 ++ (wsL_law_r10 ++ (wsL_law_r11 ++ (wsL_law_r12 ++ (wsL_law_r13 ++ (wsL_law_r14 ++ (wsL_law_r15 ++ (wsL_law_r16 ++ (wsL_law_r17 ++ (wsL_law_r18 ++ (wsL_law_r19 ++ (wsL_law_r20 ++ (wsL_law_r21 ++ (wsL_law_r22 ++ wsL_law_r23)))))))))))))))))))))) ++ wsX90 ++ wsX100 ++ wsX40 ++ wsX20 ++ wsX30 ++ wsX80 ++ wsX10 ++ wsX70 ++ wsX50 ++ wsX60 ++ wsX00 ++ ([] : List Cond)
abbrev vwCl : List vw_C := [(RX0, TX0, 9), (RX1, TX1, 2), (RX2, TX2, 5), (RX3, TX3, 4), (RX4, TX4, 1), (RX5, TX5, 5), (RX6, TX6, 5), (RX7, TX7, 2), (RX8, TX8, 1), (RX9, TX9, 12), (RX10, TX10, 30)]
end
section
/-! THE LAYER: a world is a partial map from addresses to cells; a method gets the whole map; what it leaves is the map again. -/
abbrev zG : Type := Nat → Option va_E
def zT (cT : Nat → ClassId) : List (ClassId × FieldType) := [(cT 0, .int), (cT 1, .boolean), (cT 2, .object "FairRents$Home"), (cT 3, .object "FairRents$Like"), (cT 4, .object "FairRents$Entry"), (cT 5, .object "FairRents$Law")]
def zP (D : va_G) (G : zG) (H : Heap) : Prop := ∀ (a : Nat) (e : va_E), G a = some e → va_at D vwCl (a, e) H
def zA (G : zG) (sz : Nat) : Nat → Prop := fun q => G q ≠ none ∨ sz ≤ q
def zW (D : va_G) (A : Nat → Prop) (H0 : Heap) (G : zG) (H : Heap) (locs : List Loc) : Prop := zP D G H ∧ (∀ (a : Nat) (e : va_E), G a = some e → A a) ∧ va_S A H0 H locs
def zLeast : Nat → Int32 := fun j => if j = 3 then 1 else if j = 5 then 1 else 0
def zMost : Nat → Int32 := fun j => if j = 0 then 90 else if j = 1 then 90 else if j = 2 then 90 else if j = 3 then 9 else if j = 4 then 20 else if j = 5 then 500 else if j = 6 then 60 else 30
/-- what a start has beside the world: links to private members of nest mates, and the two tables of a law's bounds -/
def zE (A : Nat → Prop) (U : State) : Prop := (va_Nw (.methodLinkNest RX9 42 yX2_init RX9) U ∧ va_Nw (.methodLinkNest RX3 19 yX5_init RX9) U ∧ va_Nw (.methodLinkNest RX4 15 yX9_within RX9) U ∧ va_Nw (.methodLinkNest RX2 74 yX9_within RX9) U ∧ va_Nw (.methodLinkNest RX5 32 yX9_within RX9) U) ∧ (va_AO "FairRents$Home" U ∧ va_AO "FairRents$Like" U ∧ va_AO "FairRents$Entry" U ∧ va_AO "FairRents$Law" U) ∧
  ∃ t1 t2 : Nat, va_Z "FairRents" "LAW_LEAST" "[I" (.ref t1) A U U.heap ∧ va_T .int t1 8 (fun j => .int (zLeast j)) A U U.heap ∧ va_Z "FairRents" "LAW_MOST" "[I" (.ref t2) A U U.heap ∧ va_T .int t2 8 (fun j => .int (zMost j)) A U U.heap
theorem z_one {D : va_G} {G : zG} {H : Heap} {a : Nat} {e : va_E} (h : zP D G H) (he : G a = some e) : va_P D vwCl [(a, e)] H := by
  intro k q hk
  have hz : k < 1 := (List.getElem?_eq_some_iff.mp hk).1
  rw [show k = 0 by omega] at hk
  cases hk
  exact h a e he
theorem z_set {D : va_G} {G : zG} {H H1 : Heap} {a : Nat} {e : va_E} (h : zP D G H) (he : va_at D vwCl (a, e) H1) (oq : ∀ q : Nat, q ≠ a → H1[q]? = H[q]?) : zP D (va_up G a (some e)) H1 := by
  intro b x hb
  by_cases hba : b = a
  · subst hba
    rw [va_up_self] at hb
    cases hb
    exact he
  · rw [va_up_ne _ _ hba] at hb
    exact (h b x hb).kept (oq b hba)
theorem z_none {D : va_G} {G : zG} {H : Heap} (h : zP D G H) {q : Nat} (hq : H.size ≤ q) : G q = none := by
  cases hg : G q with
  | none => rfl
  | some e => exact absurd (h q e hg).lt (Nat.not_lt.mpr hq)
theorem z_push {D : va_G} {G : zG} {H H1 : Heap} {e : va_E} (h : zP D G H) (he : va_at D vwCl (H.size, e) H1) (oq : ∀ q : Nat, q < H.size → H1[q]? = H[q]?) : zP D (va_up G H.size (some e)) H1 := by
  intro b x hb
  by_cases hba : b = H.size
  · subst hba
    rw [va_up_self] at hb
    cases hb
    exact he
  · rw [va_up_ne _ _ hba] at hb
    exact (h b x hb).kept (oq b (h b x hb).lt)
theorem z_ne {G : zG} {a b : Nat} {x y : va_E} (ha : G a = some x) (hb : G b = some y) (h : x ≠ y) : a ≠ b := fun e => h (Option.some.inj (ha.symm.trans (by rw [e]; exact hb)))
theorem z_nef {G : zG} {a b : Nat} {x : va_E} (ha : G a = some x) (hb : G b = none) : a ≠ b := fun e => by rw [e, hb] at ha; cases ha
theorem z_upd_dom {A : Nat → Prop} {G : zG} {a : Nat} {e : va_E} (h : ∀ (a : Nat) (e : va_E), G a = some e → A a) (ha : A a) : ∀ (b : Nat) (x : va_E), va_up G a (some e) b = some x → A b := by
  intro b x hb
  by_cases hba : b = a
  · rw [hba]; exact ha
  · rw [va_up_ne _ _ hba] at hb
    exact h b x hb
section ZR
variable {p : Program} {l : Launch} {e : Env} {R : Room} {s : State} {m : MethodId} {args : Array Value} {below : List Frame} {meth : Method} {c : Code} {H : Heap} {locs : List Loc} {cells slots : Nat} {Q : State → Prop}
variable {cc : ByteArray} {pc : Nat} {ls : Array Slot} {rest : List Value} {D : va_G} {A : Nat → Prop} {a : Nat} {tys : List (ClassId × FieldType)} {G : zG} {H0 : Heap}
theorem z_get (hexec : p.tables.exec = Jvm.exec) (hb : c.code = cc) {own ref C : String} {T : u_T} {N ci index : Nat} {Ts : List Cond} (hts : ∀ w ∈ Ts, w.before args s = true) (hin : ∀ w ∈ u_ws C T N, w ∈ Ts) (hown : s.vm.findClass own = some m.cls) (hK : va_K D vwCl tys s) (hZ : zW D A H0 G H locs) {fs : List Value} (he : G a = some (.inr (ci, fs))) (hc : vwCl[ci]? = some (C, T, N)) (k : Nat) (hk : k < N) (hlink : (Cond.fieldLink own index ref (T k).2.1 (T k).2.2.1).before args s = true) (hsame : ∀ x, s.fieldFound? (T k).1 (T k).2.1 (T k).2.2.1 = some x → s.fieldFound? ref (T k).2.1 (T k).2.2.1 = some x) {v : Value} (hv : fs[k]? = some v) (hdg : decode cc pc = .ok (.getfield index, 3))
    (kk : W p l e R s m args below meth c H locs cells slots Q (F0 m (pc + 3) ls (v :: rest))) : W p l e R s m args below meth c H locs cells slots Q (F0 m pc ls (.ref a :: rest)) :=
  va_get hexec hb hts hin hown hK (z_one hZ.1 he) 0 rfl hc k hk hlink hsame hv hdg kk
theorem z_put (hexec : p.tables.exec = Jvm.exec) (hb : c.code = cc) {own ref C : String} {T : u_T} {N ci index : Nat} {Ts : List Cond} (hts : ∀ w ∈ Ts, w.before args s = true) (hin : ∀ w ∈ u_ws C T N, w ∈ Ts) (ty0 : Nat → FieldType) (hty : ∀ k, k < N → parseFieldDescriptor (T k).2.2.1 = some (ty0 k)) (hnm : ∀ a, a < N → ∀ b, b < N → a ≠ b → (T a).2.1 ≠ (T b).2.1) (hown : s.vm.findClass own = some m.cls) (hK : va_K D vwCl tys s) (hZ : zW D A H0 G H locs) {fs fs' : List Value} (he : G a = some (.inr (ci, fs))) (hc : vwCl[ci]? = some (C, T, N)) (k : Nat) (hk : k < N) (hlink : (Cond.fieldLink own index ref (T k).2.1 (T k).2.2.1).before args s = true) (hsame : ∀ x, s.fieldFound? (T k).1 (T k).2.1 (T k).2.2.1 = some x → s.fieldFound? ref (T k).2.1 (T k).2.2.1 = some x) (hfin : (T k).2.2.2 = false) {ty : FieldType} {v : Value} (hd : parseFieldDescriptor (T k).2.2.1 = some ty) (hn : narrow ty v = v) (hfit : fits ty v = true) (hl : k < fs.length) (hfs : fs.set k v = fs')
    (hdg : decode cc pc = .ok (.putfield index, 3)) (kk : ∀ (H1 : Heap) (locs1 : List Loc), zW D A H0 (va_up G a (some (.inr (ci, fs')))) H1 locs1 → W p l e R s m args below meth c H1 locs1 cells slots Q (F0 m (pc + 3) ls rest)) : W p l e R s m args below meth c H locs cells slots Q (F0 m pc ls (v :: .ref a :: rest)) := by
  subst hfs
  have hap := va_apart (own := own) hts hin ty0 hty hnm hK hc
  obtain ⟨r, h1, cell, q1, q2, q3, q4⟩ := hZ.1 a _ he
  have hr : r = (C, T, N) := Option.some.inj (h1.symm.trans hc)
  subst hr
  obtain ⟨hS, hfc, kC, hkC, hkind⟩ := hK.1 ci _ hc
  obtain ⟨cf, kf, fi, f, hi, hsl⟩ := hS k hk
  have hlay := hts _ (hin _ (u_in_lay hk))
  unfold u_lay at hlay
  rw [if_neg (by rw [hfin]; decide)] at hlay
  have hst := (u_facts hfc hkC (u_lays hts hin hk) hi).1
  have h6 := u_store hfc hkC hkind hlay hi hd hn hfit
  refine W.putK hexec hb (f := f) ⟨hown, hlink, ⟨_, _, _, hsame _ hi⟩, hst⟩ (by rw [q2]; exact h6) q1 q3 (by rw [hsl]; exact k2_hasslot (q4 k hk)) rfl rfl hdg fun H' e1 e2 e3 => ?_
  rw [hsl] at e1 ⊢
  exact kk H' _ ⟨z_set hZ.1 ⟨_, hc, t_OB.to (V := updV (vp_V fs) k v) ⟨_, e1, q2, q3, t_set q4 hap hk v⟩ (fun j _ => vp_updV_set hl v j)⟩ e3, z_upd_dom hZ.2.1 (hZ.2.1 a _ he), hZ.2.2.put e2 e3 (hZ.2.1 a _ he)⟩
theorem z_putF (hexec : p.tables.exec = Jvm.exec) (hb : c.code = cc) {own ref C : String} {T : u_T} {N ci index : Nat} {Ts : List Cond} (hts : ∀ w ∈ Ts, w.before args s = true) (hin : ∀ w ∈ u_ws C T N, w ∈ Ts) (ty0 : Nat → FieldType) (hty : ∀ k, k < N → parseFieldDescriptor (T k).2.2.1 = some (ty0 k)) (hnm : ∀ a, a < N → ∀ b, b < N → a ≠ b → (T a).2.1 ≠ (T b).2.1) (hown : s.vm.findClass own = some m.cls) (hK : va_K D vwCl tys s) (hZ : zW D A H0 G H locs) {fs fs' : List Value} (he : G a = some (.inr (ci, fs))) (hc : vwCl[ci]? = some (C, T, N)) (k : Nat) (hk : k < N) (hlink : (Cond.fieldLink own index ref (T k).2.1 (T k).2.2.1).before args s = true) (hsame : ∀ x, s.fieldFound? (T k).1 (T k).2.1 (T k).2.2.1 = some x → s.fieldFound? ref (T k).2.1 (T k).2.2.1 = some x) (hfin : (T k).2.2.2 = true) (hin2 : meth.name = "<init>") (hdecl : (T k).1 = own) {ty : FieldType} {v : Value} (hd : parseFieldDescriptor (T k).2.2.1 = some ty) (hn : narrow ty v = v) (hfit : fits ty v = true) (hl : k < fs.length) (hfs : fs.set k v = fs')
    (hdg : decode cc pc = .ok (.putfield index, 3)) (kk : ∀ (H1 : Heap) (locs1 : List Loc), zW D A H0 (va_up G a (some (.inr (ci, fs')))) H1 locs1 → W p l e R s m args below meth c H1 locs1 cells slots Q (F0 m (pc + 3) ls rest)) : W p l e R s m args below meth c H locs cells slots Q (F0 m pc ls (v :: .ref a :: rest)) := by
  subst hfs
  have hap := va_apart (own := own) hts hin ty0 hty hnm hK hc
  obtain ⟨r, h1, cell, q1, q2, q3, q4⟩ := hZ.1 a _ he
  have hr : r = (C, T, N) := Option.some.inj (h1.symm.trans hc)
  subst hr
  obtain ⟨hS, hfc, kC, hkC, hkind⟩ := hK.1 ci _ hc
  obtain ⟨cf, kf, fi, f, hi, hsl⟩ := hS k hk
  have hlay := hts _ (hin _ (u_in_lay hk))
  unfold u_lay at hlay
  rw [if_pos hfin] at hlay
  have hst := (u_facts hfc hkC (u_lays hts hin hk) hi).1
  have hcf : m.cls = cf := by
    obtain ⟨_, _, c', _, _, _, -, -, hf', -, -, -, hown2, -⟩ := Cond.laysFinal_spec hlay
    have e1 : c' = cf := by have := hi.symm.trans hf'; simp at this; exact this.1.symm
    rw [hdecl] at hown2
    rw [← e1]; exact Option.some.inj (hown.symm.trans hown2)
  have h6 := u_fits hfc hkC hkind (Or.inr hlay) hi hd hn hfit
  refine W.putFinK hexec hb hown hlink (hsame _ hi) hst hcf hin2 (by rw [q2]; exact h6) q1 q3 (by rw [hsl]; exact k2_hasslot (q4 k hk)) rfl rfl hdg fun H' e1 e2 e3 => ?_
  rw [hsl] at e1 ⊢
  exact kk H' _ ⟨z_set hZ.1 ⟨_, hc, t_OB.to (V := updV (vp_V fs) k v) ⟨_, e1, q2, q3, t_set q4 hap hk v⟩ (fun j _ => vp_updV_set hl v j)⟩ e3, z_upd_dom hZ.2.1 (hZ.2.1 a _ he), hZ.2.2.put e2 e3 (hZ.2.1 a _ he)⟩
theorem z_iald (hexec : p.tables.exec = Jvm.exec) (hb : c.code = cc) {cT : Nat → ClassId} (hK : va_K D vwCl (zT cT) s) (hZ : zW D A H0 G H locs) {n : Nat} {f : Nat → Int32} (ha : G a = some (.inl (cT 0, n, .inl f))) (j : Nat) {i : Int32} (hi : i = nI j) (hj : j < n) (hn : n < 2 ^ 31) (hdg : decode cc pc = .ok (.iaload, 1))
    (kk : W p l e R s m args below meth c H locs cells slots Q (F0 m (pc + 1) ls (.int (f j) :: rest))) : W p l e R s m args below meth c H locs cells slots Q (F0 m pc ls (.int i :: .ref a :: rest)) := by
  subst hi
  refine va_iald hexec hb hK (z_one hZ.1 ha) 0 0 rfl rfl (vp_in_nI hj hn) hdg ?_
  rw [nI_clamp (Nat.lt_trans hj hn)]
  exact kk
theorem z_zald (hexec : p.tables.exec = Jvm.exec) (hb : c.code = cc) {cT : Nat → ClassId} (hK : va_K D vwCl (zT cT) s) (hZ : zW D A H0 G H locs) {n : Nat} {f : Nat → Int32} (ha : G a = some (.inl (cT 1, n, .inl f))) (j : Nat) {i : Int32} (hi : i = nI j) (hj : j < n) (hn : n < 2 ^ 31) (hdg : decode cc pc = .ok (.baload, 1))
    (kk : W p l e R s m args below meth c H locs cells slots Q (F0 m (pc + 1) ls (.int (f j) :: rest))) : W p l e R s m args below meth c H locs cells slots Q (F0 m pc ls (.int i :: .ref a :: rest)) := by
  subst hi
  refine va_zald hexec hb hK (z_one hZ.1 ha) 0 1 rfl rfl (vp_in_nI hj hn) hdg ?_
  rw [nI_clamp (Nat.lt_trans hj hn)]
  exact kk
theorem z_aald (hexec : p.tables.exec = Jvm.exec) (hb : c.code = cc) {cT : Nat → ClassId} (hK : va_K D vwCl (zT cT) s) (hZ : zW D A H0 G H locs) (t0 : Nat) {n : Nat} {C : String} {cA : ClassId} {f : Nat → Option Nat} (ha : G a = some (.inl (cA, n, .inr (.inr (.inr (.inr f)))))) (ht : (zT cT)[t0]? = some (cA, .object C)) (j : Nat) {i : Int32} (hi : i = nI j) (hj : j < n) (hn : n < 2 ^ 31) (hdg : decode cc pc = .ok (.aaload, 1))
    (kk : W p l e R s m args below meth c H locs cells slots Q (F0 m (pc + 1) ls (va_rf (f j) :: rest))) : W p l e R s m args below meth c H locs cells slots Q (F0 m pc ls (.int i :: .ref a :: rest)) := by
  subst hi
  refine va_aldq hexec hb hK (z_one hZ.1 ha) 0 t0 rfl ht (vp_in_nI hj hn) hdg ?_
  rw [nI_clamp (Nat.lt_trans hj hn)]
  exact kk
theorem z_alen (hexec : p.tables.exec = Jvm.exec) (hb : c.code = cc) {cT : Nat → ClassId} (hK : va_K D vwCl (zT cT) s) (hZ : zW D A H0 G H locs) (t0 : Nat) {cA : ClassId} {x : vp_A} (ha : G a = some (.inl (cA, x))) {ty : FieldType} (ht : (zT cT)[t0]? = some (cA, ty)) (hdg : decode cc pc = .ok (.arraylength, 1))
    (kk : W p l e R s m args below meth c H locs cells slots Q (F0 m (pc + 1) ls (.int (nI x.1) :: rest))) : W p l e R s m args below meth c H locs cells slots Q (F0 m pc ls (.ref a :: rest)) :=
  va_alen hexec hb hK (z_one hZ.1 ha) 0 t0 rfl ht rfl hdg kk
theorem z_iast (hexec : p.tables.exec = Jvm.exec) (hb : c.code = cc) {cT : Nat → ClassId} (hK : va_K D vwCl (zT cT) s) (hZ : zW D A H0 G H locs) {n : Nat} {f : Nat → Int32} (ha : G a = some (.inl (cT 0, n, .inl f))) (j : Nat) {i x : Int32} (hi : i = nI j) (hj : j < n) (hn : n < 2 ^ 31) (hdg : decode cc pc = .ok (.iastore, 1))
    (kk : ∀ (H1 : Heap) (locs1 : List Loc), zW D A H0 (va_up G a (some (.inl (cT 0, n, .inl (upd f j x))))) H1 locs1 → W p l e R s m args below meth c H1 locs1 cells slots Q (F0 m (pc + 1) ls rest)) : W p l e R s m args below meth c H locs cells slots Q (F0 m pc ls (.int x :: .int i :: .ref a :: rest)) := by
  have hin : vp_in i n := by rw [hi]; exact vp_in_nI hj hn
  have hc : i.toNatClampNeg = j := by rw [hi]; exact nI_clamp (Nat.lt_trans hj hn)
  refine W.iast hexec hb (hZ.1 a _ ha) ((hK.2 0 _ rfl).1 n (fun j => .int (f j))) (fun q => by cases q) (by show ¬ (i < 0 ∨ (arrV _ _ _).slots.size ≤ _); rw [arrV_size]; exact hin) rfl rfl hdg fun H1 e z oq => ?_
  refine kk H1 _ ⟨z_set hZ.1 ?_ oq, z_upd_dom hZ.2.1 (hZ.2.1 a _ ha), hZ.2.2.put z oq (hZ.2.1 a _ ha)⟩
  show H1[a]? = some (vp_cell _ _)
  rw [e, vp_cell_i, vp_cell_i, arrV_store, hc]
  congr 2
  funext q
  by_cases hq : q = j
  · subst hq
    simp [updV, upd]
  · simp [updV, upd, hq]
theorem z_zast (hexec : p.tables.exec = Jvm.exec) (hb : c.code = cc) {cT : Nat → ClassId} (hK : va_K D vwCl (zT cT) s) (hZ : zW D A H0 G H locs) {n : Nat} {f : Nat → Int32} (ha : G a = some (.inl (cT 1, n, .inl f))) (j : Nat) {i x : Int32} (hi : i = nI j) (hx : vp_nar .boolean x = x) (hj : j < n) (hn : n < 2 ^ 31) (hdg : decode cc pc = .ok (.bastore, 1))
    (kk : ∀ (H1 : Heap) (locs1 : List Loc), zW D A H0 (va_up G a (some (.inl (cT 1, n, .inl (upd f j x))))) H1 locs1 → W p l e R s m args below meth c H1 locs1 cells slots Q (F0 m (pc + 1) ls rest)) : W p l e R s m args below meth c H locs cells slots Q (F0 m pc ls (.int x :: .int i :: .ref a :: rest)) := by
  have hin : vp_in i n := by rw [hi]; exact vp_in_nI hj hn
  have hc : i.toNatClampNeg = j := by rw [hi]; exact nI_clamp (Nat.lt_trans hj hn)
  refine W.zast hexec hb (hZ.1 a _ ha) ((hK.2 1 _ rfl).1 n (fun j => .int (f j))) (fun q => by cases q) (by show ¬ (i < 0 ∨ (arrV _ _ _).slots.size ≤ _); rw [arrV_size]; exact hin) rfl rfl hdg fun H1 e z oq => ?_
  refine kk H1 _ ⟨z_set hZ.1 ?_ oq, z_upd_dom hZ.2.1 (hZ.2.1 a _ ha), hZ.2.2.put z oq (hZ.2.1 a _ ha)⟩
  show H1[a]? = some (vp_cell _ _)
  rw [e, vp_cell_i, vp_cell_i, arrV_store, hc]
  congr 2
  funext q
  by_cases hq : q = j
  · subst hq
    have hx2 : narrow .boolean (.int x) = .int x := by
      have h2 : vp_nar .boolean x = x := hx
      have h3 : narrow .boolean (.int x) = .int (vp_nar .boolean x) := rfl
      rw [h3, h2]
    simp only [updV, upd, if_true]
    exact hx2
  · simp [updV, upd, hq]
theorem z_aast (hexec : p.tables.exec = Jvm.exec) (hb : c.code = cc) {cT : Nat → ClassId} (hK : va_K D vwCl (zT cT) s) (hZ : zW D A H0 G H locs) (t0 ci : Nat) {n v : Nat} {r : vw_C} {cA : ClassId} {vs : List Value} {f : Nat → Option Nat} (ha : G a = some (.inl (cA, n, .inr (.inr (.inr (.inr f)))))) (ht : (zT cT)[t0]? = some (cA, .object r.1)) (hv : G v = some (.inr (ci, vs))) (hc : vwCl[ci]? = some r) (j : Nat) {i : Int32} (hi : i = nI j) (hj : j < n) (hn : n < 2 ^ 31) (hdg : decode cc pc = .ok (.aastore, 1))
    (kk : ∀ (H1 : Heap) (locs1 : List Loc), zW D A H0 (va_up G a (some (.inl (cA, n, .inr (.inr (.inr (.inr (va_up f j (some v))))))))) H1 locs1 → W p l e R s m args below meth c H1 locs1 cells slots Q (F0 m (pc + 1) ls rest)) : W p l e R s m args below meth c H locs cells slots Q (F0 m pc ls (.ref v :: .int i :: .ref a :: rest)) := by
  have hin : vp_in i n := by rw [hi]; exact vp_in_nI hj hn
  have hcl : i.toNatClampNeg = j := by rw [hi]; exact nI_clamp (Nat.lt_trans hj hn)
  have hlt : i.toNatClampNeg < n := Nat.not_le.mp fun q => hin (Or.inr q)
  have h0 : ¬ i < 0 := fun q => hin (Or.inl q)
  obtain ⟨r', hr', cellV, g1, g2, g3, -⟩ := hZ.1 v _ hv
  have hcls := (hK.1 ci r hc).2
  obtain ⟨kA, comp, k1, k2, k3, -⟩ := (hK.2 t0 _ ht).2
  have hcomp : comp = D.1 ci := Option.some.inj (k3.symm.trans hcls.1)
  subst hcomp
  obtain ⟨kC, hkC, -⟩ := hcls.2
  refine W.aast hexec hb (hZ.1 a _ ha) (fun q h => by cases h) (fun h => by cases h) k1 k2 rfl hkC ⟨h0, by show _ < (arrV _ _ _).slots.size; rw [arrV_size]; exact hlt⟩ g1 (fun q h => by rw [g3] at h; cases h) (by rw [g2]; exact hkC) (by rw [g2]; exact va_assign hcls) rfl rfl hdg fun H1 e z oq => ?_
  refine kk H1 _ ⟨z_set hZ.1 ?_ oq, z_upd_dom hZ.2.1 (hZ.2.1 a _ ha), hZ.2.2.put z oq (hZ.2.1 a _ ha)⟩
  show H1[a]? = some (vp_cell _ _)
  rw [e, vp_cell_q, vp_cell_q, arrV_store, hcl]
  congr 2
  funext q
  by_cases hq : q = j
  · subst hq
    simp [updV, va_up, va_rf]
  · simp [updV, va_up, hq]
theorem z_new {c0 : Code} (hexec : p.tables.exec = Jvm.exec) (hb : c0.code = cc) {own C : String} {T : u_T} {N ci index : Nat} {Ts : List Cond} (hts : ∀ w ∈ Ts, w.before args s = true) (hin : ∀ w ∈ u_ws C T N, w ∈ Ts) (ty : Nat → FieldType) (hty : ∀ k, k < N → parseFieldDescriptor (T k).2.2.1 = some (ty k)) (hown : s.vm.findClass own = some m.cls) (hcl : (Cond.classLink own index C).before args s = true) (hinst : (Cond.instantiable C N).before args s = true) (hini : (Cond.initialized C).before args s = true)
    (hK : va_K D vwCl tys s) (hZ : zW D A H0 G H locs) (hA : ∀ q, H0.size ≤ q → A q) (hc : vwCl[ci]? = some (C, T, N)) {fs : List Value} (hfs : ∀ j, j < N → defaultValue (ty j) = vp_V fs j) (hcells : cells + 1 ≤ R.cells) (hslots : slots + N ≤ R.slots) (hdg : decode cc pc = .ok (.new index, 3))
    (kk : ∀ (q : Nat) (H1 : Heap), G q = none → zW D A H0 (va_up G q (some (.inr (ci, fs)))) H1 locs →
      W p l e R s m args below meth c0 H1 locs (cells + 1) (slots + N) Q (F0 m (pc + 3) ls (.ref q :: rest))) : W p l e R s m args below meth c0 H locs cells slots Q (F0 m pc ls rest) := by
  have hKn := hK.1 ci _ hc
  refine W.newcK hexec hb hown hcl hinst hini rfl hdg hcells hslots hKn.2.1 rfl fun H1 kC hkC e1 z1 o1 => ?_
  refine kk H.size H1 (z_none hZ.1 (Nat.le_refl _)) ⟨z_push hZ.1 ⟨_, hc, (u_born ty hts hin hKn hkC e1 hty).to hfs⟩ o1, z_upd_dom hZ.2.1 (hA _ hZ.2.2.1), ⟨Nat.le_trans hZ.2.2.1 (by omega), fun x h1 h2 => (o1 x (Nat.lt_of_lt_of_le h1 hZ.2.2.1)).trans (hZ.2.2.2.1 x h1 h2), hZ.2.2.2.2⟩⟩
theorem z_newi (hexec : p.tables.exec = Jvm.exec) (hb : c.code = cc) {cT : Nat → ClassId} (harr : (Cond.arrayClass .int).before args s = true) (hK : va_K D vwCl (zT cT) s) (hZ : zW D A H0 G H locs) (hA : ∀ q, H0.size ≤ q → A q)
    (N : Nat) {n : Int32} (hi : n = nI N) (hN : N < 100000) (hcells : cells + 1 ≤ R.cells) (hslots : slots + N ≤ R.slots) (hdg : decode cc pc = .ok (.newarray .int, 2))
    (kk : ∀ (q : Nat) (H1 : Heap), G q = none → zW D A H0 (va_up G q (some (.inl (cT 0, N, .inl (fun _ => 0))))) H1 locs →
      W p l e R s m args below meth c H1 locs (cells + 1) (slots + N) Q (F0 m (pc + 2) ls (.ref q :: rest))) : W p l e R s m args below meth c H locs cells slots Q (F0 m pc ls (.int n :: rest)) := by
  subst hi
  refine va_newaK hexec hb (atype := .int) harr rfl hdg rfl (nI_pos (by omega)) (nI_clamp (by omega)) (by show N * 4 ≤ 536870912; omega) hcells hslots rfl fun H1 cA e1 z1 o1 hAr hNm => ?_
  have hcA : cA = cT 0 := by
    have h2 := (hK.2 0 _ (rfl : (zT cT)[0]? = some (cT 0, .int))).2
    exact Option.some.inj (hNm.symm.trans h2)
  subst hcA
  refine kk H.size H1 (z_none hZ.1 (Nat.le_refl _)) ⟨z_push hZ.1 ?_ o1, z_upd_dom hZ.2.1 (hA _ hZ.2.2.1), ⟨Nat.le_trans hZ.2.2.1 (by omega), fun x h1 h2 => (o1 x (Nat.lt_of_lt_of_le h1 hZ.2.2.1)).trans (hZ.2.2.2.1 x h1 h2), hZ.2.2.2.2⟩⟩
  show H1[H.size]? = some (vp_cell _ _)
  rw [vp_cell_i]
  exact e1
theorem z_newz (hexec : p.tables.exec = Jvm.exec) (hb : c.code = cc) {cT : Nat → ClassId} (harr : (Cond.arrayClass .boolean).before args s = true) (hK : va_K D vwCl (zT cT) s) (hZ : zW D A H0 G H locs) (hA : ∀ q, H0.size ≤ q → A q)
    (N : Nat) {n : Int32} (hi : n = nI N) (hN : N < 100000) (hcells : cells + 1 ≤ R.cells) (hslots : slots + N ≤ R.slots) (hdg : decode cc pc = .ok (.newarray .boolean, 2))
    (kk : ∀ (q : Nat) (H1 : Heap), G q = none → zW D A H0 (va_up G q (some (.inl (cT 1, N, .inl (fun _ => 0))))) H1 locs →
      W p l e R s m args below meth c H1 locs (cells + 1) (slots + N) Q (F0 m (pc + 2) ls (.ref q :: rest))) : W p l e R s m args below meth c H locs cells slots Q (F0 m pc ls (.int n :: rest)) := by
  subst hi
  refine va_newaK hexec hb (atype := .boolean) harr rfl hdg rfl (nI_pos (by omega)) (nI_clamp (by omega)) (by show N * 1 ≤ 536870912; omega) hcells hslots rfl fun H1 cA e1 z1 o1 hAr hNm => ?_
  have hcA : cA = cT 1 := by
    have h2 := (hK.2 1 _ (rfl : (zT cT)[1]? = some (cT 1, .boolean))).2
    exact Option.some.inj (hNm.symm.trans h2)
  subst hcA
  refine kk H.size H1 (z_none hZ.1 (Nat.le_refl _)) ⟨z_push hZ.1 ?_ o1, z_upd_dom hZ.2.1 (hA _ hZ.2.2.1), ⟨Nat.le_trans hZ.2.2.1 (by omega), fun x h1 h2 => (o1 x (Nat.lt_of_lt_of_le h1 hZ.2.2.1)).trans (hZ.2.2.2.1 x h1 h2), hZ.2.2.2.2⟩⟩
  show H1[H.size]? = some (vp_cell _ _)
  rw [vp_cell_i]
  exact e1
theorem z_newq (hexec : p.tables.exec = Jvm.exec) (hb : c.code = cc) {cT : Nat → ClassId} {own C : String} {index : Nat} (hown : s.vm.findClass own = some m.cls) (hclink : (Cond.classLink own index C).before args s = true) (hover : va_AO C s) (hK : va_K D vwCl (zT cT) s) (hZ : zW D A H0 G H locs) (hA : ∀ q, H0.size ≤ q → A q)
    (N t0 : Nat) (ht : (zT cT)[t0]? = some (cT t0, .object C)) {n : Int32} (hi : n = nI N) (hN : N < 100000) (hcells : cells + 1 ≤ R.cells) (hslots : slots + N ≤ R.slots) (hdg : decode cc pc = .ok (.anewarray index, 3))
    (kk : ∀ (q : Nat) (H1 : Heap), G q = none → zW D A H0 (va_up G q (some (.inl (cT t0, N, .inr (.inr (.inr (.inr (fun _ => none)))))))) H1 locs →
      W p l e R s m args below meth c H1 locs (cells + 1) (slots + N) Q (F0 m (pc + 3) ls (.ref q :: rest))) : W p l e R s m args below meth c H locs cells slots Q (F0 m pc ls (.int n :: rest)) := by
  have hcl : n.toNatClampNeg = N := by rw [hi]; exact nI_clamp (by omega)
  refine W.anew hexec hb hown hclink (va_AO.use hover) rfl hdg rfl (by rw [hi]; exact nI_pos (by omega)) (by rw [hcl]; omega) hcells (by rw [hcl]; exact hslots) fun cA kA comp f1 f2 f3 f4 => ?_
  rw [hcl]
  generalize hH1 : H.push ({ cls := cA, slots := Array.replicate N .null, vm := .none } : Cell) = H1
  have z1 : H1.size = H.size + 1 := by rw [← hH1, Array.size_push]
  have e1 : H1[H.size]? = some (arrV cA N (fun _ => .null)) := by rw [← hH1, Array.getElem?_push_size, ← arrV_new]
  have o1 : ∀ q : Nat, q < H.size → H1[q]? = H[q]? := fun q hq => by rw [← hH1, Array.getElem?_push, if_neg (Nat.ne_of_lt hq)]
  have hcA : cA = cT t0 := by
    obtain ⟨_, _, _, _, _, k4⟩ := (hK.2 t0 _ ht).2
    exact Option.some.inj (f1.symm.trans k4)
  subst hcA
  refine kk H.size H1 (z_none hZ.1 (Nat.le_refl _)) ⟨z_push hZ.1 ?_ o1, z_upd_dom hZ.2.1 (hA _ hZ.2.2.1), ⟨Nat.le_trans hZ.2.2.1 (by omega), fun x h1 h2 => (o1 x (Nat.lt_of_lt_of_le h1 hZ.2.2.1)).trans (hZ.2.2.2.1 x h1 h2), hZ.2.2.2.2⟩⟩
  show H1[H.size]? = some (vp_cell _ _)
  rw [vp_cell_q]
  exact e1
end ZR
/-- a method's start, its end, its contract -/
def zPre (D : va_G) (cT : Nat → ClassId) (av : List Value) (G : zG) (sz : Nat) : Array Value → State → Prop := fun v U => v = av.toArray ∧ U.heap.size = sz ∧ zP D G U.heap ∧ va_K D vwCl (zT cT) U ∧ zE (zA G sz) U
def zQ (D : va_G) (G : zG) (sz : Nat) (post : Option Value → zG → Prop) : Array Value → State → Outcome → State → Prop := fun _ st oc t => (∃ (r : Option Value) (G' : zG), oc = .returned r ∧ post r G' ∧ zP D G' t.heap ∧ ∀ (a : Nat) (e : va_E), G' a = some e → zA G sz a) ∧ va_F (zA G sz) st t
abbrev zM (l : Launch) (D : va_G) (cT : Nat → ClassId) (y : MethodName) (ws : List Cond) (rm : Room) (av : List Value) (G : zG) (sz : Nat) (post : Option Value → zG → Prop) : Prop := Met l y ws rm (zPre D cT av G sz) (zQ D G sz post) rm.cells rm.slots (zA G sz)
theorem zE.alike {A : Nat → Prop} {u U : State} (hh : u.heap = U.heap) (hW : u.WarmedH U.vm) (h : zE A u) : zE A U := by
  obtain ⟨⟨a1, a2, a3, a4, a5⟩, ⟨o1, o2, o3, o4⟩, t1, t2, b1, b2, b3, b4⟩ := h
  rw [hh] at b1 b2 b3 b4
  exact ⟨⟨a1.warmM hW, a2.warmM hW, a3.warmM hW, a4.warmM hW, a5.warmM hW⟩, ⟨o1.moved hW.alike, o2.moved hW.alike, o3.moved hW.alike, o4.moved hW.alike⟩, t1, t2, b1.moved hW.alike, b2.moved hW.alike, b3.moved hW.alike, b4.moved hW.alike⟩
theorem zE.same {A : Nat → Prop} {u U : State} (hh : u.heap = U.heap) (hv : u.vm = U.vm) (h : zE A u) : zE A U := by
  obtain ⟨⟨a1, a2, a3, a4, a5⟩, ⟨o1, o2, o3, o4⟩, t1, t2, b1, b2, b3, b4⟩ := h
  have ha : u.vm.Alike U.vm := by rw [hv]; exact Vm.Alike.refl U.vm
  rw [hh] at b1 b2 b3 b4
  exact ⟨⟨a1.same rfl hv, a2.same rfl hv, a3.same rfl hv, a4.same rfl hv, a5.same rfl hv⟩, ⟨o1.moved ha, o2.moved ha, o3.moved ha, o4.moved ha⟩, t1, t2, b1.moved ha, b2.moved ha, b3.moved ha, b4.moved ha⟩
theorem zA.sub {D : va_G} {A : Nat → Prop} {G : zG} {H0 H : Heap} {locs : List Loc} (hZ : zW D A H0 G H locs) (hA : ∀ q, H0.size ≤ q → A q) : ∀ q, zA G H.size q → A q := by
  intro q h
  rcases h with h | h
  · cases hg : G q with
    | none => exact absurd hg h
    | some e => exact hZ.2.1 q e hg
  · exact hA q (Nat.le_trans hZ.2.2.1 h)
/-- what beside the world a callee gets -/
theorem zE.pass {D : va_G} {A : Nat → Prop} {G : zG} {s U : State} {H : Heap} {locs : List Loc} (hE : zE A s) (hZ : zW D A s.heap G H locs) (hA : ∀ q, s.heap.size ≤ q → A q) (hU : U.heap = H) (hW : s.WarmedH U.vm) : zE (zA G H.size) U := by
  obtain ⟨⟨a1, a2, a3, a4, a5⟩, ⟨o1, o2, o3, o4⟩, t1, t2, b1, b2, b3, b4⟩ := hE
  have hk := hZ.2.2.2.1
  have hn := zA.sub hZ hA
  refine ⟨⟨a1.warmM hW, a2.warmM hW, a3.warmM hW, a4.warmM hW, a5.warmM hW⟩, ⟨o1.moved hW.alike, o2.moved hW.alike, o3.moved hW.alike, o4.moved hW.alike⟩, t1, t2, ?_, ?_, ?_, ?_⟩
  · rw [hU]; exact ((b1.kept hk).narrow hn).moved hW.alike
  · rw [hU]; exact ((b2.kept hk).narrow hn).moved hW.alike
  · rw [hU]; exact ((b3.kept hk).narrow hn).moved hW.alike
  · rw [hU]; exact ((b4.kept hk).narrow hn).moved hW.alike
theorem zPre.blind {D : va_G} {cT : Nat → ClassId} {av : List Value} {G : zG} {sz : Nat} : FrameBlind (zPre D cT av G sz) := fun a U g mk q => by
  obtain ⟨q0, q1, q2, q3, q4⟩ := q
  exact ⟨q0, q1, q2, va_K.moved (u := U) (U := U.calling g mk a) (Vm.Alike.refl U.vm) q3, q4.same rfl rfl⟩
/-- what holds all through a method -/
def zI (p : Program) (cc : ByteArray) (maxL : Nat) (ret : Option FieldType) (ws : List Cond) (y : MethodName) (D : va_G) (cT : Nat → ClassId) (A : Nat → Prop) (s : State) (m : MethodId) (args : Array Value) (meth : Method) (c : Code) : Prop :=
  p.tables.exec = Jvm.exec ∧ c.code = cc ∧ meth.sig.returnType = ret ∧ c.maxLocals = maxL ∧ (∀ w ∈ ws, w.before args s = true) ∧ s.vm.findClass y.cls = some m.cls ∧ meth.locks = false ∧ meth.name = y.name ∧ va_K D vwCl (zT cT) s ∧ (∀ q, s.heap.size ≤ q → A q) ∧ zE A s
theorem z_start {l : Launch} {D : va_G} {cT : Nat → ClassId} {y : MethodName} {ws ws' : List Cond} {rm : Room} {av : List Value} {G : zG} {sz : Nat} {post : Option Value → zG → Prop} {cc : ByteArray} {maxL : Nat} {ret : Option FieldType} (hy : plainName y.cls = true) (hw : ws = Cond.code y cc maxL ret :: ws') (hn : (lg_sl av).length ≤ maxL)
    (body : ∀ (p : Program) (e : Env) (s : State) (m : MethodId) (below : List Frame) (meth : Method) (c : Code) (ls : Array Slot), zI p cc maxL ret ws y D cT (zA G sz) s m av.toArray meth c → zW D (zA G sz) s.heap G s.heap [] → lv_has ls maxL (lv_args 0 av) →
      W p l e rm s m av.toArray below meth c s.heap [] 0 0 (MQ below (zQ D G sz post) av.toArray s rm.cells rm.slots (zA G sz)) (F0 m 0 ls [])) : zM l D cT y ws rm av G sz post := by
  refine Met.ofW (cc := cc) (maxL := maxL) (ret := ret) hy hw ?_
  intro p e s m args below meth c s₁ B hml hv
  obtain ⟨rfl, hsz, hP, hK, hE⟩ := hv
  have hl := lv_entry av (n := maxL) hn
  rw [lg_entry_eq]
  refine body p e s m below meth c _ ⟨B.exec, B.bytes, B.returns, hml, atoms_spec (ws := ws) B.pre, findClass_of_methodNamed B.named, B.notSynchronized, (name_of_methodNamed B.named B.method).1, hK, fun q h => Or.inr (by rw [← hsz]; exact h), hE⟩ ⟨hP, fun a e h => Or.inl (by rw [h]; exact fun q => by cases q), va_S.rf⟩ hl
section ZC
variable {p : Program} {l : Launch} {e : Env} {R : Room} {s : State} {m : MethodId} {args : Array Value} {below : List Frame} {meth : Method} {c : Code} {H : Heap} {locs : List Loc} {cells slots : Nat} {Q : State → Prop}
variable {cc : ByteArray} {pc : Nat} {ls : Array Slot} {rest st0 : List Value} {D : va_G} {A : Nat → Prop} {cT : Nat → ClassId} {G G0 : zG} {sz : Nat} {post : Option Value → zG → Prop}
theorem z_end {o : Option Value} (hZ : zW D (zA G0 sz) s.heap G H locs) (h : post o G) : ∀ t : State, t.heap = H → s.WarmedH t.vm → zQ D G0 sz post args s (.returned o) t := fun t ht _ => ⟨⟨o, G, rfl, h, by rw [ht]; exact hZ.1, hZ.2.1⟩, hZ.2.2.F ht⟩
theorem z_iret (hx : p.tables.exec = Jvm.exec) (hb : c.code = cc) (hr : meth.sig.returnType = some .int) (hlocks : meth.locks = false) (hZ : zW D (zA G0 sz) s.heap G H locs) {v : Int32} (hdg : decode cc pc = .ok (.ireturn, 1)) (h : post (some (.int v)) G) : W p l e R s m args below meth c H locs cells slots (MQ below (zQ D G0 sz post) args s cells slots (zA G0 sz)) (F0 m pc ls [.int v]) :=
  W.iret hx hb hr (z_end hZ h) hZ.2.2.2.2 hdg hlocks
theorem z_zret (hx : p.tables.exec = Jvm.exec) (hb : c.code = cc) (hr : meth.sig.returnType = some .boolean) (hlocks : meth.locks = false) (hZ : zW D (zA G0 sz) s.heap G H locs) {v : Int32} (hv : v = 0 ∨ v = 1) (hdg : decode cc pc = .ok (.ireturn, 1)) (h : post (some (.int v)) G) : W p l e R s m args below meth c H locs cells slots (MQ below (zQ D G0 sz post) args s cells slots (zA G0 sz)) (F0 m pc ls [.int v]) :=
  W.zret hx hb hr (by rcases hv with rfl | rfl <;> decide) (z_end hZ h) hZ.2.2.2.2 hdg hlocks
theorem z_vret (hx : p.tables.exec = Jvm.exec) (hb : c.code = cc) (hr : meth.sig.returnType = none) (hlocks : meth.locks = false) (hZ : zW D (zA G0 sz) s.heap G H locs) (hdg : decode cc pc = .ok (.return_, 1)) (h : post none G) : W p l e R s m args below meth c H locs cells slots (MQ below (zQ D G0 sz post) args s cells slots (zA G0 sz)) (F0 m pc ls []) :=
  W.vret hx hb hr (z_end hZ h) hZ.2.2.2.2 hdg hlocks
theorem z_lret (hx : p.tables.exec = Jvm.exec) (hb : c.code = cc) (hr : meth.sig.returnType = some .long) (hlocks : meth.locks = false) (hZ : zW D (zA G0 sz) s.heap G H locs) {v : Int64} (hdg : decode cc pc = .ok (.lreturn, 1)) (h : post (some (.long v)) G) : W p l e R s m args below meth c H locs cells slots (MQ below (zQ D G0 sz post) args s cells slots (zA G0 sz)) (F0 m pc ls [.long v]) :=
  W.lret hx hb hr (z_end hZ h) hZ.2.2.2.2 hdg hlocks
/-- behind a call -/
theorem z_call {a : Array Value} {mc ms : Nat} (hr : va_Run p l e R s m args below meth c H locs cells slots mc ms (F0 m pc ls st0) rest (zQ D G H.size post a) (zA G H.size)) (hZ : zW D A s.heap G H locs) (hA : ∀ q, s.heap.size ≤ q → A q)
    (kk : ∀ (r : Option Value) (G' : zG) (H1 : Heap) (locs1 : List Loc), post r G' → zW D A s.heap G' H1 locs1 → W p l e R s m args below meth c H1 locs1 (cells + mc) (slots + ms) Q (F0 m (pc + 3) ls (r.toList ++ rest))) : W p l e R s m args below meth c H locs cells slots Q (F0 m pc ls st0) := by
  intro T hT X
  obtain ⟨v, st₀, t, T', L, h0, X', hL, e1, e2, ⟨⟨r, G', hv, hp, hP', hd⟩, hz, hk⟩, st⟩ := hr T hT X
  cases hv
  have hsub := zA.sub hZ hA
  rw [h0] at hz hk
  obtain ⟨t2, a1, b1⟩ := kk v G' T'.heap (locs ++ L) hp ⟨by rw [e1]; exact hP', fun a e h => hsub a (hd a e h),
    ⟨Nat.le_trans hZ.2.2.1 (by rw [e1]; exact hz), fun q h1 h2 => by rw [e1, hk q (Nat.lt_of_lt_of_le h1 hZ.2.2.1) (fun z => h2 (hsub q z))]; exact hZ.2.2.2.1 q h1 h2, fun q hq => by
      rcases List.mem_append.mp hq with h | h
      · exact hZ.2.2.2.2 q h
      · exact hsub _ (hL q h)⟩⟩ T' rfl X'
  exact ⟨t2, st t2 a1, b1⟩
theorem z_preS {av : List Value} (hK : va_K D vwCl (zT cT) s) (hE : zE A s) (hZ : zW D A s.heap G H locs) (hA : ∀ q, s.heap.size ≤ q → A q) : PreS s H (zPre D cT av G H.size) av :=
  ⟨zPre.blind, fun U hU hW => ⟨rfl, by rw [hU], by rw [hU]; exact hZ.1, va_K.moved hW.alike hK, hE.pass hZ hA hU hW⟩⟩
theorem z_recv {ci : Nat} {q : vw_C} {fs : List Value} {b : Nat} (hK : va_K D vwCl (zT cT) s) (hZ : zW D A s.heap G H locs) (hc : vwCl[ci]? = some q) (he : G b = some (.inr (ci, fs))) : ∃ cell : Cell, H[b]? = some cell ∧ cell.vm.isStatics = false ∧ s.vm.findClass q.1 = some cell.cls := va_recv hK (z_one hZ.1 he) hc (q0 := 0) rfl
theorem z_preV {As : List Value} {ci : Nat} {q : vw_C} {fs : List Value} {b : Nat} (hK : va_K D vwCl (zT cT) s) (hE : zE A s) (hZ : zW D A s.heap G H locs) (hA : ∀ q, s.heap.size ≤ q → A q) (hc : vwCl[ci]? = some q) (he : G b = some (.inr (ci, fs))) : PreV s H q.1 b (zPre D cT (.ref b :: As) G H.size) As :=
  ⟨zPre.blind, z_recv hK hZ hc he, (z_preS hK hE hZ hA).2⟩
end ZC
section ZB
variable {p : Program} {l : Launch} {e : Env} {R : Room} {s : State} {m : MethodId} {args : Array Value} {below : List Frame} {meth : Method} {c : Code} {H : Heap} {locs : List Loc} {cells slots : Nat} {Q : State → Prop}
variable {cc : ByteArray} {pc : Nat} {ls : Array Slot} {rest : List Value}
theorem zb_eq (hexec : p.tables.exec = Jvm.exec) (hb : c.code = cc) {P : Prop} {_ : Decidable P} {off : Int} {tgt : Nat} (hdg : decode cc pc = .ok (.ifCond .eq off, 3)) (ht : (pc : Int) + off = (tgt : Int))
    (kt : ¬ P → W p l e R s m args below meth c H locs cells slots Q (F0 m tgt ls rest)) (kf : P → W p l e R s m args below meth c H locs cells slots Q (F0 m (pc + 3) ls rest)) : W p l e R s m args below meth c H locs cells slots Q (F0 m pc ls (.int (if P then 1 else 0) :: rest)) := by
  refine lv_if_eq hexec hb hdg ht (fun h => kt (fun hp => ?_)) (fun h => ?_)
  · rw [if_pos hp] at h; exact absurd h (by decide)
  · by_cases hp : P
    · exact kf hp
    · exact absurd (if_neg hp) h
theorem zb_ne (hexec : p.tables.exec = Jvm.exec) (hb : c.code = cc) {P : Prop} {_ : Decidable P} {off : Int} {tgt : Nat} (hdg : decode cc pc = .ok (.ifCond .ne off, 3)) (ht : (pc : Int) + off = (tgt : Int))
    (kt : P → W p l e R s m args below meth c H locs cells slots Q (F0 m tgt ls rest)) (kf : ¬ P → W p l e R s m args below meth c H locs cells slots Q (F0 m (pc + 3) ls rest)) : W p l e R s m args below meth c H locs cells slots Q (F0 m pc ls (.int (if P then 1 else 0) :: rest)) := by
  refine lv_if_ne hexec hb hdg ht (fun h => ?_) (fun h => kf (fun hp => ?_))
  · by_cases hp : P
    · exact kt hp
    · exact absurd (if_neg hp) h
  · rw [if_pos hp] at h; exact absurd h (by decide)
end ZB
theorem z_neOO {G : zG} {a b i j : Nat} {x y : List Value} (ha : G a = some (.inr (i, x))) (hb : G b = some (.inr (j, y))) (h : i ≠ j) : a ≠ b := z_ne ha hb (fun q => h (congrArg Prod.fst (Sum.inr.inj q)))
theorem z_neOA {G : zG} {a b i : Nat} {x : List Value} {y : ClassId × vp_A} (ha : G a = some (.inr (i, x))) (hb : G b = some (.inl y)) : a ≠ b := z_ne ha hb (fun q => by cases q)
theorem z_neAO {G : zG} {a b i : Nat} {x : List Value} {y : ClassId × vp_A} (ha : G a = some (.inl y)) (hb : G b = some (.inr (i, x))) : a ≠ b := z_ne ha hb (fun q => by cases q)
theorem z_neLL {G : zG} {a b n k : Nat} {c d : ClassId} {x y : (Nat → Int32) ⊕ (Nat → Int64) ⊕ (Nat → UInt32) ⊕ (Nat → UInt64) ⊕ (Nat → Option Nat)} (ha : G a = some (.inl (c, n, x))) (hb : G b = some (.inl (d, k, y))) (h : n ≠ k) : a ≠ b := z_ne ha hb (fun q => h (congrArg (fun w : ClassId × vp_A => w.2.1) (Sum.inl.inj q)))
theorem z_neIQ {G : zG} {a b n k : Nat} {c d : ClassId} {x : Nat → Int32} {y : Nat → Option Nat} (ha : G a = some (.inl (c, n, .inl x))) (hb : G b = some (.inl (d, k, .inr (.inr (.inr (.inr y)))))) : a ≠ b := z_ne ha hb (fun q => by
  have := congrArg (fun w : ClassId × vp_A => w.2.2) (Sum.inl.inj q)
  cases this)
def zR (d mc ms : Nat) : Room := { frames := d, cells := mc, slots := ms, locals := 40 * d }
end
