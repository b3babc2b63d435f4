section
-- ===== PART A: goes FIRST, ahead of the names: the tables' words, and 'selects' of the private methods out of them =====
/-- a private method of a class that the tables say can be made, by its rows of tables_1 -/
def lw_okq (q : MethodName × Nat) : Prop := (q.1.cls ≠ "java/lang/invoke/MethodHandle" ∧ q.1.cls ≠ "java/lang/invoke/VarHandle") ∧ Cond.instantiable q.1.cls q.2 ∈ tables_1 ∧ Cond.privateMethod q.1 ∈ tables_1 ∧ Cond.instanceMethod q.1 ∈ tables_1
theorem lw_p0 : lw_okq (⟨"FairRents", "homeAt", "(I)LFairRents$Home;"⟩, 12) := ⟨⟨by decide +kernel, by decide +kernel⟩, List.mem_of_getElem? (i := 14) (by decide +kernel), List.mem_of_getElem? (i := 199) (by decide +kernel), List.mem_of_getElem? (i := 200) (by decide +kernel)⟩
theorem lw_p1 : lw_okq (⟨"FairRents", "lawOn", "(I)LFairRents$Law;"⟩, 12) := ⟨⟨by decide +kernel, by decide +kernel⟩, List.mem_of_getElem? (i := 14) (by decide +kernel), List.mem_of_getElem? (i := 251) (by decide +kernel), List.mem_of_getElem? (i := 252) (by decide +kernel)⟩
theorem lw_p2 : lw_okq (⟨"FairRents$Heads", "insert", "(I)V"⟩, 5) := ⟨⟨by decide +kernel, by decide +kernel⟩, List.mem_of_getElem? (i := 40) (by decide +kernel), List.mem_of_getElem? (i := 316) (by decide +kernel), List.mem_of_getElem? (i := 317) (by decide +kernel)⟩
theorem lw_p3 : lw_okq (⟨"FairRents$Heads", "lowerMiddle", "()I"⟩, 5) := ⟨⟨by decide +kernel, by decide +kernel⟩, List.mem_of_getElem? (i := 40) (by decide +kernel), List.mem_of_getElem? (i := 321) (by decide +kernel), List.mem_of_getElem? (i := 322) (by decide +kernel)⟩
theorem lw_p4 : lw_okq (⟨"FairRents", "barEnd", "(I)I"⟩, 12) := ⟨⟨by decide +kernel, by decide +kernel⟩, List.mem_of_getElem? (i := 14) (by decide +kernel), List.mem_of_getElem? (i := 348) (by decide +kernel), List.mem_of_getElem? (i := 349) (by decide +kernel)⟩
theorem lw_p5 : lw_okq (⟨"FairRents", "latestStanding", "(I)I"⟩, 12) := ⟨⟨by decide +kernel, by decide +kernel⟩, List.mem_of_getElem? (i := 14) (by decide +kernel), List.mem_of_getElem? (i := 352) (by decide +kernel), List.mem_of_getElem? (i := 353) (by decide +kernel)⟩
theorem lw_p6 : lw_okq (⟨"FairRents", "entryAt", "(I)LFairRents$Entry;"⟩, 12) := ⟨⟨by decide +kernel, by decide +kernel⟩, List.mem_of_getElem? (i := 14) (by decide +kernel), List.mem_of_getElem? (i := 356) (by decide +kernel), List.mem_of_getElem? (i := 357) (by decide +kernel)⟩
theorem lw_p7 : lw_okq (⟨"FairRents", "workDues", "(ILFairRents$Letting;I)I"⟩, 12) := ⟨⟨by decide +kernel, by decide +kernel⟩, List.mem_of_getElem? (i := 14) (by decide +kernel), List.mem_of_getElem? (i := 428) (by decide +kernel), List.mem_of_getElem? (i := 429) (by decide +kernel)⟩
theorem lw_p8 : lw_okq (⟨"FairRents", "homesLet", "()I"⟩, 12) := ⟨⟨by decide +kernel, by decide +kernel⟩, List.mem_of_getElem? (i := 14) (by decide +kernel), List.mem_of_getElem? (i := 465) (by decide +kernel), List.mem_of_getElem? (i := 466) (by decide +kernel)⟩
theorem lw_p9 : lw_okq (⟨"FairRents", "lawsTold", "()I"⟩, 12) := ⟨⟨by decide +kernel, by decide +kernel⟩, List.mem_of_getElem? (i := 14) (by decide +kernel), List.mem_of_getElem? (i := 469) (by decide +kernel), List.mem_of_getElem? (i := 470) (by decide +kernel)⟩
theorem lw_p10 : lw_okq (⟨"FairRentsModel", "isHome", "(I)Z"⟩, 30) := ⟨⟨by decide +kernel, by decide +kernel⟩, List.mem_of_getElem? (i := 477) (by decide +kernel), List.mem_of_getElem? (i := 586) (by decide +kernel), List.mem_of_getElem? (i := 587) (by decide +kernel)⟩
theorem lw_p11 : lw_okq (⟨"FairRentsModel", "pointsOf", "(I)I"⟩, 30) := ⟨⟨by decide +kernel, by decide +kernel⟩, List.mem_of_getElem? (i := 477) (by decide +kernel), List.mem_of_getElem? (i := 596) (by decide +kernel), List.mem_of_getElem? (i := 597) (by decide +kernel)⟩
theorem lw_p12 : lw_okq (⟨"FairRentsModel", "lawOf", "(II)I"⟩, 30) := ⟨⟨by decide +kernel, by decide +kernel⟩, List.mem_of_getElem? (i := 477) (by decide +kernel), List.mem_of_getElem? (i := 608) (by decide +kernel), List.mem_of_getElem? (i := 609) (by decide +kernel)⟩
theorem lw_p13 : lw_okq (⟨"FairRentsModel", "yearOf", "(I)I"⟩, 30) := ⟨⟨by decide +kernel, by decide +kernel⟩, List.mem_of_getElem? (i := 477) (by decide +kernel), List.mem_of_getElem? (i := 612) (by decide +kernel), List.mem_of_getElem? (i := 613) (by decide +kernel)⟩
theorem lw_p14 : lw_okq (⟨"FairRentsModel", "headOf", "(III)I"⟩, 30) := ⟨⟨by decide +kernel, by decide +kernel⟩, List.mem_of_getElem? (i := 477) (by decide +kernel), List.mem_of_getElem? (i := 632) (by decide +kernel), List.mem_of_getElem? (i := 633) (by decide +kernel)⟩
theorem lw_p15 : lw_okq (⟨"FairRentsModel", "collect", "(II)V"⟩, 30) := ⟨⟨by decide +kernel, by decide +kernel⟩, List.mem_of_getElem? (i := 477) (by decide +kernel), List.mem_of_getElem? (i := 636) (by decide +kernel), List.mem_of_getElem? (i := 637) (by decide +kernel)⟩
def lw_privs_1 : List (MethodName × Nat) := [(⟨"FairRents", "homeAt", "(I)LFairRents$Home;"⟩, 12), (⟨"FairRents", "lawOn", "(I)LFairRents$Law;"⟩, 12), (⟨"FairRents$Heads", "insert", "(I)V"⟩, 5), (⟨"FairRents$Heads", "lowerMiddle", "()I"⟩, 5), (⟨"FairRents", "barEnd", "(I)I"⟩, 12), (⟨"FairRents", "latestStanding", "(I)I"⟩, 12), (⟨"FairRents", "entryAt", "(I)LFairRents$Entry;"⟩, 12), (⟨"FairRents", "workDues", "(ILFairRents$Letting;I)I"⟩, 12), (⟨"FairRents", "homesLet", "()I"⟩, 12), (⟨"FairRents", "lawsTold", "()I"⟩, 12), (⟨"FairRentsModel", "isHome", "(I)Z"⟩, 30), (⟨"FairRentsModel", "pointsOf", "(I)I"⟩, 30), (⟨"FairRentsModel", "lawOf", "(II)I"⟩, 30), (⟨"FairRentsModel", "yearOf", "(I)I"⟩, 30), (⟨"FairRentsModel", "headOf", "(III)I"⟩, 30), (⟨"FairRentsModel", "collect", "(II)V"⟩, 30)]
theorem lw_r1 : ∀ q ∈ lw_privs_1, lw_okq q := List.forall_mem_cons.mpr ⟨lw_p0, List.forall_mem_cons.mpr ⟨lw_p1, List.forall_mem_cons.mpr ⟨lw_p2, List.forall_mem_cons.mpr ⟨lw_p3, List.forall_mem_cons.mpr ⟨lw_p4, List.forall_mem_cons.mpr ⟨lw_p5, List.forall_mem_cons.mpr ⟨lw_p6, List.forall_mem_cons.mpr ⟨lw_p7, List.forall_mem_cons.mpr ⟨lw_p8, List.forall_mem_cons.mpr ⟨lw_p9, List.forall_mem_cons.mpr ⟨lw_p10, List.forall_mem_cons.mpr ⟨lw_p11, List.forall_mem_cons.mpr ⟨lw_p12, List.forall_mem_cons.mpr ⟨lw_p13, List.forall_mem_cons.mpr ⟨lw_p14, List.forall_mem_cons.mpr ⟨lw_p15, fun _ h => absurd h List.not_mem_nil⟩⟩⟩⟩⟩⟩⟩⟩⟩⟩⟩⟩⟩⟩⟩⟩
theorem lw_p16 : lw_okq (⟨"FairRentsModel", "openOf", "(I)I"⟩, 30) := ⟨⟨by decide +kernel, by decide +kernel⟩, List.mem_of_getElem? (i := 477) (by decide +kernel), List.mem_of_getElem? (i := 649) (by decide +kernel), List.mem_of_getElem? (i := 650) (by decide +kernel)⟩
theorem lw_p17 : lw_okq (⟨"FairRentsModel", "latestOf", "(I)I"⟩, 30) := ⟨⟨by decide +kernel, by decide +kernel⟩, List.mem_of_getElem? (i := 477) (by decide +kernel), List.mem_of_getElem? (i := 653) (by decide +kernel), List.mem_of_getElem? (i := 654) (by decide +kernel)⟩
theorem lw_p18 : lw_okq (⟨"FairRentsModel", "work", "(II)V"⟩, 30) := ⟨⟨by decide +kernel, by decide +kernel⟩, List.mem_of_getElem? (i := 477) (by decide +kernel), List.mem_of_getElem? (i := 677) (by decide +kernel), List.mem_of_getElem? (i := 678) (by decide +kernel)⟩
theorem lw_p19 : lw_okq (⟨"FairRentsModel", "paidBy", "(II)I"⟩, 30) := ⟨⟨by decide +kernel, by decide +kernel⟩, List.mem_of_getElem? (i := 477) (by decide +kernel), List.mem_of_getElem? (i := 686) (by decide +kernel), List.mem_of_getElem? (i := 687) (by decide +kernel)⟩
def lw_privs_2 : List (MethodName × Nat) := [(⟨"FairRentsModel", "openOf", "(I)I"⟩, 30), (⟨"FairRentsModel", "latestOf", "(I)I"⟩, 30), (⟨"FairRentsModel", "work", "(II)V"⟩, 30), (⟨"FairRentsModel", "paidBy", "(II)I"⟩, 30)]
theorem lw_r2 : ∀ q ∈ lw_privs_2, lw_okq q := List.forall_mem_cons.mpr ⟨lw_p16, List.forall_mem_cons.mpr ⟨lw_p17, List.forall_mem_cons.mpr ⟨lw_p18, List.forall_mem_cons.mpr ⟨lw_p19, fun _ h => absurd h List.not_mem_nil⟩⟩⟩⟩
def lw_privs : List (MethodName × Nat) := lw_privs_1 ++ (lw_privs_2)
def lw_tbl : List Cond := k2_sels lw_privs ++ tables_1
theorem lw_privs_ok : ∀ q ∈ lw_privs, lw_okq q := by
  show ∀ q ∈ lw_privs_1 ++ (lw_privs_2), lw_okq q
  exact List.forall_mem_append.mpr ⟨lw_r1, lw_r2⟩
end
section
/-! ===== BEGIN words of one list among another's, by their places ===== -/
theorem goodIn_r {big : List Cond} (ws : List Cond) (ps : List Nat) (hp : ws = ps.filterMap (fun i => big[i]?)) (h : ws.all goodWord = true) : GoodIn big ws := by
  intro w hw
  have h1 := List.all_eq_true.mp h w hw
  rw [hp] at hw
  obtain ⟨i, -, hi⟩ := List.mem_filterMap.mp hw
  have hm : w ∈ big := by first | exact List.mem_of_getElem? hi | exact List.getElem?_mem hi
  exact ⟨hm, good_of_word h1⟩
theorem goodIn_app {big a b : List Cond} (ha : GoodIn big a) (hb : GoodIn big b) : GoodIn big (a ++ b) := fun w h => (List.mem_append.mp h).elim (ha w) (hb w)
theorem goodIn_ca {big a b : List Cond} {c : Cond} (ha : GoodIn big (c :: a)) (hb : GoodIn big b) : GoodIn big (c :: (a ++ b)) := fun w h => (List.mem_cons.mp h).elim (fun e => ha w (List.mem_cons.mpr (Or.inl e))) (fun h => (List.mem_append.mp h).elim (fun h => ha w (List.mem_cons.mpr (Or.inr h))) (hb w))
theorem goodIn_sub {big ws : List Cond} (hm : ∀ w ∈ ws, w ∈ big) (h : ws.all goodWord = true) : GoodIn big ws := fun w hw => ⟨hm w hw, good_of_word (List.all_eq_true.mp h w hw)⟩
/-! ===== END ===== -/

/-! ===== BEGIN printed: names, fields, word lists, decode rows ===== -/
def RX0 : String := "FairRents$Entry"
def TX0 : u_T := fun k => match k with
  | 0 => ("FairRents$Entry", "home", "I", true)
  | 1 => ("FairRents$Entry", "letting", "I", true)
  | 2 => ("FairRents$Entry", "day", "I", true)
  | 3 => ("FairRents$Entry", "law", "LFairRents$Law;", true)
  | 4 => ("FairRents$Entry", "rent", "I", true)
  | 5 => ("FairRents$Entry", "middle", "I", true)
  | 6 => ("FairRents$Entry", "scarcity", "I", true)
  | 7 => ("FairRents$Entry", "repairs", "I", true)
  | _ => ("FairRents$Entry", "stands", "Z", false)
def tyX0 : Nat → FieldType := fun k => match k with
  | 0 => .int
  | 1 => .int
  | 2 => .int
  | 3 => .object "FairRents$Law"
  | 4 => .int
  | 5 => .int
  | 6 => .int
  | 7 => .int
  | _ => .boolean
abbrev wsX00 : List Cond := u_ws RX0 TX0 9
theorem nmX0 : ∀ a, a < 9 → ∀ b, b < 9 → a ≠ b → (TX0 a).2.1 ≠ (TX0 b).2.1 := by decide +kernel
theorem tyX0_ok : ∀ k, k < 9 → parseFieldDescriptor (TX0 k).2.2.1 = some (tyX0 k) := by decide +kernel
abbrev cX0_init : ByteArray := prog_2_method_1_code
def yX0_init : MethodName := ⟨RX0, "<init>", "(IIILFairRents$Law;LFairRents$Heads;)V"⟩
abbrev cX0_binds : ByteArray := prog_2_method_2_code
def yX0_binds : MethodName := ⟨RX0, "binds", "(II)Z"⟩
abbrev cX0_steppedFrom : ByteArray := prog_2_method_3_code
def yX0_steppedFrom : MethodName := ⟨RX0, "steppedFrom", "(II)I"⟩
def RX1 : String := "FairRents$Flat"
def TX1 : u_T := fun k => match k with
  | 0 => ("FairRents$Plain", "rooms", "I", true)
  | _ => ("FairRents$Flat", "floor", "I", true)
def tyX1 : Nat → FieldType := fun k => match k with
  | 0 => .int
  | _ => .int
abbrev wsX10 : List Cond := u_ws RX1 TX1 2
theorem nmX1 : ∀ a, a < 2 → ∀ b, b < 2 → a ≠ b → (TX1 a).2.1 ≠ (TX1 b).2.1 := by decide +kernel
theorem tyX1_ok : ∀ k, k < 2 → parseFieldDescriptor (TX1 k).2.2.1 = some (tyX1 k) := by decide +kernel
abbrev cX1_init : ByteArray := prog_3_method_1_code
def yX1_init : MethodName := ⟨RX1, "<init>", "(II)V"⟩
abbrev cX1_worth : ByteArray := prog_3_method_2_code
def yX1_worth : MethodName := ⟨RX1, "worth", "()I"⟩
abbrev cX1_marks : ByteArray := prog_3_method_3_code
def yX1_marks : MethodName := ⟨RX1, "marks", "()I"⟩
def RX2 : String := "FairRents$Heads"
def TX2 : u_T := fun k => match k with
  | 0 => ("FairRents$Heads", "ordered", "[I", true)
  | 1 => ("FairRents$Heads", "counted", "I", false)
  | 2 => ("FairRents$Heads", "middle", "I", false)
  | 3 => ("FairRents$Heads", "scarcity", "I", false)
  | _ => ("FairRents$Heads", "repairs", "I", false)
def tyX2 : Nat → FieldType := fun k => match k with
  | 0 => .array .int
  | 1 => .int
  | 2 => .int
  | 3 => .int
  | _ => .int
abbrev wsX20 : List Cond := u_ws RX2 TX2 5
theorem nmX2 : ∀ a, a < 5 → ∀ b, b < 5 → a ≠ b → (TX2 a).2.1 ≠ (TX2 b).2.1 := by decide +kernel
theorem tyX2_ok : ∀ k, k < 5 → parseFieldDescriptor (TX2 k).2.2.1 = some (tyX2 k) := by decide +kernel
abbrev cX2_init : ByteArray := prog_4_method_1_code
def yX2_init : MethodName := ⟨RX2, "<init>", "()V"⟩
abbrev cX2_work : ByteArray := prog_4_method_2_code
def yX2_work : MethodName := ⟨RX2, "work", "(LFairRents$Home;LFairRents$Law;[LFairRents$Like;I)V"⟩
abbrev cX2_fairRent : ByteArray := prog_4_method_3_code
def yX2_fairRent : MethodName := ⟨RX2, "fairRent", "()I"⟩
abbrev cX2_insert : ByteArray := prog_4_method_4_code
def yX2_insert : MethodName := ⟨RX2, "insert", "(I)V"⟩
abbrev cX2_lowerMiddle : ByteArray := prog_4_method_5_code
def yX2_lowerMiddle : MethodName := ⟨RX2, "lowerMiddle", "()I"⟩
def RX3 : String := "FairRents$Home"
def TX3 : u_T := fun k => match k with
  | 0 => ("FairRents$Home", "body", "LFairRents$Plain;", true)
  | 1 => ("FairRents$Home", "area", "I", true)
  | 2 => ("FairRents$Home", "letting", "LFairRents$Letting;", true)
  | _ => ("FairRents$Home", "faults", "I", false)
def tyX3 : Nat → FieldType := fun k => match k with
  | 0 => .object "FairRents$Plain"
  | 1 => .int
  | 2 => .object "FairRents$Letting"
  | _ => .int
abbrev wsX30 : List Cond := u_ws RX3 TX3 4
theorem nmX3 : ∀ a, a < 4 → ∀ b, b < 4 → a ≠ b → (TX3 a).2.1 ≠ (TX3 b).2.1 := by decide +kernel
theorem tyX3_ok : ∀ k, k < 4 → parseFieldDescriptor (TX3 k).2.2.1 = some (tyX3 k) := by decide +kernel
abbrev cX3_init : ByteArray := prog_5_method_1_code
def yX3_init : MethodName := ⟨RX3, "<init>", "(LFairRents$Plain;I)V"⟩
def RX4 : String := "FairRents$Law"
def TX4 : u_T := fun k => match k with
  | _ => ("FairRents$Law", "numbers", "[I", true)
def tyX4 : Nat → FieldType := fun k => match k with
  | _ => .array .int
abbrev wsX40 : List Cond := u_ws RX4 TX4 1
theorem nmX4 : ∀ a, a < 1 → ∀ b, b < 1 → a ≠ b → (TX4 a).2.1 ≠ (TX4 b).2.1 := by decide +kernel
theorem tyX4_ok : ∀ k, k < 1 → parseFieldDescriptor (TX4 k).2.2.1 = some (tyX4 k) := by decide +kernel
abbrev cX4_init : ByteArray := prog_6_method_1_code
def yX4_init : MethodName := ⟨RX4, "<init>", "([I)V"⟩
abbrev cX4_number : ByteArray := prog_6_method_2_code
def yX4_number : MethodName := ⟨RX4, "number", "(I)I"⟩
def RX5 : String := "FairRents$Letting"
def TX5 : u_T := fun k => match k with
  | 0 => ("FairRents$Letting", "sums", "[I", true)
  | 1 => ("FairRents$Letting", "number", "I", false)
  | 2 => ("FairRents$Letting", "first", "I", false)
  | 3 => ("FairRents$Letting", "rent", "I", false)
  | _ => ("FairRents$Letting", "paid", "I", false)
def tyX5 : Nat → FieldType := fun k => match k with
  | 0 => .array .int
  | 1 => .int
  | 2 => .int
  | 3 => .int
  | _ => .int
abbrev wsX50 : List Cond := u_ws RX5 TX5 5
theorem nmX5 : ∀ a, a < 5 → ∀ b, b < 5 → a ≠ b → (TX5 a).2.1 ≠ (TX5 b).2.1 := by decide +kernel
theorem tyX5_ok : ∀ k, k < 5 → parseFieldDescriptor (TX5 k).2.2.1 = some (tyX5 k) := by decide +kernel
abbrev cX5_init : ByteArray := prog_7_method_1_code
def yX5_init : MethodName := ⟨RX5, "<init>", "()V"⟩
abbrev cX5_isLet : ByteArray := prog_7_method_2_code
def yX5_isLet : MethodName := ⟨RX5, "isLet", "()Z"⟩
abbrev cX5_covers : ByteArray := prog_7_method_3_code
def yX5_covers : MethodName := ⟨RX5, "covers", "(I)Z"⟩
abbrev cX5_begin : ByteArray := prog_7_method_4_code
def yX5_begin : MethodName := ⟨RX5, "begin", "(II)V"⟩
abbrev cX5_take : ByteArray := prog_7_method_5_code
def yX5_take : MethodName := ⟨RX5, "take", "(II)V"⟩
abbrev cX5_paidOn : ByteArray := prog_7_method_6_code
def yX5_paidOn : MethodName := ⟨RX5, "paidOn", "(I)I"⟩
def RX6 : String := "FairRents$Like"
def TX6 : u_T := fun k => match k with
  | 0 => ("FairRents$Like", "area", "I", true)
  | 1 => ("FairRents$Like", "points", "I", true)
  | 2 => ("FairRents$Like", "rent", "I", true)
  | 3 => ("FairRents$Like", "day", "I", true)
  | _ => ("FairRents$Like", "struck", "Z", false)
def tyX6 : Nat → FieldType := fun k => match k with
  | 0 => .int
  | 1 => .int
  | 2 => .int
  | 3 => .int
  | _ => .boolean
abbrev wsX60 : List Cond := u_ws RX6 TX6 5
theorem nmX6 : ∀ a, a < 5 → ∀ b, b < 5 → a ≠ b → (TX6 a).2.1 ≠ (TX6 b).2.1 := by decide +kernel
theorem tyX6_ok : ∀ k, k < 5 → parseFieldDescriptor (TX6 k).2.2.1 = some (tyX6 k) := by decide +kernel
abbrev cX6_init : ByteArray := prog_8_method_1_code
def yX6_init : MethodName := ⟨RX6, "<init>", "(IIII)V"⟩
abbrev cX6_countsFor : ByteArray := prog_8_method_2_code
def yX6_countsFor : MethodName := ⟨RX6, "countsFor", "(II)Z"⟩
abbrev cX6_putRight : ByteArray := prog_8_method_3_code
def yX6_putRight : MethodName := ⟨RX6, "putRight", "(II)I"⟩
def RX7 : String := "FairRents$Old"
def TX7 : u_T := fun k => match k with
  | 0 => ("FairRents$Flat", "floor", "I", true)
  | _ => ("FairRents$Plain", "rooms", "I", true)
def tyX7 : Nat → FieldType := fun k => match k with
  | 0 => .int
  | _ => .int
abbrev wsX70 : List Cond := u_ws RX7 TX7 2
theorem nmX7 : ∀ a, a < 2 → ∀ b, b < 2 → a ≠ b → (TX7 a).2.1 ≠ (TX7 b).2.1 := by decide +kernel
theorem tyX7_ok : ∀ k, k < 2 → parseFieldDescriptor (TX7 k).2.2.1 = some (tyX7 k) := by decide +kernel
abbrev cX7_init : ByteArray := prog_9_method_1_code
def yX7_init : MethodName := ⟨RX7, "<init>", "(II)V"⟩
abbrev cX7_worth : ByteArray := prog_9_method_2_code
def yX7_worth : MethodName := ⟨RX7, "worth", "()I"⟩
abbrev cX7_marks : ByteArray := prog_9_method_3_code
def yX7_marks : MethodName := ⟨RX7, "marks", "()I"⟩
def RX8 : String := "FairRents$Plain"
def TX8 : u_T := fun k => match k with
  | _ => ("FairRents$Plain", "rooms", "I", true)
def tyX8 : Nat → FieldType := fun k => match k with
  | _ => .int
abbrev wsX80 : List Cond := u_ws RX8 TX8 1
theorem nmX8 : ∀ a, a < 1 → ∀ b, b < 1 → a ≠ b → (TX8 a).2.1 ≠ (TX8 b).2.1 := by decide +kernel
theorem tyX8_ok : ∀ k, k < 1 → parseFieldDescriptor (TX8 k).2.2.1 = some (tyX8 k) := by decide +kernel
abbrev cX8_init : ByteArray := prog_10_method_1_code
def yX8_init : MethodName := ⟨RX8, "<init>", "(I)V"⟩
abbrev cX8_worth : ByteArray := prog_10_method_2_code
def yX8_worth : MethodName := ⟨RX8, "worth", "()I"⟩
abbrev cX8_marks : ByteArray := prog_10_method_3_code
def yX8_marks : MethodName := ⟨RX8, "marks", "()I"⟩
def RX9 : String := "FairRents"
def TX9 : u_T := fun k => match k with
  | 0 => ("FairRents", "homes", "[LFairRents$Home;", true)
  | 1 => ("FairRents", "likes", "[LFairRents$Like;", true)
  | 2 => ("FairRents", "entries", "[LFairRents$Entry;", true)
  | 3 => ("FairRents", "laws", "[LFairRents$Law;", true)
  | 4 => ("FairRents", "firstLaw", "LFairRents$Law;", true)
  | 5 => ("FairRents", "heads", "LFairRents$Heads;", true)
  | 6 => ("FairRents", "dues", "[I", true)
  | 7 => ("FairRents", "homesMade", "I", false)
  | 8 => ("FairRents", "likesTold", "I", false)
  | 9 => ("FairRents", "entriesMade", "I", false)
  | 10 => ("FairRents", "today", "I", false)
  | _ => ("FairRents", "traced", "J", false)
def tyX9 : Nat → FieldType := fun k => match k with
  | 0 => .array (.object "FairRents$Home")
  | 1 => .array (.object "FairRents$Like")
  | 2 => .array (.object "FairRents$Entry")
  | 3 => .array (.object "FairRents$Law")
  | 4 => .object "FairRents$Law"
  | 5 => .object "FairRents$Heads"
  | 6 => .array .int
  | 7 => .int
  | 8 => .int
  | 9 => .int
  | 10 => .int
  | _ => .long
abbrev wsX90 : List Cond := u_ws RX9 TX9 12
theorem nmX9 : ∀ a, a < 12 → ∀ b, b < 12 → a ≠ b → (TX9 a).2.1 ≠ (TX9 b).2.1 := by decide +kernel
theorem tyX9_ok : ∀ k, k < 12 → parseFieldDescriptor (TX9 k).2.2.1 = some (tyX9 k) := by decide +kernel
abbrev cX9_init : ByteArray := prog_1_method_1_code
def yX9_init : MethodName := ⟨RX9, "<init>", "()V"⟩
abbrev cX9_home : ByteArray := prog_1_method_2_code
def yX9_home : MethodName := ⟨RX9, "home", "(IIII)I"⟩
abbrev cX9_faults : ByteArray := prog_1_method_3_code
def yX9_faults : MethodName := ⟨RX9, "faults", "(II)I"⟩
abbrev cX9_points : ByteArray := prog_1_method_4_code
def yX9_points : MethodName := ⟨RX9, "points", "(I)I"⟩
abbrev cX9_law : ByteArray := prog_1_method_5_code
def yX9_law : MethodName := ⟨RX9, "law", "(IIIIIIII)I"⟩
abbrev cX9_force : ByteArray := prog_1_method_6_code
def yX9_force : MethodName := ⟨RX9, "force", "(II)I"⟩
abbrev cX9_like : ByteArray := prog_1_method_7_code
def yX9_like : MethodName := ⟨RX9, "like", "(III)I"⟩
abbrev cX9_strike : ByteArray := prog_1_method_8_code
def yX9_strike : MethodName := ⟨RX9, "strike", "(I)I"⟩
abbrev cX9_days : ByteArray := prog_1_method_9_code
def yX9_days : MethodName := ⟨RX9, "days", "(I)I"⟩
abbrev cX9_head : ByteArray := prog_1_method_10_code
def yX9_head : MethodName := ⟨RX9, "head", "(III)I"⟩
abbrev cX9_let : ByteArray := prog_1_method_11_code
def yX9_let : MethodName := ⟨RX9, "let", "(II)I"⟩
abbrev cX9_ask : ByteArray := prog_1_method_12_code
def yX9_ask : MethodName := ⟨RX9, "ask", "(I)I"⟩
abbrev cX9_open : ByteArray := prog_1_method_13_code
def yX9_open : MethodName := ⟨RX9, "open", "(I)I"⟩
abbrev cX9_appeal : ByteArray := prog_1_method_14_code
def yX9_appeal : MethodName := ⟨RX9, "appeal", "(I)I"⟩
abbrev cX9_entry : ByteArray := prog_1_method_15_code
def yX9_entry : MethodName := ⟨RX9, "entry", "(II)I"⟩
abbrev cX9_latest : ByteArray := prog_1_method_16_code
def yX9_latest : MethodName := ⟨RX9, "latest", "(I)I"⟩
abbrev cX9_due : ByteArray := prog_1_method_17_code
def yX9_due : MethodName := ⟨RX9, "due", "(II)I"⟩
abbrev cX9_pay : ByteArray := prog_1_method_18_code
def yX9_pay : MethodName := ⟨RX9, "pay", "(II)I"⟩
abbrev cX9_owed : ByteArray := prog_1_method_19_code
def yX9_owed : MethodName := ⟨RX9, "owed", "(II)I"⟩
abbrev cX9_count : ByteArray := prog_1_method_20_code
def yX9_count : MethodName := ⟨RX9, "count", "(I)I"⟩
abbrev cX9_trace : ByteArray := prog_1_method_21_code
def yX9_trace : MethodName := ⟨RX9, "trace", "()J"⟩
abbrev cX9_within : ByteArray := prog_1_method_22_code
def yX9_within : MethodName := ⟨RX9, "within", "(III)Z"⟩
abbrev cX9_lawful : ByteArray := prog_1_method_23_code
def yX9_lawful : MethodName := ⟨RX9, "lawful", "([I)Z"⟩
abbrev cX9_bodyOf : ByteArray := prog_1_method_24_code
def yX9_bodyOf : MethodName := ⟨RX9, "bodyOf", "(III)LFairRents$Plain;"⟩
abbrev cX9_homeAt : ByteArray := prog_1_method_25_code
def yX9_homeAt : MethodName := ⟨RX9, "homeAt", "(I)LFairRents$Home;"⟩
abbrev cX9_entryAt : ByteArray := prog_1_method_26_code
def yX9_entryAt : MethodName := ⟨RX9, "entryAt", "(I)LFairRents$Entry;"⟩
abbrev cX9_lawOn : ByteArray := prog_1_method_27_code
def yX9_lawOn : MethodName := ⟨RX9, "lawOn", "(I)LFairRents$Law;"⟩
abbrev cX9_latestStanding : ByteArray := prog_1_method_28_code
def yX9_latestStanding : MethodName := ⟨RX9, "latestStanding", "(I)I"⟩
abbrev cX9_barEnd : ByteArray := prog_1_method_29_code
def yX9_barEnd : MethodName := ⟨RX9, "barEnd", "(I)I"⟩
abbrev cX9_workDues : ByteArray := prog_1_method_30_code
def yX9_workDues : MethodName := ⟨RX9, "workDues", "(ILFairRents$Letting;I)I"⟩
abbrev cX9_homesLet : ByteArray := prog_1_method_31_code
def yX9_homesLet : MethodName := ⟨RX9, "homesLet", "()I"⟩
abbrev cX9_lawsTold : ByteArray := prog_1_method_32_code
def yX9_lawsTold : MethodName := ⟨RX9, "lawsTold", "()I"⟩
def RX10 : String := "FairRentsModel"
def TX10 : u_T := fun k => match k with
  | 0 => ("FairRentsModel", "today", "I", false)
  | 1 => ("FairRentsModel", "homes", "I", false)
  | 2 => ("FairRentsModel", "kind", "[I", true)
  | 3 => ("FairRentsModel", "area", "[I", true)
  | 4 => ("FairRentsModel", "rooms", "[I", true)
  | 5 => ("FairRentsModel", "floor", "[I", true)
  | 6 => ("FairRentsModel", "faults", "[I", true)
  | 7 => ("FairRentsModel", "trace", "J", false)
  | 8 => ("FairRentsModel", "laws", "[I", true)
  | 9 => ("FairRentsModel", "isTold", "[Z", true)
  | 10 => ("FairRentsModel", "likes", "I", false)
  | 11 => ("FairRentsModel", "likeArea", "[I", true)
  | 12 => ("FairRentsModel", "likePoints", "[I", true)
  | 13 => ("FairRentsModel", "likeRent", "[I", true)
  | 14 => ("FairRentsModel", "likeDay", "[I", true)
  | 15 => ("FairRentsModel", "isStruck", "[Z", true)
  | 16 => ("FairRentsModel", "letDay", "[I", true)
  | 17 => ("FairRentsModel", "letRent", "[I", true)
  | 18 => ("FairRentsModel", "letting", "[I", true)
  | 19 => ("FairRentsModel", "paid", "[I", true)
  | 20 => ("FairRentsModel", "entries", "I", false)
  | 21 => ("FairRentsModel", "entryHome", "[I", true)
  | 22 => ("FairRentsModel", "entryDay", "[I", true)
  | 23 => ("FairRentsModel", "entryRent", "[I", true)
  | 24 => ("FairRentsModel", "entryHead", "[I", true)
  | 25 => ("FairRentsModel", "entryLetting", "[I", true)
  | 26 => ("FairRentsModel", "isGone", "[Z", true)
  | 27 => ("FairRentsModel", "right", "[I", true)
  | 28 => ("FairRentsModel", "counted", "I", false)
  | _ => ("FairRentsModel", "dues", "[I", true)
def tyX10 : Nat → FieldType := fun k => match k with
  | 0 => .int
  | 1 => .int
  | 2 => .array .int
  | 3 => .array .int
  | 4 => .array .int
  | 5 => .array .int
  | 6 => .array .int
  | 7 => .long
  | 8 => .array .int
  | 9 => .array .boolean
  | 10 => .int
  | 11 => .array .int
  | 12 => .array .int
  | 13 => .array .int
  | 14 => .array .int
  | 15 => .array .boolean
  | 16 => .array .int
  | 17 => .array .int
  | 18 => .array .int
  | 19 => .array .int
  | 20 => .int
  | 21 => .array .int
  | 22 => .array .int
  | 23 => .array .int
  | 24 => .array .int
  | 25 => .array .int
  | 26 => .array .boolean
  | 27 => .array .int
  | 28 => .int
  | _ => .array .int
abbrev wsX100 : List Cond := u_ws RX10 TX10 30
theorem nmX10 : ∀ a, a < 30 → ∀ b, b < 30 → a ≠ b → (TX10 a).2.1 ≠ (TX10 b).2.1 := by decide +kernel
theorem tyX10_ok : ∀ k, k < 30 → parseFieldDescriptor (TX10 k).2.2.1 = some (tyX10 k) := by decide +kernel
abbrev cX10_init : ByteArray := prog_12_method_1_code
def yX10_init : MethodName := ⟨RX10, "<init>", "()V"⟩
abbrev cX10_in : ByteArray := prog_12_method_3_code
def yX10_in : MethodName := ⟨RX10, "in", "(III)Z"⟩
abbrev cX10_isHome : ByteArray := prog_12_method_4_code
def yX10_isHome : MethodName := ⟨RX10, "isHome", "(I)Z"⟩
abbrev cX10_home : ByteArray := prog_12_method_5_code
def yX10_home : MethodName := ⟨RX10, "home", "(IIII)I"⟩
abbrev cX10_faults : ByteArray := prog_12_method_6_code
def yX10_faults : MethodName := ⟨RX10, "faults", "(II)I"⟩
abbrev cX10_pointsOf : ByteArray := prog_12_method_7_code
def yX10_pointsOf : MethodName := ⟨RX10, "pointsOf", "(I)I"⟩
abbrev cX10_points : ByteArray := prog_12_method_8_code
def yX10_points : MethodName := ⟨RX10, "points", "(I)I"⟩
abbrev cX10_law : ByteArray := prog_12_method_9_code
def yX10_law : MethodName := ⟨RX10, "law", "(IIIIIIII)I"⟩
abbrev cX10_yearOf : ByteArray := prog_12_method_10_code
def yX10_yearOf : MethodName := ⟨RX10, "yearOf", "(I)I"⟩
abbrev cX10_lawOf : ByteArray := prog_12_method_11_code
def yX10_lawOf : MethodName := ⟨RX10, "lawOf", "(II)I"⟩
abbrev cX10_force : ByteArray := prog_12_method_12_code
def yX10_force : MethodName := ⟨RX10, "force", "(II)I"⟩
abbrev cX10_like : ByteArray := prog_12_method_13_code
def yX10_like : MethodName := ⟨RX10, "like", "(III)I"⟩
abbrev cX10_strike : ByteArray := prog_12_method_14_code
def yX10_strike : MethodName := ⟨RX10, "strike", "(I)I"⟩
abbrev cX10_days : ByteArray := prog_12_method_15_code
def yX10_days : MethodName := ⟨RX10, "days", "(I)I"⟩
abbrev cX10_collect : ByteArray := prog_12_method_16_code
def yX10_collect : MethodName := ⟨RX10, "collect", "(II)V"⟩
abbrev cX10_headOf : ByteArray := prog_12_method_17_code
def yX10_headOf : MethodName := ⟨RX10, "headOf", "(III)I"⟩
abbrev cX10_head : ByteArray := prog_12_method_18_code
def yX10_head : MethodName := ⟨RX10, "head", "(III)I"⟩
abbrev cX10_let : ByteArray := prog_12_method_19_code
def yX10_let : MethodName := ⟨RX10, "let", "(II)I"⟩
abbrev cX10_latestOf : ByteArray := prog_12_method_20_code
def yX10_latestOf : MethodName := ⟨RX10, "latestOf", "(I)I"⟩
abbrev cX10_openOf : ByteArray := prog_12_method_21_code
def yX10_openOf : MethodName := ⟨RX10, "openOf", "(I)I"⟩
abbrev cX10_ask : ByteArray := prog_12_method_22_code
def yX10_ask : MethodName := ⟨RX10, "ask", "(I)I"⟩
abbrev cX10_open : ByteArray := prog_12_method_23_code
def yX10_open : MethodName := ⟨RX10, "open", "(I)I"⟩
abbrev cX10_appeal : ByteArray := prog_12_method_24_code
def yX10_appeal : MethodName := ⟨RX10, "appeal", "(I)I"⟩
abbrev cX10_entry : ByteArray := prog_12_method_25_code
def yX10_entry : MethodName := ⟨RX10, "entry", "(II)I"⟩
abbrev cX10_latest : ByteArray := prog_12_method_26_code
def yX10_latest : MethodName := ⟨RX10, "latest", "(I)I"⟩
abbrev cX10_work : ByteArray := prog_12_method_27_code
def yX10_work : MethodName := ⟨RX10, "work", "(II)V"⟩
abbrev cX10_due : ByteArray := prog_12_method_28_code
def yX10_due : MethodName := ⟨RX10, "due", "(II)I"⟩
abbrev cX10_paidBy : ByteArray := prog_12_method_29_code
def yX10_paidBy : MethodName := ⟨RX10, "paidBy", "(II)I"⟩
abbrev cX10_pay : ByteArray := prog_12_method_30_code
def yX10_pay : MethodName := ⟨RX10, "pay", "(II)I"⟩
abbrev cX10_owed : ByteArray := prog_12_method_31_code
def yX10_owed : MethodName := ⟨RX10, "owed", "(II)I"⟩
abbrev cX10_count : ByteArray := prog_12_method_32_code
def yX10_count : MethodName := ⟨RX10, "count", "(I)I"⟩
abbrev cX10_trace : ByteArray := prog_12_method_33_code
def yX10_trace : MethodName := ⟨RX10, "trace", "()J"⟩
def RJ9 : String := "java/lang/Math"
def TJ9 : u_T := fun k => match k with
  | _ => ("", "", "", false)
def tyJ9 : Nat → FieldType := fun k => match k with
  | _ => .int
abbrev wsJ90 : List Cond := u_ws RJ9 TJ9 0
theorem nmJ9 : ∀ a, a < 0 → ∀ b, b < 0 → a ≠ b → (TJ9 a).2.1 ≠ (TJ9 b).2.1 := by decide +kernel
theorem tyJ9_ok : ∀ k, k < 0 → parseFieldDescriptor (TJ9 k).2.2.1 = some (tyJ9 k) := by decide +kernel
abbrev cJ9_floorDiv_7cf53 : ByteArray := prog_13_method_47_code
def yJ9_floorDiv_7cf53 : MethodName := ⟨RJ9, "floorDiv", "(II)I"⟩
abbrev cJ9_max_7cf53 : ByteArray := prog_13_method_65_code
def yJ9_max_7cf53 : MethodName := ⟨RJ9, "max", "(II)I"⟩
abbrev cJ9_min_7cf53 : ByteArray := prog_13_method_69_code
def yJ9_min_7cf53 : MethodName := ⟨RJ9, "min", "(II)I"⟩
def RL : String := "FairRentsLaw"
abbrev cL_law : ByteArray := code
def yL_law : MethodName := ⟨RL, "law", "([I)Z"⟩
def wsX2_fairRent : List Cond := .code yX2_fairRent cX2_fairRent 1 (some .int) :: ([.fieldLink RX2 57 "FairRents$Heads" "middle" "I", .fieldLink RX2 60 "FairRents$Heads" "scarcity" "I", .fieldLink RX2 66 "FairRents$Heads" "repairs" "I", .methodLink RX2 69 Lib.Math.max.name, .static Lib.Math.max.name, .initialized "java/lang/Math", .code Lib.Math.max.name Lib.Math.max.code 2 (some .int)] ++ wsX20)
def wsX0_init_r1 : List Cond := [Cond.methodLink RX0 3 objectInit, Cond.instanceMethod objectInit, Cond.code objectInit ⟨#[0xb1]⟩ 1 none, Cond.fieldLink RX0 9 "FairRents$Entry" "home" "I", Cond.fieldLink RX0 15 "FairRents$Entry" "letting" "I", Cond.fieldLink RX0 18 "FairRents$Entry" "day" "I", Cond.fieldLink RX0 21 "FairRents$Entry" "law" "LFairRents$Law;", Cond.fieldLink RX0 31 "FairRents$Entry" "rent" "I", Cond.fieldLink RX0 34 "FairRents$Heads" "middle" "I", Cond.fieldLink RX0 37 "FairRents$Entry" "middle" "I", Cond.fieldLink RX0 38 "FairRents$Heads" "scarcity" "I", Cond.fieldLink RX0 41 "FairRents$Entry" "scarcity" "I", Cond.fieldLink RX0 42 "FairRents$Heads" "repairs" "I", Cond.fieldLink RX0 45 "FairRents$Entry" "repairs" "I", Cond.fieldLink RX0 46 "FairRents$Entry" "stands" "Z", Cond.methodLink RX0 25 yX2_fairRent, Cond.instanceMethod yX2_fairRent, Cond.selects RX2 yX2_fairRent yX2_fairRent, Cond.initialized RX2, Cond.code yX2_fairRent cX2_fairRent 1 (some .int), Cond.fieldLink RX2 57 "FairRents$Heads" "middle" "I", Cond.fieldLink RX2 60 "FairRents$Heads" "scarcity" "I", Cond.fieldLink RX2 66 "FairRents$Heads" "repairs" "I", Cond.methodLink RX2 69 Lib.Math.max.name]
def wsX0_init_r2 : List Cond := [Cond.static Lib.Math.max.name, Cond.initialized "java/lang/Math", Cond.code Lib.Math.max.name Lib.Math.max.code 2 (some .int)]
def wsX0_init : List Cond := .code yX0_init cX0_init 6 none :: ((wsX0_init_r1 ++ wsX0_init_r2) ++ wsX00 ++ wsX20)
def wsX0_binds : List Cond := .code yX0_binds cX0_binds 3 (some .boolean) :: ([.fieldLink RX0 46 "FairRents$Entry" "stands" "Z", .fieldLink RX0 9 "FairRents$Entry" "home" "I", .fieldLink RX0 15 "FairRents$Entry" "letting" "I"] ++ wsX00)
def wsX9_within : List Cond := .code yX9_within cX9_within 3 (some .boolean) :: ([])
def wsX4_number : List Cond := .code yX4_number cX4_number 2 (some .int) :: ([.fieldLink RX4 9 "FairRents$Law" "numbers" "[I", .static yX9_within, .initialized RX9, .code yX9_within cX9_within 3 (some .boolean)] ++ wsX40)
def wsX0_steppedFrom : List Cond := .code yX0_steppedFrom cX0_steppedFrom 4 (some .int) :: ([.fieldLink RX0 31 "FairRents$Entry" "rent" "I", .fieldLink RX0 18 "FairRents$Entry" "day" "I", .fieldLink RX0 21 "FairRents$Entry" "law" "LFairRents$Law;", .methodLink RX0 56 Lib.Math.min.name, .static Lib.Math.min.name, .initialized "java/lang/Math", .code Lib.Math.min.name Lib.Math.min.code 2 (some .int), .methodLink RX0 50 yX4_number, .instanceMethod yX4_number, .selects RX4 yX4_number yX4_number, .initialized RX4, .code yX4_number cX4_number 2 (some .int), .fieldLink RX4 9 "FairRents$Law" "numbers" "[I", .static yX9_within, .initialized RX9, .code yX9_within cX9_within 3 (some .boolean)] ++ wsX00 ++ wsX40)
def wsX8_init : List Cond := .code yX8_init cX8_init 2 none :: ([.methodLink RX8 1 objectInit, .instanceMethod objectInit, .code objectInit ⟨#[0xb1]⟩ 1 none, .fieldLink RX8 7 "FairRents$Plain" "rooms" "I"] ++ wsX10 ++ wsX70 ++ wsX80)
def wsX1_init : List Cond := .code yX1_init cX1_init 3 none :: ([.fieldLink RX1 7 "FairRents$Flat" "floor" "I", .methodLink RX1 1 yX8_init, .instanceMethod yX8_init, .initialized RX8, .code yX8_init cX8_init 2 none, .methodLink RX8 1 objectInit, .instanceMethod objectInit, .code objectInit ⟨#[0xb1]⟩ 1 none, .fieldLink RX8 7 "FairRents$Plain" "rooms" "I"] ++ wsX10 ++ wsX70 ++ wsX80)
def wsX8_worth : List Cond := .code yX8_worth cX8_worth 1 (some .int) :: ([.fieldLink RX8 7 "FairRents$Plain" "rooms" "I"] ++ wsX10 ++ wsX70 ++ wsX80)
def wsX1_worth : List Cond := .code yX1_worth cX1_worth 1 (some .int) :: ([.fieldLink RX1 7 "FairRents$Flat" "floor" "I", .methodLink RX1 13 yX8_worth, .sameMethod "FairRents$Plain" "FairRents$Plain" "worth" "()I", .superclass RX1 RX8, .instanceMethod yX8_worth, .initialized RX8, .code yX8_worth cX8_worth 1 (some .int), .fieldLink RX8 7 "FairRents$Plain" "rooms" "I"] ++ wsX10 ++ wsX70 ++ wsX80)
def wsX8_marks : List Cond := .code yX8_marks cX8_marks 1 (some .int) :: ([])
def wsX1_marks : List Cond := .code yX1_marks cX1_marks 1 (some .int) :: ([.methodLink RX1 17 yX8_marks, .sameMethod "FairRents$Plain" "FairRents$Plain" "marks" "()I", .superclass RX1 RX8, .instanceMethod yX8_marks, .initialized RX8, .code yX8_marks cX8_marks 1 (some .int)])
def wsX2_init : List Cond := .code yX2_init cX2_init 1 none :: ([.methodLink RX2 3 objectInit, .instanceMethod objectInit, .code objectInit ⟨#[0xb1]⟩ 1 none, .arrayClass .int, .fieldLink RX2 9 "FairRents$Heads" "ordered" "[I"] ++ wsX20)
def wsJ9_floorDiv_7cf53 : List Cond := .code yJ9_floorDiv_7cf53 cJ9_floorDiv_7cf53 3 (some .int) :: ([])
def wsX7_worth : List Cond := .code yX7_worth cX7_worth 2 (some .int) :: ([.methodLink RX7 7 yX1_worth, .sameMethod "FairRents$Flat" "FairRents$Flat" "worth" "()I", .superclass RX7 RX1, .instanceMethod yX1_worth, .initialized RX1, .code yX1_worth cX1_worth 1 (some .int), .fieldLink RX1 7 "FairRents$Flat" "floor" "I", .methodLink RX1 13 yX8_worth, .sameMethod "FairRents$Plain" "FairRents$Plain" "worth" "()I", .superclass RX1 RX8, .instanceMethod yX8_worth, .initialized RX8, .code yX8_worth cX8_worth 1 (some .int), .fieldLink RX8 7 "FairRents$Plain" "rooms" "I", .methodLink RX7 11 yJ9_floorDiv_7cf53, .static yJ9_floorDiv_7cf53, .initialized RJ9, .code yJ9_floorDiv_7cf53 cJ9_floorDiv_7cf53 3 (some .int)] ++ wsX10 ++ wsX70 ++ wsX80)
def wsX6_countsFor : List Cond := .code yX6_countsFor cX6_countsFor 3 (some .boolean) :: ([.fieldLink RX6 22 "FairRents$Like" "struck" "Z", .fieldLink RX6 7 "FairRents$Like" "area" "I", .fieldLink RX6 19 "FairRents$Like" "day" "I"] ++ wsX60)
def wsX6_putRight : List Cond := .code yX6_putRight cX6_putRight 3 (some .int) :: ([.fieldLink RX6 16 "FairRents$Like" "rent" "I", .fieldLink RX6 13 "FairRents$Like" "points" "I"] ++ wsX60)
def wsX2_insert : List Cond := .code yX2_insert cX2_insert 3 none :: ([.fieldLink RX2 15 "FairRents$Heads" "counted" "I", .fieldLink RX2 9 "FairRents$Heads" "ordered" "[I", .static yX9_within, .initialized RX9, .code yX9_within cX9_within 3 (some .boolean)] ++ wsX20)
def wsX2_lowerMiddle : List Cond := .code yX2_lowerMiddle cX2_lowerMiddle 2 (some .int) :: ([.fieldLink RX2 15 "FairRents$Heads" "counted" "I", .fieldLink RX2 9 "FairRents$Heads" "ordered" "[I"] ++ wsX20)
def wsX2_work_r1 : List Cond := [Cond.fieldLink RX2 15 "FairRents$Heads" "counted" "I", Cond.fieldLink RX2 19 "FairRents$Home" "body" "LFairRents$Plain;", Cond.fieldLink RX2 31 "FairRents$Home" "area" "I", Cond.fieldLink RX2 57 "FairRents$Heads" "middle" "I", Cond.fieldLink RX2 60 "FairRents$Heads" "scarcity" "I", Cond.fieldLink RX2 63 "FairRents$Home" "faults" "I", Cond.fieldLink RX2 66 "FairRents$Heads" "repairs" "I", Cond.methodLink RX2 25 ⟨"FairRents$Plain", "worth", "()I"⟩, Cond.sameMethod "FairRents$Plain" "FairRents$Plain" "worth" "()I", Cond.instanceMethod ⟨"FairRents$Plain", "worth", "()I"⟩, Cond.selects RX1 ⟨"FairRents$Plain", "worth", "()I"⟩ yX1_worth, Cond.instanceMethod yX1_worth, Cond.initialized RX1, Cond.code yX1_worth cX1_worth 1 (some .int), Cond.fieldLink RX1 7 "FairRents$Flat" "floor" "I", Cond.methodLink RX1 13 yX8_worth, Cond.superclass RX1 RX8, Cond.instanceMethod yX8_worth, Cond.initialized RX8, Cond.code yX8_worth cX8_worth 1 (some .int), Cond.fieldLink RX8 7 "FairRents$Plain" "rooms" "I", Cond.selects RX7 ⟨"FairRents$Plain", "worth", "()I"⟩ yX7_worth, Cond.instanceMethod yX7_worth, Cond.initialized RX7]
def wsX2_work_r2 : List Cond := [Cond.code yX7_worth cX7_worth 2 (some .int), Cond.methodLink RX7 7 yX1_worth, Cond.sameMethod "FairRents$Flat" "FairRents$Flat" "worth" "()I", Cond.superclass RX7 RX1, Cond.methodLink RX7 11 yJ9_floorDiv_7cf53, Cond.static yJ9_floorDiv_7cf53, Cond.initialized RJ9, Cond.code yJ9_floorDiv_7cf53 cJ9_floorDiv_7cf53 3 (some .int), Cond.methodLink RX2 25 yX8_worth, Cond.selects RX8 yX8_worth yX8_worth, Cond.methodLink RX2 34 yX6_countsFor, Cond.instanceMethod yX6_countsFor, Cond.selects RX6 yX6_countsFor yX6_countsFor, Cond.initialized RX6, Cond.code yX6_countsFor cX6_countsFor 3 (some .boolean), Cond.fieldLink RX6 22 "FairRents$Like" "struck" "Z", Cond.fieldLink RX6 7 "FairRents$Like" "area" "I", Cond.fieldLink RX6 19 "FairRents$Like" "day" "I", Cond.methodLink RX2 40 yX4_number, Cond.instanceMethod yX4_number, Cond.selects RX4 yX4_number yX4_number, Cond.initialized RX4, Cond.code yX4_number cX4_number 2 (some .int), Cond.fieldLink RX4 9 "FairRents$Law" "numbers" "[I"]
def wsX2_work_r3 : List Cond := [Cond.static yX9_within, Cond.initialized RX9, Cond.code yX9_within cX9_within 3 (some .boolean), Cond.methodLink RX2 46 yX6_putRight, Cond.instanceMethod yX6_putRight, Cond.selects RX6 yX6_putRight yX6_putRight, Cond.code yX6_putRight cX6_putRight 3 (some .int), Cond.fieldLink RX6 16 "FairRents$Like" "rent" "I", Cond.fieldLink RX6 13 "FairRents$Like" "points" "I", Cond.methodLink RX2 50 yX2_insert, Cond.instanceMethod yX2_insert, Cond.selects RX2 yX2_insert yX2_insert, Cond.initialized RX2, Cond.code yX2_insert cX2_insert 3 none, Cond.fieldLink RX2 9 "FairRents$Heads" "ordered" "[I", Cond.methodLink RX2 54 yX2_lowerMiddle, Cond.instanceMethod yX2_lowerMiddle, Cond.selects RX2 yX2_lowerMiddle yX2_lowerMiddle, Cond.code yX2_lowerMiddle cX2_lowerMiddle 2 (some .int)]
def wsX2_work : List Cond := .code yX2_work cX2_work 10 none :: ((wsX2_work_r1 ++ (wsX2_work_r2 ++ wsX2_work_r3)) ++ wsX20 ++ wsX30 ++ wsX10 ++ wsX70 ++ wsX80 ++ wsX60 ++ wsX40)
def wsX5_init : List Cond := .code yX5_init cX5_init 1 none :: ([.methodLink RX5 3 objectInit, .instanceMethod objectInit, .code objectInit ⟨#[0xb1]⟩ 1 none, .arrayClass .int, .fieldLink RX5 9 "FairRents$Letting" "sums" "[I"] ++ wsX50)
def wsX3_init : List Cond := .code yX3_init cX3_init 3 none :: ([.methodLink RX3 1 objectInit, .instanceMethod objectInit, .code objectInit ⟨#[0xb1]⟩ 1 none, .fieldLink RX3 7 "FairRents$Home" "body" "LFairRents$Plain;", .fieldLink RX3 13 "FairRents$Home" "area" "I", .classLink RX3 17 RX5, .instantiable RX5 5, .initialized RX5, .fieldLink RX3 20 "FairRents$Home" "letting" "LFairRents$Letting;", .instanceMethod yX5_init, .code yX5_init cX5_init 1 none, .methodLink RX5 3 objectInit, .arrayClass .int, .fieldLink RX5 9 "FairRents$Letting" "sums" "[I"] ++ wsX30 ++ wsX50)
def wsX4_init : List Cond := .code yX4_init cX4_init 2 none :: ([.methodLink RX4 3 objectInit, .instanceMethod objectInit, .code objectInit ⟨#[0xb1]⟩ 1 none, .fieldLink RX4 9 "FairRents$Law" "numbers" "[I"] ++ wsX40)
def wsX5_isLet : List Cond := .code yX5_isLet cX5_isLet 1 (some .boolean) :: ([.fieldLink RX5 15 "FairRents$Letting" "number" "I"] ++ wsX50)
def wsX5_covers : List Cond := .code yX5_covers cX5_covers 2 (some .boolean) :: ([.fieldLink RX5 23 "FairRents$Letting" "first" "I", .methodLink RX5 19 yX5_isLet, .instanceMethod yX5_isLet, .selects RX5 yX5_isLet yX5_isLet, .initialized RX5, .code yX5_isLet cX5_isLet 1 (some .boolean), .fieldLink RX5 15 "FairRents$Letting" "number" "I"] ++ wsX50)
def wsX5_begin : List Cond := .code yX5_begin cX5_begin 4 none :: ([.fieldLink RX5 15 "FairRents$Letting" "number" "I", .fieldLink RX5 23 "FairRents$Letting" "first" "I", .fieldLink RX5 26 "FairRents$Letting" "rent" "I", .fieldLink RX5 29 "FairRents$Letting" "paid" "I", .fieldLink RX5 9 "FairRents$Letting" "sums" "[I"] ++ wsX50)
def wsX5_take : List Cond := .code yX5_take cX5_take 3 none :: ([.fieldLink RX5 9 "FairRents$Letting" "sums" "[I", .fieldLink RX5 29 "FairRents$Letting" "paid" "I", .static yX9_within, .initialized RX9, .code yX9_within cX9_within 3 (some .boolean)] ++ wsX50)
def wsX5_paidOn : List Cond := .code yX5_paidOn cX5_paidOn 2 (some .int) :: ([.fieldLink RX5 9 "FairRents$Letting" "sums" "[I", .static yX9_within, .initialized RX9, .code yX9_within cX9_within 3 (some .boolean)] ++ wsX50)
def wsX6_init : List Cond := .code yX6_init cX6_init 5 none :: ([.methodLink RX6 1 objectInit, .instanceMethod objectInit, .code objectInit ⟨#[0xb1]⟩ 1 none, .fieldLink RX6 7 "FairRents$Like" "area" "I", .fieldLink RX6 13 "FairRents$Like" "points" "I", .fieldLink RX6 16 "FairRents$Like" "rent" "I", .fieldLink RX6 19 "FairRents$Like" "day" "I"] ++ wsX60)
def wsX7_init : List Cond := .code yX7_init cX7_init 3 none :: ([.methodLink RX7 1 yX1_init, .instanceMethod yX1_init, .initialized RX1, .code yX1_init cX1_init 3 none, .fieldLink RX1 7 "FairRents$Flat" "floor" "I", .methodLink RX1 1 yX8_init, .instanceMethod yX8_init, .initialized RX8, .code yX8_init cX8_init 2 none, .methodLink RX8 1 objectInit, .instanceMethod objectInit, .code objectInit ⟨#[0xb1]⟩ 1 none, .fieldLink RX8 7 "FairRents$Plain" "rooms" "I"] ++ wsX10 ++ wsX70 ++ wsX80)
def wsX7_marks : List Cond := .code yX7_marks cX7_marks 1 (some .int) :: ([.methodLink RX7 17 yX1_marks, .sameMethod "FairRents$Flat" "FairRents$Flat" "marks" "()I", .superclass RX7 RX1, .instanceMethod yX1_marks, .initialized RX1, .code yX1_marks cX1_marks 1 (some .int), .methodLink RX1 17 yX8_marks, .sameMethod "FairRents$Plain" "FairRents$Plain" "marks" "()I", .superclass RX1 RX8, .instanceMethod yX8_marks, .initialized RX8, .code yX8_marks cX8_marks 1 (some .int)])
def wsX9_init_r1 : List Cond := [Cond.methodLink RX9 1 objectInit, Cond.instanceMethod objectInit, Cond.code objectInit ⟨#[0xb1]⟩ 1 none, Cond.classLink RX9 9 RX3, Cond.fieldLink RX9 11 "FairRents" "homes" "[LFairRents$Home;", Cond.classLink RX9 15 RX6, Cond.fieldLink RX9 17 "FairRents" "likes" "[LFairRents$Like;", Cond.classLink RX9 21 RX0, Cond.fieldLink RX9 23 "FairRents" "entries" "[LFairRents$Entry;", Cond.classLink RX9 27 RX4, Cond.fieldLink RX9 29 "FairRents" "laws" "[LFairRents$Law;", Cond.instantiable RX4 1, Cond.initialized RX4, Cond.arrayClass .int, Cond.fieldLink RX9 36 "FairRents" "firstLaw" "LFairRents$Law;", Cond.classLink RX9 40 RX2, Cond.instantiable RX2 5, Cond.initialized RX2, Cond.fieldLink RX9 43 "FairRents" "heads" "LFairRents$Heads;", Cond.fieldLink RX9 47 "FairRents" "dues" "[I", Cond.methodLink RX9 33 yX4_init, Cond.instanceMethod yX4_init, Cond.code yX4_init cX4_init 2 none, Cond.methodLink RX4 3 objectInit]
def wsX9_init_r2 : List Cond := [Cond.fieldLink RX4 9 "FairRents$Law" "numbers" "[I", Cond.instanceMethod yX2_init, Cond.code yX2_init cX2_init 1 none, Cond.methodLink RX2 3 objectInit, Cond.fieldLink RX2 9 "FairRents$Heads" "ordered" "[I"]
def wsX9_init : List Cond := .code yX9_init cX9_init 1 none :: ((wsX9_init_r1 ++ wsX9_init_r2) ++ wsX90 ++ wsX40 ++ wsX20)
def wsX9_bodyOf_r1 : List Cond := [Cond.classLink RX9 82 RX8, Cond.instantiable RX8 1, Cond.initialized RX8, Cond.classLink RX9 225 RX1, Cond.instantiable RX1 2, Cond.initialized RX1, Cond.classLink RX9 229 RX7, Cond.instantiable RX7 2, Cond.initialized RX7, Cond.methodLink RX9 222 yX8_init, Cond.instanceMethod yX8_init, Cond.code yX8_init cX8_init 2 none, Cond.methodLink RX8 1 objectInit, Cond.instanceMethod objectInit, Cond.code objectInit ⟨#[0xb1]⟩ 1 none, Cond.fieldLink RX8 7 "FairRents$Plain" "rooms" "I", Cond.methodLink RX9 227 yX1_init, Cond.instanceMethod yX1_init, Cond.code yX1_init cX1_init 3 none, Cond.fieldLink RX1 7 "FairRents$Flat" "floor" "I", Cond.methodLink RX1 1 yX8_init, Cond.methodLink RX9 231 yX7_init, Cond.instanceMethod yX7_init, Cond.code yX7_init cX7_init 3 none]
def wsX9_bodyOf_r2 : List Cond := [Cond.methodLink RX7 1 yX1_init]
def wsX9_bodyOf : List Cond := .code yX9_bodyOf cX9_bodyOf 3 (some (.object "FairRents$Plain")) :: ((wsX9_bodyOf_r1 ++ wsX9_bodyOf_r2) ++ wsX80 ++ wsX10 ++ wsX70)
def wsX9_home_r1 : List Cond := [Cond.fieldLink RX9 55 "FairRents" "homesMade" "I", Cond.fieldLink RX9 11 "FairRents" "homes" "[LFairRents$Home;", Cond.classLink RX9 9 RX3, Cond.instantiable RX3 4, Cond.initialized RX3, Cond.methodLink RX9 51 yX9_within, Cond.static yX9_within, Cond.initialized RX9, Cond.code yX9_within cX9_within 3 (some .boolean), Cond.methodLink RX9 59 yX9_bodyOf, Cond.static yX9_bodyOf, Cond.code yX9_bodyOf cX9_bodyOf 3 (some (.object "FairRents$Plain")), Cond.classLink RX9 82 RX8, Cond.instantiable RX8 1, Cond.initialized RX8, Cond.classLink RX9 225 RX1, Cond.instantiable RX1 2, Cond.initialized RX1, Cond.classLink RX9 229 RX7, Cond.instantiable RX7 2, Cond.initialized RX7, Cond.methodLink RX9 222 yX8_init, Cond.instanceMethod yX8_init, Cond.code yX8_init cX8_init 2 none]
def wsX9_home_r2 : List Cond := [Cond.methodLink RX8 1 objectInit, Cond.instanceMethod objectInit, Cond.code objectInit ⟨#[0xb1]⟩ 1 none, Cond.fieldLink RX8 7 "FairRents$Plain" "rooms" "I", Cond.methodLink RX9 227 yX1_init, Cond.instanceMethod yX1_init, Cond.code yX1_init cX1_init 3 none, Cond.fieldLink RX1 7 "FairRents$Flat" "floor" "I", Cond.methodLink RX1 1 yX8_init, Cond.methodLink RX9 231 yX7_init, Cond.instanceMethod yX7_init, Cond.code yX7_init cX7_init 3 none, Cond.methodLink RX7 1 yX1_init, Cond.methodLink RX9 63 yX3_init, Cond.instanceMethod yX3_init, Cond.code yX3_init cX3_init 3 none, Cond.methodLink RX3 1 objectInit, Cond.fieldLink RX3 7 "FairRents$Home" "body" "LFairRents$Plain;", Cond.fieldLink RX3 13 "FairRents$Home" "area" "I", Cond.classLink RX3 17 RX5, Cond.instantiable RX5 5, Cond.initialized RX5, Cond.fieldLink RX3 20 "FairRents$Home" "letting" "LFairRents$Letting;", Cond.instanceMethod yX5_init]
def wsX9_home_r3 : List Cond := [Cond.code yX5_init cX5_init 1 none, Cond.methodLink RX5 3 objectInit, Cond.arrayClass .int, Cond.fieldLink RX5 9 "FairRents$Letting" "sums" "[I"]
def wsX9_home : List Cond := .code yX9_home cX9_home 5 (some .int) :: ((wsX9_home_r1 ++ (wsX9_home_r2 ++ wsX9_home_r3)) ++ wsX90 ++ wsX30 ++ wsX80 ++ wsX10 ++ wsX70 ++ wsX50)
def wsX9_homeAt : List Cond := .code yX9_homeAt cX9_homeAt 2 (some (.object "FairRents$Home")) :: ([.fieldLink RX9 11 "FairRents" "homes" "[LFairRents$Home;", .methodLink RX9 51 yX9_within, .static yX9_within, .initialized RX9, .code yX9_within cX9_within 3 (some .boolean)] ++ wsX90)
def wsX9_faults : List Cond := .code yX9_faults cX9_faults 5 (some .int) :: ([.fieldLink RX9 70 "FairRents$Home" "faults" "I", .methodLink RX9 66 yX9_homeAt, .instanceMethod yX9_homeAt, .selects RX9 yX9_homeAt yX9_homeAt, .initialized RX9, .code yX9_homeAt cX9_homeAt 2 (some (.object "FairRents$Home")), .fieldLink RX9 11 "FairRents" "homes" "[LFairRents$Home;", .methodLink RX9 51 yX9_within, .static yX9_within, .code yX9_within cX9_within 3 (some .boolean)] ++ wsX30 ++ wsX90)
def wsX9_points_r1 : List Cond := [Cond.fieldLink RX9 73 "FairRents" "traced" "J", Cond.fieldLink RX9 77 "FairRents$Home" "body" "LFairRents$Plain;", Cond.methodLink RX9 66 yX9_homeAt, Cond.instanceMethod yX9_homeAt, Cond.selects RX9 yX9_homeAt yX9_homeAt, Cond.initialized RX9, Cond.code yX9_homeAt cX9_homeAt 2 (some (.object "FairRents$Home")), Cond.fieldLink RX9 11 "FairRents" "homes" "[LFairRents$Home;", Cond.methodLink RX9 51 yX9_within, Cond.static yX9_within, Cond.code yX9_within cX9_within 3 (some .boolean), Cond.methodLink RX9 81 ⟨"FairRents$Plain", "marks", "()I"⟩, Cond.sameMethod "FairRents$Plain" "FairRents$Plain" "marks" "()I", Cond.instanceMethod ⟨"FairRents$Plain", "marks", "()I"⟩, Cond.selects RX1 ⟨"FairRents$Plain", "marks", "()I"⟩ yX1_marks, Cond.instanceMethod yX1_marks, Cond.initialized RX1, Cond.code yX1_marks cX1_marks 1 (some .int), Cond.methodLink RX1 17 yX8_marks, Cond.superclass RX1 RX8, Cond.instanceMethod yX8_marks, Cond.initialized RX8, Cond.code yX8_marks cX8_marks 1 (some .int), Cond.selects RX7 ⟨"FairRents$Plain", "marks", "()I"⟩ yX7_marks]
def wsX9_points_r2 : List Cond := [Cond.instanceMethod yX7_marks, Cond.initialized RX7, Cond.code yX7_marks cX7_marks 1 (some .int), Cond.methodLink RX7 17 yX1_marks, Cond.sameMethod "FairRents$Flat" "FairRents$Flat" "marks" "()I", Cond.superclass RX7 RX1, Cond.methodLink RX9 81 yX8_marks, Cond.selects RX8 yX8_marks yX8_marks, Cond.methodLink RX9 87 ⟨"FairRents$Plain", "worth", "()I"⟩, Cond.sameMethod "FairRents$Plain" "FairRents$Plain" "worth" "()I", Cond.instanceMethod ⟨"FairRents$Plain", "worth", "()I"⟩, Cond.selects RX1 ⟨"FairRents$Plain", "worth", "()I"⟩ yX1_worth, Cond.instanceMethod yX1_worth, Cond.code yX1_worth cX1_worth 1 (some .int), Cond.fieldLink RX1 7 "FairRents$Flat" "floor" "I", Cond.methodLink RX1 13 yX8_worth, Cond.instanceMethod yX8_worth, Cond.code yX8_worth cX8_worth 1 (some .int), Cond.fieldLink RX8 7 "FairRents$Plain" "rooms" "I", Cond.selects RX7 ⟨"FairRents$Plain", "worth", "()I"⟩ yX7_worth, Cond.instanceMethod yX7_worth, Cond.code yX7_worth cX7_worth 2 (some .int), Cond.methodLink RX7 7 yX1_worth, Cond.sameMethod "FairRents$Flat" "FairRents$Flat" "worth" "()I"]
def wsX9_points_r3 : List Cond := [Cond.methodLink RX7 11 yJ9_floorDiv_7cf53, Cond.static yJ9_floorDiv_7cf53, Cond.initialized RJ9, Cond.code yJ9_floorDiv_7cf53 cJ9_floorDiv_7cf53 3 (some .int), Cond.methodLink RX9 87 yX8_worth, Cond.selects RX8 yX8_worth yX8_worth]
def wsX9_points : List Cond := .code yX9_points cX9_points 3 (some .int) :: ((wsX9_points_r1 ++ (wsX9_points_r2 ++ wsX9_points_r3)) ++ wsX90 ++ wsX30 ++ wsX10 ++ wsX70 ++ wsX80)
def wsX9_lawful : List Cond := .code yX9_lawful cX9_lawful 2 (some .boolean) :: ([.fieldLink RX9 216 "FairRents" "LAW_LEAST" "[I", .fieldLink RX9 219 "FairRents" "LAW_MOST" "[I", .methodLink RX9 51 yX9_within, .static yX9_within, .initialized RX9, .code yX9_within cX9_within 3 (some .boolean)])
def wsX9_law : List Cond := .code yX9_law cX9_law 10 (some .int) :: ([.arrayClass .int, .fieldLink RX9 29 "FairRents" "laws" "[LFairRents$Law;", .fieldLink RX9 94 "FairRents" "today" "I", .classLink RX9 27 RX4, .instantiable RX4 1, .initialized RX4, .methodLink RX9 90 yX9_lawful, .static yX9_lawful, .initialized RX9, .code yX9_lawful cX9_lawful 2 (some .boolean), .fieldLink RX9 216 "FairRents" "LAW_LEAST" "[I", .fieldLink RX9 219 "FairRents" "LAW_MOST" "[I", .methodLink RX9 51 yX9_within, .static yX9_within, .code yX9_within cX9_within 3 (some .boolean), .methodLink RX9 33 yX4_init, .instanceMethod yX4_init, .code yX4_init cX4_init 2 none, .methodLink RX4 3 objectInit, .instanceMethod objectInit, .code objectInit ⟨#[0xb1]⟩ 1 none, .fieldLink RX4 9 "FairRents$Law" "numbers" "[I"] ++ wsX90 ++ wsX40)
def wsX9_lawOn : List Cond := .code yX9_lawOn cX9_lawOn 4 (some (.object "FairRents$Law")) :: ([.fieldLink RX9 29 "FairRents" "laws" "[LFairRents$Law;", .methodLink RX9 232 Lib.Math.min.name, .static Lib.Math.min.name, .initialized "java/lang/Math", .code Lib.Math.min.name Lib.Math.min.code 2 (some .int), .fieldLink RX9 36 "FairRents" "firstLaw" "LFairRents$Law;"] ++ wsX90)
def wsX9_force : List Cond := .code yX9_force cX9_force 3 (some .int) :: ([.methodLink RX9 51 yX9_within, .static yX9_within, .initialized RX9, .code yX9_within cX9_within 3 (some .boolean), .methodLink RX9 97 yX9_lawOn, .instanceMethod yX9_lawOn, .selects RX9 yX9_lawOn yX9_lawOn, .code yX9_lawOn cX9_lawOn 4 (some (.object "FairRents$Law")), .fieldLink RX9 29 "FairRents" "laws" "[LFairRents$Law;", .methodLink RX9 232 Lib.Math.min.name, .static Lib.Math.min.name, .initialized "java/lang/Math", .code Lib.Math.min.name Lib.Math.min.code 2 (some .int), .fieldLink RX9 36 "FairRents" "firstLaw" "LFairRents$Law;", .methodLink RX9 101 yX4_number, .instanceMethod yX4_number, .selects RX4 yX4_number yX4_number, .initialized RX4, .code yX4_number cX4_number 2 (some .int), .fieldLink RX4 9 "FairRents$Law" "numbers" "[I"] ++ wsX90 ++ wsX40)
def wsX9_like : List Cond := .code yX9_like cX9_like 4 (some .int) :: ([.fieldLink RX9 105 "FairRents" "likesTold" "I", .fieldLink RX9 17 "FairRents" "likes" "[LFairRents$Like;", .classLink RX9 15 RX6, .instantiable RX6 5, .initialized RX6, .fieldLink RX9 94 "FairRents" "today" "I", .methodLink RX9 51 yX9_within, .static yX9_within, .initialized RX9, .code yX9_within cX9_within 3 (some .boolean), .methodLink RX9 108 yX6_init, .instanceMethod yX6_init, .code yX6_init cX6_init 5 none, .methodLink RX6 1 objectInit, .instanceMethod objectInit, .code objectInit ⟨#[0xb1]⟩ 1 none, .fieldLink RX6 7 "FairRents$Like" "area" "I", .fieldLink RX6 13 "FairRents$Like" "points" "I", .fieldLink RX6 16 "FairRents$Like" "rent" "I", .fieldLink RX6 19 "FairRents$Like" "day" "I"] ++ wsX90 ++ wsX60)
def wsX9_strike : List Cond := .code yX9_strike cX9_strike 3 (some .int) :: ([.fieldLink RX9 17 "FairRents" "likes" "[LFairRents$Like;", .fieldLink RX9 111 "FairRents$Like" "struck" "Z", .methodLink RX9 51 yX9_within, .static yX9_within, .initialized RX9, .code yX9_within cX9_within 3 (some .boolean)] ++ wsX90 ++ wsX60)
def wsX9_days : List Cond := .code yX9_days cX9_days 2 (some .int) :: ([.fieldLink RX9 94 "FairRents" "today" "I", .methodLink RX9 51 yX9_within, .static yX9_within, .initialized RX9, .code yX9_within cX9_within 3 (some .boolean)] ++ wsX90)
def wsX9_head_r1 : List Cond := [Cond.constant RX9 115 (-1000000000), Cond.fieldLink RX9 43 "FairRents" "heads" "LFairRents$Heads;", Cond.fieldLink RX9 17 "FairRents" "likes" "[LFairRents$Like;", Cond.fieldLink RX9 120 "FairRents$Heads" "middle" "I", Cond.fieldLink RX9 123 "FairRents$Heads" "scarcity" "I", Cond.fieldLink RX9 126 "FairRents$Heads" "repairs" "I", Cond.fieldLink RX9 132 "FairRents$Heads" "counted" "I", Cond.methodLink RX9 66 yX9_homeAt, Cond.instanceMethod yX9_homeAt, Cond.selects RX9 yX9_homeAt yX9_homeAt, Cond.initialized RX9, Cond.code yX9_homeAt cX9_homeAt 2 (some (.object "FairRents$Home")), Cond.fieldLink RX9 11 "FairRents" "homes" "[LFairRents$Home;", Cond.methodLink RX9 51 yX9_within, Cond.static yX9_within, Cond.code yX9_within cX9_within 3 (some .boolean), Cond.methodLink RX9 97 yX9_lawOn, Cond.instanceMethod yX9_lawOn, Cond.selects RX9 yX9_lawOn yX9_lawOn, Cond.code yX9_lawOn cX9_lawOn 4 (some (.object "FairRents$Law")), Cond.fieldLink RX9 29 "FairRents" "laws" "[LFairRents$Law;", Cond.methodLink RX9 232 Lib.Math.min.name, Cond.static Lib.Math.min.name, Cond.initialized "java/lang/Math"]
def wsX9_head_r2 : List Cond := [Cond.code Lib.Math.min.name Lib.Math.min.code 2 (some .int), Cond.fieldLink RX9 36 "FairRents" "firstLaw" "LFairRents$Law;", Cond.methodLink RX9 116 yX2_work, Cond.instanceMethod yX2_work, Cond.selects RX2 yX2_work yX2_work, Cond.initialized RX2, Cond.code yX2_work cX2_work 10 none, Cond.fieldLink RX2 15 "FairRents$Heads" "counted" "I", Cond.fieldLink RX2 19 "FairRents$Home" "body" "LFairRents$Plain;", Cond.fieldLink RX2 31 "FairRents$Home" "area" "I", Cond.fieldLink RX2 57 "FairRents$Heads" "middle" "I", Cond.fieldLink RX2 60 "FairRents$Heads" "scarcity" "I", Cond.fieldLink RX2 63 "FairRents$Home" "faults" "I", Cond.fieldLink RX2 66 "FairRents$Heads" "repairs" "I", Cond.methodLink RX2 25 ⟨"FairRents$Plain", "worth", "()I"⟩, Cond.sameMethod "FairRents$Plain" "FairRents$Plain" "worth" "()I", Cond.instanceMethod ⟨"FairRents$Plain", "worth", "()I"⟩, Cond.selects RX1 ⟨"FairRents$Plain", "worth", "()I"⟩ yX1_worth, Cond.instanceMethod yX1_worth, Cond.initialized RX1, Cond.code yX1_worth cX1_worth 1 (some .int), Cond.fieldLink RX1 7 "FairRents$Flat" "floor" "I", Cond.methodLink RX1 13 yX8_worth, Cond.superclass RX1 RX8]
def wsX9_head_r3 : List Cond := [Cond.instanceMethod yX8_worth, Cond.initialized RX8, Cond.code yX8_worth cX8_worth 1 (some .int), Cond.fieldLink RX8 7 "FairRents$Plain" "rooms" "I", Cond.selects RX7 ⟨"FairRents$Plain", "worth", "()I"⟩ yX7_worth, Cond.instanceMethod yX7_worth, Cond.initialized RX7, Cond.code yX7_worth cX7_worth 2 (some .int), Cond.methodLink RX7 7 yX1_worth, Cond.sameMethod "FairRents$Flat" "FairRents$Flat" "worth" "()I", Cond.superclass RX7 RX1, Cond.methodLink RX7 11 yJ9_floorDiv_7cf53, Cond.static yJ9_floorDiv_7cf53, Cond.initialized RJ9, Cond.code yJ9_floorDiv_7cf53 cJ9_floorDiv_7cf53 3 (some .int), Cond.methodLink RX2 25 yX8_worth, Cond.selects RX8 yX8_worth yX8_worth, Cond.methodLink RX2 34 yX6_countsFor, Cond.instanceMethod yX6_countsFor, Cond.selects RX6 yX6_countsFor yX6_countsFor, Cond.initialized RX6, Cond.code yX6_countsFor cX6_countsFor 3 (some .boolean), Cond.fieldLink RX6 22 "FairRents$Like" "struck" "Z", Cond.fieldLink RX6 7 "FairRents$Like" "area" "I"]
def wsX9_head_r4 : List Cond := [Cond.fieldLink RX6 19 "FairRents$Like" "day" "I", Cond.methodLink RX2 40 yX4_number, Cond.instanceMethod yX4_number, Cond.selects RX4 yX4_number yX4_number, Cond.initialized RX4, Cond.code yX4_number cX4_number 2 (some .int), Cond.fieldLink RX4 9 "FairRents$Law" "numbers" "[I", Cond.methodLink RX2 46 yX6_putRight, Cond.instanceMethod yX6_putRight, Cond.selects RX6 yX6_putRight yX6_putRight, Cond.code yX6_putRight cX6_putRight 3 (some .int), Cond.fieldLink RX6 16 "FairRents$Like" "rent" "I", Cond.fieldLink RX6 13 "FairRents$Like" "points" "I", Cond.methodLink RX2 50 yX2_insert, Cond.instanceMethod yX2_insert, Cond.selects RX2 yX2_insert yX2_insert, Cond.code yX2_insert cX2_insert 3 none, Cond.fieldLink RX2 9 "FairRents$Heads" "ordered" "[I", Cond.methodLink RX2 54 yX2_lowerMiddle, Cond.instanceMethod yX2_lowerMiddle, Cond.selects RX2 yX2_lowerMiddle yX2_lowerMiddle, Cond.code yX2_lowerMiddle cX2_lowerMiddle 2 (some .int), Cond.methodLink RX9 129 yX2_fairRent, Cond.instanceMethod yX2_fairRent]
def wsX9_head_r5 : List Cond := [Cond.selects RX2 yX2_fairRent yX2_fairRent, Cond.code yX2_fairRent cX2_fairRent 1 (some .int), Cond.methodLink RX2 69 Lib.Math.max.name, Cond.static Lib.Math.max.name, Cond.code Lib.Math.max.name Lib.Math.max.code 2 (some .int)]
def wsX9_head : List Cond := .code yX9_head cX9_head 5 (some .int) :: ((wsX9_head_r1 ++ (wsX9_head_r2 ++ (wsX9_head_r3 ++ (wsX9_head_r4 ++ wsX9_head_r5)))) ++ wsX90 ++ wsX20 ++ wsX30 ++ wsX10 ++ wsX70 ++ wsX80 ++ wsX60 ++ wsX40)
def wsX9_let : List Cond := .code yX9_let cX9_let 4 (some .int) :: ([.fieldLink RX9 135 "FairRents$Home" "letting" "LFairRents$Letting;", .fieldLink RX9 94 "FairRents" "today" "I", .methodLink RX9 66 yX9_homeAt, .instanceMethod yX9_homeAt, .selects RX9 yX9_homeAt yX9_homeAt, .initialized RX9, .code yX9_homeAt cX9_homeAt 2 (some (.object "FairRents$Home")), .fieldLink RX9 11 "FairRents" "homes" "[LFairRents$Home;", .methodLink RX9 51 yX9_within, .static yX9_within, .code yX9_within cX9_within 3 (some .boolean), .methodLink RX9 139 yX5_begin, .instanceMethod yX5_begin, .selects RX5 yX5_begin yX5_begin, .initialized RX5, .code yX5_begin cX5_begin 4 none, .fieldLink RX5 15 "FairRents$Letting" "number" "I", .fieldLink RX5 23 "FairRents$Letting" "first" "I", .fieldLink RX5 26 "FairRents$Letting" "rent" "I", .fieldLink RX5 29 "FairRents$Letting" "paid" "I", .fieldLink RX5 9 "FairRents$Letting" "sums" "[I"] ++ wsX30 ++ wsX90 ++ wsX50)
def wsX9_latestStanding : List Cond := .code yX9_latestStanding cX9_latestStanding 4 (some .int) :: ([.fieldLink RX9 23 "FairRents" "entries" "[LFairRents$Entry;", .fieldLink RX9 176 "FairRents$Entry" "stands" "Z", .fieldLink RX9 179 "FairRents$Entry" "home" "I"] ++ wsX90 ++ wsX00)
def wsX9_entryAt : List Cond := .code yX9_entryAt cX9_entryAt 2 (some (.object "FairRents$Entry")) :: ([.fieldLink RX9 23 "FairRents" "entries" "[LFairRents$Entry;", .methodLink RX9 51 yX9_within, .static yX9_within, .initialized RX9, .code yX9_within cX9_within 3 (some .boolean)] ++ wsX90)
def wsX9_barEnd : List Cond := .code yX9_barEnd cX9_barEnd 3 (some .int) :: ([.fieldLink RX9 173 "FairRents$Entry" "day" "I", .fieldLink RX9 235 "FairRents$Entry" "law" "LFairRents$Law;", .methodLink RX9 166 yX9_latestStanding, .instanceMethod yX9_latestStanding, .selects RX9 yX9_latestStanding yX9_latestStanding, .initialized RX9, .code yX9_latestStanding cX9_latestStanding 4 (some .int), .fieldLink RX9 23 "FairRents" "entries" "[LFairRents$Entry;", .fieldLink RX9 176 "FairRents$Entry" "stands" "Z", .fieldLink RX9 179 "FairRents$Entry" "home" "I", .methodLink RX9 169 yX9_entryAt, .instanceMethod yX9_entryAt, .selects RX9 yX9_entryAt yX9_entryAt, .code yX9_entryAt cX9_entryAt 2 (some (.object "FairRents$Entry")), .methodLink RX9 51 yX9_within, .static yX9_within, .code yX9_within cX9_within 3 (some .boolean), .methodLink RX9 101 yX4_number, .instanceMethod yX4_number, .selects RX4 yX4_number yX4_number, .initialized RX4, .code yX4_number cX4_number 2 (some .int), .fieldLink RX4 9 "FairRents$Law" "numbers" "[I"] ++ wsX00 ++ wsX90 ++ wsX40)
def wsX9_ask_r1 : List Cond := [Cond.fieldLink RX9 135 "FairRents$Home" "letting" "LFairRents$Letting;", Cond.fieldLink RX9 94 "FairRents" "today" "I", Cond.fieldLink RX9 152 "FairRents" "entriesMade" "I", Cond.fieldLink RX9 23 "FairRents" "entries" "[LFairRents$Entry;", Cond.fieldLink RX9 43 "FairRents" "heads" "LFairRents$Heads;", Cond.fieldLink RX9 17 "FairRents" "likes" "[LFairRents$Like;", Cond.classLink RX9 21 RX0, Cond.instantiable RX0 9, Cond.initialized RX0, Cond.fieldLink RX9 155 "FairRents$Letting" "number" "I", Cond.methodLink RX9 66 yX9_homeAt, Cond.instanceMethod yX9_homeAt, Cond.selects RX9 yX9_homeAt yX9_homeAt, Cond.initialized RX9, Cond.code yX9_homeAt cX9_homeAt 2 (some (.object "FairRents$Home")), Cond.fieldLink RX9 11 "FairRents" "homes" "[LFairRents$Home;", Cond.methodLink RX9 51 yX9_within, Cond.static yX9_within, Cond.code yX9_within cX9_within 3 (some .boolean), Cond.methodLink RX9 145 yX5_isLet, Cond.instanceMethod yX5_isLet, Cond.selects RX5 yX5_isLet yX5_isLet, Cond.initialized RX5, Cond.code yX5_isLet cX5_isLet 1 (some .boolean)]
def wsX9_ask_r2 : List Cond := [Cond.fieldLink RX5 15 "FairRents$Letting" "number" "I", Cond.methodLink RX9 149 yX9_barEnd, Cond.instanceMethod yX9_barEnd, Cond.selects RX9 yX9_barEnd yX9_barEnd, Cond.code yX9_barEnd cX9_barEnd 3 (some .int), Cond.fieldLink RX9 173 "FairRents$Entry" "day" "I", Cond.fieldLink RX9 235 "FairRents$Entry" "law" "LFairRents$Law;", Cond.methodLink RX9 166 yX9_latestStanding, Cond.instanceMethod yX9_latestStanding, Cond.selects RX9 yX9_latestStanding yX9_latestStanding, Cond.code yX9_latestStanding cX9_latestStanding 4 (some .int), Cond.fieldLink RX9 176 "FairRents$Entry" "stands" "Z", Cond.fieldLink RX9 179 "FairRents$Entry" "home" "I", Cond.methodLink RX9 169 yX9_entryAt, Cond.instanceMethod yX9_entryAt, Cond.selects RX9 yX9_entryAt yX9_entryAt, Cond.code yX9_entryAt cX9_entryAt 2 (some (.object "FairRents$Entry")), Cond.methodLink RX9 101 yX4_number, Cond.instanceMethod yX4_number, Cond.selects RX4 yX4_number yX4_number, Cond.initialized RX4, Cond.code yX4_number cX4_number 2 (some .int), Cond.fieldLink RX4 9 "FairRents$Law" "numbers" "[I", Cond.methodLink RX9 97 yX9_lawOn]
def wsX9_ask_r3 : List Cond := [Cond.instanceMethod yX9_lawOn, Cond.selects RX9 yX9_lawOn yX9_lawOn, Cond.code yX9_lawOn cX9_lawOn 4 (some (.object "FairRents$Law")), Cond.fieldLink RX9 29 "FairRents" "laws" "[LFairRents$Law;", Cond.methodLink RX9 232 Lib.Math.min.name, Cond.static Lib.Math.min.name, Cond.initialized "java/lang/Math", Cond.code Lib.Math.min.name Lib.Math.min.code 2 (some .int), Cond.fieldLink RX9 36 "FairRents" "firstLaw" "LFairRents$Law;", Cond.methodLink RX9 116 yX2_work, Cond.instanceMethod yX2_work, Cond.selects RX2 yX2_work yX2_work, Cond.initialized RX2, Cond.code yX2_work cX2_work 10 none, Cond.fieldLink RX2 15 "FairRents$Heads" "counted" "I", Cond.fieldLink RX2 19 "FairRents$Home" "body" "LFairRents$Plain;", Cond.fieldLink RX2 31 "FairRents$Home" "area" "I", Cond.fieldLink RX2 57 "FairRents$Heads" "middle" "I", Cond.fieldLink RX2 60 "FairRents$Heads" "scarcity" "I", Cond.fieldLink RX2 63 "FairRents$Home" "faults" "I", Cond.fieldLink RX2 66 "FairRents$Heads" "repairs" "I", Cond.methodLink RX2 25 ⟨"FairRents$Plain", "worth", "()I"⟩, Cond.sameMethod "FairRents$Plain" "FairRents$Plain" "worth" "()I", Cond.instanceMethod ⟨"FairRents$Plain", "worth", "()I"⟩]
def wsX9_ask_r4 : List Cond := [Cond.selects RX1 ⟨"FairRents$Plain", "worth", "()I"⟩ yX1_worth, Cond.instanceMethod yX1_worth, Cond.initialized RX1, Cond.code yX1_worth cX1_worth 1 (some .int), Cond.fieldLink RX1 7 "FairRents$Flat" "floor" "I", Cond.methodLink RX1 13 yX8_worth, Cond.superclass RX1 RX8, Cond.instanceMethod yX8_worth, Cond.initialized RX8, Cond.code yX8_worth cX8_worth 1 (some .int), Cond.fieldLink RX8 7 "FairRents$Plain" "rooms" "I", Cond.selects RX7 ⟨"FairRents$Plain", "worth", "()I"⟩ yX7_worth, Cond.instanceMethod yX7_worth, Cond.initialized RX7, Cond.code yX7_worth cX7_worth 2 (some .int), Cond.methodLink RX7 7 yX1_worth, Cond.sameMethod "FairRents$Flat" "FairRents$Flat" "worth" "()I", Cond.superclass RX7 RX1, Cond.methodLink RX7 11 yJ9_floorDiv_7cf53, Cond.static yJ9_floorDiv_7cf53, Cond.initialized RJ9, Cond.code yJ9_floorDiv_7cf53 cJ9_floorDiv_7cf53 3 (some .int), Cond.methodLink RX2 25 yX8_worth, Cond.selects RX8 yX8_worth yX8_worth]
def wsX9_ask_r5 : List Cond := [Cond.methodLink RX2 34 yX6_countsFor, Cond.instanceMethod yX6_countsFor, Cond.selects RX6 yX6_countsFor yX6_countsFor, Cond.initialized RX6, Cond.code yX6_countsFor cX6_countsFor 3 (some .boolean), Cond.fieldLink RX6 22 "FairRents$Like" "struck" "Z", Cond.fieldLink RX6 7 "FairRents$Like" "area" "I", Cond.fieldLink RX6 19 "FairRents$Like" "day" "I", Cond.methodLink RX2 40 yX4_number, Cond.methodLink RX2 46 yX6_putRight, Cond.instanceMethod yX6_putRight, Cond.selects RX6 yX6_putRight yX6_putRight, Cond.code yX6_putRight cX6_putRight 3 (some .int), Cond.fieldLink RX6 16 "FairRents$Like" "rent" "I", Cond.fieldLink RX6 13 "FairRents$Like" "points" "I", Cond.methodLink RX2 50 yX2_insert, Cond.instanceMethod yX2_insert, Cond.selects RX2 yX2_insert yX2_insert, Cond.code yX2_insert cX2_insert 3 none, Cond.fieldLink RX2 9 "FairRents$Heads" "ordered" "[I", Cond.methodLink RX2 54 yX2_lowerMiddle, Cond.instanceMethod yX2_lowerMiddle, Cond.selects RX2 yX2_lowerMiddle yX2_lowerMiddle, Cond.code yX2_lowerMiddle cX2_lowerMiddle 2 (some .int)]
def wsX9_ask_r6 : List Cond := [Cond.methodLink RX9 157 yX0_init, Cond.instanceMethod yX0_init, Cond.code yX0_init cX0_init 6 none, Cond.methodLink RX0 3 objectInit, Cond.instanceMethod objectInit, Cond.code objectInit ⟨#[0xb1]⟩ 1 none, Cond.fieldLink RX0 9 "FairRents$Entry" "home" "I", Cond.fieldLink RX0 15 "FairRents$Entry" "letting" "I", Cond.fieldLink RX0 18 "FairRents$Entry" "day" "I", Cond.fieldLink RX0 21 "FairRents$Entry" "law" "LFairRents$Law;", Cond.fieldLink RX0 31 "FairRents$Entry" "rent" "I", Cond.fieldLink RX0 34 "FairRents$Heads" "middle" "I", Cond.fieldLink RX0 37 "FairRents$Entry" "middle" "I", Cond.fieldLink RX0 38 "FairRents$Heads" "scarcity" "I", Cond.fieldLink RX0 41 "FairRents$Entry" "scarcity" "I", Cond.fieldLink RX0 42 "FairRents$Heads" "repairs" "I", Cond.fieldLink RX0 45 "FairRents$Entry" "repairs" "I", Cond.fieldLink RX0 46 "FairRents$Entry" "stands" "Z", Cond.methodLink RX0 25 yX2_fairRent, Cond.instanceMethod yX2_fairRent, Cond.selects RX2 yX2_fairRent yX2_fairRent, Cond.code yX2_fairRent cX2_fairRent 1 (some .int), Cond.methodLink RX2 69 Lib.Math.max.name, Cond.static Lib.Math.max.name]
def wsX9_ask_r7 : List Cond := [Cond.code Lib.Math.max.name Lib.Math.max.code 2 (some .int)]
def wsX9_ask : List Cond := .code yX9_ask cX9_ask 4 (some .int) :: ((wsX9_ask_r1 ++ (wsX9_ask_r2 ++ (wsX9_ask_r3 ++ (wsX9_ask_r4 ++ (wsX9_ask_r5 ++ (wsX9_ask_r6 ++ wsX9_ask_r7)))))) ++ wsX30 ++ wsX90 ++ wsX00 ++ wsX50 ++ wsX40 ++ wsX20 ++ wsX10 ++ wsX70 ++ wsX80 ++ wsX60)
def wsX9_open_r1 : List Cond := [Cond.fieldLink RX9 94 "FairRents" "today" "I", Cond.methodLink RX9 160 Lib.Math.max.name, Cond.static Lib.Math.max.name, Cond.initialized "java/lang/Math", Cond.code Lib.Math.max.name Lib.Math.max.code 2 (some .int), Cond.methodLink RX9 66 yX9_homeAt, Cond.instanceMethod yX9_homeAt, Cond.selects RX9 yX9_homeAt yX9_homeAt, Cond.initialized RX9, Cond.code yX9_homeAt cX9_homeAt 2 (some (.object "FairRents$Home")), Cond.fieldLink RX9 11 "FairRents" "homes" "[LFairRents$Home;", Cond.methodLink RX9 51 yX9_within, Cond.static yX9_within, Cond.code yX9_within cX9_within 3 (some .boolean), Cond.methodLink RX9 149 yX9_barEnd, Cond.instanceMethod yX9_barEnd, Cond.selects RX9 yX9_barEnd yX9_barEnd, Cond.code yX9_barEnd cX9_barEnd 3 (some .int), Cond.fieldLink RX9 173 "FairRents$Entry" "day" "I", Cond.fieldLink RX9 235 "FairRents$Entry" "law" "LFairRents$Law;", Cond.methodLink RX9 166 yX9_latestStanding, Cond.instanceMethod yX9_latestStanding, Cond.selects RX9 yX9_latestStanding yX9_latestStanding, Cond.code yX9_latestStanding cX9_latestStanding 4 (some .int)]
def wsX9_open_r2 : List Cond := [Cond.fieldLink RX9 23 "FairRents" "entries" "[LFairRents$Entry;", Cond.fieldLink RX9 176 "FairRents$Entry" "stands" "Z", Cond.fieldLink RX9 179 "FairRents$Entry" "home" "I", Cond.methodLink RX9 169 yX9_entryAt, Cond.instanceMethod yX9_entryAt, Cond.selects RX9 yX9_entryAt yX9_entryAt, Cond.code yX9_entryAt cX9_entryAt 2 (some (.object "FairRents$Entry")), Cond.methodLink RX9 101 yX4_number, Cond.instanceMethod yX4_number, Cond.selects RX4 yX4_number yX4_number, Cond.initialized RX4, Cond.code yX4_number cX4_number 2 (some .int), Cond.fieldLink RX4 9 "FairRents$Law" "numbers" "[I"]
def wsX9_open : List Cond := .code yX9_open cX9_open 2 (some .int) :: ((wsX9_open_r1 ++ wsX9_open_r2) ++ wsX90 ++ wsX00 ++ wsX40)
def wsX9_appeal : List Cond := .code yX9_appeal cX9_appeal 4 (some .int) :: ([.fieldLink RX9 94 "FairRents" "today" "I", .fieldLink RX9 173 "FairRents$Entry" "day" "I", .fieldLink RX9 176 "FairRents$Entry" "stands" "Z", .methodLink RX9 66 yX9_homeAt, .instanceMethod yX9_homeAt, .selects RX9 yX9_homeAt yX9_homeAt, .initialized RX9, .code yX9_homeAt cX9_homeAt 2 (some (.object "FairRents$Home")), .fieldLink RX9 11 "FairRents" "homes" "[LFairRents$Home;", .methodLink RX9 51 yX9_within, .static yX9_within, .code yX9_within cX9_within 3 (some .boolean), .methodLink RX9 166 yX9_latestStanding, .instanceMethod yX9_latestStanding, .selects RX9 yX9_latestStanding yX9_latestStanding, .code yX9_latestStanding cX9_latestStanding 4 (some .int), .fieldLink RX9 23 "FairRents" "entries" "[LFairRents$Entry;", .fieldLink RX9 179 "FairRents$Entry" "home" "I", .methodLink RX9 169 yX9_entryAt, .instanceMethod yX9_entryAt, .selects RX9 yX9_entryAt yX9_entryAt, .code yX9_entryAt cX9_entryAt 2 (some (.object "FairRents$Entry"))] ++ wsX90 ++ wsX00)
def wsX9_entry : List Cond := .code yX9_entry cX9_entry 4 (some .int) :: ([.constant RX9 115 (-1000000000), .fieldLink RX9 179 "FairRents$Entry" "home" "I", .fieldLink RX9 173 "FairRents$Entry" "day" "I", .fieldLink RX9 182 "FairRents$Entry" "rent" "I", .fieldLink RX9 185 "FairRents$Entry" "middle" "I", .fieldLink RX9 186 "FairRents$Entry" "scarcity" "I", .fieldLink RX9 187 "FairRents$Entry" "repairs" "I", .fieldLink RX9 176 "FairRents$Entry" "stands" "Z", .methodLink RX9 169 yX9_entryAt, .instanceMethod yX9_entryAt, .selects RX9 yX9_entryAt yX9_entryAt, .initialized RX9, .code yX9_entryAt cX9_entryAt 2 (some (.object "FairRents$Entry")), .fieldLink RX9 23 "FairRents" "entries" "[LFairRents$Entry;", .methodLink RX9 51 yX9_within, .static yX9_within, .code yX9_within cX9_within 3 (some .boolean)] ++ wsX00 ++ wsX90)
def wsX9_latest : List Cond := .code yX9_latest cX9_latest 2 (some .int) :: ([.methodLink RX9 66 yX9_homeAt, .instanceMethod yX9_homeAt, .selects RX9 yX9_homeAt yX9_homeAt, .initialized RX9, .code yX9_homeAt cX9_homeAt 2 (some (.object "FairRents$Home")), .fieldLink RX9 11 "FairRents" "homes" "[LFairRents$Home;", .methodLink RX9 51 yX9_within, .static yX9_within, .code yX9_within cX9_within 3 (some .boolean), .methodLink RX9 166 yX9_latestStanding, .instanceMethod yX9_latestStanding, .selects RX9 yX9_latestStanding yX9_latestStanding, .code yX9_latestStanding cX9_latestStanding 4 (some .int), .fieldLink RX9 23 "FairRents" "entries" "[LFairRents$Entry;", .fieldLink RX9 176 "FairRents$Entry" "stands" "Z", .fieldLink RX9 179 "FairRents$Entry" "home" "I"] ++ wsX90 ++ wsX00)
def wsX9_workDues_r1 : List Cond := [Cond.fieldLink RX9 238 "FairRents$Letting" "rent" "I", Cond.fieldLink RX9 204 "FairRents$Letting" "first" "I", Cond.methodLink RX9 160 Lib.Math.max.name, Cond.static Lib.Math.max.name, Cond.initialized "java/lang/Math", Cond.code Lib.Math.max.name Lib.Math.max.code 2 (some .int), Cond.fieldLink RX9 47 "FairRents" "dues" "[I", Cond.fieldLink RX9 23 "FairRents" "entries" "[LFairRents$Entry;", Cond.fieldLink RX9 173 "FairRents$Entry" "day" "I", Cond.fieldLink RX9 155 "FairRents$Letting" "number" "I", Cond.methodLink RX9 239 yX0_binds, Cond.instanceMethod yX0_binds, Cond.selects RX0 yX0_binds yX0_binds, Cond.initialized RX0, Cond.code yX0_binds cX0_binds 3 (some .boolean), Cond.fieldLink RX0 46 "FairRents$Entry" "stands" "Z", Cond.fieldLink RX0 9 "FairRents$Entry" "home" "I", Cond.fieldLink RX0 15 "FairRents$Entry" "letting" "I", Cond.methodLink RX9 243 yX0_steppedFrom, Cond.instanceMethod yX0_steppedFrom, Cond.selects RX0 yX0_steppedFrom yX0_steppedFrom, Cond.code yX0_steppedFrom cX0_steppedFrom 4 (some .int), Cond.fieldLink RX0 31 "FairRents$Entry" "rent" "I", Cond.fieldLink RX0 18 "FairRents$Entry" "day" "I"]
def wsX9_workDues_r2 : List Cond := [Cond.fieldLink RX0 21 "FairRents$Entry" "law" "LFairRents$Law;", Cond.methodLink RX0 56 Lib.Math.min.name, Cond.static Lib.Math.min.name, Cond.code Lib.Math.min.name Lib.Math.min.code 2 (some .int), Cond.methodLink RX0 50 yX4_number, Cond.instanceMethod yX4_number, Cond.selects RX4 yX4_number yX4_number, Cond.initialized RX4, Cond.code yX4_number cX4_number 2 (some .int), Cond.fieldLink RX4 9 "FairRents$Law" "numbers" "[I", Cond.static yX9_within, Cond.initialized RX9, Cond.code yX9_within cX9_within 3 (some .boolean)]
def wsX9_workDues : List Cond := .code yX9_workDues cX9_workDues 10 (some .int) :: ((wsX9_workDues_r1 ++ wsX9_workDues_r2) ++ wsX50 ++ wsX90 ++ wsX00 ++ wsX40)
def wsX9_due_r1 : List Cond := [Cond.fieldLink RX9 94 "FairRents" "today" "I", Cond.fieldLink RX9 135 "FairRents$Home" "letting" "LFairRents$Letting;", Cond.methodLink RX9 66 yX9_homeAt, Cond.instanceMethod yX9_homeAt, Cond.selects RX9 yX9_homeAt yX9_homeAt, Cond.initialized RX9, Cond.code yX9_homeAt cX9_homeAt 2 (some (.object "FairRents$Home")), Cond.fieldLink RX9 11 "FairRents" "homes" "[LFairRents$Home;", Cond.methodLink RX9 51 yX9_within, Cond.static yX9_within, Cond.code yX9_within cX9_within 3 (some .boolean), Cond.methodLink RX9 188 yX5_covers, Cond.instanceMethod yX5_covers, Cond.selects RX5 yX5_covers yX5_covers, Cond.initialized RX5, Cond.code yX5_covers cX5_covers 2 (some .boolean), Cond.fieldLink RX5 23 "FairRents$Letting" "first" "I", Cond.methodLink RX5 19 yX5_isLet, Cond.instanceMethod yX5_isLet, Cond.selects RX5 yX5_isLet yX5_isLet, Cond.code yX5_isLet cX5_isLet 1 (some .boolean), Cond.fieldLink RX5 15 "FairRents$Letting" "number" "I", Cond.methodLink RX9 192 yX9_workDues, Cond.instanceMethod yX9_workDues]
def wsX9_due_r2 : List Cond := [Cond.selects RX9 yX9_workDues yX9_workDues, Cond.code yX9_workDues cX9_workDues 10 (some .int), Cond.fieldLink RX9 238 "FairRents$Letting" "rent" "I", Cond.fieldLink RX9 204 "FairRents$Letting" "first" "I", Cond.methodLink RX9 160 Lib.Math.max.name, Cond.static Lib.Math.max.name, Cond.initialized "java/lang/Math", Cond.code Lib.Math.max.name Lib.Math.max.code 2 (some .int), Cond.fieldLink RX9 47 "FairRents" "dues" "[I", Cond.fieldLink RX9 23 "FairRents" "entries" "[LFairRents$Entry;", Cond.fieldLink RX9 173 "FairRents$Entry" "day" "I", Cond.fieldLink RX9 155 "FairRents$Letting" "number" "I", Cond.methodLink RX9 239 yX0_binds, Cond.instanceMethod yX0_binds, Cond.selects RX0 yX0_binds yX0_binds, Cond.initialized RX0, Cond.code yX0_binds cX0_binds 3 (some .boolean), Cond.fieldLink RX0 46 "FairRents$Entry" "stands" "Z", Cond.fieldLink RX0 9 "FairRents$Entry" "home" "I", Cond.fieldLink RX0 15 "FairRents$Entry" "letting" "I", Cond.methodLink RX9 243 yX0_steppedFrom, Cond.instanceMethod yX0_steppedFrom, Cond.selects RX0 yX0_steppedFrom yX0_steppedFrom, Cond.code yX0_steppedFrom cX0_steppedFrom 4 (some .int)]
def wsX9_due_r3 : List Cond := [Cond.fieldLink RX0 31 "FairRents$Entry" "rent" "I", Cond.fieldLink RX0 18 "FairRents$Entry" "day" "I", Cond.fieldLink RX0 21 "FairRents$Entry" "law" "LFairRents$Law;", Cond.methodLink RX0 56 Lib.Math.min.name, Cond.static Lib.Math.min.name, Cond.code Lib.Math.min.name Lib.Math.min.code 2 (some .int), Cond.methodLink RX0 50 yX4_number, Cond.instanceMethod yX4_number, Cond.selects RX4 yX4_number yX4_number, Cond.initialized RX4, Cond.code yX4_number cX4_number 2 (some .int), Cond.fieldLink RX4 9 "FairRents$Law" "numbers" "[I"]
def wsX9_due : List Cond := .code yX9_due cX9_due 4 (some .int) :: ((wsX9_due_r1 ++ (wsX9_due_r2 ++ wsX9_due_r3)) ++ wsX90 ++ wsX30 ++ wsX50 ++ wsX00 ++ wsX40)
def wsX9_pay_r1 : List Cond := [Cond.constant RX9 196 (100000), Cond.fieldLink RX9 135 "FairRents$Home" "letting" "LFairRents$Letting;", Cond.fieldLink RX9 197 "FairRents$Letting" "paid" "I", Cond.constant RX9 200 (1000000), Cond.fieldLink RX9 94 "FairRents" "today" "I", Cond.methodLink RX9 66 yX9_homeAt, Cond.instanceMethod yX9_homeAt, Cond.selects RX9 yX9_homeAt yX9_homeAt, Cond.initialized RX9, Cond.code yX9_homeAt cX9_homeAt 2 (some (.object "FairRents$Home")), Cond.fieldLink RX9 11 "FairRents" "homes" "[LFairRents$Home;", Cond.methodLink RX9 51 yX9_within, Cond.static yX9_within, Cond.code yX9_within cX9_within 3 (some .boolean), Cond.methodLink RX9 145 yX5_isLet, Cond.instanceMethod yX5_isLet, Cond.selects RX5 yX5_isLet yX5_isLet, Cond.initialized RX5, Cond.code yX5_isLet cX5_isLet 1 (some .boolean), Cond.fieldLink RX5 15 "FairRents$Letting" "number" "I", Cond.methodLink RX9 201 yX5_take, Cond.instanceMethod yX5_take, Cond.selects RX5 yX5_take yX5_take, Cond.code yX5_take cX5_take 3 none]
def wsX9_pay_r2 : List Cond := [Cond.fieldLink RX5 9 "FairRents$Letting" "sums" "[I", Cond.fieldLink RX5 29 "FairRents$Letting" "paid" "I"]
def wsX9_pay : List Cond := .code yX9_pay cX9_pay 4 (some .int) :: ((wsX9_pay_r1 ++ wsX9_pay_r2) ++ wsX30 ++ wsX50 ++ wsX90)
def wsX9_owed_r1 : List Cond := [Cond.fieldLink RX9 94 "FairRents" "today" "I", Cond.fieldLink RX9 135 "FairRents$Home" "letting" "LFairRents$Letting;", Cond.constant RX9 115 (-1000000000), Cond.fieldLink RX9 204 "FairRents$Letting" "first" "I", Cond.methodLink RX9 160 Lib.Math.max.name, Cond.static Lib.Math.max.name, Cond.initialized "java/lang/Math", Cond.code Lib.Math.max.name Lib.Math.max.code 2 (some .int), Cond.fieldLink RX9 47 "FairRents" "dues" "[I", Cond.methodLink RX9 66 yX9_homeAt, Cond.instanceMethod yX9_homeAt, Cond.selects RX9 yX9_homeAt yX9_homeAt, Cond.initialized RX9, Cond.code yX9_homeAt cX9_homeAt 2 (some (.object "FairRents$Home")), Cond.fieldLink RX9 11 "FairRents" "homes" "[LFairRents$Home;", Cond.methodLink RX9 51 yX9_within, Cond.static yX9_within, Cond.code yX9_within cX9_within 3 (some .boolean), Cond.methodLink RX9 188 yX5_covers, Cond.instanceMethod yX5_covers, Cond.selects RX5 yX5_covers yX5_covers, Cond.initialized RX5, Cond.code yX5_covers cX5_covers 2 (some .boolean), Cond.fieldLink RX5 23 "FairRents$Letting" "first" "I"]
def wsX9_owed_r2 : List Cond := [Cond.methodLink RX5 19 yX5_isLet, Cond.instanceMethod yX5_isLet, Cond.selects RX5 yX5_isLet yX5_isLet, Cond.code yX5_isLet cX5_isLet 1 (some .boolean), Cond.fieldLink RX5 15 "FairRents$Letting" "number" "I", Cond.methodLink RX9 192 yX9_workDues, Cond.instanceMethod yX9_workDues, Cond.selects RX9 yX9_workDues yX9_workDues, Cond.code yX9_workDues cX9_workDues 10 (some .int), Cond.fieldLink RX9 238 "FairRents$Letting" "rent" "I", Cond.fieldLink RX9 23 "FairRents" "entries" "[LFairRents$Entry;", Cond.fieldLink RX9 173 "FairRents$Entry" "day" "I", Cond.fieldLink RX9 155 "FairRents$Letting" "number" "I", Cond.methodLink RX9 239 yX0_binds, Cond.instanceMethod yX0_binds, Cond.selects RX0 yX0_binds yX0_binds, Cond.initialized RX0, Cond.code yX0_binds cX0_binds 3 (some .boolean), Cond.fieldLink RX0 46 "FairRents$Entry" "stands" "Z", Cond.fieldLink RX0 9 "FairRents$Entry" "home" "I", Cond.fieldLink RX0 15 "FairRents$Entry" "letting" "I", Cond.methodLink RX9 243 yX0_steppedFrom, Cond.instanceMethod yX0_steppedFrom, Cond.selects RX0 yX0_steppedFrom yX0_steppedFrom]
def wsX9_owed_r3 : List Cond := [Cond.code yX0_steppedFrom cX0_steppedFrom 4 (some .int), Cond.fieldLink RX0 31 "FairRents$Entry" "rent" "I", Cond.fieldLink RX0 18 "FairRents$Entry" "day" "I", Cond.fieldLink RX0 21 "FairRents$Entry" "law" "LFairRents$Law;", Cond.methodLink RX0 56 Lib.Math.min.name, Cond.static Lib.Math.min.name, Cond.code Lib.Math.min.name Lib.Math.min.code 2 (some .int), Cond.methodLink RX0 50 yX4_number, Cond.instanceMethod yX4_number, Cond.selects RX4 yX4_number yX4_number, Cond.initialized RX4, Cond.code yX4_number cX4_number 2 (some .int), Cond.fieldLink RX4 9 "FairRents$Law" "numbers" "[I", Cond.methodLink RX9 207 yX5_paidOn, Cond.instanceMethod yX5_paidOn, Cond.selects RX5 yX5_paidOn yX5_paidOn, Cond.code yX5_paidOn cX5_paidOn 2 (some .int), Cond.fieldLink RX5 9 "FairRents$Letting" "sums" "[I"]
def wsX9_owed : List Cond := .code yX9_owed cX9_owed 7 (some .int) :: ((wsX9_owed_r1 ++ (wsX9_owed_r2 ++ wsX9_owed_r3)) ++ wsX90 ++ wsX30 ++ wsX50 ++ wsX00 ++ wsX40)
def wsX9_homesLet : List Cond := .code yX9_homesLet cX9_homesLet 6 (some .int) :: ([.fieldLink RX9 11 "FairRents" "homes" "[LFairRents$Home;", .fieldLink RX9 135 "FairRents$Home" "letting" "LFairRents$Letting;", .methodLink RX9 145 yX5_isLet, .instanceMethod yX5_isLet, .selects RX5 yX5_isLet yX5_isLet, .initialized RX5, .code yX5_isLet cX5_isLet 1 (some .boolean), .fieldLink RX5 15 "FairRents$Letting" "number" "I"] ++ wsX90 ++ wsX30 ++ wsX50)
def wsX9_lawsTold : List Cond := .code yX9_lawsTold cX9_lawsTold 6 (some .int) :: ([.fieldLink RX9 29 "FairRents" "laws" "[LFairRents$Law;"] ++ wsX90)
def wsX9_count : List Cond := .code yX9_count cX9_count 2 (some .int) :: ([.fieldLink RX9 55 "FairRents" "homesMade" "I", .fieldLink RX9 105 "FairRents" "likesTold" "I", .fieldLink RX9 152 "FairRents" "entriesMade" "I", .fieldLink RX9 94 "FairRents" "today" "I", .methodLink RX9 210 yX9_homesLet, .instanceMethod yX9_homesLet, .selects RX9 yX9_homesLet yX9_homesLet, .initialized RX9, .code yX9_homesLet cX9_homesLet 6 (some .int), .fieldLink RX9 11 "FairRents" "homes" "[LFairRents$Home;", .fieldLink RX9 135 "FairRents$Home" "letting" "LFairRents$Letting;", .methodLink RX9 145 yX5_isLet, .instanceMethod yX5_isLet, .selects RX5 yX5_isLet yX5_isLet, .initialized RX5, .code yX5_isLet cX5_isLet 1 (some .boolean), .fieldLink RX5 15 "FairRents$Letting" "number" "I", .methodLink RX9 213 yX9_lawsTold, .instanceMethod yX9_lawsTold, .selects RX9 yX9_lawsTold yX9_lawsTold, .code yX9_lawsTold cX9_lawsTold 6 (some .int), .fieldLink RX9 29 "FairRents" "laws" "[LFairRents$Law;"] ++ wsX90 ++ wsX30 ++ wsX50)
def wsX9_trace : List Cond := .code yX9_trace cX9_trace 1 (some .long) :: ([.fieldLink RX9 73 "FairRents" "traced" "J"] ++ wsX90)
def wsX10_init_r1 : List Cond := [Cond.methodLink RX10 1 objectInit, Cond.instanceMethod objectInit, Cond.code objectInit ⟨#[0xb1]⟩ 1 none, Cond.arrayClass .int, Cond.fieldLink RX10 7 "FairRentsModel" "kind" "[I", Cond.fieldLink RX10 13 "FairRentsModel" "area" "[I", Cond.fieldLink RX10 16 "FairRentsModel" "rooms" "[I", Cond.fieldLink RX10 19 "FairRentsModel" "floor" "[I", Cond.fieldLink RX10 22 "FairRentsModel" "faults" "[I", Cond.fieldLink RX10 25 "FairRentsModel" "laws" "[I", Cond.arrayClass .boolean, Cond.fieldLink RX10 28 "FairRentsModel" "isTold" "[Z", Cond.fieldLink RX10 32 "FairRentsModel" "likeArea" "[I", Cond.fieldLink RX10 35 "FairRentsModel" "likePoints" "[I", Cond.fieldLink RX10 38 "FairRentsModel" "likeRent" "[I", Cond.fieldLink RX10 41 "FairRentsModel" "likeDay" "[I", Cond.fieldLink RX10 44 "FairRentsModel" "isStruck" "[Z", Cond.fieldLink RX10 47 "FairRentsModel" "letDay" "[I", Cond.fieldLink RX10 50 "FairRentsModel" "letRent" "[I", Cond.fieldLink RX10 53 "FairRentsModel" "letting" "[I", Cond.fieldLink RX10 56 "FairRentsModel" "paid" "[I", Cond.fieldLink RX10 59 "FairRentsModel" "entryHome" "[I", Cond.fieldLink RX10 62 "FairRentsModel" "entryDay" "[I", Cond.fieldLink RX10 65 "FairRentsModel" "entryRent" "[I"]
def wsX10_init_r2 : List Cond := [Cond.fieldLink RX10 68 "FairRentsModel" "entryHead" "[I", Cond.fieldLink RX10 71 "FairRentsModel" "entryLetting" "[I", Cond.fieldLink RX10 74 "FairRentsModel" "isGone" "[Z", Cond.fieldLink RX10 77 "FairRentsModel" "right" "[I", Cond.fieldLink RX10 80 "FairRentsModel" "dues" "[I"]
def wsX10_init : List Cond := .code yX10_init cX10_init 1 none :: ((wsX10_init_r1 ++ wsX10_init_r2) ++ wsX100)
def wsX10_in : List Cond := .code yX10_in cX10_in 3 (some .boolean) :: ([])
def wsX10_isHome : List Cond := .code yX10_isHome cX10_isHome 2 (some .boolean) :: ([.fieldLink RX10 83 "FairRentsModel" "homes" "I", .methodLink RX10 87 yX10_in, .static yX10_in, .initialized RX10, .code yX10_in cX10_in 3 (some .boolean)] ++ wsX100)
def wsX10_home : List Cond := .code yX10_home cX10_home 5 (some .int) :: ([.fieldLink RX10 83 "FairRentsModel" "homes" "I", .fieldLink RX10 7 "FairRentsModel" "kind" "[I", .fieldLink RX10 13 "FairRentsModel" "area" "[I", .fieldLink RX10 16 "FairRentsModel" "rooms" "[I", .fieldLink RX10 19 "FairRentsModel" "floor" "[I", .fieldLink RX10 22 "FairRentsModel" "faults" "[I", .methodLink RX10 87 yX10_in, .static yX10_in, .initialized RX10, .code yX10_in cX10_in 3 (some .boolean)] ++ wsX100)
def wsX10_faults : List Cond := .code yX10_faults cX10_faults 4 (some .int) :: ([.fieldLink RX10 22 "FairRentsModel" "faults" "[I", .methodLink RX10 91 yX10_isHome, .instanceMethod yX10_isHome, .selects RX10 yX10_isHome yX10_isHome, .initialized RX10, .code yX10_isHome cX10_isHome 2 (some .boolean), .fieldLink RX10 83 "FairRentsModel" "homes" "I", .methodLink RX10 87 yX10_in, .static yX10_in, .code yX10_in cX10_in 3 (some .boolean)] ++ wsX100)
def wsX10_pointsOf : List Cond := .code yX10_pointsOf cX10_pointsOf 4 (some .int) :: ([.fieldLink RX10 16 "FairRentsModel" "rooms" "[I", .fieldLink RX10 7 "FairRentsModel" "kind" "[I", .fieldLink RX10 19 "FairRentsModel" "floor" "[I"] ++ wsX100)
def wsX10_points : List Cond := .code yX10_points cX10_points 2 (some .int) :: ([.fieldLink RX10 95 "FairRentsModel" "trace" "J", .fieldLink RX10 7 "FairRentsModel" "kind" "[I", .constantLong RX10 99 (11), .constantLong RX10 101 (111), .methodLink RX10 91 yX10_isHome, .instanceMethod yX10_isHome, .selects RX10 yX10_isHome yX10_isHome, .initialized RX10, .code yX10_isHome cX10_isHome 2 (some .boolean), .fieldLink RX10 83 "FairRentsModel" "homes" "I", .methodLink RX10 87 yX10_in, .static yX10_in, .code yX10_in cX10_in 3 (some .boolean), .methodLink RX10 103 yX10_pointsOf, .instanceMethod yX10_pointsOf, .selects RX10 yX10_pointsOf yX10_pointsOf, .code yX10_pointsOf cX10_pointsOf 4 (some .int), .fieldLink RX10 16 "FairRentsModel" "rooms" "[I", .fieldLink RX10 19 "FairRentsModel" "floor" "[I"] ++ wsX100)
def wsX10_law : List Cond := .code yX10_law cX10_law 11 (some .int) :: ([.fieldLink RX10 107 "FairRentsModel" "today" "I", .fieldLink RX10 25 "FairRentsModel" "laws" "[I", .fieldLink RX10 28 "FairRentsModel" "isTold" "[Z", .methodLink RX10 87 yX10_in, .static yX10_in, .initialized RX10, .code yX10_in cX10_in 3 (some .boolean)] ++ wsX100)
def wsX10_yearOf : List Cond := .code yX10_yearOf cX10_yearOf 3 (some .int) :: ([.fieldLink RX10 28 "FairRentsModel" "isTold" "[Z"] ++ wsX100)
def wsX10_lawOf : List Cond := .code yX10_lawOf cX10_lawOf 3 (some .int) :: ([.fieldLink RX10 25 "FairRentsModel" "laws" "[I", .methodLink RX10 110 yX10_yearOf, .instanceMethod yX10_yearOf, .selects RX10 yX10_yearOf yX10_yearOf, .initialized RX10, .code yX10_yearOf cX10_yearOf 3 (some .int), .fieldLink RX10 28 "FairRentsModel" "isTold" "[Z"] ++ wsX100)
def wsX10_force : List Cond := .code yX10_force cX10_force 3 (some .int) :: ([.methodLink RX10 87 yX10_in, .static yX10_in, .initialized RX10, .code yX10_in cX10_in 3 (some .boolean), .methodLink RX10 113 yX10_lawOf, .instanceMethod yX10_lawOf, .selects RX10 yX10_lawOf yX10_lawOf, .code yX10_lawOf cX10_lawOf 3 (some .int), .fieldLink RX10 25 "FairRentsModel" "laws" "[I", .methodLink RX10 110 yX10_yearOf, .instanceMethod yX10_yearOf, .selects RX10 yX10_yearOf yX10_yearOf, .code yX10_yearOf cX10_yearOf 3 (some .int), .fieldLink RX10 28 "FairRentsModel" "isTold" "[Z"] ++ wsX100)
def wsX10_like : List Cond := .code yX10_like cX10_like 4 (some .int) :: ([.fieldLink RX10 117 "FairRentsModel" "likes" "I", .fieldLink RX10 32 "FairRentsModel" "likeArea" "[I", .fieldLink RX10 35 "FairRentsModel" "likePoints" "[I", .fieldLink RX10 38 "FairRentsModel" "likeRent" "[I", .fieldLink RX10 41 "FairRentsModel" "likeDay" "[I", .fieldLink RX10 107 "FairRentsModel" "today" "I", .fieldLink RX10 44 "FairRentsModel" "isStruck" "[Z", .methodLink RX10 87 yX10_in, .static yX10_in, .initialized RX10, .code yX10_in cX10_in 3 (some .boolean)] ++ wsX100)
def wsX10_strike : List Cond := .code yX10_strike cX10_strike 2 (some .int) :: ([.fieldLink RX10 117 "FairRentsModel" "likes" "I", .fieldLink RX10 44 "FairRentsModel" "isStruck" "[Z", .methodLink RX10 87 yX10_in, .static yX10_in, .initialized RX10, .code yX10_in cX10_in 3 (some .boolean)] ++ wsX100)
def wsX10_days : List Cond := .code yX10_days cX10_days 2 (some .int) :: ([.fieldLink RX10 107 "FairRentsModel" "today" "I", .methodLink RX10 87 yX10_in, .static yX10_in, .initialized RX10, .code yX10_in cX10_in 3 (some .boolean)] ++ wsX100)
def wsX10_collect_r1 : List Cond := [Cond.fieldLink RX10 120 "FairRentsModel" "counted" "I", Cond.fieldLink RX10 117 "FairRentsModel" "likes" "I", Cond.fieldLink RX10 32 "FairRentsModel" "likeArea" "[I", Cond.fieldLink RX10 13 "FairRentsModel" "area" "[I", Cond.fieldLink RX10 41 "FairRentsModel" "likeDay" "[I", Cond.fieldLink RX10 44 "FairRentsModel" "isStruck" "[Z", Cond.fieldLink RX10 38 "FairRentsModel" "likeRent" "[I", Cond.fieldLink RX10 35 "FairRentsModel" "likePoints" "[I", Cond.fieldLink RX10 77 "FairRentsModel" "right" "[I", Cond.methodLink RX10 113 yX10_lawOf, Cond.instanceMethod yX10_lawOf, Cond.selects RX10 yX10_lawOf yX10_lawOf, Cond.initialized RX10, Cond.code yX10_lawOf cX10_lawOf 3 (some .int), Cond.fieldLink RX10 25 "FairRentsModel" "laws" "[I", Cond.methodLink RX10 110 yX10_yearOf, Cond.instanceMethod yX10_yearOf, Cond.selects RX10 yX10_yearOf yX10_yearOf, Cond.code yX10_yearOf cX10_yearOf 3 (some .int), Cond.fieldLink RX10 28 "FairRentsModel" "isTold" "[Z", Cond.methodLink RX10 103 yX10_pointsOf, Cond.instanceMethod yX10_pointsOf, Cond.selects RX10 yX10_pointsOf yX10_pointsOf, Cond.code yX10_pointsOf cX10_pointsOf 4 (some .int)]
def wsX10_collect_r2 : List Cond := [Cond.fieldLink RX10 16 "FairRentsModel" "rooms" "[I", Cond.fieldLink RX10 7 "FairRentsModel" "kind" "[I", Cond.fieldLink RX10 19 "FairRentsModel" "floor" "[I"]
def wsX10_collect : List Cond := .code yX10_collect cX10_collect 6 none :: ((wsX10_collect_r1 ++ wsX10_collect_r2) ++ wsX100)
def wsX10_headOf_r1 : List Cond := [Cond.fieldLink RX10 120 "FairRentsModel" "counted" "I", Cond.fieldLink RX10 77 "FairRentsModel" "right" "[I", Cond.fieldLink RX10 13 "FairRentsModel" "area" "[I", Cond.fieldLink RX10 22 "FairRentsModel" "faults" "[I", Cond.methodLink RX10 123 yX10_collect, Cond.instanceMethod yX10_collect, Cond.selects RX10 yX10_collect yX10_collect, Cond.initialized RX10, Cond.code yX10_collect cX10_collect 6 none, Cond.fieldLink RX10 117 "FairRentsModel" "likes" "I", Cond.fieldLink RX10 32 "FairRentsModel" "likeArea" "[I", Cond.fieldLink RX10 41 "FairRentsModel" "likeDay" "[I", Cond.fieldLink RX10 44 "FairRentsModel" "isStruck" "[Z", Cond.fieldLink RX10 38 "FairRentsModel" "likeRent" "[I", Cond.fieldLink RX10 35 "FairRentsModel" "likePoints" "[I", Cond.methodLink RX10 113 yX10_lawOf, Cond.instanceMethod yX10_lawOf, Cond.selects RX10 yX10_lawOf yX10_lawOf, Cond.code yX10_lawOf cX10_lawOf 3 (some .int), Cond.fieldLink RX10 25 "FairRentsModel" "laws" "[I", Cond.methodLink RX10 110 yX10_yearOf, Cond.instanceMethod yX10_yearOf, Cond.selects RX10 yX10_yearOf yX10_yearOf, Cond.code yX10_yearOf cX10_yearOf 3 (some .int)]
def wsX10_headOf_r2 : List Cond := [Cond.fieldLink RX10 28 "FairRentsModel" "isTold" "[Z", Cond.methodLink RX10 103 yX10_pointsOf, Cond.instanceMethod yX10_pointsOf, Cond.selects RX10 yX10_pointsOf yX10_pointsOf, Cond.code yX10_pointsOf cX10_pointsOf 4 (some .int), Cond.fieldLink RX10 16 "FairRentsModel" "rooms" "[I", Cond.fieldLink RX10 7 "FairRentsModel" "kind" "[I", Cond.fieldLink RX10 19 "FairRentsModel" "floor" "[I"]
def wsX10_headOf : List Cond := .code yX10_headOf cX10_headOf 8 (some .int) :: ((wsX10_headOf_r1 ++ wsX10_headOf_r2) ++ wsX100)
def wsX10_head_r1 : List Cond := [Cond.constant RX10 131 (-1000000000), Cond.methodLink RX10 91 yX10_isHome, Cond.instanceMethod yX10_isHome, Cond.selects RX10 yX10_isHome yX10_isHome, Cond.initialized RX10, Cond.code yX10_isHome cX10_isHome 2 (some .boolean), Cond.fieldLink RX10 83 "FairRentsModel" "homes" "I", Cond.methodLink RX10 87 yX10_in, Cond.static yX10_in, Cond.code yX10_in cX10_in 3 (some .boolean), Cond.methodLink RX10 127 yX10_headOf, Cond.instanceMethod yX10_headOf, Cond.selects RX10 yX10_headOf yX10_headOf, Cond.code yX10_headOf cX10_headOf 8 (some .int), Cond.fieldLink RX10 120 "FairRentsModel" "counted" "I", Cond.fieldLink RX10 77 "FairRentsModel" "right" "[I", Cond.fieldLink RX10 13 "FairRentsModel" "area" "[I", Cond.fieldLink RX10 22 "FairRentsModel" "faults" "[I", Cond.methodLink RX10 123 yX10_collect, Cond.instanceMethod yX10_collect, Cond.selects RX10 yX10_collect yX10_collect, Cond.code yX10_collect cX10_collect 6 none, Cond.fieldLink RX10 117 "FairRentsModel" "likes" "I", Cond.fieldLink RX10 32 "FairRentsModel" "likeArea" "[I"]
def wsX10_head_r2 : List Cond := [Cond.fieldLink RX10 41 "FairRentsModel" "likeDay" "[I", Cond.fieldLink RX10 44 "FairRentsModel" "isStruck" "[Z", Cond.fieldLink RX10 38 "FairRentsModel" "likeRent" "[I", Cond.fieldLink RX10 35 "FairRentsModel" "likePoints" "[I", Cond.methodLink RX10 113 yX10_lawOf, Cond.instanceMethod yX10_lawOf, Cond.selects RX10 yX10_lawOf yX10_lawOf, Cond.code yX10_lawOf cX10_lawOf 3 (some .int), Cond.fieldLink RX10 25 "FairRentsModel" "laws" "[I", Cond.methodLink RX10 110 yX10_yearOf, Cond.instanceMethod yX10_yearOf, Cond.selects RX10 yX10_yearOf yX10_yearOf, Cond.code yX10_yearOf cX10_yearOf 3 (some .int), Cond.fieldLink RX10 28 "FairRentsModel" "isTold" "[Z", Cond.methodLink RX10 103 yX10_pointsOf, Cond.instanceMethod yX10_pointsOf, Cond.selects RX10 yX10_pointsOf yX10_pointsOf, Cond.code yX10_pointsOf cX10_pointsOf 4 (some .int), Cond.fieldLink RX10 16 "FairRentsModel" "rooms" "[I", Cond.fieldLink RX10 7 "FairRentsModel" "kind" "[I", Cond.fieldLink RX10 19 "FairRentsModel" "floor" "[I"]
def wsX10_head : List Cond := .code yX10_head cX10_head 4 (some .int) :: ((wsX10_head_r1 ++ wsX10_head_r2) ++ wsX100)
def wsX10_let : List Cond := .code yX10_let cX10_let 4 (some .int) :: ([.fieldLink RX10 47 "FairRentsModel" "letDay" "[I", .fieldLink RX10 107 "FairRentsModel" "today" "I", .fieldLink RX10 50 "FairRentsModel" "letRent" "[I", .fieldLink RX10 53 "FairRentsModel" "letting" "[I", .fieldLink RX10 56 "FairRentsModel" "paid" "[I", .methodLink RX10 91 yX10_isHome, .instanceMethod yX10_isHome, .selects RX10 yX10_isHome yX10_isHome, .initialized RX10, .code yX10_isHome cX10_isHome 2 (some .boolean), .fieldLink RX10 83 "FairRentsModel" "homes" "I", .methodLink RX10 87 yX10_in, .static yX10_in, .code yX10_in cX10_in 3 (some .boolean)] ++ wsX100)
def wsX10_latestOf : List Cond := .code yX10_latestOf cX10_latestOf 3 (some .int) :: ([.fieldLink RX10 132 "FairRentsModel" "entries" "I", .fieldLink RX10 59 "FairRentsModel" "entryHome" "[I", .fieldLink RX10 74 "FairRentsModel" "isGone" "[Z"] ++ wsX100)
def wsX10_openOf : List Cond := .code yX10_openOf cX10_openOf 4 (some .int) :: ([.fieldLink RX10 62 "FairRentsModel" "entryDay" "[I", .fieldLink RX10 107 "FairRentsModel" "today" "I", .methodLink RX10 135 yX10_latestOf, .instanceMethod yX10_latestOf, .selects RX10 yX10_latestOf yX10_latestOf, .initialized RX10, .code yX10_latestOf cX10_latestOf 3 (some .int), .fieldLink RX10 132 "FairRentsModel" "entries" "I", .fieldLink RX10 59 "FairRentsModel" "entryHome" "[I", .fieldLink RX10 74 "FairRentsModel" "isGone" "[Z", .methodLink RX10 113 yX10_lawOf, .instanceMethod yX10_lawOf, .selects RX10 yX10_lawOf yX10_lawOf, .code yX10_lawOf cX10_lawOf 3 (some .int), .fieldLink RX10 25 "FairRentsModel" "laws" "[I", .methodLink RX10 110 yX10_yearOf, .instanceMethod yX10_yearOf, .selects RX10 yX10_yearOf yX10_yearOf, .code yX10_yearOf cX10_yearOf 3 (some .int), .fieldLink RX10 28 "FairRentsModel" "isTold" "[Z"] ++ wsX100)
def wsX10_ask_r1 : List Cond := [Cond.fieldLink RX10 47 "FairRentsModel" "letDay" "[I", Cond.fieldLink RX10 107 "FairRentsModel" "today" "I", Cond.fieldLink RX10 132 "FairRentsModel" "entries" "I", Cond.fieldLink RX10 59 "FairRentsModel" "entryHome" "[I", Cond.fieldLink RX10 62 "FairRentsModel" "entryDay" "[I", Cond.fieldLink RX10 65 "FairRentsModel" "entryRent" "[I", Cond.fieldLink RX10 68 "FairRentsModel" "entryHead" "[I", Cond.fieldLink RX10 71 "FairRentsModel" "entryLetting" "[I", Cond.fieldLink RX10 53 "FairRentsModel" "letting" "[I", Cond.fieldLink RX10 74 "FairRentsModel" "isGone" "[Z", Cond.methodLink RX10 91 yX10_isHome, Cond.instanceMethod yX10_isHome, Cond.selects RX10 yX10_isHome yX10_isHome, Cond.initialized RX10, Cond.code yX10_isHome cX10_isHome 2 (some .boolean), Cond.fieldLink RX10 83 "FairRentsModel" "homes" "I", Cond.methodLink RX10 87 yX10_in, Cond.static yX10_in, Cond.code yX10_in cX10_in 3 (some .boolean), Cond.methodLink RX10 138 yX10_openOf, Cond.instanceMethod yX10_openOf, Cond.selects RX10 yX10_openOf yX10_openOf, Cond.code yX10_openOf cX10_openOf 4 (some .int), Cond.methodLink RX10 135 yX10_latestOf]
def wsX10_ask_r2 : List Cond := [Cond.instanceMethod yX10_latestOf, Cond.selects RX10 yX10_latestOf yX10_latestOf, Cond.code yX10_latestOf cX10_latestOf 3 (some .int), Cond.methodLink RX10 113 yX10_lawOf, Cond.instanceMethod yX10_lawOf, Cond.selects RX10 yX10_lawOf yX10_lawOf, Cond.code yX10_lawOf cX10_lawOf 3 (some .int), Cond.fieldLink RX10 25 "FairRentsModel" "laws" "[I", Cond.methodLink RX10 110 yX10_yearOf, Cond.instanceMethod yX10_yearOf, Cond.selects RX10 yX10_yearOf yX10_yearOf, Cond.code yX10_yearOf cX10_yearOf 3 (some .int), Cond.fieldLink RX10 28 "FairRentsModel" "isTold" "[Z", Cond.methodLink RX10 127 yX10_headOf, Cond.instanceMethod yX10_headOf, Cond.selects RX10 yX10_headOf yX10_headOf, Cond.code yX10_headOf cX10_headOf 8 (some .int), Cond.fieldLink RX10 120 "FairRentsModel" "counted" "I", Cond.fieldLink RX10 77 "FairRentsModel" "right" "[I", Cond.fieldLink RX10 13 "FairRentsModel" "area" "[I", Cond.fieldLink RX10 22 "FairRentsModel" "faults" "[I", Cond.methodLink RX10 123 yX10_collect, Cond.instanceMethod yX10_collect, Cond.selects RX10 yX10_collect yX10_collect]
def wsX10_ask_r3 : List Cond := [Cond.code yX10_collect cX10_collect 6 none, Cond.fieldLink RX10 117 "FairRentsModel" "likes" "I", Cond.fieldLink RX10 32 "FairRentsModel" "likeArea" "[I", Cond.fieldLink RX10 41 "FairRentsModel" "likeDay" "[I", Cond.fieldLink RX10 44 "FairRentsModel" "isStruck" "[Z", Cond.fieldLink RX10 38 "FairRentsModel" "likeRent" "[I", Cond.fieldLink RX10 35 "FairRentsModel" "likePoints" "[I", Cond.methodLink RX10 103 yX10_pointsOf, Cond.instanceMethod yX10_pointsOf, Cond.selects RX10 yX10_pointsOf yX10_pointsOf, Cond.code yX10_pointsOf cX10_pointsOf 4 (some .int), Cond.fieldLink RX10 16 "FairRentsModel" "rooms" "[I", Cond.fieldLink RX10 7 "FairRentsModel" "kind" "[I", Cond.fieldLink RX10 19 "FairRentsModel" "floor" "[I"]
def wsX10_ask : List Cond := .code yX10_ask cX10_ask 3 (some .int) :: ((wsX10_ask_r1 ++ (wsX10_ask_r2 ++ wsX10_ask_r3)) ++ wsX100)
def wsX10_open_r1 : List Cond := [Cond.methodLink RX10 91 yX10_isHome, Cond.instanceMethod yX10_isHome, Cond.selects RX10 yX10_isHome yX10_isHome, Cond.initialized RX10, Cond.code yX10_isHome cX10_isHome 2 (some .boolean), Cond.fieldLink RX10 83 "FairRentsModel" "homes" "I", Cond.methodLink RX10 87 yX10_in, Cond.static yX10_in, Cond.code yX10_in cX10_in 3 (some .boolean), Cond.methodLink RX10 138 yX10_openOf, Cond.instanceMethod yX10_openOf, Cond.selects RX10 yX10_openOf yX10_openOf, Cond.code yX10_openOf cX10_openOf 4 (some .int), Cond.fieldLink RX10 62 "FairRentsModel" "entryDay" "[I", Cond.fieldLink RX10 107 "FairRentsModel" "today" "I", Cond.methodLink RX10 135 yX10_latestOf, Cond.instanceMethod yX10_latestOf, Cond.selects RX10 yX10_latestOf yX10_latestOf, Cond.code yX10_latestOf cX10_latestOf 3 (some .int), Cond.fieldLink RX10 132 "FairRentsModel" "entries" "I", Cond.fieldLink RX10 59 "FairRentsModel" "entryHome" "[I", Cond.fieldLink RX10 74 "FairRentsModel" "isGone" "[Z", Cond.methodLink RX10 113 yX10_lawOf, Cond.instanceMethod yX10_lawOf]
def wsX10_open_r2 : List Cond := [Cond.selects RX10 yX10_lawOf yX10_lawOf, Cond.code yX10_lawOf cX10_lawOf 3 (some .int), Cond.fieldLink RX10 25 "FairRentsModel" "laws" "[I", Cond.methodLink RX10 110 yX10_yearOf, Cond.instanceMethod yX10_yearOf, Cond.selects RX10 yX10_yearOf yX10_yearOf, Cond.code yX10_yearOf cX10_yearOf 3 (some .int), Cond.fieldLink RX10 28 "FairRentsModel" "isTold" "[Z"]
def wsX10_open : List Cond := .code yX10_open cX10_open 2 (some .int) :: ((wsX10_open_r1 ++ wsX10_open_r2) ++ wsX100)
def wsX10_appeal : List Cond := .code yX10_appeal cX10_appeal 3 (some .int) :: ([.fieldLink RX10 107 "FairRentsModel" "today" "I", .fieldLink RX10 62 "FairRentsModel" "entryDay" "[I", .fieldLink RX10 74 "FairRentsModel" "isGone" "[Z", .methodLink RX10 91 yX10_isHome, .instanceMethod yX10_isHome, .selects RX10 yX10_isHome yX10_isHome, .initialized RX10, .code yX10_isHome cX10_isHome 2 (some .boolean), .fieldLink RX10 83 "FairRentsModel" "homes" "I", .methodLink RX10 87 yX10_in, .static yX10_in, .code yX10_in cX10_in 3 (some .boolean), .methodLink RX10 135 yX10_latestOf, .instanceMethod yX10_latestOf, .selects RX10 yX10_latestOf yX10_latestOf, .code yX10_latestOf cX10_latestOf 3 (some .int), .fieldLink RX10 132 "FairRentsModel" "entries" "I", .fieldLink RX10 59 "FairRentsModel" "entryHome" "[I"] ++ wsX100)
def wsX10_entry : List Cond := .code yX10_entry cX10_entry 3 (some .int) :: ([.fieldLink RX10 132 "FairRentsModel" "entries" "I", .constant RX10 131 (-1000000000), .fieldLink RX10 59 "FairRentsModel" "entryHome" "[I", .fieldLink RX10 62 "FairRentsModel" "entryDay" "[I", .fieldLink RX10 65 "FairRentsModel" "entryRent" "[I", .fieldLink RX10 74 "FairRentsModel" "isGone" "[Z", .fieldLink RX10 68 "FairRentsModel" "entryHead" "[I", .methodLink RX10 87 yX10_in, .static yX10_in, .initialized RX10, .code yX10_in cX10_in 3 (some .boolean)] ++ wsX100)
def wsX10_latest : List Cond := .code yX10_latest cX10_latest 2 (some .int) :: ([.methodLink RX10 91 yX10_isHome, .instanceMethod yX10_isHome, .selects RX10 yX10_isHome yX10_isHome, .initialized RX10, .code yX10_isHome cX10_isHome 2 (some .boolean), .fieldLink RX10 83 "FairRentsModel" "homes" "I", .methodLink RX10 87 yX10_in, .static yX10_in, .code yX10_in cX10_in 3 (some .boolean), .methodLink RX10 135 yX10_latestOf, .instanceMethod yX10_latestOf, .selects RX10 yX10_latestOf yX10_latestOf, .code yX10_latestOf cX10_latestOf 3 (some .int), .fieldLink RX10 132 "FairRentsModel" "entries" "I", .fieldLink RX10 59 "FairRentsModel" "entryHome" "[I", .fieldLink RX10 74 "FairRentsModel" "isGone" "[Z"] ++ wsX100)
def wsX10_work : List Cond := .code yX10_work cX10_work 7 none :: ([.fieldLink RX10 47 "FairRentsModel" "letDay" "[I", .fieldLink RX10 132 "FairRentsModel" "entries" "I", .fieldLink RX10 59 "FairRentsModel" "entryHome" "[I", .fieldLink RX10 74 "FairRentsModel" "isGone" "[Z", .fieldLink RX10 71 "FairRentsModel" "entryLetting" "[I", .fieldLink RX10 53 "FairRentsModel" "letting" "[I", .fieldLink RX10 62 "FairRentsModel" "entryDay" "[I", .fieldLink RX10 80 "FairRentsModel" "dues" "[I", .fieldLink RX10 50 "FairRentsModel" "letRent" "[I", .fieldLink RX10 65 "FairRentsModel" "entryRent" "[I", .methodLink RX10 113 yX10_lawOf, .instanceMethod yX10_lawOf, .selects RX10 yX10_lawOf yX10_lawOf, .initialized RX10, .code yX10_lawOf cX10_lawOf 3 (some .int), .fieldLink RX10 25 "FairRentsModel" "laws" "[I", .methodLink RX10 110 yX10_yearOf, .instanceMethod yX10_yearOf, .selects RX10 yX10_yearOf yX10_yearOf, .code yX10_yearOf cX10_yearOf 3 (some .int), .fieldLink RX10 28 "FairRentsModel" "isTold" "[Z"] ++ wsX100)
def wsX10_due_r1 : List Cond := [Cond.fieldLink RX10 107 "FairRentsModel" "today" "I", Cond.fieldLink RX10 47 "FairRentsModel" "letDay" "[I", Cond.fieldLink RX10 80 "FairRentsModel" "dues" "[I", Cond.methodLink RX10 91 yX10_isHome, Cond.instanceMethod yX10_isHome, Cond.selects RX10 yX10_isHome yX10_isHome, Cond.initialized RX10, Cond.code yX10_isHome cX10_isHome 2 (some .boolean), Cond.fieldLink RX10 83 "FairRentsModel" "homes" "I", Cond.methodLink RX10 87 yX10_in, Cond.static yX10_in, Cond.code yX10_in cX10_in 3 (some .boolean), Cond.methodLink RX10 141 yX10_work, Cond.instanceMethod yX10_work, Cond.selects RX10 yX10_work yX10_work, Cond.code yX10_work cX10_work 7 none, Cond.fieldLink RX10 132 "FairRentsModel" "entries" "I", Cond.fieldLink RX10 59 "FairRentsModel" "entryHome" "[I", Cond.fieldLink RX10 74 "FairRentsModel" "isGone" "[Z", Cond.fieldLink RX10 71 "FairRentsModel" "entryLetting" "[I", Cond.fieldLink RX10 53 "FairRentsModel" "letting" "[I", Cond.fieldLink RX10 62 "FairRentsModel" "entryDay" "[I", Cond.fieldLink RX10 50 "FairRentsModel" "letRent" "[I", Cond.fieldLink RX10 65 "FairRentsModel" "entryRent" "[I"]
def wsX10_due_r2 : List Cond := [Cond.methodLink RX10 113 yX10_lawOf, Cond.instanceMethod yX10_lawOf, Cond.selects RX10 yX10_lawOf yX10_lawOf, Cond.code yX10_lawOf cX10_lawOf 3 (some .int), Cond.fieldLink RX10 25 "FairRentsModel" "laws" "[I", Cond.methodLink RX10 110 yX10_yearOf, Cond.instanceMethod yX10_yearOf, Cond.selects RX10 yX10_yearOf yX10_yearOf, Cond.code yX10_yearOf cX10_yearOf 3 (some .int), Cond.fieldLink RX10 28 "FairRentsModel" "isTold" "[Z"]
def wsX10_due : List Cond := .code yX10_due cX10_due 3 (some .int) :: ((wsX10_due_r1 ++ wsX10_due_r2) ++ wsX100)
def wsX10_paidBy : List Cond := .code yX10_paidBy cX10_paidBy 5 (some .int) :: ([.fieldLink RX10 56 "FairRentsModel" "paid" "[I"] ++ wsX100)
def wsX10_pay : List Cond := .code yX10_pay cX10_pay 4 (some .int) :: ([.constant RX10 144 (100000), .fieldLink RX10 47 "FairRentsModel" "letDay" "[I", .fieldLink RX10 107 "FairRentsModel" "today" "I", .constant RX10 148 (1000000), .fieldLink RX10 56 "FairRentsModel" "paid" "[I", .methodLink RX10 91 yX10_isHome, .instanceMethod yX10_isHome, .selects RX10 yX10_isHome yX10_isHome, .initialized RX10, .code yX10_isHome cX10_isHome 2 (some .boolean), .fieldLink RX10 83 "FairRentsModel" "homes" "I", .methodLink RX10 87 yX10_in, .static yX10_in, .code yX10_in cX10_in 3 (some .boolean), .methodLink RX10 145 yX10_paidBy, .instanceMethod yX10_paidBy, .selects RX10 yX10_paidBy yX10_paidBy, .code yX10_paidBy cX10_paidBy 5 (some .int)] ++ wsX100)
def wsX10_owed_r1 : List Cond := [Cond.fieldLink RX10 107 "FairRentsModel" "today" "I", Cond.fieldLink RX10 47 "FairRentsModel" "letDay" "[I", Cond.constant RX10 131 (-1000000000), Cond.fieldLink RX10 80 "FairRentsModel" "dues" "[I", Cond.methodLink RX10 91 yX10_isHome, Cond.instanceMethod yX10_isHome, Cond.selects RX10 yX10_isHome yX10_isHome, Cond.initialized RX10, Cond.code yX10_isHome cX10_isHome 2 (some .boolean), Cond.fieldLink RX10 83 "FairRentsModel" "homes" "I", Cond.methodLink RX10 87 yX10_in, Cond.static yX10_in, Cond.code yX10_in cX10_in 3 (some .boolean), Cond.methodLink RX10 141 yX10_work, Cond.instanceMethod yX10_work, Cond.selects RX10 yX10_work yX10_work, Cond.code yX10_work cX10_work 7 none, Cond.fieldLink RX10 132 "FairRentsModel" "entries" "I", Cond.fieldLink RX10 59 "FairRentsModel" "entryHome" "[I", Cond.fieldLink RX10 74 "FairRentsModel" "isGone" "[Z", Cond.fieldLink RX10 71 "FairRentsModel" "entryLetting" "[I", Cond.fieldLink RX10 53 "FairRentsModel" "letting" "[I", Cond.fieldLink RX10 62 "FairRentsModel" "entryDay" "[I", Cond.fieldLink RX10 50 "FairRentsModel" "letRent" "[I"]
def wsX10_owed_r2 : List Cond := [Cond.fieldLink RX10 65 "FairRentsModel" "entryRent" "[I", Cond.methodLink RX10 113 yX10_lawOf, Cond.instanceMethod yX10_lawOf, Cond.selects RX10 yX10_lawOf yX10_lawOf, Cond.code yX10_lawOf cX10_lawOf 3 (some .int), Cond.fieldLink RX10 25 "FairRentsModel" "laws" "[I", Cond.methodLink RX10 110 yX10_yearOf, Cond.instanceMethod yX10_yearOf, Cond.selects RX10 yX10_yearOf yX10_yearOf, Cond.code yX10_yearOf cX10_yearOf 3 (some .int), Cond.fieldLink RX10 28 "FairRentsModel" "isTold" "[Z", Cond.methodLink RX10 145 yX10_paidBy, Cond.instanceMethod yX10_paidBy, Cond.selects RX10 yX10_paidBy yX10_paidBy, Cond.code yX10_paidBy cX10_paidBy 5 (some .int), Cond.fieldLink RX10 56 "FairRentsModel" "paid" "[I"]
def wsX10_owed : List Cond := .code yX10_owed cX10_owed 5 (some .int) :: ((wsX10_owed_r1 ++ wsX10_owed_r2) ++ wsX100)
def wsX10_count : List Cond := .code yX10_count cX10_count 4 (some .int) :: ([.fieldLink RX10 83 "FairRentsModel" "homes" "I", .fieldLink RX10 117 "FairRentsModel" "likes" "I", .fieldLink RX10 132 "FairRentsModel" "entries" "I", .fieldLink RX10 107 "FairRentsModel" "today" "I", .fieldLink RX10 47 "FairRentsModel" "letDay" "[I", .fieldLink RX10 28 "FairRentsModel" "isTold" "[Z"] ++ wsX100)
def wsX10_trace : List Cond := .code yX10_trace cX10_trace 1 (some .long) :: ([.fieldLink RX10 95 "FairRentsModel" "trace" "J"] ++ wsX100)
def wsJ9_max_7cf53 : List Cond := .code yJ9_max_7cf53 cJ9_max_7cf53 2 (some .int) :: ([])
def wsJ9_min_7cf53 : List Cond := .code yJ9_min_7cf53 cJ9_min_7cf53 2 (some .int) :: ([])
def wsL_law_r1 : List Cond := [Cond.classLink RL 7 RX9, Cond.instantiable RX9 12, Cond.initialized RX9, Cond.classLink RL 10 RX10, Cond.instantiable RX10 30, Cond.initialized RX10, Cond.methodLink RL 9 yX9_init, Cond.instanceMethod yX9_init, Cond.code yX9_init cX9_init 1 none, Cond.methodLink RX9 1 objectInit, Cond.instanceMethod objectInit, Cond.code objectInit ⟨#[0xb1]⟩ 1 none, Cond.classLink RX9 9 RX3, Cond.fieldLink RX9 11 "FairRents" "homes" "[LFairRents$Home;", Cond.classLink RX9 15 RX6, Cond.fieldLink RX9 17 "FairRents" "likes" "[LFairRents$Like;", Cond.classLink RX9 21 RX0, Cond.fieldLink RX9 23 "FairRents" "entries" "[LFairRents$Entry;", Cond.classLink RX9 27 RX4, Cond.fieldLink RX9 29 "FairRents" "laws" "[LFairRents$Law;", Cond.instantiable RX4 1, Cond.initialized RX4, Cond.arrayClass .int, Cond.fieldLink RX9 36 "FairRents" "firstLaw" "LFairRents$Law;"]
def wsL_law_r2 : List Cond := [Cond.classLink RX9 40 RX2, Cond.instantiable RX2 5, Cond.initialized RX2, Cond.fieldLink RX9 43 "FairRents" "heads" "LFairRents$Heads;", Cond.fieldLink RX9 47 "FairRents" "dues" "[I", Cond.methodLink RX9 33 yX4_init, Cond.instanceMethod yX4_init, Cond.code yX4_init cX4_init 2 none, Cond.methodLink RX4 3 objectInit, Cond.fieldLink RX4 9 "FairRents$Law" "numbers" "[I", Cond.instanceMethod yX2_init, Cond.code yX2_init cX2_init 1 none, Cond.methodLink RX2 3 objectInit, Cond.fieldLink RX2 9 "FairRents$Heads" "ordered" "[I", Cond.methodLink RL 12 yX10_init, Cond.instanceMethod yX10_init, Cond.code yX10_init cX10_init 1 none, Cond.methodLink RX10 1 objectInit, Cond.fieldLink RX10 7 "FairRentsModel" "kind" "[I", Cond.fieldLink RX10 13 "FairRentsModel" "area" "[I", Cond.fieldLink RX10 16 "FairRentsModel" "rooms" "[I", Cond.fieldLink RX10 19 "FairRentsModel" "floor" "[I", Cond.fieldLink RX10 22 "FairRentsModel" "faults" "[I", Cond.fieldLink RX10 25 "FairRentsModel" "laws" "[I"]
def wsL_law_r3 : List Cond := [Cond.arrayClass .boolean, Cond.fieldLink RX10 28 "FairRentsModel" "isTold" "[Z", Cond.fieldLink RX10 32 "FairRentsModel" "likeArea" "[I", Cond.fieldLink RX10 35 "FairRentsModel" "likePoints" "[I", Cond.fieldLink RX10 38 "FairRentsModel" "likeRent" "[I", Cond.fieldLink RX10 41 "FairRentsModel" "likeDay" "[I", Cond.fieldLink RX10 44 "FairRentsModel" "isStruck" "[Z", Cond.fieldLink RX10 47 "FairRentsModel" "letDay" "[I", Cond.fieldLink RX10 50 "FairRentsModel" "letRent" "[I", Cond.fieldLink RX10 53 "FairRentsModel" "letting" "[I", Cond.fieldLink RX10 56 "FairRentsModel" "paid" "[I", Cond.fieldLink RX10 59 "FairRentsModel" "entryHome" "[I", Cond.fieldLink RX10 62 "FairRentsModel" "entryDay" "[I", Cond.fieldLink RX10 65 "FairRentsModel" "entryRent" "[I", Cond.fieldLink RX10 68 "FairRentsModel" "entryHead" "[I", Cond.fieldLink RX10 71 "FairRentsModel" "entryLetting" "[I", Cond.fieldLink RX10 74 "FairRentsModel" "isGone" "[Z", Cond.fieldLink RX10 77 "FairRentsModel" "right" "[I", Cond.fieldLink RX10 80 "FairRentsModel" "dues" "[I", Cond.methodLink RL 13 yX9_home, Cond.instanceMethod yX9_home, Cond.selects RX9 yX9_home yX9_home, Cond.code yX9_home cX9_home 5 (some .int), Cond.fieldLink RX9 55 "FairRents" "homesMade" "I"]
def wsL_law_r4 : List Cond := [Cond.instantiable RX3 4, Cond.initialized RX3, Cond.methodLink RX9 51 yX9_within, Cond.static yX9_within, Cond.code yX9_within cX9_within 3 (some .boolean), Cond.methodLink RX9 59 yX9_bodyOf, Cond.static yX9_bodyOf, Cond.code yX9_bodyOf cX9_bodyOf 3 (some (.object "FairRents$Plain")), Cond.classLink RX9 82 RX8, Cond.instantiable RX8 1, Cond.initialized RX8, Cond.classLink RX9 225 RX1, Cond.instantiable RX1 2, Cond.initialized RX1, Cond.classLink RX9 229 RX7, Cond.instantiable RX7 2, Cond.initialized RX7, Cond.methodLink RX9 222 yX8_init, Cond.instanceMethod yX8_init, Cond.code yX8_init cX8_init 2 none, Cond.methodLink RX8 1 objectInit, Cond.fieldLink RX8 7 "FairRents$Plain" "rooms" "I", Cond.methodLink RX9 227 yX1_init, Cond.instanceMethod yX1_init]
def wsL_law_r5 : List Cond := [Cond.code yX1_init cX1_init 3 none, Cond.fieldLink RX1 7 "FairRents$Flat" "floor" "I", Cond.methodLink RX1 1 yX8_init, Cond.methodLink RX9 231 yX7_init, Cond.instanceMethod yX7_init, Cond.code yX7_init cX7_init 3 none, Cond.methodLink RX7 1 yX1_init, Cond.methodLink RX9 63 yX3_init, Cond.instanceMethod yX3_init, Cond.code yX3_init cX3_init 3 none, Cond.methodLink RX3 1 objectInit, Cond.fieldLink RX3 7 "FairRents$Home" "body" "LFairRents$Plain;", Cond.fieldLink RX3 13 "FairRents$Home" "area" "I", Cond.classLink RX3 17 RX5, Cond.instantiable RX5 5, Cond.initialized RX5, Cond.fieldLink RX3 20 "FairRents$Home" "letting" "LFairRents$Letting;", Cond.instanceMethod yX5_init, Cond.code yX5_init cX5_init 1 none, Cond.methodLink RX5 3 objectInit, Cond.fieldLink RX5 9 "FairRents$Letting" "sums" "[I", Cond.methodLink RL 17 yX10_home, Cond.instanceMethod yX10_home, Cond.selects RX10 yX10_home yX10_home]
def wsL_law_r6 : List Cond := [Cond.code yX10_home cX10_home 5 (some .int), Cond.fieldLink RX10 83 "FairRentsModel" "homes" "I", Cond.methodLink RX10 87 yX10_in, Cond.static yX10_in, Cond.code yX10_in cX10_in 3 (some .boolean), Cond.methodLink RL 18 yX9_faults, Cond.instanceMethod yX9_faults, Cond.selects RX9 yX9_faults yX9_faults, Cond.code yX9_faults cX9_faults 5 (some .int), Cond.fieldLink RX9 70 "FairRents$Home" "faults" "I", Cond.methodLink RX9 66 yX9_homeAt, Cond.instanceMethod yX9_homeAt, Cond.selects RX9 yX9_homeAt yX9_homeAt, Cond.code yX9_homeAt cX9_homeAt 2 (some (.object "FairRents$Home")), Cond.methodLink RL 22 yX10_faults, Cond.instanceMethod yX10_faults, Cond.selects RX10 yX10_faults yX10_faults, Cond.code yX10_faults cX10_faults 4 (some .int), Cond.methodLink RX10 91 yX10_isHome, Cond.instanceMethod yX10_isHome, Cond.selects RX10 yX10_isHome yX10_isHome, Cond.code yX10_isHome cX10_isHome 2 (some .boolean), Cond.methodLink RL 23 yX9_points, Cond.instanceMethod yX9_points]
def wsL_law_r7 : List Cond := [Cond.selects RX9 yX9_points yX9_points, Cond.code yX9_points cX9_points 3 (some .int), Cond.fieldLink RX9 73 "FairRents" "traced" "J", Cond.fieldLink RX9 77 "FairRents$Home" "body" "LFairRents$Plain;", Cond.methodLink RX9 81 ⟨"FairRents$Plain", "marks", "()I"⟩, Cond.sameMethod "FairRents$Plain" "FairRents$Plain" "marks" "()I", Cond.instanceMethod ⟨"FairRents$Plain", "marks", "()I"⟩, Cond.selects RX1 ⟨"FairRents$Plain", "marks", "()I"⟩ yX1_marks, Cond.instanceMethod yX1_marks, Cond.code yX1_marks cX1_marks 1 (some .int), Cond.methodLink RX1 17 yX8_marks, Cond.superclass RX1 RX8, Cond.instanceMethod yX8_marks, Cond.code yX8_marks cX8_marks 1 (some .int), Cond.selects RX7 ⟨"FairRents$Plain", "marks", "()I"⟩ yX7_marks, Cond.instanceMethod yX7_marks, Cond.code yX7_marks cX7_marks 1 (some .int), Cond.methodLink RX7 17 yX1_marks, Cond.sameMethod "FairRents$Flat" "FairRents$Flat" "marks" "()I", Cond.superclass RX7 RX1, Cond.methodLink RX9 81 yX8_marks, Cond.selects RX8 yX8_marks yX8_marks, Cond.methodLink RX9 87 ⟨"FairRents$Plain", "worth", "()I"⟩, Cond.sameMethod "FairRents$Plain" "FairRents$Plain" "worth" "()I"]
def wsL_law_r8 : List Cond := [Cond.instanceMethod ⟨"FairRents$Plain", "worth", "()I"⟩, Cond.selects RX1 ⟨"FairRents$Plain", "worth", "()I"⟩ yX1_worth, Cond.instanceMethod yX1_worth, Cond.code yX1_worth cX1_worth 1 (some .int), Cond.methodLink RX1 13 yX8_worth, Cond.instanceMethod yX8_worth, Cond.code yX8_worth cX8_worth 1 (some .int), Cond.selects RX7 ⟨"FairRents$Plain", "worth", "()I"⟩ yX7_worth, Cond.instanceMethod yX7_worth, Cond.code yX7_worth cX7_worth 2 (some .int), Cond.methodLink RX7 7 yX1_worth, Cond.sameMethod "FairRents$Flat" "FairRents$Flat" "worth" "()I", Cond.methodLink RX7 11 yJ9_floorDiv_7cf53, Cond.static yJ9_floorDiv_7cf53, Cond.initialized RJ9, Cond.code yJ9_floorDiv_7cf53 cJ9_floorDiv_7cf53 3 (some .int), Cond.methodLink RX9 87 yX8_worth, Cond.selects RX8 yX8_worth yX8_worth, Cond.methodLink RL 27 yX10_points, Cond.instanceMethod yX10_points, Cond.selects RX10 yX10_points yX10_points, Cond.code yX10_points cX10_points 2 (some .int), Cond.fieldLink RX10 95 "FairRentsModel" "trace" "J", Cond.constantLong RX10 99 (11)]
def wsL_law_r9 : List Cond := [Cond.constantLong RX10 101 (111), Cond.methodLink RX10 103 yX10_pointsOf, Cond.instanceMethod yX10_pointsOf, Cond.selects RX10 yX10_pointsOf yX10_pointsOf, Cond.code yX10_pointsOf cX10_pointsOf 4 (some .int), Cond.methodLink RL 28 yX9_law, Cond.instanceMethod yX9_law, Cond.selects RX9 yX9_law yX9_law, Cond.code yX9_law cX9_law 10 (some .int), Cond.fieldLink RX9 94 "FairRents" "today" "I", Cond.methodLink RX9 90 yX9_lawful, Cond.static yX9_lawful, Cond.code yX9_lawful cX9_lawful 2 (some .boolean), Cond.fieldLink RX9 216 "FairRents" "LAW_LEAST" "[I", Cond.fieldLink RX9 219 "FairRents" "LAW_MOST" "[I", Cond.methodLink RL 32 yX10_law, Cond.instanceMethod yX10_law, Cond.selects RX10 yX10_law yX10_law, Cond.code yX10_law cX10_law 11 (some .int), Cond.fieldLink RX10 107 "FairRentsModel" "today" "I", Cond.methodLink RL 33 yX9_force, Cond.instanceMethod yX9_force, Cond.selects RX9 yX9_force yX9_force, Cond.code yX9_force cX9_force 3 (some .int)]
def wsL_law_r10 : List Cond := [Cond.methodLink RX9 97 yX9_lawOn, Cond.instanceMethod yX9_lawOn, Cond.selects RX9 yX9_lawOn yX9_lawOn, Cond.code yX9_lawOn cX9_lawOn 4 (some (.object "FairRents$Law")), Cond.methodLink RX9 232 Lib.Math.min.name, Cond.static Lib.Math.min.name, Cond.initialized "java/lang/Math", Cond.code Lib.Math.min.name Lib.Math.min.code 2 (some .int), Cond.methodLink RX9 101 yX4_number, Cond.instanceMethod yX4_number, Cond.selects RX4 yX4_number yX4_number, Cond.code yX4_number cX4_number 2 (some .int), Cond.methodLink RL 36 yX10_force, Cond.instanceMethod yX10_force, Cond.selects RX10 yX10_force yX10_force, Cond.code yX10_force cX10_force 3 (some .int), Cond.methodLink RX10 113 yX10_lawOf, Cond.instanceMethod yX10_lawOf, Cond.selects RX10 yX10_lawOf yX10_lawOf, Cond.code yX10_lawOf cX10_lawOf 3 (some .int), Cond.methodLink RX10 110 yX10_yearOf, Cond.instanceMethod yX10_yearOf, Cond.selects RX10 yX10_yearOf yX10_yearOf, Cond.code yX10_yearOf cX10_yearOf 3 (some .int)]
def wsL_law_r11 : List Cond := [Cond.methodLink RL 37 yX9_like, Cond.instanceMethod yX9_like, Cond.selects RX9 yX9_like yX9_like, Cond.code yX9_like cX9_like 4 (some .int), Cond.fieldLink RX9 105 "FairRents" "likesTold" "I", Cond.instantiable RX6 5, Cond.initialized RX6, Cond.methodLink RX9 108 yX6_init, Cond.instanceMethod yX6_init, Cond.code yX6_init cX6_init 5 none, Cond.methodLink RX6 1 objectInit, Cond.fieldLink RX6 7 "FairRents$Like" "area" "I", Cond.fieldLink RX6 13 "FairRents$Like" "points" "I", Cond.fieldLink RX6 16 "FairRents$Like" "rent" "I", Cond.fieldLink RX6 19 "FairRents$Like" "day" "I", Cond.methodLink RL 41 yX10_like, Cond.instanceMethod yX10_like, Cond.selects RX10 yX10_like yX10_like, Cond.code yX10_like cX10_like 4 (some .int), Cond.fieldLink RX10 117 "FairRentsModel" "likes" "I", Cond.methodLink RL 42 yX9_strike, Cond.instanceMethod yX9_strike, Cond.selects RX9 yX9_strike yX9_strike, Cond.code yX9_strike cX9_strike 3 (some .int)]
def wsL_law_r12 : List Cond := [Cond.fieldLink RX9 111 "FairRents$Like" "struck" "Z", Cond.methodLink RL 45 yX10_strike, Cond.instanceMethod yX10_strike, Cond.selects RX10 yX10_strike yX10_strike, Cond.code yX10_strike cX10_strike 2 (some .int), Cond.methodLink RL 46 yX9_days, Cond.instanceMethod yX9_days, Cond.selects RX9 yX9_days yX9_days, Cond.code yX9_days cX9_days 2 (some .int), Cond.methodLink RL 49 yX10_days, Cond.instanceMethod yX10_days, Cond.selects RX10 yX10_days yX10_days, Cond.code yX10_days cX10_days 2 (some .int), Cond.methodLink RL 50 yX9_head, Cond.instanceMethod yX9_head, Cond.selects RX9 yX9_head yX9_head, Cond.code yX9_head cX9_head 5 (some .int), Cond.constant RX9 115 (-1000000000), Cond.fieldLink RX9 120 "FairRents$Heads" "middle" "I", Cond.fieldLink RX9 123 "FairRents$Heads" "scarcity" "I", Cond.fieldLink RX9 126 "FairRents$Heads" "repairs" "I", Cond.fieldLink RX9 132 "FairRents$Heads" "counted" "I", Cond.methodLink RX9 116 yX2_work, Cond.instanceMethod yX2_work]
def wsL_law_r13 : List Cond := [Cond.selects RX2 yX2_work yX2_work, Cond.code yX2_work cX2_work 10 none, Cond.fieldLink RX2 15 "FairRents$Heads" "counted" "I", Cond.fieldLink RX2 19 "FairRents$Home" "body" "LFairRents$Plain;", Cond.fieldLink RX2 31 "FairRents$Home" "area" "I", Cond.fieldLink RX2 57 "FairRents$Heads" "middle" "I", Cond.fieldLink RX2 60 "FairRents$Heads" "scarcity" "I", Cond.fieldLink RX2 63 "FairRents$Home" "faults" "I", Cond.fieldLink RX2 66 "FairRents$Heads" "repairs" "I", Cond.methodLink RX2 25 ⟨"FairRents$Plain", "worth", "()I"⟩, Cond.methodLink RX2 25 yX8_worth, Cond.methodLink RX2 34 yX6_countsFor, Cond.instanceMethod yX6_countsFor, Cond.selects RX6 yX6_countsFor yX6_countsFor, Cond.code yX6_countsFor cX6_countsFor 3 (some .boolean), Cond.fieldLink RX6 22 "FairRents$Like" "struck" "Z", Cond.methodLink RX2 40 yX4_number, Cond.methodLink RX2 46 yX6_putRight, Cond.instanceMethod yX6_putRight, Cond.selects RX6 yX6_putRight yX6_putRight, Cond.code yX6_putRight cX6_putRight 3 (some .int), Cond.methodLink RX2 50 yX2_insert, Cond.instanceMethod yX2_insert, Cond.selects RX2 yX2_insert yX2_insert]
def wsL_law_r14 : List Cond := [Cond.code yX2_insert cX2_insert 3 none, Cond.methodLink RX2 54 yX2_lowerMiddle, Cond.instanceMethod yX2_lowerMiddle, Cond.selects RX2 yX2_lowerMiddle yX2_lowerMiddle, Cond.code yX2_lowerMiddle cX2_lowerMiddle 2 (some .int), Cond.methodLink RX9 129 yX2_fairRent, Cond.instanceMethod yX2_fairRent, Cond.selects RX2 yX2_fairRent yX2_fairRent, Cond.code yX2_fairRent cX2_fairRent 1 (some .int), Cond.methodLink RX2 69 Lib.Math.max.name, Cond.static Lib.Math.max.name, Cond.code Lib.Math.max.name Lib.Math.max.code 2 (some .int), Cond.methodLink RL 53 yX10_head, Cond.instanceMethod yX10_head, Cond.selects RX10 yX10_head yX10_head, Cond.code yX10_head cX10_head 4 (some .int), Cond.constant RX10 131 (-1000000000), Cond.methodLink RX10 127 yX10_headOf, Cond.instanceMethod yX10_headOf, Cond.selects RX10 yX10_headOf yX10_headOf, Cond.code yX10_headOf cX10_headOf 8 (some .int), Cond.fieldLink RX10 120 "FairRentsModel" "counted" "I", Cond.methodLink RX10 123 yX10_collect, Cond.instanceMethod yX10_collect]
def wsL_law_r15 : List Cond := [Cond.selects RX10 yX10_collect yX10_collect, Cond.code yX10_collect cX10_collect 6 none, Cond.methodLink RL 54 yX9_let, Cond.instanceMethod yX9_let, Cond.selects RX9 yX9_let yX9_let, Cond.code yX9_let cX9_let 4 (some .int), Cond.fieldLink RX9 135 "FairRents$Home" "letting" "LFairRents$Letting;", Cond.methodLink RX9 139 yX5_begin, Cond.instanceMethod yX5_begin, Cond.selects RX5 yX5_begin yX5_begin, Cond.code yX5_begin cX5_begin 4 none, Cond.fieldLink RX5 15 "FairRents$Letting" "number" "I", Cond.fieldLink RX5 23 "FairRents$Letting" "first" "I", Cond.fieldLink RX5 26 "FairRents$Letting" "rent" "I", Cond.fieldLink RX5 29 "FairRents$Letting" "paid" "I", Cond.methodLink RL 57 yX10_let, Cond.instanceMethod yX10_let, Cond.selects RX10 yX10_let yX10_let, Cond.code yX10_let cX10_let 4 (some .int), Cond.methodLink RL 58 yX9_ask, Cond.instanceMethod yX9_ask, Cond.selects RX9 yX9_ask yX9_ask, Cond.code yX9_ask cX9_ask 4 (some .int), Cond.fieldLink RX9 152 "FairRents" "entriesMade" "I"]
def wsL_law_r16 : List Cond := [Cond.instantiable RX0 9, Cond.initialized RX0, Cond.fieldLink RX9 155 "FairRents$Letting" "number" "I", Cond.methodLink RX9 145 yX5_isLet, Cond.instanceMethod yX5_isLet, Cond.selects RX5 yX5_isLet yX5_isLet, Cond.code yX5_isLet cX5_isLet 1 (some .boolean), Cond.methodLink RX9 149 yX9_barEnd, Cond.instanceMethod yX9_barEnd, Cond.selects RX9 yX9_barEnd yX9_barEnd, Cond.code yX9_barEnd cX9_barEnd 3 (some .int), Cond.fieldLink RX9 173 "FairRents$Entry" "day" "I", Cond.fieldLink RX9 235 "FairRents$Entry" "law" "LFairRents$Law;", Cond.methodLink RX9 166 yX9_latestStanding, Cond.instanceMethod yX9_latestStanding, Cond.selects RX9 yX9_latestStanding yX9_latestStanding, Cond.code yX9_latestStanding cX9_latestStanding 4 (some .int), Cond.fieldLink RX9 176 "FairRents$Entry" "stands" "Z", Cond.fieldLink RX9 179 "FairRents$Entry" "home" "I", Cond.methodLink RX9 169 yX9_entryAt, Cond.instanceMethod yX9_entryAt, Cond.selects RX9 yX9_entryAt yX9_entryAt, Cond.code yX9_entryAt cX9_entryAt 2 (some (.object "FairRents$Entry")), Cond.methodLink RX9 157 yX0_init]
def wsL_law_r17 : List Cond := [Cond.instanceMethod yX0_init, Cond.code yX0_init cX0_init 6 none, Cond.methodLink RX0 3 objectInit, Cond.fieldLink RX0 9 "FairRents$Entry" "home" "I", Cond.fieldLink RX0 15 "FairRents$Entry" "letting" "I", Cond.fieldLink RX0 18 "FairRents$Entry" "day" "I", Cond.fieldLink RX0 21 "FairRents$Entry" "law" "LFairRents$Law;", Cond.fieldLink RX0 31 "FairRents$Entry" "rent" "I", Cond.fieldLink RX0 34 "FairRents$Heads" "middle" "I", Cond.fieldLink RX0 37 "FairRents$Entry" "middle" "I", Cond.fieldLink RX0 38 "FairRents$Heads" "scarcity" "I", Cond.fieldLink RX0 41 "FairRents$Entry" "scarcity" "I", Cond.fieldLink RX0 42 "FairRents$Heads" "repairs" "I", Cond.fieldLink RX0 45 "FairRents$Entry" "repairs" "I", Cond.fieldLink RX0 46 "FairRents$Entry" "stands" "Z", Cond.methodLink RX0 25 yX2_fairRent, Cond.methodLink RL 61 yX10_ask, Cond.instanceMethod yX10_ask, Cond.selects RX10 yX10_ask yX10_ask, Cond.code yX10_ask cX10_ask 3 (some .int), Cond.fieldLink RX10 132 "FairRentsModel" "entries" "I", Cond.methodLink RX10 138 yX10_openOf, Cond.instanceMethod yX10_openOf, Cond.selects RX10 yX10_openOf yX10_openOf]
def wsL_law_r18 : List Cond := [Cond.code yX10_openOf cX10_openOf 4 (some .int), Cond.methodLink RX10 135 yX10_latestOf, Cond.instanceMethod yX10_latestOf, Cond.selects RX10 yX10_latestOf yX10_latestOf, Cond.code yX10_latestOf cX10_latestOf 3 (some .int), Cond.methodLink RL 62 yX9_open, Cond.instanceMethod yX9_open, Cond.selects RX9 yX9_open yX9_open, Cond.code yX9_open cX9_open 2 (some .int), Cond.methodLink RX9 160 Lib.Math.max.name, Cond.methodLink RL 65 yX10_open, Cond.instanceMethod yX10_open, Cond.selects RX10 yX10_open yX10_open, Cond.code yX10_open cX10_open 2 (some .int), Cond.methodLink RL 66 yX9_appeal, Cond.instanceMethod yX9_appeal, Cond.selects RX9 yX9_appeal yX9_appeal, Cond.code yX9_appeal cX9_appeal 4 (some .int), Cond.methodLink RL 69 yX10_appeal, Cond.instanceMethod yX10_appeal, Cond.selects RX10 yX10_appeal yX10_appeal, Cond.code yX10_appeal cX10_appeal 3 (some .int), Cond.methodLink RL 70 yX9_entry, Cond.instanceMethod yX9_entry]
def wsL_law_r19 : List Cond := [Cond.selects RX9 yX9_entry yX9_entry, Cond.code yX9_entry cX9_entry 4 (some .int), Cond.fieldLink RX9 182 "FairRents$Entry" "rent" "I", Cond.fieldLink RX9 185 "FairRents$Entry" "middle" "I", Cond.fieldLink RX9 186 "FairRents$Entry" "scarcity" "I", Cond.fieldLink RX9 187 "FairRents$Entry" "repairs" "I", Cond.methodLink RL 73 yX10_entry, Cond.instanceMethod yX10_entry, Cond.selects RX10 yX10_entry yX10_entry, Cond.code yX10_entry cX10_entry 3 (some .int), Cond.methodLink RL 74 yX9_latest, Cond.instanceMethod yX9_latest, Cond.selects RX9 yX9_latest yX9_latest, Cond.code yX9_latest cX9_latest 2 (some .int), Cond.methodLink RL 77 yX10_latest, Cond.instanceMethod yX10_latest, Cond.selects RX10 yX10_latest yX10_latest, Cond.code yX10_latest cX10_latest 2 (some .int), Cond.methodLink RL 78 yX9_due, Cond.instanceMethod yX9_due, Cond.selects RX9 yX9_due yX9_due, Cond.code yX9_due cX9_due 4 (some .int), Cond.methodLink RX9 188 yX5_covers, Cond.instanceMethod yX5_covers]
def wsL_law_r20 : List Cond := [Cond.selects RX5 yX5_covers yX5_covers, Cond.code yX5_covers cX5_covers 2 (some .boolean), Cond.methodLink RX5 19 yX5_isLet, Cond.methodLink RX9 192 yX9_workDues, Cond.instanceMethod yX9_workDues, Cond.selects RX9 yX9_workDues yX9_workDues, Cond.code yX9_workDues cX9_workDues 10 (some .int), Cond.fieldLink RX9 238 "FairRents$Letting" "rent" "I", Cond.fieldLink RX9 204 "FairRents$Letting" "first" "I", Cond.methodLink RX9 239 yX0_binds, Cond.instanceMethod yX0_binds, Cond.selects RX0 yX0_binds yX0_binds, Cond.code yX0_binds cX0_binds 3 (some .boolean), Cond.methodLink RX9 243 yX0_steppedFrom, Cond.instanceMethod yX0_steppedFrom, Cond.selects RX0 yX0_steppedFrom yX0_steppedFrom, Cond.code yX0_steppedFrom cX0_steppedFrom 4 (some .int), Cond.methodLink RX0 56 Lib.Math.min.name, Cond.methodLink RX0 50 yX4_number, Cond.methodLink RL 81 yX10_due, Cond.instanceMethod yX10_due, Cond.selects RX10 yX10_due yX10_due, Cond.code yX10_due cX10_due 3 (some .int), Cond.methodLink RX10 141 yX10_work]
def wsL_law_r21 : List Cond := [Cond.instanceMethod yX10_work, Cond.selects RX10 yX10_work yX10_work, Cond.code yX10_work cX10_work 7 none, Cond.methodLink RL 82 yX9_pay, Cond.instanceMethod yX9_pay, Cond.selects RX9 yX9_pay yX9_pay, Cond.code yX9_pay cX9_pay 4 (some .int), Cond.constant RX9 196 (100000), Cond.fieldLink RX9 197 "FairRents$Letting" "paid" "I", Cond.constant RX9 200 (1000000), Cond.methodLink RX9 201 yX5_take, Cond.instanceMethod yX5_take, Cond.selects RX5 yX5_take yX5_take, Cond.code yX5_take cX5_take 3 none, Cond.methodLink RL 85 yX10_pay, Cond.instanceMethod yX10_pay, Cond.selects RX10 yX10_pay yX10_pay, Cond.code yX10_pay cX10_pay 4 (some .int), Cond.constant RX10 144 (100000), Cond.constant RX10 148 (1000000), Cond.methodLink RX10 145 yX10_paidBy, Cond.instanceMethod yX10_paidBy, Cond.selects RX10 yX10_paidBy yX10_paidBy, Cond.code yX10_paidBy cX10_paidBy 5 (some .int)]
def wsL_law_r22 : List Cond := [Cond.methodLink RL 86 yX9_owed, Cond.instanceMethod yX9_owed, Cond.selects RX9 yX9_owed yX9_owed, Cond.code yX9_owed cX9_owed 7 (some .int), Cond.methodLink RX9 207 yX5_paidOn, Cond.instanceMethod yX5_paidOn, Cond.selects RX5 yX5_paidOn yX5_paidOn, Cond.code yX5_paidOn cX5_paidOn 2 (some .int), Cond.methodLink RL 89 yX10_owed, Cond.instanceMethod yX10_owed, Cond.selects RX10 yX10_owed yX10_owed, Cond.code yX10_owed cX10_owed 5 (some .int), Cond.methodLink RL 90 yX9_count, Cond.instanceMethod yX9_count, Cond.selects RX9 yX9_count yX9_count, Cond.code yX9_count cX9_count 2 (some .int), Cond.methodLink RX9 210 yX9_homesLet, Cond.instanceMethod yX9_homesLet, Cond.selects RX9 yX9_homesLet yX9_homesLet, Cond.code yX9_homesLet cX9_homesLet 6 (some .int), Cond.methodLink RX9 213 yX9_lawsTold, Cond.instanceMethod yX9_lawsTold, Cond.selects RX9 yX9_lawsTold yX9_lawsTold, Cond.code yX9_lawsTold cX9_lawsTold 6 (some .int)]
def wsL_law_r23 : List Cond := [Cond.methodLink RL 93 yX10_count, Cond.instanceMethod yX10_count, Cond.selects RX10 yX10_count yX10_count, Cond.code yX10_count cX10_count 4 (some .int), Cond.methodLink RL 94 yX9_trace, Cond.instanceMethod yX9_trace, Cond.selects RX9 yX9_trace yX9_trace, Cond.code yX9_trace cX9_trace 1 (some .long), Cond.methodLink RL 98 yX10_trace, Cond.instanceMethod yX10_trace, Cond.selects RX10 yX10_trace yX10_trace, Cond.code yX10_trace cX10_trace 1 (some .long)]
def wsL_law : List Cond := (wsL_law_r1 ++ (wsL_law_r2 ++ (wsL_law_r3 ++ (wsL_law_r4 ++ (wsL_law_r5 ++ (wsL_law_r6 ++ (wsL_law_r7 ++ (wsL_law_r8 ++ (wsL_law_r9 ++ (wsL_law_r10 ++ (wsL_law_r11 ++ (wsL_law_r12 ++ (wsL_law_r13 ++ (wsL_law_r14 ++ (wsL_law_r15 ++ (wsL_law_r16 ++ (wsL_law_r17 ++ (wsL_law_r18 ++ (wsL_law_r19 ++ (wsL_law_r20 ++ (wsL_law_r21 ++ (wsL_law_r22 ++ wsL_law_r23)))))))))))))))))))))) ++ wsX90 ++ wsX100 ++ wsX40 ++ wsX20 ++ wsX30 ++ wsX80 ++ wsX10 ++ wsX70 ++ wsX50 ++ wsX60 ++ wsX00 ++ ([] : List Cond)
abbrev vwCl : List vw_C := [(RX0, TX0, 9), (RX1, TX1, 2), (RX2, TX2, 5), (RX3, TX3, 4), (RX4, TX4, 1), (RX5, TX5, 5), (RX6, TX6, 5), (RX7, TX7, 2), (RX8, TX8, 1), (RX9, TX9, 12), (RX10, TX10, 30)]
end
section
/-! THE LAYER: a world is a partial map from addresses to cells; a method gets the whole map; what it leaves is the map again. -/
abbrev zG : Type := Nat → Option va_E
def zT (cT : Nat → ClassId) : List (ClassId × FieldType) := [(cT 0, .int), (cT 1, .boolean), (cT 2, .object "FairRents$Home"), (cT 3, .object "FairRents$Like"), (cT 4, .object "FairRents$Entry"), (cT 5, .object "FairRents$Law")]
def zP (D : va_G) (G : zG) (H : Heap) : Prop := ∀ (a : Nat) (e : va_E), G a = some e → va_at D vwCl (a, e) H
def zA (G : zG) (sz : Nat) : Nat → Prop := fun q => G q ≠ none ∨ sz ≤ q
def zW (D : va_G) (A : Nat → Prop) (H0 : Heap) (G : zG) (H : Heap) (locs : List Loc) : Prop := zP D G H ∧ (∀ (a : Nat) (e : va_E), G a = some e → A a) ∧ va_S A H0 H locs
def zLeast : Nat → Int32 := fun j => if j = 3 then 1 else if j = 5 then 1 else 0
def zMost : Nat → Int32 := fun j => if j = 0 then 90 else if j = 1 then 90 else if j = 2 then 90 else if j = 3 then 9 else if j = 4 then 20 else if j = 5 then 500 else if j = 6 then 60 else 30
/-- what a start has beside the world: links to private members of nest mates, and the two tables of a law's bounds -/
def zE (A : Nat → Prop) (U : State) : Prop := (va_Nw (.methodLinkNest RX9 42 yX2_init RX9) U ∧ va_Nw (.methodLinkNest RX3 19 yX5_init RX9) U ∧ va_Nw (.methodLinkNest RX4 15 yX9_within RX9) U ∧ va_Nw (.methodLinkNest RX2 74 yX9_within RX9) U ∧ va_Nw (.methodLinkNest RX5 32 yX9_within RX9) U) ∧ (va_AO "FairRents$Home" U ∧ va_AO "FairRents$Like" U ∧ va_AO "FairRents$Entry" U ∧ va_AO "FairRents$Law" U) ∧
  ∃ t1 t2 : Nat, va_Z "FairRents" "LAW_LEAST" "[I" (.ref t1) A U U.heap ∧ va_T .int t1 8 (fun j => .int (zLeast j)) A U U.heap ∧ va_Z "FairRents" "LAW_MOST" "[I" (.ref t2) A U U.heap ∧ va_T .int t2 8 (fun j => .int (zMost j)) A U U.heap
theorem z_one {D : va_G} {G : zG} {H : Heap} {a : Nat} {e : va_E} (h : zP D G H) (he : G a = some e) : va_P D vwCl [(a, e)] H := by
  intro k q hk
  have hz : k < 1 := (List.getElem?_eq_some_iff.mp hk).1
  rw [show k = 0 by omega] at hk
  cases hk
  exact h a e he
theorem z_set {D : va_G} {G : zG} {H H1 : Heap} {a : Nat} {e : va_E} (h : zP D G H) (he : va_at D vwCl (a, e) H1) (oq : ∀ q : Nat, q ≠ a → H1[q]? = H[q]?) : zP D (va_up G a (some e)) H1 := by
  intro b x hb
  by_cases hba : b = a
  · subst hba
    rw [va_up_self] at hb
    cases hb
    exact he
  · rw [va_up_ne _ _ hba] at hb
    exact (h b x hb).kept (oq b hba)
theorem z_none {D : va_G} {G : zG} {H : Heap} (h : zP D G H) {q : Nat} (hq : H.size ≤ q) : G q = none := by
  cases hg : G q with
  | none => rfl
  | some e => exact absurd (h q e hg).lt (Nat.not_lt.mpr hq)
theorem z_push {D : va_G} {G : zG} {H H1 : Heap} {e : va_E} (h : zP D G H) (he : va_at D vwCl (H.size, e) H1) (oq : ∀ q : Nat, q < H.size → H1[q]? = H[q]?) : zP D (va_up G H.size (some e)) H1 := by
  intro b x hb
  by_cases hba : b = H.size
  · subst hba
    rw [va_up_self] at hb
    cases hb
    exact he
  · rw [va_up_ne _ _ hba] at hb
    exact (h b x hb).kept (oq b (h b x hb).lt)
theorem z_ne {G : zG} {a b : Nat} {x y : va_E} (ha : G a = some x) (hb : G b = some y) (h : x ≠ y) : a ≠ b := fun e => h (Option.some.inj (ha.symm.trans (by rw [e]; exact hb)))
theorem z_nef {G : zG} {a b : Nat} {x : va_E} (ha : G a = some x) (hb : G b = none) : a ≠ b := fun e => by rw [e, hb] at ha; cases ha
theorem z_upd_dom {A : Nat → Prop} {G : zG} {a : Nat} {e : va_E} (h : ∀ (a : Nat) (e : va_E), G a = some e → A a) (ha : A a) : ∀ (b : Nat) (x : va_E), va_up G a (some e) b = some x → A b := by
  intro b x hb
  by_cases hba : b = a
  · rw [hba]; exact ha
  · rw [va_up_ne _ _ hba] at hb
    exact h b x hb
section ZR
variable {p : Program} {l : Launch} {e : Env} {R : Room} {s : State} {m : MethodId} {args : Array Value} {below : List Frame} {meth : Method} {c : Code} {H : Heap} {locs : List Loc} {cells slots : Nat} {Q : State → Prop}
variable {cc : ByteArray} {pc : Nat} {ls : Array Slot} {rest : List Value} {D : va_G} {A : Nat → Prop} {a : Nat} {tys : List (ClassId × FieldType)} {G : zG} {H0 : Heap}
theorem z_get (hexec : p.tables.exec = Jvm.exec) (hb : c.code = cc) {own ref C : String} {T : u_T} {N ci index : Nat} {Ts : List Cond} (hts : ∀ w ∈ Ts, w.before args s = true) (hin : ∀ w ∈ u_ws C T N, w ∈ Ts) (hown : s.vm.findClass own = some m.cls) (hK : va_K D vwCl tys s) (hZ : zW D A H0 G H locs) {fs : List Value} (he : G a = some (.inr (ci, fs))) (hc : vwCl[ci]? = some (C, T, N)) (k : Nat) (hk : k < N) (hlink : (Cond.fieldLink own index ref (T k).2.1 (T k).2.2.1).before args s = true) (hsame : ∀ x, s.fieldFound? (T k).1 (T k).2.1 (T k).2.2.1 = some x → s.fieldFound? ref (T k).2.1 (T k).2.2.1 = some x) {v : Value} (hv : fs[k]? = some v) (hdg : decode cc pc = .ok (.getfield index, 3))
    (kk : W p l e R s m args below meth c H locs cells slots Q (F0 m (pc + 3) ls (v :: rest))) : W p l e R s m args below meth c H locs cells slots Q (F0 m pc ls (.ref a :: rest)) :=
  va_get hexec hb hts hin hown hK (z_one hZ.1 he) 0 rfl hc k hk hlink hsame hv hdg kk
theorem z_put (hexec : p.tables.exec = Jvm.exec) (hb : c.code = cc) {own ref C : String} {T : u_T} {N ci index : Nat} {Ts : List Cond} (hts : ∀ w ∈ Ts, w.before args s = true) (hin : ∀ w ∈ u_ws C T N, w ∈ Ts) (ty0 : Nat → FieldType) (hty : ∀ k, k < N → parseFieldDescriptor (T k).2.2.1 = some (ty0 k)) (hnm : ∀ a, a < N → ∀ b, b < N → a ≠ b → (T a).2.1 ≠ (T b).2.1) (hown : s.vm.findClass own = some m.cls) (hK : va_K D vwCl tys s) (hZ : zW D A H0 G H locs) {fs fs' : List Value} (he : G a = some (.inr (ci, fs))) (hc : vwCl[ci]? = some (C, T, N)) (k : Nat) (hk : k < N) (hlink : (Cond.fieldLink own index ref (T k).2.1 (T k).2.2.1).before args s = true) (hsame : ∀ x, s.fieldFound? (T k).1 (T k).2.1 (T k).2.2.1 = some x → s.fieldFound? ref (T k).2.1 (T k).2.2.1 = some x) (hfin : (T k).2.2.2 = false) {ty : FieldType} {v : Value} (hd : parseFieldDescriptor (T k).2.2.1 = some ty) (hn : narrow ty v = v) (hfit : fits ty v = true) (hl : k < fs.length) (hfs : fs.set k v = fs')
    (hdg : decode cc pc = .ok (.putfield index, 3)) (kk : ∀ (H1 : Heap) (locs1 : List Loc), zW D A H0 (va_up G a (some (.inr (ci, fs')))) H1 locs1 → W p l e R s m args below meth c H1 locs1 cells slots Q (F0 m (pc + 3) ls rest)) : W p l e R s m args below meth c H locs cells slots Q (F0 m pc ls (v :: .ref a :: rest)) := by
  subst hfs
  have hap := va_apart (own := own) hts hin ty0 hty hnm hK hc
  obtain ⟨r, h1, cell, q1, q2, q3, q4⟩ := hZ.1 a _ he
  have hr : r = (C, T, N) := Option.some.inj (h1.symm.trans hc)
  subst hr
  obtain ⟨hS, hfc, kC, hkC, hkind⟩ := hK.1 ci _ hc
  obtain ⟨cf, kf, fi, f, hi, hsl⟩ := hS k hk
  have hlay := hts _ (hin _ (u_in_lay hk))
  unfold u_lay at hlay
  rw [if_neg (by rw [hfin]; decide)] at hlay
  have hst := (u_facts hfc hkC (u_lays hts hin hk) hi).1
  have h6 := u_store hfc hkC hkind hlay hi hd hn hfit
  refine W.putK hexec hb (f := f) ⟨hown, hlink, ⟨_, _, _, hsame _ hi⟩, hst⟩ (by rw [q2]; exact h6) q1 q3 (by rw [hsl]; exact k2_hasslot (q4 k hk)) rfl rfl hdg fun H' e1 e2 e3 => ?_
  rw [hsl] at e1 ⊢
  exact kk H' _ ⟨z_set hZ.1 ⟨_, hc, t_OB.to (V := updV (vp_V fs) k v) ⟨_, e1, q2, q3, t_set q4 hap hk v⟩ (fun j _ => vp_updV_set hl v j)⟩ e3, z_upd_dom hZ.2.1 (hZ.2.1 a _ he), hZ.2.2.put e2 e3 (hZ.2.1 a _ he)⟩
theorem z_putF (hexec : p.tables.exec = Jvm.exec) (hb : c.code = cc) {own ref C : String} {T : u_T} {N ci index : Nat} {Ts : List Cond} (hts : ∀ w ∈ Ts, w.before args s = true) (hin : ∀ w ∈ u_ws C T N, w ∈ Ts) (ty0 : Nat → FieldType) (hty : ∀ k, k < N → parseFieldDescriptor (T k).2.2.1 = some (ty0 k)) (hnm : ∀ a, a < N → ∀ b, b < N → a ≠ b → (T a).2.1 ≠ (T b).2.1) (hown : s.vm.findClass own = some m.cls) (hK : va_K D vwCl tys s) (hZ : zW D A H0 G H locs) {fs fs' : List Value} (he : G a = some (.inr (ci, fs))) (hc : vwCl[ci]? = some (C, T, N)) (k : Nat) (hk : k < N) (hlink : (Cond.fieldLink own index ref (T k).2.1 (T k).2.2.1).before args s = true) (hsame : ∀ x, s.fieldFound? (T k).1 (T k).2.1 (T k).2.2.1 = some x → s.fieldFound? ref (T k).2.1 (T k).2.2.1 = some x) (hfin : (T k).2.2.2 = true) (hin2 : meth.name = "<init>") (hdecl : (T k).1 = own) {ty : FieldType} {v : Value} (hd : parseFieldDescriptor (T k).2.2.1 = some ty) (hn : narrow ty v = v) (hfit : fits ty v = true) (hl : k < fs.length) (hfs : fs.set k v = fs')
    (hdg : decode cc pc = .ok (.putfield index, 3)) (kk : ∀ (H1 : Heap) (locs1 : List Loc), zW D A H0 (va_up G a (some (.inr (ci, fs')))) H1 locs1 → W p l e R s m args below meth c H1 locs1 cells slots Q (F0 m (pc + 3) ls rest)) : W p l e R s m args below meth c H locs cells slots Q (F0 m pc ls (v :: .ref a :: rest)) := by
  subst hfs
  have hap := va_apart (own := own) hts hin ty0 hty hnm hK hc
  obtain ⟨r, h1, cell, q1, q2, q3, q4⟩ := hZ.1 a _ he
  have hr : r = (C, T, N) := Option.some.inj (h1.symm.trans hc)
  subst hr
  obtain ⟨hS, hfc, kC, hkC, hkind⟩ := hK.1 ci _ hc
  obtain ⟨cf, kf, fi, f, hi, hsl⟩ := hS k hk
  have hlay := hts _ (hin _ (u_in_lay hk))
  unfold u_lay at hlay
  rw [if_pos hfin] at hlay
  have hst := (u_facts hfc hkC (u_lays hts hin hk) hi).1
  have hcf : m.cls = cf := by
    obtain ⟨_, _, c', _, _, _, -, -, hf', -, -, -, hown2, -⟩ := Cond.laysFinal_spec hlay
    have e1 : c' = cf := by have := hi.symm.trans hf'; simp at this; exact this.1.symm
    rw [hdecl] at hown2
    rw [← e1]; exact Option.some.inj (hown.symm.trans hown2)
  have h6 := u_fits hfc hkC hkind (Or.inr hlay) hi hd hn hfit
  refine W.putFinK hexec hb hown hlink (hsame _ hi) hst hcf hin2 (by rw [q2]; exact h6) q1 q3 (by rw [hsl]; exact k2_hasslot (q4 k hk)) rfl rfl hdg fun H' e1 e2 e3 => ?_
  rw [hsl] at e1 ⊢
  exact kk H' _ ⟨z_set hZ.1 ⟨_, hc, t_OB.to (V := updV (vp_V fs) k v) ⟨_, e1, q2, q3, t_set q4 hap hk v⟩ (fun j _ => vp_updV_set hl v j)⟩ e3, z_upd_dom hZ.2.1 (hZ.2.1 a _ he), hZ.2.2.put e2 e3 (hZ.2.1 a _ he)⟩
theorem z_iald (hexec : p.tables.exec = Jvm.exec) (hb : c.code = cc) {cT : Nat → ClassId} (hK : va_K D vwCl (zT cT) s) (hZ : zW D A H0 G H locs) {n : Nat} {f : Nat → Int32} (ha : G a = some (.inl (cT 0, n, .inl f))) (j : Nat) {i : Int32} (hi : i = nI j) (hj : j < n) (hn : n < 2 ^ 31) (hdg : decode cc pc = .ok (.iaload, 1))
    (kk : W p l e R s m args below meth c H locs cells slots Q (F0 m (pc + 1) ls (.int (f j) :: rest))) : W p l e R s m args below meth c H locs cells slots Q (F0 m pc ls (.int i :: .ref a :: rest)) := by
  subst hi
  refine va_iald hexec hb hK (z_one hZ.1 ha) 0 0 rfl rfl (vp_in_nI hj hn) hdg ?_
  rw [nI_clamp (Nat.lt_trans hj hn)]
  exact kk
theorem z_zald (hexec : p.tables.exec = Jvm.exec) (hb : c.code = cc) {cT : Nat → ClassId} (hK : va_K D vwCl (zT cT) s) (hZ : zW D A H0 G H locs) {n : Nat} {f : Nat → Int32} (ha : G a = some (.inl (cT 1, n, .inl f))) (j : Nat) {i : Int32} (hi : i = nI j) (hj : j < n) (hn : n < 2 ^ 31) (hdg : decode cc pc = .ok (.baload, 1))
    (kk : W p l e R s m args below meth c H locs cells slots Q (F0 m (pc + 1) ls (.int (f j) :: rest))) : W p l e R s m args below meth c H locs cells slots Q (F0 m pc ls (.int i :: .ref a :: rest)) := by
  subst hi
  refine va_zald hexec hb hK (z_one hZ.1 ha) 0 1 rfl rfl (vp_in_nI hj hn) hdg ?_
  rw [nI_clamp (Nat.lt_trans hj hn)]
  exact kk
theorem z_aald (hexec : p.tables.exec = Jvm.exec) (hb : c.code = cc) {cT : Nat → ClassId} (hK : va_K D vwCl (zT cT) s) (hZ : zW D A H0 G H locs) (t0 : Nat) {n : Nat} {C : String} {cA : ClassId} {f : Nat → Option Nat} (ha : G a = some (.inl (cA, n, .inr (.inr (.inr (.inr f)))))) (ht : (zT cT)[t0]? = some (cA, .object C)) (j : Nat) {i : Int32} (hi : i = nI j) (hj : j < n) (hn : n < 2 ^ 31) (hdg : decode cc pc = .ok (.aaload, 1))
    (kk : W p l e R s m args below meth c H locs cells slots Q (F0 m (pc + 1) ls (va_rf (f j) :: rest))) : W p l e R s m args below meth c H locs cells slots Q (F0 m pc ls (.int i :: .ref a :: rest)) := by
  subst hi
  refine va_aldq hexec hb hK (z_one hZ.1 ha) 0 t0 rfl ht (vp_in_nI hj hn) hdg ?_
  rw [nI_clamp (Nat.lt_trans hj hn)]
  exact kk
theorem z_alen (hexec : p.tables.exec = Jvm.exec) (hb : c.code = cc) {cT : Nat → ClassId} (hK : va_K D vwCl (zT cT) s) (hZ : zW D A H0 G H locs) (t0 : Nat) {cA : ClassId} {x : vp_A} (ha : G a = some (.inl (cA, x))) {ty : FieldType} (ht : (zT cT)[t0]? = some (cA, ty)) (hdg : decode cc pc = .ok (.arraylength, 1))
    (kk : W p l e R s m args below meth c H locs cells slots Q (F0 m (pc + 1) ls (.int (nI x.1) :: rest))) : W p l e R s m args below meth c H locs cells slots Q (F0 m pc ls (.ref a :: rest)) :=
  va_alen hexec hb hK (z_one hZ.1 ha) 0 t0 rfl ht rfl hdg kk
theorem z_iast (hexec : p.tables.exec = Jvm.exec) (hb : c.code = cc) {cT : Nat → ClassId} (hK : va_K D vwCl (zT cT) s) (hZ : zW D A H0 G H locs) {n : Nat} {f : Nat → Int32} (ha : G a = some (.inl (cT 0, n, .inl f))) (j : Nat) {i x : Int32} (hi : i = nI j) (hj : j < n) (hn : n < 2 ^ 31) (hdg : decode cc pc = .ok (.iastore, 1))
    (kk : ∀ (H1 : Heap) (locs1 : List Loc), zW D A H0 (va_up G a (some (.inl (cT 0, n, .inl (upd f j x))))) H1 locs1 → W p l e R s m args below meth c H1 locs1 cells slots Q (F0 m (pc + 1) ls rest)) : W p l e R s m args below meth c H locs cells slots Q (F0 m pc ls (.int x :: .int i :: .ref a :: rest)) := by
  have hin : vp_in i n := by rw [hi]; exact vp_in_nI hj hn
  have hc : i.toNatClampNeg = j := by rw [hi]; exact nI_clamp (Nat.lt_trans hj hn)
  refine W.iast hexec hb (hZ.1 a _ ha) ((hK.2 0 _ rfl).1 n (fun j => .int (f j))) (fun q => by cases q) (by show ¬ (i < 0 ∨ (arrV _ _ _).slots.size ≤ _); rw [arrV_size]; exact hin) rfl rfl hdg fun H1 e z oq => ?_
  refine kk H1 _ ⟨z_set hZ.1 ?_ oq, z_upd_dom hZ.2.1 (hZ.2.1 a _ ha), hZ.2.2.put z oq (hZ.2.1 a _ ha)⟩
  show H1[a]? = some (vp_cell _ _)
  rw [e, vp_cell_i, vp_cell_i, arrV_store, hc]
  congr 2
  funext q
  by_cases hq : q = j
  · subst hq
    simp [updV, upd]
  · simp [updV, upd, hq]
theorem z_zast (hexec : p.tables.exec = Jvm.exec) (hb : c.code = cc) {cT : Nat → ClassId} (hK : va_K D vwCl (zT cT) s) (hZ : zW D A H0 G H locs) {n : Nat} {f : Nat → Int32} (ha : G a = some (.inl (cT 1, n, .inl f))) (j : Nat) {i x : Int32} (hi : i = nI j) (hx : vp_nar .boolean x = x) (hj : j < n) (hn : n < 2 ^ 31) (hdg : decode cc pc = .ok (.bastore, 1))
    (kk : ∀ (H1 : Heap) (locs1 : List Loc), zW D A H0 (va_up G a (some (.inl (cT 1, n, .inl (upd f j x))))) H1 locs1 → W p l e R s m args below meth c H1 locs1 cells slots Q (F0 m (pc + 1) ls rest)) : W p l e R s m args below meth c H locs cells slots Q (F0 m pc ls (.int x :: .int i :: .ref a :: rest)) := by
  have hin : vp_in i n := by rw [hi]; exact vp_in_nI hj hn
  have hc : i.toNatClampNeg = j := by rw [hi]; exact nI_clamp (Nat.lt_trans hj hn)
  refine W.zast hexec hb (hZ.1 a _ ha) ((hK.2 1 _ rfl).1 n (fun j => .int (f j))) (fun q => by cases q) (by show ¬ (i < 0 ∨ (arrV _ _ _).slots.size ≤ _); rw [arrV_size]; exact hin) rfl rfl hdg fun H1 e z oq => ?_
  refine kk H1 _ ⟨z_set hZ.1 ?_ oq, z_upd_dom hZ.2.1 (hZ.2.1 a _ ha), hZ.2.2.put z oq (hZ.2.1 a _ ha)⟩
  show H1[a]? = some (vp_cell _ _)
  rw [e, vp_cell_i, vp_cell_i, arrV_store, hc]
  congr 2
  funext q
  by_cases hq : q = j
  · subst hq
    have hx2 : narrow .boolean (.int x) = .int x := by
      have h2 : vp_nar .boolean x = x := hx
      have h3 : narrow .boolean (.int x) = .int (vp_nar .boolean x) := rfl
      rw [h3, h2]
    simp only [updV, upd, if_true]
    exact hx2
  · simp [updV, upd, hq]
theorem z_aast (hexec : p.tables.exec = Jvm.exec) (hb : c.code = cc) {cT : Nat → ClassId} (hK : va_K D vwCl (zT cT) s) (hZ : zW D A H0 G H locs) (t0 ci : Nat) {n v : Nat} {r : vw_C} {cA : ClassId} {vs : List Value} {f : Nat → Option Nat} (ha : G a = some (.inl (cA, n, .inr (.inr (.inr (.inr f)))))) (ht : (zT cT)[t0]? = some (cA, .object r.1)) (hv : G v = some (.inr (ci, vs))) (hc : vwCl[ci]? = some r) (j : Nat) {i : Int32} (hi : i = nI j) (hj : j < n) (hn : n < 2 ^ 31) (hdg : decode cc pc = .ok (.aastore, 1))
    (kk : ∀ (H1 : Heap) (locs1 : List Loc), zW D A H0 (va_up G a (some (.inl (cA, n, .inr (.inr (.inr (.inr (va_up f j (some v))))))))) H1 locs1 → W p l e R s m args below meth c H1 locs1 cells slots Q (F0 m (pc + 1) ls rest)) : W p l e R s m args below meth c H locs cells slots Q (F0 m pc ls (.ref v :: .int i :: .ref a :: rest)) := by
  have hin : vp_in i n := by rw [hi]; exact vp_in_nI hj hn
  have hcl : i.toNatClampNeg = j := by rw [hi]; exact nI_clamp (Nat.lt_trans hj hn)
  have hlt : i.toNatClampNeg < n := Nat.not_le.mp fun q => hin (Or.inr q)
  have h0 : ¬ i < 0 := fun q => hin (Or.inl q)
  obtain ⟨r', hr', cellV, g1, g2, g3, -⟩ := hZ.1 v _ hv
  have hcls := (hK.1 ci r hc).2
  obtain ⟨kA, comp, k1, k2, k3, -⟩ := (hK.2 t0 _ ht).2
  have hcomp : comp = D.1 ci := Option.some.inj (k3.symm.trans hcls.1)
  subst hcomp
  obtain ⟨kC, hkC, -⟩ := hcls.2
  refine W.aast hexec hb (hZ.1 a _ ha) (fun q h => by cases h) (fun h => by cases h) k1 k2 rfl hkC ⟨h0, by show _ < (arrV _ _ _).slots.size; rw [arrV_size]; exact hlt⟩ g1 (fun q h => by rw [g3] at h; cases h) (by rw [g2]; exact hkC) (by rw [g2]; exact va_assign hcls) rfl rfl hdg fun H1 e z oq => ?_
  refine kk H1 _ ⟨z_set hZ.1 ?_ oq, z_upd_dom hZ.2.1 (hZ.2.1 a _ ha), hZ.2.2.put z oq (hZ.2.1 a _ ha)⟩
  show H1[a]? = some (vp_cell _ _)
  rw [e, vp_cell_q, vp_cell_q, arrV_store, hcl]
  congr 2
  funext q
  by_cases hq : q = j
  · subst hq
    simp [updV, va_up, va_rf]
  · simp [updV, va_up, hq]
theorem z_new {c0 : Code} (hexec : p.tables.exec = Jvm.exec) (hb : c0.code = cc) {own C : String} {T : u_T} {N ci index : Nat} {Ts : List Cond} (hts : ∀ w ∈ Ts, w.before args s = true) (hin : ∀ w ∈ u_ws C T N, w ∈ Ts) (ty : Nat → FieldType) (hty : ∀ k, k < N → parseFieldDescriptor (T k).2.2.1 = some (ty k)) (hown : s.vm.findClass own = some m.cls) (hcl : (Cond.classLink own index C).before args s = true) (hinst : (Cond.instantiable C N).before args s = true) (hini : (Cond.initialized C).before args s = true)
    (hK : va_K D vwCl tys s) (hZ : zW D A H0 G H locs) (hA : ∀ q, H0.size ≤ q → A q) (hc : vwCl[ci]? = some (C, T, N)) {fs : List Value} (hfs : ∀ j, j < N → defaultValue (ty j) = vp_V fs j) (hcells : cells + 1 ≤ R.cells) (hslots : slots + N ≤ R.slots) (hdg : decode cc pc = .ok (.new index, 3))
    (kk : ∀ (q : Nat) (H1 : Heap), G q = none → zW D A H0 (va_up G q (some (.inr (ci, fs)))) H1 locs →
      W p l e R s m args below meth c0 H1 locs (cells + 1) (slots + N) Q (F0 m (pc + 3) ls (.ref q :: rest))) : W p l e R s m args below meth c0 H locs cells slots Q (F0 m pc ls rest) := by
  have hKn := hK.1 ci _ hc
  refine W.newcK hexec hb hown hcl hinst hini rfl hdg hcells hslots hKn.2.1 rfl fun H1 kC hkC e1 z1 o1 => ?_
  refine kk H.size H1 (z_none hZ.1 (Nat.le_refl _)) ⟨z_push hZ.1 ⟨_, hc, (u_born ty hts hin hKn hkC e1 hty).to hfs⟩ o1, z_upd_dom hZ.2.1 (hA _ hZ.2.2.1), ⟨Nat.le_trans hZ.2.2.1 (by omega), fun x h1 h2 => (o1 x (Nat.lt_of_lt_of_le h1 hZ.2.2.1)).trans (hZ.2.2.2.1 x h1 h2), hZ.2.2.2.2⟩⟩
theorem z_newi (hexec : p.tables.exec = Jvm.exec) (hb : c.code = cc) {cT : Nat → ClassId} (harr : (Cond.arrayClass .int).before args s = true) (hK : va_K D vwCl (zT cT) s) (hZ : zW D A H0 G H locs) (hA : ∀ q, H0.size ≤ q → A q)
    (N : Nat) {n : Int32} (hi : n = nI N) (hN : N < 100000) (hcells : cells + 1 ≤ R.cells) (hslots : slots + N ≤ R.slots) (hdg : decode cc pc = .ok (.newarray .int, 2))
    (kk : ∀ (q : Nat) (H1 : Heap), G q = none → zW D A H0 (va_up G q (some (.inl (cT 0, N, .inl (fun _ => 0))))) H1 locs →
      W p l e R s m args below meth c H1 locs (cells + 1) (slots + N) Q (F0 m (pc + 2) ls (.ref q :: rest))) : W p l e R s m args below meth c H locs cells slots Q (F0 m pc ls (.int n :: rest)) := by
  subst hi
  refine va_newaK hexec hb (atype := .int) harr rfl hdg rfl (nI_pos (by omega)) (nI_clamp (by omega)) (by show N * 4 ≤ 536870912; omega) hcells hslots rfl fun H1 cA e1 z1 o1 hAr hNm => ?_
  have hcA : cA = cT 0 := by
    have h2 := (hK.2 0 _ (rfl : (zT cT)[0]? = some (cT 0, .int))).2
    exact Option.some.inj (hNm.symm.trans h2)
  subst hcA
  refine kk H.size H1 (z_none hZ.1 (Nat.le_refl _)) ⟨z_push hZ.1 ?_ o1, z_upd_dom hZ.2.1 (hA _ hZ.2.2.1), ⟨Nat.le_trans hZ.2.2.1 (by omega), fun x h1 h2 => (o1 x (Nat.lt_of_lt_of_le h1 hZ.2.2.1)).trans (hZ.2.2.2.1 x h1 h2), hZ.2.2.2.2⟩⟩
  show H1[H.size]? = some (vp_cell _ _)
  rw [vp_cell_i]
  exact e1
theorem z_newz (hexec : p.tables.exec = Jvm.exec) (hb : c.code = cc) {cT : Nat → ClassId} (harr : (Cond.arrayClass .boolean).before args s = true) (hK : va_K D vwCl (zT cT) s) (hZ : zW D A H0 G H locs) (hA : ∀ q, H0.size ≤ q → A q)
    (N : Nat) {n : Int32} (hi : n = nI N) (hN : N < 100000) (hcells : cells + 1 ≤ R.cells) (hslots : slots + N ≤ R.slots) (hdg : decode cc pc = .ok (.newarray .boolean, 2))
    (kk : ∀ (q : Nat) (H1 : Heap), G q = none → zW D A H0 (va_up G q (some (.inl (cT 1, N, .inl (fun _ => 0))))) H1 locs →
      W p l e R s m args below meth c H1 locs (cells + 1) (slots + N) Q (F0 m (pc + 2) ls (.ref q :: rest))) : W p l e R s m args below meth c H locs cells slots Q (F0 m pc ls (.int n :: rest)) := by
  subst hi
  refine va_newaK hexec hb (atype := .boolean) harr rfl hdg rfl (nI_pos (by omega)) (nI_clamp (by omega)) (by show N * 1 ≤ 536870912; omega) hcells hslots rfl fun H1 cA e1 z1 o1 hAr hNm => ?_
  have hcA : cA = cT 1 := by
    have h2 := (hK.2 1 _ (rfl : (zT cT)[1]? = some (cT 1, .boolean))).2
    exact Option.some.inj (hNm.symm.trans h2)
  subst hcA
  refine kk H.size H1 (z_none hZ.1 (Nat.le_refl _)) ⟨z_push hZ.1 ?_ o1, z_upd_dom hZ.2.1 (hA _ hZ.2.2.1), ⟨Nat.le_trans hZ.2.2.1 (by omega), fun x h1 h2 => (o1 x (Nat.lt_of_lt_of_le h1 hZ.2.2.1)).trans (hZ.2.2.2.1 x h1 h2), hZ.2.2.2.2⟩⟩
  show H1[H.size]? = some (vp_cell _ _)
  rw [vp_cell_i]
  exact e1
theorem z_newq (hexec : p.tables.exec = Jvm.exec) (hb : c.code = cc) {cT : Nat → ClassId} {own C : String} {index : Nat} (hown : s.vm.findClass own = some m.cls) (hclink : (Cond.classLink own index C).before args s = true) (hover : va_AO C s) (hK : va_K D vwCl (zT cT) s) (hZ : zW D A H0 G H locs) (hA : ∀ q, H0.size ≤ q → A q)
    (N t0 : Nat) (ht : (zT cT)[t0]? = some (cT t0, .object C)) {n : Int32} (hi : n = nI N) (hN : N < 100000) (hcells : cells + 1 ≤ R.cells) (hslots : slots + N ≤ R.slots) (hdg : decode cc pc = .ok (.anewarray index, 3))
    (kk : ∀ (q : Nat) (H1 : Heap), G q = none → zW D A H0 (va_up G q (some (.inl (cT t0, N, .inr (.inr (.inr (.inr (fun _ => none)))))))) H1 locs →
      W p l e R s m args below meth c H1 locs (cells + 1) (slots + N) Q (F0 m (pc + 3) ls (.ref q :: rest))) : W p l e R s m args below meth c H locs cells slots Q (F0 m pc ls (.int n :: rest)) := by
  have hcl : n.toNatClampNeg = N := by rw [hi]; exact nI_clamp (by omega)
  refine W.anew hexec hb hown hclink (va_AO.use hover) rfl hdg rfl (by rw [hi]; exact nI_pos (by omega)) (by rw [hcl]; omega) hcells (by rw [hcl]; exact hslots) fun cA kA comp f1 f2 f3 f4 => ?_
  rw [hcl]
  generalize hH1 : H.push ({ cls := cA, slots := Array.replicate N .null, vm := .none } : Cell) = H1
  have z1 : H1.size = H.size + 1 := by rw [← hH1, Array.size_push]
  have e1 : H1[H.size]? = some (arrV cA N (fun _ => .null)) := by rw [← hH1, Array.getElem?_push_size, ← arrV_new]
  have o1 : ∀ q : Nat, q < H.size → H1[q]? = H[q]? := fun q hq => by rw [← hH1, Array.getElem?_push, if_neg (Nat.ne_of_lt hq)]
  have hcA : cA = cT t0 := by
    obtain ⟨_, _, _, _, _, k4⟩ := (hK.2 t0 _ ht).2
    exact Option.some.inj (f1.symm.trans k4)
  subst hcA
  refine kk H.size H1 (z_none hZ.1 (Nat.le_refl _)) ⟨z_push hZ.1 ?_ o1, z_upd_dom hZ.2.1 (hA _ hZ.2.2.1), ⟨Nat.le_trans hZ.2.2.1 (by omega), fun x h1 h2 => (o1 x (Nat.lt_of_lt_of_le h1 hZ.2.2.1)).trans (hZ.2.2.2.1 x h1 h2), hZ.2.2.2.2⟩⟩
  show H1[H.size]? = some (vp_cell _ _)
  rw [vp_cell_q]
  exact e1
end ZR
/-- a method's start, its end, its contract -/
def zPre (D : va_G) (cT : Nat → ClassId) (av : List Value) (G : zG) (sz : Nat) : Array Value → State → Prop := fun v U => v = av.toArray ∧ U.heap.size = sz ∧ zP D G U.heap ∧ va_K D vwCl (zT cT) U ∧ zE (zA G sz) U
def zQ (D : va_G) (G : zG) (sz : Nat) (post : Option Value → zG → Prop) : Array Value → State → Outcome → State → Prop := fun _ st oc t => (∃ (r : Option Value) (G' : zG), oc = .returned r ∧ post r G' ∧ zP D G' t.heap ∧ ∀ (a : Nat) (e : va_E), G' a = some e → zA G sz a) ∧ va_F (zA G sz) st t
abbrev zM (l : Launch) (D : va_G) (cT : Nat → ClassId) (y : MethodName) (ws : List Cond) (rm : Room) (av : List Value) (G : zG) (sz : Nat) (post : Option Value → zG → Prop) : Prop := Met l y ws rm (zPre D cT av G sz) (zQ D G sz post) rm.cells rm.slots (zA G sz)
theorem zE.alike {A : Nat → Prop} {u U : State} (hh : u.heap = U.heap) (hW : u.WarmedH U.vm) (h : zE A u) : zE A U := by
  obtain ⟨⟨a1, a2, a3, a4, a5⟩, ⟨o1, o2, o3, o4⟩, t1, t2, b1, b2, b3, b4⟩ := h
  rw [hh] at b1 b2 b3 b4
  exact ⟨⟨a1.warmM hW, a2.warmM hW, a3.warmM hW, a4.warmM hW, a5.warmM hW⟩, ⟨o1.moved hW.alike, o2.moved hW.alike, o3.moved hW.alike, o4.moved hW.alike⟩, t1, t2, b1.moved hW.alike, b2.moved hW.alike, b3.moved hW.alike, b4.moved hW.alike⟩
theorem zE.same {A : Nat → Prop} {u U : State} (hh : u.heap = U.heap) (hv : u.vm = U.vm) (h : zE A u) : zE A U := by
  obtain ⟨⟨a1, a2, a3, a4, a5⟩, ⟨o1, o2, o3, o4⟩, t1, t2, b1, b2, b3, b4⟩ := h
  have ha : u.vm.Alike U.vm := by rw [hv]; exact Vm.Alike.refl U.vm
  rw [hh] at b1 b2 b3 b4
  exact ⟨⟨a1.same rfl hv, a2.same rfl hv, a3.same rfl hv, a4.same rfl hv, a5.same rfl hv⟩, ⟨o1.moved ha, o2.moved ha, o3.moved ha, o4.moved ha⟩, t1, t2, b1.moved ha, b2.moved ha, b3.moved ha, b4.moved ha⟩
theorem zA.sub {D : va_G} {A : Nat → Prop} {G : zG} {H0 H : Heap} {locs : List Loc} (hZ : zW D A H0 G H locs) (hA : ∀ q, H0.size ≤ q → A q) : ∀ q, zA G H.size q → A q := by
  intro q h
  rcases h with h | h
  · cases hg : G q with
    | none => exact absurd hg h
    | some e => exact hZ.2.1 q e hg
  · exact hA q (Nat.le_trans hZ.2.2.1 h)
/-- what beside the world a callee gets -/
theorem zE.pass {D : va_G} {A : Nat → Prop} {G : zG} {s U : State} {H : Heap} {locs : List Loc} (hE : zE A s) (hZ : zW D A s.heap G H locs) (hA : ∀ q, s.heap.size ≤ q → A q) (hU : U.heap = H) (hW : s.WarmedH U.vm) : zE (zA G H.size) U := by
  obtain ⟨⟨a1, a2, a3, a4, a5⟩, ⟨o1, o2, o3, o4⟩, t1, t2, b1, b2, b3, b4⟩ := hE
  have hk := hZ.2.2.2.1
  have hn := zA.sub hZ hA
  refine ⟨⟨a1.warmM hW, a2.warmM hW, a3.warmM hW, a4.warmM hW, a5.warmM hW⟩, ⟨o1.moved hW.alike, o2.moved hW.alike, o3.moved hW.alike, o4.moved hW.alike⟩, t1, t2, ?_, ?_, ?_, ?_⟩
  · rw [hU]; exact ((b1.kept hk).narrow hn).moved hW.alike
  · rw [hU]; exact ((b2.kept hk).narrow hn).moved hW.alike
  · rw [hU]; exact ((b3.kept hk).narrow hn).moved hW.alike
  · rw [hU]; exact ((b4.kept hk).narrow hn).moved hW.alike
theorem zPre.blind {D : va_G} {cT : Nat → ClassId} {av : List Value} {G : zG} {sz : Nat} : FrameBlind (zPre D cT av G sz) := fun a U g mk q => by
  obtain ⟨q0, q1, q2, q3, q4⟩ := q
  exact ⟨q0, q1, q2, va_K.moved (u := U) (U := U.calling g mk a) (Vm.Alike.refl U.vm) q3, q4.same rfl rfl⟩
/-- what holds all through a method -/
def zI (p : Program) (cc : ByteArray) (maxL : Nat) (ret : Option FieldType) (ws : List Cond) (y : MethodName) (D : va_G) (cT : Nat → ClassId) (A : Nat → Prop) (s : State) (m : MethodId) (args : Array Value) (meth : Method) (c : Code) : Prop :=
  p.tables.exec = Jvm.exec ∧ c.code = cc ∧ meth.sig.returnType = ret ∧ c.maxLocals = maxL ∧ (∀ w ∈ ws, w.before args s = true) ∧ s.vm.findClass y.cls = some m.cls ∧ meth.locks = false ∧ meth.name = y.name ∧ va_K D vwCl (zT cT) s ∧ (∀ q, s.heap.size ≤ q → A q) ∧ zE A s
theorem z_start {l : Launch} {D : va_G} {cT : Nat → ClassId} {y : MethodName} {ws ws' : List Cond} {rm : Room} {av : List Value} {G : zG} {sz : Nat} {post : Option Value → zG → Prop} {cc : ByteArray} {maxL : Nat} {ret : Option FieldType} (hy : plainName y.cls = true) (hw : ws = Cond.code y cc maxL ret :: ws') (hn : (lg_sl av).length ≤ maxL)
    (body : ∀ (p : Program) (e : Env) (s : State) (m : MethodId) (below : List Frame) (meth : Method) (c : Code) (ls : Array Slot), zI p cc maxL ret ws y D cT (zA G sz) s m av.toArray meth c → zW D (zA G sz) s.heap G s.heap [] → lv_has ls maxL (lv_args 0 av) →
      W p l e rm s m av.toArray below meth c s.heap [] 0 0 (MQ below (zQ D G sz post) av.toArray s rm.cells rm.slots (zA G sz)) (F0 m 0 ls [])) : zM l D cT y ws rm av G sz post := by
  refine Met.ofW (cc := cc) (maxL := maxL) (ret := ret) hy hw ?_
  intro p e s m args below meth c s₁ B hml hv
  obtain ⟨rfl, hsz, hP, hK, hE⟩ := hv
  have hl := lv_entry av (n := maxL) hn
  rw [lg_entry_eq]
  refine body p e s m below meth c _ ⟨B.exec, B.bytes, B.returns, hml, atoms_spec (ws := ws) B.pre, findClass_of_methodNamed B.named, B.notSynchronized, (name_of_methodNamed B.named B.method).1, hK, fun q h => Or.inr (by rw [← hsz]; exact h), hE⟩ ⟨hP, fun a e h => Or.inl (by rw [h]; exact fun q => by cases q), va_S.rf⟩ hl
section ZC
variable {p : Program} {l : Launch} {e : Env} {R : Room} {s : State} {m : MethodId} {args : Array Value} {below : List Frame} {meth : Method} {c : Code} {H : Heap} {locs : List Loc} {cells slots : Nat} {Q : State → Prop}
variable {cc : ByteArray} {pc : Nat} {ls : Array Slot} {rest st0 : List Value} {D : va_G} {A : Nat → Prop} {cT : Nat → ClassId} {G G0 : zG} {sz : Nat} {post : Option Value → zG → Prop}
theorem z_end {o : Option Value} (hZ : zW D (zA G0 sz) s.heap G H locs) (h : post o G) : ∀ t : State, t.heap = H → s.WarmedH t.vm → zQ D G0 sz post args s (.returned o) t := fun t ht _ => ⟨⟨o, G, rfl, h, by rw [ht]; exact hZ.1, hZ.2.1⟩, hZ.2.2.F ht⟩
theorem z_iret (hx : p.tables.exec = Jvm.exec) (hb : c.code = cc) (hr : meth.sig.returnType = some .int) (hlocks : meth.locks = false) (hZ : zW D (zA G0 sz) s.heap G H locs) {v : Int32} (hdg : decode cc pc = .ok (.ireturn, 1)) (h : post (some (.int v)) G) : W p l e R s m args below meth c H locs cells slots (MQ below (zQ D G0 sz post) args s cells slots (zA G0 sz)) (F0 m pc ls [.int v]) :=
  W.iret hx hb hr (z_end hZ h) hZ.2.2.2.2 hdg hlocks
theorem z_zret (hx : p.tables.exec = Jvm.exec) (hb : c.code = cc) (hr : meth.sig.returnType = some .boolean) (hlocks : meth.locks = false) (hZ : zW D (zA G0 sz) s.heap G H locs) {v : Int32} (hv : v = 0 ∨ v = 1) (hdg : decode cc pc = .ok (.ireturn, 1)) (h : post (some (.int v)) G) : W p l e R s m args below meth c H locs cells slots (MQ below (zQ D G0 sz post) args s cells slots (zA G0 sz)) (F0 m pc ls [.int v]) :=
  W.zret hx hb hr (by rcases hv with rfl | rfl <;> decide) (z_end hZ h) hZ.2.2.2.2 hdg hlocks
theorem z_vret (hx : p.tables.exec = Jvm.exec) (hb : c.code = cc) (hr : meth.sig.returnType = none) (hlocks : meth.locks = false) (hZ : zW D (zA G0 sz) s.heap G H locs) (hdg : decode cc pc = .ok (.return_, 1)) (h : post none G) : W p l e R s m args below meth c H locs cells slots (MQ below (zQ D G0 sz post) args s cells slots (zA G0 sz)) (F0 m pc ls []) :=
  W.vret hx hb hr (z_end hZ h) hZ.2.2.2.2 hdg hlocks
theorem z_lret (hx : p.tables.exec = Jvm.exec) (hb : c.code = cc) (hr : meth.sig.returnType = some .long) (hlocks : meth.locks = false) (hZ : zW D (zA G0 sz) s.heap G H locs) {v : Int64} (hdg : decode cc pc = .ok (.lreturn, 1)) (h : post (some (.long v)) G) : W p l e R s m args below meth c H locs cells slots (MQ below (zQ D G0 sz post) args s cells slots (zA G0 sz)) (F0 m pc ls [.long v]) :=
  W.lret hx hb hr (z_end hZ h) hZ.2.2.2.2 hdg hlocks
/-- behind a call -/
theorem z_call {a : Array Value} {mc ms : Nat} (hr : va_Run p l e R s m args below meth c H locs cells slots mc ms (F0 m pc ls st0) rest (zQ D G H.size post a) (zA G H.size)) (hZ : zW D A s.heap G H locs) (hA : ∀ q, s.heap.size ≤ q → A q)
    (kk : ∀ (r : Option Value) (G' : zG) (H1 : Heap) (locs1 : List Loc), post r G' → zW D A s.heap G' H1 locs1 → W p l e R s m args below meth c H1 locs1 (cells + mc) (slots + ms) Q (F0 m (pc + 3) ls (r.toList ++ rest))) : W p l e R s m args below meth c H locs cells slots Q (F0 m pc ls st0) := by
  intro T hT X
  obtain ⟨v, st₀, t, T', L, h0, X', hL, e1, e2, ⟨⟨r, G', hv, hp, hP', hd⟩, hz, hk⟩, st⟩ := hr T hT X
  cases hv
  have hsub := zA.sub hZ hA
  rw [h0] at hz hk
  obtain ⟨t2, a1, b1⟩ := kk v G' T'.heap (locs ++ L) hp ⟨by rw [e1]; exact hP', fun a e h => hsub a (hd a e h),
    ⟨Nat.le_trans hZ.2.2.1 (by rw [e1]; exact hz), fun q h1 h2 => by rw [e1, hk q (Nat.lt_of_lt_of_le h1 hZ.2.2.1) (fun z => h2 (hsub q z))]; exact hZ.2.2.2.1 q h1 h2, fun q hq => by
      rcases List.mem_append.mp hq with h | h
      · exact hZ.2.2.2.2 q h
      · exact hsub _ (hL q h)⟩⟩ T' rfl X'
  exact ⟨t2, st t2 a1, b1⟩
theorem z_preS {av : List Value} (hK : va_K D vwCl (zT cT) s) (hE : zE A s) (hZ : zW D A s.heap G H locs) (hA : ∀ q, s.heap.size ≤ q → A q) : PreS s H (zPre D cT av G H.size) av :=
  ⟨zPre.blind, fun U hU hW => ⟨rfl, by rw [hU], by rw [hU]; exact hZ.1, va_K.moved hW.alike hK, hE.pass hZ hA hU hW⟩⟩
theorem z_recv {ci : Nat} {q : vw_C} {fs : List Value} {b : Nat} (hK : va_K D vwCl (zT cT) s) (hZ : zW D A s.heap G H locs) (hc : vwCl[ci]? = some q) (he : G b = some (.inr (ci, fs))) : ∃ cell : Cell, H[b]? = some cell ∧ cell.vm.isStatics = false ∧ s.vm.findClass q.1 = some cell.cls := va_recv hK (z_one hZ.1 he) hc (q0 := 0) rfl
theorem z_preV {As : List Value} {ci : Nat} {q : vw_C} {fs : List Value} {b : Nat} (hK : va_K D vwCl (zT cT) s) (hE : zE A s) (hZ : zW D A s.heap G H locs) (hA : ∀ q, s.heap.size ≤ q → A q) (hc : vwCl[ci]? = some q) (he : G b = some (.inr (ci, fs))) : PreV s H q.1 b (zPre D cT (.ref b :: As) G H.size) As :=
  ⟨zPre.blind, z_recv hK hZ hc he, (z_preS hK hE hZ hA).2⟩
end ZC
section ZB
variable {p : Program} {l : Launch} {e : Env} {R : Room} {s : State} {m : MethodId} {args : Array Value} {below : List Frame} {meth : Method} {c : Code} {H : Heap} {locs : List Loc} {cells slots : Nat} {Q : State → Prop}
variable {cc : ByteArray} {pc : Nat} {ls : Array Slot} {rest : List Value}
theorem zb_eq (hexec : p.tables.exec = Jvm.exec) (hb : c.code = cc) {P : Prop} {_ : Decidable P} {off : Int} {tgt : Nat} (hdg : decode cc pc = .ok (.ifCond .eq off, 3)) (ht : (pc : Int) + off = (tgt : Int))
    (kt : ¬ P → W p l e R s m args below meth c H locs cells slots Q (F0 m tgt ls rest)) (kf : P → W p l e R s m args below meth c H locs cells slots Q (F0 m (pc + 3) ls rest)) : W p l e R s m args below meth c H locs cells slots Q (F0 m pc ls (.int (if P then 1 else 0) :: rest)) := by
  refine lv_if_eq hexec hb hdg ht (fun h => kt (fun hp => ?_)) (fun h => ?_)
  · rw [if_pos hp] at h; exact absurd h (by decide)
  · by_cases hp : P
    · exact kf hp
    · exact absurd (if_neg hp) h
theorem zb_ne (hexec : p.tables.exec = Jvm.exec) (hb : c.code = cc) {P : Prop} {_ : Decidable P} {off : Int} {tgt : Nat} (hdg : decode cc pc = .ok (.ifCond .ne off, 3)) (ht : (pc : Int) + off = (tgt : Int))
    (kt : P → W p l e R s m args below meth c H locs cells slots Q (F0 m tgt ls rest)) (kf : ¬ P → W p l e R s m args below meth c H locs cells slots Q (F0 m (pc + 3) ls rest)) : W p l e R s m args below meth c H locs cells slots Q (F0 m pc ls (.int (if P then 1 else 0) :: rest)) := by
  refine lv_if_ne hexec hb hdg ht (fun h => ?_) (fun h => kf (fun hp => ?_))
  · by_cases hp : P
    · exact kt hp
    · exact absurd (if_neg hp) h
  · rw [if_pos hp] at h; exact absurd h (by decide)
end ZB
theorem z_neOO {G : zG} {a b i j : Nat} {x y : List Value} (ha : G a = some (.inr (i, x))) (hb : G b = some (.inr (j, y))) (h : i ≠ j) : a ≠ b := z_ne ha hb (fun q => h (congrArg Prod.fst (Sum.inr.inj q)))
theorem z_neOA {G : zG} {a b i : Nat} {x : List Value} {y : ClassId × vp_A} (ha : G a = some (.inr (i, x))) (hb : G b = some (.inl y)) : a ≠ b := z_ne ha hb (fun q => by cases q)
theorem z_neAO {G : zG} {a b i : Nat} {x : List Value} {y : ClassId × vp_A} (ha : G a = some (.inl y)) (hb : G b = some (.inr (i, x))) : a ≠ b := z_ne ha hb (fun q => by cases q)
theorem z_neLL {G : zG} {a b n k : Nat} {c d : ClassId} {x y : (Nat → Int32) ⊕ (Nat → Int64) ⊕ (Nat → UInt32) ⊕ (Nat → UInt64) ⊕ (Nat → Option Nat)} (ha : G a = some (.inl (c, n, x))) (hb : G b = some (.inl (d, k, y))) (h : n ≠ k) : a ≠ b := z_ne ha hb (fun q => h (congrArg (fun w : ClassId × vp_A => w.2.1) (Sum.inl.inj q)))
theorem z_neIQ {G : zG} {a b n k : Nat} {c d : ClassId} {x : Nat → Int32} {y : Nat → Option Nat} (ha : G a = some (.inl (c, n, .inl x))) (hb : G b = some (.inl (d, k, .inr (.inr (.inr (.inr y)))))) : a ≠ b := z_ne ha hb (fun q => by
  have := congrArg (fun w : ClassId × vp_A => w.2.2) (Sum.inl.inj q)
  cases this)
def zR (d mc ms : Nat) : Room := { frames := d, cells := mc, slots := ms, locals := 40 * d }
end
section
set_option maxRecDepth 20000 in
theorem ggX0_init_X2_fairRent : GoodIn wsX0_init wsX2_fairRent := goodIn_r _ [20, 21, 22, 23, 24, 25, 26, 27, 37, 38, 39, 40, 41] (by decide +kernel) (by decide +kernel)
set_option maxRecDepth 20000 in
theorem gX0_init_X2_fairRent : GoodIn wsX0_init (wsV RX0 25 RX2 yX2_fairRent wsX2_fairRent) := goodIn_app (goodIn_of _ (by decide +kernel)) ggX0_init_X2_fairRent
theorem dX0_init_0 : decode cX0_init 0 = .ok (.aload_n 0, 1) := by decide +kernel
theorem dX0_init_1 : decode cX0_init 1 = .ok (.invokespecial 3, 3) := by decide +kernel
theorem dX0_init_4 : decode cX0_init 4 = .ok (.aload_n 0, 1) := by decide +kernel
theorem dX0_init_5 : decode cX0_init 5 = .ok (.iload_n 1, 1) := by decide +kernel
theorem dX0_init_6 : decode cX0_init 6 = .ok (.putfield 9, 3) := by decide +kernel
theorem dX0_init_9 : decode cX0_init 9 = .ok (.aload_n 0, 1) := by decide +kernel
theorem dX0_init_10 : decode cX0_init 10 = .ok (.iload_n 2, 1) := by decide +kernel
theorem dX0_init_11 : decode cX0_init 11 = .ok (.putfield 15, 3) := by decide +kernel
theorem dX0_init_14 : decode cX0_init 14 = .ok (.aload_n 0, 1) := by decide +kernel
theorem dX0_init_15 : decode cX0_init 15 = .ok (.iload_n 3, 1) := by decide +kernel
theorem dX0_init_16 : decode cX0_init 16 = .ok (.putfield 18, 3) := by decide +kernel
theorem dX0_init_19 : decode cX0_init 19 = .ok (.aload_n 0, 1) := by decide +kernel
theorem dX0_init_20 : decode cX0_init 20 = .ok (.aload 4, 2) := by decide +kernel
theorem dX0_init_22 : decode cX0_init 22 = .ok (.putfield 21, 3) := by decide +kernel
theorem dX0_init_25 : decode cX0_init 25 = .ok (.aload_n 0, 1) := by decide +kernel
theorem dX0_init_26 : decode cX0_init 26 = .ok (.aload 5, 2) := by decide +kernel
theorem dX0_init_28 : decode cX0_init 28 = .ok (.invokevirtual 25, 3) := by decide +kernel
theorem dX0_init_31 : decode cX0_init 31 = .ok (.putfield 31, 3) := by decide +kernel
theorem dX0_init_34 : decode cX0_init 34 = .ok (.aload_n 0, 1) := by decide +kernel
theorem dX0_init_35 : decode cX0_init 35 = .ok (.aload 5, 2) := by decide +kernel
theorem dX0_init_37 : decode cX0_init 37 = .ok (.getfield 34, 3) := by decide +kernel
theorem dX0_init_40 : decode cX0_init 40 = .ok (.putfield 37, 3) := by decide +kernel
theorem dX0_init_43 : decode cX0_init 43 = .ok (.aload_n 0, 1) := by decide +kernel
theorem dX0_init_44 : decode cX0_init 44 = .ok (.aload 5, 2) := by decide +kernel
theorem dX0_init_46 : decode cX0_init 46 = .ok (.getfield 38, 3) := by decide +kernel
theorem dX0_init_49 : decode cX0_init 49 = .ok (.putfield 41, 3) := by decide +kernel
theorem dX0_init_52 : decode cX0_init 52 = .ok (.aload_n 0, 1) := by decide +kernel
theorem dX0_init_53 : decode cX0_init 53 = .ok (.aload 5, 2) := by decide +kernel
theorem dX0_init_55 : decode cX0_init 55 = .ok (.getfield 42, 3) := by decide +kernel
theorem dX0_init_58 : decode cX0_init 58 = .ok (.putfield 45, 3) := by decide +kernel
theorem dX0_init_61 : decode cX0_init 61 = .ok (.aload_n 0, 1) := by decide +kernel
theorem dX0_init_62 : decode cX0_init 62 = .ok (.iconst 1, 1) := by decide +kernel
theorem dX0_init_63 : decode cX0_init 63 = .ok (.putfield 46, 3) := by decide +kernel
theorem dX0_init_66 : decode cX0_init 66 = .ok (.return_, 1) := by decide +kernel
theorem dX0_binds_0 : decode cX0_binds 0 = .ok (.aload_n 0, 1) := by decide +kernel
theorem dX0_binds_1 : decode cX0_binds 1 = .ok (.getfield 46, 3) := by decide +kernel
theorem dX0_binds_4 : decode cX0_binds 4 = .ok (.ifCond .eq 23, 3) := by decide +kernel
theorem dX0_binds_7 : decode cX0_binds 7 = .ok (.aload_n 0, 1) := by decide +kernel
theorem dX0_binds_8 : decode cX0_binds 8 = .ok (.getfield 9, 3) := by decide +kernel
theorem dX0_binds_11 : decode cX0_binds 11 = .ok (.iload_n 1, 1) := by decide +kernel
theorem dX0_binds_12 : decode cX0_binds 12 = .ok (.if_icmp .ne 15, 3) := by decide +kernel
theorem dX0_binds_15 : decode cX0_binds 15 = .ok (.aload_n 0, 1) := by decide +kernel
theorem dX0_binds_16 : decode cX0_binds 16 = .ok (.getfield 15, 3) := by decide +kernel
theorem dX0_binds_19 : decode cX0_binds 19 = .ok (.iload_n 2, 1) := by decide +kernel
theorem dX0_binds_20 : decode cX0_binds 20 = .ok (.if_icmp .ne 7, 3) := by decide +kernel
theorem dX0_binds_23 : decode cX0_binds 23 = .ok (.iconst 1, 1) := by decide +kernel
theorem dX0_binds_24 : decode cX0_binds 24 = .ok (.goto 4, 3) := by decide +kernel
theorem dX0_binds_27 : decode cX0_binds 27 = .ok (.iconst 0, 1) := by decide +kernel
theorem dX0_binds_28 : decode cX0_binds 28 = .ok (.ireturn, 1) := by decide +kernel
set_option maxRecDepth 20000 in
theorem ggX0_steppedFrom_X4_number : GoodIn wsX0_steppedFrom wsX4_number := goodIn_r _ [12, 13, 14, 15, 16, 26] (by decide +kernel) (by decide +kernel)
set_option maxRecDepth 20000 in
theorem gX0_steppedFrom_X4_number : GoodIn wsX0_steppedFrom (wsV RX0 50 RX4 yX4_number wsX4_number) := goodIn_app (goodIn_of _ (by decide +kernel)) ggX0_steppedFrom_X4_number
theorem dX0_steppedFrom_0 : decode cX0_steppedFrom 0 = .ok (.aload_n 0, 1) := by decide +kernel
theorem dX0_steppedFrom_1 : decode cX0_steppedFrom 1 = .ok (.getfield 31, 3) := by decide +kernel
theorem dX0_steppedFrom_4 : decode cX0_steppedFrom 4 = .ok (.iload_n 1, 1) := by decide +kernel
theorem dX0_steppedFrom_5 : decode cX0_steppedFrom 5 = .ok (.if_icmp .gt 8, 3) := by decide +kernel
theorem dX0_steppedFrom_8 : decode cX0_steppedFrom 8 = .ok (.aload_n 0, 1) := by decide +kernel
theorem dX0_steppedFrom_9 : decode cX0_steppedFrom 9 = .ok (.getfield 31, 3) := by decide +kernel
theorem dX0_steppedFrom_12 : decode cX0_steppedFrom 12 = .ok (.ireturn, 1) := by decide +kernel
theorem dX0_steppedFrom_13 : decode cX0_steppedFrom 13 = .ok (.iload_n 2, 1) := by decide +kernel
theorem dX0_steppedFrom_14 : decode cX0_steppedFrom 14 = .ok (.aload_n 0, 1) := by decide +kernel
theorem dX0_steppedFrom_15 : decode cX0_steppedFrom 15 = .ok (.getfield 18, 3) := by decide +kernel
theorem dX0_steppedFrom_18 : decode cX0_steppedFrom 18 = .ok (.isub, 1) := by decide +kernel
theorem dX0_steppedFrom_19 : decode cX0_steppedFrom 19 = .ok (.bipush 10, 2) := by decide +kernel
theorem dX0_steppedFrom_21 : decode cX0_steppedFrom 21 = .ok (.idiv, 1) := by decide +kernel
theorem dX0_steppedFrom_22 : decode cX0_steppedFrom 22 = .ok (.iconst 1, 1) := by decide +kernel
theorem dX0_steppedFrom_23 : decode cX0_steppedFrom 23 = .ok (.iadd, 1) := by decide +kernel
theorem dX0_steppedFrom_24 : decode cX0_steppedFrom 24 = .ok (.istore_n 3, 1) := by decide +kernel
theorem dX0_steppedFrom_25 : decode cX0_steppedFrom 25 = .ok (.aload_n 0, 1) := by decide +kernel
theorem dX0_steppedFrom_26 : decode cX0_steppedFrom 26 = .ok (.getfield 31, 3) := by decide +kernel
theorem dX0_steppedFrom_29 : decode cX0_steppedFrom 29 = .ok (.iload_n 1, 1) := by decide +kernel
theorem dX0_steppedFrom_30 : decode cX0_steppedFrom 30 = .ok (.aload_n 0, 1) := by decide +kernel
theorem dX0_steppedFrom_31 : decode cX0_steppedFrom 31 = .ok (.getfield 21, 3) := by decide +kernel
theorem dX0_steppedFrom_34 : decode cX0_steppedFrom 34 = .ok (.iconst 5, 1) := by decide +kernel
theorem dX0_steppedFrom_35 : decode cX0_steppedFrom 35 = .ok (.invokevirtual 50, 3) := by decide +kernel
theorem dX0_steppedFrom_38 : decode cX0_steppedFrom 38 = .ok (.iload_n 3, 1) := by decide +kernel
theorem dX0_steppedFrom_39 : decode cX0_steppedFrom 39 = .ok (.imul, 1) := by decide +kernel
theorem dX0_steppedFrom_40 : decode cX0_steppedFrom 40 = .ok (.iadd, 1) := by decide +kernel
theorem dX0_steppedFrom_41 : decode cX0_steppedFrom 41 = .ok (.invokestatic 56, 3) := by decide +kernel
theorem dX0_steppedFrom_44 : decode cX0_steppedFrom 44 = .ok (.ireturn, 1) := by decide +kernel
set_option maxRecDepth 20000 in
theorem ggX1_init_X8_init : GoodIn wsX1_init wsX8_init := goodIn_r _ [5, 6, 7, 8, 9, 10, 11, 12, 13, 14] (by decide +kernel) (by decide +kernel)
set_option maxRecDepth 20000 in
theorem gX1_init_X8_init : GoodIn wsX1_init (wsX8_init) := ggX1_init_X8_init
theorem dX1_init_0 : decode cX1_init 0 = .ok (.aload_n 0, 1) := by decide +kernel
theorem dX1_init_1 : decode cX1_init 1 = .ok (.iload_n 1, 1) := by decide +kernel
theorem dX1_init_2 : decode cX1_init 2 = .ok (.invokespecial 1, 3) := by decide +kernel
theorem dX1_init_5 : decode cX1_init 5 = .ok (.aload_n 0, 1) := by decide +kernel
theorem dX1_init_6 : decode cX1_init 6 = .ok (.iload_n 2, 1) := by decide +kernel
theorem dX1_init_7 : decode cX1_init 7 = .ok (.putfield 7, 3) := by decide +kernel
theorem dX1_init_10 : decode cX1_init 10 = .ok (.return_, 1) := by decide +kernel
set_option maxRecDepth 20000 in
theorem ggX1_worth_X8_worth : GoodIn wsX1_worth wsX8_worth := goodIn_r _ [7, 8, 9, 10, 11, 12, 13] (by decide +kernel) (by decide +kernel)
set_option maxRecDepth 20000 in
theorem gX1_worth_X8_worth_s13 : GoodIn wsX1_worth (va_wsSU RX1 13 yX8_worth wsX8_worth) := goodIn_app (goodIn_of _ (by decide +kernel)) ggX1_worth_X8_worth
theorem dX1_worth_0 : decode cX1_worth 0 = .ok (.aload_n 0, 1) := by decide +kernel
theorem dX1_worth_1 : decode cX1_worth 1 = .ok (.invokespecial 13, 3) := by decide +kernel
theorem dX1_worth_4 : decode cX1_worth 4 = .ok (.iconst 2, 1) := by decide +kernel
theorem dX1_worth_5 : decode cX1_worth 5 = .ok (.aload_n 0, 1) := by decide +kernel
theorem dX1_worth_6 : decode cX1_worth 6 = .ok (.getfield 7, 3) := by decide +kernel
theorem dX1_worth_9 : decode cX1_worth 9 = .ok (.imul, 1) := by decide +kernel
theorem dX1_worth_10 : decode cX1_worth 10 = .ok (.isub, 1) := by decide +kernel
theorem dX1_worth_11 : decode cX1_worth 11 = .ok (.ireturn, 1) := by decide +kernel
set_option maxRecDepth 20000 in
theorem ggX1_marks_X8_marks : GoodIn wsX1_marks wsX8_marks := goodIn_r _ [6] (by decide +kernel) (by decide +kernel)
set_option maxRecDepth 20000 in
theorem gX1_marks_X8_marks_s17 : GoodIn wsX1_marks (va_wsSU RX1 17 yX8_marks wsX8_marks) := goodIn_app (goodIn_of _ (by decide +kernel)) ggX1_marks_X8_marks
theorem dX1_marks_0 : decode cX1_marks 0 = .ok (.aload_n 0, 1) := by decide +kernel
theorem dX1_marks_1 : decode cX1_marks 1 = .ok (.invokespecial 17, 3) := by decide +kernel
theorem dX1_marks_4 : decode cX1_marks 4 = .ok (.bipush 10, 2) := by decide +kernel
theorem dX1_marks_6 : decode cX1_marks 6 = .ok (.iadd, 1) := by decide +kernel
theorem dX1_marks_7 : decode cX1_marks 7 = .ok (.ireturn, 1) := by decide +kernel
theorem dX2_init_0 : decode cX2_init 0 = .ok (.aload_n 0, 1) := by decide +kernel
theorem dX2_init_1 : decode cX2_init 1 = .ok (.invokespecial 3, 3) := by decide +kernel
theorem dX2_init_4 : decode cX2_init 4 = .ok (.aload_n 0, 1) := by decide +kernel
theorem dX2_init_5 : decode cX2_init 5 = .ok (.bipush 12, 2) := by decide +kernel
theorem dX2_init_7 : decode cX2_init 7 = .ok (.newarray .int, 2) := by decide +kernel
theorem dX2_init_9 : decode cX2_init 9 = .ok (.putfield 9, 3) := by decide +kernel
theorem dX2_init_12 : decode cX2_init 12 = .ok (.return_, 1) := by decide +kernel
set_option maxRecDepth 20000 in
theorem ggX2_work_X1_worth : GoodIn wsX2_work wsX1_worth := goodIn_r _ [14, 15, 16, 9, 17, 18, 19, 20, 21, 77, 78, 79, 80, 81] (by decide +kernel) (by decide +kernel)
set_option maxRecDepth 20000 in
theorem gX2_work_X1_worth_u25X1 : GoodIn wsX2_work (va_wsO RX2 25 RX1 "FairRents$Plain" ⟨"FairRents$Plain", "worth", "()I"⟩ yX1_worth wsX1_worth) := goodIn_app (goodIn_of _ (by decide +kernel)) ggX2_work_X1_worth
set_option maxRecDepth 20000 in
theorem ggX2_work_X7_worth : GoodIn wsX2_work wsX7_worth := goodIn_r _ [25, 26, 27, 28, 12, 13, 14, 15, 16, 9, 17, 18, 19, 20, 21, 29, 30, 31, 32, 77, 78, 79, 80, 81] (by decide +kernel) (by decide +kernel)
set_option maxRecDepth 20000 in
theorem gX2_work_X7_worth_u25X7 : GoodIn wsX2_work (va_wsO RX2 25 RX7 "FairRents$Plain" ⟨"FairRents$Plain", "worth", "()I"⟩ yX7_worth wsX7_worth) := goodIn_app (goodIn_of _ (by decide +kernel)) ggX2_work_X7_worth
set_option maxRecDepth 20000 in
theorem ggX2_work_X8_worth : GoodIn wsX2_work wsX8_worth := goodIn_r _ [20, 21, 77, 78, 79, 80, 81] (by decide +kernel) (by decide +kernel)
set_option maxRecDepth 20000 in
theorem gX2_work_X8_worth : GoodIn wsX2_work (wsV RX2 25 RX8 yX8_worth wsX8_worth) := goodIn_app (goodIn_of _ (by decide +kernel)) ggX2_work_X8_worth
set_option maxRecDepth 20000 in
theorem ggX2_work_X6_countsFor : GoodIn wsX2_work wsX6_countsFor := goodIn_r _ [39, 40, 41, 42, 82, 83, 84, 85, 86] (by decide +kernel) (by decide +kernel)
set_option maxRecDepth 20000 in
theorem gX2_work_X6_countsFor : GoodIn wsX2_work (wsV RX2 34 RX6 yX6_countsFor wsX6_countsFor) := goodIn_app (goodIn_of _ (by decide +kernel)) ggX2_work_X6_countsFor
set_option maxRecDepth 20000 in
theorem ggX2_work_X4_number : GoodIn wsX2_work wsX4_number := goodIn_r _ [47, 48, 49, 50, 51, 87] (by decide +kernel) (by decide +kernel)
set_option maxRecDepth 20000 in
theorem gX2_work_X4_number : GoodIn wsX2_work (wsV RX2 40 RX4 yX4_number wsX4_number) := goodIn_app (goodIn_of _ (by decide +kernel)) ggX2_work_X4_number
set_option maxRecDepth 20000 in
theorem ggX2_work_X6_putRight : GoodIn wsX2_work wsX6_putRight := goodIn_r _ [55, 56, 57, 82, 83, 84, 85, 86] (by decide +kernel) (by decide +kernel)
set_option maxRecDepth 20000 in
theorem gX2_work_X6_putRight : GoodIn wsX2_work (wsV RX2 46 RX6 yX6_putRight wsX6_putRight) := goodIn_app (goodIn_of _ (by decide +kernel)) ggX2_work_X6_putRight
set_option maxRecDepth 20000 in
theorem ggX2_work_X2_insert : GoodIn wsX2_work wsX2_insert := goodIn_r _ [62, 1, 63, 49, 50, 51, 68, 69, 70, 71, 72] (by decide +kernel) (by decide +kernel)
set_option maxRecDepth 20000 in
theorem gX2_work_X2_insert : GoodIn wsX2_work (wsV RX2 50 RX2 yX2_insert wsX2_insert) := goodIn_app (goodIn_of _ (by decide +kernel)) ggX2_work_X2_insert
set_option maxRecDepth 20000 in
theorem ggX2_work_X2_lowerMiddle : GoodIn wsX2_work wsX2_lowerMiddle := goodIn_r _ [67, 1, 63, 68, 69, 70, 71, 72] (by decide +kernel) (by decide +kernel)
set_option maxRecDepth 20000 in
theorem gX2_work_X2_lowerMiddle : GoodIn wsX2_work (wsV RX2 54 RX2 yX2_lowerMiddle wsX2_lowerMiddle) := goodIn_app (goodIn_of _ (by decide +kernel)) ggX2_work_X2_lowerMiddle
theorem dX2_work_0 : decode cX2_work 0 = .ok (.aload_n 0, 1) := by decide +kernel
theorem dX2_work_1 : decode cX2_work 1 = .ok (.iconst 0, 1) := by decide +kernel
theorem dX2_work_2 : decode cX2_work 2 = .ok (.putfield 15, 3) := by decide +kernel
theorem dX2_work_5 : decode cX2_work 5 = .ok (.aload_n 1, 1) := by decide +kernel
theorem dX2_work_6 : decode cX2_work 6 = .ok (.getfield 19, 3) := by decide +kernel
theorem dX2_work_9 : decode cX2_work 9 = .ok (.invokevirtual 25, 3) := by decide +kernel
theorem dX2_work_12 : decode cX2_work 12 = .ok (.istore 5, 2) := by decide +kernel
theorem dX2_work_14 : decode cX2_work 14 = .ok (.aload_n 3, 1) := by decide +kernel
theorem dX2_work_15 : decode cX2_work 15 = .ok (.astore 6, 2) := by decide +kernel
theorem dX2_work_17 : decode cX2_work 17 = .ok (.aload 6, 2) := by decide +kernel
theorem dX2_work_19 : decode cX2_work 19 = .ok (.arraylength, 1) := by decide +kernel
theorem dX2_work_20 : decode cX2_work 20 = .ok (.istore 7, 2) := by decide +kernel
theorem dX2_work_22 : decode cX2_work 22 = .ok (.iconst 0, 1) := by decide +kernel
theorem dX2_work_23 : decode cX2_work 23 = .ok (.istore 8, 2) := by decide +kernel
theorem dX2_work_25 : decode cX2_work 25 = .ok (.iload 8, 2) := by decide +kernel
theorem dX2_work_27 : decode cX2_work 27 = .ok (.iload 7, 2) := by decide +kernel
theorem dX2_work_29 : decode cX2_work 29 = .ok (.if_icmp .ge 51, 3) := by decide +kernel
theorem dX2_work_32 : decode cX2_work 32 = .ok (.aload 6, 2) := by decide +kernel
theorem dX2_work_34 : decode cX2_work 34 = .ok (.iload 8, 2) := by decide +kernel
theorem dX2_work_36 : decode cX2_work 36 = .ok (.aaload, 1) := by decide +kernel
theorem dX2_work_37 : decode cX2_work 37 = .ok (.astore 9, 2) := by decide +kernel
theorem dX2_work_39 : decode cX2_work 39 = .ok (.aload 9, 2) := by decide +kernel
theorem dX2_work_41 : decode cX2_work 41 = .ok (.ifnull 33, 3) := by decide +kernel
theorem dX2_work_44 : decode cX2_work 44 = .ok (.aload 9, 2) := by decide +kernel
theorem dX2_work_46 : decode cX2_work 46 = .ok (.aload_n 1, 1) := by decide +kernel
theorem dX2_work_47 : decode cX2_work 47 = .ok (.getfield 31, 3) := by decide +kernel
theorem dX2_work_50 : decode cX2_work 50 = .ok (.iload 4, 2) := by decide +kernel
theorem dX2_work_52 : decode cX2_work 52 = .ok (.invokevirtual 34, 3) := by decide +kernel
theorem dX2_work_55 : decode cX2_work 55 = .ok (.ifCond .eq 19, 3) := by decide +kernel
theorem dX2_work_58 : decode cX2_work 58 = .ok (.aload_n 0, 1) := by decide +kernel
theorem dX2_work_59 : decode cX2_work 59 = .ok (.aload 9, 2) := by decide +kernel
theorem dX2_work_61 : decode cX2_work 61 = .ok (.iload 5, 2) := by decide +kernel
theorem dX2_work_63 : decode cX2_work 63 = .ok (.aload_n 2, 1) := by decide +kernel
theorem dX2_work_64 : decode cX2_work 64 = .ok (.iconst 3, 1) := by decide +kernel
theorem dX2_work_65 : decode cX2_work 65 = .ok (.invokevirtual 40, 3) := by decide +kernel
theorem dX2_work_68 : decode cX2_work 68 = .ok (.invokevirtual 46, 3) := by decide +kernel
theorem dX2_work_71 : decode cX2_work 71 = .ok (.invokevirtual 50, 3) := by decide +kernel
theorem dX2_work_74 : decode cX2_work 74 = .ok (.iinc 8 1, 3) := by decide +kernel
theorem dX2_work_77 : decode cX2_work 77 = .ok (.goto (-52), 3) := by decide +kernel
theorem dX2_work_80 : decode cX2_work 80 = .ok (.aload_n 0, 1) := by decide +kernel
theorem dX2_work_81 : decode cX2_work 81 = .ok (.aload_n 0, 1) := by decide +kernel
theorem dX2_work_82 : decode cX2_work 82 = .ok (.invokevirtual 54, 3) := by decide +kernel
theorem dX2_work_85 : decode cX2_work 85 = .ok (.putfield 57, 3) := by decide +kernel
theorem dX2_work_88 : decode cX2_work 88 = .ok (.aload_n 0, 1) := by decide +kernel
theorem dX2_work_89 : decode cX2_work 89 = .ok (.aload_n 0, 1) := by decide +kernel
theorem dX2_work_90 : decode cX2_work 90 = .ok (.getfield 57, 3) := by decide +kernel
theorem dX2_work_93 : decode cX2_work 93 = .ok (.ifCond .ge 7, 3) := by decide +kernel
theorem dX2_work_96 : decode cX2_work 96 = .ok (.iconst 0, 1) := by decide +kernel
theorem dX2_work_97 : decode cX2_work 97 = .ok (.goto 20, 3) := by decide +kernel
theorem dX2_work_100 : decode cX2_work 100 = .ok (.aload_n 2, 1) := by decide +kernel
theorem dX2_work_101 : decode cX2_work 101 = .ok (.aload_n 1, 1) := by decide +kernel
theorem dX2_work_102 : decode cX2_work 102 = .ok (.getfield 31, 3) := by decide +kernel
theorem dX2_work_105 : decode cX2_work 105 = .ok (.invokevirtual 40, 3) := by decide +kernel
theorem dX2_work_108 : decode cX2_work 108 = .ok (.aload_n 0, 1) := by decide +kernel
theorem dX2_work_109 : decode cX2_work 109 = .ok (.getfield 57, 3) := by decide +kernel
theorem dX2_work_112 : decode cX2_work 112 = .ok (.imul, 1) := by decide +kernel
theorem dX2_work_113 : decode cX2_work 113 = .ok (.bipush 100, 2) := by decide +kernel
theorem dX2_work_115 : decode cX2_work 115 = .ok (.idiv, 1) := by decide +kernel
theorem dX2_work_116 : decode cX2_work 116 = .ok (.ineg, 1) := by decide +kernel
theorem dX2_work_117 : decode cX2_work 117 = .ok (.putfield 60, 3) := by decide +kernel
theorem dX2_work_120 : decode cX2_work 120 = .ok (.aload_n 0, 1) := by decide +kernel
theorem dX2_work_121 : decode cX2_work 121 = .ok (.aload_n 2, 1) := by decide +kernel
theorem dX2_work_122 : decode cX2_work 122 = .ok (.iconst 4, 1) := by decide +kernel
theorem dX2_work_123 : decode cX2_work 123 = .ok (.invokevirtual 40, 3) := by decide +kernel
theorem dX2_work_126 : decode cX2_work 126 = .ok (.aload_n 1, 1) := by decide +kernel
theorem dX2_work_127 : decode cX2_work 127 = .ok (.getfield 63, 3) := by decide +kernel
theorem dX2_work_130 : decode cX2_work 130 = .ok (.imul, 1) := by decide +kernel
theorem dX2_work_131 : decode cX2_work 131 = .ok (.ineg, 1) := by decide +kernel
theorem dX2_work_132 : decode cX2_work 132 = .ok (.putfield 66, 3) := by decide +kernel
theorem dX2_work_135 : decode cX2_work 135 = .ok (.return_, 1) := by decide +kernel
theorem dX2_fairRent_0 : decode cX2_fairRent 0 = .ok (.iconst 1, 1) := by decide +kernel
theorem dX2_fairRent_1 : decode cX2_fairRent 1 = .ok (.aload_n 0, 1) := by decide +kernel
theorem dX2_fairRent_2 : decode cX2_fairRent 2 = .ok (.getfield 57, 3) := by decide +kernel
theorem dX2_fairRent_5 : decode cX2_fairRent 5 = .ok (.aload_n 0, 1) := by decide +kernel
theorem dX2_fairRent_6 : decode cX2_fairRent 6 = .ok (.getfield 60, 3) := by decide +kernel
theorem dX2_fairRent_9 : decode cX2_fairRent 9 = .ok (.iadd, 1) := by decide +kernel
theorem dX2_fairRent_10 : decode cX2_fairRent 10 = .ok (.aload_n 0, 1) := by decide +kernel
theorem dX2_fairRent_11 : decode cX2_fairRent 11 = .ok (.getfield 66, 3) := by decide +kernel
theorem dX2_fairRent_14 : decode cX2_fairRent 14 = .ok (.iadd, 1) := by decide +kernel
theorem dX2_fairRent_15 : decode cX2_fairRent 15 = .ok (.invokestatic 69, 3) := by decide +kernel
theorem dX2_fairRent_18 : decode cX2_fairRent 18 = .ok (.ireturn, 1) := by decide +kernel
set_option maxRecDepth 20000 in
theorem ggX2_insert_X9_within : GoodIn wsX2_insert wsX9_within := goodIn_r _ [5] (by decide +kernel) (by decide +kernel)
set_option maxRecDepth 20000 in
theorem gX2_insert_X9_within_n74 : GoodIn wsX2_insert (wsX9_within) := ggX2_insert_X9_within
theorem dX2_insert_0 : decode cX2_insert 0 = .ok (.aload_n 0, 1) := by decide +kernel
theorem dX2_insert_1 : decode cX2_insert 1 = .ok (.getfield 15, 3) := by decide +kernel
theorem dX2_insert_4 : decode cX2_insert 4 = .ok (.iconst 0, 1) := by decide +kernel
theorem dX2_insert_5 : decode cX2_insert 5 = .ok (.aload_n 0, 1) := by decide +kernel
theorem dX2_insert_6 : decode cX2_insert 6 = .ok (.getfield 9, 3) := by decide +kernel
theorem dX2_insert_9 : decode cX2_insert 9 = .ok (.arraylength, 1) := by decide +kernel
theorem dX2_insert_10 : decode cX2_insert 10 = .ok (.iconst 1, 1) := by decide +kernel
theorem dX2_insert_11 : decode cX2_insert 11 = .ok (.isub, 1) := by decide +kernel
theorem dX2_insert_12 : decode cX2_insert 12 = .ok (.invokestatic 74, 3) := by decide +kernel
theorem dX2_insert_15 : decode cX2_insert 15 = .ok (.ifCond .ne 4, 3) := by decide +kernel
theorem dX2_insert_18 : decode cX2_insert 18 = .ok (.return_, 1) := by decide +kernel
theorem dX2_insert_19 : decode cX2_insert 19 = .ok (.aload_n 0, 1) := by decide +kernel
theorem dX2_insert_20 : decode cX2_insert 20 = .ok (.getfield 15, 3) := by decide +kernel
theorem dX2_insert_23 : decode cX2_insert 23 = .ok (.istore_n 2, 1) := by decide +kernel
theorem dX2_insert_24 : decode cX2_insert 24 = .ok (.iload_n 2, 1) := by decide +kernel
theorem dX2_insert_25 : decode cX2_insert 25 = .ok (.ifCond .le 35, 3) := by decide +kernel
theorem dX2_insert_28 : decode cX2_insert 28 = .ok (.aload_n 0, 1) := by decide +kernel
theorem dX2_insert_29 : decode cX2_insert 29 = .ok (.getfield 9, 3) := by decide +kernel
theorem dX2_insert_32 : decode cX2_insert 32 = .ok (.iload_n 2, 1) := by decide +kernel
theorem dX2_insert_33 : decode cX2_insert 33 = .ok (.iconst 1, 1) := by decide +kernel
theorem dX2_insert_34 : decode cX2_insert 34 = .ok (.isub, 1) := by decide +kernel
theorem dX2_insert_35 : decode cX2_insert 35 = .ok (.iaload, 1) := by decide +kernel
theorem dX2_insert_36 : decode cX2_insert 36 = .ok (.iload_n 1, 1) := by decide +kernel
theorem dX2_insert_37 : decode cX2_insert 37 = .ok (.if_icmp .le 23, 3) := by decide +kernel
theorem dX2_insert_40 : decode cX2_insert 40 = .ok (.aload_n 0, 1) := by decide +kernel
theorem dX2_insert_41 : decode cX2_insert 41 = .ok (.getfield 9, 3) := by decide +kernel
theorem dX2_insert_44 : decode cX2_insert 44 = .ok (.iload_n 2, 1) := by decide +kernel
theorem dX2_insert_45 : decode cX2_insert 45 = .ok (.aload_n 0, 1) := by decide +kernel
theorem dX2_insert_46 : decode cX2_insert 46 = .ok (.getfield 9, 3) := by decide +kernel
theorem dX2_insert_49 : decode cX2_insert 49 = .ok (.iload_n 2, 1) := by decide +kernel
theorem dX2_insert_50 : decode cX2_insert 50 = .ok (.iconst 1, 1) := by decide +kernel
theorem dX2_insert_51 : decode cX2_insert 51 = .ok (.isub, 1) := by decide +kernel
theorem dX2_insert_52 : decode cX2_insert 52 = .ok (.iaload, 1) := by decide +kernel
theorem dX2_insert_53 : decode cX2_insert 53 = .ok (.iastore, 1) := by decide +kernel
theorem dX2_insert_54 : decode cX2_insert 54 = .ok (.iinc 2 (-1), 3) := by decide +kernel
theorem dX2_insert_57 : decode cX2_insert 57 = .ok (.goto (-33), 3) := by decide +kernel
theorem dX2_insert_60 : decode cX2_insert 60 = .ok (.aload_n 0, 1) := by decide +kernel
theorem dX2_insert_61 : decode cX2_insert 61 = .ok (.getfield 9, 3) := by decide +kernel
theorem dX2_insert_64 : decode cX2_insert 64 = .ok (.iload_n 2, 1) := by decide +kernel
theorem dX2_insert_65 : decode cX2_insert 65 = .ok (.iload_n 1, 1) := by decide +kernel
theorem dX2_insert_66 : decode cX2_insert 66 = .ok (.iastore, 1) := by decide +kernel
theorem dX2_insert_67 : decode cX2_insert 67 = .ok (.aload_n 0, 1) := by decide +kernel
theorem dX2_insert_68 : decode cX2_insert 68 = .ok (.dup, 1) := by decide +kernel
theorem dX2_insert_69 : decode cX2_insert 69 = .ok (.getfield 15, 3) := by decide +kernel
theorem dX2_insert_72 : decode cX2_insert 72 = .ok (.iconst 1, 1) := by decide +kernel
theorem dX2_insert_73 : decode cX2_insert 73 = .ok (.iadd, 1) := by decide +kernel
theorem dX2_insert_74 : decode cX2_insert 74 = .ok (.putfield 15, 3) := by decide +kernel
theorem dX2_insert_77 : decode cX2_insert 77 = .ok (.return_, 1) := by decide +kernel
theorem dX2_lowerMiddle_0 : decode cX2_lowerMiddle 0 = .ok (.aload_n 0, 1) := by decide +kernel
theorem dX2_lowerMiddle_1 : decode cX2_lowerMiddle 1 = .ok (.getfield 15, 3) := by decide +kernel
theorem dX2_lowerMiddle_4 : decode cX2_lowerMiddle 4 = .ok (.iconst 1, 1) := by decide +kernel
theorem dX2_lowerMiddle_5 : decode cX2_lowerMiddle 5 = .ok (.isub, 1) := by decide +kernel
theorem dX2_lowerMiddle_6 : decode cX2_lowerMiddle 6 = .ok (.iconst 2, 1) := by decide +kernel
theorem dX2_lowerMiddle_7 : decode cX2_lowerMiddle 7 = .ok (.idiv, 1) := by decide +kernel
theorem dX2_lowerMiddle_8 : decode cX2_lowerMiddle 8 = .ok (.istore_n 1, 1) := by decide +kernel
theorem dX2_lowerMiddle_9 : decode cX2_lowerMiddle 9 = .ok (.aload_n 0, 1) := by decide +kernel
theorem dX2_lowerMiddle_10 : decode cX2_lowerMiddle 10 = .ok (.getfield 15, 3) := by decide +kernel
theorem dX2_lowerMiddle_13 : decode cX2_lowerMiddle 13 = .ok (.ifCond .le 21, 3) := by decide +kernel
theorem dX2_lowerMiddle_16 : decode cX2_lowerMiddle 16 = .ok (.iload_n 1, 1) := by decide +kernel
theorem dX2_lowerMiddle_17 : decode cX2_lowerMiddle 17 = .ok (.aload_n 0, 1) := by decide +kernel
theorem dX2_lowerMiddle_18 : decode cX2_lowerMiddle 18 = .ok (.getfield 9, 3) := by decide +kernel
theorem dX2_lowerMiddle_21 : decode cX2_lowerMiddle 21 = .ok (.arraylength, 1) := by decide +kernel
theorem dX2_lowerMiddle_22 : decode cX2_lowerMiddle 22 = .ok (.if_icmp .ge 12, 3) := by decide +kernel
theorem dX2_lowerMiddle_25 : decode cX2_lowerMiddle 25 = .ok (.aload_n 0, 1) := by decide +kernel
theorem dX2_lowerMiddle_26 : decode cX2_lowerMiddle 26 = .ok (.getfield 9, 3) := by decide +kernel
theorem dX2_lowerMiddle_29 : decode cX2_lowerMiddle 29 = .ok (.iload_n 1, 1) := by decide +kernel
theorem dX2_lowerMiddle_30 : decode cX2_lowerMiddle 30 = .ok (.iaload, 1) := by decide +kernel
theorem dX2_lowerMiddle_31 : decode cX2_lowerMiddle 31 = .ok (.goto 4, 3) := by decide +kernel
theorem dX2_lowerMiddle_34 : decode cX2_lowerMiddle 34 = .ok (.iconst 0, 1) := by decide +kernel
theorem dX2_lowerMiddle_35 : decode cX2_lowerMiddle 35 = .ok (.ireturn, 1) := by decide +kernel
set_option maxRecDepth 20000 in
theorem ggX3_init_X5_init : GoodIn wsX3_init wsX5_init := goodIn_r _ [11, 12, 2, 3, 13, 14, 19, 20, 21, 22, 23] (by decide +kernel) (by decide +kernel)
set_option maxRecDepth 20000 in
theorem gX3_init_X5_init_n19 : GoodIn wsX3_init (wsX5_init) := ggX3_init_X5_init
theorem dX3_init_0 : decode cX3_init 0 = .ok (.aload_n 0, 1) := by decide +kernel
theorem dX3_init_1 : decode cX3_init 1 = .ok (.invokespecial 1, 3) := by decide +kernel
theorem dX3_init_4 : decode cX3_init 4 = .ok (.aload_n 0, 1) := by decide +kernel
theorem dX3_init_5 : decode cX3_init 5 = .ok (.aload_n 1, 1) := by decide +kernel
theorem dX3_init_6 : decode cX3_init 6 = .ok (.putfield 7, 3) := by decide +kernel
theorem dX3_init_9 : decode cX3_init 9 = .ok (.aload_n 0, 1) := by decide +kernel
theorem dX3_init_10 : decode cX3_init 10 = .ok (.iload_n 2, 1) := by decide +kernel
theorem dX3_init_11 : decode cX3_init 11 = .ok (.putfield 13, 3) := by decide +kernel
theorem dX3_init_14 : decode cX3_init 14 = .ok (.aload_n 0, 1) := by decide +kernel
theorem dX3_init_15 : decode cX3_init 15 = .ok (.new 17, 3) := by decide +kernel
theorem dX3_init_18 : decode cX3_init 18 = .ok (.dup, 1) := by decide +kernel
theorem dX3_init_19 : decode cX3_init 19 = .ok (.invokespecial 19, 3) := by decide +kernel
theorem dX3_init_22 : decode cX3_init 22 = .ok (.putfield 20, 3) := by decide +kernel
theorem dX3_init_25 : decode cX3_init 25 = .ok (.return_, 1) := by decide +kernel
theorem dX4_init_0 : decode cX4_init 0 = .ok (.aload_n 0, 1) := by decide +kernel
theorem dX4_init_1 : decode cX4_init 1 = .ok (.invokespecial 3, 3) := by decide +kernel
theorem dX4_init_4 : decode cX4_init 4 = .ok (.aload_n 0, 1) := by decide +kernel
theorem dX4_init_5 : decode cX4_init 5 = .ok (.aload_n 1, 1) := by decide +kernel
theorem dX4_init_6 : decode cX4_init 6 = .ok (.putfield 9, 3) := by decide +kernel
theorem dX4_init_9 : decode cX4_init 9 = .ok (.return_, 1) := by decide +kernel
set_option maxRecDepth 20000 in
theorem ggX4_number_X9_within : GoodIn wsX4_number wsX9_within := goodIn_r _ [4] (by decide +kernel) (by decide +kernel)
set_option maxRecDepth 20000 in
theorem gX4_number_X9_within_n15 : GoodIn wsX4_number (wsX9_within) := ggX4_number_X9_within
theorem dX4_number_0 : decode cX4_number 0 = .ok (.iload_n 1, 1) := by decide +kernel
theorem dX4_number_1 : decode cX4_number 1 = .ok (.iconst 0, 1) := by decide +kernel
theorem dX4_number_2 : decode cX4_number 2 = .ok (.aload_n 0, 1) := by decide +kernel
theorem dX4_number_3 : decode cX4_number 3 = .ok (.getfield 9, 3) := by decide +kernel
theorem dX4_number_6 : decode cX4_number 6 = .ok (.arraylength, 1) := by decide +kernel
theorem dX4_number_7 : decode cX4_number 7 = .ok (.iconst 1, 1) := by decide +kernel
theorem dX4_number_8 : decode cX4_number 8 = .ok (.isub, 1) := by decide +kernel
theorem dX4_number_9 : decode cX4_number 9 = .ok (.invokestatic 15, 3) := by decide +kernel
theorem dX4_number_12 : decode cX4_number 12 = .ok (.ifCond .eq 12, 3) := by decide +kernel
theorem dX4_number_15 : decode cX4_number 15 = .ok (.aload_n 0, 1) := by decide +kernel
theorem dX4_number_16 : decode cX4_number 16 = .ok (.getfield 9, 3) := by decide +kernel
theorem dX4_number_19 : decode cX4_number 19 = .ok (.iload_n 1, 1) := by decide +kernel
theorem dX4_number_20 : decode cX4_number 20 = .ok (.iaload, 1) := by decide +kernel
theorem dX4_number_21 : decode cX4_number 21 = .ok (.goto 5, 3) := by decide +kernel
theorem dX4_number_24 : decode cX4_number 24 = .ok (.bipush (-9), 2) := by decide +kernel
theorem dX4_number_26 : decode cX4_number 26 = .ok (.ireturn, 1) := by decide +kernel
theorem dX5_init_0 : decode cX5_init 0 = .ok (.aload_n 0, 1) := by decide +kernel
theorem dX5_init_1 : decode cX5_init 1 = .ok (.invokespecial 3, 3) := by decide +kernel
theorem dX5_init_4 : decode cX5_init 4 = .ok (.aload_n 0, 1) := by decide +kernel
theorem dX5_init_5 : decode cX5_init 5 = .ok (.sipush 301, 3) := by decide +kernel
theorem dX5_init_8 : decode cX5_init 8 = .ok (.newarray .int, 2) := by decide +kernel
theorem dX5_init_10 : decode cX5_init 10 = .ok (.putfield 9, 3) := by decide +kernel
theorem dX5_init_13 : decode cX5_init 13 = .ok (.return_, 1) := by decide +kernel
theorem dX5_isLet_0 : decode cX5_isLet 0 = .ok (.aload_n 0, 1) := by decide +kernel
theorem dX5_isLet_1 : decode cX5_isLet 1 = .ok (.getfield 15, 3) := by decide +kernel
theorem dX5_isLet_4 : decode cX5_isLet 4 = .ok (.ifCond .le 7, 3) := by decide +kernel
theorem dX5_isLet_7 : decode cX5_isLet 7 = .ok (.iconst 1, 1) := by decide +kernel
theorem dX5_isLet_8 : decode cX5_isLet 8 = .ok (.goto 4, 3) := by decide +kernel
theorem dX5_isLet_11 : decode cX5_isLet 11 = .ok (.iconst 0, 1) := by decide +kernel
theorem dX5_isLet_12 : decode cX5_isLet 12 = .ok (.ireturn, 1) := by decide +kernel
set_option maxRecDepth 20000 in
theorem ggX5_covers_X5_isLet : GoodIn wsX5_covers wsX5_isLet := goodIn_r _ [6, 7, 8, 9, 10, 11, 12] (by decide +kernel) (by decide +kernel)
set_option maxRecDepth 20000 in
theorem gX5_covers_X5_isLet : GoodIn wsX5_covers (wsV RX5 19 RX5 yX5_isLet wsX5_isLet) := goodIn_app (goodIn_of _ (by decide +kernel)) ggX5_covers_X5_isLet
theorem dX5_covers_0 : decode cX5_covers 0 = .ok (.aload_n 0, 1) := by decide +kernel
theorem dX5_covers_1 : decode cX5_covers 1 = .ok (.invokevirtual 19, 3) := by decide +kernel
theorem dX5_covers_4 : decode cX5_covers 4 = .ok (.ifCond .eq 15, 3) := by decide +kernel
theorem dX5_covers_7 : decode cX5_covers 7 = .ok (.iload_n 1, 1) := by decide +kernel
theorem dX5_covers_8 : decode cX5_covers 8 = .ok (.aload_n 0, 1) := by decide +kernel
theorem dX5_covers_9 : decode cX5_covers 9 = .ok (.getfield 23, 3) := by decide +kernel
theorem dX5_covers_12 : decode cX5_covers 12 = .ok (.if_icmp .lt 7, 3) := by decide +kernel
theorem dX5_covers_15 : decode cX5_covers 15 = .ok (.iconst 1, 1) := by decide +kernel
theorem dX5_covers_16 : decode cX5_covers 16 = .ok (.goto 4, 3) := by decide +kernel
theorem dX5_covers_19 : decode cX5_covers 19 = .ok (.iconst 0, 1) := by decide +kernel
theorem dX5_covers_20 : decode cX5_covers 20 = .ok (.ireturn, 1) := by decide +kernel
theorem dX5_begin_0 : decode cX5_begin 0 = .ok (.aload_n 0, 1) := by decide +kernel
theorem dX5_begin_1 : decode cX5_begin 1 = .ok (.dup, 1) := by decide +kernel
theorem dX5_begin_2 : decode cX5_begin 2 = .ok (.getfield 15, 3) := by decide +kernel
theorem dX5_begin_5 : decode cX5_begin 5 = .ok (.iconst 1, 1) := by decide +kernel
theorem dX5_begin_6 : decode cX5_begin 6 = .ok (.iadd, 1) := by decide +kernel
theorem dX5_begin_7 : decode cX5_begin 7 = .ok (.putfield 15, 3) := by decide +kernel
theorem dX5_begin_10 : decode cX5_begin 10 = .ok (.aload_n 0, 1) := by decide +kernel
theorem dX5_begin_11 : decode cX5_begin 11 = .ok (.iload_n 1, 1) := by decide +kernel
theorem dX5_begin_12 : decode cX5_begin 12 = .ok (.putfield 23, 3) := by decide +kernel
theorem dX5_begin_15 : decode cX5_begin 15 = .ok (.aload_n 0, 1) := by decide +kernel
theorem dX5_begin_16 : decode cX5_begin 16 = .ok (.iload_n 2, 1) := by decide +kernel
theorem dX5_begin_17 : decode cX5_begin 17 = .ok (.putfield 26, 3) := by decide +kernel
theorem dX5_begin_20 : decode cX5_begin 20 = .ok (.aload_n 0, 1) := by decide +kernel
theorem dX5_begin_21 : decode cX5_begin 21 = .ok (.iconst 0, 1) := by decide +kernel
theorem dX5_begin_22 : decode cX5_begin 22 = .ok (.putfield 29, 3) := by decide +kernel
theorem dX5_begin_25 : decode cX5_begin 25 = .ok (.iconst 0, 1) := by decide +kernel
theorem dX5_begin_26 : decode cX5_begin 26 = .ok (.istore_n 3, 1) := by decide +kernel
theorem dX5_begin_27 : decode cX5_begin 27 = .ok (.iload_n 3, 1) := by decide +kernel
theorem dX5_begin_28 : decode cX5_begin 28 = .ok (.aload_n 0, 1) := by decide +kernel
theorem dX5_begin_29 : decode cX5_begin 29 = .ok (.getfield 9, 3) := by decide +kernel
theorem dX5_begin_32 : decode cX5_begin 32 = .ok (.arraylength, 1) := by decide +kernel
theorem dX5_begin_33 : decode cX5_begin 33 = .ok (.if_icmp .ge 16, 3) := by decide +kernel
theorem dX5_begin_36 : decode cX5_begin 36 = .ok (.aload_n 0, 1) := by decide +kernel
theorem dX5_begin_37 : decode cX5_begin 37 = .ok (.getfield 9, 3) := by decide +kernel
theorem dX5_begin_40 : decode cX5_begin 40 = .ok (.iload_n 3, 1) := by decide +kernel
theorem dX5_begin_41 : decode cX5_begin 41 = .ok (.iconst 0, 1) := by decide +kernel
theorem dX5_begin_42 : decode cX5_begin 42 = .ok (.iastore, 1) := by decide +kernel
theorem dX5_begin_43 : decode cX5_begin 43 = .ok (.iinc 3 1, 3) := by decide +kernel
theorem dX5_begin_46 : decode cX5_begin 46 = .ok (.goto (-19), 3) := by decide +kernel
theorem dX5_begin_49 : decode cX5_begin 49 = .ok (.return_, 1) := by decide +kernel
set_option maxRecDepth 20000 in
theorem ggX5_take_X9_within : GoodIn wsX5_take wsX9_within := goodIn_r _ [5] (by decide +kernel) (by decide +kernel)
set_option maxRecDepth 20000 in
theorem gX5_take_X9_within_n32 : GoodIn wsX5_take (wsX9_within) := ggX5_take_X9_within
theorem dX5_take_0 : decode cX5_take 0 = .ok (.iload_n 1, 1) := by decide +kernel
theorem dX5_take_1 : decode cX5_take 1 = .ok (.iconst 0, 1) := by decide +kernel
theorem dX5_take_2 : decode cX5_take 2 = .ok (.aload_n 0, 1) := by decide +kernel
theorem dX5_take_3 : decode cX5_take 3 = .ok (.getfield 9, 3) := by decide +kernel
theorem dX5_take_6 : decode cX5_take 6 = .ok (.arraylength, 1) := by decide +kernel
theorem dX5_take_7 : decode cX5_take 7 = .ok (.iconst 1, 1) := by decide +kernel
theorem dX5_take_8 : decode cX5_take 8 = .ok (.isub, 1) := by decide +kernel
theorem dX5_take_9 : decode cX5_take 9 = .ok (.invokestatic 32, 3) := by decide +kernel
theorem dX5_take_12 : decode cX5_take 12 = .ok (.ifCond .eq 23, 3) := by decide +kernel
theorem dX5_take_15 : decode cX5_take 15 = .ok (.aload_n 0, 1) := by decide +kernel
theorem dX5_take_16 : decode cX5_take 16 = .ok (.getfield 9, 3) := by decide +kernel
theorem dX5_take_19 : decode cX5_take 19 = .ok (.iload_n 1, 1) := by decide +kernel
theorem dX5_take_20 : decode cX5_take 20 = .ok (.dup2, 1) := by decide +kernel
theorem dX5_take_21 : decode cX5_take 21 = .ok (.iaload, 1) := by decide +kernel
theorem dX5_take_22 : decode cX5_take 22 = .ok (.iload_n 2, 1) := by decide +kernel
theorem dX5_take_23 : decode cX5_take 23 = .ok (.iadd, 1) := by decide +kernel
theorem dX5_take_24 : decode cX5_take 24 = .ok (.iastore, 1) := by decide +kernel
theorem dX5_take_25 : decode cX5_take 25 = .ok (.aload_n 0, 1) := by decide +kernel
theorem dX5_take_26 : decode cX5_take 26 = .ok (.dup, 1) := by decide +kernel
theorem dX5_take_27 : decode cX5_take 27 = .ok (.getfield 29, 3) := by decide +kernel
theorem dX5_take_30 : decode cX5_take 30 = .ok (.iload_n 2, 1) := by decide +kernel
theorem dX5_take_31 : decode cX5_take 31 = .ok (.iadd, 1) := by decide +kernel
theorem dX5_take_32 : decode cX5_take 32 = .ok (.putfield 29, 3) := by decide +kernel
theorem dX5_take_35 : decode cX5_take 35 = .ok (.return_, 1) := by decide +kernel
set_option maxRecDepth 20000 in
theorem ggX5_paidOn_X9_within : GoodIn wsX5_paidOn wsX9_within := goodIn_r _ [4] (by decide +kernel) (by decide +kernel)
set_option maxRecDepth 20000 in
theorem gX5_paidOn_X9_within_n32 : GoodIn wsX5_paidOn (wsX9_within) := ggX5_paidOn_X9_within
theorem dX5_paidOn_0 : decode cX5_paidOn 0 = .ok (.iload_n 1, 1) := by decide +kernel
theorem dX5_paidOn_1 : decode cX5_paidOn 1 = .ok (.iconst 0, 1) := by decide +kernel
theorem dX5_paidOn_2 : decode cX5_paidOn 2 = .ok (.aload_n 0, 1) := by decide +kernel
theorem dX5_paidOn_3 : decode cX5_paidOn 3 = .ok (.getfield 9, 3) := by decide +kernel
theorem dX5_paidOn_6 : decode cX5_paidOn 6 = .ok (.arraylength, 1) := by decide +kernel
theorem dX5_paidOn_7 : decode cX5_paidOn 7 = .ok (.iconst 1, 1) := by decide +kernel
theorem dX5_paidOn_8 : decode cX5_paidOn 8 = .ok (.isub, 1) := by decide +kernel
theorem dX5_paidOn_9 : decode cX5_paidOn 9 = .ok (.invokestatic 32, 3) := by decide +kernel
theorem dX5_paidOn_12 : decode cX5_paidOn 12 = .ok (.ifCond .eq 12, 3) := by decide +kernel
theorem dX5_paidOn_15 : decode cX5_paidOn 15 = .ok (.aload_n 0, 1) := by decide +kernel
theorem dX5_paidOn_16 : decode cX5_paidOn 16 = .ok (.getfield 9, 3) := by decide +kernel
theorem dX5_paidOn_19 : decode cX5_paidOn 19 = .ok (.iload_n 1, 1) := by decide +kernel
theorem dX5_paidOn_20 : decode cX5_paidOn 20 = .ok (.iaload, 1) := by decide +kernel
theorem dX5_paidOn_21 : decode cX5_paidOn 21 = .ok (.goto 4, 3) := by decide +kernel
theorem dX5_paidOn_24 : decode cX5_paidOn 24 = .ok (.iconst 0, 1) := by decide +kernel
theorem dX5_paidOn_25 : decode cX5_paidOn 25 = .ok (.ireturn, 1) := by decide +kernel
theorem dX6_init_0 : decode cX6_init 0 = .ok (.aload_n 0, 1) := by decide +kernel
theorem dX6_init_1 : decode cX6_init 1 = .ok (.invokespecial 1, 3) := by decide +kernel
theorem dX6_init_4 : decode cX6_init 4 = .ok (.aload_n 0, 1) := by decide +kernel
theorem dX6_init_5 : decode cX6_init 5 = .ok (.iload_n 1, 1) := by decide +kernel
theorem dX6_init_6 : decode cX6_init 6 = .ok (.putfield 7, 3) := by decide +kernel
theorem dX6_init_9 : decode cX6_init 9 = .ok (.aload_n 0, 1) := by decide +kernel
theorem dX6_init_10 : decode cX6_init 10 = .ok (.iload_n 2, 1) := by decide +kernel
theorem dX6_init_11 : decode cX6_init 11 = .ok (.putfield 13, 3) := by decide +kernel
theorem dX6_init_14 : decode cX6_init 14 = .ok (.aload_n 0, 1) := by decide +kernel
theorem dX6_init_15 : decode cX6_init 15 = .ok (.iload_n 3, 1) := by decide +kernel
theorem dX6_init_16 : decode cX6_init 16 = .ok (.putfield 16, 3) := by decide +kernel
theorem dX6_init_19 : decode cX6_init 19 = .ok (.aload_n 0, 1) := by decide +kernel
theorem dX6_init_20 : decode cX6_init 20 = .ok (.iload 4, 2) := by decide +kernel
theorem dX6_init_22 : decode cX6_init 22 = .ok (.putfield 19, 3) := by decide +kernel
theorem dX6_init_25 : decode cX6_init 25 = .ok (.return_, 1) := by decide +kernel
theorem dX6_countsFor_0 : decode cX6_countsFor 0 = .ok (.aload_n 0, 1) := by decide +kernel
theorem dX6_countsFor_1 : decode cX6_countsFor 1 = .ok (.getfield 22, 3) := by decide +kernel
theorem dX6_countsFor_4 : decode cX6_countsFor 4 = .ok (.ifCond .ne 23, 3) := by decide +kernel
theorem dX6_countsFor_7 : decode cX6_countsFor 7 = .ok (.aload_n 0, 1) := by decide +kernel
theorem dX6_countsFor_8 : decode cX6_countsFor 8 = .ok (.getfield 7, 3) := by decide +kernel
theorem dX6_countsFor_11 : decode cX6_countsFor 11 = .ok (.iload_n 1, 1) := by decide +kernel
theorem dX6_countsFor_12 : decode cX6_countsFor 12 = .ok (.if_icmp .ne 15, 3) := by decide +kernel
theorem dX6_countsFor_15 : decode cX6_countsFor 15 = .ok (.aload_n 0, 1) := by decide +kernel
theorem dX6_countsFor_16 : decode cX6_countsFor 16 = .ok (.getfield 19, 3) := by decide +kernel
theorem dX6_countsFor_19 : decode cX6_countsFor 19 = .ok (.iload_n 2, 1) := by decide +kernel
theorem dX6_countsFor_20 : decode cX6_countsFor 20 = .ok (.if_icmp .gt 7, 3) := by decide +kernel
theorem dX6_countsFor_23 : decode cX6_countsFor 23 = .ok (.iconst 1, 1) := by decide +kernel
theorem dX6_countsFor_24 : decode cX6_countsFor 24 = .ok (.goto 4, 3) := by decide +kernel
theorem dX6_countsFor_27 : decode cX6_countsFor 27 = .ok (.iconst 0, 1) := by decide +kernel
theorem dX6_countsFor_28 : decode cX6_countsFor 28 = .ok (.ireturn, 1) := by decide +kernel
theorem dX6_putRight_0 : decode cX6_putRight 0 = .ok (.aload_n 0, 1) := by decide +kernel
theorem dX6_putRight_1 : decode cX6_putRight 1 = .ok (.getfield 16, 3) := by decide +kernel
theorem dX6_putRight_4 : decode cX6_putRight 4 = .ok (.iload_n 2, 1) := by decide +kernel
theorem dX6_putRight_5 : decode cX6_putRight 5 = .ok (.iload_n 1, 1) := by decide +kernel
theorem dX6_putRight_6 : decode cX6_putRight 6 = .ok (.aload_n 0, 1) := by decide +kernel
theorem dX6_putRight_7 : decode cX6_putRight 7 = .ok (.getfield 13, 3) := by decide +kernel
theorem dX6_putRight_10 : decode cX6_putRight 10 = .ok (.isub, 1) := by decide +kernel
theorem dX6_putRight_11 : decode cX6_putRight 11 = .ok (.imul, 1) := by decide +kernel
theorem dX6_putRight_12 : decode cX6_putRight 12 = .ok (.iadd, 1) := by decide +kernel
theorem dX6_putRight_13 : decode cX6_putRight 13 = .ok (.ireturn, 1) := by decide +kernel
set_option maxRecDepth 20000 in
theorem ggX7_init_X1_init : GoodIn wsX7_init wsX1_init := goodIn_r _ [4, 5, 6, 7, 8, 9, 10, 11, 12, 13, 14, 15, 16, 17, 18] (by decide +kernel) (by decide +kernel)
set_option maxRecDepth 20000 in
theorem gX7_init_X1_init : GoodIn wsX7_init (wsX1_init) := ggX7_init_X1_init
theorem dX7_init_0 : decode cX7_init 0 = .ok (.aload_n 0, 1) := by decide +kernel
theorem dX7_init_1 : decode cX7_init 1 = .ok (.iload_n 1, 1) := by decide +kernel
theorem dX7_init_2 : decode cX7_init 2 = .ok (.iload_n 2, 1) := by decide +kernel
theorem dX7_init_3 : decode cX7_init 3 = .ok (.invokespecial 1, 3) := by decide +kernel
theorem dX7_init_6 : decode cX7_init 6 = .ok (.return_, 1) := by decide +kernel
set_option maxRecDepth 20000 in
theorem ggX7_worth_X1_worth : GoodIn wsX7_worth wsX1_worth := goodIn_r _ [6, 7, 8, 9, 10, 11, 12, 13, 14, 19, 20, 21, 22, 23] (by decide +kernel) (by decide +kernel)
set_option maxRecDepth 20000 in
theorem gX7_worth_X1_worth_s7 : GoodIn wsX7_worth (va_wsSU RX7 7 yX1_worth wsX1_worth) := goodIn_app (goodIn_of _ (by decide +kernel)) ggX7_worth_X1_worth
set_option maxRecDepth 20000 in
theorem ggX7_worth_J9_floorDiv_7cf53 : GoodIn wsX7_worth wsJ9_floorDiv_7cf53 := goodIn_r _ [18] (by decide +kernel) (by decide +kernel)
set_option maxRecDepth 20000 in
theorem gX7_worth_J9_floorDiv_7cf53 : GoodIn wsX7_worth (va_wsS RX7 11 yJ9_floorDiv_7cf53 wsJ9_floorDiv_7cf53) := goodIn_app (goodIn_of _ (by decide +kernel)) ggX7_worth_J9_floorDiv_7cf53
theorem dX7_worth_0 : decode cX7_worth 0 = .ok (.aload_n 0, 1) := by decide +kernel
theorem dX7_worth_1 : decode cX7_worth 1 = .ok (.invokespecial 7, 3) := by decide +kernel
theorem dX7_worth_4 : decode cX7_worth 4 = .ok (.istore_n 1, 1) := by decide +kernel
theorem dX7_worth_5 : decode cX7_worth 5 = .ok (.iload_n 1, 1) := by decide +kernel
theorem dX7_worth_6 : decode cX7_worth 6 = .ok (.iload_n 1, 1) := by decide +kernel
theorem dX7_worth_7 : decode cX7_worth 7 = .ok (.iconst 4, 1) := by decide +kernel
theorem dX7_worth_8 : decode cX7_worth 8 = .ok (.invokestatic 11, 3) := by decide +kernel
theorem dX7_worth_11 : decode cX7_worth 11 = .ok (.isub, 1) := by decide +kernel
theorem dX7_worth_12 : decode cX7_worth 12 = .ok (.ireturn, 1) := by decide +kernel
set_option maxRecDepth 20000 in
theorem ggX7_marks_X1_marks : GoodIn wsX7_marks wsX1_marks := goodIn_r _ [6, 7, 8, 9, 10, 11, 12] (by decide +kernel) (by decide +kernel)
set_option maxRecDepth 20000 in
theorem gX7_marks_X1_marks_s17 : GoodIn wsX7_marks (va_wsSU RX7 17 yX1_marks wsX1_marks) := goodIn_app (goodIn_of _ (by decide +kernel)) ggX7_marks_X1_marks
theorem dX7_marks_0 : decode cX7_marks 0 = .ok (.aload_n 0, 1) := by decide +kernel
theorem dX7_marks_1 : decode cX7_marks 1 = .ok (.invokespecial 17, 3) := by decide +kernel
theorem dX7_marks_4 : decode cX7_marks 4 = .ok (.bipush 100, 2) := by decide +kernel
theorem dX7_marks_6 : decode cX7_marks 6 = .ok (.iadd, 1) := by decide +kernel
theorem dX7_marks_7 : decode cX7_marks 7 = .ok (.ireturn, 1) := by decide +kernel
theorem dX8_init_0 : decode cX8_init 0 = .ok (.aload_n 0, 1) := by decide +kernel
theorem dX8_init_1 : decode cX8_init 1 = .ok (.invokespecial 1, 3) := by decide +kernel
theorem dX8_init_4 : decode cX8_init 4 = .ok (.aload_n 0, 1) := by decide +kernel
theorem dX8_init_5 : decode cX8_init 5 = .ok (.iload_n 1, 1) := by decide +kernel
theorem dX8_init_6 : decode cX8_init 6 = .ok (.putfield 7, 3) := by decide +kernel
theorem dX8_init_9 : decode cX8_init 9 = .ok (.return_, 1) := by decide +kernel
theorem dX8_worth_0 : decode cX8_worth 0 = .ok (.bipush 10, 2) := by decide +kernel
theorem dX8_worth_2 : decode cX8_worth 2 = .ok (.aload_n 0, 1) := by decide +kernel
theorem dX8_worth_3 : decode cX8_worth 3 = .ok (.getfield 7, 3) := by decide +kernel
theorem dX8_worth_6 : decode cX8_worth 6 = .ok (.imul, 1) := by decide +kernel
theorem dX8_worth_7 : decode cX8_worth 7 = .ok (.ireturn, 1) := by decide +kernel
theorem dX8_marks_0 : decode cX8_marks 0 = .ok (.iconst 1, 1) := by decide +kernel
theorem dX8_marks_1 : decode cX8_marks 1 = .ok (.ireturn, 1) := by decide +kernel
set_option maxRecDepth 20000 in
theorem ggX9_init_X4_init : GoodIn wsX9_init wsX4_init := goodIn_r _ [23, 24, 2, 3, 25, 42] (by decide +kernel) (by decide +kernel)
set_option maxRecDepth 20000 in
theorem gX9_init_X4_init : GoodIn wsX9_init (wsX4_init) := ggX9_init_X4_init
set_option maxRecDepth 20000 in
theorem ggX9_init_X2_init : GoodIn wsX9_init wsX2_init := goodIn_r _ [27, 28, 2, 3, 14, 29, 43, 44, 45, 46, 47] (by decide +kernel) (by decide +kernel)
set_option maxRecDepth 20000 in
theorem gX9_init_X2_init_n42 : GoodIn wsX9_init (wsX2_init) := ggX9_init_X2_init
theorem dX9_init_0 : decode cX9_init 0 = .ok (.aload_n 0, 1) := by decide +kernel
theorem dX9_init_1 : decode cX9_init 1 = .ok (.invokespecial 1, 3) := by decide +kernel
theorem dX9_init_4 : decode cX9_init 4 = .ok (.aload_n 0, 1) := by decide +kernel
theorem dX9_init_5 : decode cX9_init 5 = .ok (.bipush 8, 2) := by decide +kernel
theorem dX9_init_7 : decode cX9_init 7 = .ok (.anewarray 9, 3) := by decide +kernel
theorem dX9_init_10 : decode cX9_init 10 = .ok (.putfield 11, 3) := by decide +kernel
theorem dX9_init_13 : decode cX9_init 13 = .ok (.aload_n 0, 1) := by decide +kernel
theorem dX9_init_14 : decode cX9_init 14 = .ok (.bipush 12, 2) := by decide +kernel
theorem dX9_init_16 : decode cX9_init 16 = .ok (.anewarray 15, 3) := by decide +kernel
theorem dX9_init_19 : decode cX9_init 19 = .ok (.putfield 17, 3) := by decide +kernel
theorem dX9_init_22 : decode cX9_init 22 = .ok (.aload_n 0, 1) := by decide +kernel
theorem dX9_init_23 : decode cX9_init 23 = .ok (.bipush 20, 2) := by decide +kernel
theorem dX9_init_25 : decode cX9_init 25 = .ok (.anewarray 21, 3) := by decide +kernel
theorem dX9_init_28 : decode cX9_init 28 = .ok (.putfield 23, 3) := by decide +kernel
theorem dX9_init_31 : decode cX9_init 31 = .ok (.aload_n 0, 1) := by decide +kernel
theorem dX9_init_32 : decode cX9_init 32 = .ok (.bipush 31, 2) := by decide +kernel
theorem dX9_init_34 : decode cX9_init 34 = .ok (.anewarray 27, 3) := by decide +kernel
theorem dX9_init_37 : decode cX9_init 37 = .ok (.putfield 29, 3) := by decide +kernel
theorem dX9_init_40 : decode cX9_init 40 = .ok (.aload_n 0, 1) := by decide +kernel
theorem dX9_init_41 : decode cX9_init 41 = .ok (.new 27, 3) := by decide +kernel
theorem dX9_init_44 : decode cX9_init 44 = .ok (.dup, 1) := by decide +kernel
theorem dX9_init_45 : decode cX9_init 45 = .ok (.bipush 8, 2) := by decide +kernel
theorem dX9_init_47 : decode cX9_init 47 = .ok (.newarray .int, 2) := by decide +kernel
theorem dX9_init_49 : decode cX9_init 49 = .ok (.dup, 1) := by decide +kernel
theorem dX9_init_50 : decode cX9_init 50 = .ok (.iconst 0, 1) := by decide +kernel
theorem dX9_init_51 : decode cX9_init 51 = .ok (.iconst 0, 1) := by decide +kernel
theorem dX9_init_52 : decode cX9_init 52 = .ok (.iastore, 1) := by decide +kernel
theorem dX9_init_53 : decode cX9_init 53 = .ok (.dup, 1) := by decide +kernel
theorem dX9_init_54 : decode cX9_init 54 = .ok (.iconst 1, 1) := by decide +kernel
theorem dX9_init_55 : decode cX9_init 55 = .ok (.iconst 0, 1) := by decide +kernel
theorem dX9_init_56 : decode cX9_init 56 = .ok (.iastore, 1) := by decide +kernel
theorem dX9_init_57 : decode cX9_init 57 = .ok (.dup, 1) := by decide +kernel
theorem dX9_init_58 : decode cX9_init 58 = .ok (.iconst 2, 1) := by decide +kernel
theorem dX9_init_59 : decode cX9_init 59 = .ok (.iconst 0, 1) := by decide +kernel
theorem dX9_init_60 : decode cX9_init 60 = .ok (.iastore, 1) := by decide +kernel
theorem dX9_init_61 : decode cX9_init 61 = .ok (.dup, 1) := by decide +kernel
theorem dX9_init_62 : decode cX9_init 62 = .ok (.iconst 3, 1) := by decide +kernel
theorem dX9_init_63 : decode cX9_init 63 = .ok (.iconst 1, 1) := by decide +kernel
theorem dX9_init_64 : decode cX9_init 64 = .ok (.iastore, 1) := by decide +kernel
theorem dX9_init_65 : decode cX9_init 65 = .ok (.dup, 1) := by decide +kernel
theorem dX9_init_66 : decode cX9_init 66 = .ok (.iconst 4, 1) := by decide +kernel
theorem dX9_init_67 : decode cX9_init 67 = .ok (.iconst 0, 1) := by decide +kernel
theorem dX9_init_68 : decode cX9_init 68 = .ok (.iastore, 1) := by decide +kernel
theorem dX9_init_69 : decode cX9_init 69 = .ok (.dup, 1) := by decide +kernel
theorem dX9_init_70 : decode cX9_init 70 = .ok (.iconst 5, 1) := by decide +kernel
theorem dX9_init_71 : decode cX9_init 71 = .ok (.sipush 500, 3) := by decide +kernel
theorem dX9_init_74 : decode cX9_init 74 = .ok (.iastore, 1) := by decide +kernel
theorem dX9_init_75 : decode cX9_init 75 = .ok (.dup, 1) := by decide +kernel
theorem dX9_init_76 : decode cX9_init 76 = .ok (.bipush 6, 2) := by decide +kernel
theorem dX9_init_78 : decode cX9_init 78 = .ok (.bipush 20, 2) := by decide +kernel
theorem dX9_init_80 : decode cX9_init 80 = .ok (.iastore, 1) := by decide +kernel
theorem dX9_init_81 : decode cX9_init 81 = .ok (.dup, 1) := by decide +kernel
theorem dX9_init_82 : decode cX9_init 82 = .ok (.bipush 7, 2) := by decide +kernel
theorem dX9_init_84 : decode cX9_init 84 = .ok (.bipush (-9), 2) := by decide +kernel
theorem dX9_init_86 : decode cX9_init 86 = .ok (.iastore, 1) := by decide +kernel
theorem dX9_init_87 : decode cX9_init 87 = .ok (.invokespecial 33, 3) := by decide +kernel
theorem dX9_init_90 : decode cX9_init 90 = .ok (.putfield 36, 3) := by decide +kernel
theorem dX9_init_93 : decode cX9_init 93 = .ok (.aload_n 0, 1) := by decide +kernel
theorem dX9_init_94 : decode cX9_init 94 = .ok (.new 40, 3) := by decide +kernel
theorem dX9_init_97 : decode cX9_init 97 = .ok (.dup, 1) := by decide +kernel
theorem dX9_init_98 : decode cX9_init 98 = .ok (.invokespecial 42, 3) := by decide +kernel
theorem dX9_init_101 : decode cX9_init 101 = .ok (.putfield 43, 3) := by decide +kernel
theorem dX9_init_104 : decode cX9_init 104 = .ok (.aload_n 0, 1) := by decide +kernel
theorem dX9_init_105 : decode cX9_init 105 = .ok (.sipush 301, 3) := by decide +kernel
theorem dX9_init_108 : decode cX9_init 108 = .ok (.newarray .int, 2) := by decide +kernel
theorem dX9_init_110 : decode cX9_init 110 = .ok (.putfield 47, 3) := by decide +kernel
theorem dX9_init_113 : decode cX9_init 113 = .ok (.return_, 1) := by decide +kernel
set_option maxRecDepth 20000 in
theorem ggX9_home_X9_within : GoodIn wsX9_home wsX9_within := goodIn_r _ [9] (by decide +kernel) (by decide +kernel)
set_option maxRecDepth 20000 in
theorem gX9_home_X9_within : GoodIn wsX9_home (va_wsS RX9 51 yX9_within wsX9_within) := goodIn_app (goodIn_of _ (by decide +kernel)) ggX9_home_X9_within
set_option maxRecDepth 20000 in
theorem ggX9_home_X9_bodyOf : GoodIn wsX9_home wsX9_bodyOf := goodIn_r _ [12, 13, 14, 15, 16, 17, 18, 19, 20, 21, 22, 23, 24, 25, 26, 27, 28, 29, 30, 31, 32, 33, 34, 35, 36, 37, 69, 70, 71, 72, 73] (by decide +kernel) (by decide +kernel)
set_option maxRecDepth 20000 in
theorem gX9_home_X9_bodyOf : GoodIn wsX9_home (va_wsS RX9 59 yX9_bodyOf wsX9_bodyOf) := goodIn_app (goodIn_of _ (by decide +kernel)) ggX9_home_X9_bodyOf
set_option maxRecDepth 20000 in
theorem ggX9_home_X3_init : GoodIn wsX9_home wsX3_init := goodIn_r _ [40, 41, 26, 27, 42, 43, 44, 45, 46, 47, 48, 49, 50, 51, 52, 65, 66, 67, 68, 74, 75, 76, 77, 78] (by decide +kernel) (by decide +kernel)
set_option maxRecDepth 20000 in
theorem gX9_home_X3_init : GoodIn wsX9_home (wsX3_init) := ggX9_home_X3_init
theorem dX9_home_0 : decode cX9_home 0 = .ok (.iload_n 1, 1) := by decide +kernel
theorem dX9_home_1 : decode cX9_home 1 = .ok (.iconst 0, 1) := by decide +kernel
theorem dX9_home_2 : decode cX9_home 2 = .ok (.iconst 2, 1) := by decide +kernel
theorem dX9_home_3 : decode cX9_home 3 = .ok (.invokestatic 51, 3) := by decide +kernel
theorem dX9_home_6 : decode cX9_home 6 = .ok (.ifCond .eq 33, 3) := by decide +kernel
theorem dX9_home_9 : decode cX9_home 9 = .ok (.iload_n 2, 1) := by decide +kernel
theorem dX9_home_10 : decode cX9_home 10 = .ok (.iconst 0, 1) := by decide +kernel
theorem dX9_home_11 : decode cX9_home 11 = .ok (.iconst 2, 1) := by decide +kernel
theorem dX9_home_12 : decode cX9_home 12 = .ok (.invokestatic 51, 3) := by decide +kernel
theorem dX9_home_15 : decode cX9_home 15 = .ok (.ifCond .eq 24, 3) := by decide +kernel
theorem dX9_home_18 : decode cX9_home 18 = .ok (.iload_n 3, 1) := by decide +kernel
theorem dX9_home_19 : decode cX9_home 19 = .ok (.iconst 1, 1) := by decide +kernel
theorem dX9_home_20 : decode cX9_home 20 = .ok (.bipush 9, 2) := by decide +kernel
theorem dX9_home_22 : decode cX9_home 22 = .ok (.invokestatic 51, 3) := by decide +kernel
theorem dX9_home_25 : decode cX9_home 25 = .ok (.ifCond .eq 14, 3) := by decide +kernel
theorem dX9_home_28 : decode cX9_home 28 = .ok (.iload 4, 2) := by decide +kernel
theorem dX9_home_30 : decode cX9_home 30 = .ok (.iconst 0, 1) := by decide +kernel
theorem dX9_home_31 : decode cX9_home 31 = .ok (.bipush 9, 2) := by decide +kernel
theorem dX9_home_33 : decode cX9_home 33 = .ok (.invokestatic 51, 3) := by decide +kernel
theorem dX9_home_36 : decode cX9_home 36 = .ok (.ifCond .ne 5, 3) := by decide +kernel
theorem dX9_home_39 : decode cX9_home 39 = .ok (.iconst (-1), 1) := by decide +kernel
theorem dX9_home_40 : decode cX9_home 40 = .ok (.ireturn, 1) := by decide +kernel
theorem dX9_home_41 : decode cX9_home 41 = .ok (.aload_n 0, 1) := by decide +kernel
theorem dX9_home_42 : decode cX9_home 42 = .ok (.getfield 55, 3) := by decide +kernel
theorem dX9_home_45 : decode cX9_home 45 = .ok (.aload_n 0, 1) := by decide +kernel
theorem dX9_home_46 : decode cX9_home 46 = .ok (.getfield 11, 3) := by decide +kernel
theorem dX9_home_49 : decode cX9_home 49 = .ok (.arraylength, 1) := by decide +kernel
theorem dX9_home_50 : decode cX9_home 50 = .ok (.if_icmp .lt 6, 3) := by decide +kernel
theorem dX9_home_53 : decode cX9_home 53 = .ok (.bipush (-3), 2) := by decide +kernel
theorem dX9_home_55 : decode cX9_home 55 = .ok (.ireturn, 1) := by decide +kernel
theorem dX9_home_56 : decode cX9_home 56 = .ok (.aload_n 0, 1) := by decide +kernel
theorem dX9_home_57 : decode cX9_home 57 = .ok (.getfield 11, 3) := by decide +kernel
theorem dX9_home_60 : decode cX9_home 60 = .ok (.aload_n 0, 1) := by decide +kernel
theorem dX9_home_61 : decode cX9_home 61 = .ok (.getfield 55, 3) := by decide +kernel
theorem dX9_home_64 : decode cX9_home 64 = .ok (.new 9, 3) := by decide +kernel
theorem dX9_home_67 : decode cX9_home 67 = .ok (.dup, 1) := by decide +kernel
theorem dX9_home_68 : decode cX9_home 68 = .ok (.iload_n 1, 1) := by decide +kernel
theorem dX9_home_69 : decode cX9_home 69 = .ok (.iload_n 3, 1) := by decide +kernel
theorem dX9_home_70 : decode cX9_home 70 = .ok (.iload 4, 2) := by decide +kernel
theorem dX9_home_72 : decode cX9_home 72 = .ok (.invokestatic 59, 3) := by decide +kernel
theorem dX9_home_75 : decode cX9_home 75 = .ok (.iload_n 2, 1) := by decide +kernel
theorem dX9_home_76 : decode cX9_home 76 = .ok (.invokespecial 63, 3) := by decide +kernel
theorem dX9_home_79 : decode cX9_home 79 = .ok (.aastore, 1) := by decide +kernel
theorem dX9_home_80 : decode cX9_home 80 = .ok (.aload_n 0, 1) := by decide +kernel
theorem dX9_home_81 : decode cX9_home 81 = .ok (.dup, 1) := by decide +kernel
theorem dX9_home_82 : decode cX9_home 82 = .ok (.getfield 55, 3) := by decide +kernel
theorem dX9_home_85 : decode cX9_home 85 = .ok (.iconst 1, 1) := by decide +kernel
theorem dX9_home_86 : decode cX9_home 86 = .ok (.iadd, 1) := by decide +kernel
theorem dX9_home_87 : decode cX9_home 87 = .ok (.putfield 55, 3) := by decide +kernel
theorem dX9_home_90 : decode cX9_home 90 = .ok (.aload_n 0, 1) := by decide +kernel
theorem dX9_home_91 : decode cX9_home 91 = .ok (.getfield 55, 3) := by decide +kernel
theorem dX9_home_94 : decode cX9_home 94 = .ok (.iconst 1, 1) := by decide +kernel
theorem dX9_home_95 : decode cX9_home 95 = .ok (.isub, 1) := by decide +kernel
theorem dX9_home_96 : decode cX9_home 96 = .ok (.ireturn, 1) := by decide +kernel
set_option maxRecDepth 20000 in
theorem ggX9_faults_X9_homeAt : GoodIn wsX9_faults wsX9_homeAt := goodIn_r _ [6, 7, 8, 9, 5, 10, 15, 16, 17, 18, 19, 20, 21, 22, 23, 24, 25, 26] (by decide +kernel) (by decide +kernel)
set_option maxRecDepth 20000 in
theorem gX9_faults_X9_homeAt : GoodIn wsX9_faults (wsV RX9 66 RX9 yX9_homeAt wsX9_homeAt) := goodIn_app (goodIn_of _ (by decide +kernel)) ggX9_faults_X9_homeAt
set_option maxRecDepth 20000 in
theorem ggX9_faults_X9_within : GoodIn wsX9_faults wsX9_within := goodIn_r _ [10] (by decide +kernel) (by decide +kernel)
set_option maxRecDepth 20000 in
theorem gX9_faults_X9_within : GoodIn wsX9_faults (va_wsS RX9 51 yX9_within wsX9_within) := goodIn_app (goodIn_of _ (by decide +kernel)) ggX9_faults_X9_within
theorem dX9_faults_0 : decode cX9_faults 0 = .ok (.aload_n 0, 1) := by decide +kernel
theorem dX9_faults_1 : decode cX9_faults 1 = .ok (.iload_n 1, 1) := by decide +kernel
theorem dX9_faults_2 : decode cX9_faults 2 = .ok (.invokevirtual 66, 3) := by decide +kernel
theorem dX9_faults_5 : decode cX9_faults 5 = .ok (.astore_n 3, 1) := by decide +kernel
theorem dX9_faults_6 : decode cX9_faults 6 = .ok (.aload_n 3, 1) := by decide +kernel
theorem dX9_faults_7 : decode cX9_faults 7 = .ok (.ifnull 13, 3) := by decide +kernel
theorem dX9_faults_10 : decode cX9_faults 10 = .ok (.iload_n 2, 1) := by decide +kernel
theorem dX9_faults_11 : decode cX9_faults 11 = .ok (.iconst 0, 1) := by decide +kernel
theorem dX9_faults_12 : decode cX9_faults 12 = .ok (.bipush 9, 2) := by decide +kernel
theorem dX9_faults_14 : decode cX9_faults 14 = .ok (.invokestatic 51, 3) := by decide +kernel
theorem dX9_faults_17 : decode cX9_faults 17 = .ok (.ifCond .ne 5, 3) := by decide +kernel
theorem dX9_faults_20 : decode cX9_faults 20 = .ok (.iconst (-1), 1) := by decide +kernel
theorem dX9_faults_21 : decode cX9_faults 21 = .ok (.ireturn, 1) := by decide +kernel
theorem dX9_faults_22 : decode cX9_faults 22 = .ok (.aload_n 3, 1) := by decide +kernel
theorem dX9_faults_23 : decode cX9_faults 23 = .ok (.getfield 70, 3) := by decide +kernel
theorem dX9_faults_26 : decode cX9_faults 26 = .ok (.istore 4, 2) := by decide +kernel
theorem dX9_faults_28 : decode cX9_faults 28 = .ok (.aload_n 3, 1) := by decide +kernel
theorem dX9_faults_29 : decode cX9_faults 29 = .ok (.iload_n 2, 1) := by decide +kernel
theorem dX9_faults_30 : decode cX9_faults 30 = .ok (.putfield 70, 3) := by decide +kernel
theorem dX9_faults_33 : decode cX9_faults 33 = .ok (.iload 4, 2) := by decide +kernel
theorem dX9_faults_35 : decode cX9_faults 35 = .ok (.ireturn, 1) := by decide +kernel
set_option maxRecDepth 20000 in
theorem ggX9_points_X9_homeAt : GoodIn wsX9_points wsX9_homeAt := goodIn_r _ [7, 8, 9, 10, 6, 11, 55, 56, 57, 58, 59, 60, 61, 62, 63, 64, 65, 66] (by decide +kernel) (by decide +kernel)
set_option maxRecDepth 20000 in
theorem gX9_points_X9_homeAt : GoodIn wsX9_points (wsV RX9 66 RX9 yX9_homeAt wsX9_homeAt) := goodIn_app (goodIn_of _ (by decide +kernel)) ggX9_points_X9_homeAt
set_option maxRecDepth 20000 in
theorem ggX9_points_X1_marks : GoodIn wsX9_points wsX1_marks := goodIn_r _ [18, 19, 13, 20, 21, 22, 23] (by decide +kernel) (by decide +kernel)
set_option maxRecDepth 20000 in
theorem gX9_points_X1_marks_u81X1 : GoodIn wsX9_points (va_wsO RX9 81 RX1 "FairRents$Plain" ⟨"FairRents$Plain", "marks", "()I"⟩ yX1_marks wsX1_marks) := goodIn_app (goodIn_of _ (by decide +kernel)) ggX9_points_X1_marks
set_option maxRecDepth 20000 in
theorem ggX9_points_X7_marks : GoodIn wsX9_points wsX7_marks := goodIn_r _ [27, 28, 29, 30, 16, 17, 18, 19, 13, 20, 21, 22, 23] (by decide +kernel) (by decide +kernel)
set_option maxRecDepth 20000 in
theorem gX9_points_X7_marks_u81X7 : GoodIn wsX9_points (va_wsO RX9 81 RX7 "FairRents$Plain" ⟨"FairRents$Plain", "marks", "()I"⟩ yX7_marks wsX7_marks) := goodIn_app (goodIn_of _ (by decide +kernel)) ggX9_points_X7_marks
set_option maxRecDepth 20000 in
theorem ggX9_points_X8_marks : GoodIn wsX9_points wsX8_marks := goodIn_r _ [23] (by decide +kernel) (by decide +kernel)
set_option maxRecDepth 20000 in
theorem gX9_points_X8_marks : GoodIn wsX9_points (wsV RX9 81 RX8 yX8_marks wsX8_marks) := goodIn_app (goodIn_of _ (by decide +kernel)) ggX9_points_X8_marks
set_option maxRecDepth 20000 in
theorem ggX9_points_X1_worth : GoodIn wsX9_points wsX1_worth := goodIn_r _ [38, 39, 40, 34, 20, 41, 22, 42, 43, 71, 72, 73, 74, 75] (by decide +kernel) (by decide +kernel)
set_option maxRecDepth 20000 in
theorem gX9_points_X1_worth_u87X1 : GoodIn wsX9_points (va_wsO RX9 87 RX1 "FairRents$Plain" ⟨"FairRents$Plain", "worth", "()I"⟩ yX1_worth wsX1_worth) := goodIn_app (goodIn_of _ (by decide +kernel)) ggX9_points_X1_worth
set_option maxRecDepth 20000 in
theorem ggX9_points_X7_worth : GoodIn wsX9_points wsX7_worth := goodIn_r _ [46, 47, 48, 30, 37, 17, 38, 39, 40, 34, 20, 41, 22, 42, 43, 49, 50, 51, 52, 71, 72, 73, 74, 75] (by decide +kernel) (by decide +kernel)
set_option maxRecDepth 20000 in
theorem gX9_points_X7_worth_u87X7 : GoodIn wsX9_points (va_wsO RX9 87 RX7 "FairRents$Plain" ⟨"FairRents$Plain", "worth", "()I"⟩ yX7_worth wsX7_worth) := goodIn_app (goodIn_of _ (by decide +kernel)) ggX9_points_X7_worth
set_option maxRecDepth 20000 in
theorem ggX9_points_X8_worth : GoodIn wsX9_points wsX8_worth := goodIn_r _ [42, 43, 71, 72, 73, 74, 75] (by decide +kernel) (by decide +kernel)
set_option maxRecDepth 20000 in
theorem gX9_points_X8_worth : GoodIn wsX9_points (wsV RX9 87 RX8 yX8_worth wsX8_worth) := goodIn_app (goodIn_of _ (by decide +kernel)) ggX9_points_X8_worth
theorem dX9_points_0 : decode cX9_points 0 = .ok (.aload_n 0, 1) := by decide +kernel
theorem dX9_points_1 : decode cX9_points 1 = .ok (.iload_n 1, 1) := by decide +kernel
theorem dX9_points_2 : decode cX9_points 2 = .ok (.invokevirtual 66, 3) := by decide +kernel
theorem dX9_points_5 : decode cX9_points 5 = .ok (.astore_n 2, 1) := by decide +kernel
theorem dX9_points_6 : decode cX9_points 6 = .ok (.aload_n 2, 1) := by decide +kernel
theorem dX9_points_7 : decode cX9_points 7 = .ok (.ifnonnull 5, 3) := by decide +kernel
theorem dX9_points_10 : decode cX9_points 10 = .ok (.iconst (-1), 1) := by decide +kernel
theorem dX9_points_11 : decode cX9_points 11 = .ok (.ireturn, 1) := by decide +kernel
theorem dX9_points_12 : decode cX9_points 12 = .ok (.aload_n 0, 1) := by decide +kernel
theorem dX9_points_13 : decode cX9_points 13 = .ok (.dup, 1) := by decide +kernel
theorem dX9_points_14 : decode cX9_points 14 = .ok (.getfield 73, 3) := by decide +kernel
theorem dX9_points_17 : decode cX9_points 17 = .ok (.aload_n 2, 1) := by decide +kernel
theorem dX9_points_18 : decode cX9_points 18 = .ok (.getfield 77, 3) := by decide +kernel
theorem dX9_points_21 : decode cX9_points 21 = .ok (.invokevirtual 81, 3) := by decide +kernel
theorem dX9_points_24 : decode cX9_points 24 = .ok (.i2l, 1) := by decide +kernel
theorem dX9_points_25 : decode cX9_points 25 = .ok (.ladd, 1) := by decide +kernel
theorem dX9_points_26 : decode cX9_points 26 = .ok (.putfield 73, 3) := by decide +kernel
theorem dX9_points_29 : decode cX9_points 29 = .ok (.aload_n 2, 1) := by decide +kernel
theorem dX9_points_30 : decode cX9_points 30 = .ok (.getfield 77, 3) := by decide +kernel
theorem dX9_points_33 : decode cX9_points 33 = .ok (.invokevirtual 87, 3) := by decide +kernel
theorem dX9_points_36 : decode cX9_points 36 = .ok (.ireturn, 1) := by decide +kernel
set_option maxRecDepth 20000 in
theorem ggX9_law_X9_lawful : GoodIn wsX9_law wsX9_lawful := goodIn_r _ [10, 11, 12, 13, 14, 9, 15] (by decide +kernel) (by decide +kernel)
set_option maxRecDepth 20000 in
theorem gX9_law_X9_lawful : GoodIn wsX9_law (va_wsS RX9 90 yX9_lawful wsX9_lawful) := goodIn_app (goodIn_of _ (by decide +kernel)) ggX9_law_X9_lawful
set_option maxRecDepth 20000 in
theorem ggX9_law_X9_within : GoodIn wsX9_law wsX9_within := goodIn_r _ [15] (by decide +kernel) (by decide +kernel)
set_option maxRecDepth 20000 in
theorem gX9_law_X9_within : GoodIn wsX9_law (va_wsS RX9 51 yX9_within wsX9_within) := goodIn_app (goodIn_of _ (by decide +kernel)) ggX9_law_X9_within
set_option maxRecDepth 20000 in
theorem ggX9_law_X4_init : GoodIn wsX9_law wsX4_init := goodIn_r _ [18, 19, 20, 21, 22, 35] (by decide +kernel) (by decide +kernel)
set_option maxRecDepth 20000 in
theorem gX9_law_X4_init : GoodIn wsX9_law (wsX4_init) := ggX9_law_X4_init
theorem dX9_law_0 : decode cX9_law 0 = .ok (.bipush 8, 2) := by decide +kernel
theorem dX9_law_2 : decode cX9_law 2 = .ok (.newarray .int, 2) := by decide +kernel
theorem dX9_law_4 : decode cX9_law 4 = .ok (.dup, 1) := by decide +kernel
theorem dX9_law_5 : decode cX9_law 5 = .ok (.iconst 0, 1) := by decide +kernel
theorem dX9_law_6 : decode cX9_law 6 = .ok (.iload_n 2, 1) := by decide +kernel
theorem dX9_law_7 : decode cX9_law 7 = .ok (.iastore, 1) := by decide +kernel
theorem dX9_law_8 : decode cX9_law 8 = .ok (.dup, 1) := by decide +kernel
theorem dX9_law_9 : decode cX9_law 9 = .ok (.iconst 1, 1) := by decide +kernel
theorem dX9_law_10 : decode cX9_law 10 = .ok (.iload_n 3, 1) := by decide +kernel
theorem dX9_law_11 : decode cX9_law 11 = .ok (.iastore, 1) := by decide +kernel
theorem dX9_law_12 : decode cX9_law 12 = .ok (.dup, 1) := by decide +kernel
theorem dX9_law_13 : decode cX9_law 13 = .ok (.iconst 2, 1) := by decide +kernel
theorem dX9_law_14 : decode cX9_law 14 = .ok (.iload 4, 2) := by decide +kernel
theorem dX9_law_16 : decode cX9_law 16 = .ok (.iastore, 1) := by decide +kernel
theorem dX9_law_17 : decode cX9_law 17 = .ok (.dup, 1) := by decide +kernel
theorem dX9_law_18 : decode cX9_law 18 = .ok (.iconst 3, 1) := by decide +kernel
theorem dX9_law_19 : decode cX9_law 19 = .ok (.iload 5, 2) := by decide +kernel
theorem dX9_law_21 : decode cX9_law 21 = .ok (.iastore, 1) := by decide +kernel
theorem dX9_law_22 : decode cX9_law 22 = .ok (.dup, 1) := by decide +kernel
theorem dX9_law_23 : decode cX9_law 23 = .ok (.iconst 4, 1) := by decide +kernel
theorem dX9_law_24 : decode cX9_law 24 = .ok (.iload 6, 2) := by decide +kernel
theorem dX9_law_26 : decode cX9_law 26 = .ok (.iastore, 1) := by decide +kernel
theorem dX9_law_27 : decode cX9_law 27 = .ok (.dup, 1) := by decide +kernel
theorem dX9_law_28 : decode cX9_law 28 = .ok (.iconst 5, 1) := by decide +kernel
theorem dX9_law_29 : decode cX9_law 29 = .ok (.iload 7, 2) := by decide +kernel
theorem dX9_law_31 : decode cX9_law 31 = .ok (.iastore, 1) := by decide +kernel
theorem dX9_law_32 : decode cX9_law 32 = .ok (.dup, 1) := by decide +kernel
theorem dX9_law_33 : decode cX9_law 33 = .ok (.bipush 6, 2) := by decide +kernel
theorem dX9_law_35 : decode cX9_law 35 = .ok (.iload 8, 2) := by decide +kernel
theorem dX9_law_37 : decode cX9_law 37 = .ok (.iastore, 1) := by decide +kernel
theorem dX9_law_38 : decode cX9_law 38 = .ok (.dup, 1) := by decide +kernel
theorem dX9_law_39 : decode cX9_law 39 = .ok (.bipush 7, 2) := by decide +kernel
theorem dX9_law_41 : decode cX9_law 41 = .ok (.iload_n 1, 1) := by decide +kernel
theorem dX9_law_42 : decode cX9_law 42 = .ok (.iastore, 1) := by decide +kernel
theorem dX9_law_43 : decode cX9_law 43 = .ok (.astore 9, 2) := by decide +kernel
theorem dX9_law_45 : decode cX9_law 45 = .ok (.aload 9, 2) := by decide +kernel
theorem dX9_law_47 : decode cX9_law 47 = .ok (.invokestatic 90, 3) := by decide +kernel
theorem dX9_law_50 : decode cX9_law 50 = .ok (.ifCond .eq 18, 3) := by decide +kernel
theorem dX9_law_53 : decode cX9_law 53 = .ok (.iload_n 1, 1) := by decide +kernel
theorem dX9_law_54 : decode cX9_law 54 = .ok (.iconst 0, 1) := by decide +kernel
theorem dX9_law_55 : decode cX9_law 55 = .ok (.aload_n 0, 1) := by decide +kernel
theorem dX9_law_56 : decode cX9_law 56 = .ok (.getfield 29, 3) := by decide +kernel
theorem dX9_law_59 : decode cX9_law 59 = .ok (.arraylength, 1) := by decide +kernel
theorem dX9_law_60 : decode cX9_law 60 = .ok (.iconst 1, 1) := by decide +kernel
theorem dX9_law_61 : decode cX9_law 61 = .ok (.isub, 1) := by decide +kernel
theorem dX9_law_62 : decode cX9_law 62 = .ok (.invokestatic 51, 3) := by decide +kernel
theorem dX9_law_65 : decode cX9_law 65 = .ok (.ifCond .ne 5, 3) := by decide +kernel
theorem dX9_law_68 : decode cX9_law 68 = .ok (.iconst (-1), 1) := by decide +kernel
theorem dX9_law_69 : decode cX9_law 69 = .ok (.ireturn, 1) := by decide +kernel
theorem dX9_law_70 : decode cX9_law 70 = .ok (.iload_n 1, 1) := by decide +kernel
theorem dX9_law_71 : decode cX9_law 71 = .ok (.bipush 10, 2) := by decide +kernel
theorem dX9_law_73 : decode cX9_law 73 = .ok (.imul, 1) := by decide +kernel
theorem dX9_law_74 : decode cX9_law 74 = .ok (.aload_n 0, 1) := by decide +kernel
theorem dX9_law_75 : decode cX9_law 75 = .ok (.getfield 94, 3) := by decide +kernel
theorem dX9_law_78 : decode cX9_law 78 = .ok (.if_icmp .gt 6, 3) := by decide +kernel
theorem dX9_law_81 : decode cX9_law 81 = .ok (.bipush (-2), 2) := by decide +kernel
theorem dX9_law_83 : decode cX9_law 83 = .ok (.ireturn, 1) := by decide +kernel
theorem dX9_law_84 : decode cX9_law 84 = .ok (.aload_n 0, 1) := by decide +kernel
theorem dX9_law_85 : decode cX9_law 85 = .ok (.getfield 29, 3) := by decide +kernel
theorem dX9_law_88 : decode cX9_law 88 = .ok (.iload_n 1, 1) := by decide +kernel
theorem dX9_law_89 : decode cX9_law 89 = .ok (.new 27, 3) := by decide +kernel
theorem dX9_law_92 : decode cX9_law 92 = .ok (.dup, 1) := by decide +kernel
theorem dX9_law_93 : decode cX9_law 93 = .ok (.aload 9, 2) := by decide +kernel
theorem dX9_law_95 : decode cX9_law 95 = .ok (.invokespecial 33, 3) := by decide +kernel
theorem dX9_law_98 : decode cX9_law 98 = .ok (.aastore, 1) := by decide +kernel
theorem dX9_law_99 : decode cX9_law 99 = .ok (.iconst 1, 1) := by decide +kernel
theorem dX9_law_100 : decode cX9_law 100 = .ok (.ireturn, 1) := by decide +kernel
set_option maxRecDepth 20000 in
theorem ggX9_force_X9_within : GoodIn wsX9_force wsX9_within := goodIn_r _ [4] (by decide +kernel) (by decide +kernel)
set_option maxRecDepth 20000 in
theorem gX9_force_X9_within : GoodIn wsX9_force (va_wsS RX9 51 yX9_within wsX9_within) := goodIn_app (goodIn_of _ (by decide +kernel)) ggX9_force_X9_within
set_option maxRecDepth 20000 in
theorem ggX9_force_X9_lawOn : GoodIn wsX9_force wsX9_lawOn := goodIn_r _ [8, 9, 10, 11, 12, 13, 14, 21, 22, 23, 24, 25, 26, 27, 28, 29, 30, 31, 32] (by decide +kernel) (by decide +kernel)
set_option maxRecDepth 20000 in
theorem gX9_force_X9_lawOn : GoodIn wsX9_force (wsV RX9 97 RX9 yX9_lawOn wsX9_lawOn) := goodIn_app (goodIn_of _ (by decide +kernel)) ggX9_force_X9_lawOn
set_option maxRecDepth 20000 in
theorem ggX9_force_X4_number : GoodIn wsX9_force wsX4_number := goodIn_r _ [19, 20, 2, 3, 4, 33] (by decide +kernel) (by decide +kernel)
set_option maxRecDepth 20000 in
theorem gX9_force_X4_number : GoodIn wsX9_force (wsV RX9 101 RX4 yX4_number wsX4_number) := goodIn_app (goodIn_of _ (by decide +kernel)) ggX9_force_X4_number
theorem dX9_force_0 : decode cX9_force 0 = .ok (.iload_n 1, 1) := by decide +kernel
theorem dX9_force_1 : decode cX9_force 1 = .ok (.iconst 0, 1) := by decide +kernel
theorem dX9_force_2 : decode cX9_force 2 = .ok (.sipush 400, 3) := by decide +kernel
theorem dX9_force_5 : decode cX9_force 5 = .ok (.invokestatic 51, 3) := by decide +kernel
theorem dX9_force_8 : decode cX9_force 8 = .ok (.ifCond .eq 13, 3) := by decide +kernel
theorem dX9_force_11 : decode cX9_force 11 = .ok (.iload_n 2, 1) := by decide +kernel
theorem dX9_force_12 : decode cX9_force 12 = .ok (.iconst 0, 1) := by decide +kernel
theorem dX9_force_13 : decode cX9_force 13 = .ok (.bipush 7, 2) := by decide +kernel
theorem dX9_force_15 : decode cX9_force 15 = .ok (.invokestatic 51, 3) := by decide +kernel
theorem dX9_force_18 : decode cX9_force 18 = .ok (.ifCond .ne 5, 3) := by decide +kernel
theorem dX9_force_21 : decode cX9_force 21 = .ok (.iconst (-1), 1) := by decide +kernel
theorem dX9_force_22 : decode cX9_force 22 = .ok (.ireturn, 1) := by decide +kernel
theorem dX9_force_23 : decode cX9_force 23 = .ok (.aload_n 0, 1) := by decide +kernel
theorem dX9_force_24 : decode cX9_force 24 = .ok (.iload_n 1, 1) := by decide +kernel
theorem dX9_force_25 : decode cX9_force 25 = .ok (.invokevirtual 97, 3) := by decide +kernel
theorem dX9_force_28 : decode cX9_force 28 = .ok (.iload_n 2, 1) := by decide +kernel
theorem dX9_force_29 : decode cX9_force 29 = .ok (.invokevirtual 101, 3) := by decide +kernel
theorem dX9_force_32 : decode cX9_force 32 = .ok (.ireturn, 1) := by decide +kernel
set_option maxRecDepth 20000 in
theorem ggX9_like_X9_within : GoodIn wsX9_like wsX9_within := goodIn_r _ [10] (by decide +kernel) (by decide +kernel)
set_option maxRecDepth 20000 in
theorem gX9_like_X9_within : GoodIn wsX9_like (va_wsS RX9 51 yX9_within wsX9_within) := goodIn_app (goodIn_of _ (by decide +kernel)) ggX9_like_X9_within
set_option maxRecDepth 20000 in
theorem ggX9_like_X6_init : GoodIn wsX9_like wsX6_init := goodIn_r _ [13, 14, 15, 16, 17, 18, 19, 20, 33, 34, 35, 36, 37] (by decide +kernel) (by decide +kernel)
set_option maxRecDepth 20000 in
theorem gX9_like_X6_init : GoodIn wsX9_like (wsX6_init) := ggX9_like_X6_init
theorem dX9_like_0 : decode cX9_like 0 = .ok (.iload_n 1, 1) := by decide +kernel
theorem dX9_like_1 : decode cX9_like 1 = .ok (.iconst 0, 1) := by decide +kernel
theorem dX9_like_2 : decode cX9_like 2 = .ok (.iconst 2, 1) := by decide +kernel
theorem dX9_like_3 : decode cX9_like 3 = .ok (.invokestatic 51, 3) := by decide +kernel
theorem dX9_like_6 : decode cX9_like 6 = .ok (.ifCond .eq 25, 3) := by decide +kernel
theorem dX9_like_9 : decode cX9_like 9 = .ok (.iload_n 2, 1) := by decide +kernel
theorem dX9_like_10 : decode cX9_like 10 = .ok (.iconst 0, 1) := by decide +kernel
theorem dX9_like_11 : decode cX9_like 11 = .ok (.sipush 200, 3) := by decide +kernel
theorem dX9_like_14 : decode cX9_like 14 = .ok (.invokestatic 51, 3) := by decide +kernel
theorem dX9_like_17 : decode cX9_like 17 = .ok (.ifCond .eq 14, 3) := by decide +kernel
theorem dX9_like_20 : decode cX9_like 20 = .ok (.iload_n 3, 1) := by decide +kernel
theorem dX9_like_21 : decode cX9_like 21 = .ok (.iconst 1, 1) := by decide +kernel
theorem dX9_like_22 : decode cX9_like 22 = .ok (.sipush 5000, 3) := by decide +kernel
theorem dX9_like_25 : decode cX9_like 25 = .ok (.invokestatic 51, 3) := by decide +kernel
theorem dX9_like_28 : decode cX9_like 28 = .ok (.ifCond .ne 5, 3) := by decide +kernel
theorem dX9_like_31 : decode cX9_like 31 = .ok (.iconst (-1), 1) := by decide +kernel
theorem dX9_like_32 : decode cX9_like 32 = .ok (.ireturn, 1) := by decide +kernel
theorem dX9_like_33 : decode cX9_like 33 = .ok (.aload_n 0, 1) := by decide +kernel
theorem dX9_like_34 : decode cX9_like 34 = .ok (.getfield 105, 3) := by decide +kernel
theorem dX9_like_37 : decode cX9_like 37 = .ok (.aload_n 0, 1) := by decide +kernel
theorem dX9_like_38 : decode cX9_like 38 = .ok (.getfield 17, 3) := by decide +kernel
theorem dX9_like_41 : decode cX9_like 41 = .ok (.arraylength, 1) := by decide +kernel
theorem dX9_like_42 : decode cX9_like 42 = .ok (.if_icmp .lt 6, 3) := by decide +kernel
theorem dX9_like_45 : decode cX9_like 45 = .ok (.bipush (-3), 2) := by decide +kernel
theorem dX9_like_47 : decode cX9_like 47 = .ok (.ireturn, 1) := by decide +kernel
theorem dX9_like_48 : decode cX9_like 48 = .ok (.aload_n 0, 1) := by decide +kernel
theorem dX9_like_49 : decode cX9_like 49 = .ok (.getfield 17, 3) := by decide +kernel
theorem dX9_like_52 : decode cX9_like 52 = .ok (.aload_n 0, 1) := by decide +kernel
theorem dX9_like_53 : decode cX9_like 53 = .ok (.getfield 105, 3) := by decide +kernel
theorem dX9_like_56 : decode cX9_like 56 = .ok (.new 15, 3) := by decide +kernel
theorem dX9_like_59 : decode cX9_like 59 = .ok (.dup, 1) := by decide +kernel
theorem dX9_like_60 : decode cX9_like 60 = .ok (.iload_n 1, 1) := by decide +kernel
theorem dX9_like_61 : decode cX9_like 61 = .ok (.iload_n 2, 1) := by decide +kernel
theorem dX9_like_62 : decode cX9_like 62 = .ok (.iload_n 3, 1) := by decide +kernel
theorem dX9_like_63 : decode cX9_like 63 = .ok (.aload_n 0, 1) := by decide +kernel
theorem dX9_like_64 : decode cX9_like 64 = .ok (.getfield 94, 3) := by decide +kernel
theorem dX9_like_67 : decode cX9_like 67 = .ok (.invokespecial 108, 3) := by decide +kernel
theorem dX9_like_70 : decode cX9_like 70 = .ok (.aastore, 1) := by decide +kernel
theorem dX9_like_71 : decode cX9_like 71 = .ok (.aload_n 0, 1) := by decide +kernel
theorem dX9_like_72 : decode cX9_like 72 = .ok (.dup, 1) := by decide +kernel
theorem dX9_like_73 : decode cX9_like 73 = .ok (.getfield 105, 3) := by decide +kernel
theorem dX9_like_76 : decode cX9_like 76 = .ok (.iconst 1, 1) := by decide +kernel
theorem dX9_like_77 : decode cX9_like 77 = .ok (.iadd, 1) := by decide +kernel
theorem dX9_like_78 : decode cX9_like 78 = .ok (.putfield 105, 3) := by decide +kernel
theorem dX9_like_81 : decode cX9_like 81 = .ok (.aload_n 0, 1) := by decide +kernel
theorem dX9_like_82 : decode cX9_like 82 = .ok (.getfield 105, 3) := by decide +kernel
theorem dX9_like_85 : decode cX9_like 85 = .ok (.iconst 1, 1) := by decide +kernel
theorem dX9_like_86 : decode cX9_like 86 = .ok (.isub, 1) := by decide +kernel
theorem dX9_like_87 : decode cX9_like 87 = .ok (.ireturn, 1) := by decide +kernel
set_option maxRecDepth 20000 in
theorem ggX9_strike_X9_within : GoodIn wsX9_strike wsX9_within := goodIn_r _ [6] (by decide +kernel) (by decide +kernel)
set_option maxRecDepth 20000 in
theorem gX9_strike_X9_within : GoodIn wsX9_strike (va_wsS RX9 51 yX9_within wsX9_within) := goodIn_app (goodIn_of _ (by decide +kernel)) ggX9_strike_X9_within
theorem dX9_strike_0 : decode cX9_strike 0 = .ok (.iload_n 1, 1) := by decide +kernel
theorem dX9_strike_1 : decode cX9_strike 1 = .ok (.iconst 0, 1) := by decide +kernel
theorem dX9_strike_2 : decode cX9_strike 2 = .ok (.aload_n 0, 1) := by decide +kernel
theorem dX9_strike_3 : decode cX9_strike 3 = .ok (.getfield 17, 3) := by decide +kernel
theorem dX9_strike_6 : decode cX9_strike 6 = .ok (.arraylength, 1) := by decide +kernel
theorem dX9_strike_7 : decode cX9_strike 7 = .ok (.iconst 1, 1) := by decide +kernel
theorem dX9_strike_8 : decode cX9_strike 8 = .ok (.isub, 1) := by decide +kernel
end
section
theorem dX9_strike_9 : decode cX9_strike 9 = .ok (.invokestatic 51, 3) := by decide +kernel
theorem dX9_strike_12 : decode cX9_strike 12 = .ok (.ifCond .eq 12, 3) := by decide +kernel
theorem dX9_strike_15 : decode cX9_strike 15 = .ok (.aload_n 0, 1) := by decide +kernel
theorem dX9_strike_16 : decode cX9_strike 16 = .ok (.getfield 17, 3) := by decide +kernel
theorem dX9_strike_19 : decode cX9_strike 19 = .ok (.iload_n 1, 1) := by decide +kernel
theorem dX9_strike_20 : decode cX9_strike 20 = .ok (.aaload, 1) := by decide +kernel
theorem dX9_strike_21 : decode cX9_strike 21 = .ok (.goto 4, 3) := by decide +kernel
theorem dX9_strike_24 : decode cX9_strike 24 = .ok (.aconst_null, 1) := by decide +kernel
theorem dX9_strike_25 : decode cX9_strike 25 = .ok (.astore_n 2, 1) := by decide +kernel
theorem dX9_strike_26 : decode cX9_strike 26 = .ok (.aload_n 2, 1) := by decide +kernel
theorem dX9_strike_27 : decode cX9_strike 27 = .ok (.ifnonnull 5, 3) := by decide +kernel
theorem dX9_strike_30 : decode cX9_strike 30 = .ok (.iconst (-1), 1) := by decide +kernel
theorem dX9_strike_31 : decode cX9_strike 31 = .ok (.ireturn, 1) := by decide +kernel
theorem dX9_strike_32 : decode cX9_strike 32 = .ok (.aload_n 2, 1) := by decide +kernel
theorem dX9_strike_33 : decode cX9_strike 33 = .ok (.getfield 111, 3) := by decide +kernel
theorem dX9_strike_36 : decode cX9_strike 36 = .ok (.ifCond .eq 6, 3) := by decide +kernel
theorem dX9_strike_39 : decode cX9_strike 39 = .ok (.bipush (-2), 2) := by decide +kernel
theorem dX9_strike_41 : decode cX9_strike 41 = .ok (.ireturn, 1) := by decide +kernel
theorem dX9_strike_42 : decode cX9_strike 42 = .ok (.aload_n 2, 1) := by decide +kernel
theorem dX9_strike_43 : decode cX9_strike 43 = .ok (.iconst 1, 1) := by decide +kernel
theorem dX9_strike_44 : decode cX9_strike 44 = .ok (.putfield 111, 3) := by decide +kernel
theorem dX9_strike_47 : decode cX9_strike 47 = .ok (.iconst 1, 1) := by decide +kernel
theorem dX9_strike_48 : decode cX9_strike 48 = .ok (.ireturn, 1) := by decide +kernel
set_option maxRecDepth 20000 in
theorem ggX9_days_X9_within : GoodIn wsX9_days wsX9_within := goodIn_r _ [5] (by decide +kernel) (by decide +kernel)
set_option maxRecDepth 20000 in
theorem gX9_days_X9_within : GoodIn wsX9_days (va_wsS RX9 51 yX9_within wsX9_within) := goodIn_app (goodIn_of _ (by decide +kernel)) ggX9_days_X9_within
theorem dX9_days_0 : decode cX9_days 0 = .ok (.iload_n 1, 1) := by decide +kernel
theorem dX9_days_1 : decode cX9_days 1 = .ok (.iconst 1, 1) := by decide +kernel
theorem dX9_days_2 : decode cX9_days 2 = .ok (.bipush 30, 2) := by decide +kernel
theorem dX9_days_4 : decode cX9_days 4 = .ok (.invokestatic 51, 3) := by decide +kernel
theorem dX9_days_7 : decode cX9_days 7 = .ok (.ifCond .ne 5, 3) := by decide +kernel
theorem dX9_days_10 : decode cX9_days 10 = .ok (.iconst (-1), 1) := by decide +kernel
theorem dX9_days_11 : decode cX9_days 11 = .ok (.ireturn, 1) := by decide +kernel
theorem dX9_days_12 : decode cX9_days 12 = .ok (.aload_n 0, 1) := by decide +kernel
theorem dX9_days_13 : decode cX9_days 13 = .ok (.getfield 94, 3) := by decide +kernel
theorem dX9_days_16 : decode cX9_days 16 = .ok (.iload_n 1, 1) := by decide +kernel
theorem dX9_days_17 : decode cX9_days 17 = .ok (.iadd, 1) := by decide +kernel
theorem dX9_days_18 : decode cX9_days 18 = .ok (.sipush 300, 3) := by decide +kernel
theorem dX9_days_21 : decode cX9_days 21 = .ok (.if_icmp .le 6, 3) := by decide +kernel
theorem dX9_days_24 : decode cX9_days 24 = .ok (.bipush (-2), 2) := by decide +kernel
theorem dX9_days_26 : decode cX9_days 26 = .ok (.ireturn, 1) := by decide +kernel
theorem dX9_days_27 : decode cX9_days 27 = .ok (.aload_n 0, 1) := by decide +kernel
theorem dX9_days_28 : decode cX9_days 28 = .ok (.dup, 1) := by decide +kernel
theorem dX9_days_29 : decode cX9_days 29 = .ok (.getfield 94, 3) := by decide +kernel
theorem dX9_days_32 : decode cX9_days 32 = .ok (.iload_n 1, 1) := by decide +kernel
theorem dX9_days_33 : decode cX9_days 33 = .ok (.iadd, 1) := by decide +kernel
theorem dX9_days_34 : decode cX9_days 34 = .ok (.putfield 94, 3) := by decide +kernel
theorem dX9_days_37 : decode cX9_days 37 = .ok (.aload_n 0, 1) := by decide +kernel
theorem dX9_days_38 : decode cX9_days 38 = .ok (.getfield 94, 3) := by decide +kernel
theorem dX9_days_41 : decode cX9_days 41 = .ok (.ireturn, 1) := by decide +kernel
set_option maxRecDepth 20000 in
theorem ggX9_head_X9_homeAt : GoodIn wsX9_head wsX9_homeAt := goodIn_r _ [12, 13, 14, 15, 11, 16, 102, 103, 104, 105, 106, 107, 108, 109, 110, 111, 112, 113] (by decide +kernel) (by decide +kernel)
set_option maxRecDepth 20000 in
theorem gX9_head_X9_homeAt : GoodIn wsX9_head (wsV RX9 66 RX9 yX9_homeAt wsX9_homeAt) := goodIn_app (goodIn_of _ (by decide +kernel)) ggX9_head_X9_homeAt
set_option maxRecDepth 20000 in
theorem ggX9_head_X9_within : GoodIn wsX9_head wsX9_within := goodIn_r _ [16] (by decide +kernel) (by decide +kernel)
set_option maxRecDepth 20000 in
theorem gX9_head_X9_within : GoodIn wsX9_head (va_wsS RX9 51 yX9_within wsX9_within) := goodIn_app (goodIn_of _ (by decide +kernel)) ggX9_head_X9_within
set_option maxRecDepth 20000 in
theorem ggX9_head_X9_lawOn : GoodIn wsX9_head wsX9_lawOn := goodIn_r _ [20, 21, 22, 23, 24, 25, 26, 102, 103, 104, 105, 106, 107, 108, 109, 110, 111, 112, 113] (by decide +kernel) (by decide +kernel)
set_option maxRecDepth 20000 in
theorem gX9_head_X9_lawOn : GoodIn wsX9_head (wsV RX9 97 RX9 yX9_lawOn wsX9_lawOn) := goodIn_app (goodIn_of _ (by decide +kernel)) ggX9_head_X9_lawOn
set_option maxRecDepth 20000 in
theorem ggX9_head_X2_work : GoodIn wsX9_head wsX2_work := goodIn_r _ [31, 32, 33, 34, 35, 36, 37, 38, 39, 40, 41, 42, 43, 44, 45, 46, 47, 48, 49, 50, 51, 52, 53, 54, 55, 56, 57, 58, 59, 60, 61, 62, 63, 64, 65, 66, 67, 68, 69, 70, 71, 72, 73, 74, 75, 76, 77, 78, 79, 15, 11, 16, 80, 81, 82, 83, 84, 85, 86, 87, 88, 30, 89, 90, 91, 92, 93, 94, 114, 115, 116, 117, 118, 119, 120, 121, 122, 123, 124, 125, 126, 127, 128, 129, 130, 131, 132, 133] (by decide +kernel) (by decide +kernel)
set_option maxRecDepth 20000 in
theorem gX9_head_X2_work : GoodIn wsX9_head (wsV RX9 116 RX2 yX2_work wsX2_work) := goodIn_app (goodIn_of _ (by decide +kernel)) ggX9_head_X2_work
set_option maxRecDepth 20000 in
theorem ggX9_head_X2_fairRent : GoodIn wsX9_head wsX2_fairRent := goodIn_r _ [98, 35, 36, 38, 99, 100, 24, 101, 114, 115, 116, 117, 118] (by decide +kernel) (by decide +kernel)
set_option maxRecDepth 20000 in
theorem gX9_head_X2_fairRent : GoodIn wsX9_head (wsV RX9 129 RX2 yX2_fairRent wsX2_fairRent) := goodIn_app (goodIn_of _ (by decide +kernel)) ggX9_head_X2_fairRent
theorem dX9_head_0 : decode cX9_head 0 = .ok (.aload_n 0, 1) := by decide +kernel
theorem dX9_head_1 : decode cX9_head 1 = .ok (.iload_n 1, 1) := by decide +kernel
theorem dX9_head_2 : decode cX9_head 2 = .ok (.invokevirtual 66, 3) := by decide +kernel
theorem dX9_head_5 : decode cX9_head 5 = .ok (.astore 4, 2) := by decide +kernel
theorem dX9_head_7 : decode cX9_head 7 = .ok (.aload 4, 2) := by decide +kernel
theorem dX9_head_9 : decode cX9_head 9 = .ok (.ifnull 23, 3) := by decide +kernel
theorem dX9_head_12 : decode cX9_head 12 = .ok (.iload_n 2, 1) := by decide +kernel
theorem dX9_head_13 : decode cX9_head 13 = .ok (.iconst 0, 1) := by decide +kernel
theorem dX9_head_14 : decode cX9_head 14 = .ok (.sipush 300, 3) := by decide +kernel
theorem dX9_head_17 : decode cX9_head 17 = .ok (.invokestatic 51, 3) := by decide +kernel
theorem dX9_head_20 : decode cX9_head 20 = .ok (.ifCond .eq 12, 3) := by decide +kernel
theorem dX9_head_23 : decode cX9_head 23 = .ok (.iload_n 3, 1) := by decide +kernel
theorem dX9_head_24 : decode cX9_head 24 = .ok (.iconst 0, 1) := by decide +kernel
theorem dX9_head_25 : decode cX9_head 25 = .ok (.iconst 4, 1) := by decide +kernel
theorem dX9_head_26 : decode cX9_head 26 = .ok (.invokestatic 51, 3) := by decide +kernel
theorem dX9_head_29 : decode cX9_head 29 = .ok (.ifCond .ne 6, 3) := by decide +kernel
theorem dX9_head_32 : decode cX9_head 32 = .ok (.ldc 115, 2) := by decide +kernel
theorem dX9_head_34 : decode cX9_head 34 = .ok (.ireturn, 1) := by decide +kernel
theorem dX9_head_35 : decode cX9_head 35 = .ok (.aload_n 0, 1) := by decide +kernel
theorem dX9_head_36 : decode cX9_head 36 = .ok (.getfield 43, 3) := by decide +kernel
theorem dX9_head_39 : decode cX9_head 39 = .ok (.aload 4, 2) := by decide +kernel
theorem dX9_head_41 : decode cX9_head 41 = .ok (.aload_n 0, 1) := by decide +kernel
theorem dX9_head_42 : decode cX9_head 42 = .ok (.iload_n 2, 1) := by decide +kernel
theorem dX9_head_43 : decode cX9_head 43 = .ok (.invokevirtual 97, 3) := by decide +kernel
theorem dX9_head_46 : decode cX9_head 46 = .ok (.aload_n 0, 1) := by decide +kernel
theorem dX9_head_47 : decode cX9_head 47 = .ok (.getfield 17, 3) := by decide +kernel
theorem dX9_head_50 : decode cX9_head 50 = .ok (.iload_n 2, 1) := by decide +kernel
theorem dX9_head_51 : decode cX9_head 51 = .ok (.invokevirtual 116, 3) := by decide +kernel
theorem dX9_head_54 : decode cX9_head 54 = .ok (.iload_n 3, 1) := by decide +kernel
theorem dX9_head_55 : decode cX9_head 55 = .ok (.tableswitch 61 0 3 #[29, 37, 45, 53], 29) := by decide +kernel
theorem dX9_head_84 : decode cX9_head 84 = .ok (.aload_n 0, 1) := by decide +kernel
theorem dX9_head_85 : decode cX9_head 85 = .ok (.getfield 43, 3) := by decide +kernel
theorem dX9_head_88 : decode cX9_head 88 = .ok (.getfield 120, 3) := by decide +kernel
theorem dX9_head_91 : decode cX9_head 91 = .ok (.ireturn, 1) := by decide +kernel
theorem dX9_head_92 : decode cX9_head 92 = .ok (.aload_n 0, 1) := by decide +kernel
theorem dX9_head_93 : decode cX9_head 93 = .ok (.getfield 43, 3) := by decide +kernel
theorem dX9_head_96 : decode cX9_head 96 = .ok (.getfield 123, 3) := by decide +kernel
theorem dX9_head_99 : decode cX9_head 99 = .ok (.ireturn, 1) := by decide +kernel
theorem dX9_head_100 : decode cX9_head 100 = .ok (.aload_n 0, 1) := by decide +kernel
theorem dX9_head_101 : decode cX9_head 101 = .ok (.getfield 43, 3) := by decide +kernel
theorem dX9_head_104 : decode cX9_head 104 = .ok (.getfield 126, 3) := by decide +kernel
theorem dX9_head_107 : decode cX9_head 107 = .ok (.ireturn, 1) := by decide +kernel
theorem dX9_head_108 : decode cX9_head 108 = .ok (.aload_n 0, 1) := by decide +kernel
theorem dX9_head_109 : decode cX9_head 109 = .ok (.getfield 43, 3) := by decide +kernel
theorem dX9_head_112 : decode cX9_head 112 = .ok (.invokevirtual 129, 3) := by decide +kernel
theorem dX9_head_115 : decode cX9_head 115 = .ok (.ireturn, 1) := by decide +kernel
theorem dX9_head_116 : decode cX9_head 116 = .ok (.aload_n 0, 1) := by decide +kernel
theorem dX9_head_117 : decode cX9_head 117 = .ok (.getfield 43, 3) := by decide +kernel
theorem dX9_head_120 : decode cX9_head 120 = .ok (.getfield 132, 3) := by decide +kernel
theorem dX9_head_123 : decode cX9_head 123 = .ok (.ireturn, 1) := by decide +kernel
set_option maxRecDepth 20000 in
theorem ggX9_let_X9_homeAt : GoodIn wsX9_let wsX9_homeAt := goodIn_r _ [7, 8, 9, 10, 6, 11, 26, 27, 28, 29, 30, 31, 32, 33, 34, 35, 36, 37] (by decide +kernel) (by decide +kernel)
set_option maxRecDepth 20000 in
theorem gX9_let_X9_homeAt : GoodIn wsX9_let (wsV RX9 66 RX9 yX9_homeAt wsX9_homeAt) := goodIn_app (goodIn_of _ (by decide +kernel)) ggX9_let_X9_homeAt
set_option maxRecDepth 20000 in
theorem ggX9_let_X9_within : GoodIn wsX9_let wsX9_within := goodIn_r _ [11] (by decide +kernel) (by decide +kernel)
set_option maxRecDepth 20000 in
theorem gX9_let_X9_within : GoodIn wsX9_let (va_wsS RX9 51 yX9_within wsX9_within) := goodIn_app (goodIn_of _ (by decide +kernel)) ggX9_let_X9_within
set_option maxRecDepth 20000 in
theorem ggX9_let_X5_begin : GoodIn wsX9_let wsX5_begin := goodIn_r _ [16, 17, 18, 19, 20, 21, 38, 39, 40, 41, 42] (by decide +kernel) (by decide +kernel)
set_option maxRecDepth 20000 in
theorem gX9_let_X5_begin : GoodIn wsX9_let (wsV RX9 139 RX5 yX5_begin wsX5_begin) := goodIn_app (goodIn_of _ (by decide +kernel)) ggX9_let_X5_begin
theorem dX9_let_0 : decode cX9_let 0 = .ok (.aload_n 0, 1) := by decide +kernel
theorem dX9_let_1 : decode cX9_let 1 = .ok (.iload_n 1, 1) := by decide +kernel
theorem dX9_let_2 : decode cX9_let 2 = .ok (.invokevirtual 66, 3) := by decide +kernel
theorem dX9_let_5 : decode cX9_let 5 = .ok (.astore_n 3, 1) := by decide +kernel
theorem dX9_let_6 : decode cX9_let 6 = .ok (.aload_n 3, 1) := by decide +kernel
theorem dX9_let_7 : decode cX9_let 7 = .ok (.ifnull 14, 3) := by decide +kernel
theorem dX9_let_10 : decode cX9_let 10 = .ok (.iload_n 2, 1) := by decide +kernel
theorem dX9_let_11 : decode cX9_let 11 = .ok (.iconst 1, 1) := by decide +kernel
theorem dX9_let_12 : decode cX9_let 12 = .ok (.sipush 5000, 3) := by decide +kernel
theorem dX9_let_15 : decode cX9_let 15 = .ok (.invokestatic 51, 3) := by decide +kernel
theorem dX9_let_18 : decode cX9_let 18 = .ok (.ifCond .ne 5, 3) := by decide +kernel
theorem dX9_let_21 : decode cX9_let 21 = .ok (.iconst (-1), 1) := by decide +kernel
theorem dX9_let_22 : decode cX9_let 22 = .ok (.ireturn, 1) := by decide +kernel
theorem dX9_let_23 : decode cX9_let 23 = .ok (.aload_n 3, 1) := by decide +kernel
theorem dX9_let_24 : decode cX9_let 24 = .ok (.getfield 135, 3) := by decide +kernel
theorem dX9_let_27 : decode cX9_let 27 = .ok (.aload_n 0, 1) := by decide +kernel
theorem dX9_let_28 : decode cX9_let 28 = .ok (.getfield 94, 3) := by decide +kernel
theorem dX9_let_31 : decode cX9_let 31 = .ok (.iload_n 2, 1) := by decide +kernel
theorem dX9_let_32 : decode cX9_let 32 = .ok (.invokevirtual 139, 3) := by decide +kernel
theorem dX9_let_35 : decode cX9_let 35 = .ok (.iconst 1, 1) := by decide +kernel
theorem dX9_let_36 : decode cX9_let 36 = .ok (.ireturn, 1) := by decide +kernel
set_option maxRecDepth 20000 in
theorem ggX9_ask_X9_homeAt : GoodIn wsX9_ask wsX9_homeAt := goodIn_r _ [15, 16, 17, 18, 14, 19, 150, 151, 152, 153, 154, 155, 156, 157, 158, 159, 160, 161] (by decide +kernel) (by decide +kernel)
set_option maxRecDepth 20000 in
theorem gX9_ask_X9_homeAt : GoodIn wsX9_ask (wsV RX9 66 RX9 yX9_homeAt wsX9_homeAt) := goodIn_app (goodIn_of _ (by decide +kernel)) ggX9_ask_X9_homeAt
set_option maxRecDepth 20000 in
theorem ggX9_ask_X5_isLet : GoodIn wsX9_ask wsX5_isLet := goodIn_r _ [24, 25, 171, 172, 173, 174, 175] (by decide +kernel) (by decide +kernel)
set_option maxRecDepth 20000 in
theorem gX9_ask_X5_isLet : GoodIn wsX9_ask (wsV RX9 145 RX5 yX5_isLet wsX5_isLet) := goodIn_app (goodIn_of _ (by decide +kernel)) ggX9_ask_X5_isLet
set_option maxRecDepth 20000 in
theorem ggX9_ask_X9_barEnd : GoodIn wsX9_ask wsX9_barEnd := goodIn_r _ [29, 30, 31, 32, 33, 34, 14, 35, 4, 36, 37, 38, 39, 40, 41, 17, 18, 19, 42, 43, 44, 45, 46, 47, 162, 163, 164, 165, 166, 167, 168, 169, 170, 150, 151, 152, 153, 154, 155, 156, 157, 158, 159, 160, 161, 176] (by decide +kernel) (by decide +kernel)
set_option maxRecDepth 20000 in
theorem gX9_ask_X9_barEnd : GoodIn wsX9_ask (wsV RX9 149 RX9 yX9_barEnd wsX9_barEnd) := goodIn_app (goodIn_of _ (by decide +kernel)) ggX9_ask_X9_barEnd
set_option maxRecDepth 20000 in
theorem ggX9_ask_X9_lawOn : GoodIn wsX9_ask wsX9_lawOn := goodIn_r _ [51, 52, 53, 54, 55, 56, 57, 150, 151, 152, 153, 154, 155, 156, 157, 158, 159, 160, 161] (by decide +kernel) (by decide +kernel)
set_option maxRecDepth 20000 in
theorem gX9_ask_X9_lawOn : GoodIn wsX9_ask (wsV RX9 97 RX9 yX9_lawOn wsX9_lawOn) := goodIn_app (goodIn_of _ (by decide +kernel)) ggX9_ask_X9_lawOn
set_option maxRecDepth 20000 in
theorem ggX9_ask_X2_work : GoodIn wsX9_ask wsX2_work := goodIn_r _ [62, 63, 64, 65, 66, 67, 68, 69, 70, 71, 72, 73, 74, 75, 76, 77, 78, 79, 80, 81, 82, 83, 84, 85, 86, 87, 88, 89, 90, 91, 92, 93, 94, 95, 96, 97, 98, 99, 100, 101, 102, 103, 104, 105, 43, 44, 45, 46, 47, 18, 14, 19, 106, 107, 108, 109, 110, 111, 112, 113, 114, 61, 115, 116, 117, 118, 119, 120, 177, 178, 179, 180, 181, 146, 147, 148, 149, 182, 183, 184, 185, 186, 187, 188, 189, 190, 191, 176] (by decide +kernel) (by decide +kernel)
set_option maxRecDepth 20000 in
theorem gX9_ask_X2_work : GoodIn wsX9_ask (wsV RX9 116 RX2 yX2_work wsX2_work) := goodIn_app (goodIn_of _ (by decide +kernel)) ggX9_ask_X2_work
set_option maxRecDepth 20000 in
theorem ggX9_ask_X0_init : GoodIn wsX9_ask wsX0_init := goodIn_r _ [123, 124, 125, 126, 127, 128, 129, 130, 131, 132, 133, 134, 135, 136, 137, 138, 139, 140, 141, 61, 142, 66, 67, 69, 143, 144, 55, 145, 162, 163, 164, 165, 166, 167, 168, 169, 170, 177, 178, 179, 180, 181] (by decide +kernel) (by decide +kernel)
set_option maxRecDepth 20000 in
theorem gX9_ask_X0_init : GoodIn wsX9_ask (wsX0_init) := ggX9_ask_X0_init
theorem dX9_ask_0 : decode cX9_ask 0 = .ok (.aload_n 0, 1) := by decide +kernel
theorem dX9_ask_1 : decode cX9_ask 1 = .ok (.iload_n 1, 1) := by decide +kernel
theorem dX9_ask_2 : decode cX9_ask 2 = .ok (.invokevirtual 66, 3) := by decide +kernel
theorem dX9_ask_5 : decode cX9_ask 5 = .ok (.astore_n 2, 1) := by decide +kernel
theorem dX9_ask_6 : decode cX9_ask 6 = .ok (.aload_n 2, 1) := by decide +kernel
theorem dX9_ask_7 : decode cX9_ask 7 = .ok (.ifnonnull 5, 3) := by decide +kernel
theorem dX9_ask_10 : decode cX9_ask 10 = .ok (.iconst (-1), 1) := by decide +kernel
theorem dX9_ask_11 : decode cX9_ask 11 = .ok (.ireturn, 1) := by decide +kernel
theorem dX9_ask_12 : decode cX9_ask 12 = .ok (.aload_n 2, 1) := by decide +kernel
theorem dX9_ask_13 : decode cX9_ask 13 = .ok (.getfield 135, 3) := by decide +kernel
theorem dX9_ask_16 : decode cX9_ask 16 = .ok (.invokevirtual 145, 3) := by decide +kernel
theorem dX9_ask_19 : decode cX9_ask 19 = .ok (.ifCond .eq 15, 3) := by decide +kernel
theorem dX9_ask_22 : decode cX9_ask 22 = .ok (.aload_n 0, 1) := by decide +kernel
theorem dX9_ask_23 : decode cX9_ask 23 = .ok (.getfield 94, 3) := by decide +kernel
theorem dX9_ask_26 : decode cX9_ask 26 = .ok (.aload_n 0, 1) := by decide +kernel
theorem dX9_ask_27 : decode cX9_ask 27 = .ok (.iload_n 1, 1) := by decide +kernel
theorem dX9_ask_28 : decode cX9_ask 28 = .ok (.invokevirtual 149, 3) := by decide +kernel
theorem dX9_ask_31 : decode cX9_ask 31 = .ok (.if_icmp .ge 6, 3) := by decide +kernel
theorem dX9_ask_34 : decode cX9_ask 34 = .ok (.bipush (-2), 2) := by decide +kernel
theorem dX9_ask_36 : decode cX9_ask 36 = .ok (.ireturn, 1) := by decide +kernel
theorem dX9_ask_37 : decode cX9_ask 37 = .ok (.aload_n 0, 1) := by decide +kernel
theorem dX9_ask_38 : decode cX9_ask 38 = .ok (.getfield 152, 3) := by decide +kernel
theorem dX9_ask_41 : decode cX9_ask 41 = .ok (.aload_n 0, 1) := by decide +kernel
theorem dX9_ask_42 : decode cX9_ask 42 = .ok (.getfield 23, 3) := by decide +kernel
theorem dX9_ask_45 : decode cX9_ask 45 = .ok (.arraylength, 1) := by decide +kernel
theorem dX9_ask_46 : decode cX9_ask 46 = .ok (.if_icmp .lt 6, 3) := by decide +kernel
theorem dX9_ask_49 : decode cX9_ask 49 = .ok (.bipush (-3), 2) := by decide +kernel
theorem dX9_ask_51 : decode cX9_ask 51 = .ok (.ireturn, 1) := by decide +kernel
theorem dX9_ask_52 : decode cX9_ask 52 = .ok (.aload_n 0, 1) := by decide +kernel
theorem dX9_ask_53 : decode cX9_ask 53 = .ok (.aload_n 0, 1) := by decide +kernel
theorem dX9_ask_54 : decode cX9_ask 54 = .ok (.getfield 94, 3) := by decide +kernel
theorem dX9_ask_57 : decode cX9_ask 57 = .ok (.invokevirtual 97, 3) := by decide +kernel
theorem dX9_ask_60 : decode cX9_ask 60 = .ok (.astore_n 3, 1) := by decide +kernel
theorem dX9_ask_61 : decode cX9_ask 61 = .ok (.aload_n 0, 1) := by decide +kernel
theorem dX9_ask_62 : decode cX9_ask 62 = .ok (.getfield 43, 3) := by decide +kernel
theorem dX9_ask_65 : decode cX9_ask 65 = .ok (.aload_n 2, 1) := by decide +kernel
theorem dX9_ask_66 : decode cX9_ask 66 = .ok (.aload_n 3, 1) := by decide +kernel
theorem dX9_ask_67 : decode cX9_ask 67 = .ok (.aload_n 0, 1) := by decide +kernel
theorem dX9_ask_68 : decode cX9_ask 68 = .ok (.getfield 17, 3) := by decide +kernel
theorem dX9_ask_71 : decode cX9_ask 71 = .ok (.aload_n 0, 1) := by decide +kernel
theorem dX9_ask_72 : decode cX9_ask 72 = .ok (.getfield 94, 3) := by decide +kernel
theorem dX9_ask_75 : decode cX9_ask 75 = .ok (.invokevirtual 116, 3) := by decide +kernel
theorem dX9_ask_78 : decode cX9_ask 78 = .ok (.aload_n 0, 1) := by decide +kernel
theorem dX9_ask_79 : decode cX9_ask 79 = .ok (.getfield 23, 3) := by decide +kernel
theorem dX9_ask_82 : decode cX9_ask 82 = .ok (.aload_n 0, 1) := by decide +kernel
theorem dX9_ask_83 : decode cX9_ask 83 = .ok (.getfield 152, 3) := by decide +kernel
theorem dX9_ask_86 : decode cX9_ask 86 = .ok (.new 21, 3) := by decide +kernel
theorem dX9_ask_89 : decode cX9_ask 89 = .ok (.dup, 1) := by decide +kernel
theorem dX9_ask_90 : decode cX9_ask 90 = .ok (.iload_n 1, 1) := by decide +kernel
theorem dX9_ask_91 : decode cX9_ask 91 = .ok (.aload_n 2, 1) := by decide +kernel
theorem dX9_ask_92 : decode cX9_ask 92 = .ok (.getfield 135, 3) := by decide +kernel
theorem dX9_ask_95 : decode cX9_ask 95 = .ok (.getfield 155, 3) := by decide +kernel
theorem dX9_ask_98 : decode cX9_ask 98 = .ok (.aload_n 0, 1) := by decide +kernel
theorem dX9_ask_99 : decode cX9_ask 99 = .ok (.getfield 94, 3) := by decide +kernel
theorem dX9_ask_102 : decode cX9_ask 102 = .ok (.aload_n 3, 1) := by decide +kernel
theorem dX9_ask_103 : decode cX9_ask 103 = .ok (.aload_n 0, 1) := by decide +kernel
theorem dX9_ask_104 : decode cX9_ask 104 = .ok (.getfield 43, 3) := by decide +kernel
theorem dX9_ask_107 : decode cX9_ask 107 = .ok (.invokespecial 157, 3) := by decide +kernel
theorem dX9_ask_110 : decode cX9_ask 110 = .ok (.aastore, 1) := by decide +kernel
theorem dX9_ask_111 : decode cX9_ask 111 = .ok (.aload_n 0, 1) := by decide +kernel
theorem dX9_ask_112 : decode cX9_ask 112 = .ok (.dup, 1) := by decide +kernel
theorem dX9_ask_113 : decode cX9_ask 113 = .ok (.getfield 152, 3) := by decide +kernel
theorem dX9_ask_116 : decode cX9_ask 116 = .ok (.iconst 1, 1) := by decide +kernel
theorem dX9_ask_117 : decode cX9_ask 117 = .ok (.iadd, 1) := by decide +kernel
theorem dX9_ask_118 : decode cX9_ask 118 = .ok (.putfield 152, 3) := by decide +kernel
theorem dX9_ask_121 : decode cX9_ask 121 = .ok (.aload_n 0, 1) := by decide +kernel
theorem dX9_ask_122 : decode cX9_ask 122 = .ok (.getfield 152, 3) := by decide +kernel
theorem dX9_ask_125 : decode cX9_ask 125 = .ok (.iconst 1, 1) := by decide +kernel
theorem dX9_ask_126 : decode cX9_ask 126 = .ok (.isub, 1) := by decide +kernel
theorem dX9_ask_127 : decode cX9_ask 127 = .ok (.ireturn, 1) := by decide +kernel
set_option maxRecDepth 20000 in
theorem ggX9_open_X9_homeAt : GoodIn wsX9_open wsX9_homeAt := goodIn_r _ [10, 11, 12, 13, 9, 14, 38, 39, 40, 41, 42, 43, 44, 45, 46, 47, 48, 49] (by decide +kernel) (by decide +kernel)
set_option maxRecDepth 20000 in
theorem gX9_open_X9_homeAt : GoodIn wsX9_open (wsV RX9 66 RX9 yX9_homeAt wsX9_homeAt) := goodIn_app (goodIn_of _ (by decide +kernel)) ggX9_open_X9_homeAt
set_option maxRecDepth 20000 in
theorem ggX9_open_X9_barEnd : GoodIn wsX9_open wsX9_barEnd := goodIn_r _ [18, 19, 20, 21, 22, 23, 9, 24, 25, 26, 27, 28, 29, 30, 31, 12, 13, 14, 32, 33, 34, 35, 36, 37, 50, 51, 52, 53, 54, 55, 56, 57, 58, 38, 39, 40, 41, 42, 43, 44, 45, 46, 47, 48, 49, 59] (by decide +kernel) (by decide +kernel)
set_option maxRecDepth 20000 in
theorem gX9_open_X9_barEnd : GoodIn wsX9_open (wsV RX9 149 RX9 yX9_barEnd wsX9_barEnd) := goodIn_app (goodIn_of _ (by decide +kernel)) ggX9_open_X9_barEnd
theorem dX9_open_0 : decode cX9_open 0 = .ok (.aload_n 0, 1) := by decide +kernel
theorem dX9_open_1 : decode cX9_open 1 = .ok (.iload_n 1, 1) := by decide +kernel
theorem dX9_open_2 : decode cX9_open 2 = .ok (.invokevirtual 66, 3) := by decide +kernel
theorem dX9_open_5 : decode cX9_open 5 = .ok (.ifnonnull 5, 3) := by decide +kernel
theorem dX9_open_8 : decode cX9_open 8 = .ok (.iconst (-1), 1) := by decide +kernel
theorem dX9_open_9 : decode cX9_open 9 = .ok (.ireturn, 1) := by decide +kernel
theorem dX9_open_10 : decode cX9_open 10 = .ok (.aload_n 0, 1) := by decide +kernel
theorem dX9_open_11 : decode cX9_open 11 = .ok (.getfield 94, 3) := by decide +kernel
theorem dX9_open_14 : decode cX9_open 14 = .ok (.aload_n 0, 1) := by decide +kernel
theorem dX9_open_15 : decode cX9_open 15 = .ok (.iload_n 1, 1) := by decide +kernel
theorem dX9_open_16 : decode cX9_open 16 = .ok (.invokevirtual 149, 3) := by decide +kernel
theorem dX9_open_19 : decode cX9_open 19 = .ok (.invokestatic 160, 3) := by decide +kernel
theorem dX9_open_22 : decode cX9_open 22 = .ok (.ireturn, 1) := by decide +kernel
set_option maxRecDepth 20000 in
theorem ggX9_appeal_X9_homeAt : GoodIn wsX9_appeal wsX9_homeAt := goodIn_r _ [8, 9, 10, 11, 7, 12, 23, 24, 25, 26, 27, 28, 29, 30, 31, 32, 33, 34] (by decide +kernel) (by decide +kernel)
set_option maxRecDepth 20000 in
theorem gX9_appeal_X9_homeAt : GoodIn wsX9_appeal (wsV RX9 66 RX9 yX9_homeAt wsX9_homeAt) := goodIn_app (goodIn_of _ (by decide +kernel)) ggX9_appeal_X9_homeAt
set_option maxRecDepth 20000 in
theorem ggX9_appeal_X9_latestStanding : GoodIn wsX9_appeal wsX9_latestStanding := goodIn_r _ [16, 17, 3, 18, 23, 24, 25, 26, 27, 28, 29, 30, 31, 32, 33, 34, 35, 36, 37, 38, 39, 40, 41, 42, 43] (by decide +kernel) (by decide +kernel)
set_option maxRecDepth 20000 in
theorem gX9_appeal_X9_latestStanding : GoodIn wsX9_appeal (wsV RX9 166 RX9 yX9_latestStanding wsX9_latestStanding) := goodIn_app (goodIn_of _ (by decide +kernel)) ggX9_appeal_X9_latestStanding
set_option maxRecDepth 20000 in
theorem ggX9_appeal_X9_entryAt : GoodIn wsX9_appeal wsX9_entryAt := goodIn_r _ [22, 17, 10, 11, 7, 12, 23, 24, 25, 26, 27, 28, 29, 30, 31, 32, 33, 34] (by decide +kernel) (by decide +kernel)
set_option maxRecDepth 20000 in
theorem gX9_appeal_X9_entryAt : GoodIn wsX9_appeal (wsV RX9 169 RX9 yX9_entryAt wsX9_entryAt) := goodIn_app (goodIn_of _ (by decide +kernel)) ggX9_appeal_X9_entryAt
theorem dX9_appeal_0 : decode cX9_appeal 0 = .ok (.aload_n 0, 1) := by decide +kernel
theorem dX9_appeal_1 : decode cX9_appeal 1 = .ok (.iload_n 1, 1) := by decide +kernel
theorem dX9_appeal_2 : decode cX9_appeal 2 = .ok (.invokevirtual 66, 3) := by decide +kernel
theorem dX9_appeal_5 : decode cX9_appeal 5 = .ok (.ifnonnull 5, 3) := by decide +kernel
theorem dX9_appeal_8 : decode cX9_appeal 8 = .ok (.iconst (-1), 1) := by decide +kernel
theorem dX9_appeal_9 : decode cX9_appeal 9 = .ok (.ireturn, 1) := by decide +kernel
theorem dX9_appeal_10 : decode cX9_appeal 10 = .ok (.aload_n 0, 1) := by decide +kernel
theorem dX9_appeal_11 : decode cX9_appeal 11 = .ok (.iload_n 1, 1) := by decide +kernel
theorem dX9_appeal_12 : decode cX9_appeal 12 = .ok (.invokevirtual 166, 3) := by decide +kernel
theorem dX9_appeal_15 : decode cX9_appeal 15 = .ok (.istore_n 2, 1) := by decide +kernel
theorem dX9_appeal_16 : decode cX9_appeal 16 = .ok (.aload_n 0, 1) := by decide +kernel
theorem dX9_appeal_17 : decode cX9_appeal 17 = .ok (.iload_n 2, 1) := by decide +kernel
theorem dX9_appeal_18 : decode cX9_appeal 18 = .ok (.invokevirtual 169, 3) := by decide +kernel
theorem dX9_appeal_21 : decode cX9_appeal 21 = .ok (.astore_n 3, 1) := by decide +kernel
theorem dX9_appeal_22 : decode cX9_appeal 22 = .ok (.aload_n 3, 1) := by decide +kernel
theorem dX9_appeal_23 : decode cX9_appeal 23 = .ok (.ifnull 16, 3) := by decide +kernel
theorem dX9_appeal_26 : decode cX9_appeal 26 = .ok (.aload_n 0, 1) := by decide +kernel
theorem dX9_appeal_27 : decode cX9_appeal 27 = .ok (.getfield 94, 3) := by decide +kernel
theorem dX9_appeal_30 : decode cX9_appeal 30 = .ok (.aload_n 3, 1) := by decide +kernel
theorem dX9_appeal_31 : decode cX9_appeal 31 = .ok (.getfield 173, 3) := by decide +kernel
theorem dX9_appeal_34 : decode cX9_appeal 34 = .ok (.isub, 1) := by decide +kernel
theorem dX9_appeal_35 : decode cX9_appeal 35 = .ok (.iconst 5, 1) := by decide +kernel
theorem dX9_appeal_36 : decode cX9_appeal 36 = .ok (.if_icmp .le 6, 3) := by decide +kernel
theorem dX9_appeal_39 : decode cX9_appeal 39 = .ok (.bipush (-2), 2) := by decide +kernel
theorem dX9_appeal_41 : decode cX9_appeal 41 = .ok (.ireturn, 1) := by decide +kernel
theorem dX9_appeal_42 : decode cX9_appeal 42 = .ok (.aload_n 3, 1) := by decide +kernel
theorem dX9_appeal_43 : decode cX9_appeal 43 = .ok (.iconst 0, 1) := by decide +kernel
theorem dX9_appeal_44 : decode cX9_appeal 44 = .ok (.putfield 176, 3) := by decide +kernel
theorem dX9_appeal_47 : decode cX9_appeal 47 = .ok (.iload_n 2, 1) := by decide +kernel
theorem dX9_appeal_48 : decode cX9_appeal 48 = .ok (.ireturn, 1) := by decide +kernel
set_option maxRecDepth 20000 in
theorem ggX9_entry_X9_entryAt : GoodIn wsX9_entry wsX9_entryAt := goodIn_r _ [13, 14, 15, 16, 12, 17, 27, 28, 29, 30, 31, 32, 33, 34, 35, 36, 37, 38] (by decide +kernel) (by decide +kernel)
set_option maxRecDepth 20000 in
theorem gX9_entry_X9_entryAt : GoodIn wsX9_entry (wsV RX9 169 RX9 yX9_entryAt wsX9_entryAt) := goodIn_app (goodIn_of _ (by decide +kernel)) ggX9_entry_X9_entryAt
theorem dX9_entry_0 : decode cX9_entry 0 = .ok (.aload_n 0, 1) := by decide +kernel
theorem dX9_entry_1 : decode cX9_entry 1 = .ok (.iload_n 1, 1) := by decide +kernel
theorem dX9_entry_2 : decode cX9_entry 2 = .ok (.invokevirtual 169, 3) := by decide +kernel
theorem dX9_entry_5 : decode cX9_entry 5 = .ok (.astore_n 3, 1) := by decide +kernel
theorem dX9_entry_6 : decode cX9_entry 6 = .ok (.aload_n 3, 1) := by decide +kernel
theorem dX9_entry_7 : decode cX9_entry 7 = .ok (.ifnonnull 6, 3) := by decide +kernel
theorem dX9_entry_10 : decode cX9_entry 10 = .ok (.ldc 115, 2) := by decide +kernel
theorem dX9_entry_12 : decode cX9_entry 12 = .ok (.ireturn, 1) := by decide +kernel
theorem dX9_entry_13 : decode cX9_entry 13 = .ok (.iload_n 2, 1) := by decide +kernel
theorem dX9_entry_14 : decode cX9_entry 14 = .ok (.tableswitch 85 0 6 #[42, 47, 52, 57, 62, 67, 72], 42) := by decide +kernel
theorem dX9_entry_56 : decode cX9_entry 56 = .ok (.aload_n 3, 1) := by decide +kernel
theorem dX9_entry_57 : decode cX9_entry 57 = .ok (.getfield 179, 3) := by decide +kernel
theorem dX9_entry_60 : decode cX9_entry 60 = .ok (.ireturn, 1) := by decide +kernel
theorem dX9_entry_61 : decode cX9_entry 61 = .ok (.aload_n 3, 1) := by decide +kernel
theorem dX9_entry_62 : decode cX9_entry 62 = .ok (.getfield 173, 3) := by decide +kernel
theorem dX9_entry_65 : decode cX9_entry 65 = .ok (.ireturn, 1) := by decide +kernel
theorem dX9_entry_66 : decode cX9_entry 66 = .ok (.aload_n 3, 1) := by decide +kernel
theorem dX9_entry_67 : decode cX9_entry 67 = .ok (.getfield 182, 3) := by decide +kernel
theorem dX9_entry_70 : decode cX9_entry 70 = .ok (.ireturn, 1) := by decide +kernel
theorem dX9_entry_71 : decode cX9_entry 71 = .ok (.aload_n 3, 1) := by decide +kernel
theorem dX9_entry_72 : decode cX9_entry 72 = .ok (.getfield 185, 3) := by decide +kernel
theorem dX9_entry_75 : decode cX9_entry 75 = .ok (.ireturn, 1) := by decide +kernel
theorem dX9_entry_76 : decode cX9_entry 76 = .ok (.aload_n 3, 1) := by decide +kernel
theorem dX9_entry_77 : decode cX9_entry 77 = .ok (.getfield 186, 3) := by decide +kernel
theorem dX9_entry_80 : decode cX9_entry 80 = .ok (.ireturn, 1) := by decide +kernel
theorem dX9_entry_81 : decode cX9_entry 81 = .ok (.aload_n 3, 1) := by decide +kernel
theorem dX9_entry_82 : decode cX9_entry 82 = .ok (.getfield 187, 3) := by decide +kernel
theorem dX9_entry_85 : decode cX9_entry 85 = .ok (.ireturn, 1) := by decide +kernel
theorem dX9_entry_86 : decode cX9_entry 86 = .ok (.aload_n 3, 1) := by decide +kernel
theorem dX9_entry_87 : decode cX9_entry 87 = .ok (.getfield 176, 3) := by decide +kernel
theorem dX9_entry_90 : decode cX9_entry 90 = .ok (.ifCond .eq 7, 3) := by decide +kernel
theorem dX9_entry_93 : decode cX9_entry 93 = .ok (.iconst 1, 1) := by decide +kernel
theorem dX9_entry_94 : decode cX9_entry 94 = .ok (.goto 4, 3) := by decide +kernel
theorem dX9_entry_97 : decode cX9_entry 97 = .ok (.iconst 0, 1) := by decide +kernel
theorem dX9_entry_98 : decode cX9_entry 98 = .ok (.ireturn, 1) := by decide +kernel
theorem dX9_entry_99 : decode cX9_entry 99 = .ok (.ldc 115, 2) := by decide +kernel
theorem dX9_entry_101 : decode cX9_entry 101 = .ok (.ireturn, 1) := by decide +kernel
set_option maxRecDepth 20000 in
theorem ggX9_latest_X9_homeAt : GoodIn wsX9_latest wsX9_homeAt := goodIn_r _ [5, 6, 7, 8, 4, 9, 17, 18, 19, 20, 21, 22, 23, 24, 25, 26, 27, 28] (by decide +kernel) (by decide +kernel)
set_option maxRecDepth 20000 in
theorem gX9_latest_X9_homeAt : GoodIn wsX9_latest (wsV RX9 66 RX9 yX9_homeAt wsX9_homeAt) := goodIn_app (goodIn_of _ (by decide +kernel)) ggX9_latest_X9_homeAt
set_option maxRecDepth 20000 in
theorem ggX9_latest_X9_latestStanding : GoodIn wsX9_latest wsX9_latestStanding := goodIn_r _ [13, 14, 15, 16, 17, 18, 19, 20, 21, 22, 23, 24, 25, 26, 27, 28, 29, 30, 31, 32, 33, 34, 35, 36, 37] (by decide +kernel) (by decide +kernel)
set_option maxRecDepth 20000 in
theorem gX9_latest_X9_latestStanding : GoodIn wsX9_latest (wsV RX9 166 RX9 yX9_latestStanding wsX9_latestStanding) := goodIn_app (goodIn_of _ (by decide +kernel)) ggX9_latest_X9_latestStanding
theorem dX9_latest_0 : decode cX9_latest 0 = .ok (.aload_n 0, 1) := by decide +kernel
theorem dX9_latest_1 : decode cX9_latest 1 = .ok (.iload_n 1, 1) := by decide +kernel
theorem dX9_latest_2 : decode cX9_latest 2 = .ok (.invokevirtual 66, 3) := by decide +kernel
theorem dX9_latest_5 : decode cX9_latest 5 = .ok (.ifnonnull 5, 3) := by decide +kernel
theorem dX9_latest_8 : decode cX9_latest 8 = .ok (.iconst (-1), 1) := by decide +kernel
theorem dX9_latest_9 : decode cX9_latest 9 = .ok (.ireturn, 1) := by decide +kernel
theorem dX9_latest_10 : decode cX9_latest 10 = .ok (.aload_n 0, 1) := by decide +kernel
theorem dX9_latest_11 : decode cX9_latest 11 = .ok (.iload_n 1, 1) := by decide +kernel
theorem dX9_latest_12 : decode cX9_latest 12 = .ok (.invokevirtual 166, 3) := by decide +kernel
theorem dX9_latest_15 : decode cX9_latest 15 = .ok (.ireturn, 1) := by decide +kernel
set_option maxRecDepth 20000 in
theorem ggX9_due_X9_homeAt : GoodIn wsX9_due wsX9_homeAt := goodIn_r _ [7, 8, 9, 10, 6, 11, 61, 62, 63, 64, 65, 66, 67, 68, 69, 70, 71, 72] (by decide +kernel) (by decide +kernel)
set_option maxRecDepth 20000 in
theorem gX9_due_X9_homeAt : GoodIn wsX9_due (wsV RX9 66 RX9 yX9_homeAt wsX9_homeAt) := goodIn_app (goodIn_of _ (by decide +kernel)) ggX9_due_X9_homeAt
set_option maxRecDepth 20000 in
theorem ggX9_due_X9_within : GoodIn wsX9_due wsX9_within := goodIn_r _ [11] (by decide +kernel) (by decide +kernel)
set_option maxRecDepth 20000 in
theorem gX9_due_X9_within : GoodIn wsX9_due (va_wsS RX9 51 yX9_within wsX9_within) := goodIn_app (goodIn_of _ (by decide +kernel)) ggX9_due_X9_within
set_option maxRecDepth 20000 in
theorem ggX9_due_X5_covers : GoodIn wsX9_due wsX5_covers := goodIn_r _ [16, 17, 18, 19, 20, 15, 21, 22, 77, 78, 79, 80, 81] (by decide +kernel) (by decide +kernel)
set_option maxRecDepth 20000 in
theorem gX9_due_X5_covers : GoodIn wsX9_due (wsV RX9 188 RX5 yX5_covers wsX5_covers) := goodIn_app (goodIn_of _ (by decide +kernel)) ggX9_due_X5_covers
set_option maxRecDepth 20000 in
theorem ggX9_due_X9_workDues : GoodIn wsX9_due wsX9_workDues := goodIn_r _ [26, 27, 28, 29, 30, 31, 32, 33, 34, 35, 36, 37, 38, 39, 40, 41, 42, 43, 44, 45, 46, 47, 48, 49, 50, 51, 52, 53, 54, 55, 56, 57, 58, 59, 60, 10, 6, 11, 77, 78, 79, 80, 81, 61, 62, 63, 64, 65, 66, 67, 68, 69, 70, 71, 72, 82, 83, 84, 85, 86, 87, 88, 89, 90, 91] (by decide +kernel) (by decide +kernel)
set_option maxRecDepth 20000 in
theorem gX9_due_X9_workDues : GoodIn wsX9_due (wsV RX9 192 RX9 yX9_workDues wsX9_workDues) := goodIn_app (goodIn_of _ (by decide +kernel)) ggX9_due_X9_workDues
theorem dX9_due_0 : decode cX9_due 0 = .ok (.aload_n 0, 1) := by decide +kernel
theorem dX9_due_1 : decode cX9_due 1 = .ok (.iload_n 1, 1) := by decide +kernel
theorem dX9_due_2 : decode cX9_due 2 = .ok (.invokevirtual 66, 3) := by decide +kernel
theorem dX9_due_5 : decode cX9_due 5 = .ok (.astore_n 3, 1) := by decide +kernel
theorem dX9_due_6 : decode cX9_due 6 = .ok (.aload_n 3, 1) := by decide +kernel
theorem dX9_due_7 : decode cX9_due 7 = .ok (.ifnull 15, 3) := by decide +kernel
theorem dX9_due_10 : decode cX9_due 10 = .ok (.iload_n 2, 1) := by decide +kernel
theorem dX9_due_11 : decode cX9_due 11 = .ok (.iconst 0, 1) := by decide +kernel
theorem dX9_due_12 : decode cX9_due 12 = .ok (.aload_n 0, 1) := by decide +kernel
theorem dX9_due_13 : decode cX9_due 13 = .ok (.getfield 94, 3) := by decide +kernel
theorem dX9_due_16 : decode cX9_due 16 = .ok (.invokestatic 51, 3) := by decide +kernel
theorem dX9_due_19 : decode cX9_due 19 = .ok (.ifCond .ne 5, 3) := by decide +kernel
theorem dX9_due_22 : decode cX9_due 22 = .ok (.iconst (-1), 1) := by decide +kernel
theorem dX9_due_23 : decode cX9_due 23 = .ok (.ireturn, 1) := by decide +kernel
theorem dX9_due_24 : decode cX9_due 24 = .ok (.aload_n 3, 1) := by decide +kernel
theorem dX9_due_25 : decode cX9_due 25 = .ok (.getfield 135, 3) := by decide +kernel
theorem dX9_due_28 : decode cX9_due 28 = .ok (.iload_n 2, 1) := by decide +kernel
theorem dX9_due_29 : decode cX9_due 29 = .ok (.invokevirtual 188, 3) := by decide +kernel
theorem dX9_due_32 : decode cX9_due 32 = .ok (.ifCond .ne 6, 3) := by decide +kernel
theorem dX9_due_35 : decode cX9_due 35 = .ok (.bipush (-2), 2) := by decide +kernel
theorem dX9_due_37 : decode cX9_due 37 = .ok (.ireturn, 1) := by decide +kernel
theorem dX9_due_38 : decode cX9_due 38 = .ok (.aload_n 0, 1) := by decide +kernel
theorem dX9_due_39 : decode cX9_due 39 = .ok (.iload_n 1, 1) := by decide +kernel
theorem dX9_due_40 : decode cX9_due 40 = .ok (.aload_n 3, 1) := by decide +kernel
theorem dX9_due_41 : decode cX9_due 41 = .ok (.getfield 135, 3) := by decide +kernel
theorem dX9_due_44 : decode cX9_due 44 = .ok (.iload_n 2, 1) := by decide +kernel
theorem dX9_due_45 : decode cX9_due 45 = .ok (.invokevirtual 192, 3) := by decide +kernel
theorem dX9_due_48 : decode cX9_due 48 = .ok (.ireturn, 1) := by decide +kernel
set_option maxRecDepth 20000 in
theorem ggX9_pay_X9_homeAt : GoodIn wsX9_pay wsX9_homeAt := goodIn_r _ [10, 11, 12, 13, 9, 14, 36, 37, 38, 39, 40, 41, 42, 43, 44, 45, 46, 47] (by decide +kernel) (by decide +kernel)
set_option maxRecDepth 20000 in
theorem gX9_pay_X9_homeAt : GoodIn wsX9_pay (wsV RX9 66 RX9 yX9_homeAt wsX9_homeAt) := goodIn_app (goodIn_of _ (by decide +kernel)) ggX9_pay_X9_homeAt
set_option maxRecDepth 20000 in
theorem ggX9_pay_X9_within : GoodIn wsX9_pay wsX9_within := goodIn_r _ [14] (by decide +kernel) (by decide +kernel)
set_option maxRecDepth 20000 in
theorem gX9_pay_X9_within : GoodIn wsX9_pay (va_wsS RX9 51 yX9_within wsX9_within) := goodIn_app (goodIn_of _ (by decide +kernel)) ggX9_pay_X9_within
set_option maxRecDepth 20000 in
theorem ggX9_pay_X5_isLet : GoodIn wsX9_pay wsX5_isLet := goodIn_r _ [19, 20, 31, 32, 33, 34, 35] (by decide +kernel) (by decide +kernel)
set_option maxRecDepth 20000 in
theorem gX9_pay_X5_isLet : GoodIn wsX9_pay (wsV RX9 145 RX5 yX5_isLet wsX5_isLet) := goodIn_app (goodIn_of _ (by decide +kernel)) ggX9_pay_X5_isLet
set_option maxRecDepth 20000 in
theorem ggX9_pay_X5_take : GoodIn wsX9_pay wsX5_take := goodIn_r _ [24, 25, 26, 13, 9, 14, 31, 32, 33, 34, 35] (by decide +kernel) (by decide +kernel)
set_option maxRecDepth 20000 in
theorem gX9_pay_X5_take : GoodIn wsX9_pay (wsV RX9 201 RX5 yX5_take wsX5_take) := goodIn_app (goodIn_of _ (by decide +kernel)) ggX9_pay_X5_take
theorem dX9_pay_0 : decode cX9_pay 0 = .ok (.aload_n 0, 1) := by decide +kernel
theorem dX9_pay_1 : decode cX9_pay 1 = .ok (.iload_n 1, 1) := by decide +kernel
theorem dX9_pay_2 : decode cX9_pay 2 = .ok (.invokevirtual 66, 3) := by decide +kernel
theorem dX9_pay_5 : decode cX9_pay 5 = .ok (.astore_n 3, 1) := by decide +kernel
theorem dX9_pay_6 : decode cX9_pay 6 = .ok (.aload_n 3, 1) := by decide +kernel
theorem dX9_pay_7 : decode cX9_pay 7 = .ok (.ifnull 13, 3) := by decide +kernel
theorem dX9_pay_10 : decode cX9_pay 10 = .ok (.iload_n 2, 1) := by decide +kernel
theorem dX9_pay_11 : decode cX9_pay 11 = .ok (.iconst 0, 1) := by decide +kernel
theorem dX9_pay_12 : decode cX9_pay 12 = .ok (.ldc 196, 2) := by decide +kernel
theorem dX9_pay_14 : decode cX9_pay 14 = .ok (.invokestatic 51, 3) := by decide +kernel
theorem dX9_pay_17 : decode cX9_pay 17 = .ok (.ifCond .ne 5, 3) := by decide +kernel
theorem dX9_pay_20 : decode cX9_pay 20 = .ok (.iconst (-1), 1) := by decide +kernel
theorem dX9_pay_21 : decode cX9_pay 21 = .ok (.ireturn, 1) := by decide +kernel
theorem dX9_pay_22 : decode cX9_pay 22 = .ok (.aload_n 3, 1) := by decide +kernel
theorem dX9_pay_23 : decode cX9_pay 23 = .ok (.getfield 135, 3) := by decide +kernel
theorem dX9_pay_26 : decode cX9_pay 26 = .ok (.invokevirtual 145, 3) := by decide +kernel
theorem dX9_pay_29 : decode cX9_pay 29 = .ok (.ifCond .ne 6, 3) := by decide +kernel
theorem dX9_pay_32 : decode cX9_pay 32 = .ok (.bipush (-2), 2) := by decide +kernel
theorem dX9_pay_34 : decode cX9_pay 34 = .ok (.ireturn, 1) := by decide +kernel
theorem dX9_pay_35 : decode cX9_pay 35 = .ok (.aload_n 3, 1) := by decide +kernel
theorem dX9_pay_36 : decode cX9_pay 36 = .ok (.getfield 135, 3) := by decide +kernel
theorem dX9_pay_39 : decode cX9_pay 39 = .ok (.getfield 197, 3) := by decide +kernel
theorem dX9_pay_42 : decode cX9_pay 42 = .ok (.iload_n 2, 1) := by decide +kernel
theorem dX9_pay_43 : decode cX9_pay 43 = .ok (.iadd, 1) := by decide +kernel
theorem dX9_pay_44 : decode cX9_pay 44 = .ok (.ldc 200, 2) := by decide +kernel
theorem dX9_pay_46 : decode cX9_pay 46 = .ok (.if_icmp .le 6, 3) := by decide +kernel
theorem dX9_pay_49 : decode cX9_pay 49 = .ok (.bipush (-3), 2) := by decide +kernel
theorem dX9_pay_51 : decode cX9_pay 51 = .ok (.ireturn, 1) := by decide +kernel
theorem dX9_pay_52 : decode cX9_pay 52 = .ok (.aload_n 3, 1) := by decide +kernel
theorem dX9_pay_53 : decode cX9_pay 53 = .ok (.getfield 135, 3) := by decide +kernel
theorem dX9_pay_56 : decode cX9_pay 56 = .ok (.aload_n 0, 1) := by decide +kernel
theorem dX9_pay_57 : decode cX9_pay 57 = .ok (.getfield 94, 3) := by decide +kernel
theorem dX9_pay_60 : decode cX9_pay 60 = .ok (.iload_n 2, 1) := by decide +kernel
theorem dX9_pay_61 : decode cX9_pay 61 = .ok (.invokevirtual 201, 3) := by decide +kernel
theorem dX9_pay_64 : decode cX9_pay 64 = .ok (.aload_n 3, 1) := by decide +kernel
theorem dX9_pay_65 : decode cX9_pay 65 = .ok (.getfield 135, 3) := by decide +kernel
theorem dX9_pay_68 : decode cX9_pay 68 = .ok (.getfield 197, 3) := by decide +kernel
theorem dX9_pay_71 : decode cX9_pay 71 = .ok (.ireturn, 1) := by decide +kernel
set_option maxRecDepth 20000 in
theorem ggX9_owed_X9_homeAt : GoodIn wsX9_owed wsX9_homeAt := goodIn_r _ [14, 15, 16, 17, 13, 18, 67, 68, 69, 70, 71, 72, 73, 74, 75, 76, 77, 78] (by decide +kernel) (by decide +kernel)
set_option maxRecDepth 20000 in
theorem gX9_owed_X9_homeAt : GoodIn wsX9_owed (wsV RX9 66 RX9 yX9_homeAt wsX9_homeAt) := goodIn_app (goodIn_of _ (by decide +kernel)) ggX9_owed_X9_homeAt
set_option maxRecDepth 20000 in
theorem ggX9_owed_X9_within : GoodIn wsX9_owed wsX9_within := goodIn_r _ [18] (by decide +kernel) (by decide +kernel)
set_option maxRecDepth 20000 in
theorem gX9_owed_X9_within : GoodIn wsX9_owed (va_wsS RX9 51 yX9_within wsX9_within) := goodIn_app (goodIn_of _ (by decide +kernel)) ggX9_owed_X9_within
set_option maxRecDepth 20000 in
theorem ggX9_owed_X5_covers : GoodIn wsX9_owed wsX5_covers := goodIn_r _ [23, 24, 25, 26, 27, 22, 28, 29, 83, 84, 85, 86, 87] (by decide +kernel) (by decide +kernel)
set_option maxRecDepth 20000 in
theorem gX9_owed_X5_covers : GoodIn wsX9_owed (wsV RX9 188 RX5 yX5_covers wsX5_covers) := goodIn_app (goodIn_of _ (by decide +kernel)) ggX9_owed_X5_covers
set_option maxRecDepth 20000 in
theorem ggX9_owed_X9_workDues : GoodIn wsX9_owed wsX9_workDues := goodIn_r _ [33, 34, 4, 5, 6, 7, 8, 9, 35, 36, 37, 38, 39, 40, 41, 42, 43, 44, 45, 46, 47, 48, 49, 50, 51, 52, 53, 54, 55, 56, 57, 58, 59, 60, 61, 17, 13, 18, 83, 84, 85, 86, 87, 67, 68, 69, 70, 71, 72, 73, 74, 75, 76, 77, 78, 88, 89, 90, 91, 92, 93, 94, 95, 96, 97] (by decide +kernel) (by decide +kernel)
set_option maxRecDepth 20000 in
theorem gX9_owed_X9_workDues : GoodIn wsX9_owed (wsV RX9 192 RX9 yX9_workDues wsX9_workDues) := goodIn_app (goodIn_of _ (by decide +kernel)) ggX9_owed_X9_workDues
set_option maxRecDepth 20000 in
theorem ggX9_owed_X5_paidOn : GoodIn wsX9_owed wsX5_paidOn := goodIn_r _ [65, 66, 17, 13, 18, 83, 84, 85, 86, 87] (by decide +kernel) (by decide +kernel)
set_option maxRecDepth 20000 in
theorem gX9_owed_X5_paidOn : GoodIn wsX9_owed (wsV RX9 207 RX5 yX5_paidOn wsX5_paidOn) := goodIn_app (goodIn_of _ (by decide +kernel)) ggX9_owed_X5_paidOn
theorem dX9_owed_0 : decode cX9_owed 0 = .ok (.aload_n 0, 1) := by decide +kernel
theorem dX9_owed_1 : decode cX9_owed 1 = .ok (.iload_n 1, 1) := by decide +kernel
theorem dX9_owed_2 : decode cX9_owed 2 = .ok (.invokevirtual 66, 3) := by decide +kernel
theorem dX9_owed_5 : decode cX9_owed 5 = .ok (.astore_n 3, 1) := by decide +kernel
theorem dX9_owed_6 : decode cX9_owed 6 = .ok (.aload_n 3, 1) := by decide +kernel
theorem dX9_owed_7 : decode cX9_owed 7 = .ok (.ifnull 26, 3) := by decide +kernel
theorem dX9_owed_10 : decode cX9_owed 10 = .ok (.iload_n 2, 1) := by decide +kernel
theorem dX9_owed_11 : decode cX9_owed 11 = .ok (.iconst 0, 1) := by decide +kernel
theorem dX9_owed_12 : decode cX9_owed 12 = .ok (.aload_n 0, 1) := by decide +kernel
theorem dX9_owed_13 : decode cX9_owed 13 = .ok (.getfield 94, 3) := by decide +kernel
theorem dX9_owed_16 : decode cX9_owed 16 = .ok (.invokestatic 51, 3) := by decide +kernel
theorem dX9_owed_19 : decode cX9_owed 19 = .ok (.ifCond .eq 14, 3) := by decide +kernel
theorem dX9_owed_22 : decode cX9_owed 22 = .ok (.aload_n 3, 1) := by decide +kernel
theorem dX9_owed_23 : decode cX9_owed 23 = .ok (.getfield 135, 3) := by decide +kernel
theorem dX9_owed_26 : decode cX9_owed 26 = .ok (.iload_n 2, 1) := by decide +kernel
theorem dX9_owed_27 : decode cX9_owed 27 = .ok (.invokevirtual 188, 3) := by decide +kernel
theorem dX9_owed_30 : decode cX9_owed 30 = .ok (.ifCond .ne 6, 3) := by decide +kernel
theorem dX9_owed_33 : decode cX9_owed 33 = .ok (.ldc 115, 2) := by decide +kernel
theorem dX9_owed_35 : decode cX9_owed 35 = .ok (.ireturn, 1) := by decide +kernel
theorem dX9_owed_36 : decode cX9_owed 36 = .ok (.aload_n 3, 1) := by decide +kernel
theorem dX9_owed_37 : decode cX9_owed 37 = .ok (.getfield 135, 3) := by decide +kernel
theorem dX9_owed_40 : decode cX9_owed 40 = .ok (.astore 4, 2) := by decide +kernel
theorem dX9_owed_42 : decode cX9_owed 42 = .ok (.aload_n 0, 1) := by decide +kernel
theorem dX9_owed_43 : decode cX9_owed 43 = .ok (.iload_n 1, 1) := by decide +kernel
theorem dX9_owed_44 : decode cX9_owed 44 = .ok (.aload 4, 2) := by decide +kernel
theorem dX9_owed_46 : decode cX9_owed 46 = .ok (.iload_n 2, 1) := by decide +kernel
theorem dX9_owed_47 : decode cX9_owed 47 = .ok (.invokevirtual 192, 3) := by decide +kernel
theorem dX9_owed_50 : decode cX9_owed 50 = .ok (.pop, 1) := by decide +kernel
theorem dX9_owed_51 : decode cX9_owed 51 = .ok (.iconst 0, 1) := by decide +kernel
theorem dX9_owed_52 : decode cX9_owed 52 = .ok (.istore 5, 2) := by decide +kernel
theorem dX9_owed_54 : decode cX9_owed 54 = .ok (.aload 4, 2) := by decide +kernel
theorem dX9_owed_56 : decode cX9_owed 56 = .ok (.getfield 204, 3) := by decide +kernel
theorem dX9_owed_59 : decode cX9_owed 59 = .ok (.iconst 0, 1) := by decide +kernel
theorem dX9_owed_60 : decode cX9_owed 60 = .ok (.invokestatic 160, 3) := by decide +kernel
theorem dX9_owed_63 : decode cX9_owed 63 = .ok (.istore 6, 2) := by decide +kernel
theorem dX9_owed_65 : decode cX9_owed 65 = .ok (.iload 6, 2) := by decide +kernel
theorem dX9_owed_67 : decode cX9_owed 67 = .ok (.iload_n 2, 1) := by decide +kernel
theorem dX9_owed_68 : decode cX9_owed 68 = .ok (.if_icmp .gt 39, 3) := by decide +kernel
theorem dX9_owed_71 : decode cX9_owed 71 = .ok (.iload 6, 2) := by decide +kernel
theorem dX9_owed_73 : decode cX9_owed 73 = .ok (.aload_n 0, 1) := by decide +kernel
theorem dX9_owed_74 : decode cX9_owed 74 = .ok (.getfield 47, 3) := by decide +kernel
theorem dX9_owed_77 : decode cX9_owed 77 = .ok (.arraylength, 1) := by decide +kernel
theorem dX9_owed_78 : decode cX9_owed 78 = .ok (.if_icmp .ge 29, 3) := by decide +kernel
theorem dX9_owed_81 : decode cX9_owed 81 = .ok (.iload 5, 2) := by decide +kernel
theorem dX9_owed_83 : decode cX9_owed 83 = .ok (.aload_n 0, 1) := by decide +kernel
theorem dX9_owed_84 : decode cX9_owed 84 = .ok (.getfield 47, 3) := by decide +kernel
theorem dX9_owed_87 : decode cX9_owed 87 = .ok (.iload 6, 2) := by decide +kernel
theorem dX9_owed_89 : decode cX9_owed 89 = .ok (.iaload, 1) := by decide +kernel
theorem dX9_owed_90 : decode cX9_owed 90 = .ok (.aload 4, 2) := by decide +kernel
theorem dX9_owed_92 : decode cX9_owed 92 = .ok (.iload 6, 2) := by decide +kernel
theorem dX9_owed_94 : decode cX9_owed 94 = .ok (.invokevirtual 207, 3) := by decide +kernel
theorem dX9_owed_97 : decode cX9_owed 97 = .ok (.isub, 1) := by decide +kernel
theorem dX9_owed_98 : decode cX9_owed 98 = .ok (.iadd, 1) := by decide +kernel
theorem dX9_owed_99 : decode cX9_owed 99 = .ok (.istore 5, 2) := by decide +kernel
theorem dX9_owed_101 : decode cX9_owed 101 = .ok (.iinc 6 1, 3) := by decide +kernel
theorem dX9_owed_104 : decode cX9_owed 104 = .ok (.goto (-39), 3) := by decide +kernel
theorem dX9_owed_107 : decode cX9_owed 107 = .ok (.iload 5, 2) := by decide +kernel
theorem dX9_owed_109 : decode cX9_owed 109 = .ok (.ireturn, 1) := by decide +kernel
set_option maxRecDepth 20000 in
theorem ggX9_count_X9_homesLet : GoodIn wsX9_count wsX9_homesLet := goodIn_r _ [9, 10, 11, 12, 13, 14, 15, 16, 17, 23, 24, 25, 26, 27, 28, 29, 30, 31, 32, 33, 34, 35, 36, 37, 38, 39, 40, 41, 42, 43] (by decide +kernel) (by decide +kernel)
set_option maxRecDepth 20000 in
theorem gX9_count_X9_homesLet : GoodIn wsX9_count (wsV RX9 210 RX9 yX9_homesLet wsX9_homesLet) := goodIn_app (goodIn_of _ (by decide +kernel)) ggX9_count_X9_homesLet
set_option maxRecDepth 20000 in
theorem ggX9_count_X9_lawsTold : GoodIn wsX9_count wsX9_lawsTold := goodIn_r _ [21, 22, 23, 24, 25, 26, 27, 28, 29, 30, 31, 32, 33, 34] (by decide +kernel) (by decide +kernel)
set_option maxRecDepth 20000 in
theorem gX9_count_X9_lawsTold : GoodIn wsX9_count (wsV RX9 213 RX9 yX9_lawsTold wsX9_lawsTold) := goodIn_app (goodIn_of _ (by decide +kernel)) ggX9_count_X9_lawsTold
theorem dX9_count_0 : decode cX9_count 0 = .ok (.iload_n 1, 1) := by decide +kernel
theorem dX9_count_1 : decode cX9_count 1 = .ok (.tableswitch 69 0 5 #[39, 44, 49, 54, 59, 64], 39) := by decide +kernel
theorem dX9_count_40 : decode cX9_count 40 = .ok (.aload_n 0, 1) := by decide +kernel
theorem dX9_count_41 : decode cX9_count 41 = .ok (.getfield 55, 3) := by decide +kernel
theorem dX9_count_44 : decode cX9_count 44 = .ok (.ireturn, 1) := by decide +kernel
theorem dX9_count_45 : decode cX9_count 45 = .ok (.aload_n 0, 1) := by decide +kernel
theorem dX9_count_46 : decode cX9_count 46 = .ok (.getfield 105, 3) := by decide +kernel
theorem dX9_count_49 : decode cX9_count 49 = .ok (.ireturn, 1) := by decide +kernel
theorem dX9_count_50 : decode cX9_count 50 = .ok (.aload_n 0, 1) := by decide +kernel
theorem dX9_count_51 : decode cX9_count 51 = .ok (.getfield 152, 3) := by decide +kernel
theorem dX9_count_54 : decode cX9_count 54 = .ok (.ireturn, 1) := by decide +kernel
theorem dX9_count_55 : decode cX9_count 55 = .ok (.aload_n 0, 1) := by decide +kernel
theorem dX9_count_56 : decode cX9_count 56 = .ok (.getfield 94, 3) := by decide +kernel
theorem dX9_count_59 : decode cX9_count 59 = .ok (.ireturn, 1) := by decide +kernel
theorem dX9_count_60 : decode cX9_count 60 = .ok (.aload_n 0, 1) := by decide +kernel
theorem dX9_count_61 : decode cX9_count 61 = .ok (.invokevirtual 210, 3) := by decide +kernel
theorem dX9_count_64 : decode cX9_count 64 = .ok (.ireturn, 1) := by decide +kernel
theorem dX9_count_65 : decode cX9_count 65 = .ok (.aload_n 0, 1) := by decide +kernel
theorem dX9_count_66 : decode cX9_count 66 = .ok (.invokevirtual 213, 3) := by decide +kernel
theorem dX9_count_69 : decode cX9_count 69 = .ok (.ireturn, 1) := by decide +kernel
theorem dX9_count_70 : decode cX9_count 70 = .ok (.iconst (-1), 1) := by decide +kernel
theorem dX9_count_71 : decode cX9_count 71 = .ok (.ireturn, 1) := by decide +kernel
theorem dX9_trace_0 : decode cX9_trace 0 = .ok (.aload_n 0, 1) := by decide +kernel
theorem dX9_trace_1 : decode cX9_trace 1 = .ok (.getfield 73, 3) := by decide +kernel
theorem dX9_trace_4 : decode cX9_trace 4 = .ok (.lreturn, 1) := by decide +kernel
theorem dX9_within_0 : decode cX9_within 0 = .ok (.iload_n 0, 1) := by decide +kernel
theorem dX9_within_1 : decode cX9_within 1 = .ok (.iload_n 1, 1) := by decide +kernel
theorem dX9_within_2 : decode cX9_within 2 = .ok (.if_icmp .lt 12, 3) := by decide +kernel
theorem dX9_within_5 : decode cX9_within 5 = .ok (.iload_n 0, 1) := by decide +kernel
theorem dX9_within_6 : decode cX9_within 6 = .ok (.iload_n 2, 1) := by decide +kernel
theorem dX9_within_7 : decode cX9_within 7 = .ok (.if_icmp .gt 7, 3) := by decide +kernel
theorem dX9_within_10 : decode cX9_within 10 = .ok (.iconst 1, 1) := by decide +kernel
theorem dX9_within_11 : decode cX9_within 11 = .ok (.goto 4, 3) := by decide +kernel
theorem dX9_within_14 : decode cX9_within 14 = .ok (.iconst 0, 1) := by decide +kernel
theorem dX9_within_15 : decode cX9_within 15 = .ok (.ireturn, 1) := by decide +kernel
set_option maxRecDepth 20000 in
theorem ggX9_lawful_X9_within : GoodIn wsX9_lawful wsX9_within := goodIn_r _ [6] (by decide +kernel) (by decide +kernel)
set_option maxRecDepth 20000 in
theorem gX9_lawful_X9_within : GoodIn wsX9_lawful (va_wsS RX9 51 yX9_within wsX9_within) := goodIn_app (goodIn_of _ (by decide +kernel)) ggX9_lawful_X9_within
theorem dX9_lawful_0 : decode cX9_lawful 0 = .ok (.iconst 0, 1) := by decide +kernel
theorem dX9_lawful_1 : decode cX9_lawful 1 = .ok (.istore_n 1, 1) := by decide +kernel
theorem dX9_lawful_2 : decode cX9_lawful 2 = .ok (.iload_n 1, 1) := by decide +kernel
theorem dX9_lawful_3 : decode cX9_lawful 3 = .ok (.aload_n 0, 1) := by decide +kernel
theorem dX9_lawful_4 : decode cX9_lawful 4 = .ok (.arraylength, 1) := by decide +kernel
theorem dX9_lawful_5 : decode cX9_lawful 5 = .ok (.if_icmp .ge 46, 3) := by decide +kernel
theorem dX9_lawful_8 : decode cX9_lawful 8 = .ok (.iload_n 1, 1) := by decide +kernel
theorem dX9_lawful_9 : decode cX9_lawful 9 = .ok (.getstatic 216, 3) := by decide +kernel
theorem dX9_lawful_12 : decode cX9_lawful 12 = .ok (.arraylength, 1) := by decide +kernel
theorem dX9_lawful_13 : decode cX9_lawful 13 = .ok (.if_icmp .ge 38, 3) := by decide +kernel
theorem dX9_lawful_16 : decode cX9_lawful 16 = .ok (.iload_n 1, 1) := by decide +kernel
theorem dX9_lawful_17 : decode cX9_lawful 17 = .ok (.getstatic 219, 3) := by decide +kernel
theorem dX9_lawful_20 : decode cX9_lawful 20 = .ok (.arraylength, 1) := by decide +kernel
theorem dX9_lawful_21 : decode cX9_lawful 21 = .ok (.if_icmp .ge 30, 3) := by decide +kernel
theorem dX9_lawful_24 : decode cX9_lawful 24 = .ok (.aload_n 0, 1) := by decide +kernel
theorem dX9_lawful_25 : decode cX9_lawful 25 = .ok (.iload_n 1, 1) := by decide +kernel
theorem dX9_lawful_26 : decode cX9_lawful 26 = .ok (.iaload, 1) := by decide +kernel
theorem dX9_lawful_27 : decode cX9_lawful 27 = .ok (.getstatic 216, 3) := by decide +kernel
theorem dX9_lawful_30 : decode cX9_lawful 30 = .ok (.iload_n 1, 1) := by decide +kernel
theorem dX9_lawful_31 : decode cX9_lawful 31 = .ok (.iaload, 1) := by decide +kernel
theorem dX9_lawful_32 : decode cX9_lawful 32 = .ok (.getstatic 219, 3) := by decide +kernel
theorem dX9_lawful_35 : decode cX9_lawful 35 = .ok (.iload_n 1, 1) := by decide +kernel
theorem dX9_lawful_36 : decode cX9_lawful 36 = .ok (.iaload, 1) := by decide +kernel
theorem dX9_lawful_37 : decode cX9_lawful 37 = .ok (.invokestatic 51, 3) := by decide +kernel
theorem dX9_lawful_40 : decode cX9_lawful 40 = .ok (.ifCond .ne 5, 3) := by decide +kernel
theorem dX9_lawful_43 : decode cX9_lawful 43 = .ok (.iconst 0, 1) := by decide +kernel
theorem dX9_lawful_44 : decode cX9_lawful 44 = .ok (.ireturn, 1) := by decide +kernel
theorem dX9_lawful_45 : decode cX9_lawful 45 = .ok (.iinc 1 1, 3) := by decide +kernel
theorem dX9_lawful_48 : decode cX9_lawful 48 = .ok (.goto (-46), 3) := by decide +kernel
theorem dX9_lawful_51 : decode cX9_lawful 51 = .ok (.iconst 1, 1) := by decide +kernel
theorem dX9_lawful_52 : decode cX9_lawful 52 = .ok (.ireturn, 1) := by decide +kernel
set_option maxRecDepth 20000 in
theorem ggX9_bodyOf_X8_init : GoodIn wsX9_bodyOf wsX8_init := goodIn_r _ [12, 13, 14, 15, 16, 27, 28, 29, 30, 26] (by decide +kernel) (by decide +kernel)
set_option maxRecDepth 20000 in
theorem gX9_bodyOf_X8_init : GoodIn wsX9_bodyOf (wsX8_init) := ggX9_bodyOf_X8_init
set_option maxRecDepth 20000 in
theorem ggX9_bodyOf_X1_init : GoodIn wsX9_bodyOf wsX1_init := goodIn_r _ [19, 20, 21, 11, 3, 12, 13, 14, 15, 16, 27, 28, 29, 30, 26] (by decide +kernel) (by decide +kernel)
set_option maxRecDepth 20000 in
theorem gX9_bodyOf_X1_init : GoodIn wsX9_bodyOf (wsX1_init) := ggX9_bodyOf_X1_init
set_option maxRecDepth 20000 in
theorem ggX9_bodyOf_X7_init : GoodIn wsX9_bodyOf wsX7_init := goodIn_r _ [24, 25, 18, 6, 19, 20, 21, 11, 3, 12, 13, 14, 15, 16, 27, 28, 29, 30, 26] (by decide +kernel) (by decide +kernel)
set_option maxRecDepth 20000 in
theorem gX9_bodyOf_X7_init : GoodIn wsX9_bodyOf (wsX7_init) := ggX9_bodyOf_X7_init
theorem dX9_bodyOf_0 : decode cX9_bodyOf 0 = .ok (.iload_n 0, 1) := by decide +kernel
theorem dX9_bodyOf_1 : decode cX9_bodyOf 1 = .ok (.lookupswitch 46 #[(0, 27), (1, 36)], 27) := by decide +kernel
theorem dX9_bodyOf_28 : decode cX9_bodyOf 28 = .ok (.new 82, 3) := by decide +kernel
theorem dX9_bodyOf_31 : decode cX9_bodyOf 31 = .ok (.dup, 1) := by decide +kernel
theorem dX9_bodyOf_32 : decode cX9_bodyOf 32 = .ok (.iload_n 1, 1) := by decide +kernel
theorem dX9_bodyOf_33 : decode cX9_bodyOf 33 = .ok (.invokespecial 222, 3) := by decide +kernel
theorem dX9_bodyOf_36 : decode cX9_bodyOf 36 = .ok (.areturn, 1) := by decide +kernel
theorem dX9_bodyOf_37 : decode cX9_bodyOf 37 = .ok (.new 225, 3) := by decide +kernel
theorem dX9_bodyOf_40 : decode cX9_bodyOf 40 = .ok (.dup, 1) := by decide +kernel
theorem dX9_bodyOf_41 : decode cX9_bodyOf 41 = .ok (.iload_n 1, 1) := by decide +kernel
theorem dX9_bodyOf_42 : decode cX9_bodyOf 42 = .ok (.iload_n 2, 1) := by decide +kernel
theorem dX9_bodyOf_43 : decode cX9_bodyOf 43 = .ok (.invokespecial 227, 3) := by decide +kernel
theorem dX9_bodyOf_46 : decode cX9_bodyOf 46 = .ok (.areturn, 1) := by decide +kernel
theorem dX9_bodyOf_47 : decode cX9_bodyOf 47 = .ok (.new 229, 3) := by decide +kernel
theorem dX9_bodyOf_50 : decode cX9_bodyOf 50 = .ok (.dup, 1) := by decide +kernel
theorem dX9_bodyOf_51 : decode cX9_bodyOf 51 = .ok (.iload_n 1, 1) := by decide +kernel
theorem dX9_bodyOf_52 : decode cX9_bodyOf 52 = .ok (.iload_n 2, 1) := by decide +kernel
theorem dX9_bodyOf_53 : decode cX9_bodyOf 53 = .ok (.invokespecial 231, 3) := by decide +kernel
theorem dX9_bodyOf_56 : decode cX9_bodyOf 56 = .ok (.areturn, 1) := by decide +kernel
set_option maxRecDepth 20000 in
theorem ggX9_homeAt_X9_within : GoodIn wsX9_homeAt wsX9_within := goodIn_r _ [5] (by decide +kernel) (by decide +kernel)
set_option maxRecDepth 20000 in
theorem gX9_homeAt_X9_within : GoodIn wsX9_homeAt (va_wsS RX9 51 yX9_within wsX9_within) := goodIn_app (goodIn_of _ (by decide +kernel)) ggX9_homeAt_X9_within
theorem dX9_homeAt_0 : decode cX9_homeAt 0 = .ok (.iload_n 1, 1) := by decide +kernel
theorem dX9_homeAt_1 : decode cX9_homeAt 1 = .ok (.iconst 0, 1) := by decide +kernel
theorem dX9_homeAt_2 : decode cX9_homeAt 2 = .ok (.aload_n 0, 1) := by decide +kernel
theorem dX9_homeAt_3 : decode cX9_homeAt 3 = .ok (.getfield 11, 3) := by decide +kernel
theorem dX9_homeAt_6 : decode cX9_homeAt 6 = .ok (.arraylength, 1) := by decide +kernel
theorem dX9_homeAt_7 : decode cX9_homeAt 7 = .ok (.iconst 1, 1) := by decide +kernel
theorem dX9_homeAt_8 : decode cX9_homeAt 8 = .ok (.isub, 1) := by decide +kernel
theorem dX9_homeAt_9 : decode cX9_homeAt 9 = .ok (.invokestatic 51, 3) := by decide +kernel
theorem dX9_homeAt_12 : decode cX9_homeAt 12 = .ok (.ifCond .eq 12, 3) := by decide +kernel
theorem dX9_homeAt_15 : decode cX9_homeAt 15 = .ok (.aload_n 0, 1) := by decide +kernel
theorem dX9_homeAt_16 : decode cX9_homeAt 16 = .ok (.getfield 11, 3) := by decide +kernel
theorem dX9_homeAt_19 : decode cX9_homeAt 19 = .ok (.iload_n 1, 1) := by decide +kernel
theorem dX9_homeAt_20 : decode cX9_homeAt 20 = .ok (.aaload, 1) := by decide +kernel
theorem dX9_homeAt_21 : decode cX9_homeAt 21 = .ok (.goto 4, 3) := by decide +kernel
theorem dX9_homeAt_24 : decode cX9_homeAt 24 = .ok (.aconst_null, 1) := by decide +kernel
theorem dX9_homeAt_25 : decode cX9_homeAt 25 = .ok (.areturn, 1) := by decide +kernel
set_option maxRecDepth 20000 in
theorem ggX9_entryAt_X9_within : GoodIn wsX9_entryAt wsX9_within := goodIn_r _ [5] (by decide +kernel) (by decide +kernel)
set_option maxRecDepth 20000 in
theorem gX9_entryAt_X9_within : GoodIn wsX9_entryAt (va_wsS RX9 51 yX9_within wsX9_within) := goodIn_app (goodIn_of _ (by decide +kernel)) ggX9_entryAt_X9_within
theorem dX9_entryAt_0 : decode cX9_entryAt 0 = .ok (.iload_n 1, 1) := by decide +kernel
theorem dX9_entryAt_1 : decode cX9_entryAt 1 = .ok (.iconst 0, 1) := by decide +kernel
theorem dX9_entryAt_2 : decode cX9_entryAt 2 = .ok (.aload_n 0, 1) := by decide +kernel
theorem dX9_entryAt_3 : decode cX9_entryAt 3 = .ok (.getfield 23, 3) := by decide +kernel
theorem dX9_entryAt_6 : decode cX9_entryAt 6 = .ok (.arraylength, 1) := by decide +kernel
theorem dX9_entryAt_7 : decode cX9_entryAt 7 = .ok (.iconst 1, 1) := by decide +kernel
theorem dX9_entryAt_8 : decode cX9_entryAt 8 = .ok (.isub, 1) := by decide +kernel
theorem dX9_entryAt_9 : decode cX9_entryAt 9 = .ok (.invokestatic 51, 3) := by decide +kernel
theorem dX9_entryAt_12 : decode cX9_entryAt 12 = .ok (.ifCond .eq 12, 3) := by decide +kernel
theorem dX9_entryAt_15 : decode cX9_entryAt 15 = .ok (.aload_n 0, 1) := by decide +kernel
theorem dX9_entryAt_16 : decode cX9_entryAt 16 = .ok (.getfield 23, 3) := by decide +kernel
theorem dX9_entryAt_19 : decode cX9_entryAt 19 = .ok (.iload_n 1, 1) := by decide +kernel
theorem dX9_entryAt_20 : decode cX9_entryAt 20 = .ok (.aaload, 1) := by decide +kernel
theorem dX9_entryAt_21 : decode cX9_entryAt 21 = .ok (.goto 4, 3) := by decide +kernel
theorem dX9_entryAt_24 : decode cX9_entryAt 24 = .ok (.aconst_null, 1) := by decide +kernel
theorem dX9_entryAt_25 : decode cX9_entryAt 25 = .ok (.areturn, 1) := by decide +kernel
theorem dX9_lawOn_0 : decode cX9_lawOn 0 = .ok (.iload_n 1, 1) := by decide +kernel
theorem dX9_lawOn_1 : decode cX9_lawOn 1 = .ok (.bipush 10, 2) := by decide +kernel
theorem dX9_lawOn_3 : decode cX9_lawOn 3 = .ok (.idiv, 1) := by decide +kernel
theorem dX9_lawOn_4 : decode cX9_lawOn 4 = .ok (.aload_n 0, 1) := by decide +kernel
theorem dX9_lawOn_5 : decode cX9_lawOn 5 = .ok (.getfield 29, 3) := by decide +kernel
theorem dX9_lawOn_8 : decode cX9_lawOn 8 = .ok (.arraylength, 1) := by decide +kernel
theorem dX9_lawOn_9 : decode cX9_lawOn 9 = .ok (.iconst 1, 1) := by decide +kernel
theorem dX9_lawOn_10 : decode cX9_lawOn 10 = .ok (.isub, 1) := by decide +kernel
theorem dX9_lawOn_11 : decode cX9_lawOn 11 = .ok (.invokestatic 232, 3) := by decide +kernel
theorem dX9_lawOn_14 : decode cX9_lawOn 14 = .ok (.istore_n 2, 1) := by decide +kernel
theorem dX9_lawOn_15 : decode cX9_lawOn 15 = .ok (.iload_n 2, 1) := by decide +kernel
theorem dX9_lawOn_16 : decode cX9_lawOn 16 = .ok (.istore_n 3, 1) := by decide +kernel
theorem dX9_lawOn_17 : decode cX9_lawOn 17 = .ok (.iload_n 3, 1) := by decide +kernel
theorem dX9_lawOn_18 : decode cX9_lawOn 18 = .ok (.ifCond .lt 25, 3) := by decide +kernel
theorem dX9_lawOn_21 : decode cX9_lawOn 21 = .ok (.aload_n 0, 1) := by decide +kernel
theorem dX9_lawOn_22 : decode cX9_lawOn 22 = .ok (.getfield 29, 3) := by decide +kernel
theorem dX9_lawOn_25 : decode cX9_lawOn 25 = .ok (.iload_n 3, 1) := by decide +kernel
theorem dX9_lawOn_26 : decode cX9_lawOn 26 = .ok (.aaload, 1) := by decide +kernel
theorem dX9_lawOn_27 : decode cX9_lawOn 27 = .ok (.ifnull 10, 3) := by decide +kernel
theorem dX9_lawOn_30 : decode cX9_lawOn 30 = .ok (.aload_n 0, 1) := by decide +kernel
theorem dX9_lawOn_31 : decode cX9_lawOn 31 = .ok (.getfield 29, 3) := by decide +kernel
theorem dX9_lawOn_34 : decode cX9_lawOn 34 = .ok (.iload_n 3, 1) := by decide +kernel
theorem dX9_lawOn_35 : decode cX9_lawOn 35 = .ok (.aaload, 1) := by decide +kernel
theorem dX9_lawOn_36 : decode cX9_lawOn 36 = .ok (.areturn, 1) := by decide +kernel
theorem dX9_lawOn_37 : decode cX9_lawOn 37 = .ok (.iinc 3 (-1), 3) := by decide +kernel
theorem dX9_lawOn_40 : decode cX9_lawOn 40 = .ok (.goto (-23), 3) := by decide +kernel
theorem dX9_lawOn_43 : decode cX9_lawOn 43 = .ok (.aload_n 0, 1) := by decide +kernel
theorem dX9_lawOn_44 : decode cX9_lawOn 44 = .ok (.getfield 36, 3) := by decide +kernel
theorem dX9_lawOn_47 : decode cX9_lawOn 47 = .ok (.areturn, 1) := by decide +kernel
theorem dX9_latestStanding_0 : decode cX9_latestStanding 0 = .ok (.aload_n 0, 1) := by decide +kernel
theorem dX9_latestStanding_1 : decode cX9_latestStanding 1 = .ok (.getfield 23, 3) := by decide +kernel
theorem dX9_latestStanding_4 : decode cX9_latestStanding 4 = .ok (.arraylength, 1) := by decide +kernel
theorem dX9_latestStanding_5 : decode cX9_latestStanding 5 = .ok (.iconst 1, 1) := by decide +kernel
theorem dX9_latestStanding_6 : decode cX9_latestStanding 6 = .ok (.isub, 1) := by decide +kernel
theorem dX9_latestStanding_7 : decode cX9_latestStanding 7 = .ok (.istore_n 2, 1) := by decide +kernel
theorem dX9_latestStanding_8 : decode cX9_latestStanding 8 = .ok (.iload_n 2, 1) := by decide +kernel
theorem dX9_latestStanding_9 : decode cX9_latestStanding 9 = .ok (.ifCond .lt 37, 3) := by decide +kernel
theorem dX9_latestStanding_12 : decode cX9_latestStanding 12 = .ok (.aload_n 0, 1) := by decide +kernel
theorem dX9_latestStanding_13 : decode cX9_latestStanding 13 = .ok (.getfield 23, 3) := by decide +kernel
theorem dX9_latestStanding_16 : decode cX9_latestStanding 16 = .ok (.iload_n 2, 1) := by decide +kernel
theorem dX9_latestStanding_17 : decode cX9_latestStanding 17 = .ok (.aaload, 1) := by decide +kernel
theorem dX9_latestStanding_18 : decode cX9_latestStanding 18 = .ok (.astore_n 3, 1) := by decide +kernel
theorem dX9_latestStanding_19 : decode cX9_latestStanding 19 = .ok (.aload_n 3, 1) := by decide +kernel
theorem dX9_latestStanding_20 : decode cX9_latestStanding 20 = .ok (.ifnull 20, 3) := by decide +kernel
theorem dX9_latestStanding_23 : decode cX9_latestStanding 23 = .ok (.aload_n 3, 1) := by decide +kernel
theorem dX9_latestStanding_24 : decode cX9_latestStanding 24 = .ok (.getfield 176, 3) := by decide +kernel
theorem dX9_latestStanding_27 : decode cX9_latestStanding 27 = .ok (.ifCond .eq 13, 3) := by decide +kernel
theorem dX9_latestStanding_30 : decode cX9_latestStanding 30 = .ok (.aload_n 3, 1) := by decide +kernel
theorem dX9_latestStanding_31 : decode cX9_latestStanding 31 = .ok (.getfield 179, 3) := by decide +kernel
theorem dX9_latestStanding_34 : decode cX9_latestStanding 34 = .ok (.iload_n 1, 1) := by decide +kernel
theorem dX9_latestStanding_35 : decode cX9_latestStanding 35 = .ok (.if_icmp .ne 5, 3) := by decide +kernel
theorem dX9_latestStanding_38 : decode cX9_latestStanding 38 = .ok (.iload_n 2, 1) := by decide +kernel
theorem dX9_latestStanding_39 : decode cX9_latestStanding 39 = .ok (.ireturn, 1) := by decide +kernel
theorem dX9_latestStanding_40 : decode cX9_latestStanding 40 = .ok (.iinc 2 (-1), 3) := by decide +kernel
theorem dX9_latestStanding_43 : decode cX9_latestStanding 43 = .ok (.goto (-35), 3) := by decide +kernel
theorem dX9_latestStanding_46 : decode cX9_latestStanding 46 = .ok (.bipush (-9), 2) := by decide +kernel
theorem dX9_latestStanding_48 : decode cX9_latestStanding 48 = .ok (.ireturn, 1) := by decide +kernel
set_option maxRecDepth 20000 in
theorem ggX9_barEnd_X9_latestStanding : GoodIn wsX9_barEnd wsX9_latestStanding := goodIn_r _ [7, 8, 9, 10, 33, 34, 35, 36, 37, 38, 39, 40, 41, 42, 43, 44, 24, 25, 26, 27, 28, 29, 30, 31, 32] (by decide +kernel) (by decide +kernel)
set_option maxRecDepth 20000 in
theorem gX9_barEnd_X9_latestStanding : GoodIn wsX9_barEnd (wsV RX9 166 RX9 yX9_latestStanding wsX9_latestStanding) := goodIn_app (goodIn_of _ (by decide +kernel)) ggX9_barEnd_X9_latestStanding
set_option maxRecDepth 20000 in
theorem ggX9_barEnd_X9_entryAt : GoodIn wsX9_barEnd wsX9_entryAt := goodIn_r _ [14, 8, 15, 16, 6, 17, 33, 34, 35, 36, 37, 38, 39, 40, 41, 42, 43, 44] (by decide +kernel) (by decide +kernel)
set_option maxRecDepth 20000 in
theorem gX9_barEnd_X9_entryAt : GoodIn wsX9_barEnd (wsV RX9 169 RX9 yX9_entryAt wsX9_entryAt) := goodIn_app (goodIn_of _ (by decide +kernel)) ggX9_barEnd_X9_entryAt
set_option maxRecDepth 20000 in
theorem ggX9_barEnd_X4_number : GoodIn wsX9_barEnd wsX4_number := goodIn_r _ [22, 23, 16, 6, 17, 45] (by decide +kernel) (by decide +kernel)
set_option maxRecDepth 20000 in
theorem gX9_barEnd_X4_number : GoodIn wsX9_barEnd (wsV RX9 101 RX4 yX4_number wsX4_number) := goodIn_app (goodIn_of _ (by decide +kernel)) ggX9_barEnd_X4_number
theorem dX9_barEnd_0 : decode cX9_barEnd 0 = .ok (.aload_n 0, 1) := by decide +kernel
theorem dX9_barEnd_1 : decode cX9_barEnd 1 = .ok (.aload_n 0, 1) := by decide +kernel
theorem dX9_barEnd_2 : decode cX9_barEnd 2 = .ok (.iload_n 1, 1) := by decide +kernel
theorem dX9_barEnd_3 : decode cX9_barEnd 3 = .ok (.invokevirtual 166, 3) := by decide +kernel
theorem dX9_barEnd_6 : decode cX9_barEnd 6 = .ok (.invokevirtual 169, 3) := by decide +kernel
theorem dX9_barEnd_9 : decode cX9_barEnd 9 = .ok (.astore_n 2, 1) := by decide +kernel
theorem dX9_barEnd_10 : decode cX9_barEnd 10 = .ok (.aload_n 2, 1) := by decide +kernel
theorem dX9_barEnd_11 : decode cX9_barEnd 11 = .ok (.ifnonnull 7, 3) := by decide +kernel
theorem dX9_barEnd_14 : decode cX9_barEnd 14 = .ok (.iconst 0, 1) := by decide +kernel
theorem dX9_barEnd_15 : decode cX9_barEnd 15 = .ok (.goto 17, 3) := by decide +kernel
theorem dX9_barEnd_18 : decode cX9_barEnd 18 = .ok (.aload_n 2, 1) := by decide +kernel
theorem dX9_barEnd_19 : decode cX9_barEnd 19 = .ok (.getfield 173, 3) := by decide +kernel
theorem dX9_barEnd_22 : decode cX9_barEnd 22 = .ok (.aload_n 2, 1) := by decide +kernel
theorem dX9_barEnd_23 : decode cX9_barEnd 23 = .ok (.getfield 235, 3) := by decide +kernel
theorem dX9_barEnd_26 : decode cX9_barEnd 26 = .ok (.bipush 6, 2) := by decide +kernel
theorem dX9_barEnd_28 : decode cX9_barEnd 28 = .ok (.invokevirtual 101, 3) := by decide +kernel
theorem dX9_barEnd_31 : decode cX9_barEnd 31 = .ok (.iadd, 1) := by decide +kernel
theorem dX9_barEnd_32 : decode cX9_barEnd 32 = .ok (.ireturn, 1) := by decide +kernel
set_option maxRecDepth 20000 in
theorem ggX9_workDues_X0_binds : GoodIn wsX9_workDues wsX0_binds := goodIn_r _ [15, 16, 17, 18, 55, 56, 57, 58, 59, 60, 61, 62, 63] (by decide +kernel) (by decide +kernel)
set_option maxRecDepth 20000 in
theorem gX9_workDues_X0_binds : GoodIn wsX9_workDues (wsV RX9 239 RX0 yX0_binds wsX0_binds) := goodIn_app (goodIn_of _ (by decide +kernel)) ggX9_workDues_X0_binds
set_option maxRecDepth 20000 in
theorem ggX9_workDues_X0_steppedFrom : GoodIn wsX9_workDues wsX0_steppedFrom := goodIn_r _ [22, 23, 24, 25, 26, 27, 5, 28, 29, 30, 31, 32, 33, 34, 35, 36, 37, 55, 56, 57, 58, 59, 60, 61, 62, 63, 64] (by decide +kernel) (by decide +kernel)
set_option maxRecDepth 20000 in
theorem gX9_workDues_X0_steppedFrom : GoodIn wsX9_workDues (wsV RX9 243 RX0 yX0_steppedFrom wsX0_steppedFrom) := goodIn_app (goodIn_of _ (by decide +kernel)) ggX9_workDues_X0_steppedFrom
theorem dX9_workDues_0 : decode cX9_workDues 0 = .ok (.aconst_null, 1) := by decide +kernel
theorem dX9_workDues_1 : decode cX9_workDues 1 = .ok (.astore 4, 2) := by decide +kernel
theorem dX9_workDues_3 : decode cX9_workDues 3 = .ok (.aload_n 2, 1) := by decide +kernel
theorem dX9_workDues_4 : decode cX9_workDues 4 = .ok (.getfield 238, 3) := by decide +kernel
theorem dX9_workDues_7 : decode cX9_workDues 7 = .ok (.istore 5, 2) := by decide +kernel
theorem dX9_workDues_9 : decode cX9_workDues 9 = .ok (.aload_n 2, 1) := by decide +kernel
theorem dX9_workDues_10 : decode cX9_workDues 10 = .ok (.getfield 238, 3) := by decide +kernel
theorem dX9_workDues_13 : decode cX9_workDues 13 = .ok (.istore 6, 2) := by decide +kernel
theorem dX9_workDues_15 : decode cX9_workDues 15 = .ok (.iconst 0, 1) := by decide +kernel
theorem dX9_workDues_16 : decode cX9_workDues 16 = .ok (.istore 7, 2) := by decide +kernel
theorem dX9_workDues_18 : decode cX9_workDues 18 = .ok (.aload_n 2, 1) := by decide +kernel
theorem dX9_workDues_19 : decode cX9_workDues 19 = .ok (.getfield 204, 3) := by decide +kernel
theorem dX9_workDues_22 : decode cX9_workDues 22 = .ok (.iconst 0, 1) := by decide +kernel
theorem dX9_workDues_23 : decode cX9_workDues 23 = .ok (.invokestatic 160, 3) := by decide +kernel
theorem dX9_workDues_26 : decode cX9_workDues 26 = .ok (.istore 8, 2) := by decide +kernel
theorem dX9_workDues_28 : decode cX9_workDues 28 = .ok (.iload 8, 2) := by decide +kernel
theorem dX9_workDues_30 : decode cX9_workDues 30 = .ok (.iload_n 3, 1) := by decide +kernel
theorem dX9_workDues_31 : decode cX9_workDues 31 = .ok (.if_icmp .gt 120, 3) := by decide +kernel
theorem dX9_workDues_34 : decode cX9_workDues 34 = .ok (.iload 8, 2) := by decide +kernel
theorem dX9_workDues_36 : decode cX9_workDues 36 = .ok (.aload_n 0, 1) := by decide +kernel
theorem dX9_workDues_37 : decode cX9_workDues 37 = .ok (.getfield 47, 3) := by decide +kernel
theorem dX9_workDues_40 : decode cX9_workDues 40 = .ok (.arraylength, 1) := by decide +kernel
theorem dX9_workDues_41 : decode cX9_workDues 41 = .ok (.if_icmp .ge 110, 3) := by decide +kernel
theorem dX9_workDues_44 : decode cX9_workDues 44 = .ok (.iload 7, 2) := by decide +kernel
theorem dX9_workDues_46 : decode cX9_workDues 46 = .ok (.aload_n 0, 1) := by decide +kernel
theorem dX9_workDues_47 : decode cX9_workDues 47 = .ok (.getfield 23, 3) := by decide +kernel
theorem dX9_workDues_50 : decode cX9_workDues 50 = .ok (.arraylength, 1) := by decide +kernel
theorem dX9_workDues_51 : decode cX9_workDues 51 = .ok (.if_icmp .ge 57, 3) := by decide +kernel
theorem dX9_workDues_54 : decode cX9_workDues 54 = .ok (.aload_n 0, 1) := by decide +kernel
theorem dX9_workDues_55 : decode cX9_workDues 55 = .ok (.getfield 23, 3) := by decide +kernel
theorem dX9_workDues_58 : decode cX9_workDues 58 = .ok (.iload 7, 2) := by decide +kernel
theorem dX9_workDues_60 : decode cX9_workDues 60 = .ok (.aaload, 1) := by decide +kernel
theorem dX9_workDues_61 : decode cX9_workDues 61 = .ok (.astore 9, 2) := by decide +kernel
theorem dX9_workDues_63 : decode cX9_workDues 63 = .ok (.aload 9, 2) := by decide +kernel
theorem dX9_workDues_65 : decode cX9_workDues 65 = .ok (.ifnull 43, 3) := by decide +kernel
theorem dX9_workDues_68 : decode cX9_workDues 68 = .ok (.aload 9, 2) := by decide +kernel
theorem dX9_workDues_70 : decode cX9_workDues 70 = .ok (.getfield 173, 3) := by decide +kernel
theorem dX9_workDues_73 : decode cX9_workDues 73 = .ok (.iload 8, 2) := by decide +kernel
theorem dX9_workDues_75 : decode cX9_workDues 75 = .ok (.if_icmp .le 6, 3) := by decide +kernel
theorem dX9_workDues_78 : decode cX9_workDues 78 = .ok (.goto 30, 3) := by decide +kernel
theorem dX9_workDues_81 : decode cX9_workDues 81 = .ok (.aload 9, 2) := by decide +kernel
theorem dX9_workDues_83 : decode cX9_workDues 83 = .ok (.iload_n 1, 1) := by decide +kernel
theorem dX9_workDues_84 : decode cX9_workDues 84 = .ok (.aload_n 2, 1) := by decide +kernel
theorem dX9_workDues_85 : decode cX9_workDues 85 = .ok (.getfield 155, 3) := by decide +kernel
theorem dX9_workDues_88 : decode cX9_workDues 88 = .ok (.invokevirtual 239, 3) := by decide +kernel
theorem dX9_workDues_91 : decode cX9_workDues 91 = .ok (.ifCond .eq 11, 3) := by decide +kernel
theorem dX9_workDues_94 : decode cX9_workDues 94 = .ok (.aload 9, 2) := by decide +kernel
theorem dX9_workDues_96 : decode cX9_workDues 96 = .ok (.astore 4, 2) := by decide +kernel
theorem dX9_workDues_98 : decode cX9_workDues 98 = .ok (.iload 6, 2) := by decide +kernel
theorem dX9_workDues_100 : decode cX9_workDues 100 = .ok (.istore 5, 2) := by decide +kernel
theorem dX9_workDues_102 : decode cX9_workDues 102 = .ok (.iinc 7 1, 3) := by decide +kernel
theorem dX9_workDues_105 : decode cX9_workDues 105 = .ok (.goto (-61), 3) := by decide +kernel
theorem dX9_workDues_108 : decode cX9_workDues 108 = .ok (.aload_n 0, 1) := by decide +kernel
theorem dX9_workDues_109 : decode cX9_workDues 109 = .ok (.getfield 47, 3) := by decide +kernel
theorem dX9_workDues_112 : decode cX9_workDues 112 = .ok (.iload 8, 2) := by decide +kernel
theorem dX9_workDues_114 : decode cX9_workDues 114 = .ok (.aload 4, 2) := by decide +kernel
theorem dX9_workDues_116 : decode cX9_workDues 116 = .ok (.ifnonnull 10, 3) := by decide +kernel
theorem dX9_workDues_119 : decode cX9_workDues 119 = .ok (.aload_n 2, 1) := by decide +kernel
theorem dX9_workDues_120 : decode cX9_workDues 120 = .ok (.getfield 238, 3) := by decide +kernel
theorem dX9_workDues_123 : decode cX9_workDues 123 = .ok (.goto 12, 3) := by decide +kernel
theorem dX9_workDues_126 : decode cX9_workDues 126 = .ok (.aload 4, 2) := by decide +kernel
theorem dX9_workDues_128 : decode cX9_workDues 128 = .ok (.iload 5, 2) := by decide +kernel
theorem dX9_workDues_130 : decode cX9_workDues 130 = .ok (.iload 8, 2) := by decide +kernel
theorem dX9_workDues_132 : decode cX9_workDues 132 = .ok (.invokevirtual 243, 3) := by decide +kernel
theorem dX9_workDues_135 : decode cX9_workDues 135 = .ok (.iastore, 1) := by decide +kernel
theorem dX9_workDues_136 : decode cX9_workDues 136 = .ok (.aload_n 0, 1) := by decide +kernel
theorem dX9_workDues_137 : decode cX9_workDues 137 = .ok (.getfield 47, 3) := by decide +kernel
theorem dX9_workDues_140 : decode cX9_workDues 140 = .ok (.iload 8, 2) := by decide +kernel
theorem dX9_workDues_142 : decode cX9_workDues 142 = .ok (.iaload, 1) := by decide +kernel
theorem dX9_workDues_143 : decode cX9_workDues 143 = .ok (.istore 6, 2) := by decide +kernel
theorem dX9_workDues_145 : decode cX9_workDues 145 = .ok (.iinc 8 1, 3) := by decide +kernel
theorem dX9_workDues_148 : decode cX9_workDues 148 = .ok (.goto (-120), 3) := by decide +kernel
theorem dX9_workDues_151 : decode cX9_workDues 151 = .ok (.iload 6, 2) := by decide +kernel
theorem dX9_workDues_153 : decode cX9_workDues 153 = .ok (.ireturn, 1) := by decide +kernel
set_option maxRecDepth 20000 in
theorem ggX9_homesLet_X5_isLet : GoodIn wsX9_homesLet wsX5_isLet := goodIn_r _ [7, 8, 25, 26, 27, 28, 29] (by decide +kernel) (by decide +kernel)
set_option maxRecDepth 20000 in
theorem gX9_homesLet_X5_isLet : GoodIn wsX9_homesLet (wsV RX9 145 RX5 yX5_isLet wsX5_isLet) := goodIn_app (goodIn_of _ (by decide +kernel)) ggX9_homesLet_X5_isLet
theorem dX9_homesLet_0 : decode cX9_homesLet 0 = .ok (.iconst 0, 1) := by decide +kernel
theorem dX9_homesLet_1 : decode cX9_homesLet 1 = .ok (.istore_n 1, 1) := by decide +kernel
theorem dX9_homesLet_2 : decode cX9_homesLet 2 = .ok (.aload_n 0, 1) := by decide +kernel
theorem dX9_homesLet_3 : decode cX9_homesLet 3 = .ok (.getfield 11, 3) := by decide +kernel
theorem dX9_homesLet_6 : decode cX9_homesLet 6 = .ok (.astore_n 2, 1) := by decide +kernel
theorem dX9_homesLet_7 : decode cX9_homesLet 7 = .ok (.aload_n 2, 1) := by decide +kernel
theorem dX9_homesLet_8 : decode cX9_homesLet 8 = .ok (.arraylength, 1) := by decide +kernel
theorem dX9_homesLet_9 : decode cX9_homesLet 9 = .ok (.istore_n 3, 1) := by decide +kernel
theorem dX9_homesLet_10 : decode cX9_homesLet 10 = .ok (.iconst 0, 1) := by decide +kernel
theorem dX9_homesLet_11 : decode cX9_homesLet 11 = .ok (.istore 4, 2) := by decide +kernel
theorem dX9_homesLet_13 : decode cX9_homesLet 13 = .ok (.iload 4, 2) := by decide +kernel
theorem dX9_homesLet_15 : decode cX9_homesLet 15 = .ok (.iload_n 3, 1) := by decide +kernel
theorem dX9_homesLet_16 : decode cX9_homesLet 16 = .ok (.if_icmp .ge 34, 3) := by decide +kernel
theorem dX9_homesLet_19 : decode cX9_homesLet 19 = .ok (.aload_n 2, 1) := by decide +kernel
theorem dX9_homesLet_20 : decode cX9_homesLet 20 = .ok (.iload 4, 2) := by decide +kernel
theorem dX9_homesLet_22 : decode cX9_homesLet 22 = .ok (.aaload, 1) := by decide +kernel
theorem dX9_homesLet_23 : decode cX9_homesLet 23 = .ok (.astore 5, 2) := by decide +kernel
theorem dX9_homesLet_25 : decode cX9_homesLet 25 = .ok (.aload 5, 2) := by decide +kernel
theorem dX9_homesLet_27 : decode cX9_homesLet 27 = .ok (.ifnull 17, 3) := by decide +kernel
theorem dX9_homesLet_30 : decode cX9_homesLet 30 = .ok (.aload 5, 2) := by decide +kernel
theorem dX9_homesLet_32 : decode cX9_homesLet 32 = .ok (.getfield 135, 3) := by decide +kernel
theorem dX9_homesLet_35 : decode cX9_homesLet 35 = .ok (.invokevirtual 145, 3) := by decide +kernel
theorem dX9_homesLet_38 : decode cX9_homesLet 38 = .ok (.ifCond .eq 6, 3) := by decide +kernel
theorem dX9_homesLet_41 : decode cX9_homesLet 41 = .ok (.iinc 1 1, 3) := by decide +kernel
theorem dX9_homesLet_44 : decode cX9_homesLet 44 = .ok (.iinc 4 1, 3) := by decide +kernel
theorem dX9_homesLet_47 : decode cX9_homesLet 47 = .ok (.goto (-34), 3) := by decide +kernel
theorem dX9_homesLet_50 : decode cX9_homesLet 50 = .ok (.iload_n 1, 1) := by decide +kernel
theorem dX9_homesLet_51 : decode cX9_homesLet 51 = .ok (.ireturn, 1) := by decide +kernel
theorem dX9_lawsTold_0 : decode cX9_lawsTold 0 = .ok (.iconst 0, 1) := by decide +kernel
theorem dX9_lawsTold_1 : decode cX9_lawsTold 1 = .ok (.istore_n 1, 1) := by decide +kernel
theorem dX9_lawsTold_2 : decode cX9_lawsTold 2 = .ok (.aload_n 0, 1) := by decide +kernel
theorem dX9_lawsTold_3 : decode cX9_lawsTold 3 = .ok (.getfield 29, 3) := by decide +kernel
theorem dX9_lawsTold_6 : decode cX9_lawsTold 6 = .ok (.astore_n 2, 1) := by decide +kernel
theorem dX9_lawsTold_7 : decode cX9_lawsTold 7 = .ok (.aload_n 2, 1) := by decide +kernel
theorem dX9_lawsTold_8 : decode cX9_lawsTold 8 = .ok (.arraylength, 1) := by decide +kernel
theorem dX9_lawsTold_9 : decode cX9_lawsTold 9 = .ok (.istore_n 3, 1) := by decide +kernel
theorem dX9_lawsTold_10 : decode cX9_lawsTold 10 = .ok (.iconst 0, 1) := by decide +kernel
theorem dX9_lawsTold_11 : decode cX9_lawsTold 11 = .ok (.istore 4, 2) := by decide +kernel
theorem dX9_lawsTold_13 : decode cX9_lawsTold 13 = .ok (.iload 4, 2) := by decide +kernel
theorem dX9_lawsTold_15 : decode cX9_lawsTold 15 = .ok (.iload_n 3, 1) := by decide +kernel
theorem dX9_lawsTold_16 : decode cX9_lawsTold 16 = .ok (.if_icmp .ge 23, 3) := by decide +kernel
theorem dX9_lawsTold_19 : decode cX9_lawsTold 19 = .ok (.aload_n 2, 1) := by decide +kernel
theorem dX9_lawsTold_20 : decode cX9_lawsTold 20 = .ok (.iload 4, 2) := by decide +kernel
theorem dX9_lawsTold_22 : decode cX9_lawsTold 22 = .ok (.aaload, 1) := by decide +kernel
theorem dX9_lawsTold_23 : decode cX9_lawsTold 23 = .ok (.astore 5, 2) := by decide +kernel
theorem dX9_lawsTold_25 : decode cX9_lawsTold 25 = .ok (.aload 5, 2) := by decide +kernel
theorem dX9_lawsTold_27 : decode cX9_lawsTold 27 = .ok (.ifnull 6, 3) := by decide +kernel
theorem dX9_lawsTold_30 : decode cX9_lawsTold 30 = .ok (.iinc 1 1, 3) := by decide +kernel
theorem dX9_lawsTold_33 : decode cX9_lawsTold 33 = .ok (.iinc 4 1, 3) := by decide +kernel
theorem dX9_lawsTold_36 : decode cX9_lawsTold 36 = .ok (.goto (-23), 3) := by decide +kernel
theorem dX9_lawsTold_39 : decode cX9_lawsTold 39 = .ok (.iload_n 1, 1) := by decide +kernel
theorem dX9_lawsTold_40 : decode cX9_lawsTold 40 = .ok (.ireturn, 1) := by decide +kernel
theorem dJ9_floorDiv_7cf53_0 : decode cJ9_floorDiv_7cf53 0 = .ok (.iload_n 0, 1) := by decide +kernel
theorem dJ9_floorDiv_7cf53_1 : decode cJ9_floorDiv_7cf53 1 = .ok (.iload_n 1, 1) := by decide +kernel
theorem dJ9_floorDiv_7cf53_2 : decode cJ9_floorDiv_7cf53 2 = .ok (.idiv, 1) := by decide +kernel
theorem dJ9_floorDiv_7cf53_3 : decode cJ9_floorDiv_7cf53 3 = .ok (.istore_n 2, 1) := by decide +kernel
theorem dJ9_floorDiv_7cf53_4 : decode cJ9_floorDiv_7cf53 4 = .ok (.iload_n 0, 1) := by decide +kernel
theorem dJ9_floorDiv_7cf53_5 : decode cJ9_floorDiv_7cf53 5 = .ok (.iload_n 1, 1) := by decide +kernel
theorem dJ9_floorDiv_7cf53_6 : decode cJ9_floorDiv_7cf53 6 = .ok (.ixor, 1) := by decide +kernel
theorem dJ9_floorDiv_7cf53_7 : decode cJ9_floorDiv_7cf53 7 = .ok (.ifCond .ge 14, 3) := by decide +kernel
theorem dJ9_floorDiv_7cf53_10 : decode cJ9_floorDiv_7cf53 10 = .ok (.iload_n 2, 1) := by decide +kernel
theorem dJ9_floorDiv_7cf53_11 : decode cJ9_floorDiv_7cf53 11 = .ok (.iload_n 1, 1) := by decide +kernel
theorem dJ9_floorDiv_7cf53_12 : decode cJ9_floorDiv_7cf53 12 = .ok (.imul, 1) := by decide +kernel
theorem dJ9_floorDiv_7cf53_13 : decode cJ9_floorDiv_7cf53 13 = .ok (.iload_n 0, 1) := by decide +kernel
theorem dJ9_floorDiv_7cf53_14 : decode cJ9_floorDiv_7cf53 14 = .ok (.if_icmp .eq 7, 3) := by decide +kernel
theorem dJ9_floorDiv_7cf53_17 : decode cJ9_floorDiv_7cf53 17 = .ok (.iload_n 2, 1) := by decide +kernel
theorem dJ9_floorDiv_7cf53_18 : decode cJ9_floorDiv_7cf53 18 = .ok (.iconst 1, 1) := by decide +kernel
theorem dJ9_floorDiv_7cf53_19 : decode cJ9_floorDiv_7cf53 19 = .ok (.isub, 1) := by decide +kernel
theorem dJ9_floorDiv_7cf53_20 : decode cJ9_floorDiv_7cf53 20 = .ok (.ireturn, 1) := by decide +kernel
theorem dJ9_floorDiv_7cf53_21 : decode cJ9_floorDiv_7cf53 21 = .ok (.iload_n 2, 1) := by decide +kernel
theorem dJ9_floorDiv_7cf53_22 : decode cJ9_floorDiv_7cf53 22 = .ok (.ireturn, 1) := by decide +kernel
theorem dJ9_max_7cf53_0 : decode cJ9_max_7cf53 0 = .ok (.iload_n 0, 1) := by decide +kernel
theorem dJ9_max_7cf53_1 : decode cJ9_max_7cf53 1 = .ok (.iload_n 1, 1) := by decide +kernel
theorem dJ9_max_7cf53_2 : decode cJ9_max_7cf53 2 = .ok (.if_icmp .lt 7, 3) := by decide +kernel
theorem dJ9_max_7cf53_5 : decode cJ9_max_7cf53 5 = .ok (.iload_n 0, 1) := by decide +kernel
theorem dJ9_max_7cf53_6 : decode cJ9_max_7cf53 6 = .ok (.goto 4, 3) := by decide +kernel
theorem dJ9_max_7cf53_9 : decode cJ9_max_7cf53 9 = .ok (.iload_n 1, 1) := by decide +kernel
theorem dJ9_max_7cf53_10 : decode cJ9_max_7cf53 10 = .ok (.ireturn, 1) := by decide +kernel
theorem dJ9_min_7cf53_0 : decode cJ9_min_7cf53 0 = .ok (.iload_n 0, 1) := by decide +kernel
theorem dJ9_min_7cf53_1 : decode cJ9_min_7cf53 1 = .ok (.iload_n 1, 1) := by decide +kernel
theorem dJ9_min_7cf53_2 : decode cJ9_min_7cf53 2 = .ok (.if_icmp .gt 7, 3) := by decide +kernel
theorem dJ9_min_7cf53_5 : decode cJ9_min_7cf53 5 = .ok (.iload_n 0, 1) := by decide +kernel
theorem dJ9_min_7cf53_6 : decode cJ9_min_7cf53 6 = .ok (.goto 4, 3) := by decide +kernel
theorem dJ9_min_7cf53_9 : decode cJ9_min_7cf53 9 = .ok (.iload_n 1, 1) := by decide +kernel
theorem dJ9_min_7cf53_10 : decode cJ9_min_7cf53 10 = .ok (.ireturn, 1) := by decide +kernel
end
section
theorem dX10_init_0 : decode cX10_init 0 = .ok (.aload_n 0, 1) := by decide +kernel
theorem dX10_init_1 : decode cX10_init 1 = .ok (.invokespecial 1, 3) := by decide +kernel
theorem dX10_init_4 : decode cX10_init 4 = .ok (.aload_n 0, 1) := by decide +kernel
theorem dX10_init_5 : decode cX10_init 5 = .ok (.bipush 8, 2) := by decide +kernel
theorem dX10_init_7 : decode cX10_init 7 = .ok (.newarray .int, 2) := by decide +kernel
theorem dX10_init_9 : decode cX10_init 9 = .ok (.putfield 7, 3) := by decide +kernel
theorem dX10_init_12 : decode cX10_init 12 = .ok (.aload_n 0, 1) := by decide +kernel
theorem dX10_init_13 : decode cX10_init 13 = .ok (.bipush 8, 2) := by decide +kernel
theorem dX10_init_15 : decode cX10_init 15 = .ok (.newarray .int, 2) := by decide +kernel
theorem dX10_init_17 : decode cX10_init 17 = .ok (.putfield 13, 3) := by decide +kernel
theorem dX10_init_20 : decode cX10_init 20 = .ok (.aload_n 0, 1) := by decide +kernel
theorem dX10_init_21 : decode cX10_init 21 = .ok (.bipush 8, 2) := by decide +kernel
theorem dX10_init_23 : decode cX10_init 23 = .ok (.newarray .int, 2) := by decide +kernel
theorem dX10_init_25 : decode cX10_init 25 = .ok (.putfield 16, 3) := by decide +kernel
theorem dX10_init_28 : decode cX10_init 28 = .ok (.aload_n 0, 1) := by decide +kernel
theorem dX10_init_29 : decode cX10_init 29 = .ok (.bipush 8, 2) := by decide +kernel
theorem dX10_init_31 : decode cX10_init 31 = .ok (.newarray .int, 2) := by decide +kernel
theorem dX10_init_33 : decode cX10_init 33 = .ok (.putfield 19, 3) := by decide +kernel
theorem dX10_init_36 : decode cX10_init 36 = .ok (.aload_n 0, 1) := by decide +kernel
theorem dX10_init_37 : decode cX10_init 37 = .ok (.bipush 8, 2) := by decide +kernel
theorem dX10_init_39 : decode cX10_init 39 = .ok (.newarray .int, 2) := by decide +kernel
theorem dX10_init_41 : decode cX10_init 41 = .ok (.putfield 22, 3) := by decide +kernel
theorem dX10_init_44 : decode cX10_init 44 = .ok (.aload_n 0, 1) := by decide +kernel
theorem dX10_init_45 : decode cX10_init 45 = .ok (.sipush 224, 3) := by decide +kernel
theorem dX10_init_48 : decode cX10_init 48 = .ok (.newarray .int, 2) := by decide +kernel
theorem dX10_init_50 : decode cX10_init 50 = .ok (.putfield 25, 3) := by decide +kernel
theorem dX10_init_53 : decode cX10_init 53 = .ok (.aload_n 0, 1) := by decide +kernel
theorem dX10_init_54 : decode cX10_init 54 = .ok (.bipush 31, 2) := by decide +kernel
theorem dX10_init_56 : decode cX10_init 56 = .ok (.newarray .boolean, 2) := by decide +kernel
theorem dX10_init_58 : decode cX10_init 58 = .ok (.putfield 28, 3) := by decide +kernel
theorem dX10_init_61 : decode cX10_init 61 = .ok (.aload_n 0, 1) := by decide +kernel
theorem dX10_init_62 : decode cX10_init 62 = .ok (.bipush 12, 2) := by decide +kernel
theorem dX10_init_64 : decode cX10_init 64 = .ok (.newarray .int, 2) := by decide +kernel
theorem dX10_init_66 : decode cX10_init 66 = .ok (.putfield 32, 3) := by decide +kernel
theorem dX10_init_69 : decode cX10_init 69 = .ok (.aload_n 0, 1) := by decide +kernel
theorem dX10_init_70 : decode cX10_init 70 = .ok (.bipush 12, 2) := by decide +kernel
theorem dX10_init_72 : decode cX10_init 72 = .ok (.newarray .int, 2) := by decide +kernel
theorem dX10_init_74 : decode cX10_init 74 = .ok (.putfield 35, 3) := by decide +kernel
theorem dX10_init_77 : decode cX10_init 77 = .ok (.aload_n 0, 1) := by decide +kernel
theorem dX10_init_78 : decode cX10_init 78 = .ok (.bipush 12, 2) := by decide +kernel
theorem dX10_init_80 : decode cX10_init 80 = .ok (.newarray .int, 2) := by decide +kernel
theorem dX10_init_82 : decode cX10_init 82 = .ok (.putfield 38, 3) := by decide +kernel
theorem dX10_init_85 : decode cX10_init 85 = .ok (.aload_n 0, 1) := by decide +kernel
theorem dX10_init_86 : decode cX10_init 86 = .ok (.bipush 12, 2) := by decide +kernel
theorem dX10_init_88 : decode cX10_init 88 = .ok (.newarray .int, 2) := by decide +kernel
theorem dX10_init_90 : decode cX10_init 90 = .ok (.putfield 41, 3) := by decide +kernel
theorem dX10_init_93 : decode cX10_init 93 = .ok (.aload_n 0, 1) := by decide +kernel
theorem dX10_init_94 : decode cX10_init 94 = .ok (.bipush 12, 2) := by decide +kernel
theorem dX10_init_96 : decode cX10_init 96 = .ok (.newarray .boolean, 2) := by decide +kernel
theorem dX10_init_98 : decode cX10_init 98 = .ok (.putfield 44, 3) := by decide +kernel
theorem dX10_init_101 : decode cX10_init 101 = .ok (.aload_n 0, 1) := by decide +kernel
theorem dX10_init_102 : decode cX10_init 102 = .ok (.bipush 8, 2) := by decide +kernel
theorem dX10_init_104 : decode cX10_init 104 = .ok (.newarray .int, 2) := by decide +kernel
theorem dX10_init_106 : decode cX10_init 106 = .ok (.dup, 1) := by decide +kernel
theorem dX10_init_107 : decode cX10_init 107 = .ok (.iconst 0, 1) := by decide +kernel
theorem dX10_init_108 : decode cX10_init 108 = .ok (.iconst (-1), 1) := by decide +kernel
theorem dX10_init_109 : decode cX10_init 109 = .ok (.iastore, 1) := by decide +kernel
theorem dX10_init_110 : decode cX10_init 110 = .ok (.dup, 1) := by decide +kernel
theorem dX10_init_111 : decode cX10_init 111 = .ok (.iconst 1, 1) := by decide +kernel
theorem dX10_init_112 : decode cX10_init 112 = .ok (.iconst (-1), 1) := by decide +kernel
theorem dX10_init_113 : decode cX10_init 113 = .ok (.iastore, 1) := by decide +kernel
theorem dX10_init_114 : decode cX10_init 114 = .ok (.dup, 1) := by decide +kernel
theorem dX10_init_115 : decode cX10_init 115 = .ok (.iconst 2, 1) := by decide +kernel
theorem dX10_init_116 : decode cX10_init 116 = .ok (.iconst (-1), 1) := by decide +kernel
theorem dX10_init_117 : decode cX10_init 117 = .ok (.iastore, 1) := by decide +kernel
theorem dX10_init_118 : decode cX10_init 118 = .ok (.dup, 1) := by decide +kernel
theorem dX10_init_119 : decode cX10_init 119 = .ok (.iconst 3, 1) := by decide +kernel
theorem dX10_init_120 : decode cX10_init 120 = .ok (.iconst (-1), 1) := by decide +kernel
theorem dX10_init_121 : decode cX10_init 121 = .ok (.iastore, 1) := by decide +kernel
theorem dX10_init_122 : decode cX10_init 122 = .ok (.dup, 1) := by decide +kernel
theorem dX10_init_123 : decode cX10_init 123 = .ok (.iconst 4, 1) := by decide +kernel
theorem dX10_init_124 : decode cX10_init 124 = .ok (.iconst (-1), 1) := by decide +kernel
theorem dX10_init_125 : decode cX10_init 125 = .ok (.iastore, 1) := by decide +kernel
theorem dX10_init_126 : decode cX10_init 126 = .ok (.dup, 1) := by decide +kernel
theorem dX10_init_127 : decode cX10_init 127 = .ok (.iconst 5, 1) := by decide +kernel
theorem dX10_init_128 : decode cX10_init 128 = .ok (.iconst (-1), 1) := by decide +kernel
theorem dX10_init_129 : decode cX10_init 129 = .ok (.iastore, 1) := by decide +kernel
theorem dX10_init_130 : decode cX10_init 130 = .ok (.dup, 1) := by decide +kernel
theorem dX10_init_131 : decode cX10_init 131 = .ok (.bipush 6, 2) := by decide +kernel
theorem dX10_init_133 : decode cX10_init 133 = .ok (.iconst (-1), 1) := by decide +kernel
theorem dX10_init_134 : decode cX10_init 134 = .ok (.iastore, 1) := by decide +kernel
theorem dX10_init_135 : decode cX10_init 135 = .ok (.dup, 1) := by decide +kernel
theorem dX10_init_136 : decode cX10_init 136 = .ok (.bipush 7, 2) := by decide +kernel
theorem dX10_init_138 : decode cX10_init 138 = .ok (.iconst (-1), 1) := by decide +kernel
theorem dX10_init_139 : decode cX10_init 139 = .ok (.iastore, 1) := by decide +kernel
theorem dX10_init_140 : decode cX10_init 140 = .ok (.putfield 47, 3) := by decide +kernel
theorem dX10_init_143 : decode cX10_init 143 = .ok (.aload_n 0, 1) := by decide +kernel
theorem dX10_init_144 : decode cX10_init 144 = .ok (.bipush 8, 2) := by decide +kernel
theorem dX10_init_146 : decode cX10_init 146 = .ok (.newarray .int, 2) := by decide +kernel
theorem dX10_init_148 : decode cX10_init 148 = .ok (.putfield 50, 3) := by decide +kernel
theorem dX10_init_151 : decode cX10_init 151 = .ok (.aload_n 0, 1) := by decide +kernel
theorem dX10_init_152 : decode cX10_init 152 = .ok (.bipush 8, 2) := by decide +kernel
theorem dX10_init_154 : decode cX10_init 154 = .ok (.newarray .int, 2) := by decide +kernel
theorem dX10_init_156 : decode cX10_init 156 = .ok (.putfield 53, 3) := by decide +kernel
theorem dX10_init_159 : decode cX10_init 159 = .ok (.aload_n 0, 1) := by decide +kernel
theorem dX10_init_160 : decode cX10_init 160 = .ok (.sipush 2408, 3) := by decide +kernel
theorem dX10_init_163 : decode cX10_init 163 = .ok (.newarray .int, 2) := by decide +kernel
theorem dX10_init_165 : decode cX10_init 165 = .ok (.putfield 56, 3) := by decide +kernel
theorem dX10_init_168 : decode cX10_init 168 = .ok (.aload_n 0, 1) := by decide +kernel
theorem dX10_init_169 : decode cX10_init 169 = .ok (.bipush 20, 2) := by decide +kernel
theorem dX10_init_171 : decode cX10_init 171 = .ok (.newarray .int, 2) := by decide +kernel
theorem dX10_init_173 : decode cX10_init 173 = .ok (.putfield 59, 3) := by decide +kernel
theorem dX10_init_176 : decode cX10_init 176 = .ok (.aload_n 0, 1) := by decide +kernel
theorem dX10_init_177 : decode cX10_init 177 = .ok (.bipush 20, 2) := by decide +kernel
theorem dX10_init_179 : decode cX10_init 179 = .ok (.newarray .int, 2) := by decide +kernel
theorem dX10_init_181 : decode cX10_init 181 = .ok (.putfield 62, 3) := by decide +kernel
theorem dX10_init_184 : decode cX10_init 184 = .ok (.aload_n 0, 1) := by decide +kernel
theorem dX10_init_185 : decode cX10_init 185 = .ok (.bipush 20, 2) := by decide +kernel
theorem dX10_init_187 : decode cX10_init 187 = .ok (.newarray .int, 2) := by decide +kernel
theorem dX10_init_189 : decode cX10_init 189 = .ok (.putfield 65, 3) := by decide +kernel
theorem dX10_init_192 : decode cX10_init 192 = .ok (.aload_n 0, 1) := by decide +kernel
theorem dX10_init_193 : decode cX10_init 193 = .ok (.bipush 60, 2) := by decide +kernel
theorem dX10_init_195 : decode cX10_init 195 = .ok (.newarray .int, 2) := by decide +kernel
theorem dX10_init_197 : decode cX10_init 197 = .ok (.putfield 68, 3) := by decide +kernel
theorem dX10_init_200 : decode cX10_init 200 = .ok (.aload_n 0, 1) := by decide +kernel
theorem dX10_init_201 : decode cX10_init 201 = .ok (.bipush 20, 2) := by decide +kernel
theorem dX10_init_203 : decode cX10_init 203 = .ok (.newarray .int, 2) := by decide +kernel
theorem dX10_init_205 : decode cX10_init 205 = .ok (.putfield 71, 3) := by decide +kernel
theorem dX10_init_208 : decode cX10_init 208 = .ok (.aload_n 0, 1) := by decide +kernel
theorem dX10_init_209 : decode cX10_init 209 = .ok (.bipush 20, 2) := by decide +kernel
theorem dX10_init_211 : decode cX10_init 211 = .ok (.newarray .boolean, 2) := by decide +kernel
theorem dX10_init_213 : decode cX10_init 213 = .ok (.putfield 74, 3) := by decide +kernel
theorem dX10_init_216 : decode cX10_init 216 = .ok (.aload_n 0, 1) := by decide +kernel
theorem dX10_init_217 : decode cX10_init 217 = .ok (.bipush 12, 2) := by decide +kernel
theorem dX10_init_219 : decode cX10_init 219 = .ok (.newarray .int, 2) := by decide +kernel
theorem dX10_init_221 : decode cX10_init 221 = .ok (.putfield 77, 3) := by decide +kernel
theorem dX10_init_224 : decode cX10_init 224 = .ok (.aload_n 0, 1) := by decide +kernel
theorem dX10_init_225 : decode cX10_init 225 = .ok (.sipush 301, 3) := by decide +kernel
theorem dX10_init_228 : decode cX10_init 228 = .ok (.newarray .int, 2) := by decide +kernel
theorem dX10_init_230 : decode cX10_init 230 = .ok (.putfield 80, 3) := by decide +kernel
theorem dX10_init_233 : decode cX10_init 233 = .ok (.aload_n 0, 1) := by decide +kernel
theorem dX10_init_234 : decode cX10_init 234 = .ok (.getfield 25, 3) := by decide +kernel
theorem dX10_init_237 : decode cX10_init 237 = .ok (.sipush 220, 3) := by decide +kernel
theorem dX10_init_240 : decode cX10_init 240 = .ok (.iconst 1, 1) := by decide +kernel
theorem dX10_init_241 : decode cX10_init 241 = .ok (.iastore, 1) := by decide +kernel
theorem dX10_init_242 : decode cX10_init 242 = .ok (.aload_n 0, 1) := by decide +kernel
theorem dX10_init_243 : decode cX10_init 243 = .ok (.getfield 25, 3) := by decide +kernel
theorem dX10_init_246 : decode cX10_init 246 = .ok (.sipush 222, 3) := by decide +kernel
theorem dX10_init_249 : decode cX10_init 249 = .ok (.sipush 500, 3) := by decide +kernel
theorem dX10_init_252 : decode cX10_init 252 = .ok (.iastore, 1) := by decide +kernel
theorem dX10_init_253 : decode cX10_init 253 = .ok (.aload_n 0, 1) := by decide +kernel
theorem dX10_init_254 : decode cX10_init 254 = .ok (.getfield 25, 3) := by decide +kernel
theorem dX10_init_257 : decode cX10_init 257 = .ok (.sipush 223, 3) := by decide +kernel
theorem dX10_init_260 : decode cX10_init 260 = .ok (.bipush 20, 2) := by decide +kernel
theorem dX10_init_262 : decode cX10_init 262 = .ok (.iastore, 1) := by decide +kernel
theorem dX10_init_263 : decode cX10_init 263 = .ok (.return_, 1) := by decide +kernel
theorem dX10_in_0 : decode cX10_in 0 = .ok (.iload_n 0, 1) := by decide +kernel
theorem dX10_in_1 : decode cX10_in 1 = .ok (.iload_n 1, 1) := by decide +kernel
theorem dX10_in_2 : decode cX10_in 2 = .ok (.if_icmp .lt 12, 3) := by decide +kernel
theorem dX10_in_5 : decode cX10_in 5 = .ok (.iload_n 0, 1) := by decide +kernel
theorem dX10_in_6 : decode cX10_in 6 = .ok (.iload_n 2, 1) := by decide +kernel
theorem dX10_in_7 : decode cX10_in 7 = .ok (.if_icmp .gt 7, 3) := by decide +kernel
theorem dX10_in_10 : decode cX10_in 10 = .ok (.iconst 1, 1) := by decide +kernel
theorem dX10_in_11 : decode cX10_in 11 = .ok (.goto 4, 3) := by decide +kernel
theorem dX10_in_14 : decode cX10_in 14 = .ok (.iconst 0, 1) := by decide +kernel
theorem dX10_in_15 : decode cX10_in 15 = .ok (.ireturn, 1) := by decide +kernel
set_option maxRecDepth 20000 in
theorem ggX10_isHome_X10_in : GoodIn wsX10_isHome wsX10_in := goodIn_r _ [5] (by decide +kernel) (by decide +kernel)
set_option maxRecDepth 20000 in
theorem gX10_isHome_X10_in : GoodIn wsX10_isHome (va_wsS RX10 87 yX10_in wsX10_in) := goodIn_app (goodIn_of _ (by decide +kernel)) ggX10_isHome_X10_in
theorem dX10_isHome_0 : decode cX10_isHome 0 = .ok (.iload_n 1, 1) := by decide +kernel
theorem dX10_isHome_1 : decode cX10_isHome 1 = .ok (.iconst 0, 1) := by decide +kernel
theorem dX10_isHome_2 : decode cX10_isHome 2 = .ok (.aload_n 0, 1) := by decide +kernel
theorem dX10_isHome_3 : decode cX10_isHome 3 = .ok (.getfield 83, 3) := by decide +kernel
theorem dX10_isHome_6 : decode cX10_isHome 6 = .ok (.iconst 1, 1) := by decide +kernel
theorem dX10_isHome_7 : decode cX10_isHome 7 = .ok (.isub, 1) := by decide +kernel
theorem dX10_isHome_8 : decode cX10_isHome 8 = .ok (.invokestatic 87, 3) := by decide +kernel
theorem dX10_isHome_11 : decode cX10_isHome 11 = .ok (.ireturn, 1) := by decide +kernel
set_option maxRecDepth 20000 in
theorem ggX10_home_X10_in : GoodIn wsX10_home wsX10_in := goodIn_r _ [10] (by decide +kernel) (by decide +kernel)
set_option maxRecDepth 20000 in
theorem gX10_home_X10_in : GoodIn wsX10_home (va_wsS RX10 87 yX10_in wsX10_in) := goodIn_app (goodIn_of _ (by decide +kernel)) ggX10_home_X10_in
theorem dX10_home_0 : decode cX10_home 0 = .ok (.iload_n 1, 1) := by decide +kernel
theorem dX10_home_1 : decode cX10_home 1 = .ok (.iconst 0, 1) := by decide +kernel
theorem dX10_home_2 : decode cX10_home 2 = .ok (.iconst 2, 1) := by decide +kernel
theorem dX10_home_3 : decode cX10_home 3 = .ok (.invokestatic 87, 3) := by decide +kernel
theorem dX10_home_6 : decode cX10_home 6 = .ok (.ifCond .eq 33, 3) := by decide +kernel
theorem dX10_home_9 : decode cX10_home 9 = .ok (.iload_n 2, 1) := by decide +kernel
theorem dX10_home_10 : decode cX10_home 10 = .ok (.iconst 0, 1) := by decide +kernel
theorem dX10_home_11 : decode cX10_home 11 = .ok (.iconst 2, 1) := by decide +kernel
theorem dX10_home_12 : decode cX10_home 12 = .ok (.invokestatic 87, 3) := by decide +kernel
theorem dX10_home_15 : decode cX10_home 15 = .ok (.ifCond .eq 24, 3) := by decide +kernel
theorem dX10_home_18 : decode cX10_home 18 = .ok (.iload_n 3, 1) := by decide +kernel
theorem dX10_home_19 : decode cX10_home 19 = .ok (.iconst 1, 1) := by decide +kernel
theorem dX10_home_20 : decode cX10_home 20 = .ok (.bipush 9, 2) := by decide +kernel
theorem dX10_home_22 : decode cX10_home 22 = .ok (.invokestatic 87, 3) := by decide +kernel
theorem dX10_home_25 : decode cX10_home 25 = .ok (.ifCond .eq 14, 3) := by decide +kernel
theorem dX10_home_28 : decode cX10_home 28 = .ok (.iload 4, 2) := by decide +kernel
theorem dX10_home_30 : decode cX10_home 30 = .ok (.iconst 0, 1) := by decide +kernel
theorem dX10_home_31 : decode cX10_home 31 = .ok (.bipush 9, 2) := by decide +kernel
theorem dX10_home_33 : decode cX10_home 33 = .ok (.invokestatic 87, 3) := by decide +kernel
theorem dX10_home_36 : decode cX10_home 36 = .ok (.ifCond .ne 5, 3) := by decide +kernel
theorem dX10_home_39 : decode cX10_home 39 = .ok (.iconst (-1), 1) := by decide +kernel
theorem dX10_home_40 : decode cX10_home 40 = .ok (.ireturn, 1) := by decide +kernel
theorem dX10_home_41 : decode cX10_home 41 = .ok (.aload_n 0, 1) := by decide +kernel
theorem dX10_home_42 : decode cX10_home 42 = .ok (.getfield 83, 3) := by decide +kernel
theorem dX10_home_45 : decode cX10_home 45 = .ok (.bipush 8, 2) := by decide +kernel
theorem dX10_home_47 : decode cX10_home 47 = .ok (.if_icmp .ne 6, 3) := by decide +kernel
theorem dX10_home_50 : decode cX10_home 50 = .ok (.bipush (-3), 2) := by decide +kernel
theorem dX10_home_52 : decode cX10_home 52 = .ok (.ireturn, 1) := by decide +kernel
theorem dX10_home_53 : decode cX10_home 53 = .ok (.aload_n 0, 1) := by decide +kernel
theorem dX10_home_54 : decode cX10_home 54 = .ok (.getfield 7, 3) := by decide +kernel
theorem dX10_home_57 : decode cX10_home 57 = .ok (.aload_n 0, 1) := by decide +kernel
theorem dX10_home_58 : decode cX10_home 58 = .ok (.getfield 83, 3) := by decide +kernel
theorem dX10_home_61 : decode cX10_home 61 = .ok (.iload_n 1, 1) := by decide +kernel
theorem dX10_home_62 : decode cX10_home 62 = .ok (.iastore, 1) := by decide +kernel
theorem dX10_home_63 : decode cX10_home 63 = .ok (.aload_n 0, 1) := by decide +kernel
theorem dX10_home_64 : decode cX10_home 64 = .ok (.getfield 13, 3) := by decide +kernel
theorem dX10_home_67 : decode cX10_home 67 = .ok (.aload_n 0, 1) := by decide +kernel
theorem dX10_home_68 : decode cX10_home 68 = .ok (.getfield 83, 3) := by decide +kernel
theorem dX10_home_71 : decode cX10_home 71 = .ok (.iload_n 2, 1) := by decide +kernel
theorem dX10_home_72 : decode cX10_home 72 = .ok (.iastore, 1) := by decide +kernel
theorem dX10_home_73 : decode cX10_home 73 = .ok (.aload_n 0, 1) := by decide +kernel
theorem dX10_home_74 : decode cX10_home 74 = .ok (.getfield 16, 3) := by decide +kernel
theorem dX10_home_77 : decode cX10_home 77 = .ok (.aload_n 0, 1) := by decide +kernel
theorem dX10_home_78 : decode cX10_home 78 = .ok (.getfield 83, 3) := by decide +kernel
theorem dX10_home_81 : decode cX10_home 81 = .ok (.iload_n 3, 1) := by decide +kernel
theorem dX10_home_82 : decode cX10_home 82 = .ok (.iastore, 1) := by decide +kernel
theorem dX10_home_83 : decode cX10_home 83 = .ok (.aload_n 0, 1) := by decide +kernel
theorem dX10_home_84 : decode cX10_home 84 = .ok (.getfield 19, 3) := by decide +kernel
theorem dX10_home_87 : decode cX10_home 87 = .ok (.aload_n 0, 1) := by decide +kernel
theorem dX10_home_88 : decode cX10_home 88 = .ok (.getfield 83, 3) := by decide +kernel
theorem dX10_home_91 : decode cX10_home 91 = .ok (.iload 4, 2) := by decide +kernel
theorem dX10_home_93 : decode cX10_home 93 = .ok (.iastore, 1) := by decide +kernel
theorem dX10_home_94 : decode cX10_home 94 = .ok (.aload_n 0, 1) := by decide +kernel
theorem dX10_home_95 : decode cX10_home 95 = .ok (.getfield 22, 3) := by decide +kernel
theorem dX10_home_98 : decode cX10_home 98 = .ok (.aload_n 0, 1) := by decide +kernel
theorem dX10_home_99 : decode cX10_home 99 = .ok (.getfield 83, 3) := by decide +kernel
theorem dX10_home_102 : decode cX10_home 102 = .ok (.iconst 0, 1) := by decide +kernel
theorem dX10_home_103 : decode cX10_home 103 = .ok (.iastore, 1) := by decide +kernel
theorem dX10_home_104 : decode cX10_home 104 = .ok (.aload_n 0, 1) := by decide +kernel
theorem dX10_home_105 : decode cX10_home 105 = .ok (.dup, 1) := by decide +kernel
theorem dX10_home_106 : decode cX10_home 106 = .ok (.getfield 83, 3) := by decide +kernel
theorem dX10_home_109 : decode cX10_home 109 = .ok (.iconst 1, 1) := by decide +kernel
theorem dX10_home_110 : decode cX10_home 110 = .ok (.iadd, 1) := by decide +kernel
theorem dX10_home_111 : decode cX10_home 111 = .ok (.putfield 83, 3) := by decide +kernel
theorem dX10_home_114 : decode cX10_home 114 = .ok (.aload_n 0, 1) := by decide +kernel
theorem dX10_home_115 : decode cX10_home 115 = .ok (.getfield 83, 3) := by decide +kernel
theorem dX10_home_118 : decode cX10_home 118 = .ok (.iconst 1, 1) := by decide +kernel
theorem dX10_home_119 : decode cX10_home 119 = .ok (.isub, 1) := by decide +kernel
theorem dX10_home_120 : decode cX10_home 120 = .ok (.ireturn, 1) := by decide +kernel
set_option maxRecDepth 20000 in
theorem ggX10_faults_X10_isHome : GoodIn wsX10_faults wsX10_isHome := goodIn_r _ [6, 7, 8, 9, 5, 10, 11, 12, 13, 14, 15, 16, 17, 18, 19, 20, 21, 22, 23, 24, 25, 26, 27, 28, 29, 30, 31, 32, 33, 34, 35, 36, 37, 38, 39, 40] (by decide +kernel) (by decide +kernel)
set_option maxRecDepth 20000 in
theorem gX10_faults_X10_isHome : GoodIn wsX10_faults (wsV RX10 91 RX10 yX10_isHome wsX10_isHome) := goodIn_app (goodIn_of _ (by decide +kernel)) ggX10_faults_X10_isHome
set_option maxRecDepth 20000 in
theorem ggX10_faults_X10_in : GoodIn wsX10_faults wsX10_in := goodIn_r _ [10] (by decide +kernel) (by decide +kernel)
set_option maxRecDepth 20000 in
theorem gX10_faults_X10_in : GoodIn wsX10_faults (va_wsS RX10 87 yX10_in wsX10_in) := goodIn_app (goodIn_of _ (by decide +kernel)) ggX10_faults_X10_in
theorem dX10_faults_0 : decode cX10_faults 0 = .ok (.aload_n 0, 1) := by decide +kernel
theorem dX10_faults_1 : decode cX10_faults 1 = .ok (.iload_n 1, 1) := by decide +kernel
theorem dX10_faults_2 : decode cX10_faults 2 = .ok (.invokevirtual 91, 3) := by decide +kernel
theorem dX10_faults_5 : decode cX10_faults 5 = .ok (.ifCond .eq 13, 3) := by decide +kernel
theorem dX10_faults_8 : decode cX10_faults 8 = .ok (.iload_n 2, 1) := by decide +kernel
theorem dX10_faults_9 : decode cX10_faults 9 = .ok (.iconst 0, 1) := by decide +kernel
theorem dX10_faults_10 : decode cX10_faults 10 = .ok (.bipush 9, 2) := by decide +kernel
theorem dX10_faults_12 : decode cX10_faults 12 = .ok (.invokestatic 87, 3) := by decide +kernel
theorem dX10_faults_15 : decode cX10_faults 15 = .ok (.ifCond .ne 5, 3) := by decide +kernel
theorem dX10_faults_18 : decode cX10_faults 18 = .ok (.iconst (-1), 1) := by decide +kernel
theorem dX10_faults_19 : decode cX10_faults 19 = .ok (.ireturn, 1) := by decide +kernel
theorem dX10_faults_20 : decode cX10_faults 20 = .ok (.aload_n 0, 1) := by decide +kernel
theorem dX10_faults_21 : decode cX10_faults 21 = .ok (.getfield 22, 3) := by decide +kernel
theorem dX10_faults_24 : decode cX10_faults 24 = .ok (.iload_n 1, 1) := by decide +kernel
theorem dX10_faults_25 : decode cX10_faults 25 = .ok (.iaload, 1) := by decide +kernel
theorem dX10_faults_26 : decode cX10_faults 26 = .ok (.istore_n 3, 1) := by decide +kernel
theorem dX10_faults_27 : decode cX10_faults 27 = .ok (.aload_n 0, 1) := by decide +kernel
theorem dX10_faults_28 : decode cX10_faults 28 = .ok (.getfield 22, 3) := by decide +kernel
theorem dX10_faults_31 : decode cX10_faults 31 = .ok (.iload_n 1, 1) := by decide +kernel
theorem dX10_faults_32 : decode cX10_faults 32 = .ok (.iload_n 2, 1) := by decide +kernel
theorem dX10_faults_33 : decode cX10_faults 33 = .ok (.iastore, 1) := by decide +kernel
theorem dX10_faults_34 : decode cX10_faults 34 = .ok (.iload_n 3, 1) := by decide +kernel
theorem dX10_faults_35 : decode cX10_faults 35 = .ok (.ireturn, 1) := by decide +kernel
theorem dX10_pointsOf_0 : decode cX10_pointsOf 0 = .ok (.bipush 10, 2) := by decide +kernel
theorem dX10_pointsOf_2 : decode cX10_pointsOf 2 = .ok (.aload_n 0, 1) := by decide +kernel
theorem dX10_pointsOf_3 : decode cX10_pointsOf 3 = .ok (.getfield 16, 3) := by decide +kernel
theorem dX10_pointsOf_6 : decode cX10_pointsOf 6 = .ok (.iload_n 1, 1) := by decide +kernel
theorem dX10_pointsOf_7 : decode cX10_pointsOf 7 = .ok (.iaload, 1) := by decide +kernel
theorem dX10_pointsOf_8 : decode cX10_pointsOf 8 = .ok (.imul, 1) := by decide +kernel
theorem dX10_pointsOf_9 : decode cX10_pointsOf 9 = .ok (.aload_n 0, 1) := by decide +kernel
theorem dX10_pointsOf_10 : decode cX10_pointsOf 10 = .ok (.getfield 7, 3) := by decide +kernel
theorem dX10_pointsOf_13 : decode cX10_pointsOf 13 = .ok (.iload_n 1, 1) := by decide +kernel
theorem dX10_pointsOf_14 : decode cX10_pointsOf 14 = .ok (.iaload, 1) := by decide +kernel
theorem dX10_pointsOf_15 : decode cX10_pointsOf 15 = .ok (.ifCond .le 14, 3) := by decide +kernel
theorem dX10_pointsOf_18 : decode cX10_pointsOf 18 = .ok (.iconst 2, 1) := by decide +kernel
theorem dX10_pointsOf_19 : decode cX10_pointsOf 19 = .ok (.aload_n 0, 1) := by decide +kernel
theorem dX10_pointsOf_20 : decode cX10_pointsOf 20 = .ok (.getfield 19, 3) := by decide +kernel
theorem dX10_pointsOf_23 : decode cX10_pointsOf 23 = .ok (.iload_n 1, 1) := by decide +kernel
theorem dX10_pointsOf_24 : decode cX10_pointsOf 24 = .ok (.iaload, 1) := by decide +kernel
theorem dX10_pointsOf_25 : decode cX10_pointsOf 25 = .ok (.imul, 1) := by decide +kernel
theorem dX10_pointsOf_26 : decode cX10_pointsOf 26 = .ok (.goto 4, 3) := by decide +kernel
theorem dX10_pointsOf_29 : decode cX10_pointsOf 29 = .ok (.iconst 0, 1) := by decide +kernel
theorem dX10_pointsOf_30 : decode cX10_pointsOf 30 = .ok (.isub, 1) := by decide +kernel
theorem dX10_pointsOf_31 : decode cX10_pointsOf 31 = .ok (.istore_n 2, 1) := by decide +kernel
theorem dX10_pointsOf_32 : decode cX10_pointsOf 32 = .ok (.aload_n 0, 1) := by decide +kernel
theorem dX10_pointsOf_33 : decode cX10_pointsOf 33 = .ok (.getfield 7, 3) := by decide +kernel
theorem dX10_pointsOf_36 : decode cX10_pointsOf 36 = .ok (.iload_n 1, 1) := by decide +kernel
theorem dX10_pointsOf_37 : decode cX10_pointsOf 37 = .ok (.iaload, 1) := by decide +kernel
theorem dX10_pointsOf_38 : decode cX10_pointsOf 38 = .ok (.iconst 2, 1) := by decide +kernel
theorem dX10_pointsOf_39 : decode cX10_pointsOf 39 = .ok (.if_icmp .ge 5, 3) := by decide +kernel
theorem dX10_pointsOf_42 : decode cX10_pointsOf 42 = .ok (.iload_n 2, 1) := by decide +kernel
theorem dX10_pointsOf_43 : decode cX10_pointsOf 43 = .ok (.ireturn, 1) := by decide +kernel
theorem dX10_pointsOf_44 : decode cX10_pointsOf 44 = .ok (.iload_n 2, 1) := by decide +kernel
theorem dX10_pointsOf_45 : decode cX10_pointsOf 45 = .ok (.ifCond .lt 9, 3) := by decide +kernel
theorem dX10_pointsOf_48 : decode cX10_pointsOf 48 = .ok (.iload_n 2, 1) := by decide +kernel
theorem dX10_pointsOf_49 : decode cX10_pointsOf 49 = .ok (.iconst 4, 1) := by decide +kernel
theorem dX10_pointsOf_50 : decode cX10_pointsOf 50 = .ok (.idiv, 1) := by decide +kernel
theorem dX10_pointsOf_51 : decode cX10_pointsOf 51 = .ok (.goto 9, 3) := by decide +kernel
theorem dX10_pointsOf_54 : decode cX10_pointsOf 54 = .ok (.iconst 3, 1) := by decide +kernel
theorem dX10_pointsOf_55 : decode cX10_pointsOf 55 = .ok (.iload_n 2, 1) := by decide +kernel
theorem dX10_pointsOf_56 : decode cX10_pointsOf 56 = .ok (.isub, 1) := by decide +kernel
theorem dX10_pointsOf_57 : decode cX10_pointsOf 57 = .ok (.iconst 4, 1) := by decide +kernel
theorem dX10_pointsOf_58 : decode cX10_pointsOf 58 = .ok (.idiv, 1) := by decide +kernel
theorem dX10_pointsOf_59 : decode cX10_pointsOf 59 = .ok (.ineg, 1) := by decide +kernel
theorem dX10_pointsOf_60 : decode cX10_pointsOf 60 = .ok (.istore_n 3, 1) := by decide +kernel
theorem dX10_pointsOf_61 : decode cX10_pointsOf 61 = .ok (.iload_n 2, 1) := by decide +kernel
theorem dX10_pointsOf_62 : decode cX10_pointsOf 62 = .ok (.iload_n 3, 1) := by decide +kernel
theorem dX10_pointsOf_63 : decode cX10_pointsOf 63 = .ok (.isub, 1) := by decide +kernel
theorem dX10_pointsOf_64 : decode cX10_pointsOf 64 = .ok (.ireturn, 1) := by decide +kernel
set_option maxRecDepth 20000 in
theorem ggX10_points_X10_isHome : GoodIn wsX10_points wsX10_isHome := goodIn_r _ [9, 10, 11, 12, 8, 13, 20, 21, 22, 23, 24, 25, 26, 27, 28, 29, 30, 31, 32, 33, 34, 35, 36, 37, 38, 39, 40, 41, 42, 43, 44, 45, 46, 47, 48, 49] (by decide +kernel) (by decide +kernel)
set_option maxRecDepth 20000 in
theorem gX10_points_X10_isHome : GoodIn wsX10_points (wsV RX10 91 RX10 yX10_isHome wsX10_isHome) := goodIn_app (goodIn_of _ (by decide +kernel)) ggX10_points_X10_isHome
set_option maxRecDepth 20000 in
theorem ggX10_points_X10_pointsOf : GoodIn wsX10_points wsX10_pointsOf := goodIn_r _ [17, 18, 2, 19, 20, 21, 22, 23, 24, 25, 26, 27, 28, 29, 30, 31, 32, 33, 34, 35, 36, 37, 38, 39, 40, 41, 42, 43, 44, 45, 46, 47, 48, 49] (by decide +kernel) (by decide +kernel)
set_option maxRecDepth 20000 in
theorem gX10_points_X10_pointsOf : GoodIn wsX10_points (wsV RX10 103 RX10 yX10_pointsOf wsX10_pointsOf) := goodIn_app (goodIn_of _ (by decide +kernel)) ggX10_points_X10_pointsOf
theorem dX10_points_0 : decode cX10_points 0 = .ok (.aload_n 0, 1) := by decide +kernel
theorem dX10_points_1 : decode cX10_points 1 = .ok (.iload_n 1, 1) := by decide +kernel
theorem dX10_points_2 : decode cX10_points 2 = .ok (.invokevirtual 91, 3) := by decide +kernel
theorem dX10_points_5 : decode cX10_points 5 = .ok (.ifCond .ne 5, 3) := by decide +kernel
theorem dX10_points_8 : decode cX10_points 8 = .ok (.iconst (-1), 1) := by decide +kernel
theorem dX10_points_9 : decode cX10_points 9 = .ok (.ireturn, 1) := by decide +kernel
theorem dX10_points_10 : decode cX10_points 10 = .ok (.aload_n 0, 1) := by decide +kernel
theorem dX10_points_11 : decode cX10_points 11 = .ok (.dup, 1) := by decide +kernel
theorem dX10_points_12 : decode cX10_points 12 = .ok (.getfield 95, 3) := by decide +kernel
theorem dX10_points_15 : decode cX10_points 15 = .ok (.aload_n 0, 1) := by decide +kernel
theorem dX10_points_16 : decode cX10_points 16 = .ok (.getfield 7, 3) := by decide +kernel
theorem dX10_points_19 : decode cX10_points 19 = .ok (.iload_n 1, 1) := by decide +kernel
theorem dX10_points_20 : decode cX10_points 20 = .ok (.iaload, 1) := by decide +kernel
theorem dX10_points_21 : decode cX10_points 21 = .ok (.ifCond .ne 7, 3) := by decide +kernel
theorem dX10_points_24 : decode cX10_points 24 = .ok (.lconst 1, 1) := by decide +kernel
theorem dX10_points_25 : decode cX10_points 25 = .ok (.goto 22, 3) := by decide +kernel
theorem dX10_points_28 : decode cX10_points 28 = .ok (.aload_n 0, 1) := by decide +kernel
theorem dX10_points_29 : decode cX10_points 29 = .ok (.getfield 7, 3) := by decide +kernel
theorem dX10_points_32 : decode cX10_points 32 = .ok (.iload_n 1, 1) := by decide +kernel
theorem dX10_points_33 : decode cX10_points 33 = .ok (.iaload, 1) := by decide +kernel
theorem dX10_points_34 : decode cX10_points 34 = .ok (.iconst 1, 1) := by decide +kernel
theorem dX10_points_35 : decode cX10_points 35 = .ok (.if_icmp .ne 9, 3) := by decide +kernel
theorem dX10_points_38 : decode cX10_points 38 = .ok (.ldc2_w 99, 3) := by decide +kernel
theorem dX10_points_41 : decode cX10_points 41 = .ok (.goto 6, 3) := by decide +kernel
theorem dX10_points_44 : decode cX10_points 44 = .ok (.ldc2_w 101, 3) := by decide +kernel
theorem dX10_points_47 : decode cX10_points 47 = .ok (.ladd, 1) := by decide +kernel
theorem dX10_points_48 : decode cX10_points 48 = .ok (.putfield 95, 3) := by decide +kernel
theorem dX10_points_51 : decode cX10_points 51 = .ok (.aload_n 0, 1) := by decide +kernel
theorem dX10_points_52 : decode cX10_points 52 = .ok (.iload_n 1, 1) := by decide +kernel
theorem dX10_points_53 : decode cX10_points 53 = .ok (.invokevirtual 103, 3) := by decide +kernel
theorem dX10_points_56 : decode cX10_points 56 = .ok (.ireturn, 1) := by decide +kernel
set_option maxRecDepth 20000 in
theorem ggX10_law_X10_in : GoodIn wsX10_law wsX10_in := goodIn_r _ [7] (by decide +kernel) (by decide +kernel)
set_option maxRecDepth 20000 in
theorem gX10_law_X10_in : GoodIn wsX10_law (va_wsS RX10 87 yX10_in wsX10_in) := goodIn_app (goodIn_of _ (by decide +kernel)) ggX10_law_X10_in
theorem dX10_law_0 : decode cX10_law 0 = .ok (.iload_n 1, 1) := by decide +kernel
theorem dX10_law_1 : decode cX10_law 1 = .ok (.iconst 0, 1) := by decide +kernel
theorem dX10_law_2 : decode cX10_law 2 = .ok (.bipush 30, 2) := by decide +kernel
theorem dX10_law_4 : decode cX10_law 4 = .ok (.invokestatic 87, 3) := by decide +kernel
theorem dX10_law_7 : decode cX10_law 7 = .ok (.ifCond .eq 83, 3) := by decide +kernel
theorem dX10_law_10 : decode cX10_law 10 = .ok (.iload_n 2, 1) := by decide +kernel
theorem dX10_law_11 : decode cX10_law 11 = .ok (.iconst 0, 1) := by decide +kernel
theorem dX10_law_12 : decode cX10_law 12 = .ok (.bipush 90, 2) := by decide +kernel
theorem dX10_law_14 : decode cX10_law 14 = .ok (.invokestatic 87, 3) := by decide +kernel
theorem dX10_law_17 : decode cX10_law 17 = .ok (.ifCond .eq 73, 3) := by decide +kernel
theorem dX10_law_20 : decode cX10_law 20 = .ok (.iload_n 3, 1) := by decide +kernel
theorem dX10_law_21 : decode cX10_law 21 = .ok (.iconst 0, 1) := by decide +kernel
theorem dX10_law_22 : decode cX10_law 22 = .ok (.bipush 90, 2) := by decide +kernel
theorem dX10_law_24 : decode cX10_law 24 = .ok (.invokestatic 87, 3) := by decide +kernel
theorem dX10_law_27 : decode cX10_law 27 = .ok (.ifCond .eq 63, 3) := by decide +kernel
theorem dX10_law_30 : decode cX10_law 30 = .ok (.iload 4, 2) := by decide +kernel
theorem dX10_law_32 : decode cX10_law 32 = .ok (.iconst 0, 1) := by decide +kernel
theorem dX10_law_33 : decode cX10_law 33 = .ok (.bipush 90, 2) := by decide +kernel
theorem dX10_law_35 : decode cX10_law 35 = .ok (.invokestatic 87, 3) := by decide +kernel
theorem dX10_law_38 : decode cX10_law 38 = .ok (.ifCond .eq 52, 3) := by decide +kernel
theorem dX10_law_41 : decode cX10_law 41 = .ok (.iload 5, 2) := by decide +kernel
theorem dX10_law_43 : decode cX10_law 43 = .ok (.iconst 1, 1) := by decide +kernel
theorem dX10_law_44 : decode cX10_law 44 = .ok (.bipush 9, 2) := by decide +kernel
theorem dX10_law_46 : decode cX10_law 46 = .ok (.invokestatic 87, 3) := by decide +kernel
theorem dX10_law_49 : decode cX10_law 49 = .ok (.ifCond .eq 41, 3) := by decide +kernel
theorem dX10_law_52 : decode cX10_law 52 = .ok (.iload 6, 2) := by decide +kernel
theorem dX10_law_54 : decode cX10_law 54 = .ok (.iconst 0, 1) := by decide +kernel
theorem dX10_law_55 : decode cX10_law 55 = .ok (.bipush 20, 2) := by decide +kernel
theorem dX10_law_57 : decode cX10_law 57 = .ok (.invokestatic 87, 3) := by decide +kernel
theorem dX10_law_60 : decode cX10_law 60 = .ok (.ifCond .eq 30, 3) := by decide +kernel
theorem dX10_law_63 : decode cX10_law 63 = .ok (.iload 7, 2) := by decide +kernel
theorem dX10_law_65 : decode cX10_law 65 = .ok (.iconst 1, 1) := by decide +kernel
theorem dX10_law_66 : decode cX10_law 66 = .ok (.sipush 500, 3) := by decide +kernel
theorem dX10_law_69 : decode cX10_law 69 = .ok (.invokestatic 87, 3) := by decide +kernel
theorem dX10_law_72 : decode cX10_law 72 = .ok (.ifCond .eq 18, 3) := by decide +kernel
theorem dX10_law_75 : decode cX10_law 75 = .ok (.iload 8, 2) := by decide +kernel
theorem dX10_law_77 : decode cX10_law 77 = .ok (.iconst 0, 1) := by decide +kernel
theorem dX10_law_78 : decode cX10_law 78 = .ok (.bipush 60, 2) := by decide +kernel
theorem dX10_law_80 : decode cX10_law 80 = .ok (.invokestatic 87, 3) := by decide +kernel
theorem dX10_law_83 : decode cX10_law 83 = .ok (.ifCond .eq 7, 3) := by decide +kernel
theorem dX10_law_86 : decode cX10_law 86 = .ok (.iconst 1, 1) := by decide +kernel
theorem dX10_law_87 : decode cX10_law 87 = .ok (.goto 4, 3) := by decide +kernel
theorem dX10_law_90 : decode cX10_law 90 = .ok (.iconst 0, 1) := by decide +kernel
theorem dX10_law_91 : decode cX10_law 91 = .ok (.istore 9, 2) := by decide +kernel
theorem dX10_law_93 : decode cX10_law 93 = .ok (.iload 9, 2) := by decide +kernel
theorem dX10_law_95 : decode cX10_law 95 = .ok (.ifCond .ne 5, 3) := by decide +kernel
theorem dX10_law_98 : decode cX10_law 98 = .ok (.iconst (-1), 1) := by decide +kernel
theorem dX10_law_99 : decode cX10_law 99 = .ok (.ireturn, 1) := by decide +kernel
theorem dX10_law_100 : decode cX10_law 100 = .ok (.bipush 10, 2) := by decide +kernel
theorem dX10_law_102 : decode cX10_law 102 = .ok (.iload_n 1, 1) := by decide +kernel
theorem dX10_law_103 : decode cX10_law 103 = .ok (.imul, 1) := by decide +kernel
theorem dX10_law_104 : decode cX10_law 104 = .ok (.aload_n 0, 1) := by decide +kernel
theorem dX10_law_105 : decode cX10_law 105 = .ok (.getfield 107, 3) := by decide +kernel
theorem dX10_law_108 : decode cX10_law 108 = .ok (.if_icmp .gt 6, 3) := by decide +kernel
theorem dX10_law_111 : decode cX10_law 111 = .ok (.bipush (-2), 2) := by decide +kernel
theorem dX10_law_113 : decode cX10_law 113 = .ok (.ireturn, 1) := by decide +kernel
theorem dX10_law_114 : decode cX10_law 114 = .ok (.bipush 7, 2) := by decide +kernel
theorem dX10_law_116 : decode cX10_law 116 = .ok (.iload_n 1, 1) := by decide +kernel
theorem dX10_law_117 : decode cX10_law 117 = .ok (.imul, 1) := by decide +kernel
theorem dX10_law_118 : decode cX10_law 118 = .ok (.istore 10, 2) := by decide +kernel
theorem dX10_law_120 : decode cX10_law 120 = .ok (.aload_n 0, 1) := by decide +kernel
theorem dX10_law_121 : decode cX10_law 121 = .ok (.getfield 25, 3) := by decide +kernel
theorem dX10_law_124 : decode cX10_law 124 = .ok (.iload 10, 2) := by decide +kernel
theorem dX10_law_126 : decode cX10_law 126 = .ok (.iload_n 2, 1) := by decide +kernel
theorem dX10_law_127 : decode cX10_law 127 = .ok (.iastore, 1) := by decide +kernel
theorem dX10_law_128 : decode cX10_law 128 = .ok (.aload_n 0, 1) := by decide +kernel
theorem dX10_law_129 : decode cX10_law 129 = .ok (.getfield 25, 3) := by decide +kernel
theorem dX10_law_132 : decode cX10_law 132 = .ok (.iload 10, 2) := by decide +kernel
theorem dX10_law_134 : decode cX10_law 134 = .ok (.iconst 1, 1) := by decide +kernel
theorem dX10_law_135 : decode cX10_law 135 = .ok (.iadd, 1) := by decide +kernel
theorem dX10_law_136 : decode cX10_law 136 = .ok (.iload_n 3, 1) := by decide +kernel
theorem dX10_law_137 : decode cX10_law 137 = .ok (.iastore, 1) := by decide +kernel
theorem dX10_law_138 : decode cX10_law 138 = .ok (.aload_n 0, 1) := by decide +kernel
theorem dX10_law_139 : decode cX10_law 139 = .ok (.getfield 25, 3) := by decide +kernel
theorem dX10_law_142 : decode cX10_law 142 = .ok (.iload 10, 2) := by decide +kernel
theorem dX10_law_144 : decode cX10_law 144 = .ok (.iconst 2, 1) := by decide +kernel
theorem dX10_law_145 : decode cX10_law 145 = .ok (.iadd, 1) := by decide +kernel
theorem dX10_law_146 : decode cX10_law 146 = .ok (.iload 4, 2) := by decide +kernel
theorem dX10_law_148 : decode cX10_law 148 = .ok (.iastore, 1) := by decide +kernel
theorem dX10_law_149 : decode cX10_law 149 = .ok (.aload_n 0, 1) := by decide +kernel
theorem dX10_law_150 : decode cX10_law 150 = .ok (.getfield 25, 3) := by decide +kernel
theorem dX10_law_153 : decode cX10_law 153 = .ok (.iload 10, 2) := by decide +kernel
theorem dX10_law_155 : decode cX10_law 155 = .ok (.iconst 3, 1) := by decide +kernel
theorem dX10_law_156 : decode cX10_law 156 = .ok (.iadd, 1) := by decide +kernel
theorem dX10_law_157 : decode cX10_law 157 = .ok (.iload 5, 2) := by decide +kernel
theorem dX10_law_159 : decode cX10_law 159 = .ok (.iastore, 1) := by decide +kernel
theorem dX10_law_160 : decode cX10_law 160 = .ok (.aload_n 0, 1) := by decide +kernel
theorem dX10_law_161 : decode cX10_law 161 = .ok (.getfield 25, 3) := by decide +kernel
theorem dX10_law_164 : decode cX10_law 164 = .ok (.iload 10, 2) := by decide +kernel
theorem dX10_law_166 : decode cX10_law 166 = .ok (.iconst 4, 1) := by decide +kernel
theorem dX10_law_167 : decode cX10_law 167 = .ok (.iadd, 1) := by decide +kernel
theorem dX10_law_168 : decode cX10_law 168 = .ok (.iload 6, 2) := by decide +kernel
theorem dX10_law_170 : decode cX10_law 170 = .ok (.iastore, 1) := by decide +kernel
theorem dX10_law_171 : decode cX10_law 171 = .ok (.aload_n 0, 1) := by decide +kernel
theorem dX10_law_172 : decode cX10_law 172 = .ok (.getfield 25, 3) := by decide +kernel
theorem dX10_law_175 : decode cX10_law 175 = .ok (.iload 10, 2) := by decide +kernel
theorem dX10_law_177 : decode cX10_law 177 = .ok (.iconst 5, 1) := by decide +kernel
theorem dX10_law_178 : decode cX10_law 178 = .ok (.iadd, 1) := by decide +kernel
theorem dX10_law_179 : decode cX10_law 179 = .ok (.iload 7, 2) := by decide +kernel
theorem dX10_law_181 : decode cX10_law 181 = .ok (.iastore, 1) := by decide +kernel
theorem dX10_law_182 : decode cX10_law 182 = .ok (.aload_n 0, 1) := by decide +kernel
theorem dX10_law_183 : decode cX10_law 183 = .ok (.getfield 25, 3) := by decide +kernel
theorem dX10_law_186 : decode cX10_law 186 = .ok (.iload 10, 2) := by decide +kernel
theorem dX10_law_188 : decode cX10_law 188 = .ok (.bipush 6, 2) := by decide +kernel
theorem dX10_law_190 : decode cX10_law 190 = .ok (.iadd, 1) := by decide +kernel
theorem dX10_law_191 : decode cX10_law 191 = .ok (.iload 8, 2) := by decide +kernel
theorem dX10_law_193 : decode cX10_law 193 = .ok (.iastore, 1) := by decide +kernel
theorem dX10_law_194 : decode cX10_law 194 = .ok (.aload_n 0, 1) := by decide +kernel
theorem dX10_law_195 : decode cX10_law 195 = .ok (.getfield 28, 3) := by decide +kernel
theorem dX10_law_198 : decode cX10_law 198 = .ok (.iload_n 1, 1) := by decide +kernel
theorem dX10_law_199 : decode cX10_law 199 = .ok (.iconst 1, 1) := by decide +kernel
theorem dX10_law_200 : decode cX10_law 200 = .ok (.bastore, 1) := by decide +kernel
theorem dX10_law_201 : decode cX10_law 201 = .ok (.iconst 1, 1) := by decide +kernel
theorem dX10_law_202 : decode cX10_law 202 = .ok (.ireturn, 1) := by decide +kernel
theorem dX10_yearOf_0 : decode cX10_yearOf 0 = .ok (.iload_n 1, 1) := by decide +kernel
theorem dX10_yearOf_1 : decode cX10_yearOf 1 = .ok (.bipush 10, 2) := by decide +kernel
theorem dX10_yearOf_3 : decode cX10_yearOf 3 = .ok (.idiv, 1) := by decide +kernel
theorem dX10_yearOf_4 : decode cX10_yearOf 4 = .ok (.bipush 30, 2) := by decide +kernel
theorem dX10_yearOf_6 : decode cX10_yearOf 6 = .ok (.if_icmp .le 8, 3) := by decide +kernel
theorem dX10_yearOf_9 : decode cX10_yearOf 9 = .ok (.bipush 30, 2) := by decide +kernel
theorem dX10_yearOf_11 : decode cX10_yearOf 11 = .ok (.goto 7, 3) := by decide +kernel
theorem dX10_yearOf_14 : decode cX10_yearOf 14 = .ok (.iload_n 1, 1) := by decide +kernel
theorem dX10_yearOf_15 : decode cX10_yearOf 15 = .ok (.bipush 10, 2) := by decide +kernel
theorem dX10_yearOf_17 : decode cX10_yearOf 17 = .ok (.idiv, 1) := by decide +kernel
theorem dX10_yearOf_18 : decode cX10_yearOf 18 = .ok (.istore_n 2, 1) := by decide +kernel
theorem dX10_yearOf_19 : decode cX10_yearOf 19 = .ok (.iload_n 2, 1) := by decide +kernel
theorem dX10_yearOf_20 : decode cX10_yearOf 20 = .ok (.ifCond .lt 18, 3) := by decide +kernel
theorem dX10_yearOf_23 : decode cX10_yearOf 23 = .ok (.aload_n 0, 1) := by decide +kernel
theorem dX10_yearOf_24 : decode cX10_yearOf 24 = .ok (.getfield 28, 3) := by decide +kernel
theorem dX10_yearOf_27 : decode cX10_yearOf 27 = .ok (.iload_n 2, 1) := by decide +kernel
theorem dX10_yearOf_28 : decode cX10_yearOf 28 = .ok (.baload, 1) := by decide +kernel
theorem dX10_yearOf_29 : decode cX10_yearOf 29 = .ok (.ifCond .ne 9, 3) := by decide +kernel
theorem dX10_yearOf_32 : decode cX10_yearOf 32 = .ok (.iinc 2 (-1), 3) := by decide +kernel
theorem dX10_yearOf_35 : decode cX10_yearOf 35 = .ok (.goto (-16), 3) := by decide +kernel
theorem dX10_yearOf_38 : decode cX10_yearOf 38 = .ok (.iload_n 2, 1) := by decide +kernel
theorem dX10_yearOf_39 : decode cX10_yearOf 39 = .ok (.ifCond .ge 8, 3) := by decide +kernel
theorem dX10_yearOf_42 : decode cX10_yearOf 42 = .ok (.bipush 31, 2) := by decide +kernel
theorem dX10_yearOf_44 : decode cX10_yearOf 44 = .ok (.goto 4, 3) := by decide +kernel
theorem dX10_yearOf_47 : decode cX10_yearOf 47 = .ok (.iload_n 2, 1) := by decide +kernel
theorem dX10_yearOf_48 : decode cX10_yearOf 48 = .ok (.ireturn, 1) := by decide +kernel
set_option maxRecDepth 20000 in
theorem ggX10_lawOf_X10_yearOf : GoodIn wsX10_lawOf wsX10_yearOf := goodIn_r _ [6, 7, 8, 9, 10, 11, 12, 13, 14, 15, 16, 17, 18, 19, 20, 21, 22, 23, 24, 25, 26, 27, 28, 29, 30, 31, 32, 33, 34, 35, 36, 37] (by decide +kernel) (by decide +kernel)
set_option maxRecDepth 20000 in
theorem gX10_lawOf_X10_yearOf : GoodIn wsX10_lawOf (wsV RX10 110 RX10 yX10_yearOf wsX10_yearOf) := goodIn_app (goodIn_of _ (by decide +kernel)) ggX10_lawOf_X10_yearOf
theorem dX10_lawOf_0 : decode cX10_lawOf 0 = .ok (.aload_n 0, 1) := by decide +kernel
theorem dX10_lawOf_1 : decode cX10_lawOf 1 = .ok (.getfield 25, 3) := by decide +kernel
theorem dX10_lawOf_4 : decode cX10_lawOf 4 = .ok (.bipush 7, 2) := by decide +kernel
theorem dX10_lawOf_6 : decode cX10_lawOf 6 = .ok (.aload_n 0, 1) := by decide +kernel
theorem dX10_lawOf_7 : decode cX10_lawOf 7 = .ok (.iload_n 1, 1) := by decide +kernel
theorem dX10_lawOf_8 : decode cX10_lawOf 8 = .ok (.invokevirtual 110, 3) := by decide +kernel
theorem dX10_lawOf_11 : decode cX10_lawOf 11 = .ok (.imul, 1) := by decide +kernel
theorem dX10_lawOf_12 : decode cX10_lawOf 12 = .ok (.iload_n 2, 1) := by decide +kernel
theorem dX10_lawOf_13 : decode cX10_lawOf 13 = .ok (.iadd, 1) := by decide +kernel
theorem dX10_lawOf_14 : decode cX10_lawOf 14 = .ok (.iaload, 1) := by decide +kernel
theorem dX10_lawOf_15 : decode cX10_lawOf 15 = .ok (.ireturn, 1) := by decide +kernel
set_option maxRecDepth 20000 in
theorem ggX10_force_X10_in : GoodIn wsX10_force wsX10_in := goodIn_r _ [4] (by decide +kernel) (by decide +kernel)
set_option maxRecDepth 20000 in
theorem gX10_force_X10_in : GoodIn wsX10_force (va_wsS RX10 87 yX10_in wsX10_in) := goodIn_app (goodIn_of _ (by decide +kernel)) ggX10_force_X10_in
set_option maxRecDepth 20000 in
theorem ggX10_force_X10_lawOf : GoodIn wsX10_force wsX10_lawOf := goodIn_r _ [8, 9, 10, 11, 12, 3, 13, 14, 15, 16, 17, 18, 19, 20, 21, 22, 23, 24, 25, 26, 27, 28, 29, 30, 31, 32, 33, 34, 35, 36, 37, 38, 39, 40, 41, 42, 43, 44] (by decide +kernel) (by decide +kernel)
set_option maxRecDepth 20000 in
theorem gX10_force_X10_lawOf : GoodIn wsX10_force (wsV RX10 113 RX10 yX10_lawOf wsX10_lawOf) := goodIn_app (goodIn_of _ (by decide +kernel)) ggX10_force_X10_lawOf
set_option maxRecDepth 20000 in
theorem ggX10_force_X10_yearOf : GoodIn wsX10_force wsX10_yearOf := goodIn_r _ [13, 14, 15, 16, 17, 18, 19, 20, 21, 22, 23, 24, 25, 26, 27, 28, 29, 30, 31, 32, 33, 34, 35, 36, 37, 38, 39, 40, 41, 42, 43, 44] (by decide +kernel) (by decide +kernel)
set_option maxRecDepth 20000 in
theorem gX10_force_X10_yearOf : GoodIn wsX10_force (wsV RX10 110 RX10 yX10_yearOf wsX10_yearOf) := goodIn_app (goodIn_of _ (by decide +kernel)) ggX10_force_X10_yearOf
theorem dX10_force_0 : decode cX10_force 0 = .ok (.iload_n 1, 1) := by decide +kernel
theorem dX10_force_1 : decode cX10_force 1 = .ok (.iconst 0, 1) := by decide +kernel
theorem dX10_force_2 : decode cX10_force 2 = .ok (.sipush 400, 3) := by decide +kernel
theorem dX10_force_5 : decode cX10_force 5 = .ok (.invokestatic 87, 3) := by decide +kernel
theorem dX10_force_8 : decode cX10_force 8 = .ok (.ifCond .eq 13, 3) := by decide +kernel
theorem dX10_force_11 : decode cX10_force 11 = .ok (.iload_n 2, 1) := by decide +kernel
theorem dX10_force_12 : decode cX10_force 12 = .ok (.iconst 0, 1) := by decide +kernel
theorem dX10_force_13 : decode cX10_force 13 = .ok (.bipush 7, 2) := by decide +kernel
theorem dX10_force_15 : decode cX10_force 15 = .ok (.invokestatic 87, 3) := by decide +kernel
theorem dX10_force_18 : decode cX10_force 18 = .ok (.ifCond .ne 5, 3) := by decide +kernel
theorem dX10_force_21 : decode cX10_force 21 = .ok (.iconst (-1), 1) := by decide +kernel
theorem dX10_force_22 : decode cX10_force 22 = .ok (.ireturn, 1) := by decide +kernel
theorem dX10_force_23 : decode cX10_force 23 = .ok (.iload_n 2, 1) := by decide +kernel
theorem dX10_force_24 : decode cX10_force 24 = .ok (.bipush 7, 2) := by decide +kernel
theorem dX10_force_26 : decode cX10_force 26 = .ok (.if_icmp .ge 12, 3) := by decide +kernel
theorem dX10_force_29 : decode cX10_force 29 = .ok (.aload_n 0, 1) := by decide +kernel
theorem dX10_force_30 : decode cX10_force 30 = .ok (.iload_n 1, 1) := by decide +kernel
theorem dX10_force_31 : decode cX10_force 31 = .ok (.iload_n 2, 1) := by decide +kernel
theorem dX10_force_32 : decode cX10_force 32 = .ok (.invokevirtual 113, 3) := by decide +kernel
theorem dX10_force_35 : decode cX10_force 35 = .ok (.goto 23, 3) := by decide +kernel
theorem dX10_force_38 : decode cX10_force 38 = .ok (.aload_n 0, 1) := by decide +kernel
theorem dX10_force_39 : decode cX10_force 39 = .ok (.iload_n 1, 1) := by decide +kernel
theorem dX10_force_40 : decode cX10_force 40 = .ok (.invokevirtual 110, 3) := by decide +kernel
theorem dX10_force_43 : decode cX10_force 43 = .ok (.bipush 31, 2) := by decide +kernel
theorem dX10_force_45 : decode cX10_force 45 = .ok (.if_icmp .ne 8, 3) := by decide +kernel
theorem dX10_force_48 : decode cX10_force 48 = .ok (.bipush (-9), 2) := by decide +kernel
theorem dX10_force_50 : decode cX10_force 50 = .ok (.goto 8, 3) := by decide +kernel
theorem dX10_force_53 : decode cX10_force 53 = .ok (.aload_n 0, 1) := by decide +kernel
theorem dX10_force_54 : decode cX10_force 54 = .ok (.iload_n 1, 1) := by decide +kernel
theorem dX10_force_55 : decode cX10_force 55 = .ok (.invokevirtual 110, 3) := by decide +kernel
theorem dX10_force_58 : decode cX10_force 58 = .ok (.ireturn, 1) := by decide +kernel
set_option maxRecDepth 20000 in
theorem ggX10_like_X10_in : GoodIn wsX10_like wsX10_in := goodIn_r _ [11] (by decide +kernel) (by decide +kernel)
set_option maxRecDepth 20000 in
theorem gX10_like_X10_in : GoodIn wsX10_like (va_wsS RX10 87 yX10_in wsX10_in) := goodIn_app (goodIn_of _ (by decide +kernel)) ggX10_like_X10_in
theorem dX10_like_0 : decode cX10_like 0 = .ok (.iload_n 1, 1) := by decide +kernel
theorem dX10_like_1 : decode cX10_like 1 = .ok (.iconst 0, 1) := by decide +kernel
theorem dX10_like_2 : decode cX10_like 2 = .ok (.iconst 2, 1) := by decide +kernel
theorem dX10_like_3 : decode cX10_like 3 = .ok (.invokestatic 87, 3) := by decide +kernel
theorem dX10_like_6 : decode cX10_like 6 = .ok (.ifCond .eq 25, 3) := by decide +kernel
theorem dX10_like_9 : decode cX10_like 9 = .ok (.iload_n 2, 1) := by decide +kernel
theorem dX10_like_10 : decode cX10_like 10 = .ok (.iconst 0, 1) := by decide +kernel
theorem dX10_like_11 : decode cX10_like 11 = .ok (.sipush 200, 3) := by decide +kernel
theorem dX10_like_14 : decode cX10_like 14 = .ok (.invokestatic 87, 3) := by decide +kernel
theorem dX10_like_17 : decode cX10_like 17 = .ok (.ifCond .eq 14, 3) := by decide +kernel
theorem dX10_like_20 : decode cX10_like 20 = .ok (.iload_n 3, 1) := by decide +kernel
theorem dX10_like_21 : decode cX10_like 21 = .ok (.iconst 1, 1) := by decide +kernel
theorem dX10_like_22 : decode cX10_like 22 = .ok (.sipush 5000, 3) := by decide +kernel
theorem dX10_like_25 : decode cX10_like 25 = .ok (.invokestatic 87, 3) := by decide +kernel
theorem dX10_like_28 : decode cX10_like 28 = .ok (.ifCond .ne 5, 3) := by decide +kernel
theorem dX10_like_31 : decode cX10_like 31 = .ok (.iconst (-1), 1) := by decide +kernel
theorem dX10_like_32 : decode cX10_like 32 = .ok (.ireturn, 1) := by decide +kernel
theorem dX10_like_33 : decode cX10_like 33 = .ok (.aload_n 0, 1) := by decide +kernel
theorem dX10_like_34 : decode cX10_like 34 = .ok (.getfield 117, 3) := by decide +kernel
theorem dX10_like_37 : decode cX10_like 37 = .ok (.bipush 12, 2) := by decide +kernel
theorem dX10_like_39 : decode cX10_like 39 = .ok (.if_icmp .ne 6, 3) := by decide +kernel
theorem dX10_like_42 : decode cX10_like 42 = .ok (.bipush (-3), 2) := by decide +kernel
theorem dX10_like_44 : decode cX10_like 44 = .ok (.ireturn, 1) := by decide +kernel
theorem dX10_like_45 : decode cX10_like 45 = .ok (.aload_n 0, 1) := by decide +kernel
theorem dX10_like_46 : decode cX10_like 46 = .ok (.getfield 32, 3) := by decide +kernel
theorem dX10_like_49 : decode cX10_like 49 = .ok (.aload_n 0, 1) := by decide +kernel
theorem dX10_like_50 : decode cX10_like 50 = .ok (.getfield 117, 3) := by decide +kernel
theorem dX10_like_53 : decode cX10_like 53 = .ok (.iload_n 1, 1) := by decide +kernel
theorem dX10_like_54 : decode cX10_like 54 = .ok (.iastore, 1) := by decide +kernel
theorem dX10_like_55 : decode cX10_like 55 = .ok (.aload_n 0, 1) := by decide +kernel
theorem dX10_like_56 : decode cX10_like 56 = .ok (.getfield 35, 3) := by decide +kernel
theorem dX10_like_59 : decode cX10_like 59 = .ok (.aload_n 0, 1) := by decide +kernel
theorem dX10_like_60 : decode cX10_like 60 = .ok (.getfield 117, 3) := by decide +kernel
theorem dX10_like_63 : decode cX10_like 63 = .ok (.iload_n 2, 1) := by decide +kernel
theorem dX10_like_64 : decode cX10_like 64 = .ok (.iastore, 1) := by decide +kernel
theorem dX10_like_65 : decode cX10_like 65 = .ok (.aload_n 0, 1) := by decide +kernel
theorem dX10_like_66 : decode cX10_like 66 = .ok (.getfield 38, 3) := by decide +kernel
theorem dX10_like_69 : decode cX10_like 69 = .ok (.aload_n 0, 1) := by decide +kernel
theorem dX10_like_70 : decode cX10_like 70 = .ok (.getfield 117, 3) := by decide +kernel
theorem dX10_like_73 : decode cX10_like 73 = .ok (.iload_n 3, 1) := by decide +kernel
theorem dX10_like_74 : decode cX10_like 74 = .ok (.iastore, 1) := by decide +kernel
theorem dX10_like_75 : decode cX10_like 75 = .ok (.aload_n 0, 1) := by decide +kernel
theorem dX10_like_76 : decode cX10_like 76 = .ok (.getfield 41, 3) := by decide +kernel
theorem dX10_like_79 : decode cX10_like 79 = .ok (.aload_n 0, 1) := by decide +kernel
theorem dX10_like_80 : decode cX10_like 80 = .ok (.getfield 117, 3) := by decide +kernel
theorem dX10_like_83 : decode cX10_like 83 = .ok (.aload_n 0, 1) := by decide +kernel
theorem dX10_like_84 : decode cX10_like 84 = .ok (.getfield 107, 3) := by decide +kernel
theorem dX10_like_87 : decode cX10_like 87 = .ok (.iastore, 1) := by decide +kernel
theorem dX10_like_88 : decode cX10_like 88 = .ok (.aload_n 0, 1) := by decide +kernel
theorem dX10_like_89 : decode cX10_like 89 = .ok (.getfield 44, 3) := by decide +kernel
theorem dX10_like_92 : decode cX10_like 92 = .ok (.aload_n 0, 1) := by decide +kernel
theorem dX10_like_93 : decode cX10_like 93 = .ok (.getfield 117, 3) := by decide +kernel
theorem dX10_like_96 : decode cX10_like 96 = .ok (.iconst 0, 1) := by decide +kernel
theorem dX10_like_97 : decode cX10_like 97 = .ok (.bastore, 1) := by decide +kernel
theorem dX10_like_98 : decode cX10_like 98 = .ok (.aload_n 0, 1) := by decide +kernel
theorem dX10_like_99 : decode cX10_like 99 = .ok (.dup, 1) := by decide +kernel
theorem dX10_like_100 : decode cX10_like 100 = .ok (.getfield 117, 3) := by decide +kernel
theorem dX10_like_103 : decode cX10_like 103 = .ok (.iconst 1, 1) := by decide +kernel
theorem dX10_like_104 : decode cX10_like 104 = .ok (.iadd, 1) := by decide +kernel
theorem dX10_like_105 : decode cX10_like 105 = .ok (.putfield 117, 3) := by decide +kernel
theorem dX10_like_108 : decode cX10_like 108 = .ok (.aload_n 0, 1) := by decide +kernel
theorem dX10_like_109 : decode cX10_like 109 = .ok (.getfield 117, 3) := by decide +kernel
theorem dX10_like_112 : decode cX10_like 112 = .ok (.iconst 1, 1) := by decide +kernel
theorem dX10_like_113 : decode cX10_like 113 = .ok (.isub, 1) := by decide +kernel
theorem dX10_like_114 : decode cX10_like 114 = .ok (.ireturn, 1) := by decide +kernel
set_option maxRecDepth 20000 in
theorem ggX10_strike_X10_in : GoodIn wsX10_strike wsX10_in := goodIn_r _ [6] (by decide +kernel) (by decide +kernel)
set_option maxRecDepth 20000 in
theorem gX10_strike_X10_in : GoodIn wsX10_strike (va_wsS RX10 87 yX10_in wsX10_in) := goodIn_app (goodIn_of _ (by decide +kernel)) ggX10_strike_X10_in
theorem dX10_strike_0 : decode cX10_strike 0 = .ok (.iload_n 1, 1) := by decide +kernel
theorem dX10_strike_1 : decode cX10_strike 1 = .ok (.iconst 0, 1) := by decide +kernel
theorem dX10_strike_2 : decode cX10_strike 2 = .ok (.aload_n 0, 1) := by decide +kernel
theorem dX10_strike_3 : decode cX10_strike 3 = .ok (.getfield 117, 3) := by decide +kernel
theorem dX10_strike_6 : decode cX10_strike 6 = .ok (.iconst 1, 1) := by decide +kernel
theorem dX10_strike_7 : decode cX10_strike 7 = .ok (.isub, 1) := by decide +kernel
theorem dX10_strike_8 : decode cX10_strike 8 = .ok (.invokestatic 87, 3) := by decide +kernel
theorem dX10_strike_11 : decode cX10_strike 11 = .ok (.ifCond .ne 5, 3) := by decide +kernel
theorem dX10_strike_14 : decode cX10_strike 14 = .ok (.iconst (-1), 1) := by decide +kernel
theorem dX10_strike_15 : decode cX10_strike 15 = .ok (.ireturn, 1) := by decide +kernel
theorem dX10_strike_16 : decode cX10_strike 16 = .ok (.aload_n 0, 1) := by decide +kernel
theorem dX10_strike_17 : decode cX10_strike 17 = .ok (.getfield 44, 3) := by decide +kernel
theorem dX10_strike_20 : decode cX10_strike 20 = .ok (.iload_n 1, 1) := by decide +kernel
theorem dX10_strike_21 : decode cX10_strike 21 = .ok (.baload, 1) := by decide +kernel
theorem dX10_strike_22 : decode cX10_strike 22 = .ok (.ifCond .eq 6, 3) := by decide +kernel
theorem dX10_strike_25 : decode cX10_strike 25 = .ok (.bipush (-2), 2) := by decide +kernel
theorem dX10_strike_27 : decode cX10_strike 27 = .ok (.ireturn, 1) := by decide +kernel
theorem dX10_strike_28 : decode cX10_strike 28 = .ok (.aload_n 0, 1) := by decide +kernel
theorem dX10_strike_29 : decode cX10_strike 29 = .ok (.getfield 44, 3) := by decide +kernel
theorem dX10_strike_32 : decode cX10_strike 32 = .ok (.iload_n 1, 1) := by decide +kernel
theorem dX10_strike_33 : decode cX10_strike 33 = .ok (.iconst 1, 1) := by decide +kernel
theorem dX10_strike_34 : decode cX10_strike 34 = .ok (.bastore, 1) := by decide +kernel
theorem dX10_strike_35 : decode cX10_strike 35 = .ok (.iconst 1, 1) := by decide +kernel
theorem dX10_strike_36 : decode cX10_strike 36 = .ok (.ireturn, 1) := by decide +kernel
set_option maxRecDepth 20000 in
theorem ggX10_days_X10_in : GoodIn wsX10_days wsX10_in := goodIn_r _ [5] (by decide +kernel) (by decide +kernel)
set_option maxRecDepth 20000 in
theorem gX10_days_X10_in : GoodIn wsX10_days (va_wsS RX10 87 yX10_in wsX10_in) := goodIn_app (goodIn_of _ (by decide +kernel)) ggX10_days_X10_in
theorem dX10_days_0 : decode cX10_days 0 = .ok (.iload_n 1, 1) := by decide +kernel
theorem dX10_days_1 : decode cX10_days 1 = .ok (.iconst 1, 1) := by decide +kernel
theorem dX10_days_2 : decode cX10_days 2 = .ok (.bipush 30, 2) := by decide +kernel
theorem dX10_days_4 : decode cX10_days 4 = .ok (.invokestatic 87, 3) := by decide +kernel
theorem dX10_days_7 : decode cX10_days 7 = .ok (.ifCond .ne 5, 3) := by decide +kernel
theorem dX10_days_10 : decode cX10_days 10 = .ok (.iconst (-1), 1) := by decide +kernel
theorem dX10_days_11 : decode cX10_days 11 = .ok (.ireturn, 1) := by decide +kernel
theorem dX10_days_12 : decode cX10_days 12 = .ok (.aload_n 0, 1) := by decide +kernel
theorem dX10_days_13 : decode cX10_days 13 = .ok (.getfield 107, 3) := by decide +kernel
theorem dX10_days_16 : decode cX10_days 16 = .ok (.iload_n 1, 1) := by decide +kernel
theorem dX10_days_17 : decode cX10_days 17 = .ok (.iadd, 1) := by decide +kernel
theorem dX10_days_18 : decode cX10_days 18 = .ok (.sipush 300, 3) := by decide +kernel
theorem dX10_days_21 : decode cX10_days 21 = .ok (.if_icmp .le 6, 3) := by decide +kernel
theorem dX10_days_24 : decode cX10_days 24 = .ok (.bipush (-2), 2) := by decide +kernel
theorem dX10_days_26 : decode cX10_days 26 = .ok (.ireturn, 1) := by decide +kernel
theorem dX10_days_27 : decode cX10_days 27 = .ok (.aload_n 0, 1) := by decide +kernel
theorem dX10_days_28 : decode cX10_days 28 = .ok (.dup, 1) := by decide +kernel
theorem dX10_days_29 : decode cX10_days 29 = .ok (.getfield 107, 3) := by decide +kernel
theorem dX10_days_32 : decode cX10_days 32 = .ok (.iload_n 1, 1) := by decide +kernel
theorem dX10_days_33 : decode cX10_days 33 = .ok (.iadd, 1) := by decide +kernel
theorem dX10_days_34 : decode cX10_days 34 = .ok (.putfield 107, 3) := by decide +kernel
theorem dX10_days_37 : decode cX10_days 37 = .ok (.aload_n 0, 1) := by decide +kernel
theorem dX10_days_38 : decode cX10_days 38 = .ok (.getfield 107, 3) := by decide +kernel
theorem dX10_days_41 : decode cX10_days 41 = .ok (.ireturn, 1) := by decide +kernel
set_option maxRecDepth 20000 in
theorem ggX10_collect_X10_lawOf : GoodIn wsX10_collect wsX10_lawOf := goodIn_r _ [14, 15, 16, 17, 18, 13, 19, 20, 28, 29, 30, 31, 32, 33, 34, 35, 36, 37, 38, 39, 40, 41, 42, 43, 44, 45, 46, 47, 48, 49, 50, 51, 52, 53, 54, 55, 56, 57] (by decide +kernel) (by decide +kernel)
set_option maxRecDepth 20000 in
theorem gX10_collect_X10_lawOf : GoodIn wsX10_collect (wsV RX10 113 RX10 yX10_lawOf wsX10_lawOf) := goodIn_app (goodIn_of _ (by decide +kernel)) ggX10_collect_X10_lawOf
set_option maxRecDepth 20000 in
theorem ggX10_collect_X10_pointsOf : GoodIn wsX10_collect wsX10_pointsOf := goodIn_r _ [24, 25, 26, 27, 28, 29, 30, 31, 32, 33, 34, 35, 36, 37, 38, 39, 40, 41, 42, 43, 44, 45, 46, 47, 48, 49, 50, 51, 52, 53, 54, 55, 56, 57] (by decide +kernel) (by decide +kernel)
set_option maxRecDepth 20000 in
theorem gX10_collect_X10_pointsOf : GoodIn wsX10_collect (wsV RX10 103 RX10 yX10_pointsOf wsX10_pointsOf) := goodIn_app (goodIn_of _ (by decide +kernel)) ggX10_collect_X10_pointsOf
theorem dX10_collect_0 : decode cX10_collect 0 = .ok (.aload_n 0, 1) := by decide +kernel
theorem dX10_collect_1 : decode cX10_collect 1 = .ok (.iconst 0, 1) := by decide +kernel
theorem dX10_collect_2 : decode cX10_collect 2 = .ok (.putfield 120, 3) := by decide +kernel
theorem dX10_collect_5 : decode cX10_collect 5 = .ok (.iconst 0, 1) := by decide +kernel
theorem dX10_collect_6 : decode cX10_collect 6 = .ok (.istore_n 3, 1) := by decide +kernel
theorem dX10_collect_7 : decode cX10_collect 7 = .ok (.iload_n 3, 1) := by decide +kernel
theorem dX10_collect_8 : decode cX10_collect 8 = .ok (.aload_n 0, 1) := by decide +kernel
theorem dX10_collect_9 : decode cX10_collect 9 = .ok (.getfield 117, 3) := by decide +kernel
theorem dX10_collect_12 : decode cX10_collect 12 = .ok (.if_icmp .ge 137, 3) := by decide +kernel
theorem dX10_collect_15 : decode cX10_collect 15 = .ok (.aload_n 0, 1) := by decide +kernel
theorem dX10_collect_16 : decode cX10_collect 16 = .ok (.getfield 32, 3) := by decide +kernel
theorem dX10_collect_19 : decode cX10_collect 19 = .ok (.iload_n 3, 1) := by decide +kernel
theorem dX10_collect_20 : decode cX10_collect 20 = .ok (.iaload, 1) := by decide +kernel
theorem dX10_collect_21 : decode cX10_collect 21 = .ok (.aload_n 0, 1) := by decide +kernel
theorem dX10_collect_22 : decode cX10_collect 22 = .ok (.getfield 13, 3) := by decide +kernel
theorem dX10_collect_25 : decode cX10_collect 25 = .ok (.iload_n 1, 1) := by decide +kernel
theorem dX10_collect_26 : decode cX10_collect 26 = .ok (.iaload, 1) := by decide +kernel
theorem dX10_collect_27 : decode cX10_collect 27 = .ok (.if_icmp .ne 116, 3) := by decide +kernel
theorem dX10_collect_30 : decode cX10_collect 30 = .ok (.aload_n 0, 1) := by decide +kernel
theorem dX10_collect_31 : decode cX10_collect 31 = .ok (.getfield 41, 3) := by decide +kernel
theorem dX10_collect_34 : decode cX10_collect 34 = .ok (.iload_n 3, 1) := by decide +kernel
theorem dX10_collect_35 : decode cX10_collect 35 = .ok (.iaload, 1) := by decide +kernel
theorem dX10_collect_36 : decode cX10_collect 36 = .ok (.iload_n 2, 1) := by decide +kernel
theorem dX10_collect_37 : decode cX10_collect 37 = .ok (.if_icmp .gt 106, 3) := by decide +kernel
theorem dX10_collect_40 : decode cX10_collect 40 = .ok (.aload_n 0, 1) := by decide +kernel
theorem dX10_collect_41 : decode cX10_collect 41 = .ok (.getfield 44, 3) := by decide +kernel
theorem dX10_collect_44 : decode cX10_collect 44 = .ok (.iload_n 3, 1) := by decide +kernel
theorem dX10_collect_45 : decode cX10_collect 45 = .ok (.baload, 1) := by decide +kernel
theorem dX10_collect_46 : decode cX10_collect 46 = .ok (.ifCond .ne 97, 3) := by decide +kernel
theorem dX10_collect_49 : decode cX10_collect 49 = .ok (.aload_n 0, 1) := by decide +kernel
theorem dX10_collect_50 : decode cX10_collect 50 = .ok (.getfield 38, 3) := by decide +kernel
theorem dX10_collect_53 : decode cX10_collect 53 = .ok (.iload_n 3, 1) := by decide +kernel
theorem dX10_collect_54 : decode cX10_collect 54 = .ok (.iaload, 1) := by decide +kernel
theorem dX10_collect_55 : decode cX10_collect 55 = .ok (.aload_n 0, 1) := by decide +kernel
theorem dX10_collect_56 : decode cX10_collect 56 = .ok (.iload_n 2, 1) := by decide +kernel
theorem dX10_collect_57 : decode cX10_collect 57 = .ok (.iconst 3, 1) := by decide +kernel
theorem dX10_collect_58 : decode cX10_collect 58 = .ok (.invokevirtual 113, 3) := by decide +kernel
theorem dX10_collect_61 : decode cX10_collect 61 = .ok (.aload_n 0, 1) := by decide +kernel
theorem dX10_collect_62 : decode cX10_collect 62 = .ok (.iload_n 1, 1) := by decide +kernel
theorem dX10_collect_63 : decode cX10_collect 63 = .ok (.invokevirtual 103, 3) := by decide +kernel
theorem dX10_collect_66 : decode cX10_collect 66 = .ok (.aload_n 0, 1) := by decide +kernel
theorem dX10_collect_67 : decode cX10_collect 67 = .ok (.getfield 35, 3) := by decide +kernel
theorem dX10_collect_70 : decode cX10_collect 70 = .ok (.iload_n 3, 1) := by decide +kernel
theorem dX10_collect_71 : decode cX10_collect 71 = .ok (.iaload, 1) := by decide +kernel
theorem dX10_collect_72 : decode cX10_collect 72 = .ok (.isub, 1) := by decide +kernel
theorem dX10_collect_73 : decode cX10_collect 73 = .ok (.imul, 1) := by decide +kernel
theorem dX10_collect_74 : decode cX10_collect 74 = .ok (.iadd, 1) := by decide +kernel
theorem dX10_collect_75 : decode cX10_collect 75 = .ok (.istore 4, 2) := by decide +kernel
theorem dX10_collect_77 : decode cX10_collect 77 = .ok (.aload_n 0, 1) := by decide +kernel
theorem dX10_collect_78 : decode cX10_collect 78 = .ok (.getfield 120, 3) := by decide +kernel
theorem dX10_collect_81 : decode cX10_collect 81 = .ok (.istore 5, 2) := by decide +kernel
theorem dX10_collect_83 : decode cX10_collect 83 = .ok (.iload 5, 2) := by decide +kernel
theorem dX10_collect_85 : decode cX10_collect 85 = .ok (.ifCond .le 39, 3) := by decide +kernel
theorem dX10_collect_88 : decode cX10_collect 88 = .ok (.aload_n 0, 1) := by decide +kernel
theorem dX10_collect_89 : decode cX10_collect 89 = .ok (.getfield 77, 3) := by decide +kernel
theorem dX10_collect_92 : decode cX10_collect 92 = .ok (.iload 5, 2) := by decide +kernel
theorem dX10_collect_94 : decode cX10_collect 94 = .ok (.iconst 1, 1) := by decide +kernel
theorem dX10_collect_95 : decode cX10_collect 95 = .ok (.isub, 1) := by decide +kernel
theorem dX10_collect_96 : decode cX10_collect 96 = .ok (.iaload, 1) := by decide +kernel
theorem dX10_collect_97 : decode cX10_collect 97 = .ok (.iload 4, 2) := by decide +kernel
theorem dX10_collect_99 : decode cX10_collect 99 = .ok (.if_icmp .le 25, 3) := by decide +kernel
theorem dX10_collect_102 : decode cX10_collect 102 = .ok (.aload_n 0, 1) := by decide +kernel
theorem dX10_collect_103 : decode cX10_collect 103 = .ok (.getfield 77, 3) := by decide +kernel
theorem dX10_collect_106 : decode cX10_collect 106 = .ok (.iload 5, 2) := by decide +kernel
theorem dX10_collect_108 : decode cX10_collect 108 = .ok (.aload_n 0, 1) := by decide +kernel
theorem dX10_collect_109 : decode cX10_collect 109 = .ok (.getfield 77, 3) := by decide +kernel
theorem dX10_collect_112 : decode cX10_collect 112 = .ok (.iload 5, 2) := by decide +kernel
theorem dX10_collect_114 : decode cX10_collect 114 = .ok (.iconst 1, 1) := by decide +kernel
theorem dX10_collect_115 : decode cX10_collect 115 = .ok (.isub, 1) := by decide +kernel
theorem dX10_collect_116 : decode cX10_collect 116 = .ok (.iaload, 1) := by decide +kernel
theorem dX10_collect_117 : decode cX10_collect 117 = .ok (.iastore, 1) := by decide +kernel
theorem dX10_collect_118 : decode cX10_collect 118 = .ok (.iinc 5 (-1), 3) := by decide +kernel
theorem dX10_collect_121 : decode cX10_collect 121 = .ok (.goto (-38), 3) := by decide +kernel
theorem dX10_collect_124 : decode cX10_collect 124 = .ok (.aload_n 0, 1) := by decide +kernel
theorem dX10_collect_125 : decode cX10_collect 125 = .ok (.getfield 77, 3) := by decide +kernel
theorem dX10_collect_128 : decode cX10_collect 128 = .ok (.iload 5, 2) := by decide +kernel
theorem dX10_collect_130 : decode cX10_collect 130 = .ok (.iload 4, 2) := by decide +kernel
theorem dX10_collect_132 : decode cX10_collect 132 = .ok (.iastore, 1) := by decide +kernel
theorem dX10_collect_133 : decode cX10_collect 133 = .ok (.aload_n 0, 1) := by decide +kernel
theorem dX10_collect_134 : decode cX10_collect 134 = .ok (.dup, 1) := by decide +kernel
theorem dX10_collect_135 : decode cX10_collect 135 = .ok (.getfield 120, 3) := by decide +kernel
theorem dX10_collect_138 : decode cX10_collect 138 = .ok (.iconst 1, 1) := by decide +kernel
theorem dX10_collect_139 : decode cX10_collect 139 = .ok (.iadd, 1) := by decide +kernel
theorem dX10_collect_140 : decode cX10_collect 140 = .ok (.putfield 120, 3) := by decide +kernel
theorem dX10_collect_143 : decode cX10_collect 143 = .ok (.iinc 3 1, 3) := by decide +kernel
theorem dX10_collect_146 : decode cX10_collect 146 = .ok (.goto (-139), 3) := by decide +kernel
theorem dX10_collect_149 : decode cX10_collect 149 = .ok (.return_, 1) := by decide +kernel
set_option maxRecDepth 20000 in
theorem ggX10_headOf_X10_collect : GoodIn wsX10_headOf wsX10_collect := goodIn_r _ [9, 1, 10, 11, 3, 12, 13, 14, 15, 2, 16, 17, 18, 8, 19, 20, 21, 22, 23, 24, 25, 26, 27, 28, 29, 30, 31, 32, 33, 34, 35, 36, 37, 38, 39, 40, 41, 42, 43, 44, 45, 46, 47, 48, 49, 50, 51, 52, 53, 54, 55, 56, 57, 58, 59, 60, 61, 62] (by decide +kernel) (by decide +kernel)
set_option maxRecDepth 20000 in
theorem gX10_headOf_X10_collect : GoodIn wsX10_headOf (wsV RX10 123 RX10 yX10_collect wsX10_collect) := goodIn_app (goodIn_of _ (by decide +kernel)) ggX10_headOf_X10_collect
set_option maxRecDepth 20000 in
theorem ggX10_headOf_X10_lawOf : GoodIn wsX10_headOf wsX10_lawOf := goodIn_r _ [19, 20, 21, 22, 23, 8, 24, 25, 33, 34, 35, 36, 37, 38, 39, 40, 41, 42, 43, 44, 45, 46, 47, 48, 49, 50, 51, 52, 53, 54, 55, 56, 57, 58, 59, 60, 61, 62] (by decide +kernel) (by decide +kernel)
set_option maxRecDepth 20000 in
theorem gX10_headOf_X10_lawOf : GoodIn wsX10_headOf (wsV RX10 113 RX10 yX10_lawOf wsX10_lawOf) := goodIn_app (goodIn_of _ (by decide +kernel)) ggX10_headOf_X10_lawOf
theorem dX10_headOf_0 : decode cX10_headOf 0 = .ok (.aload_n 0, 1) := by decide +kernel
theorem dX10_headOf_1 : decode cX10_headOf 1 = .ok (.iload_n 1, 1) := by decide +kernel
theorem dX10_headOf_2 : decode cX10_headOf 2 = .ok (.iload_n 2, 1) := by decide +kernel
theorem dX10_headOf_3 : decode cX10_headOf 3 = .ok (.invokevirtual 123, 3) := by decide +kernel
theorem dX10_headOf_6 : decode cX10_headOf 6 = .ok (.aload_n 0, 1) := by decide +kernel
theorem dX10_headOf_7 : decode cX10_headOf 7 = .ok (.getfield 120, 3) := by decide +kernel
theorem dX10_headOf_10 : decode cX10_headOf 10 = .ok (.ifCond .ne 7, 3) := by decide +kernel
theorem dX10_headOf_13 : decode cX10_headOf 13 = .ok (.iconst 0, 1) := by decide +kernel
theorem dX10_headOf_14 : decode cX10_headOf 14 = .ok (.goto 16, 3) := by decide +kernel
theorem dX10_headOf_17 : decode cX10_headOf 17 = .ok (.aload_n 0, 1) := by decide +kernel
theorem dX10_headOf_18 : decode cX10_headOf 18 = .ok (.getfield 77, 3) := by decide +kernel
theorem dX10_headOf_21 : decode cX10_headOf 21 = .ok (.aload_n 0, 1) := by decide +kernel
theorem dX10_headOf_22 : decode cX10_headOf 22 = .ok (.getfield 120, 3) := by decide +kernel
theorem dX10_headOf_25 : decode cX10_headOf 25 = .ok (.iconst 1, 1) := by decide +kernel
theorem dX10_headOf_26 : decode cX10_headOf 26 = .ok (.isub, 1) := by decide +kernel
theorem dX10_headOf_27 : decode cX10_headOf 27 = .ok (.iconst 2, 1) := by decide +kernel
theorem dX10_headOf_28 : decode cX10_headOf 28 = .ok (.idiv, 1) := by decide +kernel
theorem dX10_headOf_29 : decode cX10_headOf 29 = .ok (.iaload, 1) := by decide +kernel
theorem dX10_headOf_30 : decode cX10_headOf 30 = .ok (.istore 4, 2) := by decide +kernel
theorem dX10_headOf_32 : decode cX10_headOf 32 = .ok (.iload 4, 2) := by decide +kernel
theorem dX10_headOf_34 : decode cX10_headOf 34 = .ok (.ifCond .ge 7, 3) := by decide +kernel
theorem dX10_headOf_37 : decode cX10_headOf 37 = .ok (.iconst 0, 1) := by decide +kernel
theorem dX10_headOf_38 : decode cX10_headOf 38 = .ok (.goto 21, 3) := by decide +kernel
theorem dX10_headOf_41 : decode cX10_headOf 41 = .ok (.aload_n 0, 1) := by decide +kernel
theorem dX10_headOf_42 : decode cX10_headOf 42 = .ok (.iload_n 2, 1) := by decide +kernel
end
section
theorem dX10_headOf_43 : decode cX10_headOf 43 = .ok (.aload_n 0, 1) := by decide +kernel
theorem dX10_headOf_44 : decode cX10_headOf 44 = .ok (.getfield 13, 3) := by decide +kernel
theorem dX10_headOf_47 : decode cX10_headOf 47 = .ok (.iload_n 1, 1) := by decide +kernel
theorem dX10_headOf_48 : decode cX10_headOf 48 = .ok (.iaload, 1) := by decide +kernel
theorem dX10_headOf_49 : decode cX10_headOf 49 = .ok (.invokevirtual 113, 3) := by decide +kernel
theorem dX10_headOf_52 : decode cX10_headOf 52 = .ok (.iload 4, 2) := by decide +kernel
theorem dX10_headOf_54 : decode cX10_headOf 54 = .ok (.imul, 1) := by decide +kernel
theorem dX10_headOf_55 : decode cX10_headOf 55 = .ok (.bipush 100, 2) := by decide +kernel
theorem dX10_headOf_57 : decode cX10_headOf 57 = .ok (.idiv, 1) := by decide +kernel
theorem dX10_headOf_58 : decode cX10_headOf 58 = .ok (.ineg, 1) := by decide +kernel
theorem dX10_headOf_59 : decode cX10_headOf 59 = .ok (.istore 5, 2) := by decide +kernel
theorem dX10_headOf_61 : decode cX10_headOf 61 = .ok (.aload_n 0, 1) := by decide +kernel
theorem dX10_headOf_62 : decode cX10_headOf 62 = .ok (.iload_n 2, 1) := by decide +kernel
theorem dX10_headOf_63 : decode cX10_headOf 63 = .ok (.iconst 4, 1) := by decide +kernel
theorem dX10_headOf_64 : decode cX10_headOf 64 = .ok (.invokevirtual 113, 3) := by decide +kernel
theorem dX10_headOf_67 : decode cX10_headOf 67 = .ok (.ineg, 1) := by decide +kernel
theorem dX10_headOf_68 : decode cX10_headOf 68 = .ok (.aload_n 0, 1) := by decide +kernel
theorem dX10_headOf_69 : decode cX10_headOf 69 = .ok (.getfield 22, 3) := by decide +kernel
theorem dX10_headOf_72 : decode cX10_headOf 72 = .ok (.iload_n 1, 1) := by decide +kernel
theorem dX10_headOf_73 : decode cX10_headOf 73 = .ok (.iaload, 1) := by decide +kernel
theorem dX10_headOf_74 : decode cX10_headOf 74 = .ok (.imul, 1) := by decide +kernel
theorem dX10_headOf_75 : decode cX10_headOf 75 = .ok (.istore 6, 2) := by decide +kernel
theorem dX10_headOf_77 : decode cX10_headOf 77 = .ok (.iload 4, 2) := by decide +kernel
theorem dX10_headOf_79 : decode cX10_headOf 79 = .ok (.iload 5, 2) := by decide +kernel
theorem dX10_headOf_81 : decode cX10_headOf 81 = .ok (.iadd, 1) := by decide +kernel
theorem dX10_headOf_82 : decode cX10_headOf 82 = .ok (.iload 6, 2) := by decide +kernel
theorem dX10_headOf_84 : decode cX10_headOf 84 = .ok (.iadd, 1) := by decide +kernel
theorem dX10_headOf_85 : decode cX10_headOf 85 = .ok (.istore 7, 2) := by decide +kernel
theorem dX10_headOf_87 : decode cX10_headOf 87 = .ok (.iload_n 3, 1) := by decide +kernel
theorem dX10_headOf_88 : decode cX10_headOf 88 = .ok (.ifCond .ne 8, 3) := by decide +kernel
theorem dX10_headOf_91 : decode cX10_headOf 91 = .ok (.iload 4, 2) := by decide +kernel
theorem dX10_headOf_93 : decode cX10_headOf 93 = .ok (.goto 47, 3) := by decide +kernel
theorem dX10_headOf_96 : decode cX10_headOf 96 = .ok (.iload_n 3, 1) := by decide +kernel
theorem dX10_headOf_97 : decode cX10_headOf 97 = .ok (.iconst 1, 1) := by decide +kernel
theorem dX10_headOf_98 : decode cX10_headOf 98 = .ok (.if_icmp .ne 8, 3) := by decide +kernel
theorem dX10_headOf_101 : decode cX10_headOf 101 = .ok (.iload 5, 2) := by decide +kernel
theorem dX10_headOf_103 : decode cX10_headOf 103 = .ok (.goto 37, 3) := by decide +kernel
theorem dX10_headOf_106 : decode cX10_headOf 106 = .ok (.iload_n 3, 1) := by decide +kernel
theorem dX10_headOf_107 : decode cX10_headOf 107 = .ok (.iconst 2, 1) := by decide +kernel
theorem dX10_headOf_108 : decode cX10_headOf 108 = .ok (.if_icmp .ne 8, 3) := by decide +kernel
theorem dX10_headOf_111 : decode cX10_headOf 111 = .ok (.iload 6, 2) := by decide +kernel
theorem dX10_headOf_113 : decode cX10_headOf 113 = .ok (.goto 27, 3) := by decide +kernel
theorem dX10_headOf_116 : decode cX10_headOf 116 = .ok (.iload_n 3, 1) := by decide +kernel
theorem dX10_headOf_117 : decode cX10_headOf 117 = .ok (.iconst 3, 1) := by decide +kernel
theorem dX10_headOf_118 : decode cX10_headOf 118 = .ok (.if_icmp .ne 18, 3) := by decide +kernel
theorem dX10_headOf_121 : decode cX10_headOf 121 = .ok (.iload 7, 2) := by decide +kernel
theorem dX10_headOf_123 : decode cX10_headOf 123 = .ok (.iconst 1, 1) := by decide +kernel
theorem dX10_headOf_124 : decode cX10_headOf 124 = .ok (.if_icmp .ge 7, 3) := by decide +kernel
theorem dX10_headOf_127 : decode cX10_headOf 127 = .ok (.iconst 1, 1) := by decide +kernel
theorem dX10_headOf_128 : decode cX10_headOf 128 = .ok (.goto 12, 3) := by decide +kernel
theorem dX10_headOf_131 : decode cX10_headOf 131 = .ok (.iload 7, 2) := by decide +kernel
theorem dX10_headOf_133 : decode cX10_headOf 133 = .ok (.goto 7, 3) := by decide +kernel
theorem dX10_headOf_136 : decode cX10_headOf 136 = .ok (.aload_n 0, 1) := by decide +kernel
theorem dX10_headOf_137 : decode cX10_headOf 137 = .ok (.getfield 120, 3) := by decide +kernel
theorem dX10_headOf_140 : decode cX10_headOf 140 = .ok (.ireturn, 1) := by decide +kernel
set_option maxRecDepth 20000 in
theorem ggX10_head_X10_isHome : GoodIn wsX10_head wsX10_isHome := goodIn_r _ [6, 7, 8, 9, 5, 10, 46, 47, 48, 49, 50, 51, 52, 53, 54, 55, 56, 57, 58, 59, 60, 61, 62, 63, 64, 65, 66, 67, 68, 69, 70, 71, 72, 73, 74, 75] (by decide +kernel) (by decide +kernel)
set_option maxRecDepth 20000 in
theorem gX10_head_X10_isHome : GoodIn wsX10_head (wsV RX10 91 RX10 yX10_isHome wsX10_isHome) := goodIn_app (goodIn_of _ (by decide +kernel)) ggX10_head_X10_isHome
set_option maxRecDepth 20000 in
theorem ggX10_head_X10_in : GoodIn wsX10_head wsX10_in := goodIn_r _ [10] (by decide +kernel) (by decide +kernel)
set_option maxRecDepth 20000 in
theorem gX10_head_X10_in : GoodIn wsX10_head (va_wsS RX10 87 yX10_in wsX10_in) := goodIn_app (goodIn_of _ (by decide +kernel)) ggX10_head_X10_in
set_option maxRecDepth 20000 in
theorem ggX10_head_X10_headOf : GoodIn wsX10_head wsX10_headOf := goodIn_r _ [14, 15, 16, 17, 18, 19, 20, 21, 5, 22, 23, 24, 25, 26, 27, 28, 29, 30, 31, 32, 33, 34, 35, 36, 37, 38, 39, 40, 41, 42, 43, 44, 45, 46, 47, 48, 49, 50, 51, 52, 53, 54, 55, 56, 57, 58, 59, 60, 61, 62, 63, 64, 65, 66, 67, 68, 69, 70, 71, 72, 73, 74, 75] (by decide +kernel) (by decide +kernel)
set_option maxRecDepth 20000 in
theorem gX10_head_X10_headOf : GoodIn wsX10_head (wsV RX10 127 RX10 yX10_headOf wsX10_headOf) := goodIn_app (goodIn_of _ (by decide +kernel)) ggX10_head_X10_headOf
theorem dX10_head_0 : decode cX10_head 0 = .ok (.aload_n 0, 1) := by decide +kernel
theorem dX10_head_1 : decode cX10_head 1 = .ok (.iload_n 1, 1) := by decide +kernel
theorem dX10_head_2 : decode cX10_head 2 = .ok (.invokevirtual 91, 3) := by decide +kernel
theorem dX10_head_5 : decode cX10_head 5 = .ok (.ifCond .eq 33, 3) := by decide +kernel
theorem dX10_head_8 : decode cX10_head 8 = .ok (.iload_n 2, 1) := by decide +kernel
theorem dX10_head_9 : decode cX10_head 9 = .ok (.iconst 0, 1) := by decide +kernel
theorem dX10_head_10 : decode cX10_head 10 = .ok (.sipush 300, 3) := by decide +kernel
theorem dX10_head_13 : decode cX10_head 13 = .ok (.invokestatic 87, 3) := by decide +kernel
theorem dX10_head_16 : decode cX10_head 16 = .ok (.ifCond .eq 22, 3) := by decide +kernel
theorem dX10_head_19 : decode cX10_head 19 = .ok (.iload_n 3, 1) := by decide +kernel
theorem dX10_head_20 : decode cX10_head 20 = .ok (.iconst 0, 1) := by decide +kernel
theorem dX10_head_21 : decode cX10_head 21 = .ok (.iconst 4, 1) := by decide +kernel
theorem dX10_head_22 : decode cX10_head 22 = .ok (.invokestatic 87, 3) := by decide +kernel
theorem dX10_head_25 : decode cX10_head 25 = .ok (.ifCond .eq 13, 3) := by decide +kernel
theorem dX10_head_28 : decode cX10_head 28 = .ok (.aload_n 0, 1) := by decide +kernel
theorem dX10_head_29 : decode cX10_head 29 = .ok (.iload_n 1, 1) := by decide +kernel
theorem dX10_head_30 : decode cX10_head 30 = .ok (.iload_n 2, 1) := by decide +kernel
theorem dX10_head_31 : decode cX10_head 31 = .ok (.iload_n 3, 1) := by decide +kernel
theorem dX10_head_32 : decode cX10_head 32 = .ok (.invokevirtual 127, 3) := by decide +kernel
theorem dX10_head_35 : decode cX10_head 35 = .ok (.goto 5, 3) := by decide +kernel
theorem dX10_head_38 : decode cX10_head 38 = .ok (.ldc 131, 2) := by decide +kernel
theorem dX10_head_40 : decode cX10_head 40 = .ok (.ireturn, 1) := by decide +kernel
set_option maxRecDepth 20000 in
theorem ggX10_let_X10_isHome : GoodIn wsX10_let wsX10_isHome := goodIn_r _ [10, 11, 12, 13, 9, 14, 15, 16, 17, 18, 19, 20, 21, 22, 23, 24, 25, 26, 27, 28, 29, 30, 31, 32, 33, 34, 35, 36, 37, 38, 39, 40, 41, 42, 43, 44] (by decide +kernel) (by decide +kernel)
set_option maxRecDepth 20000 in
theorem gX10_let_X10_isHome : GoodIn wsX10_let (wsV RX10 91 RX10 yX10_isHome wsX10_isHome) := goodIn_app (goodIn_of _ (by decide +kernel)) ggX10_let_X10_isHome
set_option maxRecDepth 20000 in
theorem ggX10_let_X10_in : GoodIn wsX10_let wsX10_in := goodIn_r _ [14] (by decide +kernel) (by decide +kernel)
set_option maxRecDepth 20000 in
theorem gX10_let_X10_in : GoodIn wsX10_let (va_wsS RX10 87 yX10_in wsX10_in) := goodIn_app (goodIn_of _ (by decide +kernel)) ggX10_let_X10_in
theorem dX10_let_0 : decode cX10_let 0 = .ok (.aload_n 0, 1) := by decide +kernel
theorem dX10_let_1 : decode cX10_let 1 = .ok (.iload_n 1, 1) := by decide +kernel
theorem dX10_let_2 : decode cX10_let 2 = .ok (.invokevirtual 91, 3) := by decide +kernel
theorem dX10_let_5 : decode cX10_let 5 = .ok (.ifCond .eq 14, 3) := by decide +kernel
theorem dX10_let_8 : decode cX10_let 8 = .ok (.iload_n 2, 1) := by decide +kernel
theorem dX10_let_9 : decode cX10_let 9 = .ok (.iconst 1, 1) := by decide +kernel
theorem dX10_let_10 : decode cX10_let 10 = .ok (.sipush 5000, 3) := by decide +kernel
theorem dX10_let_13 : decode cX10_let 13 = .ok (.invokestatic 87, 3) := by decide +kernel
theorem dX10_let_16 : decode cX10_let 16 = .ok (.ifCond .ne 5, 3) := by decide +kernel
theorem dX10_let_19 : decode cX10_let 19 = .ok (.iconst (-1), 1) := by decide +kernel
theorem dX10_let_20 : decode cX10_let 20 = .ok (.ireturn, 1) := by decide +kernel
theorem dX10_let_21 : decode cX10_let 21 = .ok (.aload_n 0, 1) := by decide +kernel
theorem dX10_let_22 : decode cX10_let 22 = .ok (.getfield 47, 3) := by decide +kernel
theorem dX10_let_25 : decode cX10_let 25 = .ok (.iload_n 1, 1) := by decide +kernel
theorem dX10_let_26 : decode cX10_let 26 = .ok (.aload_n 0, 1) := by decide +kernel
theorem dX10_let_27 : decode cX10_let 27 = .ok (.getfield 107, 3) := by decide +kernel
theorem dX10_let_30 : decode cX10_let 30 = .ok (.iastore, 1) := by decide +kernel
theorem dX10_let_31 : decode cX10_let 31 = .ok (.aload_n 0, 1) := by decide +kernel
theorem dX10_let_32 : decode cX10_let 32 = .ok (.getfield 50, 3) := by decide +kernel
theorem dX10_let_35 : decode cX10_let 35 = .ok (.iload_n 1, 1) := by decide +kernel
theorem dX10_let_36 : decode cX10_let 36 = .ok (.iload_n 2, 1) := by decide +kernel
theorem dX10_let_37 : decode cX10_let 37 = .ok (.iastore, 1) := by decide +kernel
theorem dX10_let_38 : decode cX10_let 38 = .ok (.aload_n 0, 1) := by decide +kernel
theorem dX10_let_39 : decode cX10_let 39 = .ok (.getfield 53, 3) := by decide +kernel
theorem dX10_let_42 : decode cX10_let 42 = .ok (.iload_n 1, 1) := by decide +kernel
theorem dX10_let_43 : decode cX10_let 43 = .ok (.dup2, 1) := by decide +kernel
theorem dX10_let_44 : decode cX10_let 44 = .ok (.iaload, 1) := by decide +kernel
theorem dX10_let_45 : decode cX10_let 45 = .ok (.iconst 1, 1) := by decide +kernel
theorem dX10_let_46 : decode cX10_let 46 = .ok (.iadd, 1) := by decide +kernel
theorem dX10_let_47 : decode cX10_let 47 = .ok (.iastore, 1) := by decide +kernel
theorem dX10_let_48 : decode cX10_let 48 = .ok (.iconst 0, 1) := by decide +kernel
theorem dX10_let_49 : decode cX10_let 49 = .ok (.istore_n 3, 1) := by decide +kernel
theorem dX10_let_50 : decode cX10_let 50 = .ok (.iload_n 3, 1) := by decide +kernel
theorem dX10_let_51 : decode cX10_let 51 = .ok (.sipush 300, 3) := by decide +kernel
theorem dX10_let_54 : decode cX10_let 54 = .ok (.if_icmp .gt 22, 3) := by decide +kernel
theorem dX10_let_57 : decode cX10_let 57 = .ok (.aload_n 0, 1) := by decide +kernel
theorem dX10_let_58 : decode cX10_let 58 = .ok (.getfield 56, 3) := by decide +kernel
theorem dX10_let_61 : decode cX10_let 61 = .ok (.sipush 301, 3) := by decide +kernel
theorem dX10_let_64 : decode cX10_let 64 = .ok (.iload_n 1, 1) := by decide +kernel
theorem dX10_let_65 : decode cX10_let 65 = .ok (.imul, 1) := by decide +kernel
theorem dX10_let_66 : decode cX10_let 66 = .ok (.iload_n 3, 1) := by decide +kernel
theorem dX10_let_67 : decode cX10_let 67 = .ok (.iadd, 1) := by decide +kernel
theorem dX10_let_68 : decode cX10_let 68 = .ok (.iconst 0, 1) := by decide +kernel
theorem dX10_let_69 : decode cX10_let 69 = .ok (.iastore, 1) := by decide +kernel
theorem dX10_let_70 : decode cX10_let 70 = .ok (.iinc 3 1, 3) := by decide +kernel
theorem dX10_let_73 : decode cX10_let 73 = .ok (.goto (-23), 3) := by decide +kernel
theorem dX10_let_76 : decode cX10_let 76 = .ok (.iconst 1, 1) := by decide +kernel
theorem dX10_let_77 : decode cX10_let 77 = .ok (.ireturn, 1) := by decide +kernel
theorem dX10_latestOf_0 : decode cX10_latestOf 0 = .ok (.aload_n 0, 1) := by decide +kernel
theorem dX10_latestOf_1 : decode cX10_latestOf 1 = .ok (.getfield 132, 3) := by decide +kernel
theorem dX10_latestOf_4 : decode cX10_latestOf 4 = .ok (.iconst 1, 1) := by decide +kernel
theorem dX10_latestOf_5 : decode cX10_latestOf 5 = .ok (.isub, 1) := by decide +kernel
theorem dX10_latestOf_6 : decode cX10_latestOf 6 = .ok (.istore_n 2, 1) := by decide +kernel
theorem dX10_latestOf_7 : decode cX10_latestOf 7 = .ok (.iload_n 2, 1) := by decide +kernel
theorem dX10_latestOf_8 : decode cX10_latestOf 8 = .ok (.ifCond .lt 28, 3) := by decide +kernel
theorem dX10_latestOf_11 : decode cX10_latestOf 11 = .ok (.aload_n 0, 1) := by decide +kernel
theorem dX10_latestOf_12 : decode cX10_latestOf 12 = .ok (.getfield 59, 3) := by decide +kernel
theorem dX10_latestOf_15 : decode cX10_latestOf 15 = .ok (.iload_n 2, 1) := by decide +kernel
theorem dX10_latestOf_16 : decode cX10_latestOf 16 = .ok (.iaload, 1) := by decide +kernel
theorem dX10_latestOf_17 : decode cX10_latestOf 17 = .ok (.iload_n 1, 1) := by decide +kernel
theorem dX10_latestOf_18 : decode cX10_latestOf 18 = .ok (.if_icmp .ne 12, 3) := by decide +kernel
theorem dX10_latestOf_21 : decode cX10_latestOf 21 = .ok (.aload_n 0, 1) := by decide +kernel
theorem dX10_latestOf_22 : decode cX10_latestOf 22 = .ok (.getfield 74, 3) := by decide +kernel
theorem dX10_latestOf_25 : decode cX10_latestOf 25 = .ok (.iload_n 2, 1) := by decide +kernel
theorem dX10_latestOf_26 : decode cX10_latestOf 26 = .ok (.baload, 1) := by decide +kernel
theorem dX10_latestOf_27 : decode cX10_latestOf 27 = .ok (.ifCond .eq 9, 3) := by decide +kernel
theorem dX10_latestOf_30 : decode cX10_latestOf 30 = .ok (.iinc 2 (-1), 3) := by decide +kernel
theorem dX10_latestOf_33 : decode cX10_latestOf 33 = .ok (.goto (-26), 3) := by decide +kernel
theorem dX10_latestOf_36 : decode cX10_latestOf 36 = .ok (.iload_n 2, 1) := by decide +kernel
theorem dX10_latestOf_37 : decode cX10_latestOf 37 = .ok (.ifCond .ge 8, 3) := by decide +kernel
theorem dX10_latestOf_40 : decode cX10_latestOf 40 = .ok (.bipush (-9), 2) := by decide +kernel
theorem dX10_latestOf_42 : decode cX10_latestOf 42 = .ok (.goto 4, 3) := by decide +kernel
theorem dX10_latestOf_45 : decode cX10_latestOf 45 = .ok (.iload_n 2, 1) := by decide +kernel
theorem dX10_latestOf_46 : decode cX10_latestOf 46 = .ok (.ireturn, 1) := by decide +kernel
set_option maxRecDepth 20000 in
theorem ggX10_openOf_X10_latestOf : GoodIn wsX10_openOf wsX10_latestOf := goodIn_r _ [7, 8, 9, 10, 21, 22, 23, 24, 25, 26, 27, 28, 29, 30, 31, 32, 33, 34, 35, 36, 37, 38, 39, 40, 41, 42, 43, 44, 45, 46, 47, 48, 49, 50] (by decide +kernel) (by decide +kernel)
set_option maxRecDepth 20000 in
theorem gX10_openOf_X10_latestOf : GoodIn wsX10_openOf (wsV RX10 135 RX10 yX10_latestOf wsX10_latestOf) := goodIn_app (goodIn_of _ (by decide +kernel)) ggX10_openOf_X10_latestOf
set_option maxRecDepth 20000 in
theorem ggX10_openOf_X10_lawOf : GoodIn wsX10_openOf wsX10_lawOf := goodIn_r _ [14, 15, 16, 17, 18, 6, 19, 20, 21, 22, 23, 24, 25, 26, 27, 28, 29, 30, 31, 32, 33, 34, 35, 36, 37, 38, 39, 40, 41, 42, 43, 44, 45, 46, 47, 48, 49, 50] (by decide +kernel) (by decide +kernel)
set_option maxRecDepth 20000 in
theorem gX10_openOf_X10_lawOf : GoodIn wsX10_openOf (wsV RX10 113 RX10 yX10_lawOf wsX10_lawOf) := goodIn_app (goodIn_of _ (by decide +kernel)) ggX10_openOf_X10_lawOf
theorem dX10_openOf_0 : decode cX10_openOf 0 = .ok (.aload_n 0, 1) := by decide +kernel
theorem dX10_openOf_1 : decode cX10_openOf 1 = .ok (.iload_n 1, 1) := by decide +kernel
theorem dX10_openOf_2 : decode cX10_openOf 2 = .ok (.invokevirtual 135, 3) := by decide +kernel
theorem dX10_openOf_5 : decode cX10_openOf 5 = .ok (.istore_n 2, 1) := by decide +kernel
theorem dX10_openOf_6 : decode cX10_openOf 6 = .ok (.iload_n 2, 1) := by decide +kernel
theorem dX10_openOf_7 : decode cX10_openOf 7 = .ok (.ifCond .ge 7, 3) := by decide +kernel
theorem dX10_openOf_10 : decode cX10_openOf 10 = .ok (.iconst 0, 1) := by decide +kernel
theorem dX10_openOf_11 : decode cX10_openOf 11 = .ok (.goto 22, 3) := by decide +kernel
theorem dX10_openOf_14 : decode cX10_openOf 14 = .ok (.aload_n 0, 1) := by decide +kernel
theorem dX10_openOf_15 : decode cX10_openOf 15 = .ok (.getfield 62, 3) := by decide +kernel
theorem dX10_openOf_18 : decode cX10_openOf 18 = .ok (.iload_n 2, 1) := by decide +kernel
theorem dX10_openOf_19 : decode cX10_openOf 19 = .ok (.iaload, 1) := by decide +kernel
theorem dX10_openOf_20 : decode cX10_openOf 20 = .ok (.aload_n 0, 1) := by decide +kernel
theorem dX10_openOf_21 : decode cX10_openOf 21 = .ok (.aload_n 0, 1) := by decide +kernel
theorem dX10_openOf_22 : decode cX10_openOf 22 = .ok (.getfield 62, 3) := by decide +kernel
theorem dX10_openOf_25 : decode cX10_openOf 25 = .ok (.iload_n 2, 1) := by decide +kernel
theorem dX10_openOf_26 : decode cX10_openOf 26 = .ok (.iaload, 1) := by decide +kernel
theorem dX10_openOf_27 : decode cX10_openOf 27 = .ok (.bipush 6, 2) := by decide +kernel
theorem dX10_openOf_29 : decode cX10_openOf 29 = .ok (.invokevirtual 113, 3) := by decide +kernel
theorem dX10_openOf_32 : decode cX10_openOf 32 = .ok (.iadd, 1) := by decide +kernel
theorem dX10_openOf_33 : decode cX10_openOf 33 = .ok (.istore_n 3, 1) := by decide +kernel
theorem dX10_openOf_34 : decode cX10_openOf 34 = .ok (.iload_n 3, 1) := by decide +kernel
theorem dX10_openOf_35 : decode cX10_openOf 35 = .ok (.aload_n 0, 1) := by decide +kernel
theorem dX10_openOf_36 : decode cX10_openOf 36 = .ok (.getfield 107, 3) := by decide +kernel
theorem dX10_openOf_39 : decode cX10_openOf 39 = .ok (.if_icmp .ge 10, 3) := by decide +kernel
theorem dX10_openOf_42 : decode cX10_openOf 42 = .ok (.aload_n 0, 1) := by decide +kernel
theorem dX10_openOf_43 : decode cX10_openOf 43 = .ok (.getfield 107, 3) := by decide +kernel
theorem dX10_openOf_46 : decode cX10_openOf 46 = .ok (.goto 4, 3) := by decide +kernel
theorem dX10_openOf_49 : decode cX10_openOf 49 = .ok (.iload_n 3, 1) := by decide +kernel
theorem dX10_openOf_50 : decode cX10_openOf 50 = .ok (.ireturn, 1) := by decide +kernel
set_option maxRecDepth 20000 in
theorem ggX10_ask_X10_isHome : GoodIn wsX10_ask wsX10_isHome := goodIn_r _ [15, 16, 17, 18, 14, 19, 63, 64, 65, 66, 67, 68, 69, 70, 71, 72, 73, 74, 75, 76, 77, 78, 79, 80, 81, 82, 83, 84, 85, 86, 87, 88, 89, 90, 91, 92] (by decide +kernel) (by decide +kernel)
set_option maxRecDepth 20000 in
theorem gX10_ask_X10_isHome : GoodIn wsX10_ask (wsV RX10 91 RX10 yX10_isHome wsX10_isHome) := goodIn_app (goodIn_of _ (by decide +kernel)) ggX10_ask_X10_isHome
set_option maxRecDepth 20000 in
theorem ggX10_ask_X10_openOf : GoodIn wsX10_ask wsX10_openOf := goodIn_r _ [23, 5, 2, 24, 25, 26, 14, 27, 3, 4, 10, 28, 29, 30, 31, 32, 33, 34, 35, 36, 37, 63, 64, 65, 66, 67, 68, 69, 70, 71, 72, 73, 74, 75, 76, 77, 78, 79, 80, 81, 82, 83, 84, 85, 86, 87, 88, 89, 90, 91, 92] (by decide +kernel) (by decide +kernel)
set_option maxRecDepth 20000 in
theorem gX10_ask_X10_openOf : GoodIn wsX10_ask (wsV RX10 138 RX10 yX10_openOf wsX10_openOf) := goodIn_app (goodIn_of _ (by decide +kernel)) ggX10_ask_X10_openOf
set_option maxRecDepth 20000 in
theorem ggX10_ask_X10_headOf : GoodIn wsX10_ask wsX10_headOf := goodIn_r _ [41, 42, 43, 44, 45, 46, 47, 48, 14, 49, 50, 51, 52, 53, 54, 55, 28, 29, 30, 31, 32, 33, 34, 35, 36, 37, 56, 57, 58, 59, 60, 61, 62, 63, 64, 65, 66, 67, 68, 69, 70, 71, 72, 73, 74, 75, 76, 77, 78, 79, 80, 81, 82, 83, 84, 85, 86, 87, 88, 89, 90, 91, 92] (by decide +kernel) (by decide +kernel)
set_option maxRecDepth 20000 in
theorem gX10_ask_X10_headOf : GoodIn wsX10_ask (wsV RX10 127 RX10 yX10_headOf wsX10_headOf) := goodIn_app (goodIn_of _ (by decide +kernel)) ggX10_ask_X10_headOf
theorem dX10_ask_0 : decode cX10_ask 0 = .ok (.aload_n 0, 1) := by decide +kernel
theorem dX10_ask_1 : decode cX10_ask 1 = .ok (.iload_n 1, 1) := by decide +kernel
theorem dX10_ask_2 : decode cX10_ask 2 = .ok (.invokevirtual 91, 3) := by decide +kernel
theorem dX10_ask_5 : decode cX10_ask 5 = .ok (.ifCond .ne 5, 3) := by decide +kernel
theorem dX10_ask_8 : decode cX10_ask 8 = .ok (.iconst (-1), 1) := by decide +kernel
theorem dX10_ask_9 : decode cX10_ask 9 = .ok (.ireturn, 1) := by decide +kernel
theorem dX10_ask_10 : decode cX10_ask 10 = .ok (.aload_n 0, 1) := by decide +kernel
theorem dX10_ask_11 : decode cX10_ask 11 = .ok (.getfield 47, 3) := by decide +kernel
theorem dX10_ask_14 : decode cX10_ask 14 = .ok (.iload_n 1, 1) := by decide +kernel
theorem dX10_ask_15 : decode cX10_ask 15 = .ok (.iaload, 1) := by decide +kernel
theorem dX10_ask_16 : decode cX10_ask 16 = .ok (.ifCond .lt 15, 3) := by decide +kernel
theorem dX10_ask_19 : decode cX10_ask 19 = .ok (.aload_n 0, 1) := by decide +kernel
theorem dX10_ask_20 : decode cX10_ask 20 = .ok (.iload_n 1, 1) := by decide +kernel
theorem dX10_ask_21 : decode cX10_ask 21 = .ok (.invokevirtual 138, 3) := by decide +kernel
theorem dX10_ask_24 : decode cX10_ask 24 = .ok (.aload_n 0, 1) := by decide +kernel
theorem dX10_ask_25 : decode cX10_ask 25 = .ok (.getfield 107, 3) := by decide +kernel
theorem dX10_ask_28 : decode cX10_ask 28 = .ok (.if_icmp .le 6, 3) := by decide +kernel
theorem dX10_ask_31 : decode cX10_ask 31 = .ok (.bipush (-2), 2) := by decide +kernel
theorem dX10_ask_33 : decode cX10_ask 33 = .ok (.ireturn, 1) := by decide +kernel
theorem dX10_ask_34 : decode cX10_ask 34 = .ok (.aload_n 0, 1) := by decide +kernel
theorem dX10_ask_35 : decode cX10_ask 35 = .ok (.getfield 132, 3) := by decide +kernel
theorem dX10_ask_38 : decode cX10_ask 38 = .ok (.bipush 20, 2) := by decide +kernel
theorem dX10_ask_40 : decode cX10_ask 40 = .ok (.if_icmp .ne 6, 3) := by decide +kernel
theorem dX10_ask_43 : decode cX10_ask 43 = .ok (.bipush (-3), 2) := by decide +kernel
theorem dX10_ask_45 : decode cX10_ask 45 = .ok (.ireturn, 1) := by decide +kernel
theorem dX10_ask_46 : decode cX10_ask 46 = .ok (.aload_n 0, 1) := by decide +kernel
theorem dX10_ask_47 : decode cX10_ask 47 = .ok (.getfield 59, 3) := by decide +kernel
theorem dX10_ask_50 : decode cX10_ask 50 = .ok (.aload_n 0, 1) := by decide +kernel
theorem dX10_ask_51 : decode cX10_ask 51 = .ok (.getfield 132, 3) := by decide +kernel
theorem dX10_ask_54 : decode cX10_ask 54 = .ok (.iload_n 1, 1) := by decide +kernel
theorem dX10_ask_55 : decode cX10_ask 55 = .ok (.iastore, 1) := by decide +kernel
theorem dX10_ask_56 : decode cX10_ask 56 = .ok (.aload_n 0, 1) := by decide +kernel
theorem dX10_ask_57 : decode cX10_ask 57 = .ok (.getfield 62, 3) := by decide +kernel
theorem dX10_ask_60 : decode cX10_ask 60 = .ok (.aload_n 0, 1) := by decide +kernel
theorem dX10_ask_61 : decode cX10_ask 61 = .ok (.getfield 132, 3) := by decide +kernel
theorem dX10_ask_64 : decode cX10_ask 64 = .ok (.aload_n 0, 1) := by decide +kernel
theorem dX10_ask_65 : decode cX10_ask 65 = .ok (.getfield 107, 3) := by decide +kernel
theorem dX10_ask_68 : decode cX10_ask 68 = .ok (.iastore, 1) := by decide +kernel
theorem dX10_ask_69 : decode cX10_ask 69 = .ok (.aload_n 0, 1) := by decide +kernel
theorem dX10_ask_70 : decode cX10_ask 70 = .ok (.getfield 65, 3) := by decide +kernel
theorem dX10_ask_73 : decode cX10_ask 73 = .ok (.aload_n 0, 1) := by decide +kernel
theorem dX10_ask_74 : decode cX10_ask 74 = .ok (.getfield 132, 3) := by decide +kernel
theorem dX10_ask_77 : decode cX10_ask 77 = .ok (.aload_n 0, 1) := by decide +kernel
theorem dX10_ask_78 : decode cX10_ask 78 = .ok (.iload_n 1, 1) := by decide +kernel
theorem dX10_ask_79 : decode cX10_ask 79 = .ok (.aload_n 0, 1) := by decide +kernel
theorem dX10_ask_80 : decode cX10_ask 80 = .ok (.getfield 107, 3) := by decide +kernel
theorem dX10_ask_83 : decode cX10_ask 83 = .ok (.iconst 3, 1) := by decide +kernel
theorem dX10_ask_84 : decode cX10_ask 84 = .ok (.invokevirtual 127, 3) := by decide +kernel
theorem dX10_ask_87 : decode cX10_ask 87 = .ok (.iastore, 1) := by decide +kernel
theorem dX10_ask_88 : decode cX10_ask 88 = .ok (.iconst 0, 1) := by decide +kernel
theorem dX10_ask_89 : decode cX10_ask 89 = .ok (.istore_n 2, 1) := by decide +kernel
theorem dX10_ask_90 : decode cX10_ask 90 = .ok (.iload_n 2, 1) := by decide +kernel
theorem dX10_ask_91 : decode cX10_ask 91 = .ok (.iconst 3, 1) := by decide +kernel
theorem dX10_ask_92 : decode cX10_ask 92 = .ok (.if_icmp .ge 32, 3) := by decide +kernel
theorem dX10_ask_95 : decode cX10_ask 95 = .ok (.aload_n 0, 1) := by decide +kernel
theorem dX10_ask_96 : decode cX10_ask 96 = .ok (.getfield 68, 3) := by decide +kernel
theorem dX10_ask_99 : decode cX10_ask 99 = .ok (.iconst 3, 1) := by decide +kernel
theorem dX10_ask_100 : decode cX10_ask 100 = .ok (.aload_n 0, 1) := by decide +kernel
theorem dX10_ask_101 : decode cX10_ask 101 = .ok (.getfield 132, 3) := by decide +kernel
theorem dX10_ask_104 : decode cX10_ask 104 = .ok (.imul, 1) := by decide +kernel
theorem dX10_ask_105 : decode cX10_ask 105 = .ok (.iload_n 2, 1) := by decide +kernel
theorem dX10_ask_106 : decode cX10_ask 106 = .ok (.iadd, 1) := by decide +kernel
theorem dX10_ask_107 : decode cX10_ask 107 = .ok (.aload_n 0, 1) := by decide +kernel
theorem dX10_ask_108 : decode cX10_ask 108 = .ok (.iload_n 1, 1) := by decide +kernel
theorem dX10_ask_109 : decode cX10_ask 109 = .ok (.aload_n 0, 1) := by decide +kernel
theorem dX10_ask_110 : decode cX10_ask 110 = .ok (.getfield 107, 3) := by decide +kernel
theorem dX10_ask_113 : decode cX10_ask 113 = .ok (.iload_n 2, 1) := by decide +kernel
theorem dX10_ask_114 : decode cX10_ask 114 = .ok (.invokevirtual 127, 3) := by decide +kernel
theorem dX10_ask_117 : decode cX10_ask 117 = .ok (.iastore, 1) := by decide +kernel
theorem dX10_ask_118 : decode cX10_ask 118 = .ok (.iinc 2 1, 3) := by decide +kernel
theorem dX10_ask_121 : decode cX10_ask 121 = .ok (.goto (-31), 3) := by decide +kernel
theorem dX10_ask_124 : decode cX10_ask 124 = .ok (.aload_n 0, 1) := by decide +kernel
theorem dX10_ask_125 : decode cX10_ask 125 = .ok (.getfield 71, 3) := by decide +kernel
theorem dX10_ask_128 : decode cX10_ask 128 = .ok (.aload_n 0, 1) := by decide +kernel
theorem dX10_ask_129 : decode cX10_ask 129 = .ok (.getfield 132, 3) := by decide +kernel
theorem dX10_ask_132 : decode cX10_ask 132 = .ok (.aload_n 0, 1) := by decide +kernel
theorem dX10_ask_133 : decode cX10_ask 133 = .ok (.getfield 53, 3) := by decide +kernel
theorem dX10_ask_136 : decode cX10_ask 136 = .ok (.iload_n 1, 1) := by decide +kernel
theorem dX10_ask_137 : decode cX10_ask 137 = .ok (.iaload, 1) := by decide +kernel
theorem dX10_ask_138 : decode cX10_ask 138 = .ok (.iastore, 1) := by decide +kernel
theorem dX10_ask_139 : decode cX10_ask 139 = .ok (.aload_n 0, 1) := by decide +kernel
theorem dX10_ask_140 : decode cX10_ask 140 = .ok (.getfield 74, 3) := by decide +kernel
theorem dX10_ask_143 : decode cX10_ask 143 = .ok (.aload_n 0, 1) := by decide +kernel
theorem dX10_ask_144 : decode cX10_ask 144 = .ok (.getfield 132, 3) := by decide +kernel
theorem dX10_ask_147 : decode cX10_ask 147 = .ok (.iconst 0, 1) := by decide +kernel
theorem dX10_ask_148 : decode cX10_ask 148 = .ok (.bastore, 1) := by decide +kernel
theorem dX10_ask_149 : decode cX10_ask 149 = .ok (.aload_n 0, 1) := by decide +kernel
theorem dX10_ask_150 : decode cX10_ask 150 = .ok (.dup, 1) := by decide +kernel
theorem dX10_ask_151 : decode cX10_ask 151 = .ok (.getfield 132, 3) := by decide +kernel
theorem dX10_ask_154 : decode cX10_ask 154 = .ok (.iconst 1, 1) := by decide +kernel
theorem dX10_ask_155 : decode cX10_ask 155 = .ok (.iadd, 1) := by decide +kernel
theorem dX10_ask_156 : decode cX10_ask 156 = .ok (.putfield 132, 3) := by decide +kernel
theorem dX10_ask_159 : decode cX10_ask 159 = .ok (.aload_n 0, 1) := by decide +kernel
theorem dX10_ask_160 : decode cX10_ask 160 = .ok (.getfield 132, 3) := by decide +kernel
theorem dX10_ask_163 : decode cX10_ask 163 = .ok (.iconst 1, 1) := by decide +kernel
theorem dX10_ask_164 : decode cX10_ask 164 = .ok (.isub, 1) := by decide +kernel
theorem dX10_ask_165 : decode cX10_ask 165 = .ok (.ireturn, 1) := by decide +kernel
set_option maxRecDepth 20000 in
theorem ggX10_open_X10_isHome : GoodIn wsX10_open wsX10_isHome := goodIn_r _ [5, 6, 7, 8, 4, 9, 33, 34, 35, 36, 37, 38, 39, 40, 41, 42, 43, 44, 45, 46, 47, 48, 49, 50, 51, 52, 53, 54, 55, 56, 57, 58, 59, 60, 61, 62] (by decide +kernel) (by decide +kernel)
set_option maxRecDepth 20000 in
theorem gX10_open_X10_isHome : GoodIn wsX10_open (wsV RX10 91 RX10 yX10_isHome wsX10_isHome) := goodIn_app (goodIn_of _ (by decide +kernel)) ggX10_open_X10_isHome
set_option maxRecDepth 20000 in
theorem ggX10_open_X10_openOf : GoodIn wsX10_open wsX10_openOf := goodIn_r _ [13, 14, 15, 16, 17, 18, 4, 19, 20, 21, 22, 23, 24, 25, 26, 27, 28, 29, 30, 31, 32, 33, 34, 35, 36, 37, 38, 39, 40, 41, 42, 43, 44, 45, 46, 47, 48, 49, 50, 51, 52, 53, 54, 55, 56, 57, 58, 59, 60, 61, 62] (by decide +kernel) (by decide +kernel)
set_option maxRecDepth 20000 in
theorem gX10_open_X10_openOf : GoodIn wsX10_open (wsV RX10 138 RX10 yX10_openOf wsX10_openOf) := goodIn_app (goodIn_of _ (by decide +kernel)) ggX10_open_X10_openOf
theorem dX10_open_0 : decode cX10_open 0 = .ok (.aload_n 0, 1) := by decide +kernel
theorem dX10_open_1 : decode cX10_open 1 = .ok (.iload_n 1, 1) := by decide +kernel
theorem dX10_open_2 : decode cX10_open 2 = .ok (.invokevirtual 91, 3) := by decide +kernel
theorem dX10_open_5 : decode cX10_open 5 = .ok (.ifCond .eq 11, 3) := by decide +kernel
theorem dX10_open_8 : decode cX10_open 8 = .ok (.aload_n 0, 1) := by decide +kernel
theorem dX10_open_9 : decode cX10_open 9 = .ok (.iload_n 1, 1) := by decide +kernel
theorem dX10_open_10 : decode cX10_open 10 = .ok (.invokevirtual 138, 3) := by decide +kernel
theorem dX10_open_13 : decode cX10_open 13 = .ok (.goto 4, 3) := by decide +kernel
theorem dX10_open_16 : decode cX10_open 16 = .ok (.iconst (-1), 1) := by decide +kernel
theorem dX10_open_17 : decode cX10_open 17 = .ok (.ireturn, 1) := by decide +kernel
set_option maxRecDepth 20000 in
theorem ggX10_appeal_X10_isHome : GoodIn wsX10_appeal wsX10_isHome := goodIn_r _ [8, 9, 10, 11, 7, 12, 19, 20, 21, 22, 23, 24, 25, 26, 27, 28, 29, 30, 31, 32, 33, 34, 35, 36, 37, 38, 39, 40, 41, 42, 43, 44, 45, 46, 47, 48] (by decide +kernel) (by decide +kernel)
set_option maxRecDepth 20000 in
theorem gX10_appeal_X10_isHome : GoodIn wsX10_appeal (wsV RX10 91 RX10 yX10_isHome wsX10_isHome) := goodIn_app (goodIn_of _ (by decide +kernel)) ggX10_appeal_X10_isHome
set_option maxRecDepth 20000 in
theorem ggX10_appeal_X10_latestOf : GoodIn wsX10_appeal wsX10_latestOf := goodIn_r _ [16, 17, 18, 3, 19, 20, 21, 22, 23, 24, 25, 26, 27, 28, 29, 30, 31, 32, 33, 34, 35, 36, 37, 38, 39, 40, 41, 42, 43, 44, 45, 46, 47, 48] (by decide +kernel) (by decide +kernel)
set_option maxRecDepth 20000 in
theorem gX10_appeal_X10_latestOf : GoodIn wsX10_appeal (wsV RX10 135 RX10 yX10_latestOf wsX10_latestOf) := goodIn_app (goodIn_of _ (by decide +kernel)) ggX10_appeal_X10_latestOf
theorem dX10_appeal_0 : decode cX10_appeal 0 = .ok (.aload_n 0, 1) := by decide +kernel
theorem dX10_appeal_1 : decode cX10_appeal 1 = .ok (.iload_n 1, 1) := by decide +kernel
theorem dX10_appeal_2 : decode cX10_appeal 2 = .ok (.invokevirtual 91, 3) := by decide +kernel
theorem dX10_appeal_5 : decode cX10_appeal 5 = .ok (.ifCond .ne 5, 3) := by decide +kernel
theorem dX10_appeal_8 : decode cX10_appeal 8 = .ok (.iconst (-1), 1) := by decide +kernel
theorem dX10_appeal_9 : decode cX10_appeal 9 = .ok (.ireturn, 1) := by decide +kernel
theorem dX10_appeal_10 : decode cX10_appeal 10 = .ok (.aload_n 0, 1) := by decide +kernel
theorem dX10_appeal_11 : decode cX10_appeal 11 = .ok (.iload_n 1, 1) := by decide +kernel
theorem dX10_appeal_12 : decode cX10_appeal 12 = .ok (.invokevirtual 135, 3) := by decide +kernel
theorem dX10_appeal_15 : decode cX10_appeal 15 = .ok (.istore_n 2, 1) := by decide +kernel
theorem dX10_appeal_16 : decode cX10_appeal 16 = .ok (.iload_n 2, 1) := by decide +kernel
theorem dX10_appeal_17 : decode cX10_appeal 17 = .ok (.ifCond .lt 18, 3) := by decide +kernel
theorem dX10_appeal_20 : decode cX10_appeal 20 = .ok (.aload_n 0, 1) := by decide +kernel
theorem dX10_appeal_21 : decode cX10_appeal 21 = .ok (.getfield 107, 3) := by decide +kernel
theorem dX10_appeal_24 : decode cX10_appeal 24 = .ok (.aload_n 0, 1) := by decide +kernel
theorem dX10_appeal_25 : decode cX10_appeal 25 = .ok (.getfield 62, 3) := by decide +kernel
theorem dX10_appeal_28 : decode cX10_appeal 28 = .ok (.iload_n 2, 1) := by decide +kernel
theorem dX10_appeal_29 : decode cX10_appeal 29 = .ok (.iaload, 1) := by decide +kernel
theorem dX10_appeal_30 : decode cX10_appeal 30 = .ok (.isub, 1) := by decide +kernel
theorem dX10_appeal_31 : decode cX10_appeal 31 = .ok (.iconst 5, 1) := by decide +kernel
theorem dX10_appeal_32 : decode cX10_appeal 32 = .ok (.if_icmp .le 6, 3) := by decide +kernel
theorem dX10_appeal_35 : decode cX10_appeal 35 = .ok (.bipush (-2), 2) := by decide +kernel
theorem dX10_appeal_37 : decode cX10_appeal 37 = .ok (.ireturn, 1) := by decide +kernel
theorem dX10_appeal_38 : decode cX10_appeal 38 = .ok (.aload_n 0, 1) := by decide +kernel
theorem dX10_appeal_39 : decode cX10_appeal 39 = .ok (.getfield 74, 3) := by decide +kernel
theorem dX10_appeal_42 : decode cX10_appeal 42 = .ok (.iload_n 2, 1) := by decide +kernel
theorem dX10_appeal_43 : decode cX10_appeal 43 = .ok (.iconst 1, 1) := by decide +kernel
theorem dX10_appeal_44 : decode cX10_appeal 44 = .ok (.bastore, 1) := by decide +kernel
theorem dX10_appeal_45 : decode cX10_appeal 45 = .ok (.iload_n 2, 1) := by decide +kernel
theorem dX10_appeal_46 : decode cX10_appeal 46 = .ok (.ireturn, 1) := by decide +kernel
set_option maxRecDepth 20000 in
theorem ggX10_entry_X10_in : GoodIn wsX10_entry wsX10_in := goodIn_r _ [11] (by decide +kernel) (by decide +kernel)
set_option maxRecDepth 20000 in
theorem gX10_entry_X10_in : GoodIn wsX10_entry (va_wsS RX10 87 yX10_in wsX10_in) := goodIn_app (goodIn_of _ (by decide +kernel)) ggX10_entry_X10_in
theorem dX10_entry_0 : decode cX10_entry 0 = .ok (.iload_n 1, 1) := by decide +kernel
theorem dX10_entry_1 : decode cX10_entry 1 = .ok (.iconst 0, 1) := by decide +kernel
theorem dX10_entry_2 : decode cX10_entry 2 = .ok (.aload_n 0, 1) := by decide +kernel
theorem dX10_entry_3 : decode cX10_entry 3 = .ok (.getfield 132, 3) := by decide +kernel
theorem dX10_entry_6 : decode cX10_entry 6 = .ok (.iconst 1, 1) := by decide +kernel
theorem dX10_entry_7 : decode cX10_entry 7 = .ok (.isub, 1) := by decide +kernel
theorem dX10_entry_8 : decode cX10_entry 8 = .ok (.invokestatic 87, 3) := by decide +kernel
theorem dX10_entry_11 : decode cX10_entry 11 = .ok (.ifCond .eq 13, 3) := by decide +kernel
theorem dX10_entry_14 : decode cX10_entry 14 = .ok (.iload_n 2, 1) := by decide +kernel
theorem dX10_entry_15 : decode cX10_entry 15 = .ok (.iconst 0, 1) := by decide +kernel
theorem dX10_entry_16 : decode cX10_entry 16 = .ok (.bipush 6, 2) := by decide +kernel
theorem dX10_entry_18 : decode cX10_entry 18 = .ok (.invokestatic 87, 3) := by decide +kernel
theorem dX10_entry_21 : decode cX10_entry 21 = .ok (.ifCond .ne 6, 3) := by decide +kernel
theorem dX10_entry_24 : decode cX10_entry 24 = .ok (.ldc 131, 2) := by decide +kernel
theorem dX10_entry_26 : decode cX10_entry 26 = .ok (.ireturn, 1) := by decide +kernel
theorem dX10_entry_27 : decode cX10_entry 27 = .ok (.iload_n 2, 1) := by decide +kernel
theorem dX10_entry_28 : decode cX10_entry 28 = .ok (.tableswitch 80 0 6 #[44, 51, 58, 80, 80, 80, 65], 44) := by decide +kernel
theorem dX10_entry_72 : decode cX10_entry 72 = .ok (.aload_n 0, 1) := by decide +kernel
theorem dX10_entry_73 : decode cX10_entry 73 = .ok (.getfield 59, 3) := by decide +kernel
theorem dX10_entry_76 : decode cX10_entry 76 = .ok (.iload_n 1, 1) := by decide +kernel
theorem dX10_entry_77 : decode cX10_entry 77 = .ok (.iaload, 1) := by decide +kernel
theorem dX10_entry_78 : decode cX10_entry 78 = .ok (.ireturn, 1) := by decide +kernel
theorem dX10_entry_79 : decode cX10_entry 79 = .ok (.aload_n 0, 1) := by decide +kernel
theorem dX10_entry_80 : decode cX10_entry 80 = .ok (.getfield 62, 3) := by decide +kernel
theorem dX10_entry_83 : decode cX10_entry 83 = .ok (.iload_n 1, 1) := by decide +kernel
theorem dX10_entry_84 : decode cX10_entry 84 = .ok (.iaload, 1) := by decide +kernel
theorem dX10_entry_85 : decode cX10_entry 85 = .ok (.ireturn, 1) := by decide +kernel
theorem dX10_entry_86 : decode cX10_entry 86 = .ok (.aload_n 0, 1) := by decide +kernel
theorem dX10_entry_87 : decode cX10_entry 87 = .ok (.getfield 65, 3) := by decide +kernel
theorem dX10_entry_90 : decode cX10_entry 90 = .ok (.iload_n 1, 1) := by decide +kernel
theorem dX10_entry_91 : decode cX10_entry 91 = .ok (.iaload, 1) := by decide +kernel
theorem dX10_entry_92 : decode cX10_entry 92 = .ok (.ireturn, 1) := by decide +kernel
theorem dX10_entry_93 : decode cX10_entry 93 = .ok (.aload_n 0, 1) := by decide +kernel
theorem dX10_entry_94 : decode cX10_entry 94 = .ok (.getfield 74, 3) := by decide +kernel
theorem dX10_entry_97 : decode cX10_entry 97 = .ok (.iload_n 1, 1) := by decide +kernel
theorem dX10_entry_98 : decode cX10_entry 98 = .ok (.baload, 1) := by decide +kernel
theorem dX10_entry_99 : decode cX10_entry 99 = .ok (.ifCond .eq 7, 3) := by decide +kernel
theorem dX10_entry_102 : decode cX10_entry 102 = .ok (.iconst 0, 1) := by decide +kernel
theorem dX10_entry_103 : decode cX10_entry 103 = .ok (.goto 4, 3) := by decide +kernel
theorem dX10_entry_106 : decode cX10_entry 106 = .ok (.iconst 1, 1) := by decide +kernel
theorem dX10_entry_107 : decode cX10_entry 107 = .ok (.ireturn, 1) := by decide +kernel
theorem dX10_entry_108 : decode cX10_entry 108 = .ok (.aload_n 0, 1) := by decide +kernel
theorem dX10_entry_109 : decode cX10_entry 109 = .ok (.getfield 68, 3) := by decide +kernel
theorem dX10_entry_112 : decode cX10_entry 112 = .ok (.iconst 3, 1) := by decide +kernel
theorem dX10_entry_113 : decode cX10_entry 113 = .ok (.iload_n 1, 1) := by decide +kernel
theorem dX10_entry_114 : decode cX10_entry 114 = .ok (.imul, 1) := by decide +kernel
theorem dX10_entry_115 : decode cX10_entry 115 = .ok (.iload_n 2, 1) := by decide +kernel
theorem dX10_entry_116 : decode cX10_entry 116 = .ok (.iadd, 1) := by decide +kernel
theorem dX10_entry_117 : decode cX10_entry 117 = .ok (.iconst 3, 1) := by decide +kernel
theorem dX10_entry_118 : decode cX10_entry 118 = .ok (.isub, 1) := by decide +kernel
theorem dX10_entry_119 : decode cX10_entry 119 = .ok (.iaload, 1) := by decide +kernel
theorem dX10_entry_120 : decode cX10_entry 120 = .ok (.ireturn, 1) := by decide +kernel
set_option maxRecDepth 20000 in
theorem ggX10_latest_X10_isHome : GoodIn wsX10_latest wsX10_isHome := goodIn_r _ [5, 6, 7, 8, 4, 9, 17, 18, 19, 20, 21, 22, 23, 24, 25, 26, 27, 28, 29, 30, 31, 32, 33, 34, 35, 36, 37, 38, 39, 40, 41, 42, 43, 44, 45, 46] (by decide +kernel) (by decide +kernel)
set_option maxRecDepth 20000 in
theorem gX10_latest_X10_isHome : GoodIn wsX10_latest (wsV RX10 91 RX10 yX10_isHome wsX10_isHome) := goodIn_app (goodIn_of _ (by decide +kernel)) ggX10_latest_X10_isHome
set_option maxRecDepth 20000 in
theorem ggX10_latest_X10_latestOf : GoodIn wsX10_latest wsX10_latestOf := goodIn_r _ [13, 14, 15, 16, 17, 18, 19, 20, 21, 22, 23, 24, 25, 26, 27, 28, 29, 30, 31, 32, 33, 34, 35, 36, 37, 38, 39, 40, 41, 42, 43, 44, 45, 46] (by decide +kernel) (by decide +kernel)
set_option maxRecDepth 20000 in
theorem gX10_latest_X10_latestOf : GoodIn wsX10_latest (wsV RX10 135 RX10 yX10_latestOf wsX10_latestOf) := goodIn_app (goodIn_of _ (by decide +kernel)) ggX10_latest_X10_latestOf
theorem dX10_latest_0 : decode cX10_latest 0 = .ok (.aload_n 0, 1) := by decide +kernel
theorem dX10_latest_1 : decode cX10_latest 1 = .ok (.iload_n 1, 1) := by decide +kernel
theorem dX10_latest_2 : decode cX10_latest 2 = .ok (.invokevirtual 91, 3) := by decide +kernel
theorem dX10_latest_5 : decode cX10_latest 5 = .ok (.ifCond .eq 11, 3) := by decide +kernel
theorem dX10_latest_8 : decode cX10_latest 8 = .ok (.aload_n 0, 1) := by decide +kernel
theorem dX10_latest_9 : decode cX10_latest 9 = .ok (.iload_n 1, 1) := by decide +kernel
theorem dX10_latest_10 : decode cX10_latest 10 = .ok (.invokevirtual 135, 3) := by decide +kernel
theorem dX10_latest_13 : decode cX10_latest 13 = .ok (.goto 4, 3) := by decide +kernel
theorem dX10_latest_16 : decode cX10_latest 16 = .ok (.iconst (-1), 1) := by decide +kernel
theorem dX10_latest_17 : decode cX10_latest 17 = .ok (.ireturn, 1) := by decide +kernel
set_option maxRecDepth 20000 in
theorem ggX10_work_X10_lawOf : GoodIn wsX10_work wsX10_lawOf := goodIn_r _ [15, 16, 17, 18, 19, 14, 20, 21, 22, 23, 24, 25, 26, 27, 28, 29, 30, 31, 32, 33, 34, 35, 36, 37, 38, 39, 40, 41, 42, 43, 44, 45, 46, 47, 48, 49, 50, 51] (by decide +kernel) (by decide +kernel)
set_option maxRecDepth 20000 in
theorem gX10_work_X10_lawOf : GoodIn wsX10_work (wsV RX10 113 RX10 yX10_lawOf wsX10_lawOf) := goodIn_app (goodIn_of _ (by decide +kernel)) ggX10_work_X10_lawOf
theorem dX10_work_0 : decode cX10_work 0 = .ok (.aload_n 0, 1) := by decide +kernel
theorem dX10_work_1 : decode cX10_work 1 = .ok (.getfield 47, 3) := by decide +kernel
theorem dX10_work_4 : decode cX10_work 4 = .ok (.iload_n 1, 1) := by decide +kernel
theorem dX10_work_5 : decode cX10_work 5 = .ok (.iaload, 1) := by decide +kernel
theorem dX10_work_6 : decode cX10_work 6 = .ok (.istore_n 3, 1) := by decide +kernel
theorem dX10_work_7 : decode cX10_work 7 = .ok (.iload_n 3, 1) := by decide +kernel
theorem dX10_work_8 : decode cX10_work 8 = .ok (.iload_n 2, 1) := by decide +kernel
theorem dX10_work_9 : decode cX10_work 9 = .ok (.if_icmp .gt 211, 3) := by decide +kernel
theorem dX10_work_12 : decode cX10_work 12 = .ok (.aload_n 0, 1) := by decide +kernel
theorem dX10_work_13 : decode cX10_work 13 = .ok (.getfield 132, 3) := by decide +kernel
theorem dX10_work_16 : decode cX10_work 16 = .ok (.iconst 1, 1) := by decide +kernel
theorem dX10_work_17 : decode cX10_work 17 = .ok (.isub, 1) := by decide +kernel
theorem dX10_work_18 : decode cX10_work 18 = .ok (.istore 4, 2) := by decide +kernel
theorem dX10_work_20 : decode cX10_work 20 = .ok (.iload 4, 2) := by decide +kernel
theorem dX10_work_22 : decode cX10_work 22 = .ok (.ifCond .lt 57, 3) := by decide +kernel
theorem dX10_work_25 : decode cX10_work 25 = .ok (.aload_n 0, 1) := by decide +kernel
theorem dX10_work_26 : decode cX10_work 26 = .ok (.getfield 59, 3) := by decide +kernel
theorem dX10_work_29 : decode cX10_work 29 = .ok (.iload 4, 2) := by decide +kernel
theorem dX10_work_31 : decode cX10_work 31 = .ok (.iaload, 1) := by decide +kernel
theorem dX10_work_32 : decode cX10_work 32 = .ok (.iload_n 1, 1) := by decide +kernel
theorem dX10_work_33 : decode cX10_work 33 = .ok (.if_icmp .ne 40, 3) := by decide +kernel
theorem dX10_work_36 : decode cX10_work 36 = .ok (.aload_n 0, 1) := by decide +kernel
theorem dX10_work_37 : decode cX10_work 37 = .ok (.getfield 74, 3) := by decide +kernel
theorem dX10_work_40 : decode cX10_work 40 = .ok (.iload 4, 2) := by decide +kernel
theorem dX10_work_42 : decode cX10_work 42 = .ok (.baload, 1) := by decide +kernel
theorem dX10_work_43 : decode cX10_work 43 = .ok (.ifCond .ne 30, 3) := by decide +kernel
theorem dX10_work_46 : decode cX10_work 46 = .ok (.aload_n 0, 1) := by decide +kernel
theorem dX10_work_47 : decode cX10_work 47 = .ok (.getfield 71, 3) := by decide +kernel
theorem dX10_work_50 : decode cX10_work 50 = .ok (.iload 4, 2) := by decide +kernel
theorem dX10_work_52 : decode cX10_work 52 = .ok (.iaload, 1) := by decide +kernel
theorem dX10_work_53 : decode cX10_work 53 = .ok (.aload_n 0, 1) := by decide +kernel
theorem dX10_work_54 : decode cX10_work 54 = .ok (.getfield 53, 3) := by decide +kernel
theorem dX10_work_57 : decode cX10_work 57 = .ok (.iload_n 1, 1) := by decide +kernel
theorem dX10_work_58 : decode cX10_work 58 = .ok (.iaload, 1) := by decide +kernel
theorem dX10_work_59 : decode cX10_work 59 = .ok (.if_icmp .ne 14, 3) := by decide +kernel
theorem dX10_work_62 : decode cX10_work 62 = .ok (.aload_n 0, 1) := by decide +kernel
theorem dX10_work_63 : decode cX10_work 63 = .ok (.getfield 62, 3) := by decide +kernel
theorem dX10_work_66 : decode cX10_work 66 = .ok (.iload 4, 2) := by decide +kernel
theorem dX10_work_68 : decode cX10_work 68 = .ok (.iaload, 1) := by decide +kernel
theorem dX10_work_69 : decode cX10_work 69 = .ok (.iload_n 3, 1) := by decide +kernel
theorem dX10_work_70 : decode cX10_work 70 = .ok (.if_icmp .le 9, 3) := by decide +kernel
theorem dX10_work_73 : decode cX10_work 73 = .ok (.iinc 4 (-1), 3) := by decide +kernel
theorem dX10_work_76 : decode cX10_work 76 = .ok (.goto (-56), 3) := by decide +kernel
theorem dX10_work_79 : decode cX10_work 79 = .ok (.iload 4, 2) := by decide +kernel
theorem dX10_work_81 : decode cX10_work 81 = .ok (.ifCond .ge 18, 3) := by decide +kernel
theorem dX10_work_84 : decode cX10_work 84 = .ok (.aload_n 0, 1) := by decide +kernel
theorem dX10_work_85 : decode cX10_work 85 = .ok (.getfield 80, 3) := by decide +kernel
theorem dX10_work_88 : decode cX10_work 88 = .ok (.iload_n 3, 1) := by decide +kernel
theorem dX10_work_89 : decode cX10_work 89 = .ok (.aload_n 0, 1) := by decide +kernel
theorem dX10_work_90 : decode cX10_work 90 = .ok (.getfield 50, 3) := by decide +kernel
theorem dX10_work_93 : decode cX10_work 93 = .ok (.iload_n 1, 1) := by decide +kernel
theorem dX10_work_94 : decode cX10_work 94 = .ok (.iaload, 1) := by decide +kernel
theorem dX10_work_95 : decode cX10_work 95 = .ok (.iastore, 1) := by decide +kernel
theorem dX10_work_96 : decode cX10_work 96 = .ok (.goto 118, 3) := by decide +kernel
theorem dX10_work_99 : decode cX10_work 99 = .ok (.aload_n 0, 1) := by decide +kernel
theorem dX10_work_100 : decode cX10_work 100 = .ok (.getfield 62, 3) := by decide +kernel
theorem dX10_work_103 : decode cX10_work 103 = .ok (.iload 4, 2) := by decide +kernel
theorem dX10_work_105 : decode cX10_work 105 = .ok (.iaload, 1) := by decide +kernel
theorem dX10_work_106 : decode cX10_work 106 = .ok (.aload_n 0, 1) := by decide +kernel
theorem dX10_work_107 : decode cX10_work 107 = .ok (.getfield 47, 3) := by decide +kernel
theorem dX10_work_110 : decode cX10_work 110 = .ok (.iload_n 1, 1) := by decide +kernel
theorem dX10_work_111 : decode cX10_work 111 = .ok (.iaload, 1) := by decide +kernel
theorem dX10_work_112 : decode cX10_work 112 = .ok (.if_icmp .ne 12, 3) := by decide +kernel
theorem dX10_work_115 : decode cX10_work 115 = .ok (.aload_n 0, 1) := by decide +kernel
theorem dX10_work_116 : decode cX10_work 116 = .ok (.getfield 50, 3) := by decide +kernel
theorem dX10_work_119 : decode cX10_work 119 = .ok (.iload_n 1, 1) := by decide +kernel
theorem dX10_work_120 : decode cX10_work 120 = .ok (.iaload, 1) := by decide +kernel
theorem dX10_work_121 : decode cX10_work 121 = .ok (.goto 17, 3) := by decide +kernel
theorem dX10_work_124 : decode cX10_work 124 = .ok (.aload_n 0, 1) := by decide +kernel
theorem dX10_work_125 : decode cX10_work 125 = .ok (.getfield 80, 3) := by decide +kernel
theorem dX10_work_128 : decode cX10_work 128 = .ok (.aload_n 0, 1) := by decide +kernel
theorem dX10_work_129 : decode cX10_work 129 = .ok (.getfield 62, 3) := by decide +kernel
theorem dX10_work_132 : decode cX10_work 132 = .ok (.iload 4, 2) := by decide +kernel
theorem dX10_work_134 : decode cX10_work 134 = .ok (.iaload, 1) := by decide +kernel
theorem dX10_work_135 : decode cX10_work 135 = .ok (.iconst 1, 1) := by decide +kernel
theorem dX10_work_136 : decode cX10_work 136 = .ok (.isub, 1) := by decide +kernel
theorem dX10_work_137 : decode cX10_work 137 = .ok (.iaload, 1) := by decide +kernel
theorem dX10_work_138 : decode cX10_work 138 = .ok (.istore 5, 2) := by decide +kernel
theorem dX10_work_140 : decode cX10_work 140 = .ok (.iload 5, 2) := by decide +kernel
theorem dX10_work_142 : decode cX10_work 142 = .ok (.aload_n 0, 1) := by decide +kernel
theorem dX10_work_143 : decode cX10_work 143 = .ok (.aload_n 0, 1) := by decide +kernel
theorem dX10_work_144 : decode cX10_work 144 = .ok (.getfield 62, 3) := by decide +kernel
theorem dX10_work_147 : decode cX10_work 147 = .ok (.iload 4, 2) := by decide +kernel
theorem dX10_work_149 : decode cX10_work 149 = .ok (.iaload, 1) := by decide +kernel
theorem dX10_work_150 : decode cX10_work 150 = .ok (.iconst 5, 1) := by decide +kernel
theorem dX10_work_151 : decode cX10_work 151 = .ok (.invokevirtual 113, 3) := by decide +kernel
theorem dX10_work_154 : decode cX10_work 154 = .ok (.iload_n 3, 1) := by decide +kernel
theorem dX10_work_155 : decode cX10_work 155 = .ok (.aload_n 0, 1) := by decide +kernel
theorem dX10_work_156 : decode cX10_work 156 = .ok (.getfield 62, 3) := by decide +kernel
theorem dX10_work_159 : decode cX10_work 159 = .ok (.iload 4, 2) := by decide +kernel
theorem dX10_work_161 : decode cX10_work 161 = .ok (.iaload, 1) := by decide +kernel
theorem dX10_work_162 : decode cX10_work 162 = .ok (.isub, 1) := by decide +kernel
theorem dX10_work_163 : decode cX10_work 163 = .ok (.bipush 10, 2) := by decide +kernel
theorem dX10_work_165 : decode cX10_work 165 = .ok (.idiv, 1) := by decide +kernel
theorem dX10_work_166 : decode cX10_work 166 = .ok (.iconst 1, 1) := by decide +kernel
theorem dX10_work_167 : decode cX10_work 167 = .ok (.iadd, 1) := by decide +kernel
theorem dX10_work_168 : decode cX10_work 168 = .ok (.imul, 1) := by decide +kernel
theorem dX10_work_169 : decode cX10_work 169 = .ok (.iadd, 1) := by decide +kernel
theorem dX10_work_170 : decode cX10_work 170 = .ok (.istore 6, 2) := by decide +kernel
theorem dX10_work_172 : decode cX10_work 172 = .ok (.aload_n 0, 1) := by decide +kernel
theorem dX10_work_173 : decode cX10_work 173 = .ok (.getfield 80, 3) := by decide +kernel
theorem dX10_work_176 : decode cX10_work 176 = .ok (.iload_n 3, 1) := by decide +kernel
theorem dX10_work_177 : decode cX10_work 177 = .ok (.aload_n 0, 1) := by decide +kernel
theorem dX10_work_178 : decode cX10_work 178 = .ok (.getfield 65, 3) := by decide +kernel
theorem dX10_work_181 : decode cX10_work 181 = .ok (.iload 4, 2) := by decide +kernel
theorem dX10_work_183 : decode cX10_work 183 = .ok (.iaload, 1) := by decide +kernel
theorem dX10_work_184 : decode cX10_work 184 = .ok (.iload 5, 2) := by decide +kernel
theorem dX10_work_186 : decode cX10_work 186 = .ok (.if_icmp .le 15, 3) := by decide +kernel
theorem dX10_work_189 : decode cX10_work 189 = .ok (.aload_n 0, 1) := by decide +kernel
theorem dX10_work_190 : decode cX10_work 190 = .ok (.getfield 65, 3) := by decide +kernel
theorem dX10_work_193 : decode cX10_work 193 = .ok (.iload 4, 2) := by decide +kernel
theorem dX10_work_195 : decode cX10_work 195 = .ok (.iaload, 1) := by decide +kernel
theorem dX10_work_196 : decode cX10_work 196 = .ok (.iload 6, 2) := by decide +kernel
theorem dX10_work_198 : decode cX10_work 198 = .ok (.if_icmp .ge 13, 3) := by decide +kernel
theorem dX10_work_201 : decode cX10_work 201 = .ok (.aload_n 0, 1) := by decide +kernel
theorem dX10_work_202 : decode cX10_work 202 = .ok (.getfield 65, 3) := by decide +kernel
theorem dX10_work_205 : decode cX10_work 205 = .ok (.iload 4, 2) := by decide +kernel
theorem dX10_work_207 : decode cX10_work 207 = .ok (.iaload, 1) := by decide +kernel
theorem dX10_work_208 : decode cX10_work 208 = .ok (.goto 5, 3) := by decide +kernel
theorem dX10_work_211 : decode cX10_work 211 = .ok (.iload 6, 2) := by decide +kernel
theorem dX10_work_213 : decode cX10_work 213 = .ok (.iastore, 1) := by decide +kernel
theorem dX10_work_214 : decode cX10_work 214 = .ok (.iinc 3 1, 3) := by decide +kernel
theorem dX10_work_217 : decode cX10_work 217 = .ok (.goto (-210), 3) := by decide +kernel
theorem dX10_work_220 : decode cX10_work 220 = .ok (.return_, 1) := by decide +kernel
set_option maxRecDepth 20000 in
theorem ggX10_due_X10_isHome : GoodIn wsX10_due wsX10_isHome := goodIn_r _ [8, 9, 10, 11, 7, 12, 35, 36, 37, 38, 39, 40, 41, 42, 43, 44, 45, 46, 47, 48, 49, 50, 51, 52, 53, 54, 55, 56, 57, 58, 59, 60, 61, 62, 63, 64] (by decide +kernel) (by decide +kernel)
set_option maxRecDepth 20000 in
theorem gX10_due_X10_isHome : GoodIn wsX10_due (wsV RX10 91 RX10 yX10_isHome wsX10_isHome) := goodIn_app (goodIn_of _ (by decide +kernel)) ggX10_due_X10_isHome
set_option maxRecDepth 20000 in
theorem ggX10_due_X10_in : GoodIn wsX10_due wsX10_in := goodIn_r _ [12] (by decide +kernel) (by decide +kernel)
set_option maxRecDepth 20000 in
theorem gX10_due_X10_in : GoodIn wsX10_due (va_wsS RX10 87 yX10_in wsX10_in) := goodIn_app (goodIn_of _ (by decide +kernel)) ggX10_due_X10_in
set_option maxRecDepth 20000 in
theorem ggX10_due_X10_work : GoodIn wsX10_due wsX10_work := goodIn_r _ [16, 2, 17, 18, 19, 20, 21, 22, 3, 23, 24, 25, 26, 27, 7, 28, 29, 30, 31, 32, 33, 34, 35, 36, 37, 38, 39, 40, 41, 42, 43, 44, 45, 46, 47, 48, 49, 50, 51, 52, 53, 54, 55, 56, 57, 58, 59, 60, 61, 62, 63, 64] (by decide +kernel) (by decide +kernel)
set_option maxRecDepth 20000 in
theorem gX10_due_X10_work : GoodIn wsX10_due (wsV RX10 141 RX10 yX10_work wsX10_work) := goodIn_app (goodIn_of _ (by decide +kernel)) ggX10_due_X10_work
theorem dX10_due_0 : decode cX10_due 0 = .ok (.aload_n 0, 1) := by decide +kernel
theorem dX10_due_1 : decode cX10_due 1 = .ok (.iload_n 1, 1) := by decide +kernel
theorem dX10_due_2 : decode cX10_due 2 = .ok (.invokevirtual 91, 3) := by decide +kernel
theorem dX10_due_5 : decode cX10_due 5 = .ok (.ifCond .eq 15, 3) := by decide +kernel
theorem dX10_due_8 : decode cX10_due 8 = .ok (.iload_n 2, 1) := by decide +kernel
theorem dX10_due_9 : decode cX10_due 9 = .ok (.iconst 0, 1) := by decide +kernel
theorem dX10_due_10 : decode cX10_due 10 = .ok (.aload_n 0, 1) := by decide +kernel
theorem dX10_due_11 : decode cX10_due 11 = .ok (.getfield 107, 3) := by decide +kernel
theorem dX10_due_14 : decode cX10_due 14 = .ok (.invokestatic 87, 3) := by decide +kernel
theorem dX10_due_17 : decode cX10_due 17 = .ok (.ifCond .ne 5, 3) := by decide +kernel
theorem dX10_due_20 : decode cX10_due 20 = .ok (.iconst (-1), 1) := by decide +kernel
theorem dX10_due_21 : decode cX10_due 21 = .ok (.ireturn, 1) := by decide +kernel
theorem dX10_due_22 : decode cX10_due 22 = .ok (.aload_n 0, 1) := by decide +kernel
theorem dX10_due_23 : decode cX10_due 23 = .ok (.getfield 47, 3) := by decide +kernel
theorem dX10_due_26 : decode cX10_due 26 = .ok (.iload_n 1, 1) := by decide +kernel
theorem dX10_due_27 : decode cX10_due 27 = .ok (.iaload, 1) := by decide +kernel
theorem dX10_due_28 : decode cX10_due 28 = .ok (.ifCond .lt 13, 3) := by decide +kernel
theorem dX10_due_31 : decode cX10_due 31 = .ok (.iload_n 2, 1) := by decide +kernel
theorem dX10_due_32 : decode cX10_due 32 = .ok (.aload_n 0, 1) := by decide +kernel
theorem dX10_due_33 : decode cX10_due 33 = .ok (.getfield 47, 3) := by decide +kernel
theorem dX10_due_36 : decode cX10_due 36 = .ok (.iload_n 1, 1) := by decide +kernel
theorem dX10_due_37 : decode cX10_due 37 = .ok (.iaload, 1) := by decide +kernel
theorem dX10_due_38 : decode cX10_due 38 = .ok (.if_icmp .ge 6, 3) := by decide +kernel
theorem dX10_due_41 : decode cX10_due 41 = .ok (.bipush (-2), 2) := by decide +kernel
theorem dX10_due_43 : decode cX10_due 43 = .ok (.ireturn, 1) := by decide +kernel
theorem dX10_due_44 : decode cX10_due 44 = .ok (.aload_n 0, 1) := by decide +kernel
theorem dX10_due_45 : decode cX10_due 45 = .ok (.iload_n 1, 1) := by decide +kernel
theorem dX10_due_46 : decode cX10_due 46 = .ok (.iload_n 2, 1) := by decide +kernel
theorem dX10_due_47 : decode cX10_due 47 = .ok (.invokevirtual 141, 3) := by decide +kernel
theorem dX10_due_50 : decode cX10_due 50 = .ok (.aload_n 0, 1) := by decide +kernel
theorem dX10_due_51 : decode cX10_due 51 = .ok (.getfield 80, 3) := by decide +kernel
theorem dX10_due_54 : decode cX10_due 54 = .ok (.iload_n 2, 1) := by decide +kernel
theorem dX10_due_55 : decode cX10_due 55 = .ok (.iaload, 1) := by decide +kernel
theorem dX10_due_56 : decode cX10_due 56 = .ok (.ireturn, 1) := by decide +kernel
theorem dX10_paidBy_0 : decode cX10_paidBy 0 = .ok (.iconst 0, 1) := by decide +kernel
theorem dX10_paidBy_1 : decode cX10_paidBy 1 = .ok (.istore_n 3, 1) := by decide +kernel
theorem dX10_paidBy_2 : decode cX10_paidBy 2 = .ok (.iconst 0, 1) := by decide +kernel
theorem dX10_paidBy_3 : decode cX10_paidBy 3 = .ok (.istore 4, 2) := by decide +kernel
theorem dX10_paidBy_5 : decode cX10_paidBy 5 = .ok (.iload 4, 2) := by decide +kernel
theorem dX10_paidBy_7 : decode cX10_paidBy 7 = .ok (.iload_n 2, 1) := by decide +kernel
theorem dX10_paidBy_8 : decode cX10_paidBy 8 = .ok (.if_icmp .gt 25, 3) := by decide +kernel
theorem dX10_paidBy_11 : decode cX10_paidBy 11 = .ok (.iload_n 3, 1) := by decide +kernel
theorem dX10_paidBy_12 : decode cX10_paidBy 12 = .ok (.aload_n 0, 1) := by decide +kernel
theorem dX10_paidBy_13 : decode cX10_paidBy 13 = .ok (.getfield 56, 3) := by decide +kernel
theorem dX10_paidBy_16 : decode cX10_paidBy 16 = .ok (.sipush 301, 3) := by decide +kernel
theorem dX10_paidBy_19 : decode cX10_paidBy 19 = .ok (.iload_n 1, 1) := by decide +kernel
theorem dX10_paidBy_20 : decode cX10_paidBy 20 = .ok (.imul, 1) := by decide +kernel
theorem dX10_paidBy_21 : decode cX10_paidBy 21 = .ok (.iload 4, 2) := by decide +kernel
theorem dX10_paidBy_23 : decode cX10_paidBy 23 = .ok (.iadd, 1) := by decide +kernel
theorem dX10_paidBy_24 : decode cX10_paidBy 24 = .ok (.iaload, 1) := by decide +kernel
theorem dX10_paidBy_25 : decode cX10_paidBy 25 = .ok (.iadd, 1) := by decide +kernel
theorem dX10_paidBy_26 : decode cX10_paidBy 26 = .ok (.istore_n 3, 1) := by decide +kernel
theorem dX10_paidBy_27 : decode cX10_paidBy 27 = .ok (.iinc 4 1, 3) := by decide +kernel
theorem dX10_paidBy_30 : decode cX10_paidBy 30 = .ok (.goto (-25), 3) := by decide +kernel
theorem dX10_paidBy_33 : decode cX10_paidBy 33 = .ok (.iload_n 3, 1) := by decide +kernel
theorem dX10_paidBy_34 : decode cX10_paidBy 34 = .ok (.ireturn, 1) := by decide +kernel
set_option maxRecDepth 20000 in
theorem ggX10_pay_X10_isHome : GoodIn wsX10_pay wsX10_isHome := goodIn_r _ [10, 11, 12, 13, 9, 14, 19, 20, 21, 22, 23, 24, 25, 26, 27, 28, 29, 30, 31, 32, 33, 34, 35, 36, 37, 38, 39, 40, 41, 42, 43, 44, 45, 46, 47, 48] (by decide +kernel) (by decide +kernel)
set_option maxRecDepth 20000 in
theorem gX10_pay_X10_isHome : GoodIn wsX10_pay (wsV RX10 91 RX10 yX10_isHome wsX10_isHome) := goodIn_app (goodIn_of _ (by decide +kernel)) ggX10_pay_X10_isHome
set_option maxRecDepth 20000 in
theorem ggX10_pay_X10_in : GoodIn wsX10_pay wsX10_in := goodIn_r _ [14] (by decide +kernel) (by decide +kernel)
set_option maxRecDepth 20000 in
theorem gX10_pay_X10_in : GoodIn wsX10_pay (va_wsS RX10 87 yX10_in wsX10_in) := goodIn_app (goodIn_of _ (by decide +kernel)) ggX10_pay_X10_in
set_option maxRecDepth 20000 in
theorem ggX10_pay_X10_paidBy : GoodIn wsX10_pay wsX10_paidBy := goodIn_r _ [18, 5, 19, 20, 21, 22, 23, 24, 25, 26, 27, 28, 29, 30, 31, 32, 33, 34, 35, 36, 37, 38, 39, 40, 41, 42, 43, 44, 45, 46, 47, 48] (by decide +kernel) (by decide +kernel)
set_option maxRecDepth 20000 in
theorem gX10_pay_X10_paidBy : GoodIn wsX10_pay (wsV RX10 145 RX10 yX10_paidBy wsX10_paidBy) := goodIn_app (goodIn_of _ (by decide +kernel)) ggX10_pay_X10_paidBy
theorem dX10_pay_0 : decode cX10_pay 0 = .ok (.aload_n 0, 1) := by decide +kernel
theorem dX10_pay_1 : decode cX10_pay 1 = .ok (.iload_n 1, 1) := by decide +kernel
theorem dX10_pay_2 : decode cX10_pay 2 = .ok (.invokevirtual 91, 3) := by decide +kernel
theorem dX10_pay_5 : decode cX10_pay 5 = .ok (.ifCond .eq 13, 3) := by decide +kernel
theorem dX10_pay_8 : decode cX10_pay 8 = .ok (.iload_n 2, 1) := by decide +kernel
theorem dX10_pay_9 : decode cX10_pay 9 = .ok (.iconst 0, 1) := by decide +kernel
theorem dX10_pay_10 : decode cX10_pay 10 = .ok (.ldc 144, 2) := by decide +kernel
theorem dX10_pay_12 : decode cX10_pay 12 = .ok (.invokestatic 87, 3) := by decide +kernel
theorem dX10_pay_15 : decode cX10_pay 15 = .ok (.ifCond .ne 5, 3) := by decide +kernel
theorem dX10_pay_18 : decode cX10_pay 18 = .ok (.iconst (-1), 1) := by decide +kernel
theorem dX10_pay_19 : decode cX10_pay 19 = .ok (.ireturn, 1) := by decide +kernel
theorem dX10_pay_20 : decode cX10_pay 20 = .ok (.aload_n 0, 1) := by decide +kernel
theorem dX10_pay_21 : decode cX10_pay 21 = .ok (.getfield 47, 3) := by decide +kernel
theorem dX10_pay_24 : decode cX10_pay 24 = .ok (.iload_n 1, 1) := by decide +kernel
theorem dX10_pay_25 : decode cX10_pay 25 = .ok (.iaload, 1) := by decide +kernel
theorem dX10_pay_26 : decode cX10_pay 26 = .ok (.ifCond .ge 6, 3) := by decide +kernel
theorem dX10_pay_29 : decode cX10_pay 29 = .ok (.bipush (-2), 2) := by decide +kernel
theorem dX10_pay_31 : decode cX10_pay 31 = .ok (.ireturn, 1) := by decide +kernel
theorem dX10_pay_32 : decode cX10_pay 32 = .ok (.aload_n 0, 1) := by decide +kernel
theorem dX10_pay_33 : decode cX10_pay 33 = .ok (.iload_n 1, 1) := by decide +kernel
theorem dX10_pay_34 : decode cX10_pay 34 = .ok (.aload_n 0, 1) := by decide +kernel
theorem dX10_pay_35 : decode cX10_pay 35 = .ok (.getfield 107, 3) := by decide +kernel
theorem dX10_pay_38 : decode cX10_pay 38 = .ok (.invokevirtual 145, 3) := by decide +kernel
theorem dX10_pay_41 : decode cX10_pay 41 = .ok (.iload_n 2, 1) := by decide +kernel
theorem dX10_pay_42 : decode cX10_pay 42 = .ok (.iadd, 1) := by decide +kernel
theorem dX10_pay_43 : decode cX10_pay 43 = .ok (.istore_n 3, 1) := by decide +kernel
theorem dX10_pay_44 : decode cX10_pay 44 = .ok (.iload_n 3, 1) := by decide +kernel
theorem dX10_pay_45 : decode cX10_pay 45 = .ok (.ldc 148, 2) := by decide +kernel
theorem dX10_pay_47 : decode cX10_pay 47 = .ok (.if_icmp .le 6, 3) := by decide +kernel
theorem dX10_pay_50 : decode cX10_pay 50 = .ok (.bipush (-3), 2) := by decide +kernel
theorem dX10_pay_52 : decode cX10_pay 52 = .ok (.ireturn, 1) := by decide +kernel
theorem dX10_pay_53 : decode cX10_pay 53 = .ok (.aload_n 0, 1) := by decide +kernel
theorem dX10_pay_54 : decode cX10_pay 54 = .ok (.getfield 56, 3) := by decide +kernel
theorem dX10_pay_57 : decode cX10_pay 57 = .ok (.sipush 301, 3) := by decide +kernel
theorem dX10_pay_60 : decode cX10_pay 60 = .ok (.iload_n 1, 1) := by decide +kernel
theorem dX10_pay_61 : decode cX10_pay 61 = .ok (.imul, 1) := by decide +kernel
theorem dX10_pay_62 : decode cX10_pay 62 = .ok (.aload_n 0, 1) := by decide +kernel
theorem dX10_pay_63 : decode cX10_pay 63 = .ok (.getfield 107, 3) := by decide +kernel
theorem dX10_pay_66 : decode cX10_pay 66 = .ok (.iadd, 1) := by decide +kernel
theorem dX10_pay_67 : decode cX10_pay 67 = .ok (.dup2, 1) := by decide +kernel
theorem dX10_pay_68 : decode cX10_pay 68 = .ok (.iaload, 1) := by decide +kernel
theorem dX10_pay_69 : decode cX10_pay 69 = .ok (.iload_n 2, 1) := by decide +kernel
theorem dX10_pay_70 : decode cX10_pay 70 = .ok (.iadd, 1) := by decide +kernel
theorem dX10_pay_71 : decode cX10_pay 71 = .ok (.iastore, 1) := by decide +kernel
theorem dX10_pay_72 : decode cX10_pay 72 = .ok (.iload_n 3, 1) := by decide +kernel
theorem dX10_pay_73 : decode cX10_pay 73 = .ok (.ireturn, 1) := by decide +kernel
set_option maxRecDepth 20000 in
theorem ggX10_owed_X10_isHome : GoodIn wsX10_owed wsX10_isHome := goodIn_r _ [9, 10, 11, 12, 8, 13, 41, 42, 43, 44, 45, 46, 47, 48, 49, 50, 51, 52, 53, 54, 55, 56, 57, 58, 59, 60, 61, 62, 63, 64, 65, 66, 67, 68, 69, 70] (by decide +kernel) (by decide +kernel)
set_option maxRecDepth 20000 in
theorem gX10_owed_X10_isHome : GoodIn wsX10_owed (wsV RX10 91 RX10 yX10_isHome wsX10_isHome) := goodIn_app (goodIn_of _ (by decide +kernel)) ggX10_owed_X10_isHome
set_option maxRecDepth 20000 in
theorem ggX10_owed_X10_in : GoodIn wsX10_owed wsX10_in := goodIn_r _ [13] (by decide +kernel) (by decide +kernel)
set_option maxRecDepth 20000 in
theorem gX10_owed_X10_in : GoodIn wsX10_owed (va_wsS RX10 87 yX10_in wsX10_in) := goodIn_app (goodIn_of _ (by decide +kernel)) ggX10_owed_X10_in
set_option maxRecDepth 20000 in
theorem ggX10_owed_X10_work : GoodIn wsX10_owed wsX10_work := goodIn_r _ [17, 2, 18, 19, 20, 21, 22, 23, 4, 24, 25, 26, 27, 28, 8, 29, 30, 31, 32, 33, 34, 35, 41, 42, 43, 44, 45, 46, 47, 48, 49, 50, 51, 52, 53, 54, 55, 56, 57, 58, 59, 60, 61, 62, 63, 64, 65, 66, 67, 68, 69, 70] (by decide +kernel) (by decide +kernel)
set_option maxRecDepth 20000 in
theorem gX10_owed_X10_work : GoodIn wsX10_owed (wsV RX10 141 RX10 yX10_work wsX10_work) := goodIn_app (goodIn_of _ (by decide +kernel)) ggX10_owed_X10_work
set_option maxRecDepth 20000 in
theorem ggX10_owed_X10_paidBy : GoodIn wsX10_owed wsX10_paidBy := goodIn_r _ [39, 40, 41, 42, 43, 44, 45, 46, 47, 48, 49, 50, 51, 52, 53, 54, 55, 56, 57, 58, 59, 60, 61, 62, 63, 64, 65, 66, 67, 68, 69, 70] (by decide +kernel) (by decide +kernel)
set_option maxRecDepth 20000 in
theorem gX10_owed_X10_paidBy : GoodIn wsX10_owed (wsV RX10 145 RX10 yX10_paidBy wsX10_paidBy) := goodIn_app (goodIn_of _ (by decide +kernel)) ggX10_owed_X10_paidBy
theorem dX10_owed_0 : decode cX10_owed 0 = .ok (.aload_n 0, 1) := by decide +kernel
theorem dX10_owed_1 : decode cX10_owed 1 = .ok (.iload_n 1, 1) := by decide +kernel
theorem dX10_owed_2 : decode cX10_owed 2 = .ok (.invokevirtual 91, 3) := by decide +kernel
theorem dX10_owed_5 : decode cX10_owed 5 = .ok (.ifCond .eq 34, 3) := by decide +kernel
theorem dX10_owed_8 : decode cX10_owed 8 = .ok (.iload_n 2, 1) := by decide +kernel
theorem dX10_owed_9 : decode cX10_owed 9 = .ok (.iconst 0, 1) := by decide +kernel
theorem dX10_owed_10 : decode cX10_owed 10 = .ok (.aload_n 0, 1) := by decide +kernel
theorem dX10_owed_11 : decode cX10_owed 11 = .ok (.getfield 107, 3) := by decide +kernel
theorem dX10_owed_14 : decode cX10_owed 14 = .ok (.invokestatic 87, 3) := by decide +kernel
theorem dX10_owed_17 : decode cX10_owed 17 = .ok (.ifCond .eq 22, 3) := by decide +kernel
theorem dX10_owed_20 : decode cX10_owed 20 = .ok (.aload_n 0, 1) := by decide +kernel
theorem dX10_owed_21 : decode cX10_owed 21 = .ok (.getfield 47, 3) := by decide +kernel
theorem dX10_owed_24 : decode cX10_owed 24 = .ok (.iload_n 1, 1) := by decide +kernel
theorem dX10_owed_25 : decode cX10_owed 25 = .ok (.iaload, 1) := by decide +kernel
theorem dX10_owed_26 : decode cX10_owed 26 = .ok (.ifCond .lt 13, 3) := by decide +kernel
theorem dX10_owed_29 : decode cX10_owed 29 = .ok (.iload_n 2, 1) := by decide +kernel
theorem dX10_owed_30 : decode cX10_owed 30 = .ok (.aload_n 0, 1) := by decide +kernel
theorem dX10_owed_31 : decode cX10_owed 31 = .ok (.getfield 47, 3) := by decide +kernel
theorem dX10_owed_34 : decode cX10_owed 34 = .ok (.iload_n 1, 1) := by decide +kernel
theorem dX10_owed_35 : decode cX10_owed 35 = .ok (.iaload, 1) := by decide +kernel
theorem dX10_owed_36 : decode cX10_owed 36 = .ok (.if_icmp .ge 6, 3) := by decide +kernel
theorem dX10_owed_39 : decode cX10_owed 39 = .ok (.ldc 131, 2) := by decide +kernel
theorem dX10_owed_41 : decode cX10_owed 41 = .ok (.ireturn, 1) := by decide +kernel
theorem dX10_owed_42 : decode cX10_owed 42 = .ok (.aload_n 0, 1) := by decide +kernel
theorem dX10_owed_43 : decode cX10_owed 43 = .ok (.iload_n 1, 1) := by decide +kernel
theorem dX10_owed_44 : decode cX10_owed 44 = .ok (.iload_n 2, 1) := by decide +kernel
theorem dX10_owed_45 : decode cX10_owed 45 = .ok (.invokevirtual 141, 3) := by decide +kernel
theorem dX10_owed_48 : decode cX10_owed 48 = .ok (.aload_n 0, 1) := by decide +kernel
theorem dX10_owed_49 : decode cX10_owed 49 = .ok (.iload_n 1, 1) := by decide +kernel
theorem dX10_owed_50 : decode cX10_owed 50 = .ok (.iload_n 2, 1) := by decide +kernel
theorem dX10_owed_51 : decode cX10_owed 51 = .ok (.invokevirtual 145, 3) := by decide +kernel
theorem dX10_owed_54 : decode cX10_owed 54 = .ok (.ineg, 1) := by decide +kernel
theorem dX10_owed_55 : decode cX10_owed 55 = .ok (.istore_n 3, 1) := by decide +kernel
theorem dX10_owed_56 : decode cX10_owed 56 = .ok (.aload_n 0, 1) := by decide +kernel
theorem dX10_owed_57 : decode cX10_owed 57 = .ok (.getfield 47, 3) := by decide +kernel
theorem dX10_owed_60 : decode cX10_owed 60 = .ok (.iload_n 1, 1) := by decide +kernel
theorem dX10_owed_61 : decode cX10_owed 61 = .ok (.iaload, 1) := by decide +kernel
theorem dX10_owed_62 : decode cX10_owed 62 = .ok (.istore 4, 2) := by decide +kernel
theorem dX10_owed_64 : decode cX10_owed 64 = .ok (.iload 4, 2) := by decide +kernel
theorem dX10_owed_66 : decode cX10_owed 66 = .ok (.iload_n 2, 1) := by decide +kernel
theorem dX10_owed_67 : decode cX10_owed 67 = .ok (.if_icmp .gt 19, 3) := by decide +kernel
theorem dX10_owed_70 : decode cX10_owed 70 = .ok (.iload_n 3, 1) := by decide +kernel
theorem dX10_owed_71 : decode cX10_owed 71 = .ok (.aload_n 0, 1) := by decide +kernel
theorem dX10_owed_72 : decode cX10_owed 72 = .ok (.getfield 80, 3) := by decide +kernel
theorem dX10_owed_75 : decode cX10_owed 75 = .ok (.iload 4, 2) := by decide +kernel
theorem dX10_owed_77 : decode cX10_owed 77 = .ok (.iaload, 1) := by decide +kernel
theorem dX10_owed_78 : decode cX10_owed 78 = .ok (.iadd, 1) := by decide +kernel
theorem dX10_owed_79 : decode cX10_owed 79 = .ok (.istore_n 3, 1) := by decide +kernel
theorem dX10_owed_80 : decode cX10_owed 80 = .ok (.iinc 4 1, 3) := by decide +kernel
theorem dX10_owed_83 : decode cX10_owed 83 = .ok (.goto (-19), 3) := by decide +kernel
theorem dX10_owed_86 : decode cX10_owed 86 = .ok (.iload_n 3, 1) := by decide +kernel
theorem dX10_owed_87 : decode cX10_owed 87 = .ok (.ireturn, 1) := by decide +kernel
theorem dX10_count_0 : decode cX10_count 0 = .ok (.iconst 0, 1) := by decide +kernel
theorem dX10_count_1 : decode cX10_count 1 = .ok (.istore_n 2, 1) := by decide +kernel
theorem dX10_count_2 : decode cX10_count 2 = .ok (.iload_n 1, 1) := by decide +kernel
theorem dX10_count_3 : decode cX10_count 3 = .ok (.tableswitch 125 0 5 #[37, 42, 47, 52, 57, 92], 37) := by decide +kernel
theorem dX10_count_40 : decode cX10_count 40 = .ok (.aload_n 0, 1) := by decide +kernel
theorem dX10_count_41 : decode cX10_count 41 = .ok (.getfield 83, 3) := by decide +kernel
theorem dX10_count_44 : decode cX10_count 44 = .ok (.ireturn, 1) := by decide +kernel
theorem dX10_count_45 : decode cX10_count 45 = .ok (.aload_n 0, 1) := by decide +kernel
theorem dX10_count_46 : decode cX10_count 46 = .ok (.getfield 117, 3) := by decide +kernel
theorem dX10_count_49 : decode cX10_count 49 = .ok (.ireturn, 1) := by decide +kernel
theorem dX10_count_50 : decode cX10_count 50 = .ok (.aload_n 0, 1) := by decide +kernel
theorem dX10_count_51 : decode cX10_count 51 = .ok (.getfield 132, 3) := by decide +kernel
theorem dX10_count_54 : decode cX10_count 54 = .ok (.ireturn, 1) := by decide +kernel
theorem dX10_count_55 : decode cX10_count 55 = .ok (.aload_n 0, 1) := by decide +kernel
theorem dX10_count_56 : decode cX10_count 56 = .ok (.getfield 107, 3) := by decide +kernel
theorem dX10_count_59 : decode cX10_count 59 = .ok (.ireturn, 1) := by decide +kernel
theorem dX10_count_60 : decode cX10_count 60 = .ok (.iconst 0, 1) := by decide +kernel
theorem dX10_count_61 : decode cX10_count 61 = .ok (.istore_n 3, 1) := by decide +kernel
theorem dX10_count_62 : decode cX10_count 62 = .ok (.iload_n 3, 1) := by decide +kernel
theorem dX10_count_63 : decode cX10_count 63 = .ok (.aload_n 0, 1) := by decide +kernel
theorem dX10_count_64 : decode cX10_count 64 = .ok (.getfield 83, 3) := by decide +kernel
theorem dX10_count_67 : decode cX10_count 67 = .ok (.if_icmp .ge 26, 3) := by decide +kernel
theorem dX10_count_70 : decode cX10_count 70 = .ok (.iload_n 2, 1) := by decide +kernel
theorem dX10_count_71 : decode cX10_count 71 = .ok (.aload_n 0, 1) := by decide +kernel
theorem dX10_count_72 : decode cX10_count 72 = .ok (.getfield 47, 3) := by decide +kernel
theorem dX10_count_75 : decode cX10_count 75 = .ok (.iload_n 3, 1) := by decide +kernel
theorem dX10_count_76 : decode cX10_count 76 = .ok (.iaload, 1) := by decide +kernel
theorem dX10_count_77 : decode cX10_count 77 = .ok (.ifCond .ge 7, 3) := by decide +kernel
theorem dX10_count_80 : decode cX10_count 80 = .ok (.iconst 0, 1) := by decide +kernel
theorem dX10_count_81 : decode cX10_count 81 = .ok (.goto 4, 3) := by decide +kernel
theorem dX10_count_84 : decode cX10_count 84 = .ok (.iconst 1, 1) := by decide +kernel
theorem dX10_count_85 : decode cX10_count 85 = .ok (.iadd, 1) := by decide +kernel
theorem dX10_count_86 : decode cX10_count 86 = .ok (.istore_n 2, 1) := by decide +kernel
theorem dX10_count_87 : decode cX10_count 87 = .ok (.iinc 3 1, 3) := by decide +kernel
theorem dX10_count_90 : decode cX10_count 90 = .ok (.goto (-28), 3) := by decide +kernel
theorem dX10_count_93 : decode cX10_count 93 = .ok (.iload_n 2, 1) := by decide +kernel
theorem dX10_count_94 : decode cX10_count 94 = .ok (.ireturn, 1) := by decide +kernel
theorem dX10_count_95 : decode cX10_count 95 = .ok (.iconst 0, 1) := by decide +kernel
theorem dX10_count_96 : decode cX10_count 96 = .ok (.istore_n 3, 1) := by decide +kernel
theorem dX10_count_97 : decode cX10_count 97 = .ok (.iload_n 3, 1) := by decide +kernel
theorem dX10_count_98 : decode cX10_count 98 = .ok (.bipush 31, 2) := by decide +kernel
theorem dX10_count_100 : decode cX10_count 100 = .ok (.if_icmp .ge 26, 3) := by decide +kernel
theorem dX10_count_103 : decode cX10_count 103 = .ok (.iload_n 2, 1) := by decide +kernel
theorem dX10_count_104 : decode cX10_count 104 = .ok (.aload_n 0, 1) := by decide +kernel
theorem dX10_count_105 : decode cX10_count 105 = .ok (.getfield 28, 3) := by decide +kernel
theorem dX10_count_108 : decode cX10_count 108 = .ok (.iload_n 3, 1) := by decide +kernel
theorem dX10_count_109 : decode cX10_count 109 = .ok (.baload, 1) := by decide +kernel
theorem dX10_count_110 : decode cX10_count 110 = .ok (.ifCond .eq 7, 3) := by decide +kernel
theorem dX10_count_113 : decode cX10_count 113 = .ok (.iconst 1, 1) := by decide +kernel
theorem dX10_count_114 : decode cX10_count 114 = .ok (.goto 4, 3) := by decide +kernel
theorem dX10_count_117 : decode cX10_count 117 = .ok (.iconst 0, 1) := by decide +kernel
theorem dX10_count_118 : decode cX10_count 118 = .ok (.iadd, 1) := by decide +kernel
theorem dX10_count_119 : decode cX10_count 119 = .ok (.istore_n 2, 1) := by decide +kernel
theorem dX10_count_120 : decode cX10_count 120 = .ok (.iinc 3 1, 3) := by decide +kernel
theorem dX10_count_123 : decode cX10_count 123 = .ok (.goto (-26), 3) := by decide +kernel
theorem dX10_count_126 : decode cX10_count 126 = .ok (.iload_n 2, 1) := by decide +kernel
theorem dX10_count_127 : decode cX10_count 127 = .ok (.ireturn, 1) := by decide +kernel
theorem dX10_count_128 : decode cX10_count 128 = .ok (.iconst (-1), 1) := by decide +kernel
theorem dX10_count_129 : decode cX10_count 129 = .ok (.ireturn, 1) := by decide +kernel
theorem dX10_trace_0 : decode cX10_trace 0 = .ok (.aload_n 0, 1) := by decide +kernel
theorem dX10_trace_1 : decode cX10_trace 1 = .ok (.getfield 95, 3) := by decide +kernel
theorem dX10_trace_4 : decode cX10_trace 4 = .ok (.lreturn, 1) := by decide +kernel
end
section
section ZD
variable {p : Program} {l : Launch} {e : Env} {R : Room} {s : State} {m : MethodId} {args : Array Value} {below : List Frame} {meth : Method} {c : Code} {H : Heap} {locs : List Loc} {cells slots : Nat} {Q : State → Prop}
variable {cc : ByteArray} {pc : Nat} {ls : Array Slot} {rest : List Value} {D : va_G} {A : Nat → Prop} {cT : Nat → ClassId} {G G0 : zG} {sz : Nat} {post : Option Value → zG → Prop}
theorem z_aret (hx : p.tables.exec = Jvm.exec) (hb : c.code = cc) {n : String} (hr : meth.sig.returnType = some (.object n)) (hlocks : meth.locks = false) (hZ : zW D (zA G0 sz) s.heap G H locs) {v : Nat} (hdg : decode cc pc = .ok (.areturn, 1)) (h : post (some (.ref v)) G) : W p l e R s m args below meth c H locs cells slots (MQ below (zQ D G0 sz post) args s cells slots (zA G0 sz)) (F0 m pc ls [.ref v]) :=
  W.aret hx hb hr (Or.inl ⟨n, rfl⟩) (Or.inr ⟨v, rfl⟩) (z_end hZ h) hZ.2.2.2.2 hdg hlocks
theorem z_aretN (hx : p.tables.exec = Jvm.exec) (hb : c.code = cc) {n : String} (hr : meth.sig.returnType = some (.object n)) (hlocks : meth.locks = false) (hZ : zW D (zA G0 sz) s.heap G H locs) (hdg : decode cc pc = .ok (.areturn, 1)) (h : post (some .null) G) : W p l e R s m args below meth c H locs cells slots (MQ below (zQ D G0 sz post) args s cells slots (zA G0 sz)) (F0 m pc ls [.null]) :=
  W.aret hx hb hr (Or.inl ⟨n, rfl⟩) (Or.inl rfl) (z_end hZ h) hZ.2.2.2.2 hdg hlocks
theorem z_aretQ (hx : p.tables.exec = Jvm.exec) (hb : c.code = cc) {n : String} (hr : meth.sig.returnType = some (.object n)) (hlocks : meth.locks = false) (hZ : zW D (zA G0 sz) s.heap G H locs) {v : Option Nat} (hdg : decode cc pc = .ok (.areturn, 1)) (h : post (some (va_rf v)) G) : W p l e R s m args below meth c H locs cells slots (MQ below (zQ D G0 sz post) args s cells slots (zA G0 sz)) (F0 m pc ls [va_rf v]) :=
  W.aret hx hb hr (Or.inl ⟨n, rfl⟩) (va_rf_or v) (z_end hZ h) hZ.2.2.2.2 hdg hlocks
end ZD
theorem z_01 {P : Prop} {_ : Decidable P} : (if P then (1 : Int32) else 0) = 0 ∨ (if P then (1 : Int32) else 0) = 1 := by
  by_cases h : P
  · rw [if_pos h]; exact Or.inr rfl
  · rw [if_neg h]; exact Or.inl rfl
theorem i_lt (a b : Int32) : a < b ↔ a.toInt < b.toInt := Int32.lt_iff_toInt_lt
theorem i_le (a b : Int32) : a ≤ b ↔ a.toInt ≤ b.toInt := Int32.le_iff_toInt_le
theorem z_wl {x lo hi : Int32} (h : x < lo) : (some (Value.int 0)) = some (.int (if lo ≤ x ∧ x ≤ hi then 1 else 0)) := by
  rw [if_neg]
  rintro ⟨h1, h2⟩
  rw [i_lt] at h; rw [i_le] at h1; omega
theorem z_wr {x lo hi : Int32} (h : hi < x) : (some (Value.int 0)) = some (.int (if lo ≤ x ∧ x ≤ hi then 1 else 0)) := by
  rw [if_neg]
  rintro ⟨h1, h2⟩
  rw [i_lt] at h; rw [i_le] at h2; omega
theorem z_w1 {x lo hi : Int32} (h : ¬ x < lo) (h2 : ¬ hi < x) : (some (Value.int 1)) = some (.int (if lo ≤ x ∧ x ≤ hi then 1 else 0)) := by
  rw [if_pos]
  rw [i_lt] at h h2
  rw [i_le, i_le]
  omega
def zfd (x : Int32) : Int32 := if ¬ 0 ≤ (x ^^^ 4) ∧ ¬ x / 4 * 4 = x then x / 4 - 1 else x / 4
theorem nI_sub1 {n : Nat} (h : 0 < n) : nI n - 1 = nI (n - 1) := by
  obtain ⟨k, rfl⟩ : ∃ k, n = k + 1 := ⟨n - 1, by omega⟩
  exact nI_pred k
/-- a number within: which one -/
theorem z_wn {x : Int32} {n : Nat} (h : 0 ≤ x ∧ x ≤ nI n) (hn : n < 2 ^ 31) : ∃ j, j ≤ n ∧ x = nI j := by
  rw [i_le, i_le] at h
  rw [nI_toInt hn] at h
  have h0 : (0 : Int32).toInt = 0 := by decide
  rw [h0] at h
  refine ⟨x.toInt.toNat, by omega, ?_⟩
  apply Int32.toInt_inj.mp
  rw [nI_toInt (by omega)]
  omega
theorem z_wi {n j : Nat} (hj : j ≤ n) (hn : n < 2 ^ 31) : 0 ≤ nI j ∧ nI j ≤ nI n := ⟨nI_pos' (by omega), nI_le hj hn⟩
theorem z_nlt {x : Int32} (h : x ≤ 0) : ¬ 0 < x := fun q => by rw [i_lt] at q; rw [i_le] at h; omega
theorem z_lt {x : Int32} (h : ¬ x ≤ 0) : 0 < x := by rw [i_lt]; rw [i_le] at h; omega
theorem z_upn {G : zG} {a b : Nat} {x : Option va_E} (h : b ≠ a) (hn : va_up G a x b = none) : G b = none := by rw [va_up_ne _ _ h] at hn; exact hn
theorem z_up5 {G : zG} {a t q : Nat} {x y z w v : Option va_E} : va_up (va_up (va_up (va_up (va_up G a x) t y) q z) t w) a v = va_up (va_up (va_up G q z) t w) a v := by
  funext j
  by_cases h1 : j = a
  · simp [va_up, h1]
  · by_cases h2 : j = t
    · simp [va_up, h1, h2]
    · by_cases h3 : j = q
      · simp [va_up, h1, h2, h3]
      · simp [va_up, h1, h2, h3]
theorem z_startF {l : Launch} {D : va_G} {cT : Nat → ClassId} {y : MethodName} {ws ws' : List Cond} {rm : Room} {av : List Value} {G : zG} {sz : Nat} {post : Option Value → zG → Prop} {cc : ByteArray} {maxL : Nat} {ret : Option FieldType} (hy : plainFor y = true) (hw : ws = Cond.code y cc maxL ret :: ws') (hn : (lg_sl av).length ≤ maxL)
    (body : ∀ (p : Program) (e : Env) (s : State) (m : MethodId) (below : List Frame) (meth : Method) (c : Code) (ls : Array Slot), zI p cc maxL ret ws y D cT (zA G sz) s m av.toArray meth c → zW D (zA G sz) s.heap G s.heap [] → lv_has ls maxL (lv_args 0 av) →
      W p l e rm s m av.toArray below meth c s.heap [] 0 0 (MQ below (zQ D G sz post) av.toArray s rm.cells rm.slots (zA G sz)) (F0 m 0 ls [])) : zM l D cT y ws rm av G sz post := by
  refine MetFree.of_bodySF (code := cc) (maxLocals := maxL) (ret := ret) hy ?_ ?_
  · intro args s m h hn
    obtain ⟨meth, c, h1, h2, h3, h4, h5, h6, -, -⟩ := Cond.code_spec hn (atoms_spec (ws := ws) h _ (by rw [hw]; exact List.mem_cons_self))
    exact ⟨meth, c, h1, h2, h3, h4, h5, h6⟩
  · intro p e s m args below meth c s₁ B hml hv _
    have hh0 : s₁.heap = s.heap := by rw [B.state]; rfl
    have B' := B
    obtain ⟨rfl, hsz, hP, hK, hE⟩ := hv
    have hl := lv_entry av (n := maxL) hn
    have K : W p l e rm s m av.toArray below meth c s.heap [] 0 0 (MQ below (zQ D G sz post) av.toArray s rm.cells rm.slots (zA G sz)) (entryFrame m av.toArray maxL) := by
      rw [lg_entry_eq]
      exact body p e s m below meth c _ ⟨B.exec, B.bytes, B.returns, hml, atoms_spec (ws := ws) B.pre, findClass_of_methodNamed B.named, B.notSynchronized, (name_of_methodNamed B.named B.method).1, hK, fun q h => Or.inr (by rw [← hsz]; exact h), hE⟩ ⟨hP, fun a e h => Or.inl (by rw [h]; exact fun q => by cases q), va_S.rf⟩ hl
    obtain ⟨t, a1, o, b1, b2, b3⟩ := K s₁ hh0 (Stand.of_body B')
    exact ⟨t, o, a1, b1, b2, ⟨b3.1, b3.2⟩⟩
theorem z_wi1 {n j : Nat} (hj : j < n) (hn : n < 2 ^ 31) : 0 ≤ nI j ∧ nI j ≤ nI n - 1 := by
  rw [nI_sub1 (by omega)]
  exact z_wi (by omega) (by omega)
end
section
set_option maxHeartbeats 4000000 in
set_option maxRecDepth 100000 in
theorem c_X9_within (l : Launch) (D : va_G) (cT : Nat → ClassId) (G : zG) (sz : Nat) (x lo hi : Int32)  : zM l D cT yX9_within wsX9_within (zR 0 0 0) [.int x, .int lo, .int hi] G sz (fun r G' => G' = G ∧ r = some (.int (if lo ≤ x ∧ x ≤ hi then 1 else 0))) := by
  refine z_start (cc := cX9_within) (maxL := 3) (ret := (some .boolean)) (by decide) rfl (Nat.le_of_ble_eq_true rfl) ?_
  intro p e s m below meth c ls hI hZ hl
  obtain ⟨hx, hb, hr, hml, hts, hown, hlocks, hname, hK, hA, hE⟩ := hI
  have hl : lv_has ls 3 [(0, .int x), (1, .int lo), (2, .int hi)] := hl
  have hown : s.vm.findClass RX9 = some m.cls := hown
  refine lv_iload_n hx hb dX9_within_0 rfl (lv_at hl 0 rfl) ?_
  refine lv_iload_n hx hb dX9_within_1 rfl (lv_at hl 1 rfl) ?_
  refine lv_icmp_lt (tgt := 14) hx hb dX9_within_2 (by decide) (fun c2 => ?_) (fun c2 => ?_)
  · refine lv_iconst (v := 0) hx hb dX9_within_14 (by decide) ?_
    exact z_zret hx hb hr hlocks hZ (Or.inl rfl) dX9_within_15 (⟨rfl, z_wl c2⟩)
  · refine lv_iload_n hx hb dX9_within_5 rfl (lv_at hl 0 rfl) ?_
    refine lv_iload_n hx hb dX9_within_6 rfl (lv_at hl 2 rfl) ?_
    refine lv_icmp_gt (tgt := 14) hx hb dX9_within_7 (by decide) (fun c7 => ?_) (fun c7 => ?_)
    · refine lv_iconst (v := 0) hx hb dX9_within_14 (by decide) ?_
      exact z_zret hx hb hr hlocks hZ (Or.inl rfl) dX9_within_15 (⟨rfl, z_wr c7⟩)
    · refine lv_iconst (v := 1) hx hb dX9_within_10 (by decide) ?_
      refine lv_goto (tgt := 15) hx hb dX9_within_11 (by decide) ?_
      exact z_zret hx hb hr hlocks hZ (Or.inr rfl) dX9_within_15 (⟨rfl, z_w1 c2 c7⟩)

set_option maxHeartbeats 4000000 in
set_option maxRecDepth 100000 in
theorem c_J9_floorDiv (l : Launch) (D : va_G) (cT : Nat → ClassId) (G : zG) (sz : Nat) (x : Int32)  : zM l D cT yJ9_floorDiv_7cf53 wsJ9_floorDiv_7cf53 (zR 0 0 0) [.int x, .int 4] G sz (fun r G' => G' = G ∧ r = some (.int (zfd x))) := by
  refine z_startF (cc := cJ9_floorDiv_7cf53) (maxL := 3) (ret := (some .int)) (by decide +kernel) rfl (Nat.le_of_ble_eq_true rfl) ?_
  intro p e s m below meth c ls hI hZ hl
  obtain ⟨hx, hb, hr, hml, hts, hown, hlocks, hname, hK, hA, hE⟩ := hI
  have hl : lv_has ls 3 [(0, .int x), (1, .int 4)] := hl
  have hown : s.vm.findClass RJ9 = some m.cls := hown
  refine lv_iload_n hx hb dJ9_floorDiv_7cf53_0 rfl (lv_at hl 0 rfl) ?_
  refine lv_iload_n hx hb dJ9_floorDiv_7cf53_1 rfl (lv_at hl 1 rfl) ?_
  refine lv_idiv hx hb dJ9_floorDiv_7cf53_2 (by decide) ?_
  refine lv_istore_n (lv' := [(2, .int (x / 4)), (0, .int x), (1, .int 4)]) hx hb dJ9_floorDiv_7cf53_3 rfl hl (by decide) rfl (fun ls hl => ?_)
  refine lv_iload_n hx hb dJ9_floorDiv_7cf53_4 rfl (lv_at hl 1 rfl) ?_
  refine lv_iload_n hx hb dJ9_floorDiv_7cf53_5 rfl (lv_at hl 2 rfl) ?_
  refine lv_ixor hx hb dJ9_floorDiv_7cf53_6 ?_
  refine lv_if_ge (tgt := 21) hx hb dJ9_floorDiv_7cf53_7 (by decide) (fun c7 => ?_) (fun c7 => ?_)
  · refine lv_iload_n hx hb dJ9_floorDiv_7cf53_21 rfl (lv_at hl 0 rfl) ?_
    exact z_iret hx hb hr hlocks hZ dJ9_floorDiv_7cf53_22 (⟨rfl, by rw [zfd, if_neg (fun h => h.1 c7)]⟩)
  · refine lv_iload_n hx hb dJ9_floorDiv_7cf53_10 rfl (lv_at hl 0 rfl) ?_
    refine lv_iload_n hx hb dJ9_floorDiv_7cf53_11 rfl (lv_at hl 2 rfl) ?_
    refine lv_imul hx hb dJ9_floorDiv_7cf53_12 ?_
    refine lv_iload_n hx hb dJ9_floorDiv_7cf53_13 rfl (lv_at hl 1 rfl) ?_
    refine lv_icmp_eq (tgt := 21) hx hb dJ9_floorDiv_7cf53_14 (by decide) (fun c14 => ?_) (fun c14 => ?_)
    · refine lv_iload_n hx hb dJ9_floorDiv_7cf53_21 rfl (lv_at hl 0 rfl) ?_
      exact z_iret hx hb hr hlocks hZ dJ9_floorDiv_7cf53_22 (⟨rfl, by rw [zfd, if_neg (fun h => h.2 c14)]⟩)
    · refine lv_iload_n hx hb dJ9_floorDiv_7cf53_17 rfl (lv_at hl 0 rfl) ?_
      refine lv_iconst (v := 1) hx hb dJ9_floorDiv_7cf53_18 (by decide) ?_
      refine lv_isub hx hb dJ9_floorDiv_7cf53_19 ?_
      exact z_iret hx hb hr hlocks hZ dJ9_floorDiv_7cf53_20 (⟨rfl, by rw [zfd, if_pos ⟨c7, c14⟩]⟩)

set_option maxHeartbeats 4000000 in
set_option maxRecDepth 100000 in
theorem c_X8_worth_X8 (l : Launch) (D : va_G) (cT : Nat → ClassId) (G : zG) (sz : Nat) (a : Nat) (rm : Int32) (ha : G a = some (.inr (8, [.int rm]))) : zM l D cT yX8_worth wsX8_worth (zR 0 0 0) [.ref a] G sz (fun r G' => G' = G ∧ r = some (.int (10 * rm))) := by
  refine z_start (cc := cX8_worth) (maxL := 1) (ret := (some .int)) (by decide) rfl (Nat.le_of_ble_eq_true rfl) ?_
  intro p e s m below meth c ls hI hZ hl
  obtain ⟨hx, hb, hr, hml, hts, hown, hlocks, hname, hK, hA, hE⟩ := hI
  have hl : lv_has ls 1 [(0, .ref a)] := hl
  have hown : s.vm.findClass RX8 = some m.cls := hown
  have in_X8 : ∀ w ∈ u_ws RX8 TX8 1, w ∈ wsX8_worth := by decide +kernel
  have fl_7 := hts (.fieldLink RX8 7 "FairRents$Plain" "rooms" "I") (by decide +kernel)
  refine lv_bipush (v := 10) hx hb dX8_worth_0 (by decide) ?_
  refine lv_aload_n hx hb dX8_worth_2 rfl (lv_at hl 0 rfl) ?_
  refine z_get (ci := 8) (fs := [.int rm]) (C := RX8) (T := TX8) (N := 1) hx hb hts in_X8 hown hK hZ ha rfl 0 (by decide) fl_7 (fun _ h9 => h9) rfl dX8_worth_3 ?_
  refine lv_imul hx hb dX8_worth_6 ?_
  exact z_iret hx hb hr hlocks hZ dX8_worth_7 (⟨rfl, rfl⟩)

set_option maxHeartbeats 4000000 in
set_option maxRecDepth 100000 in
theorem c_X8_marks_X8 (l : Launch) (D : va_G) (cT : Nat → ClassId) (G : zG) (sz : Nat) (a : Nat) (rm : Int32) (ha : G a = some (.inr (8, [.int rm]))) : zM l D cT yX8_marks wsX8_marks (zR 0 0 0) [.ref a] G sz (fun r G' => G' = G ∧ r = some (.int 1)) := by
  refine z_start (cc := cX8_marks) (maxL := 1) (ret := (some .int)) (by decide) rfl (Nat.le_of_ble_eq_true rfl) ?_
  intro p e s m below meth c ls hI hZ hl
  obtain ⟨hx, hb, hr, hml, hts, hown, hlocks, hname, hK, hA, hE⟩ := hI
  have hl : lv_has ls 1 [(0, .ref a)] := hl
  have hown : s.vm.findClass RX8 = some m.cls := hown
  refine lv_iconst (v := 1) hx hb dX8_marks_0 (by decide) ?_
  exact z_iret hx hb hr hlocks hZ dX8_marks_1 (⟨rfl, rfl⟩)

set_option maxHeartbeats 4000000 in
set_option maxRecDepth 100000 in
theorem c_X8_worth_X1 (l : Launch) (D : va_G) (cT : Nat → ClassId) (G : zG) (sz : Nat) (a : Nat) (rm fl : Int32) (ha : G a = some (.inr (1, [.int rm, .int fl]))) : zM l D cT yX8_worth wsX8_worth (zR 0 0 0) [.ref a] G sz (fun r G' => G' = G ∧ r = some (.int (10 * rm))) := by
  refine z_start (cc := cX8_worth) (maxL := 1) (ret := (some .int)) (by decide) rfl (Nat.le_of_ble_eq_true rfl) ?_
  intro p e s m below meth c ls hI hZ hl
  obtain ⟨hx, hb, hr, hml, hts, hown, hlocks, hname, hK, hA, hE⟩ := hI
  have hl : lv_has ls 1 [(0, .ref a)] := hl
  have hown : s.vm.findClass RX8 = some m.cls := hown
  have in_X1 : ∀ w ∈ u_ws RX1 TX1 2, w ∈ wsX8_worth := by decide +kernel
  have fl_7 := hts (.fieldLink RX8 7 "FairRents$Plain" "rooms" "I") (by decide +kernel)
  refine lv_bipush (v := 10) hx hb dX8_worth_0 (by decide) ?_
  refine lv_aload_n hx hb dX8_worth_2 rfl (lv_at hl 0 rfl) ?_
  refine z_get (ci := 1) (fs := [.int rm, .int fl]) (C := RX1) (T := TX1) (N := 2) hx hb hts in_X1 hown hK hZ ha rfl 0 (by decide) fl_7 (fun _ h9 => h9) rfl dX8_worth_3 ?_
  refine lv_imul hx hb dX8_worth_6 ?_
  exact z_iret hx hb hr hlocks hZ dX8_worth_7 (⟨rfl, rfl⟩)

set_option maxHeartbeats 4000000 in
set_option maxRecDepth 100000 in
theorem c_X8_marks_X1 (l : Launch) (D : va_G) (cT : Nat → ClassId) (G : zG) (sz : Nat) (a : Nat) (rm fl : Int32) (ha : G a = some (.inr (1, [.int rm, .int fl]))) : zM l D cT yX8_marks wsX8_marks (zR 0 0 0) [.ref a] G sz (fun r G' => G' = G ∧ r = some (.int 1)) := by
  refine z_start (cc := cX8_marks) (maxL := 1) (ret := (some .int)) (by decide) rfl (Nat.le_of_ble_eq_true rfl) ?_
  intro p e s m below meth c ls hI hZ hl
  obtain ⟨hx, hb, hr, hml, hts, hown, hlocks, hname, hK, hA, hE⟩ := hI
  have hl : lv_has ls 1 [(0, .ref a)] := hl
  have hown : s.vm.findClass RX8 = some m.cls := hown
  refine lv_iconst (v := 1) hx hb dX8_marks_0 (by decide) ?_
  exact z_iret hx hb hr hlocks hZ dX8_marks_1 (⟨rfl, rfl⟩)

set_option maxHeartbeats 4000000 in
set_option maxRecDepth 100000 in
theorem c_X8_worth_X7 (l : Launch) (D : va_G) (cT : Nat → ClassId) (G : zG) (sz : Nat) (a : Nat) (rm fl : Int32) (ha : G a = some (.inr (7, [.int fl, .int rm]))) : zM l D cT yX8_worth wsX8_worth (zR 0 0 0) [.ref a] G sz (fun r G' => G' = G ∧ r = some (.int (10 * rm))) := by
  refine z_start (cc := cX8_worth) (maxL := 1) (ret := (some .int)) (by decide) rfl (Nat.le_of_ble_eq_true rfl) ?_
  intro p e s m below meth c ls hI hZ hl
  obtain ⟨hx, hb, hr, hml, hts, hown, hlocks, hname, hK, hA, hE⟩ := hI
  have hl : lv_has ls 1 [(0, .ref a)] := hl
  have hown : s.vm.findClass RX8 = some m.cls := hown
  have in_X7 : ∀ w ∈ u_ws RX7 TX7 2, w ∈ wsX8_worth := by decide +kernel
  have fl_7 := hts (.fieldLink RX8 7 "FairRents$Plain" "rooms" "I") (by decide +kernel)
  refine lv_bipush (v := 10) hx hb dX8_worth_0 (by decide) ?_
  refine lv_aload_n hx hb dX8_worth_2 rfl (lv_at hl 0 rfl) ?_
  refine z_get (ci := 7) (fs := [.int fl, .int rm]) (C := RX7) (T := TX7) (N := 2) hx hb hts in_X7 hown hK hZ ha rfl 1 (by decide) fl_7 (fun _ h9 => h9) rfl dX8_worth_3 ?_
  refine lv_imul hx hb dX8_worth_6 ?_
  exact z_iret hx hb hr hlocks hZ dX8_worth_7 (⟨rfl, rfl⟩)

set_option maxHeartbeats 4000000 in
set_option maxRecDepth 100000 in
theorem c_X8_marks_X7 (l : Launch) (D : va_G) (cT : Nat → ClassId) (G : zG) (sz : Nat) (a : Nat) (rm fl : Int32) (ha : G a = some (.inr (7, [.int fl, .int rm]))) : zM l D cT yX8_marks wsX8_marks (zR 0 0 0) [.ref a] G sz (fun r G' => G' = G ∧ r = some (.int 1)) := by
  refine z_start (cc := cX8_marks) (maxL := 1) (ret := (some .int)) (by decide) rfl (Nat.le_of_ble_eq_true rfl) ?_
  intro p e s m below meth c ls hI hZ hl
  obtain ⟨hx, hb, hr, hml, hts, hown, hlocks, hname, hK, hA, hE⟩ := hI
  have hl : lv_has ls 1 [(0, .ref a)] := hl
  have hown : s.vm.findClass RX8 = some m.cls := hown
  refine lv_iconst (v := 1) hx hb dX8_marks_0 (by decide) ?_
  exact z_iret hx hb hr hlocks hZ dX8_marks_1 (⟨rfl, rfl⟩)

set_option maxHeartbeats 4000000 in
set_option maxRecDepth 100000 in
theorem c_X1_worth_X1 (l : Launch) (D : va_G) (cT : Nat → ClassId) (G : zG) (sz : Nat) (a : Nat) (rm fl : Int32) (ha : G a = some (.inr (1, [.int rm, .int fl]))) : zM l D cT yX1_worth wsX1_worth (zR 1 0 0) [.ref a] G sz (fun r G' => G' = G ∧ r = some (.int (10 * rm - 2 * fl))) := by
  refine z_start (cc := cX1_worth) (maxL := 1) (ret := (some .int)) (by decide) rfl (Nat.le_of_ble_eq_true rfl) ?_
  intro p e s m below meth c ls hI hZ hl
  obtain ⟨hx, hb, hr, hml, hts, hown, hlocks, hname, hK, hA, hE⟩ := hI
  have hl : lv_has ls 1 [(0, .ref a)] := hl
  have hown : s.vm.findClass RX1 = some m.cls := hown
  have in_X1 : ∀ w ∈ u_ws RX1 TX1 2, w ∈ wsX1_worth := by decide +kernel
  have fl_7 := hts (.fieldLink RX1 7 "FairRents$Flat" "floor" "I") (by decide +kernel)
  refine lv_aload_n hx hb dX1_worth_0 rfl (lv_at hl 0 rfl) ?_
  refine z_call (va_runSU (hK.1 1 _ rfl).2 (As := []) (rest := []) ⟨hx, hb, hml, hown, hts⟩ (c_X8_worth_X1 l D cT _ _ a rm fl ha) (va_cwSU 0 hts gX1_worth_X8_worth_s13 rfl rfl rfl (by decide +kernel) ⟨(Nat.le_of_ble_eq_true rfl), (Nat.le_of_ble_eq_true rfl)⟩) (z_preV hK hE hZ hA (ci := 1) rfl ha) rfl rfl hl.1 rfl (lv_room (Nat.le_of_ble_eq_true rfl)) dX1_worth_1 ⟨(Nat.le_of_ble_eq_true rfl), (Nat.le_of_ble_eq_true rfl)⟩) hZ hA (fun r G1 H locs hq hZ => ?_)
  obtain ⟨hg, rfl⟩ := hq
  replace hg := hg.symm
  subst hg
  refine W.eq (g2 := F0 m 4 ls [.int (10 * rm)]) rfl ?_
  refine lv_iconst (v := 2) hx hb dX1_worth_4 (by decide) ?_
  refine lv_aload_n hx hb dX1_worth_5 rfl (lv_at hl 0 rfl) ?_
  refine z_get (ci := 1) (fs := [.int rm, .int fl]) (C := RX1) (T := TX1) (N := 2) hx hb hts in_X1 hown hK hZ ha rfl 1 (by decide) fl_7 (fun _ h9 => h9) rfl dX1_worth_6 ?_
  refine lv_imul hx hb dX1_worth_9 ?_
  refine lv_isub hx hb dX1_worth_10 ?_
  exact z_iret hx hb hr hlocks hZ dX1_worth_11 (⟨rfl, rfl⟩)

set_option maxHeartbeats 4000000 in
set_option maxRecDepth 100000 in
theorem c_X1_marks_X1 (l : Launch) (D : va_G) (cT : Nat → ClassId) (G : zG) (sz : Nat) (a : Nat) (rm fl : Int32) (ha : G a = some (.inr (1, [.int rm, .int fl]))) : zM l D cT yX1_marks wsX1_marks (zR 1 0 0) [.ref a] G sz (fun r G' => G' = G ∧ r = some (.int (1 + 10))) := by
  refine z_start (cc := cX1_marks) (maxL := 1) (ret := (some .int)) (by decide) rfl (Nat.le_of_ble_eq_true rfl) ?_
  intro p e s m below meth c ls hI hZ hl
  obtain ⟨hx, hb, hr, hml, hts, hown, hlocks, hname, hK, hA, hE⟩ := hI
  have hl : lv_has ls 1 [(0, .ref a)] := hl
  have hown : s.vm.findClass RX1 = some m.cls := hown
  refine lv_aload_n hx hb dX1_marks_0 rfl (lv_at hl 0 rfl) ?_
  refine z_call (va_runSU (hK.1 1 _ rfl).2 (As := []) (rest := []) ⟨hx, hb, hml, hown, hts⟩ (c_X8_marks_X1 l D cT _ _ a rm fl ha) (va_cwSU 0 hts gX1_marks_X8_marks_s17 rfl rfl rfl (by decide +kernel) ⟨(Nat.le_of_ble_eq_true rfl), (Nat.le_of_ble_eq_true rfl)⟩) (z_preV hK hE hZ hA (ci := 1) rfl ha) rfl rfl hl.1 rfl (lv_room (Nat.le_of_ble_eq_true rfl)) dX1_marks_1 ⟨(Nat.le_of_ble_eq_true rfl), (Nat.le_of_ble_eq_true rfl)⟩) hZ hA (fun r G1 H locs hq hZ => ?_)
  obtain ⟨hg, rfl⟩ := hq
  replace hg := hg.symm
  subst hg
  refine W.eq (g2 := F0 m 4 ls [.int 1]) rfl ?_
  refine lv_bipush (v := 10) hx hb dX1_marks_4 (by decide) ?_
  refine lv_iadd hx hb dX1_marks_6 ?_
  exact z_iret hx hb hr hlocks hZ dX1_marks_7 (⟨rfl, rfl⟩)

set_option maxHeartbeats 4000000 in
set_option maxRecDepth 100000 in
theorem c_X1_worth_X7 (l : Launch) (D : va_G) (cT : Nat → ClassId) (G : zG) (sz : Nat) (a : Nat) (rm fl : Int32) (ha : G a = some (.inr (7, [.int fl, .int rm]))) : zM l D cT yX1_worth wsX1_worth (zR 1 0 0) [.ref a] G sz (fun r G' => G' = G ∧ r = some (.int (10 * rm - 2 * fl))) := by
  refine z_start (cc := cX1_worth) (maxL := 1) (ret := (some .int)) (by decide) rfl (Nat.le_of_ble_eq_true rfl) ?_
  intro p e s m below meth c ls hI hZ hl
  obtain ⟨hx, hb, hr, hml, hts, hown, hlocks, hname, hK, hA, hE⟩ := hI
  have hl : lv_has ls 1 [(0, .ref a)] := hl
  have hown : s.vm.findClass RX1 = some m.cls := hown
  have in_X7 : ∀ w ∈ u_ws RX7 TX7 2, w ∈ wsX1_worth := by decide +kernel
  have fl_7 := hts (.fieldLink RX1 7 "FairRents$Flat" "floor" "I") (by decide +kernel)
  refine lv_aload_n hx hb dX1_worth_0 rfl (lv_at hl 0 rfl) ?_
  refine z_call (va_runSU (hK.1 7 _ rfl).2 (As := []) (rest := []) ⟨hx, hb, hml, hown, hts⟩ (c_X8_worth_X7 l D cT _ _ a rm fl ha) (va_cwSU 0 hts gX1_worth_X8_worth_s13 rfl rfl rfl (by decide +kernel) ⟨(Nat.le_of_ble_eq_true rfl), (Nat.le_of_ble_eq_true rfl)⟩) (z_preV hK hE hZ hA (ci := 7) rfl ha) rfl rfl hl.1 rfl (lv_room (Nat.le_of_ble_eq_true rfl)) dX1_worth_1 ⟨(Nat.le_of_ble_eq_true rfl), (Nat.le_of_ble_eq_true rfl)⟩) hZ hA (fun r G1 H locs hq hZ => ?_)
  obtain ⟨hg, rfl⟩ := hq
  replace hg := hg.symm
  subst hg
  refine W.eq (g2 := F0 m 4 ls [.int (10 * rm)]) rfl ?_
  refine lv_iconst (v := 2) hx hb dX1_worth_4 (by decide) ?_
  refine lv_aload_n hx hb dX1_worth_5 rfl (lv_at hl 0 rfl) ?_
  refine z_get (ci := 7) (fs := [.int fl, .int rm]) (C := RX7) (T := TX7) (N := 2) hx hb hts in_X7 hown hK hZ ha rfl 0 (by decide) fl_7 (fun _ h9 => h9) rfl dX1_worth_6 ?_
  refine lv_imul hx hb dX1_worth_9 ?_
  refine lv_isub hx hb dX1_worth_10 ?_
  exact z_iret hx hb hr hlocks hZ dX1_worth_11 (⟨rfl, rfl⟩)

set_option maxHeartbeats 4000000 in
set_option maxRecDepth 100000 in
theorem c_X1_marks_X7 (l : Launch) (D : va_G) (cT : Nat → ClassId) (G : zG) (sz : Nat) (a : Nat) (rm fl : Int32) (ha : G a = some (.inr (7, [.int fl, .int rm]))) : zM l D cT yX1_marks wsX1_marks (zR 1 0 0) [.ref a] G sz (fun r G' => G' = G ∧ r = some (.int (1 + 10))) := by
  refine z_start (cc := cX1_marks) (maxL := 1) (ret := (some .int)) (by decide) rfl (Nat.le_of_ble_eq_true rfl) ?_
  intro p e s m below meth c ls hI hZ hl
  obtain ⟨hx, hb, hr, hml, hts, hown, hlocks, hname, hK, hA, hE⟩ := hI
  have hl : lv_has ls 1 [(0, .ref a)] := hl
  have hown : s.vm.findClass RX1 = some m.cls := hown
  refine lv_aload_n hx hb dX1_marks_0 rfl (lv_at hl 0 rfl) ?_
  refine z_call (va_runSU (hK.1 7 _ rfl).2 (As := []) (rest := []) ⟨hx, hb, hml, hown, hts⟩ (c_X8_marks_X7 l D cT _ _ a rm fl ha) (va_cwSU 0 hts gX1_marks_X8_marks_s17 rfl rfl rfl (by decide +kernel) ⟨(Nat.le_of_ble_eq_true rfl), (Nat.le_of_ble_eq_true rfl)⟩) (z_preV hK hE hZ hA (ci := 7) rfl ha) rfl rfl hl.1 rfl (lv_room (Nat.le_of_ble_eq_true rfl)) dX1_marks_1 ⟨(Nat.le_of_ble_eq_true rfl), (Nat.le_of_ble_eq_true rfl)⟩) hZ hA (fun r G1 H locs hq hZ => ?_)
  obtain ⟨hg, rfl⟩ := hq
  replace hg := hg.symm
  subst hg
  refine W.eq (g2 := F0 m 4 ls [.int 1]) rfl ?_
  refine lv_bipush (v := 10) hx hb dX1_marks_4 (by decide) ?_
  refine lv_iadd hx hb dX1_marks_6 ?_
  exact z_iret hx hb hr hlocks hZ dX1_marks_7 (⟨rfl, rfl⟩)

set_option maxHeartbeats 4000000 in
set_option maxRecDepth 100000 in
theorem c_X7_worth_X7 (l : Launch) (D : va_G) (cT : Nat → ClassId) (G : zG) (sz : Nat) (a : Nat) (rm fl : Int32) (ha : G a = some (.inr (7, [.int fl, .int rm]))) : zM l D cT yX7_worth wsX7_worth (zR 2 0 0) [.ref a] G sz (fun r G' => G' = G ∧ r = some (.int (10 * rm - 2 * fl - zfd (10 * rm - 2 * fl)))) := by
  refine z_start (cc := cX7_worth) (maxL := 2) (ret := (some .int)) (by decide) rfl (Nat.le_of_ble_eq_true rfl) ?_
  intro p e s m below meth c ls hI hZ hl
  obtain ⟨hx, hb, hr, hml, hts, hown, hlocks, hname, hK, hA, hE⟩ := hI
  have hl : lv_has ls 2 [(0, .ref a)] := hl
  have hown : s.vm.findClass RX7 = some m.cls := hown
  refine lv_aload_n hx hb dX7_worth_0 rfl (lv_at hl 0 rfl) ?_
  refine z_call (va_runSU (hK.1 7 _ rfl).2 (As := []) (rest := []) ⟨hx, hb, hml, hown, hts⟩ (c_X1_worth_X7 l D cT _ _ a rm fl ha) (va_cwSU 0 hts gX7_worth_X1_worth_s7 rfl rfl rfl (by decide +kernel) ⟨(Nat.le_of_ble_eq_true rfl), (Nat.le_of_ble_eq_true rfl)⟩) (z_preV hK hE hZ hA (ci := 7) rfl ha) rfl rfl hl.1 rfl (lv_room (Nat.le_of_ble_eq_true rfl)) dX7_worth_1 ⟨(Nat.le_of_ble_eq_true rfl), (Nat.le_of_ble_eq_true rfl)⟩) hZ hA (fun r G1 H locs hq hZ => ?_)
  obtain ⟨hg, rfl⟩ := hq
  replace hg := hg.symm
  subst hg
  refine W.eq (g2 := F0 m 4 ls [.int (10 * rm - 2 * fl)]) rfl ?_
  refine lv_istore_n (lv' := [(1, .int (10 * rm - 2 * fl)), (0, .ref a)]) hx hb dX7_worth_4 rfl hl (by decide) rfl (fun ls hl => ?_)
  refine lv_iload_n hx hb dX7_worth_5 rfl (lv_at hl 0 rfl) ?_
  refine lv_iload_n hx hb dX7_worth_6 rfl (lv_at hl 0 rfl) ?_
  refine lv_iconst (v := 4) hx hb dX7_worth_7 (by decide) ?_
  refine z_call (va_runS (As := [.int (10 * rm - 2 * fl), .int 4]) (rest := [.int (10 * rm - 2 * fl)]) ⟨hx, hb, hml, hown, hts⟩ (c_J9_floorDiv l D cT _ _ (10 * rm - 2 * fl)) (va_cwS 2 hts gX7_worth_J9_floorDiv_7cf53 rfl rfl rfl (by decide +kernel) ⟨(Nat.le_of_ble_eq_true rfl), (Nat.le_of_ble_eq_true rfl)⟩) (z_preS hK hE hZ hA) rfl rfl hl.1 rfl (lv_room (Nat.le_of_ble_eq_true rfl)) dX7_worth_8 ⟨(Nat.le_of_ble_eq_true rfl), (Nat.le_of_ble_eq_true rfl)⟩) hZ hA (fun r G8 H locs hq hZ => ?_)
  obtain ⟨hg, rfl⟩ := hq
  replace hg := hg.symm
  subst hg
  refine W.eq (g2 := F0 m 11 ls [.int (zfd (10 * rm - 2 * fl)), .int (10 * rm - 2 * fl)]) rfl ?_
  refine lv_isub hx hb dX7_worth_11 ?_
  exact z_iret hx hb hr hlocks hZ dX7_worth_12 (⟨rfl, rfl⟩)

set_option maxHeartbeats 4000000 in
set_option maxRecDepth 100000 in
theorem c_X7_marks_X7 (l : Launch) (D : va_G) (cT : Nat → ClassId) (G : zG) (sz : Nat) (a : Nat) (rm fl : Int32) (ha : G a = some (.inr (7, [.int fl, .int rm]))) : zM l D cT yX7_marks wsX7_marks (zR 2 0 0) [.ref a] G sz (fun r G' => G' = G ∧ r = some (.int (1 + 10 + 100))) := by
  refine z_start (cc := cX7_marks) (maxL := 1) (ret := (some .int)) (by decide) rfl (Nat.le_of_ble_eq_true rfl) ?_
  intro p e s m below meth c ls hI hZ hl
  obtain ⟨hx, hb, hr, hml, hts, hown, hlocks, hname, hK, hA, hE⟩ := hI
  have hl : lv_has ls 1 [(0, .ref a)] := hl
  have hown : s.vm.findClass RX7 = some m.cls := hown
  refine lv_aload_n hx hb dX7_marks_0 rfl (lv_at hl 0 rfl) ?_
  refine z_call (va_runSU (hK.1 7 _ rfl).2 (As := []) (rest := []) ⟨hx, hb, hml, hown, hts⟩ (c_X1_marks_X7 l D cT _ _ a rm fl ha) (va_cwSU 0 hts gX7_marks_X1_marks_s17 rfl rfl rfl (by decide +kernel) ⟨(Nat.le_of_ble_eq_true rfl), (Nat.le_of_ble_eq_true rfl)⟩) (z_preV hK hE hZ hA (ci := 7) rfl ha) rfl rfl hl.1 rfl (lv_room (Nat.le_of_ble_eq_true rfl)) dX7_marks_1 ⟨(Nat.le_of_ble_eq_true rfl), (Nat.le_of_ble_eq_true rfl)⟩) hZ hA (fun r G1 H locs hq hZ => ?_)
  obtain ⟨hg, rfl⟩ := hq
  replace hg := hg.symm
  subst hg
  refine W.eq (g2 := F0 m 4 ls [.int (1 + 10)]) rfl ?_
  refine lv_bipush (v := 100) hx hb dX7_marks_4 (by decide) ?_
  refine lv_iadd hx hb dX7_marks_6 ?_
  exact z_iret hx hb hr hlocks hZ dX7_marks_7 (⟨rfl, rfl⟩)

set_option maxHeartbeats 4000000 in
set_option maxRecDepth 100000 in
theorem c_X8_init_X8 (l : Launch) (D : va_G) (cT : Nat → ClassId) (G : zG) (sz : Nat) (a : Nat) (rm : Int32) (ha : G a = some (.inr (8, [.int 0]))) : zM l D cT yX8_init wsX8_init (zR 1 0 0) [.ref a, .int rm] G sz (fun r G' => G' = va_up G a (some (.inr (8, [.int rm]))) ∧ r = none) := by
  refine z_start (cc := cX8_init) (maxL := 2) (ret := none) (by decide) rfl (Nat.le_of_ble_eq_true rfl) ?_
  intro p e s m below meth c ls hI hZ hl
  obtain ⟨hx, hb, hr, hml, hts, hown, hlocks, hname, hK, hA, hE⟩ := hI
  have hl : lv_has ls 2 [(0, .ref a), (1, .int rm)] := hl
  have hown : s.vm.findClass RX8 = some m.cls := hown
  have in_X8 : ∀ w ∈ u_ws RX8 TX8 1, w ∈ wsX8_init := by decide +kernel
  have fl_7 := hts (.fieldLink RX8 7 "FairRents$Plain" "rooms" "I") (by decide +kernel)
  refine lv_aload_n hx hb dX8_init_0 rfl (lv_at hl 0 rfl) ?_
  refine W.objInit hx hb hown (hts (.methodLink RX8 1 objectInit) (by decide +kernel)) (hts (.instanceMethod objectInit) (by decide +kernel)) (hts _ (List.mem_of_getElem? (i := 3) rfl)) rfl (by rw [hml]; exact hl.1) rfl dX8_init_1 (Nat.le_of_ble_eq_true rfl) (Nat.le_of_ble_eq_true rfl) ?_
  refine W.eq (g2 := F0 m 4 ls []) rfl ?_
  refine lv_aload_n hx hb dX8_init_4 rfl (lv_at hl 0 rfl) ?_
  refine lv_iload_n hx hb dX8_init_5 rfl (lv_at hl 1 rfl) ?_
  refine z_putF (ci := 8) (fs := [.int 0]) (fs' := [.int rm]) (v := .int rm) (ty := .int) (C := RX8) (T := TX8) (N := 1) hx hb hts in_X8 tyX8 tyX8_ok nmX8 hown hK hZ ha rfl 0 (by decide) fl_7 (fun _ h9 => h9) rfl hname rfl (by decide +kernel) rfl rfl (Nat.le_of_ble_eq_true rfl) rfl dX8_init_6 (fun H locs hZ => ?_)
  exact z_vret hx hb hr hlocks hZ dX8_init_9 (⟨rfl, rfl⟩)

set_option maxHeartbeats 4000000 in
set_option maxRecDepth 100000 in
theorem c_X8_init_X1 (l : Launch) (D : va_G) (cT : Nat → ClassId) (G : zG) (sz : Nat) (a : Nat) (rm : Int32) (ha : G a = some (.inr (1, [.int 0, .int 0]))) : zM l D cT yX8_init wsX8_init (zR 1 0 0) [.ref a, .int rm] G sz (fun r G' => G' = va_up G a (some (.inr (1, [.int rm, .int 0]))) ∧ r = none) := by
  refine z_start (cc := cX8_init) (maxL := 2) (ret := none) (by decide) rfl (Nat.le_of_ble_eq_true rfl) ?_
  intro p e s m below meth c ls hI hZ hl
  obtain ⟨hx, hb, hr, hml, hts, hown, hlocks, hname, hK, hA, hE⟩ := hI
  have hl : lv_has ls 2 [(0, .ref a), (1, .int rm)] := hl
  have hown : s.vm.findClass RX8 = some m.cls := hown
  have in_X1 : ∀ w ∈ u_ws RX1 TX1 2, w ∈ wsX8_init := by decide +kernel
  have fl_7 := hts (.fieldLink RX8 7 "FairRents$Plain" "rooms" "I") (by decide +kernel)
  refine lv_aload_n hx hb dX8_init_0 rfl (lv_at hl 0 rfl) ?_
  refine W.objInit hx hb hown (hts (.methodLink RX8 1 objectInit) (by decide +kernel)) (hts (.instanceMethod objectInit) (by decide +kernel)) (hts _ (List.mem_of_getElem? (i := 3) rfl)) rfl (by rw [hml]; exact hl.1) rfl dX8_init_1 (Nat.le_of_ble_eq_true rfl) (Nat.le_of_ble_eq_true rfl) ?_
  refine W.eq (g2 := F0 m 4 ls []) rfl ?_
  refine lv_aload_n hx hb dX8_init_4 rfl (lv_at hl 0 rfl) ?_
  refine lv_iload_n hx hb dX8_init_5 rfl (lv_at hl 1 rfl) ?_
  refine z_putF (ci := 1) (fs := [.int 0, .int 0]) (fs' := [.int rm, .int 0]) (v := .int rm) (ty := .int) (C := RX1) (T := TX1) (N := 2) hx hb hts in_X1 tyX1 tyX1_ok nmX1 hown hK hZ ha rfl 0 (by decide) fl_7 (fun _ h9 => h9) rfl hname rfl (by decide +kernel) rfl rfl (Nat.le_of_ble_eq_true rfl) rfl dX8_init_6 (fun H locs hZ => ?_)
  exact z_vret hx hb hr hlocks hZ dX8_init_9 (⟨rfl, rfl⟩)

set_option maxHeartbeats 4000000 in
set_option maxRecDepth 100000 in
theorem c_X8_init_X7 (l : Launch) (D : va_G) (cT : Nat → ClassId) (G : zG) (sz : Nat) (a : Nat) (rm : Int32) (ha : G a = some (.inr (7, [.int 0, .int 0]))) : zM l D cT yX8_init wsX8_init (zR 1 0 0) [.ref a, .int rm] G sz (fun r G' => G' = va_up G a (some (.inr (7, [.int 0, .int rm]))) ∧ r = none) := by
  refine z_start (cc := cX8_init) (maxL := 2) (ret := none) (by decide) rfl (Nat.le_of_ble_eq_true rfl) ?_
  intro p e s m below meth c ls hI hZ hl
  obtain ⟨hx, hb, hr, hml, hts, hown, hlocks, hname, hK, hA, hE⟩ := hI
  have hl : lv_has ls 2 [(0, .ref a), (1, .int rm)] := hl
  have hown : s.vm.findClass RX8 = some m.cls := hown
  have in_X7 : ∀ w ∈ u_ws RX7 TX7 2, w ∈ wsX8_init := by decide +kernel
  have fl_7 := hts (.fieldLink RX8 7 "FairRents$Plain" "rooms" "I") (by decide +kernel)
  refine lv_aload_n hx hb dX8_init_0 rfl (lv_at hl 0 rfl) ?_
  refine W.objInit hx hb hown (hts (.methodLink RX8 1 objectInit) (by decide +kernel)) (hts (.instanceMethod objectInit) (by decide +kernel)) (hts _ (List.mem_of_getElem? (i := 3) rfl)) rfl (by rw [hml]; exact hl.1) rfl dX8_init_1 (Nat.le_of_ble_eq_true rfl) (Nat.le_of_ble_eq_true rfl) ?_
  refine W.eq (g2 := F0 m 4 ls []) rfl ?_
  refine lv_aload_n hx hb dX8_init_4 rfl (lv_at hl 0 rfl) ?_
  refine lv_iload_n hx hb dX8_init_5 rfl (lv_at hl 1 rfl) ?_
  refine z_putF (ci := 7) (fs := [.int 0, .int 0]) (fs' := [.int 0, .int rm]) (v := .int rm) (ty := .int) (C := RX7) (T := TX7) (N := 2) hx hb hts in_X7 tyX7 tyX7_ok nmX7 hown hK hZ ha rfl 1 (by decide) fl_7 (fun _ h9 => h9) rfl hname rfl (by decide +kernel) rfl rfl (Nat.le_of_ble_eq_true rfl) rfl dX8_init_6 (fun H locs hZ => ?_)
  exact z_vret hx hb hr hlocks hZ dX8_init_9 (⟨rfl, rfl⟩)

set_option maxHeartbeats 4000000 in
set_option maxRecDepth 100000 in
theorem c_X1_init_X1 (l : Launch) (D : va_G) (cT : Nat → ClassId) (G : zG) (sz : Nat) (a : Nat) (rm fl : Int32) (ha : G a = some (.inr (1, [.int 0, .int 0]))) : zM l D cT yX1_init wsX1_init (zR 2 0 0) [.ref a, .int rm, .int fl] G sz (fun r G' => G' = va_up G a (some (.inr (1, [.int rm, .int fl]))) ∧ r = none) := by
  refine z_start (cc := cX1_init) (maxL := 3) (ret := none) (by decide) rfl (Nat.le_of_ble_eq_true rfl) ?_
  intro p e s m below meth c ls hI hZ hl
  obtain ⟨hx, hb, hr, hml, hts, hown, hlocks, hname, hK, hA, hE⟩ := hI
  have hl : lv_has ls 3 [(0, .ref a), (1, .int rm), (2, .int fl)] := hl
  have hown : s.vm.findClass RX1 = some m.cls := hown
  have in_X1 : ∀ w ∈ u_ws RX1 TX1 2, w ∈ wsX1_init := by decide +kernel
  have fl_7 := hts (.fieldLink RX1 7 "FairRents$Flat" "floor" "I") (by decide +kernel)
  refine lv_aload_n hx hb dX1_init_0 rfl (lv_at hl 0 rfl) ?_
  refine lv_iload_n hx hb dX1_init_1 rfl (lv_at hl 1 rfl) ?_
  refine z_call (va_runI (As := [.int rm]) (rest := []) ⟨hx, hb, hml, hown, hts⟩ (c_X8_init_X1 l D cT _ _ a rm ha) (cwI 1 hts gX1_init_X8_init rfl rfl rfl (hts (.initialized RX8) (by decide +kernel)) (hts (.methodLink RX1 1 yX8_init) (by decide +kernel)) (hts (.instanceMethod yX8_init) (by decide +kernel)) rfl (by decide +kernel) ⟨(Nat.le_of_ble_eq_true rfl), (Nat.le_of_ble_eq_true rfl)⟩) (z_preS hK hE hZ hA) rfl rfl hl.1 rfl (lv_room (Nat.le_of_ble_eq_true rfl)) dX1_init_2 ⟨(Nat.le_of_ble_eq_true rfl), (Nat.le_of_ble_eq_true rfl)⟩) hZ hA (fun r G2 H locs hq hZ => ?_)
  obtain ⟨hg, rfl⟩ := hq
  replace hg := hg.symm
  subst hg
  refine W.eq (g2 := F0 m 5 ls []) rfl ?_
  refine lv_aload_n hx hb dX1_init_5 rfl (lv_at hl 0 rfl) ?_
  refine lv_iload_n hx hb dX1_init_6 rfl (lv_at hl 2 rfl) ?_
  refine z_putF (ci := 1) (fs := [.int rm, .int 0]) (fs' := [.int rm, .int fl]) (v := .int fl) (ty := .int) (C := RX1) (T := TX1) (N := 2) hx hb hts in_X1 tyX1 tyX1_ok nmX1 hown hK hZ (va_up_self _ _ _) rfl 1 (by decide) fl_7 (fun _ h9 => h9) rfl hname rfl (by decide +kernel) rfl rfl (Nat.le_of_ble_eq_true rfl) rfl dX1_init_7 (fun H locs hZ => ?_)
  rw [bx_uu] at hZ
  exact z_vret hx hb hr hlocks hZ dX1_init_10 (⟨rfl, rfl⟩)

set_option maxHeartbeats 4000000 in
set_option maxRecDepth 100000 in
theorem c_X1_init_X7 (l : Launch) (D : va_G) (cT : Nat → ClassId) (G : zG) (sz : Nat) (a : Nat) (rm fl : Int32) (ha : G a = some (.inr (7, [.int 0, .int 0]))) : zM l D cT yX1_init wsX1_init (zR 2 0 0) [.ref a, .int rm, .int fl] G sz (fun r G' => G' = va_up G a (some (.inr (7, [.int fl, .int rm]))) ∧ r = none) := by
  refine z_start (cc := cX1_init) (maxL := 3) (ret := none) (by decide) rfl (Nat.le_of_ble_eq_true rfl) ?_
  intro p e s m below meth c ls hI hZ hl
  obtain ⟨hx, hb, hr, hml, hts, hown, hlocks, hname, hK, hA, hE⟩ := hI
  have hl : lv_has ls 3 [(0, .ref a), (1, .int rm), (2, .int fl)] := hl
  have hown : s.vm.findClass RX1 = some m.cls := hown
  have in_X7 : ∀ w ∈ u_ws RX7 TX7 2, w ∈ wsX1_init := by decide +kernel
  have fl_7 := hts (.fieldLink RX1 7 "FairRents$Flat" "floor" "I") (by decide +kernel)
  refine lv_aload_n hx hb dX1_init_0 rfl (lv_at hl 0 rfl) ?_
  refine lv_iload_n hx hb dX1_init_1 rfl (lv_at hl 1 rfl) ?_
  refine z_call (va_runI (As := [.int rm]) (rest := []) ⟨hx, hb, hml, hown, hts⟩ (c_X8_init_X7 l D cT _ _ a rm ha) (cwI 1 hts gX1_init_X8_init rfl rfl rfl (hts (.initialized RX8) (by decide +kernel)) (hts (.methodLink RX1 1 yX8_init) (by decide +kernel)) (hts (.instanceMethod yX8_init) (by decide +kernel)) rfl (by decide +kernel) ⟨(Nat.le_of_ble_eq_true rfl), (Nat.le_of_ble_eq_true rfl)⟩) (z_preS hK hE hZ hA) rfl rfl hl.1 rfl (lv_room (Nat.le_of_ble_eq_true rfl)) dX1_init_2 ⟨(Nat.le_of_ble_eq_true rfl), (Nat.le_of_ble_eq_true rfl)⟩) hZ hA (fun r G2 H locs hq hZ => ?_)
  obtain ⟨hg, rfl⟩ := hq
  replace hg := hg.symm
  subst hg
  refine W.eq (g2 := F0 m 5 ls []) rfl ?_
  refine lv_aload_n hx hb dX1_init_5 rfl (lv_at hl 0 rfl) ?_
  refine lv_iload_n hx hb dX1_init_6 rfl (lv_at hl 2 rfl) ?_
  refine z_putF (ci := 7) (fs := [.int 0, .int rm]) (fs' := [.int fl, .int rm]) (v := .int fl) (ty := .int) (C := RX7) (T := TX7) (N := 2) hx hb hts in_X7 tyX7 tyX7_ok nmX7 hown hK hZ (va_up_self _ _ _) rfl 0 (by decide) fl_7 (fun _ h9 => h9) rfl hname rfl (by decide +kernel) rfl rfl (Nat.le_of_ble_eq_true rfl) rfl dX1_init_7 (fun H locs hZ => ?_)
  rw [bx_uu] at hZ
  exact z_vret hx hb hr hlocks hZ dX1_init_10 (⟨rfl, rfl⟩)

set_option maxHeartbeats 4000000 in
set_option maxRecDepth 100000 in
theorem c_X7_init (l : Launch) (D : va_G) (cT : Nat → ClassId) (G : zG) (sz : Nat) (a : Nat) (rm fl : Int32) (ha : G a = some (.inr (7, [.int 0, .int 0]))) : zM l D cT yX7_init wsX7_init (zR 3 0 0) [.ref a, .int rm, .int fl] G sz (fun r G' => G' = va_up G a (some (.inr (7, [.int fl, .int rm]))) ∧ r = none) := by
  refine z_start (cc := cX7_init) (maxL := 3) (ret := none) (by decide) rfl (Nat.le_of_ble_eq_true rfl) ?_
  intro p e s m below meth c ls hI hZ hl
  obtain ⟨hx, hb, hr, hml, hts, hown, hlocks, hname, hK, hA, hE⟩ := hI
  have hl : lv_has ls 3 [(0, .ref a), (1, .int rm), (2, .int fl)] := hl
  have hown : s.vm.findClass RX7 = some m.cls := hown
  refine lv_aload_n hx hb dX7_init_0 rfl (lv_at hl 0 rfl) ?_
  refine lv_iload_n hx hb dX7_init_1 rfl (lv_at hl 1 rfl) ?_
  refine lv_iload_n hx hb dX7_init_2 rfl (lv_at hl 2 rfl) ?_
  refine z_call (va_runI (As := [.int rm, .int fl]) (rest := []) ⟨hx, hb, hml, hown, hts⟩ (c_X1_init_X7 l D cT _ _ a rm fl ha) (cwI 2 hts gX7_init_X1_init rfl rfl rfl (hts (.initialized RX1) (by decide +kernel)) (hts (.methodLink RX7 1 yX1_init) (by decide +kernel)) (hts (.instanceMethod yX1_init) (by decide +kernel)) rfl (by decide +kernel) ⟨(Nat.le_of_ble_eq_true rfl), (Nat.le_of_ble_eq_true rfl)⟩) (z_preS hK hE hZ hA) rfl rfl hl.1 rfl (lv_room (Nat.le_of_ble_eq_true rfl)) dX7_init_3 ⟨(Nat.le_of_ble_eq_true rfl), (Nat.le_of_ble_eq_true rfl)⟩) hZ hA (fun r G3 H locs hq hZ => ?_)
  obtain ⟨hg, rfl⟩ := hq
  replace hg := hg.symm
  subst hg
  refine W.eq (g2 := F0 m 6 ls []) rfl ?_
  exact z_vret hx hb hr hlocks hZ dX7_init_6 (⟨rfl, rfl⟩)

set_option maxHeartbeats 4000000 in
set_option maxRecDepth 100000 in
theorem c_X6_countsFor (l : Launch) (D : va_G) (cT : Nat → ClassId) (G : zG) (sz : Nat) (a : Nat) (ar pt rt dy sk : Int32) (x y : Int32) (ha : G a = some (.inr (6, [.int ar, .int pt, .int rt, .int dy, .int sk]))) : zM l D cT yX6_countsFor wsX6_countsFor (zR 0 0 0) [.ref a, .int x, .int y] G sz (fun r G' => G' = G ∧ r = some (.int (if sk = 0 ∧ ar = x ∧ ¬ y < dy then 1 else 0))) := by
  refine z_start (cc := cX6_countsFor) (maxL := 3) (ret := (some .boolean)) (by decide) rfl (Nat.le_of_ble_eq_true rfl) ?_
  intro p e s m below meth c ls hI hZ hl
  obtain ⟨hx, hb, hr, hml, hts, hown, hlocks, hname, hK, hA, hE⟩ := hI
  have hl : lv_has ls 3 [(0, .ref a), (1, .int x), (2, .int y)] := hl
  have hown : s.vm.findClass RX6 = some m.cls := hown
  have in_X6 : ∀ w ∈ u_ws RX6 TX6 5, w ∈ wsX6_countsFor := by decide +kernel
  have fl_7 := hts (.fieldLink RX6 7 "FairRents$Like" "area" "I") (by decide +kernel)
  have fl_19 := hts (.fieldLink RX6 19 "FairRents$Like" "day" "I") (by decide +kernel)
  have fl_22 := hts (.fieldLink RX6 22 "FairRents$Like" "struck" "Z") (by decide +kernel)
  refine lv_aload_n hx hb dX6_countsFor_0 rfl (lv_at hl 0 rfl) ?_
  refine z_get (ci := 6) (fs := [.int ar, .int pt, .int rt, .int dy, .int sk]) (C := RX6) (T := TX6) (N := 5) hx hb hts in_X6 hown hK hZ ha rfl 4 (by decide) fl_22 (fun _ h9 => h9) rfl dX6_countsFor_1 ?_
  refine lv_if_ne (tgt := 27) hx hb dX6_countsFor_4 (by decide) (fun c4 => ?_) (fun c4 => ?_)
  · refine lv_iconst (v := 0) hx hb dX6_countsFor_27 (by decide) ?_
    exact z_zret hx hb hr hlocks hZ (Or.inl rfl) dX6_countsFor_28 (⟨rfl, by rw [if_neg (fun h => c4 h.1)]⟩)
  · refine lv_aload_n hx hb dX6_countsFor_7 rfl (lv_at hl 0 rfl) ?_
    refine z_get (ci := 6) (fs := [.int ar, .int pt, .int rt, .int dy, .int sk]) (C := RX6) (T := TX6) (N := 5) hx hb hts in_X6 hown hK hZ ha rfl 0 (by decide) fl_7 (fun _ h9 => h9) rfl dX6_countsFor_8 ?_
    refine lv_iload_n hx hb dX6_countsFor_11 rfl (lv_at hl 1 rfl) ?_
    refine lv_icmp_ne (tgt := 27) hx hb dX6_countsFor_12 (by decide) (fun c12 => ?_) (fun c12 => ?_)
    · refine lv_iconst (v := 0) hx hb dX6_countsFor_27 (by decide) ?_
      exact z_zret hx hb hr hlocks hZ (Or.inl rfl) dX6_countsFor_28 (⟨rfl, by rw [if_neg (fun h => c12 h.2.1)]⟩)
    · refine lv_aload_n hx hb dX6_countsFor_15 rfl (lv_at hl 0 rfl) ?_
      refine z_get (ci := 6) (fs := [.int ar, .int pt, .int rt, .int dy, .int sk]) (C := RX6) (T := TX6) (N := 5) hx hb hts in_X6 hown hK hZ ha rfl 3 (by decide) fl_19 (fun _ h9 => h9) rfl dX6_countsFor_16 ?_
      refine lv_iload_n hx hb dX6_countsFor_19 rfl (lv_at hl 2 rfl) ?_
      refine lv_icmp_gt (tgt := 27) hx hb dX6_countsFor_20 (by decide) (fun c20 => ?_) (fun c20 => ?_)
      · refine lv_iconst (v := 0) hx hb dX6_countsFor_27 (by decide) ?_
        exact z_zret hx hb hr hlocks hZ (Or.inl rfl) dX6_countsFor_28 (⟨rfl, by rw [if_neg (fun h => h.2.2 c20)]⟩)
      · refine lv_iconst (v := 1) hx hb dX6_countsFor_23 (by decide) ?_
        refine lv_goto (tgt := 28) hx hb dX6_countsFor_24 (by decide) ?_
        exact z_zret hx hb hr hlocks hZ (Or.inr rfl) dX6_countsFor_28 (⟨rfl, by rw [if_pos ⟨c4, c12, c20⟩]⟩)

set_option maxHeartbeats 4000000 in
set_option maxRecDepth 100000 in
theorem c_X6_putRight (l : Launch) (D : va_G) (cT : Nat → ClassId) (G : zG) (sz : Nat) (a : Nat) (ar pt rt dy sk : Int32) (x y : Int32) (ha : G a = some (.inr (6, [.int ar, .int pt, .int rt, .int dy, .int sk]))) : zM l D cT yX6_putRight wsX6_putRight (zR 0 0 0) [.ref a, .int x, .int y] G sz (fun r G' => G' = G ∧ r = some (.int (rt + y * (x - pt)))) := by
  refine z_start (cc := cX6_putRight) (maxL := 3) (ret := (some .int)) (by decide) rfl (Nat.le_of_ble_eq_true rfl) ?_
  intro p e s m below meth c ls hI hZ hl
  obtain ⟨hx, hb, hr, hml, hts, hown, hlocks, hname, hK, hA, hE⟩ := hI
  have hl : lv_has ls 3 [(0, .ref a), (1, .int x), (2, .int y)] := hl
  have hown : s.vm.findClass RX6 = some m.cls := hown
  have in_X6 : ∀ w ∈ u_ws RX6 TX6 5, w ∈ wsX6_putRight := by decide +kernel
  have fl_13 := hts (.fieldLink RX6 13 "FairRents$Like" "points" "I") (by decide +kernel)
  have fl_16 := hts (.fieldLink RX6 16 "FairRents$Like" "rent" "I") (by decide +kernel)
  refine lv_aload_n hx hb dX6_putRight_0 rfl (lv_at hl 0 rfl) ?_
  refine z_get (ci := 6) (fs := [.int ar, .int pt, .int rt, .int dy, .int sk]) (C := RX6) (T := TX6) (N := 5) hx hb hts in_X6 hown hK hZ ha rfl 2 (by decide) fl_16 (fun _ h9 => h9) rfl dX6_putRight_1 ?_
  refine lv_iload_n hx hb dX6_putRight_4 rfl (lv_at hl 2 rfl) ?_
  refine lv_iload_n hx hb dX6_putRight_5 rfl (lv_at hl 1 rfl) ?_
  refine lv_aload_n hx hb dX6_putRight_6 rfl (lv_at hl 0 rfl) ?_
  refine z_get (ci := 6) (fs := [.int ar, .int pt, .int rt, .int dy, .int sk]) (C := RX6) (T := TX6) (N := 5) hx hb hts in_X6 hown hK hZ ha rfl 1 (by decide) fl_13 (fun _ h9 => h9) rfl dX6_putRight_7 ?_
  refine lv_isub hx hb dX6_putRight_10 ?_
  refine lv_imul hx hb dX6_putRight_11 ?_
  refine lv_iadd hx hb dX6_putRight_12 ?_
  exact z_iret hx hb hr hlocks hZ dX6_putRight_13 (⟨rfl, rfl⟩)

set_option maxHeartbeats 4000000 in
set_option maxRecDepth 100000 in
theorem c_X6_init (l : Launch) (D : va_G) (cT : Nat → ClassId) (G : zG) (sz : Nat) (a : Nat) (ar pt rt dy : Int32) (ha : G a = some (.inr (6, [.int 0, .int 0, .int 0, .int 0, .int 0]))) : zM l D cT yX6_init wsX6_init (zR 1 0 0) [.ref a, .int ar, .int pt, .int rt, .int dy] G sz (fun r G' => G' = va_up G a (some (.inr (6, [.int ar, .int pt, .int rt, .int dy, .int 0]))) ∧ r = none) := by
  refine z_start (cc := cX6_init) (maxL := 5) (ret := none) (by decide) rfl (Nat.le_of_ble_eq_true rfl) ?_
  intro p e s m below meth c ls hI hZ hl
  obtain ⟨hx, hb, hr, hml, hts, hown, hlocks, hname, hK, hA, hE⟩ := hI
  have hl : lv_has ls 5 [(0, .ref a), (1, .int ar), (2, .int pt), (3, .int rt), (4, .int dy)] := hl
  have hown : s.vm.findClass RX6 = some m.cls := hown
  have in_X6 : ∀ w ∈ u_ws RX6 TX6 5, w ∈ wsX6_init := by decide +kernel
  have fl_7 := hts (.fieldLink RX6 7 "FairRents$Like" "area" "I") (by decide +kernel)
  have fl_13 := hts (.fieldLink RX6 13 "FairRents$Like" "points" "I") (by decide +kernel)
  have fl_16 := hts (.fieldLink RX6 16 "FairRents$Like" "rent" "I") (by decide +kernel)
  have fl_19 := hts (.fieldLink RX6 19 "FairRents$Like" "day" "I") (by decide +kernel)
  refine lv_aload_n hx hb dX6_init_0 rfl (lv_at hl 0 rfl) ?_
  refine W.objInit hx hb hown (hts (.methodLink RX6 1 objectInit) (by decide +kernel)) (hts (.instanceMethod objectInit) (by decide +kernel)) (hts _ (List.mem_of_getElem? (i := 3) rfl)) rfl (by rw [hml]; exact hl.1) rfl dX6_init_1 (Nat.le_of_ble_eq_true rfl) (Nat.le_of_ble_eq_true rfl) ?_
  refine W.eq (g2 := F0 m 4 ls []) rfl ?_
  refine lv_aload_n hx hb dX6_init_4 rfl (lv_at hl 0 rfl) ?_
  refine lv_iload_n hx hb dX6_init_5 rfl (lv_at hl 1 rfl) ?_
  refine z_putF (ci := 6) (fs := [.int 0, .int 0, .int 0, .int 0, .int 0]) (fs' := [.int ar, .int 0, .int 0, .int 0, .int 0]) (v := .int ar) (ty := .int) (C := RX6) (T := TX6) (N := 5) hx hb hts in_X6 tyX6 tyX6_ok nmX6 hown hK hZ ha rfl 0 (by decide) fl_7 (fun _ h9 => h9) rfl hname rfl (by decide +kernel) rfl rfl (Nat.le_of_ble_eq_true rfl) rfl dX6_init_6 (fun H locs hZ => ?_)
  refine lv_aload_n hx hb dX6_init_9 rfl (lv_at hl 0 rfl) ?_
  refine lv_iload_n hx hb dX6_init_10 rfl (lv_at hl 2 rfl) ?_
  refine z_putF (ci := 6) (fs := [.int ar, .int 0, .int 0, .int 0, .int 0]) (fs' := [.int ar, .int pt, .int 0, .int 0, .int 0]) (v := .int pt) (ty := .int) (C := RX6) (T := TX6) (N := 5) hx hb hts in_X6 tyX6 tyX6_ok nmX6 hown hK hZ (va_up_self _ _ _) rfl 1 (by decide) fl_13 (fun _ h9 => h9) rfl hname rfl (by decide +kernel) rfl rfl (Nat.le_of_ble_eq_true rfl) rfl dX6_init_11 (fun H locs hZ => ?_)
  rw [bx_uu] at hZ
  refine lv_aload_n hx hb dX6_init_14 rfl (lv_at hl 0 rfl) ?_
  refine lv_iload_n hx hb dX6_init_15 rfl (lv_at hl 3 rfl) ?_
  refine z_putF (ci := 6) (fs := [.int ar, .int pt, .int 0, .int 0, .int 0]) (fs' := [.int ar, .int pt, .int rt, .int 0, .int 0]) (v := .int rt) (ty := .int) (C := RX6) (T := TX6) (N := 5) hx hb hts in_X6 tyX6 tyX6_ok nmX6 hown hK hZ (va_up_self _ _ _) rfl 2 (by decide) fl_16 (fun _ h9 => h9) rfl hname rfl (by decide +kernel) rfl rfl (Nat.le_of_ble_eq_true rfl) rfl dX6_init_16 (fun H locs hZ => ?_)
  rw [bx_uu] at hZ
  refine lv_aload_n hx hb dX6_init_19 rfl (lv_at hl 0 rfl) ?_
  refine lv_iload hx hb dX6_init_20 (lv_at hl 4 rfl) ?_
  refine z_putF (ci := 6) (fs := [.int ar, .int pt, .int rt, .int 0, .int 0]) (fs' := [.int ar, .int pt, .int rt, .int dy, .int 0]) (v := .int dy) (ty := .int) (C := RX6) (T := TX6) (N := 5) hx hb hts in_X6 tyX6 tyX6_ok nmX6 hown hK hZ (va_up_self _ _ _) rfl 3 (by decide) fl_19 (fun _ h9 => h9) rfl hname rfl (by decide +kernel) rfl rfl (Nat.le_of_ble_eq_true rfl) rfl dX6_init_22 (fun H locs hZ => ?_)
  rw [bx_uu] at hZ
  exact z_vret hx hb hr hlocks hZ dX6_init_25 (⟨rfl, rfl⟩)

set_option maxHeartbeats 4000000 in
set_option maxRecDepth 100000 in
theorem c_X4_init (l : Launch) (D : va_G) (cT : Nat → ClassId) (G : zG) (sz : Nat) (a b : Nat) (ha : G a = some (.inr (4, [.null]))) : zM l D cT yX4_init wsX4_init (zR 1 0 0) [.ref a, .ref b] G sz (fun r G' => G' = va_up G a (some (.inr (4, [.ref b]))) ∧ r = none) := by
  refine z_start (cc := cX4_init) (maxL := 2) (ret := none) (by decide) rfl (Nat.le_of_ble_eq_true rfl) ?_
  intro p e s m below meth c ls hI hZ hl
  obtain ⟨hx, hb, hr, hml, hts, hown, hlocks, hname, hK, hA, hE⟩ := hI
  have hl : lv_has ls 2 [(0, .ref a), (1, .ref b)] := hl
  have hown : s.vm.findClass RX4 = some m.cls := hown
  have in_X4 : ∀ w ∈ u_ws RX4 TX4 1, w ∈ wsX4_init := by decide +kernel
  have fl_9 := hts (.fieldLink RX4 9 "FairRents$Law" "numbers" "[I") (by decide +kernel)
  refine lv_aload_n hx hb dX4_init_0 rfl (lv_at hl 0 rfl) ?_
  refine W.objInit hx hb hown (hts (.methodLink RX4 3 objectInit) (by decide +kernel)) (hts (.instanceMethod objectInit) (by decide +kernel)) (hts _ (List.mem_of_getElem? (i := 3) rfl)) rfl (by rw [hml]; exact hl.1) rfl dX4_init_1 (Nat.le_of_ble_eq_true rfl) (Nat.le_of_ble_eq_true rfl) ?_
  refine W.eq (g2 := F0 m 4 ls []) rfl ?_
  refine lv_aload_n hx hb dX4_init_4 rfl (lv_at hl 0 rfl) ?_
  refine lv_aload_n hx hb dX4_init_5 rfl (lv_at hl 1 rfl) ?_
  refine z_putF (ci := 4) (fs := [.null]) (fs' := [.ref b]) (v := .ref b) (ty := .array .int) (C := RX4) (T := TX4) (N := 1) hx hb hts in_X4 tyX4 tyX4_ok nmX4 hown hK hZ ha rfl 0 (by decide) fl_9 (fun _ h9 => h9) rfl hname rfl (by decide +kernel) rfl rfl (Nat.le_of_ble_eq_true rfl) rfl dX4_init_6 (fun H locs hZ => ?_)
  exact z_vret hx hb hr hlocks hZ dX4_init_9 (⟨rfl, rfl⟩)

set_option maxHeartbeats 4000000 in
set_option maxRecDepth 100000 in
theorem c_X4_number (l : Launch) (D : va_G) (cT : Nat → ClassId) (G : zG) (sz : Nat) (a b : Nat) (f : Nat → Int32) (x : Int32) (j : Nat) (ha : G a = some (.inr (4, [.ref b]))) (hb8 : G b = some (.inl (cT 0, 8, .inl f))) (hxj : x = nI j) (hj : j < 8) : zM l D cT yX4_number wsX4_number (zR 1 0 0) [.ref a, .int x] G sz (fun r G' => G' = G ∧ r = some (.int (f j))) := by
  refine z_start (cc := cX4_number) (maxL := 2) (ret := (some .int)) (by decide) rfl (Nat.le_of_ble_eq_true rfl) ?_
  intro p e s m below meth c ls hI hZ hl
  obtain ⟨hx, hb, hr, hml, hts, hown, hlocks, hname, hK, hA, hE⟩ := hI
  have hl : lv_has ls 2 [(0, .ref a), (1, .int x)] := hl
  have hown : s.vm.findClass RX4 = some m.cls := hown
  have in_X4 : ∀ w ∈ u_ws RX4 TX4 1, w ∈ wsX4_number := by decide +kernel
  have fl_9 := hts (.fieldLink RX4 9 "FairRents$Law" "numbers" "[I") (by decide +kernel)
  refine lv_iload_n hx hb dX4_number_0 rfl (lv_at hl 1 rfl) ?_
  refine lv_iconst (v := 0) hx hb dX4_number_1 (by decide) ?_
  refine lv_aload_n hx hb dX4_number_2 rfl (lv_at hl 0 rfl) ?_
  refine z_get (ci := 4) (fs := [.ref b]) (C := RX4) (T := TX4) (N := 1) hx hb hts in_X4 hown hK hZ ha rfl 0 (by decide) fl_9 (fun _ h9 => h9) rfl dX4_number_3 ?_
  refine z_alen hx hb hK hZ 0 hb8 rfl dX4_number_6 ?_
  refine lv_iconst (v := 1) hx hb dX4_number_7 (by decide) ?_
  refine lv_isub hx hb dX4_number_8 ?_
  refine z_call (va_runSN (As := [.int x, .int 0, .int ((nI 8) - 1)]) (rest := []) ⟨hx, hb, hml, hown, hts⟩ (c_X9_within l D cT _ _ x 0 ((nI 8) - 1)) ⟨va_cnB 3 hts gX4_number_X9_within_n15 rfl rfl rfl hE.1.2.2.1 (hts (.initialized RX9) (by decide +kernel)) (by decide +kernel) ⟨(Nat.le_of_ble_eq_true rfl), (Nat.le_of_ble_eq_true rfl)⟩, hts (.static yX9_within) (by decide +kernel), trivial⟩ (z_preS hK hE hZ hA) rfl rfl hl.1 rfl (lv_room (Nat.le_of_ble_eq_true rfl)) dX4_number_9 ⟨(Nat.le_of_ble_eq_true rfl), (Nat.le_of_ble_eq_true rfl)⟩) hZ hA (fun r G9 H locs hq hZ => ?_)
  obtain ⟨hg, rfl⟩ := hq
  replace hg := hg.symm
  subst hg
  refine W.eq (g2 := F0 m 12 ls [.int (if 0 ≤ x ∧ x ≤ ((nI 8) - 1) then 1 else 0)]) rfl ?_
  refine zb_eq (tgt := 24) hx hb dX4_number_12 (by decide) (fun c12 => absurd c12 (fun h => h (by rw [hxj]; exact z_wi1 hj (by decide)))) (fun _ => ?_)
  refine lv_aload_n hx hb dX4_number_15 rfl (lv_at hl 0 rfl) ?_
  refine z_get (ci := 4) (fs := [.ref b]) (C := RX4) (T := TX4) (N := 1) hx hb hts in_X4 hown hK hZ ha rfl 0 (by decide) fl_9 (fun _ h9 => h9) rfl dX4_number_16 ?_
  refine lv_iload_n hx hb dX4_number_19 rfl (lv_at hl 1 rfl) ?_
  refine z_iald hx hb hK hZ hb8 j hxj hj (by decide) dX4_number_20 ?_
  refine lv_goto (tgt := 26) hx hb dX4_number_21 (by decide) ?_
  exact z_iret hx hb hr hlocks hZ dX4_number_26 (⟨rfl, rfl⟩)

set_option maxHeartbeats 4000000 in
set_option maxRecDepth 100000 in
theorem c_X2_fairRent (l : Launch) (D : va_G) (cT : Nat → ClassId) (G : zG) (sz : Nat) (a b : Nat) (ct md sc rp : Int32) (ha : G a = some (.inr (2, [.ref b, .int ct, .int md, .int sc, .int rp]))) : zM l D cT yX2_fairRent wsX2_fairRent (zR 1 0 0) [.ref a] G sz (fun r G' => G' = G ∧ r = some (.int (if 1 < md + sc + rp then md + sc + rp else 1))) := by
  refine z_start (cc := cX2_fairRent) (maxL := 1) (ret := (some .int)) (by decide) rfl (Nat.le_of_ble_eq_true rfl) ?_
  intro p e s m below meth c ls hI hZ hl
  obtain ⟨hx, hb, hr, hml, hts, hown, hlocks, hname, hK, hA, hE⟩ := hI
  have hl : lv_has ls 1 [(0, .ref a)] := hl
  have hown : s.vm.findClass RX2 = some m.cls := hown
  have in_X2 : ∀ w ∈ u_ws RX2 TX2 5, w ∈ wsX2_fairRent := by decide +kernel
  have fl_57 := hts (.fieldLink RX2 57 "FairRents$Heads" "middle" "I") (by decide +kernel)
  have fl_60 := hts (.fieldLink RX2 60 "FairRents$Heads" "scarcity" "I") (by decide +kernel)
  have fl_66 := hts (.fieldLink RX2 66 "FairRents$Heads" "repairs" "I") (by decide +kernel)
  refine lv_iconst (v := 1) hx hb dX2_fairRent_0 (by decide) ?_
  refine lv_aload_n hx hb dX2_fairRent_1 rfl (lv_at hl 0 rfl) ?_
  refine z_get (ci := 2) (fs := [.ref b, .int ct, .int md, .int sc, .int rp]) (C := RX2) (T := TX2) (N := 5) hx hb hts in_X2 hown hK hZ ha rfl 2 (by decide) fl_57 (fun _ h9 => h9) rfl dX2_fairRent_2 ?_
  refine lv_aload_n hx hb dX2_fairRent_5 rfl (lv_at hl 0 rfl) ?_
  refine z_get (ci := 2) (fs := [.ref b, .int ct, .int md, .int sc, .int rp]) (C := RX2) (T := TX2) (N := 5) hx hb hts in_X2 hown hK hZ ha rfl 3 (by decide) fl_60 (fun _ h9 => h9) rfl dX2_fairRent_6 ?_
  refine lv_iadd hx hb dX2_fairRent_9 ?_
  refine lv_aload_n hx hb dX2_fairRent_10 rfl (lv_at hl 0 rfl) ?_
  refine z_get (ci := 2) (fs := [.ref b, .int ct, .int md, .int sc, .int rp]) (C := RX2) (T := TX2) (N := 5) hx hb hts in_X2 hown hK hZ ha rfl 4 (by decide) fl_66 (fun _ h9 => h9) rfl dX2_fairRent_11 ?_
  refine lv_iadd hx hb dX2_fairRent_14 ?_
  refine va_mmax hx hb (by rw [hml]; exact hl.1.symm) hown (hts (.methodLink RX2 69 Lib.Math.max.name) (by decide +kernel)) (hts (.static Lib.Math.max.name) (by decide +kernel)) (hts (.initialized "java/lang/Math") (by decide +kernel)) (hts _ (List.mem_of_getElem? (i := 7) rfl)) (Nat.le_of_ble_eq_true rfl) (Nat.le_of_ble_eq_true rfl) (Nat.le_of_ble_eq_true rfl) (Nat.le_of_ble_eq_true rfl) dX2_fairRent_15 ?_
  exact z_iret hx hb hr hlocks hZ dX2_fairRent_18 (⟨rfl, rfl⟩)

set_option maxHeartbeats 4000000 in
set_option maxRecDepth 100000 in
theorem c_X2_init (l : Launch) (D : va_G) (cT : Nat → ClassId) (G : zG) (sz : Nat) (a : Nat) (ha : G a = some (.inr (2, [.null, .int 0, .int 0, .int 0, .int 0]))) : zM l D cT yX2_init wsX2_init (zR 1 1 12) [.ref a] G sz (fun r G' => (∃ q, q ≠ a ∧ G q = none ∧ G' = va_up (va_up G q (some (.inl (cT 0, 12, .inl (fun _ => 0))))) a (some (.inr (2, [.ref q, .int 0, .int 0, .int 0, .int 0])))) ∧ r = none) := by
  refine z_start (cc := cX2_init) (maxL := 1) (ret := none) (by decide) rfl (Nat.le_of_ble_eq_true rfl) ?_
  intro p e s m below meth c ls hI hZ hl
  obtain ⟨hx, hb, hr, hml, hts, hown, hlocks, hname, hK, hA, hE⟩ := hI
  have hl : lv_has ls 1 [(0, .ref a)] := hl
  have hown : s.vm.findClass RX2 = some m.cls := hown
  have in_X2 : ∀ w ∈ u_ws RX2 TX2 5, w ∈ wsX2_init := by decide +kernel
  have fl_9 := hts (.fieldLink RX2 9 "FairRents$Heads" "ordered" "[I") (by decide +kernel)
  refine lv_aload_n hx hb dX2_init_0 rfl (lv_at hl 0 rfl) ?_
  refine W.objInit hx hb hown (hts (.methodLink RX2 3 objectInit) (by decide +kernel)) (hts (.instanceMethod objectInit) (by decide +kernel)) (hts _ (List.mem_of_getElem? (i := 3) rfl)) rfl (by rw [hml]; exact hl.1) rfl dX2_init_1 (Nat.le_of_ble_eq_true rfl) (Nat.le_of_ble_eq_true rfl) ?_
  refine W.eq (g2 := F0 m 4 ls []) rfl ?_
  refine lv_aload_n hx hb dX2_init_4 rfl (lv_at hl 0 rfl) ?_
  refine lv_bipush (v := 12) hx hb dX2_init_5 (by decide) ?_
  refine z_newi hx hb (hts (.arrayClass .int) (by decide +kernel)) hK hZ hA 12 rfl (by decide) (Nat.le_of_ble_eq_true rfl) (Nat.le_of_ble_eq_true rfl) dX2_init_7 (fun q H hf_q hZ => ?_)
  have ne_a_q : a ≠ q := z_nef ha hf_q
  refine W.widen (k := 1) (n := 12) (by decide) (by decide) ?_
  refine z_putF (ci := 2) (fs := [.null, .int 0, .int 0, .int 0, .int 0]) (fs' := [.ref q, .int 0, .int 0, .int 0, .int 0]) (v := .ref q) (ty := .array .int) (C := RX2) (T := TX2) (N := 5) hx hb hts in_X2 tyX2 tyX2_ok nmX2 hown hK hZ ((va_up_ne _ _ ne_a_q).trans ha) rfl 0 (by decide) fl_9 (fun _ h9 => h9) rfl hname rfl (by decide +kernel) rfl rfl (Nat.le_of_ble_eq_true rfl) rfl dX2_init_9 (fun H locs hZ => ?_)
  exact z_vret hx hb hr hlocks hZ dX2_init_12 (⟨⟨q, ne_a_q.symm, hf_q, rfl⟩, rfl⟩)

set_option maxHeartbeats 4000000 in
set_option maxRecDepth 100000 in
theorem c_X5_init (l : Launch) (D : va_G) (cT : Nat → ClassId) (G : zG) (sz : Nat) (a : Nat) (ha : G a = some (.inr (5, [.null, .int 0, .int 0, .int 0, .int 0]))) : zM l D cT yX5_init wsX5_init (zR 1 1 301) [.ref a] G sz (fun r G' => (∃ q, q ≠ a ∧ G q = none ∧ G' = va_up (va_up G q (some (.inl (cT 0, 301, .inl (fun _ => 0))))) a (some (.inr (5, [.ref q, .int 0, .int 0, .int 0, .int 0])))) ∧ r = none) := by
  refine z_start (cc := cX5_init) (maxL := 1) (ret := none) (by decide) rfl (Nat.le_of_ble_eq_true rfl) ?_
  intro p e s m below meth c ls hI hZ hl
  obtain ⟨hx, hb, hr, hml, hts, hown, hlocks, hname, hK, hA, hE⟩ := hI
  have hl : lv_has ls 1 [(0, .ref a)] := hl
  have hown : s.vm.findClass RX5 = some m.cls := hown
  have in_X5 : ∀ w ∈ u_ws RX5 TX5 5, w ∈ wsX5_init := by decide +kernel
  have fl_9 := hts (.fieldLink RX5 9 "FairRents$Letting" "sums" "[I") (by decide +kernel)
  refine lv_aload_n hx hb dX5_init_0 rfl (lv_at hl 0 rfl) ?_
  refine W.objInit hx hb hown (hts (.methodLink RX5 3 objectInit) (by decide +kernel)) (hts (.instanceMethod objectInit) (by decide +kernel)) (hts _ (List.mem_of_getElem? (i := 3) rfl)) rfl (by rw [hml]; exact hl.1) rfl dX5_init_1 (Nat.le_of_ble_eq_true rfl) (Nat.le_of_ble_eq_true rfl) ?_
  refine W.eq (g2 := F0 m 4 ls []) rfl ?_
  refine lv_aload_n hx hb dX5_init_4 rfl (lv_at hl 0 rfl) ?_
  refine lv_sipush (v := 301) hx hb dX5_init_5 (by decide) ?_
  refine z_newi hx hb (hts (.arrayClass .int) (by decide +kernel)) hK hZ hA 301 rfl (by decide) (Nat.le_of_ble_eq_true rfl) (Nat.le_of_ble_eq_true rfl) dX5_init_8 (fun q H hf_q hZ => ?_)
  have ne_a_q : a ≠ q := z_nef ha hf_q
  refine W.widen (k := 1) (n := 301) (by decide) (by decide) ?_
  refine z_putF (ci := 5) (fs := [.null, .int 0, .int 0, .int 0, .int 0]) (fs' := [.ref q, .int 0, .int 0, .int 0, .int 0]) (v := .ref q) (ty := .array .int) (C := RX5) (T := TX5) (N := 5) hx hb hts in_X5 tyX5 tyX5_ok nmX5 hown hK hZ ((va_up_ne _ _ ne_a_q).trans ha) rfl 0 (by decide) fl_9 (fun _ h9 => h9) rfl hname rfl (by decide +kernel) rfl rfl (Nat.le_of_ble_eq_true rfl) rfl dX5_init_10 (fun H locs hZ => ?_)
  exact z_vret hx hb hr hlocks hZ dX5_init_13 (⟨⟨q, ne_a_q.symm, hf_q, rfl⟩, rfl⟩)

set_option maxHeartbeats 4000000 in
set_option maxRecDepth 100000 in
theorem c_X5_isLet (l : Launch) (D : va_G) (cT : Nat → ClassId) (G : zG) (sz : Nat) (a b : Nat) (nu fi rt pd : Int32) (ha : G a = some (.inr (5, [.ref b, .int nu, .int fi, .int rt, .int pd]))) : zM l D cT yX5_isLet wsX5_isLet (zR 0 0 0) [.ref a] G sz (fun r G' => G' = G ∧ r = some (.int (if 0 < nu then 1 else 0))) := by
  refine z_start (cc := cX5_isLet) (maxL := 1) (ret := (some .boolean)) (by decide) rfl (Nat.le_of_ble_eq_true rfl) ?_
  intro p e s m below meth c ls hI hZ hl
  obtain ⟨hx, hb, hr, hml, hts, hown, hlocks, hname, hK, hA, hE⟩ := hI
  have hl : lv_has ls 1 [(0, .ref a)] := hl
  have hown : s.vm.findClass RX5 = some m.cls := hown
  have in_X5 : ∀ w ∈ u_ws RX5 TX5 5, w ∈ wsX5_isLet := by decide +kernel
  have fl_15 := hts (.fieldLink RX5 15 "FairRents$Letting" "number" "I") (by decide +kernel)
  refine lv_aload_n hx hb dX5_isLet_0 rfl (lv_at hl 0 rfl) ?_
  refine z_get (ci := 5) (fs := [.ref b, .int nu, .int fi, .int rt, .int pd]) (C := RX5) (T := TX5) (N := 5) hx hb hts in_X5 hown hK hZ ha rfl 1 (by decide) fl_15 (fun _ h9 => h9) rfl dX5_isLet_1 ?_
  refine lv_if_le (tgt := 11) hx hb dX5_isLet_4 (by decide) (fun c4 => ?_) (fun c4 => ?_)
  · refine lv_iconst (v := 0) hx hb dX5_isLet_11 (by decide) ?_
    exact z_zret hx hb hr hlocks hZ (Or.inl rfl) dX5_isLet_12 (⟨rfl, by rw [if_neg (z_nlt c4)]⟩)
  · refine lv_iconst (v := 1) hx hb dX5_isLet_7 (by decide) ?_
    refine lv_goto (tgt := 12) hx hb dX5_isLet_8 (by decide) ?_
    exact z_zret hx hb hr hlocks hZ (Or.inr rfl) dX5_isLet_12 (⟨rfl, by rw [if_pos (z_lt c4)]⟩)

set_option maxHeartbeats 4000000 in
set_option maxRecDepth 100000 in
theorem c_X5_covers (l : Launch) (D : va_G) (cT : Nat → ClassId) (G : zG) (sz : Nat) (a b : Nat) (nu fi rt pd : Int32) (x : Int32) (ha : G a = some (.inr (5, [.ref b, .int nu, .int fi, .int rt, .int pd]))) : zM l D cT yX5_covers wsX5_covers (zR 1 0 0) [.ref a, .int x] G sz (fun r G' => G' = G ∧ r = some (.int (if 0 < nu ∧ ¬ x < fi then 1 else 0))) := by
  refine z_start (cc := cX5_covers) (maxL := 2) (ret := (some .boolean)) (by decide) rfl (Nat.le_of_ble_eq_true rfl) ?_
  intro p e s m below meth c ls hI hZ hl
  obtain ⟨hx, hb, hr, hml, hts, hown, hlocks, hname, hK, hA, hE⟩ := hI
  have hl : lv_has ls 2 [(0, .ref a), (1, .int x)] := hl
  have hown : s.vm.findClass RX5 = some m.cls := hown
  have in_X5 : ∀ w ∈ u_ws RX5 TX5 5, w ∈ wsX5_covers := by decide +kernel
  have fl_23 := hts (.fieldLink RX5 23 "FairRents$Letting" "first" "I") (by decide +kernel)
  refine lv_aload_n hx hb dX5_covers_0 rfl (lv_at hl 0 rfl) ?_
  refine z_call (va_runV (As := []) (rest := []) ⟨hx, hb, hml, hown, hts⟩ (c_X5_isLet l D cT _ _ a b nu fi rt pd ha) (cwV 0 hts gX5_covers_X5_isLet rfl rfl rfl (by decide +kernel) ⟨(Nat.le_of_ble_eq_true rfl), (Nat.le_of_ble_eq_true rfl)⟩) (z_preV hK hE hZ hA (ci := 5) rfl ha) rfl rfl hl.1 rfl (lv_room (Nat.le_of_ble_eq_true rfl)) dX5_covers_1 ⟨(Nat.le_of_ble_eq_true rfl), (Nat.le_of_ble_eq_true rfl)⟩) hZ hA (fun r G1 H locs hq hZ => ?_)
  obtain ⟨hg, rfl⟩ := hq
  replace hg := hg.symm
  subst hg
  refine W.eq (g2 := F0 m 4 ls [.int (if 0 < nu then 1 else 0)]) rfl ?_
  refine zb_eq (tgt := 19) hx hb dX5_covers_4 (by decide) (fun c4 => ?_) (fun c4 => ?_)
  · refine lv_iconst (v := 0) hx hb dX5_covers_19 (by decide) ?_
    exact z_zret hx hb hr hlocks hZ (Or.inl rfl) dX5_covers_20 (⟨rfl, by rw [if_neg (fun h => c4 h.1)]⟩)
  · refine lv_iload_n hx hb dX5_covers_7 rfl (lv_at hl 1 rfl) ?_
    refine lv_aload_n hx hb dX5_covers_8 rfl (lv_at hl 0 rfl) ?_
    refine z_get (ci := 5) (fs := [.ref b, .int nu, .int fi, .int rt, .int pd]) (C := RX5) (T := TX5) (N := 5) hx hb hts in_X5 hown hK hZ ha rfl 2 (by decide) fl_23 (fun _ h9 => h9) rfl dX5_covers_9 ?_
    refine lv_icmp_lt (tgt := 19) hx hb dX5_covers_12 (by decide) (fun c12 => ?_) (fun c12 => ?_)
    · refine lv_iconst (v := 0) hx hb dX5_covers_19 (by decide) ?_
      exact z_zret hx hb hr hlocks hZ (Or.inl rfl) dX5_covers_20 (⟨rfl, by rw [if_neg (fun h => h.2 c12)]⟩)
    · refine lv_iconst (v := 1) hx hb dX5_covers_15 (by decide) ?_
      refine lv_goto (tgt := 20) hx hb dX5_covers_16 (by decide) ?_
      exact z_zret hx hb hr hlocks hZ (Or.inr rfl) dX5_covers_20 (⟨rfl, by rw [if_pos ⟨c4, c12⟩]⟩)

set_option maxHeartbeats 4000000 in
set_option maxRecDepth 100000 in
theorem c_X5_paidOn (l : Launch) (D : va_G) (cT : Nat → ClassId) (G : zG) (sz : Nat) (a b : Nat) (nu fi rt pd : Int32) (f : Nat → Int32) (x : Int32) (j : Nat) (ha : G a = some (.inr (5, [.ref b, .int nu, .int fi, .int rt, .int pd]))) (hb3 : G b = some (.inl (cT 0, 301, .inl f))) (hxj : x = nI j) (hj : j < 301) : zM l D cT yX5_paidOn wsX5_paidOn (zR 1 0 0) [.ref a, .int x] G sz (fun r G' => G' = G ∧ r = some (.int (f j))) := by
  refine z_start (cc := cX5_paidOn) (maxL := 2) (ret := (some .int)) (by decide) rfl (Nat.le_of_ble_eq_true rfl) ?_
  intro p e s m below meth c ls hI hZ hl
  obtain ⟨hx, hb, hr, hml, hts, hown, hlocks, hname, hK, hA, hE⟩ := hI
  have hl : lv_has ls 2 [(0, .ref a), (1, .int x)] := hl
  have hown : s.vm.findClass RX5 = some m.cls := hown
  have in_X5 : ∀ w ∈ u_ws RX5 TX5 5, w ∈ wsX5_paidOn := by decide +kernel
  have fl_9 := hts (.fieldLink RX5 9 "FairRents$Letting" "sums" "[I") (by decide +kernel)
  refine lv_iload_n hx hb dX5_paidOn_0 rfl (lv_at hl 1 rfl) ?_
  refine lv_iconst (v := 0) hx hb dX5_paidOn_1 (by decide) ?_
  refine lv_aload_n hx hb dX5_paidOn_2 rfl (lv_at hl 0 rfl) ?_
  refine z_get (ci := 5) (fs := [.ref b, .int nu, .int fi, .int rt, .int pd]) (C := RX5) (T := TX5) (N := 5) hx hb hts in_X5 hown hK hZ ha rfl 0 (by decide) fl_9 (fun _ h9 => h9) rfl dX5_paidOn_3 ?_
  refine z_alen hx hb hK hZ 0 hb3 rfl dX5_paidOn_6 ?_
  refine lv_iconst (v := 1) hx hb dX5_paidOn_7 (by decide) ?_
  refine lv_isub hx hb dX5_paidOn_8 ?_
  refine z_call (va_runSN (As := [.int x, .int 0, .int ((nI 301) - 1)]) (rest := []) ⟨hx, hb, hml, hown, hts⟩ (c_X9_within l D cT _ _ x 0 ((nI 301) - 1)) ⟨va_cnB 3 hts gX5_paidOn_X9_within_n32 rfl rfl rfl hE.1.2.2.2.2 (hts (.initialized RX9) (by decide +kernel)) (by decide +kernel) ⟨(Nat.le_of_ble_eq_true rfl), (Nat.le_of_ble_eq_true rfl)⟩, hts (.static yX9_within) (by decide +kernel), trivial⟩ (z_preS hK hE hZ hA) rfl rfl hl.1 rfl (lv_room (Nat.le_of_ble_eq_true rfl)) dX5_paidOn_9 ⟨(Nat.le_of_ble_eq_true rfl), (Nat.le_of_ble_eq_true rfl)⟩) hZ hA (fun r G9 H locs hq hZ => ?_)
  obtain ⟨hg, rfl⟩ := hq
  replace hg := hg.symm
  subst hg
  refine W.eq (g2 := F0 m 12 ls [.int (if 0 ≤ x ∧ x ≤ ((nI 301) - 1) then 1 else 0)]) rfl ?_
  refine zb_eq (tgt := 24) hx hb dX5_paidOn_12 (by decide) (fun c12 => absurd c12 (fun h => h (by rw [hxj]; exact z_wi1 hj (by decide)))) (fun _ => ?_)
  refine lv_aload_n hx hb dX5_paidOn_15 rfl (lv_at hl 0 rfl) ?_
  refine z_get (ci := 5) (fs := [.ref b, .int nu, .int fi, .int rt, .int pd]) (C := RX5) (T := TX5) (N := 5) hx hb hts in_X5 hown hK hZ ha rfl 0 (by decide) fl_9 (fun _ h9 => h9) rfl dX5_paidOn_16 ?_
  refine lv_iload_n hx hb dX5_paidOn_19 rfl (lv_at hl 1 rfl) ?_
  refine z_iald hx hb hK hZ hb3 j hxj hj (by decide) dX5_paidOn_20 ?_
  refine lv_goto (tgt := 25) hx hb dX5_paidOn_21 (by decide) ?_
  exact z_iret hx hb hr hlocks hZ dX5_paidOn_25 (⟨rfl, rfl⟩)

set_option maxHeartbeats 4000000 in
set_option maxRecDepth 100000 in
theorem c_X5_take (l : Launch) (D : va_G) (cT : Nat → ClassId) (G : zG) (sz : Nat) (a b : Nat) (nu fi rt pd : Int32) (f : Nat → Int32) (x y : Int32) (j : Nat) (ha : G a = some (.inr (5, [.ref b, .int nu, .int fi, .int rt, .int pd]))) (hb3 : G b = some (.inl (cT 0, 301, .inl f))) (hxj : x = nI j) (hj : j < 301) : zM l D cT yX5_take wsX5_take (zR 1 0 0) [.ref a, .int x, .int y] G sz (fun r G' => G' = va_up (va_up G b (some (.inl (cT 0, 301, .inl (upd f j (f j + y)))))) a (some (.inr (5, [.ref b, .int nu, .int fi, .int rt, .int (pd + y)]))) ∧ r = none) := by
  refine z_start (cc := cX5_take) (maxL := 3) (ret := none) (by decide) rfl (Nat.le_of_ble_eq_true rfl) ?_
  intro p e s m below meth c ls hI hZ hl
  obtain ⟨hx, hb, hr, hml, hts, hown, hlocks, hname, hK, hA, hE⟩ := hI
  have hl : lv_has ls 3 [(0, .ref a), (1, .int x), (2, .int y)] := hl
  have hown : s.vm.findClass RX5 = some m.cls := hown
  have in_X5 : ∀ w ∈ u_ws RX5 TX5 5, w ∈ wsX5_take := by decide +kernel
  have fl_9 := hts (.fieldLink RX5 9 "FairRents$Letting" "sums" "[I") (by decide +kernel)
  have fl_29 := hts (.fieldLink RX5 29 "FairRents$Letting" "paid" "I") (by decide +kernel)
  refine lv_iload_n hx hb dX5_take_0 rfl (lv_at hl 1 rfl) ?_
  refine lv_iconst (v := 0) hx hb dX5_take_1 (by decide) ?_
  refine lv_aload_n hx hb dX5_take_2 rfl (lv_at hl 0 rfl) ?_
  refine z_get (ci := 5) (fs := [.ref b, .int nu, .int fi, .int rt, .int pd]) (C := RX5) (T := TX5) (N := 5) hx hb hts in_X5 hown hK hZ ha rfl 0 (by decide) fl_9 (fun _ h9 => h9) rfl dX5_take_3 ?_
  refine z_alen hx hb hK hZ 0 hb3 rfl dX5_take_6 ?_
  refine lv_iconst (v := 1) hx hb dX5_take_7 (by decide) ?_
  refine lv_isub hx hb dX5_take_8 ?_
  refine z_call (va_runSN (As := [.int x, .int 0, .int ((nI 301) - 1)]) (rest := []) ⟨hx, hb, hml, hown, hts⟩ (c_X9_within l D cT _ _ x 0 ((nI 301) - 1)) ⟨va_cnB 3 hts gX5_take_X9_within_n32 rfl rfl rfl hE.1.2.2.2.2 (hts (.initialized RX9) (by decide +kernel)) (by decide +kernel) ⟨(Nat.le_of_ble_eq_true rfl), (Nat.le_of_ble_eq_true rfl)⟩, hts (.static yX9_within) (by decide +kernel), trivial⟩ (z_preS hK hE hZ hA) rfl rfl hl.1 rfl (lv_room (Nat.le_of_ble_eq_true rfl)) dX5_take_9 ⟨(Nat.le_of_ble_eq_true rfl), (Nat.le_of_ble_eq_true rfl)⟩) hZ hA (fun r G9 H locs hq hZ => ?_)
  obtain ⟨hg, rfl⟩ := hq
  replace hg := hg.symm
  subst hg
  refine W.eq (g2 := F0 m 12 ls [.int (if 0 ≤ x ∧ x ≤ ((nI 301) - 1) then 1 else 0)]) rfl ?_
  refine zb_eq (tgt := 35) hx hb dX5_take_12 (by decide) (fun c12 => absurd c12 (fun h => h (by rw [hxj]; exact z_wi1 hj (by decide)))) (fun _ => ?_)
  refine lv_aload_n hx hb dX5_take_15 rfl (lv_at hl 0 rfl) ?_
  refine z_get (ci := 5) (fs := [.ref b, .int nu, .int fi, .int rt, .int pd]) (C := RX5) (T := TX5) (N := 5) hx hb hts in_X5 hown hK hZ ha rfl 0 (by decide) fl_9 (fun _ h9 => h9) rfl dX5_take_16 ?_
  refine lv_iload_n hx hb dX5_take_19 rfl (lv_at hl 1 rfl) ?_
  refine lv_dup2_11 hx hb dX5_take_20 rfl rfl ?_
  refine z_iald hx hb hK hZ hb3 j hxj hj (by decide) dX5_take_21 ?_
  refine lv_iload_n hx hb dX5_take_22 rfl (lv_at hl 2 rfl) ?_
  refine lv_iadd hx hb dX5_take_23 ?_
  refine z_iast hx hb hK hZ hb3 j hxj hj (by decide) dX5_take_24 (fun H locs hZ => ?_)
  refine lv_aload_n hx hb dX5_take_25 rfl (lv_at hl 0 rfl) ?_
  refine lv_dup hx hb dX5_take_26 rfl ?_
  refine z_get (ci := 5) (fs := [.ref b, .int nu, .int fi, .int rt, .int pd]) (C := RX5) (T := TX5) (N := 5) hx hb hts in_X5 hown hK hZ ((va_up_ne _ _ (z_neOA ha hb3)).trans ha) rfl 4 (by decide) fl_29 (fun _ h9 => h9) rfl dX5_take_27 ?_
  refine lv_iload_n hx hb dX5_take_30 rfl (lv_at hl 2 rfl) ?_
  refine lv_iadd hx hb dX5_take_31 ?_
  refine z_put (ci := 5) (fs := [.ref b, .int nu, .int fi, .int rt, .int pd]) (fs' := [.ref b, .int nu, .int fi, .int rt, .int (pd + y)]) (v := .int (pd + y)) (ty := .int) (C := RX5) (T := TX5) (N := 5) hx hb hts in_X5 tyX5 tyX5_ok nmX5 hown hK hZ ((va_up_ne _ _ (z_neOA ha hb3)).trans ha) rfl 4 (by decide) fl_29 (fun _ h9 => h9) rfl (by decide +kernel) rfl rfl (Nat.le_of_ble_eq_true rfl) rfl dX5_take_32 (fun H locs hZ => ?_)
  exact z_vret hx hb hr hlocks hZ dX5_take_35 (⟨rfl, rfl⟩)

set_option maxHeartbeats 4000000 in
set_option maxRecDepth 100000 in
theorem c_X0_binds (l : Launch) (D : va_G) (cT : Nat → ClassId) (G : zG) (sz : Nat) (a lw : Nat) (ho le dy rt md sc rp sd : Int32) (x y : Int32) (ha : G a = some (.inr (0, [.int ho, .int le, .int dy, .ref lw, .int rt, .int md, .int sc, .int rp, .int sd]))) : zM l D cT yX0_binds wsX0_binds (zR 0 0 0) [.ref a, .int x, .int y] G sz (fun r G' => G' = G ∧ r = some (.int (if ¬ sd = 0 ∧ ho = x ∧ le = y then 1 else 0))) := by
  refine z_start (cc := cX0_binds) (maxL := 3) (ret := (some .boolean)) (by decide) rfl (Nat.le_of_ble_eq_true rfl) ?_
  intro p e s m below meth c ls hI hZ hl
  obtain ⟨hx, hb, hr, hml, hts, hown, hlocks, hname, hK, hA, hE⟩ := hI
  have hl : lv_has ls 3 [(0, .ref a), (1, .int x), (2, .int y)] := hl
  have hown : s.vm.findClass RX0 = some m.cls := hown
  have in_X0 : ∀ w ∈ u_ws RX0 TX0 9, w ∈ wsX0_binds := by decide +kernel
  have fl_9 := hts (.fieldLink RX0 9 "FairRents$Entry" "home" "I") (by decide +kernel)
  have fl_15 := hts (.fieldLink RX0 15 "FairRents$Entry" "letting" "I") (by decide +kernel)
  have fl_46 := hts (.fieldLink RX0 46 "FairRents$Entry" "stands" "Z") (by decide +kernel)
  refine lv_aload_n hx hb dX0_binds_0 rfl (lv_at hl 0 rfl) ?_
  refine z_get (ci := 0) (fs := [.int ho, .int le, .int dy, .ref lw, .int rt, .int md, .int sc, .int rp, .int sd]) (C := RX0) (T := TX0) (N := 9) hx hb hts in_X0 hown hK hZ ha rfl 8 (by decide) fl_46 (fun _ h9 => h9) rfl dX0_binds_1 ?_
  refine lv_if_eq (tgt := 27) hx hb dX0_binds_4 (by decide) (fun c4 => ?_) (fun c4 => ?_)
  · refine lv_iconst (v := 0) hx hb dX0_binds_27 (by decide) ?_
    exact z_zret hx hb hr hlocks hZ (Or.inl rfl) dX0_binds_28 (⟨rfl, by rw [if_neg (fun h => h.1 c4)]⟩)
  · refine lv_aload_n hx hb dX0_binds_7 rfl (lv_at hl 0 rfl) ?_
    refine z_get (ci := 0) (fs := [.int ho, .int le, .int dy, .ref lw, .int rt, .int md, .int sc, .int rp, .int sd]) (C := RX0) (T := TX0) (N := 9) hx hb hts in_X0 hown hK hZ ha rfl 0 (by decide) fl_9 (fun _ h9 => h9) rfl dX0_binds_8 ?_
    refine lv_iload_n hx hb dX0_binds_11 rfl (lv_at hl 1 rfl) ?_
    refine lv_icmp_ne (tgt := 27) hx hb dX0_binds_12 (by decide) (fun c12 => ?_) (fun c12 => ?_)
    · refine lv_iconst (v := 0) hx hb dX0_binds_27 (by decide) ?_
      exact z_zret hx hb hr hlocks hZ (Or.inl rfl) dX0_binds_28 (⟨rfl, by rw [if_neg (fun h => c12 h.2.1)]⟩)
    · refine lv_aload_n hx hb dX0_binds_15 rfl (lv_at hl 0 rfl) ?_
      refine z_get (ci := 0) (fs := [.int ho, .int le, .int dy, .ref lw, .int rt, .int md, .int sc, .int rp, .int sd]) (C := RX0) (T := TX0) (N := 9) hx hb hts in_X0 hown hK hZ ha rfl 1 (by decide) fl_15 (fun _ h9 => h9) rfl dX0_binds_16 ?_
      refine lv_iload_n hx hb dX0_binds_19 rfl (lv_at hl 2 rfl) ?_
      refine lv_icmp_ne (tgt := 27) hx hb dX0_binds_20 (by decide) (fun c20 => ?_) (fun c20 => ?_)
      · refine lv_iconst (v := 0) hx hb dX0_binds_27 (by decide) ?_
        exact z_zret hx hb hr hlocks hZ (Or.inl rfl) dX0_binds_28 (⟨rfl, by rw [if_neg (fun h => c20 h.2.2)]⟩)
      · refine lv_iconst (v := 1) hx hb dX0_binds_23 (by decide) ?_
        refine lv_goto (tgt := 28) hx hb dX0_binds_24 (by decide) ?_
        exact z_zret hx hb hr hlocks hZ (Or.inr rfl) dX0_binds_28 (⟨rfl, by rw [if_pos ⟨c4, c12, c20⟩]⟩)

set_option maxHeartbeats 4000000 in
set_option maxRecDepth 100000 in
theorem c_X0_steppedFrom (l : Launch) (D : va_G) (cT : Nat → ClassId) (G : zG) (sz : Nat) (a lw : Nat) (ho le dy rt md sc rp sd : Int32) (b : Nat) (f : Nat → Int32) (x y : Int32) (ha : G a = some (.inr (0, [.int ho, .int le, .int dy, .ref lw, .int rt, .int md, .int sc, .int rp, .int sd]))) (hlw : G lw = some (.inr (4, [.ref b]))) (hb8 : G b = some (.inl (cT 0, 8, .inl f))) : zM l D cT yX0_steppedFrom wsX0_steppedFrom (zR 2 0 0) [.ref a, .int x, .int y] G sz (fun r G' => G' = G ∧ r = some (.int (if x < rt then (if x + f 5 * ((y - dy) / 10 + 1) < rt then x + f 5 * ((y - dy) / 10 + 1) else rt) else rt))) := by
  refine z_start (cc := cX0_steppedFrom) (maxL := 4) (ret := (some .int)) (by decide) rfl (Nat.le_of_ble_eq_true rfl) ?_
  intro p e s m below meth c ls hI hZ hl
  obtain ⟨hx, hb, hr, hml, hts, hown, hlocks, hname, hK, hA, hE⟩ := hI
  have hl : lv_has ls 4 [(0, .ref a), (1, .int x), (2, .int y)] := hl
  have hown : s.vm.findClass RX0 = some m.cls := hown
  have in_X0 : ∀ w ∈ u_ws RX0 TX0 9, w ∈ wsX0_steppedFrom := by decide +kernel
  have fl_18 := hts (.fieldLink RX0 18 "FairRents$Entry" "day" "I") (by decide +kernel)
  have fl_21 := hts (.fieldLink RX0 21 "FairRents$Entry" "law" "LFairRents$Law;") (by decide +kernel)
  have fl_31 := hts (.fieldLink RX0 31 "FairRents$Entry" "rent" "I") (by decide +kernel)
  refine lv_aload_n hx hb dX0_steppedFrom_0 rfl (lv_at hl 0 rfl) ?_
  refine z_get (ci := 0) (fs := [.int ho, .int le, .int dy, .ref lw, .int rt, .int md, .int sc, .int rp, .int sd]) (C := RX0) (T := TX0) (N := 9) hx hb hts in_X0 hown hK hZ ha rfl 4 (by decide) fl_31 (fun _ h9 => h9) rfl dX0_steppedFrom_1 ?_
  refine lv_iload_n hx hb dX0_steppedFrom_4 rfl (lv_at hl 1 rfl) ?_
  refine lv_icmp_gt (tgt := 13) hx hb dX0_steppedFrom_5 (by decide) (fun c5 => ?_) (fun c5 => ?_)
  · refine lv_iload_n hx hb dX0_steppedFrom_13 rfl (lv_at hl 2 rfl) ?_
    refine lv_aload_n hx hb dX0_steppedFrom_14 rfl (lv_at hl 0 rfl) ?_
    refine z_get (ci := 0) (fs := [.int ho, .int le, .int dy, .ref lw, .int rt, .int md, .int sc, .int rp, .int sd]) (C := RX0) (T := TX0) (N := 9) hx hb hts in_X0 hown hK hZ ha rfl 2 (by decide) fl_18 (fun _ h9 => h9) rfl dX0_steppedFrom_15 ?_
    refine lv_isub hx hb dX0_steppedFrom_18 ?_
    refine lv_bipush (v := 10) hx hb dX0_steppedFrom_19 (by decide) ?_
    refine lv_idiv hx hb dX0_steppedFrom_21 (by decide) ?_
    refine lv_iconst (v := 1) hx hb dX0_steppedFrom_22 (by decide) ?_
    refine lv_iadd hx hb dX0_steppedFrom_23 ?_
    refine lv_istore_n (lv' := [(3, .int (((y - dy) / 10) + 1)), (0, .ref a), (1, .int x), (2, .int y)]) hx hb dX0_steppedFrom_24 rfl hl (by decide) rfl (fun ls hl => ?_)
    refine lv_aload_n hx hb dX0_steppedFrom_25 rfl (lv_at hl 1 rfl) ?_
    refine z_get (ci := 0) (fs := [.int ho, .int le, .int dy, .ref lw, .int rt, .int md, .int sc, .int rp, .int sd]) (C := RX0) (T := TX0) (N := 9) hx hb hts in_X0 hown hK hZ ha rfl 4 (by decide) fl_31 (fun _ h9 => h9) rfl dX0_steppedFrom_26 ?_
    refine lv_iload_n hx hb dX0_steppedFrom_29 rfl (lv_at hl 2 rfl) ?_
    refine lv_aload_n hx hb dX0_steppedFrom_30 rfl (lv_at hl 1 rfl) ?_
    refine z_get (ci := 0) (fs := [.int ho, .int le, .int dy, .ref lw, .int rt, .int md, .int sc, .int rp, .int sd]) (C := RX0) (T := TX0) (N := 9) hx hb hts in_X0 hown hK hZ ha rfl 3 (by decide) fl_21 (fun _ h9 => h9) rfl dX0_steppedFrom_31 ?_
    refine lv_iconst (v := 5) hx hb dX0_steppedFrom_34 (by decide) ?_
    refine z_call (va_runV (As := [.int 5]) (rest := [.int x, .int rt]) ⟨hx, hb, hml, hown, hts⟩ (c_X4_number l D cT _ _ lw b f 5 5 hlw hb8 rfl (by decide)) (cwV 1 hts gX0_steppedFrom_X4_number rfl rfl rfl (by decide +kernel) ⟨(Nat.le_of_ble_eq_true rfl), (Nat.le_of_ble_eq_true rfl)⟩) (z_preV hK hE hZ hA (ci := 4) rfl hlw) rfl rfl hl.1 rfl (lv_room (Nat.le_of_ble_eq_true rfl)) dX0_steppedFrom_35 ⟨(Nat.le_of_ble_eq_true rfl), (Nat.le_of_ble_eq_true rfl)⟩) hZ hA (fun r G35 H locs hq hZ => ?_)
    obtain ⟨hg, rfl⟩ := hq
    replace hg := hg.symm
    subst hg
    refine W.eq (g2 := F0 m 38 ls [.int (f 5), .int x, .int rt]) rfl ?_
    refine lv_iload_n hx hb dX0_steppedFrom_38 rfl (lv_at hl 0 rfl) ?_
    refine lv_imul hx hb dX0_steppedFrom_39 ?_
    refine lv_iadd hx hb dX0_steppedFrom_40 ?_
    refine va_mmin hx hb (by rw [hml]; exact hl.1.symm) hown (hts (.methodLink RX0 56 Lib.Math.min.name) (by decide +kernel)) (hts (.static Lib.Math.min.name) (by decide +kernel)) (hts (.initialized "java/lang/Math") (by decide +kernel)) (hts _ (List.mem_of_getElem? (i := 7) rfl)) (Nat.le_of_ble_eq_true rfl) (Nat.le_of_ble_eq_true rfl) (Nat.le_of_ble_eq_true rfl) (Nat.le_of_ble_eq_true rfl) dX0_steppedFrom_41 ?_
    exact z_iret hx hb hr hlocks hZ dX0_steppedFrom_44 (⟨rfl, by rw [if_pos c5]⟩)
  · refine lv_aload_n hx hb dX0_steppedFrom_8 rfl (lv_at hl 0 rfl) ?_
    refine z_get (ci := 0) (fs := [.int ho, .int le, .int dy, .ref lw, .int rt, .int md, .int sc, .int rp, .int sd]) (C := RX0) (T := TX0) (N := 9) hx hb hts in_X0 hown hK hZ ha rfl 4 (by decide) fl_31 (fun _ h9 => h9) rfl dX0_steppedFrom_9 ?_
    exact z_iret hx hb hr hlocks hZ dX0_steppedFrom_12 (⟨rfl, by rw [if_neg c5]⟩)

set_option maxHeartbeats 4000000 in
set_option maxRecDepth 100000 in
theorem c_X0_init (l : Launch) (D : va_G) (cT : Nat → ClassId) (G : zG) (sz : Nat) (a lw h b : Nat) (ho le dy ct md sc rp : Int32) (ha : G a = some (.inr (0, [.int 0, .int 0, .int 0, .null, .int 0, .int 0, .int 0, .int 0, .int 0]))) (hh : G h = some (.inr (2, [.ref b, .int ct, .int md, .int sc, .int rp]))) : zM l D cT yX0_init wsX0_init (zR 2 0 0) [.ref a, .int ho, .int le, .int dy, .ref lw, .ref h] G sz (fun r G' => G' = va_up G a (some (.inr (0, [.int ho, .int le, .int dy, .ref lw, .int (if 1 < md + sc + rp then md + sc + rp else 1), .int md, .int sc, .int rp, .int 1]))) ∧ r = none) := by
  refine z_start (cc := cX0_init) (maxL := 6) (ret := none) (by decide) rfl (Nat.le_of_ble_eq_true rfl) ?_
  intro p e s m below meth c ls hI hZ hl
  obtain ⟨hx, hb, hr, hml, hts, hown, hlocks, hname, hK, hA, hE⟩ := hI
  have hl : lv_has ls 6 [(0, .ref a), (1, .int ho), (2, .int le), (3, .int dy), (4, .ref lw), (5, .ref h)] := hl
  have hown : s.vm.findClass RX0 = some m.cls := hown
  have in_X0 : ∀ w ∈ u_ws RX0 TX0 9, w ∈ wsX0_init := by decide +kernel
  have in_X2 : ∀ w ∈ u_ws RX2 TX2 5, w ∈ wsX0_init := by decide +kernel
  have fl_9 := hts (.fieldLink RX0 9 "FairRents$Entry" "home" "I") (by decide +kernel)
  have fl_15 := hts (.fieldLink RX0 15 "FairRents$Entry" "letting" "I") (by decide +kernel)
  have fl_18 := hts (.fieldLink RX0 18 "FairRents$Entry" "day" "I") (by decide +kernel)
  have fl_21 := hts (.fieldLink RX0 21 "FairRents$Entry" "law" "LFairRents$Law;") (by decide +kernel)
  have fl_31 := hts (.fieldLink RX0 31 "FairRents$Entry" "rent" "I") (by decide +kernel)
  have fl_34 := hts (.fieldLink RX0 34 "FairRents$Heads" "middle" "I") (by decide +kernel)
  have fl_37 := hts (.fieldLink RX0 37 "FairRents$Entry" "middle" "I") (by decide +kernel)
  have fl_38 := hts (.fieldLink RX0 38 "FairRents$Heads" "scarcity" "I") (by decide +kernel)
  have fl_41 := hts (.fieldLink RX0 41 "FairRents$Entry" "scarcity" "I") (by decide +kernel)
  have fl_42 := hts (.fieldLink RX0 42 "FairRents$Heads" "repairs" "I") (by decide +kernel)
  have fl_45 := hts (.fieldLink RX0 45 "FairRents$Entry" "repairs" "I") (by decide +kernel)
  have fl_46 := hts (.fieldLink RX0 46 "FairRents$Entry" "stands" "Z") (by decide +kernel)
  refine lv_aload_n hx hb dX0_init_0 rfl (lv_at hl 0 rfl) ?_
  refine W.objInit hx hb hown (hts (.methodLink RX0 3 objectInit) (by decide +kernel)) (hts (.instanceMethod objectInit) (by decide +kernel)) (hts _ (List.mem_of_getElem? (i := 3) rfl)) rfl (by rw [hml]; exact hl.1) rfl dX0_init_1 (Nat.le_of_ble_eq_true rfl) (Nat.le_of_ble_eq_true rfl) ?_
  refine W.eq (g2 := F0 m 4 ls []) rfl ?_
  refine lv_aload_n hx hb dX0_init_4 rfl (lv_at hl 0 rfl) ?_
  refine lv_iload_n hx hb dX0_init_5 rfl (lv_at hl 1 rfl) ?_
  refine z_putF (ci := 0) (fs := [.int 0, .int 0, .int 0, .null, .int 0, .int 0, .int 0, .int 0, .int 0]) (fs' := [.int ho, .int 0, .int 0, .null, .int 0, .int 0, .int 0, .int 0, .int 0]) (v := .int ho) (ty := .int) (C := RX0) (T := TX0) (N := 9) hx hb hts in_X0 tyX0 tyX0_ok nmX0 hown hK hZ ha rfl 0 (by decide) fl_9 (fun _ h9 => h9) rfl hname rfl (by decide +kernel) rfl rfl (Nat.le_of_ble_eq_true rfl) rfl dX0_init_6 (fun H locs hZ => ?_)
  refine lv_aload_n hx hb dX0_init_9 rfl (lv_at hl 0 rfl) ?_
  refine lv_iload_n hx hb dX0_init_10 rfl (lv_at hl 2 rfl) ?_
  refine z_putF (ci := 0) (fs := [.int ho, .int 0, .int 0, .null, .int 0, .int 0, .int 0, .int 0, .int 0]) (fs' := [.int ho, .int le, .int 0, .null, .int 0, .int 0, .int 0, .int 0, .int 0]) (v := .int le) (ty := .int) (C := RX0) (T := TX0) (N := 9) hx hb hts in_X0 tyX0 tyX0_ok nmX0 hown hK hZ (va_up_self _ _ _) rfl 1 (by decide) fl_15 (fun _ h9 => h9) rfl hname rfl (by decide +kernel) rfl rfl (Nat.le_of_ble_eq_true rfl) rfl dX0_init_11 (fun H locs hZ => ?_)
  rw [bx_uu] at hZ
  refine lv_aload_n hx hb dX0_init_14 rfl (lv_at hl 0 rfl) ?_
  refine lv_iload_n hx hb dX0_init_15 rfl (lv_at hl 3 rfl) ?_
  refine z_putF (ci := 0) (fs := [.int ho, .int le, .int 0, .null, .int 0, .int 0, .int 0, .int 0, .int 0]) (fs' := [.int ho, .int le, .int dy, .null, .int 0, .int 0, .int 0, .int 0, .int 0]) (v := .int dy) (ty := .int) (C := RX0) (T := TX0) (N := 9) hx hb hts in_X0 tyX0 tyX0_ok nmX0 hown hK hZ (va_up_self _ _ _) rfl 2 (by decide) fl_18 (fun _ h9 => h9) rfl hname rfl (by decide +kernel) rfl rfl (Nat.le_of_ble_eq_true rfl) rfl dX0_init_16 (fun H locs hZ => ?_)
  rw [bx_uu] at hZ
  refine lv_aload_n hx hb dX0_init_19 rfl (lv_at hl 0 rfl) ?_
  refine lv_aload hx hb dX0_init_20 (lv_at hl 4 rfl) ?_
  refine z_putF (ci := 0) (fs := [.int ho, .int le, .int dy, .null, .int 0, .int 0, .int 0, .int 0, .int 0]) (fs' := [.int ho, .int le, .int dy, .ref lw, .int 0, .int 0, .int 0, .int 0, .int 0]) (v := .ref lw) (ty := .object "FairRents$Law") (C := RX0) (T := TX0) (N := 9) hx hb hts in_X0 tyX0 tyX0_ok nmX0 hown hK hZ (va_up_self _ _ _) rfl 3 (by decide) fl_21 (fun _ h9 => h9) rfl hname rfl (by decide +kernel) rfl rfl (Nat.le_of_ble_eq_true rfl) rfl dX0_init_22 (fun H locs hZ => ?_)
  rw [bx_uu] at hZ
  refine lv_aload_n hx hb dX0_init_25 rfl (lv_at hl 0 rfl) ?_
  refine lv_aload hx hb dX0_init_26 (lv_at hl 5 rfl) ?_
  refine z_call (va_runV (As := []) (rest := [.ref a]) ⟨hx, hb, hml, hown, hts⟩ (c_X2_fairRent l D cT _ _ h b ct md sc rp ((va_up_ne _ _ (z_neOO hh ha (by decide))).trans hh)) (cwV 0 hts gX0_init_X2_fairRent rfl rfl rfl (by decide +kernel) ⟨(Nat.le_of_ble_eq_true rfl), (Nat.le_of_ble_eq_true rfl)⟩) (z_preV hK hE hZ hA (ci := 2) rfl ((va_up_ne _ _ (z_neOO hh ha (by decide))).trans hh)) rfl rfl hl.1 rfl (lv_room (Nat.le_of_ble_eq_true rfl)) dX0_init_28 ⟨(Nat.le_of_ble_eq_true rfl), (Nat.le_of_ble_eq_true rfl)⟩) hZ hA (fun r G28 H locs hq hZ => ?_)
  obtain ⟨hg, rfl⟩ := hq
  replace hg := hg.symm
  subst hg
  refine W.eq (g2 := F0 m 31 ls [.int (if 1 < md + sc + rp then md + sc + rp else 1), .ref a]) rfl ?_
  refine z_putF (ci := 0) (fs := [.int ho, .int le, .int dy, .ref lw, .int 0, .int 0, .int 0, .int 0, .int 0]) (fs' := [.int ho, .int le, .int dy, .ref lw, .int (if 1 < md + sc + rp then md + sc + rp else 1), .int 0, .int 0, .int 0, .int 0]) (v := .int (if 1 < md + sc + rp then md + sc + rp else 1)) (ty := .int) (C := RX0) (T := TX0) (N := 9) hx hb hts in_X0 tyX0 tyX0_ok nmX0 hown hK hZ (va_up_self _ _ _) rfl 4 (by decide) fl_31 (fun _ h9 => h9) rfl hname rfl (by decide +kernel) rfl rfl (Nat.le_of_ble_eq_true rfl) rfl dX0_init_31 (fun H locs hZ => ?_)
  rw [bx_uu] at hZ
  refine lv_aload_n hx hb dX0_init_34 rfl (lv_at hl 0 rfl) ?_
  refine lv_aload hx hb dX0_init_35 (lv_at hl 5 rfl) ?_
  refine z_get (ci := 2) (fs := [.ref b, .int ct, .int md, .int sc, .int rp]) (C := RX2) (T := TX2) (N := 5) hx hb hts in_X2 hown hK hZ ((va_up_ne _ _ (z_neOO hh ha (by decide))).trans hh) rfl 2 (by decide) fl_34 (fun _ h9 => h9) rfl dX0_init_37 ?_
  refine z_putF (ci := 0) (fs := [.int ho, .int le, .int dy, .ref lw, .int (if 1 < md + sc + rp then md + sc + rp else 1), .int 0, .int 0, .int 0, .int 0]) (fs' := [.int ho, .int le, .int dy, .ref lw, .int (if 1 < md + sc + rp then md + sc + rp else 1), .int md, .int 0, .int 0, .int 0]) (v := .int md) (ty := .int) (C := RX0) (T := TX0) (N := 9) hx hb hts in_X0 tyX0 tyX0_ok nmX0 hown hK hZ (va_up_self _ _ _) rfl 5 (by decide) fl_37 (fun _ h9 => h9) rfl hname rfl (by decide +kernel) rfl rfl (Nat.le_of_ble_eq_true rfl) rfl dX0_init_40 (fun H locs hZ => ?_)
  rw [bx_uu] at hZ
  refine lv_aload_n hx hb dX0_init_43 rfl (lv_at hl 0 rfl) ?_
  refine lv_aload hx hb dX0_init_44 (lv_at hl 5 rfl) ?_
  refine z_get (ci := 2) (fs := [.ref b, .int ct, .int md, .int sc, .int rp]) (C := RX2) (T := TX2) (N := 5) hx hb hts in_X2 hown hK hZ ((va_up_ne _ _ (z_neOO hh ha (by decide))).trans hh) rfl 3 (by decide) fl_38 (fun _ h9 => h9) rfl dX0_init_46 ?_
  refine z_putF (ci := 0) (fs := [.int ho, .int le, .int dy, .ref lw, .int (if 1 < md + sc + rp then md + sc + rp else 1), .int md, .int 0, .int 0, .int 0]) (fs' := [.int ho, .int le, .int dy, .ref lw, .int (if 1 < md + sc + rp then md + sc + rp else 1), .int md, .int sc, .int 0, .int 0]) (v := .int sc) (ty := .int) (C := RX0) (T := TX0) (N := 9) hx hb hts in_X0 tyX0 tyX0_ok nmX0 hown hK hZ (va_up_self _ _ _) rfl 6 (by decide) fl_41 (fun _ h9 => h9) rfl hname rfl (by decide +kernel) rfl rfl (Nat.le_of_ble_eq_true rfl) rfl dX0_init_49 (fun H locs hZ => ?_)
  rw [bx_uu] at hZ
  refine lv_aload_n hx hb dX0_init_52 rfl (lv_at hl 0 rfl) ?_
  refine lv_aload hx hb dX0_init_53 (lv_at hl 5 rfl) ?_
  refine z_get (ci := 2) (fs := [.ref b, .int ct, .int md, .int sc, .int rp]) (C := RX2) (T := TX2) (N := 5) hx hb hts in_X2 hown hK hZ ((va_up_ne _ _ (z_neOO hh ha (by decide))).trans hh) rfl 4 (by decide) fl_42 (fun _ h9 => h9) rfl dX0_init_55 ?_
  refine z_putF (ci := 0) (fs := [.int ho, .int le, .int dy, .ref lw, .int (if 1 < md + sc + rp then md + sc + rp else 1), .int md, .int sc, .int 0, .int 0]) (fs' := [.int ho, .int le, .int dy, .ref lw, .int (if 1 < md + sc + rp then md + sc + rp else 1), .int md, .int sc, .int rp, .int 0]) (v := .int rp) (ty := .int) (C := RX0) (T := TX0) (N := 9) hx hb hts in_X0 tyX0 tyX0_ok nmX0 hown hK hZ (va_up_self _ _ _) rfl 7 (by decide) fl_45 (fun _ h9 => h9) rfl hname rfl (by decide +kernel) rfl rfl (Nat.le_of_ble_eq_true rfl) rfl dX0_init_58 (fun H locs hZ => ?_)
  rw [bx_uu] at hZ
  refine lv_aload_n hx hb dX0_init_61 rfl (lv_at hl 0 rfl) ?_
  refine lv_iconst (v := 1) hx hb dX0_init_62 (by decide) ?_
  refine z_put (ci := 0) (fs := [.int ho, .int le, .int dy, .ref lw, .int (if 1 < md + sc + rp then md + sc + rp else 1), .int md, .int sc, .int rp, .int 0]) (fs' := [.int ho, .int le, .int dy, .ref lw, .int (if 1 < md + sc + rp then md + sc + rp else 1), .int md, .int sc, .int rp, .int 1]) (v := .int 1) (ty := .boolean) (C := RX0) (T := TX0) (N := 9) hx hb hts in_X0 tyX0 tyX0_ok nmX0 hown hK hZ (va_up_self _ _ _) rfl 8 (by decide) fl_46 (fun _ h9 => h9) rfl (by decide +kernel) (by decide) (by decide) (Nat.le_of_ble_eq_true rfl) rfl dX0_init_63 (fun H locs hZ => ?_)
  rw [bx_uu] at hZ
  exact z_vret hx hb hr hlocks hZ dX0_init_66 (⟨rfl, rfl⟩)

set_option maxHeartbeats 4000000 in
set_option maxRecDepth 100000 in
theorem c_X3_init (l : Launch) (D : va_G) (cT : Nat → ClassId) (G : zG) (sz : Nat) (a bd : Nat) (ar : Int32) (ha : G a = some (.inr (3, [.null, .int 0, .null, .int 0]))) : zM l D cT yX3_init wsX3_init (zR 2 2 306) [.ref a, .ref bd, .int ar] G sz (fun r G' => (∃ t q, t ≠ a ∧ q ≠ a ∧ q ≠ t ∧ G t = none ∧ G q = none ∧ G' = va_up (va_up (va_up G q (some (.inl (cT 0, 301, .inl (fun _ => 0))))) t (some (.inr (5, [.ref q, .int 0, .int 0, .int 0, .int 0])))) a (some (.inr (3, [.ref bd, .int ar, .ref t, .int 0])))) ∧ r = none) := by
  refine z_start (cc := cX3_init) (maxL := 3) (ret := none) (by decide) rfl (Nat.le_of_ble_eq_true rfl) ?_
  intro p e s m below meth c ls hI hZ hl
  obtain ⟨hx, hb, hr, hml, hts, hown, hlocks, hname, hK, hA, hE⟩ := hI
  have hl : lv_has ls 3 [(0, .ref a), (1, .ref bd), (2, .int ar)] := hl
  have hown : s.vm.findClass RX3 = some m.cls := hown
  have in_X3 : ∀ w ∈ u_ws RX3 TX3 4, w ∈ wsX3_init := by decide +kernel
  have in_X5 : ∀ w ∈ u_ws RX5 TX5 5, w ∈ wsX3_init := by decide +kernel
  have fl_7 := hts (.fieldLink RX3 7 "FairRents$Home" "body" "LFairRents$Plain;") (by decide +kernel)
  have fl_13 := hts (.fieldLink RX3 13 "FairRents$Home" "area" "I") (by decide +kernel)
  have fl_20 := hts (.fieldLink RX3 20 "FairRents$Home" "letting" "LFairRents$Letting;") (by decide +kernel)
  refine lv_aload_n hx hb dX3_init_0 rfl (lv_at hl 0 rfl) ?_
  refine W.objInit hx hb hown (hts (.methodLink RX3 1 objectInit) (by decide +kernel)) (hts (.instanceMethod objectInit) (by decide +kernel)) (hts _ (List.mem_of_getElem? (i := 3) rfl)) rfl (by rw [hml]; exact hl.1) rfl dX3_init_1 (Nat.le_of_ble_eq_true rfl) (Nat.le_of_ble_eq_true rfl) ?_
  refine W.eq (g2 := F0 m 4 ls []) rfl ?_
  refine lv_aload_n hx hb dX3_init_4 rfl (lv_at hl 0 rfl) ?_
  refine lv_aload_n hx hb dX3_init_5 rfl (lv_at hl 1 rfl) ?_
  refine z_putF (ci := 3) (fs := [.null, .int 0, .null, .int 0]) (fs' := [.ref bd, .int 0, .null, .int 0]) (v := .ref bd) (ty := .object "FairRents$Plain") (C := RX3) (T := TX3) (N := 4) hx hb hts in_X3 tyX3 tyX3_ok nmX3 hown hK hZ ha rfl 0 (by decide) fl_7 (fun _ h9 => h9) rfl hname rfl (by decide +kernel) rfl rfl (Nat.le_of_ble_eq_true rfl) rfl dX3_init_6 (fun H locs hZ => ?_)
  refine lv_aload_n hx hb dX3_init_9 rfl (lv_at hl 0 rfl) ?_
  refine lv_iload_n hx hb dX3_init_10 rfl (lv_at hl 2 rfl) ?_
  refine z_putF (ci := 3) (fs := [.ref bd, .int 0, .null, .int 0]) (fs' := [.ref bd, .int ar, .null, .int 0]) (v := .int ar) (ty := .int) (C := RX3) (T := TX3) (N := 4) hx hb hts in_X3 tyX3 tyX3_ok nmX3 hown hK hZ (va_up_self _ _ _) rfl 1 (by decide) fl_13 (fun _ h9 => h9) rfl hname rfl (by decide +kernel) rfl rfl (Nat.le_of_ble_eq_true rfl) rfl dX3_init_11 (fun H locs hZ => ?_)
  rw [bx_uu] at hZ
  refine lv_aload_n hx hb dX3_init_14 rfl (lv_at hl 0 rfl) ?_
  refine z_new (ci := 5) (fs := [.null, .int 0, .int 0, .int 0, .int 0]) (C := RX5) (T := TX5) (N := 5) hx hb hts in_X5 tyX5 tyX5_ok hown (hts (.classLink RX3 17 RX5) (by decide +kernel)) (hts (.instantiable RX5 5) (by decide +kernel)) (hts (.initialized RX5) (by decide +kernel)) hK hZ hA rfl (fun j hj => by rcases (show j = 0 ∨ j = 1 ∨ j = 2 ∨ j = 3 ∨ j = 4 by omega) with rfl | rfl | rfl | rfl | rfl <;> rfl) (Nat.le_of_ble_eq_true rfl) (Nat.le_of_ble_eq_true rfl) dX3_init_15 (fun t H hf_t hZ => ?_)
  have ne_a_t : a ≠ t := z_nef (va_up_self _ _ _) hf_t
  refine W.widen (k := 1) (n := 5) (by decide) (by decide) ?_
  refine lv_dup hx hb dX3_init_18 rfl ?_
  refine z_call (va_runIN (As := []) (rest := [.ref t, .ref a]) ⟨hx, hb, hml, hown, hts⟩ (c_X5_init l D cT _ _ t (va_up_self _ _ _)) ⟨va_cnB 0 hts gX3_init_X5_init_n19 rfl rfl rfl hE.1.2.1 (hts (.initialized RX5) (by decide +kernel)) (by decide +kernel) ⟨(Nat.le_of_ble_eq_true rfl), (Nat.le_of_ble_eq_true rfl)⟩, rfl, hts (.instanceMethod yX5_init) (by decide +kernel)⟩ (z_preS hK hE hZ hA) rfl rfl hl.1 rfl (lv_room (Nat.le_of_ble_eq_true rfl)) dX3_init_19 ⟨(Nat.le_of_ble_eq_true rfl), (Nat.le_of_ble_eq_true rfl)⟩) hZ hA (fun r G19 H locs hq hZ => ?_)
  obtain ⟨⟨q19, ne_q19, hf_q19, rfl⟩, rfl⟩ := hq
  have ne_a_q19 : a ≠ q19 := z_nef ((va_up_ne _ _ ne_a_t).trans (va_up_self _ _ _)) hf_q19
  have ne_t_q19 : t ≠ q19 := z_nef (va_up_self _ _ _) hf_q19
  refine W.eq (g2 := F0 m 22 ls [.ref t, .ref a]) rfl ?_
  refine W.widen (k := 2) (n := 306) (by decide) (by decide) ?_
  refine z_putF (ci := 3) (fs := [.ref bd, .int ar, .null, .int 0]) (fs' := [.ref bd, .int ar, .ref t, .int 0]) (v := .ref t) (ty := .object "FairRents$Letting") (C := RX3) (T := TX3) (N := 4) hx hb hts in_X3 tyX3 tyX3_ok nmX3 hown hK hZ ((va_up_ne _ _ ne_a_t).trans ((va_up_ne _ _ ne_a_q19).trans ((va_up_ne _ _ ne_a_t).trans (va_up_self _ _ _)))) rfl 2 (by decide) fl_20 (fun _ h9 => h9) rfl hname rfl (by decide +kernel) rfl rfl (Nat.le_of_ble_eq_true rfl) rfl dX3_init_22 (fun H locs hZ => ?_)
  exact z_vret hx hb hr hlocks hZ dX3_init_25 (⟨⟨t, q19, ne_a_t.symm, ne_a_q19.symm, ne_t_q19.symm, z_upn ne_a_t.symm hf_t, z_upn ne_a_q19.symm (z_upn ne_t_q19.symm hf_q19), z_up5⟩, rfl⟩)
end
section
/-! THE STATE: whole numbers that serve as places or counts (S.1 k i: the model's field k at place i), other ints (S.2.1 k i), the trace (S.2.2). -/
abbrev zS : Type := (Nat → Nat → Nat) × (Nat → Nat → Int32) × Int64
def sN (S : zS) (k i v : Nat) : zS := (fun a b => if a = k ∧ b = i then v else S.1 a b, S.2)
def sG (S : zS) (k i : Nat) (v : Int32) : zS := (S.1, fun a b => if a = k ∧ b = i then v else S.2.1 a b, S.2.2)
def sT (S : zS) (t : Int64) : zS := (S.1, S.2.1, t)
def sZ (S : zS) (j : Nat) : zS := (S.1, fun a b => if a = 19 ∧ 301 * j ≤ b ∧ b < 301 * j + 301 then 0 else S.2.1 a b, S.2.2)
def cN (S : zS) (k : Nat) : Nat → Int32 := fun i => nI (S.1 k i)
def cL (S : zS) : Nat → Int32 := fun h => if S.1 18 h = 0 then -1 else nI (S.1 16 h)
theorem cN_sN (S : zS) (k i v : Nat) : upd (cN S k) i (nI v) = cN (sN S k i v) k := by
  funext j
  by_cases h : j = i
  · simp [upd, cN, sN, h]
  · simp [upd, cN, sN, h]
theorem cG_sG (S : zS) (k i : Nat) (v : Int32) : upd (S.2.1 k) i v = (sG S k i v).2.1 k := by
  funext j
  by_cases h : j = i
  · simp [upd, sG, h]
  · simp [upd, sG, h]
def mK : List Nat := [0, 2, 3, 4, 5, 6, 8, 9, 11, 12, 13, 14, 15, 16, 17, 18, 19, 21, 22, 23, 24, 25, 26, 27, 29]
def XI (X : Nat → Nat) : Prop := ∀ i j, i ∈ mK → j ∈ mK → X i = X j → i = j
/-- the model's cells -/
def MD (cT : Nat → ClassId) (S : zS) (X : Nat → Nat) (c28 : Int32) (f27 f29 : Nat → Int32) (G : zG) : Prop :=
  G (X 0) = some (.inr (10, [.int (nI (S.1 0 0)), .int (nI (S.1 1 0)), .ref (X 2), .ref (X 3), .ref (X 4), .ref (X 5), .ref (X 6), .long S.2.2, .ref (X 8), .ref (X 9), .int (nI (S.1 10 0)), .ref (X 11), .ref (X 12), .ref (X 13), .ref (X 14), .ref (X 15), .ref (X 16), .ref (X 17), .ref (X 18), .ref (X 19), .int (nI (S.1 20 0)), .ref (X 21), .ref (X 22), .ref (X 23), .ref (X 24), .ref (X 25), .ref (X 26), .ref (X 27), .int c28, .ref (X 29)])) ∧
  G (X 2) = some (.inl (cT 0, 8, .inl (cN S 2))) ∧
  G (X 3) = some (.inl (cT 0, 8, .inl (cN S 3))) ∧
  G (X 4) = some (.inl (cT 0, 8, .inl (cN S 4))) ∧
  G (X 5) = some (.inl (cT 0, 8, .inl (cN S 5))) ∧
  G (X 6) = some (.inl (cT 0, 8, .inl (S.2.1 6))) ∧
  G (X 8) = some (.inl (cT 0, 224, .inl (S.2.1 8))) ∧
  G (X 9) = some (.inl (cT 1, 31, .inl (cN S 9))) ∧
  G (X 11) = some (.inl (cT 0, 12, .inl (S.2.1 11))) ∧
  G (X 12) = some (.inl (cT 0, 12, .inl (S.2.1 12))) ∧
  G (X 13) = some (.inl (cT 0, 12, .inl (S.2.1 13))) ∧
  G (X 14) = some (.inl (cT 0, 12, .inl (S.2.1 14))) ∧
  G (X 15) = some (.inl (cT 1, 12, .inl (cN S 15))) ∧
  G (X 16) = some (.inl (cT 0, 8, .inl (cL S))) ∧
  G (X 17) = some (.inl (cT 0, 8, .inl (S.2.1 17))) ∧
  G (X 18) = some (.inl (cT 0, 8, .inl (cN S 18))) ∧
  G (X 19) = some (.inl (cT 0, 2408, .inl (S.2.1 19))) ∧
  G (X 21) = some (.inl (cT 0, 20, .inl (cN S 21))) ∧
  G (X 22) = some (.inl (cT 0, 20, .inl (cN S 22))) ∧
  G (X 23) = some (.inl (cT 0, 20, .inl (S.2.1 23))) ∧
  G (X 24) = some (.inl (cT 0, 60, .inl (S.2.1 24))) ∧
  G (X 25) = some (.inl (cT 0, 20, .inl (cN S 25))) ∧
  G (X 26) = some (.inl (cT 1, 20, .inl (cN S 26))) ∧
  G (X 27) = some (.inl (cT 0, 12, .inl f27)) ∧
  G (X 29) = some (.inl (cT 0, 301, .inl f29))
def MDx (cT : Nat → ClassId) (S : zS) (X : Nat → Nat) (G : zG) : Prop := ∃ (c28 : Int32) (f27 f29 : Nat → Int32), MD cT S X c28 f27 f29 G
def mQ (cT : Nat → ClassId) (X : Nat → Nat) (res : Int32 × zS) : Option Value → zG → Prop := fun r G' => MDx cT res.2 X G' ∧ r = some (.int res.1)
theorem mQ_of {cT : Nat → ClassId} {X : Nat → Nat} {res : Int32 × zS} {v : Int32} {S : zS} {G : zG} (hs : res = (v, S)) (h : MDx cT S X G) : mQ cT X res (some (.int v)) G := by
  subst hs
  exact ⟨h, rfl⟩
/-! WHAT THE CALLS ANSWER -/
def zDef : Nat → Int32 := fun k => if k = 3 then 1 else if k = 5 then 500 else if k = 6 then 20 else 0
def hix (S : zS) (x : Int32) : Option Nat := if 0 ≤ x ∧ x ≤ nI (S.1 1 0) - 1 then some x.toNatClampNeg else none
def sp_home (S : zS) (k a r f : Int32) : Int32 × zS :=
  if (0 ≤ k ∧ k ≤ 2) ∧ (0 ≤ a ∧ a ≤ 2) ∧ (1 ≤ r ∧ r ≤ 9) ∧ (0 ≤ f ∧ f ≤ 9) then
    if S.1 1 0 = 8 then (-3, S)
    else (nI (S.1 1 0), sN (sG (sN (sN (sN (sN S 2 (S.1 1 0) k.toNatClampNeg) 3 (S.1 1 0) a.toNatClampNeg) 4 (S.1 1 0) r.toNatClampNeg) 5 (S.1 1 0) f.toNatClampNeg) 6 (S.1 1 0) 0) 1 0 (S.1 1 0 + 1))
  else (-1, S)
def sp_faults (S : zS) (x n : Int32) : Int32 × zS := match hix S x with
  | none => (-1, S)
  | some j => if 0 ≤ n ∧ n ≤ 9 then (S.2.1 6 j, sG S 6 j n) else (-1, S)
def pts (S : zS) (j : Nat) : Int32 :=
  if S.1 2 j = 0 then 10 * nI (S.1 4 j) else if S.1 2 j = 1 then 10 * nI (S.1 4 j) - 2 * nI (S.1 5 j) else 10 * nI (S.1 4 j) - 2 * nI (S.1 5 j) - zfd (10 * nI (S.1 4 j) - 2 * nI (S.1 5 j))
def mks (S : zS) (j : Nat) : Int64 := if S.1 2 j = 0 then 1 else if S.1 2 j = 1 then 11 else 111
def sp_points (S : zS) (x : Int32) : Int32 × zS := match hix S x with
  | none => (-1, S)
  | some j => (pts S j, sT S (S.2.2 + mks S j))
abbrev lawIn (y a b c w le st ba : Int32) : Prop := (0 ≤ y ∧ y ≤ 30) ∧ (0 ≤ a ∧ a ≤ 90) ∧ (0 ≤ b ∧ b ≤ 90) ∧ (0 ≤ c ∧ c ≤ 90) ∧ (1 ≤ w ∧ w ≤ 9) ∧ (0 ≤ le ∧ le ≤ 20) ∧ (1 ≤ st ∧ st ≤ 500) ∧ (0 ≤ ba ∧ ba ≤ 60)
def sLaw (S : zS) (y : Nat) (a b c w le st ba : Int32) : zS :=
  sN (sG (sG (sG (sG (sG (sG (sG S 8 (7 * y) a) 8 (7 * y + 1) b) 8 (7 * y + 2) c) 8 (7 * y + 3) w) 8 (7 * y + 4) le) 8 (7 * y + 5) st) 8 (7 * y + 6) ba) 9 y 1
def sp_law (S : zS) (y a b c w le st ba : Int32) : Int32 × zS :=
  if lawIn y a b c w le st ba then
    if 10 * y.toNatClampNeg ≤ S.1 0 0 then (-2, S) else (1, sLaw S y.toNatClampNeg a b c w le st ba)
  else (-1, S)
def yrS (S : zS) : Nat → Nat
  | 0 => 31
  | y + 1 => if S.1 9 y = 1 then y else yrS S y
/-- the year of the law that is in force on a day; 31: the first one -/
def yx (S : zS) (d : Nat) : Nat := yrS S (min (d / 10) 30 + 1)
def lw (S : zS) (d k : Nat) : Int32 := S.2.1 8 (7 * yx S d + k)
def sp_force (S : zS) (d w : Int32) : Int32 × zS :=
  if (0 ≤ d ∧ d ≤ 400) ∧ (0 ≤ w ∧ w ≤ 7) then
    (if w.toNatClampNeg < 7 then lw S d.toNatClampNeg w.toNatClampNeg else if yx S d.toNatClampNeg = 31 then -9 else nI (yx S d.toNatClampNeg), S)
  else (-1, S)
def sp_like (S : zS) (a p r : Int32) : Int32 × zS :=
  if (0 ≤ a ∧ a ≤ 2) ∧ (0 ≤ p ∧ p ≤ 200) ∧ (1 ≤ r ∧ r ≤ 5000) then
    if S.1 10 0 = 12 then (-3, S)
    else (nI (S.1 10 0), sN (sN (sG (sG (sG (sG S 11 (S.1 10 0) a) 12 (S.1 10 0) p) 13 (S.1 10 0) r) 14 (S.1 10 0) (nI (S.1 0 0))) 15 (S.1 10 0) 0) 10 0 (S.1 10 0 + 1))
  else (-1, S)
def sp_strike (S : zS) (x : Int32) : Int32 × zS :=
  if 0 ≤ x ∧ x ≤ nI (S.1 10 0) - 1 then
    if S.1 15 x.toNatClampNeg = 0 then (1, sN S 15 x.toNatClampNeg 1) else (-2, S)
  else (-1, S)
def sp_days (S : zS) (x : Int32) : Int32 × zS :=
  if 1 ≤ x ∧ x ≤ 30 then
    if 300 < S.1 0 0 + x.toNatClampNeg then (-2, S) else (nI (S.1 0 0 + x.toNatClampNeg), sN S 0 0 (S.1 0 0 + x.toNatClampNeg))
  else (-1, S)
/-- a value goes in among the first k, which are in order -/
def insAt (v : Int32) : Nat → (Nat → Int32) → (Nat → Int32)
  | 0, f => upd f 0 v
  | k + 1, f => if v < f k then insAt v k (upd f (k + 1) (f k)) else upd f (k + 1) v
def vl (S : zS) (j d i : Nat) : Int32 := S.2.1 13 i + lw S d 3 * (pts S j - S.2.1 12 i)
def clc (S : zS) (j d : Nat) (f0 : Nat → Int32) : Nat → (Nat → Int32) × Nat
  | 0 => (f0, 0)
  | i + 1 => if S.1 15 i = 0 ∧ S.2.1 11 i = nI (S.1 3 j) ∧ ¬ nI d < S.2.1 14 i then (insAt (vl S j d i) (clc S j d f0 i).2 (clc S j d f0 i).1, (clc S j d f0 i).2 + 1) else clc S j d f0 i
def hcnt (S : zS) (j d : Nat) : Nat := (clc S j d (fun _ => 0) (S.1 10 0)).2
def h0 (S : zS) (j d : Nat) : Int32 := if hcnt S j d = 0 then 0 else (clc S j d (fun _ => 0) (S.1 10 0)).1 ((hcnt S j d - 1) / 2)
def h1 (S : zS) (j d : Nat) : Int32 := if h0 S j d < 0 then 0 else -(lw S d (S.1 3 j) * h0 S j d / 100)
def h2 (S : zS) (j d : Nat) : Int32 := -(lw S d 4 * S.2.1 6 j)
def h3 (S : zS) (j d : Nat) : Int32 := if 1 < h0 S j d + h1 S j d + h2 S j d then h0 S j d + h1 S j d + h2 S j d else 1
def hv (S : zS) (j d w : Nat) : Int32 := if w = 0 then h0 S j d else if w = 1 then h1 S j d else if w = 2 then h2 S j d else if w = 3 then h3 S j d else nI (hcnt S j d)
def sp_head (S : zS) (x d w : Int32) : Int32 × zS := match hix S x with
  | none => (-1000000000, S)
  | some j => if (0 ≤ d ∧ d ≤ 300) ∧ (0 ≤ w ∧ w ≤ 4) then (hv S j d.toNatClampNeg w.toNatClampNeg, S) else (-1000000000, S)
def sp_let (S : zS) (x r : Int32) : Int32 × zS := match hix S x with
  | none => (-1, S)
  | some j => if 1 ≤ r ∧ r ≤ 5000 then (1, sZ (sN (sG (sN S 16 j (S.1 0 0)) 17 j r) 18 j (S.1 18 j + 1)) j) else (-1, S)
def latS (S : zS) (j : Nat) : Nat → Option Nat
  | 0 => none
  | e + 1 => if S.1 21 e = j ∧ S.1 26 e = 0 then some e else latS S j e
def lat (S : zS) (j : Nat) : Option Nat := latS S j (S.1 20 0)
def bar (S : zS) (j : Nat) : Int32 := match lat S j with
  | none => 0
  | some e => nI (S.1 22 e) + lw S (S.1 22 e) 6
def sAsk (S : zS) (j : Nat) : zS :=
  sN (sN (sN (sG (sG (sG (sG (sN (sN S 21 (S.1 20 0) j) 22 (S.1 20 0) (S.1 0 0)) 23 (S.1 20 0) (h3 S j (S.1 0 0))) 24 (3 * S.1 20 0) (h0 S j (S.1 0 0))) 24 (3 * S.1 20 0 + 1) (h1 S j (S.1 0 0))) 24 (3 * S.1 20 0 + 2) (h2 S j (S.1 0 0))) 25 (S.1 20 0) (S.1 18 j)) 26 (S.1 20 0) 0) 20 0 (S.1 20 0 + 1)
def sp_ask (S : zS) (x : Int32) : Int32 × zS := match hix S x with
  | none => (-1, S)
  | some j => if S.1 18 j = 0 ∨ nI (S.1 0 0) < bar S j then (-2, S) else if S.1 20 0 = 20 then (-3, S) else (nI (S.1 20 0), sAsk S j)
def sp_open (S : zS) (x : Int32) : Int32 × zS := match hix S x with
  | none => (-1, S)
  | some j => (if nI (S.1 0 0) < bar S j then bar S j else nI (S.1 0 0), S)
def sp_appeal (S : zS) (x : Int32) : Int32 × zS := match hix S x with
  | none => (-1, S)
  | some j => match lat S j with
    | none => (-2, S)
    | some e => if S.1 22 e + 5 < S.1 0 0 then (-2, S) else (nI e, sN S 26 e 1)
def ev (S : zS) (e w : Nat) : Int32 := if w = 0 then nI (S.1 21 e) else if w = 1 then nI (S.1 22 e) else if w = 2 then S.2.1 23 e else if w = 6 then (if S.1 26 e = 0 then 1 else 0) else S.2.1 24 (3 * e + (w - 3))
def sp_entry (S : zS) (x w : Int32) : Int32 × zS :=
  if (0 ≤ x ∧ x ≤ nI (S.1 20 0) - 1) ∧ (0 ≤ w ∧ w ≤ 6) then (ev S x.toNatClampNeg w.toNatClampNeg, S) else (-1000000000, S)
def sp_latest (S : zS) (x : Int32) : Int32 × zS := match hix S x with
  | none => (-1, S)
  | some j => (match lat S j with | none => -9 | some e => nI e, S)
/-- the latest entry that binds on a day -/
def bndS (S : zS) (j t : Nat) : Nat → Option Nat
  | 0 => none
  | e + 1 => if S.1 21 e = j ∧ S.1 26 e = 0 ∧ S.1 25 e = S.1 18 j ∧ S.1 22 e ≤ t then some e else bndS S j t e
def stp (S : zS) (e t : Nat) (o : Int32) : Int32 := if o < S.2.1 23 e then (if o + lw S (S.1 22 e) 5 * nI ((t - S.1 22 e) / 10 + 1) < S.2.1 23 e then o + lw S (S.1 22 e) 5 * nI ((t - S.1 22 e) / 10 + 1) else S.2.1 23 e) else S.2.1 23 e
/-- what is due on a day, by what was due on the days ahead of it -/
def dv (S : zS) (j t : Nat) (f : Nat → Int32) : Int32 := match bndS S j t (S.1 20 0) with
  | none => S.2.1 17 j
  | some e => stp S e t (if S.1 22 e = S.1 16 j then S.2.1 17 j else f (S.1 22 e - 1))
/-- the table of dues behind k days of a letting -/
def duT (S : zS) (j : Nat) (f0 : Nat → Int32) : Nat → (Nat → Int32)
  | 0 => f0
  | k + 1 => upd (duT S j f0 k) (S.1 16 j + k) (dv S j (S.1 16 j + k) (duT S j f0 k))
def dd (S : zS) (j t : Nat) : Int32 := duT S j (fun _ => 0) (t + 1 - S.1 16 j) t
def sp_due (S : zS) (x d : Int32) : Int32 × zS := match hix S x with
  | none => (-1, S)
  | some j => if 0 ≤ d ∧ d ≤ nI (S.1 0 0) then (if S.1 18 j = 0 ∨ d.toNatClampNeg < S.1 16 j then (-2, S) else (dd S j d.toNatClampNeg, S)) else (-1, S)
def psum (f : Nat → Int32) : Nat → Int32
  | 0 => 0
  | k + 1 => psum f k + f k
def sp_pay (S : zS) (x v : Int32) : Int32 × zS := match hix S x with
  | none => (-1, S)
  | some j => if 0 ≤ v ∧ v ≤ 100000 then
      (if S.1 18 j = 0 then (-2, S) else if 1000000 < psum (fun d => S.2.1 19 (301 * j + d)) (S.1 0 0 + 1) + v then (-3, S)
       else (psum (fun d => S.2.1 19 (301 * j + d)) (S.1 0 0 + 1) + v, sG S 19 (301 * j + S.1 0 0) (S.2.1 19 (301 * j + S.1 0 0) + v)))
    else (-1, S)
def sp_owed (S : zS) (x d : Int32) : Int32 × zS := match hix S x with
  | none => (-1000000000, S)
  | some j => if (0 ≤ d ∧ d ≤ nI (S.1 0 0)) ∧ ¬ S.1 18 j = 0 ∧ ¬ d.toNatClampNeg < S.1 16 j then
      (-psum (fun t => S.2.1 19 (301 * j + t)) (d.toNatClampNeg + 1) + psum (fun k => dd S j (S.1 16 j + k)) (d.toNatClampNeg + 1 - S.1 16 j), S)
    else (-1000000000, S)
def ctL (S : zS) : Nat → Nat
  | 0 => 0
  | h + 1 => ctL S h + (if S.1 18 h = 0 then 0 else 1)
def ctT (S : zS) : Nat → Nat
  | 0 => 0
  | y + 1 => ctT S y + (if S.1 9 y = 0 then 0 else 1)
def sp_count (S : zS) (x : Int32) : Int32 × zS :=
  (if x = 0 then nI (S.1 1 0) else if x = 1 then nI (S.1 10 0) else if x = 2 then nI (S.1 20 0) else if x = 3 then nI (S.1 0 0) else if x = 4 then nI (ctL S (S.1 1 0)) else if x = 5 then nI (ctT S 31) else -1, S)
/-- what holds of every state that calls come to; n: how many calls there were -/
def ok (S : zS) (n : Nat) : Prop :=
  (S.1 1 0 ≤ 8 ∧ S.1 10 0 ≤ 12 ∧ S.1 20 0 ≤ 20 ∧ S.1 0 0 ≤ 300) ∧
  (∀ h, h < S.1 1 0 → S.1 2 h ≤ 2 ∧ S.1 3 h ≤ 2 ∧ 1 ≤ S.1 4 h ∧ S.1 4 h ≤ 9 ∧ S.1 5 h ≤ 9) ∧
  (∀ y, S.1 9 y ≤ 1) ∧ (∀ k, k < 7 → S.2.1 8 (217 + k) = zDef k) ∧
  (∀ i, S.1 15 i ≤ 1) ∧ (∀ e, S.1 26 e ≤ 1) ∧
  (∀ h, S.1 18 h ≤ n ∧ S.1 16 h ≤ S.1 0 0 ∧ (S.1 18 h = 0 → S.1 16 h = 0 ∧ S.2.1 17 h = 0)) ∧
  (∀ h, S.1 1 0 ≤ h → S.1 18 h = 0) ∧
  (∀ h d, h < 8 → d < 301 → (S.1 0 0 < d ∨ d < S.1 16 h ∨ S.1 18 h = 0) → S.2.1 19 (301 * h + d) = 0) ∧
  (∀ e, e < S.1 20 0 → S.1 21 e < S.1 1 0 ∧ S.1 22 e ≤ S.1 0 0 ∧ S.1 25 e ≤ S.1 18 (S.1 21 e) ∧ (S.1 25 e = S.1 18 (S.1 21 e) → S.1 16 (S.1 21 e) ≤ S.1 22 e)) ∧
  (∀ e e', e ≤ e' → e' < S.1 20 0 → S.1 22 e ≤ S.1 22 e') ∧ n < 1000000
theorem nI_inj {a b : Nat} (ha : a < 2 ^ 31) (hb : b < 2 ^ 31) (h : nI a = nI b) : a = b := (nI_eq ha hb).mp h
theorem hix_yes {S : zS} {x : Int32} (hn : S.1 1 0 ≤ 8) (h : 0 ≤ x ∧ x ≤ nI (S.1 1 0) - 1) : ∃ j, j < S.1 1 0 ∧ x = nI j ∧ hix S x = some j := by
  have hp : 0 < S.1 1 0 := by
    rcases Nat.eq_zero_or_pos (S.1 1 0) with h0 | h0
    · rw [h0] at h
      exfalso
      have h1 := h.1
      have h2 := h.2
      rw [i_le] at h1 h2
      rw [show (nI 0 - 1 : Int32).toInt = -1 by decide] at h2
      rw [show (0 : Int32).toInt = 0 by decide] at h1
      omega
    · exact h0
  have h' := h
  rw [nI_sub1 hp] at h'
  obtain ⟨j, hj, rfl⟩ := z_wn h' (by omega)
  refine ⟨j, by omega, rfl, ?_⟩
  rw [hix, if_pos h, nI_clamp (by omega)]
theorem hix_no {S : zS} {x : Int32} (h : ¬ (0 ≤ x ∧ x ≤ nI (S.1 1 0) - 1)) : hix S x = none := by rw [hix, if_neg h]
theorem hix_in {S : zS} {j : Nat} (hj : j < S.1 1 0) (hn : S.1 1 0 ≤ 8) : hix S (nI j) = some j := by
  rw [hix, if_pos (z_wi1 hj (by omega)), nI_clamp (by omega)]
end
section
theorem z_self {v : Int32} (h : 0 ≤ v) : nI v.toNatClampNeg = v := by
  have h1 : ¬ v < 0 := fun q => by rw [i_lt] at q; rw [i_le] at h; omega
  obtain ⟨j, hj, rfl⟩ := nI_of h1
  rw [nI_clamp hj]
theorem cN_sN' (S : zS) (k i : Nat) {v : Int32} (h : 0 ≤ v) : upd (cN S k) i v = cN (sN S k i v.toNatClampNeg) k := by
  rw [← cN_sN, z_self h]
theorem z_le01 {x : Int32} (h : 1 ≤ x) : 0 ≤ x := by
  rw [i_le] at h ⊢
  have h1 : (1 : Int32).toInt = 1 := by decide
  have h0 : (0 : Int32).toInt = 0 := by decide
  omega
theorem pts_a {S : zS} {j : Nat} (g2 : S.1 2 j ≤ 2) (_ : ¬ 2 ≤ nI (S.1 2 j)) (c15 : nI (S.1 2 j) ≤ 0) : some (Value.int (10 * nI (S.1 4 j) - 0)) = some (.int (pts S j)) := by
  have h : S.1 2 j = 0 := by
    have := (nI_leI (by omega) (by decide)).mp (show nI (S.1 2 j) ≤ nI 0 from c15)
    omega
  rw [pts, if_pos h, Int32.sub_zero]
theorem pts_b {S : zS} {j : Nat} (g2 : S.1 2 j ≤ 2) (c39 : ¬ 2 ≤ nI (S.1 2 j)) (c15 : ¬ nI (S.1 2 j) ≤ 0) : some (Value.int (10 * nI (S.1 4 j) - 2 * nI (S.1 5 j))) = some (.int (pts S j)) := by
  have h : ¬ S.1 2 j = 0 := fun h => c15 (by rw [h]; decide)
  have h2 : ¬ 2 ≤ S.1 2 j := fun h => c39 ((nI_leI (a := 2) (by decide) (by omega)).mpr h)
  rw [pts, if_neg h, if_pos (by omega)]
theorem pts_x {S : zS} {j : Nat} (g2 : S.1 2 j ≤ 2) (c39 : 2 ≤ nI (S.1 2 j)) : ¬ nI (S.1 2 j) ≤ 0 := by
  have h2 := (nI_leI (a := 2) (by decide) (by omega)).mp c39
  intro h
  have := (nI_leI (by omega) (by decide)).mp (show nI (S.1 2 j) ≤ nI 0 from h)
  omega
theorem pts_fin : ∀ r, r < 10 → ∀ f, f < 10 → (10 * nI r - 2 * nI f < 0 → -((3 - (10 * nI r - 2 * nI f)) / 4) = zfd (10 * nI r - 2 * nI f)) ∧ (¬ 10 * nI r - 2 * nI f < 0 → (10 * nI r - 2 * nI f) / 4 = zfd (10 * nI r - 2 * nI f)) := by
  decide +kernel
theorem pts_2 {S : zS} {j : Nat} (g2 : S.1 2 j ≤ 2) (c39 : 2 ≤ nI (S.1 2 j)) : pts S j = 10 * nI (S.1 4 j) - 2 * nI (S.1 5 j) - zfd (10 * nI (S.1 4 j) - 2 * nI (S.1 5 j)) := by
  have h2 := (nI_leI (a := 2) (by decide) (by omega)).mp c39
  rw [pts, if_neg (by omega), if_neg (by omega)]
theorem pts_c {S : zS} {j : Nat} (g2 : S.1 2 j ≤ 2) (g4 : S.1 4 j ≤ 9) (g5 : S.1 5 j ≤ 9) (c39 : 2 ≤ nI (S.1 2 j)) (c45 : 10 * nI (S.1 4 j) - 2 * nI (S.1 5 j) < 0) : some (Value.int (10 * nI (S.1 4 j) - 2 * nI (S.1 5 j) - -((3 - (10 * nI (S.1 4 j) - 2 * nI (S.1 5 j))) / 4))) = some (.int (pts S j)) := by
  rw [pts_2 g2 c39, (pts_fin _ (by omega) _ (by omega)).1 c45]
theorem pts_d {S : zS} {j : Nat} (g2 : S.1 2 j ≤ 2) (g4 : S.1 4 j ≤ 9) (g5 : S.1 5 j ≤ 9) (c39 : 2 ≤ nI (S.1 2 j)) (c45 : ¬ 10 * nI (S.1 4 j) - 2 * nI (S.1 5 j) < 0) : some (Value.int (10 * nI (S.1 4 j) - 2 * nI (S.1 5 j) - (10 * nI (S.1 4 j) - 2 * nI (S.1 5 j)) / 4)) = some (.int (pts S j)) := by
  rw [pts_2 g2 c39, (pts_fin _ (by omega) _ (by omega)).2 c45]
end
section
set_option maxHeartbeats 4000000 in
set_option maxRecDepth 100000 in
theorem c_X10_in (l : Launch) (D : va_G) (cT : Nat → ClassId) (G : zG) (sz : Nat) (x lo hi : Int32)  : zM l D cT yX10_in wsX10_in (zR 0 0 0) [.int x, .int lo, .int hi] G sz (fun r G' => G' = G ∧ r = some (.int (if lo ≤ x ∧ x ≤ hi then 1 else 0))) := by
  refine z_start (cc := cX10_in) (maxL := 3) (ret := (some .boolean)) (by decide) rfl (Nat.le_of_ble_eq_true rfl) ?_
  intro p e s m below meth c ls hI hZ hl
  obtain ⟨hx, hb, hr, hml, hts, hown, hlocks, hname, hK, hA, hE⟩ := hI
  have hl : lv_has ls 3 [(0, .int x), (1, .int lo), (2, .int hi)] := hl
  have hown : s.vm.findClass RX10 = some m.cls := hown
  refine lv_iload_n hx hb dX10_in_0 rfl (lv_at hl 0 rfl) ?_
  refine lv_iload_n hx hb dX10_in_1 rfl (lv_at hl 1 rfl) ?_
  refine lv_icmp_lt (tgt := 14) hx hb dX10_in_2 (by decide) (fun c2 => ?_) (fun c2 => ?_)
  · refine lv_iconst (v := 0) hx hb dX10_in_14 (by decide) ?_
    exact z_zret hx hb hr hlocks hZ (Or.inl rfl) dX10_in_15 (⟨rfl, z_wl c2⟩)
  · refine lv_iload_n hx hb dX10_in_5 rfl (lv_at hl 0 rfl) ?_
    refine lv_iload_n hx hb dX10_in_6 rfl (lv_at hl 2 rfl) ?_
    refine lv_icmp_gt (tgt := 14) hx hb dX10_in_7 (by decide) (fun c7 => ?_) (fun c7 => ?_)
    · refine lv_iconst (v := 0) hx hb dX10_in_14 (by decide) ?_
      exact z_zret hx hb hr hlocks hZ (Or.inl rfl) dX10_in_15 (⟨rfl, z_wr c7⟩)
    · refine lv_iconst (v := 1) hx hb dX10_in_10 (by decide) ?_
      refine lv_goto (tgt := 15) hx hb dX10_in_11 (by decide) ?_
      exact z_zret hx hb hr hlocks hZ (Or.inr rfl) dX10_in_15 (⟨rfl, z_w1 c2 c7⟩)

set_option maxHeartbeats 4000000 in
set_option maxRecDepth 100000 in
theorem c_X10_isHome (l : Launch) (D : va_G) (cT : Nat → ClassId) (G : zG) (sz : Nat) (S : zS) (X : Nat → Nat) (cz : Int32) (f27 f29 : Nat → Int32) (nn : Nat) (x : Int32) (hM : MD cT S X cz f27 f29 G) (hXI : XI X) (hS : ok S nn)  : zM l D cT yX10_isHome wsX10_isHome (zR 1 0 0) [.ref (X 0), .int x] G sz (fun r G' => G' = G ∧ r = some (.int (if 0 ≤ x ∧ x ≤ nI (S.1 1 0) - 1 then 1 else 0))) := by
  refine z_start (cc := cX10_isHome) (maxL := 2) (ret := (some .boolean)) (by decide) rfl (Nat.le_of_ble_eq_true rfl) ?_
  intro p e s m below meth c ls hI hZ hl
  obtain ⟨hx, hb, hr, hml, hts, hown, hlocks, hname, hK, hA, hE⟩ := hI
  have hl : lv_has ls 2 [(0, .ref (X 0)), (1, .int x)] := hl
  have hown : s.vm.findClass RX10 = some m.cls := hown
  have in_X10 : ∀ w ∈ u_ws RX10 TX10 30, w ∈ wsX10_isHome := by decide +kernel
  have fl_83 := hts (.fieldLink RX10 83 "FairRentsModel" "homes" "I") (by decide +kernel)
  obtain ⟨m0, m2, m3, m4, m5, m6, m8, m9, m11, m12, m13, m14, m15, m16, m17, m18, m19, m21, m22, m23, m24, m25, m26, m27, m29⟩ := id hM
  obtain ⟨⟨k1, k10, k20, k0⟩, kH, k9, k8, k15, k26, kL, kLn, kP, kE, kEm, kn⟩ := id hS
  refine lv_iload_n hx hb dX10_isHome_0 rfl (lv_at hl 1 rfl) ?_
  refine lv_iconst (v := 0) hx hb dX10_isHome_1 (by decide) ?_
  refine lv_aload_n hx hb dX10_isHome_2 rfl (lv_at hl 0 rfl) ?_
  refine z_get (ci := 10) (fs := [.int (nI (S.1 0 0)), .int (nI (S.1 1 0)), .ref (X 2), .ref (X 3), .ref (X 4), .ref (X 5), .ref (X 6), .long S.2.2, .ref (X 8), .ref (X 9), .int (nI (S.1 10 0)), .ref (X 11), .ref (X 12), .ref (X 13), .ref (X 14), .ref (X 15), .ref (X 16), .ref (X 17), .ref (X 18), .ref (X 19), .int (nI (S.1 20 0)), .ref (X 21), .ref (X 22), .ref (X 23), .ref (X 24), .ref (X 25), .ref (X 26), .ref (X 27), .int cz, .ref (X 29)]) (C := RX10) (T := TX10) (N := 30) hx hb hts in_X10 hown hK hZ m0 rfl 1 (by decide) fl_83 (fun _ h9 => h9) rfl dX10_isHome_3 ?_
  refine lv_iconst (v := 1) hx hb dX10_isHome_6 (by decide) ?_
  refine lv_isub hx hb dX10_isHome_7 ?_
  refine z_call (va_runS (As := [.int x, .int 0, .int ((nI (S.1 1 0)) - 1)]) (rest := []) ⟨hx, hb, hml, hown, hts⟩ (c_X10_in l D cT _ _ x 0 ((nI (S.1 1 0)) - 1)) (va_cwS 3 hts gX10_isHome_X10_in rfl rfl rfl (by decide +kernel) ⟨(Nat.le_of_ble_eq_true rfl), (Nat.le_of_ble_eq_true rfl)⟩) (z_preS hK hE hZ hA) rfl rfl hl.1 rfl (lv_room (Nat.le_of_ble_eq_true rfl)) dX10_isHome_8 ⟨(Nat.le_of_ble_eq_true rfl), (Nat.le_of_ble_eq_true rfl)⟩) hZ hA (fun r G8 H locs hq hZ => ?_)
  obtain ⟨hg, rfl⟩ := hq
  replace hg := hg.symm
  subst hg
  refine W.eq (g2 := F0 m 11 ls [.int (if 0 ≤ x ∧ x ≤ ((nI (S.1 1 0)) - 1) then 1 else 0)]) rfl ?_
  exact z_zret hx hb hr hlocks hZ z_01 dX10_isHome_11 (⟨rfl, rfl⟩)

set_option maxHeartbeats 4000000 in
set_option maxRecDepth 100000 in
theorem c_X10_home (l : Launch) (D : va_G) (cT : Nat → ClassId) (G : zG) (sz : Nat) (S : zS) (X : Nat → Nat) (cz : Int32) (f27 f29 : Nat → Int32) (nn : Nat) (x a b f : Int32) (hM : MD cT S X cz f27 f29 G) (hXI : XI X) (hS : ok S nn)  : zM l D cT yX10_home wsX10_home (zR 1 0 0) [.ref (X 0), .int x, .int a, .int b, .int f] G sz (mQ cT X (sp_home S x a b f)) := by
  refine z_start (cc := cX10_home) (maxL := 5) (ret := (some .int)) (by decide) rfl (Nat.le_of_ble_eq_true rfl) ?_
  intro p e s m below meth c ls hI hZ hl
  obtain ⟨hx, hb, hr, hml, hts, hown, hlocks, hname, hK, hA, hE⟩ := hI
  have hl : lv_has ls 5 [(0, .ref (X 0)), (1, .int x), (2, .int a), (3, .int b), (4, .int f)] := hl
  have hown : s.vm.findClass RX10 = some m.cls := hown
  have in_X10 : ∀ w ∈ u_ws RX10 TX10 30, w ∈ wsX10_home := by decide +kernel
  have fl_7 := hts (.fieldLink RX10 7 "FairRentsModel" "kind" "[I") (by decide +kernel)
  have fl_13 := hts (.fieldLink RX10 13 "FairRentsModel" "area" "[I") (by decide +kernel)
  have fl_16 := hts (.fieldLink RX10 16 "FairRentsModel" "rooms" "[I") (by decide +kernel)
  have fl_19 := hts (.fieldLink RX10 19 "FairRentsModel" "floor" "[I") (by decide +kernel)
  have fl_22 := hts (.fieldLink RX10 22 "FairRentsModel" "faults" "[I") (by decide +kernel)
  have fl_83 := hts (.fieldLink RX10 83 "FairRentsModel" "homes" "I") (by decide +kernel)
  obtain ⟨m0, m2, m3, m4, m5, m6, m8, m9, m11, m12, m13, m14, m15, m16, m17, m18, m19, m21, m22, m23, m24, m25, m26, m27, m29⟩ := id hM
  obtain ⟨⟨k1, k10, k20, k0⟩, kH, k9, k8, k15, k26, kL, kLn, kP, kE, kEm, kn⟩ := id hS
  refine lv_iload_n hx hb dX10_home_0 rfl (lv_at hl 1 rfl) ?_
  refine lv_iconst (v := 0) hx hb dX10_home_1 (by decide) ?_
  refine lv_iconst (v := 2) hx hb dX10_home_2 (by decide) ?_
  refine z_call (va_runS (As := [.int x, .int 0, .int 2]) (rest := []) ⟨hx, hb, hml, hown, hts⟩ (c_X10_in l D cT _ _ x 0 2) (va_cwS 3 hts gX10_home_X10_in rfl rfl rfl (by decide +kernel) ⟨(Nat.le_of_ble_eq_true rfl), (Nat.le_of_ble_eq_true rfl)⟩) (z_preS hK hE hZ hA) rfl rfl hl.1 rfl (lv_room (Nat.le_of_ble_eq_true rfl)) dX10_home_3 ⟨(Nat.le_of_ble_eq_true rfl), (Nat.le_of_ble_eq_true rfl)⟩) hZ hA (fun r G3 H locs hq hZ => ?_)
  obtain ⟨hg, rfl⟩ := hq
  replace hg := hg.symm
  subst hg
  refine W.eq (g2 := F0 m 6 ls [.int (if 0 ≤ x ∧ x ≤ 2 then 1 else 0)]) rfl ?_
  refine zb_eq (tgt := 39) hx hb dX10_home_6 (by decide) (fun c6 => ?_) (fun c6 => ?_)
  · refine lv_iconst (v := (-1)) hx hb dX10_home_39 (by decide) ?_
    exact z_iret hx hb hr hlocks hZ dX10_home_40 (mQ_of (by rw [sp_home, if_neg (fun h => c6 h.1)]) ⟨_, _, _, hM⟩)
  · refine lv_iload_n hx hb dX10_home_9 rfl (lv_at hl 2 rfl) ?_
    refine lv_iconst (v := 0) hx hb dX10_home_10 (by decide) ?_
    refine lv_iconst (v := 2) hx hb dX10_home_11 (by decide) ?_
    refine z_call (va_runS (As := [.int a, .int 0, .int 2]) (rest := []) ⟨hx, hb, hml, hown, hts⟩ (c_X10_in l D cT _ _ a 0 2) (va_cwS 3 hts gX10_home_X10_in rfl rfl rfl (by decide +kernel) ⟨(Nat.le_of_ble_eq_true rfl), (Nat.le_of_ble_eq_true rfl)⟩) (z_preS hK hE hZ hA) rfl rfl hl.1 rfl (lv_room (Nat.le_of_ble_eq_true rfl)) dX10_home_12 ⟨(Nat.le_of_ble_eq_true rfl), (Nat.le_of_ble_eq_true rfl)⟩) hZ hA (fun r G12 H locs hq hZ => ?_)
    obtain ⟨hg, rfl⟩ := hq
    replace hg := hg.symm
    subst hg
    refine W.eq (g2 := F0 m 15 ls [.int (if 0 ≤ a ∧ a ≤ 2 then 1 else 0)]) rfl ?_
    refine zb_eq (tgt := 39) hx hb dX10_home_15 (by decide) (fun c15 => ?_) (fun c15 => ?_)
    · refine lv_iconst (v := (-1)) hx hb dX10_home_39 (by decide) ?_
      exact z_iret hx hb hr hlocks hZ dX10_home_40 (mQ_of (by rw [sp_home, if_neg (fun h => c15 h.2.1)]) ⟨_, _, _, hM⟩)
    · refine lv_iload_n hx hb dX10_home_18 rfl (lv_at hl 3 rfl) ?_
      refine lv_iconst (v := 1) hx hb dX10_home_19 (by decide) ?_
      refine lv_bipush (v := 9) hx hb dX10_home_20 (by decide) ?_
      refine z_call (va_runS (As := [.int b, .int 1, .int 9]) (rest := []) ⟨hx, hb, hml, hown, hts⟩ (c_X10_in l D cT _ _ b 1 9) (va_cwS 3 hts gX10_home_X10_in rfl rfl rfl (by decide +kernel) ⟨(Nat.le_of_ble_eq_true rfl), (Nat.le_of_ble_eq_true rfl)⟩) (z_preS hK hE hZ hA) rfl rfl hl.1 rfl (lv_room (Nat.le_of_ble_eq_true rfl)) dX10_home_22 ⟨(Nat.le_of_ble_eq_true rfl), (Nat.le_of_ble_eq_true rfl)⟩) hZ hA (fun r G22 H locs hq hZ => ?_)
      obtain ⟨hg, rfl⟩ := hq
      replace hg := hg.symm
      subst hg
      refine W.eq (g2 := F0 m 25 ls [.int (if 1 ≤ b ∧ b ≤ 9 then 1 else 0)]) rfl ?_
      refine zb_eq (tgt := 39) hx hb dX10_home_25 (by decide) (fun c25 => ?_) (fun c25 => ?_)
      · refine lv_iconst (v := (-1)) hx hb dX10_home_39 (by decide) ?_
        exact z_iret hx hb hr hlocks hZ dX10_home_40 (mQ_of (by rw [sp_home, if_neg (fun h => c25 h.2.2.1)]) ⟨_, _, _, hM⟩)
      · refine lv_iload hx hb dX10_home_28 (lv_at hl 4 rfl) ?_
        refine lv_iconst (v := 0) hx hb dX10_home_30 (by decide) ?_
        refine lv_bipush (v := 9) hx hb dX10_home_31 (by decide) ?_
        refine z_call (va_runS (As := [.int f, .int 0, .int 9]) (rest := []) ⟨hx, hb, hml, hown, hts⟩ (c_X10_in l D cT _ _ f 0 9) (va_cwS 3 hts gX10_home_X10_in rfl rfl rfl (by decide +kernel) ⟨(Nat.le_of_ble_eq_true rfl), (Nat.le_of_ble_eq_true rfl)⟩) (z_preS hK hE hZ hA) rfl rfl hl.1 rfl (lv_room (Nat.le_of_ble_eq_true rfl)) dX10_home_33 ⟨(Nat.le_of_ble_eq_true rfl), (Nat.le_of_ble_eq_true rfl)⟩) hZ hA (fun r G33 H locs hq hZ => ?_)
        obtain ⟨hg, rfl⟩ := hq
        replace hg := hg.symm
        subst hg
        refine W.eq (g2 := F0 m 36 ls [.int (if 0 ≤ f ∧ f ≤ 9 then 1 else 0)]) rfl ?_
        refine zb_ne (tgt := 41) hx hb dX10_home_36 (by decide) (fun c36 => ?_) (fun c36 => ?_)
        · refine lv_aload_n hx hb dX10_home_41 rfl (lv_at hl 0 rfl) ?_
          refine z_get (ci := 10) (fs := [.int (nI (S.1 0 0)), .int (nI (S.1 1 0)), .ref (X 2), .ref (X 3), .ref (X 4), .ref (X 5), .ref (X 6), .long S.2.2, .ref (X 8), .ref (X 9), .int (nI (S.1 10 0)), .ref (X 11), .ref (X 12), .ref (X 13), .ref (X 14), .ref (X 15), .ref (X 16), .ref (X 17), .ref (X 18), .ref (X 19), .int (nI (S.1 20 0)), .ref (X 21), .ref (X 22), .ref (X 23), .ref (X 24), .ref (X 25), .ref (X 26), .ref (X 27), .int cz, .ref (X 29)]) (C := RX10) (T := TX10) (N := 30) hx hb hts in_X10 hown hK hZ m0 rfl 1 (by decide) fl_83 (fun _ h9 => h9) rfl dX10_home_42 ?_
          refine lv_bipush (v := 8) hx hb dX10_home_45 (by decide) ?_
          refine lv_icmp_ne (tgt := 53) hx hb dX10_home_47 (by decide) (fun c47 => ?_) (fun c47 => ?_)
          · have c8 : ¬ S.1 1 0 = 8 := fun h => c47 (by rw [h]; rfl)
            refine lv_aload_n hx hb dX10_home_53 rfl (lv_at hl 0 rfl) ?_
            refine z_get (ci := 10) (fs := [.int (nI (S.1 0 0)), .int (nI (S.1 1 0)), .ref (X 2), .ref (X 3), .ref (X 4), .ref (X 5), .ref (X 6), .long S.2.2, .ref (X 8), .ref (X 9), .int (nI (S.1 10 0)), .ref (X 11), .ref (X 12), .ref (X 13), .ref (X 14), .ref (X 15), .ref (X 16), .ref (X 17), .ref (X 18), .ref (X 19), .int (nI (S.1 20 0)), .ref (X 21), .ref (X 22), .ref (X 23), .ref (X 24), .ref (X 25), .ref (X 26), .ref (X 27), .int cz, .ref (X 29)]) (C := RX10) (T := TX10) (N := 30) hx hb hts in_X10 hown hK hZ m0 rfl 2 (by decide) fl_7 (fun _ h9 => h9) rfl dX10_home_54 ?_
            refine lv_aload_n hx hb dX10_home_57 rfl (lv_at hl 0 rfl) ?_
            refine z_get (ci := 10) (fs := [.int (nI (S.1 0 0)), .int (nI (S.1 1 0)), .ref (X 2), .ref (X 3), .ref (X 4), .ref (X 5), .ref (X 6), .long S.2.2, .ref (X 8), .ref (X 9), .int (nI (S.1 10 0)), .ref (X 11), .ref (X 12), .ref (X 13), .ref (X 14), .ref (X 15), .ref (X 16), .ref (X 17), .ref (X 18), .ref (X 19), .int (nI (S.1 20 0)), .ref (X 21), .ref (X 22), .ref (X 23), .ref (X 24), .ref (X 25), .ref (X 26), .ref (X 27), .int cz, .ref (X 29)]) (C := RX10) (T := TX10) (N := 30) hx hb hts in_X10 hown hK hZ m0 rfl 1 (by decide) fl_83 (fun _ h9 => h9) rfl dX10_home_58 ?_
            refine lv_iload_n hx hb dX10_home_61 rfl (lv_at hl 1 rfl) ?_
            refine z_iast hx hb hK hZ m2 (S.1 1 0) rfl (by omega) (by decide) dX10_home_62 (fun H locs hZ => ?_)
            refine lv_aload_n hx hb dX10_home_63 rfl (lv_at hl 0 rfl) ?_
            refine z_get (ci := 10) (fs := [.int (nI (S.1 0 0)), .int (nI (S.1 1 0)), .ref (X 2), .ref (X 3), .ref (X 4), .ref (X 5), .ref (X 6), .long S.2.2, .ref (X 8), .ref (X 9), .int (nI (S.1 10 0)), .ref (X 11), .ref (X 12), .ref (X 13), .ref (X 14), .ref (X 15), .ref (X 16), .ref (X 17), .ref (X 18), .ref (X 19), .int (nI (S.1 20 0)), .ref (X 21), .ref (X 22), .ref (X 23), .ref (X 24), .ref (X 25), .ref (X 26), .ref (X 27), .int cz, .ref (X 29)]) (C := RX10) (T := TX10) (N := 30) hx hb hts in_X10 hown hK hZ ((va_up_ne _ _ (fun q => absurd (hXI 0 2 (by decide) (by decide) q) (by decide))).trans m0) rfl 3 (by decide) fl_13 (fun _ h9 => h9) rfl dX10_home_64 ?_
            refine lv_aload_n hx hb dX10_home_67 rfl (lv_at hl 0 rfl) ?_
            refine z_get (ci := 10) (fs := [.int (nI (S.1 0 0)), .int (nI (S.1 1 0)), .ref (X 2), .ref (X 3), .ref (X 4), .ref (X 5), .ref (X 6), .long S.2.2, .ref (X 8), .ref (X 9), .int (nI (S.1 10 0)), .ref (X 11), .ref (X 12), .ref (X 13), .ref (X 14), .ref (X 15), .ref (X 16), .ref (X 17), .ref (X 18), .ref (X 19), .int (nI (S.1 20 0)), .ref (X 21), .ref (X 22), .ref (X 23), .ref (X 24), .ref (X 25), .ref (X 26), .ref (X 27), .int cz, .ref (X 29)]) (C := RX10) (T := TX10) (N := 30) hx hb hts in_X10 hown hK hZ ((va_up_ne _ _ (fun q => absurd (hXI 0 2 (by decide) (by decide) q) (by decide))).trans m0) rfl 1 (by decide) fl_83 (fun _ h9 => h9) rfl dX10_home_68 ?_
            refine lv_iload_n hx hb dX10_home_71 rfl (lv_at hl 2 rfl) ?_
            refine z_iast hx hb hK hZ ((va_up_ne _ _ (fun q => absurd (hXI 3 2 (by decide) (by decide) q) (by decide))).trans m3) (S.1 1 0) rfl (by omega) (by decide) dX10_home_72 (fun H locs hZ => ?_)
            refine lv_aload_n hx hb dX10_home_73 rfl (lv_at hl 0 rfl) ?_
            refine z_get (ci := 10) (fs := [.int (nI (S.1 0 0)), .int (nI (S.1 1 0)), .ref (X 2), .ref (X 3), .ref (X 4), .ref (X 5), .ref (X 6), .long S.2.2, .ref (X 8), .ref (X 9), .int (nI (S.1 10 0)), .ref (X 11), .ref (X 12), .ref (X 13), .ref (X 14), .ref (X 15), .ref (X 16), .ref (X 17), .ref (X 18), .ref (X 19), .int (nI (S.1 20 0)), .ref (X 21), .ref (X 22), .ref (X 23), .ref (X 24), .ref (X 25), .ref (X 26), .ref (X 27), .int cz, .ref (X 29)]) (C := RX10) (T := TX10) (N := 30) hx hb hts in_X10 hown hK hZ ((va_up_ne _ _ (fun q => absurd (hXI 0 3 (by decide) (by decide) q) (by decide))).trans ((va_up_ne _ _ (fun q => absurd (hXI 0 2 (by decide) (by decide) q) (by decide))).trans m0)) rfl 4 (by decide) fl_16 (fun _ h9 => h9) rfl dX10_home_74 ?_
            refine lv_aload_n hx hb dX10_home_77 rfl (lv_at hl 0 rfl) ?_
            refine z_get (ci := 10) (fs := [.int (nI (S.1 0 0)), .int (nI (S.1 1 0)), .ref (X 2), .ref (X 3), .ref (X 4), .ref (X 5), .ref (X 6), .long S.2.2, .ref (X 8), .ref (X 9), .int (nI (S.1 10 0)), .ref (X 11), .ref (X 12), .ref (X 13), .ref (X 14), .ref (X 15), .ref (X 16), .ref (X 17), .ref (X 18), .ref (X 19), .int (nI (S.1 20 0)), .ref (X 21), .ref (X 22), .ref (X 23), .ref (X 24), .ref (X 25), .ref (X 26), .ref (X 27), .int cz, .ref (X 29)]) (C := RX10) (T := TX10) (N := 30) hx hb hts in_X10 hown hK hZ ((va_up_ne _ _ (fun q => absurd (hXI 0 3 (by decide) (by decide) q) (by decide))).trans ((va_up_ne _ _ (fun q => absurd (hXI 0 2 (by decide) (by decide) q) (by decide))).trans m0)) rfl 1 (by decide) fl_83 (fun _ h9 => h9) rfl dX10_home_78 ?_
            refine lv_iload_n hx hb dX10_home_81 rfl (lv_at hl 3 rfl) ?_
            refine z_iast hx hb hK hZ ((va_up_ne _ _ (fun q => absurd (hXI 4 3 (by decide) (by decide) q) (by decide))).trans ((va_up_ne _ _ (fun q => absurd (hXI 4 2 (by decide) (by decide) q) (by decide))).trans m4)) (S.1 1 0) rfl (by omega) (by decide) dX10_home_82 (fun H locs hZ => ?_)
            refine lv_aload_n hx hb dX10_home_83 rfl (lv_at hl 0 rfl) ?_
            refine z_get (ci := 10) (fs := [.int (nI (S.1 0 0)), .int (nI (S.1 1 0)), .ref (X 2), .ref (X 3), .ref (X 4), .ref (X 5), .ref (X 6), .long S.2.2, .ref (X 8), .ref (X 9), .int (nI (S.1 10 0)), .ref (X 11), .ref (X 12), .ref (X 13), .ref (X 14), .ref (X 15), .ref (X 16), .ref (X 17), .ref (X 18), .ref (X 19), .int (nI (S.1 20 0)), .ref (X 21), .ref (X 22), .ref (X 23), .ref (X 24), .ref (X 25), .ref (X 26), .ref (X 27), .int cz, .ref (X 29)]) (C := RX10) (T := TX10) (N := 30) hx hb hts in_X10 hown hK hZ ((va_up_ne _ _ (fun q => absurd (hXI 0 4 (by decide) (by decide) q) (by decide))).trans ((va_up_ne _ _ (fun q => absurd (hXI 0 3 (by decide) (by decide) q) (by decide))).trans ((va_up_ne _ _ (fun q => absurd (hXI 0 2 (by decide) (by decide) q) (by decide))).trans m0))) rfl 5 (by decide) fl_19 (fun _ h9 => h9) rfl dX10_home_84 ?_
            refine lv_aload_n hx hb dX10_home_87 rfl (lv_at hl 0 rfl) ?_
            refine z_get (ci := 10) (fs := [.int (nI (S.1 0 0)), .int (nI (S.1 1 0)), .ref (X 2), .ref (X 3), .ref (X 4), .ref (X 5), .ref (X 6), .long S.2.2, .ref (X 8), .ref (X 9), .int (nI (S.1 10 0)), .ref (X 11), .ref (X 12), .ref (X 13), .ref (X 14), .ref (X 15), .ref (X 16), .ref (X 17), .ref (X 18), .ref (X 19), .int (nI (S.1 20 0)), .ref (X 21), .ref (X 22), .ref (X 23), .ref (X 24), .ref (X 25), .ref (X 26), .ref (X 27), .int cz, .ref (X 29)]) (C := RX10) (T := TX10) (N := 30) hx hb hts in_X10 hown hK hZ ((va_up_ne _ _ (fun q => absurd (hXI 0 4 (by decide) (by decide) q) (by decide))).trans ((va_up_ne _ _ (fun q => absurd (hXI 0 3 (by decide) (by decide) q) (by decide))).trans ((va_up_ne _ _ (fun q => absurd (hXI 0 2 (by decide) (by decide) q) (by decide))).trans m0))) rfl 1 (by decide) fl_83 (fun _ h9 => h9) rfl dX10_home_88 ?_
            refine lv_iload hx hb dX10_home_91 (lv_at hl 4 rfl) ?_
            refine z_iast hx hb hK hZ ((va_up_ne _ _ (fun q => absurd (hXI 5 4 (by decide) (by decide) q) (by decide))).trans ((va_up_ne _ _ (fun q => absurd (hXI 5 3 (by decide) (by decide) q) (by decide))).trans ((va_up_ne _ _ (fun q => absurd (hXI 5 2 (by decide) (by decide) q) (by decide))).trans m5))) (S.1 1 0) rfl (by omega) (by decide) dX10_home_93 (fun H locs hZ => ?_)
            refine lv_aload_n hx hb dX10_home_94 rfl (lv_at hl 0 rfl) ?_
            refine z_get (ci := 10) (fs := [.int (nI (S.1 0 0)), .int (nI (S.1 1 0)), .ref (X 2), .ref (X 3), .ref (X 4), .ref (X 5), .ref (X 6), .long S.2.2, .ref (X 8), .ref (X 9), .int (nI (S.1 10 0)), .ref (X 11), .ref (X 12), .ref (X 13), .ref (X 14), .ref (X 15), .ref (X 16), .ref (X 17), .ref (X 18), .ref (X 19), .int (nI (S.1 20 0)), .ref (X 21), .ref (X 22), .ref (X 23), .ref (X 24), .ref (X 25), .ref (X 26), .ref (X 27), .int cz, .ref (X 29)]) (C := RX10) (T := TX10) (N := 30) hx hb hts in_X10 hown hK hZ ((va_up_ne _ _ (fun q => absurd (hXI 0 5 (by decide) (by decide) q) (by decide))).trans ((va_up_ne _ _ (fun q => absurd (hXI 0 4 (by decide) (by decide) q) (by decide))).trans ((va_up_ne _ _ (fun q => absurd (hXI 0 3 (by decide) (by decide) q) (by decide))).trans ((va_up_ne _ _ (fun q => absurd (hXI 0 2 (by decide) (by decide) q) (by decide))).trans m0)))) rfl 6 (by decide) fl_22 (fun _ h9 => h9) rfl dX10_home_95 ?_
            refine lv_aload_n hx hb dX10_home_98 rfl (lv_at hl 0 rfl) ?_
            refine z_get (ci := 10) (fs := [.int (nI (S.1 0 0)), .int (nI (S.1 1 0)), .ref (X 2), .ref (X 3), .ref (X 4), .ref (X 5), .ref (X 6), .long S.2.2, .ref (X 8), .ref (X 9), .int (nI (S.1 10 0)), .ref (X 11), .ref (X 12), .ref (X 13), .ref (X 14), .ref (X 15), .ref (X 16), .ref (X 17), .ref (X 18), .ref (X 19), .int (nI (S.1 20 0)), .ref (X 21), .ref (X 22), .ref (X 23), .ref (X 24), .ref (X 25), .ref (X 26), .ref (X 27), .int cz, .ref (X 29)]) (C := RX10) (T := TX10) (N := 30) hx hb hts in_X10 hown hK hZ ((va_up_ne _ _ (fun q => absurd (hXI 0 5 (by decide) (by decide) q) (by decide))).trans ((va_up_ne _ _ (fun q => absurd (hXI 0 4 (by decide) (by decide) q) (by decide))).trans ((va_up_ne _ _ (fun q => absurd (hXI 0 3 (by decide) (by decide) q) (by decide))).trans ((va_up_ne _ _ (fun q => absurd (hXI 0 2 (by decide) (by decide) q) (by decide))).trans m0)))) rfl 1 (by decide) fl_83 (fun _ h9 => h9) rfl dX10_home_99 ?_
            refine lv_iconst (v := 0) hx hb dX10_home_102 (by decide) ?_
            refine z_iast hx hb hK hZ ((va_up_ne _ _ (fun q => absurd (hXI 6 5 (by decide) (by decide) q) (by decide))).trans ((va_up_ne _ _ (fun q => absurd (hXI 6 4 (by decide) (by decide) q) (by decide))).trans ((va_up_ne _ _ (fun q => absurd (hXI 6 3 (by decide) (by decide) q) (by decide))).trans ((va_up_ne _ _ (fun q => absurd (hXI 6 2 (by decide) (by decide) q) (by decide))).trans m6)))) (S.1 1 0) rfl (by omega) (by decide) dX10_home_103 (fun H locs hZ => ?_)
            refine lv_aload_n hx hb dX10_home_104 rfl (lv_at hl 0 rfl) ?_
            refine lv_dup hx hb dX10_home_105 rfl ?_
            refine z_get (ci := 10) (fs := [.int (nI (S.1 0 0)), .int (nI (S.1 1 0)), .ref (X 2), .ref (X 3), .ref (X 4), .ref (X 5), .ref (X 6), .long S.2.2, .ref (X 8), .ref (X 9), .int (nI (S.1 10 0)), .ref (X 11), .ref (X 12), .ref (X 13), .ref (X 14), .ref (X 15), .ref (X 16), .ref (X 17), .ref (X 18), .ref (X 19), .int (nI (S.1 20 0)), .ref (X 21), .ref (X 22), .ref (X 23), .ref (X 24), .ref (X 25), .ref (X 26), .ref (X 27), .int cz, .ref (X 29)]) (C := RX10) (T := TX10) (N := 30) hx hb hts in_X10 hown hK hZ ((va_up_ne _ _ (fun q => absurd (hXI 0 6 (by decide) (by decide) q) (by decide))).trans ((va_up_ne _ _ (fun q => absurd (hXI 0 5 (by decide) (by decide) q) (by decide))).trans ((va_up_ne _ _ (fun q => absurd (hXI 0 4 (by decide) (by decide) q) (by decide))).trans ((va_up_ne _ _ (fun q => absurd (hXI 0 3 (by decide) (by decide) q) (by decide))).trans ((va_up_ne _ _ (fun q => absurd (hXI 0 2 (by decide) (by decide) q) (by decide))).trans m0))))) rfl 1 (by decide) fl_83 (fun _ h9 => h9) rfl dX10_home_106 ?_
            refine lv_iconst (v := 1) hx hb dX10_home_109 (by decide) ?_
            refine lv_iadd hx hb dX10_home_110 ?_
            rw [nI_1]
            refine z_put (ci := 10) (fs := [.int (nI (S.1 0 0)), .int (nI (S.1 1 0)), .ref (X 2), .ref (X 3), .ref (X 4), .ref (X 5), .ref (X 6), .long S.2.2, .ref (X 8), .ref (X 9), .int (nI (S.1 10 0)), .ref (X 11), .ref (X 12), .ref (X 13), .ref (X 14), .ref (X 15), .ref (X 16), .ref (X 17), .ref (X 18), .ref (X 19), .int (nI (S.1 20 0)), .ref (X 21), .ref (X 22), .ref (X 23), .ref (X 24), .ref (X 25), .ref (X 26), .ref (X 27), .int cz, .ref (X 29)]) (fs' := [.int (nI (S.1 0 0)), .int (nI (S.1 1 0 + 1)), .ref (X 2), .ref (X 3), .ref (X 4), .ref (X 5), .ref (X 6), .long S.2.2, .ref (X 8), .ref (X 9), .int (nI (S.1 10 0)), .ref (X 11), .ref (X 12), .ref (X 13), .ref (X 14), .ref (X 15), .ref (X 16), .ref (X 17), .ref (X 18), .ref (X 19), .int (nI (S.1 20 0)), .ref (X 21), .ref (X 22), .ref (X 23), .ref (X 24), .ref (X 25), .ref (X 26), .ref (X 27), .int cz, .ref (X 29)]) (v := .int (nI (S.1 1 0 + 1))) (ty := .int) (C := RX10) (T := TX10) (N := 30) hx hb hts in_X10 tyX10 tyX10_ok nmX10 hown hK hZ ((va_up_ne _ _ (fun q => absurd (hXI 0 6 (by decide) (by decide) q) (by decide))).trans ((va_up_ne _ _ (fun q => absurd (hXI 0 5 (by decide) (by decide) q) (by decide))).trans ((va_up_ne _ _ (fun q => absurd (hXI 0 4 (by decide) (by decide) q) (by decide))).trans ((va_up_ne _ _ (fun q => absurd (hXI 0 3 (by decide) (by decide) q) (by decide))).trans ((va_up_ne _ _ (fun q => absurd (hXI 0 2 (by decide) (by decide) q) (by decide))).trans m0))))) rfl 1 (by decide) fl_83 (fun _ h9 => h9) rfl (by decide +kernel) rfl rfl (Nat.le_of_ble_eq_true rfl) rfl dX10_home_111 (fun H locs hZ => ?_)
            refine lv_aload_n hx hb dX10_home_114 rfl (lv_at hl 0 rfl) ?_
            refine z_get (ci := 10) (fs := [.int (nI (S.1 0 0)), .int (nI (S.1 1 0 + 1)), .ref (X 2), .ref (X 3), .ref (X 4), .ref (X 5), .ref (X 6), .long S.2.2, .ref (X 8), .ref (X 9), .int (nI (S.1 10 0)), .ref (X 11), .ref (X 12), .ref (X 13), .ref (X 14), .ref (X 15), .ref (X 16), .ref (X 17), .ref (X 18), .ref (X 19), .int (nI (S.1 20 0)), .ref (X 21), .ref (X 22), .ref (X 23), .ref (X 24), .ref (X 25), .ref (X 26), .ref (X 27), .int cz, .ref (X 29)]) (C := RX10) (T := TX10) (N := 30) hx hb hts in_X10 hown hK hZ (va_up_self _ _ _) rfl 1 (by decide) fl_83 (fun _ h9 => h9) rfl dX10_home_115 ?_
            refine lv_iconst (v := 1) hx hb dX10_home_118 (by decide) ?_
            refine lv_isub hx hb dX10_home_119 ?_
            rw [nI_pred]
            exact z_iret hx hb hr hlocks hZ dX10_home_120 (by rw [sp_home, if_pos ⟨c6, c15, c25, c36⟩, if_neg c8]; exact ⟨⟨_, _, _, (va_up_self _ _ _), (((va_up_ne _ _ (fun q => absurd (hXI 2 0 (by decide) (by decide) q) (by decide))).trans ((va_up_ne _ _ (fun q => absurd (hXI 2 6 (by decide) (by decide) q) (by decide))).trans ((va_up_ne _ _ (fun q => absurd (hXI 2 5 (by decide) (by decide) q) (by decide))).trans ((va_up_ne _ _ (fun q => absurd (hXI 2 4 (by decide) (by decide) q) (by decide))).trans ((va_up_ne _ _ (fun q => absurd (hXI 2 3 (by decide) (by decide) q) (by decide))).trans (va_up_self _ _ _)))))).trans (congrArg (fun f => some (Sum.inl (cT 0, 8, Sum.inl f))) (cN_sN' S 2 _ c6.1))), (((va_up_ne _ _ (fun q => absurd (hXI 3 0 (by decide) (by decide) q) (by decide))).trans ((va_up_ne _ _ (fun q => absurd (hXI 3 6 (by decide) (by decide) q) (by decide))).trans ((va_up_ne _ _ (fun q => absurd (hXI 3 5 (by decide) (by decide) q) (by decide))).trans ((va_up_ne _ _ (fun q => absurd (hXI 3 4 (by decide) (by decide) q) (by decide))).trans (va_up_self _ _ _))))).trans (congrArg (fun f => some (Sum.inl (cT 0, 8, Sum.inl f))) (cN_sN' S 3 _ c15.1))), (((va_up_ne _ _ (fun q => absurd (hXI 4 0 (by decide) (by decide) q) (by decide))).trans ((va_up_ne _ _ (fun q => absurd (hXI 4 6 (by decide) (by decide) q) (by decide))).trans ((va_up_ne _ _ (fun q => absurd (hXI 4 5 (by decide) (by decide) q) (by decide))).trans (va_up_self _ _ _)))).trans (congrArg (fun f => some (Sum.inl (cT 0, 8, Sum.inl f))) (cN_sN' S 4 _ (z_le01 c25.1)))), (((va_up_ne _ _ (fun q => absurd (hXI 5 0 (by decide) (by decide) q) (by decide))).trans ((va_up_ne _ _ (fun q => absurd (hXI 5 6 (by decide) (by decide) q) (by decide))).trans (va_up_self _ _ _))).trans (congrArg (fun f => some (Sum.inl (cT 0, 8, Sum.inl f))) (cN_sN' S 5 _ c36.1))), (((va_up_ne _ _ (fun q => absurd (hXI 6 0 (by decide) (by decide) q) (by decide))).trans (va_up_self _ _ _)).trans (congrArg (fun f => some (Sum.inl (cT 0, 8, Sum.inl f))) (cG_sG S 6 _ _))), ((va_up_ne _ _ (fun q => absurd (hXI 8 0 (by decide) (by decide) q) (by decide))).trans ((va_up_ne _ _ (fun q => absurd (hXI 8 6 (by decide) (by decide) q) (by decide))).trans ((va_up_ne _ _ (fun q => absurd (hXI 8 5 (by decide) (by decide) q) (by decide))).trans ((va_up_ne _ _ (fun q => absurd (hXI 8 4 (by decide) (by decide) q) (by decide))).trans ((va_up_ne _ _ (fun q => absurd (hXI 8 3 (by decide) (by decide) q) (by decide))).trans ((va_up_ne _ _ (fun q => absurd (hXI 8 2 (by decide) (by decide) q) (by decide))).trans m8)))))), ((va_up_ne _ _ (fun q => absurd (hXI 9 0 (by decide) (by decide) q) (by decide))).trans ((va_up_ne _ _ (fun q => absurd (hXI 9 6 (by decide) (by decide) q) (by decide))).trans ((va_up_ne _ _ (fun q => absurd (hXI 9 5 (by decide) (by decide) q) (by decide))).trans ((va_up_ne _ _ (fun q => absurd (hXI 9 4 (by decide) (by decide) q) (by decide))).trans ((va_up_ne _ _ (fun q => absurd (hXI 9 3 (by decide) (by decide) q) (by decide))).trans ((va_up_ne _ _ (fun q => absurd (hXI 9 2 (by decide) (by decide) q) (by decide))).trans m9)))))), ((va_up_ne _ _ (fun q => absurd (hXI 11 0 (by decide) (by decide) q) (by decide))).trans ((va_up_ne _ _ (fun q => absurd (hXI 11 6 (by decide) (by decide) q) (by decide))).trans ((va_up_ne _ _ (fun q => absurd (hXI 11 5 (by decide) (by decide) q) (by decide))).trans ((va_up_ne _ _ (fun q => absurd (hXI 11 4 (by decide) (by decide) q) (by decide))).trans ((va_up_ne _ _ (fun q => absurd (hXI 11 3 (by decide) (by decide) q) (by decide))).trans ((va_up_ne _ _ (fun q => absurd (hXI 11 2 (by decide) (by decide) q) (by decide))).trans m11)))))), ((va_up_ne _ _ (fun q => absurd (hXI 12 0 (by decide) (by decide) q) (by decide))).trans ((va_up_ne _ _ (fun q => absurd (hXI 12 6 (by decide) (by decide) q) (by decide))).trans ((va_up_ne _ _ (fun q => absurd (hXI 12 5 (by decide) (by decide) q) (by decide))).trans ((va_up_ne _ _ (fun q => absurd (hXI 12 4 (by decide) (by decide) q) (by decide))).trans ((va_up_ne _ _ (fun q => absurd (hXI 12 3 (by decide) (by decide) q) (by decide))).trans ((va_up_ne _ _ (fun q => absurd (hXI 12 2 (by decide) (by decide) q) (by decide))).trans m12)))))), ((va_up_ne _ _ (fun q => absurd (hXI 13 0 (by decide) (by decide) q) (by decide))).trans ((va_up_ne _ _ (fun q => absurd (hXI 13 6 (by decide) (by decide) q) (by decide))).trans ((va_up_ne _ _ (fun q => absurd (hXI 13 5 (by decide) (by decide) q) (by decide))).trans ((va_up_ne _ _ (fun q => absurd (hXI 13 4 (by decide) (by decide) q) (by decide))).trans ((va_up_ne _ _ (fun q => absurd (hXI 13 3 (by decide) (by decide) q) (by decide))).trans ((va_up_ne _ _ (fun q => absurd (hXI 13 2 (by decide) (by decide) q) (by decide))).trans m13)))))), ((va_up_ne _ _ (fun q => absurd (hXI 14 0 (by decide) (by decide) q) (by decide))).trans ((va_up_ne _ _ (fun q => absurd (hXI 14 6 (by decide) (by decide) q) (by decide))).trans ((va_up_ne _ _ (fun q => absurd (hXI 14 5 (by decide) (by decide) q) (by decide))).trans ((va_up_ne _ _ (fun q => absurd (hXI 14 4 (by decide) (by decide) q) (by decide))).trans ((va_up_ne _ _ (fun q => absurd (hXI 14 3 (by decide) (by decide) q) (by decide))).trans ((va_up_ne _ _ (fun q => absurd (hXI 14 2 (by decide) (by decide) q) (by decide))).trans m14)))))), ((va_up_ne _ _ (fun q => absurd (hXI 15 0 (by decide) (by decide) q) (by decide))).trans ((va_up_ne _ _ (fun q => absurd (hXI 15 6 (by decide) (by decide) q) (by decide))).trans ((va_up_ne _ _ (fun q => absurd (hXI 15 5 (by decide) (by decide) q) (by decide))).trans ((va_up_ne _ _ (fun q => absurd (hXI 15 4 (by decide) (by decide) q) (by decide))).trans ((va_up_ne _ _ (fun q => absurd (hXI 15 3 (by decide) (by decide) q) (by decide))).trans ((va_up_ne _ _ (fun q => absurd (hXI 15 2 (by decide) (by decide) q) (by decide))).trans m15)))))), ((va_up_ne _ _ (fun q => absurd (hXI 16 0 (by decide) (by decide) q) (by decide))).trans ((va_up_ne _ _ (fun q => absurd (hXI 16 6 (by decide) (by decide) q) (by decide))).trans ((va_up_ne _ _ (fun q => absurd (hXI 16 5 (by decide) (by decide) q) (by decide))).trans ((va_up_ne _ _ (fun q => absurd (hXI 16 4 (by decide) (by decide) q) (by decide))).trans ((va_up_ne _ _ (fun q => absurd (hXI 16 3 (by decide) (by decide) q) (by decide))).trans ((va_up_ne _ _ (fun q => absurd (hXI 16 2 (by decide) (by decide) q) (by decide))).trans m16)))))), ((va_up_ne _ _ (fun q => absurd (hXI 17 0 (by decide) (by decide) q) (by decide))).trans ((va_up_ne _ _ (fun q => absurd (hXI 17 6 (by decide) (by decide) q) (by decide))).trans ((va_up_ne _ _ (fun q => absurd (hXI 17 5 (by decide) (by decide) q) (by decide))).trans ((va_up_ne _ _ (fun q => absurd (hXI 17 4 (by decide) (by decide) q) (by decide))).trans ((va_up_ne _ _ (fun q => absurd (hXI 17 3 (by decide) (by decide) q) (by decide))).trans ((va_up_ne _ _ (fun q => absurd (hXI 17 2 (by decide) (by decide) q) (by decide))).trans m17)))))), ((va_up_ne _ _ (fun q => absurd (hXI 18 0 (by decide) (by decide) q) (by decide))).trans ((va_up_ne _ _ (fun q => absurd (hXI 18 6 (by decide) (by decide) q) (by decide))).trans ((va_up_ne _ _ (fun q => absurd (hXI 18 5 (by decide) (by decide) q) (by decide))).trans ((va_up_ne _ _ (fun q => absurd (hXI 18 4 (by decide) (by decide) q) (by decide))).trans ((va_up_ne _ _ (fun q => absurd (hXI 18 3 (by decide) (by decide) q) (by decide))).trans ((va_up_ne _ _ (fun q => absurd (hXI 18 2 (by decide) (by decide) q) (by decide))).trans m18)))))), ((va_up_ne _ _ (fun q => absurd (hXI 19 0 (by decide) (by decide) q) (by decide))).trans ((va_up_ne _ _ (fun q => absurd (hXI 19 6 (by decide) (by decide) q) (by decide))).trans ((va_up_ne _ _ (fun q => absurd (hXI 19 5 (by decide) (by decide) q) (by decide))).trans ((va_up_ne _ _ (fun q => absurd (hXI 19 4 (by decide) (by decide) q) (by decide))).trans ((va_up_ne _ _ (fun q => absurd (hXI 19 3 (by decide) (by decide) q) (by decide))).trans ((va_up_ne _ _ (fun q => absurd (hXI 19 2 (by decide) (by decide) q) (by decide))).trans m19)))))), ((va_up_ne _ _ (fun q => absurd (hXI 21 0 (by decide) (by decide) q) (by decide))).trans ((va_up_ne _ _ (fun q => absurd (hXI 21 6 (by decide) (by decide) q) (by decide))).trans ((va_up_ne _ _ (fun q => absurd (hXI 21 5 (by decide) (by decide) q) (by decide))).trans ((va_up_ne _ _ (fun q => absurd (hXI 21 4 (by decide) (by decide) q) (by decide))).trans ((va_up_ne _ _ (fun q => absurd (hXI 21 3 (by decide) (by decide) q) (by decide))).trans ((va_up_ne _ _ (fun q => absurd (hXI 21 2 (by decide) (by decide) q) (by decide))).trans m21)))))), ((va_up_ne _ _ (fun q => absurd (hXI 22 0 (by decide) (by decide) q) (by decide))).trans ((va_up_ne _ _ (fun q => absurd (hXI 22 6 (by decide) (by decide) q) (by decide))).trans ((va_up_ne _ _ (fun q => absurd (hXI 22 5 (by decide) (by decide) q) (by decide))).trans ((va_up_ne _ _ (fun q => absurd (hXI 22 4 (by decide) (by decide) q) (by decide))).trans ((va_up_ne _ _ (fun q => absurd (hXI 22 3 (by decide) (by decide) q) (by decide))).trans ((va_up_ne _ _ (fun q => absurd (hXI 22 2 (by decide) (by decide) q) (by decide))).trans m22)))))), ((va_up_ne _ _ (fun q => absurd (hXI 23 0 (by decide) (by decide) q) (by decide))).trans ((va_up_ne _ _ (fun q => absurd (hXI 23 6 (by decide) (by decide) q) (by decide))).trans ((va_up_ne _ _ (fun q => absurd (hXI 23 5 (by decide) (by decide) q) (by decide))).trans ((va_up_ne _ _ (fun q => absurd (hXI 23 4 (by decide) (by decide) q) (by decide))).trans ((va_up_ne _ _ (fun q => absurd (hXI 23 3 (by decide) (by decide) q) (by decide))).trans ((va_up_ne _ _ (fun q => absurd (hXI 23 2 (by decide) (by decide) q) (by decide))).trans m23)))))), ((va_up_ne _ _ (fun q => absurd (hXI 24 0 (by decide) (by decide) q) (by decide))).trans ((va_up_ne _ _ (fun q => absurd (hXI 24 6 (by decide) (by decide) q) (by decide))).trans ((va_up_ne _ _ (fun q => absurd (hXI 24 5 (by decide) (by decide) q) (by decide))).trans ((va_up_ne _ _ (fun q => absurd (hXI 24 4 (by decide) (by decide) q) (by decide))).trans ((va_up_ne _ _ (fun q => absurd (hXI 24 3 (by decide) (by decide) q) (by decide))).trans ((va_up_ne _ _ (fun q => absurd (hXI 24 2 (by decide) (by decide) q) (by decide))).trans m24)))))), ((va_up_ne _ _ (fun q => absurd (hXI 25 0 (by decide) (by decide) q) (by decide))).trans ((va_up_ne _ _ (fun q => absurd (hXI 25 6 (by decide) (by decide) q) (by decide))).trans ((va_up_ne _ _ (fun q => absurd (hXI 25 5 (by decide) (by decide) q) (by decide))).trans ((va_up_ne _ _ (fun q => absurd (hXI 25 4 (by decide) (by decide) q) (by decide))).trans ((va_up_ne _ _ (fun q => absurd (hXI 25 3 (by decide) (by decide) q) (by decide))).trans ((va_up_ne _ _ (fun q => absurd (hXI 25 2 (by decide) (by decide) q) (by decide))).trans m25)))))), ((va_up_ne _ _ (fun q => absurd (hXI 26 0 (by decide) (by decide) q) (by decide))).trans ((va_up_ne _ _ (fun q => absurd (hXI 26 6 (by decide) (by decide) q) (by decide))).trans ((va_up_ne _ _ (fun q => absurd (hXI 26 5 (by decide) (by decide) q) (by decide))).trans ((va_up_ne _ _ (fun q => absurd (hXI 26 4 (by decide) (by decide) q) (by decide))).trans ((va_up_ne _ _ (fun q => absurd (hXI 26 3 (by decide) (by decide) q) (by decide))).trans ((va_up_ne _ _ (fun q => absurd (hXI 26 2 (by decide) (by decide) q) (by decide))).trans m26)))))), ((va_up_ne _ _ (fun q => absurd (hXI 27 0 (by decide) (by decide) q) (by decide))).trans ((va_up_ne _ _ (fun q => absurd (hXI 27 6 (by decide) (by decide) q) (by decide))).trans ((va_up_ne _ _ (fun q => absurd (hXI 27 5 (by decide) (by decide) q) (by decide))).trans ((va_up_ne _ _ (fun q => absurd (hXI 27 4 (by decide) (by decide) q) (by decide))).trans ((va_up_ne _ _ (fun q => absurd (hXI 27 3 (by decide) (by decide) q) (by decide))).trans ((va_up_ne _ _ (fun q => absurd (hXI 27 2 (by decide) (by decide) q) (by decide))).trans m27)))))), ((va_up_ne _ _ (fun q => absurd (hXI 29 0 (by decide) (by decide) q) (by decide))).trans ((va_up_ne _ _ (fun q => absurd (hXI 29 6 (by decide) (by decide) q) (by decide))).trans ((va_up_ne _ _ (fun q => absurd (hXI 29 5 (by decide) (by decide) q) (by decide))).trans ((va_up_ne _ _ (fun q => absurd (hXI 29 4 (by decide) (by decide) q) (by decide))).trans ((va_up_ne _ _ (fun q => absurd (hXI 29 3 (by decide) (by decide) q) (by decide))).trans ((va_up_ne _ _ (fun q => absurd (hXI 29 2 (by decide) (by decide) q) (by decide))).trans m29))))))⟩, rfl⟩)
          · have c8 : S.1 1 0 = 8 := nI_inj (by omega) (by decide) c47
            refine lv_bipush (v := (-3)) hx hb dX10_home_50 (by decide) ?_
            exact z_iret hx hb hr hlocks hZ dX10_home_52 (mQ_of (by rw [sp_home, if_pos ⟨c6, c15, c25, c36⟩, if_pos c8]) ⟨_, _, _, hM⟩)
        · refine lv_iconst (v := (-1)) hx hb dX10_home_39 (by decide) ?_
          exact z_iret hx hb hr hlocks hZ dX10_home_40 (mQ_of (by rw [sp_home, if_neg (fun h => c36 h.2.2.2)]) ⟨_, _, _, hM⟩)

set_option maxHeartbeats 4000000 in
set_option maxRecDepth 100000 in
theorem c_X10_faults (l : Launch) (D : va_G) (cT : Nat → ClassId) (G : zG) (sz : Nat) (S : zS) (X : Nat → Nat) (cz : Int32) (f27 f29 : Nat → Int32) (nn : Nat) (x n : Int32) (hM : MD cT S X cz f27 f29 G) (hXI : XI X) (hS : ok S nn)  : zM l D cT yX10_faults wsX10_faults (zR 2 0 0) [.ref (X 0), .int x, .int n] G sz (mQ cT X (sp_faults S x n)) := by
  refine z_start (cc := cX10_faults) (maxL := 4) (ret := (some .int)) (by decide) rfl (Nat.le_of_ble_eq_true rfl) ?_
  intro p e s m below meth c ls hI hZ hl
  obtain ⟨hx, hb, hr, hml, hts, hown, hlocks, hname, hK, hA, hE⟩ := hI
  have hl : lv_has ls 4 [(0, .ref (X 0)), (1, .int x), (2, .int n)] := hl
  have hown : s.vm.findClass RX10 = some m.cls := hown
  have in_X10 : ∀ w ∈ u_ws RX10 TX10 30, w ∈ wsX10_faults := by decide +kernel
  have fl_22 := hts (.fieldLink RX10 22 "FairRentsModel" "faults" "[I") (by decide +kernel)
  obtain ⟨m0, m2, m3, m4, m5, m6, m8, m9, m11, m12, m13, m14, m15, m16, m17, m18, m19, m21, m22, m23, m24, m25, m26, m27, m29⟩ := id hM
  obtain ⟨⟨k1, k10, k20, k0⟩, kH, k9, k8, k15, k26, kL, kLn, kP, kE, kEm, kn⟩ := id hS
  refine lv_aload_n hx hb dX10_faults_0 rfl (lv_at hl 0 rfl) ?_
  refine lv_iload_n hx hb dX10_faults_1 rfl (lv_at hl 1 rfl) ?_
  refine z_call (va_runV (As := [.int x]) (rest := []) ⟨hx, hb, hml, hown, hts⟩ (c_X10_isHome l D cT _ _ S X _ _ _ nn x hM hXI hS ) (cwV 1 hts gX10_faults_X10_isHome rfl rfl rfl (by decide +kernel) ⟨(Nat.le_of_ble_eq_true rfl), (Nat.le_of_ble_eq_true rfl)⟩) (z_preV hK hE hZ hA (ci := 10) rfl m0) rfl rfl hl.1 rfl (lv_room (Nat.le_of_ble_eq_true rfl)) dX10_faults_2 ⟨(Nat.le_of_ble_eq_true rfl), (Nat.le_of_ble_eq_true rfl)⟩) hZ hA (fun r G2 H locs hq hZ => ?_)
  obtain ⟨hg, rfl⟩ := hq
  replace hg := hg.symm
  subst hg
  refine W.eq (g2 := F0 m 5 ls [.int (if 0 ≤ x ∧ x ≤ nI (S.1 1 0) - 1 then 1 else 0)]) rfl ?_
  refine zb_eq (tgt := 18) hx hb dX10_faults_5 (by decide) (fun c5 => ?_) (fun c5 => ?_)
  · have hh := hix_no (S := S) c5
    refine lv_iconst (v := (-1)) hx hb dX10_faults_18 (by decide) ?_
    exact z_iret hx hb hr hlocks hZ dX10_faults_19 (mQ_of (by rw [sp_faults, hh]) ⟨_, _, _, hM⟩)
  · obtain ⟨j, hj, hxj, hh⟩ := hix_yes k1 c5
    refine lv_iload_n hx hb dX10_faults_8 rfl (lv_at hl 2 rfl) ?_
    refine lv_iconst (v := 0) hx hb dX10_faults_9 (by decide) ?_
    refine lv_bipush (v := 9) hx hb dX10_faults_10 (by decide) ?_
    refine z_call (va_runS (As := [.int n, .int 0, .int 9]) (rest := []) ⟨hx, hb, hml, hown, hts⟩ (c_X10_in l D cT _ _ n 0 9) (va_cwS 3 hts gX10_faults_X10_in rfl rfl rfl (by decide +kernel) ⟨(Nat.le_of_ble_eq_true rfl), (Nat.le_of_ble_eq_true rfl)⟩) (z_preS hK hE hZ hA) rfl rfl hl.1 rfl (lv_room (Nat.le_of_ble_eq_true rfl)) dX10_faults_12 ⟨(Nat.le_of_ble_eq_true rfl), (Nat.le_of_ble_eq_true rfl)⟩) hZ hA (fun r G12 H locs hq hZ => ?_)
    obtain ⟨hg, rfl⟩ := hq
    replace hg := hg.symm
    subst hg
    refine W.eq (g2 := F0 m 15 ls [.int (if 0 ≤ n ∧ n ≤ 9 then 1 else 0)]) rfl ?_
    refine zb_ne (tgt := 20) hx hb dX10_faults_15 (by decide) (fun c15 => ?_) (fun c15 => ?_)
    · refine lv_aload_n hx hb dX10_faults_20 rfl (lv_at hl 0 rfl) ?_
      refine z_get (ci := 10) (fs := [.int (nI (S.1 0 0)), .int (nI (S.1 1 0)), .ref (X 2), .ref (X 3), .ref (X 4), .ref (X 5), .ref (X 6), .long S.2.2, .ref (X 8), .ref (X 9), .int (nI (S.1 10 0)), .ref (X 11), .ref (X 12), .ref (X 13), .ref (X 14), .ref (X 15), .ref (X 16), .ref (X 17), .ref (X 18), .ref (X 19), .int (nI (S.1 20 0)), .ref (X 21), .ref (X 22), .ref (X 23), .ref (X 24), .ref (X 25), .ref (X 26), .ref (X 27), .int cz, .ref (X 29)]) (C := RX10) (T := TX10) (N := 30) hx hb hts in_X10 hown hK hZ m0 rfl 6 (by decide) fl_22 (fun _ h9 => h9) rfl dX10_faults_21 ?_
      refine lv_iload_n hx hb dX10_faults_24 rfl (lv_at hl 1 rfl) ?_
      refine z_iald hx hb hK hZ m6 j hxj (by omega) (by decide) dX10_faults_25 ?_
      refine lv_istore_n (lv' := [(3, .int (S.2.1 6 j)), (0, .ref (X 0)), (1, .int x), (2, .int n)]) hx hb dX10_faults_26 rfl hl (by decide) rfl (fun ls hl => ?_)
      refine lv_aload_n hx hb dX10_faults_27 rfl (lv_at hl 1 rfl) ?_
      refine z_get (ci := 10) (fs := [.int (nI (S.1 0 0)), .int (nI (S.1 1 0)), .ref (X 2), .ref (X 3), .ref (X 4), .ref (X 5), .ref (X 6), .long S.2.2, .ref (X 8), .ref (X 9), .int (nI (S.1 10 0)), .ref (X 11), .ref (X 12), .ref (X 13), .ref (X 14), .ref (X 15), .ref (X 16), .ref (X 17), .ref (X 18), .ref (X 19), .int (nI (S.1 20 0)), .ref (X 21), .ref (X 22), .ref (X 23), .ref (X 24), .ref (X 25), .ref (X 26), .ref (X 27), .int cz, .ref (X 29)]) (C := RX10) (T := TX10) (N := 30) hx hb hts in_X10 hown hK hZ m0 rfl 6 (by decide) fl_22 (fun _ h9 => h9) rfl dX10_faults_28 ?_
      refine lv_iload_n hx hb dX10_faults_31 rfl (lv_at hl 2 rfl) ?_
      refine lv_iload_n hx hb dX10_faults_32 rfl (lv_at hl 3 rfl) ?_
      refine z_iast hx hb hK hZ m6 j hxj (by omega) (by decide) dX10_faults_33 (fun H locs hZ => ?_)
      refine lv_iload_n hx hb dX10_faults_34 rfl (lv_at hl 0 rfl) ?_
      exact z_iret hx hb hr hlocks hZ dX10_faults_35 (by rw [sp_faults, hh]; simp only []; rw [if_pos c15]; exact ⟨⟨_, _, _, ((va_up_ne _ _ (fun q => absurd (hXI 0 6 (by decide) (by decide) q) (by decide))).trans m0), ((va_up_ne _ _ (fun q => absurd (hXI 2 6 (by decide) (by decide) q) (by decide))).trans m2), ((va_up_ne _ _ (fun q => absurd (hXI 3 6 (by decide) (by decide) q) (by decide))).trans m3), ((va_up_ne _ _ (fun q => absurd (hXI 4 6 (by decide) (by decide) q) (by decide))).trans m4), ((va_up_ne _ _ (fun q => absurd (hXI 5 6 (by decide) (by decide) q) (by decide))).trans m5), ((va_up_self _ _ _).trans (congrArg (fun f => some (Sum.inl (cT 0, 8, Sum.inl f))) (cG_sG S 6 _ _))), ((va_up_ne _ _ (fun q => absurd (hXI 8 6 (by decide) (by decide) q) (by decide))).trans m8), ((va_up_ne _ _ (fun q => absurd (hXI 9 6 (by decide) (by decide) q) (by decide))).trans m9), ((va_up_ne _ _ (fun q => absurd (hXI 11 6 (by decide) (by decide) q) (by decide))).trans m11), ((va_up_ne _ _ (fun q => absurd (hXI 12 6 (by decide) (by decide) q) (by decide))).trans m12), ((va_up_ne _ _ (fun q => absurd (hXI 13 6 (by decide) (by decide) q) (by decide))).trans m13), ((va_up_ne _ _ (fun q => absurd (hXI 14 6 (by decide) (by decide) q) (by decide))).trans m14), ((va_up_ne _ _ (fun q => absurd (hXI 15 6 (by decide) (by decide) q) (by decide))).trans m15), ((va_up_ne _ _ (fun q => absurd (hXI 16 6 (by decide) (by decide) q) (by decide))).trans m16), ((va_up_ne _ _ (fun q => absurd (hXI 17 6 (by decide) (by decide) q) (by decide))).trans m17), ((va_up_ne _ _ (fun q => absurd (hXI 18 6 (by decide) (by decide) q) (by decide))).trans m18), ((va_up_ne _ _ (fun q => absurd (hXI 19 6 (by decide) (by decide) q) (by decide))).trans m19), ((va_up_ne _ _ (fun q => absurd (hXI 21 6 (by decide) (by decide) q) (by decide))).trans m21), ((va_up_ne _ _ (fun q => absurd (hXI 22 6 (by decide) (by decide) q) (by decide))).trans m22), ((va_up_ne _ _ (fun q => absurd (hXI 23 6 (by decide) (by decide) q) (by decide))).trans m23), ((va_up_ne _ _ (fun q => absurd (hXI 24 6 (by decide) (by decide) q) (by decide))).trans m24), ((va_up_ne _ _ (fun q => absurd (hXI 25 6 (by decide) (by decide) q) (by decide))).trans m25), ((va_up_ne _ _ (fun q => absurd (hXI 26 6 (by decide) (by decide) q) (by decide))).trans m26), ((va_up_ne _ _ (fun q => absurd (hXI 27 6 (by decide) (by decide) q) (by decide))).trans m27), ((va_up_ne _ _ (fun q => absurd (hXI 29 6 (by decide) (by decide) q) (by decide))).trans m29)⟩, rfl⟩)
    · refine lv_iconst (v := (-1)) hx hb dX10_faults_18 (by decide) ?_
      exact z_iret hx hb hr hlocks hZ dX10_faults_19 (mQ_of (by rw [sp_faults, hh]; simp only []; rw [if_neg c15]) ⟨_, _, _, hM⟩)

set_option maxHeartbeats 4000000 in
set_option maxRecDepth 100000 in
theorem c_X10_pointsOf (l : Launch) (D : va_G) (cT : Nat → ClassId) (G : zG) (sz : Nat) (S : zS) (X : Nat → Nat) (cz : Int32) (f27 f29 : Nat → Int32) (nn : Nat) (x : Int32) (j : Nat) (hM : MD cT S X cz f27 f29 G) (hXI : XI X) (hS : ok S nn) (hj : j < S.1 1 0) (hxj : x = nI j) : zM l D cT yX10_pointsOf wsX10_pointsOf (zR 0 0 0) [.ref (X 0), .int x] G sz (fun r G' => G' = G ∧ r = some (.int (pts S j))) := by
  refine z_start (cc := cX10_pointsOf) (maxL := 4) (ret := (some .int)) (by decide) rfl (Nat.le_of_ble_eq_true rfl) ?_
  intro p e s m below meth c ls hI hZ hl
  obtain ⟨hx, hb, hr, hml, hts, hown, hlocks, hname, hK, hA, hE⟩ := hI
  have hl : lv_has ls 4 [(0, .ref (X 0)), (1, .int x)] := hl
  have hown : s.vm.findClass RX10 = some m.cls := hown
  have in_X10 : ∀ w ∈ u_ws RX10 TX10 30, w ∈ wsX10_pointsOf := by decide +kernel
  have fl_7 := hts (.fieldLink RX10 7 "FairRentsModel" "kind" "[I") (by decide +kernel)
  have fl_16 := hts (.fieldLink RX10 16 "FairRentsModel" "rooms" "[I") (by decide +kernel)
  have fl_19 := hts (.fieldLink RX10 19 "FairRentsModel" "floor" "[I") (by decide +kernel)
  obtain ⟨m0, m2, m3, m4, m5, m6, m8, m9, m11, m12, m13, m14, m15, m16, m17, m18, m19, m21, m22, m23, m24, m25, m26, m27, m29⟩ := id hM
  obtain ⟨⟨k1, k10, k20, k0⟩, kH, k9, k8, k15, k26, kL, kLn, kP, kE, kEm, kn⟩ := id hS
  obtain ⟨g2, g3, g4a, g4, g5⟩ := kH j hj
  refine lv_bipush (v := 10) hx hb dX10_pointsOf_0 (by decide) ?_
  refine lv_aload_n hx hb dX10_pointsOf_2 rfl (lv_at hl 0 rfl) ?_
  refine z_get (ci := 10) (fs := [.int (nI (S.1 0 0)), .int (nI (S.1 1 0)), .ref (X 2), .ref (X 3), .ref (X 4), .ref (X 5), .ref (X 6), .long S.2.2, .ref (X 8), .ref (X 9), .int (nI (S.1 10 0)), .ref (X 11), .ref (X 12), .ref (X 13), .ref (X 14), .ref (X 15), .ref (X 16), .ref (X 17), .ref (X 18), .ref (X 19), .int (nI (S.1 20 0)), .ref (X 21), .ref (X 22), .ref (X 23), .ref (X 24), .ref (X 25), .ref (X 26), .ref (X 27), .int cz, .ref (X 29)]) (C := RX10) (T := TX10) (N := 30) hx hb hts in_X10 hown hK hZ m0 rfl 4 (by decide) fl_16 (fun _ h9 => h9) rfl dX10_pointsOf_3 ?_
  refine lv_iload_n hx hb dX10_pointsOf_6 rfl (lv_at hl 1 rfl) ?_
  refine z_iald hx hb hK hZ m4 j hxj (by omega) (by decide) dX10_pointsOf_7 ?_
  refine lv_imul hx hb dX10_pointsOf_8 ?_
  refine lv_aload_n hx hb dX10_pointsOf_9 rfl (lv_at hl 0 rfl) ?_
  refine z_get (ci := 10) (fs := [.int (nI (S.1 0 0)), .int (nI (S.1 1 0)), .ref (X 2), .ref (X 3), .ref (X 4), .ref (X 5), .ref (X 6), .long S.2.2, .ref (X 8), .ref (X 9), .int (nI (S.1 10 0)), .ref (X 11), .ref (X 12), .ref (X 13), .ref (X 14), .ref (X 15), .ref (X 16), .ref (X 17), .ref (X 18), .ref (X 19), .int (nI (S.1 20 0)), .ref (X 21), .ref (X 22), .ref (X 23), .ref (X 24), .ref (X 25), .ref (X 26), .ref (X 27), .int cz, .ref (X 29)]) (C := RX10) (T := TX10) (N := 30) hx hb hts in_X10 hown hK hZ m0 rfl 2 (by decide) fl_7 (fun _ h9 => h9) rfl dX10_pointsOf_10 ?_
  refine lv_iload_n hx hb dX10_pointsOf_13 rfl (lv_at hl 1 rfl) ?_
  refine z_iald hx hb hK hZ m2 j hxj (by omega) (by decide) dX10_pointsOf_14 ?_
  refine lv_if_le (tgt := 29) hx hb dX10_pointsOf_15 (by decide) (fun c15 => ?_) (fun c15 => ?_)
  · refine lv_iconst (v := 0) hx hb dX10_pointsOf_29 (by decide) ?_
    refine lv_isub hx hb dX10_pointsOf_30 ?_
    refine lv_istore_n (lv' := [(2, .int ((10 * (nI (S.1 4 j))) - 0)), (0, .ref (X 0)), (1, .int x)]) hx hb dX10_pointsOf_31 rfl hl (by decide) rfl (fun ls hl => ?_)
    refine lv_aload_n hx hb dX10_pointsOf_32 rfl (lv_at hl 1 rfl) ?_
    refine z_get (ci := 10) (fs := [.int (nI (S.1 0 0)), .int (nI (S.1 1 0)), .ref (X 2), .ref (X 3), .ref (X 4), .ref (X 5), .ref (X 6), .long S.2.2, .ref (X 8), .ref (X 9), .int (nI (S.1 10 0)), .ref (X 11), .ref (X 12), .ref (X 13), .ref (X 14), .ref (X 15), .ref (X 16), .ref (X 17), .ref (X 18), .ref (X 19), .int (nI (S.1 20 0)), .ref (X 21), .ref (X 22), .ref (X 23), .ref (X 24), .ref (X 25), .ref (X 26), .ref (X 27), .int cz, .ref (X 29)]) (C := RX10) (T := TX10) (N := 30) hx hb hts in_X10 hown hK hZ m0 rfl 2 (by decide) fl_7 (fun _ h9 => h9) rfl dX10_pointsOf_33 ?_
    refine lv_iload_n hx hb dX10_pointsOf_36 rfl (lv_at hl 2 rfl) ?_
    refine z_iald hx hb hK hZ m2 j hxj (by omega) (by decide) dX10_pointsOf_37 ?_
    refine lv_iconst (v := 2) hx hb dX10_pointsOf_38 (by decide) ?_
    refine lv_icmp_ge (tgt := 44) hx hb dX10_pointsOf_39 (by decide) (fun c39 => ?_) (fun c39 => ?_)
    · refine lv_iload_n hx hb dX10_pointsOf_44 rfl (lv_at hl 0 rfl) ?_
      refine lv_if_lt (tgt := 54) hx hb dX10_pointsOf_45 (by decide) (fun c45 => ?_) (fun c45 => ?_)
      · refine lv_iconst (v := 3) hx hb dX10_pointsOf_54 (by decide) ?_
        refine lv_iload_n hx hb dX10_pointsOf_55 rfl (lv_at hl 0 rfl) ?_
        refine lv_isub hx hb dX10_pointsOf_56 ?_
        refine lv_iconst (v := 4) hx hb dX10_pointsOf_57 (by decide) ?_
        refine lv_idiv hx hb dX10_pointsOf_58 (by decide) ?_
        refine lv_ineg hx hb dX10_pointsOf_59 ?_
        refine lv_istore_n (lv' := [(3, .int (-((3 - ((10 * (nI (S.1 4 j))) - 0)) / 4))), (2, .int ((10 * (nI (S.1 4 j))) - 0)), (0, .ref (X 0)), (1, .int x)]) hx hb dX10_pointsOf_60 rfl hl (by decide) rfl (fun ls hl => ?_)
        refine lv_iload_n hx hb dX10_pointsOf_61 rfl (lv_at hl 1 rfl) ?_
        refine lv_iload_n hx hb dX10_pointsOf_62 rfl (lv_at hl 0 rfl) ?_
        refine lv_isub hx hb dX10_pointsOf_63 ?_
        exact z_iret hx hb hr hlocks hZ dX10_pointsOf_64 (⟨rfl, absurd c15 (pts_x g2 c39)⟩)
      · refine lv_iload_n hx hb dX10_pointsOf_48 rfl (lv_at hl 0 rfl) ?_
        refine lv_iconst (v := 4) hx hb dX10_pointsOf_49 (by decide) ?_
        refine lv_idiv hx hb dX10_pointsOf_50 (by decide) ?_
        refine lv_goto (tgt := 60) hx hb dX10_pointsOf_51 (by decide) ?_
        refine lv_istore_n (lv' := [(3, .int (((10 * (nI (S.1 4 j))) - 0) / 4)), (2, .int ((10 * (nI (S.1 4 j))) - 0)), (0, .ref (X 0)), (1, .int x)]) hx hb dX10_pointsOf_60 rfl hl (by decide) rfl (fun ls hl => ?_)
        refine lv_iload_n hx hb dX10_pointsOf_61 rfl (lv_at hl 1 rfl) ?_
        refine lv_iload_n hx hb dX10_pointsOf_62 rfl (lv_at hl 0 rfl) ?_
        refine lv_isub hx hb dX10_pointsOf_63 ?_
        exact z_iret hx hb hr hlocks hZ dX10_pointsOf_64 (⟨rfl, absurd c15 (pts_x g2 c39)⟩)
    · refine lv_iload_n hx hb dX10_pointsOf_42 rfl (lv_at hl 0 rfl) ?_
      exact z_iret hx hb hr hlocks hZ dX10_pointsOf_43 (⟨rfl, pts_a g2 c39 c15⟩)
  · refine lv_iconst (v := 2) hx hb dX10_pointsOf_18 (by decide) ?_
    refine lv_aload_n hx hb dX10_pointsOf_19 rfl (lv_at hl 0 rfl) ?_
    refine z_get (ci := 10) (fs := [.int (nI (S.1 0 0)), .int (nI (S.1 1 0)), .ref (X 2), .ref (X 3), .ref (X 4), .ref (X 5), .ref (X 6), .long S.2.2, .ref (X 8), .ref (X 9), .int (nI (S.1 10 0)), .ref (X 11), .ref (X 12), .ref (X 13), .ref (X 14), .ref (X 15), .ref (X 16), .ref (X 17), .ref (X 18), .ref (X 19), .int (nI (S.1 20 0)), .ref (X 21), .ref (X 22), .ref (X 23), .ref (X 24), .ref (X 25), .ref (X 26), .ref (X 27), .int cz, .ref (X 29)]) (C := RX10) (T := TX10) (N := 30) hx hb hts in_X10 hown hK hZ m0 rfl 5 (by decide) fl_19 (fun _ h9 => h9) rfl dX10_pointsOf_20 ?_
    refine lv_iload_n hx hb dX10_pointsOf_23 rfl (lv_at hl 1 rfl) ?_
    refine z_iald hx hb hK hZ m5 j hxj (by omega) (by decide) dX10_pointsOf_24 ?_
    refine lv_imul hx hb dX10_pointsOf_25 ?_
    refine lv_goto (tgt := 30) hx hb dX10_pointsOf_26 (by decide) ?_
    refine lv_isub hx hb dX10_pointsOf_30 ?_
    refine lv_istore_n (lv' := [(2, .int ((10 * (nI (S.1 4 j))) - (2 * (nI (S.1 5 j))))), (0, .ref (X 0)), (1, .int x)]) hx hb dX10_pointsOf_31 rfl hl (by decide) rfl (fun ls hl => ?_)
    refine lv_aload_n hx hb dX10_pointsOf_32 rfl (lv_at hl 1 rfl) ?_
    refine z_get (ci := 10) (fs := [.int (nI (S.1 0 0)), .int (nI (S.1 1 0)), .ref (X 2), .ref (X 3), .ref (X 4), .ref (X 5), .ref (X 6), .long S.2.2, .ref (X 8), .ref (X 9), .int (nI (S.1 10 0)), .ref (X 11), .ref (X 12), .ref (X 13), .ref (X 14), .ref (X 15), .ref (X 16), .ref (X 17), .ref (X 18), .ref (X 19), .int (nI (S.1 20 0)), .ref (X 21), .ref (X 22), .ref (X 23), .ref (X 24), .ref (X 25), .ref (X 26), .ref (X 27), .int cz, .ref (X 29)]) (C := RX10) (T := TX10) (N := 30) hx hb hts in_X10 hown hK hZ m0 rfl 2 (by decide) fl_7 (fun _ h9 => h9) rfl dX10_pointsOf_33 ?_
    refine lv_iload_n hx hb dX10_pointsOf_36 rfl (lv_at hl 2 rfl) ?_
    refine z_iald hx hb hK hZ m2 j hxj (by omega) (by decide) dX10_pointsOf_37 ?_
    refine lv_iconst (v := 2) hx hb dX10_pointsOf_38 (by decide) ?_
    refine lv_icmp_ge (tgt := 44) hx hb dX10_pointsOf_39 (by decide) (fun c39 => ?_) (fun c39 => ?_)
    · refine lv_iload_n hx hb dX10_pointsOf_44 rfl (lv_at hl 0 rfl) ?_
      refine lv_if_lt (tgt := 54) hx hb dX10_pointsOf_45 (by decide) (fun c45 => ?_) (fun c45 => ?_)
      · refine lv_iconst (v := 3) hx hb dX10_pointsOf_54 (by decide) ?_
        refine lv_iload_n hx hb dX10_pointsOf_55 rfl (lv_at hl 0 rfl) ?_
        refine lv_isub hx hb dX10_pointsOf_56 ?_
        refine lv_iconst (v := 4) hx hb dX10_pointsOf_57 (by decide) ?_
        refine lv_idiv hx hb dX10_pointsOf_58 (by decide) ?_
        refine lv_ineg hx hb dX10_pointsOf_59 ?_
        refine lv_istore_n (lv' := [(3, .int (-((3 - ((10 * (nI (S.1 4 j))) - (2 * (nI (S.1 5 j))))) / 4))), (2, .int ((10 * (nI (S.1 4 j))) - (2 * (nI (S.1 5 j))))), (0, .ref (X 0)), (1, .int x)]) hx hb dX10_pointsOf_60 rfl hl (by decide) rfl (fun ls hl => ?_)
        refine lv_iload_n hx hb dX10_pointsOf_61 rfl (lv_at hl 1 rfl) ?_
        refine lv_iload_n hx hb dX10_pointsOf_62 rfl (lv_at hl 0 rfl) ?_
        refine lv_isub hx hb dX10_pointsOf_63 ?_
        exact z_iret hx hb hr hlocks hZ dX10_pointsOf_64 (⟨rfl, pts_c g2 g4 g5 c39 c45⟩)
      · refine lv_iload_n hx hb dX10_pointsOf_48 rfl (lv_at hl 0 rfl) ?_
        refine lv_iconst (v := 4) hx hb dX10_pointsOf_49 (by decide) ?_
        refine lv_idiv hx hb dX10_pointsOf_50 (by decide) ?_
        refine lv_goto (tgt := 60) hx hb dX10_pointsOf_51 (by decide) ?_
        refine lv_istore_n (lv' := [(3, .int (((10 * (nI (S.1 4 j))) - (2 * (nI (S.1 5 j)))) / 4)), (2, .int ((10 * (nI (S.1 4 j))) - (2 * (nI (S.1 5 j))))), (0, .ref (X 0)), (1, .int x)]) hx hb dX10_pointsOf_60 rfl hl (by decide) rfl (fun ls hl => ?_)
        refine lv_iload_n hx hb dX10_pointsOf_61 rfl (lv_at hl 1 rfl) ?_
        refine lv_iload_n hx hb dX10_pointsOf_62 rfl (lv_at hl 0 rfl) ?_
        refine lv_isub hx hb dX10_pointsOf_63 ?_
        exact z_iret hx hb hr hlocks hZ dX10_pointsOf_64 (⟨rfl, pts_d g2 g4 g5 c39 c45⟩)
    · refine lv_iload_n hx hb dX10_pointsOf_42 rfl (lv_at hl 0 rfl) ?_
      exact z_iret hx hb hr hlocks hZ dX10_pointsOf_43 (⟨rfl, pts_b g2 c39 c15⟩)
end
section
theorem n0 {v : Nat} (h : v ≤ 2) (c : nI v = 0) : v = 0 := nI_inj (by omega) (by decide) (show nI v = nI 0 from c)
theorem mks_0 {S : zS} {j : Nat} (g2 : S.1 2 j ≤ 2) (h : nI (S.1 2 j) = 0) : mks S j = 1 := by rw [mks, if_pos (n0 g2 h)]
theorem mks_1 {S : zS} {j : Nat} (g2 : S.1 2 j ≤ 2) (h : nI (S.1 2 j) = 1) : mks S j = 11 := by
  have h1 : S.1 2 j = 1 := nI_inj (by omega) (by decide) (show nI (S.1 2 j) = nI 1 from h)
  rw [mks, if_neg (by omega), if_pos h1]
theorem mks_2 {S : zS} {j : Nat} (g2 : S.1 2 j ≤ 2) (h : ¬ nI (S.1 2 j) = 0) (h1 : ¬ nI (S.1 2 j) = 1) : mks S j = 111 := by
  rw [mks, if_neg (fun q => h (by rw [q]; rfl)), if_neg (fun q => h1 (by rw [q]; rfl))]
theorem z_cl {x hi : Int32} {n : Nat} (h : 0 ≤ x ∧ x ≤ hi) (hn : hi.toInt = n) : x.toNatClampNeg ≤ n := by
  have h1 := h.2
  rw [i_le, hn] at h1
  have h0 := h.1
  rw [i_le] at h0
  have e0 : (0 : Int32).toInt = 0 := by decide
  have : x.toNatClampNeg = x.toInt.toNat := rfl
  omega
theorem law_y {x : Int32} (h : 0 ≤ x ∧ x ≤ 30) : x.toNatClampNeg ≤ 30 := z_cl h (by decide)
theorem law_ix0 {x : Int32} {j : Nat} (h : x = nI j) : 7 * x = nI (7 * j) := by rw [h]; exact pk_mul 7 j
theorem law_ix {x : Int32} {j : Nat} (h : x = nI j) (k : Nat) : 7 * x + nI k = nI (7 * j + k) := by rw [law_ix0 h, nI_add]
theorem law_10 {x : Int32} {j : Nat} (h : x = nI j) : 10 * x = nI (10 * j) := by rw [h]; exact pk_mul 10 j
theorem law_st {x : Int32} {j t : Nat} (hj : j ≤ 30) (h : x = nI j) (ht : t < 1000) (c : ¬ nI t < 10 * x) : 10 * j ≤ t := by
  rw [law_10 h] at c
  exact Nat.not_lt.mp (fun q => c (nI_lt q (by omega)))
theorem law_gt {x : Int32} {j t : Nat} (hj : j ≤ 30) (h : x = nI j) (ht : t < 1000) (c : nI t < 10 * x) : ¬ 10 * j ≤ t := by
  rw [law_10 h] at c
  exact Nat.not_le.mpr ((nI_ltI (by omega) (by omega)).mp c)
theorem yr_div {x : Int32} {d : Nat} (hd : d ≤ 400) (h : x = nI d) : x / 10 = nI (d / 10) := by rw [h]; exact pk_div (d := 10) (by omega) (by decide) (by decide)
theorem yr_le {x : Int32} {d : Nat} (hd : d ≤ 400) (h : x = nI d) (c : x / 10 ≤ 30) : d / 10 ≤ 30 := by
  rw [yr_div hd h] at c
  exact (nI_leI (by omega) (by decide)).mp (show nI (d / 10) ≤ nI 30 from c)
theorem yr_gt {x : Int32} {d : Nat} (hd : d ≤ 400) (h : x = nI d) (c : ¬ x / 10 ≤ 30) : ¬ d / 10 ≤ 30 := by
  rw [yr_div hd h] at c
  exact fun q => c (nI_le q (by decide))
theorem yr_t {x : Int32} {d : Nat} (hd : d ≤ 400) (h : x = nI d) (c : d / 10 ≤ 30) : x / 10 = nI (min (d / 10) 30 + 1) - 1 := by
  rw [nI_pred, yr_div hd h, Nat.min_eq_left c]
theorem yr_f {d : Nat} (c : ¬ d / 10 ≤ 30) : (30 : Int32) = nI (min (d / 10) 30 + 1) - 1 := by
  rw [nI_pred, Nat.min_eq_right (by omega)]; rfl
theorem nI_m1 (k : Nat) : nI k + Int32.ofInt (-1) = nI k - 1 := by rw [Int32.sub_eq_add_neg]; rfl
theorem yr_no {S : zS} {k : Nat} (c : nI (S.1 9 k) = 0) : ¬ S.1 9 k = 1 := fun h => by rw [h] at c; exact absurd c (by decide)
theorem yr_yes {S : zS} {k : Nat} (k9 : ∀ y, S.1 9 y ≤ 1) (c : ¬ nI (S.1 9 k) = 0) : S.1 9 k = 1 := by
  have h := k9 k
  have h0 : ¬ S.1 9 k = 0 := fun q => c (by rw [q]; rfl)
  omega
theorem yrS_le (S : zS) : ∀ k, k ≤ 31 → yrS S k ≤ 31
  | 0, _ => Nat.le_refl 31
  | k + 1, h => by
    rw [yrS]
    by_cases c : S.1 9 k = 1
    · rw [if_pos c]; omega
    · rw [if_neg c]; exact yrS_le S k (by omega)
theorem yx_le (S : zS) (d : Nat) : yx S d ≤ 31 := yrS_le S _ (by omega)
theorem yx_lt (S : zS) (d : Nat) : yx S d < 2 ^ 31 := by have := yx_le S d; omega
theorem lw_lt (S : zS) (d : Nat) {k : Nat} (hk : k < 7) : 7 * yx S d + k < 224 := by have := yx_le S d; omega
theorem lw_ix {S : zS} {d k : Nat} {y : Int32} (h : y = nI k) : 7 * nI (yx S d) + y = nI (7 * yx S d + k) := by
  rw [h, show (7 : Int32) * nI (yx S d) = nI (7 * yx S d) from pk_mul 7 _, nI_add]
theorem fr_ge {y : Int32} {k : Nat} (h : y = nI k) (hk : k ≤ 7) (c : 7 ≤ y) : ¬ k < 7 := by
  rw [h] at c
  exact Nat.not_lt.mpr ((nI_leI (a := 7) (by decide) (by omega)).mp c)
theorem fr_lt {y : Int32} {k : Nat} (h : y = nI k) (hk : k ≤ 7) (c : ¬ 7 ≤ y) : k < 7 := by
  rw [h] at c
  exact Nat.not_le.mp (fun q => c (nI_le (a := 7) q (by omega)))
theorem ix_lt {x : Int32} {n : Nat} (c : 0 ≤ x ∧ x ≤ nI n - 1) (hn : n < 100000) : x.toNatClampNeg < n ∧ x = nI x.toNatClampNeg := by
  refine ⟨?_, (z_self c.1).symm⟩
  rcases Nat.eq_zero_or_pos n with h0 | h0
  · exfalso
    subst h0
    have h1 := c.1
    have h2 := c.2
    rw [i_le] at h1 h2
    rw [show (nI 0 - 1 : Int32).toInt = -1 by decide] at h2
    rw [show (0 : Int32).toInt = 0 by decide] at h1
    omega
  · have h2 := c
    rw [nI_sub1 h0] at h2
    have := z_cl h2 (nI_toInt (by omega))
    omega
theorem day_add {x : Int32} {t j : Nat} (h : x = nI j) : nI t + x = nI (t + j) := by rw [h, nI_add]
end
section
set_option maxHeartbeats 4000000 in
set_option maxRecDepth 100000 in
theorem c_X10_points (l : Launch) (D : va_G) (cT : Nat → ClassId) (G : zG) (sz : Nat) (S : zS) (X : Nat → Nat) (cz : Int32) (f27 f29 : Nat → Int32) (nn : Nat) (x : Int32) (hM : MD cT S X cz f27 f29 G) (hXI : XI X) (hS : ok S nn)  : zM l D cT yX10_points wsX10_points (zR 2 0 0) [.ref (X 0), .int x] G sz (mQ cT X (sp_points S x)) := by
  refine z_start (cc := cX10_points) (maxL := 2) (ret := (some .int)) (by decide) rfl (Nat.le_of_ble_eq_true rfl) ?_
  intro p e s m below meth c ls hI hZ hl
  obtain ⟨hx, hb, hr, hml, hts, hown, hlocks, hname, hK, hA, hE⟩ := hI
  have hl : lv_has ls 2 [(0, .ref (X 0)), (1, .int x)] := hl
  have hown : s.vm.findClass RX10 = some m.cls := hown
  have in_X10 : ∀ w ∈ u_ws RX10 TX10 30, w ∈ wsX10_points := by decide +kernel
  have fl_7 := hts (.fieldLink RX10 7 "FairRentsModel" "kind" "[I") (by decide +kernel)
  have fl_95 := hts (.fieldLink RX10 95 "FairRentsModel" "trace" "J") (by decide +kernel)
  obtain ⟨m0, m2, m3, m4, m5, m6, m8, m9, m11, m12, m13, m14, m15, m16, m17, m18, m19, m21, m22, m23, m24, m25, m26, m27, m29⟩ := id hM
  obtain ⟨⟨k1, k10, k20, k0⟩, kH, k9, k8, k15, k26, kL, kLn, kP, kE, kEm, kn⟩ := id hS
  refine lv_aload_n hx hb dX10_points_0 rfl (lv_at hl 0 rfl) ?_
  refine lv_iload_n hx hb dX10_points_1 rfl (lv_at hl 1 rfl) ?_
  refine z_call (va_runV (As := [.int x]) (rest := []) ⟨hx, hb, hml, hown, hts⟩ (c_X10_isHome l D cT _ _ S X _ _ _ nn x hM hXI hS ) (cwV 1 hts gX10_points_X10_isHome rfl rfl rfl (by decide +kernel) ⟨(Nat.le_of_ble_eq_true rfl), (Nat.le_of_ble_eq_true rfl)⟩) (z_preV hK hE hZ hA (ci := 10) rfl m0) rfl rfl hl.1 rfl (lv_room (Nat.le_of_ble_eq_true rfl)) dX10_points_2 ⟨(Nat.le_of_ble_eq_true rfl), (Nat.le_of_ble_eq_true rfl)⟩) hZ hA (fun r G2 H locs hq hZ => ?_)
  obtain ⟨hg, rfl⟩ := hq
  replace hg := hg.symm
  subst hg
  refine W.eq (g2 := F0 m 5 ls [.int (if 0 ≤ x ∧ x ≤ nI (S.1 1 0) - 1 then 1 else 0)]) rfl ?_
  refine zb_ne (tgt := 10) hx hb dX10_points_5 (by decide) (fun c5 => ?_) (fun c5 => ?_)
  · obtain ⟨j, hj, hxj, hh⟩ := hix_yes k1 c5
    refine lv_aload_n hx hb dX10_points_10 rfl (lv_at hl 0 rfl) ?_
    refine lv_dup hx hb dX10_points_11 rfl ?_
    refine z_get (ci := 10) (fs := [.int (nI (S.1 0 0)), .int (nI (S.1 1 0)), .ref (X 2), .ref (X 3), .ref (X 4), .ref (X 5), .ref (X 6), .long S.2.2, .ref (X 8), .ref (X 9), .int (nI (S.1 10 0)), .ref (X 11), .ref (X 12), .ref (X 13), .ref (X 14), .ref (X 15), .ref (X 16), .ref (X 17), .ref (X 18), .ref (X 19), .int (nI (S.1 20 0)), .ref (X 21), .ref (X 22), .ref (X 23), .ref (X 24), .ref (X 25), .ref (X 26), .ref (X 27), .int cz, .ref (X 29)]) (C := RX10) (T := TX10) (N := 30) hx hb hts in_X10 hown hK hZ m0 rfl 7 (by decide) fl_95 (fun _ h9 => h9) rfl dX10_points_12 ?_
    refine lv_aload_n hx hb dX10_points_15 rfl (lv_at hl 0 rfl) ?_
    refine z_get (ci := 10) (fs := [.int (nI (S.1 0 0)), .int (nI (S.1 1 0)), .ref (X 2), .ref (X 3), .ref (X 4), .ref (X 5), .ref (X 6), .long S.2.2, .ref (X 8), .ref (X 9), .int (nI (S.1 10 0)), .ref (X 11), .ref (X 12), .ref (X 13), .ref (X 14), .ref (X 15), .ref (X 16), .ref (X 17), .ref (X 18), .ref (X 19), .int (nI (S.1 20 0)), .ref (X 21), .ref (X 22), .ref (X 23), .ref (X 24), .ref (X 25), .ref (X 26), .ref (X 27), .int cz, .ref (X 29)]) (C := RX10) (T := TX10) (N := 30) hx hb hts in_X10 hown hK hZ m0 rfl 2 (by decide) fl_7 (fun _ h9 => h9) rfl dX10_points_16 ?_
    refine lv_iload_n hx hb dX10_points_19 rfl (lv_at hl 1 rfl) ?_
    refine z_iald hx hb hK hZ m2 j hxj (by omega) (by decide) dX10_points_20 ?_
    refine lv_if_ne (tgt := 28) hx hb dX10_points_21 (by decide) (fun c21 => ?_) (fun c21 => ?_)
    · refine lv_aload_n hx hb dX10_points_28 rfl (lv_at hl 0 rfl) ?_
      refine z_get (ci := 10) (fs := [.int (nI (S.1 0 0)), .int (nI (S.1 1 0)), .ref (X 2), .ref (X 3), .ref (X 4), .ref (X 5), .ref (X 6), .long S.2.2, .ref (X 8), .ref (X 9), .int (nI (S.1 10 0)), .ref (X 11), .ref (X 12), .ref (X 13), .ref (X 14), .ref (X 15), .ref (X 16), .ref (X 17), .ref (X 18), .ref (X 19), .int (nI (S.1 20 0)), .ref (X 21), .ref (X 22), .ref (X 23), .ref (X 24), .ref (X 25), .ref (X 26), .ref (X 27), .int cz, .ref (X 29)]) (C := RX10) (T := TX10) (N := 30) hx hb hts in_X10 hown hK hZ m0 rfl 2 (by decide) fl_7 (fun _ h9 => h9) rfl dX10_points_29 ?_
      refine lv_iload_n hx hb dX10_points_32 rfl (lv_at hl 1 rfl) ?_
      refine z_iald hx hb hK hZ m2 j hxj (by omega) (by decide) dX10_points_33 ?_
      refine lv_iconst (v := 1) hx hb dX10_points_34 (by decide) ?_
      refine lv_icmp_ne (tgt := 44) hx hb dX10_points_35 (by decide) (fun c35 => ?_) (fun c35 => ?_)
      · refine lv_ldc2 (v := 111) hx hb hown (hts (.constantLong RX10 101 111) (by decide +kernel)) dX10_points_44 ?_
        refine lv_ladd hx hb dX10_points_47 ?_
        refine z_put (ci := 10) (fs := [.int (nI (S.1 0 0)), .int (nI (S.1 1 0)), .ref (X 2), .ref (X 3), .ref (X 4), .ref (X 5), .ref (X 6), .long S.2.2, .ref (X 8), .ref (X 9), .int (nI (S.1 10 0)), .ref (X 11), .ref (X 12), .ref (X 13), .ref (X 14), .ref (X 15), .ref (X 16), .ref (X 17), .ref (X 18), .ref (X 19), .int (nI (S.1 20 0)), .ref (X 21), .ref (X 22), .ref (X 23), .ref (X 24), .ref (X 25), .ref (X 26), .ref (X 27), .int cz, .ref (X 29)]) (fs' := [.int (nI (S.1 0 0)), .int (nI (S.1 1 0)), .ref (X 2), .ref (X 3), .ref (X 4), .ref (X 5), .ref (X 6), .long (S.2.2 + 111), .ref (X 8), .ref (X 9), .int (nI (S.1 10 0)), .ref (X 11), .ref (X 12), .ref (X 13), .ref (X 14), .ref (X 15), .ref (X 16), .ref (X 17), .ref (X 18), .ref (X 19), .int (nI (S.1 20 0)), .ref (X 21), .ref (X 22), .ref (X 23), .ref (X 24), .ref (X 25), .ref (X 26), .ref (X 27), .int cz, .ref (X 29)]) (v := .long (S.2.2 + 111)) (ty := .long) (C := RX10) (T := TX10) (N := 30) hx hb hts in_X10 tyX10 tyX10_ok nmX10 hown hK hZ m0 rfl 7 (by decide) fl_95 (fun _ h9 => h9) rfl (by decide +kernel) rfl rfl (Nat.le_of_ble_eq_true rfl) rfl dX10_points_48 (fun H locs hZ => ?_)
        refine lv_aload_n hx hb dX10_points_51 rfl (lv_at hl 0 rfl) ?_
        refine lv_iload_n hx hb dX10_points_52 rfl (lv_at hl 1 rfl) ?_
        refine z_call (va_runV (As := [.int x]) (rest := []) ⟨hx, hb, hml, hown, hts⟩ (c_X10_pointsOf l D cT _ _ (sT S (S.2.2 + 111)) X cz f27 f29 nn x j ⟨(va_up_self _ _ _), ((va_up_ne _ _ (fun q => absurd (hXI 2 0 (by decide) (by decide) q) (by decide))).trans m2), ((va_up_ne _ _ (fun q => absurd (hXI 3 0 (by decide) (by decide) q) (by decide))).trans m3), ((va_up_ne _ _ (fun q => absurd (hXI 4 0 (by decide) (by decide) q) (by decide))).trans m4), ((va_up_ne _ _ (fun q => absurd (hXI 5 0 (by decide) (by decide) q) (by decide))).trans m5), ((va_up_ne _ _ (fun q => absurd (hXI 6 0 (by decide) (by decide) q) (by decide))).trans m6), ((va_up_ne _ _ (fun q => absurd (hXI 8 0 (by decide) (by decide) q) (by decide))).trans m8), ((va_up_ne _ _ (fun q => absurd (hXI 9 0 (by decide) (by decide) q) (by decide))).trans m9), ((va_up_ne _ _ (fun q => absurd (hXI 11 0 (by decide) (by decide) q) (by decide))).trans m11), ((va_up_ne _ _ (fun q => absurd (hXI 12 0 (by decide) (by decide) q) (by decide))).trans m12), ((va_up_ne _ _ (fun q => absurd (hXI 13 0 (by decide) (by decide) q) (by decide))).trans m13), ((va_up_ne _ _ (fun q => absurd (hXI 14 0 (by decide) (by decide) q) (by decide))).trans m14), ((va_up_ne _ _ (fun q => absurd (hXI 15 0 (by decide) (by decide) q) (by decide))).trans m15), ((va_up_ne _ _ (fun q => absurd (hXI 16 0 (by decide) (by decide) q) (by decide))).trans m16), ((va_up_ne _ _ (fun q => absurd (hXI 17 0 (by decide) (by decide) q) (by decide))).trans m17), ((va_up_ne _ _ (fun q => absurd (hXI 18 0 (by decide) (by decide) q) (by decide))).trans m18), ((va_up_ne _ _ (fun q => absurd (hXI 19 0 (by decide) (by decide) q) (by decide))).trans m19), ((va_up_ne _ _ (fun q => absurd (hXI 21 0 (by decide) (by decide) q) (by decide))).trans m21), ((va_up_ne _ _ (fun q => absurd (hXI 22 0 (by decide) (by decide) q) (by decide))).trans m22), ((va_up_ne _ _ (fun q => absurd (hXI 23 0 (by decide) (by decide) q) (by decide))).trans m23), ((va_up_ne _ _ (fun q => absurd (hXI 24 0 (by decide) (by decide) q) (by decide))).trans m24), ((va_up_ne _ _ (fun q => absurd (hXI 25 0 (by decide) (by decide) q) (by decide))).trans m25), ((va_up_ne _ _ (fun q => absurd (hXI 26 0 (by decide) (by decide) q) (by decide))).trans m26), ((va_up_ne _ _ (fun q => absurd (hXI 27 0 (by decide) (by decide) q) (by decide))).trans m27), ((va_up_ne _ _ (fun q => absurd (hXI 29 0 (by decide) (by decide) q) (by decide))).trans m29)⟩ hXI hS hj hxj) (cwV 1 hts gX10_points_X10_pointsOf rfl rfl rfl (by decide +kernel) ⟨(Nat.le_of_ble_eq_true rfl), (Nat.le_of_ble_eq_true rfl)⟩) (z_preV hK hE hZ hA (ci := 10) rfl (va_up_self _ _ _)) rfl rfl hl.1 rfl (lv_room (Nat.le_of_ble_eq_true rfl)) dX10_points_53 ⟨(Nat.le_of_ble_eq_true rfl), (Nat.le_of_ble_eq_true rfl)⟩) hZ hA (fun r G53 H locs hq hZ => ?_)
        obtain ⟨hg, rfl⟩ := hq
        replace hg := hg.symm
        subst hg
        refine W.eq (g2 := F0 m 56 ls [.int (pts S j)]) rfl ?_
        exact z_iret hx hb hr hlocks hZ dX10_points_56 (by rw [sp_points, hh]; simp only []; rw [mks_2 (kH j hj).1 c21 c35]; exact ⟨⟨_, _, _, (va_up_self _ _ _), ((va_up_ne _ _ (fun q => absurd (hXI 2 0 (by decide) (by decide) q) (by decide))).trans m2), ((va_up_ne _ _ (fun q => absurd (hXI 3 0 (by decide) (by decide) q) (by decide))).trans m3), ((va_up_ne _ _ (fun q => absurd (hXI 4 0 (by decide) (by decide) q) (by decide))).trans m4), ((va_up_ne _ _ (fun q => absurd (hXI 5 0 (by decide) (by decide) q) (by decide))).trans m5), ((va_up_ne _ _ (fun q => absurd (hXI 6 0 (by decide) (by decide) q) (by decide))).trans m6), ((va_up_ne _ _ (fun q => absurd (hXI 8 0 (by decide) (by decide) q) (by decide))).trans m8), ((va_up_ne _ _ (fun q => absurd (hXI 9 0 (by decide) (by decide) q) (by decide))).trans m9), ((va_up_ne _ _ (fun q => absurd (hXI 11 0 (by decide) (by decide) q) (by decide))).trans m11), ((va_up_ne _ _ (fun q => absurd (hXI 12 0 (by decide) (by decide) q) (by decide))).trans m12), ((va_up_ne _ _ (fun q => absurd (hXI 13 0 (by decide) (by decide) q) (by decide))).trans m13), ((va_up_ne _ _ (fun q => absurd (hXI 14 0 (by decide) (by decide) q) (by decide))).trans m14), ((va_up_ne _ _ (fun q => absurd (hXI 15 0 (by decide) (by decide) q) (by decide))).trans m15), ((va_up_ne _ _ (fun q => absurd (hXI 16 0 (by decide) (by decide) q) (by decide))).trans m16), ((va_up_ne _ _ (fun q => absurd (hXI 17 0 (by decide) (by decide) q) (by decide))).trans m17), ((va_up_ne _ _ (fun q => absurd (hXI 18 0 (by decide) (by decide) q) (by decide))).trans m18), ((va_up_ne _ _ (fun q => absurd (hXI 19 0 (by decide) (by decide) q) (by decide))).trans m19), ((va_up_ne _ _ (fun q => absurd (hXI 21 0 (by decide) (by decide) q) (by decide))).trans m21), ((va_up_ne _ _ (fun q => absurd (hXI 22 0 (by decide) (by decide) q) (by decide))).trans m22), ((va_up_ne _ _ (fun q => absurd (hXI 23 0 (by decide) (by decide) q) (by decide))).trans m23), ((va_up_ne _ _ (fun q => absurd (hXI 24 0 (by decide) (by decide) q) (by decide))).trans m24), ((va_up_ne _ _ (fun q => absurd (hXI 25 0 (by decide) (by decide) q) (by decide))).trans m25), ((va_up_ne _ _ (fun q => absurd (hXI 26 0 (by decide) (by decide) q) (by decide))).trans m26), ((va_up_ne _ _ (fun q => absurd (hXI 27 0 (by decide) (by decide) q) (by decide))).trans m27), ((va_up_ne _ _ (fun q => absurd (hXI 29 0 (by decide) (by decide) q) (by decide))).trans m29)⟩, rfl⟩)
      · refine lv_ldc2 (v := 11) hx hb hown (hts (.constantLong RX10 99 11) (by decide +kernel)) dX10_points_38 ?_
        refine lv_goto (tgt := 47) hx hb dX10_points_41 (by decide) ?_
        refine lv_ladd hx hb dX10_points_47 ?_
        refine z_put (ci := 10) (fs := [.int (nI (S.1 0 0)), .int (nI (S.1 1 0)), .ref (X 2), .ref (X 3), .ref (X 4), .ref (X 5), .ref (X 6), .long S.2.2, .ref (X 8), .ref (X 9), .int (nI (S.1 10 0)), .ref (X 11), .ref (X 12), .ref (X 13), .ref (X 14), .ref (X 15), .ref (X 16), .ref (X 17), .ref (X 18), .ref (X 19), .int (nI (S.1 20 0)), .ref (X 21), .ref (X 22), .ref (X 23), .ref (X 24), .ref (X 25), .ref (X 26), .ref (X 27), .int cz, .ref (X 29)]) (fs' := [.int (nI (S.1 0 0)), .int (nI (S.1 1 0)), .ref (X 2), .ref (X 3), .ref (X 4), .ref (X 5), .ref (X 6), .long (S.2.2 + 11), .ref (X 8), .ref (X 9), .int (nI (S.1 10 0)), .ref (X 11), .ref (X 12), .ref (X 13), .ref (X 14), .ref (X 15), .ref (X 16), .ref (X 17), .ref (X 18), .ref (X 19), .int (nI (S.1 20 0)), .ref (X 21), .ref (X 22), .ref (X 23), .ref (X 24), .ref (X 25), .ref (X 26), .ref (X 27), .int cz, .ref (X 29)]) (v := .long (S.2.2 + 11)) (ty := .long) (C := RX10) (T := TX10) (N := 30) hx hb hts in_X10 tyX10 tyX10_ok nmX10 hown hK hZ m0 rfl 7 (by decide) fl_95 (fun _ h9 => h9) rfl (by decide +kernel) rfl rfl (Nat.le_of_ble_eq_true rfl) rfl dX10_points_48 (fun H locs hZ => ?_)
        refine lv_aload_n hx hb dX10_points_51 rfl (lv_at hl 0 rfl) ?_
        refine lv_iload_n hx hb dX10_points_52 rfl (lv_at hl 1 rfl) ?_
        refine z_call (va_runV (As := [.int x]) (rest := []) ⟨hx, hb, hml, hown, hts⟩ (c_X10_pointsOf l D cT _ _ (sT S (S.2.2 + 11)) X cz f27 f29 nn x j ⟨(va_up_self _ _ _), ((va_up_ne _ _ (fun q => absurd (hXI 2 0 (by decide) (by decide) q) (by decide))).trans m2), ((va_up_ne _ _ (fun q => absurd (hXI 3 0 (by decide) (by decide) q) (by decide))).trans m3), ((va_up_ne _ _ (fun q => absurd (hXI 4 0 (by decide) (by decide) q) (by decide))).trans m4), ((va_up_ne _ _ (fun q => absurd (hXI 5 0 (by decide) (by decide) q) (by decide))).trans m5), ((va_up_ne _ _ (fun q => absurd (hXI 6 0 (by decide) (by decide) q) (by decide))).trans m6), ((va_up_ne _ _ (fun q => absurd (hXI 8 0 (by decide) (by decide) q) (by decide))).trans m8), ((va_up_ne _ _ (fun q => absurd (hXI 9 0 (by decide) (by decide) q) (by decide))).trans m9), ((va_up_ne _ _ (fun q => absurd (hXI 11 0 (by decide) (by decide) q) (by decide))).trans m11), ((va_up_ne _ _ (fun q => absurd (hXI 12 0 (by decide) (by decide) q) (by decide))).trans m12), ((va_up_ne _ _ (fun q => absurd (hXI 13 0 (by decide) (by decide) q) (by decide))).trans m13), ((va_up_ne _ _ (fun q => absurd (hXI 14 0 (by decide) (by decide) q) (by decide))).trans m14), ((va_up_ne _ _ (fun q => absurd (hXI 15 0 (by decide) (by decide) q) (by decide))).trans m15), ((va_up_ne _ _ (fun q => absurd (hXI 16 0 (by decide) (by decide) q) (by decide))).trans m16), ((va_up_ne _ _ (fun q => absurd (hXI 17 0 (by decide) (by decide) q) (by decide))).trans m17), ((va_up_ne _ _ (fun q => absurd (hXI 18 0 (by decide) (by decide) q) (by decide))).trans m18), ((va_up_ne _ _ (fun q => absurd (hXI 19 0 (by decide) (by decide) q) (by decide))).trans m19), ((va_up_ne _ _ (fun q => absurd (hXI 21 0 (by decide) (by decide) q) (by decide))).trans m21), ((va_up_ne _ _ (fun q => absurd (hXI 22 0 (by decide) (by decide) q) (by decide))).trans m22), ((va_up_ne _ _ (fun q => absurd (hXI 23 0 (by decide) (by decide) q) (by decide))).trans m23), ((va_up_ne _ _ (fun q => absurd (hXI 24 0 (by decide) (by decide) q) (by decide))).trans m24), ((va_up_ne _ _ (fun q => absurd (hXI 25 0 (by decide) (by decide) q) (by decide))).trans m25), ((va_up_ne _ _ (fun q => absurd (hXI 26 0 (by decide) (by decide) q) (by decide))).trans m26), ((va_up_ne _ _ (fun q => absurd (hXI 27 0 (by decide) (by decide) q) (by decide))).trans m27), ((va_up_ne _ _ (fun q => absurd (hXI 29 0 (by decide) (by decide) q) (by decide))).trans m29)⟩ hXI hS hj hxj) (cwV 1 hts gX10_points_X10_pointsOf rfl rfl rfl (by decide +kernel) ⟨(Nat.le_of_ble_eq_true rfl), (Nat.le_of_ble_eq_true rfl)⟩) (z_preV hK hE hZ hA (ci := 10) rfl (va_up_self _ _ _)) rfl rfl hl.1 rfl (lv_room (Nat.le_of_ble_eq_true rfl)) dX10_points_53 ⟨(Nat.le_of_ble_eq_true rfl), (Nat.le_of_ble_eq_true rfl)⟩) hZ hA (fun r G53 H locs hq hZ => ?_)
        obtain ⟨hg, rfl⟩ := hq
        replace hg := hg.symm
        subst hg
        refine W.eq (g2 := F0 m 56 ls [.int (pts S j)]) rfl ?_
        exact z_iret hx hb hr hlocks hZ dX10_points_56 (by rw [sp_points, hh]; simp only []; rw [mks_1 (kH j hj).1 c35]; exact ⟨⟨_, _, _, (va_up_self _ _ _), ((va_up_ne _ _ (fun q => absurd (hXI 2 0 (by decide) (by decide) q) (by decide))).trans m2), ((va_up_ne _ _ (fun q => absurd (hXI 3 0 (by decide) (by decide) q) (by decide))).trans m3), ((va_up_ne _ _ (fun q => absurd (hXI 4 0 (by decide) (by decide) q) (by decide))).trans m4), ((va_up_ne _ _ (fun q => absurd (hXI 5 0 (by decide) (by decide) q) (by decide))).trans m5), ((va_up_ne _ _ (fun q => absurd (hXI 6 0 (by decide) (by decide) q) (by decide))).trans m6), ((va_up_ne _ _ (fun q => absurd (hXI 8 0 (by decide) (by decide) q) (by decide))).trans m8), ((va_up_ne _ _ (fun q => absurd (hXI 9 0 (by decide) (by decide) q) (by decide))).trans m9), ((va_up_ne _ _ (fun q => absurd (hXI 11 0 (by decide) (by decide) q) (by decide))).trans m11), ((va_up_ne _ _ (fun q => absurd (hXI 12 0 (by decide) (by decide) q) (by decide))).trans m12), ((va_up_ne _ _ (fun q => absurd (hXI 13 0 (by decide) (by decide) q) (by decide))).trans m13), ((va_up_ne _ _ (fun q => absurd (hXI 14 0 (by decide) (by decide) q) (by decide))).trans m14), ((va_up_ne _ _ (fun q => absurd (hXI 15 0 (by decide) (by decide) q) (by decide))).trans m15), ((va_up_ne _ _ (fun q => absurd (hXI 16 0 (by decide) (by decide) q) (by decide))).trans m16), ((va_up_ne _ _ (fun q => absurd (hXI 17 0 (by decide) (by decide) q) (by decide))).trans m17), ((va_up_ne _ _ (fun q => absurd (hXI 18 0 (by decide) (by decide) q) (by decide))).trans m18), ((va_up_ne _ _ (fun q => absurd (hXI 19 0 (by decide) (by decide) q) (by decide))).trans m19), ((va_up_ne _ _ (fun q => absurd (hXI 21 0 (by decide) (by decide) q) (by decide))).trans m21), ((va_up_ne _ _ (fun q => absurd (hXI 22 0 (by decide) (by decide) q) (by decide))).trans m22), ((va_up_ne _ _ (fun q => absurd (hXI 23 0 (by decide) (by decide) q) (by decide))).trans m23), ((va_up_ne _ _ (fun q => absurd (hXI 24 0 (by decide) (by decide) q) (by decide))).trans m24), ((va_up_ne _ _ (fun q => absurd (hXI 25 0 (by decide) (by decide) q) (by decide))).trans m25), ((va_up_ne _ _ (fun q => absurd (hXI 26 0 (by decide) (by decide) q) (by decide))).trans m26), ((va_up_ne _ _ (fun q => absurd (hXI 27 0 (by decide) (by decide) q) (by decide))).trans m27), ((va_up_ne _ _ (fun q => absurd (hXI 29 0 (by decide) (by decide) q) (by decide))).trans m29)⟩, rfl⟩)
    · refine lv_lconst (v := 1) hx hb dX10_points_24 (by decide) ?_
      refine lv_goto (tgt := 47) hx hb dX10_points_25 (by decide) ?_
      refine lv_ladd hx hb dX10_points_47 ?_
      refine z_put (ci := 10) (fs := [.int (nI (S.1 0 0)), .int (nI (S.1 1 0)), .ref (X 2), .ref (X 3), .ref (X 4), .ref (X 5), .ref (X 6), .long S.2.2, .ref (X 8), .ref (X 9), .int (nI (S.1 10 0)), .ref (X 11), .ref (X 12), .ref (X 13), .ref (X 14), .ref (X 15), .ref (X 16), .ref (X 17), .ref (X 18), .ref (X 19), .int (nI (S.1 20 0)), .ref (X 21), .ref (X 22), .ref (X 23), .ref (X 24), .ref (X 25), .ref (X 26), .ref (X 27), .int cz, .ref (X 29)]) (fs' := [.int (nI (S.1 0 0)), .int (nI (S.1 1 0)), .ref (X 2), .ref (X 3), .ref (X 4), .ref (X 5), .ref (X 6), .long (S.2.2 + 1), .ref (X 8), .ref (X 9), .int (nI (S.1 10 0)), .ref (X 11), .ref (X 12), .ref (X 13), .ref (X 14), .ref (X 15), .ref (X 16), .ref (X 17), .ref (X 18), .ref (X 19), .int (nI (S.1 20 0)), .ref (X 21), .ref (X 22), .ref (X 23), .ref (X 24), .ref (X 25), .ref (X 26), .ref (X 27), .int cz, .ref (X 29)]) (v := .long (S.2.2 + 1)) (ty := .long) (C := RX10) (T := TX10) (N := 30) hx hb hts in_X10 tyX10 tyX10_ok nmX10 hown hK hZ m0 rfl 7 (by decide) fl_95 (fun _ h9 => h9) rfl (by decide +kernel) rfl rfl (Nat.le_of_ble_eq_true rfl) rfl dX10_points_48 (fun H locs hZ => ?_)
      refine lv_aload_n hx hb dX10_points_51 rfl (lv_at hl 0 rfl) ?_
      refine lv_iload_n hx hb dX10_points_52 rfl (lv_at hl 1 rfl) ?_
      refine z_call (va_runV (As := [.int x]) (rest := []) ⟨hx, hb, hml, hown, hts⟩ (c_X10_pointsOf l D cT _ _ (sT S (S.2.2 + 1)) X cz f27 f29 nn x j ⟨(va_up_self _ _ _), ((va_up_ne _ _ (fun q => absurd (hXI 2 0 (by decide) (by decide) q) (by decide))).trans m2), ((va_up_ne _ _ (fun q => absurd (hXI 3 0 (by decide) (by decide) q) (by decide))).trans m3), ((va_up_ne _ _ (fun q => absurd (hXI 4 0 (by decide) (by decide) q) (by decide))).trans m4), ((va_up_ne _ _ (fun q => absurd (hXI 5 0 (by decide) (by decide) q) (by decide))).trans m5), ((va_up_ne _ _ (fun q => absurd (hXI 6 0 (by decide) (by decide) q) (by decide))).trans m6), ((va_up_ne _ _ (fun q => absurd (hXI 8 0 (by decide) (by decide) q) (by decide))).trans m8), ((va_up_ne _ _ (fun q => absurd (hXI 9 0 (by decide) (by decide) q) (by decide))).trans m9), ((va_up_ne _ _ (fun q => absurd (hXI 11 0 (by decide) (by decide) q) (by decide))).trans m11), ((va_up_ne _ _ (fun q => absurd (hXI 12 0 (by decide) (by decide) q) (by decide))).trans m12), ((va_up_ne _ _ (fun q => absurd (hXI 13 0 (by decide) (by decide) q) (by decide))).trans m13), ((va_up_ne _ _ (fun q => absurd (hXI 14 0 (by decide) (by decide) q) (by decide))).trans m14), ((va_up_ne _ _ (fun q => absurd (hXI 15 0 (by decide) (by decide) q) (by decide))).trans m15), ((va_up_ne _ _ (fun q => absurd (hXI 16 0 (by decide) (by decide) q) (by decide))).trans m16), ((va_up_ne _ _ (fun q => absurd (hXI 17 0 (by decide) (by decide) q) (by decide))).trans m17), ((va_up_ne _ _ (fun q => absurd (hXI 18 0 (by decide) (by decide) q) (by decide))).trans m18), ((va_up_ne _ _ (fun q => absurd (hXI 19 0 (by decide) (by decide) q) (by decide))).trans m19), ((va_up_ne _ _ (fun q => absurd (hXI 21 0 (by decide) (by decide) q) (by decide))).trans m21), ((va_up_ne _ _ (fun q => absurd (hXI 22 0 (by decide) (by decide) q) (by decide))).trans m22), ((va_up_ne _ _ (fun q => absurd (hXI 23 0 (by decide) (by decide) q) (by decide))).trans m23), ((va_up_ne _ _ (fun q => absurd (hXI 24 0 (by decide) (by decide) q) (by decide))).trans m24), ((va_up_ne _ _ (fun q => absurd (hXI 25 0 (by decide) (by decide) q) (by decide))).trans m25), ((va_up_ne _ _ (fun q => absurd (hXI 26 0 (by decide) (by decide) q) (by decide))).trans m26), ((va_up_ne _ _ (fun q => absurd (hXI 27 0 (by decide) (by decide) q) (by decide))).trans m27), ((va_up_ne _ _ (fun q => absurd (hXI 29 0 (by decide) (by decide) q) (by decide))).trans m29)⟩ hXI hS hj hxj) (cwV 1 hts gX10_points_X10_pointsOf rfl rfl rfl (by decide +kernel) ⟨(Nat.le_of_ble_eq_true rfl), (Nat.le_of_ble_eq_true rfl)⟩) (z_preV hK hE hZ hA (ci := 10) rfl (va_up_self _ _ _)) rfl rfl hl.1 rfl (lv_room (Nat.le_of_ble_eq_true rfl)) dX10_points_53 ⟨(Nat.le_of_ble_eq_true rfl), (Nat.le_of_ble_eq_true rfl)⟩) hZ hA (fun r G53 H locs hq hZ => ?_)
      obtain ⟨hg, rfl⟩ := hq
      replace hg := hg.symm
      subst hg
      refine W.eq (g2 := F0 m 56 ls [.int (pts S j)]) rfl ?_
      exact z_iret hx hb hr hlocks hZ dX10_points_56 (by rw [sp_points, hh]; simp only []; rw [mks_0 (kH j hj).1 c21]; exact ⟨⟨_, _, _, (va_up_self _ _ _), ((va_up_ne _ _ (fun q => absurd (hXI 2 0 (by decide) (by decide) q) (by decide))).trans m2), ((va_up_ne _ _ (fun q => absurd (hXI 3 0 (by decide) (by decide) q) (by decide))).trans m3), ((va_up_ne _ _ (fun q => absurd (hXI 4 0 (by decide) (by decide) q) (by decide))).trans m4), ((va_up_ne _ _ (fun q => absurd (hXI 5 0 (by decide) (by decide) q) (by decide))).trans m5), ((va_up_ne _ _ (fun q => absurd (hXI 6 0 (by decide) (by decide) q) (by decide))).trans m6), ((va_up_ne _ _ (fun q => absurd (hXI 8 0 (by decide) (by decide) q) (by decide))).trans m8), ((va_up_ne _ _ (fun q => absurd (hXI 9 0 (by decide) (by decide) q) (by decide))).trans m9), ((va_up_ne _ _ (fun q => absurd (hXI 11 0 (by decide) (by decide) q) (by decide))).trans m11), ((va_up_ne _ _ (fun q => absurd (hXI 12 0 (by decide) (by decide) q) (by decide))).trans m12), ((va_up_ne _ _ (fun q => absurd (hXI 13 0 (by decide) (by decide) q) (by decide))).trans m13), ((va_up_ne _ _ (fun q => absurd (hXI 14 0 (by decide) (by decide) q) (by decide))).trans m14), ((va_up_ne _ _ (fun q => absurd (hXI 15 0 (by decide) (by decide) q) (by decide))).trans m15), ((va_up_ne _ _ (fun q => absurd (hXI 16 0 (by decide) (by decide) q) (by decide))).trans m16), ((va_up_ne _ _ (fun q => absurd (hXI 17 0 (by decide) (by decide) q) (by decide))).trans m17), ((va_up_ne _ _ (fun q => absurd (hXI 18 0 (by decide) (by decide) q) (by decide))).trans m18), ((va_up_ne _ _ (fun q => absurd (hXI 19 0 (by decide) (by decide) q) (by decide))).trans m19), ((va_up_ne _ _ (fun q => absurd (hXI 21 0 (by decide) (by decide) q) (by decide))).trans m21), ((va_up_ne _ _ (fun q => absurd (hXI 22 0 (by decide) (by decide) q) (by decide))).trans m22), ((va_up_ne _ _ (fun q => absurd (hXI 23 0 (by decide) (by decide) q) (by decide))).trans m23), ((va_up_ne _ _ (fun q => absurd (hXI 24 0 (by decide) (by decide) q) (by decide))).trans m24), ((va_up_ne _ _ (fun q => absurd (hXI 25 0 (by decide) (by decide) q) (by decide))).trans m25), ((va_up_ne _ _ (fun q => absurd (hXI 26 0 (by decide) (by decide) q) (by decide))).trans m26), ((va_up_ne _ _ (fun q => absurd (hXI 27 0 (by decide) (by decide) q) (by decide))).trans m27), ((va_up_ne _ _ (fun q => absurd (hXI 29 0 (by decide) (by decide) q) (by decide))).trans m29)⟩, rfl⟩)
  · have hh := hix_no (S := S) c5
    refine lv_iconst (v := (-1)) hx hb dX10_points_8 (by decide) ?_
    exact z_iret hx hb hr hlocks hZ dX10_points_9 (mQ_of (by rw [sp_points, hh]) ⟨_, _, _, hM⟩)

set_option maxHeartbeats 4000000 in
set_option maxRecDepth 100000 in
theorem c_X10_law (l : Launch) (D : va_G) (cT : Nat → ClassId) (G : zG) (sz : Nat) (S : zS) (X : Nat → Nat) (cz : Int32) (f27 f29 : Nat → Int32) (nn : Nat) (x a b c2 w le st2 ba : Int32) (hM : MD cT S X cz f27 f29 G) (hXI : XI X) (hS : ok S nn)  : zM l D cT yX10_law wsX10_law (zR 1 0 0) [.ref (X 0), .int x, .int a, .int b, .int c2, .int w, .int le, .int st2, .int ba] G sz (mQ cT X (sp_law S x a b c2 w le st2 ba)) := by
  refine z_start (cc := cX10_law) (maxL := 11) (ret := (some .int)) (by decide) rfl (Nat.le_of_ble_eq_true rfl) ?_
  intro p e s m below meth c ls hI hZ hl
  obtain ⟨hx, hb, hr, hml, hts, hown, hlocks, hname, hK, hA, hE⟩ := hI
  have hl : lv_has ls 11 [(0, .ref (X 0)), (1, .int x), (2, .int a), (3, .int b), (4, .int c2), (5, .int w), (6, .int le), (7, .int st2), (8, .int ba)] := hl
  have hown : s.vm.findClass RX10 = some m.cls := hown
  have in_X10 : ∀ w ∈ u_ws RX10 TX10 30, w ∈ wsX10_law := by decide +kernel
  have fl_25 := hts (.fieldLink RX10 25 "FairRentsModel" "laws" "[I") (by decide +kernel)
  have fl_28 := hts (.fieldLink RX10 28 "FairRentsModel" "isTold" "[Z") (by decide +kernel)
  have fl_107 := hts (.fieldLink RX10 107 "FairRentsModel" "today" "I") (by decide +kernel)
  obtain ⟨m0, m2, m3, m4, m5, m6, m8, m9, m11, m12, m13, m14, m15, m16, m17, m18, m19, m21, m22, m23, m24, m25, m26, m27, m29⟩ := id hM
  obtain ⟨⟨k1, k10, k20, k0⟩, kH, k9, k8, k15, k26, kL, kLn, kP, kE, kEm, kn⟩ := id hS
  refine lv_iload_n hx hb dX10_law_0 rfl (lv_at hl 1 rfl) ?_
  refine lv_iconst (v := 0) hx hb dX10_law_1 (by decide) ?_
  refine lv_bipush (v := 30) hx hb dX10_law_2 (by decide) ?_
  refine z_call (va_runS (As := [.int x, .int 0, .int 30]) (rest := []) ⟨hx, hb, hml, hown, hts⟩ (c_X10_in l D cT _ _ x 0 30) (va_cwS 3 hts gX10_law_X10_in rfl rfl rfl (by decide +kernel) ⟨(Nat.le_of_ble_eq_true rfl), (Nat.le_of_ble_eq_true rfl)⟩) (z_preS hK hE hZ hA) rfl rfl hl.1 rfl (lv_room (Nat.le_of_ble_eq_true rfl)) dX10_law_4 ⟨(Nat.le_of_ble_eq_true rfl), (Nat.le_of_ble_eq_true rfl)⟩) hZ hA (fun r G4 H locs hq hZ => ?_)
  obtain ⟨hg, rfl⟩ := hq
  replace hg := hg.symm
  subst hg
  refine W.eq (g2 := F0 m 7 ls [.int (if 0 ≤ x ∧ x ≤ 30 then 1 else 0)]) rfl ?_
  refine zb_eq (tgt := 90) hx hb dX10_law_7 (by decide) (fun c7 => ?_) (fun c7 => ?_)
  · refine lv_iconst (v := 0) hx hb dX10_law_90 (by decide) ?_
    refine lv_istore (lv' := [(9, .int 0), (0, .ref (X 0)), (1, .int x), (2, .int a), (3, .int b), (4, .int c2), (5, .int w), (6, .int le), (7, .int st2), (8, .int ba)]) hx hb dX10_law_91 hl (by decide) rfl (fun ls hl => ?_)
    refine lv_iload hx hb dX10_law_93 (lv_at hl 0 rfl) ?_
    refine lv_if_ne (tgt := 100) hx hb dX10_law_95 (by decide) (fun c95 => absurd c95 (fun h => h rfl)) (fun _ => ?_)
    refine lv_iconst (v := (-1)) hx hb dX10_law_98 (by decide) ?_
    exact z_iret hx hb hr hlocks hZ dX10_law_99 (mQ_of (by rw [sp_law, if_neg (fun h => c7 h.1)]) ⟨_, _, _, hM⟩)
  · refine lv_iload_n hx hb dX10_law_10 rfl (lv_at hl 2 rfl) ?_
    refine lv_iconst (v := 0) hx hb dX10_law_11 (by decide) ?_
    refine lv_bipush (v := 90) hx hb dX10_law_12 (by decide) ?_
    refine z_call (va_runS (As := [.int a, .int 0, .int 90]) (rest := []) ⟨hx, hb, hml, hown, hts⟩ (c_X10_in l D cT _ _ a 0 90) (va_cwS 3 hts gX10_law_X10_in rfl rfl rfl (by decide +kernel) ⟨(Nat.le_of_ble_eq_true rfl), (Nat.le_of_ble_eq_true rfl)⟩) (z_preS hK hE hZ hA) rfl rfl hl.1 rfl (lv_room (Nat.le_of_ble_eq_true rfl)) dX10_law_14 ⟨(Nat.le_of_ble_eq_true rfl), (Nat.le_of_ble_eq_true rfl)⟩) hZ hA (fun r G14 H locs hq hZ => ?_)
    obtain ⟨hg, rfl⟩ := hq
    replace hg := hg.symm
    subst hg
    refine W.eq (g2 := F0 m 17 ls [.int (if 0 ≤ a ∧ a ≤ 90 then 1 else 0)]) rfl ?_
    refine zb_eq (tgt := 90) hx hb dX10_law_17 (by decide) (fun c17 => ?_) (fun c17 => ?_)
    · refine lv_iconst (v := 0) hx hb dX10_law_90 (by decide) ?_
      refine lv_istore (lv' := [(9, .int 0), (0, .ref (X 0)), (1, .int x), (2, .int a), (3, .int b), (4, .int c2), (5, .int w), (6, .int le), (7, .int st2), (8, .int ba)]) hx hb dX10_law_91 hl (by decide) rfl (fun ls hl => ?_)
      refine lv_iload hx hb dX10_law_93 (lv_at hl 0 rfl) ?_
      refine lv_if_ne (tgt := 100) hx hb dX10_law_95 (by decide) (fun c95 => absurd c95 (fun h => h rfl)) (fun _ => ?_)
      refine lv_iconst (v := (-1)) hx hb dX10_law_98 (by decide) ?_
      exact z_iret hx hb hr hlocks hZ dX10_law_99 (mQ_of (by rw [sp_law, if_neg (fun h => c17 h.2.1)]) ⟨_, _, _, hM⟩)
    · refine lv_iload_n hx hb dX10_law_20 rfl (lv_at hl 3 rfl) ?_
      refine lv_iconst (v := 0) hx hb dX10_law_21 (by decide) ?_
      refine lv_bipush (v := 90) hx hb dX10_law_22 (by decide) ?_
      refine z_call (va_runS (As := [.int b, .int 0, .int 90]) (rest := []) ⟨hx, hb, hml, hown, hts⟩ (c_X10_in l D cT _ _ b 0 90) (va_cwS 3 hts gX10_law_X10_in rfl rfl rfl (by decide +kernel) ⟨(Nat.le_of_ble_eq_true rfl), (Nat.le_of_ble_eq_true rfl)⟩) (z_preS hK hE hZ hA) rfl rfl hl.1 rfl (lv_room (Nat.le_of_ble_eq_true rfl)) dX10_law_24 ⟨(Nat.le_of_ble_eq_true rfl), (Nat.le_of_ble_eq_true rfl)⟩) hZ hA (fun r G24 H locs hq hZ => ?_)
      obtain ⟨hg, rfl⟩ := hq
      replace hg := hg.symm
      subst hg
      refine W.eq (g2 := F0 m 27 ls [.int (if 0 ≤ b ∧ b ≤ 90 then 1 else 0)]) rfl ?_
      refine zb_eq (tgt := 90) hx hb dX10_law_27 (by decide) (fun c27 => ?_) (fun c27 => ?_)
      · refine lv_iconst (v := 0) hx hb dX10_law_90 (by decide) ?_
        refine lv_istore (lv' := [(9, .int 0), (0, .ref (X 0)), (1, .int x), (2, .int a), (3, .int b), (4, .int c2), (5, .int w), (6, .int le), (7, .int st2), (8, .int ba)]) hx hb dX10_law_91 hl (by decide) rfl (fun ls hl => ?_)
        refine lv_iload hx hb dX10_law_93 (lv_at hl 0 rfl) ?_
        refine lv_if_ne (tgt := 100) hx hb dX10_law_95 (by decide) (fun c95 => absurd c95 (fun h => h rfl)) (fun _ => ?_)
        refine lv_iconst (v := (-1)) hx hb dX10_law_98 (by decide) ?_
        exact z_iret hx hb hr hlocks hZ dX10_law_99 (mQ_of (by rw [sp_law, if_neg (fun h => c27 h.2.2.1)]) ⟨_, _, _, hM⟩)
      · refine lv_iload hx hb dX10_law_30 (lv_at hl 4 rfl) ?_
        refine lv_iconst (v := 0) hx hb dX10_law_32 (by decide) ?_
        refine lv_bipush (v := 90) hx hb dX10_law_33 (by decide) ?_
        refine z_call (va_runS (As := [.int c2, .int 0, .int 90]) (rest := []) ⟨hx, hb, hml, hown, hts⟩ (c_X10_in l D cT _ _ c2 0 90) (va_cwS 3 hts gX10_law_X10_in rfl rfl rfl (by decide +kernel) ⟨(Nat.le_of_ble_eq_true rfl), (Nat.le_of_ble_eq_true rfl)⟩) (z_preS hK hE hZ hA) rfl rfl hl.1 rfl (lv_room (Nat.le_of_ble_eq_true rfl)) dX10_law_35 ⟨(Nat.le_of_ble_eq_true rfl), (Nat.le_of_ble_eq_true rfl)⟩) hZ hA (fun r G35 H locs hq hZ => ?_)
        obtain ⟨hg, rfl⟩ := hq
        replace hg := hg.symm
        subst hg
        refine W.eq (g2 := F0 m 38 ls [.int (if 0 ≤ c2 ∧ c2 ≤ 90 then 1 else 0)]) rfl ?_
        refine zb_eq (tgt := 90) hx hb dX10_law_38 (by decide) (fun c38 => ?_) (fun c38 => ?_)
        · refine lv_iconst (v := 0) hx hb dX10_law_90 (by decide) ?_
          refine lv_istore (lv' := [(9, .int 0), (0, .ref (X 0)), (1, .int x), (2, .int a), (3, .int b), (4, .int c2), (5, .int w), (6, .int le), (7, .int st2), (8, .int ba)]) hx hb dX10_law_91 hl (by decide) rfl (fun ls hl => ?_)
          refine lv_iload hx hb dX10_law_93 (lv_at hl 0 rfl) ?_
          refine lv_if_ne (tgt := 100) hx hb dX10_law_95 (by decide) (fun c95 => absurd c95 (fun h => h rfl)) (fun _ => ?_)
          refine lv_iconst (v := (-1)) hx hb dX10_law_98 (by decide) ?_
          exact z_iret hx hb hr hlocks hZ dX10_law_99 (mQ_of (by rw [sp_law, if_neg (fun h => c38 h.2.2.2.1)]) ⟨_, _, _, hM⟩)
        · refine lv_iload hx hb dX10_law_41 (lv_at hl 5 rfl) ?_
          refine lv_iconst (v := 1) hx hb dX10_law_43 (by decide) ?_
          refine lv_bipush (v := 9) hx hb dX10_law_44 (by decide) ?_
          refine z_call (va_runS (As := [.int w, .int 1, .int 9]) (rest := []) ⟨hx, hb, hml, hown, hts⟩ (c_X10_in l D cT _ _ w 1 9) (va_cwS 3 hts gX10_law_X10_in rfl rfl rfl (by decide +kernel) ⟨(Nat.le_of_ble_eq_true rfl), (Nat.le_of_ble_eq_true rfl)⟩) (z_preS hK hE hZ hA) rfl rfl hl.1 rfl (lv_room (Nat.le_of_ble_eq_true rfl)) dX10_law_46 ⟨(Nat.le_of_ble_eq_true rfl), (Nat.le_of_ble_eq_true rfl)⟩) hZ hA (fun r G46 H locs hq hZ => ?_)
          obtain ⟨hg, rfl⟩ := hq
          replace hg := hg.symm
          subst hg
          refine W.eq (g2 := F0 m 49 ls [.int (if 1 ≤ w ∧ w ≤ 9 then 1 else 0)]) rfl ?_
          refine zb_eq (tgt := 90) hx hb dX10_law_49 (by decide) (fun c49 => ?_) (fun c49 => ?_)
          · refine lv_iconst (v := 0) hx hb dX10_law_90 (by decide) ?_
            refine lv_istore (lv' := [(9, .int 0), (0, .ref (X 0)), (1, .int x), (2, .int a), (3, .int b), (4, .int c2), (5, .int w), (6, .int le), (7, .int st2), (8, .int ba)]) hx hb dX10_law_91 hl (by decide) rfl (fun ls hl => ?_)
            refine lv_iload hx hb dX10_law_93 (lv_at hl 0 rfl) ?_
            refine lv_if_ne (tgt := 100) hx hb dX10_law_95 (by decide) (fun c95 => absurd c95 (fun h => h rfl)) (fun _ => ?_)
            refine lv_iconst (v := (-1)) hx hb dX10_law_98 (by decide) ?_
            exact z_iret hx hb hr hlocks hZ dX10_law_99 (mQ_of (by rw [sp_law, if_neg (fun h => c49 h.2.2.2.2.1)]) ⟨_, _, _, hM⟩)
          · refine lv_iload hx hb dX10_law_52 (lv_at hl 6 rfl) ?_
            refine lv_iconst (v := 0) hx hb dX10_law_54 (by decide) ?_
            refine lv_bipush (v := 20) hx hb dX10_law_55 (by decide) ?_
            refine z_call (va_runS (As := [.int le, .int 0, .int 20]) (rest := []) ⟨hx, hb, hml, hown, hts⟩ (c_X10_in l D cT _ _ le 0 20) (va_cwS 3 hts gX10_law_X10_in rfl rfl rfl (by decide +kernel) ⟨(Nat.le_of_ble_eq_true rfl), (Nat.le_of_ble_eq_true rfl)⟩) (z_preS hK hE hZ hA) rfl rfl hl.1 rfl (lv_room (Nat.le_of_ble_eq_true rfl)) dX10_law_57 ⟨(Nat.le_of_ble_eq_true rfl), (Nat.le_of_ble_eq_true rfl)⟩) hZ hA (fun r G57 H locs hq hZ => ?_)
            obtain ⟨hg, rfl⟩ := hq
            replace hg := hg.symm
            subst hg
            refine W.eq (g2 := F0 m 60 ls [.int (if 0 ≤ le ∧ le ≤ 20 then 1 else 0)]) rfl ?_
            refine zb_eq (tgt := 90) hx hb dX10_law_60 (by decide) (fun c60 => ?_) (fun c60 => ?_)
            · refine lv_iconst (v := 0) hx hb dX10_law_90 (by decide) ?_
              refine lv_istore (lv' := [(9, .int 0), (0, .ref (X 0)), (1, .int x), (2, .int a), (3, .int b), (4, .int c2), (5, .int w), (6, .int le), (7, .int st2), (8, .int ba)]) hx hb dX10_law_91 hl (by decide) rfl (fun ls hl => ?_)
              refine lv_iload hx hb dX10_law_93 (lv_at hl 0 rfl) ?_
              refine lv_if_ne (tgt := 100) hx hb dX10_law_95 (by decide) (fun c95 => absurd c95 (fun h => h rfl)) (fun _ => ?_)
              refine lv_iconst (v := (-1)) hx hb dX10_law_98 (by decide) ?_
              exact z_iret hx hb hr hlocks hZ dX10_law_99 (mQ_of (by rw [sp_law, if_neg (fun h => c60 h.2.2.2.2.2.1)]) ⟨_, _, _, hM⟩)
            · refine lv_iload hx hb dX10_law_63 (lv_at hl 7 rfl) ?_
              refine lv_iconst (v := 1) hx hb dX10_law_65 (by decide) ?_
              refine lv_sipush (v := 500) hx hb dX10_law_66 (by decide) ?_
              refine z_call (va_runS (As := [.int st2, .int 1, .int 500]) (rest := []) ⟨hx, hb, hml, hown, hts⟩ (c_X10_in l D cT _ _ st2 1 500) (va_cwS 3 hts gX10_law_X10_in rfl rfl rfl (by decide +kernel) ⟨(Nat.le_of_ble_eq_true rfl), (Nat.le_of_ble_eq_true rfl)⟩) (z_preS hK hE hZ hA) rfl rfl hl.1 rfl (lv_room (Nat.le_of_ble_eq_true rfl)) dX10_law_69 ⟨(Nat.le_of_ble_eq_true rfl), (Nat.le_of_ble_eq_true rfl)⟩) hZ hA (fun r G69 H locs hq hZ => ?_)
              obtain ⟨hg, rfl⟩ := hq
              replace hg := hg.symm
              subst hg
              refine W.eq (g2 := F0 m 72 ls [.int (if 1 ≤ st2 ∧ st2 ≤ 500 then 1 else 0)]) rfl ?_
              refine zb_eq (tgt := 90) hx hb dX10_law_72 (by decide) (fun c72 => ?_) (fun c72 => ?_)
              · refine lv_iconst (v := 0) hx hb dX10_law_90 (by decide) ?_
                refine lv_istore (lv' := [(9, .int 0), (0, .ref (X 0)), (1, .int x), (2, .int a), (3, .int b), (4, .int c2), (5, .int w), (6, .int le), (7, .int st2), (8, .int ba)]) hx hb dX10_law_91 hl (by decide) rfl (fun ls hl => ?_)
                refine lv_iload hx hb dX10_law_93 (lv_at hl 0 rfl) ?_
                refine lv_if_ne (tgt := 100) hx hb dX10_law_95 (by decide) (fun c95 => absurd c95 (fun h => h rfl)) (fun _ => ?_)
                refine lv_iconst (v := (-1)) hx hb dX10_law_98 (by decide) ?_
                exact z_iret hx hb hr hlocks hZ dX10_law_99 (mQ_of (by rw [sp_law, if_neg (fun h => c72 h.2.2.2.2.2.2.1)]) ⟨_, _, _, hM⟩)
              · refine lv_iload hx hb dX10_law_75 (lv_at hl 8 rfl) ?_
                refine lv_iconst (v := 0) hx hb dX10_law_77 (by decide) ?_
                refine lv_bipush (v := 60) hx hb dX10_law_78 (by decide) ?_
                refine z_call (va_runS (As := [.int ba, .int 0, .int 60]) (rest := []) ⟨hx, hb, hml, hown, hts⟩ (c_X10_in l D cT _ _ ba 0 60) (va_cwS 3 hts gX10_law_X10_in rfl rfl rfl (by decide +kernel) ⟨(Nat.le_of_ble_eq_true rfl), (Nat.le_of_ble_eq_true rfl)⟩) (z_preS hK hE hZ hA) rfl rfl hl.1 rfl (lv_room (Nat.le_of_ble_eq_true rfl)) dX10_law_80 ⟨(Nat.le_of_ble_eq_true rfl), (Nat.le_of_ble_eq_true rfl)⟩) hZ hA (fun r G80 H locs hq hZ => ?_)
                obtain ⟨hg, rfl⟩ := hq
                replace hg := hg.symm
                subst hg
                refine W.eq (g2 := F0 m 83 ls [.int (if 0 ≤ ba ∧ ba ≤ 60 then 1 else 0)]) rfl ?_
                refine zb_eq (tgt := 90) hx hb dX10_law_83 (by decide) (fun c83 => ?_) (fun c83 => ?_)
                · refine lv_iconst (v := 0) hx hb dX10_law_90 (by decide) ?_
                  refine lv_istore (lv' := [(9, .int 0), (0, .ref (X 0)), (1, .int x), (2, .int a), (3, .int b), (4, .int c2), (5, .int w), (6, .int le), (7, .int st2), (8, .int ba)]) hx hb dX10_law_91 hl (by decide) rfl (fun ls hl => ?_)
                  refine lv_iload hx hb dX10_law_93 (lv_at hl 0 rfl) ?_
                  refine lv_if_ne (tgt := 100) hx hb dX10_law_95 (by decide) (fun c95 => absurd c95 (fun h => h rfl)) (fun _ => ?_)
                  refine lv_iconst (v := (-1)) hx hb dX10_law_98 (by decide) ?_
                  exact z_iret hx hb hr hlocks hZ dX10_law_99 (mQ_of (by rw [sp_law, if_neg (fun h => c83 h.2.2.2.2.2.2.2)]) ⟨_, _, _, hM⟩)
                · refine lv_iconst (v := 1) hx hb dX10_law_86 (by decide) ?_
                  refine lv_goto (tgt := 91) hx hb dX10_law_87 (by decide) ?_
                  refine lv_istore (lv' := [(9, .int 1), (0, .ref (X 0)), (1, .int x), (2, .int a), (3, .int b), (4, .int c2), (5, .int w), (6, .int le), (7, .int st2), (8, .int ba)]) hx hb dX10_law_91 hl (by decide) rfl (fun ls hl => ?_)
                  refine lv_iload hx hb dX10_law_93 (lv_at hl 0 rfl) ?_
                  refine lv_if_ne (tgt := 100) hx hb dX10_law_95 (by decide) (fun _ => ?_) (fun c95 => absurd c95 (show ¬ (1 : Int32) = 0 by decide))
                  have hxj : x = nI x.toNatClampNeg := (z_self c7.1).symm
                  have hj30 : x.toNatClampNeg ≤ 30 := law_y c7
                  refine lv_bipush (v := 10) hx hb dX10_law_100 (by decide) ?_
                  refine lv_iload_n hx hb dX10_law_102 rfl (lv_at hl 2 rfl) ?_
                  refine lv_imul hx hb dX10_law_103 ?_
                  refine lv_aload_n hx hb dX10_law_104 rfl (lv_at hl 1 rfl) ?_
                  refine z_get (ci := 10) (fs := [.int (nI (S.1 0 0)), .int (nI (S.1 1 0)), .ref (X 2), .ref (X 3), .ref (X 4), .ref (X 5), .ref (X 6), .long S.2.2, .ref (X 8), .ref (X 9), .int (nI (S.1 10 0)), .ref (X 11), .ref (X 12), .ref (X 13), .ref (X 14), .ref (X 15), .ref (X 16), .ref (X 17), .ref (X 18), .ref (X 19), .int (nI (S.1 20 0)), .ref (X 21), .ref (X 22), .ref (X 23), .ref (X 24), .ref (X 25), .ref (X 26), .ref (X 27), .int cz, .ref (X 29)]) (C := RX10) (T := TX10) (N := 30) hx hb hts in_X10 hown hK hZ m0 rfl 0 (by decide) fl_107 (fun _ h9 => h9) rfl dX10_law_105 ?_
                  refine lv_icmp_gt (tgt := 114) hx hb dX10_law_108 (by decide) (fun c108 => ?_) (fun c108 => ?_)
                  · refine lv_bipush (v := 7) hx hb dX10_law_114 (by decide) ?_
                    refine lv_iload_n hx hb dX10_law_116 rfl (lv_at hl 2 rfl) ?_
                    refine lv_imul hx hb dX10_law_117 ?_
                    refine lv_istore (lv' := [(10, .int (7 * x)), (9, .int 1), (0, .ref (X 0)), (1, .int x), (2, .int a), (3, .int b), (4, .int c2), (5, .int w), (6, .int le), (7, .int st2), (8, .int ba)]) hx hb dX10_law_118 hl (by decide) rfl (fun ls hl => ?_)
                    refine lv_aload_n hx hb dX10_law_120 rfl (lv_at hl 2 rfl) ?_
                    refine z_get (ci := 10) (fs := [.int (nI (S.1 0 0)), .int (nI (S.1 1 0)), .ref (X 2), .ref (X 3), .ref (X 4), .ref (X 5), .ref (X 6), .long S.2.2, .ref (X 8), .ref (X 9), .int (nI (S.1 10 0)), .ref (X 11), .ref (X 12), .ref (X 13), .ref (X 14), .ref (X 15), .ref (X 16), .ref (X 17), .ref (X 18), .ref (X 19), .int (nI (S.1 20 0)), .ref (X 21), .ref (X 22), .ref (X 23), .ref (X 24), .ref (X 25), .ref (X 26), .ref (X 27), .int cz, .ref (X 29)]) (C := RX10) (T := TX10) (N := 30) hx hb hts in_X10 hown hK hZ m0 rfl 8 (by decide) fl_25 (fun _ h9 => h9) rfl dX10_law_121 ?_
                    refine lv_iload hx hb dX10_law_124 (lv_at hl 0 rfl) ?_
                    refine lv_iload_n hx hb dX10_law_126 rfl (lv_at hl 4 rfl) ?_
                    refine z_iast hx hb hK hZ m8 (7 * x.toNatClampNeg) (law_ix0 hxj) (by omega) (by decide) dX10_law_127 (fun H locs hZ => ?_)
                    refine lv_aload_n hx hb dX10_law_128 rfl (lv_at hl 2 rfl) ?_
                    refine z_get (ci := 10) (fs := [.int (nI (S.1 0 0)), .int (nI (S.1 1 0)), .ref (X 2), .ref (X 3), .ref (X 4), .ref (X 5), .ref (X 6), .long S.2.2, .ref (X 8), .ref (X 9), .int (nI (S.1 10 0)), .ref (X 11), .ref (X 12), .ref (X 13), .ref (X 14), .ref (X 15), .ref (X 16), .ref (X 17), .ref (X 18), .ref (X 19), .int (nI (S.1 20 0)), .ref (X 21), .ref (X 22), .ref (X 23), .ref (X 24), .ref (X 25), .ref (X 26), .ref (X 27), .int cz, .ref (X 29)]) (C := RX10) (T := TX10) (N := 30) hx hb hts in_X10 hown hK hZ ((va_up_ne _ _ (fun q => absurd (hXI 0 8 (by decide) (by decide) q) (by decide))).trans m0) rfl 8 (by decide) fl_25 (fun _ h9 => h9) rfl dX10_law_129 ?_
                    refine lv_iload hx hb dX10_law_132 (lv_at hl 0 rfl) ?_
                    refine lv_iconst (v := 1) hx hb dX10_law_134 (by decide) ?_
                    refine lv_iadd hx hb dX10_law_135 ?_
                    refine lv_iload_n hx hb dX10_law_136 rfl (lv_at hl 5 rfl) ?_
                    refine z_iast hx hb hK hZ (va_up_self _ _ _) (7 * x.toNatClampNeg + 1) (law_ix hxj 1) (by omega) (by decide) dX10_law_137 (fun H locs hZ => ?_)
                    rw [bx_uu] at hZ
                    refine lv_aload_n hx hb dX10_law_138 rfl (lv_at hl 2 rfl) ?_
                    refine z_get (ci := 10) (fs := [.int (nI (S.1 0 0)), .int (nI (S.1 1 0)), .ref (X 2), .ref (X 3), .ref (X 4), .ref (X 5), .ref (X 6), .long S.2.2, .ref (X 8), .ref (X 9), .int (nI (S.1 10 0)), .ref (X 11), .ref (X 12), .ref (X 13), .ref (X 14), .ref (X 15), .ref (X 16), .ref (X 17), .ref (X 18), .ref (X 19), .int (nI (S.1 20 0)), .ref (X 21), .ref (X 22), .ref (X 23), .ref (X 24), .ref (X 25), .ref (X 26), .ref (X 27), .int cz, .ref (X 29)]) (C := RX10) (T := TX10) (N := 30) hx hb hts in_X10 hown hK hZ ((va_up_ne _ _ (fun q => absurd (hXI 0 8 (by decide) (by decide) q) (by decide))).trans m0) rfl 8 (by decide) fl_25 (fun _ h9 => h9) rfl dX10_law_139 ?_
                    refine lv_iload hx hb dX10_law_142 (lv_at hl 0 rfl) ?_
                    refine lv_iconst (v := 2) hx hb dX10_law_144 (by decide) ?_
                    refine lv_iadd hx hb dX10_law_145 ?_
                    refine lv_iload hx hb dX10_law_146 (lv_at hl 6 rfl) ?_
                    refine z_iast hx hb hK hZ (va_up_self _ _ _) (7 * x.toNatClampNeg + 2) (law_ix hxj 2) (by omega) (by decide) dX10_law_148 (fun H locs hZ => ?_)
                    rw [bx_uu] at hZ
                    refine lv_aload_n hx hb dX10_law_149 rfl (lv_at hl 2 rfl) ?_
                    refine z_get (ci := 10) (fs := [.int (nI (S.1 0 0)), .int (nI (S.1 1 0)), .ref (X 2), .ref (X 3), .ref (X 4), .ref (X 5), .ref (X 6), .long S.2.2, .ref (X 8), .ref (X 9), .int (nI (S.1 10 0)), .ref (X 11), .ref (X 12), .ref (X 13), .ref (X 14), .ref (X 15), .ref (X 16), .ref (X 17), .ref (X 18), .ref (X 19), .int (nI (S.1 20 0)), .ref (X 21), .ref (X 22), .ref (X 23), .ref (X 24), .ref (X 25), .ref (X 26), .ref (X 27), .int cz, .ref (X 29)]) (C := RX10) (T := TX10) (N := 30) hx hb hts in_X10 hown hK hZ ((va_up_ne _ _ (fun q => absurd (hXI 0 8 (by decide) (by decide) q) (by decide))).trans m0) rfl 8 (by decide) fl_25 (fun _ h9 => h9) rfl dX10_law_150 ?_
                    refine lv_iload hx hb dX10_law_153 (lv_at hl 0 rfl) ?_
                    refine lv_iconst (v := 3) hx hb dX10_law_155 (by decide) ?_
                    refine lv_iadd hx hb dX10_law_156 ?_
                    refine lv_iload hx hb dX10_law_157 (lv_at hl 7 rfl) ?_
                    refine z_iast hx hb hK hZ (va_up_self _ _ _) (7 * x.toNatClampNeg + 3) (law_ix hxj 3) (by omega) (by decide) dX10_law_159 (fun H locs hZ => ?_)
                    rw [bx_uu] at hZ
                    refine lv_aload_n hx hb dX10_law_160 rfl (lv_at hl 2 rfl) ?_
                    refine z_get (ci := 10) (fs := [.int (nI (S.1 0 0)), .int (nI (S.1 1 0)), .ref (X 2), .ref (X 3), .ref (X 4), .ref (X 5), .ref (X 6), .long S.2.2, .ref (X 8), .ref (X 9), .int (nI (S.1 10 0)), .ref (X 11), .ref (X 12), .ref (X 13), .ref (X 14), .ref (X 15), .ref (X 16), .ref (X 17), .ref (X 18), .ref (X 19), .int (nI (S.1 20 0)), .ref (X 21), .ref (X 22), .ref (X 23), .ref (X 24), .ref (X 25), .ref (X 26), .ref (X 27), .int cz, .ref (X 29)]) (C := RX10) (T := TX10) (N := 30) hx hb hts in_X10 hown hK hZ ((va_up_ne _ _ (fun q => absurd (hXI 0 8 (by decide) (by decide) q) (by decide))).trans m0) rfl 8 (by decide) fl_25 (fun _ h9 => h9) rfl dX10_law_161 ?_
                    refine lv_iload hx hb dX10_law_164 (lv_at hl 0 rfl) ?_
                    refine lv_iconst (v := 4) hx hb dX10_law_166 (by decide) ?_
                    refine lv_iadd hx hb dX10_law_167 ?_
                    refine lv_iload hx hb dX10_law_168 (lv_at hl 8 rfl) ?_
                    refine z_iast hx hb hK hZ (va_up_self _ _ _) (7 * x.toNatClampNeg + 4) (law_ix hxj 4) (by omega) (by decide) dX10_law_170 (fun H locs hZ => ?_)
                    rw [bx_uu] at hZ
                    refine lv_aload_n hx hb dX10_law_171 rfl (lv_at hl 2 rfl) ?_
                    refine z_get (ci := 10) (fs := [.int (nI (S.1 0 0)), .int (nI (S.1 1 0)), .ref (X 2), .ref (X 3), .ref (X 4), .ref (X 5), .ref (X 6), .long S.2.2, .ref (X 8), .ref (X 9), .int (nI (S.1 10 0)), .ref (X 11), .ref (X 12), .ref (X 13), .ref (X 14), .ref (X 15), .ref (X 16), .ref (X 17), .ref (X 18), .ref (X 19), .int (nI (S.1 20 0)), .ref (X 21), .ref (X 22), .ref (X 23), .ref (X 24), .ref (X 25), .ref (X 26), .ref (X 27), .int cz, .ref (X 29)]) (C := RX10) (T := TX10) (N := 30) hx hb hts in_X10 hown hK hZ ((va_up_ne _ _ (fun q => absurd (hXI 0 8 (by decide) (by decide) q) (by decide))).trans m0) rfl 8 (by decide) fl_25 (fun _ h9 => h9) rfl dX10_law_172 ?_
                    refine lv_iload hx hb dX10_law_175 (lv_at hl 0 rfl) ?_
                    refine lv_iconst (v := 5) hx hb dX10_law_177 (by decide) ?_
                    refine lv_iadd hx hb dX10_law_178 ?_
                    refine lv_iload hx hb dX10_law_179 (lv_at hl 9 rfl) ?_
                    refine z_iast hx hb hK hZ (va_up_self _ _ _) (7 * x.toNatClampNeg + 5) (law_ix hxj 5) (by omega) (by decide) dX10_law_181 (fun H locs hZ => ?_)
                    rw [bx_uu] at hZ
                    refine lv_aload_n hx hb dX10_law_182 rfl (lv_at hl 2 rfl) ?_
                    refine z_get (ci := 10) (fs := [.int (nI (S.1 0 0)), .int (nI (S.1 1 0)), .ref (X 2), .ref (X 3), .ref (X 4), .ref (X 5), .ref (X 6), .long S.2.2, .ref (X 8), .ref (X 9), .int (nI (S.1 10 0)), .ref (X 11), .ref (X 12), .ref (X 13), .ref (X 14), .ref (X 15), .ref (X 16), .ref (X 17), .ref (X 18), .ref (X 19), .int (nI (S.1 20 0)), .ref (X 21), .ref (X 22), .ref (X 23), .ref (X 24), .ref (X 25), .ref (X 26), .ref (X 27), .int cz, .ref (X 29)]) (C := RX10) (T := TX10) (N := 30) hx hb hts in_X10 hown hK hZ ((va_up_ne _ _ (fun q => absurd (hXI 0 8 (by decide) (by decide) q) (by decide))).trans m0) rfl 8 (by decide) fl_25 (fun _ h9 => h9) rfl dX10_law_183 ?_
                    refine lv_iload hx hb dX10_law_186 (lv_at hl 0 rfl) ?_
                    refine lv_bipush (v := 6) hx hb dX10_law_188 (by decide) ?_
                    refine lv_iadd hx hb dX10_law_190 ?_
                    refine lv_iload hx hb dX10_law_191 (lv_at hl 10 rfl) ?_
                    refine z_iast hx hb hK hZ (va_up_self _ _ _) (7 * x.toNatClampNeg + 6) (law_ix hxj 6) (by omega) (by decide) dX10_law_193 (fun H locs hZ => ?_)
                    rw [bx_uu] at hZ
                    refine lv_aload_n hx hb dX10_law_194 rfl (lv_at hl 2 rfl) ?_
                    refine z_get (ci := 10) (fs := [.int (nI (S.1 0 0)), .int (nI (S.1 1 0)), .ref (X 2), .ref (X 3), .ref (X 4), .ref (X 5), .ref (X 6), .long S.2.2, .ref (X 8), .ref (X 9), .int (nI (S.1 10 0)), .ref (X 11), .ref (X 12), .ref (X 13), .ref (X 14), .ref (X 15), .ref (X 16), .ref (X 17), .ref (X 18), .ref (X 19), .int (nI (S.1 20 0)), .ref (X 21), .ref (X 22), .ref (X 23), .ref (X 24), .ref (X 25), .ref (X 26), .ref (X 27), .int cz, .ref (X 29)]) (C := RX10) (T := TX10) (N := 30) hx hb hts in_X10 hown hK hZ ((va_up_ne _ _ (fun q => absurd (hXI 0 8 (by decide) (by decide) q) (by decide))).trans m0) rfl 9 (by decide) fl_28 (fun _ h9 => h9) rfl dX10_law_195 ?_
                    refine lv_iload_n hx hb dX10_law_198 rfl (lv_at hl 3 rfl) ?_
                    refine lv_iconst (v := 1) hx hb dX10_law_199 (by decide) ?_
                    refine z_zast hx hb hK hZ ((va_up_ne _ _ (fun q => absurd (hXI 9 8 (by decide) (by decide) q) (by decide))).trans m9) x.toNatClampNeg hxj (by decide) (by omega) (by decide) dX10_law_200 (fun H locs hZ => ?_)
                    refine lv_iconst (v := 1) hx hb dX10_law_201 (by decide) ?_
                    exact z_iret hx hb hr hlocks hZ dX10_law_202 (by rw [sp_law, if_pos ⟨c7, c17, c27, c38, c49, c60, c72, c83⟩, if_neg (law_gt hj30 hxj (by omega) c108)]; exact ⟨⟨_, _, _, ((va_up_ne _ _ (fun q => absurd (hXI 0 9 (by decide) (by decide) q) (by decide))).trans ((va_up_ne _ _ (fun q => absurd (hXI 0 8 (by decide) (by decide) q) (by decide))).trans m0)), ((va_up_ne _ _ (fun q => absurd (hXI 2 9 (by decide) (by decide) q) (by decide))).trans ((va_up_ne _ _ (fun q => absurd (hXI 2 8 (by decide) (by decide) q) (by decide))).trans m2)), ((va_up_ne _ _ (fun q => absurd (hXI 3 9 (by decide) (by decide) q) (by decide))).trans ((va_up_ne _ _ (fun q => absurd (hXI 3 8 (by decide) (by decide) q) (by decide))).trans m3)), ((va_up_ne _ _ (fun q => absurd (hXI 4 9 (by decide) (by decide) q) (by decide))).trans ((va_up_ne _ _ (fun q => absurd (hXI 4 8 (by decide) (by decide) q) (by decide))).trans m4)), ((va_up_ne _ _ (fun q => absurd (hXI 5 9 (by decide) (by decide) q) (by decide))).trans ((va_up_ne _ _ (fun q => absurd (hXI 5 8 (by decide) (by decide) q) (by decide))).trans m5)), ((va_up_ne _ _ (fun q => absurd (hXI 6 9 (by decide) (by decide) q) (by decide))).trans ((va_up_ne _ _ (fun q => absurd (hXI 6 8 (by decide) (by decide) q) (by decide))).trans m6)), (((va_up_ne _ _ (fun q => absurd (hXI 8 9 (by decide) (by decide) q) (by decide))).trans (va_up_self _ _ _)).trans (congrArg (fun f => some (Sum.inl (cT 0, 224, Sum.inl f))) (by simp only [cG_sG]; rfl))), ((va_up_self _ _ _).trans (congrArg (fun f => some (Sum.inl (cT 1, 31, Sum.inl f))) (cN_sN S 9 _ 1))), ((va_up_ne _ _ (fun q => absurd (hXI 11 9 (by decide) (by decide) q) (by decide))).trans ((va_up_ne _ _ (fun q => absurd (hXI 11 8 (by decide) (by decide) q) (by decide))).trans m11)), ((va_up_ne _ _ (fun q => absurd (hXI 12 9 (by decide) (by decide) q) (by decide))).trans ((va_up_ne _ _ (fun q => absurd (hXI 12 8 (by decide) (by decide) q) (by decide))).trans m12)), ((va_up_ne _ _ (fun q => absurd (hXI 13 9 (by decide) (by decide) q) (by decide))).trans ((va_up_ne _ _ (fun q => absurd (hXI 13 8 (by decide) (by decide) q) (by decide))).trans m13)), ((va_up_ne _ _ (fun q => absurd (hXI 14 9 (by decide) (by decide) q) (by decide))).trans ((va_up_ne _ _ (fun q => absurd (hXI 14 8 (by decide) (by decide) q) (by decide))).trans m14)), ((va_up_ne _ _ (fun q => absurd (hXI 15 9 (by decide) (by decide) q) (by decide))).trans ((va_up_ne _ _ (fun q => absurd (hXI 15 8 (by decide) (by decide) q) (by decide))).trans m15)), ((va_up_ne _ _ (fun q => absurd (hXI 16 9 (by decide) (by decide) q) (by decide))).trans ((va_up_ne _ _ (fun q => absurd (hXI 16 8 (by decide) (by decide) q) (by decide))).trans m16)), ((va_up_ne _ _ (fun q => absurd (hXI 17 9 (by decide) (by decide) q) (by decide))).trans ((va_up_ne _ _ (fun q => absurd (hXI 17 8 (by decide) (by decide) q) (by decide))).trans m17)), ((va_up_ne _ _ (fun q => absurd (hXI 18 9 (by decide) (by decide) q) (by decide))).trans ((va_up_ne _ _ (fun q => absurd (hXI 18 8 (by decide) (by decide) q) (by decide))).trans m18)), ((va_up_ne _ _ (fun q => absurd (hXI 19 9 (by decide) (by decide) q) (by decide))).trans ((va_up_ne _ _ (fun q => absurd (hXI 19 8 (by decide) (by decide) q) (by decide))).trans m19)), ((va_up_ne _ _ (fun q => absurd (hXI 21 9 (by decide) (by decide) q) (by decide))).trans ((va_up_ne _ _ (fun q => absurd (hXI 21 8 (by decide) (by decide) q) (by decide))).trans m21)), ((va_up_ne _ _ (fun q => absurd (hXI 22 9 (by decide) (by decide) q) (by decide))).trans ((va_up_ne _ _ (fun q => absurd (hXI 22 8 (by decide) (by decide) q) (by decide))).trans m22)), ((va_up_ne _ _ (fun q => absurd (hXI 23 9 (by decide) (by decide) q) (by decide))).trans ((va_up_ne _ _ (fun q => absurd (hXI 23 8 (by decide) (by decide) q) (by decide))).trans m23)), ((va_up_ne _ _ (fun q => absurd (hXI 24 9 (by decide) (by decide) q) (by decide))).trans ((va_up_ne _ _ (fun q => absurd (hXI 24 8 (by decide) (by decide) q) (by decide))).trans m24)), ((va_up_ne _ _ (fun q => absurd (hXI 25 9 (by decide) (by decide) q) (by decide))).trans ((va_up_ne _ _ (fun q => absurd (hXI 25 8 (by decide) (by decide) q) (by decide))).trans m25)), ((va_up_ne _ _ (fun q => absurd (hXI 26 9 (by decide) (by decide) q) (by decide))).trans ((va_up_ne _ _ (fun q => absurd (hXI 26 8 (by decide) (by decide) q) (by decide))).trans m26)), ((va_up_ne _ _ (fun q => absurd (hXI 27 9 (by decide) (by decide) q) (by decide))).trans ((va_up_ne _ _ (fun q => absurd (hXI 27 8 (by decide) (by decide) q) (by decide))).trans m27)), ((va_up_ne _ _ (fun q => absurd (hXI 29 9 (by decide) (by decide) q) (by decide))).trans ((va_up_ne _ _ (fun q => absurd (hXI 29 8 (by decide) (by decide) q) (by decide))).trans m29))⟩, rfl⟩)
                  · refine lv_bipush (v := (-2)) hx hb dX10_law_111 (by decide) ?_
                    exact z_iret hx hb hr hlocks hZ dX10_law_113 (mQ_of (by rw [sp_law, if_pos ⟨c7, c17, c27, c38, c49, c60, c72, c83⟩, if_pos (law_st hj30 hxj (by omega) c108)]) ⟨_, _, _, hM⟩)

set_option maxHeartbeats 4000000 in
set_option maxRecDepth 100000 in
theorem c_X10_yearOf (l : Launch) (D : va_G) (cT : Nat → ClassId) (G : zG) (sz : Nat) (S : zS) (X : Nat → Nat) (cz : Int32) (f27 f29 : Nat → Int32) (nn : Nat) (x : Int32) (d : Nat) (hM : MD cT S X cz f27 f29 G) (hXI : XI X) (hS : ok S nn) (hd : d ≤ 400) (hxd : x = nI d) : zM l D cT yX10_yearOf wsX10_yearOf (zR 0 0 0) [.ref (X 0), .int x] G sz (fun r G' => G' = G ∧ r = some (.int (nI (yx S d)))) := by
  refine z_start (cc := cX10_yearOf) (maxL := 3) (ret := (some .int)) (by decide) rfl (Nat.le_of_ble_eq_true rfl) ?_
  intro p e s m below meth c ls hI hZ hl
  obtain ⟨hx, hb, hr, hml, hts, hown, hlocks, hname, hK, hA, hE⟩ := hI
  have hl : lv_has ls 3 [(0, .ref (X 0)), (1, .int x)] := hl
  have hown : s.vm.findClass RX10 = some m.cls := hown
  have in_X10 : ∀ w ∈ u_ws RX10 TX10 30, w ∈ wsX10_yearOf := by decide +kernel
  have fl_28 := hts (.fieldLink RX10 28 "FairRentsModel" "isTold" "[Z") (by decide +kernel)
  obtain ⟨m0, m2, m3, m4, m5, m6, m8, m9, m11, m12, m13, m14, m15, m16, m17, m18, m19, m21, m22, m23, m24, m25, m26, m27, m29⟩ := id hM
  obtain ⟨⟨k1, k10, k20, k0⟩, kH, k9, k8, k15, k26, kL, kLn, kP, kE, kEm, kn⟩ := id hS
  refine lv_iload_n hx hb dX10_yearOf_0 rfl (lv_at hl 1 rfl) ?_
  refine lv_bipush (v := 10) hx hb dX10_yearOf_1 (by decide) ?_
  refine lv_idiv hx hb dX10_yearOf_3 (by decide) ?_
  refine lv_bipush (v := 30) hx hb dX10_yearOf_4 (by decide) ?_
  refine lv_icmp_le (tgt := 14) hx hb dX10_yearOf_6 (by decide) (fun c6 => ?_) (fun c6 => ?_)
  · have hd30 : d / 10 ≤ 30 := yr_le hd hxd c6
    refine lv_iload_n hx hb dX10_yearOf_14 rfl (lv_at hl 1 rfl) ?_
    refine lv_bipush (v := 10) hx hb dX10_yearOf_15 (by decide) ?_
    refine lv_idiv hx hb dX10_yearOf_17 (by decide) ?_
    refine W.eq (congrArg (fun v => F0 m 18 ls (.int v :: [])) (yr_t hd hxd hd30)) ?_
    refine W.eq (g2 := F0 m 18 ls [.int (nI (min (d / 10) 30 + 1) - 1)]) rfl ?_
    refine lv_istore_n (lv' := [(2, .int (nI (min (d / 10) 30 + 1) - 1)), (0, .ref (X 0)), (1, .int x)]) hx hb dX10_yearOf_18 rfl hl (by decide) rfl (fun ls hl => ?_)
    have loop19 : ∀ (k : Nat) (hk : k ≤ 31) (he : yrS S k = yx S d) (H : Heap) (locs : List Loc) (ls : Array Slot), zW D (zA G sz) s.heap G H locs → lv_has ls 3 [(2, .int (nI k - 1)), (0, .ref (X 0)), (1, .int x)] → W p l e (zR 0 0 0) s m ([.ref (X 0), .int x] : List Value).toArray below meth c H locs 0 0 (MQ below (zQ D G sz (fun r G' => G' = G ∧ r = some (.int (nI (yx S d))))) ([.ref (X 0), .int x] : List Value).toArray s 0 0 (zA G sz)) (F0 m 19 ls []) := by
      intro k
      induction k with
      | zero =>
        intro hk he H locs ls hZ hl
        refine lv_iload_n hx hb dX10_yearOf_19 rfl (lv_at hl 0 rfl) ?_
        refine lv_if_lt (tgt := 38) hx hb dX10_yearOf_20 (by decide) (fun _ => ?_) (fun c20 => absurd (show nI 0 - 1 < 0 by decide) c20)
        refine lv_iload_n hx hb dX10_yearOf_38 rfl (lv_at hl 0 rfl) ?_
        refine lv_if_ge (tgt := 47) hx hb dX10_yearOf_39 (by decide) (fun c39 => absurd c39 (show ¬ 0 ≤ nI 0 - 1 by decide)) (fun _ => ?_)
        refine lv_bipush (v := 31) hx hb dX10_yearOf_42 (by decide) ?_
        refine lv_goto (tgt := 48) hx hb dX10_yearOf_44 (by decide) ?_
        exact z_iret hx hb hr hlocks hZ dX10_yearOf_48 (⟨rfl, by rw [← he]; rfl⟩)
      | succ k ih19 =>
        intro hk he H locs ls hZ hl
        rw [nI_pred] at hl
        refine lv_iload_n hx hb dX10_yearOf_19 rfl (lv_at hl 0 rfl) ?_
        refine lv_if_lt (tgt := 38) hx hb dX10_yearOf_20 (by decide) (fun c20 => absurd c20 (nI_pos (by omega))) (fun _ => ?_)
        refine lv_aload_n hx hb dX10_yearOf_23 rfl (lv_at hl 1 rfl) ?_
        refine z_get (ci := 10) (fs := [.int (nI (S.1 0 0)), .int (nI (S.1 1 0)), .ref (X 2), .ref (X 3), .ref (X 4), .ref (X 5), .ref (X 6), .long S.2.2, .ref (X 8), .ref (X 9), .int (nI (S.1 10 0)), .ref (X 11), .ref (X 12), .ref (X 13), .ref (X 14), .ref (X 15), .ref (X 16), .ref (X 17), .ref (X 18), .ref (X 19), .int (nI (S.1 20 0)), .ref (X 21), .ref (X 22), .ref (X 23), .ref (X 24), .ref (X 25), .ref (X 26), .ref (X 27), .int cz, .ref (X 29)]) (C := RX10) (T := TX10) (N := 30) hx hb hts in_X10 hown hK hZ m0 rfl 9 (by decide) fl_28 (fun _ h9 => h9) rfl dX10_yearOf_24 ?_
        refine lv_iload_n hx hb dX10_yearOf_27 rfl (lv_at hl 0 rfl) ?_
        refine z_zald hx hb hK hZ m9 k rfl (by omega) (by decide) dX10_yearOf_28 ?_
        refine lv_if_ne (tgt := 38) hx hb dX10_yearOf_29 (by decide) (fun c29 => ?_) (fun c29 => ?_)
        · refine lv_iload_n hx hb dX10_yearOf_38 rfl (lv_at hl 0 rfl) ?_
          refine lv_if_ge (tgt := 47) hx hb dX10_yearOf_39 (by decide) (fun _ => ?_) (fun c39 => absurd (nI_pos' (by omega)) c39)
          refine lv_iload_n hx hb dX10_yearOf_47 rfl (lv_at hl 0 rfl) ?_
          exact z_iret hx hb hr hlocks hZ dX10_yearOf_48 (⟨rfl, by rw [← he, yrS, if_pos (yr_yes k9 c29)]⟩)
        · refine lv_iinc (v := nI k - 1) (lv' := [(2, .int (nI k - 1)), (0, .ref (X 0)), (1, .int x)]) hx hb dX10_yearOf_32 hl (k := 0) rfl (nI_m1 k) (by decide) rfl (fun ls hl => ?_)
          refine lv_goto (tgt := 19) hx hb dX10_yearOf_35 (by decide) ?_
          exact ih19 (by omega) (by rw [← he, yrS, if_neg (yr_no c29)]) _ _ _ hZ (lv_sub hl [0, 1, 2] rfl)
    exact loop19 (min (d / 10) 30 + 1) (by omega) rfl _ _ _ hZ (lv_sub hl [0, 1, 2] rfl)
  · have hd30 : ¬ d / 10 ≤ 30 := yr_gt hd hxd c6
    refine lv_bipush (v := 30) hx hb dX10_yearOf_9 (by decide) ?_
    refine lv_goto (tgt := 18) hx hb dX10_yearOf_11 (by decide) ?_
    refine W.eq (congrArg (fun v => F0 m 18 ls (.int v :: [])) (yr_f hd30)) ?_
    refine W.eq (g2 := F0 m 18 ls [.int (nI (min (d / 10) 30 + 1) - 1)]) rfl ?_
    refine lv_istore_n (lv' := [(2, .int (nI (min (d / 10) 30 + 1) - 1)), (0, .ref (X 0)), (1, .int x)]) hx hb dX10_yearOf_18 rfl hl (by decide) rfl (fun ls hl => ?_)
    have loop19 : ∀ (k : Nat) (hk : k ≤ 31) (he : yrS S k = yx S d) (H : Heap) (locs : List Loc) (ls : Array Slot), zW D (zA G sz) s.heap G H locs → lv_has ls 3 [(2, .int (nI k - 1)), (0, .ref (X 0)), (1, .int x)] → W p l e (zR 0 0 0) s m ([.ref (X 0), .int x] : List Value).toArray below meth c H locs 0 0 (MQ below (zQ D G sz (fun r G' => G' = G ∧ r = some (.int (nI (yx S d))))) ([.ref (X 0), .int x] : List Value).toArray s 0 0 (zA G sz)) (F0 m 19 ls []) := by
      intro k
      induction k with
      | zero =>
        intro hk he H locs ls hZ hl
        refine lv_iload_n hx hb dX10_yearOf_19 rfl (lv_at hl 0 rfl) ?_
        refine lv_if_lt (tgt := 38) hx hb dX10_yearOf_20 (by decide) (fun _ => ?_) (fun c20 => absurd (show nI 0 - 1 < 0 by decide) c20)
        refine lv_iload_n hx hb dX10_yearOf_38 rfl (lv_at hl 0 rfl) ?_
        refine lv_if_ge (tgt := 47) hx hb dX10_yearOf_39 (by decide) (fun c39 => absurd c39 (show ¬ 0 ≤ nI 0 - 1 by decide)) (fun _ => ?_)
        refine lv_bipush (v := 31) hx hb dX10_yearOf_42 (by decide) ?_
        refine lv_goto (tgt := 48) hx hb dX10_yearOf_44 (by decide) ?_
        exact z_iret hx hb hr hlocks hZ dX10_yearOf_48 (⟨rfl, by rw [← he]; rfl⟩)
      | succ k ih19 =>
        intro hk he H locs ls hZ hl
        rw [nI_pred] at hl
        refine lv_iload_n hx hb dX10_yearOf_19 rfl (lv_at hl 0 rfl) ?_
        refine lv_if_lt (tgt := 38) hx hb dX10_yearOf_20 (by decide) (fun c20 => absurd c20 (nI_pos (by omega))) (fun _ => ?_)
        refine lv_aload_n hx hb dX10_yearOf_23 rfl (lv_at hl 1 rfl) ?_
        refine z_get (ci := 10) (fs := [.int (nI (S.1 0 0)), .int (nI (S.1 1 0)), .ref (X 2), .ref (X 3), .ref (X 4), .ref (X 5), .ref (X 6), .long S.2.2, .ref (X 8), .ref (X 9), .int (nI (S.1 10 0)), .ref (X 11), .ref (X 12), .ref (X 13), .ref (X 14), .ref (X 15), .ref (X 16), .ref (X 17), .ref (X 18), .ref (X 19), .int (nI (S.1 20 0)), .ref (X 21), .ref (X 22), .ref (X 23), .ref (X 24), .ref (X 25), .ref (X 26), .ref (X 27), .int cz, .ref (X 29)]) (C := RX10) (T := TX10) (N := 30) hx hb hts in_X10 hown hK hZ m0 rfl 9 (by decide) fl_28 (fun _ h9 => h9) rfl dX10_yearOf_24 ?_
        refine lv_iload_n hx hb dX10_yearOf_27 rfl (lv_at hl 0 rfl) ?_
        refine z_zald hx hb hK hZ m9 k rfl (by omega) (by decide) dX10_yearOf_28 ?_
        refine lv_if_ne (tgt := 38) hx hb dX10_yearOf_29 (by decide) (fun c29 => ?_) (fun c29 => ?_)
        · refine lv_iload_n hx hb dX10_yearOf_38 rfl (lv_at hl 0 rfl) ?_
          refine lv_if_ge (tgt := 47) hx hb dX10_yearOf_39 (by decide) (fun _ => ?_) (fun c39 => absurd (nI_pos' (by omega)) c39)
          refine lv_iload_n hx hb dX10_yearOf_47 rfl (lv_at hl 0 rfl) ?_
          exact z_iret hx hb hr hlocks hZ dX10_yearOf_48 (⟨rfl, by rw [← he, yrS, if_pos (yr_yes k9 c29)]⟩)
        · refine lv_iinc (v := nI k - 1) (lv' := [(2, .int (nI k - 1)), (0, .ref (X 0)), (1, .int x)]) hx hb dX10_yearOf_32 hl (k := 0) rfl (nI_m1 k) (by decide) rfl (fun ls hl => ?_)
          refine lv_goto (tgt := 19) hx hb dX10_yearOf_35 (by decide) ?_
          exact ih19 (by omega) (by rw [← he, yrS, if_neg (yr_no c29)]) _ _ _ hZ (lv_sub hl [0, 1, 2] rfl)
    exact loop19 (min (d / 10) 30 + 1) (by omega) rfl _ _ _ hZ (lv_sub hl [0, 1, 2] rfl)

set_option maxHeartbeats 4000000 in
set_option maxRecDepth 100000 in
theorem c_X10_lawOf (l : Launch) (D : va_G) (cT : Nat → ClassId) (G : zG) (sz : Nat) (S : zS) (X : Nat → Nat) (cz : Int32) (f27 f29 : Nat → Int32) (nn : Nat) (x y : Int32) (d k : Nat) (hM : MD cT S X cz f27 f29 G) (hXI : XI X) (hS : ok S nn) (hd : d ≤ 400) (hxd : x = nI d) (hk : k < 7) (hyk : y = nI k) : zM l D cT yX10_lawOf wsX10_lawOf (zR 1 0 0) [.ref (X 0), .int x, .int y] G sz (fun r G' => G' = G ∧ r = some (.int (lw S d k))) := by
  refine z_start (cc := cX10_lawOf) (maxL := 3) (ret := (some .int)) (by decide) rfl (Nat.le_of_ble_eq_true rfl) ?_
  intro p e s m below meth c ls hI hZ hl
  obtain ⟨hx, hb, hr, hml, hts, hown, hlocks, hname, hK, hA, hE⟩ := hI
  have hl : lv_has ls 3 [(0, .ref (X 0)), (1, .int x), (2, .int y)] := hl
  have hown : s.vm.findClass RX10 = some m.cls := hown
  have in_X10 : ∀ w ∈ u_ws RX10 TX10 30, w ∈ wsX10_lawOf := by decide +kernel
  have fl_25 := hts (.fieldLink RX10 25 "FairRentsModel" "laws" "[I") (by decide +kernel)
  obtain ⟨m0, m2, m3, m4, m5, m6, m8, m9, m11, m12, m13, m14, m15, m16, m17, m18, m19, m21, m22, m23, m24, m25, m26, m27, m29⟩ := id hM
  obtain ⟨⟨k1, k10, k20, k0⟩, kH, k9, k8, k15, k26, kL, kLn, kP, kE, kEm, kn⟩ := id hS
  refine lv_aload_n hx hb dX10_lawOf_0 rfl (lv_at hl 0 rfl) ?_
  refine z_get (ci := 10) (fs := [.int (nI (S.1 0 0)), .int (nI (S.1 1 0)), .ref (X 2), .ref (X 3), .ref (X 4), .ref (X 5), .ref (X 6), .long S.2.2, .ref (X 8), .ref (X 9), .int (nI (S.1 10 0)), .ref (X 11), .ref (X 12), .ref (X 13), .ref (X 14), .ref (X 15), .ref (X 16), .ref (X 17), .ref (X 18), .ref (X 19), .int (nI (S.1 20 0)), .ref (X 21), .ref (X 22), .ref (X 23), .ref (X 24), .ref (X 25), .ref (X 26), .ref (X 27), .int cz, .ref (X 29)]) (C := RX10) (T := TX10) (N := 30) hx hb hts in_X10 hown hK hZ m0 rfl 8 (by decide) fl_25 (fun _ h9 => h9) rfl dX10_lawOf_1 ?_
  refine lv_bipush (v := 7) hx hb dX10_lawOf_4 (by decide) ?_
  refine lv_aload_n hx hb dX10_lawOf_6 rfl (lv_at hl 0 rfl) ?_
  refine lv_iload_n hx hb dX10_lawOf_7 rfl (lv_at hl 1 rfl) ?_
  refine z_call (va_runV (As := [.int x]) (rest := [.int 7, .ref (X 8)]) ⟨hx, hb, hml, hown, hts⟩ (c_X10_yearOf l D cT _ _ S X _ _ _ nn x d hM hXI hS hd hxd) (cwV 1 hts gX10_lawOf_X10_yearOf rfl rfl rfl (by decide +kernel) ⟨(Nat.le_of_ble_eq_true rfl), (Nat.le_of_ble_eq_true rfl)⟩) (z_preV hK hE hZ hA (ci := 10) rfl m0) rfl rfl hl.1 rfl (lv_room (Nat.le_of_ble_eq_true rfl)) dX10_lawOf_8 ⟨(Nat.le_of_ble_eq_true rfl), (Nat.le_of_ble_eq_true rfl)⟩) hZ hA (fun r G8 H locs hq hZ => ?_)
  obtain ⟨hg, rfl⟩ := hq
  replace hg := hg.symm
  subst hg
  refine W.eq (g2 := F0 m 11 ls [.int (nI (yx S d)), .int 7, .ref (X 8)]) rfl ?_
  refine lv_imul hx hb dX10_lawOf_11 ?_
  refine lv_iload_n hx hb dX10_lawOf_12 rfl (lv_at hl 2 rfl) ?_
  refine lv_iadd hx hb dX10_lawOf_13 ?_
  refine z_iald hx hb hK hZ m8 (7 * yx S d + k) (lw_ix hyk) (lw_lt S d hk) (by decide) dX10_lawOf_14 ?_
  exact z_iret hx hb hr hlocks hZ dX10_lawOf_15 (⟨rfl, rfl⟩)

set_option maxHeartbeats 4000000 in
set_option maxRecDepth 100000 in
theorem c_X10_force (l : Launch) (D : va_G) (cT : Nat → ClassId) (G : zG) (sz : Nat) (S : zS) (X : Nat → Nat) (cz : Int32) (f27 f29 : Nat → Int32) (nn : Nat) (x y : Int32) (hM : MD cT S X cz f27 f29 G) (hXI : XI X) (hS : ok S nn)  : zM l D cT yX10_force wsX10_force (zR 2 0 0) [.ref (X 0), .int x, .int y] G sz (mQ cT X (sp_force S x y)) := by
  refine z_start (cc := cX10_force) (maxL := 3) (ret := (some .int)) (by decide) rfl (Nat.le_of_ble_eq_true rfl) ?_
  intro p e s m below meth c ls hI hZ hl
  obtain ⟨hx, hb, hr, hml, hts, hown, hlocks, hname, hK, hA, hE⟩ := hI
  have hl : lv_has ls 3 [(0, .ref (X 0)), (1, .int x), (2, .int y)] := hl
  have hown : s.vm.findClass RX10 = some m.cls := hown
  obtain ⟨m0, m2, m3, m4, m5, m6, m8, m9, m11, m12, m13, m14, m15, m16, m17, m18, m19, m21, m22, m23, m24, m25, m26, m27, m29⟩ := id hM
  obtain ⟨⟨k1, k10, k20, k0⟩, kH, k9, k8, k15, k26, kL, kLn, kP, kE, kEm, kn⟩ := id hS
  refine lv_iload_n hx hb dX10_force_0 rfl (lv_at hl 1 rfl) ?_
  refine lv_iconst (v := 0) hx hb dX10_force_1 (by decide) ?_
  refine lv_sipush (v := 400) hx hb dX10_force_2 (by decide) ?_
  refine z_call (va_runS (As := [.int x, .int 0, .int 400]) (rest := []) ⟨hx, hb, hml, hown, hts⟩ (c_X10_in l D cT _ _ x 0 400) (va_cwS 3 hts gX10_force_X10_in rfl rfl rfl (by decide +kernel) ⟨(Nat.le_of_ble_eq_true rfl), (Nat.le_of_ble_eq_true rfl)⟩) (z_preS hK hE hZ hA) rfl rfl hl.1 rfl (lv_room (Nat.le_of_ble_eq_true rfl)) dX10_force_5 ⟨(Nat.le_of_ble_eq_true rfl), (Nat.le_of_ble_eq_true rfl)⟩) hZ hA (fun r G5 H locs hq hZ => ?_)
  obtain ⟨hg, rfl⟩ := hq
  replace hg := hg.symm
  subst hg
  refine W.eq (g2 := F0 m 8 ls [.int (if 0 ≤ x ∧ x ≤ 400 then 1 else 0)]) rfl ?_
  refine zb_eq (tgt := 21) hx hb dX10_force_8 (by decide) (fun c8 => ?_) (fun c8 => ?_)
  · refine lv_iconst (v := (-1)) hx hb dX10_force_21 (by decide) ?_
    exact z_iret hx hb hr hlocks hZ dX10_force_22 (mQ_of (by rw [sp_force, if_neg (fun h => c8 h.1)]) ⟨_, _, _, hM⟩)
  · refine lv_iload_n hx hb dX10_force_11 rfl (lv_at hl 2 rfl) ?_
    refine lv_iconst (v := 0) hx hb dX10_force_12 (by decide) ?_
    refine lv_bipush (v := 7) hx hb dX10_force_13 (by decide) ?_
    refine z_call (va_runS (As := [.int y, .int 0, .int 7]) (rest := []) ⟨hx, hb, hml, hown, hts⟩ (c_X10_in l D cT _ _ y 0 7) (va_cwS 3 hts gX10_force_X10_in rfl rfl rfl (by decide +kernel) ⟨(Nat.le_of_ble_eq_true rfl), (Nat.le_of_ble_eq_true rfl)⟩) (z_preS hK hE hZ hA) rfl rfl hl.1 rfl (lv_room (Nat.le_of_ble_eq_true rfl)) dX10_force_15 ⟨(Nat.le_of_ble_eq_true rfl), (Nat.le_of_ble_eq_true rfl)⟩) hZ hA (fun r G15 H locs hq hZ => ?_)
    obtain ⟨hg, rfl⟩ := hq
    replace hg := hg.symm
    subst hg
    refine W.eq (g2 := F0 m 18 ls [.int (if 0 ≤ y ∧ y ≤ 7 then 1 else 0)]) rfl ?_
    refine zb_ne (tgt := 23) hx hb dX10_force_18 (by decide) (fun c18 => ?_) (fun c18 => ?_)
    · have hxd : x = nI x.toNatClampNeg := (z_self c8.1).symm
      have hyk : y = nI y.toNatClampNeg := (z_self c18.1).symm
      have hd : x.toNatClampNeg ≤ 400 := z_cl c8 (by decide)
      have hk7 : y.toNatClampNeg ≤ 7 := z_cl c18 (by decide)
      refine lv_iload_n hx hb dX10_force_23 rfl (lv_at hl 2 rfl) ?_
      refine lv_bipush (v := 7) hx hb dX10_force_24 (by decide) ?_
      refine lv_icmp_ge (tgt := 38) hx hb dX10_force_26 (by decide) (fun c26 => ?_) (fun c26 => ?_)
      · have hk : ¬ y.toNatClampNeg < 7 := fr_ge hyk hk7 c26
        refine lv_aload_n hx hb dX10_force_38 rfl (lv_at hl 0 rfl) ?_
        refine lv_iload_n hx hb dX10_force_39 rfl (lv_at hl 1 rfl) ?_
        refine z_call (va_runV (As := [.int x]) (rest := []) ⟨hx, hb, hml, hown, hts⟩ (c_X10_yearOf l D cT _ _ S X _ _ _ nn x x.toNatClampNeg hM hXI hS hd hxd) (cwV 1 hts gX10_force_X10_yearOf rfl rfl rfl (by decide +kernel) ⟨(Nat.le_of_ble_eq_true rfl), (Nat.le_of_ble_eq_true rfl)⟩) (z_preV hK hE hZ hA (ci := 10) rfl m0) rfl rfl hl.1 rfl (lv_room (Nat.le_of_ble_eq_true rfl)) dX10_force_40 ⟨(Nat.le_of_ble_eq_true rfl), (Nat.le_of_ble_eq_true rfl)⟩) hZ hA (fun r G40 H locs hq hZ => ?_)
        obtain ⟨hg, rfl⟩ := hq
        replace hg := hg.symm
        subst hg
        refine W.eq (g2 := F0 m 43 ls [.int (nI (yx S x.toNatClampNeg))]) rfl ?_
        refine lv_bipush (v := 31) hx hb dX10_force_43 (by decide) ?_
        refine lv_icmp_ne (tgt := 53) hx hb dX10_force_45 (by decide) (fun c45 => ?_) (fun c45 => ?_)
        · have h31 : ¬ yx S x.toNatClampNeg = 31 := fun h => c45 (by rw [h]; rfl)
          refine lv_aload_n hx hb dX10_force_53 rfl (lv_at hl 0 rfl) ?_
          refine lv_iload_n hx hb dX10_force_54 rfl (lv_at hl 1 rfl) ?_
          refine z_call (va_runV (As := [.int x]) (rest := []) ⟨hx, hb, hml, hown, hts⟩ (c_X10_yearOf l D cT _ _ S X _ _ _ nn x x.toNatClampNeg hM hXI hS hd hxd) (cwV 1 hts gX10_force_X10_yearOf rfl rfl rfl (by decide +kernel) ⟨(Nat.le_of_ble_eq_true rfl), (Nat.le_of_ble_eq_true rfl)⟩) (z_preV hK hE hZ hA (ci := 10) rfl m0) rfl rfl hl.1 rfl (lv_room (Nat.le_of_ble_eq_true rfl)) dX10_force_55 ⟨(Nat.le_of_ble_eq_true rfl), (Nat.le_of_ble_eq_true rfl)⟩) hZ hA (fun r G55 H locs hq hZ => ?_)
          obtain ⟨hg, rfl⟩ := hq
          replace hg := hg.symm
          subst hg
          refine W.eq (g2 := F0 m 58 ls [.int (nI (yx S x.toNatClampNeg))]) rfl ?_
          exact z_iret hx hb hr hlocks hZ dX10_force_58 (mQ_of (by rw [sp_force, if_pos ⟨c8, c18⟩, if_neg hk, if_neg h31]) ⟨_, _, _, hM⟩)
        · have h31 : yx S x.toNatClampNeg = 31 := nI_inj (yx_lt S _) (by decide) c45
          refine lv_bipush (v := (-9)) hx hb dX10_force_48 (by decide) ?_
          refine lv_goto (tgt := 58) hx hb dX10_force_50 (by decide) ?_
          exact z_iret hx hb hr hlocks hZ dX10_force_58 (mQ_of (by rw [sp_force, if_pos ⟨c8, c18⟩, if_neg hk, if_pos h31]) ⟨_, _, _, hM⟩)
      · have hk : y.toNatClampNeg < 7 := fr_lt hyk hk7 c26
        refine lv_aload_n hx hb dX10_force_29 rfl (lv_at hl 0 rfl) ?_
        refine lv_iload_n hx hb dX10_force_30 rfl (lv_at hl 1 rfl) ?_
        refine lv_iload_n hx hb dX10_force_31 rfl (lv_at hl 2 rfl) ?_
        refine z_call (va_runV (As := [.int x, .int y]) (rest := []) ⟨hx, hb, hml, hown, hts⟩ (c_X10_lawOf l D cT _ _ S X _ _ _ nn x y x.toNatClampNeg y.toNatClampNeg hM hXI hS hd hxd hk hyk) (cwV 2 hts gX10_force_X10_lawOf rfl rfl rfl (by decide +kernel) ⟨(Nat.le_of_ble_eq_true rfl), (Nat.le_of_ble_eq_true rfl)⟩) (z_preV hK hE hZ hA (ci := 10) rfl m0) rfl rfl hl.1 rfl (lv_room (Nat.le_of_ble_eq_true rfl)) dX10_force_32 ⟨(Nat.le_of_ble_eq_true rfl), (Nat.le_of_ble_eq_true rfl)⟩) hZ hA (fun r G32 H locs hq hZ => ?_)
        obtain ⟨hg, rfl⟩ := hq
        replace hg := hg.symm
        subst hg
        refine W.eq (g2 := F0 m 35 ls [.int (lw S x.toNatClampNeg y.toNatClampNeg)]) rfl ?_
        refine lv_goto (tgt := 58) hx hb dX10_force_35 (by decide) ?_
        exact z_iret hx hb hr hlocks hZ dX10_force_58 (mQ_of (by rw [sp_force, if_pos ⟨c8, c18⟩, if_pos hk]) ⟨_, _, _, hM⟩)
    · refine lv_iconst (v := (-1)) hx hb dX10_force_21 (by decide) ?_
      exact z_iret hx hb hr hlocks hZ dX10_force_22 (mQ_of (by rw [sp_force, if_neg (fun h => c18 h.2)]) ⟨_, _, _, hM⟩)

set_option maxHeartbeats 4000000 in
set_option maxRecDepth 100000 in
theorem c_X10_like (l : Launch) (D : va_G) (cT : Nat → ClassId) (G : zG) (sz : Nat) (S : zS) (X : Nat → Nat) (cz : Int32) (f27 f29 : Nat → Int32) (nn : Nat) (x a b : Int32) (hM : MD cT S X cz f27 f29 G) (hXI : XI X) (hS : ok S nn)  : zM l D cT yX10_like wsX10_like (zR 1 0 0) [.ref (X 0), .int x, .int a, .int b] G sz (mQ cT X (sp_like S x a b)) := by
  refine z_start (cc := cX10_like) (maxL := 4) (ret := (some .int)) (by decide) rfl (Nat.le_of_ble_eq_true rfl) ?_
  intro p e s m below meth c ls hI hZ hl
  obtain ⟨hx, hb, hr, hml, hts, hown, hlocks, hname, hK, hA, hE⟩ := hI
  have hl : lv_has ls 4 [(0, .ref (X 0)), (1, .int x), (2, .int a), (3, .int b)] := hl
  have hown : s.vm.findClass RX10 = some m.cls := hown
  have in_X10 : ∀ w ∈ u_ws RX10 TX10 30, w ∈ wsX10_like := by decide +kernel
  have fl_32 := hts (.fieldLink RX10 32 "FairRentsModel" "likeArea" "[I") (by decide +kernel)
  have fl_35 := hts (.fieldLink RX10 35 "FairRentsModel" "likePoints" "[I") (by decide +kernel)
  have fl_38 := hts (.fieldLink RX10 38 "FairRentsModel" "likeRent" "[I") (by decide +kernel)
  have fl_41 := hts (.fieldLink RX10 41 "FairRentsModel" "likeDay" "[I") (by decide +kernel)
  have fl_44 := hts (.fieldLink RX10 44 "FairRentsModel" "isStruck" "[Z") (by decide +kernel)
  have fl_107 := hts (.fieldLink RX10 107 "FairRentsModel" "today" "I") (by decide +kernel)
  have fl_117 := hts (.fieldLink RX10 117 "FairRentsModel" "likes" "I") (by decide +kernel)
  obtain ⟨m0, m2, m3, m4, m5, m6, m8, m9, m11, m12, m13, m14, m15, m16, m17, m18, m19, m21, m22, m23, m24, m25, m26, m27, m29⟩ := id hM
  obtain ⟨⟨k1, k10, k20, k0⟩, kH, k9, k8, k15, k26, kL, kLn, kP, kE, kEm, kn⟩ := id hS
  refine lv_iload_n hx hb dX10_like_0 rfl (lv_at hl 1 rfl) ?_
  refine lv_iconst (v := 0) hx hb dX10_like_1 (by decide) ?_
  refine lv_iconst (v := 2) hx hb dX10_like_2 (by decide) ?_
  refine z_call (va_runS (As := [.int x, .int 0, .int 2]) (rest := []) ⟨hx, hb, hml, hown, hts⟩ (c_X10_in l D cT _ _ x 0 2) (va_cwS 3 hts gX10_like_X10_in rfl rfl rfl (by decide +kernel) ⟨(Nat.le_of_ble_eq_true rfl), (Nat.le_of_ble_eq_true rfl)⟩) (z_preS hK hE hZ hA) rfl rfl hl.1 rfl (lv_room (Nat.le_of_ble_eq_true rfl)) dX10_like_3 ⟨(Nat.le_of_ble_eq_true rfl), (Nat.le_of_ble_eq_true rfl)⟩) hZ hA (fun r G3 H locs hq hZ => ?_)
  obtain ⟨hg, rfl⟩ := hq
  replace hg := hg.symm
  subst hg
  refine W.eq (g2 := F0 m 6 ls [.int (if 0 ≤ x ∧ x ≤ 2 then 1 else 0)]) rfl ?_
  refine zb_eq (tgt := 31) hx hb dX10_like_6 (by decide) (fun c6 => ?_) (fun c6 => ?_)
  · refine lv_iconst (v := (-1)) hx hb dX10_like_31 (by decide) ?_
    exact z_iret hx hb hr hlocks hZ dX10_like_32 (mQ_of (by rw [sp_like, if_neg (fun h => c6 h.1)]) ⟨_, _, _, hM⟩)
  · refine lv_iload_n hx hb dX10_like_9 rfl (lv_at hl 2 rfl) ?_
    refine lv_iconst (v := 0) hx hb dX10_like_10 (by decide) ?_
    refine lv_sipush (v := 200) hx hb dX10_like_11 (by decide) ?_
    refine z_call (va_runS (As := [.int a, .int 0, .int 200]) (rest := []) ⟨hx, hb, hml, hown, hts⟩ (c_X10_in l D cT _ _ a 0 200) (va_cwS 3 hts gX10_like_X10_in rfl rfl rfl (by decide +kernel) ⟨(Nat.le_of_ble_eq_true rfl), (Nat.le_of_ble_eq_true rfl)⟩) (z_preS hK hE hZ hA) rfl rfl hl.1 rfl (lv_room (Nat.le_of_ble_eq_true rfl)) dX10_like_14 ⟨(Nat.le_of_ble_eq_true rfl), (Nat.le_of_ble_eq_true rfl)⟩) hZ hA (fun r G14 H locs hq hZ => ?_)
    obtain ⟨hg, rfl⟩ := hq
    replace hg := hg.symm
    subst hg
    refine W.eq (g2 := F0 m 17 ls [.int (if 0 ≤ a ∧ a ≤ 200 then 1 else 0)]) rfl ?_
    refine zb_eq (tgt := 31) hx hb dX10_like_17 (by decide) (fun c17 => ?_) (fun c17 => ?_)
    · refine lv_iconst (v := (-1)) hx hb dX10_like_31 (by decide) ?_
      exact z_iret hx hb hr hlocks hZ dX10_like_32 (mQ_of (by rw [sp_like, if_neg (fun h => c17 h.2.1)]) ⟨_, _, _, hM⟩)
    · refine lv_iload_n hx hb dX10_like_20 rfl (lv_at hl 3 rfl) ?_
      refine lv_iconst (v := 1) hx hb dX10_like_21 (by decide) ?_
      refine lv_sipush (v := 5000) hx hb dX10_like_22 (by decide) ?_
      refine z_call (va_runS (As := [.int b, .int 1, .int 5000]) (rest := []) ⟨hx, hb, hml, hown, hts⟩ (c_X10_in l D cT _ _ b 1 5000) (va_cwS 3 hts gX10_like_X10_in rfl rfl rfl (by decide +kernel) ⟨(Nat.le_of_ble_eq_true rfl), (Nat.le_of_ble_eq_true rfl)⟩) (z_preS hK hE hZ hA) rfl rfl hl.1 rfl (lv_room (Nat.le_of_ble_eq_true rfl)) dX10_like_25 ⟨(Nat.le_of_ble_eq_true rfl), (Nat.le_of_ble_eq_true rfl)⟩) hZ hA (fun r G25 H locs hq hZ => ?_)
      obtain ⟨hg, rfl⟩ := hq
      replace hg := hg.symm
      subst hg
      refine W.eq (g2 := F0 m 28 ls [.int (if 1 ≤ b ∧ b ≤ 5000 then 1 else 0)]) rfl ?_
      refine zb_ne (tgt := 33) hx hb dX10_like_28 (by decide) (fun c28 => ?_) (fun c28 => ?_)
      · refine lv_aload_n hx hb dX10_like_33 rfl (lv_at hl 0 rfl) ?_
        refine z_get (ci := 10) (fs := [.int (nI (S.1 0 0)), .int (nI (S.1 1 0)), .ref (X 2), .ref (X 3), .ref (X 4), .ref (X 5), .ref (X 6), .long S.2.2, .ref (X 8), .ref (X 9), .int (nI (S.1 10 0)), .ref (X 11), .ref (X 12), .ref (X 13), .ref (X 14), .ref (X 15), .ref (X 16), .ref (X 17), .ref (X 18), .ref (X 19), .int (nI (S.1 20 0)), .ref (X 21), .ref (X 22), .ref (X 23), .ref (X 24), .ref (X 25), .ref (X 26), .ref (X 27), .int cz, .ref (X 29)]) (C := RX10) (T := TX10) (N := 30) hx hb hts in_X10 hown hK hZ m0 rfl 10 (by decide) fl_117 (fun _ h9 => h9) rfl dX10_like_34 ?_
        refine lv_bipush (v := 12) hx hb dX10_like_37 (by decide) ?_
        refine lv_icmp_ne (tgt := 45) hx hb dX10_like_39 (by decide) (fun c39 => ?_) (fun c39 => ?_)
        · have c8 : ¬ S.1 10 0 = 12 := fun h => c39 (by rw [h]; rfl)
          refine lv_aload_n hx hb dX10_like_45 rfl (lv_at hl 0 rfl) ?_
          refine z_get (ci := 10) (fs := [.int (nI (S.1 0 0)), .int (nI (S.1 1 0)), .ref (X 2), .ref (X 3), .ref (X 4), .ref (X 5), .ref (X 6), .long S.2.2, .ref (X 8), .ref (X 9), .int (nI (S.1 10 0)), .ref (X 11), .ref (X 12), .ref (X 13), .ref (X 14), .ref (X 15), .ref (X 16), .ref (X 17), .ref (X 18), .ref (X 19), .int (nI (S.1 20 0)), .ref (X 21), .ref (X 22), .ref (X 23), .ref (X 24), .ref (X 25), .ref (X 26), .ref (X 27), .int cz, .ref (X 29)]) (C := RX10) (T := TX10) (N := 30) hx hb hts in_X10 hown hK hZ m0 rfl 11 (by decide) fl_32 (fun _ h9 => h9) rfl dX10_like_46 ?_
          refine lv_aload_n hx hb dX10_like_49 rfl (lv_at hl 0 rfl) ?_
          refine z_get (ci := 10) (fs := [.int (nI (S.1 0 0)), .int (nI (S.1 1 0)), .ref (X 2), .ref (X 3), .ref (X 4), .ref (X 5), .ref (X 6), .long S.2.2, .ref (X 8), .ref (X 9), .int (nI (S.1 10 0)), .ref (X 11), .ref (X 12), .ref (X 13), .ref (X 14), .ref (X 15), .ref (X 16), .ref (X 17), .ref (X 18), .ref (X 19), .int (nI (S.1 20 0)), .ref (X 21), .ref (X 22), .ref (X 23), .ref (X 24), .ref (X 25), .ref (X 26), .ref (X 27), .int cz, .ref (X 29)]) (C := RX10) (T := TX10) (N := 30) hx hb hts in_X10 hown hK hZ m0 rfl 10 (by decide) fl_117 (fun _ h9 => h9) rfl dX10_like_50 ?_
          refine lv_iload_n hx hb dX10_like_53 rfl (lv_at hl 1 rfl) ?_
          refine z_iast hx hb hK hZ m11 (S.1 10 0) rfl (by omega) (by decide) dX10_like_54 (fun H locs hZ => ?_)
          refine lv_aload_n hx hb dX10_like_55 rfl (lv_at hl 0 rfl) ?_
          refine z_get (ci := 10) (fs := [.int (nI (S.1 0 0)), .int (nI (S.1 1 0)), .ref (X 2), .ref (X 3), .ref (X 4), .ref (X 5), .ref (X 6), .long S.2.2, .ref (X 8), .ref (X 9), .int (nI (S.1 10 0)), .ref (X 11), .ref (X 12), .ref (X 13), .ref (X 14), .ref (X 15), .ref (X 16), .ref (X 17), .ref (X 18), .ref (X 19), .int (nI (S.1 20 0)), .ref (X 21), .ref (X 22), .ref (X 23), .ref (X 24), .ref (X 25), .ref (X 26), .ref (X 27), .int cz, .ref (X 29)]) (C := RX10) (T := TX10) (N := 30) hx hb hts in_X10 hown hK hZ ((va_up_ne _ _ (fun q => absurd (hXI 0 11 (by decide) (by decide) q) (by decide))).trans m0) rfl 12 (by decide) fl_35 (fun _ h9 => h9) rfl dX10_like_56 ?_
          refine lv_aload_n hx hb dX10_like_59 rfl (lv_at hl 0 rfl) ?_
          refine z_get (ci := 10) (fs := [.int (nI (S.1 0 0)), .int (nI (S.1 1 0)), .ref (X 2), .ref (X 3), .ref (X 4), .ref (X 5), .ref (X 6), .long S.2.2, .ref (X 8), .ref (X 9), .int (nI (S.1 10 0)), .ref (X 11), .ref (X 12), .ref (X 13), .ref (X 14), .ref (X 15), .ref (X 16), .ref (X 17), .ref (X 18), .ref (X 19), .int (nI (S.1 20 0)), .ref (X 21), .ref (X 22), .ref (X 23), .ref (X 24), .ref (X 25), .ref (X 26), .ref (X 27), .int cz, .ref (X 29)]) (C := RX10) (T := TX10) (N := 30) hx hb hts in_X10 hown hK hZ ((va_up_ne _ _ (fun q => absurd (hXI 0 11 (by decide) (by decide) q) (by decide))).trans m0) rfl 10 (by decide) fl_117 (fun _ h9 => h9) rfl dX10_like_60 ?_
          refine lv_iload_n hx hb dX10_like_63 rfl (lv_at hl 2 rfl) ?_
          refine z_iast hx hb hK hZ ((va_up_ne _ _ (fun q => absurd (hXI 12 11 (by decide) (by decide) q) (by decide))).trans m12) (S.1 10 0) rfl (by omega) (by decide) dX10_like_64 (fun H locs hZ => ?_)
          refine lv_aload_n hx hb dX10_like_65 rfl (lv_at hl 0 rfl) ?_
          refine z_get (ci := 10) (fs := [.int (nI (S.1 0 0)), .int (nI (S.1 1 0)), .ref (X 2), .ref (X 3), .ref (X 4), .ref (X 5), .ref (X 6), .long S.2.2, .ref (X 8), .ref (X 9), .int (nI (S.1 10 0)), .ref (X 11), .ref (X 12), .ref (X 13), .ref (X 14), .ref (X 15), .ref (X 16), .ref (X 17), .ref (X 18), .ref (X 19), .int (nI (S.1 20 0)), .ref (X 21), .ref (X 22), .ref (X 23), .ref (X 24), .ref (X 25), .ref (X 26), .ref (X 27), .int cz, .ref (X 29)]) (C := RX10) (T := TX10) (N := 30) hx hb hts in_X10 hown hK hZ ((va_up_ne _ _ (fun q => absurd (hXI 0 12 (by decide) (by decide) q) (by decide))).trans ((va_up_ne _ _ (fun q => absurd (hXI 0 11 (by decide) (by decide) q) (by decide))).trans m0)) rfl 13 (by decide) fl_38 (fun _ h9 => h9) rfl dX10_like_66 ?_
          refine lv_aload_n hx hb dX10_like_69 rfl (lv_at hl 0 rfl) ?_
          refine z_get (ci := 10) (fs := [.int (nI (S.1 0 0)), .int (nI (S.1 1 0)), .ref (X 2), .ref (X 3), .ref (X 4), .ref (X 5), .ref (X 6), .long S.2.2, .ref (X 8), .ref (X 9), .int (nI (S.1 10 0)), .ref (X 11), .ref (X 12), .ref (X 13), .ref (X 14), .ref (X 15), .ref (X 16), .ref (X 17), .ref (X 18), .ref (X 19), .int (nI (S.1 20 0)), .ref (X 21), .ref (X 22), .ref (X 23), .ref (X 24), .ref (X 25), .ref (X 26), .ref (X 27), .int cz, .ref (X 29)]) (C := RX10) (T := TX10) (N := 30) hx hb hts in_X10 hown hK hZ ((va_up_ne _ _ (fun q => absurd (hXI 0 12 (by decide) (by decide) q) (by decide))).trans ((va_up_ne _ _ (fun q => absurd (hXI 0 11 (by decide) (by decide) q) (by decide))).trans m0)) rfl 10 (by decide) fl_117 (fun _ h9 => h9) rfl dX10_like_70 ?_
          refine lv_iload_n hx hb dX10_like_73 rfl (lv_at hl 3 rfl) ?_
          refine z_iast hx hb hK hZ ((va_up_ne _ _ (fun q => absurd (hXI 13 12 (by decide) (by decide) q) (by decide))).trans ((va_up_ne _ _ (fun q => absurd (hXI 13 11 (by decide) (by decide) q) (by decide))).trans m13)) (S.1 10 0) rfl (by omega) (by decide) dX10_like_74 (fun H locs hZ => ?_)
          refine lv_aload_n hx hb dX10_like_75 rfl (lv_at hl 0 rfl) ?_
          refine z_get (ci := 10) (fs := [.int (nI (S.1 0 0)), .int (nI (S.1 1 0)), .ref (X 2), .ref (X 3), .ref (X 4), .ref (X 5), .ref (X 6), .long S.2.2, .ref (X 8), .ref (X 9), .int (nI (S.1 10 0)), .ref (X 11), .ref (X 12), .ref (X 13), .ref (X 14), .ref (X 15), .ref (X 16), .ref (X 17), .ref (X 18), .ref (X 19), .int (nI (S.1 20 0)), .ref (X 21), .ref (X 22), .ref (X 23), .ref (X 24), .ref (X 25), .ref (X 26), .ref (X 27), .int cz, .ref (X 29)]) (C := RX10) (T := TX10) (N := 30) hx hb hts in_X10 hown hK hZ ((va_up_ne _ _ (fun q => absurd (hXI 0 13 (by decide) (by decide) q) (by decide))).trans ((va_up_ne _ _ (fun q => absurd (hXI 0 12 (by decide) (by decide) q) (by decide))).trans ((va_up_ne _ _ (fun q => absurd (hXI 0 11 (by decide) (by decide) q) (by decide))).trans m0))) rfl 14 (by decide) fl_41 (fun _ h9 => h9) rfl dX10_like_76 ?_
          refine lv_aload_n hx hb dX10_like_79 rfl (lv_at hl 0 rfl) ?_
          refine z_get (ci := 10) (fs := [.int (nI (S.1 0 0)), .int (nI (S.1 1 0)), .ref (X 2), .ref (X 3), .ref (X 4), .ref (X 5), .ref (X 6), .long S.2.2, .ref (X 8), .ref (X 9), .int (nI (S.1 10 0)), .ref (X 11), .ref (X 12), .ref (X 13), .ref (X 14), .ref (X 15), .ref (X 16), .ref (X 17), .ref (X 18), .ref (X 19), .int (nI (S.1 20 0)), .ref (X 21), .ref (X 22), .ref (X 23), .ref (X 24), .ref (X 25), .ref (X 26), .ref (X 27), .int cz, .ref (X 29)]) (C := RX10) (T := TX10) (N := 30) hx hb hts in_X10 hown hK hZ ((va_up_ne _ _ (fun q => absurd (hXI 0 13 (by decide) (by decide) q) (by decide))).trans ((va_up_ne _ _ (fun q => absurd (hXI 0 12 (by decide) (by decide) q) (by decide))).trans ((va_up_ne _ _ (fun q => absurd (hXI 0 11 (by decide) (by decide) q) (by decide))).trans m0))) rfl 10 (by decide) fl_117 (fun _ h9 => h9) rfl dX10_like_80 ?_
          refine lv_aload_n hx hb dX10_like_83 rfl (lv_at hl 0 rfl) ?_
          refine z_get (ci := 10) (fs := [.int (nI (S.1 0 0)), .int (nI (S.1 1 0)), .ref (X 2), .ref (X 3), .ref (X 4), .ref (X 5), .ref (X 6), .long S.2.2, .ref (X 8), .ref (X 9), .int (nI (S.1 10 0)), .ref (X 11), .ref (X 12), .ref (X 13), .ref (X 14), .ref (X 15), .ref (X 16), .ref (X 17), .ref (X 18), .ref (X 19), .int (nI (S.1 20 0)), .ref (X 21), .ref (X 22), .ref (X 23), .ref (X 24), .ref (X 25), .ref (X 26), .ref (X 27), .int cz, .ref (X 29)]) (C := RX10) (T := TX10) (N := 30) hx hb hts in_X10 hown hK hZ ((va_up_ne _ _ (fun q => absurd (hXI 0 13 (by decide) (by decide) q) (by decide))).trans ((va_up_ne _ _ (fun q => absurd (hXI 0 12 (by decide) (by decide) q) (by decide))).trans ((va_up_ne _ _ (fun q => absurd (hXI 0 11 (by decide) (by decide) q) (by decide))).trans m0))) rfl 0 (by decide) fl_107 (fun _ h9 => h9) rfl dX10_like_84 ?_
          refine z_iast hx hb hK hZ ((va_up_ne _ _ (fun q => absurd (hXI 14 13 (by decide) (by decide) q) (by decide))).trans ((va_up_ne _ _ (fun q => absurd (hXI 14 12 (by decide) (by decide) q) (by decide))).trans ((va_up_ne _ _ (fun q => absurd (hXI 14 11 (by decide) (by decide) q) (by decide))).trans m14))) (S.1 10 0) rfl (by omega) (by decide) dX10_like_87 (fun H locs hZ => ?_)
          refine lv_aload_n hx hb dX10_like_88 rfl (lv_at hl 0 rfl) ?_
          refine z_get (ci := 10) (fs := [.int (nI (S.1 0 0)), .int (nI (S.1 1 0)), .ref (X 2), .ref (X 3), .ref (X 4), .ref (X 5), .ref (X 6), .long S.2.2, .ref (X 8), .ref (X 9), .int (nI (S.1 10 0)), .ref (X 11), .ref (X 12), .ref (X 13), .ref (X 14), .ref (X 15), .ref (X 16), .ref (X 17), .ref (X 18), .ref (X 19), .int (nI (S.1 20 0)), .ref (X 21), .ref (X 22), .ref (X 23), .ref (X 24), .ref (X 25), .ref (X 26), .ref (X 27), .int cz, .ref (X 29)]) (C := RX10) (T := TX10) (N := 30) hx hb hts in_X10 hown hK hZ ((va_up_ne _ _ (fun q => absurd (hXI 0 14 (by decide) (by decide) q) (by decide))).trans ((va_up_ne _ _ (fun q => absurd (hXI 0 13 (by decide) (by decide) q) (by decide))).trans ((va_up_ne _ _ (fun q => absurd (hXI 0 12 (by decide) (by decide) q) (by decide))).trans ((va_up_ne _ _ (fun q => absurd (hXI 0 11 (by decide) (by decide) q) (by decide))).trans m0)))) rfl 15 (by decide) fl_44 (fun _ h9 => h9) rfl dX10_like_89 ?_
          refine lv_aload_n hx hb dX10_like_92 rfl (lv_at hl 0 rfl) ?_
          refine z_get (ci := 10) (fs := [.int (nI (S.1 0 0)), .int (nI (S.1 1 0)), .ref (X 2), .ref (X 3), .ref (X 4), .ref (X 5), .ref (X 6), .long S.2.2, .ref (X 8), .ref (X 9), .int (nI (S.1 10 0)), .ref (X 11), .ref (X 12), .ref (X 13), .ref (X 14), .ref (X 15), .ref (X 16), .ref (X 17), .ref (X 18), .ref (X 19), .int (nI (S.1 20 0)), .ref (X 21), .ref (X 22), .ref (X 23), .ref (X 24), .ref (X 25), .ref (X 26), .ref (X 27), .int cz, .ref (X 29)]) (C := RX10) (T := TX10) (N := 30) hx hb hts in_X10 hown hK hZ ((va_up_ne _ _ (fun q => absurd (hXI 0 14 (by decide) (by decide) q) (by decide))).trans ((va_up_ne _ _ (fun q => absurd (hXI 0 13 (by decide) (by decide) q) (by decide))).trans ((va_up_ne _ _ (fun q => absurd (hXI 0 12 (by decide) (by decide) q) (by decide))).trans ((va_up_ne _ _ (fun q => absurd (hXI 0 11 (by decide) (by decide) q) (by decide))).trans m0)))) rfl 10 (by decide) fl_117 (fun _ h9 => h9) rfl dX10_like_93 ?_
          refine lv_iconst (v := 0) hx hb dX10_like_96 (by decide) ?_
          refine z_zast hx hb hK hZ ((va_up_ne _ _ (fun q => absurd (hXI 15 14 (by decide) (by decide) q) (by decide))).trans ((va_up_ne _ _ (fun q => absurd (hXI 15 13 (by decide) (by decide) q) (by decide))).trans ((va_up_ne _ _ (fun q => absurd (hXI 15 12 (by decide) (by decide) q) (by decide))).trans ((va_up_ne _ _ (fun q => absurd (hXI 15 11 (by decide) (by decide) q) (by decide))).trans m15)))) (S.1 10 0) rfl (by decide) (by omega) (by decide) dX10_like_97 (fun H locs hZ => ?_)
          refine lv_aload_n hx hb dX10_like_98 rfl (lv_at hl 0 rfl) ?_
          refine lv_dup hx hb dX10_like_99 rfl ?_
          refine z_get (ci := 10) (fs := [.int (nI (S.1 0 0)), .int (nI (S.1 1 0)), .ref (X 2), .ref (X 3), .ref (X 4), .ref (X 5), .ref (X 6), .long S.2.2, .ref (X 8), .ref (X 9), .int (nI (S.1 10 0)), .ref (X 11), .ref (X 12), .ref (X 13), .ref (X 14), .ref (X 15), .ref (X 16), .ref (X 17), .ref (X 18), .ref (X 19), .int (nI (S.1 20 0)), .ref (X 21), .ref (X 22), .ref (X 23), .ref (X 24), .ref (X 25), .ref (X 26), .ref (X 27), .int cz, .ref (X 29)]) (C := RX10) (T := TX10) (N := 30) hx hb hts in_X10 hown hK hZ ((va_up_ne _ _ (fun q => absurd (hXI 0 15 (by decide) (by decide) q) (by decide))).trans ((va_up_ne _ _ (fun q => absurd (hXI 0 14 (by decide) (by decide) q) (by decide))).trans ((va_up_ne _ _ (fun q => absurd (hXI 0 13 (by decide) (by decide) q) (by decide))).trans ((va_up_ne _ _ (fun q => absurd (hXI 0 12 (by decide) (by decide) q) (by decide))).trans ((va_up_ne _ _ (fun q => absurd (hXI 0 11 (by decide) (by decide) q) (by decide))).trans m0))))) rfl 10 (by decide) fl_117 (fun _ h9 => h9) rfl dX10_like_100 ?_
          refine lv_iconst (v := 1) hx hb dX10_like_103 (by decide) ?_
          refine lv_iadd hx hb dX10_like_104 ?_
          rw [nI_1]
          refine z_put (ci := 10) (fs := [.int (nI (S.1 0 0)), .int (nI (S.1 1 0)), .ref (X 2), .ref (X 3), .ref (X 4), .ref (X 5), .ref (X 6), .long S.2.2, .ref (X 8), .ref (X 9), .int (nI (S.1 10 0)), .ref (X 11), .ref (X 12), .ref (X 13), .ref (X 14), .ref (X 15), .ref (X 16), .ref (X 17), .ref (X 18), .ref (X 19), .int (nI (S.1 20 0)), .ref (X 21), .ref (X 22), .ref (X 23), .ref (X 24), .ref (X 25), .ref (X 26), .ref (X 27), .int cz, .ref (X 29)]) (fs' := [.int (nI (S.1 0 0)), .int (nI (S.1 1 0)), .ref (X 2), .ref (X 3), .ref (X 4), .ref (X 5), .ref (X 6), .long S.2.2, .ref (X 8), .ref (X 9), .int (nI (S.1 10 0 + 1)), .ref (X 11), .ref (X 12), .ref (X 13), .ref (X 14), .ref (X 15), .ref (X 16), .ref (X 17), .ref (X 18), .ref (X 19), .int (nI (S.1 20 0)), .ref (X 21), .ref (X 22), .ref (X 23), .ref (X 24), .ref (X 25), .ref (X 26), .ref (X 27), .int cz, .ref (X 29)]) (v := .int (nI (S.1 10 0 + 1))) (ty := .int) (C := RX10) (T := TX10) (N := 30) hx hb hts in_X10 tyX10 tyX10_ok nmX10 hown hK hZ ((va_up_ne _ _ (fun q => absurd (hXI 0 15 (by decide) (by decide) q) (by decide))).trans ((va_up_ne _ _ (fun q => absurd (hXI 0 14 (by decide) (by decide) q) (by decide))).trans ((va_up_ne _ _ (fun q => absurd (hXI 0 13 (by decide) (by decide) q) (by decide))).trans ((va_up_ne _ _ (fun q => absurd (hXI 0 12 (by decide) (by decide) q) (by decide))).trans ((va_up_ne _ _ (fun q => absurd (hXI 0 11 (by decide) (by decide) q) (by decide))).trans m0))))) rfl 10 (by decide) fl_117 (fun _ h9 => h9) rfl (by decide +kernel) rfl rfl (Nat.le_of_ble_eq_true rfl) rfl dX10_like_105 (fun H locs hZ => ?_)
          refine lv_aload_n hx hb dX10_like_108 rfl (lv_at hl 0 rfl) ?_
          refine z_get (ci := 10) (fs := [.int (nI (S.1 0 0)), .int (nI (S.1 1 0)), .ref (X 2), .ref (X 3), .ref (X 4), .ref (X 5), .ref (X 6), .long S.2.2, .ref (X 8), .ref (X 9), .int (nI (S.1 10 0 + 1)), .ref (X 11), .ref (X 12), .ref (X 13), .ref (X 14), .ref (X 15), .ref (X 16), .ref (X 17), .ref (X 18), .ref (X 19), .int (nI (S.1 20 0)), .ref (X 21), .ref (X 22), .ref (X 23), .ref (X 24), .ref (X 25), .ref (X 26), .ref (X 27), .int cz, .ref (X 29)]) (C := RX10) (T := TX10) (N := 30) hx hb hts in_X10 hown hK hZ (va_up_self _ _ _) rfl 10 (by decide) fl_117 (fun _ h9 => h9) rfl dX10_like_109 ?_
          refine lv_iconst (v := 1) hx hb dX10_like_112 (by decide) ?_
          refine lv_isub hx hb dX10_like_113 ?_
          rw [nI_pred]
          exact z_iret hx hb hr hlocks hZ dX10_like_114 (by rw [sp_like, if_pos ⟨c6, c17, c28⟩, if_neg c8]; exact ⟨⟨_, _, _, (va_up_self _ _ _), ((va_up_ne _ _ (fun q => absurd (hXI 2 0 (by decide) (by decide) q) (by decide))).trans ((va_up_ne _ _ (fun q => absurd (hXI 2 15 (by decide) (by decide) q) (by decide))).trans ((va_up_ne _ _ (fun q => absurd (hXI 2 14 (by decide) (by decide) q) (by decide))).trans ((va_up_ne _ _ (fun q => absurd (hXI 2 13 (by decide) (by decide) q) (by decide))).trans ((va_up_ne _ _ (fun q => absurd (hXI 2 12 (by decide) (by decide) q) (by decide))).trans ((va_up_ne _ _ (fun q => absurd (hXI 2 11 (by decide) (by decide) q) (by decide))).trans m2)))))), ((va_up_ne _ _ (fun q => absurd (hXI 3 0 (by decide) (by decide) q) (by decide))).trans ((va_up_ne _ _ (fun q => absurd (hXI 3 15 (by decide) (by decide) q) (by decide))).trans ((va_up_ne _ _ (fun q => absurd (hXI 3 14 (by decide) (by decide) q) (by decide))).trans ((va_up_ne _ _ (fun q => absurd (hXI 3 13 (by decide) (by decide) q) (by decide))).trans ((va_up_ne _ _ (fun q => absurd (hXI 3 12 (by decide) (by decide) q) (by decide))).trans ((va_up_ne _ _ (fun q => absurd (hXI 3 11 (by decide) (by decide) q) (by decide))).trans m3)))))), ((va_up_ne _ _ (fun q => absurd (hXI 4 0 (by decide) (by decide) q) (by decide))).trans ((va_up_ne _ _ (fun q => absurd (hXI 4 15 (by decide) (by decide) q) (by decide))).trans ((va_up_ne _ _ (fun q => absurd (hXI 4 14 (by decide) (by decide) q) (by decide))).trans ((va_up_ne _ _ (fun q => absurd (hXI 4 13 (by decide) (by decide) q) (by decide))).trans ((va_up_ne _ _ (fun q => absurd (hXI 4 12 (by decide) (by decide) q) (by decide))).trans ((va_up_ne _ _ (fun q => absurd (hXI 4 11 (by decide) (by decide) q) (by decide))).trans m4)))))), ((va_up_ne _ _ (fun q => absurd (hXI 5 0 (by decide) (by decide) q) (by decide))).trans ((va_up_ne _ _ (fun q => absurd (hXI 5 15 (by decide) (by decide) q) (by decide))).trans ((va_up_ne _ _ (fun q => absurd (hXI 5 14 (by decide) (by decide) q) (by decide))).trans ((va_up_ne _ _ (fun q => absurd (hXI 5 13 (by decide) (by decide) q) (by decide))).trans ((va_up_ne _ _ (fun q => absurd (hXI 5 12 (by decide) (by decide) q) (by decide))).trans ((va_up_ne _ _ (fun q => absurd (hXI 5 11 (by decide) (by decide) q) (by decide))).trans m5)))))), ((va_up_ne _ _ (fun q => absurd (hXI 6 0 (by decide) (by decide) q) (by decide))).trans ((va_up_ne _ _ (fun q => absurd (hXI 6 15 (by decide) (by decide) q) (by decide))).trans ((va_up_ne _ _ (fun q => absurd (hXI 6 14 (by decide) (by decide) q) (by decide))).trans ((va_up_ne _ _ (fun q => absurd (hXI 6 13 (by decide) (by decide) q) (by decide))).trans ((va_up_ne _ _ (fun q => absurd (hXI 6 12 (by decide) (by decide) q) (by decide))).trans ((va_up_ne _ _ (fun q => absurd (hXI 6 11 (by decide) (by decide) q) (by decide))).trans m6)))))), ((va_up_ne _ _ (fun q => absurd (hXI 8 0 (by decide) (by decide) q) (by decide))).trans ((va_up_ne _ _ (fun q => absurd (hXI 8 15 (by decide) (by decide) q) (by decide))).trans ((va_up_ne _ _ (fun q => absurd (hXI 8 14 (by decide) (by decide) q) (by decide))).trans ((va_up_ne _ _ (fun q => absurd (hXI 8 13 (by decide) (by decide) q) (by decide))).trans ((va_up_ne _ _ (fun q => absurd (hXI 8 12 (by decide) (by decide) q) (by decide))).trans ((va_up_ne _ _ (fun q => absurd (hXI 8 11 (by decide) (by decide) q) (by decide))).trans m8)))))), ((va_up_ne _ _ (fun q => absurd (hXI 9 0 (by decide) (by decide) q) (by decide))).trans ((va_up_ne _ _ (fun q => absurd (hXI 9 15 (by decide) (by decide) q) (by decide))).trans ((va_up_ne _ _ (fun q => absurd (hXI 9 14 (by decide) (by decide) q) (by decide))).trans ((va_up_ne _ _ (fun q => absurd (hXI 9 13 (by decide) (by decide) q) (by decide))).trans ((va_up_ne _ _ (fun q => absurd (hXI 9 12 (by decide) (by decide) q) (by decide))).trans ((va_up_ne _ _ (fun q => absurd (hXI 9 11 (by decide) (by decide) q) (by decide))).trans m9)))))), (((va_up_ne _ _ (fun q => absurd (hXI 11 0 (by decide) (by decide) q) (by decide))).trans ((va_up_ne _ _ (fun q => absurd (hXI 11 15 (by decide) (by decide) q) (by decide))).trans ((va_up_ne _ _ (fun q => absurd (hXI 11 14 (by decide) (by decide) q) (by decide))).trans ((va_up_ne _ _ (fun q => absurd (hXI 11 13 (by decide) (by decide) q) (by decide))).trans ((va_up_ne _ _ (fun q => absurd (hXI 11 12 (by decide) (by decide) q) (by decide))).trans (va_up_self _ _ _)))))).trans (congrArg (fun f => some (Sum.inl (cT 0, 12, Sum.inl f))) (cG_sG S 11 _ _))), (((va_up_ne _ _ (fun q => absurd (hXI 12 0 (by decide) (by decide) q) (by decide))).trans ((va_up_ne _ _ (fun q => absurd (hXI 12 15 (by decide) (by decide) q) (by decide))).trans ((va_up_ne _ _ (fun q => absurd (hXI 12 14 (by decide) (by decide) q) (by decide))).trans ((va_up_ne _ _ (fun q => absurd (hXI 12 13 (by decide) (by decide) q) (by decide))).trans (va_up_self _ _ _))))).trans (congrArg (fun f => some (Sum.inl (cT 0, 12, Sum.inl f))) (cG_sG S 12 _ _))), (((va_up_ne _ _ (fun q => absurd (hXI 13 0 (by decide) (by decide) q) (by decide))).trans ((va_up_ne _ _ (fun q => absurd (hXI 13 15 (by decide) (by decide) q) (by decide))).trans ((va_up_ne _ _ (fun q => absurd (hXI 13 14 (by decide) (by decide) q) (by decide))).trans (va_up_self _ _ _)))).trans (congrArg (fun f => some (Sum.inl (cT 0, 12, Sum.inl f))) (cG_sG S 13 _ _))), (((va_up_ne _ _ (fun q => absurd (hXI 14 0 (by decide) (by decide) q) (by decide))).trans ((va_up_ne _ _ (fun q => absurd (hXI 14 15 (by decide) (by decide) q) (by decide))).trans (va_up_self _ _ _))).trans (congrArg (fun f => some (Sum.inl (cT 0, 12, Sum.inl f))) (cG_sG S 14 _ _))), (((va_up_ne _ _ (fun q => absurd (hXI 15 0 (by decide) (by decide) q) (by decide))).trans (va_up_self _ _ _)).trans (congrArg (fun f => some (Sum.inl (cT 1, 12, Sum.inl f))) (cN_sN S 15 _ 0))), ((va_up_ne _ _ (fun q => absurd (hXI 16 0 (by decide) (by decide) q) (by decide))).trans ((va_up_ne _ _ (fun q => absurd (hXI 16 15 (by decide) (by decide) q) (by decide))).trans ((va_up_ne _ _ (fun q => absurd (hXI 16 14 (by decide) (by decide) q) (by decide))).trans ((va_up_ne _ _ (fun q => absurd (hXI 16 13 (by decide) (by decide) q) (by decide))).trans ((va_up_ne _ _ (fun q => absurd (hXI 16 12 (by decide) (by decide) q) (by decide))).trans ((va_up_ne _ _ (fun q => absurd (hXI 16 11 (by decide) (by decide) q) (by decide))).trans m16)))))), ((va_up_ne _ _ (fun q => absurd (hXI 17 0 (by decide) (by decide) q) (by decide))).trans ((va_up_ne _ _ (fun q => absurd (hXI 17 15 (by decide) (by decide) q) (by decide))).trans ((va_up_ne _ _ (fun q => absurd (hXI 17 14 (by decide) (by decide) q) (by decide))).trans ((va_up_ne _ _ (fun q => absurd (hXI 17 13 (by decide) (by decide) q) (by decide))).trans ((va_up_ne _ _ (fun q => absurd (hXI 17 12 (by decide) (by decide) q) (by decide))).trans ((va_up_ne _ _ (fun q => absurd (hXI 17 11 (by decide) (by decide) q) (by decide))).trans m17)))))), ((va_up_ne _ _ (fun q => absurd (hXI 18 0 (by decide) (by decide) q) (by decide))).trans ((va_up_ne _ _ (fun q => absurd (hXI 18 15 (by decide) (by decide) q) (by decide))).trans ((va_up_ne _ _ (fun q => absurd (hXI 18 14 (by decide) (by decide) q) (by decide))).trans ((va_up_ne _ _ (fun q => absurd (hXI 18 13 (by decide) (by decide) q) (by decide))).trans ((va_up_ne _ _ (fun q => absurd (hXI 18 12 (by decide) (by decide) q) (by decide))).trans ((va_up_ne _ _ (fun q => absurd (hXI 18 11 (by decide) (by decide) q) (by decide))).trans m18)))))), ((va_up_ne _ _ (fun q => absurd (hXI 19 0 (by decide) (by decide) q) (by decide))).trans ((va_up_ne _ _ (fun q => absurd (hXI 19 15 (by decide) (by decide) q) (by decide))).trans ((va_up_ne _ _ (fun q => absurd (hXI 19 14 (by decide) (by decide) q) (by decide))).trans ((va_up_ne _ _ (fun q => absurd (hXI 19 13 (by decide) (by decide) q) (by decide))).trans ((va_up_ne _ _ (fun q => absurd (hXI 19 12 (by decide) (by decide) q) (by decide))).trans ((va_up_ne _ _ (fun q => absurd (hXI 19 11 (by decide) (by decide) q) (by decide))).trans m19)))))), ((va_up_ne _ _ (fun q => absurd (hXI 21 0 (by decide) (by decide) q) (by decide))).trans ((va_up_ne _ _ (fun q => absurd (hXI 21 15 (by decide) (by decide) q) (by decide))).trans ((va_up_ne _ _ (fun q => absurd (hXI 21 14 (by decide) (by decide) q) (by decide))).trans ((va_up_ne _ _ (fun q => absurd (hXI 21 13 (by decide) (by decide) q) (by decide))).trans ((va_up_ne _ _ (fun q => absurd (hXI 21 12 (by decide) (by decide) q) (by decide))).trans ((va_up_ne _ _ (fun q => absurd (hXI 21 11 (by decide) (by decide) q) (by decide))).trans m21)))))), ((va_up_ne _ _ (fun q => absurd (hXI 22 0 (by decide) (by decide) q) (by decide))).trans ((va_up_ne _ _ (fun q => absurd (hXI 22 15 (by decide) (by decide) q) (by decide))).trans ((va_up_ne _ _ (fun q => absurd (hXI 22 14 (by decide) (by decide) q) (by decide))).trans ((va_up_ne _ _ (fun q => absurd (hXI 22 13 (by decide) (by decide) q) (by decide))).trans ((va_up_ne _ _ (fun q => absurd (hXI 22 12 (by decide) (by decide) q) (by decide))).trans ((va_up_ne _ _ (fun q => absurd (hXI 22 11 (by decide) (by decide) q) (by decide))).trans m22)))))), ((va_up_ne _ _ (fun q => absurd (hXI 23 0 (by decide) (by decide) q) (by decide))).trans ((va_up_ne _ _ (fun q => absurd (hXI 23 15 (by decide) (by decide) q) (by decide))).trans ((va_up_ne _ _ (fun q => absurd (hXI 23 14 (by decide) (by decide) q) (by decide))).trans ((va_up_ne _ _ (fun q => absurd (hXI 23 13 (by decide) (by decide) q) (by decide))).trans ((va_up_ne _ _ (fun q => absurd (hXI 23 12 (by decide) (by decide) q) (by decide))).trans ((va_up_ne _ _ (fun q => absurd (hXI 23 11 (by decide) (by decide) q) (by decide))).trans m23)))))), ((va_up_ne _ _ (fun q => absurd (hXI 24 0 (by decide) (by decide) q) (by decide))).trans ((va_up_ne _ _ (fun q => absurd (hXI 24 15 (by decide) (by decide) q) (by decide))).trans ((va_up_ne _ _ (fun q => absurd (hXI 24 14 (by decide) (by decide) q) (by decide))).trans ((va_up_ne _ _ (fun q => absurd (hXI 24 13 (by decide) (by decide) q) (by decide))).trans ((va_up_ne _ _ (fun q => absurd (hXI 24 12 (by decide) (by decide) q) (by decide))).trans ((va_up_ne _ _ (fun q => absurd (hXI 24 11 (by decide) (by decide) q) (by decide))).trans m24)))))), ((va_up_ne _ _ (fun q => absurd (hXI 25 0 (by decide) (by decide) q) (by decide))).trans ((va_up_ne _ _ (fun q => absurd (hXI 25 15 (by decide) (by decide) q) (by decide))).trans ((va_up_ne _ _ (fun q => absurd (hXI 25 14 (by decide) (by decide) q) (by decide))).trans ((va_up_ne _ _ (fun q => absurd (hXI 25 13 (by decide) (by decide) q) (by decide))).trans ((va_up_ne _ _ (fun q => absurd (hXI 25 12 (by decide) (by decide) q) (by decide))).trans ((va_up_ne _ _ (fun q => absurd (hXI 25 11 (by decide) (by decide) q) (by decide))).trans m25)))))), ((va_up_ne _ _ (fun q => absurd (hXI 26 0 (by decide) (by decide) q) (by decide))).trans ((va_up_ne _ _ (fun q => absurd (hXI 26 15 (by decide) (by decide) q) (by decide))).trans ((va_up_ne _ _ (fun q => absurd (hXI 26 14 (by decide) (by decide) q) (by decide))).trans ((va_up_ne _ _ (fun q => absurd (hXI 26 13 (by decide) (by decide) q) (by decide))).trans ((va_up_ne _ _ (fun q => absurd (hXI 26 12 (by decide) (by decide) q) (by decide))).trans ((va_up_ne _ _ (fun q => absurd (hXI 26 11 (by decide) (by decide) q) (by decide))).trans m26)))))), ((va_up_ne _ _ (fun q => absurd (hXI 27 0 (by decide) (by decide) q) (by decide))).trans ((va_up_ne _ _ (fun q => absurd (hXI 27 15 (by decide) (by decide) q) (by decide))).trans ((va_up_ne _ _ (fun q => absurd (hXI 27 14 (by decide) (by decide) q) (by decide))).trans ((va_up_ne _ _ (fun q => absurd (hXI 27 13 (by decide) (by decide) q) (by decide))).trans ((va_up_ne _ _ (fun q => absurd (hXI 27 12 (by decide) (by decide) q) (by decide))).trans ((va_up_ne _ _ (fun q => absurd (hXI 27 11 (by decide) (by decide) q) (by decide))).trans m27)))))), ((va_up_ne _ _ (fun q => absurd (hXI 29 0 (by decide) (by decide) q) (by decide))).trans ((va_up_ne _ _ (fun q => absurd (hXI 29 15 (by decide) (by decide) q) (by decide))).trans ((va_up_ne _ _ (fun q => absurd (hXI 29 14 (by decide) (by decide) q) (by decide))).trans ((va_up_ne _ _ (fun q => absurd (hXI 29 13 (by decide) (by decide) q) (by decide))).trans ((va_up_ne _ _ (fun q => absurd (hXI 29 12 (by decide) (by decide) q) (by decide))).trans ((va_up_ne _ _ (fun q => absurd (hXI 29 11 (by decide) (by decide) q) (by decide))).trans m29))))))⟩, rfl⟩)
        · have c8 : S.1 10 0 = 12 := nI_inj (by omega) (by decide) c39
          refine lv_bipush (v := (-3)) hx hb dX10_like_42 (by decide) ?_
          exact z_iret hx hb hr hlocks hZ dX10_like_44 (mQ_of (by rw [sp_like, if_pos ⟨c6, c17, c28⟩, if_pos c8]) ⟨_, _, _, hM⟩)
      · refine lv_iconst (v := (-1)) hx hb dX10_like_31 (by decide) ?_
        exact z_iret hx hb hr hlocks hZ dX10_like_32 (mQ_of (by rw [sp_like, if_neg (fun h => c28 h.2.2)]) ⟨_, _, _, hM⟩)

set_option maxHeartbeats 4000000 in
set_option maxRecDepth 100000 in
theorem c_X10_strike (l : Launch) (D : va_G) (cT : Nat → ClassId) (G : zG) (sz : Nat) (S : zS) (X : Nat → Nat) (cz : Int32) (f27 f29 : Nat → Int32) (nn : Nat) (x : Int32) (hM : MD cT S X cz f27 f29 G) (hXI : XI X) (hS : ok S nn)  : zM l D cT yX10_strike wsX10_strike (zR 1 0 0) [.ref (X 0), .int x] G sz (mQ cT X (sp_strike S x)) := by
  refine z_start (cc := cX10_strike) (maxL := 2) (ret := (some .int)) (by decide) rfl (Nat.le_of_ble_eq_true rfl) ?_
  intro p e s m below meth c ls hI hZ hl
  obtain ⟨hx, hb, hr, hml, hts, hown, hlocks, hname, hK, hA, hE⟩ := hI
  have hl : lv_has ls 2 [(0, .ref (X 0)), (1, .int x)] := hl
  have hown : s.vm.findClass RX10 = some m.cls := hown
  have in_X10 : ∀ w ∈ u_ws RX10 TX10 30, w ∈ wsX10_strike := by decide +kernel
  have fl_44 := hts (.fieldLink RX10 44 "FairRentsModel" "isStruck" "[Z") (by decide +kernel)
  have fl_117 := hts (.fieldLink RX10 117 "FairRentsModel" "likes" "I") (by decide +kernel)
  obtain ⟨m0, m2, m3, m4, m5, m6, m8, m9, m11, m12, m13, m14, m15, m16, m17, m18, m19, m21, m22, m23, m24, m25, m26, m27, m29⟩ := id hM
  obtain ⟨⟨k1, k10, k20, k0⟩, kH, k9, k8, k15, k26, kL, kLn, kP, kE, kEm, kn⟩ := id hS
  refine lv_iload_n hx hb dX10_strike_0 rfl (lv_at hl 1 rfl) ?_
  refine lv_iconst (v := 0) hx hb dX10_strike_1 (by decide) ?_
  refine lv_aload_n hx hb dX10_strike_2 rfl (lv_at hl 0 rfl) ?_
  refine z_get (ci := 10) (fs := [.int (nI (S.1 0 0)), .int (nI (S.1 1 0)), .ref (X 2), .ref (X 3), .ref (X 4), .ref (X 5), .ref (X 6), .long S.2.2, .ref (X 8), .ref (X 9), .int (nI (S.1 10 0)), .ref (X 11), .ref (X 12), .ref (X 13), .ref (X 14), .ref (X 15), .ref (X 16), .ref (X 17), .ref (X 18), .ref (X 19), .int (nI (S.1 20 0)), .ref (X 21), .ref (X 22), .ref (X 23), .ref (X 24), .ref (X 25), .ref (X 26), .ref (X 27), .int cz, .ref (X 29)]) (C := RX10) (T := TX10) (N := 30) hx hb hts in_X10 hown hK hZ m0 rfl 10 (by decide) fl_117 (fun _ h9 => h9) rfl dX10_strike_3 ?_
  refine lv_iconst (v := 1) hx hb dX10_strike_6 (by decide) ?_
  refine lv_isub hx hb dX10_strike_7 ?_
  refine z_call (va_runS (As := [.int x, .int 0, .int ((nI (S.1 10 0)) - 1)]) (rest := []) ⟨hx, hb, hml, hown, hts⟩ (c_X10_in l D cT _ _ x 0 ((nI (S.1 10 0)) - 1)) (va_cwS 3 hts gX10_strike_X10_in rfl rfl rfl (by decide +kernel) ⟨(Nat.le_of_ble_eq_true rfl), (Nat.le_of_ble_eq_true rfl)⟩) (z_preS hK hE hZ hA) rfl rfl hl.1 rfl (lv_room (Nat.le_of_ble_eq_true rfl)) dX10_strike_8 ⟨(Nat.le_of_ble_eq_true rfl), (Nat.le_of_ble_eq_true rfl)⟩) hZ hA (fun r G8 H locs hq hZ => ?_)
  obtain ⟨hg, rfl⟩ := hq
  replace hg := hg.symm
  subst hg
  refine W.eq (g2 := F0 m 11 ls [.int (if 0 ≤ x ∧ x ≤ ((nI (S.1 10 0)) - 1) then 1 else 0)]) rfl ?_
  refine zb_ne (tgt := 16) hx hb dX10_strike_11 (by decide) (fun c11 => ?_) (fun c11 => ?_)
  · obtain ⟨hj, hxj⟩ := ix_lt c11 (by omega)
    refine lv_aload_n hx hb dX10_strike_16 rfl (lv_at hl 0 rfl) ?_
    refine z_get (ci := 10) (fs := [.int (nI (S.1 0 0)), .int (nI (S.1 1 0)), .ref (X 2), .ref (X 3), .ref (X 4), .ref (X 5), .ref (X 6), .long S.2.2, .ref (X 8), .ref (X 9), .int (nI (S.1 10 0)), .ref (X 11), .ref (X 12), .ref (X 13), .ref (X 14), .ref (X 15), .ref (X 16), .ref (X 17), .ref (X 18), .ref (X 19), .int (nI (S.1 20 0)), .ref (X 21), .ref (X 22), .ref (X 23), .ref (X 24), .ref (X 25), .ref (X 26), .ref (X 27), .int cz, .ref (X 29)]) (C := RX10) (T := TX10) (N := 30) hx hb hts in_X10 hown hK hZ m0 rfl 15 (by decide) fl_44 (fun _ h9 => h9) rfl dX10_strike_17 ?_
    refine lv_iload_n hx hb dX10_strike_20 rfl (lv_at hl 1 rfl) ?_
    refine z_zald hx hb hK hZ m15 x.toNatClampNeg hxj (by omega) (by decide) dX10_strike_21 ?_
    refine lv_if_eq (tgt := 28) hx hb dX10_strike_22 (by decide) (fun c22 => ?_) (fun c22 => ?_)
    · have hz : S.1 15 x.toNatClampNeg = 0 := n0 (Nat.le_succ_of_le (k15 _)) c22
      refine lv_aload_n hx hb dX10_strike_28 rfl (lv_at hl 0 rfl) ?_
      refine z_get (ci := 10) (fs := [.int (nI (S.1 0 0)), .int (nI (S.1 1 0)), .ref (X 2), .ref (X 3), .ref (X 4), .ref (X 5), .ref (X 6), .long S.2.2, .ref (X 8), .ref (X 9), .int (nI (S.1 10 0)), .ref (X 11), .ref (X 12), .ref (X 13), .ref (X 14), .ref (X 15), .ref (X 16), .ref (X 17), .ref (X 18), .ref (X 19), .int (nI (S.1 20 0)), .ref (X 21), .ref (X 22), .ref (X 23), .ref (X 24), .ref (X 25), .ref (X 26), .ref (X 27), .int cz, .ref (X 29)]) (C := RX10) (T := TX10) (N := 30) hx hb hts in_X10 hown hK hZ m0 rfl 15 (by decide) fl_44 (fun _ h9 => h9) rfl dX10_strike_29 ?_
      refine lv_iload_n hx hb dX10_strike_32 rfl (lv_at hl 1 rfl) ?_
      refine lv_iconst (v := 1) hx hb dX10_strike_33 (by decide) ?_
      refine z_zast hx hb hK hZ m15 x.toNatClampNeg hxj (by decide) (by omega) (by decide) dX10_strike_34 (fun H locs hZ => ?_)
      refine lv_iconst (v := 1) hx hb dX10_strike_35 (by decide) ?_
      exact z_iret hx hb hr hlocks hZ dX10_strike_36 (by rw [sp_strike, if_pos c11, if_pos hz]; exact ⟨⟨_, _, _, ((va_up_ne _ _ (fun q => absurd (hXI 0 15 (by decide) (by decide) q) (by decide))).trans m0), ((va_up_ne _ _ (fun q => absurd (hXI 2 15 (by decide) (by decide) q) (by decide))).trans m2), ((va_up_ne _ _ (fun q => absurd (hXI 3 15 (by decide) (by decide) q) (by decide))).trans m3), ((va_up_ne _ _ (fun q => absurd (hXI 4 15 (by decide) (by decide) q) (by decide))).trans m4), ((va_up_ne _ _ (fun q => absurd (hXI 5 15 (by decide) (by decide) q) (by decide))).trans m5), ((va_up_ne _ _ (fun q => absurd (hXI 6 15 (by decide) (by decide) q) (by decide))).trans m6), ((va_up_ne _ _ (fun q => absurd (hXI 8 15 (by decide) (by decide) q) (by decide))).trans m8), ((va_up_ne _ _ (fun q => absurd (hXI 9 15 (by decide) (by decide) q) (by decide))).trans m9), ((va_up_ne _ _ (fun q => absurd (hXI 11 15 (by decide) (by decide) q) (by decide))).trans m11), ((va_up_ne _ _ (fun q => absurd (hXI 12 15 (by decide) (by decide) q) (by decide))).trans m12), ((va_up_ne _ _ (fun q => absurd (hXI 13 15 (by decide) (by decide) q) (by decide))).trans m13), ((va_up_ne _ _ (fun q => absurd (hXI 14 15 (by decide) (by decide) q) (by decide))).trans m14), ((va_up_self _ _ _).trans (congrArg (fun f => some (Sum.inl (cT 1, 12, Sum.inl f))) (cN_sN S 15 _ 1))), ((va_up_ne _ _ (fun q => absurd (hXI 16 15 (by decide) (by decide) q) (by decide))).trans m16), ((va_up_ne _ _ (fun q => absurd (hXI 17 15 (by decide) (by decide) q) (by decide))).trans m17), ((va_up_ne _ _ (fun q => absurd (hXI 18 15 (by decide) (by decide) q) (by decide))).trans m18), ((va_up_ne _ _ (fun q => absurd (hXI 19 15 (by decide) (by decide) q) (by decide))).trans m19), ((va_up_ne _ _ (fun q => absurd (hXI 21 15 (by decide) (by decide) q) (by decide))).trans m21), ((va_up_ne _ _ (fun q => absurd (hXI 22 15 (by decide) (by decide) q) (by decide))).trans m22), ((va_up_ne _ _ (fun q => absurd (hXI 23 15 (by decide) (by decide) q) (by decide))).trans m23), ((va_up_ne _ _ (fun q => absurd (hXI 24 15 (by decide) (by decide) q) (by decide))).trans m24), ((va_up_ne _ _ (fun q => absurd (hXI 25 15 (by decide) (by decide) q) (by decide))).trans m25), ((va_up_ne _ _ (fun q => absurd (hXI 26 15 (by decide) (by decide) q) (by decide))).trans m26), ((va_up_ne _ _ (fun q => absurd (hXI 27 15 (by decide) (by decide) q) (by decide))).trans m27), ((va_up_ne _ _ (fun q => absurd (hXI 29 15 (by decide) (by decide) q) (by decide))).trans m29)⟩, rfl⟩)
    · have hz : ¬ S.1 15 x.toNatClampNeg = 0 := fun h => c22 (by show nI _ = 0; rw [h]; rfl)
      refine lv_bipush (v := (-2)) hx hb dX10_strike_25 (by decide) ?_
      exact z_iret hx hb hr hlocks hZ dX10_strike_27 (mQ_of (by rw [sp_strike, if_pos c11, if_neg hz]) ⟨_, _, _, hM⟩)
  · refine lv_iconst (v := (-1)) hx hb dX10_strike_14 (by decide) ?_
    exact z_iret hx hb hr hlocks hZ dX10_strike_15 (mQ_of (by rw [sp_strike, if_neg c11]) ⟨_, _, _, hM⟩)

set_option maxHeartbeats 4000000 in
set_option maxRecDepth 100000 in
theorem c_X10_days (l : Launch) (D : va_G) (cT : Nat → ClassId) (G : zG) (sz : Nat) (S : zS) (X : Nat → Nat) (cz : Int32) (f27 f29 : Nat → Int32) (nn : Nat) (x : Int32) (hM : MD cT S X cz f27 f29 G) (hXI : XI X) (hS : ok S nn)  : zM l D cT yX10_days wsX10_days (zR 1 0 0) [.ref (X 0), .int x] G sz (mQ cT X (sp_days S x)) := by
  refine z_start (cc := cX10_days) (maxL := 2) (ret := (some .int)) (by decide) rfl (Nat.le_of_ble_eq_true rfl) ?_
  intro p e s m below meth c ls hI hZ hl
  obtain ⟨hx, hb, hr, hml, hts, hown, hlocks, hname, hK, hA, hE⟩ := hI
  have hl : lv_has ls 2 [(0, .ref (X 0)), (1, .int x)] := hl
  have hown : s.vm.findClass RX10 = some m.cls := hown
  have in_X10 : ∀ w ∈ u_ws RX10 TX10 30, w ∈ wsX10_days := by decide +kernel
  have fl_107 := hts (.fieldLink RX10 107 "FairRentsModel" "today" "I") (by decide +kernel)
  obtain ⟨m0, m2, m3, m4, m5, m6, m8, m9, m11, m12, m13, m14, m15, m16, m17, m18, m19, m21, m22, m23, m24, m25, m26, m27, m29⟩ := id hM
  obtain ⟨⟨k1, k10, k20, k0⟩, kH, k9, k8, k15, k26, kL, kLn, kP, kE, kEm, kn⟩ := id hS
  refine lv_iload_n hx hb dX10_days_0 rfl (lv_at hl 1 rfl) ?_
  refine lv_iconst (v := 1) hx hb dX10_days_1 (by decide) ?_
  refine lv_bipush (v := 30) hx hb dX10_days_2 (by decide) ?_
  refine z_call (va_runS (As := [.int x, .int 1, .int 30]) (rest := []) ⟨hx, hb, hml, hown, hts⟩ (c_X10_in l D cT _ _ x 1 30) (va_cwS 3 hts gX10_days_X10_in rfl rfl rfl (by decide +kernel) ⟨(Nat.le_of_ble_eq_true rfl), (Nat.le_of_ble_eq_true rfl)⟩) (z_preS hK hE hZ hA) rfl rfl hl.1 rfl (lv_room (Nat.le_of_ble_eq_true rfl)) dX10_days_4 ⟨(Nat.le_of_ble_eq_true rfl), (Nat.le_of_ble_eq_true rfl)⟩) hZ hA (fun r G4 H locs hq hZ => ?_)
  obtain ⟨hg, rfl⟩ := hq
  replace hg := hg.symm
  subst hg
  refine W.eq (g2 := F0 m 7 ls [.int (if 1 ≤ x ∧ x ≤ 30 then 1 else 0)]) rfl ?_
  refine zb_ne (tgt := 12) hx hb dX10_days_7 (by decide) (fun c7 => ?_) (fun c7 => ?_)
  · have hxd : x = nI x.toNatClampNeg := (z_self (z_le01 c7.1)).symm
    have hd : x.toNatClampNeg ≤ 30 := z_cl ⟨z_le01 c7.1, c7.2⟩ (by decide)
    refine lv_aload_n hx hb dX10_days_12 rfl (lv_at hl 0 rfl) ?_
    refine z_get (ci := 10) (fs := [.int (nI (S.1 0 0)), .int (nI (S.1 1 0)), .ref (X 2), .ref (X 3), .ref (X 4), .ref (X 5), .ref (X 6), .long S.2.2, .ref (X 8), .ref (X 9), .int (nI (S.1 10 0)), .ref (X 11), .ref (X 12), .ref (X 13), .ref (X 14), .ref (X 15), .ref (X 16), .ref (X 17), .ref (X 18), .ref (X 19), .int (nI (S.1 20 0)), .ref (X 21), .ref (X 22), .ref (X 23), .ref (X 24), .ref (X 25), .ref (X 26), .ref (X 27), .int cz, .ref (X 29)]) (C := RX10) (T := TX10) (N := 30) hx hb hts in_X10 hown hK hZ m0 rfl 0 (by decide) fl_107 (fun _ h9 => h9) rfl dX10_days_13 ?_
    refine lv_iload_n hx hb dX10_days_16 rfl (lv_at hl 1 rfl) ?_
    refine lv_iadd hx hb dX10_days_17 ?_
    refine W.eq (congrArg (fun v => F0 m 18 ls (.int v :: [])) (day_add hxd)) ?_
    refine W.eq (g2 := F0 m 18 ls [.int (nI (S.1 0 0 + x.toNatClampNeg))]) rfl ?_
    refine lv_sipush (v := 300) hx hb dX10_days_18 (by decide) ?_
    refine lv_icmp_le (tgt := 27) hx hb dX10_days_21 (by decide) (fun c21 => ?_) (fun c21 => ?_)
    · have hz : ¬ 300 < S.1 0 0 + x.toNatClampNeg := fun h => nI_ge h (by omega) c21
      refine lv_aload_n hx hb dX10_days_27 rfl (lv_at hl 0 rfl) ?_
      refine lv_dup hx hb dX10_days_28 rfl ?_
      refine z_get (ci := 10) (fs := [.int (nI (S.1 0 0)), .int (nI (S.1 1 0)), .ref (X 2), .ref (X 3), .ref (X 4), .ref (X 5), .ref (X 6), .long S.2.2, .ref (X 8), .ref (X 9), .int (nI (S.1 10 0)), .ref (X 11), .ref (X 12), .ref (X 13), .ref (X 14), .ref (X 15), .ref (X 16), .ref (X 17), .ref (X 18), .ref (X 19), .int (nI (S.1 20 0)), .ref (X 21), .ref (X 22), .ref (X 23), .ref (X 24), .ref (X 25), .ref (X 26), .ref (X 27), .int cz, .ref (X 29)]) (C := RX10) (T := TX10) (N := 30) hx hb hts in_X10 hown hK hZ m0 rfl 0 (by decide) fl_107 (fun _ h9 => h9) rfl dX10_days_29 ?_
      refine lv_iload_n hx hb dX10_days_32 rfl (lv_at hl 1 rfl) ?_
      refine lv_iadd hx hb dX10_days_33 ?_
      refine W.eq (congrArg (fun v => F0 m 34 ls (.int v :: [.ref (X 0)])) (day_add hxd)) ?_
      refine W.eq (g2 := F0 m 34 ls [.int (nI (S.1 0 0 + x.toNatClampNeg)), .ref (X 0)]) rfl ?_
      refine z_put (ci := 10) (fs := [.int (nI (S.1 0 0)), .int (nI (S.1 1 0)), .ref (X 2), .ref (X 3), .ref (X 4), .ref (X 5), .ref (X 6), .long S.2.2, .ref (X 8), .ref (X 9), .int (nI (S.1 10 0)), .ref (X 11), .ref (X 12), .ref (X 13), .ref (X 14), .ref (X 15), .ref (X 16), .ref (X 17), .ref (X 18), .ref (X 19), .int (nI (S.1 20 0)), .ref (X 21), .ref (X 22), .ref (X 23), .ref (X 24), .ref (X 25), .ref (X 26), .ref (X 27), .int cz, .ref (X 29)]) (fs' := [.int (nI (S.1 0 0 + x.toNatClampNeg)), .int (nI (S.1 1 0)), .ref (X 2), .ref (X 3), .ref (X 4), .ref (X 5), .ref (X 6), .long S.2.2, .ref (X 8), .ref (X 9), .int (nI (S.1 10 0)), .ref (X 11), .ref (X 12), .ref (X 13), .ref (X 14), .ref (X 15), .ref (X 16), .ref (X 17), .ref (X 18), .ref (X 19), .int (nI (S.1 20 0)), .ref (X 21), .ref (X 22), .ref (X 23), .ref (X 24), .ref (X 25), .ref (X 26), .ref (X 27), .int cz, .ref (X 29)]) (v := .int (nI (S.1 0 0 + x.toNatClampNeg))) (ty := .int) (C := RX10) (T := TX10) (N := 30) hx hb hts in_X10 tyX10 tyX10_ok nmX10 hown hK hZ m0 rfl 0 (by decide) fl_107 (fun _ h9 => h9) rfl (by decide +kernel) rfl rfl (Nat.le_of_ble_eq_true rfl) rfl dX10_days_34 (fun H locs hZ => ?_)
      refine lv_aload_n hx hb dX10_days_37 rfl (lv_at hl 0 rfl) ?_
      refine z_get (ci := 10) (fs := [.int (nI (S.1 0 0 + x.toNatClampNeg)), .int (nI (S.1 1 0)), .ref (X 2), .ref (X 3), .ref (X 4), .ref (X 5), .ref (X 6), .long S.2.2, .ref (X 8), .ref (X 9), .int (nI (S.1 10 0)), .ref (X 11), .ref (X 12), .ref (X 13), .ref (X 14), .ref (X 15), .ref (X 16), .ref (X 17), .ref (X 18), .ref (X 19), .int (nI (S.1 20 0)), .ref (X 21), .ref (X 22), .ref (X 23), .ref (X 24), .ref (X 25), .ref (X 26), .ref (X 27), .int cz, .ref (X 29)]) (C := RX10) (T := TX10) (N := 30) hx hb hts in_X10 hown hK hZ (va_up_self _ _ _) rfl 0 (by decide) fl_107 (fun _ h9 => h9) rfl dX10_days_38 ?_
      exact z_iret hx hb hr hlocks hZ dX10_days_41 (by rw [sp_days, if_pos c7, if_neg hz]; exact ⟨⟨_, _, _, (va_up_self _ _ _), ((va_up_ne _ _ (fun q => absurd (hXI 2 0 (by decide) (by decide) q) (by decide))).trans m2), ((va_up_ne _ _ (fun q => absurd (hXI 3 0 (by decide) (by decide) q) (by decide))).trans m3), ((va_up_ne _ _ (fun q => absurd (hXI 4 0 (by decide) (by decide) q) (by decide))).trans m4), ((va_up_ne _ _ (fun q => absurd (hXI 5 0 (by decide) (by decide) q) (by decide))).trans m5), ((va_up_ne _ _ (fun q => absurd (hXI 6 0 (by decide) (by decide) q) (by decide))).trans m6), ((va_up_ne _ _ (fun q => absurd (hXI 8 0 (by decide) (by decide) q) (by decide))).trans m8), ((va_up_ne _ _ (fun q => absurd (hXI 9 0 (by decide) (by decide) q) (by decide))).trans m9), ((va_up_ne _ _ (fun q => absurd (hXI 11 0 (by decide) (by decide) q) (by decide))).trans m11), ((va_up_ne _ _ (fun q => absurd (hXI 12 0 (by decide) (by decide) q) (by decide))).trans m12), ((va_up_ne _ _ (fun q => absurd (hXI 13 0 (by decide) (by decide) q) (by decide))).trans m13), ((va_up_ne _ _ (fun q => absurd (hXI 14 0 (by decide) (by decide) q) (by decide))).trans m14), ((va_up_ne _ _ (fun q => absurd (hXI 15 0 (by decide) (by decide) q) (by decide))).trans m15), ((va_up_ne _ _ (fun q => absurd (hXI 16 0 (by decide) (by decide) q) (by decide))).trans m16), ((va_up_ne _ _ (fun q => absurd (hXI 17 0 (by decide) (by decide) q) (by decide))).trans m17), ((va_up_ne _ _ (fun q => absurd (hXI 18 0 (by decide) (by decide) q) (by decide))).trans m18), ((va_up_ne _ _ (fun q => absurd (hXI 19 0 (by decide) (by decide) q) (by decide))).trans m19), ((va_up_ne _ _ (fun q => absurd (hXI 21 0 (by decide) (by decide) q) (by decide))).trans m21), ((va_up_ne _ _ (fun q => absurd (hXI 22 0 (by decide) (by decide) q) (by decide))).trans m22), ((va_up_ne _ _ (fun q => absurd (hXI 23 0 (by decide) (by decide) q) (by decide))).trans m23), ((va_up_ne _ _ (fun q => absurd (hXI 24 0 (by decide) (by decide) q) (by decide))).trans m24), ((va_up_ne _ _ (fun q => absurd (hXI 25 0 (by decide) (by decide) q) (by decide))).trans m25), ((va_up_ne _ _ (fun q => absurd (hXI 26 0 (by decide) (by decide) q) (by decide))).trans m26), ((va_up_ne _ _ (fun q => absurd (hXI 27 0 (by decide) (by decide) q) (by decide))).trans m27), ((va_up_ne _ _ (fun q => absurd (hXI 29 0 (by decide) (by decide) q) (by decide))).trans m29)⟩, rfl⟩)
    · have hz : 300 < S.1 0 0 + x.toNatClampNeg := Nat.not_le.mp (fun h => c21 (nI_le h (by decide)))
      refine lv_bipush (v := (-2)) hx hb dX10_days_24 (by decide) ?_
      exact z_iret hx hb hr hlocks hZ dX10_days_26 (mQ_of (by rw [sp_days, if_pos c7, if_pos hz]) ⟨_, _, _, hM⟩)
  · refine lv_iconst (v := (-1)) hx hb dX10_days_10 (by decide) ?_
    exact z_iret hx hb hr hlocks hZ dX10_days_11 (mQ_of (by rw [sp_days, if_neg c7]) ⟨_, _, _, hM⟩)
end
section
def lav : Option Nat → Int32
  | none => -9
  | some e => nI e
theorem sp_latest_e {S : zS} {x : Int32} {j : Nat} (hh : hix S x = some j) : sp_latest S x = (lav (lat S j), S) := by
  rw [sp_latest, hh]
  show ((match lat S j with | none => -9 | some e => nI e), S) = _
  cases lat S j <;> rfl
theorem clc_no {S : zS} {j d i : Nat} {f0 f : Nat → Int32} {c : Nat} (h : ¬ (S.1 15 i = 0 ∧ S.2.1 11 i = nI (S.1 3 j) ∧ ¬ nI d < S.2.1 14 i)) (he : clc S j d f0 i = (f, c)) : clc S j d f0 (i + 1) = (f, c) := by
  rw [clc, if_neg h, he]
theorem clc_yes {S : zS} {j d i : Nat} {f0 f r : Nat → Int32} {c : Nat} (h : S.1 15 i = 0 ∧ S.2.1 11 i = nI (S.1 3 j) ∧ ¬ nI d < S.2.1 14 i) (he : clc S j d f0 i = (f, c)) (hr : insAt (vl S j d i) c f = r) : clc S j d f0 (i + 1) = (r, c + 1) := by
  rw [clc, if_pos h, he, ← hr]
theorem z_nl {a b : Int32} (c : a ≤ b) : ¬ b < a := fun h => by rw [i_le] at c; rw [i_lt] at h; omega
theorem z_lg {a b : Int32} (c : ¬ a ≤ b) : b < a := by rw [i_le] at c; rw [i_lt]; omega
theorem nI_dec (a : Nat) : nI (a + 1) + Int32.ofInt (-1) = nI a := by rw [nI_m1, nI_pred]
theorem clc_le (S : zS) (j d : Nat) (f : Nat → Int32) : ∀ n, (clc S j d f n).2 ≤ n
  | 0 => Nat.le_refl 0
  | n + 1 => by
    have ih := clc_le S j d f n
    by_cases h : S.1 15 n = 0 ∧ S.2.1 11 n = nI (S.1 3 j) ∧ ¬ nI d < S.2.1 14 n
    · rw [clc, if_pos h]; exact Nat.succ_le_succ ih
    · rw [clc, if_neg h]; exact Nat.le_succ_of_le ih
theorem insAt_agree (v : Int32) : ∀ (k : Nat) (f g : Nat → Int32) (n : Nat), k ≤ n → (∀ i, i < k → f i = g i) → (∀ i, k < i → i ≤ n → f i = g i) → ∀ i, i ≤ n → insAt v k f i = insAt v k g i
  | 0, f, g, n, _, _, h2, i, hi => by
    show upd f 0 v i = upd g 0 v i
    by_cases h0 : i = 0
    · simp [upd, h0]
    · simp only [upd, if_neg h0]; exact h2 i (by omega) hi
  | k + 1, f, g, n, hk, h1, h2, i, hi => by
    have hfg : f k = g k := h1 k (by omega)
    by_cases hv : v < f k
    · rw [insAt, if_pos hv, insAt, if_pos (by rw [← hfg]; exact hv)]
      refine insAt_agree v k _ _ n (by omega) (fun a ha => ?_) (fun a ha hb => ?_) i hi
      · simp only [upd, if_neg (show ¬ a = k + 1 by omega)]; exact h1 a (by omega)
      · by_cases hak : a = k + 1
        · simp only [upd, if_pos hak]; exact hfg
        · simp only [upd, if_neg hak]; exact h2 a (by omega) hb
    · rw [insAt, if_neg hv, insAt, if_neg (by rw [← hfg]; exact hv)]
      by_cases hak : i = k + 1
      · simp only [upd, if_pos hak]
      · simp only [upd, if_neg hak]
        rcases Nat.lt_or_ge i (k + 1) with q | q
        · exact h1 i q
        · exact h2 i (by omega) hi
theorem clc_agree (S : zS) (j d : Nat) (f g : Nat → Int32) : ∀ n, (clc S j d f n).2 = (clc S j d g n).2 ∧ ∀ k, k < (clc S j d f n).2 → (clc S j d f n).1 k = (clc S j d g n).1 k
  | 0 => ⟨rfl, fun k h => absurd h (Nat.not_lt_zero k)⟩
  | n + 1 => by
    obtain ⟨e1, e2⟩ := clc_agree S j d f g n
    by_cases h : S.1 15 n = 0 ∧ S.2.1 11 n = nI (S.1 3 j) ∧ ¬ nI d < S.2.1 14 n
    · rw [clc, if_pos h, clc, if_pos h]
      refine ⟨by show _ + 1 = _ + 1; rw [e1], fun k hk => ?_⟩
      show insAt _ _ _ k = insAt _ _ _ k
      have hk' : k < (clc S j d f n).2 + 1 := hk
      rw [← e1]
      exact insAt_agree _ _ _ _ (clc S j d f n).2 (Nat.le_refl _) e2 (fun i h1 h2 => absurd h1 (by omega)) k (by omega)
    · rw [clc, if_neg h, clc, if_neg h]
      exact ⟨e1, e2⟩
theorem h0_z {S : zS} {j d : Nat} (f : Nat → Int32) (h : (clc S j d f (S.1 10 0)).2 = 0) : (0 : Int32) = h0 S j d := by
  rw [h0, if_pos (by rw [hcnt, ← (clc_agree S j d f (fun _ => 0) (S.1 10 0)).1]; exact h)]
theorem h0_n {S : zS} {j d : Nat} (f : Nat → Int32) (h : ¬ (clc S j d f (S.1 10 0)).2 = 0) : (clc S j d f (S.1 10 0)).1 (((clc S j d f (S.1 10 0)).2 - 1) / 2) = h0 S j d := by
  obtain ⟨e1, e2⟩ := clc_agree S j d f (fun _ => 0) (S.1 10 0)
  rw [h0, if_neg (by rw [hcnt, ← e1]; exact h), hcnt, ← e1]
  exact e2 _ (by omega)
theorem h1_n {S : zS} {j d : Nat} (c : ¬ 0 ≤ h0 S j d) : (0 : Int32) = h1 S j d := by rw [h1, if_pos (z_lg c)]
theorem h1_p {S : zS} {j d : Nat} (c : 0 ≤ h0 S j d) : -(lw S d (S.1 3 j) * h0 S j d / 100) = h1 S j d := by rw [h1, if_neg (z_nl c)]
theorem h2_e {S : zS} {j d : Nat} : -lw S d 4 * S.2.1 6 j = h2 S j d := by rw [h2, Int32.neg_mul]
theorem hf_ix {c : Nat} (h : c < 1000) (hc : ¬ c = 0) : (nI c - 1) / 2 = nI ((c - 1) / 2) := by
  rw [nI_sub1 (by omega)]
  exact pk_div (d := 2) (by omega) (by decide) (by decide)
theorem hv_k {z : Int32} {w : Nat} (hw : w ≤ 4) (hz : z = nI w) {k : Nat} (hk : k ≤ 4) (c : z = nI k) : w = k := nI_inj (by omega) (by omega) (hz.symm.trans c)
theorem hv_0 {S : zS} {j d w : Nat} {z : Int32} (hw : w ≤ 4) (hz : z = nI w) (c : z = 0) : some (Value.int (h0 S j d)) = some (.int (hv S j d w)) := by
  have h := hv_k hw hz (k := 0) (by decide) c
  subst h; rfl
theorem hv_1 {S : zS} {j d w : Nat} {z : Int32} (hw : w ≤ 4) (hz : z = nI w) (c : z = 1) : some (Value.int (h1 S j d)) = some (.int (hv S j d w)) := by
  have h := hv_k hw hz (k := 1) (by decide) c
  subst h; rfl
theorem hv_2 {S : zS} {j d w : Nat} {z : Int32} (hw : w ≤ 4) (hz : z = nI w) (c : z = 2) : some (Value.int (h2 S j d)) = some (.int (hv S j d w)) := by
  have h := hv_k hw hz (k := 2) (by decide) c
  subst h; rfl
theorem hv_3a {S : zS} {j d w : Nat} {z : Int32} (hw : w ≤ 4) (hz : z = nI w) (c : z = 3) (c2 : ¬ 1 ≤ h0 S j d + h1 S j d + h2 S j d) : some (Value.int 1) = some (.int (hv S j d w)) := by
  have h := hv_k hw hz (k := 3) (by decide) c
  subst h
  show _ = some (Value.int (h3 S j d))
  rw [h3, if_neg (fun q => c2 (by rw [i_le]; rw [i_lt] at q; omega))]
theorem hv_3b {S : zS} {j d w : Nat} {z : Int32} (hw : w ≤ 4) (hz : z = nI w) (c : z = 3) (c2 : 1 ≤ h0 S j d + h1 S j d + h2 S j d) : some (Value.int (h0 S j d + h1 S j d + h2 S j d)) = some (.int (hv S j d w)) := by
  have h := hv_k hw hz (k := 3) (by decide) c
  subst h
  show _ = some (Value.int (h3 S j d))
  by_cases q : 1 < h0 S j d + h1 S j d + h2 S j d
  · rw [h3, if_pos q]
  · rw [h3, if_neg q]
    have e : h0 S j d + h1 S j d + h2 S j d = 1 := by
      apply Int32.toInt_inj.mp
      rw [i_le] at c2; rw [i_lt] at q; omega
    rw [e]
theorem hv_4 {S : zS} {j d w : Nat} {z : Int32} (f : Nat → Int32) (hw : w ≤ 4) (hz : z = nI w) (c0 : ¬ z = 0) (c1 : ¬ z = 1) (c2 : ¬ z = 2) (c3 : ¬ z = 3) : some (Value.int (nI (clc S j d f (S.1 10 0)).2)) = some (.int (hv S j d w)) := by
  have h : w = 4 := by
    have a0 : ¬ w = 0 := fun q => c0 (by rw [hz, q]; rfl)
    have a1 : ¬ w = 1 := fun q => c1 (by rw [hz, q]; rfl)
    have a2 : ¬ w = 2 := fun q => c2 (by rw [hz, q]; rfl)
    have a3 : ¬ w = 3 := fun q => c3 (by rw [hz, q]; rfl)
    omega
  subst h
  show _ = some (Value.int (nI (hcnt S j d)))
  rw [hcnt, (clc_agree S j d f (fun _ => 0) (S.1 10 0)).1]
theorem latS_some {S : zS} {j e : Nat} : ∀ {n : Nat}, latS S j n = some e → e < n ∧ S.1 21 e = j ∧ S.1 26 e = 0
  | 0, h => by cases h
  | n + 1, h => by
    rw [latS] at h
    by_cases c : S.1 21 n = j ∧ S.1 26 n = 0
    · rw [if_pos c] at h
      have h2 : n = e := Option.some.inj h
      rw [← h2]
      exact ⟨Nat.lt_succ_self n, c⟩
    · rw [if_neg c] at h
      obtain ⟨a, b⟩ := latS_some h
      exact ⟨Nat.lt_succ_of_lt a, b⟩
theorem lat_some {S : zS} {j e : Nat} (h : lat S j = some e) : e < S.1 20 0 ∧ S.1 21 e = j ∧ S.1 26 e = 0 := latS_some h
theorem op_t {t b : Int32} (c : t ≤ b) : some (Value.int b) = some (.int (if t < b then b else t)) := by
  by_cases q : t < b
  · rw [if_pos q]
  · rw [if_neg q]
    have e : t = b := by apply Int32.toInt_inj.mp; rw [i_le] at c; rw [i_lt] at q; omega
    rw [e]
theorem op_f {t b : Int32} (c : ¬ t ≤ b) : some (Value.int t) = some (.int (if t < b then b else t)) := by
  rw [if_neg (fun q => c (by rw [i_le]; rw [i_lt] at q; omega))]
theorem ap_t {t d : Nat} (w2 : d ≤ t) (k0 : t ≤ 300) (c : nI t - nI d ≤ 5) : ¬ d + 5 < t := by
  rw [pk_sub w2] at c
  have := (nI_leI (by omega) (by decide)).mp (show nI (t - d) ≤ nI 5 from c)
  omega
theorem ap_f {t d : Nat} (w2 : d ≤ t) (k0 : t ≤ 300) (c : ¬ nI t - nI d ≤ 5) : d + 5 < t := by
  rw [pk_sub w2] at c
  have : ¬ t - d ≤ 5 := fun q => c (nI_le q (by decide))
  omega
theorem bar_n {S : zS} {j : Nat} (h : lat S j = none) : (0 : Int32) = bar S j := by unfold bar; rw [h]
theorem bar_s {S : zS} {j e : Nat} (h : lat S j = some e) : nI (S.1 22 e) + lw S (S.1 22 e) 6 = bar S j := by unfold bar; rw [h]
end
section
set_option maxHeartbeats 4000000 in
set_option maxRecDepth 100000 in
theorem c_X10_collect (l : Launch) (D : va_G) (cT : Nat → ClassId) (G : zG) (sz : Nat) (S : zS) (X : Nat → Nat) (cz : Int32) (f27 f29 : Nat → Int32) (nn : Nat) (x y : Int32) (j d : Nat) (hM : MD cT S X cz f27 f29 G) (hXI : XI X) (hS : ok S nn) (hj : j < S.1 1 0) (hxj : x = nI j) (hd : d ≤ 300) (hyd : y = nI d) : zM l D cT yX10_collect wsX10_collect (zR 2 0 0) [.ref (X 0), .int x, .int y] G sz (fun r G' => MD cT S X (nI (clc S j d f27 (S.1 10 0)).2) (clc S j d f27 (S.1 10 0)).1 f29 G' ∧ r = none) := by
  refine z_start (cc := cX10_collect) (maxL := 6) (ret := none) (by decide) rfl (Nat.le_of_ble_eq_true rfl) ?_
  intro p e s m below meth c ls hI hZ hl
  obtain ⟨hx, hb, hr, hml, hts, hown, hlocks, hname, hK, hA, hE⟩ := hI
  have hl : lv_has ls 6 [(0, .ref (X 0)), (1, .int x), (2, .int y)] := hl
  have hown : s.vm.findClass RX10 = some m.cls := hown
  have in_X10 : ∀ w ∈ u_ws RX10 TX10 30, w ∈ wsX10_collect := by decide +kernel
  have fl_13 := hts (.fieldLink RX10 13 "FairRentsModel" "area" "[I") (by decide +kernel)
  have fl_32 := hts (.fieldLink RX10 32 "FairRentsModel" "likeArea" "[I") (by decide +kernel)
  have fl_35 := hts (.fieldLink RX10 35 "FairRentsModel" "likePoints" "[I") (by decide +kernel)
  have fl_38 := hts (.fieldLink RX10 38 "FairRentsModel" "likeRent" "[I") (by decide +kernel)
  have fl_41 := hts (.fieldLink RX10 41 "FairRentsModel" "likeDay" "[I") (by decide +kernel)
  have fl_44 := hts (.fieldLink RX10 44 "FairRentsModel" "isStruck" "[Z") (by decide +kernel)
  have fl_77 := hts (.fieldLink RX10 77 "FairRentsModel" "right" "[I") (by decide +kernel)
  have fl_117 := hts (.fieldLink RX10 117 "FairRentsModel" "likes" "I") (by decide +kernel)
  have fl_120 := hts (.fieldLink RX10 120 "FairRentsModel" "counted" "I") (by decide +kernel)
  obtain ⟨m0, m2, m3, m4, m5, m6, m8, m9, m11, m12, m13, m14, m15, m16, m17, m18, m19, m21, m22, m23, m24, m25, m26, m27, m29⟩ := id hM
  obtain ⟨⟨k1, k10, k20, k0⟩, kH, k9, k8, k15, k26, kL, kLn, kP, kE, kEm, kn⟩ := id hS
  refine lv_aload_n hx hb dX10_collect_0 rfl (lv_at hl 0 rfl) ?_
  refine lv_iconst (v := 0) hx hb dX10_collect_1 (by decide) ?_
  refine z_put (ci := 10) (fs := [.int (nI (S.1 0 0)), .int (nI (S.1 1 0)), .ref (X 2), .ref (X 3), .ref (X 4), .ref (X 5), .ref (X 6), .long S.2.2, .ref (X 8), .ref (X 9), .int (nI (S.1 10 0)), .ref (X 11), .ref (X 12), .ref (X 13), .ref (X 14), .ref (X 15), .ref (X 16), .ref (X 17), .ref (X 18), .ref (X 19), .int (nI (S.1 20 0)), .ref (X 21), .ref (X 22), .ref (X 23), .ref (X 24), .ref (X 25), .ref (X 26), .ref (X 27), .int cz, .ref (X 29)]) (fs' := [.int (nI (S.1 0 0)), .int (nI (S.1 1 0)), .ref (X 2), .ref (X 3), .ref (X 4), .ref (X 5), .ref (X 6), .long S.2.2, .ref (X 8), .ref (X 9), .int (nI (S.1 10 0)), .ref (X 11), .ref (X 12), .ref (X 13), .ref (X 14), .ref (X 15), .ref (X 16), .ref (X 17), .ref (X 18), .ref (X 19), .int (nI (S.1 20 0)), .ref (X 21), .ref (X 22), .ref (X 23), .ref (X 24), .ref (X 25), .ref (X 26), .ref (X 27), .int 0, .ref (X 29)]) (v := .int 0) (ty := .int) (C := RX10) (T := TX10) (N := 30) hx hb hts in_X10 tyX10 tyX10_ok nmX10 hown hK hZ m0 rfl 28 (by decide) fl_120 (fun _ h9 => h9) rfl (by decide +kernel) rfl rfl (Nat.le_of_ble_eq_true rfl) rfl dX10_collect_2 (fun H locs hZ => ?_)
  refine lv_iconst (v := 0) hx hb dX10_collect_5 (by decide) ?_
  refine lv_istore_n (lv' := [(3, .int 0), (0, .ref (X 0)), (1, .int x), (2, .int y)]) hx hb dX10_collect_6 rfl hl (by decide) rfl (fun ls hl => ?_)
  have loop7 : ∀ (q i c2 : Nat) (f : Nat → Int32) (G1 : zG) (hq : i + q = S.1 10 0) (hM1 : MD cT S X (nI c2) f f29 G1) (hc : c2 ≤ i) (he : clc S j d f27 i = (f, c2)) (H : Heap) (locs : List Loc) (ls : Array Slot), zW D (zA G sz) s.heap G1 H locs → lv_has ls 6 [(3, .int (nI i)), (0, .ref (X 0)), (1, .int x), (2, .int y)] → W p l e (zR 2 0 0) s m ([.ref (X 0), .int x, .int y] : List Value).toArray below meth c H locs 0 0 (MQ below (zQ D G sz (fun r G' => MD cT S X (nI (clc S j d f27 (S.1 10 0)).2) (clc S j d f27 (S.1 10 0)).1 f29 G' ∧ r = none)) ([.ref (X 0), .int x, .int y] : List Value).toArray s 0 0 (zA G sz)) (F0 m 7 ls []) := by
    intro q
    induction q with
    | zero =>
      intro i c2 f G1 hq hM1 hc he H locs ls hZ hl
      obtain ⟨m0, m2, m3, m4, m5, m6, m8, m9, m11, m12, m13, m14, m15, m16, m17, m18, m19, m21, m22, m23, m24, m25, m26, m27, m29⟩ := id hM1
      refine lv_iload_n hx hb dX10_collect_7 rfl (lv_at hl 0 rfl) ?_
      refine lv_aload_n hx hb dX10_collect_8 rfl (lv_at hl 1 rfl) ?_
      refine z_get (ci := 10) (fs := [.int (nI (S.1 0 0)), .int (nI (S.1 1 0)), .ref (X 2), .ref (X 3), .ref (X 4), .ref (X 5), .ref (X 6), .long S.2.2, .ref (X 8), .ref (X 9), .int (nI (S.1 10 0)), .ref (X 11), .ref (X 12), .ref (X 13), .ref (X 14), .ref (X 15), .ref (X 16), .ref (X 17), .ref (X 18), .ref (X 19), .int (nI (S.1 20 0)), .ref (X 21), .ref (X 22), .ref (X 23), .ref (X 24), .ref (X 25), .ref (X 26), .ref (X 27), .int (nI c2), .ref (X 29)]) (C := RX10) (T := TX10) (N := 30) hx hb hts in_X10 hown hK hZ m0 rfl 10 (by decide) fl_117 (fun _ h9 => h9) rfl dX10_collect_9 ?_
      refine lv_icmp_ge (tgt := 149) hx hb dX10_collect_12 (by decide) (fun _ => ?_) (fun c12 => absurd (nI_le (by omega) (by omega)) c12)
      exact z_vret hx hb hr hlocks hZ dX10_collect_149 (by rw [show S.1 10 0 = i by omega, he]; exact ⟨hM1, rfl⟩)
    | succ q ih7 =>
      intro i c2 f G1 hq hM1 hc he H locs ls hZ hl
      obtain ⟨m0, m2, m3, m4, m5, m6, m8, m9, m11, m12, m13, m14, m15, m16, m17, m18, m19, m21, m22, m23, m24, m25, m26, m27, m29⟩ := id hM1
      refine lv_iload_n hx hb dX10_collect_7 rfl (lv_at hl 0 rfl) ?_
      refine lv_aload_n hx hb dX10_collect_8 rfl (lv_at hl 1 rfl) ?_
      refine z_get (ci := 10) (fs := [.int (nI (S.1 0 0)), .int (nI (S.1 1 0)), .ref (X 2), .ref (X 3), .ref (X 4), .ref (X 5), .ref (X 6), .long S.2.2, .ref (X 8), .ref (X 9), .int (nI (S.1 10 0)), .ref (X 11), .ref (X 12), .ref (X 13), .ref (X 14), .ref (X 15), .ref (X 16), .ref (X 17), .ref (X 18), .ref (X 19), .int (nI (S.1 20 0)), .ref (X 21), .ref (X 22), .ref (X 23), .ref (X 24), .ref (X 25), .ref (X 26), .ref (X 27), .int (nI c2), .ref (X 29)]) (C := RX10) (T := TX10) (N := 30) hx hb hts in_X10 hown hK hZ m0 rfl 10 (by decide) fl_117 (fun _ h9 => h9) rfl dX10_collect_9 ?_
      refine lv_icmp_ge (tgt := 149) hx hb dX10_collect_12 (by decide) (fun c12 => absurd c12 (nI_ge (by omega) (by omega))) (fun _ => ?_)
      refine lv_aload_n hx hb dX10_collect_15 rfl (lv_at hl 1 rfl) ?_
      refine z_get (ci := 10) (fs := [.int (nI (S.1 0 0)), .int (nI (S.1 1 0)), .ref (X 2), .ref (X 3), .ref (X 4), .ref (X 5), .ref (X 6), .long S.2.2, .ref (X 8), .ref (X 9), .int (nI (S.1 10 0)), .ref (X 11), .ref (X 12), .ref (X 13), .ref (X 14), .ref (X 15), .ref (X 16), .ref (X 17), .ref (X 18), .ref (X 19), .int (nI (S.1 20 0)), .ref (X 21), .ref (X 22), .ref (X 23), .ref (X 24), .ref (X 25), .ref (X 26), .ref (X 27), .int (nI c2), .ref (X 29)]) (C := RX10) (T := TX10) (N := 30) hx hb hts in_X10 hown hK hZ m0 rfl 11 (by decide) fl_32 (fun _ h9 => h9) rfl dX10_collect_16 ?_
      refine lv_iload_n hx hb dX10_collect_19 rfl (lv_at hl 0 rfl) ?_
      refine z_iald hx hb hK hZ m11 i rfl (by omega) (by decide) dX10_collect_20 ?_
      refine lv_aload_n hx hb dX10_collect_21 rfl (lv_at hl 1 rfl) ?_
      refine z_get (ci := 10) (fs := [.int (nI (S.1 0 0)), .int (nI (S.1 1 0)), .ref (X 2), .ref (X 3), .ref (X 4), .ref (X 5), .ref (X 6), .long S.2.2, .ref (X 8), .ref (X 9), .int (nI (S.1 10 0)), .ref (X 11), .ref (X 12), .ref (X 13), .ref (X 14), .ref (X 15), .ref (X 16), .ref (X 17), .ref (X 18), .ref (X 19), .int (nI (S.1 20 0)), .ref (X 21), .ref (X 22), .ref (X 23), .ref (X 24), .ref (X 25), .ref (X 26), .ref (X 27), .int (nI c2), .ref (X 29)]) (C := RX10) (T := TX10) (N := 30) hx hb hts in_X10 hown hK hZ m0 rfl 3 (by decide) fl_13 (fun _ h9 => h9) rfl dX10_collect_22 ?_
      refine lv_iload_n hx hb dX10_collect_25 rfl (lv_at hl 2 rfl) ?_
      refine z_iald hx hb hK hZ m3 j hxj (by omega) (by decide) dX10_collect_26 ?_
      refine lv_icmp_ne (tgt := 143) hx hb dX10_collect_27 (by decide) (fun c27 => ?_) (fun c27 => ?_)
      · refine lv_iinc (v := nI (i + 1)) (lv' := [(3, .int (nI (i + 1))), (0, .ref (X 0)), (1, .int x), (2, .int y)]) hx hb dX10_collect_143 hl (k := 0) rfl (nI_1 i) (by decide) rfl (fun ls hl => ?_)
        refine lv_goto (tgt := 7) hx hb dX10_collect_146 (by decide) ?_
        exact ih7 (i + 1) c2 f _ (by omega) hM1 (by omega) (clc_no (fun h => c27 h.2.1) he) _ _ _ hZ (lv_sub hl [0, 1, 2, 3] rfl)
      · refine lv_aload_n hx hb dX10_collect_30 rfl (lv_at hl 1 rfl) ?_
        refine z_get (ci := 10) (fs := [.int (nI (S.1 0 0)), .int (nI (S.1 1 0)), .ref (X 2), .ref (X 3), .ref (X 4), .ref (X 5), .ref (X 6), .long S.2.2, .ref (X 8), .ref (X 9), .int (nI (S.1 10 0)), .ref (X 11), .ref (X 12), .ref (X 13), .ref (X 14), .ref (X 15), .ref (X 16), .ref (X 17), .ref (X 18), .ref (X 19), .int (nI (S.1 20 0)), .ref (X 21), .ref (X 22), .ref (X 23), .ref (X 24), .ref (X 25), .ref (X 26), .ref (X 27), .int (nI c2), .ref (X 29)]) (C := RX10) (T := TX10) (N := 30) hx hb hts in_X10 hown hK hZ m0 rfl 14 (by decide) fl_41 (fun _ h9 => h9) rfl dX10_collect_31 ?_
        refine lv_iload_n hx hb dX10_collect_34 rfl (lv_at hl 0 rfl) ?_
        refine z_iald hx hb hK hZ m14 i rfl (by omega) (by decide) dX10_collect_35 ?_
        refine lv_iload_n hx hb dX10_collect_36 rfl (lv_at hl 3 rfl) ?_
        refine lv_icmp_gt (tgt := 143) hx hb dX10_collect_37 (by decide) (fun c37 => ?_) (fun c37 => ?_)
        · refine lv_iinc (v := nI (i + 1)) (lv' := [(3, .int (nI (i + 1))), (0, .ref (X 0)), (1, .int x), (2, .int y)]) hx hb dX10_collect_143 hl (k := 0) rfl (nI_1 i) (by decide) rfl (fun ls hl => ?_)
          refine lv_goto (tgt := 7) hx hb dX10_collect_146 (by decide) ?_
          exact ih7 (i + 1) c2 f _ (by omega) hM1 (by omega) (clc_no (fun h => h.2.2 (by rw [← hyd]; exact c37)) he) _ _ _ hZ (lv_sub hl [0, 1, 2, 3] rfl)
        · refine lv_aload_n hx hb dX10_collect_40 rfl (lv_at hl 1 rfl) ?_
          refine z_get (ci := 10) (fs := [.int (nI (S.1 0 0)), .int (nI (S.1 1 0)), .ref (X 2), .ref (X 3), .ref (X 4), .ref (X 5), .ref (X 6), .long S.2.2, .ref (X 8), .ref (X 9), .int (nI (S.1 10 0)), .ref (X 11), .ref (X 12), .ref (X 13), .ref (X 14), .ref (X 15), .ref (X 16), .ref (X 17), .ref (X 18), .ref (X 19), .int (nI (S.1 20 0)), .ref (X 21), .ref (X 22), .ref (X 23), .ref (X 24), .ref (X 25), .ref (X 26), .ref (X 27), .int (nI c2), .ref (X 29)]) (C := RX10) (T := TX10) (N := 30) hx hb hts in_X10 hown hK hZ m0 rfl 15 (by decide) fl_44 (fun _ h9 => h9) rfl dX10_collect_41 ?_
          refine lv_iload_n hx hb dX10_collect_44 rfl (lv_at hl 0 rfl) ?_
          refine z_zald hx hb hK hZ m15 i rfl (by omega) (by decide) dX10_collect_45 ?_
          refine lv_if_ne (tgt := 143) hx hb dX10_collect_46 (by decide) (fun c46 => ?_) (fun c46 => ?_)
          · refine lv_iinc (v := nI (i + 1)) (lv' := [(3, .int (nI (i + 1))), (0, .ref (X 0)), (1, .int x), (2, .int y)]) hx hb dX10_collect_143 hl (k := 0) rfl (nI_1 i) (by decide) rfl (fun ls hl => ?_)
            refine lv_goto (tgt := 7) hx hb dX10_collect_146 (by decide) ?_
            exact ih7 (i + 1) c2 f _ (by omega) hM1 (by omega) (clc_no (fun h => c46 (by show nI _ = 0; rw [h.1]; rfl)) he) _ _ _ hZ (lv_sub hl [0, 1, 2, 3] rfl)
          · refine lv_aload_n hx hb dX10_collect_49 rfl (lv_at hl 1 rfl) ?_
            refine z_get (ci := 10) (fs := [.int (nI (S.1 0 0)), .int (nI (S.1 1 0)), .ref (X 2), .ref (X 3), .ref (X 4), .ref (X 5), .ref (X 6), .long S.2.2, .ref (X 8), .ref (X 9), .int (nI (S.1 10 0)), .ref (X 11), .ref (X 12), .ref (X 13), .ref (X 14), .ref (X 15), .ref (X 16), .ref (X 17), .ref (X 18), .ref (X 19), .int (nI (S.1 20 0)), .ref (X 21), .ref (X 22), .ref (X 23), .ref (X 24), .ref (X 25), .ref (X 26), .ref (X 27), .int (nI c2), .ref (X 29)]) (C := RX10) (T := TX10) (N := 30) hx hb hts in_X10 hown hK hZ m0 rfl 13 (by decide) fl_38 (fun _ h9 => h9) rfl dX10_collect_50 ?_
            refine lv_iload_n hx hb dX10_collect_53 rfl (lv_at hl 0 rfl) ?_
            refine z_iald hx hb hK hZ m13 i rfl (by omega) (by decide) dX10_collect_54 ?_
            refine lv_aload_n hx hb dX10_collect_55 rfl (lv_at hl 1 rfl) ?_
            refine lv_iload_n hx hb dX10_collect_56 rfl (lv_at hl 3 rfl) ?_
            refine lv_iconst (v := 3) hx hb dX10_collect_57 (by decide) ?_
            refine z_call (va_runV (As := [.int y, .int 3]) (rest := [.int (S.2.1 13 i)]) ⟨hx, hb, hml, hown, hts⟩ (c_X10_lawOf l D cT _ _ S X _ _ _ nn y 3 d 3 hM1 hXI hS (by omega) hyd (by decide) rfl) (cwV 2 hts gX10_collect_X10_lawOf rfl rfl rfl (by decide +kernel) ⟨(Nat.le_of_ble_eq_true rfl), (Nat.le_of_ble_eq_true rfl)⟩) (z_preV hK hE hZ hA (ci := 10) rfl m0) rfl rfl hl.1 rfl (lv_room (Nat.le_of_ble_eq_true rfl)) dX10_collect_58 ⟨(Nat.le_of_ble_eq_true rfl), (Nat.le_of_ble_eq_true rfl)⟩) hZ hA (fun r G58 H locs hq hZ => ?_)
            obtain ⟨hg, rfl⟩ := hq
            replace hg := hg.symm
            subst hg
            refine W.eq (g2 := F0 m 61 ls [.int (lw S d 3), .int (S.2.1 13 i)]) rfl ?_
            refine lv_aload_n hx hb dX10_collect_61 rfl (lv_at hl 1 rfl) ?_
            refine lv_iload_n hx hb dX10_collect_62 rfl (lv_at hl 2 rfl) ?_
            refine z_call (va_runV (As := [.int x]) (rest := [.int (lw S d 3), .int (S.2.1 13 i)]) ⟨hx, hb, hml, hown, hts⟩ (c_X10_pointsOf l D cT _ _ S X _ _ _ nn x j hM1 hXI hS hj hxj) (cwV 1 hts gX10_collect_X10_pointsOf rfl rfl rfl (by decide +kernel) ⟨(Nat.le_of_ble_eq_true rfl), (Nat.le_of_ble_eq_true rfl)⟩) (z_preV hK hE hZ hA (ci := 10) rfl m0) rfl rfl hl.1 rfl (lv_room (Nat.le_of_ble_eq_true rfl)) dX10_collect_63 ⟨(Nat.le_of_ble_eq_true rfl), (Nat.le_of_ble_eq_true rfl)⟩) hZ hA (fun r G63 H locs hq hZ => ?_)
            obtain ⟨hg, rfl⟩ := hq
            replace hg := hg.symm
            subst hg
            refine W.eq (g2 := F0 m 66 ls [.int (pts S j), .int (lw S d 3), .int (S.2.1 13 i)]) rfl ?_
            refine lv_aload_n hx hb dX10_collect_66 rfl (lv_at hl 1 rfl) ?_
            refine z_get (ci := 10) (fs := [.int (nI (S.1 0 0)), .int (nI (S.1 1 0)), .ref (X 2), .ref (X 3), .ref (X 4), .ref (X 5), .ref (X 6), .long S.2.2, .ref (X 8), .ref (X 9), .int (nI (S.1 10 0)), .ref (X 11), .ref (X 12), .ref (X 13), .ref (X 14), .ref (X 15), .ref (X 16), .ref (X 17), .ref (X 18), .ref (X 19), .int (nI (S.1 20 0)), .ref (X 21), .ref (X 22), .ref (X 23), .ref (X 24), .ref (X 25), .ref (X 26), .ref (X 27), .int (nI c2), .ref (X 29)]) (C := RX10) (T := TX10) (N := 30) hx hb hts in_X10 hown hK hZ m0 rfl 12 (by decide) fl_35 (fun _ h9 => h9) rfl dX10_collect_67 ?_
            refine lv_iload_n hx hb dX10_collect_70 rfl (lv_at hl 0 rfl) ?_
            refine z_iald hx hb hK hZ m12 i rfl (by omega) (by decide) dX10_collect_71 ?_
            refine lv_isub hx hb dX10_collect_72 ?_
            refine lv_imul hx hb dX10_collect_73 ?_
            refine lv_iadd hx hb dX10_collect_74 ?_
            refine W.eq (congrArg (fun v => F0 m 75 ls (.int v :: [])) rfl) ?_
            refine W.eq (g2 := F0 m 75 ls [.int (vl S j d i)]) rfl ?_
            refine lv_istore (lv' := [(4, .int (vl S j d i)), (3, .int (nI i)), (0, .ref (X 0)), (1, .int x), (2, .int y)]) hx hb dX10_collect_75 hl (by decide) rfl (fun ls hl => ?_)
            refine lv_aload_n hx hb dX10_collect_77 rfl (lv_at hl 2 rfl) ?_
            refine z_get (ci := 10) (fs := [.int (nI (S.1 0 0)), .int (nI (S.1 1 0)), .ref (X 2), .ref (X 3), .ref (X 4), .ref (X 5), .ref (X 6), .long S.2.2, .ref (X 8), .ref (X 9), .int (nI (S.1 10 0)), .ref (X 11), .ref (X 12), .ref (X 13), .ref (X 14), .ref (X 15), .ref (X 16), .ref (X 17), .ref (X 18), .ref (X 19), .int (nI (S.1 20 0)), .ref (X 21), .ref (X 22), .ref (X 23), .ref (X 24), .ref (X 25), .ref (X 26), .ref (X 27), .int (nI c2), .ref (X 29)]) (C := RX10) (T := TX10) (N := 30) hx hb hts in_X10 hown hK hZ m0 rfl 28 (by decide) fl_120 (fun _ h9 => h9) rfl dX10_collect_78 ?_
            refine lv_istore (lv' := [(5, .int (nI c2)), (4, .int (vl S j d i)), (3, .int (nI i)), (0, .ref (X 0)), (1, .int x), (2, .int y)]) hx hb dX10_collect_81 hl (by decide) rfl (fun ls hl => ?_)
            have loop83 : ∀ (a : Nat) (f2 : Nat → Int32) (G2 : zG) (hM2 : MD cT S X (nI c2) f2 f29 G2) (ha : a ≤ c2) (hi2 : insAt (vl S j d i) a f2 = insAt (vl S j d i) c2 f) (H : Heap) (locs : List Loc) (ls : Array Slot), zW D (zA G sz) s.heap G2 H locs → lv_has ls 6 [(5, .int (nI a)), (4, .int (vl S j d i)), (3, .int (nI i)), (0, .ref (X 0)), (1, .int x), (2, .int y)] → W p l e (zR 2 0 0) s m ([.ref (X 0), .int x, .int y] : List Value).toArray below meth c H locs 0 0 (MQ below (zQ D G sz (fun r G' => MD cT S X (nI (clc S j d f27 (S.1 10 0)).2) (clc S j d f27 (S.1 10 0)).1 f29 G' ∧ r = none)) ([.ref (X 0), .int x, .int y] : List Value).toArray s 0 0 (zA G sz)) (F0 m 83 ls []) := by
              intro a
              induction a with
              | zero =>
                intro f2 G2 hM2 ha hi2 H locs ls hZ hl
                obtain ⟨m0, m2, m3, m4, m5, m6, m8, m9, m11, m12, m13, m14, m15, m16, m17, m18, m19, m21, m22, m23, m24, m25, m26, m27, m29⟩ := id hM2
                refine lv_iload hx hb dX10_collect_83 (lv_at hl 0 rfl) ?_
                refine lv_if_le (tgt := 124) hx hb dX10_collect_85 (by decide) (fun _ => ?_) (fun c85 => absurd (show nI 0 ≤ 0 by decide) c85)
                refine lv_aload_n hx hb dX10_collect_124 rfl (lv_at hl 3 rfl) ?_
                refine z_get (ci := 10) (fs := [.int (nI (S.1 0 0)), .int (nI (S.1 1 0)), .ref (X 2), .ref (X 3), .ref (X 4), .ref (X 5), .ref (X 6), .long S.2.2, .ref (X 8), .ref (X 9), .int (nI (S.1 10 0)), .ref (X 11), .ref (X 12), .ref (X 13), .ref (X 14), .ref (X 15), .ref (X 16), .ref (X 17), .ref (X 18), .ref (X 19), .int (nI (S.1 20 0)), .ref (X 21), .ref (X 22), .ref (X 23), .ref (X 24), .ref (X 25), .ref (X 26), .ref (X 27), .int (nI c2), .ref (X 29)]) (C := RX10) (T := TX10) (N := 30) hx hb hts in_X10 hown hK hZ m0 rfl 27 (by decide) fl_77 (fun _ h9 => h9) rfl dX10_collect_125 ?_
                refine lv_iload hx hb dX10_collect_128 (lv_at hl 0 rfl) ?_
                refine lv_iload hx hb dX10_collect_130 (lv_at hl 1 rfl) ?_
                refine z_iast hx hb hK hZ m27 0 rfl (by decide) (by decide) dX10_collect_132 (fun H locs hZ => ?_)
                refine lv_aload_n hx hb dX10_collect_133 rfl (lv_at hl 3 rfl) ?_
                refine lv_dup hx hb dX10_collect_134 rfl ?_
                refine z_get (ci := 10) (fs := [.int (nI (S.1 0 0)), .int (nI (S.1 1 0)), .ref (X 2), .ref (X 3), .ref (X 4), .ref (X 5), .ref (X 6), .long S.2.2, .ref (X 8), .ref (X 9), .int (nI (S.1 10 0)), .ref (X 11), .ref (X 12), .ref (X 13), .ref (X 14), .ref (X 15), .ref (X 16), .ref (X 17), .ref (X 18), .ref (X 19), .int (nI (S.1 20 0)), .ref (X 21), .ref (X 22), .ref (X 23), .ref (X 24), .ref (X 25), .ref (X 26), .ref (X 27), .int (nI c2), .ref (X 29)]) (C := RX10) (T := TX10) (N := 30) hx hb hts in_X10 hown hK hZ ((va_up_ne _ _ (fun q => absurd (hXI 0 27 (by decide) (by decide) q) (by decide))).trans m0) rfl 28 (by decide) fl_120 (fun _ h9 => h9) rfl dX10_collect_135 ?_
                refine lv_iconst (v := 1) hx hb dX10_collect_138 (by decide) ?_
                refine lv_iadd hx hb dX10_collect_139 ?_
                refine W.eq (congrArg (fun v => F0 m 140 ls (.int v :: [.ref (X 0)])) (nI_1 c2)) ?_
                refine W.eq (g2 := F0 m 140 ls [.int (nI (c2 + 1)), .ref (X 0)]) rfl ?_
                refine z_put (ci := 10) (fs := [.int (nI (S.1 0 0)), .int (nI (S.1 1 0)), .ref (X 2), .ref (X 3), .ref (X 4), .ref (X 5), .ref (X 6), .long S.2.2, .ref (X 8), .ref (X 9), .int (nI (S.1 10 0)), .ref (X 11), .ref (X 12), .ref (X 13), .ref (X 14), .ref (X 15), .ref (X 16), .ref (X 17), .ref (X 18), .ref (X 19), .int (nI (S.1 20 0)), .ref (X 21), .ref (X 22), .ref (X 23), .ref (X 24), .ref (X 25), .ref (X 26), .ref (X 27), .int (nI c2), .ref (X 29)]) (fs' := [.int (nI (S.1 0 0)), .int (nI (S.1 1 0)), .ref (X 2), .ref (X 3), .ref (X 4), .ref (X 5), .ref (X 6), .long S.2.2, .ref (X 8), .ref (X 9), .int (nI (S.1 10 0)), .ref (X 11), .ref (X 12), .ref (X 13), .ref (X 14), .ref (X 15), .ref (X 16), .ref (X 17), .ref (X 18), .ref (X 19), .int (nI (S.1 20 0)), .ref (X 21), .ref (X 22), .ref (X 23), .ref (X 24), .ref (X 25), .ref (X 26), .ref (X 27), .int (nI (c2 + 1)), .ref (X 29)]) (v := .int (nI (c2 + 1))) (ty := .int) (C := RX10) (T := TX10) (N := 30) hx hb hts in_X10 tyX10 tyX10_ok nmX10 hown hK hZ ((va_up_ne _ _ (fun q => absurd (hXI 0 27 (by decide) (by decide) q) (by decide))).trans m0) rfl 28 (by decide) fl_120 (fun _ h9 => h9) rfl (by decide +kernel) rfl rfl (Nat.le_of_ble_eq_true rfl) rfl dX10_collect_140 (fun H locs hZ => ?_)
                refine lv_iinc (v := nI (i + 1)) (lv' := [(3, .int (nI (i + 1))), (5, .int (nI 0)), (4, .int (vl S j d i)), (0, .ref (X 0)), (1, .int x), (2, .int y)]) hx hb dX10_collect_143 hl (k := 2) rfl (nI_1 i) (by decide) rfl (fun ls hl => ?_)
                refine lv_goto (tgt := 7) hx hb dX10_collect_146 (by decide) ?_
                exact ih7 (i + 1) (c2 + 1) _ _ (by omega) ⟨(va_up_self _ _ _), ((va_up_ne _ _ (fun q => absurd (hXI 2 0 (by decide) (by decide) q) (by decide))).trans ((va_up_ne _ _ (fun q => absurd (hXI 2 27 (by decide) (by decide) q) (by decide))).trans m2)), ((va_up_ne _ _ (fun q => absurd (hXI 3 0 (by decide) (by decide) q) (by decide))).trans ((va_up_ne _ _ (fun q => absurd (hXI 3 27 (by decide) (by decide) q) (by decide))).trans m3)), ((va_up_ne _ _ (fun q => absurd (hXI 4 0 (by decide) (by decide) q) (by decide))).trans ((va_up_ne _ _ (fun q => absurd (hXI 4 27 (by decide) (by decide) q) (by decide))).trans m4)), ((va_up_ne _ _ (fun q => absurd (hXI 5 0 (by decide) (by decide) q) (by decide))).trans ((va_up_ne _ _ (fun q => absurd (hXI 5 27 (by decide) (by decide) q) (by decide))).trans m5)), ((va_up_ne _ _ (fun q => absurd (hXI 6 0 (by decide) (by decide) q) (by decide))).trans ((va_up_ne _ _ (fun q => absurd (hXI 6 27 (by decide) (by decide) q) (by decide))).trans m6)), ((va_up_ne _ _ (fun q => absurd (hXI 8 0 (by decide) (by decide) q) (by decide))).trans ((va_up_ne _ _ (fun q => absurd (hXI 8 27 (by decide) (by decide) q) (by decide))).trans m8)), ((va_up_ne _ _ (fun q => absurd (hXI 9 0 (by decide) (by decide) q) (by decide))).trans ((va_up_ne _ _ (fun q => absurd (hXI 9 27 (by decide) (by decide) q) (by decide))).trans m9)), ((va_up_ne _ _ (fun q => absurd (hXI 11 0 (by decide) (by decide) q) (by decide))).trans ((va_up_ne _ _ (fun q => absurd (hXI 11 27 (by decide) (by decide) q) (by decide))).trans m11)), ((va_up_ne _ _ (fun q => absurd (hXI 12 0 (by decide) (by decide) q) (by decide))).trans ((va_up_ne _ _ (fun q => absurd (hXI 12 27 (by decide) (by decide) q) (by decide))).trans m12)), ((va_up_ne _ _ (fun q => absurd (hXI 13 0 (by decide) (by decide) q) (by decide))).trans ((va_up_ne _ _ (fun q => absurd (hXI 13 27 (by decide) (by decide) q) (by decide))).trans m13)), ((va_up_ne _ _ (fun q => absurd (hXI 14 0 (by decide) (by decide) q) (by decide))).trans ((va_up_ne _ _ (fun q => absurd (hXI 14 27 (by decide) (by decide) q) (by decide))).trans m14)), ((va_up_ne _ _ (fun q => absurd (hXI 15 0 (by decide) (by decide) q) (by decide))).trans ((va_up_ne _ _ (fun q => absurd (hXI 15 27 (by decide) (by decide) q) (by decide))).trans m15)), ((va_up_ne _ _ (fun q => absurd (hXI 16 0 (by decide) (by decide) q) (by decide))).trans ((va_up_ne _ _ (fun q => absurd (hXI 16 27 (by decide) (by decide) q) (by decide))).trans m16)), ((va_up_ne _ _ (fun q => absurd (hXI 17 0 (by decide) (by decide) q) (by decide))).trans ((va_up_ne _ _ (fun q => absurd (hXI 17 27 (by decide) (by decide) q) (by decide))).trans m17)), ((va_up_ne _ _ (fun q => absurd (hXI 18 0 (by decide) (by decide) q) (by decide))).trans ((va_up_ne _ _ (fun q => absurd (hXI 18 27 (by decide) (by decide) q) (by decide))).trans m18)), ((va_up_ne _ _ (fun q => absurd (hXI 19 0 (by decide) (by decide) q) (by decide))).trans ((va_up_ne _ _ (fun q => absurd (hXI 19 27 (by decide) (by decide) q) (by decide))).trans m19)), ((va_up_ne _ _ (fun q => absurd (hXI 21 0 (by decide) (by decide) q) (by decide))).trans ((va_up_ne _ _ (fun q => absurd (hXI 21 27 (by decide) (by decide) q) (by decide))).trans m21)), ((va_up_ne _ _ (fun q => absurd (hXI 22 0 (by decide) (by decide) q) (by decide))).trans ((va_up_ne _ _ (fun q => absurd (hXI 22 27 (by decide) (by decide) q) (by decide))).trans m22)), ((va_up_ne _ _ (fun q => absurd (hXI 23 0 (by decide) (by decide) q) (by decide))).trans ((va_up_ne _ _ (fun q => absurd (hXI 23 27 (by decide) (by decide) q) (by decide))).trans m23)), ((va_up_ne _ _ (fun q => absurd (hXI 24 0 (by decide) (by decide) q) (by decide))).trans ((va_up_ne _ _ (fun q => absurd (hXI 24 27 (by decide) (by decide) q) (by decide))).trans m24)), ((va_up_ne _ _ (fun q => absurd (hXI 25 0 (by decide) (by decide) q) (by decide))).trans ((va_up_ne _ _ (fun q => absurd (hXI 25 27 (by decide) (by decide) q) (by decide))).trans m25)), ((va_up_ne _ _ (fun q => absurd (hXI 26 0 (by decide) (by decide) q) (by decide))).trans ((va_up_ne _ _ (fun q => absurd (hXI 26 27 (by decide) (by decide) q) (by decide))).trans m26)), ((va_up_ne _ _ (fun q => absurd (hXI 27 0 (by decide) (by decide) q) (by decide))).trans (va_up_self _ _ _)), ((va_up_ne _ _ (fun q => absurd (hXI 29 0 (by decide) (by decide) q) (by decide))).trans ((va_up_ne _ _ (fun q => absurd (hXI 29 27 (by decide) (by decide) q) (by decide))).trans m29))⟩ (by omega) (clc_yes ⟨n0 (Nat.le_succ_of_le (k15 _)) c46, c27, fun h => c37 (by rw [hyd]; exact h)⟩ he (hi2.symm)) _ _ _ hZ (lv_sub hl [0, 3, 4, 5] rfl)
              | succ a ih83 =>
                intro f2 G2 hM2 ha hi2 H locs ls hZ hl
                obtain ⟨m0, m2, m3, m4, m5, m6, m8, m9, m11, m12, m13, m14, m15, m16, m17, m18, m19, m21, m22, m23, m24, m25, m26, m27, m29⟩ := id hM2
                refine lv_iload hx hb dX10_collect_83 (lv_at hl 0 rfl) ?_
                refine lv_if_le (tgt := 124) hx hb dX10_collect_85 (by decide) (fun c85 => absurd c85 (nI_nle (by omega) (by omega))) (fun _ => ?_)
                refine lv_aload_n hx hb dX10_collect_88 rfl (lv_at hl 3 rfl) ?_
                refine z_get (ci := 10) (fs := [.int (nI (S.1 0 0)), .int (nI (S.1 1 0)), .ref (X 2), .ref (X 3), .ref (X 4), .ref (X 5), .ref (X 6), .long S.2.2, .ref (X 8), .ref (X 9), .int (nI (S.1 10 0)), .ref (X 11), .ref (X 12), .ref (X 13), .ref (X 14), .ref (X 15), .ref (X 16), .ref (X 17), .ref (X 18), .ref (X 19), .int (nI (S.1 20 0)), .ref (X 21), .ref (X 22), .ref (X 23), .ref (X 24), .ref (X 25), .ref (X 26), .ref (X 27), .int (nI c2), .ref (X 29)]) (C := RX10) (T := TX10) (N := 30) hx hb hts in_X10 hown hK hZ m0 rfl 27 (by decide) fl_77 (fun _ h9 => h9) rfl dX10_collect_89 ?_
                refine lv_iload hx hb dX10_collect_92 (lv_at hl 0 rfl) ?_
                refine lv_iconst (v := 1) hx hb dX10_collect_94 (by decide) ?_
                refine lv_isub hx hb dX10_collect_95 ?_
                refine z_iald hx hb hK hZ m27 a (nI_pred a) (by omega) (by decide) dX10_collect_96 ?_
                refine lv_iload hx hb dX10_collect_97 (lv_at hl 1 rfl) ?_
                refine lv_icmp_le (tgt := 124) hx hb dX10_collect_99 (by decide) (fun c99 => ?_) (fun c99 => ?_)
                · refine lv_aload_n hx hb dX10_collect_124 rfl (lv_at hl 3 rfl) ?_
                  refine z_get (ci := 10) (fs := [.int (nI (S.1 0 0)), .int (nI (S.1 1 0)), .ref (X 2), .ref (X 3), .ref (X 4), .ref (X 5), .ref (X 6), .long S.2.2, .ref (X 8), .ref (X 9), .int (nI (S.1 10 0)), .ref (X 11), .ref (X 12), .ref (X 13), .ref (X 14), .ref (X 15), .ref (X 16), .ref (X 17), .ref (X 18), .ref (X 19), .int (nI (S.1 20 0)), .ref (X 21), .ref (X 22), .ref (X 23), .ref (X 24), .ref (X 25), .ref (X 26), .ref (X 27), .int (nI c2), .ref (X 29)]) (C := RX10) (T := TX10) (N := 30) hx hb hts in_X10 hown hK hZ m0 rfl 27 (by decide) fl_77 (fun _ h9 => h9) rfl dX10_collect_125 ?_
                  refine lv_iload hx hb dX10_collect_128 (lv_at hl 0 rfl) ?_
                  refine lv_iload hx hb dX10_collect_130 (lv_at hl 1 rfl) ?_
                  refine z_iast hx hb hK hZ m27 (a + 1) rfl (by omega) (by decide) dX10_collect_132 (fun H locs hZ => ?_)
                  refine lv_aload_n hx hb dX10_collect_133 rfl (lv_at hl 3 rfl) ?_
                  refine lv_dup hx hb dX10_collect_134 rfl ?_
                  refine z_get (ci := 10) (fs := [.int (nI (S.1 0 0)), .int (nI (S.1 1 0)), .ref (X 2), .ref (X 3), .ref (X 4), .ref (X 5), .ref (X 6), .long S.2.2, .ref (X 8), .ref (X 9), .int (nI (S.1 10 0)), .ref (X 11), .ref (X 12), .ref (X 13), .ref (X 14), .ref (X 15), .ref (X 16), .ref (X 17), .ref (X 18), .ref (X 19), .int (nI (S.1 20 0)), .ref (X 21), .ref (X 22), .ref (X 23), .ref (X 24), .ref (X 25), .ref (X 26), .ref (X 27), .int (nI c2), .ref (X 29)]) (C := RX10) (T := TX10) (N := 30) hx hb hts in_X10 hown hK hZ ((va_up_ne _ _ (fun q => absurd (hXI 0 27 (by decide) (by decide) q) (by decide))).trans m0) rfl 28 (by decide) fl_120 (fun _ h9 => h9) rfl dX10_collect_135 ?_
                  refine lv_iconst (v := 1) hx hb dX10_collect_138 (by decide) ?_
                  refine lv_iadd hx hb dX10_collect_139 ?_
                  refine W.eq (congrArg (fun v => F0 m 140 ls (.int v :: [.ref (X 0)])) (nI_1 c2)) ?_
                  refine W.eq (g2 := F0 m 140 ls [.int (nI (c2 + 1)), .ref (X 0)]) rfl ?_
                  refine z_put (ci := 10) (fs := [.int (nI (S.1 0 0)), .int (nI (S.1 1 0)), .ref (X 2), .ref (X 3), .ref (X 4), .ref (X 5), .ref (X 6), .long S.2.2, .ref (X 8), .ref (X 9), .int (nI (S.1 10 0)), .ref (X 11), .ref (X 12), .ref (X 13), .ref (X 14), .ref (X 15), .ref (X 16), .ref (X 17), .ref (X 18), .ref (X 19), .int (nI (S.1 20 0)), .ref (X 21), .ref (X 22), .ref (X 23), .ref (X 24), .ref (X 25), .ref (X 26), .ref (X 27), .int (nI c2), .ref (X 29)]) (fs' := [.int (nI (S.1 0 0)), .int (nI (S.1 1 0)), .ref (X 2), .ref (X 3), .ref (X 4), .ref (X 5), .ref (X 6), .long S.2.2, .ref (X 8), .ref (X 9), .int (nI (S.1 10 0)), .ref (X 11), .ref (X 12), .ref (X 13), .ref (X 14), .ref (X 15), .ref (X 16), .ref (X 17), .ref (X 18), .ref (X 19), .int (nI (S.1 20 0)), .ref (X 21), .ref (X 22), .ref (X 23), .ref (X 24), .ref (X 25), .ref (X 26), .ref (X 27), .int (nI (c2 + 1)), .ref (X 29)]) (v := .int (nI (c2 + 1))) (ty := .int) (C := RX10) (T := TX10) (N := 30) hx hb hts in_X10 tyX10 tyX10_ok nmX10 hown hK hZ ((va_up_ne _ _ (fun q => absurd (hXI 0 27 (by decide) (by decide) q) (by decide))).trans m0) rfl 28 (by decide) fl_120 (fun _ h9 => h9) rfl (by decide +kernel) rfl rfl (Nat.le_of_ble_eq_true rfl) rfl dX10_collect_140 (fun H locs hZ => ?_)
                  refine lv_iinc (v := nI (i + 1)) (lv' := [(3, .int (nI (i + 1))), (5, .int (nI (a + 1))), (4, .int (vl S j d i)), (0, .ref (X 0)), (1, .int x), (2, .int y)]) hx hb dX10_collect_143 hl (k := 2) rfl (nI_1 i) (by decide) rfl (fun ls hl => ?_)
                  refine lv_goto (tgt := 7) hx hb dX10_collect_146 (by decide) ?_
                  exact ih7 (i + 1) (c2 + 1) _ _ (by omega) ⟨(va_up_self _ _ _), ((va_up_ne _ _ (fun q => absurd (hXI 2 0 (by decide) (by decide) q) (by decide))).trans ((va_up_ne _ _ (fun q => absurd (hXI 2 27 (by decide) (by decide) q) (by decide))).trans m2)), ((va_up_ne _ _ (fun q => absurd (hXI 3 0 (by decide) (by decide) q) (by decide))).trans ((va_up_ne _ _ (fun q => absurd (hXI 3 27 (by decide) (by decide) q) (by decide))).trans m3)), ((va_up_ne _ _ (fun q => absurd (hXI 4 0 (by decide) (by decide) q) (by decide))).trans ((va_up_ne _ _ (fun q => absurd (hXI 4 27 (by decide) (by decide) q) (by decide))).trans m4)), ((va_up_ne _ _ (fun q => absurd (hXI 5 0 (by decide) (by decide) q) (by decide))).trans ((va_up_ne _ _ (fun q => absurd (hXI 5 27 (by decide) (by decide) q) (by decide))).trans m5)), ((va_up_ne _ _ (fun q => absurd (hXI 6 0 (by decide) (by decide) q) (by decide))).trans ((va_up_ne _ _ (fun q => absurd (hXI 6 27 (by decide) (by decide) q) (by decide))).trans m6)), ((va_up_ne _ _ (fun q => absurd (hXI 8 0 (by decide) (by decide) q) (by decide))).trans ((va_up_ne _ _ (fun q => absurd (hXI 8 27 (by decide) (by decide) q) (by decide))).trans m8)), ((va_up_ne _ _ (fun q => absurd (hXI 9 0 (by decide) (by decide) q) (by decide))).trans ((va_up_ne _ _ (fun q => absurd (hXI 9 27 (by decide) (by decide) q) (by decide))).trans m9)), ((va_up_ne _ _ (fun q => absurd (hXI 11 0 (by decide) (by decide) q) (by decide))).trans ((va_up_ne _ _ (fun q => absurd (hXI 11 27 (by decide) (by decide) q) (by decide))).trans m11)), ((va_up_ne _ _ (fun q => absurd (hXI 12 0 (by decide) (by decide) q) (by decide))).trans ((va_up_ne _ _ (fun q => absurd (hXI 12 27 (by decide) (by decide) q) (by decide))).trans m12)), ((va_up_ne _ _ (fun q => absurd (hXI 13 0 (by decide) (by decide) q) (by decide))).trans ((va_up_ne _ _ (fun q => absurd (hXI 13 27 (by decide) (by decide) q) (by decide))).trans m13)), ((va_up_ne _ _ (fun q => absurd (hXI 14 0 (by decide) (by decide) q) (by decide))).trans ((va_up_ne _ _ (fun q => absurd (hXI 14 27 (by decide) (by decide) q) (by decide))).trans m14)), ((va_up_ne _ _ (fun q => absurd (hXI 15 0 (by decide) (by decide) q) (by decide))).trans ((va_up_ne _ _ (fun q => absurd (hXI 15 27 (by decide) (by decide) q) (by decide))).trans m15)), ((va_up_ne _ _ (fun q => absurd (hXI 16 0 (by decide) (by decide) q) (by decide))).trans ((va_up_ne _ _ (fun q => absurd (hXI 16 27 (by decide) (by decide) q) (by decide))).trans m16)), ((va_up_ne _ _ (fun q => absurd (hXI 17 0 (by decide) (by decide) q) (by decide))).trans ((va_up_ne _ _ (fun q => absurd (hXI 17 27 (by decide) (by decide) q) (by decide))).trans m17)), ((va_up_ne _ _ (fun q => absurd (hXI 18 0 (by decide) (by decide) q) (by decide))).trans ((va_up_ne _ _ (fun q => absurd (hXI 18 27 (by decide) (by decide) q) (by decide))).trans m18)), ((va_up_ne _ _ (fun q => absurd (hXI 19 0 (by decide) (by decide) q) (by decide))).trans ((va_up_ne _ _ (fun q => absurd (hXI 19 27 (by decide) (by decide) q) (by decide))).trans m19)), ((va_up_ne _ _ (fun q => absurd (hXI 21 0 (by decide) (by decide) q) (by decide))).trans ((va_up_ne _ _ (fun q => absurd (hXI 21 27 (by decide) (by decide) q) (by decide))).trans m21)), ((va_up_ne _ _ (fun q => absurd (hXI 22 0 (by decide) (by decide) q) (by decide))).trans ((va_up_ne _ _ (fun q => absurd (hXI 22 27 (by decide) (by decide) q) (by decide))).trans m22)), ((va_up_ne _ _ (fun q => absurd (hXI 23 0 (by decide) (by decide) q) (by decide))).trans ((va_up_ne _ _ (fun q => absurd (hXI 23 27 (by decide) (by decide) q) (by decide))).trans m23)), ((va_up_ne _ _ (fun q => absurd (hXI 24 0 (by decide) (by decide) q) (by decide))).trans ((va_up_ne _ _ (fun q => absurd (hXI 24 27 (by decide) (by decide) q) (by decide))).trans m24)), ((va_up_ne _ _ (fun q => absurd (hXI 25 0 (by decide) (by decide) q) (by decide))).trans ((va_up_ne _ _ (fun q => absurd (hXI 25 27 (by decide) (by decide) q) (by decide))).trans m25)), ((va_up_ne _ _ (fun q => absurd (hXI 26 0 (by decide) (by decide) q) (by decide))).trans ((va_up_ne _ _ (fun q => absurd (hXI 26 27 (by decide) (by decide) q) (by decide))).trans m26)), ((va_up_ne _ _ (fun q => absurd (hXI 27 0 (by decide) (by decide) q) (by decide))).trans (va_up_self _ _ _)), ((va_up_ne _ _ (fun q => absurd (hXI 29 0 (by decide) (by decide) q) (by decide))).trans ((va_up_ne _ _ (fun q => absurd (hXI 29 27 (by decide) (by decide) q) (by decide))).trans m29))⟩ (by omega) (clc_yes ⟨n0 (Nat.le_succ_of_le (k15 _)) c46, c27, fun h => c37 (by rw [hyd]; exact h)⟩ he (hi2.symm.trans (by rw [insAt, if_neg (z_nl c99)]))) _ _ _ hZ (lv_sub hl [0, 3, 4, 5] rfl)
                · refine lv_aload_n hx hb dX10_collect_102 rfl (lv_at hl 3 rfl) ?_
                  refine z_get (ci := 10) (fs := [.int (nI (S.1 0 0)), .int (nI (S.1 1 0)), .ref (X 2), .ref (X 3), .ref (X 4), .ref (X 5), .ref (X 6), .long S.2.2, .ref (X 8), .ref (X 9), .int (nI (S.1 10 0)), .ref (X 11), .ref (X 12), .ref (X 13), .ref (X 14), .ref (X 15), .ref (X 16), .ref (X 17), .ref (X 18), .ref (X 19), .int (nI (S.1 20 0)), .ref (X 21), .ref (X 22), .ref (X 23), .ref (X 24), .ref (X 25), .ref (X 26), .ref (X 27), .int (nI c2), .ref (X 29)]) (C := RX10) (T := TX10) (N := 30) hx hb hts in_X10 hown hK hZ m0 rfl 27 (by decide) fl_77 (fun _ h9 => h9) rfl dX10_collect_103 ?_
                  refine lv_iload hx hb dX10_collect_106 (lv_at hl 0 rfl) ?_
                  refine lv_aload_n hx hb dX10_collect_108 rfl (lv_at hl 3 rfl) ?_
                  refine z_get (ci := 10) (fs := [.int (nI (S.1 0 0)), .int (nI (S.1 1 0)), .ref (X 2), .ref (X 3), .ref (X 4), .ref (X 5), .ref (X 6), .long S.2.2, .ref (X 8), .ref (X 9), .int (nI (S.1 10 0)), .ref (X 11), .ref (X 12), .ref (X 13), .ref (X 14), .ref (X 15), .ref (X 16), .ref (X 17), .ref (X 18), .ref (X 19), .int (nI (S.1 20 0)), .ref (X 21), .ref (X 22), .ref (X 23), .ref (X 24), .ref (X 25), .ref (X 26), .ref (X 27), .int (nI c2), .ref (X 29)]) (C := RX10) (T := TX10) (N := 30) hx hb hts in_X10 hown hK hZ m0 rfl 27 (by decide) fl_77 (fun _ h9 => h9) rfl dX10_collect_109 ?_
                  refine lv_iload hx hb dX10_collect_112 (lv_at hl 0 rfl) ?_
                  refine lv_iconst (v := 1) hx hb dX10_collect_114 (by decide) ?_
                  refine lv_isub hx hb dX10_collect_115 ?_
                  refine z_iald hx hb hK hZ m27 a (nI_pred a) (by omega) (by decide) dX10_collect_116 ?_
                  refine z_iast hx hb hK hZ m27 (a + 1) rfl (by omega) (by decide) dX10_collect_117 (fun H locs hZ => ?_)
                  refine lv_iinc (v := nI a) (lv' := [(5, .int (nI a)), (4, .int (vl S j d i)), (3, .int (nI i)), (0, .ref (X 0)), (1, .int x), (2, .int y)]) hx hb dX10_collect_118 hl (k := 0) rfl (nI_dec a) (by decide) rfl (fun ls hl => ?_)
                  refine lv_goto (tgt := 83) hx hb dX10_collect_121 (by decide) ?_
                  exact ih83 _ _ ⟨((va_up_ne _ _ (fun q => absurd (hXI 0 27 (by decide) (by decide) q) (by decide))).trans m0), ((va_up_ne _ _ (fun q => absurd (hXI 2 27 (by decide) (by decide) q) (by decide))).trans m2), ((va_up_ne _ _ (fun q => absurd (hXI 3 27 (by decide) (by decide) q) (by decide))).trans m3), ((va_up_ne _ _ (fun q => absurd (hXI 4 27 (by decide) (by decide) q) (by decide))).trans m4), ((va_up_ne _ _ (fun q => absurd (hXI 5 27 (by decide) (by decide) q) (by decide))).trans m5), ((va_up_ne _ _ (fun q => absurd (hXI 6 27 (by decide) (by decide) q) (by decide))).trans m6), ((va_up_ne _ _ (fun q => absurd (hXI 8 27 (by decide) (by decide) q) (by decide))).trans m8), ((va_up_ne _ _ (fun q => absurd (hXI 9 27 (by decide) (by decide) q) (by decide))).trans m9), ((va_up_ne _ _ (fun q => absurd (hXI 11 27 (by decide) (by decide) q) (by decide))).trans m11), ((va_up_ne _ _ (fun q => absurd (hXI 12 27 (by decide) (by decide) q) (by decide))).trans m12), ((va_up_ne _ _ (fun q => absurd (hXI 13 27 (by decide) (by decide) q) (by decide))).trans m13), ((va_up_ne _ _ (fun q => absurd (hXI 14 27 (by decide) (by decide) q) (by decide))).trans m14), ((va_up_ne _ _ (fun q => absurd (hXI 15 27 (by decide) (by decide) q) (by decide))).trans m15), ((va_up_ne _ _ (fun q => absurd (hXI 16 27 (by decide) (by decide) q) (by decide))).trans m16), ((va_up_ne _ _ (fun q => absurd (hXI 17 27 (by decide) (by decide) q) (by decide))).trans m17), ((va_up_ne _ _ (fun q => absurd (hXI 18 27 (by decide) (by decide) q) (by decide))).trans m18), ((va_up_ne _ _ (fun q => absurd (hXI 19 27 (by decide) (by decide) q) (by decide))).trans m19), ((va_up_ne _ _ (fun q => absurd (hXI 21 27 (by decide) (by decide) q) (by decide))).trans m21), ((va_up_ne _ _ (fun q => absurd (hXI 22 27 (by decide) (by decide) q) (by decide))).trans m22), ((va_up_ne _ _ (fun q => absurd (hXI 23 27 (by decide) (by decide) q) (by decide))).trans m23), ((va_up_ne _ _ (fun q => absurd (hXI 24 27 (by decide) (by decide) q) (by decide))).trans m24), ((va_up_ne _ _ (fun q => absurd (hXI 25 27 (by decide) (by decide) q) (by decide))).trans m25), ((va_up_ne _ _ (fun q => absurd (hXI 26 27 (by decide) (by decide) q) (by decide))).trans m26), (va_up_self _ _ _), ((va_up_ne _ _ (fun q => absurd (hXI 29 27 (by decide) (by decide) q) (by decide))).trans m29)⟩ (by omega) (by rw [← hi2, insAt, if_pos (z_lg c99)]) _ _ _ hZ (lv_sub hl [0, 1, 2, 3, 4, 5] rfl)
            exact loop83 c2 f _ hM1 (by omega) rfl _ _ _ hZ (lv_sub hl [0, 1, 2, 3, 4, 5] rfl)
  exact loop7 (S.1 10 0) 0 0 f27 _ (by omega) ⟨(va_up_self _ _ _), ((va_up_ne _ _ (fun q => absurd (hXI 2 0 (by decide) (by decide) q) (by decide))).trans m2), ((va_up_ne _ _ (fun q => absurd (hXI 3 0 (by decide) (by decide) q) (by decide))).trans m3), ((va_up_ne _ _ (fun q => absurd (hXI 4 0 (by decide) (by decide) q) (by decide))).trans m4), ((va_up_ne _ _ (fun q => absurd (hXI 5 0 (by decide) (by decide) q) (by decide))).trans m5), ((va_up_ne _ _ (fun q => absurd (hXI 6 0 (by decide) (by decide) q) (by decide))).trans m6), ((va_up_ne _ _ (fun q => absurd (hXI 8 0 (by decide) (by decide) q) (by decide))).trans m8), ((va_up_ne _ _ (fun q => absurd (hXI 9 0 (by decide) (by decide) q) (by decide))).trans m9), ((va_up_ne _ _ (fun q => absurd (hXI 11 0 (by decide) (by decide) q) (by decide))).trans m11), ((va_up_ne _ _ (fun q => absurd (hXI 12 0 (by decide) (by decide) q) (by decide))).trans m12), ((va_up_ne _ _ (fun q => absurd (hXI 13 0 (by decide) (by decide) q) (by decide))).trans m13), ((va_up_ne _ _ (fun q => absurd (hXI 14 0 (by decide) (by decide) q) (by decide))).trans m14), ((va_up_ne _ _ (fun q => absurd (hXI 15 0 (by decide) (by decide) q) (by decide))).trans m15), ((va_up_ne _ _ (fun q => absurd (hXI 16 0 (by decide) (by decide) q) (by decide))).trans m16), ((va_up_ne _ _ (fun q => absurd (hXI 17 0 (by decide) (by decide) q) (by decide))).trans m17), ((va_up_ne _ _ (fun q => absurd (hXI 18 0 (by decide) (by decide) q) (by decide))).trans m18), ((va_up_ne _ _ (fun q => absurd (hXI 19 0 (by decide) (by decide) q) (by decide))).trans m19), ((va_up_ne _ _ (fun q => absurd (hXI 21 0 (by decide) (by decide) q) (by decide))).trans m21), ((va_up_ne _ _ (fun q => absurd (hXI 22 0 (by decide) (by decide) q) (by decide))).trans m22), ((va_up_ne _ _ (fun q => absurd (hXI 23 0 (by decide) (by decide) q) (by decide))).trans m23), ((va_up_ne _ _ (fun q => absurd (hXI 24 0 (by decide) (by decide) q) (by decide))).trans m24), ((va_up_ne _ _ (fun q => absurd (hXI 25 0 (by decide) (by decide) q) (by decide))).trans m25), ((va_up_ne _ _ (fun q => absurd (hXI 26 0 (by decide) (by decide) q) (by decide))).trans m26), ((va_up_ne _ _ (fun q => absurd (hXI 27 0 (by decide) (by decide) q) (by decide))).trans m27), ((va_up_ne _ _ (fun q => absurd (hXI 29 0 (by decide) (by decide) q) (by decide))).trans m29)⟩ (by omega) rfl _ _ _ hZ (lv_sub hl [0, 1, 2, 3] rfl)

set_option maxHeartbeats 4000000 in
set_option maxRecDepth 100000 in
theorem c_X10_headOf (l : Launch) (D : va_G) (cT : Nat → ClassId) (G : zG) (sz : Nat) (S : zS) (X : Nat → Nat) (cz : Int32) (f27 f29 : Nat → Int32) (nn : Nat) (x y z : Int32) (j d w2 : Nat) (hM : MD cT S X cz f27 f29 G) (hXI : XI X) (hS : ok S nn) (hj : j < S.1 1 0) (hxj : x = nI j) (hd : d ≤ 300) (hyd : y = nI d) (hw : w2 ≤ 4) (hwk : z = nI w2) : zM l D cT yX10_headOf wsX10_headOf (zR 3 0 0) [.ref (X 0), .int x, .int y, .int z] G sz (fun r G' => MDx cT S X G' ∧ r = some (.int (hv S j d w2))) := by
  refine z_start (cc := cX10_headOf) (maxL := 8) (ret := (some .int)) (by decide) rfl (Nat.le_of_ble_eq_true rfl) ?_
  intro p e s m below meth c ls hI hZ hl
  obtain ⟨hx, hb, hr, hml, hts, hown, hlocks, hname, hK, hA, hE⟩ := hI
  have hl : lv_has ls 8 [(0, .ref (X 0)), (1, .int x), (2, .int y), (3, .int z)] := hl
  have hown : s.vm.findClass RX10 = some m.cls := hown
  have in_X10 : ∀ w ∈ u_ws RX10 TX10 30, w ∈ wsX10_headOf := by decide +kernel
  have fl_13 := hts (.fieldLink RX10 13 "FairRentsModel" "area" "[I") (by decide +kernel)
  have fl_22 := hts (.fieldLink RX10 22 "FairRentsModel" "faults" "[I") (by decide +kernel)
  have fl_77 := hts (.fieldLink RX10 77 "FairRentsModel" "right" "[I") (by decide +kernel)
  have fl_120 := hts (.fieldLink RX10 120 "FairRentsModel" "counted" "I") (by decide +kernel)
  obtain ⟨m0, m2, m3, m4, m5, m6, m8, m9, m11, m12, m13, m14, m15, m16, m17, m18, m19, m21, m22, m23, m24, m25, m26, m27, m29⟩ := id hM
  obtain ⟨⟨k1, k10, k20, k0⟩, kH, k9, k8, k15, k26, kL, kLn, kP, kE, kEm, kn⟩ := id hS
  obtain ⟨g2, g3, g4a, g4, g5⟩ := kH j hj
  have hcl := clc_le S j d f27 (S.1 10 0)
  refine lv_aload_n hx hb dX10_headOf_0 rfl (lv_at hl 0 rfl) ?_
  refine lv_iload_n hx hb dX10_headOf_1 rfl (lv_at hl 1 rfl) ?_
  refine lv_iload_n hx hb dX10_headOf_2 rfl (lv_at hl 2 rfl) ?_
  refine z_call (va_runV (As := [.int x, .int y]) (rest := []) ⟨hx, hb, hml, hown, hts⟩ (c_X10_collect l D cT _ _ S X _ _ _ nn x y j d hM hXI hS hj hxj hd hyd) (cwV 2 hts gX10_headOf_X10_collect rfl rfl rfl (by decide +kernel) ⟨(Nat.le_of_ble_eq_true rfl), (Nat.le_of_ble_eq_true rfl)⟩) (z_preV hK hE hZ hA (ci := 10) rfl m0) rfl rfl hl.1 rfl (lv_room (Nat.le_of_ble_eq_true rfl)) dX10_headOf_3 ⟨(Nat.le_of_ble_eq_true rfl), (Nat.le_of_ble_eq_true rfl)⟩) hZ hA (fun r G3 H locs hq hZ => ?_)
  obtain ⟨hM3, rfl⟩ := hq
  obtain ⟨m0, m2, m3, m4, m5, m6, m8, m9, m11, m12, m13, m14, m15, m16, m17, m18, m19, m21, m22, m23, m24, m25, m26, m27, m29⟩ := id hM3
  refine W.eq (g2 := F0 m 6 ls []) rfl ?_
  refine lv_aload_n hx hb dX10_headOf_6 rfl (lv_at hl 0 rfl) ?_
  refine z_get (ci := 10) (fs := [.int (nI (S.1 0 0)), .int (nI (S.1 1 0)), .ref (X 2), .ref (X 3), .ref (X 4), .ref (X 5), .ref (X 6), .long S.2.2, .ref (X 8), .ref (X 9), .int (nI (S.1 10 0)), .ref (X 11), .ref (X 12), .ref (X 13), .ref (X 14), .ref (X 15), .ref (X 16), .ref (X 17), .ref (X 18), .ref (X 19), .int (nI (S.1 20 0)), .ref (X 21), .ref (X 22), .ref (X 23), .ref (X 24), .ref (X 25), .ref (X 26), .ref (X 27), .int (nI (clc S j d f27 (S.1 10 0)).2), .ref (X 29)]) (C := RX10) (T := TX10) (N := 30) hx hb hts in_X10 hown hK hZ m0 rfl 28 (by decide) fl_120 (fun _ h9 => h9) rfl dX10_headOf_7 ?_
  refine lv_if_ne (tgt := 17) hx hb dX10_headOf_10 (by decide) (fun c10 => ?_) (fun c10 => ?_)
  · have hc0 : ¬ (clc S j d f27 (S.1 10 0)).2 = 0 := fun h => c10 (by rw [h]; rfl)
    refine lv_aload_n hx hb dX10_headOf_17 rfl (lv_at hl 0 rfl) ?_
    refine z_get (ci := 10) (fs := [.int (nI (S.1 0 0)), .int (nI (S.1 1 0)), .ref (X 2), .ref (X 3), .ref (X 4), .ref (X 5), .ref (X 6), .long S.2.2, .ref (X 8), .ref (X 9), .int (nI (S.1 10 0)), .ref (X 11), .ref (X 12), .ref (X 13), .ref (X 14), .ref (X 15), .ref (X 16), .ref (X 17), .ref (X 18), .ref (X 19), .int (nI (S.1 20 0)), .ref (X 21), .ref (X 22), .ref (X 23), .ref (X 24), .ref (X 25), .ref (X 26), .ref (X 27), .int (nI (clc S j d f27 (S.1 10 0)).2), .ref (X 29)]) (C := RX10) (T := TX10) (N := 30) hx hb hts in_X10 hown hK hZ m0 rfl 27 (by decide) fl_77 (fun _ h9 => h9) rfl dX10_headOf_18 ?_
    refine lv_aload_n hx hb dX10_headOf_21 rfl (lv_at hl 0 rfl) ?_
    refine z_get (ci := 10) (fs := [.int (nI (S.1 0 0)), .int (nI (S.1 1 0)), .ref (X 2), .ref (X 3), .ref (X 4), .ref (X 5), .ref (X 6), .long S.2.2, .ref (X 8), .ref (X 9), .int (nI (S.1 10 0)), .ref (X 11), .ref (X 12), .ref (X 13), .ref (X 14), .ref (X 15), .ref (X 16), .ref (X 17), .ref (X 18), .ref (X 19), .int (nI (S.1 20 0)), .ref (X 21), .ref (X 22), .ref (X 23), .ref (X 24), .ref (X 25), .ref (X 26), .ref (X 27), .int (nI (clc S j d f27 (S.1 10 0)).2), .ref (X 29)]) (C := RX10) (T := TX10) (N := 30) hx hb hts in_X10 hown hK hZ m0 rfl 28 (by decide) fl_120 (fun _ h9 => h9) rfl dX10_headOf_22 ?_
    refine lv_iconst (v := 1) hx hb dX10_headOf_25 (by decide) ?_
    refine lv_isub hx hb dX10_headOf_26 ?_
    refine lv_iconst (v := 2) hx hb dX10_headOf_27 (by decide) ?_
    refine lv_idiv hx hb dX10_headOf_28 (by decide) ?_
    refine z_iald hx hb hK hZ m27 (((clc S j d f27 (S.1 10 0)).2 - 1) / 2) (hf_ix (by omega) hc0) (by omega) (by decide) dX10_headOf_29 ?_
    refine W.eq (congrArg (fun v => F0 m 30 ls (.int v :: [])) (h0_n f27 hc0)) ?_
    refine W.eq (g2 := F0 m 30 ls [.int (h0 S j d)]) rfl ?_
    refine lv_istore (lv' := [(4, .int (h0 S j d)), (0, .ref (X 0)), (1, .int x), (2, .int y), (3, .int z)]) hx hb dX10_headOf_30 hl (by decide) rfl (fun ls hl => ?_)
    refine lv_iload hx hb dX10_headOf_32 (lv_at hl 0 rfl) ?_
    refine lv_if_ge (tgt := 41) hx hb dX10_headOf_34 (by decide) (fun c34 => ?_) (fun c34 => ?_)
    · refine lv_aload_n hx hb dX10_headOf_41 rfl (lv_at hl 1 rfl) ?_
      refine lv_iload_n hx hb dX10_headOf_42 rfl (lv_at hl 3 rfl) ?_
      refine lv_aload_n hx hb dX10_headOf_43 rfl (lv_at hl 1 rfl) ?_
      refine z_get (ci := 10) (fs := [.int (nI (S.1 0 0)), .int (nI (S.1 1 0)), .ref (X 2), .ref (X 3), .ref (X 4), .ref (X 5), .ref (X 6), .long S.2.2, .ref (X 8), .ref (X 9), .int (nI (S.1 10 0)), .ref (X 11), .ref (X 12), .ref (X 13), .ref (X 14), .ref (X 15), .ref (X 16), .ref (X 17), .ref (X 18), .ref (X 19), .int (nI (S.1 20 0)), .ref (X 21), .ref (X 22), .ref (X 23), .ref (X 24), .ref (X 25), .ref (X 26), .ref (X 27), .int (nI (clc S j d f27 (S.1 10 0)).2), .ref (X 29)]) (C := RX10) (T := TX10) (N := 30) hx hb hts in_X10 hown hK hZ m0 rfl 3 (by decide) fl_13 (fun _ h9 => h9) rfl dX10_headOf_44 ?_
      refine lv_iload_n hx hb dX10_headOf_47 rfl (lv_at hl 2 rfl) ?_
      refine z_iald hx hb hK hZ m3 j hxj (by omega) (by decide) dX10_headOf_48 ?_
      refine z_call (va_runV (As := [.int y, .int (nI (S.1 3 j))]) (rest := []) ⟨hx, hb, hml, hown, hts⟩ (c_X10_lawOf l D cT _ _ S X _ _ _ nn y (nI (S.1 3 j)) d (S.1 3 j) hM3 hXI hS (by omega) hyd (by omega) rfl) (cwV 2 hts gX10_headOf_X10_lawOf rfl rfl rfl (by decide +kernel) ⟨(Nat.le_of_ble_eq_true rfl), (Nat.le_of_ble_eq_true rfl)⟩) (z_preV hK hE hZ hA (ci := 10) rfl m0) rfl rfl hl.1 rfl (lv_room (Nat.le_of_ble_eq_true rfl)) dX10_headOf_49 ⟨(Nat.le_of_ble_eq_true rfl), (Nat.le_of_ble_eq_true rfl)⟩) hZ hA (fun r G49 H locs hq hZ => ?_)
      obtain ⟨hg, rfl⟩ := hq
      replace hg := hg.symm
      subst hg
      refine W.eq (g2 := F0 m 52 ls [.int (lw S d (S.1 3 j))]) rfl ?_
      refine lv_iload hx hb dX10_headOf_52 (lv_at hl 0 rfl) ?_
      refine lv_imul hx hb dX10_headOf_54 ?_
      refine lv_bipush (v := 100) hx hb dX10_headOf_55 (by decide) ?_
      refine lv_idiv hx hb dX10_headOf_57 (by decide) ?_
      refine lv_ineg hx hb dX10_headOf_58 ?_
      refine W.eq (congrArg (fun v => F0 m 59 ls (.int v :: [])) (h1_p c34)) ?_
      refine W.eq (g2 := F0 m 59 ls [.int (h1 S j d)]) rfl ?_
      refine lv_istore (lv' := [(5, .int (h1 S j d)), (4, .int (h0 S j d)), (0, .ref (X 0)), (1, .int x), (2, .int y), (3, .int z)]) hx hb dX10_headOf_59 hl (by decide) rfl (fun ls hl => ?_)
      refine lv_aload_n hx hb dX10_headOf_61 rfl (lv_at hl 2 rfl) ?_
      refine lv_iload_n hx hb dX10_headOf_62 rfl (lv_at hl 4 rfl) ?_
      refine lv_iconst (v := 4) hx hb dX10_headOf_63 (by decide) ?_
      refine z_call (va_runV (As := [.int y, .int 4]) (rest := []) ⟨hx, hb, hml, hown, hts⟩ (c_X10_lawOf l D cT _ _ S X _ _ _ nn y 4 d 4 hM3 hXI hS (by omega) hyd (by decide) rfl) (cwV 2 hts gX10_headOf_X10_lawOf rfl rfl rfl (by decide +kernel) ⟨(Nat.le_of_ble_eq_true rfl), (Nat.le_of_ble_eq_true rfl)⟩) (z_preV hK hE hZ hA (ci := 10) rfl m0) rfl rfl hl.1 rfl (lv_room (Nat.le_of_ble_eq_true rfl)) dX10_headOf_64 ⟨(Nat.le_of_ble_eq_true rfl), (Nat.le_of_ble_eq_true rfl)⟩) hZ hA (fun r G64 H locs hq hZ => ?_)
      obtain ⟨hg, rfl⟩ := hq
      replace hg := hg.symm
      subst hg
      refine W.eq (g2 := F0 m 67 ls [.int (lw S d 4)]) rfl ?_
      refine lv_ineg hx hb dX10_headOf_67 ?_
      refine lv_aload_n hx hb dX10_headOf_68 rfl (lv_at hl 2 rfl) ?_
      refine z_get (ci := 10) (fs := [.int (nI (S.1 0 0)), .int (nI (S.1 1 0)), .ref (X 2), .ref (X 3), .ref (X 4), .ref (X 5), .ref (X 6), .long S.2.2, .ref (X 8), .ref (X 9), .int (nI (S.1 10 0)), .ref (X 11), .ref (X 12), .ref (X 13), .ref (X 14), .ref (X 15), .ref (X 16), .ref (X 17), .ref (X 18), .ref (X 19), .int (nI (S.1 20 0)), .ref (X 21), .ref (X 22), .ref (X 23), .ref (X 24), .ref (X 25), .ref (X 26), .ref (X 27), .int (nI (clc S j d f27 (S.1 10 0)).2), .ref (X 29)]) (C := RX10) (T := TX10) (N := 30) hx hb hts in_X10 hown hK hZ m0 rfl 6 (by decide) fl_22 (fun _ h9 => h9) rfl dX10_headOf_69 ?_
      refine lv_iload_n hx hb dX10_headOf_72 rfl (lv_at hl 3 rfl) ?_
      refine z_iald hx hb hK hZ m6 j hxj (by omega) (by decide) dX10_headOf_73 ?_
      refine lv_imul hx hb dX10_headOf_74 ?_
      refine W.eq (congrArg (fun v => F0 m 75 ls (.int v :: [])) h2_e) ?_
      refine W.eq (g2 := F0 m 75 ls [.int (h2 S j d)]) rfl ?_
      refine lv_istore (lv' := [(6, .int (h2 S j d)), (5, .int (h1 S j d)), (4, .int (h0 S j d)), (0, .ref (X 0)), (1, .int x), (2, .int y), (3, .int z)]) hx hb dX10_headOf_75 hl (by decide) rfl (fun ls hl => ?_)
      refine lv_iload hx hb dX10_headOf_77 (lv_at hl 2 rfl) ?_
      refine lv_iload hx hb dX10_headOf_79 (lv_at hl 1 rfl) ?_
      refine lv_iadd hx hb dX10_headOf_81 ?_
      refine lv_iload hx hb dX10_headOf_82 (lv_at hl 0 rfl) ?_
      refine lv_iadd hx hb dX10_headOf_84 ?_
      refine lv_istore (lv' := [(7, .int (((h0 S j d) + (h1 S j d)) + (h2 S j d))), (6, .int (h2 S j d)), (5, .int (h1 S j d)), (4, .int (h0 S j d)), (0, .ref (X 0)), (1, .int x), (2, .int y), (3, .int z)]) hx hb dX10_headOf_85 hl (by decide) rfl (fun ls hl => ?_)
      refine lv_iload_n hx hb dX10_headOf_87 rfl (lv_at hl 7 rfl) ?_
      refine lv_if_ne (tgt := 96) hx hb dX10_headOf_88 (by decide) (fun c88 => ?_) (fun c88 => ?_)
      · refine lv_iload_n hx hb dX10_headOf_96 rfl (lv_at hl 7 rfl) ?_
        refine lv_iconst (v := 1) hx hb dX10_headOf_97 (by decide) ?_
        refine lv_icmp_ne (tgt := 106) hx hb dX10_headOf_98 (by decide) (fun c98 => ?_) (fun c98 => ?_)
        · refine lv_iload_n hx hb dX10_headOf_106 rfl (lv_at hl 7 rfl) ?_
          refine lv_iconst (v := 2) hx hb dX10_headOf_107 (by decide) ?_
          refine lv_icmp_ne (tgt := 116) hx hb dX10_headOf_108 (by decide) (fun c108 => ?_) (fun c108 => ?_)
          · refine lv_iload_n hx hb dX10_headOf_116 rfl (lv_at hl 7 rfl) ?_
            refine lv_iconst (v := 3) hx hb dX10_headOf_117 (by decide) ?_
            refine lv_icmp_ne (tgt := 136) hx hb dX10_headOf_118 (by decide) (fun c118 => ?_) (fun c118 => ?_)
            · refine lv_aload_n hx hb dX10_headOf_136 rfl (lv_at hl 4 rfl) ?_
              refine z_get (ci := 10) (fs := [.int (nI (S.1 0 0)), .int (nI (S.1 1 0)), .ref (X 2), .ref (X 3), .ref (X 4), .ref (X 5), .ref (X 6), .long S.2.2, .ref (X 8), .ref (X 9), .int (nI (S.1 10 0)), .ref (X 11), .ref (X 12), .ref (X 13), .ref (X 14), .ref (X 15), .ref (X 16), .ref (X 17), .ref (X 18), .ref (X 19), .int (nI (S.1 20 0)), .ref (X 21), .ref (X 22), .ref (X 23), .ref (X 24), .ref (X 25), .ref (X 26), .ref (X 27), .int (nI (clc S j d f27 (S.1 10 0)).2), .ref (X 29)]) (C := RX10) (T := TX10) (N := 30) hx hb hts in_X10 hown hK hZ m0 rfl 28 (by decide) fl_120 (fun _ h9 => h9) rfl dX10_headOf_137 ?_
              exact z_iret hx hb hr hlocks hZ dX10_headOf_140 (⟨⟨_, _, _, hM3⟩, hv_4 f27 hw hwk c88 c98 c108 c118⟩)
            · refine lv_iload hx hb dX10_headOf_121 (lv_at hl 0 rfl) ?_
              refine lv_iconst (v := 1) hx hb dX10_headOf_123 (by decide) ?_
              refine lv_icmp_ge (tgt := 131) hx hb dX10_headOf_124 (by decide) (fun c124 => ?_) (fun c124 => ?_)
              · refine lv_iload hx hb dX10_headOf_131 (lv_at hl 0 rfl) ?_
                refine lv_goto (tgt := 140) hx hb dX10_headOf_133 (by decide) ?_
                exact z_iret hx hb hr hlocks hZ dX10_headOf_140 (⟨⟨_, _, _, hM3⟩, hv_3b hw hwk c118 c124⟩)
              · refine lv_iconst (v := 1) hx hb dX10_headOf_127 (by decide) ?_
                refine lv_goto (tgt := 140) hx hb dX10_headOf_128 (by decide) ?_
                exact z_iret hx hb hr hlocks hZ dX10_headOf_140 (⟨⟨_, _, _, hM3⟩, hv_3a hw hwk c118 c124⟩)
          · refine lv_iload hx hb dX10_headOf_111 (lv_at hl 1 rfl) ?_
            refine lv_goto (tgt := 140) hx hb dX10_headOf_113 (by decide) ?_
            exact z_iret hx hb hr hlocks hZ dX10_headOf_140 (⟨⟨_, _, _, hM3⟩, hv_2 hw hwk c108⟩)
        · refine lv_iload hx hb dX10_headOf_101 (lv_at hl 2 rfl) ?_
          refine lv_goto (tgt := 140) hx hb dX10_headOf_103 (by decide) ?_
          exact z_iret hx hb hr hlocks hZ dX10_headOf_140 (⟨⟨_, _, _, hM3⟩, hv_1 hw hwk c98⟩)
      · refine lv_iload hx hb dX10_headOf_91 (lv_at hl 3 rfl) ?_
        refine lv_goto (tgt := 140) hx hb dX10_headOf_93 (by decide) ?_
        exact z_iret hx hb hr hlocks hZ dX10_headOf_140 (⟨⟨_, _, _, hM3⟩, hv_0 hw hwk c88⟩)
    · refine lv_iconst (v := 0) hx hb dX10_headOf_37 (by decide) ?_
      refine lv_goto (tgt := 59) hx hb dX10_headOf_38 (by decide) ?_
      refine W.eq (congrArg (fun v => F0 m 59 ls (.int v :: [])) (h1_n c34)) ?_
      refine W.eq (g2 := F0 m 59 ls [.int (h1 S j d)]) rfl ?_
      refine lv_istore (lv' := [(5, .int (h1 S j d)), (4, .int (h0 S j d)), (0, .ref (X 0)), (1, .int x), (2, .int y), (3, .int z)]) hx hb dX10_headOf_59 hl (by decide) rfl (fun ls hl => ?_)
      refine lv_aload_n hx hb dX10_headOf_61 rfl (lv_at hl 2 rfl) ?_
      refine lv_iload_n hx hb dX10_headOf_62 rfl (lv_at hl 4 rfl) ?_
      refine lv_iconst (v := 4) hx hb dX10_headOf_63 (by decide) ?_
      refine z_call (va_runV (As := [.int y, .int 4]) (rest := []) ⟨hx, hb, hml, hown, hts⟩ (c_X10_lawOf l D cT _ _ S X _ _ _ nn y 4 d 4 hM3 hXI hS (by omega) hyd (by decide) rfl) (cwV 2 hts gX10_headOf_X10_lawOf rfl rfl rfl (by decide +kernel) ⟨(Nat.le_of_ble_eq_true rfl), (Nat.le_of_ble_eq_true rfl)⟩) (z_preV hK hE hZ hA (ci := 10) rfl m0) rfl rfl hl.1 rfl (lv_room (Nat.le_of_ble_eq_true rfl)) dX10_headOf_64 ⟨(Nat.le_of_ble_eq_true rfl), (Nat.le_of_ble_eq_true rfl)⟩) hZ hA (fun r G64 H locs hq hZ => ?_)
      obtain ⟨hg, rfl⟩ := hq
      replace hg := hg.symm
      subst hg
      refine W.eq (g2 := F0 m 67 ls [.int (lw S d 4)]) rfl ?_
      refine lv_ineg hx hb dX10_headOf_67 ?_
      refine lv_aload_n hx hb dX10_headOf_68 rfl (lv_at hl 2 rfl) ?_
      refine z_get (ci := 10) (fs := [.int (nI (S.1 0 0)), .int (nI (S.1 1 0)), .ref (X 2), .ref (X 3), .ref (X 4), .ref (X 5), .ref (X 6), .long S.2.2, .ref (X 8), .ref (X 9), .int (nI (S.1 10 0)), .ref (X 11), .ref (X 12), .ref (X 13), .ref (X 14), .ref (X 15), .ref (X 16), .ref (X 17), .ref (X 18), .ref (X 19), .int (nI (S.1 20 0)), .ref (X 21), .ref (X 22), .ref (X 23), .ref (X 24), .ref (X 25), .ref (X 26), .ref (X 27), .int (nI (clc S j d f27 (S.1 10 0)).2), .ref (X 29)]) (C := RX10) (T := TX10) (N := 30) hx hb hts in_X10 hown hK hZ m0 rfl 6 (by decide) fl_22 (fun _ h9 => h9) rfl dX10_headOf_69 ?_
      refine lv_iload_n hx hb dX10_headOf_72 rfl (lv_at hl 3 rfl) ?_
      refine z_iald hx hb hK hZ m6 j hxj (by omega) (by decide) dX10_headOf_73 ?_
      refine lv_imul hx hb dX10_headOf_74 ?_
      refine W.eq (congrArg (fun v => F0 m 75 ls (.int v :: [])) h2_e) ?_
      refine W.eq (g2 := F0 m 75 ls [.int (h2 S j d)]) rfl ?_
      refine lv_istore (lv' := [(6, .int (h2 S j d)), (5, .int (h1 S j d)), (4, .int (h0 S j d)), (0, .ref (X 0)), (1, .int x), (2, .int y), (3, .int z)]) hx hb dX10_headOf_75 hl (by decide) rfl (fun ls hl => ?_)
      refine lv_iload hx hb dX10_headOf_77 (lv_at hl 2 rfl) ?_
      refine lv_iload hx hb dX10_headOf_79 (lv_at hl 1 rfl) ?_
      refine lv_iadd hx hb dX10_headOf_81 ?_
      refine lv_iload hx hb dX10_headOf_82 (lv_at hl 0 rfl) ?_
      refine lv_iadd hx hb dX10_headOf_84 ?_
      refine lv_istore (lv' := [(7, .int (((h0 S j d) + (h1 S j d)) + (h2 S j d))), (6, .int (h2 S j d)), (5, .int (h1 S j d)), (4, .int (h0 S j d)), (0, .ref (X 0)), (1, .int x), (2, .int y), (3, .int z)]) hx hb dX10_headOf_85 hl (by decide) rfl (fun ls hl => ?_)
      refine lv_iload_n hx hb dX10_headOf_87 rfl (lv_at hl 7 rfl) ?_
      refine lv_if_ne (tgt := 96) hx hb dX10_headOf_88 (by decide) (fun c88 => ?_) (fun c88 => ?_)
      · refine lv_iload_n hx hb dX10_headOf_96 rfl (lv_at hl 7 rfl) ?_
        refine lv_iconst (v := 1) hx hb dX10_headOf_97 (by decide) ?_
        refine lv_icmp_ne (tgt := 106) hx hb dX10_headOf_98 (by decide) (fun c98 => ?_) (fun c98 => ?_)
        · refine lv_iload_n hx hb dX10_headOf_106 rfl (lv_at hl 7 rfl) ?_
          refine lv_iconst (v := 2) hx hb dX10_headOf_107 (by decide) ?_
          refine lv_icmp_ne (tgt := 116) hx hb dX10_headOf_108 (by decide) (fun c108 => ?_) (fun c108 => ?_)
          · refine lv_iload_n hx hb dX10_headOf_116 rfl (lv_at hl 7 rfl) ?_
            refine lv_iconst (v := 3) hx hb dX10_headOf_117 (by decide) ?_
            refine lv_icmp_ne (tgt := 136) hx hb dX10_headOf_118 (by decide) (fun c118 => ?_) (fun c118 => ?_)
            · refine lv_aload_n hx hb dX10_headOf_136 rfl (lv_at hl 4 rfl) ?_
              refine z_get (ci := 10) (fs := [.int (nI (S.1 0 0)), .int (nI (S.1 1 0)), .ref (X 2), .ref (X 3), .ref (X 4), .ref (X 5), .ref (X 6), .long S.2.2, .ref (X 8), .ref (X 9), .int (nI (S.1 10 0)), .ref (X 11), .ref (X 12), .ref (X 13), .ref (X 14), .ref (X 15), .ref (X 16), .ref (X 17), .ref (X 18), .ref (X 19), .int (nI (S.1 20 0)), .ref (X 21), .ref (X 22), .ref (X 23), .ref (X 24), .ref (X 25), .ref (X 26), .ref (X 27), .int (nI (clc S j d f27 (S.1 10 0)).2), .ref (X 29)]) (C := RX10) (T := TX10) (N := 30) hx hb hts in_X10 hown hK hZ m0 rfl 28 (by decide) fl_120 (fun _ h9 => h9) rfl dX10_headOf_137 ?_
              exact z_iret hx hb hr hlocks hZ dX10_headOf_140 (⟨⟨_, _, _, hM3⟩, hv_4 f27 hw hwk c88 c98 c108 c118⟩)
            · refine lv_iload hx hb dX10_headOf_121 (lv_at hl 0 rfl) ?_
              refine lv_iconst (v := 1) hx hb dX10_headOf_123 (by decide) ?_
              refine lv_icmp_ge (tgt := 131) hx hb dX10_headOf_124 (by decide) (fun c124 => ?_) (fun c124 => ?_)
              · refine lv_iload hx hb dX10_headOf_131 (lv_at hl 0 rfl) ?_
                refine lv_goto (tgt := 140) hx hb dX10_headOf_133 (by decide) ?_
                exact z_iret hx hb hr hlocks hZ dX10_headOf_140 (⟨⟨_, _, _, hM3⟩, hv_3b hw hwk c118 c124⟩)
              · refine lv_iconst (v := 1) hx hb dX10_headOf_127 (by decide) ?_
                refine lv_goto (tgt := 140) hx hb dX10_headOf_128 (by decide) ?_
                exact z_iret hx hb hr hlocks hZ dX10_headOf_140 (⟨⟨_, _, _, hM3⟩, hv_3a hw hwk c118 c124⟩)
          · refine lv_iload hx hb dX10_headOf_111 (lv_at hl 1 rfl) ?_
            refine lv_goto (tgt := 140) hx hb dX10_headOf_113 (by decide) ?_
            exact z_iret hx hb hr hlocks hZ dX10_headOf_140 (⟨⟨_, _, _, hM3⟩, hv_2 hw hwk c108⟩)
        · refine lv_iload hx hb dX10_headOf_101 (lv_at hl 2 rfl) ?_
          refine lv_goto (tgt := 140) hx hb dX10_headOf_103 (by decide) ?_
          exact z_iret hx hb hr hlocks hZ dX10_headOf_140 (⟨⟨_, _, _, hM3⟩, hv_1 hw hwk c98⟩)
      · refine lv_iload hx hb dX10_headOf_91 (lv_at hl 3 rfl) ?_
        refine lv_goto (tgt := 140) hx hb dX10_headOf_93 (by decide) ?_
        exact z_iret hx hb hr hlocks hZ dX10_headOf_140 (⟨⟨_, _, _, hM3⟩, hv_0 hw hwk c88⟩)
  · have hc0 : (clc S j d f27 (S.1 10 0)).2 = 0 := nI_inj (by omega) (by decide) c10
    refine lv_iconst (v := 0) hx hb dX10_headOf_13 (by decide) ?_
    refine lv_goto (tgt := 30) hx hb dX10_headOf_14 (by decide) ?_
    refine W.eq (congrArg (fun v => F0 m 30 ls (.int v :: [])) (h0_z f27 hc0)) ?_
    refine W.eq (g2 := F0 m 30 ls [.int (h0 S j d)]) rfl ?_
    refine lv_istore (lv' := [(4, .int (h0 S j d)), (0, .ref (X 0)), (1, .int x), (2, .int y), (3, .int z)]) hx hb dX10_headOf_30 hl (by decide) rfl (fun ls hl => ?_)
    refine lv_iload hx hb dX10_headOf_32 (lv_at hl 0 rfl) ?_
    refine lv_if_ge (tgt := 41) hx hb dX10_headOf_34 (by decide) (fun c34 => ?_) (fun c34 => ?_)
    · refine lv_aload_n hx hb dX10_headOf_41 rfl (lv_at hl 1 rfl) ?_
      refine lv_iload_n hx hb dX10_headOf_42 rfl (lv_at hl 3 rfl) ?_
      refine lv_aload_n hx hb dX10_headOf_43 rfl (lv_at hl 1 rfl) ?_
      refine z_get (ci := 10) (fs := [.int (nI (S.1 0 0)), .int (nI (S.1 1 0)), .ref (X 2), .ref (X 3), .ref (X 4), .ref (X 5), .ref (X 6), .long S.2.2, .ref (X 8), .ref (X 9), .int (nI (S.1 10 0)), .ref (X 11), .ref (X 12), .ref (X 13), .ref (X 14), .ref (X 15), .ref (X 16), .ref (X 17), .ref (X 18), .ref (X 19), .int (nI (S.1 20 0)), .ref (X 21), .ref (X 22), .ref (X 23), .ref (X 24), .ref (X 25), .ref (X 26), .ref (X 27), .int (nI (clc S j d f27 (S.1 10 0)).2), .ref (X 29)]) (C := RX10) (T := TX10) (N := 30) hx hb hts in_X10 hown hK hZ m0 rfl 3 (by decide) fl_13 (fun _ h9 => h9) rfl dX10_headOf_44 ?_
      refine lv_iload_n hx hb dX10_headOf_47 rfl (lv_at hl 2 rfl) ?_
      refine z_iald hx hb hK hZ m3 j hxj (by omega) (by decide) dX10_headOf_48 ?_
      refine z_call (va_runV (As := [.int y, .int (nI (S.1 3 j))]) (rest := []) ⟨hx, hb, hml, hown, hts⟩ (c_X10_lawOf l D cT _ _ S X _ _ _ nn y (nI (S.1 3 j)) d (S.1 3 j) hM3 hXI hS (by omega) hyd (by omega) rfl) (cwV 2 hts gX10_headOf_X10_lawOf rfl rfl rfl (by decide +kernel) ⟨(Nat.le_of_ble_eq_true rfl), (Nat.le_of_ble_eq_true rfl)⟩) (z_preV hK hE hZ hA (ci := 10) rfl m0) rfl rfl hl.1 rfl (lv_room (Nat.le_of_ble_eq_true rfl)) dX10_headOf_49 ⟨(Nat.le_of_ble_eq_true rfl), (Nat.le_of_ble_eq_true rfl)⟩) hZ hA (fun r G49 H locs hq hZ => ?_)
      obtain ⟨hg, rfl⟩ := hq
      replace hg := hg.symm
      subst hg
      refine W.eq (g2 := F0 m 52 ls [.int (lw S d (S.1 3 j))]) rfl ?_
      refine lv_iload hx hb dX10_headOf_52 (lv_at hl 0 rfl) ?_
      refine lv_imul hx hb dX10_headOf_54 ?_
      refine lv_bipush (v := 100) hx hb dX10_headOf_55 (by decide) ?_
      refine lv_idiv hx hb dX10_headOf_57 (by decide) ?_
      refine lv_ineg hx hb dX10_headOf_58 ?_
      refine W.eq (congrArg (fun v => F0 m 59 ls (.int v :: [])) (h1_p c34)) ?_
      refine W.eq (g2 := F0 m 59 ls [.int (h1 S j d)]) rfl ?_
      refine lv_istore (lv' := [(5, .int (h1 S j d)), (4, .int (h0 S j d)), (0, .ref (X 0)), (1, .int x), (2, .int y), (3, .int z)]) hx hb dX10_headOf_59 hl (by decide) rfl (fun ls hl => ?_)
      refine lv_aload_n hx hb dX10_headOf_61 rfl (lv_at hl 2 rfl) ?_
      refine lv_iload_n hx hb dX10_headOf_62 rfl (lv_at hl 4 rfl) ?_
      refine lv_iconst (v := 4) hx hb dX10_headOf_63 (by decide) ?_
      refine z_call (va_runV (As := [.int y, .int 4]) (rest := []) ⟨hx, hb, hml, hown, hts⟩ (c_X10_lawOf l D cT _ _ S X _ _ _ nn y 4 d 4 hM3 hXI hS (by omega) hyd (by decide) rfl) (cwV 2 hts gX10_headOf_X10_lawOf rfl rfl rfl (by decide +kernel) ⟨(Nat.le_of_ble_eq_true rfl), (Nat.le_of_ble_eq_true rfl)⟩) (z_preV hK hE hZ hA (ci := 10) rfl m0) rfl rfl hl.1 rfl (lv_room (Nat.le_of_ble_eq_true rfl)) dX10_headOf_64 ⟨(Nat.le_of_ble_eq_true rfl), (Nat.le_of_ble_eq_true rfl)⟩) hZ hA (fun r G64 H locs hq hZ => ?_)
      obtain ⟨hg, rfl⟩ := hq
      replace hg := hg.symm
      subst hg
      refine W.eq (g2 := F0 m 67 ls [.int (lw S d 4)]) rfl ?_
      refine lv_ineg hx hb dX10_headOf_67 ?_
      refine lv_aload_n hx hb dX10_headOf_68 rfl (lv_at hl 2 rfl) ?_
      refine z_get (ci := 10) (fs := [.int (nI (S.1 0 0)), .int (nI (S.1 1 0)), .ref (X 2), .ref (X 3), .ref (X 4), .ref (X 5), .ref (X 6), .long S.2.2, .ref (X 8), .ref (X 9), .int (nI (S.1 10 0)), .ref (X 11), .ref (X 12), .ref (X 13), .ref (X 14), .ref (X 15), .ref (X 16), .ref (X 17), .ref (X 18), .ref (X 19), .int (nI (S.1 20 0)), .ref (X 21), .ref (X 22), .ref (X 23), .ref (X 24), .ref (X 25), .ref (X 26), .ref (X 27), .int (nI (clc S j d f27 (S.1 10 0)).2), .ref (X 29)]) (C := RX10) (T := TX10) (N := 30) hx hb hts in_X10 hown hK hZ m0 rfl 6 (by decide) fl_22 (fun _ h9 => h9) rfl dX10_headOf_69 ?_
      refine lv_iload_n hx hb dX10_headOf_72 rfl (lv_at hl 3 rfl) ?_
      refine z_iald hx hb hK hZ m6 j hxj (by omega) (by decide) dX10_headOf_73 ?_
      refine lv_imul hx hb dX10_headOf_74 ?_
      refine W.eq (congrArg (fun v => F0 m 75 ls (.int v :: [])) h2_e) ?_
      refine W.eq (g2 := F0 m 75 ls [.int (h2 S j d)]) rfl ?_
      refine lv_istore (lv' := [(6, .int (h2 S j d)), (5, .int (h1 S j d)), (4, .int (h0 S j d)), (0, .ref (X 0)), (1, .int x), (2, .int y), (3, .int z)]) hx hb dX10_headOf_75 hl (by decide) rfl (fun ls hl => ?_)
      refine lv_iload hx hb dX10_headOf_77 (lv_at hl 2 rfl) ?_
      refine lv_iload hx hb dX10_headOf_79 (lv_at hl 1 rfl) ?_
      refine lv_iadd hx hb dX10_headOf_81 ?_
      refine lv_iload hx hb dX10_headOf_82 (lv_at hl 0 rfl) ?_
      refine lv_iadd hx hb dX10_headOf_84 ?_
      refine lv_istore (lv' := [(7, .int (((h0 S j d) + (h1 S j d)) + (h2 S j d))), (6, .int (h2 S j d)), (5, .int (h1 S j d)), (4, .int (h0 S j d)), (0, .ref (X 0)), (1, .int x), (2, .int y), (3, .int z)]) hx hb dX10_headOf_85 hl (by decide) rfl (fun ls hl => ?_)
      refine lv_iload_n hx hb dX10_headOf_87 rfl (lv_at hl 7 rfl) ?_
      refine lv_if_ne (tgt := 96) hx hb dX10_headOf_88 (by decide) (fun c88 => ?_) (fun c88 => ?_)
      · refine lv_iload_n hx hb dX10_headOf_96 rfl (lv_at hl 7 rfl) ?_
        refine lv_iconst (v := 1) hx hb dX10_headOf_97 (by decide) ?_
        refine lv_icmp_ne (tgt := 106) hx hb dX10_headOf_98 (by decide) (fun c98 => ?_) (fun c98 => ?_)
        · refine lv_iload_n hx hb dX10_headOf_106 rfl (lv_at hl 7 rfl) ?_
          refine lv_iconst (v := 2) hx hb dX10_headOf_107 (by decide) ?_
          refine lv_icmp_ne (tgt := 116) hx hb dX10_headOf_108 (by decide) (fun c108 => ?_) (fun c108 => ?_)
          · refine lv_iload_n hx hb dX10_headOf_116 rfl (lv_at hl 7 rfl) ?_
            refine lv_iconst (v := 3) hx hb dX10_headOf_117 (by decide) ?_
            refine lv_icmp_ne (tgt := 136) hx hb dX10_headOf_118 (by decide) (fun c118 => ?_) (fun c118 => ?_)
            · refine lv_aload_n hx hb dX10_headOf_136 rfl (lv_at hl 4 rfl) ?_
              refine z_get (ci := 10) (fs := [.int (nI (S.1 0 0)), .int (nI (S.1 1 0)), .ref (X 2), .ref (X 3), .ref (X 4), .ref (X 5), .ref (X 6), .long S.2.2, .ref (X 8), .ref (X 9), .int (nI (S.1 10 0)), .ref (X 11), .ref (X 12), .ref (X 13), .ref (X 14), .ref (X 15), .ref (X 16), .ref (X 17), .ref (X 18), .ref (X 19), .int (nI (S.1 20 0)), .ref (X 21), .ref (X 22), .ref (X 23), .ref (X 24), .ref (X 25), .ref (X 26), .ref (X 27), .int (nI (clc S j d f27 (S.1 10 0)).2), .ref (X 29)]) (C := RX10) (T := TX10) (N := 30) hx hb hts in_X10 hown hK hZ m0 rfl 28 (by decide) fl_120 (fun _ h9 => h9) rfl dX10_headOf_137 ?_
              exact z_iret hx hb hr hlocks hZ dX10_headOf_140 (⟨⟨_, _, _, hM3⟩, hv_4 f27 hw hwk c88 c98 c108 c118⟩)
            · refine lv_iload hx hb dX10_headOf_121 (lv_at hl 0 rfl) ?_
              refine lv_iconst (v := 1) hx hb dX10_headOf_123 (by decide) ?_
              refine lv_icmp_ge (tgt := 131) hx hb dX10_headOf_124 (by decide) (fun c124 => ?_) (fun c124 => ?_)
              · refine lv_iload hx hb dX10_headOf_131 (lv_at hl 0 rfl) ?_
                refine lv_goto (tgt := 140) hx hb dX10_headOf_133 (by decide) ?_
                exact z_iret hx hb hr hlocks hZ dX10_headOf_140 (⟨⟨_, _, _, hM3⟩, hv_3b hw hwk c118 c124⟩)
              · refine lv_iconst (v := 1) hx hb dX10_headOf_127 (by decide) ?_
                refine lv_goto (tgt := 140) hx hb dX10_headOf_128 (by decide) ?_
                exact z_iret hx hb hr hlocks hZ dX10_headOf_140 (⟨⟨_, _, _, hM3⟩, hv_3a hw hwk c118 c124⟩)
          · refine lv_iload hx hb dX10_headOf_111 (lv_at hl 1 rfl) ?_
            refine lv_goto (tgt := 140) hx hb dX10_headOf_113 (by decide) ?_
            exact z_iret hx hb hr hlocks hZ dX10_headOf_140 (⟨⟨_, _, _, hM3⟩, hv_2 hw hwk c108⟩)
        · refine lv_iload hx hb dX10_headOf_101 (lv_at hl 2 rfl) ?_
          refine lv_goto (tgt := 140) hx hb dX10_headOf_103 (by decide) ?_
          exact z_iret hx hb hr hlocks hZ dX10_headOf_140 (⟨⟨_, _, _, hM3⟩, hv_1 hw hwk c98⟩)
      · refine lv_iload hx hb dX10_headOf_91 (lv_at hl 3 rfl) ?_
        refine lv_goto (tgt := 140) hx hb dX10_headOf_93 (by decide) ?_
        exact z_iret hx hb hr hlocks hZ dX10_headOf_140 (⟨⟨_, _, _, hM3⟩, hv_0 hw hwk c88⟩)
    · refine lv_iconst (v := 0) hx hb dX10_headOf_37 (by decide) ?_
      refine lv_goto (tgt := 59) hx hb dX10_headOf_38 (by decide) ?_
      refine W.eq (congrArg (fun v => F0 m 59 ls (.int v :: [])) (h1_n c34)) ?_
      refine W.eq (g2 := F0 m 59 ls [.int (h1 S j d)]) rfl ?_
      refine lv_istore (lv' := [(5, .int (h1 S j d)), (4, .int (h0 S j d)), (0, .ref (X 0)), (1, .int x), (2, .int y), (3, .int z)]) hx hb dX10_headOf_59 hl (by decide) rfl (fun ls hl => ?_)
      refine lv_aload_n hx hb dX10_headOf_61 rfl (lv_at hl 2 rfl) ?_
      refine lv_iload_n hx hb dX10_headOf_62 rfl (lv_at hl 4 rfl) ?_
      refine lv_iconst (v := 4) hx hb dX10_headOf_63 (by decide) ?_
      refine z_call (va_runV (As := [.int y, .int 4]) (rest := []) ⟨hx, hb, hml, hown, hts⟩ (c_X10_lawOf l D cT _ _ S X _ _ _ nn y 4 d 4 hM3 hXI hS (by omega) hyd (by decide) rfl) (cwV 2 hts gX10_headOf_X10_lawOf rfl rfl rfl (by decide +kernel) ⟨(Nat.le_of_ble_eq_true rfl), (Nat.le_of_ble_eq_true rfl)⟩) (z_preV hK hE hZ hA (ci := 10) rfl m0) rfl rfl hl.1 rfl (lv_room (Nat.le_of_ble_eq_true rfl)) dX10_headOf_64 ⟨(Nat.le_of_ble_eq_true rfl), (Nat.le_of_ble_eq_true rfl)⟩) hZ hA (fun r G64 H locs hq hZ => ?_)
      obtain ⟨hg, rfl⟩ := hq
      replace hg := hg.symm
      subst hg
      refine W.eq (g2 := F0 m 67 ls [.int (lw S d 4)]) rfl ?_
      refine lv_ineg hx hb dX10_headOf_67 ?_
      refine lv_aload_n hx hb dX10_headOf_68 rfl (lv_at hl 2 rfl) ?_
      refine z_get (ci := 10) (fs := [.int (nI (S.1 0 0)), .int (nI (S.1 1 0)), .ref (X 2), .ref (X 3), .ref (X 4), .ref (X 5), .ref (X 6), .long S.2.2, .ref (X 8), .ref (X 9), .int (nI (S.1 10 0)), .ref (X 11), .ref (X 12), .ref (X 13), .ref (X 14), .ref (X 15), .ref (X 16), .ref (X 17), .ref (X 18), .ref (X 19), .int (nI (S.1 20 0)), .ref (X 21), .ref (X 22), .ref (X 23), .ref (X 24), .ref (X 25), .ref (X 26), .ref (X 27), .int (nI (clc S j d f27 (S.1 10 0)).2), .ref (X 29)]) (C := RX10) (T := TX10) (N := 30) hx hb hts in_X10 hown hK hZ m0 rfl 6 (by decide) fl_22 (fun _ h9 => h9) rfl dX10_headOf_69 ?_
      refine lv_iload_n hx hb dX10_headOf_72 rfl (lv_at hl 3 rfl) ?_
      refine z_iald hx hb hK hZ m6 j hxj (by omega) (by decide) dX10_headOf_73 ?_
      refine lv_imul hx hb dX10_headOf_74 ?_
      refine W.eq (congrArg (fun v => F0 m 75 ls (.int v :: [])) h2_e) ?_
      refine W.eq (g2 := F0 m 75 ls [.int (h2 S j d)]) rfl ?_
      refine lv_istore (lv' := [(6, .int (h2 S j d)), (5, .int (h1 S j d)), (4, .int (h0 S j d)), (0, .ref (X 0)), (1, .int x), (2, .int y), (3, .int z)]) hx hb dX10_headOf_75 hl (by decide) rfl (fun ls hl => ?_)
      refine lv_iload hx hb dX10_headOf_77 (lv_at hl 2 rfl) ?_
      refine lv_iload hx hb dX10_headOf_79 (lv_at hl 1 rfl) ?_
      refine lv_iadd hx hb dX10_headOf_81 ?_
      refine lv_iload hx hb dX10_headOf_82 (lv_at hl 0 rfl) ?_
      refine lv_iadd hx hb dX10_headOf_84 ?_
      refine lv_istore (lv' := [(7, .int (((h0 S j d) + (h1 S j d)) + (h2 S j d))), (6, .int (h2 S j d)), (5, .int (h1 S j d)), (4, .int (h0 S j d)), (0, .ref (X 0)), (1, .int x), (2, .int y), (3, .int z)]) hx hb dX10_headOf_85 hl (by decide) rfl (fun ls hl => ?_)
      refine lv_iload_n hx hb dX10_headOf_87 rfl (lv_at hl 7 rfl) ?_
      refine lv_if_ne (tgt := 96) hx hb dX10_headOf_88 (by decide) (fun c88 => ?_) (fun c88 => ?_)
      · refine lv_iload_n hx hb dX10_headOf_96 rfl (lv_at hl 7 rfl) ?_
        refine lv_iconst (v := 1) hx hb dX10_headOf_97 (by decide) ?_
        refine lv_icmp_ne (tgt := 106) hx hb dX10_headOf_98 (by decide) (fun c98 => ?_) (fun c98 => ?_)
        · refine lv_iload_n hx hb dX10_headOf_106 rfl (lv_at hl 7 rfl) ?_
          refine lv_iconst (v := 2) hx hb dX10_headOf_107 (by decide) ?_
          refine lv_icmp_ne (tgt := 116) hx hb dX10_headOf_108 (by decide) (fun c108 => ?_) (fun c108 => ?_)
          · refine lv_iload_n hx hb dX10_headOf_116 rfl (lv_at hl 7 rfl) ?_
            refine lv_iconst (v := 3) hx hb dX10_headOf_117 (by decide) ?_
            refine lv_icmp_ne (tgt := 136) hx hb dX10_headOf_118 (by decide) (fun c118 => ?_) (fun c118 => ?_)
            · refine lv_aload_n hx hb dX10_headOf_136 rfl (lv_at hl 4 rfl) ?_
              refine z_get (ci := 10) (fs := [.int (nI (S.1 0 0)), .int (nI (S.1 1 0)), .ref (X 2), .ref (X 3), .ref (X 4), .ref (X 5), .ref (X 6), .long S.2.2, .ref (X 8), .ref (X 9), .int (nI (S.1 10 0)), .ref (X 11), .ref (X 12), .ref (X 13), .ref (X 14), .ref (X 15), .ref (X 16), .ref (X 17), .ref (X 18), .ref (X 19), .int (nI (S.1 20 0)), .ref (X 21), .ref (X 22), .ref (X 23), .ref (X 24), .ref (X 25), .ref (X 26), .ref (X 27), .int (nI (clc S j d f27 (S.1 10 0)).2), .ref (X 29)]) (C := RX10) (T := TX10) (N := 30) hx hb hts in_X10 hown hK hZ m0 rfl 28 (by decide) fl_120 (fun _ h9 => h9) rfl dX10_headOf_137 ?_
              exact z_iret hx hb hr hlocks hZ dX10_headOf_140 (⟨⟨_, _, _, hM3⟩, hv_4 f27 hw hwk c88 c98 c108 c118⟩)
            · refine lv_iload hx hb dX10_headOf_121 (lv_at hl 0 rfl) ?_
              refine lv_iconst (v := 1) hx hb dX10_headOf_123 (by decide) ?_
              refine lv_icmp_ge (tgt := 131) hx hb dX10_headOf_124 (by decide) (fun c124 => ?_) (fun c124 => ?_)
              · refine lv_iload hx hb dX10_headOf_131 (lv_at hl 0 rfl) ?_
                refine lv_goto (tgt := 140) hx hb dX10_headOf_133 (by decide) ?_
                exact z_iret hx hb hr hlocks hZ dX10_headOf_140 (⟨⟨_, _, _, hM3⟩, hv_3b hw hwk c118 c124⟩)
              · refine lv_iconst (v := 1) hx hb dX10_headOf_127 (by decide) ?_
                refine lv_goto (tgt := 140) hx hb dX10_headOf_128 (by decide) ?_
                exact z_iret hx hb hr hlocks hZ dX10_headOf_140 (⟨⟨_, _, _, hM3⟩, hv_3a hw hwk c118 c124⟩)
          · refine lv_iload hx hb dX10_headOf_111 (lv_at hl 1 rfl) ?_
            refine lv_goto (tgt := 140) hx hb dX10_headOf_113 (by decide) ?_
            exact z_iret hx hb hr hlocks hZ dX10_headOf_140 (⟨⟨_, _, _, hM3⟩, hv_2 hw hwk c108⟩)
        · refine lv_iload hx hb dX10_headOf_101 (lv_at hl 2 rfl) ?_
          refine lv_goto (tgt := 140) hx hb dX10_headOf_103 (by decide) ?_
          exact z_iret hx hb hr hlocks hZ dX10_headOf_140 (⟨⟨_, _, _, hM3⟩, hv_1 hw hwk c98⟩)
      · refine lv_iload hx hb dX10_headOf_91 (lv_at hl 3 rfl) ?_
        refine lv_goto (tgt := 140) hx hb dX10_headOf_93 (by decide) ?_
        exact z_iret hx hb hr hlocks hZ dX10_headOf_140 (⟨⟨_, _, _, hM3⟩, hv_0 hw hwk c88⟩)

set_option maxHeartbeats 4000000 in
set_option maxRecDepth 100000 in
theorem c_X10_head (l : Launch) (D : va_G) (cT : Nat → ClassId) (G : zG) (sz : Nat) (S : zS) (X : Nat → Nat) (cz : Int32) (f27 f29 : Nat → Int32) (nn : Nat) (x y z : Int32) (hM : MD cT S X cz f27 f29 G) (hXI : XI X) (hS : ok S nn)  : zM l D cT yX10_head wsX10_head (zR 4 0 0) [.ref (X 0), .int x, .int y, .int z] G sz (mQ cT X (sp_head S x y z)) := by
  refine z_start (cc := cX10_head) (maxL := 4) (ret := (some .int)) (by decide) rfl (Nat.le_of_ble_eq_true rfl) ?_
  intro p e s m below meth c ls hI hZ hl
  obtain ⟨hx, hb, hr, hml, hts, hown, hlocks, hname, hK, hA, hE⟩ := hI
  have hl : lv_has ls 4 [(0, .ref (X 0)), (1, .int x), (2, .int y), (3, .int z)] := hl
  have hown : s.vm.findClass RX10 = some m.cls := hown
  obtain ⟨m0, m2, m3, m4, m5, m6, m8, m9, m11, m12, m13, m14, m15, m16, m17, m18, m19, m21, m22, m23, m24, m25, m26, m27, m29⟩ := id hM
  obtain ⟨⟨k1, k10, k20, k0⟩, kH, k9, k8, k15, k26, kL, kLn, kP, kE, kEm, kn⟩ := id hS
  refine lv_aload_n hx hb dX10_head_0 rfl (lv_at hl 0 rfl) ?_
  refine lv_iload_n hx hb dX10_head_1 rfl (lv_at hl 1 rfl) ?_
  refine z_call (va_runV (As := [.int x]) (rest := []) ⟨hx, hb, hml, hown, hts⟩ (c_X10_isHome l D cT _ _ S X _ _ _ nn x hM hXI hS ) (cwV 1 hts gX10_head_X10_isHome rfl rfl rfl (by decide +kernel) ⟨(Nat.le_of_ble_eq_true rfl), (Nat.le_of_ble_eq_true rfl)⟩) (z_preV hK hE hZ hA (ci := 10) rfl m0) rfl rfl hl.1 rfl (lv_room (Nat.le_of_ble_eq_true rfl)) dX10_head_2 ⟨(Nat.le_of_ble_eq_true rfl), (Nat.le_of_ble_eq_true rfl)⟩) hZ hA (fun r G2 H locs hq hZ => ?_)
  obtain ⟨hg, rfl⟩ := hq
  replace hg := hg.symm
  subst hg
  refine W.eq (g2 := F0 m 5 ls [.int (if 0 ≤ x ∧ x ≤ nI (S.1 1 0) - 1 then 1 else 0)]) rfl ?_
  refine zb_eq (tgt := 38) hx hb dX10_head_5 (by decide) (fun c5 => ?_) (fun c5 => ?_)
  · have hh := hix_no (S := S) c5
    refine lv_ldc (v := (-1000000000)) hx hb hown (hts (.constant RX10 131 (-1000000000)) (by decide +kernel)) dX10_head_38 ?_
    exact z_iret hx hb hr hlocks hZ dX10_head_40 (mQ_of (by rw [sp_head, hh]) ⟨_, _, _, hM⟩)
  · obtain ⟨j, hj, hxj, hh⟩ := hix_yes k1 c5
    refine lv_iload_n hx hb dX10_head_8 rfl (lv_at hl 2 rfl) ?_
    refine lv_iconst (v := 0) hx hb dX10_head_9 (by decide) ?_
    refine lv_sipush (v := 300) hx hb dX10_head_10 (by decide) ?_
    refine z_call (va_runS (As := [.int y, .int 0, .int 300]) (rest := []) ⟨hx, hb, hml, hown, hts⟩ (c_X10_in l D cT _ _ y 0 300) (va_cwS 3 hts gX10_head_X10_in rfl rfl rfl (by decide +kernel) ⟨(Nat.le_of_ble_eq_true rfl), (Nat.le_of_ble_eq_true rfl)⟩) (z_preS hK hE hZ hA) rfl rfl hl.1 rfl (lv_room (Nat.le_of_ble_eq_true rfl)) dX10_head_13 ⟨(Nat.le_of_ble_eq_true rfl), (Nat.le_of_ble_eq_true rfl)⟩) hZ hA (fun r G13 H locs hq hZ => ?_)
    obtain ⟨hg, rfl⟩ := hq
    replace hg := hg.symm
    subst hg
    refine W.eq (g2 := F0 m 16 ls [.int (if 0 ≤ y ∧ y ≤ 300 then 1 else 0)]) rfl ?_
    refine zb_eq (tgt := 38) hx hb dX10_head_16 (by decide) (fun c16 => ?_) (fun c16 => ?_)
    · refine lv_ldc (v := (-1000000000)) hx hb hown (hts (.constant RX10 131 (-1000000000)) (by decide +kernel)) dX10_head_38 ?_
      exact z_iret hx hb hr hlocks hZ dX10_head_40 (mQ_of (by rw [sp_head, hh]; simp only []; rw [if_neg (fun h => c16 h.1)]) ⟨_, _, _, hM⟩)
    · refine lv_iload_n hx hb dX10_head_19 rfl (lv_at hl 3 rfl) ?_
      refine lv_iconst (v := 0) hx hb dX10_head_20 (by decide) ?_
      refine lv_iconst (v := 4) hx hb dX10_head_21 (by decide) ?_
      refine z_call (va_runS (As := [.int z, .int 0, .int 4]) (rest := []) ⟨hx, hb, hml, hown, hts⟩ (c_X10_in l D cT _ _ z 0 4) (va_cwS 3 hts gX10_head_X10_in rfl rfl rfl (by decide +kernel) ⟨(Nat.le_of_ble_eq_true rfl), (Nat.le_of_ble_eq_true rfl)⟩) (z_preS hK hE hZ hA) rfl rfl hl.1 rfl (lv_room (Nat.le_of_ble_eq_true rfl)) dX10_head_22 ⟨(Nat.le_of_ble_eq_true rfl), (Nat.le_of_ble_eq_true rfl)⟩) hZ hA (fun r G22 H locs hq hZ => ?_)
      obtain ⟨hg, rfl⟩ := hq
      replace hg := hg.symm
      subst hg
      refine W.eq (g2 := F0 m 25 ls [.int (if 0 ≤ z ∧ z ≤ 4 then 1 else 0)]) rfl ?_
      refine zb_eq (tgt := 38) hx hb dX10_head_25 (by decide) (fun c25 => ?_) (fun c25 => ?_)
      · refine lv_ldc (v := (-1000000000)) hx hb hown (hts (.constant RX10 131 (-1000000000)) (by decide +kernel)) dX10_head_38 ?_
        exact z_iret hx hb hr hlocks hZ dX10_head_40 (mQ_of (by rw [sp_head, hh]; simp only []; rw [if_neg (fun h => c25 h.2)]) ⟨_, _, _, hM⟩)
      · have hyd : y = nI y.toNatClampNeg := (z_self c16.1).symm
        have hd : y.toNatClampNeg ≤ 300 := z_cl c16 (by decide)
        have hwk : z = nI z.toNatClampNeg := (z_self c25.1).symm
        have hw : z.toNatClampNeg ≤ 4 := z_cl c25 (by decide)
        refine lv_aload_n hx hb dX10_head_28 rfl (lv_at hl 0 rfl) ?_
        refine lv_iload_n hx hb dX10_head_29 rfl (lv_at hl 1 rfl) ?_
        refine lv_iload_n hx hb dX10_head_30 rfl (lv_at hl 2 rfl) ?_
        refine lv_iload_n hx hb dX10_head_31 rfl (lv_at hl 3 rfl) ?_
        refine z_call (va_runV (As := [.int x, .int y, .int z]) (rest := []) ⟨hx, hb, hml, hown, hts⟩ (c_X10_headOf l D cT _ _ S X _ _ _ nn x y z j y.toNatClampNeg z.toNatClampNeg hM hXI hS hj hxj hd hyd hw hwk) (cwV 3 hts gX10_head_X10_headOf rfl rfl rfl (by decide +kernel) ⟨(Nat.le_of_ble_eq_true rfl), (Nat.le_of_ble_eq_true rfl)⟩) (z_preV hK hE hZ hA (ci := 10) rfl m0) rfl rfl hl.1 rfl (lv_room (Nat.le_of_ble_eq_true rfl)) dX10_head_32 ⟨(Nat.le_of_ble_eq_true rfl), (Nat.le_of_ble_eq_true rfl)⟩) hZ hA (fun r G32 H locs hq hZ => ?_)
        obtain ⟨⟨cz32, fa32, fb32, hM32⟩, rfl⟩ := hq
        obtain ⟨m0, m2, m3, m4, m5, m6, m8, m9, m11, m12, m13, m14, m15, m16, m17, m18, m19, m21, m22, m23, m24, m25, m26, m27, m29⟩ := id hM32
        refine W.eq (g2 := F0 m 35 ls [.int (hv S j y.toNatClampNeg z.toNatClampNeg)]) rfl ?_
        refine lv_goto (tgt := 40) hx hb dX10_head_35 (by decide) ?_
        exact z_iret hx hb hr hlocks hZ dX10_head_40 (mQ_of (by rw [sp_head, hh]; simp only []; rw [if_pos ⟨c16, c25⟩]) ⟨_, _, _, hM32⟩)

set_option maxHeartbeats 4000000 in
set_option maxRecDepth 100000 in
theorem c_X10_latestOf (l : Launch) (D : va_G) (cT : Nat → ClassId) (G : zG) (sz : Nat) (S : zS) (X : Nat → Nat) (cz : Int32) (f27 f29 : Nat → Int32) (nn : Nat) (x : Int32) (j : Nat) (hM : MD cT S X cz f27 f29 G) (hXI : XI X) (hS : ok S nn) (hj : j < S.1 1 0) (hxj : x = nI j) : zM l D cT yX10_latestOf wsX10_latestOf (zR 0 0 0) [.ref (X 0), .int x] G sz (fun r G' => G' = G ∧ r = some (.int (lav (lat S j)))) := by
  refine z_start (cc := cX10_latestOf) (maxL := 3) (ret := (some .int)) (by decide) rfl (Nat.le_of_ble_eq_true rfl) ?_
  intro p e s m below meth c ls hI hZ hl
  obtain ⟨hx, hb, hr, hml, hts, hown, hlocks, hname, hK, hA, hE⟩ := hI
  have hl : lv_has ls 3 [(0, .ref (X 0)), (1, .int x)] := hl
  have hown : s.vm.findClass RX10 = some m.cls := hown
  have in_X10 : ∀ w ∈ u_ws RX10 TX10 30, w ∈ wsX10_latestOf := by decide +kernel
  have fl_59 := hts (.fieldLink RX10 59 "FairRentsModel" "entryHome" "[I") (by decide +kernel)
  have fl_74 := hts (.fieldLink RX10 74 "FairRentsModel" "isGone" "[Z") (by decide +kernel)
  have fl_132 := hts (.fieldLink RX10 132 "FairRentsModel" "entries" "I") (by decide +kernel)
  obtain ⟨m0, m2, m3, m4, m5, m6, m8, m9, m11, m12, m13, m14, m15, m16, m17, m18, m19, m21, m22, m23, m24, m25, m26, m27, m29⟩ := id hM
  obtain ⟨⟨k1, k10, k20, k0⟩, kH, k9, k8, k15, k26, kL, kLn, kP, kE, kEm, kn⟩ := id hS
  refine lv_aload_n hx hb dX10_latestOf_0 rfl (lv_at hl 0 rfl) ?_
  refine z_get (ci := 10) (fs := [.int (nI (S.1 0 0)), .int (nI (S.1 1 0)), .ref (X 2), .ref (X 3), .ref (X 4), .ref (X 5), .ref (X 6), .long S.2.2, .ref (X 8), .ref (X 9), .int (nI (S.1 10 0)), .ref (X 11), .ref (X 12), .ref (X 13), .ref (X 14), .ref (X 15), .ref (X 16), .ref (X 17), .ref (X 18), .ref (X 19), .int (nI (S.1 20 0)), .ref (X 21), .ref (X 22), .ref (X 23), .ref (X 24), .ref (X 25), .ref (X 26), .ref (X 27), .int cz, .ref (X 29)]) (C := RX10) (T := TX10) (N := 30) hx hb hts in_X10 hown hK hZ m0 rfl 20 (by decide) fl_132 (fun _ h9 => h9) rfl dX10_latestOf_1 ?_
  refine lv_iconst (v := 1) hx hb dX10_latestOf_4 (by decide) ?_
  refine lv_isub hx hb dX10_latestOf_5 ?_
  refine lv_istore_n (lv' := [(2, .int ((nI (S.1 20 0)) - 1)), (0, .ref (X 0)), (1, .int x)]) hx hb dX10_latestOf_6 rfl hl (by decide) rfl (fun ls hl => ?_)
  have loop7 : ∀ (k : Nat) (hk : k ≤ S.1 20 0) (he : latS S j k = lat S j) (H : Heap) (locs : List Loc) (ls : Array Slot), zW D (zA G sz) s.heap G H locs → lv_has ls 3 [(2, .int (nI k - 1)), (0, .ref (X 0)), (1, .int x)] → W p l e (zR 0 0 0) s m ([.ref (X 0), .int x] : List Value).toArray below meth c H locs 0 0 (MQ below (zQ D G sz (fun r G' => G' = G ∧ r = some (.int (lav (lat S j))))) ([.ref (X 0), .int x] : List Value).toArray s 0 0 (zA G sz)) (F0 m 7 ls []) := by
    intro k
    induction k with
    | zero =>
      intro hk he H locs ls hZ hl
      refine lv_iload_n hx hb dX10_latestOf_7 rfl (lv_at hl 0 rfl) ?_
      refine lv_if_lt (tgt := 36) hx hb dX10_latestOf_8 (by decide) (fun _ => ?_) (fun c8 => absurd (show nI 0 - 1 < 0 by decide) c8)
      refine lv_iload_n hx hb dX10_latestOf_36 rfl (lv_at hl 0 rfl) ?_
      refine lv_if_ge (tgt := 45) hx hb dX10_latestOf_37 (by decide) (fun c37 => absurd c37 (show ¬ 0 ≤ nI 0 - 1 by decide)) (fun _ => ?_)
      refine lv_bipush (v := (-9)) hx hb dX10_latestOf_40 (by decide) ?_
      refine lv_goto (tgt := 46) hx hb dX10_latestOf_42 (by decide) ?_
      exact z_iret hx hb hr hlocks hZ dX10_latestOf_46 (⟨rfl, by rw [← he]; rfl⟩)
    | succ k ih7 =>
      intro hk he H locs ls hZ hl
      rw [nI_pred] at hl
      refine lv_iload_n hx hb dX10_latestOf_7 rfl (lv_at hl 0 rfl) ?_
      refine lv_if_lt (tgt := 36) hx hb dX10_latestOf_8 (by decide) (fun c8 => absurd c8 (nI_pos (by omega))) (fun _ => ?_)
      refine lv_aload_n hx hb dX10_latestOf_11 rfl (lv_at hl 1 rfl) ?_
      refine z_get (ci := 10) (fs := [.int (nI (S.1 0 0)), .int (nI (S.1 1 0)), .ref (X 2), .ref (X 3), .ref (X 4), .ref (X 5), .ref (X 6), .long S.2.2, .ref (X 8), .ref (X 9), .int (nI (S.1 10 0)), .ref (X 11), .ref (X 12), .ref (X 13), .ref (X 14), .ref (X 15), .ref (X 16), .ref (X 17), .ref (X 18), .ref (X 19), .int (nI (S.1 20 0)), .ref (X 21), .ref (X 22), .ref (X 23), .ref (X 24), .ref (X 25), .ref (X 26), .ref (X 27), .int cz, .ref (X 29)]) (C := RX10) (T := TX10) (N := 30) hx hb hts in_X10 hown hK hZ m0 rfl 21 (by decide) fl_59 (fun _ h9 => h9) rfl dX10_latestOf_12 ?_
      refine lv_iload_n hx hb dX10_latestOf_15 rfl (lv_at hl 0 rfl) ?_
      refine z_iald hx hb hK hZ m21 k rfl (by omega) (by decide) dX10_latestOf_16 ?_
      refine lv_iload_n hx hb dX10_latestOf_17 rfl (lv_at hl 2 rfl) ?_
      refine lv_icmp_ne (tgt := 30) hx hb dX10_latestOf_18 (by decide) (fun c18 => ?_) (fun c18 => ?_)
      · refine lv_iinc (v := nI k - 1) (lv' := [(2, .int (nI k - 1)), (0, .ref (X 0)), (1, .int x)]) hx hb dX10_latestOf_30 hl (k := 0) rfl (nI_m1 k) (by decide) rfl (fun ls hl => ?_)
        refine lv_goto (tgt := 7) hx hb dX10_latestOf_33 (by decide) ?_
        exact ih7 (by omega) (by rw [← he, latS, if_neg (fun h => c18 (by rw [hxj]; show nI _ = _; rw [h.1]))]) _ _ _ hZ (lv_sub hl [0, 1, 2] rfl)
      · refine lv_aload_n hx hb dX10_latestOf_21 rfl (lv_at hl 1 rfl) ?_
        refine z_get (ci := 10) (fs := [.int (nI (S.1 0 0)), .int (nI (S.1 1 0)), .ref (X 2), .ref (X 3), .ref (X 4), .ref (X 5), .ref (X 6), .long S.2.2, .ref (X 8), .ref (X 9), .int (nI (S.1 10 0)), .ref (X 11), .ref (X 12), .ref (X 13), .ref (X 14), .ref (X 15), .ref (X 16), .ref (X 17), .ref (X 18), .ref (X 19), .int (nI (S.1 20 0)), .ref (X 21), .ref (X 22), .ref (X 23), .ref (X 24), .ref (X 25), .ref (X 26), .ref (X 27), .int cz, .ref (X 29)]) (C := RX10) (T := TX10) (N := 30) hx hb hts in_X10 hown hK hZ m0 rfl 26 (by decide) fl_74 (fun _ h9 => h9) rfl dX10_latestOf_22 ?_
        refine lv_iload_n hx hb dX10_latestOf_25 rfl (lv_at hl 0 rfl) ?_
        refine z_zald hx hb hK hZ m26 k rfl (by omega) (by decide) dX10_latestOf_26 ?_
        refine lv_if_eq (tgt := 36) hx hb dX10_latestOf_27 (by decide) (fun c27 => ?_) (fun c27 => ?_)
        · refine lv_iload_n hx hb dX10_latestOf_36 rfl (lv_at hl 0 rfl) ?_
          refine lv_if_ge (tgt := 45) hx hb dX10_latestOf_37 (by decide) (fun _ => ?_) (fun c37 => absurd (nI_pos' (by omega)) c37)
          refine lv_iload_n hx hb dX10_latestOf_45 rfl (lv_at hl 0 rfl) ?_
          exact z_iret hx hb hr hlocks hZ dX10_latestOf_46 (⟨rfl, by rw [← he, latS, if_pos ⟨nI_inj (by have := (kE k (by omega)).1; omega) (by omega) (c18.trans hxj), n0 (Nat.le_succ_of_le (k26 _)) c27⟩]; rfl⟩)
        · refine lv_iinc (v := nI k - 1) (lv' := [(2, .int (nI k - 1)), (0, .ref (X 0)), (1, .int x)]) hx hb dX10_latestOf_30 hl (k := 0) rfl (nI_m1 k) (by decide) rfl (fun ls hl => ?_)
          refine lv_goto (tgt := 7) hx hb dX10_latestOf_33 (by decide) ?_
          exact ih7 (by omega) (by rw [← he, latS, if_neg (fun h => c27 (by show nI _ = 0; rw [h.2]; rfl))]) _ _ _ hZ (lv_sub hl [0, 1, 2] rfl)
  exact loop7 (S.1 20 0) (by omega) rfl _ _ _ hZ (lv_sub hl [0, 1, 2] rfl)

set_option maxHeartbeats 4000000 in
set_option maxRecDepth 100000 in
theorem c_X10_openOf (l : Launch) (D : va_G) (cT : Nat → ClassId) (G : zG) (sz : Nat) (S : zS) (X : Nat → Nat) (cz : Int32) (f27 f29 : Nat → Int32) (nn : Nat) (x : Int32) (j : Nat) (hM : MD cT S X cz f27 f29 G) (hXI : XI X) (hS : ok S nn) (hj : j < S.1 1 0) (hxj : x = nI j) : zM l D cT yX10_openOf wsX10_openOf (zR 2 0 0) [.ref (X 0), .int x] G sz (fun r G' => G' = G ∧ r = some (.int (if nI (S.1 0 0) < bar S j then bar S j else nI (S.1 0 0)))) := by
  refine z_start (cc := cX10_openOf) (maxL := 4) (ret := (some .int)) (by decide) rfl (Nat.le_of_ble_eq_true rfl) ?_
  intro p e s m below meth c ls hI hZ hl
  obtain ⟨hx, hb, hr, hml, hts, hown, hlocks, hname, hK, hA, hE⟩ := hI
  have hl : lv_has ls 4 [(0, .ref (X 0)), (1, .int x)] := hl
  have hown : s.vm.findClass RX10 = some m.cls := hown
  have in_X10 : ∀ w ∈ u_ws RX10 TX10 30, w ∈ wsX10_openOf := by decide +kernel
  have fl_62 := hts (.fieldLink RX10 62 "FairRentsModel" "entryDay" "[I") (by decide +kernel)
  have fl_107 := hts (.fieldLink RX10 107 "FairRentsModel" "today" "I") (by decide +kernel)
  obtain ⟨m0, m2, m3, m4, m5, m6, m8, m9, m11, m12, m13, m14, m15, m16, m17, m18, m19, m21, m22, m23, m24, m25, m26, m27, m29⟩ := id hM
  obtain ⟨⟨k1, k10, k20, k0⟩, kH, k9, k8, k15, k26, kL, kLn, kP, kE, kEm, kn⟩ := id hS
  refine lv_aload_n hx hb dX10_openOf_0 rfl (lv_at hl 0 rfl) ?_
  refine lv_iload_n hx hb dX10_openOf_1 rfl (lv_at hl 1 rfl) ?_
  refine z_call (va_runV (As := [.int x]) (rest := []) ⟨hx, hb, hml, hown, hts⟩ (c_X10_latestOf l D cT _ _ S X _ _ _ nn x j hM hXI hS hj hxj) (cwV 1 hts gX10_openOf_X10_latestOf rfl rfl rfl (by decide +kernel) ⟨(Nat.le_of_ble_eq_true rfl), (Nat.le_of_ble_eq_true rfl)⟩) (z_preV hK hE hZ hA (ci := 10) rfl m0) rfl rfl hl.1 rfl (lv_room (Nat.le_of_ble_eq_true rfl)) dX10_openOf_2 ⟨(Nat.le_of_ble_eq_true rfl), (Nat.le_of_ble_eq_true rfl)⟩) hZ hA (fun r G2 H locs hq hZ => ?_)
  obtain ⟨hg, rfl⟩ := hq
  replace hg := hg.symm
  subst hg
  refine W.eq (g2 := F0 m 5 ls [.int (lav (lat S j))]) rfl ?_
  rcases hlat : lat S j with _ | e2
  · refine W.eq (g2 := F0 m 5 ls [.int (-9)]) rfl ?_
    refine lv_istore_n (lv' := [(2, .int (-9)), (0, .ref (X 0)), (1, .int x)]) hx hb dX10_openOf_5 rfl hl (by decide) rfl (fun ls hl => ?_)
    refine lv_iload_n hx hb dX10_openOf_6 rfl (lv_at hl 0 rfl) ?_
    refine lv_if_ge (tgt := 14) hx hb dX10_openOf_7 (by decide) (fun c7 => absurd c7 (show ¬ (0 : Int32) ≤ -9 by decide)) (fun _ => ?_)
    refine lv_iconst (v := 0) hx hb dX10_openOf_10 (by decide) ?_
    refine lv_goto (tgt := 33) hx hb dX10_openOf_11 (by decide) ?_
    refine W.eq (congrArg (fun v => F0 m 33 ls (.int v :: [])) (bar_n hlat)) ?_
    refine W.eq (g2 := F0 m 33 ls [.int (bar S j)]) rfl ?_
    refine lv_istore_n (lv' := [(3, .int (bar S j)), (2, .int (-9)), (0, .ref (X 0)), (1, .int x)]) hx hb dX10_openOf_33 rfl hl (by decide) rfl (fun ls hl => ?_)
    refine lv_iload_n hx hb dX10_openOf_34 rfl (lv_at hl 0 rfl) ?_
    refine lv_aload_n hx hb dX10_openOf_35 rfl (lv_at hl 2 rfl) ?_
    refine z_get (ci := 10) (fs := [.int (nI (S.1 0 0)), .int (nI (S.1 1 0)), .ref (X 2), .ref (X 3), .ref (X 4), .ref (X 5), .ref (X 6), .long S.2.2, .ref (X 8), .ref (X 9), .int (nI (S.1 10 0)), .ref (X 11), .ref (X 12), .ref (X 13), .ref (X 14), .ref (X 15), .ref (X 16), .ref (X 17), .ref (X 18), .ref (X 19), .int (nI (S.1 20 0)), .ref (X 21), .ref (X 22), .ref (X 23), .ref (X 24), .ref (X 25), .ref (X 26), .ref (X 27), .int cz, .ref (X 29)]) (C := RX10) (T := TX10) (N := 30) hx hb hts in_X10 hown hK hZ m0 rfl 0 (by decide) fl_107 (fun _ h9 => h9) rfl dX10_openOf_36 ?_
    refine lv_icmp_ge (tgt := 49) hx hb dX10_openOf_39 (by decide) (fun c39 => ?_) (fun c39 => ?_)
    · refine lv_iload_n hx hb dX10_openOf_49 rfl (lv_at hl 0 rfl) ?_
      exact z_iret hx hb hr hlocks hZ dX10_openOf_50 (⟨rfl, op_t c39⟩)
    · refine lv_aload_n hx hb dX10_openOf_42 rfl (lv_at hl 2 rfl) ?_
      refine z_get (ci := 10) (fs := [.int (nI (S.1 0 0)), .int (nI (S.1 1 0)), .ref (X 2), .ref (X 3), .ref (X 4), .ref (X 5), .ref (X 6), .long S.2.2, .ref (X 8), .ref (X 9), .int (nI (S.1 10 0)), .ref (X 11), .ref (X 12), .ref (X 13), .ref (X 14), .ref (X 15), .ref (X 16), .ref (X 17), .ref (X 18), .ref (X 19), .int (nI (S.1 20 0)), .ref (X 21), .ref (X 22), .ref (X 23), .ref (X 24), .ref (X 25), .ref (X 26), .ref (X 27), .int cz, .ref (X 29)]) (C := RX10) (T := TX10) (N := 30) hx hb hts in_X10 hown hK hZ m0 rfl 0 (by decide) fl_107 (fun _ h9 => h9) rfl dX10_openOf_43 ?_
      refine lv_goto (tgt := 50) hx hb dX10_openOf_46 (by decide) ?_
      exact z_iret hx hb hr hlocks hZ dX10_openOf_50 (⟨rfl, op_f c39⟩)
  · refine W.eq (g2 := F0 m 5 ls [.int (nI e2)]) rfl ?_
    obtain ⟨e1, e21, e26⟩ := lat_some hlat
    obtain ⟨w1, w2, w3, w4⟩ := kE e2 e1
    refine lv_istore_n (lv' := [(2, .int (nI e2)), (0, .ref (X 0)), (1, .int x)]) hx hb dX10_openOf_5 rfl hl (by decide) rfl (fun ls hl => ?_)
    refine lv_iload_n hx hb dX10_openOf_6 rfl (lv_at hl 0 rfl) ?_
    refine lv_if_ge (tgt := 14) hx hb dX10_openOf_7 (by decide) (fun _ => ?_) (fun c7 => absurd (nI_pos' (by omega)) c7)
    refine lv_aload_n hx hb dX10_openOf_14 rfl (lv_at hl 1 rfl) ?_
    refine z_get (ci := 10) (fs := [.int (nI (S.1 0 0)), .int (nI (S.1 1 0)), .ref (X 2), .ref (X 3), .ref (X 4), .ref (X 5), .ref (X 6), .long S.2.2, .ref (X 8), .ref (X 9), .int (nI (S.1 10 0)), .ref (X 11), .ref (X 12), .ref (X 13), .ref (X 14), .ref (X 15), .ref (X 16), .ref (X 17), .ref (X 18), .ref (X 19), .int (nI (S.1 20 0)), .ref (X 21), .ref (X 22), .ref (X 23), .ref (X 24), .ref (X 25), .ref (X 26), .ref (X 27), .int cz, .ref (X 29)]) (C := RX10) (T := TX10) (N := 30) hx hb hts in_X10 hown hK hZ m0 rfl 22 (by decide) fl_62 (fun _ h9 => h9) rfl dX10_openOf_15 ?_
    refine lv_iload_n hx hb dX10_openOf_18 rfl (lv_at hl 0 rfl) ?_
    refine z_iald hx hb hK hZ m22 e2 rfl (by omega) (by decide) dX10_openOf_19 ?_
    refine lv_aload_n hx hb dX10_openOf_20 rfl (lv_at hl 1 rfl) ?_
    refine lv_aload_n hx hb dX10_openOf_21 rfl (lv_at hl 1 rfl) ?_
    refine z_get (ci := 10) (fs := [.int (nI (S.1 0 0)), .int (nI (S.1 1 0)), .ref (X 2), .ref (X 3), .ref (X 4), .ref (X 5), .ref (X 6), .long S.2.2, .ref (X 8), .ref (X 9), .int (nI (S.1 10 0)), .ref (X 11), .ref (X 12), .ref (X 13), .ref (X 14), .ref (X 15), .ref (X 16), .ref (X 17), .ref (X 18), .ref (X 19), .int (nI (S.1 20 0)), .ref (X 21), .ref (X 22), .ref (X 23), .ref (X 24), .ref (X 25), .ref (X 26), .ref (X 27), .int cz, .ref (X 29)]) (C := RX10) (T := TX10) (N := 30) hx hb hts in_X10 hown hK hZ m0 rfl 22 (by decide) fl_62 (fun _ h9 => h9) rfl dX10_openOf_22 ?_
    refine lv_iload_n hx hb dX10_openOf_25 rfl (lv_at hl 0 rfl) ?_
    refine z_iald hx hb hK hZ m22 e2 rfl (by omega) (by decide) dX10_openOf_26 ?_
    refine lv_bipush (v := 6) hx hb dX10_openOf_27 (by decide) ?_
    refine z_call (va_runV (As := [.int (nI (S.1 22 e2)), .int 6]) (rest := [.int (nI (S.1 22 e2))]) ⟨hx, hb, hml, hown, hts⟩ (c_X10_lawOf l D cT _ _ S X _ _ _ nn (nI (S.1 22 e2)) 6 (S.1 22 e2) 6 hM hXI hS (by omega) rfl (by decide) rfl) (cwV 2 hts gX10_openOf_X10_lawOf rfl rfl rfl (by decide +kernel) ⟨(Nat.le_of_ble_eq_true rfl), (Nat.le_of_ble_eq_true rfl)⟩) (z_preV hK hE hZ hA (ci := 10) rfl m0) rfl rfl hl.1 rfl (lv_room (Nat.le_of_ble_eq_true rfl)) dX10_openOf_29 ⟨(Nat.le_of_ble_eq_true rfl), (Nat.le_of_ble_eq_true rfl)⟩) hZ hA (fun r G29 H locs hq hZ => ?_)
    obtain ⟨hg, rfl⟩ := hq
    replace hg := hg.symm
    subst hg
    refine W.eq (g2 := F0 m 32 ls [.int (lw S (S.1 22 e2) 6), .int (nI (S.1 22 e2))]) rfl ?_
    refine lv_iadd hx hb dX10_openOf_32 ?_
    refine W.eq (congrArg (fun v => F0 m 33 ls (.int v :: [])) (bar_s hlat)) ?_
    refine W.eq (g2 := F0 m 33 ls [.int (bar S j)]) rfl ?_
    refine lv_istore_n (lv' := [(3, .int (bar S j)), (2, .int (nI e2)), (0, .ref (X 0)), (1, .int x)]) hx hb dX10_openOf_33 rfl hl (by decide) rfl (fun ls hl => ?_)
    refine lv_iload_n hx hb dX10_openOf_34 rfl (lv_at hl 0 rfl) ?_
    refine lv_aload_n hx hb dX10_openOf_35 rfl (lv_at hl 2 rfl) ?_
    refine z_get (ci := 10) (fs := [.int (nI (S.1 0 0)), .int (nI (S.1 1 0)), .ref (X 2), .ref (X 3), .ref (X 4), .ref (X 5), .ref (X 6), .long S.2.2, .ref (X 8), .ref (X 9), .int (nI (S.1 10 0)), .ref (X 11), .ref (X 12), .ref (X 13), .ref (X 14), .ref (X 15), .ref (X 16), .ref (X 17), .ref (X 18), .ref (X 19), .int (nI (S.1 20 0)), .ref (X 21), .ref (X 22), .ref (X 23), .ref (X 24), .ref (X 25), .ref (X 26), .ref (X 27), .int cz, .ref (X 29)]) (C := RX10) (T := TX10) (N := 30) hx hb hts in_X10 hown hK hZ m0 rfl 0 (by decide) fl_107 (fun _ h9 => h9) rfl dX10_openOf_36 ?_
    refine lv_icmp_ge (tgt := 49) hx hb dX10_openOf_39 (by decide) (fun c39 => ?_) (fun c39 => ?_)
    · refine lv_iload_n hx hb dX10_openOf_49 rfl (lv_at hl 0 rfl) ?_
      exact z_iret hx hb hr hlocks hZ dX10_openOf_50 (⟨rfl, op_t c39⟩)
    · refine lv_aload_n hx hb dX10_openOf_42 rfl (lv_at hl 2 rfl) ?_
      refine z_get (ci := 10) (fs := [.int (nI (S.1 0 0)), .int (nI (S.1 1 0)), .ref (X 2), .ref (X 3), .ref (X 4), .ref (X 5), .ref (X 6), .long S.2.2, .ref (X 8), .ref (X 9), .int (nI (S.1 10 0)), .ref (X 11), .ref (X 12), .ref (X 13), .ref (X 14), .ref (X 15), .ref (X 16), .ref (X 17), .ref (X 18), .ref (X 19), .int (nI (S.1 20 0)), .ref (X 21), .ref (X 22), .ref (X 23), .ref (X 24), .ref (X 25), .ref (X 26), .ref (X 27), .int cz, .ref (X 29)]) (C := RX10) (T := TX10) (N := 30) hx hb hts in_X10 hown hK hZ m0 rfl 0 (by decide) fl_107 (fun _ h9 => h9) rfl dX10_openOf_43 ?_
      refine lv_goto (tgt := 50) hx hb dX10_openOf_46 (by decide) ?_
      exact z_iret hx hb hr hlocks hZ dX10_openOf_50 (⟨rfl, op_f c39⟩)

set_option maxHeartbeats 4000000 in
set_option maxRecDepth 100000 in
theorem c_X10_open (l : Launch) (D : va_G) (cT : Nat → ClassId) (G : zG) (sz : Nat) (S : zS) (X : Nat → Nat) (cz : Int32) (f27 f29 : Nat → Int32) (nn : Nat) (x : Int32) (hM : MD cT S X cz f27 f29 G) (hXI : XI X) (hS : ok S nn)  : zM l D cT yX10_open wsX10_open (zR 3 0 0) [.ref (X 0), .int x] G sz (mQ cT X (sp_open S x)) := by
  refine z_start (cc := cX10_open) (maxL := 2) (ret := (some .int)) (by decide) rfl (Nat.le_of_ble_eq_true rfl) ?_
  intro p e s m below meth c ls hI hZ hl
  obtain ⟨hx, hb, hr, hml, hts, hown, hlocks, hname, hK, hA, hE⟩ := hI
  have hl : lv_has ls 2 [(0, .ref (X 0)), (1, .int x)] := hl
  have hown : s.vm.findClass RX10 = some m.cls := hown
  obtain ⟨m0, m2, m3, m4, m5, m6, m8, m9, m11, m12, m13, m14, m15, m16, m17, m18, m19, m21, m22, m23, m24, m25, m26, m27, m29⟩ := id hM
  obtain ⟨⟨k1, k10, k20, k0⟩, kH, k9, k8, k15, k26, kL, kLn, kP, kE, kEm, kn⟩ := id hS
  refine lv_aload_n hx hb dX10_open_0 rfl (lv_at hl 0 rfl) ?_
  refine lv_iload_n hx hb dX10_open_1 rfl (lv_at hl 1 rfl) ?_
  refine z_call (va_runV (As := [.int x]) (rest := []) ⟨hx, hb, hml, hown, hts⟩ (c_X10_isHome l D cT _ _ S X _ _ _ nn x hM hXI hS ) (cwV 1 hts gX10_open_X10_isHome rfl rfl rfl (by decide +kernel) ⟨(Nat.le_of_ble_eq_true rfl), (Nat.le_of_ble_eq_true rfl)⟩) (z_preV hK hE hZ hA (ci := 10) rfl m0) rfl rfl hl.1 rfl (lv_room (Nat.le_of_ble_eq_true rfl)) dX10_open_2 ⟨(Nat.le_of_ble_eq_true rfl), (Nat.le_of_ble_eq_true rfl)⟩) hZ hA (fun r G2 H locs hq hZ => ?_)
  obtain ⟨hg, rfl⟩ := hq
  replace hg := hg.symm
  subst hg
  refine W.eq (g2 := F0 m 5 ls [.int (if 0 ≤ x ∧ x ≤ nI (S.1 1 0) - 1 then 1 else 0)]) rfl ?_
  refine zb_eq (tgt := 16) hx hb dX10_open_5 (by decide) (fun c5 => ?_) (fun c5 => ?_)
  · have hh := hix_no (S := S) c5
    refine lv_iconst (v := (-1)) hx hb dX10_open_16 (by decide) ?_
    exact z_iret hx hb hr hlocks hZ dX10_open_17 (mQ_of (by rw [sp_open, hh]) ⟨_, _, _, hM⟩)
  · obtain ⟨j, hj, hxj, hh⟩ := hix_yes k1 c5
    refine lv_aload_n hx hb dX10_open_8 rfl (lv_at hl 0 rfl) ?_
    refine lv_iload_n hx hb dX10_open_9 rfl (lv_at hl 1 rfl) ?_
    refine z_call (va_runV (As := [.int x]) (rest := []) ⟨hx, hb, hml, hown, hts⟩ (c_X10_openOf l D cT _ _ S X _ _ _ nn x j hM hXI hS hj hxj) (cwV 1 hts gX10_open_X10_openOf rfl rfl rfl (by decide +kernel) ⟨(Nat.le_of_ble_eq_true rfl), (Nat.le_of_ble_eq_true rfl)⟩) (z_preV hK hE hZ hA (ci := 10) rfl m0) rfl rfl hl.1 rfl (lv_room (Nat.le_of_ble_eq_true rfl)) dX10_open_10 ⟨(Nat.le_of_ble_eq_true rfl), (Nat.le_of_ble_eq_true rfl)⟩) hZ hA (fun r G10 H locs hq hZ => ?_)
    obtain ⟨hg, rfl⟩ := hq
    replace hg := hg.symm
    subst hg
    refine W.eq (g2 := F0 m 13 ls [.int (if nI (S.1 0 0) < bar S j then bar S j else nI (S.1 0 0))]) rfl ?_
    refine lv_goto (tgt := 17) hx hb dX10_open_13 (by decide) ?_
    exact z_iret hx hb hr hlocks hZ dX10_open_17 (mQ_of (by rw [sp_open, hh]) ⟨_, _, _, hM⟩)

set_option maxHeartbeats 4000000 in
set_option maxRecDepth 100000 in
theorem c_X10_latest (l : Launch) (D : va_G) (cT : Nat → ClassId) (G : zG) (sz : Nat) (S : zS) (X : Nat → Nat) (cz : Int32) (f27 f29 : Nat → Int32) (nn : Nat) (x : Int32) (hM : MD cT S X cz f27 f29 G) (hXI : XI X) (hS : ok S nn)  : zM l D cT yX10_latest wsX10_latest (zR 2 0 0) [.ref (X 0), .int x] G sz (mQ cT X (sp_latest S x)) := by
  refine z_start (cc := cX10_latest) (maxL := 2) (ret := (some .int)) (by decide) rfl (Nat.le_of_ble_eq_true rfl) ?_
  intro p e s m below meth c ls hI hZ hl
  obtain ⟨hx, hb, hr, hml, hts, hown, hlocks, hname, hK, hA, hE⟩ := hI
  have hl : lv_has ls 2 [(0, .ref (X 0)), (1, .int x)] := hl
  have hown : s.vm.findClass RX10 = some m.cls := hown
  obtain ⟨m0, m2, m3, m4, m5, m6, m8, m9, m11, m12, m13, m14, m15, m16, m17, m18, m19, m21, m22, m23, m24, m25, m26, m27, m29⟩ := id hM
  obtain ⟨⟨k1, k10, k20, k0⟩, kH, k9, k8, k15, k26, kL, kLn, kP, kE, kEm, kn⟩ := id hS
  refine lv_aload_n hx hb dX10_latest_0 rfl (lv_at hl 0 rfl) ?_
  refine lv_iload_n hx hb dX10_latest_1 rfl (lv_at hl 1 rfl) ?_
  refine z_call (va_runV (As := [.int x]) (rest := []) ⟨hx, hb, hml, hown, hts⟩ (c_X10_isHome l D cT _ _ S X _ _ _ nn x hM hXI hS ) (cwV 1 hts gX10_latest_X10_isHome rfl rfl rfl (by decide +kernel) ⟨(Nat.le_of_ble_eq_true rfl), (Nat.le_of_ble_eq_true rfl)⟩) (z_preV hK hE hZ hA (ci := 10) rfl m0) rfl rfl hl.1 rfl (lv_room (Nat.le_of_ble_eq_true rfl)) dX10_latest_2 ⟨(Nat.le_of_ble_eq_true rfl), (Nat.le_of_ble_eq_true rfl)⟩) hZ hA (fun r G2 H locs hq hZ => ?_)
  obtain ⟨hg, rfl⟩ := hq
  replace hg := hg.symm
  subst hg
  refine W.eq (g2 := F0 m 5 ls [.int (if 0 ≤ x ∧ x ≤ nI (S.1 1 0) - 1 then 1 else 0)]) rfl ?_
  refine zb_eq (tgt := 16) hx hb dX10_latest_5 (by decide) (fun c5 => ?_) (fun c5 => ?_)
  · have hh := hix_no (S := S) c5
    refine lv_iconst (v := (-1)) hx hb dX10_latest_16 (by decide) ?_
    exact z_iret hx hb hr hlocks hZ dX10_latest_17 (mQ_of (by rw [sp_latest, hh]) ⟨_, _, _, hM⟩)
  · obtain ⟨j, hj, hxj, hh⟩ := hix_yes k1 c5
    refine lv_aload_n hx hb dX10_latest_8 rfl (lv_at hl 0 rfl) ?_
    refine lv_iload_n hx hb dX10_latest_9 rfl (lv_at hl 1 rfl) ?_
    refine z_call (va_runV (As := [.int x]) (rest := []) ⟨hx, hb, hml, hown, hts⟩ (c_X10_latestOf l D cT _ _ S X _ _ _ nn x j hM hXI hS hj hxj) (cwV 1 hts gX10_latest_X10_latestOf rfl rfl rfl (by decide +kernel) ⟨(Nat.le_of_ble_eq_true rfl), (Nat.le_of_ble_eq_true rfl)⟩) (z_preV hK hE hZ hA (ci := 10) rfl m0) rfl rfl hl.1 rfl (lv_room (Nat.le_of_ble_eq_true rfl)) dX10_latest_10 ⟨(Nat.le_of_ble_eq_true rfl), (Nat.le_of_ble_eq_true rfl)⟩) hZ hA (fun r G10 H locs hq hZ => ?_)
    obtain ⟨hg, rfl⟩ := hq
    replace hg := hg.symm
    subst hg
    refine W.eq (g2 := F0 m 13 ls [.int (lav (lat S j))]) rfl ?_
    refine lv_goto (tgt := 17) hx hb dX10_latest_13 (by decide) ?_
    exact z_iret hx hb hr hlocks hZ dX10_latest_17 (mQ_of (sp_latest_e hh) ⟨_, _, _, hM⟩)

set_option maxHeartbeats 4000000 in
set_option maxRecDepth 100000 in
theorem c_X10_appeal (l : Launch) (D : va_G) (cT : Nat → ClassId) (G : zG) (sz : Nat) (S : zS) (X : Nat → Nat) (cz : Int32) (f27 f29 : Nat → Int32) (nn : Nat) (x : Int32) (hM : MD cT S X cz f27 f29 G) (hXI : XI X) (hS : ok S nn)  : zM l D cT yX10_appeal wsX10_appeal (zR 2 0 0) [.ref (X 0), .int x] G sz (mQ cT X (sp_appeal S x)) := by
  refine z_start (cc := cX10_appeal) (maxL := 3) (ret := (some .int)) (by decide) rfl (Nat.le_of_ble_eq_true rfl) ?_
  intro p e s m below meth c ls hI hZ hl
  obtain ⟨hx, hb, hr, hml, hts, hown, hlocks, hname, hK, hA, hE⟩ := hI
  have hl : lv_has ls 3 [(0, .ref (X 0)), (1, .int x)] := hl
  have hown : s.vm.findClass RX10 = some m.cls := hown
  have in_X10 : ∀ w ∈ u_ws RX10 TX10 30, w ∈ wsX10_appeal := by decide +kernel
  have fl_62 := hts (.fieldLink RX10 62 "FairRentsModel" "entryDay" "[I") (by decide +kernel)
  have fl_74 := hts (.fieldLink RX10 74 "FairRentsModel" "isGone" "[Z") (by decide +kernel)
  have fl_107 := hts (.fieldLink RX10 107 "FairRentsModel" "today" "I") (by decide +kernel)
  obtain ⟨m0, m2, m3, m4, m5, m6, m8, m9, m11, m12, m13, m14, m15, m16, m17, m18, m19, m21, m22, m23, m24, m25, m26, m27, m29⟩ := id hM
  obtain ⟨⟨k1, k10, k20, k0⟩, kH, k9, k8, k15, k26, kL, kLn, kP, kE, kEm, kn⟩ := id hS
  refine lv_aload_n hx hb dX10_appeal_0 rfl (lv_at hl 0 rfl) ?_
  refine lv_iload_n hx hb dX10_appeal_1 rfl (lv_at hl 1 rfl) ?_
  refine z_call (va_runV (As := [.int x]) (rest := []) ⟨hx, hb, hml, hown, hts⟩ (c_X10_isHome l D cT _ _ S X _ _ _ nn x hM hXI hS ) (cwV 1 hts gX10_appeal_X10_isHome rfl rfl rfl (by decide +kernel) ⟨(Nat.le_of_ble_eq_true rfl), (Nat.le_of_ble_eq_true rfl)⟩) (z_preV hK hE hZ hA (ci := 10) rfl m0) rfl rfl hl.1 rfl (lv_room (Nat.le_of_ble_eq_true rfl)) dX10_appeal_2 ⟨(Nat.le_of_ble_eq_true rfl), (Nat.le_of_ble_eq_true rfl)⟩) hZ hA (fun r G2 H locs hq hZ => ?_)
  obtain ⟨hg, rfl⟩ := hq
  replace hg := hg.symm
  subst hg
  refine W.eq (g2 := F0 m 5 ls [.int (if 0 ≤ x ∧ x ≤ nI (S.1 1 0) - 1 then 1 else 0)]) rfl ?_
  refine zb_ne (tgt := 10) hx hb dX10_appeal_5 (by decide) (fun c5 => ?_) (fun c5 => ?_)
  · obtain ⟨j, hj, hxj, hh⟩ := hix_yes k1 c5
    refine lv_aload_n hx hb dX10_appeal_10 rfl (lv_at hl 0 rfl) ?_
    refine lv_iload_n hx hb dX10_appeal_11 rfl (lv_at hl 1 rfl) ?_
    refine z_call (va_runV (As := [.int x]) (rest := []) ⟨hx, hb, hml, hown, hts⟩ (c_X10_latestOf l D cT _ _ S X _ _ _ nn x j hM hXI hS hj hxj) (cwV 1 hts gX10_appeal_X10_latestOf rfl rfl rfl (by decide +kernel) ⟨(Nat.le_of_ble_eq_true rfl), (Nat.le_of_ble_eq_true rfl)⟩) (z_preV hK hE hZ hA (ci := 10) rfl m0) rfl rfl hl.1 rfl (lv_room (Nat.le_of_ble_eq_true rfl)) dX10_appeal_12 ⟨(Nat.le_of_ble_eq_true rfl), (Nat.le_of_ble_eq_true rfl)⟩) hZ hA (fun r G12 H locs hq hZ => ?_)
    obtain ⟨hg, rfl⟩ := hq
    replace hg := hg.symm
    subst hg
    refine W.eq (g2 := F0 m 15 ls [.int (lav (lat S j))]) rfl ?_
    rcases hlat : lat S j with _ | e2
    · refine W.eq (g2 := F0 m 15 ls [.int (-9)]) rfl ?_
      refine lv_istore_n (lv' := [(2, .int (-9)), (0, .ref (X 0)), (1, .int x)]) hx hb dX10_appeal_15 rfl hl (by decide) rfl (fun ls hl => ?_)
      refine lv_iload_n hx hb dX10_appeal_16 rfl (lv_at hl 0 rfl) ?_
      refine lv_if_lt (tgt := 35) hx hb dX10_appeal_17 (by decide) (fun _ => ?_) (fun c17 => absurd (show (-9 : Int32) < 0 by decide) c17)
      refine lv_bipush (v := (-2)) hx hb dX10_appeal_35 (by decide) ?_
      exact z_iret hx hb hr hlocks hZ dX10_appeal_37 (mQ_of (by rw [sp_appeal, hh]; simp only [hlat]) ⟨_, _, _, hM⟩)
    · refine W.eq (g2 := F0 m 15 ls [.int (nI e2)]) rfl ?_
      obtain ⟨e1, e21, e26⟩ := lat_some hlat
      obtain ⟨w1, w2, w3, w4⟩ := kE e2 e1
      refine lv_istore_n (lv' := [(2, .int (nI e2)), (0, .ref (X 0)), (1, .int x)]) hx hb dX10_appeal_15 rfl hl (by decide) rfl (fun ls hl => ?_)
      refine lv_iload_n hx hb dX10_appeal_16 rfl (lv_at hl 0 rfl) ?_
      refine lv_if_lt (tgt := 35) hx hb dX10_appeal_17 (by decide) (fun c17 => absurd c17 (nI_pos (by omega))) (fun _ => ?_)
      refine lv_aload_n hx hb dX10_appeal_20 rfl (lv_at hl 1 rfl) ?_
      refine z_get (ci := 10) (fs := [.int (nI (S.1 0 0)), .int (nI (S.1 1 0)), .ref (X 2), .ref (X 3), .ref (X 4), .ref (X 5), .ref (X 6), .long S.2.2, .ref (X 8), .ref (X 9), .int (nI (S.1 10 0)), .ref (X 11), .ref (X 12), .ref (X 13), .ref (X 14), .ref (X 15), .ref (X 16), .ref (X 17), .ref (X 18), .ref (X 19), .int (nI (S.1 20 0)), .ref (X 21), .ref (X 22), .ref (X 23), .ref (X 24), .ref (X 25), .ref (X 26), .ref (X 27), .int cz, .ref (X 29)]) (C := RX10) (T := TX10) (N := 30) hx hb hts in_X10 hown hK hZ m0 rfl 0 (by decide) fl_107 (fun _ h9 => h9) rfl dX10_appeal_21 ?_
      refine lv_aload_n hx hb dX10_appeal_24 rfl (lv_at hl 1 rfl) ?_
      refine z_get (ci := 10) (fs := [.int (nI (S.1 0 0)), .int (nI (S.1 1 0)), .ref (X 2), .ref (X 3), .ref (X 4), .ref (X 5), .ref (X 6), .long S.2.2, .ref (X 8), .ref (X 9), .int (nI (S.1 10 0)), .ref (X 11), .ref (X 12), .ref (X 13), .ref (X 14), .ref (X 15), .ref (X 16), .ref (X 17), .ref (X 18), .ref (X 19), .int (nI (S.1 20 0)), .ref (X 21), .ref (X 22), .ref (X 23), .ref (X 24), .ref (X 25), .ref (X 26), .ref (X 27), .int cz, .ref (X 29)]) (C := RX10) (T := TX10) (N := 30) hx hb hts in_X10 hown hK hZ m0 rfl 22 (by decide) fl_62 (fun _ h9 => h9) rfl dX10_appeal_25 ?_
      refine lv_iload_n hx hb dX10_appeal_28 rfl (lv_at hl 0 rfl) ?_
      refine z_iald hx hb hK hZ m22 e2 rfl (by omega) (by decide) dX10_appeal_29 ?_
      refine lv_isub hx hb dX10_appeal_30 ?_
      refine lv_iconst (v := 5) hx hb dX10_appeal_31 (by decide) ?_
      refine lv_icmp_le (tgt := 38) hx hb dX10_appeal_32 (by decide) (fun c32 => ?_) (fun c32 => ?_)
      · have hz : ¬ S.1 22 e2 + 5 < S.1 0 0 := ap_t w2 k0 c32
        refine lv_aload_n hx hb dX10_appeal_38 rfl (lv_at hl 1 rfl) ?_
        refine z_get (ci := 10) (fs := [.int (nI (S.1 0 0)), .int (nI (S.1 1 0)), .ref (X 2), .ref (X 3), .ref (X 4), .ref (X 5), .ref (X 6), .long S.2.2, .ref (X 8), .ref (X 9), .int (nI (S.1 10 0)), .ref (X 11), .ref (X 12), .ref (X 13), .ref (X 14), .ref (X 15), .ref (X 16), .ref (X 17), .ref (X 18), .ref (X 19), .int (nI (S.1 20 0)), .ref (X 21), .ref (X 22), .ref (X 23), .ref (X 24), .ref (X 25), .ref (X 26), .ref (X 27), .int cz, .ref (X 29)]) (C := RX10) (T := TX10) (N := 30) hx hb hts in_X10 hown hK hZ m0 rfl 26 (by decide) fl_74 (fun _ h9 => h9) rfl dX10_appeal_39 ?_
        refine lv_iload_n hx hb dX10_appeal_42 rfl (lv_at hl 0 rfl) ?_
        refine lv_iconst (v := 1) hx hb dX10_appeal_43 (by decide) ?_
        refine z_zast hx hb hK hZ m26 e2 rfl (by decide) (by omega) (by decide) dX10_appeal_44 (fun H locs hZ => ?_)
        refine lv_iload_n hx hb dX10_appeal_45 rfl (lv_at hl 0 rfl) ?_
        exact z_iret hx hb hr hlocks hZ dX10_appeal_46 (by rw [sp_appeal, hh]; simp only [hlat]; rw [if_neg hz]; exact ⟨⟨_, _, _, ((va_up_ne _ _ (fun q => absurd (hXI 0 26 (by decide) (by decide) q) (by decide))).trans m0), ((va_up_ne _ _ (fun q => absurd (hXI 2 26 (by decide) (by decide) q) (by decide))).trans m2), ((va_up_ne _ _ (fun q => absurd (hXI 3 26 (by decide) (by decide) q) (by decide))).trans m3), ((va_up_ne _ _ (fun q => absurd (hXI 4 26 (by decide) (by decide) q) (by decide))).trans m4), ((va_up_ne _ _ (fun q => absurd (hXI 5 26 (by decide) (by decide) q) (by decide))).trans m5), ((va_up_ne _ _ (fun q => absurd (hXI 6 26 (by decide) (by decide) q) (by decide))).trans m6), ((va_up_ne _ _ (fun q => absurd (hXI 8 26 (by decide) (by decide) q) (by decide))).trans m8), ((va_up_ne _ _ (fun q => absurd (hXI 9 26 (by decide) (by decide) q) (by decide))).trans m9), ((va_up_ne _ _ (fun q => absurd (hXI 11 26 (by decide) (by decide) q) (by decide))).trans m11), ((va_up_ne _ _ (fun q => absurd (hXI 12 26 (by decide) (by decide) q) (by decide))).trans m12), ((va_up_ne _ _ (fun q => absurd (hXI 13 26 (by decide) (by decide) q) (by decide))).trans m13), ((va_up_ne _ _ (fun q => absurd (hXI 14 26 (by decide) (by decide) q) (by decide))).trans m14), ((va_up_ne _ _ (fun q => absurd (hXI 15 26 (by decide) (by decide) q) (by decide))).trans m15), ((va_up_ne _ _ (fun q => absurd (hXI 16 26 (by decide) (by decide) q) (by decide))).trans m16), ((va_up_ne _ _ (fun q => absurd (hXI 17 26 (by decide) (by decide) q) (by decide))).trans m17), ((va_up_ne _ _ (fun q => absurd (hXI 18 26 (by decide) (by decide) q) (by decide))).trans m18), ((va_up_ne _ _ (fun q => absurd (hXI 19 26 (by decide) (by decide) q) (by decide))).trans m19), ((va_up_ne _ _ (fun q => absurd (hXI 21 26 (by decide) (by decide) q) (by decide))).trans m21), ((va_up_ne _ _ (fun q => absurd (hXI 22 26 (by decide) (by decide) q) (by decide))).trans m22), ((va_up_ne _ _ (fun q => absurd (hXI 23 26 (by decide) (by decide) q) (by decide))).trans m23), ((va_up_ne _ _ (fun q => absurd (hXI 24 26 (by decide) (by decide) q) (by decide))).trans m24), ((va_up_ne _ _ (fun q => absurd (hXI 25 26 (by decide) (by decide) q) (by decide))).trans m25), ((va_up_self _ _ _).trans (congrArg (fun f => some (Sum.inl (cT 1, 20, Sum.inl f))) (cN_sN S 26 _ 1))), ((va_up_ne _ _ (fun q => absurd (hXI 27 26 (by decide) (by decide) q) (by decide))).trans m27), ((va_up_ne _ _ (fun q => absurd (hXI 29 26 (by decide) (by decide) q) (by decide))).trans m29)⟩, rfl⟩)
      · have hz : S.1 22 e2 + 5 < S.1 0 0 := ap_f w2 k0 c32
        refine lv_bipush (v := (-2)) hx hb dX10_appeal_35 (by decide) ?_
        exact z_iret hx hb hr hlocks hZ dX10_appeal_37 (mQ_of (by rw [sp_appeal, hh]; simp only [hlat]; rw [if_pos hz]) ⟨_, _, _, hM⟩)
  · have hh := hix_no (S := S) c5
    refine lv_iconst (v := (-1)) hx hb dX10_appeal_8 (by decide) ?_
    exact z_iret hx hb hr hlocks hZ dX10_appeal_9 (mQ_of (by rw [sp_appeal, hh]) ⟨_, _, _, hM⟩)

set_option maxHeartbeats 4000000 in
set_option maxRecDepth 100000 in
theorem c_X10_trace (l : Launch) (D : va_G) (cT : Nat → ClassId) (G : zG) (sz : Nat) (S : zS) (X : Nat → Nat) (cz : Int32) (f27 f29 : Nat → Int32) (nn : Nat) (hM : MD cT S X cz f27 f29 G) (hXI : XI X) (hS : ok S nn) : zM l D cT yX10_trace wsX10_trace (zR 0 0 0) [.ref (X 0)] G sz (fun r G' => MDx cT S X G' ∧ r = some (.long S.2.2)) := by
  refine z_start (cc := cX10_trace) (maxL := 1) (ret := (some .long)) (by decide) rfl (Nat.le_of_ble_eq_true rfl) ?_
  intro p e s m below meth c ls hI hZ hl
  obtain ⟨hx, hb, hr, hml, hts, hown, hlocks, hname, hK, hA, hE⟩ := hI
  have hl : lv_has ls 1 [(0, .ref (X 0))] := hl
  have hown : s.vm.findClass RX10 = some m.cls := hown
  have in_X10 : ∀ w ∈ u_ws RX10 TX10 30, w ∈ wsX10_trace := by decide +kernel
  have fl_95 := hts (.fieldLink RX10 95 "FairRentsModel" "trace" "J") (by decide +kernel)
  obtain ⟨m0, m2, m3, m4, m5, m6, m8, m9, m11, m12, m13, m14, m15, m16, m17, m18, m19, m21, m22, m23, m24, m25, m26, m27, m29⟩ := id hM
  obtain ⟨⟨k1, k10, k20, k0⟩, kH, k9, k8, k15, k26, kL, kLn, kP, kE, kEm, kn⟩ := id hS
  refine lv_aload_n hx hb dX10_trace_0 rfl (lv_at hl 0 rfl) ?_
  refine z_get (ci := 10) (fs := [.int (nI (S.1 0 0)), .int (nI (S.1 1 0)), .ref (X 2), .ref (X 3), .ref (X 4), .ref (X 5), .ref (X 6), .long S.2.2, .ref (X 8), .ref (X 9), .int (nI (S.1 10 0)), .ref (X 11), .ref (X 12), .ref (X 13), .ref (X 14), .ref (X 15), .ref (X 16), .ref (X 17), .ref (X 18), .ref (X 19), .int (nI (S.1 20 0)), .ref (X 21), .ref (X 22), .ref (X 23), .ref (X 24), .ref (X 25), .ref (X 26), .ref (X 27), .int cz, .ref (X 29)]) (C := RX10) (T := TX10) (N := 30) hx hb hts in_X10 hown hK hZ m0 rfl 7 (by decide) fl_95 (fun _ h9 => h9) rfl dX10_trace_1 ?_
  exact z_lret hx hb hr hlocks hZ dX10_trace_4 (⟨⟨_, _, _, hM⟩, rfl⟩)
end
