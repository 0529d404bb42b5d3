section
-- ===== PART A: goes FIRST, ahead of the names: the tables' words, and 'selects' of the private methods out of them =====
/-- a private method of a class that the tables say can be made, by its rows of tables_1 -/
def lw_okq (q : MethodName × Nat) : Prop := (q.1.cls ≠ "java/lang/invoke/MethodHandle" ∧ q.1.cls ≠ "java/lang/invoke/VarHandle") ∧ Cond.instantiable q.1.cls q.2 ∈ tables_1 ∧ Cond.privateMethod q.1 ∈ tables_1 ∧ Cond.instanceMethod q.1 ∈ tables_1
theorem lw_p0 : lw_okq (⟨"IdeaWorks", "refuse", "(I)I"⟩, 12) := ⟨⟨by decide +kernel, by decide +kernel⟩, List.mem_of_getElem? (i := 15) (by decide +kernel), List.mem_of_getElem? (i := 282) (by decide +kernel), List.mem_of_getElem? (i := 283) (by decide +kernel)⟩
theorem lw_p1 : lw_okq (⟨"IdeaWorks", "isHand", "(I)Z"⟩, 12) := ⟨⟨by decide +kernel, by decide +kernel⟩, List.mem_of_getElem? (i := 15) (by decide +kernel), List.mem_of_getElem? (i := 294) (by decide +kernel), List.mem_of_getElem? (i := 295) (by decide +kernel)⟩
theorem lw_p2 : lw_okq (⟨"IdeaWorks$Families", "join", "(III)V"⟩, 2) := ⟨⟨by decide +kernel, by decide +kernel⟩, List.mem_of_getElem? (i := 223) (by decide +kernel), List.mem_of_getElem? (i := 334) (by decide +kernel), List.mem_of_getElem? (i := 335) (by decide +kernel)⟩
theorem lw_p3 : lw_okq (⟨"IdeaWorks", "isIdea", "(I)Z"⟩, 12) := ⟨⟨by decide +kernel, by decide +kernel⟩, List.mem_of_getElem? (i := 15) (by decide +kernel), List.mem_of_getElem? (i := 348) (by decide +kernel), List.mem_of_getElem? (i := 349) (by decide +kernel)⟩
theorem lw_p4 : lw_okq (⟨"IdeaWorks", "judgesFor", "(I)J"⟩, 12) := ⟨⟨by decide +kernel, by decide +kernel⟩, List.mem_of_getElem? (i := 15) (by decide +kernel), List.mem_of_getElem? (i := 418) (by decide +kernel), List.mem_of_getElem? (i := 419) (by decide +kernel)⟩
theorem lw_p5 : lw_okq (⟨"IdeaWorks", "nameThird", "(J)Z"⟩, 12) := ⟨⟨by decide +kernel, by decide +kernel⟩, List.mem_of_getElem? (i := 15) (by decide +kernel), List.mem_of_getElem? (i := 451) (by decide +kernel), List.mem_of_getElem? (i := 452) (by decide +kernel)⟩
theorem lw_p6 : lw_okq (⟨"IdeaWorks", "takeFamily", "(I)V"⟩, 12) := ⟨⟨by decide +kernel, by decide +kernel⟩, List.mem_of_getElem? (i := 15) (by decide +kernel), List.mem_of_getElem? (i := 455) (by decide +kernel), List.mem_of_getElem? (i := 456) (by decide +kernel)⟩
theorem lw_p7 : lw_okq (⟨"IdeaWorks", "settle", "(II)I"⟩, 12) := ⟨⟨by decide +kernel, by decide +kernel⟩, List.mem_of_getElem? (i := 15) (by decide +kernel), List.mem_of_getElem? (i := 459) (by decide +kernel), List.mem_of_getElem? (i := 460) (by decide +kernel)⟩
theorem lw_p8 : lw_okq (⟨"IdeaWorks", "payYearsSince", "(II)I"⟩, 12) := ⟨⟨by decide +kernel, by decide +kernel⟩, List.mem_of_getElem? (i := 15) (by decide +kernel), List.mem_of_getElem? (i := 468) (by decide +kernel), List.mem_of_getElem? (i := 469) (by decide +kernel)⟩
theorem lw_p9 : lw_okq (⟨"IdeaWorks", "ruleFor", "(I)I"⟩, 12) := ⟨⟨by decide +kernel, by decide +kernel⟩, List.mem_of_getElem? (i := 15) (by decide +kernel), List.mem_of_getElem? (i := 472) (by decide +kernel), List.mem_of_getElem? (i := 473) (by decide +kernel)⟩
theorem lw_p10 : lw_okq (⟨"IdeaWorks", "worthOf", "(LIdeaWorks$Families;I)I"⟩, 12) := ⟨⟨by decide +kernel, by decide +kernel⟩, List.mem_of_getElem? (i := 15) (by decide +kernel), List.mem_of_getElem? (i := 480) (by decide +kernel), List.mem_of_getElem? (i := 481) (by decide +kernel)⟩
theorem lw_p11 : lw_okq (⟨"IdeaWorks$Tally", "clear", "()V"⟩, 6) := ⟨⟨by decide +kernel, by decide +kernel⟩, List.mem_of_getElem? (i := 102) (by decide +kernel), List.mem_of_getElem? (i := 488) (by decide +kernel), List.mem_of_getElem? (i := 489) (by decide +kernel)⟩
theorem lw_p12 : lw_okq (⟨"IdeaWorks$Tally", "addAfter", "(II)V"⟩, 6) := ⟨⟨by decide +kernel, by decide +kernel⟩, List.mem_of_getElem? (i := 102) (by decide +kernel), List.mem_of_getElem? (i := 492) (by decide +kernel), List.mem_of_getElem? (i := 493) (by decide +kernel)⟩
theorem lw_p13 : lw_okq (⟨"IdeaWorks$Tally", "addBefore", "(II)V"⟩, 6) := ⟨⟨by decide +kernel, by decide +kernel⟩, List.mem_of_getElem? (i := 102) (by decide +kernel), List.mem_of_getElem? (i := 497) (by decide +kernel), List.mem_of_getElem? (i := 498) (by decide +kernel)⟩
theorem lw_p14 : lw_okq (⟨"IdeaWorks$Tally", "hasBoth", "(I)Z"⟩, 6) := ⟨⟨by decide +kernel, by decide +kernel⟩, List.mem_of_getElem? (i := 102) (by decide +kernel), List.mem_of_getElem? (i := 506) (by decide +kernel), List.mem_of_getElem? (i := 507) (by decide +kernel)⟩
theorem lw_p15 : lw_okq (⟨"IdeaWorks", "payOut", "(II)V"⟩, 12) := ⟨⟨by decide +kernel, by decide +kernel⟩, List.mem_of_getElem? (i := 15) (by decide +kernel), List.mem_of_getElem? (i := 518) (by decide +kernel), List.mem_of_getElem? (i := 519) (by decide +kernel)⟩
def lw_privs_1 : List (MethodName × Nat) := [(⟨"IdeaWorks", "refuse", "(I)I"⟩, 12), (⟨"IdeaWorks", "isHand", "(I)Z"⟩, 12), (⟨"IdeaWorks$Families", "join", "(III)V"⟩, 2), (⟨"IdeaWorks", "isIdea", "(I)Z"⟩, 12), (⟨"IdeaWorks", "judgesFor", "(I)J"⟩, 12), (⟨"IdeaWorks", "nameThird", "(J)Z"⟩, 12), (⟨"IdeaWorks", "takeFamily", "(I)V"⟩, 12), (⟨"IdeaWorks", "settle", "(II)I"⟩, 12), (⟨"IdeaWorks", "payYearsSince", "(II)I"⟩, 12), (⟨"IdeaWorks", "ruleFor", "(I)I"⟩, 12), (⟨"IdeaWorks", "worthOf", "(LIdeaWorks$Families;I)I"⟩, 12), (⟨"IdeaWorks$Tally", "clear", "()V"⟩, 6), (⟨"IdeaWorks$Tally", "addAfter", "(II)V"⟩, 6), (⟨"IdeaWorks$Tally", "addBefore", "(II)V"⟩, 6), (⟨"IdeaWorks$Tally", "hasBoth", "(I)Z"⟩, 6), (⟨"IdeaWorks", "payOut", "(II)V"⟩, 12)]
theorem lw_r1 : ∀ q ∈ lw_privs_1, lw_okq q := List.forall_mem_cons.mpr ⟨lw_p0, List.forall_mem_cons.mpr ⟨lw_p1, List.forall_mem_cons.mpr ⟨lw_p2, List.forall_mem_cons.mpr ⟨lw_p3, List.forall_mem_cons.mpr ⟨lw_p4, List.forall_mem_cons.mpr ⟨lw_p5, List.forall_mem_cons.mpr ⟨lw_p6, List.forall_mem_cons.mpr ⟨lw_p7, List.forall_mem_cons.mpr ⟨lw_p8, List.forall_mem_cons.mpr ⟨lw_p9, List.forall_mem_cons.mpr ⟨lw_p10, List.forall_mem_cons.mpr ⟨lw_p11, List.forall_mem_cons.mpr ⟨lw_p12, List.forall_mem_cons.mpr ⟨lw_p13, List.forall_mem_cons.mpr ⟨lw_p14, List.forall_mem_cons.mpr ⟨lw_p15, fun _ h => absurd h List.not_mem_nil⟩⟩⟩⟩⟩⟩⟩⟩⟩⟩⟩⟩⟩⟩⟩⟩
theorem lw_p16 : lw_okq (⟨"IdeaWorksModel", "no", "(I)I"⟩, 43) := ⟨⟨by decide +kernel, by decide +kernel⟩, List.mem_of_getElem? (i := 623) (by decide +kernel), List.mem_of_getElem? (i := 766) (by decide +kernel), List.mem_of_getElem? (i := 767) (by decide +kernel)⟩
theorem lw_p17 : lw_okq (⟨"IdeaWorksModel", "isHand", "(I)Z"⟩, 43) := ⟨⟨by decide +kernel, by decide +kernel⟩, List.mem_of_getElem? (i := 623) (by decide +kernel), List.mem_of_getElem? (i := 774) (by decide +kernel), List.mem_of_getElem? (i := 775) (by decide +kernel)⟩
theorem lw_p18 : lw_okq (⟨"IdeaWorksModel", "isIdea", "(I)Z"⟩, 43) := ⟨⟨by decide +kernel, by decide +kernel⟩, List.mem_of_getElem? (i := 623) (by decide +kernel), List.mem_of_getElem? (i := 790) (by decide +kernel), List.mem_of_getElem? (i := 791) (by decide +kernel)⟩
theorem lw_p19 : lw_okq (⟨"IdeaWorksModel", "isOf", "(II)Z"⟩, 43) := ⟨⟨by decide +kernel, by decide +kernel⟩, List.mem_of_getElem? (i := 623) (by decide +kernel), List.mem_of_getElem? (i := 794) (by decide +kernel), List.mem_of_getElem? (i := 795) (by decide +kernel)⟩
theorem lw_p20 : lw_okq (⟨"IdeaWorksModel", "families", "(I)V"⟩, 43) := ⟨⟨by decide +kernel, by decide +kernel⟩, List.mem_of_getElem? (i := 623) (by decide +kernel), List.mem_of_getElem? (i := 816) (by decide +kernel), List.mem_of_getElem? (i := 817) (by decide +kernel)⟩
theorem lw_p21 : lw_okq (⟨"IdeaWorksModel", "headOf", "(I)I"⟩, 43) := ⟨⟨by decide +kernel, by decide +kernel⟩, List.mem_of_getElem? (i := 623) (by decide +kernel), List.mem_of_getElem? (i := 824) (by decide +kernel), List.mem_of_getElem? (i := 825) (by decide +kernel)⟩
theorem lw_p22 : lw_okq (⟨"IdeaWorksModel", "isAhead", "(II)Z"⟩, 43) := ⟨⟨by decide +kernel, by decide +kernel⟩, List.mem_of_getElem? (i := 623) (by decide +kernel), List.mem_of_getElem? (i := 828) (by decide +kernel), List.mem_of_getElem? (i := 829) (by decide +kernel)⟩
theorem lw_p23 : lw_okq (⟨"IdeaWorksModel", "shareOf", "(I)I"⟩, 43) := ⟨⟨by decide +kernel, by decide +kernel⟩, List.mem_of_getElem? (i := 623) (by decide +kernel), List.mem_of_getElem? (i := 836) (by decide +kernel), List.mem_of_getElem? (i := 837) (by decide +kernel)⟩
theorem lw_p24 : lw_okq (⟨"IdeaWorksModel", "mayJudge", "(II)Z"⟩, 43) := ⟨⟨by decide +kernel, by decide +kernel⟩, List.mem_of_getElem? (i := 623) (by decide +kernel), List.mem_of_getElem? (i := 848) (by decide +kernel), List.mem_of_getElem? (i := 849) (by decide +kernel)⟩
theorem lw_p25 : lw_okq (⟨"IdeaWorksModel", "nextJudge", "(III)I"⟩, 43) := ⟨⟨by decide +kernel, by decide +kernel⟩, List.mem_of_getElem? (i := 623) (by decide +kernel), List.mem_of_getElem? (i := 856) (by decide +kernel), List.mem_of_getElem? (i := 857) (by decide +kernel)⟩
theorem lw_p26 : lw_okq (⟨"IdeaWorksModel", "settles", "(II)I"⟩, 43) := ⟨⟨by decide +kernel, by decide +kernel⟩, List.mem_of_getElem? (i := 623) (by decide +kernel), List.mem_of_getElem? (i := 864) (by decide +kernel), List.mem_of_getElem? (i := 865) (by decide +kernel)⟩
theorem lw_p27 : lw_okq (⟨"IdeaWorksModel", "delay", "(I)I"⟩, 43) := ⟨⟨by decide +kernel, by decide +kernel⟩, List.mem_of_getElem? (i := 623) (by decide +kernel), List.mem_of_getElem? (i := 868) (by decide +kernel), List.mem_of_getElem? (i := 869) (by decide +kernel)⟩
theorem lw_p28 : lw_okq (⟨"IdeaWorksModel", "saves", "(IIZ)I"⟩, 43) := ⟨⟨by decide +kernel, by decide +kernel⟩, List.mem_of_getElem? (i := 623) (by decide +kernel), List.mem_of_getElem? (i := 887) (by decide +kernel), List.mem_of_getElem? (i := 888) (by decide +kernel)⟩
theorem lw_p29 : lw_okq (⟨"IdeaWorksModel", "worthOf", "(I)I"⟩, 43) := ⟨⟨by decide +kernel, by decide +kernel⟩, List.mem_of_getElem? (i := 623) (by decide +kernel), List.mem_of_getElem? (i := 900) (by decide +kernel), List.mem_of_getElem? (i := 901) (by decide +kernel)⟩
theorem lw_p30 : lw_okq (⟨"IdeaWorksModel", "ruleFor", "(I)I"⟩, 43) := ⟨⟨by decide +kernel, by decide +kernel⟩, List.mem_of_getElem? (i := 623) (by decide +kernel), List.mem_of_getElem? (i := 912) (by decide +kernel), List.mem_of_getElem? (i := 913) (by decide +kernel)⟩
theorem lw_p31 : lw_okq (⟨"IdeaWorksModel", "paysToday", "(I)I"⟩, 43) := ⟨⟨by decide +kernel, by decide +kernel⟩, List.mem_of_getElem? (i := 623) (by decide +kernel), List.mem_of_getElem? (i := 920) (by decide +kernel), List.mem_of_getElem? (i := 921) (by decide +kernel)⟩
def lw_privs_2 : List (MethodName × Nat) := [(⟨"IdeaWorksModel", "no", "(I)I"⟩, 43), (⟨"IdeaWorksModel", "isHand", "(I)Z"⟩, 43), (⟨"IdeaWorksModel", "isIdea", "(I)Z"⟩, 43), (⟨"IdeaWorksModel", "isOf", "(II)Z"⟩, 43), (⟨"IdeaWorksModel", "families", "(I)V"⟩, 43), (⟨"IdeaWorksModel", "headOf", "(I)I"⟩, 43), (⟨"IdeaWorksModel", "isAhead", "(II)Z"⟩, 43), (⟨"IdeaWorksModel", "shareOf", "(I)I"⟩, 43), (⟨"IdeaWorksModel", "mayJudge", "(II)Z"⟩, 43), (⟨"IdeaWorksModel", "nextJudge", "(III)I"⟩, 43), (⟨"IdeaWorksModel", "settles", "(II)I"⟩, 43), (⟨"IdeaWorksModel", "delay", "(I)I"⟩, 43), (⟨"IdeaWorksModel", "saves", "(IIZ)I"⟩, 43), (⟨"IdeaWorksModel", "worthOf", "(I)I"⟩, 43), (⟨"IdeaWorksModel", "ruleFor", "(I)I"⟩, 43), (⟨"IdeaWorksModel", "paysToday", "(I)I"⟩, 43)]
theorem lw_r2 : ∀ q ∈ lw_privs_2, lw_okq q := List.forall_mem_cons.mpr ⟨lw_p16, List.forall_mem_cons.mpr ⟨lw_p17, List.forall_mem_cons.mpr ⟨lw_p18, List.forall_mem_cons.mpr ⟨lw_p19, List.forall_mem_cons.mpr ⟨lw_p20, List.forall_mem_cons.mpr ⟨lw_p21, List.forall_mem_cons.mpr ⟨lw_p22, List.forall_mem_cons.mpr ⟨lw_p23, List.forall_mem_cons.mpr ⟨lw_p24, List.forall_mem_cons.mpr ⟨lw_p25, List.forall_mem_cons.mpr ⟨lw_p26, List.forall_mem_cons.mpr ⟨lw_p27, List.forall_mem_cons.mpr ⟨lw_p28, List.forall_mem_cons.mpr ⟨lw_p29, List.forall_mem_cons.mpr ⟨lw_p30, List.forall_mem_cons.mpr ⟨lw_p31, fun _ h => absurd h List.not_mem_nil⟩⟩⟩⟩⟩⟩⟩⟩⟩⟩⟩⟩⟩⟩⟩⟩
theorem lw_p32 : lw_okq (⟨"IdeaWorksModel", "pay", "(III)I"⟩, 43) := ⟨⟨by decide +kernel, by decide +kernel⟩, List.mem_of_getElem? (i := 623) (by decide +kernel), List.mem_of_getElem? (i := 924) (by decide +kernel), List.mem_of_getElem? (i := 925) (by decide +kernel)⟩
def lw_privs_3 : List (MethodName × Nat) := [(⟨"IdeaWorksModel", "pay", "(III)I"⟩, 43)]
theorem lw_r3 : ∀ q ∈ lw_privs_3, lw_okq q := List.forall_mem_cons.mpr ⟨lw_p32, fun _ h => absurd h List.not_mem_nil⟩
def lw_privs : List (MethodName × Nat) := lw_privs_1 ++ (lw_privs_2 ++ (lw_privs_3))
def lw_tbl : List Cond := k2_sels lw_privs ++ tables_1
theorem lw_privs_ok : ∀ q ∈ lw_privs, lw_okq q := by
  show ∀ q ∈ lw_privs_1 ++ (lw_privs_2 ++ (lw_privs_3)), lw_okq q
  exact List.forall_mem_append.mpr ⟨lw_r1, List.forall_mem_append.mpr ⟨lw_r2, lw_r3⟩⟩
end
section
/-! ===== BEGIN words of one list among another's, by their places ===== -/
theorem goodIn_r {big : List Cond} (ws : List Cond) (ps : List Nat) (hp : ws = ps.filterMap (fun i => big[i]?)) (h : ws.all goodWord = true) : GoodIn big ws := by
  intro w hw
  have h1 := List.all_eq_true.mp h w hw
  rw [hp] at hw
  obtain ⟨i, -, hi⟩ := List.mem_filterMap.mp hw
  have hm : w ∈ big := by first | exact List.mem_of_getElem? hi | exact List.getElem?_mem hi
  exact ⟨hm, good_of_word h1⟩
theorem goodIn_app {big a b : List Cond} (ha : GoodIn big a) (hb : GoodIn big b) : GoodIn big (a ++ b) := fun w h => (List.mem_append.mp h).elim (ha w) (hb w)
theorem goodIn_ca {big a b : List Cond} {c : Cond} (ha : GoodIn big (c :: a)) (hb : GoodIn big b) : GoodIn big (c :: (a ++ b)) := fun w h => (List.mem_cons.mp h).elim (fun e => ha w (List.mem_cons.mpr (Or.inl e))) (fun h => (List.mem_append.mp h).elim (fun h => ha w (List.mem_cons.mpr (Or.inr h))) (hb w))
theorem goodIn_sub {big ws : List Cond} (hm : ∀ w ∈ ws, w ∈ big) (h : ws.all goodWord = true) : GoodIn big ws := fun w hw => ⟨hm w hw, good_of_word (List.all_eq_true.mp h w hw)⟩
/-! ===== END ===== -/

/-! ===== BEGIN printed: names, fields, word lists, decode rows ===== -/
def RX0 : String := "IdeaWorks$Benches"
def TX0 : u_T := fun k => match k with
  | 0 => ("IdeaWorks$Benches", "shop", "[I", true)
  | _ => ("IdeaWorks$Benches", "units", "[I", true)
def tyX0 : Nat → FieldType := fun k => match k with
  | 0 => .array .int
  | _ => .array .int
abbrev wsX00 : List Cond := u_ws RX0 TX0 2
theorem nmX0 : ∀ a, a < 2 → ∀ b, b < 2 → a ≠ b → (TX0 a).2.1 ≠ (TX0 b).2.1 := by decide +kernel
theorem tyX0_ok : ∀ k, k < 2 → parseFieldDescriptor (TX0 k).2.2.1 = some (tyX0 k) := by decide +kernel
abbrev cX0_init : ByteArray := prog_2_method_1_code
def yX0_init : MethodName := ⟨RX0, "<init>", "()V"⟩
def RX1 : String := "IdeaWorks$Families"
def TX1 : u_T := fun k => match k with
  | 0 => ("IdeaWorks$Families", "ideas", "LIdeaWorks$Ideas;", true)
  | _ => ("IdeaWorks$Families", "least", "[I", true)
def tyX1 : Nat → FieldType := fun k => match k with
  | 0 => .object "IdeaWorks$Ideas"
  | _ => .array .int
abbrev wsX10 : List Cond := u_ws RX1 TX1 2
theorem nmX1 : ∀ a, a < 2 → ∀ b, b < 2 → a ≠ b → (TX1 a).2.1 ≠ (TX1 b).2.1 := by decide +kernel
theorem tyX1_ok : ∀ k, k < 2 → parseFieldDescriptor (TX1 k).2.2.1 = some (tyX1 k) := by decide +kernel
abbrev cX1_init : ByteArray := prog_3_method_1_code
def yX1_init : MethodName := ⟨RX1, "<init>", "(LIdeaWorks$Ideas;)V"⟩
abbrev cX1_build : ByteArray := prog_3_method_2_code
def yX1_build : MethodName := ⟨RX1, "build", "(I)V"⟩
abbrev cX1_admit : ByteArray := prog_3_method_3_code
def yX1_admit : MethodName := ⟨RX1, "admit", "(II)V"⟩
abbrev cX1_join : ByteArray := prog_3_method_4_code
def yX1_join : MethodName := ⟨RX1, "join", "(III)V"⟩
abbrev cX1_headOf : ByteArray := prog_3_method_5_code
def yX1_headOf : MethodName := ⟨RX1, "headOf", "(I)I"⟩
abbrev cX1_shareOf : ByteArray := prog_3_method_6_code
def yX1_shareOf : MethodName := ⟨RX1, "shareOf", "(II)I"⟩
abbrev cX1_handsOf : ByteArray := prog_3_method_7_code
def yX1_handsOf : MethodName := ⟨RX1, "handsOf", "(I)J"⟩
abbrev cX1_harmOf : ByteArray := prog_3_method_8_code
def yX1_harmOf : MethodName := ⟨RX1, "harmOf", "(I)I"⟩
abbrev cX1_hasTaken : ByteArray := prog_3_method_9_code
def yX1_hasTaken : MethodName := ⟨RX1, "hasTaken", "(I)Z"⟩
abbrev cX1_howMany : ByteArray := prog_3_method_10_code
def yX1_howMany : MethodName := ⟨RX1, "howMany", "()I"⟩
def RX2 : String := "IdeaWorks$Hands"
def TX2 : u_T := fun k => match k with
  | 0 => ("IdeaWorks$Hands", "shop", "[I", true)
  | 1 => ("IdeaWorks$Hands", "kinSet", "[J", true)
  | 2 => ("IdeaWorks$Hands", "judges", "[Z", true)
  | 3 => ("IdeaWorks$Hands", "named", "[I", true)
  | 4 => ("IdeaWorks$Hands", "paid", "[I", true)
  | 5 => ("IdeaWorks$Hands", "fined", "[I", true)
  | _ => ("IdeaWorks$Hands", "size", "I", false)
def tyX2 : Nat → FieldType := fun k => match k with
  | 0 => .array .int
  | 1 => .array .long
  | 2 => .array .boolean
  | 3 => .array .int
  | 4 => .array .int
  | 5 => .array .int
  | _ => .int
abbrev wsX20 : List Cond := u_ws RX2 TX2 7
theorem nmX2 : ∀ a, a < 7 → ∀ b, b < 7 → a ≠ b → (TX2 a).2.1 ≠ (TX2 b).2.1 := by decide +kernel
theorem tyX2_ok : ∀ k, k < 7 → parseFieldDescriptor (TX2 k).2.2.1 = some (tyX2 k) := by decide +kernel
abbrev cX2_init : ByteArray := prog_4_method_1_code
def yX2_init : MethodName := ⟨RX2, "<init>", "()V"⟩
abbrev cX2_add : ByteArray := prog_4_method_2_code
def yX2_add : MethodName := ⟨RX2, "add", "(I)I"⟩
abbrev cX2_setKin : ByteArray := prog_4_method_3_code
def yX2_setKin : MethodName := ⟨RX2, "setKin", "(IIZ)Z"⟩
abbrev cX2_withKin : ByteArray := prog_4_method_4_code
def yX2_withKin : MethodName := ⟨RX2, "withKin", "(J)J"⟩
abbrev cX2_judgesOutside : ByteArray := prog_4_method_5_code
def yX2_judgesOutside : MethodName := ⟨RX2, "judgesOutside", "(I)J"⟩
abbrev cX2_leastNamed : ByteArray := prog_4_method_6_code
def yX2_leastNamed : MethodName := ⟨RX2, "leastNamed", "(J)I"⟩
abbrev cX2_coinsInAll : ByteArray := prog_4_method_7_code
def yX2_coinsInAll : MethodName := ⟨RX2, "coinsInAll", "()I"⟩
def RX3 : String := "IdeaWorks$Ideas"
def TX3 : u_T := fun k => match k with
  | 0 => ("IdeaWorks$Ideas", "hand", "[I", true)
  | 1 => ("IdeaWorks$Ideas", "shop", "[I", true)
  | 2 => ("IdeaWorks$Ideas", "marks", "[I", true)
  | 3 => ("IdeaWorks$Ideas", "fields", "[I", true)
  | 4 => ("IdeaWorks$Ideas", "cameOn", "[I", true)
  | 5 => ("IdeaWorks$Ideas", "state", "[I", true)
  | 6 => ("IdeaWorks$Ideas", "decidedOn", "[I", true)
  | 7 => ("IdeaWorks$Ideas", "paid", "[I", true)
  | 8 => ("IdeaWorks$Ideas", "harm", "[I", true)
  | 9 => ("IdeaWorks$Ideas", "team", "[J", true)
  | _ => ("IdeaWorks$Ideas", "size", "I", false)
def tyX3 : Nat → FieldType := fun k => match k with
  | 0 => .array .int
  | 1 => .array .int
  | 2 => .array .int
  | 3 => .array .int
  | 4 => .array .int
  | 5 => .array .int
  | 6 => .array .int
  | 7 => .array .int
  | 8 => .array .int
  | 9 => .array .long
  | _ => .int
abbrev wsX30 : List Cond := u_ws RX3 TX3 11
theorem nmX3 : ∀ a, a < 11 → ∀ b, b < 11 → a ≠ b → (TX3 a).2.1 ≠ (TX3 b).2.1 := by decide +kernel
theorem tyX3_ok : ∀ k, k < 11 → parseFieldDescriptor (TX3 k).2.2.1 = some (tyX3 k) := by decide +kernel
abbrev cX3_init : ByteArray := prog_5_method_1_code
def yX3_init : MethodName := ⟨RX3, "<init>", "()V"⟩
abbrev cX3_add : ByteArray := prog_5_method_2_code
def yX3_add : MethodName := ⟨RX3, "add", "(IIIII)I"⟩
abbrev cX3_teamSize : ByteArray := prog_5_method_3_code
def yX3_teamSize : MethodName := ⟨RX3, "teamSize", "(I)I"⟩
abbrev cX3_handsOf : ByteArray := prog_5_method_4_code
def yX3_handsOf : MethodName := ⟨RX3, "handsOf", "(I)J"⟩
abbrev cX3_areAlike : ByteArray := prog_5_method_5_code
def yX3_areAlike : MethodName := ⟨RX3, "areAlike", "(III)Z"⟩
abbrev cX3_isAhead : ByteArray := prog_5_method_6_code
def yX3_isAhead : MethodName := ⟨RX3, "isAhead", "(II)Z"⟩
abbrev cX3_turnedDownLike : ByteArray := prog_5_method_7_code
def yX3_turnedDownLike : MethodName := ⟨RX3, "turnedDownLike", "(III)I"⟩
abbrev cX3_howMany : ByteArray := prog_5_method_8_code
def yX3_howMany : MethodName := ⟨RX3, "howMany", "(I)I"⟩
def RX4 : String := "IdeaWorks$Measures"
def TX4 : u_T := fun k => match k with
  | 0 => ("IdeaWorks$Measures", "bench", "[I", true)
  | 1 => ("IdeaWorks$Measures", "idea", "[I", true)
  | 2 => ("IdeaWorks$Measures", "after", "[Z", true)
  | 3 => ("IdeaWorks$Measures", "cost", "[I", true)
  | _ => ("IdeaWorks$Measures", "size", "I", false)
def tyX4 : Nat → FieldType := fun k => match k with
  | 0 => .array .int
  | 1 => .array .int
  | 2 => .array .boolean
  | 3 => .array .int
  | _ => .int
abbrev wsX40 : List Cond := u_ws RX4 TX4 5
theorem nmX4 : ∀ a, a < 5 → ∀ b, b < 5 → a ≠ b → (TX4 a).2.1 ≠ (TX4 b).2.1 := by decide +kernel
theorem tyX4_ok : ∀ k, k < 5 → parseFieldDescriptor (TX4 k).2.2.1 = some (tyX4 k) := by decide +kernel
abbrev cX4_init : ByteArray := prog_6_method_1_code
def yX4_init : MethodName := ⟨RX4, "<init>", "()V"⟩
abbrev cX4_add : ByteArray := prog_6_method_2_code
def yX4_add : MethodName := ⟨RX4, "add", "(IIZI)V"⟩
def RX5 : String := "IdeaWorks$Rules"
def TX5 : u_T := fun k => match k with
  | 0 => ("IdeaWorks$Rules", "fromDay", "[I", true)
  | 1 => ("IdeaWorks$Rules", "parts", "[I", true)
  | 2 => ("IdeaWorks$Rules", "cap", "[I", true)
  | 3 => ("IdeaWorks$Rules", "years", "[I", true)
  | _ => ("IdeaWorks$Rules", "size", "I", false)
def tyX5 : Nat → FieldType := fun k => match k with
  | 0 => .array .int
  | 1 => .array .int
  | 2 => .array .int
  | 3 => .array .int
  | _ => .int
abbrev wsX50 : List Cond := u_ws RX5 TX5 5
theorem nmX5 : ∀ a, a < 5 → ∀ b, b < 5 → a ≠ b → (TX5 a).2.1 ≠ (TX5 b).2.1 := by decide +kernel
theorem tyX5_ok : ∀ k, k < 5 → parseFieldDescriptor (TX5 k).2.2.1 = some (tyX5 k) := by decide +kernel
abbrev cX5_init : ByteArray := prog_7_method_1_code
def yX5_init : MethodName := ⟨RX5, "<init>", "()V"⟩
abbrev cX5_add : ByteArray := prog_7_method_2_code
def yX5_add : MethodName := ⟨RX5, "add", "(IIII)I"⟩
abbrev cX5_inForceOn : ByteArray := prog_7_method_3_code
def yX5_inForceOn : MethodName := ⟨RX5, "inForceOn", "(I)I"⟩
def RX6 : String := "IdeaWorks$Tally"
def TX6 : u_T := fun k => match k with
  | 0 => ("IdeaWorks$Tally", "leastBefore", "[I", true)
  | 1 => ("IdeaWorks$Tally", "sumBefore", "[I", true)
  | 2 => ("IdeaWorks$Tally", "manyBefore", "[I", true)
  | 3 => ("IdeaWorks$Tally", "greatestAfter", "[I", true)
  | 4 => ("IdeaWorks$Tally", "sumAfter", "[I", true)
  | _ => ("IdeaWorks$Tally", "manyAfter", "[I", true)
def tyX6 : Nat → FieldType := fun k => match k with
  | 0 => .array .int
  | 1 => .array .int
  | 2 => .array .int
  | 3 => .array .int
  | 4 => .array .int
  | _ => .array .int
abbrev wsX60 : List Cond := u_ws RX6 TX6 6
theorem nmX6 : ∀ a, a < 6 → ∀ b, b < 6 → a ≠ b → (TX6 a).2.1 ≠ (TX6 b).2.1 := by decide +kernel
theorem tyX6_ok : ∀ k, k < 6 → parseFieldDescriptor (TX6 k).2.2.1 = some (tyX6 k) := by decide +kernel
abbrev cX6_init : ByteArray := prog_8_method_1_code
def yX6_init : MethodName := ⟨RX6, "<init>", "()V"⟩
abbrev cX6_gather : ByteArray := prog_8_method_2_code
def yX6_gather : MethodName := ⟨RX6, "gather", "(LIdeaWorks$Measures;LIdeaWorks$Families;I)V"⟩
abbrev cX6_clear : ByteArray := prog_8_method_3_code
def yX6_clear : MethodName := ⟨RX6, "clear", "()V"⟩
abbrev cX6_addBefore : ByteArray := prog_8_method_4_code
def yX6_addBefore : MethodName := ⟨RX6, "addBefore", "(II)V"⟩
abbrev cX6_addAfter : ByteArray := prog_8_method_5_code
def yX6_addAfter : MethodName := ⟨RX6, "addAfter", "(II)V"⟩
abbrev cX6_hasBoth : ByteArray := prog_8_method_6_code
def yX6_hasBoth : MethodName := ⟨RX6, "hasBoth", "(I)Z"⟩
abbrev cX6_beyondDoubt : ByteArray := prog_8_method_7_code
def yX6_beyondDoubt : MethodName := ⟨RX6, "beyondDoubt", "(I)I"⟩
abbrev cX6_hoped : ByteArray := prog_8_method_8_code
def yX6_hoped : MethodName := ⟨RX6, "hoped", "(I)I"⟩
def RX7 : String := "IdeaWorks$Works"
def TX7 : u_T := fun k => match k with
  | 0 => ("IdeaWorks$Works", "found", "[I", true)
  | _ => ("IdeaWorks$Works", "size", "I", false)
def tyX7 : Nat → FieldType := fun k => match k with
  | 0 => .array .int
  | _ => .int
abbrev wsX70 : List Cond := u_ws RX7 TX7 2
theorem nmX7 : ∀ a, a < 2 → ∀ b, b < 2 → a ≠ b → (TX7 a).2.1 ≠ (TX7 b).2.1 := by decide +kernel
theorem tyX7_ok : ∀ k, k < 2 → parseFieldDescriptor (TX7 k).2.2.1 = some (tyX7 k) := by decide +kernel
abbrev cX7_init : ByteArray := prog_9_method_1_code
def yX7_init : MethodName := ⟨RX7, "<init>", "()V"⟩
abbrev cX7_add : ByteArray := prog_9_method_2_code
def yX7_add : MethodName := ⟨RX7, "add", "(I)V"⟩
abbrev cX7_ledBackTo : ByteArray := prog_9_method_3_code
def yX7_ledBackTo : MethodName := ⟨RX7, "ledBackTo", "(I)Z"⟩
def RX8 : String := "IdeaWorks"
def TX8 : u_T := fun k => match k with
  | 0 => ("IdeaWorks", "hands", "LIdeaWorks$Hands;", true)
  | 1 => ("IdeaWorks", "ideas", "LIdeaWorks$Ideas;", true)
  | 2 => ("IdeaWorks", "families", "LIdeaWorks$Families;", true)
  | 3 => ("IdeaWorks", "supposed", "LIdeaWorks$Families;", true)
  | 4 => ("IdeaWorks", "benches", "LIdeaWorks$Benches;", true)
  | 5 => ("IdeaWorks", "measures", "LIdeaWorks$Measures;", true)
  | 6 => ("IdeaWorks", "tally", "LIdeaWorks$Tally;", true)
  | 7 => ("IdeaWorks", "rules", "LIdeaWorks$Rules;", true)
  | 8 => ("IdeaWorks", "works", "LIdeaWorks$Works;", true)
  | 9 => ("IdeaWorks", "settings", "[I", true)
  | 10 => ("IdeaWorks", "refusals", "[I", true)
  | _ => ("IdeaWorks", "day", "I", false)
def tyX8 : Nat → FieldType := fun k => match k with
  | 0 => .object "IdeaWorks$Hands"
  | 1 => .object "IdeaWorks$Ideas"
  | 2 => .object "IdeaWorks$Families"
  | 3 => .object "IdeaWorks$Families"
  | 4 => .object "IdeaWorks$Benches"
  | 5 => .object "IdeaWorks$Measures"
  | 6 => .object "IdeaWorks$Tally"
  | 7 => .object "IdeaWorks$Rules"
  | 8 => .object "IdeaWorks$Works"
  | 9 => .array .int
  | 10 => .array .int
  | _ => .int
abbrev wsX80 : List Cond := u_ws RX8 TX8 12
theorem nmX8 : ∀ a, a < 12 → ∀ b, b < 12 → a ≠ b → (TX8 a).2.1 ≠ (TX8 b).2.1 := by decide +kernel
theorem tyX8_ok : ∀ k, k < 12 → parseFieldDescriptor (TX8 k).2.2.1 = some (tyX8 k) := by decide +kernel
abbrev cX8_init : ByteArray := prog_1_method_1_code
def yX8_init : MethodName := ⟨RX8, "<init>", "()V"⟩
abbrev cX8_hand : ByteArray := prog_1_method_2_code
def yX8_hand : MethodName := ⟨RX8, "hand", "(I)I"⟩
abbrev cX8_kin : ByteArray := prog_1_method_3_code
def yX8_kin : MethodName := ⟨RX8, "kin", "(IIZ)I"⟩
abbrev cX8_idea : ByteArray := prog_1_method_4_code
def yX8_idea : MethodName := ⟨RX8, "idea", "(IIII)I"⟩
abbrev cX8_team : ByteArray := prog_1_method_5_code
def yX8_team : MethodName := ⟨RX8, "team", "(II)I"⟩
abbrev cX8_set : ByteArray := prog_1_method_6_code
def yX8_set : MethodName := ⟨RX8, "set", "(II)I"⟩
abbrev cX8_like : ByteArray := prog_1_method_7_code
def yX8_like : MethodName := ⟨RX8, "like", "(II)I"⟩
abbrev cX8_family : ByteArray := prog_1_method_8_code
def yX8_family : MethodName := ⟨RX8, "family", "(I)I"⟩
abbrev cX8_head : ByteArray := prog_1_method_9_code
def yX8_head : MethodName := ⟨RX8, "head", "(I)I"⟩
abbrev cX8_share : ByteArray := prog_1_method_10_code
def yX8_share : MethodName := ⟨RX8, "share", "(I)I"⟩
abbrev cX8_judge : ByteArray := prog_1_method_11_code
def yX8_judge : MethodName := ⟨RX8, "judge", "(IZ)I"⟩
abbrev cX8_may : ByteArray := prog_1_method_12_code
def yX8_may : MethodName := ⟨RX8, "may", "(II)I"⟩
abbrev cX8_judgeOf : ByteArray := prog_1_method_13_code
def yX8_judgeOf : MethodName := ⟨RX8, "judgeOf", "(II)I"⟩
abbrev cX8_decide : ByteArray := prog_1_method_14_code
def yX8_decide : MethodName := ⟨RX8, "decide", "(IZZZ)I"⟩
abbrev cX8_days : ByteArray := prog_1_method_15_code
def yX8_days : MethodName := ⟨RX8, "days", "(I)I"⟩
abbrev cX8_bench : ByteArray := prog_1_method_16_code
def yX8_bench : MethodName := ⟨RX8, "bench", "(III)I"⟩
abbrev cX8_measure : ByteArray := prog_1_method_17_code
def yX8_measure : MethodName := ⟨RX8, "measure", "(IIZI)I"⟩
abbrev cX8_saved : ByteArray := prog_1_method_18_code
def yX8_saved : MethodName := ⟨RX8, "saved", "(III)I"⟩
abbrev cX8_harm : ByteArray := prog_1_method_19_code
def yX8_harm : MethodName := ⟨RX8, "harm", "(II)I"⟩
abbrev cX8_worth : ByteArray := prog_1_method_20_code
def yX8_worth : MethodName := ⟨RX8, "worth", "(I)I"⟩
abbrev cX8_rule : ByteArray := prog_1_method_21_code
def yX8_rule : MethodName := ⟨RX8, "rule", "(IIII)I"⟩
abbrev cX8_ruleOf : ByteArray := prog_1_method_22_code
def yX8_ruleOf : MethodName := ⟨RX8, "ruleOf", "(I)I"⟩
abbrev cX8_work : ByteArray := prog_1_method_23_code
def yX8_work : MethodName := ⟨RX8, "work", "(II)I"⟩
abbrev cX8_ledBack : ByteArray := prog_1_method_24_code
def yX8_ledBack : MethodName := ⟨RX8, "ledBack", "(I)I"⟩
abbrev cX8_reopen : ByteArray := prog_1_method_25_code
def yX8_reopen : MethodName := ⟨RX8, "reopen", "(I)I"⟩
abbrev cX8_other : ByteArray := prog_1_method_26_code
def yX8_other : MethodName := ⟨RX8, "other", "(III)I"⟩
abbrev cX8_coins : ByteArray := prog_1_method_27_code
def yX8_coins : MethodName := ⟨RX8, "coins", "(II)I"⟩
abbrev cX8_ideaOf : ByteArray := prog_1_method_28_code
def yX8_ideaOf : MethodName := ⟨RX8, "ideaOf", "(II)I"⟩
abbrev cX8_count : ByteArray := prog_1_method_29_code
def yX8_count : MethodName := ⟨RX8, "count", "(I)I"⟩
abbrev cX8_refuse : ByteArray := prog_1_method_30_code
def yX8_refuse : MethodName := ⟨RX8, "refuse", "(I)I"⟩
abbrev cX8_isShop : ByteArray := prog_1_method_31_code
def yX8_isShop : MethodName := ⟨RX8, "isShop", "(I)Z"⟩
abbrev cX8_areMarks : ByteArray := prog_1_method_32_code
def yX8_areMarks : MethodName := ⟨RX8, "areMarks", "(I)Z"⟩
abbrev cX8_isBench : ByteArray := prog_1_method_33_code
def yX8_isBench : MethodName := ⟨RX8, "isBench", "(I)Z"⟩
abbrev cX8_isHand : ByteArray := prog_1_method_34_code
def yX8_isHand : MethodName := ⟨RX8, "isHand", "(I)Z"⟩
abbrev cX8_isIdea : ByteArray := prog_1_method_35_code
def yX8_isIdea : MethodName := ⟨RX8, "isIdea", "(I)Z"⟩
abbrev cX8_has : ByteArray := prog_1_method_36_code
def yX8_has : MethodName := ⟨RX8, "has", "(JI)Z"⟩
abbrev cX8_without : ByteArray := prog_1_method_37_code
def yX8_without : MethodName := ⟨RX8, "without", "(JI)J"⟩
abbrev cX8_likeness : ByteArray := prog_1_method_38_code
def yX8_likeness : MethodName := ⟨RX8, "likeness", "(II)I"⟩
abbrev cX8_payFor : ByteArray := prog_1_method_39_code
def yX8_payFor : MethodName := ⟨RX8, "payFor", "(III)I"⟩
abbrev cX8_judgesFor : ByteArray := prog_1_method_40_code
def yX8_judgesFor : MethodName := ⟨RX8, "judgesFor", "(I)J"⟩
abbrev cX8_nameThird : ByteArray := prog_1_method_41_code
def yX8_nameThird : MethodName := ⟨RX8, "nameThird", "(J)Z"⟩
abbrev cX8_takeFamily : ByteArray := prog_1_method_42_code
def yX8_takeFamily : MethodName := ⟨RX8, "takeFamily", "(I)V"⟩
abbrev cX8_settle : ByteArray := prog_1_method_43_code
def yX8_settle : MethodName := ⟨RX8, "settle", "(II)I"⟩
abbrev cX8_ruleFor : ByteArray := prog_1_method_44_code
def yX8_ruleFor : MethodName := ⟨RX8, "ruleFor", "(I)I"⟩
abbrev cX8_worthOf : ByteArray := prog_1_method_45_code
def yX8_worthOf : MethodName := ⟨RX8, "worthOf", "(LIdeaWorks$Families;I)I"⟩
abbrev cX8_payYearsSince : ByteArray := prog_1_method_46_code
def yX8_payYearsSince : MethodName := ⟨RX8, "payYearsSince", "(II)I"⟩
abbrev cX8_payOut : ByteArray := prog_1_method_47_code
def yX8_payOut : MethodName := ⟨RX8, "payOut", "(II)V"⟩
def RX9 : String := "IdeaWorksModel"
def TX9 : u_T := fun k => match k with
  | 0 => ("IdeaWorksModel", "day", "I", false)
  | 1 => ("IdeaWorksModel", "hands", "I", false)
  | 2 => ("IdeaWorksModel", "ideas", "I", false)
  | 3 => ("IdeaWorksModel", "measures", "I", false)
  | 4 => ("IdeaWorksModel", "rules", "I", false)
  | 5 => ("IdeaWorksModel", "works", "I", false)
  | 6 => ("IdeaWorksModel", "limit", "I", false)
  | 7 => ("IdeaWorksModel", "heads", "I", false)
  | 8 => ("IdeaWorksModel", "patience", "I", false)
  | 9 => ("IdeaWorksModel", "fine", "I", false)
  | 10 => ("IdeaWorksModel", "paidAll", "I", false)
  | 11 => ("IdeaWorksModel", "finedAll", "I", false)
  | 12 => ("IdeaWorksModel", "shop", "[I", true)
  | 13 => ("IdeaWorksModel", "named", "[I", true)
  | 14 => ("IdeaWorksModel", "paid", "[I", true)
  | 15 => ("IdeaWorksModel", "fined", "[I", true)
  | 16 => ("IdeaWorksModel", "judges", "[Z", true)
  | 17 => ("IdeaWorksModel", "kin", "[Z", true)
  | 18 => ("IdeaWorksModel", "hand", "[I", true)
  | 19 => ("IdeaWorksModel", "about", "[I", true)
  | 20 => ("IdeaWorksModel", "marks", "[I", true)
  | 21 => ("IdeaWorksModel", "fields", "[I", true)
  | 22 => ("IdeaWorksModel", "came", "[I", true)
  | 23 => ("IdeaWorksModel", "state", "[I", true)
  | 24 => ("IdeaWorksModel", "decided", "[I", true)
  | 25 => ("IdeaWorksModel", "earned", "[I", true)
  | 26 => ("IdeaWorksModel", "harm", "[I", true)
  | 27 => ("IdeaWorksModel", "teams", "[I", true)
  | 28 => ("IdeaWorksModel", "team", "[I", true)
  | 29 => ("IdeaWorksModel", "ledBack", "[Z", true)
  | 30 => ("IdeaWorksModel", "benchShop", "[I", true)
  | 31 => ("IdeaWorksModel", "units", "[I", true)
  | 32 => ("IdeaWorksModel", "mBench", "[I", true)
  | 33 => ("IdeaWorksModel", "mIdea", "[I", true)
  | 34 => ("IdeaWorksModel", "mCost", "[I", true)
  | 35 => ("IdeaWorksModel", "mAfter", "[Z", true)
  | 36 => ("IdeaWorksModel", "rDay", "[I", true)
  | 37 => ("IdeaWorksModel", "rParts", "[I", true)
  | 38 => ("IdeaWorksModel", "rCap", "[I", true)
  | 39 => ("IdeaWorksModel", "rYears", "[I", true)
  | 40 => ("IdeaWorksModel", "found", "[I", true)
  | 41 => ("IdeaWorksModel", "refused", "[I", true)
  | _ => ("IdeaWorksModel", "kind", "[I", true)
def tyX9 : Nat → FieldType := fun k => match k with
  | 0 => .int
  | 1 => .int
  | 2 => .int
  | 3 => .int
  | 4 => .int
  | 5 => .int
  | 6 => .int
  | 7 => .int
  | 8 => .int
  | 9 => .int
  | 10 => .int
  | 11 => .int
  | 12 => .array .int
  | 13 => .array .int
  | 14 => .array .int
  | 15 => .array .int
  | 16 => .array .boolean
  | 17 => .array .boolean
  | 18 => .array .int
  | 19 => .array .int
  | 20 => .array .int
  | 21 => .array .int
  | 22 => .array .int
  | 23 => .array .int
  | 24 => .array .int
  | 25 => .array .int
  | 26 => .array .int
  | 27 => .array .int
  | 28 => .array .int
  | 29 => .array .boolean
  | 30 => .array .int
  | 31 => .array .int
  | 32 => .array .int
  | 33 => .array .int
  | 34 => .array .int
  | 35 => .array .boolean
  | 36 => .array .int
  | 37 => .array .int
  | 38 => .array .int
  | 39 => .array .int
  | 40 => .array .int
  | 41 => .array .int
  | _ => .array .int
abbrev wsX90 : List Cond := u_ws RX9 TX9 43
theorem nmX9 : ∀ a, a < 43 → ∀ b, b < 43 → a ≠ b → (TX9 a).2.1 ≠ (TX9 b).2.1 := by decide +kernel
theorem tyX9_ok : ∀ k, k < 43 → parseFieldDescriptor (TX9 k).2.2.1 = some (tyX9 k) := by decide +kernel
abbrev cX9_init : ByteArray := prog_11_method_1_code
def yX9_init : MethodName := ⟨RX9, "<init>", "()V"⟩
abbrev cX9_no : ByteArray := prog_11_method_2_code
def yX9_no : MethodName := ⟨RX9, "no", "(I)I"⟩
abbrev cX9_isShop : ByteArray := prog_11_method_3_code
def yX9_isShop : MethodName := ⟨RX9, "isShop", "(I)Z"⟩
abbrev cX9_isHand : ByteArray := prog_11_method_4_code
def yX9_isHand : MethodName := ⟨RX9, "isHand", "(I)Z"⟩
abbrev cX9_isIdea : ByteArray := prog_11_method_5_code
def yX9_isIdea : MethodName := ⟨RX9, "isIdea", "(I)Z"⟩
abbrev cX9_isBench : ByteArray := prog_11_method_6_code
def yX9_isBench : MethodName := ⟨RX9, "isBench", "(I)Z"⟩
abbrev cX9_isMarks : ByteArray := prog_11_method_7_code
def yX9_isMarks : MethodName := ⟨RX9, "isMarks", "(I)Z"⟩
abbrev cX9_hand : ByteArray := prog_11_method_8_code
def yX9_hand : MethodName := ⟨RX9, "hand", "(I)I"⟩
abbrev cX9_kin : ByteArray := prog_11_method_9_code
def yX9_kin : MethodName := ⟨RX9, "kin", "(IIZ)I"⟩
abbrev cX9_idea : ByteArray := prog_11_method_10_code
def yX9_idea : MethodName := ⟨RX9, "idea", "(IIII)I"⟩
abbrev cX9_isOf : ByteArray := prog_11_method_11_code
def yX9_isOf : MethodName := ⟨RX9, "isOf", "(II)Z"⟩
abbrev cX9_team : ByteArray := prog_11_method_12_code
def yX9_team : MethodName := ⟨RX9, "team", "(II)I"⟩
abbrev cX9_set : ByteArray := prog_11_method_13_code
def yX9_set : MethodName := ⟨RX9, "set", "(II)I"⟩
abbrev cX9_bits : ByteArray := prog_11_method_14_code
def yX9_bits : MethodName := ⟨RX9, "bits", "(I)I"⟩
abbrev cX9_likeness : ByteArray := prog_11_method_15_code
def yX9_likeness : MethodName := ⟨RX9, "likeness", "(II)I"⟩
abbrev cX9_like : ByteArray := prog_11_method_16_code
def yX9_like : MethodName := ⟨RX9, "like", "(II)I"⟩
abbrev cX9_families : ByteArray := prog_11_method_17_code
def yX9_families : MethodName := ⟨RX9, "families", "(I)V"⟩
abbrev cX9_family : ByteArray := prog_11_method_18_code
def yX9_family : MethodName := ⟨RX9, "family", "(I)I"⟩
abbrev cX9_isAhead : ByteArray := prog_11_method_19_code
def yX9_isAhead : MethodName := ⟨RX9, "isAhead", "(II)Z"⟩
abbrev cX9_headOf : ByteArray := prog_11_method_20_code
def yX9_headOf : MethodName := ⟨RX9, "headOf", "(I)I"⟩
abbrev cX9_head : ByteArray := prog_11_method_21_code
def yX9_head : MethodName := ⟨RX9, "head", "(I)I"⟩
abbrev cX9_shareOf : ByteArray := prog_11_method_22_code
def yX9_shareOf : MethodName := ⟨RX9, "shareOf", "(I)I"⟩
abbrev cX9_share : ByteArray := prog_11_method_23_code
def yX9_share : MethodName := ⟨RX9, "share", "(I)I"⟩
abbrev cX9_judge : ByteArray := prog_11_method_24_code
def yX9_judge : MethodName := ⟨RX9, "judge", "(IZ)I"⟩
abbrev cX9_mayJudge : ByteArray := prog_11_method_25_code
def yX9_mayJudge : MethodName := ⟨RX9, "mayJudge", "(II)Z"⟩
abbrev cX9_may : ByteArray := prog_11_method_26_code
def yX9_may : MethodName := ⟨RX9, "may", "(II)I"⟩
abbrev cX9_nextJudge : ByteArray := prog_11_method_27_code
def yX9_nextJudge : MethodName := ⟨RX9, "nextJudge", "(III)I"⟩
abbrev cX9_judgeOf : ByteArray := prog_11_method_28_code
def yX9_judgeOf : MethodName := ⟨RX9, "judgeOf", "(II)I"⟩
abbrev cX9_delay : ByteArray := prog_11_method_29_code
def yX9_delay : MethodName := ⟨RX9, "delay", "(I)I"⟩
abbrev cX9_settles : ByteArray := prog_11_method_30_code
def yX9_settles : MethodName := ⟨RX9, "settles", "(II)I"⟩
abbrev cX9_decide : ByteArray := prog_11_method_31_code
def yX9_decide : MethodName := ⟨RX9, "decide", "(IZZZ)I"⟩
abbrev cX9_bench : ByteArray := prog_11_method_32_code
def yX9_bench : MethodName := ⟨RX9, "bench", "(III)I"⟩
abbrev cX9_measure : ByteArray := prog_11_method_33_code
def yX9_measure : MethodName := ⟨RX9, "measure", "(IIZI)I"⟩
abbrev cX9_saves : ByteArray := prog_11_method_34_code
def yX9_saves : MethodName := ⟨RX9, "saves", "(IIZ)I"⟩
abbrev cX9_saved : ByteArray := prog_11_method_35_code
def yX9_saved : MethodName := ⟨RX9, "saved", "(III)I"⟩
abbrev cX9_harm : ByteArray := prog_11_method_36_code
def yX9_harm : MethodName := ⟨RX9, "harm", "(II)I"⟩
abbrev cX9_worthOf : ByteArray := prog_11_method_37_code
def yX9_worthOf : MethodName := ⟨RX9, "worthOf", "(I)I"⟩
abbrev cX9_worth : ByteArray := prog_11_method_38_code
def yX9_worth : MethodName := ⟨RX9, "worth", "(I)I"⟩
abbrev cX9_rule : ByteArray := prog_11_method_39_code
def yX9_rule : MethodName := ⟨RX9, "rule", "(IIII)I"⟩
abbrev cX9_ruleFor : ByteArray := prog_11_method_40_code
def yX9_ruleFor : MethodName := ⟨RX9, "ruleFor", "(I)I"⟩
abbrev cX9_ruleOf : ByteArray := prog_11_method_41_code
def yX9_ruleOf : MethodName := ⟨RX9, "ruleOf", "(I)I"⟩
abbrev cX9_pay : ByteArray := prog_11_method_42_code
def yX9_pay : MethodName := ⟨RX9, "pay", "(III)I"⟩
abbrev cX9_paysToday : ByteArray := prog_11_method_43_code
def yX9_paysToday : MethodName := ⟨RX9, "paysToday", "(I)I"⟩
abbrev cX9_days : ByteArray := prog_11_method_44_code
def yX9_days : MethodName := ⟨RX9, "days", "(I)I"⟩
abbrev cX9_work : ByteArray := prog_11_method_45_code
def yX9_work : MethodName := ⟨RX9, "work", "(II)I"⟩
abbrev cX9_ledBack : ByteArray := prog_11_method_46_code
def yX9_ledBack : MethodName := ⟨RX9, "ledBack", "(I)I"⟩
abbrev cX9_reopen : ByteArray := prog_11_method_47_code
def yX9_reopen : MethodName := ⟨RX9, "reopen", "(I)I"⟩
abbrev cX9_other : ByteArray := prog_11_method_48_code
def yX9_other : MethodName := ⟨RX9, "other", "(III)I"⟩
abbrev cX9_coins : ByteArray := prog_11_method_49_code
def yX9_coins : MethodName := ⟨RX9, "coins", "(II)I"⟩
abbrev cX9_ideaOf : ByteArray := prog_11_method_50_code
def yX9_ideaOf : MethodName := ⟨RX9, "ideaOf", "(II)I"⟩
abbrev cX9_count : ByteArray := prog_11_method_51_code
def yX9_count : MethodName := ⟨RX9, "count", "(I)I"⟩
def RJ6 : String := "java/lang/Integer"
def TJ6 : u_T := fun k => match k with
  | _ => ("", "", "", false)
def tyJ6 : Nat → FieldType := fun k => match k with
  | _ => .int
abbrev wsJ60 : List Cond := u_ws RJ6 TJ6 0
theorem nmJ6 : ∀ a, a < 0 → ∀ b, b < 0 → a ≠ b → (TJ6 a).2.1 ≠ (TJ6 b).2.1 := by decide +kernel
theorem tyJ6_ok : ∀ k, k < 0 → parseFieldDescriptor (TJ6 k).2.2.1 = some (tyJ6 k) := by decide +kernel
abbrev cJ6_bitCount_0f7a4 : ByteArray := prog_12_method_49_code
def yJ6_bitCount_0f7a4 : MethodName := ⟨RJ6, "bitCount", "(I)I"⟩
def RJ13 : String := "java/lang/Long"
def TJ13 : u_T := fun k => match k with
  | _ => ("", "", "", false)
def tyJ13 : Nat → FieldType := fun k => match k with
  | _ => .int
abbrev wsJ130 : List Cond := u_ws RJ13 TJ13 0
theorem nmJ13 : ∀ a, a < 0 → ∀ b, b < 0 → a ≠ b → (TJ13 a).2.1 ≠ (TJ13 b).2.1 := by decide +kernel
theorem tyJ13_ok : ∀ k, k < 0 → parseFieldDescriptor (TJ13 k).2.2.1 = some (tyJ13 k) := by decide +kernel
abbrev cJ13_bitCount_95d88 : ByteArray := prog_13_method_50_code
def yJ13_bitCount_95d88 : MethodName := ⟨RJ13, "bitCount", "(J)I"⟩
def RJ9 : String := "java/lang/Math"
def TJ9 : u_T := fun k => match k with
  | _ => ("", "", "", false)
def tyJ9 : Nat → FieldType := fun k => match k with
  | _ => .int
abbrev wsJ90 : List Cond := u_ws RJ9 TJ9 0
theorem nmJ9 : ∀ a, a < 0 → ∀ b, b < 0 → a ≠ b → (TJ9 a).2.1 ≠ (TJ9 b).2.1 := by decide +kernel
theorem tyJ9_ok : ∀ k, k < 0 → parseFieldDescriptor (TJ9 k).2.2.1 = some (tyJ9 k) := by decide +kernel
abbrev cJ9_max_7cf53 : ByteArray := prog_14_method_65_code
def yJ9_max_7cf53 : MethodName := ⟨RJ9, "max", "(II)I"⟩
abbrev cJ9_min_7cf53 : ByteArray := prog_14_method_69_code
def yJ9_min_7cf53 : MethodName := ⟨RJ9, "min", "(II)I"⟩
def RL : String := "IdeaWorksLaw"
abbrev cL_law : ByteArray := code
def yL_law : MethodName := ⟨RL, "law", "([I)Z"⟩
abbrev vwCl : List vw_C := [(RX0, TX0, 2), (RX1, TX1, 2), (RX2, TX2, 7), (RX3, TX3, 11), (RX4, TX4, 5), (RX5, TX5, 5), (RX6, TX6, 6), (RX7, TX7, 2), (RX8, TX8, 12), (RX9, TX9, 43)]
end
section
theorem dX0_init_0 : decode cX0_init 0 = .ok (.aload_n 0, 1) := by decide +kernel
theorem dX0_init_1 : decode cX0_init 1 = .ok (.invokespecial 1, 3) := by decide +kernel
theorem dX0_init_4 : decode cX0_init 4 = .ok (.aload_n 0, 1) := by decide +kernel
theorem dX0_init_5 : decode cX0_init 5 = .ok (.bipush 10, 2) := by decide +kernel
theorem dX0_init_7 : decode cX0_init 7 = .ok (.newarray .int, 2) := by decide +kernel
theorem dX0_init_9 : decode cX0_init 9 = .ok (.putfield 9, 3) := by decide +kernel
theorem dX0_init_12 : decode cX0_init 12 = .ok (.aload_n 0, 1) := by decide +kernel
theorem dX0_init_13 : decode cX0_init 13 = .ok (.bipush 10, 2) := by decide +kernel
theorem dX0_init_15 : decode cX0_init 15 = .ok (.newarray .int, 2) := by decide +kernel
theorem dX0_init_17 : decode cX0_init 17 = .ok (.dup, 1) := by decide +kernel
theorem dX0_init_18 : decode cX0_init 18 = .ok (.iconst 0, 1) := by decide +kernel
theorem dX0_init_19 : decode cX0_init 19 = .ok (.bipush 100, 2) := by decide +kernel
theorem dX0_init_21 : decode cX0_init 21 = .ok (.iastore, 1) := by decide +kernel
theorem dX0_init_22 : decode cX0_init 22 = .ok (.dup, 1) := by decide +kernel
theorem dX0_init_23 : decode cX0_init 23 = .ok (.iconst 1, 1) := by decide +kernel
theorem dX0_init_24 : decode cX0_init 24 = .ok (.bipush 100, 2) := by decide +kernel
theorem dX0_init_26 : decode cX0_init 26 = .ok (.iastore, 1) := by decide +kernel
theorem dX0_init_27 : decode cX0_init 27 = .ok (.dup, 1) := by decide +kernel
theorem dX0_init_28 : decode cX0_init 28 = .ok (.iconst 2, 1) := by decide +kernel
theorem dX0_init_29 : decode cX0_init 29 = .ok (.bipush 100, 2) := by decide +kernel
theorem dX0_init_31 : decode cX0_init 31 = .ok (.iastore, 1) := by decide +kernel
theorem dX0_init_32 : decode cX0_init 32 = .ok (.dup, 1) := by decide +kernel
theorem dX0_init_33 : decode cX0_init 33 = .ok (.iconst 3, 1) := by decide +kernel
theorem dX0_init_34 : decode cX0_init 34 = .ok (.bipush 100, 2) := by decide +kernel
theorem dX0_init_36 : decode cX0_init 36 = .ok (.iastore, 1) := by decide +kernel
theorem dX0_init_37 : decode cX0_init 37 = .ok (.dup, 1) := by decide +kernel
theorem dX0_init_38 : decode cX0_init 38 = .ok (.iconst 4, 1) := by decide +kernel
theorem dX0_init_39 : decode cX0_init 39 = .ok (.bipush 100, 2) := by decide +kernel
theorem dX0_init_41 : decode cX0_init 41 = .ok (.iastore, 1) := by decide +kernel
theorem dX0_init_42 : decode cX0_init 42 = .ok (.dup, 1) := by decide +kernel
theorem dX0_init_43 : decode cX0_init 43 = .ok (.iconst 5, 1) := by decide +kernel
theorem dX0_init_44 : decode cX0_init 44 = .ok (.bipush 100, 2) := by decide +kernel
theorem dX0_init_46 : decode cX0_init 46 = .ok (.iastore, 1) := by decide +kernel
theorem dX0_init_47 : decode cX0_init 47 = .ok (.dup, 1) := by decide +kernel
theorem dX0_init_48 : decode cX0_init 48 = .ok (.bipush 6, 2) := by decide +kernel
theorem dX0_init_50 : decode cX0_init 50 = .ok (.bipush 100, 2) := by decide +kernel
theorem dX0_init_52 : decode cX0_init 52 = .ok (.iastore, 1) := by decide +kernel
theorem dX0_init_53 : decode cX0_init 53 = .ok (.dup, 1) := by decide +kernel
theorem dX0_init_54 : decode cX0_init 54 = .ok (.bipush 7, 2) := by decide +kernel
theorem dX0_init_56 : decode cX0_init 56 = .ok (.bipush 100, 2) := by decide +kernel
theorem dX0_init_58 : decode cX0_init 58 = .ok (.iastore, 1) := by decide +kernel
theorem dX0_init_59 : decode cX0_init 59 = .ok (.dup, 1) := by decide +kernel
theorem dX0_init_60 : decode cX0_init 60 = .ok (.bipush 8, 2) := by decide +kernel
theorem dX0_init_62 : decode cX0_init 62 = .ok (.bipush 100, 2) := by decide +kernel
theorem dX0_init_64 : decode cX0_init 64 = .ok (.iastore, 1) := by decide +kernel
theorem dX0_init_65 : decode cX0_init 65 = .ok (.dup, 1) := by decide +kernel
theorem dX0_init_66 : decode cX0_init 66 = .ok (.bipush 9, 2) := by decide +kernel
theorem dX0_init_68 : decode cX0_init 68 = .ok (.bipush 100, 2) := by decide +kernel
theorem dX0_init_70 : decode cX0_init 70 = .ok (.iastore, 1) := by decide +kernel
theorem dX0_init_71 : decode cX0_init 71 = .ok (.putfield 13, 3) := by decide +kernel
theorem dX0_init_74 : decode cX0_init 74 = .ok (.return_, 1) := by decide +kernel
theorem dX1_init_0 : decode cX1_init 0 = .ok (.aload_n 0, 1) := by decide +kernel
theorem dX1_init_1 : decode cX1_init 1 = .ok (.invokespecial 3, 3) := by decide +kernel
theorem dX1_init_4 : decode cX1_init 4 = .ok (.aload_n 0, 1) := by decide +kernel
theorem dX1_init_5 : decode cX1_init 5 = .ok (.bipush 40, 2) := by decide +kernel
theorem dX1_init_7 : decode cX1_init 7 = .ok (.newarray .int, 2) := by decide +kernel
theorem dX1_init_9 : decode cX1_init 9 = .ok (.putfield 11, 3) := by decide +kernel
theorem dX1_init_12 : decode cX1_init 12 = .ok (.aload_n 0, 1) := by decide +kernel
theorem dX1_init_13 : decode cX1_init 13 = .ok (.aload_n 1, 1) := by decide +kernel
theorem dX1_init_14 : decode cX1_init 14 = .ok (.putfield 17, 3) := by decide +kernel
theorem dX1_init_17 : decode cX1_init 17 = .ok (.return_, 1) := by decide +kernel
theorem dX1_build_0 : decode cX1_build 0 = .ok (.iconst 0, 1) := by decide +kernel
theorem dX1_build_1 : decode cX1_build 1 = .ok (.istore_n 2, 1) := by decide +kernel
theorem dX1_build_2 : decode cX1_build 2 = .ok (.iload_n 2, 1) := by decide +kernel
theorem dX1_build_3 : decode cX1_build 3 = .ok (.aload_n 0, 1) := by decide +kernel
theorem dX1_build_4 : decode cX1_build 4 = .ok (.getfield 17, 3) := by decide +kernel
theorem dX1_build_7 : decode cX1_build 7 = .ok (.getfield 21, 3) := by decide +kernel
theorem dX1_build_10 : decode cX1_build 10 = .ok (.if_icmp .ge 15, 3) := by decide +kernel
theorem dX1_build_13 : decode cX1_build 13 = .ok (.aload_n 0, 1) := by decide +kernel
theorem dX1_build_14 : decode cX1_build 14 = .ok (.iload_n 2, 1) := by decide +kernel
theorem dX1_build_15 : decode cX1_build 15 = .ok (.iload_n 1, 1) := by decide +kernel
theorem dX1_build_16 : decode cX1_build 16 = .ok (.invokevirtual 25, 3) := by decide +kernel
theorem dX1_build_19 : decode cX1_build 19 = .ok (.iinc 2 1, 3) := by decide +kernel
theorem dX1_build_22 : decode cX1_build 22 = .ok (.goto (-20), 3) := by decide +kernel
theorem dX1_build_25 : decode cX1_build 25 = .ok (.return_, 1) := by decide +kernel
theorem dX1_admit_0 : decode cX1_admit 0 = .ok (.aload_n 0, 1) := by decide +kernel
theorem dX1_admit_1 : decode cX1_admit 1 = .ok (.getfield 11, 3) := by decide +kernel
theorem dX1_admit_4 : decode cX1_admit 4 = .ok (.iload_n 1, 1) := by decide +kernel
theorem dX1_admit_5 : decode cX1_admit 5 = .ok (.iload_n 1, 1) := by decide +kernel
theorem dX1_admit_6 : decode cX1_admit 6 = .ok (.iastore, 1) := by decide +kernel
theorem dX1_admit_7 : decode cX1_admit 7 = .ok (.iconst 0, 1) := by decide +kernel
theorem dX1_admit_8 : decode cX1_admit 8 = .ok (.istore_n 3, 1) := by decide +kernel
theorem dX1_admit_9 : decode cX1_admit 9 = .ok (.iload_n 3, 1) := by decide +kernel
theorem dX1_admit_10 : decode cX1_admit 10 = .ok (.iload_n 1, 1) := by decide +kernel
theorem dX1_admit_11 : decode cX1_admit 11 = .ok (.if_icmp .ge 54, 3) := by decide +kernel
theorem dX1_admit_14 : decode cX1_admit 14 = .ok (.aload_n 0, 1) := by decide +kernel
theorem dX1_admit_15 : decode cX1_admit 15 = .ok (.getfield 11, 3) := by decide +kernel
theorem dX1_admit_18 : decode cX1_admit 18 = .ok (.iload_n 3, 1) := by decide +kernel
theorem dX1_admit_19 : decode cX1_admit 19 = .ok (.iaload, 1) := by decide +kernel
theorem dX1_admit_20 : decode cX1_admit 20 = .ok (.aload_n 0, 1) := by decide +kernel
theorem dX1_admit_21 : decode cX1_admit 21 = .ok (.getfield 11, 3) := by decide +kernel
theorem dX1_admit_24 : decode cX1_admit 24 = .ok (.iload_n 1, 1) := by decide +kernel
theorem dX1_admit_25 : decode cX1_admit 25 = .ok (.iaload, 1) := by decide +kernel
theorem dX1_admit_26 : decode cX1_admit 26 = .ok (.if_icmp .eq 33, 3) := by decide +kernel
theorem dX1_admit_29 : decode cX1_admit 29 = .ok (.aload_n 0, 1) := by decide +kernel
theorem dX1_admit_30 : decode cX1_admit 30 = .ok (.getfield 17, 3) := by decide +kernel
theorem dX1_admit_33 : decode cX1_admit 33 = .ok (.iload_n 3, 1) := by decide +kernel
theorem dX1_admit_34 : decode cX1_admit 34 = .ok (.iload_n 1, 1) := by decide +kernel
theorem dX1_admit_35 : decode cX1_admit 35 = .ok (.iload_n 2, 1) := by decide +kernel
theorem dX1_admit_36 : decode cX1_admit 36 = .ok (.invokevirtual 29, 3) := by decide +kernel
theorem dX1_admit_39 : decode cX1_admit 39 = .ok (.ifCond .eq 20, 3) := by decide +kernel
theorem dX1_admit_42 : decode cX1_admit 42 = .ok (.aload_n 0, 1) := by decide +kernel
theorem dX1_admit_43 : decode cX1_admit 43 = .ok (.aload_n 0, 1) := by decide +kernel
theorem dX1_admit_44 : decode cX1_admit 44 = .ok (.getfield 11, 3) := by decide +kernel
theorem dX1_admit_47 : decode cX1_admit 47 = .ok (.iload_n 3, 1) := by decide +kernel
theorem dX1_admit_48 : decode cX1_admit 48 = .ok (.iaload, 1) := by decide +kernel
theorem dX1_admit_49 : decode cX1_admit 49 = .ok (.aload_n 0, 1) := by decide +kernel
theorem dX1_admit_50 : decode cX1_admit 50 = .ok (.getfield 11, 3) := by decide +kernel
theorem dX1_admit_53 : decode cX1_admit 53 = .ok (.iload_n 1, 1) := by decide +kernel
theorem dX1_admit_54 : decode cX1_admit 54 = .ok (.iaload, 1) := by decide +kernel
theorem dX1_admit_55 : decode cX1_admit 55 = .ok (.iload_n 1, 1) := by decide +kernel
theorem dX1_admit_56 : decode cX1_admit 56 = .ok (.invokevirtual 33, 3) := by decide +kernel
theorem dX1_admit_59 : decode cX1_admit 59 = .ok (.iinc 3 1, 3) := by decide +kernel
theorem dX1_admit_62 : decode cX1_admit 62 = .ok (.goto (-53), 3) := by decide +kernel
theorem dX1_admit_65 : decode cX1_admit 65 = .ok (.return_, 1) := by decide +kernel
theorem dX1_join_0 : decode cX1_join 0 = .ok (.iload_n 1, 1) := by decide +kernel
theorem dX1_join_1 : decode cX1_join 1 = .ok (.iload_n 2, 1) := by decide +kernel
theorem dX1_join_2 : decode cX1_join 2 = .ok (.invokestatic 37, 3) := by decide +kernel
theorem dX1_join_5 : decode cX1_join 5 = .ok (.istore 4, 2) := by decide +kernel
theorem dX1_join_7 : decode cX1_join 7 = .ok (.iload_n 1, 1) := by decide +kernel
theorem dX1_join_8 : decode cX1_join 8 = .ok (.iload_n 2, 1) := by decide +kernel
theorem dX1_join_9 : decode cX1_join 9 = .ok (.invokestatic 43, 3) := by decide +kernel
theorem dX1_join_12 : decode cX1_join 12 = .ok (.istore 5, 2) := by decide +kernel
theorem dX1_join_14 : decode cX1_join 14 = .ok (.iload 5, 2) := by decide +kernel
theorem dX1_join_16 : decode cX1_join 16 = .ok (.istore 6, 2) := by decide +kernel
theorem dX1_join_18 : decode cX1_join 18 = .ok (.iload 6, 2) := by decide +kernel
theorem dX1_join_20 : decode cX1_join 20 = .ok (.iload_n 3, 1) := by decide +kernel
theorem dX1_join_21 : decode cX1_join 21 = .ok (.if_icmp .gt 30, 3) := by decide +kernel
theorem dX1_join_24 : decode cX1_join 24 = .ok (.aload_n 0, 1) := by decide +kernel
theorem dX1_join_25 : decode cX1_join 25 = .ok (.getfield 11, 3) := by decide +kernel
theorem dX1_join_28 : decode cX1_join 28 = .ok (.iload 6, 2) := by decide +kernel
theorem dX1_join_30 : decode cX1_join 30 = .ok (.iaload, 1) := by decide +kernel
theorem dX1_join_31 : decode cX1_join 31 = .ok (.iload 5, 2) := by decide +kernel
theorem dX1_join_33 : decode cX1_join 33 = .ok (.if_icmp .ne 12, 3) := by decide +kernel
theorem dX1_join_36 : decode cX1_join 36 = .ok (.aload_n 0, 1) := by decide +kernel
theorem dX1_join_37 : decode cX1_join 37 = .ok (.getfield 11, 3) := by decide +kernel
theorem dX1_join_40 : decode cX1_join 40 = .ok (.iload 6, 2) := by decide +kernel
theorem dX1_join_42 : decode cX1_join 42 = .ok (.iload 4, 2) := by decide +kernel
theorem dX1_join_44 : decode cX1_join 44 = .ok (.iastore, 1) := by decide +kernel
theorem dX1_join_45 : decode cX1_join 45 = .ok (.iinc 6 1, 3) := by decide +kernel
theorem dX1_join_48 : decode cX1_join 48 = .ok (.goto (-30), 3) := by decide +kernel
theorem dX1_join_51 : decode cX1_join 51 = .ok (.return_, 1) := by decide +kernel
theorem dX1_headOf_0 : decode cX1_headOf 0 = .ok (.iload_n 1, 1) := by decide +kernel
theorem dX1_headOf_1 : decode cX1_headOf 1 = .ok (.istore_n 2, 1) := by decide +kernel
theorem dX1_headOf_2 : decode cX1_headOf 2 = .ok (.iload_n 1, 1) := by decide +kernel
theorem dX1_headOf_3 : decode cX1_headOf 3 = .ok (.iconst 1, 1) := by decide +kernel
theorem dX1_headOf_4 : decode cX1_headOf 4 = .ok (.iadd, 1) := by decide +kernel
theorem dX1_headOf_5 : decode cX1_headOf 5 = .ok (.istore_n 3, 1) := by decide +kernel
theorem dX1_headOf_6 : decode cX1_headOf 6 = .ok (.iload_n 3, 1) := by decide +kernel
theorem dX1_headOf_7 : decode cX1_headOf 7 = .ok (.aload_n 0, 1) := by decide +kernel
theorem dX1_headOf_8 : decode cX1_headOf 8 = .ok (.getfield 17, 3) := by decide +kernel
theorem dX1_headOf_11 : decode cX1_headOf 11 = .ok (.getfield 21, 3) := by decide +kernel
theorem dX1_headOf_14 : decode cX1_headOf 14 = .ok (.if_icmp .ge 33, 3) := by decide +kernel
theorem dX1_headOf_17 : decode cX1_headOf 17 = .ok (.aload_n 0, 1) := by decide +kernel
theorem dX1_headOf_18 : decode cX1_headOf 18 = .ok (.getfield 11, 3) := by decide +kernel
theorem dX1_headOf_21 : decode cX1_headOf 21 = .ok (.iload_n 3, 1) := by decide +kernel
theorem dX1_headOf_22 : decode cX1_headOf 22 = .ok (.iaload, 1) := by decide +kernel
theorem dX1_headOf_23 : decode cX1_headOf 23 = .ok (.iload_n 1, 1) := by decide +kernel
theorem dX1_headOf_24 : decode cX1_headOf 24 = .ok (.if_icmp .ne 17, 3) := by decide +kernel
theorem dX1_headOf_27 : decode cX1_headOf 27 = .ok (.aload_n 0, 1) := by decide +kernel
theorem dX1_headOf_28 : decode cX1_headOf 28 = .ok (.getfield 17, 3) := by decide +kernel
theorem dX1_headOf_31 : decode cX1_headOf 31 = .ok (.iload_n 3, 1) := by decide +kernel
theorem dX1_headOf_32 : decode cX1_headOf 32 = .ok (.iload_n 2, 1) := by decide +kernel
theorem dX1_headOf_33 : decode cX1_headOf 33 = .ok (.invokevirtual 46, 3) := by decide +kernel
theorem dX1_headOf_36 : decode cX1_headOf 36 = .ok (.ifCond .eq 5, 3) := by decide +kernel
theorem dX1_headOf_39 : decode cX1_headOf 39 = .ok (.iload_n 3, 1) := by decide +kernel
theorem dX1_headOf_40 : decode cX1_headOf 40 = .ok (.istore_n 2, 1) := by decide +kernel
theorem dX1_headOf_41 : decode cX1_headOf 41 = .ok (.iinc 3 1, 3) := by decide +kernel
theorem dX1_headOf_44 : decode cX1_headOf 44 = .ok (.goto (-38), 3) := by decide +kernel
theorem dX1_headOf_47 : decode cX1_headOf 47 = .ok (.iload_n 2, 1) := by decide +kernel
theorem dX1_headOf_48 : decode cX1_headOf 48 = .ok (.ireturn, 1) := by decide +kernel
theorem dX1_shareOf_0 : decode cX1_shareOf 0 = .ok (.aload_n 0, 1) := by decide +kernel
theorem dX1_shareOf_1 : decode cX1_shareOf 1 = .ok (.getfield 11, 3) := by decide +kernel
theorem dX1_shareOf_4 : decode cX1_shareOf 4 = .ok (.iload_n 1, 1) := by decide +kernel
theorem dX1_shareOf_5 : decode cX1_shareOf 5 = .ok (.iaload, 1) := by decide +kernel
theorem dX1_shareOf_6 : decode cX1_shareOf 6 = .ok (.istore_n 3, 1) := by decide +kernel
theorem dX1_shareOf_7 : decode cX1_shareOf 7 = .ok (.aload_n 0, 1) := by decide +kernel
theorem dX1_shareOf_8 : decode cX1_shareOf 8 = .ok (.iload_n 3, 1) := by decide +kernel
theorem dX1_shareOf_9 : decode cX1_shareOf 9 = .ok (.invokevirtual 50, 3) := by decide +kernel
theorem dX1_shareOf_12 : decode cX1_shareOf 12 = .ok (.istore 4, 2) := by decide +kernel
theorem dX1_shareOf_14 : decode cX1_shareOf 14 = .ok (.iconst 0, 1) := by decide +kernel
theorem dX1_shareOf_15 : decode cX1_shareOf 15 = .ok (.istore 5, 2) := by decide +kernel
theorem dX1_shareOf_17 : decode cX1_shareOf 17 = .ok (.iload_n 3, 1) := by decide +kernel
theorem dX1_shareOf_18 : decode cX1_shareOf 18 = .ok (.istore 6, 2) := by decide +kernel
theorem dX1_shareOf_20 : decode cX1_shareOf 20 = .ok (.iload 6, 2) := by decide +kernel
theorem dX1_shareOf_22 : decode cX1_shareOf 22 = .ok (.aload_n 0, 1) := by decide +kernel
theorem dX1_shareOf_23 : decode cX1_shareOf 23 = .ok (.getfield 17, 3) := by decide +kernel
theorem dX1_shareOf_26 : decode cX1_shareOf 26 = .ok (.getfield 21, 3) := by decide +kernel
theorem dX1_shareOf_29 : decode cX1_shareOf 29 = .ok (.if_icmp .ge 44, 3) := by decide +kernel
theorem dX1_shareOf_32 : decode cX1_shareOf 32 = .ok (.aload_n 0, 1) := by decide +kernel
theorem dX1_shareOf_33 : decode cX1_shareOf 33 = .ok (.getfield 11, 3) := by decide +kernel
theorem dX1_shareOf_36 : decode cX1_shareOf 36 = .ok (.iload 6, 2) := by decide +kernel
theorem dX1_shareOf_38 : decode cX1_shareOf 38 = .ok (.iaload, 1) := by decide +kernel
theorem dX1_shareOf_39 : decode cX1_shareOf 39 = .ok (.iload_n 3, 1) := by decide +kernel
theorem dX1_shareOf_40 : decode cX1_shareOf 40 = .ok (.if_icmp .ne 27, 3) := by decide +kernel
theorem dX1_shareOf_43 : decode cX1_shareOf 43 = .ok (.iload 6, 2) := by decide +kernel
theorem dX1_shareOf_45 : decode cX1_shareOf 45 = .ok (.iload 4, 2) := by decide +kernel
theorem dX1_shareOf_47 : decode cX1_shareOf 47 = .ok (.if_icmp .eq 20, 3) := by decide +kernel
theorem dX1_shareOf_50 : decode cX1_shareOf 50 = .ok (.iload 5, 2) := by decide +kernel
theorem dX1_shareOf_52 : decode cX1_shareOf 52 = .ok (.iconst 1, 1) := by decide +kernel
theorem dX1_shareOf_53 : decode cX1_shareOf 53 = .ok (.aload_n 0, 1) := by decide +kernel
theorem dX1_shareOf_54 : decode cX1_shareOf 54 = .ok (.getfield 17, 3) := by decide +kernel
theorem dX1_shareOf_57 : decode cX1_shareOf 57 = .ok (.getfield 54, 3) := by decide +kernel
theorem dX1_shareOf_60 : decode cX1_shareOf 60 = .ok (.iload 6, 2) := by decide +kernel
theorem dX1_shareOf_62 : decode cX1_shareOf 62 = .ok (.iaload, 1) := by decide +kernel
theorem dX1_shareOf_63 : decode cX1_shareOf 63 = .ok (.iadd, 1) := by decide +kernel
theorem dX1_shareOf_64 : decode cX1_shareOf 64 = .ok (.iadd, 1) := by decide +kernel
theorem dX1_shareOf_65 : decode cX1_shareOf 65 = .ok (.istore 5, 2) := by decide +kernel
theorem dX1_shareOf_67 : decode cX1_shareOf 67 = .ok (.iinc 6 1, 3) := by decide +kernel
theorem dX1_shareOf_70 : decode cX1_shareOf 70 = .ok (.goto (-50), 3) := by decide +kernel
theorem dX1_shareOf_73 : decode cX1_shareOf 73 = .ok (.iload 5, 2) := by decide +kernel
theorem dX1_shareOf_75 : decode cX1_shareOf 75 = .ok (.ifCond .ne 7, 3) := by decide +kernel
theorem dX1_shareOf_78 : decode cX1_shareOf 78 = .ok (.sipush 1000, 3) := by decide +kernel
theorem dX1_shareOf_81 : decode cX1_shareOf 81 = .ok (.ireturn, 1) := by decide +kernel
theorem dX1_shareOf_82 : decode cX1_shareOf 82 = .ok (.iload_n 1, 1) := by decide +kernel
theorem dX1_shareOf_83 : decode cX1_shareOf 83 = .ok (.iload 4, 2) := by decide +kernel
theorem dX1_shareOf_85 : decode cX1_shareOf 85 = .ok (.if_icmp .eq 24, 3) := by decide +kernel
theorem dX1_shareOf_88 : decode cX1_shareOf 88 = .ok (.sipush 1000, 3) := by decide +kernel
theorem dX1_shareOf_91 : decode cX1_shareOf 91 = .ok (.iload_n 2, 1) := by decide +kernel
theorem dX1_shareOf_92 : decode cX1_shareOf 92 = .ok (.isub, 1) := by decide +kernel
theorem dX1_shareOf_93 : decode cX1_shareOf 93 = .ok (.iconst 1, 1) := by decide +kernel
theorem dX1_shareOf_94 : decode cX1_shareOf 94 = .ok (.aload_n 0, 1) := by decide +kernel
theorem dX1_shareOf_95 : decode cX1_shareOf 95 = .ok (.getfield 17, 3) := by decide +kernel
theorem dX1_shareOf_98 : decode cX1_shareOf 98 = .ok (.getfield 54, 3) := by decide +kernel
theorem dX1_shareOf_101 : decode cX1_shareOf 101 = .ok (.iload_n 1, 1) := by decide +kernel
theorem dX1_shareOf_102 : decode cX1_shareOf 102 = .ok (.iaload, 1) := by decide +kernel
theorem dX1_shareOf_103 : decode cX1_shareOf 103 = .ok (.iadd, 1) := by decide +kernel
theorem dX1_shareOf_104 : decode cX1_shareOf 104 = .ok (.imul, 1) := by decide +kernel
theorem dX1_shareOf_105 : decode cX1_shareOf 105 = .ok (.iload 5, 2) := by decide +kernel
theorem dX1_shareOf_107 : decode cX1_shareOf 107 = .ok (.idiv, 1) := by decide +kernel
theorem dX1_shareOf_108 : decode cX1_shareOf 108 = .ok (.ireturn, 1) := by decide +kernel
theorem dX1_shareOf_109 : decode cX1_shareOf 109 = .ok (.sipush 1000, 3) := by decide +kernel
theorem dX1_shareOf_112 : decode cX1_shareOf 112 = .ok (.istore 6, 2) := by decide +kernel
theorem dX1_shareOf_114 : decode cX1_shareOf 114 = .ok (.iload_n 3, 1) := by decide +kernel
theorem dX1_shareOf_115 : decode cX1_shareOf 115 = .ok (.istore 7, 2) := by decide +kernel
theorem dX1_shareOf_117 : decode cX1_shareOf 117 = .ok (.iload 7, 2) := by decide +kernel
theorem dX1_shareOf_119 : decode cX1_shareOf 119 = .ok (.aload_n 0, 1) := by decide +kernel
theorem dX1_shareOf_120 : decode cX1_shareOf 120 = .ok (.getfield 17, 3) := by decide +kernel
theorem dX1_shareOf_123 : decode cX1_shareOf 123 = .ok (.getfield 21, 3) := by decide +kernel
theorem dX1_shareOf_126 : decode cX1_shareOf 126 = .ok (.if_icmp .ge 53, 3) := by decide +kernel
theorem dX1_shareOf_129 : decode cX1_shareOf 129 = .ok (.aload_n 0, 1) := by decide +kernel
theorem dX1_shareOf_130 : decode cX1_shareOf 130 = .ok (.getfield 11, 3) := by decide +kernel
theorem dX1_shareOf_133 : decode cX1_shareOf 133 = .ok (.iload 7, 2) := by decide +kernel
theorem dX1_shareOf_135 : decode cX1_shareOf 135 = .ok (.iaload, 1) := by decide +kernel
theorem dX1_shareOf_136 : decode cX1_shareOf 136 = .ok (.iload_n 3, 1) := by decide +kernel
theorem dX1_shareOf_137 : decode cX1_shareOf 137 = .ok (.if_icmp .ne 36, 3) := by decide +kernel
theorem dX1_shareOf_140 : decode cX1_shareOf 140 = .ok (.iload 7, 2) := by decide +kernel
theorem dX1_shareOf_142 : decode cX1_shareOf 142 = .ok (.iload 4, 2) := by decide +kernel
theorem dX1_shareOf_144 : decode cX1_shareOf 144 = .ok (.if_icmp .eq 29, 3) := by decide +kernel
theorem dX1_shareOf_147 : decode cX1_shareOf 147 = .ok (.iload 6, 2) := by decide +kernel
theorem dX1_shareOf_149 : decode cX1_shareOf 149 = .ok (.sipush 1000, 3) := by decide +kernel
theorem dX1_shareOf_152 : decode cX1_shareOf 152 = .ok (.iload_n 2, 1) := by decide +kernel
theorem dX1_shareOf_153 : decode cX1_shareOf 153 = .ok (.isub, 1) := by decide +kernel
theorem dX1_shareOf_154 : decode cX1_shareOf 154 = .ok (.iconst 1, 1) := by decide +kernel
theorem dX1_shareOf_155 : decode cX1_shareOf 155 = .ok (.aload_n 0, 1) := by decide +kernel
theorem dX1_shareOf_156 : decode cX1_shareOf 156 = .ok (.getfield 17, 3) := by decide +kernel
theorem dX1_shareOf_159 : decode cX1_shareOf 159 = .ok (.getfield 54, 3) := by decide +kernel
theorem dX1_shareOf_162 : decode cX1_shareOf 162 = .ok (.iload 7, 2) := by decide +kernel
theorem dX1_shareOf_164 : decode cX1_shareOf 164 = .ok (.iaload, 1) := by decide +kernel
theorem dX1_shareOf_165 : decode cX1_shareOf 165 = .ok (.iadd, 1) := by decide +kernel
theorem dX1_shareOf_166 : decode cX1_shareOf 166 = .ok (.imul, 1) := by decide +kernel
theorem dX1_shareOf_167 : decode cX1_shareOf 167 = .ok (.iload 5, 2) := by decide +kernel
theorem dX1_shareOf_169 : decode cX1_shareOf 169 = .ok (.idiv, 1) := by decide +kernel
theorem dX1_shareOf_170 : decode cX1_shareOf 170 = .ok (.isub, 1) := by decide +kernel
theorem dX1_shareOf_171 : decode cX1_shareOf 171 = .ok (.istore 6, 2) := by decide +kernel
theorem dX1_shareOf_173 : decode cX1_shareOf 173 = .ok (.iinc 7 1, 3) := by decide +kernel
theorem dX1_shareOf_176 : decode cX1_shareOf 176 = .ok (.goto (-59), 3) := by decide +kernel
theorem dX1_shareOf_179 : decode cX1_shareOf 179 = .ok (.iload 6, 2) := by decide +kernel
theorem dX1_shareOf_181 : decode cX1_shareOf 181 = .ok (.ireturn, 1) := by decide +kernel
theorem dX1_handsOf_0 : decode cX1_handsOf 0 = .ok (.lconst 0, 1) := by decide +kernel
theorem dX1_handsOf_1 : decode cX1_handsOf 1 = .ok (.lstore_n 2, 1) := by decide +kernel
theorem dX1_handsOf_2 : decode cX1_handsOf 2 = .ok (.iload_n 1, 1) := by decide +kernel
theorem dX1_handsOf_3 : decode cX1_handsOf 3 = .ok (.istore 4, 2) := by decide +kernel
theorem dX1_handsOf_5 : decode cX1_handsOf 5 = .ok (.iload 4, 2) := by decide +kernel
theorem dX1_handsOf_7 : decode cX1_handsOf 7 = .ok (.aload_n 0, 1) := by decide +kernel
theorem dX1_handsOf_8 : decode cX1_handsOf 8 = .ok (.getfield 17, 3) := by decide +kernel
theorem dX1_handsOf_11 : decode cX1_handsOf 11 = .ok (.getfield 21, 3) := by decide +kernel
theorem dX1_handsOf_14 : decode cX1_handsOf 14 = .ok (.if_icmp .ge 32, 3) := by decide +kernel
theorem dX1_handsOf_17 : decode cX1_handsOf 17 = .ok (.aload_n 0, 1) := by decide +kernel
theorem dX1_handsOf_18 : decode cX1_handsOf 18 = .ok (.getfield 11, 3) := by decide +kernel
theorem dX1_handsOf_21 : decode cX1_handsOf 21 = .ok (.iload 4, 2) := by decide +kernel
theorem dX1_handsOf_23 : decode cX1_handsOf 23 = .ok (.iaload, 1) := by decide +kernel
theorem dX1_handsOf_24 : decode cX1_handsOf 24 = .ok (.iload_n 1, 1) := by decide +kernel
theorem dX1_handsOf_25 : decode cX1_handsOf 25 = .ok (.if_icmp .ne 15, 3) := by decide +kernel
theorem dX1_handsOf_28 : decode cX1_handsOf 28 = .ok (.lload_n 2, 1) := by decide +kernel
theorem dX1_handsOf_29 : decode cX1_handsOf 29 = .ok (.aload_n 0, 1) := by decide +kernel
theorem dX1_handsOf_30 : decode cX1_handsOf 30 = .ok (.getfield 17, 3) := by decide +kernel
theorem dX1_handsOf_33 : decode cX1_handsOf 33 = .ok (.iload 4, 2) := by decide +kernel
theorem dX1_handsOf_35 : decode cX1_handsOf 35 = .ok (.invokevirtual 57, 3) := by decide +kernel
theorem dX1_handsOf_38 : decode cX1_handsOf 38 = .ok (.lor, 1) := by decide +kernel
theorem dX1_handsOf_39 : decode cX1_handsOf 39 = .ok (.lstore_n 2, 1) := by decide +kernel
theorem dX1_handsOf_40 : decode cX1_handsOf 40 = .ok (.iinc 4 1, 3) := by decide +kernel
theorem dX1_handsOf_43 : decode cX1_handsOf 43 = .ok (.goto (-38), 3) := by decide +kernel
theorem dX1_handsOf_46 : decode cX1_handsOf 46 = .ok (.lload_n 2, 1) := by decide +kernel
theorem dX1_handsOf_47 : decode cX1_handsOf 47 = .ok (.lreturn, 1) := by decide +kernel
theorem dX1_harmOf_0 : decode cX1_harmOf 0 = .ok (.iconst 0, 1) := by decide +kernel
theorem dX1_harmOf_1 : decode cX1_harmOf 1 = .ok (.istore_n 2, 1) := by decide +kernel
theorem dX1_harmOf_2 : decode cX1_harmOf 2 = .ok (.iload_n 1, 1) := by decide +kernel
theorem dX1_harmOf_3 : decode cX1_harmOf 3 = .ok (.istore_n 3, 1) := by decide +kernel
theorem dX1_harmOf_4 : decode cX1_harmOf 4 = .ok (.iload_n 3, 1) := by decide +kernel
theorem dX1_harmOf_5 : decode cX1_harmOf 5 = .ok (.aload_n 0, 1) := by decide +kernel
theorem dX1_harmOf_6 : decode cX1_harmOf 6 = .ok (.getfield 17, 3) := by decide +kernel
theorem dX1_harmOf_9 : decode cX1_harmOf 9 = .ok (.getfield 21, 3) := by decide +kernel
theorem dX1_harmOf_12 : decode cX1_harmOf 12 = .ok (.if_icmp .ge 31, 3) := by decide +kernel
theorem dX1_harmOf_15 : decode cX1_harmOf 15 = .ok (.aload_n 0, 1) := by decide +kernel
theorem dX1_harmOf_16 : decode cX1_harmOf 16 = .ok (.getfield 11, 3) := by decide +kernel
theorem dX1_harmOf_19 : decode cX1_harmOf 19 = .ok (.iload_n 3, 1) := by decide +kernel
theorem dX1_harmOf_20 : decode cX1_harmOf 20 = .ok (.iaload, 1) := by decide +kernel
theorem dX1_harmOf_21 : decode cX1_harmOf 21 = .ok (.iload_n 1, 1) := by decide +kernel
theorem dX1_harmOf_22 : decode cX1_harmOf 22 = .ok (.if_icmp .ne 15, 3) := by decide +kernel
theorem dX1_harmOf_25 : decode cX1_harmOf 25 = .ok (.iload_n 2, 1) := by decide +kernel
theorem dX1_harmOf_26 : decode cX1_harmOf 26 = .ok (.aload_n 0, 1) := by decide +kernel
theorem dX1_harmOf_27 : decode cX1_harmOf 27 = .ok (.getfield 17, 3) := by decide +kernel
theorem dX1_harmOf_30 : decode cX1_harmOf 30 = .ok (.getfield 61, 3) := by decide +kernel
theorem dX1_harmOf_33 : decode cX1_harmOf 33 = .ok (.iload_n 3, 1) := by decide +kernel
theorem dX1_harmOf_34 : decode cX1_harmOf 34 = .ok (.iaload, 1) := by decide +kernel
theorem dX1_harmOf_35 : decode cX1_harmOf 35 = .ok (.iadd, 1) := by decide +kernel
theorem dX1_harmOf_36 : decode cX1_harmOf 36 = .ok (.istore_n 2, 1) := by decide +kernel
theorem dX1_harmOf_37 : decode cX1_harmOf 37 = .ok (.iinc 3 1, 3) := by decide +kernel
theorem dX1_harmOf_40 : decode cX1_harmOf 40 = .ok (.goto (-36), 3) := by decide +kernel
theorem dX1_harmOf_43 : decode cX1_harmOf 43 = .ok (.iload_n 2, 1) := by decide +kernel
theorem dX1_harmOf_44 : decode cX1_harmOf 44 = .ok (.ireturn, 1) := by decide +kernel
theorem dX1_hasTaken_0 : decode cX1_hasTaken 0 = .ok (.iload_n 1, 1) := by decide +kernel
theorem dX1_hasTaken_1 : decode cX1_hasTaken 1 = .ok (.istore_n 2, 1) := by decide +kernel
theorem dX1_hasTaken_2 : decode cX1_hasTaken 2 = .ok (.iload_n 2, 1) := by decide +kernel
theorem dX1_hasTaken_3 : decode cX1_hasTaken 3 = .ok (.aload_n 0, 1) := by decide +kernel
theorem dX1_hasTaken_4 : decode cX1_hasTaken 4 = .ok (.getfield 17, 3) := by decide +kernel
theorem dX1_hasTaken_7 : decode cX1_hasTaken 7 = .ok (.getfield 21, 3) := by decide +kernel
theorem dX1_hasTaken_10 : decode cX1_hasTaken 10 = .ok (.if_icmp .ge 34, 3) := by decide +kernel
theorem dX1_hasTaken_13 : decode cX1_hasTaken 13 = .ok (.aload_n 0, 1) := by decide +kernel
theorem dX1_hasTaken_14 : decode cX1_hasTaken 14 = .ok (.getfield 11, 3) := by decide +kernel
theorem dX1_hasTaken_17 : decode cX1_hasTaken 17 = .ok (.iload_n 2, 1) := by decide +kernel
theorem dX1_hasTaken_18 : decode cX1_hasTaken 18 = .ok (.iaload, 1) := by decide +kernel
theorem dX1_hasTaken_19 : decode cX1_hasTaken 19 = .ok (.iload_n 1, 1) := by decide +kernel
theorem dX1_hasTaken_20 : decode cX1_hasTaken 20 = .ok (.if_icmp .ne 18, 3) := by decide +kernel
theorem dX1_hasTaken_23 : decode cX1_hasTaken 23 = .ok (.aload_n 0, 1) := by decide +kernel
theorem dX1_hasTaken_24 : decode cX1_hasTaken 24 = .ok (.getfield 17, 3) := by decide +kernel
theorem dX1_hasTaken_27 : decode cX1_hasTaken 27 = .ok (.getfield 64, 3) := by decide +kernel
theorem dX1_hasTaken_30 : decode cX1_hasTaken 30 = .ok (.iload_n 2, 1) := by decide +kernel
theorem dX1_hasTaken_31 : decode cX1_hasTaken 31 = .ok (.iaload, 1) := by decide +kernel
theorem dX1_hasTaken_32 : decode cX1_hasTaken 32 = .ok (.iconst 1, 1) := by decide +kernel
theorem dX1_hasTaken_33 : decode cX1_hasTaken 33 = .ok (.if_icmp .ne 5, 3) := by decide +kernel
theorem dX1_hasTaken_36 : decode cX1_hasTaken 36 = .ok (.iconst 1, 1) := by decide +kernel
theorem dX1_hasTaken_37 : decode cX1_hasTaken 37 = .ok (.ireturn, 1) := by decide +kernel
theorem dX1_hasTaken_38 : decode cX1_hasTaken 38 = .ok (.iinc 2 1, 3) := by decide +kernel
theorem dX1_hasTaken_41 : decode cX1_hasTaken 41 = .ok (.goto (-39), 3) := by decide +kernel
theorem dX1_hasTaken_44 : decode cX1_hasTaken 44 = .ok (.iconst 0, 1) := by decide +kernel
theorem dX1_hasTaken_45 : decode cX1_hasTaken 45 = .ok (.ireturn, 1) := by decide +kernel
theorem dX1_howMany_0 : decode cX1_howMany 0 = .ok (.iconst 0, 1) := by decide +kernel
theorem dX1_howMany_1 : decode cX1_howMany 1 = .ok (.istore_n 1, 1) := by decide +kernel
theorem dX1_howMany_2 : decode cX1_howMany 2 = .ok (.iconst 0, 1) := by decide +kernel
theorem dX1_howMany_3 : decode cX1_howMany 3 = .ok (.istore_n 2, 1) := by decide +kernel
theorem dX1_howMany_4 : decode cX1_howMany 4 = .ok (.iload_n 2, 1) := by decide +kernel
theorem dX1_howMany_5 : decode cX1_howMany 5 = .ok (.aload_n 0, 1) := by decide +kernel
theorem dX1_howMany_6 : decode cX1_howMany 6 = .ok (.getfield 17, 3) := by decide +kernel
theorem dX1_howMany_9 : decode cX1_howMany 9 = .ok (.getfield 21, 3) := by decide +kernel
theorem dX1_howMany_12 : decode cX1_howMany 12 = .ok (.if_icmp .ge 22, 3) := by decide +kernel
theorem dX1_howMany_15 : decode cX1_howMany 15 = .ok (.aload_n 0, 1) := by decide +kernel
theorem dX1_howMany_16 : decode cX1_howMany 16 = .ok (.getfield 11, 3) := by decide +kernel
theorem dX1_howMany_19 : decode cX1_howMany 19 = .ok (.iload_n 2, 1) := by decide +kernel
theorem dX1_howMany_20 : decode cX1_howMany 20 = .ok (.iaload, 1) := by decide +kernel
theorem dX1_howMany_21 : decode cX1_howMany 21 = .ok (.iload_n 2, 1) := by decide +kernel
theorem dX1_howMany_22 : decode cX1_howMany 22 = .ok (.if_icmp .ne 6, 3) := by decide +kernel
theorem dX1_howMany_25 : decode cX1_howMany 25 = .ok (.iinc 1 1, 3) := by decide +kernel
theorem dX1_howMany_28 : decode cX1_howMany 28 = .ok (.iinc 2 1, 3) := by decide +kernel
theorem dX1_howMany_31 : decode cX1_howMany 31 = .ok (.goto (-27), 3) := by decide +kernel
theorem dX1_howMany_34 : decode cX1_howMany 34 = .ok (.iload_n 1, 1) := by decide +kernel
theorem dX1_howMany_35 : decode cX1_howMany 35 = .ok (.ireturn, 1) := by decide +kernel
theorem dX2_init_0 : decode cX2_init 0 = .ok (.aload_n 0, 1) := by decide +kernel
theorem dX2_init_1 : decode cX2_init 1 = .ok (.invokespecial 3, 3) := by decide +kernel
theorem dX2_init_4 : decode cX2_init 4 = .ok (.aload_n 0, 1) := by decide +kernel
theorem dX2_init_5 : decode cX2_init 5 = .ok (.bipush 40, 2) := by decide +kernel
theorem dX2_init_7 : decode cX2_init 7 = .ok (.newarray .int, 2) := by decide +kernel
theorem dX2_init_9 : decode cX2_init 9 = .ok (.putfield 11, 3) := by decide +kernel
theorem dX2_init_12 : decode cX2_init 12 = .ok (.aload_n 0, 1) := by decide +kernel
theorem dX2_init_13 : decode cX2_init 13 = .ok (.bipush 40, 2) := by decide +kernel
theorem dX2_init_15 : decode cX2_init 15 = .ok (.newarray .long, 2) := by decide +kernel
theorem dX2_init_17 : decode cX2_init 17 = .ok (.putfield 15, 3) := by decide +kernel
theorem dX2_init_20 : decode cX2_init 20 = .ok (.aload_n 0, 1) := by decide +kernel
theorem dX2_init_21 : decode cX2_init 21 = .ok (.bipush 40, 2) := by decide +kernel
theorem dX2_init_23 : decode cX2_init 23 = .ok (.newarray .boolean, 2) := by decide +kernel
theorem dX2_init_25 : decode cX2_init 25 = .ok (.putfield 19, 3) := by decide +kernel
theorem dX2_init_28 : decode cX2_init 28 = .ok (.aload_n 0, 1) := by decide +kernel
theorem dX2_init_29 : decode cX2_init 29 = .ok (.bipush 40, 2) := by decide +kernel
theorem dX2_init_31 : decode cX2_init 31 = .ok (.newarray .int, 2) := by decide +kernel
theorem dX2_init_33 : decode cX2_init 33 = .ok (.putfield 23, 3) := by decide +kernel
theorem dX2_init_36 : decode cX2_init 36 = .ok (.aload_n 0, 1) := by decide +kernel
theorem dX2_init_37 : decode cX2_init 37 = .ok (.bipush 40, 2) := by decide +kernel
theorem dX2_init_39 : decode cX2_init 39 = .ok (.newarray .int, 2) := by decide +kernel
theorem dX2_init_41 : decode cX2_init 41 = .ok (.putfield 26, 3) := by decide +kernel
theorem dX2_init_44 : decode cX2_init 44 = .ok (.aload_n 0, 1) := by decide +kernel
theorem dX2_init_45 : decode cX2_init 45 = .ok (.bipush 40, 2) := by decide +kernel
theorem dX2_init_47 : decode cX2_init 47 = .ok (.newarray .int, 2) := by decide +kernel
theorem dX2_init_49 : decode cX2_init 49 = .ok (.putfield 29, 3) := by decide +kernel
theorem dX2_init_52 : decode cX2_init 52 = .ok (.aload_n 0, 1) := by decide +kernel
theorem dX2_init_53 : decode cX2_init 53 = .ok (.iconst 0, 1) := by decide +kernel
theorem dX2_init_54 : decode cX2_init 54 = .ok (.putfield 32, 3) := by decide +kernel
theorem dX2_init_57 : decode cX2_init 57 = .ok (.return_, 1) := by decide +kernel
theorem dX2_add_0 : decode cX2_add 0 = .ok (.aload_n 0, 1) := by decide +kernel
theorem dX2_add_1 : decode cX2_add 1 = .ok (.getfield 11, 3) := by decide +kernel
theorem dX2_add_4 : decode cX2_add 4 = .ok (.aload_n 0, 1) := by decide +kernel
theorem dX2_add_5 : decode cX2_add 5 = .ok (.getfield 32, 3) := by decide +kernel
theorem dX2_add_8 : decode cX2_add 8 = .ok (.iload_n 1, 1) := by decide +kernel
theorem dX2_add_9 : decode cX2_add 9 = .ok (.iastore, 1) := by decide +kernel
theorem dX2_add_10 : decode cX2_add 10 = .ok (.aload_n 0, 1) := by decide +kernel
theorem dX2_add_11 : decode cX2_add 11 = .ok (.dup, 1) := by decide +kernel
theorem dX2_add_12 : decode cX2_add 12 = .ok (.getfield 32, 3) := by decide +kernel
theorem dX2_add_15 : decode cX2_add 15 = .ok (.iconst 1, 1) := by decide +kernel
theorem dX2_add_16 : decode cX2_add 16 = .ok (.iadd, 1) := by decide +kernel
theorem dX2_add_17 : decode cX2_add 17 = .ok (.putfield 32, 3) := by decide +kernel
theorem dX2_add_20 : decode cX2_add 20 = .ok (.aload_n 0, 1) := by decide +kernel
theorem dX2_add_21 : decode cX2_add 21 = .ok (.getfield 32, 3) := by decide +kernel
theorem dX2_add_24 : decode cX2_add 24 = .ok (.iconst 1, 1) := by decide +kernel
theorem dX2_add_25 : decode cX2_add 25 = .ok (.isub, 1) := by decide +kernel
theorem dX2_add_26 : decode cX2_add 26 = .ok (.ireturn, 1) := by decide +kernel
theorem dX2_setKin_0 : decode cX2_setKin 0 = .ok (.aload_n 0, 1) := by decide +kernel
theorem dX2_setKin_1 : decode cX2_setKin 1 = .ok (.getfield 15, 3) := by decide +kernel
theorem dX2_setKin_4 : decode cX2_setKin 4 = .ok (.iload_n 1, 1) := by decide +kernel
theorem dX2_setKin_5 : decode cX2_setKin 5 = .ok (.laload, 1) := by decide +kernel
theorem dX2_setKin_6 : decode cX2_setKin 6 = .ok (.iload_n 2, 1) := by decide +kernel
theorem dX2_setKin_7 : decode cX2_setKin 7 = .ok (.invokestatic 36, 3) := by decide +kernel
theorem dX2_setKin_10 : decode cX2_setKin 10 = .ok (.iload_n 3, 1) := by decide +kernel
theorem dX2_setKin_11 : decode cX2_setKin 11 = .ok (.if_icmp .ne 5, 3) := by decide +kernel
theorem dX2_setKin_14 : decode cX2_setKin 14 = .ok (.iconst 0, 1) := by decide +kernel
theorem dX2_setKin_15 : decode cX2_setKin 15 = .ok (.ireturn, 1) := by decide +kernel
theorem dX2_setKin_16 : decode cX2_setKin 16 = .ok (.aload_n 0, 1) := by decide +kernel
theorem dX2_setKin_17 : decode cX2_setKin 17 = .ok (.getfield 15, 3) := by decide +kernel
theorem dX2_setKin_20 : decode cX2_setKin 20 = .ok (.iload_n 1, 1) := by decide +kernel
theorem dX2_setKin_21 : decode cX2_setKin 21 = .ok (.dup2, 1) := by decide +kernel
theorem dX2_setKin_22 : decode cX2_setKin 22 = .ok (.laload, 1) := by decide +kernel
theorem dX2_setKin_23 : decode cX2_setKin 23 = .ok (.lconst 1, 1) := by decide +kernel
theorem dX2_setKin_24 : decode cX2_setKin 24 = .ok (.iload_n 2, 1) := by decide +kernel
theorem dX2_setKin_25 : decode cX2_setKin 25 = .ok (.lshl, 1) := by decide +kernel
theorem dX2_setKin_26 : decode cX2_setKin 26 = .ok (.lxor, 1) := by decide +kernel
theorem dX2_setKin_27 : decode cX2_setKin 27 = .ok (.lastore, 1) := by decide +kernel
theorem dX2_setKin_28 : decode cX2_setKin 28 = .ok (.aload_n 0, 1) := by decide +kernel
theorem dX2_setKin_29 : decode cX2_setKin 29 = .ok (.getfield 15, 3) := by decide +kernel
theorem dX2_setKin_32 : decode cX2_setKin 32 = .ok (.iload_n 2, 1) := by decide +kernel
theorem dX2_setKin_33 : decode cX2_setKin 33 = .ok (.dup2, 1) := by decide +kernel
theorem dX2_setKin_34 : decode cX2_setKin 34 = .ok (.laload, 1) := by decide +kernel
theorem dX2_setKin_35 : decode cX2_setKin 35 = .ok (.lconst 1, 1) := by decide +kernel
theorem dX2_setKin_36 : decode cX2_setKin 36 = .ok (.iload_n 1, 1) := by decide +kernel
theorem dX2_setKin_37 : decode cX2_setKin 37 = .ok (.lshl, 1) := by decide +kernel
theorem dX2_setKin_38 : decode cX2_setKin 38 = .ok (.lxor, 1) := by decide +kernel
theorem dX2_setKin_39 : decode cX2_setKin 39 = .ok (.lastore, 1) := by decide +kernel
theorem dX2_setKin_40 : decode cX2_setKin 40 = .ok (.iconst 1, 1) := by decide +kernel
theorem dX2_setKin_41 : decode cX2_setKin 41 = .ok (.ireturn, 1) := by decide +kernel
theorem dX2_withKin_0 : decode cX2_withKin 0 = .ok (.lload_n 1, 1) := by decide +kernel
theorem dX2_withKin_1 : decode cX2_withKin 1 = .ok (.lstore_n 3, 1) := by decide +kernel
theorem dX2_withKin_2 : decode cX2_withKin 2 = .ok (.iconst 0, 1) := by decide +kernel
theorem dX2_withKin_3 : decode cX2_withKin 3 = .ok (.istore 5, 2) := by decide +kernel
theorem dX2_withKin_5 : decode cX2_withKin 5 = .ok (.iload 5, 2) := by decide +kernel
theorem dX2_withKin_7 : decode cX2_withKin 7 = .ok (.aload_n 0, 1) := by decide +kernel
theorem dX2_withKin_8 : decode cX2_withKin 8 = .ok (.getfield 32, 3) := by decide +kernel
theorem dX2_withKin_11 : decode cX2_withKin 11 = .ok (.if_icmp .ge 28, 3) := by decide +kernel
theorem dX2_withKin_14 : decode cX2_withKin 14 = .ok (.lload_n 1, 1) := by decide +kernel
theorem dX2_withKin_15 : decode cX2_withKin 15 = .ok (.iload 5, 2) := by decide +kernel
theorem dX2_withKin_17 : decode cX2_withKin 17 = .ok (.invokestatic 36, 3) := by decide +kernel
theorem dX2_withKin_20 : decode cX2_withKin 20 = .ok (.ifCond .eq 13, 3) := by decide +kernel
theorem dX2_withKin_23 : decode cX2_withKin 23 = .ok (.lload_n 3, 1) := by decide +kernel
theorem dX2_withKin_24 : decode cX2_withKin 24 = .ok (.aload_n 0, 1) := by decide +kernel
theorem dX2_withKin_25 : decode cX2_withKin 25 = .ok (.getfield 15, 3) := by decide +kernel
theorem dX2_withKin_28 : decode cX2_withKin 28 = .ok (.iload 5, 2) := by decide +kernel
theorem dX2_withKin_30 : decode cX2_withKin 30 = .ok (.laload, 1) := by decide +kernel
theorem dX2_withKin_31 : decode cX2_withKin 31 = .ok (.lor, 1) := by decide +kernel
theorem dX2_withKin_32 : decode cX2_withKin 32 = .ok (.lstore_n 3, 1) := by decide +kernel
theorem dX2_withKin_33 : decode cX2_withKin 33 = .ok (.iinc 5 1, 3) := by decide +kernel
theorem dX2_withKin_36 : decode cX2_withKin 36 = .ok (.goto (-31), 3) := by decide +kernel
theorem dX2_withKin_39 : decode cX2_withKin 39 = .ok (.lload_n 3, 1) := by decide +kernel
theorem dX2_withKin_40 : decode cX2_withKin 40 = .ok (.lreturn, 1) := by decide +kernel
theorem dX2_judgesOutside_0 : decode cX2_judgesOutside 0 = .ok (.lconst 0, 1) := by decide +kernel
theorem dX2_judgesOutside_1 : decode cX2_judgesOutside 1 = .ok (.lstore_n 2, 1) := by decide +kernel
theorem dX2_judgesOutside_2 : decode cX2_judgesOutside 2 = .ok (.iconst 0, 1) := by decide +kernel
theorem dX2_judgesOutside_3 : decode cX2_judgesOutside 3 = .ok (.istore 4, 2) := by decide +kernel
theorem dX2_judgesOutside_5 : decode cX2_judgesOutside 5 = .ok (.iload 4, 2) := by decide +kernel
theorem dX2_judgesOutside_7 : decode cX2_judgesOutside 7 = .ok (.aload_n 0, 1) := by decide +kernel
theorem dX2_judgesOutside_8 : decode cX2_judgesOutside 8 = .ok (.getfield 32, 3) := by decide +kernel
theorem dX2_judgesOutside_11 : decode cX2_judgesOutside 11 = .ok (.if_icmp .ge 37, 3) := by decide +kernel
theorem dX2_judgesOutside_14 : decode cX2_judgesOutside 14 = .ok (.aload_n 0, 1) := by decide +kernel
theorem dX2_judgesOutside_15 : decode cX2_judgesOutside 15 = .ok (.getfield 19, 3) := by decide +kernel
theorem dX2_judgesOutside_18 : decode cX2_judgesOutside 18 = .ok (.iload 4, 2) := by decide +kernel
theorem dX2_judgesOutside_20 : decode cX2_judgesOutside 20 = .ok (.baload, 1) := by decide +kernel
theorem dX2_judgesOutside_21 : decode cX2_judgesOutside 21 = .ok (.ifCond .eq 21, 3) := by decide +kernel
theorem dX2_judgesOutside_24 : decode cX2_judgesOutside 24 = .ok (.aload_n 0, 1) := by decide +kernel
theorem dX2_judgesOutside_25 : decode cX2_judgesOutside 25 = .ok (.getfield 11, 3) := by decide +kernel
theorem dX2_judgesOutside_28 : decode cX2_judgesOutside 28 = .ok (.iload 4, 2) := by decide +kernel
theorem dX2_judgesOutside_30 : decode cX2_judgesOutside 30 = .ok (.iaload, 1) := by decide +kernel
theorem dX2_judgesOutside_31 : decode cX2_judgesOutside 31 = .ok (.iload_n 1, 1) := by decide +kernel
theorem dX2_judgesOutside_32 : decode cX2_judgesOutside 32 = .ok (.if_icmp .eq 10, 3) := by decide +kernel
theorem dX2_judgesOutside_35 : decode cX2_judgesOutside 35 = .ok (.lload_n 2, 1) := by decide +kernel
theorem dX2_judgesOutside_36 : decode cX2_judgesOutside 36 = .ok (.lconst 1, 1) := by decide +kernel
theorem dX2_judgesOutside_37 : decode cX2_judgesOutside 37 = .ok (.iload 4, 2) := by decide +kernel
theorem dX2_judgesOutside_39 : decode cX2_judgesOutside 39 = .ok (.lshl, 1) := by decide +kernel
theorem dX2_judgesOutside_40 : decode cX2_judgesOutside 40 = .ok (.lor, 1) := by decide +kernel
theorem dX2_judgesOutside_41 : decode cX2_judgesOutside 41 = .ok (.lstore_n 2, 1) := by decide +kernel
theorem dX2_judgesOutside_42 : decode cX2_judgesOutside 42 = .ok (.iinc 4 1, 3) := by decide +kernel
theorem dX2_judgesOutside_45 : decode cX2_judgesOutside 45 = .ok (.goto (-40), 3) := by decide +kernel
theorem dX2_judgesOutside_48 : decode cX2_judgesOutside 48 = .ok (.lload_n 2, 1) := by decide +kernel
theorem dX2_judgesOutside_49 : decode cX2_judgesOutside 49 = .ok (.lreturn, 1) := by decide +kernel
theorem dX2_leastNamed_0 : decode cX2_leastNamed 0 = .ok (.bipush (-9), 2) := by decide +kernel
theorem dX2_leastNamed_2 : decode cX2_leastNamed 2 = .ok (.istore_n 3, 1) := by decide +kernel
theorem dX2_leastNamed_3 : decode cX2_leastNamed 3 = .ok (.iconst 0, 1) := by decide +kernel
theorem dX2_leastNamed_4 : decode cX2_leastNamed 4 = .ok (.istore 4, 2) := by decide +kernel
theorem dX2_leastNamed_6 : decode cX2_leastNamed 6 = .ok (.iload 4, 2) := by decide +kernel
theorem dX2_leastNamed_8 : decode cX2_leastNamed 8 = .ok (.aload_n 0, 1) := by decide +kernel
theorem dX2_leastNamed_9 : decode cX2_leastNamed 9 = .ok (.getfield 32, 3) := by decide +kernel
theorem dX2_leastNamed_12 : decode cX2_leastNamed 12 = .ok (.if_icmp .ge 43, 3) := by decide +kernel
theorem dX2_leastNamed_15 : decode cX2_leastNamed 15 = .ok (.lload_n 1, 1) := by decide +kernel
theorem dX2_leastNamed_16 : decode cX2_leastNamed 16 = .ok (.iload 4, 2) := by decide +kernel
theorem dX2_leastNamed_18 : decode cX2_leastNamed 18 = .ok (.invokestatic 36, 3) := by decide +kernel
theorem dX2_leastNamed_21 : decode cX2_leastNamed 21 = .ok (.ifCond .eq 28, 3) := by decide +kernel
theorem dX2_leastNamed_24 : decode cX2_leastNamed 24 = .ok (.iload_n 3, 1) := by decide +kernel
theorem dX2_leastNamed_25 : decode cX2_leastNamed 25 = .ok (.bipush (-9), 2) := by decide +kernel
theorem dX2_leastNamed_27 : decode cX2_leastNamed 27 = .ok (.if_icmp .eq 19, 3) := by decide +kernel
theorem dX2_leastNamed_30 : decode cX2_leastNamed 30 = .ok (.aload_n 0, 1) := by decide +kernel
theorem dX2_leastNamed_31 : decode cX2_leastNamed 31 = .ok (.getfield 23, 3) := by decide +kernel
theorem dX2_leastNamed_34 : decode cX2_leastNamed 34 = .ok (.iload 4, 2) := by decide +kernel
theorem dX2_leastNamed_36 : decode cX2_leastNamed 36 = .ok (.iaload, 1) := by decide +kernel
theorem dX2_leastNamed_37 : decode cX2_leastNamed 37 = .ok (.aload_n 0, 1) := by decide +kernel
theorem dX2_leastNamed_38 : decode cX2_leastNamed 38 = .ok (.getfield 23, 3) := by decide +kernel
theorem dX2_leastNamed_41 : decode cX2_leastNamed 41 = .ok (.iload_n 3, 1) := by decide +kernel
theorem dX2_leastNamed_42 : decode cX2_leastNamed 42 = .ok (.iaload, 1) := by decide +kernel
theorem dX2_leastNamed_43 : decode cX2_leastNamed 43 = .ok (.if_icmp .ge 6, 3) := by decide +kernel
theorem dX2_leastNamed_46 : decode cX2_leastNamed 46 = .ok (.iload 4, 2) := by decide +kernel
theorem dX2_leastNamed_48 : decode cX2_leastNamed 48 = .ok (.istore_n 3, 1) := by decide +kernel
theorem dX2_leastNamed_49 : decode cX2_leastNamed 49 = .ok (.iinc 4 1, 3) := by decide +kernel
theorem dX2_leastNamed_52 : decode cX2_leastNamed 52 = .ok (.goto (-46), 3) := by decide +kernel
theorem dX2_leastNamed_55 : decode cX2_leastNamed 55 = .ok (.iload_n 3, 1) := by decide +kernel
theorem dX2_leastNamed_56 : decode cX2_leastNamed 56 = .ok (.ireturn, 1) := by decide +kernel
theorem dX2_coinsInAll_0 : decode cX2_coinsInAll 0 = .ok (.iconst 0, 1) := by decide +kernel
theorem dX2_coinsInAll_1 : decode cX2_coinsInAll 1 = .ok (.istore_n 1, 1) := by decide +kernel
theorem dX2_coinsInAll_2 : decode cX2_coinsInAll 2 = .ok (.iconst 0, 1) := by decide +kernel
theorem dX2_coinsInAll_3 : decode cX2_coinsInAll 3 = .ok (.istore_n 2, 1) := by decide +kernel
theorem dX2_coinsInAll_4 : decode cX2_coinsInAll 4 = .ok (.iload_n 2, 1) := by decide +kernel
theorem dX2_coinsInAll_5 : decode cX2_coinsInAll 5 = .ok (.aload_n 0, 1) := by decide +kernel
theorem dX2_coinsInAll_6 : decode cX2_coinsInAll 6 = .ok (.getfield 32, 3) := by decide +kernel
theorem dX2_coinsInAll_9 : decode cX2_coinsInAll 9 = .ok (.if_icmp .ge 25, 3) := by decide +kernel
theorem dX2_coinsInAll_12 : decode cX2_coinsInAll 12 = .ok (.iload_n 1, 1) := by decide +kernel
theorem dX2_coinsInAll_13 : decode cX2_coinsInAll 13 = .ok (.aload_n 0, 1) := by decide +kernel
theorem dX2_coinsInAll_14 : decode cX2_coinsInAll 14 = .ok (.getfield 26, 3) := by decide +kernel
theorem dX2_coinsInAll_17 : decode cX2_coinsInAll 17 = .ok (.iload_n 2, 1) := by decide +kernel
theorem dX2_coinsInAll_18 : decode cX2_coinsInAll 18 = .ok (.iaload, 1) := by decide +kernel
theorem dX2_coinsInAll_19 : decode cX2_coinsInAll 19 = .ok (.aload_n 0, 1) := by decide +kernel
theorem dX2_coinsInAll_20 : decode cX2_coinsInAll 20 = .ok (.getfield 29, 3) := by decide +kernel
theorem dX2_coinsInAll_23 : decode cX2_coinsInAll 23 = .ok (.iload_n 2, 1) := by decide +kernel
theorem dX2_coinsInAll_24 : decode cX2_coinsInAll 24 = .ok (.iaload, 1) := by decide +kernel
theorem dX2_coinsInAll_25 : decode cX2_coinsInAll 25 = .ok (.iadd, 1) := by decide +kernel
theorem dX2_coinsInAll_26 : decode cX2_coinsInAll 26 = .ok (.iadd, 1) := by decide +kernel
theorem dX2_coinsInAll_27 : decode cX2_coinsInAll 27 = .ok (.istore_n 1, 1) := by decide +kernel
theorem dX2_coinsInAll_28 : decode cX2_coinsInAll 28 = .ok (.iinc 2 1, 3) := by decide +kernel
theorem dX2_coinsInAll_31 : decode cX2_coinsInAll 31 = .ok (.goto (-27), 3) := by decide +kernel
theorem dX2_coinsInAll_34 : decode cX2_coinsInAll 34 = .ok (.iload_n 1, 1) := by decide +kernel
theorem dX2_coinsInAll_35 : decode cX2_coinsInAll 35 = .ok (.ireturn, 1) := by decide +kernel
theorem dX3_init_0 : decode cX3_init 0 = .ok (.aload_n 0, 1) := by decide +kernel
theorem dX3_init_1 : decode cX3_init 1 = .ok (.invokespecial 3, 3) := by decide +kernel
theorem dX3_init_4 : decode cX3_init 4 = .ok (.aload_n 0, 1) := by decide +kernel
theorem dX3_init_5 : decode cX3_init 5 = .ok (.bipush 40, 2) := by decide +kernel
theorem dX3_init_7 : decode cX3_init 7 = .ok (.newarray .int, 2) := by decide +kernel
theorem dX3_init_9 : decode cX3_init 9 = .ok (.putfield 11, 3) := by decide +kernel
theorem dX3_init_12 : decode cX3_init 12 = .ok (.aload_n 0, 1) := by decide +kernel
theorem dX3_init_13 : decode cX3_init 13 = .ok (.bipush 40, 2) := by decide +kernel
theorem dX3_init_15 : decode cX3_init 15 = .ok (.newarray .int, 2) := by decide +kernel
theorem dX3_init_17 : decode cX3_init 17 = .ok (.putfield 15, 3) := by decide +kernel
theorem dX3_init_20 : decode cX3_init 20 = .ok (.aload_n 0, 1) := by decide +kernel
theorem dX3_init_21 : decode cX3_init 21 = .ok (.bipush 40, 2) := by decide +kernel
theorem dX3_init_23 : decode cX3_init 23 = .ok (.newarray .int, 2) := by decide +kernel
theorem dX3_init_25 : decode cX3_init 25 = .ok (.putfield 18, 3) := by decide +kernel
theorem dX3_init_28 : decode cX3_init 28 = .ok (.aload_n 0, 1) := by decide +kernel
theorem dX3_init_29 : decode cX3_init 29 = .ok (.bipush 40, 2) := by decide +kernel
theorem dX3_init_31 : decode cX3_init 31 = .ok (.newarray .int, 2) := by decide +kernel
theorem dX3_init_33 : decode cX3_init 33 = .ok (.putfield 21, 3) := by decide +kernel
theorem dX3_init_36 : decode cX3_init 36 = .ok (.aload_n 0, 1) := by decide +kernel
theorem dX3_init_37 : decode cX3_init 37 = .ok (.bipush 40, 2) := by decide +kernel
theorem dX3_init_39 : decode cX3_init 39 = .ok (.newarray .int, 2) := by decide +kernel
theorem dX3_init_41 : decode cX3_init 41 = .ok (.putfield 24, 3) := by decide +kernel
theorem dX3_init_44 : decode cX3_init 44 = .ok (.aload_n 0, 1) := by decide +kernel
theorem dX3_init_45 : decode cX3_init 45 = .ok (.bipush 40, 2) := by decide +kernel
theorem dX3_init_47 : decode cX3_init 47 = .ok (.newarray .int, 2) := by decide +kernel
theorem dX3_init_49 : decode cX3_init 49 = .ok (.putfield 27, 3) := by decide +kernel
theorem dX3_init_52 : decode cX3_init 52 = .ok (.aload_n 0, 1) := by decide +kernel
theorem dX3_init_53 : decode cX3_init 53 = .ok (.bipush 40, 2) := by decide +kernel
theorem dX3_init_55 : decode cX3_init 55 = .ok (.newarray .int, 2) := by decide +kernel
theorem dX3_init_57 : decode cX3_init 57 = .ok (.putfield 30, 3) := by decide +kernel
theorem dX3_init_60 : decode cX3_init 60 = .ok (.aload_n 0, 1) := by decide +kernel
theorem dX3_init_61 : decode cX3_init 61 = .ok (.bipush 40, 2) := by decide +kernel
theorem dX3_init_63 : decode cX3_init 63 = .ok (.newarray .int, 2) := by decide +kernel
theorem dX3_init_65 : decode cX3_init 65 = .ok (.putfield 33, 3) := by decide +kernel
theorem dX3_init_68 : decode cX3_init 68 = .ok (.aload_n 0, 1) := by decide +kernel
theorem dX3_init_69 : decode cX3_init 69 = .ok (.bipush 40, 2) := by decide +kernel
theorem dX3_init_71 : decode cX3_init 71 = .ok (.newarray .int, 2) := by decide +kernel
theorem dX3_init_73 : decode cX3_init 73 = .ok (.putfield 36, 3) := by decide +kernel
theorem dX3_init_76 : decode cX3_init 76 = .ok (.aload_n 0, 1) := by decide +kernel
theorem dX3_init_77 : decode cX3_init 77 = .ok (.bipush 40, 2) := by decide +kernel
theorem dX3_init_79 : decode cX3_init 79 = .ok (.newarray .long, 2) := by decide +kernel
theorem dX3_init_81 : decode cX3_init 81 = .ok (.putfield 39, 3) := by decide +kernel
theorem dX3_init_84 : decode cX3_init 84 = .ok (.aload_n 0, 1) := by decide +kernel
theorem dX3_init_85 : decode cX3_init 85 = .ok (.iconst 0, 1) := by decide +kernel
theorem dX3_init_86 : decode cX3_init 86 = .ok (.putfield 43, 3) := by decide +kernel
theorem dX3_init_89 : decode cX3_init 89 = .ok (.return_, 1) := by decide +kernel
theorem dX3_add_0 : decode cX3_add 0 = .ok (.aload_n 0, 1) := by decide +kernel
theorem dX3_add_1 : decode cX3_add 1 = .ok (.getfield 11, 3) := by decide +kernel
theorem dX3_add_4 : decode cX3_add 4 = .ok (.aload_n 0, 1) := by decide +kernel
theorem dX3_add_5 : decode cX3_add 5 = .ok (.getfield 43, 3) := by decide +kernel
theorem dX3_add_8 : decode cX3_add 8 = .ok (.iload_n 1, 1) := by decide +kernel
theorem dX3_add_9 : decode cX3_add 9 = .ok (.iastore, 1) := by decide +kernel
theorem dX3_add_10 : decode cX3_add 10 = .ok (.aload_n 0, 1) := by decide +kernel
theorem dX3_add_11 : decode cX3_add 11 = .ok (.getfield 15, 3) := by decide +kernel
theorem dX3_add_14 : decode cX3_add 14 = .ok (.aload_n 0, 1) := by decide +kernel
theorem dX3_add_15 : decode cX3_add 15 = .ok (.getfield 43, 3) := by decide +kernel
theorem dX3_add_18 : decode cX3_add 18 = .ok (.iload_n 2, 1) := by decide +kernel
theorem dX3_add_19 : decode cX3_add 19 = .ok (.iastore, 1) := by decide +kernel
theorem dX3_add_20 : decode cX3_add 20 = .ok (.aload_n 0, 1) := by decide +kernel
theorem dX3_add_21 : decode cX3_add 21 = .ok (.getfield 18, 3) := by decide +kernel
theorem dX3_add_24 : decode cX3_add 24 = .ok (.aload_n 0, 1) := by decide +kernel
theorem dX3_add_25 : decode cX3_add 25 = .ok (.getfield 43, 3) := by decide +kernel
theorem dX3_add_28 : decode cX3_add 28 = .ok (.iload_n 3, 1) := by decide +kernel
theorem dX3_add_29 : decode cX3_add 29 = .ok (.iastore, 1) := by decide +kernel
theorem dX3_add_30 : decode cX3_add 30 = .ok (.aload_n 0, 1) := by decide +kernel
theorem dX3_add_31 : decode cX3_add 31 = .ok (.getfield 21, 3) := by decide +kernel
theorem dX3_add_34 : decode cX3_add 34 = .ok (.aload_n 0, 1) := by decide +kernel
theorem dX3_add_35 : decode cX3_add 35 = .ok (.getfield 43, 3) := by decide +kernel
theorem dX3_add_38 : decode cX3_add 38 = .ok (.iload 4, 2) := by decide +kernel
theorem dX3_add_40 : decode cX3_add 40 = .ok (.iastore, 1) := by decide +kernel
theorem dX3_add_41 : decode cX3_add 41 = .ok (.aload_n 0, 1) := by decide +kernel
theorem dX3_add_42 : decode cX3_add 42 = .ok (.getfield 24, 3) := by decide +kernel
theorem dX3_add_45 : decode cX3_add 45 = .ok (.aload_n 0, 1) := by decide +kernel
theorem dX3_add_46 : decode cX3_add 46 = .ok (.getfield 43, 3) := by decide +kernel
theorem dX3_add_49 : decode cX3_add 49 = .ok (.iload 5, 2) := by decide +kernel
theorem dX3_add_51 : decode cX3_add 51 = .ok (.iastore, 1) := by decide +kernel
theorem dX3_add_52 : decode cX3_add 52 = .ok (.aload_n 0, 1) := by decide +kernel
theorem dX3_add_53 : decode cX3_add 53 = .ok (.dup, 1) := by decide +kernel
theorem dX3_add_54 : decode cX3_add 54 = .ok (.getfield 43, 3) := by decide +kernel
theorem dX3_add_57 : decode cX3_add 57 = .ok (.iconst 1, 1) := by decide +kernel
theorem dX3_add_58 : decode cX3_add 58 = .ok (.iadd, 1) := by decide +kernel
theorem dX3_add_59 : decode cX3_add 59 = .ok (.putfield 43, 3) := by decide +kernel
theorem dX3_add_62 : decode cX3_add 62 = .ok (.aload_n 0, 1) := by decide +kernel
theorem dX3_add_63 : decode cX3_add 63 = .ok (.getfield 43, 3) := by decide +kernel
theorem dX3_add_66 : decode cX3_add 66 = .ok (.iconst 1, 1) := by decide +kernel
theorem dX3_add_67 : decode cX3_add 67 = .ok (.isub, 1) := by decide +kernel
theorem dX3_add_68 : decode cX3_add 68 = .ok (.ireturn, 1) := by decide +kernel
theorem dX3_teamSize_0 : decode cX3_teamSize 0 = .ok (.aload_n 0, 1) := by decide +kernel
theorem dX3_teamSize_1 : decode cX3_teamSize 1 = .ok (.getfield 39, 3) := by decide +kernel
theorem dX3_teamSize_4 : decode cX3_teamSize 4 = .ok (.iload_n 1, 1) := by decide +kernel
theorem dX3_teamSize_5 : decode cX3_teamSize 5 = .ok (.laload, 1) := by decide +kernel
theorem dX3_teamSize_6 : decode cX3_teamSize 6 = .ok (.invokestatic 47, 3) := by decide +kernel
theorem dX3_teamSize_9 : decode cX3_teamSize 9 = .ok (.ireturn, 1) := by decide +kernel
theorem dX3_handsOf_0 : decode cX3_handsOf 0 = .ok (.aload_n 0, 1) := by decide +kernel
theorem dX3_handsOf_1 : decode cX3_handsOf 1 = .ok (.getfield 39, 3) := by decide +kernel
theorem dX3_handsOf_4 : decode cX3_handsOf 4 = .ok (.iload_n 1, 1) := by decide +kernel
theorem dX3_handsOf_5 : decode cX3_handsOf 5 = .ok (.laload, 1) := by decide +kernel
theorem dX3_handsOf_6 : decode cX3_handsOf 6 = .ok (.lconst 1, 1) := by decide +kernel
theorem dX3_handsOf_7 : decode cX3_handsOf 7 = .ok (.aload_n 0, 1) := by decide +kernel
theorem dX3_handsOf_8 : decode cX3_handsOf 8 = .ok (.getfield 11, 3) := by decide +kernel
theorem dX3_handsOf_11 : decode cX3_handsOf 11 = .ok (.iload_n 1, 1) := by decide +kernel
theorem dX3_handsOf_12 : decode cX3_handsOf 12 = .ok (.iaload, 1) := by decide +kernel
theorem dX3_handsOf_13 : decode cX3_handsOf 13 = .ok (.lshl, 1) := by decide +kernel
theorem dX3_handsOf_14 : decode cX3_handsOf 14 = .ok (.lor, 1) := by decide +kernel
theorem dX3_handsOf_15 : decode cX3_handsOf 15 = .ok (.lreturn, 1) := by decide +kernel
theorem dX3_areAlike_0 : decode cX3_areAlike 0 = .ok (.aload_n 0, 1) := by decide +kernel
theorem dX3_areAlike_1 : decode cX3_areAlike 1 = .ok (.getfield 15, 3) := by decide +kernel
theorem dX3_areAlike_4 : decode cX3_areAlike 4 = .ok (.iload_n 1, 1) := by decide +kernel
theorem dX3_areAlike_5 : decode cX3_areAlike 5 = .ok (.iaload, 1) := by decide +kernel
theorem dX3_areAlike_6 : decode cX3_areAlike 6 = .ok (.aload_n 0, 1) := by decide +kernel
theorem dX3_areAlike_7 : decode cX3_areAlike 7 = .ok (.getfield 15, 3) := by decide +kernel
theorem dX3_areAlike_10 : decode cX3_areAlike 10 = .ok (.iload_n 2, 1) := by decide +kernel
theorem dX3_areAlike_11 : decode cX3_areAlike 11 = .ok (.iaload, 1) := by decide +kernel
theorem dX3_areAlike_12 : decode cX3_areAlike 12 = .ok (.if_icmp .ne 26, 3) := by decide +kernel
theorem dX3_areAlike_15 : decode cX3_areAlike 15 = .ok (.aload_n 0, 1) := by decide +kernel
theorem dX3_areAlike_16 : decode cX3_areAlike 16 = .ok (.getfield 18, 3) := by decide +kernel
theorem dX3_areAlike_19 : decode cX3_areAlike 19 = .ok (.iload_n 1, 1) := by decide +kernel
theorem dX3_areAlike_20 : decode cX3_areAlike 20 = .ok (.iaload, 1) := by decide +kernel
theorem dX3_areAlike_21 : decode cX3_areAlike 21 = .ok (.aload_n 0, 1) := by decide +kernel
theorem dX3_areAlike_22 : decode cX3_areAlike 22 = .ok (.getfield 18, 3) := by decide +kernel
theorem dX3_areAlike_25 : decode cX3_areAlike 25 = .ok (.iload_n 2, 1) := by decide +kernel
theorem dX3_areAlike_26 : decode cX3_areAlike 26 = .ok (.iaload, 1) := by decide +kernel
theorem dX3_areAlike_27 : decode cX3_areAlike 27 = .ok (.invokestatic 53, 3) := by decide +kernel
theorem dX3_areAlike_30 : decode cX3_areAlike 30 = .ok (.iload_n 3, 1) := by decide +kernel
theorem dX3_areAlike_31 : decode cX3_areAlike 31 = .ok (.if_icmp .lt 7, 3) := by decide +kernel
theorem dX3_areAlike_34 : decode cX3_areAlike 34 = .ok (.iconst 1, 1) := by decide +kernel
theorem dX3_areAlike_35 : decode cX3_areAlike 35 = .ok (.goto 4, 3) := by decide +kernel
theorem dX3_areAlike_38 : decode cX3_areAlike 38 = .ok (.iconst 0, 1) := by decide +kernel
theorem dX3_areAlike_39 : decode cX3_areAlike 39 = .ok (.ireturn, 1) := by decide +kernel
theorem dX3_isAhead_0 : decode cX3_isAhead 0 = .ok (.aload_n 0, 1) := by decide +kernel
theorem dX3_isAhead_1 : decode cX3_isAhead 1 = .ok (.getfield 24, 3) := by decide +kernel
theorem dX3_isAhead_4 : decode cX3_isAhead 4 = .ok (.iload_n 1, 1) := by decide +kernel
theorem dX3_isAhead_5 : decode cX3_isAhead 5 = .ok (.iaload, 1) := by decide +kernel
theorem dX3_isAhead_6 : decode cX3_isAhead 6 = .ok (.aload_n 0, 1) := by decide +kernel
theorem dX3_isAhead_7 : decode cX3_isAhead 7 = .ok (.getfield 24, 3) := by decide +kernel
theorem dX3_isAhead_10 : decode cX3_isAhead 10 = .ok (.iload_n 2, 1) := by decide +kernel
theorem dX3_isAhead_11 : decode cX3_isAhead 11 = .ok (.iaload, 1) := by decide +kernel
theorem dX3_isAhead_12 : decode cX3_isAhead 12 = .ok (.if_icmp .eq 24, 3) := by decide +kernel
theorem dX3_isAhead_15 : decode cX3_isAhead 15 = .ok (.aload_n 0, 1) := by decide +kernel
theorem dX3_isAhead_16 : decode cX3_isAhead 16 = .ok (.getfield 24, 3) := by decide +kernel
theorem dX3_isAhead_19 : decode cX3_isAhead 19 = .ok (.iload_n 1, 1) := by decide +kernel
theorem dX3_isAhead_20 : decode cX3_isAhead 20 = .ok (.iaload, 1) := by decide +kernel
theorem dX3_isAhead_21 : decode cX3_isAhead 21 = .ok (.aload_n 0, 1) := by decide +kernel
theorem dX3_isAhead_22 : decode cX3_isAhead 22 = .ok (.getfield 24, 3) := by decide +kernel
theorem dX3_isAhead_25 : decode cX3_isAhead 25 = .ok (.iload_n 2, 1) := by decide +kernel
theorem dX3_isAhead_26 : decode cX3_isAhead 26 = .ok (.iaload, 1) := by decide +kernel
theorem dX3_isAhead_27 : decode cX3_isAhead 27 = .ok (.if_icmp .ge 7, 3) := by decide +kernel
theorem dX3_isAhead_30 : decode cX3_isAhead 30 = .ok (.iconst 1, 1) := by decide +kernel
theorem dX3_isAhead_31 : decode cX3_isAhead 31 = .ok (.goto 4, 3) := by decide +kernel
theorem dX3_isAhead_34 : decode cX3_isAhead 34 = .ok (.iconst 0, 1) := by decide +kernel
theorem dX3_isAhead_35 : decode cX3_isAhead 35 = .ok (.ireturn, 1) := by decide +kernel
theorem dX3_isAhead_36 : decode cX3_isAhead 36 = .ok (.aload_n 0, 1) := by decide +kernel
theorem dX3_isAhead_37 : decode cX3_isAhead 37 = .ok (.getfield 21, 3) := by decide +kernel
theorem dX3_isAhead_40 : decode cX3_isAhead 40 = .ok (.iload_n 1, 1) := by decide +kernel
theorem dX3_isAhead_41 : decode cX3_isAhead 41 = .ok (.iaload, 1) := by decide +kernel
theorem dX3_isAhead_42 : decode cX3_isAhead 42 = .ok (.aload_n 0, 1) := by decide +kernel
theorem dX3_isAhead_43 : decode cX3_isAhead 43 = .ok (.getfield 21, 3) := by decide +kernel
theorem dX3_isAhead_46 : decode cX3_isAhead 46 = .ok (.iload_n 2, 1) := by decide +kernel
theorem dX3_isAhead_47 : decode cX3_isAhead 47 = .ok (.iaload, 1) := by decide +kernel
theorem dX3_isAhead_48 : decode cX3_isAhead 48 = .ok (.if_icmp .eq 24, 3) := by decide +kernel
theorem dX3_isAhead_51 : decode cX3_isAhead 51 = .ok (.aload_n 0, 1) := by decide +kernel
theorem dX3_isAhead_52 : decode cX3_isAhead 52 = .ok (.getfield 21, 3) := by decide +kernel
theorem dX3_isAhead_55 : decode cX3_isAhead 55 = .ok (.iload_n 1, 1) := by decide +kernel
theorem dX3_isAhead_56 : decode cX3_isAhead 56 = .ok (.iaload, 1) := by decide +kernel
theorem dX3_isAhead_57 : decode cX3_isAhead 57 = .ok (.aload_n 0, 1) := by decide +kernel
theorem dX3_isAhead_58 : decode cX3_isAhead 58 = .ok (.getfield 21, 3) := by decide +kernel
theorem dX3_isAhead_61 : decode cX3_isAhead 61 = .ok (.iload_n 2, 1) := by decide +kernel
theorem dX3_isAhead_62 : decode cX3_isAhead 62 = .ok (.iaload, 1) := by decide +kernel
theorem dX3_isAhead_63 : decode cX3_isAhead 63 = .ok (.if_icmp .le 7, 3) := by decide +kernel
theorem dX3_isAhead_66 : decode cX3_isAhead 66 = .ok (.iconst 1, 1) := by decide +kernel
theorem dX3_isAhead_67 : decode cX3_isAhead 67 = .ok (.goto 4, 3) := by decide +kernel
theorem dX3_isAhead_70 : decode cX3_isAhead 70 = .ok (.iconst 0, 1) := by decide +kernel
theorem dX3_isAhead_71 : decode cX3_isAhead 71 = .ok (.ireturn, 1) := by decide +kernel
theorem dX3_isAhead_72 : decode cX3_isAhead 72 = .ok (.iload_n 1, 1) := by decide +kernel
theorem dX3_isAhead_73 : decode cX3_isAhead 73 = .ok (.iload_n 2, 1) := by decide +kernel
theorem dX3_isAhead_74 : decode cX3_isAhead 74 = .ok (.if_icmp .ge 7, 3) := by decide +kernel
theorem dX3_isAhead_77 : decode cX3_isAhead 77 = .ok (.iconst 1, 1) := by decide +kernel
theorem dX3_isAhead_78 : decode cX3_isAhead 78 = .ok (.goto 4, 3) := by decide +kernel
theorem dX3_isAhead_81 : decode cX3_isAhead 81 = .ok (.iconst 0, 1) := by decide +kernel
theorem dX3_isAhead_82 : decode cX3_isAhead 82 = .ok (.ireturn, 1) := by decide +kernel
theorem dX3_turnedDownLike_0 : decode cX3_turnedDownLike 0 = .ok (.bipush (-9), 2) := by decide +kernel
theorem dX3_turnedDownLike_2 : decode cX3_turnedDownLike 2 = .ok (.istore 4, 2) := by decide +kernel
theorem dX3_turnedDownLike_4 : decode cX3_turnedDownLike 4 = .ok (.iload_n 3, 1) := by decide +kernel
theorem dX3_turnedDownLike_5 : decode cX3_turnedDownLike 5 = .ok (.istore 5, 2) := by decide +kernel
theorem dX3_turnedDownLike_7 : decode cX3_turnedDownLike 7 = .ok (.iconst 0, 1) := by decide +kernel
theorem dX3_turnedDownLike_8 : decode cX3_turnedDownLike 8 = .ok (.istore 6, 2) := by decide +kernel
theorem dX3_turnedDownLike_10 : decode cX3_turnedDownLike 10 = .ok (.iload 6, 2) := by decide +kernel
theorem dX3_turnedDownLike_12 : decode cX3_turnedDownLike 12 = .ok (.aload_n 0, 1) := by decide +kernel
theorem dX3_turnedDownLike_13 : decode cX3_turnedDownLike 13 = .ok (.getfield 43, 3) := by decide +kernel
theorem dX3_turnedDownLike_16 : decode cX3_turnedDownLike 16 = .ok (.if_icmp .ge 87, 3) := by decide +kernel
theorem dX3_turnedDownLike_19 : decode cX3_turnedDownLike 19 = .ok (.aload_n 0, 1) := by decide +kernel
theorem dX3_turnedDownLike_20 : decode cX3_turnedDownLike 20 = .ok (.getfield 27, 3) := by decide +kernel
theorem dX3_turnedDownLike_23 : decode cX3_turnedDownLike 23 = .ok (.iload 6, 2) := by decide +kernel
theorem dX3_turnedDownLike_25 : decode cX3_turnedDownLike 25 = .ok (.iaload, 1) := by decide +kernel
theorem dX3_turnedDownLike_26 : decode cX3_turnedDownLike 26 = .ok (.iconst 2, 1) := by decide +kernel
theorem dX3_turnedDownLike_27 : decode cX3_turnedDownLike 27 = .ok (.if_icmp .ne 70, 3) := by decide +kernel
theorem dX3_turnedDownLike_30 : decode cX3_turnedDownLike 30 = .ok (.aload_n 0, 1) := by decide +kernel
theorem dX3_turnedDownLike_31 : decode cX3_turnedDownLike 31 = .ok (.getfield 15, 3) := by decide +kernel
theorem dX3_turnedDownLike_34 : decode cX3_turnedDownLike 34 = .ok (.iload 6, 2) := by decide +kernel
theorem dX3_turnedDownLike_36 : decode cX3_turnedDownLike 36 = .ok (.iaload, 1) := by decide +kernel
theorem dX3_turnedDownLike_37 : decode cX3_turnedDownLike 37 = .ok (.iload_n 1, 1) := by decide +kernel
theorem dX3_turnedDownLike_38 : decode cX3_turnedDownLike 38 = .ok (.if_icmp .eq 6, 3) := by decide +kernel
theorem dX3_turnedDownLike_41 : decode cX3_turnedDownLike 41 = .ok (.goto 56, 3) := by decide +kernel
theorem dX3_turnedDownLike_44 : decode cX3_turnedDownLike 44 = .ok (.aload_n 0, 1) := by decide +kernel
theorem dX3_turnedDownLike_45 : decode cX3_turnedDownLike 45 = .ok (.getfield 18, 3) := by decide +kernel
theorem dX3_turnedDownLike_48 : decode cX3_turnedDownLike 48 = .ok (.iload 6, 2) := by decide +kernel
theorem dX3_turnedDownLike_50 : decode cX3_turnedDownLike 50 = .ok (.iaload, 1) := by decide +kernel
theorem dX3_turnedDownLike_51 : decode cX3_turnedDownLike 51 = .ok (.iload_n 2, 1) := by decide +kernel
theorem dX3_turnedDownLike_52 : decode cX3_turnedDownLike 52 = .ok (.invokestatic 53, 3) := by decide +kernel
theorem dX3_turnedDownLike_55 : decode cX3_turnedDownLike 55 = .ok (.istore 7, 2) := by decide +kernel
theorem dX3_turnedDownLike_57 : decode cX3_turnedDownLike 57 = .ok (.iload 7, 2) := by decide +kernel
theorem dX3_turnedDownLike_59 : decode cX3_turnedDownLike 59 = .ok (.iload 5, 2) := by decide +kernel
theorem dX3_turnedDownLike_61 : decode cX3_turnedDownLike 61 = .ok (.if_icmp .gt 28, 3) := by decide +kernel
theorem dX3_turnedDownLike_64 : decode cX3_turnedDownLike 64 = .ok (.iload 7, 2) := by decide +kernel
theorem dX3_turnedDownLike_66 : decode cX3_turnedDownLike 66 = .ok (.iload 5, 2) := by decide +kernel
theorem dX3_turnedDownLike_68 : decode cX3_turnedDownLike 68 = .ok (.if_icmp .ne 29, 3) := by decide +kernel
theorem dX3_turnedDownLike_71 : decode cX3_turnedDownLike 71 = .ok (.iload 4, 2) := by decide +kernel
theorem dX3_turnedDownLike_73 : decode cX3_turnedDownLike 73 = .ok (.bipush (-9), 2) := by decide +kernel
theorem dX3_turnedDownLike_75 : decode cX3_turnedDownLike 75 = .ok (.if_icmp .eq 14, 3) := by decide +kernel
theorem dX3_turnedDownLike_78 : decode cX3_turnedDownLike 78 = .ok (.aload_n 0, 1) := by decide +kernel
theorem dX3_turnedDownLike_79 : decode cX3_turnedDownLike 79 = .ok (.iload 6, 2) := by decide +kernel
theorem dX3_turnedDownLike_81 : decode cX3_turnedDownLike 81 = .ok (.iload 4, 2) := by decide +kernel
theorem dX3_turnedDownLike_83 : decode cX3_turnedDownLike 83 = .ok (.invokevirtual 57, 3) := by decide +kernel
theorem dX3_turnedDownLike_86 : decode cX3_turnedDownLike 86 = .ok (.ifCond .eq 11, 3) := by decide +kernel
theorem dX3_turnedDownLike_89 : decode cX3_turnedDownLike 89 = .ok (.iload 6, 2) := by decide +kernel
theorem dX3_turnedDownLike_91 : decode cX3_turnedDownLike 91 = .ok (.istore 4, 2) := by decide +kernel
theorem dX3_turnedDownLike_93 : decode cX3_turnedDownLike 93 = .ok (.iload 7, 2) := by decide +kernel
theorem dX3_turnedDownLike_95 : decode cX3_turnedDownLike 95 = .ok (.istore 5, 2) := by decide +kernel
theorem dX3_turnedDownLike_97 : decode cX3_turnedDownLike 97 = .ok (.iinc 6 1, 3) := by decide +kernel
theorem dX3_turnedDownLike_100 : decode cX3_turnedDownLike 100 = .ok (.goto (-90), 3) := by decide +kernel
theorem dX3_turnedDownLike_103 : decode cX3_turnedDownLike 103 = .ok (.iload 4, 2) := by decide +kernel
theorem dX3_turnedDownLike_105 : decode cX3_turnedDownLike 105 = .ok (.ireturn, 1) := by decide +kernel
theorem dX3_howMany_0 : decode cX3_howMany 0 = .ok (.iconst 0, 1) := by decide +kernel
theorem dX3_howMany_1 : decode cX3_howMany 1 = .ok (.istore_n 2, 1) := by decide +kernel
theorem dX3_howMany_2 : decode cX3_howMany 2 = .ok (.iconst 0, 1) := by decide +kernel
theorem dX3_howMany_3 : decode cX3_howMany 3 = .ok (.istore_n 3, 1) := by decide +kernel
theorem dX3_howMany_4 : decode cX3_howMany 4 = .ok (.iload_n 3, 1) := by decide +kernel
theorem dX3_howMany_5 : decode cX3_howMany 5 = .ok (.aload_n 0, 1) := by decide +kernel
theorem dX3_howMany_6 : decode cX3_howMany 6 = .ok (.getfield 43, 3) := by decide +kernel
theorem dX3_howMany_9 : decode cX3_howMany 9 = .ok (.if_icmp .ge 22, 3) := by decide +kernel
theorem dX3_howMany_12 : decode cX3_howMany 12 = .ok (.aload_n 0, 1) := by decide +kernel
theorem dX3_howMany_13 : decode cX3_howMany 13 = .ok (.getfield 27, 3) := by decide +kernel
theorem dX3_howMany_16 : decode cX3_howMany 16 = .ok (.iload_n 3, 1) := by decide +kernel
theorem dX3_howMany_17 : decode cX3_howMany 17 = .ok (.iaload, 1) := by decide +kernel
theorem dX3_howMany_18 : decode cX3_howMany 18 = .ok (.iload_n 1, 1) := by decide +kernel
theorem dX3_howMany_19 : decode cX3_howMany 19 = .ok (.if_icmp .ne 6, 3) := by decide +kernel
theorem dX3_howMany_22 : decode cX3_howMany 22 = .ok (.iinc 2 1, 3) := by decide +kernel
theorem dX3_howMany_25 : decode cX3_howMany 25 = .ok (.iinc 3 1, 3) := by decide +kernel
theorem dX3_howMany_28 : decode cX3_howMany 28 = .ok (.goto (-24), 3) := by decide +kernel
theorem dX3_howMany_31 : decode cX3_howMany 31 = .ok (.iload_n 2, 1) := by decide +kernel
theorem dX3_howMany_32 : decode cX3_howMany 32 = .ok (.ireturn, 1) := by decide +kernel
theorem dX4_init_0 : decode cX4_init 0 = .ok (.aload_n 0, 1) := by decide +kernel
theorem dX4_init_1 : decode cX4_init 1 = .ok (.invokespecial 1, 3) := by decide +kernel
theorem dX4_init_4 : decode cX4_init 4 = .ok (.aload_n 0, 1) := by decide +kernel
theorem dX4_init_5 : decode cX4_init 5 = .ok (.sipush 200, 3) := by decide +kernel
theorem dX4_init_8 : decode cX4_init 8 = .ok (.newarray .int, 2) := by decide +kernel
theorem dX4_init_10 : decode cX4_init 10 = .ok (.putfield 9, 3) := by decide +kernel
theorem dX4_init_13 : decode cX4_init 13 = .ok (.aload_n 0, 1) := by decide +kernel
theorem dX4_init_14 : decode cX4_init 14 = .ok (.sipush 200, 3) := by decide +kernel
theorem dX4_init_17 : decode cX4_init 17 = .ok (.newarray .int, 2) := by decide +kernel
theorem dX4_init_19 : decode cX4_init 19 = .ok (.putfield 13, 3) := by decide +kernel
theorem dX4_init_22 : decode cX4_init 22 = .ok (.aload_n 0, 1) := by decide +kernel
theorem dX4_init_23 : decode cX4_init 23 = .ok (.sipush 200, 3) := by decide +kernel
theorem dX4_init_26 : decode cX4_init 26 = .ok (.newarray .boolean, 2) := by decide +kernel
theorem dX4_init_28 : decode cX4_init 28 = .ok (.putfield 16, 3) := by decide +kernel
theorem dX4_init_31 : decode cX4_init 31 = .ok (.aload_n 0, 1) := by decide +kernel
theorem dX4_init_32 : decode cX4_init 32 = .ok (.sipush 200, 3) := by decide +kernel
theorem dX4_init_35 : decode cX4_init 35 = .ok (.newarray .int, 2) := by decide +kernel
theorem dX4_init_37 : decode cX4_init 37 = .ok (.putfield 20, 3) := by decide +kernel
theorem dX4_init_40 : decode cX4_init 40 = .ok (.aload_n 0, 1) := by decide +kernel
theorem dX4_init_41 : decode cX4_init 41 = .ok (.iconst 0, 1) := by decide +kernel
theorem dX4_init_42 : decode cX4_init 42 = .ok (.putfield 23, 3) := by decide +kernel
theorem dX4_init_45 : decode cX4_init 45 = .ok (.return_, 1) := by decide +kernel
theorem dX4_add_0 : decode cX4_add 0 = .ok (.aload_n 0, 1) := by decide +kernel
theorem dX4_add_1 : decode cX4_add 1 = .ok (.getfield 9, 3) := by decide +kernel
theorem dX4_add_4 : decode cX4_add 4 = .ok (.aload_n 0, 1) := by decide +kernel
theorem dX4_add_5 : decode cX4_add 5 = .ok (.getfield 23, 3) := by decide +kernel
theorem dX4_add_8 : decode cX4_add 8 = .ok (.iload_n 1, 1) := by decide +kernel
theorem dX4_add_9 : decode cX4_add 9 = .ok (.iastore, 1) := by decide +kernel
theorem dX4_add_10 : decode cX4_add 10 = .ok (.aload_n 0, 1) := by decide +kernel
theorem dX4_add_11 : decode cX4_add 11 = .ok (.getfield 13, 3) := by decide +kernel
theorem dX4_add_14 : decode cX4_add 14 = .ok (.aload_n 0, 1) := by decide +kernel
theorem dX4_add_15 : decode cX4_add 15 = .ok (.getfield 23, 3) := by decide +kernel
theorem dX4_add_18 : decode cX4_add 18 = .ok (.iload_n 2, 1) := by decide +kernel
theorem dX4_add_19 : decode cX4_add 19 = .ok (.iastore, 1) := by decide +kernel
theorem dX4_add_20 : decode cX4_add 20 = .ok (.aload_n 0, 1) := by decide +kernel
theorem dX4_add_21 : decode cX4_add 21 = .ok (.getfield 16, 3) := by decide +kernel
theorem dX4_add_24 : decode cX4_add 24 = .ok (.aload_n 0, 1) := by decide +kernel
theorem dX4_add_25 : decode cX4_add 25 = .ok (.getfield 23, 3) := by decide +kernel
theorem dX4_add_28 : decode cX4_add 28 = .ok (.iload_n 3, 1) := by decide +kernel
theorem dX4_add_29 : decode cX4_add 29 = .ok (.bastore, 1) := by decide +kernel
theorem dX4_add_30 : decode cX4_add 30 = .ok (.aload_n 0, 1) := by decide +kernel
theorem dX4_add_31 : decode cX4_add 31 = .ok (.getfield 20, 3) := by decide +kernel
theorem dX4_add_34 : decode cX4_add 34 = .ok (.aload_n 0, 1) := by decide +kernel
theorem dX4_add_35 : decode cX4_add 35 = .ok (.getfield 23, 3) := by decide +kernel
theorem dX4_add_38 : decode cX4_add 38 = .ok (.iload 4, 2) := by decide +kernel
theorem dX4_add_40 : decode cX4_add 40 = .ok (.iastore, 1) := by decide +kernel
theorem dX4_add_41 : decode cX4_add 41 = .ok (.aload_n 0, 1) := by decide +kernel
theorem dX4_add_42 : decode cX4_add 42 = .ok (.dup, 1) := by decide +kernel
theorem dX4_add_43 : decode cX4_add 43 = .ok (.getfield 23, 3) := by decide +kernel
theorem dX4_add_46 : decode cX4_add 46 = .ok (.iconst 1, 1) := by decide +kernel
theorem dX4_add_47 : decode cX4_add 47 = .ok (.iadd, 1) := by decide +kernel
theorem dX4_add_48 : decode cX4_add 48 = .ok (.putfield 23, 3) := by decide +kernel
theorem dX4_add_51 : decode cX4_add 51 = .ok (.return_, 1) := by decide +kernel
theorem dX5_init_0 : decode cX5_init 0 = .ok (.aload_n 0, 1) := by decide +kernel
theorem dX5_init_1 : decode cX5_init 1 = .ok (.invokespecial 3, 3) := by decide +kernel
theorem dX5_init_4 : decode cX5_init 4 = .ok (.aload_n 0, 1) := by decide +kernel
theorem dX5_init_5 : decode cX5_init 5 = .ok (.bipush 20, 2) := by decide +kernel
theorem dX5_init_7 : decode cX5_init 7 = .ok (.newarray .int, 2) := by decide +kernel
theorem dX5_init_9 : decode cX5_init 9 = .ok (.putfield 11, 3) := by decide +kernel
theorem dX5_init_12 : decode cX5_init 12 = .ok (.aload_n 0, 1) := by decide +kernel
theorem dX5_init_13 : decode cX5_init 13 = .ok (.bipush 20, 2) := by decide +kernel
theorem dX5_init_15 : decode cX5_init 15 = .ok (.newarray .int, 2) := by decide +kernel
theorem dX5_init_17 : decode cX5_init 17 = .ok (.putfield 15, 3) := by decide +kernel
theorem dX5_init_20 : decode cX5_init 20 = .ok (.aload_n 0, 1) := by decide +kernel
theorem dX5_init_21 : decode cX5_init 21 = .ok (.bipush 20, 2) := by decide +kernel
theorem dX5_init_23 : decode cX5_init 23 = .ok (.newarray .int, 2) := by decide +kernel
theorem dX5_init_25 : decode cX5_init 25 = .ok (.putfield 18, 3) := by decide +kernel
theorem dX5_init_28 : decode cX5_init 28 = .ok (.aload_n 0, 1) := by decide +kernel
theorem dX5_init_29 : decode cX5_init 29 = .ok (.bipush 20, 2) := by decide +kernel
theorem dX5_init_31 : decode cX5_init 31 = .ok (.newarray .int, 2) := by decide +kernel
theorem dX5_init_33 : decode cX5_init 33 = .ok (.putfield 21, 3) := by decide +kernel
theorem dX5_init_36 : decode cX5_init 36 = .ok (.aload_n 0, 1) := by decide +kernel
theorem dX5_init_37 : decode cX5_init 37 = .ok (.iconst 0, 1) := by decide +kernel
theorem dX5_init_38 : decode cX5_init 38 = .ok (.putfield 24, 3) := by decide +kernel
theorem dX5_init_41 : decode cX5_init 41 = .ok (.return_, 1) := by decide +kernel
theorem dX5_add_0 : decode cX5_add 0 = .ok (.aload_n 0, 1) := by decide +kernel
theorem dX5_add_1 : decode cX5_add 1 = .ok (.getfield 11, 3) := by decide +kernel
theorem dX5_add_4 : decode cX5_add 4 = .ok (.aload_n 0, 1) := by decide +kernel
theorem dX5_add_5 : decode cX5_add 5 = .ok (.getfield 24, 3) := by decide +kernel
theorem dX5_add_8 : decode cX5_add 8 = .ok (.iload_n 1, 1) := by decide +kernel
theorem dX5_add_9 : decode cX5_add 9 = .ok (.iastore, 1) := by decide +kernel
theorem dX5_add_10 : decode cX5_add 10 = .ok (.aload_n 0, 1) := by decide +kernel
theorem dX5_add_11 : decode cX5_add 11 = .ok (.getfield 15, 3) := by decide +kernel
theorem dX5_add_14 : decode cX5_add 14 = .ok (.aload_n 0, 1) := by decide +kernel
theorem dX5_add_15 : decode cX5_add 15 = .ok (.getfield 24, 3) := by decide +kernel
theorem dX5_add_18 : decode cX5_add 18 = .ok (.iload_n 2, 1) := by decide +kernel
theorem dX5_add_19 : decode cX5_add 19 = .ok (.iastore, 1) := by decide +kernel
theorem dX5_add_20 : decode cX5_add 20 = .ok (.aload_n 0, 1) := by decide +kernel
theorem dX5_add_21 : decode cX5_add 21 = .ok (.getfield 18, 3) := by decide +kernel
theorem dX5_add_24 : decode cX5_add 24 = .ok (.aload_n 0, 1) := by decide +kernel
theorem dX5_add_25 : decode cX5_add 25 = .ok (.getfield 24, 3) := by decide +kernel
theorem dX5_add_28 : decode cX5_add 28 = .ok (.iload_n 3, 1) := by decide +kernel
theorem dX5_add_29 : decode cX5_add 29 = .ok (.iastore, 1) := by decide +kernel
theorem dX5_add_30 : decode cX5_add 30 = .ok (.aload_n 0, 1) := by decide +kernel
theorem dX5_add_31 : decode cX5_add 31 = .ok (.getfield 21, 3) := by decide +kernel
theorem dX5_add_34 : decode cX5_add 34 = .ok (.aload_n 0, 1) := by decide +kernel
theorem dX5_add_35 : decode cX5_add 35 = .ok (.getfield 24, 3) := by decide +kernel
theorem dX5_add_38 : decode cX5_add 38 = .ok (.iload 4, 2) := by decide +kernel
theorem dX5_add_40 : decode cX5_add 40 = .ok (.iastore, 1) := by decide +kernel
theorem dX5_add_41 : decode cX5_add 41 = .ok (.aload_n 0, 1) := by decide +kernel
theorem dX5_add_42 : decode cX5_add 42 = .ok (.dup, 1) := by decide +kernel
theorem dX5_add_43 : decode cX5_add 43 = .ok (.getfield 24, 3) := by decide +kernel
theorem dX5_add_46 : decode cX5_add 46 = .ok (.iconst 1, 1) := by decide +kernel
theorem dX5_add_47 : decode cX5_add 47 = .ok (.iadd, 1) := by decide +kernel
theorem dX5_add_48 : decode cX5_add 48 = .ok (.putfield 24, 3) := by decide +kernel
theorem dX5_add_51 : decode cX5_add 51 = .ok (.aload_n 0, 1) := by decide +kernel
theorem dX5_add_52 : decode cX5_add 52 = .ok (.getfield 24, 3) := by decide +kernel
theorem dX5_add_55 : decode cX5_add 55 = .ok (.iconst 1, 1) := by decide +kernel
theorem dX5_add_56 : decode cX5_add 56 = .ok (.isub, 1) := by decide +kernel
theorem dX5_add_57 : decode cX5_add 57 = .ok (.ireturn, 1) := by decide +kernel
theorem dX5_inForceOn_0 : decode cX5_inForceOn 0 = .ok (.bipush (-9), 2) := by decide +kernel
theorem dX5_inForceOn_2 : decode cX5_inForceOn 2 = .ok (.istore_n 2, 1) := by decide +kernel
theorem dX5_inForceOn_3 : decode cX5_inForceOn 3 = .ok (.iconst 0, 1) := by decide +kernel
theorem dX5_inForceOn_4 : decode cX5_inForceOn 4 = .ok (.istore_n 3, 1) := by decide +kernel
theorem dX5_inForceOn_5 : decode cX5_inForceOn 5 = .ok (.iload_n 3, 1) := by decide +kernel
theorem dX5_inForceOn_6 : decode cX5_inForceOn 6 = .ok (.aload_n 0, 1) := by decide +kernel
theorem dX5_inForceOn_7 : decode cX5_inForceOn 7 = .ok (.getfield 24, 3) := by decide +kernel
theorem dX5_inForceOn_10 : decode cX5_inForceOn 10 = .ok (.if_icmp .ge 42, 3) := by decide +kernel
theorem dX5_inForceOn_13 : decode cX5_inForceOn 13 = .ok (.aload_n 0, 1) := by decide +kernel
theorem dX5_inForceOn_14 : decode cX5_inForceOn 14 = .ok (.getfield 11, 3) := by decide +kernel
theorem dX5_inForceOn_17 : decode cX5_inForceOn 17 = .ok (.iload_n 3, 1) := by decide +kernel
theorem dX5_inForceOn_18 : decode cX5_inForceOn 18 = .ok (.iaload, 1) := by decide +kernel
theorem dX5_inForceOn_19 : decode cX5_inForceOn 19 = .ok (.iload_n 1, 1) := by decide +kernel
theorem dX5_inForceOn_20 : decode cX5_inForceOn 20 = .ok (.if_icmp .gt 26, 3) := by decide +kernel
theorem dX5_inForceOn_23 : decode cX5_inForceOn 23 = .ok (.iload_n 2, 1) := by decide +kernel
theorem dX5_inForceOn_24 : decode cX5_inForceOn 24 = .ok (.bipush (-9), 2) := by decide +kernel
theorem dX5_inForceOn_26 : decode cX5_inForceOn 26 = .ok (.if_icmp .eq 18, 3) := by decide +kernel
theorem dX5_inForceOn_29 : decode cX5_inForceOn 29 = .ok (.aload_n 0, 1) := by decide +kernel
theorem dX5_inForceOn_30 : decode cX5_inForceOn 30 = .ok (.getfield 11, 3) := by decide +kernel
theorem dX5_inForceOn_33 : decode cX5_inForceOn 33 = .ok (.iload_n 3, 1) := by decide +kernel
theorem dX5_inForceOn_34 : decode cX5_inForceOn 34 = .ok (.iaload, 1) := by decide +kernel
theorem dX5_inForceOn_35 : decode cX5_inForceOn 35 = .ok (.aload_n 0, 1) := by decide +kernel
theorem dX5_inForceOn_36 : decode cX5_inForceOn 36 = .ok (.getfield 11, 3) := by decide +kernel
theorem dX5_inForceOn_39 : decode cX5_inForceOn 39 = .ok (.iload_n 2, 1) := by decide +kernel
theorem dX5_inForceOn_40 : decode cX5_inForceOn 40 = .ok (.iaload, 1) := by decide +kernel
theorem dX5_inForceOn_41 : decode cX5_inForceOn 41 = .ok (.if_icmp .lt 5, 3) := by decide +kernel
theorem dX5_inForceOn_44 : decode cX5_inForceOn 44 = .ok (.iload_n 3, 1) := by decide +kernel
theorem dX5_inForceOn_45 : decode cX5_inForceOn 45 = .ok (.istore_n 2, 1) := by decide +kernel
theorem dX5_inForceOn_46 : decode cX5_inForceOn 46 = .ok (.iinc 3 1, 3) := by decide +kernel
theorem dX5_inForceOn_49 : decode cX5_inForceOn 49 = .ok (.goto (-44), 3) := by decide +kernel
theorem dX5_inForceOn_52 : decode cX5_inForceOn 52 = .ok (.iload_n 2, 1) := by decide +kernel
theorem dX5_inForceOn_53 : decode cX5_inForceOn 53 = .ok (.ireturn, 1) := by decide +kernel
theorem dX6_init_0 : decode cX6_init 0 = .ok (.aload_n 0, 1) := by decide +kernel
theorem dX6_init_1 : decode cX6_init 1 = .ok (.invokespecial 3, 3) := by decide +kernel
theorem dX6_init_4 : decode cX6_init 4 = .ok (.aload_n 0, 1) := by decide +kernel
theorem dX6_init_5 : decode cX6_init 5 = .ok (.bipush 10, 2) := by decide +kernel
theorem dX6_init_7 : decode cX6_init 7 = .ok (.newarray .int, 2) := by decide +kernel
theorem dX6_init_9 : decode cX6_init 9 = .ok (.putfield 11, 3) := by decide +kernel
theorem dX6_init_12 : decode cX6_init 12 = .ok (.aload_n 0, 1) := by decide +kernel
theorem dX6_init_13 : decode cX6_init 13 = .ok (.bipush 10, 2) := by decide +kernel
theorem dX6_init_15 : decode cX6_init 15 = .ok (.newarray .int, 2) := by decide +kernel
theorem dX6_init_17 : decode cX6_init 17 = .ok (.putfield 17, 3) := by decide +kernel
theorem dX6_init_20 : decode cX6_init 20 = .ok (.aload_n 0, 1) := by decide +kernel
theorem dX6_init_21 : decode cX6_init 21 = .ok (.bipush 10, 2) := by decide +kernel
theorem dX6_init_23 : decode cX6_init 23 = .ok (.newarray .int, 2) := by decide +kernel
theorem dX6_init_25 : decode cX6_init 25 = .ok (.putfield 20, 3) := by decide +kernel
theorem dX6_init_28 : decode cX6_init 28 = .ok (.aload_n 0, 1) := by decide +kernel
theorem dX6_init_29 : decode cX6_init 29 = .ok (.bipush 10, 2) := by decide +kernel
theorem dX6_init_31 : decode cX6_init 31 = .ok (.newarray .int, 2) := by decide +kernel
theorem dX6_init_33 : decode cX6_init 33 = .ok (.putfield 23, 3) := by decide +kernel
theorem dX6_init_36 : decode cX6_init 36 = .ok (.aload_n 0, 1) := by decide +kernel
theorem dX6_init_37 : decode cX6_init 37 = .ok (.bipush 10, 2) := by decide +kernel
theorem dX6_init_39 : decode cX6_init 39 = .ok (.newarray .int, 2) := by decide +kernel
theorem dX6_init_41 : decode cX6_init 41 = .ok (.putfield 26, 3) := by decide +kernel
theorem dX6_init_44 : decode cX6_init 44 = .ok (.aload_n 0, 1) := by decide +kernel
theorem dX6_init_45 : decode cX6_init 45 = .ok (.bipush 10, 2) := by decide +kernel
theorem dX6_init_47 : decode cX6_init 47 = .ok (.newarray .int, 2) := by decide +kernel
theorem dX6_init_49 : decode cX6_init 49 = .ok (.putfield 29, 3) := by decide +kernel
theorem dX6_init_52 : decode cX6_init 52 = .ok (.return_, 1) := by decide +kernel
theorem dX6_gather_0 : decode cX6_gather 0 = .ok (.aload_n 0, 1) := by decide +kernel
theorem dX6_gather_1 : decode cX6_gather 1 = .ok (.invokevirtual 32, 3) := by decide +kernel
theorem dX6_gather_4 : decode cX6_gather 4 = .ok (.iconst 0, 1) := by decide +kernel
theorem dX6_gather_5 : decode cX6_gather 5 = .ok (.istore 4, 2) := by decide +kernel
theorem dX6_gather_7 : decode cX6_gather 7 = .ok (.iload 4, 2) := by decide +kernel
theorem dX6_gather_9 : decode cX6_gather 9 = .ok (.aload_n 1, 1) := by decide +kernel
theorem dX6_gather_10 : decode cX6_gather 10 = .ok (.getfield 35, 3) := by decide +kernel
theorem dX6_gather_13 : decode cX6_gather 13 = .ok (.if_icmp .ge 77, 3) := by decide +kernel
theorem dX6_gather_16 : decode cX6_gather 16 = .ok (.aload_n 2, 1) := by decide +kernel
theorem dX6_gather_17 : decode cX6_gather 17 = .ok (.getfield 41, 3) := by decide +kernel
theorem dX6_gather_20 : decode cX6_gather 20 = .ok (.aload_n 1, 1) := by decide +kernel
theorem dX6_gather_21 : decode cX6_gather 21 = .ok (.getfield 46, 3) := by decide +kernel
theorem dX6_gather_24 : decode cX6_gather 24 = .ok (.iload 4, 2) := by decide +kernel
theorem dX6_gather_26 : decode cX6_gather 26 = .ok (.iaload, 1) := by decide +kernel
theorem dX6_gather_27 : decode cX6_gather 27 = .ok (.iaload, 1) := by decide +kernel
theorem dX6_gather_28 : decode cX6_gather 28 = .ok (.iload_n 3, 1) := by decide +kernel
theorem dX6_gather_29 : decode cX6_gather 29 = .ok (.if_icmp .eq 6, 3) := by decide +kernel
theorem dX6_gather_32 : decode cX6_gather 32 = .ok (.goto 52, 3) := by decide +kernel
theorem dX6_gather_35 : decode cX6_gather 35 = .ok (.aload_n 1, 1) := by decide +kernel
theorem dX6_gather_36 : decode cX6_gather 36 = .ok (.getfield 49, 3) := by decide +kernel
theorem dX6_gather_39 : decode cX6_gather 39 = .ok (.iload 4, 2) := by decide +kernel
theorem dX6_gather_41 : decode cX6_gather 41 = .ok (.baload, 1) := by decide +kernel
theorem dX6_gather_42 : decode cX6_gather 42 = .ok (.ifCond .eq 24, 3) := by decide +kernel
theorem dX6_gather_45 : decode cX6_gather 45 = .ok (.aload_n 0, 1) := by decide +kernel
theorem dX6_gather_46 : decode cX6_gather 46 = .ok (.aload_n 1, 1) := by decide +kernel
theorem dX6_gather_47 : decode cX6_gather 47 = .ok (.getfield 53, 3) := by decide +kernel
theorem dX6_gather_50 : decode cX6_gather 50 = .ok (.iload 4, 2) := by decide +kernel
theorem dX6_gather_52 : decode cX6_gather 52 = .ok (.iaload, 1) := by decide +kernel
theorem dX6_gather_53 : decode cX6_gather 53 = .ok (.aload_n 1, 1) := by decide +kernel
theorem dX6_gather_54 : decode cX6_gather 54 = .ok (.getfield 56, 3) := by decide +kernel
theorem dX6_gather_57 : decode cX6_gather 57 = .ok (.iload 4, 2) := by decide +kernel
theorem dX6_gather_59 : decode cX6_gather 59 = .ok (.iaload, 1) := by decide +kernel
theorem dX6_gather_60 : decode cX6_gather 60 = .ok (.invokevirtual 59, 3) := by decide +kernel
theorem dX6_gather_63 : decode cX6_gather 63 = .ok (.goto 21, 3) := by decide +kernel
theorem dX6_gather_66 : decode cX6_gather 66 = .ok (.aload_n 0, 1) := by decide +kernel
theorem dX6_gather_67 : decode cX6_gather 67 = .ok (.aload_n 1, 1) := by decide +kernel
theorem dX6_gather_68 : decode cX6_gather 68 = .ok (.getfield 53, 3) := by decide +kernel
theorem dX6_gather_71 : decode cX6_gather 71 = .ok (.iload 4, 2) := by decide +kernel
theorem dX6_gather_73 : decode cX6_gather 73 = .ok (.iaload, 1) := by decide +kernel
theorem dX6_gather_74 : decode cX6_gather 74 = .ok (.aload_n 1, 1) := by decide +kernel
theorem dX6_gather_75 : decode cX6_gather 75 = .ok (.getfield 56, 3) := by decide +kernel
theorem dX6_gather_78 : decode cX6_gather 78 = .ok (.iload 4, 2) := by decide +kernel
theorem dX6_gather_80 : decode cX6_gather 80 = .ok (.iaload, 1) := by decide +kernel
theorem dX6_gather_81 : decode cX6_gather 81 = .ok (.invokevirtual 63, 3) := by decide +kernel
theorem dX6_gather_84 : decode cX6_gather 84 = .ok (.iinc 4 1, 3) := by decide +kernel
theorem dX6_gather_87 : decode cX6_gather 87 = .ok (.goto (-80), 3) := by decide +kernel
theorem dX6_gather_90 : decode cX6_gather 90 = .ok (.return_, 1) := by decide +kernel
theorem dX6_clear_0 : decode cX6_clear 0 = .ok (.iconst 0, 1) := by decide +kernel
theorem dX6_clear_1 : decode cX6_clear 1 = .ok (.istore_n 1, 1) := by decide +kernel
theorem dX6_clear_2 : decode cX6_clear 2 = .ok (.iload_n 1, 1) := by decide +kernel
theorem dX6_clear_3 : decode cX6_clear 3 = .ok (.bipush 10, 2) := by decide +kernel
theorem dX6_clear_5 : decode cX6_clear 5 = .ok (.if_icmp .ge 53, 3) := by decide +kernel
theorem dX6_clear_8 : decode cX6_clear 8 = .ok (.aload_n 0, 1) := by decide +kernel
theorem dX6_clear_9 : decode cX6_clear 9 = .ok (.getfield 11, 3) := by decide +kernel
theorem dX6_clear_12 : decode cX6_clear 12 = .ok (.iload_n 1, 1) := by decide +kernel
theorem dX6_clear_13 : decode cX6_clear 13 = .ok (.sipush 9999, 3) := by decide +kernel
theorem dX6_clear_16 : decode cX6_clear 16 = .ok (.iastore, 1) := by decide +kernel
theorem dX6_clear_17 : decode cX6_clear 17 = .ok (.aload_n 0, 1) := by decide +kernel
theorem dX6_clear_18 : decode cX6_clear 18 = .ok (.getfield 17, 3) := by decide +kernel
theorem dX6_clear_21 : decode cX6_clear 21 = .ok (.iload_n 1, 1) := by decide +kernel
theorem dX6_clear_22 : decode cX6_clear 22 = .ok (.iconst 0, 1) := by decide +kernel
theorem dX6_clear_23 : decode cX6_clear 23 = .ok (.iastore, 1) := by decide +kernel
theorem dX6_clear_24 : decode cX6_clear 24 = .ok (.aload_n 0, 1) := by decide +kernel
theorem dX6_clear_25 : decode cX6_clear 25 = .ok (.getfield 20, 3) := by decide +kernel
theorem dX6_clear_28 : decode cX6_clear 28 = .ok (.iload_n 1, 1) := by decide +kernel
theorem dX6_clear_29 : decode cX6_clear 29 = .ok (.iconst 0, 1) := by decide +kernel
theorem dX6_clear_30 : decode cX6_clear 30 = .ok (.iastore, 1) := by decide +kernel
theorem dX6_clear_31 : decode cX6_clear 31 = .ok (.aload_n 0, 1) := by decide +kernel
theorem dX6_clear_32 : decode cX6_clear 32 = .ok (.getfield 23, 3) := by decide +kernel
theorem dX6_clear_35 : decode cX6_clear 35 = .ok (.iload_n 1, 1) := by decide +kernel
theorem dX6_clear_36 : decode cX6_clear 36 = .ok (.iconst 0, 1) := by decide +kernel
theorem dX6_clear_37 : decode cX6_clear 37 = .ok (.iastore, 1) := by decide +kernel
theorem dX6_clear_38 : decode cX6_clear 38 = .ok (.aload_n 0, 1) := by decide +kernel
theorem dX6_clear_39 : decode cX6_clear 39 = .ok (.getfield 26, 3) := by decide +kernel
theorem dX6_clear_42 : decode cX6_clear 42 = .ok (.iload_n 1, 1) := by decide +kernel
theorem dX6_clear_43 : decode cX6_clear 43 = .ok (.iconst 0, 1) := by decide +kernel
theorem dX6_clear_44 : decode cX6_clear 44 = .ok (.iastore, 1) := by decide +kernel
theorem dX6_clear_45 : decode cX6_clear 45 = .ok (.aload_n 0, 1) := by decide +kernel
theorem dX6_clear_46 : decode cX6_clear 46 = .ok (.getfield 29, 3) := by decide +kernel
theorem dX6_clear_49 : decode cX6_clear 49 = .ok (.iload_n 1, 1) := by decide +kernel
theorem dX6_clear_50 : decode cX6_clear 50 = .ok (.iconst 0, 1) := by decide +kernel
theorem dX6_clear_51 : decode cX6_clear 51 = .ok (.iastore, 1) := by decide +kernel
theorem dX6_clear_52 : decode cX6_clear 52 = .ok (.iinc 1 1, 3) := by decide +kernel
theorem dX6_clear_55 : decode cX6_clear 55 = .ok (.goto (-53), 3) := by decide +kernel
theorem dX6_clear_58 : decode cX6_clear 58 = .ok (.return_, 1) := by decide +kernel
theorem dX6_addBefore_0 : decode cX6_addBefore 0 = .ok (.aload_n 0, 1) := by decide +kernel
theorem dX6_addBefore_1 : decode cX6_addBefore 1 = .ok (.getfield 11, 3) := by decide +kernel
theorem dX6_addBefore_4 : decode cX6_addBefore 4 = .ok (.iload_n 1, 1) := by decide +kernel
theorem dX6_addBefore_5 : decode cX6_addBefore 5 = .ok (.aload_n 0, 1) := by decide +kernel
theorem dX6_addBefore_6 : decode cX6_addBefore 6 = .ok (.getfield 11, 3) := by decide +kernel
theorem dX6_addBefore_9 : decode cX6_addBefore 9 = .ok (.iload_n 1, 1) := by decide +kernel
theorem dX6_addBefore_10 : decode cX6_addBefore 10 = .ok (.iaload, 1) := by decide +kernel
theorem dX6_addBefore_11 : decode cX6_addBefore 11 = .ok (.iload_n 2, 1) := by decide +kernel
theorem dX6_addBefore_12 : decode cX6_addBefore 12 = .ok (.invokestatic 66, 3) := by decide +kernel
theorem dX6_addBefore_15 : decode cX6_addBefore 15 = .ok (.iastore, 1) := by decide +kernel
theorem dX6_addBefore_16 : decode cX6_addBefore 16 = .ok (.aload_n 0, 1) := by decide +kernel
theorem dX6_addBefore_17 : decode cX6_addBefore 17 = .ok (.getfield 17, 3) := by decide +kernel
theorem dX6_addBefore_20 : decode cX6_addBefore 20 = .ok (.iload_n 1, 1) := by decide +kernel
theorem dX6_addBefore_21 : decode cX6_addBefore 21 = .ok (.dup2, 1) := by decide +kernel
theorem dX6_addBefore_22 : decode cX6_addBefore 22 = .ok (.iaload, 1) := by decide +kernel
theorem dX6_addBefore_23 : decode cX6_addBefore 23 = .ok (.iload_n 2, 1) := by decide +kernel
theorem dX6_addBefore_24 : decode cX6_addBefore 24 = .ok (.iadd, 1) := by decide +kernel
theorem dX6_addBefore_25 : decode cX6_addBefore 25 = .ok (.iastore, 1) := by decide +kernel
theorem dX6_addBefore_26 : decode cX6_addBefore 26 = .ok (.aload_n 0, 1) := by decide +kernel
theorem dX6_addBefore_27 : decode cX6_addBefore 27 = .ok (.getfield 20, 3) := by decide +kernel
theorem dX6_addBefore_30 : decode cX6_addBefore 30 = .ok (.iload_n 1, 1) := by decide +kernel
theorem dX6_addBefore_31 : decode cX6_addBefore 31 = .ok (.dup2, 1) := by decide +kernel
theorem dX6_addBefore_32 : decode cX6_addBefore 32 = .ok (.iaload, 1) := by decide +kernel
theorem dX6_addBefore_33 : decode cX6_addBefore 33 = .ok (.iconst 1, 1) := by decide +kernel
theorem dX6_addBefore_34 : decode cX6_addBefore 34 = .ok (.iadd, 1) := by decide +kernel
theorem dX6_addBefore_35 : decode cX6_addBefore 35 = .ok (.iastore, 1) := by decide +kernel
theorem dX6_addBefore_36 : decode cX6_addBefore 36 = .ok (.return_, 1) := by decide +kernel
theorem dX6_addAfter_0 : decode cX6_addAfter 0 = .ok (.aload_n 0, 1) := by decide +kernel
theorem dX6_addAfter_1 : decode cX6_addAfter 1 = .ok (.getfield 23, 3) := by decide +kernel
theorem dX6_addAfter_4 : decode cX6_addAfter 4 = .ok (.iload_n 1, 1) := by decide +kernel
theorem dX6_addAfter_5 : decode cX6_addAfter 5 = .ok (.aload_n 0, 1) := by decide +kernel
theorem dX6_addAfter_6 : decode cX6_addAfter 6 = .ok (.getfield 23, 3) := by decide +kernel
theorem dX6_addAfter_9 : decode cX6_addAfter 9 = .ok (.iload_n 1, 1) := by decide +kernel
theorem dX6_addAfter_10 : decode cX6_addAfter 10 = .ok (.iaload, 1) := by decide +kernel
theorem dX6_addAfter_11 : decode cX6_addAfter 11 = .ok (.iload_n 2, 1) := by decide +kernel
theorem dX6_addAfter_12 : decode cX6_addAfter 12 = .ok (.invokestatic 72, 3) := by decide +kernel
theorem dX6_addAfter_15 : decode cX6_addAfter 15 = .ok (.iastore, 1) := by decide +kernel
theorem dX6_addAfter_16 : decode cX6_addAfter 16 = .ok (.aload_n 0, 1) := by decide +kernel
theorem dX6_addAfter_17 : decode cX6_addAfter 17 = .ok (.getfield 26, 3) := by decide +kernel
theorem dX6_addAfter_20 : decode cX6_addAfter 20 = .ok (.iload_n 1, 1) := by decide +kernel
theorem dX6_addAfter_21 : decode cX6_addAfter 21 = .ok (.dup2, 1) := by decide +kernel
theorem dX6_addAfter_22 : decode cX6_addAfter 22 = .ok (.iaload, 1) := by decide +kernel
theorem dX6_addAfter_23 : decode cX6_addAfter 23 = .ok (.iload_n 2, 1) := by decide +kernel
theorem dX6_addAfter_24 : decode cX6_addAfter 24 = .ok (.iadd, 1) := by decide +kernel
theorem dX6_addAfter_25 : decode cX6_addAfter 25 = .ok (.iastore, 1) := by decide +kernel
theorem dX6_addAfter_26 : decode cX6_addAfter 26 = .ok (.aload_n 0, 1) := by decide +kernel
theorem dX6_addAfter_27 : decode cX6_addAfter 27 = .ok (.getfield 29, 3) := by decide +kernel
theorem dX6_addAfter_30 : decode cX6_addAfter 30 = .ok (.iload_n 1, 1) := by decide +kernel
theorem dX6_addAfter_31 : decode cX6_addAfter 31 = .ok (.dup2, 1) := by decide +kernel
theorem dX6_addAfter_32 : decode cX6_addAfter 32 = .ok (.iaload, 1) := by decide +kernel
theorem dX6_addAfter_33 : decode cX6_addAfter 33 = .ok (.iconst 1, 1) := by decide +kernel
theorem dX6_addAfter_34 : decode cX6_addAfter 34 = .ok (.iadd, 1) := by decide +kernel
theorem dX6_addAfter_35 : decode cX6_addAfter 35 = .ok (.iastore, 1) := by decide +kernel
theorem dX6_addAfter_36 : decode cX6_addAfter 36 = .ok (.return_, 1) := by decide +kernel
theorem dX6_hasBoth_0 : decode cX6_hasBoth 0 = .ok (.aload_n 0, 1) := by decide +kernel
theorem dX6_hasBoth_1 : decode cX6_hasBoth 1 = .ok (.getfield 20, 3) := by decide +kernel
theorem dX6_hasBoth_4 : decode cX6_hasBoth 4 = .ok (.iload_n 1, 1) := by decide +kernel
theorem dX6_hasBoth_5 : decode cX6_hasBoth 5 = .ok (.iaload, 1) := by decide +kernel
theorem dX6_hasBoth_6 : decode cX6_hasBoth 6 = .ok (.ifCond .le 16, 3) := by decide +kernel
theorem dX6_hasBoth_9 : decode cX6_hasBoth 9 = .ok (.aload_n 0, 1) := by decide +kernel
theorem dX6_hasBoth_10 : decode cX6_hasBoth 10 = .ok (.getfield 29, 3) := by decide +kernel
theorem dX6_hasBoth_13 : decode cX6_hasBoth 13 = .ok (.iload_n 1, 1) := by decide +kernel
theorem dX6_hasBoth_14 : decode cX6_hasBoth 14 = .ok (.iaload, 1) := by decide +kernel
theorem dX6_hasBoth_15 : decode cX6_hasBoth 15 = .ok (.ifCond .le 7, 3) := by decide +kernel
theorem dX6_hasBoth_18 : decode cX6_hasBoth 18 = .ok (.iconst 1, 1) := by decide +kernel
theorem dX6_hasBoth_19 : decode cX6_hasBoth 19 = .ok (.goto 4, 3) := by decide +kernel
theorem dX6_hasBoth_22 : decode cX6_hasBoth 22 = .ok (.iconst 0, 1) := by decide +kernel
theorem dX6_hasBoth_23 : decode cX6_hasBoth 23 = .ok (.ireturn, 1) := by decide +kernel
theorem dX6_beyondDoubt_0 : decode cX6_beyondDoubt 0 = .ok (.aload_n 0, 1) := by decide +kernel
theorem dX6_beyondDoubt_1 : decode cX6_beyondDoubt 1 = .ok (.iload_n 1, 1) := by decide +kernel
theorem dX6_beyondDoubt_2 : decode cX6_beyondDoubt 2 = .ok (.invokevirtual 75, 3) := by decide +kernel
theorem dX6_beyondDoubt_5 : decode cX6_beyondDoubt 5 = .ok (.ifCond .eq 23, 3) := by decide +kernel
theorem dX6_beyondDoubt_8 : decode cX6_beyondDoubt 8 = .ok (.iconst 0, 1) := by decide +kernel
theorem dX6_beyondDoubt_9 : decode cX6_beyondDoubt 9 = .ok (.aload_n 0, 1) := by decide +kernel
theorem dX6_beyondDoubt_10 : decode cX6_beyondDoubt 10 = .ok (.getfield 11, 3) := by decide +kernel
theorem dX6_beyondDoubt_13 : decode cX6_beyondDoubt 13 = .ok (.iload_n 1, 1) := by decide +kernel
theorem dX6_beyondDoubt_14 : decode cX6_beyondDoubt 14 = .ok (.iaload, 1) := by decide +kernel
theorem dX6_beyondDoubt_15 : decode cX6_beyondDoubt 15 = .ok (.aload_n 0, 1) := by decide +kernel
theorem dX6_beyondDoubt_16 : decode cX6_beyondDoubt 16 = .ok (.getfield 23, 3) := by decide +kernel
theorem dX6_beyondDoubt_19 : decode cX6_beyondDoubt 19 = .ok (.iload_n 1, 1) := by decide +kernel
theorem dX6_beyondDoubt_20 : decode cX6_beyondDoubt 20 = .ok (.iaload, 1) := by decide +kernel
theorem dX6_beyondDoubt_21 : decode cX6_beyondDoubt 21 = .ok (.isub, 1) := by decide +kernel
theorem dX6_beyondDoubt_22 : decode cX6_beyondDoubt 22 = .ok (.invokestatic 72, 3) := by decide +kernel
theorem dX6_beyondDoubt_25 : decode cX6_beyondDoubt 25 = .ok (.goto 4, 3) := by decide +kernel
theorem dX6_beyondDoubt_28 : decode cX6_beyondDoubt 28 = .ok (.iconst 0, 1) := by decide +kernel
theorem dX6_beyondDoubt_29 : decode cX6_beyondDoubt 29 = .ok (.ireturn, 1) := by decide +kernel
theorem dX6_hoped_0 : decode cX6_hoped 0 = .ok (.aload_n 0, 1) := by decide +kernel
theorem dX6_hoped_1 : decode cX6_hoped 1 = .ok (.iload_n 1, 1) := by decide +kernel
theorem dX6_hoped_2 : decode cX6_hoped 2 = .ok (.invokevirtual 75, 3) := by decide +kernel
theorem dX6_hoped_5 : decode cX6_hoped 5 = .ok (.ifCond .ne 5, 3) := by decide +kernel
theorem dX6_hoped_8 : decode cX6_hoped 8 = .ok (.iconst 0, 1) := by decide +kernel
theorem dX6_hoped_9 : decode cX6_hoped 9 = .ok (.ireturn, 1) := by decide +kernel
theorem dX6_hoped_10 : decode cX6_hoped 10 = .ok (.iconst 0, 1) := by decide +kernel
theorem dX6_hoped_11 : decode cX6_hoped 11 = .ok (.aload_n 0, 1) := by decide +kernel
theorem dX6_hoped_12 : decode cX6_hoped 12 = .ok (.getfield 17, 3) := by decide +kernel
theorem dX6_hoped_15 : decode cX6_hoped 15 = .ok (.iload_n 1, 1) := by decide +kernel
theorem dX6_hoped_16 : decode cX6_hoped 16 = .ok (.iaload, 1) := by decide +kernel
theorem dX6_hoped_17 : decode cX6_hoped 17 = .ok (.aload_n 0, 1) := by decide +kernel
theorem dX6_hoped_18 : decode cX6_hoped 18 = .ok (.getfield 20, 3) := by decide +kernel
theorem dX6_hoped_21 : decode cX6_hoped 21 = .ok (.iload_n 1, 1) := by decide +kernel
theorem dX6_hoped_22 : decode cX6_hoped 22 = .ok (.iaload, 1) := by decide +kernel
theorem dX6_hoped_23 : decode cX6_hoped 23 = .ok (.idiv, 1) := by decide +kernel
theorem dX6_hoped_24 : decode cX6_hoped 24 = .ok (.aload_n 0, 1) := by decide +kernel
theorem dX6_hoped_25 : decode cX6_hoped 25 = .ok (.getfield 26, 3) := by decide +kernel
theorem dX6_hoped_28 : decode cX6_hoped 28 = .ok (.iload_n 1, 1) := by decide +kernel
theorem dX6_hoped_29 : decode cX6_hoped 29 = .ok (.iaload, 1) := by decide +kernel
theorem dX6_hoped_30 : decode cX6_hoped 30 = .ok (.aload_n 0, 1) := by decide +kernel
theorem dX6_hoped_31 : decode cX6_hoped 31 = .ok (.getfield 29, 3) := by decide +kernel
theorem dX6_hoped_34 : decode cX6_hoped 34 = .ok (.iload_n 1, 1) := by decide +kernel
theorem dX6_hoped_35 : decode cX6_hoped 35 = .ok (.iaload, 1) := by decide +kernel
theorem dX6_hoped_36 : decode cX6_hoped 36 = .ok (.idiv, 1) := by decide +kernel
theorem dX6_hoped_37 : decode cX6_hoped 37 = .ok (.isub, 1) := by decide +kernel
theorem dX6_hoped_38 : decode cX6_hoped 38 = .ok (.invokestatic 72, 3) := by decide +kernel
theorem dX6_hoped_41 : decode cX6_hoped 41 = .ok (.ireturn, 1) := by decide +kernel
theorem dX7_init_0 : decode cX7_init 0 = .ok (.aload_n 0, 1) := by decide +kernel
theorem dX7_init_1 : decode cX7_init 1 = .ok (.invokespecial 1, 3) := by decide +kernel
theorem dX7_init_4 : decode cX7_init 4 = .ok (.aload_n 0, 1) := by decide +kernel
theorem dX7_init_5 : decode cX7_init 5 = .ok (.bipush 20, 2) := by decide +kernel
theorem dX7_init_7 : decode cX7_init 7 = .ok (.newarray .int, 2) := by decide +kernel
theorem dX7_init_9 : decode cX7_init 9 = .ok (.putfield 9, 3) := by decide +kernel
theorem dX7_init_12 : decode cX7_init 12 = .ok (.aload_n 0, 1) := by decide +kernel
theorem dX7_init_13 : decode cX7_init 13 = .ok (.iconst 0, 1) := by decide +kernel
theorem dX7_init_14 : decode cX7_init 14 = .ok (.putfield 13, 3) := by decide +kernel
theorem dX7_init_17 : decode cX7_init 17 = .ok (.return_, 1) := by decide +kernel
theorem dX7_add_0 : decode cX7_add 0 = .ok (.aload_n 0, 1) := by decide +kernel
theorem dX7_add_1 : decode cX7_add 1 = .ok (.getfield 9, 3) := by decide +kernel
theorem dX7_add_4 : decode cX7_add 4 = .ok (.aload_n 0, 1) := by decide +kernel
theorem dX7_add_5 : decode cX7_add 5 = .ok (.getfield 13, 3) := by decide +kernel
theorem dX7_add_8 : decode cX7_add 8 = .ok (.iload_n 1, 1) := by decide +kernel
theorem dX7_add_9 : decode cX7_add 9 = .ok (.iastore, 1) := by decide +kernel
theorem dX7_add_10 : decode cX7_add 10 = .ok (.aload_n 0, 1) := by decide +kernel
theorem dX7_add_11 : decode cX7_add 11 = .ok (.dup, 1) := by decide +kernel
theorem dX7_add_12 : decode cX7_add 12 = .ok (.getfield 13, 3) := by decide +kernel
theorem dX7_add_15 : decode cX7_add 15 = .ok (.iconst 1, 1) := by decide +kernel
theorem dX7_add_16 : decode cX7_add 16 = .ok (.iadd, 1) := by decide +kernel
theorem dX7_add_17 : decode cX7_add 17 = .ok (.putfield 13, 3) := by decide +kernel
theorem dX7_add_20 : decode cX7_add 20 = .ok (.return_, 1) := by decide +kernel
theorem dX7_ledBackTo_0 : decode cX7_ledBackTo 0 = .ok (.iconst 0, 1) := by decide +kernel
theorem dX7_ledBackTo_1 : decode cX7_ledBackTo 1 = .ok (.istore_n 2, 1) := by decide +kernel
theorem dX7_ledBackTo_2 : decode cX7_ledBackTo 2 = .ok (.iload_n 2, 1) := by decide +kernel
theorem dX7_ledBackTo_3 : decode cX7_ledBackTo 3 = .ok (.aload_n 0, 1) := by decide +kernel
theorem dX7_ledBackTo_4 : decode cX7_ledBackTo 4 = .ok (.getfield 13, 3) := by decide +kernel
theorem dX7_ledBackTo_7 : decode cX7_ledBackTo 7 = .ok (.if_icmp .ge 21, 3) := by decide +kernel
theorem dX7_ledBackTo_10 : decode cX7_ledBackTo 10 = .ok (.aload_n 0, 1) := by decide +kernel
theorem dX7_ledBackTo_11 : decode cX7_ledBackTo 11 = .ok (.getfield 9, 3) := by decide +kernel
theorem dX7_ledBackTo_14 : decode cX7_ledBackTo 14 = .ok (.iload_n 2, 1) := by decide +kernel
theorem dX7_ledBackTo_15 : decode cX7_ledBackTo 15 = .ok (.iaload, 1) := by decide +kernel
theorem dX7_ledBackTo_16 : decode cX7_ledBackTo 16 = .ok (.iload_n 1, 1) := by decide +kernel
theorem dX7_ledBackTo_17 : decode cX7_ledBackTo 17 = .ok (.if_icmp .ne 5, 3) := by decide +kernel
theorem dX7_ledBackTo_20 : decode cX7_ledBackTo 20 = .ok (.iconst 1, 1) := by decide +kernel
theorem dX7_ledBackTo_21 : decode cX7_ledBackTo 21 = .ok (.ireturn, 1) := by decide +kernel
theorem dX7_ledBackTo_22 : decode cX7_ledBackTo 22 = .ok (.iinc 2 1, 3) := by decide +kernel
theorem dX7_ledBackTo_25 : decode cX7_ledBackTo 25 = .ok (.goto (-23), 3) := by decide +kernel
theorem dX7_ledBackTo_28 : decode cX7_ledBackTo 28 = .ok (.iconst 0, 1) := by decide +kernel
theorem dX7_ledBackTo_29 : decode cX7_ledBackTo 29 = .ok (.ireturn, 1) := by decide +kernel
theorem dJ6_bitCount_0f7a4_0 : decode cJ6_bitCount_0f7a4 0 = .ok (.iload_n 0, 1) := by decide +kernel
theorem dJ6_bitCount_0f7a4_1 : decode cJ6_bitCount_0f7a4 1 = .ok (.iload_n 0, 1) := by decide +kernel
theorem dJ6_bitCount_0f7a4_2 : decode cJ6_bitCount_0f7a4 2 = .ok (.iconst 1, 1) := by decide +kernel
theorem dJ6_bitCount_0f7a4_3 : decode cJ6_bitCount_0f7a4 3 = .ok (.iushr, 1) := by decide +kernel
theorem dJ6_bitCount_0f7a4_4 : decode cJ6_bitCount_0f7a4 4 = .ok (.ldc_w 265, 3) := by decide +kernel
theorem dJ6_bitCount_0f7a4_7 : decode cJ6_bitCount_0f7a4 7 = .ok (.iand, 1) := by decide +kernel
theorem dJ6_bitCount_0f7a4_8 : decode cJ6_bitCount_0f7a4 8 = .ok (.isub, 1) := by decide +kernel
theorem dJ6_bitCount_0f7a4_9 : decode cJ6_bitCount_0f7a4 9 = .ok (.istore_n 0, 1) := by decide +kernel
theorem dJ6_bitCount_0f7a4_10 : decode cJ6_bitCount_0f7a4 10 = .ok (.iload_n 0, 1) := by decide +kernel
theorem dJ6_bitCount_0f7a4_11 : decode cJ6_bitCount_0f7a4 11 = .ok (.ldc_w 266, 3) := by decide +kernel
theorem dJ6_bitCount_0f7a4_14 : decode cJ6_bitCount_0f7a4 14 = .ok (.iand, 1) := by decide +kernel
theorem dJ6_bitCount_0f7a4_15 : decode cJ6_bitCount_0f7a4 15 = .ok (.iload_n 0, 1) := by decide +kernel
theorem dJ6_bitCount_0f7a4_16 : decode cJ6_bitCount_0f7a4 16 = .ok (.iconst 2, 1) := by decide +kernel
theorem dJ6_bitCount_0f7a4_17 : decode cJ6_bitCount_0f7a4 17 = .ok (.iushr, 1) := by decide +kernel
theorem dJ6_bitCount_0f7a4_18 : decode cJ6_bitCount_0f7a4 18 = .ok (.ldc_w 266, 3) := by decide +kernel
theorem dJ6_bitCount_0f7a4_21 : decode cJ6_bitCount_0f7a4 21 = .ok (.iand, 1) := by decide +kernel
theorem dJ6_bitCount_0f7a4_22 : decode cJ6_bitCount_0f7a4 22 = .ok (.iadd, 1) := by decide +kernel
theorem dJ6_bitCount_0f7a4_23 : decode cJ6_bitCount_0f7a4 23 = .ok (.istore_n 0, 1) := by decide +kernel
theorem dJ6_bitCount_0f7a4_24 : decode cJ6_bitCount_0f7a4 24 = .ok (.iload_n 0, 1) := by decide +kernel
theorem dJ6_bitCount_0f7a4_25 : decode cJ6_bitCount_0f7a4 25 = .ok (.iload_n 0, 1) := by decide +kernel
theorem dJ6_bitCount_0f7a4_26 : decode cJ6_bitCount_0f7a4 26 = .ok (.iconst 4, 1) := by decide +kernel
theorem dJ6_bitCount_0f7a4_27 : decode cJ6_bitCount_0f7a4 27 = .ok (.iushr, 1) := by decide +kernel
theorem dJ6_bitCount_0f7a4_28 : decode cJ6_bitCount_0f7a4 28 = .ok (.iadd, 1) := by decide +kernel
theorem dJ6_bitCount_0f7a4_29 : decode cJ6_bitCount_0f7a4 29 = .ok (.ldc_w 267, 3) := by decide +kernel
theorem dJ6_bitCount_0f7a4_32 : decode cJ6_bitCount_0f7a4 32 = .ok (.iand, 1) := by decide +kernel
theorem dJ6_bitCount_0f7a4_33 : decode cJ6_bitCount_0f7a4 33 = .ok (.istore_n 0, 1) := by decide +kernel
theorem dJ6_bitCount_0f7a4_34 : decode cJ6_bitCount_0f7a4 34 = .ok (.iload_n 0, 1) := by decide +kernel
theorem dJ6_bitCount_0f7a4_35 : decode cJ6_bitCount_0f7a4 35 = .ok (.iload_n 0, 1) := by decide +kernel
theorem dJ6_bitCount_0f7a4_36 : decode cJ6_bitCount_0f7a4 36 = .ok (.bipush 8, 2) := by decide +kernel
theorem dJ6_bitCount_0f7a4_38 : decode cJ6_bitCount_0f7a4 38 = .ok (.iushr, 1) := by decide +kernel
theorem dJ6_bitCount_0f7a4_39 : decode cJ6_bitCount_0f7a4 39 = .ok (.iadd, 1) := by decide +kernel
theorem dJ6_bitCount_0f7a4_40 : decode cJ6_bitCount_0f7a4 40 = .ok (.istore_n 0, 1) := by decide +kernel
theorem dJ6_bitCount_0f7a4_41 : decode cJ6_bitCount_0f7a4 41 = .ok (.iload_n 0, 1) := by decide +kernel
theorem dJ6_bitCount_0f7a4_42 : decode cJ6_bitCount_0f7a4 42 = .ok (.iload_n 0, 1) := by decide +kernel
theorem dJ6_bitCount_0f7a4_43 : decode cJ6_bitCount_0f7a4 43 = .ok (.bipush 16, 2) := by decide +kernel
theorem dJ6_bitCount_0f7a4_45 : decode cJ6_bitCount_0f7a4 45 = .ok (.iushr, 1) := by decide +kernel
theorem dJ6_bitCount_0f7a4_46 : decode cJ6_bitCount_0f7a4 46 = .ok (.iadd, 1) := by decide +kernel
theorem dJ6_bitCount_0f7a4_47 : decode cJ6_bitCount_0f7a4 47 = .ok (.istore_n 0, 1) := by decide +kernel
theorem dJ6_bitCount_0f7a4_48 : decode cJ6_bitCount_0f7a4 48 = .ok (.iload_n 0, 1) := by decide +kernel
theorem dJ6_bitCount_0f7a4_49 : decode cJ6_bitCount_0f7a4 49 = .ok (.bipush 63, 2) := by decide +kernel
theorem dJ6_bitCount_0f7a4_51 : decode cJ6_bitCount_0f7a4 51 = .ok (.iand, 1) := by decide +kernel
theorem dJ6_bitCount_0f7a4_52 : decode cJ6_bitCount_0f7a4 52 = .ok (.ireturn, 1) := by decide +kernel
theorem dJ9_max_7cf53_0 : decode cJ9_max_7cf53 0 = .ok (.iload_n 0, 1) := by decide +kernel
theorem dJ9_max_7cf53_1 : decode cJ9_max_7cf53 1 = .ok (.iload_n 1, 1) := by decide +kernel
theorem dJ9_max_7cf53_2 : decode cJ9_max_7cf53 2 = .ok (.if_icmp .lt 7, 3) := by decide +kernel
theorem dJ9_max_7cf53_5 : decode cJ9_max_7cf53 5 = .ok (.iload_n 0, 1) := by decide +kernel
theorem dJ9_max_7cf53_6 : decode cJ9_max_7cf53 6 = .ok (.goto 4, 3) := by decide +kernel
theorem dJ9_max_7cf53_9 : decode cJ9_max_7cf53 9 = .ok (.iload_n 1, 1) := by decide +kernel
theorem dJ9_max_7cf53_10 : decode cJ9_max_7cf53 10 = .ok (.ireturn, 1) := by decide +kernel
theorem dJ9_min_7cf53_0 : decode cJ9_min_7cf53 0 = .ok (.iload_n 0, 1) := by decide +kernel
theorem dJ9_min_7cf53_1 : decode cJ9_min_7cf53 1 = .ok (.iload_n 1, 1) := by decide +kernel
theorem dJ9_min_7cf53_2 : decode cJ9_min_7cf53 2 = .ok (.if_icmp .gt 7, 3) := by decide +kernel
theorem dJ9_min_7cf53_5 : decode cJ9_min_7cf53 5 = .ok (.iload_n 0, 1) := by decide +kernel
theorem dJ9_min_7cf53_6 : decode cJ9_min_7cf53 6 = .ok (.goto 4, 3) := by decide +kernel
theorem dJ9_min_7cf53_9 : decode cJ9_min_7cf53 9 = .ok (.iload_n 1, 1) := by decide +kernel
theorem dJ9_min_7cf53_10 : decode cJ9_min_7cf53 10 = .ok (.ireturn, 1) := by decide +kernel
theorem dJ13_bitCount_95d88_0 : decode cJ13_bitCount_95d88 0 = .ok (.lload_n 0, 1) := by decide +kernel
theorem dJ13_bitCount_95d88_1 : decode cJ13_bitCount_95d88 1 = .ok (.lload_n 0, 1) := by decide +kernel
theorem dJ13_bitCount_95d88_2 : decode cJ13_bitCount_95d88 2 = .ok (.iconst 1, 1) := by decide +kernel
theorem dJ13_bitCount_95d88_3 : decode cJ13_bitCount_95d88 3 = .ok (.lushr, 1) := by decide +kernel
theorem dJ13_bitCount_95d88_4 : decode cJ13_bitCount_95d88 4 = .ok (.ldc2_w 314, 3) := by decide +kernel
theorem dJ13_bitCount_95d88_7 : decode cJ13_bitCount_95d88 7 = .ok (.land, 1) := by decide +kernel
theorem dJ13_bitCount_95d88_8 : decode cJ13_bitCount_95d88 8 = .ok (.lsub, 1) := by decide +kernel
theorem dJ13_bitCount_95d88_9 : decode cJ13_bitCount_95d88 9 = .ok (.lstore_n 0, 1) := by decide +kernel
theorem dJ13_bitCount_95d88_10 : decode cJ13_bitCount_95d88 10 = .ok (.lload_n 0, 1) := by decide +kernel
theorem dJ13_bitCount_95d88_11 : decode cJ13_bitCount_95d88 11 = .ok (.ldc2_w 316, 3) := by decide +kernel
theorem dJ13_bitCount_95d88_14 : decode cJ13_bitCount_95d88 14 = .ok (.land, 1) := by decide +kernel
theorem dJ13_bitCount_95d88_15 : decode cJ13_bitCount_95d88 15 = .ok (.lload_n 0, 1) := by decide +kernel
theorem dJ13_bitCount_95d88_16 : decode cJ13_bitCount_95d88 16 = .ok (.iconst 2, 1) := by decide +kernel
theorem dJ13_bitCount_95d88_17 : decode cJ13_bitCount_95d88 17 = .ok (.lushr, 1) := by decide +kernel
theorem dJ13_bitCount_95d88_18 : decode cJ13_bitCount_95d88 18 = .ok (.ldc2_w 316, 3) := by decide +kernel
theorem dJ13_bitCount_95d88_21 : decode cJ13_bitCount_95d88 21 = .ok (.land, 1) := by decide +kernel
theorem dJ13_bitCount_95d88_22 : decode cJ13_bitCount_95d88 22 = .ok (.ladd, 1) := by decide +kernel
theorem dJ13_bitCount_95d88_23 : decode cJ13_bitCount_95d88 23 = .ok (.lstore_n 0, 1) := by decide +kernel
theorem dJ13_bitCount_95d88_24 : decode cJ13_bitCount_95d88 24 = .ok (.lload_n 0, 1) := by decide +kernel
theorem dJ13_bitCount_95d88_25 : decode cJ13_bitCount_95d88 25 = .ok (.lload_n 0, 1) := by decide +kernel
theorem dJ13_bitCount_95d88_26 : decode cJ13_bitCount_95d88 26 = .ok (.iconst 4, 1) := by decide +kernel
theorem dJ13_bitCount_95d88_27 : decode cJ13_bitCount_95d88 27 = .ok (.lushr, 1) := by decide +kernel
theorem dJ13_bitCount_95d88_28 : decode cJ13_bitCount_95d88 28 = .ok (.ladd, 1) := by decide +kernel
theorem dJ13_bitCount_95d88_29 : decode cJ13_bitCount_95d88 29 = .ok (.ldc2_w 318, 3) := by decide +kernel
theorem dJ13_bitCount_95d88_32 : decode cJ13_bitCount_95d88 32 = .ok (.land, 1) := by decide +kernel
theorem dJ13_bitCount_95d88_33 : decode cJ13_bitCount_95d88 33 = .ok (.lstore_n 0, 1) := by decide +kernel
theorem dJ13_bitCount_95d88_34 : decode cJ13_bitCount_95d88 34 = .ok (.lload_n 0, 1) := by decide +kernel
theorem dJ13_bitCount_95d88_35 : decode cJ13_bitCount_95d88 35 = .ok (.lload_n 0, 1) := by decide +kernel
theorem dJ13_bitCount_95d88_36 : decode cJ13_bitCount_95d88 36 = .ok (.bipush 8, 2) := by decide +kernel
theorem dJ13_bitCount_95d88_38 : decode cJ13_bitCount_95d88 38 = .ok (.lushr, 1) := by decide +kernel
theorem dJ13_bitCount_95d88_39 : decode cJ13_bitCount_95d88 39 = .ok (.ladd, 1) := by decide +kernel
theorem dJ13_bitCount_95d88_40 : decode cJ13_bitCount_95d88 40 = .ok (.lstore_n 0, 1) := by decide +kernel
theorem dJ13_bitCount_95d88_41 : decode cJ13_bitCount_95d88 41 = .ok (.lload_n 0, 1) := by decide +kernel
theorem dJ13_bitCount_95d88_42 : decode cJ13_bitCount_95d88 42 = .ok (.lload_n 0, 1) := by decide +kernel
theorem dJ13_bitCount_95d88_43 : decode cJ13_bitCount_95d88 43 = .ok (.bipush 16, 2) := by decide +kernel
theorem dJ13_bitCount_95d88_45 : decode cJ13_bitCount_95d88 45 = .ok (.lushr, 1) := by decide +kernel
theorem dJ13_bitCount_95d88_46 : decode cJ13_bitCount_95d88 46 = .ok (.ladd, 1) := by decide +kernel
theorem dJ13_bitCount_95d88_47 : decode cJ13_bitCount_95d88 47 = .ok (.lstore_n 0, 1) := by decide +kernel
theorem dJ13_bitCount_95d88_48 : decode cJ13_bitCount_95d88 48 = .ok (.lload_n 0, 1) := by decide +kernel
theorem dJ13_bitCount_95d88_49 : decode cJ13_bitCount_95d88 49 = .ok (.lload_n 0, 1) := by decide +kernel
theorem dJ13_bitCount_95d88_50 : decode cJ13_bitCount_95d88 50 = .ok (.bipush 32, 2) := by decide +kernel
theorem dJ13_bitCount_95d88_52 : decode cJ13_bitCount_95d88 52 = .ok (.lushr, 1) := by decide +kernel
theorem dJ13_bitCount_95d88_53 : decode cJ13_bitCount_95d88 53 = .ok (.ladd, 1) := by decide +kernel
theorem dJ13_bitCount_95d88_54 : decode cJ13_bitCount_95d88 54 = .ok (.lstore_n 0, 1) := by decide +kernel
theorem dJ13_bitCount_95d88_55 : decode cJ13_bitCount_95d88 55 = .ok (.lload_n 0, 1) := by decide +kernel
theorem dJ13_bitCount_95d88_56 : decode cJ13_bitCount_95d88 56 = .ok (.l2i, 1) := by decide +kernel
theorem dJ13_bitCount_95d88_57 : decode cJ13_bitCount_95d88 57 = .ok (.bipush 127, 2) := by decide +kernel
theorem dJ13_bitCount_95d88_59 : decode cJ13_bitCount_95d88 59 = .ok (.iand, 1) := by decide +kernel
theorem dJ13_bitCount_95d88_60 : decode cJ13_bitCount_95d88 60 = .ok (.ireturn, 1) := by decide +kernel
end
section
theorem dX8_init_0 : decode cX8_init 0 = .ok (.aload_n 0, 1) := by decide +kernel
theorem dX8_init_1 : decode cX8_init 1 = .ok (.invokespecial 1, 3) := by decide +kernel
theorem dX8_init_4 : decode cX8_init 4 = .ok (.aload_n 0, 1) := by decide +kernel
theorem dX8_init_5 : decode cX8_init 5 = .ok (.new 7, 3) := by decide +kernel
theorem dX8_init_8 : decode cX8_init 8 = .ok (.dup, 1) := by decide +kernel
theorem dX8_init_9 : decode cX8_init 9 = .ok (.invokespecial 9, 3) := by decide +kernel
theorem dX8_init_12 : decode cX8_init 12 = .ok (.putfield 10, 3) := by decide +kernel
theorem dX8_init_15 : decode cX8_init 15 = .ok (.aload_n 0, 1) := by decide +kernel
theorem dX8_init_16 : decode cX8_init 16 = .ok (.new 16, 3) := by decide +kernel
theorem dX8_init_19 : decode cX8_init 19 = .ok (.dup, 1) := by decide +kernel
theorem dX8_init_20 : decode cX8_init 20 = .ok (.invokespecial 18, 3) := by decide +kernel
theorem dX8_init_23 : decode cX8_init 23 = .ok (.putfield 19, 3) := by decide +kernel
theorem dX8_init_26 : decode cX8_init 26 = .ok (.aload_n 0, 1) := by decide +kernel
theorem dX8_init_27 : decode cX8_init 27 = .ok (.new 23, 3) := by decide +kernel
theorem dX8_init_30 : decode cX8_init 30 = .ok (.dup, 1) := by decide +kernel
theorem dX8_init_31 : decode cX8_init 31 = .ok (.invokespecial 25, 3) := by decide +kernel
theorem dX8_init_34 : decode cX8_init 34 = .ok (.putfield 26, 3) := by decide +kernel
theorem dX8_init_37 : decode cX8_init 37 = .ok (.aload_n 0, 1) := by decide +kernel
theorem dX8_init_38 : decode cX8_init 38 = .ok (.new 30, 3) := by decide +kernel
theorem dX8_init_41 : decode cX8_init 41 = .ok (.dup, 1) := by decide +kernel
theorem dX8_init_42 : decode cX8_init 42 = .ok (.invokespecial 32, 3) := by decide +kernel
theorem dX8_init_45 : decode cX8_init 45 = .ok (.putfield 33, 3) := by decide +kernel
theorem dX8_init_48 : decode cX8_init 48 = .ok (.aload_n 0, 1) := by decide +kernel
theorem dX8_init_49 : decode cX8_init 49 = .ok (.new 37, 3) := by decide +kernel
theorem dX8_init_52 : decode cX8_init 52 = .ok (.dup, 1) := by decide +kernel
theorem dX8_init_53 : decode cX8_init 53 = .ok (.invokespecial 39, 3) := by decide +kernel
theorem dX8_init_56 : decode cX8_init 56 = .ok (.putfield 40, 3) := by decide +kernel
theorem dX8_init_59 : decode cX8_init 59 = .ok (.aload_n 0, 1) := by decide +kernel
theorem dX8_init_60 : decode cX8_init 60 = .ok (.new 44, 3) := by decide +kernel
theorem dX8_init_63 : decode cX8_init 63 = .ok (.dup, 1) := by decide +kernel
theorem dX8_init_64 : decode cX8_init 64 = .ok (.invokespecial 46, 3) := by decide +kernel
theorem dX8_init_67 : decode cX8_init 67 = .ok (.putfield 47, 3) := by decide +kernel
theorem dX8_init_70 : decode cX8_init 70 = .ok (.aload_n 0, 1) := by decide +kernel
theorem dX8_init_71 : decode cX8_init 71 = .ok (.iconst 4, 1) := by decide +kernel
theorem dX8_init_72 : decode cX8_init 72 = .ok (.newarray .int, 2) := by decide +kernel
theorem dX8_init_74 : decode cX8_init 74 = .ok (.dup, 1) := by decide +kernel
theorem dX8_init_75 : decode cX8_init 75 = .ok (.iconst 0, 1) := by decide +kernel
theorem dX8_init_76 : decode cX8_init 76 = .ok (.iconst 4, 1) := by decide +kernel
theorem dX8_init_77 : decode cX8_init 77 = .ok (.iastore, 1) := by decide +kernel
theorem dX8_init_78 : decode cX8_init 78 = .ok (.dup, 1) := by decide +kernel
theorem dX8_init_79 : decode cX8_init 79 = .ok (.iconst 1, 1) := by decide +kernel
theorem dX8_init_80 : decode cX8_init 80 = .ok (.sipush 600, 3) := by decide +kernel
theorem dX8_init_83 : decode cX8_init 83 = .ok (.iastore, 1) := by decide +kernel
theorem dX8_init_84 : decode cX8_init 84 = .ok (.dup, 1) := by decide +kernel
theorem dX8_init_85 : decode cX8_init 85 = .ok (.iconst 2, 1) := by decide +kernel
theorem dX8_init_86 : decode cX8_init 86 = .ok (.bipush 30, 2) := by decide +kernel
theorem dX8_init_88 : decode cX8_init 88 = .ok (.iastore, 1) := by decide +kernel
theorem dX8_init_89 : decode cX8_init 89 = .ok (.dup, 1) := by decide +kernel
theorem dX8_init_90 : decode cX8_init 90 = .ok (.iconst 3, 1) := by decide +kernel
theorem dX8_init_91 : decode cX8_init 91 = .ok (.iconst 1, 1) := by decide +kernel
theorem dX8_init_92 : decode cX8_init 92 = .ok (.iastore, 1) := by decide +kernel
theorem dX8_init_93 : decode cX8_init 93 = .ok (.putfield 51, 3) := by decide +kernel
theorem dX8_init_96 : decode cX8_init 96 = .ok (.aload_n 0, 1) := by decide +kernel
theorem dX8_init_97 : decode cX8_init 97 = .ok (.bipush 7, 2) := by decide +kernel
theorem dX8_init_99 : decode cX8_init 99 = .ok (.newarray .int, 2) := by decide +kernel
theorem dX8_init_101 : decode cX8_init 101 = .ok (.putfield 55, 3) := by decide +kernel
theorem dX8_init_104 : decode cX8_init 104 = .ok (.aload_n 0, 1) := by decide +kernel
theorem dX8_init_105 : decode cX8_init 105 = .ok (.iconst 0, 1) := by decide +kernel
theorem dX8_init_106 : decode cX8_init 106 = .ok (.putfield 58, 3) := by decide +kernel
theorem dX8_init_109 : decode cX8_init 109 = .ok (.new 62, 3) := by decide +kernel
theorem dX8_init_112 : decode cX8_init 112 = .ok (.dup, 1) := by decide +kernel
theorem dX8_init_113 : decode cX8_init 113 = .ok (.invokespecial 64, 3) := by decide +kernel
theorem dX8_init_116 : decode cX8_init 116 = .ok (.astore_n 1, 1) := by decide +kernel
theorem dX8_init_117 : decode cX8_init 117 = .ok (.aload_n 0, 1) := by decide +kernel
theorem dX8_init_118 : decode cX8_init 118 = .ok (.aload_n 1, 1) := by decide +kernel
theorem dX8_init_119 : decode cX8_init 119 = .ok (.putfield 65, 3) := by decide +kernel
theorem dX8_init_122 : decode cX8_init 122 = .ok (.aload_n 0, 1) := by decide +kernel
theorem dX8_init_123 : decode cX8_init 123 = .ok (.new 69, 3) := by decide +kernel
theorem dX8_init_126 : decode cX8_init 126 = .ok (.dup, 1) := by decide +kernel
theorem dX8_init_127 : decode cX8_init 127 = .ok (.aload_n 1, 1) := by decide +kernel
theorem dX8_init_128 : decode cX8_init 128 = .ok (.invokespecial 71, 3) := by decide +kernel
theorem dX8_init_131 : decode cX8_init 131 = .ok (.putfield 74, 3) := by decide +kernel
theorem dX8_init_134 : decode cX8_init 134 = .ok (.aload_n 0, 1) := by decide +kernel
theorem dX8_init_135 : decode cX8_init 135 = .ok (.new 69, 3) := by decide +kernel
theorem dX8_init_138 : decode cX8_init 138 = .ok (.dup, 1) := by decide +kernel
theorem dX8_init_139 : decode cX8_init 139 = .ok (.aload_n 1, 1) := by decide +kernel
theorem dX8_init_140 : decode cX8_init 140 = .ok (.invokespecial 71, 3) := by decide +kernel
theorem dX8_init_143 : decode cX8_init 143 = .ok (.putfield 78, 3) := by decide +kernel
theorem dX8_init_146 : decode cX8_init 146 = .ok (.return_, 1) := by decide +kernel
theorem dX8_hand_0 : decode cX8_hand 0 = .ok (.iload_n 1, 1) := by decide +kernel
theorem dX8_hand_1 : decode cX8_hand 1 = .ok (.invokestatic 81, 3) := by decide +kernel
theorem dX8_hand_4 : decode cX8_hand 4 = .ok (.ifCond .ne 9, 3) := by decide +kernel
theorem dX8_hand_7 : decode cX8_hand 7 = .ok (.aload_n 0, 1) := by decide +kernel
theorem dX8_hand_8 : decode cX8_hand 8 = .ok (.iconst (-1), 1) := by decide +kernel
theorem dX8_hand_9 : decode cX8_hand 9 = .ok (.invokevirtual 85, 3) := by decide +kernel
theorem dX8_hand_12 : decode cX8_hand 12 = .ok (.ireturn, 1) := by decide +kernel
theorem dX8_hand_13 : decode cX8_hand 13 = .ok (.aload_n 0, 1) := by decide +kernel
theorem dX8_hand_14 : decode cX8_hand 14 = .ok (.getfield 10, 3) := by decide +kernel
theorem dX8_hand_17 : decode cX8_hand 17 = .ok (.getfield 89, 3) := by decide +kernel
theorem dX8_hand_20 : decode cX8_hand 20 = .ok (.bipush 40, 2) := by decide +kernel
theorem dX8_hand_22 : decode cX8_hand 22 = .ok (.if_icmp .lt 10, 3) := by decide +kernel
theorem dX8_hand_25 : decode cX8_hand 25 = .ok (.aload_n 0, 1) := by decide +kernel
theorem dX8_hand_26 : decode cX8_hand 26 = .ok (.bipush (-6), 2) := by decide +kernel
theorem dX8_hand_28 : decode cX8_hand 28 = .ok (.invokevirtual 85, 3) := by decide +kernel
theorem dX8_hand_31 : decode cX8_hand 31 = .ok (.ireturn, 1) := by decide +kernel
theorem dX8_hand_32 : decode cX8_hand 32 = .ok (.aload_n 0, 1) := by decide +kernel
theorem dX8_hand_33 : decode cX8_hand 33 = .ok (.getfield 10, 3) := by decide +kernel
theorem dX8_hand_36 : decode cX8_hand 36 = .ok (.iload_n 1, 1) := by decide +kernel
theorem dX8_hand_37 : decode cX8_hand 37 = .ok (.invokevirtual 92, 3) := by decide +kernel
theorem dX8_hand_40 : decode cX8_hand 40 = .ok (.ireturn, 1) := by decide +kernel
theorem dX8_kin_0 : decode cX8_kin 0 = .ok (.aload_n 0, 1) := by decide +kernel
theorem dX8_kin_1 : decode cX8_kin 1 = .ok (.iload_n 1, 1) := by decide +kernel
theorem dX8_kin_2 : decode cX8_kin 2 = .ok (.invokevirtual 95, 3) := by decide +kernel
theorem dX8_kin_5 : decode cX8_kin 5 = .ok (.ifCond .eq 16, 3) := by decide +kernel
theorem dX8_kin_8 : decode cX8_kin 8 = .ok (.aload_n 0, 1) := by decide +kernel
theorem dX8_kin_9 : decode cX8_kin 9 = .ok (.iload_n 2, 1) := by decide +kernel
theorem dX8_kin_10 : decode cX8_kin 10 = .ok (.invokevirtual 95, 3) := by decide +kernel
theorem dX8_kin_13 : decode cX8_kin 13 = .ok (.ifCond .eq 8, 3) := by decide +kernel
theorem dX8_kin_16 : decode cX8_kin 16 = .ok (.iload_n 1, 1) := by decide +kernel
theorem dX8_kin_17 : decode cX8_kin 17 = .ok (.iload_n 2, 1) := by decide +kernel
theorem dX8_kin_18 : decode cX8_kin 18 = .ok (.if_icmp .ne 9, 3) := by decide +kernel
theorem dX8_kin_21 : decode cX8_kin 21 = .ok (.aload_n 0, 1) := by decide +kernel
theorem dX8_kin_22 : decode cX8_kin 22 = .ok (.iconst (-1), 1) := by decide +kernel
theorem dX8_kin_23 : decode cX8_kin 23 = .ok (.invokevirtual 85, 3) := by decide +kernel
theorem dX8_kin_26 : decode cX8_kin 26 = .ok (.ireturn, 1) := by decide +kernel
theorem dX8_kin_27 : decode cX8_kin 27 = .ok (.aload_n 0, 1) := by decide +kernel
theorem dX8_kin_28 : decode cX8_kin 28 = .ok (.getfield 10, 3) := by decide +kernel
theorem dX8_kin_31 : decode cX8_kin 31 = .ok (.iload_n 1, 1) := by decide +kernel
theorem dX8_kin_32 : decode cX8_kin 32 = .ok (.iload_n 2, 1) := by decide +kernel
theorem dX8_kin_33 : decode cX8_kin 33 = .ok (.iload_n 3, 1) := by decide +kernel
theorem dX8_kin_34 : decode cX8_kin 34 = .ok (.invokevirtual 98, 3) := by decide +kernel
theorem dX8_kin_37 : decode cX8_kin 37 = .ok (.ifCond .eq 7, 3) := by decide +kernel
theorem dX8_kin_40 : decode cX8_kin 40 = .ok (.iconst 1, 1) := by decide +kernel
theorem dX8_kin_41 : decode cX8_kin 41 = .ok (.goto 4, 3) := by decide +kernel
theorem dX8_kin_44 : decode cX8_kin 44 = .ok (.iconst 0, 1) := by decide +kernel
theorem dX8_kin_45 : decode cX8_kin 45 = .ok (.ireturn, 1) := by decide +kernel
theorem dX8_idea_0 : decode cX8_idea 0 = .ok (.aload_n 0, 1) := by decide +kernel
theorem dX8_idea_1 : decode cX8_idea 1 = .ok (.iload_n 1, 1) := by decide +kernel
theorem dX8_idea_2 : decode cX8_idea 2 = .ok (.invokevirtual 95, 3) := by decide +kernel
theorem dX8_idea_5 : decode cX8_idea 5 = .ok (.ifCond .eq 17, 3) := by decide +kernel
theorem dX8_idea_8 : decode cX8_idea 8 = .ok (.iload_n 2, 1) := by decide +kernel
theorem dX8_idea_9 : decode cX8_idea 9 = .ok (.invokestatic 81, 3) := by decide +kernel
theorem dX8_idea_12 : decode cX8_idea 12 = .ok (.ifCond .eq 10, 3) := by decide +kernel
theorem dX8_idea_15 : decode cX8_idea 15 = .ok (.iload_n 3, 1) := by decide +kernel
theorem dX8_idea_16 : decode cX8_idea 16 = .ok (.invokestatic 102, 3) := by decide +kernel
theorem dX8_idea_19 : decode cX8_idea 19 = .ok (.ifCond .ne 9, 3) := by decide +kernel
theorem dX8_idea_22 : decode cX8_idea 22 = .ok (.aload_n 0, 1) := by decide +kernel
theorem dX8_idea_23 : decode cX8_idea 23 = .ok (.iconst (-1), 1) := by decide +kernel
theorem dX8_idea_24 : decode cX8_idea 24 = .ok (.invokevirtual 85, 3) := by decide +kernel
theorem dX8_idea_27 : decode cX8_idea 27 = .ok (.ireturn, 1) := by decide +kernel
theorem dX8_idea_28 : decode cX8_idea 28 = .ok (.iload 4, 2) := by decide +kernel
theorem dX8_idea_30 : decode cX8_idea 30 = .ok (.ifCond .ge 10, 3) := by decide +kernel
theorem dX8_idea_33 : decode cX8_idea 33 = .ok (.aload_n 0, 1) := by decide +kernel
theorem dX8_idea_34 : decode cX8_idea 34 = .ok (.bipush (-4), 2) := by decide +kernel
theorem dX8_idea_36 : decode cX8_idea 36 = .ok (.invokevirtual 85, 3) := by decide +kernel
theorem dX8_idea_39 : decode cX8_idea 39 = .ok (.ireturn, 1) := by decide +kernel
theorem dX8_idea_40 : decode cX8_idea 40 = .ok (.iload 4, 2) := by decide +kernel
theorem dX8_idea_42 : decode cX8_idea 42 = .ok (.bipush 9, 2) := by decide +kernel
theorem dX8_idea_44 : decode cX8_idea 44 = .ok (.if_icmp .gt 15, 3) := by decide +kernel
theorem dX8_idea_47 : decode cX8_idea 47 = .ok (.aload_n 0, 1) := by decide +kernel
theorem dX8_idea_48 : decode cX8_idea 48 = .ok (.getfield 65, 3) := by decide +kernel
theorem dX8_idea_51 : decode cX8_idea 51 = .ok (.getfield 105, 3) := by decide +kernel
theorem dX8_idea_54 : decode cX8_idea 54 = .ok (.bipush 40, 2) := by decide +kernel
theorem dX8_idea_56 : decode cX8_idea 56 = .ok (.if_icmp .lt 10, 3) := by decide +kernel
theorem dX8_idea_59 : decode cX8_idea 59 = .ok (.aload_n 0, 1) := by decide +kernel
theorem dX8_idea_60 : decode cX8_idea 60 = .ok (.bipush (-6), 2) := by decide +kernel
theorem dX8_idea_62 : decode cX8_idea 62 = .ok (.invokevirtual 85, 3) := by decide +kernel
theorem dX8_idea_65 : decode cX8_idea 65 = .ok (.ireturn, 1) := by decide +kernel
theorem dX8_idea_66 : decode cX8_idea 66 = .ok (.aload_n 0, 1) := by decide +kernel
theorem dX8_idea_67 : decode cX8_idea 67 = .ok (.getfield 65, 3) := by decide +kernel
theorem dX8_idea_70 : decode cX8_idea 70 = .ok (.iload_n 1, 1) := by decide +kernel
theorem dX8_idea_71 : decode cX8_idea 71 = .ok (.iload_n 2, 1) := by decide +kernel
theorem dX8_idea_72 : decode cX8_idea 72 = .ok (.iload_n 3, 1) := by decide +kernel
theorem dX8_idea_73 : decode cX8_idea 73 = .ok (.iload 4, 2) := by decide +kernel
theorem dX8_idea_75 : decode cX8_idea 75 = .ok (.aload_n 0, 1) := by decide +kernel
theorem dX8_idea_76 : decode cX8_idea 76 = .ok (.getfield 58, 3) := by decide +kernel
theorem dX8_idea_79 : decode cX8_idea 79 = .ok (.invokevirtual 106, 3) := by decide +kernel
theorem dX8_idea_82 : decode cX8_idea 82 = .ok (.istore 5, 2) := by decide +kernel
theorem dX8_idea_84 : decode cX8_idea 84 = .ok (.aload_n 0, 1) := by decide +kernel
theorem dX8_idea_85 : decode cX8_idea 85 = .ok (.getfield 74, 3) := by decide +kernel
theorem dX8_idea_88 : decode cX8_idea 88 = .ok (.iload 5, 2) := by decide +kernel
theorem dX8_idea_90 : decode cX8_idea 90 = .ok (.aload_n 0, 1) := by decide +kernel
theorem dX8_idea_91 : decode cX8_idea 91 = .ok (.getfield 51, 3) := by decide +kernel
theorem dX8_idea_94 : decode cX8_idea 94 = .ok (.iconst 0, 1) := by decide +kernel
theorem dX8_idea_95 : decode cX8_idea 95 = .ok (.iaload, 1) := by decide +kernel
theorem dX8_idea_96 : decode cX8_idea 96 = .ok (.invokevirtual 109, 3) := by decide +kernel
theorem dX8_idea_99 : decode cX8_idea 99 = .ok (.iload 5, 2) := by decide +kernel
theorem dX8_idea_101 : decode cX8_idea 101 = .ok (.ireturn, 1) := by decide +kernel
theorem dX8_team_0 : decode cX8_team 0 = .ok (.aload_n 0, 1) := by decide +kernel
theorem dX8_team_1 : decode cX8_team 1 = .ok (.iload_n 1, 1) := by decide +kernel
theorem dX8_team_2 : decode cX8_team 2 = .ok (.invokevirtual 113, 3) := by decide +kernel
theorem dX8_team_5 : decode cX8_team 5 = .ok (.ifCond .eq 11, 3) := by decide +kernel
theorem dX8_team_8 : decode cX8_team 8 = .ok (.aload_n 0, 1) := by decide +kernel
theorem dX8_team_9 : decode cX8_team 9 = .ok (.iload_n 2, 1) := by decide +kernel
theorem dX8_team_10 : decode cX8_team 10 = .ok (.invokevirtual 95, 3) := by decide +kernel
theorem dX8_team_13 : decode cX8_team 13 = .ok (.ifCond .ne 9, 3) := by decide +kernel
theorem dX8_team_16 : decode cX8_team 16 = .ok (.aload_n 0, 1) := by decide +kernel
theorem dX8_team_17 : decode cX8_team 17 = .ok (.iconst (-1), 1) := by decide +kernel
theorem dX8_team_18 : decode cX8_team 18 = .ok (.invokevirtual 85, 3) := by decide +kernel
theorem dX8_team_21 : decode cX8_team 21 = .ok (.ireturn, 1) := by decide +kernel
theorem dX8_team_22 : decode cX8_team 22 = .ok (.aload_n 0, 1) := by decide +kernel
theorem dX8_team_23 : decode cX8_team 23 = .ok (.getfield 65, 3) := by decide +kernel
theorem dX8_team_26 : decode cX8_team 26 = .ok (.iload_n 1, 1) := by decide +kernel
theorem dX8_team_27 : decode cX8_team 27 = .ok (.invokevirtual 116, 3) := by decide +kernel
theorem dX8_team_30 : decode cX8_team 30 = .ok (.iload_n 2, 1) := by decide +kernel
theorem dX8_team_31 : decode cX8_team 31 = .ok (.invokestatic 120, 3) := by decide +kernel
theorem dX8_team_34 : decode cX8_team 34 = .ok (.ifCond .eq 10, 3) := by decide +kernel
theorem dX8_team_37 : decode cX8_team 37 = .ok (.aload_n 0, 1) := by decide +kernel
theorem dX8_team_38 : decode cX8_team 38 = .ok (.bipush (-3), 2) := by decide +kernel
theorem dX8_team_40 : decode cX8_team 40 = .ok (.invokevirtual 85, 3) := by decide +kernel
theorem dX8_team_43 : decode cX8_team 43 = .ok (.ireturn, 1) := by decide +kernel
theorem dX8_team_44 : decode cX8_team 44 = .ok (.aload_n 0, 1) := by decide +kernel
theorem dX8_team_45 : decode cX8_team 45 = .ok (.getfield 65, 3) := by decide +kernel
theorem dX8_team_48 : decode cX8_team 48 = .ok (.iload_n 1, 1) := by decide +kernel
theorem dX8_team_49 : decode cX8_team 49 = .ok (.invokevirtual 124, 3) := by decide +kernel
theorem dX8_team_52 : decode cX8_team 52 = .ok (.bipush 6, 2) := by decide +kernel
theorem dX8_team_54 : decode cX8_team 54 = .ok (.if_icmp .lt 10, 3) := by decide +kernel
theorem dX8_team_57 : decode cX8_team 57 = .ok (.aload_n 0, 1) := by decide +kernel
theorem dX8_team_58 : decode cX8_team 58 = .ok (.bipush (-6), 2) := by decide +kernel
theorem dX8_team_60 : decode cX8_team 60 = .ok (.invokevirtual 85, 3) := by decide +kernel
theorem dX8_team_63 : decode cX8_team 63 = .ok (.ireturn, 1) := by decide +kernel
theorem dX8_team_64 : decode cX8_team 64 = .ok (.aload_n 0, 1) := by decide +kernel
theorem dX8_team_65 : decode cX8_team 65 = .ok (.getfield 65, 3) := by decide +kernel
theorem dX8_team_68 : decode cX8_team 68 = .ok (.getfield 127, 3) := by decide +kernel
theorem dX8_team_71 : decode cX8_team 71 = .ok (.iload_n 1, 1) := by decide +kernel
theorem dX8_team_72 : decode cX8_team 72 = .ok (.dup2, 1) := by decide +kernel
theorem dX8_team_73 : decode cX8_team 73 = .ok (.laload, 1) := by decide +kernel
theorem dX8_team_74 : decode cX8_team 74 = .ok (.lconst 1, 1) := by decide +kernel
theorem dX8_team_75 : decode cX8_team 75 = .ok (.iload_n 2, 1) := by decide +kernel
theorem dX8_team_76 : decode cX8_team 76 = .ok (.lshl, 1) := by decide +kernel
theorem dX8_team_77 : decode cX8_team 77 = .ok (.lor, 1) := by decide +kernel
theorem dX8_team_78 : decode cX8_team 78 = .ok (.lastore, 1) := by decide +kernel
theorem dX8_team_79 : decode cX8_team 79 = .ok (.aload_n 0, 1) := by decide +kernel
theorem dX8_team_80 : decode cX8_team 80 = .ok (.getfield 65, 3) := by decide +kernel
theorem dX8_team_83 : decode cX8_team 83 = .ok (.iload_n 1, 1) := by decide +kernel
theorem dX8_team_84 : decode cX8_team 84 = .ok (.invokevirtual 124, 3) := by decide +kernel
theorem dX8_team_87 : decode cX8_team 87 = .ok (.ireturn, 1) := by decide +kernel
theorem dX8_set_0 : decode cX8_set 0 = .ok (.iload_n 1, 1) := by decide +kernel
theorem dX8_set_1 : decode cX8_set 1 = .ok (.ifCond .lt 12, 3) := by decide +kernel
theorem dX8_set_4 : decode cX8_set 4 = .ok (.iload_n 1, 1) := by decide +kernel
theorem dX8_set_5 : decode cX8_set 5 = .ok (.aload_n 0, 1) := by decide +kernel
theorem dX8_set_6 : decode cX8_set 6 = .ok (.getfield 51, 3) := by decide +kernel
theorem dX8_set_9 : decode cX8_set 9 = .ok (.arraylength, 1) := by decide +kernel
theorem dX8_set_10 : decode cX8_set 10 = .ok (.if_icmp .lt 10, 3) := by decide +kernel
theorem dX8_set_13 : decode cX8_set 13 = .ok (.aload_n 0, 1) := by decide +kernel
theorem dX8_set_14 : decode cX8_set 14 = .ok (.bipush (-2), 2) := by decide +kernel
theorem dX8_set_16 : decode cX8_set 16 = .ok (.invokevirtual 85, 3) := by decide +kernel
theorem dX8_set_19 : decode cX8_set 19 = .ok (.ireturn, 1) := by decide +kernel
theorem dX8_set_20 : decode cX8_set 20 = .ok (.iload_n 2, 1) := by decide +kernel
theorem dX8_set_21 : decode cX8_set 21 = .ok (.getstatic 131, 3) := by decide +kernel
theorem dX8_set_24 : decode cX8_set 24 = .ok (.iload_n 1, 1) := by decide +kernel
theorem dX8_set_25 : decode cX8_set 25 = .ok (.iaload, 1) := by decide +kernel
theorem dX8_set_26 : decode cX8_set 26 = .ok (.if_icmp .ge 10, 3) := by decide +kernel
theorem dX8_set_29 : decode cX8_set 29 = .ok (.aload_n 0, 1) := by decide +kernel
theorem dX8_set_30 : decode cX8_set 30 = .ok (.bipush (-4), 2) := by decide +kernel
theorem dX8_set_32 : decode cX8_set 32 = .ok (.invokevirtual 85, 3) := by decide +kernel
theorem dX8_set_35 : decode cX8_set 35 = .ok (.ireturn, 1) := by decide +kernel
theorem dX8_set_36 : decode cX8_set 36 = .ok (.iload_n 2, 1) := by decide +kernel
theorem dX8_set_37 : decode cX8_set 37 = .ok (.getstatic 134, 3) := by decide +kernel
theorem dX8_set_40 : decode cX8_set 40 = .ok (.iload_n 1, 1) := by decide +kernel
theorem dX8_set_41 : decode cX8_set 41 = .ok (.iaload, 1) := by decide +kernel
theorem dX8_set_42 : decode cX8_set 42 = .ok (.if_icmp .le 10, 3) := by decide +kernel
theorem dX8_set_45 : decode cX8_set 45 = .ok (.aload_n 0, 1) := by decide +kernel
theorem dX8_set_46 : decode cX8_set 46 = .ok (.bipush (-6), 2) := by decide +kernel
theorem dX8_set_48 : decode cX8_set 48 = .ok (.invokevirtual 85, 3) := by decide +kernel
theorem dX8_set_51 : decode cX8_set 51 = .ok (.ireturn, 1) := by decide +kernel
theorem dX8_set_52 : decode cX8_set 52 = .ok (.aload_n 0, 1) := by decide +kernel
theorem dX8_set_53 : decode cX8_set 53 = .ok (.getfield 51, 3) := by decide +kernel
theorem dX8_set_56 : decode cX8_set 56 = .ok (.iload_n 1, 1) := by decide +kernel
theorem dX8_set_57 : decode cX8_set 57 = .ok (.iaload, 1) := by decide +kernel
theorem dX8_set_58 : decode cX8_set 58 = .ok (.istore_n 3, 1) := by decide +kernel
theorem dX8_set_59 : decode cX8_set 59 = .ok (.aload_n 0, 1) := by decide +kernel
theorem dX8_set_60 : decode cX8_set 60 = .ok (.getfield 51, 3) := by decide +kernel
theorem dX8_set_63 : decode cX8_set 63 = .ok (.iload_n 1, 1) := by decide +kernel
theorem dX8_set_64 : decode cX8_set 64 = .ok (.iload_n 2, 1) := by decide +kernel
theorem dX8_set_65 : decode cX8_set 65 = .ok (.iastore, 1) := by decide +kernel
theorem dX8_set_66 : decode cX8_set 66 = .ok (.iload_n 1, 1) := by decide +kernel
theorem dX8_set_67 : decode cX8_set 67 = .ok (.ifCond .ne 16, 3) := by decide +kernel
theorem dX8_set_70 : decode cX8_set 70 = .ok (.iload_n 2, 1) := by decide +kernel
theorem dX8_set_71 : decode cX8_set 71 = .ok (.iload_n 3, 1) := by decide +kernel
theorem dX8_set_72 : decode cX8_set 72 = .ok (.if_icmp .eq 11, 3) := by decide +kernel
theorem dX8_set_75 : decode cX8_set 75 = .ok (.aload_n 0, 1) := by decide +kernel
theorem dX8_set_76 : decode cX8_set 76 = .ok (.getfield 74, 3) := by decide +kernel
theorem dX8_set_79 : decode cX8_set 79 = .ok (.iload_n 2, 1) := by decide +kernel
theorem dX8_set_80 : decode cX8_set 80 = .ok (.invokevirtual 137, 3) := by decide +kernel
theorem dX8_set_83 : decode cX8_set 83 = .ok (.iload_n 3, 1) := by decide +kernel
theorem dX8_set_84 : decode cX8_set 84 = .ok (.ireturn, 1) := by decide +kernel
theorem dX8_like_0 : decode cX8_like 0 = .ok (.aload_n 0, 1) := by decide +kernel
theorem dX8_like_1 : decode cX8_like 1 = .ok (.iload_n 1, 1) := by decide +kernel
theorem dX8_like_2 : decode cX8_like 2 = .ok (.invokevirtual 113, 3) := by decide +kernel
theorem dX8_like_5 : decode cX8_like 5 = .ok (.ifCond .eq 11, 3) := by decide +kernel
theorem dX8_like_8 : decode cX8_like 8 = .ok (.aload_n 0, 1) := by decide +kernel
theorem dX8_like_9 : decode cX8_like 9 = .ok (.iload_n 2, 1) := by decide +kernel
theorem dX8_like_10 : decode cX8_like 10 = .ok (.invokevirtual 113, 3) := by decide +kernel
theorem dX8_like_13 : decode cX8_like 13 = .ok (.ifCond .ne 9, 3) := by decide +kernel
theorem dX8_like_16 : decode cX8_like 16 = .ok (.aload_n 0, 1) := by decide +kernel
theorem dX8_like_17 : decode cX8_like 17 = .ok (.iconst (-1), 1) := by decide +kernel
theorem dX8_like_18 : decode cX8_like 18 = .ok (.invokevirtual 85, 3) := by decide +kernel
theorem dX8_like_21 : decode cX8_like 21 = .ok (.ireturn, 1) := by decide +kernel
theorem dX8_like_22 : decode cX8_like 22 = .ok (.sipush 1000, 3) := by decide +kernel
theorem dX8_like_25 : decode cX8_like 25 = .ok (.aload_n 0, 1) := by decide +kernel
theorem dX8_like_26 : decode cX8_like 26 = .ok (.getfield 65, 3) := by decide +kernel
theorem dX8_like_29 : decode cX8_like 29 = .ok (.getfield 141, 3) := by decide +kernel
theorem dX8_like_32 : decode cX8_like 32 = .ok (.iload_n 1, 1) := by decide +kernel
theorem dX8_like_33 : decode cX8_like 33 = .ok (.iaload, 1) := by decide +kernel
theorem dX8_like_34 : decode cX8_like 34 = .ok (.aload_n 0, 1) := by decide +kernel
theorem dX8_like_35 : decode cX8_like 35 = .ok (.getfield 65, 3) := by decide +kernel
theorem dX8_like_38 : decode cX8_like 38 = .ok (.getfield 141, 3) := by decide +kernel
theorem dX8_like_41 : decode cX8_like 41 = .ok (.iload_n 2, 1) := by decide +kernel
theorem dX8_like_42 : decode cX8_like 42 = .ok (.iaload, 1) := by decide +kernel
theorem dX8_like_43 : decode cX8_like 43 = .ok (.invokestatic 144, 3) := by decide +kernel
theorem dX8_like_46 : decode cX8_like 46 = .ok (.iadd, 1) := by decide +kernel
theorem dX8_like_47 : decode cX8_like 47 = .ok (.ireturn, 1) := by decide +kernel
theorem dX8_family_0 : decode cX8_family 0 = .ok (.aload_n 0, 1) := by decide +kernel
theorem dX8_family_1 : decode cX8_family 1 = .ok (.iload_n 1, 1) := by decide +kernel
theorem dX8_family_2 : decode cX8_family 2 = .ok (.invokevirtual 113, 3) := by decide +kernel
theorem dX8_family_5 : decode cX8_family 5 = .ok (.ifCond .ne 9, 3) := by decide +kernel
theorem dX8_family_8 : decode cX8_family 8 = .ok (.aload_n 0, 1) := by decide +kernel
theorem dX8_family_9 : decode cX8_family 9 = .ok (.iconst (-1), 1) := by decide +kernel
theorem dX8_family_10 : decode cX8_family 10 = .ok (.invokevirtual 85, 3) := by decide +kernel
theorem dX8_family_13 : decode cX8_family 13 = .ok (.ireturn, 1) := by decide +kernel
theorem dX8_family_14 : decode cX8_family 14 = .ok (.aload_n 0, 1) := by decide +kernel
theorem dX8_family_15 : decode cX8_family 15 = .ok (.getfield 74, 3) := by decide +kernel
theorem dX8_family_18 : decode cX8_family 18 = .ok (.getfield 148, 3) := by decide +kernel
theorem dX8_family_21 : decode cX8_family 21 = .ok (.iload_n 1, 1) := by decide +kernel
theorem dX8_family_22 : decode cX8_family 22 = .ok (.iaload, 1) := by decide +kernel
theorem dX8_family_23 : decode cX8_family 23 = .ok (.ireturn, 1) := by decide +kernel
theorem dX8_head_0 : decode cX8_head 0 = .ok (.aload_n 0, 1) := by decide +kernel
theorem dX8_head_1 : decode cX8_head 1 = .ok (.iload_n 1, 1) := by decide +kernel
theorem dX8_head_2 : decode cX8_head 2 = .ok (.invokevirtual 113, 3) := by decide +kernel
theorem dX8_head_5 : decode cX8_head 5 = .ok (.ifCond .ne 9, 3) := by decide +kernel
theorem dX8_head_8 : decode cX8_head 8 = .ok (.aload_n 0, 1) := by decide +kernel
theorem dX8_head_9 : decode cX8_head 9 = .ok (.iconst (-1), 1) := by decide +kernel
theorem dX8_head_10 : decode cX8_head 10 = .ok (.invokevirtual 85, 3) := by decide +kernel
theorem dX8_head_13 : decode cX8_head 13 = .ok (.ireturn, 1) := by decide +kernel
theorem dX8_head_14 : decode cX8_head 14 = .ok (.aload_n 0, 1) := by decide +kernel
theorem dX8_head_15 : decode cX8_head 15 = .ok (.getfield 74, 3) := by decide +kernel
theorem dX8_head_18 : decode cX8_head 18 = .ok (.aload_n 0, 1) := by decide +kernel
theorem dX8_head_19 : decode cX8_head 19 = .ok (.getfield 74, 3) := by decide +kernel
theorem dX8_head_22 : decode cX8_head 22 = .ok (.getfield 148, 3) := by decide +kernel
theorem dX8_head_25 : decode cX8_head 25 = .ok (.iload_n 1, 1) := by decide +kernel
theorem dX8_head_26 : decode cX8_head 26 = .ok (.iaload, 1) := by decide +kernel
theorem dX8_head_27 : decode cX8_head 27 = .ok (.invokevirtual 151, 3) := by decide +kernel
theorem dX8_head_30 : decode cX8_head 30 = .ok (.ireturn, 1) := by decide +kernel
theorem dX8_share_0 : decode cX8_share 0 = .ok (.aload_n 0, 1) := by decide +kernel
theorem dX8_share_1 : decode cX8_share 1 = .ok (.iload_n 1, 1) := by decide +kernel
theorem dX8_share_2 : decode cX8_share 2 = .ok (.invokevirtual 113, 3) := by decide +kernel
theorem dX8_share_5 : decode cX8_share 5 = .ok (.ifCond .ne 9, 3) := by decide +kernel
theorem dX8_share_8 : decode cX8_share 8 = .ok (.aload_n 0, 1) := by decide +kernel
theorem dX8_share_9 : decode cX8_share 9 = .ok (.iconst (-1), 1) := by decide +kernel
theorem dX8_share_10 : decode cX8_share 10 = .ok (.invokevirtual 85, 3) := by decide +kernel
theorem dX8_share_13 : decode cX8_share 13 = .ok (.ireturn, 1) := by decide +kernel
theorem dX8_share_14 : decode cX8_share 14 = .ok (.aload_n 0, 1) := by decide +kernel
theorem dX8_share_15 : decode cX8_share 15 = .ok (.getfield 74, 3) := by decide +kernel
theorem dX8_share_18 : decode cX8_share 18 = .ok (.iload_n 1, 1) := by decide +kernel
theorem dX8_share_19 : decode cX8_share 19 = .ok (.aload_n 0, 1) := by decide +kernel
theorem dX8_share_20 : decode cX8_share 20 = .ok (.getfield 51, 3) := by decide +kernel
theorem dX8_share_23 : decode cX8_share 23 = .ok (.iconst 1, 1) := by decide +kernel
theorem dX8_share_24 : decode cX8_share 24 = .ok (.iaload, 1) := by decide +kernel
theorem dX8_share_25 : decode cX8_share 25 = .ok (.invokevirtual 154, 3) := by decide +kernel
theorem dX8_share_28 : decode cX8_share 28 = .ok (.ireturn, 1) := by decide +kernel
theorem dX8_judge_0 : decode cX8_judge 0 = .ok (.aload_n 0, 1) := by decide +kernel
theorem dX8_judge_1 : decode cX8_judge 1 = .ok (.iload_n 1, 1) := by decide +kernel
theorem dX8_judge_2 : decode cX8_judge 2 = .ok (.invokevirtual 95, 3) := by decide +kernel
theorem dX8_judge_5 : decode cX8_judge 5 = .ok (.ifCond .ne 9, 3) := by decide +kernel
theorem dX8_judge_8 : decode cX8_judge 8 = .ok (.aload_n 0, 1) := by decide +kernel
theorem dX8_judge_9 : decode cX8_judge 9 = .ok (.iconst (-1), 1) := by decide +kernel
theorem dX8_judge_10 : decode cX8_judge 10 = .ok (.invokevirtual 85, 3) := by decide +kernel
theorem dX8_judge_13 : decode cX8_judge 13 = .ok (.ireturn, 1) := by decide +kernel
theorem dX8_judge_14 : decode cX8_judge 14 = .ok (.aload_n 0, 1) := by decide +kernel
theorem dX8_judge_15 : decode cX8_judge 15 = .ok (.getfield 10, 3) := by decide +kernel
theorem dX8_judge_18 : decode cX8_judge 18 = .ok (.getfield 157, 3) := by decide +kernel
theorem dX8_judge_21 : decode cX8_judge 21 = .ok (.iload_n 1, 1) := by decide +kernel
theorem dX8_judge_22 : decode cX8_judge 22 = .ok (.baload, 1) := by decide +kernel
theorem dX8_judge_23 : decode cX8_judge 23 = .ok (.iload_n 2, 1) := by decide +kernel
theorem dX8_judge_24 : decode cX8_judge 24 = .ok (.if_icmp .eq 7, 3) := by decide +kernel
theorem dX8_judge_27 : decode cX8_judge 27 = .ok (.iconst 1, 1) := by decide +kernel
theorem dX8_judge_28 : decode cX8_judge 28 = .ok (.goto 4, 3) := by decide +kernel
theorem dX8_judge_31 : decode cX8_judge 31 = .ok (.iconst 0, 1) := by decide +kernel
theorem dX8_judge_32 : decode cX8_judge 32 = .ok (.istore_n 3, 1) := by decide +kernel
theorem dX8_judge_33 : decode cX8_judge 33 = .ok (.aload_n 0, 1) := by decide +kernel
theorem dX8_judge_34 : decode cX8_judge 34 = .ok (.getfield 10, 3) := by decide +kernel
theorem dX8_judge_37 : decode cX8_judge 37 = .ok (.getfield 157, 3) := by decide +kernel
theorem dX8_judge_40 : decode cX8_judge 40 = .ok (.iload_n 1, 1) := by decide +kernel
theorem dX8_judge_41 : decode cX8_judge 41 = .ok (.iload_n 2, 1) := by decide +kernel
theorem dX8_judge_42 : decode cX8_judge 42 = .ok (.bastore, 1) := by decide +kernel
theorem dX8_judge_43 : decode cX8_judge 43 = .ok (.iload_n 3, 1) := by decide +kernel
theorem dX8_judge_44 : decode cX8_judge 44 = .ok (.ifCond .eq 7, 3) := by decide +kernel
theorem dX8_judge_47 : decode cX8_judge 47 = .ok (.iconst 1, 1) := by decide +kernel
theorem dX8_judge_48 : decode cX8_judge 48 = .ok (.goto 4, 3) := by decide +kernel
theorem dX8_judge_51 : decode cX8_judge 51 = .ok (.iconst 0, 1) := by decide +kernel
theorem dX8_judge_52 : decode cX8_judge 52 = .ok (.ireturn, 1) := by decide +kernel
theorem dX8_may_0 : decode cX8_may 0 = .ok (.aload_n 0, 1) := by decide +kernel
theorem dX8_may_1 : decode cX8_may 1 = .ok (.iload_n 1, 1) := by decide +kernel
theorem dX8_may_2 : decode cX8_may 2 = .ok (.invokevirtual 95, 3) := by decide +kernel
theorem dX8_may_5 : decode cX8_may 5 = .ok (.ifCond .eq 11, 3) := by decide +kernel
theorem dX8_may_8 : decode cX8_may 8 = .ok (.aload_n 0, 1) := by decide +kernel
theorem dX8_may_9 : decode cX8_may 9 = .ok (.iload_n 2, 1) := by decide +kernel
theorem dX8_may_10 : decode cX8_may 10 = .ok (.invokevirtual 113, 3) := by decide +kernel
theorem dX8_may_13 : decode cX8_may 13 = .ok (.ifCond .ne 9, 3) := by decide +kernel
theorem dX8_may_16 : decode cX8_may 16 = .ok (.aload_n 0, 1) := by decide +kernel
theorem dX8_may_17 : decode cX8_may 17 = .ok (.iconst (-1), 1) := by decide +kernel
theorem dX8_may_18 : decode cX8_may 18 = .ok (.invokevirtual 85, 3) := by decide +kernel
theorem dX8_may_21 : decode cX8_may 21 = .ok (.ireturn, 1) := by decide +kernel
theorem dX8_may_22 : decode cX8_may 22 = .ok (.aload_n 0, 1) := by decide +kernel
theorem dX8_may_23 : decode cX8_may 23 = .ok (.iload_n 2, 1) := by decide +kernel
theorem dX8_may_24 : decode cX8_may 24 = .ok (.invokevirtual 161, 3) := by decide +kernel
theorem dX8_may_27 : decode cX8_may 27 = .ok (.iload_n 1, 1) := by decide +kernel
theorem dX8_may_28 : decode cX8_may 28 = .ok (.invokestatic 120, 3) := by decide +kernel
theorem dX8_may_31 : decode cX8_may 31 = .ok (.ifCond .eq 7, 3) := by decide +kernel
theorem dX8_may_34 : decode cX8_may 34 = .ok (.iconst 1, 1) := by decide +kernel
theorem dX8_may_35 : decode cX8_may 35 = .ok (.goto 4, 3) := by decide +kernel
theorem dX8_may_38 : decode cX8_may 38 = .ok (.iconst 0, 1) := by decide +kernel
theorem dX8_may_39 : decode cX8_may 39 = .ok (.ireturn, 1) := by decide +kernel
theorem dX8_judgeOf_0 : decode cX8_judgeOf 0 = .ok (.aload_n 0, 1) := by decide +kernel
theorem dX8_judgeOf_1 : decode cX8_judgeOf 1 = .ok (.iload_n 1, 1) := by decide +kernel
theorem dX8_judgeOf_2 : decode cX8_judgeOf 2 = .ok (.invokevirtual 113, 3) := by decide +kernel
theorem dX8_judgeOf_5 : decode cX8_judgeOf 5 = .ok (.ifCond .eq 12, 3) := by decide +kernel
theorem dX8_judgeOf_8 : decode cX8_judgeOf 8 = .ok (.iload_n 2, 1) := by decide +kernel
theorem dX8_judgeOf_9 : decode cX8_judgeOf 9 = .ok (.ifCond .lt 8, 3) := by decide +kernel
theorem dX8_judgeOf_12 : decode cX8_judgeOf 12 = .ok (.iload_n 2, 1) := by decide +kernel
theorem dX8_judgeOf_13 : decode cX8_judgeOf 13 = .ok (.iconst 1, 1) := by decide +kernel
theorem dX8_judgeOf_14 : decode cX8_judgeOf 14 = .ok (.if_icmp .le 9, 3) := by decide +kernel
theorem dX8_judgeOf_17 : decode cX8_judgeOf 17 = .ok (.aload_n 0, 1) := by decide +kernel
theorem dX8_judgeOf_18 : decode cX8_judgeOf 18 = .ok (.iconst (-1), 1) := by decide +kernel
theorem dX8_judgeOf_19 : decode cX8_judgeOf 19 = .ok (.invokevirtual 85, 3) := by decide +kernel
theorem dX8_judgeOf_22 : decode cX8_judgeOf 22 = .ok (.ireturn, 1) := by decide +kernel
theorem dX8_judgeOf_23 : decode cX8_judgeOf 23 = .ok (.aload_n 0, 1) := by decide +kernel
theorem dX8_judgeOf_24 : decode cX8_judgeOf 24 = .ok (.iload_n 1, 1) := by decide +kernel
theorem dX8_judgeOf_25 : decode cX8_judgeOf 25 = .ok (.invokevirtual 161, 3) := by decide +kernel
theorem dX8_judgeOf_28 : decode cX8_judgeOf 28 = .ok (.lstore_n 3, 1) := by decide +kernel
theorem dX8_judgeOf_29 : decode cX8_judgeOf 29 = .ok (.aload_n 0, 1) := by decide +kernel
theorem dX8_judgeOf_30 : decode cX8_judgeOf 30 = .ok (.getfield 10, 3) := by decide +kernel
theorem dX8_judgeOf_33 : decode cX8_judgeOf 33 = .ok (.lload_n 3, 1) := by decide +kernel
theorem dX8_judgeOf_34 : decode cX8_judgeOf 34 = .ok (.invokevirtual 164, 3) := by decide +kernel
theorem dX8_judgeOf_37 : decode cX8_judgeOf 37 = .ok (.istore 5, 2) := by decide +kernel
theorem dX8_judgeOf_39 : decode cX8_judgeOf 39 = .ok (.aload_n 0, 1) := by decide +kernel
theorem dX8_judgeOf_40 : decode cX8_judgeOf 40 = .ok (.getfield 10, 3) := by decide +kernel
theorem dX8_judgeOf_43 : decode cX8_judgeOf 43 = .ok (.lload_n 3, 1) := by decide +kernel
theorem dX8_judgeOf_44 : decode cX8_judgeOf 44 = .ok (.iload 5, 2) := by decide +kernel
theorem dX8_judgeOf_46 : decode cX8_judgeOf 46 = .ok (.invokestatic 168, 3) := by decide +kernel
theorem dX8_judgeOf_49 : decode cX8_judgeOf 49 = .ok (.invokevirtual 164, 3) := by decide +kernel
theorem dX8_judgeOf_52 : decode cX8_judgeOf 52 = .ok (.istore 6, 2) := by decide +kernel
theorem dX8_judgeOf_54 : decode cX8_judgeOf 54 = .ok (.iload 6, 2) := by decide +kernel
theorem dX8_judgeOf_56 : decode cX8_judgeOf 56 = .ok (.bipush (-9), 2) := by decide +kernel
theorem dX8_judgeOf_58 : decode cX8_judgeOf 58 = .ok (.if_icmp .ne 6, 3) := by decide +kernel
theorem dX8_judgeOf_61 : decode cX8_judgeOf 61 = .ok (.bipush (-9), 2) := by decide +kernel
theorem dX8_judgeOf_63 : decode cX8_judgeOf 63 = .ok (.ireturn, 1) := by decide +kernel
theorem dX8_judgeOf_64 : decode cX8_judgeOf 64 = .ok (.iload_n 2, 1) := by decide +kernel
theorem dX8_judgeOf_65 : decode cX8_judgeOf 65 = .ok (.ifCond .ne 8, 3) := by decide +kernel
theorem dX8_judgeOf_68 : decode cX8_judgeOf 68 = .ok (.iload 5, 2) := by decide +kernel
theorem dX8_judgeOf_70 : decode cX8_judgeOf 70 = .ok (.goto 5, 3) := by decide +kernel
theorem dX8_judgeOf_73 : decode cX8_judgeOf 73 = .ok (.iload 6, 2) := by decide +kernel
theorem dX8_judgeOf_75 : decode cX8_judgeOf 75 = .ok (.ireturn, 1) := by decide +kernel
theorem dX8_decide_0 : decode cX8_decide 0 = .ok (.aload_n 0, 1) := by decide +kernel
theorem dX8_decide_1 : decode cX8_decide 1 = .ok (.iload_n 1, 1) := by decide +kernel
theorem dX8_decide_2 : decode cX8_decide 2 = .ok (.invokevirtual 113, 3) := by decide +kernel
theorem dX8_decide_5 : decode cX8_decide 5 = .ok (.ifCond .ne 9, 3) := by decide +kernel
theorem dX8_decide_8 : decode cX8_decide 8 = .ok (.aload_n 0, 1) := by decide +kernel
theorem dX8_decide_9 : decode cX8_decide 9 = .ok (.iconst (-1), 1) := by decide +kernel
theorem dX8_decide_10 : decode cX8_decide 10 = .ok (.invokevirtual 85, 3) := by decide +kernel
theorem dX8_decide_13 : decode cX8_decide 13 = .ok (.ireturn, 1) := by decide +kernel
theorem dX8_decide_14 : decode cX8_decide 14 = .ok (.aload_n 0, 1) := by decide +kernel
theorem dX8_decide_15 : decode cX8_decide 15 = .ok (.iload_n 1, 1) := by decide +kernel
theorem dX8_decide_16 : decode cX8_decide 16 = .ok (.invokevirtual 161, 3) := by decide +kernel
theorem dX8_decide_19 : decode cX8_decide 19 = .ok (.lstore 5, 2) := by decide +kernel
theorem dX8_decide_21 : decode cX8_decide 21 = .ok (.aload_n 0, 1) := by decide +kernel
theorem dX8_decide_22 : decode cX8_decide 22 = .ok (.getfield 10, 3) := by decide +kernel
theorem dX8_decide_25 : decode cX8_decide 25 = .ok (.lload 5, 2) := by decide +kernel
theorem dX8_decide_27 : decode cX8_decide 27 = .ok (.invokevirtual 164, 3) := by decide +kernel
theorem dX8_decide_30 : decode cX8_decide 30 = .ok (.istore 7, 2) := by decide +kernel
theorem dX8_decide_32 : decode cX8_decide 32 = .ok (.aload_n 0, 1) := by decide +kernel
theorem dX8_decide_33 : decode cX8_decide 33 = .ok (.getfield 10, 3) := by decide +kernel
theorem dX8_decide_36 : decode cX8_decide 36 = .ok (.lload 5, 2) := by decide +kernel
theorem dX8_decide_38 : decode cX8_decide 38 = .ok (.iload 7, 2) := by decide +kernel
theorem dX8_decide_40 : decode cX8_decide 40 = .ok (.invokestatic 168, 3) := by decide +kernel
theorem dX8_decide_43 : decode cX8_decide 43 = .ok (.invokevirtual 164, 3) := by decide +kernel
theorem dX8_decide_46 : decode cX8_decide 46 = .ok (.istore 8, 2) := by decide +kernel
theorem dX8_decide_48 : decode cX8_decide 48 = .ok (.aload_n 0, 1) := by decide +kernel
theorem dX8_decide_49 : decode cX8_decide 49 = .ok (.getfield 65, 3) := by decide +kernel
theorem dX8_decide_52 : decode cX8_decide 52 = .ok (.getfield 172, 3) := by decide +kernel
theorem dX8_decide_55 : decode cX8_decide 55 = .ok (.iload_n 1, 1) := by decide +kernel
theorem dX8_decide_56 : decode cX8_decide 56 = .ok (.iaload, 1) := by decide +kernel
theorem dX8_decide_57 : decode cX8_decide 57 = .ok (.ifCond .ne 17, 3) := by decide +kernel
theorem dX8_decide_60 : decode cX8_decide 60 = .ok (.iload 7, 2) := by decide +kernel
theorem dX8_decide_62 : decode cX8_decide 62 = .ok (.bipush (-9), 2) := by decide +kernel
theorem dX8_decide_64 : decode cX8_decide 64 = .ok (.if_icmp .eq 10, 3) := by decide +kernel
theorem dX8_decide_67 : decode cX8_decide 67 = .ok (.iload 8, 2) := by decide +kernel
theorem dX8_decide_69 : decode cX8_decide 69 = .ok (.bipush (-9), 2) := by decide +kernel
theorem dX8_decide_71 : decode cX8_decide 71 = .ok (.if_icmp .ne 10, 3) := by decide +kernel
theorem dX8_decide_74 : decode cX8_decide 74 = .ok (.aload_n 0, 1) := by decide +kernel
theorem dX8_decide_75 : decode cX8_decide 75 = .ok (.bipush (-3), 2) := by decide +kernel
theorem dX8_decide_77 : decode cX8_decide 77 = .ok (.invokevirtual 85, 3) := by decide +kernel
theorem dX8_decide_80 : decode cX8_decide 80 = .ok (.ireturn, 1) := by decide +kernel
theorem dX8_decide_81 : decode cX8_decide 81 = .ok (.aload_n 0, 1) := by decide +kernel
theorem dX8_decide_82 : decode cX8_decide 82 = .ok (.getfield 10, 3) := by decide +kernel
theorem dX8_decide_85 : decode cX8_decide 85 = .ok (.getfield 175, 3) := by decide +kernel
theorem dX8_decide_88 : decode cX8_decide 88 = .ok (.iload 7, 2) := by decide +kernel
theorem dX8_decide_90 : decode cX8_decide 90 = .ok (.dup2, 1) := by decide +kernel
theorem dX8_decide_91 : decode cX8_decide 91 = .ok (.iaload, 1) := by decide +kernel
theorem dX8_decide_92 : decode cX8_decide 92 = .ok (.iconst 1, 1) := by decide +kernel
theorem dX8_decide_93 : decode cX8_decide 93 = .ok (.iadd, 1) := by decide +kernel
theorem dX8_decide_94 : decode cX8_decide 94 = .ok (.iastore, 1) := by decide +kernel
theorem dX8_decide_95 : decode cX8_decide 95 = .ok (.aload_n 0, 1) := by decide +kernel
theorem dX8_decide_96 : decode cX8_decide 96 = .ok (.getfield 10, 3) := by decide +kernel
theorem dX8_decide_99 : decode cX8_decide 99 = .ok (.getfield 175, 3) := by decide +kernel
theorem dX8_decide_102 : decode cX8_decide 102 = .ok (.iload 8, 2) := by decide +kernel
theorem dX8_decide_104 : decode cX8_decide 104 = .ok (.dup2, 1) := by decide +kernel
theorem dX8_decide_105 : decode cX8_decide 105 = .ok (.iaload, 1) := by decide +kernel
theorem dX8_decide_106 : decode cX8_decide 106 = .ok (.iconst 1, 1) := by decide +kernel
theorem dX8_decide_107 : decode cX8_decide 107 = .ok (.iadd, 1) := by decide +kernel
theorem dX8_decide_108 : decode cX8_decide 108 = .ok (.iastore, 1) := by decide +kernel
theorem dX8_decide_109 : decode cX8_decide 109 = .ok (.iload_n 2, 1) := by decide +kernel
theorem dX8_decide_110 : decode cX8_decide 110 = .ok (.istore 9, 2) := by decide +kernel
theorem dX8_decide_112 : decode cX8_decide 112 = .ok (.iload_n 2, 1) := by decide +kernel
theorem dX8_decide_113 : decode cX8_decide 113 = .ok (.iload_n 3, 1) := by decide +kernel
theorem dX8_decide_114 : decode cX8_decide 114 = .ok (.if_icmp .eq 34, 3) := by decide +kernel
theorem dX8_decide_117 : decode cX8_decide 117 = .ok (.aload_n 0, 1) := by decide +kernel
theorem dX8_decide_118 : decode cX8_decide 118 = .ok (.lload 5, 2) := by decide +kernel
theorem dX8_decide_120 : decode cX8_decide 120 = .ok (.iload 7, 2) := by decide +kernel
theorem dX8_decide_122 : decode cX8_decide 122 = .ok (.invokestatic 168, 3) := by decide +kernel
theorem dX8_decide_125 : decode cX8_decide 125 = .ok (.iload 8, 2) := by decide +kernel
theorem dX8_decide_127 : decode cX8_decide 127 = .ok (.invokestatic 168, 3) := by decide +kernel
theorem dX8_decide_130 : decode cX8_decide 130 = .ok (.invokevirtual 178, 3) := by decide +kernel
theorem dX8_decide_133 : decode cX8_decide 133 = .ok (.ifCond .eq 12, 3) := by decide +kernel
theorem dX8_decide_136 : decode cX8_decide 136 = .ok (.iload 4, 2) := by decide +kernel
theorem dX8_decide_138 : decode cX8_decide 138 = .ok (.ifCond .eq 7, 3) := by decide +kernel
theorem dX8_decide_141 : decode cX8_decide 141 = .ok (.iconst 1, 1) := by decide +kernel
theorem dX8_decide_142 : decode cX8_decide 142 = .ok (.goto 4, 3) := by decide +kernel
theorem dX8_decide_145 : decode cX8_decide 145 = .ok (.iconst 0, 1) := by decide +kernel
theorem dX8_decide_146 : decode cX8_decide 146 = .ok (.istore 9, 2) := by decide +kernel
theorem dX8_decide_148 : decode cX8_decide 148 = .ok (.iload 9, 2) := by decide +kernel
theorem dX8_decide_150 : decode cX8_decide 150 = .ok (.ifCond .eq 19, 3) := by decide +kernel
theorem dX8_decide_153 : decode cX8_decide 153 = .ok (.aload_n 0, 1) := by decide +kernel
theorem dX8_decide_154 : decode cX8_decide 154 = .ok (.aload_n 0, 1) := by decide +kernel
theorem dX8_decide_155 : decode cX8_decide 155 = .ok (.getfield 74, 3) := by decide +kernel
theorem dX8_decide_158 : decode cX8_decide 158 = .ok (.getfield 148, 3) := by decide +kernel
theorem dX8_decide_161 : decode cX8_decide 161 = .ok (.iload_n 1, 1) := by decide +kernel
theorem dX8_decide_162 : decode cX8_decide 162 = .ok (.iaload, 1) := by decide +kernel
theorem dX8_decide_163 : decode cX8_decide 163 = .ok (.invokevirtual 182, 3) := by decide +kernel
theorem dX8_decide_166 : decode cX8_decide 166 = .ok (.goto 10, 3) := by decide +kernel
theorem dX8_decide_169 : decode cX8_decide 169 = .ok (.aload_n 0, 1) := by decide +kernel
theorem dX8_decide_170 : decode cX8_decide 170 = .ok (.iload_n 1, 1) := by decide +kernel
theorem dX8_decide_171 : decode cX8_decide 171 = .ok (.iconst 2, 1) := by decide +kernel
theorem dX8_decide_172 : decode cX8_decide 172 = .ok (.invokevirtual 185, 3) := by decide +kernel
theorem dX8_decide_175 : decode cX8_decide 175 = .ok (.pop, 1) := by decide +kernel
theorem dX8_decide_176 : decode cX8_decide 176 = .ok (.aload_n 0, 1) := by decide +kernel
theorem dX8_decide_177 : decode cX8_decide 177 = .ok (.getfield 65, 3) := by decide +kernel
theorem dX8_decide_180 : decode cX8_decide 180 = .ok (.getfield 172, 3) := by decide +kernel
theorem dX8_decide_183 : decode cX8_decide 183 = .ok (.iload_n 1, 1) := by decide +kernel
theorem dX8_decide_184 : decode cX8_decide 184 = .ok (.iaload, 1) := by decide +kernel
theorem dX8_decide_185 : decode cX8_decide 185 = .ok (.ireturn, 1) := by decide +kernel
theorem dX8_days_0 : decode cX8_days 0 = .ok (.iload_n 1, 1) := by decide +kernel
theorem dX8_days_1 : decode cX8_days 1 = .ok (.iconst 1, 1) := by decide +kernel
theorem dX8_days_2 : decode cX8_days 2 = .ok (.if_icmp .ge 10, 3) := by decide +kernel
theorem dX8_days_5 : decode cX8_days 5 = .ok (.aload_n 0, 1) := by decide +kernel
theorem dX8_days_6 : decode cX8_days 6 = .ok (.bipush (-4), 2) := by decide +kernel
theorem dX8_days_8 : decode cX8_days 8 = .ok (.invokevirtual 85, 3) := by decide +kernel
theorem dX8_days_11 : decode cX8_days 11 = .ok (.ireturn, 1) := by decide +kernel
theorem dX8_days_12 : decode cX8_days 12 = .ok (.iload_n 1, 1) := by decide +kernel
theorem dX8_days_13 : decode cX8_days 13 = .ok (.sipush 3000, 3) := by decide +kernel
theorem dX8_days_16 : decode cX8_days 16 = .ok (.aload_n 0, 1) := by decide +kernel
theorem dX8_days_17 : decode cX8_days 17 = .ok (.getfield 58, 3) := by decide +kernel
theorem dX8_days_20 : decode cX8_days 20 = .ok (.isub, 1) := by decide +kernel
theorem dX8_days_21 : decode cX8_days 21 = .ok (.if_icmp .le 10, 3) := by decide +kernel
theorem dX8_days_24 : decode cX8_days 24 = .ok (.aload_n 0, 1) := by decide +kernel
theorem dX8_days_25 : decode cX8_days 25 = .ok (.bipush (-6), 2) := by decide +kernel
theorem dX8_days_27 : decode cX8_days 27 = .ok (.invokevirtual 85, 3) := by decide +kernel
theorem dX8_days_30 : decode cX8_days 30 = .ok (.ireturn, 1) := by decide +kernel
theorem dX8_days_31 : decode cX8_days 31 = .ok (.aload_n 0, 1) := by decide +kernel
theorem dX8_days_32 : decode cX8_days 32 = .ok (.getfield 58, 3) := by decide +kernel
theorem dX8_days_35 : decode cX8_days 35 = .ok (.istore_n 2, 1) := by decide +kernel
theorem dX8_days_36 : decode cX8_days 36 = .ok (.aload_n 0, 1) := by decide +kernel
theorem dX8_days_37 : decode cX8_days 37 = .ok (.dup, 1) := by decide +kernel
theorem dX8_days_38 : decode cX8_days 38 = .ok (.getfield 58, 3) := by decide +kernel
theorem dX8_days_41 : decode cX8_days 41 = .ok (.iload_n 1, 1) := by decide +kernel
theorem dX8_days_42 : decode cX8_days 42 = .ok (.iadd, 1) := by decide +kernel
theorem dX8_days_43 : decode cX8_days 43 = .ok (.putfield 58, 3) := by decide +kernel
theorem dX8_days_46 : decode cX8_days 46 = .ok (.iconst 0, 1) := by decide +kernel
theorem dX8_days_47 : decode cX8_days 47 = .ok (.istore_n 3, 1) := by decide +kernel
theorem dX8_days_48 : decode cX8_days 48 = .ok (.iconst 0, 1) := by decide +kernel
theorem dX8_days_49 : decode cX8_days 49 = .ok (.istore 4, 2) := by decide +kernel
theorem dX8_days_51 : decode cX8_days 51 = .ok (.iload 4, 2) := by decide +kernel
theorem dX8_days_53 : decode cX8_days 53 = .ok (.aload_n 0, 1) := by decide +kernel
theorem dX8_days_54 : decode cX8_days 54 = .ok (.getfield 65, 3) := by decide +kernel
theorem dX8_days_57 : decode cX8_days 57 = .ok (.getfield 105, 3) := by decide +kernel
theorem dX8_days_60 : decode cX8_days 60 = .ok (.if_icmp .ge 33, 3) := by decide +kernel
theorem dX8_days_63 : decode cX8_days 63 = .ok (.aload_n 0, 1) := by decide +kernel
theorem dX8_days_64 : decode cX8_days 64 = .ok (.getfield 65, 3) := by decide +kernel
theorem dX8_days_67 : decode cX8_days 67 = .ok (.getfield 172, 3) := by decide +kernel
theorem dX8_days_70 : decode cX8_days 70 = .ok (.iload 4, 2) := by decide +kernel
theorem dX8_days_72 : decode cX8_days 72 = .ok (.iaload, 1) := by decide +kernel
theorem dX8_days_73 : decode cX8_days 73 = .ok (.iconst 1, 1) := by decide +kernel
theorem dX8_days_74 : decode cX8_days 74 = .ok (.if_icmp .ne 13, 3) := by decide +kernel
theorem dX8_days_77 : decode cX8_days 77 = .ok (.iload_n 3, 1) := by decide +kernel
theorem dX8_days_78 : decode cX8_days 78 = .ok (.aload_n 0, 1) := by decide +kernel
theorem dX8_days_79 : decode cX8_days 79 = .ok (.iload_n 2, 1) := by decide +kernel
theorem dX8_days_80 : decode cX8_days 80 = .ok (.iload 4, 2) := by decide +kernel
theorem dX8_days_82 : decode cX8_days 82 = .ok (.invokevirtual 188, 3) := by decide +kernel
theorem dX8_days_85 : decode cX8_days 85 = .ok (.iadd, 1) := by decide +kernel
theorem dX8_days_86 : decode cX8_days 86 = .ok (.istore_n 3, 1) := by decide +kernel
theorem dX8_days_87 : decode cX8_days 87 = .ok (.iinc 4 1, 3) := by decide +kernel
theorem dX8_days_90 : decode cX8_days 90 = .ok (.goto (-39), 3) := by decide +kernel
theorem dX8_days_93 : decode cX8_days 93 = .ok (.iload_n 3, 1) := by decide +kernel
theorem dX8_days_94 : decode cX8_days 94 = .ok (.ireturn, 1) := by decide +kernel
theorem dX8_bench_0 : decode cX8_bench 0 = .ok (.iload_n 1, 1) := by decide +kernel
theorem dX8_bench_1 : decode cX8_bench 1 = .ok (.invokestatic 191, 3) := by decide +kernel
theorem dX8_bench_4 : decode cX8_bench 4 = .ok (.ifCond .eq 14, 3) := by decide +kernel
theorem dX8_bench_7 : decode cX8_bench 7 = .ok (.iload_n 2, 1) := by decide +kernel
theorem dX8_bench_8 : decode cX8_bench 8 = .ok (.ifCond .ne 16, 3) := by decide +kernel
theorem dX8_bench_11 : decode cX8_bench 11 = .ok (.iload_n 3, 1) := by decide +kernel
theorem dX8_bench_12 : decode cX8_bench 12 = .ok (.invokestatic 81, 3) := by decide +kernel
theorem dX8_bench_15 : decode cX8_bench 15 = .ok (.ifCond .ne 9, 3) := by decide +kernel
theorem dX8_bench_18 : decode cX8_bench 18 = .ok (.aload_n 0, 1) := by decide +kernel
theorem dX8_bench_19 : decode cX8_bench 19 = .ok (.iconst (-1), 1) := by decide +kernel
theorem dX8_bench_20 : decode cX8_bench 20 = .ok (.invokevirtual 85, 3) := by decide +kernel
theorem dX8_bench_23 : decode cX8_bench 23 = .ok (.ireturn, 1) := by decide +kernel
theorem dX8_bench_24 : decode cX8_bench 24 = .ok (.iload_n 2, 1) := by decide +kernel
theorem dX8_bench_25 : decode cX8_bench 25 = .ok (.ifCond .eq 15, 3) := by decide +kernel
theorem dX8_bench_28 : decode cX8_bench 28 = .ok (.iload_n 2, 1) := by decide +kernel
theorem dX8_bench_29 : decode cX8_bench 29 = .ok (.iconst 1, 1) := by decide +kernel
theorem dX8_bench_30 : decode cX8_bench 30 = .ok (.if_icmp .eq 10, 3) := by decide +kernel
theorem dX8_bench_33 : decode cX8_bench 33 = .ok (.aload_n 0, 1) := by decide +kernel
theorem dX8_bench_34 : decode cX8_bench 34 = .ok (.bipush (-2), 2) := by decide +kernel
theorem dX8_bench_36 : decode cX8_bench 36 = .ok (.invokevirtual 85, 3) := by decide +kernel
theorem dX8_bench_39 : decode cX8_bench 39 = .ok (.ireturn, 1) := by decide +kernel
theorem dX8_bench_40 : decode cX8_bench 40 = .ok (.iload_n 3, 1) := by decide +kernel
theorem dX8_bench_41 : decode cX8_bench 41 = .ok (.ifCond .ge 10, 3) := by decide +kernel
theorem dX8_bench_44 : decode cX8_bench 44 = .ok (.aload_n 0, 1) := by decide +kernel
theorem dX8_bench_45 : decode cX8_bench 45 = .ok (.bipush (-4), 2) := by decide +kernel
theorem dX8_bench_47 : decode cX8_bench 47 = .ok (.invokevirtual 85, 3) := by decide +kernel
theorem dX8_bench_50 : decode cX8_bench 50 = .ok (.ireturn, 1) := by decide +kernel
theorem dX8_bench_51 : decode cX8_bench 51 = .ok (.iload_n 3, 1) := by decide +kernel
theorem dX8_bench_52 : decode cX8_bench 52 = .ok (.sipush 10000, 3) := by decide +kernel
theorem dX8_bench_55 : decode cX8_bench 55 = .ok (.if_icmp .le 10, 3) := by decide +kernel
theorem dX8_bench_58 : decode cX8_bench 58 = .ok (.aload_n 0, 1) := by decide +kernel
theorem dX8_bench_59 : decode cX8_bench 59 = .ok (.bipush (-6), 2) := by decide +kernel
theorem dX8_bench_61 : decode cX8_bench 61 = .ok (.invokevirtual 85, 3) := by decide +kernel
theorem dX8_bench_64 : decode cX8_bench 64 = .ok (.ireturn, 1) := by decide +kernel
theorem dX8_bench_65 : decode cX8_bench 65 = .ok (.iload_n 2, 1) := by decide +kernel
theorem dX8_bench_66 : decode cX8_bench 66 = .ok (.ifCond .ne 13, 3) := by decide +kernel
theorem dX8_bench_69 : decode cX8_bench 69 = .ok (.aload_n 0, 1) := by decide +kernel
theorem dX8_bench_70 : decode cX8_bench 70 = .ok (.getfield 19, 3) := by decide +kernel
theorem dX8_bench_73 : decode cX8_bench 73 = .ok (.getfield 194, 3) := by decide +kernel
theorem dX8_bench_76 : decode cX8_bench 76 = .ok (.goto 10, 3) := by decide +kernel
theorem dX8_bench_79 : decode cX8_bench 79 = .ok (.aload_n 0, 1) := by decide +kernel
theorem dX8_bench_80 : decode cX8_bench 80 = .ok (.getfield 19, 3) := by decide +kernel
theorem dX8_bench_83 : decode cX8_bench 83 = .ok (.getfield 197, 3) := by decide +kernel
theorem dX8_bench_86 : decode cX8_bench 86 = .ok (.astore 4, 2) := by decide +kernel
theorem dX8_bench_88 : decode cX8_bench 88 = .ok (.aload 4, 2) := by decide +kernel
theorem dX8_bench_90 : decode cX8_bench 90 = .ok (.iload_n 1, 1) := by decide +kernel
theorem dX8_bench_91 : decode cX8_bench 91 = .ok (.iaload, 1) := by decide +kernel
theorem dX8_bench_92 : decode cX8_bench 92 = .ok (.istore 5, 2) := by decide +kernel
theorem dX8_bench_94 : decode cX8_bench 94 = .ok (.aload 4, 2) := by decide +kernel
theorem dX8_bench_96 : decode cX8_bench 96 = .ok (.iload_n 1, 1) := by decide +kernel
theorem dX8_bench_97 : decode cX8_bench 97 = .ok (.iload_n 3, 1) := by decide +kernel
theorem dX8_bench_98 : decode cX8_bench 98 = .ok (.iastore, 1) := by decide +kernel
theorem dX8_bench_99 : decode cX8_bench 99 = .ok (.iload 5, 2) := by decide +kernel
theorem dX8_bench_101 : decode cX8_bench 101 = .ok (.ireturn, 1) := by decide +kernel
theorem dX8_measure_0 : decode cX8_measure 0 = .ok (.iload_n 1, 1) := by decide +kernel
theorem dX8_measure_1 : decode cX8_measure 1 = .ok (.invokestatic 191, 3) := by decide +kernel
theorem dX8_measure_4 : decode cX8_measure 4 = .ok (.ifCond .eq 11, 3) := by decide +kernel
theorem dX8_measure_7 : decode cX8_measure 7 = .ok (.aload_n 0, 1) := by decide +kernel
theorem dX8_measure_8 : decode cX8_measure 8 = .ok (.iload_n 2, 1) := by decide +kernel
theorem dX8_measure_9 : decode cX8_measure 9 = .ok (.invokevirtual 113, 3) := by decide +kernel
theorem dX8_measure_12 : decode cX8_measure 12 = .ok (.ifCond .ne 9, 3) := by decide +kernel
theorem dX8_measure_15 : decode cX8_measure 15 = .ok (.aload_n 0, 1) := by decide +kernel
theorem dX8_measure_16 : decode cX8_measure 16 = .ok (.iconst (-1), 1) := by decide +kernel
theorem dX8_measure_17 : decode cX8_measure 17 = .ok (.invokevirtual 85, 3) := by decide +kernel
theorem dX8_measure_20 : decode cX8_measure 20 = .ok (.ireturn, 1) := by decide +kernel
theorem dX8_measure_21 : decode cX8_measure 21 = .ok (.aload_n 0, 1) := by decide +kernel
theorem dX8_measure_22 : decode cX8_measure 22 = .ok (.getfield 65, 3) := by decide +kernel
theorem dX8_measure_25 : decode cX8_measure 25 = .ok (.getfield 200, 3) := by decide +kernel
theorem dX8_measure_28 : decode cX8_measure 28 = .ok (.iload_n 2, 1) := by decide +kernel
theorem dX8_measure_29 : decode cX8_measure 29 = .ok (.iaload, 1) := by decide +kernel
theorem dX8_measure_30 : decode cX8_measure 30 = .ok (.aload_n 0, 1) := by decide +kernel
theorem dX8_measure_31 : decode cX8_measure 31 = .ok (.getfield 19, 3) := by decide +kernel
theorem dX8_measure_34 : decode cX8_measure 34 = .ok (.getfield 194, 3) := by decide +kernel
theorem dX8_measure_37 : decode cX8_measure 37 = .ok (.iload_n 1, 1) := by decide +kernel
theorem dX8_measure_38 : decode cX8_measure 38 = .ok (.iaload, 1) := by decide +kernel
theorem dX8_measure_39 : decode cX8_measure 39 = .ok (.if_icmp .eq 10, 3) := by decide +kernel
theorem dX8_measure_42 : decode cX8_measure 42 = .ok (.aload_n 0, 1) := by decide +kernel
theorem dX8_measure_43 : decode cX8_measure 43 = .ok (.bipush (-3), 2) := by decide +kernel
theorem dX8_measure_45 : decode cX8_measure 45 = .ok (.invokevirtual 85, 3) := by decide +kernel
theorem dX8_measure_48 : decode cX8_measure 48 = .ok (.ireturn, 1) := by decide +kernel
theorem dX8_measure_49 : decode cX8_measure 49 = .ok (.iload 4, 2) := by decide +kernel
theorem dX8_measure_51 : decode cX8_measure 51 = .ok (.ifCond .ge 10, 3) := by decide +kernel
theorem dX8_measure_54 : decode cX8_measure 54 = .ok (.aload_n 0, 1) := by decide +kernel
theorem dX8_measure_55 : decode cX8_measure 55 = .ok (.bipush (-4), 2) := by decide +kernel
theorem dX8_measure_57 : decode cX8_measure 57 = .ok (.invokevirtual 85, 3) := by decide +kernel
theorem dX8_measure_60 : decode cX8_measure 60 = .ok (.ireturn, 1) := by decide +kernel
theorem dX8_measure_61 : decode cX8_measure 61 = .ok (.iload 4, 2) := by decide +kernel
theorem dX8_measure_63 : decode cX8_measure 63 = .ok (.sipush 9999, 3) := by decide +kernel
theorem dX8_measure_66 : decode cX8_measure 66 = .ok (.if_icmp .gt 16, 3) := by decide +kernel
theorem dX8_measure_69 : decode cX8_measure 69 = .ok (.aload_n 0, 1) := by decide +kernel
theorem dX8_measure_70 : decode cX8_measure 70 = .ok (.getfield 26, 3) := by decide +kernel
theorem dX8_measure_73 : decode cX8_measure 73 = .ok (.getfield 201, 3) := by decide +kernel
theorem dX8_measure_76 : decode cX8_measure 76 = .ok (.sipush 200, 3) := by decide +kernel
theorem dX8_measure_79 : decode cX8_measure 79 = .ok (.if_icmp .lt 10, 3) := by decide +kernel
theorem dX8_measure_82 : decode cX8_measure 82 = .ok (.aload_n 0, 1) := by decide +kernel
theorem dX8_measure_83 : decode cX8_measure 83 = .ok (.bipush (-6), 2) := by decide +kernel
theorem dX8_measure_85 : decode cX8_measure 85 = .ok (.invokevirtual 85, 3) := by decide +kernel
theorem dX8_measure_88 : decode cX8_measure 88 = .ok (.ireturn, 1) := by decide +kernel
theorem dX8_measure_89 : decode cX8_measure 89 = .ok (.aload_n 0, 1) := by decide +kernel
theorem dX8_measure_90 : decode cX8_measure 90 = .ok (.getfield 26, 3) := by decide +kernel
theorem dX8_measure_93 : decode cX8_measure 93 = .ok (.iload_n 1, 1) := by decide +kernel
theorem dX8_measure_94 : decode cX8_measure 94 = .ok (.iload_n 2, 1) := by decide +kernel
theorem dX8_measure_95 : decode cX8_measure 95 = .ok (.iload_n 3, 1) := by decide +kernel
theorem dX8_measure_96 : decode cX8_measure 96 = .ok (.iload 4, 2) := by decide +kernel
theorem dX8_measure_98 : decode cX8_measure 98 = .ok (.invokevirtual 202, 3) := by decide +kernel
theorem dX8_measure_101 : decode cX8_measure 101 = .ok (.aload_n 0, 1) := by decide +kernel
theorem dX8_measure_102 : decode cX8_measure 102 = .ok (.getfield 26, 3) := by decide +kernel
theorem dX8_measure_105 : decode cX8_measure 105 = .ok (.getfield 201, 3) := by decide +kernel
theorem dX8_measure_108 : decode cX8_measure 108 = .ok (.ireturn, 1) := by decide +kernel
theorem dX8_saved_0 : decode cX8_saved 0 = .ok (.iload_n 1, 1) := by decide +kernel
theorem dX8_saved_1 : decode cX8_saved 1 = .ok (.invokestatic 191, 3) := by decide +kernel
theorem dX8_saved_4 : decode cX8_saved 4 = .ok (.ifCond .eq 11, 3) := by decide +kernel
theorem dX8_saved_7 : decode cX8_saved 7 = .ok (.aload_n 0, 1) := by decide +kernel
theorem dX8_saved_8 : decode cX8_saved 8 = .ok (.iload_n 2, 1) := by decide +kernel
theorem dX8_saved_9 : decode cX8_saved 9 = .ok (.invokevirtual 113, 3) := by decide +kernel
theorem dX8_saved_12 : decode cX8_saved 12 = .ok (.ifCond .ne 9, 3) := by decide +kernel
theorem dX8_saved_15 : decode cX8_saved 15 = .ok (.aload_n 0, 1) := by decide +kernel
theorem dX8_saved_16 : decode cX8_saved 16 = .ok (.iconst (-1), 1) := by decide +kernel
theorem dX8_saved_17 : decode cX8_saved 17 = .ok (.invokevirtual 85, 3) := by decide +kernel
theorem dX8_saved_20 : decode cX8_saved 20 = .ok (.ireturn, 1) := by decide +kernel
theorem dX8_saved_21 : decode cX8_saved 21 = .ok (.iload_n 3, 1) := by decide +kernel
theorem dX8_saved_22 : decode cX8_saved 22 = .ok (.ifCond .eq 15, 3) := by decide +kernel
theorem dX8_saved_25 : decode cX8_saved 25 = .ok (.iload_n 3, 1) := by decide +kernel
theorem dX8_saved_26 : decode cX8_saved 26 = .ok (.iconst 1, 1) := by decide +kernel
theorem dX8_saved_27 : decode cX8_saved 27 = .ok (.if_icmp .eq 10, 3) := by decide +kernel
theorem dX8_saved_30 : decode cX8_saved 30 = .ok (.aload_n 0, 1) := by decide +kernel
theorem dX8_saved_31 : decode cX8_saved 31 = .ok (.bipush (-2), 2) := by decide +kernel
theorem dX8_saved_33 : decode cX8_saved 33 = .ok (.invokevirtual 85, 3) := by decide +kernel
theorem dX8_saved_36 : decode cX8_saved 36 = .ok (.ireturn, 1) := by decide +kernel
theorem dX8_saved_37 : decode cX8_saved 37 = .ok (.aload_n 0, 1) := by decide +kernel
theorem dX8_saved_38 : decode cX8_saved 38 = .ok (.getfield 33, 3) := by decide +kernel
theorem dX8_saved_41 : decode cX8_saved 41 = .ok (.aload_n 0, 1) := by decide +kernel
theorem dX8_saved_42 : decode cX8_saved 42 = .ok (.getfield 26, 3) := by decide +kernel
theorem dX8_saved_45 : decode cX8_saved 45 = .ok (.aload_n 0, 1) := by decide +kernel
theorem dX8_saved_46 : decode cX8_saved 46 = .ok (.getfield 74, 3) := by decide +kernel
theorem dX8_saved_49 : decode cX8_saved 49 = .ok (.aload_n 0, 1) := by decide +kernel
theorem dX8_saved_50 : decode cX8_saved 50 = .ok (.getfield 74, 3) := by decide +kernel
theorem dX8_saved_53 : decode cX8_saved 53 = .ok (.getfield 148, 3) := by decide +kernel
theorem dX8_saved_56 : decode cX8_saved 56 = .ok (.iload_n 2, 1) := by decide +kernel
theorem dX8_saved_57 : decode cX8_saved 57 = .ok (.iaload, 1) := by decide +kernel
theorem dX8_saved_58 : decode cX8_saved 58 = .ok (.invokevirtual 205, 3) := by decide +kernel
theorem dX8_saved_61 : decode cX8_saved 61 = .ok (.iload_n 3, 1) := by decide +kernel
theorem dX8_saved_62 : decode cX8_saved 62 = .ok (.ifCond .ne 14, 3) := by decide +kernel
theorem dX8_saved_65 : decode cX8_saved 65 = .ok (.aload_n 0, 1) := by decide +kernel
theorem dX8_saved_66 : decode cX8_saved 66 = .ok (.getfield 33, 3) := by decide +kernel
theorem dX8_saved_69 : decode cX8_saved 69 = .ok (.iload_n 1, 1) := by decide +kernel
theorem dX8_saved_70 : decode cX8_saved 70 = .ok (.invokevirtual 209, 3) := by decide +kernel
theorem dX8_saved_73 : decode cX8_saved 73 = .ok (.goto 11, 3) := by decide +kernel
theorem dX8_saved_76 : decode cX8_saved 76 = .ok (.aload_n 0, 1) := by decide +kernel
theorem dX8_saved_77 : decode cX8_saved 77 = .ok (.getfield 33, 3) := by decide +kernel
theorem dX8_saved_80 : decode cX8_saved 80 = .ok (.iload_n 1, 1) := by decide +kernel
theorem dX8_saved_81 : decode cX8_saved 81 = .ok (.invokevirtual 212, 3) := by decide +kernel
theorem dX8_saved_84 : decode cX8_saved 84 = .ok (.ireturn, 1) := by decide +kernel
theorem dX8_harm_0 : decode cX8_harm 0 = .ok (.aload_n 0, 1) := by decide +kernel
theorem dX8_harm_1 : decode cX8_harm 1 = .ok (.iload_n 1, 1) := by decide +kernel
theorem dX8_harm_2 : decode cX8_harm 2 = .ok (.invokevirtual 113, 3) := by decide +kernel
theorem dX8_harm_5 : decode cX8_harm 5 = .ok (.ifCond .ne 9, 3) := by decide +kernel
theorem dX8_harm_8 : decode cX8_harm 8 = .ok (.aload_n 0, 1) := by decide +kernel
theorem dX8_harm_9 : decode cX8_harm 9 = .ok (.iconst (-1), 1) := by decide +kernel
theorem dX8_harm_10 : decode cX8_harm 10 = .ok (.invokevirtual 85, 3) := by decide +kernel
theorem dX8_harm_13 : decode cX8_harm 13 = .ok (.ireturn, 1) := by decide +kernel
theorem dX8_harm_14 : decode cX8_harm 14 = .ok (.iload_n 2, 1) := by decide +kernel
theorem dX8_harm_15 : decode cX8_harm 15 = .ok (.ifCond .ge 10, 3) := by decide +kernel
theorem dX8_harm_18 : decode cX8_harm 18 = .ok (.aload_n 0, 1) := by decide +kernel
theorem dX8_harm_19 : decode cX8_harm 19 = .ok (.bipush (-4), 2) := by decide +kernel
theorem dX8_harm_21 : decode cX8_harm 21 = .ok (.invokevirtual 85, 3) := by decide +kernel
theorem dX8_harm_24 : decode cX8_harm 24 = .ok (.ireturn, 1) := by decide +kernel
theorem dX8_harm_25 : decode cX8_harm 25 = .ok (.iload_n 2, 1) := by decide +kernel
theorem dX8_harm_26 : decode cX8_harm 26 = .ok (.ldc 215, 2) := by decide +kernel
theorem dX8_harm_28 : decode cX8_harm 28 = .ok (.if_icmp .le 10, 3) := by decide +kernel
theorem dX8_harm_31 : decode cX8_harm 31 = .ok (.aload_n 0, 1) := by decide +kernel
theorem dX8_harm_32 : decode cX8_harm 32 = .ok (.bipush (-6), 2) := by decide +kernel
theorem dX8_harm_34 : decode cX8_harm 34 = .ok (.invokevirtual 85, 3) := by decide +kernel
theorem dX8_harm_37 : decode cX8_harm 37 = .ok (.ireturn, 1) := by decide +kernel
theorem dX8_harm_38 : decode cX8_harm 38 = .ok (.aload_n 0, 1) := by decide +kernel
theorem dX8_harm_39 : decode cX8_harm 39 = .ok (.getfield 65, 3) := by decide +kernel
theorem dX8_harm_42 : decode cX8_harm 42 = .ok (.getfield 216, 3) := by decide +kernel
theorem dX8_harm_45 : decode cX8_harm 45 = .ok (.iload_n 1, 1) := by decide +kernel
theorem dX8_harm_46 : decode cX8_harm 46 = .ok (.iaload, 1) := by decide +kernel
theorem dX8_harm_47 : decode cX8_harm 47 = .ok (.istore_n 3, 1) := by decide +kernel
theorem dX8_harm_48 : decode cX8_harm 48 = .ok (.aload_n 0, 1) := by decide +kernel
theorem dX8_harm_49 : decode cX8_harm 49 = .ok (.getfield 65, 3) := by decide +kernel
theorem dX8_harm_52 : decode cX8_harm 52 = .ok (.getfield 216, 3) := by decide +kernel
theorem dX8_harm_55 : decode cX8_harm 55 = .ok (.iload_n 1, 1) := by decide +kernel
theorem dX8_harm_56 : decode cX8_harm 56 = .ok (.iload_n 2, 1) := by decide +kernel
theorem dX8_harm_57 : decode cX8_harm 57 = .ok (.iastore, 1) := by decide +kernel
theorem dX8_harm_58 : decode cX8_harm 58 = .ok (.iload_n 3, 1) := by decide +kernel
theorem dX8_harm_59 : decode cX8_harm 59 = .ok (.ireturn, 1) := by decide +kernel
theorem dX8_worth_0 : decode cX8_worth 0 = .ok (.aload_n 0, 1) := by decide +kernel
theorem dX8_worth_1 : decode cX8_worth 1 = .ok (.iload_n 1, 1) := by decide +kernel
theorem dX8_worth_2 : decode cX8_worth 2 = .ok (.invokevirtual 113, 3) := by decide +kernel
theorem dX8_worth_5 : decode cX8_worth 5 = .ok (.ifCond .ne 9, 3) := by decide +kernel
theorem dX8_worth_8 : decode cX8_worth 8 = .ok (.aload_n 0, 1) := by decide +kernel
theorem dX8_worth_9 : decode cX8_worth 9 = .ok (.iconst (-1), 1) := by decide +kernel
theorem dX8_worth_10 : decode cX8_worth 10 = .ok (.invokevirtual 85, 3) := by decide +kernel
theorem dX8_worth_13 : decode cX8_worth 13 = .ok (.ireturn, 1) := by decide +kernel
theorem dX8_worth_14 : decode cX8_worth 14 = .ok (.aload_n 0, 1) := by decide +kernel
theorem dX8_worth_15 : decode cX8_worth 15 = .ok (.aload_n 0, 1) := by decide +kernel
theorem dX8_worth_16 : decode cX8_worth 16 = .ok (.getfield 74, 3) := by decide +kernel
theorem dX8_worth_19 : decode cX8_worth 19 = .ok (.aload_n 0, 1) := by decide +kernel
theorem dX8_worth_20 : decode cX8_worth 20 = .ok (.getfield 74, 3) := by decide +kernel
theorem dX8_worth_23 : decode cX8_worth 23 = .ok (.getfield 148, 3) := by decide +kernel
theorem dX8_worth_26 : decode cX8_worth 26 = .ok (.iload_n 1, 1) := by decide +kernel
theorem dX8_worth_27 : decode cX8_worth 27 = .ok (.iaload, 1) := by decide +kernel
theorem dX8_worth_28 : decode cX8_worth 28 = .ok (.invokevirtual 219, 3) := by decide +kernel
theorem dX8_worth_31 : decode cX8_worth 31 = .ok (.ireturn, 1) := by decide +kernel
theorem dX8_rule_0 : decode cX8_rule 0 = .ok (.iload_n 1, 1) := by decide +kernel
theorem dX8_rule_1 : decode cX8_rule 1 = .ok (.aload_n 0, 1) := by decide +kernel
theorem dX8_rule_2 : decode cX8_rule 2 = .ok (.getfield 58, 3) := by decide +kernel
theorem dX8_rule_5 : decode cX8_rule 5 = .ok (.if_icmp .lt 17, 3) := by decide +kernel
theorem dX8_rule_8 : decode cX8_rule 8 = .ok (.iload_n 2, 1) := by decide +kernel
theorem dX8_rule_9 : decode cX8_rule 9 = .ok (.ifCond .lt 13, 3) := by decide +kernel
theorem dX8_rule_12 : decode cX8_rule 12 = .ok (.iload_n 3, 1) := by decide +kernel
theorem dX8_rule_13 : decode cX8_rule 13 = .ok (.ifCond .lt 9, 3) := by decide +kernel
theorem dX8_rule_16 : decode cX8_rule 16 = .ok (.iload 4, 2) := by decide +kernel
theorem dX8_rule_18 : decode cX8_rule 18 = .ok (.iconst 1, 1) := by decide +kernel
theorem dX8_rule_19 : decode cX8_rule 19 = .ok (.if_icmp .ge 10, 3) := by decide +kernel
theorem dX8_rule_22 : decode cX8_rule 22 = .ok (.aload_n 0, 1) := by decide +kernel
theorem dX8_rule_23 : decode cX8_rule 23 = .ok (.bipush (-4), 2) := by decide +kernel
theorem dX8_rule_25 : decode cX8_rule 25 = .ok (.invokevirtual 85, 3) := by decide +kernel
theorem dX8_rule_28 : decode cX8_rule 28 = .ok (.ireturn, 1) := by decide +kernel
theorem dX8_rule_29 : decode cX8_rule 29 = .ok (.iload_n 1, 1) := by decide +kernel
theorem dX8_rule_30 : decode cX8_rule 30 = .ok (.sipush 3000, 3) := by decide +kernel
theorem dX8_rule_33 : decode cX8_rule 33 = .ok (.if_icmp .gt 21, 3) := by decide +kernel
theorem dX8_rule_36 : decode cX8_rule 36 = .ok (.iload_n 2, 1) := by decide +kernel
theorem dX8_rule_37 : decode cX8_rule 37 = .ok (.bipush 100, 2) := by decide +kernel
theorem dX8_rule_39 : decode cX8_rule 39 = .ok (.if_icmp .gt 15, 3) := by decide +kernel
theorem dX8_rule_42 : decode cX8_rule 42 = .ok (.iload_n 3, 1) := by decide +kernel
theorem dX8_rule_43 : decode cX8_rule 43 = .ok (.ldc 215, 2) := by decide +kernel
theorem dX8_rule_45 : decode cX8_rule 45 = .ok (.if_icmp .gt 9, 3) := by decide +kernel
theorem dX8_rule_48 : decode cX8_rule 48 = .ok (.iload 4, 2) := by decide +kernel
theorem dX8_rule_50 : decode cX8_rule 50 = .ok (.iconst 5, 1) := by decide +kernel
theorem dX8_rule_51 : decode cX8_rule 51 = .ok (.if_icmp .le 10, 3) := by decide +kernel
theorem dX8_rule_54 : decode cX8_rule 54 = .ok (.aload_n 0, 1) := by decide +kernel
theorem dX8_rule_55 : decode cX8_rule 55 = .ok (.bipush (-6), 2) := by decide +kernel
theorem dX8_rule_57 : decode cX8_rule 57 = .ok (.invokevirtual 85, 3) := by decide +kernel
theorem dX8_rule_60 : decode cX8_rule 60 = .ok (.ireturn, 1) := by decide +kernel
theorem dX8_rule_61 : decode cX8_rule 61 = .ok (.aload_n 0, 1) := by decide +kernel
theorem dX8_rule_62 : decode cX8_rule 62 = .ok (.getfield 40, 3) := by decide +kernel
theorem dX8_rule_65 : decode cX8_rule 65 = .ok (.getfield 223, 3) := by decide +kernel
theorem dX8_rule_68 : decode cX8_rule 68 = .ok (.bipush 20, 2) := by decide +kernel
theorem dX8_rule_70 : decode cX8_rule 70 = .ok (.if_icmp .lt 10, 3) := by decide +kernel
theorem dX8_rule_73 : decode cX8_rule 73 = .ok (.aload_n 0, 1) := by decide +kernel
theorem dX8_rule_74 : decode cX8_rule 74 = .ok (.bipush (-6), 2) := by decide +kernel
theorem dX8_rule_76 : decode cX8_rule 76 = .ok (.invokevirtual 85, 3) := by decide +kernel
theorem dX8_rule_79 : decode cX8_rule 79 = .ok (.ireturn, 1) := by decide +kernel
theorem dX8_rule_80 : decode cX8_rule 80 = .ok (.aload_n 0, 1) := by decide +kernel
theorem dX8_rule_81 : decode cX8_rule 81 = .ok (.getfield 40, 3) := by decide +kernel
theorem dX8_rule_84 : decode cX8_rule 84 = .ok (.iload_n 1, 1) := by decide +kernel
theorem dX8_rule_85 : decode cX8_rule 85 = .ok (.iload_n 2, 1) := by decide +kernel
theorem dX8_rule_86 : decode cX8_rule 86 = .ok (.iload_n 3, 1) := by decide +kernel
theorem dX8_rule_87 : decode cX8_rule 87 = .ok (.iload 4, 2) := by decide +kernel
theorem dX8_rule_89 : decode cX8_rule 89 = .ok (.invokevirtual 224, 3) := by decide +kernel
theorem dX8_rule_92 : decode cX8_rule 92 = .ok (.ireturn, 1) := by decide +kernel
theorem dX8_ruleOf_0 : decode cX8_ruleOf 0 = .ok (.aload_n 0, 1) := by decide +kernel
theorem dX8_ruleOf_1 : decode cX8_ruleOf 1 = .ok (.iload_n 1, 1) := by decide +kernel
theorem dX8_ruleOf_2 : decode cX8_ruleOf 2 = .ok (.invokevirtual 113, 3) := by decide +kernel
theorem dX8_ruleOf_5 : decode cX8_ruleOf 5 = .ok (.ifCond .ne 9, 3) := by decide +kernel
theorem dX8_ruleOf_8 : decode cX8_ruleOf 8 = .ok (.aload_n 0, 1) := by decide +kernel
theorem dX8_ruleOf_9 : decode cX8_ruleOf 9 = .ok (.iconst (-1), 1) := by decide +kernel
theorem dX8_ruleOf_10 : decode cX8_ruleOf 10 = .ok (.invokevirtual 85, 3) := by decide +kernel
theorem dX8_ruleOf_13 : decode cX8_ruleOf 13 = .ok (.ireturn, 1) := by decide +kernel
theorem dX8_ruleOf_14 : decode cX8_ruleOf 14 = .ok (.aload_n 0, 1) := by decide +kernel
theorem dX8_ruleOf_15 : decode cX8_ruleOf 15 = .ok (.iload_n 1, 1) := by decide +kernel
theorem dX8_ruleOf_16 : decode cX8_ruleOf 16 = .ok (.invokevirtual 227, 3) := by decide +kernel
theorem dX8_ruleOf_19 : decode cX8_ruleOf 19 = .ok (.ireturn, 1) := by decide +kernel
theorem dX8_work_0 : decode cX8_work 0 = .ok (.iload_n 1, 1) := by decide +kernel
theorem dX8_work_1 : decode cX8_work 1 = .ok (.invokestatic 81, 3) := by decide +kernel
theorem dX8_work_4 : decode cX8_work 4 = .ok (.ifCond .eq 10, 3) := by decide +kernel
theorem dX8_work_7 : decode cX8_work 7 = .ok (.iload_n 2, 1) := by decide +kernel
theorem dX8_work_8 : decode cX8_work 8 = .ok (.invokestatic 102, 3) := by decide +kernel
theorem dX8_work_11 : decode cX8_work 11 = .ok (.ifCond .ne 9, 3) := by decide +kernel
theorem dX8_work_14 : decode cX8_work 14 = .ok (.aload_n 0, 1) := by decide +kernel
theorem dX8_work_15 : decode cX8_work 15 = .ok (.iconst (-1), 1) := by decide +kernel
theorem dX8_work_16 : decode cX8_work 16 = .ok (.invokevirtual 85, 3) := by decide +kernel
theorem dX8_work_19 : decode cX8_work 19 = .ok (.ireturn, 1) := by decide +kernel
theorem dX8_work_20 : decode cX8_work 20 = .ok (.aload_n 0, 1) := by decide +kernel
theorem dX8_work_21 : decode cX8_work 21 = .ok (.getfield 47, 3) := by decide +kernel
theorem dX8_work_24 : decode cX8_work 24 = .ok (.getfield 230, 3) := by decide +kernel
theorem dX8_work_27 : decode cX8_work 27 = .ok (.bipush 20, 2) := by decide +kernel
theorem dX8_work_29 : decode cX8_work 29 = .ok (.if_icmp .lt 10, 3) := by decide +kernel
theorem dX8_work_32 : decode cX8_work 32 = .ok (.aload_n 0, 1) := by decide +kernel
theorem dX8_work_33 : decode cX8_work 33 = .ok (.bipush (-6), 2) := by decide +kernel
theorem dX8_work_35 : decode cX8_work 35 = .ok (.invokevirtual 85, 3) := by decide +kernel
theorem dX8_work_38 : decode cX8_work 38 = .ok (.ireturn, 1) := by decide +kernel
theorem dX8_work_39 : decode cX8_work 39 = .ok (.aload_n 0, 1) := by decide +kernel
theorem dX8_work_40 : decode cX8_work 40 = .ok (.getfield 65, 3) := by decide +kernel
theorem dX8_work_43 : decode cX8_work 43 = .ok (.iload_n 1, 1) := by decide +kernel
theorem dX8_work_44 : decode cX8_work 44 = .ok (.iload_n 2, 1) := by decide +kernel
theorem dX8_work_45 : decode cX8_work 45 = .ok (.aload_n 0, 1) := by decide +kernel
theorem dX8_work_46 : decode cX8_work 46 = .ok (.getfield 51, 3) := by decide +kernel
theorem dX8_work_49 : decode cX8_work 49 = .ok (.iconst 0, 1) := by decide +kernel
theorem dX8_work_50 : decode cX8_work 50 = .ok (.iaload, 1) := by decide +kernel
theorem dX8_work_51 : decode cX8_work 51 = .ok (.invokevirtual 231, 3) := by decide +kernel
theorem dX8_work_54 : decode cX8_work 54 = .ok (.istore_n 3, 1) := by decide +kernel
theorem dX8_work_55 : decode cX8_work 55 = .ok (.aload_n 0, 1) := by decide +kernel
theorem dX8_work_56 : decode cX8_work 56 = .ok (.getfield 47, 3) := by decide +kernel
theorem dX8_work_59 : decode cX8_work 59 = .ok (.iload_n 3, 1) := by decide +kernel
theorem dX8_work_60 : decode cX8_work 60 = .ok (.invokevirtual 235, 3) := by decide +kernel
theorem dX8_work_63 : decode cX8_work 63 = .ok (.iload_n 3, 1) := by decide +kernel
theorem dX8_work_64 : decode cX8_work 64 = .ok (.ireturn, 1) := by decide +kernel
theorem dX8_ledBack_0 : decode cX8_ledBack 0 = .ok (.iload_n 1, 1) := by decide +kernel
theorem dX8_ledBack_1 : decode cX8_ledBack 1 = .ok (.ifCond .lt 26, 3) := by decide +kernel
theorem dX8_ledBack_4 : decode cX8_ledBack 4 = .ok (.iload_n 1, 1) := by decide +kernel
theorem dX8_ledBack_5 : decode cX8_ledBack 5 = .ok (.aload_n 0, 1) := by decide +kernel
theorem dX8_ledBack_6 : decode cX8_ledBack 6 = .ok (.getfield 47, 3) := by decide +kernel
theorem dX8_ledBack_9 : decode cX8_ledBack 9 = .ok (.getfield 230, 3) := by decide +kernel
theorem dX8_ledBack_12 : decode cX8_ledBack 12 = .ok (.if_icmp .ge 15, 3) := by decide +kernel
theorem dX8_ledBack_15 : decode cX8_ledBack 15 = .ok (.aload_n 0, 1) := by decide +kernel
theorem dX8_ledBack_16 : decode cX8_ledBack 16 = .ok (.getfield 47, 3) := by decide +kernel
theorem dX8_ledBack_19 : decode cX8_ledBack 19 = .ok (.getfield 237, 3) := by decide +kernel
theorem dX8_ledBack_22 : decode cX8_ledBack 22 = .ok (.iload_n 1, 1) := by decide +kernel
theorem dX8_ledBack_23 : decode cX8_ledBack 23 = .ok (.iaload, 1) := by decide +kernel
theorem dX8_ledBack_24 : decode cX8_ledBack 24 = .ok (.goto 5, 3) := by decide +kernel
theorem dX8_ledBack_27 : decode cX8_ledBack 27 = .ok (.bipush (-9), 2) := by decide +kernel
theorem dX8_ledBack_29 : decode cX8_ledBack 29 = .ok (.ireturn, 1) := by decide +kernel
theorem dX8_reopen_0 : decode cX8_reopen 0 = .ok (.aload_n 0, 1) := by decide +kernel
theorem dX8_reopen_1 : decode cX8_reopen 1 = .ok (.iload_n 1, 1) := by decide +kernel
theorem dX8_reopen_2 : decode cX8_reopen 2 = .ok (.invokevirtual 113, 3) := by decide +kernel
theorem dX8_reopen_5 : decode cX8_reopen 5 = .ok (.ifCond .ne 9, 3) := by decide +kernel
theorem dX8_reopen_8 : decode cX8_reopen 8 = .ok (.aload_n 0, 1) := by decide +kernel
theorem dX8_reopen_9 : decode cX8_reopen 9 = .ok (.iconst (-1), 1) := by decide +kernel
theorem dX8_reopen_10 : decode cX8_reopen 10 = .ok (.invokevirtual 85, 3) := by decide +kernel
theorem dX8_reopen_13 : decode cX8_reopen 13 = .ok (.ireturn, 1) := by decide +kernel
theorem dX8_reopen_14 : decode cX8_reopen 14 = .ok (.aload_n 0, 1) := by decide +kernel
theorem dX8_reopen_15 : decode cX8_reopen 15 = .ok (.getfield 65, 3) := by decide +kernel
theorem dX8_reopen_18 : decode cX8_reopen 18 = .ok (.getfield 172, 3) := by decide +kernel
theorem dX8_reopen_21 : decode cX8_reopen 21 = .ok (.iload_n 1, 1) := by decide +kernel
theorem dX8_reopen_22 : decode cX8_reopen 22 = .ok (.iaload, 1) := by decide +kernel
theorem dX8_reopen_23 : decode cX8_reopen 23 = .ok (.iconst 2, 1) := by decide +kernel
theorem dX8_reopen_24 : decode cX8_reopen 24 = .ok (.if_icmp .ne 14, 3) := by decide +kernel
theorem dX8_reopen_27 : decode cX8_reopen 27 = .ok (.aload_n 0, 1) := by decide +kernel
theorem dX8_reopen_28 : decode cX8_reopen 28 = .ok (.getfield 47, 3) := by decide +kernel
theorem dX8_reopen_31 : decode cX8_reopen 31 = .ok (.iload_n 1, 1) := by decide +kernel
theorem dX8_reopen_32 : decode cX8_reopen 32 = .ok (.invokevirtual 240, 3) := by decide +kernel
theorem dX8_reopen_35 : decode cX8_reopen 35 = .ok (.ifCond .ne 10, 3) := by decide +kernel
theorem dX8_reopen_38 : decode cX8_reopen 38 = .ok (.aload_n 0, 1) := by decide +kernel
theorem dX8_reopen_39 : decode cX8_reopen 39 = .ok (.bipush (-3), 2) := by decide +kernel
theorem dX8_reopen_41 : decode cX8_reopen 41 = .ok (.invokevirtual 85, 3) := by decide +kernel
theorem dX8_reopen_44 : decode cX8_reopen 44 = .ok (.ireturn, 1) := by decide +kernel
theorem dX8_reopen_45 : decode cX8_reopen 45 = .ok (.aload_n 0, 1) := by decide +kernel
theorem dX8_reopen_46 : decode cX8_reopen 46 = .ok (.iload_n 1, 1) := by decide +kernel
theorem dX8_reopen_47 : decode cX8_reopen 47 = .ok (.iconst 1, 1) := by decide +kernel
theorem dX8_reopen_48 : decode cX8_reopen 48 = .ok (.invokevirtual 185, 3) := by decide +kernel
theorem dX8_reopen_51 : decode cX8_reopen 51 = .ok (.ireturn, 1) := by decide +kernel
theorem dX8_other_0 : decode cX8_other 0 = .ok (.iload_n 1, 1) := by decide +kernel
theorem dX8_other_1 : decode cX8_other 1 = .ok (.getstatic 131, 3) := by decide +kernel
theorem dX8_other_4 : decode cX8_other 4 = .ok (.iconst 0, 1) := by decide +kernel
theorem dX8_other_5 : decode cX8_other 5 = .ok (.iaload, 1) := by decide +kernel
theorem dX8_other_6 : decode cX8_other 6 = .ok (.if_icmp .lt 11, 3) := by decide +kernel
theorem dX8_other_9 : decode cX8_other 9 = .ok (.iload_n 2, 1) := by decide +kernel
theorem dX8_other_10 : decode cX8_other 10 = .ok (.ifCond .lt 7, 3) := by decide +kernel
theorem dX8_other_13 : decode cX8_other 13 = .ok (.iload_n 3, 1) := by decide +kernel
theorem dX8_other_14 : decode cX8_other 14 = .ok (.ifCond .ge 10, 3) := by decide +kernel
theorem dX8_other_17 : decode cX8_other 17 = .ok (.aload_n 0, 1) := by decide +kernel
theorem dX8_other_18 : decode cX8_other 18 = .ok (.bipush (-4), 2) := by decide +kernel
theorem dX8_other_20 : decode cX8_other 20 = .ok (.invokevirtual 85, 3) := by decide +kernel
theorem dX8_other_23 : decode cX8_other 23 = .ok (.ireturn, 1) := by decide +kernel
theorem dX8_other_24 : decode cX8_other 24 = .ok (.iload_n 1, 1) := by decide +kernel
theorem dX8_other_25 : decode cX8_other 25 = .ok (.getstatic 134, 3) := by decide +kernel
theorem dX8_other_28 : decode cX8_other 28 = .ok (.iconst 0, 1) := by decide +kernel
theorem dX8_other_29 : decode cX8_other 29 = .ok (.iaload, 1) := by decide +kernel
theorem dX8_other_30 : decode cX8_other 30 = .ok (.if_icmp .gt 15, 3) := by decide +kernel
theorem dX8_other_33 : decode cX8_other 33 = .ok (.iload_n 2, 1) := by decide +kernel
theorem dX8_other_34 : decode cX8_other 34 = .ok (.bipush 100, 2) := by decide +kernel
theorem dX8_other_36 : decode cX8_other 36 = .ok (.if_icmp .gt 9, 3) := by decide +kernel
theorem dX8_other_39 : decode cX8_other 39 = .ok (.iload_n 3, 1) := by decide +kernel
theorem dX8_other_40 : decode cX8_other 40 = .ok (.ldc 215, 2) := by decide +kernel
theorem dX8_other_42 : decode cX8_other 42 = .ok (.if_icmp .le 10, 3) := by decide +kernel
theorem dX8_other_45 : decode cX8_other 45 = .ok (.aload_n 0, 1) := by decide +kernel
theorem dX8_other_46 : decode cX8_other 46 = .ok (.bipush (-6), 2) := by decide +kernel
theorem dX8_other_48 : decode cX8_other 48 = .ok (.invokevirtual 85, 3) := by decide +kernel
theorem dX8_other_51 : decode cX8_other 51 = .ok (.ireturn, 1) := by decide +kernel
theorem dX8_other_52 : decode cX8_other 52 = .ok (.aload_n 0, 1) := by decide +kernel
theorem dX8_other_53 : decode cX8_other 53 = .ok (.getfield 78, 3) := by decide +kernel
theorem dX8_other_56 : decode cX8_other 56 = .ok (.iload_n 1, 1) := by decide +kernel
theorem dX8_other_57 : decode cX8_other 57 = .ok (.invokevirtual 137, 3) := by decide +kernel
theorem dX8_other_60 : decode cX8_other 60 = .ok (.iconst 0, 1) := by decide +kernel
theorem dX8_other_61 : decode cX8_other 61 = .ok (.istore 4, 2) := by decide +kernel
theorem dX8_other_63 : decode cX8_other 63 = .ok (.iconst 0, 1) := by decide +kernel
theorem dX8_other_64 : decode cX8_other 64 = .ok (.istore 5, 2) := by decide +kernel
theorem dX8_other_66 : decode cX8_other 66 = .ok (.iload 5, 2) := by decide +kernel
theorem dX8_other_68 : decode cX8_other 68 = .ok (.aload_n 0, 1) := by decide +kernel
theorem dX8_other_69 : decode cX8_other 69 = .ok (.getfield 65, 3) := by decide +kernel
theorem dX8_other_72 : decode cX8_other 72 = .ok (.getfield 105, 3) := by decide +kernel
theorem dX8_other_75 : decode cX8_other 75 = .ok (.if_icmp .ge 56, 3) := by decide +kernel
theorem dX8_other_78 : decode cX8_other 78 = .ok (.aload_n 0, 1) := by decide +kernel
theorem dX8_other_79 : decode cX8_other 79 = .ok (.getfield 78, 3) := by decide +kernel
theorem dX8_other_82 : decode cX8_other 82 = .ok (.getfield 148, 3) := by decide +kernel
theorem dX8_other_85 : decode cX8_other 85 = .ok (.iload 5, 2) := by decide +kernel
theorem dX8_other_87 : decode cX8_other 87 = .ok (.iaload, 1) := by decide +kernel
theorem dX8_other_88 : decode cX8_other 88 = .ok (.iload 5, 2) := by decide +kernel
theorem dX8_other_90 : decode cX8_other 90 = .ok (.if_icmp .ne 35, 3) := by decide +kernel
theorem dX8_other_93 : decode cX8_other 93 = .ok (.aload_n 0, 1) := by decide +kernel
theorem dX8_other_94 : decode cX8_other 94 = .ok (.getfield 78, 3) := by decide +kernel
theorem dX8_other_97 : decode cX8_other 97 = .ok (.iload 5, 2) := by decide +kernel
theorem dX8_other_99 : decode cX8_other 99 = .ok (.invokevirtual 243, 3) := by decide +kernel
theorem dX8_other_102 : decode cX8_other 102 = .ok (.ifCond .eq 23, 3) := by decide +kernel
theorem dX8_other_105 : decode cX8_other 105 = .ok (.iload 4, 2) := by decide +kernel
theorem dX8_other_107 : decode cX8_other 107 = .ok (.aload_n 0, 1) := by decide +kernel
theorem dX8_other_108 : decode cX8_other 108 = .ok (.aload_n 0, 1) := by decide +kernel
theorem dX8_other_109 : decode cX8_other 109 = .ok (.getfield 78, 3) := by decide +kernel
theorem dX8_other_112 : decode cX8_other 112 = .ok (.iload 5, 2) := by decide +kernel
theorem dX8_other_114 : decode cX8_other 114 = .ok (.invokevirtual 219, 3) := by decide +kernel
theorem dX8_other_117 : decode cX8_other 117 = .ok (.iload_n 2, 1) := by decide +kernel
theorem dX8_other_118 : decode cX8_other 118 = .ok (.iload_n 3, 1) := by decide +kernel
theorem dX8_other_119 : decode cX8_other 119 = .ok (.invokestatic 246, 3) := by decide +kernel
theorem dX8_other_122 : decode cX8_other 122 = .ok (.iadd, 1) := by decide +kernel
theorem dX8_other_123 : decode cX8_other 123 = .ok (.istore 4, 2) := by decide +kernel
theorem dX8_other_125 : decode cX8_other 125 = .ok (.iinc 5 1, 3) := by decide +kernel
theorem dX8_other_128 : decode cX8_other 128 = .ok (.goto (-62), 3) := by decide +kernel
theorem dX8_other_131 : decode cX8_other 131 = .ok (.iload 4, 2) := by decide +kernel
theorem dX8_other_133 : decode cX8_other 133 = .ok (.ireturn, 1) := by decide +kernel
theorem dX8_coins_0 : decode cX8_coins 0 = .ok (.aload_n 0, 1) := by decide +kernel
theorem dX8_coins_1 : decode cX8_coins 1 = .ok (.iload_n 1, 1) := by decide +kernel
theorem dX8_coins_2 : decode cX8_coins 2 = .ok (.invokevirtual 95, 3) := by decide +kernel
theorem dX8_coins_5 : decode cX8_coins 5 = .ok (.ifCond .ne 9, 3) := by decide +kernel
theorem dX8_coins_8 : decode cX8_coins 8 = .ok (.aload_n 0, 1) := by decide +kernel
theorem dX8_coins_9 : decode cX8_coins 9 = .ok (.iconst (-1), 1) := by decide +kernel
theorem dX8_coins_10 : decode cX8_coins 10 = .ok (.invokevirtual 85, 3) := by decide +kernel
theorem dX8_coins_13 : decode cX8_coins 13 = .ok (.ireturn, 1) := by decide +kernel
theorem dX8_coins_14 : decode cX8_coins 14 = .ok (.iload_n 2, 1) := by decide +kernel
theorem dX8_coins_15 : decode cX8_coins 15 = .ok (.lookupswitch 45 #[(0, 25), (1, 35)], 25) := by decide +kernel
theorem dX8_coins_40 : decode cX8_coins 40 = .ok (.aload_n 0, 1) := by decide +kernel
theorem dX8_coins_41 : decode cX8_coins 41 = .ok (.getfield 10, 3) := by decide +kernel
theorem dX8_coins_44 : decode cX8_coins 44 = .ok (.getfield 249, 3) := by decide +kernel
theorem dX8_coins_47 : decode cX8_coins 47 = .ok (.iload_n 1, 1) := by decide +kernel
theorem dX8_coins_48 : decode cX8_coins 48 = .ok (.iaload, 1) := by decide +kernel
theorem dX8_coins_49 : decode cX8_coins 49 = .ok (.ireturn, 1) := by decide +kernel
theorem dX8_coins_50 : decode cX8_coins 50 = .ok (.aload_n 0, 1) := by decide +kernel
theorem dX8_coins_51 : decode cX8_coins 51 = .ok (.getfield 10, 3) := by decide +kernel
theorem dX8_coins_54 : decode cX8_coins 54 = .ok (.getfield 252, 3) := by decide +kernel
theorem dX8_coins_57 : decode cX8_coins 57 = .ok (.iload_n 1, 1) := by decide +kernel
theorem dX8_coins_58 : decode cX8_coins 58 = .ok (.iaload, 1) := by decide +kernel
theorem dX8_coins_59 : decode cX8_coins 59 = .ok (.ireturn, 1) := by decide +kernel
theorem dX8_coins_60 : decode cX8_coins 60 = .ok (.aload_n 0, 1) := by decide +kernel
theorem dX8_coins_61 : decode cX8_coins 61 = .ok (.bipush (-2), 2) := by decide +kernel
theorem dX8_coins_63 : decode cX8_coins 63 = .ok (.invokevirtual 85, 3) := by decide +kernel
theorem dX8_coins_66 : decode cX8_coins 66 = .ok (.ireturn, 1) := by decide +kernel
theorem dX8_ideaOf_0 : decode cX8_ideaOf 0 = .ok (.aload_n 0, 1) := by decide +kernel
theorem dX8_ideaOf_1 : decode cX8_ideaOf 1 = .ok (.iload_n 1, 1) := by decide +kernel
theorem dX8_ideaOf_2 : decode cX8_ideaOf 2 = .ok (.invokevirtual 113, 3) := by decide +kernel
theorem dX8_ideaOf_5 : decode cX8_ideaOf 5 = .ok (.ifCond .ne 9, 3) := by decide +kernel
theorem dX8_ideaOf_8 : decode cX8_ideaOf 8 = .ok (.aload_n 0, 1) := by decide +kernel
theorem dX8_ideaOf_9 : decode cX8_ideaOf 9 = .ok (.iconst (-1), 1) := by decide +kernel
theorem dX8_ideaOf_10 : decode cX8_ideaOf 10 = .ok (.invokevirtual 85, 3) := by decide +kernel
theorem dX8_ideaOf_13 : decode cX8_ideaOf 13 = .ok (.ireturn, 1) := by decide +kernel
theorem dX8_ideaOf_14 : decode cX8_ideaOf 14 = .ok (.iload_n 2, 1) := by decide +kernel
theorem dX8_ideaOf_15 : decode cX8_ideaOf 15 = .ok (.tableswitch 114 0 5 #[37, 47, 57, 84, 94, 104], 37) := by decide +kernel
theorem dX8_ideaOf_52 : decode cX8_ideaOf 52 = .ok (.aload_n 0, 1) := by decide +kernel
theorem dX8_ideaOf_53 : decode cX8_ideaOf 53 = .ok (.getfield 65, 3) := by decide +kernel
theorem dX8_ideaOf_56 : decode cX8_ideaOf 56 = .ok (.getfield 172, 3) := by decide +kernel
theorem dX8_ideaOf_59 : decode cX8_ideaOf 59 = .ok (.iload_n 1, 1) := by decide +kernel
theorem dX8_ideaOf_60 : decode cX8_ideaOf 60 = .ok (.iaload, 1) := by decide +kernel
theorem dX8_ideaOf_61 : decode cX8_ideaOf 61 = .ok (.ireturn, 1) := by decide +kernel
theorem dX8_ideaOf_62 : decode cX8_ideaOf 62 = .ok (.aload_n 0, 1) := by decide +kernel
theorem dX8_ideaOf_63 : decode cX8_ideaOf 63 = .ok (.getfield 65, 3) := by decide +kernel
theorem dX8_ideaOf_66 : decode cX8_ideaOf 66 = .ok (.getfield 255, 3) := by decide +kernel
theorem dX8_ideaOf_69 : decode cX8_ideaOf 69 = .ok (.iload_n 1, 1) := by decide +kernel
theorem dX8_ideaOf_70 : decode cX8_ideaOf 70 = .ok (.iaload, 1) := by decide +kernel
theorem dX8_ideaOf_71 : decode cX8_ideaOf 71 = .ok (.ireturn, 1) := by decide +kernel
theorem dX8_ideaOf_72 : decode cX8_ideaOf 72 = .ok (.aload_n 0, 1) := by decide +kernel
theorem dX8_ideaOf_73 : decode cX8_ideaOf 73 = .ok (.getfield 65, 3) := by decide +kernel
theorem dX8_ideaOf_76 : decode cX8_ideaOf 76 = .ok (.getfield 172, 3) := by decide +kernel
theorem dX8_ideaOf_79 : decode cX8_ideaOf 79 = .ok (.iload_n 1, 1) := by decide +kernel
theorem dX8_ideaOf_80 : decode cX8_ideaOf 80 = .ok (.iaload, 1) := by decide +kernel
theorem dX8_ideaOf_81 : decode cX8_ideaOf 81 = .ok (.ifCond .ne 8, 3) := by decide +kernel
theorem dX8_ideaOf_84 : decode cX8_ideaOf 84 = .ok (.bipush (-9), 2) := by decide +kernel
theorem dX8_ideaOf_86 : decode cX8_ideaOf 86 = .ok (.goto 12, 3) := by decide +kernel
theorem dX8_ideaOf_89 : decode cX8_ideaOf 89 = .ok (.aload_n 0, 1) := by decide +kernel
theorem dX8_ideaOf_90 : decode cX8_ideaOf 90 = .ok (.getfield 65, 3) := by decide +kernel
theorem dX8_ideaOf_93 : decode cX8_ideaOf 93 = .ok (.getfield 258, 3) := by decide +kernel
theorem dX8_ideaOf_96 : decode cX8_ideaOf 96 = .ok (.iload_n 1, 1) := by decide +kernel
theorem dX8_ideaOf_97 : decode cX8_ideaOf 97 = .ok (.iaload, 1) := by decide +kernel
theorem dX8_ideaOf_98 : decode cX8_ideaOf 98 = .ok (.ireturn, 1) := by decide +kernel
theorem dX8_ideaOf_99 : decode cX8_ideaOf 99 = .ok (.aload_n 0, 1) := by decide +kernel
theorem dX8_ideaOf_100 : decode cX8_ideaOf 100 = .ok (.getfield 65, 3) := by decide +kernel
theorem dX8_ideaOf_103 : decode cX8_ideaOf 103 = .ok (.getfield 261, 3) := by decide +kernel
theorem dX8_ideaOf_106 : decode cX8_ideaOf 106 = .ok (.iload_n 1, 1) := by decide +kernel
theorem dX8_ideaOf_107 : decode cX8_ideaOf 107 = .ok (.iaload, 1) := by decide +kernel
theorem dX8_ideaOf_108 : decode cX8_ideaOf 108 = .ok (.ireturn, 1) := by decide +kernel
theorem dX8_ideaOf_109 : decode cX8_ideaOf 109 = .ok (.aload_n 0, 1) := by decide +kernel
theorem dX8_ideaOf_110 : decode cX8_ideaOf 110 = .ok (.getfield 65, 3) := by decide +kernel
theorem dX8_ideaOf_113 : decode cX8_ideaOf 113 = .ok (.getfield 262, 3) := by decide +kernel
theorem dX8_ideaOf_116 : decode cX8_ideaOf 116 = .ok (.iload_n 1, 1) := by decide +kernel
theorem dX8_ideaOf_117 : decode cX8_ideaOf 117 = .ok (.iaload, 1) := by decide +kernel
theorem dX8_ideaOf_118 : decode cX8_ideaOf 118 = .ok (.ireturn, 1) := by decide +kernel
theorem dX8_ideaOf_119 : decode cX8_ideaOf 119 = .ok (.aload_n 0, 1) := by decide +kernel
theorem dX8_ideaOf_120 : decode cX8_ideaOf 120 = .ok (.getfield 65, 3) := by decide +kernel
theorem dX8_ideaOf_123 : decode cX8_ideaOf 123 = .ok (.getfield 141, 3) := by decide +kernel
theorem dX8_ideaOf_126 : decode cX8_ideaOf 126 = .ok (.iload_n 1, 1) := by decide +kernel
theorem dX8_ideaOf_127 : decode cX8_ideaOf 127 = .ok (.iaload, 1) := by decide +kernel
theorem dX8_ideaOf_128 : decode cX8_ideaOf 128 = .ok (.ireturn, 1) := by decide +kernel
theorem dX8_ideaOf_129 : decode cX8_ideaOf 129 = .ok (.aload_n 0, 1) := by decide +kernel
theorem dX8_ideaOf_130 : decode cX8_ideaOf 130 = .ok (.bipush (-2), 2) := by decide +kernel
theorem dX8_ideaOf_132 : decode cX8_ideaOf 132 = .ok (.invokevirtual 85, 3) := by decide +kernel
theorem dX8_ideaOf_135 : decode cX8_ideaOf 135 = .ok (.ireturn, 1) := by decide +kernel
theorem dX8_count_0 : decode cX8_count 0 = .ok (.iload_n 1, 1) := by decide +kernel
theorem dX8_count_1 : decode cX8_count 1 = .ok (.tableswitch 134 0 9 #[55, 60, 68, 76, 85, 94, 102, 110, 118, 126], 55) := by decide +kernel
theorem dX8_count_56 : decode cX8_count 56 = .ok (.aload_n 0, 1) := by decide +kernel
theorem dX8_count_57 : decode cX8_count 57 = .ok (.getfield 58, 3) := by decide +kernel
theorem dX8_count_60 : decode cX8_count 60 = .ok (.ireturn, 1) := by decide +kernel
theorem dX8_count_61 : decode cX8_count 61 = .ok (.aload_n 0, 1) := by decide +kernel
theorem dX8_count_62 : decode cX8_count 62 = .ok (.getfield 10, 3) := by decide +kernel
theorem dX8_count_65 : decode cX8_count 65 = .ok (.getfield 89, 3) := by decide +kernel
theorem dX8_count_68 : decode cX8_count 68 = .ok (.ireturn, 1) := by decide +kernel
theorem dX8_count_69 : decode cX8_count 69 = .ok (.aload_n 0, 1) := by decide +kernel
theorem dX8_count_70 : decode cX8_count 70 = .ok (.getfield 65, 3) := by decide +kernel
theorem dX8_count_73 : decode cX8_count 73 = .ok (.getfield 105, 3) := by decide +kernel
theorem dX8_count_76 : decode cX8_count 76 = .ok (.ireturn, 1) := by decide +kernel
theorem dX8_count_77 : decode cX8_count 77 = .ok (.aload_n 0, 1) := by decide +kernel
theorem dX8_count_78 : decode cX8_count 78 = .ok (.getfield 65, 3) := by decide +kernel
theorem dX8_count_81 : decode cX8_count 81 = .ok (.iconst 1, 1) := by decide +kernel
theorem dX8_count_82 : decode cX8_count 82 = .ok (.invokevirtual 265, 3) := by decide +kernel
theorem dX8_count_85 : decode cX8_count 85 = .ok (.ireturn, 1) := by decide +kernel
theorem dX8_count_86 : decode cX8_count 86 = .ok (.aload_n 0, 1) := by decide +kernel
theorem dX8_count_87 : decode cX8_count 87 = .ok (.getfield 65, 3) := by decide +kernel
theorem dX8_count_90 : decode cX8_count 90 = .ok (.iconst 2, 1) := by decide +kernel
theorem dX8_count_91 : decode cX8_count 91 = .ok (.invokevirtual 265, 3) := by decide +kernel
theorem dX8_count_94 : decode cX8_count 94 = .ok (.ireturn, 1) := by decide +kernel
theorem dX8_count_95 : decode cX8_count 95 = .ok (.aload_n 0, 1) := by decide +kernel
theorem dX8_count_96 : decode cX8_count 96 = .ok (.getfield 74, 3) := by decide +kernel
theorem dX8_count_99 : decode cX8_count 99 = .ok (.invokevirtual 268, 3) := by decide +kernel
theorem dX8_count_102 : decode cX8_count 102 = .ok (.ireturn, 1) := by decide +kernel
theorem dX8_count_103 : decode cX8_count 103 = .ok (.aload_n 0, 1) := by decide +kernel
theorem dX8_count_104 : decode cX8_count 104 = .ok (.getfield 26, 3) := by decide +kernel
theorem dX8_count_107 : decode cX8_count 107 = .ok (.getfield 201, 3) := by decide +kernel
theorem dX8_count_110 : decode cX8_count 110 = .ok (.ireturn, 1) := by decide +kernel
theorem dX8_count_111 : decode cX8_count 111 = .ok (.aload_n 0, 1) := by decide +kernel
theorem dX8_count_112 : decode cX8_count 112 = .ok (.getfield 40, 3) := by decide +kernel
theorem dX8_count_115 : decode cX8_count 115 = .ok (.getfield 223, 3) := by decide +kernel
theorem dX8_count_118 : decode cX8_count 118 = .ok (.ireturn, 1) := by decide +kernel
theorem dX8_count_119 : decode cX8_count 119 = .ok (.aload_n 0, 1) := by decide +kernel
theorem dX8_count_120 : decode cX8_count 120 = .ok (.getfield 47, 3) := by decide +kernel
theorem dX8_count_123 : decode cX8_count 123 = .ok (.getfield 230, 3) := by decide +kernel
theorem dX8_count_126 : decode cX8_count 126 = .ok (.ireturn, 1) := by decide +kernel
theorem dX8_count_127 : decode cX8_count 127 = .ok (.aload_n 0, 1) := by decide +kernel
theorem dX8_count_128 : decode cX8_count 128 = .ok (.getfield 10, 3) := by decide +kernel
theorem dX8_count_131 : decode cX8_count 131 = .ok (.invokevirtual 271, 3) := by decide +kernel
theorem dX8_count_134 : decode cX8_count 134 = .ok (.ireturn, 1) := by decide +kernel
theorem dX8_count_135 : decode cX8_count 135 = .ok (.iload_n 1, 1) := by decide +kernel
theorem dX8_count_136 : decode cX8_count 136 = .ok (.bipush 11, 2) := by decide +kernel
theorem dX8_count_138 : decode cX8_count 138 = .ok (.if_icmp .lt 21, 3) := by decide +kernel
theorem dX8_count_141 : decode cX8_count 141 = .ok (.iload_n 1, 1) := by decide +kernel
theorem dX8_count_142 : decode cX8_count 142 = .ok (.bipush 16, 2) := by decide +kernel
theorem dX8_count_144 : decode cX8_count 144 = .ok (.if_icmp .gt 15, 3) := by decide +kernel
theorem dX8_count_147 : decode cX8_count 147 = .ok (.aload_n 0, 1) := by decide +kernel
theorem dX8_count_148 : decode cX8_count 148 = .ok (.getfield 55, 3) := by decide +kernel
theorem dX8_count_151 : decode cX8_count 151 = .ok (.iload_n 1, 1) := by decide +kernel
theorem dX8_count_152 : decode cX8_count 152 = .ok (.bipush 10, 2) := by decide +kernel
theorem dX8_count_154 : decode cX8_count 154 = .ok (.isub, 1) := by decide +kernel
theorem dX8_count_155 : decode cX8_count 155 = .ok (.iaload, 1) := by decide +kernel
theorem dX8_count_156 : decode cX8_count 156 = .ok (.goto 5, 3) := by decide +kernel
theorem dX8_count_159 : decode cX8_count 159 = .ok (.bipush (-9), 2) := by decide +kernel
theorem dX8_count_161 : decode cX8_count 161 = .ok (.ireturn, 1) := by decide +kernel
theorem dX8_refuse_0 : decode cX8_refuse 0 = .ok (.iload_n 1, 1) := by decide +kernel
theorem dX8_refuse_1 : decode cX8_refuse 1 = .ok (.ineg, 1) := by decide +kernel
theorem dX8_refuse_2 : decode cX8_refuse 2 = .ok (.istore_n 2, 1) := by decide +kernel
theorem dX8_refuse_3 : decode cX8_refuse 3 = .ok (.iload_n 2, 1) := by decide +kernel
theorem dX8_refuse_4 : decode cX8_refuse 4 = .ok (.ifCond .lt 22, 3) := by decide +kernel
theorem dX8_refuse_7 : decode cX8_refuse 7 = .ok (.iload_n 2, 1) := by decide +kernel
theorem dX8_refuse_8 : decode cX8_refuse 8 = .ok (.aload_n 0, 1) := by decide +kernel
theorem dX8_refuse_9 : decode cX8_refuse 9 = .ok (.getfield 55, 3) := by decide +kernel
theorem dX8_refuse_12 : decode cX8_refuse 12 = .ok (.arraylength, 1) := by decide +kernel
theorem dX8_refuse_13 : decode cX8_refuse 13 = .ok (.if_icmp .ge 13, 3) := by decide +kernel
theorem dX8_refuse_16 : decode cX8_refuse 16 = .ok (.aload_n 0, 1) := by decide +kernel
theorem dX8_refuse_17 : decode cX8_refuse 17 = .ok (.getfield 55, 3) := by decide +kernel
theorem dX8_refuse_20 : decode cX8_refuse 20 = .ok (.iload_n 2, 1) := by decide +kernel
theorem dX8_refuse_21 : decode cX8_refuse 21 = .ok (.dup2, 1) := by decide +kernel
theorem dX8_refuse_22 : decode cX8_refuse 22 = .ok (.iaload, 1) := by decide +kernel
theorem dX8_refuse_23 : decode cX8_refuse 23 = .ok (.iconst 1, 1) := by decide +kernel
theorem dX8_refuse_24 : decode cX8_refuse 24 = .ok (.iadd, 1) := by decide +kernel
theorem dX8_refuse_25 : decode cX8_refuse 25 = .ok (.iastore, 1) := by decide +kernel
theorem dX8_refuse_26 : decode cX8_refuse 26 = .ok (.iload_n 1, 1) := by decide +kernel
theorem dX8_refuse_27 : decode cX8_refuse 27 = .ok (.ireturn, 1) := by decide +kernel
theorem dX8_isShop_0 : decode cX8_isShop 0 = .ok (.iload_n 0, 1) := by decide +kernel
theorem dX8_isShop_1 : decode cX8_isShop 1 = .ok (.ifCond .lt 13, 3) := by decide +kernel
theorem dX8_isShop_4 : decode cX8_isShop 4 = .ok (.iload_n 0, 1) := by decide +kernel
theorem dX8_isShop_5 : decode cX8_isShop 5 = .ok (.bipush 8, 2) := by decide +kernel
theorem dX8_isShop_7 : decode cX8_isShop 7 = .ok (.if_icmp .ge 7, 3) := by decide +kernel
theorem dX8_isShop_10 : decode cX8_isShop 10 = .ok (.iconst 1, 1) := by decide +kernel
theorem dX8_isShop_11 : decode cX8_isShop 11 = .ok (.goto 4, 3) := by decide +kernel
theorem dX8_isShop_14 : decode cX8_isShop 14 = .ok (.iconst 0, 1) := by decide +kernel
theorem dX8_isShop_15 : decode cX8_isShop 15 = .ok (.ireturn, 1) := by decide +kernel
theorem dX8_areMarks_0 : decode cX8_areMarks 0 = .ok (.iload_n 0, 1) := by decide +kernel
theorem dX8_areMarks_1 : decode cX8_areMarks 1 = .ok (.ifCond .le 14, 3) := by decide +kernel
theorem dX8_areMarks_4 : decode cX8_areMarks 4 = .ok (.iload_n 0, 1) := by decide +kernel
theorem dX8_areMarks_5 : decode cX8_areMarks 5 = .ok (.ldc_w 274, 3) := by decide +kernel
theorem dX8_areMarks_8 : decode cX8_areMarks 8 = .ok (.if_icmp .gt 7, 3) := by decide +kernel
theorem dX8_areMarks_11 : decode cX8_areMarks 11 = .ok (.iconst 1, 1) := by decide +kernel
theorem dX8_areMarks_12 : decode cX8_areMarks 12 = .ok (.goto 4, 3) := by decide +kernel
theorem dX8_areMarks_15 : decode cX8_areMarks 15 = .ok (.iconst 0, 1) := by decide +kernel
theorem dX8_areMarks_16 : decode cX8_areMarks 16 = .ok (.ireturn, 1) := by decide +kernel
theorem dX8_isBench_0 : decode cX8_isBench 0 = .ok (.iload_n 0, 1) := by decide +kernel
theorem dX8_isBench_1 : decode cX8_isBench 1 = .ok (.ifCond .lt 13, 3) := by decide +kernel
theorem dX8_isBench_4 : decode cX8_isBench 4 = .ok (.iload_n 0, 1) := by decide +kernel
theorem dX8_isBench_5 : decode cX8_isBench 5 = .ok (.bipush 10, 2) := by decide +kernel
theorem dX8_isBench_7 : decode cX8_isBench 7 = .ok (.if_icmp .ge 7, 3) := by decide +kernel
theorem dX8_isBench_10 : decode cX8_isBench 10 = .ok (.iconst 1, 1) := by decide +kernel
theorem dX8_isBench_11 : decode cX8_isBench 11 = .ok (.goto 4, 3) := by decide +kernel
theorem dX8_isBench_14 : decode cX8_isBench 14 = .ok (.iconst 0, 1) := by decide +kernel
theorem dX8_isBench_15 : decode cX8_isBench 15 = .ok (.ireturn, 1) := by decide +kernel
theorem dX8_isHand_0 : decode cX8_isHand 0 = .ok (.iload_n 1, 1) := by decide +kernel
theorem dX8_isHand_1 : decode cX8_isHand 1 = .ok (.ifCond .lt 18, 3) := by decide +kernel
theorem dX8_isHand_4 : decode cX8_isHand 4 = .ok (.iload_n 1, 1) := by decide +kernel
theorem dX8_isHand_5 : decode cX8_isHand 5 = .ok (.aload_n 0, 1) := by decide +kernel
theorem dX8_isHand_6 : decode cX8_isHand 6 = .ok (.getfield 10, 3) := by decide +kernel
theorem dX8_isHand_9 : decode cX8_isHand 9 = .ok (.getfield 89, 3) := by decide +kernel
theorem dX8_isHand_12 : decode cX8_isHand 12 = .ok (.if_icmp .ge 7, 3) := by decide +kernel
theorem dX8_isHand_15 : decode cX8_isHand 15 = .ok (.iconst 1, 1) := by decide +kernel
theorem dX8_isHand_16 : decode cX8_isHand 16 = .ok (.goto 4, 3) := by decide +kernel
theorem dX8_isHand_19 : decode cX8_isHand 19 = .ok (.iconst 0, 1) := by decide +kernel
theorem dX8_isHand_20 : decode cX8_isHand 20 = .ok (.ireturn, 1) := by decide +kernel
theorem dX8_isIdea_0 : decode cX8_isIdea 0 = .ok (.iload_n 1, 1) := by decide +kernel
theorem dX8_isIdea_1 : decode cX8_isIdea 1 = .ok (.ifCond .lt 18, 3) := by decide +kernel
theorem dX8_isIdea_4 : decode cX8_isIdea 4 = .ok (.iload_n 1, 1) := by decide +kernel
theorem dX8_isIdea_5 : decode cX8_isIdea 5 = .ok (.aload_n 0, 1) := by decide +kernel
theorem dX8_isIdea_6 : decode cX8_isIdea 6 = .ok (.getfield 65, 3) := by decide +kernel
theorem dX8_isIdea_9 : decode cX8_isIdea 9 = .ok (.getfield 105, 3) := by decide +kernel
theorem dX8_isIdea_12 : decode cX8_isIdea 12 = .ok (.if_icmp .ge 7, 3) := by decide +kernel
theorem dX8_isIdea_15 : decode cX8_isIdea 15 = .ok (.iconst 1, 1) := by decide +kernel
theorem dX8_isIdea_16 : decode cX8_isIdea 16 = .ok (.goto 4, 3) := by decide +kernel
theorem dX8_isIdea_19 : decode cX8_isIdea 19 = .ok (.iconst 0, 1) := by decide +kernel
theorem dX8_isIdea_20 : decode cX8_isIdea 20 = .ok (.ireturn, 1) := by decide +kernel
theorem dX8_has_0 : decode cX8_has 0 = .ok (.lload_n 0, 1) := by decide +kernel
theorem dX8_has_1 : decode cX8_has 1 = .ok (.iload_n 2, 1) := by decide +kernel
theorem dX8_has_2 : decode cX8_has 2 = .ok (.lushr, 1) := by decide +kernel
theorem dX8_has_3 : decode cX8_has 3 = .ok (.lconst 1, 1) := by decide +kernel
theorem dX8_has_4 : decode cX8_has 4 = .ok (.land, 1) := by decide +kernel
theorem dX8_has_5 : decode cX8_has 5 = .ok (.lconst 0, 1) := by decide +kernel
theorem dX8_has_6 : decode cX8_has 6 = .ok (.lcmp, 1) := by decide +kernel
theorem dX8_has_7 : decode cX8_has 7 = .ok (.ifCond .eq 7, 3) := by decide +kernel
theorem dX8_has_10 : decode cX8_has 10 = .ok (.iconst 1, 1) := by decide +kernel
theorem dX8_has_11 : decode cX8_has 11 = .ok (.goto 4, 3) := by decide +kernel
theorem dX8_has_14 : decode cX8_has 14 = .ok (.iconst 0, 1) := by decide +kernel
theorem dX8_has_15 : decode cX8_has 15 = .ok (.ireturn, 1) := by decide +kernel
theorem dX8_without_0 : decode cX8_without 0 = .ok (.iload_n 2, 1) := by decide +kernel
theorem dX8_without_1 : decode cX8_without 1 = .ok (.bipush (-9), 2) := by decide +kernel
theorem dX8_without_3 : decode cX8_without 3 = .ok (.if_icmp .ne 7, 3) := by decide +kernel
theorem dX8_without_6 : decode cX8_without 6 = .ok (.lload_n 0, 1) := by decide +kernel
theorem dX8_without_7 : decode cX8_without 7 = .ok (.goto 12, 3) := by decide +kernel
theorem dX8_without_10 : decode cX8_without 10 = .ok (.lload_n 0, 1) := by decide +kernel
theorem dX8_without_11 : decode cX8_without 11 = .ok (.lconst 1, 1) := by decide +kernel
theorem dX8_without_12 : decode cX8_without 12 = .ok (.iload_n 2, 1) := by decide +kernel
theorem dX8_without_13 : decode cX8_without 13 = .ok (.lshl, 1) := by decide +kernel
theorem dX8_without_14 : decode cX8_without 14 = .ok (.ldc2_w 275, 3) := by decide +kernel
theorem dX8_without_17 : decode cX8_without 17 = .ok (.lxor, 1) := by decide +kernel
theorem dX8_without_18 : decode cX8_without 18 = .ok (.land, 1) := by decide +kernel
theorem dX8_without_19 : decode cX8_without 19 = .ok (.lreturn, 1) := by decide +kernel
theorem dX8_likeness_0 : decode cX8_likeness 0 = .ok (.iconst 3, 1) := by decide +kernel
theorem dX8_likeness_1 : decode cX8_likeness 1 = .ok (.iload_n 0, 1) := by decide +kernel
theorem dX8_likeness_2 : decode cX8_likeness 2 = .ok (.iload_n 1, 1) := by decide +kernel
theorem dX8_likeness_3 : decode cX8_likeness 3 = .ok (.iand, 1) := by decide +kernel
theorem dX8_likeness_4 : decode cX8_likeness 4 = .ok (.invokestatic 277, 3) := by decide +kernel
theorem dX8_likeness_7 : decode cX8_likeness 7 = .ok (.imul, 1) := by decide +kernel
theorem dX8_likeness_8 : decode cX8_likeness 8 = .ok (.iload_n 0, 1) := by decide +kernel
theorem dX8_likeness_9 : decode cX8_likeness 9 = .ok (.iload_n 1, 1) := by decide +kernel
theorem dX8_likeness_10 : decode cX8_likeness 10 = .ok (.ixor, 1) := by decide +kernel
theorem dX8_likeness_11 : decode cX8_likeness 11 = .ok (.invokestatic 277, 3) := by decide +kernel
theorem dX8_likeness_14 : decode cX8_likeness 14 = .ok (.isub, 1) := by decide +kernel
theorem dX8_likeness_15 : decode cX8_likeness 15 = .ok (.ireturn, 1) := by decide +kernel
theorem dX8_payFor_0 : decode cX8_payFor 0 = .ok (.iload_n 0, 1) := by decide +kernel
theorem dX8_payFor_1 : decode cX8_payFor 1 = .ok (.iload_n 1, 1) := by decide +kernel
theorem dX8_payFor_2 : decode cX8_payFor 2 = .ok (.imul, 1) := by decide +kernel
theorem dX8_payFor_3 : decode cX8_payFor 3 = .ok (.bipush 100, 2) := by decide +kernel
theorem dX8_payFor_5 : decode cX8_payFor 5 = .ok (.idiv, 1) := by decide +kernel
theorem dX8_payFor_6 : decode cX8_payFor 6 = .ok (.iload_n 2, 1) := by decide +kernel
theorem dX8_payFor_7 : decode cX8_payFor 7 = .ok (.invokestatic 282, 3) := by decide +kernel
theorem dX8_payFor_10 : decode cX8_payFor 10 = .ok (.ireturn, 1) := by decide +kernel
theorem dX8_judgesFor_0 : decode cX8_judgesFor 0 = .ok (.aload_n 0, 1) := by decide +kernel
theorem dX8_judgesFor_1 : decode cX8_judgesFor 1 = .ok (.getfield 10, 3) := by decide +kernel
theorem dX8_judgesFor_4 : decode cX8_judgesFor 4 = .ok (.aload_n 0, 1) := by decide +kernel
theorem dX8_judgesFor_5 : decode cX8_judgesFor 5 = .ok (.getfield 74, 3) := by decide +kernel
theorem dX8_judgesFor_8 : decode cX8_judgesFor 8 = .ok (.aload_n 0, 1) := by decide +kernel
theorem dX8_judgesFor_9 : decode cX8_judgesFor 9 = .ok (.getfield 74, 3) := by decide +kernel
theorem dX8_judgesFor_12 : decode cX8_judgesFor 12 = .ok (.getfield 148, 3) := by decide +kernel
theorem dX8_judgesFor_15 : decode cX8_judgesFor 15 = .ok (.iload_n 1, 1) := by decide +kernel
theorem dX8_judgesFor_16 : decode cX8_judgesFor 16 = .ok (.iaload, 1) := by decide +kernel
theorem dX8_judgesFor_17 : decode cX8_judgesFor 17 = .ok (.invokevirtual 287, 3) := by decide +kernel
theorem dX8_judgesFor_20 : decode cX8_judgesFor 20 = .ok (.invokevirtual 288, 3) := by decide +kernel
theorem dX8_judgesFor_23 : decode cX8_judgesFor 23 = .ok (.lstore_n 2, 1) := by decide +kernel
theorem dX8_judgesFor_24 : decode cX8_judgesFor 24 = .ok (.aload_n 0, 1) := by decide +kernel
theorem dX8_judgesFor_25 : decode cX8_judgesFor 25 = .ok (.getfield 10, 3) := by decide +kernel
theorem dX8_judgesFor_28 : decode cX8_judgesFor 28 = .ok (.aload_n 0, 1) := by decide +kernel
theorem dX8_judgesFor_29 : decode cX8_judgesFor 29 = .ok (.getfield 65, 3) := by decide +kernel
theorem dX8_judgesFor_32 : decode cX8_judgesFor 32 = .ok (.getfield 200, 3) := by decide +kernel
theorem dX8_judgesFor_35 : decode cX8_judgesFor 35 = .ok (.iload_n 1, 1) := by decide +kernel
theorem dX8_judgesFor_36 : decode cX8_judgesFor 36 = .ok (.iaload, 1) := by decide +kernel
theorem dX8_judgesFor_37 : decode cX8_judgesFor 37 = .ok (.invokevirtual 292, 3) := by decide +kernel
theorem dX8_judgesFor_40 : decode cX8_judgesFor 40 = .ok (.lload_n 2, 1) := by decide +kernel
theorem dX8_judgesFor_41 : decode cX8_judgesFor 41 = .ok (.ldc2_w 275, 3) := by decide +kernel
theorem dX8_judgesFor_44 : decode cX8_judgesFor 44 = .ok (.lxor, 1) := by decide +kernel
theorem dX8_judgesFor_45 : decode cX8_judgesFor 45 = .ok (.land, 1) := by decide +kernel
theorem dX8_judgesFor_46 : decode cX8_judgesFor 46 = .ok (.lreturn, 1) := by decide +kernel
theorem dX8_nameThird_0 : decode cX8_nameThird 0 = .ok (.aload_n 0, 1) := by decide +kernel
theorem dX8_nameThird_1 : decode cX8_nameThird 1 = .ok (.getfield 10, 3) := by decide +kernel
theorem dX8_nameThird_4 : decode cX8_nameThird 4 = .ok (.lload_n 1, 1) := by decide +kernel
theorem dX8_nameThird_5 : decode cX8_nameThird 5 = .ok (.invokevirtual 164, 3) := by decide +kernel
theorem dX8_nameThird_8 : decode cX8_nameThird 8 = .ok (.istore_n 3, 1) := by decide +kernel
theorem dX8_nameThird_9 : decode cX8_nameThird 9 = .ok (.iload_n 3, 1) := by decide +kernel
theorem dX8_nameThird_10 : decode cX8_nameThird 10 = .ok (.bipush (-9), 2) := by decide +kernel
theorem dX8_nameThird_12 : decode cX8_nameThird 12 = .ok (.if_icmp .ne 5, 3) := by decide +kernel
theorem dX8_nameThird_15 : decode cX8_nameThird 15 = .ok (.iconst 0, 1) := by decide +kernel
theorem dX8_nameThird_16 : decode cX8_nameThird 16 = .ok (.ireturn, 1) := by decide +kernel
theorem dX8_nameThird_17 : decode cX8_nameThird 17 = .ok (.aload_n 0, 1) := by decide +kernel
theorem dX8_nameThird_18 : decode cX8_nameThird 18 = .ok (.getfield 10, 3) := by decide +kernel
theorem dX8_nameThird_21 : decode cX8_nameThird 21 = .ok (.getfield 175, 3) := by decide +kernel
theorem dX8_nameThird_24 : decode cX8_nameThird 24 = .ok (.iload_n 3, 1) := by decide +kernel
theorem dX8_nameThird_25 : decode cX8_nameThird 25 = .ok (.dup2, 1) := by decide +kernel
theorem dX8_nameThird_26 : decode cX8_nameThird 26 = .ok (.iaload, 1) := by decide +kernel
theorem dX8_nameThird_27 : decode cX8_nameThird 27 = .ok (.iconst 1, 1) := by decide +kernel
theorem dX8_nameThird_28 : decode cX8_nameThird 28 = .ok (.iadd, 1) := by decide +kernel
theorem dX8_nameThird_29 : decode cX8_nameThird 29 = .ok (.iastore, 1) := by decide +kernel
theorem dX8_nameThird_30 : decode cX8_nameThird 30 = .ok (.iconst 1, 1) := by decide +kernel
theorem dX8_nameThird_31 : decode cX8_nameThird 31 = .ok (.ireturn, 1) := by decide +kernel
theorem dX8_takeFamily_0 : decode cX8_takeFamily 0 = .ok (.iconst 0, 1) := by decide +kernel
theorem dX8_takeFamily_1 : decode cX8_takeFamily 1 = .ok (.istore_n 2, 1) := by decide +kernel
theorem dX8_takeFamily_2 : decode cX8_takeFamily 2 = .ok (.iload_n 2, 1) := by decide +kernel
theorem dX8_takeFamily_3 : decode cX8_takeFamily 3 = .ok (.aload_n 0, 1) := by decide +kernel
theorem dX8_takeFamily_4 : decode cX8_takeFamily 4 = .ok (.getfield 65, 3) := by decide +kernel
theorem dX8_takeFamily_7 : decode cX8_takeFamily 7 = .ok (.getfield 105, 3) := by decide +kernel
theorem dX8_takeFamily_10 : decode cX8_takeFamily 10 = .ok (.if_icmp .ge 41, 3) := by decide +kernel
theorem dX8_takeFamily_13 : decode cX8_takeFamily 13 = .ok (.aload_n 0, 1) := by decide +kernel
theorem dX8_takeFamily_14 : decode cX8_takeFamily 14 = .ok (.getfield 74, 3) := by decide +kernel
theorem dX8_takeFamily_17 : decode cX8_takeFamily 17 = .ok (.getfield 148, 3) := by decide +kernel
theorem dX8_takeFamily_20 : decode cX8_takeFamily 20 = .ok (.iload_n 2, 1) := by decide +kernel
theorem dX8_takeFamily_21 : decode cX8_takeFamily 21 = .ok (.iaload, 1) := by decide +kernel
theorem dX8_takeFamily_22 : decode cX8_takeFamily 22 = .ok (.iload_n 1, 1) := by decide +kernel
theorem dX8_takeFamily_23 : decode cX8_takeFamily 23 = .ok (.if_icmp .ne 22, 3) := by decide +kernel
theorem dX8_takeFamily_26 : decode cX8_takeFamily 26 = .ok (.aload_n 0, 1) := by decide +kernel
theorem dX8_takeFamily_27 : decode cX8_takeFamily 27 = .ok (.getfield 65, 3) := by decide +kernel
theorem dX8_takeFamily_30 : decode cX8_takeFamily 30 = .ok (.getfield 172, 3) := by decide +kernel
theorem dX8_takeFamily_33 : decode cX8_takeFamily 33 = .ok (.iload_n 2, 1) := by decide +kernel
theorem dX8_takeFamily_34 : decode cX8_takeFamily 34 = .ok (.iaload, 1) := by decide +kernel
theorem dX8_takeFamily_35 : decode cX8_takeFamily 35 = .ok (.ifCond .ne 10, 3) := by decide +kernel
theorem dX8_takeFamily_38 : decode cX8_takeFamily 38 = .ok (.aload_n 0, 1) := by decide +kernel
theorem dX8_takeFamily_39 : decode cX8_takeFamily 39 = .ok (.iload_n 2, 1) := by decide +kernel
theorem dX8_takeFamily_40 : decode cX8_takeFamily 40 = .ok (.iconst 1, 1) := by decide +kernel
theorem dX8_takeFamily_41 : decode cX8_takeFamily 41 = .ok (.invokevirtual 185, 3) := by decide +kernel
theorem dX8_takeFamily_44 : decode cX8_takeFamily 44 = .ok (.pop, 1) := by decide +kernel
theorem dX8_takeFamily_45 : decode cX8_takeFamily 45 = .ok (.iinc 2 1, 3) := by decide +kernel
theorem dX8_takeFamily_48 : decode cX8_takeFamily 48 = .ok (.goto (-46), 3) := by decide +kernel
theorem dX8_takeFamily_51 : decode cX8_takeFamily 51 = .ok (.return_, 1) := by decide +kernel
theorem dX8_settle_0 : decode cX8_settle 0 = .ok (.aload_n 0, 1) := by decide +kernel
theorem dX8_settle_1 : decode cX8_settle 1 = .ok (.getfield 65, 3) := by decide +kernel
theorem dX8_settle_4 : decode cX8_settle 4 = .ok (.getfield 172, 3) := by decide +kernel
theorem dX8_settle_7 : decode cX8_settle 7 = .ok (.iload_n 1, 1) := by decide +kernel
theorem dX8_settle_8 : decode cX8_settle 8 = .ok (.iload_n 2, 1) := by decide +kernel
theorem dX8_settle_9 : decode cX8_settle 9 = .ok (.iastore, 1) := by decide +kernel
theorem dX8_settle_10 : decode cX8_settle 10 = .ok (.aload_n 0, 1) := by decide +kernel
theorem dX8_settle_11 : decode cX8_settle 11 = .ok (.getfield 65, 3) := by decide +kernel
theorem dX8_settle_14 : decode cX8_settle 14 = .ok (.getfield 258, 3) := by decide +kernel
theorem dX8_settle_17 : decode cX8_settle 17 = .ok (.iload_n 1, 1) := by decide +kernel
theorem dX8_settle_18 : decode cX8_settle 18 = .ok (.aload_n 0, 1) := by decide +kernel
theorem dX8_settle_19 : decode cX8_settle 19 = .ok (.getfield 58, 3) := by decide +kernel
theorem dX8_settle_22 : decode cX8_settle 22 = .ok (.iastore, 1) := by decide +kernel
theorem dX8_settle_23 : decode cX8_settle 23 = .ok (.iconst 0, 1) := by decide +kernel
theorem dX8_settle_24 : decode cX8_settle 24 = .ok (.aload_n 0, 1) := by decide +kernel
theorem dX8_settle_25 : decode cX8_settle 25 = .ok (.getfield 58, 3) := by decide +kernel
theorem dX8_settle_28 : decode cX8_settle 28 = .ok (.aload_n 0, 1) := by decide +kernel
theorem dX8_settle_29 : decode cX8_settle 29 = .ok (.getfield 65, 3) := by decide +kernel
theorem dX8_settle_32 : decode cX8_settle 32 = .ok (.getfield 255, 3) := by decide +kernel
theorem dX8_settle_35 : decode cX8_settle 35 = .ok (.iload_n 1, 1) := by decide +kernel
theorem dX8_settle_36 : decode cX8_settle 36 = .ok (.iaload, 1) := by decide +kernel
theorem dX8_settle_37 : decode cX8_settle 37 = .ok (.isub, 1) := by decide +kernel
theorem dX8_settle_38 : decode cX8_settle 38 = .ok (.aload_n 0, 1) := by decide +kernel
theorem dX8_settle_39 : decode cX8_settle 39 = .ok (.getfield 51, 3) := by decide +kernel
theorem dX8_settle_42 : decode cX8_settle 42 = .ok (.iconst 2, 1) := by decide +kernel
theorem dX8_settle_43 : decode cX8_settle 43 = .ok (.iaload, 1) := by decide +kernel
theorem dX8_settle_44 : decode cX8_settle 44 = .ok (.isub, 1) := by decide +kernel
theorem dX8_settle_45 : decode cX8_settle 45 = .ok (.invokestatic 295, 3) := by decide +kernel
theorem dX8_settle_48 : decode cX8_settle 48 = .ok (.istore_n 3, 1) := by decide +kernel
theorem dX8_settle_49 : decode cX8_settle 49 = .ok (.iload_n 3, 1) := by decide +kernel
theorem dX8_settle_50 : decode cX8_settle 50 = .ok (.aload_n 0, 1) := by decide +kernel
theorem dX8_settle_51 : decode cX8_settle 51 = .ok (.getfield 51, 3) := by decide +kernel
theorem dX8_settle_54 : decode cX8_settle 54 = .ok (.iconst 3, 1) := by decide +kernel
theorem dX8_settle_55 : decode cX8_settle 55 = .ok (.iaload, 1) := by decide +kernel
theorem dX8_settle_56 : decode cX8_settle 56 = .ok (.imul, 1) := by decide +kernel
theorem dX8_settle_57 : decode cX8_settle 57 = .ok (.istore 4, 2) := by decide +kernel
theorem dX8_settle_59 : decode cX8_settle 59 = .ok (.aload_n 0, 1) := by decide +kernel
theorem dX8_settle_60 : decode cX8_settle 60 = .ok (.getfield 10, 3) := by decide +kernel
theorem dX8_settle_63 : decode cX8_settle 63 = .ok (.getfield 252, 3) := by decide +kernel
theorem dX8_settle_66 : decode cX8_settle 66 = .ok (.aload_n 0, 1) := by decide +kernel
theorem dX8_settle_67 : decode cX8_settle 67 = .ok (.getfield 65, 3) := by decide +kernel
theorem dX8_settle_70 : decode cX8_settle 70 = .ok (.getfield 298, 3) := by decide +kernel
theorem dX8_settle_73 : decode cX8_settle 73 = .ok (.iload_n 1, 1) := by decide +kernel
theorem dX8_settle_74 : decode cX8_settle 74 = .ok (.iaload, 1) := by decide +kernel
theorem dX8_settle_75 : decode cX8_settle 75 = .ok (.dup2, 1) := by decide +kernel
theorem dX8_settle_76 : decode cX8_settle 76 = .ok (.iaload, 1) := by decide +kernel
theorem dX8_settle_77 : decode cX8_settle 77 = .ok (.iload 4, 2) := by decide +kernel
theorem dX8_settle_79 : decode cX8_settle 79 = .ok (.iadd, 1) := by decide +kernel
theorem dX8_settle_80 : decode cX8_settle 80 = .ok (.iastore, 1) := by decide +kernel
theorem dX8_settle_81 : decode cX8_settle 81 = .ok (.iload 4, 2) := by decide +kernel
theorem dX8_settle_83 : decode cX8_settle 83 = .ok (.ireturn, 1) := by decide +kernel
theorem dX8_ruleFor_0 : decode cX8_ruleFor 0 = .ok (.aload_n 0, 1) := by decide +kernel
theorem dX8_ruleFor_1 : decode cX8_ruleFor 1 = .ok (.getfield 40, 3) := by decide +kernel
theorem dX8_ruleFor_4 : decode cX8_ruleFor 4 = .ok (.aload_n 0, 1) := by decide +kernel
theorem dX8_ruleFor_5 : decode cX8_ruleFor 5 = .ok (.getfield 65, 3) := by decide +kernel
theorem dX8_ruleFor_8 : decode cX8_ruleFor 8 = .ok (.getfield 255, 3) := by decide +kernel
theorem dX8_ruleFor_11 : decode cX8_ruleFor 11 = .ok (.aload_n 0, 1) := by decide +kernel
theorem dX8_ruleFor_12 : decode cX8_ruleFor 12 = .ok (.getfield 74, 3) := by decide +kernel
theorem dX8_ruleFor_15 : decode cX8_ruleFor 15 = .ok (.aload_n 0, 1) := by decide +kernel
theorem dX8_ruleFor_16 : decode cX8_ruleFor 16 = .ok (.getfield 74, 3) := by decide +kernel
theorem dX8_ruleFor_19 : decode cX8_ruleFor 19 = .ok (.getfield 148, 3) := by decide +kernel
theorem dX8_ruleFor_22 : decode cX8_ruleFor 22 = .ok (.iload_n 1, 1) := by decide +kernel
theorem dX8_ruleFor_23 : decode cX8_ruleFor 23 = .ok (.iaload, 1) := by decide +kernel
theorem dX8_ruleFor_24 : decode cX8_ruleFor 24 = .ok (.invokevirtual 151, 3) := by decide +kernel
theorem dX8_ruleFor_27 : decode cX8_ruleFor 27 = .ok (.iaload, 1) := by decide +kernel
theorem dX8_ruleFor_28 : decode cX8_ruleFor 28 = .ok (.invokevirtual 301, 3) := by decide +kernel
theorem dX8_ruleFor_31 : decode cX8_ruleFor 31 = .ok (.ireturn, 1) := by decide +kernel
theorem dX8_worthOf_0 : decode cX8_worthOf 0 = .ok (.aload_n 0, 1) := by decide +kernel
theorem dX8_worthOf_1 : decode cX8_worthOf 1 = .ok (.getfield 33, 3) := by decide +kernel
theorem dX8_worthOf_4 : decode cX8_worthOf 4 = .ok (.aload_n 0, 1) := by decide +kernel
theorem dX8_worthOf_5 : decode cX8_worthOf 5 = .ok (.getfield 26, 3) := by decide +kernel
theorem dX8_worthOf_8 : decode cX8_worthOf 8 = .ok (.aload_n 1, 1) := by decide +kernel
theorem dX8_worthOf_9 : decode cX8_worthOf 9 = .ok (.iload_n 2, 1) := by decide +kernel
theorem dX8_worthOf_10 : decode cX8_worthOf 10 = .ok (.invokevirtual 205, 3) := by decide +kernel
theorem dX8_worthOf_13 : decode cX8_worthOf 13 = .ok (.iconst 0, 1) := by decide +kernel
theorem dX8_worthOf_14 : decode cX8_worthOf 14 = .ok (.istore_n 3, 1) := by decide +kernel
theorem dX8_worthOf_15 : decode cX8_worthOf 15 = .ok (.iconst 0, 1) := by decide +kernel
theorem dX8_worthOf_16 : decode cX8_worthOf 16 = .ok (.istore 4, 2) := by decide +kernel
theorem dX8_worthOf_18 : decode cX8_worthOf 18 = .ok (.iload 4, 2) := by decide +kernel
theorem dX8_worthOf_20 : decode cX8_worthOf 20 = .ok (.bipush 10, 2) := by decide +kernel
theorem dX8_worthOf_22 : decode cX8_worthOf 22 = .ok (.if_icmp .ge 35, 3) := by decide +kernel
theorem dX8_worthOf_25 : decode cX8_worthOf 25 = .ok (.iload_n 3, 1) := by decide +kernel
theorem dX8_worthOf_26 : decode cX8_worthOf 26 = .ok (.aload_n 0, 1) := by decide +kernel
theorem dX8_worthOf_27 : decode cX8_worthOf 27 = .ok (.getfield 33, 3) := by decide +kernel
theorem dX8_worthOf_30 : decode cX8_worthOf 30 = .ok (.iload 4, 2) := by decide +kernel
theorem dX8_worthOf_32 : decode cX8_worthOf 32 = .ok (.invokevirtual 209, 3) := by decide +kernel
theorem dX8_worthOf_35 : decode cX8_worthOf 35 = .ok (.aload_n 0, 1) := by decide +kernel
theorem dX8_worthOf_36 : decode cX8_worthOf 36 = .ok (.getfield 19, 3) := by decide +kernel
theorem dX8_worthOf_39 : decode cX8_worthOf 39 = .ok (.getfield 197, 3) := by decide +kernel
theorem dX8_worthOf_42 : decode cX8_worthOf 42 = .ok (.iload 4, 2) := by decide +kernel
theorem dX8_worthOf_44 : decode cX8_worthOf 44 = .ok (.iaload, 1) := by decide +kernel
theorem dX8_worthOf_45 : decode cX8_worthOf 45 = .ok (.imul, 1) := by decide +kernel
theorem dX8_worthOf_46 : decode cX8_worthOf 46 = .ok (.bipush 100, 2) := by decide +kernel
theorem dX8_worthOf_48 : decode cX8_worthOf 48 = .ok (.idiv, 1) := by decide +kernel
theorem dX8_worthOf_49 : decode cX8_worthOf 49 = .ok (.iadd, 1) := by decide +kernel
theorem dX8_worthOf_50 : decode cX8_worthOf 50 = .ok (.istore_n 3, 1) := by decide +kernel
theorem dX8_worthOf_51 : decode cX8_worthOf 51 = .ok (.iinc 4 1, 3) := by decide +kernel
theorem dX8_worthOf_54 : decode cX8_worthOf 54 = .ok (.goto (-36), 3) := by decide +kernel
theorem dX8_worthOf_57 : decode cX8_worthOf 57 = .ok (.iconst 0, 1) := by decide +kernel
theorem dX8_worthOf_58 : decode cX8_worthOf 58 = .ok (.iload_n 3, 1) := by decide +kernel
theorem dX8_worthOf_59 : decode cX8_worthOf 59 = .ok (.aload_n 1, 1) := by decide +kernel
theorem dX8_worthOf_60 : decode cX8_worthOf 60 = .ok (.iload_n 2, 1) := by decide +kernel
theorem dX8_worthOf_61 : decode cX8_worthOf 61 = .ok (.invokevirtual 304, 3) := by decide +kernel
theorem dX8_worthOf_64 : decode cX8_worthOf 64 = .ok (.isub, 1) := by decide +kernel
theorem dX8_worthOf_65 : decode cX8_worthOf 65 = .ok (.invokestatic 295, 3) := by decide +kernel
theorem dX8_worthOf_68 : decode cX8_worthOf 68 = .ok (.ireturn, 1) := by decide +kernel
theorem dX8_payYearsSince_0 : decode cX8_payYearsSince 0 = .ok (.aload_n 0, 1) := by decide +kernel
theorem dX8_payYearsSince_1 : decode cX8_payYearsSince 1 = .ok (.getfield 58, 3) := by decide +kernel
theorem dX8_payYearsSince_4 : decode cX8_payYearsSince 4 = .ok (.aload_n 0, 1) := by decide +kernel
theorem dX8_payYearsSince_5 : decode cX8_payYearsSince 5 = .ok (.getfield 65, 3) := by decide +kernel
theorem dX8_payYearsSince_8 : decode cX8_payYearsSince 8 = .ok (.getfield 258, 3) := by decide +kernel
theorem dX8_payYearsSince_11 : decode cX8_payYearsSince 11 = .ok (.iload_n 2, 1) := by decide +kernel
theorem dX8_payYearsSince_12 : decode cX8_payYearsSince 12 = .ok (.iaload, 1) := by decide +kernel
theorem dX8_payYearsSince_13 : decode cX8_payYearsSince 13 = .ok (.isub, 1) := by decide +kernel
theorem dX8_payYearsSince_14 : decode cX8_payYearsSince 14 = .ok (.sipush 360, 3) := by decide +kernel
theorem dX8_payYearsSince_17 : decode cX8_payYearsSince 17 = .ok (.idiv, 1) := by decide +kernel
theorem dX8_payYearsSince_18 : decode cX8_payYearsSince 18 = .ok (.istore_n 3, 1) := by decide +kernel
theorem dX8_payYearsSince_19 : decode cX8_payYearsSince 19 = .ok (.iload_n 1, 1) := by decide +kernel
theorem dX8_payYearsSince_20 : decode cX8_payYearsSince 20 = .ok (.aload_n 0, 1) := by decide +kernel
theorem dX8_payYearsSince_21 : decode cX8_payYearsSince 21 = .ok (.getfield 65, 3) := by decide +kernel
theorem dX8_payYearsSince_24 : decode cX8_payYearsSince 24 = .ok (.getfield 258, 3) := by decide +kernel
theorem dX8_payYearsSince_27 : decode cX8_payYearsSince 27 = .ok (.iload_n 2, 1) := by decide +kernel
theorem dX8_payYearsSince_28 : decode cX8_payYearsSince 28 = .ok (.iaload, 1) := by decide +kernel
theorem dX8_payYearsSince_29 : decode cX8_payYearsSince 29 = .ok (.isub, 1) := by decide +kernel
theorem dX8_payYearsSince_30 : decode cX8_payYearsSince 30 = .ok (.sipush 360, 3) := by decide +kernel
theorem dX8_payYearsSince_33 : decode cX8_payYearsSince 33 = .ok (.idiv, 1) := by decide +kernel
theorem dX8_payYearsSince_34 : decode cX8_payYearsSince 34 = .ok (.istore 4, 2) := by decide +kernel
theorem dX8_payYearsSince_36 : decode cX8_payYearsSince 36 = .ok (.iload_n 3, 1) := by decide +kernel
theorem dX8_payYearsSince_37 : decode cX8_payYearsSince 37 = .ok (.iload 4, 2) := by decide +kernel
theorem dX8_payYearsSince_39 : decode cX8_payYearsSince 39 = .ok (.if_icmp .ne 5, 3) := by decide +kernel
theorem dX8_payYearsSince_42 : decode cX8_payYearsSince 42 = .ok (.iconst 0, 1) := by decide +kernel
theorem dX8_payYearsSince_43 : decode cX8_payYearsSince 43 = .ok (.ireturn, 1) := by decide +kernel
theorem dX8_payYearsSince_44 : decode cX8_payYearsSince 44 = .ok (.aload_n 0, 1) := by decide +kernel
theorem dX8_payYearsSince_45 : decode cX8_payYearsSince 45 = .ok (.iload_n 2, 1) := by decide +kernel
theorem dX8_payYearsSince_46 : decode cX8_payYearsSince 46 = .ok (.invokevirtual 227, 3) := by decide +kernel
theorem dX8_payYearsSince_49 : decode cX8_payYearsSince 49 = .ok (.istore 5, 2) := by decide +kernel
theorem dX8_payYearsSince_51 : decode cX8_payYearsSince 51 = .ok (.iload 5, 2) := by decide +kernel
theorem dX8_payYearsSince_53 : decode cX8_payYearsSince 53 = .ok (.bipush (-9), 2) := by decide +kernel
theorem dX8_payYearsSince_55 : decode cX8_payYearsSince 55 = .ok (.if_icmp .ne 5, 3) := by decide +kernel
theorem dX8_payYearsSince_58 : decode cX8_payYearsSince 58 = .ok (.iconst 0, 1) := by decide +kernel
theorem dX8_payYearsSince_59 : decode cX8_payYearsSince 59 = .ok (.ireturn, 1) := by decide +kernel
theorem dX8_payYearsSince_60 : decode cX8_payYearsSince 60 = .ok (.aload_n 0, 1) := by decide +kernel
theorem dX8_payYearsSince_61 : decode cX8_payYearsSince 61 = .ok (.aload_n 0, 1) := by decide +kernel
theorem dX8_payYearsSince_62 : decode cX8_payYearsSince 62 = .ok (.getfield 74, 3) := by decide +kernel
theorem dX8_payYearsSince_65 : decode cX8_payYearsSince 65 = .ok (.aload_n 0, 1) := by decide +kernel
theorem dX8_payYearsSince_66 : decode cX8_payYearsSince 66 = .ok (.getfield 74, 3) := by decide +kernel
theorem dX8_payYearsSince_69 : decode cX8_payYearsSince 69 = .ok (.getfield 148, 3) := by decide +kernel
theorem dX8_payYearsSince_72 : decode cX8_payYearsSince 72 = .ok (.iload_n 2, 1) := by decide +kernel
theorem dX8_payYearsSince_73 : decode cX8_payYearsSince 73 = .ok (.iaload, 1) := by decide +kernel
theorem dX8_payYearsSince_74 : decode cX8_payYearsSince 74 = .ok (.invokevirtual 219, 3) := by decide +kernel
theorem dX8_payYearsSince_77 : decode cX8_payYearsSince 77 = .ok (.aload_n 0, 1) := by decide +kernel
theorem dX8_payYearsSince_78 : decode cX8_payYearsSince 78 = .ok (.getfield 40, 3) := by decide +kernel
theorem dX8_payYearsSince_81 : decode cX8_payYearsSince 81 = .ok (.getfield 307, 3) := by decide +kernel
theorem dX8_payYearsSince_84 : decode cX8_payYearsSince 84 = .ok (.iload 5, 2) := by decide +kernel
theorem dX8_payYearsSince_86 : decode cX8_payYearsSince 86 = .ok (.iaload, 1) := by decide +kernel
theorem dX8_payYearsSince_87 : decode cX8_payYearsSince 87 = .ok (.aload_n 0, 1) := by decide +kernel
theorem dX8_payYearsSince_88 : decode cX8_payYearsSince 88 = .ok (.getfield 40, 3) := by decide +kernel
theorem dX8_payYearsSince_91 : decode cX8_payYearsSince 91 = .ok (.getfield 310, 3) := by decide +kernel
theorem dX8_payYearsSince_94 : decode cX8_payYearsSince 94 = .ok (.iload 5, 2) := by decide +kernel
theorem dX8_payYearsSince_96 : decode cX8_payYearsSince 96 = .ok (.iaload, 1) := by decide +kernel
theorem dX8_payYearsSince_97 : decode cX8_payYearsSince 97 = .ok (.invokestatic 246, 3) := by decide +kernel
theorem dX8_payYearsSince_100 : decode cX8_payYearsSince 100 = .ok (.istore 6, 2) := by decide +kernel
theorem dX8_payYearsSince_102 : decode cX8_payYearsSince 102 = .ok (.iload 6, 2) := by decide +kernel
theorem dX8_payYearsSince_104 : decode cX8_payYearsSince 104 = .ok (.aload_n 0, 1) := by decide +kernel
theorem dX8_payYearsSince_105 : decode cX8_payYearsSince 105 = .ok (.getfield 74, 3) := by decide +kernel
theorem dX8_payYearsSince_108 : decode cX8_payYearsSince 108 = .ok (.iload_n 2, 1) := by decide +kernel
theorem dX8_payYearsSince_109 : decode cX8_payYearsSince 109 = .ok (.aload_n 0, 1) := by decide +kernel
theorem dX8_payYearsSince_110 : decode cX8_payYearsSince 110 = .ok (.getfield 51, 3) := by decide +kernel
theorem dX8_payYearsSince_113 : decode cX8_payYearsSince 113 = .ok (.iconst 1, 1) := by decide +kernel
theorem dX8_payYearsSince_114 : decode cX8_payYearsSince 114 = .ok (.iaload, 1) := by decide +kernel
theorem dX8_payYearsSince_115 : decode cX8_payYearsSince 115 = .ok (.invokevirtual 154, 3) := by decide +kernel
theorem dX8_payYearsSince_118 : decode cX8_payYearsSince 118 = .ok (.imul, 1) := by decide +kernel
theorem dX8_payYearsSince_119 : decode cX8_payYearsSince 119 = .ok (.sipush 1000, 3) := by decide +kernel
theorem dX8_payYearsSince_122 : decode cX8_payYearsSince 122 = .ok (.idiv, 1) := by decide +kernel
theorem dX8_payYearsSince_123 : decode cX8_payYearsSince 123 = .ok (.istore 7, 2) := by decide +kernel
theorem dX8_payYearsSince_125 : decode cX8_payYearsSince 125 = .ok (.iconst 0, 1) := by decide +kernel
theorem dX8_payYearsSince_126 : decode cX8_payYearsSince 126 = .ok (.istore 8, 2) := by decide +kernel
theorem dX8_payYearsSince_128 : decode cX8_payYearsSince 128 = .ok (.iload_n 3, 1) := by decide +kernel
theorem dX8_payYearsSince_129 : decode cX8_payYearsSince 129 = .ok (.aload_n 0, 1) := by decide +kernel
theorem dX8_payYearsSince_130 : decode cX8_payYearsSince 130 = .ok (.getfield 40, 3) := by decide +kernel
theorem dX8_payYearsSince_133 : decode cX8_payYearsSince 133 = .ok (.getfield 313, 3) := by decide +kernel
theorem dX8_payYearsSince_136 : decode cX8_payYearsSince 136 = .ok (.iload 5, 2) := by decide +kernel
theorem dX8_payYearsSince_138 : decode cX8_payYearsSince 138 = .ok (.iaload, 1) := by decide +kernel
theorem dX8_payYearsSince_139 : decode cX8_payYearsSince 139 = .ok (.invokestatic 282, 3) := by decide +kernel
theorem dX8_payYearsSince_142 : decode cX8_payYearsSince 142 = .ok (.istore 9, 2) := by decide +kernel
theorem dX8_payYearsSince_144 : decode cX8_payYearsSince 144 = .ok (.iload 4, 2) := by decide +kernel
theorem dX8_payYearsSince_146 : decode cX8_payYearsSince 146 = .ok (.iconst 1, 1) := by decide +kernel
theorem dX8_payYearsSince_147 : decode cX8_payYearsSince 147 = .ok (.iadd, 1) := by decide +kernel
theorem dX8_payYearsSince_148 : decode cX8_payYearsSince 148 = .ok (.istore 10, 2) := by decide +kernel
theorem dX8_payYearsSince_150 : decode cX8_payYearsSince 150 = .ok (.iload 10, 2) := by decide +kernel
theorem dX8_payYearsSince_152 : decode cX8_payYearsSince 152 = .ok (.iload 9, 2) := by decide +kernel
theorem dX8_payYearsSince_154 : decode cX8_payYearsSince 154 = .ok (.if_icmp .gt 23, 3) := by decide +kernel
theorem dX8_payYearsSince_157 : decode cX8_payYearsSince 157 = .ok (.aload_n 0, 1) := by decide +kernel
theorem dX8_payYearsSince_158 : decode cX8_payYearsSince 158 = .ok (.iload_n 2, 1) := by decide +kernel
theorem dX8_payYearsSince_159 : decode cX8_payYearsSince 159 = .ok (.iload 7, 2) := by decide +kernel
theorem dX8_payYearsSince_161 : decode cX8_payYearsSince 161 = .ok (.invokevirtual 316, 3) := by decide +kernel
theorem dX8_payYearsSince_164 : decode cX8_payYearsSince 164 = .ok (.iload 8, 2) := by decide +kernel
theorem dX8_payYearsSince_166 : decode cX8_payYearsSince 166 = .ok (.iload 7, 2) := by decide +kernel
theorem dX8_payYearsSince_168 : decode cX8_payYearsSince 168 = .ok (.iadd, 1) := by decide +kernel
theorem dX8_payYearsSince_169 : decode cX8_payYearsSince 169 = .ok (.istore 8, 2) := by decide +kernel
theorem dX8_payYearsSince_171 : decode cX8_payYearsSince 171 = .ok (.iinc 10 1, 3) := by decide +kernel
theorem dX8_payYearsSince_174 : decode cX8_payYearsSince 174 = .ok (.goto (-24), 3) := by decide +kernel
theorem dX8_payYearsSince_177 : decode cX8_payYearsSince 177 = .ok (.iload 8, 2) := by decide +kernel
theorem dX8_payYearsSince_179 : decode cX8_payYearsSince 179 = .ok (.ireturn, 1) := by decide +kernel
theorem dX8_payOut_0 : decode cX8_payOut 0 = .ok (.iload_n 2, 1) := by decide +kernel
theorem dX8_payOut_1 : decode cX8_payOut 1 = .ok (.iconst 1, 1) := by decide +kernel
theorem dX8_payOut_2 : decode cX8_payOut 2 = .ok (.aload_n 0, 1) := by decide +kernel
theorem dX8_payOut_3 : decode cX8_payOut 3 = .ok (.getfield 65, 3) := by decide +kernel
theorem dX8_payOut_6 : decode cX8_payOut 6 = .ok (.iload_n 1, 1) := by decide +kernel
theorem dX8_payOut_7 : decode cX8_payOut 7 = .ok (.invokevirtual 124, 3) := by decide +kernel
theorem dX8_payOut_10 : decode cX8_payOut 10 = .ok (.iadd, 1) := by decide +kernel
theorem dX8_payOut_11 : decode cX8_payOut 11 = .ok (.idiv, 1) := by decide +kernel
theorem dX8_payOut_12 : decode cX8_payOut 12 = .ok (.istore_n 3, 1) := by decide +kernel
theorem dX8_payOut_13 : decode cX8_payOut 13 = .ok (.iload_n 2, 1) := by decide +kernel
theorem dX8_payOut_14 : decode cX8_payOut 14 = .ok (.istore 4, 2) := by decide +kernel
theorem dX8_payOut_16 : decode cX8_payOut 16 = .ok (.iconst 0, 1) := by decide +kernel
theorem dX8_payOut_17 : decode cX8_payOut 17 = .ok (.istore 5, 2) := by decide +kernel
theorem dX8_payOut_19 : decode cX8_payOut 19 = .ok (.iload 5, 2) := by decide +kernel
theorem dX8_payOut_21 : decode cX8_payOut 21 = .ok (.aload_n 0, 1) := by decide +kernel
theorem dX8_payOut_22 : decode cX8_payOut 22 = .ok (.getfield 10, 3) := by decide +kernel
theorem dX8_payOut_25 : decode cX8_payOut 25 = .ok (.getfield 89, 3) := by decide +kernel
theorem dX8_payOut_28 : decode cX8_payOut 28 = .ok (.if_icmp .ge 46, 3) := by decide +kernel
theorem dX8_payOut_31 : decode cX8_payOut 31 = .ok (.aload_n 0, 1) := by decide +kernel
theorem dX8_payOut_32 : decode cX8_payOut 32 = .ok (.getfield 65, 3) := by decide +kernel
theorem dX8_payOut_35 : decode cX8_payOut 35 = .ok (.getfield 127, 3) := by decide +kernel
theorem dX8_payOut_38 : decode cX8_payOut 38 = .ok (.iload_n 1, 1) := by decide +kernel
theorem dX8_payOut_39 : decode cX8_payOut 39 = .ok (.laload, 1) := by decide +kernel
theorem dX8_payOut_40 : decode cX8_payOut 40 = .ok (.iload 5, 2) := by decide +kernel
theorem dX8_payOut_42 : decode cX8_payOut 42 = .ok (.invokestatic 120, 3) := by decide +kernel
theorem dX8_payOut_45 : decode cX8_payOut 45 = .ok (.ifCond .eq 23, 3) := by decide +kernel
theorem dX8_payOut_48 : decode cX8_payOut 48 = .ok (.aload_n 0, 1) := by decide +kernel
theorem dX8_payOut_49 : decode cX8_payOut 49 = .ok (.getfield 10, 3) := by decide +kernel
theorem dX8_payOut_52 : decode cX8_payOut 52 = .ok (.getfield 249, 3) := by decide +kernel
theorem dX8_payOut_55 : decode cX8_payOut 55 = .ok (.iload 5, 2) := by decide +kernel
theorem dX8_payOut_57 : decode cX8_payOut 57 = .ok (.dup2, 1) := by decide +kernel
theorem dX8_payOut_58 : decode cX8_payOut 58 = .ok (.iaload, 1) := by decide +kernel
theorem dX8_payOut_59 : decode cX8_payOut 59 = .ok (.iload_n 3, 1) := by decide +kernel
theorem dX8_payOut_60 : decode cX8_payOut 60 = .ok (.iadd, 1) := by decide +kernel
theorem dX8_payOut_61 : decode cX8_payOut 61 = .ok (.iastore, 1) := by decide +kernel
theorem dX8_payOut_62 : decode cX8_payOut 62 = .ok (.iload 4, 2) := by decide +kernel
theorem dX8_payOut_64 : decode cX8_payOut 64 = .ok (.iload_n 3, 1) := by decide +kernel
theorem dX8_payOut_65 : decode cX8_payOut 65 = .ok (.isub, 1) := by decide +kernel
theorem dX8_payOut_66 : decode cX8_payOut 66 = .ok (.istore 4, 2) := by decide +kernel
theorem dX8_payOut_68 : decode cX8_payOut 68 = .ok (.iinc 5 1, 3) := by decide +kernel
theorem dX8_payOut_71 : decode cX8_payOut 71 = .ok (.goto (-52), 3) := by decide +kernel
theorem dX8_payOut_74 : decode cX8_payOut 74 = .ok (.aload_n 0, 1) := by decide +kernel
theorem dX8_payOut_75 : decode cX8_payOut 75 = .ok (.getfield 10, 3) := by decide +kernel
theorem dX8_payOut_78 : decode cX8_payOut 78 = .ok (.getfield 249, 3) := by decide +kernel
theorem dX8_payOut_81 : decode cX8_payOut 81 = .ok (.aload_n 0, 1) := by decide +kernel
theorem dX8_payOut_82 : decode cX8_payOut 82 = .ok (.getfield 65, 3) := by decide +kernel
theorem dX8_payOut_85 : decode cX8_payOut 85 = .ok (.getfield 298, 3) := by decide +kernel
theorem dX8_payOut_88 : decode cX8_payOut 88 = .ok (.iload_n 1, 1) := by decide +kernel
theorem dX8_payOut_89 : decode cX8_payOut 89 = .ok (.iaload, 1) := by decide +kernel
theorem dX8_payOut_90 : decode cX8_payOut 90 = .ok (.dup2, 1) := by decide +kernel
theorem dX8_payOut_91 : decode cX8_payOut 91 = .ok (.iaload, 1) := by decide +kernel
theorem dX8_payOut_92 : decode cX8_payOut 92 = .ok (.iload 4, 2) := by decide +kernel
theorem dX8_payOut_94 : decode cX8_payOut 94 = .ok (.iadd, 1) := by decide +kernel
theorem dX8_payOut_95 : decode cX8_payOut 95 = .ok (.iastore, 1) := by decide +kernel
theorem dX8_payOut_96 : decode cX8_payOut 96 = .ok (.aload_n 0, 1) := by decide +kernel
theorem dX8_payOut_97 : decode cX8_payOut 97 = .ok (.getfield 65, 3) := by decide +kernel
theorem dX8_payOut_100 : decode cX8_payOut 100 = .ok (.getfield 261, 3) := by decide +kernel
theorem dX8_payOut_103 : decode cX8_payOut 103 = .ok (.iload_n 1, 1) := by decide +kernel
theorem dX8_payOut_104 : decode cX8_payOut 104 = .ok (.dup2, 1) := by decide +kernel
theorem dX8_payOut_105 : decode cX8_payOut 105 = .ok (.iaload, 1) := by decide +kernel
theorem dX8_payOut_106 : decode cX8_payOut 106 = .ok (.iload_n 2, 1) := by decide +kernel
theorem dX8_payOut_107 : decode cX8_payOut 107 = .ok (.iadd, 1) := by decide +kernel
theorem dX8_payOut_108 : decode cX8_payOut 108 = .ok (.iastore, 1) := by decide +kernel
theorem dX8_payOut_109 : decode cX8_payOut 109 = .ok (.return_, 1) := by decide +kernel
end
section
theorem dX9_init_0 : decode cX9_init 0 = .ok (.aload_n 0, 1) := by decide +kernel
theorem dX9_init_1 : decode cX9_init 1 = .ok (.invokespecial 1, 3) := by decide +kernel
theorem dX9_init_4 : decode cX9_init 4 = .ok (.aload_n 0, 1) := by decide +kernel
theorem dX9_init_5 : decode cX9_init 5 = .ok (.iconst 4, 1) := by decide +kernel
theorem dX9_init_6 : decode cX9_init 6 = .ok (.putfield 7, 3) := by decide +kernel
theorem dX9_init_9 : decode cX9_init 9 = .ok (.aload_n 0, 1) := by decide +kernel
theorem dX9_init_10 : decode cX9_init 10 = .ok (.sipush 600, 3) := by decide +kernel
theorem dX9_init_13 : decode cX9_init 13 = .ok (.putfield 13, 3) := by decide +kernel
theorem dX9_init_16 : decode cX9_init 16 = .ok (.aload_n 0, 1) := by decide +kernel
theorem dX9_init_17 : decode cX9_init 17 = .ok (.bipush 30, 2) := by decide +kernel
theorem dX9_init_19 : decode cX9_init 19 = .ok (.putfield 16, 3) := by decide +kernel
theorem dX9_init_22 : decode cX9_init 22 = .ok (.aload_n 0, 1) := by decide +kernel
theorem dX9_init_23 : decode cX9_init 23 = .ok (.iconst 1, 1) := by decide +kernel
theorem dX9_init_24 : decode cX9_init 24 = .ok (.putfield 19, 3) := by decide +kernel
theorem dX9_init_27 : decode cX9_init 27 = .ok (.aload_n 0, 1) := by decide +kernel
theorem dX9_init_28 : decode cX9_init 28 = .ok (.bipush 40, 2) := by decide +kernel
theorem dX9_init_30 : decode cX9_init 30 = .ok (.newarray .int, 2) := by decide +kernel
theorem dX9_init_32 : decode cX9_init 32 = .ok (.putfield 22, 3) := by decide +kernel
theorem dX9_init_35 : decode cX9_init 35 = .ok (.aload_n 0, 1) := by decide +kernel
theorem dX9_init_36 : decode cX9_init 36 = .ok (.bipush 40, 2) := by decide +kernel
theorem dX9_init_38 : decode cX9_init 38 = .ok (.newarray .int, 2) := by decide +kernel
theorem dX9_init_40 : decode cX9_init 40 = .ok (.putfield 26, 3) := by decide +kernel
theorem dX9_init_43 : decode cX9_init 43 = .ok (.aload_n 0, 1) := by decide +kernel
theorem dX9_init_44 : decode cX9_init 44 = .ok (.bipush 40, 2) := by decide +kernel
theorem dX9_init_46 : decode cX9_init 46 = .ok (.newarray .int, 2) := by decide +kernel
theorem dX9_init_48 : decode cX9_init 48 = .ok (.putfield 29, 3) := by decide +kernel
theorem dX9_init_51 : decode cX9_init 51 = .ok (.aload_n 0, 1) := by decide +kernel
theorem dX9_init_52 : decode cX9_init 52 = .ok (.bipush 40, 2) := by decide +kernel
theorem dX9_init_54 : decode cX9_init 54 = .ok (.newarray .int, 2) := by decide +kernel
theorem dX9_init_56 : decode cX9_init 56 = .ok (.putfield 32, 3) := by decide +kernel
theorem dX9_init_59 : decode cX9_init 59 = .ok (.aload_n 0, 1) := by decide +kernel
theorem dX9_init_60 : decode cX9_init 60 = .ok (.bipush 40, 2) := by decide +kernel
theorem dX9_init_62 : decode cX9_init 62 = .ok (.newarray .boolean, 2) := by decide +kernel
theorem dX9_init_64 : decode cX9_init 64 = .ok (.putfield 35, 3) := by decide +kernel
theorem dX9_init_67 : decode cX9_init 67 = .ok (.aload_n 0, 1) := by decide +kernel
theorem dX9_init_68 : decode cX9_init 68 = .ok (.sipush 1600, 3) := by decide +kernel
theorem dX9_init_71 : decode cX9_init 71 = .ok (.newarray .boolean, 2) := by decide +kernel
theorem dX9_init_73 : decode cX9_init 73 = .ok (.putfield 39, 3) := by decide +kernel
theorem dX9_init_76 : decode cX9_init 76 = .ok (.aload_n 0, 1) := by decide +kernel
theorem dX9_init_77 : decode cX9_init 77 = .ok (.bipush 40, 2) := by decide +kernel
theorem dX9_init_79 : decode cX9_init 79 = .ok (.newarray .int, 2) := by decide +kernel
theorem dX9_init_81 : decode cX9_init 81 = .ok (.putfield 42, 3) := by decide +kernel
theorem dX9_init_84 : decode cX9_init 84 = .ok (.aload_n 0, 1) := by decide +kernel
theorem dX9_init_85 : decode cX9_init 85 = .ok (.bipush 40, 2) := by decide +kernel
theorem dX9_init_87 : decode cX9_init 87 = .ok (.newarray .int, 2) := by decide +kernel
theorem dX9_init_89 : decode cX9_init 89 = .ok (.putfield 45, 3) := by decide +kernel
theorem dX9_init_92 : decode cX9_init 92 = .ok (.aload_n 0, 1) := by decide +kernel
theorem dX9_init_93 : decode cX9_init 93 = .ok (.bipush 40, 2) := by decide +kernel
theorem dX9_init_95 : decode cX9_init 95 = .ok (.newarray .int, 2) := by decide +kernel
theorem dX9_init_97 : decode cX9_init 97 = .ok (.putfield 48, 3) := by decide +kernel
theorem dX9_init_100 : decode cX9_init 100 = .ok (.aload_n 0, 1) := by decide +kernel
theorem dX9_init_101 : decode cX9_init 101 = .ok (.bipush 40, 2) := by decide +kernel
theorem dX9_init_103 : decode cX9_init 103 = .ok (.newarray .int, 2) := by decide +kernel
theorem dX9_init_105 : decode cX9_init 105 = .ok (.putfield 51, 3) := by decide +kernel
theorem dX9_init_108 : decode cX9_init 108 = .ok (.aload_n 0, 1) := by decide +kernel
theorem dX9_init_109 : decode cX9_init 109 = .ok (.bipush 40, 2) := by decide +kernel
theorem dX9_init_111 : decode cX9_init 111 = .ok (.newarray .int, 2) := by decide +kernel
theorem dX9_init_113 : decode cX9_init 113 = .ok (.putfield 54, 3) := by decide +kernel
theorem dX9_init_116 : decode cX9_init 116 = .ok (.aload_n 0, 1) := by decide +kernel
theorem dX9_init_117 : decode cX9_init 117 = .ok (.bipush 40, 2) := by decide +kernel
theorem dX9_init_119 : decode cX9_init 119 = .ok (.newarray .int, 2) := by decide +kernel
theorem dX9_init_121 : decode cX9_init 121 = .ok (.putfield 57, 3) := by decide +kernel
theorem dX9_init_124 : decode cX9_init 124 = .ok (.aload_n 0, 1) := by decide +kernel
theorem dX9_init_125 : decode cX9_init 125 = .ok (.bipush 40, 2) := by decide +kernel
theorem dX9_init_127 : decode cX9_init 127 = .ok (.newarray .int, 2) := by decide +kernel
theorem dX9_init_129 : decode cX9_init 129 = .ok (.putfield 60, 3) := by decide +kernel
theorem dX9_init_132 : decode cX9_init 132 = .ok (.aload_n 0, 1) := by decide +kernel
theorem dX9_init_133 : decode cX9_init 133 = .ok (.bipush 40, 2) := by decide +kernel
theorem dX9_init_135 : decode cX9_init 135 = .ok (.newarray .int, 2) := by decide +kernel
theorem dX9_init_137 : decode cX9_init 137 = .ok (.putfield 63, 3) := by decide +kernel
theorem dX9_init_140 : decode cX9_init 140 = .ok (.aload_n 0, 1) := by decide +kernel
theorem dX9_init_141 : decode cX9_init 141 = .ok (.bipush 40, 2) := by decide +kernel
theorem dX9_init_143 : decode cX9_init 143 = .ok (.newarray .int, 2) := by decide +kernel
theorem dX9_init_145 : decode cX9_init 145 = .ok (.putfield 66, 3) := by decide +kernel
theorem dX9_init_148 : decode cX9_init 148 = .ok (.aload_n 0, 1) := by decide +kernel
theorem dX9_init_149 : decode cX9_init 149 = .ok (.bipush 40, 2) := by decide +kernel
theorem dX9_init_151 : decode cX9_init 151 = .ok (.newarray .int, 2) := by decide +kernel
theorem dX9_init_153 : decode cX9_init 153 = .ok (.putfield 69, 3) := by decide +kernel
theorem dX9_init_156 : decode cX9_init 156 = .ok (.aload_n 0, 1) := by decide +kernel
theorem dX9_init_157 : decode cX9_init 157 = .ok (.sipush 240, 3) := by decide +kernel
theorem dX9_init_160 : decode cX9_init 160 = .ok (.newarray .int, 2) := by decide +kernel
theorem dX9_init_162 : decode cX9_init 162 = .ok (.putfield 72, 3) := by decide +kernel
theorem dX9_init_165 : decode cX9_init 165 = .ok (.aload_n 0, 1) := by decide +kernel
theorem dX9_init_166 : decode cX9_init 166 = .ok (.bipush 40, 2) := by decide +kernel
theorem dX9_init_168 : decode cX9_init 168 = .ok (.newarray .boolean, 2) := by decide +kernel
theorem dX9_init_170 : decode cX9_init 170 = .ok (.putfield 75, 3) := by decide +kernel
theorem dX9_init_173 : decode cX9_init 173 = .ok (.aload_n 0, 1) := by decide +kernel
theorem dX9_init_174 : decode cX9_init 174 = .ok (.bipush 10, 2) := by decide +kernel
theorem dX9_init_176 : decode cX9_init 176 = .ok (.newarray .int, 2) := by decide +kernel
theorem dX9_init_178 : decode cX9_init 178 = .ok (.putfield 78, 3) := by decide +kernel
theorem dX9_init_181 : decode cX9_init 181 = .ok (.aload_n 0, 1) := by decide +kernel
theorem dX9_init_182 : decode cX9_init 182 = .ok (.bipush 10, 2) := by decide +kernel
theorem dX9_init_184 : decode cX9_init 184 = .ok (.newarray .int, 2) := by decide +kernel
theorem dX9_init_186 : decode cX9_init 186 = .ok (.putfield 81, 3) := by decide +kernel
theorem dX9_init_189 : decode cX9_init 189 = .ok (.aload_n 0, 1) := by decide +kernel
theorem dX9_init_190 : decode cX9_init 190 = .ok (.sipush 200, 3) := by decide +kernel
theorem dX9_init_193 : decode cX9_init 193 = .ok (.newarray .int, 2) := by decide +kernel
theorem dX9_init_195 : decode cX9_init 195 = .ok (.putfield 84, 3) := by decide +kernel
theorem dX9_init_198 : decode cX9_init 198 = .ok (.aload_n 0, 1) := by decide +kernel
theorem dX9_init_199 : decode cX9_init 199 = .ok (.sipush 200, 3) := by decide +kernel
theorem dX9_init_202 : decode cX9_init 202 = .ok (.newarray .int, 2) := by decide +kernel
theorem dX9_init_204 : decode cX9_init 204 = .ok (.putfield 87, 3) := by decide +kernel
theorem dX9_init_207 : decode cX9_init 207 = .ok (.aload_n 0, 1) := by decide +kernel
theorem dX9_init_208 : decode cX9_init 208 = .ok (.sipush 200, 3) := by decide +kernel
theorem dX9_init_211 : decode cX9_init 211 = .ok (.newarray .int, 2) := by decide +kernel
theorem dX9_init_213 : decode cX9_init 213 = .ok (.putfield 90, 3) := by decide +kernel
theorem dX9_init_216 : decode cX9_init 216 = .ok (.aload_n 0, 1) := by decide +kernel
theorem dX9_init_217 : decode cX9_init 217 = .ok (.sipush 200, 3) := by decide +kernel
theorem dX9_init_220 : decode cX9_init 220 = .ok (.newarray .boolean, 2) := by decide +kernel
theorem dX9_init_222 : decode cX9_init 222 = .ok (.putfield 93, 3) := by decide +kernel
theorem dX9_init_225 : decode cX9_init 225 = .ok (.aload_n 0, 1) := by decide +kernel
theorem dX9_init_226 : decode cX9_init 226 = .ok (.bipush 20, 2) := by decide +kernel
theorem dX9_init_228 : decode cX9_init 228 = .ok (.newarray .int, 2) := by decide +kernel
theorem dX9_init_230 : decode cX9_init 230 = .ok (.putfield 96, 3) := by decide +kernel
theorem dX9_init_233 : decode cX9_init 233 = .ok (.aload_n 0, 1) := by decide +kernel
theorem dX9_init_234 : decode cX9_init 234 = .ok (.bipush 20, 2) := by decide +kernel
theorem dX9_init_236 : decode cX9_init 236 = .ok (.newarray .int, 2) := by decide +kernel
theorem dX9_init_238 : decode cX9_init 238 = .ok (.putfield 99, 3) := by decide +kernel
theorem dX9_init_241 : decode cX9_init 241 = .ok (.aload_n 0, 1) := by decide +kernel
theorem dX9_init_242 : decode cX9_init 242 = .ok (.bipush 20, 2) := by decide +kernel
theorem dX9_init_244 : decode cX9_init 244 = .ok (.newarray .int, 2) := by decide +kernel
theorem dX9_init_246 : decode cX9_init 246 = .ok (.putfield 102, 3) := by decide +kernel
theorem dX9_init_249 : decode cX9_init 249 = .ok (.aload_n 0, 1) := by decide +kernel
theorem dX9_init_250 : decode cX9_init 250 = .ok (.bipush 20, 2) := by decide +kernel
theorem dX9_init_252 : decode cX9_init 252 = .ok (.newarray .int, 2) := by decide +kernel
theorem dX9_init_254 : decode cX9_init 254 = .ok (.putfield 105, 3) := by decide +kernel
theorem dX9_init_257 : decode cX9_init 257 = .ok (.aload_n 0, 1) := by decide +kernel
theorem dX9_init_258 : decode cX9_init 258 = .ok (.bipush 20, 2) := by decide +kernel
theorem dX9_init_260 : decode cX9_init 260 = .ok (.newarray .int, 2) := by decide +kernel
theorem dX9_init_262 : decode cX9_init 262 = .ok (.putfield 108, 3) := by decide +kernel
theorem dX9_init_265 : decode cX9_init 265 = .ok (.aload_n 0, 1) := by decide +kernel
theorem dX9_init_266 : decode cX9_init 266 = .ok (.bipush 7, 2) := by decide +kernel
theorem dX9_init_268 : decode cX9_init 268 = .ok (.newarray .int, 2) := by decide +kernel
theorem dX9_init_270 : decode cX9_init 270 = .ok (.putfield 111, 3) := by decide +kernel
theorem dX9_init_273 : decode cX9_init 273 = .ok (.aload_n 0, 1) := by decide +kernel
theorem dX9_init_274 : decode cX9_init 274 = .ok (.bipush 40, 2) := by decide +kernel
theorem dX9_init_276 : decode cX9_init 276 = .ok (.newarray .int, 2) := by decide +kernel
theorem dX9_init_278 : decode cX9_init 278 = .ok (.putfield 114, 3) := by decide +kernel
theorem dX9_init_281 : decode cX9_init 281 = .ok (.iconst 0, 1) := by decide +kernel
theorem dX9_init_282 : decode cX9_init 282 = .ok (.istore_n 1, 1) := by decide +kernel
theorem dX9_init_283 : decode cX9_init 283 = .ok (.iload_n 1, 1) := by decide +kernel
theorem dX9_init_284 : decode cX9_init 284 = .ok (.bipush 10, 2) := by decide +kernel
theorem dX9_init_286 : decode cX9_init 286 = .ok (.if_icmp .ge 17, 3) := by decide +kernel
theorem dX9_init_289 : decode cX9_init 289 = .ok (.aload_n 0, 1) := by decide +kernel
theorem dX9_init_290 : decode cX9_init 290 = .ok (.getfield 81, 3) := by decide +kernel
theorem dX9_init_293 : decode cX9_init 293 = .ok (.iload_n 1, 1) := by decide +kernel
theorem dX9_init_294 : decode cX9_init 294 = .ok (.bipush 100, 2) := by decide +kernel
theorem dX9_init_296 : decode cX9_init 296 = .ok (.iastore, 1) := by decide +kernel
theorem dX9_init_297 : decode cX9_init 297 = .ok (.iinc 1 1, 3) := by decide +kernel
theorem dX9_init_300 : decode cX9_init 300 = .ok (.goto (-17), 3) := by decide +kernel
theorem dX9_init_303 : decode cX9_init 303 = .ok (.return_, 1) := by decide +kernel
theorem dX9_no_0 : decode cX9_no 0 = .ok (.aload_n 0, 1) := by decide +kernel
theorem dX9_no_1 : decode cX9_no 1 = .ok (.getfield 111, 3) := by decide +kernel
theorem dX9_no_4 : decode cX9_no 4 = .ok (.iload_n 1, 1) := by decide +kernel
theorem dX9_no_5 : decode cX9_no 5 = .ok (.ineg, 1) := by decide +kernel
theorem dX9_no_6 : decode cX9_no 6 = .ok (.dup2, 1) := by decide +kernel
theorem dX9_no_7 : decode cX9_no 7 = .ok (.iaload, 1) := by decide +kernel
theorem dX9_no_8 : decode cX9_no 8 = .ok (.iconst 1, 1) := by decide +kernel
theorem dX9_no_9 : decode cX9_no 9 = .ok (.iadd, 1) := by decide +kernel
theorem dX9_no_10 : decode cX9_no 10 = .ok (.iastore, 1) := by decide +kernel
theorem dX9_no_11 : decode cX9_no 11 = .ok (.iload_n 1, 1) := by decide +kernel
theorem dX9_no_12 : decode cX9_no 12 = .ok (.ireturn, 1) := by decide +kernel
theorem dX9_isShop_0 : decode cX9_isShop 0 = .ok (.iload_n 0, 1) := by decide +kernel
theorem dX9_isShop_1 : decode cX9_isShop 1 = .ok (.ifCond .lt 13, 3) := by decide +kernel
theorem dX9_isShop_4 : decode cX9_isShop 4 = .ok (.iload_n 0, 1) := by decide +kernel
theorem dX9_isShop_5 : decode cX9_isShop 5 = .ok (.bipush 8, 2) := by decide +kernel
theorem dX9_isShop_7 : decode cX9_isShop 7 = .ok (.if_icmp .ge 7, 3) := by decide +kernel
theorem dX9_isShop_10 : decode cX9_isShop 10 = .ok (.iconst 1, 1) := by decide +kernel
theorem dX9_isShop_11 : decode cX9_isShop 11 = .ok (.goto 4, 3) := by decide +kernel
theorem dX9_isShop_14 : decode cX9_isShop 14 = .ok (.iconst 0, 1) := by decide +kernel
theorem dX9_isShop_15 : decode cX9_isShop 15 = .ok (.ireturn, 1) := by decide +kernel
theorem dX9_isHand_0 : decode cX9_isHand 0 = .ok (.iload_n 1, 1) := by decide +kernel
theorem dX9_isHand_1 : decode cX9_isHand 1 = .ok (.ifCond .lt 15, 3) := by decide +kernel
theorem dX9_isHand_4 : decode cX9_isHand 4 = .ok (.iload_n 1, 1) := by decide +kernel
theorem dX9_isHand_5 : decode cX9_isHand 5 = .ok (.aload_n 0, 1) := by decide +kernel
theorem dX9_isHand_6 : decode cX9_isHand 6 = .ok (.getfield 117, 3) := by decide +kernel
theorem dX9_isHand_9 : decode cX9_isHand 9 = .ok (.if_icmp .ge 7, 3) := by decide +kernel
theorem dX9_isHand_12 : decode cX9_isHand 12 = .ok (.iconst 1, 1) := by decide +kernel
theorem dX9_isHand_13 : decode cX9_isHand 13 = .ok (.goto 4, 3) := by decide +kernel
theorem dX9_isHand_16 : decode cX9_isHand 16 = .ok (.iconst 0, 1) := by decide +kernel
theorem dX9_isHand_17 : decode cX9_isHand 17 = .ok (.ireturn, 1) := by decide +kernel
theorem dX9_isIdea_0 : decode cX9_isIdea 0 = .ok (.iload_n 1, 1) := by decide +kernel
theorem dX9_isIdea_1 : decode cX9_isIdea 1 = .ok (.ifCond .lt 15, 3) := by decide +kernel
theorem dX9_isIdea_4 : decode cX9_isIdea 4 = .ok (.iload_n 1, 1) := by decide +kernel
theorem dX9_isIdea_5 : decode cX9_isIdea 5 = .ok (.aload_n 0, 1) := by decide +kernel
theorem dX9_isIdea_6 : decode cX9_isIdea 6 = .ok (.getfield 120, 3) := by decide +kernel
theorem dX9_isIdea_9 : decode cX9_isIdea 9 = .ok (.if_icmp .ge 7, 3) := by decide +kernel
theorem dX9_isIdea_12 : decode cX9_isIdea 12 = .ok (.iconst 1, 1) := by decide +kernel
theorem dX9_isIdea_13 : decode cX9_isIdea 13 = .ok (.goto 4, 3) := by decide +kernel
theorem dX9_isIdea_16 : decode cX9_isIdea 16 = .ok (.iconst 0, 1) := by decide +kernel
theorem dX9_isIdea_17 : decode cX9_isIdea 17 = .ok (.ireturn, 1) := by decide +kernel
theorem dX9_isBench_0 : decode cX9_isBench 0 = .ok (.iload_n 0, 1) := by decide +kernel
theorem dX9_isBench_1 : decode cX9_isBench 1 = .ok (.ifCond .lt 13, 3) := by decide +kernel
theorem dX9_isBench_4 : decode cX9_isBench 4 = .ok (.iload_n 0, 1) := by decide +kernel
theorem dX9_isBench_5 : decode cX9_isBench 5 = .ok (.bipush 10, 2) := by decide +kernel
theorem dX9_isBench_7 : decode cX9_isBench 7 = .ok (.if_icmp .ge 7, 3) := by decide +kernel
theorem dX9_isBench_10 : decode cX9_isBench 10 = .ok (.iconst 1, 1) := by decide +kernel
theorem dX9_isBench_11 : decode cX9_isBench 11 = .ok (.goto 4, 3) := by decide +kernel
theorem dX9_isBench_14 : decode cX9_isBench 14 = .ok (.iconst 0, 1) := by decide +kernel
theorem dX9_isBench_15 : decode cX9_isBench 15 = .ok (.ireturn, 1) := by decide +kernel
theorem dX9_isMarks_0 : decode cX9_isMarks 0 = .ok (.iload_n 0, 1) := by decide +kernel
theorem dX9_isMarks_1 : decode cX9_isMarks 1 = .ok (.ifCond .le 13, 3) := by decide +kernel
theorem dX9_isMarks_4 : decode cX9_isMarks 4 = .ok (.iload_n 0, 1) := by decide +kernel
theorem dX9_isMarks_5 : decode cX9_isMarks 5 = .ok (.ldc 123, 2) := by decide +kernel
theorem dX9_isMarks_7 : decode cX9_isMarks 7 = .ok (.if_icmp .ge 7, 3) := by decide +kernel
theorem dX9_isMarks_10 : decode cX9_isMarks 10 = .ok (.iconst 1, 1) := by decide +kernel
theorem dX9_isMarks_11 : decode cX9_isMarks 11 = .ok (.goto 4, 3) := by decide +kernel
theorem dX9_isMarks_14 : decode cX9_isMarks 14 = .ok (.iconst 0, 1) := by decide +kernel
theorem dX9_isMarks_15 : decode cX9_isMarks 15 = .ok (.ireturn, 1) := by decide +kernel
theorem dX9_hand_0 : decode cX9_hand 0 = .ok (.iload_n 1, 1) := by decide +kernel
theorem dX9_hand_1 : decode cX9_hand 1 = .ok (.invokestatic 124, 3) := by decide +kernel
theorem dX9_hand_4 : decode cX9_hand 4 = .ok (.ifCond .ne 9, 3) := by decide +kernel
theorem dX9_hand_7 : decode cX9_hand 7 = .ok (.aload_n 0, 1) := by decide +kernel
theorem dX9_hand_8 : decode cX9_hand 8 = .ok (.iconst (-1), 1) := by decide +kernel
theorem dX9_hand_9 : decode cX9_hand 9 = .ok (.invokevirtual 128, 3) := by decide +kernel
theorem dX9_hand_12 : decode cX9_hand 12 = .ok (.ireturn, 1) := by decide +kernel
theorem dX9_hand_13 : decode cX9_hand 13 = .ok (.aload_n 0, 1) := by decide +kernel
theorem dX9_hand_14 : decode cX9_hand 14 = .ok (.getfield 117, 3) := by decide +kernel
theorem dX9_hand_17 : decode cX9_hand 17 = .ok (.bipush 40, 2) := by decide +kernel
theorem dX9_hand_19 : decode cX9_hand 19 = .ok (.if_icmp .ne 10, 3) := by decide +kernel
theorem dX9_hand_22 : decode cX9_hand 22 = .ok (.aload_n 0, 1) := by decide +kernel
theorem dX9_hand_23 : decode cX9_hand 23 = .ok (.bipush (-6), 2) := by decide +kernel
theorem dX9_hand_25 : decode cX9_hand 25 = .ok (.invokevirtual 128, 3) := by decide +kernel
theorem dX9_hand_28 : decode cX9_hand 28 = .ok (.ireturn, 1) := by decide +kernel
theorem dX9_hand_29 : decode cX9_hand 29 = .ok (.aload_n 0, 1) := by decide +kernel
theorem dX9_hand_30 : decode cX9_hand 30 = .ok (.getfield 22, 3) := by decide +kernel
theorem dX9_hand_33 : decode cX9_hand 33 = .ok (.aload_n 0, 1) := by decide +kernel
theorem dX9_hand_34 : decode cX9_hand 34 = .ok (.getfield 117, 3) := by decide +kernel
theorem dX9_hand_37 : decode cX9_hand 37 = .ok (.iload_n 1, 1) := by decide +kernel
theorem dX9_hand_38 : decode cX9_hand 38 = .ok (.iastore, 1) := by decide +kernel
theorem dX9_hand_39 : decode cX9_hand 39 = .ok (.aload_n 0, 1) := by decide +kernel
theorem dX9_hand_40 : decode cX9_hand 40 = .ok (.dup, 1) := by decide +kernel
theorem dX9_hand_41 : decode cX9_hand 41 = .ok (.getfield 117, 3) := by decide +kernel
theorem dX9_hand_44 : decode cX9_hand 44 = .ok (.dup_x1, 1) := by decide +kernel
theorem dX9_hand_45 : decode cX9_hand 45 = .ok (.iconst 1, 1) := by decide +kernel
theorem dX9_hand_46 : decode cX9_hand 46 = .ok (.iadd, 1) := by decide +kernel
theorem dX9_hand_47 : decode cX9_hand 47 = .ok (.putfield 117, 3) := by decide +kernel
theorem dX9_hand_50 : decode cX9_hand 50 = .ok (.ireturn, 1) := by decide +kernel
theorem dX9_kin_0 : decode cX9_kin 0 = .ok (.aload_n 0, 1) := by decide +kernel
theorem dX9_kin_1 : decode cX9_kin 1 = .ok (.iload_n 1, 1) := by decide +kernel
theorem dX9_kin_2 : decode cX9_kin 2 = .ok (.invokevirtual 132, 3) := by decide +kernel
theorem dX9_kin_5 : decode cX9_kin 5 = .ok (.ifCond .eq 16, 3) := by decide +kernel
theorem dX9_kin_8 : decode cX9_kin 8 = .ok (.aload_n 0, 1) := by decide +kernel
theorem dX9_kin_9 : decode cX9_kin 9 = .ok (.iload_n 2, 1) := by decide +kernel
theorem dX9_kin_10 : decode cX9_kin 10 = .ok (.invokevirtual 132, 3) := by decide +kernel
theorem dX9_kin_13 : decode cX9_kin 13 = .ok (.ifCond .eq 8, 3) := by decide +kernel
theorem dX9_kin_16 : decode cX9_kin 16 = .ok (.iload_n 1, 1) := by decide +kernel
theorem dX9_kin_17 : decode cX9_kin 17 = .ok (.iload_n 2, 1) := by decide +kernel
theorem dX9_kin_18 : decode cX9_kin 18 = .ok (.if_icmp .ne 9, 3) := by decide +kernel
theorem dX9_kin_21 : decode cX9_kin 21 = .ok (.aload_n 0, 1) := by decide +kernel
theorem dX9_kin_22 : decode cX9_kin 22 = .ok (.iconst (-1), 1) := by decide +kernel
theorem dX9_kin_23 : decode cX9_kin 23 = .ok (.invokevirtual 128, 3) := by decide +kernel
theorem dX9_kin_26 : decode cX9_kin 26 = .ok (.ireturn, 1) := by decide +kernel
theorem dX9_kin_27 : decode cX9_kin 27 = .ok (.aload_n 0, 1) := by decide +kernel
theorem dX9_kin_28 : decode cX9_kin 28 = .ok (.getfield 39, 3) := by decide +kernel
theorem dX9_kin_31 : decode cX9_kin 31 = .ok (.bipush 40, 2) := by decide +kernel
theorem dX9_kin_33 : decode cX9_kin 33 = .ok (.iload_n 1, 1) := by decide +kernel
theorem dX9_kin_34 : decode cX9_kin 34 = .ok (.imul, 1) := by decide +kernel
theorem dX9_kin_35 : decode cX9_kin 35 = .ok (.iload_n 2, 1) := by decide +kernel
theorem dX9_kin_36 : decode cX9_kin 36 = .ok (.iadd, 1) := by decide +kernel
theorem dX9_kin_37 : decode cX9_kin 37 = .ok (.baload, 1) := by decide +kernel
theorem dX9_kin_38 : decode cX9_kin 38 = .ok (.iload_n 3, 1) := by decide +kernel
theorem dX9_kin_39 : decode cX9_kin 39 = .ok (.if_icmp .ne 5, 3) := by decide +kernel
theorem dX9_kin_42 : decode cX9_kin 42 = .ok (.iconst 0, 1) := by decide +kernel
theorem dX9_kin_43 : decode cX9_kin 43 = .ok (.ireturn, 1) := by decide +kernel
theorem dX9_kin_44 : decode cX9_kin 44 = .ok (.aload_n 0, 1) := by decide +kernel
theorem dX9_kin_45 : decode cX9_kin 45 = .ok (.getfield 39, 3) := by decide +kernel
theorem dX9_kin_48 : decode cX9_kin 48 = .ok (.bipush 40, 2) := by decide +kernel
theorem dX9_kin_50 : decode cX9_kin 50 = .ok (.iload_n 1, 1) := by decide +kernel
theorem dX9_kin_51 : decode cX9_kin 51 = .ok (.imul, 1) := by decide +kernel
theorem dX9_kin_52 : decode cX9_kin 52 = .ok (.iload_n 2, 1) := by decide +kernel
theorem dX9_kin_53 : decode cX9_kin 53 = .ok (.iadd, 1) := by decide +kernel
theorem dX9_kin_54 : decode cX9_kin 54 = .ok (.iload_n 3, 1) := by decide +kernel
theorem dX9_kin_55 : decode cX9_kin 55 = .ok (.bastore, 1) := by decide +kernel
theorem dX9_kin_56 : decode cX9_kin 56 = .ok (.aload_n 0, 1) := by decide +kernel
theorem dX9_kin_57 : decode cX9_kin 57 = .ok (.getfield 39, 3) := by decide +kernel
theorem dX9_kin_60 : decode cX9_kin 60 = .ok (.bipush 40, 2) := by decide +kernel
theorem dX9_kin_62 : decode cX9_kin 62 = .ok (.iload_n 2, 1) := by decide +kernel
theorem dX9_kin_63 : decode cX9_kin 63 = .ok (.imul, 1) := by decide +kernel
theorem dX9_kin_64 : decode cX9_kin 64 = .ok (.iload_n 1, 1) := by decide +kernel
theorem dX9_kin_65 : decode cX9_kin 65 = .ok (.iadd, 1) := by decide +kernel
theorem dX9_kin_66 : decode cX9_kin 66 = .ok (.iload_n 3, 1) := by decide +kernel
theorem dX9_kin_67 : decode cX9_kin 67 = .ok (.bastore, 1) := by decide +kernel
theorem dX9_kin_68 : decode cX9_kin 68 = .ok (.iconst 1, 1) := by decide +kernel
theorem dX9_kin_69 : decode cX9_kin 69 = .ok (.ireturn, 1) := by decide +kernel
theorem dX9_idea_0 : decode cX9_idea 0 = .ok (.aload_n 0, 1) := by decide +kernel
theorem dX9_idea_1 : decode cX9_idea 1 = .ok (.iload_n 1, 1) := by decide +kernel
theorem dX9_idea_2 : decode cX9_idea 2 = .ok (.invokevirtual 132, 3) := by decide +kernel
theorem dX9_idea_5 : decode cX9_idea 5 = .ok (.ifCond .eq 17, 3) := by decide +kernel
theorem dX9_idea_8 : decode cX9_idea 8 = .ok (.iload_n 2, 1) := by decide +kernel
theorem dX9_idea_9 : decode cX9_idea 9 = .ok (.invokestatic 124, 3) := by decide +kernel
theorem dX9_idea_12 : decode cX9_idea 12 = .ok (.ifCond .eq 10, 3) := by decide +kernel
theorem dX9_idea_15 : decode cX9_idea 15 = .ok (.iload_n 3, 1) := by decide +kernel
theorem dX9_idea_16 : decode cX9_idea 16 = .ok (.invokestatic 135, 3) := by decide +kernel
theorem dX9_idea_19 : decode cX9_idea 19 = .ok (.ifCond .ne 9, 3) := by decide +kernel
theorem dX9_idea_22 : decode cX9_idea 22 = .ok (.aload_n 0, 1) := by decide +kernel
theorem dX9_idea_23 : decode cX9_idea 23 = .ok (.iconst (-1), 1) := by decide +kernel
theorem dX9_idea_24 : decode cX9_idea 24 = .ok (.invokevirtual 128, 3) := by decide +kernel
theorem dX9_idea_27 : decode cX9_idea 27 = .ok (.ireturn, 1) := by decide +kernel
theorem dX9_idea_28 : decode cX9_idea 28 = .ok (.iload 4, 2) := by decide +kernel
theorem dX9_idea_30 : decode cX9_idea 30 = .ok (.ifCond .ge 10, 3) := by decide +kernel
theorem dX9_idea_33 : decode cX9_idea 33 = .ok (.aload_n 0, 1) := by decide +kernel
theorem dX9_idea_34 : decode cX9_idea 34 = .ok (.bipush (-4), 2) := by decide +kernel
theorem dX9_idea_36 : decode cX9_idea 36 = .ok (.invokevirtual 128, 3) := by decide +kernel
theorem dX9_idea_39 : decode cX9_idea 39 = .ok (.ireturn, 1) := by decide +kernel
theorem dX9_idea_40 : decode cX9_idea 40 = .ok (.iload 4, 2) := by decide +kernel
theorem dX9_idea_42 : decode cX9_idea 42 = .ok (.bipush 9, 2) := by decide +kernel
theorem dX9_idea_44 : decode cX9_idea 44 = .ok (.if_icmp .gt 12, 3) := by decide +kernel
theorem dX9_idea_47 : decode cX9_idea 47 = .ok (.aload_n 0, 1) := by decide +kernel
theorem dX9_idea_48 : decode cX9_idea 48 = .ok (.getfield 120, 3) := by decide +kernel
theorem dX9_idea_51 : decode cX9_idea 51 = .ok (.bipush 40, 2) := by decide +kernel
theorem dX9_idea_53 : decode cX9_idea 53 = .ok (.if_icmp .ne 10, 3) := by decide +kernel
theorem dX9_idea_56 : decode cX9_idea 56 = .ok (.aload_n 0, 1) := by decide +kernel
theorem dX9_idea_57 : decode cX9_idea 57 = .ok (.bipush (-6), 2) := by decide +kernel
theorem dX9_idea_59 : decode cX9_idea 59 = .ok (.invokevirtual 128, 3) := by decide +kernel
theorem dX9_idea_62 : decode cX9_idea 62 = .ok (.ireturn, 1) := by decide +kernel
theorem dX9_idea_63 : decode cX9_idea 63 = .ok (.aload_n 0, 1) := by decide +kernel
theorem dX9_idea_64 : decode cX9_idea 64 = .ok (.getfield 42, 3) := by decide +kernel
theorem dX9_idea_67 : decode cX9_idea 67 = .ok (.aload_n 0, 1) := by decide +kernel
theorem dX9_idea_68 : decode cX9_idea 68 = .ok (.getfield 120, 3) := by decide +kernel
theorem dX9_idea_71 : decode cX9_idea 71 = .ok (.iload_n 1, 1) := by decide +kernel
theorem dX9_idea_72 : decode cX9_idea 72 = .ok (.iastore, 1) := by decide +kernel
theorem dX9_idea_73 : decode cX9_idea 73 = .ok (.aload_n 0, 1) := by decide +kernel
theorem dX9_idea_74 : decode cX9_idea 74 = .ok (.getfield 45, 3) := by decide +kernel
theorem dX9_idea_77 : decode cX9_idea 77 = .ok (.aload_n 0, 1) := by decide +kernel
theorem dX9_idea_78 : decode cX9_idea 78 = .ok (.getfield 120, 3) := by decide +kernel
theorem dX9_idea_81 : decode cX9_idea 81 = .ok (.iload_n 2, 1) := by decide +kernel
theorem dX9_idea_82 : decode cX9_idea 82 = .ok (.iastore, 1) := by decide +kernel
theorem dX9_idea_83 : decode cX9_idea 83 = .ok (.aload_n 0, 1) := by decide +kernel
theorem dX9_idea_84 : decode cX9_idea 84 = .ok (.getfield 48, 3) := by decide +kernel
theorem dX9_idea_87 : decode cX9_idea 87 = .ok (.aload_n 0, 1) := by decide +kernel
theorem dX9_idea_88 : decode cX9_idea 88 = .ok (.getfield 120, 3) := by decide +kernel
theorem dX9_idea_91 : decode cX9_idea 91 = .ok (.iload_n 3, 1) := by decide +kernel
theorem dX9_idea_92 : decode cX9_idea 92 = .ok (.iastore, 1) := by decide +kernel
theorem dX9_idea_93 : decode cX9_idea 93 = .ok (.aload_n 0, 1) := by decide +kernel
theorem dX9_idea_94 : decode cX9_idea 94 = .ok (.getfield 51, 3) := by decide +kernel
theorem dX9_idea_97 : decode cX9_idea 97 = .ok (.aload_n 0, 1) := by decide +kernel
theorem dX9_idea_98 : decode cX9_idea 98 = .ok (.getfield 120, 3) := by decide +kernel
theorem dX9_idea_101 : decode cX9_idea 101 = .ok (.iload 4, 2) := by decide +kernel
theorem dX9_idea_103 : decode cX9_idea 103 = .ok (.iastore, 1) := by decide +kernel
theorem dX9_idea_104 : decode cX9_idea 104 = .ok (.aload_n 0, 1) := by decide +kernel
theorem dX9_idea_105 : decode cX9_idea 105 = .ok (.getfield 54, 3) := by decide +kernel
theorem dX9_idea_108 : decode cX9_idea 108 = .ok (.aload_n 0, 1) := by decide +kernel
theorem dX9_idea_109 : decode cX9_idea 109 = .ok (.getfield 120, 3) := by decide +kernel
theorem dX9_idea_112 : decode cX9_idea 112 = .ok (.aload_n 0, 1) := by decide +kernel
theorem dX9_idea_113 : decode cX9_idea 113 = .ok (.getfield 138, 3) := by decide +kernel
theorem dX9_idea_116 : decode cX9_idea 116 = .ok (.iastore, 1) := by decide +kernel
theorem dX9_idea_117 : decode cX9_idea 117 = .ok (.aload_n 0, 1) := by decide +kernel
theorem dX9_idea_118 : decode cX9_idea 118 = .ok (.getfield 60, 3) := by decide +kernel
theorem dX9_idea_121 : decode cX9_idea 121 = .ok (.aload_n 0, 1) := by decide +kernel
theorem dX9_idea_122 : decode cX9_idea 122 = .ok (.getfield 120, 3) := by decide +kernel
theorem dX9_idea_125 : decode cX9_idea 125 = .ok (.bipush (-9), 2) := by decide +kernel
theorem dX9_idea_127 : decode cX9_idea 127 = .ok (.iastore, 1) := by decide +kernel
theorem dX9_idea_128 : decode cX9_idea 128 = .ok (.aload_n 0, 1) := by decide +kernel
theorem dX9_idea_129 : decode cX9_idea 129 = .ok (.dup, 1) := by decide +kernel
theorem dX9_idea_130 : decode cX9_idea 130 = .ok (.getfield 120, 3) := by decide +kernel
theorem dX9_idea_133 : decode cX9_idea 133 = .ok (.dup_x1, 1) := by decide +kernel
theorem dX9_idea_134 : decode cX9_idea 134 = .ok (.iconst 1, 1) := by decide +kernel
theorem dX9_idea_135 : decode cX9_idea 135 = .ok (.iadd, 1) := by decide +kernel
theorem dX9_idea_136 : decode cX9_idea 136 = .ok (.putfield 120, 3) := by decide +kernel
theorem dX9_idea_139 : decode cX9_idea 139 = .ok (.ireturn, 1) := by decide +kernel
theorem dX9_isOf_0 : decode cX9_isOf 0 = .ok (.aload_n 0, 1) := by decide +kernel
theorem dX9_isOf_1 : decode cX9_isOf 1 = .ok (.getfield 42, 3) := by decide +kernel
theorem dX9_isOf_4 : decode cX9_isOf 4 = .ok (.iload_n 1, 1) := by decide +kernel
theorem dX9_isOf_5 : decode cX9_isOf 5 = .ok (.iaload, 1) := by decide +kernel
theorem dX9_isOf_6 : decode cX9_isOf 6 = .ok (.iload_n 2, 1) := by decide +kernel
theorem dX9_isOf_7 : decode cX9_isOf 7 = .ok (.if_icmp .ne 5, 3) := by decide +kernel
theorem dX9_isOf_10 : decode cX9_isOf 10 = .ok (.iconst 1, 1) := by decide +kernel
theorem dX9_isOf_11 : decode cX9_isOf 11 = .ok (.ireturn, 1) := by decide +kernel
theorem dX9_isOf_12 : decode cX9_isOf 12 = .ok (.iconst 0, 1) := by decide +kernel
theorem dX9_isOf_13 : decode cX9_isOf 13 = .ok (.istore_n 3, 1) := by decide +kernel
theorem dX9_isOf_14 : decode cX9_isOf 14 = .ok (.iload_n 3, 1) := by decide +kernel
theorem dX9_isOf_15 : decode cX9_isOf 15 = .ok (.aload_n 0, 1) := by decide +kernel
theorem dX9_isOf_16 : decode cX9_isOf 16 = .ok (.getfield 69, 3) := by decide +kernel
theorem dX9_isOf_19 : decode cX9_isOf 19 = .ok (.iload_n 1, 1) := by decide +kernel
theorem dX9_isOf_20 : decode cX9_isOf 20 = .ok (.iaload, 1) := by decide +kernel
theorem dX9_isOf_21 : decode cX9_isOf 21 = .ok (.if_icmp .ge 26, 3) := by decide +kernel
theorem dX9_isOf_24 : decode cX9_isOf 24 = .ok (.aload_n 0, 1) := by decide +kernel
theorem dX9_isOf_25 : decode cX9_isOf 25 = .ok (.getfield 72, 3) := by decide +kernel
theorem dX9_isOf_28 : decode cX9_isOf 28 = .ok (.bipush 6, 2) := by decide +kernel
theorem dX9_isOf_30 : decode cX9_isOf 30 = .ok (.iload_n 1, 1) := by decide +kernel
theorem dX9_isOf_31 : decode cX9_isOf 31 = .ok (.imul, 1) := by decide +kernel
theorem dX9_isOf_32 : decode cX9_isOf 32 = .ok (.iload_n 3, 1) := by decide +kernel
theorem dX9_isOf_33 : decode cX9_isOf 33 = .ok (.iadd, 1) := by decide +kernel
theorem dX9_isOf_34 : decode cX9_isOf 34 = .ok (.iaload, 1) := by decide +kernel
theorem dX9_isOf_35 : decode cX9_isOf 35 = .ok (.iload_n 2, 1) := by decide +kernel
theorem dX9_isOf_36 : decode cX9_isOf 36 = .ok (.if_icmp .ne 5, 3) := by decide +kernel
theorem dX9_isOf_39 : decode cX9_isOf 39 = .ok (.iconst 1, 1) := by decide +kernel
theorem dX9_isOf_40 : decode cX9_isOf 40 = .ok (.ireturn, 1) := by decide +kernel
theorem dX9_isOf_41 : decode cX9_isOf 41 = .ok (.iinc 3 1, 3) := by decide +kernel
theorem dX9_isOf_44 : decode cX9_isOf 44 = .ok (.goto (-30), 3) := by decide +kernel
theorem dX9_isOf_47 : decode cX9_isOf 47 = .ok (.iconst 0, 1) := by decide +kernel
theorem dX9_isOf_48 : decode cX9_isOf 48 = .ok (.ireturn, 1) := by decide +kernel
theorem dX9_team_0 : decode cX9_team 0 = .ok (.aload_n 0, 1) := by decide +kernel
theorem dX9_team_1 : decode cX9_team 1 = .ok (.iload_n 1, 1) := by decide +kernel
theorem dX9_team_2 : decode cX9_team 2 = .ok (.invokevirtual 141, 3) := by decide +kernel
theorem dX9_team_5 : decode cX9_team 5 = .ok (.ifCond .eq 11, 3) := by decide +kernel
theorem dX9_team_8 : decode cX9_team 8 = .ok (.aload_n 0, 1) := by decide +kernel
theorem dX9_team_9 : decode cX9_team 9 = .ok (.iload_n 2, 1) := by decide +kernel
theorem dX9_team_10 : decode cX9_team 10 = .ok (.invokevirtual 132, 3) := by decide +kernel
theorem dX9_team_13 : decode cX9_team 13 = .ok (.ifCond .ne 9, 3) := by decide +kernel
theorem dX9_team_16 : decode cX9_team 16 = .ok (.aload_n 0, 1) := by decide +kernel
theorem dX9_team_17 : decode cX9_team 17 = .ok (.iconst (-1), 1) := by decide +kernel
theorem dX9_team_18 : decode cX9_team 18 = .ok (.invokevirtual 128, 3) := by decide +kernel
theorem dX9_team_21 : decode cX9_team 21 = .ok (.ireturn, 1) := by decide +kernel
theorem dX9_team_22 : decode cX9_team 22 = .ok (.aload_n 0, 1) := by decide +kernel
theorem dX9_team_23 : decode cX9_team 23 = .ok (.iload_n 1, 1) := by decide +kernel
theorem dX9_team_24 : decode cX9_team 24 = .ok (.iload_n 2, 1) := by decide +kernel
theorem dX9_team_25 : decode cX9_team 25 = .ok (.invokevirtual 144, 3) := by decide +kernel
theorem dX9_team_28 : decode cX9_team 28 = .ok (.ifCond .eq 10, 3) := by decide +kernel
theorem dX9_team_31 : decode cX9_team 31 = .ok (.aload_n 0, 1) := by decide +kernel
theorem dX9_team_32 : decode cX9_team 32 = .ok (.bipush (-3), 2) := by decide +kernel
theorem dX9_team_34 : decode cX9_team 34 = .ok (.invokevirtual 128, 3) := by decide +kernel
theorem dX9_team_37 : decode cX9_team 37 = .ok (.ireturn, 1) := by decide +kernel
theorem dX9_team_38 : decode cX9_team 38 = .ok (.aload_n 0, 1) := by decide +kernel
theorem dX9_team_39 : decode cX9_team 39 = .ok (.getfield 69, 3) := by decide +kernel
theorem dX9_team_42 : decode cX9_team 42 = .ok (.iload_n 1, 1) := by decide +kernel
theorem dX9_team_43 : decode cX9_team 43 = .ok (.iaload, 1) := by decide +kernel
theorem dX9_team_44 : decode cX9_team 44 = .ok (.bipush 6, 2) := by decide +kernel
theorem dX9_team_46 : decode cX9_team 46 = .ok (.if_icmp .ne 10, 3) := by decide +kernel
theorem dX9_team_49 : decode cX9_team 49 = .ok (.aload_n 0, 1) := by decide +kernel
theorem dX9_team_50 : decode cX9_team 50 = .ok (.bipush (-6), 2) := by decide +kernel
theorem dX9_team_52 : decode cX9_team 52 = .ok (.invokevirtual 128, 3) := by decide +kernel
theorem dX9_team_55 : decode cX9_team 55 = .ok (.ireturn, 1) := by decide +kernel
theorem dX9_team_56 : decode cX9_team 56 = .ok (.aload_n 0, 1) := by decide +kernel
theorem dX9_team_57 : decode cX9_team 57 = .ok (.getfield 72, 3) := by decide +kernel
theorem dX9_team_60 : decode cX9_team 60 = .ok (.bipush 6, 2) := by decide +kernel
theorem dX9_team_62 : decode cX9_team 62 = .ok (.iload_n 1, 1) := by decide +kernel
theorem dX9_team_63 : decode cX9_team 63 = .ok (.imul, 1) := by decide +kernel
theorem dX9_team_64 : decode cX9_team 64 = .ok (.aload_n 0, 1) := by decide +kernel
theorem dX9_team_65 : decode cX9_team 65 = .ok (.getfield 69, 3) := by decide +kernel
theorem dX9_team_68 : decode cX9_team 68 = .ok (.iload_n 1, 1) := by decide +kernel
theorem dX9_team_69 : decode cX9_team 69 = .ok (.iaload, 1) := by decide +kernel
theorem dX9_team_70 : decode cX9_team 70 = .ok (.iadd, 1) := by decide +kernel
theorem dX9_team_71 : decode cX9_team 71 = .ok (.iload_n 2, 1) := by decide +kernel
theorem dX9_team_72 : decode cX9_team 72 = .ok (.iastore, 1) := by decide +kernel
theorem dX9_team_73 : decode cX9_team 73 = .ok (.aload_n 0, 1) := by decide +kernel
theorem dX9_team_74 : decode cX9_team 74 = .ok (.getfield 69, 3) := by decide +kernel
theorem dX9_team_77 : decode cX9_team 77 = .ok (.iload_n 1, 1) := by decide +kernel
theorem dX9_team_78 : decode cX9_team 78 = .ok (.dup2, 1) := by decide +kernel
theorem dX9_team_79 : decode cX9_team 79 = .ok (.iaload, 1) := by decide +kernel
theorem dX9_team_80 : decode cX9_team 80 = .ok (.iconst 1, 1) := by decide +kernel
theorem dX9_team_81 : decode cX9_team 81 = .ok (.iadd, 1) := by decide +kernel
theorem dX9_team_82 : decode cX9_team 82 = .ok (.dup_x2, 1) := by decide +kernel
theorem dX9_team_83 : decode cX9_team 83 = .ok (.iastore, 1) := by decide +kernel
theorem dX9_team_84 : decode cX9_team 84 = .ok (.ireturn, 1) := by decide +kernel
theorem dX9_set_0 : decode cX9_set 0 = .ok (.iload_n 1, 1) := by decide +kernel
theorem dX9_set_1 : decode cX9_set 1 = .ok (.ifCond .lt 8, 3) := by decide +kernel
theorem dX9_set_4 : decode cX9_set 4 = .ok (.iload_n 1, 1) := by decide +kernel
theorem dX9_set_5 : decode cX9_set 5 = .ok (.iconst 3, 1) := by decide +kernel
theorem dX9_set_6 : decode cX9_set 6 = .ok (.if_icmp .le 10, 3) := by decide +kernel
theorem dX9_set_9 : decode cX9_set 9 = .ok (.aload_n 0, 1) := by decide +kernel
theorem dX9_set_10 : decode cX9_set 10 = .ok (.bipush (-2), 2) := by decide +kernel
theorem dX9_set_12 : decode cX9_set 12 = .ok (.invokevirtual 128, 3) := by decide +kernel
theorem dX9_set_15 : decode cX9_set 15 = .ok (.ireturn, 1) := by decide +kernel
theorem dX9_set_16 : decode cX9_set 16 = .ok (.iload_n 2, 1) := by decide +kernel
theorem dX9_set_17 : decode cX9_set 17 = .ok (.iload_n 1, 1) := by decide +kernel
theorem dX9_set_18 : decode cX9_set 18 = .ok (.ifCond .ne 7, 3) := by decide +kernel
theorem dX9_set_21 : decode cX9_set 21 = .ok (.iconst 1, 1) := by decide +kernel
theorem dX9_set_22 : decode cX9_set 22 = .ok (.goto 4, 3) := by decide +kernel
theorem dX9_set_25 : decode cX9_set 25 = .ok (.iconst 0, 1) := by decide +kernel
theorem dX9_set_26 : decode cX9_set 26 = .ok (.if_icmp .ge 10, 3) := by decide +kernel
theorem dX9_set_29 : decode cX9_set 29 = .ok (.aload_n 0, 1) := by decide +kernel
theorem dX9_set_30 : decode cX9_set 30 = .ok (.bipush (-4), 2) := by decide +kernel
theorem dX9_set_32 : decode cX9_set 32 = .ok (.invokevirtual 128, 3) := by decide +kernel
theorem dX9_set_35 : decode cX9_set 35 = .ok (.ireturn, 1) := by decide +kernel
theorem dX9_set_36 : decode cX9_set 36 = .ok (.iload_n 2, 1) := by decide +kernel
theorem dX9_set_37 : decode cX9_set 37 = .ok (.iload_n 1, 1) := by decide +kernel
theorem dX9_set_38 : decode cX9_set 38 = .ok (.ifCond .ne 8, 3) := by decide +kernel
theorem dX9_set_41 : decode cX9_set 41 = .ok (.bipush 40, 2) := by decide +kernel
theorem dX9_set_43 : decode cX9_set 43 = .ok (.goto 26, 3) := by decide +kernel
theorem dX9_set_46 : decode cX9_set 46 = .ok (.iload_n 1, 1) := by decide +kernel
theorem dX9_set_47 : decode cX9_set 47 = .ok (.iconst 1, 1) := by decide +kernel
theorem dX9_set_48 : decode cX9_set 48 = .ok (.if_icmp .ne 9, 3) := by decide +kernel
theorem dX9_set_51 : decode cX9_set 51 = .ok (.sipush 1000, 3) := by decide +kernel
theorem dX9_set_54 : decode cX9_set 54 = .ok (.goto 15, 3) := by decide +kernel
theorem dX9_set_57 : decode cX9_set 57 = .ok (.iload_n 1, 1) := by decide +kernel
theorem dX9_set_58 : decode cX9_set 58 = .ok (.iconst 2, 1) := by decide +kernel
theorem dX9_set_59 : decode cX9_set 59 = .ok (.if_icmp .ne 8, 3) := by decide +kernel
theorem dX9_set_62 : decode cX9_set 62 = .ok (.bipush 100, 2) := by decide +kernel
theorem dX9_set_64 : decode cX9_set 64 = .ok (.goto 5, 3) := by decide +kernel
theorem dX9_set_67 : decode cX9_set 67 = .ok (.bipush 99, 2) := by decide +kernel
theorem dX9_set_69 : decode cX9_set 69 = .ok (.if_icmp .le 10, 3) := by decide +kernel
theorem dX9_set_72 : decode cX9_set 72 = .ok (.aload_n 0, 1) := by decide +kernel
theorem dX9_set_73 : decode cX9_set 73 = .ok (.bipush (-6), 2) := by decide +kernel
theorem dX9_set_75 : decode cX9_set 75 = .ok (.invokevirtual 128, 3) := by decide +kernel
theorem dX9_set_78 : decode cX9_set 78 = .ok (.ireturn, 1) := by decide +kernel
theorem dX9_set_79 : decode cX9_set 79 = .ok (.iload_n 1, 1) := by decide +kernel
theorem dX9_set_80 : decode cX9_set 80 = .ok (.ifCond .ne 10, 3) := by decide +kernel
theorem dX9_set_83 : decode cX9_set 83 = .ok (.aload_n 0, 1) := by decide +kernel
theorem dX9_set_84 : decode cX9_set 84 = .ok (.getfield 7, 3) := by decide +kernel
theorem dX9_set_87 : decode cX9_set 87 = .ok (.goto 31, 3) := by decide +kernel
theorem dX9_set_90 : decode cX9_set 90 = .ok (.iload_n 1, 1) := by decide +kernel
theorem dX9_set_91 : decode cX9_set 91 = .ok (.iconst 1, 1) := by decide +kernel
theorem dX9_set_92 : decode cX9_set 92 = .ok (.if_icmp .ne 10, 3) := by decide +kernel
theorem dX9_set_95 : decode cX9_set 95 = .ok (.aload_n 0, 1) := by decide +kernel
theorem dX9_set_96 : decode cX9_set 96 = .ok (.getfield 13, 3) := by decide +kernel
theorem dX9_set_99 : decode cX9_set 99 = .ok (.goto 19, 3) := by decide +kernel
theorem dX9_set_102 : decode cX9_set 102 = .ok (.iload_n 1, 1) := by decide +kernel
theorem dX9_set_103 : decode cX9_set 103 = .ok (.iconst 2, 1) := by decide +kernel
theorem dX9_set_104 : decode cX9_set 104 = .ok (.if_icmp .ne 10, 3) := by decide +kernel
theorem dX9_set_107 : decode cX9_set 107 = .ok (.aload_n 0, 1) := by decide +kernel
theorem dX9_set_108 : decode cX9_set 108 = .ok (.getfield 16, 3) := by decide +kernel
theorem dX9_set_111 : decode cX9_set 111 = .ok (.goto 7, 3) := by decide +kernel
theorem dX9_set_114 : decode cX9_set 114 = .ok (.aload_n 0, 1) := by decide +kernel
theorem dX9_set_115 : decode cX9_set 115 = .ok (.getfield 19, 3) := by decide +kernel
theorem dX9_set_118 : decode cX9_set 118 = .ok (.istore_n 3, 1) := by decide +kernel
theorem dX9_set_119 : decode cX9_set 119 = .ok (.iload_n 1, 1) := by decide +kernel
theorem dX9_set_120 : decode cX9_set 120 = .ok (.ifCond .ne 11, 3) := by decide +kernel
theorem dX9_set_123 : decode cX9_set 123 = .ok (.aload_n 0, 1) := by decide +kernel
theorem dX9_set_124 : decode cX9_set 124 = .ok (.iload_n 2, 1) := by decide +kernel
theorem dX9_set_125 : decode cX9_set 125 = .ok (.putfield 7, 3) := by decide +kernel
theorem dX9_set_128 : decode cX9_set 128 = .ok (.goto 34, 3) := by decide +kernel
theorem dX9_set_131 : decode cX9_set 131 = .ok (.iload_n 1, 1) := by decide +kernel
theorem dX9_set_132 : decode cX9_set 132 = .ok (.iconst 1, 1) := by decide +kernel
theorem dX9_set_133 : decode cX9_set 133 = .ok (.if_icmp .ne 11, 3) := by decide +kernel
theorem dX9_set_136 : decode cX9_set 136 = .ok (.aload_n 0, 1) := by decide +kernel
theorem dX9_set_137 : decode cX9_set 137 = .ok (.iload_n 2, 1) := by decide +kernel
theorem dX9_set_138 : decode cX9_set 138 = .ok (.putfield 13, 3) := by decide +kernel
theorem dX9_set_141 : decode cX9_set 141 = .ok (.goto 21, 3) := by decide +kernel
theorem dX9_set_144 : decode cX9_set 144 = .ok (.iload_n 1, 1) := by decide +kernel
theorem dX9_set_145 : decode cX9_set 145 = .ok (.iconst 2, 1) := by decide +kernel
theorem dX9_set_146 : decode cX9_set 146 = .ok (.if_icmp .ne 11, 3) := by decide +kernel
theorem dX9_set_149 : decode cX9_set 149 = .ok (.aload_n 0, 1) := by decide +kernel
theorem dX9_set_150 : decode cX9_set 150 = .ok (.iload_n 2, 1) := by decide +kernel
theorem dX9_set_151 : decode cX9_set 151 = .ok (.putfield 16, 3) := by decide +kernel
theorem dX9_set_154 : decode cX9_set 154 = .ok (.goto 8, 3) := by decide +kernel
theorem dX9_set_157 : decode cX9_set 157 = .ok (.aload_n 0, 1) := by decide +kernel
theorem dX9_set_158 : decode cX9_set 158 = .ok (.iload_n 2, 1) := by decide +kernel
theorem dX9_set_159 : decode cX9_set 159 = .ok (.putfield 19, 3) := by decide +kernel
theorem dX9_set_162 : decode cX9_set 162 = .ok (.iload_n 3, 1) := by decide +kernel
theorem dX9_set_163 : decode cX9_set 163 = .ok (.ireturn, 1) := by decide +kernel
theorem dX9_bits_0 : decode cX9_bits 0 = .ok (.iconst 0, 1) := by decide +kernel
theorem dX9_bits_1 : decode cX9_bits 1 = .ok (.istore_n 1, 1) := by decide +kernel
theorem dX9_bits_2 : decode cX9_bits 2 = .ok (.iconst 0, 1) := by decide +kernel
theorem dX9_bits_3 : decode cX9_bits 3 = .ok (.istore_n 2, 1) := by decide +kernel
theorem dX9_bits_4 : decode cX9_bits 4 = .ok (.iload_n 2, 1) := by decide +kernel
theorem dX9_bits_5 : decode cX9_bits 5 = .ok (.bipush 16, 2) := by decide +kernel
theorem dX9_bits_7 : decode cX9_bits 7 = .ok (.if_icmp .ge 17, 3) := by decide +kernel
theorem dX9_bits_10 : decode cX9_bits 10 = .ok (.iload_n 1, 1) := by decide +kernel
theorem dX9_bits_11 : decode cX9_bits 11 = .ok (.iload_n 0, 1) := by decide +kernel
theorem dX9_bits_12 : decode cX9_bits 12 = .ok (.iload_n 2, 1) := by decide +kernel
theorem dX9_bits_13 : decode cX9_bits 13 = .ok (.ishr, 1) := by decide +kernel
theorem dX9_bits_14 : decode cX9_bits 14 = .ok (.iconst 1, 1) := by decide +kernel
theorem dX9_bits_15 : decode cX9_bits 15 = .ok (.iand, 1) := by decide +kernel
theorem dX9_bits_16 : decode cX9_bits 16 = .ok (.iadd, 1) := by decide +kernel
theorem dX9_bits_17 : decode cX9_bits 17 = .ok (.istore_n 1, 1) := by decide +kernel
theorem dX9_bits_18 : decode cX9_bits 18 = .ok (.iinc 2 1, 3) := by decide +kernel
theorem dX9_bits_21 : decode cX9_bits 21 = .ok (.goto (-17), 3) := by decide +kernel
theorem dX9_bits_24 : decode cX9_bits 24 = .ok (.iload_n 1, 1) := by decide +kernel
theorem dX9_bits_25 : decode cX9_bits 25 = .ok (.ireturn, 1) := by decide +kernel
theorem dX9_likeness_0 : decode cX9_likeness 0 = .ok (.iconst 3, 1) := by decide +kernel
theorem dX9_likeness_1 : decode cX9_likeness 1 = .ok (.iload_n 0, 1) := by decide +kernel
theorem dX9_likeness_2 : decode cX9_likeness 2 = .ok (.iload_n 1, 1) := by decide +kernel
theorem dX9_likeness_3 : decode cX9_likeness 3 = .ok (.iand, 1) := by decide +kernel
theorem dX9_likeness_4 : decode cX9_likeness 4 = .ok (.invokestatic 148, 3) := by decide +kernel
theorem dX9_likeness_7 : decode cX9_likeness 7 = .ok (.imul, 1) := by decide +kernel
theorem dX9_likeness_8 : decode cX9_likeness 8 = .ok (.iload_n 0, 1) := by decide +kernel
theorem dX9_likeness_9 : decode cX9_likeness 9 = .ok (.iload_n 1, 1) := by decide +kernel
theorem dX9_likeness_10 : decode cX9_likeness 10 = .ok (.ixor, 1) := by decide +kernel
theorem dX9_likeness_11 : decode cX9_likeness 11 = .ok (.invokestatic 148, 3) := by decide +kernel
theorem dX9_likeness_14 : decode cX9_likeness 14 = .ok (.isub, 1) := by decide +kernel
theorem dX9_likeness_15 : decode cX9_likeness 15 = .ok (.ireturn, 1) := by decide +kernel
theorem dX9_like_0 : decode cX9_like 0 = .ok (.aload_n 0, 1) := by decide +kernel
theorem dX9_like_1 : decode cX9_like 1 = .ok (.iload_n 1, 1) := by decide +kernel
theorem dX9_like_2 : decode cX9_like 2 = .ok (.invokevirtual 141, 3) := by decide +kernel
theorem dX9_like_5 : decode cX9_like 5 = .ok (.ifCond .eq 33, 3) := by decide +kernel
theorem dX9_like_8 : decode cX9_like 8 = .ok (.aload_n 0, 1) := by decide +kernel
theorem dX9_like_9 : decode cX9_like 9 = .ok (.iload_n 2, 1) := by decide +kernel
theorem dX9_like_10 : decode cX9_like 10 = .ok (.invokevirtual 141, 3) := by decide +kernel
theorem dX9_like_13 : decode cX9_like 13 = .ok (.ifCond .eq 25, 3) := by decide +kernel
theorem dX9_like_16 : decode cX9_like 16 = .ok (.sipush 1000, 3) := by decide +kernel
theorem dX9_like_19 : decode cX9_like 19 = .ok (.aload_n 0, 1) := by decide +kernel
theorem dX9_like_20 : decode cX9_like 20 = .ok (.getfield 48, 3) := by decide +kernel
theorem dX9_like_23 : decode cX9_like 23 = .ok (.iload_n 1, 1) := by decide +kernel
theorem dX9_like_24 : decode cX9_like 24 = .ok (.iaload, 1) := by decide +kernel
theorem dX9_like_25 : decode cX9_like 25 = .ok (.aload_n 0, 1) := by decide +kernel
theorem dX9_like_26 : decode cX9_like 26 = .ok (.getfield 48, 3) := by decide +kernel
theorem dX9_like_29 : decode cX9_like 29 = .ok (.iload_n 2, 1) := by decide +kernel
theorem dX9_like_30 : decode cX9_like 30 = .ok (.iaload, 1) := by decide +kernel
theorem dX9_like_31 : decode cX9_like 31 = .ok (.invokestatic 151, 3) := by decide +kernel
theorem dX9_like_34 : decode cX9_like 34 = .ok (.iadd, 1) := by decide +kernel
theorem dX9_like_35 : decode cX9_like 35 = .ok (.goto 8, 3) := by decide +kernel
theorem dX9_like_38 : decode cX9_like 38 = .ok (.aload_n 0, 1) := by decide +kernel
theorem dX9_like_39 : decode cX9_like 39 = .ok (.iconst (-1), 1) := by decide +kernel
theorem dX9_like_40 : decode cX9_like 40 = .ok (.invokevirtual 128, 3) := by decide +kernel
theorem dX9_like_43 : decode cX9_like 43 = .ok (.ireturn, 1) := by decide +kernel
theorem dX9_families_0 : decode cX9_families 0 = .ok (.iconst 0, 1) := by decide +kernel
theorem dX9_families_1 : decode cX9_families 1 = .ok (.istore_n 2, 1) := by decide +kernel
theorem dX9_families_2 : decode cX9_families 2 = .ok (.iload_n 2, 1) := by decide +kernel
theorem dX9_families_3 : decode cX9_families 3 = .ok (.aload_n 0, 1) := by decide +kernel
theorem dX9_families_4 : decode cX9_families 4 = .ok (.getfield 120, 3) := by decide +kernel
theorem dX9_families_7 : decode cX9_families 7 = .ok (.if_icmp .ge 16, 3) := by decide +kernel
theorem dX9_families_10 : decode cX9_families 10 = .ok (.aload_n 0, 1) := by decide +kernel
theorem dX9_families_11 : decode cX9_families 11 = .ok (.getfield 114, 3) := by decide +kernel
theorem dX9_families_14 : decode cX9_families 14 = .ok (.iload_n 2, 1) := by decide +kernel
theorem dX9_families_15 : decode cX9_families 15 = .ok (.iload_n 2, 1) := by decide +kernel
theorem dX9_families_16 : decode cX9_families 16 = .ok (.iastore, 1) := by decide +kernel
theorem dX9_families_17 : decode cX9_families 17 = .ok (.iinc 2 1, 3) := by decide +kernel
theorem dX9_families_20 : decode cX9_families 20 = .ok (.goto (-18), 3) := by decide +kernel
theorem dX9_families_23 : decode cX9_families 23 = .ok (.iconst 1, 1) := by decide +kernel
theorem dX9_families_24 : decode cX9_families 24 = .ok (.istore_n 2, 1) := by decide +kernel
theorem dX9_families_25 : decode cX9_families 25 = .ok (.iload_n 2, 1) := by decide +kernel
theorem dX9_families_26 : decode cX9_families 26 = .ok (.ifCond .eq 147, 3) := by decide +kernel
theorem dX9_families_29 : decode cX9_families 29 = .ok (.iconst 0, 1) := by decide +kernel
theorem dX9_families_30 : decode cX9_families 30 = .ok (.istore_n 2, 1) := by decide +kernel
theorem dX9_families_31 : decode cX9_families 31 = .ok (.iconst 0, 1) := by decide +kernel
theorem dX9_families_32 : decode cX9_families 32 = .ok (.istore_n 3, 1) := by decide +kernel
theorem dX9_families_33 : decode cX9_families 33 = .ok (.iload_n 3, 1) := by decide +kernel
theorem dX9_families_34 : decode cX9_families 34 = .ok (.aload_n 0, 1) := by decide +kernel
theorem dX9_families_35 : decode cX9_families 35 = .ok (.getfield 120, 3) := by decide +kernel
theorem dX9_families_38 : decode cX9_families 38 = .ok (.if_icmp .ge 132, 3) := by decide +kernel
theorem dX9_families_41 : decode cX9_families 41 = .ok (.iconst 0, 1) := by decide +kernel
theorem dX9_families_42 : decode cX9_families 42 = .ok (.istore 4, 2) := by decide +kernel
theorem dX9_families_44 : decode cX9_families 44 = .ok (.iload 4, 2) := by decide +kernel
theorem dX9_families_46 : decode cX9_families 46 = .ok (.iload_n 3, 1) := by decide +kernel
theorem dX9_families_47 : decode cX9_families 47 = .ok (.if_icmp .ge 117, 3) := by decide +kernel
theorem dX9_families_50 : decode cX9_families 50 = .ok (.aload_n 0, 1) := by decide +kernel
theorem dX9_families_51 : decode cX9_families 51 = .ok (.getfield 114, 3) := by decide +kernel
theorem dX9_families_54 : decode cX9_families 54 = .ok (.iload_n 3, 1) := by decide +kernel
theorem dX9_families_55 : decode cX9_families 55 = .ok (.iaload, 1) := by decide +kernel
theorem dX9_families_56 : decode cX9_families 56 = .ok (.aload_n 0, 1) := by decide +kernel
theorem dX9_families_57 : decode cX9_families 57 = .ok (.getfield 114, 3) := by decide +kernel
theorem dX9_families_60 : decode cX9_families 60 = .ok (.iload 4, 2) := by decide +kernel
theorem dX9_families_62 : decode cX9_families 62 = .ok (.iaload, 1) := by decide +kernel
theorem dX9_families_63 : decode cX9_families 63 = .ok (.if_icmp .eq 95, 3) := by decide +kernel
theorem dX9_families_66 : decode cX9_families 66 = .ok (.aload_n 0, 1) := by decide +kernel
theorem dX9_families_67 : decode cX9_families 67 = .ok (.getfield 45, 3) := by decide +kernel
theorem dX9_families_70 : decode cX9_families 70 = .ok (.iload_n 3, 1) := by decide +kernel
theorem dX9_families_71 : decode cX9_families 71 = .ok (.iaload, 1) := by decide +kernel
theorem dX9_families_72 : decode cX9_families 72 = .ok (.aload_n 0, 1) := by decide +kernel
theorem dX9_families_73 : decode cX9_families 73 = .ok (.getfield 45, 3) := by decide +kernel
theorem dX9_families_76 : decode cX9_families 76 = .ok (.iload 4, 2) := by decide +kernel
theorem dX9_families_78 : decode cX9_families 78 = .ok (.iaload, 1) := by decide +kernel
theorem dX9_families_79 : decode cX9_families 79 = .ok (.if_icmp .ne 79, 3) := by decide +kernel
theorem dX9_families_82 : decode cX9_families 82 = .ok (.aload_n 0, 1) := by decide +kernel
theorem dX9_families_83 : decode cX9_families 83 = .ok (.getfield 48, 3) := by decide +kernel
theorem dX9_families_86 : decode cX9_families 86 = .ok (.iload_n 3, 1) := by decide +kernel
theorem dX9_families_87 : decode cX9_families 87 = .ok (.iaload, 1) := by decide +kernel
theorem dX9_families_88 : decode cX9_families 88 = .ok (.aload_n 0, 1) := by decide +kernel
theorem dX9_families_89 : decode cX9_families 89 = .ok (.getfield 48, 3) := by decide +kernel
theorem dX9_families_92 : decode cX9_families 92 = .ok (.iload 4, 2) := by decide +kernel
theorem dX9_families_94 : decode cX9_families 94 = .ok (.iaload, 1) := by decide +kernel
theorem dX9_families_95 : decode cX9_families 95 = .ok (.invokestatic 151, 3) := by decide +kernel
theorem dX9_families_98 : decode cX9_families 98 = .ok (.iload_n 1, 1) := by decide +kernel
theorem dX9_families_99 : decode cX9_families 99 = .ok (.if_icmp .ge 6, 3) := by decide +kernel
theorem dX9_families_102 : decode cX9_families 102 = .ok (.goto 56, 3) := by decide +kernel
theorem dX9_families_105 : decode cX9_families 105 = .ok (.aload_n 0, 1) := by decide +kernel
theorem dX9_families_106 : decode cX9_families 106 = .ok (.getfield 114, 3) := by decide +kernel
theorem dX9_families_109 : decode cX9_families 109 = .ok (.iload_n 3, 1) := by decide +kernel
theorem dX9_families_110 : decode cX9_families 110 = .ok (.iaload, 1) := by decide +kernel
theorem dX9_families_111 : decode cX9_families 111 = .ok (.aload_n 0, 1) := by decide +kernel
theorem dX9_families_112 : decode cX9_families 112 = .ok (.getfield 114, 3) := by decide +kernel
theorem dX9_families_115 : decode cX9_families 115 = .ok (.iload 4, 2) := by decide +kernel
theorem dX9_families_117 : decode cX9_families 117 = .ok (.iaload, 1) := by decide +kernel
theorem dX9_families_118 : decode cX9_families 118 = .ok (.if_icmp .ge 12, 3) := by decide +kernel
theorem dX9_families_121 : decode cX9_families 121 = .ok (.aload_n 0, 1) := by decide +kernel
theorem dX9_families_122 : decode cX9_families 122 = .ok (.getfield 114, 3) := by decide +kernel
theorem dX9_families_125 : decode cX9_families 125 = .ok (.iload_n 3, 1) := by decide +kernel
theorem dX9_families_126 : decode cX9_families 126 = .ok (.iaload, 1) := by decide +kernel
theorem dX9_families_127 : decode cX9_families 127 = .ok (.goto 10, 3) := by decide +kernel
theorem dX9_families_130 : decode cX9_families 130 = .ok (.aload_n 0, 1) := by decide +kernel
theorem dX9_families_131 : decode cX9_families 131 = .ok (.getfield 114, 3) := by decide +kernel
theorem dX9_families_134 : decode cX9_families 134 = .ok (.iload 4, 2) := by decide +kernel
theorem dX9_families_136 : decode cX9_families 136 = .ok (.iaload, 1) := by decide +kernel
theorem dX9_families_137 : decode cX9_families 137 = .ok (.istore 5, 2) := by decide +kernel
theorem dX9_families_139 : decode cX9_families 139 = .ok (.aload_n 0, 1) := by decide +kernel
theorem dX9_families_140 : decode cX9_families 140 = .ok (.getfield 114, 3) := by decide +kernel
theorem dX9_families_143 : decode cX9_families 143 = .ok (.iload_n 3, 1) := by decide +kernel
theorem dX9_families_144 : decode cX9_families 144 = .ok (.iload 5, 2) := by decide +kernel
theorem dX9_families_146 : decode cX9_families 146 = .ok (.iastore, 1) := by decide +kernel
theorem dX9_families_147 : decode cX9_families 147 = .ok (.aload_n 0, 1) := by decide +kernel
theorem dX9_families_148 : decode cX9_families 148 = .ok (.getfield 114, 3) := by decide +kernel
theorem dX9_families_151 : decode cX9_families 151 = .ok (.iload 4, 2) := by decide +kernel
theorem dX9_families_153 : decode cX9_families 153 = .ok (.iload 5, 2) := by decide +kernel
theorem dX9_families_155 : decode cX9_families 155 = .ok (.iastore, 1) := by decide +kernel
theorem dX9_families_156 : decode cX9_families 156 = .ok (.iconst 1, 1) := by decide +kernel
theorem dX9_families_157 : decode cX9_families 157 = .ok (.istore_n 2, 1) := by decide +kernel
theorem dX9_families_158 : decode cX9_families 158 = .ok (.iinc 4 1, 3) := by decide +kernel
theorem dX9_families_161 : decode cX9_families 161 = .ok (.goto (-117), 3) := by decide +kernel
theorem dX9_families_164 : decode cX9_families 164 = .ok (.iinc 3 1, 3) := by decide +kernel
theorem dX9_families_167 : decode cX9_families 167 = .ok (.goto (-134), 3) := by decide +kernel
theorem dX9_families_170 : decode cX9_families 170 = .ok (.goto (-145), 3) := by decide +kernel
theorem dX9_families_173 : decode cX9_families 173 = .ok (.return_, 1) := by decide +kernel
theorem dX9_family_0 : decode cX9_family 0 = .ok (.aload_n 0, 1) := by decide +kernel
theorem dX9_family_1 : decode cX9_family 1 = .ok (.iload_n 1, 1) := by decide +kernel
theorem dX9_family_2 : decode cX9_family 2 = .ok (.invokevirtual 141, 3) := by decide +kernel
theorem dX9_family_5 : decode cX9_family 5 = .ok (.ifCond .ne 9, 3) := by decide +kernel
theorem dX9_family_8 : decode cX9_family 8 = .ok (.aload_n 0, 1) := by decide +kernel
theorem dX9_family_9 : decode cX9_family 9 = .ok (.iconst (-1), 1) := by decide +kernel
theorem dX9_family_10 : decode cX9_family 10 = .ok (.invokevirtual 128, 3) := by decide +kernel
theorem dX9_family_13 : decode cX9_family 13 = .ok (.ireturn, 1) := by decide +kernel
theorem dX9_family_14 : decode cX9_family 14 = .ok (.aload_n 0, 1) := by decide +kernel
theorem dX9_family_15 : decode cX9_family 15 = .ok (.aload_n 0, 1) := by decide +kernel
theorem dX9_family_16 : decode cX9_family 16 = .ok (.getfield 7, 3) := by decide +kernel
theorem dX9_family_19 : decode cX9_family 19 = .ok (.invokevirtual 155, 3) := by decide +kernel
theorem dX9_family_22 : decode cX9_family 22 = .ok (.aload_n 0, 1) := by decide +kernel
theorem dX9_family_23 : decode cX9_family 23 = .ok (.getfield 114, 3) := by decide +kernel
theorem dX9_family_26 : decode cX9_family 26 = .ok (.iload_n 1, 1) := by decide +kernel
theorem dX9_family_27 : decode cX9_family 27 = .ok (.iaload, 1) := by decide +kernel
theorem dX9_family_28 : decode cX9_family 28 = .ok (.ireturn, 1) := by decide +kernel
theorem dX9_isAhead_0 : decode cX9_isAhead 0 = .ok (.aload_n 0, 1) := by decide +kernel
theorem dX9_isAhead_1 : decode cX9_isAhead 1 = .ok (.getfield 54, 3) := by decide +kernel
theorem dX9_isAhead_4 : decode cX9_isAhead 4 = .ok (.iload_n 1, 1) := by decide +kernel
theorem dX9_isAhead_5 : decode cX9_isAhead 5 = .ok (.iaload, 1) := by decide +kernel
theorem dX9_isAhead_6 : decode cX9_isAhead 6 = .ok (.aload_n 0, 1) := by decide +kernel
theorem dX9_isAhead_7 : decode cX9_isAhead 7 = .ok (.getfield 54, 3) := by decide +kernel
theorem dX9_isAhead_10 : decode cX9_isAhead 10 = .ok (.iload_n 2, 1) := by decide +kernel
theorem dX9_isAhead_11 : decode cX9_isAhead 11 = .ok (.iaload, 1) := by decide +kernel
theorem dX9_isAhead_12 : decode cX9_isAhead 12 = .ok (.if_icmp .eq 24, 3) := by decide +kernel
theorem dX9_isAhead_15 : decode cX9_isAhead 15 = .ok (.aload_n 0, 1) := by decide +kernel
theorem dX9_isAhead_16 : decode cX9_isAhead 16 = .ok (.getfield 54, 3) := by decide +kernel
theorem dX9_isAhead_19 : decode cX9_isAhead 19 = .ok (.iload_n 1, 1) := by decide +kernel
theorem dX9_isAhead_20 : decode cX9_isAhead 20 = .ok (.iaload, 1) := by decide +kernel
theorem dX9_isAhead_21 : decode cX9_isAhead 21 = .ok (.aload_n 0, 1) := by decide +kernel
theorem dX9_isAhead_22 : decode cX9_isAhead 22 = .ok (.getfield 54, 3) := by decide +kernel
theorem dX9_isAhead_25 : decode cX9_isAhead 25 = .ok (.iload_n 2, 1) := by decide +kernel
theorem dX9_isAhead_26 : decode cX9_isAhead 26 = .ok (.iaload, 1) := by decide +kernel
theorem dX9_isAhead_27 : decode cX9_isAhead 27 = .ok (.if_icmp .ge 7, 3) := by decide +kernel
theorem dX9_isAhead_30 : decode cX9_isAhead 30 = .ok (.iconst 1, 1) := by decide +kernel
theorem dX9_isAhead_31 : decode cX9_isAhead 31 = .ok (.goto 4, 3) := by decide +kernel
theorem dX9_isAhead_34 : decode cX9_isAhead 34 = .ok (.iconst 0, 1) := by decide +kernel
theorem dX9_isAhead_35 : decode cX9_isAhead 35 = .ok (.ireturn, 1) := by decide +kernel
theorem dX9_isAhead_36 : decode cX9_isAhead 36 = .ok (.aload_n 0, 1) := by decide +kernel
theorem dX9_isAhead_37 : decode cX9_isAhead 37 = .ok (.getfield 51, 3) := by decide +kernel
theorem dX9_isAhead_40 : decode cX9_isAhead 40 = .ok (.iload_n 1, 1) := by decide +kernel
theorem dX9_isAhead_41 : decode cX9_isAhead 41 = .ok (.iaload, 1) := by decide +kernel
theorem dX9_isAhead_42 : decode cX9_isAhead 42 = .ok (.aload_n 0, 1) := by decide +kernel
theorem dX9_isAhead_43 : decode cX9_isAhead 43 = .ok (.getfield 51, 3) := by decide +kernel
theorem dX9_isAhead_46 : decode cX9_isAhead 46 = .ok (.iload_n 2, 1) := by decide +kernel
theorem dX9_isAhead_47 : decode cX9_isAhead 47 = .ok (.iaload, 1) := by decide +kernel
theorem dX9_isAhead_48 : decode cX9_isAhead 48 = .ok (.if_icmp .eq 24, 3) := by decide +kernel
theorem dX9_isAhead_51 : decode cX9_isAhead 51 = .ok (.aload_n 0, 1) := by decide +kernel
theorem dX9_isAhead_52 : decode cX9_isAhead 52 = .ok (.getfield 51, 3) := by decide +kernel
theorem dX9_isAhead_55 : decode cX9_isAhead 55 = .ok (.iload_n 1, 1) := by decide +kernel
theorem dX9_isAhead_56 : decode cX9_isAhead 56 = .ok (.iaload, 1) := by decide +kernel
theorem dX9_isAhead_57 : decode cX9_isAhead 57 = .ok (.aload_n 0, 1) := by decide +kernel
theorem dX9_isAhead_58 : decode cX9_isAhead 58 = .ok (.getfield 51, 3) := by decide +kernel
theorem dX9_isAhead_61 : decode cX9_isAhead 61 = .ok (.iload_n 2, 1) := by decide +kernel
theorem dX9_isAhead_62 : decode cX9_isAhead 62 = .ok (.iaload, 1) := by decide +kernel
theorem dX9_isAhead_63 : decode cX9_isAhead 63 = .ok (.if_icmp .le 7, 3) := by decide +kernel
theorem dX9_isAhead_66 : decode cX9_isAhead 66 = .ok (.iconst 1, 1) := by decide +kernel
theorem dX9_isAhead_67 : decode cX9_isAhead 67 = .ok (.goto 4, 3) := by decide +kernel
theorem dX9_isAhead_70 : decode cX9_isAhead 70 = .ok (.iconst 0, 1) := by decide +kernel
theorem dX9_isAhead_71 : decode cX9_isAhead 71 = .ok (.ireturn, 1) := by decide +kernel
theorem dX9_isAhead_72 : decode cX9_isAhead 72 = .ok (.iload_n 1, 1) := by decide +kernel
theorem dX9_isAhead_73 : decode cX9_isAhead 73 = .ok (.iload_n 2, 1) := by decide +kernel
theorem dX9_isAhead_74 : decode cX9_isAhead 74 = .ok (.if_icmp .ge 7, 3) := by decide +kernel
theorem dX9_isAhead_77 : decode cX9_isAhead 77 = .ok (.iconst 1, 1) := by decide +kernel
theorem dX9_isAhead_78 : decode cX9_isAhead 78 = .ok (.goto 4, 3) := by decide +kernel
theorem dX9_isAhead_81 : decode cX9_isAhead 81 = .ok (.iconst 0, 1) := by decide +kernel
theorem dX9_isAhead_82 : decode cX9_isAhead 82 = .ok (.ireturn, 1) := by decide +kernel
theorem dX9_headOf_0 : decode cX9_headOf 0 = .ok (.bipush (-9), 2) := by decide +kernel
theorem dX9_headOf_2 : decode cX9_headOf 2 = .ok (.istore_n 2, 1) := by decide +kernel
theorem dX9_headOf_3 : decode cX9_headOf 3 = .ok (.iconst 0, 1) := by decide +kernel
theorem dX9_headOf_4 : decode cX9_headOf 4 = .ok (.istore_n 3, 1) := by decide +kernel
theorem dX9_headOf_5 : decode cX9_headOf 5 = .ok (.iload_n 3, 1) := by decide +kernel
theorem dX9_headOf_6 : decode cX9_headOf 6 = .ok (.aload_n 0, 1) := by decide +kernel
theorem dX9_headOf_7 : decode cX9_headOf 7 = .ok (.getfield 120, 3) := by decide +kernel
theorem dX9_headOf_10 : decode cX9_headOf 10 = .ok (.if_icmp .ge 36, 3) := by decide +kernel
theorem dX9_headOf_13 : decode cX9_headOf 13 = .ok (.aload_n 0, 1) := by decide +kernel
theorem dX9_headOf_14 : decode cX9_headOf 14 = .ok (.getfield 114, 3) := by decide +kernel
theorem dX9_headOf_17 : decode cX9_headOf 17 = .ok (.iload_n 3, 1) := by decide +kernel
theorem dX9_headOf_18 : decode cX9_headOf 18 = .ok (.iaload, 1) := by decide +kernel
theorem dX9_headOf_19 : decode cX9_headOf 19 = .ok (.iload_n 1, 1) := by decide +kernel
theorem dX9_headOf_20 : decode cX9_headOf 20 = .ok (.if_icmp .ne 20, 3) := by decide +kernel
theorem dX9_headOf_23 : decode cX9_headOf 23 = .ok (.iload_n 2, 1) := by decide +kernel
theorem dX9_headOf_24 : decode cX9_headOf 24 = .ok (.bipush (-9), 2) := by decide +kernel
theorem dX9_headOf_26 : decode cX9_headOf 26 = .ok (.if_icmp .eq 12, 3) := by decide +kernel
theorem dX9_headOf_29 : decode cX9_headOf 29 = .ok (.aload_n 0, 1) := by decide +kernel
theorem dX9_headOf_30 : decode cX9_headOf 30 = .ok (.iload_n 3, 1) := by decide +kernel
theorem dX9_headOf_31 : decode cX9_headOf 31 = .ok (.iload_n 2, 1) := by decide +kernel
theorem dX9_headOf_32 : decode cX9_headOf 32 = .ok (.invokevirtual 159, 3) := by decide +kernel
theorem dX9_headOf_35 : decode cX9_headOf 35 = .ok (.ifCond .eq 5, 3) := by decide +kernel
theorem dX9_headOf_38 : decode cX9_headOf 38 = .ok (.iload_n 3, 1) := by decide +kernel
theorem dX9_headOf_39 : decode cX9_headOf 39 = .ok (.istore_n 2, 1) := by decide +kernel
theorem dX9_headOf_40 : decode cX9_headOf 40 = .ok (.iinc 3 1, 3) := by decide +kernel
theorem dX9_headOf_43 : decode cX9_headOf 43 = .ok (.goto (-38), 3) := by decide +kernel
theorem dX9_headOf_46 : decode cX9_headOf 46 = .ok (.iload_n 2, 1) := by decide +kernel
theorem dX9_headOf_47 : decode cX9_headOf 47 = .ok (.ireturn, 1) := by decide +kernel
theorem dX9_head_0 : decode cX9_head 0 = .ok (.aload_n 0, 1) := by decide +kernel
theorem dX9_head_1 : decode cX9_head 1 = .ok (.iload_n 1, 1) := by decide +kernel
theorem dX9_head_2 : decode cX9_head 2 = .ok (.invokevirtual 141, 3) := by decide +kernel
theorem dX9_head_5 : decode cX9_head 5 = .ok (.ifCond .ne 9, 3) := by decide +kernel
theorem dX9_head_8 : decode cX9_head 8 = .ok (.aload_n 0, 1) := by decide +kernel
theorem dX9_head_9 : decode cX9_head 9 = .ok (.iconst (-1), 1) := by decide +kernel
theorem dX9_head_10 : decode cX9_head 10 = .ok (.invokevirtual 128, 3) := by decide +kernel
theorem dX9_head_13 : decode cX9_head 13 = .ok (.ireturn, 1) := by decide +kernel
theorem dX9_head_14 : decode cX9_head 14 = .ok (.aload_n 0, 1) := by decide +kernel
theorem dX9_head_15 : decode cX9_head 15 = .ok (.aload_n 0, 1) := by decide +kernel
theorem dX9_head_16 : decode cX9_head 16 = .ok (.getfield 7, 3) := by decide +kernel
theorem dX9_head_19 : decode cX9_head 19 = .ok (.invokevirtual 155, 3) := by decide +kernel
theorem dX9_head_22 : decode cX9_head 22 = .ok (.aload_n 0, 1) := by decide +kernel
theorem dX9_head_23 : decode cX9_head 23 = .ok (.aload_n 0, 1) := by decide +kernel
theorem dX9_head_24 : decode cX9_head 24 = .ok (.getfield 114, 3) := by decide +kernel
theorem dX9_head_27 : decode cX9_head 27 = .ok (.iload_n 1, 1) := by decide +kernel
theorem dX9_head_28 : decode cX9_head 28 = .ok (.iaload, 1) := by decide +kernel
theorem dX9_head_29 : decode cX9_head 29 = .ok (.invokevirtual 162, 3) := by decide +kernel
theorem dX9_head_32 : decode cX9_head 32 = .ok (.ireturn, 1) := by decide +kernel
theorem dX9_shareOf_0 : decode cX9_shareOf 0 = .ok (.aload_n 0, 1) := by decide +kernel
theorem dX9_shareOf_1 : decode cX9_shareOf 1 = .ok (.aload_n 0, 1) := by decide +kernel
theorem dX9_shareOf_2 : decode cX9_shareOf 2 = .ok (.getfield 114, 3) := by decide +kernel
theorem dX9_shareOf_5 : decode cX9_shareOf 5 = .ok (.iload_n 1, 1) := by decide +kernel
theorem dX9_shareOf_6 : decode cX9_shareOf 6 = .ok (.iaload, 1) := by decide +kernel
theorem dX9_shareOf_7 : decode cX9_shareOf 7 = .ok (.invokevirtual 162, 3) := by decide +kernel
theorem dX9_shareOf_10 : decode cX9_shareOf 10 = .ok (.istore_n 2, 1) := by decide +kernel
theorem dX9_shareOf_11 : decode cX9_shareOf 11 = .ok (.iconst 0, 1) := by decide +kernel
theorem dX9_shareOf_12 : decode cX9_shareOf 12 = .ok (.istore_n 3, 1) := by decide +kernel
theorem dX9_shareOf_13 : decode cX9_shareOf 13 = .ok (.iconst 0, 1) := by decide +kernel
theorem dX9_shareOf_14 : decode cX9_shareOf 14 = .ok (.istore 4, 2) := by decide +kernel
theorem dX9_shareOf_16 : decode cX9_shareOf 16 = .ok (.iconst 0, 1) := by decide +kernel
theorem dX9_shareOf_17 : decode cX9_shareOf 17 = .ok (.istore 5, 2) := by decide +kernel
theorem dX9_shareOf_19 : decode cX9_shareOf 19 = .ok (.iload 5, 2) := by decide +kernel
theorem dX9_shareOf_21 : decode cX9_shareOf 21 = .ok (.aload_n 0, 1) := by decide +kernel
theorem dX9_shareOf_22 : decode cX9_shareOf 22 = .ok (.getfield 120, 3) := by decide +kernel
theorem dX9_shareOf_25 : decode cX9_shareOf 25 = .ok (.if_icmp .ge 49, 3) := by decide +kernel
theorem dX9_shareOf_28 : decode cX9_shareOf 28 = .ok (.aload_n 0, 1) := by decide +kernel
theorem dX9_shareOf_29 : decode cX9_shareOf 29 = .ok (.getfield 114, 3) := by decide +kernel
theorem dX9_shareOf_32 : decode cX9_shareOf 32 = .ok (.iload 5, 2) := by decide +kernel
theorem dX9_shareOf_34 : decode cX9_shareOf 34 = .ok (.iaload, 1) := by decide +kernel
theorem dX9_shareOf_35 : decode cX9_shareOf 35 = .ok (.aload_n 0, 1) := by decide +kernel
theorem dX9_shareOf_36 : decode cX9_shareOf 36 = .ok (.getfield 114, 3) := by decide +kernel
theorem dX9_shareOf_39 : decode cX9_shareOf 39 = .ok (.iload_n 1, 1) := by decide +kernel
theorem dX9_shareOf_40 : decode cX9_shareOf 40 = .ok (.iaload, 1) := by decide +kernel
theorem dX9_shareOf_41 : decode cX9_shareOf 41 = .ok (.if_icmp .ne 27, 3) := by decide +kernel
theorem dX9_shareOf_44 : decode cX9_shareOf 44 = .ok (.iload 5, 2) := by decide +kernel
theorem dX9_shareOf_46 : decode cX9_shareOf 46 = .ok (.iload_n 2, 1) := by decide +kernel
theorem dX9_shareOf_47 : decode cX9_shareOf 47 = .ok (.if_icmp .ne 6, 3) := by decide +kernel
theorem dX9_shareOf_50 : decode cX9_shareOf 50 = .ok (.goto 18, 3) := by decide +kernel
theorem dX9_shareOf_53 : decode cX9_shareOf 53 = .ok (.iload_n 3, 1) := by decide +kernel
theorem dX9_shareOf_54 : decode cX9_shareOf 54 = .ok (.iconst 1, 1) := by decide +kernel
theorem dX9_shareOf_55 : decode cX9_shareOf 55 = .ok (.aload_n 0, 1) := by decide +kernel
theorem dX9_shareOf_56 : decode cX9_shareOf 56 = .ok (.getfield 51, 3) := by decide +kernel
theorem dX9_shareOf_59 : decode cX9_shareOf 59 = .ok (.iload 5, 2) := by decide +kernel
theorem dX9_shareOf_61 : decode cX9_shareOf 61 = .ok (.iaload, 1) := by decide +kernel
theorem dX9_shareOf_62 : decode cX9_shareOf 62 = .ok (.iadd, 1) := by decide +kernel
theorem dX9_shareOf_63 : decode cX9_shareOf 63 = .ok (.iadd, 1) := by decide +kernel
theorem dX9_shareOf_64 : decode cX9_shareOf 64 = .ok (.istore_n 3, 1) := by decide +kernel
theorem dX9_shareOf_65 : decode cX9_shareOf 65 = .ok (.iinc 4 1, 3) := by decide +kernel
theorem dX9_shareOf_68 : decode cX9_shareOf 68 = .ok (.iinc 5 1, 3) := by decide +kernel
theorem dX9_shareOf_71 : decode cX9_shareOf 71 = .ok (.goto (-52), 3) := by decide +kernel
theorem dX9_shareOf_74 : decode cX9_shareOf 74 = .ok (.iload 4, 2) := by decide +kernel
theorem dX9_shareOf_76 : decode cX9_shareOf 76 = .ok (.ifCond .ne 7, 3) := by decide +kernel
theorem dX9_shareOf_79 : decode cX9_shareOf 79 = .ok (.sipush 1000, 3) := by decide +kernel
theorem dX9_shareOf_82 : decode cX9_shareOf 82 = .ok (.ireturn, 1) := by decide +kernel
theorem dX9_shareOf_83 : decode cX9_shareOf 83 = .ok (.iload_n 1, 1) := by decide +kernel
theorem dX9_shareOf_84 : decode cX9_shareOf 84 = .ok (.iload_n 2, 1) := by decide +kernel
theorem dX9_shareOf_85 : decode cX9_shareOf 85 = .ok (.if_icmp .eq 23, 3) := by decide +kernel
theorem dX9_shareOf_88 : decode cX9_shareOf 88 = .ok (.sipush 1000, 3) := by decide +kernel
theorem dX9_shareOf_91 : decode cX9_shareOf 91 = .ok (.aload_n 0, 1) := by decide +kernel
theorem dX9_shareOf_92 : decode cX9_shareOf 92 = .ok (.getfield 13, 3) := by decide +kernel
theorem dX9_shareOf_95 : decode cX9_shareOf 95 = .ok (.isub, 1) := by decide +kernel
theorem dX9_shareOf_96 : decode cX9_shareOf 96 = .ok (.iconst 1, 1) := by decide +kernel
theorem dX9_shareOf_97 : decode cX9_shareOf 97 = .ok (.aload_n 0, 1) := by decide +kernel
theorem dX9_shareOf_98 : decode cX9_shareOf 98 = .ok (.getfield 51, 3) := by decide +kernel
theorem dX9_shareOf_101 : decode cX9_shareOf 101 = .ok (.iload_n 1, 1) := by decide +kernel
theorem dX9_shareOf_102 : decode cX9_shareOf 102 = .ok (.iaload, 1) := by decide +kernel
theorem dX9_shareOf_103 : decode cX9_shareOf 103 = .ok (.iadd, 1) := by decide +kernel
theorem dX9_shareOf_104 : decode cX9_shareOf 104 = .ok (.imul, 1) := by decide +kernel
theorem dX9_shareOf_105 : decode cX9_shareOf 105 = .ok (.iload_n 3, 1) := by decide +kernel
theorem dX9_shareOf_106 : decode cX9_shareOf 106 = .ok (.idiv, 1) := by decide +kernel
theorem dX9_shareOf_107 : decode cX9_shareOf 107 = .ok (.ireturn, 1) := by decide +kernel
theorem dX9_shareOf_108 : decode cX9_shareOf 108 = .ok (.sipush 1000, 3) := by decide +kernel
theorem dX9_shareOf_111 : decode cX9_shareOf 111 = .ok (.istore 5, 2) := by decide +kernel
theorem dX9_shareOf_113 : decode cX9_shareOf 113 = .ok (.iconst 0, 1) := by decide +kernel
theorem dX9_shareOf_114 : decode cX9_shareOf 114 = .ok (.istore 6, 2) := by decide +kernel
theorem dX9_shareOf_116 : decode cX9_shareOf 116 = .ok (.iload 6, 2) := by decide +kernel
theorem dX9_shareOf_118 : decode cX9_shareOf 118 = .ok (.aload_n 0, 1) := by decide +kernel
theorem dX9_shareOf_119 : decode cX9_shareOf 119 = .ok (.getfield 120, 3) := by decide +kernel
theorem dX9_shareOf_122 : decode cX9_shareOf 122 = .ok (.if_icmp .ge 56, 3) := by decide +kernel
theorem dX9_shareOf_125 : decode cX9_shareOf 125 = .ok (.aload_n 0, 1) := by decide +kernel
theorem dX9_shareOf_126 : decode cX9_shareOf 126 = .ok (.getfield 114, 3) := by decide +kernel
theorem dX9_shareOf_129 : decode cX9_shareOf 129 = .ok (.iload 6, 2) := by decide +kernel
theorem dX9_shareOf_131 : decode cX9_shareOf 131 = .ok (.iaload, 1) := by decide +kernel
theorem dX9_shareOf_132 : decode cX9_shareOf 132 = .ok (.aload_n 0, 1) := by decide +kernel
theorem dX9_shareOf_133 : decode cX9_shareOf 133 = .ok (.getfield 114, 3) := by decide +kernel
theorem dX9_shareOf_136 : decode cX9_shareOf 136 = .ok (.iload_n 1, 1) := by decide +kernel
theorem dX9_shareOf_137 : decode cX9_shareOf 137 = .ok (.iaload, 1) := by decide +kernel
theorem dX9_shareOf_138 : decode cX9_shareOf 138 = .ok (.if_icmp .ne 34, 3) := by decide +kernel
theorem dX9_shareOf_141 : decode cX9_shareOf 141 = .ok (.iload 6, 2) := by decide +kernel
theorem dX9_shareOf_143 : decode cX9_shareOf 143 = .ok (.iload_n 2, 1) := by decide +kernel
theorem dX9_shareOf_144 : decode cX9_shareOf 144 = .ok (.if_icmp .eq 28, 3) := by decide +kernel
theorem dX9_shareOf_147 : decode cX9_shareOf 147 = .ok (.iload 5, 2) := by decide +kernel
theorem dX9_shareOf_149 : decode cX9_shareOf 149 = .ok (.sipush 1000, 3) := by decide +kernel
theorem dX9_shareOf_152 : decode cX9_shareOf 152 = .ok (.aload_n 0, 1) := by decide +kernel
theorem dX9_shareOf_153 : decode cX9_shareOf 153 = .ok (.getfield 13, 3) := by decide +kernel
theorem dX9_shareOf_156 : decode cX9_shareOf 156 = .ok (.isub, 1) := by decide +kernel
theorem dX9_shareOf_157 : decode cX9_shareOf 157 = .ok (.iconst 1, 1) := by decide +kernel
theorem dX9_shareOf_158 : decode cX9_shareOf 158 = .ok (.aload_n 0, 1) := by decide +kernel
theorem dX9_shareOf_159 : decode cX9_shareOf 159 = .ok (.getfield 51, 3) := by decide +kernel
theorem dX9_shareOf_162 : decode cX9_shareOf 162 = .ok (.iload 6, 2) := by decide +kernel
theorem dX9_shareOf_164 : decode cX9_shareOf 164 = .ok (.iaload, 1) := by decide +kernel
theorem dX9_shareOf_165 : decode cX9_shareOf 165 = .ok (.iadd, 1) := by decide +kernel
theorem dX9_shareOf_166 : decode cX9_shareOf 166 = .ok (.imul, 1) := by decide +kernel
theorem dX9_shareOf_167 : decode cX9_shareOf 167 = .ok (.iload_n 3, 1) := by decide +kernel
theorem dX9_shareOf_168 : decode cX9_shareOf 168 = .ok (.idiv, 1) := by decide +kernel
theorem dX9_shareOf_169 : decode cX9_shareOf 169 = .ok (.isub, 1) := by decide +kernel
theorem dX9_shareOf_170 : decode cX9_shareOf 170 = .ok (.istore 5, 2) := by decide +kernel
theorem dX9_shareOf_172 : decode cX9_shareOf 172 = .ok (.iinc 6 1, 3) := by decide +kernel
theorem dX9_shareOf_175 : decode cX9_shareOf 175 = .ok (.goto (-59), 3) := by decide +kernel
theorem dX9_shareOf_178 : decode cX9_shareOf 178 = .ok (.iload 5, 2) := by decide +kernel
theorem dX9_shareOf_180 : decode cX9_shareOf 180 = .ok (.ireturn, 1) := by decide +kernel
theorem dX9_share_0 : decode cX9_share 0 = .ok (.aload_n 0, 1) := by decide +kernel
theorem dX9_share_1 : decode cX9_share 1 = .ok (.iload_n 1, 1) := by decide +kernel
theorem dX9_share_2 : decode cX9_share 2 = .ok (.invokevirtual 141, 3) := by decide +kernel
theorem dX9_share_5 : decode cX9_share 5 = .ok (.ifCond .ne 9, 3) := by decide +kernel
theorem dX9_share_8 : decode cX9_share 8 = .ok (.aload_n 0, 1) := by decide +kernel
theorem dX9_share_9 : decode cX9_share 9 = .ok (.iconst (-1), 1) := by decide +kernel
theorem dX9_share_10 : decode cX9_share 10 = .ok (.invokevirtual 128, 3) := by decide +kernel
theorem dX9_share_13 : decode cX9_share 13 = .ok (.ireturn, 1) := by decide +kernel
theorem dX9_share_14 : decode cX9_share 14 = .ok (.aload_n 0, 1) := by decide +kernel
theorem dX9_share_15 : decode cX9_share 15 = .ok (.aload_n 0, 1) := by decide +kernel
theorem dX9_share_16 : decode cX9_share 16 = .ok (.getfield 7, 3) := by decide +kernel
theorem dX9_share_19 : decode cX9_share 19 = .ok (.invokevirtual 155, 3) := by decide +kernel
theorem dX9_share_22 : decode cX9_share 22 = .ok (.aload_n 0, 1) := by decide +kernel
theorem dX9_share_23 : decode cX9_share 23 = .ok (.iload_n 1, 1) := by decide +kernel
theorem dX9_share_24 : decode cX9_share 24 = .ok (.invokevirtual 165, 3) := by decide +kernel
theorem dX9_share_27 : decode cX9_share 27 = .ok (.ireturn, 1) := by decide +kernel
theorem dX9_judge_0 : decode cX9_judge 0 = .ok (.aload_n 0, 1) := by decide +kernel
theorem dX9_judge_1 : decode cX9_judge 1 = .ok (.iload_n 1, 1) := by decide +kernel
theorem dX9_judge_2 : decode cX9_judge 2 = .ok (.invokevirtual 132, 3) := by decide +kernel
theorem dX9_judge_5 : decode cX9_judge 5 = .ok (.ifCond .ne 9, 3) := by decide +kernel
theorem dX9_judge_8 : decode cX9_judge 8 = .ok (.aload_n 0, 1) := by decide +kernel
theorem dX9_judge_9 : decode cX9_judge 9 = .ok (.iconst (-1), 1) := by decide +kernel
theorem dX9_judge_10 : decode cX9_judge 10 = .ok (.invokevirtual 128, 3) := by decide +kernel
theorem dX9_judge_13 : decode cX9_judge 13 = .ok (.ireturn, 1) := by decide +kernel
theorem dX9_judge_14 : decode cX9_judge 14 = .ok (.aload_n 0, 1) := by decide +kernel
theorem dX9_judge_15 : decode cX9_judge 15 = .ok (.getfield 35, 3) := by decide +kernel
theorem dX9_judge_18 : decode cX9_judge 18 = .ok (.iload_n 1, 1) := by decide +kernel
theorem dX9_judge_19 : decode cX9_judge 19 = .ok (.baload, 1) := by decide +kernel
theorem dX9_judge_20 : decode cX9_judge 20 = .ok (.iload_n 2, 1) := by decide +kernel
theorem dX9_judge_21 : decode cX9_judge 21 = .ok (.if_icmp .ne 5, 3) := by decide +kernel
theorem dX9_judge_24 : decode cX9_judge 24 = .ok (.iconst 0, 1) := by decide +kernel
theorem dX9_judge_25 : decode cX9_judge 25 = .ok (.ireturn, 1) := by decide +kernel
theorem dX9_judge_26 : decode cX9_judge 26 = .ok (.aload_n 0, 1) := by decide +kernel
theorem dX9_judge_27 : decode cX9_judge 27 = .ok (.getfield 35, 3) := by decide +kernel
theorem dX9_judge_30 : decode cX9_judge 30 = .ok (.iload_n 1, 1) := by decide +kernel
theorem dX9_judge_31 : decode cX9_judge 31 = .ok (.iload_n 2, 1) := by decide +kernel
theorem dX9_judge_32 : decode cX9_judge 32 = .ok (.bastore, 1) := by decide +kernel
theorem dX9_judge_33 : decode cX9_judge 33 = .ok (.iconst 1, 1) := by decide +kernel
theorem dX9_judge_34 : decode cX9_judge 34 = .ok (.ireturn, 1) := by decide +kernel
theorem dX9_mayJudge_0 : decode cX9_mayJudge 0 = .ok (.aload_n 0, 1) := by decide +kernel
theorem dX9_mayJudge_1 : decode cX9_mayJudge 1 = .ok (.getfield 35, 3) := by decide +kernel
theorem dX9_mayJudge_4 : decode cX9_mayJudge 4 = .ok (.iload_n 1, 1) := by decide +kernel
theorem dX9_mayJudge_5 : decode cX9_mayJudge 5 = .ok (.baload, 1) := by decide +kernel
theorem dX9_mayJudge_6 : decode cX9_mayJudge 6 = .ok (.ifCond .eq 18, 3) := by decide +kernel
theorem dX9_mayJudge_9 : decode cX9_mayJudge 9 = .ok (.aload_n 0, 1) := by decide +kernel
theorem dX9_mayJudge_10 : decode cX9_mayJudge 10 = .ok (.getfield 22, 3) := by decide +kernel
theorem dX9_mayJudge_13 : decode cX9_mayJudge 13 = .ok (.iload_n 1, 1) := by decide +kernel
theorem dX9_mayJudge_14 : decode cX9_mayJudge 14 = .ok (.iaload, 1) := by decide +kernel
theorem dX9_mayJudge_15 : decode cX9_mayJudge 15 = .ok (.aload_n 0, 1) := by decide +kernel
theorem dX9_mayJudge_16 : decode cX9_mayJudge 16 = .ok (.getfield 45, 3) := by decide +kernel
theorem dX9_mayJudge_19 : decode cX9_mayJudge 19 = .ok (.iload_n 2, 1) := by decide +kernel
theorem dX9_mayJudge_20 : decode cX9_mayJudge 20 = .ok (.iaload, 1) := by decide +kernel
theorem dX9_mayJudge_21 : decode cX9_mayJudge 21 = .ok (.if_icmp .ne 5, 3) := by decide +kernel
theorem dX9_mayJudge_24 : decode cX9_mayJudge 24 = .ok (.iconst 0, 1) := by decide +kernel
theorem dX9_mayJudge_25 : decode cX9_mayJudge 25 = .ok (.ireturn, 1) := by decide +kernel
theorem dX9_mayJudge_26 : decode cX9_mayJudge 26 = .ok (.iconst 0, 1) := by decide +kernel
theorem dX9_mayJudge_27 : decode cX9_mayJudge 27 = .ok (.istore_n 3, 1) := by decide +kernel
theorem dX9_mayJudge_28 : decode cX9_mayJudge 28 = .ok (.iload_n 3, 1) := by decide +kernel
theorem dX9_mayJudge_29 : decode cX9_mayJudge 29 = .ok (.aload_n 0, 1) := by decide +kernel
theorem dX9_mayJudge_30 : decode cX9_mayJudge 30 = .ok (.getfield 120, 3) := by decide +kernel
theorem dX9_mayJudge_33 : decode cX9_mayJudge 33 = .ok (.if_icmp .ge 78, 3) := by decide +kernel
theorem dX9_mayJudge_36 : decode cX9_mayJudge 36 = .ok (.aload_n 0, 1) := by decide +kernel
theorem dX9_mayJudge_37 : decode cX9_mayJudge 37 = .ok (.getfield 114, 3) := by decide +kernel
theorem dX9_mayJudge_40 : decode cX9_mayJudge 40 = .ok (.iload_n 3, 1) := by decide +kernel
theorem dX9_mayJudge_41 : decode cX9_mayJudge 41 = .ok (.iaload, 1) := by decide +kernel
theorem dX9_mayJudge_42 : decode cX9_mayJudge 42 = .ok (.aload_n 0, 1) := by decide +kernel
theorem dX9_mayJudge_43 : decode cX9_mayJudge 43 = .ok (.getfield 114, 3) := by decide +kernel
theorem dX9_mayJudge_46 : decode cX9_mayJudge 46 = .ok (.iload_n 2, 1) := by decide +kernel
theorem dX9_mayJudge_47 : decode cX9_mayJudge 47 = .ok (.iaload, 1) := by decide +kernel
theorem dX9_mayJudge_48 : decode cX9_mayJudge 48 = .ok (.if_icmp .eq 6, 3) := by decide +kernel
theorem dX9_mayJudge_51 : decode cX9_mayJudge 51 = .ok (.goto 54, 3) := by decide +kernel
theorem dX9_mayJudge_54 : decode cX9_mayJudge 54 = .ok (.iconst 0, 1) := by decide +kernel
theorem dX9_mayJudge_55 : decode cX9_mayJudge 55 = .ok (.istore 4, 2) := by decide +kernel
theorem dX9_mayJudge_57 : decode cX9_mayJudge 57 = .ok (.iload 4, 2) := by decide +kernel
theorem dX9_mayJudge_59 : decode cX9_mayJudge 59 = .ok (.aload_n 0, 1) := by decide +kernel
theorem dX9_mayJudge_60 : decode cX9_mayJudge 60 = .ok (.getfield 117, 3) := by decide +kernel
theorem dX9_mayJudge_63 : decode cX9_mayJudge 63 = .ok (.if_icmp .ge 42, 3) := by decide +kernel
theorem dX9_mayJudge_66 : decode cX9_mayJudge 66 = .ok (.aload_n 0, 1) := by decide +kernel
theorem dX9_mayJudge_67 : decode cX9_mayJudge 67 = .ok (.iload_n 3, 1) := by decide +kernel
theorem dX9_mayJudge_68 : decode cX9_mayJudge 68 = .ok (.iload 4, 2) := by decide +kernel
theorem dX9_mayJudge_70 : decode cX9_mayJudge 70 = .ok (.invokevirtual 144, 3) := by decide +kernel
theorem dX9_mayJudge_73 : decode cX9_mayJudge 73 = .ok (.ifCond .eq 26, 3) := by decide +kernel
theorem dX9_mayJudge_76 : decode cX9_mayJudge 76 = .ok (.iload 4, 2) := by decide +kernel
theorem dX9_mayJudge_78 : decode cX9_mayJudge 78 = .ok (.iload_n 1, 1) := by decide +kernel
theorem dX9_mayJudge_79 : decode cX9_mayJudge 79 = .ok (.if_icmp .eq 18, 3) := by decide +kernel
theorem dX9_mayJudge_82 : decode cX9_mayJudge 82 = .ok (.aload_n 0, 1) := by decide +kernel
theorem dX9_mayJudge_83 : decode cX9_mayJudge 83 = .ok (.getfield 39, 3) := by decide +kernel
theorem dX9_mayJudge_86 : decode cX9_mayJudge 86 = .ok (.bipush 40, 2) := by decide +kernel
theorem dX9_mayJudge_88 : decode cX9_mayJudge 88 = .ok (.iload 4, 2) := by decide +kernel
theorem dX9_mayJudge_90 : decode cX9_mayJudge 90 = .ok (.imul, 1) := by decide +kernel
theorem dX9_mayJudge_91 : decode cX9_mayJudge 91 = .ok (.iload_n 1, 1) := by decide +kernel
theorem dX9_mayJudge_92 : decode cX9_mayJudge 92 = .ok (.iadd, 1) := by decide +kernel
theorem dX9_mayJudge_93 : decode cX9_mayJudge 93 = .ok (.baload, 1) := by decide +kernel
theorem dX9_mayJudge_94 : decode cX9_mayJudge 94 = .ok (.ifCond .eq 5, 3) := by decide +kernel
theorem dX9_mayJudge_97 : decode cX9_mayJudge 97 = .ok (.iconst 0, 1) := by decide +kernel
theorem dX9_mayJudge_98 : decode cX9_mayJudge 98 = .ok (.ireturn, 1) := by decide +kernel
theorem dX9_mayJudge_99 : decode cX9_mayJudge 99 = .ok (.iinc 4 1, 3) := by decide +kernel
theorem dX9_mayJudge_102 : decode cX9_mayJudge 102 = .ok (.goto (-45), 3) := by decide +kernel
theorem dX9_mayJudge_105 : decode cX9_mayJudge 105 = .ok (.iinc 3 1, 3) := by decide +kernel
theorem dX9_mayJudge_108 : decode cX9_mayJudge 108 = .ok (.goto (-80), 3) := by decide +kernel
theorem dX9_mayJudge_111 : decode cX9_mayJudge 111 = .ok (.iconst 1, 1) := by decide +kernel
theorem dX9_mayJudge_112 : decode cX9_mayJudge 112 = .ok (.ireturn, 1) := by decide +kernel
theorem dX9_may_0 : decode cX9_may 0 = .ok (.aload_n 0, 1) := by decide +kernel
theorem dX9_may_1 : decode cX9_may 1 = .ok (.iload_n 1, 1) := by decide +kernel
theorem dX9_may_2 : decode cX9_may 2 = .ok (.invokevirtual 132, 3) := by decide +kernel
theorem dX9_may_5 : decode cX9_may 5 = .ok (.ifCond .eq 11, 3) := by decide +kernel
theorem dX9_may_8 : decode cX9_may 8 = .ok (.aload_n 0, 1) := by decide +kernel
theorem dX9_may_9 : decode cX9_may 9 = .ok (.iload_n 2, 1) := by decide +kernel
theorem dX9_may_10 : decode cX9_may 10 = .ok (.invokevirtual 141, 3) := by decide +kernel
theorem dX9_may_13 : decode cX9_may 13 = .ok (.ifCond .ne 9, 3) := by decide +kernel
theorem dX9_may_16 : decode cX9_may 16 = .ok (.aload_n 0, 1) := by decide +kernel
theorem dX9_may_17 : decode cX9_may 17 = .ok (.iconst (-1), 1) := by decide +kernel
theorem dX9_may_18 : decode cX9_may 18 = .ok (.invokevirtual 128, 3) := by decide +kernel
theorem dX9_may_21 : decode cX9_may 21 = .ok (.ireturn, 1) := by decide +kernel
theorem dX9_may_22 : decode cX9_may 22 = .ok (.aload_n 0, 1) := by decide +kernel
theorem dX9_may_23 : decode cX9_may 23 = .ok (.aload_n 0, 1) := by decide +kernel
theorem dX9_may_24 : decode cX9_may 24 = .ok (.getfield 7, 3) := by decide +kernel
theorem dX9_may_27 : decode cX9_may 27 = .ok (.invokevirtual 155, 3) := by decide +kernel
theorem dX9_may_30 : decode cX9_may 30 = .ok (.aload_n 0, 1) := by decide +kernel
theorem dX9_may_31 : decode cX9_may 31 = .ok (.iload_n 1, 1) := by decide +kernel
theorem dX9_may_32 : decode cX9_may 32 = .ok (.iload_n 2, 1) := by decide +kernel
theorem dX9_may_33 : decode cX9_may 33 = .ok (.invokevirtual 168, 3) := by decide +kernel
theorem dX9_may_36 : decode cX9_may 36 = .ok (.ifCond .eq 7, 3) := by decide +kernel
theorem dX9_may_39 : decode cX9_may 39 = .ok (.iconst 1, 1) := by decide +kernel
theorem dX9_may_40 : decode cX9_may 40 = .ok (.goto 4, 3) := by decide +kernel
theorem dX9_may_43 : decode cX9_may 43 = .ok (.iconst 0, 1) := by decide +kernel
theorem dX9_may_44 : decode cX9_may 44 = .ok (.ireturn, 1) := by decide +kernel
theorem dX9_nextJudge_0 : decode cX9_nextJudge 0 = .ok (.bipush (-9), 2) := by decide +kernel
theorem dX9_nextJudge_2 : decode cX9_nextJudge 2 = .ok (.istore 4, 2) := by decide +kernel
theorem dX9_nextJudge_4 : decode cX9_nextJudge 4 = .ok (.iconst 0, 1) := by decide +kernel
theorem dX9_nextJudge_5 : decode cX9_nextJudge 5 = .ok (.istore 5, 2) := by decide +kernel
theorem dX9_nextJudge_7 : decode cX9_nextJudge 7 = .ok (.iload 5, 2) := by decide +kernel
theorem dX9_nextJudge_9 : decode cX9_nextJudge 9 = .ok (.aload_n 0, 1) := by decide +kernel
theorem dX9_nextJudge_10 : decode cX9_nextJudge 10 = .ok (.getfield 117, 3) := by decide +kernel
theorem dX9_nextJudge_13 : decode cX9_nextJudge 13 = .ok (.if_icmp .ge 59, 3) := by decide +kernel
theorem dX9_nextJudge_16 : decode cX9_nextJudge 16 = .ok (.iload 5, 2) := by decide +kernel
theorem dX9_nextJudge_18 : decode cX9_nextJudge 18 = .ok (.iload_n 2, 1) := by decide +kernel
theorem dX9_nextJudge_19 : decode cX9_nextJudge 19 = .ok (.if_icmp .eq 47, 3) := by decide +kernel
theorem dX9_nextJudge_22 : decode cX9_nextJudge 22 = .ok (.iload 5, 2) := by decide +kernel
theorem dX9_nextJudge_24 : decode cX9_nextJudge 24 = .ok (.iload_n 3, 1) := by decide +kernel
theorem dX9_nextJudge_25 : decode cX9_nextJudge 25 = .ok (.if_icmp .eq 41, 3) := by decide +kernel
theorem dX9_nextJudge_28 : decode cX9_nextJudge 28 = .ok (.aload_n 0, 1) := by decide +kernel
theorem dX9_nextJudge_29 : decode cX9_nextJudge 29 = .ok (.iload 5, 2) := by decide +kernel
theorem dX9_nextJudge_31 : decode cX9_nextJudge 31 = .ok (.iload_n 1, 1) := by decide +kernel
theorem dX9_nextJudge_32 : decode cX9_nextJudge 32 = .ok (.invokevirtual 168, 3) := by decide +kernel
theorem dX9_nextJudge_35 : decode cX9_nextJudge 35 = .ok (.ifCond .eq 31, 3) := by decide +kernel
theorem dX9_nextJudge_38 : decode cX9_nextJudge 38 = .ok (.iload 4, 2) := by decide +kernel
theorem dX9_nextJudge_40 : decode cX9_nextJudge 40 = .ok (.bipush (-9), 2) := by decide +kernel
theorem dX9_nextJudge_42 : decode cX9_nextJudge 42 = .ok (.if_icmp .eq 20, 3) := by decide +kernel
theorem dX9_nextJudge_45 : decode cX9_nextJudge 45 = .ok (.aload_n 0, 1) := by decide +kernel
theorem dX9_nextJudge_46 : decode cX9_nextJudge 46 = .ok (.getfield 26, 3) := by decide +kernel
theorem dX9_nextJudge_49 : decode cX9_nextJudge 49 = .ok (.iload 5, 2) := by decide +kernel
theorem dX9_nextJudge_51 : decode cX9_nextJudge 51 = .ok (.iaload, 1) := by decide +kernel
theorem dX9_nextJudge_52 : decode cX9_nextJudge 52 = .ok (.aload_n 0, 1) := by decide +kernel
theorem dX9_nextJudge_53 : decode cX9_nextJudge 53 = .ok (.getfield 26, 3) := by decide +kernel
theorem dX9_nextJudge_56 : decode cX9_nextJudge 56 = .ok (.iload 4, 2) := by decide +kernel
theorem dX9_nextJudge_58 : decode cX9_nextJudge 58 = .ok (.iaload, 1) := by decide +kernel
theorem dX9_nextJudge_59 : decode cX9_nextJudge 59 = .ok (.if_icmp .ge 7, 3) := by decide +kernel
theorem dX9_nextJudge_62 : decode cX9_nextJudge 62 = .ok (.iload 5, 2) := by decide +kernel
theorem dX9_nextJudge_64 : decode cX9_nextJudge 64 = .ok (.istore 4, 2) := by decide +kernel
theorem dX9_nextJudge_66 : decode cX9_nextJudge 66 = .ok (.iinc 5 1, 3) := by decide +kernel
theorem dX9_nextJudge_69 : decode cX9_nextJudge 69 = .ok (.goto (-62), 3) := by decide +kernel
theorem dX9_nextJudge_72 : decode cX9_nextJudge 72 = .ok (.iload 4, 2) := by decide +kernel
theorem dX9_nextJudge_74 : decode cX9_nextJudge 74 = .ok (.ireturn, 1) := by decide +kernel
theorem dX9_judgeOf_0 : decode cX9_judgeOf 0 = .ok (.aload_n 0, 1) := by decide +kernel
theorem dX9_judgeOf_1 : decode cX9_judgeOf 1 = .ok (.iload_n 1, 1) := by decide +kernel
theorem dX9_judgeOf_2 : decode cX9_judgeOf 2 = .ok (.invokevirtual 141, 3) := by decide +kernel
theorem dX9_judgeOf_5 : decode cX9_judgeOf 5 = .ok (.ifCond .eq 12, 3) := by decide +kernel
theorem dX9_judgeOf_8 : decode cX9_judgeOf 8 = .ok (.iload_n 2, 1) := by decide +kernel
theorem dX9_judgeOf_9 : decode cX9_judgeOf 9 = .ok (.ifCond .lt 8, 3) := by decide +kernel
theorem dX9_judgeOf_12 : decode cX9_judgeOf 12 = .ok (.iload_n 2, 1) := by decide +kernel
theorem dX9_judgeOf_13 : decode cX9_judgeOf 13 = .ok (.iconst 1, 1) := by decide +kernel
theorem dX9_judgeOf_14 : decode cX9_judgeOf 14 = .ok (.if_icmp .le 9, 3) := by decide +kernel
theorem dX9_judgeOf_17 : decode cX9_judgeOf 17 = .ok (.aload_n 0, 1) := by decide +kernel
theorem dX9_judgeOf_18 : decode cX9_judgeOf 18 = .ok (.iconst (-1), 1) := by decide +kernel
theorem dX9_judgeOf_19 : decode cX9_judgeOf 19 = .ok (.invokevirtual 128, 3) := by decide +kernel
theorem dX9_judgeOf_22 : decode cX9_judgeOf 22 = .ok (.ireturn, 1) := by decide +kernel
theorem dX9_judgeOf_23 : decode cX9_judgeOf 23 = .ok (.aload_n 0, 1) := by decide +kernel
theorem dX9_judgeOf_24 : decode cX9_judgeOf 24 = .ok (.aload_n 0, 1) := by decide +kernel
theorem dX9_judgeOf_25 : decode cX9_judgeOf 25 = .ok (.getfield 7, 3) := by decide +kernel
theorem dX9_judgeOf_28 : decode cX9_judgeOf 28 = .ok (.invokevirtual 155, 3) := by decide +kernel
theorem dX9_judgeOf_31 : decode cX9_judgeOf 31 = .ok (.aload_n 0, 1) := by decide +kernel
theorem dX9_judgeOf_32 : decode cX9_judgeOf 32 = .ok (.iload_n 1, 1) := by decide +kernel
theorem dX9_judgeOf_33 : decode cX9_judgeOf 33 = .ok (.bipush (-9), 2) := by decide +kernel
theorem dX9_judgeOf_35 : decode cX9_judgeOf 35 = .ok (.bipush (-9), 2) := by decide +kernel
theorem dX9_judgeOf_37 : decode cX9_judgeOf 37 = .ok (.invokevirtual 171, 3) := by decide +kernel
theorem dX9_judgeOf_40 : decode cX9_judgeOf 40 = .ok (.istore_n 3, 1) := by decide +kernel
theorem dX9_judgeOf_41 : decode cX9_judgeOf 41 = .ok (.iload_n 3, 1) := by decide +kernel
theorem dX9_judgeOf_42 : decode cX9_judgeOf 42 = .ok (.bipush (-9), 2) := by decide +kernel
theorem dX9_judgeOf_44 : decode cX9_judgeOf 44 = .ok (.if_icmp .ne 8, 3) := by decide +kernel
theorem dX9_judgeOf_47 : decode cX9_judgeOf 47 = .ok (.bipush (-9), 2) := by decide +kernel
theorem dX9_judgeOf_49 : decode cX9_judgeOf 49 = .ok (.goto 11, 3) := by decide +kernel
theorem dX9_judgeOf_52 : decode cX9_judgeOf 52 = .ok (.aload_n 0, 1) := by decide +kernel
theorem dX9_judgeOf_53 : decode cX9_judgeOf 53 = .ok (.iload_n 1, 1) := by decide +kernel
theorem dX9_judgeOf_54 : decode cX9_judgeOf 54 = .ok (.iload_n 3, 1) := by decide +kernel
theorem dX9_judgeOf_55 : decode cX9_judgeOf 55 = .ok (.bipush (-9), 2) := by decide +kernel
theorem dX9_judgeOf_57 : decode cX9_judgeOf 57 = .ok (.invokevirtual 171, 3) := by decide +kernel
theorem dX9_judgeOf_60 : decode cX9_judgeOf 60 = .ok (.istore 4, 2) := by decide +kernel
theorem dX9_judgeOf_62 : decode cX9_judgeOf 62 = .ok (.iload 4, 2) := by decide +kernel
theorem dX9_judgeOf_64 : decode cX9_judgeOf 64 = .ok (.bipush (-9), 2) := by decide +kernel
theorem dX9_judgeOf_66 : decode cX9_judgeOf 66 = .ok (.if_icmp .ne 6, 3) := by decide +kernel
theorem dX9_judgeOf_69 : decode cX9_judgeOf 69 = .ok (.bipush (-9), 2) := by decide +kernel
theorem dX9_judgeOf_71 : decode cX9_judgeOf 71 = .ok (.ireturn, 1) := by decide +kernel
theorem dX9_judgeOf_72 : decode cX9_judgeOf 72 = .ok (.iload_n 2, 1) := by decide +kernel
theorem dX9_judgeOf_73 : decode cX9_judgeOf 73 = .ok (.ifCond .ne 7, 3) := by decide +kernel
theorem dX9_judgeOf_76 : decode cX9_judgeOf 76 = .ok (.iload_n 3, 1) := by decide +kernel
theorem dX9_judgeOf_77 : decode cX9_judgeOf 77 = .ok (.goto 5, 3) := by decide +kernel
theorem dX9_judgeOf_80 : decode cX9_judgeOf 80 = .ok (.iload 4, 2) := by decide +kernel
theorem dX9_judgeOf_82 : decode cX9_judgeOf 82 = .ok (.ireturn, 1) := by decide +kernel
theorem dX9_delay_0 : decode cX9_delay 0 = .ok (.aload_n 0, 1) := by decide +kernel
theorem dX9_delay_1 : decode cX9_delay 1 = .ok (.getfield 138, 3) := by decide +kernel
theorem dX9_delay_4 : decode cX9_delay 4 = .ok (.aload_n 0, 1) := by decide +kernel
theorem dX9_delay_5 : decode cX9_delay 5 = .ok (.getfield 54, 3) := by decide +kernel
theorem dX9_delay_8 : decode cX9_delay 8 = .ok (.iload_n 1, 1) := by decide +kernel
theorem dX9_delay_9 : decode cX9_delay 9 = .ok (.iaload, 1) := by decide +kernel
theorem dX9_delay_10 : decode cX9_delay 10 = .ok (.isub, 1) := by decide +kernel
theorem dX9_delay_11 : decode cX9_delay 11 = .ok (.aload_n 0, 1) := by decide +kernel
theorem dX9_delay_12 : decode cX9_delay 12 = .ok (.getfield 16, 3) := by decide +kernel
theorem dX9_delay_15 : decode cX9_delay 15 = .ok (.isub, 1) := by decide +kernel
theorem dX9_delay_16 : decode cX9_delay 16 = .ok (.istore_n 2, 1) := by decide +kernel
theorem dX9_delay_17 : decode cX9_delay 17 = .ok (.iload_n 2, 1) := by decide +kernel
theorem dX9_delay_18 : decode cX9_delay 18 = .ok (.ifCond .le 12, 3) := by decide +kernel
theorem dX9_delay_21 : decode cX9_delay 21 = .ok (.iload_n 2, 1) := by decide +kernel
theorem dX9_delay_22 : decode cX9_delay 22 = .ok (.aload_n 0, 1) := by decide +kernel
theorem dX9_delay_23 : decode cX9_delay 23 = .ok (.getfield 19, 3) := by decide +kernel
theorem dX9_delay_26 : decode cX9_delay 26 = .ok (.imul, 1) := by decide +kernel
theorem dX9_delay_27 : decode cX9_delay 27 = .ok (.goto 4, 3) := by decide +kernel
theorem dX9_delay_30 : decode cX9_delay 30 = .ok (.iconst 0, 1) := by decide +kernel
theorem dX9_delay_31 : decode cX9_delay 31 = .ok (.istore_n 3, 1) := by decide +kernel
theorem dX9_delay_32 : decode cX9_delay 32 = .ok (.aload_n 0, 1) := by decide +kernel
theorem dX9_delay_33 : decode cX9_delay 33 = .ok (.getfield 32, 3) := by decide +kernel
theorem dX9_delay_36 : decode cX9_delay 36 = .ok (.aload_n 0, 1) := by decide +kernel
theorem dX9_delay_37 : decode cX9_delay 37 = .ok (.getfield 42, 3) := by decide +kernel
theorem dX9_delay_40 : decode cX9_delay 40 = .ok (.iload_n 1, 1) := by decide +kernel
theorem dX9_delay_41 : decode cX9_delay 41 = .ok (.iaload, 1) := by decide +kernel
theorem dX9_delay_42 : decode cX9_delay 42 = .ok (.dup2, 1) := by decide +kernel
theorem dX9_delay_43 : decode cX9_delay 43 = .ok (.iaload, 1) := by decide +kernel
theorem dX9_delay_44 : decode cX9_delay 44 = .ok (.iload_n 3, 1) := by decide +kernel
theorem dX9_delay_45 : decode cX9_delay 45 = .ok (.iadd, 1) := by decide +kernel
theorem dX9_delay_46 : decode cX9_delay 46 = .ok (.iastore, 1) := by decide +kernel
theorem dX9_delay_47 : decode cX9_delay 47 = .ok (.aload_n 0, 1) := by decide +kernel
theorem dX9_delay_48 : decode cX9_delay 48 = .ok (.dup, 1) := by decide +kernel
theorem dX9_delay_49 : decode cX9_delay 49 = .ok (.getfield 175, 3) := by decide +kernel
theorem dX9_delay_52 : decode cX9_delay 52 = .ok (.iload_n 3, 1) := by decide +kernel
theorem dX9_delay_53 : decode cX9_delay 53 = .ok (.iadd, 1) := by decide +kernel
theorem dX9_delay_54 : decode cX9_delay 54 = .ok (.putfield 175, 3) := by decide +kernel
theorem dX9_delay_57 : decode cX9_delay 57 = .ok (.iload_n 3, 1) := by decide +kernel
theorem dX9_delay_58 : decode cX9_delay 58 = .ok (.ireturn, 1) := by decide +kernel
theorem dX9_settles_0 : decode cX9_settles 0 = .ok (.aload_n 0, 1) := by decide +kernel
theorem dX9_settles_1 : decode cX9_settles 1 = .ok (.getfield 57, 3) := by decide +kernel
theorem dX9_settles_4 : decode cX9_settles 4 = .ok (.iload_n 1, 1) := by decide +kernel
theorem dX9_settles_5 : decode cX9_settles 5 = .ok (.iload_n 2, 1) := by decide +kernel
theorem dX9_settles_6 : decode cX9_settles 6 = .ok (.iastore, 1) := by decide +kernel
theorem dX9_settles_7 : decode cX9_settles 7 = .ok (.aload_n 0, 1) := by decide +kernel
theorem dX9_settles_8 : decode cX9_settles 8 = .ok (.getfield 60, 3) := by decide +kernel
theorem dX9_settles_11 : decode cX9_settles 11 = .ok (.iload_n 1, 1) := by decide +kernel
theorem dX9_settles_12 : decode cX9_settles 12 = .ok (.aload_n 0, 1) := by decide +kernel
theorem dX9_settles_13 : decode cX9_settles 13 = .ok (.getfield 138, 3) := by decide +kernel
theorem dX9_settles_16 : decode cX9_settles 16 = .ok (.iastore, 1) := by decide +kernel
theorem dX9_settles_17 : decode cX9_settles 17 = .ok (.aload_n 0, 1) := by decide +kernel
theorem dX9_settles_18 : decode cX9_settles 18 = .ok (.iload_n 1, 1) := by decide +kernel
theorem dX9_settles_19 : decode cX9_settles 19 = .ok (.invokevirtual 178, 3) := by decide +kernel
theorem dX9_settles_22 : decode cX9_settles 22 = .ok (.ireturn, 1) := by decide +kernel
theorem dX9_decide_0 : decode cX9_decide 0 = .ok (.aload_n 0, 1) := by decide +kernel
theorem dX9_decide_1 : decode cX9_decide 1 = .ok (.iload_n 1, 1) := by decide +kernel
theorem dX9_decide_2 : decode cX9_decide 2 = .ok (.invokevirtual 141, 3) := by decide +kernel
theorem dX9_decide_5 : decode cX9_decide 5 = .ok (.ifCond .ne 9, 3) := by decide +kernel
theorem dX9_decide_8 : decode cX9_decide 8 = .ok (.aload_n 0, 1) := by decide +kernel
theorem dX9_decide_9 : decode cX9_decide 9 = .ok (.iconst (-1), 1) := by decide +kernel
theorem dX9_decide_10 : decode cX9_decide 10 = .ok (.invokevirtual 128, 3) := by decide +kernel
theorem dX9_decide_13 : decode cX9_decide 13 = .ok (.ireturn, 1) := by decide +kernel
theorem dX9_decide_14 : decode cX9_decide 14 = .ok (.aload_n 0, 1) := by decide +kernel
theorem dX9_decide_15 : decode cX9_decide 15 = .ok (.aload_n 0, 1) := by decide +kernel
theorem dX9_decide_16 : decode cX9_decide 16 = .ok (.getfield 7, 3) := by decide +kernel
theorem dX9_decide_19 : decode cX9_decide 19 = .ok (.invokevirtual 155, 3) := by decide +kernel
theorem dX9_decide_22 : decode cX9_decide 22 = .ok (.aload_n 0, 1) := by decide +kernel
theorem dX9_decide_23 : decode cX9_decide 23 = .ok (.iload_n 1, 1) := by decide +kernel
theorem dX9_decide_24 : decode cX9_decide 24 = .ok (.bipush (-9), 2) := by decide +kernel
theorem dX9_decide_26 : decode cX9_decide 26 = .ok (.bipush (-9), 2) := by decide +kernel
theorem dX9_decide_28 : decode cX9_decide 28 = .ok (.invokevirtual 171, 3) := by decide +kernel
theorem dX9_decide_31 : decode cX9_decide 31 = .ok (.istore 5, 2) := by decide +kernel
theorem dX9_decide_33 : decode cX9_decide 33 = .ok (.iload 5, 2) := by decide +kernel
theorem dX9_decide_35 : decode cX9_decide 35 = .ok (.bipush (-9), 2) := by decide +kernel
theorem dX9_decide_37 : decode cX9_decide 37 = .ok (.if_icmp .ne 8, 3) := by decide +kernel
theorem dX9_decide_40 : decode cX9_decide 40 = .ok (.bipush (-9), 2) := by decide +kernel
theorem dX9_decide_42 : decode cX9_decide 42 = .ok (.goto 12, 3) := by decide +kernel
theorem dX9_decide_45 : decode cX9_decide 45 = .ok (.aload_n 0, 1) := by decide +kernel
end
section
theorem dX9_decide_46 : decode cX9_decide 46 = .ok (.iload_n 1, 1) := by decide +kernel
theorem dX9_decide_47 : decode cX9_decide 47 = .ok (.iload 5, 2) := by decide +kernel
theorem dX9_decide_49 : decode cX9_decide 49 = .ok (.bipush (-9), 2) := by decide +kernel
theorem dX9_decide_51 : decode cX9_decide 51 = .ok (.invokevirtual 171, 3) := by decide +kernel
theorem dX9_decide_54 : decode cX9_decide 54 = .ok (.istore 6, 2) := by decide +kernel
theorem dX9_decide_56 : decode cX9_decide 56 = .ok (.aload_n 0, 1) := by decide +kernel
theorem dX9_decide_57 : decode cX9_decide 57 = .ok (.getfield 57, 3) := by decide +kernel
theorem dX9_decide_60 : decode cX9_decide 60 = .ok (.iload_n 1, 1) := by decide +kernel
theorem dX9_decide_61 : decode cX9_decide 61 = .ok (.iaload, 1) := by decide +kernel
theorem dX9_decide_62 : decode cX9_decide 62 = .ok (.ifCond .ne 10, 3) := by decide +kernel
theorem dX9_decide_65 : decode cX9_decide 65 = .ok (.iload 6, 2) := by decide +kernel
theorem dX9_decide_67 : decode cX9_decide 67 = .ok (.bipush (-9), 2) := by decide +kernel
theorem dX9_decide_69 : decode cX9_decide 69 = .ok (.if_icmp .ne 10, 3) := by decide +kernel
theorem dX9_decide_72 : decode cX9_decide 72 = .ok (.aload_n 0, 1) := by decide +kernel
theorem dX9_decide_73 : decode cX9_decide 73 = .ok (.bipush (-3), 2) := by decide +kernel
theorem dX9_decide_75 : decode cX9_decide 75 = .ok (.invokevirtual 128, 3) := by decide +kernel
theorem dX9_decide_78 : decode cX9_decide 78 = .ok (.ireturn, 1) := by decide +kernel
theorem dX9_decide_79 : decode cX9_decide 79 = .ok (.aload_n 0, 1) := by decide +kernel
theorem dX9_decide_80 : decode cX9_decide 80 = .ok (.getfield 26, 3) := by decide +kernel
theorem dX9_decide_83 : decode cX9_decide 83 = .ok (.iload 5, 2) := by decide +kernel
theorem dX9_decide_85 : decode cX9_decide 85 = .ok (.dup2, 1) := by decide +kernel
theorem dX9_decide_86 : decode cX9_decide 86 = .ok (.iaload, 1) := by decide +kernel
theorem dX9_decide_87 : decode cX9_decide 87 = .ok (.iconst 1, 1) := by decide +kernel
theorem dX9_decide_88 : decode cX9_decide 88 = .ok (.iadd, 1) := by decide +kernel
theorem dX9_decide_89 : decode cX9_decide 89 = .ok (.iastore, 1) := by decide +kernel
theorem dX9_decide_90 : decode cX9_decide 90 = .ok (.aload_n 0, 1) := by decide +kernel
theorem dX9_decide_91 : decode cX9_decide 91 = .ok (.getfield 26, 3) := by decide +kernel
theorem dX9_decide_94 : decode cX9_decide 94 = .ok (.iload 6, 2) := by decide +kernel
theorem dX9_decide_96 : decode cX9_decide 96 = .ok (.dup2, 1) := by decide +kernel
theorem dX9_decide_97 : decode cX9_decide 97 = .ok (.iaload, 1) := by decide +kernel
theorem dX9_decide_98 : decode cX9_decide 98 = .ok (.iconst 1, 1) := by decide +kernel
theorem dX9_decide_99 : decode cX9_decide 99 = .ok (.iadd, 1) := by decide +kernel
theorem dX9_decide_100 : decode cX9_decide 100 = .ok (.iastore, 1) := by decide +kernel
theorem dX9_decide_101 : decode cX9_decide 101 = .ok (.iload_n 2, 1) := by decide +kernel
theorem dX9_decide_102 : decode cX9_decide 102 = .ok (.ifCond .eq 11, 3) := by decide +kernel
theorem dX9_decide_105 : decode cX9_decide 105 = .ok (.iload_n 3, 1) := by decide +kernel
theorem dX9_decide_106 : decode cX9_decide 106 = .ok (.ifCond .eq 7, 3) := by decide +kernel
theorem dX9_decide_109 : decode cX9_decide 109 = .ok (.iconst 1, 1) := by decide +kernel
theorem dX9_decide_110 : decode cX9_decide 110 = .ok (.goto 4, 3) := by decide +kernel
theorem dX9_decide_113 : decode cX9_decide 113 = .ok (.iconst 0, 1) := by decide +kernel
theorem dX9_decide_114 : decode cX9_decide 114 = .ok (.istore 7, 2) := by decide +kernel
theorem dX9_decide_116 : decode cX9_decide 116 = .ok (.iload_n 2, 1) := by decide +kernel
theorem dX9_decide_117 : decode cX9_decide 117 = .ok (.iload_n 3, 1) := by decide +kernel
theorem dX9_decide_118 : decode cX9_decide 118 = .ok (.if_icmp .eq 36, 3) := by decide +kernel
theorem dX9_decide_121 : decode cX9_decide 121 = .ok (.aload_n 0, 1) := by decide +kernel
theorem dX9_decide_122 : decode cX9_decide 122 = .ok (.iload_n 1, 1) := by decide +kernel
theorem dX9_decide_123 : decode cX9_decide 123 = .ok (.iload 5, 2) := by decide +kernel
theorem dX9_decide_125 : decode cX9_decide 125 = .ok (.iload 6, 2) := by decide +kernel
theorem dX9_decide_127 : decode cX9_decide 127 = .ok (.invokevirtual 171, 3) := by decide +kernel
theorem dX9_decide_130 : decode cX9_decide 130 = .ok (.istore 8, 2) := by decide +kernel
theorem dX9_decide_132 : decode cX9_decide 132 = .ok (.iload 8, 2) := by decide +kernel
theorem dX9_decide_134 : decode cX9_decide 134 = .ok (.bipush (-9), 2) := by decide +kernel
theorem dX9_decide_136 : decode cX9_decide 136 = .ok (.if_icmp .eq 18, 3) := by decide +kernel
theorem dX9_decide_139 : decode cX9_decide 139 = .ok (.aload_n 0, 1) := by decide +kernel
theorem dX9_decide_140 : decode cX9_decide 140 = .ok (.getfield 26, 3) := by decide +kernel
theorem dX9_decide_143 : decode cX9_decide 143 = .ok (.iload 8, 2) := by decide +kernel
theorem dX9_decide_145 : decode cX9_decide 145 = .ok (.dup2, 1) := by decide +kernel
theorem dX9_decide_146 : decode cX9_decide 146 = .ok (.iaload, 1) := by decide +kernel
theorem dX9_decide_147 : decode cX9_decide 147 = .ok (.iconst 1, 1) := by decide +kernel
theorem dX9_decide_148 : decode cX9_decide 148 = .ok (.iadd, 1) := by decide +kernel
theorem dX9_decide_149 : decode cX9_decide 149 = .ok (.iastore, 1) := by decide +kernel
theorem dX9_decide_150 : decode cX9_decide 150 = .ok (.iload 4, 2) := by decide +kernel
theorem dX9_decide_152 : decode cX9_decide 152 = .ok (.istore 7, 2) := by decide +kernel
theorem dX9_decide_154 : decode cX9_decide 154 = .ok (.iload 7, 2) := by decide +kernel
theorem dX9_decide_156 : decode cX9_decide 156 = .ok (.ifCond .ne 12, 3) := by decide +kernel
theorem dX9_decide_159 : decode cX9_decide 159 = .ok (.aload_n 0, 1) := by decide +kernel
theorem dX9_decide_160 : decode cX9_decide 160 = .ok (.iload_n 1, 1) := by decide +kernel
theorem dX9_decide_161 : decode cX9_decide 161 = .ok (.iconst 2, 1) := by decide +kernel
theorem dX9_decide_162 : decode cX9_decide 162 = .ok (.invokevirtual 181, 3) := by decide +kernel
theorem dX9_decide_165 : decode cX9_decide 165 = .ok (.pop, 1) := by decide +kernel
theorem dX9_decide_166 : decode cX9_decide 166 = .ok (.iconst 2, 1) := by decide +kernel
theorem dX9_decide_167 : decode cX9_decide 167 = .ok (.ireturn, 1) := by decide +kernel
theorem dX9_decide_168 : decode cX9_decide 168 = .ok (.iconst 0, 1) := by decide +kernel
theorem dX9_decide_169 : decode cX9_decide 169 = .ok (.istore 8, 2) := by decide +kernel
theorem dX9_decide_171 : decode cX9_decide 171 = .ok (.iload 8, 2) := by decide +kernel
theorem dX9_decide_173 : decode cX9_decide 173 = .ok (.aload_n 0, 1) := by decide +kernel
theorem dX9_decide_174 : decode cX9_decide 174 = .ok (.getfield 120, 3) := by decide +kernel
theorem dX9_decide_177 : decode cX9_decide 177 = .ok (.if_icmp .ge 43, 3) := by decide +kernel
theorem dX9_decide_180 : decode cX9_decide 180 = .ok (.aload_n 0, 1) := by decide +kernel
theorem dX9_decide_181 : decode cX9_decide 181 = .ok (.getfield 114, 3) := by decide +kernel
theorem dX9_decide_184 : decode cX9_decide 184 = .ok (.iload 8, 2) := by decide +kernel
theorem dX9_decide_186 : decode cX9_decide 186 = .ok (.iaload, 1) := by decide +kernel
theorem dX9_decide_187 : decode cX9_decide 187 = .ok (.aload_n 0, 1) := by decide +kernel
theorem dX9_decide_188 : decode cX9_decide 188 = .ok (.getfield 114, 3) := by decide +kernel
theorem dX9_decide_191 : decode cX9_decide 191 = .ok (.iload_n 1, 1) := by decide +kernel
theorem dX9_decide_192 : decode cX9_decide 192 = .ok (.iaload, 1) := by decide +kernel
theorem dX9_decide_193 : decode cX9_decide 193 = .ok (.if_icmp .ne 21, 3) := by decide +kernel
theorem dX9_decide_196 : decode cX9_decide 196 = .ok (.aload_n 0, 1) := by decide +kernel
theorem dX9_decide_197 : decode cX9_decide 197 = .ok (.getfield 57, 3) := by decide +kernel
theorem dX9_decide_200 : decode cX9_decide 200 = .ok (.iload 8, 2) := by decide +kernel
theorem dX9_decide_202 : decode cX9_decide 202 = .ok (.iaload, 1) := by decide +kernel
theorem dX9_decide_203 : decode cX9_decide 203 = .ok (.ifCond .ne 11, 3) := by decide +kernel
theorem dX9_decide_206 : decode cX9_decide 206 = .ok (.aload_n 0, 1) := by decide +kernel
theorem dX9_decide_207 : decode cX9_decide 207 = .ok (.iload 8, 2) := by decide +kernel
theorem dX9_decide_209 : decode cX9_decide 209 = .ok (.iconst 1, 1) := by decide +kernel
theorem dX9_decide_210 : decode cX9_decide 210 = .ok (.invokevirtual 181, 3) := by decide +kernel
theorem dX9_decide_213 : decode cX9_decide 213 = .ok (.pop, 1) := by decide +kernel
theorem dX9_decide_214 : decode cX9_decide 214 = .ok (.iinc 8 1, 3) := by decide +kernel
theorem dX9_decide_217 : decode cX9_decide 217 = .ok (.goto (-46), 3) := by decide +kernel
theorem dX9_decide_220 : decode cX9_decide 220 = .ok (.iconst 1, 1) := by decide +kernel
theorem dX9_decide_221 : decode cX9_decide 221 = .ok (.ireturn, 1) := by decide +kernel
theorem dX9_bench_0 : decode cX9_bench 0 = .ok (.iload_n 1, 1) := by decide +kernel
theorem dX9_bench_1 : decode cX9_bench 1 = .ok (.invokestatic 184, 3) := by decide +kernel
theorem dX9_bench_4 : decode cX9_bench 4 = .ok (.ifCond .eq 14, 3) := by decide +kernel
theorem dX9_bench_7 : decode cX9_bench 7 = .ok (.iload_n 2, 1) := by decide +kernel
theorem dX9_bench_8 : decode cX9_bench 8 = .ok (.ifCond .ne 16, 3) := by decide +kernel
theorem dX9_bench_11 : decode cX9_bench 11 = .ok (.iload_n 3, 1) := by decide +kernel
theorem dX9_bench_12 : decode cX9_bench 12 = .ok (.invokestatic 124, 3) := by decide +kernel
theorem dX9_bench_15 : decode cX9_bench 15 = .ok (.ifCond .ne 9, 3) := by decide +kernel
theorem dX9_bench_18 : decode cX9_bench 18 = .ok (.aload_n 0, 1) := by decide +kernel
theorem dX9_bench_19 : decode cX9_bench 19 = .ok (.iconst (-1), 1) := by decide +kernel
theorem dX9_bench_20 : decode cX9_bench 20 = .ok (.invokevirtual 128, 3) := by decide +kernel
theorem dX9_bench_23 : decode cX9_bench 23 = .ok (.ireturn, 1) := by decide +kernel
theorem dX9_bench_24 : decode cX9_bench 24 = .ok (.iload_n 2, 1) := by decide +kernel
theorem dX9_bench_25 : decode cX9_bench 25 = .ok (.ifCond .lt 8, 3) := by decide +kernel
theorem dX9_bench_28 : decode cX9_bench 28 = .ok (.iload_n 2, 1) := by decide +kernel
theorem dX9_bench_29 : decode cX9_bench 29 = .ok (.iconst 1, 1) := by decide +kernel
theorem dX9_bench_30 : decode cX9_bench 30 = .ok (.if_icmp .le 10, 3) := by decide +kernel
theorem dX9_bench_33 : decode cX9_bench 33 = .ok (.aload_n 0, 1) := by decide +kernel
theorem dX9_bench_34 : decode cX9_bench 34 = .ok (.bipush (-2), 2) := by decide +kernel
theorem dX9_bench_36 : decode cX9_bench 36 = .ok (.invokevirtual 128, 3) := by decide +kernel
theorem dX9_bench_39 : decode cX9_bench 39 = .ok (.ireturn, 1) := by decide +kernel
theorem dX9_bench_40 : decode cX9_bench 40 = .ok (.iload_n 3, 1) := by decide +kernel
theorem dX9_bench_41 : decode cX9_bench 41 = .ok (.ifCond .ge 10, 3) := by decide +kernel
theorem dX9_bench_44 : decode cX9_bench 44 = .ok (.aload_n 0, 1) := by decide +kernel
theorem dX9_bench_45 : decode cX9_bench 45 = .ok (.bipush (-4), 2) := by decide +kernel
theorem dX9_bench_47 : decode cX9_bench 47 = .ok (.invokevirtual 128, 3) := by decide +kernel
theorem dX9_bench_50 : decode cX9_bench 50 = .ok (.ireturn, 1) := by decide +kernel
theorem dX9_bench_51 : decode cX9_bench 51 = .ok (.iload_n 3, 1) := by decide +kernel
theorem dX9_bench_52 : decode cX9_bench 52 = .ok (.sipush 10000, 3) := by decide +kernel
theorem dX9_bench_55 : decode cX9_bench 55 = .ok (.if_icmp .le 10, 3) := by decide +kernel
theorem dX9_bench_58 : decode cX9_bench 58 = .ok (.aload_n 0, 1) := by decide +kernel
theorem dX9_bench_59 : decode cX9_bench 59 = .ok (.bipush (-6), 2) := by decide +kernel
theorem dX9_bench_61 : decode cX9_bench 61 = .ok (.invokevirtual 128, 3) := by decide +kernel
theorem dX9_bench_64 : decode cX9_bench 64 = .ok (.ireturn, 1) := by decide +kernel
theorem dX9_bench_65 : decode cX9_bench 65 = .ok (.iload_n 2, 1) := by decide +kernel
theorem dX9_bench_66 : decode cX9_bench 66 = .ok (.ifCond .ne 12, 3) := by decide +kernel
theorem dX9_bench_69 : decode cX9_bench 69 = .ok (.aload_n 0, 1) := by decide +kernel
theorem dX9_bench_70 : decode cX9_bench 70 = .ok (.getfield 78, 3) := by decide +kernel
theorem dX9_bench_73 : decode cX9_bench 73 = .ok (.iload_n 1, 1) := by decide +kernel
theorem dX9_bench_74 : decode cX9_bench 74 = .ok (.iaload, 1) := by decide +kernel
theorem dX9_bench_75 : decode cX9_bench 75 = .ok (.goto 9, 3) := by decide +kernel
theorem dX9_bench_78 : decode cX9_bench 78 = .ok (.aload_n 0, 1) := by decide +kernel
theorem dX9_bench_79 : decode cX9_bench 79 = .ok (.getfield 81, 3) := by decide +kernel
theorem dX9_bench_82 : decode cX9_bench 82 = .ok (.iload_n 1, 1) := by decide +kernel
theorem dX9_bench_83 : decode cX9_bench 83 = .ok (.iaload, 1) := by decide +kernel
theorem dX9_bench_84 : decode cX9_bench 84 = .ok (.istore 4, 2) := by decide +kernel
theorem dX9_bench_86 : decode cX9_bench 86 = .ok (.iload_n 2, 1) := by decide +kernel
theorem dX9_bench_87 : decode cX9_bench 87 = .ok (.ifCond .ne 13, 3) := by decide +kernel
theorem dX9_bench_90 : decode cX9_bench 90 = .ok (.aload_n 0, 1) := by decide +kernel
theorem dX9_bench_91 : decode cX9_bench 91 = .ok (.getfield 78, 3) := by decide +kernel
theorem dX9_bench_94 : decode cX9_bench 94 = .ok (.iload_n 1, 1) := by decide +kernel
theorem dX9_bench_95 : decode cX9_bench 95 = .ok (.iload_n 3, 1) := by decide +kernel
theorem dX9_bench_96 : decode cX9_bench 96 = .ok (.iastore, 1) := by decide +kernel
theorem dX9_bench_97 : decode cX9_bench 97 = .ok (.goto 10, 3) := by decide +kernel
theorem dX9_bench_100 : decode cX9_bench 100 = .ok (.aload_n 0, 1) := by decide +kernel
theorem dX9_bench_101 : decode cX9_bench 101 = .ok (.getfield 81, 3) := by decide +kernel
theorem dX9_bench_104 : decode cX9_bench 104 = .ok (.iload_n 1, 1) := by decide +kernel
theorem dX9_bench_105 : decode cX9_bench 105 = .ok (.iload_n 3, 1) := by decide +kernel
theorem dX9_bench_106 : decode cX9_bench 106 = .ok (.iastore, 1) := by decide +kernel
theorem dX9_bench_107 : decode cX9_bench 107 = .ok (.iload 4, 2) := by decide +kernel
theorem dX9_bench_109 : decode cX9_bench 109 = .ok (.ireturn, 1) := by decide +kernel
theorem dX9_measure_0 : decode cX9_measure 0 = .ok (.iload_n 1, 1) := by decide +kernel
theorem dX9_measure_1 : decode cX9_measure 1 = .ok (.invokestatic 184, 3) := by decide +kernel
theorem dX9_measure_4 : decode cX9_measure 4 = .ok (.ifCond .eq 11, 3) := by decide +kernel
theorem dX9_measure_7 : decode cX9_measure 7 = .ok (.aload_n 0, 1) := by decide +kernel
theorem dX9_measure_8 : decode cX9_measure 8 = .ok (.iload_n 2, 1) := by decide +kernel
theorem dX9_measure_9 : decode cX9_measure 9 = .ok (.invokevirtual 141, 3) := by decide +kernel
theorem dX9_measure_12 : decode cX9_measure 12 = .ok (.ifCond .ne 9, 3) := by decide +kernel
theorem dX9_measure_15 : decode cX9_measure 15 = .ok (.aload_n 0, 1) := by decide +kernel
theorem dX9_measure_16 : decode cX9_measure 16 = .ok (.iconst (-1), 1) := by decide +kernel
theorem dX9_measure_17 : decode cX9_measure 17 = .ok (.invokevirtual 128, 3) := by decide +kernel
theorem dX9_measure_20 : decode cX9_measure 20 = .ok (.ireturn, 1) := by decide +kernel
theorem dX9_measure_21 : decode cX9_measure 21 = .ok (.aload_n 0, 1) := by decide +kernel
theorem dX9_measure_22 : decode cX9_measure 22 = .ok (.getfield 45, 3) := by decide +kernel
theorem dX9_measure_25 : decode cX9_measure 25 = .ok (.iload_n 2, 1) := by decide +kernel
theorem dX9_measure_26 : decode cX9_measure 26 = .ok (.iaload, 1) := by decide +kernel
theorem dX9_measure_27 : decode cX9_measure 27 = .ok (.aload_n 0, 1) := by decide +kernel
theorem dX9_measure_28 : decode cX9_measure 28 = .ok (.getfield 78, 3) := by decide +kernel
theorem dX9_measure_31 : decode cX9_measure 31 = .ok (.iload_n 1, 1) := by decide +kernel
theorem dX9_measure_32 : decode cX9_measure 32 = .ok (.iaload, 1) := by decide +kernel
theorem dX9_measure_33 : decode cX9_measure 33 = .ok (.if_icmp .eq 10, 3) := by decide +kernel
theorem dX9_measure_36 : decode cX9_measure 36 = .ok (.aload_n 0, 1) := by decide +kernel
theorem dX9_measure_37 : decode cX9_measure 37 = .ok (.bipush (-3), 2) := by decide +kernel
theorem dX9_measure_39 : decode cX9_measure 39 = .ok (.invokevirtual 128, 3) := by decide +kernel
theorem dX9_measure_42 : decode cX9_measure 42 = .ok (.ireturn, 1) := by decide +kernel
theorem dX9_measure_43 : decode cX9_measure 43 = .ok (.iload 4, 2) := by decide +kernel
theorem dX9_measure_45 : decode cX9_measure 45 = .ok (.ifCond .ge 10, 3) := by decide +kernel
theorem dX9_measure_48 : decode cX9_measure 48 = .ok (.aload_n 0, 1) := by decide +kernel
theorem dX9_measure_49 : decode cX9_measure 49 = .ok (.bipush (-4), 2) := by decide +kernel
theorem dX9_measure_51 : decode cX9_measure 51 = .ok (.invokevirtual 128, 3) := by decide +kernel
theorem dX9_measure_54 : decode cX9_measure 54 = .ok (.ireturn, 1) := by decide +kernel
theorem dX9_measure_55 : decode cX9_measure 55 = .ok (.iload 4, 2) := by decide +kernel
theorem dX9_measure_57 : decode cX9_measure 57 = .ok (.sipush 9999, 3) := by decide +kernel
theorem dX9_measure_60 : decode cX9_measure 60 = .ok (.if_icmp .gt 13, 3) := by decide +kernel
theorem dX9_measure_63 : decode cX9_measure 63 = .ok (.aload_n 0, 1) := by decide +kernel
theorem dX9_measure_64 : decode cX9_measure 64 = .ok (.getfield 187, 3) := by decide +kernel
theorem dX9_measure_67 : decode cX9_measure 67 = .ok (.sipush 200, 3) := by decide +kernel
theorem dX9_measure_70 : decode cX9_measure 70 = .ok (.if_icmp .ne 10, 3) := by decide +kernel
theorem dX9_measure_73 : decode cX9_measure 73 = .ok (.aload_n 0, 1) := by decide +kernel
theorem dX9_measure_74 : decode cX9_measure 74 = .ok (.bipush (-6), 2) := by decide +kernel
theorem dX9_measure_76 : decode cX9_measure 76 = .ok (.invokevirtual 128, 3) := by decide +kernel
theorem dX9_measure_79 : decode cX9_measure 79 = .ok (.ireturn, 1) := by decide +kernel
theorem dX9_measure_80 : decode cX9_measure 80 = .ok (.aload_n 0, 1) := by decide +kernel
theorem dX9_measure_81 : decode cX9_measure 81 = .ok (.getfield 84, 3) := by decide +kernel
theorem dX9_measure_84 : decode cX9_measure 84 = .ok (.aload_n 0, 1) := by decide +kernel
theorem dX9_measure_85 : decode cX9_measure 85 = .ok (.getfield 187, 3) := by decide +kernel
theorem dX9_measure_88 : decode cX9_measure 88 = .ok (.iload_n 1, 1) := by decide +kernel
theorem dX9_measure_89 : decode cX9_measure 89 = .ok (.iastore, 1) := by decide +kernel
theorem dX9_measure_90 : decode cX9_measure 90 = .ok (.aload_n 0, 1) := by decide +kernel
theorem dX9_measure_91 : decode cX9_measure 91 = .ok (.getfield 87, 3) := by decide +kernel
theorem dX9_measure_94 : decode cX9_measure 94 = .ok (.aload_n 0, 1) := by decide +kernel
theorem dX9_measure_95 : decode cX9_measure 95 = .ok (.getfield 187, 3) := by decide +kernel
theorem dX9_measure_98 : decode cX9_measure 98 = .ok (.iload_n 2, 1) := by decide +kernel
theorem dX9_measure_99 : decode cX9_measure 99 = .ok (.iastore, 1) := by decide +kernel
theorem dX9_measure_100 : decode cX9_measure 100 = .ok (.aload_n 0, 1) := by decide +kernel
theorem dX9_measure_101 : decode cX9_measure 101 = .ok (.getfield 93, 3) := by decide +kernel
theorem dX9_measure_104 : decode cX9_measure 104 = .ok (.aload_n 0, 1) := by decide +kernel
theorem dX9_measure_105 : decode cX9_measure 105 = .ok (.getfield 187, 3) := by decide +kernel
theorem dX9_measure_108 : decode cX9_measure 108 = .ok (.iload_n 3, 1) := by decide +kernel
theorem dX9_measure_109 : decode cX9_measure 109 = .ok (.bastore, 1) := by decide +kernel
theorem dX9_measure_110 : decode cX9_measure 110 = .ok (.aload_n 0, 1) := by decide +kernel
theorem dX9_measure_111 : decode cX9_measure 111 = .ok (.getfield 90, 3) := by decide +kernel
theorem dX9_measure_114 : decode cX9_measure 114 = .ok (.aload_n 0, 1) := by decide +kernel
theorem dX9_measure_115 : decode cX9_measure 115 = .ok (.getfield 187, 3) := by decide +kernel
theorem dX9_measure_118 : decode cX9_measure 118 = .ok (.iload 4, 2) := by decide +kernel
theorem dX9_measure_120 : decode cX9_measure 120 = .ok (.iastore, 1) := by decide +kernel
theorem dX9_measure_121 : decode cX9_measure 121 = .ok (.aload_n 0, 1) := by decide +kernel
theorem dX9_measure_122 : decode cX9_measure 122 = .ok (.dup, 1) := by decide +kernel
theorem dX9_measure_123 : decode cX9_measure 123 = .ok (.getfield 187, 3) := by decide +kernel
theorem dX9_measure_126 : decode cX9_measure 126 = .ok (.iconst 1, 1) := by decide +kernel
theorem dX9_measure_127 : decode cX9_measure 127 = .ok (.iadd, 1) := by decide +kernel
theorem dX9_measure_128 : decode cX9_measure 128 = .ok (.dup_x1, 1) := by decide +kernel
theorem dX9_measure_129 : decode cX9_measure 129 = .ok (.putfield 187, 3) := by decide +kernel
theorem dX9_measure_132 : decode cX9_measure 132 = .ok (.ireturn, 1) := by decide +kernel
theorem dX9_saves_0 : decode cX9_saves 0 = .ok (.iconst 0, 1) := by decide +kernel
theorem dX9_saves_1 : decode cX9_saves 1 = .ok (.istore 4, 2) := by decide +kernel
theorem dX9_saves_3 : decode cX9_saves 3 = .ok (.iconst 0, 1) := by decide +kernel
theorem dX9_saves_4 : decode cX9_saves 4 = .ok (.istore 5, 2) := by decide +kernel
theorem dX9_saves_6 : decode cX9_saves 6 = .ok (.iconst 0, 1) := by decide +kernel
theorem dX9_saves_7 : decode cX9_saves 7 = .ok (.istore 6, 2) := by decide +kernel
theorem dX9_saves_9 : decode cX9_saves 9 = .ok (.iconst 0, 1) := by decide +kernel
theorem dX9_saves_10 : decode cX9_saves 10 = .ok (.istore 7, 2) := by decide +kernel
theorem dX9_saves_12 : decode cX9_saves 12 = .ok (.iconst 0, 1) := by decide +kernel
theorem dX9_saves_13 : decode cX9_saves 13 = .ok (.istore 8, 2) := by decide +kernel
theorem dX9_saves_15 : decode cX9_saves 15 = .ok (.iconst 0, 1) := by decide +kernel
theorem dX9_saves_16 : decode cX9_saves 16 = .ok (.istore 9, 2) := by decide +kernel
theorem dX9_saves_18 : decode cX9_saves 18 = .ok (.iconst 0, 1) := by decide +kernel
theorem dX9_saves_19 : decode cX9_saves 19 = .ok (.istore 10, 2) := by decide +kernel
theorem dX9_saves_21 : decode cX9_saves 21 = .ok (.iload 10, 2) := by decide +kernel
theorem dX9_saves_23 : decode cX9_saves 23 = .ok (.aload_n 0, 1) := by decide +kernel
theorem dX9_saves_24 : decode cX9_saves 24 = .ok (.getfield 187, 3) := by decide +kernel
theorem dX9_saves_27 : decode cX9_saves 27 = .ok (.if_icmp .ge 113, 3) := by decide +kernel
theorem dX9_saves_30 : decode cX9_saves 30 = .ok (.aload_n 0, 1) := by decide +kernel
theorem dX9_saves_31 : decode cX9_saves 31 = .ok (.getfield 84, 3) := by decide +kernel
theorem dX9_saves_34 : decode cX9_saves 34 = .ok (.iload 10, 2) := by decide +kernel
theorem dX9_saves_36 : decode cX9_saves 36 = .ok (.iaload, 1) := by decide +kernel
theorem dX9_saves_37 : decode cX9_saves 37 = .ok (.iload_n 2, 1) := by decide +kernel
theorem dX9_saves_38 : decode cX9_saves 38 = .ok (.if_icmp .ne 96, 3) := by decide +kernel
theorem dX9_saves_41 : decode cX9_saves 41 = .ok (.aload_n 0, 1) := by decide +kernel
theorem dX9_saves_42 : decode cX9_saves 42 = .ok (.getfield 114, 3) := by decide +kernel
theorem dX9_saves_45 : decode cX9_saves 45 = .ok (.aload_n 0, 1) := by decide +kernel
theorem dX9_saves_46 : decode cX9_saves 46 = .ok (.getfield 87, 3) := by decide +kernel
theorem dX9_saves_49 : decode cX9_saves 49 = .ok (.iload 10, 2) := by decide +kernel
theorem dX9_saves_51 : decode cX9_saves 51 = .ok (.iaload, 1) := by decide +kernel
theorem dX9_saves_52 : decode cX9_saves 52 = .ok (.iaload, 1) := by decide +kernel
theorem dX9_saves_53 : decode cX9_saves 53 = .ok (.iload_n 1, 1) := by decide +kernel
theorem dX9_saves_54 : decode cX9_saves 54 = .ok (.if_icmp .eq 6, 3) := by decide +kernel
theorem dX9_saves_57 : decode cX9_saves 57 = .ok (.goto 77, 3) := by decide +kernel
theorem dX9_saves_60 : decode cX9_saves 60 = .ok (.aload_n 0, 1) := by decide +kernel
theorem dX9_saves_61 : decode cX9_saves 61 = .ok (.getfield 90, 3) := by decide +kernel
theorem dX9_saves_64 : decode cX9_saves 64 = .ok (.iload 10, 2) := by decide +kernel
theorem dX9_saves_66 : decode cX9_saves 66 = .ok (.iaload, 1) := by decide +kernel
theorem dX9_saves_67 : decode cX9_saves 67 = .ok (.istore 11, 2) := by decide +kernel
theorem dX9_saves_69 : decode cX9_saves 69 = .ok (.aload_n 0, 1) := by decide +kernel
theorem dX9_saves_70 : decode cX9_saves 70 = .ok (.getfield 93, 3) := by decide +kernel
theorem dX9_saves_73 : decode cX9_saves 73 = .ok (.iload 10, 2) := by decide +kernel
theorem dX9_saves_75 : decode cX9_saves 75 = .ok (.baload, 1) := by decide +kernel
theorem dX9_saves_76 : decode cX9_saves 76 = .ok (.ifCond .eq 32, 3) := by decide +kernel
theorem dX9_saves_79 : decode cX9_saves 79 = .ok (.iload 5, 2) := by decide +kernel
theorem dX9_saves_81 : decode cX9_saves 81 = .ok (.ifCond .eq 10, 3) := by decide +kernel
theorem dX9_saves_84 : decode cX9_saves 84 = .ok (.iload 11, 2) := by decide +kernel
theorem dX9_saves_86 : decode cX9_saves 86 = .ok (.iload 9, 2) := by decide +kernel
theorem dX9_saves_88 : decode cX9_saves 88 = .ok (.if_icmp .le 7, 3) := by decide +kernel
theorem dX9_saves_91 : decode cX9_saves 91 = .ok (.iload 11, 2) := by decide +kernel
theorem dX9_saves_93 : decode cX9_saves 93 = .ok (.istore 9, 2) := by decide +kernel
theorem dX9_saves_95 : decode cX9_saves 95 = .ok (.iload 7, 2) := by decide +kernel
theorem dX9_saves_97 : decode cX9_saves 97 = .ok (.iload 11, 2) := by decide +kernel
theorem dX9_saves_99 : decode cX9_saves 99 = .ok (.iadd, 1) := by decide +kernel
theorem dX9_saves_100 : decode cX9_saves 100 = .ok (.istore 7, 2) := by decide +kernel
theorem dX9_saves_102 : decode cX9_saves 102 = .ok (.iinc 5 1, 3) := by decide +kernel
theorem dX9_saves_105 : decode cX9_saves 105 = .ok (.goto 29, 3) := by decide +kernel
theorem dX9_saves_108 : decode cX9_saves 108 = .ok (.iload 4, 2) := by decide +kernel
theorem dX9_saves_110 : decode cX9_saves 110 = .ok (.ifCond .eq 10, 3) := by decide +kernel
theorem dX9_saves_113 : decode cX9_saves 113 = .ok (.iload 11, 2) := by decide +kernel
theorem dX9_saves_115 : decode cX9_saves 115 = .ok (.iload 8, 2) := by decide +kernel
theorem dX9_saves_117 : decode cX9_saves 117 = .ok (.if_icmp .ge 7, 3) := by decide +kernel
theorem dX9_saves_120 : decode cX9_saves 120 = .ok (.iload 11, 2) := by decide +kernel
theorem dX9_saves_122 : decode cX9_saves 122 = .ok (.istore 8, 2) := by decide +kernel
theorem dX9_saves_124 : decode cX9_saves 124 = .ok (.iload 6, 2) := by decide +kernel
theorem dX9_saves_126 : decode cX9_saves 126 = .ok (.iload 11, 2) := by decide +kernel
theorem dX9_saves_128 : decode cX9_saves 128 = .ok (.iadd, 1) := by decide +kernel
theorem dX9_saves_129 : decode cX9_saves 129 = .ok (.istore 6, 2) := by decide +kernel
theorem dX9_saves_131 : decode cX9_saves 131 = .ok (.iinc 4 1, 3) := by decide +kernel
theorem dX9_saves_134 : decode cX9_saves 134 = .ok (.iinc 10 1, 3) := by decide +kernel
theorem dX9_saves_137 : decode cX9_saves 137 = .ok (.goto (-116), 3) := by decide +kernel
theorem dX9_saves_140 : decode cX9_saves 140 = .ok (.iload 4, 2) := by decide +kernel
theorem dX9_saves_142 : decode cX9_saves 142 = .ok (.ifCond .eq 8, 3) := by decide +kernel
theorem dX9_saves_145 : decode cX9_saves 145 = .ok (.iload 5, 2) := by decide +kernel
theorem dX9_saves_147 : decode cX9_saves 147 = .ok (.ifCond .ne 5, 3) := by decide +kernel
theorem dX9_saves_150 : decode cX9_saves 150 = .ok (.iconst 0, 1) := by decide +kernel
theorem dX9_saves_151 : decode cX9_saves 151 = .ok (.ireturn, 1) := by decide +kernel
theorem dX9_saves_152 : decode cX9_saves 152 = .ok (.iload_n 3, 1) := by decide +kernel
theorem dX9_saves_153 : decode cX9_saves 153 = .ok (.ifCond .eq 17, 3) := by decide +kernel
theorem dX9_saves_156 : decode cX9_saves 156 = .ok (.iload 6, 2) := by decide +kernel
theorem dX9_saves_158 : decode cX9_saves 158 = .ok (.iload 4, 2) := by decide +kernel
theorem dX9_saves_160 : decode cX9_saves 160 = .ok (.idiv, 1) := by decide +kernel
theorem dX9_saves_161 : decode cX9_saves 161 = .ok (.iload 7, 2) := by decide +kernel
theorem dX9_saves_163 : decode cX9_saves 163 = .ok (.iload 5, 2) := by decide +kernel
theorem dX9_saves_165 : decode cX9_saves 165 = .ok (.idiv, 1) := by decide +kernel
theorem dX9_saves_166 : decode cX9_saves 166 = .ok (.isub, 1) := by decide +kernel
theorem dX9_saves_167 : decode cX9_saves 167 = .ok (.goto 8, 3) := by decide +kernel
theorem dX9_saves_170 : decode cX9_saves 170 = .ok (.iload 8, 2) := by decide +kernel
theorem dX9_saves_172 : decode cX9_saves 172 = .ok (.iload 9, 2) := by decide +kernel
theorem dX9_saves_174 : decode cX9_saves 174 = .ok (.isub, 1) := by decide +kernel
theorem dX9_saves_175 : decode cX9_saves 175 = .ok (.istore 10, 2) := by decide +kernel
theorem dX9_saves_177 : decode cX9_saves 177 = .ok (.iload 10, 2) := by decide +kernel
theorem dX9_saves_179 : decode cX9_saves 179 = .ok (.ifCond .ge 7, 3) := by decide +kernel
theorem dX9_saves_182 : decode cX9_saves 182 = .ok (.iconst 0, 1) := by decide +kernel
theorem dX9_saves_183 : decode cX9_saves 183 = .ok (.goto 5, 3) := by decide +kernel
theorem dX9_saves_186 : decode cX9_saves 186 = .ok (.iload 10, 2) := by decide +kernel
theorem dX9_saves_188 : decode cX9_saves 188 = .ok (.ireturn, 1) := by decide +kernel
theorem dX9_saved_0 : decode cX9_saved 0 = .ok (.iload_n 1, 1) := by decide +kernel
theorem dX9_saved_1 : decode cX9_saved 1 = .ok (.invokestatic 184, 3) := by decide +kernel
theorem dX9_saved_4 : decode cX9_saved 4 = .ok (.ifCond .eq 11, 3) := by decide +kernel
theorem dX9_saved_7 : decode cX9_saved 7 = .ok (.aload_n 0, 1) := by decide +kernel
theorem dX9_saved_8 : decode cX9_saved 8 = .ok (.iload_n 2, 1) := by decide +kernel
theorem dX9_saved_9 : decode cX9_saved 9 = .ok (.invokevirtual 141, 3) := by decide +kernel
theorem dX9_saved_12 : decode cX9_saved 12 = .ok (.ifCond .ne 9, 3) := by decide +kernel
theorem dX9_saved_15 : decode cX9_saved 15 = .ok (.aload_n 0, 1) := by decide +kernel
theorem dX9_saved_16 : decode cX9_saved 16 = .ok (.iconst (-1), 1) := by decide +kernel
theorem dX9_saved_17 : decode cX9_saved 17 = .ok (.invokevirtual 128, 3) := by decide +kernel
theorem dX9_saved_20 : decode cX9_saved 20 = .ok (.ireturn, 1) := by decide +kernel
theorem dX9_saved_21 : decode cX9_saved 21 = .ok (.iload_n 3, 1) := by decide +kernel
theorem dX9_saved_22 : decode cX9_saved 22 = .ok (.ifCond .lt 8, 3) := by decide +kernel
theorem dX9_saved_25 : decode cX9_saved 25 = .ok (.iload_n 3, 1) := by decide +kernel
theorem dX9_saved_26 : decode cX9_saved 26 = .ok (.iconst 1, 1) := by decide +kernel
theorem dX9_saved_27 : decode cX9_saved 27 = .ok (.if_icmp .le 10, 3) := by decide +kernel
theorem dX9_saved_30 : decode cX9_saved 30 = .ok (.aload_n 0, 1) := by decide +kernel
theorem dX9_saved_31 : decode cX9_saved 31 = .ok (.bipush (-2), 2) := by decide +kernel
theorem dX9_saved_33 : decode cX9_saved 33 = .ok (.invokevirtual 128, 3) := by decide +kernel
theorem dX9_saved_36 : decode cX9_saved 36 = .ok (.ireturn, 1) := by decide +kernel
theorem dX9_saved_37 : decode cX9_saved 37 = .ok (.aload_n 0, 1) := by decide +kernel
theorem dX9_saved_38 : decode cX9_saved 38 = .ok (.aload_n 0, 1) := by decide +kernel
theorem dX9_saved_39 : decode cX9_saved 39 = .ok (.getfield 7, 3) := by decide +kernel
theorem dX9_saved_42 : decode cX9_saved 42 = .ok (.invokevirtual 155, 3) := by decide +kernel
theorem dX9_saved_45 : decode cX9_saved 45 = .ok (.aload_n 0, 1) := by decide +kernel
theorem dX9_saved_46 : decode cX9_saved 46 = .ok (.aload_n 0, 1) := by decide +kernel
theorem dX9_saved_47 : decode cX9_saved 47 = .ok (.getfield 114, 3) := by decide +kernel
theorem dX9_saved_50 : decode cX9_saved 50 = .ok (.iload_n 2, 1) := by decide +kernel
theorem dX9_saved_51 : decode cX9_saved 51 = .ok (.iaload, 1) := by decide +kernel
theorem dX9_saved_52 : decode cX9_saved 52 = .ok (.iload_n 1, 1) := by decide +kernel
theorem dX9_saved_53 : decode cX9_saved 53 = .ok (.iload_n 3, 1) := by decide +kernel
theorem dX9_saved_54 : decode cX9_saved 54 = .ok (.iconst 1, 1) := by decide +kernel
theorem dX9_saved_55 : decode cX9_saved 55 = .ok (.if_icmp .ne 7, 3) := by decide +kernel
theorem dX9_saved_58 : decode cX9_saved 58 = .ok (.iconst 1, 1) := by decide +kernel
theorem dX9_saved_59 : decode cX9_saved 59 = .ok (.goto 4, 3) := by decide +kernel
theorem dX9_saved_62 : decode cX9_saved 62 = .ok (.iconst 0, 1) := by decide +kernel
theorem dX9_saved_63 : decode cX9_saved 63 = .ok (.invokevirtual 190, 3) := by decide +kernel
theorem dX9_saved_66 : decode cX9_saved 66 = .ok (.ireturn, 1) := by decide +kernel
theorem dX9_harm_0 : decode cX9_harm 0 = .ok (.aload_n 0, 1) := by decide +kernel
theorem dX9_harm_1 : decode cX9_harm 1 = .ok (.iload_n 1, 1) := by decide +kernel
theorem dX9_harm_2 : decode cX9_harm 2 = .ok (.invokevirtual 141, 3) := by decide +kernel
theorem dX9_harm_5 : decode cX9_harm 5 = .ok (.ifCond .ne 9, 3) := by decide +kernel
theorem dX9_harm_8 : decode cX9_harm 8 = .ok (.aload_n 0, 1) := by decide +kernel
theorem dX9_harm_9 : decode cX9_harm 9 = .ok (.iconst (-1), 1) := by decide +kernel
theorem dX9_harm_10 : decode cX9_harm 10 = .ok (.invokevirtual 128, 3) := by decide +kernel
theorem dX9_harm_13 : decode cX9_harm 13 = .ok (.ireturn, 1) := by decide +kernel
theorem dX9_harm_14 : decode cX9_harm 14 = .ok (.iload_n 2, 1) := by decide +kernel
theorem dX9_harm_15 : decode cX9_harm 15 = .ok (.ifCond .ge 10, 3) := by decide +kernel
theorem dX9_harm_18 : decode cX9_harm 18 = .ok (.aload_n 0, 1) := by decide +kernel
theorem dX9_harm_19 : decode cX9_harm 19 = .ok (.bipush (-4), 2) := by decide +kernel
theorem dX9_harm_21 : decode cX9_harm 21 = .ok (.invokevirtual 128, 3) := by decide +kernel
theorem dX9_harm_24 : decode cX9_harm 24 = .ok (.ireturn, 1) := by decide +kernel
theorem dX9_harm_25 : decode cX9_harm 25 = .ok (.iload_n 2, 1) := by decide +kernel
theorem dX9_harm_26 : decode cX9_harm 26 = .ok (.ldc 194, 2) := by decide +kernel
theorem dX9_harm_28 : decode cX9_harm 28 = .ok (.if_icmp .le 10, 3) := by decide +kernel
theorem dX9_harm_31 : decode cX9_harm 31 = .ok (.aload_n 0, 1) := by decide +kernel
theorem dX9_harm_32 : decode cX9_harm 32 = .ok (.bipush (-6), 2) := by decide +kernel
theorem dX9_harm_34 : decode cX9_harm 34 = .ok (.invokevirtual 128, 3) := by decide +kernel
theorem dX9_harm_37 : decode cX9_harm 37 = .ok (.ireturn, 1) := by decide +kernel
theorem dX9_harm_38 : decode cX9_harm 38 = .ok (.aload_n 0, 1) := by decide +kernel
theorem dX9_harm_39 : decode cX9_harm 39 = .ok (.getfield 66, 3) := by decide +kernel
theorem dX9_harm_42 : decode cX9_harm 42 = .ok (.iload_n 1, 1) := by decide +kernel
theorem dX9_harm_43 : decode cX9_harm 43 = .ok (.iaload, 1) := by decide +kernel
theorem dX9_harm_44 : decode cX9_harm 44 = .ok (.istore_n 3, 1) := by decide +kernel
theorem dX9_harm_45 : decode cX9_harm 45 = .ok (.aload_n 0, 1) := by decide +kernel
theorem dX9_harm_46 : decode cX9_harm 46 = .ok (.getfield 66, 3) := by decide +kernel
theorem dX9_harm_49 : decode cX9_harm 49 = .ok (.iload_n 1, 1) := by decide +kernel
theorem dX9_harm_50 : decode cX9_harm 50 = .ok (.iload_n 2, 1) := by decide +kernel
theorem dX9_harm_51 : decode cX9_harm 51 = .ok (.iastore, 1) := by decide +kernel
theorem dX9_harm_52 : decode cX9_harm 52 = .ok (.iload_n 3, 1) := by decide +kernel
theorem dX9_harm_53 : decode cX9_harm 53 = .ok (.ireturn, 1) := by decide +kernel
theorem dX9_worthOf_0 : decode cX9_worthOf 0 = .ok (.iconst 0, 1) := by decide +kernel
theorem dX9_worthOf_1 : decode cX9_worthOf 1 = .ok (.istore_n 2, 1) := by decide +kernel
theorem dX9_worthOf_2 : decode cX9_worthOf 2 = .ok (.iconst 0, 1) := by decide +kernel
theorem dX9_worthOf_3 : decode cX9_worthOf 3 = .ok (.istore_n 3, 1) := by decide +kernel
theorem dX9_worthOf_4 : decode cX9_worthOf 4 = .ok (.iload_n 3, 1) := by decide +kernel
theorem dX9_worthOf_5 : decode cX9_worthOf 5 = .ok (.bipush 10, 2) := by decide +kernel
theorem dX9_worthOf_7 : decode cX9_worthOf 7 = .ok (.if_icmp .ge 29, 3) := by decide +kernel
theorem dX9_worthOf_10 : decode cX9_worthOf 10 = .ok (.iload_n 2, 1) := by decide +kernel
theorem dX9_worthOf_11 : decode cX9_worthOf 11 = .ok (.aload_n 0, 1) := by decide +kernel
theorem dX9_worthOf_12 : decode cX9_worthOf 12 = .ok (.iload_n 1, 1) := by decide +kernel
theorem dX9_worthOf_13 : decode cX9_worthOf 13 = .ok (.iload_n 3, 1) := by decide +kernel
theorem dX9_worthOf_14 : decode cX9_worthOf 14 = .ok (.iconst 0, 1) := by decide +kernel
theorem dX9_worthOf_15 : decode cX9_worthOf 15 = .ok (.invokevirtual 190, 3) := by decide +kernel
theorem dX9_worthOf_18 : decode cX9_worthOf 18 = .ok (.aload_n 0, 1) := by decide +kernel
theorem dX9_worthOf_19 : decode cX9_worthOf 19 = .ok (.getfield 81, 3) := by decide +kernel
theorem dX9_worthOf_22 : decode cX9_worthOf 22 = .ok (.iload_n 3, 1) := by decide +kernel
theorem dX9_worthOf_23 : decode cX9_worthOf 23 = .ok (.iaload, 1) := by decide +kernel
theorem dX9_worthOf_24 : decode cX9_worthOf 24 = .ok (.imul, 1) := by decide +kernel
theorem dX9_worthOf_25 : decode cX9_worthOf 25 = .ok (.bipush 100, 2) := by decide +kernel
theorem dX9_worthOf_27 : decode cX9_worthOf 27 = .ok (.idiv, 1) := by decide +kernel
theorem dX9_worthOf_28 : decode cX9_worthOf 28 = .ok (.iadd, 1) := by decide +kernel
theorem dX9_worthOf_29 : decode cX9_worthOf 29 = .ok (.istore_n 2, 1) := by decide +kernel
theorem dX9_worthOf_30 : decode cX9_worthOf 30 = .ok (.iinc 3 1, 3) := by decide +kernel
theorem dX9_worthOf_33 : decode cX9_worthOf 33 = .ok (.goto (-29), 3) := by decide +kernel
theorem dX9_worthOf_36 : decode cX9_worthOf 36 = .ok (.iconst 0, 1) := by decide +kernel
theorem dX9_worthOf_37 : decode cX9_worthOf 37 = .ok (.istore_n 3, 1) := by decide +kernel
theorem dX9_worthOf_38 : decode cX9_worthOf 38 = .ok (.iload_n 3, 1) := by decide +kernel
theorem dX9_worthOf_39 : decode cX9_worthOf 39 = .ok (.aload_n 0, 1) := by decide +kernel
theorem dX9_worthOf_40 : decode cX9_worthOf 40 = .ok (.getfield 120, 3) := by decide +kernel
theorem dX9_worthOf_43 : decode cX9_worthOf 43 = .ok (.if_icmp .ge 28, 3) := by decide +kernel
theorem dX9_worthOf_46 : decode cX9_worthOf 46 = .ok (.aload_n 0, 1) := by decide +kernel
theorem dX9_worthOf_47 : decode cX9_worthOf 47 = .ok (.getfield 114, 3) := by decide +kernel
theorem dX9_worthOf_50 : decode cX9_worthOf 50 = .ok (.iload_n 3, 1) := by decide +kernel
theorem dX9_worthOf_51 : decode cX9_worthOf 51 = .ok (.iaload, 1) := by decide +kernel
theorem dX9_worthOf_52 : decode cX9_worthOf 52 = .ok (.iload_n 1, 1) := by decide +kernel
theorem dX9_worthOf_53 : decode cX9_worthOf 53 = .ok (.if_icmp .ne 12, 3) := by decide +kernel
theorem dX9_worthOf_56 : decode cX9_worthOf 56 = .ok (.iload_n 2, 1) := by decide +kernel
theorem dX9_worthOf_57 : decode cX9_worthOf 57 = .ok (.aload_n 0, 1) := by decide +kernel
theorem dX9_worthOf_58 : decode cX9_worthOf 58 = .ok (.getfield 66, 3) := by decide +kernel
theorem dX9_worthOf_61 : decode cX9_worthOf 61 = .ok (.iload_n 3, 1) := by decide +kernel
theorem dX9_worthOf_62 : decode cX9_worthOf 62 = .ok (.iaload, 1) := by decide +kernel
theorem dX9_worthOf_63 : decode cX9_worthOf 63 = .ok (.isub, 1) := by decide +kernel
theorem dX9_worthOf_64 : decode cX9_worthOf 64 = .ok (.istore_n 2, 1) := by decide +kernel
theorem dX9_worthOf_65 : decode cX9_worthOf 65 = .ok (.iinc 3 1, 3) := by decide +kernel
theorem dX9_worthOf_68 : decode cX9_worthOf 68 = .ok (.goto (-30), 3) := by decide +kernel
theorem dX9_worthOf_71 : decode cX9_worthOf 71 = .ok (.iload_n 2, 1) := by decide +kernel
theorem dX9_worthOf_72 : decode cX9_worthOf 72 = .ok (.ifCond .ge 7, 3) := by decide +kernel
theorem dX9_worthOf_75 : decode cX9_worthOf 75 = .ok (.iconst 0, 1) := by decide +kernel
theorem dX9_worthOf_76 : decode cX9_worthOf 76 = .ok (.goto 4, 3) := by decide +kernel
theorem dX9_worthOf_79 : decode cX9_worthOf 79 = .ok (.iload_n 2, 1) := by decide +kernel
theorem dX9_worthOf_80 : decode cX9_worthOf 80 = .ok (.ireturn, 1) := by decide +kernel
theorem dX9_worth_0 : decode cX9_worth 0 = .ok (.aload_n 0, 1) := by decide +kernel
theorem dX9_worth_1 : decode cX9_worth 1 = .ok (.iload_n 1, 1) := by decide +kernel
theorem dX9_worth_2 : decode cX9_worth 2 = .ok (.invokevirtual 141, 3) := by decide +kernel
theorem dX9_worth_5 : decode cX9_worth 5 = .ok (.ifCond .ne 9, 3) := by decide +kernel
theorem dX9_worth_8 : decode cX9_worth 8 = .ok (.aload_n 0, 1) := by decide +kernel
theorem dX9_worth_9 : decode cX9_worth 9 = .ok (.iconst (-1), 1) := by decide +kernel
theorem dX9_worth_10 : decode cX9_worth 10 = .ok (.invokevirtual 128, 3) := by decide +kernel
theorem dX9_worth_13 : decode cX9_worth 13 = .ok (.ireturn, 1) := by decide +kernel
theorem dX9_worth_14 : decode cX9_worth 14 = .ok (.aload_n 0, 1) := by decide +kernel
theorem dX9_worth_15 : decode cX9_worth 15 = .ok (.aload_n 0, 1) := by decide +kernel
theorem dX9_worth_16 : decode cX9_worth 16 = .ok (.getfield 7, 3) := by decide +kernel
theorem dX9_worth_19 : decode cX9_worth 19 = .ok (.invokevirtual 155, 3) := by decide +kernel
theorem dX9_worth_22 : decode cX9_worth 22 = .ok (.aload_n 0, 1) := by decide +kernel
theorem dX9_worth_23 : decode cX9_worth 23 = .ok (.aload_n 0, 1) := by decide +kernel
theorem dX9_worth_24 : decode cX9_worth 24 = .ok (.getfield 114, 3) := by decide +kernel
theorem dX9_worth_27 : decode cX9_worth 27 = .ok (.iload_n 1, 1) := by decide +kernel
theorem dX9_worth_28 : decode cX9_worth 28 = .ok (.iaload, 1) := by decide +kernel
theorem dX9_worth_29 : decode cX9_worth 29 = .ok (.invokevirtual 195, 3) := by decide +kernel
theorem dX9_worth_32 : decode cX9_worth 32 = .ok (.ireturn, 1) := by decide +kernel
theorem dX9_rule_0 : decode cX9_rule 0 = .ok (.iload_n 1, 1) := by decide +kernel
theorem dX9_rule_1 : decode cX9_rule 1 = .ok (.aload_n 0, 1) := by decide +kernel
theorem dX9_rule_2 : decode cX9_rule 2 = .ok (.getfield 138, 3) := by decide +kernel
theorem dX9_rule_5 : decode cX9_rule 5 = .ok (.if_icmp .lt 17, 3) := by decide +kernel
theorem dX9_rule_8 : decode cX9_rule 8 = .ok (.iload_n 2, 1) := by decide +kernel
theorem dX9_rule_9 : decode cX9_rule 9 = .ok (.ifCond .lt 13, 3) := by decide +kernel
theorem dX9_rule_12 : decode cX9_rule 12 = .ok (.iload_n 3, 1) := by decide +kernel
theorem dX9_rule_13 : decode cX9_rule 13 = .ok (.ifCond .lt 9, 3) := by decide +kernel
theorem dX9_rule_16 : decode cX9_rule 16 = .ok (.iload 4, 2) := by decide +kernel
theorem dX9_rule_18 : decode cX9_rule 18 = .ok (.iconst 1, 1) := by decide +kernel
theorem dX9_rule_19 : decode cX9_rule 19 = .ok (.if_icmp .ge 10, 3) := by decide +kernel
theorem dX9_rule_22 : decode cX9_rule 22 = .ok (.aload_n 0, 1) := by decide +kernel
theorem dX9_rule_23 : decode cX9_rule 23 = .ok (.bipush (-4), 2) := by decide +kernel
theorem dX9_rule_25 : decode cX9_rule 25 = .ok (.invokevirtual 128, 3) := by decide +kernel
theorem dX9_rule_28 : decode cX9_rule 28 = .ok (.ireturn, 1) := by decide +kernel
theorem dX9_rule_29 : decode cX9_rule 29 = .ok (.iload_n 1, 1) := by decide +kernel
theorem dX9_rule_30 : decode cX9_rule 30 = .ok (.sipush 3000, 3) := by decide +kernel
theorem dX9_rule_33 : decode cX9_rule 33 = .ok (.if_icmp .gt 30, 3) := by decide +kernel
theorem dX9_rule_36 : decode cX9_rule 36 = .ok (.iload_n 2, 1) := by decide +kernel
theorem dX9_rule_37 : decode cX9_rule 37 = .ok (.bipush 100, 2) := by decide +kernel
theorem dX9_rule_39 : decode cX9_rule 39 = .ok (.if_icmp .gt 24, 3) := by decide +kernel
theorem dX9_rule_42 : decode cX9_rule 42 = .ok (.iload_n 3, 1) := by decide +kernel
theorem dX9_rule_43 : decode cX9_rule 43 = .ok (.ldc 194, 2) := by decide +kernel
theorem dX9_rule_45 : decode cX9_rule 45 = .ok (.if_icmp .gt 18, 3) := by decide +kernel
theorem dX9_rule_48 : decode cX9_rule 48 = .ok (.iload 4, 2) := by decide +kernel
theorem dX9_rule_50 : decode cX9_rule 50 = .ok (.iconst 5, 1) := by decide +kernel
theorem dX9_rule_51 : decode cX9_rule 51 = .ok (.if_icmp .gt 12, 3) := by decide +kernel
theorem dX9_rule_54 : decode cX9_rule 54 = .ok (.aload_n 0, 1) := by decide +kernel
theorem dX9_rule_55 : decode cX9_rule 55 = .ok (.getfield 198, 3) := by decide +kernel
theorem dX9_rule_58 : decode cX9_rule 58 = .ok (.bipush 20, 2) := by decide +kernel
theorem dX9_rule_60 : decode cX9_rule 60 = .ok (.if_icmp .ne 10, 3) := by decide +kernel
theorem dX9_rule_63 : decode cX9_rule 63 = .ok (.aload_n 0, 1) := by decide +kernel
theorem dX9_rule_64 : decode cX9_rule 64 = .ok (.bipush (-6), 2) := by decide +kernel
theorem dX9_rule_66 : decode cX9_rule 66 = .ok (.invokevirtual 128, 3) := by decide +kernel
theorem dX9_rule_69 : decode cX9_rule 69 = .ok (.ireturn, 1) := by decide +kernel
theorem dX9_rule_70 : decode cX9_rule 70 = .ok (.aload_n 0, 1) := by decide +kernel
theorem dX9_rule_71 : decode cX9_rule 71 = .ok (.getfield 96, 3) := by decide +kernel
theorem dX9_rule_74 : decode cX9_rule 74 = .ok (.aload_n 0, 1) := by decide +kernel
theorem dX9_rule_75 : decode cX9_rule 75 = .ok (.getfield 198, 3) := by decide +kernel
theorem dX9_rule_78 : decode cX9_rule 78 = .ok (.iload_n 1, 1) := by decide +kernel
theorem dX9_rule_79 : decode cX9_rule 79 = .ok (.iastore, 1) := by decide +kernel
theorem dX9_rule_80 : decode cX9_rule 80 = .ok (.aload_n 0, 1) := by decide +kernel
theorem dX9_rule_81 : decode cX9_rule 81 = .ok (.getfield 99, 3) := by decide +kernel
theorem dX9_rule_84 : decode cX9_rule 84 = .ok (.aload_n 0, 1) := by decide +kernel
theorem dX9_rule_85 : decode cX9_rule 85 = .ok (.getfield 198, 3) := by decide +kernel
theorem dX9_rule_88 : decode cX9_rule 88 = .ok (.iload_n 2, 1) := by decide +kernel
theorem dX9_rule_89 : decode cX9_rule 89 = .ok (.iastore, 1) := by decide +kernel
theorem dX9_rule_90 : decode cX9_rule 90 = .ok (.aload_n 0, 1) := by decide +kernel
theorem dX9_rule_91 : decode cX9_rule 91 = .ok (.getfield 102, 3) := by decide +kernel
theorem dX9_rule_94 : decode cX9_rule 94 = .ok (.aload_n 0, 1) := by decide +kernel
theorem dX9_rule_95 : decode cX9_rule 95 = .ok (.getfield 198, 3) := by decide +kernel
theorem dX9_rule_98 : decode cX9_rule 98 = .ok (.iload_n 3, 1) := by decide +kernel
theorem dX9_rule_99 : decode cX9_rule 99 = .ok (.iastore, 1) := by decide +kernel
theorem dX9_rule_100 : decode cX9_rule 100 = .ok (.aload_n 0, 1) := by decide +kernel
theorem dX9_rule_101 : decode cX9_rule 101 = .ok (.getfield 105, 3) := by decide +kernel
theorem dX9_rule_104 : decode cX9_rule 104 = .ok (.aload_n 0, 1) := by decide +kernel
theorem dX9_rule_105 : decode cX9_rule 105 = .ok (.getfield 198, 3) := by decide +kernel
theorem dX9_rule_108 : decode cX9_rule 108 = .ok (.iload 4, 2) := by decide +kernel
theorem dX9_rule_110 : decode cX9_rule 110 = .ok (.iastore, 1) := by decide +kernel
theorem dX9_rule_111 : decode cX9_rule 111 = .ok (.aload_n 0, 1) := by decide +kernel
theorem dX9_rule_112 : decode cX9_rule 112 = .ok (.dup, 1) := by decide +kernel
theorem dX9_rule_113 : decode cX9_rule 113 = .ok (.getfield 198, 3) := by decide +kernel
theorem dX9_rule_116 : decode cX9_rule 116 = .ok (.dup_x1, 1) := by decide +kernel
theorem dX9_rule_117 : decode cX9_rule 117 = .ok (.iconst 1, 1) := by decide +kernel
theorem dX9_rule_118 : decode cX9_rule 118 = .ok (.iadd, 1) := by decide +kernel
theorem dX9_rule_119 : decode cX9_rule 119 = .ok (.putfield 198, 3) := by decide +kernel
theorem dX9_rule_122 : decode cX9_rule 122 = .ok (.ireturn, 1) := by decide +kernel
theorem dX9_ruleFor_0 : decode cX9_ruleFor 0 = .ok (.aload_n 0, 1) := by decide +kernel
theorem dX9_ruleFor_1 : decode cX9_ruleFor 1 = .ok (.getfield 54, 3) := by decide +kernel
theorem dX9_ruleFor_4 : decode cX9_ruleFor 4 = .ok (.aload_n 0, 1) := by decide +kernel
theorem dX9_ruleFor_5 : decode cX9_ruleFor 5 = .ok (.iload_n 1, 1) := by decide +kernel
theorem dX9_ruleFor_6 : decode cX9_ruleFor 6 = .ok (.invokevirtual 162, 3) := by decide +kernel
theorem dX9_ruleFor_9 : decode cX9_ruleFor 9 = .ok (.iaload, 1) := by decide +kernel
theorem dX9_ruleFor_10 : decode cX9_ruleFor 10 = .ok (.istore_n 2, 1) := by decide +kernel
theorem dX9_ruleFor_11 : decode cX9_ruleFor 11 = .ok (.bipush (-9), 2) := by decide +kernel
theorem dX9_ruleFor_13 : decode cX9_ruleFor 13 = .ok (.istore_n 3, 1) := by decide +kernel
theorem dX9_ruleFor_14 : decode cX9_ruleFor 14 = .ok (.iconst 0, 1) := by decide +kernel
theorem dX9_ruleFor_15 : decode cX9_ruleFor 15 = .ok (.istore 4, 2) := by decide +kernel
theorem dX9_ruleFor_17 : decode cX9_ruleFor 17 = .ok (.iload 4, 2) := by decide +kernel
theorem dX9_ruleFor_19 : decode cX9_ruleFor 19 = .ok (.aload_n 0, 1) := by decide +kernel
theorem dX9_ruleFor_20 : decode cX9_ruleFor 20 = .ok (.getfield 198, 3) := by decide +kernel
theorem dX9_ruleFor_23 : decode cX9_ruleFor 23 = .ok (.if_icmp .ge 45, 3) := by decide +kernel
theorem dX9_ruleFor_26 : decode cX9_ruleFor 26 = .ok (.aload_n 0, 1) := by decide +kernel
theorem dX9_ruleFor_27 : decode cX9_ruleFor 27 = .ok (.getfield 96, 3) := by decide +kernel
theorem dX9_ruleFor_30 : decode cX9_ruleFor 30 = .ok (.iload 4, 2) := by decide +kernel
theorem dX9_ruleFor_32 : decode cX9_ruleFor 32 = .ok (.iaload, 1) := by decide +kernel
theorem dX9_ruleFor_33 : decode cX9_ruleFor 33 = .ok (.iload_n 2, 1) := by decide +kernel
theorem dX9_ruleFor_34 : decode cX9_ruleFor 34 = .ok (.if_icmp .gt 28, 3) := by decide +kernel
theorem dX9_ruleFor_37 : decode cX9_ruleFor 37 = .ok (.iload_n 3, 1) := by decide +kernel
theorem dX9_ruleFor_38 : decode cX9_ruleFor 38 = .ok (.bipush (-9), 2) := by decide +kernel
theorem dX9_ruleFor_40 : decode cX9_ruleFor 40 = .ok (.if_icmp .eq 19, 3) := by decide +kernel
theorem dX9_ruleFor_43 : decode cX9_ruleFor 43 = .ok (.aload_n 0, 1) := by decide +kernel
theorem dX9_ruleFor_44 : decode cX9_ruleFor 44 = .ok (.getfield 96, 3) := by decide +kernel
theorem dX9_ruleFor_47 : decode cX9_ruleFor 47 = .ok (.iload 4, 2) := by decide +kernel
theorem dX9_ruleFor_49 : decode cX9_ruleFor 49 = .ok (.iaload, 1) := by decide +kernel
theorem dX9_ruleFor_50 : decode cX9_ruleFor 50 = .ok (.aload_n 0, 1) := by decide +kernel
theorem dX9_ruleFor_51 : decode cX9_ruleFor 51 = .ok (.getfield 96, 3) := by decide +kernel
theorem dX9_ruleFor_54 : decode cX9_ruleFor 54 = .ok (.iload_n 3, 1) := by decide +kernel
theorem dX9_ruleFor_55 : decode cX9_ruleFor 55 = .ok (.iaload, 1) := by decide +kernel
theorem dX9_ruleFor_56 : decode cX9_ruleFor 56 = .ok (.if_icmp .lt 6, 3) := by decide +kernel
theorem dX9_ruleFor_59 : decode cX9_ruleFor 59 = .ok (.iload 4, 2) := by decide +kernel
theorem dX9_ruleFor_61 : decode cX9_ruleFor 61 = .ok (.istore_n 3, 1) := by decide +kernel
theorem dX9_ruleFor_62 : decode cX9_ruleFor 62 = .ok (.iinc 4 1, 3) := by decide +kernel
theorem dX9_ruleFor_65 : decode cX9_ruleFor 65 = .ok (.goto (-48), 3) := by decide +kernel
theorem dX9_ruleFor_68 : decode cX9_ruleFor 68 = .ok (.iload_n 3, 1) := by decide +kernel
theorem dX9_ruleFor_69 : decode cX9_ruleFor 69 = .ok (.ireturn, 1) := by decide +kernel
theorem dX9_ruleOf_0 : decode cX9_ruleOf 0 = .ok (.aload_n 0, 1) := by decide +kernel
theorem dX9_ruleOf_1 : decode cX9_ruleOf 1 = .ok (.iload_n 1, 1) := by decide +kernel
theorem dX9_ruleOf_2 : decode cX9_ruleOf 2 = .ok (.invokevirtual 141, 3) := by decide +kernel
theorem dX9_ruleOf_5 : decode cX9_ruleOf 5 = .ok (.ifCond .ne 9, 3) := by decide +kernel
theorem dX9_ruleOf_8 : decode cX9_ruleOf 8 = .ok (.aload_n 0, 1) := by decide +kernel
theorem dX9_ruleOf_9 : decode cX9_ruleOf 9 = .ok (.iconst (-1), 1) := by decide +kernel
theorem dX9_ruleOf_10 : decode cX9_ruleOf 10 = .ok (.invokevirtual 128, 3) := by decide +kernel
theorem dX9_ruleOf_13 : decode cX9_ruleOf 13 = .ok (.ireturn, 1) := by decide +kernel
theorem dX9_ruleOf_14 : decode cX9_ruleOf 14 = .ok (.aload_n 0, 1) := by decide +kernel
theorem dX9_ruleOf_15 : decode cX9_ruleOf 15 = .ok (.aload_n 0, 1) := by decide +kernel
theorem dX9_ruleOf_16 : decode cX9_ruleOf 16 = .ok (.getfield 7, 3) := by decide +kernel
theorem dX9_ruleOf_19 : decode cX9_ruleOf 19 = .ok (.invokevirtual 155, 3) := by decide +kernel
theorem dX9_ruleOf_22 : decode cX9_ruleOf 22 = .ok (.aload_n 0, 1) := by decide +kernel
theorem dX9_ruleOf_23 : decode cX9_ruleOf 23 = .ok (.aload_n 0, 1) := by decide +kernel
theorem dX9_ruleOf_24 : decode cX9_ruleOf 24 = .ok (.getfield 114, 3) := by decide +kernel
theorem dX9_ruleOf_27 : decode cX9_ruleOf 27 = .ok (.iload_n 1, 1) := by decide +kernel
theorem dX9_ruleOf_28 : decode cX9_ruleOf 28 = .ok (.iaload, 1) := by decide +kernel
theorem dX9_ruleOf_29 : decode cX9_ruleOf 29 = .ok (.invokevirtual 201, 3) := by decide +kernel
theorem dX9_ruleOf_32 : decode cX9_ruleOf 32 = .ok (.ireturn, 1) := by decide +kernel
theorem dX9_pay_0 : decode cX9_pay 0 = .ok (.aload_n 0, 1) := by decide +kernel
theorem dX9_pay_1 : decode cX9_pay 1 = .ok (.iload_n 1, 1) := by decide +kernel
theorem dX9_pay_2 : decode cX9_pay 2 = .ok (.invokevirtual 195, 3) := by decide +kernel
theorem dX9_pay_5 : decode cX9_pay 5 = .ok (.iload_n 2, 1) := by decide +kernel
theorem dX9_pay_6 : decode cX9_pay 6 = .ok (.imul, 1) := by decide +kernel
theorem dX9_pay_7 : decode cX9_pay 7 = .ok (.bipush 100, 2) := by decide +kernel
theorem dX9_pay_9 : decode cX9_pay 9 = .ok (.idiv, 1) := by decide +kernel
theorem dX9_pay_10 : decode cX9_pay 10 = .ok (.istore 4, 2) := by decide +kernel
theorem dX9_pay_12 : decode cX9_pay 12 = .ok (.iload 4, 2) := by decide +kernel
theorem dX9_pay_14 : decode cX9_pay 14 = .ok (.iload_n 3, 1) := by decide +kernel
theorem dX9_pay_15 : decode cX9_pay 15 = .ok (.if_icmp .le 7, 3) := by decide +kernel
theorem dX9_pay_18 : decode cX9_pay 18 = .ok (.iload_n 3, 1) := by decide +kernel
theorem dX9_pay_19 : decode cX9_pay 19 = .ok (.goto 5, 3) := by decide +kernel
theorem dX9_pay_22 : decode cX9_pay 22 = .ok (.iload 4, 2) := by decide +kernel
theorem dX9_pay_24 : decode cX9_pay 24 = .ok (.ireturn, 1) := by decide +kernel
theorem dX9_paysToday_0 : decode cX9_paysToday 0 = .ok (.aload_n 0, 1) := by decide +kernel
theorem dX9_paysToday_1 : decode cX9_paysToday 1 = .ok (.getfield 138, 3) := by decide +kernel
theorem dX9_paysToday_4 : decode cX9_paysToday 4 = .ok (.aload_n 0, 1) := by decide +kernel
theorem dX9_paysToday_5 : decode cX9_paysToday 5 = .ok (.getfield 60, 3) := by decide +kernel
theorem dX9_paysToday_8 : decode cX9_paysToday 8 = .ok (.iload_n 1, 1) := by decide +kernel
theorem dX9_paysToday_9 : decode cX9_paysToday 9 = .ok (.iaload, 1) := by decide +kernel
theorem dX9_paysToday_10 : decode cX9_paysToday 10 = .ok (.isub, 1) := by decide +kernel
theorem dX9_paysToday_11 : decode cX9_paysToday 11 = .ok (.istore_n 2, 1) := by decide +kernel
theorem dX9_paysToday_12 : decode cX9_paysToday 12 = .ok (.aload_n 0, 1) := by decide +kernel
theorem dX9_paysToday_13 : decode cX9_paysToday 13 = .ok (.getfield 57, 3) := by decide +kernel
theorem dX9_paysToday_16 : decode cX9_paysToday 16 = .ok (.iload_n 1, 1) := by decide +kernel
theorem dX9_paysToday_17 : decode cX9_paysToday 17 = .ok (.iaload, 1) := by decide +kernel
theorem dX9_paysToday_18 : decode cX9_paysToday 18 = .ok (.iconst 1, 1) := by decide +kernel
theorem dX9_paysToday_19 : decode cX9_paysToday 19 = .ok (.if_icmp .ne 15, 3) := by decide +kernel
theorem dX9_paysToday_22 : decode cX9_paysToday 22 = .ok (.iload_n 2, 1) := by decide +kernel
theorem dX9_paysToday_23 : decode cX9_paysToday 23 = .ok (.ifCond .eq 11, 3) := by decide +kernel
theorem dX9_paysToday_26 : decode cX9_paysToday 26 = .ok (.iload_n 2, 1) := by decide +kernel
theorem dX9_paysToday_27 : decode cX9_paysToday 27 = .ok (.sipush 360, 3) := by decide +kernel
theorem dX9_paysToday_30 : decode cX9_paysToday 30 = .ok (.irem, 1) := by decide +kernel
theorem dX9_paysToday_31 : decode cX9_paysToday 31 = .ok (.ifCond .eq 5, 3) := by decide +kernel
theorem dX9_paysToday_34 : decode cX9_paysToday 34 = .ok (.iconst 0, 1) := by decide +kernel
theorem dX9_paysToday_35 : decode cX9_paysToday 35 = .ok (.ireturn, 1) := by decide +kernel
theorem dX9_paysToday_36 : decode cX9_paysToday 36 = .ok (.aload_n 0, 1) := by decide +kernel
theorem dX9_paysToday_37 : decode cX9_paysToday 37 = .ok (.aload_n 0, 1) := by decide +kernel
theorem dX9_paysToday_38 : decode cX9_paysToday 38 = .ok (.getfield 114, 3) := by decide +kernel
theorem dX9_paysToday_41 : decode cX9_paysToday 41 = .ok (.iload_n 1, 1) := by decide +kernel
theorem dX9_paysToday_42 : decode cX9_paysToday 42 = .ok (.iaload, 1) := by decide +kernel
theorem dX9_paysToday_43 : decode cX9_paysToday 43 = .ok (.invokevirtual 201, 3) := by decide +kernel
theorem dX9_paysToday_46 : decode cX9_paysToday 46 = .ok (.istore_n 3, 1) := by decide +kernel
theorem dX9_paysToday_47 : decode cX9_paysToday 47 = .ok (.iload_n 3, 1) := by decide +kernel
theorem dX9_paysToday_48 : decode cX9_paysToday 48 = .ok (.bipush (-9), 2) := by decide +kernel
theorem dX9_paysToday_50 : decode cX9_paysToday 50 = .ok (.if_icmp .eq 17, 3) := by decide +kernel
theorem dX9_paysToday_53 : decode cX9_paysToday 53 = .ok (.iload_n 2, 1) := by decide +kernel
theorem dX9_paysToday_54 : decode cX9_paysToday 54 = .ok (.sipush 360, 3) := by decide +kernel
theorem dX9_paysToday_57 : decode cX9_paysToday 57 = .ok (.idiv, 1) := by decide +kernel
theorem dX9_paysToday_58 : decode cX9_paysToday 58 = .ok (.aload_n 0, 1) := by decide +kernel
theorem dX9_paysToday_59 : decode cX9_paysToday 59 = .ok (.getfield 105, 3) := by decide +kernel
theorem dX9_paysToday_62 : decode cX9_paysToday 62 = .ok (.iload_n 3, 1) := by decide +kernel
theorem dX9_paysToday_63 : decode cX9_paysToday 63 = .ok (.iaload, 1) := by decide +kernel
theorem dX9_paysToday_64 : decode cX9_paysToday 64 = .ok (.if_icmp .le 5, 3) := by decide +kernel
theorem dX9_paysToday_67 : decode cX9_paysToday 67 = .ok (.iconst 0, 1) := by decide +kernel
theorem dX9_paysToday_68 : decode cX9_paysToday 68 = .ok (.ireturn, 1) := by decide +kernel
theorem dX9_paysToday_69 : decode cX9_paysToday 69 = .ok (.aload_n 0, 1) := by decide +kernel
theorem dX9_paysToday_70 : decode cX9_paysToday 70 = .ok (.aload_n 0, 1) := by decide +kernel
theorem dX9_paysToday_71 : decode cX9_paysToday 71 = .ok (.getfield 114, 3) := by decide +kernel
theorem dX9_paysToday_74 : decode cX9_paysToday 74 = .ok (.iload_n 1, 1) := by decide +kernel
theorem dX9_paysToday_75 : decode cX9_paysToday 75 = .ok (.iaload, 1) := by decide +kernel
theorem dX9_paysToday_76 : decode cX9_paysToday 76 = .ok (.aload_n 0, 1) := by decide +kernel
theorem dX9_paysToday_77 : decode cX9_paysToday 77 = .ok (.getfield 99, 3) := by decide +kernel
theorem dX9_paysToday_80 : decode cX9_paysToday 80 = .ok (.iload_n 3, 1) := by decide +kernel
theorem dX9_paysToday_81 : decode cX9_paysToday 81 = .ok (.iaload, 1) := by decide +kernel
theorem dX9_paysToday_82 : decode cX9_paysToday 82 = .ok (.aload_n 0, 1) := by decide +kernel
theorem dX9_paysToday_83 : decode cX9_paysToday 83 = .ok (.getfield 102, 3) := by decide +kernel
theorem dX9_paysToday_86 : decode cX9_paysToday 86 = .ok (.iload_n 3, 1) := by decide +kernel
theorem dX9_paysToday_87 : decode cX9_paysToday 87 = .ok (.iaload, 1) := by decide +kernel
theorem dX9_paysToday_88 : decode cX9_paysToday 88 = .ok (.invokevirtual 204, 3) := by decide +kernel
theorem dX9_paysToday_91 : decode cX9_paysToday 91 = .ok (.aload_n 0, 1) := by decide +kernel
theorem dX9_paysToday_92 : decode cX9_paysToday 92 = .ok (.iload_n 1, 1) := by decide +kernel
theorem dX9_paysToday_93 : decode cX9_paysToday 93 = .ok (.invokevirtual 165, 3) := by decide +kernel
theorem dX9_paysToday_96 : decode cX9_paysToday 96 = .ok (.imul, 1) := by decide +kernel
theorem dX9_paysToday_97 : decode cX9_paysToday 97 = .ok (.sipush 1000, 3) := by decide +kernel
theorem dX9_paysToday_100 : decode cX9_paysToday 100 = .ok (.idiv, 1) := by decide +kernel
theorem dX9_paysToday_101 : decode cX9_paysToday 101 = .ok (.istore 4, 2) := by decide +kernel
theorem dX9_paysToday_103 : decode cX9_paysToday 103 = .ok (.iload 4, 2) := by decide +kernel
theorem dX9_paysToday_105 : decode cX9_paysToday 105 = .ok (.iconst 1, 1) := by decide +kernel
theorem dX9_paysToday_106 : decode cX9_paysToday 106 = .ok (.aload_n 0, 1) := by decide +kernel
theorem dX9_paysToday_107 : decode cX9_paysToday 107 = .ok (.getfield 69, 3) := by decide +kernel
theorem dX9_paysToday_110 : decode cX9_paysToday 110 = .ok (.iload_n 1, 1) := by decide +kernel
theorem dX9_paysToday_111 : decode cX9_paysToday 111 = .ok (.iaload, 1) := by decide +kernel
theorem dX9_paysToday_112 : decode cX9_paysToday 112 = .ok (.iadd, 1) := by decide +kernel
theorem dX9_paysToday_113 : decode cX9_paysToday 113 = .ok (.idiv, 1) := by decide +kernel
theorem dX9_paysToday_114 : decode cX9_paysToday 114 = .ok (.istore 5, 2) := by decide +kernel
theorem dX9_paysToday_116 : decode cX9_paysToday 116 = .ok (.iconst 0, 1) := by decide +kernel
theorem dX9_paysToday_117 : decode cX9_paysToday 117 = .ok (.istore 6, 2) := by decide +kernel
theorem dX9_paysToday_119 : decode cX9_paysToday 119 = .ok (.iload 6, 2) := by decide +kernel
theorem dX9_paysToday_121 : decode cX9_paysToday 121 = .ok (.aload_n 0, 1) := by decide +kernel
theorem dX9_paysToday_122 : decode cX9_paysToday 122 = .ok (.getfield 69, 3) := by decide +kernel
theorem dX9_paysToday_125 : decode cX9_paysToday 125 = .ok (.iload_n 1, 1) := by decide +kernel
theorem dX9_paysToday_126 : decode cX9_paysToday 126 = .ok (.iaload, 1) := by decide +kernel
theorem dX9_paysToday_127 : decode cX9_paysToday 127 = .ok (.if_icmp .ge 31, 3) := by decide +kernel
theorem dX9_paysToday_130 : decode cX9_paysToday 130 = .ok (.aload_n 0, 1) := by decide +kernel
theorem dX9_paysToday_131 : decode cX9_paysToday 131 = .ok (.getfield 29, 3) := by decide +kernel
theorem dX9_paysToday_134 : decode cX9_paysToday 134 = .ok (.aload_n 0, 1) := by decide +kernel
theorem dX9_paysToday_135 : decode cX9_paysToday 135 = .ok (.getfield 72, 3) := by decide +kernel
theorem dX9_paysToday_138 : decode cX9_paysToday 138 = .ok (.bipush 6, 2) := by decide +kernel
theorem dX9_paysToday_140 : decode cX9_paysToday 140 = .ok (.iload_n 1, 1) := by decide +kernel
theorem dX9_paysToday_141 : decode cX9_paysToday 141 = .ok (.imul, 1) := by decide +kernel
theorem dX9_paysToday_142 : decode cX9_paysToday 142 = .ok (.iload 6, 2) := by decide +kernel
theorem dX9_paysToday_144 : decode cX9_paysToday 144 = .ok (.iadd, 1) := by decide +kernel
theorem dX9_paysToday_145 : decode cX9_paysToday 145 = .ok (.iaload, 1) := by decide +kernel
theorem dX9_paysToday_146 : decode cX9_paysToday 146 = .ok (.dup2, 1) := by decide +kernel
theorem dX9_paysToday_147 : decode cX9_paysToday 147 = .ok (.iaload, 1) := by decide +kernel
theorem dX9_paysToday_148 : decode cX9_paysToday 148 = .ok (.iload 5, 2) := by decide +kernel
theorem dX9_paysToday_150 : decode cX9_paysToday 150 = .ok (.iadd, 1) := by decide +kernel
theorem dX9_paysToday_151 : decode cX9_paysToday 151 = .ok (.iastore, 1) := by decide +kernel
theorem dX9_paysToday_152 : decode cX9_paysToday 152 = .ok (.iinc 6 1, 3) := by decide +kernel
theorem dX9_paysToday_155 : decode cX9_paysToday 155 = .ok (.goto (-36), 3) := by decide +kernel
theorem dX9_paysToday_158 : decode cX9_paysToday 158 = .ok (.aload_n 0, 1) := by decide +kernel
theorem dX9_paysToday_159 : decode cX9_paysToday 159 = .ok (.getfield 29, 3) := by decide +kernel
theorem dX9_paysToday_162 : decode cX9_paysToday 162 = .ok (.aload_n 0, 1) := by decide +kernel
theorem dX9_paysToday_163 : decode cX9_paysToday 163 = .ok (.getfield 42, 3) := by decide +kernel
theorem dX9_paysToday_166 : decode cX9_paysToday 166 = .ok (.iload_n 1, 1) := by decide +kernel
theorem dX9_paysToday_167 : decode cX9_paysToday 167 = .ok (.iaload, 1) := by decide +kernel
theorem dX9_paysToday_168 : decode cX9_paysToday 168 = .ok (.dup2, 1) := by decide +kernel
theorem dX9_paysToday_169 : decode cX9_paysToday 169 = .ok (.iaload, 1) := by decide +kernel
theorem dX9_paysToday_170 : decode cX9_paysToday 170 = .ok (.iload 4, 2) := by decide +kernel
theorem dX9_paysToday_172 : decode cX9_paysToday 172 = .ok (.iload 5, 2) := by decide +kernel
theorem dX9_paysToday_174 : decode cX9_paysToday 174 = .ok (.aload_n 0, 1) := by decide +kernel
theorem dX9_paysToday_175 : decode cX9_paysToday 175 = .ok (.getfield 69, 3) := by decide +kernel
theorem dX9_paysToday_178 : decode cX9_paysToday 178 = .ok (.iload_n 1, 1) := by decide +kernel
theorem dX9_paysToday_179 : decode cX9_paysToday 179 = .ok (.iaload, 1) := by decide +kernel
theorem dX9_paysToday_180 : decode cX9_paysToday 180 = .ok (.imul, 1) := by decide +kernel
theorem dX9_paysToday_181 : decode cX9_paysToday 181 = .ok (.isub, 1) := by decide +kernel
theorem dX9_paysToday_182 : decode cX9_paysToday 182 = .ok (.iadd, 1) := by decide +kernel
theorem dX9_paysToday_183 : decode cX9_paysToday 183 = .ok (.iastore, 1) := by decide +kernel
theorem dX9_paysToday_184 : decode cX9_paysToday 184 = .ok (.aload_n 0, 1) := by decide +kernel
theorem dX9_paysToday_185 : decode cX9_paysToday 185 = .ok (.getfield 63, 3) := by decide +kernel
theorem dX9_paysToday_188 : decode cX9_paysToday 188 = .ok (.iload_n 1, 1) := by decide +kernel
theorem dX9_paysToday_189 : decode cX9_paysToday 189 = .ok (.dup2, 1) := by decide +kernel
theorem dX9_paysToday_190 : decode cX9_paysToday 190 = .ok (.iaload, 1) := by decide +kernel
theorem dX9_paysToday_191 : decode cX9_paysToday 191 = .ok (.iload 4, 2) := by decide +kernel
theorem dX9_paysToday_193 : decode cX9_paysToday 193 = .ok (.iadd, 1) := by decide +kernel
theorem dX9_paysToday_194 : decode cX9_paysToday 194 = .ok (.iastore, 1) := by decide +kernel
theorem dX9_paysToday_195 : decode cX9_paysToday 195 = .ok (.aload_n 0, 1) := by decide +kernel
theorem dX9_paysToday_196 : decode cX9_paysToday 196 = .ok (.dup, 1) := by decide +kernel
theorem dX9_paysToday_197 : decode cX9_paysToday 197 = .ok (.getfield 207, 3) := by decide +kernel
theorem dX9_paysToday_200 : decode cX9_paysToday 200 = .ok (.iload 4, 2) := by decide +kernel
theorem dX9_paysToday_202 : decode cX9_paysToday 202 = .ok (.iadd, 1) := by decide +kernel
theorem dX9_paysToday_203 : decode cX9_paysToday 203 = .ok (.putfield 207, 3) := by decide +kernel
theorem dX9_paysToday_206 : decode cX9_paysToday 206 = .ok (.iload 4, 2) := by decide +kernel
theorem dX9_paysToday_208 : decode cX9_paysToday 208 = .ok (.ireturn, 1) := by decide +kernel
theorem dX9_days_0 : decode cX9_days 0 = .ok (.iload_n 1, 1) := by decide +kernel
theorem dX9_days_1 : decode cX9_days 1 = .ok (.iconst 1, 1) := by decide +kernel
theorem dX9_days_2 : decode cX9_days 2 = .ok (.if_icmp .ge 10, 3) := by decide +kernel
theorem dX9_days_5 : decode cX9_days 5 = .ok (.aload_n 0, 1) := by decide +kernel
theorem dX9_days_6 : decode cX9_days 6 = .ok (.bipush (-4), 2) := by decide +kernel
theorem dX9_days_8 : decode cX9_days 8 = .ok (.invokevirtual 128, 3) := by decide +kernel
theorem dX9_days_11 : decode cX9_days 11 = .ok (.ireturn, 1) := by decide +kernel
theorem dX9_days_12 : decode cX9_days 12 = .ok (.iload_n 1, 1) := by decide +kernel
theorem dX9_days_13 : decode cX9_days 13 = .ok (.sipush 3000, 3) := by decide +kernel
theorem dX9_days_16 : decode cX9_days 16 = .ok (.aload_n 0, 1) := by decide +kernel
theorem dX9_days_17 : decode cX9_days 17 = .ok (.getfield 138, 3) := by decide +kernel
theorem dX9_days_20 : decode cX9_days 20 = .ok (.isub, 1) := by decide +kernel
theorem dX9_days_21 : decode cX9_days 21 = .ok (.if_icmp .le 10, 3) := by decide +kernel
theorem dX9_days_24 : decode cX9_days 24 = .ok (.aload_n 0, 1) := by decide +kernel
theorem dX9_days_25 : decode cX9_days 25 = .ok (.bipush (-6), 2) := by decide +kernel
theorem dX9_days_27 : decode cX9_days 27 = .ok (.invokevirtual 128, 3) := by decide +kernel
theorem dX9_days_30 : decode cX9_days 30 = .ok (.ireturn, 1) := by decide +kernel
theorem dX9_days_31 : decode cX9_days 31 = .ok (.aload_n 0, 1) := by decide +kernel
theorem dX9_days_32 : decode cX9_days 32 = .ok (.aload_n 0, 1) := by decide +kernel
theorem dX9_days_33 : decode cX9_days 33 = .ok (.getfield 7, 3) := by decide +kernel
theorem dX9_days_36 : decode cX9_days 36 = .ok (.invokevirtual 155, 3) := by decide +kernel
theorem dX9_days_39 : decode cX9_days 39 = .ok (.iconst 0, 1) := by decide +kernel
theorem dX9_days_40 : decode cX9_days 40 = .ok (.istore_n 2, 1) := by decide +kernel
theorem dX9_days_41 : decode cX9_days 41 = .ok (.iconst 0, 1) := by decide +kernel
theorem dX9_days_42 : decode cX9_days 42 = .ok (.istore_n 3, 1) := by decide +kernel
theorem dX9_days_43 : decode cX9_days 43 = .ok (.iload_n 3, 1) := by decide +kernel
theorem dX9_days_44 : decode cX9_days 44 = .ok (.iload_n 1, 1) := by decide +kernel
theorem dX9_days_45 : decode cX9_days 45 = .ok (.if_icmp .ge 46, 3) := by decide +kernel
theorem dX9_days_48 : decode cX9_days 48 = .ok (.aload_n 0, 1) := by decide +kernel
theorem dX9_days_49 : decode cX9_days 49 = .ok (.dup, 1) := by decide +kernel
theorem dX9_days_50 : decode cX9_days 50 = .ok (.getfield 138, 3) := by decide +kernel
theorem dX9_days_53 : decode cX9_days 53 = .ok (.iconst 1, 1) := by decide +kernel
theorem dX9_days_54 : decode cX9_days 54 = .ok (.iadd, 1) := by decide +kernel
theorem dX9_days_55 : decode cX9_days 55 = .ok (.putfield 138, 3) := by decide +kernel
theorem dX9_days_58 : decode cX9_days 58 = .ok (.iconst 0, 1) := by decide +kernel
theorem dX9_days_59 : decode cX9_days 59 = .ok (.istore 4, 2) := by decide +kernel
theorem dX9_days_61 : decode cX9_days 61 = .ok (.iload 4, 2) := by decide +kernel
theorem dX9_days_63 : decode cX9_days 63 = .ok (.aload_n 0, 1) := by decide +kernel
theorem dX9_days_64 : decode cX9_days 64 = .ok (.getfield 120, 3) := by decide +kernel
theorem dX9_days_67 : decode cX9_days 67 = .ok (.if_icmp .ge 18, 3) := by decide +kernel
theorem dX9_days_70 : decode cX9_days 70 = .ok (.iload_n 2, 1) := by decide +kernel
theorem dX9_days_71 : decode cX9_days 71 = .ok (.aload_n 0, 1) := by decide +kernel
theorem dX9_days_72 : decode cX9_days 72 = .ok (.iload 4, 2) := by decide +kernel
theorem dX9_days_74 : decode cX9_days 74 = .ok (.invokevirtual 210, 3) := by decide +kernel
theorem dX9_days_77 : decode cX9_days 77 = .ok (.iadd, 1) := by decide +kernel
theorem dX9_days_78 : decode cX9_days 78 = .ok (.istore_n 2, 1) := by decide +kernel
theorem dX9_days_79 : decode cX9_days 79 = .ok (.iinc 4 1, 3) := by decide +kernel
theorem dX9_days_82 : decode cX9_days 82 = .ok (.goto (-21), 3) := by decide +kernel
theorem dX9_days_85 : decode cX9_days 85 = .ok (.iinc 3 1, 3) := by decide +kernel
theorem dX9_days_88 : decode cX9_days 88 = .ok (.goto (-45), 3) := by decide +kernel
theorem dX9_days_91 : decode cX9_days 91 = .ok (.iload_n 2, 1) := by decide +kernel
theorem dX9_days_92 : decode cX9_days 92 = .ok (.ireturn, 1) := by decide +kernel
theorem dX9_work_0 : decode cX9_work 0 = .ok (.iload_n 1, 1) := by decide +kernel
theorem dX9_work_1 : decode cX9_work 1 = .ok (.invokestatic 124, 3) := by decide +kernel
theorem dX9_work_4 : decode cX9_work 4 = .ok (.ifCond .eq 10, 3) := by decide +kernel
theorem dX9_work_7 : decode cX9_work 7 = .ok (.iload_n 2, 1) := by decide +kernel
theorem dX9_work_8 : decode cX9_work 8 = .ok (.invokestatic 135, 3) := by decide +kernel
theorem dX9_work_11 : decode cX9_work 11 = .ok (.ifCond .ne 9, 3) := by decide +kernel
theorem dX9_work_14 : decode cX9_work 14 = .ok (.aload_n 0, 1) := by decide +kernel
theorem dX9_work_15 : decode cX9_work 15 = .ok (.iconst (-1), 1) := by decide +kernel
theorem dX9_work_16 : decode cX9_work 16 = .ok (.invokevirtual 128, 3) := by decide +kernel
theorem dX9_work_19 : decode cX9_work 19 = .ok (.ireturn, 1) := by decide +kernel
theorem dX9_work_20 : decode cX9_work 20 = .ok (.aload_n 0, 1) := by decide +kernel
theorem dX9_work_21 : decode cX9_work 21 = .ok (.getfield 213, 3) := by decide +kernel
theorem dX9_work_24 : decode cX9_work 24 = .ok (.bipush 20, 2) := by decide +kernel
theorem dX9_work_26 : decode cX9_work 26 = .ok (.if_icmp .ne 10, 3) := by decide +kernel
theorem dX9_work_29 : decode cX9_work 29 = .ok (.aload_n 0, 1) := by decide +kernel
theorem dX9_work_30 : decode cX9_work 30 = .ok (.bipush (-6), 2) := by decide +kernel
theorem dX9_work_32 : decode cX9_work 32 = .ok (.invokevirtual 128, 3) := by decide +kernel
theorem dX9_work_35 : decode cX9_work 35 = .ok (.ireturn, 1) := by decide +kernel
theorem dX9_work_36 : decode cX9_work 36 = .ok (.bipush (-9), 2) := by decide +kernel
theorem dX9_work_38 : decode cX9_work 38 = .ok (.istore_n 3, 1) := by decide +kernel
theorem dX9_work_39 : decode cX9_work 39 = .ok (.iconst 0, 1) := by decide +kernel
theorem dX9_work_40 : decode cX9_work 40 = .ok (.istore 4, 2) := by decide +kernel
theorem dX9_work_42 : decode cX9_work 42 = .ok (.iload 4, 2) := by decide +kernel
theorem dX9_work_44 : decode cX9_work 44 = .ok (.aload_n 0, 1) := by decide +kernel
theorem dX9_work_45 : decode cX9_work 45 = .ok (.getfield 120, 3) := by decide +kernel
theorem dX9_work_48 : decode cX9_work 48 = .ok (.if_icmp .ge 114, 3) := by decide +kernel
theorem dX9_work_51 : decode cX9_work 51 = .ok (.aload_n 0, 1) := by decide +kernel
theorem dX9_work_52 : decode cX9_work 52 = .ok (.getfield 57, 3) := by decide +kernel
theorem dX9_work_55 : decode cX9_work 55 = .ok (.iload 4, 2) := by decide +kernel
theorem dX9_work_57 : decode cX9_work 57 = .ok (.iaload, 1) := by decide +kernel
theorem dX9_work_58 : decode cX9_work 58 = .ok (.iconst 2, 1) := by decide +kernel
theorem dX9_work_59 : decode cX9_work 59 = .ok (.if_icmp .ne 97, 3) := by decide +kernel
theorem dX9_work_62 : decode cX9_work 62 = .ok (.aload_n 0, 1) := by decide +kernel
theorem dX9_work_63 : decode cX9_work 63 = .ok (.getfield 45, 3) := by decide +kernel
theorem dX9_work_66 : decode cX9_work 66 = .ok (.iload 4, 2) := by decide +kernel
theorem dX9_work_68 : decode cX9_work 68 = .ok (.iaload, 1) := by decide +kernel
theorem dX9_work_69 : decode cX9_work 69 = .ok (.iload_n 1, 1) := by decide +kernel
theorem dX9_work_70 : decode cX9_work 70 = .ok (.if_icmp .eq 6, 3) := by decide +kernel
theorem dX9_work_73 : decode cX9_work 73 = .ok (.goto 83, 3) := by decide +kernel
theorem dX9_work_76 : decode cX9_work 76 = .ok (.aload_n 0, 1) := by decide +kernel
theorem dX9_work_77 : decode cX9_work 77 = .ok (.getfield 48, 3) := by decide +kernel
theorem dX9_work_80 : decode cX9_work 80 = .ok (.iload 4, 2) := by decide +kernel
theorem dX9_work_82 : decode cX9_work 82 = .ok (.iaload, 1) := by decide +kernel
theorem dX9_work_83 : decode cX9_work 83 = .ok (.iload_n 2, 1) := by decide +kernel
theorem dX9_work_84 : decode cX9_work 84 = .ok (.invokestatic 151, 3) := by decide +kernel
theorem dX9_work_87 : decode cX9_work 87 = .ok (.istore 5, 2) := by decide +kernel
theorem dX9_work_89 : decode cX9_work 89 = .ok (.iload 5, 2) := by decide +kernel
theorem dX9_work_91 : decode cX9_work 91 = .ok (.aload_n 0, 1) := by decide +kernel
theorem dX9_work_92 : decode cX9_work 92 = .ok (.getfield 7, 3) := by decide +kernel
theorem dX9_work_95 : decode cX9_work 95 = .ok (.if_icmp .ge 6, 3) := by decide +kernel
theorem dX9_work_98 : decode cX9_work 98 = .ok (.goto 58, 3) := by decide +kernel
theorem dX9_work_101 : decode cX9_work 101 = .ok (.iload_n 3, 1) := by decide +kernel
theorem dX9_work_102 : decode cX9_work 102 = .ok (.bipush (-9), 2) := by decide +kernel
theorem dX9_work_104 : decode cX9_work 104 = .ok (.if_icmp .ne 7, 3) := by decide +kernel
theorem dX9_work_107 : decode cX9_work 107 = .ok (.iconst 0, 1) := by decide +kernel
theorem dX9_work_108 : decode cX9_work 108 = .ok (.goto 13, 3) := by decide +kernel
theorem dX9_work_111 : decode cX9_work 111 = .ok (.aload_n 0, 1) := by decide +kernel
theorem dX9_work_112 : decode cX9_work 112 = .ok (.getfield 48, 3) := by decide +kernel
theorem dX9_work_115 : decode cX9_work 115 = .ok (.iload_n 3, 1) := by decide +kernel
theorem dX9_work_116 : decode cX9_work 116 = .ok (.iaload, 1) := by decide +kernel
theorem dX9_work_117 : decode cX9_work 117 = .ok (.iload_n 2, 1) := by decide +kernel
theorem dX9_work_118 : decode cX9_work 118 = .ok (.invokestatic 151, 3) := by decide +kernel
theorem dX9_work_121 : decode cX9_work 121 = .ok (.istore 6, 2) := by decide +kernel
theorem dX9_work_123 : decode cX9_work 123 = .ok (.iload_n 3, 1) := by decide +kernel
theorem dX9_work_124 : decode cX9_work 124 = .ok (.bipush (-9), 2) := by decide +kernel
theorem dX9_work_126 : decode cX9_work 126 = .ok (.if_icmp .eq 27, 3) := by decide +kernel
theorem dX9_work_129 : decode cX9_work 129 = .ok (.iload 5, 2) := by decide +kernel
theorem dX9_work_131 : decode cX9_work 131 = .ok (.iload 6, 2) := by decide +kernel
theorem dX9_work_133 : decode cX9_work 133 = .ok (.if_icmp .gt 20, 3) := by decide +kernel
theorem dX9_work_136 : decode cX9_work 136 = .ok (.iload 5, 2) := by decide +kernel
theorem dX9_work_138 : decode cX9_work 138 = .ok (.iload 6, 2) := by decide +kernel
theorem dX9_work_140 : decode cX9_work 140 = .ok (.if_icmp .ne 16, 3) := by decide +kernel
theorem dX9_work_143 : decode cX9_work 143 = .ok (.aload_n 0, 1) := by decide +kernel
theorem dX9_work_144 : decode cX9_work 144 = .ok (.iload 4, 2) := by decide +kernel
theorem dX9_work_146 : decode cX9_work 146 = .ok (.iload_n 3, 1) := by decide +kernel
theorem dX9_work_147 : decode cX9_work 147 = .ok (.invokevirtual 159, 3) := by decide +kernel
theorem dX9_work_150 : decode cX9_work 150 = .ok (.ifCond .eq 6, 3) := by decide +kernel
theorem dX9_work_153 : decode cX9_work 153 = .ok (.iload 4, 2) := by decide +kernel
theorem dX9_work_155 : decode cX9_work 155 = .ok (.istore_n 3, 1) := by decide +kernel
theorem dX9_work_156 : decode cX9_work 156 = .ok (.iinc 4 1, 3) := by decide +kernel
theorem dX9_work_159 : decode cX9_work 159 = .ok (.goto (-117), 3) := by decide +kernel
theorem dX9_work_162 : decode cX9_work 162 = .ok (.aload_n 0, 1) := by decide +kernel
theorem dX9_work_163 : decode cX9_work 163 = .ok (.getfield 108, 3) := by decide +kernel
theorem dX9_work_166 : decode cX9_work 166 = .ok (.aload_n 0, 1) := by decide +kernel
theorem dX9_work_167 : decode cX9_work 167 = .ok (.dup, 1) := by decide +kernel
theorem dX9_work_168 : decode cX9_work 168 = .ok (.getfield 213, 3) := by decide +kernel
theorem dX9_work_171 : decode cX9_work 171 = .ok (.dup_x1, 1) := by decide +kernel
theorem dX9_work_172 : decode cX9_work 172 = .ok (.iconst 1, 1) := by decide +kernel
theorem dX9_work_173 : decode cX9_work 173 = .ok (.iadd, 1) := by decide +kernel
theorem dX9_work_174 : decode cX9_work 174 = .ok (.putfield 213, 3) := by decide +kernel
theorem dX9_work_177 : decode cX9_work 177 = .ok (.iload_n 3, 1) := by decide +kernel
theorem dX9_work_178 : decode cX9_work 178 = .ok (.iastore, 1) := by decide +kernel
theorem dX9_work_179 : decode cX9_work 179 = .ok (.iload_n 3, 1) := by decide +kernel
theorem dX9_work_180 : decode cX9_work 180 = .ok (.bipush (-9), 2) := by decide +kernel
theorem dX9_work_182 : decode cX9_work 182 = .ok (.if_icmp .eq 10, 3) := by decide +kernel
theorem dX9_work_185 : decode cX9_work 185 = .ok (.aload_n 0, 1) := by decide +kernel
theorem dX9_work_186 : decode cX9_work 186 = .ok (.getfield 75, 3) := by decide +kernel
theorem dX9_work_189 : decode cX9_work 189 = .ok (.iload_n 3, 1) := by decide +kernel
theorem dX9_work_190 : decode cX9_work 190 = .ok (.iconst 1, 1) := by decide +kernel
theorem dX9_work_191 : decode cX9_work 191 = .ok (.bastore, 1) := by decide +kernel
theorem dX9_work_192 : decode cX9_work 192 = .ok (.iload_n 3, 1) := by decide +kernel
theorem dX9_work_193 : decode cX9_work 193 = .ok (.ireturn, 1) := by decide +kernel
theorem dX9_ledBack_0 : decode cX9_ledBack 0 = .ok (.iload_n 1, 1) := by decide +kernel
theorem dX9_ledBack_1 : decode cX9_ledBack 1 = .ok (.ifCond .lt 20, 3) := by decide +kernel
theorem dX9_ledBack_4 : decode cX9_ledBack 4 = .ok (.iload_n 1, 1) := by decide +kernel
theorem dX9_ledBack_5 : decode cX9_ledBack 5 = .ok (.aload_n 0, 1) := by decide +kernel
theorem dX9_ledBack_6 : decode cX9_ledBack 6 = .ok (.getfield 213, 3) := by decide +kernel
theorem dX9_ledBack_9 : decode cX9_ledBack 9 = .ok (.if_icmp .ge 12, 3) := by decide +kernel
theorem dX9_ledBack_12 : decode cX9_ledBack 12 = .ok (.aload_n 0, 1) := by decide +kernel
theorem dX9_ledBack_13 : decode cX9_ledBack 13 = .ok (.getfield 108, 3) := by decide +kernel
theorem dX9_ledBack_16 : decode cX9_ledBack 16 = .ok (.iload_n 1, 1) := by decide +kernel
theorem dX9_ledBack_17 : decode cX9_ledBack 17 = .ok (.iaload, 1) := by decide +kernel
theorem dX9_ledBack_18 : decode cX9_ledBack 18 = .ok (.goto 5, 3) := by decide +kernel
theorem dX9_ledBack_21 : decode cX9_ledBack 21 = .ok (.bipush (-9), 2) := by decide +kernel
theorem dX9_ledBack_23 : decode cX9_ledBack 23 = .ok (.ireturn, 1) := by decide +kernel
theorem dX9_reopen_0 : decode cX9_reopen 0 = .ok (.aload_n 0, 1) := by decide +kernel
theorem dX9_reopen_1 : decode cX9_reopen 1 = .ok (.iload_n 1, 1) := by decide +kernel
theorem dX9_reopen_2 : decode cX9_reopen 2 = .ok (.invokevirtual 141, 3) := by decide +kernel
theorem dX9_reopen_5 : decode cX9_reopen 5 = .ok (.ifCond .ne 9, 3) := by decide +kernel
theorem dX9_reopen_8 : decode cX9_reopen 8 = .ok (.aload_n 0, 1) := by decide +kernel
theorem dX9_reopen_9 : decode cX9_reopen 9 = .ok (.iconst (-1), 1) := by decide +kernel
theorem dX9_reopen_10 : decode cX9_reopen 10 = .ok (.invokevirtual 128, 3) := by decide +kernel
theorem dX9_reopen_13 : decode cX9_reopen 13 = .ok (.ireturn, 1) := by decide +kernel
theorem dX9_reopen_14 : decode cX9_reopen 14 = .ok (.aload_n 0, 1) := by decide +kernel
theorem dX9_reopen_15 : decode cX9_reopen 15 = .ok (.getfield 57, 3) := by decide +kernel
theorem dX9_reopen_18 : decode cX9_reopen 18 = .ok (.iload_n 1, 1) := by decide +kernel
theorem dX9_reopen_19 : decode cX9_reopen 19 = .ok (.iaload, 1) := by decide +kernel
theorem dX9_reopen_20 : decode cX9_reopen 20 = .ok (.iconst 2, 1) := by decide +kernel
theorem dX9_reopen_21 : decode cX9_reopen 21 = .ok (.if_icmp .ne 12, 3) := by decide +kernel
theorem dX9_reopen_24 : decode cX9_reopen 24 = .ok (.aload_n 0, 1) := by decide +kernel
theorem dX9_reopen_25 : decode cX9_reopen 25 = .ok (.getfield 75, 3) := by decide +kernel
theorem dX9_reopen_28 : decode cX9_reopen 28 = .ok (.iload_n 1, 1) := by decide +kernel
theorem dX9_reopen_29 : decode cX9_reopen 29 = .ok (.baload, 1) := by decide +kernel
theorem dX9_reopen_30 : decode cX9_reopen 30 = .ok (.ifCond .ne 10, 3) := by decide +kernel
theorem dX9_reopen_33 : decode cX9_reopen 33 = .ok (.aload_n 0, 1) := by decide +kernel
theorem dX9_reopen_34 : decode cX9_reopen 34 = .ok (.bipush (-3), 2) := by decide +kernel
theorem dX9_reopen_36 : decode cX9_reopen 36 = .ok (.invokevirtual 128, 3) := by decide +kernel
theorem dX9_reopen_39 : decode cX9_reopen 39 = .ok (.ireturn, 1) := by decide +kernel
theorem dX9_reopen_40 : decode cX9_reopen 40 = .ok (.aload_n 0, 1) := by decide +kernel
theorem dX9_reopen_41 : decode cX9_reopen 41 = .ok (.iload_n 1, 1) := by decide +kernel
theorem dX9_reopen_42 : decode cX9_reopen 42 = .ok (.iconst 1, 1) := by decide +kernel
theorem dX9_reopen_43 : decode cX9_reopen 43 = .ok (.invokevirtual 181, 3) := by decide +kernel
theorem dX9_reopen_46 : decode cX9_reopen 46 = .ok (.ireturn, 1) := by decide +kernel
theorem dX9_other_0 : decode cX9_other 0 = .ok (.iload_n 1, 1) := by decide +kernel
theorem dX9_other_1 : decode cX9_other 1 = .ok (.iconst 1, 1) := by decide +kernel
theorem dX9_other_2 : decode cX9_other 2 = .ok (.if_icmp .lt 11, 3) := by decide +kernel
theorem dX9_other_5 : decode cX9_other 5 = .ok (.iload_n 2, 1) := by decide +kernel
theorem dX9_other_6 : decode cX9_other 6 = .ok (.ifCond .lt 7, 3) := by decide +kernel
theorem dX9_other_9 : decode cX9_other 9 = .ok (.iload_n 3, 1) := by decide +kernel
theorem dX9_other_10 : decode cX9_other 10 = .ok (.ifCond .ge 10, 3) := by decide +kernel
theorem dX9_other_13 : decode cX9_other 13 = .ok (.aload_n 0, 1) := by decide +kernel
theorem dX9_other_14 : decode cX9_other 14 = .ok (.bipush (-4), 2) := by decide +kernel
theorem dX9_other_16 : decode cX9_other 16 = .ok (.invokevirtual 128, 3) := by decide +kernel
theorem dX9_other_19 : decode cX9_other 19 = .ok (.ireturn, 1) := by decide +kernel
theorem dX9_other_20 : decode cX9_other 20 = .ok (.iload_n 1, 1) := by decide +kernel
theorem dX9_other_21 : decode cX9_other 21 = .ok (.bipush 40, 2) := by decide +kernel
theorem dX9_other_23 : decode cX9_other 23 = .ok (.if_icmp .gt 15, 3) := by decide +kernel
theorem dX9_other_26 : decode cX9_other 26 = .ok (.iload_n 2, 1) := by decide +kernel
theorem dX9_other_27 : decode cX9_other 27 = .ok (.bipush 100, 2) := by decide +kernel
theorem dX9_other_29 : decode cX9_other 29 = .ok (.if_icmp .gt 9, 3) := by decide +kernel
theorem dX9_other_32 : decode cX9_other 32 = .ok (.iload_n 3, 1) := by decide +kernel
theorem dX9_other_33 : decode cX9_other 33 = .ok (.ldc 194, 2) := by decide +kernel
theorem dX9_other_35 : decode cX9_other 35 = .ok (.if_icmp .le 10, 3) := by decide +kernel
theorem dX9_other_38 : decode cX9_other 38 = .ok (.aload_n 0, 1) := by decide +kernel
theorem dX9_other_39 : decode cX9_other 39 = .ok (.bipush (-6), 2) := by decide +kernel
theorem dX9_other_41 : decode cX9_other 41 = .ok (.invokevirtual 128, 3) := by decide +kernel
theorem dX9_other_44 : decode cX9_other 44 = .ok (.ireturn, 1) := by decide +kernel
theorem dX9_other_45 : decode cX9_other 45 = .ok (.aload_n 0, 1) := by decide +kernel
theorem dX9_other_46 : decode cX9_other 46 = .ok (.iload_n 1, 1) := by decide +kernel
theorem dX9_other_47 : decode cX9_other 47 = .ok (.invokevirtual 155, 3) := by decide +kernel
theorem dX9_other_50 : decode cX9_other 50 = .ok (.iconst 0, 1) := by decide +kernel
theorem dX9_other_51 : decode cX9_other 51 = .ok (.istore 4, 2) := by decide +kernel
theorem dX9_other_53 : decode cX9_other 53 = .ok (.iconst 0, 1) := by decide +kernel
theorem dX9_other_54 : decode cX9_other 54 = .ok (.istore 5, 2) := by decide +kernel
theorem dX9_other_56 : decode cX9_other 56 = .ok (.iload 5, 2) := by decide +kernel
theorem dX9_other_58 : decode cX9_other 58 = .ok (.aload_n 0, 1) := by decide +kernel
theorem dX9_other_59 : decode cX9_other 59 = .ok (.getfield 120, 3) := by decide +kernel
theorem dX9_other_62 : decode cX9_other 62 = .ok (.if_icmp .ge 89, 3) := by decide +kernel
theorem dX9_other_65 : decode cX9_other 65 = .ok (.aload_n 0, 1) := by decide +kernel
theorem dX9_other_66 : decode cX9_other 66 = .ok (.getfield 114, 3) := by decide +kernel
theorem dX9_other_69 : decode cX9_other 69 = .ok (.iload 5, 2) := by decide +kernel
theorem dX9_other_71 : decode cX9_other 71 = .ok (.iaload, 1) := by decide +kernel
theorem dX9_other_72 : decode cX9_other 72 = .ok (.iload 5, 2) := by decide +kernel
theorem dX9_other_74 : decode cX9_other 74 = .ok (.if_icmp .eq 6, 3) := by decide +kernel
theorem dX9_other_77 : decode cX9_other 77 = .ok (.goto 68, 3) := by decide +kernel
theorem dX9_other_80 : decode cX9_other 80 = .ok (.iconst 0, 1) := by decide +kernel
theorem dX9_other_81 : decode cX9_other 81 = .ok (.istore 6, 2) := by decide +kernel
theorem dX9_other_83 : decode cX9_other 83 = .ok (.iconst 0, 1) := by decide +kernel
theorem dX9_other_84 : decode cX9_other 84 = .ok (.istore 7, 2) := by decide +kernel
theorem dX9_other_86 : decode cX9_other 86 = .ok (.iload 7, 2) := by decide +kernel
theorem dX9_other_88 : decode cX9_other 88 = .ok (.aload_n 0, 1) := by decide +kernel
theorem dX9_other_89 : decode cX9_other 89 = .ok (.getfield 120, 3) := by decide +kernel
theorem dX9_other_92 : decode cX9_other 92 = .ok (.if_icmp .ge 35, 3) := by decide +kernel
theorem dX9_other_95 : decode cX9_other 95 = .ok (.aload_n 0, 1) := by decide +kernel
theorem dX9_other_96 : decode cX9_other 96 = .ok (.getfield 114, 3) := by decide +kernel
theorem dX9_other_99 : decode cX9_other 99 = .ok (.iload 7, 2) := by decide +kernel
theorem dX9_other_101 : decode cX9_other 101 = .ok (.iaload, 1) := by decide +kernel
theorem dX9_other_102 : decode cX9_other 102 = .ok (.iload 5, 2) := by decide +kernel
theorem dX9_other_104 : decode cX9_other 104 = .ok (.if_icmp .ne 17, 3) := by decide +kernel
theorem dX9_other_107 : decode cX9_other 107 = .ok (.aload_n 0, 1) := by decide +kernel
theorem dX9_other_108 : decode cX9_other 108 = .ok (.getfield 57, 3) := by decide +kernel
theorem dX9_other_111 : decode cX9_other 111 = .ok (.iload 7, 2) := by decide +kernel
theorem dX9_other_113 : decode cX9_other 113 = .ok (.iaload, 1) := by decide +kernel
theorem dX9_other_114 : decode cX9_other 114 = .ok (.iconst 1, 1) := by decide +kernel
theorem dX9_other_115 : decode cX9_other 115 = .ok (.if_icmp .ne 6, 3) := by decide +kernel
theorem dX9_other_118 : decode cX9_other 118 = .ok (.iconst 1, 1) := by decide +kernel
theorem dX9_other_119 : decode cX9_other 119 = .ok (.istore 6, 2) := by decide +kernel
theorem dX9_other_121 : decode cX9_other 121 = .ok (.iinc 7 1, 3) := by decide +kernel
theorem dX9_other_124 : decode cX9_other 124 = .ok (.goto (-38), 3) := by decide +kernel
theorem dX9_other_127 : decode cX9_other 127 = .ok (.iload 6, 2) := by decide +kernel
theorem dX9_other_129 : decode cX9_other 129 = .ok (.ifCond .eq 16, 3) := by decide +kernel
theorem dX9_other_132 : decode cX9_other 132 = .ok (.iload 4, 2) := by decide +kernel
theorem dX9_other_134 : decode cX9_other 134 = .ok (.aload_n 0, 1) := by decide +kernel
theorem dX9_other_135 : decode cX9_other 135 = .ok (.iload 5, 2) := by decide +kernel
theorem dX9_other_137 : decode cX9_other 137 = .ok (.iload_n 2, 1) := by decide +kernel
theorem dX9_other_138 : decode cX9_other 138 = .ok (.iload_n 3, 1) := by decide +kernel
theorem dX9_other_139 : decode cX9_other 139 = .ok (.invokevirtual 204, 3) := by decide +kernel
theorem dX9_other_142 : decode cX9_other 142 = .ok (.iadd, 1) := by decide +kernel
theorem dX9_other_143 : decode cX9_other 143 = .ok (.istore 4, 2) := by decide +kernel
theorem dX9_other_145 : decode cX9_other 145 = .ok (.iinc 5 1, 3) := by decide +kernel
theorem dX9_other_148 : decode cX9_other 148 = .ok (.goto (-92), 3) := by decide +kernel
theorem dX9_other_151 : decode cX9_other 151 = .ok (.iload 4, 2) := by decide +kernel
theorem dX9_other_153 : decode cX9_other 153 = .ok (.ireturn, 1) := by decide +kernel
theorem dX9_coins_0 : decode cX9_coins 0 = .ok (.aload_n 0, 1) := by decide +kernel
theorem dX9_coins_1 : decode cX9_coins 1 = .ok (.iload_n 1, 1) := by decide +kernel
theorem dX9_coins_2 : decode cX9_coins 2 = .ok (.invokevirtual 132, 3) := by decide +kernel
theorem dX9_coins_5 : decode cX9_coins 5 = .ok (.ifCond .ne 9, 3) := by decide +kernel
theorem dX9_coins_8 : decode cX9_coins 8 = .ok (.aload_n 0, 1) := by decide +kernel
theorem dX9_coins_9 : decode cX9_coins 9 = .ok (.iconst (-1), 1) := by decide +kernel
theorem dX9_coins_10 : decode cX9_coins 10 = .ok (.invokevirtual 128, 3) := by decide +kernel
theorem dX9_coins_13 : decode cX9_coins 13 = .ok (.ireturn, 1) := by decide +kernel
theorem dX9_coins_14 : decode cX9_coins 14 = .ok (.iload_n 2, 1) := by decide +kernel
theorem dX9_coins_15 : decode cX9_coins 15 = .ok (.ifCond .lt 8, 3) := by decide +kernel
theorem dX9_coins_18 : decode cX9_coins 18 = .ok (.iload_n 2, 1) := by decide +kernel
theorem dX9_coins_19 : decode cX9_coins 19 = .ok (.iconst 1, 1) := by decide +kernel
theorem dX9_coins_20 : decode cX9_coins 20 = .ok (.if_icmp .le 10, 3) := by decide +kernel
theorem dX9_coins_23 : decode cX9_coins 23 = .ok (.aload_n 0, 1) := by decide +kernel
theorem dX9_coins_24 : decode cX9_coins 24 = .ok (.bipush (-2), 2) := by decide +kernel
theorem dX9_coins_26 : decode cX9_coins 26 = .ok (.invokevirtual 128, 3) := by decide +kernel
theorem dX9_coins_29 : decode cX9_coins 29 = .ok (.ireturn, 1) := by decide +kernel
theorem dX9_coins_30 : decode cX9_coins 30 = .ok (.iload_n 2, 1) := by decide +kernel
theorem dX9_coins_31 : decode cX9_coins 31 = .ok (.ifCond .ne 12, 3) := by decide +kernel
theorem dX9_coins_34 : decode cX9_coins 34 = .ok (.aload_n 0, 1) := by decide +kernel
theorem dX9_coins_35 : decode cX9_coins 35 = .ok (.getfield 29, 3) := by decide +kernel
theorem dX9_coins_38 : decode cX9_coins 38 = .ok (.iload_n 1, 1) := by decide +kernel
theorem dX9_coins_39 : decode cX9_coins 39 = .ok (.iaload, 1) := by decide +kernel
theorem dX9_coins_40 : decode cX9_coins 40 = .ok (.goto 9, 3) := by decide +kernel
theorem dX9_coins_43 : decode cX9_coins 43 = .ok (.aload_n 0, 1) := by decide +kernel
theorem dX9_coins_44 : decode cX9_coins 44 = .ok (.getfield 32, 3) := by decide +kernel
theorem dX9_coins_47 : decode cX9_coins 47 = .ok (.iload_n 1, 1) := by decide +kernel
theorem dX9_coins_48 : decode cX9_coins 48 = .ok (.iaload, 1) := by decide +kernel
theorem dX9_coins_49 : decode cX9_coins 49 = .ok (.ireturn, 1) := by decide +kernel
theorem dX9_ideaOf_0 : decode cX9_ideaOf 0 = .ok (.aload_n 0, 1) := by decide +kernel
theorem dX9_ideaOf_1 : decode cX9_ideaOf 1 = .ok (.iload_n 1, 1) := by decide +kernel
theorem dX9_ideaOf_2 : decode cX9_ideaOf 2 = .ok (.invokevirtual 141, 3) := by decide +kernel
theorem dX9_ideaOf_5 : decode cX9_ideaOf 5 = .ok (.ifCond .ne 9, 3) := by decide +kernel
theorem dX9_ideaOf_8 : decode cX9_ideaOf 8 = .ok (.aload_n 0, 1) := by decide +kernel
theorem dX9_ideaOf_9 : decode cX9_ideaOf 9 = .ok (.iconst (-1), 1) := by decide +kernel
theorem dX9_ideaOf_10 : decode cX9_ideaOf 10 = .ok (.invokevirtual 128, 3) := by decide +kernel
theorem dX9_ideaOf_13 : decode cX9_ideaOf 13 = .ok (.ireturn, 1) := by decide +kernel
theorem dX9_ideaOf_14 : decode cX9_ideaOf 14 = .ok (.iload_n 2, 1) := by decide +kernel
theorem dX9_ideaOf_15 : decode cX9_ideaOf 15 = .ok (.tableswitch 79 0 5 #[37, 44, 51, 58, 65, 72], 37) := by decide +kernel
theorem dX9_ideaOf_52 : decode cX9_ideaOf 52 = .ok (.aload_n 0, 1) := by decide +kernel
theorem dX9_ideaOf_53 : decode cX9_ideaOf 53 = .ok (.getfield 57, 3) := by decide +kernel
theorem dX9_ideaOf_56 : decode cX9_ideaOf 56 = .ok (.iload_n 1, 1) := by decide +kernel
theorem dX9_ideaOf_57 : decode cX9_ideaOf 57 = .ok (.iaload, 1) := by decide +kernel
theorem dX9_ideaOf_58 : decode cX9_ideaOf 58 = .ok (.ireturn, 1) := by decide +kernel
theorem dX9_ideaOf_59 : decode cX9_ideaOf 59 = .ok (.aload_n 0, 1) := by decide +kernel
theorem dX9_ideaOf_60 : decode cX9_ideaOf 60 = .ok (.getfield 54, 3) := by decide +kernel
theorem dX9_ideaOf_63 : decode cX9_ideaOf 63 = .ok (.iload_n 1, 1) := by decide +kernel
theorem dX9_ideaOf_64 : decode cX9_ideaOf 64 = .ok (.iaload, 1) := by decide +kernel
theorem dX9_ideaOf_65 : decode cX9_ideaOf 65 = .ok (.ireturn, 1) := by decide +kernel
theorem dX9_ideaOf_66 : decode cX9_ideaOf 66 = .ok (.aload_n 0, 1) := by decide +kernel
theorem dX9_ideaOf_67 : decode cX9_ideaOf 67 = .ok (.getfield 60, 3) := by decide +kernel
theorem dX9_ideaOf_70 : decode cX9_ideaOf 70 = .ok (.iload_n 1, 1) := by decide +kernel
theorem dX9_ideaOf_71 : decode cX9_ideaOf 71 = .ok (.iaload, 1) := by decide +kernel
theorem dX9_ideaOf_72 : decode cX9_ideaOf 72 = .ok (.ireturn, 1) := by decide +kernel
theorem dX9_ideaOf_73 : decode cX9_ideaOf 73 = .ok (.aload_n 0, 1) := by decide +kernel
theorem dX9_ideaOf_74 : decode cX9_ideaOf 74 = .ok (.getfield 63, 3) := by decide +kernel
theorem dX9_ideaOf_77 : decode cX9_ideaOf 77 = .ok (.iload_n 1, 1) := by decide +kernel
theorem dX9_ideaOf_78 : decode cX9_ideaOf 78 = .ok (.iaload, 1) := by decide +kernel
theorem dX9_ideaOf_79 : decode cX9_ideaOf 79 = .ok (.ireturn, 1) := by decide +kernel
theorem dX9_ideaOf_80 : decode cX9_ideaOf 80 = .ok (.aload_n 0, 1) := by decide +kernel
theorem dX9_ideaOf_81 : decode cX9_ideaOf 81 = .ok (.getfield 51, 3) := by decide +kernel
theorem dX9_ideaOf_84 : decode cX9_ideaOf 84 = .ok (.iload_n 1, 1) := by decide +kernel
theorem dX9_ideaOf_85 : decode cX9_ideaOf 85 = .ok (.iaload, 1) := by decide +kernel
theorem dX9_ideaOf_86 : decode cX9_ideaOf 86 = .ok (.ireturn, 1) := by decide +kernel
theorem dX9_ideaOf_87 : decode cX9_ideaOf 87 = .ok (.aload_n 0, 1) := by decide +kernel
theorem dX9_ideaOf_88 : decode cX9_ideaOf 88 = .ok (.getfield 48, 3) := by decide +kernel
theorem dX9_ideaOf_91 : decode cX9_ideaOf 91 = .ok (.iload_n 1, 1) := by decide +kernel
theorem dX9_ideaOf_92 : decode cX9_ideaOf 92 = .ok (.iaload, 1) := by decide +kernel
theorem dX9_ideaOf_93 : decode cX9_ideaOf 93 = .ok (.ireturn, 1) := by decide +kernel
theorem dX9_ideaOf_94 : decode cX9_ideaOf 94 = .ok (.aload_n 0, 1) := by decide +kernel
theorem dX9_ideaOf_95 : decode cX9_ideaOf 95 = .ok (.bipush (-2), 2) := by decide +kernel
theorem dX9_ideaOf_97 : decode cX9_ideaOf 97 = .ok (.invokevirtual 128, 3) := by decide +kernel
theorem dX9_ideaOf_100 : decode cX9_ideaOf 100 = .ok (.ireturn, 1) := by decide +kernel
theorem dX9_count_0 : decode cX9_count 0 = .ok (.iload_n 1, 1) := by decide +kernel
theorem dX9_count_1 : decode cX9_count 1 = .ok (.bipush 10, 2) := by decide +kernel
theorem dX9_count_3 : decode cX9_count 3 = .ok (.if_icmp .le 19, 3) := by decide +kernel
theorem dX9_count_6 : decode cX9_count 6 = .ok (.iload_n 1, 1) := by decide +kernel
theorem dX9_count_7 : decode cX9_count 7 = .ok (.bipush 17, 2) := by decide +kernel
theorem dX9_count_9 : decode cX9_count 9 = .ok (.if_icmp .ge 13, 3) := by decide +kernel
theorem dX9_count_12 : decode cX9_count 12 = .ok (.aload_n 0, 1) := by decide +kernel
theorem dX9_count_13 : decode cX9_count 13 = .ok (.getfield 111, 3) := by decide +kernel
theorem dX9_count_16 : decode cX9_count 16 = .ok (.iload_n 1, 1) := by decide +kernel
theorem dX9_count_17 : decode cX9_count 17 = .ok (.bipush 10, 2) := by decide +kernel
theorem dX9_count_19 : decode cX9_count 19 = .ok (.isub, 1) := by decide +kernel
theorem dX9_count_20 : decode cX9_count 20 = .ok (.iaload, 1) := by decide +kernel
theorem dX9_count_21 : decode cX9_count 21 = .ok (.ireturn, 1) := by decide +kernel
theorem dX9_count_22 : decode cX9_count 22 = .ok (.iconst 0, 1) := by decide +kernel
theorem dX9_count_23 : decode cX9_count 23 = .ok (.istore_n 2, 1) := by decide +kernel
theorem dX9_count_24 : decode cX9_count 24 = .ok (.iload_n 1, 1) := by decide +kernel
theorem dX9_count_25 : decode cX9_count 25 = .ok (.tableswitch 196 0 9 #[55, 60, 65, 70, 101, 132, 171, 176, 181, 186], 55) := by decide +kernel
theorem dX9_count_80 : decode cX9_count 80 = .ok (.aload_n 0, 1) := by decide +kernel
theorem dX9_count_81 : decode cX9_count 81 = .ok (.getfield 138, 3) := by decide +kernel
theorem dX9_count_84 : decode cX9_count 84 = .ok (.ireturn, 1) := by decide +kernel
theorem dX9_count_85 : decode cX9_count 85 = .ok (.aload_n 0, 1) := by decide +kernel
theorem dX9_count_86 : decode cX9_count 86 = .ok (.getfield 117, 3) := by decide +kernel
theorem dX9_count_89 : decode cX9_count 89 = .ok (.ireturn, 1) := by decide +kernel
theorem dX9_count_90 : decode cX9_count 90 = .ok (.aload_n 0, 1) := by decide +kernel
theorem dX9_count_91 : decode cX9_count 91 = .ok (.getfield 120, 3) := by decide +kernel
theorem dX9_count_94 : decode cX9_count 94 = .ok (.ireturn, 1) := by decide +kernel
theorem dX9_count_95 : decode cX9_count 95 = .ok (.iconst 0, 1) := by decide +kernel
theorem dX9_count_96 : decode cX9_count 96 = .ok (.istore_n 3, 1) := by decide +kernel
theorem dX9_count_97 : decode cX9_count 97 = .ok (.iload_n 3, 1) := by decide +kernel
theorem dX9_count_98 : decode cX9_count 98 = .ok (.aload_n 0, 1) := by decide +kernel
theorem dX9_count_99 : decode cX9_count 99 = .ok (.getfield 120, 3) := by decide +kernel
theorem dX9_count_102 : decode cX9_count 102 = .ok (.if_icmp .ge 22, 3) := by decide +kernel
theorem dX9_count_105 : decode cX9_count 105 = .ok (.aload_n 0, 1) := by decide +kernel
theorem dX9_count_106 : decode cX9_count 106 = .ok (.getfield 57, 3) := by decide +kernel
theorem dX9_count_109 : decode cX9_count 109 = .ok (.iload_n 3, 1) := by decide +kernel
theorem dX9_count_110 : decode cX9_count 110 = .ok (.iaload, 1) := by decide +kernel
theorem dX9_count_111 : decode cX9_count 111 = .ok (.iconst 1, 1) := by decide +kernel
theorem dX9_count_112 : decode cX9_count 112 = .ok (.if_icmp .ne 6, 3) := by decide +kernel
theorem dX9_count_115 : decode cX9_count 115 = .ok (.iinc 2 1, 3) := by decide +kernel
theorem dX9_count_118 : decode cX9_count 118 = .ok (.iinc 3 1, 3) := by decide +kernel
theorem dX9_count_121 : decode cX9_count 121 = .ok (.goto (-24), 3) := by decide +kernel
theorem dX9_count_124 : decode cX9_count 124 = .ok (.iload_n 2, 1) := by decide +kernel
theorem dX9_count_125 : decode cX9_count 125 = .ok (.ireturn, 1) := by decide +kernel
theorem dX9_count_126 : decode cX9_count 126 = .ok (.iconst 0, 1) := by decide +kernel
theorem dX9_count_127 : decode cX9_count 127 = .ok (.istore_n 3, 1) := by decide +kernel
theorem dX9_count_128 : decode cX9_count 128 = .ok (.iload_n 3, 1) := by decide +kernel
theorem dX9_count_129 : decode cX9_count 129 = .ok (.aload_n 0, 1) := by decide +kernel
theorem dX9_count_130 : decode cX9_count 130 = .ok (.getfield 120, 3) := by decide +kernel
theorem dX9_count_133 : decode cX9_count 133 = .ok (.if_icmp .ge 22, 3) := by decide +kernel
theorem dX9_count_136 : decode cX9_count 136 = .ok (.aload_n 0, 1) := by decide +kernel
theorem dX9_count_137 : decode cX9_count 137 = .ok (.getfield 57, 3) := by decide +kernel
theorem dX9_count_140 : decode cX9_count 140 = .ok (.iload_n 3, 1) := by decide +kernel
theorem dX9_count_141 : decode cX9_count 141 = .ok (.iaload, 1) := by decide +kernel
theorem dX9_count_142 : decode cX9_count 142 = .ok (.iconst 2, 1) := by decide +kernel
theorem dX9_count_143 : decode cX9_count 143 = .ok (.if_icmp .ne 6, 3) := by decide +kernel
theorem dX9_count_146 : decode cX9_count 146 = .ok (.iinc 2 1, 3) := by decide +kernel
theorem dX9_count_149 : decode cX9_count 149 = .ok (.iinc 3 1, 3) := by decide +kernel
theorem dX9_count_152 : decode cX9_count 152 = .ok (.goto (-24), 3) := by decide +kernel
theorem dX9_count_155 : decode cX9_count 155 = .ok (.iload_n 2, 1) := by decide +kernel
theorem dX9_count_156 : decode cX9_count 156 = .ok (.ireturn, 1) := by decide +kernel
theorem dX9_count_157 : decode cX9_count 157 = .ok (.aload_n 0, 1) := by decide +kernel
theorem dX9_count_158 : decode cX9_count 158 = .ok (.aload_n 0, 1) := by decide +kernel
theorem dX9_count_159 : decode cX9_count 159 = .ok (.getfield 7, 3) := by decide +kernel
theorem dX9_count_162 : decode cX9_count 162 = .ok (.invokevirtual 155, 3) := by decide +kernel
theorem dX9_count_165 : decode cX9_count 165 = .ok (.iconst 0, 1) := by decide +kernel
theorem dX9_count_166 : decode cX9_count 166 = .ok (.istore_n 3, 1) := by decide +kernel
theorem dX9_count_167 : decode cX9_count 167 = .ok (.iload_n 3, 1) := by decide +kernel
theorem dX9_count_168 : decode cX9_count 168 = .ok (.aload_n 0, 1) := by decide +kernel
theorem dX9_count_169 : decode cX9_count 169 = .ok (.getfield 120, 3) := by decide +kernel
theorem dX9_count_172 : decode cX9_count 172 = .ok (.if_icmp .ge 22, 3) := by decide +kernel
theorem dX9_count_175 : decode cX9_count 175 = .ok (.aload_n 0, 1) := by decide +kernel
theorem dX9_count_176 : decode cX9_count 176 = .ok (.getfield 114, 3) := by decide +kernel
theorem dX9_count_179 : decode cX9_count 179 = .ok (.iload_n 3, 1) := by decide +kernel
theorem dX9_count_180 : decode cX9_count 180 = .ok (.iaload, 1) := by decide +kernel
theorem dX9_count_181 : decode cX9_count 181 = .ok (.iload_n 3, 1) := by decide +kernel
theorem dX9_count_182 : decode cX9_count 182 = .ok (.if_icmp .ne 6, 3) := by decide +kernel
theorem dX9_count_185 : decode cX9_count 185 = .ok (.iinc 2 1, 3) := by decide +kernel
theorem dX9_count_188 : decode cX9_count 188 = .ok (.iinc 3 1, 3) := by decide +kernel
theorem dX9_count_191 : decode cX9_count 191 = .ok (.goto (-24), 3) := by decide +kernel
theorem dX9_count_194 : decode cX9_count 194 = .ok (.iload_n 2, 1) := by decide +kernel
theorem dX9_count_195 : decode cX9_count 195 = .ok (.ireturn, 1) := by decide +kernel
theorem dX9_count_196 : decode cX9_count 196 = .ok (.aload_n 0, 1) := by decide +kernel
theorem dX9_count_197 : decode cX9_count 197 = .ok (.getfield 187, 3) := by decide +kernel
theorem dX9_count_200 : decode cX9_count 200 = .ok (.ireturn, 1) := by decide +kernel
theorem dX9_count_201 : decode cX9_count 201 = .ok (.aload_n 0, 1) := by decide +kernel
theorem dX9_count_202 : decode cX9_count 202 = .ok (.getfield 198, 3) := by decide +kernel
theorem dX9_count_205 : decode cX9_count 205 = .ok (.ireturn, 1) := by decide +kernel
theorem dX9_count_206 : decode cX9_count 206 = .ok (.aload_n 0, 1) := by decide +kernel
theorem dX9_count_207 : decode cX9_count 207 = .ok (.getfield 213, 3) := by decide +kernel
theorem dX9_count_210 : decode cX9_count 210 = .ok (.ireturn, 1) := by decide +kernel
theorem dX9_count_211 : decode cX9_count 211 = .ok (.aload_n 0, 1) := by decide +kernel
theorem dX9_count_212 : decode cX9_count 212 = .ok (.getfield 207, 3) := by decide +kernel
theorem dX9_count_215 : decode cX9_count 215 = .ok (.aload_n 0, 1) := by decide +kernel
theorem dX9_count_216 : decode cX9_count 216 = .ok (.getfield 175, 3) := by decide +kernel
theorem dX9_count_219 : decode cX9_count 219 = .ok (.iadd, 1) := by decide +kernel
theorem dX9_count_220 : decode cX9_count 220 = .ok (.ireturn, 1) := by decide +kernel
theorem dX9_count_221 : decode cX9_count 221 = .ok (.bipush (-9), 2) := by decide +kernel
theorem dX9_count_223 : decode cX9_count 223 = .ok (.ireturn, 1) := by decide +kernel
end
section
theorem dL_law_0 : decode cL_law 0 = .ok (.new 7, 3) := by decide +kernel
theorem dL_law_3 : decode cL_law 3 = .ok (.dup, 1) := by decide +kernel
theorem dL_law_4 : decode cL_law 4 = .ok (.invokespecial 9, 3) := by decide +kernel
theorem dL_law_7 : decode cL_law 7 = .ok (.astore_n 1, 1) := by decide +kernel
theorem dL_law_8 : decode cL_law 8 = .ok (.new 10, 3) := by decide +kernel
theorem dL_law_11 : decode cL_law 11 = .ok (.dup, 1) := by decide +kernel
theorem dL_law_12 : decode cL_law 12 = .ok (.invokespecial 12, 3) := by decide +kernel
theorem dL_law_15 : decode cL_law 15 = .ok (.astore_n 2, 1) := by decide +kernel
theorem dL_law_16 : decode cL_law 16 = .ok (.iconst 0, 1) := by decide +kernel
theorem dL_law_17 : decode cL_law 17 = .ok (.istore_n 3, 1) := by decide +kernel
theorem dL_law_18 : decode cL_law 18 = .ok (.iload_n 3, 1) := by decide +kernel
theorem dL_law_19 : decode cL_law 19 = .ok (.aload_n 0, 1) := by decide +kernel
theorem dL_law_20 : decode cL_law 20 = .ok (.arraylength, 1) := by decide +kernel
theorem dL_law_21 : decode cL_law 21 = .ok (.iconst 5, 1) := by decide +kernel
theorem dL_law_22 : decode cL_law 22 = .ok (.isub, 1) := by decide +kernel
theorem dL_law_23 : decode cL_law 23 = .ok (.if_icmp .gt 1183, 3) := by decide +kernel
theorem dL_law_26 : decode cL_law 26 = .ok (.aload_n 0, 1) := by decide +kernel
theorem dL_law_27 : decode cL_law 27 = .ok (.iload_n 3, 1) := by decide +kernel
theorem dL_law_28 : decode cL_law 28 = .ok (.iaload, 1) := by decide +kernel
theorem dL_law_29 : decode cL_law 29 = .ok (.bipush 31, 2) := by decide +kernel
theorem dL_law_31 : decode cL_law 31 = .ok (.iand, 1) := by decide +kernel
theorem dL_law_32 : decode cL_law 32 = .ok (.tableswitch 1168 0 27 #[128, 151, 210, 263, 296, 329, 362, 385, 408, 431, 480, 513, 546, 647, 670, 713, 782, 825, 858, 881, 934, 957, 990, 1013, 1036, 1079, 1112, 1145], 128) := by decide +kernel
theorem dL_law_160 : decode cL_law 160 = .ok (.aload_n 1, 1) := by decide +kernel
theorem dL_law_161 : decode cL_law 161 = .ok (.aload_n 0, 1) := by decide +kernel
theorem dL_law_162 : decode cL_law 162 = .ok (.iload_n 3, 1) := by decide +kernel
theorem dL_law_163 : decode cL_law 163 = .ok (.iconst 1, 1) := by decide +kernel
theorem dL_law_164 : decode cL_law 164 = .ok (.iadd, 1) := by decide +kernel
theorem dL_law_165 : decode cL_law 165 = .ok (.iaload, 1) := by decide +kernel
theorem dL_law_166 : decode cL_law 166 = .ok (.invokevirtual 13, 3) := by decide +kernel
theorem dL_law_169 : decode cL_law 169 = .ok (.aload_n 2, 1) := by decide +kernel
theorem dL_law_170 : decode cL_law 170 = .ok (.aload_n 0, 1) := by decide +kernel
theorem dL_law_171 : decode cL_law 171 = .ok (.iload_n 3, 1) := by decide +kernel
theorem dL_law_172 : decode cL_law 172 = .ok (.iconst 1, 1) := by decide +kernel
theorem dL_law_173 : decode cL_law 173 = .ok (.iadd, 1) := by decide +kernel
theorem dL_law_174 : decode cL_law 174 = .ok (.iaload, 1) := by decide +kernel
theorem dL_law_175 : decode cL_law 175 = .ok (.invokevirtual 17, 3) := by decide +kernel
theorem dL_law_178 : decode cL_law 178 = .ok (.if_icmp .eq 1022, 3) := by decide +kernel
theorem dL_law_181 : decode cL_law 181 = .ok (.iconst 0, 1) := by decide +kernel
theorem dL_law_182 : decode cL_law 182 = .ok (.ireturn, 1) := by decide +kernel
theorem dL_law_183 : decode cL_law 183 = .ok (.aload_n 1, 1) := by decide +kernel
theorem dL_law_184 : decode cL_law 184 = .ok (.aload_n 0, 1) := by decide +kernel
theorem dL_law_185 : decode cL_law 185 = .ok (.iload_n 3, 1) := by decide +kernel
theorem dL_law_186 : decode cL_law 186 = .ok (.iconst 1, 1) := by decide +kernel
theorem dL_law_187 : decode cL_law 187 = .ok (.iadd, 1) := by decide +kernel
theorem dL_law_188 : decode cL_law 188 = .ok (.iaload, 1) := by decide +kernel
theorem dL_law_189 : decode cL_law 189 = .ok (.aload_n 0, 1) := by decide +kernel
theorem dL_law_190 : decode cL_law 190 = .ok (.iload_n 3, 1) := by decide +kernel
theorem dL_law_191 : decode cL_law 191 = .ok (.iconst 2, 1) := by decide +kernel
theorem dL_law_192 : decode cL_law 192 = .ok (.iadd, 1) := by decide +kernel
theorem dL_law_193 : decode cL_law 193 = .ok (.iaload, 1) := by decide +kernel
theorem dL_law_194 : decode cL_law 194 = .ok (.aload_n 0, 1) := by decide +kernel
theorem dL_law_195 : decode cL_law 195 = .ok (.iload_n 3, 1) := by decide +kernel
theorem dL_law_196 : decode cL_law 196 = .ok (.iconst 3, 1) := by decide +kernel
theorem dL_law_197 : decode cL_law 197 = .ok (.iadd, 1) := by decide +kernel
theorem dL_law_198 : decode cL_law 198 = .ok (.iaload, 1) := by decide +kernel
theorem dL_law_199 : decode cL_law 199 = .ok (.ifCond .eq 7, 3) := by decide +kernel
theorem dL_law_202 : decode cL_law 202 = .ok (.iconst 1, 1) := by decide +kernel
theorem dL_law_203 : decode cL_law 203 = .ok (.goto 4, 3) := by decide +kernel
theorem dL_law_206 : decode cL_law 206 = .ok (.iconst 0, 1) := by decide +kernel
theorem dL_law_207 : decode cL_law 207 = .ok (.invokevirtual 18, 3) := by decide +kernel
theorem dL_law_210 : decode cL_law 210 = .ok (.aload_n 2, 1) := by decide +kernel
theorem dL_law_211 : decode cL_law 211 = .ok (.aload_n 0, 1) := by decide +kernel
theorem dL_law_212 : decode cL_law 212 = .ok (.iload_n 3, 1) := by decide +kernel
theorem dL_law_213 : decode cL_law 213 = .ok (.iconst 1, 1) := by decide +kernel
theorem dL_law_214 : decode cL_law 214 = .ok (.iadd, 1) := by decide +kernel
theorem dL_law_215 : decode cL_law 215 = .ok (.iaload, 1) := by decide +kernel
theorem dL_law_216 : decode cL_law 216 = .ok (.aload_n 0, 1) := by decide +kernel
theorem dL_law_217 : decode cL_law 217 = .ok (.iload_n 3, 1) := by decide +kernel
theorem dL_law_218 : decode cL_law 218 = .ok (.iconst 2, 1) := by decide +kernel
theorem dL_law_219 : decode cL_law 219 = .ok (.iadd, 1) := by decide +kernel
theorem dL_law_220 : decode cL_law 220 = .ok (.iaload, 1) := by decide +kernel
theorem dL_law_221 : decode cL_law 221 = .ok (.aload_n 0, 1) := by decide +kernel
theorem dL_law_222 : decode cL_law 222 = .ok (.iload_n 3, 1) := by decide +kernel
theorem dL_law_223 : decode cL_law 223 = .ok (.iconst 3, 1) := by decide +kernel
theorem dL_law_224 : decode cL_law 224 = .ok (.iadd, 1) := by decide +kernel
theorem dL_law_225 : decode cL_law 225 = .ok (.iaload, 1) := by decide +kernel
theorem dL_law_226 : decode cL_law 226 = .ok (.ifCond .eq 7, 3) := by decide +kernel
theorem dL_law_229 : decode cL_law 229 = .ok (.iconst 1, 1) := by decide +kernel
theorem dL_law_230 : decode cL_law 230 = .ok (.goto 4, 3) := by decide +kernel
theorem dL_law_233 : decode cL_law 233 = .ok (.iconst 0, 1) := by decide +kernel
theorem dL_law_234 : decode cL_law 234 = .ok (.invokevirtual 22, 3) := by decide +kernel
theorem dL_law_237 : decode cL_law 237 = .ok (.if_icmp .eq 963, 3) := by decide +kernel
theorem dL_law_240 : decode cL_law 240 = .ok (.iconst 0, 1) := by decide +kernel
theorem dL_law_241 : decode cL_law 241 = .ok (.ireturn, 1) := by decide +kernel
theorem dL_law_242 : decode cL_law 242 = .ok (.aload_n 1, 1) := by decide +kernel
theorem dL_law_243 : decode cL_law 243 = .ok (.aload_n 0, 1) := by decide +kernel
theorem dL_law_244 : decode cL_law 244 = .ok (.iload_n 3, 1) := by decide +kernel
theorem dL_law_245 : decode cL_law 245 = .ok (.iconst 1, 1) := by decide +kernel
theorem dL_law_246 : decode cL_law 246 = .ok (.iadd, 1) := by decide +kernel
theorem dL_law_247 : decode cL_law 247 = .ok (.iaload, 1) := by decide +kernel
theorem dL_law_248 : decode cL_law 248 = .ok (.aload_n 0, 1) := by decide +kernel
theorem dL_law_249 : decode cL_law 249 = .ok (.iload_n 3, 1) := by decide +kernel
theorem dL_law_250 : decode cL_law 250 = .ok (.iconst 2, 1) := by decide +kernel
theorem dL_law_251 : decode cL_law 251 = .ok (.iadd, 1) := by decide +kernel
theorem dL_law_252 : decode cL_law 252 = .ok (.iaload, 1) := by decide +kernel
theorem dL_law_253 : decode cL_law 253 = .ok (.aload_n 0, 1) := by decide +kernel
theorem dL_law_254 : decode cL_law 254 = .ok (.iload_n 3, 1) := by decide +kernel
theorem dL_law_255 : decode cL_law 255 = .ok (.iconst 3, 1) := by decide +kernel
theorem dL_law_256 : decode cL_law 256 = .ok (.iadd, 1) := by decide +kernel
theorem dL_law_257 : decode cL_law 257 = .ok (.iaload, 1) := by decide +kernel
theorem dL_law_258 : decode cL_law 258 = .ok (.aload_n 0, 1) := by decide +kernel
theorem dL_law_259 : decode cL_law 259 = .ok (.iload_n 3, 1) := by decide +kernel
theorem dL_law_260 : decode cL_law 260 = .ok (.iconst 4, 1) := by decide +kernel
theorem dL_law_261 : decode cL_law 261 = .ok (.iadd, 1) := by decide +kernel
theorem dL_law_262 : decode cL_law 262 = .ok (.iaload, 1) := by decide +kernel
theorem dL_law_263 : decode cL_law 263 = .ok (.invokevirtual 23, 3) := by decide +kernel
theorem dL_law_266 : decode cL_law 266 = .ok (.aload_n 2, 1) := by decide +kernel
theorem dL_law_267 : decode cL_law 267 = .ok (.aload_n 0, 1) := by decide +kernel
theorem dL_law_268 : decode cL_law 268 = .ok (.iload_n 3, 1) := by decide +kernel
theorem dL_law_269 : decode cL_law 269 = .ok (.iconst 1, 1) := by decide +kernel
theorem dL_law_270 : decode cL_law 270 = .ok (.iadd, 1) := by decide +kernel
theorem dL_law_271 : decode cL_law 271 = .ok (.iaload, 1) := by decide +kernel
theorem dL_law_272 : decode cL_law 272 = .ok (.aload_n 0, 1) := by decide +kernel
theorem dL_law_273 : decode cL_law 273 = .ok (.iload_n 3, 1) := by decide +kernel
theorem dL_law_274 : decode cL_law 274 = .ok (.iconst 2, 1) := by decide +kernel
theorem dL_law_275 : decode cL_law 275 = .ok (.iadd, 1) := by decide +kernel
theorem dL_law_276 : decode cL_law 276 = .ok (.iaload, 1) := by decide +kernel
theorem dL_law_277 : decode cL_law 277 = .ok (.aload_n 0, 1) := by decide +kernel
theorem dL_law_278 : decode cL_law 278 = .ok (.iload_n 3, 1) := by decide +kernel
theorem dL_law_279 : decode cL_law 279 = .ok (.iconst 3, 1) := by decide +kernel
theorem dL_law_280 : decode cL_law 280 = .ok (.iadd, 1) := by decide +kernel
theorem dL_law_281 : decode cL_law 281 = .ok (.iaload, 1) := by decide +kernel
theorem dL_law_282 : decode cL_law 282 = .ok (.aload_n 0, 1) := by decide +kernel
theorem dL_law_283 : decode cL_law 283 = .ok (.iload_n 3, 1) := by decide +kernel
theorem dL_law_284 : decode cL_law 284 = .ok (.iconst 4, 1) := by decide +kernel
theorem dL_law_285 : decode cL_law 285 = .ok (.iadd, 1) := by decide +kernel
theorem dL_law_286 : decode cL_law 286 = .ok (.iaload, 1) := by decide +kernel
theorem dL_law_287 : decode cL_law 287 = .ok (.invokevirtual 27, 3) := by decide +kernel
theorem dL_law_290 : decode cL_law 290 = .ok (.if_icmp .eq 910, 3) := by decide +kernel
theorem dL_law_293 : decode cL_law 293 = .ok (.iconst 0, 1) := by decide +kernel
theorem dL_law_294 : decode cL_law 294 = .ok (.ireturn, 1) := by decide +kernel
theorem dL_law_295 : decode cL_law 295 = .ok (.aload_n 1, 1) := by decide +kernel
theorem dL_law_296 : decode cL_law 296 = .ok (.aload_n 0, 1) := by decide +kernel
theorem dL_law_297 : decode cL_law 297 = .ok (.iload_n 3, 1) := by decide +kernel
theorem dL_law_298 : decode cL_law 298 = .ok (.iconst 1, 1) := by decide +kernel
theorem dL_law_299 : decode cL_law 299 = .ok (.iadd, 1) := by decide +kernel
theorem dL_law_300 : decode cL_law 300 = .ok (.iaload, 1) := by decide +kernel
theorem dL_law_301 : decode cL_law 301 = .ok (.aload_n 0, 1) := by decide +kernel
theorem dL_law_302 : decode cL_law 302 = .ok (.iload_n 3, 1) := by decide +kernel
theorem dL_law_303 : decode cL_law 303 = .ok (.iconst 2, 1) := by decide +kernel
theorem dL_law_304 : decode cL_law 304 = .ok (.iadd, 1) := by decide +kernel
theorem dL_law_305 : decode cL_law 305 = .ok (.iaload, 1) := by decide +kernel
theorem dL_law_306 : decode cL_law 306 = .ok (.invokevirtual 28, 3) := by decide +kernel
theorem dL_law_309 : decode cL_law 309 = .ok (.aload_n 2, 1) := by decide +kernel
theorem dL_law_310 : decode cL_law 310 = .ok (.aload_n 0, 1) := by decide +kernel
theorem dL_law_311 : decode cL_law 311 = .ok (.iload_n 3, 1) := by decide +kernel
theorem dL_law_312 : decode cL_law 312 = .ok (.iconst 1, 1) := by decide +kernel
theorem dL_law_313 : decode cL_law 313 = .ok (.iadd, 1) := by decide +kernel
theorem dL_law_314 : decode cL_law 314 = .ok (.iaload, 1) := by decide +kernel
theorem dL_law_315 : decode cL_law 315 = .ok (.aload_n 0, 1) := by decide +kernel
theorem dL_law_316 : decode cL_law 316 = .ok (.iload_n 3, 1) := by decide +kernel
theorem dL_law_317 : decode cL_law 317 = .ok (.iconst 2, 1) := by decide +kernel
theorem dL_law_318 : decode cL_law 318 = .ok (.iadd, 1) := by decide +kernel
theorem dL_law_319 : decode cL_law 319 = .ok (.iaload, 1) := by decide +kernel
theorem dL_law_320 : decode cL_law 320 = .ok (.invokevirtual 32, 3) := by decide +kernel
theorem dL_law_323 : decode cL_law 323 = .ok (.if_icmp .eq 877, 3) := by decide +kernel
theorem dL_law_326 : decode cL_law 326 = .ok (.iconst 0, 1) := by decide +kernel
theorem dL_law_327 : decode cL_law 327 = .ok (.ireturn, 1) := by decide +kernel
theorem dL_law_328 : decode cL_law 328 = .ok (.aload_n 1, 1) := by decide +kernel
theorem dL_law_329 : decode cL_law 329 = .ok (.aload_n 0, 1) := by decide +kernel
theorem dL_law_330 : decode cL_law 330 = .ok (.iload_n 3, 1) := by decide +kernel
theorem dL_law_331 : decode cL_law 331 = .ok (.iconst 1, 1) := by decide +kernel
theorem dL_law_332 : decode cL_law 332 = .ok (.iadd, 1) := by decide +kernel
theorem dL_law_333 : decode cL_law 333 = .ok (.iaload, 1) := by decide +kernel
theorem dL_law_334 : decode cL_law 334 = .ok (.aload_n 0, 1) := by decide +kernel
theorem dL_law_335 : decode cL_law 335 = .ok (.iload_n 3, 1) := by decide +kernel
theorem dL_law_336 : decode cL_law 336 = .ok (.iconst 2, 1) := by decide +kernel
theorem dL_law_337 : decode cL_law 337 = .ok (.iadd, 1) := by decide +kernel
theorem dL_law_338 : decode cL_law 338 = .ok (.iaload, 1) := by decide +kernel
theorem dL_law_339 : decode cL_law 339 = .ok (.invokevirtual 33, 3) := by decide +kernel
theorem dL_law_342 : decode cL_law 342 = .ok (.aload_n 2, 1) := by decide +kernel
theorem dL_law_343 : decode cL_law 343 = .ok (.aload_n 0, 1) := by decide +kernel
theorem dL_law_344 : decode cL_law 344 = .ok (.iload_n 3, 1) := by decide +kernel
theorem dL_law_345 : decode cL_law 345 = .ok (.iconst 1, 1) := by decide +kernel
theorem dL_law_346 : decode cL_law 346 = .ok (.iadd, 1) := by decide +kernel
theorem dL_law_347 : decode cL_law 347 = .ok (.iaload, 1) := by decide +kernel
theorem dL_law_348 : decode cL_law 348 = .ok (.aload_n 0, 1) := by decide +kernel
theorem dL_law_349 : decode cL_law 349 = .ok (.iload_n 3, 1) := by decide +kernel
theorem dL_law_350 : decode cL_law 350 = .ok (.iconst 2, 1) := by decide +kernel
theorem dL_law_351 : decode cL_law 351 = .ok (.iadd, 1) := by decide +kernel
theorem dL_law_352 : decode cL_law 352 = .ok (.iaload, 1) := by decide +kernel
theorem dL_law_353 : decode cL_law 353 = .ok (.invokevirtual 36, 3) := by decide +kernel
theorem dL_law_356 : decode cL_law 356 = .ok (.if_icmp .eq 844, 3) := by decide +kernel
theorem dL_law_359 : decode cL_law 359 = .ok (.iconst 0, 1) := by decide +kernel
theorem dL_law_360 : decode cL_law 360 = .ok (.ireturn, 1) := by decide +kernel
theorem dL_law_361 : decode cL_law 361 = .ok (.aload_n 1, 1) := by decide +kernel
theorem dL_law_362 : decode cL_law 362 = .ok (.aload_n 0, 1) := by decide +kernel
theorem dL_law_363 : decode cL_law 363 = .ok (.iload_n 3, 1) := by decide +kernel
theorem dL_law_364 : decode cL_law 364 = .ok (.iconst 1, 1) := by decide +kernel
theorem dL_law_365 : decode cL_law 365 = .ok (.iadd, 1) := by decide +kernel
theorem dL_law_366 : decode cL_law 366 = .ok (.iaload, 1) := by decide +kernel
theorem dL_law_367 : decode cL_law 367 = .ok (.aload_n 0, 1) := by decide +kernel
theorem dL_law_368 : decode cL_law 368 = .ok (.iload_n 3, 1) := by decide +kernel
theorem dL_law_369 : decode cL_law 369 = .ok (.iconst 2, 1) := by decide +kernel
theorem dL_law_370 : decode cL_law 370 = .ok (.iadd, 1) := by decide +kernel
theorem dL_law_371 : decode cL_law 371 = .ok (.iaload, 1) := by decide +kernel
theorem dL_law_372 : decode cL_law 372 = .ok (.invokevirtual 37, 3) := by decide +kernel
theorem dL_law_375 : decode cL_law 375 = .ok (.aload_n 2, 1) := by decide +kernel
theorem dL_law_376 : decode cL_law 376 = .ok (.aload_n 0, 1) := by decide +kernel
theorem dL_law_377 : decode cL_law 377 = .ok (.iload_n 3, 1) := by decide +kernel
theorem dL_law_378 : decode cL_law 378 = .ok (.iconst 1, 1) := by decide +kernel
theorem dL_law_379 : decode cL_law 379 = .ok (.iadd, 1) := by decide +kernel
theorem dL_law_380 : decode cL_law 380 = .ok (.iaload, 1) := by decide +kernel
theorem dL_law_381 : decode cL_law 381 = .ok (.aload_n 0, 1) := by decide +kernel
theorem dL_law_382 : decode cL_law 382 = .ok (.iload_n 3, 1) := by decide +kernel
theorem dL_law_383 : decode cL_law 383 = .ok (.iconst 2, 1) := by decide +kernel
theorem dL_law_384 : decode cL_law 384 = .ok (.iadd, 1) := by decide +kernel
theorem dL_law_385 : decode cL_law 385 = .ok (.iaload, 1) := by decide +kernel
theorem dL_law_386 : decode cL_law 386 = .ok (.invokevirtual 40, 3) := by decide +kernel
theorem dL_law_389 : decode cL_law 389 = .ok (.if_icmp .eq 811, 3) := by decide +kernel
theorem dL_law_392 : decode cL_law 392 = .ok (.iconst 0, 1) := by decide +kernel
theorem dL_law_393 : decode cL_law 393 = .ok (.ireturn, 1) := by decide +kernel
theorem dL_law_394 : decode cL_law 394 = .ok (.aload_n 1, 1) := by decide +kernel
end
section
theorem dL_law_395 : decode cL_law 395 = .ok (.aload_n 0, 1) := by decide +kernel
theorem dL_law_396 : decode cL_law 396 = .ok (.iload_n 3, 1) := by decide +kernel
theorem dL_law_397 : decode cL_law 397 = .ok (.iconst 1, 1) := by decide +kernel
theorem dL_law_398 : decode cL_law 398 = .ok (.iadd, 1) := by decide +kernel
theorem dL_law_399 : decode cL_law 399 = .ok (.iaload, 1) := by decide +kernel
theorem dL_law_400 : decode cL_law 400 = .ok (.invokevirtual 41, 3) := by decide +kernel
theorem dL_law_403 : decode cL_law 403 = .ok (.aload_n 2, 1) := by decide +kernel
theorem dL_law_404 : decode cL_law 404 = .ok (.aload_n 0, 1) := by decide +kernel
theorem dL_law_405 : decode cL_law 405 = .ok (.iload_n 3, 1) := by decide +kernel
theorem dL_law_406 : decode cL_law 406 = .ok (.iconst 1, 1) := by decide +kernel
theorem dL_law_407 : decode cL_law 407 = .ok (.iadd, 1) := by decide +kernel
theorem dL_law_408 : decode cL_law 408 = .ok (.iaload, 1) := by decide +kernel
theorem dL_law_409 : decode cL_law 409 = .ok (.invokevirtual 44, 3) := by decide +kernel
theorem dL_law_412 : decode cL_law 412 = .ok (.if_icmp .eq 788, 3) := by decide +kernel
theorem dL_law_415 : decode cL_law 415 = .ok (.iconst 0, 1) := by decide +kernel
theorem dL_law_416 : decode cL_law 416 = .ok (.ireturn, 1) := by decide +kernel
theorem dL_law_417 : decode cL_law 417 = .ok (.aload_n 1, 1) := by decide +kernel
theorem dL_law_418 : decode cL_law 418 = .ok (.aload_n 0, 1) := by decide +kernel
theorem dL_law_419 : decode cL_law 419 = .ok (.iload_n 3, 1) := by decide +kernel
theorem dL_law_420 : decode cL_law 420 = .ok (.iconst 1, 1) := by decide +kernel
theorem dL_law_421 : decode cL_law 421 = .ok (.iadd, 1) := by decide +kernel
theorem dL_law_422 : decode cL_law 422 = .ok (.iaload, 1) := by decide +kernel
theorem dL_law_423 : decode cL_law 423 = .ok (.invokevirtual 45, 3) := by decide +kernel
theorem dL_law_426 : decode cL_law 426 = .ok (.aload_n 2, 1) := by decide +kernel
theorem dL_law_427 : decode cL_law 427 = .ok (.aload_n 0, 1) := by decide +kernel
theorem dL_law_428 : decode cL_law 428 = .ok (.iload_n 3, 1) := by decide +kernel
theorem dL_law_429 : decode cL_law 429 = .ok (.iconst 1, 1) := by decide +kernel
theorem dL_law_430 : decode cL_law 430 = .ok (.iadd, 1) := by decide +kernel
theorem dL_law_431 : decode cL_law 431 = .ok (.iaload, 1) := by decide +kernel
theorem dL_law_432 : decode cL_law 432 = .ok (.invokevirtual 48, 3) := by decide +kernel
theorem dL_law_435 : decode cL_law 435 = .ok (.if_icmp .eq 765, 3) := by decide +kernel
theorem dL_law_438 : decode cL_law 438 = .ok (.iconst 0, 1) := by decide +kernel
theorem dL_law_439 : decode cL_law 439 = .ok (.ireturn, 1) := by decide +kernel
theorem dL_law_440 : decode cL_law 440 = .ok (.aload_n 1, 1) := by decide +kernel
theorem dL_law_441 : decode cL_law 441 = .ok (.aload_n 0, 1) := by decide +kernel
theorem dL_law_442 : decode cL_law 442 = .ok (.iload_n 3, 1) := by decide +kernel
theorem dL_law_443 : decode cL_law 443 = .ok (.iconst 1, 1) := by decide +kernel
theorem dL_law_444 : decode cL_law 444 = .ok (.iadd, 1) := by decide +kernel
theorem dL_law_445 : decode cL_law 445 = .ok (.iaload, 1) := by decide +kernel
theorem dL_law_446 : decode cL_law 446 = .ok (.invokevirtual 49, 3) := by decide +kernel
theorem dL_law_449 : decode cL_law 449 = .ok (.aload_n 2, 1) := by decide +kernel
theorem dL_law_450 : decode cL_law 450 = .ok (.aload_n 0, 1) := by decide +kernel
theorem dL_law_451 : decode cL_law 451 = .ok (.iload_n 3, 1) := by decide +kernel
theorem dL_law_452 : decode cL_law 452 = .ok (.iconst 1, 1) := by decide +kernel
theorem dL_law_453 : decode cL_law 453 = .ok (.iadd, 1) := by decide +kernel
theorem dL_law_454 : decode cL_law 454 = .ok (.iaload, 1) := by decide +kernel
theorem dL_law_455 : decode cL_law 455 = .ok (.invokevirtual 52, 3) := by decide +kernel
theorem dL_law_458 : decode cL_law 458 = .ok (.if_icmp .eq 742, 3) := by decide +kernel
theorem dL_law_461 : decode cL_law 461 = .ok (.iconst 0, 1) := by decide +kernel
theorem dL_law_462 : decode cL_law 462 = .ok (.ireturn, 1) := by decide +kernel
theorem dL_law_463 : decode cL_law 463 = .ok (.aload_n 1, 1) := by decide +kernel
theorem dL_law_464 : decode cL_law 464 = .ok (.aload_n 0, 1) := by decide +kernel
theorem dL_law_465 : decode cL_law 465 = .ok (.iload_n 3, 1) := by decide +kernel
theorem dL_law_466 : decode cL_law 466 = .ok (.iconst 1, 1) := by decide +kernel
theorem dL_law_467 : decode cL_law 467 = .ok (.iadd, 1) := by decide +kernel
theorem dL_law_468 : decode cL_law 468 = .ok (.iaload, 1) := by decide +kernel
theorem dL_law_469 : decode cL_law 469 = .ok (.aload_n 0, 1) := by decide +kernel
theorem dL_law_470 : decode cL_law 470 = .ok (.iload_n 3, 1) := by decide +kernel
theorem dL_law_471 : decode cL_law 471 = .ok (.iconst 2, 1) := by decide +kernel
theorem dL_law_472 : decode cL_law 472 = .ok (.iadd, 1) := by decide +kernel
theorem dL_law_473 : decode cL_law 473 = .ok (.iaload, 1) := by decide +kernel
theorem dL_law_474 : decode cL_law 474 = .ok (.ifCond .eq 7, 3) := by decide +kernel
theorem dL_law_477 : decode cL_law 477 = .ok (.iconst 1, 1) := by decide +kernel
theorem dL_law_478 : decode cL_law 478 = .ok (.goto 4, 3) := by decide +kernel
theorem dL_law_481 : decode cL_law 481 = .ok (.iconst 0, 1) := by decide +kernel
theorem dL_law_482 : decode cL_law 482 = .ok (.invokevirtual 53, 3) := by decide +kernel
theorem dL_law_485 : decode cL_law 485 = .ok (.aload_n 2, 1) := by decide +kernel
theorem dL_law_486 : decode cL_law 486 = .ok (.aload_n 0, 1) := by decide +kernel
theorem dL_law_487 : decode cL_law 487 = .ok (.iload_n 3, 1) := by decide +kernel
theorem dL_law_488 : decode cL_law 488 = .ok (.iconst 1, 1) := by decide +kernel
theorem dL_law_489 : decode cL_law 489 = .ok (.iadd, 1) := by decide +kernel
theorem dL_law_490 : decode cL_law 490 = .ok (.iaload, 1) := by decide +kernel
theorem dL_law_491 : decode cL_law 491 = .ok (.aload_n 0, 1) := by decide +kernel
theorem dL_law_492 : decode cL_law 492 = .ok (.iload_n 3, 1) := by decide +kernel
theorem dL_law_493 : decode cL_law 493 = .ok (.iconst 2, 1) := by decide +kernel
theorem dL_law_494 : decode cL_law 494 = .ok (.iadd, 1) := by decide +kernel
theorem dL_law_495 : decode cL_law 495 = .ok (.iaload, 1) := by decide +kernel
theorem dL_law_496 : decode cL_law 496 = .ok (.ifCond .eq 7, 3) := by decide +kernel
theorem dL_law_499 : decode cL_law 499 = .ok (.iconst 1, 1) := by decide +kernel
theorem dL_law_500 : decode cL_law 500 = .ok (.goto 4, 3) := by decide +kernel
theorem dL_law_503 : decode cL_law 503 = .ok (.iconst 0, 1) := by decide +kernel
theorem dL_law_504 : decode cL_law 504 = .ok (.invokevirtual 57, 3) := by decide +kernel
theorem dL_law_507 : decode cL_law 507 = .ok (.if_icmp .eq 693, 3) := by decide +kernel
theorem dL_law_510 : decode cL_law 510 = .ok (.iconst 0, 1) := by decide +kernel
theorem dL_law_511 : decode cL_law 511 = .ok (.ireturn, 1) := by decide +kernel
theorem dL_law_512 : decode cL_law 512 = .ok (.aload_n 1, 1) := by decide +kernel
theorem dL_law_513 : decode cL_law 513 = .ok (.aload_n 0, 1) := by decide +kernel
theorem dL_law_514 : decode cL_law 514 = .ok (.iload_n 3, 1) := by decide +kernel
theorem dL_law_515 : decode cL_law 515 = .ok (.iconst 1, 1) := by decide +kernel
theorem dL_law_516 : decode cL_law 516 = .ok (.iadd, 1) := by decide +kernel
theorem dL_law_517 : decode cL_law 517 = .ok (.iaload, 1) := by decide +kernel
theorem dL_law_518 : decode cL_law 518 = .ok (.aload_n 0, 1) := by decide +kernel
theorem dL_law_519 : decode cL_law 519 = .ok (.iload_n 3, 1) := by decide +kernel
theorem dL_law_520 : decode cL_law 520 = .ok (.iconst 2, 1) := by decide +kernel
theorem dL_law_521 : decode cL_law 521 = .ok (.iadd, 1) := by decide +kernel
theorem dL_law_522 : decode cL_law 522 = .ok (.iaload, 1) := by decide +kernel
theorem dL_law_523 : decode cL_law 523 = .ok (.invokevirtual 58, 3) := by decide +kernel
theorem dL_law_526 : decode cL_law 526 = .ok (.aload_n 2, 1) := by decide +kernel
theorem dL_law_527 : decode cL_law 527 = .ok (.aload_n 0, 1) := by decide +kernel
theorem dL_law_528 : decode cL_law 528 = .ok (.iload_n 3, 1) := by decide +kernel
theorem dL_law_529 : decode cL_law 529 = .ok (.iconst 1, 1) := by decide +kernel
theorem dL_law_530 : decode cL_law 530 = .ok (.iadd, 1) := by decide +kernel
theorem dL_law_531 : decode cL_law 531 = .ok (.iaload, 1) := by decide +kernel
theorem dL_law_532 : decode cL_law 532 = .ok (.aload_n 0, 1) := by decide +kernel
theorem dL_law_533 : decode cL_law 533 = .ok (.iload_n 3, 1) := by decide +kernel
theorem dL_law_534 : decode cL_law 534 = .ok (.iconst 2, 1) := by decide +kernel
theorem dL_law_535 : decode cL_law 535 = .ok (.iadd, 1) := by decide +kernel
theorem dL_law_536 : decode cL_law 536 = .ok (.iaload, 1) := by decide +kernel
theorem dL_law_537 : decode cL_law 537 = .ok (.invokevirtual 61, 3) := by decide +kernel
theorem dL_law_540 : decode cL_law 540 = .ok (.if_icmp .eq 660, 3) := by decide +kernel
theorem dL_law_543 : decode cL_law 543 = .ok (.iconst 0, 1) := by decide +kernel
theorem dL_law_544 : decode cL_law 544 = .ok (.ireturn, 1) := by decide +kernel
theorem dL_law_545 : decode cL_law 545 = .ok (.aload_n 1, 1) := by decide +kernel
theorem dL_law_546 : decode cL_law 546 = .ok (.aload_n 0, 1) := by decide +kernel
theorem dL_law_547 : decode cL_law 547 = .ok (.iload_n 3, 1) := by decide +kernel
theorem dL_law_548 : decode cL_law 548 = .ok (.iconst 1, 1) := by decide +kernel
theorem dL_law_549 : decode cL_law 549 = .ok (.iadd, 1) := by decide +kernel
theorem dL_law_550 : decode cL_law 550 = .ok (.iaload, 1) := by decide +kernel
theorem dL_law_551 : decode cL_law 551 = .ok (.aload_n 0, 1) := by decide +kernel
theorem dL_law_552 : decode cL_law 552 = .ok (.iload_n 3, 1) := by decide +kernel
theorem dL_law_553 : decode cL_law 553 = .ok (.iconst 2, 1) := by decide +kernel
theorem dL_law_554 : decode cL_law 554 = .ok (.iadd, 1) := by decide +kernel
theorem dL_law_555 : decode cL_law 555 = .ok (.iaload, 1) := by decide +kernel
theorem dL_law_556 : decode cL_law 556 = .ok (.invokevirtual 62, 3) := by decide +kernel
theorem dL_law_559 : decode cL_law 559 = .ok (.aload_n 2, 1) := by decide +kernel
theorem dL_law_560 : decode cL_law 560 = .ok (.aload_n 0, 1) := by decide +kernel
theorem dL_law_561 : decode cL_law 561 = .ok (.iload_n 3, 1) := by decide +kernel
theorem dL_law_562 : decode cL_law 562 = .ok (.iconst 1, 1) := by decide +kernel
theorem dL_law_563 : decode cL_law 563 = .ok (.iadd, 1) := by decide +kernel
theorem dL_law_564 : decode cL_law 564 = .ok (.iaload, 1) := by decide +kernel
theorem dL_law_565 : decode cL_law 565 = .ok (.aload_n 0, 1) := by decide +kernel
theorem dL_law_566 : decode cL_law 566 = .ok (.iload_n 3, 1) := by decide +kernel
theorem dL_law_567 : decode cL_law 567 = .ok (.iconst 2, 1) := by decide +kernel
theorem dL_law_568 : decode cL_law 568 = .ok (.iadd, 1) := by decide +kernel
theorem dL_law_569 : decode cL_law 569 = .ok (.iaload, 1) := by decide +kernel
theorem dL_law_570 : decode cL_law 570 = .ok (.invokevirtual 65, 3) := by decide +kernel
theorem dL_law_573 : decode cL_law 573 = .ok (.if_icmp .eq 627, 3) := by decide +kernel
theorem dL_law_576 : decode cL_law 576 = .ok (.iconst 0, 1) := by decide +kernel
theorem dL_law_577 : decode cL_law 577 = .ok (.ireturn, 1) := by decide +kernel
theorem dL_law_578 : decode cL_law 578 = .ok (.aload_n 1, 1) := by decide +kernel
theorem dL_law_579 : decode cL_law 579 = .ok (.aload_n 0, 1) := by decide +kernel
theorem dL_law_580 : decode cL_law 580 = .ok (.iload_n 3, 1) := by decide +kernel
theorem dL_law_581 : decode cL_law 581 = .ok (.iconst 1, 1) := by decide +kernel
theorem dL_law_582 : decode cL_law 582 = .ok (.iadd, 1) := by decide +kernel
theorem dL_law_583 : decode cL_law 583 = .ok (.iaload, 1) := by decide +kernel
theorem dL_law_584 : decode cL_law 584 = .ok (.aload_n 0, 1) := by decide +kernel
theorem dL_law_585 : decode cL_law 585 = .ok (.iload_n 3, 1) := by decide +kernel
theorem dL_law_586 : decode cL_law 586 = .ok (.iconst 2, 1) := by decide +kernel
theorem dL_law_587 : decode cL_law 587 = .ok (.iadd, 1) := by decide +kernel
theorem dL_law_588 : decode cL_law 588 = .ok (.iaload, 1) := by decide +kernel
theorem dL_law_589 : decode cL_law 589 = .ok (.ifCond .eq 7, 3) := by decide +kernel
theorem dL_law_592 : decode cL_law 592 = .ok (.iconst 1, 1) := by decide +kernel
theorem dL_law_593 : decode cL_law 593 = .ok (.goto 4, 3) := by decide +kernel
theorem dL_law_596 : decode cL_law 596 = .ok (.iconst 0, 1) := by decide +kernel
theorem dL_law_597 : decode cL_law 597 = .ok (.aload_n 0, 1) := by decide +kernel
theorem dL_law_598 : decode cL_law 598 = .ok (.iload_n 3, 1) := by decide +kernel
theorem dL_law_599 : decode cL_law 599 = .ok (.iconst 3, 1) := by decide +kernel
theorem dL_law_600 : decode cL_law 600 = .ok (.iadd, 1) := by decide +kernel
theorem dL_law_601 : decode cL_law 601 = .ok (.iaload, 1) := by decide +kernel
theorem dL_law_602 : decode cL_law 602 = .ok (.ifCond .eq 7, 3) := by decide +kernel
theorem dL_law_605 : decode cL_law 605 = .ok (.iconst 1, 1) := by decide +kernel
theorem dL_law_606 : decode cL_law 606 = .ok (.goto 4, 3) := by decide +kernel
theorem dL_law_609 : decode cL_law 609 = .ok (.iconst 0, 1) := by decide +kernel
theorem dL_law_610 : decode cL_law 610 = .ok (.aload_n 0, 1) := by decide +kernel
theorem dL_law_611 : decode cL_law 611 = .ok (.iload_n 3, 1) := by decide +kernel
theorem dL_law_612 : decode cL_law 612 = .ok (.iconst 4, 1) := by decide +kernel
theorem dL_law_613 : decode cL_law 613 = .ok (.iadd, 1) := by decide +kernel
theorem dL_law_614 : decode cL_law 614 = .ok (.iaload, 1) := by decide +kernel
theorem dL_law_615 : decode cL_law 615 = .ok (.ifCond .eq 7, 3) := by decide +kernel
theorem dL_law_618 : decode cL_law 618 = .ok (.iconst 1, 1) := by decide +kernel
theorem dL_law_619 : decode cL_law 619 = .ok (.goto 4, 3) := by decide +kernel
theorem dL_law_622 : decode cL_law 622 = .ok (.iconst 0, 1) := by decide +kernel
theorem dL_law_623 : decode cL_law 623 = .ok (.invokevirtual 66, 3) := by decide +kernel
theorem dL_law_626 : decode cL_law 626 = .ok (.aload_n 2, 1) := by decide +kernel
theorem dL_law_627 : decode cL_law 627 = .ok (.aload_n 0, 1) := by decide +kernel
theorem dL_law_628 : decode cL_law 628 = .ok (.iload_n 3, 1) := by decide +kernel
theorem dL_law_629 : decode cL_law 629 = .ok (.iconst 1, 1) := by decide +kernel
theorem dL_law_630 : decode cL_law 630 = .ok (.iadd, 1) := by decide +kernel
theorem dL_law_631 : decode cL_law 631 = .ok (.iaload, 1) := by decide +kernel
theorem dL_law_632 : decode cL_law 632 = .ok (.aload_n 0, 1) := by decide +kernel
theorem dL_law_633 : decode cL_law 633 = .ok (.iload_n 3, 1) := by decide +kernel
theorem dL_law_634 : decode cL_law 634 = .ok (.iconst 2, 1) := by decide +kernel
theorem dL_law_635 : decode cL_law 635 = .ok (.iadd, 1) := by decide +kernel
theorem dL_law_636 : decode cL_law 636 = .ok (.iaload, 1) := by decide +kernel
theorem dL_law_637 : decode cL_law 637 = .ok (.ifCond .eq 7, 3) := by decide +kernel
theorem dL_law_640 : decode cL_law 640 = .ok (.iconst 1, 1) := by decide +kernel
theorem dL_law_641 : decode cL_law 641 = .ok (.goto 4, 3) := by decide +kernel
theorem dL_law_644 : decode cL_law 644 = .ok (.iconst 0, 1) := by decide +kernel
theorem dL_law_645 : decode cL_law 645 = .ok (.aload_n 0, 1) := by decide +kernel
theorem dL_law_646 : decode cL_law 646 = .ok (.iload_n 3, 1) := by decide +kernel
theorem dL_law_647 : decode cL_law 647 = .ok (.iconst 3, 1) := by decide +kernel
theorem dL_law_648 : decode cL_law 648 = .ok (.iadd, 1) := by decide +kernel
theorem dL_law_649 : decode cL_law 649 = .ok (.iaload, 1) := by decide +kernel
theorem dL_law_650 : decode cL_law 650 = .ok (.ifCond .eq 7, 3) := by decide +kernel
theorem dL_law_653 : decode cL_law 653 = .ok (.iconst 1, 1) := by decide +kernel
theorem dL_law_654 : decode cL_law 654 = .ok (.goto 4, 3) := by decide +kernel
theorem dL_law_657 : decode cL_law 657 = .ok (.iconst 0, 1) := by decide +kernel
theorem dL_law_658 : decode cL_law 658 = .ok (.aload_n 0, 1) := by decide +kernel
theorem dL_law_659 : decode cL_law 659 = .ok (.iload_n 3, 1) := by decide +kernel
theorem dL_law_660 : decode cL_law 660 = .ok (.iconst 4, 1) := by decide +kernel
theorem dL_law_661 : decode cL_law 661 = .ok (.iadd, 1) := by decide +kernel
theorem dL_law_662 : decode cL_law 662 = .ok (.iaload, 1) := by decide +kernel
theorem dL_law_663 : decode cL_law 663 = .ok (.ifCond .eq 7, 3) := by decide +kernel
theorem dL_law_666 : decode cL_law 666 = .ok (.iconst 1, 1) := by decide +kernel
theorem dL_law_667 : decode cL_law 667 = .ok (.goto 4, 3) := by decide +kernel
theorem dL_law_670 : decode cL_law 670 = .ok (.iconst 0, 1) := by decide +kernel
theorem dL_law_671 : decode cL_law 671 = .ok (.invokevirtual 70, 3) := by decide +kernel
theorem dL_law_674 : decode cL_law 674 = .ok (.if_icmp .eq 526, 3) := by decide +kernel
theorem dL_law_677 : decode cL_law 677 = .ok (.iconst 0, 1) := by decide +kernel
theorem dL_law_678 : decode cL_law 678 = .ok (.ireturn, 1) := by decide +kernel
theorem dL_law_679 : decode cL_law 679 = .ok (.aload_n 1, 1) := by decide +kernel
theorem dL_law_680 : decode cL_law 680 = .ok (.aload_n 0, 1) := by decide +kernel
theorem dL_law_681 : decode cL_law 681 = .ok (.iload_n 3, 1) := by decide +kernel
end
section
theorem dL_law_682 : decode cL_law 682 = .ok (.iconst 1, 1) := by decide +kernel
theorem dL_law_683 : decode cL_law 683 = .ok (.iadd, 1) := by decide +kernel
theorem dL_law_684 : decode cL_law 684 = .ok (.iaload, 1) := by decide +kernel
theorem dL_law_685 : decode cL_law 685 = .ok (.invokevirtual 71, 3) := by decide +kernel
theorem dL_law_688 : decode cL_law 688 = .ok (.aload_n 2, 1) := by decide +kernel
theorem dL_law_689 : decode cL_law 689 = .ok (.aload_n 0, 1) := by decide +kernel
theorem dL_law_690 : decode cL_law 690 = .ok (.iload_n 3, 1) := by decide +kernel
theorem dL_law_691 : decode cL_law 691 = .ok (.iconst 1, 1) := by decide +kernel
theorem dL_law_692 : decode cL_law 692 = .ok (.iadd, 1) := by decide +kernel
theorem dL_law_693 : decode cL_law 693 = .ok (.iaload, 1) := by decide +kernel
theorem dL_law_694 : decode cL_law 694 = .ok (.invokevirtual 74, 3) := by decide +kernel
theorem dL_law_697 : decode cL_law 697 = .ok (.if_icmp .eq 503, 3) := by decide +kernel
theorem dL_law_700 : decode cL_law 700 = .ok (.iconst 0, 1) := by decide +kernel
theorem dL_law_701 : decode cL_law 701 = .ok (.ireturn, 1) := by decide +kernel
theorem dL_law_702 : decode cL_law 702 = .ok (.aload_n 1, 1) := by decide +kernel
theorem dL_law_703 : decode cL_law 703 = .ok (.aload_n 0, 1) := by decide +kernel
theorem dL_law_704 : decode cL_law 704 = .ok (.iload_n 3, 1) := by decide +kernel
theorem dL_law_705 : decode cL_law 705 = .ok (.iconst 1, 1) := by decide +kernel
theorem dL_law_706 : decode cL_law 706 = .ok (.iadd, 1) := by decide +kernel
theorem dL_law_707 : decode cL_law 707 = .ok (.iaload, 1) := by decide +kernel
theorem dL_law_708 : decode cL_law 708 = .ok (.aload_n 0, 1) := by decide +kernel
theorem dL_law_709 : decode cL_law 709 = .ok (.iload_n 3, 1) := by decide +kernel
theorem dL_law_710 : decode cL_law 710 = .ok (.iconst 2, 1) := by decide +kernel
theorem dL_law_711 : decode cL_law 711 = .ok (.iadd, 1) := by decide +kernel
theorem dL_law_712 : decode cL_law 712 = .ok (.iaload, 1) := by decide +kernel
theorem dL_law_713 : decode cL_law 713 = .ok (.aload_n 0, 1) := by decide +kernel
theorem dL_law_714 : decode cL_law 714 = .ok (.iload_n 3, 1) := by decide +kernel
theorem dL_law_715 : decode cL_law 715 = .ok (.iconst 3, 1) := by decide +kernel
theorem dL_law_716 : decode cL_law 716 = .ok (.iadd, 1) := by decide +kernel
theorem dL_law_717 : decode cL_law 717 = .ok (.iaload, 1) := by decide +kernel
theorem dL_law_718 : decode cL_law 718 = .ok (.invokevirtual 75, 3) := by decide +kernel
theorem dL_law_721 : decode cL_law 721 = .ok (.aload_n 2, 1) := by decide +kernel
theorem dL_law_722 : decode cL_law 722 = .ok (.aload_n 0, 1) := by decide +kernel
theorem dL_law_723 : decode cL_law 723 = .ok (.iload_n 3, 1) := by decide +kernel
theorem dL_law_724 : decode cL_law 724 = .ok (.iconst 1, 1) := by decide +kernel
theorem dL_law_725 : decode cL_law 725 = .ok (.iadd, 1) := by decide +kernel
theorem dL_law_726 : decode cL_law 726 = .ok (.iaload, 1) := by decide +kernel
theorem dL_law_727 : decode cL_law 727 = .ok (.aload_n 0, 1) := by decide +kernel
theorem dL_law_728 : decode cL_law 728 = .ok (.iload_n 3, 1) := by decide +kernel
theorem dL_law_729 : decode cL_law 729 = .ok (.iconst 2, 1) := by decide +kernel
theorem dL_law_730 : decode cL_law 730 = .ok (.iadd, 1) := by decide +kernel
theorem dL_law_731 : decode cL_law 731 = .ok (.iaload, 1) := by decide +kernel
theorem dL_law_732 : decode cL_law 732 = .ok (.aload_n 0, 1) := by decide +kernel
theorem dL_law_733 : decode cL_law 733 = .ok (.iload_n 3, 1) := by decide +kernel
theorem dL_law_734 : decode cL_law 734 = .ok (.iconst 3, 1) := by decide +kernel
theorem dL_law_735 : decode cL_law 735 = .ok (.iadd, 1) := by decide +kernel
theorem dL_law_736 : decode cL_law 736 = .ok (.iaload, 1) := by decide +kernel
theorem dL_law_737 : decode cL_law 737 = .ok (.invokevirtual 79, 3) := by decide +kernel
theorem dL_law_740 : decode cL_law 740 = .ok (.if_icmp .eq 460, 3) := by decide +kernel
theorem dL_law_743 : decode cL_law 743 = .ok (.iconst 0, 1) := by decide +kernel
theorem dL_law_744 : decode cL_law 744 = .ok (.ireturn, 1) := by decide +kernel
theorem dL_law_745 : decode cL_law 745 = .ok (.aload_n 1, 1) := by decide +kernel
theorem dL_law_746 : decode cL_law 746 = .ok (.aload_n 0, 1) := by decide +kernel
theorem dL_law_747 : decode cL_law 747 = .ok (.iload_n 3, 1) := by decide +kernel
theorem dL_law_748 : decode cL_law 748 = .ok (.iconst 1, 1) := by decide +kernel
theorem dL_law_749 : decode cL_law 749 = .ok (.iadd, 1) := by decide +kernel
theorem dL_law_750 : decode cL_law 750 = .ok (.iaload, 1) := by decide +kernel
theorem dL_law_751 : decode cL_law 751 = .ok (.aload_n 0, 1) := by decide +kernel
theorem dL_law_752 : decode cL_law 752 = .ok (.iload_n 3, 1) := by decide +kernel
theorem dL_law_753 : decode cL_law 753 = .ok (.iconst 2, 1) := by decide +kernel
theorem dL_law_754 : decode cL_law 754 = .ok (.iadd, 1) := by decide +kernel
theorem dL_law_755 : decode cL_law 755 = .ok (.iaload, 1) := by decide +kernel
theorem dL_law_756 : decode cL_law 756 = .ok (.aload_n 0, 1) := by decide +kernel
theorem dL_law_757 : decode cL_law 757 = .ok (.iload_n 3, 1) := by decide +kernel
theorem dL_law_758 : decode cL_law 758 = .ok (.iconst 3, 1) := by decide +kernel
theorem dL_law_759 : decode cL_law 759 = .ok (.iadd, 1) := by decide +kernel
theorem dL_law_760 : decode cL_law 760 = .ok (.iaload, 1) := by decide +kernel
theorem dL_law_761 : decode cL_law 761 = .ok (.ifCond .eq 7, 3) := by decide +kernel
theorem dL_law_764 : decode cL_law 764 = .ok (.iconst 1, 1) := by decide +kernel
theorem dL_law_765 : decode cL_law 765 = .ok (.goto 4, 3) := by decide +kernel
theorem dL_law_768 : decode cL_law 768 = .ok (.iconst 0, 1) := by decide +kernel
theorem dL_law_769 : decode cL_law 769 = .ok (.aload_n 0, 1) := by decide +kernel
theorem dL_law_770 : decode cL_law 770 = .ok (.iload_n 3, 1) := by decide +kernel
theorem dL_law_771 : decode cL_law 771 = .ok (.iconst 4, 1) := by decide +kernel
theorem dL_law_772 : decode cL_law 772 = .ok (.iadd, 1) := by decide +kernel
theorem dL_law_773 : decode cL_law 773 = .ok (.iaload, 1) := by decide +kernel
theorem dL_law_774 : decode cL_law 774 = .ok (.invokevirtual 80, 3) := by decide +kernel
theorem dL_law_777 : decode cL_law 777 = .ok (.aload_n 2, 1) := by decide +kernel
theorem dL_law_778 : decode cL_law 778 = .ok (.aload_n 0, 1) := by decide +kernel
theorem dL_law_779 : decode cL_law 779 = .ok (.iload_n 3, 1) := by decide +kernel
theorem dL_law_780 : decode cL_law 780 = .ok (.iconst 1, 1) := by decide +kernel
theorem dL_law_781 : decode cL_law 781 = .ok (.iadd, 1) := by decide +kernel
theorem dL_law_782 : decode cL_law 782 = .ok (.iaload, 1) := by decide +kernel
theorem dL_law_783 : decode cL_law 783 = .ok (.aload_n 0, 1) := by decide +kernel
theorem dL_law_784 : decode cL_law 784 = .ok (.iload_n 3, 1) := by decide +kernel
theorem dL_law_785 : decode cL_law 785 = .ok (.iconst 2, 1) := by decide +kernel
theorem dL_law_786 : decode cL_law 786 = .ok (.iadd, 1) := by decide +kernel
theorem dL_law_787 : decode cL_law 787 = .ok (.iaload, 1) := by decide +kernel
theorem dL_law_788 : decode cL_law 788 = .ok (.aload_n 0, 1) := by decide +kernel
theorem dL_law_789 : decode cL_law 789 = .ok (.iload_n 3, 1) := by decide +kernel
theorem dL_law_790 : decode cL_law 790 = .ok (.iconst 3, 1) := by decide +kernel
theorem dL_law_791 : decode cL_law 791 = .ok (.iadd, 1) := by decide +kernel
theorem dL_law_792 : decode cL_law 792 = .ok (.iaload, 1) := by decide +kernel
theorem dL_law_793 : decode cL_law 793 = .ok (.ifCond .eq 7, 3) := by decide +kernel
theorem dL_law_796 : decode cL_law 796 = .ok (.iconst 1, 1) := by decide +kernel
theorem dL_law_797 : decode cL_law 797 = .ok (.goto 4, 3) := by decide +kernel
theorem dL_law_800 : decode cL_law 800 = .ok (.iconst 0, 1) := by decide +kernel
theorem dL_law_801 : decode cL_law 801 = .ok (.aload_n 0, 1) := by decide +kernel
theorem dL_law_802 : decode cL_law 802 = .ok (.iload_n 3, 1) := by decide +kernel
theorem dL_law_803 : decode cL_law 803 = .ok (.iconst 4, 1) := by decide +kernel
theorem dL_law_804 : decode cL_law 804 = .ok (.iadd, 1) := by decide +kernel
theorem dL_law_805 : decode cL_law 805 = .ok (.iaload, 1) := by decide +kernel
theorem dL_law_806 : decode cL_law 806 = .ok (.invokevirtual 84, 3) := by decide +kernel
theorem dL_law_809 : decode cL_law 809 = .ok (.if_icmp .eq 391, 3) := by decide +kernel
theorem dL_law_812 : decode cL_law 812 = .ok (.iconst 0, 1) := by decide +kernel
theorem dL_law_813 : decode cL_law 813 = .ok (.ireturn, 1) := by decide +kernel
theorem dL_law_814 : decode cL_law 814 = .ok (.aload_n 1, 1) := by decide +kernel
theorem dL_law_815 : decode cL_law 815 = .ok (.aload_n 0, 1) := by decide +kernel
theorem dL_law_816 : decode cL_law 816 = .ok (.iload_n 3, 1) := by decide +kernel
theorem dL_law_817 : decode cL_law 817 = .ok (.iconst 1, 1) := by decide +kernel
theorem dL_law_818 : decode cL_law 818 = .ok (.iadd, 1) := by decide +kernel
theorem dL_law_819 : decode cL_law 819 = .ok (.iaload, 1) := by decide +kernel
theorem dL_law_820 : decode cL_law 820 = .ok (.aload_n 0, 1) := by decide +kernel
theorem dL_law_821 : decode cL_law 821 = .ok (.iload_n 3, 1) := by decide +kernel
theorem dL_law_822 : decode cL_law 822 = .ok (.iconst 2, 1) := by decide +kernel
theorem dL_law_823 : decode cL_law 823 = .ok (.iadd, 1) := by decide +kernel
theorem dL_law_824 : decode cL_law 824 = .ok (.iaload, 1) := by decide +kernel
theorem dL_law_825 : decode cL_law 825 = .ok (.aload_n 0, 1) := by decide +kernel
theorem dL_law_826 : decode cL_law 826 = .ok (.iload_n 3, 1) := by decide +kernel
theorem dL_law_827 : decode cL_law 827 = .ok (.iconst 3, 1) := by decide +kernel
theorem dL_law_828 : decode cL_law 828 = .ok (.iadd, 1) := by decide +kernel
theorem dL_law_829 : decode cL_law 829 = .ok (.iaload, 1) := by decide +kernel
theorem dL_law_830 : decode cL_law 830 = .ok (.invokevirtual 85, 3) := by decide +kernel
theorem dL_law_833 : decode cL_law 833 = .ok (.aload_n 2, 1) := by decide +kernel
theorem dL_law_834 : decode cL_law 834 = .ok (.aload_n 0, 1) := by decide +kernel
theorem dL_law_835 : decode cL_law 835 = .ok (.iload_n 3, 1) := by decide +kernel
theorem dL_law_836 : decode cL_law 836 = .ok (.iconst 1, 1) := by decide +kernel
theorem dL_law_837 : decode cL_law 837 = .ok (.iadd, 1) := by decide +kernel
theorem dL_law_838 : decode cL_law 838 = .ok (.iaload, 1) := by decide +kernel
theorem dL_law_839 : decode cL_law 839 = .ok (.aload_n 0, 1) := by decide +kernel
theorem dL_law_840 : decode cL_law 840 = .ok (.iload_n 3, 1) := by decide +kernel
theorem dL_law_841 : decode cL_law 841 = .ok (.iconst 2, 1) := by decide +kernel
theorem dL_law_842 : decode cL_law 842 = .ok (.iadd, 1) := by decide +kernel
theorem dL_law_843 : decode cL_law 843 = .ok (.iaload, 1) := by decide +kernel
theorem dL_law_844 : decode cL_law 844 = .ok (.aload_n 0, 1) := by decide +kernel
theorem dL_law_845 : decode cL_law 845 = .ok (.iload_n 3, 1) := by decide +kernel
theorem dL_law_846 : decode cL_law 846 = .ok (.iconst 3, 1) := by decide +kernel
theorem dL_law_847 : decode cL_law 847 = .ok (.iadd, 1) := by decide +kernel
theorem dL_law_848 : decode cL_law 848 = .ok (.iaload, 1) := by decide +kernel
theorem dL_law_849 : decode cL_law 849 = .ok (.invokevirtual 88, 3) := by decide +kernel
theorem dL_law_852 : decode cL_law 852 = .ok (.if_icmp .eq 348, 3) := by decide +kernel
theorem dL_law_855 : decode cL_law 855 = .ok (.iconst 0, 1) := by decide +kernel
theorem dL_law_856 : decode cL_law 856 = .ok (.ireturn, 1) := by decide +kernel
theorem dL_law_857 : decode cL_law 857 = .ok (.aload_n 1, 1) := by decide +kernel
theorem dL_law_858 : decode cL_law 858 = .ok (.aload_n 0, 1) := by decide +kernel
theorem dL_law_859 : decode cL_law 859 = .ok (.iload_n 3, 1) := by decide +kernel
theorem dL_law_860 : decode cL_law 860 = .ok (.iconst 1, 1) := by decide +kernel
theorem dL_law_861 : decode cL_law 861 = .ok (.iadd, 1) := by decide +kernel
theorem dL_law_862 : decode cL_law 862 = .ok (.iaload, 1) := by decide +kernel
theorem dL_law_863 : decode cL_law 863 = .ok (.aload_n 0, 1) := by decide +kernel
theorem dL_law_864 : decode cL_law 864 = .ok (.iload_n 3, 1) := by decide +kernel
theorem dL_law_865 : decode cL_law 865 = .ok (.iconst 2, 1) := by decide +kernel
theorem dL_law_866 : decode cL_law 866 = .ok (.iadd, 1) := by decide +kernel
theorem dL_law_867 : decode cL_law 867 = .ok (.iaload, 1) := by decide +kernel
theorem dL_law_868 : decode cL_law 868 = .ok (.invokevirtual 89, 3) := by decide +kernel
theorem dL_law_871 : decode cL_law 871 = .ok (.aload_n 2, 1) := by decide +kernel
theorem dL_law_872 : decode cL_law 872 = .ok (.aload_n 0, 1) := by decide +kernel
theorem dL_law_873 : decode cL_law 873 = .ok (.iload_n 3, 1) := by decide +kernel
theorem dL_law_874 : decode cL_law 874 = .ok (.iconst 1, 1) := by decide +kernel
theorem dL_law_875 : decode cL_law 875 = .ok (.iadd, 1) := by decide +kernel
theorem dL_law_876 : decode cL_law 876 = .ok (.iaload, 1) := by decide +kernel
theorem dL_law_877 : decode cL_law 877 = .ok (.aload_n 0, 1) := by decide +kernel
theorem dL_law_878 : decode cL_law 878 = .ok (.iload_n 3, 1) := by decide +kernel
theorem dL_law_879 : decode cL_law 879 = .ok (.iconst 2, 1) := by decide +kernel
theorem dL_law_880 : decode cL_law 880 = .ok (.iadd, 1) := by decide +kernel
theorem dL_law_881 : decode cL_law 881 = .ok (.iaload, 1) := by decide +kernel
theorem dL_law_882 : decode cL_law 882 = .ok (.invokevirtual 92, 3) := by decide +kernel
theorem dL_law_885 : decode cL_law 885 = .ok (.if_icmp .eq 315, 3) := by decide +kernel
theorem dL_law_888 : decode cL_law 888 = .ok (.iconst 0, 1) := by decide +kernel
theorem dL_law_889 : decode cL_law 889 = .ok (.ireturn, 1) := by decide +kernel
theorem dL_law_890 : decode cL_law 890 = .ok (.aload_n 1, 1) := by decide +kernel
theorem dL_law_891 : decode cL_law 891 = .ok (.aload_n 0, 1) := by decide +kernel
theorem dL_law_892 : decode cL_law 892 = .ok (.iload_n 3, 1) := by decide +kernel
theorem dL_law_893 : decode cL_law 893 = .ok (.iconst 1, 1) := by decide +kernel
theorem dL_law_894 : decode cL_law 894 = .ok (.iadd, 1) := by decide +kernel
theorem dL_law_895 : decode cL_law 895 = .ok (.iaload, 1) := by decide +kernel
theorem dL_law_896 : decode cL_law 896 = .ok (.invokevirtual 93, 3) := by decide +kernel
theorem dL_law_899 : decode cL_law 899 = .ok (.aload_n 2, 1) := by decide +kernel
theorem dL_law_900 : decode cL_law 900 = .ok (.aload_n 0, 1) := by decide +kernel
theorem dL_law_901 : decode cL_law 901 = .ok (.iload_n 3, 1) := by decide +kernel
theorem dL_law_902 : decode cL_law 902 = .ok (.iconst 1, 1) := by decide +kernel
theorem dL_law_903 : decode cL_law 903 = .ok (.iadd, 1) := by decide +kernel
theorem dL_law_904 : decode cL_law 904 = .ok (.iaload, 1) := by decide +kernel
theorem dL_law_905 : decode cL_law 905 = .ok (.invokevirtual 96, 3) := by decide +kernel
theorem dL_law_908 : decode cL_law 908 = .ok (.if_icmp .eq 292, 3) := by decide +kernel
theorem dL_law_911 : decode cL_law 911 = .ok (.iconst 0, 1) := by decide +kernel
theorem dL_law_912 : decode cL_law 912 = .ok (.ireturn, 1) := by decide +kernel
theorem dL_law_913 : decode cL_law 913 = .ok (.aload_n 1, 1) := by decide +kernel
theorem dL_law_914 : decode cL_law 914 = .ok (.aload_n 0, 1) := by decide +kernel
theorem dL_law_915 : decode cL_law 915 = .ok (.iload_n 3, 1) := by decide +kernel
theorem dL_law_916 : decode cL_law 916 = .ok (.iconst 1, 1) := by decide +kernel
theorem dL_law_917 : decode cL_law 917 = .ok (.iadd, 1) := by decide +kernel
theorem dL_law_918 : decode cL_law 918 = .ok (.iaload, 1) := by decide +kernel
theorem dL_law_919 : decode cL_law 919 = .ok (.aload_n 0, 1) := by decide +kernel
theorem dL_law_920 : decode cL_law 920 = .ok (.iload_n 3, 1) := by decide +kernel
theorem dL_law_921 : decode cL_law 921 = .ok (.iconst 2, 1) := by decide +kernel
theorem dL_law_922 : decode cL_law 922 = .ok (.iadd, 1) := by decide +kernel
theorem dL_law_923 : decode cL_law 923 = .ok (.iaload, 1) := by decide +kernel
theorem dL_law_924 : decode cL_law 924 = .ok (.aload_n 0, 1) := by decide +kernel
theorem dL_law_925 : decode cL_law 925 = .ok (.iload_n 3, 1) := by decide +kernel
theorem dL_law_926 : decode cL_law 926 = .ok (.iconst 3, 1) := by decide +kernel
theorem dL_law_927 : decode cL_law 927 = .ok (.iadd, 1) := by decide +kernel
theorem dL_law_928 : decode cL_law 928 = .ok (.iaload, 1) := by decide +kernel
theorem dL_law_929 : decode cL_law 929 = .ok (.aload_n 0, 1) := by decide +kernel
theorem dL_law_930 : decode cL_law 930 = .ok (.iload_n 3, 1) := by decide +kernel
theorem dL_law_931 : decode cL_law 931 = .ok (.iconst 4, 1) := by decide +kernel
theorem dL_law_932 : decode cL_law 932 = .ok (.iadd, 1) := by decide +kernel
theorem dL_law_933 : decode cL_law 933 = .ok (.iaload, 1) := by decide +kernel
theorem dL_law_934 : decode cL_law 934 = .ok (.invokevirtual 97, 3) := by decide +kernel
theorem dL_law_937 : decode cL_law 937 = .ok (.aload_n 2, 1) := by decide +kernel
theorem dL_law_938 : decode cL_law 938 = .ok (.aload_n 0, 1) := by decide +kernel
theorem dL_law_939 : decode cL_law 939 = .ok (.iload_n 3, 1) := by decide +kernel
theorem dL_law_940 : decode cL_law 940 = .ok (.iconst 1, 1) := by decide +kernel
end
section
theorem dL_law_941 : decode cL_law 941 = .ok (.iadd, 1) := by decide +kernel
theorem dL_law_942 : decode cL_law 942 = .ok (.iaload, 1) := by decide +kernel
theorem dL_law_943 : decode cL_law 943 = .ok (.aload_n 0, 1) := by decide +kernel
theorem dL_law_944 : decode cL_law 944 = .ok (.iload_n 3, 1) := by decide +kernel
theorem dL_law_945 : decode cL_law 945 = .ok (.iconst 2, 1) := by decide +kernel
theorem dL_law_946 : decode cL_law 946 = .ok (.iadd, 1) := by decide +kernel
theorem dL_law_947 : decode cL_law 947 = .ok (.iaload, 1) := by decide +kernel
theorem dL_law_948 : decode cL_law 948 = .ok (.aload_n 0, 1) := by decide +kernel
theorem dL_law_949 : decode cL_law 949 = .ok (.iload_n 3, 1) := by decide +kernel
theorem dL_law_950 : decode cL_law 950 = .ok (.iconst 3, 1) := by decide +kernel
theorem dL_law_951 : decode cL_law 951 = .ok (.iadd, 1) := by decide +kernel
theorem dL_law_952 : decode cL_law 952 = .ok (.iaload, 1) := by decide +kernel
theorem dL_law_953 : decode cL_law 953 = .ok (.aload_n 0, 1) := by decide +kernel
theorem dL_law_954 : decode cL_law 954 = .ok (.iload_n 3, 1) := by decide +kernel
theorem dL_law_955 : decode cL_law 955 = .ok (.iconst 4, 1) := by decide +kernel
theorem dL_law_956 : decode cL_law 956 = .ok (.iadd, 1) := by decide +kernel
theorem dL_law_957 : decode cL_law 957 = .ok (.iaload, 1) := by decide +kernel
theorem dL_law_958 : decode cL_law 958 = .ok (.invokevirtual 100, 3) := by decide +kernel
theorem dL_law_961 : decode cL_law 961 = .ok (.if_icmp .eq 239, 3) := by decide +kernel
theorem dL_law_964 : decode cL_law 964 = .ok (.iconst 0, 1) := by decide +kernel
theorem dL_law_965 : decode cL_law 965 = .ok (.ireturn, 1) := by decide +kernel
theorem dL_law_966 : decode cL_law 966 = .ok (.aload_n 1, 1) := by decide +kernel
theorem dL_law_967 : decode cL_law 967 = .ok (.aload_n 0, 1) := by decide +kernel
theorem dL_law_968 : decode cL_law 968 = .ok (.iload_n 3, 1) := by decide +kernel
theorem dL_law_969 : decode cL_law 969 = .ok (.iconst 1, 1) := by decide +kernel
theorem dL_law_970 : decode cL_law 970 = .ok (.iadd, 1) := by decide +kernel
theorem dL_law_971 : decode cL_law 971 = .ok (.iaload, 1) := by decide +kernel
theorem dL_law_972 : decode cL_law 972 = .ok (.invokevirtual 101, 3) := by decide +kernel
theorem dL_law_975 : decode cL_law 975 = .ok (.aload_n 2, 1) := by decide +kernel
theorem dL_law_976 : decode cL_law 976 = .ok (.aload_n 0, 1) := by decide +kernel
theorem dL_law_977 : decode cL_law 977 = .ok (.iload_n 3, 1) := by decide +kernel
theorem dL_law_978 : decode cL_law 978 = .ok (.iconst 1, 1) := by decide +kernel
theorem dL_law_979 : decode cL_law 979 = .ok (.iadd, 1) := by decide +kernel
theorem dL_law_980 : decode cL_law 980 = .ok (.iaload, 1) := by decide +kernel
theorem dL_law_981 : decode cL_law 981 = .ok (.invokevirtual 104, 3) := by decide +kernel
theorem dL_law_984 : decode cL_law 984 = .ok (.if_icmp .eq 216, 3) := by decide +kernel
theorem dL_law_987 : decode cL_law 987 = .ok (.iconst 0, 1) := by decide +kernel
theorem dL_law_988 : decode cL_law 988 = .ok (.ireturn, 1) := by decide +kernel
theorem dL_law_989 : decode cL_law 989 = .ok (.aload_n 1, 1) := by decide +kernel
theorem dL_law_990 : decode cL_law 990 = .ok (.aload_n 0, 1) := by decide +kernel
theorem dL_law_991 : decode cL_law 991 = .ok (.iload_n 3, 1) := by decide +kernel
theorem dL_law_992 : decode cL_law 992 = .ok (.iconst 1, 1) := by decide +kernel
theorem dL_law_993 : decode cL_law 993 = .ok (.iadd, 1) := by decide +kernel
theorem dL_law_994 : decode cL_law 994 = .ok (.iaload, 1) := by decide +kernel
theorem dL_law_995 : decode cL_law 995 = .ok (.aload_n 0, 1) := by decide +kernel
theorem dL_law_996 : decode cL_law 996 = .ok (.iload_n 3, 1) := by decide +kernel
theorem dL_law_997 : decode cL_law 997 = .ok (.iconst 2, 1) := by decide +kernel
theorem dL_law_998 : decode cL_law 998 = .ok (.iadd, 1) := by decide +kernel
theorem dL_law_999 : decode cL_law 999 = .ok (.iaload, 1) := by decide +kernel
theorem dL_law_1000 : decode cL_law 1000 = .ok (.invokevirtual 105, 3) := by decide +kernel
theorem dL_law_1003 : decode cL_law 1003 = .ok (.aload_n 2, 1) := by decide +kernel
theorem dL_law_1004 : decode cL_law 1004 = .ok (.aload_n 0, 1) := by decide +kernel
theorem dL_law_1005 : decode cL_law 1005 = .ok (.iload_n 3, 1) := by decide +kernel
theorem dL_law_1006 : decode cL_law 1006 = .ok (.iconst 1, 1) := by decide +kernel
theorem dL_law_1007 : decode cL_law 1007 = .ok (.iadd, 1) := by decide +kernel
theorem dL_law_1008 : decode cL_law 1008 = .ok (.iaload, 1) := by decide +kernel
theorem dL_law_1009 : decode cL_law 1009 = .ok (.aload_n 0, 1) := by decide +kernel
theorem dL_law_1010 : decode cL_law 1010 = .ok (.iload_n 3, 1) := by decide +kernel
theorem dL_law_1011 : decode cL_law 1011 = .ok (.iconst 2, 1) := by decide +kernel
theorem dL_law_1012 : decode cL_law 1012 = .ok (.iadd, 1) := by decide +kernel
theorem dL_law_1013 : decode cL_law 1013 = .ok (.iaload, 1) := by decide +kernel
theorem dL_law_1014 : decode cL_law 1014 = .ok (.invokevirtual 108, 3) := by decide +kernel
theorem dL_law_1017 : decode cL_law 1017 = .ok (.if_icmp .eq 183, 3) := by decide +kernel
theorem dL_law_1020 : decode cL_law 1020 = .ok (.iconst 0, 1) := by decide +kernel
theorem dL_law_1021 : decode cL_law 1021 = .ok (.ireturn, 1) := by decide +kernel
theorem dL_law_1022 : decode cL_law 1022 = .ok (.aload_n 1, 1) := by decide +kernel
theorem dL_law_1023 : decode cL_law 1023 = .ok (.aload_n 0, 1) := by decide +kernel
theorem dL_law_1024 : decode cL_law 1024 = .ok (.iload_n 3, 1) := by decide +kernel
theorem dL_law_1025 : decode cL_law 1025 = .ok (.iconst 1, 1) := by decide +kernel
theorem dL_law_1026 : decode cL_law 1026 = .ok (.iadd, 1) := by decide +kernel
theorem dL_law_1027 : decode cL_law 1027 = .ok (.iaload, 1) := by decide +kernel
theorem dL_law_1028 : decode cL_law 1028 = .ok (.invokevirtual 109, 3) := by decide +kernel
theorem dL_law_1031 : decode cL_law 1031 = .ok (.aload_n 2, 1) := by decide +kernel
theorem dL_law_1032 : decode cL_law 1032 = .ok (.aload_n 0, 1) := by decide +kernel
theorem dL_law_1033 : decode cL_law 1033 = .ok (.iload_n 3, 1) := by decide +kernel
theorem dL_law_1034 : decode cL_law 1034 = .ok (.iconst 1, 1) := by decide +kernel
theorem dL_law_1035 : decode cL_law 1035 = .ok (.iadd, 1) := by decide +kernel
theorem dL_law_1036 : decode cL_law 1036 = .ok (.iaload, 1) := by decide +kernel
theorem dL_law_1037 : decode cL_law 1037 = .ok (.invokevirtual 112, 3) := by decide +kernel
theorem dL_law_1040 : decode cL_law 1040 = .ok (.if_icmp .eq 160, 3) := by decide +kernel
theorem dL_law_1043 : decode cL_law 1043 = .ok (.iconst 0, 1) := by decide +kernel
theorem dL_law_1044 : decode cL_law 1044 = .ok (.ireturn, 1) := by decide +kernel
theorem dL_law_1045 : decode cL_law 1045 = .ok (.aload_n 1, 1) := by decide +kernel
theorem dL_law_1046 : decode cL_law 1046 = .ok (.aload_n 0, 1) := by decide +kernel
theorem dL_law_1047 : decode cL_law 1047 = .ok (.iload_n 3, 1) := by decide +kernel
theorem dL_law_1048 : decode cL_law 1048 = .ok (.iconst 1, 1) := by decide +kernel
theorem dL_law_1049 : decode cL_law 1049 = .ok (.iadd, 1) := by decide +kernel
theorem dL_law_1050 : decode cL_law 1050 = .ok (.iaload, 1) := by decide +kernel
theorem dL_law_1051 : decode cL_law 1051 = .ok (.invokevirtual 113, 3) := by decide +kernel
theorem dL_law_1054 : decode cL_law 1054 = .ok (.aload_n 2, 1) := by decide +kernel
theorem dL_law_1055 : decode cL_law 1055 = .ok (.aload_n 0, 1) := by decide +kernel
theorem dL_law_1056 : decode cL_law 1056 = .ok (.iload_n 3, 1) := by decide +kernel
theorem dL_law_1057 : decode cL_law 1057 = .ok (.iconst 1, 1) := by decide +kernel
theorem dL_law_1058 : decode cL_law 1058 = .ok (.iadd, 1) := by decide +kernel
theorem dL_law_1059 : decode cL_law 1059 = .ok (.iaload, 1) := by decide +kernel
theorem dL_law_1060 : decode cL_law 1060 = .ok (.invokevirtual 116, 3) := by decide +kernel
theorem dL_law_1063 : decode cL_law 1063 = .ok (.if_icmp .eq 137, 3) := by decide +kernel
theorem dL_law_1066 : decode cL_law 1066 = .ok (.iconst 0, 1) := by decide +kernel
theorem dL_law_1067 : decode cL_law 1067 = .ok (.ireturn, 1) := by decide +kernel
theorem dL_law_1068 : decode cL_law 1068 = .ok (.aload_n 1, 1) := by decide +kernel
theorem dL_law_1069 : decode cL_law 1069 = .ok (.aload_n 0, 1) := by decide +kernel
theorem dL_law_1070 : decode cL_law 1070 = .ok (.iload_n 3, 1) := by decide +kernel
theorem dL_law_1071 : decode cL_law 1071 = .ok (.iconst 1, 1) := by decide +kernel
theorem dL_law_1072 : decode cL_law 1072 = .ok (.iadd, 1) := by decide +kernel
theorem dL_law_1073 : decode cL_law 1073 = .ok (.iaload, 1) := by decide +kernel
theorem dL_law_1074 : decode cL_law 1074 = .ok (.aload_n 0, 1) := by decide +kernel
theorem dL_law_1075 : decode cL_law 1075 = .ok (.iload_n 3, 1) := by decide +kernel
theorem dL_law_1076 : decode cL_law 1076 = .ok (.iconst 2, 1) := by decide +kernel
theorem dL_law_1077 : decode cL_law 1077 = .ok (.iadd, 1) := by decide +kernel
theorem dL_law_1078 : decode cL_law 1078 = .ok (.iaload, 1) := by decide +kernel
theorem dL_law_1079 : decode cL_law 1079 = .ok (.aload_n 0, 1) := by decide +kernel
theorem dL_law_1080 : decode cL_law 1080 = .ok (.iload_n 3, 1) := by decide +kernel
theorem dL_law_1081 : decode cL_law 1081 = .ok (.iconst 3, 1) := by decide +kernel
theorem dL_law_1082 : decode cL_law 1082 = .ok (.iadd, 1) := by decide +kernel
theorem dL_law_1083 : decode cL_law 1083 = .ok (.iaload, 1) := by decide +kernel
theorem dL_law_1084 : decode cL_law 1084 = .ok (.invokevirtual 117, 3) := by decide +kernel
theorem dL_law_1087 : decode cL_law 1087 = .ok (.aload_n 2, 1) := by decide +kernel
theorem dL_law_1088 : decode cL_law 1088 = .ok (.aload_n 0, 1) := by decide +kernel
theorem dL_law_1089 : decode cL_law 1089 = .ok (.iload_n 3, 1) := by decide +kernel
theorem dL_law_1090 : decode cL_law 1090 = .ok (.iconst 1, 1) := by decide +kernel
theorem dL_law_1091 : decode cL_law 1091 = .ok (.iadd, 1) := by decide +kernel
theorem dL_law_1092 : decode cL_law 1092 = .ok (.iaload, 1) := by decide +kernel
theorem dL_law_1093 : decode cL_law 1093 = .ok (.aload_n 0, 1) := by decide +kernel
theorem dL_law_1094 : decode cL_law 1094 = .ok (.iload_n 3, 1) := by decide +kernel
theorem dL_law_1095 : decode cL_law 1095 = .ok (.iconst 2, 1) := by decide +kernel
theorem dL_law_1096 : decode cL_law 1096 = .ok (.iadd, 1) := by decide +kernel
theorem dL_law_1097 : decode cL_law 1097 = .ok (.iaload, 1) := by decide +kernel
theorem dL_law_1098 : decode cL_law 1098 = .ok (.aload_n 0, 1) := by decide +kernel
theorem dL_law_1099 : decode cL_law 1099 = .ok (.iload_n 3, 1) := by decide +kernel
theorem dL_law_1100 : decode cL_law 1100 = .ok (.iconst 3, 1) := by decide +kernel
theorem dL_law_1101 : decode cL_law 1101 = .ok (.iadd, 1) := by decide +kernel
theorem dL_law_1102 : decode cL_law 1102 = .ok (.iaload, 1) := by decide +kernel
theorem dL_law_1103 : decode cL_law 1103 = .ok (.invokevirtual 120, 3) := by decide +kernel
theorem dL_law_1106 : decode cL_law 1106 = .ok (.if_icmp .eq 94, 3) := by decide +kernel
theorem dL_law_1109 : decode cL_law 1109 = .ok (.iconst 0, 1) := by decide +kernel
theorem dL_law_1110 : decode cL_law 1110 = .ok (.ireturn, 1) := by decide +kernel
theorem dL_law_1111 : decode cL_law 1111 = .ok (.aload_n 1, 1) := by decide +kernel
theorem dL_law_1112 : decode cL_law 1112 = .ok (.aload_n 0, 1) := by decide +kernel
theorem dL_law_1113 : decode cL_law 1113 = .ok (.iload_n 3, 1) := by decide +kernel
theorem dL_law_1114 : decode cL_law 1114 = .ok (.iconst 1, 1) := by decide +kernel
theorem dL_law_1115 : decode cL_law 1115 = .ok (.iadd, 1) := by decide +kernel
theorem dL_law_1116 : decode cL_law 1116 = .ok (.iaload, 1) := by decide +kernel
theorem dL_law_1117 : decode cL_law 1117 = .ok (.aload_n 0, 1) := by decide +kernel
theorem dL_law_1118 : decode cL_law 1118 = .ok (.iload_n 3, 1) := by decide +kernel
theorem dL_law_1119 : decode cL_law 1119 = .ok (.iconst 2, 1) := by decide +kernel
theorem dL_law_1120 : decode cL_law 1120 = .ok (.iadd, 1) := by decide +kernel
theorem dL_law_1121 : decode cL_law 1121 = .ok (.iaload, 1) := by decide +kernel
theorem dL_law_1122 : decode cL_law 1122 = .ok (.invokevirtual 121, 3) := by decide +kernel
theorem dL_law_1125 : decode cL_law 1125 = .ok (.aload_n 2, 1) := by decide +kernel
theorem dL_law_1126 : decode cL_law 1126 = .ok (.aload_n 0, 1) := by decide +kernel
theorem dL_law_1127 : decode cL_law 1127 = .ok (.iload_n 3, 1) := by decide +kernel
theorem dL_law_1128 : decode cL_law 1128 = .ok (.iconst 1, 1) := by decide +kernel
theorem dL_law_1129 : decode cL_law 1129 = .ok (.iadd, 1) := by decide +kernel
theorem dL_law_1130 : decode cL_law 1130 = .ok (.iaload, 1) := by decide +kernel
theorem dL_law_1131 : decode cL_law 1131 = .ok (.aload_n 0, 1) := by decide +kernel
theorem dL_law_1132 : decode cL_law 1132 = .ok (.iload_n 3, 1) := by decide +kernel
theorem dL_law_1133 : decode cL_law 1133 = .ok (.iconst 2, 1) := by decide +kernel
theorem dL_law_1134 : decode cL_law 1134 = .ok (.iadd, 1) := by decide +kernel
theorem dL_law_1135 : decode cL_law 1135 = .ok (.iaload, 1) := by decide +kernel
theorem dL_law_1136 : decode cL_law 1136 = .ok (.invokevirtual 124, 3) := by decide +kernel
theorem dL_law_1139 : decode cL_law 1139 = .ok (.if_icmp .eq 61, 3) := by decide +kernel
theorem dL_law_1142 : decode cL_law 1142 = .ok (.iconst 0, 1) := by decide +kernel
theorem dL_law_1143 : decode cL_law 1143 = .ok (.ireturn, 1) := by decide +kernel
theorem dL_law_1144 : decode cL_law 1144 = .ok (.aload_n 1, 1) := by decide +kernel
theorem dL_law_1145 : decode cL_law 1145 = .ok (.aload_n 0, 1) := by decide +kernel
theorem dL_law_1146 : decode cL_law 1146 = .ok (.iload_n 3, 1) := by decide +kernel
theorem dL_law_1147 : decode cL_law 1147 = .ok (.iconst 1, 1) := by decide +kernel
theorem dL_law_1148 : decode cL_law 1148 = .ok (.iadd, 1) := by decide +kernel
theorem dL_law_1149 : decode cL_law 1149 = .ok (.iaload, 1) := by decide +kernel
theorem dL_law_1150 : decode cL_law 1150 = .ok (.aload_n 0, 1) := by decide +kernel
theorem dL_law_1151 : decode cL_law 1151 = .ok (.iload_n 3, 1) := by decide +kernel
theorem dL_law_1152 : decode cL_law 1152 = .ok (.iconst 2, 1) := by decide +kernel
theorem dL_law_1153 : decode cL_law 1153 = .ok (.iadd, 1) := by decide +kernel
theorem dL_law_1154 : decode cL_law 1154 = .ok (.iaload, 1) := by decide +kernel
theorem dL_law_1155 : decode cL_law 1155 = .ok (.invokevirtual 125, 3) := by decide +kernel
theorem dL_law_1158 : decode cL_law 1158 = .ok (.aload_n 2, 1) := by decide +kernel
theorem dL_law_1159 : decode cL_law 1159 = .ok (.aload_n 0, 1) := by decide +kernel
theorem dL_law_1160 : decode cL_law 1160 = .ok (.iload_n 3, 1) := by decide +kernel
theorem dL_law_1161 : decode cL_law 1161 = .ok (.iconst 1, 1) := by decide +kernel
theorem dL_law_1162 : decode cL_law 1162 = .ok (.iadd, 1) := by decide +kernel
theorem dL_law_1163 : decode cL_law 1163 = .ok (.iaload, 1) := by decide +kernel
theorem dL_law_1164 : decode cL_law 1164 = .ok (.aload_n 0, 1) := by decide +kernel
theorem dL_law_1165 : decode cL_law 1165 = .ok (.iload_n 3, 1) := by decide +kernel
theorem dL_law_1166 : decode cL_law 1166 = .ok (.iconst 2, 1) := by decide +kernel
theorem dL_law_1167 : decode cL_law 1167 = .ok (.iadd, 1) := by decide +kernel
theorem dL_law_1168 : decode cL_law 1168 = .ok (.iaload, 1) := by decide +kernel
theorem dL_law_1169 : decode cL_law 1169 = .ok (.invokevirtual 128, 3) := by decide +kernel
theorem dL_law_1172 : decode cL_law 1172 = .ok (.if_icmp .eq 28, 3) := by decide +kernel
theorem dL_law_1175 : decode cL_law 1175 = .ok (.iconst 0, 1) := by decide +kernel
theorem dL_law_1176 : decode cL_law 1176 = .ok (.ireturn, 1) := by decide +kernel
theorem dL_law_1177 : decode cL_law 1177 = .ok (.aload_n 1, 1) := by decide +kernel
theorem dL_law_1178 : decode cL_law 1178 = .ok (.aload_n 0, 1) := by decide +kernel
theorem dL_law_1179 : decode cL_law 1179 = .ok (.iload_n 3, 1) := by decide +kernel
theorem dL_law_1180 : decode cL_law 1180 = .ok (.iconst 1, 1) := by decide +kernel
theorem dL_law_1181 : decode cL_law 1181 = .ok (.iadd, 1) := by decide +kernel
theorem dL_law_1182 : decode cL_law 1182 = .ok (.iaload, 1) := by decide +kernel
theorem dL_law_1183 : decode cL_law 1183 = .ok (.invokevirtual 129, 3) := by decide +kernel
theorem dL_law_1186 : decode cL_law 1186 = .ok (.aload_n 2, 1) := by decide +kernel
theorem dL_law_1187 : decode cL_law 1187 = .ok (.aload_n 0, 1) := by decide +kernel
theorem dL_law_1188 : decode cL_law 1188 = .ok (.iload_n 3, 1) := by decide +kernel
theorem dL_law_1189 : decode cL_law 1189 = .ok (.iconst 1, 1) := by decide +kernel
theorem dL_law_1190 : decode cL_law 1190 = .ok (.iadd, 1) := by decide +kernel
theorem dL_law_1191 : decode cL_law 1191 = .ok (.iaload, 1) := by decide +kernel
theorem dL_law_1192 : decode cL_law 1192 = .ok (.invokevirtual 132, 3) := by decide +kernel
theorem dL_law_1195 : decode cL_law 1195 = .ok (.if_icmp .eq 5, 3) := by decide +kernel
theorem dL_law_1198 : decode cL_law 1198 = .ok (.iconst 0, 1) := by decide +kernel
theorem dL_law_1199 : decode cL_law 1199 = .ok (.ireturn, 1) := by decide +kernel
theorem dL_law_1200 : decode cL_law 1200 = .ok (.iinc 3 5, 3) := by decide +kernel
theorem dL_law_1203 : decode cL_law 1203 = .ok (.goto (-1185), 3) := by decide +kernel
theorem dL_law_1206 : decode cL_law 1206 = .ok (.iconst 1, 1) := by decide +kernel
theorem dL_law_1207 : decode cL_law 1207 = .ok (.ireturn, 1) := by decide +kernel
end
section
/-! THE CORE: a memory of numbers over a fixed shape of cells; the judgement iw_V: from this frame the method comes to what the function says -/
abbrev iw_M : Type := (Nat → Nat → Int32) × (Nat → Nat → Int64)
def iw_wI (z : iw_M) (k j : Nat) (v : Int32) : iw_M := (fun a => if a = k then upd (z.1 k) j v else z.1 a, z.2)
def iw_wL (z : iw_M) (k j : Nat) (v : Int64) : iw_M := (z.1, fun a => if a = k then vp_updL (z.2 k) j v else z.2 a)
abbrev iw_S : Type := Nat → (Nat × List (Option Nat)) ⊕ (FieldType × Nat)
abbrev iw_W : Type := iw_S × Nat
abbrev iw_G : Type := Launch × va_G × (FieldType → ClassId) × (Nat → Nat)
abbrev iw_ad (G : iw_G) : Nat → Nat := G.2.2.2
def iw_eF (ad : Nat → Nat) (f : Nat → Int32) : Nat → List (Option Nat) → List Value
  | _, [] => []
  | j, none :: r => .int (f j) :: iw_eF ad f (j + 1) r
  | j, some q :: r => .ref (ad q) :: iw_eF ad f (j + 1) r
def iw_eV (G : iw_G) (w : iw_W) (z : iw_M) (k : Nat) : va_E := match w.1 k with
  | .inl q => .inr (q.1, iw_eF (iw_ad G) (z.1 k) 0 q.2)
  | .inr q => if q.1 = .long then .inl (G.2.2.1 .long, q.2, .inr (.inl (z.2 k))) else .inl (G.2.2.1 q.1, q.2, .inl (z.1 k))
def iw_wld (G : iw_G) (w : iw_W) (z : iw_M) : va_W := (List.range w.2).map (fun k => (iw_ad G k, iw_eV G w z k))
theorem iw_eF_get (ad : Nat → Nat) (f : Nat → Int32) : ∀ (fl : List (Option Nat)) (j i : Nat), (iw_eF ad f j fl)[i]? = (fl[i]?).map (fun t => match t with | none => Value.int (f (j + i)) | some q => Value.ref (ad q))
  | [], j, i => by simp [iw_eF]
  | none :: r, j, i => by
    cases i with
    | zero => simp [iw_eF]
    | succ i => simp only [iw_eF, List.getElem?_cons_succ]; rw [iw_eF_get ad f r (j + 1) i]; simp only [Nat.add_assoc, Nat.add_comm 1 i]
  | some q :: r, j, i => by
    cases i with
    | zero => simp [iw_eF]
    | succ i => simp only [iw_eF, List.getElem?_cons_succ]; rw [iw_eF_get ad f r (j + 1) i]; simp only [Nat.add_assoc, Nat.add_comm 1 i]
theorem iw_eF_len (ad : Nat → Nat) (f : Nat → Int32) : ∀ (fl : List (Option Nat)) (j : Nat), (iw_eF ad f j fl).length = fl.length
  | [], j => rfl
  | none :: r, j => by simp only [iw_eF, List.length_cons]; rw [iw_eF_len ad f r (j + 1)]
  | some q :: r, j => by simp only [iw_eF, List.length_cons]; rw [iw_eF_len ad f r (j + 1)]
theorem iw_at {G : iw_G} {w : iw_W} {z : iw_M} {k : Nat} (h : k < w.2) : (iw_wld G w z)[k]? = some (iw_ad G k, iw_eV G w z k) := by
  simp [iw_wld, h]
theorem iw_set {G : iw_G} {w : iw_W} {z z' : iw_M} {k : Nat} (h : k < w.2) (hk : ∀ j, j ≠ k → iw_eV G w z' j = iw_eV G w z j) : (iw_wld G w z).set k (iw_ad G k, iw_eV G w z' k) = iw_wld G w z' := by
  apply List.ext_getElem?
  intro i
  by_cases hi : i < w.2
  · by_cases e : k = i
    · subst e
      rw [iw_at hi, List.getElem?_set_self (by simp [iw_wld, h])]
    · rw [List.getElem?_set_ne e, iw_at hi, iw_at hi, hk i (fun q => e q.symm)]
  · simp [iw_wld, hi]
theorem iw_eF_wI {ad : Nat → Nat} {f : Nat → Int32} {v : Int32} : ∀ (fl : List (Option Nat)) (j i : Nat), fl[i]? = some none → (iw_eF ad f j fl).set i (.int v) = iw_eF ad (upd f (j + i) v) j fl
  | [], j, i, h => by simp at h
  | x :: r, j, 0, h => by
    simp at h
    subst h
    simp only [iw_eF, List.set_cons_zero]
    have e : ∀ (r : List (Option Nat)) (a : Nat), j < a → iw_eF ad f a r = iw_eF ad (upd f (j + 0) v) a r := by
      intro r
      induction r with
      | nil => intro a _; rfl
      | cons t r ih =>
        intro a ha
        cases t with
        | none => simp only [iw_eF]; rw [ih (a + 1) (by omega)]; rw [show upd f (j + 0) v a = f a from if_neg (by omega)]
        | some q => simp only [iw_eF]; rw [ih (a + 1) (by omega)]
    rw [e r (j + 1) (by omega)]
    rw [show upd f (j + 0) v j = v from if_pos (by omega)]
  | none :: r, j, i + 1, h => by
    simp only [iw_eF, List.set_cons_succ]
    rw [iw_eF_wI r (j + 1) i (by simpa using h)]
    rw [show j + 1 + i = j + (i + 1) by omega]
    rw [show upd f (j + (i + 1)) v j = f j from if_neg (by omega)]
  | some q :: r, j, i + 1, h => by
    simp only [iw_eF, List.set_cons_succ]
    rw [iw_eF_wI r (j + 1) i (by simpa using h)]
    rw [show j + 1 + i = j + (i + 1) by omega]
theorem iw_ne_I {G : iw_G} {w : iw_W} {z : iw_M} {k i : Nat} {v : Int32} (j : Nat) (h : j ≠ k) : iw_eV G w (iw_wI z k i v) j = iw_eV G w z j := by
  simp only [iw_eV, iw_wI, if_neg h]
theorem iw_ne_L {G : iw_G} {w : iw_W} {z : iw_M} {k i : Nat} {v : Int64} (j : Nat) (h : j ≠ k) : iw_eV G w (iw_wL z k i v) j = iw_eV G w z j := by
  simp only [iw_eV, iw_wL, if_neg h]
theorem iw_inl {G : iw_G} {w : iw_W} {z : iw_M} {k : Nat} {q : Nat × List (Option Nat)} (h : w.1 k = .inl q) : iw_eV G w z k = .inr (q.1, iw_eF (iw_ad G) (z.1 k) 0 q.2) := by
  simp only [iw_eV, h]
theorem iw_inrI {G : iw_G} {w : iw_W} {z : iw_M} {k n : Nat} {ty : FieldType} (h : w.1 k = .inr (ty, n)) (ht : ty ≠ .long) : iw_eV G w z k = .inl (G.2.2.1 ty, n, .inl (z.1 k)) := by
  simp only [iw_eV, h, if_neg ht]
theorem iw_inrL {G : iw_G} {w : iw_W} {z : iw_M} {k n : Nat} (h : w.1 k = .inr (.long, n)) : iw_eV G w z k = .inl (G.2.2.1 .long, n, .inr (.inl (z.2 k))) := by
  simp only [iw_eV, h]; rfl
/-- the cells of a world -/
def iw_A (G : iw_G) (w : iw_W) : Nat → Prop := fun q => ∃ k, k < w.2 ∧ q = iw_ad G k
def iw_inj (G : iw_G) (w : iw_W) : Prop := ∀ i j, i < w.2 → j < w.2 → iw_ad G i = iw_ad G j → i = j
theorem iw_D {G : iw_G} {w : iw_W} (hi : iw_inj G w) (z : iw_M) : va_D (iw_A G w) (iw_wld G w z) := by
  have key : ∀ (k : Nat) (q : Nat × va_E), (iw_wld G w z)[k]? = some q → k < w.2 ∧ q.1 = iw_ad G k := by
    intro k q h
    by_cases hk : k < w.2
    · rw [iw_at hk] at h; cases h; exact ⟨hk, rfl⟩
    · simp [iw_wld, hk] at h
  refine ⟨fun i j p q h1 h2 h3 => ?_, fun k q h => ?_⟩
  · obtain ⟨a1, a2⟩ := key i p h1
    obtain ⟨b1, b2⟩ := key j q h2
    exact hi i j a1 b1 (by rw [← a2, ← b2, h3])
  · obtain ⟨a1, a2⟩ := key k q h
    exact ⟨k, a1, a2⟩
def iw_lo : Nat → Int32 | 0 => 1 | _ => 0
def iw_hi : Nat → Int32 | 0 => 40 | 1 => 1000 | 2 => 100 | _ => 99
/-- the two static rows -/
def iw_Z (A : Nat → Prop) (U : State) (H : Heap) : Prop := ∃ t1 t2 : Nat, (va_Z "IdeaWorks" "LEAST_SETTING" "[I" (.ref t1) A U H ∧ va_T .int t1 4 (fun j => .int (iw_lo j)) A U H) ∧ va_Z "IdeaWorks" "GREATEST_SETTING" "[I" (.ref t2) A U H ∧ va_T .int t2 4 (fun j => .int (iw_hi j)) A U H
theorem iw_Z.moved {A : Nat → Prop} {u U : State} {H : Heap} (hvm : u.vm.Alike U.vm) (h : iw_Z A u H) : iw_Z A U H := by
  obtain ⟨t1, t2, ⟨a, b⟩, c, d⟩ := h
  exact ⟨t1, t2, ⟨a.moved hvm, b.moved hvm⟩, c.moved hvm, d.moved hvm⟩
theorem iw_Z.kept {A : Nat → Prop} {U : State} {H H1 : Heap} (h : iw_Z A U H) (hq : ∀ a : Nat, a < H.size → ¬ A a → H1[a]? = H[a]?) : iw_Z A U H1 := by
  obtain ⟨t1, t2, ⟨a, b⟩, c, d⟩ := h
  exact ⟨t1, t2, ⟨a.kept hq, b.kept hq⟩, c.kept hq, d.kept hq⟩
/-- the two calls of a nest mate's private method -/
def iw_N (U : State) : Prop := va_Nw (.methodLinkNest RX2 36 yX8_has "IdeaWorks") U ∧ va_Nw (.methodLinkNest RX3 53 yX8_likeness "IdeaWorks") U
theorem iw_N.warm {s U : State} (hW : s.WarmedH U.vm) (h : iw_N s) : iw_N U := ⟨h.1.warmM hW, h.2.warmM hW⟩
theorem iw_N.same {s U : State} (e : s.vm = U.vm) (h : iw_N s) : iw_N U := ⟨va_Nw.same rfl e h.1, va_Nw.same rfl e h.2⟩
def iw_tys (G : iw_G) : List (ClassId × FieldType) := [(G.2.2.1 .int, .int), (G.2.2.1 .boolean, .boolean), (G.2.2.1 .long, .long)]
def iw_tbl : List Cond := lw_tbl.filter goodWord
theorem iw_in {w : Cond} (h : w ∈ lw_tbl) (g : goodWord w = true) : w ∈ iw_tbl := List.mem_filter.mpr ⟨h, g⟩
theorem iw_good {w : Cond} (h : w ∈ iw_tbl) : (w.onTables && w.keeps) = true ∨ ∃ ty, w = .arrayClass ty := good_of_word (List.mem_filter.mp h).2
theorem iw_GI {ws : List Cond} (h : ∀ w ∈ ws, w ∈ iw_tbl) : GoodIn iw_tbl ws := fun w hw => ⟨h w hw, iw_good (h w hw)⟩
/-- a state that a method begins in -/
def iw_Wd (G : iw_G) (w : iw_W) (z : iw_M) (U : State) : Prop := va_P G.2.1 vwCl (iw_wld G w z) U.heap ∧ va_K G.2.1 vwCl (iw_tys G) U ∧ iw_inj G w ∧ iw_Z (iw_A G w) U U.heap ∧ iw_N U
def iw_Q {r : Type} (G : iw_G) (w : iw_W) (em : r → Option Value) (v : r) (z : iw_M) : Array Value → State → Outcome → State → Prop := fun _ st oc t => (oc = .returned (em v) ∧ va_P G.2.1 vwCl (iw_wld G w z) t.heap) ∧ va_F (iw_A G w) st t
def iw_ei : Int32 → Option Value := fun v => some (.int v)
def iw_el : Int64 → Option Value := fun v => some (.long v)
def iw_ev : Unit → Option Value := fun _ => none
/-- a contract: where the function answers, the method returns that answer, and its memory -/
def iw_K {r : Type} (G : iw_G) (w : iw_W) (y : MethodName) (cc : ByteArray) (nL : Nat) (ret : Option FieldType) (fr lo : Nat) (em : r → Option Value) (av : List Value) (z : iw_M) (o : Option (r × iw_M)) : Prop :=
  ∀ (v : r) (z' : iw_M), o = some (v, z') → Met G.1 y (Cond.code y cc nL ret :: iw_tbl) { frames := fr, cells := 0, slots := 0, locals := lo } (va_Pc av (iw_Wd G w z)) (iw_Q G w em v z') 0 0 (iw_A G w)
abbrev iw_X : Type := Program × Env × State × MethodId × Array Value × List Frame × Method × Code
abbrev iw_B : Type := ByteArray × Nat × Room × String × Option FieldType
def iw_C (G : iw_G) (w : iw_W) (X : iw_X) (B : iw_B) : Prop :=
  X.1.tables.exec = Jvm.exec ∧ X.2.2.2.2.2.2.2.code = B.1 ∧ X.2.2.2.2.2.2.2.maxLocals = B.2.1 ∧ X.2.2.1.vm.findClass B.2.2.2.1 = some X.2.2.2.1.cls ∧ (∀ c ∈ iw_tbl, c.before X.2.2.2.2.1 X.2.2.1 = true) ∧ va_K G.2.1 vwCl (iw_tys G) X.2.2.1 ∧ iw_inj G w ∧ iw_Z (iw_A G w) X.2.2.1 X.2.2.1.heap ∧ iw_N X.2.2.1 ∧ X.2.2.2.2.2.2.1.locks = false ∧ X.2.2.2.2.2.2.1.sig.returnType = B.2.2.2.2
/-- the judgement -/
def iw_V {r : Type} (G : iw_G) (w : iw_W) (X : iw_X) (B : iw_B) (em : r → Option Value) (pc : Nat) (lv : List (Nat × Value)) (st : List Value) (z : iw_M) (o : Option (r × iw_M)) : Prop :=
  ∀ (v : r) (z' : iw_M), o = some (v, z') → ∀ (H : Heap) (locs : List Loc) (ls : Array Slot), va_P G.2.1 vwCl (iw_wld G w z) H → va_S (iw_A G w) X.2.2.1.heap H locs → lv_has ls B.2.1 lv →
    W X.1 G.1 X.2.1 B.2.2.1 X.2.2.1 X.2.2.2.1 X.2.2.2.2.1 X.2.2.2.2.2.1 X.2.2.2.2.2.2.1 X.2.2.2.2.2.2.2 H locs 0 0 (MQ X.2.2.2.2.2.1 (iw_Q G w em v z') X.2.2.2.2.1 X.2.2.1 0 0 (iw_A G w)) (F0 X.2.2.2.1 pc ls st)
theorem iw_of {r : Type} {G : iw_G} {w : iw_W} {y : MethodName} {cc : ByteArray} {nL : Nat} {ret : Option FieldType} {fr lo : Nat} {em : r → Option Value} {av : List Value} {z : iw_M} {o : Option (r × iw_M)} (lv : List (Nat × Value)) (hy : plainName y.cls = true) (hn : (lg_sl av).length ≤ nL) (hlv : lv_args 0 av = lv)
    (body : ∀ X : iw_X, iw_C G w X (cc, nL, { frames := fr, cells := 0, slots := 0, locals := lo }, y.cls, ret) → iw_V G w X (cc, nL, { frames := fr, cells := 0, slots := 0, locals := lo }, y.cls, ret) em 0 lv [] z o) : iw_K G w y cc nL ret fr lo em av z o := by
  intro v z' ho
  refine Met.ofW (cc := cc) (maxL := nL) (ret := ret) hy rfl ?_
  intro p e s m args below meth c s₁ B hml hv
  obtain ⟨rfl, hP, hK, hi, hZ, hN⟩ := hv
  have hts := atoms_spec (ws := Cond.code y cc nL ret :: iw_tbl) B.pre
  have hown : s.vm.findClass y.cls = some m.cls := findClass_of_methodNamed B.named
  have hl := lv_entry av (n := nL) hn
  rw [lg_entry_eq]
  rw [hlv] at hl
  exact body (p, e, s, m, av.toArray, below, meth, c) ⟨B.exec, B.bytes, hml, hown, fun c hc => hts c (List.mem_cons_of_mem _ hc), hK, hi, hZ, hN, B.notSynchronized, B.returns⟩ v z' ho s.heap [] _ hP va_S.rf hl
end
section
section IWR
variable {r : Type} {G : iw_G} {w : iw_W} {X : iw_X} {B : iw_B} {em : r → Option Value} {pc : Nat} {lv : List (Nat × Value)} {st : List Value} {z : iw_M} {o o1 o2 : Option (r × iw_M)}
def iw_ok (i : Int32) (n : Nat) : Bool := !decide (i < 0) && decide (i.toNatClampNeg < n)
theorem iw_ok_in {i : Int32} {n : Nat} (h : iw_ok i n = true) : vp_in i n := by
  simp only [iw_ok, Bool.and_eq_true, Bool.not_eq_true', decide_eq_false_iff_not, decide_eq_true_eq] at h
  exact fun q => q.elim h.1 (fun q => by omega)
theorem iw_some {c : Prop} {inst : Decidable c} {q : r × iw_M} (h : @ite _ c inst o none = some q) : c ∧ o = some q := by
  by_cases hc : c
  · rw [if_pos hc] at h; exact ⟨hc, h⟩
  · rw [if_neg hc] at h; cases h
theorem iw_some2 {c : Prop} {inst : Decidable c} {q : r × iw_M} (h : @ite _ c inst none o = some q) : ¬ c ∧ o = some q := by
  by_cases hc : c
  · rw [if_pos hc] at h; cases h
  · rw [if_neg hc] at h; exact ⟨hc, h⟩
theorem V_none : iw_V G w X B em pc lv st z none := fun _ _ h => by cases h
theorem V_sub (lv' : List (Nat × Value)) (ks : List Nat) (hl : lv_pick lv ks = lv') (kk : iw_V G w X B em pc lv' st z o) : iw_V G w X B em pc lv st z o :=
  fun v z' ho H locs ls hP hS hh => kk v z' ho H locs ls hP hS (lv_sub hh ks hl)
theorem V_ic {n : Int} {x : Int32} (hC : iw_C G w X B) (hdg : decode B.1 pc = .ok (.iconst n, 1)) (hv : Int32.ofInt n = x) (kk : iw_V G w X B em (pc + 1) lv (.int x :: st) z o) : iw_V G w X B em pc lv st z o := by
  intro v z' ho H locs ls hP hS hl
  obtain ⟨hx, hb, hml, hown, hts, hK, hi, hZ, hN, hlk, hr⟩ := hC
  exact lv_iconst hx hb hdg hv (kk v z' ho H locs ls hP hS hl)
theorem V_bip {n : Int} {x : Int32} (hC : iw_C G w X B) (hdg : decode B.1 pc = .ok (.bipush n, 2)) (hv : (Int8.ofInt n).toInt32 = x) (kk : iw_V G w X B em (pc + 2) lv (.int x :: st) z o) : iw_V G w X B em pc lv st z o := by
  intro v z' ho H locs ls hP hS hl
  obtain ⟨hx, hb, hml, hown, hts, hK, hi, hZ, hN, hlk, hr⟩ := hC
  exact lv_bipush hx hb hdg hv (kk v z' ho H locs ls hP hS hl)
theorem V_sip {n : Int} {x : Int32} (hC : iw_C G w X B) (hdg : decode B.1 pc = .ok (.sipush n, 3)) (hv : (Int16.ofInt n).toInt32 = x) (kk : iw_V G w X B em (pc + 3) lv (.int x :: st) z o) : iw_V G w X B em pc lv st z o := by
  intro v z' ho H locs ls hP hS hl
  obtain ⟨hx, hb, hml, hown, hts, hK, hi, hZ, hN, hlk, hr⟩ := hC
  exact lv_sipush hx hb hdg hv (kk v z' ho H locs ls hP hS hl)
theorem V_lc {n : Fin 2} {x : Int64} (hC : iw_C G w X B) (hdg : decode B.1 pc = .ok (.lconst n, 1)) (hv : Int64.ofNat (n : Nat) = x) (kk : iw_V G w X B em (pc + 1) lv (.long x :: st) z o) : iw_V G w X B em pc lv st z o := by
  intro v z' ho H locs ls hP hS hl
  obtain ⟨hx, hb, hml, hown, hts, hK, hi, hZ, hN, hlk, hr⟩ := hC
  exact lv_lconst hx hb hdg hv (kk v z' ho H locs ls hP hS hl)
theorem V_ldc {n : Nat} {x : Int32} (hC : iw_C G w X B) (hdg : decode B.1 pc = .ok (.ldc n, 2)) (hc : Cond.constant B.2.2.2.1 n x ∈ iw_tbl) (kk : iw_V G w X B em (pc + 2) lv (.int x :: st) z o) : iw_V G w X B em pc lv st z o := by
  intro v z' ho H locs ls hP hS hl
  obtain ⟨hx, hb, hml, hown, hts, hK, hi, hZ, hN, hlk, hr⟩ := hC
  exact lv_ldc hx hb hown (hts _ hc) hdg (kk v z' ho H locs ls hP hS hl)
theorem V_ldcw {n : Nat} {x : Int32} (hC : iw_C G w X B) (hdg : decode B.1 pc = .ok (.ldc_w n, 3)) (hc : Cond.constant B.2.2.2.1 n x ∈ iw_tbl) (kk : iw_V G w X B em (pc + 3) lv (.int x :: st) z o) : iw_V G w X B em pc lv st z o := by
  intro v z' ho H locs ls hP hS hl
  obtain ⟨hx, hb, hml, hown, hts, hK, hi, hZ, hN, hlk, hr⟩ := hC
  exact lv_ldcw hx hb hown (hts _ hc) hdg (kk v z' ho H locs ls hP hS hl)
theorem V_ldc2 {n : Nat} {x : Int64} (hC : iw_C G w X B) (hdg : decode B.1 pc = .ok (.ldc2_w n, 3)) (hc : Cond.constantLong B.2.2.2.1 n x ∈ iw_tbl) (kk : iw_V G w X B em (pc + 3) lv (.long x :: st) z o) : iw_V G w X B em pc lv st z o := by
  intro v z' ho H locs ls hP hS hl
  obtain ⟨hx, hb, hml, hown, hts, hK, hi, hZ, hN, hlk, hr⟩ := hC
  exact lv_ldc2 hx hb hown (hts _ hc) hdg (kk v z' ho H locs ls hP hS hl)
theorem V_iln {n : Fin 4} {x : Int32} (hC : iw_C G w X B) (hdg : decode B.1 pc = .ok (.iload_n n, 1)) (k : Nat) (hk : lv[k]? = some ((n : Nat), .int x)) (kk : iw_V G w X B em (pc + 1) lv (.int x :: st) z o) : iw_V G w X B em pc lv st z o := by
  intro v z' ho H locs ls hP hS hl
  obtain ⟨hx, hb, hml, hown, hts, hK, hi, hZ, hN, hlk, hr⟩ := hC
  exact lv_iload_n hx hb hdg rfl (lv_at hl k hk) (kk v z' ho H locs ls hP hS hl)
theorem V_il {n : Nat} {x : Int32} (hC : iw_C G w X B) (hdg : decode B.1 pc = .ok (.iload n, 2)) (k : Nat) (hk : lv[k]? = some (n, .int x)) (kk : iw_V G w X B em (pc + 2) lv (.int x :: st) z o) : iw_V G w X B em pc lv st z o := by
  intro v z' ho H locs ls hP hS hl
  obtain ⟨hx, hb, hml, hown, hts, hK, hi, hZ, hN, hlk, hr⟩ := hC
  exact lv_iload hx hb hdg (lv_at hl k hk) (kk v z' ho H locs ls hP hS hl)
theorem V_lln {n : Fin 4} {x : Int64} (hC : iw_C G w X B) (hdg : decode B.1 pc = .ok (.lload_n n, 1)) (k : Nat) (hk : lv[k]? = some ((n : Nat), .long x)) (kk : iw_V G w X B em (pc + 1) lv (.long x :: st) z o) : iw_V G w X B em pc lv st z o := by
  intro v z' ho H locs ls hP hS hl
  obtain ⟨hx, hb, hml, hown, hts, hK, hi, hZ, hN, hlk, hr⟩ := hC
  exact lv_lload_n hx hb hdg rfl (lv_at hl k hk) (kk v z' ho H locs ls hP hS hl)
theorem V_ll {n : Nat} {x : Int64} (hC : iw_C G w X B) (hdg : decode B.1 pc = .ok (.lload n, 2)) (k : Nat) (hk : lv[k]? = some (n, .long x)) (kk : iw_V G w X B em (pc + 2) lv (.long x :: st) z o) : iw_V G w X B em pc lv st z o := by
  intro v z' ho H locs ls hP hS hl
  obtain ⟨hx, hb, hml, hown, hts, hK, hi, hZ, hN, hlk, hr⟩ := hC
  exact lv_lload hx hb hdg (lv_at hl k hk) (kk v z' ho H locs ls hP hS hl)
theorem V_aln {n : Fin 4} {x : Nat} (hC : iw_C G w X B) (hdg : decode B.1 pc = .ok (.aload_n n, 1)) (k : Nat) (hk : lv[k]? = some ((n : Nat), .ref x)) (kk : iw_V G w X B em (pc + 1) lv (.ref x :: st) z o) : iw_V G w X B em pc lv st z o := by
  intro v z' ho H locs ls hP hS hl
  obtain ⟨hx, hb, hml, hown, hts, hK, hi, hZ, hN, hlk, hr⟩ := hC
  exact lv_aload_n hx hb hdg rfl (lv_at hl k hk) (kk v z' ho H locs ls hP hS hl)
theorem V_al {n : Nat} {x : Nat} (hC : iw_C G w X B) (hdg : decode B.1 pc = .ok (.aload n, 2)) (k : Nat) (hk : lv[k]? = some (n, .ref x)) (kk : iw_V G w X B em (pc + 2) lv (.ref x :: st) z o) : iw_V G w X B em pc lv st z o := by
  intro v z' ho H locs ls hP hS hl
  obtain ⟨hx, hb, hml, hown, hts, hK, hi, hZ, hN, hlk, hr⟩ := hC
  exact lv_aload hx hb hdg (lv_at hl k hk) (kk v z' ho H locs ls hP hS hl)
theorem V_isn {n : Fin 4} {x : Int32} (lv' : List (Nat × Value)) (hC : iw_C G w X B) (hdg : decode B.1 pc = .ok (.istore_n n, 1)) (hn : (n : Nat) < B.2.1) (hl' : ((n : Nat), Value.int x) :: lv.filter (fun q => !(q.1 == (n : Nat)) && !(q.1 + 1 == (n : Nat) && q.2.category == 2)) = lv') (kk : iw_V G w X B em (pc + 1) lv' st z o) : iw_V G w X B em pc lv (.int x :: st) z o := by
  intro v z' ho H locs ls hP hS hl
  obtain ⟨hx, hb, hml, hown, hts, hK, hi, hZ, hN, hlk, hr⟩ := hC
  exact lv_istore_n hx hb hdg rfl hl hn hl' (fun ls hl => (kk v z' ho H locs ls hP hS hl))
theorem V_is {n : Nat} {x : Int32} (lv' : List (Nat × Value)) (hC : iw_C G w X B) (hdg : decode B.1 pc = .ok (.istore n, 2)) (hn : n < B.2.1) (hl' : (n, Value.int x) :: lv.filter (fun q => !(q.1 == n) && !(q.1 + 1 == n && q.2.category == 2)) = lv') (kk : iw_V G w X B em (pc + 2) lv' st z o) : iw_V G w X B em pc lv (.int x :: st) z o := by
  intro v z' ho H locs ls hP hS hl
  obtain ⟨hx, hb, hml, hown, hts, hK, hi, hZ, hN, hlk, hr⟩ := hC
  exact lv_istore hx hb hdg hl hn hl' (fun ls hl => (kk v z' ho H locs ls hP hS hl))
theorem V_lsn {n : Fin 4} {x : Int64} (lv' : List (Nat × Value)) (hC : iw_C G w X B) (hdg : decode B.1 pc = .ok (.lstore_n n, 1)) (hn : (n : Nat) + 1 < B.2.1) (hl' : ((n : Nat), Value.long x) :: lv.filter (fun q => !(q.1 == (n : Nat)) && (!(q.1 == (n : Nat) + 1) && !(q.1 + 1 == (n : Nat) && q.2.category == 2))) = lv') (kk : iw_V G w X B em (pc + 1) lv' st z o) : iw_V G w X B em pc lv (.long x :: st) z o := by
  intro v z' ho H locs ls hP hS hl
  obtain ⟨hx, hb, hml, hown, hts, hK, hi, hZ, hN, hlk, hr⟩ := hC
  exact lv_lstore_n hx hb hdg rfl hl hn hl' (fun ls hl => (kk v z' ho H locs ls hP hS hl))
theorem V_ls {n : Nat} {x : Int64} (lv' : List (Nat × Value)) (hC : iw_C G w X B) (hdg : decode B.1 pc = .ok (.lstore n, 2)) (hn : n + 1 < B.2.1) (hl' : (n, Value.long x) :: lv.filter (fun q => !(q.1 == n) && (!(q.1 == n + 1) && !(q.1 + 1 == n && q.2.category == 2))) = lv') (kk : iw_V G w X B em (pc + 2) lv' st z o) : iw_V G w X B em pc lv (.long x :: st) z o := by
  intro v z' ho H locs ls hP hS hl
  obtain ⟨hx, hb, hml, hown, hts, hK, hi, hZ, hN, hlk, hr⟩ := hC
  exact lv_lstore hx hb hdg hl hn hl' (fun ls hl => (kk v z' ho H locs ls hP hS hl))
theorem V_asn {n : Fin 4} {x : Nat} (lv' : List (Nat × Value)) (hC : iw_C G w X B) (hdg : decode B.1 pc = .ok (.astore_n n, 1)) (hn : (n : Nat) < B.2.1) (hl' : ((n : Nat), Value.ref x) :: lv.filter (fun q => !(q.1 == (n : Nat)) && !(q.1 + 1 == (n : Nat) && q.2.category == 2)) = lv') (kk : iw_V G w X B em (pc + 1) lv' st z o) : iw_V G w X B em pc lv (.ref x :: st) z o := by
  intro v z' ho H locs ls hP hS hl
  obtain ⟨hx, hb, hml, hown, hts, hK, hi, hZ, hN, hlk, hr⟩ := hC
  exact lv_astore_n hx hb hdg rfl hl hn hl' (fun ls hl => (kk v z' ho H locs ls hP hS hl))
theorem V_as {n : Nat} {x : Nat} (lv' : List (Nat × Value)) (hC : iw_C G w X B) (hdg : decode B.1 pc = .ok (.astore n, 2)) (hn : n < B.2.1) (hl' : (n, Value.ref x) :: lv.filter (fun q => !(q.1 == n) && !(q.1 + 1 == n && q.2.category == 2)) = lv') (kk : iw_V G w X B em (pc + 2) lv' st z o) : iw_V G w X B em pc lv (.ref x :: st) z o := by
  intro v z' ho H locs ls hP hS hl
  obtain ⟨hx, hb, hml, hown, hts, hK, hi, hZ, hN, hlk, hr⟩ := hC
  exact lv_astore hx hb hdg hl hn hl' (fun ls hl => (kk v z' ho H locs ls hP hS hl))
theorem V_inc {i k : Nat} {n : Int} {x y : Int32} (lv' : List (Nat × Value)) (hC : iw_C G w X B) (hdg : decode B.1 pc = .ok (.iinc i n, 3)) (hk : lv[k]? = some (i, .int x)) (hy : Int32.ofInt n = y) (hn : i < B.2.1) (hl' : (i, Value.int (x + y)) :: lv.filter (fun q => !(q.1 == i) && !(q.1 + 1 == i && q.2.category == 2)) = lv') (kk : iw_V G w X B em (pc + 3) lv' st z o) : iw_V G w X B em pc lv st z o := by
  intro v z' ho H locs ls hP hS hl
  obtain ⟨hx, hb, hml, hown, hts, hK, hi, hZ, hN, hlk, hr⟩ := hC
  exact lv_iinc hx hb hdg hl hk (by rw [hy]) hn hl' (fun ls hl => (kk v z' ho H locs ls hP hS hl))
theorem V_iadd {x y : Int32} (hC : iw_C G w X B) (hdg : decode B.1 pc = .ok (.iadd, 1))  (kk : iw_V G w X B em (pc + 1) lv (.int (x + y) :: st) z o) : iw_V G w X B em pc lv (.int y :: .int x :: st) z o := by
  intro v z' ho H locs ls hP hS hl
  obtain ⟨hx, hb, hml, hown, hts, hK, hi, hZ, hN, hlk, hr⟩ := hC
  exact lv_iadd hx hb hdg (kk v z' ho H locs ls hP hS hl)
theorem V_isub {x y : Int32} (hC : iw_C G w X B) (hdg : decode B.1 pc = .ok (.isub, 1))  (kk : iw_V G w X B em (pc + 1) lv (.int (x - y) :: st) z o) : iw_V G w X B em pc lv (.int y :: .int x :: st) z o := by
  intro v z' ho H locs ls hP hS hl
  obtain ⟨hx, hb, hml, hown, hts, hK, hi, hZ, hN, hlk, hr⟩ := hC
  exact lv_isub hx hb hdg (kk v z' ho H locs ls hP hS hl)
theorem V_imul {x y : Int32} (hC : iw_C G w X B) (hdg : decode B.1 pc = .ok (.imul, 1))  (kk : iw_V G w X B em (pc + 1) lv (.int (x * y) :: st) z o) : iw_V G w X B em pc lv (.int y :: .int x :: st) z o := by
  intro v z' ho H locs ls hP hS hl
  obtain ⟨hx, hb, hml, hown, hts, hK, hi, hZ, hN, hlk, hr⟩ := hC
  exact lv_imul hx hb hdg (kk v z' ho H locs ls hP hS hl)
theorem V_iand {x y : Int32} (hC : iw_C G w X B) (hdg : decode B.1 pc = .ok (.iand, 1))  (kk : iw_V G w X B em (pc + 1) lv (.int (x &&& y) :: st) z o) : iw_V G w X B em pc lv (.int y :: .int x :: st) z o := by
  intro v z' ho H locs ls hP hS hl
  obtain ⟨hx, hb, hml, hown, hts, hK, hi, hZ, hN, hlk, hr⟩ := hC
  exact lv_iand hx hb hdg (kk v z' ho H locs ls hP hS hl)
theorem V_ior {x y : Int32} (hC : iw_C G w X B) (hdg : decode B.1 pc = .ok (.ior, 1))  (kk : iw_V G w X B em (pc + 1) lv (.int (x ||| y) :: st) z o) : iw_V G w X B em pc lv (.int y :: .int x :: st) z o := by
  intro v z' ho H locs ls hP hS hl
  obtain ⟨hx, hb, hml, hown, hts, hK, hi, hZ, hN, hlk, hr⟩ := hC
  exact lv_ior hx hb hdg (kk v z' ho H locs ls hP hS hl)
theorem V_ixor {x y : Int32} (hC : iw_C G w X B) (hdg : decode B.1 pc = .ok (.ixor, 1))  (kk : iw_V G w X B em (pc + 1) lv (.int (x ^^^ y) :: st) z o) : iw_V G w X B em pc lv (.int y :: .int x :: st) z o := by
  intro v z' ho H locs ls hP hS hl
  obtain ⟨hx, hb, hml, hown, hts, hK, hi, hZ, hN, hlk, hr⟩ := hC
  exact lv_ixor hx hb hdg (kk v z' ho H locs ls hP hS hl)
theorem V_ishr {x y : Int32} (hC : iw_C G w X B) (hdg : decode B.1 pc = .ok (.ishr, 1))  (kk : iw_V G w X B em (pc + 1) lv (.int (x >>> (y &&& 31)) :: st) z o) : iw_V G w X B em pc lv (.int y :: .int x :: st) z o := by
  intro v z' ho H locs ls hP hS hl
  obtain ⟨hx, hb, hml, hown, hts, hK, hi, hZ, hN, hlk, hr⟩ := hC
  exact lv_ishr hx hb hdg (kk v z' ho H locs ls hP hS hl)
theorem V_iushr {x y : Int32} (hC : iw_C G w X B) (hdg : decode B.1 pc = .ok (.iushr, 1))  (kk : iw_V G w X B em (pc + 1) lv (.int ((x.toUInt32 >>> (y.toUInt32 &&& Int32.toUInt32 31)).toInt32) :: st) z o) : iw_V G w X B em pc lv (.int y :: .int x :: st) z o := by
  intro v z' ho H locs ls hP hS hl
  obtain ⟨hx, hb, hml, hown, hts, hK, hi, hZ, hN, hlk, hr⟩ := hC
  exact lv_iushr hx hb hdg rfl (kk v z' ho H locs ls hP hS hl)
theorem V_ineg {x : Int32} (hC : iw_C G w X B) (hdg : decode B.1 pc = .ok (.ineg, 1))  (kk : iw_V G w X B em (pc + 1) lv (.int (-x) :: st) z o) : iw_V G w X B em pc lv (.int x :: st) z o := by
  intro v z' ho H locs ls hP hS hl
  obtain ⟨hx, hb, hml, hown, hts, hK, hi, hZ, hN, hlk, hr⟩ := hC
  exact lv_ineg hx hb hdg (kk v z' ho H locs ls hP hS hl)
theorem V_ladd {x y : Int64} (hC : iw_C G w X B) (hdg : decode B.1 pc = .ok (.ladd, 1))  (kk : iw_V G w X B em (pc + 1) lv (.long (x + y) :: st) z o) : iw_V G w X B em pc lv (.long y :: .long x :: st) z o := by
  intro v z' ho H locs ls hP hS hl
  obtain ⟨hx, hb, hml, hown, hts, hK, hi, hZ, hN, hlk, hr⟩ := hC
  exact lv_ladd hx hb hdg (kk v z' ho H locs ls hP hS hl)
theorem V_lsub {x y : Int64} (hC : iw_C G w X B) (hdg : decode B.1 pc = .ok (.lsub, 1))  (kk : iw_V G w X B em (pc + 1) lv (.long (x - y) :: st) z o) : iw_V G w X B em pc lv (.long y :: .long x :: st) z o := by
  intro v z' ho H locs ls hP hS hl
  obtain ⟨hx, hb, hml, hown, hts, hK, hi, hZ, hN, hlk, hr⟩ := hC
  exact lv_lsub hx hb hdg (kk v z' ho H locs ls hP hS hl)
theorem V_land {x y : Int64} (hC : iw_C G w X B) (hdg : decode B.1 pc = .ok (.land, 1))  (kk : iw_V G w X B em (pc + 1) lv (.long (x &&& y) :: st) z o) : iw_V G w X B em pc lv (.long y :: .long x :: st) z o := by
  intro v z' ho H locs ls hP hS hl
  obtain ⟨hx, hb, hml, hown, hts, hK, hi, hZ, hN, hlk, hr⟩ := hC
  exact lv_land hx hb hdg (kk v z' ho H locs ls hP hS hl)
theorem V_lor {x y : Int64} (hC : iw_C G w X B) (hdg : decode B.1 pc = .ok (.lor, 1))  (kk : iw_V G w X B em (pc + 1) lv (.long (x ||| y) :: st) z o) : iw_V G w X B em pc lv (.long y :: .long x :: st) z o := by
  intro v z' ho H locs ls hP hS hl
  obtain ⟨hx, hb, hml, hown, hts, hK, hi, hZ, hN, hlk, hr⟩ := hC
  exact lv_lor hx hb hdg (kk v z' ho H locs ls hP hS hl)
theorem V_lxor {x y : Int64} (hC : iw_C G w X B) (hdg : decode B.1 pc = .ok (.lxor, 1))  (kk : iw_V G w X B em (pc + 1) lv (.long (x ^^^ y) :: st) z o) : iw_V G w X B em pc lv (.long y :: .long x :: st) z o := by
  intro v z' ho H locs ls hP hS hl
  obtain ⟨hx, hb, hml, hown, hts, hK, hi, hZ, hN, hlk, hr⟩ := hC
  exact lv_lxor hx hb hdg (kk v z' ho H locs ls hP hS hl)
theorem V_lushr {x : Int64} {y : Int32} (hC : iw_C G w X B) (hdg : decode B.1 pc = .ok (.lushr, 1))  (kk : iw_V G w X B em (pc + 1) lv (.long ((x.toUInt64 >>> (y.toInt64.toUInt64 &&& Int64.toUInt64 63)).toInt64) :: st) z o) : iw_V G w X B em pc lv (.int y :: .long x :: st) z o := by
  intro v z' ho H locs ls hP hS hl
  obtain ⟨hx, hb, hml, hown, hts, hK, hi, hZ, hN, hlk, hr⟩ := hC
  exact lv_lushr hx hb hdg rfl (kk v z' ho H locs ls hP hS hl)
theorem V_lshl {x : Int64} {y : Int32} (hC : iw_C G w X B) (hdg : decode B.1 pc = .ok (.lshl, 1))  (kk : iw_V G w X B em (pc + 1) lv (.long (x <<< (y.toInt64 &&& 63)) :: st) z o) : iw_V G w X B em pc lv (.int y :: .long x :: st) z o := by
  intro v z' ho H locs ls hP hS hl
  obtain ⟨hx, hb, hml, hown, hts, hK, hi, hZ, hN, hlk, hr⟩ := hC
  exact lv_lshl hx hb hdg rfl (kk v z' ho H locs ls hP hS hl)
theorem V_lcmp {x y : Int64} (hC : iw_C G w X B) (hdg : decode B.1 pc = .ok (.lcmp, 1))  (kk : iw_V G w X B em (pc + 1) lv (.int (lg_cmp x y) :: st) z o) : iw_V G w X B em pc lv (.long y :: .long x :: st) z o := by
  intro v z' ho H locs ls hP hS hl
  obtain ⟨hx, hb, hml, hown, hts, hK, hi, hZ, hN, hlk, hr⟩ := hC
  exact W.lcmp hx hb hdg (kk v z' ho H locs ls hP hS hl)
theorem V_l2i {x : Int64} (hC : iw_C G w X B) (hdg : decode B.1 pc = .ok (.l2i, 1))  (kk : iw_V G w X B em (pc + 1) lv (.int x.toInt32 :: st) z o) : iw_V G w X B em pc lv (.long x :: st) z o := by
  intro v z' ho H locs ls hP hS hl
  obtain ⟨hx, hb, hml, hown, hts, hK, hi, hZ, hN, hlk, hr⟩ := hC
  exact lv_l2i hx hb hdg rfl (kk v z' ho H locs ls hP hS hl)
theorem V_idiv {x y : Int32} {inst : Decidable (y = 0)} (hC : iw_C G w X B) (hdg : decode B.1 pc = .ok (.idiv, 1))  (kk : iw_V G w X B em (pc + 1) lv (.int (x / y) :: st) z o) : iw_V G w X B em pc lv (.int y :: .int x :: st) z (@ite _ (y = 0) inst none o) := by
  intro v z' ho H locs ls hP hS hl
  obtain ⟨hx, hb, hml, hown, hts, hK, hi, hZ, hN, hlk, hr⟩ := hC
  have ho := iw_some2 ho
  exact lv_idiv hx hb hdg ho.1 (kk v z' ho.2 H locs ls hP hS hl)
theorem V_irem {x y : Int32} {inst : Decidable (y = 0)} (hC : iw_C G w X B) (hdg : decode B.1 pc = .ok (.irem, 1))  (kk : iw_V G w X B em (pc + 1) lv (.int (x - x / y * y) :: st) z o) : iw_V G w X B em pc lv (.int y :: .int x :: st) z (@ite _ (y = 0) inst none o) := by
  intro v z' ho H locs ls hP hS hl
  obtain ⟨hx, hb, hml, hown, hts, hK, hi, hZ, hN, hlk, hr⟩ := hC
  have ho := iw_some2 ho
  exact lv_irem hx hb hdg ho.1 (kk v z' ho.2 H locs ls hP hS hl)
theorem V_dup {a : Value} (hC : iw_C G w X B) (hdg : decode B.1 pc = .ok (.dup, 1)) (ha : a.category = 1) (kk : iw_V G w X B em (pc + 1) lv (a :: a :: st) z o) : iw_V G w X B em pc lv (a :: st) z o := by
  intro v z' ho H locs ls hP hS hl
  obtain ⟨hx, hb, hml, hown, hts, hK, hi, hZ, hN, hlk, hr⟩ := hC
  exact lv_dup hx hb hdg ha (kk v z' ho H locs ls hP hS hl)
theorem V_pop {a : Value} (hC : iw_C G w X B) (hdg : decode B.1 pc = .ok (.pop, 1)) (ha : a.category = 1) (kk : iw_V G w X B em (pc + 1) lv st z o) : iw_V G w X B em pc lv (a :: st) z o := by
  intro v z' ho H locs ls hP hS hl
  obtain ⟨hx, hb, hml, hown, hts, hK, hi, hZ, hN, hlk, hr⟩ := hC
  exact lv_pop hx hb hdg ha (kk v z' ho H locs ls hP hS hl)
theorem V_dupx1 {a b : Value} (hC : iw_C G w X B) (hdg : decode B.1 pc = .ok (.dup_x1, 1)) (ha : a.category = 1) (hb9 : b.category = 1) (kk : iw_V G w X B em (pc + 1) lv (a :: b :: a :: st) z o) : iw_V G w X B em pc lv (a :: b :: st) z o := by
  intro v z' ho H locs ls hP hS hl
  obtain ⟨hx, hb, hml, hown, hts, hK, hi, hZ, hN, hlk, hr⟩ := hC
  exact lv_dup_x1 hx hb hdg ha hb9 (kk v z' ho H locs ls hP hS hl)
theorem V_dupx2 {a b c : Value} (hC : iw_C G w X B) (hdg : decode B.1 pc = .ok (.dup_x2, 1)) (ha : a.category = 1) (hb9 : b.category = 1) (hc9 : c.category = 1) (kk : iw_V G w X B em (pc + 1) lv (a :: b :: c :: a :: st) z o) : iw_V G w X B em pc lv (a :: b :: c :: st) z o := by
  intro v z' ho H locs ls hP hS hl
  obtain ⟨hx, hb, hml, hown, hts, hK, hi, hZ, hN, hlk, hr⟩ := hC
  exact lv_dup_x2 hx hb hdg ha hb9 hc9 (kk v z' ho H locs ls hP hS hl)
theorem V_dup2 {a b : Value} (hC : iw_C G w X B) (hdg : decode B.1 pc = .ok (.dup2, 1)) (ha : a.category = 1) (hb9 : b.category = 1) (kk : iw_V G w X B em (pc + 1) lv (a :: b :: a :: b :: st) z o) : iw_V G w X B em pc lv (a :: b :: st) z o := by
  intro v z' ho H locs ls hP hS hl
  obtain ⟨hx, hb, hml, hown, hts, hK, hi, hZ, hN, hlk, hr⟩ := hC
  exact lv_dup2_11 hx hb hdg ha hb9 (kk v z' ho H locs ls hP hS hl)
theorem V_goto {off : Int} (tgt : Nat) (hC : iw_C G w X B) (hdg : decode B.1 pc = .ok (.goto off, 3)) (ht : (pc : Int) + off = (tgt : Int)) (kk : iw_V G w X B em tgt lv st z o) : iw_V G w X B em pc lv st z o := by
  intro v z' ho H locs ls hP hS hl
  obtain ⟨hx, hb, hml, hown, hts, hK, hi, hZ, hN, hlk, hr⟩ := hC
  exact lv_goto hx hb hdg ht (kk v z' ho H locs ls hP hS hl)
theorem V_ieq {x : Int32} {off : Int} {inst : Decidable (x = 0)} (tgt : Nat) (hC : iw_C G w X B) (hdg : decode B.1 pc = .ok (.ifCond .eq off, 3)) (ht : (pc : Int) + off = (tgt : Int)) (kt : iw_V G w X B em tgt lv st z o1) (kf : iw_V G w X B em (pc + 3) lv st z o2) : iw_V G w X B em pc lv (.int x :: st) z (@ite _ (x = 0) inst o1 o2) := by
  intro v z' ho H locs ls hP hS hl
  obtain ⟨hx, hb, hml, hown, hts, hK, hi, hZ, hN, hlk, hr⟩ := hC
  exact lv_if_eq hx hb hdg ht (fun c => kt v z' (by rw [if_pos c] at ho; exact ho) H locs ls hP hS hl) (fun c => kf v z' (by rw [if_neg c] at ho; exact ho) H locs ls hP hS hl)
theorem V_ceq {x y : Int32} {off : Int} {inst : Decidable (x = y)} (tgt : Nat) (hC : iw_C G w X B) (hdg : decode B.1 pc = .ok (.if_icmp .eq off, 3)) (ht : (pc : Int) + off = (tgt : Int)) (kt : iw_V G w X B em tgt lv st z o1) (kf : iw_V G w X B em (pc + 3) lv st z o2) : iw_V G w X B em pc lv (.int y :: .int x :: st) z (@ite _ (x = y) inst o1 o2) := by
  intro v z' ho H locs ls hP hS hl
  obtain ⟨hx, hb, hml, hown, hts, hK, hi, hZ, hN, hlk, hr⟩ := hC
  exact lv_icmp_eq hx hb hdg ht (fun c => kt v z' (by rw [if_pos c] at ho; exact ho) H locs ls hP hS hl) (fun c => kf v z' (by rw [if_neg c] at ho; exact ho) H locs ls hP hS hl)
theorem V_ine {x : Int32} {off : Int} {inst : Decidable (x = 0)} (tgt : Nat) (hC : iw_C G w X B) (hdg : decode B.1 pc = .ok (.ifCond .ne off, 3)) (ht : (pc : Int) + off = (tgt : Int)) (kt : iw_V G w X B em tgt lv st z o1) (kf : iw_V G w X B em (pc + 3) lv st z o2) : iw_V G w X B em pc lv (.int x :: st) z (@ite _ (x = 0) inst o2 o1) := by
  intro v z' ho H locs ls hP hS hl
  obtain ⟨hx, hb, hml, hown, hts, hK, hi, hZ, hN, hlk, hr⟩ := hC
  exact lv_if_ne hx hb hdg ht (fun c => kt v z' (by rw [if_neg c] at ho; exact ho) H locs ls hP hS hl) (fun c => kf v z' (by rw [if_pos c] at ho; exact ho) H locs ls hP hS hl)
theorem V_cne {x y : Int32} {off : Int} {inst : Decidable (x = y)} (tgt : Nat) (hC : iw_C G w X B) (hdg : decode B.1 pc = .ok (.if_icmp .ne off, 3)) (ht : (pc : Int) + off = (tgt : Int)) (kt : iw_V G w X B em tgt lv st z o1) (kf : iw_V G w X B em (pc + 3) lv st z o2) : iw_V G w X B em pc lv (.int y :: .int x :: st) z (@ite _ (x = y) inst o2 o1) := by
  intro v z' ho H locs ls hP hS hl
  obtain ⟨hx, hb, hml, hown, hts, hK, hi, hZ, hN, hlk, hr⟩ := hC
  exact lv_icmp_ne hx hb hdg ht (fun c => kt v z' (by rw [if_neg c] at ho; exact ho) H locs ls hP hS hl) (fun c => kf v z' (by rw [if_pos c] at ho; exact ho) H locs ls hP hS hl)
theorem V_ilt {x : Int32} {off : Int} {inst : Decidable (x < 0)} (tgt : Nat) (hC : iw_C G w X B) (hdg : decode B.1 pc = .ok (.ifCond .lt off, 3)) (ht : (pc : Int) + off = (tgt : Int)) (kt : iw_V G w X B em tgt lv st z o1) (kf : iw_V G w X B em (pc + 3) lv st z o2) : iw_V G w X B em pc lv (.int x :: st) z (@ite _ (x < 0) inst o1 o2) := by
  intro v z' ho H locs ls hP hS hl
  obtain ⟨hx, hb, hml, hown, hts, hK, hi, hZ, hN, hlk, hr⟩ := hC
  exact lv_if_lt hx hb hdg ht (fun c => kt v z' (by rw [if_pos c] at ho; exact ho) H locs ls hP hS hl) (fun c => kf v z' (by rw [if_neg c] at ho; exact ho) H locs ls hP hS hl)
theorem V_clt {x y : Int32} {off : Int} {inst : Decidable (x < y)} (tgt : Nat) (hC : iw_C G w X B) (hdg : decode B.1 pc = .ok (.if_icmp .lt off, 3)) (ht : (pc : Int) + off = (tgt : Int)) (kt : iw_V G w X B em tgt lv st z o1) (kf : iw_V G w X B em (pc + 3) lv st z o2) : iw_V G w X B em pc lv (.int y :: .int x :: st) z (@ite _ (x < y) inst o1 o2) := by
  intro v z' ho H locs ls hP hS hl
  obtain ⟨hx, hb, hml, hown, hts, hK, hi, hZ, hN, hlk, hr⟩ := hC
  exact lv_icmp_lt hx hb hdg ht (fun c => kt v z' (by rw [if_pos c] at ho; exact ho) H locs ls hP hS hl) (fun c => kf v z' (by rw [if_neg c] at ho; exact ho) H locs ls hP hS hl)
theorem V_ige {x : Int32} {off : Int} {inst : Decidable (0 ≤ x)} (tgt : Nat) (hC : iw_C G w X B) (hdg : decode B.1 pc = .ok (.ifCond .ge off, 3)) (ht : (pc : Int) + off = (tgt : Int)) (kt : iw_V G w X B em tgt lv st z o1) (kf : iw_V G w X B em (pc + 3) lv st z o2) : iw_V G w X B em pc lv (.int x :: st) z (@ite _ (0 ≤ x) inst o1 o2) := by
  intro v z' ho H locs ls hP hS hl
  obtain ⟨hx, hb, hml, hown, hts, hK, hi, hZ, hN, hlk, hr⟩ := hC
  exact lv_if_ge hx hb hdg ht (fun c => kt v z' (by rw [if_pos c] at ho; exact ho) H locs ls hP hS hl) (fun c => kf v z' (by rw [if_neg c] at ho; exact ho) H locs ls hP hS hl)
theorem V_cge {x y : Int32} {off : Int} {inst : Decidable (y ≤ x)} (tgt : Nat) (hC : iw_C G w X B) (hdg : decode B.1 pc = .ok (.if_icmp .ge off, 3)) (ht : (pc : Int) + off = (tgt : Int)) (kt : iw_V G w X B em tgt lv st z o1) (kf : iw_V G w X B em (pc + 3) lv st z o2) : iw_V G w X B em pc lv (.int y :: .int x :: st) z (@ite _ (y ≤ x) inst o1 o2) := by
  intro v z' ho H locs ls hP hS hl
  obtain ⟨hx, hb, hml, hown, hts, hK, hi, hZ, hN, hlk, hr⟩ := hC
  exact lv_icmp_ge hx hb hdg ht (fun c => kt v z' (by rw [if_pos c] at ho; exact ho) H locs ls hP hS hl) (fun c => kf v z' (by rw [if_neg c] at ho; exact ho) H locs ls hP hS hl)
theorem V_igt {x : Int32} {off : Int} {inst : Decidable (0 < x)} (tgt : Nat) (hC : iw_C G w X B) (hdg : decode B.1 pc = .ok (.ifCond .gt off, 3)) (ht : (pc : Int) + off = (tgt : Int)) (kt : iw_V G w X B em tgt lv st z o1) (kf : iw_V G w X B em (pc + 3) lv st z o2) : iw_V G w X B em pc lv (.int x :: st) z (@ite _ (0 < x) inst o1 o2) := by
  intro v z' ho H locs ls hP hS hl
  obtain ⟨hx, hb, hml, hown, hts, hK, hi, hZ, hN, hlk, hr⟩ := hC
  exact lv_if_gt hx hb hdg ht (fun c => kt v z' (by rw [if_pos c] at ho; exact ho) H locs ls hP hS hl) (fun c => kf v z' (by rw [if_neg c] at ho; exact ho) H locs ls hP hS hl)
theorem V_cgt {x y : Int32} {off : Int} {inst : Decidable (y < x)} (tgt : Nat) (hC : iw_C G w X B) (hdg : decode B.1 pc = .ok (.if_icmp .gt off, 3)) (ht : (pc : Int) + off = (tgt : Int)) (kt : iw_V G w X B em tgt lv st z o1) (kf : iw_V G w X B em (pc + 3) lv st z o2) : iw_V G w X B em pc lv (.int y :: .int x :: st) z (@ite _ (y < x) inst o1 o2) := by
  intro v z' ho H locs ls hP hS hl
  obtain ⟨hx, hb, hml, hown, hts, hK, hi, hZ, hN, hlk, hr⟩ := hC
  exact lv_icmp_gt hx hb hdg ht (fun c => kt v z' (by rw [if_pos c] at ho; exact ho) H locs ls hP hS hl) (fun c => kf v z' (by rw [if_neg c] at ho; exact ho) H locs ls hP hS hl)
theorem V_ile {x : Int32} {off : Int} {inst : Decidable (x ≤ 0)} (tgt : Nat) (hC : iw_C G w X B) (hdg : decode B.1 pc = .ok (.ifCond .le off, 3)) (ht : (pc : Int) + off = (tgt : Int)) (kt : iw_V G w X B em tgt lv st z o1) (kf : iw_V G w X B em (pc + 3) lv st z o2) : iw_V G w X B em pc lv (.int x :: st) z (@ite _ (x ≤ 0) inst o1 o2) := by
  intro v z' ho H locs ls hP hS hl
  obtain ⟨hx, hb, hml, hown, hts, hK, hi, hZ, hN, hlk, hr⟩ := hC
  exact lv_if_le hx hb hdg ht (fun c => kt v z' (by rw [if_pos c] at ho; exact ho) H locs ls hP hS hl) (fun c => kf v z' (by rw [if_neg c] at ho; exact ho) H locs ls hP hS hl)
theorem V_cle {x y : Int32} {off : Int} {inst : Decidable (x ≤ y)} (tgt : Nat) (hC : iw_C G w X B) (hdg : decode B.1 pc = .ok (.if_icmp .le off, 3)) (ht : (pc : Int) + off = (tgt : Int)) (kt : iw_V G w X B em tgt lv st z o1) (kf : iw_V G w X B em (pc + 3) lv st z o2) : iw_V G w X B em pc lv (.int y :: .int x :: st) z (@ite _ (x ≤ y) inst o1 o2) := by
  intro v z' ho H locs ls hP hS hl
  obtain ⟨hx, hb, hml, hown, hts, hK, hi, hZ, hN, hlk, hr⟩ := hC
  exact lv_icmp_le hx hb hdg ht (fun c => kt v z' (by rw [if_pos c] at ho; exact ho) H locs ls hP hS hl) (fun c => kf v z' (by rw [if_neg c] at ho; exact ho) H locs ls hP hS hl)
end IWR
section IWT
variable {G : iw_G} {w : iw_W} {X : iw_X} {B : iw_B} {pc : Nat} {lv : List (Nat × Value)} {z : iw_M}
theorem V_ir {x : Int32} (hC : iw_C G w X B) (hdg : decode B.1 pc = .ok (.ireturn, 1)) (hrt : B.2.2.2.2 = some .int) : iw_V G w X B iw_ei pc lv [.int x] z (some (x, z)) := by
  intro v z' ho H locs ls hP hS hl
  obtain ⟨hx, hb, hml, hown, hts, hK, hi, hZ, hN, hlk, hr⟩ := hC
  cases ho
  exact W.iret hx hb (hr.trans hrt) (fun t ht hW => ⟨⟨rfl, by rw [ht]; exact hP⟩, hS.F ht⟩) hS.2.2 hdg
theorem V_zr {x : Int32} (hC : iw_C G w X B) (hdg : decode B.1 pc = .ok (.ireturn, 1)) (hrt : B.2.2.2.2 = some .boolean) (hn : narrow .boolean (.int x) = .int x) : iw_V G w X B iw_ei pc lv [.int x] z (some (x, z)) := by
  intro v z' ho H locs ls hP hS hl
  obtain ⟨hx, hb, hml, hown, hts, hK, hi, hZ, hN, hlk, hr⟩ := hC
  cases ho
  exact W.zret hx hb (hr.trans hrt) hn (fun t ht hW => ⟨⟨rfl, by rw [ht]; exact hP⟩, hS.F ht⟩) hS.2.2 hdg
theorem V_lr {x : Int64} (hC : iw_C G w X B) (hdg : decode B.1 pc = .ok (.lreturn, 1)) (hrt : B.2.2.2.2 = some .long) : iw_V G w X B iw_el pc lv [.long x] z (some (x, z)) := by
  intro v z' ho H locs ls hP hS hl
  obtain ⟨hx, hb, hml, hown, hts, hK, hi, hZ, hN, hlk, hr⟩ := hC
  cases ho
  exact W.lret hx hb (hr.trans hrt) (fun t ht hW => ⟨⟨rfl, by rw [ht]; exact hP⟩, hS.F ht⟩) hS.2.2 hdg
theorem V_vr (hC : iw_C G w X B) (hdg : decode B.1 pc = .ok (.return_, 1)) (hrt : B.2.2.2.2 = none) : iw_V G w X B iw_ev pc lv [] z (some ((), z)) := by
  intro v z' ho H locs ls hP hS hl
  obtain ⟨hx, hb, hml, hown, hts, hK, hi, hZ, hN, hlk, hr⟩ := hC
  cases ho
  exact W.vret hx hb (hr.trans hrt) (fun t ht hW => ⟨⟨rfl, by rw [ht]; exact hP⟩, hS.F ht⟩) hS.2.2 hdg
end IWT
section IWF
variable {r : Type} {G : iw_G} {w : iw_W} {X : iw_X} {B : iw_B} {em : r → Option Value} {pc : Nat} {lv : List (Nat × Value)} {st : List Value} {z : iw_M} {o o1 o2 : Option (r × iw_M)}
/-- a field that an instruction names: class own's pool entry idx is the field j of class number ci -/
def iw_FL (own : String) (idx ci j : Nat) : Prop := ∃ (C : String) (T : u_T) (N : Nat), vwCl[ci]? = some (C, T, N) ∧ j < N ∧ Cond.fieldLink own idx (T j).1 (T j).2.1 (T j).2.2.1 ∈ iw_tbl ∧ ∀ c ∈ u_ws C T N, c ∈ iw_tbl
def iw_FP (own : String) (idx ci j : Nat) : Prop := ∃ (C : String) (T : u_T) (N : Nat) (ty : Nat → FieldType), vwCl[ci]? = some (C, T, N) ∧ j < N ∧ Cond.fieldLink own idx (T j).1 (T j).2.1 (T j).2.2.1 ∈ iw_tbl ∧ (∀ c ∈ u_ws C T N, c ∈ iw_tbl) ∧ (∀ k, k < N → parseFieldDescriptor (T k).2.2.1 = some (ty k)) ∧ (∀ a, a < N → ∀ b, b < N → a ≠ b → (T a).2.1 ≠ (T b).2.1) ∧ (T j).2.2.2 = false ∧ parseFieldDescriptor (T j).2.2.1 = some .int
theorem V_gi {k idx ci j : Nat} {fl : List (Option Nat)} (hC : iw_C G w X B) (hf : iw_FL B.2.2.2.1 idx ci j) (hk : k < w.2) (hs : w.1 k = .inl (ci, fl)) (hj : fl[j]? = some none) (hdg : decode B.1 pc = .ok (.getfield idx, 3)) (kk : iw_V G w X B em (pc + 3) lv (.int (z.1 k j) :: st) z o) : iw_V G w X B em pc lv (.ref (iw_ad G k) :: st) z o := by
  intro v z' ho H locs ls hP hS hl
  obtain ⟨hx, hb, hml, hown, hts, hK, hi, hZ, hN, hlk, hr⟩ := hC
  obtain ⟨C, T, N, h1, h2, h3, h4⟩ := hf
  exact va_get (D := G.2.1) (a := iw_ad G k) hx hb hts h4 hown hK hP k (by rw [iw_at hk, iw_inl hs]) h1 j h2 (hts _ h3) (fun _ h => h) (v := .int (z.1 k j)) (by rw [iw_eF_get, hj]; simp) hdg (kk v z' ho H locs ls hP hS hl)
theorem V_gr {k idx ci j q : Nat} {fl : List (Option Nat)} (hC : iw_C G w X B) (hf : iw_FL B.2.2.2.1 idx ci j) (hk : k < w.2) (hs : w.1 k = .inl (ci, fl)) (hj : fl[j]? = some (some q)) (hdg : decode B.1 pc = .ok (.getfield idx, 3)) (kk : iw_V G w X B em (pc + 3) lv (.ref (iw_ad G q) :: st) z o) : iw_V G w X B em pc lv (.ref (iw_ad G k) :: st) z o := by
  intro v z' ho H locs ls hP hS hl
  obtain ⟨hx, hb, hml, hown, hts, hK, hi, hZ, hN, hlk, hr⟩ := hC
  obtain ⟨C, T, N, h1, h2, h3, h4⟩ := hf
  exact va_get (D := G.2.1) (a := iw_ad G k) hx hb hts h4 hown hK hP k (by rw [iw_at hk, iw_inl hs]) h1 j h2 (hts _ h3) (fun _ h => h) (v := .ref (iw_ad G q)) (by rw [iw_eF_get, hj]; simp) hdg (kk v z' ho H locs ls hP hS hl)
theorem V_pi {k idx ci j : Nat} {fl : List (Option Nat)} {x : Int32} (hC : iw_C G w X B) (hf : iw_FP B.2.2.2.1 idx ci j) (hk : k < w.2) (hs : w.1 k = .inl (ci, fl)) (hj : fl[j]? = some none) (hdg : decode B.1 pc = .ok (.putfield idx, 3)) (kk : iw_V G w X B em (pc + 3) lv st (iw_wI z k j x) o) : iw_V G w X B em pc lv (.int x :: .ref (iw_ad G k) :: st) z o := by
  intro v z' ho H locs ls hP hS hl
  obtain ⟨hx, hb, hml, hown, hts, hK, hi, hZ, hN, hlk, hr⟩ := hC
  obtain ⟨C, T, N, ty, h1, h2, h3, h4, h5, h6, h7, h8⟩ := hf
  have hjl : j < fl.length := (List.getElem?_eq_some_iff.mp hj).1
  refine va_put (D := G.2.1) (a := iw_ad G k) (A := iw_A G w) (ty := .int) (v := .int x) hx hb hts h4 ty h5 h6 hown hK hP (iw_D hi z) hS k (by rw [iw_at hk, iw_inl hs]) h1 j h2 (hts _ h3) (fun _ h => h) h7 h8 rfl rfl (by rw [iw_eF_len]; exact hjl) hdg (fun H1 locs1 hP1 _ hS1 => ?_)
  refine kk v z' ho H1 locs1 ls ?_ hS1 hl
  rw [← iw_set hk (z := z) (fun j hj => iw_ne_I j hj), iw_inl hs]
  rw [show iw_eF (iw_ad G) ((iw_wI z k j x).1 k) 0 fl = (iw_eF (iw_ad G) (z.1 k) 0 fl).set j (.int x) by rw [iw_eF_wI fl 0 j hj]; simp [iw_wI]]
  exact hP1
theorem V_ia {k n : Nat} {i : Int32} {inst : Decidable (iw_ok i n = true)} (hC : iw_C G w X B) (hk : k < w.2) (hs : w.1 k = .inr (.int, n)) (hdg : decode B.1 pc = .ok (.iaload, 1)) (kk : iw_V G w X B em (pc + 1) lv (.int (z.1 k i.toNatClampNeg) :: st) z o) : iw_V G w X B em pc lv (.int i :: .ref (iw_ad G k) :: st) z (@ite _ (iw_ok i n = true) inst o none) := by
  intro v z' ho H locs ls hP hS hl
  obtain ⟨hx, hb, hml, hown, hts, hK, hi, hZ, hN, hlk, hr⟩ := hC
  have ho := iw_some ho
  exact va_iald (D := G.2.1) hx hb hK hP k 0 (cA := G.2.2.1 .int) (n := n) (f := z.1 k) (by rw [iw_at hk, iw_inrI hs (by decide)]) rfl (iw_ok_in ho.1) hdg (kk v z' ho.2 H locs ls hP hS hl)
theorem V_ba {k n : Nat} {i : Int32} {inst : Decidable (iw_ok i n = true)} (hC : iw_C G w X B) (hk : k < w.2) (hs : w.1 k = .inr (.boolean, n)) (hdg : decode B.1 pc = .ok (.baload, 1)) (kk : iw_V G w X B em (pc + 1) lv (.int (z.1 k i.toNatClampNeg) :: st) z o) : iw_V G w X B em pc lv (.int i :: .ref (iw_ad G k) :: st) z (@ite _ (iw_ok i n = true) inst o none) := by
  intro v z' ho H locs ls hP hS hl
  obtain ⟨hx, hb, hml, hown, hts, hK, hi, hZ, hN, hlk, hr⟩ := hC
  have ho := iw_some ho
  exact va_zald (D := G.2.1) hx hb hK hP k 1 (cA := G.2.2.1 .boolean) (n := n) (f := z.1 k) (by rw [iw_at hk, iw_inrI hs (by decide)]) rfl (iw_ok_in ho.1) hdg (kk v z' ho.2 H locs ls hP hS hl)
theorem V_la {k n : Nat} {i : Int32} {inst : Decidable (iw_ok i n = true)} (hC : iw_C G w X B) (hk : k < w.2) (hs : w.1 k = .inr (.long, n)) (hdg : decode B.1 pc = .ok (.laload, 1)) (kk : iw_V G w X B em (pc + 1) lv (.long (z.2 k i.toNatClampNeg) :: st) z o) : iw_V G w X B em pc lv (.int i :: .ref (iw_ad G k) :: st) z (@ite _ (iw_ok i n = true) inst o none) := by
  intro v z' ho H locs ls hP hS hl
  obtain ⟨hx, hb, hml, hown, hts, hK, hi, hZ, hN, hlk, hr⟩ := hC
  have ho := iw_some ho
  exact va_lald (D := G.2.1) hx hb hK hP k 2 (cA := G.2.2.1 .long) (n := n) (f := z.2 k) (by rw [iw_at hk, iw_inrL hs]) rfl (iw_ok_in ho.1) hdg (kk v z' ho.2 H locs ls hP hS hl)
theorem V_is_ {k n : Nat} {i x : Int32} {inst : Decidable (iw_ok i n = true)} (hC : iw_C G w X B) (hk : k < w.2) (hs : w.1 k = .inr (.int, n)) (hdg : decode B.1 pc = .ok (.iastore, 1)) (kk : iw_V G w X B em (pc + 1) lv st (iw_wI z k i.toNatClampNeg x) o) : iw_V G w X B em pc lv (.int x :: .int i :: .ref (iw_ad G k) :: st) z (@ite _ (iw_ok i n = true) inst o none) := by
  intro v z' ho H locs ls hP hS hl
  obtain ⟨hx, hb, hml, hown, hts, hK, hi, hZ, hN, hlk, hr⟩ := hC
  have ho := iw_some ho
  refine va_iast (D := G.2.1) (A := iw_A G w) hx hb hK hP (iw_D hi z) hS k 0 (cA := G.2.2.1 .int) (n := n) (f := z.1 k) (by rw [iw_at hk, iw_inrI hs (by decide)]) rfl (iw_ok_in ho.1) hdg (fun H1 locs1 hP1 _ hS1 => ?_)
  refine kk v z' ho.2 H1 locs1 ls ?_ hS1 hl
  rw [← iw_set hk (z := z) (fun j hj => iw_ne_I j hj), iw_inrI hs (by decide)]
  rw [show (iw_wI z k i.toNatClampNeg x).1 k = upd (z.1 k) i.toNatClampNeg x by simp [iw_wI]]
  exact hP1
theorem V_bs_ {k n : Nat} {i x : Int32} {inst : Decidable (iw_ok i n = true)} (hC : iw_C G w X B) (hk : k < w.2) (hs : w.1 k = .inr (.boolean, n)) (hdg : decode B.1 pc = .ok (.bastore, 1)) (kk : iw_V G w X B em (pc + 1) lv st (iw_wI z k i.toNatClampNeg (vp_nar .boolean x)) o) : iw_V G w X B em pc lv (.int x :: .int i :: .ref (iw_ad G k) :: st) z (@ite _ (iw_ok i n = true) inst o none) := by
  intro v z' ho H locs ls hP hS hl
  obtain ⟨hx, hb, hml, hown, hts, hK, hi, hZ, hN, hlk, hr⟩ := hC
  have ho := iw_some ho
  refine va_zast (D := G.2.1) (A := iw_A G w) hx hb hK hP (iw_D hi z) hS k 1 (cA := G.2.2.1 .boolean) (n := n) (f := z.1 k) (by rw [iw_at hk, iw_inrI hs (by decide)]) rfl (iw_ok_in ho.1) hdg (fun H1 locs1 hP1 _ hS1 => ?_)
  refine kk v z' ho.2 H1 locs1 ls ?_ hS1 hl
  rw [← iw_set hk (z := z) (fun j hj => iw_ne_I j hj), iw_inrI hs (by decide)]
  rw [show (iw_wI z k i.toNatClampNeg (vp_nar .boolean x)).1 k = upd (z.1 k) i.toNatClampNeg (vp_nar .boolean x) by simp [iw_wI]]
  exact hP1
theorem V_ls_ {k n : Nat} {i : Int32} {x : Int64} {inst : Decidable (iw_ok i n = true)} (hC : iw_C G w X B) (hk : k < w.2) (hs : w.1 k = .inr (.long, n)) (hdg : decode B.1 pc = .ok (.lastore, 1)) (kk : iw_V G w X B em (pc + 1) lv st (iw_wL z k i.toNatClampNeg x) o) : iw_V G w X B em pc lv (.long x :: .int i :: .ref (iw_ad G k) :: st) z (@ite _ (iw_ok i n = true) inst o none) := by
  intro v z' ho H locs ls hP hS hl
  obtain ⟨hx, hb, hml, hown, hts, hK, hi, hZ, hN, hlk, hr⟩ := hC
  have ho := iw_some ho
  refine va_last (D := G.2.1) (A := iw_A G w) hx hb hK hP (iw_D hi z) hS k 2 (cA := G.2.2.1 .long) (n := n) (f := z.2 k) (by rw [iw_at hk, iw_inrL hs]) rfl (iw_ok_in ho.1) hdg (fun H1 locs1 hP1 _ hS1 => ?_)
  refine kk v z' ho.2 H1 locs1 ls ?_ hS1 hl
  rw [← iw_set hk (z := z) (fun j hj => iw_ne_L j hj), iw_inrL hs]
  rw [show (iw_wL z k i.toNatClampNeg x).2 k = vp_updL (z.2 k) i.toNatClampNeg x by simp [iw_wL]]
  exact hP1
theorem V_len {k n : Nat} {x : Int32} (hC : iw_C G w X B) (hk : k < w.2) (hs : w.1 k = .inr (.int, n)) (hx9 : Int32.ofNat n = x) (hdg : decode B.1 pc = .ok (.arraylength, 1)) (kk : iw_V G w X B em (pc + 1) lv (.int x :: st) z o) : iw_V G w X B em pc lv (.ref (iw_ad G k) :: st) z o := by
  intro v z' ho H locs ls hP hS hl
  obtain ⟨hx, hb, hml, hown, hts, hK, hi, hZ, hN, hlk, hr⟩ := hC
  exact va_alen (D := G.2.1) hx hb hK hP k 0 (cA := G.2.2.1 .int) (x := (n, .inl (z.1 k))) (by rw [iw_at hk, iw_inrI hs (by decide)]) rfl hx9 hdg (kk v z' ho H locs ls hP hS hl)
theorem V_gs1 {idx : Nat} (hC : iw_C G w X B) (hlink : Cond.fieldLink B.2.2.2.1 idx "IdeaWorks" "LEAST_SETTING" "[I" ∈ iw_tbl) (hdg : decode B.1 pc = .ok (.getstatic idx, 3)) (kk : ∀ t : Nat, va_T .int t 4 (fun j => .int (iw_lo j)) (iw_A G w) X.2.2.1 X.2.2.1.heap → iw_V G w X B em (pc + 3) lv (.ref t :: st) z o) : iw_V G w X B em pc lv st z o := by
  intro v z' ho H locs ls hP hS hl
  obtain ⟨hx, hb, hml, hown, hts, hK, hi, ⟨t1, t2, ⟨a, b⟩, c, d⟩, hN, hlk, hr⟩ := hC
  exact va_gets hx hb a hS hown (hts _ hlink) (fun _ h => h) hdg (kk t1 b v z' ho H locs ls hP hS hl)
theorem V_gs2 {idx : Nat} (hC : iw_C G w X B) (hlink : Cond.fieldLink B.2.2.2.1 idx "IdeaWorks" "GREATEST_SETTING" "[I" ∈ iw_tbl) (hdg : decode B.1 pc = .ok (.getstatic idx, 3)) (kk : ∀ t : Nat, va_T .int t 4 (fun j => .int (iw_hi j)) (iw_A G w) X.2.2.1 X.2.2.1.heap → iw_V G w X B em (pc + 3) lv (.ref t :: st) z o) : iw_V G w X B em pc lv st z o := by
  intro v z' ho H locs ls hP hS hl
  obtain ⟨hx, hb, hml, hown, hts, hK, hi, ⟨t1, t2, ⟨a, b⟩, c, d⟩, hN, hlk, hr⟩ := hC
  exact va_gets hx hb c hS hown (hts _ hlink) (fun _ h => h) hdg (kk t2 d v z' ho H locs ls hP hS hl)
theorem V_tl {t : Nat} {f : Nat → Int32} {i : Int32} {inst : Decidable (iw_ok i 4 = true)} (hC : iw_C G w X B) (hT : va_T .int t 4 (fun j => .int (f j)) (iw_A G w) X.2.2.1 X.2.2.1.heap) (hdg : decode B.1 pc = .ok (.iaload, 1)) (kk : iw_V G w X B em (pc + 1) lv (.int (f i.toNatClampNeg) :: st) z o) : iw_V G w X B em pc lv (.int i :: .ref t :: st) z (@ite _ (iw_ok i 4 = true) inst o none) := by
  intro v z' ho H locs ls hP hS hl
  obtain ⟨hx, hb, hml, hown, hts, hK, hi, hZ, hN, hlk, hr⟩ := hC
  have ho := iw_some ho
  exact va_ti hx hb hT hS (iw_ok_in ho.1) rfl hdg (kk v z' ho.2 H locs ls hP hS hl)
/-- Math.max, Math.min -/
def iw_max (x y : Int32) : Int32 := if x < y then y else x
def iw_min (x y : Int32) : Int32 := if y < x then y else x
def iw_MM (own : String) (idx : Nat) (y : MethodName) (cc : ByteArray) : Prop := Cond.methodLink own idx y ∈ iw_tbl ∧ Cond.static y ∈ iw_tbl ∧ Cond.initialized "java/lang/Math" ∈ iw_tbl ∧ Cond.code y cc 2 (some .int) ∈ iw_tbl
theorem V_max {idx : Nat} {x y : Int32} (hC : iw_C G w X B) (hm : iw_MM B.2.2.2.1 idx Lib.Math.max.name Lib.Math.max.code) (hR : 1 ≤ B.2.2.1.frames ∧ (st.map fun v => v.category).sum + 13 ≤ B.2.2.1.locals) (hdg : decode B.1 pc = .ok (.invokestatic idx, 3)) (kk : iw_V G w X B em (pc + 3) lv (.int (iw_max x y) :: st) z o) : iw_V G w X B em pc lv (.int y :: .int x :: st) z o := by
  intro v z' ho H locs ls hP hS hl
  obtain ⟨hx, hb, hml, hown, hts, hK, hi, hZ, hN, hlk, hr⟩ := hC
  exact va_mmax hx hb (hml.trans hl.1.symm) hown (hts _ hm.1) (hts _ hm.2.1) (hts _ hm.2.2.1) (hts _ hm.2.2.2) hR.1 hR.2 (Nat.zero_le _) (Nat.zero_le _) hdg (kk v z' ho H locs ls hP hS hl)
theorem V_min {idx : Nat} {x y : Int32} (hC : iw_C G w X B) (hm : iw_MM B.2.2.2.1 idx Lib.Math.min.name Lib.Math.min.code) (hR : 1 ≤ B.2.2.1.frames ∧ (st.map fun v => v.category).sum + 13 ≤ B.2.2.1.locals) (hdg : decode B.1 pc = .ok (.invokestatic idx, 3)) (kk : iw_V G w X B em (pc + 3) lv (.int (iw_min x y) :: st) z o) : iw_V G w X B em pc lv (.int y :: .int x :: st) z o := by
  intro v z' ho H locs ls hP hS hl
  obtain ⟨hx, hb, hml, hown, hts, hK, hi, hZ, hN, hlk, hr⟩ := hC
  exact va_mmin hx hb (hml.trans hl.1.symm) hown (hts _ hm.1) (hts _ hm.2.1) (hts _ hm.2.2.1) (hts _ hm.2.2.2) hR.1 hR.2 (Nat.zero_le _) (Nat.zero_le _) hdg (kk v z' ho H locs ls hP hS hl)
/-- switches -/
def iw_sw (x : Int32) : Int32 → List (Option (r × iw_M)) → Option (r × iw_M) → Option (r × iw_M)
  | _, [], d => d
  | k, a :: q, d => if x = k then a else iw_sw x (k + 1) q d
def iw_sA (P : Nat → Option (r × iw_M) → Prop) : List Nat → List (Option (r × iw_M)) → Prop
  | [], [] => True
  | t :: ts, a :: q => P t a ∧ iw_sA P ts q
  | _, _ => False
theorem iw_sA_get {P : Nat → Option (r × iw_M) → Prop} : ∀ (ts : List Nat) (os : List (Option (r × iw_M))), iw_sA P ts os → ts.length = os.length ∧ ∀ (j t : Nat) (a : Option (r × iw_M)), ts[j]? = some t → os[j]? = some a → P t a
  | [], [], _ => ⟨rfl, fun j t a h => by simp at h⟩
  | t :: ts, a :: q, h => by
    obtain ⟨h1, h2⟩ := iw_sA_get ts q h.2
    refine ⟨by simp [h1], fun j t' a' h3 h4 => ?_⟩
    cases j with
    | zero => simp at h3 h4; subst h3; subst h4; exact h.1
    | succ j => exact h2 j t' a' (by simpa using h3) (by simpa using h4)
  | [], _ :: _, h => h.elim
  | _ :: _, [], h => h.elim
theorem iw_sw_get {x : Int32} {d : Option (r × iw_M)} : ∀ (os : List (Option (r × iw_M))) (k : Nat), k + os.length < 2 ^ 31 → (∃ (j : Nat) (a : Option (r × iw_M)), os[j]? = some a ∧ x = nI (k + j) ∧ iw_sw x (nI k) os d = a) ∨ ((x.toInt < k ∨ (k : Int) + os.length ≤ x.toInt) ∧ iw_sw x (nI k) os d = d)
  | [], k, h => Or.inr ⟨by simp; omega, rfl⟩
  | a :: q, k, h => by
    simp only [List.length_cons] at h
    by_cases e : x = nI k
    · exact Or.inl ⟨0, a, by simp, by simpa using e, by simp only [iw_sw]; rw [if_pos e]⟩
    · have e2 : iw_sw x (nI k) (a :: q) d = iw_sw x (nI (k + 1)) q d := by simp only [iw_sw]; rw [if_neg e, nI_succ]
      rcases iw_sw_get q (k + 1) (by omega) with ⟨j, a', h1, h2, h3⟩ | ⟨h1, h2⟩
      · exact Or.inl ⟨j + 1, a', by simpa using h1, h2.trans (congrArg nI (by omega)), by rw [e2]; exact h3⟩
      · refine Or.inr ⟨?_, by rw [e2]; exact h2⟩
        have e3 : x.toInt ≠ (k : Int) := fun q => e (Int32.toInt_inj.mp (by rw [nI_toInt (by omega)]; exact q))
        simp only [List.length_cons]
        omega
theorem V_ts {x : Int32} {dflt hi : Int} {offs : Array Int} {len : Nat} {os : List (Option (r × iw_M))} (tg : List Nat) (td : Nat) (hC : iw_C G w X B) (hdg : decode B.1 pc = .ok (.tableswitch dflt 0 hi offs, len)) (hh : hi + 1 = tg.length ∧ tg.length < 1000) (ht : ∀ j, j < tg.length → (offs[j]?).map (fun f => (pc : Int) + f) = (tg[j]?).map (fun t => (t : Int))) (htd : (pc : Int) + dflt = (td : Int))
    (kd : iw_V G w X B em td lv st z o) (kk : iw_sA (fun t a => iw_V G w X B em t lv st z a) tg os) : iw_V G w X B em pc lv (.int x :: st) z (iw_sw x 0 os o) := by
  intro v z' ho H locs ls hP hS hl
  obtain ⟨hx, hb, hml, hown, hts, hK, hi, hZ, hN, hlk, hr⟩ := hC
  obtain ⟨g1, g2⟩ := iw_sA_get tg os kk
  rcases iw_sw_get (x := x) (d := o) os 0 (by omega) with ⟨j, a, h1, h2, h3⟩ | ⟨h1, h2⟩
  · have hj : j < os.length := (List.getElem?_eq_some_iff.mp h1).1
    rw [show (0 : Int32) = nI 0 from rfl, h3] at ho
    have hj2 : j < tg.length := by omega
    have e1 := ht j hj2
    have e2 : tg[j]? = some tg[j] := List.getElem?_eq_getElem hj2
    rw [e2] at e1
    cases e3 : offs[j]? with
    | none => rw [e3] at e1; cases e1
    | some f =>
      rw [e3] at e1
      have xi : x.toInt = (j : Int) := by rw [h2, nI_toInt (by omega)]; omega
      exact lv_tableIn hx hb hdg (by omega) (by omega) (off := f) (by rw [xi]; simpa using e3) (by simpa using e1) (g2 j _ a e2 h1 v z' ho H locs ls hP hS hl)
  · rw [show (0 : Int32) = nI 0 from rfl, h2] at ho
    exact lv_tableOut hx hb hdg (by omega) htd (kd v z' ho H locs ls hP hS hl)
theorem V_ls2 {x : Int32} {dflt o1' o2' : Int} {len : Nat} (t1 t2 td : Nat) (hC : iw_C G w X B) (hdg : decode B.1 pc = .ok (.lookupswitch dflt #[(0, o1'), (1, o2')], len)) (h1 : (pc : Int) + o1' = (t1 : Int)) (h2 : (pc : Int) + o2' = (t2 : Int)) (hd : (pc : Int) + dflt = (td : Int))
    (k1 : iw_V G w X B em t1 lv st z o1) (k2 : iw_V G w X B em t2 lv st z o2) (kd : iw_V G w X B em td lv st z o) : iw_V G w X B em pc lv (.int x :: st) z (iw_sw x 0 [o1, o2] o) := by
  intro v z' ho H locs ls hP hS hl
  obtain ⟨hx, hb, hml, hown, hts, hK, hi, hZ, hN, hlk, hr⟩ := hC
  by_cases c1 : x = 0
  · simp only [iw_sw] at ho
    rw [if_pos c1] at ho
    exact lv_lookup hx hb hdg rfl (off := o1') (by rw [c1]; rfl) h1 (k1 v z' ho H locs ls hP hS hl)
  · by_cases c2 : x = 1
    · simp only [iw_sw] at ho
      rw [if_neg c1, if_pos (by rw [c2]; rfl)] at ho
      exact lv_lookup hx hb hdg rfl (off := o2') (by rw [c2]; rfl) h2 (k2 v z' ho H locs ls hP hS hl)
    · simp only [iw_sw] at ho
      rw [if_neg c1, if_neg (show ¬ x = 0 + 1 from c2)] at ho
      refine lv_lookup hx hb hdg rfl (off := dflt) ?_ hd (kd v z' ho H locs ls hP hS hl)
      show Op.lookupswitch.offset [(0, o1'), (1, o2')] dflt x.toInt = dflt
      rw [lv_osw (a := 0) c1 (by decide), lv_osw (a := 1) c2 (by decide)]
      rfl
/-- calls -/
def iw_CV (own : String) (idx : Nat) (C : String) (y : MethodName) (cc : ByteArray) (nL : Nat) (ret : Option FieldType) (n : Nat) : Prop := (∀ c ∈ wsV own idx C y [Cond.code y cc nL ret], c ∈ iw_tbl) ∧ (y.cls = C ∧ y.cls ≠ "java/lang/invoke/MethodHandle" ∧ y.cls ≠ "java/lang/invoke/VarHandle" ∧ (parseMethodDescriptor y.desc).map (fun d => d.parameters.length) = some n)
def iw_CS (own : String) (idx : Nat) (y : MethodName) (cc : ByteArray) (nL : Nat) (ret : Option FieldType) (n : Nat) : Prop := (∀ c ∈ va_wsS own idx y [Cond.code y cc nL ret], c ∈ iw_tbl) ∧ (y.cls ≠ "java/lang/invoke/MethodHandle" ∧ y.cls ≠ "java/lang/invoke/VarHandle" ∧ (parseMethodDescriptor y.desc).map (fun d => d.parameters.length) = some n)
def iw_CN (own : String) (idx : Nat) (y : MethodName) (cc : ByteArray) (nL : Nat) (ret : Option FieldType) (n : Nat) : Prop := (Cond.static y ∈ iw_tbl ∧ Cond.initialized y.cls ∈ iw_tbl ∧ Cond.code y cc nL ret ∈ iw_tbl) ∧ (∀ U, iw_N U → va_Nw (.methodLinkNest own idx y "IdeaWorks") U) ∧ (y.cls ≠ "java/lang/invoke/MethodHandle" ∧ y.cls ≠ "java/lang/invoke/VarHandle" ∧ (parseMethodDescriptor y.desc).map (fun d => d.parameters.length) = some n)
theorem iw_blind {av : List Value} : FrameBlind (va_Pc av (iw_Wd G w z)) := by
  intro a U g mk q
  obtain ⟨q0, qP, qK, qi, qZ, qN⟩ := q
  exact ⟨q0, qP, va_K.moved (u := U) (U := U.calling g mk a) (Vm.Alike.refl U.vm) qK, qi, iw_Z.moved (u := U) (U := U.calling g mk a) (Vm.Alike.refl U.vm) qZ, iw_N.same (s := U) (U := U.calling g mk a) rfl qN⟩
theorem iw_pre {H : Heap} {locs : List Loc} {av : List Value} (hC : iw_C G w X B) (hP : va_P G.2.1 vwCl (iw_wld G w z) H) (hS : va_S (iw_A G w) X.2.2.1.heap H locs) : ∀ U : State, U.heap = H → X.2.2.1.WarmedH U.vm → va_Pc av (iw_Wd G w z) av.toArray U := by
  intro U hU hW
  obtain ⟨hx, hb, hml, hown, hts, hK, hi, hZ, hN, hlk, hr⟩ := hC
  exact ⟨rfl, by rw [hU]; exact hP, va_K.moved hW.alike hK, hi, by rw [hU]; exact (hZ.moved hW.alike).kept hS.2.1, hN.warm hW⟩
theorem iw_behind {r' : Type} {em' : r' → Option Value} {q : r' × iw_M} {H : Heap} {locs : List Loc} {ls : Array Slot} {st0 rest : List Value} {a : Array Value} {v : r} {z' : iw_M} (hl : lv_has ls B.2.1 lv) (hS : va_S (iw_A G w) X.2.2.1.heap H locs)
    (hr : va_Run X.1 G.1 X.2.1 B.2.2.1 X.2.2.1 X.2.2.2.1 X.2.2.2.2.1 X.2.2.2.2.2.1 X.2.2.2.2.2.2.1 X.2.2.2.2.2.2.2 H locs 0 0 0 0 (F0 X.2.2.2.1 pc ls st0) rest (iw_Q G w em' q.1 q.2 a) (iw_A G w)) (ho : o = some (v, z')) (kk : iw_V G w X B em (pc + 3) lv ((em' q.1).toList ++ rest) q.2 o) :
    W X.1 G.1 X.2.1 B.2.2.1 X.2.2.1 X.2.2.2.1 X.2.2.2.2.1 X.2.2.2.2.2.1 X.2.2.2.2.2.2.1 X.2.2.2.2.2.2.2 H locs 0 0 (MQ X.2.2.2.2.2.1 (iw_Q G w em v z') X.2.2.2.2.1 X.2.2.1 0 0 (iw_A G w)) (F0 X.2.2.2.1 pc ls st0) := by
  intro T hT XX
  obtain ⟨v1, st₀, t, T', L, h0, X', hL, e1, e2, ⟨⟨hv, hp⟩, hz, hk⟩, stp⟩ := hr T hT XX
  cases hv
  rw [h0] at hz hk
  obtain ⟨t2, a1, b1⟩ := kk v z' ho T'.heap (locs ++ L) ls (by rw [e1]; exact hp)
    ⟨Nat.le_trans hS.1 (by rw [e1]; exact hz), fun q h1 h2 => by rw [e1, hk q (Nat.lt_of_lt_of_le h1 hS.1) h2]; exact hS.2.1 q h1 h2, fun q hq => by
      rcases List.mem_append.mp hq with h | h
      · exact hS.2.2 q h
      · exact hL q h⟩ hl T' rfl X'
  exact ⟨t2, stp t2 a1, b1⟩
theorem V_cv {r' : Type} {em' : r' → Option Value} {y : MethodName} {cc : ByteArray} {nL fr lo n idx k ci : Nat} {ret : Option FieldType} {C : String} {T : u_T} {N : Nat} {fl : List (Option Nat)} {As : List Value} {oc : Option (r' × iw_M)} {g : r' × iw_M → Option (r × iw_M)} (rest : List Value) (hC : iw_C G w X B) (hV : iw_CV B.2.2.2.1 idx C y cc nL ret n) (hk : k < w.2) (hs : w.1 k = .inl (ci, fl)) (hcl : vwCl[ci]? = some (C, T, N))
    (K : iw_K G w y cc nL ret fr lo em' (.ref (iw_ad G k) :: As) z oc) (hst : st = As.reverse ++ .ref (iw_ad G k) :: rest) (hn : As.length = n) (hW : (rest.map fun v => v.category).sum ≤ 8) (hR : fr + 1 ≤ B.2.2.1.frames ∧ 8 + (nL + 11) + lo ≤ B.2.2.1.locals) (hdg : decode B.1 pc = .ok (.invokevirtual idx, 3))
    (kk : ∀ q : r' × iw_M, iw_V G w X B em (pc + 3) lv ((em' q.1).toList ++ rest) q.2 (g q)) : iw_V G w X B em pc lv st z (oc.bind g) := by
  intro v z' ho H locs ls hP hS hl
  have hC0 := hC
  obtain ⟨hx, hb, hml, hown, hts, hK, hi, hZ, hN, hlk, hr⟩ := hC
  obtain ⟨q, hq, hg⟩ := Option.bind_eq_some_iff.mp ho
  refine iw_behind hl hS (va_runV (C := C) (b := iw_ad G k) (As := As) (rest := rest) ⟨hx, hb, hml, hown, hts⟩ (K q.1 q.2 hq) (cwV n hts (iw_GI ?_) rfl rfl rfl hV.2 hR) ⟨iw_blind, ?_, iw_pre hC0 hP hS⟩ rfl hn hl.1 hst (lv_room hW) hdg ⟨Nat.zero_le _, Nat.zero_le _⟩) hg (kk q)
  · intro c hc
    rcases List.mem_append.mp (show c ∈ ([.methodLink B.2.2.2.1 idx y, .instanceMethod y, .selects C y y, .initialized C] : List Cond) ++ (Cond.code y cc nL ret :: iw_tbl) from hc) with h | h
    · exact hV.1 c (List.mem_append_left _ h)
    · rcases List.mem_cons.mp h with h | h
      · exact hV.1 c (List.mem_append_right _ (by rw [h]; exact List.mem_cons_self))
      · exact h
  · exact va_recv hK hP hcl (q0 := k) (by rw [iw_at hk, iw_inl hs])
theorem V_cs {r' : Type} {em' : r' → Option Value} {y : MethodName} {cc : ByteArray} {nL fr lo n idx : Nat} {ret : Option FieldType} {As : List Value} {oc : Option (r' × iw_M)} {g : r' × iw_M → Option (r × iw_M)} (rest : List Value) (hC : iw_C G w X B) (hV : iw_CS B.2.2.2.1 idx y cc nL ret n)
    (K : iw_K G w y cc nL ret fr lo em' As z oc) (hst : st = As.reverse ++ rest) (hn : As.length = n) (hW : (rest.map fun v => v.category).sum ≤ 8) (hR : fr + 1 ≤ B.2.2.1.frames ∧ 8 + (nL + 11) + lo ≤ B.2.2.1.locals) (hdg : decode B.1 pc = .ok (.invokestatic idx, 3))
    (kk : ∀ q : r' × iw_M, iw_V G w X B em (pc + 3) lv ((em' q.1).toList ++ rest) q.2 (g q)) : iw_V G w X B em pc lv st z (oc.bind g) := by
  intro v z' ho H locs ls hP hS hl
  have hC0 := hC
  obtain ⟨hx, hb, hml, hown, hts, hK, hi, hZ, hN, hlk, hr⟩ := hC
  obtain ⟨q, hq, hg⟩ := Option.bind_eq_some_iff.mp ho
  refine iw_behind hl hS (va_runS (As := As) (rest := rest) ⟨hx, hb, hml, hown, hts⟩ (K q.1 q.2 hq) (va_cwS n hts (iw_GI ?_) rfl rfl rfl hV.2 hR) ⟨iw_blind, iw_pre hC0 hP hS⟩ rfl hn hl.1 hst (lv_room hW) hdg ⟨Nat.zero_le _, Nat.zero_le _⟩) hg (kk q)
  intro c hc
  rcases List.mem_append.mp (show c ∈ ([.methodLink B.2.2.2.1 idx y, .static y, .initialized y.cls] : List Cond) ++ (Cond.code y cc nL ret :: iw_tbl) from hc) with h | h
  · exact hV.1 c (List.mem_append_left _ h)
  · rcases List.mem_cons.mp h with h | h
    · exact hV.1 c (List.mem_append_right _ (by rw [h]; exact List.mem_cons_self))
    · exact h
theorem V_cn {r' : Type} {em' : r' → Option Value} {y : MethodName} {cc : ByteArray} {nL fr lo n idx : Nat} {ret : Option FieldType} {As : List Value} {oc : Option (r' × iw_M)} {g : r' × iw_M → Option (r × iw_M)} (rest : List Value) (hC : iw_C G w X B) (hV : iw_CN B.2.2.2.1 idx y cc nL ret n)
    (K : iw_K G w y cc nL ret fr lo em' As z oc) (hst : st = As.reverse ++ rest) (hn : As.length = n) (hW : (rest.map fun v => v.category).sum ≤ 8) (hR : fr + 1 ≤ B.2.2.1.frames ∧ 8 + (nL + 11) + lo ≤ B.2.2.1.locals) (hdg : decode B.1 pc = .ok (.invokestatic idx, 3))
    (kk : ∀ q : r' × iw_M, iw_V G w X B em (pc + 3) lv ((em' q.1).toList ++ rest) q.2 (g q)) : iw_V G w X B em pc lv st z (oc.bind g) := by
  intro v z' ho H locs ls hP hS hl
  have hC0 := hC
  obtain ⟨hx, hb, hml, hown, hts, hK, hi, hZ, hN, hlk, hr⟩ := hC
  obtain ⟨q, hq, hg⟩ := Option.bind_eq_some_iff.mp ho
  refine iw_behind hl hS (va_runSN (host := "IdeaWorks") (As := As) (rest := rest) ⟨hx, hb, hml, hown, hts⟩ (K q.1 q.2 hq) ⟨va_cnB n hts (iw_GI ?_) rfl rfl rfl (hV.2.1 _ hN) (hts _ hV.1.2.1) hV.2.2 hR, hts _ hV.1.1, trivial⟩ ⟨iw_blind, iw_pre hC0 hP hS⟩ rfl hn hl.1 hst (lv_room hW) hdg ⟨Nat.zero_le _, Nat.zero_le _⟩) hg (kk q)
  intro c hc
  rcases List.mem_cons.mp hc with h | h
  · rw [h]; exact hV.1.2.2
  · exact h
end IWF
section IWC
variable {r : Type} {G : iw_G} {w : iw_W} {X : iw_X} {B : iw_B} {em : r → Option Value} {pc : Nat} {lv : List (Nat × Value)} {st : List Value} {z : iw_M} {o o1 o2 : Option (r × iw_M)}
theorem iw_sA_n {P : Nat → Option (r × iw_M) → Prop} : iw_sA P [] [] := trivial
theorem iw_sA_c {P : Nat → Option (r × iw_M) → Prop} {t : Nat} {a : Option (r × iw_M)} {ts : List Nat} {q : List (Option (r × iw_M))} (h : P t a) (h2 : iw_sA P ts q) : iw_sA P (t :: ts) (a :: q) := ⟨h, h2⟩
theorem V_cvi {y : MethodName} {cc : ByteArray} {nL fr lo n idx k ci : Nat} {ret : Option FieldType} {C : String} {T : u_T} {N : Nat} {fl : List (Option Nat)} {As : List Value} {oc : Option (Int32 × iw_M)} {g : Int32 × iw_M → Option (r × iw_M)} (rest : List Value) (hC : iw_C G w X B) (hV : iw_CV B.2.2.2.1 idx C y cc nL ret n) (hk : k < w.2) (hs : w.1 k = .inl (ci, fl)) (hcl : vwCl[ci]? = some (C, T, N))
    (K : iw_K G w y cc nL ret fr lo iw_ei (.ref (iw_ad G k) :: As) z oc) (hst : st = As.reverse ++ .ref (iw_ad G k) :: rest) (hn : As.length = n) (hW : (rest.map fun v => v.category).sum ≤ 8) (hR : fr + 1 ≤ B.2.2.1.frames ∧ 8 + (nL + 11) + lo ≤ B.2.2.1.locals) (hdg : decode B.1 pc = .ok (.invokevirtual idx, 3))
    (kk : ∀ q : Int32 × iw_M, iw_V G w X B em (pc + 3) lv (.int q.1 :: rest) q.2 (g q)) : iw_V G w X B em pc lv st z (oc.bind g) := V_cv rest hC hV hk hs hcl K hst hn hW hR hdg kk
theorem V_csi {y : MethodName} {cc : ByteArray} {nL fr lo n idx : Nat} {ret : Option FieldType} {As : List Value} {oc : Option (Int32 × iw_M)} {g : Int32 × iw_M → Option (r × iw_M)} (rest : List Value) (hC : iw_C G w X B) (hV : iw_CS B.2.2.2.1 idx y cc nL ret n)
    (K : iw_K G w y cc nL ret fr lo iw_ei As z oc) (hst : st = As.reverse ++ rest) (hn : As.length = n) (hW : (rest.map fun v => v.category).sum ≤ 8) (hR : fr + 1 ≤ B.2.2.1.frames ∧ 8 + (nL + 11) + lo ≤ B.2.2.1.locals) (hdg : decode B.1 pc = .ok (.invokestatic idx, 3))
    (kk : ∀ q : Int32 × iw_M, iw_V G w X B em (pc + 3) lv (.int q.1 :: rest) q.2 (g q)) : iw_V G w X B em pc lv st z (oc.bind g) := V_cs rest hC hV K hst hn hW hR hdg kk
theorem V_cni {y : MethodName} {cc : ByteArray} {nL fr lo n idx : Nat} {ret : Option FieldType} {As : List Value} {oc : Option (Int32 × iw_M)} {g : Int32 × iw_M → Option (r × iw_M)} (rest : List Value) (hC : iw_C G w X B) (hV : iw_CN B.2.2.2.1 idx y cc nL ret n)
    (K : iw_K G w y cc nL ret fr lo iw_ei As z oc) (hst : st = As.reverse ++ rest) (hn : As.length = n) (hW : (rest.map fun v => v.category).sum ≤ 8) (hR : fr + 1 ≤ B.2.2.1.frames ∧ 8 + (nL + 11) + lo ≤ B.2.2.1.locals) (hdg : decode B.1 pc = .ok (.invokestatic idx, 3))
    (kk : ∀ q : Int32 × iw_M, iw_V G w X B em (pc + 3) lv (.int q.1 :: rest) q.2 (g q)) : iw_V G w X B em pc lv st z (oc.bind g) := V_cn rest hC hV K hst hn hW hR hdg kk
theorem V_cvl {y : MethodName} {cc : ByteArray} {nL fr lo n idx k ci : Nat} {ret : Option FieldType} {C : String} {T : u_T} {N : Nat} {fl : List (Option Nat)} {As : List Value} {oc : Option (Int64 × iw_M)} {g : Int64 × iw_M → Option (r × iw_M)} (rest : List Value) (hC : iw_C G w X B) (hV : iw_CV B.2.2.2.1 idx C y cc nL ret n) (hk : k < w.2) (hs : w.1 k = .inl (ci, fl)) (hcl : vwCl[ci]? = some (C, T, N))
    (K : iw_K G w y cc nL ret fr lo iw_el (.ref (iw_ad G k) :: As) z oc) (hst : st = As.reverse ++ .ref (iw_ad G k) :: rest) (hn : As.length = n) (hW : (rest.map fun v => v.category).sum ≤ 8) (hR : fr + 1 ≤ B.2.2.1.frames ∧ 8 + (nL + 11) + lo ≤ B.2.2.1.locals) (hdg : decode B.1 pc = .ok (.invokevirtual idx, 3))
    (kk : ∀ q : Int64 × iw_M, iw_V G w X B em (pc + 3) lv (.long q.1 :: rest) q.2 (g q)) : iw_V G w X B em pc lv st z (oc.bind g) := V_cv rest hC hV hk hs hcl K hst hn hW hR hdg kk
theorem V_csl {y : MethodName} {cc : ByteArray} {nL fr lo n idx : Nat} {ret : Option FieldType} {As : List Value} {oc : Option (Int64 × iw_M)} {g : Int64 × iw_M → Option (r × iw_M)} (rest : List Value) (hC : iw_C G w X B) (hV : iw_CS B.2.2.2.1 idx y cc nL ret n)
    (K : iw_K G w y cc nL ret fr lo iw_el As z oc) (hst : st = As.reverse ++ rest) (hn : As.length = n) (hW : (rest.map fun v => v.category).sum ≤ 8) (hR : fr + 1 ≤ B.2.2.1.frames ∧ 8 + (nL + 11) + lo ≤ B.2.2.1.locals) (hdg : decode B.1 pc = .ok (.invokestatic idx, 3))
    (kk : ∀ q : Int64 × iw_M, iw_V G w X B em (pc + 3) lv (.long q.1 :: rest) q.2 (g q)) : iw_V G w X B em pc lv st z (oc.bind g) := V_cs rest hC hV K hst hn hW hR hdg kk
theorem V_cnl {y : MethodName} {cc : ByteArray} {nL fr lo n idx : Nat} {ret : Option FieldType} {As : List Value} {oc : Option (Int64 × iw_M)} {g : Int64 × iw_M → Option (r × iw_M)} (rest : List Value) (hC : iw_C G w X B) (hV : iw_CN B.2.2.2.1 idx y cc nL ret n)
    (K : iw_K G w y cc nL ret fr lo iw_el As z oc) (hst : st = As.reverse ++ rest) (hn : As.length = n) (hW : (rest.map fun v => v.category).sum ≤ 8) (hR : fr + 1 ≤ B.2.2.1.frames ∧ 8 + (nL + 11) + lo ≤ B.2.2.1.locals) (hdg : decode B.1 pc = .ok (.invokestatic idx, 3))
    (kk : ∀ q : Int64 × iw_M, iw_V G w X B em (pc + 3) lv (.long q.1 :: rest) q.2 (g q)) : iw_V G w X B em pc lv st z (oc.bind g) := V_cn rest hC hV K hst hn hW hR hdg kk
theorem V_cvv {y : MethodName} {cc : ByteArray} {nL fr lo n idx k ci : Nat} {ret : Option FieldType} {C : String} {T : u_T} {N : Nat} {fl : List (Option Nat)} {As : List Value} {oc : Option (Unit × iw_M)} {g : Unit × iw_M → Option (r × iw_M)} (rest : List Value) (hC : iw_C G w X B) (hV : iw_CV B.2.2.2.1 idx C y cc nL ret n) (hk : k < w.2) (hs : w.1 k = .inl (ci, fl)) (hcl : vwCl[ci]? = some (C, T, N))
    (K : iw_K G w y cc nL ret fr lo iw_ev (.ref (iw_ad G k) :: As) z oc) (hst : st = As.reverse ++ .ref (iw_ad G k) :: rest) (hn : As.length = n) (hW : (rest.map fun v => v.category).sum ≤ 8) (hR : fr + 1 ≤ B.2.2.1.frames ∧ 8 + (nL + 11) + lo ≤ B.2.2.1.locals) (hdg : decode B.1 pc = .ok (.invokevirtual idx, 3))
    (kk : ∀ q : Unit × iw_M, iw_V G w X B em (pc + 3) lv rest q.2 (g q)) : iw_V G w X B em pc lv st z (oc.bind g) := V_cv rest hC hV hk hs hcl K hst hn hW hR hdg kk
theorem V_csv {y : MethodName} {cc : ByteArray} {nL fr lo n idx : Nat} {ret : Option FieldType} {As : List Value} {oc : Option (Unit × iw_M)} {g : Unit × iw_M → Option (r × iw_M)} (rest : List Value) (hC : iw_C G w X B) (hV : iw_CS B.2.2.2.1 idx y cc nL ret n)
    (K : iw_K G w y cc nL ret fr lo iw_ev As z oc) (hst : st = As.reverse ++ rest) (hn : As.length = n) (hW : (rest.map fun v => v.category).sum ≤ 8) (hR : fr + 1 ≤ B.2.2.1.frames ∧ 8 + (nL + 11) + lo ≤ B.2.2.1.locals) (hdg : decode B.1 pc = .ok (.invokestatic idx, 3))
    (kk : ∀ q : Unit × iw_M, iw_V G w X B em (pc + 3) lv rest q.2 (g q)) : iw_V G w X B em pc lv st z (oc.bind g) := V_cs rest hC hV K hst hn hW hR hdg kk
theorem V_cnv {y : MethodName} {cc : ByteArray} {nL fr lo n idx : Nat} {ret : Option FieldType} {As : List Value} {oc : Option (Unit × iw_M)} {g : Unit × iw_M → Option (r × iw_M)} (rest : List Value) (hC : iw_C G w X B) (hV : iw_CN B.2.2.2.1 idx y cc nL ret n)
    (K : iw_K G w y cc nL ret fr lo iw_ev As z oc) (hst : st = As.reverse ++ rest) (hn : As.length = n) (hW : (rest.map fun v => v.category).sum ≤ 8) (hR : fr + 1 ≤ B.2.2.1.frames ∧ 8 + (nL + 11) + lo ≤ B.2.2.1.locals) (hdg : decode B.1 pc = .ok (.invokestatic idx, 3))
    (kk : ∀ q : Unit × iw_M, iw_V G w X B em (pc + 3) lv rest q.2 (g q)) : iw_V G w X B em pc lv st z (oc.bind g) := V_cn rest hC hV K hst hn hW hR hdg kk
end IWC
end
section
def iw_sX : iw_S := fun k => match k with
  | 0 => .inl (8, [some 1, some 8, some 19, some 21, some 23, some 26, some 31, some 38, some 43, some 45, some 46, none])
  | 1 => .inl (2, [some 2, some 3, some 4, some 5, some 6, some 7, none])
  | 2 => .inr (.int, 40)
  | 3 => .inr (.long, 40)
  | 4 => .inr (.boolean, 40)
  | 5 => .inr (.int, 40)
  | 6 => .inr (.int, 40)
  | 7 => .inr (.int, 40)
  | 8 => .inl (3, [some 9, some 10, some 11, some 12, some 13, some 14, some 15, some 16, some 17, some 18, none])
  | 9 => .inr (.int, 40)
  | 10 => .inr (.int, 40)
  | 11 => .inr (.int, 40)
  | 12 => .inr (.int, 40)
  | 13 => .inr (.int, 40)
  | 14 => .inr (.int, 40)
  | 15 => .inr (.int, 40)
  | 16 => .inr (.int, 40)
  | 17 => .inr (.int, 40)
  | 18 => .inr (.long, 40)
  | 19 => .inl (1, [some 8, some 20])
  | 20 => .inr (.int, 40)
  | 21 => .inl (1, [some 8, some 22])
  | 22 => .inr (.int, 40)
  | 23 => .inl (0, [some 24, some 25])
  | 24 => .inr (.int, 10)
  | 25 => .inr (.int, 10)
  | 26 => .inl (4, [some 27, some 28, some 29, some 30, none])
  | 27 => .inr (.int, 200)
  | 28 => .inr (.int, 200)
  | 29 => .inr (.boolean, 200)
  | 30 => .inr (.int, 200)
  | 31 => .inl (6, [some 32, some 33, some 34, some 35, some 36, some 37])
  | 32 => .inr (.int, 10)
  | 33 => .inr (.int, 10)
  | 34 => .inr (.int, 10)
  | 35 => .inr (.int, 10)
  | 36 => .inr (.int, 10)
  | 37 => .inr (.int, 10)
  | 38 => .inl (5, [some 39, some 40, some 41, some 42, none])
  | 39 => .inr (.int, 20)
  | 40 => .inr (.int, 20)
  | 41 => .inr (.int, 20)
  | 42 => .inr (.int, 20)
  | 43 => .inl (7, [some 44, none])
  | 44 => .inr (.int, 20)
  | 45 => .inr (.int, 4)
  | _ => .inr (.int, 7)
def iw_sM : iw_S := fun k => match k with
  | 0 => .inl (9, [none, none, none, none, none, none, none, none, none, none, none, none, some 1, some 2, some 3, some 4, some 5, some 6, some 7, some 8, some 9, some 10, some 11, some 12, some 13, some 14, some 15, some 16, some 17, some 18, some 19, some 20, some 21, some 22, some 23, some 24, some 25, some 26, some 27, some 28, some 29, some 30, some 31])
  | 1 => .inr (.int, 40)
  | 2 => .inr (.int, 40)
  | 3 => .inr (.int, 40)
  | 4 => .inr (.int, 40)
  | 5 => .inr (.boolean, 40)
  | 6 => .inr (.boolean, 1600)
  | 7 => .inr (.int, 40)
  | 8 => .inr (.int, 40)
  | 9 => .inr (.int, 40)
  | 10 => .inr (.int, 40)
  | 11 => .inr (.int, 40)
  | 12 => .inr (.int, 40)
  | 13 => .inr (.int, 40)
  | 14 => .inr (.int, 40)
  | 15 => .inr (.int, 40)
  | 16 => .inr (.int, 40)
  | 17 => .inr (.int, 240)
  | 18 => .inr (.boolean, 40)
  | 19 => .inr (.int, 10)
  | 20 => .inr (.int, 10)
  | 21 => .inr (.int, 200)
  | 22 => .inr (.int, 200)
  | 23 => .inr (.int, 200)
  | 24 => .inr (.boolean, 200)
  | 25 => .inr (.int, 20)
  | 26 => .inr (.int, 20)
  | 27 => .inr (.int, 20)
  | 28 => .inr (.int, 20)
  | 29 => .inr (.int, 20)
  | 30 => .inr (.int, 7)
  | _ => .inr (.int, 40)
def iw_wX : iw_W := (iw_sX, 47)
def iw_wM : iw_W := (iw_sM, 32)
def iw_fu : Nat := 5000
def iw_isF (k : Nat) : Prop := iw_wX.1 k = .inl (1, [some 8, some (k + 1)]) ∧ iw_wX.1 (k + 1) = .inr (.int, 40) ∧ k < iw_wX.2 ∧ k + 1 < iw_wX.2
theorem iw_F19 : iw_isF 19 := ⟨rfl, rfl, by decide, by decide⟩
theorem iw_F21 : iw_isF 21 := ⟨rfl, rfl, by decide, by decide⟩
theorem iw_mm {c : Cond} (i : Nat) (h : lw_tbl[i]? = some c) (g : goodWord c = true) : c ∈ iw_tbl := iw_in (List.mem_of_getElem? h) g
theorem iw_u0a : ∀ c ∈ u_ws RX0 TX0 2, c ∈ lw_tbl := by decide +kernel
theorem iw_u0b : ∀ c ∈ u_ws RX0 TX0 2, goodWord c = true := by decide +kernel
theorem iw_u0 : ∀ c ∈ u_ws RX0 TX0 2, c ∈ iw_tbl := fun c h => iw_in (iw_u0a c h) (iw_u0b c h)
theorem iw_u1a : ∀ c ∈ u_ws RX1 TX1 2, c ∈ lw_tbl := by decide +kernel
theorem iw_u1b : ∀ c ∈ u_ws RX1 TX1 2, goodWord c = true := by decide +kernel
theorem iw_u1 : ∀ c ∈ u_ws RX1 TX1 2, c ∈ iw_tbl := fun c h => iw_in (iw_u1a c h) (iw_u1b c h)
theorem iw_u2a : ∀ c ∈ u_ws RX2 TX2 7, c ∈ lw_tbl := by decide +kernel
theorem iw_u2b : ∀ c ∈ u_ws RX2 TX2 7, goodWord c = true := by decide +kernel
theorem iw_u2 : ∀ c ∈ u_ws RX2 TX2 7, c ∈ iw_tbl := fun c h => iw_in (iw_u2a c h) (iw_u2b c h)
theorem iw_u3a : ∀ c ∈ u_ws RX3 TX3 11, c ∈ lw_tbl := by decide +kernel
theorem iw_u3b : ∀ c ∈ u_ws RX3 TX3 11, goodWord c = true := by decide +kernel
theorem iw_u3 : ∀ c ∈ u_ws RX3 TX3 11, c ∈ iw_tbl := fun c h => iw_in (iw_u3a c h) (iw_u3b c h)
theorem iw_u4a : ∀ c ∈ u_ws RX4 TX4 5, c ∈ lw_tbl := by decide +kernel
theorem iw_u4b : ∀ c ∈ u_ws RX4 TX4 5, goodWord c = true := by decide +kernel
theorem iw_u4 : ∀ c ∈ u_ws RX4 TX4 5, c ∈ iw_tbl := fun c h => iw_in (iw_u4a c h) (iw_u4b c h)
theorem iw_u5a : ∀ c ∈ u_ws RX5 TX5 5, c ∈ lw_tbl := by decide +kernel
theorem iw_u5b : ∀ c ∈ u_ws RX5 TX5 5, goodWord c = true := by decide +kernel
theorem iw_u5 : ∀ c ∈ u_ws RX5 TX5 5, c ∈ iw_tbl := fun c h => iw_in (iw_u5a c h) (iw_u5b c h)
theorem iw_u6a : ∀ c ∈ u_ws RX6 TX6 6, c ∈ lw_tbl := by decide +kernel
theorem iw_u6b : ∀ c ∈ u_ws RX6 TX6 6, goodWord c = true := by decide +kernel
theorem iw_u6 : ∀ c ∈ u_ws RX6 TX6 6, c ∈ iw_tbl := fun c h => iw_in (iw_u6a c h) (iw_u6b c h)
theorem iw_u7a : ∀ c ∈ u_ws RX7 TX7 2, c ∈ lw_tbl := by decide +kernel
theorem iw_u7b : ∀ c ∈ u_ws RX7 TX7 2, goodWord c = true := by decide +kernel
theorem iw_u7 : ∀ c ∈ u_ws RX7 TX7 2, c ∈ iw_tbl := fun c h => iw_in (iw_u7a c h) (iw_u7b c h)
theorem iw_u8a : ∀ c ∈ u_ws RX8 TX8 12, c ∈ lw_tbl := by decide +kernel
theorem iw_u8b : ∀ c ∈ u_ws RX8 TX8 12, goodWord c = true := by decide +kernel
theorem iw_u8 : ∀ c ∈ u_ws RX8 TX8 12, c ∈ iw_tbl := fun c h => iw_in (iw_u8a c h) (iw_u8b c h)
theorem iw_u9a : ∀ c ∈ u_ws RX9 TX9 43, c ∈ lw_tbl := by decide +kernel
theorem iw_u9b : ∀ c ∈ u_ws RX9 TX9 43, goodWord c = true := by decide +kernel
theorem iw_u9 : ∀ c ∈ u_ws RX9 TX9 43, c ∈ iw_tbl := fun c h => iw_in (iw_u9a c h) (iw_u9b c h)
theorem fl_X2_11 : iw_FL RX2 11 2 0 := ⟨RX2, TX2, 7, rfl, by decide, iw_mm 61 (by decide +kernel) rfl, iw_u2⟩
theorem fl_X2_15 : iw_FL RX2 15 2 1 := ⟨RX2, TX2, 7, rfl, by decide, iw_mm 62 (by decide +kernel) rfl, iw_u2⟩
theorem fl_X2_19 : iw_FL RX2 19 2 2 := ⟨RX2, TX2, 7, rfl, by decide, iw_mm 63 (by decide +kernel) rfl, iw_u2⟩
theorem fl_X8_157 : iw_FL RX8 157 2 2 := ⟨RX2, TX2, 7, rfl, by decide, iw_mm 64 (by decide +kernel) rfl, iw_u2⟩
theorem fl_X2_23 : iw_FL RX2 23 2 3 := ⟨RX2, TX2, 7, rfl, by decide, iw_mm 65 (by decide +kernel) rfl, iw_u2⟩
theorem fl_X8_175 : iw_FL RX8 175 2 3 := ⟨RX2, TX2, 7, rfl, by decide, iw_mm 66 (by decide +kernel) rfl, iw_u2⟩
theorem fl_X2_26 : iw_FL RX2 26 2 4 := ⟨RX2, TX2, 7, rfl, by decide, iw_mm 67 (by decide +kernel) rfl, iw_u2⟩
theorem fl_X8_249 : iw_FL RX8 249 2 4 := ⟨RX2, TX2, 7, rfl, by decide, iw_mm 68 (by decide +kernel) rfl, iw_u2⟩
theorem fl_X2_29 : iw_FL RX2 29 2 5 := ⟨RX2, TX2, 7, rfl, by decide, iw_mm 69 (by decide +kernel) rfl, iw_u2⟩
theorem fl_X8_252 : iw_FL RX8 252 2 5 := ⟨RX2, TX2, 7, rfl, by decide, iw_mm 70 (by decide +kernel) rfl, iw_u2⟩
theorem fl_X2_32 : iw_FL RX2 32 2 6 := ⟨RX2, TX2, 7, rfl, by decide, iw_mm 71 (by decide +kernel) rfl, iw_u2⟩
theorem fp_X2_32 : iw_FP RX2 32 2 6 := ⟨RX2, TX2, 7, tyX2, rfl, by decide, iw_mm 71 (by decide +kernel) rfl, iw_u2, tyX2_ok, nmX2, rfl, by decide +kernel⟩
theorem fl_X8_89 : iw_FL RX8 89 2 6 := ⟨RX2, TX2, 7, rfl, by decide, iw_mm 72 (by decide +kernel) rfl, iw_u2⟩
theorem fp_X8_89 : iw_FP RX8 89 2 6 := ⟨RX2, TX2, 7, tyX2, rfl, by decide, iw_mm 72 (by decide +kernel) rfl, iw_u2, tyX2_ok, nmX2, rfl, by decide +kernel⟩
theorem fl_X0_9 : iw_FL RX0 9 0 0 := ⟨RX0, TX0, 2, rfl, by decide, iw_mm 97 (by decide +kernel) rfl, iw_u0⟩
theorem fl_X8_194 : iw_FL RX8 194 0 0 := ⟨RX0, TX0, 2, rfl, by decide, iw_mm 98 (by decide +kernel) rfl, iw_u0⟩
theorem fl_X0_13 : iw_FL RX0 13 0 1 := ⟨RX0, TX0, 2, rfl, by decide, iw_mm 99 (by decide +kernel) rfl, iw_u0⟩
theorem fl_X8_197 : iw_FL RX8 197 0 1 := ⟨RX0, TX0, 2, rfl, by decide, iw_mm 100 (by decide +kernel) rfl, iw_u0⟩
theorem fl_X4_9 : iw_FL RX4 9 4 0 := ⟨RX4, TX4, 5, rfl, by decide, iw_mm 112 (by decide +kernel) rfl, iw_u4⟩
theorem fl_X6_53 : iw_FL RX6 53 4 0 := ⟨RX4, TX4, 5, rfl, by decide, iw_mm 113 (by decide +kernel) rfl, iw_u4⟩
theorem fl_X4_13 : iw_FL RX4 13 4 1 := ⟨RX4, TX4, 5, rfl, by decide, iw_mm 114 (by decide +kernel) rfl, iw_u4⟩
theorem fl_X6_46 : iw_FL RX6 46 4 1 := ⟨RX4, TX4, 5, rfl, by decide, iw_mm 115 (by decide +kernel) rfl, iw_u4⟩
theorem fl_X4_16 : iw_FL RX4 16 4 2 := ⟨RX4, TX4, 5, rfl, by decide, iw_mm 116 (by decide +kernel) rfl, iw_u4⟩
theorem fl_X6_49 : iw_FL RX6 49 4 2 := ⟨RX4, TX4, 5, rfl, by decide, iw_mm 117 (by decide +kernel) rfl, iw_u4⟩
theorem fl_X4_20 : iw_FL RX4 20 4 3 := ⟨RX4, TX4, 5, rfl, by decide, iw_mm 118 (by decide +kernel) rfl, iw_u4⟩
theorem fl_X6_56 : iw_FL RX6 56 4 3 := ⟨RX4, TX4, 5, rfl, by decide, iw_mm 119 (by decide +kernel) rfl, iw_u4⟩
theorem fl_X4_23 : iw_FL RX4 23 4 4 := ⟨RX4, TX4, 5, rfl, by decide, iw_mm 120 (by decide +kernel) rfl, iw_u4⟩
theorem fp_X4_23 : iw_FP RX4 23 4 4 := ⟨RX4, TX4, 5, tyX4, rfl, by decide, iw_mm 120 (by decide +kernel) rfl, iw_u4, tyX4_ok, nmX4, rfl, by decide +kernel⟩
theorem fl_X6_35 : iw_FL RX6 35 4 4 := ⟨RX4, TX4, 5, rfl, by decide, iw_mm 121 (by decide +kernel) rfl, iw_u4⟩
theorem fp_X6_35 : iw_FP RX6 35 4 4 := ⟨RX4, TX4, 5, tyX4, rfl, by decide, iw_mm 121 (by decide +kernel) rfl, iw_u4, tyX4_ok, nmX4, rfl, by decide +kernel⟩
theorem fl_X8_201 : iw_FL RX8 201 4 4 := ⟨RX4, TX4, 5, rfl, by decide, iw_mm 122 (by decide +kernel) rfl, iw_u4⟩
theorem fp_X8_201 : iw_FP RX8 201 4 4 := ⟨RX4, TX4, 5, tyX4, rfl, by decide, iw_mm 122 (by decide +kernel) rfl, iw_u4, tyX4_ok, nmX4, rfl, by decide +kernel⟩
theorem fl_X6_11 : iw_FL RX6 11 6 0 := ⟨RX6, TX6, 6, rfl, by decide, iw_mm 140 (by decide +kernel) rfl, iw_u6⟩
theorem fl_X6_17 : iw_FL RX6 17 6 1 := ⟨RX6, TX6, 6, rfl, by decide, iw_mm 141 (by decide +kernel) rfl, iw_u6⟩
theorem fl_X6_20 : iw_FL RX6 20 6 2 := ⟨RX6, TX6, 6, rfl, by decide, iw_mm 142 (by decide +kernel) rfl, iw_u6⟩
theorem fl_X6_23 : iw_FL RX6 23 6 3 := ⟨RX6, TX6, 6, rfl, by decide, iw_mm 143 (by decide +kernel) rfl, iw_u6⟩
theorem fl_X6_26 : iw_FL RX6 26 6 4 := ⟨RX6, TX6, 6, rfl, by decide, iw_mm 144 (by decide +kernel) rfl, iw_u6⟩
theorem fl_X6_29 : iw_FL RX6 29 6 5 := ⟨RX6, TX6, 6, rfl, by decide, iw_mm 145 (by decide +kernel) rfl, iw_u6⟩
theorem fl_X5_11 : iw_FL RX5 11 5 0 := ⟨RX5, TX5, 5, rfl, by decide, iw_mm 165 (by decide +kernel) rfl, iw_u5⟩
theorem fl_X5_15 : iw_FL RX5 15 5 1 := ⟨RX5, TX5, 5, rfl, by decide, iw_mm 166 (by decide +kernel) rfl, iw_u5⟩
theorem fl_X8_307 : iw_FL RX8 307 5 1 := ⟨RX5, TX5, 5, rfl, by decide, iw_mm 167 (by decide +kernel) rfl, iw_u5⟩
theorem fl_X5_18 : iw_FL RX5 18 5 2 := ⟨RX5, TX5, 5, rfl, by decide, iw_mm 168 (by decide +kernel) rfl, iw_u5⟩
theorem fl_X8_310 : iw_FL RX8 310 5 2 := ⟨RX5, TX5, 5, rfl, by decide, iw_mm 169 (by decide +kernel) rfl, iw_u5⟩
theorem fl_X5_21 : iw_FL RX5 21 5 3 := ⟨RX5, TX5, 5, rfl, by decide, iw_mm 170 (by decide +kernel) rfl, iw_u5⟩
theorem fl_X8_313 : iw_FL RX8 313 5 3 := ⟨RX5, TX5, 5, rfl, by decide, iw_mm 171 (by decide +kernel) rfl, iw_u5⟩
theorem fl_X5_24 : iw_FL RX5 24 5 4 := ⟨RX5, TX5, 5, rfl, by decide, iw_mm 172 (by decide +kernel) rfl, iw_u5⟩
theorem fp_X5_24 : iw_FP RX5 24 5 4 := ⟨RX5, TX5, 5, tyX5, rfl, by decide, iw_mm 172 (by decide +kernel) rfl, iw_u5, tyX5_ok, nmX5, rfl, by decide +kernel⟩
theorem fl_X8_223 : iw_FL RX8 223 5 4 := ⟨RX5, TX5, 5, rfl, by decide, iw_mm 173 (by decide +kernel) rfl, iw_u5⟩
theorem fp_X8_223 : iw_FP RX8 223 5 4 := ⟨RX5, TX5, 5, tyX5, rfl, by decide, iw_mm 173 (by decide +kernel) rfl, iw_u5, tyX5_ok, nmX5, rfl, by decide +kernel⟩
theorem fl_X7_9 : iw_FL RX7 9 7 0 := ⟨RX7, TX7, 2, rfl, by decide, iw_mm 191 (by decide +kernel) rfl, iw_u7⟩
theorem fl_X8_237 : iw_FL RX8 237 7 0 := ⟨RX7, TX7, 2, rfl, by decide, iw_mm 192 (by decide +kernel) rfl, iw_u7⟩
theorem fl_X7_13 : iw_FL RX7 13 7 1 := ⟨RX7, TX7, 2, rfl, by decide, iw_mm 193 (by decide +kernel) rfl, iw_u7⟩
theorem fp_X7_13 : iw_FP RX7 13 7 1 := ⟨RX7, TX7, 2, tyX7, rfl, by decide, iw_mm 193 (by decide +kernel) rfl, iw_u7, tyX7_ok, nmX7, rfl, by decide +kernel⟩
theorem fl_X8_230 : iw_FL RX8 230 7 1 := ⟨RX7, TX7, 2, rfl, by decide, iw_mm 194 (by decide +kernel) rfl, iw_u7⟩
theorem fp_X8_230 : iw_FP RX8 230 7 1 := ⟨RX7, TX7, 2, tyX7, rfl, by decide, iw_mm 194 (by decide +kernel) rfl, iw_u7, tyX7_ok, nmX7, rfl, by decide +kernel⟩
theorem fl_X3_11 : iw_FL RX3 11 3 0 := ⟨RX3, TX3, 11, rfl, by decide, iw_mm 206 (by decide +kernel) rfl, iw_u3⟩
theorem fl_X8_298 : iw_FL RX8 298 3 0 := ⟨RX3, TX3, 11, rfl, by decide, iw_mm 207 (by decide +kernel) rfl, iw_u3⟩
theorem fl_X3_15 : iw_FL RX3 15 3 1 := ⟨RX3, TX3, 11, rfl, by decide, iw_mm 208 (by decide +kernel) rfl, iw_u3⟩
theorem fl_X8_200 : iw_FL RX8 200 3 1 := ⟨RX3, TX3, 11, rfl, by decide, iw_mm 209 (by decide +kernel) rfl, iw_u3⟩
theorem fl_X3_18 : iw_FL RX3 18 3 2 := ⟨RX3, TX3, 11, rfl, by decide, iw_mm 210 (by decide +kernel) rfl, iw_u3⟩
theorem fl_X8_141 : iw_FL RX8 141 3 2 := ⟨RX3, TX3, 11, rfl, by decide, iw_mm 211 (by decide +kernel) rfl, iw_u3⟩
theorem fl_X3_21 : iw_FL RX3 21 3 3 := ⟨RX3, TX3, 11, rfl, by decide, iw_mm 212 (by decide +kernel) rfl, iw_u3⟩
theorem fl_X1_54 : iw_FL RX1 54 3 3 := ⟨RX3, TX3, 11, rfl, by decide, iw_mm 213 (by decide +kernel) rfl, iw_u3⟩
theorem fl_X8_262 : iw_FL RX8 262 3 3 := ⟨RX3, TX3, 11, rfl, by decide, iw_mm 214 (by decide +kernel) rfl, iw_u3⟩
theorem fl_X3_24 : iw_FL RX3 24 3 4 := ⟨RX3, TX3, 11, rfl, by decide, iw_mm 215 (by decide +kernel) rfl, iw_u3⟩
theorem fl_X8_255 : iw_FL RX8 255 3 4 := ⟨RX3, TX3, 11, rfl, by decide, iw_mm 216 (by decide +kernel) rfl, iw_u3⟩
theorem fl_X3_27 : iw_FL RX3 27 3 5 := ⟨RX3, TX3, 11, rfl, by decide, iw_mm 217 (by decide +kernel) rfl, iw_u3⟩
theorem fl_X1_64 : iw_FL RX1 64 3 5 := ⟨RX3, TX3, 11, rfl, by decide, iw_mm 218 (by decide +kernel) rfl, iw_u3⟩
theorem fl_X8_172 : iw_FL RX8 172 3 5 := ⟨RX3, TX3, 11, rfl, by decide, iw_mm 219 (by decide +kernel) rfl, iw_u3⟩
theorem fl_X3_30 : iw_FL RX3 30 3 6 := ⟨RX3, TX3, 11, rfl, by decide, iw_mm 220 (by decide +kernel) rfl, iw_u3⟩
theorem fl_X8_258 : iw_FL RX8 258 3 6 := ⟨RX3, TX3, 11, rfl, by decide, iw_mm 221 (by decide +kernel) rfl, iw_u3⟩
theorem fl_X3_33 : iw_FL RX3 33 3 7 := ⟨RX3, TX3, 11, rfl, by decide, iw_mm 222 (by decide +kernel) rfl, iw_u3⟩
theorem fl_X8_261 : iw_FL RX8 261 3 7 := ⟨RX3, TX3, 11, rfl, by decide, iw_mm 223 (by decide +kernel) rfl, iw_u3⟩
theorem fl_X3_36 : iw_FL RX3 36 3 8 := ⟨RX3, TX3, 11, rfl, by decide, iw_mm 224 (by decide +kernel) rfl, iw_u3⟩
theorem fl_X1_61 : iw_FL RX1 61 3 8 := ⟨RX3, TX3, 11, rfl, by decide, iw_mm 225 (by decide +kernel) rfl, iw_u3⟩
theorem fl_X8_216 : iw_FL RX8 216 3 8 := ⟨RX3, TX3, 11, rfl, by decide, iw_mm 226 (by decide +kernel) rfl, iw_u3⟩
theorem fl_X3_39 : iw_FL RX3 39 3 9 := ⟨RX3, TX3, 11, rfl, by decide, iw_mm 227 (by decide +kernel) rfl, iw_u3⟩
theorem fl_X8_127 : iw_FL RX8 127 3 9 := ⟨RX3, TX3, 11, rfl, by decide, iw_mm 228 (by decide +kernel) rfl, iw_u3⟩
theorem fl_X3_43 : iw_FL RX3 43 3 10 := ⟨RX3, TX3, 11, rfl, by decide, iw_mm 229 (by decide +kernel) rfl, iw_u3⟩
theorem fp_X3_43 : iw_FP RX3 43 3 10 := ⟨RX3, TX3, 11, tyX3, rfl, by decide, iw_mm 229 (by decide +kernel) rfl, iw_u3, tyX3_ok, nmX3, rfl, by decide +kernel⟩
theorem fl_X1_21 : iw_FL RX1 21 3 10 := ⟨RX3, TX3, 11, rfl, by decide, iw_mm 230 (by decide +kernel) rfl, iw_u3⟩
theorem fp_X1_21 : iw_FP RX1 21 3 10 := ⟨RX3, TX3, 11, tyX3, rfl, by decide, iw_mm 230 (by decide +kernel) rfl, iw_u3, tyX3_ok, nmX3, rfl, by decide +kernel⟩
theorem fl_X8_105 : iw_FL RX8 105 3 10 := ⟨RX3, TX3, 11, rfl, by decide, iw_mm 231 (by decide +kernel) rfl, iw_u3⟩
theorem fp_X8_105 : iw_FP RX8 105 3 10 := ⟨RX3, TX3, 11, tyX3, rfl, by decide, iw_mm 231 (by decide +kernel) rfl, iw_u3, tyX3_ok, nmX3, rfl, by decide +kernel⟩
theorem fl_X1_17 : iw_FL RX1 17 1 0 := ⟨RX1, TX1, 2, rfl, by decide, iw_mm 261 (by decide +kernel) rfl, iw_u1⟩
theorem fl_X1_11 : iw_FL RX1 11 1 1 := ⟨RX1, TX1, 2, rfl, by decide, iw_mm 262 (by decide +kernel) rfl, iw_u1⟩
theorem fl_X6_41 : iw_FL RX6 41 1 1 := ⟨RX1, TX1, 2, rfl, by decide, iw_mm 263 (by decide +kernel) rfl, iw_u1⟩
theorem fl_X8_148 : iw_FL RX8 148 1 1 := ⟨RX1, TX1, 2, rfl, by decide, iw_mm 264 (by decide +kernel) rfl, iw_u1⟩
theorem fl_X8_10 : iw_FL RX8 10 8 0 := ⟨RX8, TX8, 12, rfl, by decide, iw_mm 270 (by decide +kernel) rfl, iw_u8⟩
theorem fl_X8_65 : iw_FL RX8 65 8 1 := ⟨RX8, TX8, 12, rfl, by decide, iw_mm 271 (by decide +kernel) rfl, iw_u8⟩
theorem fl_X8_74 : iw_FL RX8 74 8 2 := ⟨RX8, TX8, 12, rfl, by decide, iw_mm 272 (by decide +kernel) rfl, iw_u8⟩
theorem fl_X8_78 : iw_FL RX8 78 8 3 := ⟨RX8, TX8, 12, rfl, by decide, iw_mm 273 (by decide +kernel) rfl, iw_u8⟩
theorem fl_X8_19 : iw_FL RX8 19 8 4 := ⟨RX8, TX8, 12, rfl, by decide, iw_mm 274 (by decide +kernel) rfl, iw_u8⟩
theorem fl_X8_26 : iw_FL RX8 26 8 5 := ⟨RX8, TX8, 12, rfl, by decide, iw_mm 275 (by decide +kernel) rfl, iw_u8⟩
theorem fl_X8_33 : iw_FL RX8 33 8 6 := ⟨RX8, TX8, 12, rfl, by decide, iw_mm 276 (by decide +kernel) rfl, iw_u8⟩
theorem fl_X8_40 : iw_FL RX8 40 8 7 := ⟨RX8, TX8, 12, rfl, by decide, iw_mm 277 (by decide +kernel) rfl, iw_u8⟩
theorem fl_X8_47 : iw_FL RX8 47 8 8 := ⟨RX8, TX8, 12, rfl, by decide, iw_mm 278 (by decide +kernel) rfl, iw_u8⟩
theorem fl_X8_51 : iw_FL RX8 51 8 9 := ⟨RX8, TX8, 12, rfl, by decide, iw_mm 279 (by decide +kernel) rfl, iw_u8⟩
theorem fl_X8_55 : iw_FL RX8 55 8 10 := ⟨RX8, TX8, 12, rfl, by decide, iw_mm 280 (by decide +kernel) rfl, iw_u8⟩
theorem fl_X8_58 : iw_FL RX8 58 8 11 := ⟨RX8, TX8, 12, rfl, by decide, iw_mm 281 (by decide +kernel) rfl, iw_u8⟩
theorem fp_X8_58 : iw_FP RX8 58 8 11 := ⟨RX8, TX8, 12, tyX8, rfl, by decide, iw_mm 281 (by decide +kernel) rfl, iw_u8, tyX8_ok, nmX8, rfl, by decide +kernel⟩
theorem fs_X8_131 : Cond.fieldLink RX8 131 "IdeaWorks" "LEAST_SETTING" "[I" ∈ iw_tbl := iw_mm 403 (by decide +kernel) rfl
theorem fs_X8_134 : Cond.fieldLink RX8 134 "IdeaWorks" "GREATEST_SETTING" "[I" ∈ iw_tbl := iw_mm 405 (by decide +kernel) rfl
theorem fl_X9_138 : iw_FL RX9 138 9 0 := ⟨RX9, TX9, 43, rfl, by decide, iw_mm 661 (by decide +kernel) rfl, iw_u9⟩
theorem fp_X9_138 : iw_FP RX9 138 9 0 := ⟨RX9, TX9, 43, tyX9, rfl, by decide, iw_mm 661 (by decide +kernel) rfl, iw_u9, tyX9_ok, nmX9, rfl, by decide +kernel⟩
theorem fl_X9_117 : iw_FL RX9 117 9 1 := ⟨RX9, TX9, 43, rfl, by decide, iw_mm 662 (by decide +kernel) rfl, iw_u9⟩
theorem fp_X9_117 : iw_FP RX9 117 9 1 := ⟨RX9, TX9, 43, tyX9, rfl, by decide, iw_mm 662 (by decide +kernel) rfl, iw_u9, tyX9_ok, nmX9, rfl, by decide +kernel⟩
theorem fl_X9_120 : iw_FL RX9 120 9 2 := ⟨RX9, TX9, 43, rfl, by decide, iw_mm 663 (by decide +kernel) rfl, iw_u9⟩
theorem fp_X9_120 : iw_FP RX9 120 9 2 := ⟨RX9, TX9, 43, tyX9, rfl, by decide, iw_mm 663 (by decide +kernel) rfl, iw_u9, tyX9_ok, nmX9, rfl, by decide +kernel⟩
theorem fl_X9_187 : iw_FL RX9 187 9 3 := ⟨RX9, TX9, 43, rfl, by decide, iw_mm 664 (by decide +kernel) rfl, iw_u9⟩
theorem fp_X9_187 : iw_FP RX9 187 9 3 := ⟨RX9, TX9, 43, tyX9, rfl, by decide, iw_mm 664 (by decide +kernel) rfl, iw_u9, tyX9_ok, nmX9, rfl, by decide +kernel⟩
theorem fl_X9_198 : iw_FL RX9 198 9 4 := ⟨RX9, TX9, 43, rfl, by decide, iw_mm 665 (by decide +kernel) rfl, iw_u9⟩
theorem fp_X9_198 : iw_FP RX9 198 9 4 := ⟨RX9, TX9, 43, tyX9, rfl, by decide, iw_mm 665 (by decide +kernel) rfl, iw_u9, tyX9_ok, nmX9, rfl, by decide +kernel⟩
theorem fl_X9_213 : iw_FL RX9 213 9 5 := ⟨RX9, TX9, 43, rfl, by decide, iw_mm 666 (by decide +kernel) rfl, iw_u9⟩
theorem fp_X9_213 : iw_FP RX9 213 9 5 := ⟨RX9, TX9, 43, tyX9, rfl, by decide, iw_mm 666 (by decide +kernel) rfl, iw_u9, tyX9_ok, nmX9, rfl, by decide +kernel⟩
theorem fl_X9_7 : iw_FL RX9 7 9 6 := ⟨RX9, TX9, 43, rfl, by decide, iw_mm 667 (by decide +kernel) rfl, iw_u9⟩
theorem fp_X9_7 : iw_FP RX9 7 9 6 := ⟨RX9, TX9, 43, tyX9, rfl, by decide, iw_mm 667 (by decide +kernel) rfl, iw_u9, tyX9_ok, nmX9, rfl, by decide +kernel⟩
theorem fl_X9_13 : iw_FL RX9 13 9 7 := ⟨RX9, TX9, 43, rfl, by decide, iw_mm 668 (by decide +kernel) rfl, iw_u9⟩
theorem fp_X9_13 : iw_FP RX9 13 9 7 := ⟨RX9, TX9, 43, tyX9, rfl, by decide, iw_mm 668 (by decide +kernel) rfl, iw_u9, tyX9_ok, nmX9, rfl, by decide +kernel⟩
theorem fl_X9_16 : iw_FL RX9 16 9 8 := ⟨RX9, TX9, 43, rfl, by decide, iw_mm 669 (by decide +kernel) rfl, iw_u9⟩
theorem fp_X9_16 : iw_FP RX9 16 9 8 := ⟨RX9, TX9, 43, tyX9, rfl, by decide, iw_mm 669 (by decide +kernel) rfl, iw_u9, tyX9_ok, nmX9, rfl, by decide +kernel⟩
theorem fl_X9_19 : iw_FL RX9 19 9 9 := ⟨RX9, TX9, 43, rfl, by decide, iw_mm 670 (by decide +kernel) rfl, iw_u9⟩
theorem fp_X9_19 : iw_FP RX9 19 9 9 := ⟨RX9, TX9, 43, tyX9, rfl, by decide, iw_mm 670 (by decide +kernel) rfl, iw_u9, tyX9_ok, nmX9, rfl, by decide +kernel⟩
theorem fl_X9_207 : iw_FL RX9 207 9 10 := ⟨RX9, TX9, 43, rfl, by decide, iw_mm 671 (by decide +kernel) rfl, iw_u9⟩
theorem fp_X9_207 : iw_FP RX9 207 9 10 := ⟨RX9, TX9, 43, tyX9, rfl, by decide, iw_mm 671 (by decide +kernel) rfl, iw_u9, tyX9_ok, nmX9, rfl, by decide +kernel⟩
theorem fl_X9_175 : iw_FL RX9 175 9 11 := ⟨RX9, TX9, 43, rfl, by decide, iw_mm 672 (by decide +kernel) rfl, iw_u9⟩
theorem fp_X9_175 : iw_FP RX9 175 9 11 := ⟨RX9, TX9, 43, tyX9, rfl, by decide, iw_mm 672 (by decide +kernel) rfl, iw_u9, tyX9_ok, nmX9, rfl, by decide +kernel⟩
theorem fl_X9_22 : iw_FL RX9 22 9 12 := ⟨RX9, TX9, 43, rfl, by decide, iw_mm 673 (by decide +kernel) rfl, iw_u9⟩
theorem fl_X9_26 : iw_FL RX9 26 9 13 := ⟨RX9, TX9, 43, rfl, by decide, iw_mm 674 (by decide +kernel) rfl, iw_u9⟩
theorem fl_X9_29 : iw_FL RX9 29 9 14 := ⟨RX9, TX9, 43, rfl, by decide, iw_mm 675 (by decide +kernel) rfl, iw_u9⟩
theorem fl_X9_32 : iw_FL RX9 32 9 15 := ⟨RX9, TX9, 43, rfl, by decide, iw_mm 676 (by decide +kernel) rfl, iw_u9⟩
theorem fl_X9_35 : iw_FL RX9 35 9 16 := ⟨RX9, TX9, 43, rfl, by decide, iw_mm 677 (by decide +kernel) rfl, iw_u9⟩
theorem fl_X9_39 : iw_FL RX9 39 9 17 := ⟨RX9, TX9, 43, rfl, by decide, iw_mm 678 (by decide +kernel) rfl, iw_u9⟩
theorem fl_X9_42 : iw_FL RX9 42 9 18 := ⟨RX9, TX9, 43, rfl, by decide, iw_mm 679 (by decide +kernel) rfl, iw_u9⟩
theorem fl_X9_45 : iw_FL RX9 45 9 19 := ⟨RX9, TX9, 43, rfl, by decide, iw_mm 680 (by decide +kernel) rfl, iw_u9⟩
theorem fl_X9_48 : iw_FL RX9 48 9 20 := ⟨RX9, TX9, 43, rfl, by decide, iw_mm 681 (by decide +kernel) rfl, iw_u9⟩
theorem fl_X9_51 : iw_FL RX9 51 9 21 := ⟨RX9, TX9, 43, rfl, by decide, iw_mm 682 (by decide +kernel) rfl, iw_u9⟩
theorem fl_X9_54 : iw_FL RX9 54 9 22 := ⟨RX9, TX9, 43, rfl, by decide, iw_mm 683 (by decide +kernel) rfl, iw_u9⟩
theorem fl_X9_57 : iw_FL RX9 57 9 23 := ⟨RX9, TX9, 43, rfl, by decide, iw_mm 684 (by decide +kernel) rfl, iw_u9⟩
theorem fl_X9_60 : iw_FL RX9 60 9 24 := ⟨RX9, TX9, 43, rfl, by decide, iw_mm 685 (by decide +kernel) rfl, iw_u9⟩
theorem fl_X9_63 : iw_FL RX9 63 9 25 := ⟨RX9, TX9, 43, rfl, by decide, iw_mm 686 (by decide +kernel) rfl, iw_u9⟩
theorem fl_X9_66 : iw_FL RX9 66 9 26 := ⟨RX9, TX9, 43, rfl, by decide, iw_mm 687 (by decide +kernel) rfl, iw_u9⟩
theorem fl_X9_69 : iw_FL RX9 69 9 27 := ⟨RX9, TX9, 43, rfl, by decide, iw_mm 688 (by decide +kernel) rfl, iw_u9⟩
theorem fl_X9_72 : iw_FL RX9 72 9 28 := ⟨RX9, TX9, 43, rfl, by decide, iw_mm 689 (by decide +kernel) rfl, iw_u9⟩
theorem fl_X9_75 : iw_FL RX9 75 9 29 := ⟨RX9, TX9, 43, rfl, by decide, iw_mm 690 (by decide +kernel) rfl, iw_u9⟩
theorem fl_X9_78 : iw_FL RX9 78 9 30 := ⟨RX9, TX9, 43, rfl, by decide, iw_mm 691 (by decide +kernel) rfl, iw_u9⟩
theorem fl_X9_81 : iw_FL RX9 81 9 31 := ⟨RX9, TX9, 43, rfl, by decide, iw_mm 692 (by decide +kernel) rfl, iw_u9⟩
theorem fl_X9_84 : iw_FL RX9 84 9 32 := ⟨RX9, TX9, 43, rfl, by decide, iw_mm 693 (by decide +kernel) rfl, iw_u9⟩
theorem fl_X9_87 : iw_FL RX9 87 9 33 := ⟨RX9, TX9, 43, rfl, by decide, iw_mm 694 (by decide +kernel) rfl, iw_u9⟩
theorem fl_X9_90 : iw_FL RX9 90 9 34 := ⟨RX9, TX9, 43, rfl, by decide, iw_mm 695 (by decide +kernel) rfl, iw_u9⟩
theorem fl_X9_93 : iw_FL RX9 93 9 35 := ⟨RX9, TX9, 43, rfl, by decide, iw_mm 696 (by decide +kernel) rfl, iw_u9⟩
theorem fl_X9_96 : iw_FL RX9 96 9 36 := ⟨RX9, TX9, 43, rfl, by decide, iw_mm 697 (by decide +kernel) rfl, iw_u9⟩
theorem fl_X9_99 : iw_FL RX9 99 9 37 := ⟨RX9, TX9, 43, rfl, by decide, iw_mm 698 (by decide +kernel) rfl, iw_u9⟩
theorem fl_X9_102 : iw_FL RX9 102 9 38 := ⟨RX9, TX9, 43, rfl, by decide, iw_mm 699 (by decide +kernel) rfl, iw_u9⟩
theorem fl_X9_105 : iw_FL RX9 105 9 39 := ⟨RX9, TX9, 43, rfl, by decide, iw_mm 700 (by decide +kernel) rfl, iw_u9⟩
theorem fl_X9_108 : iw_FL RX9 108 9 40 := ⟨RX9, TX9, 43, rfl, by decide, iw_mm 701 (by decide +kernel) rfl, iw_u9⟩
theorem fl_X9_111 : iw_FL RX9 111 9 41 := ⟨RX9, TX9, 43, rfl, by decide, iw_mm 702 (by decide +kernel) rfl, iw_u9⟩
theorem fl_X9_114 : iw_FL RX9 114 9 42 := ⟨RX9, TX9, 43, rfl, by decide, iw_mm 703 (by decide +kernel) rfl, iw_u9⟩
theorem iw_cv {own : String} {idx : Nat} {C : String} {y : MethodName} {cc : ByteArray} {nL : Nat} {ret : Option FieldType} {n : Nat} (h1 : Cond.methodLink own idx y ∈ iw_tbl) (h2 : Cond.instanceMethod y ∈ iw_tbl) (h3 : Cond.selects C y y ∈ iw_tbl) (h4 : Cond.initialized C ∈ iw_tbl) (h5 : Cond.code y cc nL ret ∈ iw_tbl) (h : y.cls = C ∧ y.cls ≠ "java/lang/invoke/MethodHandle" ∧ y.cls ≠ "java/lang/invoke/VarHandle" ∧ (parseMethodDescriptor y.desc).map (fun d => d.parameters.length) = some n) : iw_CV own idx C y cc nL ret n := by
  refine ⟨fun c hc => ?_, h⟩
  have hc : c ∈ ([.methodLink own idx y, .instanceMethod y, .selects C y y, .initialized C, .code y cc nL ret] : List Cond) := hc
  simp only [List.mem_cons, List.not_mem_nil, or_false] at hc
  rcases hc with rfl | rfl | rfl | rfl | rfl
  · exact h1
  · exact h2
  · exact h3
  · exact h4
  · exact h5
theorem iw_cs {own : String} {idx : Nat} {y : MethodName} {cc : ByteArray} {nL : Nat} {ret : Option FieldType} {n : Nat} (h1 : Cond.methodLink own idx y ∈ iw_tbl) (h2 : Cond.static y ∈ iw_tbl) (h4 : Cond.initialized y.cls ∈ iw_tbl) (h5 : Cond.code y cc nL ret ∈ iw_tbl) (h : y.cls ≠ "java/lang/invoke/MethodHandle" ∧ y.cls ≠ "java/lang/invoke/VarHandle" ∧ (parseMethodDescriptor y.desc).map (fun d => d.parameters.length) = some n) : iw_CS own idx y cc nL ret n := by
  refine ⟨fun c hc => ?_, h⟩
  have hc : c ∈ ([.methodLink own idx y, .static y, .initialized y.cls, .code y cc nL ret] : List Cond) := hc
  simp only [List.mem_cons, List.not_mem_nil, or_false] at hc
  rcases hc with rfl | rfl | rfl | rfl
  · exact h1
  · exact h2
  · exact h4
  · exact h5
theorem wi_X8_hand : Cond.instanceMethod yX8_hand ∈ iw_tbl := iw_mm 308 (by decide +kernel) rfl
theorem wl_X8_hand : Cond.selects RX8 yX8_hand yX8_hand ∈ iw_tbl := iw_mm 309 (by decide +kernel) rfl
theorem wn_X8_hand : Cond.initialized yX8_hand.cls ∈ iw_tbl := iw_mm 34 (by decide +kernel) rfl
theorem wc_X8_hand : Cond.code yX8_hand cX8_hand 2 (some .int) ∈ iw_tbl := iw_mm 310 (by decide +kernel) rfl
theorem cv_L_13 : iw_CV RL 13 RX8 yX8_hand cX8_hand 2 (some .int) 1 := iw_cv (iw_mm 307 (by decide +kernel) rfl) wi_X8_hand wl_X8_hand wn_X8_hand wc_X8_hand (by decide +kernel)
theorem wt_X8_isShop : Cond.static yX8_isShop ∈ iw_tbl := iw_mm 312 (by decide +kernel) rfl
theorem wn_X8_isShop : Cond.initialized yX8_isShop.cls ∈ iw_tbl := iw_mm 34 (by decide +kernel) rfl
theorem wc_X8_isShop : Cond.code yX8_isShop cX8_isShop 1 (some .boolean) ∈ iw_tbl := iw_mm 313 (by decide +kernel) rfl
theorem cs_X8_81 : iw_CS RX8 81 yX8_isShop cX8_isShop 1 (some .boolean) 1 := iw_cs (iw_mm 311 (by decide +kernel) rfl) wt_X8_isShop wn_X8_isShop wc_X8_isShop (by decide +kernel)
theorem wi_X8_refuse : Cond.instanceMethod yX8_refuse ∈ iw_tbl := iw_mm 316 (by decide +kernel) rfl
theorem wl_X8_refuse : Cond.selects RX8 yX8_refuse yX8_refuse ∈ iw_tbl := iw_mm 0 (by decide +kernel) rfl
theorem wn_X8_refuse : Cond.initialized yX8_refuse.cls ∈ iw_tbl := iw_mm 34 (by decide +kernel) rfl
theorem wc_X8_refuse : Cond.code yX8_refuse cX8_refuse 3 (some .int) ∈ iw_tbl := iw_mm 317 (by decide +kernel) rfl
theorem cv_X8_85 : iw_CV RX8 85 RX8 yX8_refuse cX8_refuse 3 (some .int) 1 := iw_cv (iw_mm 314 (by decide +kernel) rfl) wi_X8_refuse wl_X8_refuse wn_X8_refuse wc_X8_refuse (by decide +kernel)
theorem wi_X2_add : Cond.instanceMethod yX2_add ∈ iw_tbl := iw_mm 319 (by decide +kernel) rfl
theorem wl_X2_add : Cond.selects RX2 yX2_add yX2_add ∈ iw_tbl := iw_mm 320 (by decide +kernel) rfl
theorem wn_X2_add : Cond.initialized yX2_add.cls ∈ iw_tbl := iw_mm 35 (by decide +kernel) rfl
theorem wc_X2_add : Cond.code yX2_add cX2_add 2 (some .int) ∈ iw_tbl := iw_mm 321 (by decide +kernel) rfl
theorem cv_X8_92 : iw_CV RX8 92 RX2 yX2_add cX2_add 2 (some .int) 1 := iw_cv (iw_mm 318 (by decide +kernel) rfl) wi_X2_add wl_X2_add wn_X2_add wc_X2_add (by decide +kernel)
theorem wi_X8_kin : Cond.instanceMethod yX8_kin ∈ iw_tbl := iw_mm 323 (by decide +kernel) rfl
theorem wl_X8_kin : Cond.selects RX8 yX8_kin yX8_kin ∈ iw_tbl := iw_mm 324 (by decide +kernel) rfl
theorem wn_X8_kin : Cond.initialized yX8_kin.cls ∈ iw_tbl := iw_mm 34 (by decide +kernel) rfl
theorem wc_X8_kin : Cond.code yX8_kin cX8_kin 4 (some .int) ∈ iw_tbl := iw_mm 325 (by decide +kernel) rfl
theorem cv_L_18 : iw_CV RL 18 RX8 yX8_kin cX8_kin 4 (some .int) 3 := iw_cv (iw_mm 322 (by decide +kernel) rfl) wi_X8_kin wl_X8_kin wn_X8_kin wc_X8_kin (by decide +kernel)
theorem wi_X8_isHand : Cond.instanceMethod yX8_isHand ∈ iw_tbl := iw_mm 328 (by decide +kernel) rfl
theorem wl_X8_isHand : Cond.selects RX8 yX8_isHand yX8_isHand ∈ iw_tbl := iw_mm 1 (by decide +kernel) rfl
theorem wn_X8_isHand : Cond.initialized yX8_isHand.cls ∈ iw_tbl := iw_mm 34 (by decide +kernel) rfl
theorem wc_X8_isHand : Cond.code yX8_isHand cX8_isHand 2 (some .boolean) ∈ iw_tbl := iw_mm 329 (by decide +kernel) rfl
theorem cv_X8_95 : iw_CV RX8 95 RX8 yX8_isHand cX8_isHand 2 (some .boolean) 1 := iw_cv (iw_mm 326 (by decide +kernel) rfl) wi_X8_isHand wl_X8_isHand wn_X8_isHand wc_X8_isHand (by decide +kernel)
theorem wi_X2_setKin : Cond.instanceMethod yX2_setKin ∈ iw_tbl := iw_mm 331 (by decide +kernel) rfl
theorem wl_X2_setKin : Cond.selects RX2 yX2_setKin yX2_setKin ∈ iw_tbl := iw_mm 332 (by decide +kernel) rfl
theorem wn_X2_setKin : Cond.initialized yX2_setKin.cls ∈ iw_tbl := iw_mm 35 (by decide +kernel) rfl
theorem wc_X2_setKin : Cond.code yX2_setKin cX2_setKin 4 (some .boolean) ∈ iw_tbl := iw_mm 333 (by decide +kernel) rfl
theorem cv_X8_98 : iw_CV RX8 98 RX2 yX2_setKin cX2_setKin 4 (some .boolean) 3 := iw_cv (iw_mm 330 (by decide +kernel) rfl) wi_X2_setKin wl_X2_setKin wn_X2_setKin wc_X2_setKin (by decide +kernel)
theorem wt_X8_has : Cond.static yX8_has ∈ iw_tbl := iw_mm 335 (by decide +kernel) rfl
theorem wn_X8_has : Cond.initialized yX8_has.cls ∈ iw_tbl := iw_mm 34 (by decide +kernel) rfl
theorem wc_X8_has : Cond.code yX8_has cX8_has 3 (some .boolean) ∈ iw_tbl := iw_mm 336 (by decide +kernel) rfl
theorem cn_X2_36 : iw_CN RX2 36 yX8_has cX8_has 3 (some .boolean) 2 := ⟨⟨wt_X8_has, wn_X8_has, wc_X8_has⟩, fun _ h => h.1, by decide +kernel⟩
theorem wi_X8_idea : Cond.instanceMethod yX8_idea ∈ iw_tbl := iw_mm 338 (by decide +kernel) rfl
theorem wl_X8_idea : Cond.selects RX8 yX8_idea yX8_idea ∈ iw_tbl := iw_mm 339 (by decide +kernel) rfl
theorem wn_X8_idea : Cond.initialized yX8_idea.cls ∈ iw_tbl := iw_mm 34 (by decide +kernel) rfl
theorem wc_X8_idea : Cond.code yX8_idea cX8_idea 6 (some .int) ∈ iw_tbl := iw_mm 340 (by decide +kernel) rfl
theorem cv_L_23 : iw_CV RL 23 RX8 yX8_idea cX8_idea 6 (some .int) 4 := iw_cv (iw_mm 337 (by decide +kernel) rfl) wi_X8_idea wl_X8_idea wn_X8_idea wc_X8_idea (by decide +kernel)
theorem wt_X8_areMarks : Cond.static yX8_areMarks ∈ iw_tbl := iw_mm 342 (by decide +kernel) rfl
theorem wn_X8_areMarks : Cond.initialized yX8_areMarks.cls ∈ iw_tbl := iw_mm 34 (by decide +kernel) rfl
theorem wc_X8_areMarks : Cond.code yX8_areMarks cX8_areMarks 1 (some .boolean) ∈ iw_tbl := iw_mm 343 (by decide +kernel) rfl
theorem cs_X8_102 : iw_CS RX8 102 yX8_areMarks cX8_areMarks 1 (some .boolean) 1 := iw_cs (iw_mm 341 (by decide +kernel) rfl) wt_X8_areMarks wn_X8_areMarks wc_X8_areMarks (by decide +kernel)
theorem wi_X3_add : Cond.instanceMethod yX3_add ∈ iw_tbl := iw_mm 346 (by decide +kernel) rfl
theorem wl_X3_add : Cond.selects RX3 yX3_add yX3_add ∈ iw_tbl := iw_mm 347 (by decide +kernel) rfl
theorem wn_X3_add : Cond.initialized yX3_add.cls ∈ iw_tbl := iw_mm 41 (by decide +kernel) rfl
theorem wc_X3_add : Cond.code yX3_add cX3_add 6 (some .int) ∈ iw_tbl := iw_mm 348 (by decide +kernel) rfl
theorem cv_X8_106 : iw_CV RX8 106 RX3 yX3_add cX3_add 6 (some .int) 5 := iw_cv (iw_mm 345 (by decide +kernel) rfl) wi_X3_add wl_X3_add wn_X3_add wc_X3_add (by decide +kernel)
theorem wi_X1_admit : Cond.instanceMethod yX1_admit ∈ iw_tbl := iw_mm 350 (by decide +kernel) rfl
theorem wl_X1_admit : Cond.selects RX1 yX1_admit yX1_admit ∈ iw_tbl := iw_mm 351 (by decide +kernel) rfl
theorem wn_X1_admit : Cond.initialized yX1_admit.cls ∈ iw_tbl := iw_mm 42 (by decide +kernel) rfl
theorem wc_X1_admit : Cond.code yX1_admit cX1_admit 4 none ∈ iw_tbl := iw_mm 352 (by decide +kernel) rfl
theorem cv_X8_109 : iw_CV RX8 109 RX1 yX1_admit cX1_admit 4 none 2 := iw_cv (iw_mm 349 (by decide +kernel) rfl) wi_X1_admit wl_X1_admit wn_X1_admit wc_X1_admit (by decide +kernel)
theorem wi_X3_areAlike : Cond.instanceMethod yX3_areAlike ∈ iw_tbl := iw_mm 354 (by decide +kernel) rfl
theorem wl_X3_areAlike : Cond.selects RX3 yX3_areAlike yX3_areAlike ∈ iw_tbl := iw_mm 355 (by decide +kernel) rfl
theorem wn_X3_areAlike : Cond.initialized yX3_areAlike.cls ∈ iw_tbl := iw_mm 41 (by decide +kernel) rfl
theorem wc_X3_areAlike : Cond.code yX3_areAlike cX3_areAlike 4 (some .boolean) ∈ iw_tbl := iw_mm 356 (by decide +kernel) rfl
theorem cv_X1_29 : iw_CV RX1 29 RX3 yX3_areAlike cX3_areAlike 4 (some .boolean) 3 := iw_cv (iw_mm 353 (by decide +kernel) rfl) wi_X3_areAlike wl_X3_areAlike wn_X3_areAlike wc_X3_areAlike (by decide +kernel)
theorem wt_X8_likeness : Cond.static yX8_likeness ∈ iw_tbl := iw_mm 358 (by decide +kernel) rfl
theorem wn_X8_likeness : Cond.initialized yX8_likeness.cls ∈ iw_tbl := iw_mm 34 (by decide +kernel) rfl
theorem wc_X8_likeness : Cond.code yX8_likeness cX8_likeness 2 (some .int) ∈ iw_tbl := iw_mm 359 (by decide +kernel) rfl
theorem cn_X3_53 : iw_CN RX3 53 yX8_likeness cX8_likeness 2 (some .int) 2 := ⟨⟨wt_X8_likeness, wn_X8_likeness, wc_X8_likeness⟩, fun _ h => h.2, by decide +kernel⟩
theorem wt_J6_bitCount_0f7a4 : Cond.static yJ6_bitCount_0f7a4 ∈ iw_tbl := iw_mm 361 (by decide +kernel) rfl
theorem wn_J6_bitCount_0f7a4 : Cond.initialized yJ6_bitCount_0f7a4.cls ∈ iw_tbl := iw_mm 44 (by decide +kernel) rfl
theorem wc_J6_bitCount_0f7a4 : Cond.code yJ6_bitCount_0f7a4 cJ6_bitCount_0f7a4 1 (some .int) ∈ iw_tbl := iw_mm 362 (by decide +kernel) rfl
theorem cs_X8_277 : iw_CS RX8 277 yJ6_bitCount_0f7a4 cJ6_bitCount_0f7a4 1 (some .int) 1 := iw_cs (iw_mm 360 (by decide +kernel) rfl) wt_J6_bitCount_0f7a4 wn_J6_bitCount_0f7a4 wc_J6_bitCount_0f7a4 (by decide +kernel)
theorem wi_X1_join : Cond.instanceMethod yX1_join ∈ iw_tbl := iw_mm 368 (by decide +kernel) rfl
theorem wl_X1_join : Cond.selects RX1 yX1_join yX1_join ∈ iw_tbl := iw_mm 2 (by decide +kernel) rfl
theorem wn_X1_join : Cond.initialized yX1_join.cls ∈ iw_tbl := iw_mm 42 (by decide +kernel) rfl
theorem wc_X1_join : Cond.code yX1_join cX1_join 7 none ∈ iw_tbl := iw_mm 369 (by decide +kernel) rfl
theorem cv_X1_33 : iw_CV RX1 33 RX1 yX1_join cX1_join 7 none 3 := iw_cv (iw_mm 366 (by decide +kernel) rfl) wi_X1_join wl_X1_join wn_X1_join wc_X1_join (by decide +kernel)
theorem mm_X1_37 : iw_MM RX1 37 Lib.Math.min.name Lib.Math.min.code := ⟨iw_mm 370 (by decide +kernel) rfl, iw_mm 371 (by decide +kernel) rfl, iw_mm 45 (by decide +kernel) rfl, iw_mm 372 (by decide +kernel) rfl⟩
theorem mm_X1_43 : iw_MM RX1 43 Lib.Math.max.name Lib.Math.max.code := ⟨iw_mm 373 (by decide +kernel) rfl, iw_mm 374 (by decide +kernel) rfl, iw_mm 45 (by decide +kernel) rfl, iw_mm 375 (by decide +kernel) rfl⟩
theorem wi_X8_team : Cond.instanceMethod yX8_team ∈ iw_tbl := iw_mm 377 (by decide +kernel) rfl
theorem wl_X8_team : Cond.selects RX8 yX8_team yX8_team ∈ iw_tbl := iw_mm 378 (by decide +kernel) rfl
theorem wn_X8_team : Cond.initialized yX8_team.cls ∈ iw_tbl := iw_mm 34 (by decide +kernel) rfl
theorem wc_X8_team : Cond.code yX8_team cX8_team 3 (some .int) ∈ iw_tbl := iw_mm 379 (by decide +kernel) rfl
theorem cv_L_28 : iw_CV RL 28 RX8 yX8_team cX8_team 3 (some .int) 2 := iw_cv (iw_mm 376 (by decide +kernel) rfl) wi_X8_team wl_X8_team wn_X8_team wc_X8_team (by decide +kernel)
theorem wi_X8_isIdea : Cond.instanceMethod yX8_isIdea ∈ iw_tbl := iw_mm 382 (by decide +kernel) rfl
theorem wl_X8_isIdea : Cond.selects RX8 yX8_isIdea yX8_isIdea ∈ iw_tbl := iw_mm 3 (by decide +kernel) rfl
theorem wn_X8_isIdea : Cond.initialized yX8_isIdea.cls ∈ iw_tbl := iw_mm 34 (by decide +kernel) rfl
theorem wc_X8_isIdea : Cond.code yX8_isIdea cX8_isIdea 2 (some .boolean) ∈ iw_tbl := iw_mm 383 (by decide +kernel) rfl
theorem cv_X8_113 : iw_CV RX8 113 RX8 yX8_isIdea cX8_isIdea 2 (some .boolean) 1 := iw_cv (iw_mm 380 (by decide +kernel) rfl) wi_X8_isIdea wl_X8_isIdea wn_X8_isIdea wc_X8_isIdea (by decide +kernel)
theorem wi_X3_handsOf : Cond.instanceMethod yX3_handsOf ∈ iw_tbl := iw_mm 385 (by decide +kernel) rfl
theorem wl_X3_handsOf : Cond.selects RX3 yX3_handsOf yX3_handsOf ∈ iw_tbl := iw_mm 386 (by decide +kernel) rfl
theorem wn_X3_handsOf : Cond.initialized yX3_handsOf.cls ∈ iw_tbl := iw_mm 41 (by decide +kernel) rfl
theorem wc_X3_handsOf : Cond.code yX3_handsOf cX3_handsOf 2 (some .long) ∈ iw_tbl := iw_mm 387 (by decide +kernel) rfl
theorem cv_X8_116 : iw_CV RX8 116 RX3 yX3_handsOf cX3_handsOf 2 (some .long) 1 := iw_cv (iw_mm 384 (by decide +kernel) rfl) wi_X3_handsOf wl_X3_handsOf wn_X3_handsOf wc_X3_handsOf (by decide +kernel)
theorem cs_X8_120 : iw_CS RX8 120 yX8_has cX8_has 3 (some .boolean) 2 := iw_cs (iw_mm 388 (by decide +kernel) rfl) wt_X8_has wn_X8_has wc_X8_has (by decide +kernel)
theorem wi_X3_teamSize : Cond.instanceMethod yX3_teamSize ∈ iw_tbl := iw_mm 390 (by decide +kernel) rfl
theorem wl_X3_teamSize : Cond.selects RX3 yX3_teamSize yX3_teamSize ∈ iw_tbl := iw_mm 391 (by decide +kernel) rfl
theorem wn_X3_teamSize : Cond.initialized yX3_teamSize.cls ∈ iw_tbl := iw_mm 41 (by decide +kernel) rfl
theorem wc_X3_teamSize : Cond.code yX3_teamSize cX3_teamSize 2 (some .int) ∈ iw_tbl := iw_mm 392 (by decide +kernel) rfl
theorem cv_X8_124 : iw_CV RX8 124 RX3 yX3_teamSize cX3_teamSize 2 (some .int) 1 := iw_cv (iw_mm 389 (by decide +kernel) rfl) wi_X3_teamSize wl_X3_teamSize wn_X3_teamSize wc_X3_teamSize (by decide +kernel)
theorem wt_J13_bitCount_95d88 : Cond.static yJ13_bitCount_95d88 ∈ iw_tbl := iw_mm 394 (by decide +kernel) rfl
theorem wn_J13_bitCount_95d88 : Cond.initialized yJ13_bitCount_95d88.cls ∈ iw_tbl := iw_mm 46 (by decide +kernel) rfl
theorem wc_J13_bitCount_95d88 : Cond.code yJ13_bitCount_95d88 cJ13_bitCount_95d88 2 (some .int) ∈ iw_tbl := iw_mm 395 (by decide +kernel) rfl
theorem cs_X3_47 : iw_CS RX3 47 yJ13_bitCount_95d88 cJ13_bitCount_95d88 2 (some .int) 1 := iw_cs (iw_mm 393 (by decide +kernel) rfl) wt_J13_bitCount_95d88 wn_J13_bitCount_95d88 wc_J13_bitCount_95d88 (by decide +kernel)
theorem wi_X8_set : Cond.instanceMethod yX8_set ∈ iw_tbl := iw_mm 400 (by decide +kernel) rfl
theorem wl_X8_set : Cond.selects RX8 yX8_set yX8_set ∈ iw_tbl := iw_mm 401 (by decide +kernel) rfl
theorem wn_X8_set : Cond.initialized yX8_set.cls ∈ iw_tbl := iw_mm 34 (by decide +kernel) rfl
theorem wc_X8_set : Cond.code yX8_set cX8_set 4 (some .int) ∈ iw_tbl := iw_mm 402 (by decide +kernel) rfl
theorem cv_L_33 : iw_CV RL 33 RX8 yX8_set cX8_set 4 (some .int) 2 := iw_cv (iw_mm 399 (by decide +kernel) rfl) wi_X8_set wl_X8_set wn_X8_set wc_X8_set (by decide +kernel)
theorem wi_X1_build : Cond.instanceMethod yX1_build ∈ iw_tbl := iw_mm 408 (by decide +kernel) rfl
theorem wl_X1_build : Cond.selects RX1 yX1_build yX1_build ∈ iw_tbl := iw_mm 409 (by decide +kernel) rfl
theorem wn_X1_build : Cond.initialized yX1_build.cls ∈ iw_tbl := iw_mm 42 (by decide +kernel) rfl
theorem wc_X1_build : Cond.code yX1_build cX1_build 3 none ∈ iw_tbl := iw_mm 410 (by decide +kernel) rfl
theorem cv_X8_137 : iw_CV RX8 137 RX1 yX1_build cX1_build 3 none 1 := iw_cv (iw_mm 407 (by decide +kernel) rfl) wi_X1_build wl_X1_build wn_X1_build wc_X1_build (by decide +kernel)
theorem cv_X1_25 : iw_CV RX1 25 RX1 yX1_admit cX1_admit 4 none 2 := iw_cv (iw_mm 411 (by decide +kernel) rfl) wi_X1_admit wl_X1_admit wn_X1_admit wc_X1_admit (by decide +kernel)
theorem wi_X8_like : Cond.instanceMethod yX8_like ∈ iw_tbl := iw_mm 413 (by decide +kernel) rfl
theorem wl_X8_like : Cond.selects RX8 yX8_like yX8_like ∈ iw_tbl := iw_mm 414 (by decide +kernel) rfl
theorem wn_X8_like : Cond.initialized yX8_like.cls ∈ iw_tbl := iw_mm 34 (by decide +kernel) rfl
theorem wc_X8_like : Cond.code yX8_like cX8_like 3 (some .int) ∈ iw_tbl := iw_mm 415 (by decide +kernel) rfl
theorem cv_L_37 : iw_CV RL 37 RX8 yX8_like cX8_like 3 (some .int) 2 := iw_cv (iw_mm 412 (by decide +kernel) rfl) wi_X8_like wl_X8_like wn_X8_like wc_X8_like (by decide +kernel)
theorem cs_X8_144 : iw_CS RX8 144 yX8_likeness cX8_likeness 2 (some .int) 2 := iw_cs (iw_mm 416 (by decide +kernel) rfl) wt_X8_likeness wn_X8_likeness wc_X8_likeness (by decide +kernel)
theorem wi_X8_family : Cond.instanceMethod yX8_family ∈ iw_tbl := iw_mm 418 (by decide +kernel) rfl
theorem wl_X8_family : Cond.selects RX8 yX8_family yX8_family ∈ iw_tbl := iw_mm 419 (by decide +kernel) rfl
theorem wn_X8_family : Cond.initialized yX8_family.cls ∈ iw_tbl := iw_mm 34 (by decide +kernel) rfl
theorem wc_X8_family : Cond.code yX8_family cX8_family 2 (some .int) ∈ iw_tbl := iw_mm 420 (by decide +kernel) rfl
theorem cv_L_41 : iw_CV RL 41 RX8 yX8_family cX8_family 2 (some .int) 1 := iw_cv (iw_mm 417 (by decide +kernel) rfl) wi_X8_family wl_X8_family wn_X8_family wc_X8_family (by decide +kernel)
theorem wi_X8_head : Cond.instanceMethod yX8_head ∈ iw_tbl := iw_mm 422 (by decide +kernel) rfl
theorem wl_X8_head : Cond.selects RX8 yX8_head yX8_head ∈ iw_tbl := iw_mm 423 (by decide +kernel) rfl
theorem wn_X8_head : Cond.initialized yX8_head.cls ∈ iw_tbl := iw_mm 34 (by decide +kernel) rfl
theorem wc_X8_head : Cond.code yX8_head cX8_head 2 (some .int) ∈ iw_tbl := iw_mm 424 (by decide +kernel) rfl
theorem cv_L_45 : iw_CV RL 45 RX8 yX8_head cX8_head 2 (some .int) 1 := iw_cv (iw_mm 421 (by decide +kernel) rfl) wi_X8_head wl_X8_head wn_X8_head wc_X8_head (by decide +kernel)
theorem wi_X1_headOf : Cond.instanceMethod yX1_headOf ∈ iw_tbl := iw_mm 426 (by decide +kernel) rfl
theorem wl_X1_headOf : Cond.selects RX1 yX1_headOf yX1_headOf ∈ iw_tbl := iw_mm 427 (by decide +kernel) rfl
theorem wn_X1_headOf : Cond.initialized yX1_headOf.cls ∈ iw_tbl := iw_mm 42 (by decide +kernel) rfl
theorem wc_X1_headOf : Cond.code yX1_headOf cX1_headOf 4 (some .int) ∈ iw_tbl := iw_mm 428 (by decide +kernel) rfl
theorem cv_X8_151 : iw_CV RX8 151 RX1 yX1_headOf cX1_headOf 4 (some .int) 1 := iw_cv (iw_mm 425 (by decide +kernel) rfl) wi_X1_headOf wl_X1_headOf wn_X1_headOf wc_X1_headOf (by decide +kernel)
theorem wi_X3_isAhead : Cond.instanceMethod yX3_isAhead ∈ iw_tbl := iw_mm 430 (by decide +kernel) rfl
theorem wl_X3_isAhead : Cond.selects RX3 yX3_isAhead yX3_isAhead ∈ iw_tbl := iw_mm 431 (by decide +kernel) rfl
theorem wn_X3_isAhead : Cond.initialized yX3_isAhead.cls ∈ iw_tbl := iw_mm 41 (by decide +kernel) rfl
theorem wc_X3_isAhead : Cond.code yX3_isAhead cX3_isAhead 3 (some .boolean) ∈ iw_tbl := iw_mm 432 (by decide +kernel) rfl
theorem cv_X1_46 : iw_CV RX1 46 RX3 yX3_isAhead cX3_isAhead 3 (some .boolean) 2 := iw_cv (iw_mm 429 (by decide +kernel) rfl) wi_X3_isAhead wl_X3_isAhead wn_X3_isAhead wc_X3_isAhead (by decide +kernel)
theorem wi_X8_share : Cond.instanceMethod yX8_share ∈ iw_tbl := iw_mm 434 (by decide +kernel) rfl
theorem wl_X8_share : Cond.selects RX8 yX8_share yX8_share ∈ iw_tbl := iw_mm 435 (by decide +kernel) rfl
theorem wn_X8_share : Cond.initialized yX8_share.cls ∈ iw_tbl := iw_mm 34 (by decide +kernel) rfl
theorem wc_X8_share : Cond.code yX8_share cX8_share 2 (some .int) ∈ iw_tbl := iw_mm 436 (by decide +kernel) rfl
theorem cv_L_49 : iw_CV RL 49 RX8 yX8_share cX8_share 2 (some .int) 1 := iw_cv (iw_mm 433 (by decide +kernel) rfl) wi_X8_share wl_X8_share wn_X8_share wc_X8_share (by decide +kernel)
theorem wi_X1_shareOf : Cond.instanceMethod yX1_shareOf ∈ iw_tbl := iw_mm 438 (by decide +kernel) rfl
theorem wl_X1_shareOf : Cond.selects RX1 yX1_shareOf yX1_shareOf ∈ iw_tbl := iw_mm 439 (by decide +kernel) rfl
theorem wn_X1_shareOf : Cond.initialized yX1_shareOf.cls ∈ iw_tbl := iw_mm 42 (by decide +kernel) rfl
theorem wc_X1_shareOf : Cond.code yX1_shareOf cX1_shareOf 8 (some .int) ∈ iw_tbl := iw_mm 440 (by decide +kernel) rfl
theorem cv_X8_154 : iw_CV RX8 154 RX1 yX1_shareOf cX1_shareOf 8 (some .int) 2 := iw_cv (iw_mm 437 (by decide +kernel) rfl) wi_X1_shareOf wl_X1_shareOf wn_X1_shareOf wc_X1_shareOf (by decide +kernel)
theorem cv_X1_50 : iw_CV RX1 50 RX1 yX1_headOf cX1_headOf 4 (some .int) 1 := iw_cv (iw_mm 441 (by decide +kernel) rfl) wi_X1_headOf wl_X1_headOf wn_X1_headOf wc_X1_headOf (by decide +kernel)
theorem wi_X8_judge : Cond.instanceMethod yX8_judge ∈ iw_tbl := iw_mm 443 (by decide +kernel) rfl
theorem wl_X8_judge : Cond.selects RX8 yX8_judge yX8_judge ∈ iw_tbl := iw_mm 444 (by decide +kernel) rfl
theorem wn_X8_judge : Cond.initialized yX8_judge.cls ∈ iw_tbl := iw_mm 34 (by decide +kernel) rfl
theorem wc_X8_judge : Cond.code yX8_judge cX8_judge 4 (some .int) ∈ iw_tbl := iw_mm 445 (by decide +kernel) rfl
theorem cv_L_53 : iw_CV RL 53 RX8 yX8_judge cX8_judge 4 (some .int) 2 := iw_cv (iw_mm 442 (by decide +kernel) rfl) wi_X8_judge wl_X8_judge wn_X8_judge wc_X8_judge (by decide +kernel)
theorem wi_X8_may : Cond.instanceMethod yX8_may ∈ iw_tbl := iw_mm 447 (by decide +kernel) rfl
theorem wl_X8_may : Cond.selects RX8 yX8_may yX8_may ∈ iw_tbl := iw_mm 448 (by decide +kernel) rfl
theorem wn_X8_may : Cond.initialized yX8_may.cls ∈ iw_tbl := iw_mm 34 (by decide +kernel) rfl
theorem wc_X8_may : Cond.code yX8_may cX8_may 3 (some .int) ∈ iw_tbl := iw_mm 449 (by decide +kernel) rfl
theorem cv_L_58 : iw_CV RL 58 RX8 yX8_may cX8_may 3 (some .int) 2 := iw_cv (iw_mm 446 (by decide +kernel) rfl) wi_X8_may wl_X8_may wn_X8_may wc_X8_may (by decide +kernel)
theorem wi_X8_judgesFor : Cond.instanceMethod yX8_judgesFor ∈ iw_tbl := iw_mm 452 (by decide +kernel) rfl
theorem wl_X8_judgesFor : Cond.selects RX8 yX8_judgesFor yX8_judgesFor ∈ iw_tbl := iw_mm 4 (by decide +kernel) rfl
theorem wn_X8_judgesFor : Cond.initialized yX8_judgesFor.cls ∈ iw_tbl := iw_mm 34 (by decide +kernel) rfl
theorem wc_X8_judgesFor : Cond.code yX8_judgesFor cX8_judgesFor 4 (some .long) ∈ iw_tbl := iw_mm 453 (by decide +kernel) rfl
theorem cv_X8_161 : iw_CV RX8 161 RX8 yX8_judgesFor cX8_judgesFor 4 (some .long) 1 := iw_cv (iw_mm 450 (by decide +kernel) rfl) wi_X8_judgesFor wl_X8_judgesFor wn_X8_judgesFor wc_X8_judgesFor (by decide +kernel)
theorem wi_X1_handsOf : Cond.instanceMethod yX1_handsOf ∈ iw_tbl := iw_mm 455 (by decide +kernel) rfl
theorem wl_X1_handsOf : Cond.selects RX1 yX1_handsOf yX1_handsOf ∈ iw_tbl := iw_mm 456 (by decide +kernel) rfl
theorem wn_X1_handsOf : Cond.initialized yX1_handsOf.cls ∈ iw_tbl := iw_mm 42 (by decide +kernel) rfl
theorem wc_X1_handsOf : Cond.code yX1_handsOf cX1_handsOf 5 (some .long) ∈ iw_tbl := iw_mm 457 (by decide +kernel) rfl
theorem cv_X8_287 : iw_CV RX8 287 RX1 yX1_handsOf cX1_handsOf 5 (some .long) 1 := iw_cv (iw_mm 454 (by decide +kernel) rfl) wi_X1_handsOf wl_X1_handsOf wn_X1_handsOf wc_X1_handsOf (by decide +kernel)
theorem cv_X1_57 : iw_CV RX1 57 RX3 yX3_handsOf cX3_handsOf 2 (some .long) 1 := iw_cv (iw_mm 458 (by decide +kernel) rfl) wi_X3_handsOf wl_X3_handsOf wn_X3_handsOf wc_X3_handsOf (by decide +kernel)
theorem wi_X2_withKin : Cond.instanceMethod yX2_withKin ∈ iw_tbl := iw_mm 460 (by decide +kernel) rfl
theorem wl_X2_withKin : Cond.selects RX2 yX2_withKin yX2_withKin ∈ iw_tbl := iw_mm 461 (by decide +kernel) rfl
theorem wn_X2_withKin : Cond.initialized yX2_withKin.cls ∈ iw_tbl := iw_mm 35 (by decide +kernel) rfl
theorem wc_X2_withKin : Cond.code yX2_withKin cX2_withKin 6 (some .long) ∈ iw_tbl := iw_mm 462 (by decide +kernel) rfl
theorem cv_X8_288 : iw_CV RX8 288 RX2 yX2_withKin cX2_withKin 6 (some .long) 1 := iw_cv (iw_mm 459 (by decide +kernel) rfl) wi_X2_withKin wl_X2_withKin wn_X2_withKin wc_X2_withKin (by decide +kernel)
theorem wi_X2_judgesOutside : Cond.instanceMethod yX2_judgesOutside ∈ iw_tbl := iw_mm 464 (by decide +kernel) rfl
theorem wl_X2_judgesOutside : Cond.selects RX2 yX2_judgesOutside yX2_judgesOutside ∈ iw_tbl := iw_mm 465 (by decide +kernel) rfl
theorem wn_X2_judgesOutside : Cond.initialized yX2_judgesOutside.cls ∈ iw_tbl := iw_mm 35 (by decide +kernel) rfl
theorem wc_X2_judgesOutside : Cond.code yX2_judgesOutside cX2_judgesOutside 5 (some .long) ∈ iw_tbl := iw_mm 466 (by decide +kernel) rfl
theorem cv_X8_292 : iw_CV RX8 292 RX2 yX2_judgesOutside cX2_judgesOutside 5 (some .long) 1 := iw_cv (iw_mm 463 (by decide +kernel) rfl) wi_X2_judgesOutside wl_X2_judgesOutside wn_X2_judgesOutside wc_X2_judgesOutside (by decide +kernel)
theorem wi_X8_judgeOf : Cond.instanceMethod yX8_judgeOf ∈ iw_tbl := iw_mm 469 (by decide +kernel) rfl
theorem wl_X8_judgeOf : Cond.selects RX8 yX8_judgeOf yX8_judgeOf ∈ iw_tbl := iw_mm 470 (by decide +kernel) rfl
theorem wn_X8_judgeOf : Cond.initialized yX8_judgeOf.cls ∈ iw_tbl := iw_mm 34 (by decide +kernel) rfl
theorem wc_X8_judgeOf : Cond.code yX8_judgeOf cX8_judgeOf 7 (some .int) ∈ iw_tbl := iw_mm 471 (by decide +kernel) rfl
theorem cv_L_62 : iw_CV RL 62 RX8 yX8_judgeOf cX8_judgeOf 7 (some .int) 2 := iw_cv (iw_mm 468 (by decide +kernel) rfl) wi_X8_judgeOf wl_X8_judgeOf wn_X8_judgeOf wc_X8_judgeOf (by decide +kernel)
theorem wi_X2_leastNamed : Cond.instanceMethod yX2_leastNamed ∈ iw_tbl := iw_mm 473 (by decide +kernel) rfl
theorem wl_X2_leastNamed : Cond.selects RX2 yX2_leastNamed yX2_leastNamed ∈ iw_tbl := iw_mm 474 (by decide +kernel) rfl
theorem wn_X2_leastNamed : Cond.initialized yX2_leastNamed.cls ∈ iw_tbl := iw_mm 35 (by decide +kernel) rfl
theorem wc_X2_leastNamed : Cond.code yX2_leastNamed cX2_leastNamed 5 (some .int) ∈ iw_tbl := iw_mm 475 (by decide +kernel) rfl
theorem cv_X8_164 : iw_CV RX8 164 RX2 yX2_leastNamed cX2_leastNamed 5 (some .int) 1 := iw_cv (iw_mm 472 (by decide +kernel) rfl) wi_X2_leastNamed wl_X2_leastNamed wn_X2_leastNamed wc_X2_leastNamed (by decide +kernel)
theorem wt_X8_without : Cond.static yX8_without ∈ iw_tbl := iw_mm 477 (by decide +kernel) rfl
theorem wn_X8_without : Cond.initialized yX8_without.cls ∈ iw_tbl := iw_mm 34 (by decide +kernel) rfl
theorem wc_X8_without : Cond.code yX8_without cX8_without 3 (some .long) ∈ iw_tbl := iw_mm 478 (by decide +kernel) rfl
theorem cs_X8_168 : iw_CS RX8 168 yX8_without cX8_without 3 (some .long) 2 := iw_cs (iw_mm 476 (by decide +kernel) rfl) wt_X8_without wn_X8_without wc_X8_without (by decide +kernel)
theorem wi_X8_decide : Cond.instanceMethod yX8_decide ∈ iw_tbl := iw_mm 480 (by decide +kernel) rfl
theorem wl_X8_decide : Cond.selects RX8 yX8_decide yX8_decide ∈ iw_tbl := iw_mm 481 (by decide +kernel) rfl
theorem wn_X8_decide : Cond.initialized yX8_decide.cls ∈ iw_tbl := iw_mm 34 (by decide +kernel) rfl
theorem wc_X8_decide : Cond.code yX8_decide cX8_decide 10 (some .int) ∈ iw_tbl := iw_mm 482 (by decide +kernel) rfl
theorem cv_L_66 : iw_CV RL 66 RX8 yX8_decide cX8_decide 10 (some .int) 4 := iw_cv (iw_mm 479 (by decide +kernel) rfl) wi_X8_decide wl_X8_decide wn_X8_decide wc_X8_decide (by decide +kernel)
theorem wi_X8_nameThird : Cond.instanceMethod yX8_nameThird ∈ iw_tbl := iw_mm 485 (by decide +kernel) rfl
theorem wl_X8_nameThird : Cond.selects RX8 yX8_nameThird yX8_nameThird ∈ iw_tbl := iw_mm 5 (by decide +kernel) rfl
theorem wn_X8_nameThird : Cond.initialized yX8_nameThird.cls ∈ iw_tbl := iw_mm 34 (by decide +kernel) rfl
theorem wc_X8_nameThird : Cond.code yX8_nameThird cX8_nameThird 4 (some .boolean) ∈ iw_tbl := iw_mm 486 (by decide +kernel) rfl
theorem cv_X8_178 : iw_CV RX8 178 RX8 yX8_nameThird cX8_nameThird 4 (some .boolean) 1 := iw_cv (iw_mm 483 (by decide +kernel) rfl) wi_X8_nameThird wl_X8_nameThird wn_X8_nameThird wc_X8_nameThird (by decide +kernel)
theorem wi_X8_takeFamily : Cond.instanceMethod yX8_takeFamily ∈ iw_tbl := iw_mm 489 (by decide +kernel) rfl
theorem wl_X8_takeFamily : Cond.selects RX8 yX8_takeFamily yX8_takeFamily ∈ iw_tbl := iw_mm 6 (by decide +kernel) rfl
theorem wn_X8_takeFamily : Cond.initialized yX8_takeFamily.cls ∈ iw_tbl := iw_mm 34 (by decide +kernel) rfl
theorem wc_X8_takeFamily : Cond.code yX8_takeFamily cX8_takeFamily 3 none ∈ iw_tbl := iw_mm 490 (by decide +kernel) rfl
theorem cv_X8_182 : iw_CV RX8 182 RX8 yX8_takeFamily cX8_takeFamily 3 none 1 := iw_cv (iw_mm 487 (by decide +kernel) rfl) wi_X8_takeFamily wl_X8_takeFamily wn_X8_takeFamily wc_X8_takeFamily (by decide +kernel)
theorem wi_X8_settle : Cond.instanceMethod yX8_settle ∈ iw_tbl := iw_mm 493 (by decide +kernel) rfl
theorem wl_X8_settle : Cond.selects RX8 yX8_settle yX8_settle ∈ iw_tbl := iw_mm 7 (by decide +kernel) rfl
theorem wn_X8_settle : Cond.initialized yX8_settle.cls ∈ iw_tbl := iw_mm 34 (by decide +kernel) rfl
theorem wc_X8_settle : Cond.code yX8_settle cX8_settle 5 (some .int) ∈ iw_tbl := iw_mm 494 (by decide +kernel) rfl
theorem cv_X8_185 : iw_CV RX8 185 RX8 yX8_settle cX8_settle 5 (some .int) 2 := iw_cv (iw_mm 491 (by decide +kernel) rfl) wi_X8_settle wl_X8_settle wn_X8_settle wc_X8_settle (by decide +kernel)
theorem mm_X8_295 : iw_MM RX8 295 Lib.Math.max.name Lib.Math.max.code := ⟨iw_mm 495 (by decide +kernel) rfl, iw_mm 374 (by decide +kernel) rfl, iw_mm 45 (by decide +kernel) rfl, iw_mm 375 (by decide +kernel) rfl⟩
theorem wi_X8_days : Cond.instanceMethod yX8_days ∈ iw_tbl := iw_mm 497 (by decide +kernel) rfl
theorem wl_X8_days : Cond.selects RX8 yX8_days yX8_days ∈ iw_tbl := iw_mm 498 (by decide +kernel) rfl
theorem wn_X8_days : Cond.initialized yX8_days.cls ∈ iw_tbl := iw_mm 34 (by decide +kernel) rfl
theorem wc_X8_days : Cond.code yX8_days cX8_days 5 (some .int) ∈ iw_tbl := iw_mm 499 (by decide +kernel) rfl
theorem cv_L_71 : iw_CV RL 71 RX8 yX8_days cX8_days 5 (some .int) 1 := iw_cv (iw_mm 496 (by decide +kernel) rfl) wi_X8_days wl_X8_days wn_X8_days wc_X8_days (by decide +kernel)
theorem wi_X8_payYearsSince : Cond.instanceMethod yX8_payYearsSince ∈ iw_tbl := iw_mm 502 (by decide +kernel) rfl
theorem wl_X8_payYearsSince : Cond.selects RX8 yX8_payYearsSince yX8_payYearsSince ∈ iw_tbl := iw_mm 8 (by decide +kernel) rfl
theorem wn_X8_payYearsSince : Cond.initialized yX8_payYearsSince.cls ∈ iw_tbl := iw_mm 34 (by decide +kernel) rfl
theorem wc_X8_payYearsSince : Cond.code yX8_payYearsSince cX8_payYearsSince 11 (some .int) ∈ iw_tbl := iw_mm 503 (by decide +kernel) rfl
theorem cv_X8_188 : iw_CV RX8 188 RX8 yX8_payYearsSince cX8_payYearsSince 11 (some .int) 2 := iw_cv (iw_mm 500 (by decide +kernel) rfl) wi_X8_payYearsSince wl_X8_payYearsSince wn_X8_payYearsSince wc_X8_payYearsSince (by decide +kernel)
theorem wi_X8_ruleFor : Cond.instanceMethod yX8_ruleFor ∈ iw_tbl := iw_mm 506 (by decide +kernel) rfl
theorem wl_X8_ruleFor : Cond.selects RX8 yX8_ruleFor yX8_ruleFor ∈ iw_tbl := iw_mm 9 (by decide +kernel) rfl
theorem wn_X8_ruleFor : Cond.initialized yX8_ruleFor.cls ∈ iw_tbl := iw_mm 34 (by decide +kernel) rfl
theorem wc_X8_ruleFor : Cond.code yX8_ruleFor cX8_ruleFor 2 (some .int) ∈ iw_tbl := iw_mm 507 (by decide +kernel) rfl
theorem cv_X8_227 : iw_CV RX8 227 RX8 yX8_ruleFor cX8_ruleFor 2 (some .int) 1 := iw_cv (iw_mm 504 (by decide +kernel) rfl) wi_X8_ruleFor wl_X8_ruleFor wn_X8_ruleFor wc_X8_ruleFor (by decide +kernel)
theorem wi_X5_inForceOn : Cond.instanceMethod yX5_inForceOn ∈ iw_tbl := iw_mm 509 (by decide +kernel) rfl
theorem wl_X5_inForceOn : Cond.selects RX5 yX5_inForceOn yX5_inForceOn ∈ iw_tbl := iw_mm 510 (by decide +kernel) rfl
theorem wn_X5_inForceOn : Cond.initialized yX5_inForceOn.cls ∈ iw_tbl := iw_mm 39 (by decide +kernel) rfl
theorem wc_X5_inForceOn : Cond.code yX5_inForceOn cX5_inForceOn 4 (some .int) ∈ iw_tbl := iw_mm 511 (by decide +kernel) rfl
theorem cv_X8_301 : iw_CV RX8 301 RX5 yX5_inForceOn cX5_inForceOn 4 (some .int) 1 := iw_cv (iw_mm 508 (by decide +kernel) rfl) wi_X5_inForceOn wl_X5_inForceOn wn_X5_inForceOn wc_X5_inForceOn (by decide +kernel)
theorem wi_X8_worthOf : Cond.instanceMethod yX8_worthOf ∈ iw_tbl := iw_mm 514 (by decide +kernel) rfl
theorem wl_X8_worthOf : Cond.selects RX8 yX8_worthOf yX8_worthOf ∈ iw_tbl := iw_mm 10 (by decide +kernel) rfl
theorem wn_X8_worthOf : Cond.initialized yX8_worthOf.cls ∈ iw_tbl := iw_mm 34 (by decide +kernel) rfl
theorem wc_X8_worthOf : Cond.code yX8_worthOf cX8_worthOf 5 (some .int) ∈ iw_tbl := iw_mm 515 (by decide +kernel) rfl
theorem cv_X8_219 : iw_CV RX8 219 RX8 yX8_worthOf cX8_worthOf 5 (some .int) 2 := iw_cv (iw_mm 512 (by decide +kernel) rfl) wi_X8_worthOf wl_X8_worthOf wn_X8_worthOf wc_X8_worthOf (by decide +kernel)
theorem wi_X6_gather : Cond.instanceMethod yX6_gather ∈ iw_tbl := iw_mm 517 (by decide +kernel) rfl
theorem wl_X6_gather : Cond.selects RX6 yX6_gather yX6_gather ∈ iw_tbl := iw_mm 518 (by decide +kernel) rfl
theorem wn_X6_gather : Cond.initialized yX6_gather.cls ∈ iw_tbl := iw_mm 38 (by decide +kernel) rfl
theorem wc_X6_gather : Cond.code yX6_gather cX6_gather 5 none ∈ iw_tbl := iw_mm 519 (by decide +kernel) rfl
theorem cv_X8_205 : iw_CV RX8 205 RX6 yX6_gather cX6_gather 5 none 3 := iw_cv (iw_mm 516 (by decide +kernel) rfl) wi_X6_gather wl_X6_gather wn_X6_gather wc_X6_gather (by decide +kernel)
theorem wi_X6_clear : Cond.instanceMethod yX6_clear ∈ iw_tbl := iw_mm 522 (by decide +kernel) rfl
theorem wl_X6_clear : Cond.selects RX6 yX6_clear yX6_clear ∈ iw_tbl := iw_mm 11 (by decide +kernel) rfl
theorem wn_X6_clear : Cond.initialized yX6_clear.cls ∈ iw_tbl := iw_mm 38 (by decide +kernel) rfl
theorem wc_X6_clear : Cond.code yX6_clear cX6_clear 2 none ∈ iw_tbl := iw_mm 523 (by decide +kernel) rfl
theorem cv_X6_32 : iw_CV RX6 32 RX6 yX6_clear cX6_clear 2 none 0 := iw_cv (iw_mm 520 (by decide +kernel) rfl) wi_X6_clear wl_X6_clear wn_X6_clear wc_X6_clear (by decide +kernel)
theorem wi_X6_addAfter : Cond.instanceMethod yX6_addAfter ∈ iw_tbl := iw_mm 526 (by decide +kernel) rfl
theorem wl_X6_addAfter : Cond.selects RX6 yX6_addAfter yX6_addAfter ∈ iw_tbl := iw_mm 12 (by decide +kernel) rfl
theorem wn_X6_addAfter : Cond.initialized yX6_addAfter.cls ∈ iw_tbl := iw_mm 38 (by decide +kernel) rfl
theorem wc_X6_addAfter : Cond.code yX6_addAfter cX6_addAfter 3 none ∈ iw_tbl := iw_mm 527 (by decide +kernel) rfl
theorem cv_X6_59 : iw_CV RX6 59 RX6 yX6_addAfter cX6_addAfter 3 none 2 := iw_cv (iw_mm 524 (by decide +kernel) rfl) wi_X6_addAfter wl_X6_addAfter wn_X6_addAfter wc_X6_addAfter (by decide +kernel)
theorem mm_X6_72 : iw_MM RX6 72 Lib.Math.max.name Lib.Math.max.code := ⟨iw_mm 528 (by decide +kernel) rfl, iw_mm 374 (by decide +kernel) rfl, iw_mm 45 (by decide +kernel) rfl, iw_mm 375 (by decide +kernel) rfl⟩
theorem wi_X6_addBefore : Cond.instanceMethod yX6_addBefore ∈ iw_tbl := iw_mm 531 (by decide +kernel) rfl
theorem wl_X6_addBefore : Cond.selects RX6 yX6_addBefore yX6_addBefore ∈ iw_tbl := iw_mm 13 (by decide +kernel) rfl
theorem wn_X6_addBefore : Cond.initialized yX6_addBefore.cls ∈ iw_tbl := iw_mm 38 (by decide +kernel) rfl
theorem wc_X6_addBefore : Cond.code yX6_addBefore cX6_addBefore 3 none ∈ iw_tbl := iw_mm 532 (by decide +kernel) rfl
theorem cv_X6_63 : iw_CV RX6 63 RX6 yX6_addBefore cX6_addBefore 3 none 2 := iw_cv (iw_mm 529 (by decide +kernel) rfl) wi_X6_addBefore wl_X6_addBefore wn_X6_addBefore wc_X6_addBefore (by decide +kernel)
theorem mm_X6_66 : iw_MM RX6 66 Lib.Math.min.name Lib.Math.min.code := ⟨iw_mm 533 (by decide +kernel) rfl, iw_mm 371 (by decide +kernel) rfl, iw_mm 45 (by decide +kernel) rfl, iw_mm 372 (by decide +kernel) rfl⟩
theorem wi_X6_beyondDoubt : Cond.instanceMethod yX6_beyondDoubt ∈ iw_tbl := iw_mm 535 (by decide +kernel) rfl
theorem wl_X6_beyondDoubt : Cond.selects RX6 yX6_beyondDoubt yX6_beyondDoubt ∈ iw_tbl := iw_mm 536 (by decide +kernel) rfl
theorem wn_X6_beyondDoubt : Cond.initialized yX6_beyondDoubt.cls ∈ iw_tbl := iw_mm 38 (by decide +kernel) rfl
theorem wc_X6_beyondDoubt : Cond.code yX6_beyondDoubt cX6_beyondDoubt 2 (some .int) ∈ iw_tbl := iw_mm 537 (by decide +kernel) rfl
theorem cv_X8_209 : iw_CV RX8 209 RX6 yX6_beyondDoubt cX6_beyondDoubt 2 (some .int) 1 := iw_cv (iw_mm 534 (by decide +kernel) rfl) wi_X6_beyondDoubt wl_X6_beyondDoubt wn_X6_beyondDoubt wc_X6_beyondDoubt (by decide +kernel)
theorem wi_X6_hasBoth : Cond.instanceMethod yX6_hasBoth ∈ iw_tbl := iw_mm 540 (by decide +kernel) rfl
theorem wl_X6_hasBoth : Cond.selects RX6 yX6_hasBoth yX6_hasBoth ∈ iw_tbl := iw_mm 14 (by decide +kernel) rfl
theorem wn_X6_hasBoth : Cond.initialized yX6_hasBoth.cls ∈ iw_tbl := iw_mm 38 (by decide +kernel) rfl
theorem wc_X6_hasBoth : Cond.code yX6_hasBoth cX6_hasBoth 2 (some .boolean) ∈ iw_tbl := iw_mm 541 (by decide +kernel) rfl
theorem cv_X6_75 : iw_CV RX6 75 RX6 yX6_hasBoth cX6_hasBoth 2 (some .boolean) 1 := iw_cv (iw_mm 538 (by decide +kernel) rfl) wi_X6_hasBoth wl_X6_hasBoth wn_X6_hasBoth wc_X6_hasBoth (by decide +kernel)
theorem wi_X1_harmOf : Cond.instanceMethod yX1_harmOf ∈ iw_tbl := iw_mm 543 (by decide +kernel) rfl
theorem wl_X1_harmOf : Cond.selects RX1 yX1_harmOf yX1_harmOf ∈ iw_tbl := iw_mm 544 (by decide +kernel) rfl
theorem wn_X1_harmOf : Cond.initialized yX1_harmOf.cls ∈ iw_tbl := iw_mm 42 (by decide +kernel) rfl
theorem wc_X1_harmOf : Cond.code yX1_harmOf cX1_harmOf 4 (some .int) ∈ iw_tbl := iw_mm 545 (by decide +kernel) rfl
theorem cv_X8_304 : iw_CV RX8 304 RX1 yX1_harmOf cX1_harmOf 4 (some .int) 1 := iw_cv (iw_mm 542 (by decide +kernel) rfl) wi_X1_harmOf wl_X1_harmOf wn_X1_harmOf wc_X1_harmOf (by decide +kernel)
theorem wt_X8_payFor : Cond.static yX8_payFor ∈ iw_tbl := iw_mm 547 (by decide +kernel) rfl
theorem wn_X8_payFor : Cond.initialized yX8_payFor.cls ∈ iw_tbl := iw_mm 34 (by decide +kernel) rfl
theorem wc_X8_payFor : Cond.code yX8_payFor cX8_payFor 3 (some .int) ∈ iw_tbl := iw_mm 548 (by decide +kernel) rfl
theorem cs_X8_246 : iw_CS RX8 246 yX8_payFor cX8_payFor 3 (some .int) 3 := iw_cs (iw_mm 546 (by decide +kernel) rfl) wt_X8_payFor wn_X8_payFor wc_X8_payFor (by decide +kernel)
theorem mm_X8_282 : iw_MM RX8 282 Lib.Math.min.name Lib.Math.min.code := ⟨iw_mm 549 (by decide +kernel) rfl, iw_mm 371 (by decide +kernel) rfl, iw_mm 45 (by decide +kernel) rfl, iw_mm 372 (by decide +kernel) rfl⟩
theorem wi_X8_payOut : Cond.instanceMethod yX8_payOut ∈ iw_tbl := iw_mm 552 (by decide +kernel) rfl
theorem wl_X8_payOut : Cond.selects RX8 yX8_payOut yX8_payOut ∈ iw_tbl := iw_mm 15 (by decide +kernel) rfl
theorem wn_X8_payOut : Cond.initialized yX8_payOut.cls ∈ iw_tbl := iw_mm 34 (by decide +kernel) rfl
theorem wc_X8_payOut : Cond.code yX8_payOut cX8_payOut 6 none ∈ iw_tbl := iw_mm 553 (by decide +kernel) rfl
theorem cv_X8_316 : iw_CV RX8 316 RX8 yX8_payOut cX8_payOut 6 none 2 := iw_cv (iw_mm 550 (by decide +kernel) rfl) wi_X8_payOut wl_X8_payOut wn_X8_payOut wc_X8_payOut (by decide +kernel)
theorem wi_X8_bench : Cond.instanceMethod yX8_bench ∈ iw_tbl := iw_mm 555 (by decide +kernel) rfl
theorem wl_X8_bench : Cond.selects RX8 yX8_bench yX8_bench ∈ iw_tbl := iw_mm 556 (by decide +kernel) rfl
theorem wn_X8_bench : Cond.initialized yX8_bench.cls ∈ iw_tbl := iw_mm 34 (by decide +kernel) rfl
theorem wc_X8_bench : Cond.code yX8_bench cX8_bench 6 (some .int) ∈ iw_tbl := iw_mm 557 (by decide +kernel) rfl
theorem cv_L_75 : iw_CV RL 75 RX8 yX8_bench cX8_bench 6 (some .int) 3 := iw_cv (iw_mm 554 (by decide +kernel) rfl) wi_X8_bench wl_X8_bench wn_X8_bench wc_X8_bench (by decide +kernel)
theorem wt_X8_isBench : Cond.static yX8_isBench ∈ iw_tbl := iw_mm 559 (by decide +kernel) rfl
theorem wn_X8_isBench : Cond.initialized yX8_isBench.cls ∈ iw_tbl := iw_mm 34 (by decide +kernel) rfl
theorem wc_X8_isBench : Cond.code yX8_isBench cX8_isBench 1 (some .boolean) ∈ iw_tbl := iw_mm 560 (by decide +kernel) rfl
theorem cs_X8_191 : iw_CS RX8 191 yX8_isBench cX8_isBench 1 (some .boolean) 1 := iw_cs (iw_mm 558 (by decide +kernel) rfl) wt_X8_isBench wn_X8_isBench wc_X8_isBench (by decide +kernel)
theorem wi_X8_measure : Cond.instanceMethod yX8_measure ∈ iw_tbl := iw_mm 562 (by decide +kernel) rfl
theorem wl_X8_measure : Cond.selects RX8 yX8_measure yX8_measure ∈ iw_tbl := iw_mm 563 (by decide +kernel) rfl
theorem wn_X8_measure : Cond.initialized yX8_measure.cls ∈ iw_tbl := iw_mm 34 (by decide +kernel) rfl
theorem wc_X8_measure : Cond.code yX8_measure cX8_measure 5 (some .int) ∈ iw_tbl := iw_mm 564 (by decide +kernel) rfl
theorem cv_L_80 : iw_CV RL 80 RX8 yX8_measure cX8_measure 5 (some .int) 4 := iw_cv (iw_mm 561 (by decide +kernel) rfl) wi_X8_measure wl_X8_measure wn_X8_measure wc_X8_measure (by decide +kernel)
theorem wi_X4_add : Cond.instanceMethod yX4_add ∈ iw_tbl := iw_mm 566 (by decide +kernel) rfl
theorem wl_X4_add : Cond.selects RX4 yX4_add yX4_add ∈ iw_tbl := iw_mm 567 (by decide +kernel) rfl
theorem wn_X4_add : Cond.initialized yX4_add.cls ∈ iw_tbl := iw_mm 37 (by decide +kernel) rfl
theorem wc_X4_add : Cond.code yX4_add cX4_add 5 none ∈ iw_tbl := iw_mm 568 (by decide +kernel) rfl
theorem cv_X8_202 : iw_CV RX8 202 RX4 yX4_add cX4_add 5 none 4 := iw_cv (iw_mm 565 (by decide +kernel) rfl) wi_X4_add wl_X4_add wn_X4_add wc_X4_add (by decide +kernel)
theorem wi_X8_saved : Cond.instanceMethod yX8_saved ∈ iw_tbl := iw_mm 570 (by decide +kernel) rfl
theorem wl_X8_saved : Cond.selects RX8 yX8_saved yX8_saved ∈ iw_tbl := iw_mm 571 (by decide +kernel) rfl
theorem wn_X8_saved : Cond.initialized yX8_saved.cls ∈ iw_tbl := iw_mm 34 (by decide +kernel) rfl
theorem wc_X8_saved : Cond.code yX8_saved cX8_saved 4 (some .int) ∈ iw_tbl := iw_mm 572 (by decide +kernel) rfl
theorem cv_L_85 : iw_CV RL 85 RX8 yX8_saved cX8_saved 4 (some .int) 3 := iw_cv (iw_mm 569 (by decide +kernel) rfl) wi_X8_saved wl_X8_saved wn_X8_saved wc_X8_saved (by decide +kernel)
theorem wi_X6_hoped : Cond.instanceMethod yX6_hoped ∈ iw_tbl := iw_mm 574 (by decide +kernel) rfl
theorem wl_X6_hoped : Cond.selects RX6 yX6_hoped yX6_hoped ∈ iw_tbl := iw_mm 575 (by decide +kernel) rfl
theorem wn_X6_hoped : Cond.initialized yX6_hoped.cls ∈ iw_tbl := iw_mm 38 (by decide +kernel) rfl
theorem wc_X6_hoped : Cond.code yX6_hoped cX6_hoped 2 (some .int) ∈ iw_tbl := iw_mm 576 (by decide +kernel) rfl
theorem cv_X8_212 : iw_CV RX8 212 RX6 yX6_hoped cX6_hoped 2 (some .int) 1 := iw_cv (iw_mm 573 (by decide +kernel) rfl) wi_X6_hoped wl_X6_hoped wn_X6_hoped wc_X6_hoped (by decide +kernel)
theorem wi_X8_harm : Cond.instanceMethod yX8_harm ∈ iw_tbl := iw_mm 578 (by decide +kernel) rfl
theorem wl_X8_harm : Cond.selects RX8 yX8_harm yX8_harm ∈ iw_tbl := iw_mm 579 (by decide +kernel) rfl
theorem wn_X8_harm : Cond.initialized yX8_harm.cls ∈ iw_tbl := iw_mm 34 (by decide +kernel) rfl
theorem wc_X8_harm : Cond.code yX8_harm cX8_harm 4 (some .int) ∈ iw_tbl := iw_mm 580 (by decide +kernel) rfl
theorem cv_L_89 : iw_CV RL 89 RX8 yX8_harm cX8_harm 4 (some .int) 2 := iw_cv (iw_mm 577 (by decide +kernel) rfl) wi_X8_harm wl_X8_harm wn_X8_harm wc_X8_harm (by decide +kernel)
theorem wi_X8_worth : Cond.instanceMethod yX8_worth ∈ iw_tbl := iw_mm 583 (by decide +kernel) rfl
theorem wl_X8_worth : Cond.selects RX8 yX8_worth yX8_worth ∈ iw_tbl := iw_mm 584 (by decide +kernel) rfl
theorem wn_X8_worth : Cond.initialized yX8_worth.cls ∈ iw_tbl := iw_mm 34 (by decide +kernel) rfl
theorem wc_X8_worth : Cond.code yX8_worth cX8_worth 2 (some .int) ∈ iw_tbl := iw_mm 585 (by decide +kernel) rfl
theorem cv_L_93 : iw_CV RL 93 RX8 yX8_worth cX8_worth 2 (some .int) 1 := iw_cv (iw_mm 582 (by decide +kernel) rfl) wi_X8_worth wl_X8_worth wn_X8_worth wc_X8_worth (by decide +kernel)
theorem wi_X8_rule : Cond.instanceMethod yX8_rule ∈ iw_tbl := iw_mm 587 (by decide +kernel) rfl
theorem wl_X8_rule : Cond.selects RX8 yX8_rule yX8_rule ∈ iw_tbl := iw_mm 588 (by decide +kernel) rfl
theorem wn_X8_rule : Cond.initialized yX8_rule.cls ∈ iw_tbl := iw_mm 34 (by decide +kernel) rfl
theorem wc_X8_rule : Cond.code yX8_rule cX8_rule 5 (some .int) ∈ iw_tbl := iw_mm 589 (by decide +kernel) rfl
theorem cv_L_97 : iw_CV RL 97 RX8 yX8_rule cX8_rule 5 (some .int) 4 := iw_cv (iw_mm 586 (by decide +kernel) rfl) wi_X8_rule wl_X8_rule wn_X8_rule wc_X8_rule (by decide +kernel)
theorem wi_X5_add : Cond.instanceMethod yX5_add ∈ iw_tbl := iw_mm 591 (by decide +kernel) rfl
theorem wl_X5_add : Cond.selects RX5 yX5_add yX5_add ∈ iw_tbl := iw_mm 592 (by decide +kernel) rfl
theorem wn_X5_add : Cond.initialized yX5_add.cls ∈ iw_tbl := iw_mm 39 (by decide +kernel) rfl
theorem wc_X5_add : Cond.code yX5_add cX5_add 5 (some .int) ∈ iw_tbl := iw_mm 593 (by decide +kernel) rfl
theorem cv_X8_224 : iw_CV RX8 224 RX5 yX5_add cX5_add 5 (some .int) 4 := iw_cv (iw_mm 590 (by decide +kernel) rfl) wi_X5_add wl_X5_add wn_X5_add wc_X5_add (by decide +kernel)
theorem wi_X8_ruleOf : Cond.instanceMethod yX8_ruleOf ∈ iw_tbl := iw_mm 595 (by decide +kernel) rfl
theorem wl_X8_ruleOf : Cond.selects RX8 yX8_ruleOf yX8_ruleOf ∈ iw_tbl := iw_mm 596 (by decide +kernel) rfl
theorem wn_X8_ruleOf : Cond.initialized yX8_ruleOf.cls ∈ iw_tbl := iw_mm 34 (by decide +kernel) rfl
theorem wc_X8_ruleOf : Cond.code yX8_ruleOf cX8_ruleOf 2 (some .int) ∈ iw_tbl := iw_mm 597 (by decide +kernel) rfl
theorem cv_L_101 : iw_CV RL 101 RX8 yX8_ruleOf cX8_ruleOf 2 (some .int) 1 := iw_cv (iw_mm 594 (by decide +kernel) rfl) wi_X8_ruleOf wl_X8_ruleOf wn_X8_ruleOf wc_X8_ruleOf (by decide +kernel)
theorem wi_X8_work : Cond.instanceMethod yX8_work ∈ iw_tbl := iw_mm 599 (by decide +kernel) rfl
theorem wl_X8_work : Cond.selects RX8 yX8_work yX8_work ∈ iw_tbl := iw_mm 600 (by decide +kernel) rfl
theorem wn_X8_work : Cond.initialized yX8_work.cls ∈ iw_tbl := iw_mm 34 (by decide +kernel) rfl
theorem wc_X8_work : Cond.code yX8_work cX8_work 4 (some .int) ∈ iw_tbl := iw_mm 601 (by decide +kernel) rfl
theorem cv_L_105 : iw_CV RL 105 RX8 yX8_work cX8_work 4 (some .int) 2 := iw_cv (iw_mm 598 (by decide +kernel) rfl) wi_X8_work wl_X8_work wn_X8_work wc_X8_work (by decide +kernel)
theorem wi_X3_turnedDownLike : Cond.instanceMethod yX3_turnedDownLike ∈ iw_tbl := iw_mm 603 (by decide +kernel) rfl
theorem wl_X3_turnedDownLike : Cond.selects RX3 yX3_turnedDownLike yX3_turnedDownLike ∈ iw_tbl := iw_mm 604 (by decide +kernel) rfl
theorem wn_X3_turnedDownLike : Cond.initialized yX3_turnedDownLike.cls ∈ iw_tbl := iw_mm 41 (by decide +kernel) rfl
theorem wc_X3_turnedDownLike : Cond.code yX3_turnedDownLike cX3_turnedDownLike 8 (some .int) ∈ iw_tbl := iw_mm 605 (by decide +kernel) rfl
theorem cv_X8_231 : iw_CV RX8 231 RX3 yX3_turnedDownLike cX3_turnedDownLike 8 (some .int) 3 := iw_cv (iw_mm 602 (by decide +kernel) rfl) wi_X3_turnedDownLike wl_X3_turnedDownLike wn_X3_turnedDownLike wc_X3_turnedDownLike (by decide +kernel)
theorem cv_X3_57 : iw_CV RX3 57 RX3 yX3_isAhead cX3_isAhead 3 (some .boolean) 2 := iw_cv (iw_mm 606 (by decide +kernel) rfl) wi_X3_isAhead wl_X3_isAhead wn_X3_isAhead wc_X3_isAhead (by decide +kernel)
theorem wi_X7_add : Cond.instanceMethod yX7_add ∈ iw_tbl := iw_mm 608 (by decide +kernel) rfl
theorem wl_X7_add : Cond.selects RX7 yX7_add yX7_add ∈ iw_tbl := iw_mm 609 (by decide +kernel) rfl
theorem wn_X7_add : Cond.initialized yX7_add.cls ∈ iw_tbl := iw_mm 40 (by decide +kernel) rfl
theorem wc_X7_add : Cond.code yX7_add cX7_add 2 none ∈ iw_tbl := iw_mm 610 (by decide +kernel) rfl
theorem cv_X8_235 : iw_CV RX8 235 RX7 yX7_add cX7_add 2 none 1 := iw_cv (iw_mm 607 (by decide +kernel) rfl) wi_X7_add wl_X7_add wn_X7_add wc_X7_add (by decide +kernel)
theorem wi_X8_ledBack : Cond.instanceMethod yX8_ledBack ∈ iw_tbl := iw_mm 612 (by decide +kernel) rfl
theorem wl_X8_ledBack : Cond.selects RX8 yX8_ledBack yX8_ledBack ∈ iw_tbl := iw_mm 613 (by decide +kernel) rfl
theorem wn_X8_ledBack : Cond.initialized yX8_ledBack.cls ∈ iw_tbl := iw_mm 34 (by decide +kernel) rfl
theorem wc_X8_ledBack : Cond.code yX8_ledBack cX8_ledBack 2 (some .int) ∈ iw_tbl := iw_mm 614 (by decide +kernel) rfl
theorem cv_L_109 : iw_CV RL 109 RX8 yX8_ledBack cX8_ledBack 2 (some .int) 1 := iw_cv (iw_mm 611 (by decide +kernel) rfl) wi_X8_ledBack wl_X8_ledBack wn_X8_ledBack wc_X8_ledBack (by decide +kernel)
theorem wi_X8_reopen : Cond.instanceMethod yX8_reopen ∈ iw_tbl := iw_mm 616 (by decide +kernel) rfl
theorem wl_X8_reopen : Cond.selects RX8 yX8_reopen yX8_reopen ∈ iw_tbl := iw_mm 617 (by decide +kernel) rfl
theorem wn_X8_reopen : Cond.initialized yX8_reopen.cls ∈ iw_tbl := iw_mm 34 (by decide +kernel) rfl
theorem wc_X8_reopen : Cond.code yX8_reopen cX8_reopen 2 (some .int) ∈ iw_tbl := iw_mm 618 (by decide +kernel) rfl
theorem cv_L_113 : iw_CV RL 113 RX8 yX8_reopen cX8_reopen 2 (some .int) 1 := iw_cv (iw_mm 615 (by decide +kernel) rfl) wi_X8_reopen wl_X8_reopen wn_X8_reopen wc_X8_reopen (by decide +kernel)
theorem wi_X7_ledBackTo : Cond.instanceMethod yX7_ledBackTo ∈ iw_tbl := iw_mm 620 (by decide +kernel) rfl
theorem wl_X7_ledBackTo : Cond.selects RX7 yX7_ledBackTo yX7_ledBackTo ∈ iw_tbl := iw_mm 621 (by decide +kernel) rfl
theorem wn_X7_ledBackTo : Cond.initialized yX7_ledBackTo.cls ∈ iw_tbl := iw_mm 40 (by decide +kernel) rfl
theorem wc_X7_ledBackTo : Cond.code yX7_ledBackTo cX7_ledBackTo 3 (some .boolean) ∈ iw_tbl := iw_mm 622 (by decide +kernel) rfl
theorem cv_X8_240 : iw_CV RX8 240 RX7 yX7_ledBackTo cX7_ledBackTo 3 (some .boolean) 1 := iw_cv (iw_mm 619 (by decide +kernel) rfl) wi_X7_ledBackTo wl_X7_ledBackTo wn_X7_ledBackTo wc_X7_ledBackTo (by decide +kernel)
theorem wi_X8_other : Cond.instanceMethod yX8_other ∈ iw_tbl := iw_mm 624 (by decide +kernel) rfl
theorem wl_X8_other : Cond.selects RX8 yX8_other yX8_other ∈ iw_tbl := iw_mm 625 (by decide +kernel) rfl
theorem wn_X8_other : Cond.initialized yX8_other.cls ∈ iw_tbl := iw_mm 34 (by decide +kernel) rfl
theorem wc_X8_other : Cond.code yX8_other cX8_other 6 (some .int) ∈ iw_tbl := iw_mm 626 (by decide +kernel) rfl
theorem cv_L_117 : iw_CV RL 117 RX8 yX8_other cX8_other 6 (some .int) 3 := iw_cv (iw_mm 623 (by decide +kernel) rfl) wi_X8_other wl_X8_other wn_X8_other wc_X8_other (by decide +kernel)
theorem wi_X1_hasTaken : Cond.instanceMethod yX1_hasTaken ∈ iw_tbl := iw_mm 628 (by decide +kernel) rfl
theorem wl_X1_hasTaken : Cond.selects RX1 yX1_hasTaken yX1_hasTaken ∈ iw_tbl := iw_mm 629 (by decide +kernel) rfl
theorem wn_X1_hasTaken : Cond.initialized yX1_hasTaken.cls ∈ iw_tbl := iw_mm 42 (by decide +kernel) rfl
theorem wc_X1_hasTaken : Cond.code yX1_hasTaken cX1_hasTaken 3 (some .boolean) ∈ iw_tbl := iw_mm 630 (by decide +kernel) rfl
theorem cv_X8_243 : iw_CV RX8 243 RX1 yX1_hasTaken cX1_hasTaken 3 (some .boolean) 1 := iw_cv (iw_mm 627 (by decide +kernel) rfl) wi_X1_hasTaken wl_X1_hasTaken wn_X1_hasTaken wc_X1_hasTaken (by decide +kernel)
theorem wi_X8_coins : Cond.instanceMethod yX8_coins ∈ iw_tbl := iw_mm 632 (by decide +kernel) rfl
theorem wl_X8_coins : Cond.selects RX8 yX8_coins yX8_coins ∈ iw_tbl := iw_mm 633 (by decide +kernel) rfl
theorem wn_X8_coins : Cond.initialized yX8_coins.cls ∈ iw_tbl := iw_mm 34 (by decide +kernel) rfl
theorem wc_X8_coins : Cond.code yX8_coins cX8_coins 3 (some .int) ∈ iw_tbl := iw_mm 634 (by decide +kernel) rfl
theorem cv_L_121 : iw_CV RL 121 RX8 yX8_coins cX8_coins 3 (some .int) 2 := iw_cv (iw_mm 631 (by decide +kernel) rfl) wi_X8_coins wl_X8_coins wn_X8_coins wc_X8_coins (by decide +kernel)
theorem wi_X8_ideaOf : Cond.instanceMethod yX8_ideaOf ∈ iw_tbl := iw_mm 636 (by decide +kernel) rfl
theorem wl_X8_ideaOf : Cond.selects RX8 yX8_ideaOf yX8_ideaOf ∈ iw_tbl := iw_mm 637 (by decide +kernel) rfl
theorem wn_X8_ideaOf : Cond.initialized yX8_ideaOf.cls ∈ iw_tbl := iw_mm 34 (by decide +kernel) rfl
theorem wc_X8_ideaOf : Cond.code yX8_ideaOf cX8_ideaOf 3 (some .int) ∈ iw_tbl := iw_mm 638 (by decide +kernel) rfl
theorem cv_L_125 : iw_CV RL 125 RX8 yX8_ideaOf cX8_ideaOf 3 (some .int) 2 := iw_cv (iw_mm 635 (by decide +kernel) rfl) wi_X8_ideaOf wl_X8_ideaOf wn_X8_ideaOf wc_X8_ideaOf (by decide +kernel)
theorem wi_X8_count : Cond.instanceMethod yX8_count ∈ iw_tbl := iw_mm 640 (by decide +kernel) rfl
theorem wl_X8_count : Cond.selects RX8 yX8_count yX8_count ∈ iw_tbl := iw_mm 641 (by decide +kernel) rfl
theorem wn_X8_count : Cond.initialized yX8_count.cls ∈ iw_tbl := iw_mm 34 (by decide +kernel) rfl
theorem wc_X8_count : Cond.code yX8_count cX8_count 2 (some .int) ∈ iw_tbl := iw_mm 642 (by decide +kernel) rfl
theorem cv_L_129 : iw_CV RL 129 RX8 yX8_count cX8_count 2 (some .int) 1 := iw_cv (iw_mm 639 (by decide +kernel) rfl) wi_X8_count wl_X8_count wn_X8_count wc_X8_count (by decide +kernel)
theorem wi_X3_howMany : Cond.instanceMethod yX3_howMany ∈ iw_tbl := iw_mm 644 (by decide +kernel) rfl
theorem wl_X3_howMany : Cond.selects RX3 yX3_howMany yX3_howMany ∈ iw_tbl := iw_mm 645 (by decide +kernel) rfl
theorem wn_X3_howMany : Cond.initialized yX3_howMany.cls ∈ iw_tbl := iw_mm 41 (by decide +kernel) rfl
theorem wc_X3_howMany : Cond.code yX3_howMany cX3_howMany 4 (some .int) ∈ iw_tbl := iw_mm 646 (by decide +kernel) rfl
theorem cv_X8_265 : iw_CV RX8 265 RX3 yX3_howMany cX3_howMany 4 (some .int) 1 := iw_cv (iw_mm 643 (by decide +kernel) rfl) wi_X3_howMany wl_X3_howMany wn_X3_howMany wc_X3_howMany (by decide +kernel)
theorem wi_X1_howMany : Cond.instanceMethod yX1_howMany ∈ iw_tbl := iw_mm 648 (by decide +kernel) rfl
theorem wl_X1_howMany : Cond.selects RX1 yX1_howMany yX1_howMany ∈ iw_tbl := iw_mm 649 (by decide +kernel) rfl
theorem wn_X1_howMany : Cond.initialized yX1_howMany.cls ∈ iw_tbl := iw_mm 42 (by decide +kernel) rfl
theorem wc_X1_howMany : Cond.code yX1_howMany cX1_howMany 3 (some .int) ∈ iw_tbl := iw_mm 650 (by decide +kernel) rfl
theorem cv_X8_268 : iw_CV RX8 268 RX1 yX1_howMany cX1_howMany 3 (some .int) 0 := iw_cv (iw_mm 647 (by decide +kernel) rfl) wi_X1_howMany wl_X1_howMany wn_X1_howMany wc_X1_howMany (by decide +kernel)
theorem wi_X2_coinsInAll : Cond.instanceMethod yX2_coinsInAll ∈ iw_tbl := iw_mm 652 (by decide +kernel) rfl
theorem wl_X2_coinsInAll : Cond.selects RX2 yX2_coinsInAll yX2_coinsInAll ∈ iw_tbl := iw_mm 653 (by decide +kernel) rfl
theorem wn_X2_coinsInAll : Cond.initialized yX2_coinsInAll.cls ∈ iw_tbl := iw_mm 35 (by decide +kernel) rfl
theorem wc_X2_coinsInAll : Cond.code yX2_coinsInAll cX2_coinsInAll 3 (some .int) ∈ iw_tbl := iw_mm 654 (by decide +kernel) rfl
theorem cv_X8_271 : iw_CV RX8 271 RX2 yX2_coinsInAll cX2_coinsInAll 3 (some .int) 0 := iw_cv (iw_mm 651 (by decide +kernel) rfl) wi_X2_coinsInAll wl_X2_coinsInAll wn_X2_coinsInAll wc_X2_coinsInAll (by decide +kernel)
theorem wi_X9_hand : Cond.instanceMethod yX9_hand ∈ iw_tbl := iw_mm 792 (by decide +kernel) rfl
theorem wl_X9_hand : Cond.selects RX9 yX9_hand yX9_hand ∈ iw_tbl := iw_mm 793 (by decide +kernel) rfl
theorem wn_X9_hand : Cond.initialized yX9_hand.cls ∈ iw_tbl := iw_mm 43 (by decide +kernel) rfl
theorem wc_X9_hand : Cond.code yX9_hand cX9_hand 2 (some .int) ∈ iw_tbl := iw_mm 794 (by decide +kernel) rfl
theorem cv_L_17 : iw_CV RL 17 RX9 yX9_hand cX9_hand 2 (some .int) 1 := iw_cv (iw_mm 791 (by decide +kernel) rfl) wi_X9_hand wl_X9_hand wn_X9_hand wc_X9_hand (by decide +kernel)
theorem wt_X9_isShop : Cond.static yX9_isShop ∈ iw_tbl := iw_mm 796 (by decide +kernel) rfl
theorem wn_X9_isShop : Cond.initialized yX9_isShop.cls ∈ iw_tbl := iw_mm 43 (by decide +kernel) rfl
theorem wc_X9_isShop : Cond.code yX9_isShop cX9_isShop 1 (some .boolean) ∈ iw_tbl := iw_mm 797 (by decide +kernel) rfl
theorem cs_X9_124 : iw_CS RX9 124 yX9_isShop cX9_isShop 1 (some .boolean) 1 := iw_cs (iw_mm 795 (by decide +kernel) rfl) wt_X9_isShop wn_X9_isShop wc_X9_isShop (by decide +kernel)
theorem wi_X9_no : Cond.instanceMethod yX9_no ∈ iw_tbl := iw_mm 800 (by decide +kernel) rfl
theorem wl_X9_no : Cond.selects RX9 yX9_no yX9_no ∈ iw_tbl := iw_mm 16 (by decide +kernel) rfl
theorem wn_X9_no : Cond.initialized yX9_no.cls ∈ iw_tbl := iw_mm 43 (by decide +kernel) rfl
theorem wc_X9_no : Cond.code yX9_no cX9_no 2 (some .int) ∈ iw_tbl := iw_mm 801 (by decide +kernel) rfl
theorem cv_X9_128 : iw_CV RX9 128 RX9 yX9_no cX9_no 2 (some .int) 1 := iw_cv (iw_mm 798 (by decide +kernel) rfl) wi_X9_no wl_X9_no wn_X9_no wc_X9_no (by decide +kernel)
theorem wi_X9_kin : Cond.instanceMethod yX9_kin ∈ iw_tbl := iw_mm 803 (by decide +kernel) rfl
theorem wl_X9_kin : Cond.selects RX9 yX9_kin yX9_kin ∈ iw_tbl := iw_mm 804 (by decide +kernel) rfl
theorem wn_X9_kin : Cond.initialized yX9_kin.cls ∈ iw_tbl := iw_mm 43 (by decide +kernel) rfl
theorem wc_X9_kin : Cond.code yX9_kin cX9_kin 4 (some .int) ∈ iw_tbl := iw_mm 805 (by decide +kernel) rfl
theorem cv_L_22 : iw_CV RL 22 RX9 yX9_kin cX9_kin 4 (some .int) 3 := iw_cv (iw_mm 802 (by decide +kernel) rfl) wi_X9_kin wl_X9_kin wn_X9_kin wc_X9_kin (by decide +kernel)
theorem wi_X9_isHand : Cond.instanceMethod yX9_isHand ∈ iw_tbl := iw_mm 808 (by decide +kernel) rfl
theorem wl_X9_isHand : Cond.selects RX9 yX9_isHand yX9_isHand ∈ iw_tbl := iw_mm 17 (by decide +kernel) rfl
theorem wn_X9_isHand : Cond.initialized yX9_isHand.cls ∈ iw_tbl := iw_mm 43 (by decide +kernel) rfl
theorem wc_X9_isHand : Cond.code yX9_isHand cX9_isHand 2 (some .boolean) ∈ iw_tbl := iw_mm 809 (by decide +kernel) rfl
theorem cv_X9_132 : iw_CV RX9 132 RX9 yX9_isHand cX9_isHand 2 (some .boolean) 1 := iw_cv (iw_mm 806 (by decide +kernel) rfl) wi_X9_isHand wl_X9_isHand wn_X9_isHand wc_X9_isHand (by decide +kernel)
theorem wi_X9_idea : Cond.instanceMethod yX9_idea ∈ iw_tbl := iw_mm 811 (by decide +kernel) rfl
theorem wl_X9_idea : Cond.selects RX9 yX9_idea yX9_idea ∈ iw_tbl := iw_mm 812 (by decide +kernel) rfl
theorem wn_X9_idea : Cond.initialized yX9_idea.cls ∈ iw_tbl := iw_mm 43 (by decide +kernel) rfl
theorem wc_X9_idea : Cond.code yX9_idea cX9_idea 5 (some .int) ∈ iw_tbl := iw_mm 813 (by decide +kernel) rfl
theorem cv_L_27 : iw_CV RL 27 RX9 yX9_idea cX9_idea 5 (some .int) 4 := iw_cv (iw_mm 810 (by decide +kernel) rfl) wi_X9_idea wl_X9_idea wn_X9_idea wc_X9_idea (by decide +kernel)
theorem wt_X9_isMarks : Cond.static yX9_isMarks ∈ iw_tbl := iw_mm 815 (by decide +kernel) rfl
theorem wn_X9_isMarks : Cond.initialized yX9_isMarks.cls ∈ iw_tbl := iw_mm 43 (by decide +kernel) rfl
theorem wc_X9_isMarks : Cond.code yX9_isMarks cX9_isMarks 1 (some .boolean) ∈ iw_tbl := iw_mm 816 (by decide +kernel) rfl
theorem cs_X9_135 : iw_CS RX9 135 yX9_isMarks cX9_isMarks 1 (some .boolean) 1 := iw_cs (iw_mm 814 (by decide +kernel) rfl) wt_X9_isMarks wn_X9_isMarks wc_X9_isMarks (by decide +kernel)
theorem wi_X9_team : Cond.instanceMethod yX9_team ∈ iw_tbl := iw_mm 819 (by decide +kernel) rfl
theorem wl_X9_team : Cond.selects RX9 yX9_team yX9_team ∈ iw_tbl := iw_mm 820 (by decide +kernel) rfl
theorem wn_X9_team : Cond.initialized yX9_team.cls ∈ iw_tbl := iw_mm 43 (by decide +kernel) rfl
theorem wc_X9_team : Cond.code yX9_team cX9_team 3 (some .int) ∈ iw_tbl := iw_mm 821 (by decide +kernel) rfl
theorem cv_L_32 : iw_CV RL 32 RX9 yX9_team cX9_team 3 (some .int) 2 := iw_cv (iw_mm 818 (by decide +kernel) rfl) wi_X9_team wl_X9_team wn_X9_team wc_X9_team (by decide +kernel)
theorem wi_X9_isIdea : Cond.instanceMethod yX9_isIdea ∈ iw_tbl := iw_mm 824 (by decide +kernel) rfl
theorem wl_X9_isIdea : Cond.selects RX9 yX9_isIdea yX9_isIdea ∈ iw_tbl := iw_mm 18 (by decide +kernel) rfl
theorem wn_X9_isIdea : Cond.initialized yX9_isIdea.cls ∈ iw_tbl := iw_mm 43 (by decide +kernel) rfl
theorem wc_X9_isIdea : Cond.code yX9_isIdea cX9_isIdea 2 (some .boolean) ∈ iw_tbl := iw_mm 825 (by decide +kernel) rfl
theorem cv_X9_141 : iw_CV RX9 141 RX9 yX9_isIdea cX9_isIdea 2 (some .boolean) 1 := iw_cv (iw_mm 822 (by decide +kernel) rfl) wi_X9_isIdea wl_X9_isIdea wn_X9_isIdea wc_X9_isIdea (by decide +kernel)
theorem wi_X9_isOf : Cond.instanceMethod yX9_isOf ∈ iw_tbl := iw_mm 828 (by decide +kernel) rfl
theorem wl_X9_isOf : Cond.selects RX9 yX9_isOf yX9_isOf ∈ iw_tbl := iw_mm 19 (by decide +kernel) rfl
theorem wn_X9_isOf : Cond.initialized yX9_isOf.cls ∈ iw_tbl := iw_mm 43 (by decide +kernel) rfl
theorem wc_X9_isOf : Cond.code yX9_isOf cX9_isOf 4 (some .boolean) ∈ iw_tbl := iw_mm 829 (by decide +kernel) rfl
theorem cv_X9_144 : iw_CV RX9 144 RX9 yX9_isOf cX9_isOf 4 (some .boolean) 2 := iw_cv (iw_mm 826 (by decide +kernel) rfl) wi_X9_isOf wl_X9_isOf wn_X9_isOf wc_X9_isOf (by decide +kernel)
theorem wi_X9_set : Cond.instanceMethod yX9_set ∈ iw_tbl := iw_mm 831 (by decide +kernel) rfl
theorem wl_X9_set : Cond.selects RX9 yX9_set yX9_set ∈ iw_tbl := iw_mm 832 (by decide +kernel) rfl
theorem wn_X9_set : Cond.initialized yX9_set.cls ∈ iw_tbl := iw_mm 43 (by decide +kernel) rfl
theorem wc_X9_set : Cond.code yX9_set cX9_set 4 (some .int) ∈ iw_tbl := iw_mm 833 (by decide +kernel) rfl
theorem cv_L_36 : iw_CV RL 36 RX9 yX9_set cX9_set 4 (some .int) 2 := iw_cv (iw_mm 830 (by decide +kernel) rfl) wi_X9_set wl_X9_set wn_X9_set wc_X9_set (by decide +kernel)
theorem wi_X9_like : Cond.instanceMethod yX9_like ∈ iw_tbl := iw_mm 835 (by decide +kernel) rfl
theorem wl_X9_like : Cond.selects RX9 yX9_like yX9_like ∈ iw_tbl := iw_mm 836 (by decide +kernel) rfl
theorem wn_X9_like : Cond.initialized yX9_like.cls ∈ iw_tbl := iw_mm 43 (by decide +kernel) rfl
theorem wc_X9_like : Cond.code yX9_like cX9_like 3 (some .int) ∈ iw_tbl := iw_mm 837 (by decide +kernel) rfl
theorem cv_L_40 : iw_CV RL 40 RX9 yX9_like cX9_like 3 (some .int) 2 := iw_cv (iw_mm 834 (by decide +kernel) rfl) wi_X9_like wl_X9_like wn_X9_like wc_X9_like (by decide +kernel)
theorem wt_X9_likeness : Cond.static yX9_likeness ∈ iw_tbl := iw_mm 839 (by decide +kernel) rfl
theorem wn_X9_likeness : Cond.initialized yX9_likeness.cls ∈ iw_tbl := iw_mm 43 (by decide +kernel) rfl
theorem wc_X9_likeness : Cond.code yX9_likeness cX9_likeness 2 (some .int) ∈ iw_tbl := iw_mm 840 (by decide +kernel) rfl
theorem cs_X9_151 : iw_CS RX9 151 yX9_likeness cX9_likeness 2 (some .int) 2 := iw_cs (iw_mm 838 (by decide +kernel) rfl) wt_X9_likeness wn_X9_likeness wc_X9_likeness (by decide +kernel)
theorem wt_X9_bits : Cond.static yX9_bits ∈ iw_tbl := iw_mm 842 (by decide +kernel) rfl
theorem wn_X9_bits : Cond.initialized yX9_bits.cls ∈ iw_tbl := iw_mm 43 (by decide +kernel) rfl
theorem wc_X9_bits : Cond.code yX9_bits cX9_bits 3 (some .int) ∈ iw_tbl := iw_mm 843 (by decide +kernel) rfl
theorem cs_X9_148 : iw_CS RX9 148 yX9_bits cX9_bits 3 (some .int) 1 := iw_cs (iw_mm 841 (by decide +kernel) rfl) wt_X9_bits wn_X9_bits wc_X9_bits (by decide +kernel)
theorem wi_X9_family : Cond.instanceMethod yX9_family ∈ iw_tbl := iw_mm 845 (by decide +kernel) rfl
theorem wl_X9_family : Cond.selects RX9 yX9_family yX9_family ∈ iw_tbl := iw_mm 846 (by decide +kernel) rfl
theorem wn_X9_family : Cond.initialized yX9_family.cls ∈ iw_tbl := iw_mm 43 (by decide +kernel) rfl
theorem wc_X9_family : Cond.code yX9_family cX9_family 2 (some .int) ∈ iw_tbl := iw_mm 847 (by decide +kernel) rfl
theorem cv_L_44 : iw_CV RL 44 RX9 yX9_family cX9_family 2 (some .int) 1 := iw_cv (iw_mm 844 (by decide +kernel) rfl) wi_X9_family wl_X9_family wn_X9_family wc_X9_family (by decide +kernel)
theorem wi_X9_families : Cond.instanceMethod yX9_families ∈ iw_tbl := iw_mm 850 (by decide +kernel) rfl
theorem wl_X9_families : Cond.selects RX9 yX9_families yX9_families ∈ iw_tbl := iw_mm 20 (by decide +kernel) rfl
theorem wn_X9_families : Cond.initialized yX9_families.cls ∈ iw_tbl := iw_mm 43 (by decide +kernel) rfl
theorem wc_X9_families : Cond.code yX9_families cX9_families 6 none ∈ iw_tbl := iw_mm 851 (by decide +kernel) rfl
theorem cv_X9_155 : iw_CV RX9 155 RX9 yX9_families cX9_families 6 none 1 := iw_cv (iw_mm 848 (by decide +kernel) rfl) wi_X9_families wl_X9_families wn_X9_families wc_X9_families (by decide +kernel)
theorem wi_X9_head : Cond.instanceMethod yX9_head ∈ iw_tbl := iw_mm 853 (by decide +kernel) rfl
theorem wl_X9_head : Cond.selects RX9 yX9_head yX9_head ∈ iw_tbl := iw_mm 854 (by decide +kernel) rfl
theorem wn_X9_head : Cond.initialized yX9_head.cls ∈ iw_tbl := iw_mm 43 (by decide +kernel) rfl
theorem wc_X9_head : Cond.code yX9_head cX9_head 2 (some .int) ∈ iw_tbl := iw_mm 855 (by decide +kernel) rfl
theorem cv_L_48 : iw_CV RL 48 RX9 yX9_head cX9_head 2 (some .int) 1 := iw_cv (iw_mm 852 (by decide +kernel) rfl) wi_X9_head wl_X9_head wn_X9_head wc_X9_head (by decide +kernel)
theorem wi_X9_headOf : Cond.instanceMethod yX9_headOf ∈ iw_tbl := iw_mm 858 (by decide +kernel) rfl
theorem wl_X9_headOf : Cond.selects RX9 yX9_headOf yX9_headOf ∈ iw_tbl := iw_mm 21 (by decide +kernel) rfl
theorem wn_X9_headOf : Cond.initialized yX9_headOf.cls ∈ iw_tbl := iw_mm 43 (by decide +kernel) rfl
theorem wc_X9_headOf : Cond.code yX9_headOf cX9_headOf 4 (some .int) ∈ iw_tbl := iw_mm 859 (by decide +kernel) rfl
theorem cv_X9_162 : iw_CV RX9 162 RX9 yX9_headOf cX9_headOf 4 (some .int) 1 := iw_cv (iw_mm 856 (by decide +kernel) rfl) wi_X9_headOf wl_X9_headOf wn_X9_headOf wc_X9_headOf (by decide +kernel)
theorem wi_X9_isAhead : Cond.instanceMethod yX9_isAhead ∈ iw_tbl := iw_mm 862 (by decide +kernel) rfl
theorem wl_X9_isAhead : Cond.selects RX9 yX9_isAhead yX9_isAhead ∈ iw_tbl := iw_mm 22 (by decide +kernel) rfl
theorem wn_X9_isAhead : Cond.initialized yX9_isAhead.cls ∈ iw_tbl := iw_mm 43 (by decide +kernel) rfl
theorem wc_X9_isAhead : Cond.code yX9_isAhead cX9_isAhead 3 (some .boolean) ∈ iw_tbl := iw_mm 863 (by decide +kernel) rfl
theorem cv_X9_159 : iw_CV RX9 159 RX9 yX9_isAhead cX9_isAhead 3 (some .boolean) 2 := iw_cv (iw_mm 860 (by decide +kernel) rfl) wi_X9_isAhead wl_X9_isAhead wn_X9_isAhead wc_X9_isAhead (by decide +kernel)
theorem wi_X9_share : Cond.instanceMethod yX9_share ∈ iw_tbl := iw_mm 865 (by decide +kernel) rfl
theorem wl_X9_share : Cond.selects RX9 yX9_share yX9_share ∈ iw_tbl := iw_mm 866 (by decide +kernel) rfl
theorem wn_X9_share : Cond.initialized yX9_share.cls ∈ iw_tbl := iw_mm 43 (by decide +kernel) rfl
theorem wc_X9_share : Cond.code yX9_share cX9_share 2 (some .int) ∈ iw_tbl := iw_mm 867 (by decide +kernel) rfl
theorem cv_L_52 : iw_CV RL 52 RX9 yX9_share cX9_share 2 (some .int) 1 := iw_cv (iw_mm 864 (by decide +kernel) rfl) wi_X9_share wl_X9_share wn_X9_share wc_X9_share (by decide +kernel)
theorem wi_X9_shareOf : Cond.instanceMethod yX9_shareOf ∈ iw_tbl := iw_mm 870 (by decide +kernel) rfl
theorem wl_X9_shareOf : Cond.selects RX9 yX9_shareOf yX9_shareOf ∈ iw_tbl := iw_mm 23 (by decide +kernel) rfl
theorem wn_X9_shareOf : Cond.initialized yX9_shareOf.cls ∈ iw_tbl := iw_mm 43 (by decide +kernel) rfl
theorem wc_X9_shareOf : Cond.code yX9_shareOf cX9_shareOf 7 (some .int) ∈ iw_tbl := iw_mm 871 (by decide +kernel) rfl
theorem cv_X9_165 : iw_CV RX9 165 RX9 yX9_shareOf cX9_shareOf 7 (some .int) 1 := iw_cv (iw_mm 868 (by decide +kernel) rfl) wi_X9_shareOf wl_X9_shareOf wn_X9_shareOf wc_X9_shareOf (by decide +kernel)
theorem wi_X9_judge : Cond.instanceMethod yX9_judge ∈ iw_tbl := iw_mm 873 (by decide +kernel) rfl
theorem wl_X9_judge : Cond.selects RX9 yX9_judge yX9_judge ∈ iw_tbl := iw_mm 874 (by decide +kernel) rfl
theorem wn_X9_judge : Cond.initialized yX9_judge.cls ∈ iw_tbl := iw_mm 43 (by decide +kernel) rfl
theorem wc_X9_judge : Cond.code yX9_judge cX9_judge 3 (some .int) ∈ iw_tbl := iw_mm 875 (by decide +kernel) rfl
theorem cv_L_57 : iw_CV RL 57 RX9 yX9_judge cX9_judge 3 (some .int) 2 := iw_cv (iw_mm 872 (by decide +kernel) rfl) wi_X9_judge wl_X9_judge wn_X9_judge wc_X9_judge (by decide +kernel)
theorem wi_X9_may : Cond.instanceMethod yX9_may ∈ iw_tbl := iw_mm 877 (by decide +kernel) rfl
theorem wl_X9_may : Cond.selects RX9 yX9_may yX9_may ∈ iw_tbl := iw_mm 878 (by decide +kernel) rfl
theorem wn_X9_may : Cond.initialized yX9_may.cls ∈ iw_tbl := iw_mm 43 (by decide +kernel) rfl
theorem wc_X9_may : Cond.code yX9_may cX9_may 3 (some .int) ∈ iw_tbl := iw_mm 879 (by decide +kernel) rfl
theorem cv_L_61 : iw_CV RL 61 RX9 yX9_may cX9_may 3 (some .int) 2 := iw_cv (iw_mm 876 (by decide +kernel) rfl) wi_X9_may wl_X9_may wn_X9_may wc_X9_may (by decide +kernel)
theorem wi_X9_mayJudge : Cond.instanceMethod yX9_mayJudge ∈ iw_tbl := iw_mm 882 (by decide +kernel) rfl
theorem wl_X9_mayJudge : Cond.selects RX9 yX9_mayJudge yX9_mayJudge ∈ iw_tbl := iw_mm 24 (by decide +kernel) rfl
theorem wn_X9_mayJudge : Cond.initialized yX9_mayJudge.cls ∈ iw_tbl := iw_mm 43 (by decide +kernel) rfl
theorem wc_X9_mayJudge : Cond.code yX9_mayJudge cX9_mayJudge 5 (some .boolean) ∈ iw_tbl := iw_mm 883 (by decide +kernel) rfl
theorem cv_X9_168 : iw_CV RX9 168 RX9 yX9_mayJudge cX9_mayJudge 5 (some .boolean) 2 := iw_cv (iw_mm 880 (by decide +kernel) rfl) wi_X9_mayJudge wl_X9_mayJudge wn_X9_mayJudge wc_X9_mayJudge (by decide +kernel)
theorem wi_X9_judgeOf : Cond.instanceMethod yX9_judgeOf ∈ iw_tbl := iw_mm 885 (by decide +kernel) rfl
theorem wl_X9_judgeOf : Cond.selects RX9 yX9_judgeOf yX9_judgeOf ∈ iw_tbl := iw_mm 886 (by decide +kernel) rfl
theorem wn_X9_judgeOf : Cond.initialized yX9_judgeOf.cls ∈ iw_tbl := iw_mm 43 (by decide +kernel) rfl
theorem wc_X9_judgeOf : Cond.code yX9_judgeOf cX9_judgeOf 5 (some .int) ∈ iw_tbl := iw_mm 887 (by decide +kernel) rfl
theorem cv_L_65 : iw_CV RL 65 RX9 yX9_judgeOf cX9_judgeOf 5 (some .int) 2 := iw_cv (iw_mm 884 (by decide +kernel) rfl) wi_X9_judgeOf wl_X9_judgeOf wn_X9_judgeOf wc_X9_judgeOf (by decide +kernel)
theorem wi_X9_nextJudge : Cond.instanceMethod yX9_nextJudge ∈ iw_tbl := iw_mm 890 (by decide +kernel) rfl
theorem wl_X9_nextJudge : Cond.selects RX9 yX9_nextJudge yX9_nextJudge ∈ iw_tbl := iw_mm 25 (by decide +kernel) rfl
theorem wn_X9_nextJudge : Cond.initialized yX9_nextJudge.cls ∈ iw_tbl := iw_mm 43 (by decide +kernel) rfl
theorem wc_X9_nextJudge : Cond.code yX9_nextJudge cX9_nextJudge 6 (some .int) ∈ iw_tbl := iw_mm 891 (by decide +kernel) rfl
theorem cv_X9_171 : iw_CV RX9 171 RX9 yX9_nextJudge cX9_nextJudge 6 (some .int) 3 := iw_cv (iw_mm 888 (by decide +kernel) rfl) wi_X9_nextJudge wl_X9_nextJudge wn_X9_nextJudge wc_X9_nextJudge (by decide +kernel)
theorem wi_X9_decide : Cond.instanceMethod yX9_decide ∈ iw_tbl := iw_mm 893 (by decide +kernel) rfl
theorem wl_X9_decide : Cond.selects RX9 yX9_decide yX9_decide ∈ iw_tbl := iw_mm 894 (by decide +kernel) rfl
theorem wn_X9_decide : Cond.initialized yX9_decide.cls ∈ iw_tbl := iw_mm 43 (by decide +kernel) rfl
theorem wc_X9_decide : Cond.code yX9_decide cX9_decide 9 (some .int) ∈ iw_tbl := iw_mm 895 (by decide +kernel) rfl
theorem cv_L_70 : iw_CV RL 70 RX9 yX9_decide cX9_decide 9 (some .int) 4 := iw_cv (iw_mm 892 (by decide +kernel) rfl) wi_X9_decide wl_X9_decide wn_X9_decide wc_X9_decide (by decide +kernel)
theorem wi_X9_settles : Cond.instanceMethod yX9_settles ∈ iw_tbl := iw_mm 898 (by decide +kernel) rfl
theorem wl_X9_settles : Cond.selects RX9 yX9_settles yX9_settles ∈ iw_tbl := iw_mm 26 (by decide +kernel) rfl
theorem wn_X9_settles : Cond.initialized yX9_settles.cls ∈ iw_tbl := iw_mm 43 (by decide +kernel) rfl
theorem wc_X9_settles : Cond.code yX9_settles cX9_settles 3 (some .int) ∈ iw_tbl := iw_mm 899 (by decide +kernel) rfl
theorem cv_X9_181 : iw_CV RX9 181 RX9 yX9_settles cX9_settles 3 (some .int) 2 := iw_cv (iw_mm 896 (by decide +kernel) rfl) wi_X9_settles wl_X9_settles wn_X9_settles wc_X9_settles (by decide +kernel)
theorem wi_X9_delay : Cond.instanceMethod yX9_delay ∈ iw_tbl := iw_mm 902 (by decide +kernel) rfl
theorem wl_X9_delay : Cond.selects RX9 yX9_delay yX9_delay ∈ iw_tbl := iw_mm 27 (by decide +kernel) rfl
theorem wn_X9_delay : Cond.initialized yX9_delay.cls ∈ iw_tbl := iw_mm 43 (by decide +kernel) rfl
theorem wc_X9_delay : Cond.code yX9_delay cX9_delay 4 (some .int) ∈ iw_tbl := iw_mm 903 (by decide +kernel) rfl
theorem cv_X9_178 : iw_CV RX9 178 RX9 yX9_delay cX9_delay 4 (some .int) 1 := iw_cv (iw_mm 900 (by decide +kernel) rfl) wi_X9_delay wl_X9_delay wn_X9_delay wc_X9_delay (by decide +kernel)
theorem wi_X9_bench : Cond.instanceMethod yX9_bench ∈ iw_tbl := iw_mm 905 (by decide +kernel) rfl
theorem wl_X9_bench : Cond.selects RX9 yX9_bench yX9_bench ∈ iw_tbl := iw_mm 906 (by decide +kernel) rfl
theorem wn_X9_bench : Cond.initialized yX9_bench.cls ∈ iw_tbl := iw_mm 43 (by decide +kernel) rfl
theorem wc_X9_bench : Cond.code yX9_bench cX9_bench 5 (some .int) ∈ iw_tbl := iw_mm 907 (by decide +kernel) rfl
theorem cv_L_79 : iw_CV RL 79 RX9 yX9_bench cX9_bench 5 (some .int) 3 := iw_cv (iw_mm 904 (by decide +kernel) rfl) wi_X9_bench wl_X9_bench wn_X9_bench wc_X9_bench (by decide +kernel)
theorem wt_X9_isBench : Cond.static yX9_isBench ∈ iw_tbl := iw_mm 909 (by decide +kernel) rfl
theorem wn_X9_isBench : Cond.initialized yX9_isBench.cls ∈ iw_tbl := iw_mm 43 (by decide +kernel) rfl
theorem wc_X9_isBench : Cond.code yX9_isBench cX9_isBench 1 (some .boolean) ∈ iw_tbl := iw_mm 910 (by decide +kernel) rfl
theorem cs_X9_184 : iw_CS RX9 184 yX9_isBench cX9_isBench 1 (some .boolean) 1 := iw_cs (iw_mm 908 (by decide +kernel) rfl) wt_X9_isBench wn_X9_isBench wc_X9_isBench (by decide +kernel)
theorem wi_X9_measure : Cond.instanceMethod yX9_measure ∈ iw_tbl := iw_mm 912 (by decide +kernel) rfl
theorem wl_X9_measure : Cond.selects RX9 yX9_measure yX9_measure ∈ iw_tbl := iw_mm 913 (by decide +kernel) rfl
theorem wn_X9_measure : Cond.initialized yX9_measure.cls ∈ iw_tbl := iw_mm 43 (by decide +kernel) rfl
theorem wc_X9_measure : Cond.code yX9_measure cX9_measure 5 (some .int) ∈ iw_tbl := iw_mm 914 (by decide +kernel) rfl
theorem cv_L_84 : iw_CV RL 84 RX9 yX9_measure cX9_measure 5 (some .int) 4 := iw_cv (iw_mm 911 (by decide +kernel) rfl) wi_X9_measure wl_X9_measure wn_X9_measure wc_X9_measure (by decide +kernel)
theorem wi_X9_saved : Cond.instanceMethod yX9_saved ∈ iw_tbl := iw_mm 916 (by decide +kernel) rfl
theorem wl_X9_saved : Cond.selects RX9 yX9_saved yX9_saved ∈ iw_tbl := iw_mm 917 (by decide +kernel) rfl
theorem wn_X9_saved : Cond.initialized yX9_saved.cls ∈ iw_tbl := iw_mm 43 (by decide +kernel) rfl
theorem wc_X9_saved : Cond.code yX9_saved cX9_saved 4 (some .int) ∈ iw_tbl := iw_mm 918 (by decide +kernel) rfl
theorem cv_L_88 : iw_CV RL 88 RX9 yX9_saved cX9_saved 4 (some .int) 3 := iw_cv (iw_mm 915 (by decide +kernel) rfl) wi_X9_saved wl_X9_saved wn_X9_saved wc_X9_saved (by decide +kernel)
theorem wi_X9_saves : Cond.instanceMethod yX9_saves ∈ iw_tbl := iw_mm 921 (by decide +kernel) rfl
theorem wl_X9_saves : Cond.selects RX9 yX9_saves yX9_saves ∈ iw_tbl := iw_mm 28 (by decide +kernel) rfl
theorem wn_X9_saves : Cond.initialized yX9_saves.cls ∈ iw_tbl := iw_mm 43 (by decide +kernel) rfl
theorem wc_X9_saves : Cond.code yX9_saves cX9_saves 12 (some .int) ∈ iw_tbl := iw_mm 922 (by decide +kernel) rfl
theorem cv_X9_190 : iw_CV RX9 190 RX9 yX9_saves cX9_saves 12 (some .int) 3 := iw_cv (iw_mm 919 (by decide +kernel) rfl) wi_X9_saves wl_X9_saves wn_X9_saves wc_X9_saves (by decide +kernel)
theorem wi_X9_harm : Cond.instanceMethod yX9_harm ∈ iw_tbl := iw_mm 924 (by decide +kernel) rfl
theorem wl_X9_harm : Cond.selects RX9 yX9_harm yX9_harm ∈ iw_tbl := iw_mm 925 (by decide +kernel) rfl
theorem wn_X9_harm : Cond.initialized yX9_harm.cls ∈ iw_tbl := iw_mm 43 (by decide +kernel) rfl
theorem wc_X9_harm : Cond.code yX9_harm cX9_harm 4 (some .int) ∈ iw_tbl := iw_mm 926 (by decide +kernel) rfl
theorem cv_L_92 : iw_CV RL 92 RX9 yX9_harm cX9_harm 4 (some .int) 2 := iw_cv (iw_mm 923 (by decide +kernel) rfl) wi_X9_harm wl_X9_harm wn_X9_harm wc_X9_harm (by decide +kernel)
theorem wi_X9_worth : Cond.instanceMethod yX9_worth ∈ iw_tbl := iw_mm 929 (by decide +kernel) rfl
theorem wl_X9_worth : Cond.selects RX9 yX9_worth yX9_worth ∈ iw_tbl := iw_mm 930 (by decide +kernel) rfl
theorem wn_X9_worth : Cond.initialized yX9_worth.cls ∈ iw_tbl := iw_mm 43 (by decide +kernel) rfl
theorem wc_X9_worth : Cond.code yX9_worth cX9_worth 2 (some .int) ∈ iw_tbl := iw_mm 931 (by decide +kernel) rfl
theorem cv_L_96 : iw_CV RL 96 RX9 yX9_worth cX9_worth 2 (some .int) 1 := iw_cv (iw_mm 928 (by decide +kernel) rfl) wi_X9_worth wl_X9_worth wn_X9_worth wc_X9_worth (by decide +kernel)
theorem wi_X9_worthOf : Cond.instanceMethod yX9_worthOf ∈ iw_tbl := iw_mm 934 (by decide +kernel) rfl
theorem wl_X9_worthOf : Cond.selects RX9 yX9_worthOf yX9_worthOf ∈ iw_tbl := iw_mm 29 (by decide +kernel) rfl
theorem wn_X9_worthOf : Cond.initialized yX9_worthOf.cls ∈ iw_tbl := iw_mm 43 (by decide +kernel) rfl
theorem wc_X9_worthOf : Cond.code yX9_worthOf cX9_worthOf 4 (some .int) ∈ iw_tbl := iw_mm 935 (by decide +kernel) rfl
theorem cv_X9_195 : iw_CV RX9 195 RX9 yX9_worthOf cX9_worthOf 4 (some .int) 1 := iw_cv (iw_mm 932 (by decide +kernel) rfl) wi_X9_worthOf wl_X9_worthOf wn_X9_worthOf wc_X9_worthOf (by decide +kernel)
theorem wi_X9_rule : Cond.instanceMethod yX9_rule ∈ iw_tbl := iw_mm 937 (by decide +kernel) rfl
theorem wl_X9_rule : Cond.selects RX9 yX9_rule yX9_rule ∈ iw_tbl := iw_mm 938 (by decide +kernel) rfl
theorem wn_X9_rule : Cond.initialized yX9_rule.cls ∈ iw_tbl := iw_mm 43 (by decide +kernel) rfl
theorem wc_X9_rule : Cond.code yX9_rule cX9_rule 5 (some .int) ∈ iw_tbl := iw_mm 939 (by decide +kernel) rfl
theorem cv_L_100 : iw_CV RL 100 RX9 yX9_rule cX9_rule 5 (some .int) 4 := iw_cv (iw_mm 936 (by decide +kernel) rfl) wi_X9_rule wl_X9_rule wn_X9_rule wc_X9_rule (by decide +kernel)
theorem wi_X9_ruleOf : Cond.instanceMethod yX9_ruleOf ∈ iw_tbl := iw_mm 941 (by decide +kernel) rfl
theorem wl_X9_ruleOf : Cond.selects RX9 yX9_ruleOf yX9_ruleOf ∈ iw_tbl := iw_mm 942 (by decide +kernel) rfl
theorem wn_X9_ruleOf : Cond.initialized yX9_ruleOf.cls ∈ iw_tbl := iw_mm 43 (by decide +kernel) rfl
theorem wc_X9_ruleOf : Cond.code yX9_ruleOf cX9_ruleOf 2 (some .int) ∈ iw_tbl := iw_mm 943 (by decide +kernel) rfl
theorem cv_L_104 : iw_CV RL 104 RX9 yX9_ruleOf cX9_ruleOf 2 (some .int) 1 := iw_cv (iw_mm 940 (by decide +kernel) rfl) wi_X9_ruleOf wl_X9_ruleOf wn_X9_ruleOf wc_X9_ruleOf (by decide +kernel)
theorem wi_X9_ruleFor : Cond.instanceMethod yX9_ruleFor ∈ iw_tbl := iw_mm 946 (by decide +kernel) rfl
theorem wl_X9_ruleFor : Cond.selects RX9 yX9_ruleFor yX9_ruleFor ∈ iw_tbl := iw_mm 30 (by decide +kernel) rfl
theorem wn_X9_ruleFor : Cond.initialized yX9_ruleFor.cls ∈ iw_tbl := iw_mm 43 (by decide +kernel) rfl
theorem wc_X9_ruleFor : Cond.code yX9_ruleFor cX9_ruleFor 5 (some .int) ∈ iw_tbl := iw_mm 947 (by decide +kernel) rfl
theorem cv_X9_201 : iw_CV RX9 201 RX9 yX9_ruleFor cX9_ruleFor 5 (some .int) 1 := iw_cv (iw_mm 944 (by decide +kernel) rfl) wi_X9_ruleFor wl_X9_ruleFor wn_X9_ruleFor wc_X9_ruleFor (by decide +kernel)
theorem wi_X9_days : Cond.instanceMethod yX9_days ∈ iw_tbl := iw_mm 949 (by decide +kernel) rfl
theorem wl_X9_days : Cond.selects RX9 yX9_days yX9_days ∈ iw_tbl := iw_mm 950 (by decide +kernel) rfl
theorem wn_X9_days : Cond.initialized yX9_days.cls ∈ iw_tbl := iw_mm 43 (by decide +kernel) rfl
theorem wc_X9_days : Cond.code yX9_days cX9_days 5 (some .int) ∈ iw_tbl := iw_mm 951 (by decide +kernel) rfl
theorem cv_L_74 : iw_CV RL 74 RX9 yX9_days cX9_days 5 (some .int) 1 := iw_cv (iw_mm 948 (by decide +kernel) rfl) wi_X9_days wl_X9_days wn_X9_days wc_X9_days (by decide +kernel)
theorem wi_X9_paysToday : Cond.instanceMethod yX9_paysToday ∈ iw_tbl := iw_mm 954 (by decide +kernel) rfl
theorem wl_X9_paysToday : Cond.selects RX9 yX9_paysToday yX9_paysToday ∈ iw_tbl := iw_mm 31 (by decide +kernel) rfl
theorem wn_X9_paysToday : Cond.initialized yX9_paysToday.cls ∈ iw_tbl := iw_mm 43 (by decide +kernel) rfl
theorem wc_X9_paysToday : Cond.code yX9_paysToday cX9_paysToday 7 (some .int) ∈ iw_tbl := iw_mm 955 (by decide +kernel) rfl
theorem cv_X9_210 : iw_CV RX9 210 RX9 yX9_paysToday cX9_paysToday 7 (some .int) 1 := iw_cv (iw_mm 952 (by decide +kernel) rfl) wi_X9_paysToday wl_X9_paysToday wn_X9_paysToday wc_X9_paysToday (by decide +kernel)
theorem wi_X9_pay : Cond.instanceMethod yX9_pay ∈ iw_tbl := iw_mm 958 (by decide +kernel) rfl
theorem wl_X9_pay : Cond.selects RX9 yX9_pay yX9_pay ∈ iw_tbl := iw_mm 32 (by decide +kernel) rfl
theorem wn_X9_pay : Cond.initialized yX9_pay.cls ∈ iw_tbl := iw_mm 43 (by decide +kernel) rfl
theorem wc_X9_pay : Cond.code yX9_pay cX9_pay 5 (some .int) ∈ iw_tbl := iw_mm 959 (by decide +kernel) rfl
theorem cv_X9_204 : iw_CV RX9 204 RX9 yX9_pay cX9_pay 5 (some .int) 3 := iw_cv (iw_mm 956 (by decide +kernel) rfl) wi_X9_pay wl_X9_pay wn_X9_pay wc_X9_pay (by decide +kernel)
theorem wi_X9_work : Cond.instanceMethod yX9_work ∈ iw_tbl := iw_mm 961 (by decide +kernel) rfl
theorem wl_X9_work : Cond.selects RX9 yX9_work yX9_work ∈ iw_tbl := iw_mm 962 (by decide +kernel) rfl
theorem wn_X9_work : Cond.initialized yX9_work.cls ∈ iw_tbl := iw_mm 43 (by decide +kernel) rfl
theorem wc_X9_work : Cond.code yX9_work cX9_work 7 (some .int) ∈ iw_tbl := iw_mm 963 (by decide +kernel) rfl
theorem cv_L_108 : iw_CV RL 108 RX9 yX9_work cX9_work 7 (some .int) 2 := iw_cv (iw_mm 960 (by decide +kernel) rfl) wi_X9_work wl_X9_work wn_X9_work wc_X9_work (by decide +kernel)
theorem wi_X9_ledBack : Cond.instanceMethod yX9_ledBack ∈ iw_tbl := iw_mm 965 (by decide +kernel) rfl
theorem wl_X9_ledBack : Cond.selects RX9 yX9_ledBack yX9_ledBack ∈ iw_tbl := iw_mm 966 (by decide +kernel) rfl
theorem wn_X9_ledBack : Cond.initialized yX9_ledBack.cls ∈ iw_tbl := iw_mm 43 (by decide +kernel) rfl
theorem wc_X9_ledBack : Cond.code yX9_ledBack cX9_ledBack 2 (some .int) ∈ iw_tbl := iw_mm 967 (by decide +kernel) rfl
theorem cv_L_112 : iw_CV RL 112 RX9 yX9_ledBack cX9_ledBack 2 (some .int) 1 := iw_cv (iw_mm 964 (by decide +kernel) rfl) wi_X9_ledBack wl_X9_ledBack wn_X9_ledBack wc_X9_ledBack (by decide +kernel)
theorem wi_X9_reopen : Cond.instanceMethod yX9_reopen ∈ iw_tbl := iw_mm 969 (by decide +kernel) rfl
theorem wl_X9_reopen : Cond.selects RX9 yX9_reopen yX9_reopen ∈ iw_tbl := iw_mm 970 (by decide +kernel) rfl
theorem wn_X9_reopen : Cond.initialized yX9_reopen.cls ∈ iw_tbl := iw_mm 43 (by decide +kernel) rfl
theorem wc_X9_reopen : Cond.code yX9_reopen cX9_reopen 2 (some .int) ∈ iw_tbl := iw_mm 971 (by decide +kernel) rfl
theorem cv_L_116 : iw_CV RL 116 RX9 yX9_reopen cX9_reopen 2 (some .int) 1 := iw_cv (iw_mm 968 (by decide +kernel) rfl) wi_X9_reopen wl_X9_reopen wn_X9_reopen wc_X9_reopen (by decide +kernel)
theorem wi_X9_other : Cond.instanceMethod yX9_other ∈ iw_tbl := iw_mm 973 (by decide +kernel) rfl
theorem wl_X9_other : Cond.selects RX9 yX9_other yX9_other ∈ iw_tbl := iw_mm 974 (by decide +kernel) rfl
theorem wn_X9_other : Cond.initialized yX9_other.cls ∈ iw_tbl := iw_mm 43 (by decide +kernel) rfl
theorem wc_X9_other : Cond.code yX9_other cX9_other 8 (some .int) ∈ iw_tbl := iw_mm 975 (by decide +kernel) rfl
theorem cv_L_120 : iw_CV RL 120 RX9 yX9_other cX9_other 8 (some .int) 3 := iw_cv (iw_mm 972 (by decide +kernel) rfl) wi_X9_other wl_X9_other wn_X9_other wc_X9_other (by decide +kernel)
theorem wi_X9_coins : Cond.instanceMethod yX9_coins ∈ iw_tbl := iw_mm 977 (by decide +kernel) rfl
theorem wl_X9_coins : Cond.selects RX9 yX9_coins yX9_coins ∈ iw_tbl := iw_mm 978 (by decide +kernel) rfl
theorem wn_X9_coins : Cond.initialized yX9_coins.cls ∈ iw_tbl := iw_mm 43 (by decide +kernel) rfl
theorem wc_X9_coins : Cond.code yX9_coins cX9_coins 3 (some .int) ∈ iw_tbl := iw_mm 979 (by decide +kernel) rfl
theorem cv_L_124 : iw_CV RL 124 RX9 yX9_coins cX9_coins 3 (some .int) 2 := iw_cv (iw_mm 976 (by decide +kernel) rfl) wi_X9_coins wl_X9_coins wn_X9_coins wc_X9_coins (by decide +kernel)
theorem wi_X9_ideaOf : Cond.instanceMethod yX9_ideaOf ∈ iw_tbl := iw_mm 981 (by decide +kernel) rfl
theorem wl_X9_ideaOf : Cond.selects RX9 yX9_ideaOf yX9_ideaOf ∈ iw_tbl := iw_mm 982 (by decide +kernel) rfl
theorem wn_X9_ideaOf : Cond.initialized yX9_ideaOf.cls ∈ iw_tbl := iw_mm 43 (by decide +kernel) rfl
theorem wc_X9_ideaOf : Cond.code yX9_ideaOf cX9_ideaOf 3 (some .int) ∈ iw_tbl := iw_mm 983 (by decide +kernel) rfl
theorem cv_L_128 : iw_CV RL 128 RX9 yX9_ideaOf cX9_ideaOf 3 (some .int) 2 := iw_cv (iw_mm 980 (by decide +kernel) rfl) wi_X9_ideaOf wl_X9_ideaOf wn_X9_ideaOf wc_X9_ideaOf (by decide +kernel)
theorem wi_X9_count : Cond.instanceMethod yX9_count ∈ iw_tbl := iw_mm 985 (by decide +kernel) rfl
theorem wl_X9_count : Cond.selects RX9 yX9_count yX9_count ∈ iw_tbl := iw_mm 986 (by decide +kernel) rfl
theorem wn_X9_count : Cond.initialized yX9_count.cls ∈ iw_tbl := iw_mm 43 (by decide +kernel) rfl
theorem wc_X9_count : Cond.code yX9_count cX9_count 4 (some .int) ∈ iw_tbl := iw_mm 987 (by decide +kernel) rfl
theorem cv_L_132 : iw_CV RL 132 RX9 yX9_count cX9_count 4 (some .int) 1 := iw_cv (iw_mm 984 (by decide +kernel) rfl) wi_X9_count wl_X9_count wn_X9_count wc_X9_count (by decide +kernel)
theorem kc_X8_274 : Cond.constant RX8 274 (65535) ∈ iw_tbl := iw_mm 344 (by decide +kernel) rfl
theorem kc_J6_265 : Cond.constant RJ6 265 (1431655765) ∈ iw_tbl := iw_mm 363 (by decide +kernel) rfl
theorem kc_J6_266 : Cond.constant RJ6 266 (858993459) ∈ iw_tbl := iw_mm 364 (by decide +kernel) rfl
theorem kc_J6_267 : Cond.constant RJ6 267 (252645135) ∈ iw_tbl := iw_mm 365 (by decide +kernel) rfl
theorem kc_J13_314 : Cond.constantLong RJ13 314 (6148914691236517205) ∈ iw_tbl := iw_mm 396 (by decide +kernel) rfl
theorem kc_J13_316 : Cond.constantLong RJ13 316 (3689348814741910323) ∈ iw_tbl := iw_mm 397 (by decide +kernel) rfl
theorem kc_J13_318 : Cond.constantLong RJ13 318 (1085102592571150095) ∈ iw_tbl := iw_mm 398 (by decide +kernel) rfl
theorem kc_X8_275 : Cond.constantLong RX8 275 (-1) ∈ iw_tbl := iw_mm 467 (by decide +kernel) rfl
theorem kc_X8_215 : Cond.constant RX8 215 (100000) ∈ iw_tbl := iw_mm 581 (by decide +kernel) rfl
theorem kc_X9_123 : Cond.constant RX9 123 (65536) ∈ iw_tbl := iw_mm 817 (by decide +kernel) rfl
theorem kc_X9_194 : Cond.constant RX9 194 (100000) ∈ iw_tbl := iw_mm 927 (by decide +kernel) rfl
end
