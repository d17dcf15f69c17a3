section
-- ===== PART A: goes FIRST, ahead of the names: the tables' words, and 'selects' of the private methods out of them =====
/-- a private method of a class that the tables say can be made, by its rows of tables_1 -/
def lw_okq (q : MethodName × Nat) : Prop := (q.1.cls ≠ "java/lang/invoke/MethodHandle" ∧ q.1.cls ≠ "java/lang/invoke/VarHandle") ∧ Cond.instantiable q.1.cls q.2 ∈ tables_1 ∧ Cond.privateMethod q.1 ∈ tables_1 ∧ Cond.instanceMethod q.1 ∈ tables_1
theorem lw_p0 : lw_okq (⟨"TwoKerbs$Text", "readToken", "()V"⟩, 7) := ⟨⟨by decide +kernel, by decide +kernel⟩, List.mem_of_getElem? (i := 20) (by decide +kernel), List.mem_of_getElem? (i := 261) (by decide +kernel), List.mem_of_getElem? (i := 262) (by decide +kernel)⟩
theorem lw_p1 : lw_okq (⟨"TwoKerbs$Text", "readDigits", "()I"⟩, 7) := ⟨⟨by decide +kernel, by decide +kernel⟩, List.mem_of_getElem? (i := 20) (by decide +kernel), List.mem_of_getElem? (i := 268) (by decide +kernel), List.mem_of_getElem? (i := 269) (by decide +kernel)⟩
theorem lw_p2 : lw_okq (⟨"TwoKerbs$Text", "readItem", "(LTwoKerbs$Towns;)Z"⟩, 7) := ⟨⟨by decide +kernel, by decide +kernel⟩, List.mem_of_getElem? (i := 20) (by decide +kernel), List.mem_of_getElem? (i := 272) (by decide +kernel), List.mem_of_getElem? (i := 273) (by decide +kernel)⟩
theorem lw_p3 : lw_okq (⟨"TwoKerbs$Text", "readLevel", "(LTwoKerbs$Towns;)Z"⟩, 7) := ⟨⟨by decide +kernel, by decide +kernel⟩, List.mem_of_getElem? (i := 20) (by decide +kernel), List.mem_of_getElem? (i := 276) (by decide +kernel), List.mem_of_getElem? (i := 277) (by decide +kernel)⟩
theorem lw_p4 : lw_okq (⟨"TwoKerbs$Text", "readNumber", "(II)Z"⟩, 7) := ⟨⟨by decide +kernel, by decide +kernel⟩, List.mem_of_getElem? (i := 20) (by decide +kernel), List.mem_of_getElem? (i := 280) (by decide +kernel), List.mem_of_getElem? (i := 281) (by decide +kernel)⟩
theorem lw_p5 : lw_okq (⟨"TwoKerbs$Text", "readItemEnd", "()Z"⟩, 7) := ⟨⟨by decide +kernel, by decide +kernel⟩, List.mem_of_getElem? (i := 20) (by decide +kernel), List.mem_of_getElem? (i := 286) (by decide +kernel), List.mem_of_getElem? (i := 287) (by decide +kernel)⟩
theorem lw_p6 : lw_okq (⟨"TwoKerbs$Text", "readKerb", "(LTwoKerbs$Towns;)Z"⟩, 7) := ⟨⟨by decide +kernel, by decide +kernel⟩, List.mem_of_getElem? (i := 20) (by decide +kernel), List.mem_of_getElem? (i := 294) (by decide +kernel), List.mem_of_getElem? (i := 295) (by decide +kernel)⟩
theorem lw_p7 : lw_okq (⟨"TwoKerbs$Text", "readDrain", "(LTwoKerbs$Towns;)Z"⟩, 7) := ⟨⟨by decide +kernel, by decide +kernel⟩, List.mem_of_getElem? (i := 20) (by decide +kernel), List.mem_of_getElem? (i := 303) (by decide +kernel), List.mem_of_getElem? (i := 304) (by decide +kernel)⟩
theorem lw_p8 : lw_okq (⟨"TwoKerbs$Text", "readThing", "(LTwoKerbs$Towns;)Z"⟩, 7) := ⟨⟨by decide +kernel, by decide +kernel⟩, List.mem_of_getElem? (i := 20) (by decide +kernel), List.mem_of_getElem? (i := 311) (by decide +kernel), List.mem_of_getElem? (i := 312) (by decide +kernel)⟩
theorem lw_p9 : lw_okq (⟨"TwoKerbs", "firstTideOn", "(LTwoKerbs$Thing;I)I"⟩, 12) := ⟨⟨by decide +kernel, by decide +kernel⟩, List.mem_of_getElem? (i := 12) (by decide +kernel), List.mem_of_getElem? (i := 473) (by decide +kernel), List.mem_of_getElem? (i := 474) (by decide +kernel)⟩
theorem lw_p10 : lw_okq (⟨"TwoKerbs", "passSomeWeak", "(LTwoKerbs$Thing;II)V"⟩, 12) := ⟨⟨by decide +kernel, by decide +kernel⟩, List.mem_of_getElem? (i := 12) (by decide +kernel), List.mem_of_getElem? (i := 500) (by decide +kernel), List.mem_of_getElem? (i := 501) (by decide +kernel)⟩
theorem lw_p11 : lw_okq (⟨"TwoKerbs", "canHaveBegunOn", "(I)Z"⟩, 12) := ⟨⟨by decide +kernel, by decide +kernel⟩, List.mem_of_getElem? (i := 12) (by decide +kernel), List.mem_of_getElem? (i := 529) (by decide +kernel), List.mem_of_getElem? (i := 530) (by decide +kernel)⟩
theorem lw_p12 : lw_okq (⟨"TwoKerbs", "isLaw", "(II)Z"⟩, 12) := ⟨⟨by decide +kernel, by decide +kernel⟩, List.mem_of_getElem? (i := 12) (by decide +kernel), List.mem_of_getElem? (i := 541) (by decide +kernel), List.mem_of_getElem? (i := 542) (by decide +kernel)⟩
theorem lw_p13 : lw_okq (⟨"TwoKerbs", "rateAsKerb", "(I)I"⟩, 12) := ⟨⟨by decide +kernel, by decide +kernel⟩, List.mem_of_getElem? (i := 12) (by decide +kernel), List.mem_of_getElem? (i := 554) (by decide +kernel), List.mem_of_getElem? (i := 555) (by decide +kernel)⟩
theorem lw_p14 : lw_okq (⟨"TwoKerbs", "rateAsBank", "(I)I"⟩, 12) := ⟨⟨by decide +kernel, by decide +kernel⟩, List.mem_of_getElem? (i := 12) (by decide +kernel), List.mem_of_getElem? (i := 558) (by decide +kernel), List.mem_of_getElem? (i := 559) (by decide +kernel)⟩
theorem lw_p15 : lw_okq (⟨"TwoKerbs", "rateAsSteps", "(I)I"⟩, 12) := ⟨⟨by decide +kernel, by decide +kernel⟩, List.mem_of_getElem? (i := 12) (by decide +kernel), List.mem_of_getElem? (i := 563) (by decide +kernel), List.mem_of_getElem? (i := 564) (by decide +kernel)⟩
def lw_privs_1 : List (MethodName × Nat) := [(⟨"TwoKerbs$Text", "readToken", "()V"⟩, 7), (⟨"TwoKerbs$Text", "readDigits", "()I"⟩, 7), (⟨"TwoKerbs$Text", "readItem", "(LTwoKerbs$Towns;)Z"⟩, 7), (⟨"TwoKerbs$Text", "readLevel", "(LTwoKerbs$Towns;)Z"⟩, 7), (⟨"TwoKerbs$Text", "readNumber", "(II)Z"⟩, 7), (⟨"TwoKerbs$Text", "readItemEnd", "()Z"⟩, 7), (⟨"TwoKerbs$Text", "readKerb", "(LTwoKerbs$Towns;)Z"⟩, 7), (⟨"TwoKerbs$Text", "readDrain", "(LTwoKerbs$Towns;)Z"⟩, 7), (⟨"TwoKerbs$Text", "readThing", "(LTwoKerbs$Towns;)Z"⟩, 7), (⟨"TwoKerbs", "firstTideOn", "(LTwoKerbs$Thing;I)I"⟩, 12), (⟨"TwoKerbs", "passSomeWeak", "(LTwoKerbs$Thing;II)V"⟩, 12), (⟨"TwoKerbs", "canHaveBegunOn", "(I)Z"⟩, 12), (⟨"TwoKerbs", "isLaw", "(II)Z"⟩, 12), (⟨"TwoKerbs", "rateAsKerb", "(I)I"⟩, 12), (⟨"TwoKerbs", "rateAsBank", "(I)I"⟩, 12), (⟨"TwoKerbs", "rateAsSteps", "(I)I"⟩, 12)]
theorem lw_r1 : ∀ q ∈ lw_privs_1, lw_okq q := List.forall_mem_cons.mpr ⟨lw_p0, List.forall_mem_cons.mpr ⟨lw_p1, List.forall_mem_cons.mpr ⟨lw_p2, List.forall_mem_cons.mpr ⟨lw_p3, List.forall_mem_cons.mpr ⟨lw_p4, List.forall_mem_cons.mpr ⟨lw_p5, List.forall_mem_cons.mpr ⟨lw_p6, List.forall_mem_cons.mpr ⟨lw_p7, List.forall_mem_cons.mpr ⟨lw_p8, List.forall_mem_cons.mpr ⟨lw_p9, List.forall_mem_cons.mpr ⟨lw_p10, List.forall_mem_cons.mpr ⟨lw_p11, List.forall_mem_cons.mpr ⟨lw_p12, List.forall_mem_cons.mpr ⟨lw_p13, List.forall_mem_cons.mpr ⟨lw_p14, List.forall_mem_cons.mpr ⟨lw_p15, fun _ h => absurd h List.not_mem_nil⟩⟩⟩⟩⟩⟩⟩⟩⟩⟩⟩⟩⟩⟩⟩⟩
theorem lw_p16 : lw_okq (⟨"TwoKerbs", "rateAsChurch", "(I)I"⟩, 12) := ⟨⟨by decide +kernel, by decide +kernel⟩, List.mem_of_getElem? (i := 12) (by decide +kernel), List.mem_of_getElem? (i := 568) (by decide +kernel), List.mem_of_getElem? (i := 569) (by decide +kernel)⟩
theorem lw_p17 : lw_okq (⟨"TwoKerbs", "rateAsButcher", "(I)I"⟩, 12) := ⟨⟨by decide +kernel, by decide +kernel⟩, List.mem_of_getElem? (i := 12) (by decide +kernel), List.mem_of_getElem? (i := 573) (by decide +kernel), List.mem_of_getElem? (i := 574) (by decide +kernel)⟩
theorem lw_p18 : lw_okq (⟨"TwoKerbs", "rateAsRing", "(I)I"⟩, 12) := ⟨⟨by decide +kernel, by decide +kernel⟩, List.mem_of_getElem? (i := 12) (by decide +kernel), List.mem_of_getElem? (i := 578) (by decide +kernel), List.mem_of_getElem? (i := 579) (by decide +kernel)⟩
theorem lw_p19 : lw_okq (⟨"TwoKerbsModel", "begins", "()V"⟩, 29) := ⟨⟨by decide +kernel, by decide +kernel⟩, List.mem_of_getElem? (i := 599) (by decide +kernel), List.mem_of_getElem? (i := 605) (by decide +kernel), List.mem_of_getElem? (i := 606) (by decide +kernel)⟩
theorem lw_p20 : lw_okq (⟨"TwoKerbsModel", "settles", "()V"⟩, 29) := ⟨⟨by decide +kernel, by decide +kernel⟩, List.mem_of_getElem? (i := 599) (by decide +kernel), List.mem_of_getElem? (i := 609) (by decide +kernel), List.mem_of_getElem? (i := 610) (by decide +kernel)⟩
theorem lw_p21 : lw_okq (⟨"TwoKerbsModel", "advances", "()V"⟩, 29) := ⟨⟨by decide +kernel, by decide +kernel⟩, List.mem_of_getElem? (i := 599) (by decide +kernel), List.mem_of_getElem? (i := 716) (by decide +kernel), List.mem_of_getElem? (i := 717) (by decide +kernel)⟩
theorem lw_p22 : lw_okq (⟨"TwoKerbsModel", "letterAt", "(I)I"⟩, 29) := ⟨⟨by decide +kernel, by decide +kernel⟩, List.mem_of_getElem? (i := 599) (by decide +kernel), List.mem_of_getElem? (i := 720) (by decide +kernel), List.mem_of_getElem? (i := 721) (by decide +kernel)⟩
theorem lw_p23 : lw_okq (⟨"TwoKerbsModel", "isWell", "()Z"⟩, 29) := ⟨⟨by decide +kernel, by decide +kernel⟩, List.mem_of_getElem? (i := 599) (by decide +kernel), List.mem_of_getElem? (i := 724) (by decide +kernel), List.mem_of_getElem? (i := 725) (by decide +kernel)⟩
theorem lw_p24 : lw_okq (⟨"TwoKerbsModel", "mayBegin", "()Z"⟩, 29) := ⟨⟨by decide +kernel, by decide +kernel⟩, List.mem_of_getElem? (i := 599) (by decide +kernel), List.mem_of_getElem? (i := 728) (by decide +kernel), List.mem_of_getElem? (i := 729) (by decide +kernel)⟩
theorem lw_p25 : lw_okq (⟨"TwoKerbsModel", "takes", "(Z)I"⟩, 29) := ⟨⟨by decide +kernel, by decide +kernel⟩, List.mem_of_getElem? (i := 599) (by decide +kernel), List.mem_of_getElem? (i := 732) (by decide +kernel), List.mem_of_getElem? (i := 733) (by decide +kernel)⟩
theorem lw_p26 : lw_okq (⟨"TwoKerbsModel", "readsItem", "(I)V"⟩, 29) := ⟨⟨by decide +kernel, by decide +kernel⟩, List.mem_of_getElem? (i := 599) (by decide +kernel), List.mem_of_getElem? (i := 736) (by decide +kernel), List.mem_of_getElem? (i := 737) (by decide +kernel)⟩
theorem lw_p27 : lw_okq (⟨"TwoKerbsModel", "number", "(II)I"⟩, 29) := ⟨⟨by decide +kernel, by decide +kernel⟩, List.mem_of_getElem? (i := 599) (by decide +kernel), List.mem_of_getElem? (i := 740) (by decide +kernel), List.mem_of_getElem? (i := 741) (by decide +kernel)⟩
theorem lw_p28 : lw_okq (⟨"TwoKerbsModel", "isKerb", "(I)Z"⟩, 29) := ⟨⟨by decide +kernel, by decide +kernel⟩, List.mem_of_getElem? (i := 599) (by decide +kernel), List.mem_of_getElem? (i := 748) (by decide +kernel), List.mem_of_getElem? (i := 749) (by decide +kernel)⟩
theorem lw_p29 : lw_okq (⟨"TwoKerbsModel", "thingsOn", "(I)I"⟩, 29) := ⟨⟨by decide +kernel, by decide +kernel⟩, List.mem_of_getElem? (i := 599) (by decide +kernel), List.mem_of_getElem? (i := 752) (by decide +kernel), List.mem_of_getElem? (i := 753) (by decide +kernel)⟩
theorem lw_p30 : lw_okq (⟨"TwoKerbsModel", "isThing", "(I)Z"⟩, 29) := ⟨⟨by decide +kernel, by decide +kernel⟩, List.mem_of_getElem? (i := 599) (by decide +kernel), List.mem_of_getElem? (i := 760) (by decide +kernel), List.mem_of_getElem? (i := 761) (by decide +kernel)⟩
theorem lw_p31 : lw_okq (⟨"TwoKerbsModel", "levelOf", "(I)I"⟩, 29) := ⟨⟨by decide +kernel, by decide +kernel⟩, List.mem_of_getElem? (i := 599) (by decide +kernel), List.mem_of_getElem? (i := 768) (by decide +kernel), List.mem_of_getElem? (i := 769) (by decide +kernel)⟩
def lw_privs_2 : List (MethodName × Nat) := [(⟨"TwoKerbs", "rateAsChurch", "(I)I"⟩, 12), (⟨"TwoKerbs", "rateAsButcher", "(I)I"⟩, 12), (⟨"TwoKerbs", "rateAsRing", "(I)I"⟩, 12), (⟨"TwoKerbsModel", "begins", "()V"⟩, 29), (⟨"TwoKerbsModel", "settles", "()V"⟩, 29), (⟨"TwoKerbsModel", "advances", "()V"⟩, 29), (⟨"TwoKerbsModel", "letterAt", "(I)I"⟩, 29), (⟨"TwoKerbsModel", "isWell", "()Z"⟩, 29), (⟨"TwoKerbsModel", "mayBegin", "()Z"⟩, 29), (⟨"TwoKerbsModel", "takes", "(Z)I"⟩, 29), (⟨"TwoKerbsModel", "readsItem", "(I)V"⟩, 29), (⟨"TwoKerbsModel", "number", "(II)I"⟩, 29), (⟨"TwoKerbsModel", "isKerb", "(I)Z"⟩, 29), (⟨"TwoKerbsModel", "thingsOn", "(I)I"⟩, 29), (⟨"TwoKerbsModel", "isThing", "(I)Z"⟩, 29), (⟨"TwoKerbsModel", "levelOf", "(I)I"⟩, 29)]
theorem lw_r2 : ∀ q ∈ lw_privs_2, lw_okq q := List.forall_mem_cons.mpr ⟨lw_p16, List.forall_mem_cons.mpr ⟨lw_p17, List.forall_mem_cons.mpr ⟨lw_p18, List.forall_mem_cons.mpr ⟨lw_p19, List.forall_mem_cons.mpr ⟨lw_p20, List.forall_mem_cons.mpr ⟨lw_p21, List.forall_mem_cons.mpr ⟨lw_p22, List.forall_mem_cons.mpr ⟨lw_p23, List.forall_mem_cons.mpr ⟨lw_p24, List.forall_mem_cons.mpr ⟨lw_p25, List.forall_mem_cons.mpr ⟨lw_p26, List.forall_mem_cons.mpr ⟨lw_p27, List.forall_mem_cons.mpr ⟨lw_p28, List.forall_mem_cons.mpr ⟨lw_p29, List.forall_mem_cons.mpr ⟨lw_p30, List.forall_mem_cons.mpr ⟨lw_p31, fun _ h => absurd h List.not_mem_nil⟩⟩⟩⟩⟩⟩⟩⟩⟩⟩⟩⟩⟩⟩⟩⟩
theorem lw_p32 : lw_okq (⟨"TwoKerbsModel", "floodIn", "(I)I"⟩, 29) := ⟨⟨by decide +kernel, by decide +kernel⟩, List.mem_of_getElem? (i := 599) (by decide +kernel), List.mem_of_getElem? (i := 772) (by decide +kernel), List.mem_of_getElem? (i := 773) (by decide +kernel)⟩
theorem lw_p33 : lw_okq (⟨"TwoKerbsModel", "notes", "()V"⟩, 29) := ⟨⟨by decide +kernel, by decide +kernel⟩, List.mem_of_getElem? (i := 599) (by decide +kernel), List.mem_of_getElem? (i := 780) (by decide +kernel), List.mem_of_getElem? (i := 781) (by decide +kernel)⟩
theorem lw_p34 : lw_okq (⟨"TwoKerbsModel", "takesUp", "(I)V"⟩, 29) := ⟨⟨by decide +kernel, by decide +kernel⟩, List.mem_of_getElem? (i := 599) (by decide +kernel), List.mem_of_getElem? (i := 784) (by decide +kernel), List.mem_of_getElem? (i := 785) (by decide +kernel)⟩
theorem lw_p35 : lw_okq (⟨"TwoKerbsModel", "isTied", "(I)Z"⟩, 29) := ⟨⟨by decide +kernel, by decide +kernel⟩, List.mem_of_getElem? (i := 599) (by decide +kernel), List.mem_of_getElem? (i := 788) (by decide +kernel), List.mem_of_getElem? (i := 789) (by decide +kernel)⟩
theorem lw_p36 : lw_okq (⟨"TwoKerbsModel", "goes", "(I)Z"⟩, 29) := ⟨⟨by decide +kernel, by decide +kernel⟩, List.mem_of_getElem? (i := 599) (by decide +kernel), List.mem_of_getElem? (i := 792) (by decide +kernel), List.mem_of_getElem? (i := 793) (by decide +kernel)⟩
theorem lw_p37 : lw_okq (⟨"TwoKerbsModel", "soon", "(IZ)I"⟩, 29) := ⟨⟨by decide +kernel, by decide +kernel⟩, List.mem_of_getElem? (i := 599) (by decide +kernel), List.mem_of_getElem? (i := 832) (by decide +kernel), List.mem_of_getElem? (i := 833) (by decide +kernel)⟩
theorem lw_p38 : lw_okq (⟨"TwoKerbsModel", "canBegin", "(I)Z"⟩, 29) := ⟨⟨by decide +kernel, by decide +kernel⟩, List.mem_of_getElem? (i := 599) (by decide +kernel), List.mem_of_getElem? (i := 863) (by decide +kernel), List.mem_of_getElem? (i := 864) (by decide +kernel)⟩
def lw_privs_3 : List (MethodName × Nat) := [(⟨"TwoKerbsModel", "floodIn", "(I)I"⟩, 29), (⟨"TwoKerbsModel", "notes", "()V"⟩, 29), (⟨"TwoKerbsModel", "takesUp", "(I)V"⟩, 29), (⟨"TwoKerbsModel", "isTied", "(I)Z"⟩, 29), (⟨"TwoKerbsModel", "goes", "(I)Z"⟩, 29), (⟨"TwoKerbsModel", "soon", "(IZ)I"⟩, 29), (⟨"TwoKerbsModel", "canBegin", "(I)Z"⟩, 29)]
theorem lw_r3 : ∀ q ∈ lw_privs_3, lw_okq q := List.forall_mem_cons.mpr ⟨lw_p32, List.forall_mem_cons.mpr ⟨lw_p33, List.forall_mem_cons.mpr ⟨lw_p34, List.forall_mem_cons.mpr ⟨lw_p35, List.forall_mem_cons.mpr ⟨lw_p36, List.forall_mem_cons.mpr ⟨lw_p37, List.forall_mem_cons.mpr ⟨lw_p38, fun _ h => absurd h List.not_mem_nil⟩⟩⟩⟩⟩⟩⟩
def lw_privs : List (MethodName × Nat) := lw_privs_1 ++ (lw_privs_2 ++ (lw_privs_3))
def lw_tbl : List Cond := k2_sels lw_privs ++ tables_1
theorem lw_privs_ok : ∀ q ∈ lw_privs, lw_okq q := by
  show ∀ q ∈ lw_privs_1 ++ (lw_privs_2 ++ (lw_privs_3)), lw_okq q
  exact List.forall_mem_append.mpr ⟨lw_r1, List.forall_mem_append.mpr ⟨lw_r2, lw_r3⟩⟩
def RX0 : String := "TwoKerbs$Notes"
def TX0 : u_T := fun k => match k with
  | 0 => ("TwoKerbs$Notes", "first", "[I", true)
  | 1 => ("TwoKerbs$Notes", "second", "[I", true)
  | _ => ("TwoKerbs$Notes", "many", "I", false)
def tyX0 : Nat → FieldType := fun k => match k with
  | 0 => .array .int
  | 1 => .array .int
  | _ => .int
abbrev wsX00 : List Cond := u_ws RX0 TX0 3
theorem nmX0 : ∀ a, a < 3 → ∀ b, b < 3 → a ≠ b → (TX0 a).2.1 ≠ (TX0 b).2.1 := by decide +kernel
theorem tyX0_ok : ∀ k, k < 3 → parseFieldDescriptor (TX0 k).2.2.1 = some (tyX0 k) := by decide +kernel
abbrev cX0_init : ByteArray := prog_2_method_1_code
def yX0_init : MethodName := ⟨RX0, "<init>", "()V"⟩
abbrev cX0_add : ByteArray := prog_2_method_2_code
def yX0_add : MethodName := ⟨RX0, "add", "(II)I"⟩
abbrev cX0_lose : ByteArray := prog_2_method_3_code
def yX0_lose : MethodName := ⟨RX0, "lose", "()I"⟩
def RX1 : String := "TwoKerbs$Now"
def TX1 : u_T := fun k => match k with
  | 0 => ("TwoKerbs$Now", "tide", "I", false)
  | 1 => ("TwoKerbs$Now", "drifts", "I", false)
  | _ => ("TwoKerbs$Now", "things", "[LTwoKerbs$Thing;", true)
def tyX1 : Nat → FieldType := fun k => match k with
  | 0 => .int
  | 1 => .int
  | _ => .array (.object "TwoKerbs$Thing")
abbrev wsX10 : List Cond := u_ws RX1 TX1 3
theorem nmX1 : ∀ a, a < 3 → ∀ b, b < 3 → a ≠ b → (TX1 a).2.1 ≠ (TX1 b).2.1 := by decide +kernel
theorem tyX1_ok : ∀ k, k < 3 → parseFieldDescriptor (TX1 k).2.2.1 = some (tyX1 k) := by decide +kernel
abbrev cX1_init : ByteArray := prog_3_method_1_code
def yX1_init : MethodName := ⟨RX1, "<init>", "()V"⟩
abbrev cX1_begin : ByteArray := prog_3_method_2_code
def yX1_begin : MethodName := ⟨RX1, "begin", "(LTwoKerbs$Towns;)V"⟩
abbrev cX1_pass : ByteArray := prog_3_method_3_code
def yX1_pass : MethodName := ⟨RX1, "pass", "(LTwoKerbs$Towns;)I"⟩
abbrev cX1_lyingOn : ByteArray := prog_3_method_4_code
def yX1_lyingOn : MethodName := ⟨RX1, "lyingOn", "(II)I"⟩
abbrev cX1_tiedOf : ByteArray := prog_3_method_5_code
def yX1_tiedOf : MethodName := ⟨RX1, "tiedOf", "(I)I"⟩
abbrev cX1_saveTo : ByteArray := prog_3_method_6_code
def yX1_saveTo : MethodName := ⟨RX1, "saveTo", "([I)V"⟩
abbrev cX1_loadFrom : ByteArray := prog_3_method_7_code
def yX1_loadFrom : MethodName := ⟨RX1, "loadFrom", "([I)V"⟩
def RX2 : String := "TwoKerbs$Past"
def TX2 : u_T := fun k => match k with
  | 0 => ("TwoKerbs$Past", "rows", "[[I", true)
  | 1 => ("TwoKerbs$Past", "known", "I", false)
  | _ => ("TwoKerbs$Past", "next", "I", false)
def tyX2 : Nat → FieldType := fun k => match k with
  | 0 => .array (.array .int)
  | 1 => .int
  | _ => .int
abbrev wsX20 : List Cond := u_ws RX2 TX2 3
theorem nmX2 : ∀ a, a < 3 → ∀ b, b < 3 → a ≠ b → (TX2 a).2.1 ≠ (TX2 b).2.1 := by decide +kernel
theorem tyX2_ok : ∀ k, k < 3 → parseFieldDescriptor (TX2 k).2.2.1 = some (tyX2 k) := by decide +kernel
abbrev cX2_init : ByteArray := prog_4_method_1_code
def yX2_init : MethodName := ⟨RX2, "<init>", "()V"⟩
abbrev cX2_nextRow : ByteArray := prog_4_method_2_code
def yX2_nextRow : MethodName := ⟨RX2, "nextRow", "()[I"⟩
abbrev cX2_latestRow : ByteArray := prog_4_method_3_code
def yX2_latestRow : MethodName := ⟨RX2, "latestRow", "()[I"⟩
abbrev cX2_lose : ByteArray := prog_4_method_4_code
def yX2_lose : MethodName := ⟨RX2, "lose", "()V"⟩
def RX3 : String := "TwoKerbs$Text"
def TX3 : u_T := fun k => match k with
  | 0 => ("TwoKerbs$Text", "letters", "[C", true)
  | 1 => ("TwoKerbs$Text", "length", "I", false)
  | 2 => ("TwoKerbs$Text", "place", "I", false)
  | 3 => ("TwoKerbs$Text", "token", "I", false)
  | 4 => ("TwoKerbs$Text", "tokenPlace", "I", false)
  | 5 => ("TwoKerbs$Text", "value", "I", false)
  | _ => ("TwoKerbs$Text", "isLevelTold", "Z", false)
def tyX3 : Nat → FieldType := fun k => match k with
  | 0 => .array .char
  | 1 => .int
  | 2 => .int
  | 3 => .int
  | 4 => .int
  | 5 => .int
  | _ => .boolean
abbrev wsX30 : List Cond := u_ws RX3 TX3 7
theorem nmX3 : ∀ a, a < 7 → ∀ b, b < 7 → a ≠ b → (TX3 a).2.1 ≠ (TX3 b).2.1 := by decide +kernel
theorem tyX3_ok : ∀ k, k < 7 → parseFieldDescriptor (TX3 k).2.2.1 = some (tyX3 k) := by decide +kernel
abbrev cX3_init : ByteArray := prog_5_method_1_code
def yX3_init : MethodName := ⟨RX3, "<init>", "()V"⟩
abbrev cX3_add : ByteArray := prog_5_method_2_code
def yX3_add : MethodName := ⟨RX3, "add", "(I)I"⟩
abbrev cX3_empty : ByteArray := prog_5_method_3_code
def yX3_empty : MethodName := ⟨RX3, "empty", "()I"⟩
abbrev cX3_readInto : ByteArray := prog_5_method_4_code
def yX3_readInto : MethodName := ⟨RX3, "readInto", "(LTwoKerbs$Towns;)I"⟩
abbrev cX3_readItem : ByteArray := prog_5_method_5_code
def yX3_readItem : MethodName := ⟨RX3, "readItem", "(LTwoKerbs$Towns;)Z"⟩
abbrev cX3_readLevel : ByteArray := prog_5_method_6_code
def yX3_readLevel : MethodName := ⟨RX3, "readLevel", "(LTwoKerbs$Towns;)Z"⟩
abbrev cX3_readKerb : ByteArray := prog_5_method_7_code
def yX3_readKerb : MethodName := ⟨RX3, "readKerb", "(LTwoKerbs$Towns;)Z"⟩
abbrev cX3_readDrain : ByteArray := prog_5_method_8_code
def yX3_readDrain : MethodName := ⟨RX3, "readDrain", "(LTwoKerbs$Towns;)Z"⟩
abbrev cX3_readThing : ByteArray := prog_5_method_9_code
def yX3_readThing : MethodName := ⟨RX3, "readThing", "(LTwoKerbs$Towns;)Z"⟩
abbrev cX3_readItemEnd : ByteArray := prog_5_method_10_code
def yX3_readItemEnd : MethodName := ⟨RX3, "readItemEnd", "()Z"⟩
abbrev cX3_readNumber : ByteArray := prog_5_method_11_code
def yX3_readNumber : MethodName := ⟨RX3, "readNumber", "(II)Z"⟩
abbrev cX3_readToken : ByteArray := prog_5_method_12_code
def yX3_readToken : MethodName := ⟨RX3, "readToken", "()V"⟩
abbrev cX3_readDigits : ByteArray := prog_5_method_13_code
def yX3_readDigits : MethodName := ⟨RX3, "readDigits", "()I"⟩
abbrev cX3_isDigit : ByteArray := prog_5_method_14_code
def yX3_isDigit : MethodName := ⟨RX3, "isDigit", "(C)Z"⟩
def RX4 : String := "TwoKerbs$Thing"
def TX4 : u_T := fun k => match k with
  | 0 => ("TwoKerbs$Thing", "kerb", "I", false)
  | 1 => ("TwoKerbs$Thing", "left", "I", false)
  | _ => ("TwoKerbs$Thing", "tied", "Z", false)
def tyX4 : Nat → FieldType := fun k => match k with
  | 0 => .int
  | 1 => .int
  | _ => .boolean
abbrev wsX40 : List Cond := u_ws RX4 TX4 3
theorem nmX4 : ∀ a, a < 3 → ∀ b, b < 3 → a ≠ b → (TX4 a).2.1 ≠ (TX4 b).2.1 := by decide +kernel
theorem tyX4_ok : ∀ k, k < 3 → parseFieldDescriptor (TX4 k).2.2.1 = some (tyX4 k) := by decide +kernel
abbrev cX4_init : ByteArray := prog_6_method_1_code
def yX4_init : MethodName := ⟨RX4, "<init>", "()V"⟩
abbrev cX4_lieOn : ByteArray := prog_6_method_2_code
def yX4_lieOn : MethodName := ⟨RX4, "lieOn", "(I)V"⟩
abbrev cX4_becomes : ByteArray := prog_6_method_3_code
def yX4_becomes : MethodName := ⟨RX4, "becomes", "(LTwoKerbs$Thing;)V"⟩
abbrev cX4_lies : ByteArray := prog_6_method_4_code
def yX4_lies : MethodName := ⟨RX4, "lies", "()Z"⟩
abbrev cX4_liesOn : ByteArray := prog_6_method_5_code
def yX4_liesOn : MethodName := ⟨RX4, "liesOn", "(I)Z"⟩
abbrev cX4_isAs : ByteArray := prog_6_method_6_code
def yX4_isAs : MethodName := ⟨RX4, "isAs", "(LTwoKerbs$Thing;)Z"⟩
abbrev cX4_place : ByteArray := prog_6_method_7_code
def yX4_place : MethodName := ⟨RX4, "place", "()I"⟩
abbrev cX4_pass : ByteArray := prog_6_method_8_code
def yX4_pass : MethodName := ⟨RX4, "pass", "(LTwoKerbs$Towns;I)Z"⟩
def RX5 : String := "TwoKerbs$Towns"
def TX5 : u_T := fun k => match k with
  | 0 => ("TwoKerbs$Towns", "modulo", "I", false)
  | 1 => ("TwoKerbs$Towns", "step", "I", false)
  | 2 => ("TwoKerbs$Towns", "offset", "I", false)
  | 3 => ("TwoKerbs$Towns", "kerbs", "I", false)
  | 4 => ("TwoKerbs$Towns", "things", "I", false)
  | 5 => ("TwoKerbs$Towns", "town", "[I", true)
  | 6 => ("TwoKerbs$Towns", "height", "[I", true)
  | 7 => ("TwoKerbs$Towns", "drain", "[I", true)
  | 8 => ("TwoKerbs$Towns", "delay", "[I", true)
  | _ => ("TwoKerbs$Towns", "first", "[I", true)
def tyX5 : Nat → FieldType := fun k => match k with
  | 0 => .int
  | 1 => .int
  | 2 => .int
  | 3 => .int
  | 4 => .int
  | 5 => .array .int
  | 6 => .array .int
  | 7 => .array .int
  | 8 => .array .int
  | _ => .array .int
abbrev wsX50 : List Cond := u_ws RX5 TX5 10
theorem nmX5 : ∀ a, a < 10 → ∀ b, b < 10 → a ≠ b → (TX5 a).2.1 ≠ (TX5 b).2.1 := by decide +kernel
theorem tyX5_ok : ∀ k, k < 10 → parseFieldDescriptor (TX5 k).2.2.1 = some (tyX5 k) := by decide +kernel
abbrev cX5_init : ByteArray := prog_7_method_1_code
def yX5_init : MethodName := ⟨RX5, "<init>", "()V"⟩
abbrev cX5_reset : ByteArray := prog_7_method_2_code
def yX5_reset : MethodName := ⟨RX5, "reset", "()V"⟩
abbrev cX5_setLevel : ByteArray := prog_7_method_3_code
def yX5_setLevel : MethodName := ⟨RX5, "setLevel", "(III)V"⟩
abbrev cX5_hasRoomForKerb : ByteArray := prog_7_method_4_code
def yX5_hasRoomForKerb : MethodName := ⟨RX5, "hasRoomForKerb", "()Z"⟩
abbrev cX5_hasRoomForThing : ByteArray := prog_7_method_5_code
def yX5_hasRoomForThing : MethodName := ⟨RX5, "hasRoomForThing", "()Z"⟩
abbrev cX5_addKerb : ByteArray := prog_7_method_6_code
def yX5_addKerb : MethodName := ⟨RX5, "addKerb", "(II)V"⟩
abbrev cX5_addThing : ByteArray := prog_7_method_7_code
def yX5_addThing : MethodName := ⟨RX5, "addThing", "(I)V"⟩
abbrev cX5_isKerb : ByteArray := prog_7_method_8_code
def yX5_isKerb : MethodName := ⟨RX5, "isKerb", "(I)Z"⟩
abbrev cX5_isThing : ByteArray := prog_7_method_9_code
def yX5_isThing : MethodName := ⟨RX5, "isThing", "(I)Z"⟩
abbrev cX5_areOfOneTown : ByteArray := prog_7_method_10_code
def yX5_areOfOneTown : MethodName := ⟨RX5, "areOfOneTown", "(II)Z"⟩
abbrev cX5_leftOver : ByteArray := prog_7_method_11_code
def yX5_leftOver : MethodName := ⟨RX5, "leftOver", "(I)I"⟩
abbrev cX5_levelOf : ByteArray := prog_7_method_12_code
def yX5_levelOf : MethodName := ⟨RX5, "levelOf", "(I)I"⟩
abbrev cX5_isFlooded : ByteArray := prog_7_method_13_code
def yX5_isFlooded : MethodName := ⟨RX5, "isFlooded", "(II)Z"⟩
abbrev cX5_floodedBy : ByteArray := prog_7_method_14_code
def yX5_floodedBy : MethodName := ⟨RX5, "floodedBy", "(I)I"⟩
def RX6 : String := "TwoKerbs"
def TX6 : u_T := fun k => match k with
  | 0 => ("TwoKerbs", "text", "LTwoKerbs$Text;", true)
  | 1 => ("TwoKerbs", "told", "LTwoKerbs$Towns;", false)
  | 2 => ("TwoKerbs", "spare", "LTwoKerbs$Towns;", false)
  | 3 => ("TwoKerbs", "now", "LTwoKerbs$Now;", true)
  | 4 => ("TwoKerbs", "past", "LTwoKerbs$Past;", true)
  | 5 => ("TwoKerbs", "images", "[[I", true)
  | 6 => ("TwoKerbs", "kept", "[Z", true)
  | 7 => ("TwoKerbs", "found", "LTwoKerbs$Notes;", true)
  | 8 => ("TwoKerbs", "seen", "LTwoKerbs$Notes;", true)
  | 9 => ("TwoKerbs", "one", "LTwoKerbs$Thing;", true)
  | 10 => ("TwoKerbs", "two", "LTwoKerbs$Thing;", true)
  | _ => ("TwoKerbs", "trace", "J", false)
def tyX6 : Nat → FieldType := fun k => match k with
  | 0 => .object "TwoKerbs$Text"
  | 1 => .object "TwoKerbs$Towns"
  | 2 => .object "TwoKerbs$Towns"
  | 3 => .object "TwoKerbs$Now"
  | 4 => .object "TwoKerbs$Past"
  | 5 => .array (.array .int)
  | 6 => .array .boolean
  | 7 => .object "TwoKerbs$Notes"
  | 8 => .object "TwoKerbs$Notes"
  | 9 => .object "TwoKerbs$Thing"
  | 10 => .object "TwoKerbs$Thing"
  | _ => .long
abbrev wsX60 : List Cond := u_ws RX6 TX6 12
theorem nmX6 : ∀ a, a < 12 → ∀ b, b < 12 → a ≠ b → (TX6 a).2.1 ≠ (TX6 b).2.1 := by decide +kernel
theorem tyX6_ok : ∀ k, k < 12 → parseFieldDescriptor (TX6 k).2.2.1 = some (tyX6 k) := by decide +kernel
abbrev cX6_init : ByteArray := prog_1_method_1_code
def yX6_init : MethodName := ⟨RX6, "<init>", "()V"⟩
abbrev cX6_type : ByteArray := prog_1_method_2_code
def yX6_type : MethodName := ⟨RX6, "type", "(I)I"⟩
abbrev cX6_clear : ByteArray := prog_1_method_3_code
def yX6_clear : MethodName := ⟨RX6, "clear", "()I"⟩
abbrev cX6_towns : ByteArray := prog_1_method_4_code
def yX6_towns : MethodName := ⟨RX6, "towns", "()I"⟩
abbrev cX6_kerb : ByteArray := prog_1_method_5_code
def yX6_kerb : MethodName := ⟨RX6, "kerb", "(II)I"⟩
abbrev cX6_thing : ByteArray := prog_1_method_6_code
def yX6_thing : MethodName := ⟨RX6, "thing", "(II)I"⟩
abbrev cX6_now : ByteArray := prog_1_method_7_code
def yX6_now : MethodName := ⟨RX6, "now", "(I)I"⟩
abbrev cX6_tides : ByteArray := prog_1_method_8_code
def yX6_tides : MethodName := ⟨RX6, "tides", "(I)I"⟩
abbrev cX6_ties : ByteArray := prog_1_method_9_code
def yX6_ties : MethodName := ⟨RX6, "ties", "(II)I"⟩
abbrev cX6_carries : ByteArray := prog_1_method_10_code
def yX6_carries : MethodName := ⟨RX6, "carries", "(II)I"⟩
abbrev cX6_undo : ByteArray := prog_1_method_11_code
def yX6_undo : MethodName := ⟨RX6, "undo", "()I"⟩
abbrev cX6_level : ByteArray := prog_1_method_12_code
def yX6_level : MethodName := ⟨RX6, "level", "(I)I"⟩
abbrev cX6_high : ByteArray := prog_1_method_13_code
def yX6_high : MethodName := ⟨RX6, "high", "(I)I"⟩
abbrev cX6_flood : ByteArray := prog_1_method_14_code
def yX6_flood : MethodName := ⟨RX6, "flood", "(I)I"⟩
abbrev cX6_where : ByteArray := prog_1_method_15_code
def yX6_where : MethodName := ⟨RX6, "where", "(II)I"⟩
abbrev cX6_when : ByteArray := prog_1_method_16_code
def yX6_when : MethodName := ⟨RX6, "when", "(II)I"⟩
abbrev cX6_send : ByteArray := prog_1_method_17_code
def yX6_send : MethodName := ⟨RX6, "send", "(III)I"⟩
abbrev cX6_meet : ByteArray := prog_1_method_18_code
def yX6_meet : MethodName := ⟨RX6, "meet", "(II)I"⟩
abbrev cX6_round : ByteArray := prog_1_method_19_code
def yX6_round : MethodName := ⟨RX6, "round", "(I)I"⟩
abbrev cX6_odds : ByteArray := prog_1_method_20_code
def yX6_odds : MethodName := ⟨RX6, "odds", "(IIIII)I"⟩
abbrev cX6_found : ByteArray := prog_1_method_21_code
def yX6_found : MethodName := ⟨RX6, "found", "(II)I"⟩
abbrev cX6_began : ByteArray := prog_1_method_22_code
def yX6_began : MethodName := ⟨RX6, "began", "()I"⟩
abbrev cX6_saw : ByteArray := prog_1_method_23_code
def yX6_saw : MethodName := ⟨RX6, "saw", "(II)I"⟩
abbrev cX6_laws : ByteArray := prog_1_method_24_code
def yX6_laws : MethodName := ⟨RX6, "laws", "(I)I"⟩
abbrev cX6_forget : ByteArray := prog_1_method_25_code
def yX6_forget : MethodName := ⟨RX6, "forget", "()I"⟩
abbrev cX6_rate : ByteArray := prog_1_method_26_code
def yX6_rate : MethodName := ⟨RX6, "rate", "(II)I"⟩
abbrev cX6_keep : ByteArray := prog_1_method_27_code
def yX6_keep : MethodName := ⟨RX6, "keep", "(I)I"⟩
abbrev cX6_back : ByteArray := prog_1_method_28_code
def yX6_back : MethodName := ⟨RX6, "back", "(I)I"⟩
abbrev cX6_count : ByteArray := prog_1_method_29_code
def yX6_count : MethodName := ⟨RX6, "count", "(I)I"⟩
abbrev cX6_trace : ByteArray := prog_1_method_30_code
def yX6_trace : MethodName := ⟨RX6, "trace", "()J"⟩
abbrev cX6_isWithin : ByteArray := prog_1_method_31_code
def yX6_isWithin : MethodName := ⟨RX6, "isWithin", "(III)Z"⟩
abbrev cX6_power : ByteArray := prog_1_method_32_code
def yX6_power : MethodName := ⟨RX6, "power", "(II)I"⟩
abbrev cX6_commonDivisor : ByteArray := prog_1_method_33_code
def yX6_commonDivisor : MethodName := ⟨RX6, "commonDivisor", "(II)I"⟩
abbrev cX6_firstTideOn : ByteArray := prog_1_method_34_code
def yX6_firstTideOn : MethodName := ⟨RX6, "firstTideOn", "(LTwoKerbs$Thing;I)I"⟩
abbrev cX6_passSomeWeak : ByteArray := prog_1_method_35_code
def yX6_passSomeWeak : MethodName := ⟨RX6, "passSomeWeak", "(LTwoKerbs$Thing;II)V"⟩
abbrev cX6_canHaveBegunOn : ByteArray := prog_1_method_36_code
def yX6_canHaveBegunOn : MethodName := ⟨RX6, "canHaveBegunOn", "(I)Z"⟩
abbrev cX6_isLaw : ByteArray := prog_1_method_37_code
def yX6_isLaw : MethodName := ⟨RX6, "isLaw", "(II)Z"⟩
abbrev cX6_rateAsKerb : ByteArray := prog_1_method_38_code
def yX6_rateAsKerb : MethodName := ⟨RX6, "rateAsKerb", "(I)I"⟩
abbrev cX6_rateAsBank : ByteArray := prog_1_method_39_code
def yX6_rateAsBank : MethodName := ⟨RX6, "rateAsBank", "(I)I"⟩
abbrev cX6_rateAsSteps : ByteArray := prog_1_method_40_code
def yX6_rateAsSteps : MethodName := ⟨RX6, "rateAsSteps", "(I)I"⟩
abbrev cX6_rateAsChurch : ByteArray := prog_1_method_41_code
def yX6_rateAsChurch : MethodName := ⟨RX6, "rateAsChurch", "(I)I"⟩
abbrev cX6_rateAsButcher : ByteArray := prog_1_method_42_code
def yX6_rateAsButcher : MethodName := ⟨RX6, "rateAsButcher", "(I)I"⟩
abbrev cX6_rateAsRing : ByteArray := prog_1_method_43_code
def yX6_rateAsRing : MethodName := ⟨RX6, "rateAsRing", "(I)I"⟩
def RX7 : String := "TwoKerbsModel"
def TX7 : u_T := fun k => match k with
  | 0 => ("TwoKerbsModel", "thrown", "I", false)
  | 1 => ("TwoKerbsModel", "trace", "J", false)
  | 2 => ("TwoKerbsModel", "text", "[I", true)
  | 3 => ("TwoKerbsModel", "typed", "I", false)
  | 4 => ("TwoKerbsModel", "next", "I", false)
  | 5 => ("TwoKerbsModel", "token", "I", false)
  | 6 => ("TwoKerbsModel", "place", "I", false)
  | 7 => ("TwoKerbsModel", "value", "I", false)
  | 8 => ("TwoKerbsModel", "fault", "I", false)
  | 9 => ("TwoKerbsModel", "many", "[I", true)
  | 10 => ("TwoKerbsModel", "isTold", "Z", false)
  | 11 => ("TwoKerbsModel", "town", "[I", true)
  | 12 => ("TwoKerbsModel", "height", "[I", true)
  | 13 => ("TwoKerbsModel", "drain", "[I", true)
  | 14 => ("TwoKerbsModel", "delay", "[I", true)
  | 15 => ("TwoKerbsModel", "lies", "[I", true)
  | 16 => ("TwoKerbsModel", "s", "[I", true)
  | 17 => ("TwoKerbsModel", "kept", "[I", true)
  | 18 => ("TwoKerbsModel", "isKept", "[Z", true)
  | 19 => ("TwoKerbsModel", "undos", "[I", true)
  | 20 => ("TwoKerbsModel", "undoMany", "I", false)
  | 21 => ("TwoKerbsModel", "foundOn", "[I", true)
  | 22 => ("TwoKerbsModel", "foundIn", "[I", true)
  | 23 => ("TwoKerbsModel", "foundMany", "I", false)
  | 24 => ("TwoKerbsModel", "sawIn", "[I", true)
  | 25 => ("TwoKerbsModel", "sawLevel", "[I", true)
  | 26 => ("TwoKerbsModel", "sawMany", "I", false)
  | 27 => ("TwoKerbsModel", "kerb", "I", false)
  | _ => ("TwoKerbsModel", "toGo", "I", false)
def tyX7 : Nat → FieldType := fun k => match k with
  | 0 => .int
  | 1 => .long
  | 2 => .array .int
  | 3 => .int
  | 4 => .int
  | 5 => .int
  | 6 => .int
  | 7 => .int
  | 8 => .int
  | 9 => .array .int
  | 10 => .boolean
  | 11 => .array .int
  | 12 => .array .int
  | 13 => .array .int
  | 14 => .array .int
  | 15 => .array .int
  | 16 => .array .int
  | 17 => .array .int
  | 18 => .array .boolean
  | 19 => .array .int
  | 20 => .int
  | 21 => .array .int
  | 22 => .array .int
  | 23 => .int
  | 24 => .array .int
  | 25 => .array .int
  | 26 => .int
  | 27 => .int
  | _ => .int
abbrev wsX70 : List Cond := u_ws RX7 TX7 29
theorem nmX7 : ∀ a, a < 29 → ∀ b, b < 29 → a ≠ b → (TX7 a).2.1 ≠ (TX7 b).2.1 := by decide +kernel
theorem tyX7_ok : ∀ k, k < 29 → parseFieldDescriptor (TX7 k).2.2.1 = some (tyX7 k) := by decide +kernel
abbrev cX7_init : ByteArray := prog_9_method_1_code
def yX7_init : MethodName := ⟨RX7, "<init>", "()V"⟩
abbrev cX7_in : ByteArray := prog_9_method_3_code
def yX7_in : MethodName := ⟨RX7, "in", "(III)Z"⟩
abbrev cX7_ones : ByteArray := prog_9_method_4_code
def yX7_ones : MethodName := ⟨RX7, "ones", "(I)I"⟩
abbrev cX7_type : ByteArray := prog_9_method_5_code
def yX7_type : MethodName := ⟨RX7, "type", "(I)I"⟩
abbrev cX7_clear : ByteArray := prog_9_method_6_code
def yX7_clear : MethodName := ⟨RX7, "clear", "()I"⟩
abbrev cX7_letterAt : ByteArray := prog_9_method_7_code
def yX7_letterAt : MethodName := ⟨RX7, "letterAt", "(I)I"⟩
abbrev cX7_advances : ByteArray := prog_9_method_8_code
def yX7_advances : MethodName := ⟨RX7, "advances", "()V"⟩
abbrev cX7_isWell : ByteArray := prog_9_method_9_code
def yX7_isWell : MethodName := ⟨RX7, "isWell", "()Z"⟩
abbrev cX7_takes : ByteArray := prog_9_method_10_code
def yX7_takes : MethodName := ⟨RX7, "takes", "(Z)I"⟩
abbrev cX7_number : ByteArray := prog_9_method_11_code
def yX7_number : MethodName := ⟨RX7, "number", "(II)I"⟩
abbrev cX7_begins : ByteArray := prog_9_method_12_code
def yX7_begins : MethodName := ⟨RX7, "begins", "()V"⟩
abbrev cX7_mayBegin : ByteArray := prog_9_method_13_code
def yX7_mayBegin : MethodName := ⟨RX7, "mayBegin", "()Z"⟩
abbrev cX7_readsItem : ByteArray := prog_9_method_14_code
def yX7_readsItem : MethodName := ⟨RX7, "readsItem", "(I)V"⟩
abbrev cX7_towns : ByteArray := prog_9_method_15_code
def yX7_towns : MethodName := ⟨RX7, "towns", "()I"⟩
abbrev cX7_settles : ByteArray := prog_9_method_16_code
def yX7_settles : MethodName := ⟨RX7, "settles", "()V"⟩
abbrev cX7_isKerb : ByteArray := prog_9_method_17_code
def yX7_isKerb : MethodName := ⟨RX7, "isKerb", "(I)Z"⟩
abbrev cX7_isThing : ByteArray := prog_9_method_18_code
def yX7_isThing : MethodName := ⟨RX7, "isThing", "(I)Z"⟩
abbrev cX7_isTied : ByteArray := prog_9_method_19_code
def yX7_isTied : MethodName := ⟨RX7, "isTied", "(I)Z"⟩
abbrev cX7_levelOf : ByteArray := prog_9_method_20_code
def yX7_levelOf : MethodName := ⟨RX7, "levelOf", "(I)I"⟩
abbrev cX7_floodIn : ByteArray := prog_9_method_21_code
def yX7_floodIn : MethodName := ⟨RX7, "floodIn", "(I)I"⟩
abbrev cX7_thingsOn : ByteArray := prog_9_method_22_code
def yX7_thingsOn : MethodName := ⟨RX7, "thingsOn", "(I)I"⟩
abbrev cX7_kerb : ByteArray := prog_9_method_23_code
def yX7_kerb : MethodName := ⟨RX7, "kerb", "(II)I"⟩
abbrev cX7_thing : ByteArray := prog_9_method_24_code
def yX7_thing : MethodName := ⟨RX7, "thing", "(II)I"⟩
abbrev cX7_now : ByteArray := prog_9_method_25_code
def yX7_now : MethodName := ⟨RX7, "now", "(I)I"⟩
abbrev cX7_notes : ByteArray := prog_9_method_26_code
def yX7_notes : MethodName := ⟨RX7, "notes", "()V"⟩
abbrev cX7_goes : ByteArray := prog_9_method_27_code
def yX7_goes : MethodName := ⟨RX7, "goes", "(I)Z"⟩
abbrev cX7_takesUp : ByteArray := prog_9_method_28_code
def yX7_takesUp : MethodName := ⟨RX7, "takesUp", "(I)V"⟩
abbrev cX7_tides : ByteArray := prog_9_method_29_code
def yX7_tides : MethodName := ⟨RX7, "tides", "(I)I"⟩
abbrev cX7_ties : ByteArray := prog_9_method_30_code
def yX7_ties : MethodName := ⟨RX7, "ties", "(II)I"⟩
abbrev cX7_carries : ByteArray := prog_9_method_31_code
def yX7_carries : MethodName := ⟨RX7, "carries", "(II)I"⟩
abbrev cX7_undo : ByteArray := prog_9_method_32_code
def yX7_undo : MethodName := ⟨RX7, "undo", "()I"⟩
abbrev cX7_level : ByteArray := prog_9_method_33_code
def yX7_level : MethodName := ⟨RX7, "level", "(I)I"⟩
abbrev cX7_high : ByteArray := prog_9_method_34_code
def yX7_high : MethodName := ⟨RX7, "high", "(I)I"⟩
abbrev cX7_flood : ByteArray := prog_9_method_35_code
def yX7_flood : MethodName := ⟨RX7, "flood", "(I)I"⟩
abbrev cX7_where : ByteArray := prog_9_method_36_code
def yX7_where : MethodName := ⟨RX7, "where", "(II)I"⟩
abbrev cX7_soon : ByteArray := prog_9_method_37_code
def yX7_soon : MethodName := ⟨RX7, "soon", "(IZ)I"⟩
abbrev cX7_when : ByteArray := prog_9_method_38_code
def yX7_when : MethodName := ⟨RX7, "when", "(II)I"⟩
abbrev cX7_send : ByteArray := prog_9_method_39_code
def yX7_send : MethodName := ⟨RX7, "send", "(III)I"⟩
abbrev cX7_meet : ByteArray := prog_9_method_40_code
def yX7_meet : MethodName := ⟨RX7, "meet", "(II)I"⟩
abbrev cX7_round : ByteArray := prog_9_method_41_code
def yX7_round : MethodName := ⟨RX7, "round", "(I)I"⟩
abbrev cX7_gcd : ByteArray := prog_9_method_42_code
def yX7_gcd : MethodName := ⟨RX7, "gcd", "(II)I"⟩
abbrev cX7_odds : ByteArray := prog_9_method_43_code
def yX7_odds : MethodName := ⟨RX7, "odds", "(IIIII)I"⟩
abbrev cX7_found : ByteArray := prog_9_method_44_code
def yX7_found : MethodName := ⟨RX7, "found", "(II)I"⟩
abbrev cX7_canBegin : ByteArray := prog_9_method_45_code
def yX7_canBegin : MethodName := ⟨RX7, "canBegin", "(I)Z"⟩
abbrev cX7_began : ByteArray := prog_9_method_46_code
def yX7_began : MethodName := ⟨RX7, "began", "()I"⟩
abbrev cX7_saw : ByteArray := prog_9_method_47_code
def yX7_saw : MethodName := ⟨RX7, "saw", "(II)I"⟩
abbrev cX7_laws : ByteArray := prog_9_method_48_code
def yX7_laws : MethodName := ⟨RX7, "laws", "(I)I"⟩
abbrev cX7_forget : ByteArray := prog_9_method_49_code
def yX7_forget : MethodName := ⟨RX7, "forget", "()I"⟩
abbrev cX7_rate : ByteArray := prog_9_method_50_code
def yX7_rate : MethodName := ⟨RX7, "rate", "(II)I"⟩
abbrev cX7_keep : ByteArray := prog_9_method_51_code
def yX7_keep : MethodName := ⟨RX7, "keep", "(I)I"⟩
abbrev cX7_back : ByteArray := prog_9_method_52_code
def yX7_back : MethodName := ⟨RX7, "back", "(I)I"⟩
abbrev cX7_count : ByteArray := prog_9_method_53_code
def yX7_count : MethodName := ⟨RX7, "count", "(I)I"⟩
abbrev cX7_trace : ByteArray := prog_9_method_54_code
def yX7_trace : MethodName := ⟨RX7, "trace", "()J"⟩
def RJ6 : String := "java/lang/Integer"
def TJ6 : u_T := fun k => match k with
  | _ => ("", "", "", false)
def tyJ6 : Nat → FieldType := fun k => match k with
  | _ => .int
abbrev wsJ60 : List Cond := u_ws RJ6 TJ6 0
abbrev cJ6_bitCount_0f7a4 : ByteArray := prog_10_method_49_code
def yJ6_bitCount_0f7a4 : MethodName := ⟨RJ6, "bitCount", "(I)I"⟩
def RJ9 : String := "java/lang/Math"
def TJ9 : u_T := fun k => match k with
  | _ => ("", "", "", false)
def tyJ9 : Nat → FieldType := fun k => match k with
  | _ => .int
abbrev wsJ90 : List Cond := u_ws RJ9 TJ9 0
abbrev cJ9_max_7cf53 : ByteArray := prog_11_method_65_code
def yJ9_max_7cf53 : MethodName := ⟨RJ9, "max", "(II)I"⟩
abbrev cJ9_min_7cf53 : ByteArray := prog_11_method_69_code
def yJ9_min_7cf53 : MethodName := ⟨RJ9, "min", "(II)I"⟩
def RL : String := "TwoKerbsLaw"
abbrev cL_law : ByteArray := code
def yL_law : MethodName := ⟨RL, "law", "([I)Z"⟩
abbrev vwCl : List vw_C := [(RX0, TX0, 3), (RX1, TX1, 3), (RX2, TX2, 3), (RX3, TX3, 7), (RX4, TX4, 3), (RX5, TX5, 10), (RX6, TX6, 12), (RX7, TX7, 29)]
end
section
/-! THE SMALL MACHINE: memory by places and slots, acts as predicate transformers, what a contract is -/
def tk_G : List Cond := lw_tbl.filter goodWord
theorem tk_mem {w : Cond} (i : Nat) (h : lw_tbl[i]? = some w) (hg : goodWord w = true) : w ∈ tk_G := List.mem_filter.mpr ⟨List.mem_of_getElem? h, hg⟩
theorem tk_good {w : Cond} (h : w ∈ tk_G) : (w.onTables && w.keeps) = true ∨ ∃ ty, w = .arrayClass ty := good_of_word (List.mem_filter.mp h).2
/-- ints, references, longs, how many places there are -/
abbrev tk_Me : Type := (Nat → Nat → Int32) × (Nat → Nat → Option Nat) × (Nat → Nat → Int64) × Nat
/-- pc, locals, stack, memory, cells and slots made -/
abbrev tk_Cf : Type := Nat × List (Option Value) × List Value × tk_Me × Nat × Nat
abbrev tk_Po : Type := Option Value → tk_Me → Prop
abbrev tk_Ac : Type := List (Option Value) → List Value → tk_Me → Nat → Nat → (tk_Cf → Prop) → tk_Po → Prop
/-- name, bytes, locals, answer's type, room -/
abbrev tk_Md : Type := MethodName × ByteArray × Nat × Option FieldType × Room
abbrev tk_Tb : Type := List (Nat × tk_Ac)
def tk_up {α : Type} (f : Nat → Nat → α) (p k : Nat) (v : α) : Nat → Nat → α := fun a b => if a = p ∧ b = k then v else f a b
/-- the kind of each place: a class's number (0 to 7), or 8 char[], 9 int[], 10 boolean[], 11 Thing[], 12 int[][]; and its length -/
def tk_kds : List (Nat × Nat) := [(99, 0), (6, 12), (3, 7), (8, 150), (5, 10), (9, 8), (9, 8), (9, 8), (9, 8), (9, 5), (5, 10), (9, 8), (9, 8), (9, 8), (9, 8), (9, 5), (1, 3), (11, 5), (4, 3), (4, 3), (4, 3), (4, 3), (4, 3), (2, 3), (12, 10), (9, 17), (9, 17), (9, 17), (9, 17), (9, 17), (9, 17), (9, 17), (9, 17), (9, 17), (9, 17), (12, 2), (9, 17), (9, 17), (10, 2), (0, 3), (9, 6), (9, 6), (0, 3), (9, 6), (9, 6), (4, 3), (4, 3), (7, 29), (9, 150), (9, 10), (9, 16), (9, 16), (9, 16), (9, 16), (9, 5), (9, 13), (9, 26), (10, 2), (9, 130), (9, 6), (9, 6), (9, 6), (9, 6)]
def tk_kd (p : Nat) : Nat × Nat := tk_kds.getD p (99, 0)
def tk_nf (t : Nat) : Nat := [3, 3, 3, 7, 3, 10, 12, 29].getD t 0
/-- 0: an int, a boolean; 1: a reference; 2: a long -/
def tk_ft (t k : Nat) : Nat := ([[1, 1, 0], [0, 0, 1], [1, 0, 0], [1, 0, 0, 0, 0, 0, 0], [0, 0, 0], [0, 0, 0, 0, 0, 1, 1, 1, 1, 1], [1, 1, 1, 1, 1, 1, 1, 1, 1, 1, 1, 2], [0, 2, 1, 0, 0, 0, 0, 0, 0, 1, 0, 1, 1, 1, 1, 1, 1, 1, 1, 1, 0, 1, 1, 0, 1, 1, 0, 0, 0]].getD t []).getD k 0
def tk_ok (p t n : Nat) : Bool := (tk_kd p).1 == t && (Nat.ble 1 p && Nat.ble p n)
def tk_if (b : Bool) (A : Prop) : Prop := match b with
  | true => A
  | false => False
theorem tk_if.mp {b : Bool} {A : Prop} (h : tk_if b A) : b = true ∧ A := by
  cases b with
  | true => exact ⟨rfl, h⟩
  | false => exact h.elim
theorem tk_ift {b : Bool} {A : Prop} (hb : b = true) (h : A) : tk_if b A := by subst hb; exact h
theorem tk_ok.mp {p t n : Nat} (h : tk_ok p t n = true) : (tk_kd p).1 = t ∧ 1 ≤ p ∧ p ≤ n := by
  simp only [tk_ok, Bool.and_eq_true, beq_iff_eq, Nat.ble_eq] at h
  exact ⟨h.1, h.2.1, h.2.2⟩
/-- an index within -/
def tk_in (i : Int32) (n : Nat) : Bool := decide (0 ≤ i) && decide (i.toNatClampNeg < n)
theorem tk_in.mp {i : Int32} {n : Nat} (h : tk_in i n = true) : vp_in i n := by
  simp only [tk_in, Bool.and_eq_true, decide_eq_true_eq] at h
  intro hq
  rcases hq with hq | hq
  · exact absurd h.1 (Int32.not_le.mpr hq)
  · omega
def tk_v (ad : Nat → Nat) : Value → Value
  | .ref p => .ref (ad p)
  | v => v
theorem tk_v_cat (ad : Nat → Nat) (v : Value) : (tk_v ad v).category = v.category := by cases v <;> rfl
def tk_fv (ad : Nat → Nat) (μ : tk_Me) (t p k : Nat) : Value := match tk_ft t k with
  | 0 => .int (μ.1 p k)
  | 1 => va_rf ((μ.2.1 p k).map ad)
  | _ => .long (μ.2.2.1 p k)
def tk_cell (cy : Nat → ClassId) (ad : Nat → Nat) (μ : tk_Me) (p : Nat) : va_E :=
  if (tk_kd p).1 < 8 then .inr ((tk_kd p).1, (List.range (tk_nf (tk_kd p).1)).map (fun k => tk_fv ad μ (tk_kd p).1 p k))
  else if (tk_kd p).1 < 11 then .inl (cy (tk_kd p).1, (tk_kd p).2, .inl (μ.1 p))
  else .inl (cy (tk_kd p).1, (tk_kd p).2, .inr (.inr (.inr (.inr (fun i => (μ.2.1 p i).map ad)))))
def tk_ws (cy : Nat → ClassId) (ad : Nat → Nat) (μ : tk_Me) : va_W := (List.range μ.2.2.2).map (fun j => (ad (j + 1), tk_cell cy ad μ (j + 1)))
def tk_tys (cy : Nat → ClassId) : List (ClassId × FieldType) := [(cy 8, .char), (cy 9, .int), (cy 10, .boolean), (cy 11, .object RX4), (cy 12, .array .int)]
def tk_R (D : va_G) (cy : Nat → ClassId) (A : Nat → Prop) (ad : Nat → Nat) (μ : tk_Me) (H : Heap) : Prop := va_P D vwCl (tk_ws cy ad μ) H ∧ va_D A (tk_ws cy ad μ) ∧ ∀ p k r, μ.2.1 p k = some r → r ≤ μ.2.2.2
/-- the tables' words of nest mates, and of arrays of references -/
def tk_N (U : State) : Prop := (∀ (a : String) (i : Nat) (x : MethodName) (h : String), Cond.methodLinkNest a i x h ∈ lw_tbl → va_Nw (.methodLinkNest a i x h) U) ∧ va_AO RX4 U ∧ (Cond.arrayOver (.array .int)).before #[] U = true
def tk_C (D : va_G) (cy : Nat → ClassId) (M : tk_Md) (p : Program) (s : State) (m : MethodId) (args : Array Value) (meth : Method) (c : Code) : Prop :=
  p.tables.exec = Jvm.exec ∧ c.code = M.2.1 ∧ meth.sig.returnType = M.2.2.2.1 ∧ c.maxLocals = M.2.2.1 ∧ s.vm.findClass M.1.cls = some m.cls ∧ (∀ w ∈ tk_G, w.before args s = true) ∧ meth.locks = false ∧ meth.name = M.1.name ∧ va_K D vwCl (tk_tys cy) s ∧ tk_N s
def tk_lv (ad : Nat → Nat) (L : List (Option Value)) : List (Nat × Value) := (List.range L.length).filterMap (fun i => (L[i]?.join).map (fun v => (i, tk_v ad v)))
theorem tk_lv_mem {ad : Nat → Nat} {L : List (Option Value)} {i : Nat} {w : Value} : (i, w) ∈ tk_lv ad L ↔ ∃ v, L[i]? = some (some v) ∧ w = tk_v ad v := by
  unfold tk_lv
  rw [List.mem_filterMap]
  constructor
  · rintro ⟨j, hj, h⟩
    cases hx : L[j]? with
    | none => rw [hx] at h; cases h
    | some o =>
      rw [hx] at h
      cases o with
      | none => cases h
      | some v => cases h; exact ⟨v, hx, rfl⟩
  · rintro ⟨v, h, rfl⟩
    refine ⟨i, List.mem_range.mpr (List.getElem?_eq_some_iff.mp h).1, ?_⟩
    rw [h]
    rfl
def tk_L (ad : Nat → Nat) (L : List (Option Value)) (ls : Array Slot) (nL : Nat) : Prop := lv_has ls nL (tk_lv ad L) ∧ L.length = nL ∧ ∀ (i : Nat) (v : Value), L[i]? = some (some v) → v.category = 1
def tk_Q (D : va_G) (cy : Nat → ClassId) (R : Room) (ad0 : Nat → Nat) (n0 : Nat) (A : Nat → Prop) (q : tk_Po) : Array Value → State → Outcome → State → Prop := fun _ st oc t =>
  (∃ (r : Option Value) (μ : tk_Me) (ad : Nat → Nat), oc = .returned (r.map (tk_v ad)) ∧ q r μ ∧ (∀ i, i ≤ n0 → ad i = ad0 i) ∧ n0 ≤ μ.2.2.2 ∧ (R.cells = 0 → ad = ad0) ∧ tk_R D cy A ad μ t.heap) ∧ va_F A st t
def tk_J (l : Launch) (D : va_G) (cy : Nat → ClassId) (sc : Option (Nat × (Nat → Int32))) (M : tk_Md) (c : tk_Cf) (q : tk_Po) : Prop :=
  ∀ (p : Program) (e : Env) (s : State) (m : MethodId) (args : Array Value) (below : List Frame) (meth : Method) (cd : Code) (H : Heap) (locs : List Loc) (ad ad0 : Nat → Nat) (n0 : Nat) (A : Nat → Prop) (ls : Array Slot),
    tk_C D cy M p s m args meth cd → tk_R D cy A ad c.2.2.2.1 H → va_S A s.heap H locs → (∀ x, s.heap.size ≤ x → A x) → tk_L ad c.2.1 ls M.2.2.1 →
    ((∀ i, i ≤ n0 → ad i = ad0 i) ∧ n0 ≤ c.2.2.2.1.2.2.2 ∧ (c.2.2.2.2.1 = 0 → ad = ad0) ∧ c.2.2.2.2.1 ≤ M.2.2.2.2.cells ∧ c.2.2.2.2.2 ≤ M.2.2.2.2.slots) →
    (∀ Ls xs, sc = some (Ls, xs) → va_X (ad 0) Ls xs s s.heap ∧ ad 0 < s.heap.size ∧ ¬ A (ad 0)) →
    W p l e M.2.2.2.2 s m args below meth cd H locs c.2.2.2.2.1 c.2.2.2.2.2 (MQ below (tk_Q D cy M.2.2.2.2 ad0 n0 A q) args s M.2.2.2.2.cells M.2.2.2.2.slots A) (F0 m c.1 ls (c.2.2.1.map (tk_v ad)))
/-- an act at a pc is sound -/
def tk_So (sc : Option (Nat × (Nat → Int32))) (M : tk_Md) (pc : Nat) (a : tk_Ac) : Prop :=
  ∀ (l : Launch) (D : va_G) (cy : Nat → ClassId) (L : List (Option Value)) (st : List Value) (μ : tk_Me) (kc ks : Nat) (K : tk_Cf → Prop) (q : tk_Po),
    (∀ c, K c → tk_J l D cy sc M c q) → a L st μ kc ks K q → tk_J l D cy sc M (pc, L, st, μ, kc, ks) q
def tk_at : tk_Tb → Nat → Option tk_Ac
  | [], _ => none
  | (k, a) :: t, pc => match Nat.beq k pc with
    | true => some a
    | false => tk_at t pc
theorem tk_at_mem {T : tk_Tb} {pc : Nat} {a : tk_Ac} (h : tk_at T pc = some a) : (pc, a) ∈ T := by
  induction T with
  | nil => cases h
  | cons x t ih =>
    obtain ⟨k, b⟩ := x
    unfold tk_at at h
    cases hb : Nat.beq k pc with
    | true =>
      rw [hb] at h
      have hk := Nat.eq_of_beq_eq_true hb
      cases h
      rw [hk]
      exact List.mem_cons_self
    | false =>
      rw [hb] at h
      exact List.mem_cons_of_mem _ (ih h)
def tk_is : List Nat → Nat → Bool
  | [], _ => false
  | k :: t, pc => match Nat.beq k pc with
    | true => true
    | false => tk_is t pc
def tk_go : Nat → tk_Tb → List Nat → tk_Cf → (tk_Cf → Prop) → tk_Po → Prop
  | 0, _, _, _, _, _ => False
  | n + 1, T, cuts, (pc, L, st, μ, kc, ks), K, q => match tk_at T pc with
    | none => False
    | some a => a L st μ kc ks (fun c => match tk_is cuts c.1 with
      | true => K c
      | false => tk_go n T cuts c K q) q
theorem tk_run {sc : Option (Nat × (Nat → Int32))} {M : tk_Md} {T : tk_Tb} (hT : ∀ x ∈ T, tk_So sc M x.1 x.2) {l : Launch} {D : va_G} {cy : Nat → ClassId} {q : tk_Po} (cuts : List Nat) :
    ∀ (n : Nat) (c : tk_Cf), tk_go n T cuts c (fun c' => tk_J l D cy sc M c' q) q → tk_J l D cy sc M c q := by
  intro n
  induction n with
  | zero => intro c h; exact h.elim
  | succ n ih =>
    intro c h
    obtain ⟨pc, L, st, μ, kc, ks⟩ := c
    unfold tk_go at h
    cases hx : tk_at T pc with
    | none => rw [hx] at h; exact h.elim
    | some a =>
      rw [hx] at h
      refine hT (pc, a) (tk_at_mem hx) l D cy L st μ kc ks _ q ?_ h
      intro c' hc'
      dsimp only at hc'
      cases hz : tk_is cuts c'.1 with
      | true => rw [hz] at hc'; exact hc'
      | false => rw [hz] at hc'; exact ih c' hc'
def tk_wsM (M : tk_Md) : List Cond := Cond.code M.1 M.2.1 M.2.2.1 M.2.2.2.1 :: tk_G
/-- the contract of a method at these arguments and this memory -/
def tk_Ct (M : tk_Md) (as : List Value) (μ : tk_Me) (P : tk_Po) : Prop :=
  ∀ (l : Launch) (D : va_G) (cy : Nat → ClassId) (ad : Nat → Nat) (A : Nat → Prop), Met l M.1 (tk_wsM M) M.2.2.2.2
    (fun v U => v = (as.map (tk_v ad)).toArray ∧ (∀ x, U.heap.size ≤ x → A x) ∧ va_K D vwCl (tk_tys cy) U ∧ tk_N U ∧ tk_R D cy A ad μ U.heap)
    (tk_Q D cy M.2.2.2.2 ad μ.2.2.2 A P) M.2.2.2.2.cells M.2.2.2.2.slots A
end
section
/-! THE ACTS, and that they are sound: what moves no cell -/
def tk_nth : List (Option Value) → Nat → Option Value
  | [], _ => none
  | a :: _, 0 => a
  | _ :: l, n + 1 => tk_nth l n
theorem tk_nth_at {L : List (Option Value)} {i : Nat} {v : Value} (h : tk_nth L i = some v) : L[i]? = some (some v) := by
  induction L generalizing i with
  | nil => cases h
  | cons a l ih =>
    cases i with
    | zero => simp only [tk_nth] at h; subst h; rfl
    | succ i => simp only [List.getElem?_cons_succ]; exact ih h
def tk_set : List (Option Value) → Nat → Value → (List (Option Value) → Prop) → Prop
  | [], _, _, _ => False
  | _ :: l, 0, v, k => k (some v :: l)
  | a :: l, n + 1, v, k => tk_set l n v (fun l' => k (a :: l'))
theorem tk_set_at {L : List (Option Value)} {i : Nat} {v : Value} {k : List (Option Value) → Prop} (h : tk_set L i v k) : i < L.length ∧ k (L.set i (some v)) := by
  induction L generalizing i k with
  | nil => exact h.elim
  | cons a l ih =>
    cases i with
    | zero => exact ⟨by simp, h⟩
    | succ i =>
      obtain ⟨h1, h2⟩ := ih (i := i) (k := fun l' => k (a :: l')) h
      exact ⟨by simp only [List.length_cons]; omega, h2⟩
theorem tk_L_at {ad : Nat → Nat} {L : List (Option Value)} {ls : Array Slot} {nL i : Nat} {v : Value} (h : tk_L ad L ls nL) (hv : tk_nth L i = some v) : ls[i]? = some (.val (tk_v ad v)) :=
  h.1.2.2 (i, tk_v ad v) (tk_lv_mem.mpr ⟨v, tk_nth_at hv, rfl⟩)
theorem tk_L_set {ad : Nat → Nat} {L : List (Option Value)} {ls ls' : Array Slot} {nL i : Nat} {v : Value} (h : tk_L ad L ls nL) (hi : i < L.length) (hc : v.category = 1)
    (h' : lv_has ls' nL ((i, tk_v ad v) :: (tk_lv ad L).filter (fun q => !(q.1 == i) && !(q.1 + 1 == i && q.2.category == 2)))) : tk_L ad (L.set i (some v)) ls' nL := by
  refine ⟨⟨h'.1, h'.2.1, fun q hq => ?_⟩, by rw [List.length_set]; exact h.2.1, fun j w hw => ?_⟩
  · obtain ⟨j, w⟩ := q
    obtain ⟨x, hx, rfl⟩ := tk_lv_mem.mp hq
    by_cases hj : j = i
    · subst hj
      rw [List.getElem?_set_self hi] at hx
      cases hx
      exact h'.2.2 _ List.mem_cons_self
    · rw [List.getElem?_set_ne (Ne.symm hj)] at hx
      refine h'.2.2 _ (List.mem_cons_of_mem _ (List.mem_filter.mpr ⟨tk_lv_mem.mpr ⟨x, hx, rfl⟩, ?_⟩))
      have h1 : (tk_v ad x).category = 1 := by rw [tk_v_cat]; exact h.2.2 j x hx
      simp [hj, h1]
  · by_cases hj : j = i
    · subst hj
      rw [List.getElem?_set_self hi] at hw
      cases hw
      exact hc
    · rw [List.getElem?_set_ne (Ne.symm hj)] at hw
      exact h.2.2 j w hw
def tk_ic (v : Int32) (nx : Nat) : tk_Ac := fun L st μ kc ks K _ => K (nx, L, .int v :: st, μ, kc, ks)
def tk_lc (v : Int64) (nx : Nat) : tk_Ac := fun L st μ kc ks K _ => K (nx, L, .long v :: st, μ, kc, ks)
def tk_il (i nx : Nat) : tk_Ac := fun L st μ kc ks K _ => match tk_nth L i with
  | some (.int x) => K (nx, L, .int x :: st, μ, kc, ks)
  | _ => False
def tk_al (i nx : Nat) : tk_Ac := fun L st μ kc ks K _ => match tk_nth L i with
  | some (.ref x) => K (nx, L, .ref x :: st, μ, kc, ks)
  | _ => False
def tk_sI (i nx : Nat) : tk_Ac := fun L st μ kc ks K _ => match st with
  | .int x :: r => tk_set L i (.int x) (fun L' => K (nx, L', r, μ, kc, ks))
  | _ => False
def tk_sA (i nx : Nat) : tk_Ac := fun L st μ kc ks K _ => match st with
  | .ref x :: r => tk_set L i (.ref x) (fun L' => K (nx, L', r, μ, kc, ks))
  | _ => False
def tk_inc (i : Nat) (d : Int32) (nx : Nat) : tk_Ac := fun L st μ kc ks K _ => match tk_nth L i with
  | some (.int x) => tk_set L i (.int (x + d)) (fun L' => K (nx, L', st, μ, kc, ks))
  | _ => False
def tk_bi (f : Int32 → Int32 → Int32) (nx : Nat) : tk_Ac := fun L st μ kc ks K _ => match st with
  | .int y :: .int x :: r => K (nx, L, .int (f x y) :: r, μ, kc, ks)
  | _ => False
def tk_dv (f : Int32 → Int32 → Int32) (nx : Nat) : tk_Ac := fun L st μ kc ks K _ => match st with
  | .int y :: .int x :: r => ¬ y = 0 ∧ K (nx, L, .int (f x y) :: r, μ, kc, ks)
  | _ => False
def tk_un (f : Int32 → Int32) (nx : Nat) : tk_Ac := fun L st μ kc ks K _ => match st with
  | .int x :: r => K (nx, L, .int (f x) :: r, μ, kc, ks)
  | _ => False
def tk_lad (nx : Nat) : tk_Ac := fun L st μ kc ks K _ => match st with
  | .long y :: .long x :: r => K (nx, L, .long (x + y) :: r, μ, kc, ks)
  | _ => False
def tk_lcm (nx : Nat) : tk_Ac := fun L st μ kc ks K _ => match st with
  | .long y :: .long x :: r => K (nx, L, .int (lg_cmp x y) :: r, μ, kc, ks)
  | _ => False
def tk_dup (nx : Nat) : tk_Ac := fun L st μ kc ks K _ => match st with
  | .int x :: r => K (nx, L, .int x :: .int x :: r, μ, kc, ks)
  | .ref x :: r => K (nx, L, .ref x :: .ref x :: r, μ, kc, ks)
  | _ => False
def tk_du2 (nx : Nat) : tk_Ac := fun L st μ kc ks K _ => match st with
  | .int x :: .ref y :: r => K (nx, L, .int x :: .ref y :: .int x :: .ref y :: r, μ, kc, ks)
  | _ => False
def tk_pp (nx : Nat) : tk_Ac := fun L st μ kc ks K _ => match st with
  | .int _ :: r => K (nx, L, r, μ, kc, ks)
  | _ => False
def tk_br (P : Int32 → Prop) (tg nx : Nat) : tk_Ac := fun L st μ kc ks K _ => match st with
  | .int x :: r => (P x → K (tg, L, r, μ, kc, ks)) ∧ (¬ P x → K (nx, L, r, μ, kc, ks))
  | _ => False
def tk_cm (P : Int32 → Int32 → Prop) (tg nx : Nat) : tk_Ac := fun L st μ kc ks K _ => match st with
  | .int y :: .int x :: r => (P x y → K (tg, L, r, μ, kc, ks)) ∧ (¬ P x y → K (nx, L, r, μ, kc, ks))
  | _ => False
def tk_jmp (tg : Nat) : tk_Ac := fun L st μ kc ks K _ => K (tg, L, st, μ, kc, ks)
/-- a switch: its cases, then what is left -/
def tk_cas : List (Int32 × Nat) → Int32 → Nat → (Nat → Prop) → Prop
  | [], _, d, K => K d
  | (v, t) :: r, x, d, K => (x = v → K t) ∧ (¬ x = v → tk_cas r x d K)
def tk_sw (cs : List (Int32 × Nat)) (d : Nat) : tk_Ac := fun L st μ kc ks K _ => match st with
  | .int x :: r => tk_cas cs x d (fun t => K (t, L, r, μ, kc, ks))
  | _ => False
def tk_rI : tk_Ac := fun _ st μ _ _ _ q => match st with
  | [.int x] => q (some (.int x)) μ
  | _ => False
def tk_rZ : tk_Ac := fun _ st μ _ _ _ q => match st with
  | [.int x] => (x = 0 ∨ x = 1) ∧ q (some (.int x)) μ
  | _ => False
def tk_rL : tk_Ac := fun _ st μ _ _ _ q => match st with
  | [.long x] => q (some (.long x)) μ
  | _ => False
def tk_rA : tk_Ac := fun _ st μ _ _ _ q => match st with
  | [.ref x] => q (some (.ref x)) μ
  | _ => False
def tk_rV : tk_Ac := fun _ st μ _ _ _ q => match st with
  | [] => q none μ
  | _ => False
section
variable {sc : Option (Nat × (Nat → Int32))} {M : tk_Md} {pc nx : Nat}
theorem so_iconst {n : Int} {v : Int32} (hd : decode M.2.1 pc = .ok (.iconst n, 1)) (hv : Int32.ofInt n = v) (hn : pc + 1 = nx) : tk_So sc M pc (tk_ic v nx) := by
  subst hn
  intro l D cy L st μ kc ks K q hK ha p e s m args below meth cd H locs ad ad0 n0 A ls hC hR hS hA hL hN hX
  exact lv_iconst hC.1 hC.2.1 hd hv (hK _ ha p e s m args below meth cd H locs ad ad0 n0 A ls hC hR hS hA hL hN hX)
theorem so_bipush {n : Int} {v : Int32} (hd : decode M.2.1 pc = .ok (.bipush n, 2)) (hv : (Int8.ofInt n).toInt32 = v) (hn : pc + 2 = nx) : tk_So sc M pc (tk_ic v nx) := by
  subst hn
  intro l D cy L st μ kc ks K q hK ha p e s m args below meth cd H locs ad ad0 n0 A ls hC hR hS hA hL hN hX
  exact lv_bipush hC.1 hC.2.1 hd hv (hK _ ha p e s m args below meth cd H locs ad ad0 n0 A ls hC hR hS hA hL hN hX)
theorem so_sipush {n : Int} {v : Int32} (hd : decode M.2.1 pc = .ok (.sipush n, 3)) (hv : (Int16.ofInt n).toInt32 = v) (hn : pc + 3 = nx) : tk_So sc M pc (tk_ic v nx) := by
  subst hn
  intro l D cy L st μ kc ks K q hK ha p e s m args below meth cd H locs ad ad0 n0 A ls hC hR hS hA hL hN hX
  exact lv_sipush hC.1 hC.2.1 hd hv (hK _ ha p e s m args below meth cd H locs ad ad0 n0 A ls hC hR hS hA hL hN hX)
theorem so_ldc {i : Nat} {v : Int32} (hd : decode M.2.1 pc = .ok (.ldc i, 2)) (hw : Cond.constant M.1.cls i v ∈ tk_G) (hn : pc + 2 = nx) : tk_So sc M pc (tk_ic v nx) := by
  subst hn
  intro l D cy L st μ kc ks K q hK ha p e s m args below meth cd H locs ad ad0 n0 A ls hC hR hS hA hL hN hX
  exact lv_ldc hC.1 hC.2.1 hC.2.2.2.2.1 (hC.2.2.2.2.2.1 _ hw) hd (hK _ ha p e s m args below meth cd H locs ad ad0 n0 A ls hC hR hS hA hL hN hX)
theorem so_ldcw {i : Nat} {v : Int32} (hd : decode M.2.1 pc = .ok (.ldc_w i, 3)) (hw : Cond.constant M.1.cls i v ∈ tk_G) (hn : pc + 3 = nx) : tk_So sc M pc (tk_ic v nx) := by
  subst hn
  intro l D cy L st μ kc ks K q hK ha p e s m args below meth cd H locs ad ad0 n0 A ls hC hR hS hA hL hN hX
  exact lv_ldcw hC.1 hC.2.1 hC.2.2.2.2.1 (hC.2.2.2.2.2.1 _ hw) hd (hK _ ha p e s m args below meth cd H locs ad ad0 n0 A ls hC hR hS hA hL hN hX)
theorem so_ldc2 {i : Nat} {v : Int64} (hd : decode M.2.1 pc = .ok (.ldc2_w i, 3)) (hw : Cond.constantLong M.1.cls i v ∈ tk_G) (hn : pc + 3 = nx) : tk_So sc M pc (tk_lc v nx) := by
  subst hn
  intro l D cy L st μ kc ks K q hK ha p e s m args below meth cd H locs ad ad0 n0 A ls hC hR hS hA hL hN hX
  exact lv_ldc2 hC.1 hC.2.1 hC.2.2.2.2.1 (hC.2.2.2.2.2.1 _ hw) hd (hK _ ha p e s m args below meth cd H locs ad ad0 n0 A ls hC hR hS hA hL hN hX)
theorem so_lconst {n : Fin 2} {v : Int64} (hd : decode M.2.1 pc = .ok (.lconst n, 1)) (hv : Int64.ofNat (n : Nat) = v) (hn : pc + 1 = nx) : tk_So sc M pc (tk_lc v nx) := by
  subst hn
  intro l D cy L st μ kc ks K q hK ha p e s m args below meth cd H locs ad ad0 n0 A ls hC hR hS hA hL hN hX
  exact lv_lconst hC.1 hC.2.1 hd hv (hK _ ha p e s m args below meth cd H locs ad ad0 n0 A ls hC hR hS hA hL hN hX)
theorem so_iload_n {k : Fin 4} {i : Nat} (hd : decode M.2.1 pc = .ok (.iload_n k, 1)) (hi : (k : Nat) = i) (hn : pc + 1 = nx) : tk_So sc M pc (tk_il i nx) := by
  subst hn
  intro l D cy L st μ kc ks K q hK ha p e s m args below meth cd H locs ad ad0 n0 A ls hC hR hS hA hL hN hX
  unfold tk_il at ha
  split at ha
  · rename_i x hx
    exact lv_iload_n hC.1 hC.2.1 hd hi (tk_L_at hL hx) (hK _ ha p e s m args below meth cd H locs ad ad0 n0 A ls hC hR hS hA hL hN hX)
  · exact ha.elim
theorem so_iload {i : Nat} (hd : decode M.2.1 pc = .ok (.iload i, 2)) (hn : pc + 2 = nx) : tk_So sc M pc (tk_il i nx) := by
  subst hn
  intro l D cy L st μ kc ks K q hK ha p e s m args below meth cd H locs ad ad0 n0 A ls hC hR hS hA hL hN hX
  unfold tk_il at ha
  split at ha
  · rename_i x hx
    exact lv_iload hC.1 hC.2.1 hd (tk_L_at hL hx) (hK _ ha p e s m args below meth cd H locs ad ad0 n0 A ls hC hR hS hA hL hN hX)
  · exact ha.elim
theorem so_aload_n {k : Fin 4} {i : Nat} (hd : decode M.2.1 pc = .ok (.aload_n k, 1)) (hi : (k : Nat) = i) (hn : pc + 1 = nx) : tk_So sc M pc (tk_al i nx) := by
  subst hn
  intro l D cy L st μ kc ks K q hK ha p e s m args below meth cd H locs ad ad0 n0 A ls hC hR hS hA hL hN hX
  unfold tk_al at ha
  split at ha
  · rename_i x hx
    exact lv_aload_n hC.1 hC.2.1 hd hi (tk_L_at hL hx) (hK _ ha p e s m args below meth cd H locs ad ad0 n0 A ls hC hR hS hA hL hN hX)
  · exact ha.elim
theorem so_aload {i : Nat} (hd : decode M.2.1 pc = .ok (.aload i, 2)) (hn : pc + 2 = nx) : tk_So sc M pc (tk_al i nx) := by
  subst hn
  intro l D cy L st μ kc ks K q hK ha p e s m args below meth cd H locs ad ad0 n0 A ls hC hR hS hA hL hN hX
  unfold tk_al at ha
  split at ha
  · rename_i x hx
    exact lv_aload hC.1 hC.2.1 hd (tk_L_at hL hx) (hK _ ha p e s m args below meth cd H locs ad ad0 n0 A ls hC hR hS hA hL hN hX)
  · exact ha.elim
theorem so_istore_n {k : Fin 4} {i : Nat} (hd : decode M.2.1 pc = .ok (.istore_n k, 1)) (hi : (k : Nat) = i) (hn : pc + 1 = nx) : tk_So sc M pc (tk_sI i nx) := by
  subst hn
  intro l D cy L st μ kc ks K q hK ha p e s m args below meth cd H locs ad ad0 n0 A ls hC hR hS hA hL hN hX
  unfold tk_sI at ha
  split at ha
  · rename_i x r
    obtain ⟨h1, h2⟩ := tk_set_at ha
    exact lv_istore_n hC.1 hC.2.1 hd hi hL.1 (by rw [← hL.2.1]; exact h1) rfl (fun ls' h' => hK _ h2 p e s m args below meth cd H locs ad ad0 n0 A ls' hC hR hS hA (tk_L_set hL h1 rfl h') hN hX)
  · exact ha.elim
theorem so_istore {i : Nat} (hd : decode M.2.1 pc = .ok (.istore i, 2)) (hn : pc + 2 = nx) : tk_So sc M pc (tk_sI i nx) := by
  subst hn
  intro l D cy L st μ kc ks K q hK ha p e s m args below meth cd H locs ad ad0 n0 A ls hC hR hS hA hL hN hX
  unfold tk_sI at ha
  split at ha
  · rename_i x r
    obtain ⟨h1, h2⟩ := tk_set_at ha
    exact lv_istore hC.1 hC.2.1 hd hL.1 (by rw [← hL.2.1]; exact h1) rfl (fun ls' h' => hK _ h2 p e s m args below meth cd H locs ad ad0 n0 A ls' hC hR hS hA (tk_L_set hL h1 rfl h') hN hX)
  · exact ha.elim
theorem so_astore_n {k : Fin 4} {i : Nat} (hd : decode M.2.1 pc = .ok (.astore_n k, 1)) (hi : (k : Nat) = i) (hn : pc + 1 = nx) : tk_So sc M pc (tk_sA i nx) := by
  subst hn
  intro l D cy L st μ kc ks K q hK ha p e s m args below meth cd H locs ad ad0 n0 A ls hC hR hS hA hL hN hX
  unfold tk_sA at ha
  split at ha
  · rename_i x r
    obtain ⟨h1, h2⟩ := tk_set_at ha
    exact lv_astore_n hC.1 hC.2.1 hd hi hL.1 (by rw [← hL.2.1]; exact h1) rfl (fun ls' h' => hK _ h2 p e s m args below meth cd H locs ad ad0 n0 A ls' hC hR hS hA (tk_L_set (v := .ref x) hL h1 rfl h') hN hX)
  · exact ha.elim
theorem so_astore {i : Nat} (hd : decode M.2.1 pc = .ok (.astore i, 2)) (hn : pc + 2 = nx) : tk_So sc M pc (tk_sA i nx) := by
  subst hn
  intro l D cy L st μ kc ks K q hK ha p e s m args below meth cd H locs ad ad0 n0 A ls hC hR hS hA hL hN hX
  unfold tk_sA at ha
  split at ha
  · rename_i x r
    obtain ⟨h1, h2⟩ := tk_set_at ha
    exact lv_astore hC.1 hC.2.1 hd hL.1 (by rw [← hL.2.1]; exact h1) rfl (fun ls' h' => hK _ h2 p e s m args below meth cd H locs ad ad0 n0 A ls' hC hR hS hA (tk_L_set (v := .ref x) hL h1 rfl h') hN hX)
  · exact ha.elim
theorem so_iinc {i : Nat} {n : Int} {d : Int32} (hd : decode M.2.1 pc = .ok (.iinc i n, 3)) (hv : Int32.ofInt n = d) (hn : pc + 3 = nx) : tk_So sc M pc (tk_inc i d nx) := by
  subst hn
  subst hv
  intro l D cy L st μ kc ks K q hK ha p e s m args below meth cd H locs ad ad0 n0 A ls hC hR hS hA hL hN hX
  unfold tk_inc at ha
  split at ha
  · rename_i x hx
    obtain ⟨h1, h2⟩ := tk_set_at ha
    obtain ⟨k, hk⟩ := List.getElem?_of_mem (tk_lv_mem (ad := ad).mpr ⟨_, tk_nth_at hx, rfl⟩)
    exact lv_iinc hC.1 hC.2.1 hd hL.1 hk rfl (by rw [← hL.2.1]; exact h1) rfl (fun ls' h' => hK _ h2 p e s m args below meth cd H locs ad ad0 n0 A ls' hC hR hS hA (tk_L_set (v := .int (x + Int32.ofInt n)) hL h1 rfl h') hN hX)
  · exact ha.elim
end
end
section
section
variable {sc : Option (Nat × (Nat → Int32))} {M : tk_Md} {pc nx : Nat}
theorem so_iadd (hd : decode M.2.1 pc = .ok (.iadd, 1)) (hn : pc + 1 = nx) : tk_So sc M pc (tk_bi (fun x y => x + y) nx) := by
  subst hn
  intro l D cy L st μ kc ks K q hK ha p e s m args below meth cd H locs ad ad0 n0 A ls hC hR hS hA hL hN hX
  unfold tk_bi at ha
  split at ha
  · exact lv_iadd hC.1 hC.2.1 hd (hK _ ha p e s m args below meth cd H locs ad ad0 n0 A ls hC hR hS hA hL hN hX)
  · exact ha.elim
theorem so_isub (hd : decode M.2.1 pc = .ok (.isub, 1)) (hn : pc + 1 = nx) : tk_So sc M pc (tk_bi (fun x y => x - y) nx) := by
  subst hn
  intro l D cy L st μ kc ks K q hK ha p e s m args below meth cd H locs ad ad0 n0 A ls hC hR hS hA hL hN hX
  unfold tk_bi at ha
  split at ha
  · exact lv_isub hC.1 hC.2.1 hd (hK _ ha p e s m args below meth cd H locs ad ad0 n0 A ls hC hR hS hA hL hN hX)
  · exact ha.elim
theorem so_imul (hd : decode M.2.1 pc = .ok (.imul, 1)) (hn : pc + 1 = nx) : tk_So sc M pc (tk_bi (fun x y => x * y) nx) := by
  subst hn
  intro l D cy L st μ kc ks K q hK ha p e s m args below meth cd H locs ad ad0 n0 A ls hC hR hS hA hL hN hX
  unfold tk_bi at ha
  split at ha
  · exact lv_imul hC.1 hC.2.1 hd (hK _ ha p e s m args below meth cd H locs ad ad0 n0 A ls hC hR hS hA hL hN hX)
  · exact ha.elim
theorem so_iand (hd : decode M.2.1 pc = .ok (.iand, 1)) (hn : pc + 1 = nx) : tk_So sc M pc (tk_bi (fun x y => x &&& y) nx) := by
  subst hn
  intro l D cy L st μ kc ks K q hK ha p e s m args below meth cd H locs ad ad0 n0 A ls hC hR hS hA hL hN hX
  unfold tk_bi at ha
  split at ha
  · exact lv_iand hC.1 hC.2.1 hd (hK _ ha p e s m args below meth cd H locs ad ad0 n0 A ls hC hR hS hA hL hN hX)
  · exact ha.elim
theorem so_ior (hd : decode M.2.1 pc = .ok (.ior, 1)) (hn : pc + 1 = nx) : tk_So sc M pc (tk_bi (fun x y => x ||| y) nx) := by
  subst hn
  intro l D cy L st μ kc ks K q hK ha p e s m args below meth cd H locs ad ad0 n0 A ls hC hR hS hA hL hN hX
  unfold tk_bi at ha
  split at ha
  · exact lv_ior hC.1 hC.2.1 hd (hK _ ha p e s m args below meth cd H locs ad ad0 n0 A ls hC hR hS hA hL hN hX)
  · exact ha.elim
theorem so_ixor (hd : decode M.2.1 pc = .ok (.ixor, 1)) (hn : pc + 1 = nx) : tk_So sc M pc (tk_bi (fun x y => x ^^^ y) nx) := by
  subst hn
  intro l D cy L st μ kc ks K q hK ha p e s m args below meth cd H locs ad ad0 n0 A ls hC hR hS hA hL hN hX
  unfold tk_bi at ha
  split at ha
  · exact lv_ixor hC.1 hC.2.1 hd (hK _ ha p e s m args below meth cd H locs ad ad0 n0 A ls hC hR hS hA hL hN hX)
  · exact ha.elim
theorem so_ishl (hd : decode M.2.1 pc = .ok (.ishl, 1)) (hn : pc + 1 = nx) : tk_So sc M pc (tk_bi (fun x y => x <<< (y &&& 31)) nx) := by
  subst hn
  intro l D cy L st μ kc ks K q hK ha p e s m args below meth cd H locs ad ad0 n0 A ls hC hR hS hA hL hN hX
  unfold tk_bi at ha
  split at ha
  · exact lv_ishl hC.1 hC.2.1 hd (hK _ ha p e s m args below meth cd H locs ad ad0 n0 A ls hC hR hS hA hL hN hX)
  · exact ha.elim
theorem so_ishr (hd : decode M.2.1 pc = .ok (.ishr, 1)) (hn : pc + 1 = nx) : tk_So sc M pc (tk_bi (fun x y => x >>> (y &&& 31)) nx) := by
  subst hn
  intro l D cy L st μ kc ks K q hK ha p e s m args below meth cd H locs ad ad0 n0 A ls hC hR hS hA hL hN hX
  unfold tk_bi at ha
  split at ha
  · exact lv_ishr hC.1 hC.2.1 hd (hK _ ha p e s m args below meth cd H locs ad ad0 n0 A ls hC hR hS hA hL hN hX)
  · exact ha.elim
theorem so_iushr (hd : decode M.2.1 pc = .ok (.iushr, 1)) (hn : pc + 1 = nx) : tk_So sc M pc (tk_bi (fun x y => (x.toUInt32 >>> (y.toUInt32 &&& Int32.toUInt32 31)).toInt32) nx) := by
  subst hn
  intro l D cy L st μ kc ks K q hK ha p e s m args below meth cd H locs ad ad0 n0 A ls hC hR hS hA hL hN hX
  unfold tk_bi at ha
  split at ha
  · exact lv_iushr hC.1 hC.2.1 hd rfl (hK _ ha p e s m args below meth cd H locs ad ad0 n0 A ls hC hR hS hA hL hN hX)
  · exact ha.elim
theorem so_idiv (hd : decode M.2.1 pc = .ok (.idiv, 1)) (hn : pc + 1 = nx) : tk_So sc M pc (tk_dv (fun x y => x / y) nx) := by
  subst hn
  intro l D cy L st μ kc ks K q hK ha p e s m args below meth cd H locs ad ad0 n0 A ls hC hR hS hA hL hN hX
  unfold tk_dv at ha
  split at ha
  · exact lv_idiv hC.1 hC.2.1 hd ha.1 (hK _ ha.2 p e s m args below meth cd H locs ad ad0 n0 A ls hC hR hS hA hL hN hX)
  · exact ha.elim
theorem so_irem (hd : decode M.2.1 pc = .ok (.irem, 1)) (hn : pc + 1 = nx) : tk_So sc M pc (tk_dv (fun x y => x - x / y * y) nx) := by
  subst hn
  intro l D cy L st μ kc ks K q hK ha p e s m args below meth cd H locs ad ad0 n0 A ls hC hR hS hA hL hN hX
  unfold tk_dv at ha
  split at ha
  · exact lv_irem hC.1 hC.2.1 hd ha.1 (hK _ ha.2 p e s m args below meth cd H locs ad ad0 n0 A ls hC hR hS hA hL hN hX)
  · exact ha.elim
theorem so_i2c (hd : decode M.2.1 pc = .ok (.i2c, 1)) (hn : pc + 1 = nx) : tk_So sc M pc (tk_un (fun x => (x.toUInt32 % 65536).toInt32) nx) := by
  subst hn
  intro l D cy L st μ kc ks K q hK ha p e s m args below meth cd H locs ad ad0 n0 A ls hC hR hS hA hL hN hX
  unfold tk_un at ha
  split at ha
  · exact lv_i2c hC.1 hC.2.1 hd rfl (hK _ ha p e s m args below meth cd H locs ad ad0 n0 A ls hC hR hS hA hL hN hX)
  · exact ha.elim
theorem so_ladd (hd : decode M.2.1 pc = .ok (.ladd, 1)) (hn : pc + 1 = nx) : tk_So sc M pc (tk_lad nx) := by
  subst hn
  intro l D cy L st μ kc ks K q hK ha p e s m args below meth cd H locs ad ad0 n0 A ls hC hR hS hA hL hN hX
  unfold tk_lad at ha
  split at ha
  · exact lv_ladd hC.1 hC.2.1 hd (hK _ ha p e s m args below meth cd H locs ad ad0 n0 A ls hC hR hS hA hL hN hX)
  · exact ha.elim
theorem so_lcmp (hd : decode M.2.1 pc = .ok (.lcmp, 1)) (hn : pc + 1 = nx) : tk_So sc M pc (tk_lcm nx) := by
  subst hn
  intro l D cy L st μ kc ks K q hK ha p e s m args below meth cd H locs ad ad0 n0 A ls hC hR hS hA hL hN hX
  unfold tk_lcm at ha
  split at ha
  · exact W.lcmp hC.1 hC.2.1 hd (hK _ ha p e s m args below meth cd H locs ad ad0 n0 A ls hC hR hS hA hL hN hX)
  · exact ha.elim
theorem so_dup (hd : decode M.2.1 pc = .ok (.dup, 1)) (hn : pc + 1 = nx) : tk_So sc M pc (tk_dup nx) := by
  subst hn
  intro l D cy L st μ kc ks K q hK ha p e s m args below meth cd H locs ad ad0 n0 A ls hC hR hS hA hL hN hX
  unfold tk_dup at ha
  split at ha
  · exact lv_dup hC.1 hC.2.1 hd rfl (hK _ ha p e s m args below meth cd H locs ad ad0 n0 A ls hC hR hS hA hL hN hX)
  · exact lv_dup hC.1 hC.2.1 hd rfl (hK _ ha p e s m args below meth cd H locs ad ad0 n0 A ls hC hR hS hA hL hN hX)
  · exact ha.elim
theorem so_dup2 (hd : decode M.2.1 pc = .ok (.dup2, 1)) (hn : pc + 1 = nx) : tk_So sc M pc (tk_du2 nx) := by
  subst hn
  intro l D cy L st μ kc ks K q hK ha p e s m args below meth cd H locs ad ad0 n0 A ls hC hR hS hA hL hN hX
  unfold tk_du2 at ha
  split at ha
  · exact lv_dup2_11 hC.1 hC.2.1 hd rfl rfl (hK _ ha p e s m args below meth cd H locs ad ad0 n0 A ls hC hR hS hA hL hN hX)
  · exact ha.elim
theorem so_pop (hd : decode M.2.1 pc = .ok (.pop, 1)) (hn : pc + 1 = nx) : tk_So sc M pc (tk_pp nx) := by
  subst hn
  intro l D cy L st μ kc ks K q hK ha p e s m args below meth cd H locs ad ad0 n0 A ls hC hR hS hA hL hN hX
  unfold tk_pp at ha
  split at ha
  · exact lv_pop hC.1 hC.2.1 hd rfl (hK _ ha p e s m args below meth cd H locs ad ad0 n0 A ls hC hR hS hA hL hN hX)
  · exact ha.elim
theorem so_goto {off : Int} {tg : Nat} (hd : decode M.2.1 pc = .ok (.goto off, 3)) (ht : (pc : Int) + off = (tg : Int)) : tk_So sc M pc (tk_jmp tg) := by
  intro l D cy L st μ kc ks K q hK ha p e s m args below meth cd H locs ad ad0 n0 A ls hC hR hS hA hL hN hX
  exact lv_goto hC.1 hC.2.1 hd ht (hK _ ha p e s m args below meth cd H locs ad ad0 n0 A ls hC hR hS hA hL hN hX)
theorem so_if_eq {off : Int} {tg : Nat} (hd : decode M.2.1 pc = .ok (.ifCond .eq off, 3)) (ht : (pc : Int) + off = (tg : Int)) (hn : pc + 3 = nx) : tk_So sc M pc (tk_br (fun x => x = 0) tg nx) := by
  subst hn
  intro l D cy L st μ kc ks K q hK ha p e s m args below meth cd H locs ad ad0 n0 A ls hC hR hS hA hL hN hX
  unfold tk_br at ha
  split at ha
  · exact lv_if_eq hC.1 hC.2.1 hd ht (fun h => (hK _ (ha.1 h) p e s m args below meth cd H locs ad ad0 n0 A ls hC hR hS hA hL hN hX)) (fun h => (hK _ (ha.2 h) p e s m args below meth cd H locs ad ad0 n0 A ls hC hR hS hA hL hN hX))
  · exact ha.elim
theorem so_icmp_eq {off : Int} {tg : Nat} (hd : decode M.2.1 pc = .ok (.if_icmp .eq off, 3)) (ht : (pc : Int) + off = (tg : Int)) (hn : pc + 3 = nx) : tk_So sc M pc (tk_cm (fun x y => x = y) tg nx) := by
  subst hn
  intro l D cy L st μ kc ks K q hK ha p e s m args below meth cd H locs ad ad0 n0 A ls hC hR hS hA hL hN hX
  unfold tk_cm at ha
  split at ha
  · exact lv_icmp_eq hC.1 hC.2.1 hd ht (fun h => (hK _ (ha.1 h) p e s m args below meth cd H locs ad ad0 n0 A ls hC hR hS hA hL hN hX)) (fun h => (hK _ (ha.2 h) p e s m args below meth cd H locs ad ad0 n0 A ls hC hR hS hA hL hN hX))
  · exact ha.elim
theorem so_if_ne {off : Int} {tg : Nat} (hd : decode M.2.1 pc = .ok (.ifCond .ne off, 3)) (ht : (pc : Int) + off = (tg : Int)) (hn : pc + 3 = nx) : tk_So sc M pc (tk_br (fun x => x = 0) nx tg) := by
  subst hn
  intro l D cy L st μ kc ks K q hK ha p e s m args below meth cd H locs ad ad0 n0 A ls hC hR hS hA hL hN hX
  unfold tk_br at ha
  split at ha
  · exact lv_if_ne hC.1 hC.2.1 hd ht (fun h => (hK _ (ha.2 h) p e s m args below meth cd H locs ad ad0 n0 A ls hC hR hS hA hL hN hX)) (fun h => (hK _ (ha.1 h) p e s m args below meth cd H locs ad ad0 n0 A ls hC hR hS hA hL hN hX))
  · exact ha.elim
theorem so_icmp_ne {off : Int} {tg : Nat} (hd : decode M.2.1 pc = .ok (.if_icmp .ne off, 3)) (ht : (pc : Int) + off = (tg : Int)) (hn : pc + 3 = nx) : tk_So sc M pc (tk_cm (fun x y => x = y) nx tg) := by
  subst hn
  intro l D cy L st μ kc ks K q hK ha p e s m args below meth cd H locs ad ad0 n0 A ls hC hR hS hA hL hN hX
  unfold tk_cm at ha
  split at ha
  · exact lv_icmp_ne hC.1 hC.2.1 hd ht (fun h => (hK _ (ha.2 h) p e s m args below meth cd H locs ad ad0 n0 A ls hC hR hS hA hL hN hX)) (fun h => (hK _ (ha.1 h) p e s m args below meth cd H locs ad ad0 n0 A ls hC hR hS hA hL hN hX))
  · exact ha.elim
theorem so_if_lt {off : Int} {tg : Nat} (hd : decode M.2.1 pc = .ok (.ifCond .lt off, 3)) (ht : (pc : Int) + off = (tg : Int)) (hn : pc + 3 = nx) : tk_So sc M pc (tk_br (fun x => x < 0) tg nx) := by
  subst hn
  intro l D cy L st μ kc ks K q hK ha p e s m args below meth cd H locs ad ad0 n0 A ls hC hR hS hA hL hN hX
  unfold tk_br at ha
  split at ha
  · exact lv_if_lt hC.1 hC.2.1 hd ht (fun h => (hK _ (ha.1 h) p e s m args below meth cd H locs ad ad0 n0 A ls hC hR hS hA hL hN hX)) (fun h => (hK _ (ha.2 h) p e s m args below meth cd H locs ad ad0 n0 A ls hC hR hS hA hL hN hX))
  · exact ha.elim
theorem so_icmp_lt {off : Int} {tg : Nat} (hd : decode M.2.1 pc = .ok (.if_icmp .lt off, 3)) (ht : (pc : Int) + off = (tg : Int)) (hn : pc + 3 = nx) : tk_So sc M pc (tk_cm (fun x y => x < y) tg nx) := by
  subst hn
  intro l D cy L st μ kc ks K q hK ha p e s m args below meth cd H locs ad ad0 n0 A ls hC hR hS hA hL hN hX
  unfold tk_cm at ha
  split at ha
  · exact lv_icmp_lt hC.1 hC.2.1 hd ht (fun h => (hK _ (ha.1 h) p e s m args below meth cd H locs ad ad0 n0 A ls hC hR hS hA hL hN hX)) (fun h => (hK _ (ha.2 h) p e s m args below meth cd H locs ad ad0 n0 A ls hC hR hS hA hL hN hX))
  · exact ha.elim
theorem so_if_ge {off : Int} {tg : Nat} (hd : decode M.2.1 pc = .ok (.ifCond .ge off, 3)) (ht : (pc : Int) + off = (tg : Int)) (hn : pc + 3 = nx) : tk_So sc M pc (tk_br (fun x => 0 ≤ x) tg nx) := by
  subst hn
  intro l D cy L st μ kc ks K q hK ha p e s m args below meth cd H locs ad ad0 n0 A ls hC hR hS hA hL hN hX
  unfold tk_br at ha
  split at ha
  · exact lv_if_ge hC.1 hC.2.1 hd ht (fun h => (hK _ (ha.1 h) p e s m args below meth cd H locs ad ad0 n0 A ls hC hR hS hA hL hN hX)) (fun h => (hK _ (ha.2 h) p e s m args below meth cd H locs ad ad0 n0 A ls hC hR hS hA hL hN hX))
  · exact ha.elim
theorem so_icmp_ge {off : Int} {tg : Nat} (hd : decode M.2.1 pc = .ok (.if_icmp .ge off, 3)) (ht : (pc : Int) + off = (tg : Int)) (hn : pc + 3 = nx) : tk_So sc M pc (tk_cm (fun x y => y ≤ x) tg nx) := by
  subst hn
  intro l D cy L st μ kc ks K q hK ha p e s m args below meth cd H locs ad ad0 n0 A ls hC hR hS hA hL hN hX
  unfold tk_cm at ha
  split at ha
  · exact lv_icmp_ge hC.1 hC.2.1 hd ht (fun h => (hK _ (ha.1 h) p e s m args below meth cd H locs ad ad0 n0 A ls hC hR hS hA hL hN hX)) (fun h => (hK _ (ha.2 h) p e s m args below meth cd H locs ad ad0 n0 A ls hC hR hS hA hL hN hX))
  · exact ha.elim
theorem so_if_gt {off : Int} {tg : Nat} (hd : decode M.2.1 pc = .ok (.ifCond .gt off, 3)) (ht : (pc : Int) + off = (tg : Int)) (hn : pc + 3 = nx) : tk_So sc M pc (tk_br (fun x => 0 < x) tg nx) := by
  subst hn
  intro l D cy L st μ kc ks K q hK ha p e s m args below meth cd H locs ad ad0 n0 A ls hC hR hS hA hL hN hX
  unfold tk_br at ha
  split at ha
  · exact lv_if_gt hC.1 hC.2.1 hd ht (fun h => (hK _ (ha.1 h) p e s m args below meth cd H locs ad ad0 n0 A ls hC hR hS hA hL hN hX)) (fun h => (hK _ (ha.2 h) p e s m args below meth cd H locs ad ad0 n0 A ls hC hR hS hA hL hN hX))
  · exact ha.elim
theorem so_icmp_gt {off : Int} {tg : Nat} (hd : decode M.2.1 pc = .ok (.if_icmp .gt off, 3)) (ht : (pc : Int) + off = (tg : Int)) (hn : pc + 3 = nx) : tk_So sc M pc (tk_cm (fun x y => y < x) tg nx) := by
  subst hn
  intro l D cy L st μ kc ks K q hK ha p e s m args below meth cd H locs ad ad0 n0 A ls hC hR hS hA hL hN hX
  unfold tk_cm at ha
  split at ha
  · exact lv_icmp_gt hC.1 hC.2.1 hd ht (fun h => (hK _ (ha.1 h) p e s m args below meth cd H locs ad ad0 n0 A ls hC hR hS hA hL hN hX)) (fun h => (hK _ (ha.2 h) p e s m args below meth cd H locs ad ad0 n0 A ls hC hR hS hA hL hN hX))
  · exact ha.elim
theorem so_if_le {off : Int} {tg : Nat} (hd : decode M.2.1 pc = .ok (.ifCond .le off, 3)) (ht : (pc : Int) + off = (tg : Int)) (hn : pc + 3 = nx) : tk_So sc M pc (tk_br (fun x => x ≤ 0) tg nx) := by
  subst hn
  intro l D cy L st μ kc ks K q hK ha p e s m args below meth cd H locs ad ad0 n0 A ls hC hR hS hA hL hN hX
  unfold tk_br at ha
  split at ha
  · exact lv_if_le hC.1 hC.2.1 hd ht (fun h => (hK _ (ha.1 h) p e s m args below meth cd H locs ad ad0 n0 A ls hC hR hS hA hL hN hX)) (fun h => (hK _ (ha.2 h) p e s m args below meth cd H locs ad ad0 n0 A ls hC hR hS hA hL hN hX))
  · exact ha.elim
theorem so_icmp_le {off : Int} {tg : Nat} (hd : decode M.2.1 pc = .ok (.if_icmp .le off, 3)) (ht : (pc : Int) + off = (tg : Int)) (hn : pc + 3 = nx) : tk_So sc M pc (tk_cm (fun x y => x ≤ y) tg nx) := by
  subst hn
  intro l D cy L st μ kc ks K q hK ha p e s m args below meth cd H locs ad ad0 n0 A ls hC hR hS hA hL hN hX
  unfold tk_cm at ha
  split at ha
  · exact lv_icmp_le hC.1 hC.2.1 hd ht (fun h => (hK _ (ha.1 h) p e s m args below meth cd H locs ad ad0 n0 A ls hC hR hS hA hL hN hX)) (fun h => (hK _ (ha.2 h) p e s m args below meth cd H locs ad ad0 n0 A ls hC hR hS hA hL hN hX))
  · exact ha.elim
theorem tk_cas_mp {cs : List (Int32 × Nat)} {x : Int32} {d : Nat} {K : Nat → Prop} (h : tk_cas cs x d K) : (∃ t, (x, t) ∈ cs ∧ K t) ∨ ((∀ r ∈ cs, ¬ x = r.1) ∧ K d) := by
  induction cs with
  | nil => exact Or.inr ⟨(fun r hr => absurd hr List.not_mem_nil), h⟩
  | cons a l ih =>
    obtain ⟨v, t⟩ := a
    by_cases hx : x = v
    · subst hx
      exact Or.inl ⟨t, List.mem_cons_self, h.1 rfl⟩
    · rcases ih (h.2 hx) with ⟨t', h1, h2⟩ | ⟨h1, h2⟩
      · exact Or.inl ⟨t', List.mem_cons_of_mem _ h1, h2⟩
      · refine Or.inr ⟨fun r hr => ?_, h2⟩
        rcases List.mem_cons.mp hr with rfl | hr
        · exact hx
        · exact h1 r hr
theorem so_table {dflt : Int} {n : Nat} {offs : Array Int} {len d : Nat} {cs : List (Int32 × Nat)} (hd : decode M.2.1 pc = .ok (.tableswitch dflt 0 (n : Int) offs, len)) (ht : (pc : Int) + dflt = (d : Int))
    (h1 : cs.all (fun r => decide (¬ r.1.toInt < 0) && decide (¬ (n : Int) < r.1.toInt) && ((offs[(r.1.toInt - 0).toNat]?).map (fun o => decide ((pc : Int) + o = (r.2 : Int))) == some true)) = true)
    (h2 : (List.range (n + 1)).all (fun i => cs.any (fun r => r.1 == Int32.ofNat i)) = true) : tk_So sc M pc (tk_sw cs d) := by
  intro l D cy L st μ kc ks K q hK ha p e s m args below meth cd H locs ad ad0 n0 A ls hC hR hS hA hL hN hX
  unfold tk_sw at ha
  split at ha
  · rename_i x r
    rcases tk_cas_mp ha with ⟨t, g1, g2⟩ | ⟨g1, g2⟩
    · have g3 := List.all_eq_true.mp h1 _ g1
      simp only [Bool.and_eq_true, decide_eq_true_eq, beq_iff_eq] at g3
      obtain ⟨⟨g4, g5⟩, g6⟩ := g3
      cases hz : offs[(x.toInt - 0).toNat]? with
      | none => rw [hz] at g6; cases g6
      | some o =>
        rw [hz] at g6
        simp only [Option.map_some, Option.some.injEq, decide_eq_true_eq] at g6
        exact lv_tableIn hC.1 hC.2.1 hd g4 g5 hz g6 (hK _ g2 p e s m args below meth cd H locs ad ad0 n0 A ls hC hR hS hA hL hN hX)
    · refine lv_tableOut hC.1 hC.2.1 hd ?_ ht (hK _ g2 p e s m args below meth cd H locs ad ad0 n0 A ls hC hR hS hA hL hN hX)
      by_cases hlo : x.toInt < 0
      · exact Or.inl hlo
      · refine Or.inr (Int.lt_of_not_ge fun hhi => ?_)
        have e1 : x = Int32.ofNat x.toInt.toNat := by
          apply Int32.toInt_inj.mp
          rw [Int32.toInt_ofNat_of_lt (by have := Int32.toInt_lt x; omega)]
          omega
        have g3 := List.all_eq_true.mp h2 x.toInt.toNat (List.mem_range.mpr (by omega))
        obtain ⟨r0, g4, g5⟩ := List.any_eq_true.mp g3
        exact g1 r0 g4 (by rw [beq_iff_eq] at g5; rw [g5]; exact e1)
  · exact ha.elim
theorem tk_fin {D : va_G} {cy : Nat → ClassId} {R : Room} {ad ad0 : Nat → Nat} {n0 kc : Nat} {A : Nat → Prop} {q : tk_Po} {r : Option Value} {μ : tk_Me} {s t : State} {H : Heap} {locs : List Loc} {as : Array Value}
    (hR : tk_R D cy A ad μ H) (hS : va_S A s.heap H locs) (h1 : ∀ i, i ≤ n0 → ad i = ad0 i) (h2 : n0 ≤ μ.2.2.2) (h3 : kc = 0 → ad = ad0) (h4 : kc ≤ R.cells) (hq : q r μ) (ht : t.heap = H) : tk_Q D cy R ad0 n0 A q as s (.returned (r.map (tk_v ad))) t :=
  ⟨⟨r, μ, ad, rfl, hq, h1, h2, fun h => h3 (by omega), by rw [ht]; exact hR⟩, hS.F ht⟩
theorem so_rI (hd : decode M.2.1 pc = .ok (.ireturn, 1)) (hr : M.2.2.2.1 = some .int) : tk_So sc M pc tk_rI := by
  intro l D cy L st μ kc ks K q hK ha p e s m args below meth cd H locs ad ad0 n0 A ls hC hR hS hA hL hN hX
  unfold tk_rI at ha
  have hlk : meth.locks = false := hC.2.2.2.2.2.2.1
  split at ha
  · refine W.widen hN.2.2.2.1 hN.2.2.2.2 ?_
    exact W.iret hC.1 hC.2.1 (hC.2.2.1.trans hr) (fun t ht hW => tk_fin hR hS hN.1 hN.2.1 hN.2.2.1 hN.2.2.2.1 ha ht) hS.2.2 hd hlk
  · exact ha.elim
theorem so_rL (hd : decode M.2.1 pc = .ok (.lreturn, 1)) (hr : M.2.2.2.1 = some .long) : tk_So sc M pc tk_rL := by
  intro l D cy L st μ kc ks K q hK ha p e s m args below meth cd H locs ad ad0 n0 A ls hC hR hS hA hL hN hX
  unfold tk_rL at ha
  have hlk : meth.locks = false := hC.2.2.2.2.2.2.1
  split at ha
  · refine W.widen hN.2.2.2.1 hN.2.2.2.2 ?_
    exact W.lret hC.1 hC.2.1 (hC.2.2.1.trans hr) (fun t ht hW => tk_fin hR hS hN.1 hN.2.1 hN.2.2.1 hN.2.2.2.1 ha ht) hS.2.2 hd hlk
  · exact ha.elim
theorem so_rZ (hd : decode M.2.1 pc = .ok (.ireturn, 1)) (hr : M.2.2.2.1 = some .boolean) : tk_So sc M pc tk_rZ := by
  intro l D cy L st μ kc ks K q hK ha p e s m args below meth cd H locs ad ad0 n0 A ls hC hR hS hA hL hN hX
  unfold tk_rZ at ha
  have hlk : meth.locks = false := hC.2.2.2.2.2.2.1
  split at ha
  · rename_i x
    refine W.widen hN.2.2.2.1 hN.2.2.2.2 ?_
    exact W.zret hC.1 hC.2.1 (hC.2.2.1.trans hr) (by rcases ha.1 with h | h <;> subst h <;> rfl) (fun t ht hW => tk_fin hR hS hN.1 hN.2.1 hN.2.2.1 hN.2.2.2.1 ha.2 ht) hS.2.2 hd hlk
  · exact ha.elim
theorem so_rV (hd : decode M.2.1 pc = .ok (.return_, 1)) (hr : M.2.2.2.1 = none) : tk_So sc M pc tk_rV := by
  intro l D cy L st μ kc ks K q hK ha p e s m args below meth cd H locs ad ad0 n0 A ls hC hR hS hA hL hN hX
  unfold tk_rV at ha
  have hlk : meth.locks = false := hC.2.2.2.2.2.2.1
  split at ha
  · refine W.widen hN.2.2.2.1 hN.2.2.2.2 ?_
    exact W.vret hC.1 hC.2.1 (hC.2.2.1.trans hr) (fun t ht hW => tk_fin (r := none) hR hS hN.1 hN.2.1 hN.2.2.1 hN.2.2.2.1 ha ht) hS.2.2 hd hlk
  · exact ha.elim
theorem so_rA {rt : FieldType} (hd : decode M.2.1 pc = .ok (.areturn, 1)) (hr : M.2.2.2.1 = some (.array rt)) : tk_So sc M pc tk_rA := by
  intro l D cy L st μ kc ks K q hK ha p e s m args below meth cd H locs ad ad0 n0 A ls hC hR hS hA hL hN hX
  unfold tk_rA at ha
  have hlk : meth.locks = false := hC.2.2.2.2.2.2.1
  split at ha
  · rename_i x
    refine W.widen hN.2.2.2.1 hN.2.2.2.2 ?_
    exact W.aret hC.1 hC.2.1 (hC.2.2.1.trans hr) (Or.inr ⟨_, rfl⟩) (Or.inr ⟨ad x, rfl⟩) (fun t ht hW => tk_fin (r := some (.ref x)) hR hS hN.1 hN.2.1 hN.2.2.1 hN.2.2.2.1 ha ht) hS.2.2 hd hlk
  · exact ha.elim
end
end
section
/-! fields, arrays, the script -/
def tk_os (o : Option Nat) (K : Nat → Prop) : Prop := match o with
  | some x => K x
  | none => False
theorem tk_os.mp {o : Option Nat} {K : Nat → Prop} (h : tk_os o K) : ∃ x, o = some x ∧ K x := by
  cases o with
  | none => exact h.elim
  | some x => exact ⟨x, rfl, h⟩
theorem tk_osi {o : Option Nat} {x : Nat} {K : Nat → Prop} (ho : o = some x) (h : K x) : tk_os o K := by subst ho; exact h
def tk_gI (t k nx : Nat) : tk_Ac := fun L st μ kc ks K _ => match st, μ with
  | .ref p :: r, (σ, ρ, τ, n) => tk_if (tk_ok p t n) (K (nx, L, .int (σ p k) :: r, (σ, ρ, τ, n), kc, ks))
  | _, _ => False
def tk_gR (t k nx : Nat) : tk_Ac := fun L st μ kc ks K _ => match st, μ with
  | .ref p :: r, (σ, ρ, τ, n) => tk_if (tk_ok p t n) (tk_os (ρ p k) (fun x => K (nx, L, .ref x :: r, (σ, ρ, τ, n), kc, ks)))
  | _, _ => False
def tk_gL (t k nx : Nat) : tk_Ac := fun L st μ kc ks K _ => match st, μ with
  | .ref p :: r, (σ, ρ, τ, n) => tk_if (tk_ok p t n) (K (nx, L, .long (τ p k) :: r, (σ, ρ, τ, n), kc, ks))
  | _, _ => False
def tk_pI (t k nx : Nat) : tk_Ac := fun L st μ kc ks K _ => match st, μ with
  | .int x :: .ref p :: r, (σ, ρ, τ, n) => tk_if (tk_ok p t n) (K (nx, L, r, (tk_up σ p k x, ρ, τ, n), kc, ks))
  | _, _ => False
def tk_pZ (t k nx : Nat) : tk_Ac := fun L st μ kc ks K _ => match st, μ with
  | .int x :: .ref p :: r, (σ, ρ, τ, n) => tk_if (tk_ok p t n) ((x = 0 ∨ x = 1) ∧ K (nx, L, r, (tk_up σ p k x, ρ, τ, n), kc, ks))
  | _, _ => False
def tk_pR (t k nx : Nat) : tk_Ac := fun L st μ kc ks K _ => match st, μ with
  | .ref x :: .ref p :: r, (σ, ρ, τ, n) => tk_if (tk_ok p t n && Nat.ble x n) (K (nx, L, r, (σ, tk_up ρ p k (some x), τ, n), kc, ks))
  | _, _ => False
def tk_pL (t k nx : Nat) : tk_Ac := fun L st μ kc ks K _ => match st, μ with
  | .long x :: .ref p :: r, (σ, ρ, τ, n) => tk_if (tk_ok p t n) (K (nx, L, r, (σ, ρ, tk_up τ p k x, n), kc, ks))
  | _, _ => False
def tk_ai (t nx : Nat) : tk_Ac := fun L st μ kc ks K _ => match st, μ with
  | .int i :: .ref p :: r, (σ, ρ, τ, n) => tk_if (tk_ok p t n) (tk_if (tk_in i (tk_kd p).2) (K (nx, L, .int (σ p i.toNatClampNeg) :: r, (σ, ρ, τ, n), kc, ks)))
  | _, _ => False
def tk_aa (t nx : Nat) : tk_Ac := fun L st μ kc ks K _ => match st, μ with
  | .int i :: .ref p :: r, (σ, ρ, τ, n) => tk_if (tk_ok p t n) (tk_if (tk_in i (tk_kd p).2) (tk_os (ρ p i.toNatClampNeg) (fun x => K (nx, L, .ref x :: r, (σ, ρ, τ, n), kc, ks))))
  | _, _ => False
def tk_si (t : Nat) (f : Int32 → Int32) (nx : Nat) : tk_Ac := fun L st μ kc ks K _ => match st, μ with
  | .int x :: .int i :: .ref p :: r, (σ, ρ, τ, n) => tk_if (tk_ok p t n) (tk_if (tk_in i (tk_kd p).2) (K (nx, L, r, (tk_up σ p i.toNatClampNeg (f x), ρ, τ, n), kc, ks)))
  | _, _ => False
def tk_sq (t ci nx : Nat) : tk_Ac := fun L st μ kc ks K _ => match st, μ with
  | .ref x :: .int i :: .ref p :: r, (σ, ρ, τ, n) => tk_if (tk_ok p t n && tk_ok x ci n) (tk_if (tk_in i (tk_kd p).2) (K (nx, L, r, (σ, tk_up ρ p i.toNatClampNeg (some x), τ, n), kc, ks)))
  | _, _ => False
def tk_sld (xs : Nat → Int32) (Ls nx : Nat) : tk_Ac := fun L st μ kc ks K _ => match st with
  | .int i :: .ref p :: r => tk_if (Nat.beq p 0) (tk_if (tk_in i Ls) (K (nx, L, .int (xs i.toNatClampNeg) :: r, μ, kc, ks)))
  | _ => False
def tk_sln (Ls nx : Nat) : tk_Ac := fun L st μ kc ks K _ => match st with
  | .ref p :: r => tk_if (Nat.beq p 0) (K (nx, L, .int (Int32.ofNat Ls) :: r, μ, kc, ks))
  | _ => False
theorem tk_ws_at {cy : Nat → ClassId} {ad : Nat → Nat} {μ : tk_Me} {p : Nat} (h1 : 1 ≤ p) (h2 : p ≤ μ.2.2.2) : (tk_ws cy ad μ)[p - 1]? = some (ad p, tk_cell cy ad μ p) := by
  unfold tk_ws
  rw [List.getElem?_map, List.getElem?_range (by omega)]
  simp only [Option.map_some]
  rw [show p - 1 + 1 = p by omega]
theorem tk_obj {cy : Nat → ClassId} {ad : Nat → Nat} {μ : tk_Me} {p t : Nat} (h : tk_ok p t μ.2.2.2 = true) (ht : t < 8) : (tk_ws cy ad μ)[p - 1]? = some (ad p, .inr (t, (List.range (tk_nf t)).map (fun k => tk_fv ad μ t p k))) := by
  obtain ⟨h0, h1, h2⟩ := tk_ok.mp h
  rw [tk_ws_at h1 h2]
  unfold tk_cell
  rw [h0, if_pos ht]
theorem tk_arr {cy : Nat → ClassId} {ad : Nat → Nat} {μ : tk_Me} {p t : Nat} (h : tk_ok p t μ.2.2.2 = true) (ht : 8 ≤ t) (ht2 : t < 11) : (tk_ws cy ad μ)[p - 1]? = some (ad p, .inl (cy t, (tk_kd p).2, .inl (μ.1 p))) := by
  obtain ⟨h0, h1, h2⟩ := tk_ok.mp h
  rw [tk_ws_at h1 h2]
  unfold tk_cell
  rw [h0, if_neg (by omega), if_pos ht2]
theorem tk_arq {cy : Nat → ClassId} {ad : Nat → Nat} {μ : tk_Me} {p t : Nat} (h : tk_ok p t μ.2.2.2 = true) (ht : 11 ≤ t) : (tk_ws cy ad μ)[p - 1]? = some (ad p, .inl (cy t, (tk_kd p).2, .inr (.inr (.inr (.inr (fun i => (μ.2.1 p i).map ad)))))) := by
  obtain ⟨h0, h1, h2⟩ := tk_ok.mp h
  rw [tk_ws_at h1 h2]
  unfold tk_cell
  rw [h0, if_neg (by omega), if_neg (by omega)]
theorem tk_ws_set {cy : Nat → ClassId} {ad : Nat → Nat} {μ μ' : tk_Me} {p : Nat} {e : va_E} (hn : μ'.2.2.2 = μ.2.2.2) (h1 : 1 ≤ p) (he : tk_cell cy ad μ' p = e) (ho : ∀ p', p' ≠ p → tk_cell cy ad μ' p' = tk_cell cy ad μ p') :
    (tk_ws cy ad μ).set (p - 1) (ad p, e) = tk_ws cy ad μ' := by
  apply List.ext_getElem?
  intro j
  unfold tk_ws
  rw [List.getElem?_set, List.length_map, List.length_range, List.getElem?_map, List.getElem?_map, hn]
  by_cases hj : j < μ.2.2.2
  · rw [List.getElem?_range hj]
    simp only [Option.map_some]
    by_cases hp : p - 1 = j
    · rw [if_pos hp, if_pos (by omega), ← he, show j + 1 = p by omega]
    · rw [if_neg hp, ho (j + 1) (by omega)]
  · have hz : (List.range μ.2.2.2)[j]? = none := List.getElem?_eq_none (by rw [List.length_range]; omega)
    rw [hz]
    by_cases hp : p - 1 = j
    · rw [if_pos hp, if_neg (by omega)]
      rfl
    · rw [if_neg hp]
      rfl
theorem tk_fs_set {nf k : Nat} {f g : Nat → Value} {v : Value} (hk : g k = v) (ho : ∀ j, j ≠ k → g j = f j) : (List.range nf).map g = ((List.range nf).map f).set k v := by
  apply List.ext_getElem?
  intro j
  rw [List.getElem?_set, List.length_map, List.length_range, List.getElem?_map, List.getElem?_map]
  by_cases hj : j < nf
  · rw [List.getElem?_range hj]
    simp only [Option.map_some]
    by_cases hp : k = j
    · rw [if_pos hp, if_pos (by omega), ← hp, hk]
    · rw [if_neg hp, ho j (fun h => hp h.symm)]
  · have hz : (List.range nf)[j]? = none := List.getElem?_eq_none (by rw [List.length_range]; omega)
    rw [hz]
    by_cases hp : k = j
    · rw [if_pos hp, if_neg (by omega)]
      rfl
    · rw [if_neg hp]
      rfl
theorem tk_up_at {α : Type} (f : Nat → Nat → α) (p k : Nat) (v : α) : tk_up f p k v p k = v := if_pos ⟨rfl, rfl⟩
theorem tk_up_p {α : Type} (f : Nat → Nat → α) {p k a : Nat} (v : α) (b : Nat) (h : a ≠ p) : tk_up f p k v a b = f a b := if_neg (fun q => h q.1)
theorem tk_up_k {α : Type} (f : Nat → Nat → α) {p k b : Nat} (v : α) (a : Nat) (h : b ≠ k) : tk_up f p k v a b = f a b := if_neg (fun q => h q.2)
theorem tk_cellI {cy : Nat → ClassId} {ad : Nat → Nat} {σ : Nat → Nat → Int32} {ρ : Nat → Nat → Option Nat} {τ : Nat → Nat → Int64} {n p k : Nat} {x : Int32} (p' : Nat) (h : p' ≠ p) : tk_cell cy ad (tk_up σ p k x, ρ, τ, n) p' = tk_cell cy ad (σ, ρ, τ, n) p' := by
  have e : (tk_up σ p k x) p' = σ p' := funext fun b => tk_up_p σ x b h
  unfold tk_cell tk_fv
  simp only [e]
theorem tk_cellR {cy : Nat → ClassId} {ad : Nat → Nat} {σ : Nat → Nat → Int32} {ρ : Nat → Nat → Option Nat} {τ : Nat → Nat → Int64} {n p k : Nat} {x : Option Nat} (p' : Nat) (h : p' ≠ p) : tk_cell cy ad (σ, tk_up ρ p k x, τ, n) p' = tk_cell cy ad (σ, ρ, τ, n) p' := by
  have e : (tk_up ρ p k x) p' = ρ p' := funext fun b => tk_up_p ρ x b h
  unfold tk_cell tk_fv
  simp only [e]
theorem tk_cellL {cy : Nat → ClassId} {ad : Nat → Nat} {σ : Nat → Nat → Int32} {ρ : Nat → Nat → Option Nat} {τ : Nat → Nat → Int64} {n p k : Nat} {x : Int64} (p' : Nat) (h : p' ≠ p) : tk_cell cy ad (σ, ρ, tk_up τ p k x, n) p' = tk_cell cy ad (σ, ρ, τ, n) p' := by
  have e : (tk_up τ p k x) p' = τ p' := funext fun b => tk_up_p τ x b h
  unfold tk_cell tk_fv
  simp only [e]
theorem tk_cell_obj {cy : Nat → ClassId} {ad : Nat → Nat} {μ : tk_Me} {p t : Nat} (h : (tk_kd p).1 = t) (ht : t < 8) : tk_cell cy ad μ p = .inr (t, (List.range (tk_nf t)).map (fun k => tk_fv ad μ t p k)) := by
  unfold tk_cell
  rw [h, if_pos ht]
theorem tk_cell_arr {cy : Nat → ClassId} {ad : Nat → Nat} {μ : tk_Me} {p t : Nat} (h : (tk_kd p).1 = t) (ht : 8 ≤ t) (ht2 : t < 11) : tk_cell cy ad μ p = .inl (cy t, (tk_kd p).2, .inl (μ.1 p)) := by
  unfold tk_cell
  rw [h, if_neg (by omega), if_pos ht2]
theorem tk_cell_arq {cy : Nat → ClassId} {ad : Nat → Nat} {μ : tk_Me} {p t : Nat} (h : (tk_kd p).1 = t) (ht : 11 ≤ t) : tk_cell cy ad μ p = .inl (cy t, (tk_kd p).2, .inr (.inr (.inr (.inr (fun i => (μ.2.1 p i).map ad))))) := by
  unfold tk_cell
  rw [h, if_neg (by omega), if_neg (by omega)]
theorem tk_fv_up {ad : Nat → Nat} {μ μ' : tk_Me} {t p k : Nat} (h1 : ∀ j, j ≠ k → μ'.1 p j = μ.1 p j) (h2 : ∀ j, j ≠ k → μ'.2.1 p j = μ.2.1 p j) (h3 : ∀ j, j ≠ k → μ'.2.2.1 p j = μ.2.2.1 p j) (j : Nat) (hj : j ≠ k) : tk_fv ad μ' t p j = tk_fv ad μ t p j := by
  unfold tk_fv
  rw [h1 j hj, h2 j hj, h3 j hj]
section
variable {sc : Option (Nat × (Nat → Int32))} {M : tk_Md} {pc nx : Nat}
theorem so_gI {t k idx : Nat} {C : String} {T : u_T} {N : Nat} (hd : decode M.2.1 pc = .ok (.getfield idx, 3)) (ht : t < 8) (hc : vwCl[t]? = some (C, T, N)) (hnf : tk_nf t = N) (hk : k < N) (hft : tk_ft t k = 0) (hin : ∀ w ∈ u_ws C T N, w ∈ tk_G) (hlk : Cond.fieldLink M.1.cls idx (T k).1 (T k).2.1 (T k).2.2.1 ∈ tk_G) (hn : pc + 3 = nx) : tk_So sc M pc (tk_gI t k nx) := by
  subst hn
  intro l D cy L st μ kc ks K q hK ha p9 e s m args below meth cd H locs ad ad0 n0 A ls hC hR hS hA hL hN hX
  unfold tk_gI at ha
  split at ha
  · rename_i p r σ ρ τ n
    obtain ⟨hok, ha⟩ := tk_if.mp ha
    refine va_get hC.1 hC.2.1 hC.2.2.2.2.2.1 hin hC.2.2.2.2.1 hC.2.2.2.2.2.2.2.2.1 hR.1 (p - 1) (tk_obj hok ht) hc k hk (hC.2.2.2.2.2.1 _ hlk) (fun _ h => h) (v := .int (σ p k)) ?_ hd (hK _ ha p9 e s m args below meth cd H locs ad ad0 n0 A ls hC hR hS hA hL hN hX)
    rw [List.getElem?_map, List.getElem?_range (by omega)]
    simp only [Option.map_some, tk_fv, hft]
  · exact ha.elim
theorem so_gL {t k idx : Nat} {C : String} {T : u_T} {N : Nat} (hd : decode M.2.1 pc = .ok (.getfield idx, 3)) (ht : t < 8) (hc : vwCl[t]? = some (C, T, N)) (hnf : tk_nf t = N) (hk : k < N) (hft : tk_ft t k = 2) (hin : ∀ w ∈ u_ws C T N, w ∈ tk_G) (hlk : Cond.fieldLink M.1.cls idx (T k).1 (T k).2.1 (T k).2.2.1 ∈ tk_G) (hn : pc + 3 = nx) : tk_So sc M pc (tk_gL t k nx) := by
  subst hn
  intro l D cy L st μ kc ks K q hK ha p9 e s m args below meth cd H locs ad ad0 n0 A ls hC hR hS hA hL hN hX
  unfold tk_gL at ha
  split at ha
  · rename_i p r σ ρ τ n
    obtain ⟨hok, ha⟩ := tk_if.mp ha
    refine va_get hC.1 hC.2.1 hC.2.2.2.2.2.1 hin hC.2.2.2.2.1 hC.2.2.2.2.2.2.2.2.1 hR.1 (p - 1) (tk_obj hok ht) hc k hk (hC.2.2.2.2.2.1 _ hlk) (fun _ h => h) (v := .long (τ p k)) ?_ hd (hK _ ha p9 e s m args below meth cd H locs ad ad0 n0 A ls hC hR hS hA hL hN hX)
    rw [List.getElem?_map, List.getElem?_range (by omega)]
    simp only [Option.map_some, tk_fv, hft]
  · exact ha.elim
theorem so_gR {t k idx : Nat} {C : String} {T : u_T} {N : Nat} (hd : decode M.2.1 pc = .ok (.getfield idx, 3)) (ht : t < 8) (hc : vwCl[t]? = some (C, T, N)) (hnf : tk_nf t = N) (hk : k < N) (hft : tk_ft t k = 1) (hin : ∀ w ∈ u_ws C T N, w ∈ tk_G) (hlk : Cond.fieldLink M.1.cls idx (T k).1 (T k).2.1 (T k).2.2.1 ∈ tk_G) (hn : pc + 3 = nx) : tk_So sc M pc (tk_gR t k nx) := by
  subst hn
  intro l D cy L st μ kc ks K q hK ha p9 e s m args below meth cd H locs ad ad0 n0 A ls hC hR hS hA hL hN hX
  unfold tk_gR at ha
  split at ha
  · rename_i p r σ ρ τ n
    obtain ⟨hok, ha⟩ := tk_if.mp ha
    obtain ⟨x, hx, ha⟩ := tk_os.mp ha
    refine va_get hC.1 hC.2.1 hC.2.2.2.2.2.1 hin hC.2.2.2.2.1 hC.2.2.2.2.2.2.2.2.1 hR.1 (p - 1) (tk_obj hok ht) hc k hk (hC.2.2.2.2.2.1 _ hlk) (fun _ h => h) (v := .ref (ad x)) ?_ hd (hK _ ha p9 e s m args below meth cd H locs ad ad0 n0 A ls hC hR hS hA hL hN hX)
    rw [List.getElem?_map, List.getElem?_range (by omega)]
    simp only [Option.map_some, tk_fv, hft, hx, va_rf]
  · exact ha.elim
theorem so_pI {t k idx : Nat} {C : String} {T : u_T} {N : Nat} (hd : decode M.2.1 pc = .ok (.putfield idx, 3)) (ht : t < 8) (hc : vwCl[t]? = some (C, T, N)) (hnf : tk_nf t = N) (hk : k < N) (hft : tk_ft t k = 0) (hin : ∀ w ∈ u_ws C T N, w ∈ tk_G) (hlk : Cond.fieldLink M.1.cls idx (T k).1 (T k).2.1 (T k).2.2.1 ∈ tk_G) (ty0 : Nat → FieldType) (hty : ∀ k, k < N → parseFieldDescriptor (T k).2.2.1 = some (ty0 k)) (hnm : ∀ a, a < N → ∀ b, b < N → a ≠ b → (T a).2.1 ≠ (T b).2.1) (hfin : (T k).2.2.2 = false) (hd2 : parseFieldDescriptor (T k).2.2.1 = some .int) (hn : pc + 3 = nx) : tk_So sc M pc (tk_pI t k nx) := by
  subst hn
  intro l D cy L st μ kc ks K q hK ha p9 e s m args below meth cd H locs ad ad0 n0 A ls hC hR hS hA hL hN hX
  unfold tk_pI at ha
  split at ha
  · rename_i x p r σ ρ τ n
    obtain ⟨hok, ha⟩ := tk_if.mp ha
    
    have hkd := (tk_ok.mp hok)
    refine va_put hC.1 hC.2.1 hC.2.2.2.2.2.1 hin ty0 hty hnm hC.2.2.2.2.1 hC.2.2.2.2.2.2.2.2.1 hR.1 hR.2.1 hS (p - 1) (tk_obj hok ht) hc k hk (hC.2.2.2.2.2.1 _ hlk) (fun _ h => h) hfin hd2 (v := .int x) rfl rfl (by rw [List.length_map, List.length_range]; omega) hd (fun H1 locs1 hP1 hD1 hS1 => ?_)
    have e9 : (tk_ws cy ad (σ, ρ, τ, n)).set (p - 1) (ad p, .inr (t, ((List.range (tk_nf t)).map (fun k => tk_fv ad (σ, ρ, τ, n) t p k)).set k (.int x))) = tk_ws cy ad (tk_up σ p k x, ρ, τ, n) := by
      refine tk_ws_set rfl hkd.2.1 ?_ (fun p' h => tk_cellI p' h)
      rw [tk_cell_obj hkd.1 ht]
      refine congrArg (fun z => Sum.inr (t, z)) (tk_fs_set ?_ (fun j hj => tk_fv_up (k := k) ?_ ?_ ?_ j hj))
      · simp only [tk_fv, hft, tk_up_at, Option.map_some, va_rf]
      · exact fun j hj => tk_up_k σ _ p hj
      · exact fun j hj => rfl
      · exact fun j hj => rfl
    rw [e9] at hP1 hD1
    exact hK _ ha p9 e s m args below meth cd H1 locs1 ad ad0 n0 A ls hC ⟨hP1, hD1, hR.2.2⟩ hS1 hA hL hN hX
  · exact ha.elim
theorem so_pZ {t k idx : Nat} {C : String} {T : u_T} {N : Nat} (hd : decode M.2.1 pc = .ok (.putfield idx, 3)) (ht : t < 8) (hc : vwCl[t]? = some (C, T, N)) (hnf : tk_nf t = N) (hk : k < N) (hft : tk_ft t k = 0) (hin : ∀ w ∈ u_ws C T N, w ∈ tk_G) (hlk : Cond.fieldLink M.1.cls idx (T k).1 (T k).2.1 (T k).2.2.1 ∈ tk_G) (ty0 : Nat → FieldType) (hty : ∀ k, k < N → parseFieldDescriptor (T k).2.2.1 = some (ty0 k)) (hnm : ∀ a, a < N → ∀ b, b < N → a ≠ b → (T a).2.1 ≠ (T b).2.1) (hfin : (T k).2.2.2 = false) (hd2 : parseFieldDescriptor (T k).2.2.1 = some .boolean) (hn : pc + 3 = nx) : tk_So sc M pc (tk_pZ t k nx) := by
  subst hn
  intro l D cy L st μ kc ks K q hK ha p9 e s m args below meth cd H locs ad ad0 n0 A ls hC hR hS hA hL hN hX
  unfold tk_pZ at ha
  split at ha
  · rename_i x p r σ ρ τ n
    obtain ⟨hok, ha⟩ := tk_if.mp ha
    obtain ⟨hx, ha⟩ := ha
    have hkd := (tk_ok.mp hok)
    refine va_put hC.1 hC.2.1 hC.2.2.2.2.2.1 hin ty0 hty hnm hC.2.2.2.2.1 hC.2.2.2.2.2.2.2.2.1 hR.1 hR.2.1 hS (p - 1) (tk_obj hok ht) hc k hk (hC.2.2.2.2.2.1 _ hlk) (fun _ h => h) hfin hd2 (v := .int x) (by rcases hx with h | h <;> subst h <;> rfl) (by rcases hx with h | h <;> subst h <;> rfl) (by rw [List.length_map, List.length_range]; omega) hd (fun H1 locs1 hP1 hD1 hS1 => ?_)
    have e9 : (tk_ws cy ad (σ, ρ, τ, n)).set (p - 1) (ad p, .inr (t, ((List.range (tk_nf t)).map (fun k => tk_fv ad (σ, ρ, τ, n) t p k)).set k (.int x))) = tk_ws cy ad (tk_up σ p k x, ρ, τ, n) := by
      refine tk_ws_set rfl hkd.2.1 ?_ (fun p' h => tk_cellI p' h)
      rw [tk_cell_obj hkd.1 ht]
      refine congrArg (fun z => Sum.inr (t, z)) (tk_fs_set ?_ (fun j hj => tk_fv_up (k := k) ?_ ?_ ?_ j hj))
      · simp only [tk_fv, hft, tk_up_at, Option.map_some, va_rf]
      · exact fun j hj => tk_up_k σ _ p hj
      · exact fun j hj => rfl
      · exact fun j hj => rfl
    rw [e9] at hP1 hD1
    exact hK _ ha p9 e s m args below meth cd H1 locs1 ad ad0 n0 A ls hC ⟨hP1, hD1, hR.2.2⟩ hS1 hA hL hN hX
  · exact ha.elim
theorem so_pL {t k idx : Nat} {C : String} {T : u_T} {N : Nat} (hd : decode M.2.1 pc = .ok (.putfield idx, 3)) (ht : t < 8) (hc : vwCl[t]? = some (C, T, N)) (hnf : tk_nf t = N) (hk : k < N) (hft : tk_ft t k = 2) (hin : ∀ w ∈ u_ws C T N, w ∈ tk_G) (hlk : Cond.fieldLink M.1.cls idx (T k).1 (T k).2.1 (T k).2.2.1 ∈ tk_G) (ty0 : Nat → FieldType) (hty : ∀ k, k < N → parseFieldDescriptor (T k).2.2.1 = some (ty0 k)) (hnm : ∀ a, a < N → ∀ b, b < N → a ≠ b → (T a).2.1 ≠ (T b).2.1) (hfin : (T k).2.2.2 = false) (hd2 : parseFieldDescriptor (T k).2.2.1 = some .long) (hn : pc + 3 = nx) : tk_So sc M pc (tk_pL t k nx) := by
  subst hn
  intro l D cy L st μ kc ks K q hK ha p9 e s m args below meth cd H locs ad ad0 n0 A ls hC hR hS hA hL hN hX
  unfold tk_pL at ha
  split at ha
  · rename_i x p r σ ρ τ n
    obtain ⟨hok, ha⟩ := tk_if.mp ha
    
    have hkd := (tk_ok.mp hok)
    refine va_put hC.1 hC.2.1 hC.2.2.2.2.2.1 hin ty0 hty hnm hC.2.2.2.2.1 hC.2.2.2.2.2.2.2.2.1 hR.1 hR.2.1 hS (p - 1) (tk_obj hok ht) hc k hk (hC.2.2.2.2.2.1 _ hlk) (fun _ h => h) hfin hd2 (v := .long x) rfl rfl (by rw [List.length_map, List.length_range]; omega) hd (fun H1 locs1 hP1 hD1 hS1 => ?_)
    have e9 : (tk_ws cy ad (σ, ρ, τ, n)).set (p - 1) (ad p, .inr (t, ((List.range (tk_nf t)).map (fun k => tk_fv ad (σ, ρ, τ, n) t p k)).set k (.long x))) = tk_ws cy ad (σ, ρ, tk_up τ p k x, n) := by
      refine tk_ws_set rfl hkd.2.1 ?_ (fun p' h => tk_cellL p' h)
      rw [tk_cell_obj hkd.1 ht]
      refine congrArg (fun z => Sum.inr (t, z)) (tk_fs_set ?_ (fun j hj => tk_fv_up (k := k) ?_ ?_ ?_ j hj))
      · simp only [tk_fv, hft, tk_up_at, Option.map_some, va_rf]
      · exact fun j hj => rfl
      · exact fun j hj => rfl
      · exact fun j hj => tk_up_k τ _ p hj
    rw [e9] at hP1 hD1
    exact hK _ ha p9 e s m args below meth cd H1 locs1 ad ad0 n0 A ls hC ⟨hP1, hD1, hR.2.2⟩ hS1 hA hL hN hX
  · exact ha.elim
theorem so_pR {t k idx : Nat} {C : String} {T : u_T} {N : Nat} (hd : decode M.2.1 pc = .ok (.putfield idx, 3)) (ht : t < 8) (hc : vwCl[t]? = some (C, T, N)) (hnf : tk_nf t = N) (hk : k < N) (hft : tk_ft t k = 1) (hin : ∀ w ∈ u_ws C T N, w ∈ tk_G) (hlk : Cond.fieldLink M.1.cls idx (T k).1 (T k).2.1 (T k).2.2.1 ∈ tk_G) (ty0 : Nat → FieldType) (hty : ∀ k, k < N → parseFieldDescriptor (T k).2.2.1 = some (ty0 k)) (hnm : ∀ a, a < N → ∀ b, b < N → a ≠ b → (T a).2.1 ≠ (T b).2.1) (hfin : (T k).2.2.2 = false) {ty : FieldType} (hd2 : parseFieldDescriptor (T k).2.2.1 = some ty) (hnar : ∀ a, narrow ty (.ref a) = .ref a) (hfit : ∀ a, fits ty (.ref a) = true) (hn : pc + 3 = nx) : tk_So sc M pc (tk_pR t k nx) := by
  subst hn
  intro l D cy L st μ kc ks K q hK ha p9 e s m args below meth cd H locs ad ad0 n0 A ls hC hR hS hA hL hN hX
  unfold tk_pR at ha
  split at ha
  · rename_i x p r σ ρ τ n
    obtain ⟨hok, ha⟩ := tk_if.mp ha
    rw [Bool.and_eq_true, Nat.ble_eq] at hok
    obtain ⟨hok, hxn⟩ := hok
    have hkd := (tk_ok.mp hok)
    refine va_put hC.1 hC.2.1 hC.2.2.2.2.2.1 hin ty0 hty hnm hC.2.2.2.2.1 hC.2.2.2.2.2.2.2.2.1 hR.1 hR.2.1 hS (p - 1) (tk_obj hok ht) hc k hk (hC.2.2.2.2.2.1 _ hlk) (fun _ h => h) hfin hd2 (v := .ref (ad x)) (hnar _) (hfit _) (by rw [List.length_map, List.length_range]; omega) hd (fun H1 locs1 hP1 hD1 hS1 => ?_)
    have e9 : (tk_ws cy ad (σ, ρ, τ, n)).set (p - 1) (ad p, .inr (t, ((List.range (tk_nf t)).map (fun k => tk_fv ad (σ, ρ, τ, n) t p k)).set k (.ref (ad x)))) = tk_ws cy ad (σ, tk_up ρ p k (some x), τ, n) := by
      refine tk_ws_set rfl hkd.2.1 ?_ (fun p' h => tk_cellR p' h)
      rw [tk_cell_obj hkd.1 ht]
      refine congrArg (fun z => Sum.inr (t, z)) (tk_fs_set ?_ (fun j hj => tk_fv_up (k := k) ?_ ?_ ?_ j hj))
      · simp only [tk_fv, hft, tk_up_at, Option.map_some, va_rf]
      · exact fun j hj => rfl
      · exact fun j hj => tk_up_k ρ _ p hj
      · exact fun j hj => rfl
    rw [e9] at hP1 hD1
    exact hK _ ha p9 e s m args below meth cd H1 locs1 ad ad0 n0 A ls hC ⟨hP1, hD1, fun a b z hz => by
      by_cases hab : a = p ∧ b = k
      · have h9 : tk_up ρ p k (some x) a b = some x := if_pos hab
        have h8 : tk_up ρ p k (some x) a b = some z := hz
        rw [h9] at h8
        cases h8
        exact hxn
      · have h8 : tk_up ρ p k (some x) a b = some z := hz
        rw [tk_up, if_neg hab] at h8
        exact hR.2.2 a b z h8⟩ hS1 hA hL hN hX
  · exact ha.elim
theorem so_pRF {t k idx : Nat} {C : String} {T : u_T} {N : Nat} (hd : decode M.2.1 pc = .ok (.putfield idx, 3)) (ht : t < 8) (hc : vwCl[t]? = some (C, T, N)) (hnf : tk_nf t = N) (hk : k < N) (hft : tk_ft t k = 1) (hin : ∀ w ∈ u_ws C T N, w ∈ tk_G) (hlk : Cond.fieldLink M.1.cls idx (T k).1 (T k).2.1 (T k).2.2.1 ∈ tk_G) (ty0 : Nat → FieldType) (hty : ∀ k, k < N → parseFieldDescriptor (T k).2.2.1 = some (ty0 k)) (hnm : ∀ a, a < N → ∀ b, b < N → a ≠ b → (T a).2.1 ≠ (T b).2.1) (hfin : (T k).2.2.2 = true) (hini : M.1.name = "<init>") (hdecl : (T k).1 = M.1.cls) {ty : FieldType} (hd2 : parseFieldDescriptor (T k).2.2.1 = some ty) (hnar : ∀ a, narrow ty (.ref a) = .ref a) (hfit : ∀ a, fits ty (.ref a) = true) (hn : pc + 3 = nx) : tk_So sc M pc (tk_pR t k nx) := by
  subst hn
  intro l D cy L st μ kc ks K q hK ha p9 e s m args below meth cd H locs ad ad0 n0 A ls hC hR hS hA hL hN hX
  unfold tk_pR at ha
  split at ha
  · rename_i x p r σ ρ τ n
    obtain ⟨hok, ha⟩ := tk_if.mp ha
    rw [Bool.and_eq_true, Nat.ble_eq] at hok
    obtain ⟨hok, hxn⟩ := hok
    have hkd := (tk_ok.mp hok)
    refine va_putF hC.1 hC.2.1 hC.2.2.2.2.2.1 hin ty0 hty hnm hC.2.2.2.2.1 hC.2.2.2.2.2.2.2.2.1 hR.1 hR.2.1 hS (p - 1) (tk_obj hok ht) hc k hk (hC.2.2.2.2.2.1 _ hlk) (fun _ h => h) hfin (hC.2.2.2.2.2.2.2.1.trans hini) hdecl hd2 (v := .ref (ad x)) (hnar _) (hfit _) (by rw [List.length_map, List.length_range]; omega) hd (fun H1 locs1 hP1 hD1 hS1 => ?_)
    have e9 : (tk_ws cy ad (σ, ρ, τ, n)).set (p - 1) (ad p, .inr (t, ((List.range (tk_nf t)).map (fun k => tk_fv ad (σ, ρ, τ, n) t p k)).set k (.ref (ad x)))) = tk_ws cy ad (σ, tk_up ρ p k (some x), τ, n) := by
      refine tk_ws_set rfl hkd.2.1 ?_ (fun p' h => tk_cellR p' h)
      rw [tk_cell_obj hkd.1 ht]
      refine congrArg (fun z => Sum.inr (t, z)) (tk_fs_set ?_ (fun j hj => tk_fv_up (k := k) ?_ ?_ ?_ j hj))
      · simp only [tk_fv, hft, tk_up_at, Option.map_some, va_rf]
      · exact fun j hj => rfl
      · exact fun j hj => tk_up_k ρ _ p hj
      · exact fun j hj => rfl
    rw [e9] at hP1 hD1
    exact hK _ ha p9 e s m args below meth cd H1 locs1 ad ad0 n0 A ls hC ⟨hP1, hD1, fun a b z hz => by
      by_cases hab : a = p ∧ b = k
      · have h9 : tk_up ρ p k (some x) a b = some x := if_pos hab
        have h8 : tk_up ρ p k (some x) a b = some z := hz
        rw [h9] at h8
        cases h8
        exact hxn
      · have h8 : tk_up ρ p k (some x) a b = some z := hz
        rw [tk_up, if_neg hab] at h8
        exact hR.2.2 a b z h8⟩ hS1 hA hL hN hX
  · exact ha.elim
theorem so_iaload (hd : decode M.2.1 pc = .ok (.iaload, 1)) (hn : pc + 1 = nx) : tk_So sc M pc (tk_ai 9 nx) := by
  subst hn
  intro l D cy L st μ kc ks K q hK ha p9 e s m args below meth cd H locs ad ad0 n0 A ls hC hR hS hA hL hN hX
  unfold tk_ai at ha
  split at ha
  · rename_i i p r σ ρ τ n
    obtain ⟨hok, ha⟩ := tk_if.mp ha
    obtain ⟨hin, ha⟩ := tk_if.mp ha
    exact va_iald hC.1 hC.2.1 hC.2.2.2.2.2.2.2.2.1 hR.1 (p - 1) 1 (tk_arr hok (by decide) (by decide)) rfl (tk_in.mp hin) hd (hK _ ha p9 e s m args below meth cd H locs ad ad0 n0 A ls hC hR hS hA hL hN hX)
  · exact ha.elim
theorem so_caload (hd : decode M.2.1 pc = .ok (.caload, 1)) (hn : pc + 1 = nx) : tk_So sc M pc (tk_ai 8 nx) := by
  subst hn
  intro l D cy L st μ kc ks K q hK ha p9 e s m args below meth cd H locs ad ad0 n0 A ls hC hR hS hA hL hN hX
  unfold tk_ai at ha
  split at ha
  · rename_i i p r σ ρ τ n
    obtain ⟨hok, ha⟩ := tk_if.mp ha
    obtain ⟨hin, ha⟩ := tk_if.mp ha
    exact va_cald hC.1 hC.2.1 hC.2.2.2.2.2.2.2.2.1 hR.1 (p - 1) 0 (tk_arr hok (by decide) (by decide)) rfl (tk_in.mp hin) hd (hK _ ha p9 e s m args below meth cd H locs ad ad0 n0 A ls hC hR hS hA hL hN hX)
  · exact ha.elim
theorem so_baload (hd : decode M.2.1 pc = .ok (.baload, 1)) (hn : pc + 1 = nx) : tk_So sc M pc (tk_ai 10 nx) := by
  subst hn
  intro l D cy L st μ kc ks K q hK ha p9 e s m args below meth cd H locs ad ad0 n0 A ls hC hR hS hA hL hN hX
  unfold tk_ai at ha
  split at ha
  · rename_i i p r σ ρ τ n
    obtain ⟨hok, ha⟩ := tk_if.mp ha
    obtain ⟨hin, ha⟩ := tk_if.mp ha
    exact va_zald hC.1 hC.2.1 hC.2.2.2.2.2.2.2.2.1 hR.1 (p - 1) 2 (tk_arr hok (by decide) (by decide)) rfl (tk_in.mp hin) hd (hK _ ha p9 e s m args below meth cd H locs ad ad0 n0 A ls hC hR hS hA hL hN hX)
  · exact ha.elim
theorem so_iastore (hd : decode M.2.1 pc = .ok (.iastore, 1)) (hn : pc + 1 = nx) : tk_So sc M pc (tk_si 9 (fun x => x) nx) := by
  subst hn
  intro l D cy L st μ kc ks K q hK ha p9 e s m args below meth cd H locs ad ad0 n0 A ls hC hR hS hA hL hN hX
  unfold tk_si at ha
  split at ha
  · rename_i x i p r σ ρ τ n
    obtain ⟨hok, ha⟩ := tk_if.mp ha
    obtain ⟨hin, ha⟩ := tk_if.mp ha
    have hkd := (tk_ok.mp hok)
    refine va_iast hC.1 hC.2.1 hC.2.2.2.2.2.2.2.2.1 hR.1 hR.2.1 hS (p - 1) 1 (tk_arr hok (by decide) (by decide)) rfl (tk_in.mp hin) hd (fun H1 locs1 hP1 hD1 hS1 => ?_)
    have e9 : (tk_ws cy ad (σ, ρ, τ, n)).set (p - 1) (ad p, .inl (cy 9, (tk_kd p).2, .inl (upd (σ p) i.toNatClampNeg x))) = tk_ws cy ad (tk_up σ p i.toNatClampNeg x, ρ, τ, n) := by
      refine tk_ws_set rfl hkd.2.1 ?_ (fun p' h => tk_cellI p' h)
      rw [tk_cell_arr hkd.1 (by decide) (by decide)]
      refine congrArg (fun z => Sum.inl (cy 9, (tk_kd p).2, Sum.inl z)) (funext fun j => ?_)
      unfold tk_up upd
      simp only [true_and]
    have hP2 := e9 ▸ hP1
    have hD2 := e9 ▸ hD1
    exact hK _ ha p9 e s m args below meth cd H1 locs1 ad ad0 n0 A ls hC ⟨hP2, hD2, hR.2.2⟩ hS1 hA hL hN hX
  · exact ha.elim
theorem so_castore (hd : decode M.2.1 pc = .ok (.castore, 1)) (hn : pc + 1 = nx) : tk_So sc M pc (tk_si 8 (vp_nar .char) nx) := by
  subst hn
  intro l D cy L st μ kc ks K q hK ha p9 e s m args below meth cd H locs ad ad0 n0 A ls hC hR hS hA hL hN hX
  unfold tk_si at ha
  split at ha
  · rename_i x i p r σ ρ τ n
    obtain ⟨hok, ha⟩ := tk_if.mp ha
    obtain ⟨hin, ha⟩ := tk_if.mp ha
    have hkd := (tk_ok.mp hok)
    refine va_cast hC.1 hC.2.1 hC.2.2.2.2.2.2.2.2.1 hR.1 hR.2.1 hS (p - 1) 0 (tk_arr hok (by decide) (by decide)) rfl (tk_in.mp hin) hd (fun H1 locs1 hP1 hD1 hS1 => ?_)
    have e9 : (tk_ws cy ad (σ, ρ, τ, n)).set (p - 1) (ad p, .inl (cy 8, (tk_kd p).2, .inl (upd (σ p) i.toNatClampNeg (vp_nar .char x)))) = tk_ws cy ad (tk_up σ p i.toNatClampNeg (vp_nar .char x), ρ, τ, n) := by
      refine tk_ws_set rfl hkd.2.1 ?_ (fun p' h => tk_cellI p' h)
      rw [tk_cell_arr hkd.1 (by decide) (by decide)]
      refine congrArg (fun z => Sum.inl (cy 8, (tk_kd p).2, Sum.inl z)) (funext fun j => ?_)
      unfold tk_up upd
      simp only [true_and]
    have hP2 := e9 ▸ hP1
    have hD2 := e9 ▸ hD1
    exact hK _ ha p9 e s m args below meth cd H1 locs1 ad ad0 n0 A ls hC ⟨hP2, hD2, hR.2.2⟩ hS1 hA hL hN hX
  · exact ha.elim
theorem so_bastore (hd : decode M.2.1 pc = .ok (.bastore, 1)) (hn : pc + 1 = nx) : tk_So sc M pc (tk_si 10 (vp_nar .boolean) nx) := by
  subst hn
  intro l D cy L st μ kc ks K q hK ha p9 e s m args below meth cd H locs ad ad0 n0 A ls hC hR hS hA hL hN hX
  unfold tk_si at ha
  split at ha
  · rename_i x i p r σ ρ τ n
    obtain ⟨hok, ha⟩ := tk_if.mp ha
    obtain ⟨hin, ha⟩ := tk_if.mp ha
    have hkd := (tk_ok.mp hok)
    refine va_zast hC.1 hC.2.1 hC.2.2.2.2.2.2.2.2.1 hR.1 hR.2.1 hS (p - 1) 2 (tk_arr hok (by decide) (by decide)) rfl (tk_in.mp hin) hd (fun H1 locs1 hP1 hD1 hS1 => ?_)
    have e9 : (tk_ws cy ad (σ, ρ, τ, n)).set (p - 1) (ad p, .inl (cy 10, (tk_kd p).2, .inl (upd (σ p) i.toNatClampNeg (vp_nar .boolean x)))) = tk_ws cy ad (tk_up σ p i.toNatClampNeg (vp_nar .boolean x), ρ, τ, n) := by
      refine tk_ws_set rfl hkd.2.1 ?_ (fun p' h => tk_cellI p' h)
      rw [tk_cell_arr hkd.1 (by decide) (by decide)]
      refine congrArg (fun z => Sum.inl (cy 10, (tk_kd p).2, Sum.inl z)) (funext fun j => ?_)
      unfold tk_up upd
      simp only [true_and]
    have hP2 := e9 ▸ hP1
    have hD2 := e9 ▸ hD1
    exact hK _ ha p9 e s m args below meth cd H1 locs1 ad ad0 n0 A ls hC ⟨hP2, hD2, hR.2.2⟩ hS1 hA hL hN hX
  · exact ha.elim
theorem so_aaT (hd : decode M.2.1 pc = .ok (.aaload, 1)) (hn : pc + 1 = nx) : tk_So sc M pc (tk_aa 11 nx) := by
  subst hn
  intro l D cy L st μ kc ks K q hK ha p9 e s m args below meth cd H locs ad ad0 n0 A ls hC hR hS hA hL hN hX
  unfold tk_aa at ha
  split at ha
  · rename_i i p r σ ρ τ n
    obtain ⟨hok, ha⟩ := tk_if.mp ha
    obtain ⟨hin, ha⟩ := tk_if.mp ha
    obtain ⟨x, hx, ha⟩ := tk_os.mp ha
    refine va_aldq (C := RX4) hC.1 hC.2.1 hC.2.2.2.2.2.2.2.2.1 hR.1 (p - 1) 3 (tk_arq hok (by decide)) rfl (tk_in.mp hin) hd ?_
    dsimp only
    rw [hx]
    exact (hK _ ha p9 e s m args below meth cd H locs ad ad0 n0 A ls hC hR hS hA hL hN hX)
  · exact ha.elim
theorem so_aaI (hd : decode M.2.1 pc = .ok (.aaload, 1)) (hn : pc + 1 = nx) : tk_So sc M pc (tk_aa 12 nx) := by
  subst hn
  intro l D cy L st μ kc ks K q hK ha p9 e s m args below meth cd H locs ad ad0 n0 A ls hC hR hS hA hL hN hX
  unfold tk_aa at ha
  split at ha
  · rename_i i p r σ ρ τ n
    obtain ⟨hok, ha⟩ := tk_if.mp ha
    obtain ⟨hin, ha⟩ := tk_if.mp ha
    obtain ⟨x, hx, ha⟩ := tk_os.mp ha
    have hin := tk_in.mp hin
    have hlt : i.toNatClampNeg < (tk_kd p).2 := Nat.not_le.mp fun q => hin (Or.inr q)
    refine W.aald (v := .ref (ad x)) (ty := .array .int) hC.1 hC.2.1 (hR.1 (p - 1) _ (tk_arq hok (by decide))) (((hC.2.2.2.2.2.2.2.2.1).2 4 _ rfl).1 _ (fun j => va_rf ((ρ p j).map ad))) rfl (fun q => by cases q) (by show ¬ (i < 0 ∨ (arrV _ _ _).slots.size ≤ _); rw [arrV_size]; exact hin) (by show (arrV _ _ _).slots[_]? = _; rw [arrV_read _ _ hlt]; dsimp only; rw [hx]; rfl) rfl rfl hd (hK _ ha p9 e s m args below meth cd H locs ad ad0 n0 A ls hC hR hS hA hL hN hX)
  · exact ha.elim
theorem so_aas {t0 : Nat} (hd : decode M.2.1 pc = .ok (.aastore, 1)) (hn : pc + 1 = nx) : tk_So sc M pc (tk_sq 11 4 nx) := by
  subst hn
  intro l D cy L st μ kc ks K q hK ha p9 e s m args below meth cd H locs ad ad0 n0 A ls hC hR hS hA hL hN hX
  unfold tk_sq at ha
  split at ha
  · rename_i x i p r σ ρ τ n
    obtain ⟨hok, ha⟩ := tk_if.mp ha
    obtain ⟨hin, ha⟩ := tk_if.mp ha
    rw [Bool.and_eq_true] at hok
    obtain ⟨hok, hox⟩ := hok
    have hkd := (tk_ok.mp hok)
    have hxn := (tk_ok.mp hox).2.2
    refine va_astq (r := (RX4, TX4, 3)) hC.1 hC.2.1 hC.2.2.2.2.2.2.2.2.1 hR.1 hR.2.1 hS (p - 1) 3 (x - 1) 4 (tk_arq hok (by decide)) rfl (tk_obj hox (by decide)) rfl (tk_in.mp hin) hd (fun H1 locs1 hP1 hD1 hS1 => ?_)
    have e9 : (tk_ws cy ad (σ, ρ, τ, n)).set (p - 1) (ad p, .inl (cy 11, (tk_kd p).2, .inr (.inr (.inr (.inr (va_up (fun i => (ρ p i).map ad) i.toNatClampNeg (some (ad x)))))))) = tk_ws cy ad (σ, tk_up ρ p i.toNatClampNeg (some x), τ, n) := by
      refine tk_ws_set rfl hkd.2.1 ?_ (fun p' h => tk_cellR p' h)
      rw [tk_cell_arq hkd.1 (by decide)]
      refine congrArg (fun z => Sum.inl (cy 11, (tk_kd p).2, Sum.inr (Sum.inr (Sum.inr (Sum.inr z))))) (funext fun j => ?_)
      unfold tk_up va_up
      by_cases hj : j = i.toNatClampNeg
      · simp only [hj, and_self, if_true, Option.map_some]
      · simp only [hj, and_false, if_false]
    have hP2 := e9 ▸ hP1
    have hD2 := e9 ▸ hD1
    refine hK _ ha p9 e s m args below meth cd H1 locs1 ad ad0 n0 A ls hC ⟨hP2, hD2, fun a b z hz => ?_⟩ hS1 hA hL hN hX
    by_cases hab : a = p ∧ b = i.toNatClampNeg
    · have h9 : tk_up ρ p i.toNatClampNeg (some x) a b = some x := if_pos hab
      have h8 : tk_up ρ p i.toNatClampNeg (some x) a b = some z := hz
      rw [h9] at h8
      cases h8
      exact hxn
    · have h8 : tk_up ρ p i.toNatClampNeg (some x) a b = some z := hz
      rw [tk_up, if_neg hab] at h8
      exact hR.2.2 a b z h8
  · exact ha.elim
theorem so_sld {Ls : Nat} {xs : Nat → Int32} (hsc : sc = some (Ls, xs)) (hd : decode M.2.1 pc = .ok (.iaload, 1)) (hn : pc + 1 = nx) : tk_So sc M pc (tk_sld xs Ls nx) := by
  subst hn
  intro l D cy L st μ kc ks K q hK ha p9 e s m args below meth cd H locs ad ad0 n0 A ls hC hR hS hA hL hN hX
  unfold tk_sld at ha
  split at ha
  · rename_i i p r
    obtain ⟨hp, hb⟩ := tk_if.mp ha
    obtain ⟨hin, hc⟩ := tk_if.mp hb
    have hp := Nat.eq_of_beq_eq_true hp
    subst hp
    obtain ⟨x1, x2, x3⟩ := hX Ls xs hsc
    exact va_sld hC.1 hC.2.1 x1 x2 x3 hS (tk_in.mp hin) hd (hK _ hc p9 e s m args below meth cd H locs ad ad0 n0 A ls hC hR hS hA hL hN hX)
  · exact ha.elim
theorem so_sln {Ls : Nat} {xs : Nat → Int32} (hsc : sc = some (Ls, xs)) (hd : decode M.2.1 pc = .ok (.arraylength, 1)) (hn : pc + 1 = nx) : tk_So sc M pc (tk_sln Ls nx) := by
  subst hn
  intro l D cy L st μ kc ks K q hK ha p9 e s m args below meth cd H locs ad ad0 n0 A ls hC hR hS hA hL hN hX
  unfold tk_sln at ha
  split at ha
  · rename_i p r
    obtain ⟨hp, hb⟩ := tk_if.mp ha
    have hp := Nat.eq_of_beq_eq_true hp
    subst hp
    obtain ⟨x1, x2, x3⟩ := hX Ls xs hsc
    exact va_slen hC.1 hC.2.1 x1 x2 x3 hS hd (hK _ hb p9 e s m args below meth cd H locs ad ad0 n0 A ls hC hR hS hA hL hN hX)
  · exact ha.elim
theorem so_lookup {dflt : Int} {ps : Array (Int × Int)} {len d : Nat} {cs : List (Int32 × Nat)} (hd : decode M.2.1 pc = .ok (.lookupswitch dflt ps, len)) (hp : (ps.toList.zip (ps.toList.drop 1)).all (fun (a, next) => a.1 < next.1) = true) (ht : (pc : Int) + dflt = (d : Int))
    (h1 : ps.toList = cs.map (fun r => (r.1.toInt, (r.2 : Int) - (pc : Int)))) : tk_So sc M pc (tk_sw cs d) := by
  intro l D cy L st μ kc ks K q hK ha p9 e s m args below meth cd H locs ad ad0 n0 A ls hC hR hS hA hL hN hX
  unfold tk_sw at ha
  split at ha
  · rename_i x r
    have key : ∀ (zs : List (Int32 × Nat)), tk_cas zs x d (fun t => K (t, L, r, μ, kc, ks)) → ∃ t, K (t, L, r, μ, kc, ks) ∧ (pc : Int) + Op.lookupswitch.offset (zs.map (fun r => (r.1.toInt, (r.2 : Int) - (pc : Int)))) dflt x.toInt = (t : Int) := by
      intro zs
      induction zs with
      | nil => intro h; exact ⟨d, h, ht⟩
      | cons a l ih =>
        obtain ⟨v, t⟩ := a
        intro h
        by_cases hx : x = v
        · refine ⟨t, h.1 hx, ?_⟩
          rw [List.map_cons, Op.lookupswitch.offset_cons, if_pos (by rw [hx])]
          omega
        · obtain ⟨t', g1, g2⟩ := ih (h.2 hx)
          refine ⟨t', g1, ?_⟩
          rw [List.map_cons, Op.lookupswitch.offset_cons, if_neg (fun h => hx (Int32.toInt_inj.mp h.symm))]
          exact g2
    obtain ⟨t, g1, g2⟩ := key cs ha
    exact lv_lookup hC.1 hC.2.1 hd hp rfl (by rw [h1]; exact g2) (hK _ g1 p9 e s m args below meth cd H locs ad ad0 n0 A ls hC hR hS hA hL hN hX)
  · exact ha.elim
end
end
section
/-! calls -/
def tk_pop : Nat → List Value → List Value → (List Value → List Value → Prop) → Prop
  | 0, st, acc, k => k acc st
  | n + 1, v :: st, acc, k => tk_pop n st (v :: acc) k
  | _ + 1, [], _, _ => False
theorem tk_pop.mp {n : Nat} {st acc : List Value} {k : List Value → List Value → Prop} (h : tk_pop n st acc k) : ∃ a r, st = a.reverse ++ r ∧ a.length = n ∧ k (a ++ acc) r := by
  induction n generalizing st acc with
  | zero => exact ⟨[], st, rfl, rfl, h⟩
  | succ n ih =>
    cases st with
    | nil => exact h.elim
    | cons v st =>
      obtain ⟨a, r, h1, h2, h3⟩ := ih h
      refine ⟨a ++ [v], r, ?_, by simp [h2], ?_⟩
      · rw [h1, List.reverse_append]
        rfl
      · rw [List.append_assoc]
        exact h3
def tk_ps : Option Value → List Value → List Value
  | some v, r => v :: r
  | none, r => r
def tk_cat (r : List Value) : Nat := (r.map fun v => v.category).sum
def tk_vle (n : Nat) : Value → Bool
  | .ref p => Nat.ble p n
  | _ => true
def tk_fr (n : Nat) (L : List (Option Value)) (st : List Value) : Bool := st.all (tk_vle n) && L.all (fun o => match o with
  | some v => tk_vle n v
  | none => true)
def tk_cv (ci : Nat) (M' : tk_Md) (n nx : Nat) : tk_Ac := fun L st μ kc ks K _ => tk_pop (n + 1) st [] (fun as r => match as with
  | .ref b :: _ => tk_if (tk_ok b ci μ.2.2.2) (tk_if (Nat.ble (tk_cat r) 8) (∃ P, tk_Ct M' as μ P ∧ ∀ v μ', P v μ' → K (nx, L, tk_ps v r, μ', kc, ks)))
  | _ => False)
def tk_cs (M' : tk_Md) (n nx : Nat) : tk_Ac := fun L st μ kc ks K _ => tk_pop n st [] (fun as r => tk_if (Nat.ble (tk_cat r) 8) (∃ P, tk_Ct M' as μ P ∧ ∀ v μ', P v μ' → K (nx, L, tk_ps v r, μ', kc, ks)))
def tk_ci (M' : tk_Md) (n nx mc ms : Nat) : tk_Ac := fun L st μ kc ks K _ => tk_pop (n + 1) st [] (fun as r => match as with
  | .ref _ :: _ => tk_if (tk_fr μ.2.2.2 L r && (Nat.ble (kc + M'.2.2.2.2.cells) mc && Nat.ble (ks + M'.2.2.2.2.slots) ms)) (tk_if (Nat.ble (tk_cat r) 8) (∃ P, tk_Ct M' as μ P ∧ ∀ v μ', P v μ' → K (nx, L, tk_ps v r, μ', kc + M'.2.2.2.2.cells, ks + M'.2.2.2.2.slots)))
  | _ => False)
def tk_oi (nx : Nat) : tk_Ac := fun L st μ kc ks K _ => match st with
  | [.ref _] => K (nx, L, [], μ, kc, ks)
  | _ => False
theorem tk_cc {M' : tk_Md} {as : List Value} {μ : tk_Me} {P : tk_Po} {K : Option Value → tk_Me → Prop} (h : tk_Ct M' as μ P) (k : ∀ v μ', P v μ' → K v μ') : ∃ P, tk_Ct M' as μ P ∧ ∀ v μ', P v μ' → K v μ' := ⟨P, h, k⟩
theorem tk_cat_v (ad : Nat → Nat) (r : List Value) : ((r.map (tk_v ad)).map fun v => v.category).sum = tk_cat r := by
  unfold tk_cat
  rw [List.map_map]
  congr 1
  apply List.map_congr_left
  intro v _
  exact tk_v_cat ad v
theorem tk_vs_fr {n : Nat} {r : List Value} {ad ad' : Nat → Nat} (h : r.all (tk_vle n) = true) (ha : ∀ i, i ≤ n → ad' i = ad i) : r.map (tk_v ad') = r.map (tk_v ad) := by
  apply List.map_congr_left
  intro v hv
  have h1 := List.all_eq_true.mp h v hv
  cases v <;> first | rfl | (simp only [tk_vle, Nat.ble_eq] at h1; simp only [tk_v, ha _ h1])
theorem tk_L_fr {n : Nat} {L : List (Option Value)} {ls : Array Slot} {nL : Nat} {ad ad' : Nat → Nat} (h : tk_L ad L ls nL) (hf : L.all (fun o => match o with
  | some v => tk_vle n v
  | none => true) = true) (ha : ∀ i, i ≤ n → ad' i = ad i) : tk_L ad' L ls nL := by
  refine ⟨⟨h.1.1, h.1.2.1, fun q hq => ?_⟩, h.2.1, h.2.2⟩
  obtain ⟨j, w⟩ := q
  obtain ⟨x, hx, rfl⟩ := tk_lv_mem.mp hq
  have h1 := List.all_eq_true.mp hf (some x) (List.mem_of_getElem? hx)
  have h2 : tk_v ad' x = tk_v ad x := by
    cases x <;> first | rfl | (simp only [tk_vle, Nat.ble_eq] at h1; simp only [tk_v, ha _ h1])
  rw [h2]
  exact h.1.2.2 _ (tk_lv_mem.mpr ⟨x, hx, rfl⟩)
theorem tk_AOA_moved {s U : State} (hvm : s.vm.Alike U.vm) (h : (Cond.arrayOver (.array .int)).before #[] s = true) : (Cond.arrayOver (.array .int)).before #[] U = true := Jvm.Stand.arrayOver_alikeB hvm h
theorem tk_N.warm {s U : State} (hW : s.WarmedH U.vm) (h : tk_N s) : tk_N U := ⟨fun a i x hh hm => va_Nw.warmM hW (h.1 a i x hh hm), h.2.1.moved hW.alike, tk_AOA_moved hW.alike h.2.2⟩
theorem tk_N.same {s U : State} (hv : s.vm = U.vm) (h : tk_N s) : tk_N U := ⟨fun a i x hh hm => va_Nw.same rfl hv (h.1 a i x hh hm), h.2.1.moved (by rw [hv]; exact Vm.Alike.refl U.vm), tk_AOA_moved (by rw [hv]; exact Vm.Alike.refl U.vm) h.2.2⟩
/-- behind a call -/
theorem tk_aft {l : Launch} {D : va_G} {cy : Nat → ClassId} {sc : Option (Nat × (Nat → Int32))} {M M' : tk_Md} {q : tk_Po} {P : tk_Po} {pc : Nat} {L : List (Option Value)} {rr : List Value} {kc ks : Nat} {μ : tk_Me}
    {p : Program} {e : Env} {s : State} {m : MethodId} {args : Array Value} {below : List Frame} {meth : Method} {cd : Code} {H : Heap} {locs : List Loc} {ad ad0 : Nat → Nat} {n0 : Nat} {A : Nat → Prop} {ls : Array Slot} {as : Array Value} {st0 : List Value}
    (hC : tk_C D cy M p s m args meth cd) (hS : va_S A s.heap H locs) (hA : ∀ x, s.heap.size ≤ x → A x) (hL : tk_L ad L ls M.2.2.1)
    (hN : (∀ i, i ≤ n0 → ad i = ad0 i) ∧ n0 ≤ μ.2.2.2 ∧ (kc = 0 → ad = ad0) ∧ kc ≤ M.2.2.2.2.cells ∧ ks ≤ M.2.2.2.2.slots)
    (hX : ∀ Ls xs, sc = some (Ls, xs) → va_X (ad 0) Ls xs s s.heap ∧ ad 0 < s.heap.size ∧ ¬ A (ad 0))
    (hroom : kc + M'.2.2.2.2.cells ≤ M.2.2.2.2.cells ∧ ks + M'.2.2.2.2.slots ≤ M.2.2.2.2.slots)
    (hfr : M'.2.2.2.2.cells = 0 ∨ tk_fr μ.2.2.2 L rr = true)
    (hr : va_Run p l e M.2.2.2.2 s m args below meth cd H locs kc ks M'.2.2.2.2.cells M'.2.2.2.2.slots (F0 m pc ls st0) (rr.map (tk_v ad)) (tk_Q D cy M'.2.2.2.2 ad μ.2.2.2 A P as) A)
    (hk : ∀ v μ', P v μ' → tk_J l D cy sc M (pc + 3, L, tk_ps v rr, μ', kc + M'.2.2.2.2.cells, ks + M'.2.2.2.2.slots) q) :
    W p l e M.2.2.2.2 s m args below meth cd H locs kc ks (MQ below (tk_Q D cy M.2.2.2.2 ad0 n0 A q) args s M.2.2.2.2.cells M.2.2.2.2.slots A) (F0 m pc ls st0) := by
  intro T hT X
  obtain ⟨v, st₀, t, T', L9, h0, X', hL9, e1, e2, ⟨⟨r, μ', ad', hv, hp, had, hn, hz, hR'⟩, hF⟩, stp⟩ := hr T hT X
  cases hv
  unfold va_F at hF
  rw [h0] at hF
  have hS' : va_S A s.heap T'.heap (locs ++ L9) := ⟨Nat.le_trans hS.1 (by rw [e1]; exact hF.1), fun x h1 h2 => by rw [e1, hF.2 x (Nat.lt_of_lt_of_le h1 hS.1) h2]; exact hS.2.1 x h1 h2, fun x hx => by
    rcases List.mem_append.mp hx with h | h
    · exact hS.2.2 x h
    · exact hL9 x h⟩
  have hsame : rr.map (tk_v ad') = rr.map (tk_v ad) ∧ tk_L ad' L ls M.2.2.1 := by
    rcases hfr with h | h
    · rw [hz h]
      exact ⟨rfl, hL⟩
    · simp only [tk_fr, Bool.and_eq_true] at h
      exact ⟨tk_vs_fr h.1 had, tk_L_fr hL h.2 had⟩
  have hN' : (∀ i, i ≤ n0 → ad' i = ad0 i) ∧ n0 ≤ μ'.2.2.2 ∧ (kc + M'.2.2.2.2.cells = 0 → ad' = ad0) ∧ kc + M'.2.2.2.2.cells ≤ M.2.2.2.2.cells ∧ ks + M'.2.2.2.2.slots ≤ M.2.2.2.2.slots :=
    ⟨fun i hi => (had i (Nat.le_trans hi hN.2.1)).trans (hN.1 i hi), Nat.le_trans hN.2.1 hn, fun h => (hz (by omega)).trans (hN.2.2.1 (by omega)), hroom.1, hroom.2⟩
  have hX' : ∀ Ls xs, sc = some (Ls, xs) → va_X (ad' 0) Ls xs s s.heap ∧ ad' 0 < s.heap.size ∧ ¬ A (ad' 0) := by
    rw [had 0 (Nat.zero_le _)]
    exact hX
  have hW := hk r μ' hp p e s m args below meth cd T'.heap (locs ++ L9) ad' ad0 n0 A ls hC (by rw [e1]; exact hR') hS' hA hsame.2 hN' hX'
  obtain ⟨t2, a1, b1⟩ := hW T' rfl X'
  refine ⟨t2, stp t2 ?_, b1⟩
  have e3 : (r.map (tk_v ad')).toList ++ rr.map (tk_v ad) = (tk_ps r rr).map (tk_v ad') := by
    rw [← hsame.1]
    cases r <;> rfl
  rw [e3]
  exact a1
/-- what a call asks of the tables -/
def tk_MB (M' : tk_Md) (n : Nat) : Prop := Cond.code M'.1 M'.2.1 M'.2.2.1 M'.2.2.2.1 ∈ tk_G ∧ Cond.initialized M'.1.cls ∈ tk_G ∧ M'.1.cls ≠ "java/lang/invoke/MethodHandle" ∧ M'.1.cls ≠ "java/lang/invoke/VarHandle" ∧ (parseMethodDescriptor M'.1.desc).map (fun d => d.parameters.length) = some n
def tk_MV (M' : tk_Md) (n : Nat) : Prop := tk_MB M' n ∧ Cond.instanceMethod M'.1 ∈ tk_G ∧ Cond.selects M'.1.cls M'.1 M'.1 ∈ tk_G
def tk_MS (M' : tk_Md) (n : Nat) : Prop := tk_MB M' n ∧ Cond.static M'.1 ∈ tk_G
def tk_MI (M' : tk_Md) (n : Nat) : Prop := tk_MB M' n ∧ Cond.instanceMethod M'.1 ∈ tk_G ∧ M'.1.name = "<init>" ∧ M'.2.2.2.1 = none
theorem tk_gin {M' : tk_Md} (h : Cond.code M'.1 M'.2.1 M'.2.2.1 M'.2.2.2.1 ∈ tk_G) : GoodIn tk_G (tk_wsM M') := fun w hw => by
  rcases List.mem_cons.mp hw with rfl | hw
  · exact ⟨h, tk_good h⟩
  · exact ⟨hw, tk_good hw⟩
theorem tk_pre {D : va_G} {cy : Nat → ClassId} {ad : Nat → Nat} {A : Nat → Prop} {as : List Value} {μ : tk_Me} {s : State} {H : Heap} {locs : List Loc} (hK : va_K D vwCl (tk_tys cy) s) (hN : tk_N s) (hR : tk_R D cy A ad μ H) (hS : va_S A s.heap H locs) (hA : ∀ x, s.heap.size ≤ x → A x) :
    PreS s H (fun v U => v = (as.map (tk_v ad)).toArray ∧ (∀ x, U.heap.size ≤ x → A x) ∧ va_K D vwCl (tk_tys cy) U ∧ tk_N U ∧ tk_R D cy A ad μ U.heap) (as.map (tk_v ad)) := by
  refine ⟨fun a U g mk h => ?_, fun U hU hW => ?_⟩
  · obtain ⟨h1, h2, h3, h4, h5⟩ := h
    exact ⟨h1, h2, va_K.moved (u := U) (U := U.calling g mk a) (Vm.Alike.refl U.vm) h3, tk_N.same (s := U) (U := U.calling g mk a) rfl h4, h5⟩
  · exact ⟨rfl, fun x hx => hA x (Nat.le_trans hS.1 (by rw [← hU]; exact hx)), va_K.moved hW.alike hK, hN.warm hW, by rw [hU]; exact hR⟩
section
variable {sc : Option (Nat × (Nat → Int32))} {M M' : tk_Md} {pc nx n : Nat}
theorem so_cv {ci idx : Nat} {T : u_T} {N : Nat} (hd : decode M.2.1 pc = .ok (.invokevirtual idx, 3)) (hM : tk_MV M' n) (hlk : Cond.methodLink M.1.cls idx M'.1 ∈ tk_G) (ht : ci < 8) (hc : vwCl[ci]? = some (M'.1.cls, T, N)) (hz : M'.2.2.2.2.cells = 0 ∧ M'.2.2.2.2.slots = 0)
    (hrm : M'.2.2.2.2.frames + 1 ≤ M.2.2.2.2.frames ∧ 8 + (M'.2.2.1 + 11) + M'.2.2.2.2.locals ≤ M.2.2.2.2.locals) (hn : pc + 3 = nx) : tk_So sc M pc (tk_cv ci M' n nx) := by
  subst hn
  intro l D cy L st μ kc ks K q hK ha p e s m args below meth cd H locs ad ad0 n0 A ls hC hR hS hA hL hN hX
  unfold tk_cv at ha
  obtain ⟨as, r, hst, hlen, ha⟩ := tk_pop.mp ha
  rw [List.append_nil] at ha
  split at ha
  · rename_i b As
    obtain ⟨hok, ha⟩ := tk_if.mp ha
    obtain ⟨hct, ha⟩ := tk_if.mp ha
    obtain ⟨P, hCt, hk⟩ := ha
    have hts := hC.2.2.2.2.2.1
    have cw : CallW M.2.2.2.2 s args M.1.cls M'.1.cls idx M'.1 M'.2.1 M'.2.2.1 M'.2.2.2.1 (tk_wsM M') M'.2.2.2.2 M'.2.2.2.2.cells M'.2.2.2.2.slots n :=
      ⟨callB_of n hts (tk_gin hM.1.1) rfl rfl rfl (hts _ hM.1.2.1) (hts _ hlk) hM.1.2.2 hrm, hts _ hM.2.1, hts _ hM.2.2⟩
    have hp := tk_pre (as := .ref b :: As) hC.2.2.2.2.2.2.2.2.1 hC.2.2.2.2.2.2.2.2.2 hR hS hA
    have hrc := va_recv hC.2.2.2.2.2.2.2.2.1 hR.1 hc (tk_obj hok ht)
    refine tk_aft (as := (Value.ref (ad b) :: As.map (tk_v ad)).toArray) (rr := r) (P := P) hC hS hA hL hN hX (by rw [hz.1, hz.2]; exact ⟨hN.2.2.2.1, hN.2.2.2.2⟩) (Or.inl hz.1) (va_runV (As := As.map (tk_v ad)) (rest := r.map (tk_v ad)) ⟨hC.1, hC.2.1, hC.2.2.2.1, hC.2.2.2.2.1, hts⟩ (hCt l D cy ad A) cw ⟨hp.1, hrc, hp.2⟩ rfl ?_ hL.1.1 ?_ ?_ hd ?_) (fun v μ' hv => ?_)
    · rw [List.length_map]; rw [List.length_cons] at hlen; omega
    · show st.map (tk_v ad) = _
      rw [hst, List.map_append, List.map_reverse, List.map_cons, List.reverse_cons, List.append_assoc]
      rfl
    · refine lv_room ?_
      rw [tk_cat_v]
      exact Nat.le_of_ble_eq_true hct
    · rw [hz.1, hz.2]
      exact ⟨hN.2.2.2.1, hN.2.2.2.2⟩
    · rw [hz.1, hz.2]
      exact hK _ (hk v μ' hv)
  · exact ha.elim
theorem so_cs {idx : Nat} (hd : decode M.2.1 pc = .ok (.invokestatic idx, 3)) (hM : tk_MS M' n) (hlk : Cond.methodLink M.1.cls idx M'.1 ∈ tk_G) (hz : M'.2.2.2.2.cells = 0 ∧ M'.2.2.2.2.slots = 0)
    (hrm : M'.2.2.2.2.frames + 1 ≤ M.2.2.2.2.frames ∧ 8 + (M'.2.2.1 + 11) + M'.2.2.2.2.locals ≤ M.2.2.2.2.locals) (hn : pc + 3 = nx) : tk_So sc M pc (tk_cs M' n nx) := by
  subst hn
  intro l D cy L st μ kc ks K q hK ha p e s m args below meth cd H locs ad ad0 n0 A ls hC hR hS hA hL hN hX
  unfold tk_cs at ha
  obtain ⟨as, r, hst, hlen, ha⟩ := tk_pop.mp ha
  rw [List.append_nil] at ha
  obtain ⟨hct, ha⟩ := tk_if.mp ha
  obtain ⟨P, hCt, hk⟩ := ha
  have hts := hC.2.2.2.2.2.1
  have cw := callB_of (R := M.2.2.2.2) n hts (tk_gin hM.1.1) rfl rfl rfl (hts _ hM.1.2.1) (hts _ hlk) hM.1.2.2 hrm
  have hp := tk_pre (as := as) hC.2.2.2.2.2.2.2.2.1 hC.2.2.2.2.2.2.2.2.2 hR hS hA
  refine tk_aft (as := (as.map (tk_v ad)).toArray) (rr := r) (P := P) hC hS hA hL hN hX (by rw [hz.1, hz.2]; exact ⟨hN.2.2.2.1, hN.2.2.2.2⟩) (Or.inl hz.1) (va_runS (As := as.map (tk_v ad)) (rest := r.map (tk_v ad)) ⟨hC.1, hC.2.1, hC.2.2.2.1, hC.2.2.2.2.1, hts⟩ (hCt l D cy ad A) ⟨cw, hts _ hM.2⟩ hp rfl ?_ hL.1.1 ?_ ?_ hd ?_) (fun v μ' hv => ?_)
  · rw [List.length_map]; exact hlen
  · show st.map (tk_v ad) = _
    rw [hst, List.map_append, List.map_reverse]
  · refine lv_room ?_
    rw [tk_cat_v]
    exact Nat.le_of_ble_eq_true hct
  · rw [hz.1, hz.2]
    exact ⟨hN.2.2.2.1, hN.2.2.2.2⟩
  · rw [hz.1, hz.2]
    exact hK _ (hk v μ' hv)
/-- a static method of a nest mate -/
theorem so_csN {idx : Nat} {host : String} (hd : decode M.2.1 pc = .ok (.invokestatic idx, 3)) (hM : tk_MS M' n) (hlk : Cond.methodLinkNest M.1.cls idx M'.1 host ∈ lw_tbl) (hz : M'.2.2.2.2.cells = 0 ∧ M'.2.2.2.2.slots = 0)
    (hrm : M'.2.2.2.2.frames + 1 ≤ M.2.2.2.2.frames ∧ 8 + (M'.2.2.1 + 11) + M'.2.2.2.2.locals ≤ M.2.2.2.2.locals) (hn : pc + 3 = nx) : tk_So sc M pc (tk_cs M' n nx) := by
  subst hn
  intro l D cy L st μ kc ks K q hK ha p e s m args below meth cd H locs ad ad0 n0 A ls hC hR hS hA hL hN hX
  unfold tk_cs at ha
  obtain ⟨as, r, hst, hlen, ha⟩ := tk_pop.mp ha
  rw [List.append_nil] at ha
  obtain ⟨hct, ha⟩ := tk_if.mp ha
  obtain ⟨P, hCt, hk⟩ := ha
  have hts := hC.2.2.2.2.2.1
  have cw := va_cnB (R := M.2.2.2.2) n hts (tk_gin hM.1.1) rfl rfl rfl (hC.2.2.2.2.2.2.2.2.2.1 _ _ _ _ hlk) (hts _ hM.1.2.1) hM.1.2.2 hrm
  have hp := tk_pre (as := as) hC.2.2.2.2.2.2.2.2.1 hC.2.2.2.2.2.2.2.2.2 hR hS hA
  refine tk_aft (as := (as.map (tk_v ad)).toArray) (rr := r) (P := P) hC hS hA hL hN hX (by rw [hz.1, hz.2]; exact ⟨hN.2.2.2.1, hN.2.2.2.2⟩) (Or.inl hz.1) (va_runSN (As := as.map (tk_v ad)) (rest := r.map (tk_v ad)) ⟨hC.1, hC.2.1, hC.2.2.2.1, hC.2.2.2.2.1, hts⟩ (hCt l D cy ad A) ⟨cw, hts _ hM.2, trivial⟩ hp rfl ?_ hL.1.1 ?_ ?_ hd ?_) (fun v μ' hv => ?_)
  · rw [List.length_map]; exact hlen
  · show st.map (tk_v ad) = _
    rw [hst, List.map_append, List.map_reverse]
  · refine lv_room ?_
    rw [tk_cat_v]
    exact Nat.le_of_ble_eq_true hct
  · rw [hz.1, hz.2]
    exact ⟨hN.2.2.2.1, hN.2.2.2.2⟩
  · rw [hz.1, hz.2]
    exact hK _ (hk v μ' hv)
end
end
section
/-! constructors, what is made, and the contract out of a walk -/
def tk_z {α : Type} (f : Nat → Nat → α) (p : Nat) (d : α) : Nat → Nat → α := fun a b => if a = p then d else f a b
def tk_d0 (c : Nat) : Value := match c with
  | 0 => .int 0
  | 1 => .null
  | _ => .long 0
def tk_new (t nx mc ms : Nat) : tk_Ac := fun L st μ kc ks K _ => match μ with
  | (σ, ρ, τ, n) => tk_if (Nat.beq (tk_kd (n + 1)).1 t && (tk_fr n L st && (Nat.ble (kc + 1) mc && Nat.ble (ks + tk_nf t) ms))) (K (nx, L, .ref (n + 1) :: st, (tk_z σ (n + 1) 0, tk_z ρ (n + 1) none, tk_z τ (n + 1) 0, n + 1), kc + 1, ks + tk_nf t))
def tk_nwa (t nx mc ms : Nat) : tk_Ac := fun L st μ kc ks K _ => match st, μ with
  | .int z :: r, (σ, ρ, τ, n) => tk_if (Nat.beq (tk_kd (n + 1)).1 t && (Nat.beq (tk_kd (n + 1)).2 z.toNatClampNeg && (decide (¬ z < 0) && (Nat.ble z.toNatClampNeg 1000 && (tk_fr n L r && (Nat.ble (kc + 1) mc && Nat.ble (ks + z.toNatClampNeg) ms)))))) (K (nx, L, .ref (n + 1) :: r, (tk_z σ (n + 1) 0, tk_z ρ (n + 1) none, tk_z τ (n + 1) 0, n + 1), kc + 1, ks + z.toNatClampNeg))
  | _, _ => False
section
variable {sc : Option (Nat × (Nat → Int32))} {M M' : tk_Md} {pc nx n : Nat}
theorem so_ci {idx mc ms : Nat} (hd : decode M.2.1 pc = .ok (.invokespecial idx, 3)) (hM : tk_MI M' n) (hlk : Cond.methodLink M.1.cls idx M'.1 ∈ tk_G) (hmc : M.2.2.2.2.cells = mc) (hms : M.2.2.2.2.slots = ms)
    (hrm : M'.2.2.2.2.frames + 1 ≤ M.2.2.2.2.frames ∧ 8 + (M'.2.2.1 + 11) + M'.2.2.2.2.locals ≤ M.2.2.2.2.locals) (hn : pc + 3 = nx) : tk_So sc M pc (tk_ci M' n nx mc ms) := by
  subst hn
  subst hmc
  subst hms
  intro l D cy L st μ kc ks K q hK ha p e s m args below meth cd H locs ad ad0 n0 A ls hC hR hS hA hL hN hX
  unfold tk_ci at ha
  obtain ⟨as, r, hst, hlen, ha⟩ := tk_pop.mp ha
  rw [List.append_nil] at ha
  split at ha
  · rename_i b As
    obtain ⟨hok, ha⟩ := tk_if.mp ha
    obtain ⟨hct, ha⟩ := tk_if.mp ha
    obtain ⟨P, hCt, hk⟩ := ha
    simp only [Bool.and_eq_true, Nat.ble_eq] at hok
    obtain ⟨hfr, hroom⟩ := hok
    have hts := hC.2.2.2.2.2.1
    have cw := callB_of (R := M.2.2.2.2) n hts (tk_gin hM.1.1) (by rw [tk_wsM, hM.2.2.2]) rfl rfl (hts _ hM.1.2.1) (hts _ hlk) hM.1.2.2 hrm
    have hp := tk_pre (as := .ref b :: As) hC.2.2.2.2.2.2.2.2.1 hC.2.2.2.2.2.2.2.2.2 hR hS hA
    refine tk_aft (as := (Value.ref (ad b) :: As.map (tk_v ad)).toArray) (rr := r) (P := P) hC hS hA hL hN hX hroom (Or.inr hfr) (va_runI (As := As.map (tk_v ad)) (rest := r.map (tk_v ad)) ⟨hC.1, hC.2.1, hC.2.2.2.1, hC.2.2.2.2.1, hts⟩ (hCt l D cy ad A) ⟨cw, hM.2.2.1, hts _ hM.2.1⟩ hp rfl ?_ hL.1.1 ?_ ?_ hd hroom) (fun v μ' hv => hK _ (hk v μ' hv))
    · rw [List.length_map]; rw [List.length_cons] at hlen; omega
    · show st.map (tk_v ad) = _
      rw [hst, List.map_append, List.map_reverse, List.map_cons, List.reverse_cons, List.append_assoc]
      rfl
    · refine lv_room ?_
      rw [tk_cat_v]
      exact Nat.le_of_ble_eq_true hct
  · exact ha.elim
theorem so_ciN {idx mc ms : Nat} {host : String} (hd : decode M.2.1 pc = .ok (.invokespecial idx, 3)) (hM : tk_MI M' n) (hlk : Cond.methodLinkNest M.1.cls idx M'.1 host ∈ lw_tbl) (hmc : M.2.2.2.2.cells = mc) (hms : M.2.2.2.2.slots = ms)
    (hrm : M'.2.2.2.2.frames + 1 ≤ M.2.2.2.2.frames ∧ 8 + (M'.2.2.1 + 11) + M'.2.2.2.2.locals ≤ M.2.2.2.2.locals) (hn : pc + 3 = nx) : tk_So sc M pc (tk_ci M' n nx mc ms) := by
  subst hn
  subst hmc
  subst hms
  intro l D cy L st μ kc ks K q hK ha p e s m args below meth cd H locs ad ad0 n0 A ls hC hR hS hA hL hN hX
  unfold tk_ci at ha
  obtain ⟨as, r, hst, hlen, ha⟩ := tk_pop.mp ha
  rw [List.append_nil] at ha
  split at ha
  · rename_i b As
    obtain ⟨hok, ha⟩ := tk_if.mp ha
    obtain ⟨hct, ha⟩ := tk_if.mp ha
    obtain ⟨P, hCt, hk⟩ := ha
    simp only [Bool.and_eq_true, Nat.ble_eq] at hok
    obtain ⟨hfr, hroom⟩ := hok
    have hts := hC.2.2.2.2.2.1
    have cw := va_cnB (R := M.2.2.2.2) n hts (tk_gin hM.1.1) (by rw [tk_wsM, hM.2.2.2]) rfl rfl (hC.2.2.2.2.2.2.2.2.2.1 _ _ _ _ hlk) (hts _ hM.1.2.1) hM.1.2.2 hrm
    have hp := tk_pre (as := .ref b :: As) hC.2.2.2.2.2.2.2.2.1 hC.2.2.2.2.2.2.2.2.2 hR hS hA
    refine tk_aft (as := (Value.ref (ad b) :: As.map (tk_v ad)).toArray) (rr := r) (P := P) hC hS hA hL hN hX hroom (Or.inr hfr) (va_runIN (As := As.map (tk_v ad)) (rest := r.map (tk_v ad)) ⟨hC.1, hC.2.1, hC.2.2.2.1, hC.2.2.2.2.1, hts⟩ (hCt l D cy ad A) ⟨cw, hM.2.2.1, hts _ hM.2.1⟩ hp rfl ?_ hL.1.1 ?_ ?_ hd hroom) (fun v μ' hv => hK _ (hk v μ' hv))
    · rw [List.length_map]; rw [List.length_cons] at hlen; omega
    · show st.map (tk_v ad) = _
      rw [hst, List.map_append, List.map_reverse, List.map_cons, List.reverse_cons, List.append_assoc]
      rfl
    · refine lv_room ?_
      rw [tk_cat_v]
      exact Nat.le_of_ble_eq_true hct
  · exact ha.elim
theorem so_oi {idx : Nat} (hd : decode M.2.1 pc = .ok (.invokespecial idx, 3)) (hlk : Cond.methodLink M.1.cls idx objectInit ∈ tk_G) (h2 : Cond.instanceMethod objectInit ∈ tk_G) (h3 : Cond.code objectInit ⟨#[0xb1]⟩ 1 none ∈ tk_G)
    (hrm : 1 ≤ M.2.2.2.2.frames ∧ 12 ≤ M.2.2.2.2.locals) (hn : pc + 3 = nx) : tk_So sc M pc (tk_oi nx) := by
  subst hn
  intro l D cy L st μ kc ks K q hK ha p e s m args below meth cd H locs ad ad0 n0 A ls hC hR hS hA hL hN hX
  unfold tk_oi at ha
  split at ha
  · have hts := hC.2.2.2.2.2.1
    exact W.objInit hC.1 hC.2.1 hC.2.2.2.2.1 (hts _ hlk) (hts _ h2) (hts _ h3) rfl (by rw [hC.2.2.2.1]; exact hL.1.1) rfl hd hrm.1 hrm.2 (hK _ ha p e s m args below meth cd H locs ad ad0 n0 A ls hC hR hS hA hL hN hX)
  · exact ha.elim
end
/-- what grows: the old cells stay, the new one stands behind them -/
theorem tk_grow {cy : Nat → ClassId} {ad : Nat → Nat} {σ : Nat → Nat → Int32} {ρ : Nat → Nat → Option Nat} {τ : Nat → Nat → Int64} {n a : Nat} {e : va_E} (hρ : ∀ p k r, ρ p k = some r → r ≤ n)
    (he : tk_cell cy (fun i => if i = n + 1 then a else ad i) (tk_z σ (n + 1) 0, tk_z ρ (n + 1) none, tk_z τ (n + 1) 0, n + 1) (n + 1) = e) :
    tk_ws cy ad (σ, ρ, τ, n) ++ [(a, e)] = tk_ws cy (fun i => if i = n + 1 then a else ad i) (tk_z σ (n + 1) 0, tk_z ρ (n + 1) none, tk_z τ (n + 1) 0, n + 1) := by
  unfold tk_ws
  dsimp only
  rw [List.range_succ, List.map_append]
  congr 1
  · apply List.map_congr_left
    intro j hj
    have hj := List.mem_range.mp hj
    have h1 : ∀ p k, p ≠ n + 1 → (tk_z ρ (n + 1) none p k).map (fun i => if i = n + 1 then a else ad i) = (ρ p k).map ad := by
      intro p k hp
      unfold tk_z
      rw [if_neg hp]
      cases hr : ρ p k with
      | none => rfl
      | some r =>
        have := hρ p k r hr
        simp only [Option.map_some]
        rw [if_neg (by omega)]
    have h2 : tk_z σ (n + 1) 0 (j + 1) = σ (j + 1) := funext fun k => if_neg (by omega)
    have h3 : tk_z τ (n + 1) 0 (j + 1) = τ (j + 1) := funext fun k => if_neg (by omega)
    refine Prod.ext ?_ ?_
    · dsimp only
      rw [if_neg (by omega)]
    · unfold tk_cell tk_fv
      dsimp only
      simp only [h2, h3, fun k => h1 (j + 1) k (by omega)]
  · rw [List.map_cons, List.map_nil, he]
    simp
section
variable {sc : Option (Nat × (Nat → Int32))} {M : tk_Md} {pc nx : Nat}
theorem tk_grown {l : Launch} {D : va_G} {cy : Nat → ClassId} {q : tk_Po} {L : List (Option Value)} {r : List Value} {kc ks : Nat} {σ : Nat → Nat → Int32} {ρ : Nat → Nat → Option Nat} {τ : Nat → Nat → Int64} {n a dz : Nat} {e9 : va_E}
    {p : Program} {e : Env} {s : State} {m : MethodId} {args : Array Value} {below : List Frame} {meth : Method} {cd : Code} {locs : List Loc} {ad ad0 : Nat → Nat} {n0 : Nat} {A : Nat → Prop} {ls : Array Slot} {H1 : Heap}
    (hC : tk_C D cy M p s m args meth cd) (hρ : ∀ p k r, ρ p k = some r → r ≤ n) (hA : ∀ x, s.heap.size ≤ x → A x) (hL : tk_L ad L ls M.2.2.1)
    (hN : (∀ i, i ≤ n0 → ad i = ad0 i) ∧ n0 ≤ n ∧ (kc = 0 → ad = ad0) ∧ kc ≤ M.2.2.2.2.cells ∧ ks ≤ M.2.2.2.2.slots)
    (hX : ∀ Ls xs, sc = some (Ls, xs) → va_X (ad 0) Ls xs s s.heap ∧ ad 0 < s.heap.size ∧ ¬ A (ad 0))
    (hf : tk_fr n L r = true) (hc : kc + 1 ≤ M.2.2.2.2.cells) (hs : ks + dz ≤ M.2.2.2.2.slots)
    (he : tk_cell cy (fun i => if i = n + 1 then a else ad i) (tk_z σ (n + 1) 0, tk_z ρ (n + 1) none, tk_z τ (n + 1) 0, n + 1) (n + 1) = e9)
    (hP : va_P D vwCl (tk_ws cy ad (σ, ρ, τ, n) ++ [(a, e9)]) H1) (hD : va_D A (tk_ws cy ad (σ, ρ, τ, n) ++ [(a, e9)])) (hS : va_S A s.heap H1 locs)
    (hJ : tk_J l D cy sc M (nx, L, .ref (n + 1) :: r, (tk_z σ (n + 1) 0, tk_z ρ (n + 1) none, tk_z τ (n + 1) 0, n + 1), kc + 1, ks + dz) q) :
    W p l e M.2.2.2.2 s m args below meth cd H1 locs (kc + 1) (ks + dz) (MQ below (tk_Q D cy M.2.2.2.2 ad0 n0 A q) args s M.2.2.2.2.cells M.2.2.2.2.slots A) (F0 m nx ls (.ref a :: r.map (tk_v ad))) := by
  have had : ∀ i, i ≤ n → (fun i => if i = n + 1 then a else ad i) i = ad i := fun i hi => if_neg (by omega)
  rw [tk_grow hρ he] at hP hD
  simp only [tk_fr, Bool.and_eq_true] at hf
  have hW := hJ p e s m args below meth cd H1 locs (fun i => if i = n + 1 then a else ad i) ad0 n0 A ls hC ⟨hP, hD, fun x k r hr => ?_⟩ hS hA (tk_L_fr hL hf.2 had) ⟨fun i hi => (had i (Nat.le_trans hi hN.2.1)).trans (hN.1 i hi), Nat.le_trans hN.2.1 (Nat.le_succ n), fun h => absurd h (Nat.succ_ne_zero kc), hc, hs⟩ (by rw [show (if 0 = n + 1 then a else ad 0) = ad 0 from had 0 (Nat.zero_le _)]; exact hX)
  · have e1 : (Value.ref (n + 1) :: r).map (tk_v (fun i => if i = n + 1 then a else ad i)) = .ref a :: r.map (tk_v ad) := by
      rw [List.map_cons, tk_vs_fr hf.1 had]
      congr 1
      simp [tk_v]
    rw [← e1]
    exact hW
  · have hr : tk_z ρ (n + 1) none x k = some r := hr
    unfold tk_z at hr
    split at hr
    · cases hr
    · exact Nat.le_succ_of_le (hρ x k r hr)
theorem so_new {t idx mc ms : Nat} {C : String} {T : u_T} {N : Nat} (hd : decode M.2.1 pc = .ok (.new idx, 3)) (ht : t < 8) (hc : vwCl[t]? = some (C, T, N)) (hnf : tk_nf t = N) (hin : ∀ w ∈ u_ws C T N, w ∈ tk_G) (ty : Nat → FieldType) (hty : ∀ k, k < N → parseFieldDescriptor (T k).2.2.1 = some (ty k))
    (hcl : Cond.classLink M.1.cls idx C ∈ tk_G) (hinst : Cond.instantiable C N ∈ tk_G) (hini : Cond.initialized C ∈ tk_G) (hdef : ∀ j, j < N → defaultValue (ty j) = tk_d0 (tk_ft t j))
    (hmc : M.2.2.2.2.cells = mc) (hms : M.2.2.2.2.slots = ms) (hn : pc + 3 = nx) : tk_So sc M pc (tk_new t nx mc ms) := by
  subst hn
  subst hmc
  subst hms
  subst hnf
  intro l D cy L st μ kc ks K q hK ha p e s m args below meth cd H locs ad ad0 n0 A ls hC hR hS hA hL hN hX
  obtain ⟨σ, ρ, τ, n⟩ := μ
  unfold tk_new at ha
  dsimp only at ha
  obtain ⟨hok, ha⟩ := tk_if.mp ha
  simp only [Bool.and_eq_true, Nat.ble_eq, Nat.beq_eq_true_eq] at hok
  obtain ⟨hkd, hfr, hroom⟩ := hok
  have hkd := Nat.eq_of_beq_eq_true hkd
  have hts := hC.2.2.2.2.2.1
  refine va_new (fs := (List.range (tk_nf t)).map (fun k => tk_d0 (tk_ft t k))) hC.1 hC.2.1 hts hin ty hty hC.2.2.2.2.1 (hts _ hcl) (hts _ hinst) (hts _ hini) hC.2.2.2.2.2.2.2.2.1 hR.1 hR.2.1 hS hA hc ?_ hroom.1 hroom.2 hd (fun a H1 hP hD hS1 => ?_)
  · intro j hj
    rw [hdef j hj]
    unfold vp_V
    rw [List.getD_eq_getElem?_getD, List.getElem?_map, List.getElem?_range hj]
    rfl
  · refine tk_grown hC hR.2.2 hA hL hN hX hfr hroom.1 hroom.2 ?_ hP hD hS1 (hK _ ha)
    rw [tk_cell_obj hkd ht]
    refine congrArg (fun z => Sum.inr (t, z)) (List.map_congr_left fun k _ => ?_)
    unfold tk_fv tk_z
    simp only [if_true]
    generalize tk_ft t k = c
    match c with
    | 0 => rfl
    | 1 => rfl
    | _ + 2 => rfl
theorem so_nwI {mc ms : Nat} {aty : ArrayType} (hd : decode M.2.1 pc = .ok (.newarray aty, 2)) (hat : newarray.typeOf aty = .int) (harr : Cond.arrayClass .int ∈ tk_G) (hmc : M.2.2.2.2.cells = mc) (hms : M.2.2.2.2.slots = ms) (hn : pc + 2 = nx) : tk_So sc M pc (tk_nwa 9 nx mc ms) := by
  subst hn
  subst hmc
  subst hms
  intro l D cy L st μ kc ks K q hK ha p e s m args below meth cd H locs ad ad0 n0 A ls hC hR hS hA hL hN hX
  unfold tk_nwa at ha
  split at ha
  · rename_i z r σ ρ τ n
    obtain ⟨hok, ha⟩ := tk_if.mp ha
    simp only [Bool.and_eq_true, Nat.ble_eq, Nat.beq_eq_true_eq, decide_eq_true_eq] at hok
    obtain ⟨hkd, hz, hz0, hz1, hfr, hroom⟩ := hok
    have hkd := Nat.eq_of_beq_eq_true hkd
    have hz := Nat.eq_of_beq_eq_true hz
    have hts := hC.2.2.2.2.2.1
    have hK0 := hC.2.2.2.2.2.2.2.2.1
    refine va_newa (a0 := (z.toNatClampNeg, .inl (fun _ => 0))) hC.1 hC.2.1 (by rw [hat]; exact hts _ harr) hat hK0 hR.1 hR.2.1 hS hA (fun cA => vp_cell_i ..) hz0 rfl (by simp only [componentBytes]; omega) hroom.1 hroom.2 hd (fun a cA H1 hK1 hP hD hS1 => ?_)
    have hcA : cA = cy 9 := by
      have h1 := (hK1.2 5 (cA, .int) rfl).2
      have h2 := (hK0.2 1 (cy 9, .int) rfl).2
      exact Option.some.inj (h1.symm.trans h2)
    subst hcA
    refine tk_grown hC hR.2.2 hA hL hN hX hfr hroom.1 hroom.2 ?_ hP hD hS1 (hK _ ha)
    rw [tk_cell_arr hkd (by decide) (by decide), hz]
    refine congrArg (fun f => Sum.inl (cy 9, z.toNatClampNeg, Sum.inl f)) (funext fun k => ?_)
    exact if_pos rfl
  · exact ha.elim
theorem so_nwC {mc ms : Nat} {aty : ArrayType} (hd : decode M.2.1 pc = .ok (.newarray aty, 2)) (hat : newarray.typeOf aty = .char) (harr : Cond.arrayClass .char ∈ tk_G) (hmc : M.2.2.2.2.cells = mc) (hms : M.2.2.2.2.slots = ms) (hn : pc + 2 = nx) : tk_So sc M pc (tk_nwa 8 nx mc ms) := by
  subst hn
  subst hmc
  subst hms
  intro l D cy L st μ kc ks K q hK ha p e s m args below meth cd H locs ad ad0 n0 A ls hC hR hS hA hL hN hX
  unfold tk_nwa at ha
  split at ha
  · rename_i z r σ ρ τ n
    obtain ⟨hok, ha⟩ := tk_if.mp ha
    simp only [Bool.and_eq_true, Nat.ble_eq, Nat.beq_eq_true_eq, decide_eq_true_eq] at hok
    obtain ⟨hkd, hz, hz0, hz1, hfr, hroom⟩ := hok
    have hkd := Nat.eq_of_beq_eq_true hkd
    have hz := Nat.eq_of_beq_eq_true hz
    have hts := hC.2.2.2.2.2.1
    have hK0 := hC.2.2.2.2.2.2.2.2.1
    refine va_newa (a0 := (z.toNatClampNeg, .inl (fun _ => 0))) hC.1 hC.2.1 (by rw [hat]; exact hts _ harr) hat hK0 hR.1 hR.2.1 hS hA (fun cA => vp_cell_i ..) hz0 rfl (by simp only [componentBytes]; omega) hroom.1 hroom.2 hd (fun a cA H1 hK1 hP hD hS1 => ?_)
    have hcA : cA = cy 8 := by
      have h1 := (hK1.2 5 (cA, .char) rfl).2
      have h2 := (hK0.2 0 (cy 8, .char) rfl).2
      exact Option.some.inj (h1.symm.trans h2)
    subst hcA
    refine tk_grown hC hR.2.2 hA hL hN hX hfr hroom.1 hroom.2 ?_ hP hD hS1 (hK _ ha)
    rw [tk_cell_arr hkd (by decide) (by decide), hz]
    refine congrArg (fun f => Sum.inl (cy 8, z.toNatClampNeg, Sum.inl f)) (funext fun k => ?_)
    exact if_pos rfl
  · exact ha.elim
theorem so_nwZ {mc ms : Nat} {aty : ArrayType} (hd : decode M.2.1 pc = .ok (.newarray aty, 2)) (hat : newarray.typeOf aty = .boolean) (harr : Cond.arrayClass .boolean ∈ tk_G) (hmc : M.2.2.2.2.cells = mc) (hms : M.2.2.2.2.slots = ms) (hn : pc + 2 = nx) : tk_So sc M pc (tk_nwa 10 nx mc ms) := by
  subst hn
  subst hmc
  subst hms
  intro l D cy L st μ kc ks K q hK ha p e s m args below meth cd H locs ad ad0 n0 A ls hC hR hS hA hL hN hX
  unfold tk_nwa at ha
  split at ha
  · rename_i z r σ ρ τ n
    obtain ⟨hok, ha⟩ := tk_if.mp ha
    simp only [Bool.and_eq_true, Nat.ble_eq, Nat.beq_eq_true_eq, decide_eq_true_eq] at hok
    obtain ⟨hkd, hz, hz0, hz1, hfr, hroom⟩ := hok
    have hkd := Nat.eq_of_beq_eq_true hkd
    have hz := Nat.eq_of_beq_eq_true hz
    have hts := hC.2.2.2.2.2.1
    have hK0 := hC.2.2.2.2.2.2.2.2.1
    refine va_newa (a0 := (z.toNatClampNeg, .inl (fun _ => 0))) hC.1 hC.2.1 (by rw [hat]; exact hts _ harr) hat hK0 hR.1 hR.2.1 hS hA (fun cA => vp_cell_i ..) hz0 rfl (by simp only [componentBytes]; omega) hroom.1 hroom.2 hd (fun a cA H1 hK1 hP hD hS1 => ?_)
    have hcA : cA = cy 10 := by
      have h1 := (hK1.2 5 (cA, .boolean) rfl).2
      have h2 := (hK0.2 2 (cy 10, .boolean) rfl).2
      exact Option.some.inj (h1.symm.trans h2)
    subst hcA
    refine tk_grown hC hR.2.2 hA hL hN hX hfr hroom.1 hroom.2 ?_ hP hD hS1 (hK _ ha)
    rw [tk_cell_arr hkd (by decide) (by decide), hz]
    refine congrArg (fun f => Sum.inl (cy 10, z.toNatClampNeg, Sum.inl f)) (funext fun k => ?_)
    exact if_pos rfl
  · exact ha.elim
theorem so_nwT {idx mc ms : Nat} (hd : decode M.2.1 pc = .ok (.anewarray idx, 3)) (hcl : Cond.classLink M.1.cls idx RX4 ∈ tk_G) (hmc : M.2.2.2.2.cells = mc) (hms : M.2.2.2.2.slots = ms) (hn : pc + 3 = nx) : tk_So sc M pc (tk_nwa 11 nx mc ms) := by
  subst hn
  subst hmc
  subst hms
  intro l D cy L st μ kc ks K q hK ha p e s m args below meth cd H locs ad ad0 n0 A ls hC hR hS hA hL hN hX
  unfold tk_nwa at ha
  split at ha
  · rename_i z r σ ρ τ n
    obtain ⟨hok, ha⟩ := tk_if.mp ha
    simp only [Bool.and_eq_true, Nat.ble_eq, Nat.beq_eq_true_eq, decide_eq_true_eq] at hok
    obtain ⟨hkd, hz, hz0, hz1, hfr, hroom⟩ := hok
    have hkd := Nat.eq_of_beq_eq_true hkd
    have hz := Nat.eq_of_beq_eq_true hz
    have hts := hC.2.2.2.2.2.1
    have hK0 := hC.2.2.2.2.2.2.2.2.1
    refine va_newq hC.1 hC.2.1 hC.2.2.2.2.1 (hts _ hcl) hC.2.2.2.2.2.2.2.2.2.2.1 hK0 hR.1 hR.2.1 hS hA hz0 rfl (by omega) hroom.1 hroom.2 hd (fun a cA H1 hK1 hP hD hS1 => ?_)
    have hcA : cA = cy 11 := by
      obtain ⟨_, _, _, _, _, h1⟩ := (hK1.2 5 (cA, .object RX4) rfl).2
      obtain ⟨_, _, _, _, _, h2⟩ := (hK0.2 3 (cy 11, .object RX4) rfl).2
      exact Option.some.inj (h1.symm.trans h2)
    subst hcA
    refine tk_grown hC hR.2.2 hA hL hN hX hfr hroom.1 hroom.2 ?_ hP hD hS1 (hK _ ha)
    rw [tk_cell_arq hkd (by decide), hz]
    refine congrArg (fun f => Sum.inl (cy 11, z.toNatClampNeg, Sum.inr (Sum.inr (Sum.inr (Sum.inr f))))) (funext fun k => ?_)
    simp [tk_z]
  · exact ha.elim
end
/-- a contract out of a walk from the entry -/
theorem tk_bod {M : tk_Md} {as : List Value} {μ : tk_Me} {P : tk_Po} (hc : as.all (fun v => v.category == 1) = true) (hl : as.length ≤ M.2.2.1)
    (h : ∀ l D cy, tk_J l D cy none M (0, as.map some ++ List.replicate (M.2.2.1 - as.length) none, [], μ, 0, 0) P) (l : Launch) (D : va_G) (cy : Nat → ClassId) (ad : Nat → Nat) (A : Nat → Prop) :
    ∀ p e s m args below meth c s₁, BodyLoose p l M.1 (headSpec (tk_wsM M) M.2.2.2.2) M.2.1 M.2.2.1 M.2.2.2.1 e s m args below meth c s₁ → c.maxLocals = M.2.2.1 →
      (args = (as.map (tk_v ad)).toArray ∧ (∀ x, s.heap.size ≤ x → A x) ∧ va_K D vwCl (tk_tys cy) s ∧ tk_N s ∧ tk_R D cy A ad μ s.heap) →
      W p l e (headSpec (tk_wsM M) M.2.2.2.2).room s m args below meth c s.heap [] 0 0 (MQ below (tk_Q D cy M.2.2.2.2 ad μ.2.2.2 A P) args s M.2.2.2.2.cells M.2.2.2.2.slots A) (entryFrame m args M.2.2.1) := by
  intro p e s m args below meth c s₁ B hml hv
  obtain ⟨rfl, hA, hK, hN, hR⟩ := hv
  have hts0 := atoms_spec (ws := tk_wsM M) B.pre
  have hts : ∀ w ∈ tk_G, w.before (as.map (tk_v ad)).toArray s = true := fun w hw => hts0 w (List.mem_cons_of_mem _ hw)
  have hcat : ∀ v ∈ as, v.category = 1 := fun v hv => by
    have := List.all_eq_true.mp hc v hv
    simpa using this
  have hargs : ∀ (vs : List Value) (i : Nat), (∀ v ∈ vs, v.category = 1) → lv_args i (vs.map (tk_v ad)) = (List.range vs.length).filterMap (fun j => (vs[j]?).map (fun v => (i + j, tk_v ad v))) ∧ (lg_sl (vs.map (tk_v ad))).length = vs.length := by
    intro vs
    induction vs with
    | nil => intro i _; exact ⟨rfl, rfl⟩
    | cons v vs ih =>
      intro i hv
      have h1 : v.category = 1 := hv v List.mem_cons_self
      obtain ⟨g1, g2⟩ := ih (i + 1) (fun w hw => hv w (List.mem_cons_of_mem _ hw))
      have h2 : (tk_v ad v).category = 1 := by rw [tk_v_cat]; exact h1
      refine ⟨?_, ?_⟩
      · rw [List.map_cons]
        unfold lv_args
        rw [if_neg (by rw [h2]; decide), g1, List.length_cons, List.range_succ_eq_map, List.filterMap_cons]
        simp only [List.getElem?_cons_zero, Option.map_some, Nat.add_zero, List.filterMap_map]
        congr 1
        congr 1
        funext j
        simp only [Function.comp, Nat.succ_eq_add_one, List.getElem?_cons_succ]
        rw [show i + 1 + j = i + (j + 1) by omega]
      · unfold lg_sl at g2 ⊢
        rw [List.map_cons, List.flatMap_cons, List.length_append, if_neg (by rw [h2]; decide), g2, List.length_cons, List.length_cons, List.length_nil]
        omega
  have hlen : (lg_sl (as.map (tk_v ad))).length ≤ M.2.2.1 := by rw [(hargs as 0 hcat).2]; exact hl
  have hl0 := lv_entry (as.map (tk_v ad)) (n := M.2.2.1) hlen
  rw [lg_entry_eq]
  generalize (lg_sl (as.map (tk_v ad)) ++ List.replicate (M.2.2.1 - (lg_sl (as.map (tk_v ad))).length) Slot.unset).toArray = ls at hl0 ⊢
  refine h l D cy p e s m (as.map (tk_v ad)).toArray below meth c s.heap [] ad ad μ.2.2.2 A ls ⟨B.exec, B.bytes, B.returns, hml, findClass_of_methodNamed B.named, hts, B.notSynchronized, (name_of_methodNamed B.named B.method).1, hK, hN⟩ hR va_S.rf hA ?_ ⟨fun _ _ => rfl, Nat.le_refl _, fun _ => rfl, Nat.zero_le _, Nat.zero_le _⟩ (fun _ _ h => by cases h)
  refine ⟨⟨hl0.1, hl0.2.1, fun q hq => ?_⟩, ?_, fun i v hv => ?_⟩
  · obtain ⟨j, w⟩ := q
    obtain ⟨v, hv, rfl⟩ := tk_lv_mem.mp hq
    have hj : (as.map some ++ List.replicate (M.2.2.1 - as.length) none)[j]? = some (some v) := hv
    refine hl0.2.2 _ ?_
    rw [(hargs as 0 hcat).1]
    by_cases hjl : j < as.length
    · rw [List.getElem?_append_left (by rw [List.length_map]; exact hjl), List.getElem?_map] at hj
      cases hx : as[j]? with
      | none => rw [hx] at hj; cases hj
      | some x =>
        rw [hx] at hj
        cases hj
        refine List.mem_filterMap.mpr ⟨j, List.mem_range.mpr hjl, ?_⟩
        rw [hx]
        simp
    · rw [List.getElem?_append_right (by rw [List.length_map]; omega)] at hj
      have := List.eq_of_mem_replicate (List.mem_of_getElem? hj)
      cases this
  · show (as.map some ++ List.replicate (M.2.2.1 - as.length) none).length = _
    rw [List.length_append, List.length_map, List.length_replicate]
    omega
  · have hj : (as.map some ++ List.replicate (M.2.2.1 - as.length) none)[i]? = some (some v) := hv
    have hm := List.mem_of_getElem? hj
    rcases List.mem_append.mp hm with h | h
    · obtain ⟨x, hx, hxv⟩ := List.mem_map.mp h
      cases hxv
      exact hcat _ hx
    · have := List.eq_of_mem_replicate h
      cases this
theorem tk_ct {M : tk_Md} {as : List Value} {μ : tk_Me} {P : tk_Po} (hy : plainName M.1.cls = true) (hc : as.all (fun v => v.category == 1) = true) (hl : as.length ≤ M.2.2.1)
    (h : ∀ l D cy, tk_J l D cy none M (0, as.map some ++ List.replicate (M.2.2.1 - as.length) none, [], μ, 0, 0) P) : tk_Ct M as μ P := by
  intro l D cy ad A
  exact Met.ofW (cc := M.2.1) (maxL := M.2.2.1) (ret := M.2.2.2.1) hy rfl (tk_bod hc hl h l D cy ad A)
theorem tk_ctF {M : tk_Md} {as : List Value} {μ : tk_Me} {P : tk_Po} (hy : plainFor M.1 = true) (hc : as.all (fun v => v.category == 1) = true) (hl : as.length ≤ M.2.2.1)
    (h : ∀ l D cy, tk_J l D cy none M (0, as.map some ++ List.replicate (M.2.2.1 - as.length) none, [], μ, 0, 0) P) : tk_Ct M as μ P := by
  intro l D cy ad A
  exact va_MetF (cc := M.2.1) (maxL := M.2.2.1) (ret := M.2.2.2.1) hy rfl (tk_bod hc hl h l D cy ad A)
end
