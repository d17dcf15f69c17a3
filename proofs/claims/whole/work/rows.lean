section
-- ===== PART A: goes FIRST, ahead of the names: the tables' words, and 'selects' of the private methods out of them =====
/-- a private method of a class that the tables say can be made, by its rows of tables_1 -/
def lw_okq (q : MethodName × Nat) : Prop := (q.1.cls ≠ "java/lang/invoke/MethodHandle" ∧ q.1.cls ≠ "java/lang/invoke/VarHandle") ∧ Cond.instantiable q.1.cls q.2 ∈ tables_1 ∧ Cond.privateMethod q.1 ∈ tables_1 ∧ Cond.instanceMethod q.1 ∈ tables_1
theorem lw_p0 : lw_okq (⟨"TwoKerbs$Text", "readToken", "()V"⟩, 7) := ⟨⟨by decide +kernel, by decide +kernel⟩, List.mem_of_getElem? (i := 20) (by decide +kernel), List.mem_of_getElem? (i := 261) (by decide +kernel), List.mem_of_getElem? (i := 262) (by decide +kernel)⟩
theorem lw_p1 : lw_okq (⟨"TwoKerbs$Text", "readDigits", "()I"⟩, 7) := ⟨⟨by decide +kernel, by decide +kernel⟩, List.mem_of_getElem? (i := 20) (by decide +kernel), List.mem_of_getElem? (i := 268) (by decide +kernel), List.mem_of_getElem? (i := 269) (by decide +kernel)⟩
theorem lw_p2 : lw_okq (⟨"TwoKerbs$Text", "readItem", "(LTwoKerbs$Towns;)Z"⟩, 7) := ⟨⟨by decide +kernel, by decide +kernel⟩, List.mem_of_getElem? (i := 20) (by decide +kernel), List.mem_of_getElem? (i := 272) (by decide +kernel), List.mem_of_getElem? (i := 273) (by decide +kernel)⟩
theorem lw_p3 : lw_okq (⟨"TwoKerbs$Text", "readLevel", "(LTwoKerbs$Towns;)Z"⟩, 7) := ⟨⟨by decide +kernel, by decide +kernel⟩, List.mem_of_getElem? (i := 20) (by decide +kernel), List.mem_of_getElem? (i := 276) (by decide +kernel), List.mem_of_getElem? (i := 277) (by decide +kernel)⟩
theorem lw_p4 : lw_okq (⟨"TwoKerbs$Text", "readNumber", "(II)Z"⟩, 7) := ⟨⟨by decide +kernel, by decide +kernel⟩, List.mem_of_getElem? (i := 20) (by decide +kernel), List.mem_of_getElem? (i := 280) (by decide +kernel), List.mem_of_getElem? (i := 281) (by decide +kernel)⟩
theorem lw_p5 : lw_okq (⟨"TwoKerbs$Text", "readItemEnd", "()Z"⟩, 7) := ⟨⟨by decide +kernel, by decide +kernel⟩, List.mem_of_getElem? (i := 20) (by decide +kernel), List.mem_of_getElem? (i := 286) (by decide +kernel), List.mem_of_getElem? (i := 287) (by decide +kernel)⟩
theorem lw_p6 : lw_okq (⟨"TwoKerbs$Text", "readKerb", "(LTwoKerbs$Towns;)Z"⟩, 7) := ⟨⟨by decide +kernel, by decide +kernel⟩, List.mem_of_getElem? (i := 20) (by decide +kernel), List.mem_of_getElem? (i := 294) (by decide +kernel), List.mem_of_getElem? (i := 295) (by decide +kernel)⟩
theorem lw_p7 : lw_okq (⟨"TwoKerbs$Text", "readDrain", "(LTwoKerbs$Towns;)Z"⟩, 7) := ⟨⟨by decide +kernel, by decide +kernel⟩, List.mem_of_getElem? (i := 20) (by decide +kernel), List.mem_of_getElem? (i := 303) (by decide +kernel), List.mem_of_getElem? (i := 304) (by decide +kernel)⟩
theorem lw_p8 : lw_okq (⟨"TwoKerbs$Text", "readThing", "(LTwoKerbs$Towns;)Z"⟩, 7) := ⟨⟨by decide +kernel, by decide +kernel⟩, List.mem_of_getElem? (i := 20) (by decide +kernel), List.mem_of_getElem? (i := 311) (by decide +kernel), List.mem_of_getElem? (i := 312) (by decide +kernel)⟩
theorem lw_p9 : lw_okq (⟨"TwoKerbs", "firstTideOn", "(LTwoKerbs$Thing;I)I"⟩, 12) := ⟨⟨by decide +kernel, by decide +kernel⟩, List.mem_of_getElem? (i := 12) (by decide +kernel), List.mem_of_getElem? (i := 473) (by decide +kernel), List.mem_of_getElem? (i := 474) (by decide +kernel)⟩
theorem lw_p10 : lw_okq (⟨"TwoKerbs", "passSomeWeak", "(LTwoKerbs$Thing;II)V"⟩, 12) := ⟨⟨by decide +kernel, by decide +kernel⟩, List.mem_of_getElem? (i := 12) (by decide +kernel), List.mem_of_getElem? (i := 500) (by decide +kernel), List.mem_of_getElem? (i := 501) (by decide +kernel)⟩
theorem lw_p11 : lw_okq (⟨"TwoKerbs", "canHaveBegunOn", "(I)Z"⟩, 12) := ⟨⟨by decide +kernel, by decide +kernel⟩, List.mem_of_getElem? (i := 12) (by decide +kernel), List.mem_of_getElem? (i := 529) (by decide +kernel), List.mem_of_getElem? (i := 530) (by decide +kernel)⟩
theorem lw_p12 : lw_okq (⟨"TwoKerbs", "isLaw", "(II)Z"⟩, 12) := ⟨⟨by decide +kernel, by decide +kernel⟩, List.mem_of_getElem? (i := 12) (by decide +kernel), List.mem_of_getElem? (i := 541) (by decide +kernel), List.mem_of_getElem? (i := 542) (by decide +kernel)⟩
theorem lw_p13 : lw_okq (⟨"TwoKerbs", "rateAsKerb", "(I)I"⟩, 12) := ⟨⟨by decide +kernel, by decide +kernel⟩, List.mem_of_getElem? (i := 12) (by decide +kernel), List.mem_of_getElem? (i := 554) (by decide +kernel), List.mem_of_getElem? (i := 555) (by decide +kernel)⟩
theorem lw_p14 : lw_okq (⟨"TwoKerbs", "rateAsBank", "(I)I"⟩, 12) := ⟨⟨by decide +kernel, by decide +kernel⟩, List.mem_of_getElem? (i := 12) (by decide +kernel), List.mem_of_getElem? (i := 558) (by decide +kernel), List.mem_of_getElem? (i := 559) (by decide +kernel)⟩
theorem lw_p15 : lw_okq (⟨"TwoKerbs", "rateAsSteps", "(I)I"⟩, 12) := ⟨⟨by decide +kernel, by decide +kernel⟩, List.mem_of_getElem? (i := 12) (by decide +kernel), List.mem_of_getElem? (i := 563) (by decide +kernel), List.mem_of_getElem? (i := 564) (by decide +kernel)⟩
def lw_privs_1 : List (MethodName × Nat) := [(⟨"TwoKerbs$Text", "readToken", "()V"⟩, 7), (⟨"TwoKerbs$Text", "readDigits", "()I"⟩, 7), (⟨"TwoKerbs$Text", "readItem", "(LTwoKerbs$Towns;)Z"⟩, 7), (⟨"TwoKerbs$Text", "readLevel", "(LTwoKerbs$Towns;)Z"⟩, 7), (⟨"TwoKerbs$Text", "readNumber", "(II)Z"⟩, 7), (⟨"TwoKerbs$Text", "readItemEnd", "()Z"⟩, 7), (⟨"TwoKerbs$Text", "readKerb", "(LTwoKerbs$Towns;)Z"⟩, 7), (⟨"TwoKerbs$Text", "readDrain", "(LTwoKerbs$Towns;)Z"⟩, 7), (⟨"TwoKerbs$Text", "readThing", "(LTwoKerbs$Towns;)Z"⟩, 7), (⟨"TwoKerbs", "firstTideOn", "(LTwoKerbs$Thing;I)I"⟩, 12), (⟨"TwoKerbs", "passSomeWeak", "(LTwoKerbs$Thing;II)V"⟩, 12), (⟨"TwoKerbs", "canHaveBegunOn", "(I)Z"⟩, 12), (⟨"TwoKerbs", "isLaw", "(II)Z"⟩, 12), (⟨"TwoKerbs", "rateAsKerb", "(I)I"⟩, 12), (⟨"TwoKerbs", "rateAsBank", "(I)I"⟩, 12), (⟨"TwoKerbs", "rateAsSteps", "(I)I"⟩, 12)]
theorem lw_r1 : ∀ q ∈ lw_privs_1, lw_okq q := List.forall_mem_cons.mpr ⟨lw_p0, List.forall_mem_cons.mpr ⟨lw_p1, List.forall_mem_cons.mpr ⟨lw_p2, List.forall_mem_cons.mpr ⟨lw_p3, List.forall_mem_cons.mpr ⟨lw_p4, List.forall_mem_cons.mpr ⟨lw_p5, List.forall_mem_cons.mpr ⟨lw_p6, List.forall_mem_cons.mpr ⟨lw_p7, List.forall_mem_cons.mpr ⟨lw_p8, List.forall_mem_cons.mpr ⟨lw_p9, List.forall_mem_cons.mpr ⟨lw_p10, List.forall_mem_cons.mpr ⟨lw_p11, List.forall_mem_cons.mpr ⟨lw_p12, List.forall_mem_cons.mpr ⟨lw_p13, List.forall_mem_cons.mpr ⟨lw_p14, List.forall_mem_cons.mpr ⟨lw_p15, fun _ h => absurd h List.not_mem_nil⟩⟩⟩⟩⟩⟩⟩⟩⟩⟩⟩⟩⟩⟩⟩⟩
theorem lw_p16 : lw_okq (⟨"TwoKerbs", "rateAsChurch", "(I)I"⟩, 12) := ⟨⟨by decide +kernel, by decide +kernel⟩, List.mem_of_getElem? (i := 12) (by decide +kernel), List.mem_of_getElem? (i := 568) (by decide +kernel), List.mem_of_getElem? (i := 569) (by decide +kernel)⟩
theorem lw_p17 : lw_okq (⟨"TwoKerbs", "rateAsButcher", "(I)I"⟩, 12) := ⟨⟨by decide +kernel, by decide +kernel⟩, List.mem_of_getElem? (i := 12) (by decide +kernel), List.mem_of_getElem? (i := 573) (by decide +kernel), List.mem_of_getElem? (i := 574) (by decide +kernel)⟩
theorem lw_p18 : lw_okq (⟨"TwoKerbs", "rateAsRing", "(I)I"⟩, 12) := ⟨⟨by decide +kernel, by decide +kernel⟩, List.mem_of_getElem? (i := 12) (by decide +kernel), List.mem_of_getElem? (i := 578) (by decide +kernel), List.mem_of_getElem? (i := 579) (by decide +kernel)⟩
theorem lw_p19 : lw_okq (⟨"TwoKerbsModel", "begins", "()V"⟩, 29) := ⟨⟨by decide +kernel, by decide +kernel⟩, List.mem_of_getElem? (i := 599) (by decide +kernel), List.mem_of_getElem? (i := 605) (by decide +kernel), List.mem_of_getElem? (i := 606) (by decide +kernel)⟩
theorem lw_p20 : lw_okq (⟨"TwoKerbsModel", "settles", "()V"⟩, 29) := ⟨⟨by decide +kernel, by decide +kernel⟩, List.mem_of_getElem? (i := 599) (by decide +kernel), List.mem_of_getElem? (i := 609) (by decide +kernel), List.mem_of_getElem? (i := 610) (by decide +kernel)⟩
theorem lw_p21 : lw_okq (⟨"TwoKerbsModel", "advances", "()V"⟩, 29) := ⟨⟨by decide +kernel, by decide +kernel⟩, List.mem_of_getElem? (i := 599) (by decide +kernel), List.mem_of_getElem? (i := 716) (by decide +kernel), List.mem_of_getElem? (i := 717) (by decide +kernel)⟩
theorem lw_p22 : lw_okq (⟨"TwoKerbsModel", "letterAt", "(I)I"⟩, 29) := ⟨⟨by decide +kernel, by decide +kernel⟩, List.mem_of_getElem? (i := 599) (by decide +kernel), List.mem_of_getElem? (i := 720) (by decide +kernel), List.mem_of_getElem? (i := 721) (by decide +kernel)⟩
theorem lw_p23 : lw_okq (⟨"TwoKerbsModel", "isWell", "()Z"⟩, 29) := ⟨⟨by decide +kernel, by decide +kernel⟩, List.mem_of_getElem? (i := 599) (by decide +kernel), List.mem_of_getElem? (i := 724) (by decide +kernel), List.mem_of_getElem? (i := 725) (by decide +kernel)⟩
theorem lw_p24 : lw_okq (⟨"TwoKerbsModel", "mayBegin", "()Z"⟩, 29) := ⟨⟨by decide +kernel, by decide +kernel⟩, List.mem_of_getElem? (i := 599) (by decide +kernel), List.mem_of_getElem? (i := 728) (by decide +kernel), List.mem_of_getElem? (i := 729) (by decide +kernel)⟩
theorem lw_p25 : lw_okq (⟨"TwoKerbsModel", "takes", "(Z)I"⟩, 29) := ⟨⟨by decide +kernel, by decide +kernel⟩, List.mem_of_getElem? (i := 599) (by decide +kernel), List.mem_of_getElem? (i := 732) (by decide +kernel), List.mem_of_getElem? (i := 733) (by decide +kernel)⟩
theorem lw_p26 : lw_okq (⟨"TwoKerbsModel", "readsItem", "(I)V"⟩, 29) := ⟨⟨by decide +kernel, by decide +kernel⟩, List.mem_of_getElem? (i := 599) (by decide +kernel), List.mem_of_getElem? (i := 736) (by decide +kernel), List.mem_of_getElem? (i := 737) (by decide +kernel)⟩
theorem lw_p27 : lw_okq (⟨"TwoKerbsModel", "number", "(II)I"⟩, 29) := ⟨⟨by decide +kernel, by decide +kernel⟩, List.mem_of_getElem? (i := 599) (by decide +kernel), List.mem_of_getElem? (i := 740) (by decide +kernel), List.mem_of_getElem? (i := 741) (by decide +kernel)⟩
theorem lw_p28 : lw_okq (⟨"TwoKerbsModel", "isKerb", "(I)Z"⟩, 29) := ⟨⟨by decide +kernel, by decide +kernel⟩, List.mem_of_getElem? (i := 599) (by decide +kernel), List.mem_of_getElem? (i := 748) (by decide +kernel), List.mem_of_getElem? (i := 749) (by decide +kernel)⟩
theorem lw_p29 : lw_okq (⟨"TwoKerbsModel", "thingsOn", "(I)I"⟩, 29) := ⟨⟨by decide +kernel, by decide +kernel⟩, List.mem_of_getElem? (i := 599) (by decide +kernel), List.mem_of_getElem? (i := 752) (by decide +kernel), List.mem_of_getElem? (i := 753) (by decide +kernel)⟩
theorem lw_p30 : lw_okq (⟨"TwoKerbsModel", "isThing", "(I)Z"⟩, 29) := ⟨⟨by decide +kernel, by decide +kernel⟩, List.mem_of_getElem? (i := 599) (by decide +kernel), List.mem_of_getElem? (i := 760) (by decide +kernel), List.mem_of_getElem? (i := 761) (by decide +kernel)⟩
theorem lw_p31 : lw_okq (⟨"TwoKerbsModel", "levelOf", "(I)I"⟩, 29) := ⟨⟨by decide +kernel, by decide +kernel⟩, List.mem_of_getElem? (i := 599) (by decide +kernel), List.mem_of_getElem? (i := 768) (by decide +kernel), List.mem_of_getElem? (i := 769) (by decide +kernel)⟩
def lw_privs_2 : List (MethodName × Nat) := [(⟨"TwoKerbs", "rateAsChurch", "(I)I"⟩, 12), (⟨"TwoKerbs", "rateAsButcher", "(I)I"⟩, 12), (⟨"TwoKerbs", "rateAsRing", "(I)I"⟩, 12), (⟨"TwoKerbsModel", "begins", "()V"⟩, 29), (⟨"TwoKerbsModel", "settles", "()V"⟩, 29), (⟨"TwoKerbsModel", "advances", "()V"⟩, 29), (⟨"TwoKerbsModel", "letterAt", "(I)I"⟩, 29), (⟨"TwoKerbsModel", "isWell", "()Z"⟩, 29), (⟨"TwoKerbsModel", "mayBegin", "()Z"⟩, 29), (⟨"TwoKerbsModel", "takes", "(Z)I"⟩, 29), (⟨"TwoKerbsModel", "readsItem", "(I)V"⟩, 29), (⟨"TwoKerbsModel", "number", "(II)I"⟩, 29), (⟨"TwoKerbsModel", "isKerb", "(I)Z"⟩, 29), (⟨"TwoKerbsModel", "thingsOn", "(I)I"⟩, 29), (⟨"TwoKerbsModel", "isThing", "(I)Z"⟩, 29), (⟨"TwoKerbsModel", "levelOf", "(I)I"⟩, 29)]
theorem lw_r2 : ∀ q ∈ lw_privs_2, lw_okq q := List.forall_mem_cons.mpr ⟨lw_p16, List.forall_mem_cons.mpr ⟨lw_p17, List.forall_mem_cons.mpr ⟨lw_p18, List.forall_mem_cons.mpr ⟨lw_p19, List.forall_mem_cons.mpr ⟨lw_p20, List.forall_mem_cons.mpr ⟨lw_p21, List.forall_mem_cons.mpr ⟨lw_p22, List.forall_mem_cons.mpr ⟨lw_p23, List.forall_mem_cons.mpr ⟨lw_p24, List.forall_mem_cons.mpr ⟨lw_p25, List.forall_mem_cons.mpr ⟨lw_p26, List.forall_mem_cons.mpr ⟨lw_p27, List.forall_mem_cons.mpr ⟨lw_p28, List.forall_mem_cons.mpr ⟨lw_p29, List.forall_mem_cons.mpr ⟨lw_p30, List.forall_mem_cons.mpr ⟨lw_p31, fun _ h => absurd h List.not_mem_nil⟩⟩⟩⟩⟩⟩⟩⟩⟩⟩⟩⟩⟩⟩⟩⟩
theorem lw_p32 : lw_okq (⟨"TwoKerbsModel", "floodIn", "(I)I"⟩, 29) := ⟨⟨by decide +kernel, by decide +kernel⟩, List.mem_of_getElem? (i := 599) (by decide +kernel), List.mem_of_getElem? (i := 772) (by decide +kernel), List.mem_of_getElem? (i := 773) (by decide +kernel)⟩
theorem lw_p33 : lw_okq (⟨"TwoKerbsModel", "notes", "()V"⟩, 29) := ⟨⟨by decide +kernel, by decide +kernel⟩, List.mem_of_getElem? (i := 599) (by decide +kernel), List.mem_of_getElem? (i := 780) (by decide +kernel), List.mem_of_getElem? (i := 781) (by decide +kernel)⟩
theorem lw_p34 : lw_okq (⟨"TwoKerbsModel", "takesUp", "(I)V"⟩, 29) := ⟨⟨by decide +kernel, by decide +kernel⟩, List.mem_of_getElem? (i := 599) (by decide +kernel), List.mem_of_getElem? (i := 784) (by decide +kernel), List.mem_of_getElem? (i := 785) (by decide +kernel)⟩
theorem lw_p35 : lw_okq (⟨"TwoKerbsModel", "isTied", "(I)Z"⟩, 29) := ⟨⟨by decide +kernel, by decide +kernel⟩, List.mem_of_getElem? (i := 599) (by decide +kernel), List.mem_of_getElem? (i := 788) (by decide +kernel), List.mem_of_getElem? (i := 789) (by decide +kernel)⟩
theorem lw_p36 : lw_okq (⟨"TwoKerbsModel", "goes", "(I)Z"⟩, 29) := ⟨⟨by decide +kernel, by decide +kernel⟩, List.mem_of_getElem? (i := 599) (by decide +kernel), List.mem_of_getElem? (i := 792) (by decide +kernel), List.mem_of_getElem? (i := 793) (by decide +kernel)⟩
theorem lw_p37 : lw_okq (⟨"TwoKerbsModel", "soon", "(IZ)I"⟩, 29) := ⟨⟨by decide +kernel, by decide +kernel⟩, List.mem_of_getElem? (i := 599) (by decide +kernel), List.mem_of_getElem? (i := 832) (by decide +kernel), List.mem_of_getElem? (i := 833) (by decide +kernel)⟩
theorem lw_p38 : lw_okq (⟨"TwoKerbsModel", "canBegin", "(I)Z"⟩, 29) := ⟨⟨by decide +kernel, by decide +kernel⟩, List.mem_of_getElem? (i := 599) (by decide +kernel), List.mem_of_getElem? (i := 863) (by decide +kernel), List.mem_of_getElem? (i := 864) (by decide +kernel)⟩
def lw_privs_3 : List (MethodName × Nat) := [(⟨"TwoKerbsModel", "floodIn", "(I)I"⟩, 29), (⟨"TwoKerbsModel", "notes", "()V"⟩, 29), (⟨"TwoKerbsModel", "takesUp", "(I)V"⟩, 29), (⟨"TwoKerbsModel", "isTied", "(I)Z"⟩, 29), (⟨"TwoKerbsModel", "goes", "(I)Z"⟩, 29), (⟨"TwoKerbsModel", "soon", "(IZ)I"⟩, 29), (⟨"TwoKerbsModel", "canBegin", "(I)Z"⟩, 29)]
theorem lw_r3 : ∀ q ∈ lw_privs_3, lw_okq q := List.forall_mem_cons.mpr ⟨lw_p32, List.forall_mem_cons.mpr ⟨lw_p33, List.forall_mem_cons.mpr ⟨lw_p34, List.forall_mem_cons.mpr ⟨lw_p35, List.forall_mem_cons.mpr ⟨lw_p36, List.forall_mem_cons.mpr ⟨lw_p37, List.forall_mem_cons.mpr ⟨lw_p38, fun _ h => absurd h List.not_mem_nil⟩⟩⟩⟩⟩⟩⟩
def lw_privs : List (MethodName × Nat) := lw_privs_1 ++ (lw_privs_2 ++ (lw_privs_3))
def lw_tbl : List Cond := k2_sels lw_privs ++ tables_1
theorem lw_privs_ok : ∀ q ∈ lw_privs, lw_okq q := by
  show ∀ q ∈ lw_privs_1 ++ (lw_privs_2 ++ (lw_privs_3)), lw_okq q
  exact List.forall_mem_append.mpr ⟨lw_r1, List.forall_mem_append.mpr ⟨lw_r2, lw_r3⟩⟩
def RX0 : String := "TwoKerbs$Notes"
def TX0 : u_T := fun k => match k with
  | 0 => ("TwoKerbs$Notes", "first", "[I", true)
  | 1 => ("TwoKerbs$Notes", "second", "[I", true)
  | _ => ("TwoKerbs$Notes", "many", "I", false)
def tyX0 : Nat → FieldType := fun k => match k with
  | 0 => .array .int
  | 1 => .array .int
  | _ => .int
abbrev wsX00 : List Cond := u_ws RX0 TX0 3
theorem nmX0 : ∀ a, a < 3 → ∀ b, b < 3 → a ≠ b → (TX0 a).2.1 ≠ (TX0 b).2.1 := by decide +kernel
theorem tyX0_ok : ∀ k, k < 3 → parseFieldDescriptor (TX0 k).2.2.1 = some (tyX0 k) := by decide +kernel
abbrev cX0_init : ByteArray := prog_2_method_1_code
def yX0_init : MethodName := ⟨RX0, "<init>", "()V"⟩
abbrev cX0_add : ByteArray := prog_2_method_2_code
def yX0_add : MethodName := ⟨RX0, "add", "(II)I"⟩
abbrev cX0_lose : ByteArray := prog_2_method_3_code
def yX0_lose : MethodName := ⟨RX0, "lose", "()I"⟩
def RX1 : String := "TwoKerbs$Now"
def TX1 : u_T := fun k => match k with
  | 0 => ("TwoKerbs$Now", "tide", "I", false)
  | 1 => ("TwoKerbs$Now", "drifts", "I", false)
  | _ => ("TwoKerbs$Now", "things", "[LTwoKerbs$Thing;", true)
def tyX1 : Nat → FieldType := fun k => match k with
  | 0 => .int
  | 1 => .int
  | _ => .array (.object "TwoKerbs$Thing")
abbrev wsX10 : List Cond := u_ws RX1 TX1 3
theorem nmX1 : ∀ a, a < 3 → ∀ b, b < 3 → a ≠ b → (TX1 a).2.1 ≠ (TX1 b).2.1 := by decide +kernel
theorem tyX1_ok : ∀ k, k < 3 → parseFieldDescriptor (TX1 k).2.2.1 = some (tyX1 k) := by decide +kernel
abbrev cX1_init : ByteArray := prog_3_method_1_code
def yX1_init : MethodName := ⟨RX1, "<init>", "()V"⟩
abbrev cX1_begin : ByteArray := prog_3_method_2_code
def yX1_begin : MethodName := ⟨RX1, "begin", "(LTwoKerbs$Towns;)V"⟩
abbrev cX1_pass : ByteArray := prog_3_method_3_code
def yX1_pass : MethodName := ⟨RX1, "pass", "(LTwoKerbs$Towns;)I"⟩
abbrev cX1_lyingOn : ByteArray := prog_3_method_4_code
def yX1_lyingOn : MethodName := ⟨RX1, "lyingOn", "(II)I"⟩
abbrev cX1_tiedOf : ByteArray := prog_3_method_5_code
def yX1_tiedOf : MethodName := ⟨RX1, "tiedOf", "(I)I"⟩
abbrev cX1_saveTo : ByteArray := prog_3_method_6_code
def yX1_saveTo : MethodName := ⟨RX1, "saveTo", "([I)V"⟩
abbrev cX1_loadFrom : ByteArray := prog_3_method_7_code
def yX1_loadFrom : MethodName := ⟨RX1, "loadFrom", "([I)V"⟩
def RX2 : String := "TwoKerbs$Past"
def TX2 : u_T := fun k => match k with
  | 0 => ("TwoKerbs$Past", "rows", "[[I", true)
  | 1 => ("TwoKerbs$Past", "known", "I", false)
  | _ => ("TwoKerbs$Past", "next", "I", false)
def tyX2 : Nat → FieldType := fun k => match k with
  | 0 => .array (.array .int)
  | 1 => .int
  | _ => .int
abbrev wsX20 : List Cond := u_ws RX2 TX2 3
theorem nmX2 : ∀ a, a < 3 → ∀ b, b < 3 → a ≠ b → (TX2 a).2.1 ≠ (TX2 b).2.1 := by decide +kernel
theorem tyX2_ok : ∀ k, k < 3 → parseFieldDescriptor (TX2 k).2.2.1 = some (tyX2 k) := by decide +kernel
abbrev cX2_init : ByteArray := prog_4_method_1_code
def yX2_init : MethodName := ⟨RX2, "<init>", "()V"⟩
abbrev cX2_nextRow : ByteArray := prog_4_method_2_code
def yX2_nextRow : MethodName := ⟨RX2, "nextRow", "()[I"⟩
abbrev cX2_latestRow : ByteArray := prog_4_method_3_code
def yX2_latestRow : MethodName := ⟨RX2, "latestRow", "()[I"⟩
abbrev cX2_lose : ByteArray := prog_4_method_4_code
def yX2_lose : MethodName := ⟨RX2, "lose", "()V"⟩
def RX3 : String := "TwoKerbs$Text"
def TX3 : u_T := fun k => match k with
  | 0 => ("TwoKerbs$Text", "letters", "[C", true)
  | 1 => ("TwoKerbs$Text", "length", "I", false)
  | 2 => ("TwoKerbs$Text", "place", "I", false)
  | 3 => ("TwoKerbs$Text", "token", "I", false)
  | 4 => ("TwoKerbs$Text", "tokenPlace", "I", false)
  | 5 => ("TwoKerbs$Text", "value", "I", false)
  | _ => ("TwoKerbs$Text", "isLevelTold", "Z", false)
def tyX3 : Nat → FieldType := fun k => match k with
  | 0 => .array .char
  | 1 => .int
  | 2 => .int
  | 3 => .int
  | 4 => .int
  | 5 => .int
  | _ => .boolean
abbrev wsX30 : List Cond := u_ws RX3 TX3 7
theorem nmX3 : ∀ a, a < 7 → ∀ b, b < 7 → a ≠ b → (TX3 a).2.1 ≠ (TX3 b).2.1 := by decide +kernel
theorem tyX3_ok : ∀ k, k < 7 → parseFieldDescriptor (TX3 k).2.2.1 = some (tyX3 k) := by decide +kernel
abbrev cX3_init : ByteArray := prog_5_method_1_code
def yX3_init : MethodName := ⟨RX3, "<init>", "()V"⟩
abbrev cX3_add : ByteArray := prog_5_method_2_code
def yX3_add : MethodName := ⟨RX3, "add", "(I)I"⟩
abbrev cX3_empty : ByteArray := prog_5_method_3_code
def yX3_empty : MethodName := ⟨RX3, "empty", "()I"⟩
abbrev cX3_readInto : ByteArray := prog_5_method_4_code
def yX3_readInto : MethodName := ⟨RX3, "readInto", "(LTwoKerbs$Towns;)I"⟩
abbrev cX3_readItem : ByteArray := prog_5_method_5_code
def yX3_readItem : MethodName := ⟨RX3, "readItem", "(LTwoKerbs$Towns;)Z"⟩
abbrev cX3_readLevel : ByteArray := prog_5_method_6_code
def yX3_readLevel : MethodName := ⟨RX3, "readLevel", "(LTwoKerbs$Towns;)Z"⟩
abbrev cX3_readKerb : ByteArray := prog_5_method_7_code
def yX3_readKerb : MethodName := ⟨RX3, "readKerb", "(LTwoKerbs$Towns;)Z"⟩
abbrev cX3_readDrain : ByteArray := prog_5_method_8_code
def yX3_readDrain : MethodName := ⟨RX3, "readDrain", "(LTwoKerbs$Towns;)Z"⟩
abbrev cX3_readThing : ByteArray := prog_5_method_9_code
def yX3_readThing : MethodName := ⟨RX3, "readThing", "(LTwoKerbs$Towns;)Z"⟩
abbrev cX3_readItemEnd : ByteArray := prog_5_method_10_code
def yX3_readItemEnd : MethodName := ⟨RX3, "readItemEnd", "()Z"⟩
abbrev cX3_readNumber : ByteArray := prog_5_method_11_code
def yX3_readNumber : MethodName := ⟨RX3, "readNumber", "(II)Z"⟩
abbrev cX3_readToken : ByteArray := prog_5_method_12_code
def yX3_readToken : MethodName := ⟨RX3, "readToken", "()V"⟩
abbrev cX3_readDigits : ByteArray := prog_5_method_13_code
def yX3_readDigits : MethodName := ⟨RX3, "readDigits", "()I"⟩
abbrev cX3_isDigit : ByteArray := prog_5_method_14_code
def yX3_isDigit : MethodName := ⟨RX3, "isDigit", "(C)Z"⟩
def RX4 : String := "TwoKerbs$Thing"
def TX4 : u_T := fun k => match k with
  | 0 => ("TwoKerbs$Thing", "kerb", "I", false)
  | 1 => ("TwoKerbs$Thing", "left", "I", false)
  | _ => ("TwoKerbs$Thing", "tied", "Z", false)
def tyX4 : Nat → FieldType := fun k => match k with
  | 0 => .int
  | 1 => .int
  | _ => .boolean
abbrev wsX40 : List Cond := u_ws RX4 TX4 3
theorem nmX4 : ∀ a, a < 3 → ∀ b, b < 3 → a ≠ b → (TX4 a).2.1 ≠ (TX4 b).2.1 := by decide +kernel
theorem tyX4_ok : ∀ k, k < 3 → parseFieldDescriptor (TX4 k).2.2.1 = some (tyX4 k) := by decide +kernel
abbrev cX4_init : ByteArray := prog_6_method_1_code
def yX4_init : MethodName := ⟨RX4, "<init>", "()V"⟩
abbrev cX4_lieOn : ByteArray := prog_6_method_2_code
def yX4_lieOn : MethodName := ⟨RX4, "lieOn", "(I)V"⟩
abbrev cX4_becomes : ByteArray := prog_6_method_3_code
def yX4_becomes : MethodName := ⟨RX4, "becomes", "(LTwoKerbs$Thing;)V"⟩
abbrev cX4_lies : ByteArray := prog_6_method_4_code
def yX4_lies : MethodName := ⟨RX4, "lies", "()Z"⟩
abbrev cX4_liesOn : ByteArray := prog_6_method_5_code
def yX4_liesOn : MethodName := ⟨RX4, "liesOn", "(I)Z"⟩
abbrev cX4_isAs : ByteArray := prog_6_method_6_code
def yX4_isAs : MethodName := ⟨RX4, "isAs", "(LTwoKerbs$Thing;)Z"⟩
abbrev cX4_place : ByteArray := prog_6_method_7_code
def yX4_place : MethodName := ⟨RX4, "place", "()I"⟩
abbrev cX4_pass : ByteArray := prog_6_method_8_code
def yX4_pass : MethodName := ⟨RX4, "pass", "(LTwoKerbs$Towns;I)Z"⟩
def RX5 : String := "TwoKerbs$Towns"
def TX5 : u_T := fun k => match k with
  | 0 => ("TwoKerbs$Towns", "modulo", "I", false)
  | 1 => ("TwoKerbs$Towns", "step", "I", false)
  | 2 => ("TwoKerbs$Towns", "offset", "I", false)
  | 3 => ("TwoKerbs$Towns", "kerbs", "I", false)
  | 4 => ("TwoKerbs$Towns", "things", "I", false)
  | 5 => ("TwoKerbs$Towns", "town", "[I", true)
  | 6 => ("TwoKerbs$Towns", "height", "[I", true)
  | 7 => ("TwoKerbs$Towns", "drain", "[I", true)
  | 8 => ("TwoKerbs$Towns", "delay", "[I", true)
  | _ => ("TwoKerbs$Towns", "first", "[I", true)
def tyX5 : Nat → FieldType := fun k => match k with
  | 0 => .int
  | 1 => .int
  | 2 => .int
  | 3 => .int
  | 4 => .int
  | 5 => .array .int
  | 6 => .array .int
  | 7 => .array .int
  | 8 => .array .int
  | _ => .array .int
abbrev wsX50 : List Cond := u_ws RX5 TX5 10
theorem nmX5 : ∀ a, a < 10 → ∀ b, b < 10 → a ≠ b → (TX5 a).2.1 ≠ (TX5 b).2.1 := by decide +kernel
theorem tyX5_ok : ∀ k, k < 10 → parseFieldDescriptor (TX5 k).2.2.1 = some (tyX5 k) := by decide +kernel
abbrev cX5_init : ByteArray := prog_7_method_1_code
def yX5_init : MethodName := ⟨RX5, "<init>", "()V"⟩
abbrev cX5_reset : ByteArray := prog_7_method_2_code
def yX5_reset : MethodName := ⟨RX5, "reset", "()V"⟩
abbrev cX5_setLevel : ByteArray := prog_7_method_3_code
def yX5_setLevel : MethodName := ⟨RX5, "setLevel", "(III)V"⟩
abbrev cX5_hasRoomForKerb : ByteArray := prog_7_method_4_code
def yX5_hasRoomForKerb : MethodName := ⟨RX5, "hasRoomForKerb", "()Z"⟩
abbrev cX5_hasRoomForThing : ByteArray := prog_7_method_5_code
def yX5_hasRoomForThing : MethodName := ⟨RX5, "hasRoomForThing", "()Z"⟩
abbrev cX5_addKerb : ByteArray := prog_7_method_6_code
def yX5_addKerb : MethodName := ⟨RX5, "addKerb", "(II)V"⟩
abbrev cX5_addThing : ByteArray := prog_7_method_7_code
def yX5_addThing : MethodName := ⟨RX5, "addThing", "(I)V"⟩
abbrev cX5_isKerb : ByteArray := prog_7_method_8_code
def yX5_isKerb : MethodName := ⟨RX5, "isKerb", "(I)Z"⟩
abbrev cX5_isThing : ByteArray := prog_7_method_9_code
def yX5_isThing : MethodName := ⟨RX5, "isThing", "(I)Z"⟩
abbrev cX5_areOfOneTown : ByteArray := prog_7_method_10_code
def yX5_areOfOneTown : MethodName := ⟨RX5, "areOfOneTown", "(II)Z"⟩
abbrev cX5_leftOver : ByteArray := prog_7_method_11_code
def yX5_leftOver : MethodName := ⟨RX5, "leftOver", "(I)I"⟩
abbrev cX5_levelOf : ByteArray := prog_7_method_12_code
def yX5_levelOf : MethodName := ⟨RX5, "levelOf", "(I)I"⟩
abbrev cX5_isFlooded : ByteArray := prog_7_method_13_code
def yX5_isFlooded : MethodName := ⟨RX5, "isFlooded", "(II)Z"⟩
abbrev cX5_floodedBy : ByteArray := prog_7_method_14_code
def yX5_floodedBy : MethodName := ⟨RX5, "floodedBy", "(I)I"⟩
def RX6 : String := "TwoKerbs"
def TX6 : u_T := fun k => match k with
  | 0 => ("TwoKerbs", "text", "LTwoKerbs$Text;", true)
  | 1 => ("TwoKerbs", "told", "LTwoKerbs$Towns;", false)
  | 2 => ("TwoKerbs", "spare", "LTwoKerbs$Towns;", false)
  | 3 => ("TwoKerbs", "now", "LTwoKerbs$Now;", true)
  | 4 => ("TwoKerbs", "past", "LTwoKerbs$Past;", true)
  | 5 => ("TwoKerbs", "images", "[[I", true)
  | 6 => ("TwoKerbs", "kept", "[Z", true)
  | 7 => ("TwoKerbs", "found", "LTwoKerbs$Notes;", true)
  | 8 => ("TwoKerbs", "seen", "LTwoKerbs$Notes;", true)
  | 9 => ("TwoKerbs", "one", "LTwoKerbs$Thing;", true)
  | 10 => ("TwoKerbs", "two", "LTwoKerbs$Thing;", true)
  | _ => ("TwoKerbs", "trace", "J", false)
def tyX6 : Nat → FieldType := fun k => match k with
  | 0 => .object "TwoKerbs$Text"
  | 1 => .object "TwoKerbs$Towns"
  | 2 => .object "TwoKerbs$Towns"
  | 3 => .object "TwoKerbs$Now"
  | 4 => .object "TwoKerbs$Past"
  | 5 => .array (.array .int)
  | 6 => .array .boolean
  | 7 => .object "TwoKerbs$Notes"
  | 8 => .object "TwoKerbs$Notes"
  | 9 => .object "TwoKerbs$Thing"
  | 10 => .object "TwoKerbs$Thing"
  | _ => .long
abbrev wsX60 : List Cond := u_ws RX6 TX6 12
theorem nmX6 : ∀ a, a < 12 → ∀ b, b < 12 → a ≠ b → (TX6 a).2.1 ≠ (TX6 b).2.1 := by decide +kernel
theorem tyX6_ok : ∀ k, k < 12 → parseFieldDescriptor (TX6 k).2.2.1 = some (tyX6 k) := by decide +kernel
abbrev cX6_init : ByteArray := prog_1_method_1_code
def yX6_init : MethodName := ⟨RX6, "<init>", "()V"⟩
abbrev cX6_type : ByteArray := prog_1_method_2_code
def yX6_type : MethodName := ⟨RX6, "type", "(I)I"⟩
abbrev cX6_clear : ByteArray := prog_1_method_3_code
def yX6_clear : MethodName := ⟨RX6, "clear", "()I"⟩
abbrev cX6_towns : ByteArray := prog_1_method_4_code
def yX6_towns : MethodName := ⟨RX6, "towns", "()I"⟩
abbrev cX6_kerb : ByteArray := prog_1_method_5_code
def yX6_kerb : MethodName := ⟨RX6, "kerb", "(II)I"⟩
abbrev cX6_thing : ByteArray := prog_1_method_6_code
def yX6_thing : MethodName := ⟨RX6, "thing", "(II)I"⟩
abbrev cX6_now : ByteArray := prog_1_method_7_code
def yX6_now : MethodName := ⟨RX6, "now", "(I)I"⟩
abbrev cX6_tides : ByteArray := prog_1_method_8_code
def yX6_tides : MethodName := ⟨RX6, "tides", "(I)I"⟩
abbrev cX6_ties : ByteArray := prog_1_method_9_code
def yX6_ties : MethodName := ⟨RX6, "ties", "(II)I"⟩
abbrev cX6_carries : ByteArray := prog_1_method_10_code
def yX6_carries : MethodName := ⟨RX6, "carries", "(II)I"⟩
abbrev cX6_undo : ByteArray := prog_1_method_11_code
def yX6_undo : MethodName := ⟨RX6, "undo", "()I"⟩
abbrev cX6_level : ByteArray := prog_1_method_12_code
def yX6_level : MethodName := ⟨RX6, "level", "(I)I"⟩
abbrev cX6_high : ByteArray := prog_1_method_13_code
def yX6_high : MethodName := ⟨RX6, "high", "(I)I"⟩
abbrev cX6_flood : ByteArray := prog_1_method_14_code
def yX6_flood : MethodName := ⟨RX6, "flood", "(I)I"⟩
abbrev cX6_where : ByteArray := prog_1_method_15_code
def yX6_where : MethodName := ⟨RX6, "where", "(II)I"⟩
abbrev cX6_when : ByteArray := prog_1_method_16_code
def yX6_when : MethodName := ⟨RX6, "when", "(II)I"⟩
abbrev cX6_send : ByteArray := prog_1_method_17_code
def yX6_send : MethodName := ⟨RX6, "send", "(III)I"⟩
abbrev cX6_meet : ByteArray := prog_1_method_18_code
def yX6_meet : MethodName := ⟨RX6, "meet", "(II)I"⟩
abbrev cX6_round : ByteArray := prog_1_method_19_code
def yX6_round : MethodName := ⟨RX6, "round", "(I)I"⟩
abbrev cX6_odds : ByteArray := prog_1_method_20_code
def yX6_odds : MethodName := ⟨RX6, "odds", "(IIIII)I"⟩
abbrev cX6_found : ByteArray := prog_1_method_21_code
def yX6_found : MethodName := ⟨RX6, "found", "(II)I"⟩
abbrev cX6_began : ByteArray := prog_1_method_22_code
def yX6_began : MethodName := ⟨RX6, "began", "()I"⟩
abbrev cX6_saw : ByteArray := prog_1_method_23_code
def yX6_saw : MethodName := ⟨RX6, "saw", "(II)I"⟩
abbrev cX6_laws : ByteArray := prog_1_method_24_code
def yX6_laws : MethodName := ⟨RX6, "laws", "(I)I"⟩
abbrev cX6_forget : ByteArray := prog_1_method_25_code
def yX6_forget : MethodName := ⟨RX6, "forget", "()I"⟩
abbrev cX6_rate : ByteArray := prog_1_method_26_code
def yX6_rate : MethodName := ⟨RX6, "rate", "(II)I"⟩
abbrev cX6_keep : ByteArray := prog_1_method_27_code
def yX6_keep : MethodName := ⟨RX6, "keep", "(I)I"⟩
abbrev cX6_back : ByteArray := prog_1_method_28_code
def yX6_back : MethodName := ⟨RX6, "back", "(I)I"⟩
abbrev cX6_count : ByteArray := prog_1_method_29_code
def yX6_count : MethodName := ⟨RX6, "count", "(I)I"⟩
abbrev cX6_trace : ByteArray := prog_1_method_30_code
def yX6_trace : MethodName := ⟨RX6, "trace", "()J"⟩
abbrev cX6_isWithin : ByteArray := prog_1_method_31_code
def yX6_isWithin : MethodName := ⟨RX6, "isWithin", "(III)Z"⟩
abbrev cX6_power : ByteArray := prog_1_method_32_code
def yX6_power : MethodName := ⟨RX6, "power", "(II)I"⟩
abbrev cX6_commonDivisor : ByteArray := prog_1_method_33_code
def yX6_commonDivisor : MethodName := ⟨RX6, "commonDivisor", "(II)I"⟩
abbrev cX6_firstTideOn : ByteArray := prog_1_method_34_code
def yX6_firstTideOn : MethodName := ⟨RX6, "firstTideOn", "(LTwoKerbs$Thing;I)I"⟩
abbrev cX6_passSomeWeak : ByteArray := prog_1_method_35_code
def yX6_passSomeWeak : MethodName := ⟨RX6, "passSomeWeak", "(LTwoKerbs$Thing;II)V"⟩
abbrev cX6_canHaveBegunOn : ByteArray := prog_1_method_36_code
def yX6_canHaveBegunOn : MethodName := ⟨RX6, "canHaveBegunOn", "(I)Z"⟩
abbrev cX6_isLaw : ByteArray := prog_1_method_37_code
def yX6_isLaw : MethodName := ⟨RX6, "isLaw", "(II)Z"⟩
abbrev cX6_rateAsKerb : ByteArray := prog_1_method_38_code
def yX6_rateAsKerb : MethodName := ⟨RX6, "rateAsKerb", "(I)I"⟩
abbrev cX6_rateAsBank : ByteArray := prog_1_method_39_code
def yX6_rateAsBank : MethodName := ⟨RX6, "rateAsBank", "(I)I"⟩
abbrev cX6_rateAsSteps : ByteArray := prog_1_method_40_code
def yX6_rateAsSteps : MethodName := ⟨RX6, "rateAsSteps", "(I)I"⟩
abbrev cX6_rateAsChurch : ByteArray := prog_1_method_41_code
def yX6_rateAsChurch : MethodName := ⟨RX6, "rateAsChurch", "(I)I"⟩
abbrev cX6_rateAsButcher : ByteArray := prog_1_method_42_code
def yX6_rateAsButcher : MethodName := ⟨RX6, "rateAsButcher", "(I)I"⟩
abbrev cX6_rateAsRing : ByteArray := prog_1_method_43_code
def yX6_rateAsRing : MethodName := ⟨RX6, "rateAsRing", "(I)I"⟩
def RX7 : String := "TwoKerbsModel"
def TX7 : u_T := fun k => match k with
  | 0 => ("TwoKerbsModel", "thrown", "I", false)
  | 1 => ("TwoKerbsModel", "trace", "J", false)
  | 2 => ("TwoKerbsModel", "text", "[I", true)
  | 3 => ("TwoKerbsModel", "typed", "I", false)
  | 4 => ("TwoKerbsModel", "next", "I", false)
  | 5 => ("TwoKerbsModel", "token", "I", false)
  | 6 => ("TwoKerbsModel", "place", "I", false)
  | 7 => ("TwoKerbsModel", "value", "I", false)
  | 8 => ("TwoKerbsModel", "fault", "I", false)
  | 9 => ("TwoKerbsModel", "many", "[I", true)
  | 10 => ("TwoKerbsModel", "isTold", "Z", false)
  | 11 => ("TwoKerbsModel", "town", "[I", true)
  | 12 => ("TwoKerbsModel", "height", "[I", true)
  | 13 => ("TwoKerbsModel", "drain", "[I", true)
  | 14 => ("TwoKerbsModel", "delay", "[I", true)
  | 15 => ("TwoKerbsModel", "lies", "[I", true)
  | 16 => ("TwoKerbsModel", "s", "[I", true)
  | 17 => ("TwoKerbsModel", "kept", "[I", true)
  | 18 => ("TwoKerbsModel", "isKept", "[Z", true)
  | 19 => ("TwoKerbsModel", "undos", "[I", true)
  | 20 => ("TwoKerbsModel", "undoMany", "I", false)
  | 21 => ("TwoKerbsModel", "foundOn", "[I", true)
  | 22 => ("TwoKerbsModel", "foundIn", "[I", true)
  | 23 => ("TwoKerbsModel", "foundMany", "I", false)
  | 24 => ("TwoKerbsModel", "sawIn", "[I", true)
  | 25 => ("TwoKerbsModel", "sawLevel", "[I", true)
  | 26 => ("TwoKerbsModel", "sawMany", "I", false)
  | 27 => ("TwoKerbsModel", "kerb", "I", false)
  | _ => ("TwoKerbsModel", "toGo", "I", false)
def tyX7 : Nat → FieldType := fun k => match k with
  | 0 => .int
  | 1 => .long
  | 2 => .array .int
  | 3 => .int
  | 4 => .int
  | 5 => .int
  | 6 => .int
  | 7 => .int
  | 8 => .int
  | 9 => .array .int
  | 10 => .boolean
  | 11 => .array .int
  | 12 => .array .int
  | 13 => .array .int
  | 14 => .array .int
  | 15 => .array .int
  | 16 => .array .int
  | 17 => .array .int
  | 18 => .array .boolean
  | 19 => .array .int
  | 20 => .int
  | 21 => .array .int
  | 22 => .array .int
  | 23 => .int
  | 24 => .array .int
  | 25 => .array .int
  | 26 => .int
  | 27 => .int
  | _ => .int
abbrev wsX70 : List Cond := u_ws RX7 TX7 29
theorem nmX7 : ∀ a, a < 29 → ∀ b, b < 29 → a ≠ b → (TX7 a).2.1 ≠ (TX7 b).2.1 := by decide +kernel
theorem tyX7_ok : ∀ k, k < 29 → parseFieldDescriptor (TX7 k).2.2.1 = some (tyX7 k) := by decide +kernel
abbrev cX7_init : ByteArray := prog_9_method_1_code
def yX7_init : MethodName := ⟨RX7, "<init>", "()V"⟩
abbrev cX7_in : ByteArray := prog_9_method_3_code
def yX7_in : MethodName := ⟨RX7, "in", "(III)Z"⟩
abbrev cX7_ones : ByteArray := prog_9_method_4_code
def yX7_ones : MethodName := ⟨RX7, "ones", "(I)I"⟩
abbrev cX7_type : ByteArray := prog_9_method_5_code
def yX7_type : MethodName := ⟨RX7, "type", "(I)I"⟩
abbrev cX7_clear : ByteArray := prog_9_method_6_code
def yX7_clear : MethodName := ⟨RX7, "clear", "()I"⟩
abbrev cX7_letterAt : ByteArray := prog_9_method_7_code
def yX7_letterAt : MethodName := ⟨RX7, "letterAt", "(I)I"⟩
abbrev cX7_advances : ByteArray := prog_9_method_8_code
def yX7_advances : MethodName := ⟨RX7, "advances", "()V"⟩
abbrev cX7_isWell : ByteArray := prog_9_method_9_code
def yX7_isWell : MethodName := ⟨RX7, "isWell", "()Z"⟩
abbrev cX7_takes : ByteArray := prog_9_method_10_code
def yX7_takes : MethodName := ⟨RX7, "takes", "(Z)I"⟩
abbrev cX7_number : ByteArray := prog_9_method_11_code
def yX7_number : MethodName := ⟨RX7, "number", "(II)I"⟩
abbrev cX7_begins : ByteArray := prog_9_method_12_code
def yX7_begins : MethodName := ⟨RX7, "begins", "()V"⟩
abbrev cX7_mayBegin : ByteArray := prog_9_method_13_code
def yX7_mayBegin : MethodName := ⟨RX7, "mayBegin", "()Z"⟩
abbrev cX7_readsItem : ByteArray := prog_9_method_14_code
def yX7_readsItem : MethodName := ⟨RX7, "readsItem", "(I)V"⟩
abbrev cX7_towns : ByteArray := prog_9_method_15_code
def yX7_towns : MethodName := ⟨RX7, "towns", "()I"⟩
abbrev cX7_settles : ByteArray := prog_9_method_16_code
def yX7_settles : MethodName := ⟨RX7, "settles", "()V"⟩
abbrev cX7_isKerb : ByteArray := prog_9_method_17_code
def yX7_isKerb : MethodName := ⟨RX7, "isKerb", "(I)Z"⟩
abbrev cX7_isThing : ByteArray := prog_9_method_18_code
def yX7_isThing : MethodName := ⟨RX7, "isThing", "(I)Z"⟩
abbrev cX7_isTied : ByteArray := prog_9_method_19_code
def yX7_isTied : MethodName := ⟨RX7, "isTied", "(I)Z"⟩
abbrev cX7_levelOf : ByteArray := prog_9_method_20_code
def yX7_levelOf : MethodName := ⟨RX7, "levelOf", "(I)I"⟩
abbrev cX7_floodIn : ByteArray := prog_9_method_21_code
def yX7_floodIn : MethodName := ⟨RX7, "floodIn", "(I)I"⟩
abbrev cX7_thingsOn : ByteArray := prog_9_method_22_code
def yX7_thingsOn : MethodName := ⟨RX7, "thingsOn", "(I)I"⟩
abbrev cX7_kerb : ByteArray := prog_9_method_23_code
def yX7_kerb : MethodName := ⟨RX7, "kerb", "(II)I"⟩
abbrev cX7_thing : ByteArray := prog_9_method_24_code
def yX7_thing : MethodName := ⟨RX7, "thing", "(II)I"⟩
abbrev cX7_now : ByteArray := prog_9_method_25_code
def yX7_now : MethodName := ⟨RX7, "now", "(I)I"⟩
abbrev cX7_notes : ByteArray := prog_9_method_26_code
def yX7_notes : MethodName := ⟨RX7, "notes", "()V"⟩
abbrev cX7_goes : ByteArray := prog_9_method_27_code
def yX7_goes : MethodName := ⟨RX7, "goes", "(I)Z"⟩
abbrev cX7_takesUp : ByteArray := prog_9_method_28_code
def yX7_takesUp : MethodName := ⟨RX7, "takesUp", "(I)V"⟩
abbrev cX7_tides : ByteArray := prog_9_method_29_code
def yX7_tides : MethodName := ⟨RX7, "tides", "(I)I"⟩
abbrev cX7_ties : ByteArray := prog_9_method_30_code
def yX7_ties : MethodName := ⟨RX7, "ties", "(II)I"⟩
abbrev cX7_carries : ByteArray := prog_9_method_31_code
def yX7_carries : MethodName := ⟨RX7, "carries", "(II)I"⟩
abbrev cX7_undo : ByteArray := prog_9_method_32_code
def yX7_undo : MethodName := ⟨RX7, "undo", "()I"⟩
abbrev cX7_level : ByteArray := prog_9_method_33_code
def yX7_level : MethodName := ⟨RX7, "level", "(I)I"⟩
abbrev cX7_high : ByteArray := prog_9_method_34_code
def yX7_high : MethodName := ⟨RX7, "high", "(I)I"⟩
abbrev cX7_flood : ByteArray := prog_9_method_35_code
def yX7_flood : MethodName := ⟨RX7, "flood", "(I)I"⟩
abbrev cX7_where : ByteArray := prog_9_method_36_code
def yX7_where : MethodName := ⟨RX7, "where", "(II)I"⟩
abbrev cX7_soon : ByteArray := prog_9_method_37_code
def yX7_soon : MethodName := ⟨RX7, "soon", "(IZ)I"⟩
abbrev cX7_when : ByteArray := prog_9_method_38_code
def yX7_when : MethodName := ⟨RX7, "when", "(II)I"⟩
abbrev cX7_send : ByteArray := prog_9_method_39_code
def yX7_send : MethodName := ⟨RX7, "send", "(III)I"⟩
abbrev cX7_meet : ByteArray := prog_9_method_40_code
def yX7_meet : MethodName := ⟨RX7, "meet", "(II)I"⟩
abbrev cX7_round : ByteArray := prog_9_method_41_code
def yX7_round : MethodName := ⟨RX7, "round", "(I)I"⟩
abbrev cX7_gcd : ByteArray := prog_9_method_42_code
def yX7_gcd : MethodName := ⟨RX7, "gcd", "(II)I"⟩
abbrev cX7_odds : ByteArray := prog_9_method_43_code
def yX7_odds : MethodName := ⟨RX7, "odds", "(IIIII)I"⟩
abbrev cX7_found : ByteArray := prog_9_method_44_code
def yX7_found : MethodName := ⟨RX7, "found", "(II)I"⟩
abbrev cX7_canBegin : ByteArray := prog_9_method_45_code
def yX7_canBegin : MethodName := ⟨RX7, "canBegin", "(I)Z"⟩
abbrev cX7_began : ByteArray := prog_9_method_46_code
def yX7_began : MethodName := ⟨RX7, "began", "()I"⟩
abbrev cX7_saw : ByteArray := prog_9_method_47_code
def yX7_saw : MethodName := ⟨RX7, "saw", "(II)I"⟩
abbrev cX7_laws : ByteArray := prog_9_method_48_code
def yX7_laws : MethodName := ⟨RX7, "laws", "(I)I"⟩
abbrev cX7_forget : ByteArray := prog_9_method_49_code
def yX7_forget : MethodName := ⟨RX7, "forget", "()I"⟩
abbrev cX7_rate : ByteArray := prog_9_method_50_code
def yX7_rate : MethodName := ⟨RX7, "rate", "(II)I"⟩
abbrev cX7_keep : ByteArray := prog_9_method_51_code
def yX7_keep : MethodName := ⟨RX7, "keep", "(I)I"⟩
abbrev cX7_back : ByteArray := prog_9_method_52_code
def yX7_back : MethodName := ⟨RX7, "back", "(I)I"⟩
abbrev cX7_count : ByteArray := prog_9_method_53_code
def yX7_count : MethodName := ⟨RX7, "count", "(I)I"⟩
abbrev cX7_trace : ByteArray := prog_9_method_54_code
def yX7_trace : MethodName := ⟨RX7, "trace", "()J"⟩
def RJ6 : String := "java/lang/Integer"
def TJ6 : u_T := fun k => match k with
  | _ => ("", "", "", false)
def tyJ6 : Nat → FieldType := fun k => match k with
  | _ => .int
abbrev wsJ60 : List Cond := u_ws RJ6 TJ6 0
abbrev cJ6_bitCount_0f7a4 : ByteArray := prog_10_method_49_code
def yJ6_bitCount_0f7a4 : MethodName := ⟨RJ6, "bitCount", "(I)I"⟩
def RJ9 : String := "java/lang/Math"
def TJ9 : u_T := fun k => match k with
  | _ => ("", "", "", false)
def tyJ9 : Nat → FieldType := fun k => match k with
  | _ => .int
abbrev wsJ90 : List Cond := u_ws RJ9 TJ9 0
abbrev cJ9_max_7cf53 : ByteArray := prog_11_method_65_code
def yJ9_max_7cf53 : MethodName := ⟨RJ9, "max", "(II)I"⟩
abbrev cJ9_min_7cf53 : ByteArray := prog_11_method_69_code
def yJ9_min_7cf53 : MethodName := ⟨RJ9, "min", "(II)I"⟩
def RL : String := "TwoKerbsLaw"
abbrev cL_law : ByteArray := code
def yL_law : MethodName := ⟨RL, "law", "([I)Z"⟩
abbrev vwCl : List vw_C := [(RX0, TX0, 3), (RX1, TX1, 3), (RX2, TX2, 3), (RX3, TX3, 7), (RX4, TX4, 3), (RX5, TX5, 10), (RX6, TX6, 12), (RX7, TX7, 29)]
end
section
/-! THE SMALL MACHINE: memory by places and slots, acts as predicate transformers, what a contract is -/
def tk_G : List Cond := lw_tbl.filter goodWord
theorem tk_mem {w : Cond} (i : Nat) (h : lw_tbl[i]? = some w) (hg : goodWord w = true) : w ∈ tk_G := List.mem_filter.mpr ⟨List.mem_of_getElem? h, hg⟩
theorem tk_good {w : Cond} (h : w ∈ tk_G) : (w.onTables && w.keeps) = true ∨ ∃ ty, w = .arrayClass ty := good_of_word (List.mem_filter.mp h).2
/-- ints, references, longs, how many places there are -/
abbrev tk_Me : Type := (Nat → Nat → Int32) × (Nat → Nat → Option Nat) × (Nat → Nat → Int64) × Nat
/-- pc, locals, stack, memory, cells and slots made -/
abbrev tk_Cf : Type := Nat × List (Option Value) × List Value × tk_Me × Nat × Nat
abbrev tk_Po : Type := Option Value → tk_Me → Prop
abbrev tk_Ac : Type := List (Option Value) → List Value → tk_Me → Nat → Nat → (tk_Cf → Prop) → tk_Po → Prop
/-- name, bytes, locals, answer's type, room -/
abbrev tk_Md : Type := MethodName × ByteArray × Nat × Option FieldType × Room
abbrev tk_Tb : Type := List (Nat × tk_Ac)
def tk_up {α : Type} (f : Nat → Nat → α) (p k : Nat) (v : α) : Nat → Nat → α := fun a b => if a = p ∧ b = k then v else f a b
/-- the kind of each place: a class's number (0 to 7), or 8 char[], 9 int[], 10 boolean[], 11 Thing[], 12 int[][]; and its length -/
def tk_kds : List (Nat × Nat) := [(99, 0), (6, 12), (3, 7), (8, 150), (5, 10), (9, 8), (9, 8), (9, 8), (9, 8), (9, 5), (5, 10), (9, 8), (9, 8), (9, 8), (9, 8), (9, 5), (1, 3), (11, 5), (4, 3), (4, 3), (4, 3), (4, 3), (4, 3), (2, 3), (12, 10), (9, 17), (9, 17), (9, 17), (9, 17), (9, 17), (9, 17), (9, 17), (9, 17), (9, 17), (9, 17), (12, 2), (9, 17), (9, 17), (10, 2), (0, 3), (9, 6), (9, 6), (0, 3), (9, 6), (9, 6), (4, 3), (4, 3), (7, 29), (9, 150), (9, 10), (9, 16), (9, 16), (9, 16), (9, 16), (9, 5), (9, 13), (9, 26), (10, 2), (9, 130), (9, 6), (9, 6), (9, 6), (9, 6)]
def tk_kd (p : Nat) : Nat × Nat := tk_kds.getD p (99, 0)
def tk_nf (t : Nat) : Nat := [3, 3, 3, 7, 3, 10, 12, 29].getD t 0
/-- 0: an int, a boolean; 1: a reference; 2: a long -/
def tk_ft (t k : Nat) : Nat := ([[1, 1, 0], [0, 0, 1], [1, 0, 0], [1, 0, 0, 0, 0, 0, 0], [0, 0, 0], [0, 0, 0, 0, 0, 1, 1, 1, 1, 1], [1, 1, 1, 1, 1, 1, 1, 1, 1, 1, 1, 2], [0, 2, 1, 0, 0, 0, 0, 0, 0, 1, 0, 1, 1, 1, 1, 1, 1, 1, 1, 1, 0, 1, 1, 0, 1, 1, 0, 0, 0]].getD t []).getD k 0
def tk_ok (p t n : Nat) : Bool := (tk_kd p).1 == t && (Nat.ble 1 p && Nat.ble p n)
def tk_if (b : Bool) (A : Prop) : Prop := match b with
  | true => A
  | false => False
theorem tk_if.mp {b : Bool} {A : Prop} (h : tk_if b A) : b = true ∧ A := by
  cases b with
  | true => exact ⟨rfl, h⟩
  | false => exact h.elim
theorem tk_ift {b : Bool} {A : Prop} (hb : b = true) (h : A) : tk_if b A := by subst hb; exact h
theorem tk_ok.mp {p t n : Nat} (h : tk_ok p t n = true) : (tk_kd p).1 = t ∧ 1 ≤ p ∧ p ≤ n := by
  simp only [tk_ok, Bool.and_eq_true, beq_iff_eq, Nat.ble_eq] at h
  exact ⟨h.1, h.2.1, h.2.2⟩
/-- an index within -/
def tk_in (i : Int32) (n : Nat) : Bool := decide (0 ≤ i) && decide (i.toNatClampNeg < n)
theorem tk_in.mp {i : Int32} {n : Nat} (h : tk_in i n = true) : vp_in i n := by
  simp only [tk_in, Bool.and_eq_true, decide_eq_true_eq] at h
  intro hq
  rcases hq with hq | hq
  · exact absurd h.1 (Int32.not_le.mpr hq)
  · omega
def tk_v (ad : Nat → Nat) : Value → Value
  | .ref p => .ref (ad p)
  | v => v
theorem tk_v_cat (ad : Nat → Nat) (v : Value) : (tk_v ad v).category = v.category := by cases v <;> rfl
def tk_fv (ad : Nat → Nat) (μ : tk_Me) (t p k : Nat) : Value := match tk_ft t k with
  | 0 => .int (μ.1 p k)
  | 1 => va_rf ((μ.2.1 p k).map ad)
  | _ => .long (μ.2.2.1 p k)
def tk_cell (cy : Nat → ClassId) (ad : Nat → Nat) (μ : tk_Me) (p : Nat) : va_E :=
  if (tk_kd p).1 < 8 then .inr ((tk_kd p).1, (List.range (tk_nf (tk_kd p).1)).map (fun k => tk_fv ad μ (tk_kd p).1 p k))
  else if (tk_kd p).1 < 11 then .inl (cy (tk_kd p).1, (tk_kd p).2, .inl (μ.1 p))
  else .inl (cy (tk_kd p).1, (tk_kd p).2, .inr (.inr (.inr (.inr (fun i => (μ.2.1 p i).map ad)))))
def tk_ws (cy : Nat → ClassId) (ad : Nat → Nat) (μ : tk_Me) : va_W := (List.range μ.2.2.2).map (fun j => (ad (j + 1), tk_cell cy ad μ (j + 1)))
def tk_tys (cy : Nat → ClassId) : List (ClassId × FieldType) := [(cy 8, .char), (cy 9, .int), (cy 10, .boolean), (cy 11, .object RX4), (cy 12, .array .int)]
def tk_R (D : va_G) (cy : Nat → ClassId) (A : Nat → Prop) (ad : Nat → Nat) (μ : tk_Me) (H : Heap) : Prop := va_P D vwCl (tk_ws cy ad μ) H ∧ va_D A (tk_ws cy ad μ) ∧ ∀ p k r, μ.2.1 p k = some r → r ≤ μ.2.2.2
/-- the tables' words of nest mates, and of arrays of references -/
def tk_N (U : State) : Prop := (∀ (a : String) (i : Nat) (x : MethodName) (h : String), Cond.methodLinkNest a i x h ∈ lw_tbl → va_Nw (.methodLinkNest a i x h) U) ∧ va_AO RX4 U ∧ (Cond.arrayOver (.array .int)).before #[] U = true
def tk_C (D : va_G) (cy : Nat → ClassId) (M : tk_Md) (p : Program) (s : State) (m : MethodId) (args : Array Value) (meth : Method) (c : Code) : Prop :=
  p.tables.exec = Jvm.exec ∧ c.code = M.2.1 ∧ meth.sig.returnType = M.2.2.2.1 ∧ c.maxLocals = M.2.2.1 ∧ s.vm.findClass M.1.cls = some m.cls ∧ (∀ w ∈ tk_G, w.before args s = true) ∧ meth.locks = false ∧ meth.name = M.1.name ∧ va_K D vwCl (tk_tys cy) s ∧ tk_N s
def tk_lv (ad : Nat → Nat) (L : List (Option Value)) : List (Nat × Value) := (List.range L.length).filterMap (fun i => (L[i]?.join).map (fun v => (i, tk_v ad v)))
theorem tk_lv_mem {ad : Nat → Nat} {L : List (Option Value)} {i : Nat} {w : Value} : (i, w) ∈ tk_lv ad L ↔ ∃ v, L[i]? = some (some v) ∧ w = tk_v ad v := by
  unfold tk_lv
  rw [List.mem_filterMap]
  constructor
  · rintro ⟨j, hj, h⟩
    cases hx : L[j]? with
    | none => rw [hx] at h; cases h
    | some o =>
      rw [hx] at h
      cases o with
      | none => cases h
      | some v => cases h; exact ⟨v, hx, rfl⟩
  · rintro ⟨v, h, rfl⟩
    refine ⟨i, List.mem_range.mpr (List.getElem?_eq_some_iff.mp h).1, ?_⟩
    rw [h]
    rfl
def tk_L (ad : Nat → Nat) (L : List (Option Value)) (ls : Array Slot) (nL : Nat) : Prop := lv_has ls nL (tk_lv ad L) ∧ L.length = nL ∧ ∀ (i : Nat) (v : Value), L[i]? = some (some v) → v.category = 1
def tk_Q (D : va_G) (cy : Nat → ClassId) (R : Room) (ad0 : Nat → Nat) (n0 : Nat) (A : Nat → Prop) (q : tk_Po) : Array Value → State → Outcome → State → Prop := fun _ st oc t =>
  (∃ (r : Option Value) (μ : tk_Me) (ad : Nat → Nat), oc = .returned (r.map (tk_v ad)) ∧ q r μ ∧ (∀ i, i ≤ n0 → ad i = ad0 i) ∧ n0 ≤ μ.2.2.2 ∧ (R.cells = 0 → ad = ad0) ∧ tk_R D cy A ad μ t.heap) ∧ va_F A st t
def tk_J (l : Launch) (D : va_G) (cy : Nat → ClassId) (sc : Option (Nat × (Nat → Int32))) (M : tk_Md) (c : tk_Cf) (q : tk_Po) : Prop :=
  ∀ (p : Program) (e : Env) (s : State) (m : MethodId) (args : Array Value) (below : List Frame) (meth : Method) (cd : Code) (H : Heap) (locs : List Loc) (ad ad0 : Nat → Nat) (n0 : Nat) (A : Nat → Prop) (ls : Array Slot),
    tk_C D cy M p s m args meth cd → tk_R D cy A ad c.2.2.2.1 H → va_S A s.heap H locs → (∀ x, s.heap.size ≤ x → A x) → tk_L ad c.2.1 ls M.2.2.1 →
    ((∀ i, i ≤ n0 → ad i = ad0 i) ∧ n0 ≤ c.2.2.2.1.2.2.2 ∧ (c.2.2.2.2.1 = 0 → ad = ad0) ∧ c.2.2.2.2.1 ≤ M.2.2.2.2.cells ∧ c.2.2.2.2.2 ≤ M.2.2.2.2.slots) →
    (∀ Ls xs, sc = some (Ls, xs) → va_X (ad 0) Ls xs s s.heap ∧ ad 0 < s.heap.size ∧ ¬ A (ad 0)) →
    W p l e M.2.2.2.2 s m args below meth cd H locs c.2.2.2.2.1 c.2.2.2.2.2 (MQ below (tk_Q D cy M.2.2.2.2 ad0 n0 A q) args s M.2.2.2.2.cells M.2.2.2.2.slots A) (F0 m c.1 ls (c.2.2.1.map (tk_v ad)))
/-- an act at a pc is sound -/
def tk_So (sc : Option (Nat × (Nat → Int32))) (M : tk_Md) (pc : Nat) (a : tk_Ac) : Prop :=
  ∀ (l : Launch) (D : va_G) (cy : Nat → ClassId) (L : List (Option Value)) (st : List Value) (μ : tk_Me) (kc ks : Nat) (K : tk_Cf → Prop) (q : tk_Po),
    (∀ c, K c → tk_J l D cy sc M c q) → a L st μ kc ks K q → tk_J l D cy sc M (pc, L, st, μ, kc, ks) q
def tk_at : tk_Tb → Nat → Option tk_Ac
  | [], _ => none
  | (k, a) :: t, pc => match Nat.beq k pc with
    | true => some a
    | false => tk_at t pc
theorem tk_at_mem {T : tk_Tb} {pc : Nat} {a : tk_Ac} (h : tk_at T pc = some a) : (pc, a) ∈ T := by
  induction T with
  | nil => cases h
  | cons x t ih =>
    obtain ⟨k, b⟩ := x
    unfold tk_at at h
    cases hb : Nat.beq k pc with
    | true =>
      rw [hb] at h
      have hk := Nat.eq_of_beq_eq_true hb
      cases h
      rw [hk]
      exact List.mem_cons_self
    | false =>
      rw [hb] at h
      exact List.mem_cons_of_mem _ (ih h)
def tk_is : List Nat → Nat → Bool
  | [], _ => false
  | k :: t, pc => match Nat.beq k pc with
    | true => true
    | false => tk_is t pc
def tk_go : Nat → tk_Tb → List Nat → tk_Cf → (tk_Cf → Prop) → tk_Po → Prop
  | 0, _, _, _, _, _ => False
  | n + 1, T, cuts, (pc, L, st, μ, kc, ks), K, q => match tk_at T pc with
    | none => False
    | some a => a L st μ kc ks (fun c => match tk_is cuts c.1 with
      | true => K c
      | false => tk_go n T cuts c K q) q
theorem tk_run {sc : Option (Nat × (Nat → Int32))} {M : tk_Md} {T : tk_Tb} (hT : ∀ x ∈ T, tk_So sc M x.1 x.2) {l : Launch} {D : va_G} {cy : Nat → ClassId} {q : tk_Po} (cuts : List Nat) :
    ∀ (n : Nat) (c : tk_Cf), tk_go n T cuts c (fun c' => tk_J l D cy sc M c' q) q → tk_J l D cy sc M c q := by
  intro n
  induction n with
  | zero => intro c h; exact h.elim
  | succ n ih =>
    intro c h
    obtain ⟨pc, L, st, μ, kc, ks⟩ := c
    unfold tk_go at h
    cases hx : tk_at T pc with
    | none => rw [hx] at h; exact h.elim
    | some a =>
      rw [hx] at h
      refine hT (pc, a) (tk_at_mem hx) l D cy L st μ kc ks _ q ?_ h
      intro c' hc'
      dsimp only at hc'
      cases hz : tk_is cuts c'.1 with
      | true => rw [hz] at hc'; exact hc'
      | false => rw [hz] at hc'; exact ih c' hc'
def tk_wsM (M : tk_Md) : List Cond := Cond.code M.1 M.2.1 M.2.2.1 M.2.2.2.1 :: tk_G
/-- the contract of a method at these arguments and this memory -/
def tk_Ct (M : tk_Md) (as : List Value) (μ : tk_Me) (P : tk_Po) : Prop :=
  ∀ (l : Launch) (D : va_G) (cy : Nat → ClassId) (ad : Nat → Nat) (A : Nat → Prop), Met l M.1 (tk_wsM M) M.2.2.2.2
    (fun v U => v = (as.map (tk_v ad)).toArray ∧ (∀ x, U.heap.size ≤ x → A x) ∧ va_K D vwCl (tk_tys cy) U ∧ tk_N U ∧ tk_R D cy A ad μ U.heap)
    (tk_Q D cy M.2.2.2.2 ad μ.2.2.2 A P) M.2.2.2.2.cells M.2.2.2.2.slots A
end
section
/-! THE ACTS, and that they are sound: what moves no cell -/
def tk_nth : List (Option Value) → Nat → Option Value
  | [], _ => none
  | a :: _, 0 => a
  | _ :: l, n + 1 => tk_nth l n
theorem tk_nth_at {L : List (Option Value)} {i : Nat} {v : Value} (h : tk_nth L i = some v) : L[i]? = some (some v) := by
  induction L generalizing i with
  | nil => cases h
  | cons a l ih =>
    cases i with
    | zero => simp only [tk_nth] at h; subst h; rfl
    | succ i => simp only [List.getElem?_cons_succ]; exact ih h
def tk_set : List (Option Value) → Nat → Value → (List (Option Value) → Prop) → Prop
  | [], _, _, _ => False
  | _ :: l, 0, v, k => k (some v :: l)
  | a :: l, n + 1, v, k => tk_set l n v (fun l' => k (a :: l'))
theorem tk_set_at {L : List (Option Value)} {i : Nat} {v : Value} {k : List (Option Value) → Prop} (h : tk_set L i v k) : i < L.length ∧ k (L.set i (some v)) := by
  induction L generalizing i k with
  | nil => exact h.elim
  | cons a l ih =>
    cases i with
    | zero => exact ⟨by simp, h⟩
    | succ i =>
      obtain ⟨h1, h2⟩ := ih (i := i) (k := fun l' => k (a :: l')) h
      exact ⟨by simp only [List.length_cons]; omega, h2⟩
theorem tk_L_at {ad : Nat → Nat} {L : List (Option Value)} {ls : Array Slot} {nL i : Nat} {v : Value} (h : tk_L ad L ls nL) (hv : tk_nth L i = some v) : ls[i]? = some (.val (tk_v ad v)) :=
  h.1.2.2 (i, tk_v ad v) (tk_lv_mem.mpr ⟨v, tk_nth_at hv, rfl⟩)
theorem tk_L_set {ad : Nat → Nat} {L : List (Option Value)} {ls ls' : Array Slot} {nL i : Nat} {v : Value} (h : tk_L ad L ls nL) (hi : i < L.length) (hc : v.category = 1)
    (h' : lv_has ls' nL ((i, tk_v ad v) :: (tk_lv ad L).filter (fun q => !(q.1 == i) && !(q.1 + 1 == i && q.2.category == 2)))) : tk_L ad (L.set i (some v)) ls' nL := by
  refine ⟨⟨h'.1, h'.2.1, fun q hq => ?_⟩, by rw [List.length_set]; exact h.2.1, fun j w hw => ?_⟩
  · obtain ⟨j, w⟩ := q
    obtain ⟨x, hx, rfl⟩ := tk_lv_mem.mp hq
    by_cases hj : j = i
    · subst hj
      rw [List.getElem?_set_self hi] at hx
      cases hx
      exact h'.2.2 _ List.mem_cons_self
    · rw [List.getElem?_set_ne (Ne.symm hj)] at hx
      refine h'.2.2 _ (List.mem_cons_of_mem _ (List.mem_filter.mpr ⟨tk_lv_mem.mpr ⟨x, hx, rfl⟩, ?_⟩))
      have h1 : (tk_v ad x).category = 1 := by rw [tk_v_cat]; exact h.2.2 j x hx
      simp [hj, h1]
  · by_cases hj : j = i
    · subst hj
      rw [List.getElem?_set_self hi] at hw
      cases hw
      exact hc
    · rw [List.getElem?_set_ne (Ne.symm hj)] at hw
      exact h.2.2 j w hw
def tk_ic (v : Int32) (nx : Nat) : tk_Ac := fun L st μ kc ks K _ => K (nx, L, .int v :: st, μ, kc, ks)
def tk_lc (v : Int64) (nx : Nat) : tk_Ac := fun L st μ kc ks K _ => K (nx, L, .long v :: st, μ, kc, ks)
def tk_il (i nx : Nat) : tk_Ac := fun L st μ kc ks K _ => match tk_nth L i with
  | some (.int x) => K (nx, L, .int x :: st, μ, kc, ks)
  | _ => False
def tk_al (i nx : Nat) : tk_Ac := fun L st μ kc ks K _ => match tk_nth L i with
  | some (.ref x) => K (nx, L, .ref x :: st, μ, kc, ks)
  | _ => False
def tk_sI (i nx : Nat) : tk_Ac := fun L st μ kc ks K _ => match st with
  | .int x :: r => tk_set L i (.int x) (fun L' => K (nx, L', r, μ, kc, ks))
  | _ => False
def tk_sA (i nx : Nat) : tk_Ac := fun L st μ kc ks K _ => match st with
  | .ref x :: r => tk_set L i (.ref x) (fun L' => K (nx, L', r, μ, kc, ks))
  | _ => False
def tk_inc (i : Nat) (d : Int32) (nx : Nat) : tk_Ac := fun L st μ kc ks K _ => match tk_nth L i with
  | some (.int x) => tk_set L i (.int (x + d)) (fun L' => K (nx, L', st, μ, kc, ks))
  | _ => False
def tk_bi (f : Int32 → Int32 → Int32) (nx : Nat) : tk_Ac := fun L st μ kc ks K _ => match st with
  | .int y :: .int x :: r => K (nx, L, .int (f x y) :: r, μ, kc, ks)
  | _ => False
def tk_dv (f : Int32 → Int32 → Int32) (nx : Nat) : tk_Ac := fun L st μ kc ks K _ => match st with
  | .int y :: .int x :: r => ¬ y = 0 ∧ K (nx, L, .int (f x y) :: r, μ, kc, ks)
  | _ => False
def tk_un (f : Int32 → Int32) (nx : Nat) : tk_Ac := fun L st μ kc ks K _ => match st with
  | .int x :: r => K (nx, L, .int (f x) :: r, μ, kc, ks)
  | _ => False
def tk_lad (nx : Nat) : tk_Ac := fun L st μ kc ks K _ => match st with
  | .long y :: .long x :: r => K (nx, L, .long (x + y) :: r, μ, kc, ks)
  | _ => False
def tk_lcm (nx : Nat) : tk_Ac := fun L st μ kc ks K _ => match st with
  | .long y :: .long x :: r => K (nx, L, .int (lg_cmp x y) :: r, μ, kc, ks)
  | _ => False
def tk_dup (nx : Nat) : tk_Ac := fun L st μ kc ks K _ => match st with
  | .int x :: r => K (nx, L, .int x :: .int x :: r, μ, kc, ks)
  | .ref x :: r => K (nx, L, .ref x :: .ref x :: r, μ, kc, ks)
  | _ => False
def tk_du2 (nx : Nat) : tk_Ac := fun L st μ kc ks K _ => match st with
  | .int x :: .ref y :: r => K (nx, L, .int x :: .ref y :: .int x :: .ref y :: r, μ, kc, ks)
  | _ => False
def tk_pp (nx : Nat) : tk_Ac := fun L st μ kc ks K _ => match st with
  | .int _ :: r => K (nx, L, r, μ, kc, ks)
  | _ => False
def tk_br (P : Int32 → Prop) (tg nx : Nat) : tk_Ac := fun L st μ kc ks K _ => match st with
  | .int x :: r => (P x → K (tg, L, r, μ, kc, ks)) ∧ (¬ P x → K (nx, L, r, μ, kc, ks))
  | _ => False
def tk_cm (P : Int32 → Int32 → Prop) (tg nx : Nat) : tk_Ac := fun L st μ kc ks K _ => match st with
  | .int y :: .int x :: r => (P x y → K (tg, L, r, μ, kc, ks)) ∧ (¬ P x y → K (nx, L, r, μ, kc, ks))
  | _ => False
def tk_jmp (tg : Nat) : tk_Ac := fun L st μ kc ks K _ => K (tg, L, st, μ, kc, ks)
/-- a switch: its cases, then what is left -/
def tk_cas : List (Int32 × Nat) → Int32 → Nat → (Nat → Prop) → Prop
  | [], _, d, K => K d
  | (v, t) :: r, x, d, K => (x = v → K t) ∧ (¬ x = v → tk_cas r x d K)
def tk_sw (cs : List (Int32 × Nat)) (d : Nat) : tk_Ac := fun L st μ kc ks K _ => match st with
  | .int x :: r => tk_cas cs x d (fun t => K (t, L, r, μ, kc, ks))
  | _ => False
def tk_rI : tk_Ac := fun _ st μ _ _ _ q => match st with
  | [.int x] => q (some (.int x)) μ
  | _ => False
def tk_rZ : tk_Ac := fun _ st μ _ _ _ q => match st with
  | [.int x] => (x = 0 ∨ x = 1) ∧ q (some (.int x)) μ
  | _ => False
def tk_rL : tk_Ac := fun _ st μ _ _ _ q => match st with
  | [.long x] => q (some (.long x)) μ
  | _ => False
def tk_rA : tk_Ac := fun _ st μ _ _ _ q => match st with
  | [.ref x] => q (some (.ref x)) μ
  | _ => False
def tk_rV : tk_Ac := fun _ st μ _ _ _ q => match st with
  | [] => q none μ
  | _ => False
section
variable {sc : Option (Nat × (Nat → Int32))} {M : tk_Md} {pc nx : Nat}
theorem so_iconst {n : Int} {v : Int32} (hd : decode M.2.1 pc = .ok (.iconst n, 1)) (hv : Int32.ofInt n = v) (hn : pc + 1 = nx) : tk_So sc M pc (tk_ic v nx) := by
  subst hn
  intro l D cy L st μ kc ks K q hK ha p e s m args below meth cd H locs ad ad0 n0 A ls hC hR hS hA hL hN hX
  exact lv_iconst hC.1 hC.2.1 hd hv (hK _ ha p e s m args below meth cd H locs ad ad0 n0 A ls hC hR hS hA hL hN hX)
theorem so_bipush {n : Int} {v : Int32} (hd : decode M.2.1 pc = .ok (.bipush n, 2)) (hv : (Int8.ofInt n).toInt32 = v) (hn : pc + 2 = nx) : tk_So sc M pc (tk_ic v nx) := by
  subst hn
  intro l D cy L st μ kc ks K q hK ha p e s m args below meth cd H locs ad ad0 n0 A ls hC hR hS hA hL hN hX
  exact lv_bipush hC.1 hC.2.1 hd hv (hK _ ha p e s m args below meth cd H locs ad ad0 n0 A ls hC hR hS hA hL hN hX)
theorem so_sipush {n : Int} {v : Int32} (hd : decode M.2.1 pc = .ok (.sipush n, 3)) (hv : (Int16.ofInt n).toInt32 = v) (hn : pc + 3 = nx) : tk_So sc M pc (tk_ic v nx) := by
  subst hn
  intro l D cy L st μ kc ks K q hK ha p e s m args below meth cd H locs ad ad0 n0 A ls hC hR hS hA hL hN hX
  exact lv_sipush hC.1 hC.2.1 hd hv (hK _ ha p e s m args below meth cd H locs ad ad0 n0 A ls hC hR hS hA hL hN hX)
theorem so_ldc {i : Nat} {v : Int32} (hd : decode M.2.1 pc = .ok (.ldc i, 2)) (hw : Cond.constant M.1.cls i v ∈ tk_G) (hn : pc + 2 = nx) : tk_So sc M pc (tk_ic v nx) := by
  subst hn
  intro l D cy L st μ kc ks K q hK ha p e s m args below meth cd H locs ad ad0 n0 A ls hC hR hS hA hL hN hX
  exact lv_ldc hC.1 hC.2.1 hC.2.2.2.2.1 (hC.2.2.2.2.2.1 _ hw) hd (hK _ ha p e s m args below meth cd H locs ad ad0 n0 A ls hC hR hS hA hL hN hX)
theorem so_ldcw {i : Nat} {v : Int32} (hd : decode M.2.1 pc = .ok (.ldc_w i, 3)) (hw : Cond.constant M.1.cls i v ∈ tk_G) (hn : pc + 3 = nx) : tk_So sc M pc (tk_ic v nx) := by
  subst hn
  intro l D cy L st μ kc ks K q hK ha p e s m args below meth cd H locs ad ad0 n0 A ls hC hR hS hA hL hN hX
  exact lv_ldcw hC.1 hC.2.1 hC.2.2.2.2.1 (hC.2.2.2.2.2.1 _ hw) hd (hK _ ha p e s m args below meth cd H locs ad ad0 n0 A ls hC hR hS hA hL hN hX)
theorem so_ldc2 {i : Nat} {v : Int64} (hd : decode M.2.1 pc = .ok (.ldc2_w i, 3)) (hw : Cond.constantLong M.1.cls i v ∈ tk_G) (hn : pc + 3 = nx) : tk_So sc M pc (tk_lc v nx) := by
  subst hn
  intro l D cy L st μ kc ks K q hK ha p e s m args below meth cd H locs ad ad0 n0 A ls hC hR hS hA hL hN hX
  exact lv_ldc2 hC.1 hC.2.1 hC.2.2.2.2.1 (hC.2.2.2.2.2.1 _ hw) hd (hK _ ha p e s m args below meth cd H locs ad ad0 n0 A ls hC hR hS hA hL hN hX)
theorem so_lconst {n : Fin 2} {v : Int64} (hd : decode M.2.1 pc = .ok (.lconst n, 1)) (hv : Int64.ofNat (n : Nat) = v) (hn : pc + 1 = nx) : tk_So sc M pc (tk_lc v nx) := by
  subst hn
  intro l D cy L st μ kc ks K q hK ha p e s m args below meth cd H locs ad ad0 n0 A ls hC hR hS hA hL hN hX
  exact lv_lconst hC.1 hC.2.1 hd hv (hK _ ha p e s m args below meth cd H locs ad ad0 n0 A ls hC hR hS hA hL hN hX)
theorem so_iload_n {k : Fin 4} {i : Nat} (hd : decode M.2.1 pc = .ok (.iload_n k, 1)) (hi : (k : Nat) = i) (hn : pc + 1 = nx) : tk_So sc M pc (tk_il i nx) := by
  subst hn
  intro l D cy L st μ kc ks K q hK ha p e s m args below meth cd H locs ad ad0 n0 A ls hC hR hS hA hL hN hX
  unfold tk_il at ha
  split at ha
  · rename_i x hx
    exact lv_iload_n hC.1 hC.2.1 hd hi (tk_L_at hL hx) (hK _ ha p e s m args below meth cd H locs ad ad0 n0 A ls hC hR hS hA hL hN hX)
  · exact ha.elim
theorem so_iload {i : Nat} (hd : decode M.2.1 pc = .ok (.iload i, 2)) (hn : pc + 2 = nx) : tk_So sc M pc (tk_il i nx) := by
  subst hn
  intro l D cy L st μ kc ks K q hK ha p e s m args below meth cd H locs ad ad0 n0 A ls hC hR hS hA hL hN hX
  unfold tk_il at ha
  split at ha
  · rename_i x hx
    exact lv_iload hC.1 hC.2.1 hd (tk_L_at hL hx) (hK _ ha p e s m args below meth cd H locs ad ad0 n0 A ls hC hR hS hA hL hN hX)
  · exact ha.elim
theorem so_aload_n {k : Fin 4} {i : Nat} (hd : decode M.2.1 pc = .ok (.aload_n k, 1)) (hi : (k : Nat) = i) (hn : pc + 1 = nx) : tk_So sc M pc (tk_al i nx) := by
  subst hn
  intro l D cy L st μ kc ks K q hK ha p e s m args below meth cd H locs ad ad0 n0 A ls hC hR hS hA hL hN hX
  unfold tk_al at ha
  split at ha
  · rename_i x hx
    exact lv_aload_n hC.1 hC.2.1 hd hi (tk_L_at hL hx) (hK _ ha p e s m args below meth cd H locs ad ad0 n0 A ls hC hR hS hA hL hN hX)
  · exact ha.elim
theorem so_aload {i : Nat} (hd : decode M.2.1 pc = .ok (.aload i, 2)) (hn : pc + 2 = nx) : tk_So sc M pc (tk_al i nx) := by
  subst hn
  intro l D cy L st μ kc ks K q hK ha p e s m args below meth cd H locs ad ad0 n0 A ls hC hR hS hA hL hN hX
  unfold tk_al at ha
  split at ha
  · rename_i x hx
    exact lv_aload hC.1 hC.2.1 hd (tk_L_at hL hx) (hK _ ha p e s m args below meth cd H locs ad ad0 n0 A ls hC hR hS hA hL hN hX)
  · exact ha.elim
theorem so_istore_n {k : Fin 4} {i : Nat} (hd : decode M.2.1 pc = .ok (.istore_n k, 1)) (hi : (k : Nat) = i) (hn : pc + 1 = nx) : tk_So sc M pc (tk_sI i nx) := by
  subst hn
  intro l D cy L st μ kc ks K q hK ha p e s m args below meth cd H locs ad ad0 n0 A ls hC hR hS hA hL hN hX
  unfold tk_sI at ha
  split at ha
  · rename_i x r
    obtain ⟨h1, h2⟩ := tk_set_at ha
    exact lv_istore_n hC.1 hC.2.1 hd hi hL.1 (by rw [← hL.2.1]; exact h1) rfl (fun ls' h' => hK _ h2 p e s m args below meth cd H locs ad ad0 n0 A ls' hC hR hS hA (tk_L_set hL h1 rfl h') hN hX)
  · exact ha.elim
theorem so_istore {i : Nat} (hd : decode M.2.1 pc = .ok (.istore i, 2)) (hn : pc + 2 = nx) : tk_So sc M pc (tk_sI i nx) := by
  subst hn
  intro l D cy L st μ kc ks K q hK ha p e s m args below meth cd H locs ad ad0 n0 A ls hC hR hS hA hL hN hX
  unfold tk_sI at ha
  split at ha
  · rename_i x r
    obtain ⟨h1, h2⟩ := tk_set_at ha
    exact lv_istore hC.1 hC.2.1 hd hL.1 (by rw [← hL.2.1]; exact h1) rfl (fun ls' h' => hK _ h2 p e s m args below meth cd H locs ad ad0 n0 A ls' hC hR hS hA (tk_L_set hL h1 rfl h') hN hX)
  · exact ha.elim
theorem so_astore_n {k : Fin 4} {i : Nat} (hd : decode M.2.1 pc = .ok (.astore_n k, 1)) (hi : (k : Nat) = i) (hn : pc + 1 = nx) : tk_So sc M pc (tk_sA i nx) := by
  subst hn
  intro l D cy L st μ kc ks K q hK ha p e s m args below meth cd H locs ad ad0 n0 A ls hC hR hS hA hL hN hX
  unfold tk_sA at ha
  split at ha
  · rename_i x r
    obtain ⟨h1, h2⟩ := tk_set_at ha
    exact lv_astore_n hC.1 hC.2.1 hd hi hL.1 (by rw [← hL.2.1]; exact h1) rfl (fun ls' h' => hK _ h2 p e s m args below meth cd H locs ad ad0 n0 A ls' hC hR hS hA (tk_L_set (v := .ref x) hL h1 rfl h') hN hX)
  · exact ha.elim
theorem so_astore {i : Nat} (hd : decode M.2.1 pc = .ok (.astore i, 2)) (hn : pc + 2 = nx) : tk_So sc M pc (tk_sA i nx) := by
  subst hn
  intro l D cy L st μ kc ks K q hK ha p e s m args below meth cd H locs ad ad0 n0 A ls hC hR hS hA hL hN hX
  unfold tk_sA at ha
  split at ha
  · rename_i x r
    obtain ⟨h1, h2⟩ := tk_set_at ha
    exact lv_astore hC.1 hC.2.1 hd hL.1 (by rw [← hL.2.1]; exact h1) rfl (fun ls' h' => hK _ h2 p e s m args below meth cd H locs ad ad0 n0 A ls' hC hR hS hA (tk_L_set (v := .ref x) hL h1 rfl h') hN hX)
  · exact ha.elim
theorem so_iinc {i : Nat} {n : Int} {d : Int32} (hd : decode M.2.1 pc = .ok (.iinc i n, 3)) (hv : Int32.ofInt n = d) (hn : pc + 3 = nx) : tk_So sc M pc (tk_inc i d nx) := by
  subst hn
  subst hv
  intro l D cy L st μ kc ks K q hK ha p e s m args below meth cd H locs ad ad0 n0 A ls hC hR hS hA hL hN hX
  unfold tk_inc at ha
  split at ha
  · rename_i x hx
    obtain ⟨h1, h2⟩ := tk_set_at ha
    obtain ⟨k, hk⟩ := List.getElem?_of_mem (tk_lv_mem (ad := ad).mpr ⟨_, tk_nth_at hx, rfl⟩)
    exact lv_iinc hC.1 hC.2.1 hd hL.1 hk rfl (by rw [← hL.2.1]; exact h1) rfl (fun ls' h' => hK _ h2 p e s m args below meth cd H locs ad ad0 n0 A ls' hC hR hS hA (tk_L_set (v := .int (x + Int32.ofInt n)) hL h1 rfl h') hN hX)
  · exact ha.elim
end
end
section
section
variable {sc : Option (Nat × (Nat → Int32))} {M : tk_Md} {pc nx : Nat}
theorem so_iadd (hd : decode M.2.1 pc = .ok (.iadd, 1)) (hn : pc + 1 = nx) : tk_So sc M pc (tk_bi (fun x y => x + y) nx) := by
  subst hn
  intro l D cy L st μ kc ks K q hK ha p e s m args below meth cd H locs ad ad0 n0 A ls hC hR hS hA hL hN hX
  unfold tk_bi at ha
  split at ha
  · exact lv_iadd hC.1 hC.2.1 hd (hK _ ha p e s m args below meth cd H locs ad ad0 n0 A ls hC hR hS hA hL hN hX)
  · exact ha.elim
theorem so_isub (hd : decode M.2.1 pc = .ok (.isub, 1)) (hn : pc + 1 = nx) : tk_So sc M pc (tk_bi (fun x y => x - y) nx) := by
  subst hn
  intro l D cy L st μ kc ks K q hK ha p e s m args below meth cd H locs ad ad0 n0 A ls hC hR hS hA hL hN hX
  unfold tk_bi at ha
  split at ha
  · exact lv_isub hC.1 hC.2.1 hd (hK _ ha p e s m args below meth cd H locs ad ad0 n0 A ls hC hR hS hA hL hN hX)
  · exact ha.elim
theorem so_imul (hd : decode M.2.1 pc = .ok (.imul, 1)) (hn : pc + 1 = nx) : tk_So sc M pc (tk_bi (fun x y => x * y) nx) := by
  subst hn
  intro l D cy L st μ kc ks K q hK ha p e s m args below meth cd H locs ad ad0 n0 A ls hC hR hS hA hL hN hX
  unfold tk_bi at ha
  split at ha
  · exact lv_imul hC.1 hC.2.1 hd (hK _ ha p e s m args below meth cd H locs ad ad0 n0 A ls hC hR hS hA hL hN hX)
  · exact ha.elim
theorem so_iand (hd : decode M.2.1 pc = .ok (.iand, 1)) (hn : pc + 1 = nx) : tk_So sc M pc (tk_bi (fun x y => x &&& y) nx) := by
  subst hn
  intro l D cy L st μ kc ks K q hK ha p e s m args below meth cd H locs ad ad0 n0 A ls hC hR hS hA hL hN hX
  unfold tk_bi at ha
  split at ha
  · exact lv_iand hC.1 hC.2.1 hd (hK _ ha p e s m args below meth cd H locs ad ad0 n0 A ls hC hR hS hA hL hN hX)
  · exact ha.elim
theorem so_ior (hd : decode M.2.1 pc = .ok (.ior, 1)) (hn : pc + 1 = nx) : tk_So sc M pc (tk_bi (fun x y => x ||| y) nx) := by
  subst hn
  intro l D cy L st μ kc ks K q hK ha p e s m args below meth cd H locs ad ad0 n0 A ls hC hR hS hA hL hN hX
  unfold tk_bi at ha
  split at ha
  · exact lv_ior hC.1 hC.2.1 hd (hK _ ha p e s m args below meth cd H locs ad ad0 n0 A ls hC hR hS hA hL hN hX)
  · exact ha.elim
theorem so_ixor (hd : decode M.2.1 pc = .ok (.ixor, 1)) (hn : pc + 1 = nx) : tk_So sc M pc (tk_bi (fun x y => x ^^^ y) nx) := by
  subst hn
  intro l D cy L st μ kc ks K q hK ha p e s m args below meth cd H locs ad ad0 n0 A ls hC hR hS hA hL hN hX
  unfold tk_bi at ha
  split at ha
  · exact lv_ixor hC.1 hC.2.1 hd (hK _ ha p e s m args below meth cd H locs ad ad0 n0 A ls hC hR hS hA hL hN hX)
  · exact ha.elim
theorem so_ishl (hd : decode M.2.1 pc = .ok (.ishl, 1)) (hn : pc + 1 = nx) : tk_So sc M pc (tk_bi (fun x y => x <<< (y &&& 31)) nx) := by
  subst hn
  intro l D cy L st μ kc ks K q hK ha p e s m args below meth cd H locs ad ad0 n0 A ls hC hR hS hA hL hN hX
  unfold tk_bi at ha
  split at ha
  · exact lv_ishl hC.1 hC.2.1 hd (hK _ ha p e s m args below meth cd H locs ad ad0 n0 A ls hC hR hS hA hL hN hX)
  · exact ha.elim
theorem so_ishr (hd : decode M.2.1 pc = .ok (.ishr, 1)) (hn : pc + 1 = nx) : tk_So sc M pc (tk_bi (fun x y => x >>> (y &&& 31)) nx) := by
  subst hn
  intro l D cy L st μ kc ks K q hK ha p e s m args below meth cd H locs ad ad0 n0 A ls hC hR hS hA hL hN hX
  unfold tk_bi at ha
  split at ha
  · exact lv_ishr hC.1 hC.2.1 hd (hK _ ha p e s m args below meth cd H locs ad ad0 n0 A ls hC hR hS hA hL hN hX)
  · exact ha.elim
theorem so_iushr (hd : decode M.2.1 pc = .ok (.iushr, 1)) (hn : pc + 1 = nx) : tk_So sc M pc (tk_bi (fun x y => (x.toUInt32 >>> (y.toUInt32 &&& Int32.toUInt32 31)).toInt32) nx) := by
  subst hn
  intro l D cy L st μ kc ks K q hK ha p e s m args below meth cd H locs ad ad0 n0 A ls hC hR hS hA hL hN hX
  unfold tk_bi at ha
  split at ha
  · exact lv_iushr hC.1 hC.2.1 hd rfl (hK _ ha p e s m args below meth cd H locs ad ad0 n0 A ls hC hR hS hA hL hN hX)
  · exact ha.elim
theorem so_idiv (hd : decode M.2.1 pc = .ok (.idiv, 1)) (hn : pc + 1 = nx) : tk_So sc M pc (tk_dv (fun x y => x / y) nx) := by
  subst hn
  intro l D cy L st μ kc ks K q hK ha p e s m args below meth cd H locs ad ad0 n0 A ls hC hR hS hA hL hN hX
  unfold tk_dv at ha
  split at ha
  · exact lv_idiv hC.1 hC.2.1 hd ha.1 (hK _ ha.2 p e s m args below meth cd H locs ad ad0 n0 A ls hC hR hS hA hL hN hX)
  · exact ha.elim
theorem so_irem (hd : decode M.2.1 pc = .ok (.irem, 1)) (hn : pc + 1 = nx) : tk_So sc M pc (tk_dv (fun x y => x - x / y * y) nx) := by
  subst hn
  intro l D cy L st μ kc ks K q hK ha p e s m args below meth cd H locs ad ad0 n0 A ls hC hR hS hA hL hN hX
  unfold tk_dv at ha
  split at ha
  · exact lv_irem hC.1 hC.2.1 hd ha.1 (hK _ ha.2 p e s m args below meth cd H locs ad ad0 n0 A ls hC hR hS hA hL hN hX)
  · exact ha.elim
theorem so_i2c (hd : decode M.2.1 pc = .ok (.i2c, 1)) (hn : pc + 1 = nx) : tk_So sc M pc (tk_un (fun x => (x.toUInt32 % 65536).toInt32) nx) := by
  subst hn
  intro l D cy L st μ kc ks K q hK ha p e s m args below meth cd H locs ad ad0 n0 A ls hC hR hS hA hL hN hX
  unfold tk_un at ha
  split at ha
  · exact lv_i2c hC.1 hC.2.1 hd rfl (hK _ ha p e s m args below meth cd H locs ad ad0 n0 A ls hC hR hS hA hL hN hX)
  · exact ha.elim
theorem so_ladd (hd : decode M.2.1 pc = .ok (.ladd, 1)) (hn : pc + 1 = nx) : tk_So sc M pc (tk_lad nx) := by
  subst hn
  intro l D cy L st μ kc ks K q hK ha p e s m args below meth cd H locs ad ad0 n0 A ls hC hR hS hA hL hN hX
  unfold tk_lad at ha
  split at ha
  · exact lv_ladd hC.1 hC.2.1 hd (hK _ ha p e s m args below meth cd H locs ad ad0 n0 A ls hC hR hS hA hL hN hX)
  · exact ha.elim
theorem so_lcmp (hd : decode M.2.1 pc = .ok (.lcmp, 1)) (hn : pc + 1 = nx) : tk_So sc M pc (tk_lcm nx) := by
  subst hn
  intro l D cy L st μ kc ks K q hK ha p e s m args below meth cd H locs ad ad0 n0 A ls hC hR hS hA hL hN hX
  unfold tk_lcm at ha
  split at ha
  · exact W.lcmp hC.1 hC.2.1 hd (hK _ ha p e s m args below meth cd H locs ad ad0 n0 A ls hC hR hS hA hL hN hX)
  · exact ha.elim
theorem so_dup (hd : decode M.2.1 pc = .ok (.dup, 1)) (hn : pc + 1 = nx) : tk_So sc M pc (tk_dup nx) := by
  subst hn
  intro l D cy L st μ kc ks K q hK ha p e s m args below meth cd H locs ad ad0 n0 A ls hC hR hS hA hL hN hX
  unfold tk_dup at ha
  split at ha
  · exact lv_dup hC.1 hC.2.1 hd rfl (hK _ ha p e s m args below meth cd H locs ad ad0 n0 A ls hC hR hS hA hL hN hX)
  · exact lv_dup hC.1 hC.2.1 hd rfl (hK _ ha p e s m args below meth cd H locs ad ad0 n0 A ls hC hR hS hA hL hN hX)
  · exact ha.elim
theorem so_dup2 (hd : decode M.2.1 pc = .ok (.dup2, 1)) (hn : pc + 1 = nx) : tk_So sc M pc (tk_du2 nx) := by
  subst hn
  intro l D cy L st μ kc ks K q hK ha p e s m args below meth cd H locs ad ad0 n0 A ls hC hR hS hA hL hN hX
  unfold tk_du2 at ha
  split at ha
  · exact lv_dup2_11 hC.1 hC.2.1 hd rfl rfl (hK _ ha p e s m args below meth cd H locs ad ad0 n0 A ls hC hR hS hA hL hN hX)
  · exact ha.elim
theorem so_pop (hd : decode M.2.1 pc = .ok (.pop, 1)) (hn : pc + 1 = nx) : tk_So sc M pc (tk_pp nx) := by
  subst hn
  intro l D cy L st μ kc ks K q hK ha p e s m args below meth cd H locs ad ad0 n0 A ls hC hR hS hA hL hN hX
  unfold tk_pp at ha
  split at ha
  · exact lv_pop hC.1 hC.2.1 hd rfl (hK _ ha p e s m args below meth cd H locs ad ad0 n0 A ls hC hR hS hA hL hN hX)
  · exact ha.elim
theorem so_goto {off : Int} {tg : Nat} (hd : decode M.2.1 pc = .ok (.goto off, 3)) (ht : (pc : Int) + off = (tg : Int)) : tk_So sc M pc (tk_jmp tg) := by
  intro l D cy L st μ kc ks K q hK ha p e s m args below meth cd H locs ad ad0 n0 A ls hC hR hS hA hL hN hX
  exact lv_goto hC.1 hC.2.1 hd ht (hK _ ha p e s m args below meth cd H locs ad ad0 n0 A ls hC hR hS hA hL hN hX)
theorem so_if_eq {off : Int} {tg : Nat} (hd : decode M.2.1 pc = .ok (.ifCond .eq off, 3)) (ht : (pc : Int) + off = (tg : Int)) (hn : pc + 3 = nx) : tk_So sc M pc (tk_br (fun x => x = 0) tg nx) := by
  subst hn
  intro l D cy L st μ kc ks K q hK ha p e s m args below meth cd H locs ad ad0 n0 A ls hC hR hS hA hL hN hX
  unfold tk_br at ha
  split at ha
  · exact lv_if_eq hC.1 hC.2.1 hd ht (fun h => (hK _ (ha.1 h) p e s m args below meth cd H locs ad ad0 n0 A ls hC hR hS hA hL hN hX)) (fun h => (hK _ (ha.2 h) p e s m args below meth cd H locs ad ad0 n0 A ls hC hR hS hA hL hN hX))
  · exact ha.elim
theorem so_icmp_eq {off : Int} {tg : Nat} (hd : decode M.2.1 pc = .ok (.if_icmp .eq off, 3)) (ht : (pc : Int) + off = (tg : Int)) (hn : pc + 3 = nx) : tk_So sc M pc (tk_cm (fun x y => x = y) tg nx) := by
  subst hn
  intro l D cy L st μ kc ks K q hK ha p e s m args below meth cd H locs ad ad0 n0 A ls hC hR hS hA hL hN hX
  unfold tk_cm at ha
  split at ha
  · exact lv_icmp_eq hC.1 hC.2.1 hd ht (fun h => (hK _ (ha.1 h) p e s m args below meth cd H locs ad ad0 n0 A ls hC hR hS hA hL hN hX)) (fun h => (hK _ (ha.2 h) p e s m args below meth cd H locs ad ad0 n0 A ls hC hR hS hA hL hN hX))
  · exact ha.elim
theorem so_if_ne {off : Int} {tg : Nat} (hd : decode M.2.1 pc = .ok (.ifCond .ne off, 3)) (ht : (pc : Int) + off = (tg : Int)) (hn : pc + 3 = nx) : tk_So sc M pc (tk_br (fun x => x = 0) nx tg) := by
  subst hn
  intro l D cy L st μ kc ks K q hK ha p e s m args below meth cd H locs ad ad0 n0 A ls hC hR hS hA hL hN hX
  unfold tk_br at ha
  split at ha
  · exact lv_if_ne hC.1 hC.2.1 hd ht (fun h => (hK _ (ha.2 h) p e s m args below meth cd H locs ad ad0 n0 A ls hC hR hS hA hL hN hX)) (fun h => (hK _ (ha.1 h) p e s m args below meth cd H locs ad ad0 n0 A ls hC hR hS hA hL hN hX))
  · exact ha.elim
theorem so_icmp_ne {off : Int} {tg : Nat} (hd : decode M.2.1 pc = .ok (.if_icmp .ne off, 3)) (ht : (pc : Int) + off = (tg : Int)) (hn : pc + 3 = nx) : tk_So sc M pc (tk_cm (fun x y => x = y) nx tg) := by
  subst hn
  intro l D cy L st μ kc ks K q hK ha p e s m args below meth cd H locs ad ad0 n0 A ls hC hR hS hA hL hN hX
  unfold tk_cm at ha
  split at ha
  · exact lv_icmp_ne hC.1 hC.2.1 hd ht (fun h => (hK _ (ha.2 h) p e s m args below meth cd H locs ad ad0 n0 A ls hC hR hS hA hL hN hX)) (fun h => (hK _ (ha.1 h) p e s m args below meth cd H locs ad ad0 n0 A ls hC hR hS hA hL hN hX))
  · exact ha.elim
theorem so_if_lt {off : Int} {tg : Nat} (hd : decode M.2.1 pc = .ok (.ifCond .lt off, 3)) (ht : (pc : Int) + off = (tg : Int)) (hn : pc + 3 = nx) : tk_So sc M pc (tk_br (fun x => x < 0) tg nx) := by
  subst hn
  intro l D cy L st μ kc ks K q hK ha p e s m args below meth cd H locs ad ad0 n0 A ls hC hR hS hA hL hN hX
  unfold tk_br at ha
  split at ha
  · exact lv_if_lt hC.1 hC.2.1 hd ht (fun h => (hK _ (ha.1 h) p e s m args below meth cd H locs ad ad0 n0 A ls hC hR hS hA hL hN hX)) (fun h => (hK _ (ha.2 h) p e s m args below meth cd H locs ad ad0 n0 A ls hC hR hS hA hL hN hX))
  · exact ha.elim
theorem so_icmp_lt {off : Int} {tg : Nat} (hd : decode M.2.1 pc = .ok (.if_icmp .lt off, 3)) (ht : (pc : Int) + off = (tg : Int)) (hn : pc + 3 = nx) : tk_So sc M pc (tk_cm (fun x y => x < y) tg nx) := by
  subst hn
  intro l D cy L st μ kc ks K q hK ha p e s m args below meth cd H locs ad ad0 n0 A ls hC hR hS hA hL hN hX
  unfold tk_cm at ha
  split at ha
  · exact lv_icmp_lt hC.1 hC.2.1 hd ht (fun h => (hK _ (ha.1 h) p e s m args below meth cd H locs ad ad0 n0 A ls hC hR hS hA hL hN hX)) (fun h => (hK _ (ha.2 h) p e s m args below meth cd H locs ad ad0 n0 A ls hC hR hS hA hL hN hX))
  · exact ha.elim
theorem so_if_ge {off : Int} {tg : Nat} (hd : decode M.2.1 pc = .ok (.ifCond .ge off, 3)) (ht : (pc : Int) + off = (tg : Int)) (hn : pc + 3 = nx) : tk_So sc M pc (tk_br (fun x => 0 ≤ x) tg nx) := by
  subst hn
  intro l D cy L st μ kc ks K q hK ha p e s m args below meth cd H locs ad ad0 n0 A ls hC hR hS hA hL hN hX
  unfold tk_br at ha
  split at ha
  · exact lv_if_ge hC.1 hC.2.1 hd ht (fun h => (hK _ (ha.1 h) p e s m args below meth cd H locs ad ad0 n0 A ls hC hR hS hA hL hN hX)) (fun h => (hK _ (ha.2 h) p e s m args below meth cd H locs ad ad0 n0 A ls hC hR hS hA hL hN hX))
  · exact ha.elim
theorem so_icmp_ge {off : Int} {tg : Nat} (hd : decode M.2.1 pc = .ok (.if_icmp .ge off, 3)) (ht : (pc : Int) + off = (tg : Int)) (hn : pc + 3 = nx) : tk_So sc M pc (tk_cm (fun x y => y ≤ x) tg nx) := by
  subst hn
  intro l D cy L st μ kc ks K q hK ha p e s m args below meth cd H locs ad ad0 n0 A ls hC hR hS hA hL hN hX
  unfold tk_cm at ha
  split at ha
  · exact lv_icmp_ge hC.1 hC.2.1 hd ht (fun h => (hK _ (ha.1 h) p e s m args below meth cd H locs ad ad0 n0 A ls hC hR hS hA hL hN hX)) (fun h => (hK _ (ha.2 h) p e s m args below meth cd H locs ad ad0 n0 A ls hC hR hS hA hL hN hX))
  · exact ha.elim
theorem so_if_gt {off : Int} {tg : Nat} (hd : decode M.2.1 pc = .ok (.ifCond .gt off, 3)) (ht : (pc : Int) + off = (tg : Int)) (hn : pc + 3 = nx) : tk_So sc M pc (tk_br (fun x => 0 < x) tg nx) := by
  subst hn
  intro l D cy L st μ kc ks K q hK ha p e s m args below meth cd H locs ad ad0 n0 A ls hC hR hS hA hL hN hX
  unfold tk_br at ha
  split at ha
  · exact lv_if_gt hC.1 hC.2.1 hd ht (fun h => (hK _ (ha.1 h) p e s m args below meth cd H locs ad ad0 n0 A ls hC hR hS hA hL hN hX)) (fun h => (hK _ (ha.2 h) p e s m args below meth cd H locs ad ad0 n0 A ls hC hR hS hA hL hN hX))
  · exact ha.elim
theorem so_icmp_gt {off : Int} {tg : Nat} (hd : decode M.2.1 pc = .ok (.if_icmp .gt off, 3)) (ht : (pc : Int) + off = (tg : Int)) (hn : pc + 3 = nx) : tk_So sc M pc (tk_cm (fun x y => y < x) tg nx) := by
  subst hn
  intro l D cy L st μ kc ks K q hK ha p e s m args below meth cd H locs ad ad0 n0 A ls hC hR hS hA hL hN hX
  unfold tk_cm at ha
  split at ha
  · exact lv_icmp_gt hC.1 hC.2.1 hd ht (fun h => (hK _ (ha.1 h) p e s m args below meth cd H locs ad ad0 n0 A ls hC hR hS hA hL hN hX)) (fun h => (hK _ (ha.2 h) p e s m args below meth cd H locs ad ad0 n0 A ls hC hR hS hA hL hN hX))
  · exact ha.elim
theorem so_if_le {off : Int} {tg : Nat} (hd : decode M.2.1 pc = .ok (.ifCond .le off, 3)) (ht : (pc : Int) + off = (tg : Int)) (hn : pc + 3 = nx) : tk_So sc M pc (tk_br (fun x => x ≤ 0) tg nx) := by
  subst hn
  intro l D cy L st μ kc ks K q hK ha p e s m args below meth cd H locs ad ad0 n0 A ls hC hR hS hA hL hN hX
  unfold tk_br at ha
  split at ha
  · exact lv_if_le hC.1 hC.2.1 hd ht (fun h => (hK _ (ha.1 h) p e s m args below meth cd H locs ad ad0 n0 A ls hC hR hS hA hL hN hX)) (fun h => (hK _ (ha.2 h) p e s m args below meth cd H locs ad ad0 n0 A ls hC hR hS hA hL hN hX))
  · exact ha.elim
theorem so_icmp_le {off : Int} {tg : Nat} (hd : decode M.2.1 pc = .ok (.if_icmp .le off, 3)) (ht : (pc : Int) + off = (tg : Int)) (hn : pc + 3 = nx) : tk_So sc M pc (tk_cm (fun x y => x ≤ y) tg nx) := by
  subst hn
  intro l D cy L st μ kc ks K q hK ha p e s m args below meth cd H locs ad ad0 n0 A ls hC hR hS hA hL hN hX
  unfold tk_cm at ha
  split at ha
  · exact lv_icmp_le hC.1 hC.2.1 hd ht (fun h => (hK _ (ha.1 h) p e s m args below meth cd H locs ad ad0 n0 A ls hC hR hS hA hL hN hX)) (fun h => (hK _ (ha.2 h) p e s m args below meth cd H locs ad ad0 n0 A ls hC hR hS hA hL hN hX))
  · exact ha.elim
theorem tk_cas_mp {cs : List (Int32 × Nat)} {x : Int32} {d : Nat} {K : Nat → Prop} (h : tk_cas cs x d K) : (∃ t, (x, t) ∈ cs ∧ K t) ∨ ((∀ r ∈ cs, ¬ x = r.1) ∧ K d) := by
  induction cs with
  | nil => exact Or.inr ⟨(fun r hr => absurd hr List.not_mem_nil), h⟩
  | cons a l ih =>
    obtain ⟨v, t⟩ := a
    by_cases hx : x = v
    · subst hx
      exact Or.inl ⟨t, List.mem_cons_self, h.1 rfl⟩
    · rcases ih (h.2 hx) with ⟨t', h1, h2⟩ | ⟨h1, h2⟩
      · exact Or.inl ⟨t', List.mem_cons_of_mem _ h1, h2⟩
      · refine Or.inr ⟨fun r hr => ?_, h2⟩
        rcases List.mem_cons.mp hr with rfl | hr
        · exact hx
        · exact h1 r hr
theorem so_table {dflt : Int} {n : Nat} {offs : Array Int} {len d : Nat} {cs : List (Int32 × Nat)} (hd : decode M.2.1 pc = .ok (.tableswitch dflt 0 (n : Int) offs, len)) (ht : (pc : Int) + dflt = (d : Int))
    (h1 : cs.all (fun r => decide (¬ r.1.toInt < 0) && decide (¬ (n : Int) < r.1.toInt) && ((offs[(r.1.toInt - 0).toNat]?).map (fun o => decide ((pc : Int) + o = (r.2 : Int))) == some true)) = true)
    (h2 : (List.range (n + 1)).all (fun i => cs.any (fun r => r.1 == Int32.ofNat i)) = true) : tk_So sc M pc (tk_sw cs d) := by
  intro l D cy L st μ kc ks K q hK ha p e s m args below meth cd H locs ad ad0 n0 A ls hC hR hS hA hL hN hX
  unfold tk_sw at ha
  split at ha
  · rename_i x r
    rcases tk_cas_mp ha with ⟨t, g1, g2⟩ | ⟨g1, g2⟩
    · have g3 := List.all_eq_true.mp h1 _ g1
      simp only [Bool.and_eq_true, decide_eq_true_eq, beq_iff_eq] at g3
      obtain ⟨⟨g4, g5⟩, g6⟩ := g3
      cases hz : offs[(x.toInt - 0).toNat]? with
      | none => rw [hz] at g6; cases g6
      | some o =>
        rw [hz] at g6
        simp only [Option.map_some, Option.some.injEq, decide_eq_true_eq] at g6
        exact lv_tableIn hC.1 hC.2.1 hd g4 g5 hz g6 (hK _ g2 p e s m args below meth cd H locs ad ad0 n0 A ls hC hR hS hA hL hN hX)
    · refine lv_tableOut hC.1 hC.2.1 hd ?_ ht (hK _ g2 p e s m args below meth cd H locs ad ad0 n0 A ls hC hR hS hA hL hN hX)
      by_cases hlo : x.toInt < 0
      · exact Or.inl hlo
      · refine Or.inr (Int.lt_of_not_ge fun hhi => ?_)
        have e1 : x = Int32.ofNat x.toInt.toNat := by
          apply Int32.toInt_inj.mp
          rw [Int32.toInt_ofNat_of_lt (by have := Int32.toInt_lt x; omega)]
          omega
        have g3 := List.all_eq_true.mp h2 x.toInt.toNat (List.mem_range.mpr (by omega))
        obtain ⟨r0, g4, g5⟩ := List.any_eq_true.mp g3
        exact g1 r0 g4 (by rw [beq_iff_eq] at g5; rw [g5]; exact e1)
  · exact ha.elim
theorem tk_fin {D : va_G} {cy : Nat → ClassId} {R : Room} {ad ad0 : Nat → Nat} {n0 kc : Nat} {A : Nat → Prop} {q : tk_Po} {r : Option Value} {μ : tk_Me} {s t : State} {H : Heap} {locs : List Loc} {as : Array Value}
    (hR : tk_R D cy A ad μ H) (hS : va_S A s.heap H locs) (h1 : ∀ i, i ≤ n0 → ad i = ad0 i) (h2 : n0 ≤ μ.2.2.2) (h3 : kc = 0 → ad = ad0) (h4 : kc ≤ R.cells) (hq : q r μ) (ht : t.heap = H) : tk_Q D cy R ad0 n0 A q as s (.returned (r.map (tk_v ad))) t :=
  ⟨⟨r, μ, ad, rfl, hq, h1, h2, fun h => h3 (by omega), by rw [ht]; exact hR⟩, hS.F ht⟩
theorem so_rI (hd : decode M.2.1 pc = .ok (.ireturn, 1)) (hr : M.2.2.2.1 = some .int) : tk_So sc M pc tk_rI := by
  intro l D cy L st μ kc ks K q hK ha p e s m args below meth cd H locs ad ad0 n0 A ls hC hR hS hA hL hN hX
  unfold tk_rI at ha
  have hlk : meth.locks = false := hC.2.2.2.2.2.2.1
  split at ha
  · refine W.widen hN.2.2.2.1 hN.2.2.2.2 ?_
    exact W.iret hC.1 hC.2.1 (hC.2.2.1.trans hr) (fun t ht hW => tk_fin hR hS hN.1 hN.2.1 hN.2.2.1 hN.2.2.2.1 ha ht) hS.2.2 hd hlk
  · exact ha.elim
theorem so_rL (hd : decode M.2.1 pc = .ok (.lreturn, 1)) (hr : M.2.2.2.1 = some .long) : tk_So sc M pc tk_rL := by
  intro l D cy L st μ kc ks K q hK ha p e s m args below meth cd H locs ad ad0 n0 A ls hC hR hS hA hL hN hX
  unfold tk_rL at ha
  have hlk : meth.locks = false := hC.2.2.2.2.2.2.1
  split at ha
  · refine W.widen hN.2.2.2.1 hN.2.2.2.2 ?_
    exact W.lret hC.1 hC.2.1 (hC.2.2.1.trans hr) (fun t ht hW => tk_fin hR hS hN.1 hN.2.1 hN.2.2.1 hN.2.2.2.1 ha ht) hS.2.2 hd hlk
  · exact ha.elim
theorem so_rZ (hd : decode M.2.1 pc = .ok (.ireturn, 1)) (hr : M.2.2.2.1 = some .boolean) : tk_So sc M pc tk_rZ := by
  intro l D cy L st μ kc ks K q hK ha p e s m args below meth cd H locs ad ad0 n0 A ls hC hR hS hA hL hN hX
  unfold tk_rZ at ha
  have hlk : meth.locks = false := hC.2.2.2.2.2.2.1
  split at ha
  · rename_i x
    refine W.widen hN.2.2.2.1 hN.2.2.2.2 ?_
    exact W.zret hC.1 hC.2.1 (hC.2.2.1.trans hr) (by rcases ha.1 with h | h <;> subst h <;> rfl) (fun t ht hW => tk_fin hR hS hN.1 hN.2.1 hN.2.2.1 hN.2.2.2.1 ha.2 ht) hS.2.2 hd hlk
  · exact ha.elim
theorem so_rV (hd : decode M.2.1 pc = .ok (.return_, 1)) (hr : M.2.2.2.1 = none) : tk_So sc M pc tk_rV := by
  intro l D cy L st μ kc ks K q hK ha p e s m args below meth cd H locs ad ad0 n0 A ls hC hR hS hA hL hN hX
  unfold tk_rV at ha
  have hlk : meth.locks = false := hC.2.2.2.2.2.2.1
  split at ha
  · refine W.widen hN.2.2.2.1 hN.2.2.2.2 ?_
    exact W.vret hC.1 hC.2.1 (hC.2.2.1.trans hr) (fun t ht hW => tk_fin (r := none) hR hS hN.1 hN.2.1 hN.2.2.1 hN.2.2.2.1 ha ht) hS.2.2 hd hlk
  · exact ha.elim
theorem so_rA {rt : FieldType} (hd : decode M.2.1 pc = .ok (.areturn, 1)) (hr : M.2.2.2.1 = some (.array rt)) : tk_So sc M pc tk_rA := by
  intro l D cy L st μ kc ks K q hK ha p e s m args below meth cd H locs ad ad0 n0 A ls hC hR hS hA hL hN hX
  unfold tk_rA at ha
  have hlk : meth.locks = false := hC.2.2.2.2.2.2.1
  split at ha
  · rename_i x
    refine W.widen hN.2.2.2.1 hN.2.2.2.2 ?_
    exact W.aret hC.1 hC.2.1 (hC.2.2.1.trans hr) (Or.inr ⟨_, rfl⟩) (Or.inr ⟨ad x, rfl⟩) (fun t ht hW => tk_fin (r := some (.ref x)) hR hS hN.1 hN.2.1 hN.2.2.1 hN.2.2.2.1 ha ht) hS.2.2 hd hlk
  · exact ha.elim
end
end
section
/-! fields, arrays, the script -/
def tk_os (o : Option Nat) (K : Nat → Prop) : Prop := match o with
  | some x => K x
  | none => False
theorem tk_os.mp {o : Option Nat} {K : Nat → Prop} (h : tk_os o K) : ∃ x, o = some x ∧ K x := by
  cases o with
  | none => exact h.elim
  | some x => exact ⟨x, rfl, h⟩
theorem tk_osi {o : Option Nat} {x : Nat} {K : Nat → Prop} (ho : o = some x) (h : K x) : tk_os o K := by subst ho; exact h
def tk_gI (t k nx : Nat) : tk_Ac := fun L st μ kc ks K _ => match st, μ with
  | .ref p :: r, (σ, ρ, τ, n) => tk_if (tk_ok p t n) (K (nx, L, .int (σ p k) :: r, (σ, ρ, τ, n), kc, ks))
  | _, _ => False
def tk_gR (t k nx : Nat) : tk_Ac := fun L st μ kc ks K _ => match st, μ with
  | .ref p :: r, (σ, ρ, τ, n) => tk_if (tk_ok p t n) (tk_os (ρ p k) (fun x => K (nx, L, .ref x :: r, (σ, ρ, τ, n), kc, ks)))
  | _, _ => False
def tk_gL (t k nx : Nat) : tk_Ac := fun L st μ kc ks K _ => match st, μ with
  | .ref p :: r, (σ, ρ, τ, n) => tk_if (tk_ok p t n) (K (nx, L, .long (τ p k) :: r, (σ, ρ, τ, n), kc, ks))
  | _, _ => False
def tk_pI (t k nx : Nat) : tk_Ac := fun L st μ kc ks K _ => match st, μ with
  | .int x :: .ref p :: r, (σ, ρ, τ, n) => tk_if (tk_ok p t n) (K (nx, L, r, (tk_up σ p k x, ρ, τ, n), kc, ks))
  | _, _ => False
def tk_pZ (t k nx : Nat) : tk_Ac := fun L st μ kc ks K _ => match st, μ with
  | .int x :: .ref p :: r, (σ, ρ, τ, n) => tk_if (tk_ok p t n) ((x = 0 ∨ x = 1) ∧ K (nx, L, r, (tk_up σ p k x, ρ, τ, n), kc, ks))
  | _, _ => False
def tk_pR (t k nx : Nat) : tk_Ac := fun L st μ kc ks K _ => match st, μ with
  | .ref x :: .ref p :: r, (σ, ρ, τ, n) => tk_if (tk_ok p t n && Nat.ble x n) (K (nx, L, r, (σ, tk_up ρ p k (some x), τ, n), kc, ks))
  | _, _ => False
def tk_pL (t k nx : Nat) : tk_Ac := fun L st μ kc ks K _ => match st, μ with
  | .long x :: .ref p :: r, (σ, ρ, τ, n) => tk_if (tk_ok p t n) (K (nx, L, r, (σ, ρ, tk_up τ p k x, n), kc, ks))
  | _, _ => False
def tk_ai (t nx : Nat) : tk_Ac := fun L st μ kc ks K _ => match st, μ with
  | .int i :: .ref p :: r, (σ, ρ, τ, n) => tk_if (tk_ok p t n) (tk_if (tk_in i (tk_kd p).2) (K (nx, L, .int (σ p i.toNatClampNeg) :: r, (σ, ρ, τ, n), kc, ks)))
  | _, _ => False
def tk_aa (t nx : Nat) : tk_Ac := fun L st μ kc ks K _ => match st, μ with
  | .int i :: .ref p :: r, (σ, ρ, τ, n) => tk_if (tk_ok p t n) (tk_if (tk_in i (tk_kd p).2) (tk_os (ρ p i.toNatClampNeg) (fun x => K (nx, L, .ref x :: r, (σ, ρ, τ, n), kc, ks))))
  | _, _ => False
def tk_si (t : Nat) (f : Int32 → Int32) (nx : Nat) : tk_Ac := fun L st μ kc ks K _ => match st, μ with
  | .int x :: .int i :: .ref p :: r, (σ, ρ, τ, n) => tk_if (tk_ok p t n) (tk_if (tk_in i (tk_kd p).2) (K (nx, L, r, (tk_up σ p i.toNatClampNeg (f x), ρ, τ, n), kc, ks)))
  | _, _ => False
def tk_sq (t ci nx : Nat) : tk_Ac := fun L st μ kc ks K _ => match st, μ with
  | .ref x :: .int i :: .ref p :: r, (σ, ρ, τ, n) => tk_if (tk_ok p t n && tk_ok x ci n) (tk_if (tk_in i (tk_kd p).2) (K (nx, L, r, (σ, tk_up ρ p i.toNatClampNeg (some x), τ, n), kc, ks)))
  | _, _ => False
def tk_sld (xs : Nat → Int32) (Ls nx : Nat) : tk_Ac := fun L st μ kc ks K _ => match st with
  | .int i :: .ref p :: r => tk_if (Nat.beq p 0) (tk_if (tk_in i Ls) (K (nx, L, .int (xs i.toNatClampNeg) :: r, μ, kc, ks)))
  | _ => False
def tk_sln (Ls nx : Nat) : tk_Ac := fun L st μ kc ks K _ => match st with
  | .ref p :: r => tk_if (Nat.beq p 0) (K (nx, L, .int (Int32.ofNat Ls) :: r, μ, kc, ks))
  | _ => False
theorem tk_ws_at {cy : Nat → ClassId} {ad : Nat → Nat} {μ : tk_Me} {p : Nat} (h1 : 1 ≤ p) (h2 : p ≤ μ.2.2.2) : (tk_ws cy ad μ)[p - 1]? = some (ad p, tk_cell cy ad μ p) := by
  unfold tk_ws
  rw [List.getElem?_map, List.getElem?_range (by omega)]
  simp only [Option.map_some]
  rw [show p - 1 + 1 = p by omega]
theorem tk_obj {cy : Nat → ClassId} {ad : Nat → Nat} {μ : tk_Me} {p t : Nat} (h : tk_ok p t μ.2.2.2 = true) (ht : t < 8) : (tk_ws cy ad μ)[p - 1]? = some (ad p, .inr (t, (List.range (tk_nf t)).map (fun k => tk_fv ad μ t p k))) := by
  obtain ⟨h0, h1, h2⟩ := tk_ok.mp h
  rw [tk_ws_at h1 h2]
  unfold tk_cell
  rw [h0, if_pos ht]
theorem tk_arr {cy : Nat → ClassId} {ad : Nat → Nat} {μ : tk_Me} {p t : Nat} (h : tk_ok p t μ.2.2.2 = true) (ht : 8 ≤ t) (ht2 : t < 11) : (tk_ws cy ad μ)[p - 1]? = some (ad p, .inl (cy t, (tk_kd p).2, .inl (μ.1 p))) := by
  obtain ⟨h0, h1, h2⟩ := tk_ok.mp h
  rw [tk_ws_at h1 h2]
  unfold tk_cell
  rw [h0, if_neg (by omega), if_pos ht2]
theorem tk_arq {cy : Nat → ClassId} {ad : Nat → Nat} {μ : tk_Me} {p t : Nat} (h : tk_ok p t μ.2.2.2 = true) (ht : 11 ≤ t) : (tk_ws cy ad μ)[p - 1]? = some (ad p, .inl (cy t, (tk_kd p).2, .inr (.inr (.inr (.inr (fun i => (μ.2.1 p i).map ad)))))) := by
  obtain ⟨h0, h1, h2⟩ := tk_ok.mp h
  rw [tk_ws_at h1 h2]
  unfold tk_cell
  rw [h0, if_neg (by omega), if_neg (by omega)]
theorem tk_ws_set {cy : Nat → ClassId} {ad : Nat → Nat} {μ μ' : tk_Me} {p : Nat} {e : va_E} (hn : μ'.2.2.2 = μ.2.2.2) (h1 : 1 ≤ p) (he : tk_cell cy ad μ' p = e) (ho : ∀ p', p' ≠ p → tk_cell cy ad μ' p' = tk_cell cy ad μ p') :
    (tk_ws cy ad μ).set (p - 1) (ad p, e) = tk_ws cy ad μ' := by
  apply List.ext_getElem?
  intro j
  unfold tk_ws
  rw [List.getElem?_set, List.length_map, List.length_range, List.getElem?_map, List.getElem?_map, hn]
  by_cases hj : j < μ.2.2.2
  · rw [List.getElem?_range hj]
    simp only [Option.map_some]
    by_cases hp : p - 1 = j
    · rw [if_pos hp, if_pos (by omega), ← he, show j + 1 = p by omega]
    · rw [if_neg hp, ho (j + 1) (by omega)]
  · have hz : (List.range μ.2.2.2)[j]? = none := List.getElem?_eq_none (by rw [List.length_range]; omega)
    rw [hz]
    by_cases hp : p - 1 = j
    · rw [if_pos hp, if_neg (by omega)]
      rfl
    · rw [if_neg hp]
      rfl
theorem tk_fs_set {nf k : Nat} {f g : Nat → Value} {v : Value} (hk : g k = v) (ho : ∀ j, j ≠ k → g j = f j) : (List.range nf).map g = ((List.range nf).map f).set k v := by
  apply List.ext_getElem?
  intro j
  rw [List.getElem?_set, List.length_map, List.length_range, List.getElem?_map, List.getElem?_map]
  by_cases hj : j < nf
  · rw [List.getElem?_range hj]
    simp only [Option.map_some]
    by_cases hp : k = j
    · rw [if_pos hp, if_pos (by omega), ← hp, hk]
    · rw [if_neg hp, ho j (fun h => hp h.symm)]
  · have hz : (List.range nf)[j]? = none := List.getElem?_eq_none (by rw [List.length_range]; omega)
    rw [hz]
    by_cases hp : k = j
    · rw [if_pos hp, if_neg (by omega)]
      rfl
    · rw [if_neg hp]
      rfl
theorem tk_up_at {α : Type} (f : Nat → Nat → α) (p k : Nat) (v : α) : tk_up f p k v p k = v := if_pos ⟨rfl, rfl⟩
theorem tk_up_p {α : Type} (f : Nat → Nat → α) {p k a : Nat} (v : α) (b : Nat) (h : a ≠ p) : tk_up f p k v a b = f a b := if_neg (fun q => h q.1)
theorem tk_up_k {α : Type} (f : Nat → Nat → α) {p k b : Nat} (v : α) (a : Nat) (h : b ≠ k) : tk_up f p k v a b = f a b := if_neg (fun q => h q.2)
theorem tk_cellI {cy : Nat → ClassId} {ad : Nat → Nat} {σ : Nat → Nat → Int32} {ρ : Nat → Nat → Option Nat} {τ : Nat → Nat → Int64} {n p k : Nat} {x : Int32} (p' : Nat) (h : p' ≠ p) : tk_cell cy ad (tk_up σ p k x, ρ, τ, n) p' = tk_cell cy ad (σ, ρ, τ, n) p' := by
  have e : (tk_up σ p k x) p' = σ p' := funext fun b => tk_up_p σ x b h
  unfold tk_cell tk_fv
  simp only [e]
theorem tk_cellR {cy : Nat → ClassId} {ad : Nat → Nat} {σ : Nat → Nat → Int32} {ρ : Nat → Nat → Option Nat} {τ : Nat → Nat → Int64} {n p k : Nat} {x : Option Nat} (p' : Nat) (h : p' ≠ p) : tk_cell cy ad (σ, tk_up ρ p k x, τ, n) p' = tk_cell cy ad (σ, ρ, τ, n) p' := by
  have e : (tk_up ρ p k x) p' = ρ p' := funext fun b => tk_up_p ρ x b h
  unfold tk_cell tk_fv
  simp only [e]
theorem tk_cellL {cy : Nat → ClassId} {ad : Nat → Nat} {σ : Nat → Nat → Int32} {ρ : Nat → Nat → Option Nat} {τ : Nat → Nat → Int64} {n p k : Nat} {x : Int64} (p' : Nat) (h : p' ≠ p) : tk_cell cy ad (σ, ρ, tk_up τ p k x, n) p' = tk_cell cy ad (σ, ρ, τ, n) p' := by
  have e : (tk_up τ p k x) p' = τ p' := funext fun b => tk_up_p τ x b h
  unfold tk_cell tk_fv
  simp only [e]
theorem tk_cell_obj {cy : Nat → ClassId} {ad : Nat → Nat} {μ : tk_Me} {p t : Nat} (h : (tk_kd p).1 = t) (ht : t < 8) : tk_cell cy ad μ p = .inr (t, (List.range (tk_nf t)).map (fun k => tk_fv ad μ t p k)) := by
  unfold tk_cell
  rw [h, if_pos ht]
theorem tk_cell_arr {cy : Nat → ClassId} {ad : Nat → Nat} {μ : tk_Me} {p t : Nat} (h : (tk_kd p).1 = t) (ht : 8 ≤ t) (ht2 : t < 11) : tk_cell cy ad μ p = .inl (cy t, (tk_kd p).2, .inl (μ.1 p)) := by
  unfold tk_cell
  rw [h, if_neg (by omega), if_pos ht2]
theorem tk_cell_arq {cy : Nat → ClassId} {ad : Nat → Nat} {μ : tk_Me} {p t : Nat} (h : (tk_kd p).1 = t) (ht : 11 ≤ t) : tk_cell cy ad μ p = .inl (cy t, (tk_kd p).2, .inr (.inr (.inr (.inr (fun i => (μ.2.1 p i).map ad))))) := by
  unfold tk_cell
  rw [h, if_neg (by omega), if_neg (by omega)]
theorem tk_fv_up {ad : Nat → Nat} {μ μ' : tk_Me} {t p k : Nat} (h1 : ∀ j, j ≠ k → μ'.1 p j = μ.1 p j) (h2 : ∀ j, j ≠ k → μ'.2.1 p j = μ.2.1 p j) (h3 : ∀ j, j ≠ k → μ'.2.2.1 p j = μ.2.2.1 p j) (j : Nat) (hj : j ≠ k) : tk_fv ad μ' t p j = tk_fv ad μ t p j := by
  unfold tk_fv
  rw [h1 j hj, h2 j hj, h3 j hj]
section
variable {sc : Option (Nat × (Nat → Int32))} {M : tk_Md} {pc nx : Nat}
theorem so_gI {t k idx : Nat} {C : String} {T : u_T} {N : Nat} (hd : decode M.2.1 pc = .ok (.getfield idx, 3)) (ht : t < 8) (hc : vwCl[t]? = some (C, T, N)) (hnf : tk_nf t = N) (hk : k < N) (hft : tk_ft t k = 0) (hin : ∀ w ∈ u_ws C T N, w ∈ tk_G) (hlk : Cond.fieldLink M.1.cls idx (T k).1 (T k).2.1 (T k).2.2.1 ∈ tk_G) (hn : pc + 3 = nx) : tk_So sc M pc (tk_gI t k nx) := by
  subst hn
  intro l D cy L st μ kc ks K q hK ha p9 e s m args below meth cd H locs ad ad0 n0 A ls hC hR hS hA hL hN hX
  unfold tk_gI at ha
  split at ha
  · rename_i p r σ ρ τ n
    obtain ⟨hok, ha⟩ := tk_if.mp ha
    refine va_get hC.1 hC.2.1 hC.2.2.2.2.2.1 hin hC.2.2.2.2.1 hC.2.2.2.2.2.2.2.2.1 hR.1 (p - 1) (tk_obj hok ht) hc k hk (hC.2.2.2.2.2.1 _ hlk) (fun _ h => h) (v := .int (σ p k)) ?_ hd (hK _ ha p9 e s m args below meth cd H locs ad ad0 n0 A ls hC hR hS hA hL hN hX)
    rw [List.getElem?_map, List.getElem?_range (by omega)]
    simp only [Option.map_some, tk_fv, hft]
  · exact ha.elim
theorem so_gL {t k idx : Nat} {C : String} {T : u_T} {N : Nat} (hd : decode M.2.1 pc = .ok (.getfield idx, 3)) (ht : t < 8) (hc : vwCl[t]? = some (C, T, N)) (hnf : tk_nf t = N) (hk : k < N) (hft : tk_ft t k = 2) (hin : ∀ w ∈ u_ws C T N, w ∈ tk_G) (hlk : Cond.fieldLink M.1.cls idx (T k).1 (T k).2.1 (T k).2.2.1 ∈ tk_G) (hn : pc + 3 = nx) : tk_So sc M pc (tk_gL t k nx) := by
  subst hn
  intro l D cy L st μ kc ks K q hK ha p9 e s m args below meth cd H locs ad ad0 n0 A ls hC hR hS hA hL hN hX
  unfold tk_gL at ha
  split at ha
  · rename_i p r σ ρ τ n
    obtain ⟨hok, ha⟩ := tk_if.mp ha
    refine va_get hC.1 hC.2.1 hC.2.2.2.2.2.1 hin hC.2.2.2.2.1 hC.2.2.2.2.2.2.2.2.1 hR.1 (p - 1) (tk_obj hok ht) hc k hk (hC.2.2.2.2.2.1 _ hlk) (fun _ h => h) (v := .long (τ p k)) ?_ hd (hK _ ha p9 e s m args below meth cd H locs ad ad0 n0 A ls hC hR hS hA hL hN hX)
    rw [List.getElem?_map, List.getElem?_range (by omega)]
    simp only [Option.map_some, tk_fv, hft]
  · exact ha.elim
theorem so_gR {t k idx : Nat} {C : String} {T : u_T} {N : Nat} (hd : decode M.2.1 pc = .ok (.getfield idx, 3)) (ht : t < 8) (hc : vwCl[t]? = some (C, T, N)) (hnf : tk_nf t = N) (hk : k < N) (hft : tk_ft t k = 1) (hin : ∀ w ∈ u_ws C T N, w ∈ tk_G) (hlk : Cond.fieldLink M.1.cls idx (T k).1 (T k).2.1 (T k).2.2.1 ∈ tk_G) (hn : pc + 3 = nx) : tk_So sc M pc (tk_gR t k nx) := by
  subst hn
  intro l D cy L st μ kc ks K q hK ha p9 e s m args below meth cd H locs ad ad0 n0 A ls hC hR hS hA hL hN hX
  unfold tk_gR at ha
  split at ha
  · rename_i p r σ ρ τ n
    obtain ⟨hok, ha⟩ := tk_if.mp ha
    obtain ⟨x, hx, ha⟩ := tk_os.mp ha
    refine va_get hC.1 hC.2.1 hC.2.2.2.2.2.1 hin hC.2.2.2.2.1 hC.2.2.2.2.2.2.2.2.1 hR.1 (p - 1) (tk_obj hok ht) hc k hk (hC.2.2.2.2.2.1 _ hlk) (fun _ h => h) (v := .ref (ad x)) ?_ hd (hK _ ha p9 e s m args below meth cd H locs ad ad0 n0 A ls hC hR hS hA hL hN hX)
    rw [List.getElem?_map, List.getElem?_range (by omega)]
    simp only [Option.map_some, tk_fv, hft, hx, va_rf]
  · exact ha.elim
theorem so_pI {t k idx : Nat} {C : String} {T : u_T} {N : Nat} (hd : decode M.2.1 pc = .ok (.putfield idx, 3)) (ht : t < 8) (hc : vwCl[t]? = some (C, T, N)) (hnf : tk_nf t = N) (hk : k < N) (hft : tk_ft t k = 0) (hin : ∀ w ∈ u_ws C T N, w ∈ tk_G) (hlk : Cond.fieldLink M.1.cls idx (T k).1 (T k).2.1 (T k).2.2.1 ∈ tk_G) (ty0 : Nat → FieldType) (hty : ∀ k, k < N → parseFieldDescriptor (T k).2.2.1 = some (ty0 k)) (hnm : ∀ a, a < N → ∀ b, b < N → a ≠ b → (T a).2.1 ≠ (T b).2.1) (hfin : (T k).2.2.2 = false) (hd2 : parseFieldDescriptor (T k).2.2.1 = some .int) (hn : pc + 3 = nx) : tk_So sc M pc (tk_pI t k nx) := by
  subst hn
  intro l D cy L st μ kc ks K q hK ha p9 e s m args below meth cd H locs ad ad0 n0 A ls hC hR hS hA hL hN hX
  unfold tk_pI at ha
  split at ha
  · rename_i x p r σ ρ τ n
    obtain ⟨hok, ha⟩ := tk_if.mp ha
    
    have hkd := (tk_ok.mp hok)
    refine va_put hC.1 hC.2.1 hC.2.2.2.2.2.1 hin ty0 hty hnm hC.2.2.2.2.1 hC.2.2.2.2.2.2.2.2.1 hR.1 hR.2.1 hS (p - 1) (tk_obj hok ht) hc k hk (hC.2.2.2.2.2.1 _ hlk) (fun _ h => h) hfin hd2 (v := .int x) rfl rfl (by rw [List.length_map, List.length_range]; omega) hd (fun H1 locs1 hP1 hD1 hS1 => ?_)
    have e9 : (tk_ws cy ad (σ, ρ, τ, n)).set (p - 1) (ad p, .inr (t, ((List.range (tk_nf t)).map (fun k => tk_fv ad (σ, ρ, τ, n) t p k)).set k (.int x))) = tk_ws cy ad (tk_up σ p k x, ρ, τ, n) := by
      refine tk_ws_set rfl hkd.2.1 ?_ (fun p' h => tk_cellI p' h)
      rw [tk_cell_obj hkd.1 ht]
      refine congrArg (fun z => Sum.inr (t, z)) (tk_fs_set ?_ (fun j hj => tk_fv_up (k := k) ?_ ?_ ?_ j hj))
      · simp only [tk_fv, hft, tk_up_at, Option.map_some, va_rf]
      · exact fun j hj => tk_up_k σ _ p hj
      · exact fun j hj => rfl
      · exact fun j hj => rfl
    rw [e9] at hP1 hD1
    exact hK _ ha p9 e s m args below meth cd H1 locs1 ad ad0 n0 A ls hC ⟨hP1, hD1, hR.2.2⟩ hS1 hA hL hN hX
  · exact ha.elim
theorem so_pZ {t k idx : Nat} {C : String} {T : u_T} {N : Nat} (hd : decode M.2.1 pc = .ok (.putfield idx, 3)) (ht : t < 8) (hc : vwCl[t]? = some (C, T, N)) (hnf : tk_nf t = N) (hk : k < N) (hft : tk_ft t k = 0) (hin : ∀ w ∈ u_ws C T N, w ∈ tk_G) (hlk : Cond.fieldLink M.1.cls idx (T k).1 (T k).2.1 (T k).2.2.1 ∈ tk_G) (ty0 : Nat → FieldType) (hty : ∀ k, k < N → parseFieldDescriptor (T k).2.2.1 = some (ty0 k)) (hnm : ∀ a, a < N → ∀ b, b < N → a ≠ b → (T a).2.1 ≠ (T b).2.1) (hfin : (T k).2.2.2 = false) (hd2 : parseFieldDescriptor (T k).2.2.1 = some .boolean) (hn : pc + 3 = nx) : tk_So sc M pc (tk_pZ t k nx) := by
  subst hn
  intro l D cy L st μ kc ks K q hK ha p9 e s m args below meth cd H locs ad ad0 n0 A ls hC hR hS hA hL hN hX
  unfold tk_pZ at ha
  split at ha
  · rename_i x p r σ ρ τ n
    obtain ⟨hok, ha⟩ := tk_if.mp ha
    obtain ⟨hx, ha⟩ := ha
    have hkd := (tk_ok.mp hok)
    refine va_put hC.1 hC.2.1 hC.2.2.2.2.2.1 hin ty0 hty hnm hC.2.2.2.2.1 hC.2.2.2.2.2.2.2.2.1 hR.1 hR.2.1 hS (p - 1) (tk_obj hok ht) hc k hk (hC.2.2.2.2.2.1 _ hlk) (fun _ h => h) hfin hd2 (v := .int x) (by rcases hx with h | h <;> subst h <;> rfl) (by rcases hx with h | h <;> subst h <;> rfl) (by rw [List.length_map, List.length_range]; omega) hd (fun H1 locs1 hP1 hD1 hS1 => ?_)
    have e9 : (tk_ws cy ad (σ, ρ, τ, n)).set (p - 1) (ad p, .inr (t, ((List.range (tk_nf t)).map (fun k => tk_fv ad (σ, ρ, τ, n) t p k)).set k (.int x))) = tk_ws cy ad (tk_up σ p k x, ρ, τ, n) := by
      refine tk_ws_set rfl hkd.2.1 ?_ (fun p' h => tk_cellI p' h)
      rw [tk_cell_obj hkd.1 ht]
      refine congrArg (fun z => Sum.inr (t, z)) (tk_fs_set ?_ (fun j hj => tk_fv_up (k := k) ?_ ?_ ?_ j hj))
      · simp only [tk_fv, hft, tk_up_at, Option.map_some, va_rf]
      · exact fun j hj => tk_up_k σ _ p hj
      · exact fun j hj => rfl
      · exact fun j hj => rfl
    rw [e9] at hP1 hD1
    exact hK _ ha p9 e s m args below meth cd H1 locs1 ad ad0 n0 A ls hC ⟨hP1, hD1, hR.2.2⟩ hS1 hA hL hN hX
  · exact ha.elim
theorem so_pL {t k idx : Nat} {C : String} {T : u_T} {N : Nat} (hd : decode M.2.1 pc = .ok (.putfield idx, 3)) (ht : t < 8) (hc : vwCl[t]? = some (C, T, N)) (hnf : tk_nf t = N) (hk : k < N) (hft : tk_ft t k = 2) (hin : ∀ w ∈ u_ws C T N, w ∈ tk_G) (hlk : Cond.fieldLink M.1.cls idx (T k).1 (T k).2.1 (T k).2.2.1 ∈ tk_G) (ty0 : Nat → FieldType) (hty : ∀ k, k < N → parseFieldDescriptor (T k).2.2.1 = some (ty0 k)) (hnm : ∀ a, a < N → ∀ b, b < N → a ≠ b → (T a).2.1 ≠ (T b).2.1) (hfin : (T k).2.2.2 = false) (hd2 : parseFieldDescriptor (T k).2.2.1 = some .long) (hn : pc + 3 = nx) : tk_So sc M pc (tk_pL t k nx) := by
  subst hn
  intro l D cy L st μ kc ks K q hK ha p9 e s m args below meth cd H locs ad ad0 n0 A ls hC hR hS hA hL hN hX
  unfold tk_pL at ha
  split at ha
  · rename_i x p r σ ρ τ n
    obtain ⟨hok, ha⟩ := tk_if.mp ha
    
    have hkd := (tk_ok.mp hok)
    refine va_put hC.1 hC.2.1 hC.2.2.2.2.2.1 hin ty0 hty hnm hC.2.2.2.2.1 hC.2.2.2.2.2.2.2.2.1 hR.1 hR.2.1 hS (p - 1) (tk_obj hok ht) hc k hk (hC.2.2.2.2.2.1 _ hlk) (fun _ h => h) hfin hd2 (v := .long x) rfl rfl (by rw [List.length_map, List.length_range]; omega) hd (fun H1 locs1 hP1 hD1 hS1 => ?_)
    have e9 : (tk_ws cy ad (σ, ρ, τ, n)).set (p - 1) (ad p, .inr (t, ((List.range (tk_nf t)).map (fun k => tk_fv ad (σ, ρ, τ, n) t p k)).set k (.long x))) = tk_ws cy ad (σ, ρ, tk_up τ p k x, n) := by
      refine tk_ws_set rfl hkd.2.1 ?_ (fun p' h => tk_cellL p' h)
      rw [tk_cell_obj hkd.1 ht]
      refine congrArg (fun z => Sum.inr (t, z)) (tk_fs_set ?_ (fun j hj => tk_fv_up (k := k) ?_ ?_ ?_ j hj))
      · simp only [tk_fv, hft, tk_up_at, Option.map_some, va_rf]
      · exact fun j hj => rfl
      · exact fun j hj => rfl
      · exact fun j hj => tk_up_k τ _ p hj
    rw [e9] at hP1 hD1
    exact hK _ ha p9 e s m args below meth cd H1 locs1 ad ad0 n0 A ls hC ⟨hP1, hD1, hR.2.2⟩ hS1 hA hL hN hX
  · exact ha.elim
theorem so_pR {t k idx : Nat} {C : String} {T : u_T} {N : Nat} (hd : decode M.2.1 pc = .ok (.putfield idx, 3)) (ht : t < 8) (hc : vwCl[t]? = some (C, T, N)) (hnf : tk_nf t = N) (hk : k < N) (hft : tk_ft t k = 1) (hin : ∀ w ∈ u_ws C T N, w ∈ tk_G) (hlk : Cond.fieldLink M.1.cls idx (T k).1 (T k).2.1 (T k).2.2.1 ∈ tk_G) (ty0 : Nat → FieldType) (hty : ∀ k, k < N → parseFieldDescriptor (T k).2.2.1 = some (ty0 k)) (hnm : ∀ a, a < N → ∀ b, b < N → a ≠ b → (T a).2.1 ≠ (T b).2.1) (hfin : (T k).2.2.2 = false) {ty : FieldType} (hd2 : parseFieldDescriptor (T k).2.2.1 = some ty) (hnar : ∀ a, narrow ty (.ref a) = .ref a) (hfit : ∀ a, fits ty (.ref a) = true) (hn : pc + 3 = nx) : tk_So sc M pc (tk_pR t k nx) := by
  subst hn
  intro l D cy L st μ kc ks K q hK ha p9 e s m args below meth cd H locs ad ad0 n0 A ls hC hR hS hA hL hN hX
  unfold tk_pR at ha
  split at ha
  · rename_i x p r σ ρ τ n
    obtain ⟨hok, ha⟩ := tk_if.mp ha
    rw [Bool.and_eq_true, Nat.ble_eq] at hok
    obtain ⟨hok, hxn⟩ := hok
    have hkd := (tk_ok.mp hok)
    refine va_put hC.1 hC.2.1 hC.2.2.2.2.2.1 hin ty0 hty hnm hC.2.2.2.2.1 hC.2.2.2.2.2.2.2.2.1 hR.1 hR.2.1 hS (p - 1) (tk_obj hok ht) hc k hk (hC.2.2.2.2.2.1 _ hlk) (fun _ h => h) hfin hd2 (v := .ref (ad x)) (hnar _) (hfit _) (by rw [List.length_map, List.length_range]; omega) hd (fun H1 locs1 hP1 hD1 hS1 => ?_)
    have e9 : (tk_ws cy ad (σ, ρ, τ, n)).set (p - 1) (ad p, .inr (t, ((List.range (tk_nf t)).map (fun k => tk_fv ad (σ, ρ, τ, n) t p k)).set k (.ref (ad x)))) = tk_ws cy ad (σ, tk_up ρ p k (some x), τ, n) := by
      refine tk_ws_set rfl hkd.2.1 ?_ (fun p' h => tk_cellR p' h)
      rw [tk_cell_obj hkd.1 ht]
      refine congrArg (fun z => Sum.inr (t, z)) (tk_fs_set ?_ (fun j hj => tk_fv_up (k := k) ?_ ?_ ?_ j hj))
      · simp only [tk_fv, hft, tk_up_at, Option.map_some, va_rf]
      · exact fun j hj => rfl
      · exact fun j hj => tk_up_k ρ _ p hj
      · exact fun j hj => rfl
    rw [e9] at hP1 hD1
    exact hK _ ha p9 e s m args below meth cd H1 locs1 ad ad0 n0 A ls hC ⟨hP1, hD1, fun a b z hz => by
      by_cases hab : a = p ∧ b = k
      · have h9 : tk_up ρ p k (some x) a b = some x := if_pos hab
        have h8 : tk_up ρ p k (some x) a b = some z := hz
        rw [h9] at h8
        cases h8
        exact hxn
      · have h8 : tk_up ρ p k (some x) a b = some z := hz
        rw [tk_up, if_neg hab] at h8
        exact hR.2.2 a b z h8⟩ hS1 hA hL hN hX
  · exact ha.elim
theorem so_pRF {t k idx : Nat} {C : String} {T : u_T} {N : Nat} (hd : decode M.2.1 pc = .ok (.putfield idx, 3)) (ht : t < 8) (hc : vwCl[t]? = some (C, T, N)) (hnf : tk_nf t = N) (hk : k < N) (hft : tk_ft t k = 1) (hin : ∀ w ∈ u_ws C T N, w ∈ tk_G) (hlk : Cond.fieldLink M.1.cls idx (T k).1 (T k).2.1 (T k).2.2.1 ∈ tk_G) (ty0 : Nat → FieldType) (hty : ∀ k, k < N → parseFieldDescriptor (T k).2.2.1 = some (ty0 k)) (hnm : ∀ a, a < N → ∀ b, b < N → a ≠ b → (T a).2.1 ≠ (T b).2.1) (hfin : (T k).2.2.2 = true) (hini : M.1.name = "<init>") (hdecl : (T k).1 = M.1.cls) {ty : FieldType} (hd2 : parseFieldDescriptor (T k).2.2.1 = some ty) (hnar : ∀ a, narrow ty (.ref a) = .ref a) (hfit : ∀ a, fits ty (.ref a) = true) (hn : pc + 3 = nx) : tk_So sc M pc (tk_pR t k nx) := by
  subst hn
  intro l D cy L st μ kc ks K q hK ha p9 e s m args below meth cd H locs ad ad0 n0 A ls hC hR hS hA hL hN hX
  unfold tk_pR at ha
  split at ha
  · rename_i x p r σ ρ τ n
    obtain ⟨hok, ha⟩ := tk_if.mp ha
    rw [Bool.and_eq_true, Nat.ble_eq] at hok
    obtain ⟨hok, hxn⟩ := hok
    have hkd := (tk_ok.mp hok)
    refine va_putF hC.1 hC.2.1 hC.2.2.2.2.2.1 hin ty0 hty hnm hC.2.2.2.2.1 hC.2.2.2.2.2.2.2.2.1 hR.1 hR.2.1 hS (p - 1) (tk_obj hok ht) hc k hk (hC.2.2.2.2.2.1 _ hlk) (fun _ h => h) hfin (hC.2.2.2.2.2.2.2.1.trans hini) hdecl hd2 (v := .ref (ad x)) (hnar _) (hfit _) (by rw [List.length_map, List.length_range]; omega) hd (fun H1 locs1 hP1 hD1 hS1 => ?_)
    have e9 : (tk_ws cy ad (σ, ρ, τ, n)).set (p - 1) (ad p, .inr (t, ((List.range (tk_nf t)).map (fun k => tk_fv ad (σ, ρ, τ, n) t p k)).set k (.ref (ad x)))) = tk_ws cy ad (σ, tk_up ρ p k (some x), τ, n) := by
      refine tk_ws_set rfl hkd.2.1 ?_ (fun p' h => tk_cellR p' h)
      rw [tk_cell_obj hkd.1 ht]
      refine congrArg (fun z => Sum.inr (t, z)) (tk_fs_set ?_ (fun j hj => tk_fv_up (k := k) ?_ ?_ ?_ j hj))
      · simp only [tk_fv, hft, tk_up_at, Option.map_some, va_rf]
      · exact fun j hj => rfl
      · exact fun j hj => tk_up_k ρ _ p hj
      · exact fun j hj => rfl
    rw [e9] at hP1 hD1
    exact hK _ ha p9 e s m args below meth cd H1 locs1 ad ad0 n0 A ls hC ⟨hP1, hD1, fun a b z hz => by
      by_cases hab : a = p ∧ b = k
      · have h9 : tk_up ρ p k (some x) a b = some x := if_pos hab
        have h8 : tk_up ρ p k (some x) a b = some z := hz
        rw [h9] at h8
        cases h8
        exact hxn
      · have h8 : tk_up ρ p k (some x) a b = some z := hz
        rw [tk_up, if_neg hab] at h8
        exact hR.2.2 a b z h8⟩ hS1 hA hL hN hX
  · exact ha.elim
theorem so_iaload (hd : decode M.2.1 pc = .ok (.iaload, 1)) (hn : pc + 1 = nx) : tk_So sc M pc (tk_ai 9 nx) := by
  subst hn
  intro l D cy L st μ kc ks K q hK ha p9 e s m args below meth cd H locs ad ad0 n0 A ls hC hR hS hA hL hN hX
  unfold tk_ai at ha
  split at ha
  · rename_i i p r σ ρ τ n
    obtain ⟨hok, ha⟩ := tk_if.mp ha
    obtain ⟨hin, ha⟩ := tk_if.mp ha
    exact va_iald hC.1 hC.2.1 hC.2.2.2.2.2.2.2.2.1 hR.1 (p - 1) 1 (tk_arr hok (by decide) (by decide)) rfl (tk_in.mp hin) hd (hK _ ha p9 e s m args below meth cd H locs ad ad0 n0 A ls hC hR hS hA hL hN hX)
  · exact ha.elim
theorem so_caload (hd : decode M.2.1 pc = .ok (.caload, 1)) (hn : pc + 1 = nx) : tk_So sc M pc (tk_ai 8 nx) := by
  subst hn
  intro l D cy L st μ kc ks K q hK ha p9 e s m args below meth cd H locs ad ad0 n0 A ls hC hR hS hA hL hN hX
  unfold tk_ai at ha
  split at ha
  · rename_i i p r σ ρ τ n
    obtain ⟨hok, ha⟩ := tk_if.mp ha
    obtain ⟨hin, ha⟩ := tk_if.mp ha
    exact va_cald hC.1 hC.2.1 hC.2.2.2.2.2.2.2.2.1 hR.1 (p - 1) 0 (tk_arr hok (by decide) (by decide)) rfl (tk_in.mp hin) hd (hK _ ha p9 e s m args below meth cd H locs ad ad0 n0 A ls hC hR hS hA hL hN hX)
  · exact ha.elim
theorem so_baload (hd : decode M.2.1 pc = .ok (.baload, 1)) (hn : pc + 1 = nx) : tk_So sc M pc (tk_ai 10 nx) := by
  subst hn
  intro l D cy L st μ kc ks K q hK ha p9 e s m args below meth cd H locs ad ad0 n0 A ls hC hR hS hA hL hN hX
  unfold tk_ai at ha
  split at ha
  · rename_i i p r σ ρ τ n
    obtain ⟨hok, ha⟩ := tk_if.mp ha
    obtain ⟨hin, ha⟩ := tk_if.mp ha
    exact va_zald hC.1 hC.2.1 hC.2.2.2.2.2.2.2.2.1 hR.1 (p - 1) 2 (tk_arr hok (by decide) (by decide)) rfl (tk_in.mp hin) hd (hK _ ha p9 e s m args below meth cd H locs ad ad0 n0 A ls hC hR hS hA hL hN hX)
  · exact ha.elim
theorem so_iastore (hd : decode M.2.1 pc = .ok (.iastore, 1)) (hn : pc + 1 = nx) : tk_So sc M pc (tk_si 9 (fun x => x) nx) := by
  subst hn
  intro l D cy L st μ kc ks K q hK ha p9 e s m args below meth cd H locs ad ad0 n0 A ls hC hR hS hA hL hN hX
  unfold tk_si at ha
  split at ha
  · rename_i x i p r σ ρ τ n
    obtain ⟨hok, ha⟩ := tk_if.mp ha
    obtain ⟨hin, ha⟩ := tk_if.mp ha
    have hkd := (tk_ok.mp hok)
    refine va_iast hC.1 hC.2.1 hC.2.2.2.2.2.2.2.2.1 hR.1 hR.2.1 hS (p - 1) 1 (tk_arr hok (by decide) (by decide)) rfl (tk_in.mp hin) hd (fun H1 locs1 hP1 hD1 hS1 => ?_)
    have e9 : (tk_ws cy ad (σ, ρ, τ, n)).set (p - 1) (ad p, .inl (cy 9, (tk_kd p).2, .inl (upd (σ p) i.toNatClampNeg x))) = tk_ws cy ad (tk_up σ p i.toNatClampNeg x, ρ, τ, n) := by
      refine tk_ws_set rfl hkd.2.1 ?_ (fun p' h => tk_cellI p' h)
      rw [tk_cell_arr hkd.1 (by decide) (by decide)]
      refine congrArg (fun z => Sum.inl (cy 9, (tk_kd p).2, Sum.inl z)) (funext fun j => ?_)
      unfold tk_up upd
      simp only [true_and]
    have hP2 := e9 ▸ hP1
    have hD2 := e9 ▸ hD1
    exact hK _ ha p9 e s m args below meth cd H1 locs1 ad ad0 n0 A ls hC ⟨hP2, hD2, hR.2.2⟩ hS1 hA hL hN hX
  · exact ha.elim
theorem so_castore (hd : decode M.2.1 pc = .ok (.castore, 1)) (hn : pc + 1 = nx) : tk_So sc M pc (tk_si 8 (vp_nar .char) nx) := by
  subst hn
  intro l D cy L st μ kc ks K q hK ha p9 e s m args below meth cd H locs ad ad0 n0 A ls hC hR hS hA hL hN hX
  unfold tk_si at ha
  split at ha
  · rename_i x i p r σ ρ τ n
    obtain ⟨hok, ha⟩ := tk_if.mp ha
    obtain ⟨hin, ha⟩ := tk_if.mp ha
    have hkd := (tk_ok.mp hok)
    refine va_cast hC.1 hC.2.1 hC.2.2.2.2.2.2.2.2.1 hR.1 hR.2.1 hS (p - 1) 0 (tk_arr hok (by decide) (by decide)) rfl (tk_in.mp hin) hd (fun H1 locs1 hP1 hD1 hS1 => ?_)
    have e9 : (tk_ws cy ad (σ, ρ, τ, n)).set (p - 1) (ad p, .inl (cy 8, (tk_kd p).2, .inl (upd (σ p) i.toNatClampNeg (vp_nar .char x)))) = tk_ws cy ad (tk_up σ p i.toNatClampNeg (vp_nar .char x), ρ, τ, n) := by
      refine tk_ws_set rfl hkd.2.1 ?_ (fun p' h => tk_cellI p' h)
      rw [tk_cell_arr hkd.1 (by decide) (by decide)]
      refine congrArg (fun z => Sum.inl (cy 8, (tk_kd p).2, Sum.inl z)) (funext fun j => ?_)
      unfold tk_up upd
      simp only [true_and]
    have hP2 := e9 ▸ hP1
    have hD2 := e9 ▸ hD1
    exact hK _ ha p9 e s m args below meth cd H1 locs1 ad ad0 n0 A ls hC ⟨hP2, hD2, hR.2.2⟩ hS1 hA hL hN hX
  · exact ha.elim
theorem so_bastore (hd : decode M.2.1 pc = .ok (.bastore, 1)) (hn : pc + 1 = nx) : tk_So sc M pc (tk_si 10 (vp_nar .boolean) nx) := by
  subst hn
  intro l D cy L st μ kc ks K q hK ha p9 e s m args below meth cd H locs ad ad0 n0 A ls hC hR hS hA hL hN hX
  unfold tk_si at ha
  split at ha
  · rename_i x i p r σ ρ τ n
    obtain ⟨hok, ha⟩ := tk_if.mp ha
    obtain ⟨hin, ha⟩ := tk_if.mp ha
    have hkd := (tk_ok.mp hok)
    refine va_zast hC.1 hC.2.1 hC.2.2.2.2.2.2.2.2.1 hR.1 hR.2.1 hS (p - 1) 2 (tk_arr hok (by decide) (by decide)) rfl (tk_in.mp hin) hd (fun H1 locs1 hP1 hD1 hS1 => ?_)
    have e9 : (tk_ws cy ad (σ, ρ, τ, n)).set (p - 1) (ad p, .inl (cy 10, (tk_kd p).2, .inl (upd (σ p) i.toNatClampNeg (vp_nar .boolean x)))) = tk_ws cy ad (tk_up σ p i.toNatClampNeg (vp_nar .boolean x), ρ, τ, n) := by
      refine tk_ws_set rfl hkd.2.1 ?_ (fun p' h => tk_cellI p' h)
      rw [tk_cell_arr hkd.1 (by decide) (by decide)]
      refine congrArg (fun z => Sum.inl (cy 10, (tk_kd p).2, Sum.inl z)) (funext fun j => ?_)
      unfold tk_up upd
      simp only [true_and]
    have hP2 := e9 ▸ hP1
    have hD2 := e9 ▸ hD1
    exact hK _ ha p9 e s m args below meth cd H1 locs1 ad ad0 n0 A ls hC ⟨hP2, hD2, hR.2.2⟩ hS1 hA hL hN hX
  · exact ha.elim
theorem so_aaT (hd : decode M.2.1 pc = .ok (.aaload, 1)) (hn : pc + 1 = nx) : tk_So sc M pc (tk_aa 11 nx) := by
  subst hn
  intro l D cy L st μ kc ks K q hK ha p9 e s m args below meth cd H locs ad ad0 n0 A ls hC hR hS hA hL hN hX
  unfold tk_aa at ha
  split at ha
  · rename_i i p r σ ρ τ n
    obtain ⟨hok, ha⟩ := tk_if.mp ha
    obtain ⟨hin, ha⟩ := tk_if.mp ha
    obtain ⟨x, hx, ha⟩ := tk_os.mp ha
    refine va_aldq (C := RX4) hC.1 hC.2.1 hC.2.2.2.2.2.2.2.2.1 hR.1 (p - 1) 3 (tk_arq hok (by decide)) rfl (tk_in.mp hin) hd ?_
    dsimp only
    rw [hx]
    exact (hK _ ha p9 e s m args below meth cd H locs ad ad0 n0 A ls hC hR hS hA hL hN hX)
  · exact ha.elim
theorem so_aaI (hd : decode M.2.1 pc = .ok (.aaload, 1)) (hn : pc + 1 = nx) : tk_So sc M pc (tk_aa 12 nx) := by
  subst hn
  intro l D cy L st μ kc ks K q hK ha p9 e s m args below meth cd H locs ad ad0 n0 A ls hC hR hS hA hL hN hX
  unfold tk_aa at ha
  split at ha
  · rename_i i p r σ ρ τ n
    obtain ⟨hok, ha⟩ := tk_if.mp ha
    obtain ⟨hin, ha⟩ := tk_if.mp ha
    obtain ⟨x, hx, ha⟩ := tk_os.mp ha
    have hin := tk_in.mp hin
    have hlt : i.toNatClampNeg < (tk_kd p).2 := Nat.not_le.mp fun q => hin (Or.inr q)
    refine W.aald (v := .ref (ad x)) (ty := .array .int) hC.1 hC.2.1 (hR.1 (p - 1) _ (tk_arq hok (by decide))) (((hC.2.2.2.2.2.2.2.2.1).2 4 _ rfl).1 _ (fun j => va_rf ((ρ p j).map ad))) rfl (fun q => by cases q) (by show ¬ (i < 0 ∨ (arrV _ _ _).slots.size ≤ _); rw [arrV_size]; exact hin) (by show (arrV _ _ _).slots[_]? = _; rw [arrV_read _ _ hlt]; dsimp only; rw [hx]; rfl) rfl rfl hd (hK _ ha p9 e s m args below meth cd H locs ad ad0 n0 A ls hC hR hS hA hL hN hX)
  · exact ha.elim
theorem so_aas {t0 : Nat} (hd : decode M.2.1 pc = .ok (.aastore, 1)) (hn : pc + 1 = nx) : tk_So sc M pc (tk_sq 11 4 nx) := by
  subst hn
  intro l D cy L st μ kc ks K q hK ha p9 e s m args below meth cd H locs ad ad0 n0 A ls hC hR hS hA hL hN hX
  unfold tk_sq at ha
  split at ha
  · rename_i x i p r σ ρ τ n
    obtain ⟨hok, ha⟩ := tk_if.mp ha
    obtain ⟨hin, ha⟩ := tk_if.mp ha
    rw [Bool.and_eq_true] at hok
    obtain ⟨hok, hox⟩ := hok
    have hkd := (tk_ok.mp hok)
    have hxn := (tk_ok.mp hox).2.2
    refine va_astq (r := (RX4, TX4, 3)) hC.1 hC.2.1 hC.2.2.2.2.2.2.2.2.1 hR.1 hR.2.1 hS (p - 1) 3 (x - 1) 4 (tk_arq hok (by decide)) rfl (tk_obj hox (by decide)) rfl (tk_in.mp hin) hd (fun H1 locs1 hP1 hD1 hS1 => ?_)
    have e9 : (tk_ws cy ad (σ, ρ, τ, n)).set (p - 1) (ad p, .inl (cy 11, (tk_kd p).2, .inr (.inr (.inr (.inr (va_up (fun i => (ρ p i).map ad) i.toNatClampNeg (some (ad x)))))))) = tk_ws cy ad (σ, tk_up ρ p i.toNatClampNeg (some x), τ, n) := by
      refine tk_ws_set rfl hkd.2.1 ?_ (fun p' h => tk_cellR p' h)
      rw [tk_cell_arq hkd.1 (by decide)]
      refine congrArg (fun z => Sum.inl (cy 11, (tk_kd p).2, Sum.inr (Sum.inr (Sum.inr (Sum.inr z))))) (funext fun j => ?_)
      unfold tk_up va_up
      by_cases hj : j = i.toNatClampNeg
      · simp only [hj, and_self, if_true, Option.map_some]
      · simp only [hj, and_false, if_false]
    have hP2 := e9 ▸ hP1
    have hD2 := e9 ▸ hD1
    refine hK _ ha p9 e s m args below meth cd H1 locs1 ad ad0 n0 A ls hC ⟨hP2, hD2, fun a b z hz => ?_⟩ hS1 hA hL hN hX
    by_cases hab : a = p ∧ b = i.toNatClampNeg
    · have h9 : tk_up ρ p i.toNatClampNeg (some x) a b = some x := if_pos hab
      have h8 : tk_up ρ p i.toNatClampNeg (some x) a b = some z := hz
      rw [h9] at h8
      cases h8
      exact hxn
    · have h8 : tk_up ρ p i.toNatClampNeg (some x) a b = some z := hz
      rw [tk_up, if_neg hab] at h8
      exact hR.2.2 a b z h8
  · exact ha.elim
theorem so_sld {Ls : Nat} {xs : Nat → Int32} (hsc : sc = some (Ls, xs)) (hd : decode M.2.1 pc = .ok (.iaload, 1)) (hn : pc + 1 = nx) : tk_So sc M pc (tk_sld xs Ls nx) := by
  subst hn
  intro l D cy L st μ kc ks K q hK ha p9 e s m args below meth cd H locs ad ad0 n0 A ls hC hR hS hA hL hN hX
  unfold tk_sld at ha
  split at ha
  · rename_i i p r
    obtain ⟨hp, hb⟩ := tk_if.mp ha
    obtain ⟨hin, hc⟩ := tk_if.mp hb
    have hp := Nat.eq_of_beq_eq_true hp
    subst hp
    obtain ⟨x1, x2, x3⟩ := hX Ls xs hsc
    exact va_sld hC.1 hC.2.1 x1 x2 x3 hS (tk_in.mp hin) hd (hK _ hc p9 e s m args below meth cd H locs ad ad0 n0 A ls hC hR hS hA hL hN hX)
  · exact ha.elim
theorem so_sln {Ls : Nat} {xs : Nat → Int32} (hsc : sc = some (Ls, xs)) (hd : decode M.2.1 pc = .ok (.arraylength, 1)) (hn : pc + 1 = nx) : tk_So sc M pc (tk_sln Ls nx) := by
  subst hn
  intro l D cy L st μ kc ks K q hK ha p9 e s m args below meth cd H locs ad ad0 n0 A ls hC hR hS hA hL hN hX
  unfold tk_sln at ha
  split at ha
  · rename_i p r
    obtain ⟨hp, hb⟩ := tk_if.mp ha
    have hp := Nat.eq_of_beq_eq_true hp
    subst hp
    obtain ⟨x1, x2, x3⟩ := hX Ls xs hsc
    exact va_slen hC.1 hC.2.1 x1 x2 x3 hS hd (hK _ hb p9 e s m args below meth cd H locs ad ad0 n0 A ls hC hR hS hA hL hN hX)
  · exact ha.elim
theorem so_lookup {dflt : Int} {ps : Array (Int × Int)} {len d : Nat} {cs : List (Int32 × Nat)} (hd : decode M.2.1 pc = .ok (.lookupswitch dflt ps, len)) (hp : (ps.toList.zip (ps.toList.drop 1)).all (fun (a, next) => a.1 < next.1) = true) (ht : (pc : Int) + dflt = (d : Int))
    (h1 : ps.toList = cs.map (fun r => (r.1.toInt, (r.2 : Int) - (pc : Int)))) : tk_So sc M pc (tk_sw cs d) := by
  intro l D cy L st μ kc ks K q hK ha p9 e s m args below meth cd H locs ad ad0 n0 A ls hC hR hS hA hL hN hX
  unfold tk_sw at ha
  split at ha
  · rename_i x r
    have key : ∀ (zs : List (Int32 × Nat)), tk_cas zs x d (fun t => K (t, L, r, μ, kc, ks)) → ∃ t, K (t, L, r, μ, kc, ks) ∧ (pc : Int) + Op.lookupswitch.offset (zs.map (fun r => (r.1.toInt, (r.2 : Int) - (pc : Int)))) dflt x.toInt = (t : Int) := by
      intro zs
      induction zs with
      | nil => intro h; exact ⟨d, h, ht⟩
      | cons a l ih =>
        obtain ⟨v, t⟩ := a
        intro h
        by_cases hx : x = v
        · refine ⟨t, h.1 hx, ?_⟩
          rw [List.map_cons, Op.lookupswitch.offset_cons, if_pos (by rw [hx])]
          omega
        · obtain ⟨t', g1, g2⟩ := ih (h.2 hx)
          refine ⟨t', g1, ?_⟩
          rw [List.map_cons, Op.lookupswitch.offset_cons, if_neg (fun h => hx (Int32.toInt_inj.mp h.symm))]
          exact g2
    obtain ⟨t, g1, g2⟩ := key cs ha
    exact lv_lookup hC.1 hC.2.1 hd hp rfl (by rw [h1]; exact g2) (hK _ g1 p9 e s m args below meth cd H locs ad ad0 n0 A ls hC hR hS hA hL hN hX)
  · exact ha.elim
end
end
section
/-! calls -/
def tk_pop : Nat → List Value → List Value → (List Value → List Value → Prop) → Prop
  | 0, st, acc, k => k acc st
  | n + 1, v :: st, acc, k => tk_pop n st (v :: acc) k
  | _ + 1, [], _, _ => False
theorem tk_pop.mp {n : Nat} {st acc : List Value} {k : List Value → List Value → Prop} (h : tk_pop n st acc k) : ∃ a r, st = a.reverse ++ r ∧ a.length = n ∧ k (a ++ acc) r := by
  induction n generalizing st acc with
  | zero => exact ⟨[], st, rfl, rfl, h⟩
  | succ n ih =>
    cases st with
    | nil => exact h.elim
    | cons v st =>
      obtain ⟨a, r, h1, h2, h3⟩ := ih h
      refine ⟨a ++ [v], r, ?_, by simp [h2], ?_⟩
      · rw [h1, List.reverse_append]
        rfl
      · rw [List.append_assoc]
        exact h3
def tk_ps : Option Value → List Value → List Value
  | some v, r => v :: r
  | none, r => r
def tk_cat (r : List Value) : Nat := (r.map fun v => v.category).sum
def tk_vle (n : Nat) : Value → Bool
  | .ref p => Nat.ble p n
  | _ => true
def tk_fr (n : Nat) (L : List (Option Value)) (st : List Value) : Bool := st.all (tk_vle n) && L.all (fun o => match o with
  | some v => tk_vle n v
  | none => true)
def tk_cv (ci : Nat) (M' : tk_Md) (n nx : Nat) : tk_Ac := fun L st μ kc ks K _ => tk_pop (n + 1) st [] (fun as r => match as with
  | .ref b :: _ => tk_if (tk_ok b ci μ.2.2.2) (tk_if (Nat.ble (tk_cat r) 8) (∃ P, tk_Ct M' as μ P ∧ ∀ v μ', P v μ' → K (nx, L, tk_ps v r, μ', kc, ks)))
  | _ => False)
def tk_cs (M' : tk_Md) (n nx : Nat) : tk_Ac := fun L st μ kc ks K _ => tk_pop n st [] (fun as r => tk_if (Nat.ble (tk_cat r) 8) (∃ P, tk_Ct M' as μ P ∧ ∀ v μ', P v μ' → K (nx, L, tk_ps v r, μ', kc, ks)))
def tk_ci (M' : tk_Md) (n nx mc ms : Nat) : tk_Ac := fun L st μ kc ks K _ => tk_pop (n + 1) st [] (fun as r => match as with
  | .ref _ :: _ => tk_if (tk_fr μ.2.2.2 L r && (Nat.ble (kc + M'.2.2.2.2.cells) mc && Nat.ble (ks + M'.2.2.2.2.slots) ms)) (tk_if (Nat.ble (tk_cat r) 8) (∃ P, tk_Ct M' as μ P ∧ ∀ v μ', P v μ' → K (nx, L, tk_ps v r, μ', kc + M'.2.2.2.2.cells, ks + M'.2.2.2.2.slots)))
  | _ => False)
def tk_oi (nx : Nat) : tk_Ac := fun L st μ kc ks K _ => match st with
  | [.ref _] => K (nx, L, [], μ, kc, ks)
  | _ => False
theorem tk_cc {M' : tk_Md} {as : List Value} {μ : tk_Me} {P : tk_Po} {K : Option Value → tk_Me → Prop} (h : tk_Ct M' as μ P) (k : ∀ v μ', P v μ' → K v μ') : ∃ P, tk_Ct M' as μ P ∧ ∀ v μ', P v μ' → K v μ' := ⟨P, h, k⟩
theorem tk_cat_v (ad : Nat → Nat) (r : List Value) : ((r.map (tk_v ad)).map fun v => v.category).sum = tk_cat r := by
  unfold tk_cat
  rw [List.map_map]
  congr 1
  apply List.map_congr_left
  intro v _
  exact tk_v_cat ad v
theorem tk_vs_fr {n : Nat} {r : List Value} {ad ad' : Nat → Nat} (h : r.all (tk_vle n) = true) (ha : ∀ i, i ≤ n → ad' i = ad i) : r.map (tk_v ad') = r.map (tk_v ad) := by
  apply List.map_congr_left
  intro v hv
  have h1 := List.all_eq_true.mp h v hv
  cases v <;> first | rfl | (simp only [tk_vle, Nat.ble_eq] at h1; simp only [tk_v, ha _ h1])
theorem tk_L_fr {n : Nat} {L : List (Option Value)} {ls : Array Slot} {nL : Nat} {ad ad' : Nat → Nat} (h : tk_L ad L ls nL) (hf : L.all (fun o => match o with
  | some v => tk_vle n v
  | none => true) = true) (ha : ∀ i, i ≤ n → ad' i = ad i) : tk_L ad' L ls nL := by
  refine ⟨⟨h.1.1, h.1.2.1, fun q hq => ?_⟩, h.2.1, h.2.2⟩
  obtain ⟨j, w⟩ := q
  obtain ⟨x, hx, rfl⟩ := tk_lv_mem.mp hq
  have h1 := List.all_eq_true.mp hf (some x) (List.mem_of_getElem? hx)
  have h2 : tk_v ad' x = tk_v ad x := by
    cases x <;> first | rfl | (simp only [tk_vle, Nat.ble_eq] at h1; simp only [tk_v, ha _ h1])
  rw [h2]
  exact h.1.2.2 _ (tk_lv_mem.mpr ⟨x, hx, rfl⟩)
theorem tk_AOA_moved {s U : State} (hvm : s.vm.Alike U.vm) (h : (Cond.arrayOver (.array .int)).before #[] s = true) : (Cond.arrayOver (.array .int)).before #[] U = true := Jvm.Stand.arrayOver_alikeB hvm h
theorem tk_N.warm {s U : State} (hW : s.WarmedH U.vm) (h : tk_N s) : tk_N U := ⟨fun a i x hh hm => va_Nw.warmM hW (h.1 a i x hh hm), h.2.1.moved hW.alike, tk_AOA_moved hW.alike h.2.2⟩
theorem tk_N.same {s U : State} (hv : s.vm = U.vm) (h : tk_N s) : tk_N U := ⟨fun a i x hh hm => va_Nw.same rfl hv (h.1 a i x hh hm), h.2.1.moved (by rw [hv]; exact Vm.Alike.refl U.vm), tk_AOA_moved (by rw [hv]; exact Vm.Alike.refl U.vm) h.2.2⟩
/-- behind a call -/
theorem tk_aft {l : Launch} {D : va_G} {cy : Nat → ClassId} {sc : Option (Nat × (Nat → Int32))} {M M' : tk_Md} {q : tk_Po} {P : tk_Po} {pc : Nat} {L : List (Option Value)} {rr : List Value} {kc ks : Nat} {μ : tk_Me}
    {p : Program} {e : Env} {s : State} {m : MethodId} {args : Array Value} {below : List Frame} {meth : Method} {cd : Code} {H : Heap} {locs : List Loc} {ad ad0 : Nat → Nat} {n0 : Nat} {A : Nat → Prop} {ls : Array Slot} {as : Array Value} {st0 : List Value}
    (hC : tk_C D cy M p s m args meth cd) (hS : va_S A s.heap H locs) (hA : ∀ x, s.heap.size ≤ x → A x) (hL : tk_L ad L ls M.2.2.1)
    (hN : (∀ i, i ≤ n0 → ad i = ad0 i) ∧ n0 ≤ μ.2.2.2 ∧ (kc = 0 → ad = ad0) ∧ kc ≤ M.2.2.2.2.cells ∧ ks ≤ M.2.2.2.2.slots)
    (hX : ∀ Ls xs, sc = some (Ls, xs) → va_X (ad 0) Ls xs s s.heap ∧ ad 0 < s.heap.size ∧ ¬ A (ad 0))
    (hroom : kc + M'.2.2.2.2.cells ≤ M.2.2.2.2.cells ∧ ks + M'.2.2.2.2.slots ≤ M.2.2.2.2.slots)
    (hfr : M'.2.2.2.2.cells = 0 ∨ tk_fr μ.2.2.2 L rr = true)
    (hr : va_Run p l e M.2.2.2.2 s m args below meth cd H locs kc ks M'.2.2.2.2.cells M'.2.2.2.2.slots (F0 m pc ls st0) (rr.map (tk_v ad)) (tk_Q D cy M'.2.2.2.2 ad μ.2.2.2 A P as) A)
    (hk : ∀ v μ', P v μ' → tk_J l D cy sc M (pc + 3, L, tk_ps v rr, μ', kc + M'.2.2.2.2.cells, ks + M'.2.2.2.2.slots) q) :
    W p l e M.2.2.2.2 s m args below meth cd H locs kc ks (MQ below (tk_Q D cy M.2.2.2.2 ad0 n0 A q) args s M.2.2.2.2.cells M.2.2.2.2.slots A) (F0 m pc ls st0) := by
  intro T hT X
  obtain ⟨v, st₀, t, T', L9, h0, X', hL9, e1, e2, ⟨⟨r, μ', ad', hv, hp, had, hn, hz, hR'⟩, hF⟩, stp⟩ := hr T hT X
  cases hv
  unfold va_F at hF
  rw [h0] at hF
  have hS' : va_S A s.heap T'.heap (locs ++ L9) := ⟨Nat.le_trans hS.1 (by rw [e1]; exact hF.1), fun x h1 h2 => by rw [e1, hF.2 x (Nat.lt_of_lt_of_le h1 hS.1) h2]; exact hS.2.1 x h1 h2, fun x hx => by
    rcases List.mem_append.mp hx with h | h
    · exact hS.2.2 x h
    · exact hL9 x h⟩
  have hsame : rr.map (tk_v ad') = rr.map (tk_v ad) ∧ tk_L ad' L ls M.2.2.1 := by
    rcases hfr with h | h
    · rw [hz h]
      exact ⟨rfl, hL⟩
    · simp only [tk_fr, Bool.and_eq_true] at h
      exact ⟨tk_vs_fr h.1 had, tk_L_fr hL h.2 had⟩
  have hN' : (∀ i, i ≤ n0 → ad' i = ad0 i) ∧ n0 ≤ μ'.2.2.2 ∧ (kc + M'.2.2.2.2.cells = 0 → ad' = ad0) ∧ kc + M'.2.2.2.2.cells ≤ M.2.2.2.2.cells ∧ ks + M'.2.2.2.2.slots ≤ M.2.2.2.2.slots :=
    ⟨fun i hi => (had i (Nat.le_trans hi hN.2.1)).trans (hN.1 i hi), Nat.le_trans hN.2.1 hn, fun h => (hz (by omega)).trans (hN.2.2.1 (by omega)), hroom.1, hroom.2⟩
  have hX' : ∀ Ls xs, sc = some (Ls, xs) → va_X (ad' 0) Ls xs s s.heap ∧ ad' 0 < s.heap.size ∧ ¬ A (ad' 0) := by
    rw [had 0 (Nat.zero_le _)]
    exact hX
  have hW := hk r μ' hp p e s m args below meth cd T'.heap (locs ++ L9) ad' ad0 n0 A ls hC (by rw [e1]; exact hR') hS' hA hsame.2 hN' hX'
  obtain ⟨t2, a1, b1⟩ := hW T' rfl X'
  refine ⟨t2, stp t2 ?_, b1⟩
  have e3 : (r.map (tk_v ad')).toList ++ rr.map (tk_v ad) = (tk_ps r rr).map (tk_v ad') := by
    rw [← hsame.1]
    cases r <;> rfl
  rw [e3]
  exact a1
/-- what a call asks of the tables -/
def tk_MB (M' : tk_Md) (n : Nat) : Prop := Cond.code M'.1 M'.2.1 M'.2.2.1 M'.2.2.2.1 ∈ tk_G ∧ Cond.initialized M'.1.cls ∈ tk_G ∧ M'.1.cls ≠ "java/lang/invoke/MethodHandle" ∧ M'.1.cls ≠ "java/lang/invoke/VarHandle" ∧ (parseMethodDescriptor M'.1.desc).map (fun d => d.parameters.length) = some n
def tk_MV (M' : tk_Md) (n : Nat) : Prop := tk_MB M' n ∧ Cond.instanceMethod M'.1 ∈ tk_G ∧ Cond.selects M'.1.cls M'.1 M'.1 ∈ tk_G
def tk_MS (M' : tk_Md) (n : Nat) : Prop := tk_MB M' n ∧ Cond.static M'.1 ∈ tk_G
def tk_MI (M' : tk_Md) (n : Nat) : Prop := tk_MB M' n ∧ Cond.instanceMethod M'.1 ∈ tk_G ∧ M'.1.name = "<init>" ∧ M'.2.2.2.1 = none
theorem tk_gin {M' : tk_Md} (h : Cond.code M'.1 M'.2.1 M'.2.2.1 M'.2.2.2.1 ∈ tk_G) : GoodIn tk_G (tk_wsM M') := fun w hw => by
  rcases List.mem_cons.mp hw with rfl | hw
  · exact ⟨h, tk_good h⟩
  · exact ⟨hw, tk_good hw⟩
theorem tk_pre {D : va_G} {cy : Nat → ClassId} {ad : Nat → Nat} {A : Nat → Prop} {as : List Value} {μ : tk_Me} {s : State} {H : Heap} {locs : List Loc} (hK : va_K D vwCl (tk_tys cy) s) (hN : tk_N s) (hR : tk_R D cy A ad μ H) (hS : va_S A s.heap H locs) (hA : ∀ x, s.heap.size ≤ x → A x) :
    PreS s H (fun v U => v = (as.map (tk_v ad)).toArray ∧ (∀ x, U.heap.size ≤ x → A x) ∧ va_K D vwCl (tk_tys cy) U ∧ tk_N U ∧ tk_R D cy A ad μ U.heap) (as.map (tk_v ad)) := by
  refine ⟨fun a U g mk h => ?_, fun U hU hW => ?_⟩
  · obtain ⟨h1, h2, h3, h4, h5⟩ := h
    exact ⟨h1, h2, va_K.moved (u := U) (U := U.calling g mk a) (Vm.Alike.refl U.vm) h3, tk_N.same (s := U) (U := U.calling g mk a) rfl h4, h5⟩
  · exact ⟨rfl, fun x hx => hA x (Nat.le_trans hS.1 (by rw [← hU]; exact hx)), va_K.moved hW.alike hK, hN.warm hW, by rw [hU]; exact hR⟩
section
variable {sc : Option (Nat × (Nat → Int32))} {M M' : tk_Md} {pc nx n : Nat}
theorem so_cv {ci idx : Nat} {T : u_T} {N : Nat} (hd : decode M.2.1 pc = .ok (.invokevirtual idx, 3)) (hM : tk_MV M' n) (hlk : Cond.methodLink M.1.cls idx M'.1 ∈ tk_G) (ht : ci < 8) (hc : vwCl[ci]? = some (M'.1.cls, T, N)) (hz : M'.2.2.2.2.cells = 0 ∧ M'.2.2.2.2.slots = 0)
    (hrm : M'.2.2.2.2.frames + 1 ≤ M.2.2.2.2.frames ∧ 8 + (M'.2.2.1 + 11) + M'.2.2.2.2.locals ≤ M.2.2.2.2.locals) (hn : pc + 3 = nx) : tk_So sc M pc (tk_cv ci M' n nx) := by
  subst hn
  intro l D cy L st μ kc ks K q hK ha p e s m args below meth cd H locs ad ad0 n0 A ls hC hR hS hA hL hN hX
  unfold tk_cv at ha
  obtain ⟨as, r, hst, hlen, ha⟩ := tk_pop.mp ha
  rw [List.append_nil] at ha
  split at ha
  · rename_i b As
    obtain ⟨hok, ha⟩ := tk_if.mp ha
    obtain ⟨hct, ha⟩ := tk_if.mp ha
    obtain ⟨P, hCt, hk⟩ := ha
    have hts := hC.2.2.2.2.2.1
    have cw : CallW M.2.2.2.2 s args M.1.cls M'.1.cls idx M'.1 M'.2.1 M'.2.2.1 M'.2.2.2.1 (tk_wsM M') M'.2.2.2.2 M'.2.2.2.2.cells M'.2.2.2.2.slots n :=
      ⟨callB_of n hts (tk_gin hM.1.1) rfl rfl rfl (hts _ hM.1.2.1) (hts _ hlk) hM.1.2.2 hrm, hts _ hM.2.1, hts _ hM.2.2⟩
    have hp := tk_pre (as := .ref b :: As) hC.2.2.2.2.2.2.2.2.1 hC.2.2.2.2.2.2.2.2.2 hR hS hA
    have hrc := va_recv hC.2.2.2.2.2.2.2.2.1 hR.1 hc (tk_obj hok ht)
    refine tk_aft (as := (Value.ref (ad b) :: As.map (tk_v ad)).toArray) (rr := r) (P := P) hC hS hA hL hN hX (by rw [hz.1, hz.2]; exact ⟨hN.2.2.2.1, hN.2.2.2.2⟩) (Or.inl hz.1) (va_runV (As := As.map (tk_v ad)) (rest := r.map (tk_v ad)) ⟨hC.1, hC.2.1, hC.2.2.2.1, hC.2.2.2.2.1, hts⟩ (hCt l D cy ad A) cw ⟨hp.1, hrc, hp.2⟩ rfl ?_ hL.1.1 ?_ ?_ hd ?_) (fun v μ' hv => ?_)
    · rw [List.length_map]; rw [List.length_cons] at hlen; omega
    · show st.map (tk_v ad) = _
      rw [hst, List.map_append, List.map_reverse, List.map_cons, List.reverse_cons, List.append_assoc]
      rfl
    · refine lv_room ?_
      rw [tk_cat_v]
      exact Nat.le_of_ble_eq_true hct
    · rw [hz.1, hz.2]
      exact ⟨hN.2.2.2.1, hN.2.2.2.2⟩
    · rw [hz.1, hz.2]
      exact hK _ (hk v μ' hv)
  · exact ha.elim
theorem so_cs {idx : Nat} (hd : decode M.2.1 pc = .ok (.invokestatic idx, 3)) (hM : tk_MS M' n) (hlk : Cond.methodLink M.1.cls idx M'.1 ∈ tk_G) (hz : M'.2.2.2.2.cells = 0 ∧ M'.2.2.2.2.slots = 0)
    (hrm : M'.2.2.2.2.frames + 1 ≤ M.2.2.2.2.frames ∧ 8 + (M'.2.2.1 + 11) + M'.2.2.2.2.locals ≤ M.2.2.2.2.locals) (hn : pc + 3 = nx) : tk_So sc M pc (tk_cs M' n nx) := by
  subst hn
  intro l D cy L st μ kc ks K q hK ha p e s m args below meth cd H locs ad ad0 n0 A ls hC hR hS hA hL hN hX
  unfold tk_cs at ha
  obtain ⟨as, r, hst, hlen, ha⟩ := tk_pop.mp ha
  rw [List.append_nil] at ha
  obtain ⟨hct, ha⟩ := tk_if.mp ha
  obtain ⟨P, hCt, hk⟩ := ha
  have hts := hC.2.2.2.2.2.1
  have cw := callB_of (R := M.2.2.2.2) n hts (tk_gin hM.1.1) rfl rfl rfl (hts _ hM.1.2.1) (hts _ hlk) hM.1.2.2 hrm
  have hp := tk_pre (as := as) hC.2.2.2.2.2.2.2.2.1 hC.2.2.2.2.2.2.2.2.2 hR hS hA
  refine tk_aft (as := (as.map (tk_v ad)).toArray) (rr := r) (P := P) hC hS hA hL hN hX (by rw [hz.1, hz.2]; exact ⟨hN.2.2.2.1, hN.2.2.2.2⟩) (Or.inl hz.1) (va_runS (As := as.map (tk_v ad)) (rest := r.map (tk_v ad)) ⟨hC.1, hC.2.1, hC.2.2.2.1, hC.2.2.2.2.1, hts⟩ (hCt l D cy ad A) ⟨cw, hts _ hM.2⟩ hp rfl ?_ hL.1.1 ?_ ?_ hd ?_) (fun v μ' hv => ?_)
  · rw [List.length_map]; exact hlen
  · show st.map (tk_v ad) = _
    rw [hst, List.map_append, List.map_reverse]
  · refine lv_room ?_
    rw [tk_cat_v]
    exact Nat.le_of_ble_eq_true hct
  · rw [hz.1, hz.2]
    exact ⟨hN.2.2.2.1, hN.2.2.2.2⟩
  · rw [hz.1, hz.2]
    exact hK _ (hk v μ' hv)
/-- a static method of a nest mate -/
theorem so_csN {idx : Nat} {host : String} (hd : decode M.2.1 pc = .ok (.invokestatic idx, 3)) (hM : tk_MS M' n) (hlk : Cond.methodLinkNest M.1.cls idx M'.1 host ∈ lw_tbl) (hz : M'.2.2.2.2.cells = 0 ∧ M'.2.2.2.2.slots = 0)
    (hrm : M'.2.2.2.2.frames + 1 ≤ M.2.2.2.2.frames ∧ 8 + (M'.2.2.1 + 11) + M'.2.2.2.2.locals ≤ M.2.2.2.2.locals) (hn : pc + 3 = nx) : tk_So sc M pc (tk_cs M' n nx) := by
  subst hn
  intro l D cy L st μ kc ks K q hK ha p e s m args below meth cd H locs ad ad0 n0 A ls hC hR hS hA hL hN hX
  unfold tk_cs at ha
  obtain ⟨as, r, hst, hlen, ha⟩ := tk_pop.mp ha
  rw [List.append_nil] at ha
  obtain ⟨hct, ha⟩ := tk_if.mp ha
  obtain ⟨P, hCt, hk⟩ := ha
  have hts := hC.2.2.2.2.2.1
  have cw := va_cnB (R := M.2.2.2.2) n hts (tk_gin hM.1.1) rfl rfl rfl (hC.2.2.2.2.2.2.2.2.2.1 _ _ _ _ hlk) (hts _ hM.1.2.1) hM.1.2.2 hrm
  have hp := tk_pre (as := as) hC.2.2.2.2.2.2.2.2.1 hC.2.2.2.2.2.2.2.2.2 hR hS hA
  refine tk_aft (as := (as.map (tk_v ad)).toArray) (rr := r) (P := P) hC hS hA hL hN hX (by rw [hz.1, hz.2]; exact ⟨hN.2.2.2.1, hN.2.2.2.2⟩) (Or.inl hz.1) (va_runSN (As := as.map (tk_v ad)) (rest := r.map (tk_v ad)) ⟨hC.1, hC.2.1, hC.2.2.2.1, hC.2.2.2.2.1, hts⟩ (hCt l D cy ad A) ⟨cw, hts _ hM.2, trivial⟩ hp rfl ?_ hL.1.1 ?_ ?_ hd ?_) (fun v μ' hv => ?_)
  · rw [List.length_map]; exact hlen
  · show st.map (tk_v ad) = _
    rw [hst, List.map_append, List.map_reverse]
  · refine lv_room ?_
    rw [tk_cat_v]
    exact Nat.le_of_ble_eq_true hct
  · rw [hz.1, hz.2]
    exact ⟨hN.2.2.2.1, hN.2.2.2.2⟩
  · rw [hz.1, hz.2]
    exact hK _ (hk v μ' hv)
end
end
section
/-! constructors, what is made, and the contract out of a walk -/
def tk_z {α : Type} (f : Nat → Nat → α) (p : Nat) (d : α) : Nat → Nat → α := fun a b => if a = p then d else f a b
def tk_d0 (c : Nat) : Value := match c with
  | 0 => .int 0
  | 1 => .null
  | _ => .long 0
def tk_new (t nx mc ms : Nat) : tk_Ac := fun L st μ kc ks K _ => match μ with
  | (σ, ρ, τ, n) => tk_if (Nat.beq (tk_kd (n + 1)).1 t && (tk_fr n L st && (Nat.ble (kc + 1) mc && Nat.ble (ks + tk_nf t) ms))) (K (nx, L, .ref (n + 1) :: st, (tk_z σ (n + 1) 0, tk_z ρ (n + 1) none, tk_z τ (n + 1) 0, n + 1), kc + 1, ks + tk_nf t))
def tk_nwa (t nx mc ms : Nat) : tk_Ac := fun L st μ kc ks K _ => match st, μ with
  | .int z :: r, (σ, ρ, τ, n) => tk_if (Nat.beq (tk_kd (n + 1)).1 t && (Nat.beq (tk_kd (n + 1)).2 z.toNatClampNeg && (decide (¬ z < 0) && (Nat.ble z.toNatClampNeg 1000 && (tk_fr n L r && (Nat.ble (kc + 1) mc && Nat.ble (ks + z.toNatClampNeg) ms)))))) (K (nx, L, .ref (n + 1) :: r, (tk_z σ (n + 1) 0, tk_z ρ (n + 1) none, tk_z τ (n + 1) 0, n + 1), kc + 1, ks + z.toNatClampNeg))
  | _, _ => False
section
variable {sc : Option (Nat × (Nat → Int32))} {M M' : tk_Md} {pc nx n : Nat}
theorem so_ci {idx mc ms : Nat} (hd : decode M.2.1 pc = .ok (.invokespecial idx, 3)) (hM : tk_MI M' n) (hlk : Cond.methodLink M.1.cls idx M'.1 ∈ tk_G) (hmc : M.2.2.2.2.cells = mc) (hms : M.2.2.2.2.slots = ms)
    (hrm : M'.2.2.2.2.frames + 1 ≤ M.2.2.2.2.frames ∧ 8 + (M'.2.2.1 + 11) + M'.2.2.2.2.locals ≤ M.2.2.2.2.locals) (hn : pc + 3 = nx) : tk_So sc M pc (tk_ci M' n nx mc ms) := by
  subst hn
  subst hmc
  subst hms
  intro l D cy L st μ kc ks K q hK ha p e s m args below meth cd H locs ad ad0 n0 A ls hC hR hS hA hL hN hX
  unfold tk_ci at ha
  obtain ⟨as, r, hst, hlen, ha⟩ := tk_pop.mp ha
  rw [List.append_nil] at ha
  split at ha
  · rename_i b As
    obtain ⟨hok, ha⟩ := tk_if.mp ha
    obtain ⟨hct, ha⟩ := tk_if.mp ha
    obtain ⟨P, hCt, hk⟩ := ha
    simp only [Bool.and_eq_true, Nat.ble_eq] at hok
    obtain ⟨hfr, hroom⟩ := hok
    have hts := hC.2.2.2.2.2.1
    have cw := callB_of (R := M.2.2.2.2) n hts (tk_gin hM.1.1) (by rw [tk_wsM, hM.2.2.2]) rfl rfl (hts _ hM.1.2.1) (hts _ hlk) hM.1.2.2 hrm
    have hp := tk_pre (as := .ref b :: As) hC.2.2.2.2.2.2.2.2.1 hC.2.2.2.2.2.2.2.2.2 hR hS hA
    refine tk_aft (as := (Value.ref (ad b) :: As.map (tk_v ad)).toArray) (rr := r) (P := P) hC hS hA hL hN hX hroom (Or.inr hfr) (va_runI (As := As.map (tk_v ad)) (rest := r.map (tk_v ad)) ⟨hC.1, hC.2.1, hC.2.2.2.1, hC.2.2.2.2.1, hts⟩ (hCt l D cy ad A) ⟨cw, hM.2.2.1, hts _ hM.2.1⟩ hp rfl ?_ hL.1.1 ?_ ?_ hd hroom) (fun v μ' hv => hK _ (hk v μ' hv))
    · rw [List.length_map]; rw [List.length_cons] at hlen; omega
    · show st.map (tk_v ad) = _
      rw [hst, List.map_append, List.map_reverse, List.map_cons, List.reverse_cons, List.append_assoc]
      rfl
    · refine lv_room ?_
      rw [tk_cat_v]
      exact Nat.le_of_ble_eq_true hct
  · exact ha.elim
theorem so_ciN {idx mc ms : Nat} {host : String} (hd : decode M.2.1 pc = .ok (.invokespecial idx, 3)) (hM : tk_MI M' n) (hlk : Cond.methodLinkNest M.1.cls idx M'.1 host ∈ lw_tbl) (hmc : M.2.2.2.2.cells = mc) (hms : M.2.2.2.2.slots = ms)
    (hrm : M'.2.2.2.2.frames + 1 ≤ M.2.2.2.2.frames ∧ 8 + (M'.2.2.1 + 11) + M'.2.2.2.2.locals ≤ M.2.2.2.2.locals) (hn : pc + 3 = nx) : tk_So sc M pc (tk_ci M' n nx mc ms) := by
  subst hn
  subst hmc
  subst hms
  intro l D cy L st μ kc ks K q hK ha p e s m args below meth cd H locs ad ad0 n0 A ls hC hR hS hA hL hN hX
  unfold tk_ci at ha
  obtain ⟨as, r, hst, hlen, ha⟩ := tk_pop.mp ha
  rw [List.append_nil] at ha
  split at ha
  · rename_i b As
    obtain ⟨hok, ha⟩ := tk_if.mp ha
    obtain ⟨hct, ha⟩ := tk_if.mp ha
    obtain ⟨P, hCt, hk⟩ := ha
    simp only [Bool.and_eq_true, Nat.ble_eq] at hok
    obtain ⟨hfr, hroom⟩ := hok
    have hts := hC.2.2.2.2.2.1
    have cw := va_cnB (R := M.2.2.2.2) n hts (tk_gin hM.1.1) (by rw [tk_wsM, hM.2.2.2]) rfl rfl (hC.2.2.2.2.2.2.2.2.2.1 _ _ _ _ hlk) (hts _ hM.1.2.1) hM.1.2.2 hrm
    have hp := tk_pre (as := .ref b :: As) hC.2.2.2.2.2.2.2.2.1 hC.2.2.2.2.2.2.2.2.2 hR hS hA
    refine tk_aft (as := (Value.ref (ad b) :: As.map (tk_v ad)).toArray) (rr := r) (P := P) hC hS hA hL hN hX hroom (Or.inr hfr) (va_runIN (As := As.map (tk_v ad)) (rest := r.map (tk_v ad)) ⟨hC.1, hC.2.1, hC.2.2.2.1, hC.2.2.2.2.1, hts⟩ (hCt l D cy ad A) ⟨cw, hM.2.2.1, hts _ hM.2.1⟩ hp rfl ?_ hL.1.1 ?_ ?_ hd hroom) (fun v μ' hv => hK _ (hk v μ' hv))
    · rw [List.length_map]; rw [List.length_cons] at hlen; omega
    · show st.map (tk_v ad) = _
      rw [hst, List.map_append, List.map_reverse, List.map_cons, List.reverse_cons, List.append_assoc]
      rfl
    · refine lv_room ?_
      rw [tk_cat_v]
      exact Nat.le_of_ble_eq_true hct
  · exact ha.elim
theorem so_oi {idx : Nat} (hd : decode M.2.1 pc = .ok (.invokespecial idx, 3)) (hlk : Cond.methodLink M.1.cls idx objectInit ∈ tk_G) (h2 : Cond.instanceMethod objectInit ∈ tk_G) (h3 : Cond.code objectInit ⟨#[0xb1]⟩ 1 none ∈ tk_G)
    (hrm : 1 ≤ M.2.2.2.2.frames ∧ 12 ≤ M.2.2.2.2.locals) (hn : pc + 3 = nx) : tk_So sc M pc (tk_oi nx) := by
  subst hn
  intro l D cy L st μ kc ks K q hK ha p e s m args below meth cd H locs ad ad0 n0 A ls hC hR hS hA hL hN hX
  unfold tk_oi at ha
  split at ha
  · have hts := hC.2.2.2.2.2.1
    exact W.objInit hC.1 hC.2.1 hC.2.2.2.2.1 (hts _ hlk) (hts _ h2) (hts _ h3) rfl (by rw [hC.2.2.2.1]; exact hL.1.1) rfl hd hrm.1 hrm.2 (hK _ ha p e s m args below meth cd H locs ad ad0 n0 A ls hC hR hS hA hL hN hX)
  · exact ha.elim
end
/-- what grows: the old cells stay, the new one stands behind them -/
theorem tk_grow {cy : Nat → ClassId} {ad : Nat → Nat} {σ : Nat → Nat → Int32} {ρ : Nat → Nat → Option Nat} {τ : Nat → Nat → Int64} {n a : Nat} {e : va_E} (hρ : ∀ p k r, ρ p k = some r → r ≤ n)
    (he : tk_cell cy (fun i => if i = n + 1 then a else ad i) (tk_z σ (n + 1) 0, tk_z ρ (n + 1) none, tk_z τ (n + 1) 0, n + 1) (n + 1) = e) :
    tk_ws cy ad (σ, ρ, τ, n) ++ [(a, e)] = tk_ws cy (fun i => if i = n + 1 then a else ad i) (tk_z σ (n + 1) 0, tk_z ρ (n + 1) none, tk_z τ (n + 1) 0, n + 1) := by
  unfold tk_ws
  dsimp only
  rw [List.range_succ, List.map_append]
  congr 1
  · apply List.map_congr_left
    intro j hj
    have hj := List.mem_range.mp hj
    have h1 : ∀ p k, p ≠ n + 1 → (tk_z ρ (n + 1) none p k).map (fun i => if i = n + 1 then a else ad i) = (ρ p k).map ad := by
      intro p k hp
      unfold tk_z
      rw [if_neg hp]
      cases hr : ρ p k with
      | none => rfl
      | some r =>
        have := hρ p k r hr
        simp only [Option.map_some]
        rw [if_neg (by omega)]
    have h2 : tk_z σ (n + 1) 0 (j + 1) = σ (j + 1) := funext fun k => if_neg (by omega)
    have h3 : tk_z τ (n + 1) 0 (j + 1) = τ (j + 1) := funext fun k => if_neg (by omega)
    refine Prod.ext ?_ ?_
    · dsimp only
      rw [if_neg (by omega)]
    · unfold tk_cell tk_fv
      dsimp only
      simp only [h2, h3, fun k => h1 (j + 1) k (by omega)]
  · rw [List.map_cons, List.map_nil, he]
    simp
section
variable {sc : Option (Nat × (Nat → Int32))} {M : tk_Md} {pc nx : Nat}
theorem tk_grown {l : Launch} {D : va_G} {cy : Nat → ClassId} {q : tk_Po} {L : List (Option Value)} {r : List Value} {kc ks : Nat} {σ : Nat → Nat → Int32} {ρ : Nat → Nat → Option Nat} {τ : Nat → Nat → Int64} {n a dz : Nat} {e9 : va_E}
    {p : Program} {e : Env} {s : State} {m : MethodId} {args : Array Value} {below : List Frame} {meth : Method} {cd : Code} {locs : List Loc} {ad ad0 : Nat → Nat} {n0 : Nat} {A : Nat → Prop} {ls : Array Slot} {H1 : Heap}
    (hC : tk_C D cy M p s m args meth cd) (hρ : ∀ p k r, ρ p k = some r → r ≤ n) (hA : ∀ x, s.heap.size ≤ x → A x) (hL : tk_L ad L ls M.2.2.1)
    (hN : (∀ i, i ≤ n0 → ad i = ad0 i) ∧ n0 ≤ n ∧ (kc = 0 → ad = ad0) ∧ kc ≤ M.2.2.2.2.cells ∧ ks ≤ M.2.2.2.2.slots)
    (hX : ∀ Ls xs, sc = some (Ls, xs) → va_X (ad 0) Ls xs s s.heap ∧ ad 0 < s.heap.size ∧ ¬ A (ad 0))
    (hf : tk_fr n L r = true) (hc : kc + 1 ≤ M.2.2.2.2.cells) (hs : ks + dz ≤ M.2.2.2.2.slots)
    (he : tk_cell cy (fun i => if i = n + 1 then a else ad i) (tk_z σ (n + 1) 0, tk_z ρ (n + 1) none, tk_z τ (n + 1) 0, n + 1) (n + 1) = e9)
    (hP : va_P D vwCl (tk_ws cy ad (σ, ρ, τ, n) ++ [(a, e9)]) H1) (hD : va_D A (tk_ws cy ad (σ, ρ, τ, n) ++ [(a, e9)])) (hS : va_S A s.heap H1 locs)
    (hJ : tk_J l D cy sc M (nx, L, .ref (n + 1) :: r, (tk_z σ (n + 1) 0, tk_z ρ (n + 1) none, tk_z τ (n + 1) 0, n + 1), kc + 1, ks + dz) q) :
    W p l e M.2.2.2.2 s m args below meth cd H1 locs (kc + 1) (ks + dz) (MQ below (tk_Q D cy M.2.2.2.2 ad0 n0 A q) args s M.2.2.2.2.cells M.2.2.2.2.slots A) (F0 m nx ls (.ref a :: r.map (tk_v ad))) := by
  have had : ∀ i, i ≤ n → (fun i => if i = n + 1 then a else ad i) i = ad i := fun i hi => if_neg (by omega)
  rw [tk_grow hρ he] at hP hD
  simp only [tk_fr, Bool.and_eq_true] at hf
  have hW := hJ p e s m args below meth cd H1 locs (fun i => if i = n + 1 then a else ad i) ad0 n0 A ls hC ⟨hP, hD, fun x k r hr => ?_⟩ hS hA (tk_L_fr hL hf.2 had) ⟨fun i hi => (had i (Nat.le_trans hi hN.2.1)).trans (hN.1 i hi), Nat.le_trans hN.2.1 (Nat.le_succ n), fun h => absurd h (Nat.succ_ne_zero kc), hc, hs⟩ (by rw [show (if 0 = n + 1 then a else ad 0) = ad 0 from had 0 (Nat.zero_le _)]; exact hX)
  · have e1 : (Value.ref (n + 1) :: r).map (tk_v (fun i => if i = n + 1 then a else ad i)) = .ref a :: r.map (tk_v ad) := by
      rw [List.map_cons, tk_vs_fr hf.1 had]
      congr 1
      simp [tk_v]
    rw [← e1]
    exact hW
  · have hr : tk_z ρ (n + 1) none x k = some r := hr
    unfold tk_z at hr
    split at hr
    · cases hr
    · exact Nat.le_succ_of_le (hρ x k r hr)
theorem so_new {t idx mc ms : Nat} {C : String} {T : u_T} {N : Nat} (hd : decode M.2.1 pc = .ok (.new idx, 3)) (ht : t < 8) (hc : vwCl[t]? = some (C, T, N)) (hnf : tk_nf t = N) (hin : ∀ w ∈ u_ws C T N, w ∈ tk_G) (ty : Nat → FieldType) (hty : ∀ k, k < N → parseFieldDescriptor (T k).2.2.1 = some (ty k))
    (hcl : Cond.classLink M.1.cls idx C ∈ tk_G) (hinst : Cond.instantiable C N ∈ tk_G) (hini : Cond.initialized C ∈ tk_G) (hdef : ∀ j, j < N → defaultValue (ty j) = tk_d0 (tk_ft t j))
    (hmc : M.2.2.2.2.cells = mc) (hms : M.2.2.2.2.slots = ms) (hn : pc + 3 = nx) : tk_So sc M pc (tk_new t nx mc ms) := by
  subst hn
  subst hmc
  subst hms
  subst hnf
  intro l D cy L st μ kc ks K q hK ha p e s m args below meth cd H locs ad ad0 n0 A ls hC hR hS hA hL hN hX
  obtain ⟨σ, ρ, τ, n⟩ := μ
  unfold tk_new at ha
  dsimp only at ha
  obtain ⟨hok, ha⟩ := tk_if.mp ha
  simp only [Bool.and_eq_true, Nat.ble_eq, Nat.beq_eq_true_eq] at hok
  obtain ⟨hkd, hfr, hroom⟩ := hok
  have hkd := Nat.eq_of_beq_eq_true hkd
  have hts := hC.2.2.2.2.2.1
  refine va_new (fs := (List.range (tk_nf t)).map (fun k => tk_d0 (tk_ft t k))) hC.1 hC.2.1 hts hin ty hty hC.2.2.2.2.1 (hts _ hcl) (hts _ hinst) (hts _ hini) hC.2.2.2.2.2.2.2.2.1 hR.1 hR.2.1 hS hA hc ?_ hroom.1 hroom.2 hd (fun a H1 hP hD hS1 => ?_)
  · intro j hj
    rw [hdef j hj]
    unfold vp_V
    rw [List.getD_eq_getElem?_getD, List.getElem?_map, List.getElem?_range hj]
    rfl
  · refine tk_grown hC hR.2.2 hA hL hN hX hfr hroom.1 hroom.2 ?_ hP hD hS1 (hK _ ha)
    rw [tk_cell_obj hkd ht]
    refine congrArg (fun z => Sum.inr (t, z)) (List.map_congr_left fun k _ => ?_)
    unfold tk_fv tk_z
    simp only [if_true]
    generalize tk_ft t k = c
    match c with
    | 0 => rfl
    | 1 => rfl
    | _ + 2 => rfl
theorem so_nwI {mc ms : Nat} {aty : ArrayType} (hd : decode M.2.1 pc = .ok (.newarray aty, 2)) (hat : newarray.typeOf aty = .int) (harr : Cond.arrayClass .int ∈ tk_G) (hmc : M.2.2.2.2.cells = mc) (hms : M.2.2.2.2.slots = ms) (hn : pc + 2 = nx) : tk_So sc M pc (tk_nwa 9 nx mc ms) := by
  subst hn
  subst hmc
  subst hms
  intro l D cy L st μ kc ks K q hK ha p e s m args below meth cd H locs ad ad0 n0 A ls hC hR hS hA hL hN hX
  unfold tk_nwa at ha
  split at ha
  · rename_i z r σ ρ τ n
    obtain ⟨hok, ha⟩ := tk_if.mp ha
    simp only [Bool.and_eq_true, Nat.ble_eq, Nat.beq_eq_true_eq, decide_eq_true_eq] at hok
    obtain ⟨hkd, hz, hz0, hz1, hfr, hroom⟩ := hok
    have hkd := Nat.eq_of_beq_eq_true hkd
    have hz := Nat.eq_of_beq_eq_true hz
    have hts := hC.2.2.2.2.2.1
    have hK0 := hC.2.2.2.2.2.2.2.2.1
    refine va_newa (a0 := (z.toNatClampNeg, .inl (fun _ => 0))) hC.1 hC.2.1 (by rw [hat]; exact hts _ harr) hat hK0 hR.1 hR.2.1 hS hA (fun cA => vp_cell_i ..) hz0 rfl (by simp only [componentBytes]; omega) hroom.1 hroom.2 hd (fun a cA H1 hK1 hP hD hS1 => ?_)
    have hcA : cA = cy 9 := by
      have h1 := (hK1.2 5 (cA, .int) rfl).2
      have h2 := (hK0.2 1 (cy 9, .int) rfl).2
      exact Option.some.inj (h1.symm.trans h2)
    subst hcA
    refine tk_grown hC hR.2.2 hA hL hN hX hfr hroom.1 hroom.2 ?_ hP hD hS1 (hK _ ha)
    rw [tk_cell_arr hkd (by decide) (by decide), hz]
    refine congrArg (fun f => Sum.inl (cy 9, z.toNatClampNeg, Sum.inl f)) (funext fun k => ?_)
    exact if_pos rfl
  · exact ha.elim
theorem so_nwC {mc ms : Nat} {aty : ArrayType} (hd : decode M.2.1 pc = .ok (.newarray aty, 2)) (hat : newarray.typeOf aty = .char) (harr : Cond.arrayClass .char ∈ tk_G) (hmc : M.2.2.2.2.cells = mc) (hms : M.2.2.2.2.slots = ms) (hn : pc + 2 = nx) : tk_So sc M pc (tk_nwa 8 nx mc ms) := by
  subst hn
  subst hmc
  subst hms
  intro l D cy L st μ kc ks K q hK ha p e s m args below meth cd H locs ad ad0 n0 A ls hC hR hS hA hL hN hX
  unfold tk_nwa at ha
  split at ha
  · rename_i z r σ ρ τ n
    obtain ⟨hok, ha⟩ := tk_if.mp ha
    simp only [Bool.and_eq_true, Nat.ble_eq, Nat.beq_eq_true_eq, decide_eq_true_eq] at hok
    obtain ⟨hkd, hz, hz0, hz1, hfr, hroom⟩ := hok
    have hkd := Nat.eq_of_beq_eq_true hkd
    have hz := Nat.eq_of_beq_eq_true hz
    have hts := hC.2.2.2.2.2.1
    have hK0 := hC.2.2.2.2.2.2.2.2.1
    refine va_newa (a0 := (z.toNatClampNeg, .inl (fun _ => 0))) hC.1 hC.2.1 (by rw [hat]; exact hts _ harr) hat hK0 hR.1 hR.2.1 hS hA (fun cA => vp_cell_i ..) hz0 rfl (by simp only [componentBytes]; omega) hroom.1 hroom.2 hd (fun a cA H1 hK1 hP hD hS1 => ?_)
    have hcA : cA = cy 8 := by
      have h1 := (hK1.2 5 (cA, .char) rfl).2
      have h2 := (hK0.2 0 (cy 8, .char) rfl).2
      exact Option.some.inj (h1.symm.trans h2)
    subst hcA
    refine tk_grown hC hR.2.2 hA hL hN hX hfr hroom.1 hroom.2 ?_ hP hD hS1 (hK _ ha)
    rw [tk_cell_arr hkd (by decide) (by decide), hz]
    refine congrArg (fun f => Sum.inl (cy 8, z.toNatClampNeg, Sum.inl f)) (funext fun k => ?_)
    exact if_pos rfl
  · exact ha.elim
theorem so_nwZ {mc ms : Nat} {aty : ArrayType} (hd : decode M.2.1 pc = .ok (.newarray aty, 2)) (hat : newarray.typeOf aty = .boolean) (harr : Cond.arrayClass .boolean ∈ tk_G) (hmc : M.2.2.2.2.cells = mc) (hms : M.2.2.2.2.slots = ms) (hn : pc + 2 = nx) : tk_So sc M pc (tk_nwa 10 nx mc ms) := by
  subst hn
  subst hmc
  subst hms
  intro l D cy L st μ kc ks K q hK ha p e s m args below meth cd H locs ad ad0 n0 A ls hC hR hS hA hL hN hX
  unfold tk_nwa at ha
  split at ha
  · rename_i z r σ ρ τ n
    obtain ⟨hok, ha⟩ := tk_if.mp ha
    simp only [Bool.and_eq_true, Nat.ble_eq, Nat.beq_eq_true_eq, decide_eq_true_eq] at hok
    obtain ⟨hkd, hz, hz0, hz1, hfr, hroom⟩ := hok
    have hkd := Nat.eq_of_beq_eq_true hkd
    have hz := Nat.eq_of_beq_eq_true hz
    have hts := hC.2.2.2.2.2.1
    have hK0 := hC.2.2.2.2.2.2.2.2.1
    refine va_newa (a0 := (z.toNatClampNeg, .inl (fun _ => 0))) hC.1 hC.2.1 (by rw [hat]; exact hts _ harr) hat hK0 hR.1 hR.2.1 hS hA (fun cA => vp_cell_i ..) hz0 rfl (by simp only [componentBytes]; omega) hroom.1 hroom.2 hd (fun a cA H1 hK1 hP hD hS1 => ?_)
    have hcA : cA = cy 10 := by
      have h1 := (hK1.2 5 (cA, .boolean) rfl).2
      have h2 := (hK0.2 2 (cy 10, .boolean) rfl).2
      exact Option.some.inj (h1.symm.trans h2)
    subst hcA
    refine tk_grown hC hR.2.2 hA hL hN hX hfr hroom.1 hroom.2 ?_ hP hD hS1 (hK _ ha)
    rw [tk_cell_arr hkd (by decide) (by decide), hz]
    refine congrArg (fun f => Sum.inl (cy 10, z.toNatClampNeg, Sum.inl f)) (funext fun k => ?_)
    exact if_pos rfl
  · exact ha.elim
theorem so_nwT {idx mc ms : Nat} (hd : decode M.2.1 pc = .ok (.anewarray idx, 3)) (hcl : Cond.classLink M.1.cls idx RX4 ∈ tk_G) (hmc : M.2.2.2.2.cells = mc) (hms : M.2.2.2.2.slots = ms) (hn : pc + 3 = nx) : tk_So sc M pc (tk_nwa 11 nx mc ms) := by
  subst hn
  subst hmc
  subst hms
  intro l D cy L st μ kc ks K q hK ha p e s m args below meth cd H locs ad ad0 n0 A ls hC hR hS hA hL hN hX
  unfold tk_nwa at ha
  split at ha
  · rename_i z r σ ρ τ n
    obtain ⟨hok, ha⟩ := tk_if.mp ha
    simp only [Bool.and_eq_true, Nat.ble_eq, Nat.beq_eq_true_eq, decide_eq_true_eq] at hok
    obtain ⟨hkd, hz, hz0, hz1, hfr, hroom⟩ := hok
    have hkd := Nat.eq_of_beq_eq_true hkd
    have hz := Nat.eq_of_beq_eq_true hz
    have hts := hC.2.2.2.2.2.1
    have hK0 := hC.2.2.2.2.2.2.2.2.1
    refine va_newq hC.1 hC.2.1 hC.2.2.2.2.1 (hts _ hcl) hC.2.2.2.2.2.2.2.2.2.2.1 hK0 hR.1 hR.2.1 hS hA hz0 rfl (by omega) hroom.1 hroom.2 hd (fun a cA H1 hK1 hP hD hS1 => ?_)
    have hcA : cA = cy 11 := by
      obtain ⟨_, _, _, _, _, h1⟩ := (hK1.2 5 (cA, .object RX4) rfl).2
      obtain ⟨_, _, _, _, _, h2⟩ := (hK0.2 3 (cy 11, .object RX4) rfl).2
      exact Option.some.inj (h1.symm.trans h2)
    subst hcA
    refine tk_grown hC hR.2.2 hA hL hN hX hfr hroom.1 hroom.2 ?_ hP hD hS1 (hK _ ha)
    rw [tk_cell_arq hkd (by decide), hz]
    refine congrArg (fun f => Sum.inl (cy 11, z.toNatClampNeg, Sum.inr (Sum.inr (Sum.inr (Sum.inr f))))) (funext fun k => ?_)
    simp [tk_z]
  · exact ha.elim
end
/-- a contract out of a walk from the entry -/
theorem tk_ct {M : tk_Md} {as : List Value} {μ : tk_Me} {P : tk_Po} (hy : plainName M.1.cls = true) (hc : as.all (fun v => v.category == 1) = true) (hl : as.length ≤ M.2.2.1)
    (h : ∀ l D cy, tk_J l D cy none M (0, as.map some ++ List.replicate (M.2.2.1 - as.length) none, [], μ, 0, 0) P) : tk_Ct M as μ P := by
  intro l D cy ad A
  refine Met.ofW (cc := M.2.1) (maxL := M.2.2.1) (ret := M.2.2.2.1) hy rfl ?_
  intro p e s m args below meth c s₁ B hml hv
  obtain ⟨rfl, hA, hK, hN, hR⟩ := hv
  have hts0 := atoms_spec (ws := tk_wsM M) B.pre
  have hts : ∀ w ∈ tk_G, w.before (as.map (tk_v ad)).toArray s = true := fun w hw => hts0 w (List.mem_cons_of_mem _ hw)
  have hcat : ∀ v ∈ as, v.category = 1 := fun v hv => by
    have := List.all_eq_true.mp hc v hv
    simpa using this
  have hargs : ∀ (vs : List Value) (i : Nat), (∀ v ∈ vs, v.category = 1) → lv_args i (vs.map (tk_v ad)) = (List.range vs.length).filterMap (fun j => (vs[j]?).map (fun v => (i + j, tk_v ad v))) ∧ (lg_sl (vs.map (tk_v ad))).length = vs.length := by
    intro vs
    induction vs with
    | nil => intro i _; exact ⟨rfl, rfl⟩
    | cons v vs ih =>
      intro i hv
      have h1 : v.category = 1 := hv v List.mem_cons_self
      obtain ⟨g1, g2⟩ := ih (i + 1) (fun w hw => hv w (List.mem_cons_of_mem _ hw))
      have h2 : (tk_v ad v).category = 1 := by rw [tk_v_cat]; exact h1
      refine ⟨?_, ?_⟩
      · rw [List.map_cons]
        unfold lv_args
        rw [if_neg (by rw [h2]; decide), g1, List.length_cons, List.range_succ_eq_map, List.filterMap_cons]
        simp only [List.getElem?_cons_zero, Option.map_some, Nat.add_zero, List.filterMap_map]
        congr 1
        congr 1
        funext j
        simp only [Function.comp, Nat.succ_eq_add_one, List.getElem?_cons_succ]
        rw [show i + 1 + j = i + (j + 1) by omega]
      · unfold lg_sl at g2 ⊢
        rw [List.map_cons, List.flatMap_cons, List.length_append, if_neg (by rw [h2]; decide), g2, List.length_cons, List.length_cons, List.length_nil]
        omega
  have hlen : (lg_sl (as.map (tk_v ad))).length ≤ M.2.2.1 := by rw [(hargs as 0 hcat).2]; exact hl
  have hl0 := lv_entry (as.map (tk_v ad)) (n := M.2.2.1) hlen
  rw [lg_entry_eq]
  generalize (lg_sl (as.map (tk_v ad)) ++ List.replicate (M.2.2.1 - (lg_sl (as.map (tk_v ad))).length) Slot.unset).toArray = ls at hl0 ⊢
  refine h l D cy p e s m (as.map (tk_v ad)).toArray below meth c s.heap [] ad ad μ.2.2.2 A ls ⟨B.exec, B.bytes, B.returns, hml, findClass_of_methodNamed B.named, hts, B.notSynchronized, (name_of_methodNamed B.named B.method).1, hK, hN⟩ hR va_S.rf hA ?_ ⟨fun _ _ => rfl, Nat.le_refl _, fun _ => rfl, Nat.zero_le _, Nat.zero_le _⟩ (fun _ _ h => by cases h)
  refine ⟨⟨hl0.1, hl0.2.1, fun q hq => ?_⟩, ?_, fun i v hv => ?_⟩
  · obtain ⟨j, w⟩ := q
    obtain ⟨v, hv, rfl⟩ := tk_lv_mem.mp hq
    have hj : (as.map some ++ List.replicate (M.2.2.1 - as.length) none)[j]? = some (some v) := hv
    refine hl0.2.2 _ ?_
    rw [(hargs as 0 hcat).1]
    by_cases hjl : j < as.length
    · rw [List.getElem?_append_left (by rw [List.length_map]; exact hjl), List.getElem?_map] at hj
      cases hx : as[j]? with
      | none => rw [hx] at hj; cases hj
      | some x =>
        rw [hx] at hj
        cases hj
        refine List.mem_filterMap.mpr ⟨j, List.mem_range.mpr hjl, ?_⟩
        rw [hx]
        simp
    · rw [List.getElem?_append_right (by rw [List.length_map]; omega)] at hj
      have := List.eq_of_mem_replicate (List.mem_of_getElem? hj)
      cases this
  · show (as.map some ++ List.replicate (M.2.2.1 - as.length) none).length = _
    rw [List.length_append, List.length_map, List.length_replicate]
    omega
  · have hj : (as.map some ++ List.replicate (M.2.2.1 - as.length) none)[i]? = some (some v) := hv
    have hm := List.mem_of_getElem? hj
    rcases List.mem_append.mp hm with h | h
    · obtain ⟨x, hx, hxv⟩ := List.mem_map.mp h
      cases hxv
      exact hcat _ hx
    · have := List.eq_of_mem_replicate h
      cases this
end
section
/-- the word of arrays of arrays -/
def va_AOA (t : FieldType) (U : State) : Prop := (Cond.arrayOver (.array t)).before #[] U = true
theorem va_AOA.use {t : FieldType} {A : Array Value} {U : State} (h : va_AOA t U) : (Cond.arrayOver (.array t)).before A U = true := h
/-! ===== BEGIN new T[n][m]: the outer array a place, the inner ones among the pooled ===== -/
/-- f, but v at every address of l -/
def vr_up {α : Type} (f : Nat → α) (l : List Nat) (v : α) : Nat → α := fun a => if a ∈ l then v else f a
theorem vr_up_in {α : Type} {f : Nat → α} {l : List Nat} {v : α} {a : Nat} (h : a ∈ l) : vr_up f l v a = v := if_pos h
theorem vr_up_ne {α : Type} {f : Nat → α} {l : List Nat} {v : α} {a : Nat} (h : a ∉ l) : vr_up f l v a = f a := if_neg h
theorem vr_rows {L l : List Nat} {f : Nat → va_E} {e : va_E} (h : ∀ a, a ∈ l → a ∉ L) : va_pl L f ++ l.map (fun a => (a, e)) = va_pl (L ++ l) (vr_up f l e) := by
  unfold va_pl
  rw [List.map_append]
  congr 1
  · apply List.map_congr_left
    intro a ha
    rw [vr_up_ne (fun q => h a q ha)]
  · apply List.map_congr_left
    intro a ha
    rw [vr_up_in ha]
theorem vr_lay {X rows : va_W} {x : Nat × va_E} {pl : va_W} {D : va_G} {cl : List vw_C} {H : Heap} (hP : va_P D cl (((X ++ pl) ++ [x]) ++ rows) H) : va_P D cl ((X ++ [x]) ++ (pl ++ rows)) H := by
  rw [List.append_assoc (X ++ pl)] at hP
  have h := va_P.swap hP
  rw [← List.append_assoc X] at h
  have h2 := va_P.swap h
  rw [List.append_assoc (X ++ [x])] at h2
  exact h2
theorem vr_layD {X rows : va_W} {x : Nat × va_E} {pl : va_W} {A : Nat → Prop} (hD : va_D A (((X ++ pl) ++ [x]) ++ rows)) : va_D A ((X ++ [x]) ++ (pl ++ rows)) := by
  rw [List.append_assoc (X ++ pl)] at hD
  have h := va_D.swap hD
  rw [← List.append_assoc X] at h
  have h2 := va_D.swap h
  rw [List.append_assoc (X ++ [x])] at h2
  exact h2
theorem vr_outer (c : ClassId) (N h0 : Nat) : ∀ i : Nat, Jvm.Free.Multi.outerC c N h0 i = arrV c N (fun j => va_rf (if j < i then some (h0 + 1 + j) else none))
  | 0 => by
    show ({ cls := c, slots := Array.replicate N .null, vm := .none } : Cell) = _
    rw [arrV_new]
    refine congrArg (arrV c N) (funext fun j => ?_)
    simp [va_rf]
  | i + 1 => by
    show (Jvm.Free.Multi.outerC c N h0 i).setSlot i (.ref (h0 + 1 + i)) = _
    rw [vr_outer c N h0 i, arrV_store]
    refine congrArg (arrV c N) (funext fun j => ?_)
    by_cases e : j = i
    · subst e
      simp [updV, va_rf]
    · by_cases h : j < i
      · simp [updV, e, h, Nat.lt_succ_of_lt h]
      · simp [updV, e, h, show ¬ j < i + 1 by omega]
section VGM
variable {p : Program} {l : Launch} {e : Env} {R : Room} {s : State} {m : MethodId} {args : Array Value} {below : List Frame} {meth : Method} {c : Code} {H : Heap} {locs : List Loc} {cells slots : Nat} {Q : State → Prop}
variable {cc : ByteArray} {pc : Nat} {ls : Array Slot} {rest : List Value} {D : va_G} {cl : List vw_C} {A : Nat → Prop} {a : Nat} {tys : List (ClassId × FieldType)} {ws : va_W} {H0 : Heap}
theorem va_mna {X : va_W} {L : List Nat} {f : Nat → va_E} {cc : ByteArray} (hexec : p.tables.exec = Jvm.exec) (hb : c.code = cc) {own : String} {index : Nat} {ty : FieldType} {cy : ClassId} (hown : s.vm.findClass own = some m.cls) (hclink : (Cond.classLink own index ("[" ++ (FieldType.array ty).toString)).before args s = true) (hover : va_AOA ty s) (harr : (Cond.arrayClass ty).before args s = true) (hcy : s.vm.findClass (FieldType.array ty).toString = some cy)
    (hK : va_K D cl tys s) (hP : va_P D cl (X ++ va_pl L f) H) (hD : va_D A (X ++ va_pl L f)) (hS : va_S A H0 H locs) (hA : ∀ q, H0.size ≤ q → A q) {n k : Int32} {N' K' : Nat} {z : vp_A} (hn : ¬ n < 0) (hk : ¬ k < 0) (hN : n.toNatClampNeg = N') (hM : k.toNatClampNeg = K')
    (hb1 : N' * 4 ≤ 536870912) (hb2 : K' * componentBytes ty ≤ 536870912) (hb3 : K' ≤ 536870912) (hdf : fits ty (defaultValue ty) = true) (hdd : (defaultValue ty).isDefault = true) (hcells : cells + (1 + N') ≤ R.cells) (hslots : slots + (N' + N' * K') ≤ R.slots) (hz : ∀ c : ClassId, Jvm.Free.Multi.innerC c K' (defaultValue ty) = vp_cell c z) (hdg : decode cc pc = .ok (.multianewarray index 2, 4))
    (kk : ∀ (q : Nat) (r : Nat → Nat) (cA : ClassId) (H1 : Heap), (∀ i j : Nat, i < N' → j < N' → r i = r j → i = j) → (∀ i : Nat, i < N' → r i ∉ L) → va_K D cl (tys ++ [(cA, .array ty)]) s →
      va_P D cl ((X ++ [(q, .inl (cA, N', .inr (.inr (.inr (.inr (fun i => if i < N' then some (r i) else none))))))]) ++ va_pl (L ++ (List.range N').map r) (vr_up f ((List.range N').map r) (.inl (cy, z)))) H1 → va_D A ((X ++ [(q, .inl (cA, N', .inr (.inr (.inr (.inr (fun i => if i < N' then some (r i) else none))))))]) ++ va_pl (L ++ (List.range N').map r) (vr_up f ((List.range N').map r) (.inl (cy, z)))) → va_S A H0 H1 locs →
      W p l e R s m args below meth c H1 locs (cells + 1 + N') (slots + N' + N' * K') Q (F0 m (pc + 4) ls (.ref q :: rest))) : W p l e R s m args below meth c H locs cells slots Q (F0 m pc ls (.int k :: .int n :: rest)) := by
  subst hN
  subst hM
  intro T hT Xs
  obtain ⟨vm₁, cA, comp, -, fA, fC, hO, -, X', step⟩ := Xs.multianewarray2F hexec hown hclink (va_AOA.use hover) harr (g := F0 m pc ls (.int k :: .int n :: rest)) rfl (by rw [hb]; exact hdg) rfl hn hk hb1 hb2 hb3 hdf hdd hcells hslots
  have ec : some cy = some comp := hcy.symm.trans fC
  cases ec
  generalize hF : Jvm.Free.Multi.fill (T.setVm vm₁) cA cy n.toNatClampNeg k.toNatClampNeg (defaultValue ty) n.toNatClampNeg = F at X' step
  have hTh : (T.setVm vm₁).heap = H := hT
  obtain ⟨f1, f2, -, -⟩ := Jvm.Free.Multi.fill_facts (T.setVm vm₁) cA cy n.toNatClampNeg k.toNatClampNeg (defaultValue ty) n.toNatClampNeg
  rw [hF, hTh] at f1 f2
  have hold : ∀ x : Nat, x < H.size → F.heap[x]? = H[x]? := fun x hx => by
    have := Jvm.Free.Multi.fill_old (T.setVm vm₁) cA cy n.toNatClampNeg k.toNatClampNeg (defaultValue ty) (a := x) (by rw [hTh]; exact hx) n.toNatClampNeg
    rw [hF, hTh] at this
    exact this
  have hrow : ∀ j : Nat, j < n.toNatClampNeg → F.heap[H.size + 1 + j]? = some (vp_cell cy z) := fun j hj => by
    have := Jvm.Free.Multi.fill_inner (T.setVm vm₁) cA cy n.toNatClampNeg k.toNatClampNeg (defaultValue ty) n.toNatClampNeg j hj
    rw [hF, hTh, hz] at this
    exact this
  have hout : Jvm.Free.Multi.outerC cA n.toNatClampNeg H.size n.toNatClampNeg = vp_cell cA (n.toNatClampNeg, .inr (.inr (.inr (.inr (fun i => if i < n.toNatClampNeg then some (H.size + 1 + i) else none))))) := by
    rw [vp_cell_q]
    exact vr_outer cA n.toNatClampNeg H.size n.toNatClampNeg
  rw [hout] at f2
  have hlt : ∀ a, a ∈ L → a < H.size := fun a ha => by
    obtain ⟨k9, hk9⟩ := va_pl_get (X := X) (f := f) ha
    exact (hP k9 _ hk9).lt
  have hnl : ∀ i : Nat, i < n.toNatClampNeg → H.size + 1 + i ∉ L := fun i _ h => by
    have := hlt _ h
    omega
  have hnm : ∀ a, a ∈ (List.range n.toNatClampNeg).map (fun i => H.size + 1 + i) → a ∉ L := fun a ha h => by
    obtain ⟨i, -, rfl⟩ := List.mem_map.mp ha
    have := hlt _ h
    omega
  have hP0 : va_P D cl (X ++ va_pl L f) F.heap := hP.kept (fun k9 x hx => hold x.1 ((hP k9 x hx).lt))
  have hP1 : va_P D cl ((X ++ va_pl L f) ++ [(H.size, .inl (cA, n.toNatClampNeg, .inr (.inr (.inr (.inr (fun i => if i < n.toNatClampNeg then some (H.size + 1 + i) else none))))))]) F.heap := hP0.app (fun k9 x hx => by
    have h0 : k9 < 1 := (List.getElem?_eq_some_iff.mp hx).1
    rw [show k9 = 0 by omega] at hx
    cases hx
    exact f2)
  have hP2 : va_P D cl (((X ++ va_pl L f) ++ [(H.size, .inl (cA, n.toNatClampNeg, .inr (.inr (.inr (.inr (fun i => if i < n.toNatClampNeg then some (H.size + 1 + i) else none))))))]) ++ ((List.range n.toNatClampNeg).map (fun i => H.size + 1 + i)).map (fun a => (a, .inl (cy, z)))) F.heap := hP1.app (fun k9 x hx => by
    obtain ⟨a, ha, rfl⟩ := List.mem_map.mp (List.mem_of_getElem? hx)
    obtain ⟨i, hi, rfl⟩ := List.mem_map.mp ha
    exact hrow i (List.mem_range.mp hi))
  have hD2 : va_D A (((X ++ va_pl L f) ++ [(H.size, .inl (cA, n.toNatClampNeg, .inr (.inr (.inr (.inr (fun i => if i < n.toNatClampNeg then some (H.size + 1 + i) else none))))))]) ++ ((List.range n.toNatClampNeg).map (fun i => H.size + 1 + i)).map (fun a => (a, .inl (cy, z)))) := by
    have hD1 := hD.push (e := .inl (cA, n.toNatClampNeg, .inr (.inr (.inr (.inr (fun i => if i < n.toNatClampNeg then some (H.size + 1 + i) else none)))))) hP rfl (hA _ hS.1)
    generalize hW1 : (X ++ va_pl L f) ++ [(H.size, .inl (cA, n.toNatClampNeg, .inr (.inr (.inr (.inr (fun i => if i < n.toNatClampNeg then some (H.size + 1 + i) else none))))))] = W1 at hD1 hP1 ⊢
    have hle : ∀ (k9 : Nat) (x : Nat × va_E), W1[k9]? = some x → x.1 ≤ H.size := fun k9 x hx => by
      rw [← hW1] at hx
      by_cases hl : k9 < (X ++ va_pl L f).length
      · rw [List.getElem?_append_left hl] at hx
        exact Nat.le_of_lt ((hP k9 x hx).lt)
      · rw [List.getElem?_append_right (by omega)] at hx
        have h0 : k9 - (X ++ va_pl L f).length < 1 := (List.getElem?_eq_some_iff.mp hx).1
        rw [show k9 - (X ++ va_pl L f).length = 0 by omega] at hx
        cases hx
        exact Nat.le_refl _
    have hr : ∀ (k9 : Nat) (x : Nat × va_E), (((List.range n.toNatClampNeg).map (fun i => H.size + 1 + i)).map (fun a => ((a, .inl (cy, z)) : Nat × va_E)))[k9]? = some x → x.1 = H.size + 1 + k9 := fun k9 x hx => by
      rw [List.getElem?_map, List.getElem?_map] at hx
      by_cases h9 : k9 < n.toNatClampNeg
      · rw [List.getElem?_range h9] at hx
        cases hx
        rfl
      · have hn0 : (List.range n.toNatClampNeg)[k9]? = none := List.getElem?_eq_none (by rw [List.length_range]; omega)
        rw [hn0] at hx
        cases hx
    refine ⟨fun i j x y hi hj hxy => ?_, fun k9 x hx => ?_⟩
    · by_cases h1 : i < W1.length <;> by_cases h2 : j < W1.length
      · rw [List.getElem?_append_left h1] at hi
        rw [List.getElem?_append_left h2] at hj
        exact hD1.1 i j x y hi hj hxy
      · rw [List.getElem?_append_left h1] at hi
        rw [List.getElem?_append_right (by omega)] at hj
        have := hle _ _ hi
        have := hr _ _ hj
        omega
      · rw [List.getElem?_append_right (by omega)] at hi
        rw [List.getElem?_append_left h2] at hj
        have := hle _ _ hj
        have := hr _ _ hi
        omega
      · rw [List.getElem?_append_right (by omega)] at hi hj
        have := hr _ _ hi
        have := hr _ _ hj
        omega
    · by_cases h1 : k9 < W1.length
      · rw [List.getElem?_append_left h1] at hx
        exact hD1.2 k9 x hx
      · rw [List.getElem?_append_right (by omega)] at hx
        have := hr _ _ hx
        exact hA _ (by have := hS.1; omega)
  have hAr : ArrOfT s cA (.array ty) := fun N9 z9 => by
    obtain ⟨-, k9, hk9, cm9, hkk9⟩ := (hO 0 0 0).1
    exact ⟨(fun q hq => by cases hq), k9, hk9, cm9, hkk9⟩
  have hK2 : va_K D cl (tys ++ [(cA, .array ty)]) s := ⟨hK.1, fun k9 x hx => by
    by_cases hl : k9 < tys.length
    · rw [List.getElem?_append_left hl] at hx
      exact hK.2 k9 x hx
    · rw [List.getElem?_append_right (by omega)] at hx
      have h0 : k9 - tys.length < 1 := (List.getElem?_eq_some_iff.mp hx).1
      rw [show k9 - tys.length = 0 by omega] at hx
      cases hx
      exact ⟨hAr, fA⟩⟩
  obtain ⟨t, a1, b1⟩ := kk H.size (fun i => H.size + 1 + i) cA F.heap (fun i j _ _ h => by have h9 : H.size + 1 + i = H.size + 1 + j := h; omega) hnl hK2 (by rw [← vr_rows hnm]; exact vr_lay hP2) (by rw [← vr_rows hnm]; exact vr_layD hD2) ⟨by rw [f1]; have := hS.1; omega, fun x h1 h2 => (hold x (Nat.lt_of_lt_of_le h1 hS.1)).trans (hS.2.1 x h1 h2), hS.2.2⟩ F rfl X'
  refine ⟨t, step t ?_, b1⟩
  have e : T.heap.size = H.size := by rw [hT]
  rw [e]
  exact a1
end VGM
/-! ===== END ===== -/
def tk_mna (nx mc ms : Nat) : tk_Ac := fun L st μ kc ks K _ => match st, μ with
  | .int k :: .int z :: r, (σ, ρ, τ, n) => tk_if (Nat.beq (tk_kd (n + 1)).1 12 && (Nat.beq (tk_kd (n + 1)).2 z.toNatClampNeg && ((List.range z.toNatClampNeg).all (fun i => Nat.beq (tk_kd (n + 2 + i)).1 9 && Nat.beq (tk_kd (n + 2 + i)).2 k.toNatClampNeg) && (decide (¬ z < 0) && (decide (¬ k < 0) && (Nat.ble z.toNatClampNeg 1000 && (Nat.ble k.toNatClampNeg 1000 && (tk_fr n L r && (Nat.ble (kc + (1 + z.toNatClampNeg)) mc && Nat.ble (ks + (z.toNatClampNeg + z.toNatClampNeg * k.toNatClampNeg)) ms)))))))))
      (K (nx, L, .ref (n + 1) :: r, ((fun a b => if n < a ∧ a ≤ n + 1 + z.toNatClampNeg then 0 else σ a b), (fun a b => if a = n + 1 then (if b < z.toNatClampNeg then some (n + 2 + b) else none) else if n + 1 < a ∧ a ≤ n + 1 + z.toNatClampNeg then none else ρ a b), τ, n + 1 + z.toNatClampNeg), kc + 1 + z.toNatClampNeg, ks + z.toNatClampNeg + z.toNatClampNeg * k.toNatClampNeg))
  | _, _ => False
theorem so_mna {sc : Option (Nat × (Nat → Int32))} {M : tk_Md} {pc nx idx mc ms : Nat} (hd : decode M.2.1 pc = .ok (.multianewarray idx 2, 4)) (hcl : Cond.classLink M.1.cls idx "[[I" ∈ tk_G) (harr : Cond.arrayClass .int ∈ tk_G) (hmc : M.2.2.2.2.cells = mc) (hms : M.2.2.2.2.slots = ms) (hn : pc + 4 = nx) : tk_So sc M pc (tk_mna nx mc ms) := by
  subst hn
  subst hmc
  subst hms
  intro l D cy L st μ kc ks K q hK ha p e s m args below meth cd H locs ad ad0 n0 A ls hC hR hS hA hL hN hX
  unfold tk_mna at ha
  split at ha
  · rename_i k z r σ ρ τ n
    obtain ⟨hok, ha⟩ := tk_if.mp ha
    simp only [Bool.and_eq_true, Nat.ble_eq, decide_eq_true_eq, List.all_eq_true] at hok
    obtain ⟨hkd, hz, hrows, hz0, hk0, hz1, hk1, hfr, hroom⟩ := hok
    have hkd := Nat.eq_of_beq_eq_true hkd
    have hz := Nat.eq_of_beq_eq_true hz
    have hrows : ∀ i, i < z.toNatClampNeg → (tk_kd (n + 2 + i)).1 = 9 ∧ (tk_kd (n + 2 + i)).2 = k.toNatClampNeg := fun i hi =>
      ⟨Nat.eq_of_beq_eq_true (hrows i (List.mem_range.mpr hi)).1, Nat.eq_of_beq_eq_true (hrows i (List.mem_range.mpr hi)).2⟩
    have hts := hC.2.2.2.2.2.1
    have hK0 := hC.2.2.2.2.2.2.2.2.1
    have hcy : s.vm.findClass (FieldType.array .int).toString = some (cy 9) := (hK0.2 1 (cy 9, .int) rfl).2
    have hP0 : va_P D vwCl (tk_ws cy ad (σ, ρ, τ, n) ++ va_pl [] (fun _ => .inr (0, []))) H := by
      show va_P D vwCl (_ ++ []) H
      rw [List.append_nil]; exact hR.1
    have hD0 : va_D A (tk_ws cy ad (σ, ρ, τ, n) ++ va_pl [] (fun _ => .inr (0, []))) := by
      show va_D A (_ ++ [])
      rw [List.append_nil]; exact hR.2.1
    refine va_mna (L := []) (f := fun _ => .inr (0, [])) (cy := cy 9) (z := (k.toNatClampNeg, .inl (fun _ => 0))) hC.1 hC.2.1 hC.2.2.2.2.1 (ty := .int) (hts _ hcl) hC.2.2.2.2.2.2.2.2.2.2.2 (hts _ harr) hcy hK0 hP0 hD0 hS hA hz0 hk0 rfl rfl (by omega) (by simp only [componentBytes]; omega) (by omega) rfl rfl hroom.1 hroom.2 (fun c => by rw [vp_cell_i, ← arrV_new]; rfl) hd (fun a rw9 cA H1 hin1 hin2 hK1 hP hD hS1 => ?_)
    have hcA : cA = cy 12 := by
      have h1 := (hK1.2 5 (cA, .array .int) rfl).2
      have h2 := (hK0.2 4 (cy 12, .array .int) rfl).2
      exact Option.some.inj (h1.symm.trans h2)
    subst hcA
    generalize hN9 : z.toNatClampNeg = N at *
    generalize hK9 : k.toNatClampNeg = Kk at *
    have had : ∀ i, i ≤ n → (fun i => if i = n + 1 then a else if n + 1 < i ∧ i ≤ n + 1 + N then rw9 (i - (n + 2)) else ad i) i = ad i := fun i hi => by
      show (if i = n + 1 then a else if n + 1 < i ∧ i ≤ n + 1 + N then rw9 (i - (n + 2)) else ad i) = ad i
      rw [if_neg (by omega), if_neg (by omega)]
    generalize had9 : (fun i => if i = n + 1 then a else if n + 1 < i ∧ i ≤ n + 1 + N then rw9 (i - (n + 2)) else ad i) = ad' at had
    have e9 : (tk_ws cy ad (σ, ρ, τ, n) ++ [(a, .inl (cy 12, N, .inr (.inr (.inr (.inr (fun i => if i < N then some (rw9 i) else none))))))]) ++ va_pl ([] ++ (List.range N).map rw9) (vr_up (fun _ => .inr (0, [])) ((List.range N).map rw9) (.inl (cy 9, (Kk, .inl (fun _ => 0))))) =
        tk_ws cy ad' ((fun a b => if n < a ∧ a ≤ n + 1 + N then 0 else σ a b), (fun a b => if a = n + 1 then (if b < N then some (n + 2 + b) else none) else if n + 1 < a ∧ a ≤ n + 1 + N then none else ρ a b), τ, n + 1 + N) := by
      unfold tk_ws
      dsimp only
      rw [List.range_add, List.range_succ, List.map_append, List.map_append]
      congr 1
      · congr 1
        · apply List.map_congr_left
          intro j hj
          have hj := List.mem_range.mp hj
          have h1 : ∀ b, ((if j + 1 = n + 1 then (if b < N then some (n + 2 + b) else none) else if n + 1 < j + 1 ∧ j + 1 ≤ n + 1 + N then none else ρ (j + 1) b)).map ad' = (ρ (j + 1) b).map ad := by
            intro b
            rw [if_neg (by omega), if_neg (by omega)]
            cases hr : ρ (j + 1) b with
            | none => rfl
            | some r => simp only [Option.map_some]; rw [had r (hR.2.2 _ _ _ hr)]
          have h2 : (fun b => if n < j + 1 ∧ j + 1 ≤ n + 1 + N then (0 : Int32) else σ (j + 1) b) = σ (j + 1) := funext fun b => if_neg (by omega)
          have h3 : ∀ b, (if n < j + 1 ∧ j + 1 ≤ n + 1 + N then (0 : Int32) else σ (j + 1) b) = σ (j + 1) b := fun b => if_neg (by omega)
          refine Prod.ext (had (j + 1) (by omega)).symm ?_
          unfold tk_cell tk_fv
          dsimp only
          simp only [h1, h2, h3]
        · rw [List.map_cons, List.map_nil, tk_cell_arq hkd (by decide), hz]
          have e1 : ad' (n + 1) = a := by rw [← had9]; simp
          rw [e1]
          refine congrArg (fun f => [(a, Sum.inl (cy 12, N, Sum.inr (Sum.inr (Sum.inr (Sum.inr f)))))]) (funext fun b => ?_)
          dsimp only
          rw [if_pos rfl]
          by_cases hb : b < N
          · rw [if_pos hb, if_pos hb, Option.map_some, ← had9]
            simp only []
            rw [if_neg (by omega), if_pos (by omega), show n + 2 + b - (n + 2) = b by omega]
          · rw [if_neg hb, if_neg hb]
            rfl
      · unfold va_pl
        rw [List.nil_append, List.map_map, List.map_map]
        apply List.map_congr_left
        intro b hb
        have hb9 := hb
        have hb := List.mem_range.mp hb
        simp only [Function.comp]
        rw [vr_up_in (List.mem_map.mpr ⟨b, hb9, rfl⟩)]
        have e1 : ad' (n + 1 + b + 1) = rw9 b := by
          rw [← had9]
          simp only []
          rw [if_neg (by omega), if_pos (by omega), show n + 1 + b + 1 - (n + 2) = b by omega]
        have h9 := hrows b hb
        rw [show n + 2 + b = n + 1 + b + 1 by omega] at h9
        rw [e1, tk_cell_arr h9.1 (by decide) (by decide), h9.2]
        refine congrArg (fun f => (rw9 b, Sum.inl (cy 9, Kk, Sum.inl f))) (funext fun c => ?_)
        dsimp only
        rw [if_pos (by omega)]
    rw [e9] at hP hD
    simp only [tk_fr, Bool.and_eq_true] at hfr
    have hW := hK _ ha p e s m args below meth cd H1 locs ad' ad0 n0 A ls hC ⟨hP, hD, fun x b r hr => ?_⟩ hS1 hA (tk_L_fr hL hfr.2 had) ⟨fun i hi => (had i (Nat.le_trans hi hN.2.1)).trans (hN.1 i hi), Nat.le_trans hN.2.1 (by show n ≤ n + 1 + N; omega), fun h => absurd h (by show ¬ kc + 1 + N = 0; omega), by show kc + 1 + N ≤ _; omega, by show ks + N + N * Kk ≤ _; omega⟩ (by rw [had 0 (Nat.zero_le _)]; exact hX)
    · have e1 : (Value.ref (n + 1) :: r).map (tk_v ad') = .ref a :: r.map (tk_v ad) := by
        rw [List.map_cons, tk_vs_fr hfr.1 had]
        congr 1
        rw [← had9]
        simp [tk_v]
      show W p l e _ s m args below meth cd H1 locs (kc + 1 + N) (ks + N + N * Kk) _ (F0 m (pc + 4) ls (.ref a :: r.map (tk_v ad)))
      rw [← e1]
      exact hW
    · have hr : (if x = n + 1 then (if b < N then some (n + 2 + b) else none) else if n + 1 < x ∧ x ≤ n + 1 + N then none else ρ x b) = some r := hr
      show r ≤ n + 1 + N
      split at hr
      · split at hr
        · cases hr; omega
        · cases hr
      · split at hr
        · cases hr
        · have := hR.2.2 _ _ _ hr
          have h7 : r ≤ n := this
          omega
  · exact ha.elim
end
section
theorem in_X0 : ∀ w ∈ u_ws RX0 TX0 3, w ∈ tk_G := by decide +kernel
theorem in_X1 : ∀ w ∈ u_ws RX1 TX1 3, w ∈ tk_G := by decide +kernel
theorem in_X2 : ∀ w ∈ u_ws RX2 TX2 3, w ∈ tk_G := by decide +kernel
theorem in_X3 : ∀ w ∈ u_ws RX3 TX3 7, w ∈ tk_G := by decide +kernel
theorem in_X4 : ∀ w ∈ u_ws RX4 TX4 3, w ∈ tk_G := by decide +kernel
theorem in_X5 : ∀ w ∈ u_ws RX5 TX5 10, w ∈ tk_G := by decide +kernel
theorem in_X6 : ∀ w ∈ u_ws RX6 TX6 12, w ∈ tk_G := by decide +kernel
theorem in_X7 : ∀ w ∈ u_ws RX7 TX7 29, w ∈ tk_G := by decide +kernel
theorem wm_X0_3 : Cond.methodLink RX0 3 objectInit ∈ tk_G := (tk_mem 217 (by decide +kernel) rfl)
theorem wo_1 : Cond.instanceMethod objectInit ∈ tk_G := (tk_mem 56 (by decide +kernel) rfl)
theorem wo_2 : Cond.code objectInit ⟨#[0xb1]⟩ 1 none ∈ tk_G := (tk_mem 57 (by decide +kernel) rfl)
theorem wa_int : Cond.arrayClass .int ∈ tk_G := (tk_mem 149 (by decide +kernel) rfl)
theorem wf_X0_9 : Cond.fieldLink RX0 9 (TX0 0).1 (TX0 0).2.1 (TX0 0).2.2.1 ∈ tk_G := (tk_mem 218 (by decide +kernel) rfl)
theorem wf_X0_15 : Cond.fieldLink RX0 15 (TX0 1).1 (TX0 1).2.1 (TX0 1).2.2.1 ∈ tk_G := (tk_mem 220 (by decide +kernel) rfl)
theorem wf_X0_18 : Cond.fieldLink RX0 18 (TX0 2).1 (TX0 2).2.1 (TX0 2).2.2.1 ∈ tk_G := (tk_mem 222 (by decide +kernel) rfl)
theorem wm_X4_3 : Cond.methodLink RX4 3 objectInit ∈ tk_G := (tk_mem 162 (by decide +kernel) rfl)
theorem wm_X1_3 : Cond.methodLink RX1 3 objectInit ∈ tk_G := (tk_mem 155 (by decide +kernel) rfl)
theorem wk_X1_9 : Cond.classLink RX1 9 RX4 ∈ tk_G := (tk_mem 156 (by decide +kernel) rfl)
theorem wf_X1_11 : Cond.fieldLink RX1 11 (TX1 2).1 (TX1 2).2.1 (TX1 2).2.2.1 ∈ tk_G := (tk_mem 183 (by decide +kernel) rfl)
theorem wi_X4 : Cond.instantiable RX4 3 ∈ tk_G := (tk_mem 158 (by decide +kernel) rfl)
theorem wn_X4 : Cond.initialized RX4 ∈ tk_G := (tk_mem 44 (by decide +kernel) rfl)
theorem wm_X1_17 : Cond.methodLinkNest RX1 17 yX4_init "TwoKerbs" ∈ lw_tbl := List.mem_of_getElem? (i := 159) (by decide +kernel)
theorem wf_X4_9 : Cond.fieldLink RX4 9 (TX4 0).1 (TX4 0).2.1 (TX4 0).2.2.1 ∈ tk_G := (tk_mem 163 (by decide +kernel) rfl)
theorem wf_X4_15 : Cond.fieldLink RX4 15 (TX4 1).1 (TX4 1).2.1 (TX4 1).2.2.1 ∈ tk_G := (tk_mem 166 (by decide +kernel) rfl)
theorem wf_X4_18 : Cond.fieldLink RX4 18 (TX4 2).1 (TX4 2).2.1 (TX4 2).2.2.1 ∈ tk_G := (tk_mem 169 (by decide +kernel) rfl)
theorem wf_X1_18 : Cond.fieldLink RX1 18 (TX1 0).1 (TX1 0).2.1 (TX1 0).2.2.1 ∈ tk_G := (tk_mem 179 (by decide +kernel) rfl)
theorem wf_X1_22 : Cond.fieldLink RX1 22 (TX1 1).1 (TX1 1).2.1 (TX1 1).2.2.1 ∈ tk_G := (tk_mem 181 (by decide +kernel) rfl)
theorem wf_X1_25 : Cond.fieldLink RX1 25 (TX5 4).1 (TX5 4).2.1 (TX5 4).2.2.1 ∈ tk_G := (tk_mem 111 (by decide +kernel) rfl)
theorem wf_X1_29 : Cond.fieldLink RX1 29 (TX5 9).1 (TX5 9).2.1 (TX5 9).2.2.1 ∈ tk_G := (tk_mem 127 (by decide +kernel) rfl)
theorem wm_X1_33 : Cond.methodLink RX1 33 yX4_lieOn ∈ tk_G := (tk_mem 362 (by decide +kernel) rfl)
theorem wf_X5_34 : Cond.fieldLink RX5 34 (TX5 3).1 (TX5 3).2.1 (TX5 3).2.2.1 ∈ tk_G := (tk_mem 108 (by decide +kernel) rfl)
theorem wm_X5_57 : Cond.methodLink RX5 57 yX5_isKerb ∈ tk_G := (tk_mem 426 (by decide +kernel) rfl)
theorem wf_X5_15 : Cond.fieldLink RX5 15 (TX5 6).1 (TX5 6).2.1 (TX5 6).2.2.1 ∈ tk_G := (tk_mem 116 (by decide +kernel) rfl)
theorem wm_X4_22 : Cond.methodLink RX4 22 yX4_lies ∈ tk_G := (tk_mem 390 (by decide +kernel) rfl)
theorem wm_X4_26 : Cond.methodLink RX4 26 yX5_isFlooded ∈ tk_G := (tk_mem 451 (by decide +kernel) rfl)
theorem wf_X4_32 : Cond.fieldLink RX4 32 (TX5 8).1 (TX5 8).2.1 (TX5 8).2.2.1 ∈ tk_G := (tk_mem 124 (by decide +kernel) rfl)
theorem wf_X4_36 : Cond.fieldLink RX4 36 (TX5 7).1 (TX5 7).2.1 (TX5 7).2.2.1 ∈ tk_G := (tk_mem 120 (by decide +kernel) rfl)
theorem wf_X5_41 : Cond.fieldLink RX5 41 (TX5 0).1 (TX5 0).2.1 (TX5 0).2.2.1 ∈ tk_G := (tk_mem 102 (by decide +kernel) rfl)
theorem wf_X5_44 : Cond.fieldLink RX5 44 (TX5 1).1 (TX5 1).2.1 (TX5 1).2.2.1 ∈ tk_G := (tk_mem 104 (by decide +kernel) rfl)
theorem wf_X5_47 : Cond.fieldLink RX5 47 (TX5 2).1 (TX5 2).2.1 (TX5 2).2.2.1 ∈ tk_G := (tk_mem 106 (by decide +kernel) rfl)
theorem wm_X5_61 : Cond.methodLink RX5 61 yX5_leftOver ∈ tk_G := (tk_mem 414 (by decide +kernel) rfl)
theorem wm_X1_37 : Cond.methodLink RX1 37 yX5_levelOf ∈ tk_G := (tk_mem 446 (by decide +kernel) rfl)
theorem wm_X1_41 : Cond.methodLink RX1 41 yX4_pass ∈ tk_G := (tk_mem 447 (by decide +kernel) rfl)
theorem wc_X1_45 : Cond.constant RX1 45 (99999) ∈ tk_G := (tk_mem 452 (by decide +kernel) rfl)
theorem wm_X1_46 : Cond.methodLink RX1 46 yJ9_min_7cf53 ∈ tk_G := (tk_mem 453 (by decide +kernel) rfl)
theorem wm_X1_52 : Cond.methodLink RX1 52 yX4_liesOn ∈ tk_G := (tk_mem 386 (by decide +kernel) rfl)
theorem wf_X1_56 : Cond.fieldLink RX1 56 (TX4 2).1 (TX4 2).2.1 (TX4 2).2.2.1 ∈ tk_G := (tk_mem 170 (by decide +kernel) rfl)
theorem wf_X1_60 : Cond.fieldLink RX1 60 (TX4 0).1 (TX4 0).2.1 (TX4 0).2.2.1 ∈ tk_G := (tk_mem 164 (by decide +kernel) rfl)
theorem wf_X1_63 : Cond.fieldLink RX1 63 (TX4 1).1 (TX4 1).2.1 (TX4 1).2.2.1 ∈ tk_G := (tk_mem 167 (by decide +kernel) rfl)
theorem wm_X2_3 : Cond.methodLink RX2 3 objectInit ∈ tk_G := (tk_mem 197 (by decide +kernel) rfl)
theorem wk_X2_11 : Cond.classLink RX2 11 "[[I" ∈ tk_G := (tk_mem 198 (by decide +kernel) rfl)
theorem wf_X2_13 : Cond.fieldLink RX2 13 (TX2 0).1 (TX2 0).2.1 (TX2 0).2.2.1 ∈ tk_G := (tk_mem 200 (by decide +kernel) rfl)
theorem wf_X2_18 : Cond.fieldLink RX2 18 (TX2 2).1 (TX2 2).2.1 (TX2 2).2.2.1 ∈ tk_G := (tk_mem 203 (by decide +kernel) rfl)
theorem wf_X2_22 : Cond.fieldLink RX2 22 (TX2 1).1 (TX2 1).2.1 (TX2 1).2.2.1 ∈ tk_G := (tk_mem 201 (by decide +kernel) rfl)
theorem wm_X2_25 : Cond.methodLink RX2 25 yJ9_min_7cf53 ∈ tk_G := (tk_mem 435 (by decide +kernel) rfl)
theorem wm_X2_31 : Cond.methodLink RX2 31 yJ9_max_7cf53 ∈ tk_G := (tk_mem 479 (by decide +kernel) rfl)
theorem wm_X3_3 : Cond.methodLink RX3 3 objectInit ∈ tk_G := (tk_mem 63 (by decide +kernel) rfl)
theorem wa_char : Cond.arrayClass .char ∈ tk_G := (tk_mem 87 (by decide +kernel) rfl)
theorem wf_X3_9 : Cond.fieldLink RX3 9 (TX3 0).1 (TX3 0).2.1 (TX3 0).2.2.1 ∈ tk_G := (tk_mem 64 (by decide +kernel) rfl)
theorem wf_X3_15 : Cond.fieldLink RX3 15 (TX3 1).1 (TX3 1).2.1 (TX3 1).2.2.1 ∈ tk_G := (tk_mem 65 (by decide +kernel) rfl)
theorem wf_X3_28 : Cond.fieldLink RX3 28 (TX3 2).1 (TX3 2).2.1 (TX3 2).2.2.1 ∈ tk_G := (tk_mem 67 (by decide +kernel) rfl)
theorem wm_X3_99 : Cond.methodLink RX3 99 yX3_isDigit ∈ tk_G := (tk_mem 303 (by decide +kernel) rfl)
theorem wf_X3_41 : Cond.fieldLink RX3 41 (TX3 4).1 (TX3 4).2.1 (TX3 4).2.2.1 ∈ tk_G := (tk_mem 69 (by decide +kernel) rfl)
theorem wf_X3_34 : Cond.fieldLink RX3 34 (TX3 3).1 (TX3 3).2.1 (TX3 3).2.2.1 ∈ tk_G := (tk_mem 68 (by decide +kernel) rfl)
theorem wm_X3_103 : Cond.methodLink RX3 103 yX3_readDigits ∈ tk_G := (tk_mem 306 (by decide +kernel) rfl)
theorem wf_X3_70 : Cond.fieldLink RX3 70 (TX3 5).1 (TX3 5).2.1 (TX3 5).2.2.1 ∈ tk_G := (tk_mem 70 (by decide +kernel) rfl)
theorem wm_X3_31 : Cond.methodLink RX3 31 yX3_readToken ∈ tk_G := (tk_mem 299 (by decide +kernel) rfl)
theorem wm_X3_95 : Cond.methodLinkNest RX3 95 yX6_isWithin "TwoKerbs" ∈ lw_tbl := List.mem_of_getElem? (i := 322) (by decide +kernel)
theorem wf_X3_81 : Cond.fieldLink RX3 81 (TX5 3).1 (TX5 3).2.1 (TX5 3).2.2.1 ∈ tk_G := (tk_mem 109 (by decide +kernel) rfl)
theorem wm_X3_66 : Cond.methodLink RX3 66 yX3_readNumber ∈ tk_G := (tk_mem 318 (by decide +kernel) rfl)
theorem wf_X3_84 : Cond.fieldLink RX3 84 (TX5 7).1 (TX5 7).2.1 (TX5 7).2.2.1 ∈ tk_G := (tk_mem 121 (by decide +kernel) rfl)
theorem wf_X3_88 : Cond.fieldLink RX3 88 (TX5 8).1 (TX5 8).2.1 (TX5 8).2.2.1 ∈ tk_G := (tk_mem 125 (by decide +kernel) rfl)
theorem wm_X5_50 : Cond.methodLink RX5 50 yX5_hasRoomForKerb ∈ tk_G := (tk_mem 340 (by decide +kernel) rfl)
theorem wf_X5_9 : Cond.fieldLink RX5 9 (TX5 5).1 (TX5 5).2.1 (TX5 5).2.2.1 ∈ tk_G := (tk_mem 114 (by decide +kernel) rfl)
theorem wf_X5_18 : Cond.fieldLink RX5 18 (TX5 7).1 (TX5 7).2.1 (TX5 7).2.2.1 ∈ tk_G := (tk_mem 118 (by decide +kernel) rfl)
theorem wf_X5_21 : Cond.fieldLink RX5 21 (TX5 8).1 (TX5 8).2.1 (TX5 8).2.2.1 ∈ tk_G := (tk_mem 122 (by decide +kernel) rfl)
theorem wm_X3_77 : Cond.methodLink RX3 77 yX5_addKerb ∈ tk_G := (tk_mem 336 (by decide +kernel) rfl)
theorem wm_X3_73 : Cond.methodLink RX3 73 yX5_setLevel ∈ tk_G := (tk_mem 323 (by decide +kernel) rfl)
theorem wf_X3_24 : Cond.fieldLink RX3 24 (TX3 6).1 (TX3 6).2.1 (TX3 6).2.2.1 ∈ tk_G := (tk_mem 71 (by decide +kernel) rfl)
theorem wf_X5_38 : Cond.fieldLink RX5 38 (TX5 4).1 (TX5 4).2.1 (TX5 4).2.2.1 ∈ tk_G := (tk_mem 112 (by decide +kernel) rfl)
theorem wm_X5_54 : Cond.methodLink RX5 54 yX5_hasRoomForThing ∈ tk_G := (tk_mem 357 (by decide +kernel) rfl)
theorem wf_X5_24 : Cond.fieldLink RX5 24 (TX5 9).1 (TX5 9).2.1 (TX5 9).2.2.1 ∈ tk_G := (tk_mem 126 (by decide +kernel) rfl)
theorem wm_X3_91 : Cond.methodLink RX3 91 yX5_addThing ∈ tk_G := (tk_mem 353 (by decide +kernel) rfl)
theorem wm_X3_44 : Cond.methodLink RX3 44 yX3_readLevel ∈ tk_G := (tk_mem 314 (by decide +kernel) rfl)
theorem wm_X3_47 : Cond.methodLink RX3 47 yX3_readItemEnd ∈ tk_G := (tk_mem 324 (by decide +kernel) rfl)
theorem wm_X3_51 : Cond.methodLink RX3 51 yX5_hasRoomForKerb ∈ tk_G := (tk_mem 328 (by decide +kernel) rfl)
theorem wm_X3_54 : Cond.methodLink RX3 54 yX3_readKerb ∈ tk_G := (tk_mem 332 (by decide +kernel) rfl)
theorem wm_X3_57 : Cond.methodLink RX3 57 yX3_readDrain ∈ tk_G := (tk_mem 341 (by decide +kernel) rfl)
theorem wm_X3_60 : Cond.methodLink RX3 60 yX5_hasRoomForThing ∈ tk_G := (tk_mem 345 (by decide +kernel) rfl)
theorem wm_X3_63 : Cond.methodLink RX3 63 yX3_readThing ∈ tk_G := (tk_mem 349 (by decide +kernel) rfl)
theorem wm_X5_30 : Cond.methodLink RX5 30 yX5_setLevel ∈ tk_G := (tk_mem 98 (by decide +kernel) rfl)
theorem wm_X3_19 : Cond.methodLink RX3 19 yX5_reset ∈ tk_G := (tk_mem 298 (by decide +kernel) rfl)
theorem wm_X3_37 : Cond.methodLink RX3 37 yX3_readItem ∈ tk_G := (tk_mem 310 (by decide +kernel) rfl)
theorem wm_X5_3 : Cond.methodLink RX5 3 objectInit ∈ tk_G := (tk_mem 93 (by decide +kernel) rfl)
theorem wm_X5_27 : Cond.methodLink RX5 27 yX5_reset ∈ tk_G := (tk_mem 94 (by decide +kernel) rfl)
theorem wm_X5_65 : Cond.methodLink RX5 65 yX5_isFlooded ∈ tk_G := (tk_mem 422 (by decide +kernel) rfl)
theorem wm_X6_1 : Cond.methodLink RX6 1 objectInit ∈ tk_G := (tk_mem 55 (by decide +kernel) rfl)
theorem wk_X6_7 : Cond.classLink RX6 7 RX3 ∈ tk_G := (tk_mem 58 (by decide +kernel) rfl)
theorem wi_X3 : Cond.instantiable RX3 7 ∈ tk_G := (tk_mem 59 (by decide +kernel) rfl)
theorem wn_X3 : Cond.initialized RX3 ∈ tk_G := (tk_mem 41 (by decide +kernel) rfl)
theorem wm_X6_9 : Cond.methodLinkNest RX6 9 yX3_init "TwoKerbs" ∈ lw_tbl := List.mem_of_getElem? (i := 60) (by decide +kernel)
theorem wf_X6_10 : Cond.fieldLink RX6 10 (TX6 0).1 (TX6 0).2.1 (TX6 0).2.2.1 ∈ tk_G := (tk_mem 234 (by decide +kernel) rfl)
theorem wk_X6_16 : Cond.classLink RX6 16 RX5 ∈ tk_G := (tk_mem 88 (by decide +kernel) rfl)
theorem wi_X5 : Cond.instantiable RX5 10 ∈ tk_G := (tk_mem 89 (by decide +kernel) rfl)
theorem wn_X5 : Cond.initialized RX5 ∈ tk_G := (tk_mem 42 (by decide +kernel) rfl)
theorem wm_X6_18 : Cond.methodLink RX6 18 yX5_init ∈ tk_G := (tk_mem 90 (by decide +kernel) rfl)
theorem wf_X6_19 : Cond.fieldLink RX6 19 (TX6 1).1 (TX6 1).2.1 (TX6 1).2.2.1 ∈ tk_G := (tk_mem 235 (by decide +kernel) rfl)
theorem wf_X6_23 : Cond.fieldLink RX6 23 (TX6 2).1 (TX6 2).2.1 (TX6 2).2.2.1 ∈ tk_G := (tk_mem 236 (by decide +kernel) rfl)
theorem wk_X6_26 : Cond.classLink RX6 26 RX1 ∈ tk_G := (tk_mem 150 (by decide +kernel) rfl)
theorem wi_X1 : Cond.instantiable RX1 3 ∈ tk_G := (tk_mem 151 (by decide +kernel) rfl)
theorem wn_X1 : Cond.initialized RX1 ∈ tk_G := (tk_mem 43 (by decide +kernel) rfl)
theorem wm_X6_28 : Cond.methodLink RX6 28 yX1_init ∈ tk_G := (tk_mem 152 (by decide +kernel) rfl)
theorem wf_X6_29 : Cond.fieldLink RX6 29 (TX6 3).1 (TX6 3).2.1 (TX6 3).2.2.1 ∈ tk_G := (tk_mem 237 (by decide +kernel) rfl)
theorem wk_X6_33 : Cond.classLink RX6 33 RX2 ∈ tk_G := (tk_mem 192 (by decide +kernel) rfl)
theorem wi_X2 : Cond.instantiable RX2 3 ∈ tk_G := (tk_mem 193 (by decide +kernel) rfl)
theorem wn_X2 : Cond.initialized RX2 ∈ tk_G := (tk_mem 45 (by decide +kernel) rfl)
theorem wm_X6_35 : Cond.methodLinkNest RX6 35 yX2_init "TwoKerbs" ∈ lw_tbl := List.mem_of_getElem? (i := 194) (by decide +kernel)
theorem wf_X6_36 : Cond.fieldLink RX6 36 (TX6 4).1 (TX6 4).2.1 (TX6 4).2.2.1 ∈ tk_G := (tk_mem 238 (by decide +kernel) rfl)
theorem wk_X6_40 : Cond.classLink RX6 40 "[[I" ∈ tk_G := (tk_mem 211 (by decide +kernel) rfl)
theorem wf_X6_42 : Cond.fieldLink RX6 42 (TX6 5).1 (TX6 5).2.1 (TX6 5).2.2.1 ∈ tk_G := (tk_mem 239 (by decide +kernel) rfl)
theorem wa_boolean : Cond.arrayClass .boolean ∈ tk_G := (tk_mem 231 (by decide +kernel) rfl)
theorem wf_X6_45 : Cond.fieldLink RX6 45 (TX6 6).1 (TX6 6).2.1 (TX6 6).2.2.1 ∈ tk_G := (tk_mem 240 (by decide +kernel) rfl)
theorem wk_X6_49 : Cond.classLink RX6 49 RX0 ∈ tk_G := (tk_mem 212 (by decide +kernel) rfl)
theorem wi_X0 : Cond.instantiable RX0 3 ∈ tk_G := (tk_mem 213 (by decide +kernel) rfl)
theorem wn_X0 : Cond.initialized RX0 ∈ tk_G := (tk_mem 46 (by decide +kernel) rfl)
theorem wm_X6_51 : Cond.methodLinkNest RX6 51 yX0_init "TwoKerbs" ∈ lw_tbl := List.mem_of_getElem? (i := 214) (by decide +kernel)
theorem wf_X6_52 : Cond.fieldLink RX6 52 (TX6 7).1 (TX6 7).2.1 (TX6 7).2.2.1 ∈ tk_G := (tk_mem 241 (by decide +kernel) rfl)
theorem wf_X6_56 : Cond.fieldLink RX6 56 (TX6 8).1 (TX6 8).2.1 (TX6 8).2.2.1 ∈ tk_G := (tk_mem 242 (by decide +kernel) rfl)
theorem wk_X6_59 : Cond.classLink RX6 59 RX4 ∈ tk_G := (tk_mem 232 (by decide +kernel) rfl)
theorem wm_X6_61 : Cond.methodLinkNest RX6 61 yX4_init "TwoKerbs" ∈ lw_tbl := List.mem_of_getElem? (i := 233) (by decide +kernel)
theorem wf_X6_62 : Cond.fieldLink RX6 62 (TX6 9).1 (TX6 9).2.1 (TX6 9).2.2.1 ∈ tk_G := (tk_mem 243 (by decide +kernel) rfl)
theorem wf_X6_66 : Cond.fieldLink RX6 66 (TX6 10).1 (TX6 10).2.1 (TX6 10).2.2.1 ∈ tk_G := (tk_mem 244 (by decide +kernel) rfl)
theorem wm_X6_69 : Cond.methodLink RX6 69 yX6_isWithin ∈ tk_G := (tk_mem 275 (by decide +kernel) rfl)
theorem wm_X6_73 : Cond.methodLink RX6 73 yX3_add ∈ tk_G := (tk_mem 278 (by decide +kernel) rfl)
theorem wm_X6_77 : Cond.methodLink RX6 77 yX3_empty ∈ tk_G := (tk_mem 286 (by decide +kernel) rfl)
theorem wm_X6_81 : Cond.methodLink RX6 81 yX3_readInto ∈ tk_G := (tk_mem 294 (by decide +kernel) rfl)
theorem wm_X6_85 : Cond.methodLink RX6 85 yX1_begin ∈ tk_G := (tk_mem 358 (by decide +kernel) rfl)
theorem wm_X6_89 : Cond.methodLink RX6 89 yX2_lose ∈ tk_G := (tk_mem 366 (by decide +kernel) rfl)
theorem wm_X6_92 : Cond.methodLink RX6 92 yX0_lose ∈ tk_G := (tk_mem 370 (by decide +kernel) rfl)
theorem wm_X6_94 : Cond.methodLink RX6 94 yX5_isKerb ∈ tk_G := (tk_mem 378 (by decide +kernel) rfl)
theorem wf_X6_98 : Cond.fieldLink RX6 98 (TX5 5).1 (TX5 5).2.1 (TX5 5).2.2.1 ∈ tk_G := (tk_mem 115 (by decide +kernel) rfl)
theorem wf_X6_102 : Cond.fieldLink RX6 102 (TX5 6).1 (TX5 6).2.1 (TX5 6).2.2.1 ∈ tk_G := (tk_mem 117 (by decide +kernel) rfl)
theorem wf_X6_105 : Cond.fieldLink RX6 105 (TX5 7).1 (TX5 7).2.1 (TX5 7).2.2.1 ∈ tk_G := (tk_mem 119 (by decide +kernel) rfl)
theorem wf_X6_108 : Cond.fieldLink RX6 108 (TX5 8).1 (TX5 8).2.1 (TX5 8).2.2.1 ∈ tk_G := (tk_mem 123 (by decide +kernel) rfl)
theorem wf_X6_111 : Cond.fieldLink RX6 111 (TX5 4).1 (TX5 4).2.1 (TX5 4).2.2.1 ∈ tk_G := (tk_mem 113 (by decide +kernel) rfl)
theorem wm_X6_115 : Cond.methodLink RX6 115 yX1_lyingOn ∈ tk_G := (tk_mem 382 (by decide +kernel) rfl)
theorem wm_X6_119 : Cond.methodLink RX6 119 yX5_isThing ∈ tk_G := (tk_mem 398 (by decide +kernel) rfl)
theorem wf_X6_122 : Cond.fieldLink RX6 122 (TX1 2).1 (TX1 2).2.1 (TX1 2).2.2.1 ∈ tk_G := (tk_mem 184 (by decide +kernel) rfl)
theorem wm_X6_125 : Cond.methodLink RX6 125 yX4_place ∈ tk_G := (tk_mem 402 (by decide +kernel) rfl)
theorem wf_X6_128 : Cond.fieldLink RX6 128 (TX4 0).1 (TX4 0).2.1 (TX4 0).2.2.1 ∈ tk_G := (tk_mem 165 (by decide +kernel) rfl)
theorem wf_X6_131 : Cond.fieldLink RX6 131 (TX4 1).1 (TX4 1).2.1 (TX4 1).2.2.1 ∈ tk_G := (tk_mem 168 (by decide +kernel) rfl)
theorem wf_X6_134 : Cond.fieldLink RX6 134 (TX4 2).1 (TX4 2).2.1 (TX4 2).2.2.1 ∈ tk_G := (tk_mem 171 (by decide +kernel) rfl)
theorem wf_X6_138 : Cond.fieldLink RX6 138 (TX1 0).1 (TX1 0).2.1 (TX1 0).2.2.1 ∈ tk_G := (tk_mem 180 (by decide +kernel) rfl)
theorem wm_X6_141 : Cond.methodLink RX6 141 yX5_levelOf ∈ tk_G := (tk_mem 410 (by decide +kernel) rfl)
theorem wf_X6_144 : Cond.fieldLink RX6 144 (TX1 1).1 (TX1 1).2.1 (TX1 1).2.2.1 ∈ tk_G := (tk_mem 182 (by decide +kernel) rfl)
theorem wm_X6_147 : Cond.methodLink RX6 147 yX5_floodedBy ∈ tk_G := (tk_mem 418 (by decide +kernel) rfl)
theorem wf_X6_150 : Cond.fieldLink RX6 150 (TX2 1).1 (TX2 1).2.1 (TX2 1).2.2.1 ∈ tk_G := (tk_mem 202 (by decide +kernel) rfl)
theorem wm_X6_153 : Cond.methodLink RX6 153 yX2_nextRow ∈ tk_G := (tk_mem 431 (by decide +kernel) rfl)
theorem wm_X6_157 : Cond.methodLink RX6 157 yX1_saveTo ∈ tk_G := (tk_mem 438 (by decide +kernel) rfl)
theorem wm_X6_161 : Cond.methodLink RX6 161 yX1_pass ∈ tk_G := (tk_mem 442 (by decide +kernel) rfl)
theorem wm_X6_164 : Cond.methodLink RX6 164 yX4_lies ∈ tk_G := (tk_mem 458 (by decide +kernel) rfl)
theorem wm_X6_168 : Cond.methodLink RX6 168 yX1_tiedOf ∈ tk_G := (tk_mem 459 (by decide +kernel) rfl)
theorem wm_X6_171 : Cond.methodLink RX6 171 yX5_areOfOneTown ∈ tk_G := (tk_mem 467 (by decide +kernel) rfl)
theorem wm_X6_175 : Cond.methodLink RX6 175 yX2_latestRow ∈ tk_G := (tk_mem 475 (by decide +kernel) rfl)
theorem wm_X6_178 : Cond.methodLink RX6 178 yX1_loadFrom ∈ tk_G := (tk_mem 482 (by decide +kernel) rfl)
theorem wf_X6_181 : Cond.fieldLink RX6 181 (TX5 0).1 (TX5 0).2.1 (TX5 0).2.2.1 ∈ tk_G := (tk_mem 103 (by decide +kernel) rfl)
theorem wm_X6_184 : Cond.methodLink RX6 184 yX4_becomes ∈ tk_G := (tk_mem 502 (by decide +kernel) rfl)
theorem wm_X6_188 : Cond.methodLink RX6 188 yX4_pass ∈ tk_G := (tk_mem 506 (by decide +kernel) rfl)
theorem wm_X6_202 : Cond.methodLink RX6 202 yX4_liesOn ∈ tk_G := (tk_mem 515 (by decide +kernel) rfl)
theorem wm_X6_191 : Cond.methodLink RX6 191 yX6_firstTideOn ∈ tk_G := (tk_mem 511 (by decide +kernel) rfl)
theorem wf_X6_195 : Cond.fieldLink RX6 195 (TX5 3).1 (TX5 3).2.1 (TX5 3).2.2.1 ∈ tk_G := (tk_mem 110 (by decide +kernel) rfl)
theorem wm_X6_198 : Cond.methodLink RX6 198 yX4_lieOn ∈ tk_G := (tk_mem 520 (by decide +kernel) rfl)
theorem wm_X6_205 : Cond.methodLink RX6 205 yX4_isAs ∈ tk_G := (tk_mem 529 (by decide +kernel) rfl)
theorem wm_X6_209 : Cond.methodLink RX6 209 yX5_leftOver ∈ tk_G := (tk_mem 533 (by decide +kernel) rfl)
theorem wm_X6_270 : Cond.methodLink RX6 270 yJ9_max_7cf53 ∈ tk_G := (tk_mem 554 (by decide +kernel) rfl)
theorem wc_J6_265 : Cond.constant RJ6 265 (1431655765) ∈ tk_G := (tk_mem 545 (by decide +kernel) rfl)
theorem wc_J6_266 : Cond.constant RJ6 266 (858993459) ∈ tk_G := (tk_mem 546 (by decide +kernel) rfl)
theorem wc_J6_267 : Cond.constant RJ6 267 (252645135) ∈ tk_G := (tk_mem 547 (by decide +kernel) rfl)
theorem wm_X6_212 : Cond.methodLink RX6 212 yX6_passSomeWeak ∈ tk_G := (tk_mem 538 (by decide +kernel) rfl)
theorem wm_X6_216 : Cond.methodLink RX6 216 yJ6_bitCount_0f7a4 ∈ tk_G := (tk_mem 542 (by decide +kernel) rfl)
theorem wm_X6_221 : Cond.methodLink RX6 221 yX6_power ∈ tk_G := (tk_mem 548 (by decide +kernel) rfl)
theorem wm_X6_224 : Cond.methodLink RX6 224 yX6_commonDivisor ∈ tk_G := (tk_mem 551 (by decide +kernel) rfl)
theorem wm_X6_227 : Cond.methodLink RX6 227 yX0_add ∈ tk_G := (tk_mem 559 (by decide +kernel) rfl)
theorem wf_X6_260 : Cond.fieldLink RX6 260 (TX0 2).1 (TX0 2).2.1 (TX0 2).2.2.1 ∈ tk_G := (tk_mem 223 (by decide +kernel) rfl)
theorem wf_X6_275 : Cond.fieldLink RX6 275 (TX0 1).1 (TX0 1).2.1 (TX0 1).2.2.1 ∈ tk_G := (tk_mem 221 (by decide +kernel) rfl)
theorem wf_X6_278 : Cond.fieldLink RX6 278 (TX0 0).1 (TX0 0).2.1 (TX0 0).2.2.1 ∈ tk_G := (tk_mem 219 (by decide +kernel) rfl)
theorem wm_X6_229 : Cond.methodLink RX6 229 yX6_canHaveBegunOn ∈ tk_G := (tk_mem 567 (by decide +kernel) rfl)
theorem wm_X6_232 : Cond.methodLink RX6 232 yX6_isLaw ∈ tk_G := (tk_mem 579 (by decide +kernel) rfl)
theorem wf_X6_266 : Cond.fieldLink RX6 266 (TX6 11).1 (TX6 11).2.1 (TX6 11).2.2.1 ∈ tk_G := (tk_mem 245 (by decide +kernel) rfl)
theorem wc_X6_281 : Cond.constantLong RX6 281 (10) ∈ tk_G := (tk_mem 600 (by decide +kernel) rfl)
theorem wm_X6_236 : Cond.methodLink RX6 236 yX6_rateAsKerb ∈ tk_G := (tk_mem 592 (by decide +kernel) rfl)
theorem wc_X6_283 : Cond.constantLong RX6 283 (100) ∈ tk_G := (tk_mem 605 (by decide +kernel) rfl)
theorem wc_X6_287 : Cond.constantLong RX6 287 (10000) ∈ tk_G := (tk_mem 615 (by decide +kernel) rfl)
theorem wm_X6_242 : Cond.methodLink RX6 242 yX6_rateAsSteps ∈ tk_G := (tk_mem 601 (by decide +kernel) rfl)
theorem wc_X6_285 : Cond.constantLong RX6 285 (1000) ∈ tk_G := (tk_mem 610 (by decide +kernel) rfl)
theorem wm_X6_239 : Cond.methodLink RX6 239 yX6_rateAsBank ∈ tk_G := (tk_mem 596 (by decide +kernel) rfl)
theorem wc_X6_289 : Cond.constantLong RX6 289 (100000) ∈ tk_G := (tk_mem 620 (by decide +kernel) rfl)
theorem wc_X6_235 : Cond.constant RX6 235 (-1000000) ∈ tk_G := (tk_mem 591 (by decide +kernel) rfl)
theorem wm_X6_245 : Cond.methodLink RX6 245 yX6_rateAsChurch ∈ tk_G := (tk_mem 606 (by decide +kernel) rfl)
theorem wm_X6_248 : Cond.methodLink RX6 248 yX6_rateAsButcher ∈ tk_G := (tk_mem 611 (by decide +kernel) rfl)
theorem wm_X6_251 : Cond.methodLink RX6 251 yX6_rateAsRing ∈ tk_G := (tk_mem 616 (by decide +kernel) rfl)
theorem wf_X6_254 : Cond.fieldLink RX6 254 (TX5 1).1 (TX5 1).2.1 (TX5 1).2.2.1 ∈ tk_G := (tk_mem 105 (by decide +kernel) rfl)
theorem wf_X6_257 : Cond.fieldLink RX6 257 (TX5 2).1 (TX5 2).2.1 (TX5 2).2.2.1 ∈ tk_G := (tk_mem 107 (by decide +kernel) rfl)
theorem wf_X6_263 : Cond.fieldLink RX6 263 (TX3 1).1 (TX3 1).2.1 (TX3 1).2.2.1 ∈ tk_G := (tk_mem 66 (by decide +kernel) rfl)
theorem wf_X7_103 : Cond.fieldLink RX7 103 (TX7 10).1 (TX7 10).2.1 (TX7 10).2.2.1 ∈ tk_G := (tk_mem 661 (by decide +kernel) rfl)
theorem wf_X7_13 : Cond.fieldLink RX7 13 (TX7 9).1 (TX7 9).2.1 (TX7 9).2.2.1 ∈ tk_G := (tk_mem 660 (by decide +kernel) rfl)
theorem wf_X7_31 : Cond.fieldLink RX7 31 (TX7 16).1 (TX7 16).2.1 (TX7 16).2.2.1 ∈ tk_G := (tk_mem 667 (by decide +kernel) rfl)
theorem wf_X7_16 : Cond.fieldLink RX7 16 (TX7 11).1 (TX7 11).2.1 (TX7 11).2.2.1 ∈ tk_G := (tk_mem 662 (by decide +kernel) rfl)
theorem wf_X7_19 : Cond.fieldLink RX7 19 (TX7 12).1 (TX7 12).2.1 (TX7 12).2.2.1 ∈ tk_G := (tk_mem 663 (by decide +kernel) rfl)
theorem wf_X7_22 : Cond.fieldLink RX7 22 (TX7 13).1 (TX7 13).2.1 (TX7 13).2.2.1 ∈ tk_G := (tk_mem 664 (by decide +kernel) rfl)
theorem wf_X7_25 : Cond.fieldLink RX7 25 (TX7 14).1 (TX7 14).2.1 (TX7 14).2.2.1 ∈ tk_G := (tk_mem 665 (by decide +kernel) rfl)
theorem wf_X7_28 : Cond.fieldLink RX7 28 (TX7 15).1 (TX7 15).2.1 (TX7 15).2.2.1 ∈ tk_G := (tk_mem 666 (by decide +kernel) rfl)
theorem wf_X7_70 : Cond.fieldLink RX7 70 (TX7 3).1 (TX7 3).2.1 (TX7 3).2.2.1 ∈ tk_G := (tk_mem 654 (by decide +kernel) rfl)
theorem wf_X7_118 : Cond.fieldLink RX7 118 (TX7 23).1 (TX7 23).2.1 (TX7 23).2.2.1 ∈ tk_G := (tk_mem 674 (by decide +kernel) rfl)
theorem wf_X7_121 : Cond.fieldLink RX7 121 (TX7 26).1 (TX7 26).2.1 (TX7 26).2.2.1 ∈ tk_G := (tk_mem 677 (by decide +kernel) rfl)
theorem wf_X7_124 : Cond.fieldLink RX7 124 (TX7 20).1 (TX7 20).2.1 (TX7 20).2.2.1 ∈ tk_G := (tk_mem 671 (by decide +kernel) rfl)
theorem wf_X7_37 : Cond.fieldLink RX7 37 (TX7 18).1 (TX7 18).2.1 (TX7 18).2.2.1 ∈ tk_G := (tk_mem 669 (by decide +kernel) rfl)
theorem wm_X7_1 : Cond.methodLink RX7 1 objectInit ∈ tk_G := (tk_mem 642 (by decide +kernel) rfl)
theorem wf_X7_7 : Cond.fieldLink RX7 7 (TX7 2).1 (TX7 2).2.1 (TX7 2).2.2.1 ∈ tk_G := (tk_mem 653 (by decide +kernel) rfl)
theorem wf_X7_34 : Cond.fieldLink RX7 34 (TX7 17).1 (TX7 17).2.1 (TX7 17).2.2.1 ∈ tk_G := (tk_mem 668 (by decide +kernel) rfl)
theorem wf_X7_41 : Cond.fieldLink RX7 41 (TX7 19).1 (TX7 19).2.1 (TX7 19).2.2.1 ∈ tk_G := (tk_mem 670 (by decide +kernel) rfl)
theorem wf_X7_44 : Cond.fieldLink RX7 44 (TX7 21).1 (TX7 21).2.1 (TX7 21).2.2.1 ∈ tk_G := (tk_mem 672 (by decide +kernel) rfl)
theorem wf_X7_47 : Cond.fieldLink RX7 47 (TX7 22).1 (TX7 22).2.1 (TX7 22).2.2.1 ∈ tk_G := (tk_mem 673 (by decide +kernel) rfl)
theorem wf_X7_50 : Cond.fieldLink RX7 50 (TX7 24).1 (TX7 24).2.1 (TX7 24).2.2.1 ∈ tk_G := (tk_mem 675 (by decide +kernel) rfl)
theorem wf_X7_53 : Cond.fieldLink RX7 53 (TX7 25).1 (TX7 25).2.1 (TX7 25).2.2.1 ∈ tk_G := (tk_mem 676 (by decide +kernel) rfl)
theorem wm_X7_56 : Cond.methodLink RX7 56 yX7_begins ∈ tk_G := (tk_mem 643 (by decide +kernel) rfl)
theorem wm_X7_59 : Cond.methodLink RX7 59 yX7_settles ∈ tk_G := (tk_mem 647 (by decide +kernel) rfl)
theorem wf_X7_62 : Cond.fieldLink RX7 62 (TX7 0).1 (TX7 0).2.1 (TX7 0).2.2.1 ∈ tk_G := (tk_mem 651 (by decide +kernel) rfl)
theorem wm_X7_66 : Cond.methodLink RX7 66 yX7_in ∈ tk_G := (tk_mem 743 (by decide +kernel) rfl)
theorem wf_X7_73 : Cond.fieldLink RX7 73 (TX7 4).1 (TX7 4).2.1 (TX7 4).2.2.1 ∈ tk_G := (tk_mem 655 (by decide +kernel) rfl)
theorem wm_X7_76 : Cond.methodLink RX7 76 yX7_letterAt ∈ tk_G := (tk_mem 758 (by decide +kernel) rfl)
theorem wf_X7_80 : Cond.fieldLink RX7 80 (TX7 6).1 (TX7 6).2.1 (TX7 6).2.2.1 ∈ tk_G := (tk_mem 657 (by decide +kernel) rfl)
theorem wf_X7_83 : Cond.fieldLink RX7 83 (TX7 5).1 (TX7 5).2.1 (TX7 5).2.2.1 ∈ tk_G := (tk_mem 656 (by decide +kernel) rfl)
theorem wf_X7_86 : Cond.fieldLink RX7 86 (TX7 7).1 (TX7 7).2.1 (TX7 7).2.2.1 ∈ tk_G := (tk_mem 658 (by decide +kernel) rfl)
theorem wf_X7_89 : Cond.fieldLink RX7 89 (TX7 8).1 (TX7 8).2.1 (TX7 8).2.2.1 ∈ tk_G := (tk_mem 659 (by decide +kernel) rfl)
theorem wm_X7_92 : Cond.methodLink RX7 92 yX7_isWell ∈ tk_G := (tk_mem 762 (by decide +kernel) rfl)
theorem wm_X7_96 : Cond.methodLink RX7 96 yX7_advances ∈ tk_G := (tk_mem 754 (by decide +kernel) rfl)
theorem wm_X7_99 : Cond.methodLink RX7 99 yX7_takes ∈ tk_G := (tk_mem 770 (by decide +kernel) rfl)
theorem wm_X7_107 : Cond.methodLink RX7 107 yX7_number ∈ tk_G := (tk_mem 778 (by decide +kernel) rfl)
theorem wm_X7_111 : Cond.methodLink RX7 111 yX7_mayBegin ∈ tk_G := (tk_mem 766 (by decide +kernel) rfl)
theorem wm_X7_114 : Cond.methodLink RX7 114 yX7_readsItem ∈ tk_G := (tk_mem 774 (by decide +kernel) rfl)
theorem wm_X7_127 : Cond.methodLink RX7 127 yX7_levelOf ∈ tk_G := (tk_mem 806 (by decide +kernel) rfl)
theorem wm_X7_130 : Cond.methodLink RX7 130 yX7_isKerb ∈ tk_G := (tk_mem 786 (by decide +kernel) rfl)
theorem wm_X7_134 : Cond.methodLink RX7 134 yX7_thingsOn ∈ tk_G := (tk_mem 790 (by decide +kernel) rfl)
theorem wm_X7_137 : Cond.methodLink RX7 137 yX7_isThing ∈ tk_G := (tk_mem 798 (by decide +kernel) rfl)
theorem wm_X7_140 : Cond.methodLink RX7 140 yX7_floodIn ∈ tk_G := (tk_mem 810 (by decide +kernel) rfl)
theorem wf_X7_143 : Cond.fieldLink RX7 143 (TX7 28).1 (TX7 28).2.1 (TX7 28).2.2.1 ∈ tk_G := (tk_mem 679 (by decide +kernel) rfl)
theorem wf_X7_146 : Cond.fieldLink RX7 146 (TX7 27).1 (TX7 27).2.1 (TX7 27).2.2.1 ∈ tk_G := (tk_mem 678 (by decide +kernel) rfl)
theorem wm_X7_149 : Cond.methodLink RX7 149 yX7_notes ∈ tk_G := (tk_mem 818 (by decide +kernel) rfl)
theorem wm_X7_152 : Cond.methodLink RX7 152 yX7_takesUp ∈ tk_G := (tk_mem 822 (by decide +kernel) rfl)
theorem wm_X7_155 : Cond.methodLink RX7 155 yX7_isTied ∈ tk_G := (tk_mem 826 (by decide +kernel) rfl)
theorem wm_X7_158 : Cond.methodLink RX7 158 yX7_goes ∈ tk_G := (tk_mem 830 (by decide +kernel) rfl)
theorem wc_X7_161 : Cond.constant RX7 161 (99999) ∈ tk_G := (tk_mem 834 (by decide +kernel) rfl)
theorem wm_X7_162 : Cond.methodLink RX7 162 yX7_ones ∈ tk_G := (tk_mem 839 (by decide +kernel) rfl)
theorem wm_X7_165 : Cond.methodLink RX7 165 yX7_soon ∈ tk_G := (tk_mem 870 (by decide +kernel) rfl)
theorem wm_X7_169 : Cond.methodLink RX7 169 yX7_gcd ∈ tk_G := (tk_mem 890 (by decide +kernel) rfl)
theorem wm_X7_172 : Cond.methodLink RX7 172 yX7_canBegin ∈ tk_G := (tk_mem 901 (by decide +kernel) rfl)
theorem wc_X7_175 : Cond.constant RX7 175 (-1000000) ∈ tk_G := (tk_mem 921 (by decide +kernel) rfl)
theorem wf_X7_176 : Cond.fieldLink RX7 176 (TX7 1).1 (TX7 1).2.1 (TX7 1).2.2.1 ∈ tk_G := (tk_mem 652 (by decide +kernel) rfl)
theorem wc_X7_180 : Cond.constantLong RX7 180 (11) ∈ tk_G := (tk_mem 922 (by decide +kernel) rfl)
theorem wc_X7_182 : Cond.constantLong RX7 182 (101) ∈ tk_G := (tk_mem 923 (by decide +kernel) rfl)
theorem wc_X7_184 : Cond.constantLong RX7 184 (1011) ∈ tk_G := (tk_mem 924 (by decide +kernel) rfl)
theorem wc_X7_186 : Cond.constantLong RX7 186 (10101) ∈ tk_G := (tk_mem 925 (by decide +kernel) rfl)
theorem wc_X7_188 : Cond.constantLong RX7 188 (100001) ∈ tk_G := (tk_mem 926 (by decide +kernel) rfl)
theorem wk_L_7 : Cond.classLink RL 7 RX6 ∈ tk_G := (tk_mem 50 (by decide +kernel) rfl)
theorem wi_X6 : Cond.instantiable RX6 12 ∈ tk_G := (tk_mem 51 (by decide +kernel) rfl)
theorem wn_X6 : Cond.initialized RX6 ∈ tk_G := (tk_mem 40 (by decide +kernel) rfl)
theorem wm_L_9 : Cond.methodLink RL 9 yX6_init ∈ tk_G := (tk_mem 52 (by decide +kernel) rfl)
theorem wk_L_10 : Cond.classLink RL 10 RX7 ∈ tk_G := (tk_mem 637 (by decide +kernel) rfl)
theorem wi_X7 : Cond.instantiable RX7 29 ∈ tk_G := (tk_mem 638 (by decide +kernel) rfl)
theorem wn_X7 : Cond.initialized RX7 ∈ tk_G := (tk_mem 47 (by decide +kernel) rfl)
theorem wm_L_12 : Cond.methodLink RL 12 yX7_init ∈ tk_G := (tk_mem 639 (by decide +kernel) rfl)
theorem wm_L_13 : Cond.methodLink RL 13 yX6_type ∈ tk_G := (tk_mem 271 (by decide +kernel) rfl)
theorem wm_L_17 : Cond.methodLink RL 17 yX7_type ∈ tk_G := (tk_mem 739 (by decide +kernel) rfl)
theorem wm_L_18 : Cond.methodLink RL 18 yX6_clear ∈ tk_G := (tk_mem 282 (by decide +kernel) rfl)
theorem wm_L_22 : Cond.methodLink RL 22 yX7_clear ∈ tk_G := (tk_mem 746 (by decide +kernel) rfl)
theorem wm_L_23 : Cond.methodLink RL 23 yX6_towns ∈ tk_G := (tk_mem 290 (by decide +kernel) rfl)
theorem wm_L_26 : Cond.methodLink RL 26 yX7_towns ∈ tk_G := (tk_mem 750 (by decide +kernel) rfl)
theorem wm_L_27 : Cond.methodLink RL 27 yX6_kerb ∈ tk_G := (tk_mem 374 (by decide +kernel) rfl)
theorem wm_L_31 : Cond.methodLink RL 31 yX7_kerb ∈ tk_G := (tk_mem 782 (by decide +kernel) rfl)
theorem wm_L_32 : Cond.methodLink RL 32 yX6_thing ∈ tk_G := (tk_mem 394 (by decide +kernel) rfl)
theorem wm_L_35 : Cond.methodLink RL 35 yX7_thing ∈ tk_G := (tk_mem 794 (by decide +kernel) rfl)
theorem wm_L_36 : Cond.methodLink RL 36 yX6_now ∈ tk_G := (tk_mem 406 (by decide +kernel) rfl)
theorem wm_L_39 : Cond.methodLink RL 39 yX7_now ∈ tk_G := (tk_mem 802 (by decide +kernel) rfl)
theorem wm_L_40 : Cond.methodLink RL 40 yX6_tides ∈ tk_G := (tk_mem 427 (by decide +kernel) rfl)
theorem wm_L_43 : Cond.methodLink RL 43 yX7_tides ∈ tk_G := (tk_mem 814 (by decide +kernel) rfl)
theorem wm_L_44 : Cond.methodLink RL 44 yX6_ties ∈ tk_G := (tk_mem 454 (by decide +kernel) rfl)
theorem wm_L_47 : Cond.methodLink RL 47 yX7_ties ∈ tk_G := (tk_mem 835 (by decide +kernel) rfl)
theorem wm_L_48 : Cond.methodLink RL 48 yX6_carries ∈ tk_G := (tk_mem 463 (by decide +kernel) rfl)
theorem wm_L_51 : Cond.methodLink RL 51 yX7_carries ∈ tk_G := (tk_mem 842 (by decide +kernel) rfl)
theorem wm_L_52 : Cond.methodLink RL 52 yX6_undo ∈ tk_G := (tk_mem 471 (by decide +kernel) rfl)
theorem wm_L_55 : Cond.methodLink RL 55 yX7_undo ∈ tk_G := (tk_mem 846 (by decide +kernel) rfl)
theorem wm_L_56 : Cond.methodLink RL 56 yX6_level ∈ tk_G := (tk_mem 486 (by decide +kernel) rfl)
theorem wm_L_59 : Cond.methodLink RL 59 yX7_level ∈ tk_G := (tk_mem 850 (by decide +kernel) rfl)
theorem wm_L_60 : Cond.methodLink RL 60 yX6_high ∈ tk_G := (tk_mem 490 (by decide +kernel) rfl)
theorem wm_L_63 : Cond.methodLink RL 63 yX7_high ∈ tk_G := (tk_mem 854 (by decide +kernel) rfl)
theorem wm_L_64 : Cond.methodLink RL 64 yX6_flood ∈ tk_G := (tk_mem 494 (by decide +kernel) rfl)
theorem wm_L_67 : Cond.methodLink RL 67 yX7_flood ∈ tk_G := (tk_mem 858 (by decide +kernel) rfl)
theorem wm_L_68 : Cond.methodLink RL 68 yX6_where ∈ tk_G := (tk_mem 498 (by decide +kernel) rfl)
theorem wm_L_71 : Cond.methodLink RL 71 yX7_where ∈ tk_G := (tk_mem 862 (by decide +kernel) rfl)
theorem wm_L_72 : Cond.methodLink RL 72 yX6_when ∈ tk_G := (tk_mem 507 (by decide +kernel) rfl)
theorem wm_L_75 : Cond.methodLink RL 75 yX7_when ∈ tk_G := (tk_mem 866 (by decide +kernel) rfl)
theorem wm_L_76 : Cond.methodLink RL 76 yX6_send ∈ tk_G := (tk_mem 516 (by decide +kernel) rfl)
theorem wm_L_80 : Cond.methodLink RL 80 yX7_send ∈ tk_G := (tk_mem 874 (by decide +kernel) rfl)
theorem wm_L_81 : Cond.methodLink RL 81 yX6_meet ∈ tk_G := (tk_mem 521 (by decide +kernel) rfl)
theorem wm_L_84 : Cond.methodLink RL 84 yX7_meet ∈ tk_G := (tk_mem 878 (by decide +kernel) rfl)
theorem wm_L_85 : Cond.methodLink RL 85 yX6_round ∈ tk_G := (tk_mem 525 (by decide +kernel) rfl)
theorem wm_L_88 : Cond.methodLink RL 88 yX7_round ∈ tk_G := (tk_mem 882 (by decide +kernel) rfl)
theorem wm_L_89 : Cond.methodLink RL 89 yX6_odds ∈ tk_G := (tk_mem 534 (by decide +kernel) rfl)
theorem wm_L_93 : Cond.methodLink RL 93 yX7_odds ∈ tk_G := (tk_mem 886 (by decide +kernel) rfl)
theorem wm_L_94 : Cond.methodLink RL 94 yX6_found ∈ tk_G := (tk_mem 555 (by decide +kernel) rfl)
theorem wm_L_97 : Cond.methodLink RL 97 yX7_found ∈ tk_G := (tk_mem 893 (by decide +kernel) rfl)
theorem wm_L_98 : Cond.methodLink RL 98 yX6_began ∈ tk_G := (tk_mem 563 (by decide +kernel) rfl)
theorem wm_L_101 : Cond.methodLink RL 101 yX7_began ∈ tk_G := (tk_mem 897 (by decide +kernel) rfl)
theorem wm_L_102 : Cond.methodLink RL 102 yX6_saw ∈ tk_G := (tk_mem 571 (by decide +kernel) rfl)
theorem wm_L_105 : Cond.methodLink RL 105 yX7_saw ∈ tk_G := (tk_mem 905 (by decide +kernel) rfl)
theorem wm_L_106 : Cond.methodLink RL 106 yX6_laws ∈ tk_G := (tk_mem 575 (by decide +kernel) rfl)
theorem wm_L_109 : Cond.methodLink RL 109 yX7_laws ∈ tk_G := (tk_mem 909 (by decide +kernel) rfl)
theorem wm_L_110 : Cond.methodLink RL 110 yX6_forget ∈ tk_G := (tk_mem 583 (by decide +kernel) rfl)
theorem wm_L_113 : Cond.methodLink RL 113 yX7_forget ∈ tk_G := (tk_mem 913 (by decide +kernel) rfl)
theorem wm_L_114 : Cond.methodLink RL 114 yX6_rate ∈ tk_G := (tk_mem 587 (by decide +kernel) rfl)
theorem wm_L_117 : Cond.methodLink RL 117 yX7_rate ∈ tk_G := (tk_mem 917 (by decide +kernel) rfl)
theorem wm_L_118 : Cond.methodLink RL 118 yX6_keep ∈ tk_G := (tk_mem 621 (by decide +kernel) rfl)
theorem wm_L_121 : Cond.methodLink RL 121 yX7_keep ∈ tk_G := (tk_mem 927 (by decide +kernel) rfl)
theorem wm_L_122 : Cond.methodLink RL 122 yX6_back ∈ tk_G := (tk_mem 625 (by decide +kernel) rfl)
theorem wm_L_125 : Cond.methodLink RL 125 yX7_back ∈ tk_G := (tk_mem 931 (by decide +kernel) rfl)
theorem wm_L_126 : Cond.methodLink RL 126 yX6_count ∈ tk_G := (tk_mem 629 (by decide +kernel) rfl)
theorem wm_L_129 : Cond.methodLink RL 129 yX7_count ∈ tk_G := (tk_mem 935 (by decide +kernel) rfl)
theorem wm_L_130 : Cond.methodLink RL 130 yX6_trace ∈ tk_G := (tk_mem 633 (by decide +kernel) rfl)
theorem wm_L_134 : Cond.methodLink RL 134 yX7_trace ∈ tk_G := (tk_mem 939 (by decide +kernel) rfl)
theorem wn_J9 : Cond.initialized RJ9 ∈ tk_G := (tk_mem 48 (by decide +kernel) rfl)
theorem wn_J6 : Cond.initialized RJ6 ∈ tk_G := (tk_mem 49 (by decide +kernel) rfl)
def M_X0_init : tk_Md := (yX0_init, cX0_init, 1, none, { frames := 1, cells := 2, slots := 12, locals := 12 })
theorem mv_X0_init : tk_MI M_X0_init 0 := ⟨⟨tk_mem 216 (by decide +kernel) rfl, wn_X0, by decide, by decide, by decide +kernel⟩, tk_mem 215 (by decide +kernel) rfl, rfl, rfl⟩
def M_X0_add : tk_Md := (yX0_add, cX0_add, 3, (some .int), { frames := 0, cells := 0, slots := 0, locals := 0 })
theorem mv_X0_add : tk_MV M_X0_add 2 := ⟨⟨tk_mem 562 (by decide +kernel) rfl, wn_X0, by decide, by decide, by decide +kernel⟩, tk_mem 560 (by decide +kernel) rfl, tk_mem 561 (by decide +kernel) rfl⟩
def M_X0_lose : tk_Md := (yX0_lose, cX0_lose, 2, (some .int), { frames := 0, cells := 0, slots := 0, locals := 0 })
theorem mv_X0_lose : tk_MV M_X0_lose 0 := ⟨⟨tk_mem 373 (by decide +kernel) rfl, wn_X0, by decide, by decide, by decide +kernel⟩, tk_mem 371 (by decide +kernel) rfl, tk_mem 372 (by decide +kernel) rfl⟩
def M_X4_init : tk_Md := (yX4_init, cX4_init, 1, none, { frames := 1, cells := 0, slots := 0, locals := 12 })
theorem mv_X4_init : tk_MI M_X4_init 0 := ⟨⟨tk_mem 161 (by decide +kernel) rfl, wn_X4, by decide, by decide, by decide +kernel⟩, tk_mem 160 (by decide +kernel) rfl, rfl, rfl⟩
def M_X1_init : tk_Md := (yX1_init, cX1_init, 2, none, { frames := 2, cells := 6, slots := 20, locals := 32 })
theorem mv_X1_init : tk_MI M_X1_init 0 := ⟨⟨tk_mem 154 (by decide +kernel) rfl, wn_X1, by decide, by decide, by decide +kernel⟩, tk_mem 153 (by decide +kernel) rfl, rfl, rfl⟩
def M_X4_lieOn : tk_Md := (yX4_lieOn, cX4_lieOn, 2, none, { frames := 0, cells := 0, slots := 0, locals := 0 })
theorem mv_X4_lieOn : tk_MV M_X4_lieOn 1 := ⟨⟨tk_mem 365 (by decide +kernel) rfl, wn_X4, by decide, by decide, by decide +kernel⟩, tk_mem 363 (by decide +kernel) rfl, tk_mem 364 (by decide +kernel) rfl⟩
def M_X1_begin : tk_Md := (yX1_begin, cX1_begin, 3, none, { frames := 1, cells := 0, slots := 0, locals := 21 })
theorem mv_X1_begin : tk_MV M_X1_begin 1 := ⟨⟨tk_mem 361 (by decide +kernel) rfl, wn_X1, by decide, by decide, by decide +kernel⟩, tk_mem 359 (by decide +kernel) rfl, tk_mem 360 (by decide +kernel) rfl⟩
def M_X4_lies : tk_Md := (yX4_lies, cX4_lies, 1, (some .boolean), { frames := 0, cells := 0, slots := 0, locals := 0 })
theorem mv_X4_lies : tk_MV M_X4_lies 0 := ⟨⟨tk_mem 393 (by decide +kernel) rfl, wn_X4, by decide, by decide, by decide +kernel⟩, tk_mem 391 (by decide +kernel) rfl, tk_mem 392 (by decide +kernel) rfl⟩
def M_X5_isKerb : tk_Md := (yX5_isKerb, cX5_isKerb, 2, (some .boolean), { frames := 0, cells := 0, slots := 0, locals := 0 })
theorem mv_X5_isKerb : tk_MV M_X5_isKerb 1 := ⟨⟨tk_mem 381 (by decide +kernel) rfl, wn_X5, by decide, by decide, by decide +kernel⟩, tk_mem 379 (by decide +kernel) rfl, tk_mem 380 (by decide +kernel) rfl⟩
def M_X5_isFlooded : tk_Md := (yX5_isFlooded, cX5_isFlooded, 3, (some .boolean), { frames := 1, cells := 0, slots := 0, locals := 21 })
theorem mv_X5_isFlooded : tk_MV M_X5_isFlooded 2 := ⟨⟨tk_mem 425 (by decide +kernel) rfl, wn_X5, by decide, by decide, by decide +kernel⟩, tk_mem 423 (by decide +kernel) rfl, tk_mem 424 (by decide +kernel) rfl⟩
def M_X4_pass : tk_Md := (yX4_pass, cX4_pass, 4, (some .boolean), { frames := 2, cells := 0, slots := 0, locals := 43 })
theorem mv_X4_pass : tk_MV M_X4_pass 2 := ⟨⟨tk_mem 450 (by decide +kernel) rfl, wn_X4, by decide, by decide, by decide +kernel⟩, tk_mem 448 (by decide +kernel) rfl, tk_mem 449 (by decide +kernel) rfl⟩
def M_X5_leftOver : tk_Md := (yX5_leftOver, cX5_leftOver, 2, (some .int), { frames := 0, cells := 0, slots := 0, locals := 0 })
theorem mv_X5_leftOver : tk_MV M_X5_leftOver 1 := ⟨⟨tk_mem 417 (by decide +kernel) rfl, wn_X5, by decide, by decide, by decide +kernel⟩, tk_mem 415 (by decide +kernel) rfl, tk_mem 416 (by decide +kernel) rfl⟩
def M_X5_levelOf : tk_Md := (yX5_levelOf, cX5_levelOf, 2, (some .int), { frames := 1, cells := 0, slots := 0, locals := 21 })
theorem mv_X5_levelOf : tk_MV M_X5_levelOf 1 := ⟨⟨tk_mem 413 (by decide +kernel) rfl, wn_X5, by decide, by decide, by decide +kernel⟩, tk_mem 411 (by decide +kernel) rfl, tk_mem 412 (by decide +kernel) rfl⟩
def M_J9_min_7cf53 : tk_Md := (yJ9_min_7cf53, cJ9_min_7cf53, 2, (some .int), { frames := 0, cells := 0, slots := 0, locals := 0 })
theorem mv_J9_min_7cf53 : tk_MS M_J9_min_7cf53 2 := ⟨⟨tk_mem 437 (by decide +kernel) rfl, wn_J9, by decide, by decide, by decide +kernel⟩, tk_mem 436 (by decide +kernel) rfl⟩
def M_X1_pass : tk_Md := (yX1_pass, cX1_pass, 5, (some .int), { frames := 3, cells := 0, slots := 0, locals := 66 })
theorem mv_X1_pass : tk_MV M_X1_pass 1 := ⟨⟨tk_mem 445 (by decide +kernel) rfl, wn_X1, by decide, by decide, by decide +kernel⟩, tk_mem 443 (by decide +kernel) rfl, tk_mem 444 (by decide +kernel) rfl⟩
def M_X4_liesOn : tk_Md := (yX4_liesOn, cX4_liesOn, 2, (some .boolean), { frames := 1, cells := 0, slots := 0, locals := 20 })
theorem mv_X4_liesOn : tk_MV M_X4_liesOn 1 := ⟨⟨tk_mem 389 (by decide +kernel) rfl, wn_X4, by decide, by decide, by decide +kernel⟩, tk_mem 387 (by decide +kernel) rfl, tk_mem 388 (by decide +kernel) rfl⟩
def M_X1_lyingOn : tk_Md := (yX1_lyingOn, cX1_lyingOn, 5, (some .int), { frames := 2, cells := 0, slots := 0, locals := 41 })
theorem mv_X1_lyingOn : tk_MV M_X1_lyingOn 2 := ⟨⟨tk_mem 385 (by decide +kernel) rfl, wn_X1, by decide, by decide, by decide +kernel⟩, tk_mem 383 (by decide +kernel) rfl, tk_mem 384 (by decide +kernel) rfl⟩
def M_X1_tiedOf : tk_Md := (yX1_tiedOf, cX1_tiedOf, 4, (some .int), { frames := 0, cells := 0, slots := 0, locals := 0 })
theorem mv_X1_tiedOf : tk_MV M_X1_tiedOf 1 := ⟨⟨tk_mem 462 (by decide +kernel) rfl, wn_X1, by decide, by decide, by decide +kernel⟩, tk_mem 460 (by decide +kernel) rfl, tk_mem 461 (by decide +kernel) rfl⟩
def M_X1_saveTo : tk_Md := (yX1_saveTo, cX1_saveTo, 4, none, { frames := 0, cells := 0, slots := 0, locals := 0 })
theorem mv_X1_saveTo : tk_MV M_X1_saveTo 1 := ⟨⟨tk_mem 441 (by decide +kernel) rfl, wn_X1, by decide, by decide, by decide +kernel⟩, tk_mem 439 (by decide +kernel) rfl, tk_mem 440 (by decide +kernel) rfl⟩
def M_X1_loadFrom : tk_Md := (yX1_loadFrom, cX1_loadFrom, 4, none, { frames := 0, cells := 0, slots := 0, locals := 0 })
theorem mv_X1_loadFrom : tk_MV M_X1_loadFrom 1 := ⟨⟨tk_mem 485 (by decide +kernel) rfl, wn_X1, by decide, by decide, by decide +kernel⟩, tk_mem 483 (by decide +kernel) rfl, tk_mem 484 (by decide +kernel) rfl⟩
def M_X2_init : tk_Md := (yX2_init, cX2_init, 1, none, { frames := 1, cells := 11, slots := 180, locals := 12 })
theorem mv_X2_init : tk_MI M_X2_init 0 := ⟨⟨tk_mem 196 (by decide +kernel) rfl, wn_X2, by decide, by decide, by decide +kernel⟩, tk_mem 195 (by decide +kernel) rfl, rfl, rfl⟩
def M_X2_nextRow : tk_Md := (yX2_nextRow, cX2_nextRow, 2, (some (.array .int)), { frames := 1, cells := 0, slots := 0, locals := 21 })
theorem mv_X2_nextRow : tk_MV M_X2_nextRow 0 := ⟨⟨tk_mem 434 (by decide +kernel) rfl, wn_X2, by decide, by decide, by decide +kernel⟩, tk_mem 432 (by decide +kernel) rfl, tk_mem 433 (by decide +kernel) rfl⟩
def M_J9_max_7cf53 : tk_Md := (yJ9_max_7cf53, cJ9_max_7cf53, 2, (some .int), { frames := 0, cells := 0, slots := 0, locals := 0 })
theorem mv_J9_max_7cf53 : tk_MS M_J9_max_7cf53 2 := ⟨⟨tk_mem 481 (by decide +kernel) rfl, wn_J9, by decide, by decide, by decide +kernel⟩, tk_mem 480 (by decide +kernel) rfl⟩
def M_X2_latestRow : tk_Md := (yX2_latestRow, cX2_latestRow, 1, (some (.array .int)), { frames := 1, cells := 0, slots := 0, locals := 21 })
theorem mv_X2_latestRow : tk_MV M_X2_latestRow 0 := ⟨⟨tk_mem 478 (by decide +kernel) rfl, wn_X2, by decide, by decide, by decide +kernel⟩, tk_mem 476 (by decide +kernel) rfl, tk_mem 477 (by decide +kernel) rfl⟩
def M_X2_lose : tk_Md := (yX2_lose, cX2_lose, 1, none, { frames := 0, cells := 0, slots := 0, locals := 0 })
theorem mv_X2_lose : tk_MV M_X2_lose 0 := ⟨⟨tk_mem 369 (by decide +kernel) rfl, wn_X2, by decide, by decide, by decide +kernel⟩, tk_mem 367 (by decide +kernel) rfl, tk_mem 368 (by decide +kernel) rfl⟩
def M_X3_init : tk_Md := (yX3_init, cX3_init, 1, none, { frames := 1, cells := 1, slots := 150, locals := 12 })
theorem mv_X3_init : tk_MI M_X3_init 0 := ⟨⟨tk_mem 62 (by decide +kernel) rfl, wn_X3, by decide, by decide, by decide +kernel⟩, tk_mem 61 (by decide +kernel) rfl, rfl, rfl⟩
def M_X3_add : tk_Md := (yX3_add, cX3_add, 2, (some .int), { frames := 0, cells := 0, slots := 0, locals := 0 })
theorem mv_X3_add : tk_MV M_X3_add 1 := ⟨⟨tk_mem 281 (by decide +kernel) rfl, wn_X3, by decide, by decide, by decide +kernel⟩, tk_mem 279 (by decide +kernel) rfl, tk_mem 280 (by decide +kernel) rfl⟩
def M_X3_empty : tk_Md := (yX3_empty, cX3_empty, 2, (some .int), { frames := 0, cells := 0, slots := 0, locals := 0 })
theorem mv_X3_empty : tk_MV M_X3_empty 0 := ⟨⟨tk_mem 289 (by decide +kernel) rfl, wn_X3, by decide, by decide, by decide +kernel⟩, tk_mem 287 (by decide +kernel) rfl, tk_mem 288 (by decide +kernel) rfl⟩
def M_X6_isWithin : tk_Md := (yX6_isWithin, cX6_isWithin, 3, (some .boolean), { frames := 0, cells := 0, slots := 0, locals := 0 })
theorem mv_X6_isWithin : tk_MS M_X6_isWithin 3 := ⟨⟨tk_mem 277 (by decide +kernel) rfl, wn_X6, by decide, by decide, by decide +kernel⟩, tk_mem 276 (by decide +kernel) rfl⟩
def M_X3_isDigit : tk_Md := (yX3_isDigit, cX3_isDigit, 1, (some .boolean), { frames := 0, cells := 0, slots := 0, locals := 0 })
theorem mv_X3_isDigit : tk_MS M_X3_isDigit 1 := ⟨⟨tk_mem 305 (by decide +kernel) rfl, wn_X3, by decide, by decide, by decide +kernel⟩, tk_mem 304 (by decide +kernel) rfl⟩
def M_X3_readDigits : tk_Md := (yX3_readDigits, cX3_readDigits, 5, (some .int), { frames := 1, cells := 0, slots := 0, locals := 20 })
theorem mv_X3_readDigits : tk_MV M_X3_readDigits 0 := ⟨⟨tk_mem 309 (by decide +kernel) rfl, wn_X3, by decide, by decide, by decide +kernel⟩, tk_mem 308 (by decide +kernel) rfl, tk_mem 1 (by decide +kernel) rfl⟩
def M_X3_readToken : tk_Md := (yX3_readToken, cX3_readToken, 1, none, { frames := 2, cells := 0, slots := 0, locals := 44 })
theorem mv_X3_readToken : tk_MV M_X3_readToken 0 := ⟨⟨tk_mem 302 (by decide +kernel) rfl, wn_X3, by decide, by decide, by decide +kernel⟩, tk_mem 301 (by decide +kernel) rfl, tk_mem 0 (by decide +kernel) rfl⟩
def M_X3_readNumber : tk_Md := (yX3_readNumber, cX3_readNumber, 3, (some .boolean), { frames := 3, cells := 0, slots := 0, locals := 64 })
theorem mv_X3_readNumber : tk_MV M_X3_readNumber 2 := ⟨⟨tk_mem 321 (by decide +kernel) rfl, wn_X3, by decide, by decide, by decide +kernel⟩, tk_mem 320 (by decide +kernel) rfl, tk_mem 4 (by decide +kernel) rfl⟩
def M_X3_readDrain : tk_Md := (yX3_readDrain, cX3_readDrain, 4, (some .boolean), { frames := 4, cells := 0, slots := 0, locals := 86 })
theorem mv_X3_readDrain : tk_MV M_X3_readDrain 1 := ⟨⟨tk_mem 344 (by decide +kernel) rfl, wn_X3, by decide, by decide, by decide +kernel⟩, tk_mem 343 (by decide +kernel) rfl, tk_mem 7 (by decide +kernel) rfl⟩
def M_X3_readItemEnd : tk_Md := (yX3_readItemEnd, cX3_readItemEnd, 1, (some .boolean), { frames := 3, cells := 0, slots := 0, locals := 64 })
theorem mv_X3_readItemEnd : tk_MV M_X3_readItemEnd 0 := ⟨⟨tk_mem 327 (by decide +kernel) rfl, wn_X3, by decide, by decide, by decide +kernel⟩, tk_mem 326 (by decide +kernel) rfl, tk_mem 5 (by decide +kernel) rfl⟩
def M_X5_hasRoomForKerb : tk_Md := (yX5_hasRoomForKerb, cX5_hasRoomForKerb, 1, (some .boolean), { frames := 0, cells := 0, slots := 0, locals := 0 })
theorem mv_X5_hasRoomForKerb : tk_MV M_X5_hasRoomForKerb 0 := ⟨⟨tk_mem 331 (by decide +kernel) rfl, wn_X5, by decide, by decide, by decide +kernel⟩, tk_mem 329 (by decide +kernel) rfl, tk_mem 330 (by decide +kernel) rfl⟩
def M_X5_addKerb : tk_Md := (yX5_addKerb, cX5_addKerb, 3, none, { frames := 1, cells := 0, slots := 0, locals := 20 })
theorem mv_X5_addKerb : tk_MV M_X5_addKerb 2 := ⟨⟨tk_mem 339 (by decide +kernel) rfl, wn_X5, by decide, by decide, by decide +kernel⟩, tk_mem 337 (by decide +kernel) rfl, tk_mem 338 (by decide +kernel) rfl⟩
def M_X3_readKerb : tk_Md := (yX3_readKerb, cX3_readKerb, 3, (some .boolean), { frames := 4, cells := 0, slots := 0, locals := 86 })
theorem mv_X3_readKerb : tk_MV M_X3_readKerb 1 := ⟨⟨tk_mem 335 (by decide +kernel) rfl, wn_X3, by decide, by decide, by decide +kernel⟩, tk_mem 334 (by decide +kernel) rfl, tk_mem 6 (by decide +kernel) rfl⟩
def M_X5_setLevel : tk_Md := (yX5_setLevel, cX5_setLevel, 4, none, { frames := 0, cells := 0, slots := 0, locals := 0 })
theorem mv_X5_setLevel : tk_MV M_X5_setLevel 3 := ⟨⟨tk_mem 101 (by decide +kernel) rfl, wn_X5, by decide, by decide, by decide +kernel⟩, tk_mem 99 (by decide +kernel) rfl, tk_mem 100 (by decide +kernel) rfl⟩
def M_X3_readLevel : tk_Md := (yX3_readLevel, cX3_readLevel, 4, (some .boolean), { frames := 4, cells := 0, slots := 0, locals := 86 })
theorem mv_X3_readLevel : tk_MV M_X3_readLevel 1 := ⟨⟨tk_mem 317 (by decide +kernel) rfl, wn_X3, by decide, by decide, by decide +kernel⟩, tk_mem 316 (by decide +kernel) rfl, tk_mem 3 (by decide +kernel) rfl⟩
def M_X5_hasRoomForThing : tk_Md := (yX5_hasRoomForThing, cX5_hasRoomForThing, 1, (some .boolean), { frames := 0, cells := 0, slots := 0, locals := 0 })
theorem mv_X5_hasRoomForThing : tk_MV M_X5_hasRoomForThing 0 := ⟨⟨tk_mem 348 (by decide +kernel) rfl, wn_X5, by decide, by decide, by decide +kernel⟩, tk_mem 346 (by decide +kernel) rfl, tk_mem 347 (by decide +kernel) rfl⟩
def M_X5_addThing : tk_Md := (yX5_addThing, cX5_addThing, 2, none, { frames := 1, cells := 0, slots := 0, locals := 20 })
theorem mv_X5_addThing : tk_MV M_X5_addThing 1 := ⟨⟨tk_mem 356 (by decide +kernel) rfl, wn_X5, by decide, by decide, by decide +kernel⟩, tk_mem 354 (by decide +kernel) rfl, tk_mem 355 (by decide +kernel) rfl⟩
def M_X3_readThing : tk_Md := (yX3_readThing, cX3_readThing, 2, (some .boolean), { frames := 4, cells := 0, slots := 0, locals := 86 })
theorem mv_X3_readThing : tk_MV M_X3_readThing 1 := ⟨⟨tk_mem 352 (by decide +kernel) rfl, wn_X3, by decide, by decide, by decide +kernel⟩, tk_mem 351 (by decide +kernel) rfl, tk_mem 8 (by decide +kernel) rfl⟩
def M_X3_readItem : tk_Md := (yX3_readItem, cX3_readItem, 2, (some .boolean), { frames := 5, cells := 0, slots := 0, locals := 109 })
theorem mv_X3_readItem : tk_MV M_X3_readItem 1 := ⟨⟨tk_mem 313 (by decide +kernel) rfl, wn_X3, by decide, by decide, by decide +kernel⟩, tk_mem 312 (by decide +kernel) rfl, tk_mem 2 (by decide +kernel) rfl⟩
def M_X5_reset : tk_Md := (yX5_reset, cX5_reset, 1, none, { frames := 1, cells := 0, slots := 0, locals := 23 })
theorem mv_X5_reset : tk_MV M_X5_reset 0 := ⟨⟨tk_mem 97 (by decide +kernel) rfl, wn_X5, by decide, by decide, by decide +kernel⟩, tk_mem 95 (by decide +kernel) rfl, tk_mem 96 (by decide +kernel) rfl⟩
def M_X3_readInto : tk_Md := (yX3_readInto, cX3_readInto, 3, (some .int), { frames := 6, cells := 0, slots := 0, locals := 130 })
theorem mv_X3_readInto : tk_MV M_X3_readInto 1 := ⟨⟨tk_mem 297 (by decide +kernel) rfl, wn_X3, by decide, by decide, by decide +kernel⟩, tk_mem 295 (by decide +kernel) rfl, tk_mem 296 (by decide +kernel) rfl⟩
def M_X4_becomes : tk_Md := (yX4_becomes, cX4_becomes, 2, none, { frames := 0, cells := 0, slots := 0, locals := 0 })
theorem mv_X4_becomes : tk_MV M_X4_becomes 1 := ⟨⟨tk_mem 505 (by decide +kernel) rfl, wn_X4, by decide, by decide, by decide +kernel⟩, tk_mem 503 (by decide +kernel) rfl, tk_mem 504 (by decide +kernel) rfl⟩
def M_X4_isAs : tk_Md := (yX4_isAs, cX4_isAs, 2, (some .boolean), { frames := 0, cells := 0, slots := 0, locals := 0 })
theorem mv_X4_isAs : tk_MV M_X4_isAs 1 := ⟨⟨tk_mem 532 (by decide +kernel) rfl, wn_X4, by decide, by decide, by decide +kernel⟩, tk_mem 530 (by decide +kernel) rfl, tk_mem 531 (by decide +kernel) rfl⟩
def M_X4_place : tk_Md := (yX4_place, cX4_place, 1, (some .int), { frames := 1, cells := 0, slots := 0, locals := 20 })
theorem mv_X4_place : tk_MV M_X4_place 0 := ⟨⟨tk_mem 405 (by decide +kernel) rfl, wn_X4, by decide, by decide, by decide +kernel⟩, tk_mem 403 (by decide +kernel) rfl, tk_mem 404 (by decide +kernel) rfl⟩
def M_X5_init : tk_Md := (yX5_init, cX5_init, 1, none, { frames := 2, cells := 5, slots := 37, locals := 43 })
theorem mv_X5_init : tk_MI M_X5_init 0 := ⟨⟨tk_mem 92 (by decide +kernel) rfl, wn_X5, by decide, by decide, by decide +kernel⟩, tk_mem 91 (by decide +kernel) rfl, rfl, rfl⟩
def M_X5_isThing : tk_Md := (yX5_isThing, cX5_isThing, 2, (some .boolean), { frames := 0, cells := 0, slots := 0, locals := 0 })
theorem mv_X5_isThing : tk_MV M_X5_isThing 1 := ⟨⟨tk_mem 401 (by decide +kernel) rfl, wn_X5, by decide, by decide, by decide +kernel⟩, tk_mem 399 (by decide +kernel) rfl, tk_mem 400 (by decide +kernel) rfl⟩
def M_X5_areOfOneTown : tk_Md := (yX5_areOfOneTown, cX5_areOfOneTown, 3, (some .boolean), { frames := 1, cells := 0, slots := 0, locals := 21 })
theorem mv_X5_areOfOneTown : tk_MV M_X5_areOfOneTown 2 := ⟨⟨tk_mem 470 (by decide +kernel) rfl, wn_X5, by decide, by decide, by decide +kernel⟩, tk_mem 468 (by decide +kernel) rfl, tk_mem 469 (by decide +kernel) rfl⟩
def M_X5_floodedBy : tk_Md := (yX5_floodedBy, cX5_floodedBy, 4, (some .int), { frames := 2, cells := 0, slots := 0, locals := 43 })
theorem mv_X5_floodedBy : tk_MV M_X5_floodedBy 1 := ⟨⟨tk_mem 421 (by decide +kernel) rfl, wn_X5, by decide, by decide, by decide +kernel⟩, tk_mem 419 (by decide +kernel) rfl, tk_mem 420 (by decide +kernel) rfl⟩
def M_X6_init : tk_Md := (yX6_init, cX6_init, 1, none, { frames := 3, cells := 45, slots := 531, locals := 63 })
theorem mv_X6_init : tk_MI M_X6_init 0 := ⟨⟨tk_mem 54 (by decide +kernel) rfl, wn_X6, by decide, by decide, by decide +kernel⟩, tk_mem 53 (by decide +kernel) rfl, rfl, rfl⟩
def M_X6_type : tk_Md := (yX6_type, cX6_type, 2, (some .int), { frames := 1, cells := 0, slots := 0, locals := 22 })
theorem mv_X6_type : tk_MV M_X6_type 1 := ⟨⟨tk_mem 274 (by decide +kernel) rfl, wn_X6, by decide, by decide, by decide +kernel⟩, tk_mem 272 (by decide +kernel) rfl, tk_mem 273 (by decide +kernel) rfl⟩
def M_X6_clear : tk_Md := (yX6_clear, cX6_clear, 1, (some .int), { frames := 1, cells := 0, slots := 0, locals := 21 })
theorem mv_X6_clear : tk_MV M_X6_clear 0 := ⟨⟨tk_mem 285 (by decide +kernel) rfl, wn_X6, by decide, by decide, by decide +kernel⟩, tk_mem 283 (by decide +kernel) rfl, tk_mem 284 (by decide +kernel) rfl⟩
def M_X6_towns : tk_Md := (yX6_towns, cX6_towns, 4, (some .int), { frames := 7, cells := 0, slots := 0, locals := 152 })
theorem mv_X6_towns : tk_MV M_X6_towns 0 := ⟨⟨tk_mem 293 (by decide +kernel) rfl, wn_X6, by decide, by decide, by decide +kernel⟩, tk_mem 291 (by decide +kernel) rfl, tk_mem 292 (by decide +kernel) rfl⟩
def M_X6_kerb : tk_Md := (yX6_kerb, cX6_kerb, 3, (some .int), { frames := 3, cells := 0, slots := 0, locals := 65 })
theorem mv_X6_kerb : tk_MV M_X6_kerb 2 := ⟨⟨tk_mem 377 (by decide +kernel) rfl, wn_X6, by decide, by decide, by decide +kernel⟩, tk_mem 375 (by decide +kernel) rfl, tk_mem 376 (by decide +kernel) rfl⟩
def M_X6_thing : tk_Md := (yX6_thing, cX6_thing, 4, (some .int), { frames := 2, cells := 0, slots := 0, locals := 40 })
theorem mv_X6_thing : tk_MV M_X6_thing 2 := ⟨⟨tk_mem 397 (by decide +kernel) rfl, wn_X6, by decide, by decide, by decide +kernel⟩, tk_mem 395 (by decide +kernel) rfl, tk_mem 396 (by decide +kernel) rfl⟩
def M_X6_now : tk_Md := (yX6_now, cX6_now, 2, (some .int), { frames := 3, cells := 0, slots := 0, locals := 66 })
theorem mv_X6_now : tk_MV M_X6_now 1 := ⟨⟨tk_mem 409 (by decide +kernel) rfl, wn_X6, by decide, by decide, by decide +kernel⟩, tk_mem 407 (by decide +kernel) rfl, tk_mem 408 (by decide +kernel) rfl⟩
def M_X6_tides : tk_Md := (yX6_tides, cX6_tides, 4, (some .int), { frames := 4, cells := 0, slots := 0, locals := 90 })
theorem mv_X6_tides : tk_MV M_X6_tides 1 := ⟨⟨tk_mem 430 (by decide +kernel) rfl, wn_X6, by decide, by decide, by decide +kernel⟩, tk_mem 428 (by decide +kernel) rfl, tk_mem 429 (by decide +kernel) rfl⟩
def M_X6_ties : tk_Md := (yX6_ties, cX6_ties, 5, (some .int), { frames := 2, cells := 0, slots := 0, locals := 42 })
theorem mv_X6_ties : tk_MV M_X6_ties 2 := ⟨⟨tk_mem 457 (by decide +kernel) rfl, wn_X6, by decide, by decide, by decide +kernel⟩, tk_mem 455 (by decide +kernel) rfl, tk_mem 456 (by decide +kernel) rfl⟩
def M_X6_carries : tk_Md := (yX6_carries, cX6_carries, 5, (some .int), { frames := 2, cells := 0, slots := 0, locals := 43 })
theorem mv_X6_carries : tk_MV M_X6_carries 2 := ⟨⟨tk_mem 466 (by decide +kernel) rfl, wn_X6, by decide, by decide, by decide +kernel⟩, tk_mem 464 (by decide +kernel) rfl, tk_mem 465 (by decide +kernel) rfl⟩
def M_X6_undo : tk_Md := (yX6_undo, cX6_undo, 1, (some .int), { frames := 2, cells := 0, slots := 0, locals := 41 })
theorem mv_X6_undo : tk_MV M_X6_undo 0 := ⟨⟨tk_mem 474 (by decide +kernel) rfl, wn_X6, by decide, by decide, by decide +kernel⟩, tk_mem 472 (by decide +kernel) rfl, tk_mem 473 (by decide +kernel) rfl⟩
def M_X6_level : tk_Md := (yX6_level, cX6_level, 2, (some .int), { frames := 2, cells := 0, slots := 0, locals := 42 })
theorem mv_X6_level : tk_MV M_X6_level 1 := ⟨⟨tk_mem 489 (by decide +kernel) rfl, wn_X6, by decide, by decide, by decide +kernel⟩, tk_mem 487 (by decide +kernel) rfl, tk_mem 488 (by decide +kernel) rfl⟩
def M_X6_high : tk_Md := (yX6_high, cX6_high, 3, (some .int), { frames := 2, cells := 0, slots := 0, locals := 42 })
theorem mv_X6_high : tk_MV M_X6_high 1 := ⟨⟨tk_mem 493 (by decide +kernel) rfl, wn_X6, by decide, by decide, by decide +kernel⟩, tk_mem 491 (by decide +kernel) rfl, tk_mem 492 (by decide +kernel) rfl⟩
def M_X6_flood : tk_Md := (yX6_flood, cX6_flood, 2, (some .int), { frames := 3, cells := 0, slots := 0, locals := 66 })
theorem mv_X6_flood : tk_MV M_X6_flood 1 := ⟨⟨tk_mem 497 (by decide +kernel) rfl, wn_X6, by decide, by decide, by decide +kernel⟩, tk_mem 495 (by decide +kernel) rfl, tk_mem 496 (by decide +kernel) rfl⟩
def M_X6_where : tk_Md := (yX6_where, cX6_where, 4, (some .int), { frames := 3, cells := 0, slots := 0, locals := 66 })
theorem mv_X6_where : tk_MV M_X6_where 2 := ⟨⟨tk_mem 501 (by decide +kernel) rfl, wn_X6, by decide, by decide, by decide +kernel⟩, tk_mem 499 (by decide +kernel) rfl, tk_mem 500 (by decide +kernel) rfl⟩
def M_X6_firstTideOn : tk_Md := (yX6_firstTideOn, cX6_firstTideOn, 4, (some .int), { frames := 3, cells := 0, slots := 0, locals := 66 })
theorem mv_X6_firstTideOn : tk_MV M_X6_firstTideOn 2 := ⟨⟨tk_mem 514 (by decide +kernel) rfl, wn_X6, by decide, by decide, by decide +kernel⟩, tk_mem 513 (by decide +kernel) rfl, tk_mem 9 (by decide +kernel) rfl⟩
def M_X6_when : tk_Md := (yX6_when, cX6_when, 3, (some .int), { frames := 4, cells := 0, slots := 0, locals := 89 })
theorem mv_X6_when : tk_MV M_X6_when 2 := ⟨⟨tk_mem 510 (by decide +kernel) rfl, wn_X6, by decide, by decide, by decide +kernel⟩, tk_mem 508 (by decide +kernel) rfl, tk_mem 509 (by decide +kernel) rfl⟩
def M_X6_send : tk_Md := (yX6_send, cX6_send, 9, (some .int), { frames := 4, cells := 0, slots := 0, locals := 89 })
theorem mv_X6_send : tk_MV M_X6_send 3 := ⟨⟨tk_mem 519 (by decide +kernel) rfl, wn_X6, by decide, by decide, by decide +kernel⟩, tk_mem 517 (by decide +kernel) rfl, tk_mem 518 (by decide +kernel) rfl⟩
def M_X6_meet : tk_Md := (yX6_meet, cX6_meet, 5, (some .int), { frames := 3, cells := 0, slots := 0, locals := 66 })
theorem mv_X6_meet : tk_MV M_X6_meet 2 := ⟨⟨tk_mem 524 (by decide +kernel) rfl, wn_X6, by decide, by decide, by decide +kernel⟩, tk_mem 522 (by decide +kernel) rfl, tk_mem 523 (by decide +kernel) rfl⟩
def M_X6_round : tk_Md := (yX6_round, cX6_round, 4, (some .int), { frames := 3, cells := 0, slots := 0, locals := 66 })
theorem mv_X6_round : tk_MV M_X6_round 1 := ⟨⟨tk_mem 528 (by decide +kernel) rfl, wn_X6, by decide, by decide, by decide +kernel⟩, tk_mem 526 (by decide +kernel) rfl, tk_mem 527 (by decide +kernel) rfl⟩
def M_X6_commonDivisor : tk_Md := (yX6_commonDivisor, cX6_commonDivisor, 6, (some .int), { frames := 1, cells := 0, slots := 0, locals := 21 })
theorem mv_X6_commonDivisor : tk_MS M_X6_commonDivisor 2 := ⟨⟨tk_mem 553 (by decide +kernel) rfl, wn_X6, by decide, by decide, by decide +kernel⟩, tk_mem 552 (by decide +kernel) rfl⟩
def M_X6_passSomeWeak : tk_Md := (yX6_passSomeWeak, cX6_passSomeWeak, 6, none, { frames := 3, cells := 0, slots := 0, locals := 66 })
theorem mv_X6_passSomeWeak : tk_MV M_X6_passSomeWeak 3 := ⟨⟨tk_mem 541 (by decide +kernel) rfl, wn_X6, by decide, by decide, by decide +kernel⟩, tk_mem 540 (by decide +kernel) rfl, tk_mem 10 (by decide +kernel) rfl⟩
def M_X6_power : tk_Md := (yX6_power, cX6_power, 4, (some .int), { frames := 0, cells := 0, slots := 0, locals := 0 })
theorem mv_X6_power : tk_MS M_X6_power 2 := ⟨⟨tk_mem 550 (by decide +kernel) rfl, wn_X6, by decide, by decide, by decide +kernel⟩, tk_mem 549 (by decide +kernel) rfl⟩
def M_J6_bitCount_0f7a4 : tk_Md := (yJ6_bitCount_0f7a4, cJ6_bitCount_0f7a4, 1, (some .int), { frames := 0, cells := 0, slots := 0, locals := 0 })
theorem mv_J6_bitCount_0f7a4 : tk_MS M_J6_bitCount_0f7a4 1 := ⟨⟨tk_mem 544 (by decide +kernel) rfl, wn_J6, by decide, by decide, by decide +kernel⟩, tk_mem 543 (by decide +kernel) rfl⟩
def M_X6_odds : tk_Md := (yX6_odds, cX6_odds, 9, (some .int), { frames := 4, cells := 0, slots := 0, locals := 91 })
theorem mv_X6_odds : tk_MV M_X6_odds 5 := ⟨⟨tk_mem 537 (by decide +kernel) rfl, wn_X6, by decide, by decide, by decide +kernel⟩, tk_mem 535 (by decide +kernel) rfl, tk_mem 536 (by decide +kernel) rfl⟩
def M_X6_found : tk_Md := (yX6_found, cX6_found, 3, (some .int), { frames := 1, cells := 0, slots := 0, locals := 22 })
theorem mv_X6_found : tk_MV M_X6_found 2 := ⟨⟨tk_mem 558 (by decide +kernel) rfl, wn_X6, by decide, by decide, by decide +kernel⟩, tk_mem 556 (by decide +kernel) rfl, tk_mem 557 (by decide +kernel) rfl⟩
def M_X6_canHaveBegunOn : tk_Md := (yX6_canHaveBegunOn, cX6_canHaveBegunOn, 4, (some .boolean), { frames := 3, cells := 0, slots := 0, locals := 66 })
theorem mv_X6_canHaveBegunOn : tk_MV M_X6_canHaveBegunOn 1 := ⟨⟨tk_mem 570 (by decide +kernel) rfl, wn_X6, by decide, by decide, by decide +kernel⟩, tk_mem 569 (by decide +kernel) rfl, tk_mem 11 (by decide +kernel) rfl⟩
def M_X6_began : tk_Md := (yX6_began, cX6_began, 3, (some .int), { frames := 4, cells := 0, slots := 0, locals := 89 })
theorem mv_X6_began : tk_MV M_X6_began 0 := ⟨⟨tk_mem 566 (by decide +kernel) rfl, wn_X6, by decide, by decide, by decide +kernel⟩, tk_mem 564 (by decide +kernel) rfl, tk_mem 565 (by decide +kernel) rfl⟩
def M_X6_saw : tk_Md := (yX6_saw, cX6_saw, 3, (some .int), { frames := 1, cells := 0, slots := 0, locals := 22 })
theorem mv_X6_saw : tk_MV M_X6_saw 2 := ⟨⟨tk_mem 574 (by decide +kernel) rfl, wn_X6, by decide, by decide, by decide +kernel⟩, tk_mem 572 (by decide +kernel) rfl, tk_mem 573 (by decide +kernel) rfl⟩
def M_X6_isLaw : tk_Md := (yX6_isLaw, cX6_isLaw, 4, (some .boolean), { frames := 1, cells := 0, slots := 0, locals := 21 })
theorem mv_X6_isLaw : tk_MV M_X6_isLaw 2 := ⟨⟨tk_mem 582 (by decide +kernel) rfl, wn_X6, by decide, by decide, by decide +kernel⟩, tk_mem 581 (by decide +kernel) rfl, tk_mem 12 (by decide +kernel) rfl⟩
def M_X6_laws : tk_Md := (yX6_laws, cX6_laws, 6, (some .int), { frames := 2, cells := 0, slots := 0, locals := 44 })
theorem mv_X6_laws : tk_MV M_X6_laws 1 := ⟨⟨tk_mem 578 (by decide +kernel) rfl, wn_X6, by decide, by decide, by decide +kernel⟩, tk_mem 576 (by decide +kernel) rfl, tk_mem 577 (by decide +kernel) rfl⟩
def M_X6_forget : tk_Md := (yX6_forget, cX6_forget, 1, (some .int), { frames := 1, cells := 0, slots := 0, locals := 21 })
theorem mv_X6_forget : tk_MV M_X6_forget 0 := ⟨⟨tk_mem 586 (by decide +kernel) rfl, wn_X6, by decide, by decide, by decide +kernel⟩, tk_mem 584 (by decide +kernel) rfl, tk_mem 585 (by decide +kernel) rfl⟩
def M_X6_rateAsKerb : tk_Md := (yX6_rateAsKerb, cX6_rateAsKerb, 2, (some .int), { frames := 0, cells := 0, slots := 0, locals := 0 })
theorem mv_X6_rateAsKerb : tk_MV M_X6_rateAsKerb 1 := ⟨⟨tk_mem 595 (by decide +kernel) rfl, wn_X6, by decide, by decide, by decide +kernel⟩, tk_mem 594 (by decide +kernel) rfl, tk_mem 13 (by decide +kernel) rfl⟩
def M_X6_rateAsBank : tk_Md := (yX6_rateAsBank, cX6_rateAsBank, 2, (some .int), { frames := 3, cells := 0, slots := 0, locals := 65 })
theorem mv_X6_rateAsBank : tk_MV M_X6_rateAsBank 1 := ⟨⟨tk_mem 599 (by decide +kernel) rfl, wn_X6, by decide, by decide, by decide +kernel⟩, tk_mem 598 (by decide +kernel) rfl, tk_mem 14 (by decide +kernel) rfl⟩
def M_X6_rateAsSteps : tk_Md := (yX6_rateAsSteps, cX6_rateAsSteps, 2, (some .int), { frames := 2, cells := 0, slots := 0, locals := 42 })
theorem mv_X6_rateAsSteps : tk_MV M_X6_rateAsSteps 1 := ⟨⟨tk_mem 604 (by decide +kernel) rfl, wn_X6, by decide, by decide, by decide +kernel⟩, tk_mem 603 (by decide +kernel) rfl, tk_mem 15 (by decide +kernel) rfl⟩
def M_X6_rateAsButcher : tk_Md := (yX6_rateAsButcher, cX6_rateAsButcher, 2, (some .int), { frames := 3, cells := 0, slots := 0, locals := 63 })
theorem mv_X6_rateAsButcher : tk_MV M_X6_rateAsButcher 1 := ⟨⟨tk_mem 614 (by decide +kernel) rfl, wn_X6, by decide, by decide, by decide +kernel⟩, tk_mem 613 (by decide +kernel) rfl, tk_mem 17 (by decide +kernel) rfl⟩
def M_X6_rateAsChurch : tk_Md := (yX6_rateAsChurch, cX6_rateAsChurch, 2, (some .int), { frames := 4, cells := 0, slots := 0, locals := 86 })
theorem mv_X6_rateAsChurch : tk_MV M_X6_rateAsChurch 1 := ⟨⟨tk_mem 609 (by decide +kernel) rfl, wn_X6, by decide, by decide, by decide +kernel⟩, tk_mem 608 (by decide +kernel) rfl, tk_mem 16 (by decide +kernel) rfl⟩
def M_X6_rateAsRing : tk_Md := (yX6_rateAsRing, cX6_rateAsRing, 2, (some .int), { frames := 1, cells := 0, slots := 0, locals := 21 })
theorem mv_X6_rateAsRing : tk_MV M_X6_rateAsRing 1 := ⟨⟨tk_mem 619 (by decide +kernel) rfl, wn_X6, by decide, by decide, by decide +kernel⟩, tk_mem 618 (by decide +kernel) rfl, tk_mem 18 (by decide +kernel) rfl⟩
def M_X6_rate : tk_Md := (yX6_rate, cX6_rate, 3, (some .int), { frames := 5, cells := 0, slots := 0, locals := 107 })
theorem mv_X6_rate : tk_MV M_X6_rate 2 := ⟨⟨tk_mem 590 (by decide +kernel) rfl, wn_X6, by decide, by decide, by decide +kernel⟩, tk_mem 588 (by decide +kernel) rfl, tk_mem 589 (by decide +kernel) rfl⟩
def M_X6_keep : tk_Md := (yX6_keep, cX6_keep, 2, (some .int), { frames := 1, cells := 0, slots := 0, locals := 23 })
theorem mv_X6_keep : tk_MV M_X6_keep 1 := ⟨⟨tk_mem 624 (by decide +kernel) rfl, wn_X6, by decide, by decide, by decide +kernel⟩, tk_mem 622 (by decide +kernel) rfl, tk_mem 623 (by decide +kernel) rfl⟩
def M_X6_back : tk_Md := (yX6_back, cX6_back, 2, (some .int), { frames := 1, cells := 0, slots := 0, locals := 23 })
theorem mv_X6_back : tk_MV M_X6_back 1 := ⟨⟨tk_mem 628 (by decide +kernel) rfl, wn_X6, by decide, by decide, by decide +kernel⟩, tk_mem 626 (by decide +kernel) rfl, tk_mem 627 (by decide +kernel) rfl⟩
def M_X6_count : tk_Md := (yX6_count, cX6_count, 2, (some .int), { frames := 0, cells := 0, slots := 0, locals := 0 })
theorem mv_X6_count : tk_MV M_X6_count 1 := ⟨⟨tk_mem 632 (by decide +kernel) rfl, wn_X6, by decide, by decide, by decide +kernel⟩, tk_mem 630 (by decide +kernel) rfl, tk_mem 631 (by decide +kernel) rfl⟩
def M_X6_trace : tk_Md := (yX6_trace, cX6_trace, 1, (some .long), { frames := 0, cells := 0, slots := 0, locals := 0 })
theorem mv_X6_trace : tk_MV M_X6_trace 0 := ⟨⟨tk_mem 636 (by decide +kernel) rfl, wn_X6, by decide, by decide, by decide +kernel⟩, tk_mem 634 (by decide +kernel) rfl, tk_mem 635 (by decide +kernel) rfl⟩
def M_X7_begins : tk_Md := (yX7_begins, cX7_begins, 1, none, { frames := 0, cells := 0, slots := 0, locals := 0 })
theorem mv_X7_begins : tk_MV M_X7_begins 0 := ⟨⟨tk_mem 646 (by decide +kernel) rfl, wn_X7, by decide, by decide, by decide +kernel⟩, tk_mem 645 (by decide +kernel) rfl, tk_mem 19 (by decide +kernel) rfl⟩
def M_X7_settles : tk_Md := (yX7_settles, cX7_settles, 2, none, { frames := 0, cells := 0, slots := 0, locals := 0 })
theorem mv_X7_settles : tk_MV M_X7_settles 0 := ⟨⟨tk_mem 650 (by decide +kernel) rfl, wn_X7, by decide, by decide, by decide +kernel⟩, tk_mem 649 (by decide +kernel) rfl, tk_mem 20 (by decide +kernel) rfl⟩
def M_X7_init : tk_Md := (yX7_init, cX7_init, 1, none, { frames := 1, cells := 15, slots := 424, locals := 21 })
theorem mv_X7_init : tk_MI M_X7_init 0 := ⟨⟨tk_mem 641 (by decide +kernel) rfl, wn_X7, by decide, by decide, by decide +kernel⟩, tk_mem 640 (by decide +kernel) rfl, rfl, rfl⟩
def M_X7_in : tk_Md := (yX7_in, cX7_in, 3, (some .boolean), { frames := 0, cells := 0, slots := 0, locals := 0 })
theorem mv_X7_in : tk_MS M_X7_in 3 := ⟨⟨tk_mem 745 (by decide +kernel) rfl, wn_X7, by decide, by decide, by decide +kernel⟩, tk_mem 744 (by decide +kernel) rfl⟩
def M_X7_ones : tk_Md := (yX7_ones, cX7_ones, 3, (some .int), { frames := 0, cells := 0, slots := 0, locals := 0 })
theorem mv_X7_ones : tk_MS M_X7_ones 1 := ⟨⟨tk_mem 841 (by decide +kernel) rfl, wn_X7, by decide, by decide, by decide +kernel⟩, tk_mem 840 (by decide +kernel) rfl⟩
def M_X7_type : tk_Md := (yX7_type, cX7_type, 2, (some .int), { frames := 1, cells := 0, slots := 0, locals := 22 })
theorem mv_X7_type : tk_MV M_X7_type 1 := ⟨⟨tk_mem 742 (by decide +kernel) rfl, wn_X7, by decide, by decide, by decide +kernel⟩, tk_mem 740 (by decide +kernel) rfl, tk_mem 741 (by decide +kernel) rfl⟩
def M_X7_clear : tk_Md := (yX7_clear, cX7_clear, 2, (some .int), { frames := 0, cells := 0, slots := 0, locals := 0 })
theorem mv_X7_clear : tk_MV M_X7_clear 0 := ⟨⟨tk_mem 749 (by decide +kernel) rfl, wn_X7, by decide, by decide, by decide +kernel⟩, tk_mem 747 (by decide +kernel) rfl, tk_mem 748 (by decide +kernel) rfl⟩
def M_X7_letterAt : tk_Md := (yX7_letterAt, cX7_letterAt, 2, (some .int), { frames := 0, cells := 0, slots := 0, locals := 0 })
theorem mv_X7_letterAt : tk_MV M_X7_letterAt 1 := ⟨⟨tk_mem 761 (by decide +kernel) rfl, wn_X7, by decide, by decide, by decide +kernel⟩, tk_mem 760 (by decide +kernel) rfl, tk_mem 22 (by decide +kernel) rfl⟩
def M_X7_advances : tk_Md := (yX7_advances, cX7_advances, 2, none, { frames := 1, cells := 0, slots := 0, locals := 22 })
theorem mv_X7_advances : tk_MV M_X7_advances 0 := ⟨⟨tk_mem 757 (by decide +kernel) rfl, wn_X7, by decide, by decide, by decide +kernel⟩, tk_mem 756 (by decide +kernel) rfl, tk_mem 21 (by decide +kernel) rfl⟩
def M_X7_isWell : tk_Md := (yX7_isWell, cX7_isWell, 1, (some .boolean), { frames := 0, cells := 0, slots := 0, locals := 0 })
theorem mv_X7_isWell : tk_MV M_X7_isWell 0 := ⟨⟨tk_mem 765 (by decide +kernel) rfl, wn_X7, by decide, by decide, by decide +kernel⟩, tk_mem 764 (by decide +kernel) rfl, tk_mem 23 (by decide +kernel) rfl⟩
def M_X7_takes : tk_Md := (yX7_takes, cX7_takes, 3, (some .int), { frames := 2, cells := 0, slots := 0, locals := 43 })
theorem mv_X7_takes : tk_MV M_X7_takes 1 := ⟨⟨tk_mem 773 (by decide +kernel) rfl, wn_X7, by decide, by decide, by decide +kernel⟩, tk_mem 772 (by decide +kernel) rfl, tk_mem 25 (by decide +kernel) rfl⟩
def M_X7_number : tk_Md := (yX7_number, cX7_number, 3, (some .int), { frames := 3, cells := 0, slots := 0, locals := 65 })
theorem mv_X7_number : tk_MV M_X7_number 2 := ⟨⟨tk_mem 781 (by decide +kernel) rfl, wn_X7, by decide, by decide, by decide +kernel⟩, tk_mem 780 (by decide +kernel) rfl, tk_mem 27 (by decide +kernel) rfl⟩
def M_X7_mayBegin : tk_Md := (yX7_mayBegin, cX7_mayBegin, 1, (some .boolean), { frames := 0, cells := 0, slots := 0, locals := 0 })
theorem mv_X7_mayBegin : tk_MV M_X7_mayBegin 0 := ⟨⟨tk_mem 769 (by decide +kernel) rfl, wn_X7, by decide, by decide, by decide +kernel⟩, tk_mem 768 (by decide +kernel) rfl, tk_mem 24 (by decide +kernel) rfl⟩
def M_X7_readsItem : tk_Md := (yX7_readsItem, cX7_readsItem, 6, none, { frames := 4, cells := 0, slots := 0, locals := 87 })
theorem mv_X7_readsItem : tk_MV M_X7_readsItem 1 := ⟨⟨tk_mem 777 (by decide +kernel) rfl, wn_X7, by decide, by decide, by decide +kernel⟩, tk_mem 776 (by decide +kernel) rfl, tk_mem 26 (by decide +kernel) rfl⟩
def M_X7_towns : tk_Md := (yX7_towns, cX7_towns, 3, (some .int), { frames := 5, cells := 0, slots := 0, locals := 112 })
theorem mv_X7_towns : tk_MV M_X7_towns 0 := ⟨⟨tk_mem 753 (by decide +kernel) rfl, wn_X7, by decide, by decide, by decide +kernel⟩, tk_mem 751 (by decide +kernel) rfl, tk_mem 752 (by decide +kernel) rfl⟩
def M_X7_isKerb : tk_Md := (yX7_isKerb, cX7_isKerb, 2, (some .boolean), { frames := 1, cells := 0, slots := 0, locals := 22 })
theorem mv_X7_isKerb : tk_MV M_X7_isKerb 1 := ⟨⟨tk_mem 789 (by decide +kernel) rfl, wn_X7, by decide, by decide, by decide +kernel⟩, tk_mem 788 (by decide +kernel) rfl, tk_mem 28 (by decide +kernel) rfl⟩
def M_X7_isThing : tk_Md := (yX7_isThing, cX7_isThing, 2, (some .boolean), { frames := 1, cells := 0, slots := 0, locals := 22 })
theorem mv_X7_isThing : tk_MV M_X7_isThing 1 := ⟨⟨tk_mem 801 (by decide +kernel) rfl, wn_X7, by decide, by decide, by decide +kernel⟩, tk_mem 800 (by decide +kernel) rfl, tk_mem 30 (by decide +kernel) rfl⟩
def M_X7_isTied : tk_Md := (yX7_isTied, cX7_isTied, 2, (some .boolean), { frames := 0, cells := 0, slots := 0, locals := 0 })
theorem mv_X7_isTied : tk_MV M_X7_isTied 1 := ⟨⟨tk_mem 829 (by decide +kernel) rfl, wn_X7, by decide, by decide, by decide +kernel⟩, tk_mem 828 (by decide +kernel) rfl, tk_mem 35 (by decide +kernel) rfl⟩
def M_X7_levelOf : tk_Md := (yX7_levelOf, cX7_levelOf, 2, (some .int), { frames := 0, cells := 0, slots := 0, locals := 0 })
theorem mv_X7_levelOf : tk_MV M_X7_levelOf 1 := ⟨⟨tk_mem 809 (by decide +kernel) rfl, wn_X7, by decide, by decide, by decide +kernel⟩, tk_mem 808 (by decide +kernel) rfl, tk_mem 31 (by decide +kernel) rfl⟩
def M_X7_floodIn : tk_Md := (yX7_floodIn, cX7_floodIn, 4, (some .int), { frames := 1, cells := 0, slots := 0, locals := 21 })
theorem mv_X7_floodIn : tk_MV M_X7_floodIn 1 := ⟨⟨tk_mem 813 (by decide +kernel) rfl, wn_X7, by decide, by decide, by decide +kernel⟩, tk_mem 812 (by decide +kernel) rfl, tk_mem 32 (by decide +kernel) rfl⟩
def M_X7_thingsOn : tk_Md := (yX7_thingsOn, cX7_thingsOn, 4, (some .int), { frames := 0, cells := 0, slots := 0, locals := 0 })
theorem mv_X7_thingsOn : tk_MV M_X7_thingsOn 1 := ⟨⟨tk_mem 793 (by decide +kernel) rfl, wn_X7, by decide, by decide, by decide +kernel⟩, tk_mem 792 (by decide +kernel) rfl, tk_mem 29 (by decide +kernel) rfl⟩
def M_X7_kerb : tk_Md := (yX7_kerb, cX7_kerb, 3, (some .int), { frames := 2, cells := 0, slots := 0, locals := 43 })
theorem mv_X7_kerb : tk_MV M_X7_kerb 2 := ⟨⟨tk_mem 785 (by decide +kernel) rfl, wn_X7, by decide, by decide, by decide +kernel⟩, tk_mem 783 (by decide +kernel) rfl, tk_mem 784 (by decide +kernel) rfl⟩
def M_X7_thing : tk_Md := (yX7_thing, cX7_thing, 3, (some .int), { frames := 2, cells := 0, slots := 0, locals := 43 })
theorem mv_X7_thing : tk_MV M_X7_thing 2 := ⟨⟨tk_mem 797 (by decide +kernel) rfl, wn_X7, by decide, by decide, by decide +kernel⟩, tk_mem 795 (by decide +kernel) rfl, tk_mem 796 (by decide +kernel) rfl⟩
def M_X7_now : tk_Md := (yX7_now, cX7_now, 2, (some .int), { frames := 2, cells := 0, slots := 0, locals := 44 })
theorem mv_X7_now : tk_MV M_X7_now 1 := ⟨⟨tk_mem 805 (by decide +kernel) rfl, wn_X7, by decide, by decide, by decide +kernel⟩, tk_mem 803 (by decide +kernel) rfl, tk_mem 804 (by decide +kernel) rfl⟩
def M_X7_notes : tk_Md := (yX7_notes, cX7_notes, 2, none, { frames := 0, cells := 0, slots := 0, locals := 0 })
theorem mv_X7_notes : tk_MV M_X7_notes 0 := ⟨⟨tk_mem 821 (by decide +kernel) rfl, wn_X7, by decide, by decide, by decide +kernel⟩, tk_mem 820 (by decide +kernel) rfl, tk_mem 33 (by decide +kernel) rfl⟩
def M_X7_goes : tk_Md := (yX7_goes, cX7_goes, 3, (some .boolean), { frames := 0, cells := 0, slots := 0, locals := 0 })
theorem mv_X7_goes : tk_MV M_X7_goes 1 := ⟨⟨tk_mem 833 (by decide +kernel) rfl, wn_X7, by decide, by decide, by decide +kernel⟩, tk_mem 832 (by decide +kernel) rfl, tk_mem 36 (by decide +kernel) rfl⟩
def M_X7_takesUp : tk_Md := (yX7_takesUp, cX7_takesUp, 2, none, { frames := 0, cells := 0, slots := 0, locals := 0 })
theorem mv_X7_takesUp : tk_MV M_X7_takesUp 1 := ⟨⟨tk_mem 825 (by decide +kernel) rfl, wn_X7, by decide, by decide, by decide +kernel⟩, tk_mem 824 (by decide +kernel) rfl, tk_mem 34 (by decide +kernel) rfl⟩
def M_X7_tides : tk_Md := (yX7_tides, cX7_tides, 5, (some .int), { frames := 1, cells := 0, slots := 0, locals := 22 })
theorem mv_X7_tides : tk_MV M_X7_tides 1 := ⟨⟨tk_mem 817 (by decide +kernel) rfl, wn_X7, by decide, by decide, by decide +kernel⟩, tk_mem 815 (by decide +kernel) rfl, tk_mem 816 (by decide +kernel) rfl⟩
def M_X7_ties : tk_Md := (yX7_ties, cX7_ties, 3, (some .int), { frames := 2, cells := 0, slots := 0, locals := 43 })
theorem mv_X7_ties : tk_MV M_X7_ties 2 := ⟨⟨tk_mem 838 (by decide +kernel) rfl, wn_X7, by decide, by decide, by decide +kernel⟩, tk_mem 836 (by decide +kernel) rfl, tk_mem 837 (by decide +kernel) rfl⟩
def M_X7_carries : tk_Md := (yX7_carries, cX7_carries, 4, (some .int), { frames := 2, cells := 0, slots := 0, locals := 43 })
theorem mv_X7_carries : tk_MV M_X7_carries 2 := ⟨⟨tk_mem 845 (by decide +kernel) rfl, wn_X7, by decide, by decide, by decide +kernel⟩, tk_mem 843 (by decide +kernel) rfl, tk_mem 844 (by decide +kernel) rfl⟩
def M_X7_undo : tk_Md := (yX7_undo, cX7_undo, 2, (some .int), { frames := 0, cells := 0, slots := 0, locals := 0 })
theorem mv_X7_undo : tk_MV M_X7_undo 0 := ⟨⟨tk_mem 849 (by decide +kernel) rfl, wn_X7, by decide, by decide, by decide +kernel⟩, tk_mem 847 (by decide +kernel) rfl, tk_mem 848 (by decide +kernel) rfl⟩
def M_X7_level : tk_Md := (yX7_level, cX7_level, 2, (some .int), { frames := 1, cells := 0, slots := 0, locals := 22 })
theorem mv_X7_level : tk_MV M_X7_level 1 := ⟨⟨tk_mem 853 (by decide +kernel) rfl, wn_X7, by decide, by decide, by decide +kernel⟩, tk_mem 851 (by decide +kernel) rfl, tk_mem 852 (by decide +kernel) rfl⟩
def M_X7_high : tk_Md := (yX7_high, cX7_high, 3, (some .int), { frames := 1, cells := 0, slots := 0, locals := 22 })
theorem mv_X7_high : tk_MV M_X7_high 1 := ⟨⟨tk_mem 857 (by decide +kernel) rfl, wn_X7, by decide, by decide, by decide +kernel⟩, tk_mem 855 (by decide +kernel) rfl, tk_mem 856 (by decide +kernel) rfl⟩
def M_X7_flood : tk_Md := (yX7_flood, cX7_flood, 2, (some .int), { frames := 2, cells := 0, slots := 0, locals := 44 })
theorem mv_X7_flood : tk_MV M_X7_flood 1 := ⟨⟨tk_mem 861 (by decide +kernel) rfl, wn_X7, by decide, by decide, by decide +kernel⟩, tk_mem 859 (by decide +kernel) rfl, tk_mem 860 (by decide +kernel) rfl⟩
def M_X7_where : tk_Md := (yX7_where, cX7_where, 4, (some .int), { frames := 2, cells := 0, slots := 0, locals := 43 })
theorem mv_X7_where : tk_MV M_X7_where 2 := ⟨⟨tk_mem 865 (by decide +kernel) rfl, wn_X7, by decide, by decide, by decide +kernel⟩, tk_mem 863 (by decide +kernel) rfl, tk_mem 864 (by decide +kernel) rfl⟩
def M_X7_soon : tk_Md := (yX7_soon, cX7_soon, 4, (some .int), { frames := 1, cells := 0, slots := 0, locals := 22 })
theorem mv_X7_soon : tk_MV M_X7_soon 2 := ⟨⟨tk_mem 873 (by decide +kernel) rfl, wn_X7, by decide, by decide, by decide +kernel⟩, tk_mem 872 (by decide +kernel) rfl, tk_mem 37 (by decide +kernel) rfl⟩
def M_X7_when : tk_Md := (yX7_when, cX7_when, 4, (some .int), { frames := 2, cells := 0, slots := 0, locals := 45 })
theorem mv_X7_when : tk_MV M_X7_when 2 := ⟨⟨tk_mem 869 (by decide +kernel) rfl, wn_X7, by decide, by decide, by decide +kernel⟩, tk_mem 867 (by decide +kernel) rfl, tk_mem 868 (by decide +kernel) rfl⟩
def M_X7_send : tk_Md := (yX7_send, cX7_send, 9, (some .int), { frames := 2, cells := 0, slots := 0, locals := 45 })
theorem mv_X7_send : tk_MV M_X7_send 3 := ⟨⟨tk_mem 877 (by decide +kernel) rfl, wn_X7, by decide, by decide, by decide +kernel⟩, tk_mem 875 (by decide +kernel) rfl, tk_mem 876 (by decide +kernel) rfl⟩
def M_X7_meet : tk_Md := (yX7_meet, cX7_meet, 8, (some .int), { frames := 2, cells := 0, slots := 0, locals := 43 })
theorem mv_X7_meet : tk_MV M_X7_meet 2 := ⟨⟨tk_mem 881 (by decide +kernel) rfl, wn_X7, by decide, by decide, by decide +kernel⟩, tk_mem 879 (by decide +kernel) rfl, tk_mem 880 (by decide +kernel) rfl⟩
def M_X7_round : tk_Md := (yX7_round, cX7_round, 6, (some .int), { frames := 2, cells := 0, slots := 0, locals := 43 })
theorem mv_X7_round : tk_MV M_X7_round 1 := ⟨⟨tk_mem 885 (by decide +kernel) rfl, wn_X7, by decide, by decide, by decide +kernel⟩, tk_mem 883 (by decide +kernel) rfl, tk_mem 884 (by decide +kernel) rfl⟩
def M_X7_gcd : tk_Md := (yX7_gcd, cX7_gcd, 5, (some .int), { frames := 0, cells := 0, slots := 0, locals := 0 })
theorem mv_X7_gcd : tk_MS M_X7_gcd 2 := ⟨⟨tk_mem 892 (by decide +kernel) rfl, wn_X7, by decide, by decide, by decide +kernel⟩, tk_mem 891 (by decide +kernel) rfl⟩
def M_X7_odds : tk_Md := (yX7_odds, cX7_odds, 12, (some .int), { frames := 2, cells := 0, slots := 0, locals := 43 })
theorem mv_X7_odds : tk_MV M_X7_odds 5 := ⟨⟨tk_mem 889 (by decide +kernel) rfl, wn_X7, by decide, by decide, by decide +kernel⟩, tk_mem 887 (by decide +kernel) rfl, tk_mem 888 (by decide +kernel) rfl⟩
def M_X7_found : tk_Md := (yX7_found, cX7_found, 3, (some .int), { frames := 2, cells := 0, slots := 0, locals := 43 })
theorem mv_X7_found : tk_MV M_X7_found 2 := ⟨⟨tk_mem 896 (by decide +kernel) rfl, wn_X7, by decide, by decide, by decide +kernel⟩, tk_mem 894 (by decide +kernel) rfl, tk_mem 895 (by decide +kernel) rfl⟩
def M_X7_canBegin : tk_Md := (yX7_canBegin, cX7_canBegin, 5, (some .boolean), { frames := 1, cells := 0, slots := 0, locals := 22 })
theorem mv_X7_canBegin : tk_MV M_X7_canBegin 1 := ⟨⟨tk_mem 904 (by decide +kernel) rfl, wn_X7, by decide, by decide, by decide +kernel⟩, tk_mem 903 (by decide +kernel) rfl, tk_mem 38 (by decide +kernel) rfl⟩
def M_X7_began : tk_Md := (yX7_began, cX7_began, 3, (some .int), { frames := 2, cells := 0, slots := 0, locals := 46 })
theorem mv_X7_began : tk_MV M_X7_began 0 := ⟨⟨tk_mem 900 (by decide +kernel) rfl, wn_X7, by decide, by decide, by decide +kernel⟩, tk_mem 898 (by decide +kernel) rfl, tk_mem 899 (by decide +kernel) rfl⟩
def M_X7_saw : tk_Md := (yX7_saw, cX7_saw, 3, (some .int), { frames := 1, cells := 0, slots := 0, locals := 22 })
theorem mv_X7_saw : tk_MV M_X7_saw 2 := ⟨⟨tk_mem 908 (by decide +kernel) rfl, wn_X7, by decide, by decide, by decide +kernel⟩, tk_mem 906 (by decide +kernel) rfl, tk_mem 907 (by decide +kernel) rfl⟩
def M_X7_laws : tk_Md := (yX7_laws, cX7_laws, 8, (some .int), { frames := 1, cells := 0, slots := 0, locals := 22 })
theorem mv_X7_laws : tk_MV M_X7_laws 1 := ⟨⟨tk_mem 912 (by decide +kernel) rfl, wn_X7, by decide, by decide, by decide +kernel⟩, tk_mem 910 (by decide +kernel) rfl, tk_mem 911 (by decide +kernel) rfl⟩
def M_X7_forget : tk_Md := (yX7_forget, cX7_forget, 2, (some .int), { frames := 0, cells := 0, slots := 0, locals := 0 })
theorem mv_X7_forget : tk_MV M_X7_forget 0 := ⟨⟨tk_mem 916 (by decide +kernel) rfl, wn_X7, by decide, by decide, by decide +kernel⟩, tk_mem 914 (by decide +kernel) rfl, tk_mem 915 (by decide +kernel) rfl⟩
def M_X7_rate : tk_Md := (yX7_rate, cX7_rate, 6, (some .int), { frames := 2, cells := 0, slots := 0, locals := 43 })
theorem mv_X7_rate : tk_MV M_X7_rate 2 := ⟨⟨tk_mem 920 (by decide +kernel) rfl, wn_X7, by decide, by decide, by decide +kernel⟩, tk_mem 918 (by decide +kernel) rfl, tk_mem 919 (by decide +kernel) rfl⟩
def M_X7_keep : tk_Md := (yX7_keep, cX7_keep, 3, (some .int), { frames := 1, cells := 0, slots := 0, locals := 22 })
theorem mv_X7_keep : tk_MV M_X7_keep 1 := ⟨⟨tk_mem 930 (by decide +kernel) rfl, wn_X7, by decide, by decide, by decide +kernel⟩, tk_mem 928 (by decide +kernel) rfl, tk_mem 929 (by decide +kernel) rfl⟩
def M_X7_back : tk_Md := (yX7_back, cX7_back, 3, (some .int), { frames := 1, cells := 0, slots := 0, locals := 22 })
theorem mv_X7_back : tk_MV M_X7_back 1 := ⟨⟨tk_mem 934 (by decide +kernel) rfl, wn_X7, by decide, by decide, by decide +kernel⟩, tk_mem 932 (by decide +kernel) rfl, tk_mem 933 (by decide +kernel) rfl⟩
def M_X7_count : tk_Md := (yX7_count, cX7_count, 2, (some .int), { frames := 1, cells := 0, slots := 0, locals := 22 })
theorem mv_X7_count : tk_MV M_X7_count 1 := ⟨⟨tk_mem 938 (by decide +kernel) rfl, wn_X7, by decide, by decide, by decide +kernel⟩, tk_mem 936 (by decide +kernel) rfl, tk_mem 937 (by decide +kernel) rfl⟩
def M_X7_trace : tk_Md := (yX7_trace, cX7_trace, 1, (some .long), { frames := 0, cells := 0, slots := 0, locals := 0 })
theorem mv_X7_trace : tk_MV M_X7_trace 0 := ⟨⟨tk_mem 942 (by decide +kernel) rfl, wn_X7, by decide, by decide, by decide +kernel⟩, tk_mem 940 (by decide +kernel) rfl, tk_mem 941 (by decide +kernel) rfl⟩
def M_L_law : tk_Md := (x, cL_law, 4, some .boolean, room_1)
end
section
theorem dX0_init_0 : decode cX0_init 0 = .ok (.aload_n 0, 1) := by decide +kernel
theorem dX0_init_1 : decode cX0_init 1 = .ok (.invokespecial 3, 3) := by decide +kernel
theorem dX0_init_4 : decode cX0_init 4 = .ok (.aload_n 0, 1) := by decide +kernel
theorem dX0_init_5 : decode cX0_init 5 = .ok (.bipush 6, 2) := by decide +kernel
theorem dX0_init_7 : decode cX0_init 7 = .ok (.newarray .int, 2) := by decide +kernel
theorem dX0_init_9 : decode cX0_init 9 = .ok (.putfield 9, 3) := by decide +kernel
theorem dX0_init_12 : decode cX0_init 12 = .ok (.aload_n 0, 1) := by decide +kernel
theorem dX0_init_13 : decode cX0_init 13 = .ok (.bipush 6, 2) := by decide +kernel
theorem dX0_init_15 : decode cX0_init 15 = .ok (.newarray .int, 2) := by decide +kernel
theorem dX0_init_17 : decode cX0_init 17 = .ok (.putfield 15, 3) := by decide +kernel
theorem dX0_init_20 : decode cX0_init 20 = .ok (.return_, 1) := by decide +kernel
def T_X0_init : tk_Tb := [(0, tk_al 0 1), (1, tk_oi 4), (4, tk_al 0 5), (5, tk_ic (6) 7), (7, tk_nwa 9 9 2 12), (9, tk_pR 0 0 12), (12, tk_al 0 13), (13, tk_ic (6) 15), (15, tk_nwa 9 17 2 12), (17, tk_pR 0 1 20), (20, tk_rV)]
set_option maxRecDepth 100000 in
theorem hT_X0_init (sc : Option (Nat × (Nat → Int32))) : ∀ x ∈ T_X0_init, tk_So sc M_X0_init x.1 x.2 := by
  unfold T_X0_init
  refine List.forall_mem_cons.mpr ⟨so_aload_n dX0_init_0 rfl rfl, ?_⟩
  refine List.forall_mem_cons.mpr ⟨so_oi dX0_init_1 wm_X0_3 wo_1 wo_2 (by decide) rfl, ?_⟩
  refine List.forall_mem_cons.mpr ⟨so_aload_n dX0_init_4 rfl rfl, ?_⟩
  refine List.forall_mem_cons.mpr ⟨so_bipush dX0_init_5 (by decide) rfl, ?_⟩
  refine List.forall_mem_cons.mpr ⟨so_nwI dX0_init_7 rfl wa_int rfl rfl rfl, ?_⟩
  refine List.forall_mem_cons.mpr ⟨so_pRF (ty := .array .int) (C := RX0) (T := TX0) (N := 3) dX0_init_9 (by decide) rfl rfl (by decide) rfl in_X0 wf_X0_9 tyX0 tyX0_ok nmX0 rfl rfl rfl (by decide +kernel) (fun _ => rfl) (fun _ => rfl) rfl, ?_⟩
  refine List.forall_mem_cons.mpr ⟨so_aload_n dX0_init_12 rfl rfl, ?_⟩
  refine List.forall_mem_cons.mpr ⟨so_bipush dX0_init_13 (by decide) rfl, ?_⟩
  refine List.forall_mem_cons.mpr ⟨so_nwI dX0_init_15 rfl wa_int rfl rfl rfl, ?_⟩
  refine List.forall_mem_cons.mpr ⟨so_pRF (ty := .array .int) (C := RX0) (T := TX0) (N := 3) dX0_init_17 (by decide) rfl rfl (by decide) rfl in_X0 wf_X0_15 tyX0 tyX0_ok nmX0 rfl rfl rfl (by decide +kernel) (fun _ => rfl) (fun _ => rfl) rfl, ?_⟩
  refine List.forall_mem_cons.mpr ⟨so_rV dX0_init_20 rfl, ?_⟩
  exact fun _ h => absurd h List.not_mem_nil
theorem dX0_add_0 : decode cX0_add 0 = .ok (.aload_n 0, 1) := by decide +kernel
theorem dX0_add_1 : decode cX0_add 1 = .ok (.getfield 18, 3) := by decide +kernel
theorem dX0_add_4 : decode cX0_add 4 = .ok (.bipush 6, 2) := by decide +kernel
theorem dX0_add_6 : decode cX0_add 6 = .ok (.if_icmp .lt 6, 3) := by decide +kernel
theorem dX0_add_9 : decode cX0_add 9 = .ok (.bipush (-3), 2) := by decide +kernel
theorem dX0_add_11 : decode cX0_add 11 = .ok (.ireturn, 1) := by decide +kernel
theorem dX0_add_12 : decode cX0_add 12 = .ok (.aload_n 0, 1) := by decide +kernel
theorem dX0_add_13 : decode cX0_add 13 = .ok (.getfield 9, 3) := by decide +kernel
theorem dX0_add_16 : decode cX0_add 16 = .ok (.aload_n 0, 1) := by decide +kernel
theorem dX0_add_17 : decode cX0_add 17 = .ok (.getfield 18, 3) := by decide +kernel
theorem dX0_add_20 : decode cX0_add 20 = .ok (.iload_n 1, 1) := by decide +kernel
theorem dX0_add_21 : decode cX0_add 21 = .ok (.iastore, 1) := by decide +kernel
theorem dX0_add_22 : decode cX0_add 22 = .ok (.aload_n 0, 1) := by decide +kernel
theorem dX0_add_23 : decode cX0_add 23 = .ok (.getfield 15, 3) := by decide +kernel
theorem dX0_add_26 : decode cX0_add 26 = .ok (.aload_n 0, 1) := by decide +kernel
theorem dX0_add_27 : decode cX0_add 27 = .ok (.getfield 18, 3) := by decide +kernel
theorem dX0_add_30 : decode cX0_add 30 = .ok (.iload_n 2, 1) := by decide +kernel
theorem dX0_add_31 : decode cX0_add 31 = .ok (.iastore, 1) := by decide +kernel
theorem dX0_add_32 : decode cX0_add 32 = .ok (.aload_n 0, 1) := by decide +kernel
theorem dX0_add_33 : decode cX0_add 33 = .ok (.dup, 1) := by decide +kernel
theorem dX0_add_34 : decode cX0_add 34 = .ok (.getfield 18, 3) := by decide +kernel
theorem dX0_add_37 : decode cX0_add 37 = .ok (.iconst 1, 1) := by decide +kernel
theorem dX0_add_38 : decode cX0_add 38 = .ok (.iadd, 1) := by decide +kernel
theorem dX0_add_39 : decode cX0_add 39 = .ok (.putfield 18, 3) := by decide +kernel
theorem dX0_add_42 : decode cX0_add 42 = .ok (.aload_n 0, 1) := by decide +kernel
theorem dX0_add_43 : decode cX0_add 43 = .ok (.getfield 18, 3) := by decide +kernel
theorem dX0_add_46 : decode cX0_add 46 = .ok (.ireturn, 1) := by decide +kernel
def T_X0_add : tk_Tb := [(0, tk_al 0 1), (1, tk_gI 0 2 4), (4, tk_ic (6) 6), (6, tk_cm (fun x y => x < y) 12 9), (9, tk_ic (-3) 11), (11, tk_rI), (12, tk_al 0 13), (13, tk_gR 0 0 16), (16, tk_al 0 17), (17, tk_gI 0 2 20), (20, tk_il 1 21), (21, tk_si 9 (fun x => x) 22), (22, tk_al 0 23), (23, tk_gR 0 1 26), (26, tk_al 0 27), (27, tk_gI 0 2 30), (30, tk_il 2 31), (31, tk_si 9 (fun x => x) 32), (32, tk_al 0 33), (33, tk_dup 34), (34, tk_gI 0 2 37), (37, tk_ic (1) 38), (38, tk_bi (fun x y => x + y) 39), (39, tk_pI 0 2 42), (42, tk_al 0 43), (43, tk_gI 0 2 46), (46, tk_rI)]
set_option maxRecDepth 100000 in
theorem hT_X0_add (sc : Option (Nat × (Nat → Int32))) : ∀ x ∈ T_X0_add, tk_So sc M_X0_add x.1 x.2 := by
  unfold T_X0_add
  refine List.forall_mem_cons.mpr ⟨so_aload_n dX0_add_0 rfl rfl, ?_⟩
  refine List.forall_mem_cons.mpr ⟨so_gI (C := RX0) (T := TX0) (N := 3) dX0_add_1 (by decide) rfl rfl (by decide) rfl in_X0 wf_X0_18 rfl, ?_⟩
  refine List.forall_mem_cons.mpr ⟨so_bipush dX0_add_4 (by decide) rfl, ?_⟩
  refine List.forall_mem_cons.mpr ⟨so_icmp_lt dX0_add_6 (by decide) rfl, ?_⟩
  refine List.forall_mem_cons.mpr ⟨so_bipush dX0_add_9 (by decide) rfl, ?_⟩
  refine List.forall_mem_cons.mpr ⟨so_rI dX0_add_11 rfl, ?_⟩
  refine List.forall_mem_cons.mpr ⟨so_aload_n dX0_add_12 rfl rfl, ?_⟩
  refine List.forall_mem_cons.mpr ⟨so_gR (C := RX0) (T := TX0) (N := 3) dX0_add_13 (by decide) rfl rfl (by decide) rfl in_X0 wf_X0_9 rfl, ?_⟩
  refine List.forall_mem_cons.mpr ⟨so_aload_n dX0_add_16 rfl rfl, ?_⟩
  refine List.forall_mem_cons.mpr ⟨so_gI (C := RX0) (T := TX0) (N := 3) dX0_add_17 (by decide) rfl rfl (by decide) rfl in_X0 wf_X0_18 rfl, ?_⟩
  refine List.forall_mem_cons.mpr ⟨so_iload_n dX0_add_20 rfl rfl, ?_⟩
  refine List.forall_mem_cons.mpr ⟨so_iastore dX0_add_21 rfl, ?_⟩
  refine List.forall_mem_cons.mpr ⟨so_aload_n dX0_add_22 rfl rfl, ?_⟩
  refine List.forall_mem_cons.mpr ⟨so_gR (C := RX0) (T := TX0) (N := 3) dX0_add_23 (by decide) rfl rfl (by decide) rfl in_X0 wf_X0_15 rfl, ?_⟩
  refine List.forall_mem_cons.mpr ⟨so_aload_n dX0_add_26 rfl rfl, ?_⟩
  refine List.forall_mem_cons.mpr ⟨so_gI (C := RX0) (T := TX0) (N := 3) dX0_add_27 (by decide) rfl rfl (by decide) rfl in_X0 wf_X0_18 rfl, ?_⟩
  refine List.forall_mem_cons.mpr ⟨so_iload_n dX0_add_30 rfl rfl, ?_⟩
  refine List.forall_mem_cons.mpr ⟨so_iastore dX0_add_31 rfl, ?_⟩
  refine List.forall_mem_cons.mpr ⟨so_aload_n dX0_add_32 rfl rfl, ?_⟩
  refine List.forall_mem_cons.mpr ⟨so_dup dX0_add_33 rfl, ?_⟩
  refine List.forall_mem_cons.mpr ⟨so_gI (C := RX0) (T := TX0) (N := 3) dX0_add_34 (by decide) rfl rfl (by decide) rfl in_X0 wf_X0_18 rfl, ?_⟩
  refine List.forall_mem_cons.mpr ⟨so_iconst dX0_add_37 (by decide) rfl, ?_⟩
  refine List.forall_mem_cons.mpr ⟨so_iadd dX0_add_38 rfl, ?_⟩
  refine List.forall_mem_cons.mpr ⟨so_pI (C := RX0) (T := TX0) (N := 3) dX0_add_39 (by decide) rfl rfl (by decide) rfl in_X0 wf_X0_18 tyX0 tyX0_ok nmX0 rfl (by decide +kernel) rfl, ?_⟩
  refine List.forall_mem_cons.mpr ⟨so_aload_n dX0_add_42 rfl rfl, ?_⟩
  refine List.forall_mem_cons.mpr ⟨so_gI (C := RX0) (T := TX0) (N := 3) dX0_add_43 (by decide) rfl rfl (by decide) rfl in_X0 wf_X0_18 rfl, ?_⟩
  refine List.forall_mem_cons.mpr ⟨so_rI dX0_add_46 rfl, ?_⟩
  exact fun _ h => absurd h List.not_mem_nil
theorem dX0_lose_0 : decode cX0_lose 0 = .ok (.aload_n 0, 1) := by decide +kernel
theorem dX0_lose_1 : decode cX0_lose 1 = .ok (.getfield 18, 3) := by decide +kernel
theorem dX0_lose_4 : decode cX0_lose 4 = .ok (.istore_n 1, 1) := by decide +kernel
theorem dX0_lose_5 : decode cX0_lose 5 = .ok (.aload_n 0, 1) := by decide +kernel
theorem dX0_lose_6 : decode cX0_lose 6 = .ok (.iconst 0, 1) := by decide +kernel
theorem dX0_lose_7 : decode cX0_lose 7 = .ok (.putfield 18, 3) := by decide +kernel
theorem dX0_lose_10 : decode cX0_lose 10 = .ok (.iload_n 1, 1) := by decide +kernel
theorem dX0_lose_11 : decode cX0_lose 11 = .ok (.ireturn, 1) := by decide +kernel
def T_X0_lose : tk_Tb := [(0, tk_al 0 1), (1, tk_gI 0 2 4), (4, tk_sI 1 5), (5, tk_al 0 6), (6, tk_ic (0) 7), (7, tk_pI 0 2 10), (10, tk_il 1 11), (11, tk_rI)]
set_option maxRecDepth 100000 in
theorem hT_X0_lose (sc : Option (Nat × (Nat → Int32))) : ∀ x ∈ T_X0_lose, tk_So sc M_X0_lose x.1 x.2 := by
  unfold T_X0_lose
  refine List.forall_mem_cons.mpr ⟨so_aload_n dX0_lose_0 rfl rfl, ?_⟩
  refine List.forall_mem_cons.mpr ⟨so_gI (C := RX0) (T := TX0) (N := 3) dX0_lose_1 (by decide) rfl rfl (by decide) rfl in_X0 wf_X0_18 rfl, ?_⟩
  refine List.forall_mem_cons.mpr ⟨so_istore_n dX0_lose_4 rfl rfl, ?_⟩
  refine List.forall_mem_cons.mpr ⟨so_aload_n dX0_lose_5 rfl rfl, ?_⟩
  refine List.forall_mem_cons.mpr ⟨so_iconst dX0_lose_6 (by decide) rfl, ?_⟩
  refine List.forall_mem_cons.mpr ⟨so_pI (C := RX0) (T := TX0) (N := 3) dX0_lose_7 (by decide) rfl rfl (by decide) rfl in_X0 wf_X0_18 tyX0 tyX0_ok nmX0 rfl (by decide +kernel) rfl, ?_⟩
  refine List.forall_mem_cons.mpr ⟨so_iload_n dX0_lose_10 rfl rfl, ?_⟩
  refine List.forall_mem_cons.mpr ⟨so_rI dX0_lose_11 rfl, ?_⟩
  exact fun _ h => absurd h List.not_mem_nil
theorem dX4_init_0 : decode cX4_init 0 = .ok (.aload_n 0, 1) := by decide +kernel
theorem dX4_init_1 : decode cX4_init 1 = .ok (.invokespecial 3, 3) := by decide +kernel
theorem dX4_init_4 : decode cX4_init 4 = .ok (.return_, 1) := by decide +kernel
def T_X4_init : tk_Tb := [(0, tk_al 0 1), (1, tk_oi 4), (4, tk_rV)]
set_option maxRecDepth 100000 in
theorem hT_X4_init (sc : Option (Nat × (Nat → Int32))) : ∀ x ∈ T_X4_init, tk_So sc M_X4_init x.1 x.2 := by
  unfold T_X4_init
  refine List.forall_mem_cons.mpr ⟨so_aload_n dX4_init_0 rfl rfl, ?_⟩
  refine List.forall_mem_cons.mpr ⟨so_oi dX4_init_1 wm_X4_3 wo_1 wo_2 (by decide) rfl, ?_⟩
  refine List.forall_mem_cons.mpr ⟨so_rV dX4_init_4 rfl, ?_⟩
  exact fun _ h => absurd h List.not_mem_nil
theorem dX1_init_0 : decode cX1_init 0 = .ok (.aload_n 0, 1) := by decide +kernel
theorem dX1_init_1 : decode cX1_init 1 = .ok (.invokespecial 3, 3) := by decide +kernel
theorem dX1_init_4 : decode cX1_init 4 = .ok (.aload_n 0, 1) := by decide +kernel
theorem dX1_init_5 : decode cX1_init 5 = .ok (.iconst 5, 1) := by decide +kernel
theorem dX1_init_6 : decode cX1_init 6 = .ok (.anewarray 9, 3) := by decide +kernel
theorem dX1_init_9 : decode cX1_init 9 = .ok (.putfield 11, 3) := by decide +kernel
theorem dX1_init_12 : decode cX1_init 12 = .ok (.iconst 0, 1) := by decide +kernel
theorem dX1_init_13 : decode cX1_init 13 = .ok (.istore_n 1, 1) := by decide +kernel
theorem dX1_init_14 : decode cX1_init 14 = .ok (.iload_n 1, 1) := by decide +kernel
theorem dX1_init_15 : decode cX1_init 15 = .ok (.iconst 5, 1) := by decide +kernel
theorem dX1_init_16 : decode cX1_init 16 = .ok (.if_icmp .ge 22, 3) := by decide +kernel
theorem dX1_init_19 : decode cX1_init 19 = .ok (.aload_n 0, 1) := by decide +kernel
theorem dX1_init_20 : decode cX1_init 20 = .ok (.getfield 11, 3) := by decide +kernel
theorem dX1_init_23 : decode cX1_init 23 = .ok (.iload_n 1, 1) := by decide +kernel
theorem dX1_init_24 : decode cX1_init 24 = .ok (.new 9, 3) := by decide +kernel
theorem dX1_init_27 : decode cX1_init 27 = .ok (.dup, 1) := by decide +kernel
theorem dX1_init_28 : decode cX1_init 28 = .ok (.invokespecial 17, 3) := by decide +kernel
theorem dX1_init_31 : decode cX1_init 31 = .ok (.aastore, 1) := by decide +kernel
theorem dX1_init_32 : decode cX1_init 32 = .ok (.iinc 1 1, 3) := by decide +kernel
theorem dX1_init_35 : decode cX1_init 35 = .ok (.goto (-21), 3) := by decide +kernel
theorem dX1_init_38 : decode cX1_init 38 = .ok (.return_, 1) := by decide +kernel
def T_X1_init : tk_Tb := [(0, tk_al 0 1), (1, tk_oi 4), (4, tk_al 0 5), (5, tk_ic (5) 6), (6, tk_nwa 11 9 6 20), (9, tk_pR 1 2 12), (12, tk_ic (0) 13), (13, tk_sI 1 14), (14, tk_il 1 15), (15, tk_ic (5) 16), (16, tk_cm (fun x y => y ≤ x) 38 19), (19, tk_al 0 20), (20, tk_gR 1 2 23), (23, tk_il 1 24), (24, tk_new 4 27 6 20), (27, tk_dup 28), (28, tk_ci M_X4_init 0 31 6 20), (31, tk_sq 11 4 32), (32, tk_inc 1 (1) 35), (35, tk_jmp 14), (38, tk_rV)]
set_option maxRecDepth 100000 in
theorem hT_X1_init (sc : Option (Nat × (Nat → Int32))) : ∀ x ∈ T_X1_init, tk_So sc M_X1_init x.1 x.2 := by
  unfold T_X1_init
  refine List.forall_mem_cons.mpr ⟨so_aload_n dX1_init_0 rfl rfl, ?_⟩
  refine List.forall_mem_cons.mpr ⟨so_oi dX1_init_1 wm_X1_3 wo_1 wo_2 (by decide) rfl, ?_⟩
  refine List.forall_mem_cons.mpr ⟨so_aload_n dX1_init_4 rfl rfl, ?_⟩
  refine List.forall_mem_cons.mpr ⟨so_iconst dX1_init_5 (by decide) rfl, ?_⟩
  refine List.forall_mem_cons.mpr ⟨so_nwT dX1_init_6 wk_X1_9 rfl rfl rfl, ?_⟩
  refine List.forall_mem_cons.mpr ⟨so_pRF (ty := .array (.object "TwoKerbs$Thing")) (C := RX1) (T := TX1) (N := 3) dX1_init_9 (by decide) rfl rfl (by decide) rfl in_X1 wf_X1_11 tyX1 tyX1_ok nmX1 rfl rfl rfl (by decide +kernel) (fun _ => rfl) (fun _ => rfl) rfl, ?_⟩
  refine List.forall_mem_cons.mpr ⟨so_iconst dX1_init_12 (by decide) rfl, ?_⟩
  refine List.forall_mem_cons.mpr ⟨so_istore_n dX1_init_13 rfl rfl, ?_⟩
  refine List.forall_mem_cons.mpr ⟨so_iload_n dX1_init_14 rfl rfl, ?_⟩
  refine List.forall_mem_cons.mpr ⟨so_iconst dX1_init_15 (by decide) rfl, ?_⟩
  refine List.forall_mem_cons.mpr ⟨so_icmp_ge dX1_init_16 (by decide) rfl, ?_⟩
  refine List.forall_mem_cons.mpr ⟨so_aload_n dX1_init_19 rfl rfl, ?_⟩
  refine List.forall_mem_cons.mpr ⟨so_gR (C := RX1) (T := TX1) (N := 3) dX1_init_20 (by decide) rfl rfl (by decide) rfl in_X1 wf_X1_11 rfl, ?_⟩
  refine List.forall_mem_cons.mpr ⟨so_iload_n dX1_init_23 rfl rfl, ?_⟩
  refine List.forall_mem_cons.mpr ⟨so_new (C := RX4) (T := TX4) (N := 3) dX1_init_24 (by decide) rfl rfl in_X4 tyX4 tyX4_ok wk_X1_9 wi_X4 wn_X4 (by decide +kernel) rfl rfl rfl, ?_⟩
  refine List.forall_mem_cons.mpr ⟨so_dup dX1_init_27 rfl, ?_⟩
  refine List.forall_mem_cons.mpr ⟨so_ciN dX1_init_28 mv_X4_init wm_X1_17 rfl rfl (by decide) rfl, ?_⟩
  refine List.forall_mem_cons.mpr ⟨so_aas (t0 := 0) dX1_init_31 rfl, ?_⟩
  refine List.forall_mem_cons.mpr ⟨so_iinc dX1_init_32 (by decide) rfl, ?_⟩
  refine List.forall_mem_cons.mpr ⟨so_goto dX1_init_35 (by decide), ?_⟩
  refine List.forall_mem_cons.mpr ⟨so_rV dX1_init_38 rfl, ?_⟩
  exact fun _ h => absurd h List.not_mem_nil
theorem dX4_lieOn_0 : decode cX4_lieOn 0 = .ok (.aload_n 0, 1) := by decide +kernel
theorem dX4_lieOn_1 : decode cX4_lieOn 1 = .ok (.iload_n 1, 1) := by decide +kernel
theorem dX4_lieOn_2 : decode cX4_lieOn 2 = .ok (.putfield 9, 3) := by decide +kernel
theorem dX4_lieOn_5 : decode cX4_lieOn 5 = .ok (.aload_n 0, 1) := by decide +kernel
theorem dX4_lieOn_6 : decode cX4_lieOn 6 = .ok (.iconst 0, 1) := by decide +kernel
theorem dX4_lieOn_7 : decode cX4_lieOn 7 = .ok (.putfield 15, 3) := by decide +kernel
theorem dX4_lieOn_10 : decode cX4_lieOn 10 = .ok (.aload_n 0, 1) := by decide +kernel
theorem dX4_lieOn_11 : decode cX4_lieOn 11 = .ok (.iconst 0, 1) := by decide +kernel
theorem dX4_lieOn_12 : decode cX4_lieOn 12 = .ok (.putfield 18, 3) := by decide +kernel
theorem dX4_lieOn_15 : decode cX4_lieOn 15 = .ok (.return_, 1) := by decide +kernel
def T_X4_lieOn : tk_Tb := [(0, tk_al 0 1), (1, tk_il 1 2), (2, tk_pI 4 0 5), (5, tk_al 0 6), (6, tk_ic (0) 7), (7, tk_pI 4 1 10), (10, tk_al 0 11), (11, tk_ic (0) 12), (12, tk_pZ 4 2 15), (15, tk_rV)]
set_option maxRecDepth 100000 in
theorem hT_X4_lieOn (sc : Option (Nat × (Nat → Int32))) : ∀ x ∈ T_X4_lieOn, tk_So sc M_X4_lieOn x.1 x.2 := by
  unfold T_X4_lieOn
  refine List.forall_mem_cons.mpr ⟨so_aload_n dX4_lieOn_0 rfl rfl, ?_⟩
  refine List.forall_mem_cons.mpr ⟨so_iload_n dX4_lieOn_1 rfl rfl, ?_⟩
  refine List.forall_mem_cons.mpr ⟨so_pI (C := RX4) (T := TX4) (N := 3) dX4_lieOn_2 (by decide) rfl rfl (by decide) rfl in_X4 wf_X4_9 tyX4 tyX4_ok nmX4 rfl (by decide +kernel) rfl, ?_⟩
  refine List.forall_mem_cons.mpr ⟨so_aload_n dX4_lieOn_5 rfl rfl, ?_⟩
  refine List.forall_mem_cons.mpr ⟨so_iconst dX4_lieOn_6 (by decide) rfl, ?_⟩
  refine List.forall_mem_cons.mpr ⟨so_pI (C := RX4) (T := TX4) (N := 3) dX4_lieOn_7 (by decide) rfl rfl (by decide) rfl in_X4 wf_X4_15 tyX4 tyX4_ok nmX4 rfl (by decide +kernel) rfl, ?_⟩
  refine List.forall_mem_cons.mpr ⟨so_aload_n dX4_lieOn_10 rfl rfl, ?_⟩
  refine List.forall_mem_cons.mpr ⟨so_iconst dX4_lieOn_11 (by decide) rfl, ?_⟩
  refine List.forall_mem_cons.mpr ⟨so_pZ (C := RX4) (T := TX4) (N := 3) dX4_lieOn_12 (by decide) rfl rfl (by decide) rfl in_X4 wf_X4_18 tyX4 tyX4_ok nmX4 rfl (by decide +kernel) rfl, ?_⟩
  refine List.forall_mem_cons.mpr ⟨so_rV dX4_lieOn_15 rfl, ?_⟩
  exact fun _ h => absurd h List.not_mem_nil
theorem dX1_begin_0 : decode cX1_begin 0 = .ok (.aload_n 0, 1) := by decide +kernel
theorem dX1_begin_1 : decode cX1_begin 1 = .ok (.iconst 0, 1) := by decide +kernel
theorem dX1_begin_2 : decode cX1_begin 2 = .ok (.putfield 18, 3) := by decide +kernel
theorem dX1_begin_5 : decode cX1_begin 5 = .ok (.aload_n 0, 1) := by decide +kernel
theorem dX1_begin_6 : decode cX1_begin 6 = .ok (.iconst 0, 1) := by decide +kernel
theorem dX1_begin_7 : decode cX1_begin 7 = .ok (.putfield 22, 3) := by decide +kernel
theorem dX1_begin_10 : decode cX1_begin 10 = .ok (.iconst 0, 1) := by decide +kernel
theorem dX1_begin_11 : decode cX1_begin 11 = .ok (.istore_n 2, 1) := by decide +kernel
theorem dX1_begin_12 : decode cX1_begin 12 = .ok (.iload_n 2, 1) := by decide +kernel
theorem dX1_begin_13 : decode cX1_begin 13 = .ok (.aload_n 1, 1) := by decide +kernel
theorem dX1_begin_14 : decode cX1_begin 14 = .ok (.getfield 25, 3) := by decide +kernel
theorem dX1_begin_17 : decode cX1_begin 17 = .ok (.if_icmp .ge 24, 3) := by decide +kernel
theorem dX1_begin_20 : decode cX1_begin 20 = .ok (.aload_n 0, 1) := by decide +kernel
theorem dX1_begin_21 : decode cX1_begin 21 = .ok (.getfield 11, 3) := by decide +kernel
theorem dX1_begin_24 : decode cX1_begin 24 = .ok (.iload_n 2, 1) := by decide +kernel
theorem dX1_begin_25 : decode cX1_begin 25 = .ok (.aaload, 1) := by decide +kernel
theorem dX1_begin_26 : decode cX1_begin 26 = .ok (.aload_n 1, 1) := by decide +kernel
theorem dX1_begin_27 : decode cX1_begin 27 = .ok (.getfield 29, 3) := by decide +kernel
theorem dX1_begin_30 : decode cX1_begin 30 = .ok (.iload_n 2, 1) := by decide +kernel
theorem dX1_begin_31 : decode cX1_begin 31 = .ok (.iaload, 1) := by decide +kernel
theorem dX1_begin_32 : decode cX1_begin 32 = .ok (.invokevirtual 33, 3) := by decide +kernel
theorem dX1_begin_35 : decode cX1_begin 35 = .ok (.iinc 2 1, 3) := by decide +kernel
theorem dX1_begin_38 : decode cX1_begin 38 = .ok (.goto (-26), 3) := by decide +kernel
theorem dX1_begin_41 : decode cX1_begin 41 = .ok (.return_, 1) := by decide +kernel
def T_X1_begin : tk_Tb := [(0, tk_al 0 1), (1, tk_ic (0) 2), (2, tk_pI 1 0 5), (5, tk_al 0 6), (6, tk_ic (0) 7), (7, tk_pI 1 1 10), (10, tk_ic (0) 11), (11, tk_sI 2 12), (12, tk_il 2 13), (13, tk_al 1 14), (14, tk_gI 5 4 17), (17, tk_cm (fun x y => y ≤ x) 41 20), (20, tk_al 0 21), (21, tk_gR 1 2 24), (24, tk_il 2 25), (25, tk_aa 11 26), (26, tk_al 1 27), (27, tk_gR 5 9 30), (30, tk_il 2 31), (31, tk_ai 9 32), (32, tk_cv 4 M_X4_lieOn 1 35), (35, tk_inc 2 (1) 38), (38, tk_jmp 12), (41, tk_rV)]
set_option maxRecDepth 100000 in
theorem hT_X1_begin (sc : Option (Nat × (Nat → Int32))) : ∀ x ∈ T_X1_begin, tk_So sc M_X1_begin x.1 x.2 := by
  unfold T_X1_begin
  refine List.forall_mem_cons.mpr ⟨so_aload_n dX1_begin_0 rfl rfl, ?_⟩
  refine List.forall_mem_cons.mpr ⟨so_iconst dX1_begin_1 (by decide) rfl, ?_⟩
  refine List.forall_mem_cons.mpr ⟨so_pI (C := RX1) (T := TX1) (N := 3) dX1_begin_2 (by decide) rfl rfl (by decide) rfl in_X1 wf_X1_18 tyX1 tyX1_ok nmX1 rfl (by decide +kernel) rfl, ?_⟩
  refine List.forall_mem_cons.mpr ⟨so_aload_n dX1_begin_5 rfl rfl, ?_⟩
  refine List.forall_mem_cons.mpr ⟨so_iconst dX1_begin_6 (by decide) rfl, ?_⟩
  refine List.forall_mem_cons.mpr ⟨so_pI (C := RX1) (T := TX1) (N := 3) dX1_begin_7 (by decide) rfl rfl (by decide) rfl in_X1 wf_X1_22 tyX1 tyX1_ok nmX1 rfl (by decide +kernel) rfl, ?_⟩
  refine List.forall_mem_cons.mpr ⟨so_iconst dX1_begin_10 (by decide) rfl, ?_⟩
  refine List.forall_mem_cons.mpr ⟨so_istore_n dX1_begin_11 rfl rfl, ?_⟩
  refine List.forall_mem_cons.mpr ⟨so_iload_n dX1_begin_12 rfl rfl, ?_⟩
  refine List.forall_mem_cons.mpr ⟨so_aload_n dX1_begin_13 rfl rfl, ?_⟩
  refine List.forall_mem_cons.mpr ⟨so_gI (C := RX5) (T := TX5) (N := 10) dX1_begin_14 (by decide) rfl rfl (by decide) rfl in_X5 wf_X1_25 rfl, ?_⟩
  refine List.forall_mem_cons.mpr ⟨so_icmp_ge dX1_begin_17 (by decide) rfl, ?_⟩
  refine List.forall_mem_cons.mpr ⟨so_aload_n dX1_begin_20 rfl rfl, ?_⟩
  refine List.forall_mem_cons.mpr ⟨so_gR (C := RX1) (T := TX1) (N := 3) dX1_begin_21 (by decide) rfl rfl (by decide) rfl in_X1 wf_X1_11 rfl, ?_⟩
  refine List.forall_mem_cons.mpr ⟨so_iload_n dX1_begin_24 rfl rfl, ?_⟩
  refine List.forall_mem_cons.mpr ⟨so_aaT dX1_begin_25 rfl, ?_⟩
  refine List.forall_mem_cons.mpr ⟨so_aload_n dX1_begin_26 rfl rfl, ?_⟩
  refine List.forall_mem_cons.mpr ⟨so_gR (C := RX5) (T := TX5) (N := 10) dX1_begin_27 (by decide) rfl rfl (by decide) rfl in_X5 wf_X1_29 rfl, ?_⟩
  refine List.forall_mem_cons.mpr ⟨so_iload_n dX1_begin_30 rfl rfl, ?_⟩
  refine List.forall_mem_cons.mpr ⟨so_iaload dX1_begin_31 rfl, ?_⟩
  refine List.forall_mem_cons.mpr ⟨so_cv (T := TX4) (N := 3) dX1_begin_32 mv_X4_lieOn wm_X1_33 (by decide) rfl ⟨rfl, rfl⟩ (by decide) rfl, ?_⟩
  refine List.forall_mem_cons.mpr ⟨so_iinc dX1_begin_35 (by decide) rfl, ?_⟩
  refine List.forall_mem_cons.mpr ⟨so_goto dX1_begin_38 (by decide), ?_⟩
  refine List.forall_mem_cons.mpr ⟨so_rV dX1_begin_41 rfl, ?_⟩
  exact fun _ h => absurd h List.not_mem_nil
theorem dX4_lies_0 : decode cX4_lies 0 = .ok (.aload_n 0, 1) := by decide +kernel
theorem dX4_lies_1 : decode cX4_lies 1 = .ok (.getfield 15, 3) := by decide +kernel
theorem dX4_lies_4 : decode cX4_lies 4 = .ok (.ifCond .ne 7, 3) := by decide +kernel
theorem dX4_lies_7 : decode cX4_lies 7 = .ok (.iconst 1, 1) := by decide +kernel
theorem dX4_lies_8 : decode cX4_lies 8 = .ok (.goto 4, 3) := by decide +kernel
theorem dX4_lies_11 : decode cX4_lies 11 = .ok (.iconst 0, 1) := by decide +kernel
theorem dX4_lies_12 : decode cX4_lies 12 = .ok (.ireturn, 1) := by decide +kernel
def T_X4_lies : tk_Tb := [(0, tk_al 0 1), (1, tk_gI 4 1 4), (4, tk_br (fun x => x = 0) 7 11), (7, tk_ic (1) 8), (8, tk_jmp 12), (11, tk_ic (0) 12), (12, tk_rZ)]
set_option maxRecDepth 100000 in
theorem hT_X4_lies (sc : Option (Nat × (Nat → Int32))) : ∀ x ∈ T_X4_lies, tk_So sc M_X4_lies x.1 x.2 := by
  unfold T_X4_lies
  refine List.forall_mem_cons.mpr ⟨so_aload_n dX4_lies_0 rfl rfl, ?_⟩
  refine List.forall_mem_cons.mpr ⟨so_gI (C := RX4) (T := TX4) (N := 3) dX4_lies_1 (by decide) rfl rfl (by decide) rfl in_X4 wf_X4_15 rfl, ?_⟩
  refine List.forall_mem_cons.mpr ⟨so_if_ne dX4_lies_4 (by decide) rfl, ?_⟩
  refine List.forall_mem_cons.mpr ⟨so_iconst dX4_lies_7 (by decide) rfl, ?_⟩
  refine List.forall_mem_cons.mpr ⟨so_goto dX4_lies_8 (by decide), ?_⟩
  refine List.forall_mem_cons.mpr ⟨so_iconst dX4_lies_11 (by decide) rfl, ?_⟩
  refine List.forall_mem_cons.mpr ⟨so_rZ dX4_lies_12 rfl, ?_⟩
  exact fun _ h => absurd h List.not_mem_nil
theorem dX5_isKerb_0 : decode cX5_isKerb 0 = .ok (.iload_n 1, 1) := by decide +kernel
theorem dX5_isKerb_1 : decode cX5_isKerb 1 = .ok (.ifCond .lt 15, 3) := by decide +kernel
theorem dX5_isKerb_4 : decode cX5_isKerb 4 = .ok (.iload_n 1, 1) := by decide +kernel
theorem dX5_isKerb_5 : decode cX5_isKerb 5 = .ok (.aload_n 0, 1) := by decide +kernel
theorem dX5_isKerb_6 : decode cX5_isKerb 6 = .ok (.getfield 34, 3) := by decide +kernel
theorem dX5_isKerb_9 : decode cX5_isKerb 9 = .ok (.if_icmp .ge 7, 3) := by decide +kernel
theorem dX5_isKerb_12 : decode cX5_isKerb 12 = .ok (.iconst 1, 1) := by decide +kernel
theorem dX5_isKerb_13 : decode cX5_isKerb 13 = .ok (.goto 4, 3) := by decide +kernel
theorem dX5_isKerb_16 : decode cX5_isKerb 16 = .ok (.iconst 0, 1) := by decide +kernel
theorem dX5_isKerb_17 : decode cX5_isKerb 17 = .ok (.ireturn, 1) := by decide +kernel
def T_X5_isKerb : tk_Tb := [(0, tk_il 1 1), (1, tk_br (fun x => x < 0) 16 4), (4, tk_il 1 5), (5, tk_al 0 6), (6, tk_gI 5 3 9), (9, tk_cm (fun x y => y ≤ x) 16 12), (12, tk_ic (1) 13), (13, tk_jmp 17), (16, tk_ic (0) 17), (17, tk_rZ)]
set_option maxRecDepth 100000 in
theorem hT_X5_isKerb (sc : Option (Nat × (Nat → Int32))) : ∀ x ∈ T_X5_isKerb, tk_So sc M_X5_isKerb x.1 x.2 := by
  unfold T_X5_isKerb
  refine List.forall_mem_cons.mpr ⟨so_iload_n dX5_isKerb_0 rfl rfl, ?_⟩
  refine List.forall_mem_cons.mpr ⟨so_if_lt dX5_isKerb_1 (by decide) rfl, ?_⟩
  refine List.forall_mem_cons.mpr ⟨so_iload_n dX5_isKerb_4 rfl rfl, ?_⟩
  refine List.forall_mem_cons.mpr ⟨so_aload_n dX5_isKerb_5 rfl rfl, ?_⟩
  refine List.forall_mem_cons.mpr ⟨so_gI (C := RX5) (T := TX5) (N := 10) dX5_isKerb_6 (by decide) rfl rfl (by decide) rfl in_X5 wf_X5_34 rfl, ?_⟩
  refine List.forall_mem_cons.mpr ⟨so_icmp_ge dX5_isKerb_9 (by decide) rfl, ?_⟩
  refine List.forall_mem_cons.mpr ⟨so_iconst dX5_isKerb_12 (by decide) rfl, ?_⟩
  refine List.forall_mem_cons.mpr ⟨so_goto dX5_isKerb_13 (by decide), ?_⟩
  refine List.forall_mem_cons.mpr ⟨so_iconst dX5_isKerb_16 (by decide) rfl, ?_⟩
  refine List.forall_mem_cons.mpr ⟨so_rZ dX5_isKerb_17 rfl, ?_⟩
  exact fun _ h => absurd h List.not_mem_nil
theorem dX5_isFlooded_0 : decode cX5_isFlooded 0 = .ok (.aload_n 0, 1) := by decide +kernel
theorem dX5_isFlooded_1 : decode cX5_isFlooded 1 = .ok (.iload_n 1, 1) := by decide +kernel
theorem dX5_isFlooded_2 : decode cX5_isFlooded 2 = .ok (.invokevirtual 57, 3) := by decide +kernel
theorem dX5_isFlooded_5 : decode cX5_isFlooded 5 = .ok (.ifCond .eq 17, 3) := by decide +kernel
theorem dX5_isFlooded_8 : decode cX5_isFlooded 8 = .ok (.aload_n 0, 1) := by decide +kernel
theorem dX5_isFlooded_9 : decode cX5_isFlooded 9 = .ok (.getfield 15, 3) := by decide +kernel
theorem dX5_isFlooded_12 : decode cX5_isFlooded 12 = .ok (.iload_n 1, 1) := by decide +kernel
theorem dX5_isFlooded_13 : decode cX5_isFlooded 13 = .ok (.iaload, 1) := by decide +kernel
theorem dX5_isFlooded_14 : decode cX5_isFlooded 14 = .ok (.iload_n 2, 1) := by decide +kernel
theorem dX5_isFlooded_15 : decode cX5_isFlooded 15 = .ok (.if_icmp .gt 7, 3) := by decide +kernel
theorem dX5_isFlooded_18 : decode cX5_isFlooded 18 = .ok (.iconst 1, 1) := by decide +kernel
theorem dX5_isFlooded_19 : decode cX5_isFlooded 19 = .ok (.goto 4, 3) := by decide +kernel
theorem dX5_isFlooded_22 : decode cX5_isFlooded 22 = .ok (.iconst 0, 1) := by decide +kernel
theorem dX5_isFlooded_23 : decode cX5_isFlooded 23 = .ok (.ireturn, 1) := by decide +kernel
def T_X5_isFlooded : tk_Tb := [(0, tk_al 0 1), (1, tk_il 1 2), (2, tk_cv 5 M_X5_isKerb 1 5), (5, tk_br (fun x => x = 0) 22 8), (8, tk_al 0 9), (9, tk_gR 5 6 12), (12, tk_il 1 13), (13, tk_ai 9 14), (14, tk_il 2 15), (15, tk_cm (fun x y => y < x) 22 18), (18, tk_ic (1) 19), (19, tk_jmp 23), (22, tk_ic (0) 23), (23, tk_rZ)]
set_option maxRecDepth 100000 in
theorem hT_X5_isFlooded (sc : Option (Nat × (Nat → Int32))) : ∀ x ∈ T_X5_isFlooded, tk_So sc M_X5_isFlooded x.1 x.2 := by
  unfold T_X5_isFlooded
  refine List.forall_mem_cons.mpr ⟨so_aload_n dX5_isFlooded_0 rfl rfl, ?_⟩
  refine List.forall_mem_cons.mpr ⟨so_iload_n dX5_isFlooded_1 rfl rfl, ?_⟩
  refine List.forall_mem_cons.mpr ⟨so_cv (T := TX5) (N := 10) dX5_isFlooded_2 mv_X5_isKerb wm_X5_57 (by decide) rfl ⟨rfl, rfl⟩ (by decide) rfl, ?_⟩
  refine List.forall_mem_cons.mpr ⟨so_if_eq dX5_isFlooded_5 (by decide) rfl, ?_⟩
  refine List.forall_mem_cons.mpr ⟨so_aload_n dX5_isFlooded_8 rfl rfl, ?_⟩
  refine List.forall_mem_cons.mpr ⟨so_gR (C := RX5) (T := TX5) (N := 10) dX5_isFlooded_9 (by decide) rfl rfl (by decide) rfl in_X5 wf_X5_15 rfl, ?_⟩
  refine List.forall_mem_cons.mpr ⟨so_iload_n dX5_isFlooded_12 rfl rfl, ?_⟩
  refine List.forall_mem_cons.mpr ⟨so_iaload dX5_isFlooded_13 rfl, ?_⟩
  refine List.forall_mem_cons.mpr ⟨so_iload_n dX5_isFlooded_14 rfl rfl, ?_⟩
  refine List.forall_mem_cons.mpr ⟨so_icmp_gt dX5_isFlooded_15 (by decide) rfl, ?_⟩
  refine List.forall_mem_cons.mpr ⟨so_iconst dX5_isFlooded_18 (by decide) rfl, ?_⟩
  refine List.forall_mem_cons.mpr ⟨so_goto dX5_isFlooded_19 (by decide), ?_⟩
  refine List.forall_mem_cons.mpr ⟨so_iconst dX5_isFlooded_22 (by decide) rfl, ?_⟩
  refine List.forall_mem_cons.mpr ⟨so_rZ dX5_isFlooded_23 rfl, ?_⟩
  exact fun _ h => absurd h List.not_mem_nil
theorem dX4_pass_0 : decode cX4_pass 0 = .ok (.aload_n 0, 1) := by decide +kernel
theorem dX4_pass_1 : decode cX4_pass 1 = .ok (.invokevirtual 22, 3) := by decide +kernel
theorem dX4_pass_4 : decode cX4_pass 4 = .ok (.ifCond .eq 26, 3) := by decide +kernel
theorem dX4_pass_7 : decode cX4_pass 7 = .ok (.aload_n 0, 1) := by decide +kernel
theorem dX4_pass_8 : decode cX4_pass 8 = .ok (.getfield 18, 3) := by decide +kernel
theorem dX4_pass_11 : decode cX4_pass 11 = .ok (.ifCond .ne 19, 3) := by decide +kernel
theorem dX4_pass_14 : decode cX4_pass 14 = .ok (.aload_n 1, 1) := by decide +kernel
theorem dX4_pass_15 : decode cX4_pass 15 = .ok (.aload_n 0, 1) := by decide +kernel
theorem dX4_pass_16 : decode cX4_pass 16 = .ok (.getfield 9, 3) := by decide +kernel
theorem dX4_pass_19 : decode cX4_pass 19 = .ok (.iload_n 2, 1) := by decide +kernel
theorem dX4_pass_20 : decode cX4_pass 20 = .ok (.invokevirtual 26, 3) := by decide +kernel
theorem dX4_pass_23 : decode cX4_pass 23 = .ok (.ifCond .eq 7, 3) := by decide +kernel
theorem dX4_pass_26 : decode cX4_pass 26 = .ok (.iconst 1, 1) := by decide +kernel
theorem dX4_pass_27 : decode cX4_pass 27 = .ok (.goto 4, 3) := by decide +kernel
theorem dX4_pass_30 : decode cX4_pass 30 = .ok (.iconst 0, 1) := by decide +kernel
theorem dX4_pass_31 : decode cX4_pass 31 = .ok (.istore_n 3, 1) := by decide +kernel
theorem dX4_pass_32 : decode cX4_pass 32 = .ok (.iload_n 3, 1) := by decide +kernel
theorem dX4_pass_33 : decode cX4_pass 33 = .ok (.ifCond .eq 29, 3) := by decide +kernel
theorem dX4_pass_36 : decode cX4_pass 36 = .ok (.aload_n 0, 1) := by decide +kernel
theorem dX4_pass_37 : decode cX4_pass 37 = .ok (.aload_n 1, 1) := by decide +kernel
theorem dX4_pass_38 : decode cX4_pass 38 = .ok (.getfield 32, 3) := by decide +kernel
theorem dX4_pass_41 : decode cX4_pass 41 = .ok (.aload_n 0, 1) := by decide +kernel
theorem dX4_pass_42 : decode cX4_pass 42 = .ok (.getfield 9, 3) := by decide +kernel
theorem dX4_pass_45 : decode cX4_pass 45 = .ok (.iaload, 1) := by decide +kernel
theorem dX4_pass_46 : decode cX4_pass 46 = .ok (.putfield 15, 3) := by decide +kernel
theorem dX4_pass_49 : decode cX4_pass 49 = .ok (.aload_n 0, 1) := by decide +kernel
theorem dX4_pass_50 : decode cX4_pass 50 = .ok (.aload_n 1, 1) := by decide +kernel
theorem dX4_pass_51 : decode cX4_pass 51 = .ok (.getfield 36, 3) := by decide +kernel
theorem dX4_pass_54 : decode cX4_pass 54 = .ok (.aload_n 0, 1) := by decide +kernel
theorem dX4_pass_55 : decode cX4_pass 55 = .ok (.getfield 9, 3) := by decide +kernel
theorem dX4_pass_58 : decode cX4_pass 58 = .ok (.iaload, 1) := by decide +kernel
theorem dX4_pass_59 : decode cX4_pass 59 = .ok (.putfield 9, 3) := by decide +kernel
theorem dX4_pass_62 : decode cX4_pass 62 = .ok (.aload_n 0, 1) := by decide +kernel
theorem dX4_pass_63 : decode cX4_pass 63 = .ok (.getfield 15, 3) := by decide +kernel
theorem dX4_pass_66 : decode cX4_pass 66 = .ok (.ifCond .le 13, 3) := by decide +kernel
theorem dX4_pass_69 : decode cX4_pass 69 = .ok (.aload_n 0, 1) := by decide +kernel
theorem dX4_pass_70 : decode cX4_pass 70 = .ok (.dup, 1) := by decide +kernel
theorem dX4_pass_71 : decode cX4_pass 71 = .ok (.getfield 15, 3) := by decide +kernel
theorem dX4_pass_74 : decode cX4_pass 74 = .ok (.iconst 1, 1) := by decide +kernel
theorem dX4_pass_75 : decode cX4_pass 75 = .ok (.isub, 1) := by decide +kernel
theorem dX4_pass_76 : decode cX4_pass 76 = .ok (.putfield 15, 3) := by decide +kernel
theorem dX4_pass_79 : decode cX4_pass 79 = .ok (.iload_n 3, 1) := by decide +kernel
theorem dX4_pass_80 : decode cX4_pass 80 = .ok (.ireturn, 1) := by decide +kernel
def T_X4_pass : tk_Tb := [(0, tk_al 0 1), (1, tk_cv 4 M_X4_lies 0 4), (4, tk_br (fun x => x = 0) 30 7), (7, tk_al 0 8), (8, tk_gI 4 2 11), (11, tk_br (fun x => x = 0) 14 30), (14, tk_al 1 15), (15, tk_al 0 16), (16, tk_gI 4 0 19), (19, tk_il 2 20), (20, tk_cv 5 M_X5_isFlooded 2 23), (23, tk_br (fun x => x = 0) 30 26), (26, tk_ic (1) 27), (27, tk_jmp 31), (30, tk_ic (0) 31), (31, tk_sI 3 32), (32, tk_il 3 33), (33, tk_br (fun x => x = 0) 62 36), (36, tk_al 0 37), (37, tk_al 1 38), (38, tk_gR 5 8 41), (41, tk_al 0 42), (42, tk_gI 4 0 45), (45, tk_ai 9 46), (46, tk_pI 4 1 49), (49, tk_al 0 50), (50, tk_al 1 51), (51, tk_gR 5 7 54), (54, tk_al 0 55), (55, tk_gI 4 0 58), (58, tk_ai 9 59), (59, tk_pI 4 0 62), (62, tk_al 0 63), (63, tk_gI 4 1 66), (66, tk_br (fun x => x ≤ 0) 79 69), (69, tk_al 0 70), (70, tk_dup 71), (71, tk_gI 4 1 74), (74, tk_ic (1) 75), (75, tk_bi (fun x y => x - y) 76), (76, tk_pI 4 1 79), (79, tk_il 3 80), (80, tk_rZ)]
set_option maxRecDepth 100000 in
theorem hT_X4_pass (sc : Option (Nat × (Nat → Int32))) : ∀ x ∈ T_X4_pass, tk_So sc M_X4_pass x.1 x.2 := by
  unfold T_X4_pass
  refine List.forall_mem_cons.mpr ⟨so_aload_n dX4_pass_0 rfl rfl, ?_⟩
  refine List.forall_mem_cons.mpr ⟨so_cv (T := TX4) (N := 3) dX4_pass_1 mv_X4_lies wm_X4_22 (by decide) rfl ⟨rfl, rfl⟩ (by decide) rfl, ?_⟩
  refine List.forall_mem_cons.mpr ⟨so_if_eq dX4_pass_4 (by decide) rfl, ?_⟩
  refine List.forall_mem_cons.mpr ⟨so_aload_n dX4_pass_7 rfl rfl, ?_⟩
  refine List.forall_mem_cons.mpr ⟨so_gI (C := RX4) (T := TX4) (N := 3) dX4_pass_8 (by decide) rfl rfl (by decide) rfl in_X4 wf_X4_18 rfl, ?_⟩
  refine List.forall_mem_cons.mpr ⟨so_if_ne dX4_pass_11 (by decide) rfl, ?_⟩
  refine List.forall_mem_cons.mpr ⟨so_aload_n dX4_pass_14 rfl rfl, ?_⟩
  refine List.forall_mem_cons.mpr ⟨so_aload_n dX4_pass_15 rfl rfl, ?_⟩
  refine List.forall_mem_cons.mpr ⟨so_gI (C := RX4) (T := TX4) (N := 3) dX4_pass_16 (by decide) rfl rfl (by decide) rfl in_X4 wf_X4_9 rfl, ?_⟩
  refine List.forall_mem_cons.mpr ⟨so_iload_n dX4_pass_19 rfl rfl, ?_⟩
  refine List.forall_mem_cons.mpr ⟨so_cv (T := TX5) (N := 10) dX4_pass_20 mv_X5_isFlooded wm_X4_26 (by decide) rfl ⟨rfl, rfl⟩ (by decide) rfl, ?_⟩
  refine List.forall_mem_cons.mpr ⟨so_if_eq dX4_pass_23 (by decide) rfl, ?_⟩
  refine List.forall_mem_cons.mpr ⟨so_iconst dX4_pass_26 (by decide) rfl, ?_⟩
  refine List.forall_mem_cons.mpr ⟨so_goto dX4_pass_27 (by decide), ?_⟩
  refine List.forall_mem_cons.mpr ⟨so_iconst dX4_pass_30 (by decide) rfl, ?_⟩
  refine List.forall_mem_cons.mpr ⟨so_istore_n dX4_pass_31 rfl rfl, ?_⟩
  refine List.forall_mem_cons.mpr ⟨so_iload_n dX4_pass_32 rfl rfl, ?_⟩
  refine List.forall_mem_cons.mpr ⟨so_if_eq dX4_pass_33 (by decide) rfl, ?_⟩
  refine List.forall_mem_cons.mpr ⟨so_aload_n dX4_pass_36 rfl rfl, ?_⟩
  refine List.forall_mem_cons.mpr ⟨so_aload_n dX4_pass_37 rfl rfl, ?_⟩
  refine List.forall_mem_cons.mpr ⟨so_gR (C := RX5) (T := TX5) (N := 10) dX4_pass_38 (by decide) rfl rfl (by decide) rfl in_X5 wf_X4_32 rfl, ?_⟩
  refine List.forall_mem_cons.mpr ⟨so_aload_n dX4_pass_41 rfl rfl, ?_⟩
  refine List.forall_mem_cons.mpr ⟨so_gI (C := RX4) (T := TX4) (N := 3) dX4_pass_42 (by decide) rfl rfl (by decide) rfl in_X4 wf_X4_9 rfl, ?_⟩
  refine List.forall_mem_cons.mpr ⟨so_iaload dX4_pass_45 rfl, ?_⟩
  refine List.forall_mem_cons.mpr ⟨so_pI (C := RX4) (T := TX4) (N := 3) dX4_pass_46 (by decide) rfl rfl (by decide) rfl in_X4 wf_X4_15 tyX4 tyX4_ok nmX4 rfl (by decide +kernel) rfl, ?_⟩
  refine List.forall_mem_cons.mpr ⟨so_aload_n dX4_pass_49 rfl rfl, ?_⟩
  refine List.forall_mem_cons.mpr ⟨so_aload_n dX4_pass_50 rfl rfl, ?_⟩
  refine List.forall_mem_cons.mpr ⟨so_gR (C := RX5) (T := TX5) (N := 10) dX4_pass_51 (by decide) rfl rfl (by decide) rfl in_X5 wf_X4_36 rfl, ?_⟩
  refine List.forall_mem_cons.mpr ⟨so_aload_n dX4_pass_54 rfl rfl, ?_⟩
  refine List.forall_mem_cons.mpr ⟨so_gI (C := RX4) (T := TX4) (N := 3) dX4_pass_55 (by decide) rfl rfl (by decide) rfl in_X4 wf_X4_9 rfl, ?_⟩
  refine List.forall_mem_cons.mpr ⟨so_iaload dX4_pass_58 rfl, ?_⟩
  refine List.forall_mem_cons.mpr ⟨so_pI (C := RX4) (T := TX4) (N := 3) dX4_pass_59 (by decide) rfl rfl (by decide) rfl in_X4 wf_X4_9 tyX4 tyX4_ok nmX4 rfl (by decide +kernel) rfl, ?_⟩
  refine List.forall_mem_cons.mpr ⟨so_aload_n dX4_pass_62 rfl rfl, ?_⟩
  refine List.forall_mem_cons.mpr ⟨so_gI (C := RX4) (T := TX4) (N := 3) dX4_pass_63 (by decide) rfl rfl (by decide) rfl in_X4 wf_X4_15 rfl, ?_⟩
  refine List.forall_mem_cons.mpr ⟨so_if_le dX4_pass_66 (by decide) rfl, ?_⟩
  refine List.forall_mem_cons.mpr ⟨so_aload_n dX4_pass_69 rfl rfl, ?_⟩
  refine List.forall_mem_cons.mpr ⟨so_dup dX4_pass_70 rfl, ?_⟩
  refine List.forall_mem_cons.mpr ⟨so_gI (C := RX4) (T := TX4) (N := 3) dX4_pass_71 (by decide) rfl rfl (by decide) rfl in_X4 wf_X4_15 rfl, ?_⟩
  refine List.forall_mem_cons.mpr ⟨so_iconst dX4_pass_74 (by decide) rfl, ?_⟩
  refine List.forall_mem_cons.mpr ⟨so_isub dX4_pass_75 rfl, ?_⟩
  refine List.forall_mem_cons.mpr ⟨so_pI (C := RX4) (T := TX4) (N := 3) dX4_pass_76 (by decide) rfl rfl (by decide) rfl in_X4 wf_X4_15 tyX4 tyX4_ok nmX4 rfl (by decide +kernel) rfl, ?_⟩
  refine List.forall_mem_cons.mpr ⟨so_iload_n dX4_pass_79 rfl rfl, ?_⟩
  refine List.forall_mem_cons.mpr ⟨so_rZ dX4_pass_80 rfl, ?_⟩
  exact fun _ h => absurd h List.not_mem_nil
theorem dX5_leftOver_0 : decode cX5_leftOver 0 = .ok (.aload_n 0, 1) := by decide +kernel
theorem dX5_leftOver_1 : decode cX5_leftOver 1 = .ok (.getfield 41, 3) := by decide +kernel
theorem dX5_leftOver_4 : decode cX5_leftOver 4 = .ok (.iconst 2, 1) := by decide +kernel
theorem dX5_leftOver_5 : decode cX5_leftOver 5 = .ok (.if_icmp .ge 7, 3) := by decide +kernel
theorem dX5_leftOver_8 : decode cX5_leftOver 8 = .ok (.iconst 0, 1) := by decide +kernel
theorem dX5_leftOver_9 : decode cX5_leftOver 9 = .ok (.goto 9, 3) := by decide +kernel
theorem dX5_leftOver_12 : decode cX5_leftOver 12 = .ok (.iload_n 1, 1) := by decide +kernel
theorem dX5_leftOver_13 : decode cX5_leftOver 13 = .ok (.aload_n 0, 1) := by decide +kernel
theorem dX5_leftOver_14 : decode cX5_leftOver 14 = .ok (.getfield 41, 3) := by decide +kernel
theorem dX5_leftOver_17 : decode cX5_leftOver 17 = .ok (.irem, 1) := by decide +kernel
theorem dX5_leftOver_18 : decode cX5_leftOver 18 = .ok (.ireturn, 1) := by decide +kernel
def T_X5_leftOver : tk_Tb := [(0, tk_al 0 1), (1, tk_gI 5 0 4), (4, tk_ic (2) 5), (5, tk_cm (fun x y => y ≤ x) 12 8), (8, tk_ic (0) 9), (9, tk_jmp 18), (12, tk_il 1 13), (13, tk_al 0 14), (14, tk_gI 5 0 17), (17, tk_dv (fun x y => x - x / y * y) 18), (18, tk_rI)]
set_option maxRecDepth 100000 in
theorem hT_X5_leftOver (sc : Option (Nat × (Nat → Int32))) : ∀ x ∈ T_X5_leftOver, tk_So sc M_X5_leftOver x.1 x.2 := by
  unfold T_X5_leftOver
  refine List.forall_mem_cons.mpr ⟨so_aload_n dX5_leftOver_0 rfl rfl, ?_⟩
  refine List.forall_mem_cons.mpr ⟨so_gI (C := RX5) (T := TX5) (N := 10) dX5_leftOver_1 (by decide) rfl rfl (by decide) rfl in_X5 wf_X5_41 rfl, ?_⟩
  refine List.forall_mem_cons.mpr ⟨so_iconst dX5_leftOver_4 (by decide) rfl, ?_⟩
  refine List.forall_mem_cons.mpr ⟨so_icmp_ge dX5_leftOver_5 (by decide) rfl, ?_⟩
  refine List.forall_mem_cons.mpr ⟨so_iconst dX5_leftOver_8 (by decide) rfl, ?_⟩
  refine List.forall_mem_cons.mpr ⟨so_goto dX5_leftOver_9 (by decide), ?_⟩
  refine List.forall_mem_cons.mpr ⟨so_iload_n dX5_leftOver_12 rfl rfl, ?_⟩
  refine List.forall_mem_cons.mpr ⟨so_aload_n dX5_leftOver_13 rfl rfl, ?_⟩
  refine List.forall_mem_cons.mpr ⟨so_gI (C := RX5) (T := TX5) (N := 10) dX5_leftOver_14 (by decide) rfl rfl (by decide) rfl in_X5 wf_X5_41 rfl, ?_⟩
  refine List.forall_mem_cons.mpr ⟨so_irem dX5_leftOver_17 rfl, ?_⟩
  refine List.forall_mem_cons.mpr ⟨so_rI dX5_leftOver_18 rfl, ?_⟩
  exact fun _ h => absurd h List.not_mem_nil
theorem dX5_levelOf_0 : decode cX5_levelOf 0 = .ok (.aload_n 0, 1) := by decide +kernel
theorem dX5_levelOf_1 : decode cX5_levelOf 1 = .ok (.aload_n 0, 1) := by decide +kernel
theorem dX5_levelOf_2 : decode cX5_levelOf 2 = .ok (.getfield 44, 3) := by decide +kernel
theorem dX5_levelOf_5 : decode cX5_levelOf 5 = .ok (.iload_n 1, 1) := by decide +kernel
theorem dX5_levelOf_6 : decode cX5_levelOf 6 = .ok (.imul, 1) := by decide +kernel
theorem dX5_levelOf_7 : decode cX5_levelOf 7 = .ok (.aload_n 0, 1) := by decide +kernel
theorem dX5_levelOf_8 : decode cX5_levelOf 8 = .ok (.getfield 47, 3) := by decide +kernel
theorem dX5_levelOf_11 : decode cX5_levelOf 11 = .ok (.iadd, 1) := by decide +kernel
theorem dX5_levelOf_12 : decode cX5_levelOf 12 = .ok (.invokevirtual 61, 3) := by decide +kernel
theorem dX5_levelOf_15 : decode cX5_levelOf 15 = .ok (.ireturn, 1) := by decide +kernel
def T_X5_levelOf : tk_Tb := [(0, tk_al 0 1), (1, tk_al 0 2), (2, tk_gI 5 1 5), (5, tk_il 1 6), (6, tk_bi (fun x y => x * y) 7), (7, tk_al 0 8), (8, tk_gI 5 2 11), (11, tk_bi (fun x y => x + y) 12), (12, tk_cv 5 M_X5_leftOver 1 15), (15, tk_rI)]
set_option maxRecDepth 100000 in
theorem hT_X5_levelOf (sc : Option (Nat × (Nat → Int32))) : ∀ x ∈ T_X5_levelOf, tk_So sc M_X5_levelOf x.1 x.2 := by
  unfold T_X5_levelOf
  refine List.forall_mem_cons.mpr ⟨so_aload_n dX5_levelOf_0 rfl rfl, ?_⟩
  refine List.forall_mem_cons.mpr ⟨so_aload_n dX5_levelOf_1 rfl rfl, ?_⟩
  refine List.forall_mem_cons.mpr ⟨so_gI (C := RX5) (T := TX5) (N := 10) dX5_levelOf_2 (by decide) rfl rfl (by decide) rfl in_X5 wf_X5_44 rfl, ?_⟩
  refine List.forall_mem_cons.mpr ⟨so_iload_n dX5_levelOf_5 rfl rfl, ?_⟩
  refine List.forall_mem_cons.mpr ⟨so_imul dX5_levelOf_6 rfl, ?_⟩
  refine List.forall_mem_cons.mpr ⟨so_aload_n dX5_levelOf_7 rfl rfl, ?_⟩
  refine List.forall_mem_cons.mpr ⟨so_gI (C := RX5) (T := TX5) (N := 10) dX5_levelOf_8 (by decide) rfl rfl (by decide) rfl in_X5 wf_X5_47 rfl, ?_⟩
  refine List.forall_mem_cons.mpr ⟨so_iadd dX5_levelOf_11 rfl, ?_⟩
  refine List.forall_mem_cons.mpr ⟨so_cv (T := TX5) (N := 10) dX5_levelOf_12 mv_X5_leftOver wm_X5_61 (by decide) rfl ⟨rfl, rfl⟩ (by decide) rfl, ?_⟩
  refine List.forall_mem_cons.mpr ⟨so_rI dX5_levelOf_15 rfl, ?_⟩
  exact fun _ h => absurd h List.not_mem_nil
theorem dJ9_min_7cf53_0 : decode cJ9_min_7cf53 0 = .ok (.iload_n 0, 1) := by decide +kernel
theorem dJ9_min_7cf53_1 : decode cJ9_min_7cf53 1 = .ok (.iload_n 1, 1) := by decide +kernel
theorem dJ9_min_7cf53_2 : decode cJ9_min_7cf53 2 = .ok (.if_icmp .gt 7, 3) := by decide +kernel
theorem dJ9_min_7cf53_5 : decode cJ9_min_7cf53 5 = .ok (.iload_n 0, 1) := by decide +kernel
theorem dJ9_min_7cf53_6 : decode cJ9_min_7cf53 6 = .ok (.goto 4, 3) := by decide +kernel
theorem dJ9_min_7cf53_9 : decode cJ9_min_7cf53 9 = .ok (.iload_n 1, 1) := by decide +kernel
theorem dJ9_min_7cf53_10 : decode cJ9_min_7cf53 10 = .ok (.ireturn, 1) := by decide +kernel
def T_J9_min_7cf53 : tk_Tb := [(0, tk_il 0 1), (1, tk_il 1 2), (2, tk_cm (fun x y => y < x) 9 5), (5, tk_il 0 6), (6, tk_jmp 10), (9, tk_il 1 10), (10, tk_rI)]
set_option maxRecDepth 100000 in
theorem hT_J9_min_7cf53 (sc : Option (Nat × (Nat → Int32))) : ∀ x ∈ T_J9_min_7cf53, tk_So sc M_J9_min_7cf53 x.1 x.2 := by
  unfold T_J9_min_7cf53
  refine List.forall_mem_cons.mpr ⟨so_iload_n dJ9_min_7cf53_0 rfl rfl, ?_⟩
  refine List.forall_mem_cons.mpr ⟨so_iload_n dJ9_min_7cf53_1 rfl rfl, ?_⟩
  refine List.forall_mem_cons.mpr ⟨so_icmp_gt dJ9_min_7cf53_2 (by decide) rfl, ?_⟩
  refine List.forall_mem_cons.mpr ⟨so_iload_n dJ9_min_7cf53_5 rfl rfl, ?_⟩
  refine List.forall_mem_cons.mpr ⟨so_goto dJ9_min_7cf53_6 (by decide), ?_⟩
  refine List.forall_mem_cons.mpr ⟨so_iload_n dJ9_min_7cf53_9 rfl rfl, ?_⟩
  refine List.forall_mem_cons.mpr ⟨so_rI dJ9_min_7cf53_10 rfl, ?_⟩
  exact fun _ h => absurd h List.not_mem_nil
theorem dX1_pass_0 : decode cX1_pass 0 = .ok (.aload_n 1, 1) := by decide +kernel
theorem dX1_pass_1 : decode cX1_pass 1 = .ok (.aload_n 0, 1) := by decide +kernel
theorem dX1_pass_2 : decode cX1_pass 2 = .ok (.getfield 18, 3) := by decide +kernel
theorem dX1_pass_5 : decode cX1_pass 5 = .ok (.invokevirtual 37, 3) := by decide +kernel
theorem dX1_pass_8 : decode cX1_pass 8 = .ok (.istore_n 2, 1) := by decide +kernel
theorem dX1_pass_9 : decode cX1_pass 9 = .ok (.iconst 0, 1) := by decide +kernel
theorem dX1_pass_10 : decode cX1_pass 10 = .ok (.istore_n 3, 1) := by decide +kernel
theorem dX1_pass_11 : decode cX1_pass 11 = .ok (.iconst 0, 1) := by decide +kernel
theorem dX1_pass_12 : decode cX1_pass 12 = .ok (.istore 4, 2) := by decide +kernel
theorem dX1_pass_14 : decode cX1_pass 14 = .ok (.iload 4, 2) := by decide +kernel
theorem dX1_pass_16 : decode cX1_pass 16 = .ok (.aload_n 1, 1) := by decide +kernel
theorem dX1_pass_17 : decode cX1_pass 17 = .ok (.getfield 25, 3) := by decide +kernel
theorem dX1_pass_20 : decode cX1_pass 20 = .ok (.if_icmp .ge 27, 3) := by decide +kernel
theorem dX1_pass_23 : decode cX1_pass 23 = .ok (.aload_n 0, 1) := by decide +kernel
theorem dX1_pass_24 : decode cX1_pass 24 = .ok (.getfield 11, 3) := by decide +kernel
theorem dX1_pass_27 : decode cX1_pass 27 = .ok (.iload 4, 2) := by decide +kernel
theorem dX1_pass_29 : decode cX1_pass 29 = .ok (.aaload, 1) := by decide +kernel
theorem dX1_pass_30 : decode cX1_pass 30 = .ok (.aload_n 1, 1) := by decide +kernel
theorem dX1_pass_31 : decode cX1_pass 31 = .ok (.iload_n 2, 1) := by decide +kernel
theorem dX1_pass_32 : decode cX1_pass 32 = .ok (.invokevirtual 41, 3) := by decide +kernel
theorem dX1_pass_35 : decode cX1_pass 35 = .ok (.ifCond .eq 6, 3) := by decide +kernel
theorem dX1_pass_38 : decode cX1_pass 38 = .ok (.iinc 3 1, 3) := by decide +kernel
theorem dX1_pass_41 : decode cX1_pass 41 = .ok (.iinc 4 1, 3) := by decide +kernel
theorem dX1_pass_44 : decode cX1_pass 44 = .ok (.goto (-30), 3) := by decide +kernel
theorem dX1_pass_47 : decode cX1_pass 47 = .ok (.aload_n 0, 1) := by decide +kernel
theorem dX1_pass_48 : decode cX1_pass 48 = .ok (.aload_n 0, 1) := by decide +kernel
theorem dX1_pass_49 : decode cX1_pass 49 = .ok (.getfield 22, 3) := by decide +kernel
theorem dX1_pass_52 : decode cX1_pass 52 = .ok (.iload_n 3, 1) := by decide +kernel
theorem dX1_pass_53 : decode cX1_pass 53 = .ok (.iadd, 1) := by decide +kernel
theorem dX1_pass_54 : decode cX1_pass 54 = .ok (.ldc 45, 2) := by decide +kernel
theorem dX1_pass_56 : decode cX1_pass 56 = .ok (.invokestatic 46, 3) := by decide +kernel
theorem dX1_pass_59 : decode cX1_pass 59 = .ok (.putfield 22, 3) := by decide +kernel
theorem dX1_pass_62 : decode cX1_pass 62 = .ok (.aload_n 0, 1) := by decide +kernel
theorem dX1_pass_63 : decode cX1_pass 63 = .ok (.dup, 1) := by decide +kernel
theorem dX1_pass_64 : decode cX1_pass 64 = .ok (.getfield 18, 3) := by decide +kernel
theorem dX1_pass_67 : decode cX1_pass 67 = .ok (.iconst 1, 1) := by decide +kernel
theorem dX1_pass_68 : decode cX1_pass 68 = .ok (.iadd, 1) := by decide +kernel
theorem dX1_pass_69 : decode cX1_pass 69 = .ok (.putfield 18, 3) := by decide +kernel
theorem dX1_pass_72 : decode cX1_pass 72 = .ok (.iload_n 3, 1) := by decide +kernel
theorem dX1_pass_73 : decode cX1_pass 73 = .ok (.ireturn, 1) := by decide +kernel
def T_X1_pass : tk_Tb := [(0, tk_al 1 1), (1, tk_al 0 2), (2, tk_gI 1 0 5), (5, tk_cv 5 M_X5_levelOf 1 8), (8, tk_sI 2 9), (9, tk_ic (0) 10), (10, tk_sI 3 11), (11, tk_ic (0) 12), (12, tk_sI 4 14), (14, tk_il 4 16), (16, tk_al 1 17), (17, tk_gI 5 4 20), (20, tk_cm (fun x y => y ≤ x) 47 23), (23, tk_al 0 24), (24, tk_gR 1 2 27), (27, tk_il 4 29), (29, tk_aa 11 30), (30, tk_al 1 31), (31, tk_il 2 32), (32, tk_cv 4 M_X4_pass 2 35), (35, tk_br (fun x => x = 0) 41 38), (38, tk_inc 3 (1) 41), (41, tk_inc 4 (1) 44), (44, tk_jmp 14), (47, tk_al 0 48), (48, tk_al 0 49), (49, tk_gI 1 1 52), (52, tk_il 3 53), (53, tk_bi (fun x y => x + y) 54), (54, tk_ic (99999) 56), (56, tk_cs M_J9_min_7cf53 2 59), (59, tk_pI 1 1 62), (62, tk_al 0 63), (63, tk_dup 64), (64, tk_gI 1 0 67), (67, tk_ic (1) 68), (68, tk_bi (fun x y => x + y) 69), (69, tk_pI 1 0 72), (72, tk_il 3 73), (73, tk_rI)]
set_option maxRecDepth 100000 in
theorem hT_X1_pass (sc : Option (Nat × (Nat → Int32))) : ∀ x ∈ T_X1_pass, tk_So sc M_X1_pass x.1 x.2 := by
  unfold T_X1_pass
  refine List.forall_mem_cons.mpr ⟨so_aload_n dX1_pass_0 rfl rfl, ?_⟩
  refine List.forall_mem_cons.mpr ⟨so_aload_n dX1_pass_1 rfl rfl, ?_⟩
  refine List.forall_mem_cons.mpr ⟨so_gI (C := RX1) (T := TX1) (N := 3) dX1_pass_2 (by decide) rfl rfl (by decide) rfl in_X1 wf_X1_18 rfl, ?_⟩
  refine List.forall_mem_cons.mpr ⟨so_cv (T := TX5) (N := 10) dX1_pass_5 mv_X5_levelOf wm_X1_37 (by decide) rfl ⟨rfl, rfl⟩ (by decide) rfl, ?_⟩
  refine List.forall_mem_cons.mpr ⟨so_istore_n dX1_pass_8 rfl rfl, ?_⟩
  refine List.forall_mem_cons.mpr ⟨so_iconst dX1_pass_9 (by decide) rfl, ?_⟩
  refine List.forall_mem_cons.mpr ⟨so_istore_n dX1_pass_10 rfl rfl, ?_⟩
  refine List.forall_mem_cons.mpr ⟨so_iconst dX1_pass_11 (by decide) rfl, ?_⟩
  refine List.forall_mem_cons.mpr ⟨so_istore dX1_pass_12 rfl, ?_⟩
  refine List.forall_mem_cons.mpr ⟨so_iload dX1_pass_14 rfl, ?_⟩
  refine List.forall_mem_cons.mpr ⟨so_aload_n dX1_pass_16 rfl rfl, ?_⟩
  refine List.forall_mem_cons.mpr ⟨so_gI (C := RX5) (T := TX5) (N := 10) dX1_pass_17 (by decide) rfl rfl (by decide) rfl in_X5 wf_X1_25 rfl, ?_⟩
  refine List.forall_mem_cons.mpr ⟨so_icmp_ge dX1_pass_20 (by decide) rfl, ?_⟩
  refine List.forall_mem_cons.mpr ⟨so_aload_n dX1_pass_23 rfl rfl, ?_⟩
  refine List.forall_mem_cons.mpr ⟨so_gR (C := RX1) (T := TX1) (N := 3) dX1_pass_24 (by decide) rfl rfl (by decide) rfl in_X1 wf_X1_11 rfl, ?_⟩
  refine List.forall_mem_cons.mpr ⟨so_iload dX1_pass_27 rfl, ?_⟩
  refine List.forall_mem_cons.mpr ⟨so_aaT dX1_pass_29 rfl, ?_⟩
  refine List.forall_mem_cons.mpr ⟨so_aload_n dX1_pass_30 rfl rfl, ?_⟩
  refine List.forall_mem_cons.mpr ⟨so_iload_n dX1_pass_31 rfl rfl, ?_⟩
  refine List.forall_mem_cons.mpr ⟨so_cv (T := TX4) (N := 3) dX1_pass_32 mv_X4_pass wm_X1_41 (by decide) rfl ⟨rfl, rfl⟩ (by decide) rfl, ?_⟩
  refine List.forall_mem_cons.mpr ⟨so_if_eq dX1_pass_35 (by decide) rfl, ?_⟩
  refine List.forall_mem_cons.mpr ⟨so_iinc dX1_pass_38 (by decide) rfl, ?_⟩
  refine List.forall_mem_cons.mpr ⟨so_iinc dX1_pass_41 (by decide) rfl, ?_⟩
  refine List.forall_mem_cons.mpr ⟨so_goto dX1_pass_44 (by decide), ?_⟩
  refine List.forall_mem_cons.mpr ⟨so_aload_n dX1_pass_47 rfl rfl, ?_⟩
  refine List.forall_mem_cons.mpr ⟨so_aload_n dX1_pass_48 rfl rfl, ?_⟩
  refine List.forall_mem_cons.mpr ⟨so_gI (C := RX1) (T := TX1) (N := 3) dX1_pass_49 (by decide) rfl rfl (by decide) rfl in_X1 wf_X1_22 rfl, ?_⟩
  refine List.forall_mem_cons.mpr ⟨so_iload_n dX1_pass_52 rfl rfl, ?_⟩
  refine List.forall_mem_cons.mpr ⟨so_iadd dX1_pass_53 rfl, ?_⟩
  refine List.forall_mem_cons.mpr ⟨so_ldc dX1_pass_54 wc_X1_45 rfl, ?_⟩
  refine List.forall_mem_cons.mpr ⟨so_cs dX1_pass_56 mv_J9_min_7cf53 wm_X1_46 ⟨rfl, rfl⟩ (by decide) rfl, ?_⟩
  refine List.forall_mem_cons.mpr ⟨so_pI (C := RX1) (T := TX1) (N := 3) dX1_pass_59 (by decide) rfl rfl (by decide) rfl in_X1 wf_X1_22 tyX1 tyX1_ok nmX1 rfl (by decide +kernel) rfl, ?_⟩
  refine List.forall_mem_cons.mpr ⟨so_aload_n dX1_pass_62 rfl rfl, ?_⟩
  refine List.forall_mem_cons.mpr ⟨so_dup dX1_pass_63 rfl, ?_⟩
  refine List.forall_mem_cons.mpr ⟨so_gI (C := RX1) (T := TX1) (N := 3) dX1_pass_64 (by decide) rfl rfl (by decide) rfl in_X1 wf_X1_18 rfl, ?_⟩
  refine List.forall_mem_cons.mpr ⟨so_iconst dX1_pass_67 (by decide) rfl, ?_⟩
  refine List.forall_mem_cons.mpr ⟨so_iadd dX1_pass_68 rfl, ?_⟩
  refine List.forall_mem_cons.mpr ⟨so_pI (C := RX1) (T := TX1) (N := 3) dX1_pass_69 (by decide) rfl rfl (by decide) rfl in_X1 wf_X1_18 tyX1 tyX1_ok nmX1 rfl (by decide +kernel) rfl, ?_⟩
  refine List.forall_mem_cons.mpr ⟨so_iload_n dX1_pass_72 rfl rfl, ?_⟩
  refine List.forall_mem_cons.mpr ⟨so_rI dX1_pass_73 rfl, ?_⟩
  exact fun _ h => absurd h List.not_mem_nil
theorem dX4_liesOn_0 : decode cX4_liesOn 0 = .ok (.aload_n 0, 1) := by decide +kernel
theorem dX4_liesOn_1 : decode cX4_liesOn 1 = .ok (.invokevirtual 22, 3) := by decide +kernel
theorem dX4_liesOn_4 : decode cX4_liesOn 4 = .ok (.ifCond .eq 15, 3) := by decide +kernel
theorem dX4_liesOn_7 : decode cX4_liesOn 7 = .ok (.aload_n 0, 1) := by decide +kernel
theorem dX4_liesOn_8 : decode cX4_liesOn 8 = .ok (.getfield 9, 3) := by decide +kernel
theorem dX4_liesOn_11 : decode cX4_liesOn 11 = .ok (.iload_n 1, 1) := by decide +kernel
theorem dX4_liesOn_12 : decode cX4_liesOn 12 = .ok (.if_icmp .ne 7, 3) := by decide +kernel
theorem dX4_liesOn_15 : decode cX4_liesOn 15 = .ok (.iconst 1, 1) := by decide +kernel
theorem dX4_liesOn_16 : decode cX4_liesOn 16 = .ok (.goto 4, 3) := by decide +kernel
theorem dX4_liesOn_19 : decode cX4_liesOn 19 = .ok (.iconst 0, 1) := by decide +kernel
theorem dX4_liesOn_20 : decode cX4_liesOn 20 = .ok (.ireturn, 1) := by decide +kernel
def T_X4_liesOn : tk_Tb := [(0, tk_al 0 1), (1, tk_cv 4 M_X4_lies 0 4), (4, tk_br (fun x => x = 0) 19 7), (7, tk_al 0 8), (8, tk_gI 4 0 11), (11, tk_il 1 12), (12, tk_cm (fun x y => x = y) 15 19), (15, tk_ic (1) 16), (16, tk_jmp 20), (19, tk_ic (0) 20), (20, tk_rZ)]
set_option maxRecDepth 100000 in
theorem hT_X4_liesOn (sc : Option (Nat × (Nat → Int32))) : ∀ x ∈ T_X4_liesOn, tk_So sc M_X4_liesOn x.1 x.2 := by
  unfold T_X4_liesOn
  refine List.forall_mem_cons.mpr ⟨so_aload_n dX4_liesOn_0 rfl rfl, ?_⟩
  refine List.forall_mem_cons.mpr ⟨so_cv (T := TX4) (N := 3) dX4_liesOn_1 mv_X4_lies wm_X4_22 (by decide) rfl ⟨rfl, rfl⟩ (by decide) rfl, ?_⟩
  refine List.forall_mem_cons.mpr ⟨so_if_eq dX4_liesOn_4 (by decide) rfl, ?_⟩
  refine List.forall_mem_cons.mpr ⟨so_aload_n dX4_liesOn_7 rfl rfl, ?_⟩
  refine List.forall_mem_cons.mpr ⟨so_gI (C := RX4) (T := TX4) (N := 3) dX4_liesOn_8 (by decide) rfl rfl (by decide) rfl in_X4 wf_X4_9 rfl, ?_⟩
  refine List.forall_mem_cons.mpr ⟨so_iload_n dX4_liesOn_11 rfl rfl, ?_⟩
  refine List.forall_mem_cons.mpr ⟨so_icmp_ne dX4_liesOn_12 (by decide) rfl, ?_⟩
  refine List.forall_mem_cons.mpr ⟨so_iconst dX4_liesOn_15 (by decide) rfl, ?_⟩
  refine List.forall_mem_cons.mpr ⟨so_goto dX4_liesOn_16 (by decide), ?_⟩
  refine List.forall_mem_cons.mpr ⟨so_iconst dX4_liesOn_19 (by decide) rfl, ?_⟩
  refine List.forall_mem_cons.mpr ⟨so_rZ dX4_liesOn_20 rfl, ?_⟩
  exact fun _ h => absurd h List.not_mem_nil
theorem dX1_lyingOn_0 : decode cX1_lyingOn 0 = .ok (.iconst 0, 1) := by decide +kernel
theorem dX1_lyingOn_1 : decode cX1_lyingOn 1 = .ok (.istore_n 3, 1) := by decide +kernel
theorem dX1_lyingOn_2 : decode cX1_lyingOn 2 = .ok (.iconst 0, 1) := by decide +kernel
theorem dX1_lyingOn_3 : decode cX1_lyingOn 3 = .ok (.istore 4, 2) := by decide +kernel
theorem dX1_lyingOn_5 : decode cX1_lyingOn 5 = .ok (.iload 4, 2) := by decide +kernel
theorem dX1_lyingOn_7 : decode cX1_lyingOn 7 = .ok (.iload_n 2, 1) := by decide +kernel
theorem dX1_lyingOn_8 : decode cX1_lyingOn 8 = .ok (.if_icmp .ge 30, 3) := by decide +kernel
theorem dX1_lyingOn_11 : decode cX1_lyingOn 11 = .ok (.aload_n 0, 1) := by decide +kernel
theorem dX1_lyingOn_12 : decode cX1_lyingOn 12 = .ok (.getfield 11, 3) := by decide +kernel
theorem dX1_lyingOn_15 : decode cX1_lyingOn 15 = .ok (.iload 4, 2) := by decide +kernel
theorem dX1_lyingOn_17 : decode cX1_lyingOn 17 = .ok (.aaload, 1) := by decide +kernel
theorem dX1_lyingOn_18 : decode cX1_lyingOn 18 = .ok (.iload_n 1, 1) := by decide +kernel
theorem dX1_lyingOn_19 : decode cX1_lyingOn 19 = .ok (.invokevirtual 52, 3) := by decide +kernel
theorem dX1_lyingOn_22 : decode cX1_lyingOn 22 = .ok (.ifCond .eq 10, 3) := by decide +kernel
theorem dX1_lyingOn_25 : decode cX1_lyingOn 25 = .ok (.iload_n 3, 1) := by decide +kernel
theorem dX1_lyingOn_26 : decode cX1_lyingOn 26 = .ok (.iconst 1, 1) := by decide +kernel
theorem dX1_lyingOn_27 : decode cX1_lyingOn 27 = .ok (.iload 4, 2) := by decide +kernel
theorem dX1_lyingOn_29 : decode cX1_lyingOn 29 = .ok (.ishl, 1) := by decide +kernel
theorem dX1_lyingOn_30 : decode cX1_lyingOn 30 = .ok (.ior, 1) := by decide +kernel
theorem dX1_lyingOn_31 : decode cX1_lyingOn 31 = .ok (.istore_n 3, 1) := by decide +kernel
theorem dX1_lyingOn_32 : decode cX1_lyingOn 32 = .ok (.iinc 4 1, 3) := by decide +kernel
theorem dX1_lyingOn_35 : decode cX1_lyingOn 35 = .ok (.goto (-30), 3) := by decide +kernel
theorem dX1_lyingOn_38 : decode cX1_lyingOn 38 = .ok (.iload_n 3, 1) := by decide +kernel
theorem dX1_lyingOn_39 : decode cX1_lyingOn 39 = .ok (.ireturn, 1) := by decide +kernel
def T_X1_lyingOn : tk_Tb := [(0, tk_ic (0) 1), (1, tk_sI 3 2), (2, tk_ic (0) 3), (3, tk_sI 4 5), (5, tk_il 4 7), (7, tk_il 2 8), (8, tk_cm (fun x y => y ≤ x) 38 11), (11, tk_al 0 12), (12, tk_gR 1 2 15), (15, tk_il 4 17), (17, tk_aa 11 18), (18, tk_il 1 19), (19, tk_cv 4 M_X4_liesOn 1 22), (22, tk_br (fun x => x = 0) 32 25), (25, tk_il 3 26), (26, tk_ic (1) 27), (27, tk_il 4 29), (29, tk_bi (fun x y => x <<< (y &&& 31)) 30), (30, tk_bi (fun x y => x ||| y) 31), (31, tk_sI 3 32), (32, tk_inc 4 (1) 35), (35, tk_jmp 5), (38, tk_il 3 39), (39, tk_rI)]
set_option maxRecDepth 100000 in
theorem hT_X1_lyingOn (sc : Option (Nat × (Nat → Int32))) : ∀ x ∈ T_X1_lyingOn, tk_So sc M_X1_lyingOn x.1 x.2 := by
  unfold T_X1_lyingOn
  refine List.forall_mem_cons.mpr ⟨so_iconst dX1_lyingOn_0 (by decide) rfl, ?_⟩
  refine List.forall_mem_cons.mpr ⟨so_istore_n dX1_lyingOn_1 rfl rfl, ?_⟩
  refine List.forall_mem_cons.mpr ⟨so_iconst dX1_lyingOn_2 (by decide) rfl, ?_⟩
  refine List.forall_mem_cons.mpr ⟨so_istore dX1_lyingOn_3 rfl, ?_⟩
  refine List.forall_mem_cons.mpr ⟨so_iload dX1_lyingOn_5 rfl, ?_⟩
  refine List.forall_mem_cons.mpr ⟨so_iload_n dX1_lyingOn_7 rfl rfl, ?_⟩
  refine List.forall_mem_cons.mpr ⟨so_icmp_ge dX1_lyingOn_8 (by decide) rfl, ?_⟩
  refine List.forall_mem_cons.mpr ⟨so_aload_n dX1_lyingOn_11 rfl rfl, ?_⟩
  refine List.forall_mem_cons.mpr ⟨so_gR (C := RX1) (T := TX1) (N := 3) dX1_lyingOn_12 (by decide) rfl rfl (by decide) rfl in_X1 wf_X1_11 rfl, ?_⟩
  refine List.forall_mem_cons.mpr ⟨so_iload dX1_lyingOn_15 rfl, ?_⟩
  refine List.forall_mem_cons.mpr ⟨so_aaT dX1_lyingOn_17 rfl, ?_⟩
  refine List.forall_mem_cons.mpr ⟨so_iload_n dX1_lyingOn_18 rfl rfl, ?_⟩
  refine List.forall_mem_cons.mpr ⟨so_cv (T := TX4) (N := 3) dX1_lyingOn_19 mv_X4_liesOn wm_X1_52 (by decide) rfl ⟨rfl, rfl⟩ (by decide) rfl, ?_⟩
  refine List.forall_mem_cons.mpr ⟨so_if_eq dX1_lyingOn_22 (by decide) rfl, ?_⟩
  refine List.forall_mem_cons.mpr ⟨so_iload_n dX1_lyingOn_25 rfl rfl, ?_⟩
  refine List.forall_mem_cons.mpr ⟨so_iconst dX1_lyingOn_26 (by decide) rfl, ?_⟩
  refine List.forall_mem_cons.mpr ⟨so_iload dX1_lyingOn_27 rfl, ?_⟩
  refine List.forall_mem_cons.mpr ⟨so_ishl dX1_lyingOn_29 rfl, ?_⟩
  refine List.forall_mem_cons.mpr ⟨so_ior dX1_lyingOn_30 rfl, ?_⟩
  refine List.forall_mem_cons.mpr ⟨so_istore_n dX1_lyingOn_31 rfl rfl, ?_⟩
  refine List.forall_mem_cons.mpr ⟨so_iinc dX1_lyingOn_32 (by decide) rfl, ?_⟩
  refine List.forall_mem_cons.mpr ⟨so_goto dX1_lyingOn_35 (by decide), ?_⟩
  refine List.forall_mem_cons.mpr ⟨so_iload_n dX1_lyingOn_38 rfl rfl, ?_⟩
  refine List.forall_mem_cons.mpr ⟨so_rI dX1_lyingOn_39 rfl, ?_⟩
  exact fun _ h => absurd h List.not_mem_nil
theorem dX1_tiedOf_0 : decode cX1_tiedOf 0 = .ok (.iconst 0, 1) := by decide +kernel
theorem dX1_tiedOf_1 : decode cX1_tiedOf 1 = .ok (.istore_n 2, 1) := by decide +kernel
theorem dX1_tiedOf_2 : decode cX1_tiedOf 2 = .ok (.iconst 0, 1) := by decide +kernel
theorem dX1_tiedOf_3 : decode cX1_tiedOf 3 = .ok (.istore_n 3, 1) := by decide +kernel
theorem dX1_tiedOf_4 : decode cX1_tiedOf 4 = .ok (.iload_n 3, 1) := by decide +kernel
theorem dX1_tiedOf_5 : decode cX1_tiedOf 5 = .ok (.iload_n 1, 1) := by decide +kernel
theorem dX1_tiedOf_6 : decode cX1_tiedOf 6 = .ok (.if_icmp .ge 24, 3) := by decide +kernel
theorem dX1_tiedOf_9 : decode cX1_tiedOf 9 = .ok (.aload_n 0, 1) := by decide +kernel
theorem dX1_tiedOf_10 : decode cX1_tiedOf 10 = .ok (.getfield 11, 3) := by decide +kernel
theorem dX1_tiedOf_13 : decode cX1_tiedOf 13 = .ok (.iload_n 3, 1) := by decide +kernel
theorem dX1_tiedOf_14 : decode cX1_tiedOf 14 = .ok (.aaload, 1) := by decide +kernel
theorem dX1_tiedOf_15 : decode cX1_tiedOf 15 = .ok (.getfield 56, 3) := by decide +kernel
theorem dX1_tiedOf_18 : decode cX1_tiedOf 18 = .ok (.ifCond .eq 6, 3) := by decide +kernel
theorem dX1_tiedOf_21 : decode cX1_tiedOf 21 = .ok (.iinc 2 1, 3) := by decide +kernel
theorem dX1_tiedOf_24 : decode cX1_tiedOf 24 = .ok (.iinc 3 1, 3) := by decide +kernel
theorem dX1_tiedOf_27 : decode cX1_tiedOf 27 = .ok (.goto (-23), 3) := by decide +kernel
theorem dX1_tiedOf_30 : decode cX1_tiedOf 30 = .ok (.iload_n 2, 1) := by decide +kernel
theorem dX1_tiedOf_31 : decode cX1_tiedOf 31 = .ok (.ireturn, 1) := by decide +kernel
def T_X1_tiedOf : tk_Tb := [(0, tk_ic (0) 1), (1, tk_sI 2 2), (2, tk_ic (0) 3), (3, tk_sI 3 4), (4, tk_il 3 5), (5, tk_il 1 6), (6, tk_cm (fun x y => y ≤ x) 30 9), (9, tk_al 0 10), (10, tk_gR 1 2 13), (13, tk_il 3 14), (14, tk_aa 11 15), (15, tk_gI 4 2 18), (18, tk_br (fun x => x = 0) 24 21), (21, tk_inc 2 (1) 24), (24, tk_inc 3 (1) 27), (27, tk_jmp 4), (30, tk_il 2 31), (31, tk_rI)]
set_option maxRecDepth 100000 in
theorem hT_X1_tiedOf (sc : Option (Nat × (Nat → Int32))) : ∀ x ∈ T_X1_tiedOf, tk_So sc M_X1_tiedOf x.1 x.2 := by
  unfold T_X1_tiedOf
  refine List.forall_mem_cons.mpr ⟨so_iconst dX1_tiedOf_0 (by decide) rfl, ?_⟩
  refine List.forall_mem_cons.mpr ⟨so_istore_n dX1_tiedOf_1 rfl rfl, ?_⟩
  refine List.forall_mem_cons.mpr ⟨so_iconst dX1_tiedOf_2 (by decide) rfl, ?_⟩
  refine List.forall_mem_cons.mpr ⟨so_istore_n dX1_tiedOf_3 rfl rfl, ?_⟩
  refine List.forall_mem_cons.mpr ⟨so_iload_n dX1_tiedOf_4 rfl rfl, ?_⟩
  refine List.forall_mem_cons.mpr ⟨so_iload_n dX1_tiedOf_5 rfl rfl, ?_⟩
  refine List.forall_mem_cons.mpr ⟨so_icmp_ge dX1_tiedOf_6 (by decide) rfl, ?_⟩
  refine List.forall_mem_cons.mpr ⟨so_aload_n dX1_tiedOf_9 rfl rfl, ?_⟩
  refine List.forall_mem_cons.mpr ⟨so_gR (C := RX1) (T := TX1) (N := 3) dX1_tiedOf_10 (by decide) rfl rfl (by decide) rfl in_X1 wf_X1_11 rfl, ?_⟩
  refine List.forall_mem_cons.mpr ⟨so_iload_n dX1_tiedOf_13 rfl rfl, ?_⟩
  refine List.forall_mem_cons.mpr ⟨so_aaT dX1_tiedOf_14 rfl, ?_⟩
  refine List.forall_mem_cons.mpr ⟨so_gI (C := RX4) (T := TX4) (N := 3) dX1_tiedOf_15 (by decide) rfl rfl (by decide) rfl in_X4 wf_X1_56 rfl, ?_⟩
  refine List.forall_mem_cons.mpr ⟨so_if_eq dX1_tiedOf_18 (by decide) rfl, ?_⟩
  refine List.forall_mem_cons.mpr ⟨so_iinc dX1_tiedOf_21 (by decide) rfl, ?_⟩
  refine List.forall_mem_cons.mpr ⟨so_iinc dX1_tiedOf_24 (by decide) rfl, ?_⟩
  refine List.forall_mem_cons.mpr ⟨so_goto dX1_tiedOf_27 (by decide), ?_⟩
  refine List.forall_mem_cons.mpr ⟨so_iload_n dX1_tiedOf_30 rfl rfl, ?_⟩
  refine List.forall_mem_cons.mpr ⟨so_rI dX1_tiedOf_31 rfl, ?_⟩
  exact fun _ h => absurd h List.not_mem_nil
theorem dX1_saveTo_0 : decode cX1_saveTo 0 = .ok (.aload_n 1, 1) := by decide +kernel
theorem dX1_saveTo_1 : decode cX1_saveTo 1 = .ok (.iconst 0, 1) := by decide +kernel
theorem dX1_saveTo_2 : decode cX1_saveTo 2 = .ok (.aload_n 0, 1) := by decide +kernel
theorem dX1_saveTo_3 : decode cX1_saveTo 3 = .ok (.getfield 18, 3) := by decide +kernel
theorem dX1_saveTo_6 : decode cX1_saveTo 6 = .ok (.iastore, 1) := by decide +kernel
theorem dX1_saveTo_7 : decode cX1_saveTo 7 = .ok (.aload_n 1, 1) := by decide +kernel
theorem dX1_saveTo_8 : decode cX1_saveTo 8 = .ok (.iconst 1, 1) := by decide +kernel
theorem dX1_saveTo_9 : decode cX1_saveTo 9 = .ok (.aload_n 0, 1) := by decide +kernel
theorem dX1_saveTo_10 : decode cX1_saveTo 10 = .ok (.getfield 22, 3) := by decide +kernel
theorem dX1_saveTo_13 : decode cX1_saveTo 13 = .ok (.iastore, 1) := by decide +kernel
theorem dX1_saveTo_14 : decode cX1_saveTo 14 = .ok (.iconst 0, 1) := by decide +kernel
theorem dX1_saveTo_15 : decode cX1_saveTo 15 = .ok (.istore_n 2, 1) := by decide +kernel
theorem dX1_saveTo_16 : decode cX1_saveTo 16 = .ok (.iload_n 2, 1) := by decide +kernel
theorem dX1_saveTo_17 : decode cX1_saveTo 17 = .ok (.iconst 5, 1) := by decide +kernel
theorem dX1_saveTo_18 : decode cX1_saveTo 18 = .ok (.if_icmp .ge 57, 3) := by decide +kernel
theorem dX1_saveTo_21 : decode cX1_saveTo 21 = .ok (.aload_n 0, 1) := by decide +kernel
theorem dX1_saveTo_22 : decode cX1_saveTo 22 = .ok (.getfield 11, 3) := by decide +kernel
theorem dX1_saveTo_25 : decode cX1_saveTo 25 = .ok (.iload_n 2, 1) := by decide +kernel
theorem dX1_saveTo_26 : decode cX1_saveTo 26 = .ok (.aaload, 1) := by decide +kernel
theorem dX1_saveTo_27 : decode cX1_saveTo 27 = .ok (.astore_n 3, 1) := by decide +kernel
theorem dX1_saveTo_28 : decode cX1_saveTo 28 = .ok (.aload_n 1, 1) := by decide +kernel
theorem dX1_saveTo_29 : decode cX1_saveTo 29 = .ok (.iconst 2, 1) := by decide +kernel
theorem dX1_saveTo_30 : decode cX1_saveTo 30 = .ok (.iconst 3, 1) := by decide +kernel
theorem dX1_saveTo_31 : decode cX1_saveTo 31 = .ok (.iload_n 2, 1) := by decide +kernel
theorem dX1_saveTo_32 : decode cX1_saveTo 32 = .ok (.imul, 1) := by decide +kernel
theorem dX1_saveTo_33 : decode cX1_saveTo 33 = .ok (.iadd, 1) := by decide +kernel
theorem dX1_saveTo_34 : decode cX1_saveTo 34 = .ok (.aload_n 3, 1) := by decide +kernel
theorem dX1_saveTo_35 : decode cX1_saveTo 35 = .ok (.getfield 60, 3) := by decide +kernel
theorem dX1_saveTo_38 : decode cX1_saveTo 38 = .ok (.iastore, 1) := by decide +kernel
theorem dX1_saveTo_39 : decode cX1_saveTo 39 = .ok (.aload_n 1, 1) := by decide +kernel
theorem dX1_saveTo_40 : decode cX1_saveTo 40 = .ok (.iconst 3, 1) := by decide +kernel
theorem dX1_saveTo_41 : decode cX1_saveTo 41 = .ok (.iconst 3, 1) := by decide +kernel
theorem dX1_saveTo_42 : decode cX1_saveTo 42 = .ok (.iload_n 2, 1) := by decide +kernel
theorem dX1_saveTo_43 : decode cX1_saveTo 43 = .ok (.imul, 1) := by decide +kernel
theorem dX1_saveTo_44 : decode cX1_saveTo 44 = .ok (.iadd, 1) := by decide +kernel
theorem dX1_saveTo_45 : decode cX1_saveTo 45 = .ok (.aload_n 3, 1) := by decide +kernel
theorem dX1_saveTo_46 : decode cX1_saveTo 46 = .ok (.getfield 63, 3) := by decide +kernel
theorem dX1_saveTo_49 : decode cX1_saveTo 49 = .ok (.iastore, 1) := by decide +kernel
theorem dX1_saveTo_50 : decode cX1_saveTo 50 = .ok (.aload_n 1, 1) := by decide +kernel
theorem dX1_saveTo_51 : decode cX1_saveTo 51 = .ok (.iconst 4, 1) := by decide +kernel
theorem dX1_saveTo_52 : decode cX1_saveTo 52 = .ok (.iconst 3, 1) := by decide +kernel
theorem dX1_saveTo_53 : decode cX1_saveTo 53 = .ok (.iload_n 2, 1) := by decide +kernel
theorem dX1_saveTo_54 : decode cX1_saveTo 54 = .ok (.imul, 1) := by decide +kernel
theorem dX1_saveTo_55 : decode cX1_saveTo 55 = .ok (.iadd, 1) := by decide +kernel
theorem dX1_saveTo_56 : decode cX1_saveTo 56 = .ok (.aload_n 3, 1) := by decide +kernel
theorem dX1_saveTo_57 : decode cX1_saveTo 57 = .ok (.getfield 56, 3) := by decide +kernel
theorem dX1_saveTo_60 : decode cX1_saveTo 60 = .ok (.ifCond .eq 7, 3) := by decide +kernel
theorem dX1_saveTo_63 : decode cX1_saveTo 63 = .ok (.iconst 1, 1) := by decide +kernel
theorem dX1_saveTo_64 : decode cX1_saveTo 64 = .ok (.goto 4, 3) := by decide +kernel
theorem dX1_saveTo_67 : decode cX1_saveTo 67 = .ok (.iconst 0, 1) := by decide +kernel
theorem dX1_saveTo_68 : decode cX1_saveTo 68 = .ok (.iastore, 1) := by decide +kernel
theorem dX1_saveTo_69 : decode cX1_saveTo 69 = .ok (.iinc 2 1, 3) := by decide +kernel
theorem dX1_saveTo_72 : decode cX1_saveTo 72 = .ok (.goto (-56), 3) := by decide +kernel
theorem dX1_saveTo_75 : decode cX1_saveTo 75 = .ok (.return_, 1) := by decide +kernel
def T_X1_saveTo : tk_Tb := [(0, tk_al 1 1), (1, tk_ic (0) 2), (2, tk_al 0 3), (3, tk_gI 1 0 6), (6, tk_si 9 (fun x => x) 7), (7, tk_al 1 8), (8, tk_ic (1) 9), (9, tk_al 0 10), (10, tk_gI 1 1 13), (13, tk_si 9 (fun x => x) 14), (14, tk_ic (0) 15), (15, tk_sI 2 16), (16, tk_il 2 17), (17, tk_ic (5) 18), (18, tk_cm (fun x y => y ≤ x) 75 21), (21, tk_al 0 22), (22, tk_gR 1 2 25), (25, tk_il 2 26), (26, tk_aa 11 27), (27, tk_sA 3 28), (28, tk_al 1 29), (29, tk_ic (2) 30), (30, tk_ic (3) 31), (31, tk_il 2 32), (32, tk_bi (fun x y => x * y) 33), (33, tk_bi (fun x y => x + y) 34), (34, tk_al 3 35), (35, tk_gI 4 0 38), (38, tk_si 9 (fun x => x) 39), (39, tk_al 1 40), (40, tk_ic (3) 41), (41, tk_ic (3) 42), (42, tk_il 2 43), (43, tk_bi (fun x y => x * y) 44), (44, tk_bi (fun x y => x + y) 45), (45, tk_al 3 46), (46, tk_gI 4 1 49), (49, tk_si 9 (fun x => x) 50), (50, tk_al 1 51), (51, tk_ic (4) 52), (52, tk_ic (3) 53), (53, tk_il 2 54), (54, tk_bi (fun x y => x * y) 55), (55, tk_bi (fun x y => x + y) 56), (56, tk_al 3 57), (57, tk_gI 4 2 60), (60, tk_br (fun x => x = 0) 67 63), (63, tk_ic (1) 64), (64, tk_jmp 68), (67, tk_ic (0) 68), (68, tk_si 9 (fun x => x) 69), (69, tk_inc 2 (1) 72), (72, tk_jmp 16), (75, tk_rV)]
set_option maxRecDepth 100000 in
theorem hT_X1_saveTo (sc : Option (Nat × (Nat → Int32))) : ∀ x ∈ T_X1_saveTo, tk_So sc M_X1_saveTo x.1 x.2 := by
  unfold T_X1_saveTo
  refine List.forall_mem_cons.mpr ⟨so_aload_n dX1_saveTo_0 rfl rfl, ?_⟩
  refine List.forall_mem_cons.mpr ⟨so_iconst dX1_saveTo_1 (by decide) rfl, ?_⟩
  refine List.forall_mem_cons.mpr ⟨so_aload_n dX1_saveTo_2 rfl rfl, ?_⟩
  refine List.forall_mem_cons.mpr ⟨so_gI (C := RX1) (T := TX1) (N := 3) dX1_saveTo_3 (by decide) rfl rfl (by decide) rfl in_X1 wf_X1_18 rfl, ?_⟩
  refine List.forall_mem_cons.mpr ⟨so_iastore dX1_saveTo_6 rfl, ?_⟩
  refine List.forall_mem_cons.mpr ⟨so_aload_n dX1_saveTo_7 rfl rfl, ?_⟩
  refine List.forall_mem_cons.mpr ⟨so_iconst dX1_saveTo_8 (by decide) rfl, ?_⟩
  refine List.forall_mem_cons.mpr ⟨so_aload_n dX1_saveTo_9 rfl rfl, ?_⟩
  refine List.forall_mem_cons.mpr ⟨so_gI (C := RX1) (T := TX1) (N := 3) dX1_saveTo_10 (by decide) rfl rfl (by decide) rfl in_X1 wf_X1_22 rfl, ?_⟩
  refine List.forall_mem_cons.mpr ⟨so_iastore dX1_saveTo_13 rfl, ?_⟩
  refine List.forall_mem_cons.mpr ⟨so_iconst dX1_saveTo_14 (by decide) rfl, ?_⟩
  refine List.forall_mem_cons.mpr ⟨so_istore_n dX1_saveTo_15 rfl rfl, ?_⟩
  refine List.forall_mem_cons.mpr ⟨so_iload_n dX1_saveTo_16 rfl rfl, ?_⟩
  refine List.forall_mem_cons.mpr ⟨so_iconst dX1_saveTo_17 (by decide) rfl, ?_⟩
  refine List.forall_mem_cons.mpr ⟨so_icmp_ge dX1_saveTo_18 (by decide) rfl, ?_⟩
  refine List.forall_mem_cons.mpr ⟨so_aload_n dX1_saveTo_21 rfl rfl, ?_⟩
  refine List.forall_mem_cons.mpr ⟨so_gR (C := RX1) (T := TX1) (N := 3) dX1_saveTo_22 (by decide) rfl rfl (by decide) rfl in_X1 wf_X1_11 rfl, ?_⟩
  refine List.forall_mem_cons.mpr ⟨so_iload_n dX1_saveTo_25 rfl rfl, ?_⟩
  refine List.forall_mem_cons.mpr ⟨so_aaT dX1_saveTo_26 rfl, ?_⟩
  refine List.forall_mem_cons.mpr ⟨so_astore_n dX1_saveTo_27 rfl rfl, ?_⟩
  refine List.forall_mem_cons.mpr ⟨so_aload_n dX1_saveTo_28 rfl rfl, ?_⟩
  refine List.forall_mem_cons.mpr ⟨so_iconst dX1_saveTo_29 (by decide) rfl, ?_⟩
  refine List.forall_mem_cons.mpr ⟨so_iconst dX1_saveTo_30 (by decide) rfl, ?_⟩
  refine List.forall_mem_cons.mpr ⟨so_iload_n dX1_saveTo_31 rfl rfl, ?_⟩
  refine List.forall_mem_cons.mpr ⟨so_imul dX1_saveTo_32 rfl, ?_⟩
  refine List.forall_mem_cons.mpr ⟨so_iadd dX1_saveTo_33 rfl, ?_⟩
  refine List.forall_mem_cons.mpr ⟨so_aload_n dX1_saveTo_34 rfl rfl, ?_⟩
  refine List.forall_mem_cons.mpr ⟨so_gI (C := RX4) (T := TX4) (N := 3) dX1_saveTo_35 (by decide) rfl rfl (by decide) rfl in_X4 wf_X1_60 rfl, ?_⟩
  refine List.forall_mem_cons.mpr ⟨so_iastore dX1_saveTo_38 rfl, ?_⟩
  refine List.forall_mem_cons.mpr ⟨so_aload_n dX1_saveTo_39 rfl rfl, ?_⟩
  refine List.forall_mem_cons.mpr ⟨so_iconst dX1_saveTo_40 (by decide) rfl, ?_⟩
  refine List.forall_mem_cons.mpr ⟨so_iconst dX1_saveTo_41 (by decide) rfl, ?_⟩
  refine List.forall_mem_cons.mpr ⟨so_iload_n dX1_saveTo_42 rfl rfl, ?_⟩
  refine List.forall_mem_cons.mpr ⟨so_imul dX1_saveTo_43 rfl, ?_⟩
  refine List.forall_mem_cons.mpr ⟨so_iadd dX1_saveTo_44 rfl, ?_⟩
  refine List.forall_mem_cons.mpr ⟨so_aload_n dX1_saveTo_45 rfl rfl, ?_⟩
  refine List.forall_mem_cons.mpr ⟨so_gI (C := RX4) (T := TX4) (N := 3) dX1_saveTo_46 (by decide) rfl rfl (by decide) rfl in_X4 wf_X1_63 rfl, ?_⟩
  refine List.forall_mem_cons.mpr ⟨so_iastore dX1_saveTo_49 rfl, ?_⟩
  refine List.forall_mem_cons.mpr ⟨so_aload_n dX1_saveTo_50 rfl rfl, ?_⟩
  refine List.forall_mem_cons.mpr ⟨so_iconst dX1_saveTo_51 (by decide) rfl, ?_⟩
  refine List.forall_mem_cons.mpr ⟨so_iconst dX1_saveTo_52 (by decide) rfl, ?_⟩
  refine List.forall_mem_cons.mpr ⟨so_iload_n dX1_saveTo_53 rfl rfl, ?_⟩
  refine List.forall_mem_cons.mpr ⟨so_imul dX1_saveTo_54 rfl, ?_⟩
  refine List.forall_mem_cons.mpr ⟨so_iadd dX1_saveTo_55 rfl, ?_⟩
  refine List.forall_mem_cons.mpr ⟨so_aload_n dX1_saveTo_56 rfl rfl, ?_⟩
  refine List.forall_mem_cons.mpr ⟨so_gI (C := RX4) (T := TX4) (N := 3) dX1_saveTo_57 (by decide) rfl rfl (by decide) rfl in_X4 wf_X1_56 rfl, ?_⟩
  refine List.forall_mem_cons.mpr ⟨so_if_eq dX1_saveTo_60 (by decide) rfl, ?_⟩
  refine List.forall_mem_cons.mpr ⟨so_iconst dX1_saveTo_63 (by decide) rfl, ?_⟩
  refine List.forall_mem_cons.mpr ⟨so_goto dX1_saveTo_64 (by decide), ?_⟩
  refine List.forall_mem_cons.mpr ⟨so_iconst dX1_saveTo_67 (by decide) rfl, ?_⟩
  refine List.forall_mem_cons.mpr ⟨so_iastore dX1_saveTo_68 rfl, ?_⟩
  refine List.forall_mem_cons.mpr ⟨so_iinc dX1_saveTo_69 (by decide) rfl, ?_⟩
  refine List.forall_mem_cons.mpr ⟨so_goto dX1_saveTo_72 (by decide), ?_⟩
  refine List.forall_mem_cons.mpr ⟨so_rV dX1_saveTo_75 rfl, ?_⟩
  exact fun _ h => absurd h List.not_mem_nil
theorem dX1_loadFrom_0 : decode cX1_loadFrom 0 = .ok (.aload_n 0, 1) := by decide +kernel
theorem dX1_loadFrom_1 : decode cX1_loadFrom 1 = .ok (.aload_n 1, 1) := by decide +kernel
theorem dX1_loadFrom_2 : decode cX1_loadFrom 2 = .ok (.iconst 0, 1) := by decide +kernel
theorem dX1_loadFrom_3 : decode cX1_loadFrom 3 = .ok (.iaload, 1) := by decide +kernel
theorem dX1_loadFrom_4 : decode cX1_loadFrom 4 = .ok (.putfield 18, 3) := by decide +kernel
theorem dX1_loadFrom_7 : decode cX1_loadFrom 7 = .ok (.aload_n 0, 1) := by decide +kernel
theorem dX1_loadFrom_8 : decode cX1_loadFrom 8 = .ok (.aload_n 1, 1) := by decide +kernel
theorem dX1_loadFrom_9 : decode cX1_loadFrom 9 = .ok (.iconst 1, 1) := by decide +kernel
theorem dX1_loadFrom_10 : decode cX1_loadFrom 10 = .ok (.iaload, 1) := by decide +kernel
theorem dX1_loadFrom_11 : decode cX1_loadFrom 11 = .ok (.putfield 22, 3) := by decide +kernel
theorem dX1_loadFrom_14 : decode cX1_loadFrom 14 = .ok (.iconst 0, 1) := by decide +kernel
theorem dX1_loadFrom_15 : decode cX1_loadFrom 15 = .ok (.istore_n 2, 1) := by decide +kernel
theorem dX1_loadFrom_16 : decode cX1_loadFrom 16 = .ok (.iload_n 2, 1) := by decide +kernel
theorem dX1_loadFrom_17 : decode cX1_loadFrom 17 = .ok (.iconst 5, 1) := by decide +kernel
theorem dX1_loadFrom_18 : decode cX1_loadFrom 18 = .ok (.if_icmp .ge 58, 3) := by decide +kernel
theorem dX1_loadFrom_21 : decode cX1_loadFrom 21 = .ok (.aload_n 0, 1) := by decide +kernel
theorem dX1_loadFrom_22 : decode cX1_loadFrom 22 = .ok (.getfield 11, 3) := by decide +kernel
theorem dX1_loadFrom_25 : decode cX1_loadFrom 25 = .ok (.iload_n 2, 1) := by decide +kernel
theorem dX1_loadFrom_26 : decode cX1_loadFrom 26 = .ok (.aaload, 1) := by decide +kernel
theorem dX1_loadFrom_27 : decode cX1_loadFrom 27 = .ok (.astore_n 3, 1) := by decide +kernel
theorem dX1_loadFrom_28 : decode cX1_loadFrom 28 = .ok (.aload_n 3, 1) := by decide +kernel
theorem dX1_loadFrom_29 : decode cX1_loadFrom 29 = .ok (.aload_n 1, 1) := by decide +kernel
theorem dX1_loadFrom_30 : decode cX1_loadFrom 30 = .ok (.iconst 2, 1) := by decide +kernel
theorem dX1_loadFrom_31 : decode cX1_loadFrom 31 = .ok (.iconst 3, 1) := by decide +kernel
theorem dX1_loadFrom_32 : decode cX1_loadFrom 32 = .ok (.iload_n 2, 1) := by decide +kernel
theorem dX1_loadFrom_33 : decode cX1_loadFrom 33 = .ok (.imul, 1) := by decide +kernel
theorem dX1_loadFrom_34 : decode cX1_loadFrom 34 = .ok (.iadd, 1) := by decide +kernel
theorem dX1_loadFrom_35 : decode cX1_loadFrom 35 = .ok (.iaload, 1) := by decide +kernel
theorem dX1_loadFrom_36 : decode cX1_loadFrom 36 = .ok (.putfield 60, 3) := by decide +kernel
theorem dX1_loadFrom_39 : decode cX1_loadFrom 39 = .ok (.aload_n 3, 1) := by decide +kernel
theorem dX1_loadFrom_40 : decode cX1_loadFrom 40 = .ok (.aload_n 1, 1) := by decide +kernel
theorem dX1_loadFrom_41 : decode cX1_loadFrom 41 = .ok (.iconst 3, 1) := by decide +kernel
theorem dX1_loadFrom_42 : decode cX1_loadFrom 42 = .ok (.iconst 3, 1) := by decide +kernel
theorem dX1_loadFrom_43 : decode cX1_loadFrom 43 = .ok (.iload_n 2, 1) := by decide +kernel
theorem dX1_loadFrom_44 : decode cX1_loadFrom 44 = .ok (.imul, 1) := by decide +kernel
theorem dX1_loadFrom_45 : decode cX1_loadFrom 45 = .ok (.iadd, 1) := by decide +kernel
theorem dX1_loadFrom_46 : decode cX1_loadFrom 46 = .ok (.iaload, 1) := by decide +kernel
theorem dX1_loadFrom_47 : decode cX1_loadFrom 47 = .ok (.putfield 63, 3) := by decide +kernel
theorem dX1_loadFrom_50 : decode cX1_loadFrom 50 = .ok (.aload_n 3, 1) := by decide +kernel
theorem dX1_loadFrom_51 : decode cX1_loadFrom 51 = .ok (.aload_n 1, 1) := by decide +kernel
theorem dX1_loadFrom_52 : decode cX1_loadFrom 52 = .ok (.iconst 4, 1) := by decide +kernel
theorem dX1_loadFrom_53 : decode cX1_loadFrom 53 = .ok (.iconst 3, 1) := by decide +kernel
theorem dX1_loadFrom_54 : decode cX1_loadFrom 54 = .ok (.iload_n 2, 1) := by decide +kernel
theorem dX1_loadFrom_55 : decode cX1_loadFrom 55 = .ok (.imul, 1) := by decide +kernel
theorem dX1_loadFrom_56 : decode cX1_loadFrom 56 = .ok (.iadd, 1) := by decide +kernel
theorem dX1_loadFrom_57 : decode cX1_loadFrom 57 = .ok (.iaload, 1) := by decide +kernel
theorem dX1_loadFrom_58 : decode cX1_loadFrom 58 = .ok (.iconst 1, 1) := by decide +kernel
theorem dX1_loadFrom_59 : decode cX1_loadFrom 59 = .ok (.if_icmp .ne 7, 3) := by decide +kernel
theorem dX1_loadFrom_62 : decode cX1_loadFrom 62 = .ok (.iconst 1, 1) := by decide +kernel
theorem dX1_loadFrom_63 : decode cX1_loadFrom 63 = .ok (.goto 4, 3) := by decide +kernel
theorem dX1_loadFrom_66 : decode cX1_loadFrom 66 = .ok (.iconst 0, 1) := by decide +kernel
theorem dX1_loadFrom_67 : decode cX1_loadFrom 67 = .ok (.putfield 56, 3) := by decide +kernel
theorem dX1_loadFrom_70 : decode cX1_loadFrom 70 = .ok (.iinc 2 1, 3) := by decide +kernel
theorem dX1_loadFrom_73 : decode cX1_loadFrom 73 = .ok (.goto (-57), 3) := by decide +kernel
theorem dX1_loadFrom_76 : decode cX1_loadFrom 76 = .ok (.return_, 1) := by decide +kernel
def T_X1_loadFrom : tk_Tb := [(0, tk_al 0 1), (1, tk_al 1 2), (2, tk_ic (0) 3), (3, tk_ai 9 4), (4, tk_pI 1 0 7), (7, tk_al 0 8), (8, tk_al 1 9), (9, tk_ic (1) 10), (10, tk_ai 9 11), (11, tk_pI 1 1 14), (14, tk_ic (0) 15), (15, tk_sI 2 16), (16, tk_il 2 17), (17, tk_ic (5) 18), (18, tk_cm (fun x y => y ≤ x) 76 21), (21, tk_al 0 22), (22, tk_gR 1 2 25), (25, tk_il 2 26), (26, tk_aa 11 27), (27, tk_sA 3 28), (28, tk_al 3 29), (29, tk_al 1 30), (30, tk_ic (2) 31), (31, tk_ic (3) 32), (32, tk_il 2 33), (33, tk_bi (fun x y => x * y) 34), (34, tk_bi (fun x y => x + y) 35), (35, tk_ai 9 36), (36, tk_pI 4 0 39), (39, tk_al 3 40), (40, tk_al 1 41), (41, tk_ic (3) 42), (42, tk_ic (3) 43), (43, tk_il 2 44), (44, tk_bi (fun x y => x * y) 45), (45, tk_bi (fun x y => x + y) 46), (46, tk_ai 9 47), (47, tk_pI 4 1 50), (50, tk_al 3 51), (51, tk_al 1 52), (52, tk_ic (4) 53), (53, tk_ic (3) 54), (54, tk_il 2 55), (55, tk_bi (fun x y => x * y) 56), (56, tk_bi (fun x y => x + y) 57), (57, tk_ai 9 58), (58, tk_ic (1) 59), (59, tk_cm (fun x y => x = y) 62 66), (62, tk_ic (1) 63), (63, tk_jmp 67), (66, tk_ic (0) 67), (67, tk_pZ 4 2 70), (70, tk_inc 2 (1) 73), (73, tk_jmp 16), (76, tk_rV)]
set_option maxRecDepth 100000 in
theorem hT_X1_loadFrom (sc : Option (Nat × (Nat → Int32))) : ∀ x ∈ T_X1_loadFrom, tk_So sc M_X1_loadFrom x.1 x.2 := by
  unfold T_X1_loadFrom
  refine List.forall_mem_cons.mpr ⟨so_aload_n dX1_loadFrom_0 rfl rfl, ?_⟩
  refine List.forall_mem_cons.mpr ⟨so_aload_n dX1_loadFrom_1 rfl rfl, ?_⟩
  refine List.forall_mem_cons.mpr ⟨so_iconst dX1_loadFrom_2 (by decide) rfl, ?_⟩
  refine List.forall_mem_cons.mpr ⟨so_iaload dX1_loadFrom_3 rfl, ?_⟩
  refine List.forall_mem_cons.mpr ⟨so_pI (C := RX1) (T := TX1) (N := 3) dX1_loadFrom_4 (by decide) rfl rfl (by decide) rfl in_X1 wf_X1_18 tyX1 tyX1_ok nmX1 rfl (by decide +kernel) rfl, ?_⟩
  refine List.forall_mem_cons.mpr ⟨so_aload_n dX1_loadFrom_7 rfl rfl, ?_⟩
  refine List.forall_mem_cons.mpr ⟨so_aload_n dX1_loadFrom_8 rfl rfl, ?_⟩
  refine List.forall_mem_cons.mpr ⟨so_iconst dX1_loadFrom_9 (by decide) rfl, ?_⟩
  refine List.forall_mem_cons.mpr ⟨so_iaload dX1_loadFrom_10 rfl, ?_⟩
  refine List.forall_mem_cons.mpr ⟨so_pI (C := RX1) (T := TX1) (N := 3) dX1_loadFrom_11 (by decide) rfl rfl (by decide) rfl in_X1 wf_X1_22 tyX1 tyX1_ok nmX1 rfl (by decide +kernel) rfl, ?_⟩
  refine List.forall_mem_cons.mpr ⟨so_iconst dX1_loadFrom_14 (by decide) rfl, ?_⟩
  refine List.forall_mem_cons.mpr ⟨so_istore_n dX1_loadFrom_15 rfl rfl, ?_⟩
  refine List.forall_mem_cons.mpr ⟨so_iload_n dX1_loadFrom_16 rfl rfl, ?_⟩
  refine List.forall_mem_cons.mpr ⟨so_iconst dX1_loadFrom_17 (by decide) rfl, ?_⟩
  refine List.forall_mem_cons.mpr ⟨so_icmp_ge dX1_loadFrom_18 (by decide) rfl, ?_⟩
  refine List.forall_mem_cons.mpr ⟨so_aload_n dX1_loadFrom_21 rfl rfl, ?_⟩
  refine List.forall_mem_cons.mpr ⟨so_gR (C := RX1) (T := TX1) (N := 3) dX1_loadFrom_22 (by decide) rfl rfl (by decide) rfl in_X1 wf_X1_11 rfl, ?_⟩
  refine List.forall_mem_cons.mpr ⟨so_iload_n dX1_loadFrom_25 rfl rfl, ?_⟩
  refine List.forall_mem_cons.mpr ⟨so_aaT dX1_loadFrom_26 rfl, ?_⟩
  refine List.forall_mem_cons.mpr ⟨so_astore_n dX1_loadFrom_27 rfl rfl, ?_⟩
  refine List.forall_mem_cons.mpr ⟨so_aload_n dX1_loadFrom_28 rfl rfl, ?_⟩
  refine List.forall_mem_cons.mpr ⟨so_aload_n dX1_loadFrom_29 rfl rfl, ?_⟩
  refine List.forall_mem_cons.mpr ⟨so_iconst dX1_loadFrom_30 (by decide) rfl, ?_⟩
  refine List.forall_mem_cons.mpr ⟨so_iconst dX1_loadFrom_31 (by decide) rfl, ?_⟩
  refine List.forall_mem_cons.mpr ⟨so_iload_n dX1_loadFrom_32 rfl rfl, ?_⟩
  refine List.forall_mem_cons.mpr ⟨so_imul dX1_loadFrom_33 rfl, ?_⟩
  refine List.forall_mem_cons.mpr ⟨so_iadd dX1_loadFrom_34 rfl, ?_⟩
  refine List.forall_mem_cons.mpr ⟨so_iaload dX1_loadFrom_35 rfl, ?_⟩
  refine List.forall_mem_cons.mpr ⟨so_pI (C := RX4) (T := TX4) (N := 3) dX1_loadFrom_36 (by decide) rfl rfl (by decide) rfl in_X4 wf_X1_60 tyX4 tyX4_ok nmX4 rfl (by decide +kernel) rfl, ?_⟩
  refine List.forall_mem_cons.mpr ⟨so_aload_n dX1_loadFrom_39 rfl rfl, ?_⟩
  refine List.forall_mem_cons.mpr ⟨so_aload_n dX1_loadFrom_40 rfl rfl, ?_⟩
  refine List.forall_mem_cons.mpr ⟨so_iconst dX1_loadFrom_41 (by decide) rfl, ?_⟩
  refine List.forall_mem_cons.mpr ⟨so_iconst dX1_loadFrom_42 (by decide) rfl, ?_⟩
  refine List.forall_mem_cons.mpr ⟨so_iload_n dX1_loadFrom_43 rfl rfl, ?_⟩
  refine List.forall_mem_cons.mpr ⟨so_imul dX1_loadFrom_44 rfl, ?_⟩
  refine List.forall_mem_cons.mpr ⟨so_iadd dX1_loadFrom_45 rfl, ?_⟩
  refine List.forall_mem_cons.mpr ⟨so_iaload dX1_loadFrom_46 rfl, ?_⟩
  refine List.forall_mem_cons.mpr ⟨so_pI (C := RX4) (T := TX4) (N := 3) dX1_loadFrom_47 (by decide) rfl rfl (by decide) rfl in_X4 wf_X1_63 tyX4 tyX4_ok nmX4 rfl (by decide +kernel) rfl, ?_⟩
  refine List.forall_mem_cons.mpr ⟨so_aload_n dX1_loadFrom_50 rfl rfl, ?_⟩
  refine List.forall_mem_cons.mpr ⟨so_aload_n dX1_loadFrom_51 rfl rfl, ?_⟩
  refine List.forall_mem_cons.mpr ⟨so_iconst dX1_loadFrom_52 (by decide) rfl, ?_⟩
  refine List.forall_mem_cons.mpr ⟨so_iconst dX1_loadFrom_53 (by decide) rfl, ?_⟩
  refine List.forall_mem_cons.mpr ⟨so_iload_n dX1_loadFrom_54 rfl rfl, ?_⟩
  refine List.forall_mem_cons.mpr ⟨so_imul dX1_loadFrom_55 rfl, ?_⟩
  refine List.forall_mem_cons.mpr ⟨so_iadd dX1_loadFrom_56 rfl, ?_⟩
  refine List.forall_mem_cons.mpr ⟨so_iaload dX1_loadFrom_57 rfl, ?_⟩
  refine List.forall_mem_cons.mpr ⟨so_iconst dX1_loadFrom_58 (by decide) rfl, ?_⟩
  refine List.forall_mem_cons.mpr ⟨so_icmp_ne dX1_loadFrom_59 (by decide) rfl, ?_⟩
  refine List.forall_mem_cons.mpr ⟨so_iconst dX1_loadFrom_62 (by decide) rfl, ?_⟩
  refine List.forall_mem_cons.mpr ⟨so_goto dX1_loadFrom_63 (by decide), ?_⟩
  refine List.forall_mem_cons.mpr ⟨so_iconst dX1_loadFrom_66 (by decide) rfl, ?_⟩
  refine List.forall_mem_cons.mpr ⟨so_pZ (C := RX4) (T := TX4) (N := 3) dX1_loadFrom_67 (by decide) rfl rfl (by decide) rfl in_X4 wf_X1_56 tyX4 tyX4_ok nmX4 rfl (by decide +kernel) rfl, ?_⟩
  refine List.forall_mem_cons.mpr ⟨so_iinc dX1_loadFrom_70 (by decide) rfl, ?_⟩
  refine List.forall_mem_cons.mpr ⟨so_goto dX1_loadFrom_73 (by decide), ?_⟩
  refine List.forall_mem_cons.mpr ⟨so_rV dX1_loadFrom_76 rfl, ?_⟩
  exact fun _ h => absurd h List.not_mem_nil
theorem dX2_init_0 : decode cX2_init 0 = .ok (.aload_n 0, 1) := by decide +kernel
theorem dX2_init_1 : decode cX2_init 1 = .ok (.invokespecial 3, 3) := by decide +kernel
theorem dX2_init_4 : decode cX2_init 4 = .ok (.aload_n 0, 1) := by decide +kernel
theorem dX2_init_5 : decode cX2_init 5 = .ok (.bipush 10, 2) := by decide +kernel
theorem dX2_init_7 : decode cX2_init 7 = .ok (.bipush 17, 2) := by decide +kernel
theorem dX2_init_9 : decode cX2_init 9 = .ok (.multianewarray 11 2, 4) := by decide +kernel
theorem dX2_init_13 : decode cX2_init 13 = .ok (.putfield 13, 3) := by decide +kernel
theorem dX2_init_16 : decode cX2_init 16 = .ok (.return_, 1) := by decide +kernel
def T_X2_init : tk_Tb := [(0, tk_al 0 1), (1, tk_oi 4), (4, tk_al 0 5), (5, tk_ic (10) 7), (7, tk_ic (17) 9), (9, tk_mna 13 11 180), (13, tk_pR 2 0 16), (16, tk_rV)]
set_option maxRecDepth 100000 in
theorem hT_X2_init (sc : Option (Nat × (Nat → Int32))) : ∀ x ∈ T_X2_init, tk_So sc M_X2_init x.1 x.2 := by
  unfold T_X2_init
  refine List.forall_mem_cons.mpr ⟨so_aload_n dX2_init_0 rfl rfl, ?_⟩
  refine List.forall_mem_cons.mpr ⟨so_oi dX2_init_1 wm_X2_3 wo_1 wo_2 (by decide) rfl, ?_⟩
  refine List.forall_mem_cons.mpr ⟨so_aload_n dX2_init_4 rfl rfl, ?_⟩
  refine List.forall_mem_cons.mpr ⟨so_bipush dX2_init_5 (by decide) rfl, ?_⟩
  refine List.forall_mem_cons.mpr ⟨so_bipush dX2_init_7 (by decide) rfl, ?_⟩
  refine List.forall_mem_cons.mpr ⟨so_mna dX2_init_9 wk_X2_11 wa_int rfl rfl rfl, ?_⟩
  refine List.forall_mem_cons.mpr ⟨so_pRF (ty := .array (.array .int)) (C := RX2) (T := TX2) (N := 3) dX2_init_13 (by decide) rfl rfl (by decide) rfl in_X2 wf_X2_13 tyX2 tyX2_ok nmX2 rfl rfl rfl (by decide +kernel) (fun _ => rfl) (fun _ => rfl) rfl, ?_⟩
  refine List.forall_mem_cons.mpr ⟨so_rV dX2_init_16 rfl, ?_⟩
  exact fun _ h => absurd h List.not_mem_nil
theorem dX2_nextRow_0 : decode cX2_nextRow 0 = .ok (.aload_n 0, 1) := by decide +kernel
theorem dX2_nextRow_1 : decode cX2_nextRow 1 = .ok (.getfield 13, 3) := by decide +kernel
theorem dX2_nextRow_4 : decode cX2_nextRow 4 = .ok (.aload_n 0, 1) := by decide +kernel
theorem dX2_nextRow_5 : decode cX2_nextRow 5 = .ok (.getfield 18, 3) := by decide +kernel
theorem dX2_nextRow_8 : decode cX2_nextRow 8 = .ok (.aaload, 1) := by decide +kernel
theorem dX2_nextRow_9 : decode cX2_nextRow 9 = .ok (.astore_n 1, 1) := by decide +kernel
theorem dX2_nextRow_10 : decode cX2_nextRow 10 = .ok (.aload_n 0, 1) := by decide +kernel
theorem dX2_nextRow_11 : decode cX2_nextRow 11 = .ok (.aload_n 0, 1) := by decide +kernel
theorem dX2_nextRow_12 : decode cX2_nextRow 12 = .ok (.getfield 18, 3) := by decide +kernel
theorem dX2_nextRow_15 : decode cX2_nextRow 15 = .ok (.iconst 1, 1) := by decide +kernel
theorem dX2_nextRow_16 : decode cX2_nextRow 16 = .ok (.iadd, 1) := by decide +kernel
theorem dX2_nextRow_17 : decode cX2_nextRow 17 = .ok (.bipush 10, 2) := by decide +kernel
theorem dX2_nextRow_19 : decode cX2_nextRow 19 = .ok (.irem, 1) := by decide +kernel
theorem dX2_nextRow_20 : decode cX2_nextRow 20 = .ok (.putfield 18, 3) := by decide +kernel
theorem dX2_nextRow_23 : decode cX2_nextRow 23 = .ok (.aload_n 0, 1) := by decide +kernel
theorem dX2_nextRow_24 : decode cX2_nextRow 24 = .ok (.aload_n 0, 1) := by decide +kernel
theorem dX2_nextRow_25 : decode cX2_nextRow 25 = .ok (.getfield 22, 3) := by decide +kernel
theorem dX2_nextRow_28 : decode cX2_nextRow 28 = .ok (.iconst 1, 1) := by decide +kernel
theorem dX2_nextRow_29 : decode cX2_nextRow 29 = .ok (.iadd, 1) := by decide +kernel
theorem dX2_nextRow_30 : decode cX2_nextRow 30 = .ok (.bipush 10, 2) := by decide +kernel
theorem dX2_nextRow_32 : decode cX2_nextRow 32 = .ok (.invokestatic 25, 3) := by decide +kernel
theorem dX2_nextRow_35 : decode cX2_nextRow 35 = .ok (.putfield 22, 3) := by decide +kernel
theorem dX2_nextRow_38 : decode cX2_nextRow 38 = .ok (.aload_n 1, 1) := by decide +kernel
theorem dX2_nextRow_39 : decode cX2_nextRow 39 = .ok (.areturn, 1) := by decide +kernel
def T_X2_nextRow : tk_Tb := [(0, tk_al 0 1), (1, tk_gR 2 0 4), (4, tk_al 0 5), (5, tk_gI 2 2 8), (8, tk_aa 12 9), (9, tk_sA 1 10), (10, tk_al 0 11), (11, tk_al 0 12), (12, tk_gI 2 2 15), (15, tk_ic (1) 16), (16, tk_bi (fun x y => x + y) 17), (17, tk_ic (10) 19), (19, tk_dv (fun x y => x - x / y * y) 20), (20, tk_pI 2 2 23), (23, tk_al 0 24), (24, tk_al 0 25), (25, tk_gI 2 1 28), (28, tk_ic (1) 29), (29, tk_bi (fun x y => x + y) 30), (30, tk_ic (10) 32), (32, tk_cs M_J9_min_7cf53 2 35), (35, tk_pI 2 1 38), (38, tk_al 1 39), (39, tk_rA)]
set_option maxRecDepth 100000 in
theorem hT_X2_nextRow (sc : Option (Nat × (Nat → Int32))) : ∀ x ∈ T_X2_nextRow, tk_So sc M_X2_nextRow x.1 x.2 := by
  unfold T_X2_nextRow
  refine List.forall_mem_cons.mpr ⟨so_aload_n dX2_nextRow_0 rfl rfl, ?_⟩
  refine List.forall_mem_cons.mpr ⟨so_gR (C := RX2) (T := TX2) (N := 3) dX2_nextRow_1 (by decide) rfl rfl (by decide) rfl in_X2 wf_X2_13 rfl, ?_⟩
  refine List.forall_mem_cons.mpr ⟨so_aload_n dX2_nextRow_4 rfl rfl, ?_⟩
  refine List.forall_mem_cons.mpr ⟨so_gI (C := RX2) (T := TX2) (N := 3) dX2_nextRow_5 (by decide) rfl rfl (by decide) rfl in_X2 wf_X2_18 rfl, ?_⟩
  refine List.forall_mem_cons.mpr ⟨so_aaI dX2_nextRow_8 rfl, ?_⟩
  refine List.forall_mem_cons.mpr ⟨so_astore_n dX2_nextRow_9 rfl rfl, ?_⟩
  refine List.forall_mem_cons.mpr ⟨so_aload_n dX2_nextRow_10 rfl rfl, ?_⟩
  refine List.forall_mem_cons.mpr ⟨so_aload_n dX2_nextRow_11 rfl rfl, ?_⟩
  refine List.forall_mem_cons.mpr ⟨so_gI (C := RX2) (T := TX2) (N := 3) dX2_nextRow_12 (by decide) rfl rfl (by decide) rfl in_X2 wf_X2_18 rfl, ?_⟩
  refine List.forall_mem_cons.mpr ⟨so_iconst dX2_nextRow_15 (by decide) rfl, ?_⟩
  refine List.forall_mem_cons.mpr ⟨so_iadd dX2_nextRow_16 rfl, ?_⟩
  refine List.forall_mem_cons.mpr ⟨so_bipush dX2_nextRow_17 (by decide) rfl, ?_⟩
  refine List.forall_mem_cons.mpr ⟨so_irem dX2_nextRow_19 rfl, ?_⟩
  refine List.forall_mem_cons.mpr ⟨so_pI (C := RX2) (T := TX2) (N := 3) dX2_nextRow_20 (by decide) rfl rfl (by decide) rfl in_X2 wf_X2_18 tyX2 tyX2_ok nmX2 rfl (by decide +kernel) rfl, ?_⟩
  refine List.forall_mem_cons.mpr ⟨so_aload_n dX2_nextRow_23 rfl rfl, ?_⟩
  refine List.forall_mem_cons.mpr ⟨so_aload_n dX2_nextRow_24 rfl rfl, ?_⟩
  refine List.forall_mem_cons.mpr ⟨so_gI (C := RX2) (T := TX2) (N := 3) dX2_nextRow_25 (by decide) rfl rfl (by decide) rfl in_X2 wf_X2_22 rfl, ?_⟩
  refine List.forall_mem_cons.mpr ⟨so_iconst dX2_nextRow_28 (by decide) rfl, ?_⟩
  refine List.forall_mem_cons.mpr ⟨so_iadd dX2_nextRow_29 rfl, ?_⟩
  refine List.forall_mem_cons.mpr ⟨so_bipush dX2_nextRow_30 (by decide) rfl, ?_⟩
  refine List.forall_mem_cons.mpr ⟨so_cs dX2_nextRow_32 mv_J9_min_7cf53 wm_X2_25 ⟨rfl, rfl⟩ (by decide) rfl, ?_⟩
  refine List.forall_mem_cons.mpr ⟨so_pI (C := RX2) (T := TX2) (N := 3) dX2_nextRow_35 (by decide) rfl rfl (by decide) rfl in_X2 wf_X2_22 tyX2 tyX2_ok nmX2 rfl (by decide +kernel) rfl, ?_⟩
  refine List.forall_mem_cons.mpr ⟨so_aload_n dX2_nextRow_38 rfl rfl, ?_⟩
  refine List.forall_mem_cons.mpr ⟨so_rA dX2_nextRow_39 rfl, ?_⟩
  exact fun _ h => absurd h List.not_mem_nil
theorem dJ9_max_7cf53_0 : decode cJ9_max_7cf53 0 = .ok (.iload_n 0, 1) := by decide +kernel
theorem dJ9_max_7cf53_1 : decode cJ9_max_7cf53 1 = .ok (.iload_n 1, 1) := by decide +kernel
theorem dJ9_max_7cf53_2 : decode cJ9_max_7cf53 2 = .ok (.if_icmp .lt 7, 3) := by decide +kernel
theorem dJ9_max_7cf53_5 : decode cJ9_max_7cf53 5 = .ok (.iload_n 0, 1) := by decide +kernel
theorem dJ9_max_7cf53_6 : decode cJ9_max_7cf53 6 = .ok (.goto 4, 3) := by decide +kernel
theorem dJ9_max_7cf53_9 : decode cJ9_max_7cf53 9 = .ok (.iload_n 1, 1) := by decide +kernel
theorem dJ9_max_7cf53_10 : decode cJ9_max_7cf53 10 = .ok (.ireturn, 1) := by decide +kernel
def T_J9_max_7cf53 : tk_Tb := [(0, tk_il 0 1), (1, tk_il 1 2), (2, tk_cm (fun x y => x < y) 9 5), (5, tk_il 0 6), (6, tk_jmp 10), (9, tk_il 1 10), (10, tk_rI)]
set_option maxRecDepth 100000 in
theorem hT_J9_max_7cf53 (sc : Option (Nat × (Nat → Int32))) : ∀ x ∈ T_J9_max_7cf53, tk_So sc M_J9_max_7cf53 x.1 x.2 := by
  unfold T_J9_max_7cf53
  refine List.forall_mem_cons.mpr ⟨so_iload_n dJ9_max_7cf53_0 rfl rfl, ?_⟩
  refine List.forall_mem_cons.mpr ⟨so_iload_n dJ9_max_7cf53_1 rfl rfl, ?_⟩
  refine List.forall_mem_cons.mpr ⟨so_icmp_lt dJ9_max_7cf53_2 (by decide) rfl, ?_⟩
  refine List.forall_mem_cons.mpr ⟨so_iload_n dJ9_max_7cf53_5 rfl rfl, ?_⟩
  refine List.forall_mem_cons.mpr ⟨so_goto dJ9_max_7cf53_6 (by decide), ?_⟩
  refine List.forall_mem_cons.mpr ⟨so_iload_n dJ9_max_7cf53_9 rfl rfl, ?_⟩
  refine List.forall_mem_cons.mpr ⟨so_rI dJ9_max_7cf53_10 rfl, ?_⟩
  exact fun _ h => absurd h List.not_mem_nil
theorem dX2_latestRow_0 : decode cX2_latestRow 0 = .ok (.aload_n 0, 1) := by decide +kernel
theorem dX2_latestRow_1 : decode cX2_latestRow 1 = .ok (.aload_n 0, 1) := by decide +kernel
theorem dX2_latestRow_2 : decode cX2_latestRow 2 = .ok (.getfield 18, 3) := by decide +kernel
theorem dX2_latestRow_5 : decode cX2_latestRow 5 = .ok (.bipush 10, 2) := by decide +kernel
theorem dX2_latestRow_7 : decode cX2_latestRow 7 = .ok (.iadd, 1) := by decide +kernel
theorem dX2_latestRow_8 : decode cX2_latestRow 8 = .ok (.iconst 1, 1) := by decide +kernel
theorem dX2_latestRow_9 : decode cX2_latestRow 9 = .ok (.isub, 1) := by decide +kernel
theorem dX2_latestRow_10 : decode cX2_latestRow 10 = .ok (.bipush 10, 2) := by decide +kernel
theorem dX2_latestRow_12 : decode cX2_latestRow 12 = .ok (.irem, 1) := by decide +kernel
theorem dX2_latestRow_13 : decode cX2_latestRow 13 = .ok (.putfield 18, 3) := by decide +kernel
theorem dX2_latestRow_16 : decode cX2_latestRow 16 = .ok (.aload_n 0, 1) := by decide +kernel
theorem dX2_latestRow_17 : decode cX2_latestRow 17 = .ok (.aload_n 0, 1) := by decide +kernel
theorem dX2_latestRow_18 : decode cX2_latestRow 18 = .ok (.getfield 22, 3) := by decide +kernel
theorem dX2_latestRow_21 : decode cX2_latestRow 21 = .ok (.iconst 1, 1) := by decide +kernel
theorem dX2_latestRow_22 : decode cX2_latestRow 22 = .ok (.isub, 1) := by decide +kernel
theorem dX2_latestRow_23 : decode cX2_latestRow 23 = .ok (.iconst 0, 1) := by decide +kernel
theorem dX2_latestRow_24 : decode cX2_latestRow 24 = .ok (.invokestatic 31, 3) := by decide +kernel
theorem dX2_latestRow_27 : decode cX2_latestRow 27 = .ok (.putfield 22, 3) := by decide +kernel
theorem dX2_latestRow_30 : decode cX2_latestRow 30 = .ok (.aload_n 0, 1) := by decide +kernel
theorem dX2_latestRow_31 : decode cX2_latestRow 31 = .ok (.getfield 13, 3) := by decide +kernel
theorem dX2_latestRow_34 : decode cX2_latestRow 34 = .ok (.aload_n 0, 1) := by decide +kernel
theorem dX2_latestRow_35 : decode cX2_latestRow 35 = .ok (.getfield 18, 3) := by decide +kernel
theorem dX2_latestRow_38 : decode cX2_latestRow 38 = .ok (.aaload, 1) := by decide +kernel
theorem dX2_latestRow_39 : decode cX2_latestRow 39 = .ok (.areturn, 1) := by decide +kernel
def T_X2_latestRow : tk_Tb := [(0, tk_al 0 1), (1, tk_al 0 2), (2, tk_gI 2 2 5), (5, tk_ic (10) 7), (7, tk_bi (fun x y => x + y) 8), (8, tk_ic (1) 9), (9, tk_bi (fun x y => x - y) 10), (10, tk_ic (10) 12), (12, tk_dv (fun x y => x - x / y * y) 13), (13, tk_pI 2 2 16), (16, tk_al 0 17), (17, tk_al 0 18), (18, tk_gI 2 1 21), (21, tk_ic (1) 22), (22, tk_bi (fun x y => x - y) 23), (23, tk_ic (0) 24), (24, tk_cs M_J9_max_7cf53 2 27), (27, tk_pI 2 1 30), (30, tk_al 0 31), (31, tk_gR 2 0 34), (34, tk_al 0 35), (35, tk_gI 2 2 38), (38, tk_aa 12 39), (39, tk_rA)]
set_option maxRecDepth 100000 in
theorem hT_X2_latestRow (sc : Option (Nat × (Nat → Int32))) : ∀ x ∈ T_X2_latestRow, tk_So sc M_X2_latestRow x.1 x.2 := by
  unfold T_X2_latestRow
  refine List.forall_mem_cons.mpr ⟨so_aload_n dX2_latestRow_0 rfl rfl, ?_⟩
  refine List.forall_mem_cons.mpr ⟨so_aload_n dX2_latestRow_1 rfl rfl, ?_⟩
  refine List.forall_mem_cons.mpr ⟨so_gI (C := RX2) (T := TX2) (N := 3) dX2_latestRow_2 (by decide) rfl rfl (by decide) rfl in_X2 wf_X2_18 rfl, ?_⟩
  refine List.forall_mem_cons.mpr ⟨so_bipush dX2_latestRow_5 (by decide) rfl, ?_⟩
  refine List.forall_mem_cons.mpr ⟨so_iadd dX2_latestRow_7 rfl, ?_⟩
  refine List.forall_mem_cons.mpr ⟨so_iconst dX2_latestRow_8 (by decide) rfl, ?_⟩
  refine List.forall_mem_cons.mpr ⟨so_isub dX2_latestRow_9 rfl, ?_⟩
  refine List.forall_mem_cons.mpr ⟨so_bipush dX2_latestRow_10 (by decide) rfl, ?_⟩
  refine List.forall_mem_cons.mpr ⟨so_irem dX2_latestRow_12 rfl, ?_⟩
  refine List.forall_mem_cons.mpr ⟨so_pI (C := RX2) (T := TX2) (N := 3) dX2_latestRow_13 (by decide) rfl rfl (by decide) rfl in_X2 wf_X2_18 tyX2 tyX2_ok nmX2 rfl (by decide +kernel) rfl, ?_⟩
  refine List.forall_mem_cons.mpr ⟨so_aload_n dX2_latestRow_16 rfl rfl, ?_⟩
  refine List.forall_mem_cons.mpr ⟨so_aload_n dX2_latestRow_17 rfl rfl, ?_⟩
  refine List.forall_mem_cons.mpr ⟨so_gI (C := RX2) (T := TX2) (N := 3) dX2_latestRow_18 (by decide) rfl rfl (by decide) rfl in_X2 wf_X2_22 rfl, ?_⟩
  refine List.forall_mem_cons.mpr ⟨so_iconst dX2_latestRow_21 (by decide) rfl, ?_⟩
  refine List.forall_mem_cons.mpr ⟨so_isub dX2_latestRow_22 rfl, ?_⟩
  refine List.forall_mem_cons.mpr ⟨so_iconst dX2_latestRow_23 (by decide) rfl, ?_⟩
  refine List.forall_mem_cons.mpr ⟨so_cs dX2_latestRow_24 mv_J9_max_7cf53 wm_X2_31 ⟨rfl, rfl⟩ (by decide) rfl, ?_⟩
  refine List.forall_mem_cons.mpr ⟨so_pI (C := RX2) (T := TX2) (N := 3) dX2_latestRow_27 (by decide) rfl rfl (by decide) rfl in_X2 wf_X2_22 tyX2 tyX2_ok nmX2 rfl (by decide +kernel) rfl, ?_⟩
  refine List.forall_mem_cons.mpr ⟨so_aload_n dX2_latestRow_30 rfl rfl, ?_⟩
  refine List.forall_mem_cons.mpr ⟨so_gR (C := RX2) (T := TX2) (N := 3) dX2_latestRow_31 (by decide) rfl rfl (by decide) rfl in_X2 wf_X2_13 rfl, ?_⟩
  refine List.forall_mem_cons.mpr ⟨so_aload_n dX2_latestRow_34 rfl rfl, ?_⟩
  refine List.forall_mem_cons.mpr ⟨so_gI (C := RX2) (T := TX2) (N := 3) dX2_latestRow_35 (by decide) rfl rfl (by decide) rfl in_X2 wf_X2_18 rfl, ?_⟩
  refine List.forall_mem_cons.mpr ⟨so_aaI dX2_latestRow_38 rfl, ?_⟩
  refine List.forall_mem_cons.mpr ⟨so_rA dX2_latestRow_39 rfl, ?_⟩
  exact fun _ h => absurd h List.not_mem_nil
theorem dX2_lose_0 : decode cX2_lose 0 = .ok (.aload_n 0, 1) := by decide +kernel
theorem dX2_lose_1 : decode cX2_lose 1 = .ok (.iconst 0, 1) := by decide +kernel
theorem dX2_lose_2 : decode cX2_lose 2 = .ok (.putfield 22, 3) := by decide +kernel
theorem dX2_lose_5 : decode cX2_lose 5 = .ok (.return_, 1) := by decide +kernel
def T_X2_lose : tk_Tb := [(0, tk_al 0 1), (1, tk_ic (0) 2), (2, tk_pI 2 1 5), (5, tk_rV)]
set_option maxRecDepth 100000 in
theorem hT_X2_lose (sc : Option (Nat × (Nat → Int32))) : ∀ x ∈ T_X2_lose, tk_So sc M_X2_lose x.1 x.2 := by
  unfold T_X2_lose
  refine List.forall_mem_cons.mpr ⟨so_aload_n dX2_lose_0 rfl rfl, ?_⟩
  refine List.forall_mem_cons.mpr ⟨so_iconst dX2_lose_1 (by decide) rfl, ?_⟩
  refine List.forall_mem_cons.mpr ⟨so_pI (C := RX2) (T := TX2) (N := 3) dX2_lose_2 (by decide) rfl rfl (by decide) rfl in_X2 wf_X2_22 tyX2 tyX2_ok nmX2 rfl (by decide +kernel) rfl, ?_⟩
  refine List.forall_mem_cons.mpr ⟨so_rV dX2_lose_5 rfl, ?_⟩
  exact fun _ h => absurd h List.not_mem_nil
theorem dX3_init_0 : decode cX3_init 0 = .ok (.aload_n 0, 1) := by decide +kernel
theorem dX3_init_1 : decode cX3_init 1 = .ok (.invokespecial 3, 3) := by decide +kernel
theorem dX3_init_4 : decode cX3_init 4 = .ok (.aload_n 0, 1) := by decide +kernel
theorem dX3_init_5 : decode cX3_init 5 = .ok (.sipush 150, 3) := by decide +kernel
theorem dX3_init_8 : decode cX3_init 8 = .ok (.newarray .char, 2) := by decide +kernel
theorem dX3_init_10 : decode cX3_init 10 = .ok (.putfield 9, 3) := by decide +kernel
theorem dX3_init_13 : decode cX3_init 13 = .ok (.return_, 1) := by decide +kernel
def T_X3_init : tk_Tb := [(0, tk_al 0 1), (1, tk_oi 4), (4, tk_al 0 5), (5, tk_ic (150) 8), (8, tk_nwa 8 10 1 150), (10, tk_pR 3 0 13), (13, tk_rV)]
set_option maxRecDepth 100000 in
theorem hT_X3_init (sc : Option (Nat × (Nat → Int32))) : ∀ x ∈ T_X3_init, tk_So sc M_X3_init x.1 x.2 := by
  unfold T_X3_init
  refine List.forall_mem_cons.mpr ⟨so_aload_n dX3_init_0 rfl rfl, ?_⟩
  refine List.forall_mem_cons.mpr ⟨so_oi dX3_init_1 wm_X3_3 wo_1 wo_2 (by decide) rfl, ?_⟩
  refine List.forall_mem_cons.mpr ⟨so_aload_n dX3_init_4 rfl rfl, ?_⟩
  refine List.forall_mem_cons.mpr ⟨so_sipush dX3_init_5 (by decide) rfl, ?_⟩
  refine List.forall_mem_cons.mpr ⟨so_nwC dX3_init_8 rfl wa_char rfl rfl rfl, ?_⟩
  refine List.forall_mem_cons.mpr ⟨so_pRF (ty := .array .char) (C := RX3) (T := TX3) (N := 7) dX3_init_10 (by decide) rfl rfl (by decide) rfl in_X3 wf_X3_9 tyX3 tyX3_ok nmX3 rfl rfl rfl (by decide +kernel) (fun _ => rfl) (fun _ => rfl) rfl, ?_⟩
  refine List.forall_mem_cons.mpr ⟨so_rV dX3_init_13 rfl, ?_⟩
  exact fun _ h => absurd h List.not_mem_nil
theorem dX3_add_0 : decode cX3_add 0 = .ok (.aload_n 0, 1) := by decide +kernel
theorem dX3_add_1 : decode cX3_add 1 = .ok (.getfield 15, 3) := by decide +kernel
theorem dX3_add_4 : decode cX3_add 4 = .ok (.sipush 150, 3) := by decide +kernel
theorem dX3_add_7 : decode cX3_add 7 = .ok (.if_icmp .lt 6, 3) := by decide +kernel
theorem dX3_add_10 : decode cX3_add 10 = .ok (.bipush (-3), 2) := by decide +kernel
theorem dX3_add_12 : decode cX3_add 12 = .ok (.ireturn, 1) := by decide +kernel
theorem dX3_add_13 : decode cX3_add 13 = .ok (.aload_n 0, 1) := by decide +kernel
theorem dX3_add_14 : decode cX3_add 14 = .ok (.getfield 9, 3) := by decide +kernel
theorem dX3_add_17 : decode cX3_add 17 = .ok (.aload_n 0, 1) := by decide +kernel
theorem dX3_add_18 : decode cX3_add 18 = .ok (.getfield 15, 3) := by decide +kernel
theorem dX3_add_21 : decode cX3_add 21 = .ok (.iload_n 1, 1) := by decide +kernel
theorem dX3_add_22 : decode cX3_add 22 = .ok (.i2c, 1) := by decide +kernel
theorem dX3_add_23 : decode cX3_add 23 = .ok (.castore, 1) := by decide +kernel
theorem dX3_add_24 : decode cX3_add 24 = .ok (.aload_n 0, 1) := by decide +kernel
theorem dX3_add_25 : decode cX3_add 25 = .ok (.dup, 1) := by decide +kernel
theorem dX3_add_26 : decode cX3_add 26 = .ok (.getfield 15, 3) := by decide +kernel
theorem dX3_add_29 : decode cX3_add 29 = .ok (.iconst 1, 1) := by decide +kernel
theorem dX3_add_30 : decode cX3_add 30 = .ok (.iadd, 1) := by decide +kernel
theorem dX3_add_31 : decode cX3_add 31 = .ok (.putfield 15, 3) := by decide +kernel
theorem dX3_add_34 : decode cX3_add 34 = .ok (.aload_n 0, 1) := by decide +kernel
theorem dX3_add_35 : decode cX3_add 35 = .ok (.getfield 15, 3) := by decide +kernel
theorem dX3_add_38 : decode cX3_add 38 = .ok (.ireturn, 1) := by decide +kernel
def T_X3_add : tk_Tb := [(0, tk_al 0 1), (1, tk_gI 3 1 4), (4, tk_ic (150) 7), (7, tk_cm (fun x y => x < y) 13 10), (10, tk_ic (-3) 12), (12, tk_rI), (13, tk_al 0 14), (14, tk_gR 3 0 17), (17, tk_al 0 18), (18, tk_gI 3 1 21), (21, tk_il 1 22), (22, tk_un (fun x => (x.toUInt32 % 65536).toInt32) 23), (23, tk_si 8 (vp_nar .char) 24), (24, tk_al 0 25), (25, tk_dup 26), (26, tk_gI 3 1 29), (29, tk_ic (1) 30), (30, tk_bi (fun x y => x + y) 31), (31, tk_pI 3 1 34), (34, tk_al 0 35), (35, tk_gI 3 1 38), (38, tk_rI)]
set_option maxRecDepth 100000 in
theorem hT_X3_add (sc : Option (Nat × (Nat → Int32))) : ∀ x ∈ T_X3_add, tk_So sc M_X3_add x.1 x.2 := by
  unfold T_X3_add
  refine List.forall_mem_cons.mpr ⟨so_aload_n dX3_add_0 rfl rfl, ?_⟩
  refine List.forall_mem_cons.mpr ⟨so_gI (C := RX3) (T := TX3) (N := 7) dX3_add_1 (by decide) rfl rfl (by decide) rfl in_X3 wf_X3_15 rfl, ?_⟩
  refine List.forall_mem_cons.mpr ⟨so_sipush dX3_add_4 (by decide) rfl, ?_⟩
  refine List.forall_mem_cons.mpr ⟨so_icmp_lt dX3_add_7 (by decide) rfl, ?_⟩
  refine List.forall_mem_cons.mpr ⟨so_bipush dX3_add_10 (by decide) rfl, ?_⟩
  refine List.forall_mem_cons.mpr ⟨so_rI dX3_add_12 rfl, ?_⟩
  refine List.forall_mem_cons.mpr ⟨so_aload_n dX3_add_13 rfl rfl, ?_⟩
  refine List.forall_mem_cons.mpr ⟨so_gR (C := RX3) (T := TX3) (N := 7) dX3_add_14 (by decide) rfl rfl (by decide) rfl in_X3 wf_X3_9 rfl, ?_⟩
  refine List.forall_mem_cons.mpr ⟨so_aload_n dX3_add_17 rfl rfl, ?_⟩
  refine List.forall_mem_cons.mpr ⟨so_gI (C := RX3) (T := TX3) (N := 7) dX3_add_18 (by decide) rfl rfl (by decide) rfl in_X3 wf_X3_15 rfl, ?_⟩
  refine List.forall_mem_cons.mpr ⟨so_iload_n dX3_add_21 rfl rfl, ?_⟩
  refine List.forall_mem_cons.mpr ⟨so_i2c dX3_add_22 rfl, ?_⟩
  refine List.forall_mem_cons.mpr ⟨so_castore dX3_add_23 rfl, ?_⟩
  refine List.forall_mem_cons.mpr ⟨so_aload_n dX3_add_24 rfl rfl, ?_⟩
  refine List.forall_mem_cons.mpr ⟨so_dup dX3_add_25 rfl, ?_⟩
  refine List.forall_mem_cons.mpr ⟨so_gI (C := RX3) (T := TX3) (N := 7) dX3_add_26 (by decide) rfl rfl (by decide) rfl in_X3 wf_X3_15 rfl, ?_⟩
  refine List.forall_mem_cons.mpr ⟨so_iconst dX3_add_29 (by decide) rfl, ?_⟩
  refine List.forall_mem_cons.mpr ⟨so_iadd dX3_add_30 rfl, ?_⟩
  refine List.forall_mem_cons.mpr ⟨so_pI (C := RX3) (T := TX3) (N := 7) dX3_add_31 (by decide) rfl rfl (by decide) rfl in_X3 wf_X3_15 tyX3 tyX3_ok nmX3 rfl (by decide +kernel) rfl, ?_⟩
  refine List.forall_mem_cons.mpr ⟨so_aload_n dX3_add_34 rfl rfl, ?_⟩
  refine List.forall_mem_cons.mpr ⟨so_gI (C := RX3) (T := TX3) (N := 7) dX3_add_35 (by decide) rfl rfl (by decide) rfl in_X3 wf_X3_15 rfl, ?_⟩
  refine List.forall_mem_cons.mpr ⟨so_rI dX3_add_38 rfl, ?_⟩
  exact fun _ h => absurd h List.not_mem_nil
theorem dX3_empty_0 : decode cX3_empty 0 = .ok (.aload_n 0, 1) := by decide +kernel
theorem dX3_empty_1 : decode cX3_empty 1 = .ok (.getfield 15, 3) := by decide +kernel
theorem dX3_empty_4 : decode cX3_empty 4 = .ok (.istore_n 1, 1) := by decide +kernel
theorem dX3_empty_5 : decode cX3_empty 5 = .ok (.aload_n 0, 1) := by decide +kernel
theorem dX3_empty_6 : decode cX3_empty 6 = .ok (.iconst 0, 1) := by decide +kernel
theorem dX3_empty_7 : decode cX3_empty 7 = .ok (.putfield 15, 3) := by decide +kernel
theorem dX3_empty_10 : decode cX3_empty 10 = .ok (.iload_n 1, 1) := by decide +kernel
theorem dX3_empty_11 : decode cX3_empty 11 = .ok (.ireturn, 1) := by decide +kernel
def T_X3_empty : tk_Tb := [(0, tk_al 0 1), (1, tk_gI 3 1 4), (4, tk_sI 1 5), (5, tk_al 0 6), (6, tk_ic (0) 7), (7, tk_pI 3 1 10), (10, tk_il 1 11), (11, tk_rI)]
set_option maxRecDepth 100000 in
theorem hT_X3_empty (sc : Option (Nat × (Nat → Int32))) : ∀ x ∈ T_X3_empty, tk_So sc M_X3_empty x.1 x.2 := by
  unfold T_X3_empty
  refine List.forall_mem_cons.mpr ⟨so_aload_n dX3_empty_0 rfl rfl, ?_⟩
  refine List.forall_mem_cons.mpr ⟨so_gI (C := RX3) (T := TX3) (N := 7) dX3_empty_1 (by decide) rfl rfl (by decide) rfl in_X3 wf_X3_15 rfl, ?_⟩
  refine List.forall_mem_cons.mpr ⟨so_istore_n dX3_empty_4 rfl rfl, ?_⟩
  refine List.forall_mem_cons.mpr ⟨so_aload_n dX3_empty_5 rfl rfl, ?_⟩
  refine List.forall_mem_cons.mpr ⟨so_iconst dX3_empty_6 (by decide) rfl, ?_⟩
  refine List.forall_mem_cons.mpr ⟨so_pI (C := RX3) (T := TX3) (N := 7) dX3_empty_7 (by decide) rfl rfl (by decide) rfl in_X3 wf_X3_15 tyX3 tyX3_ok nmX3 rfl (by decide +kernel) rfl, ?_⟩
  refine List.forall_mem_cons.mpr ⟨so_iload_n dX3_empty_10 rfl rfl, ?_⟩
  refine List.forall_mem_cons.mpr ⟨so_rI dX3_empty_11 rfl, ?_⟩
  exact fun _ h => absurd h List.not_mem_nil
theorem dX6_isWithin_0 : decode cX6_isWithin 0 = .ok (.iload_n 0, 1) := by decide +kernel
theorem dX6_isWithin_1 : decode cX6_isWithin 1 = .ok (.iload_n 1, 1) := by decide +kernel
theorem dX6_isWithin_2 : decode cX6_isWithin 2 = .ok (.if_icmp .lt 12, 3) := by decide +kernel
theorem dX6_isWithin_5 : decode cX6_isWithin 5 = .ok (.iload_n 0, 1) := by decide +kernel
theorem dX6_isWithin_6 : decode cX6_isWithin 6 = .ok (.iload_n 2, 1) := by decide +kernel
theorem dX6_isWithin_7 : decode cX6_isWithin 7 = .ok (.if_icmp .gt 7, 3) := by decide +kernel
theorem dX6_isWithin_10 : decode cX6_isWithin 10 = .ok (.iconst 1, 1) := by decide +kernel
theorem dX6_isWithin_11 : decode cX6_isWithin 11 = .ok (.goto 4, 3) := by decide +kernel
theorem dX6_isWithin_14 : decode cX6_isWithin 14 = .ok (.iconst 0, 1) := by decide +kernel
theorem dX6_isWithin_15 : decode cX6_isWithin 15 = .ok (.ireturn, 1) := by decide +kernel
def T_X6_isWithin : tk_Tb := [(0, tk_il 0 1), (1, tk_il 1 2), (2, tk_cm (fun x y => x < y) 14 5), (5, tk_il 0 6), (6, tk_il 2 7), (7, tk_cm (fun x y => y < x) 14 10), (10, tk_ic (1) 11), (11, tk_jmp 15), (14, tk_ic (0) 15), (15, tk_rZ)]
set_option maxRecDepth 100000 in
theorem hT_X6_isWithin (sc : Option (Nat × (Nat → Int32))) : ∀ x ∈ T_X6_isWithin, tk_So sc M_X6_isWithin x.1 x.2 := by
  unfold T_X6_isWithin
  refine List.forall_mem_cons.mpr ⟨so_iload_n dX6_isWithin_0 rfl rfl, ?_⟩
  refine List.forall_mem_cons.mpr ⟨so_iload_n dX6_isWithin_1 rfl rfl, ?_⟩
  refine List.forall_mem_cons.mpr ⟨so_icmp_lt dX6_isWithin_2 (by decide) rfl, ?_⟩
  refine List.forall_mem_cons.mpr ⟨so_iload_n dX6_isWithin_5 rfl rfl, ?_⟩
  refine List.forall_mem_cons.mpr ⟨so_iload_n dX6_isWithin_6 rfl rfl, ?_⟩
  refine List.forall_mem_cons.mpr ⟨so_icmp_gt dX6_isWithin_7 (by decide) rfl, ?_⟩
  refine List.forall_mem_cons.mpr ⟨so_iconst dX6_isWithin_10 (by decide) rfl, ?_⟩
  refine List.forall_mem_cons.mpr ⟨so_goto dX6_isWithin_11 (by decide), ?_⟩
  refine List.forall_mem_cons.mpr ⟨so_iconst dX6_isWithin_14 (by decide) rfl, ?_⟩
  refine List.forall_mem_cons.mpr ⟨so_rZ dX6_isWithin_15 rfl, ?_⟩
  exact fun _ h => absurd h List.not_mem_nil
theorem dX3_isDigit_0 : decode cX3_isDigit 0 = .ok (.iload_n 0, 1) := by decide +kernel
theorem dX3_isDigit_1 : decode cX3_isDigit 1 = .ok (.bipush 48, 2) := by decide +kernel
theorem dX3_isDigit_3 : decode cX3_isDigit 3 = .ok (.if_icmp .lt 13, 3) := by decide +kernel
theorem dX3_isDigit_6 : decode cX3_isDigit 6 = .ok (.iload_n 0, 1) := by decide +kernel
theorem dX3_isDigit_7 : decode cX3_isDigit 7 = .ok (.bipush 57, 2) := by decide +kernel
theorem dX3_isDigit_9 : decode cX3_isDigit 9 = .ok (.if_icmp .gt 7, 3) := by decide +kernel
theorem dX3_isDigit_12 : decode cX3_isDigit 12 = .ok (.iconst 1, 1) := by decide +kernel
theorem dX3_isDigit_13 : decode cX3_isDigit 13 = .ok (.goto 4, 3) := by decide +kernel
theorem dX3_isDigit_16 : decode cX3_isDigit 16 = .ok (.iconst 0, 1) := by decide +kernel
theorem dX3_isDigit_17 : decode cX3_isDigit 17 = .ok (.ireturn, 1) := by decide +kernel
def T_X3_isDigit : tk_Tb := [(0, tk_il 0 1), (1, tk_ic (48) 3), (3, tk_cm (fun x y => x < y) 16 6), (6, tk_il 0 7), (7, tk_ic (57) 9), (9, tk_cm (fun x y => y < x) 16 12), (12, tk_ic (1) 13), (13, tk_jmp 17), (16, tk_ic (0) 17), (17, tk_rZ)]
set_option maxRecDepth 100000 in
theorem hT_X3_isDigit (sc : Option (Nat × (Nat → Int32))) : ∀ x ∈ T_X3_isDigit, tk_So sc M_X3_isDigit x.1 x.2 := by
  unfold T_X3_isDigit
  refine List.forall_mem_cons.mpr ⟨so_iload_n dX3_isDigit_0 rfl rfl, ?_⟩
  refine List.forall_mem_cons.mpr ⟨so_bipush dX3_isDigit_1 (by decide) rfl, ?_⟩
  refine List.forall_mem_cons.mpr ⟨so_icmp_lt dX3_isDigit_3 (by decide) rfl, ?_⟩
  refine List.forall_mem_cons.mpr ⟨so_iload_n dX3_isDigit_6 rfl rfl, ?_⟩
  refine List.forall_mem_cons.mpr ⟨so_bipush dX3_isDigit_7 (by decide) rfl, ?_⟩
  refine List.forall_mem_cons.mpr ⟨so_icmp_gt dX3_isDigit_9 (by decide) rfl, ?_⟩
  refine List.forall_mem_cons.mpr ⟨so_iconst dX3_isDigit_12 (by decide) rfl, ?_⟩
  refine List.forall_mem_cons.mpr ⟨so_goto dX3_isDigit_13 (by decide), ?_⟩
  refine List.forall_mem_cons.mpr ⟨so_iconst dX3_isDigit_16 (by decide) rfl, ?_⟩
  refine List.forall_mem_cons.mpr ⟨so_rZ dX3_isDigit_17 rfl, ?_⟩
  exact fun _ h => absurd h List.not_mem_nil
theorem dX3_readDigits_0 : decode cX3_readDigits 0 = .ok (.aload_n 0, 1) := by decide +kernel
theorem dX3_readDigits_1 : decode cX3_readDigits 1 = .ok (.getfield 28, 3) := by decide +kernel
theorem dX3_readDigits_4 : decode cX3_readDigits 4 = .ok (.istore_n 1, 1) := by decide +kernel
theorem dX3_readDigits_5 : decode cX3_readDigits 5 = .ok (.iconst 0, 1) := by decide +kernel
theorem dX3_readDigits_6 : decode cX3_readDigits 6 = .ok (.istore_n 2, 1) := by decide +kernel
theorem dX3_readDigits_7 : decode cX3_readDigits 7 = .ok (.aload_n 0, 1) := by decide +kernel
theorem dX3_readDigits_8 : decode cX3_readDigits 8 = .ok (.getfield 28, 3) := by decide +kernel
theorem dX3_readDigits_11 : decode cX3_readDigits 11 = .ok (.aload_n 0, 1) := by decide +kernel
theorem dX3_readDigits_12 : decode cX3_readDigits 12 = .ok (.getfield 15, 3) := by decide +kernel
theorem dX3_readDigits_15 : decode cX3_readDigits 15 = .ok (.if_icmp .ge 49, 3) := by decide +kernel
theorem dX3_readDigits_18 : decode cX3_readDigits 18 = .ok (.aload_n 0, 1) := by decide +kernel
theorem dX3_readDigits_19 : decode cX3_readDigits 19 = .ok (.getfield 9, 3) := by decide +kernel
theorem dX3_readDigits_22 : decode cX3_readDigits 22 = .ok (.aload_n 0, 1) := by decide +kernel
theorem dX3_readDigits_23 : decode cX3_readDigits 23 = .ok (.getfield 28, 3) := by decide +kernel
theorem dX3_readDigits_26 : decode cX3_readDigits 26 = .ok (.caload, 1) := by decide +kernel
theorem dX3_readDigits_27 : decode cX3_readDigits 27 = .ok (.invokestatic 99, 3) := by decide +kernel
theorem dX3_readDigits_30 : decode cX3_readDigits 30 = .ok (.ifCond .eq 34, 3) := by decide +kernel
theorem dX3_readDigits_33 : decode cX3_readDigits 33 = .ok (.bipush 10, 2) := by decide +kernel
theorem dX3_readDigits_35 : decode cX3_readDigits 35 = .ok (.iload_n 2, 1) := by decide +kernel
theorem dX3_readDigits_36 : decode cX3_readDigits 36 = .ok (.imul, 1) := by decide +kernel
theorem dX3_readDigits_37 : decode cX3_readDigits 37 = .ok (.aload_n 0, 1) := by decide +kernel
theorem dX3_readDigits_38 : decode cX3_readDigits 38 = .ok (.getfield 9, 3) := by decide +kernel
theorem dX3_readDigits_41 : decode cX3_readDigits 41 = .ok (.aload_n 0, 1) := by decide +kernel
theorem dX3_readDigits_42 : decode cX3_readDigits 42 = .ok (.getfield 28, 3) := by decide +kernel
theorem dX3_readDigits_45 : decode cX3_readDigits 45 = .ok (.caload, 1) := by decide +kernel
theorem dX3_readDigits_46 : decode cX3_readDigits 46 = .ok (.iadd, 1) := by decide +kernel
theorem dX3_readDigits_47 : decode cX3_readDigits 47 = .ok (.bipush 48, 2) := by decide +kernel
theorem dX3_readDigits_49 : decode cX3_readDigits 49 = .ok (.isub, 1) := by decide +kernel
theorem dX3_readDigits_50 : decode cX3_readDigits 50 = .ok (.istore_n 2, 1) := by decide +kernel
theorem dX3_readDigits_51 : decode cX3_readDigits 51 = .ok (.aload_n 0, 1) := by decide +kernel
theorem dX3_readDigits_52 : decode cX3_readDigits 52 = .ok (.dup, 1) := by decide +kernel
theorem dX3_readDigits_53 : decode cX3_readDigits 53 = .ok (.getfield 28, 3) := by decide +kernel
theorem dX3_readDigits_56 : decode cX3_readDigits 56 = .ok (.iconst 1, 1) := by decide +kernel
theorem dX3_readDigits_57 : decode cX3_readDigits 57 = .ok (.iadd, 1) := by decide +kernel
theorem dX3_readDigits_58 : decode cX3_readDigits 58 = .ok (.putfield 28, 3) := by decide +kernel
theorem dX3_readDigits_61 : decode cX3_readDigits 61 = .ok (.goto (-54), 3) := by decide +kernel
theorem dX3_readDigits_64 : decode cX3_readDigits 64 = .ok (.aload_n 0, 1) := by decide +kernel
theorem dX3_readDigits_65 : decode cX3_readDigits 65 = .ok (.getfield 28, 3) := by decide +kernel
theorem dX3_readDigits_68 : decode cX3_readDigits 68 = .ok (.iload_n 1, 1) := by decide +kernel
theorem dX3_readDigits_69 : decode cX3_readDigits 69 = .ok (.isub, 1) := by decide +kernel
theorem dX3_readDigits_70 : decode cX3_readDigits 70 = .ok (.istore_n 3, 1) := by decide +kernel
theorem dX3_readDigits_71 : decode cX3_readDigits 71 = .ok (.iload_n 3, 1) := by decide +kernel
theorem dX3_readDigits_72 : decode cX3_readDigits 72 = .ok (.iconst 1, 1) := by decide +kernel
theorem dX3_readDigits_73 : decode cX3_readDigits 73 = .ok (.if_icmp .eq 14, 3) := by decide +kernel
theorem dX3_readDigits_76 : decode cX3_readDigits 76 = .ok (.iload_n 3, 1) := by decide +kernel
theorem dX3_readDigits_77 : decode cX3_readDigits 77 = .ok (.iconst 2, 1) := by decide +kernel
theorem dX3_readDigits_78 : decode cX3_readDigits 78 = .ok (.if_icmp .ne 13, 3) := by decide +kernel
theorem dX3_readDigits_81 : decode cX3_readDigits 81 = .ok (.iload_n 2, 1) := by decide +kernel
theorem dX3_readDigits_82 : decode cX3_readDigits 82 = .ok (.bipush 9, 2) := by decide +kernel
theorem dX3_readDigits_84 : decode cX3_readDigits 84 = .ok (.if_icmp .le 7, 3) := by decide +kernel
theorem dX3_readDigits_87 : decode cX3_readDigits 87 = .ok (.iconst 1, 1) := by decide +kernel
theorem dX3_readDigits_88 : decode cX3_readDigits 88 = .ok (.goto 4, 3) := by decide +kernel
theorem dX3_readDigits_91 : decode cX3_readDigits 91 = .ok (.iconst 0, 1) := by decide +kernel
theorem dX3_readDigits_92 : decode cX3_readDigits 92 = .ok (.istore 4, 2) := by decide +kernel
theorem dX3_readDigits_94 : decode cX3_readDigits 94 = .ok (.iload 4, 2) := by decide +kernel
theorem dX3_readDigits_96 : decode cX3_readDigits 96 = .ok (.ifCond .eq 7, 3) := by decide +kernel
theorem dX3_readDigits_99 : decode cX3_readDigits 99 = .ok (.iload_n 2, 1) := by decide +kernel
theorem dX3_readDigits_100 : decode cX3_readDigits 100 = .ok (.goto 4, 3) := by decide +kernel
theorem dX3_readDigits_103 : decode cX3_readDigits 103 = .ok (.iconst (-1), 1) := by decide +kernel
theorem dX3_readDigits_104 : decode cX3_readDigits 104 = .ok (.ireturn, 1) := by decide +kernel
def T_X3_readDigits : tk_Tb := [(0, tk_al 0 1), (1, tk_gI 3 2 4), (4, tk_sI 1 5), (5, tk_ic (0) 6), (6, tk_sI 2 7), (7, tk_al 0 8), (8, tk_gI 3 2 11), (11, tk_al 0 12), (12, tk_gI 3 1 15), (15, tk_cm (fun x y => y ≤ x) 64 18), (18, tk_al 0 19), (19, tk_gR 3 0 22), (22, tk_al 0 23), (23, tk_gI 3 2 26), (26, tk_ai 8 27), (27, tk_cs M_X3_isDigit 1 30), (30, tk_br (fun x => x = 0) 64 33), (33, tk_ic (10) 35), (35, tk_il 2 36), (36, tk_bi (fun x y => x * y) 37), (37, tk_al 0 38), (38, tk_gR 3 0 41), (41, tk_al 0 42), (42, tk_gI 3 2 45), (45, tk_ai 8 46), (46, tk_bi (fun x y => x + y) 47), (47, tk_ic (48) 49), (49, tk_bi (fun x y => x - y) 50), (50, tk_sI 2 51), (51, tk_al 0 52), (52, tk_dup 53), (53, tk_gI 3 2 56), (56, tk_ic (1) 57), (57, tk_bi (fun x y => x + y) 58), (58, tk_pI 3 2 61), (61, tk_jmp 7), (64, tk_al 0 65), (65, tk_gI 3 2 68), (68, tk_il 1 69), (69, tk_bi (fun x y => x - y) 70), (70, tk_sI 3 71), (71, tk_il 3 72), (72, tk_ic (1) 73), (73, tk_cm (fun x y => x = y) 87 76), (76, tk_il 3 77), (77, tk_ic (2) 78), (78, tk_cm (fun x y => x = y) 81 91), (81, tk_il 2 82), (82, tk_ic (9) 84), (84, tk_cm (fun x y => x ≤ y) 91 87), (87, tk_ic (1) 88), (88, tk_jmp 92), (91, tk_ic (0) 92), (92, tk_sI 4 94), (94, tk_il 4 96), (96, tk_br (fun x => x = 0) 103 99), (99, tk_il 2 100), (100, tk_jmp 104), (103, tk_ic (-1) 104), (104, tk_rI)]
set_option maxRecDepth 100000 in
theorem hT_X3_readDigits (sc : Option (Nat × (Nat → Int32))) : ∀ x ∈ T_X3_readDigits, tk_So sc M_X3_readDigits x.1 x.2 := by
  unfold T_X3_readDigits
  refine List.forall_mem_cons.mpr ⟨so_aload_n dX3_readDigits_0 rfl rfl, ?_⟩
  refine List.forall_mem_cons.mpr ⟨so_gI (C := RX3) (T := TX3) (N := 7) dX3_readDigits_1 (by decide) rfl rfl (by decide) rfl in_X3 wf_X3_28 rfl, ?_⟩
  refine List.forall_mem_cons.mpr ⟨so_istore_n dX3_readDigits_4 rfl rfl, ?_⟩
  refine List.forall_mem_cons.mpr ⟨so_iconst dX3_readDigits_5 (by decide) rfl, ?_⟩
  refine List.forall_mem_cons.mpr ⟨so_istore_n dX3_readDigits_6 rfl rfl, ?_⟩
  refine List.forall_mem_cons.mpr ⟨so_aload_n dX3_readDigits_7 rfl rfl, ?_⟩
  refine List.forall_mem_cons.mpr ⟨so_gI (C := RX3) (T := TX3) (N := 7) dX3_readDigits_8 (by decide) rfl rfl (by decide) rfl in_X3 wf_X3_28 rfl, ?_⟩
  refine List.forall_mem_cons.mpr ⟨so_aload_n dX3_readDigits_11 rfl rfl, ?_⟩
  refine List.forall_mem_cons.mpr ⟨so_gI (C := RX3) (T := TX3) (N := 7) dX3_readDigits_12 (by decide) rfl rfl (by decide) rfl in_X3 wf_X3_15 rfl, ?_⟩
  refine List.forall_mem_cons.mpr ⟨so_icmp_ge dX3_readDigits_15 (by decide) rfl, ?_⟩
  refine List.forall_mem_cons.mpr ⟨so_aload_n dX3_readDigits_18 rfl rfl, ?_⟩
  refine List.forall_mem_cons.mpr ⟨so_gR (C := RX3) (T := TX3) (N := 7) dX3_readDigits_19 (by decide) rfl rfl (by decide) rfl in_X3 wf_X3_9 rfl, ?_⟩
  refine List.forall_mem_cons.mpr ⟨so_aload_n dX3_readDigits_22 rfl rfl, ?_⟩
  refine List.forall_mem_cons.mpr ⟨so_gI (C := RX3) (T := TX3) (N := 7) dX3_readDigits_23 (by decide) rfl rfl (by decide) rfl in_X3 wf_X3_28 rfl, ?_⟩
  refine List.forall_mem_cons.mpr ⟨so_caload dX3_readDigits_26 rfl, ?_⟩
  refine List.forall_mem_cons.mpr ⟨so_cs dX3_readDigits_27 mv_X3_isDigit wm_X3_99 ⟨rfl, rfl⟩ (by decide) rfl, ?_⟩
  refine List.forall_mem_cons.mpr ⟨so_if_eq dX3_readDigits_30 (by decide) rfl, ?_⟩
  refine List.forall_mem_cons.mpr ⟨so_bipush dX3_readDigits_33 (by decide) rfl, ?_⟩
  refine List.forall_mem_cons.mpr ⟨so_iload_n dX3_readDigits_35 rfl rfl, ?_⟩
  refine List.forall_mem_cons.mpr ⟨so_imul dX3_readDigits_36 rfl, ?_⟩
  refine List.forall_mem_cons.mpr ⟨so_aload_n dX3_readDigits_37 rfl rfl, ?_⟩
  refine List.forall_mem_cons.mpr ⟨so_gR (C := RX3) (T := TX3) (N := 7) dX3_readDigits_38 (by decide) rfl rfl (by decide) rfl in_X3 wf_X3_9 rfl, ?_⟩
  refine List.forall_mem_cons.mpr ⟨so_aload_n dX3_readDigits_41 rfl rfl, ?_⟩
  refine List.forall_mem_cons.mpr ⟨so_gI (C := RX3) (T := TX3) (N := 7) dX3_readDigits_42 (by decide) rfl rfl (by decide) rfl in_X3 wf_X3_28 rfl, ?_⟩
  refine List.forall_mem_cons.mpr ⟨so_caload dX3_readDigits_45 rfl, ?_⟩
  refine List.forall_mem_cons.mpr ⟨so_iadd dX3_readDigits_46 rfl, ?_⟩
  refine List.forall_mem_cons.mpr ⟨so_bipush dX3_readDigits_47 (by decide) rfl, ?_⟩
  refine List.forall_mem_cons.mpr ⟨so_isub dX3_readDigits_49 rfl, ?_⟩
  refine List.forall_mem_cons.mpr ⟨so_istore_n dX3_readDigits_50 rfl rfl, ?_⟩
  refine List.forall_mem_cons.mpr ⟨so_aload_n dX3_readDigits_51 rfl rfl, ?_⟩
  refine List.forall_mem_cons.mpr ⟨so_dup dX3_readDigits_52 rfl, ?_⟩
  refine List.forall_mem_cons.mpr ⟨so_gI (C := RX3) (T := TX3) (N := 7) dX3_readDigits_53 (by decide) rfl rfl (by decide) rfl in_X3 wf_X3_28 rfl, ?_⟩
  refine List.forall_mem_cons.mpr ⟨so_iconst dX3_readDigits_56 (by decide) rfl, ?_⟩
  refine List.forall_mem_cons.mpr ⟨so_iadd dX3_readDigits_57 rfl, ?_⟩
  refine List.forall_mem_cons.mpr ⟨so_pI (C := RX3) (T := TX3) (N := 7) dX3_readDigits_58 (by decide) rfl rfl (by decide) rfl in_X3 wf_X3_28 tyX3 tyX3_ok nmX3 rfl (by decide +kernel) rfl, ?_⟩
  refine List.forall_mem_cons.mpr ⟨so_goto dX3_readDigits_61 (by decide), ?_⟩
  refine List.forall_mem_cons.mpr ⟨so_aload_n dX3_readDigits_64 rfl rfl, ?_⟩
  refine List.forall_mem_cons.mpr ⟨so_gI (C := RX3) (T := TX3) (N := 7) dX3_readDigits_65 (by decide) rfl rfl (by decide) rfl in_X3 wf_X3_28 rfl, ?_⟩
  refine List.forall_mem_cons.mpr ⟨so_iload_n dX3_readDigits_68 rfl rfl, ?_⟩
  refine List.forall_mem_cons.mpr ⟨so_isub dX3_readDigits_69 rfl, ?_⟩
  refine List.forall_mem_cons.mpr ⟨so_istore_n dX3_readDigits_70 rfl rfl, ?_⟩
  refine List.forall_mem_cons.mpr ⟨so_iload_n dX3_readDigits_71 rfl rfl, ?_⟩
  refine List.forall_mem_cons.mpr ⟨so_iconst dX3_readDigits_72 (by decide) rfl, ?_⟩
  refine List.forall_mem_cons.mpr ⟨so_icmp_eq dX3_readDigits_73 (by decide) rfl, ?_⟩
  refine List.forall_mem_cons.mpr ⟨so_iload_n dX3_readDigits_76 rfl rfl, ?_⟩
  refine List.forall_mem_cons.mpr ⟨so_iconst dX3_readDigits_77 (by decide) rfl, ?_⟩
  refine List.forall_mem_cons.mpr ⟨so_icmp_ne dX3_readDigits_78 (by decide) rfl, ?_⟩
  refine List.forall_mem_cons.mpr ⟨so_iload_n dX3_readDigits_81 rfl rfl, ?_⟩
  refine List.forall_mem_cons.mpr ⟨so_bipush dX3_readDigits_82 (by decide) rfl, ?_⟩
  refine List.forall_mem_cons.mpr ⟨so_icmp_le dX3_readDigits_84 (by decide) rfl, ?_⟩
  refine List.forall_mem_cons.mpr ⟨so_iconst dX3_readDigits_87 (by decide) rfl, ?_⟩
  refine List.forall_mem_cons.mpr ⟨so_goto dX3_readDigits_88 (by decide), ?_⟩
  refine List.forall_mem_cons.mpr ⟨so_iconst dX3_readDigits_91 (by decide) rfl, ?_⟩
  refine List.forall_mem_cons.mpr ⟨so_istore dX3_readDigits_92 rfl, ?_⟩
  refine List.forall_mem_cons.mpr ⟨so_iload dX3_readDigits_94 rfl, ?_⟩
  refine List.forall_mem_cons.mpr ⟨so_if_eq dX3_readDigits_96 (by decide) rfl, ?_⟩
  refine List.forall_mem_cons.mpr ⟨so_iload_n dX3_readDigits_99 rfl rfl, ?_⟩
  refine List.forall_mem_cons.mpr ⟨so_goto dX3_readDigits_100 (by decide), ?_⟩
  refine List.forall_mem_cons.mpr ⟨so_iconst dX3_readDigits_103 (by decide) rfl, ?_⟩
  refine List.forall_mem_cons.mpr ⟨so_rI dX3_readDigits_104 rfl, ?_⟩
  exact fun _ h => absurd h List.not_mem_nil
theorem dX3_readToken_0 : decode cX3_readToken 0 = .ok (.aload_n 0, 1) := by decide +kernel
theorem dX3_readToken_1 : decode cX3_readToken 1 = .ok (.getfield 28, 3) := by decide +kernel
theorem dX3_readToken_4 : decode cX3_readToken 4 = .ok (.aload_n 0, 1) := by decide +kernel
theorem dX3_readToken_5 : decode cX3_readToken 5 = .ok (.getfield 15, 3) := by decide +kernel
theorem dX3_readToken_8 : decode cX3_readToken 8 = .ok (.if_icmp .ge 30, 3) := by decide +kernel
theorem dX3_readToken_11 : decode cX3_readToken 11 = .ok (.aload_n 0, 1) := by decide +kernel
theorem dX3_readToken_12 : decode cX3_readToken 12 = .ok (.getfield 9, 3) := by decide +kernel
theorem dX3_readToken_15 : decode cX3_readToken 15 = .ok (.aload_n 0, 1) := by decide +kernel
theorem dX3_readToken_16 : decode cX3_readToken 16 = .ok (.getfield 28, 3) := by decide +kernel
theorem dX3_readToken_19 : decode cX3_readToken 19 = .ok (.caload, 1) := by decide +kernel
theorem dX3_readToken_20 : decode cX3_readToken 20 = .ok (.bipush 32, 2) := by decide +kernel
theorem dX3_readToken_22 : decode cX3_readToken 22 = .ok (.if_icmp .ne 16, 3) := by decide +kernel
theorem dX3_readToken_25 : decode cX3_readToken 25 = .ok (.aload_n 0, 1) := by decide +kernel
theorem dX3_readToken_26 : decode cX3_readToken 26 = .ok (.dup, 1) := by decide +kernel
theorem dX3_readToken_27 : decode cX3_readToken 27 = .ok (.getfield 28, 3) := by decide +kernel
theorem dX3_readToken_30 : decode cX3_readToken 30 = .ok (.iconst 1, 1) := by decide +kernel
theorem dX3_readToken_31 : decode cX3_readToken 31 = .ok (.iadd, 1) := by decide +kernel
theorem dX3_readToken_32 : decode cX3_readToken 32 = .ok (.putfield 28, 3) := by decide +kernel
theorem dX3_readToken_35 : decode cX3_readToken 35 = .ok (.goto (-35), 3) := by decide +kernel
theorem dX3_readToken_38 : decode cX3_readToken 38 = .ok (.aload_n 0, 1) := by decide +kernel
theorem dX3_readToken_39 : decode cX3_readToken 39 = .ok (.aload_n 0, 1) := by decide +kernel
theorem dX3_readToken_40 : decode cX3_readToken 40 = .ok (.getfield 28, 3) := by decide +kernel
theorem dX3_readToken_43 : decode cX3_readToken 43 = .ok (.putfield 41, 3) := by decide +kernel
theorem dX3_readToken_46 : decode cX3_readToken 46 = .ok (.aload_n 0, 1) := by decide +kernel
theorem dX3_readToken_47 : decode cX3_readToken 47 = .ok (.getfield 28, 3) := by decide +kernel
theorem dX3_readToken_50 : decode cX3_readToken 50 = .ok (.aload_n 0, 1) := by decide +kernel
theorem dX3_readToken_51 : decode cX3_readToken 51 = .ok (.getfield 15, 3) := by decide +kernel
theorem dX3_readToken_54 : decode cX3_readToken 54 = .ok (.if_icmp .lt 11, 3) := by decide +kernel
theorem dX3_readToken_57 : decode cX3_readToken 57 = .ok (.aload_n 0, 1) := by decide +kernel
theorem dX3_readToken_58 : decode cX3_readToken 58 = .ok (.iconst (-1), 1) := by decide +kernel
theorem dX3_readToken_59 : decode cX3_readToken 59 = .ok (.putfield 34, 3) := by decide +kernel
theorem dX3_readToken_62 : decode cX3_readToken 62 = .ok (.goto 58, 3) := by decide +kernel
theorem dX3_readToken_65 : decode cX3_readToken 65 = .ok (.aload_n 0, 1) := by decide +kernel
theorem dX3_readToken_66 : decode cX3_readToken 66 = .ok (.getfield 9, 3) := by decide +kernel
theorem dX3_readToken_69 : decode cX3_readToken 69 = .ok (.aload_n 0, 1) := by decide +kernel
theorem dX3_readToken_70 : decode cX3_readToken 70 = .ok (.getfield 28, 3) := by decide +kernel
theorem dX3_readToken_73 : decode cX3_readToken 73 = .ok (.caload, 1) := by decide +kernel
theorem dX3_readToken_74 : decode cX3_readToken 74 = .ok (.invokestatic 99, 3) := by decide +kernel
theorem dX3_readToken_77 : decode cX3_readToken 77 = .ok (.ifCond .eq 20, 3) := by decide +kernel
theorem dX3_readToken_80 : decode cX3_readToken 80 = .ok (.aload_n 0, 1) := by decide +kernel
theorem dX3_readToken_81 : decode cX3_readToken 81 = .ok (.bipush (-2), 2) := by decide +kernel
theorem dX3_readToken_83 : decode cX3_readToken 83 = .ok (.putfield 34, 3) := by decide +kernel
theorem dX3_readToken_86 : decode cX3_readToken 86 = .ok (.aload_n 0, 1) := by decide +kernel
theorem dX3_readToken_87 : decode cX3_readToken 87 = .ok (.aload_n 0, 1) := by decide +kernel
theorem dX3_readToken_88 : decode cX3_readToken 88 = .ok (.invokevirtual 103, 3) := by decide +kernel
theorem dX3_readToken_91 : decode cX3_readToken 91 = .ok (.putfield 70, 3) := by decide +kernel
theorem dX3_readToken_94 : decode cX3_readToken 94 = .ok (.goto 26, 3) := by decide +kernel
theorem dX3_readToken_97 : decode cX3_readToken 97 = .ok (.aload_n 0, 1) := by decide +kernel
theorem dX3_readToken_98 : decode cX3_readToken 98 = .ok (.aload_n 0, 1) := by decide +kernel
theorem dX3_readToken_99 : decode cX3_readToken 99 = .ok (.getfield 9, 3) := by decide +kernel
theorem dX3_readToken_102 : decode cX3_readToken 102 = .ok (.aload_n 0, 1) := by decide +kernel
theorem dX3_readToken_103 : decode cX3_readToken 103 = .ok (.getfield 28, 3) := by decide +kernel
theorem dX3_readToken_106 : decode cX3_readToken 106 = .ok (.caload, 1) := by decide +kernel
theorem dX3_readToken_107 : decode cX3_readToken 107 = .ok (.putfield 34, 3) := by decide +kernel
theorem dX3_readToken_110 : decode cX3_readToken 110 = .ok (.aload_n 0, 1) := by decide +kernel
theorem dX3_readToken_111 : decode cX3_readToken 111 = .ok (.dup, 1) := by decide +kernel
theorem dX3_readToken_112 : decode cX3_readToken 112 = .ok (.getfield 28, 3) := by decide +kernel
theorem dX3_readToken_115 : decode cX3_readToken 115 = .ok (.iconst 1, 1) := by decide +kernel
theorem dX3_readToken_116 : decode cX3_readToken 116 = .ok (.iadd, 1) := by decide +kernel
theorem dX3_readToken_117 : decode cX3_readToken 117 = .ok (.putfield 28, 3) := by decide +kernel
theorem dX3_readToken_120 : decode cX3_readToken 120 = .ok (.return_, 1) := by decide +kernel
def T_X3_readToken : tk_Tb := [(0, tk_al 0 1), (1, tk_gI 3 2 4), (4, tk_al 0 5), (5, tk_gI 3 1 8), (8, tk_cm (fun x y => y ≤ x) 38 11), (11, tk_al 0 12), (12, tk_gR 3 0 15), (15, tk_al 0 16), (16, tk_gI 3 2 19), (19, tk_ai 8 20), (20, tk_ic (32) 22), (22, tk_cm (fun x y => x = y) 25 38), (25, tk_al 0 26), (26, tk_dup 27), (27, tk_gI 3 2 30), (30, tk_ic (1) 31), (31, tk_bi (fun x y => x + y) 32), (32, tk_pI 3 2 35), (35, tk_jmp 0), (38, tk_al 0 39), (39, tk_al 0 40), (40, tk_gI 3 2 43), (43, tk_pI 3 4 46), (46, tk_al 0 47), (47, tk_gI 3 2 50), (50, tk_al 0 51), (51, tk_gI 3 1 54), (54, tk_cm (fun x y => x < y) 65 57), (57, tk_al 0 58), (58, tk_ic (-1) 59), (59, tk_pI 3 3 62), (62, tk_jmp 120), (65, tk_al 0 66), (66, tk_gR 3 0 69), (69, tk_al 0 70), (70, tk_gI 3 2 73), (73, tk_ai 8 74), (74, tk_cs M_X3_isDigit 1 77), (77, tk_br (fun x => x = 0) 97 80), (80, tk_al 0 81), (81, tk_ic (-2) 83), (83, tk_pI 3 3 86), (86, tk_al 0 87), (87, tk_al 0 88), (88, tk_cv 3 M_X3_readDigits 0 91), (91, tk_pI 3 5 94), (94, tk_jmp 120), (97, tk_al 0 98), (98, tk_al 0 99), (99, tk_gR 3 0 102), (102, tk_al 0 103), (103, tk_gI 3 2 106), (106, tk_ai 8 107), (107, tk_pI 3 3 110), (110, tk_al 0 111), (111, tk_dup 112), (112, tk_gI 3 2 115), (115, tk_ic (1) 116), (116, tk_bi (fun x y => x + y) 117), (117, tk_pI 3 2 120), (120, tk_rV)]
set_option maxRecDepth 100000 in
theorem hT_X3_readToken (sc : Option (Nat × (Nat → Int32))) : ∀ x ∈ T_X3_readToken, tk_So sc M_X3_readToken x.1 x.2 := by
  unfold T_X3_readToken
  refine List.forall_mem_cons.mpr ⟨so_aload_n dX3_readToken_0 rfl rfl, ?_⟩
  refine List.forall_mem_cons.mpr ⟨so_gI (C := RX3) (T := TX3) (N := 7) dX3_readToken_1 (by decide) rfl rfl (by decide) rfl in_X3 wf_X3_28 rfl, ?_⟩
  refine List.forall_mem_cons.mpr ⟨so_aload_n dX3_readToken_4 rfl rfl, ?_⟩
  refine List.forall_mem_cons.mpr ⟨so_gI (C := RX3) (T := TX3) (N := 7) dX3_readToken_5 (by decide) rfl rfl (by decide) rfl in_X3 wf_X3_15 rfl, ?_⟩
  refine List.forall_mem_cons.mpr ⟨so_icmp_ge dX3_readToken_8 (by decide) rfl, ?_⟩
  refine List.forall_mem_cons.mpr ⟨so_aload_n dX3_readToken_11 rfl rfl, ?_⟩
  refine List.forall_mem_cons.mpr ⟨so_gR (C := RX3) (T := TX3) (N := 7) dX3_readToken_12 (by decide) rfl rfl (by decide) rfl in_X3 wf_X3_9 rfl, ?_⟩
  refine List.forall_mem_cons.mpr ⟨so_aload_n dX3_readToken_15 rfl rfl, ?_⟩
  refine List.forall_mem_cons.mpr ⟨so_gI (C := RX3) (T := TX3) (N := 7) dX3_readToken_16 (by decide) rfl rfl (by decide) rfl in_X3 wf_X3_28 rfl, ?_⟩
  refine List.forall_mem_cons.mpr ⟨so_caload dX3_readToken_19 rfl, ?_⟩
  refine List.forall_mem_cons.mpr ⟨so_bipush dX3_readToken_20 (by decide) rfl, ?_⟩
  refine List.forall_mem_cons.mpr ⟨so_icmp_ne dX3_readToken_22 (by decide) rfl, ?_⟩
  refine List.forall_mem_cons.mpr ⟨so_aload_n dX3_readToken_25 rfl rfl, ?_⟩
  refine List.forall_mem_cons.mpr ⟨so_dup dX3_readToken_26 rfl, ?_⟩
  refine List.forall_mem_cons.mpr ⟨so_gI (C := RX3) (T := TX3) (N := 7) dX3_readToken_27 (by decide) rfl rfl (by decide) rfl in_X3 wf_X3_28 rfl, ?_⟩
  refine List.forall_mem_cons.mpr ⟨so_iconst dX3_readToken_30 (by decide) rfl, ?_⟩
  refine List.forall_mem_cons.mpr ⟨so_iadd dX3_readToken_31 rfl, ?_⟩
  refine List.forall_mem_cons.mpr ⟨so_pI (C := RX3) (T := TX3) (N := 7) dX3_readToken_32 (by decide) rfl rfl (by decide) rfl in_X3 wf_X3_28 tyX3 tyX3_ok nmX3 rfl (by decide +kernel) rfl, ?_⟩
  refine List.forall_mem_cons.mpr ⟨so_goto dX3_readToken_35 (by decide), ?_⟩
  refine List.forall_mem_cons.mpr ⟨so_aload_n dX3_readToken_38 rfl rfl, ?_⟩
  refine List.forall_mem_cons.mpr ⟨so_aload_n dX3_readToken_39 rfl rfl, ?_⟩
  refine List.forall_mem_cons.mpr ⟨so_gI (C := RX3) (T := TX3) (N := 7) dX3_readToken_40 (by decide) rfl rfl (by decide) rfl in_X3 wf_X3_28 rfl, ?_⟩
  refine List.forall_mem_cons.mpr ⟨so_pI (C := RX3) (T := TX3) (N := 7) dX3_readToken_43 (by decide) rfl rfl (by decide) rfl in_X3 wf_X3_41 tyX3 tyX3_ok nmX3 rfl (by decide +kernel) rfl, ?_⟩
  refine List.forall_mem_cons.mpr ⟨so_aload_n dX3_readToken_46 rfl rfl, ?_⟩
  refine List.forall_mem_cons.mpr ⟨so_gI (C := RX3) (T := TX3) (N := 7) dX3_readToken_47 (by decide) rfl rfl (by decide) rfl in_X3 wf_X3_28 rfl, ?_⟩
  refine List.forall_mem_cons.mpr ⟨so_aload_n dX3_readToken_50 rfl rfl, ?_⟩
  refine List.forall_mem_cons.mpr ⟨so_gI (C := RX3) (T := TX3) (N := 7) dX3_readToken_51 (by decide) rfl rfl (by decide) rfl in_X3 wf_X3_15 rfl, ?_⟩
  refine List.forall_mem_cons.mpr ⟨so_icmp_lt dX3_readToken_54 (by decide) rfl, ?_⟩
  refine List.forall_mem_cons.mpr ⟨so_aload_n dX3_readToken_57 rfl rfl, ?_⟩
  refine List.forall_mem_cons.mpr ⟨so_iconst dX3_readToken_58 (by decide) rfl, ?_⟩
  refine List.forall_mem_cons.mpr ⟨so_pI (C := RX3) (T := TX3) (N := 7) dX3_readToken_59 (by decide) rfl rfl (by decide) rfl in_X3 wf_X3_34 tyX3 tyX3_ok nmX3 rfl (by decide +kernel) rfl, ?_⟩
  refine List.forall_mem_cons.mpr ⟨so_goto dX3_readToken_62 (by decide), ?_⟩
  refine List.forall_mem_cons.mpr ⟨so_aload_n dX3_readToken_65 rfl rfl, ?_⟩
  refine List.forall_mem_cons.mpr ⟨so_gR (C := RX3) (T := TX3) (N := 7) dX3_readToken_66 (by decide) rfl rfl (by decide) rfl in_X3 wf_X3_9 rfl, ?_⟩
  refine List.forall_mem_cons.mpr ⟨so_aload_n dX3_readToken_69 rfl rfl, ?_⟩
  refine List.forall_mem_cons.mpr ⟨so_gI (C := RX3) (T := TX3) (N := 7) dX3_readToken_70 (by decide) rfl rfl (by decide) rfl in_X3 wf_X3_28 rfl, ?_⟩
  refine List.forall_mem_cons.mpr ⟨so_caload dX3_readToken_73 rfl, ?_⟩
  refine List.forall_mem_cons.mpr ⟨so_cs dX3_readToken_74 mv_X3_isDigit wm_X3_99 ⟨rfl, rfl⟩ (by decide) rfl, ?_⟩
  refine List.forall_mem_cons.mpr ⟨so_if_eq dX3_readToken_77 (by decide) rfl, ?_⟩
  refine List.forall_mem_cons.mpr ⟨so_aload_n dX3_readToken_80 rfl rfl, ?_⟩
  refine List.forall_mem_cons.mpr ⟨so_bipush dX3_readToken_81 (by decide) rfl, ?_⟩
  refine List.forall_mem_cons.mpr ⟨so_pI (C := RX3) (T := TX3) (N := 7) dX3_readToken_83 (by decide) rfl rfl (by decide) rfl in_X3 wf_X3_34 tyX3 tyX3_ok nmX3 rfl (by decide +kernel) rfl, ?_⟩
  refine List.forall_mem_cons.mpr ⟨so_aload_n dX3_readToken_86 rfl rfl, ?_⟩
  refine List.forall_mem_cons.mpr ⟨so_aload_n dX3_readToken_87 rfl rfl, ?_⟩
  refine List.forall_mem_cons.mpr ⟨so_cv (T := TX3) (N := 7) dX3_readToken_88 mv_X3_readDigits wm_X3_103 (by decide) rfl ⟨rfl, rfl⟩ (by decide) rfl, ?_⟩
  refine List.forall_mem_cons.mpr ⟨so_pI (C := RX3) (T := TX3) (N := 7) dX3_readToken_91 (by decide) rfl rfl (by decide) rfl in_X3 wf_X3_70 tyX3 tyX3_ok nmX3 rfl (by decide +kernel) rfl, ?_⟩
  refine List.forall_mem_cons.mpr ⟨so_goto dX3_readToken_94 (by decide), ?_⟩
  refine List.forall_mem_cons.mpr ⟨so_aload_n dX3_readToken_97 rfl rfl, ?_⟩
  refine List.forall_mem_cons.mpr ⟨so_aload_n dX3_readToken_98 rfl rfl, ?_⟩
  refine List.forall_mem_cons.mpr ⟨so_gR (C := RX3) (T := TX3) (N := 7) dX3_readToken_99 (by decide) rfl rfl (by decide) rfl in_X3 wf_X3_9 rfl, ?_⟩
  refine List.forall_mem_cons.mpr ⟨so_aload_n dX3_readToken_102 rfl rfl, ?_⟩
  refine List.forall_mem_cons.mpr ⟨so_gI (C := RX3) (T := TX3) (N := 7) dX3_readToken_103 (by decide) rfl rfl (by decide) rfl in_X3 wf_X3_28 rfl, ?_⟩
  refine List.forall_mem_cons.mpr ⟨so_caload dX3_readToken_106 rfl, ?_⟩
  refine List.forall_mem_cons.mpr ⟨so_pI (C := RX3) (T := TX3) (N := 7) dX3_readToken_107 (by decide) rfl rfl (by decide) rfl in_X3 wf_X3_34 tyX3 tyX3_ok nmX3 rfl (by decide +kernel) rfl, ?_⟩
  refine List.forall_mem_cons.mpr ⟨so_aload_n dX3_readToken_110 rfl rfl, ?_⟩
  refine List.forall_mem_cons.mpr ⟨so_dup dX3_readToken_111 rfl, ?_⟩
  refine List.forall_mem_cons.mpr ⟨so_gI (C := RX3) (T := TX3) (N := 7) dX3_readToken_112 (by decide) rfl rfl (by decide) rfl in_X3 wf_X3_28 rfl, ?_⟩
  refine List.forall_mem_cons.mpr ⟨so_iconst dX3_readToken_115 (by decide) rfl, ?_⟩
  refine List.forall_mem_cons.mpr ⟨so_iadd dX3_readToken_116 rfl, ?_⟩
  refine List.forall_mem_cons.mpr ⟨so_pI (C := RX3) (T := TX3) (N := 7) dX3_readToken_117 (by decide) rfl rfl (by decide) rfl in_X3 wf_X3_28 tyX3 tyX3_ok nmX3 rfl (by decide +kernel) rfl, ?_⟩
  refine List.forall_mem_cons.mpr ⟨so_rV dX3_readToken_120 rfl, ?_⟩
  exact fun _ h => absurd h List.not_mem_nil
theorem dX3_readNumber_0 : decode cX3_readNumber 0 = .ok (.aload_n 0, 1) := by decide +kernel
theorem dX3_readNumber_1 : decode cX3_readNumber 1 = .ok (.invokevirtual 31, 3) := by decide +kernel
theorem dX3_readNumber_4 : decode cX3_readNumber 4 = .ok (.aload_n 0, 1) := by decide +kernel
theorem dX3_readNumber_5 : decode cX3_readNumber 5 = .ok (.getfield 34, 3) := by decide +kernel
theorem dX3_readNumber_8 : decode cX3_readNumber 8 = .ok (.bipush (-2), 2) := by decide +kernel
theorem dX3_readNumber_10 : decode cX3_readNumber 10 = .ok (.if_icmp .ne 19, 3) := by decide +kernel
theorem dX3_readNumber_13 : decode cX3_readNumber 13 = .ok (.aload_n 0, 1) := by decide +kernel
theorem dX3_readNumber_14 : decode cX3_readNumber 14 = .ok (.getfield 70, 3) := by decide +kernel
theorem dX3_readNumber_17 : decode cX3_readNumber 17 = .ok (.iload_n 1, 1) := by decide +kernel
theorem dX3_readNumber_18 : decode cX3_readNumber 18 = .ok (.iload_n 2, 1) := by decide +kernel
theorem dX3_readNumber_19 : decode cX3_readNumber 19 = .ok (.invokestatic 95, 3) := by decide +kernel
theorem dX3_readNumber_22 : decode cX3_readNumber 22 = .ok (.ifCond .eq 7, 3) := by decide +kernel
theorem dX3_readNumber_25 : decode cX3_readNumber 25 = .ok (.iconst 1, 1) := by decide +kernel
theorem dX3_readNumber_26 : decode cX3_readNumber 26 = .ok (.goto 4, 3) := by decide +kernel
theorem dX3_readNumber_29 : decode cX3_readNumber 29 = .ok (.iconst 0, 1) := by decide +kernel
theorem dX3_readNumber_30 : decode cX3_readNumber 30 = .ok (.ireturn, 1) := by decide +kernel
def T_X3_readNumber : tk_Tb := [(0, tk_al 0 1), (1, tk_cv 3 M_X3_readToken 0 4), (4, tk_al 0 5), (5, tk_gI 3 3 8), (8, tk_ic (-2) 10), (10, tk_cm (fun x y => x = y) 13 29), (13, tk_al 0 14), (14, tk_gI 3 5 17), (17, tk_il 1 18), (18, tk_il 2 19), (19, tk_cs M_X6_isWithin 3 22), (22, tk_br (fun x => x = 0) 29 25), (25, tk_ic (1) 26), (26, tk_jmp 30), (29, tk_ic (0) 30), (30, tk_rZ)]
set_option maxRecDepth 100000 in
theorem hT_X3_readNumber (sc : Option (Nat × (Nat → Int32))) : ∀ x ∈ T_X3_readNumber, tk_So sc M_X3_readNumber x.1 x.2 := by
  unfold T_X3_readNumber
  refine List.forall_mem_cons.mpr ⟨so_aload_n dX3_readNumber_0 rfl rfl, ?_⟩
  refine List.forall_mem_cons.mpr ⟨so_cv (T := TX3) (N := 7) dX3_readNumber_1 mv_X3_readToken wm_X3_31 (by decide) rfl ⟨rfl, rfl⟩ (by decide) rfl, ?_⟩
  refine List.forall_mem_cons.mpr ⟨so_aload_n dX3_readNumber_4 rfl rfl, ?_⟩
  refine List.forall_mem_cons.mpr ⟨so_gI (C := RX3) (T := TX3) (N := 7) dX3_readNumber_5 (by decide) rfl rfl (by decide) rfl in_X3 wf_X3_34 rfl, ?_⟩
  refine List.forall_mem_cons.mpr ⟨so_bipush dX3_readNumber_8 (by decide) rfl, ?_⟩
  refine List.forall_mem_cons.mpr ⟨so_icmp_ne dX3_readNumber_10 (by decide) rfl, ?_⟩
  refine List.forall_mem_cons.mpr ⟨so_aload_n dX3_readNumber_13 rfl rfl, ?_⟩
  refine List.forall_mem_cons.mpr ⟨so_gI (C := RX3) (T := TX3) (N := 7) dX3_readNumber_14 (by decide) rfl rfl (by decide) rfl in_X3 wf_X3_70 rfl, ?_⟩
  refine List.forall_mem_cons.mpr ⟨so_iload_n dX3_readNumber_17 rfl rfl, ?_⟩
  refine List.forall_mem_cons.mpr ⟨so_iload_n dX3_readNumber_18 rfl rfl, ?_⟩
  refine List.forall_mem_cons.mpr ⟨so_csN dX3_readNumber_19 mv_X6_isWithin wm_X3_95 ⟨rfl, rfl⟩ (by decide) rfl, ?_⟩
  refine List.forall_mem_cons.mpr ⟨so_if_eq dX3_readNumber_22 (by decide) rfl, ?_⟩
  refine List.forall_mem_cons.mpr ⟨so_iconst dX3_readNumber_25 (by decide) rfl, ?_⟩
  refine List.forall_mem_cons.mpr ⟨so_goto dX3_readNumber_26 (by decide), ?_⟩
  refine List.forall_mem_cons.mpr ⟨so_iconst dX3_readNumber_29 (by decide) rfl, ?_⟩
  refine List.forall_mem_cons.mpr ⟨so_rZ dX3_readNumber_30 rfl, ?_⟩
  exact fun _ h => absurd h List.not_mem_nil
theorem dX3_readDrain_0 : decode cX3_readDrain 0 = .ok (.aload_n 0, 1) := by decide +kernel
theorem dX3_readDrain_1 : decode cX3_readDrain 1 = .ok (.iconst 0, 1) := by decide +kernel
theorem dX3_readDrain_2 : decode cX3_readDrain 2 = .ok (.aload_n 1, 1) := by decide +kernel
theorem dX3_readDrain_3 : decode cX3_readDrain 3 = .ok (.getfield 81, 3) := by decide +kernel
theorem dX3_readDrain_6 : decode cX3_readDrain 6 = .ok (.iconst 1, 1) := by decide +kernel
theorem dX3_readDrain_7 : decode cX3_readDrain 7 = .ok (.isub, 1) := by decide +kernel
theorem dX3_readDrain_8 : decode cX3_readDrain 8 = .ok (.invokevirtual 66, 3) := by decide +kernel
theorem dX3_readDrain_11 : decode cX3_readDrain 11 = .ok (.ifCond .ne 5, 3) := by decide +kernel
theorem dX3_readDrain_14 : decode cX3_readDrain 14 = .ok (.iconst 0, 1) := by decide +kernel
theorem dX3_readDrain_15 : decode cX3_readDrain 15 = .ok (.ireturn, 1) := by decide +kernel
theorem dX3_readDrain_16 : decode cX3_readDrain 16 = .ok (.aload_n 0, 1) := by decide +kernel
theorem dX3_readDrain_17 : decode cX3_readDrain 17 = .ok (.getfield 70, 3) := by decide +kernel
theorem dX3_readDrain_20 : decode cX3_readDrain 20 = .ok (.istore_n 2, 1) := by decide +kernel
theorem dX3_readDrain_21 : decode cX3_readDrain 21 = .ok (.aload_n 0, 1) := by decide +kernel
theorem dX3_readDrain_22 : decode cX3_readDrain 22 = .ok (.iconst 0, 1) := by decide +kernel
theorem dX3_readDrain_23 : decode cX3_readDrain 23 = .ok (.aload_n 1, 1) := by decide +kernel
theorem dX3_readDrain_24 : decode cX3_readDrain 24 = .ok (.getfield 81, 3) := by decide +kernel
theorem dX3_readDrain_27 : decode cX3_readDrain 27 = .ok (.iconst 1, 1) := by decide +kernel
theorem dX3_readDrain_28 : decode cX3_readDrain 28 = .ok (.isub, 1) := by decide +kernel
theorem dX3_readDrain_29 : decode cX3_readDrain 29 = .ok (.invokevirtual 66, 3) := by decide +kernel
theorem dX3_readDrain_32 : decode cX3_readDrain 32 = .ok (.ifCond .ne 5, 3) := by decide +kernel
theorem dX3_readDrain_35 : decode cX3_readDrain 35 = .ok (.iconst 0, 1) := by decide +kernel
theorem dX3_readDrain_36 : decode cX3_readDrain 36 = .ok (.ireturn, 1) := by decide +kernel
theorem dX3_readDrain_37 : decode cX3_readDrain 37 = .ok (.aload_n 0, 1) := by decide +kernel
theorem dX3_readDrain_38 : decode cX3_readDrain 38 = .ok (.getfield 70, 3) := by decide +kernel
theorem dX3_readDrain_41 : decode cX3_readDrain 41 = .ok (.istore_n 3, 1) := by decide +kernel
theorem dX3_readDrain_42 : decode cX3_readDrain 42 = .ok (.aload_n 0, 1) := by decide +kernel
theorem dX3_readDrain_43 : decode cX3_readDrain 43 = .ok (.iconst 1, 1) := by decide +kernel
theorem dX3_readDrain_44 : decode cX3_readDrain 44 = .ok (.iconst 4, 1) := by decide +kernel
theorem dX3_readDrain_45 : decode cX3_readDrain 45 = .ok (.invokevirtual 66, 3) := by decide +kernel
theorem dX3_readDrain_48 : decode cX3_readDrain 48 = .ok (.ifCond .ne 5, 3) := by decide +kernel
theorem dX3_readDrain_51 : decode cX3_readDrain 51 = .ok (.iconst 0, 1) := by decide +kernel
theorem dX3_readDrain_52 : decode cX3_readDrain 52 = .ok (.ireturn, 1) := by decide +kernel
theorem dX3_readDrain_53 : decode cX3_readDrain 53 = .ok (.aload_n 1, 1) := by decide +kernel
theorem dX3_readDrain_54 : decode cX3_readDrain 54 = .ok (.getfield 84, 3) := by decide +kernel
theorem dX3_readDrain_57 : decode cX3_readDrain 57 = .ok (.iload_n 2, 1) := by decide +kernel
theorem dX3_readDrain_58 : decode cX3_readDrain 58 = .ok (.iload_n 3, 1) := by decide +kernel
theorem dX3_readDrain_59 : decode cX3_readDrain 59 = .ok (.iastore, 1) := by decide +kernel
theorem dX3_readDrain_60 : decode cX3_readDrain 60 = .ok (.aload_n 1, 1) := by decide +kernel
theorem dX3_readDrain_61 : decode cX3_readDrain 61 = .ok (.getfield 88, 3) := by decide +kernel
theorem dX3_readDrain_64 : decode cX3_readDrain 64 = .ok (.iload_n 2, 1) := by decide +kernel
theorem dX3_readDrain_65 : decode cX3_readDrain 65 = .ok (.aload_n 0, 1) := by decide +kernel
theorem dX3_readDrain_66 : decode cX3_readDrain 66 = .ok (.getfield 70, 3) := by decide +kernel
theorem dX3_readDrain_69 : decode cX3_readDrain 69 = .ok (.iastore, 1) := by decide +kernel
theorem dX3_readDrain_70 : decode cX3_readDrain 70 = .ok (.iconst 1, 1) := by decide +kernel
theorem dX3_readDrain_71 : decode cX3_readDrain 71 = .ok (.ireturn, 1) := by decide +kernel
def T_X3_readDrain : tk_Tb := [(0, tk_al 0 1), (1, tk_ic (0) 2), (2, tk_al 1 3), (3, tk_gI 5 3 6), (6, tk_ic (1) 7), (7, tk_bi (fun x y => x - y) 8), (8, tk_cv 3 M_X3_readNumber 2 11), (11, tk_br (fun x => x = 0) 14 16), (14, tk_ic (0) 15), (15, tk_rZ), (16, tk_al 0 17), (17, tk_gI 3 5 20), (20, tk_sI 2 21), (21, tk_al 0 22), (22, tk_ic (0) 23), (23, tk_al 1 24), (24, tk_gI 5 3 27), (27, tk_ic (1) 28), (28, tk_bi (fun x y => x - y) 29), (29, tk_cv 3 M_X3_readNumber 2 32), (32, tk_br (fun x => x = 0) 35 37), (35, tk_ic (0) 36), (36, tk_rZ), (37, tk_al 0 38), (38, tk_gI 3 5 41), (41, tk_sI 3 42), (42, tk_al 0 43), (43, tk_ic (1) 44), (44, tk_ic (4) 45), (45, tk_cv 3 M_X3_readNumber 2 48), (48, tk_br (fun x => x = 0) 51 53), (51, tk_ic (0) 52), (52, tk_rZ), (53, tk_al 1 54), (54, tk_gR 5 7 57), (57, tk_il 2 58), (58, tk_il 3 59), (59, tk_si 9 (fun x => x) 60), (60, tk_al 1 61), (61, tk_gR 5 8 64), (64, tk_il 2 65), (65, tk_al 0 66), (66, tk_gI 3 5 69), (69, tk_si 9 (fun x => x) 70), (70, tk_ic (1) 71), (71, tk_rZ)]
set_option maxRecDepth 100000 in
theorem hT_X3_readDrain (sc : Option (Nat × (Nat → Int32))) : ∀ x ∈ T_X3_readDrain, tk_So sc M_X3_readDrain x.1 x.2 := by
  unfold T_X3_readDrain
  refine List.forall_mem_cons.mpr ⟨so_aload_n dX3_readDrain_0 rfl rfl, ?_⟩
  refine List.forall_mem_cons.mpr ⟨so_iconst dX3_readDrain_1 (by decide) rfl, ?_⟩
  refine List.forall_mem_cons.mpr ⟨so_aload_n dX3_readDrain_2 rfl rfl, ?_⟩
  refine List.forall_mem_cons.mpr ⟨so_gI (C := RX5) (T := TX5) (N := 10) dX3_readDrain_3 (by decide) rfl rfl (by decide) rfl in_X5 wf_X3_81 rfl, ?_⟩
  refine List.forall_mem_cons.mpr ⟨so_iconst dX3_readDrain_6 (by decide) rfl, ?_⟩
  refine List.forall_mem_cons.mpr ⟨so_isub dX3_readDrain_7 rfl, ?_⟩
  refine List.forall_mem_cons.mpr ⟨so_cv (T := TX3) (N := 7) dX3_readDrain_8 mv_X3_readNumber wm_X3_66 (by decide) rfl ⟨rfl, rfl⟩ (by decide) rfl, ?_⟩
  refine List.forall_mem_cons.mpr ⟨so_if_ne dX3_readDrain_11 (by decide) rfl, ?_⟩
  refine List.forall_mem_cons.mpr ⟨so_iconst dX3_readDrain_14 (by decide) rfl, ?_⟩
  refine List.forall_mem_cons.mpr ⟨so_rZ dX3_readDrain_15 rfl, ?_⟩
  refine List.forall_mem_cons.mpr ⟨so_aload_n dX3_readDrain_16 rfl rfl, ?_⟩
  refine List.forall_mem_cons.mpr ⟨so_gI (C := RX3) (T := TX3) (N := 7) dX3_readDrain_17 (by decide) rfl rfl (by decide) rfl in_X3 wf_X3_70 rfl, ?_⟩
  refine List.forall_mem_cons.mpr ⟨so_istore_n dX3_readDrain_20 rfl rfl, ?_⟩
  refine List.forall_mem_cons.mpr ⟨so_aload_n dX3_readDrain_21 rfl rfl, ?_⟩
  refine List.forall_mem_cons.mpr ⟨so_iconst dX3_readDrain_22 (by decide) rfl, ?_⟩
  refine List.forall_mem_cons.mpr ⟨so_aload_n dX3_readDrain_23 rfl rfl, ?_⟩
  refine List.forall_mem_cons.mpr ⟨so_gI (C := RX5) (T := TX5) (N := 10) dX3_readDrain_24 (by decide) rfl rfl (by decide) rfl in_X5 wf_X3_81 rfl, ?_⟩
  refine List.forall_mem_cons.mpr ⟨so_iconst dX3_readDrain_27 (by decide) rfl, ?_⟩
  refine List.forall_mem_cons.mpr ⟨so_isub dX3_readDrain_28 rfl, ?_⟩
  refine List.forall_mem_cons.mpr ⟨so_cv (T := TX3) (N := 7) dX3_readDrain_29 mv_X3_readNumber wm_X3_66 (by decide) rfl ⟨rfl, rfl⟩ (by decide) rfl, ?_⟩
  refine List.forall_mem_cons.mpr ⟨so_if_ne dX3_readDrain_32 (by decide) rfl, ?_⟩
  refine List.forall_mem_cons.mpr ⟨so_iconst dX3_readDrain_35 (by decide) rfl, ?_⟩
  refine List.forall_mem_cons.mpr ⟨so_rZ dX3_readDrain_36 rfl, ?_⟩
  refine List.forall_mem_cons.mpr ⟨so_aload_n dX3_readDrain_37 rfl rfl, ?_⟩
  refine List.forall_mem_cons.mpr ⟨so_gI (C := RX3) (T := TX3) (N := 7) dX3_readDrain_38 (by decide) rfl rfl (by decide) rfl in_X3 wf_X3_70 rfl, ?_⟩
  refine List.forall_mem_cons.mpr ⟨so_istore_n dX3_readDrain_41 rfl rfl, ?_⟩
  refine List.forall_mem_cons.mpr ⟨so_aload_n dX3_readDrain_42 rfl rfl, ?_⟩
  refine List.forall_mem_cons.mpr ⟨so_iconst dX3_readDrain_43 (by decide) rfl, ?_⟩
  refine List.forall_mem_cons.mpr ⟨so_iconst dX3_readDrain_44 (by decide) rfl, ?_⟩
  refine List.forall_mem_cons.mpr ⟨so_cv (T := TX3) (N := 7) dX3_readDrain_45 mv_X3_readNumber wm_X3_66 (by decide) rfl ⟨rfl, rfl⟩ (by decide) rfl, ?_⟩
  refine List.forall_mem_cons.mpr ⟨so_if_ne dX3_readDrain_48 (by decide) rfl, ?_⟩
  refine List.forall_mem_cons.mpr ⟨so_iconst dX3_readDrain_51 (by decide) rfl, ?_⟩
  refine List.forall_mem_cons.mpr ⟨so_rZ dX3_readDrain_52 rfl, ?_⟩
  refine List.forall_mem_cons.mpr ⟨so_aload_n dX3_readDrain_53 rfl rfl, ?_⟩
  refine List.forall_mem_cons.mpr ⟨so_gR (C := RX5) (T := TX5) (N := 10) dX3_readDrain_54 (by decide) rfl rfl (by decide) rfl in_X5 wf_X3_84 rfl, ?_⟩
  refine List.forall_mem_cons.mpr ⟨so_iload_n dX3_readDrain_57 rfl rfl, ?_⟩
  refine List.forall_mem_cons.mpr ⟨so_iload_n dX3_readDrain_58 rfl rfl, ?_⟩
  refine List.forall_mem_cons.mpr ⟨so_iastore dX3_readDrain_59 rfl, ?_⟩
  refine List.forall_mem_cons.mpr ⟨so_aload_n dX3_readDrain_60 rfl rfl, ?_⟩
  refine List.forall_mem_cons.mpr ⟨so_gR (C := RX5) (T := TX5) (N := 10) dX3_readDrain_61 (by decide) rfl rfl (by decide) rfl in_X5 wf_X3_88 rfl, ?_⟩
  refine List.forall_mem_cons.mpr ⟨so_iload_n dX3_readDrain_64 rfl rfl, ?_⟩
  refine List.forall_mem_cons.mpr ⟨so_aload_n dX3_readDrain_65 rfl rfl, ?_⟩
  refine List.forall_mem_cons.mpr ⟨so_gI (C := RX3) (T := TX3) (N := 7) dX3_readDrain_66 (by decide) rfl rfl (by decide) rfl in_X3 wf_X3_70 rfl, ?_⟩
  refine List.forall_mem_cons.mpr ⟨so_iastore dX3_readDrain_69 rfl, ?_⟩
  refine List.forall_mem_cons.mpr ⟨so_iconst dX3_readDrain_70 (by decide) rfl, ?_⟩
  refine List.forall_mem_cons.mpr ⟨so_rZ dX3_readDrain_71 rfl, ?_⟩
  exact fun _ h => absurd h List.not_mem_nil
end
