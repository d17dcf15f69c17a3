-- ===== PART A: goes FIRST, ahead of the names: the tables' words, and 'selects' of the private methods out of them =====
/-- a private method of a class that the tables say can be made, by its rows of tables_1 -/
def lw_okq (q : MethodName × Nat) : Prop := (q.1.cls ≠ "java/lang/invoke/MethodHandle" ∧ q.1.cls ≠ "java/lang/invoke/VarHandle") ∧ Cond.instantiable q.1.cls q.2 ∈ tables_1 ∧ Cond.privateMethod q.1 ∈ tables_1 ∧ Cond.instanceMethod q.1 ∈ tables_1
theorem lw_p0 : lw_okq (⟨"TwoKerbs$Text", "readToken", "()V"⟩, 7) := ⟨⟨by decide +kernel, by decide +kernel⟩, List.mem_of_getElem? (i := 20) (by decide +kernel), List.mem_of_getElem? (i := 261) (by decide +kernel), List.mem_of_getElem? (i := 262) (by decide +kernel)⟩
theorem lw_p1 : lw_okq (⟨"TwoKerbs$Text", "readDigits", "()I"⟩, 7) := ⟨⟨by decide +kernel, by decide +kernel⟩, List.mem_of_getElem? (i := 20) (by decide +kernel), List.mem_of_getElem? (i := 268) (by decide +kernel), List.mem_of_getElem? (i := 269) (by decide +kernel)⟩
theorem lw_p2 : lw_okq (⟨"TwoKerbs$Text", "readItem", "(LTwoKerbs$Towns;)Z"⟩, 7) := ⟨⟨by decide +kernel, by decide +kernel⟩, List.mem_of_getElem? (i := 20) (by decide +kernel), List.mem_of_getElem? (i := 272) (by decide +kernel), List.mem_of_getElem? (i := 273) (by decide +kernel)⟩
theorem lw_p3 : lw_okq (⟨"TwoKerbs$Text", "readLevel", "(LTwoKerbs$Towns;)Z"⟩, 7) := ⟨⟨by decide +kernel, by decide +kernel⟩, List.mem_of_getElem? (i := 20) (by decide +kernel), List.mem_of_getElem? (i := 276) (by decide +kernel), List.mem_of_getElem? (i := 277) (by decide +kernel)⟩
theorem lw_p4 : lw_okq (⟨"TwoKerbs$Text", "readNumber", "(II)Z"⟩, 7) := ⟨⟨by decide +kernel, by decide +kernel⟩, List.mem_of_getElem? (i := 20) (by decide +kernel), List.mem_of_getElem? (i := 280) (by decide +kernel), List.mem_of_getElem? (i := 281) (by decide +kernel)⟩
theorem lw_p5 : lw_okq (⟨"TwoKerbs$Text", "readItemEnd", "()Z"⟩, 7) := ⟨⟨by decide +kernel, by decide +kernel⟩, List.mem_of_getElem? (i := 20) (by decide +kernel), List.mem_of_getElem? (i := 286) (by decide +kernel), List.mem_of_getElem? (i := 287) (by decide +kernel)⟩
theorem lw_p6 : lw_okq (⟨"TwoKerbs$Text", "readKerb", "(LTwoKerbs$Towns;)Z"⟩, 7) := ⟨⟨by decide +kernel, by decide +kernel⟩, List.mem_of_getElem? (i := 20) (by decide +kernel), List.mem_of_getElem? (i := 294) (by decide +kernel), List.mem_of_getElem? (i := 295) (by decide +kernel)⟩
theorem lw_p7 : lw_okq (⟨"TwoKerbs$Text", "readDrain", "(LTwoKerbs$Towns;)Z"⟩, 7) := ⟨⟨by decide +kernel, by decide +kernel⟩, List.mem_of_getElem? (i := 20) (by decide +kernel), List.mem_of_getElem? (i := 303) (by decide +kernel), List.mem_of_getElem? (i := 304) (by decide +kernel)⟩
theorem lw_p8 : lw_okq (⟨"TwoKerbs$Text", "readThing", "(LTwoKerbs$Towns;)Z"⟩, 7) := ⟨⟨by decide +kernel, by decide +kernel⟩, List.mem_of_getElem? (i := 20) (by decide +kernel), List.mem_of_getElem? (i := 311) (by decide +kernel), List.mem_of_getElem? (i := 312) (by decide +kernel)⟩
theorem lw_p9 : lw_okq (⟨"TwoKerbs", "firstTideOn", "(LTwoKerbs$Thing;I)I"⟩, 12) := ⟨⟨by decide +kernel, by decide +kernel⟩, List.mem_of_getElem? (i := 12) (by decide +kernel), List.mem_of_getElem? (i := 473) (by decide +kernel), List.mem_of_getElem? (i := 474) (by decide +kernel)⟩
theorem lw_p10 : lw_okq (⟨"TwoKerbs", "passSomeWeak", "(LTwoKerbs$Thing;II)V"⟩, 12) := ⟨⟨by decide +kernel, by decide +kernel⟩, List.mem_of_getElem? (i := 12) (by decide +kernel), List.mem_of_getElem? (i := 500) (by decide +kernel), List.mem_of_getElem? (i := 501) (by decide +kernel)⟩
theorem lw_p11 : lw_okq (⟨"TwoKerbs", "canHaveBegunOn", "(I)Z"⟩, 12) := ⟨⟨by decide +kernel, by decide +kernel⟩, List.mem_of_getElem? (i := 12) (by decide +kernel), List.mem_of_getElem? (i := 529) (by decide +kernel), List.mem_of_getElem? (i := 530) (by decide +kernel)⟩
theorem lw_p12 : lw_okq (⟨"TwoKerbs", "isLaw", "(II)Z"⟩, 12) := ⟨⟨by decide +kernel, by decide +kernel⟩, List.mem_of_getElem? (i := 12) (by decide +kernel), List.mem_of_getElem? (i := 541) (by decide +kernel), List.mem_of_getElem? (i := 542) (by decide +kernel)⟩
theorem lw_p13 : lw_okq (⟨"TwoKerbs", "rateAsKerb", "(I)I"⟩, 12) := ⟨⟨by decide +kernel, by decide +kernel⟩, List.mem_of_getElem? (i := 12) (by decide +kernel), List.mem_of_getElem? (i := 554) (by decide +kernel), List.mem_of_getElem? (i := 555) (by decide +kernel)⟩
theorem lw_p14 : lw_okq (⟨"TwoKerbs", "rateAsBank", "(I)I"⟩, 12) := ⟨⟨by decide +kernel, by decide +kernel⟩, List.mem_of_getElem? (i := 12) (by decide +kernel), List.mem_of_getElem? (i := 558) (by decide +kernel), List.mem_of_getElem? (i := 559) (by decide +kernel)⟩
theorem lw_p15 : lw_okq (⟨"TwoKerbs", "rateAsSteps", "(I)I"⟩, 12) := ⟨⟨by decide +kernel, by decide +kernel⟩, List.mem_of_getElem? (i := 12) (by decide +kernel), List.mem_of_getElem? (i := 563) (by decide +kernel), List.mem_of_getElem? (i := 564) (by decide +kernel)⟩
def lw_privs_1 : List (MethodName × Nat) := [(⟨"TwoKerbs$Text", "readToken", "()V"⟩, 7), (⟨"TwoKerbs$Text", "readDigits", "()I"⟩, 7), (⟨"TwoKerbs$Text", "readItem", "(LTwoKerbs$Towns;)Z"⟩, 7), (⟨"TwoKerbs$Text", "readLevel", "(LTwoKerbs$Towns;)Z"⟩, 7), (⟨"TwoKerbs$Text", "readNumber", "(II)Z"⟩, 7), (⟨"TwoKerbs$Text", "readItemEnd", "()Z"⟩, 7), (⟨"TwoKerbs$Text", "readKerb", "(LTwoKerbs$Towns;)Z"⟩, 7), (⟨"TwoKerbs$Text", "readDrain", "(LTwoKerbs$Towns;)Z"⟩, 7), (⟨"TwoKerbs$Text", "readThing", "(LTwoKerbs$Towns;)Z"⟩, 7), (⟨"TwoKerbs", "firstTideOn", "(LTwoKerbs$Thing;I)I"⟩, 12), (⟨"TwoKerbs", "passSomeWeak", "(LTwoKerbs$Thing;II)V"⟩, 12), (⟨"TwoKerbs", "canHaveBegunOn", "(I)Z"⟩, 12), (⟨"TwoKerbs", "isLaw", "(II)Z"⟩, 12), (⟨"TwoKerbs", "rateAsKerb", "(I)I"⟩, 12), (⟨"TwoKerbs", "rateAsBank", "(I)I"⟩, 12), (⟨"TwoKerbs", "rateAsSteps", "(I)I"⟩, 12)]
theorem lw_r1 : ∀ q ∈ lw_privs_1, lw_okq q := List.forall_mem_cons.mpr ⟨lw_p0, List.forall_mem_cons.mpr ⟨lw_p1, List.forall_mem_cons.mpr ⟨lw_p2, List.forall_mem_cons.mpr ⟨lw_p3, List.forall_mem_cons.mpr ⟨lw_p4, List.forall_mem_cons.mpr ⟨lw_p5, List.forall_mem_cons.mpr ⟨lw_p6, List.forall_mem_cons.mpr ⟨lw_p7, List.forall_mem_cons.mpr ⟨lw_p8, List.forall_mem_cons.mpr ⟨lw_p9, List.forall_mem_cons.mpr ⟨lw_p10, List.forall_mem_cons.mpr ⟨lw_p11, List.forall_mem_cons.mpr ⟨lw_p12, List.forall_mem_cons.mpr ⟨lw_p13, List.forall_mem_cons.mpr ⟨lw_p14, List.forall_mem_cons.mpr ⟨lw_p15, fun _ h => absurd h List.not_mem_nil⟩⟩⟩⟩⟩⟩⟩⟩⟩⟩⟩⟩⟩⟩⟩⟩
theorem lw_p16 : lw_okq (⟨"TwoKerbs", "rateAsChurch", "(I)I"⟩, 12) := ⟨⟨by decide +kernel, by decide +kernel⟩, List.mem_of_getElem? (i := 12) (by decide +kernel), List.mem_of_getElem? (i := 568) (by decide +kernel), List.mem_of_getElem? (i := 569) (by decide +kernel)⟩
theorem lw_p17 : lw_okq (⟨"TwoKerbs", "rateAsButcher", "(I)I"⟩, 12) := ⟨⟨by decide +kernel, by decide +kernel⟩, List.mem_of_getElem? (i := 12) (by decide +kernel), List.mem_of_getElem? (i := 573) (by decide +kernel), List.mem_of_getElem? (i := 574) (by decide +kernel)⟩
theorem lw_p18 : lw_okq (⟨"TwoKerbs", "rateAsRing", "(I)I"⟩, 12) := ⟨⟨by decide +kernel, by decide +kernel⟩, List.mem_of_getElem? (i := 12) (by decide +kernel), List.mem_of_getElem? (i := 578) (by decide +kernel), List.mem_of_getElem? (i := 579) (by decide +kernel)⟩
theorem lw_p19 : lw_okq (⟨"TwoKerbsModel", "begins", "()V"⟩, 29) := ⟨⟨by decide +kernel, by decide +kernel⟩, List.mem_of_getElem? (i := 599) (by decide +kernel), List.mem_of_getElem? (i := 605) (by decide +kernel), List.mem_of_getElem? (i := 606) (by decide +kernel)⟩
theorem lw_p20 : lw_okq (⟨"TwoKerbsModel", "settles", "()V"⟩, 29) := ⟨⟨by decide +kernel, by decide +kernel⟩, List.mem_of_getElem? (i := 599) (by decide +kernel), List.mem_of_getElem? (i := 609) (by decide +kernel), List.mem_of_getElem? (i := 610) (by decide +kernel)⟩
theorem lw_p21 : lw_okq (⟨"TwoKerbsModel", "advances", "()V"⟩, 29) := ⟨⟨by decide +kernel, by decide +kernel⟩, List.mem_of_getElem? (i := 599) (by decide +kernel), List.mem_of_getElem? (i := 716) (by decide +kernel), List.mem_of_getElem? (i := 717) (by decide +kernel)⟩
theorem lw_p22 : lw_okq (⟨"TwoKerbsModel", "letterAt", "(I)I"⟩, 29) := ⟨⟨by decide +kernel, by decide +kernel⟩, List.mem_of_getElem? (i := 599) (by decide +kernel), List.mem_of_getElem? (i := 720) (by decide +kernel), List.mem_of_getElem? (i := 721) (by decide +kernel)⟩
theorem lw_p23 : lw_okq (⟨"TwoKerbsModel", "isWell", "()Z"⟩, 29) := ⟨⟨by decide +kernel, by decide +kernel⟩, List.mem_of_getElem? (i := 599) (by decide +kernel), List.mem_of_getElem? (i := 724) (by decide +kernel), List.mem_of_getElem? (i := 725) (by decide +kernel)⟩
theorem lw_p24 : lw_okq (⟨"TwoKerbsModel", "mayBegin", "()Z"⟩, 29) := ⟨⟨by decide +kernel, by decide +kernel⟩, List.mem_of_getElem? (i := 599) (by decide +kernel), List.mem_of_getElem? (i := 728) (by decide +kernel), List.mem_of_getElem? (i := 729) (by decide +kernel)⟩
theorem lw_p25 : lw_okq (⟨"TwoKerbsModel", "takes", "(Z)I"⟩, 29) := ⟨⟨by decide +kernel, by decide +kernel⟩, List.mem_of_getElem? (i := 599) (by decide +kernel), List.mem_of_getElem? (i := 732) (by decide +kernel), List.mem_of_getElem? (i := 733) (by decide +kernel)⟩
theorem lw_p26 : lw_okq (⟨"TwoKerbsModel", "readsItem", "(I)V"⟩, 29) := ⟨⟨by decide +kernel, by decide +kernel⟩, List.mem_of_getElem? (i := 599) (by decide +kernel), List.mem_of_getElem? (i := 736) (by decide +kernel), List.mem_of_getElem? (i := 737) (by decide +kernel)⟩
theorem lw_p27 : lw_okq (⟨"TwoKerbsModel", "number", "(II)I"⟩, 29) := ⟨⟨by decide +kernel, by decide +kernel⟩, List.mem_of_getElem? (i := 599) (by decide +kernel), List.mem_of_getElem? (i := 740) (by decide +kernel), List.mem_of_getElem? (i := 741) (by decide +kernel)⟩
theorem lw_p28 : lw_okq (⟨"TwoKerbsModel", "isKerb", "(I)Z"⟩, 29) := ⟨⟨by decide +kernel, by decide +kernel⟩, List.mem_of_getElem? (i := 599) (by decide +kernel), List.mem_of_getElem? (i := 748) (by decide +kernel), List.mem_of_getElem? (i := 749) (by decide +kernel)⟩
theorem lw_p29 : lw_okq (⟨"TwoKerbsModel", "thingsOn", "(I)I"⟩, 29) := ⟨⟨by decide +kernel, by decide +kernel⟩, List.mem_of_getElem? (i := 599) (by decide +kernel), List.mem_of_getElem? (i := 752) (by decide +kernel), List.mem_of_getElem? (i := 753) (by decide +kernel)⟩
theorem lw_p30 : lw_okq (⟨"TwoKerbsModel", "isThing", "(I)Z"⟩, 29) := ⟨⟨by decide +kernel, by decide +kernel⟩, List.mem_of_getElem? (i := 599) (by decide +kernel), List.mem_of_getElem? (i := 760) (by decide +kernel), List.mem_of_getElem? (i := 761) (by decide +kernel)⟩
theorem lw_p31 : lw_okq (⟨"TwoKerbsModel", "levelOf", "(I)I"⟩, 29) := ⟨⟨by decide +kernel, by decide +kernel⟩, List.mem_of_getElem? (i := 599) (by decide +kernel), List.mem_of_getElem? (i := 768) (by decide +kernel), List.mem_of_getElem? (i := 769) (by decide +kernel)⟩
def lw_privs_2 : List (MethodName × Nat) := [(⟨"TwoKerbs", "rateAsChurch", "(I)I"⟩, 12), (⟨"TwoKerbs", "rateAsButcher", "(I)I"⟩, 12), (⟨"TwoKerbs", "rateAsRing", "(I)I"⟩, 12), (⟨"TwoKerbsModel", "begins", "()V"⟩, 29), (⟨"TwoKerbsModel", "settles", "()V"⟩, 29), (⟨"TwoKerbsModel", "advances", "()V"⟩, 29), (⟨"TwoKerbsModel", "letterAt", "(I)I"⟩, 29), (⟨"TwoKerbsModel", "isWell", "()Z"⟩, 29), (⟨"TwoKerbsModel", "mayBegin", "()Z"⟩, 29), (⟨"TwoKerbsModel", "takes", "(Z)I"⟩, 29), (⟨"TwoKerbsModel", "readsItem", "(I)V"⟩, 29), (⟨"TwoKerbsModel", "number", "(II)I"⟩, 29), (⟨"TwoKerbsModel", "isKerb", "(I)Z"⟩, 29), (⟨"TwoKerbsModel", "thingsOn", "(I)I"⟩, 29), (⟨"TwoKerbsModel", "isThing", "(I)Z"⟩, 29), (⟨"TwoKerbsModel", "levelOf", "(I)I"⟩, 29)]
theorem lw_r2 : ∀ q ∈ lw_privs_2, lw_okq q := List.forall_mem_cons.mpr ⟨lw_p16, List.forall_mem_cons.mpr ⟨lw_p17, List.forall_mem_cons.mpr ⟨lw_p18, List.forall_mem_cons.mpr ⟨lw_p19, List.forall_mem_cons.mpr ⟨lw_p20, List.forall_mem_cons.mpr ⟨lw_p21, List.forall_mem_cons.mpr ⟨lw_p22, List.forall_mem_cons.mpr ⟨lw_p23, List.forall_mem_cons.mpr ⟨lw_p24, List.forall_mem_cons.mpr ⟨lw_p25, List.forall_mem_cons.mpr ⟨lw_p26, List.forall_mem_cons.mpr ⟨lw_p27, List.forall_mem_cons.mpr ⟨lw_p28, List.forall_mem_cons.mpr ⟨lw_p29, List.forall_mem_cons.mpr ⟨lw_p30, List.forall_mem_cons.mpr ⟨lw_p31, fun _ h => absurd h List.not_mem_nil⟩⟩⟩⟩⟩⟩⟩⟩⟩⟩⟩⟩⟩⟩⟩⟩
theorem lw_p32 : lw_okq (⟨"TwoKerbsModel", "floodIn", "(I)I"⟩, 29) := ⟨⟨by decide +kernel, by decide +kernel⟩, List.mem_of_getElem? (i := 599) (by decide +kernel), List.mem_of_getElem? (i := 772) (by decide +kernel), List.mem_of_getElem? (i := 773) (by decide +kernel)⟩
theorem lw_p33 : lw_okq (⟨"TwoKerbsModel", "notes", "()V"⟩, 29) := ⟨⟨by decide +kernel, by decide +kernel⟩, List.mem_of_getElem? (i := 599) (by decide +kernel), List.mem_of_getElem? (i := 780) (by decide +kernel), List.mem_of_getElem? (i := 781) (by decide +kernel)⟩
theorem lw_p34 : lw_okq (⟨"TwoKerbsModel", "takesUp", "(I)V"⟩, 29) := ⟨⟨by decide +kernel, by decide +kernel⟩, List.mem_of_getElem? (i := 599) (by decide +kernel), List.mem_of_getElem? (i := 784) (by decide +kernel), List.mem_of_getElem? (i := 785) (by decide +kernel)⟩
theorem lw_p35 : lw_okq (⟨"TwoKerbsModel", "isTied", "(I)Z"⟩, 29) := ⟨⟨by decide +kernel, by decide +kernel⟩, List.mem_of_getElem? (i := 599) (by decide +kernel), List.mem_of_getElem? (i := 788) (by decide +kernel), List.mem_of_getElem? (i := 789) (by decide +kernel)⟩
theorem lw_p36 : lw_okq (⟨"TwoKerbsModel", "goes", "(I)Z"⟩, 29) := ⟨⟨by decide +kernel, by decide +kernel⟩, List.mem_of_getElem? (i := 599) (by decide +kernel), List.mem_of_getElem? (i := 792) (by decide +kernel), List.mem_of_getElem? (i := 793) (by decide +kernel)⟩
theorem lw_p37 : lw_okq (⟨"TwoKerbsModel", "soon", "(IZ)I"⟩, 29) := ⟨⟨by decide +kernel, by decide +kernel⟩, List.mem_of_getElem? (i := 599) (by decide +kernel), List.mem_of_getElem? (i := 832) (by decide +kernel), List.mem_of_getElem? (i := 833) (by decide +kernel)⟩
theorem lw_p38 : lw_okq (⟨"TwoKerbsModel", "canBegin", "(I)Z"⟩, 29) := ⟨⟨by decide +kernel, by decide +kernel⟩, List.mem_of_getElem? (i := 599) (by decide +kernel), List.mem_of_getElem? (i := 863) (by decide +kernel), List.mem_of_getElem? (i := 864) (by decide +kernel)⟩
def lw_privs_3 : List (MethodName × Nat) := [(⟨"TwoKerbsModel", "floodIn", "(I)I"⟩, 29), (⟨"TwoKerbsModel", "notes", "()V"⟩, 29), (⟨"TwoKerbsModel", "takesUp", "(I)V"⟩, 29), (⟨"TwoKerbsModel", "isTied", "(I)Z"⟩, 29), (⟨"TwoKerbsModel", "goes", "(I)Z"⟩, 29), (⟨"TwoKerbsModel", "soon", "(IZ)I"⟩, 29), (⟨"TwoKerbsModel", "canBegin", "(I)Z"⟩, 29)]
theorem lw_r3 : ∀ q ∈ lw_privs_3, lw_okq q := List.forall_mem_cons.mpr ⟨lw_p32, List.forall_mem_cons.mpr ⟨lw_p33, List.forall_mem_cons.mpr ⟨lw_p34, List.forall_mem_cons.mpr ⟨lw_p35, List.forall_mem_cons.mpr ⟨lw_p36, List.forall_mem_cons.mpr ⟨lw_p37, List.forall_mem_cons.mpr ⟨lw_p38, fun _ h => absurd h List.not_mem_nil⟩⟩⟩⟩⟩⟩⟩
def lw_privs : List (MethodName × Nat) := lw_privs_1 ++ (lw_privs_2 ++ (lw_privs_3))
def lw_tbl : List Cond := k2_sels lw_privs ++ tables_1
theorem lw_privs_ok : ∀ q ∈ lw_privs, lw_okq q := by
  show ∀ q ∈ lw_privs_1 ++ (lw_privs_2 ++ (lw_privs_3)), lw_okq q
  exact List.forall_mem_append.mpr ⟨lw_r1, List.forall_mem_append.mpr ⟨lw_r2, lw_r3⟩⟩
def RX0 : String := "TwoKerbs$Notes"
def TX0 : u_T := fun k => match k with
  | 0 => ("TwoKerbs$Notes", "first", "[I", true)
  | 1 => ("TwoKerbs$Notes", "second", "[I", true)
  | _ => ("TwoKerbs$Notes", "many", "I", false)
def tyX0 : Nat → FieldType := fun k => match k with
  | 0 => .array .int
  | 1 => .array .int
  | _ => .int
abbrev wsX00 : List Cond := u_ws RX0 TX0 3
theorem nmX0 : ∀ a, a < 3 → ∀ b, b < 3 → a ≠ b → (TX0 a).2.1 ≠ (TX0 b).2.1 := by decide +kernel
theorem tyX0_ok : ∀ k, k < 3 → parseFieldDescriptor (TX0 k).2.2.1 = some (tyX0 k) := by decide +kernel
abbrev cX0_init : ByteArray := prog_2_method_1_code
def yX0_init : MethodName := ⟨RX0, "<init>", "()V"⟩
abbrev cX0_add : ByteArray := prog_2_method_2_code
def yX0_add : MethodName := ⟨RX0, "add", "(II)I"⟩
abbrev cX0_lose : ByteArray := prog_2_method_3_code
def yX0_lose : MethodName := ⟨RX0, "lose", "()I"⟩
def RX1 : String := "TwoKerbs$Now"
def TX1 : u_T := fun k => match k with
  | 0 => ("TwoKerbs$Now", "tide", "I", false)
  | 1 => ("TwoKerbs$Now", "drifts", "I", false)
  | _ => ("TwoKerbs$Now", "things", "[LTwoKerbs$Thing;", true)
def tyX1 : Nat → FieldType := fun k => match k with
  | 0 => .int
  | 1 => .int
  | _ => .array (.object "TwoKerbs$Thing")
abbrev wsX10 : List Cond := u_ws RX1 TX1 3
theorem nmX1 : ∀ a, a < 3 → ∀ b, b < 3 → a ≠ b → (TX1 a).2.1 ≠ (TX1 b).2.1 := by decide +kernel
theorem tyX1_ok : ∀ k, k < 3 → parseFieldDescriptor (TX1 k).2.2.1 = some (tyX1 k) := by decide +kernel
abbrev cX1_init : ByteArray := prog_3_method_1_code
def yX1_init : MethodName := ⟨RX1, "<init>", "()V"⟩
abbrev cX1_begin : ByteArray := prog_3_method_2_code
def yX1_begin : MethodName := ⟨RX1, "begin", "(LTwoKerbs$Towns;)V"⟩
abbrev cX1_pass : ByteArray := prog_3_method_3_code
def yX1_pass : MethodName := ⟨RX1, "pass", "(LTwoKerbs$Towns;)I"⟩
abbrev cX1_lyingOn : ByteArray := prog_3_method_4_code
def yX1_lyingOn : MethodName := ⟨RX1, "lyingOn", "(II)I"⟩
abbrev cX1_tiedOf : ByteArray := prog_3_method_5_code
def yX1_tiedOf : MethodName := ⟨RX1, "tiedOf", "(I)I"⟩
abbrev cX1_saveTo : ByteArray := prog_3_method_6_code
def yX1_saveTo : MethodName := ⟨RX1, "saveTo", "([I)V"⟩
abbrev cX1_loadFrom : ByteArray := prog_3_method_7_code
def yX1_loadFrom : MethodName := ⟨RX1, "loadFrom", "([I)V"⟩
def RX2 : String := "TwoKerbs$Past"
def TX2 : u_T := fun k => match k with
  | 0 => ("TwoKerbs$Past", "rows", "[[I", true)
  | 1 => ("TwoKerbs$Past", "known", "I", false)
  | _ => ("TwoKerbs$Past", "next", "I", false)
def tyX2 : Nat → FieldType := fun k => match k with
  | 0 => .array (.array .int)
  | 1 => .int
  | _ => .int
abbrev wsX20 : List Cond := u_ws RX2 TX2 3
theorem nmX2 : ∀ a, a < 3 → ∀ b, b < 3 → a ≠ b → (TX2 a).2.1 ≠ (TX2 b).2.1 := by decide +kernel
theorem tyX2_ok : ∀ k, k < 3 → parseFieldDescriptor (TX2 k).2.2.1 = some (tyX2 k) := by decide +kernel
abbrev cX2_init : ByteArray := prog_4_method_1_code
def yX2_init : MethodName := ⟨RX2, "<init>", "()V"⟩
abbrev cX2_nextRow : ByteArray := prog_4_method_2_code
def yX2_nextRow : MethodName := ⟨RX2, "nextRow", "()[I"⟩
abbrev cX2_latestRow : ByteArray := prog_4_method_3_code
def yX2_latestRow : MethodName := ⟨RX2, "latestRow", "()[I"⟩
abbrev cX2_lose : ByteArray := prog_4_method_4_code
def yX2_lose : MethodName := ⟨RX2, "lose", "()V"⟩
def RX3 : String := "TwoKerbs$Text"
def TX3 : u_T := fun k => match k with
  | 0 => ("TwoKerbs$Text", "letters", "[C", true)
  | 1 => ("TwoKerbs$Text", "length", "I", false)
  | 2 => ("TwoKerbs$Text", "place", "I", false)
  | 3 => ("TwoKerbs$Text", "token", "I", false)
  | 4 => ("TwoKerbs$Text", "tokenPlace", "I", false)
  | 5 => ("TwoKerbs$Text", "value", "I", false)
  | _ => ("TwoKerbs$Text", "isLevelTold", "Z", false)
def tyX3 : Nat → FieldType := fun k => match k with
  | 0 => .array .char
  | 1 => .int
  | 2 => .int
  | 3 => .int
  | 4 => .int
  | 5 => .int
  | _ => .boolean
abbrev wsX30 : List Cond := u_ws RX3 TX3 7
theorem nmX3 : ∀ a, a < 7 → ∀ b, b < 7 → a ≠ b → (TX3 a).2.1 ≠ (TX3 b).2.1 := by decide +kernel
theorem tyX3_ok : ∀ k, k < 7 → parseFieldDescriptor (TX3 k).2.2.1 = some (tyX3 k) := by decide +kernel
abbrev cX3_init : ByteArray := prog_5_method_1_code
def yX3_init : MethodName := ⟨RX3, "<init>", "()V"⟩
abbrev cX3_add : ByteArray := prog_5_method_2_code
def yX3_add : MethodName := ⟨RX3, "add", "(I)I"⟩
abbrev cX3_empty : ByteArray := prog_5_method_3_code
def yX3_empty : MethodName := ⟨RX3, "empty", "()I"⟩
abbrev cX3_readInto : ByteArray := prog_5_method_4_code
def yX3_readInto : MethodName := ⟨RX3, "readInto", "(LTwoKerbs$Towns;)I"⟩
abbrev cX3_readItem : ByteArray := prog_5_method_5_code
def yX3_readItem : MethodName := ⟨RX3, "readItem", "(LTwoKerbs$Towns;)Z"⟩
abbrev cX3_readLevel : ByteArray := prog_5_method_6_code
def yX3_readLevel : MethodName := ⟨RX3, "readLevel", "(LTwoKerbs$Towns;)Z"⟩
abbrev cX3_readKerb : ByteArray := prog_5_method_7_code
def yX3_readKerb : MethodName := ⟨RX3, "readKerb", "(LTwoKerbs$Towns;)Z"⟩
abbrev cX3_readDrain : ByteArray := prog_5_method_8_code
def yX3_readDrain : MethodName := ⟨RX3, "readDrain", "(LTwoKerbs$Towns;)Z"⟩
abbrev cX3_readThing : ByteArray := prog_5_method_9_code
def yX3_readThing : MethodName := ⟨RX3, "readThing", "(LTwoKerbs$Towns;)Z"⟩
abbrev cX3_readItemEnd : ByteArray := prog_5_method_10_code
def yX3_readItemEnd : MethodName := ⟨RX3, "readItemEnd", "()Z"⟩
abbrev cX3_readNumber : ByteArray := prog_5_method_11_code
def yX3_readNumber : MethodName := ⟨RX3, "readNumber", "(II)Z"⟩
abbrev cX3_readToken : ByteArray := prog_5_method_12_code
def yX3_readToken : MethodName := ⟨RX3, "readToken", "()V"⟩
abbrev cX3_readDigits : ByteArray := prog_5_method_13_code
def yX3_readDigits : MethodName := ⟨RX3, "readDigits", "()I"⟩
abbrev cX3_isDigit : ByteArray := prog_5_method_14_code
def yX3_isDigit : MethodName := ⟨RX3, "isDigit", "(C)Z"⟩
def RX4 : String := "TwoKerbs$Thing"
def TX4 : u_T := fun k => match k with
  | 0 => ("TwoKerbs$Thing", "kerb", "I", false)
  | 1 => ("TwoKerbs$Thing", "left", "I", false)
  | _ => ("TwoKerbs$Thing", "tied", "Z", false)
def tyX4 : Nat → FieldType := fun k => match k with
  | 0 => .int
  | 1 => .int
  | _ => .boolean
abbrev wsX40 : List Cond := u_ws RX4 TX4 3
theorem nmX4 : ∀ a, a < 3 → ∀ b, b < 3 → a ≠ b → (TX4 a).2.1 ≠ (TX4 b).2.1 := by decide +kernel
theorem tyX4_ok : ∀ k, k < 3 → parseFieldDescriptor (TX4 k).2.2.1 = some (tyX4 k) := by decide +kernel
abbrev cX4_init : ByteArray := prog_6_method_1_code
def yX4_init : MethodName := ⟨RX4, "<init>", "()V"⟩
abbrev cX4_lieOn : ByteArray := prog_6_method_2_code
def yX4_lieOn : MethodName := ⟨RX4, "lieOn", "(I)V"⟩
abbrev cX4_becomes : ByteArray := prog_6_method_3_code
def yX4_becomes : MethodName := ⟨RX4, "becomes", "(LTwoKerbs$Thing;)V"⟩
abbrev cX4_lies : ByteArray := prog_6_method_4_code
def yX4_lies : MethodName := ⟨RX4, "lies", "()Z"⟩
abbrev cX4_liesOn : ByteArray := prog_6_method_5_code
def yX4_liesOn : MethodName := ⟨RX4, "liesOn", "(I)Z"⟩
abbrev cX4_isAs : ByteArray := prog_6_method_6_code
def yX4_isAs : MethodName := ⟨RX4, "isAs", "(LTwoKerbs$Thing;)Z"⟩
abbrev cX4_place : ByteArray := prog_6_method_7_code
def yX4_place : MethodName := ⟨RX4, "place", "()I"⟩
abbrev cX4_pass : ByteArray := prog_6_method_8_code
def yX4_pass : MethodName := ⟨RX4, "pass", "(LTwoKerbs$Towns;I)Z"⟩
def RX5 : String := "TwoKerbs$Towns"
def TX5 : u_T := fun k => match k with
  | 0 => ("TwoKerbs$Towns", "modulo", "I", false)
  | 1 => ("TwoKerbs$Towns", "step", "I", false)
  | 2 => ("TwoKerbs$Towns", "offset", "I", false)
  | 3 => ("TwoKerbs$Towns", "kerbs", "I", false)
  | 4 => ("TwoKerbs$Towns", "things", "I", false)
  | 5 => ("TwoKerbs$Towns", "town", "[I", true)
  | 6 => ("TwoKerbs$Towns", "height", "[I", true)
  | 7 => ("TwoKerbs$Towns", "drain", "[I", true)
  | 8 => ("TwoKerbs$Towns", "delay", "[I", true)
  | _ => ("TwoKerbs$Towns", "first", "[I", true)
def tyX5 : Nat → FieldType := fun k => match k with
  | 0 => .int
  | 1 => .int
  | 2 => .int
  | 3 => .int
  | 4 => .int
  | 5 => .array .int
  | 6 => .array .int
  | 7 => .array .int
  | 8 => .array .int
  | _ => .array .int
abbrev wsX50 : List Cond := u_ws RX5 TX5 10
theorem nmX5 : ∀ a, a < 10 → ∀ b, b < 10 → a ≠ b → (TX5 a).2.1 ≠ (TX5 b).2.1 := by decide +kernel
theorem tyX5_ok : ∀ k, k < 10 → parseFieldDescriptor (TX5 k).2.2.1 = some (tyX5 k) := by decide +kernel
abbrev cX5_init : ByteArray := prog_7_method_1_code
def yX5_init : MethodName := ⟨RX5, "<init>", "()V"⟩
abbrev cX5_reset : ByteArray := prog_7_method_2_code
def yX5_reset : MethodName := ⟨RX5, "reset", "()V"⟩
abbrev cX5_setLevel : ByteArray := prog_7_method_3_code
def yX5_setLevel : MethodName := ⟨RX5, "setLevel", "(III)V"⟩
abbrev cX5_hasRoomForKerb : ByteArray := prog_7_method_4_code
def yX5_hasRoomForKerb : MethodName := ⟨RX5, "hasRoomForKerb", "()Z"⟩
abbrev cX5_hasRoomForThing : ByteArray := prog_7_method_5_code
def yX5_hasRoomForThing : MethodName := ⟨RX5, "hasRoomForThing", "()Z"⟩
abbrev cX5_addKerb : ByteArray := prog_7_method_6_code
def yX5_addKerb : MethodName := ⟨RX5, "addKerb", "(II)V"⟩
abbrev cX5_addThing : ByteArray := prog_7_method_7_code
def yX5_addThing : MethodName := ⟨RX5, "addThing", "(I)V"⟩
abbrev cX5_isKerb : ByteArray := prog_7_method_8_code
def yX5_isKerb : MethodName := ⟨RX5, "isKerb", "(I)Z"⟩
abbrev cX5_isThing : ByteArray := prog_7_method_9_code
def yX5_isThing : MethodName := ⟨RX5, "isThing", "(I)Z"⟩
abbrev cX5_areOfOneTown : ByteArray := prog_7_method_10_code
def yX5_areOfOneTown : MethodName := ⟨RX5, "areOfOneTown", "(II)Z"⟩
abbrev cX5_leftOver : ByteArray := prog_7_method_11_code
def yX5_leftOver : MethodName := ⟨RX5, "leftOver", "(I)I"⟩
abbrev cX5_levelOf : ByteArray := prog_7_method_12_code
def yX5_levelOf : MethodName := ⟨RX5, "levelOf", "(I)I"⟩
abbrev cX5_isFlooded : ByteArray := prog_7_method_13_code
def yX5_isFlooded : MethodName := ⟨RX5, "isFlooded", "(II)Z"⟩
abbrev cX5_floodedBy : ByteArray := prog_7_method_14_code
def yX5_floodedBy : MethodName := ⟨RX5, "floodedBy", "(I)I"⟩
def RX6 : String := "TwoKerbs"
def TX6 : u_T := fun k => match k with
  | 0 => ("TwoKerbs", "text", "LTwoKerbs$Text;", true)
  | 1 => ("TwoKerbs", "told", "LTwoKerbs$Towns;", false)
  | 2 => ("TwoKerbs", "spare", "LTwoKerbs$Towns;", false)
  | 3 => ("TwoKerbs", "now", "LTwoKerbs$Now;", true)
  | 4 => ("TwoKerbs", "past", "LTwoKerbs$Past;", true)
  | 5 => ("TwoKerbs", "images", "[[I", true)
  | 6 => ("TwoKerbs", "kept", "[Z", true)
  | 7 => ("TwoKerbs", "found", "LTwoKerbs$Notes;", true)
  | 8 => ("TwoKerbs", "seen", "LTwoKerbs$Notes;", true)
  | 9 => ("TwoKerbs", "one", "LTwoKerbs$Thing;", true)
  | 10 => ("TwoKerbs", "two", "LTwoKerbs$Thing;", true)
  | _ => ("TwoKerbs", "trace", "J", false)
def tyX6 : Nat → FieldType := fun k => match k with
  | 0 => .object "TwoKerbs$Text"
  | 1 => .object "TwoKerbs$Towns"
  | 2 => .object "TwoKerbs$Towns"
  | 3 => .object "TwoKerbs$Now"
  | 4 => .object "TwoKerbs$Past"
  | 5 => .array (.array .int)
  | 6 => .array .boolean
  | 7 => .object "TwoKerbs$Notes"
  | 8 => .object "TwoKerbs$Notes"
  | 9 => .object "TwoKerbs$Thing"
  | 10 => .object "TwoKerbs$Thing"
  | _ => .long
abbrev wsX60 : List Cond := u_ws RX6 TX6 12
theorem nmX6 : ∀ a, a < 12 → ∀ b, b < 12 → a ≠ b → (TX6 a).2.1 ≠ (TX6 b).2.1 := by decide +kernel
theorem tyX6_ok : ∀ k, k < 12 → parseFieldDescriptor (TX6 k).2.2.1 = some (tyX6 k) := by decide +kernel
abbrev cX6_init : ByteArray := prog_1_method_1_code
def yX6_init : MethodName := ⟨RX6, "<init>", "()V"⟩
abbrev cX6_type : ByteArray := prog_1_method_2_code
def yX6_type : MethodName := ⟨RX6, "type", "(I)I"⟩
abbrev cX6_clear : ByteArray := prog_1_method_3_code
def yX6_clear : MethodName := ⟨RX6, "clear", "()I"⟩
abbrev cX6_towns : ByteArray := prog_1_method_4_code
def yX6_towns : MethodName := ⟨RX6, "towns", "()I"⟩
abbrev cX6_kerb : ByteArray := prog_1_method_5_code
def yX6_kerb : MethodName := ⟨RX6, "kerb", "(II)I"⟩
abbrev cX6_thing : ByteArray := prog_1_method_6_code
def yX6_thing : MethodName := ⟨RX6, "thing", "(II)I"⟩
abbrev cX6_now : ByteArray := prog_1_method_7_code
def yX6_now : MethodName := ⟨RX6, "now", "(I)I"⟩
abbrev cX6_tides : ByteArray := prog_1_method_8_code
def yX6_tides : MethodName := ⟨RX6, "tides", "(I)I"⟩
abbrev cX6_ties : ByteArray := prog_1_method_9_code
def yX6_ties : MethodName := ⟨RX6, "ties", "(II)I"⟩
abbrev cX6_carries : ByteArray := prog_1_method_10_code
def yX6_carries : MethodName := ⟨RX6, "carries", "(II)I"⟩
abbrev cX6_undo : ByteArray := prog_1_method_11_code
def yX6_undo : MethodName := ⟨RX6, "undo", "()I"⟩
abbrev cX6_level : ByteArray := prog_1_method_12_code
def yX6_level : MethodName := ⟨RX6, "level", "(I)I"⟩
abbrev cX6_high : ByteArray := prog_1_method_13_code
def yX6_high : MethodName := ⟨RX6, "high", "(I)I"⟩
abbrev cX6_flood : ByteArray := prog_1_method_14_code
def yX6_flood : MethodName := ⟨RX6, "flood", "(I)I"⟩
abbrev cX6_where : ByteArray := prog_1_method_15_code
def yX6_where : MethodName := ⟨RX6, "where", "(II)I"⟩
abbrev cX6_when : ByteArray := prog_1_method_16_code
def yX6_when : MethodName := ⟨RX6, "when", "(II)I"⟩
abbrev cX6_send : ByteArray := prog_1_method_17_code
def yX6_send : MethodName := ⟨RX6, "send", "(III)I"⟩
abbrev cX6_meet : ByteArray := prog_1_method_18_code
def yX6_meet : MethodName := ⟨RX6, "meet", "(II)I"⟩
abbrev cX6_round : ByteArray := prog_1_method_19_code
def yX6_round : MethodName := ⟨RX6, "round", "(I)I"⟩
abbrev cX6_odds : ByteArray := prog_1_method_20_code
def yX6_odds : MethodName := ⟨RX6, "odds", "(IIIII)I"⟩
abbrev cX6_found : ByteArray := prog_1_method_21_code
def yX6_found : MethodName := ⟨RX6, "found", "(II)I"⟩
abbrev cX6_began : ByteArray := prog_1_method_22_code
def yX6_began : MethodName := ⟨RX6, "began", "()I"⟩
abbrev cX6_saw : ByteArray := prog_1_method_23_code
def yX6_saw : MethodName := ⟨RX6, "saw", "(II)I"⟩
abbrev cX6_laws : ByteArray := prog_1_method_24_code
def yX6_laws : MethodName := ⟨RX6, "laws", "(I)I"⟩
abbrev cX6_forget : ByteArray := prog_1_method_25_code
def yX6_forget : MethodName := ⟨RX6, "forget", "()I"⟩
abbrev cX6_rate : ByteArray := prog_1_method_26_code
def yX6_rate : MethodName := ⟨RX6, "rate", "(II)I"⟩
abbrev cX6_keep : ByteArray := prog_1_method_27_code
def yX6_keep : MethodName := ⟨RX6, "keep", "(I)I"⟩
abbrev cX6_back : ByteArray := prog_1_method_28_code
def yX6_back : MethodName := ⟨RX6, "back", "(I)I"⟩
abbrev cX6_count : ByteArray := prog_1_method_29_code
def yX6_count : MethodName := ⟨RX6, "count", "(I)I"⟩
abbrev cX6_trace : ByteArray := prog_1_method_30_code
def yX6_trace : MethodName := ⟨RX6, "trace", "()J"⟩
abbrev cX6_isWithin : ByteArray := prog_1_method_31_code
def yX6_isWithin : MethodName := ⟨RX6, "isWithin", "(III)Z"⟩
abbrev cX6_power : ByteArray := prog_1_method_32_code
def yX6_power : MethodName := ⟨RX6, "power", "(II)I"⟩
abbrev cX6_commonDivisor : ByteArray := prog_1_method_33_code
def yX6_commonDivisor : MethodName := ⟨RX6, "commonDivisor", "(II)I"⟩
abbrev cX6_firstTideOn : ByteArray := prog_1_method_34_code
def yX6_firstTideOn : MethodName := ⟨RX6, "firstTideOn", "(LTwoKerbs$Thing;I)I"⟩
abbrev cX6_passSomeWeak : ByteArray := prog_1_method_35_code
def yX6_passSomeWeak : MethodName := ⟨RX6, "passSomeWeak", "(LTwoKerbs$Thing;II)V"⟩
abbrev cX6_canHaveBegunOn : ByteArray := prog_1_method_36_code
def yX6_canHaveBegunOn : MethodName := ⟨RX6, "canHaveBegunOn", "(I)Z"⟩
abbrev cX6_isLaw : ByteArray := prog_1_method_37_code
def yX6_isLaw : MethodName := ⟨RX6, "isLaw", "(II)Z"⟩
abbrev cX6_rateAsKerb : ByteArray := prog_1_method_38_code
def yX6_rateAsKerb : MethodName := ⟨RX6, "rateAsKerb", "(I)I"⟩
abbrev cX6_rateAsBank : ByteArray := prog_1_method_39_code
def yX6_rateAsBank : MethodName := ⟨RX6, "rateAsBank", "(I)I"⟩
abbrev cX6_rateAsSteps : ByteArray := prog_1_method_40_code
def yX6_rateAsSteps : MethodName := ⟨RX6, "rateAsSteps", "(I)I"⟩
abbrev cX6_rateAsChurch : ByteArray := prog_1_method_41_code
def yX6_rateAsChurch : MethodName := ⟨RX6, "rateAsChurch", "(I)I"⟩
abbrev cX6_rateAsButcher : ByteArray := prog_1_method_42_code
def yX6_rateAsButcher : MethodName := ⟨RX6, "rateAsButcher", "(I)I"⟩
abbrev cX6_rateAsRing : ByteArray := prog_1_method_43_code
def yX6_rateAsRing : MethodName := ⟨RX6, "rateAsRing", "(I)I"⟩
def RX7 : String := "TwoKerbsModel"
def TX7 : u_T := fun k => match k with
  | 0 => ("TwoKerbsModel", "thrown", "I", false)
  | 1 => ("TwoKerbsModel", "trace", "J", false)
  | 2 => ("TwoKerbsModel", "text", "[I", true)
  | 3 => ("TwoKerbsModel", "typed", "I", false)
  | 4 => ("TwoKerbsModel", "next", "I", false)
  | 5 => ("TwoKerbsModel", "token", "I", false)
  | 6 => ("TwoKerbsModel", "place", "I", false)
  | 7 => ("TwoKerbsModel", "value", "I", false)
  | 8 => ("TwoKerbsModel", "fault", "I", false)
  | 9 => ("TwoKerbsModel", "many", "[I", true)
  | 10 => ("TwoKerbsModel", "isTold", "Z", false)
  | 11 => ("TwoKerbsModel", "town", "[I", true)
  | 12 => ("TwoKerbsModel", "height", "[I", true)
  | 13 => ("TwoKerbsModel", "drain", "[I", true)
  | 14 => ("TwoKerbsModel", "delay", "[I", true)
  | 15 => ("TwoKerbsModel", "lies", "[I", true)
  | 16 => ("TwoKerbsModel", "s", "[I", true)
  | 17 => ("TwoKerbsModel", "kept", "[I", true)
  | 18 => ("TwoKerbsModel", "isKept", "[Z", true)
  | 19 => ("TwoKerbsModel", "undos", "[I", true)
  | 20 => ("TwoKerbsModel", "undoMany", "I", false)
  | 21 => ("TwoKerbsModel", "foundOn", "[I", true)
  | 22 => ("TwoKerbsModel", "foundIn", "[I", true)
  | 23 => ("TwoKerbsModel", "foundMany", "I", false)
  | 24 => ("TwoKerbsModel", "sawIn", "[I", true)
  | 25 => ("TwoKerbsModel", "sawLevel", "[I", true)
  | 26 => ("TwoKerbsModel", "sawMany", "I", false)
  | 27 => ("TwoKerbsModel", "kerb", "I", false)
  | _ => ("TwoKerbsModel", "toGo", "I", false)
def tyX7 : Nat → FieldType := fun k => match k with
  | 0 => .int
  | 1 => .long
  | 2 => .array .int
  | 3 => .int
  | 4 => .int
  | 5 => .int
  | 6 => .int
  | 7 => .int
  | 8 => .int
  | 9 => .array .int
  | 10 => .boolean
  | 11 => .array .int
  | 12 => .array .int
  | 13 => .array .int
  | 14 => .array .int
  | 15 => .array .int
  | 16 => .array .int
  | 17 => .array .int
  | 18 => .array .boolean
  | 19 => .array .int
  | 20 => .int
  | 21 => .array .int
  | 22 => .array .int
  | 23 => .int
  | 24 => .array .int
  | 25 => .array .int
  | 26 => .int
  | 27 => .int
  | _ => .int
abbrev wsX70 : List Cond := u_ws RX7 TX7 29
theorem nmX7 : ∀ a, a < 29 → ∀ b, b < 29 → a ≠ b → (TX7 a).2.1 ≠ (TX7 b).2.1 := by decide +kernel
theorem tyX7_ok : ∀ k, k < 29 → parseFieldDescriptor (TX7 k).2.2.1 = some (tyX7 k) := by decide +kernel
abbrev cX7_init : ByteArray := prog_9_method_1_code
def yX7_init : MethodName := ⟨RX7, "<init>", "()V"⟩
abbrev cX7_in : ByteArray := prog_9_method_3_code
def yX7_in : MethodName := ⟨RX7, "in", "(III)Z"⟩
abbrev cX7_ones : ByteArray := prog_9_method_4_code
def yX7_ones : MethodName := ⟨RX7, "ones", "(I)I"⟩
abbrev cX7_type : ByteArray := prog_9_method_5_code
def yX7_type : MethodName := ⟨RX7, "type", "(I)I"⟩
abbrev cX7_clear : ByteArray := prog_9_method_6_code
def yX7_clear : MethodName := ⟨RX7, "clear", "()I"⟩
abbrev cX7_letterAt : ByteArray := prog_9_method_7_code
def yX7_letterAt : MethodName := ⟨RX7, "letterAt", "(I)I"⟩
abbrev cX7_advances : ByteArray := prog_9_method_8_code
def yX7_advances : MethodName := ⟨RX7, "advances", "()V"⟩
abbrev cX7_isWell : ByteArray := prog_9_method_9_code
def yX7_isWell : MethodName := ⟨RX7, "isWell", "()Z"⟩
abbrev cX7_takes : ByteArray := prog_9_method_10_code
def yX7_takes : MethodName := ⟨RX7, "takes", "(Z)I"⟩
abbrev cX7_number : ByteArray := prog_9_method_11_code
def yX7_number : MethodName := ⟨RX7, "number", "(II)I"⟩
abbrev cX7_begins : ByteArray := prog_9_method_12_code
def yX7_begins : MethodName := ⟨RX7, "begins", "()V"⟩
abbrev cX7_mayBegin : ByteArray := prog_9_method_13_code
def yX7_mayBegin : MethodName := ⟨RX7, "mayBegin", "()Z"⟩
abbrev cX7_readsItem : ByteArray := prog_9_method_14_code
def yX7_readsItem : MethodName := ⟨RX7, "readsItem", "(I)V"⟩
abbrev cX7_towns : ByteArray := prog_9_method_15_code
def yX7_towns : MethodName := ⟨RX7, "towns", "()I"⟩
abbrev cX7_settles : ByteArray := prog_9_method_16_code
def yX7_settles : MethodName := ⟨RX7, "settles", "()V"⟩
abbrev cX7_isKerb : ByteArray := prog_9_method_17_code
def yX7_isKerb : MethodName := ⟨RX7, "isKerb", "(I)Z"⟩
abbrev cX7_isThing : ByteArray := prog_9_method_18_code
def yX7_isThing : MethodName := ⟨RX7, "isThing", "(I)Z"⟩
abbrev cX7_isTied : ByteArray := prog_9_method_19_code
def yX7_isTied : MethodName := ⟨RX7, "isTied", "(I)Z"⟩
abbrev cX7_levelOf : ByteArray := prog_9_method_20_code
def yX7_levelOf : MethodName := ⟨RX7, "levelOf", "(I)I"⟩
abbrev cX7_floodIn : ByteArray := prog_9_method_21_code
def yX7_floodIn : MethodName := ⟨RX7, "floodIn", "(I)I"⟩
abbrev cX7_thingsOn : ByteArray := prog_9_method_22_code
def yX7_thingsOn : MethodName := ⟨RX7, "thingsOn", "(I)I"⟩
abbrev cX7_kerb : ByteArray := prog_9_method_23_code
def yX7_kerb : MethodName := ⟨RX7, "kerb", "(II)I"⟩
abbrev cX7_thing : ByteArray := prog_9_method_24_code
def yX7_thing : MethodName := ⟨RX7, "thing", "(II)I"⟩
abbrev cX7_now : ByteArray := prog_9_method_25_code
def yX7_now : MethodName := ⟨RX7, "now", "(I)I"⟩
abbrev cX7_notes : ByteArray := prog_9_method_26_code
def yX7_notes : MethodName := ⟨RX7, "notes", "()V"⟩
abbrev cX7_goes : ByteArray := prog_9_method_27_code
def yX7_goes : MethodName := ⟨RX7, "goes", "(I)Z"⟩
abbrev cX7_takesUp : ByteArray := prog_9_method_28_code
def yX7_takesUp : MethodName := ⟨RX7, "takesUp", "(I)V"⟩
abbrev cX7_tides : ByteArray := prog_9_method_29_code
def yX7_tides : MethodName := ⟨RX7, "tides", "(I)I"⟩
abbrev cX7_ties : ByteArray := prog_9_method_30_code
def yX7_ties : MethodName := ⟨RX7, "ties", "(II)I"⟩
abbrev cX7_carries : ByteArray := prog_9_method_31_code
def yX7_carries : MethodName := ⟨RX7, "carries", "(II)I"⟩
abbrev cX7_undo : ByteArray := prog_9_method_32_code
def yX7_undo : MethodName := ⟨RX7, "undo", "()I"⟩
abbrev cX7_level : ByteArray := prog_9_method_33_code
def yX7_level : MethodName := ⟨RX7, "level", "(I)I"⟩
abbrev cX7_high : ByteArray := prog_9_method_34_code
def yX7_high : MethodName := ⟨RX7, "high", "(I)I"⟩
abbrev cX7_flood : ByteArray := prog_9_method_35_code
def yX7_flood : MethodName := ⟨RX7, "flood", "(I)I"⟩
abbrev cX7_where : ByteArray := prog_9_method_36_code
def yX7_where : MethodName := ⟨RX7, "where", "(II)I"⟩
abbrev cX7_soon : ByteArray := prog_9_method_37_code
def yX7_soon : MethodName := ⟨RX7, "soon", "(IZ)I"⟩
abbrev cX7_when : ByteArray := prog_9_method_38_code
def yX7_when : MethodName := ⟨RX7, "when", "(II)I"⟩
abbrev cX7_send : ByteArray := prog_9_method_39_code
def yX7_send : MethodName := ⟨RX7, "send", "(III)I"⟩
abbrev cX7_meet : ByteArray := prog_9_method_40_code
def yX7_meet : MethodName := ⟨RX7, "meet", "(II)I"⟩
abbrev cX7_round : ByteArray := prog_9_method_41_code
def yX7_round : MethodName := ⟨RX7, "round", "(I)I"⟩
abbrev cX7_gcd : ByteArray := prog_9_method_42_code
def yX7_gcd : MethodName := ⟨RX7, "gcd", "(II)I"⟩
abbrev cX7_odds : ByteArray := prog_9_method_43_code
def yX7_odds : MethodName := ⟨RX7, "odds", "(IIIII)I"⟩
abbrev cX7_found : ByteArray := prog_9_method_44_code
def yX7_found : MethodName := ⟨RX7, "found", "(II)I"⟩
abbrev cX7_canBegin : ByteArray := prog_9_method_45_code
def yX7_canBegin : MethodName := ⟨RX7, "canBegin", "(I)Z"⟩
abbrev cX7_began : ByteArray := prog_9_method_46_code
def yX7_began : MethodName := ⟨RX7, "began", "()I"⟩
abbrev cX7_saw : ByteArray := prog_9_method_47_code
def yX7_saw : MethodName := ⟨RX7, "saw", "(II)I"⟩
abbrev cX7_laws : ByteArray := prog_9_method_48_code
def yX7_laws : MethodName := ⟨RX7, "laws", "(I)I"⟩
abbrev cX7_forget : ByteArray := prog_9_method_49_code
def yX7_forget : MethodName := ⟨RX7, "forget", "()I"⟩
abbrev cX7_rate : ByteArray := prog_9_method_50_code
def yX7_rate : MethodName := ⟨RX7, "rate", "(II)I"⟩
abbrev cX7_keep : ByteArray := prog_9_method_51_code
def yX7_keep : MethodName := ⟨RX7, "keep", "(I)I"⟩
abbrev cX7_back : ByteArray := prog_9_method_52_code
def yX7_back : MethodName := ⟨RX7, "back", "(I)I"⟩
abbrev cX7_count : ByteArray := prog_9_method_53_code
def yX7_count : MethodName := ⟨RX7, "count", "(I)I"⟩
abbrev cX7_trace : ByteArray := prog_9_method_54_code
def yX7_trace : MethodName := ⟨RX7, "trace", "()J"⟩
def RJ6 : String := "java/lang/Integer"
def TJ6 : u_T := fun k => match k with
  | _ => ("", "", "", false)
def tyJ6 : Nat → FieldType := fun k => match k with
  | _ => .int
abbrev wsJ60 : List Cond := u_ws RJ6 TJ6 0
abbrev cJ6_bitCount_0f7a4 : ByteArray := prog_10_method_49_code
def yJ6_bitCount_0f7a4 : MethodName := ⟨RJ6, "bitCount", "(I)I"⟩
def RJ9 : String := "java/lang/Math"
def TJ9 : u_T := fun k => match k with
  | _ => ("", "", "", false)
def tyJ9 : Nat → FieldType := fun k => match k with
  | _ => .int
abbrev wsJ90 : List Cond := u_ws RJ9 TJ9 0
abbrev cJ9_max_7cf53 : ByteArray := prog_11_method_65_code
def yJ9_max_7cf53 : MethodName := ⟨RJ9, "max", "(II)I"⟩
abbrev cJ9_min_7cf53 : ByteArray := prog_11_method_69_code
def yJ9_min_7cf53 : MethodName := ⟨RJ9, "min", "(II)I"⟩
def RL : String := "TwoKerbsLaw"
abbrev cL_law : ByteArray := code
def yL_law : MethodName := ⟨RL, "law", "([I)Z"⟩
abbrev vwCl : List vw_C := [(RX0, TX0, 3), (RX1, TX1, 3), (RX2, TX2, 3), (RX3, TX3, 7), (RX4, TX4, 3), (RX5, TX5, 10), (RX6, TX6, 12), (RX7, TX7, 29)]
