section
-- ===== PART A: goes FIRST, ahead of the names: the tables' words, and 'selects' of the private methods out of them =====
/-- a private method of a class that the tables say can be made, by its rows of tables_1 -/
def lw_okq (q : MethodName × Nat) : Prop := (q.1.cls ≠ "java/lang/invoke/MethodHandle" ∧ q.1.cls ≠ "java/lang/invoke/VarHandle") ∧ Cond.instantiable q.1.cls q.2 ∈ tables_1 ∧ Cond.privateMethod q.1 ∈ tables_1 ∧ Cond.instanceMethod q.1 ∈ tables_1
theorem lw_p0 : lw_okq (⟨"LeaseHouse", "hasNameAnd", "(I)Z"⟩, 7) := ⟨⟨by decide +kernel, by decide +kernel⟩, List.mem_of_getElem? (i := 22) (by decide +kernel), List.mem_of_getElem? (i := 123) (by decide +kernel), List.mem_of_getElem? (i := 124) (by decide +kernel)⟩
theorem lw_p1 : lw_okq (⟨"LeaseHouse", "findOrAddThing", "(I)LLeaseHouse$Thing;"⟩, 7) := ⟨⟨by decide +kernel, by decide +kernel⟩, List.mem_of_getElem? (i := 22) (by decide +kernel), List.mem_of_getElem? (i := 133) (by decide +kernel), List.mem_of_getElem? (i := 134) (by decide +kernel)⟩
theorem lw_p2 : lw_okq (⟨"LeaseHouse", "findThing", "(I)LLeaseHouse$Thing;"⟩, 7) := ⟨⟨by decide +kernel, by decide +kernel⟩, List.mem_of_getElem? (i := 22) (by decide +kernel), List.mem_of_getElem? (i := 137) (by decide +kernel), List.mem_of_getElem? (i := 138) (by decide +kernel)⟩
theorem lw_p3 : lw_okq (⟨"java/util/ArrayList", "add", "(Ljava/lang/Object;[Ljava/lang/Object;I)V"⟩, 3) := ⟨⟨by decide +kernel, by decide +kernel⟩, List.mem_of_getElem? (i := 30) (by decide +kernel), List.mem_of_getElem? (i := 196) (by decide +kernel), List.mem_of_getElem? (i := 197) (by decide +kernel)⟩
theorem lw_p4 : lw_okq (⟨"java/util/ArrayList", "grow", "()[Ljava/lang/Object;"⟩, 3) := ⟨⟨by decide +kernel, by decide +kernel⟩, List.mem_of_getElem? (i := 30) (by decide +kernel), List.mem_of_getElem? (i := 200) (by decide +kernel), List.mem_of_getElem? (i := 201) (by decide +kernel)⟩
theorem lw_p5 : lw_okq (⟨"java/util/ArrayList", "grow", "(I)[Ljava/lang/Object;"⟩, 3) := ⟨⟨by decide +kernel, by decide +kernel⟩, List.mem_of_getElem? (i := 30) (by decide +kernel), List.mem_of_getElem? (i := 204) (by decide +kernel), List.mem_of_getElem? (i := 205) (by decide +kernel)⟩
theorem lw_p6 : lw_okq (⟨"LeaseHouse", "lineUp", "(LLeaseHouse$Thing;II)I"⟩, 7) := ⟨⟨by decide +kernel, by decide +kernel⟩, List.mem_of_getElem? (i := 22) (by decide +kernel), List.mem_of_getElem? (i := 253) (by decide +kernel), List.mem_of_getElem? (i := 254) (by decide +kernel)⟩
theorem lw_p7 : lw_okq (⟨"LeaseHouse", "lend", "(LLeaseHouse$Thing;III)V"⟩, 7) := ⟨⟨by decide +kernel, by decide +kernel⟩, List.mem_of_getElem? (i := 22) (by decide +kernel), List.mem_of_getElem? (i := 287) (by decide +kernel), List.mem_of_getElem? (i := 288) (by decide +kernel)⟩
theorem lw_p8 : lw_okq (⟨"LeaseHouse", "tellChange", "(LLeaseHouse$Thing;I)V"⟩, 7) := ⟨⟨by decide +kernel, by decide +kernel⟩, List.mem_of_getElem? (i := 22) (by decide +kernel), List.mem_of_getElem? (i := 291) (by decide +kernel), List.mem_of_getElem? (i := 292) (by decide +kernel)⟩
theorem lw_p9 : lw_okq (⟨"java/util/ArrayList", "fastRemove", "([Ljava/lang/Object;I)V"⟩, 3) := ⟨⟨by decide +kernel, by decide +kernel⟩, List.mem_of_getElem? (i := 30) (by decide +kernel), List.mem_of_getElem? (i := 321) (by decide +kernel), List.mem_of_getElem? (i := 322) (by decide +kernel)⟩
theorem lw_p10 : lw_okq (⟨"LeaseHouse", "findThingHeldBy", "(I)LLeaseHouse$Thing;"⟩, 7) := ⟨⟨by decide +kernel, by decide +kernel⟩, List.mem_of_getElem? (i := 22) (by decide +kernel), List.mem_of_getElem? (i := 331) (by decide +kernel), List.mem_of_getElem? (i := 332) (by decide +kernel)⟩
theorem lw_p11 : lw_okq (⟨"LeaseHouse", "endLease", "(LLeaseHouse$Thing;)V"⟩, 7) := ⟨⟨by decide +kernel, by decide +kernel⟩, List.mem_of_getElem? (i := 22) (by decide +kernel), List.mem_of_getElem? (i := 335) (by decide +kernel), List.mem_of_getElem? (i := 336) (by decide +kernel)⟩
theorem lw_p12 : lw_okq (⟨"LeaseHouse", "findNextToEnd", "()LLeaseHouse$Thing;"⟩, 7) := ⟨⟨by decide +kernel, by decide +kernel⟩, List.mem_of_getElem? (i := 22) (by decide +kernel), List.mem_of_getElem? (i := 369) (by decide +kernel), List.mem_of_getElem? (i := 370) (by decide +kernel)⟩
theorem lw_p13 : lw_okq (⟨"LeaseHouse", "findTurnOf", "(LLeaseHouse$Job;)I"⟩, 7) := ⟨⟨by decide +kernel, by decide +kernel⟩, List.mem_of_getElem? (i := 22) (by decide +kernel), List.mem_of_getElem? (i := 413) (by decide +kernel), List.mem_of_getElem? (i := 414) (by decide +kernel)⟩
theorem lw_p14 : lw_okq (⟨"java/util/ArrayList", "rangeCheckForAdd", "(I)V"⟩, 3) := ⟨⟨by decide +kernel, by decide +kernel⟩, List.mem_of_getElem? (i := 30) (by decide +kernel), List.mem_of_getElem? (i := 425) (by decide +kernel), List.mem_of_getElem? (i := 426) (by decide +kernel)⟩
theorem lw_p15 : lw_okq (⟨"LeaseHouse", "findInCache", "(I)I"⟩, 7) := ⟨⟨by decide +kernel, by decide +kernel⟩, List.mem_of_getElem? (i := 22) (by decide +kernel), List.mem_of_getElem? (i := 454) (by decide +kernel), List.mem_of_getElem? (i := 455) (by decide +kernel)⟩
def lw_privs_1 : List (MethodName × Nat) := [(⟨"LeaseHouse", "hasNameAnd", "(I)Z"⟩, 7), (⟨"LeaseHouse", "findOrAddThing", "(I)LLeaseHouse$Thing;"⟩, 7), (⟨"LeaseHouse", "findThing", "(I)LLeaseHouse$Thing;"⟩, 7), (⟨"java/util/ArrayList", "add", "(Ljava/lang/Object;[Ljava/lang/Object;I)V"⟩, 3), (⟨"java/util/ArrayList", "grow", "()[Ljava/lang/Object;"⟩, 3), (⟨"java/util/ArrayList", "grow", "(I)[Ljava/lang/Object;"⟩, 3), (⟨"LeaseHouse", "lineUp", "(LLeaseHouse$Thing;II)I"⟩, 7), (⟨"LeaseHouse", "lend", "(LLeaseHouse$Thing;III)V"⟩, 7), (⟨"LeaseHouse", "tellChange", "(LLeaseHouse$Thing;I)V"⟩, 7), (⟨"java/util/ArrayList", "fastRemove", "([Ljava/lang/Object;I)V"⟩, 3), (⟨"LeaseHouse", "findThingHeldBy", "(I)LLeaseHouse$Thing;"⟩, 7), (⟨"LeaseHouse", "endLease", "(LLeaseHouse$Thing;)V"⟩, 7), (⟨"LeaseHouse", "findNextToEnd", "()LLeaseHouse$Thing;"⟩, 7), (⟨"LeaseHouse", "findTurnOf", "(LLeaseHouse$Job;)I"⟩, 7), (⟨"java/util/ArrayList", "rangeCheckForAdd", "(I)V"⟩, 3), (⟨"LeaseHouse", "findInCache", "(I)I"⟩, 7)]
theorem lw_r1 : ∀ q ∈ lw_privs_1, lw_okq q := List.forall_mem_cons.mpr ⟨lw_p0, List.forall_mem_cons.mpr ⟨lw_p1, List.forall_mem_cons.mpr ⟨lw_p2, List.forall_mem_cons.mpr ⟨lw_p3, List.forall_mem_cons.mpr ⟨lw_p4, List.forall_mem_cons.mpr ⟨lw_p5, List.forall_mem_cons.mpr ⟨lw_p6, List.forall_mem_cons.mpr ⟨lw_p7, List.forall_mem_cons.mpr ⟨lw_p8, List.forall_mem_cons.mpr ⟨lw_p9, List.forall_mem_cons.mpr ⟨lw_p10, List.forall_mem_cons.mpr ⟨lw_p11, List.forall_mem_cons.mpr ⟨lw_p12, List.forall_mem_cons.mpr ⟨lw_p13, List.forall_mem_cons.mpr ⟨lw_p14, List.forall_mem_cons.mpr ⟨lw_p15, fun _ h => absurd h List.not_mem_nil⟩⟩⟩⟩⟩⟩⟩⟩⟩⟩⟩⟩⟩⟩⟩⟩
theorem lw_p16 : lw_okq (⟨"LeaseHouse", "changesOf", "(I)I"⟩, 7) := ⟨⟨by decide +kernel, by decide +kernel⟩, List.mem_of_getElem? (i := 22) (by decide +kernel), List.mem_of_getElem? (i := 464) (by decide +kernel), List.mem_of_getElem? (i := 465) (by decide +kernel)⟩
theorem lw_p17 : lw_okq (⟨"LeaseHouse", "countLeases", "()I"⟩, 7) := ⟨⟨by decide +kernel, by decide +kernel⟩, List.mem_of_getElem? (i := 22) (by decide +kernel), List.mem_of_getElem? (i := 539) (by decide +kernel), List.mem_of_getElem? (i := 540) (by decide +kernel)⟩
theorem lw_p18 : lw_okq (⟨"LeaseHouse", "countWaiting", "()I"⟩, 7) := ⟨⟨by decide +kernel, by decide +kernel⟩, List.mem_of_getElem? (i := 22) (by decide +kernel), List.mem_of_getElem? (i := 543) (by decide +kernel), List.mem_of_getElem? (i := 544) (by decide +kernel)⟩
theorem lw_p19 : lw_okq (⟨"LeaseHouse", "countWatchedNames", "()I"⟩, 7) := ⟨⟨by decide +kernel, by decide +kernel⟩, List.mem_of_getElem? (i := 22) (by decide +kernel), List.mem_of_getElem? (i := 547) (by decide +kernel), List.mem_of_getElem? (i := 548) (by decide +kernel)⟩
theorem lw_p20 : lw_okq (⟨"LeaseHouse", "countNotes", "()I"⟩, 7) := ⟨⟨by decide +kernel, by decide +kernel⟩, List.mem_of_getElem? (i := 22) (by decide +kernel), List.mem_of_getElem? (i := 551) (by decide +kernel), List.mem_of_getElem? (i := 552) (by decide +kernel)⟩
theorem lw_p21 : lw_okq (⟨"LeaseHouseModel", "here", "()I"⟩, 27) := ⟨⟨by decide +kernel, by decide +kernel⟩, List.mem_of_getElem? (i := 562) (by decide +kernel), List.mem_of_getElem? (i := 667) (by decide +kernel), List.mem_of_getElem? (i := 668) (by decide +kernel)⟩
theorem lw_p22 : lw_okq (⟨"LeaseHouseModel", "code", "()J"⟩, 27) := ⟨⟨by decide +kernel, by decide +kernel⟩, List.mem_of_getElem? (i := 562) (by decide +kernel), List.mem_of_getElem? (i := 671) (by decide +kernel), List.mem_of_getElem? (i := 672) (by decide +kernel)⟩
theorem lw_p23 : lw_okq (⟨"LeaseHouseModel", "change", "(II)V"⟩, 27) := ⟨⟨by decide +kernel, by decide +kernel⟩, List.mem_of_getElem? (i := 562) (by decide +kernel), List.mem_of_getElem? (i := 676) (by decide +kernel), List.mem_of_getElem? (i := 677) (by decide +kernel)⟩
theorem lw_p24 : lw_okq (⟨"LeaseHouseModel", "drop", "(I)V"⟩, 27) := ⟨⟨by decide +kernel, by decide +kernel⟩, List.mem_of_getElem? (i := 562) (by decide +kernel), List.mem_of_getElem? (i := 680) (by decide +kernel), List.mem_of_getElem? (i := 681) (by decide +kernel)⟩
theorem lw_p25 : lw_okq (⟨"LeaseHouseModel", "place", "(II)I"⟩, 27) := ⟨⟨by decide +kernel, by decide +kernel⟩, List.mem_of_getElem? (i := 562) (by decide +kernel), List.mem_of_getElem? (i := 684) (by decide +kernel), List.mem_of_getElem? (i := 685) (by decide +kernel)⟩
theorem lw_p26 : lw_okq (⟨"LeaseHouseModel", "end", "(I)V"⟩, 27) := ⟨⟨by decide +kernel, by decide +kernel⟩, List.mem_of_getElem? (i := 562) (by decide +kernel), List.mem_of_getElem? (i := 692) (by decide +kernel), List.mem_of_getElem? (i := 693) (by decide +kernel)⟩
theorem lw_p27 : lw_okq (⟨"LeaseHouseModel", "out", "(II)V"⟩, 27) := ⟨⟨by decide +kernel, by decide +kernel⟩, List.mem_of_getElem? (i := 562) (by decide +kernel), List.mem_of_getElem? (i := 696) (by decide +kernel), List.mem_of_getElem? (i := 697) (by decide +kernel)⟩
theorem lw_p28 : lw_okq (⟨"LeaseHouseModel", "next", "()I"⟩, 27) := ⟨⟨by decide +kernel, by decide +kernel⟩, List.mem_of_getElem? (i := 562) (by decide +kernel), List.mem_of_getElem? (i := 712) (by decide +kernel), List.mem_of_getElem? (i := 713) (by decide +kernel)⟩
theorem lw_p29 : lw_okq (⟨"LeaseHouseModel", "write", "(I)V"⟩, 27) := ⟨⟨by decide +kernel, by decide +kernel⟩, List.mem_of_getElem? (i := 562) (by decide +kernel), List.mem_of_getElem? (i := 732) (by decide +kernel), List.mem_of_getElem? (i := 733) (by decide +kernel)⟩
theorem lw_p30 : lw_okq (⟨"LeaseHouseModel", "gone", "(I)V"⟩, 27) := ⟨⟨by decide +kernel, by decide +kernel⟩, List.mem_of_getElem? (i := 562) (by decide +kernel), List.mem_of_getElem? (i := 745) (by decide +kernel), List.mem_of_getElem? (i := 746) (by decide +kernel)⟩
theorem lw_p31 : lw_okq (⟨"LeaseHouseModel", "inCache", "(I)I"⟩, 27) := ⟨⟨by decide +kernel, by decide +kernel⟩, List.mem_of_getElem? (i := 562) (by decide +kernel), List.mem_of_getElem? (i := 757) (by decide +kernel), List.mem_of_getElem? (i := 758) (by decide +kernel)⟩
def lw_privs_2 : List (MethodName × Nat) := [(⟨"LeaseHouse", "changesOf", "(I)I"⟩, 7), (⟨"LeaseHouse", "countLeases", "()I"⟩, 7), (⟨"LeaseHouse", "countWaiting", "()I"⟩, 7), (⟨"LeaseHouse", "countWatchedNames", "()I"⟩, 7), (⟨"LeaseHouse", "countNotes", "()I"⟩, 7), (⟨"LeaseHouseModel", "here", "()I"⟩, 27), (⟨"LeaseHouseModel", "code", "()J"⟩, 27), (⟨"LeaseHouseModel", "change", "(II)V"⟩, 27), (⟨"LeaseHouseModel", "drop", "(I)V"⟩, 27), (⟨"LeaseHouseModel", "place", "(II)I"⟩, 27), (⟨"LeaseHouseModel", "end", "(I)V"⟩, 27), (⟨"LeaseHouseModel", "out", "(II)V"⟩, 27), (⟨"LeaseHouseModel", "next", "()I"⟩, 27), (⟨"LeaseHouseModel", "write", "(I)V"⟩, 27), (⟨"LeaseHouseModel", "gone", "(I)V"⟩, 27), (⟨"LeaseHouseModel", "inCache", "(I)I"⟩, 27)]
theorem lw_r2 : ∀ q ∈ lw_privs_2, lw_okq q := List.forall_mem_cons.mpr ⟨lw_p16, List.forall_mem_cons.mpr ⟨lw_p17, List.forall_mem_cons.mpr ⟨lw_p18, List.forall_mem_cons.mpr ⟨lw_p19, List.forall_mem_cons.mpr ⟨lw_p20, List.forall_mem_cons.mpr ⟨lw_p21, List.forall_mem_cons.mpr ⟨lw_p22, List.forall_mem_cons.mpr ⟨lw_p23, List.forall_mem_cons.mpr ⟨lw_p24, List.forall_mem_cons.mpr ⟨lw_p25, List.forall_mem_cons.mpr ⟨lw_p26, List.forall_mem_cons.mpr ⟨lw_p27, List.forall_mem_cons.mpr ⟨lw_p28, List.forall_mem_cons.mpr ⟨lw_p29, List.forall_mem_cons.mpr ⟨lw_p30, List.forall_mem_cons.mpr ⟨lw_p31, fun _ h => absurd h List.not_mem_nil⟩⟩⟩⟩⟩⟩⟩⟩⟩⟩⟩⟩⟩⟩⟩⟩
def lw_privs : List (MethodName × Nat) := lw_privs_1 ++ (lw_privs_2)
def lw_tbl : List Cond := k2_sels lw_privs ++ tables_1
theorem lw_privs_ok : ∀ q ∈ lw_privs, lw_okq q := by
  show ∀ q ∈ lw_privs_1 ++ (lw_privs_2), lw_okq q
  exact List.forall_mem_append.mpr ⟨lw_r1, lw_r2⟩
end
section
def F_LH : u_T := fun k => match k with
  | 0 => ("LeaseHouse", "things", "Ljava/util/ArrayList;", true)
  | 1 => ("LeaseHouse", "jobs", "Ljava/util/ArrayList;", true)
  | 2 => ("LeaseHouse", "cache", "Ljava/util/ArrayList;", true)
  | 3 => ("LeaseHouse", "boxes", "[LLeaseHouse$NoteBox;", true)
  | 4 => ("LeaseHouse", "waitTimes", "LLeaseHouse$WaitTimes;", true)
  | 5 => ("LeaseHouse", "tape", "I", false)
  | _ => ("LeaseHouse", "now", "I", false)
def t_LH : Nat → FieldType := fun k => match k with
  | 0 => .object "java/util/ArrayList"
  | 1 => .object "java/util/ArrayList"
  | 2 => .object "java/util/ArrayList"
  | 3 => .array (.object "LeaseHouse$NoteBox")
  | 4 => .object "LeaseHouse$WaitTimes"
  | 5 => .int
  | _ => .int
def F_Thing : u_T := fun k => match k with
  | 0 => ("LeaseHouse$Thing", "name", "I", true)
  | 1 => ("LeaseHouse$Thing", "row", "Ljava/util/ArrayList;", true)
  | 2 => ("LeaseHouse$Thing", "holder", "I", false)
  | 3 => ("LeaseHouse$Thing", "until", "I", false)
  | 4 => ("LeaseHouse$Thing", "changes", "I", false)
  | _ => ("LeaseHouse$Thing", "watchers", "I", false)
def t_Thing : Nat → FieldType := fun k => match k with
  | 0 => .int
  | 1 => .object "java/util/ArrayList"
  | 2 => .int
  | 3 => .int
  | 4 => .int
  | _ => .int
def F_Waiter : u_T := fun k => match k with
  | 0 => ("LeaseHouse$Waiter", "client", "I", true)
  | 1 => ("LeaseHouse$Waiter", "ticks", "I", true)
  | _ => ("LeaseHouse$Waiter", "since", "I", true)
def t_Waiter : Nat → FieldType := fun k => match k with
  | 0 => .int
  | 1 => .int
  | _ => .int
def F_Job : u_T := fun k => match k with
  | 0 => ("LeaseHouse$Job", "name", "I", true)
  | 1 => ("LeaseHouse$Job", "rank", "I", true)
  | _ => ("LeaseHouse$Job", "due", "I", true)
def t_Job : Nat → FieldType := fun k => match k with
  | 0 => .int
  | 1 => .int
  | _ => .int
def F_Cached : u_T := fun k => match k with
  | 0 => ("LeaseHouse$Cached", "name", "I", true)
  | _ => ("LeaseHouse$Cached", "number", "I", true)
def t_Cached : Nat → FieldType := fun k => match k with
  | 0 => .int
  | _ => .int
def F_Note : u_T := fun k => match k with
  | 0 => ("LeaseHouse$Note", "name", "I", true)
  | _ => ("LeaseHouse$Note", "kind", "I", true)
def t_Note : Nat → FieldType := fun k => match k with
  | 0 => .int
  | _ => .int
def F_NoteBox : u_T := fun k => match k with
  | _ => ("LeaseHouse$NoteBox", "notes", "Ljava/util/ArrayList;", true)
def t_NoteBox : Nat → FieldType := fun k => match k with
  | _ => .object "java/util/ArrayList"
def F_WaitTimes : u_T := fun k => match k with
  | 0 => ("LeaseHouse$WaitTimes", "times", "[I", true)
  | _ => ("LeaseHouse$WaitTimes", "size", "I", false)
def t_WaitTimes : Nat → FieldType := fun k => match k with
  | 0 => .array (.int)
  | _ => .int
def F_AL : u_T := fun k => match k with
  | 0 => ("java/util/AbstractList", "modCount", "I", false)
  | 1 => ("java/util/ArrayList", "elementData", "[Ljava/lang/Object;", false)
  | _ => ("java/util/ArrayList", "size", "I", false)
def t_AL : Nat → FieldType := fun k => match k with
  | 0 => .int
  | 1 => .array (.object "java/lang/Object")
  | _ => .int
def F_Mo : u_T := fun k => match k with
  | 0 => ("LeaseHouseModel", "tape", "[I", true)
  | 1 => ("LeaseHouseModel", "name", "[J", true)
  | 2 => ("LeaseHouseModel", "changes", "[I", true)
  | 3 => ("LeaseHouseModel", "watchers", "[I", true)
  | 4 => ("LeaseHouseModel", "watcher", "[I", true)
  | 5 => ("LeaseHouseModel", "holder", "[I", true)
  | 6 => ("LeaseHouseModel", "until", "[I", true)
  | 7 => ("LeaseHouseModel", "many", "[I", true)
  | 8 => ("LeaseHouseModel", "waits", "[I", true)
  | 9 => ("LeaseHouseModel", "wants", "[I", true)
  | 10 => ("LeaseHouseModel", "since", "[I", true)
  | 11 => ("LeaseHouseModel", "waited", "[I", true)
  | 12 => ("LeaseHouseModel", "jobName", "[I", true)
  | 13 => ("LeaseHouseModel", "jobRank", "[I", true)
  | 14 => ("LeaseHouseModel", "jobDue", "[I", true)
  | 15 => ("LeaseHouseModel", "cached", "[I", true)
  | 16 => ("LeaseHouseModel", "number", "[I", true)
  | 17 => ("LeaseHouseModel", "noteName", "[I", true)
  | 18 => ("LeaseHouseModel", "noteKind", "[I", true)
  | 19 => ("LeaseHouseModel", "notes", "[I", true)
  | 20 => ("LeaseHouseModel", "spell", "[I", true)
  | 21 => ("LeaseHouseModel", "size", "I", false)
  | 22 => ("LeaseHouseModel", "now", "I", false)
  | 23 => ("LeaseHouseModel", "names", "I", false)
  | 24 => ("LeaseHouseModel", "waitings", "I", false)
  | 25 => ("LeaseHouseModel", "jobs", "I", false)
  | _ => ("LeaseHouseModel", "cache", "I", false)
def t_Mo : Nat → FieldType := fun k => match k with
  | 0 => .array (.int)
  | 1 => .array (.long)
  | 2 => .array (.int)
  | 3 => .array (.int)
  | 4 => .array (.int)
  | 5 => .array (.int)
  | 6 => .array (.int)
  | 7 => .array (.int)
  | 8 => .array (.int)
  | 9 => .array (.int)
  | 10 => .array (.int)
  | 11 => .array (.int)
  | 12 => .array (.int)
  | 13 => .array (.int)
  | 14 => .array (.int)
  | 15 => .array (.int)
  | 16 => .array (.int)
  | 17 => .array (.int)
  | 18 => .array (.int)
  | 19 => .array (.int)
  | 20 => .array (.int)
  | 21 => .int
  | 22 => .int
  | 23 => .int
  | 24 => .int
  | 25 => .int
  | _ => .int
/-- the classes whose objects the memory holds: 0 LeaseHouse, 1 LeaseHouse$Thing, 2 LeaseHouse$Waiter, 3 LeaseHouse$Job, 4 LeaseHouse$Cached, 5 LeaseHouse$Note, 6 LeaseHouse$NoteBox, 7 LeaseHouse$WaitTimes, 8 java/util/ArrayList, 9 LeaseHouseModel -/
def vwCl : List vw_C := [("LeaseHouse", F_LH, 7), ("LeaseHouse$Thing", F_Thing, 6), ("LeaseHouse$Waiter", F_Waiter, 3), ("LeaseHouse$Job", F_Job, 3), ("LeaseHouse$Cached", F_Cached, 2), ("LeaseHouse$Note", F_Note, 2), ("LeaseHouse$NoteBox", F_NoteBox, 1), ("LeaseHouse$WaitTimes", F_WaitTimes, 2), ("java/util/ArrayList", F_AL, 3), ("LeaseHouseModel", F_Mo, 27)]
abbrev c_LH_init : ByteArray := prog_1_method_1_code
abbrev m_LH_init : MethodName × ByteArray × Nat × Option FieldType := (⟨"LeaseHouse", "<init>", "(I)V"⟩, c_LH_init, 3, none)
abbrev c_Obj_init : ByteArray := object_method_1_code
abbrev m_Obj_init : MethodName × ByteArray × Nat × Option FieldType := (⟨"java/lang/Object", "<init>", "()V"⟩, c_Obj_init, 1, none)
abbrev c_AL_init : ByteArray := prog_20_method_2_code
abbrev m_AL_init : MethodName × ByteArray × Nat × Option FieldType := (⟨"java/util/ArrayList", "<init>", "()V"⟩, c_AL_init, 1, none)
abbrev c_AbL_init : ByteArray := prog_19_method_1_code
abbrev m_AbL_init : MethodName × ByteArray × Nat × Option FieldType := (⟨"java/util/AbstractList", "<init>", "()V"⟩, c_AbL_init, 1, none)
abbrev c_AbC_init : ByteArray := prog_18_method_1_code
abbrev m_AbC_init : MethodName × ByteArray × Nat × Option FieldType := (⟨"java/util/AbstractCollection", "<init>", "()V"⟩, c_AbC_init, 1, none)
abbrev c_WaitTimes_init : ByteArray := prog_7_method_1_code
abbrev m_WaitTimes_init : MethodName × ByteArray × Nat × Option FieldType := (⟨"LeaseHouse$WaitTimes", "<init>", "()V"⟩, c_WaitTimes_init, 1, none)
abbrev c_NoteBox_init : ByteArray := prog_5_method_1_code
abbrev m_NoteBox_init : MethodName × ByteArray × Nat × Option FieldType := (⟨"LeaseHouse$NoteBox", "<init>", "()V"⟩, c_NoteBox_init, 1, none)
abbrev c_LH_sign : ByteArray := prog_1_method_2_code
abbrev m_LH_sign : MethodName × ByteArray × Nat × Option FieldType := (⟨"LeaseHouse", "sign", "(I)I"⟩, c_LH_sign, 3, (some (.int)))
abbrev c_LH_lengthOf : ByteArray := prog_1_method_24_code
abbrev m_LH_lengthOf : MethodName × ByteArray × Nat × Option FieldType := (⟨"LeaseHouse", "lengthOf", "(I)I"⟩, c_LH_lengthOf, 3, (some (.int)))
abbrev c_LH_withoutLastLetter : ByteArray := prog_1_method_25_code
abbrev m_LH_withoutLastLetter : MethodName × ByteArray × Nat × Option FieldType := (⟨"LeaseHouse", "withoutLastLetter", "(I)I"⟩, c_LH_withoutLastLetter, 1, (some (.int)))
abbrev c_LH_erase : ByteArray := prog_1_method_3_code
abbrev m_LH_erase : MethodName × ByteArray × Nat × Option FieldType := (⟨"LeaseHouse", "erase", "()I"⟩, c_LH_erase, 2, (some (.int)))
abbrev c_LH_want : ByteArray := prog_1_method_4_code
abbrev m_LH_want : MethodName × ByteArray × Nat × Option FieldType := (⟨"LeaseHouse", "want", "(II)I"⟩, c_LH_want, 4, (some (.int)))
abbrev c_LH_hasNameAnd : ByteArray := prog_1_method_28_code
abbrev m_LH_hasNameAnd : MethodName × ByteArray × Nat × Option FieldType := (⟨"LeaseHouse", "hasNameAnd", "(I)Z"⟩, c_LH_hasNameAnd, 2, (some (.boolean)))
abbrev c_LH_isClient : ByteArray := prog_1_method_26_code
abbrev m_LH_isClient : MethodName × ByteArray × Nat × Option FieldType := (⟨"LeaseHouse", "isClient", "(I)Z"⟩, c_LH_isClient, 1, (some (.boolean)))
abbrev c_LH_isLeaseTime : ByteArray := prog_1_method_27_code
abbrev m_LH_isLeaseTime : MethodName × ByteArray × Nat × Option FieldType := (⟨"LeaseHouse", "isLeaseTime", "(I)Z"⟩, c_LH_isLeaseTime, 1, (some (.boolean)))
abbrev c_LH_findOrAddThing : ByteArray := prog_1_method_30_code
abbrev m_LH_findOrAddThing : MethodName × ByteArray × Nat × Option FieldType := (⟨"LeaseHouse", "findOrAddThing", "(I)LLeaseHouse$Thing;"⟩, c_LH_findOrAddThing, 3, (some (.object "LeaseHouse$Thing")))
abbrev c_LH_findThing : ByteArray := prog_1_method_29_code
abbrev m_LH_findThing : MethodName × ByteArray × Nat × Option FieldType := (⟨"LeaseHouse", "findThing", "(I)LLeaseHouse$Thing;"⟩, c_LH_findThing, 3, (some (.object "LeaseHouse$Thing")))
abbrev c_AL_size : ByteArray := prog_20_method_8_code
abbrev m_AL_size : MethodName × ByteArray × Nat × Option FieldType := (⟨"java/util/ArrayList", "size", "()I"⟩, c_AL_size, 1, (some (.int)))
abbrev c_AL_get : ByteArray := prog_20_method_20_code
abbrev m_AL_get : MethodName × ByteArray × Nat × Option FieldType := (⟨"java/util/ArrayList", "get", "(I)Ljava/lang/Object;"⟩, c_AL_get, 2, (some (.object "java/lang/Object")))
abbrev c_Obs_checkIndex : ByteArray := prog_24_method_17_code
abbrev m_Obs_checkIndex : MethodName × ByteArray × Nat × Option FieldType := (⟨"java/util/Objects", "checkIndex", "(II)I"⟩, c_Obs_checkIndex, 2, (some (.int)))
abbrev c_Prec_checkIndex : ByteArray := prog_28_method_11_code
abbrev m_Prec_checkIndex : MethodName × ByteArray × Nat × Option FieldType := (⟨"jdk/internal/util/Preconditions", "checkIndex", "(IILjava/util/function/BiFunction;)I"⟩, c_Prec_checkIndex, 3, (some (.int)))
abbrev c_AL_elementData : ByteArray := prog_20_method_18_code
abbrev m_AL_elementData : MethodName × ByteArray × Nat × Option FieldType := (⟨"java/util/ArrayList", "elementData", "(I)Ljava/lang/Object;"⟩, c_AL_elementData, 2, (some (.object "java/lang/Object")))
abbrev c_Thing_init : ByteArray := prog_6_method_1_code
abbrev m_Thing_init : MethodName × ByteArray × Nat × Option FieldType := (⟨"LeaseHouse$Thing", "<init>", "(I)V"⟩, c_Thing_init, 2, none)
abbrev c_AL_add : ByteArray := prog_20_method_25_code
abbrev m_AL_add : MethodName × ByteArray × Nat × Option FieldType := (⟨"java/util/ArrayList", "add", "(Ljava/lang/Object;)Z"⟩, c_AL_add, 2, (some (.boolean)))
abbrev c_AL_add3 : ByteArray := prog_20_method_24_code
abbrev m_AL_add3 : MethodName × ByteArray × Nat × Option FieldType := (⟨"java/util/ArrayList", "add", "(Ljava/lang/Object;[Ljava/lang/Object;I)V"⟩, c_AL_add3, 4, none)
abbrev c_AL_grow : ByteArray := prog_20_method_7_code
abbrev m_AL_grow : MethodName × ByteArray × Nat × Option FieldType := (⟨"java/util/ArrayList", "grow", "()[Ljava/lang/Object;"⟩, c_AL_grow, 1, (some (.array (.object "java/lang/Object"))))
abbrev c_AL_growI : ByteArray := prog_20_method_6_code
abbrev m_AL_growI : MethodName × ByteArray × Nat × Option FieldType := (⟨"java/util/ArrayList", "grow", "(I)[Ljava/lang/Object;"⟩, c_AL_growI, 4, (some (.array (.object "java/lang/Object"))))
abbrev c_AS_newLength : ByteArray := prog_27_method_27_code
abbrev m_AS_newLength : MethodName × ByteArray × Nat × Option FieldType := (⟨"jdk/internal/util/ArraysSupport", "newLength", "(III)I"⟩, c_AS_newLength, 4, (some (.int)))
abbrev c_Math_max : ByteArray := prog_15_method_65_code
abbrev m_Math_max : MethodName × ByteArray × Nat × Option FieldType := (⟨"java/lang/Math", "max", "(II)I"⟩, c_Math_max, 2, (some (.int)))
abbrev c_AS_hugeLength : ByteArray := prog_27_method_28_code
abbrev m_AS_hugeLength : MethodName × ByteArray × Nat × Option FieldType := (⟨"jdk/internal/util/ArraysSupport", "hugeLength", "(II)I"⟩, c_AS_hugeLength, 3, (some (.int)))
abbrev c_Arrs_copyOf : ByteArray := prog_21_method_119_code
abbrev m_Arrs_copyOf : MethodName × ByteArray × Nat × Option FieldType := (⟨"java/util/Arrays", "copyOf", "([Ljava/lang/Object;I)[Ljava/lang/Object;"⟩, c_Arrs_copyOf, 2, (some (.array (.object "java/lang/Object"))))
abbrev c_Arrs_copyOf3 : ByteArray := prog_21_method_120_code
abbrev m_Arrs_copyOf3 : MethodName × ByteArray × Nat × Option FieldType := (⟨"java/util/Arrays", "copyOf", "([Ljava/lang/Object;ILjava/lang/Class;)[Ljava/lang/Object;"⟩, c_Arrs_copyOf3, 4, (some (.array (.object "java/lang/Object"))))
abbrev c_Math_min : ByteArray := prog_15_method_69_code
abbrev m_Math_min : MethodName × ByteArray × Nat × Option FieldType := (⟨"java/lang/Math", "min", "(II)I"⟩, c_Math_min, 2, (some (.int)))
abbrev c_Thing_isLent : ByteArray := prog_6_method_2_code
abbrev m_Thing_isLent : MethodName × ByteArray × Nat × Option FieldType := (⟨"LeaseHouse$Thing", "isLent", "()Z"⟩, c_Thing_isLent, 1, (some (.boolean)))
abbrev c_LH_lineUp : ByteArray := prog_1_method_33_code
abbrev m_LH_lineUp : MethodName × ByteArray × Nat × Option FieldType := (⟨"LeaseHouse", "lineUp", "(LLeaseHouse$Thing;II)I"⟩, c_LH_lineUp, 4, (some (.int)))
abbrev c_Thing_placeOf : ByteArray := prog_6_method_5_code
abbrev m_Thing_placeOf : MethodName × ByteArray × Nat × Option FieldType := (⟨"LeaseHouse$Thing", "placeOf", "(I)I"⟩, c_Thing_placeOf, 3, (some (.int)))
abbrev c_Waiter_client : ByteArray := prog_8_method_5_code
abbrev m_Waiter_client : MethodName × ByteArray × Nat × Option FieldType := (⟨"LeaseHouse$Waiter", "client", "()I"⟩, c_Waiter_client, 1, (some (.int)))
abbrev c_Waiter_init : ByteArray := prog_8_method_1_code
abbrev m_Waiter_init : MethodName × ByteArray × Nat × Option FieldType := (⟨"LeaseHouse$Waiter", "<init>", "(III)V"⟩, c_Waiter_init, 4, none)
abbrev c_Rcd_init : ByteArray := prog_16_method_1_code
abbrev m_Rcd_init : MethodName × ByteArray × Nat × Option FieldType := (⟨"java/lang/Record", "<init>", "()V"⟩, c_Rcd_init, 1, none)
abbrev c_LH_lend : ByteArray := prog_1_method_34_code
abbrev m_LH_lend : MethodName × ByteArray × Nat × Option FieldType := (⟨"LeaseHouse", "lend", "(LLeaseHouse$Thing;III)V"⟩, c_LH_lend, 5, none)
abbrev c_LH_tellChange : ByteArray := prog_1_method_36_code
abbrev m_LH_tellChange : MethodName × ByteArray × Nat × Option FieldType := (⟨"LeaseHouse", "tellChange", "(LLeaseHouse$Thing;I)V"⟩, c_LH_tellChange, 5, none)
abbrev c_Note_init : ByteArray := prog_4_method_1_code
abbrev m_Note_init : MethodName × ByteArray × Nat × Option FieldType := (⟨"LeaseHouse$Note", "<init>", "(II)V"⟩, c_Note_init, 3, none)
abbrev c_Thing_isWatchedBy : ByteArray := prog_6_method_4_code
abbrev m_Thing_isWatchedBy : MethodName × ByteArray × Nat × Option FieldType := (⟨"LeaseHouse$Thing", "isWatchedBy", "(I)Z"⟩, c_Thing_isWatchedBy, 2, (some (.boolean)))
abbrev c_NoteBox_put : ByteArray := prog_5_method_2_code
abbrev m_NoteBox_put : MethodName × ByteArray × Nat × Option FieldType := (⟨"LeaseHouse$NoteBox", "put", "(LLeaseHouse$Note;)V"⟩, c_NoteBox_put, 2, none)
abbrev c_AL_remove : ByteArray := prog_20_method_29_code
abbrev m_AL_remove : MethodName × ByteArray × Nat × Option FieldType := (⟨"java/util/ArrayList", "remove", "(I)Ljava/lang/Object;"⟩, c_AL_remove, 4, (some (.object "java/lang/Object")))
abbrev c_AL_fastRemove : ByteArray := prog_20_method_39_code
abbrev m_AL_fastRemove : MethodName × ByteArray × Nat × Option FieldType := (⟨"java/util/ArrayList", "fastRemove", "([Ljava/lang/Object;I)V"⟩, c_AL_fastRemove, 4, none)
abbrev c_LH_free : ByteArray := prog_1_method_5_code
abbrev m_LH_free : MethodName × ByteArray × Nat × Option FieldType := (⟨"LeaseHouse", "free", "(I)I"⟩, c_LH_free, 3, (some (.int)))
abbrev c_LH_findThingHeldBy : ByteArray := prog_1_method_31_code
abbrev m_LH_findThingHeldBy : MethodName × ByteArray × Nat × Option FieldType := (⟨"LeaseHouse", "findThingHeldBy", "(I)LLeaseHouse$Thing;"⟩, c_LH_findThingHeldBy, 3, (some (.object "LeaseHouse$Thing")))
abbrev c_LH_endLease : ByteArray := prog_1_method_35_code
abbrev m_LH_endLease : MethodName × ByteArray × Nat × Option FieldType := (⟨"LeaseHouse", "endLease", "(LLeaseHouse$Thing;)V"⟩, c_LH_endLease, 3, none)
abbrev c_AL_isEmpty : ByteArray := prog_20_method_9_code
abbrev m_AL_isEmpty : MethodName × ByteArray × Nat × Option FieldType := (⟨"java/util/ArrayList", "isEmpty", "()Z"⟩, c_AL_isEmpty, 1, (some (.boolean)))
abbrev c_Waiter_since : ByteArray := prog_8_method_7_code
abbrev m_Waiter_since : MethodName × ByteArray × Nat × Option FieldType := (⟨"LeaseHouse$Waiter", "since", "()I"⟩, c_Waiter_since, 1, (some (.int)))
abbrev c_WaitTimes_add : ByteArray := prog_7_method_2_code
abbrev m_WaitTimes_add : MethodName × ByteArray × Nat × Option FieldType := (⟨"LeaseHouse$WaitTimes", "add", "(I)V"⟩, c_WaitTimes_add, 2, none)
abbrev c_Waiter_ticks : ByteArray := prog_8_method_6_code
abbrev m_Waiter_ticks : MethodName × ByteArray × Nat × Option FieldType := (⟨"LeaseHouse$Waiter", "ticks", "()I"⟩, c_Waiter_ticks, 1, (some (.int)))
abbrev c_LH_renew : ByteArray := prog_1_method_6_code
abbrev m_LH_renew : MethodName × ByteArray × Nat × Option FieldType := (⟨"LeaseHouse", "renew", "(II)I"⟩, c_LH_renew, 4, (some (.int)))
abbrev c_LH_leave : ByteArray := prog_1_method_7_code
abbrev m_LH_leave : MethodName × ByteArray × Nat × Option FieldType := (⟨"LeaseHouse", "leave", "(I)I"⟩, c_LH_leave, 4, (some (.int)))
abbrev c_LH_tick : ByteArray := prog_1_method_8_code
abbrev m_LH_tick : MethodName × ByteArray × Nat × Option FieldType := (⟨"LeaseHouse", "tick", "(I)I"⟩, c_LH_tick, 6, (some (.int)))
abbrev c_LH_findNextToEnd : ByteArray := prog_1_method_32_code
abbrev m_LH_findNextToEnd : MethodName × ByteArray × Nat × Option FieldType := (⟨"LeaseHouse", "findNextToEnd", "()LLeaseHouse$Thing;"⟩, c_LH_findNextToEnd, 4, (some (.object "LeaseHouse$Thing")))
abbrev c_Thing_endsBefore : ByteArray := prog_6_method_3_code
abbrev m_Thing_endsBefore : MethodName × ByteArray × Nat × Option FieldType := (⟨"LeaseHouse$Thing", "endsBefore", "(LLeaseHouse$Thing;)Z"⟩, c_Thing_endsBefore, 2, (some (.boolean)))
abbrev c_LH_holder : ByteArray := prog_1_method_9_code
abbrev m_LH_holder : MethodName × ByteArray × Nat × Option FieldType := (⟨"LeaseHouse", "holder", "()I"⟩, c_LH_holder, 2, (some (.int)))
abbrev c_LH_left : ByteArray := prog_1_method_10_code
abbrev m_LH_left : MethodName × ByteArray × Nat × Option FieldType := (⟨"LeaseHouse", "left", "()I"⟩, c_LH_left, 2, (some (.int)))
abbrev c_LH_waiting : ByteArray := prog_1_method_11_code
abbrev m_LH_waiting : MethodName × ByteArray × Nat × Option FieldType := (⟨"LeaseHouse", "waiting", "(I)I"⟩, c_LH_waiting, 3, (some (.int)))
abbrev c_LH_first : ByteArray := prog_1_method_12_code
abbrev m_LH_first : MethodName × ByteArray × Nat × Option FieldType := (⟨"LeaseHouse", "first", "()I"⟩, c_LH_first, 2, (some (.int)))
abbrev c_LH_job : ByteArray := prog_1_method_13_code
abbrev m_LH_job : MethodName × ByteArray × Nat × Option FieldType := (⟨"LeaseHouse", "job", "(II)I"⟩, c_LH_job, 4, (some (.int)))
abbrev c_Job_init : ByteArray := prog_3_method_1_code
abbrev m_Job_init : MethodName × ByteArray × Nat × Option FieldType := (⟨"LeaseHouse$Job", "<init>", "(III)V"⟩, c_Job_init, 4, none)
abbrev c_LH_findTurnOf : ByteArray := prog_1_method_37_code
abbrev m_LH_findTurnOf : MethodName × ByteArray × Nat × Option FieldType := (⟨"LeaseHouse", "findTurnOf", "(LLeaseHouse$Job;)I"⟩, c_LH_findTurnOf, 3, (some (.int)))
abbrev c_Job_goesBefore : ByteArray := prog_3_method_2_code
abbrev m_Job_goesBefore : MethodName × ByteArray × Nat × Option FieldType := (⟨"LeaseHouse$Job", "goesBefore", "(LLeaseHouse$Job;)Z"⟩, c_Job_goesBefore, 2, (some (.boolean)))
abbrev c_AL_addAt : ByteArray := prog_20_method_26_code
abbrev m_AL_addAt : MethodName × ByteArray × Nat × Option FieldType := (⟨"java/util/ArrayList", "add", "(ILjava/lang/Object;)V"⟩, c_AL_addAt, 5, none)
abbrev c_AL_rangeCheckForAdd : ByteArray := prog_20_method_45_code
abbrev m_AL_rangeCheckForAdd : MethodName × ByteArray × Nat × Option FieldType := (⟨"java/util/ArrayList", "rangeCheckForAdd", "(I)V"⟩, c_AL_rangeCheckForAdd, 2, none)
abbrev c_LH_work : ByteArray := prog_1_method_14_code
abbrev m_LH_work : MethodName × ByteArray × Nat × Option FieldType := (⟨"LeaseHouse", "work", "()J"⟩, c_LH_work, 2, (some (.long)))
abbrev c_Job_due : ByteArray := prog_3_method_8_code
abbrev m_Job_due : MethodName × ByteArray × Nat × Option FieldType := (⟨"LeaseHouse$Job", "due", "()I"⟩, c_Job_due, 1, (some (.int)))
abbrev c_Job_name : ByteArray := prog_3_method_6_code
abbrev m_Job_name : MethodName × ByteArray × Nat × Option FieldType := (⟨"LeaseHouse$Job", "name", "()I"⟩, c_Job_name, 1, (some (.int)))
abbrev c_Job_rank : ByteArray := prog_3_method_7_code
abbrev m_Job_rank : MethodName × ByteArray × Nat × Option FieldType := (⟨"LeaseHouse$Job", "rank", "()I"⟩, c_Job_rank, 1, (some (.int)))
abbrev c_LH_cancel : ByteArray := prog_1_method_15_code
abbrev m_LH_cancel : MethodName × ByteArray × Nat × Option FieldType := (⟨"LeaseHouse", "cancel", "()I"⟩, c_LH_cancel, 3, (some (.int)))
abbrev c_LH_ask : ByteArray := prog_1_method_16_code
abbrev m_LH_ask : MethodName × ByteArray × Nat × Option FieldType := (⟨"LeaseHouse", "ask", "()I"⟩, c_LH_ask, 3, (some (.int)))
abbrev c_LH_findInCache : ByteArray := prog_1_method_38_code
abbrev m_LH_findInCache : MethodName × ByteArray × Nat × Option FieldType := (⟨"LeaseHouse", "findInCache", "(I)I"⟩, c_LH_findInCache, 3, (some (.int)))
abbrev c_Cached_name : ByteArray := prog_2_method_5_code
abbrev m_Cached_name : MethodName × ByteArray × Nat × Option FieldType := (⟨"LeaseHouse$Cached", "name", "()I"⟩, c_Cached_name, 1, (some (.int)))
abbrev c_LH_changesOf : ByteArray := prog_1_method_39_code
abbrev m_LH_changesOf : MethodName × ByteArray × Nat × Option FieldType := (⟨"LeaseHouse", "changesOf", "(I)I"⟩, c_LH_changesOf, 3, (some (.int)))
abbrev c_Cached_init : ByteArray := prog_2_method_1_code
abbrev m_Cached_init : MethodName × ByteArray × Nat × Option FieldType := (⟨"LeaseHouse$Cached", "<init>", "(II)V"⟩, c_Cached_init, 3, none)
abbrev c_Cached_number : ByteArray := prog_2_method_6_code
abbrev m_Cached_number : MethodName × ByteArray × Nat × Option FieldType := (⟨"LeaseHouse$Cached", "number", "()I"⟩, c_Cached_number, 1, (some (.int)))
abbrev c_LH_known : ByteArray := prog_1_method_17_code
abbrev m_LH_known : MethodName × ByteArray × Nat × Option FieldType := (⟨"LeaseHouse", "known", "()Z"⟩, c_LH_known, 1, (some (.boolean)))
abbrev c_LH_watch : ByteArray := prog_1_method_18_code
abbrev m_LH_watch : MethodName × ByteArray × Nat × Option FieldType := (⟨"LeaseHouse", "watch", "(I)I"⟩, c_LH_watch, 3, (some (.int)))
abbrev c_Intg_bitCount : ByteArray := prog_13_method_49_code
abbrev m_Intg_bitCount : MethodName × ByteArray × Nat × Option FieldType := (⟨"java/lang/Integer", "bitCount", "(I)I"⟩, c_Intg_bitCount, 1, (some (.int)))
abbrev c_LH_note : ByteArray := prog_1_method_19_code
abbrev m_LH_note : MethodName × ByteArray × Nat × Option FieldType := (⟨"LeaseHouse", "note", "(I)I"⟩, c_LH_note, 3, (some (.int)))
abbrev c_NoteBox_takeOldest : ByteArray := prog_5_method_3_code
abbrev m_NoteBox_takeOldest : MethodName × ByteArray × Nat × Option FieldType := (⟨"LeaseHouse$NoteBox", "takeOldest", "()LLeaseHouse$Note;"⟩, c_NoteBox_takeOldest, 1, (some (.object "LeaseHouse$Note")))
abbrev c_Note_name : ByteArray := prog_4_method_5_code
abbrev m_Note_name : MethodName × ByteArray × Nat × Option FieldType := (⟨"LeaseHouse$Note", "name", "()I"⟩, c_Note_name, 1, (some (.int)))
abbrev c_Note_kind : ByteArray := prog_4_method_6_code
abbrev m_Note_kind : MethodName × ByteArray × Nat × Option FieldType := (⟨"LeaseHouse$Note", "kind", "()I"⟩, c_Note_kind, 1, (some (.int)))
abbrev c_LH_waits : ByteArray := prog_1_method_20_code
abbrev m_LH_waits : MethodName × ByteArray × Nat × Option FieldType := (⟨"LeaseHouse", "waits", "(II)I"⟩, c_LH_waits, 3, (some (.int)))
abbrev c_WaitTimes_countFrom : ByteArray := prog_7_method_3_code
abbrev m_WaitTimes_countFrom : MethodName × ByteArray × Nat × Option FieldType := (⟨"LeaseHouse$WaitTimes", "countFrom", "(II)I"⟩, c_WaitTimes_countFrom, 5, (some (.int)))
abbrev c_LH_waited : ByteArray := prog_1_method_21_code
abbrev m_LH_waited : MethodName × ByteArray × Nat × Option FieldType := (⟨"LeaseHouse", "waited", "(I)I"⟩, c_LH_waited, 2, (some (.int)))
abbrev c_WaitTimes_greatestUpTo : ByteArray := prog_7_method_4_code
abbrev m_WaitTimes_greatestUpTo : MethodName × ByteArray × Nat × Option FieldType := (⟨"LeaseHouse$WaitTimes", "greatestUpTo", "(I)I"⟩, c_WaitTimes_greatestUpTo, 4, (some (.int)))
abbrev c_LH_letter : ByteArray := prog_1_method_22_code
abbrev m_LH_letter : MethodName × ByteArray × Nat × Option FieldType := (⟨"LeaseHouse", "letter", "(I)I"⟩, c_LH_letter, 5, (some (.int)))
abbrev c_LH_count : ByteArray := prog_1_method_23_code
abbrev m_LH_count : MethodName × ByteArray × Nat × Option FieldType := (⟨"LeaseHouse", "count", "(I)I"⟩, c_LH_count, 2, (some (.int)))
abbrev c_LH_countLeases : ByteArray := prog_1_method_40_code
abbrev m_LH_countLeases : MethodName × ByteArray × Nat × Option FieldType := (⟨"LeaseHouse", "countLeases", "()I"⟩, c_LH_countLeases, 3, (some (.int)))
abbrev c_LH_countWaiting : ByteArray := prog_1_method_41_code
abbrev m_LH_countWaiting : MethodName × ByteArray × Nat × Option FieldType := (⟨"LeaseHouse", "countWaiting", "()I"⟩, c_LH_countWaiting, 3, (some (.int)))
abbrev c_LH_countWatchedNames : ByteArray := prog_1_method_42_code
abbrev m_LH_countWatchedNames : MethodName × ByteArray × Nat × Option FieldType := (⟨"LeaseHouse", "countWatchedNames", "()I"⟩, c_LH_countWatchedNames, 3, (some (.int)))
abbrev c_LH_countNotes : ByteArray := prog_1_method_43_code
abbrev m_LH_countNotes : MethodName × ByteArray × Nat × Option FieldType := (⟨"LeaseHouse", "countNotes", "()I"⟩, c_LH_countNotes, 3, (some (.int)))
abbrev c_NoteBox_size : ByteArray := prog_5_method_4_code
abbrev m_NoteBox_size : MethodName × ByteArray × Nat × Option FieldType := (⟨"LeaseHouse$NoteBox", "size", "()I"⟩, c_NoteBox_size, 1, (some (.int)))
abbrev c_Law_cell : ByteArray := method_2_code
abbrev m_Law_cell : MethodName × ByteArray × Nat × Option FieldType := (⟨"LeaseHouseLaw", "cell", "([II)I"⟩, c_Law_cell, 2, (some (.int)))
abbrev c_Mo_init : ByteArray := prog_10_method_1_code
abbrev m_Mo_init : MethodName × ByteArray × Nat × Option FieldType := (⟨"LeaseHouseModel", "<init>", "(I)V"⟩, c_Mo_init, 2, none)
abbrev c_Mo_sign : ByteArray := prog_10_method_9_code
abbrev m_Mo_sign : MethodName × ByteArray × Nat × Option FieldType := (⟨"LeaseHouseModel", "sign", "(I)I"⟩, c_Mo_sign, 2, (some (.int)))
abbrev c_Mo_erase : ByteArray := prog_10_method_10_code
abbrev m_Mo_erase : MethodName × ByteArray × Nat × Option FieldType := (⟨"LeaseHouseModel", "erase", "()I"⟩, c_Mo_erase, 2, (some (.int)))
abbrev c_Mo_want : ByteArray := prog_10_method_14_code
abbrev m_Mo_want : MethodName × ByteArray × Nat × Option FieldType := (⟨"LeaseHouseModel", "want", "(II)I"⟩, c_Mo_want, 5, (some (.int)))
abbrev c_Mo_isClient : ByteArray := prog_10_method_3_code
abbrev m_Mo_isClient : MethodName × ByteArray × Nat × Option FieldType := (⟨"LeaseHouseModel", "isClient", "(I)Z"⟩, c_Mo_isClient, 1, (some (.boolean)))
abbrev c_Mo_here : ByteArray := prog_10_method_5_code
abbrev m_Mo_here : MethodName × ByteArray × Nat × Option FieldType := (⟨"LeaseHouseModel", "here", "()I"⟩, c_Mo_here, 4, (some (.int)))
abbrev c_Mo_code : ByteArray := prog_10_method_4_code
abbrev m_Mo_code : MethodName × ByteArray × Nat × Option FieldType := (⟨"LeaseHouseModel", "code", "()J"⟩, c_Mo_code, 4, (some (.long)))
abbrev c_Mo_change : ByteArray := prog_10_method_7_code
abbrev m_Mo_change : MethodName × ByteArray × Nat × Option FieldType := (⟨"LeaseHouseModel", "change", "(II)V"⟩, c_Mo_change, 5, none)
abbrev c_Mo_drop : ByteArray := prog_10_method_8_code
abbrev m_Mo_drop : MethodName × ByteArray × Nat × Option FieldType := (⟨"LeaseHouseModel", "drop", "(I)V"⟩, c_Mo_drop, 3, none)
abbrev c_Mo_place : ByteArray := prog_10_method_11_code
abbrev m_Mo_place : MethodName × ByteArray × Nat × Option FieldType := (⟨"LeaseHouseModel", "place", "(II)I"⟩, c_Mo_place, 4, (some (.int)))
abbrev c_Mo_free : ByteArray := prog_10_method_15_code
abbrev m_Mo_free : MethodName × ByteArray × Nat × Option FieldType := (⟨"LeaseHouseModel", "free", "(I)I"⟩, c_Mo_free, 3, (some (.int)))
abbrev c_Mo_end : ByteArray := prog_10_method_13_code
abbrev m_Mo_end : MethodName × ByteArray × Nat × Option FieldType := (⟨"LeaseHouseModel", "end", "(I)V"⟩, c_Mo_end, 2, none)
abbrev c_Mo_out : ByteArray := prog_10_method_12_code
abbrev m_Mo_out : MethodName × ByteArray × Nat × Option FieldType := (⟨"LeaseHouseModel", "out", "(II)V"⟩, c_Mo_out, 4, none)
abbrev c_Mo_renew : ByteArray := prog_10_method_16_code
abbrev m_Mo_renew : MethodName × ByteArray × Nat × Option FieldType := (⟨"LeaseHouseModel", "renew", "(II)I"⟩, c_Mo_renew, 4, (some (.int)))
abbrev c_Mo_leave : ByteArray := prog_10_method_17_code
abbrev m_Mo_leave : MethodName × ByteArray × Nat × Option FieldType := (⟨"LeaseHouseModel", "leave", "(I)I"⟩, c_Mo_leave, 4, (some (.int)))
abbrev c_Mo_tick : ByteArray := prog_10_method_18_code
abbrev m_Mo_tick : MethodName × ByteArray × Nat × Option FieldType := (⟨"LeaseHouseModel", "tick", "(I)I"⟩, c_Mo_tick, 5, (some (.int)))
abbrev c_Mo_next : ByteArray := prog_10_method_19_code
abbrev m_Mo_next : MethodName × ByteArray × Nat × Option FieldType := (⟨"LeaseHouseModel", "next", "()I"⟩, c_Mo_next, 3, (some (.int)))
abbrev c_Mo_holder : ByteArray := prog_10_method_20_code
abbrev m_Mo_holder : MethodName × ByteArray × Nat × Option FieldType := (⟨"LeaseHouseModel", "holder", "()I"⟩, c_Mo_holder, 2, (some (.int)))
abbrev c_Mo_left : ByteArray := prog_10_method_21_code
abbrev m_Mo_left : MethodName × ByteArray × Nat × Option FieldType := (⟨"LeaseHouseModel", "left", "()I"⟩, c_Mo_left, 2, (some (.int)))
abbrev c_Mo_waiting : ByteArray := prog_10_method_22_code
abbrev m_Mo_waiting : MethodName × ByteArray × Nat × Option FieldType := (⟨"LeaseHouseModel", "waiting", "(I)I"⟩, c_Mo_waiting, 3, (some (.int)))
abbrev c_Mo_first : ByteArray := prog_10_method_23_code
abbrev m_Mo_first : MethodName × ByteArray × Nat × Option FieldType := (⟨"LeaseHouseModel", "first", "()I"⟩, c_Mo_first, 3, (some (.int)))
abbrev c_Mo_write : ByteArray := prog_10_method_6_code
abbrev m_Mo_write : MethodName × ByteArray × Nat × Option FieldType := (⟨"LeaseHouseModel", "write", "(I)V"⟩, c_Mo_write, 5, none)
abbrev c_Mo_job : ByteArray := prog_10_method_24_code
abbrev m_Mo_job : MethodName × ByteArray × Nat × Option FieldType := (⟨"LeaseHouseModel", "job", "(II)I"⟩, c_Mo_job, 4, (some (.int)))
abbrev c_Mo_work : ByteArray := prog_10_method_26_code
abbrev m_Mo_work : MethodName × ByteArray × Nat × Option FieldType := (⟨"LeaseHouseModel", "work", "()J"⟩, c_Mo_work, 3, (some (.long)))
abbrev c_Mo_gone : ByteArray := prog_10_method_25_code
abbrev m_Mo_gone : MethodName × ByteArray × Nat × Option FieldType := (⟨"LeaseHouseModel", "gone", "(I)V"⟩, c_Mo_gone, 3, none)
abbrev c_Mo_cancel : ByteArray := prog_10_method_27_code
abbrev m_Mo_cancel : MethodName × ByteArray × Nat × Option FieldType := (⟨"LeaseHouseModel", "cancel", "()I"⟩, c_Mo_cancel, 4, (some (.int)))
abbrev c_Mo_ask : ByteArray := prog_10_method_29_code
abbrev m_Mo_ask : MethodName × ByteArray × Nat × Option FieldType := (⟨"LeaseHouseModel", "ask", "()I"⟩, c_Mo_ask, 5, (some (.int)))
abbrev c_Mo_inCache : ByteArray := prog_10_method_28_code
abbrev m_Mo_inCache : MethodName × ByteArray × Nat × Option FieldType := (⟨"LeaseHouseModel", "inCache", "(I)I"⟩, c_Mo_inCache, 3, (some (.int)))
abbrev c_Mo_known : ByteArray := prog_10_method_30_code
abbrev m_Mo_known : MethodName × ByteArray × Nat × Option FieldType := (⟨"LeaseHouseModel", "known", "()Z"⟩, c_Mo_known, 1, (some (.boolean)))
abbrev c_Mo_watch : ByteArray := prog_10_method_31_code
abbrev m_Mo_watch : MethodName × ByteArray × Nat × Option FieldType := (⟨"LeaseHouseModel", "watch", "(I)I"⟩, c_Mo_watch, 5, (some (.int)))
abbrev c_Mo_note : ByteArray := prog_10_method_32_code
abbrev m_Mo_note : MethodName × ByteArray × Nat × Option FieldType := (⟨"LeaseHouseModel", "note", "(I)I"⟩, c_Mo_note, 3, (some (.int)))
abbrev c_Mo_waits : ByteArray := prog_10_method_33_code
abbrev m_Mo_waits : MethodName × ByteArray × Nat × Option FieldType := (⟨"LeaseHouseModel", "waits", "(II)I"⟩, c_Mo_waits, 5, (some (.int)))
abbrev c_Mo_waited : ByteArray := prog_10_method_34_code
abbrev m_Mo_waited : MethodName × ByteArray × Nat × Option FieldType := (⟨"LeaseHouseModel", "waited", "(I)I"⟩, c_Mo_waited, 4, (some (.int)))
abbrev c_Mo_letter : ByteArray := prog_10_method_35_code
abbrev m_Mo_letter : MethodName × ByteArray × Nat × Option FieldType := (⟨"LeaseHouseModel", "letter", "(I)I"⟩, c_Mo_letter, 2, (some (.int)))
abbrev c_Mo_count : ByteArray := prog_10_method_36_code
abbrev m_Mo_count : MethodName × ByteArray × Nat × Option FieldType := (⟨"LeaseHouseModel", "count", "(I)I"⟩, c_Mo_count, 4, (some (.int)))
end
section
/-! THE CLEAN MACHINE: a judgement G over a memory (address -> what lies there), a list of locals and a stack; every row of it stands on a row of the kit -/
abbrev LV : Type := List (Option Value)
abbrev EE : Type := (Nat × List Value) ⊕ ((FieldType × vp_A) ⊕ List Nat)
abbrev Mm : Type := Nat → Option EE
abbrev MD : Type := MethodName × ByteArray × Nat × Option FieldType
def up (M : Mm) (a : Nat) (e : EE) : Mm := fun q => if q = a then some e else M q
theorem up_s {M : Mm} {a : Nat} {e : EE} : up M a e a = some e := if_pos rfl
theorem up_n {M : Mm} {a b : Nat} {e : EE} (h : b ≠ a) : up M a e b = M b := if_neg h
def lgt {ρ : Type} : LV → Nat → (Value → Option ρ) → Option ρ
  | [], _, _ => none
  | none :: _, 0, _ => none
  | some v :: _, 0, k => k v
  | _ :: l, n + 1, k => lgt l n k
def c2 : Option Value → Bool
  | some (.long _) => true
  | some (.double _) => true
  | _ => false
def lst {ρ : Type} : LV → Nat → Value → (LV → Option ρ) → Option ρ
  | [], _, _, _ => none
  | _ :: l, 0, v, k => k (some v :: l)
  | w :: l, 1, v, k => match c2 w with
    | true => none
    | false => lst l 0 v (fun l' => k (w :: l'))
  | w :: l, n + 2, v, k => lst l (n + 1) v (fun l' => k (w :: l'))
def lst2 {ρ : Type} : LV → Nat → Value → (LV → Option ρ) → Option ρ
  | [], _, _, _ => none
  | _ :: l, 0, v, k => match l with
    | [] => none
    | _ :: l' => k (some v :: none :: l')
  | w :: l, 1, v, k => match c2 w with
    | true => none
    | false => lst2 l 0 v (fun l' => k (w :: l'))
  | w :: l, n + 2, v, k => lst2 l (n + 1) v (fun l' => k (w :: l'))
theorem lgt_spec {ρ : Type} {k : Value → Option ρ} {r : ρ} : ∀ (l : LV) (n : Nat), lgt l n k = some r → ∃ v, l[n]? = some (some v) ∧ k v = some r := by
  intro l
  induction l with
  | nil => intro n h; simp [lgt] at h
  | cons a l ih =>
    intro n h
    cases n with
    | zero =>
      cases a with
      | none => simp [lgt] at h
      | some v => exact ⟨v, rfl, h⟩
    | succ n =>
      have h' : lgt l n k = some r := by cases a <;> exact h
      obtain ⟨v, h1, h2⟩ := ih n h'
      exact ⟨v, by simpa using h1, h2⟩
theorem lst_spec {ρ : Type} {v : Value} {r : ρ} : ∀ (l : LV) (n : Nat) (k : LV → Option ρ), lst l n v k = some r → k (l.set n (some v)) = some r ∧ n < l.length ∧ ∀ (j : Nat) (w : Value), j + 1 = n → l[j]? = some (some w) → c2 (some w) = false := by
  intro l
  induction l with
  | nil => intro n k h; simp [lst] at h
  | cons a l ih =>
    intro n k h
    match n, h with
    | 0, h => exact ⟨h, Nat.succ_pos _, fun j w e => by omega⟩
    | 1, h =>
      cases hc : c2 a with
      | true => simp [lst, hc] at h
      | false =>
        simp only [lst, hc] at h
        obtain ⟨h1, h2, h3⟩ := ih 0 _ h
        refine ⟨h1, by simpa using h2, fun j w e hj => ?_⟩
        have : j = 0 := by omega
        subst this
        simp at hj
        rw [← hj]; exact hc
    | n + 2, h =>
      obtain ⟨h1, h2, h3⟩ := ih (n + 1) _ h
      refine ⟨h1, by simp only [List.length_cons]; omega, fun j w e hj => ?_⟩
      match j, e, hj with
      | j + 1, e, hj => exact h3 j w (by omega) (by simpa using hj)
theorem lst2_spec {ρ : Type} {v : Value} {r : ρ} : ∀ (l : LV) (n : Nat) (k : LV → Option ρ), lst2 l n v k = some r → k ((l.set n (some v)).set (n + 1) none) = some r ∧ n + 1 < l.length ∧ ∀ (j : Nat) (w : Value), j + 1 = n → l[j]? = some (some w) → c2 (some w) = false := by
  intro l
  induction l with
  | nil => intro n k h; simp [lst2] at h
  | cons a l ih =>
    intro n k h
    match n, h with
    | 0, h =>
      cases l with
      | nil => simp [lst2] at h
      | cons b l => exact ⟨h, by simp, fun j w e => by omega⟩
    | 1, h =>
      cases hc : c2 a with
      | true => simp [lst2, hc] at h
      | false =>
        simp only [lst2, hc] at h
        obtain ⟨h1, h2, h3⟩ := ih 0 _ h
        refine ⟨h1, by simp only [List.length_cons]; omega, fun j w e hj => ?_⟩
        have : j = 0 := by omega
        subst this
        simp at hj
        rw [← hj]; exact hc
    | n + 2, h =>
      obtain ⟨h1, h2, h3⟩ := ih (n + 1) _ h
      refine ⟨h1, by simp only [List.length_cons]; omega, fun j w e hj => ?_⟩
      match j, e, hj with
      | j + 1, e, hj => exact h3 j w (by omega) (by simpa using hj)
/-- the frame's locals hold the list -/
def lh (ls : Array Slot) (nL : Nat) (lv : LV) : Prop := lv.length = nL ∧ ls.size = nL ∧ lv_wf ls ∧ ∀ (i : Nat) (v : Value), lv[i]? = some (some v) → ls[i]? = some (.val v)
def lasc (lv : LV) : List (Nat × Value) := (List.range lv.length).filterMap (fun i => (lv[i]?.getD none).map (fun v => (i, v)))
theorem lasc_mem {lv : LV} {i : Nat} {v : Value} : (i, v) ∈ lasc lv ↔ lv[i]? = some (some v) := by
  unfold lasc
  rw [List.mem_filterMap]
  constructor
  · rintro ⟨j, hj, h⟩
    cases h1 : lv[j]? with
    | none => simp [h1] at h
    | some o =>
      cases o with
      | none => simp [h1] at h
      | some w => simp [h1] at h; obtain ⟨rfl, rfl⟩ := h; exact h1
  · intro h
    exact ⟨i, List.mem_range.mpr (List.getElem?_eq_some_iff.mp h).1, by simp [h]⟩
theorem lh.has {ls : Array Slot} {nL : Nat} {lv : LV} (h : lh ls nL lv) : lv_has ls nL (lasc lv) := ⟨h.2.1, h.2.2.1, fun q hq => h.2.2.2 q.1 q.2 (lasc_mem.mp hq)⟩
theorem lh.st1 {ls ls' : Array Slot} {nL i : Nat} {lv : LV} {v : Value} (h : lh ls nL lv) (hi : i < lv.length) (hc : ∀ (j : Nat) (w : Value), j + 1 = i → lv[j]? = some (some w) → c2 (some w) = false)
    (h' : lv_has ls' nL ((i, v) :: (lasc lv).filter (fun q => !(q.1 == i) && !(q.1 + 1 == i && q.2.category == 2)))) : lh ls' nL (lv.set i (some v)) := by
  refine ⟨by simpa using h.1, h'.1, h'.2.1, fun j w hj => ?_⟩
  by_cases hji : j = i
  · subst hji
    rw [List.getElem?_set_self hi] at hj
    cases hj
    exact h'.2.2 (j, v) List.mem_cons_self
  · rw [List.getElem?_set_ne (Ne.symm hji)] at hj
    refine h'.2.2 (j, w) (List.mem_cons_of_mem _ (List.mem_filter.mpr ⟨lasc_mem.mpr hj, ?_⟩))
    have h1 : (j == i) = false := by simpa using hji
    by_cases h2 : j + 1 = i
    · have h3 := hc j w h2 hj
      cases w <;> simp_all [c2, Value.category]
    · have h4 : (j + 1 == i) = false := by simpa using h2
      simp [h1, h4]
theorem lh.st2 {ls ls' : Array Slot} {nL i : Nat} {lv : LV} {v : Value} (h : lh ls nL lv) (hi : i + 1 < lv.length) (hc : ∀ (j : Nat) (w : Value), j + 1 = i → lv[j]? = some (some w) → c2 (some w) = false)
    (h' : lv_has ls' nL ((i, v) :: (lasc lv).filter (fun q => !(q.1 == i) && (!(q.1 == i + 1) && !(q.1 + 1 == i && q.2.category == 2))))) : lh ls' nL ((lv.set i (some v)).set (i + 1) none) := by
  refine ⟨by simpa using h.1, h'.1, h'.2.1, fun j w hj => ?_⟩
  by_cases hj1 : j = i + 1
  · subst hj1
    rw [List.getElem?_set_self (by simpa using hi)] at hj
    cases hj
  rw [List.getElem?_set_ne (Ne.symm hj1)] at hj
  by_cases hji : j = i
  · subst hji
    rw [List.getElem?_set_self (by omega)] at hj
    cases hj
    exact h'.2.2 (j, v) List.mem_cons_self
  · rw [List.getElem?_set_ne (Ne.symm hji)] at hj
    refine h'.2.2 (j, w) (List.mem_cons_of_mem _ (List.mem_filter.mpr ⟨lasc_mem.mpr hj, ?_⟩))
    have h1 : (j == i) = false := by simpa using hji
    have h5 : (j == i + 1) = false := by simpa using hj1
    by_cases h2 : j + 1 = i
    · have h3 := hc j w h2 hj
      cases w <;> simp_all [c2, Value.category]
    · have h4 : (j + 1 == i) = false := by simpa using h2
      simp [h1, h4, h5]

/-- what a pure instruction does (c: the number that stands in it) -/
def px {ρ : Type} (i : Instr) (c : Int32) (lv : LV) (st : List Value) (k : LV → List Value → Option ρ) : Option ρ := match i, st with
  | .aload_n n, st => lgt lv n.val (fun v => match v with | .ref a => k lv (.ref a :: st) | .null => k lv (.null :: st) | _ => none)
  | .aload n, st => lgt lv n (fun v => match v with | .ref a => k lv (.ref a :: st) | .null => k lv (.null :: st) | _ => none)
  | .iload_n n, st => lgt lv n.val (fun v => match v with | .int x => k lv (.int x :: st) | _ => none)
  | .iload n, st => lgt lv n (fun v => match v with | .int x => k lv (.int x :: st) | _ => none)
  | .lload_n n, st => lgt lv n.val (fun v => match v with | .long x => k lv (.long x :: st) | _ => none)
  | .lload n, st => lgt lv n (fun v => match v with | .long x => k lv (.long x :: st) | _ => none)
  | .lstore_n n, .long x :: st => lst2 lv n.val (.long x) (fun l => k l st)
  | .lstore n, .long x :: st => lst2 lv n (.long x) (fun l => k l st)
  | .astore_n n, .ref a :: st => lst lv n.val (.ref a) (fun l => k l st)
  | .astore_n n, .null :: st => lst lv n.val .null (fun l => k l st)
  | .astore n, .ref a :: st => lst lv n (.ref a) (fun l => k l st)
  | .astore n, .null :: st => lst lv n .null (fun l => k l st)
  | .istore_n n, .int x :: st => lst lv n.val (.int x) (fun l => k l st)
  | .istore n, .int x :: st => lst lv n (.int x) (fun l => k l st)
  | .iinc n _, st => lgt lv n (fun v => match v with | .int x => lst lv n (.int (x + c)) (fun l => k l st) | _ => none)
  | .iconst _, st => k lv (.int c :: st)
  | .bipush _, st => k lv (.int c :: st)
  | .sipush _, st => k lv (.int c :: st)
  | .aconst_null, st => k lv (.null :: st)
  | .iadd, .int y :: .int x :: st => k lv (.int (x + y) :: st)
  | .isub, .int y :: .int x :: st => k lv (.int (x - y) :: st)
  | .imul, .int y :: .int x :: st => k lv (.int (x * y) :: st)
  | .iand, .int y :: .int x :: st => k lv (.int (x &&& y) :: st)
  | .ior, .int y :: .int x :: st => k lv (.int (x ||| y) :: st)
  | .ixor, .int y :: .int x :: st => k lv (.int (x ^^^ y) :: st)
  | .ishl, .int y :: .int x :: st => k lv (.int (x <<< (y &&& 31)) :: st)
  | .ishr, .int y :: .int x :: st => k lv (.int (x >>> (y &&& 31)) :: st)
  | .iushr, .int y :: .int x :: st => k lv (.int ((x.toUInt32 >>> (y.toUInt32 &&& Int32.toUInt32 31)).toInt32) :: st)
  | .ladd, .long y :: .long x :: st => k lv (.long (x + y) :: st)
  | .lsub, .long y :: .long x :: st => k lv (.long (x - y) :: st)
  | .lmul, .long y :: .long x :: st => k lv (.long (x * y) :: st)
  | .land, .long y :: .long x :: st => k lv (.long (x &&& y) :: st)
  | .lor, .long y :: .long x :: st => k lv (.long (x ||| y) :: st)
  | .lxor, .long y :: .long x :: st => k lv (.long (x ^^^ y) :: st)
  | .ineg, .int x :: st => k lv (.int (-x) :: st)
  | .i2l, .int x :: st => k lv (.long x.toInt64 :: st)
  | .l2i, .long x :: st => k lv (.int x.toInt32 :: st)
  | .dup, .ref a :: st => k lv (.ref a :: .ref a :: st)
  | .dup, .int a :: st => k lv (.int a :: .int a :: st)
  | .dup, .null :: st => k lv (.null :: .null :: st)
  | .pop, .ref _ :: st => k lv st
  | .pop, .int _ :: st => k lv st
  | .pop, .null :: st => k lv st
  | .dup_x1, .int b :: .ref a :: st => k lv (.int b :: .ref a :: .int b :: st)
  | .dup_x1, .ref b :: .ref a :: st => k lv (.ref b :: .ref a :: .ref b :: st)
  | .dup_x2, .int d :: .int b :: .ref a :: st => k lv (.int d :: .int b :: .ref a :: .int d :: st)
  | .dup2, .int b :: .ref a :: st => k lv (.int b :: .ref a :: .int b :: .ref a :: st)
  | .goto _, st => k lv st
  | _, _ => none
def pxs {ρ : Type} : List (Instr × Nat × Int32) → LV → List Value → (LV → List Value → Option ρ) → Option ρ
  | [], lv, st, k => k lv st
  | (i, _, c) :: r, lv, st, k => px i c lv st (fun lv' st' => pxs r lv' st' k)
/-- its length, and its number -/
def pln (pc : Nat) (i : Instr) (l : Nat) (c : Int32) : Bool := match i with
  | .aload _ => l == 2
  | .iload _ => l == 2
  | .astore _ => l == 2
  | .istore _ => l == 2
  | .lload _ => l == 2
  | .lstore _ => l == 2
  | .iinc _ n => l == 3 && decide (Int32.ofInt n = c)
  | .iconst n => l == 1 && decide (Int32.ofInt n = c)
  | .bipush n => l == 2 && decide ((Int8.ofInt n).toInt32 = c)
  | .sipush n => l == 3 && decide ((Int16.ofInt n).toInt32 = c)
  | .goto o => l == 3 && decide (0 ≤ (pc : Int) + o)
  | _ => l == 1
def nx (pc : Nat) (i : Instr) (l : Nat) : Nat := match i with
  | .goto o => ((pc : Int) + o).toNat
  | _ => pc + l
def dsq (cc : ByteArray) : Nat → List (Instr × Nat × Int32) → Nat → Bool
  | pc, [], e => pc == e
  | pc, (i, l, c) :: r, e => decide (decode cc pc = .ok (i, l)) && (pln pc i l c && dsq cc (nx pc i l) r e)
section PX
variable {p : Program} {l : Launch} {e : Env} {R : Room} {s : State} {m : MethodId} {args : Array Value} {below : List Frame} {meth : Method} {c : Code} {H : Heap} {locs : List Loc} {cells slots : Nat} {Q : State → Prop} {cc : ByteArray}
/-- 'from lv st at pc it goes on at lv2 st2 at pc2' -/
def Jmp (p : Program) (l : Launch) (e : Env) (R : Room) (s : State) (m : MethodId) (args : Array Value) (below : List Frame) (meth : Method) (c : Code) (H : Heap) (locs : List Loc) (cells slots : Nat) (Q : State → Prop) (nL : Nat) (pc : Nat) (lv : LV) (st : List Value) (pc2 : Nat) (lv2 : LV) (st2 : List Value) : Prop :=
  (∀ ls2, lh ls2 nL lv2 → W p l e R s m args below meth c H locs cells slots Q (F0 m pc2 ls2 st2)) → ∀ ls, lh ls nL lv → W p l e R s m args below meth c H locs cells slots Q (F0 m pc ls st)

theorem pj_aload_n (hx : p.tables.exec = Jvm.exec) (hb : c.code = cc) {nL pc : Nat} {lv : LV} {rest : List Value} {n : Fin 4} {a : Nat} (hd : decode cc pc = .ok (.aload_n n, 1)) (h : lv[n.val]? = some (some (.ref a))) : Jmp p l e R s m args below meth c H locs cells slots Q nL pc lv (rest) (pc + 1) lv (.ref a :: rest) := by
  intro kk ls hl
  exact lv_aload_n hx hb hd rfl (hl.2.2.2 _ _ h) (kk ls hl)
theorem pj_aload (hx : p.tables.exec = Jvm.exec) (hb : c.code = cc) {nL pc : Nat} {lv : LV} {rest : List Value} {n : Nat} {a : Nat} (hd : decode cc pc = .ok (.aload n, 2)) (h : lv[n]? = some (some (.ref a))) : Jmp p l e R s m args below meth c H locs cells slots Q nL pc lv (rest) (pc + 2) lv (.ref a :: rest) := by
  intro kk ls hl
  exact lv_aload hx hb hd (hl.2.2.2 _ _ h) (kk ls hl)
theorem pj_aload_nN (hx : p.tables.exec = Jvm.exec) (hb : c.code = cc) {nL pc : Nat} {lv : LV} {rest : List Value} {n : Fin 4}  (hd : decode cc pc = .ok (.aload_n n, 1)) (h : lv[n.val]? = some (some (.null))) : Jmp p l e R s m args below meth c H locs cells slots Q nL pc lv (rest) (pc + 1) lv (.null :: rest) := by
  intro kk ls hl
  exact lv_aload_nN hx hb hd rfl (hl.2.2.2 _ _ h) (kk ls hl)
theorem pj_aloadN (hx : p.tables.exec = Jvm.exec) (hb : c.code = cc) {nL pc : Nat} {lv : LV} {rest : List Value} {n : Nat}  (hd : decode cc pc = .ok (.aload n, 2)) (h : lv[n]? = some (some (.null))) : Jmp p l e R s m args below meth c H locs cells slots Q nL pc lv (rest) (pc + 2) lv (.null :: rest) := by
  intro kk ls hl
  exact lv_aloadN hx hb hd (hl.2.2.2 _ _ h) (kk ls hl)
theorem pj_iload_n (hx : p.tables.exec = Jvm.exec) (hb : c.code = cc) {nL pc : Nat} {lv : LV} {rest : List Value} {n : Fin 4} {a : Int32} (hd : decode cc pc = .ok (.iload_n n, 1)) (h : lv[n.val]? = some (some (.int a))) : Jmp p l e R s m args below meth c H locs cells slots Q nL pc lv (rest) (pc + 1) lv (.int a :: rest) := by
  intro kk ls hl
  exact lv_iload_n hx hb hd rfl (hl.2.2.2 _ _ h) (kk ls hl)
theorem pj_iload (hx : p.tables.exec = Jvm.exec) (hb : c.code = cc) {nL pc : Nat} {lv : LV} {rest : List Value} {n : Nat} {a : Int32} (hd : decode cc pc = .ok (.iload n, 2)) (h : lv[n]? = some (some (.int a))) : Jmp p l e R s m args below meth c H locs cells slots Q nL pc lv (rest) (pc + 2) lv (.int a :: rest) := by
  intro kk ls hl
  exact lv_iload hx hb hd (hl.2.2.2 _ _ h) (kk ls hl)
theorem pj_lload_n (hx : p.tables.exec = Jvm.exec) (hb : c.code = cc) {nL pc : Nat} {lv : LV} {rest : List Value} {n : Fin 4} {a : Int64} (hd : decode cc pc = .ok (.lload_n n, 1)) (h : lv[n.val]? = some (some (.long a))) : Jmp p l e R s m args below meth c H locs cells slots Q nL pc lv (rest) (pc + 1) lv (.long a :: rest) := by
  intro kk ls hl
  exact lv_lload_n hx hb hd rfl (hl.2.2.2 _ _ h) (kk ls hl)
theorem pj_lload (hx : p.tables.exec = Jvm.exec) (hb : c.code = cc) {nL pc : Nat} {lv : LV} {rest : List Value} {n : Nat} {a : Int64} (hd : decode cc pc = .ok (.lload n, 2)) (h : lv[n]? = some (some (.long a))) : Jmp p l e R s m args below meth c H locs cells slots Q nL pc lv (rest) (pc + 2) lv (.long a :: rest) := by
  intro kk ls hl
  exact lv_lload hx hb hd (hl.2.2.2 _ _ h) (kk ls hl)
theorem pj_astore_n (hx : p.tables.exec = Jvm.exec) (hb : c.code = cc) {nL pc : Nat} {lv : LV} {rest : List Value} {n : Fin 4} {a : Nat} (hd : decode cc pc = .ok (.astore_n n, 1)) (hi : n.val < lv.length) (hc : ∀ (j : Nat) (w : Value), j + 1 = n.val → lv[j]? = some (some w) → c2 (some w) = false) : Jmp p l e R s m args below meth c H locs cells slots Q nL pc lv (.ref a :: rest) (pc + 1) (lv.set n.val (some (.ref a))) (rest) := by
  intro kk ls hl
  exact lv_astore_n hx hb hd rfl hl.has (by rw [← hl.1]; exact hi) rfl (fun ls' hl' => kk ls' (hl.st1 hi hc hl'))
theorem pj_astore (hx : p.tables.exec = Jvm.exec) (hb : c.code = cc) {nL pc : Nat} {lv : LV} {rest : List Value} {n : Nat} {a : Nat} (hd : decode cc pc = .ok (.astore n, 2)) (hi : n < lv.length) (hc : ∀ (j : Nat) (w : Value), j + 1 = n → lv[j]? = some (some w) → c2 (some w) = false) : Jmp p l e R s m args below meth c H locs cells slots Q nL pc lv (.ref a :: rest) (pc + 2) (lv.set n (some (.ref a))) (rest) := by
  intro kk ls hl
  exact lv_astore hx hb hd hl.has (by rw [← hl.1]; exact hi) rfl (fun ls' hl' => kk ls' (hl.st1 hi hc hl'))
theorem pj_astore_nN (hx : p.tables.exec = Jvm.exec) (hb : c.code = cc) {nL pc : Nat} {lv : LV} {rest : List Value} {n : Fin 4}  (hd : decode cc pc = .ok (.astore_n n, 1)) (hi : n.val < lv.length) (hc : ∀ (j : Nat) (w : Value), j + 1 = n.val → lv[j]? = some (some w) → c2 (some w) = false) : Jmp p l e R s m args below meth c H locs cells slots Q nL pc lv (.null :: rest) (pc + 1) (lv.set n.val (some (.null))) (rest) := by
  intro kk ls hl
  exact lv_astore_nN hx hb hd rfl hl.has (by rw [← hl.1]; exact hi) rfl (fun ls' hl' => kk ls' (hl.st1 hi hc hl'))
theorem pj_astoreN (hx : p.tables.exec = Jvm.exec) (hb : c.code = cc) {nL pc : Nat} {lv : LV} {rest : List Value} {n : Nat}  (hd : decode cc pc = .ok (.astore n, 2)) (hi : n < lv.length) (hc : ∀ (j : Nat) (w : Value), j + 1 = n → lv[j]? = some (some w) → c2 (some w) = false) : Jmp p l e R s m args below meth c H locs cells slots Q nL pc lv (.null :: rest) (pc + 2) (lv.set n (some (.null))) (rest) := by
  intro kk ls hl
  exact lv_astoreN hx hb hd hl.has (by rw [← hl.1]; exact hi) rfl (fun ls' hl' => kk ls' (hl.st1 hi hc hl'))
theorem pj_istore_n (hx : p.tables.exec = Jvm.exec) (hb : c.code = cc) {nL pc : Nat} {lv : LV} {rest : List Value} {n : Fin 4} {a : Int32} (hd : decode cc pc = .ok (.istore_n n, 1)) (hi : n.val < lv.length) (hc : ∀ (j : Nat) (w : Value), j + 1 = n.val → lv[j]? = some (some w) → c2 (some w) = false) : Jmp p l e R s m args below meth c H locs cells slots Q nL pc lv (.int a :: rest) (pc + 1) (lv.set n.val (some (.int a))) (rest) := by
  intro kk ls hl
  exact lv_istore_n hx hb hd rfl hl.has (by rw [← hl.1]; exact hi) rfl (fun ls' hl' => kk ls' (hl.st1 hi hc hl'))
theorem pj_istore (hx : p.tables.exec = Jvm.exec) (hb : c.code = cc) {nL pc : Nat} {lv : LV} {rest : List Value} {n : Nat} {a : Int32} (hd : decode cc pc = .ok (.istore n, 2)) (hi : n < lv.length) (hc : ∀ (j : Nat) (w : Value), j + 1 = n → lv[j]? = some (some w) → c2 (some w) = false) : Jmp p l e R s m args below meth c H locs cells slots Q nL pc lv (.int a :: rest) (pc + 2) (lv.set n (some (.int a))) (rest) := by
  intro kk ls hl
  exact lv_istore hx hb hd hl.has (by rw [← hl.1]; exact hi) rfl (fun ls' hl' => kk ls' (hl.st1 hi hc hl'))
theorem pj_lstore_n (hx : p.tables.exec = Jvm.exec) (hb : c.code = cc) {nL pc : Nat} {lv : LV} {rest : List Value} {n : Fin 4} {a : Int64} (hd : decode cc pc = .ok (.lstore_n n, 1)) (hi : n.val + 1 < lv.length) (hc : ∀ (j : Nat) (w : Value), j + 1 = n.val → lv[j]? = some (some w) → c2 (some w) = false) : Jmp p l e R s m args below meth c H locs cells slots Q nL pc lv (.long a :: rest) (pc + 1) ((lv.set n.val (some (.long a))).set (n.val + 1) none) (rest) := by
  intro kk ls hl
  exact lv_lstore_n hx hb hd rfl hl.has (by rw [← hl.1]; exact hi) rfl (fun ls' hl' => kk ls' (hl.st2 hi hc hl'))
theorem pj_lstore (hx : p.tables.exec = Jvm.exec) (hb : c.code = cc) {nL pc : Nat} {lv : LV} {rest : List Value} {n : Nat} {a : Int64} (hd : decode cc pc = .ok (.lstore n, 2)) (hi : n + 1 < lv.length) (hc : ∀ (j : Nat) (w : Value), j + 1 = n → lv[j]? = some (some w) → c2 (some w) = false) : Jmp p l e R s m args below meth c H locs cells slots Q nL pc lv (.long a :: rest) (pc + 2) ((lv.set n (some (.long a))).set (n + 1) none) (rest) := by
  intro kk ls hl
  exact lv_lstore hx hb hd hl.has (by rw [← hl.1]; exact hi) rfl (fun ls' hl' => kk ls' (hl.st2 hi hc hl'))
theorem pj_iinc (hx : p.tables.exec = Jvm.exec) (hb : c.code = cc) {nL pc : Nat} {lv : LV} {rest : List Value} {n : Nat} {o : Int} {a c0 : Int32} (hd : decode cc pc = .ok (.iinc n o, 3)) (ho : Int32.ofInt o = c0) (h : lv[n]? = some (some (.int a))) (hi : n < lv.length) (hc : ∀ (j : Nat) (w : Value), j + 1 = n → lv[j]? = some (some w) → c2 (some w) = false) : Jmp p l e R s m args below meth c H locs cells slots Q nL pc lv (rest) (pc + 3) (lv.set n (some (.int (a + c0)))) (rest) := by
  intro kk ls hl
  obtain ⟨k, hk⟩ := List.getElem?_of_mem (lasc_mem.mpr h)
  exact lv_iinc hx hb hd hl.has hk (by rw [ho]) (by rw [← hl.1]; exact hi) rfl (fun ls' hl' => kk ls' (hl.st1 hi hc hl'))
theorem pj_iconst (hx : p.tables.exec = Jvm.exec) (hb : c.code = cc) {nL pc : Nat} {lv : LV} {rest : List Value} {o : Int} {c0 : Int32} (hd : decode cc pc = .ok (.iconst o, 1)) (ho : Int32.ofInt o = c0) : Jmp p l e R s m args below meth c H locs cells slots Q nL pc lv (rest) (pc + 1) lv (.int c0 :: rest) := by
  intro kk ls hl
  exact lv_iconst hx hb hd ho (kk ls hl)
theorem pj_bipush (hx : p.tables.exec = Jvm.exec) (hb : c.code = cc) {nL pc : Nat} {lv : LV} {rest : List Value} {o : Int} {c0 : Int32} (hd : decode cc pc = .ok (.bipush o, 2)) (ho : (Int8.ofInt o).toInt32 = c0) : Jmp p l e R s m args below meth c H locs cells slots Q nL pc lv (rest) (pc + 2) lv (.int c0 :: rest) := by
  intro kk ls hl
  exact lv_bipush hx hb hd ho (kk ls hl)
theorem pj_sipush (hx : p.tables.exec = Jvm.exec) (hb : c.code = cc) {nL pc : Nat} {lv : LV} {rest : List Value} {o : Int} {c0 : Int32} (hd : decode cc pc = .ok (.sipush o, 3)) (ho : (Int16.ofInt o).toInt32 = c0) : Jmp p l e R s m args below meth c H locs cells slots Q nL pc lv (rest) (pc + 3) lv (.int c0 :: rest) := by
  intro kk ls hl
  exact lv_sipush hx hb hd ho (kk ls hl)
theorem pj_aconst_null (hx : p.tables.exec = Jvm.exec) (hb : c.code = cc) {nL pc : Nat} {lv : LV} {rest : List Value}  (hd : decode cc pc = .ok (.aconst_null, 1))  : Jmp p l e R s m args below meth c H locs cells slots Q nL pc lv (rest) (pc + 1) lv (.null :: rest) := by
  intro kk ls hl
  exact lv_null hx hb hd (kk ls hl)
theorem pj_iadd (hx : p.tables.exec = Jvm.exec) (hb : c.code = cc) {nL pc : Nat} {lv : LV} {rest : List Value} {x y : Int32} (hd : decode cc pc = .ok (.iadd, 1))  : Jmp p l e R s m args below meth c H locs cells slots Q nL pc lv (.int y :: .int x :: rest) (pc + 1) lv (.int (x + y) :: rest) := by
  intro kk ls hl
  exact lv_iadd hx hb hd (kk ls hl)
theorem pj_isub (hx : p.tables.exec = Jvm.exec) (hb : c.code = cc) {nL pc : Nat} {lv : LV} {rest : List Value} {x y : Int32} (hd : decode cc pc = .ok (.isub, 1))  : Jmp p l e R s m args below meth c H locs cells slots Q nL pc lv (.int y :: .int x :: rest) (pc + 1) lv (.int (x - y) :: rest) := by
  intro kk ls hl
  exact lv_isub hx hb hd (kk ls hl)
theorem pj_imul (hx : p.tables.exec = Jvm.exec) (hb : c.code = cc) {nL pc : Nat} {lv : LV} {rest : List Value} {x y : Int32} (hd : decode cc pc = .ok (.imul, 1))  : Jmp p l e R s m args below meth c H locs cells slots Q nL pc lv (.int y :: .int x :: rest) (pc + 1) lv (.int (x * y) :: rest) := by
  intro kk ls hl
  exact lv_imul hx hb hd (kk ls hl)
theorem pj_iand (hx : p.tables.exec = Jvm.exec) (hb : c.code = cc) {nL pc : Nat} {lv : LV} {rest : List Value} {x y : Int32} (hd : decode cc pc = .ok (.iand, 1))  : Jmp p l e R s m args below meth c H locs cells slots Q nL pc lv (.int y :: .int x :: rest) (pc + 1) lv (.int (x &&& y) :: rest) := by
  intro kk ls hl
  exact lv_iand hx hb hd (kk ls hl)
theorem pj_ior (hx : p.tables.exec = Jvm.exec) (hb : c.code = cc) {nL pc : Nat} {lv : LV} {rest : List Value} {x y : Int32} (hd : decode cc pc = .ok (.ior, 1))  : Jmp p l e R s m args below meth c H locs cells slots Q nL pc lv (.int y :: .int x :: rest) (pc + 1) lv (.int (x ||| y) :: rest) := by
  intro kk ls hl
  exact lv_ior hx hb hd (kk ls hl)
theorem pj_ixor (hx : p.tables.exec = Jvm.exec) (hb : c.code = cc) {nL pc : Nat} {lv : LV} {rest : List Value} {x y : Int32} (hd : decode cc pc = .ok (.ixor, 1))  : Jmp p l e R s m args below meth c H locs cells slots Q nL pc lv (.int y :: .int x :: rest) (pc + 1) lv (.int (x ^^^ y) :: rest) := by
  intro kk ls hl
  exact lv_ixor hx hb hd (kk ls hl)
theorem pj_ishl (hx : p.tables.exec = Jvm.exec) (hb : c.code = cc) {nL pc : Nat} {lv : LV} {rest : List Value} {x y : Int32} (hd : decode cc pc = .ok (.ishl, 1))  : Jmp p l e R s m args below meth c H locs cells slots Q nL pc lv (.int y :: .int x :: rest) (pc + 1) lv (.int (x <<< (y &&& 31)) :: rest) := by
  intro kk ls hl
  exact lv_ishl hx hb hd (kk ls hl)
theorem pj_ishr (hx : p.tables.exec = Jvm.exec) (hb : c.code = cc) {nL pc : Nat} {lv : LV} {rest : List Value} {x y : Int32} (hd : decode cc pc = .ok (.ishr, 1))  : Jmp p l e R s m args below meth c H locs cells slots Q nL pc lv (.int y :: .int x :: rest) (pc + 1) lv (.int (x >>> (y &&& 31)) :: rest) := by
  intro kk ls hl
  exact lv_ishr hx hb hd (kk ls hl)
theorem pj_iushr (hx : p.tables.exec = Jvm.exec) (hb : c.code = cc) {nL pc : Nat} {lv : LV} {rest : List Value} {x y : Int32} (hd : decode cc pc = .ok (.iushr, 1))  : Jmp p l e R s m args below meth c H locs cells slots Q nL pc lv (.int y :: .int x :: rest) (pc + 1) lv (.int ((x.toUInt32 >>> (y.toUInt32 &&& Int32.toUInt32 31)).toInt32) :: rest) := by
  intro kk ls hl
  exact lv_iushr hx hb hd rfl (kk ls hl)
theorem pj_ladd (hx : p.tables.exec = Jvm.exec) (hb : c.code = cc) {nL pc : Nat} {lv : LV} {rest : List Value} {x y : Int64} (hd : decode cc pc = .ok (.ladd, 1))  : Jmp p l e R s m args below meth c H locs cells slots Q nL pc lv (.long y :: .long x :: rest) (pc + 1) lv (.long (x + y) :: rest) := by
  intro kk ls hl
  exact lv_ladd hx hb hd (kk ls hl)
theorem pj_lsub (hx : p.tables.exec = Jvm.exec) (hb : c.code = cc) {nL pc : Nat} {lv : LV} {rest : List Value} {x y : Int64} (hd : decode cc pc = .ok (.lsub, 1))  : Jmp p l e R s m args below meth c H locs cells slots Q nL pc lv (.long y :: .long x :: rest) (pc + 1) lv (.long (x - y) :: rest) := by
  intro kk ls hl
  exact lv_lsub hx hb hd (kk ls hl)
theorem pj_lmul (hx : p.tables.exec = Jvm.exec) (hb : c.code = cc) {nL pc : Nat} {lv : LV} {rest : List Value} {x y : Int64} (hd : decode cc pc = .ok (.lmul, 1))  : Jmp p l e R s m args below meth c H locs cells slots Q nL pc lv (.long y :: .long x :: rest) (pc + 1) lv (.long (x * y) :: rest) := by
  intro kk ls hl
  exact lv_lmul hx hb hd (kk ls hl)
theorem pj_land (hx : p.tables.exec = Jvm.exec) (hb : c.code = cc) {nL pc : Nat} {lv : LV} {rest : List Value} {x y : Int64} (hd : decode cc pc = .ok (.land, 1))  : Jmp p l e R s m args below meth c H locs cells slots Q nL pc lv (.long y :: .long x :: rest) (pc + 1) lv (.long (x &&& y) :: rest) := by
  intro kk ls hl
  exact lv_land hx hb hd (kk ls hl)
theorem pj_lor (hx : p.tables.exec = Jvm.exec) (hb : c.code = cc) {nL pc : Nat} {lv : LV} {rest : List Value} {x y : Int64} (hd : decode cc pc = .ok (.lor, 1))  : Jmp p l e R s m args below meth c H locs cells slots Q nL pc lv (.long y :: .long x :: rest) (pc + 1) lv (.long (x ||| y) :: rest) := by
  intro kk ls hl
  exact lv_lor hx hb hd (kk ls hl)
theorem pj_lxor (hx : p.tables.exec = Jvm.exec) (hb : c.code = cc) {nL pc : Nat} {lv : LV} {rest : List Value} {x y : Int64} (hd : decode cc pc = .ok (.lxor, 1))  : Jmp p l e R s m args below meth c H locs cells slots Q nL pc lv (.long y :: .long x :: rest) (pc + 1) lv (.long (x ^^^ y) :: rest) := by
  intro kk ls hl
  exact lv_lxor hx hb hd (kk ls hl)
theorem pj_ineg (hx : p.tables.exec = Jvm.exec) (hb : c.code = cc) {nL pc : Nat} {lv : LV} {rest : List Value} {x : Int32} (hd : decode cc pc = .ok (.ineg, 1))  : Jmp p l e R s m args below meth c H locs cells slots Q nL pc lv (.int x :: rest) (pc + 1) lv (.int (-x) :: rest) := by
  intro kk ls hl
  exact lv_ineg hx hb hd (kk ls hl)
theorem pj_i2l (hx : p.tables.exec = Jvm.exec) (hb : c.code = cc) {nL pc : Nat} {lv : LV} {rest : List Value} {x : Int32} (hd : decode cc pc = .ok (.i2l, 1))  : Jmp p l e R s m args below meth c H locs cells slots Q nL pc lv (.int x :: rest) (pc + 1) lv (.long x.toInt64 :: rest) := by
  intro kk ls hl
  exact lv_i2l hx hb hd rfl (kk ls hl)
theorem pj_l2i (hx : p.tables.exec = Jvm.exec) (hb : c.code = cc) {nL pc : Nat} {lv : LV} {rest : List Value} {x : Int64} (hd : decode cc pc = .ok (.l2i, 1))  : Jmp p l e R s m args below meth c H locs cells slots Q nL pc lv (.long x :: rest) (pc + 1) lv (.int x.toInt32 :: rest) := by
  intro kk ls hl
  exact lv_l2i hx hb hd rfl (kk ls hl)
theorem pj_dup (hx : p.tables.exec = Jvm.exec) (hb : c.code = cc) {nL pc : Nat} {lv : LV} {rest : List Value} {v : Value} (hd : decode cc pc = .ok (.dup, 1)) (hv : v.category = 1) : Jmp p l e R s m args below meth c H locs cells slots Q nL pc lv (v :: rest) (pc + 1) lv (v :: v :: rest) := by
  intro kk ls hl
  exact lv_dup hx hb hd hv (kk ls hl)
theorem pj_pop (hx : p.tables.exec = Jvm.exec) (hb : c.code = cc) {nL pc : Nat} {lv : LV} {rest : List Value} {v : Value} (hd : decode cc pc = .ok (.pop, 1)) (hv : v.category = 1) : Jmp p l e R s m args below meth c H locs cells slots Q nL pc lv (v :: rest) (pc + 1) lv (rest) := by
  intro kk ls hl
  exact lv_pop hx hb hd hv (kk ls hl)
theorem pj_dup_x1 (hx : p.tables.exec = Jvm.exec) (hb : c.code = cc) {nL pc : Nat} {lv : LV} {rest : List Value} {v w : Value} (hd : decode cc pc = .ok (.dup_x1, 1)) (hv : v.category = 1) (hw : w.category = 1) : Jmp p l e R s m args below meth c H locs cells slots Q nL pc lv (v :: w :: rest) (pc + 1) lv (v :: w :: v :: rest) := by
  intro kk ls hl
  exact lv_dup_x1 hx hb hd hv hw (kk ls hl)
theorem pj_dup_x2 (hx : p.tables.exec = Jvm.exec) (hb : c.code = cc) {nL pc : Nat} {lv : LV} {rest : List Value} {v w u : Value} (hd : decode cc pc = .ok (.dup_x2, 1)) (hv : v.category = 1) (hw : w.category = 1) (hu : u.category = 1) : Jmp p l e R s m args below meth c H locs cells slots Q nL pc lv (v :: w :: u :: rest) (pc + 1) lv (v :: w :: u :: v :: rest) := by
  intro kk ls hl
  exact lv_dup_x2 hx hb hd hv hw hu (kk ls hl)
theorem pj_dup2 (hx : p.tables.exec = Jvm.exec) (hb : c.code = cc) {nL pc : Nat} {lv : LV} {rest : List Value} {v w : Value} (hd : decode cc pc = .ok (.dup2, 1)) (hv : v.category = 1) (hw : w.category = 1) : Jmp p l e R s m args below meth c H locs cells slots Q nL pc lv (v :: w :: rest) (pc + 1) lv (v :: w :: v :: w :: rest) := by
  intro kk ls hl
  exact lv_dup2_11 hx hb hd hv hw (kk ls hl)
theorem pj_goto (hx : p.tables.exec = Jvm.exec) (hb : c.code = cc) {nL pc : Nat} {lv : LV} {rest : List Value} {o : Int} {t : Nat} (hd : decode cc pc = .ok (.goto o, 3)) (ht : (pc : Int) + o = (t : Int)) : Jmp p l e R s m args below meth c H locs cells slots Q nL pc lv (rest) t lv (rest) := by
  intro kk ls hl
  exact lv_goto hx hb hd ht (kk ls hl)
set_option maxHeartbeats 8000000 in
theorem px_ok (hx : p.tables.exec = Jvm.exec) (hb : c.code = cc) {nL pc len : Nat} {i : Instr} {c0 : Int32} {ρ : Type} {lv : LV} {st : List Value} {k : LV → List Value → Option ρ} {r : ρ} (hd : decode cc pc = .ok (i, len)) (hp : pln pc i len c0 = true) (h : px i c0 lv st k = some r) :
    ∃ lv2 st2, k lv2 st2 = some r ∧ Jmp p l e R s m args below meth c H locs cells slots Q nL pc lv st (nx pc i len) lv2 st2 := by
  unfold px at h
  split at h
  · have hl1 : len = 1 := by simpa [pln] using hp
    subst hl1
    obtain ⟨v, h1, h2⟩ := lgt_spec _ _ h
    split at h2
    · exact ⟨_, _, h2, pj_aload_n hx hb hd h1⟩
    · exact ⟨_, _, h2, pj_aload_nN hx hb hd h1⟩
    · cases h2
  · have hl1 : len = 2 := by simpa [pln] using hp
    subst hl1
    obtain ⟨v, h1, h2⟩ := lgt_spec _ _ h
    split at h2
    · exact ⟨_, _, h2, pj_aload hx hb hd h1⟩
    · exact ⟨_, _, h2, pj_aloadN hx hb hd h1⟩
    · cases h2
  · have hl1 : len = 1 := by simpa [pln] using hp
    subst hl1
    obtain ⟨v, h1, h2⟩ := lgt_spec _ _ h
    split at h2
    · exact ⟨_, _, h2, pj_iload_n hx hb hd h1⟩
    · cases h2
  · have hl1 : len = 2 := by simpa [pln] using hp
    subst hl1
    obtain ⟨v, h1, h2⟩ := lgt_spec _ _ h
    split at h2
    · exact ⟨_, _, h2, pj_iload hx hb hd h1⟩
    · cases h2
  · have hl1 : len = 1 := by simpa [pln] using hp
    subst hl1
    obtain ⟨v, h1, h2⟩ := lgt_spec _ _ h
    split at h2
    · exact ⟨_, _, h2, pj_lload_n hx hb hd h1⟩
    · cases h2
  · have hl1 : len = 2 := by simpa [pln] using hp
    subst hl1
    obtain ⟨v, h1, h2⟩ := lgt_spec _ _ h
    split at h2
    · exact ⟨_, _, h2, pj_lload hx hb hd h1⟩
    · cases h2
  · have hl1 : len = 1 := by simpa [pln] using hp
    subst hl1
    obtain ⟨h1, h2, h3⟩ := lst2_spec _ _ _ h
    exact ⟨_, _, h1, pj_lstore_n hx hb hd h2 h3⟩
  · have hl1 : len = 2 := by simpa [pln] using hp
    subst hl1
    obtain ⟨h1, h2, h3⟩ := lst2_spec _ _ _ h
    exact ⟨_, _, h1, pj_lstore hx hb hd h2 h3⟩
  · have hl1 : len = 1 := by simpa [pln] using hp
    subst hl1
    obtain ⟨h1, h2, h3⟩ := lst_spec _ _ _ h
    exact ⟨_, _, h1, pj_astore_n hx hb hd h2 h3⟩
  · have hl1 : len = 1 := by simpa [pln] using hp
    subst hl1
    obtain ⟨h1, h2, h3⟩ := lst_spec _ _ _ h
    exact ⟨_, _, h1, pj_astore_nN hx hb hd h2 h3⟩
  · have hl1 : len = 2 := by simpa [pln] using hp
    subst hl1
    obtain ⟨h1, h2, h3⟩ := lst_spec _ _ _ h
    exact ⟨_, _, h1, pj_astore hx hb hd h2 h3⟩
  · have hl1 : len = 2 := by simpa [pln] using hp
    subst hl1
    obtain ⟨h1, h2, h3⟩ := lst_spec _ _ _ h
    exact ⟨_, _, h1, pj_astoreN hx hb hd h2 h3⟩
  · have hl1 : len = 1 := by simpa [pln] using hp
    subst hl1
    obtain ⟨h1, h2, h3⟩ := lst_spec _ _ _ h
    exact ⟨_, _, h1, pj_istore_n hx hb hd h2 h3⟩
  · have hl1 : len = 2 := by simpa [pln] using hp
    subst hl1
    obtain ⟨h1, h2, h3⟩ := lst_spec _ _ _ h
    exact ⟨_, _, h1, pj_istore hx hb hd h2 h3⟩
  · simp only [pln, Bool.and_eq_true, beq_iff_eq, decide_eq_true_eq] at hp
    obtain ⟨rfl, ho⟩ := hp
    obtain ⟨v, h1, h2⟩ := lgt_spec _ _ h
    split at h2
    · obtain ⟨g1, g2, g3⟩ := lst_spec _ _ _ h2
      exact ⟨_, _, g1, pj_iinc hx hb hd ho h1 g2 g3⟩
    · cases h2
  · simp only [pln, Bool.and_eq_true, beq_iff_eq, decide_eq_true_eq] at hp
    obtain ⟨rfl, ho⟩ := hp
    exact ⟨_, _, h, pj_iconst hx hb hd ho⟩
  · simp only [pln, Bool.and_eq_true, beq_iff_eq, decide_eq_true_eq] at hp
    obtain ⟨rfl, ho⟩ := hp
    exact ⟨_, _, h, pj_bipush hx hb hd ho⟩
  · simp only [pln, Bool.and_eq_true, beq_iff_eq, decide_eq_true_eq] at hp
    obtain ⟨rfl, ho⟩ := hp
    exact ⟨_, _, h, pj_sipush hx hb hd ho⟩
  · have hl1 : len = 1 := by simpa [pln] using hp
    subst hl1
    exact ⟨_, _, h, pj_aconst_null hx hb hd⟩
  · have hl1 : len = 1 := by simpa [pln] using hp
    subst hl1
    exact ⟨_, _, h, pj_iadd hx hb hd⟩
  · have hl1 : len = 1 := by simpa [pln] using hp
    subst hl1
    exact ⟨_, _, h, pj_isub hx hb hd⟩
  · have hl1 : len = 1 := by simpa [pln] using hp
    subst hl1
    exact ⟨_, _, h, pj_imul hx hb hd⟩
  · have hl1 : len = 1 := by simpa [pln] using hp
    subst hl1
    exact ⟨_, _, h, pj_iand hx hb hd⟩
  · have hl1 : len = 1 := by simpa [pln] using hp
    subst hl1
    exact ⟨_, _, h, pj_ior hx hb hd⟩
  · have hl1 : len = 1 := by simpa [pln] using hp
    subst hl1
    exact ⟨_, _, h, pj_ixor hx hb hd⟩
  · have hl1 : len = 1 := by simpa [pln] using hp
    subst hl1
    exact ⟨_, _, h, pj_ishl hx hb hd⟩
  · have hl1 : len = 1 := by simpa [pln] using hp
    subst hl1
    exact ⟨_, _, h, pj_ishr hx hb hd⟩
  · have hl1 : len = 1 := by simpa [pln] using hp
    subst hl1
    exact ⟨_, _, h, pj_iushr hx hb hd⟩
  · have hl1 : len = 1 := by simpa [pln] using hp
    subst hl1
    exact ⟨_, _, h, pj_ladd hx hb hd⟩
  · have hl1 : len = 1 := by simpa [pln] using hp
    subst hl1
    exact ⟨_, _, h, pj_lsub hx hb hd⟩
  · have hl1 : len = 1 := by simpa [pln] using hp
    subst hl1
    exact ⟨_, _, h, pj_lmul hx hb hd⟩
  · have hl1 : len = 1 := by simpa [pln] using hp
    subst hl1
    exact ⟨_, _, h, pj_land hx hb hd⟩
  · have hl1 : len = 1 := by simpa [pln] using hp
    subst hl1
    exact ⟨_, _, h, pj_lor hx hb hd⟩
  · have hl1 : len = 1 := by simpa [pln] using hp
    subst hl1
    exact ⟨_, _, h, pj_lxor hx hb hd⟩
  · have hl1 : len = 1 := by simpa [pln] using hp
    subst hl1
    exact ⟨_, _, h, pj_ineg hx hb hd⟩
  · have hl1 : len = 1 := by simpa [pln] using hp
    subst hl1
    exact ⟨_, _, h, pj_i2l hx hb hd⟩
  · have hl1 : len = 1 := by simpa [pln] using hp
    subst hl1
    exact ⟨_, _, h, pj_l2i hx hb hd⟩
  · have hl1 : len = 1 := by simpa [pln] using hp
    subst hl1
    exact ⟨_, _, h, pj_dup hx hb hd rfl⟩
  · have hl1 : len = 1 := by simpa [pln] using hp
    subst hl1
    exact ⟨_, _, h, pj_dup hx hb hd rfl⟩
  · have hl1 : len = 1 := by simpa [pln] using hp
    subst hl1
    exact ⟨_, _, h, pj_dup hx hb hd rfl⟩
  · have hl1 : len = 1 := by simpa [pln] using hp
    subst hl1
    exact ⟨_, _, h, pj_pop hx hb hd rfl⟩
  · have hl1 : len = 1 := by simpa [pln] using hp
    subst hl1
    exact ⟨_, _, h, pj_pop hx hb hd rfl⟩
  · have hl1 : len = 1 := by simpa [pln] using hp
    subst hl1
    exact ⟨_, _, h, pj_pop hx hb hd rfl⟩
  · have hl1 : len = 1 := by simpa [pln] using hp
    subst hl1
    exact ⟨_, _, h, pj_dup_x1 hx hb hd rfl rfl⟩
  · have hl1 : len = 1 := by simpa [pln] using hp
    subst hl1
    exact ⟨_, _, h, pj_dup_x1 hx hb hd rfl rfl⟩
  · have hl1 : len = 1 := by simpa [pln] using hp
    subst hl1
    exact ⟨_, _, h, pj_dup_x2 hx hb hd rfl rfl rfl⟩
  · have hl1 : len = 1 := by simpa [pln] using hp
    subst hl1
    exact ⟨_, _, h, pj_dup2 hx hb hd rfl rfl⟩
  · simp only [pln, Bool.and_eq_true, beq_iff_eq, decide_eq_true_eq] at hp
    obtain ⟨rfl, ho⟩ := hp
    exact ⟨_, _, h, pj_goto hx hb hd (Int.toNat_of_nonneg ho).symm⟩
  · cases h
theorem pxs_ok (hx : p.tables.exec = Jvm.exec) (hb : c.code = cc) {nL : Nat} {ρ : Type} {k : LV → List Value → Option ρ} {r : ρ} {pe : Nat} : ∀ (is : List (Instr × Nat × Int32)) (pc : Nat) (lv : LV) (st : List Value), dsq cc pc is pe = true → pxs is lv st k = some r →
    ∃ lv2 st2, k lv2 st2 = some r ∧ Jmp p l e R s m args below meth c H locs cells slots Q nL pc lv st pe lv2 st2 := by
  intro is
  induction is with
  | nil =>
    intro pc lv st hd h
    have hpe : pc = pe := by simpa [dsq] using hd
    subst hpe
    exact ⟨lv, st, h, fun kk => kk⟩
  | cons q is ih =>
    obtain ⟨i, len, c0⟩ := q
    intro pc lv st hd h
    simp only [dsq, Bool.and_eq_true, decide_eq_true_eq] at hd
    obtain ⟨h1, h2, h3⟩ := hd
    obtain ⟨lv1, st1, g1, g2⟩ := px_ok (p := p) (l := l) (e := e) (R := R) (s := s) (m := m) (args := args) (below := below) (meth := meth) (H := H) (locs := locs) (cells := cells) (slots := slots) (Q := Q) (nL := nL) hx hb h1 h2 h
    obtain ⟨lv2, st2, f1, f2⟩ := ih _ lv1 st1 h3 g1
    exact ⟨lv2, st2, f1, fun kk => g2 (f2 kk)⟩
end PX
end
section
/-! the words: one list for all methods -/
def gok (w : Cond) : Bool := (w.onTables && w.keeps) || (match w with | .arrayClass _ => true | _ => false)
def gW : List Cond := lw_tbl.filter gok
theorem gW_of {w : Cond} (h : w ∈ lw_tbl) (hg : gok w = true) : w ∈ gW := List.mem_filter.mpr ⟨h, hg⟩
theorem gW_in {w : Cond} (h : w ∈ gW) : w ∈ lw_tbl := (List.mem_filter.mp h).1
theorem gW_good : GoodIn gW gW := fun w h => ⟨h, by
  have h2 := (List.mem_filter.mp h).2
  unfold gok at h2
  rw [Bool.or_eq_true] at h2
  rcases h2 with h2 | h2
  · exact Or.inl h2
  · cases w <;> first | (exact Or.inr ⟨_, rfl⟩) | (cases h2)⟩
def nok (w : Cond) : Bool := match w with
  | .fieldLinkNest _ _ _ _ _ _ => true
  | .methodLinkNest _ _ _ _ => true
  | .castable _ _ => true
  | .arrayOver (.object _) => true
  | _ => false
def nW : List Cond := lw_tbl.filter nok
theorem nW_of {w : Cond} (h : w ∈ lw_tbl) (hg : nok w = true) : w ∈ nW := List.mem_filter.mpr ⟨h, hg⟩
def Nws (s : State) : Prop := va_Dc s ∧ ∀ w ∈ nW, va_Nw w s
theorem Nws.moved {s U : State} (hW : s.WarmedH U.vm) (h : Nws s) : Nws U := ⟨va_Dc.moved hW.alike h.1, fun w hw => by
  have h1 := h.2 w hw
  have h2 := (List.mem_filter.mp hw).2
  cases w with
  | fieldLinkNest a i b n d h => exact va_Nw.warmF hW h1
  | methodLinkNest a i x h => exact va_Nw.warmM hW h1
  | castable C T => exact va_Nw.warmC hW h1
  | arrayOver ty =>
    cases ty with
    | object C => exact va_AO.moved hW.alike h1
    | _ => cases h2
  | _ => cases h2⟩
theorem Nws.same {s U : State} (hv : s.vm = U.vm) (h : Nws s) : Nws U := ⟨va_Dc.moved (by rw [hv]; exact Vm.Alike.refl _) h.1, fun w hw => by
  have h1 := h.2 w hw
  have h2 := (List.mem_filter.mp hw).2
  cases w with
  | fieldLinkNest a i b n d h => exact va_Nw.same rfl hv h1
  | methodLinkNest a i x h => exact va_Nw.same rfl hv h1
  | castable C T => exact va_Nw.same rfl hv h1
  | arrayOver ty =>
    cases ty with
    | object C => exact va_AO.moved (by rw [hv]; exact Vm.Alike.refl _) h1
    | _ => cases h2
  | _ => cases h2⟩
/-! the memory: an object (its class's number, its fields), an array (its type, its contents), or a list (its elements; what holds them lies hidden) -/
abbrev eO (ci : Nat) (fs : List Value) : EE := .inl (ci, fs)
abbrev eA (ty : FieldType) (x : vp_A) : EE := .inr (.inl (ty, x))
abbrev eL (xs : List Nat) : EE := .inr (.inr xs)
abbrev aI (n : Nat) (f : Nat → Int32) : EE := eA .int (n, .inl f)
abbrev aJ (n : Nat) (f : Nat → Int64) : EE := eA .long (n, .inr (.inl f))
abbrev aR (C : String) (n : Nat) (f : Nat → Option Nat) : EE := eA (.object C) (n, .inr (.inr (.inr (.inr f))))
abbrev sOb : String := "java/lang/Object"
def Ent (z : Nat) (ws : va_W) (tys : List (ClassId × FieldType)) (M : Mm) (bk : Nat → Nat) (q : Nat) (e : EE) : Prop := match e with
  | .inl o => (q, .inr o) ∈ ws
  | .inr (.inl x) => ∃ cA : ClassId, (q, .inl (cA, x.2)) ∈ ws ∧ (cA, x.1) ∈ tys
  | .inr (.inr xs) => (∃ mc : Int32, (q, .inr (8, [.int mc, .ref (bk q), .int (nI xs.length)])) ∈ ws) ∧ ((bk q = z ∧ xs = []) ∨
      (bk q ≠ z ∧ M (bk q) = none ∧ (∀ q' xs', M q' = some (eL xs') → bk q' = bk q → q' = q) ∧
       ∃ (cA : ClassId) (cap : Nat) (f : Nat → Option Nat), (bk q, .inl (cA, cap, .inr (.inr (.inr (.inr f))))) ∈ ws ∧ (cA, .object sOb) ∈ tys ∧ xs.length ≤ cap ∧ cap ≤ 100000 ∧ ∀ i, i < xs.length → f i = xs[i]?))
def mm (D : va_G) (A : Nat → Prop) (z : Nat) (M : Mm) (s : State) (H : Heap) : Prop := ∃ (ws : va_W) (tys : List (ClassId × FieldType)) (bk : Nat → Nat), va_K D vwCl tys s ∧ va_P D vwCl ws H ∧ va_D A ws ∧ ¬ A z ∧ ∀ q e, M q = some e → Ent z ws tys M bk q e
theorem mm.moved {D : va_G} {A : Nat → Prop} {z : Nat} {M : Mm} {s U : State} {H : Heap} (hv : s.vm.Alike U.vm) (h : mm D A z M s H) : mm D A z M U H := by
  obtain ⟨ws, tys, bk, hK, h2⟩ := h
  exact ⟨ws, tys, bk, va_K.moved hv hK, h2⟩
theorem Ent.keep {z : Nat} {ws ws' : va_W} {tys tys' : List (ClassId × FieldType)} {M M' : Mm} {bk : Nat → Nat} {q : Nat} {e : EE} (h : Ent z ws tys M bk q e) (a : Nat) (hw : ∀ q e, (q, e) ∈ ws → q ≠ a → (q, e) ∈ ws') (ht : ∀ x ∈ tys, x ∈ tys') (hq : q ≠ a) (hb : ∀ xs, e = eL xs → bk q ≠ a)
    (hM : ∀ q, q ≠ a → M' q = M q) (hMa : ∀ xs, M' a ≠ some (eL xs)) : Ent z ws' tys' M' bk q e := by
  match e, h, hb with
  | .inl o, h, _ => exact hw _ _ h hq
  | .inr (.inl x), h, _ =>
    obtain ⟨cA, h1, h2⟩ := h
    exact ⟨cA, hw _ _ h1 hq, ht _ h2⟩
  | .inr (.inr xs), h, hb =>
    obtain ⟨⟨mc, h1⟩, h2⟩ := h
    have hba := hb xs rfl
    refine ⟨⟨mc, hw _ _ h1 hq⟩, ?_⟩
    rcases h2 with h2 | ⟨g1, g2, g3, cA, cap, f, g4, g5, g6, g7⟩
    · exact Or.inl h2
    · refine Or.inr ⟨g1, by rw [hM _ hba]; exact g2, fun q' xs' h3 h4 => ?_, cA, cap, f, hw _ _ g4 hba, ht _ g5, g6, g7⟩
      have hq' : q' ≠ a := fun e => hMa xs' (by rw [← e]; exact h3)
      rw [hM q' hq'] at h3
      exact g3 q' xs' h3 h4
theorem mem_keep {ws : va_W} {q0 a : Nat} {e0 w' : va_E} (h0 : ws[q0]? = some (a, e0)) : ∀ q e, (q, e) ∈ ws → q ≠ a → (q, e) ∈ ws.set q0 (a, w') := by
  intro q e h hq
  obtain ⟨i, hi⟩ := List.getElem?_of_mem h
  have hne : q0 ≠ i := fun x => by
    subst x
    rw [h0] at hi
    exact hq (congrArg Prod.fst (Option.some.inj hi)).symm
  exact List.mem_of_getElem? (i := i) (by rw [List.getElem?_set_ne hne]; exact hi)
theorem mem_self {ws : va_W} {q0 a : Nat} {e0 w' : va_E} (h0 : ws[q0]? = some (a, e0)) : (a, w') ∈ ws.set q0 (a, w') :=
  List.mem_of_getElem? (i := q0) (List.getElem?_set_self (List.getElem?_eq_some_iff.mp h0).1)
theorem Ent.lists {z : Nat} {ws : va_W} {tys : List (ClassId × FieldType)} {M : Mm} {bk : Nat → Nat} {q a : Nat} {xs : List Nat} (h : Ent z ws tys M bk q (eL xs)) (hz : a ≠ z) (ha : M a ≠ none) : bk q ≠ a := by
  obtain ⟨-, h2⟩ := h
  rcases h2 with ⟨h2, -⟩ | ⟨-, g2, -⟩
  · rw [h2]; exact Ne.symm hz
  · exact fun e => ha (by rw [← e]; exact g2)
/-- a plain cell is written: it stays plain -/
theorem mm_set {D : va_G} {A : Nat → Prop} {z : Nat} {M : Mm} {s : State} {H : Heap} {ws : va_W} {tys : List (ClassId × FieldType)} {bk : Nat → Nat} {q0 a : Nat} {e0 w' : va_E} {eo e' : EE} (hK : va_K D vwCl tys s) (hD : va_D A ws) (hz : ¬ A z) (hE : ∀ q e, M q = some e → Ent z ws tys M bk q e)
    (h0 : ws[q0]? = some (a, e0)) (hMa : M a = some eo) (hne : ∀ xs, e' ≠ eL xs) (hnew : Ent z (ws.set q0 (a, w')) tys (up M a e') bk a e') (hP' : va_P D vwCl (ws.set q0 (a, w')) H) (hD' : va_D A (ws.set q0 (a, w'))) : mm D A z (up M a e') s H := by
  refine ⟨ws.set q0 (a, w'), tys, bk, hK, hP', hD', hz, fun q e h => ?_⟩
  by_cases hq : q = a
  · subst hq
    rw [up_s] at h
    cases h
    exact hnew
  · rw [up_n hq] at h
    refine (hE q e h).keep a (mem_keep h0) (fun _ h => h) hq (fun xs he => ?_) (fun _ h => up_n h) (fun xs hx => ?_)
    · subst he
      exact (hE q _ h).lists (fun x => hz (by rw [← x]; exact hD.2 q0 _ h0)) (by rw [hMa]; exact fun h => by cases h)
    · rw [up_s] at hx
      exact hne xs (Option.some.inj hx)
/-- a new cell -/
theorem mm_new {D : va_G} {A : Nat → Prop} {z : Nat} {M : Mm} {s : State} {H : Heap} {ws : va_W} {tys tys' : List (ClassId × FieldType)} {bk : Nat → Nat} {a : Nat} {w' : va_E} {e' : EE} (hK : va_K D vwCl tys' s) (ht : ∀ x ∈ tys, x ∈ tys') (hz : ¬ A z) (hE : ∀ q e, M q = some e → Ent z ws tys M bk q e)
    (hne : ∀ xs, e' ≠ eL xs) (hnew : ∀ M', Ent z (ws ++ [(a, w')]) tys' M' bk a e') (hP' : va_P D vwCl (ws ++ [(a, w')]) H) (hD' : va_D A (ws ++ [(a, w')])) : M a = none ∧ a ≠ z ∧ mm D A z (up M a e') s H := by
  have hAa : A a := hD'.2 ws.length (a, w') (by simp)
  have haz : a ≠ z := fun x => hz (by rw [← x]; exact hAa)
  have hfr : ∀ (q : Nat) (e : va_E), (q, e) ∈ ws → q ≠ a := by
    intro q e h x
    subst x
    obtain ⟨i, hi⟩ := List.getElem?_of_mem h
    have hlt : i < ws.length := (List.getElem?_eq_some_iff.mp hi).1
    have := hD'.1 i ws.length (q, e) (q, w') (by rw [List.getElem?_append_left hlt]; exact hi) (by simp) rfl
    omega
  have hnone : M a = none := by
    cases h : M a with
    | none => rfl
    | some e =>
      have h1 := hE a e h
      exfalso
      match e, h1 with
      | .inl o, h1 => exact hfr a _ h1 rfl
      | .inr (.inl x), ⟨cA, h1, _⟩ => exact hfr a _ h1 rfl
      | .inr (.inr xs), ⟨⟨mc, h1⟩, _⟩ => exact hfr a _ h1 rfl
  refine ⟨hnone, haz, ws ++ [(a, w')], tys', bk, hK, hP', hD', hz, fun q e h => ?_⟩
  by_cases hq : q = a
  · subst hq
    rw [up_s] at h
    cases h
    exact hnew _
  · rw [up_n hq] at h
    refine (hE q e h).keep a (fun q e h _ => List.mem_append_left _ h) ht hq (fun xs he => ?_) (fun _ h => up_n h) (fun xs hx => ?_)
    · subst he
      obtain ⟨-, h2⟩ := hE q _ h
      rcases h2 with ⟨h2, -⟩ | ⟨-, -, -, cA, cap, f, g4, -⟩
      · rw [h2]; exact Ne.symm haz
      · exact hfr _ _ g4
    · rw [up_s] at hx
      exact hne xs (Option.some.inj hx)
/-! the judgement -/
def Ez (A : Nat → Prop) (s : State) (κ : Nat × Nat) : Prop := va_Z "java/util/ArrayList" "DEFAULTCAPACITY_EMPTY_ELEMENTDATA" "[Ljava/lang/Object;" (.ref κ.1) A s s.heap ∧ va_T (.object sOb) κ.1 0 (fun _ => .null) A s s.heap ∧ va_Mi "[Ljava/lang/Object;" κ.2 s
def Cx (κ : Nat × Nat) (μ : MD) (d k n : Nat) (A : Nat → Prop) (p : Program) (R : Room) (s : State) (m : MethodId) (args : Array Value) (meth : Method) (c : Code) (cells slots : Nat) : Prop :=
  p.tables.exec = Jvm.exec ∧ c.code = μ.2.1 ∧ meth.sig.returnType = μ.2.2.2 ∧ c.maxLocals = μ.2.2.1 ∧ s.vm.findClass μ.1.cls = some m.cls ∧ (∀ w ∈ gW, w.before args s = true) ∧ Nws s ∧ meth.locks = false ∧ meth.name = μ.1.name ∧ d ≤ R.frames ∧ d * 40 ≤ R.locals ∧ cells + k ≤ R.cells ∧ slots + n ≤ R.slots ∧ (∀ q, s.heap.size ≤ q → A q) ∧ Ez A s κ
theorem Cx.mono {κ : Nat × Nat} {μ : MD} {d k n k' n' cells slots cells' slots' : Nat} {A : Nat → Prop} {p : Program} {R : Room} {s : State} {m : MethodId} {args : Array Value} {meth : Method} {c : Code} (h : Cx κ μ d k n A p R s m args meth c cells slots) (h1 : cells' + k' ≤ cells + k) (h2 : slots' + n' ≤ slots + n) : Cx κ μ d k' n' A p R s m args meth c cells' slots' := by
  obtain ⟨hx, hb, hr, hml, hown, hts, hnw, hlk, hnm, hdf, hdl, hkc, hks, hA, hE⟩ := h
  exact ⟨hx, hb, hr, hml, hown, hts, hnw, hlk, hnm, hdf, hdl, Nat.le_trans h1 hkc, Nat.le_trans h2 hks, hA, hE⟩
def Qp (Q : Option Value → Mm → Prop) (D : va_G) (A : Nat → Prop) (z : Nat) : Array Value → State → Outcome → State → Prop := fun _ st oc t => (∃ (v : Option Value) (M' : Mm), oc = .returned v ∧ Q v M' ∧ mm D A z M' t t.heap) ∧ va_F A st t
/-- method μ, at pc with these locals and this stack and memory M: it returns, with Q of the answer and the memory; d calls deep at most, k cells of n slots new at most -/
def G (κ : Nat × Nat) (μ : MD) (d : Nat) (M : Mm) (pc : Nat) (lv : LV) (st : List Value) (k n : Nat) (Q : Option Value → Mm → Prop) : Prop :=
  ∀ (p : Program) (l : Launch) (e : Env) (R : Room) (s : State) (m : MethodId) (args : Array Value) (below : List Frame) (meth : Method) (c : Code) (D : va_G) (A : Nat → Prop) (H : Heap) (locs : List Loc) (cells slots : Nat) (ls : Array Slot),
    Cx κ μ d k n A p R s m args meth c cells slots → va_S A s.heap H locs → mm D A κ.1 M s H → lh ls μ.2.2.1 lv →
    W p l e R s m args below meth c H locs cells slots (MQ below (Qp Q D A κ.1) args s R.cells R.slots A) (F0 m pc ls st)
section GR
variable {κ : Nat × Nat} {μ ν : MD} {d : Nat} {M : Mm} {pc : Nat} {lv : LV} {st rest : List Value} {k n : Nat} {Q : Option Value → Mm → Prop}
theorem g_seq {pc' : Nat} {lv' : LV} {st' : List Value} {is : List (Instr × Nat × Int32)} (hs : dsq μ.2.1 pc is pc' = true) (h : pxs is lv st (fun a b => some (a, b)) = some (lv', st')) (kk : G κ μ d M pc' lv' st' k n Q) : G κ μ d M pc lv st k n Q := by
  intro p l e R s m args below meth c D A H locs cells slots ls C hS hM hl
  obtain ⟨lv2, st2, h1, h2⟩ := pxs_ok (p := p) (l := l) (e := e) (R := R) (s := s) (m := m) (args := args) (below := below) (meth := meth) (H := H) (locs := locs) (cells := cells) (slots := slots) (Q := MQ below (Qp Q D A κ.1) args s R.cells R.slots A) (nL := μ.2.2.1) C.1 C.2.1 is pc lv st hs h
  have h3 := Option.some.inj h1
  cases h3
  exact h2 (fun ls2 hl2 => kk p l e R s m args below meth c D A H locs cells slots ls2 C hS hM hl2) ls hl
theorem g_mono {Q' : Option Value → Mm → Prop} (h : G κ μ d M pc lv st k n Q) (hQ : ∀ v M', Q v M' → Q' v M') : G κ μ d M pc lv st k n Q' := by
  intro p l e R s m args below meth c D A H locs cells slots ls C hS hM hl T hT X
  obtain ⟨t, a1, o, b1, b2, ⟨⟨v, M', c1, c2, c3⟩, c4⟩, b4⟩ := h p l e R s m args below meth c D A H locs cells slots ls C hS hM hl T hT X
  exact ⟨t, a1, o, b1, b2, ⟨⟨v, M', c1, hQ v M' c2, c3⟩, c4⟩, b4⟩
theorem g_le {k' n' : Nat} (h : G κ μ d M pc lv st k' n' Q) (h1 : k' ≤ k) (h2 : n' ≤ n) : G κ μ d M pc lv st k n Q := by
  intro p l e R s m args below meth c D A H locs cells slots ls C hS hM hl
  exact h p l e R s m args below meth c D A H locs cells slots ls (C.mono (by omega) (by omega)) hS hM hl

theorem g_if_eq {x : Int32} {off : Int} {tgt : Nat} (hd : decode μ.2.1 pc = .ok (.ifCond .eq off, 3)) (ht : (pc : Int) + off = (tgt : Int)) (kt : x = 0 → G κ μ d M tgt lv rest k n Q) (kf : ¬ x = 0 → G κ μ d M (pc + 3) lv rest k n Q) : G κ μ d M pc lv (.int x :: rest) k n Q := by
  intro p l e R s m args below meth c D A H locs cells slots ls C hS hM0 hl
  obtain ⟨hx, hb, hr, hml, hown, hts, hnw, hlk, hnm, hdf, hdl, hkc, hks, hA, hE0⟩ := id C
  exact lv_if_eq hx hb hd ht (fun h => kt h p l e R s m args below meth c D A H locs cells slots ls C hS hM0 hl) (fun h => kf h p l e R s m args below meth c D A H locs cells slots ls C hS hM0 hl)
theorem g_icmp_eq {x y : Int32} {off : Int} {tgt : Nat} (hd : decode μ.2.1 pc = .ok (.if_icmp .eq off, 3)) (ht : (pc : Int) + off = (tgt : Int)) (kt : x = y → G κ μ d M tgt lv rest k n Q) (kf : ¬ x = y → G κ μ d M (pc + 3) lv rest k n Q) : G κ μ d M pc lv (.int y :: .int x :: rest) k n Q := by
  intro p l e R s m args below meth c D A H locs cells slots ls C hS hM0 hl
  obtain ⟨hx, hb, hr, hml, hown, hts, hnw, hlk, hnm, hdf, hdl, hkc, hks, hA, hE0⟩ := id C
  exact lv_icmp_eq hx hb hd ht (fun h => kt h p l e R s m args below meth c D A H locs cells slots ls C hS hM0 hl) (fun h => kf h p l e R s m args below meth c D A H locs cells slots ls C hS hM0 hl)
theorem g_if_ne {x : Int32} {off : Int} {tgt : Nat} (hd : decode μ.2.1 pc = .ok (.ifCond .ne off, 3)) (ht : (pc : Int) + off = (tgt : Int)) (kt : ¬ x = 0 → G κ μ d M tgt lv rest k n Q) (kf : x = 0 → G κ μ d M (pc + 3) lv rest k n Q) : G κ μ d M pc lv (.int x :: rest) k n Q := by
  intro p l e R s m args below meth c D A H locs cells slots ls C hS hM0 hl
  obtain ⟨hx, hb, hr, hml, hown, hts, hnw, hlk, hnm, hdf, hdl, hkc, hks, hA, hE0⟩ := id C
  exact lv_if_ne hx hb hd ht (fun h => kt h p l e R s m args below meth c D A H locs cells slots ls C hS hM0 hl) (fun h => kf h p l e R s m args below meth c D A H locs cells slots ls C hS hM0 hl)
theorem g_icmp_ne {x y : Int32} {off : Int} {tgt : Nat} (hd : decode μ.2.1 pc = .ok (.if_icmp .ne off, 3)) (ht : (pc : Int) + off = (tgt : Int)) (kt : ¬ x = y → G κ μ d M tgt lv rest k n Q) (kf : x = y → G κ μ d M (pc + 3) lv rest k n Q) : G κ μ d M pc lv (.int y :: .int x :: rest) k n Q := by
  intro p l e R s m args below meth c D A H locs cells slots ls C hS hM0 hl
  obtain ⟨hx, hb, hr, hml, hown, hts, hnw, hlk, hnm, hdf, hdl, hkc, hks, hA, hE0⟩ := id C
  exact lv_icmp_ne hx hb hd ht (fun h => kt h p l e R s m args below meth c D A H locs cells slots ls C hS hM0 hl) (fun h => kf h p l e R s m args below meth c D A H locs cells slots ls C hS hM0 hl)
theorem g_if_lt {x : Int32} {off : Int} {tgt : Nat} (hd : decode μ.2.1 pc = .ok (.ifCond .lt off, 3)) (ht : (pc : Int) + off = (tgt : Int)) (kt : x < 0 → G κ μ d M tgt lv rest k n Q) (kf : ¬ x < 0 → G κ μ d M (pc + 3) lv rest k n Q) : G κ μ d M pc lv (.int x :: rest) k n Q := by
  intro p l e R s m args below meth c D A H locs cells slots ls C hS hM0 hl
  obtain ⟨hx, hb, hr, hml, hown, hts, hnw, hlk, hnm, hdf, hdl, hkc, hks, hA, hE0⟩ := id C
  exact lv_if_lt hx hb hd ht (fun h => kt h p l e R s m args below meth c D A H locs cells slots ls C hS hM0 hl) (fun h => kf h p l e R s m args below meth c D A H locs cells slots ls C hS hM0 hl)
theorem g_icmp_lt {x y : Int32} {off : Int} {tgt : Nat} (hd : decode μ.2.1 pc = .ok (.if_icmp .lt off, 3)) (ht : (pc : Int) + off = (tgt : Int)) (kt : x < y → G κ μ d M tgt lv rest k n Q) (kf : ¬ x < y → G κ μ d M (pc + 3) lv rest k n Q) : G κ μ d M pc lv (.int y :: .int x :: rest) k n Q := by
  intro p l e R s m args below meth c D A H locs cells slots ls C hS hM0 hl
  obtain ⟨hx, hb, hr, hml, hown, hts, hnw, hlk, hnm, hdf, hdl, hkc, hks, hA, hE0⟩ := id C
  exact lv_icmp_lt hx hb hd ht (fun h => kt h p l e R s m args below meth c D A H locs cells slots ls C hS hM0 hl) (fun h => kf h p l e R s m args below meth c D A H locs cells slots ls C hS hM0 hl)
theorem g_if_ge {x : Int32} {off : Int} {tgt : Nat} (hd : decode μ.2.1 pc = .ok (.ifCond .ge off, 3)) (ht : (pc : Int) + off = (tgt : Int)) (kt : 0 ≤ x → G κ μ d M tgt lv rest k n Q) (kf : ¬ 0 ≤ x → G κ μ d M (pc + 3) lv rest k n Q) : G κ μ d M pc lv (.int x :: rest) k n Q := by
  intro p l e R s m args below meth c D A H locs cells slots ls C hS hM0 hl
  obtain ⟨hx, hb, hr, hml, hown, hts, hnw, hlk, hnm, hdf, hdl, hkc, hks, hA, hE0⟩ := id C
  exact lv_if_ge hx hb hd ht (fun h => kt h p l e R s m args below meth c D A H locs cells slots ls C hS hM0 hl) (fun h => kf h p l e R s m args below meth c D A H locs cells slots ls C hS hM0 hl)
theorem g_icmp_ge {x y : Int32} {off : Int} {tgt : Nat} (hd : decode μ.2.1 pc = .ok (.if_icmp .ge off, 3)) (ht : (pc : Int) + off = (tgt : Int)) (kt : y ≤ x → G κ μ d M tgt lv rest k n Q) (kf : ¬ y ≤ x → G κ μ d M (pc + 3) lv rest k n Q) : G κ μ d M pc lv (.int y :: .int x :: rest) k n Q := by
  intro p l e R s m args below meth c D A H locs cells slots ls C hS hM0 hl
  obtain ⟨hx, hb, hr, hml, hown, hts, hnw, hlk, hnm, hdf, hdl, hkc, hks, hA, hE0⟩ := id C
  exact lv_icmp_ge hx hb hd ht (fun h => kt h p l e R s m args below meth c D A H locs cells slots ls C hS hM0 hl) (fun h => kf h p l e R s m args below meth c D A H locs cells slots ls C hS hM0 hl)
theorem g_if_gt {x : Int32} {off : Int} {tgt : Nat} (hd : decode μ.2.1 pc = .ok (.ifCond .gt off, 3)) (ht : (pc : Int) + off = (tgt : Int)) (kt : 0 < x → G κ μ d M tgt lv rest k n Q) (kf : ¬ 0 < x → G κ μ d M (pc + 3) lv rest k n Q) : G κ μ d M pc lv (.int x :: rest) k n Q := by
  intro p l e R s m args below meth c D A H locs cells slots ls C hS hM0 hl
  obtain ⟨hx, hb, hr, hml, hown, hts, hnw, hlk, hnm, hdf, hdl, hkc, hks, hA, hE0⟩ := id C
  exact lv_if_gt hx hb hd ht (fun h => kt h p l e R s m args below meth c D A H locs cells slots ls C hS hM0 hl) (fun h => kf h p l e R s m args below meth c D A H locs cells slots ls C hS hM0 hl)
theorem g_icmp_gt {x y : Int32} {off : Int} {tgt : Nat} (hd : decode μ.2.1 pc = .ok (.if_icmp .gt off, 3)) (ht : (pc : Int) + off = (tgt : Int)) (kt : y < x → G κ μ d M tgt lv rest k n Q) (kf : ¬ y < x → G κ μ d M (pc + 3) lv rest k n Q) : G κ μ d M pc lv (.int y :: .int x :: rest) k n Q := by
  intro p l e R s m args below meth c D A H locs cells slots ls C hS hM0 hl
  obtain ⟨hx, hb, hr, hml, hown, hts, hnw, hlk, hnm, hdf, hdl, hkc, hks, hA, hE0⟩ := id C
  exact lv_icmp_gt hx hb hd ht (fun h => kt h p l e R s m args below meth c D A H locs cells slots ls C hS hM0 hl) (fun h => kf h p l e R s m args below meth c D A H locs cells slots ls C hS hM0 hl)
theorem g_if_le {x : Int32} {off : Int} {tgt : Nat} (hd : decode μ.2.1 pc = .ok (.ifCond .le off, 3)) (ht : (pc : Int) + off = (tgt : Int)) (kt : x ≤ 0 → G κ μ d M tgt lv rest k n Q) (kf : ¬ x ≤ 0 → G κ μ d M (pc + 3) lv rest k n Q) : G κ μ d M pc lv (.int x :: rest) k n Q := by
  intro p l e R s m args below meth c D A H locs cells slots ls C hS hM0 hl
  obtain ⟨hx, hb, hr, hml, hown, hts, hnw, hlk, hnm, hdf, hdl, hkc, hks, hA, hE0⟩ := id C
  exact lv_if_le hx hb hd ht (fun h => kt h p l e R s m args below meth c D A H locs cells slots ls C hS hM0 hl) (fun h => kf h p l e R s m args below meth c D A H locs cells slots ls C hS hM0 hl)
theorem g_icmp_le {x y : Int32} {off : Int} {tgt : Nat} (hd : decode μ.2.1 pc = .ok (.if_icmp .le off, 3)) (ht : (pc : Int) + off = (tgt : Int)) (kt : x ≤ y → G κ μ d M tgt lv rest k n Q) (kf : ¬ x ≤ y → G κ μ d M (pc + 3) lv rest k n Q) : G κ μ d M pc lv (.int y :: .int x :: rest) k n Q := by
  intro p l e R s m args below meth c D A H locs cells slots ls C hS hM0 hl
  obtain ⟨hx, hb, hr, hml, hown, hts, hnw, hlk, hnm, hdf, hdl, hkc, hks, hA, hE0⟩ := id C
  exact lv_icmp_le hx hb hd ht (fun h => kt h p l e R s m args below meth c D A H locs cells slots ls C hS hM0 hl) (fun h => kf h p l e R s m args below meth c D A H locs cells slots ls C hS hM0 hl)
theorem g_ifnull {x : Nat} {off : Int} (hd : decode μ.2.1 pc = .ok (.ifnull off, 3)) (kk : G κ μ d M (pc + 3) lv rest k n Q) : G κ μ d M pc lv (.ref x :: rest) k n Q := by
  intro p l e R s m args below meth c D A H locs cells slots ls C hS hM0 hl
  obtain ⟨hx, hb, hr, hml, hown, hts, hnw, hlk, hnm, hdf, hdl, hkc, hks, hA, hE0⟩ := id C
  exact lv_ifnull hx hb hd (kk p l e R s m args below meth c D A H locs cells slots ls C hS hM0 hl)
theorem g_ifnullN {off : Int} {tgt : Nat} (hd : decode μ.2.1 pc = .ok (.ifnull off, 3)) (ht : (pc : Int) + off = (tgt : Int)) (kk : G κ μ d M tgt lv rest k n Q) : G κ μ d M pc lv (.null :: rest) k n Q := by
  intro p l e R s m args below meth c D A H locs cells slots ls C hS hM0 hl
  obtain ⟨hx, hb, hr, hml, hown, hts, hnw, hlk, hnm, hdf, hdl, hkc, hks, hA, hE0⟩ := id C
  exact lv_ifnullN hx hb hd ht (kk p l e R s m args below meth c D A H locs cells slots ls C hS hM0 hl)
theorem g_ifnonnull {x : Nat} {off : Int} {tgt : Nat} (hd : decode μ.2.1 pc = .ok (.ifnonnull off, 3)) (ht : (pc : Int) + off = (tgt : Int)) (kk : G κ μ d M tgt lv rest k n Q) : G κ μ d M pc lv (.ref x :: rest) k n Q := by
  intro p l e R s m args below meth c D A H locs cells slots ls C hS hM0 hl
  obtain ⟨hx, hb, hr, hml, hown, hts, hnw, hlk, hnm, hdf, hdl, hkc, hks, hA, hE0⟩ := id C
  exact lv_ifnonnull hx hb hd ht (kk p l e R s m args below meth c D A H locs cells slots ls C hS hM0 hl)
theorem g_ifnonnullN {off : Int} (hd : decode μ.2.1 pc = .ok (.ifnonnull off, 3)) (kk : G κ μ d M (pc + 3) lv rest k n Q) : G κ μ d M pc lv (.null :: rest) k n Q := by
  intro p l e R s m args below meth c D A H locs cells slots ls C hS hM0 hl
  obtain ⟨hx, hb, hr, hml, hown, hts, hnw, hlk, hnm, hdf, hdl, hkc, hks, hA, hE0⟩ := id C
  exact lv_ifnonnullN hx hb hd (kk p l e R s m args below meth c D A H locs cells slots ls C hS hM0 hl)
theorem g_acmp_eq {x y : Nat} {off : Int} {tgt : Nat} (hd : decode μ.2.1 pc = .ok (.if_acmp .eq off, 3)) (ht : (pc : Int) + off = (tgt : Int)) (kt : x = y → G κ μ d M tgt lv rest k n Q) (kf : ¬ x = y → G κ μ d M (pc + 3) lv rest k n Q) : G κ μ d M pc lv (.ref y :: .ref x :: rest) k n Q := by
  intro p l e R s m args below meth c D A H locs cells slots ls C hS hM0 hl
  obtain ⟨hx, hb, hr, hml, hown, hts, hnw, hlk, hnm, hdf, hdl, hkc, hks, hA, hE0⟩ := id C
  exact lv_acmp_eq (rx := some x) (ry := some y) hx hb hd ht (fun h => kt (Option.some.inj h) p l e R s m args below meth c D A H locs cells slots ls C hS hM0 hl) (fun h => kf (fun q => h (by rw [q])) p l e R s m args below meth c D A H locs cells slots ls C hS hM0 hl)
theorem g_acmp_ne {x y : Nat} {off : Int} {tgt : Nat} (hd : decode μ.2.1 pc = .ok (.if_acmp .ne off, 3)) (ht : (pc : Int) + off = (tgt : Int)) (kt : ¬ x = y → G κ μ d M tgt lv rest k n Q) (kf : x = y → G κ μ d M (pc + 3) lv rest k n Q) : G κ μ d M pc lv (.ref y :: .ref x :: rest) k n Q := by
  intro p l e R s m args below meth c D A H locs cells slots ls C hS hM0 hl
  obtain ⟨hx, hb, hr, hml, hown, hts, hnw, hlk, hnm, hdf, hdl, hkc, hks, hA, hE0⟩ := id C
  exact lv_acmp_ne (rx := some x) (ry := some y) hx hb hd ht (fun h => kt (fun q => h (by rw [q])) p l e R s m args below meth c D A H locs cells slots ls C hS hM0 hl) (fun h => kf (Option.some.inj h) p l e R s m args below meth c D A H locs cells slots ls C hS hM0 hl)
theorem g_idiv {x y : Int32} (hd : decode μ.2.1 pc = .ok (.idiv, 1)) (hne : ¬ y = 0) (kk : G κ μ d M (pc + 1) lv (.int (x / y) :: rest) k n Q) : G κ μ d M pc lv (.int y :: .int x :: rest) k n Q := by
  intro p l e R s m args below meth c D A H locs cells slots ls C hS hM0 hl
  obtain ⟨hx, hb, hr, hml, hown, hts, hnw, hlk, hnm, hdf, hdl, hkc, hks, hA, hE0⟩ := id C
  exact lv_idiv hx hb hd hne (kk p l e R s m args below meth c D A H locs cells slots ls C hS hM0 hl)
theorem g_irem {x y : Int32} (hd : decode μ.2.1 pc = .ok (.irem, 1)) (hne : ¬ y = 0) (kk : G κ μ d M (pc + 1) lv (.int (x - x / y * y) :: rest) k n Q) : G κ μ d M pc lv (.int y :: .int x :: rest) k n Q := by
  intro p l e R s m args below meth c D A H locs cells slots ls C hS hM0 hl
  obtain ⟨hx, hb, hr, hml, hown, hts, hnw, hlk, hnm, hdf, hdl, hkc, hks, hA, hE0⟩ := id C
  exact lv_irem hx hb hd hne (kk p l e R s m args below meth c D A H locs cells slots ls C hS hM0 hl)
theorem g_ldiv {x y : Int64} (hd : decode μ.2.1 pc = .ok (.ldiv, 1)) (hne : ¬ y = 0) (kk : G κ μ d M (pc + 1) lv (.long (x / y) :: rest) k n Q) : G κ μ d M pc lv (.long y :: .long x :: rest) k n Q := by
  intro p l e R s m args below meth c D A H locs cells slots ls C hS hM0 hl
  obtain ⟨hx, hb, hr, hml, hown, hts, hnw, hlk, hnm, hdf, hdl, hkc, hks, hA, hE0⟩ := id C
  exact lv_ldiv hx hb hd hne (kk p l e R s m args below meth c D A H locs cells slots ls C hS hM0 hl)
theorem g_lrem {x y : Int64} (hd : decode μ.2.1 pc = .ok (.lrem, 1)) (hne : ¬ y = 0) (kk : G κ μ d M (pc + 1) lv (.long (x - x / y * y) :: rest) k n Q) : G κ μ d M pc lv (.long y :: .long x :: rest) k n Q := by
  intro p l e R s m args below meth c D A H locs cells slots ls C hS hM0 hl
  obtain ⟨hx, hb, hr, hml, hown, hts, hnw, hlk, hnm, hdf, hdl, hkc, hks, hA, hE0⟩ := id C
  exact lv_lrem hx hb hd hne (kk p l e R s m args below meth c D A H locs cells slots ls C hS hM0 hl)
theorem g_ldc {idx : Nat} {v : Int32} (hw : Cond.constant μ.1.cls idx v ∈ gW) (hd : decode μ.2.1 pc = .ok (.ldc idx, 2)) (kk : G κ μ d M (pc + 2) lv (.int v :: rest) k n Q) : G κ μ d M pc lv rest k n Q := by
  intro p l e R s m args below meth c D A H locs cells slots ls C hS hM0 hl
  obtain ⟨hx, hb, hr, hml, hown, hts, hnw, hlk, hnm, hdf, hdl, hkc, hks, hA, hE0⟩ := id C
  exact lv_ldc hx hb hown (hts _ hw) hd (kk p l e R s m args below meth c D A H locs cells slots ls C hS hM0 hl)
theorem g_ldcw {idx : Nat} {v : Int32} (hw : Cond.constant μ.1.cls idx v ∈ gW) (hd : decode μ.2.1 pc = .ok (.ldc_w idx, 3)) (kk : G κ μ d M (pc + 3) lv (.int v :: rest) k n Q) : G κ μ d M pc lv rest k n Q := by
  intro p l e R s m args below meth c D A H locs cells slots ls C hS hM0 hl
  obtain ⟨hx, hb, hr, hml, hown, hts, hnw, hlk, hnm, hdf, hdl, hkc, hks, hA, hE0⟩ := id C
  exact lv_ldcw hx hb hown (hts _ hw) hd (kk p l e R s m args below meth c D A H locs cells slots ls C hS hM0 hl)
theorem g_ldc2 {idx : Nat} {v : Int64} (hw : Cond.constantLong μ.1.cls idx v ∈ gW) (hd : decode μ.2.1 pc = .ok (.ldc2_w idx, 3)) (kk : G κ μ d M (pc + 3) lv (.long v :: rest) k n Q) : G κ μ d M pc lv rest k n Q := by
  intro p l e R s m args below meth c D A H locs cells slots ls C hS hM0 hl
  obtain ⟨hx, hb, hr, hml, hown, hts, hnw, hlk, hnm, hdf, hdl, hkc, hks, hA, hE0⟩ := id C
  exact lv_ldc2 hx hb hown (hts _ hw) hd (kk p l e R s m args below meth c D A H locs cells slots ls C hS hM0 hl)
theorem g_tableOut {dflt lo hi : Int} {offs : Array Int} {len : Nat} {x : Int32} {tgt : Nat} (hd : decode μ.2.1 pc = .ok (.tableswitch dflt lo hi offs, len)) (h : x.toInt < lo ∨ hi < x.toInt) (ht : (pc : Int) + dflt = (tgt : Int)) (kk : G κ μ d M tgt lv rest k n Q) : G κ μ d M pc lv (.int x :: rest) k n Q := by
  intro p l e R s m args below meth c D A H locs cells slots ls C hS hM0 hl
  obtain ⟨hx, hb, hr, hml, hown, hts, hnw, hlk, hnm, hdf, hdl, hkc, hks, hA, hE0⟩ := id C
  exact lv_tableOut hx hb hd h ht (kk p l e R s m args below meth c D A H locs cells slots ls C hS hM0 hl)
theorem g_tableIn {dflt lo hi : Int} {offs : Array Int} {len : Nat} {x : Int32} {off : Int} {tgt : Nat} (hd : decode μ.2.1 pc = .ok (.tableswitch dflt lo hi offs, len)) (h1 : ¬ x.toInt < lo) (h2 : ¬ hi < x.toInt) (ho : offs[(x.toInt - lo).toNat]? = some off) (ht : (pc : Int) + off = (tgt : Int)) (kk : G κ μ d M tgt lv rest k n Q) : G κ μ d M pc lv (.int x :: rest) k n Q := by
  intro p l e R s m args below meth c D A H locs cells slots ls C hS hM0 hl
  obtain ⟨hx, hb, hr, hml, hown, hts, hnw, hlk, hnm, hdf, hdl, hkc, hks, hA, hE0⟩ := id C
  exact lv_tableIn hx hb hd h1 h2 ho ht (kk p l e R s m args below meth c D A H locs cells slots ls C hS hM0 hl)
/-! fields -/
def CK (q : vw_C) : Prop := (∀ w ∈ u_ws q.1 q.2.1 q.2.2, w ∈ gW) ∧ (∃ ty : Nat → FieldType, ∀ k, k < q.2.2 → parseFieldDescriptor (q.2.1 k).2.2.1 = some (ty k)) ∧ (∀ a, a < q.2.2 → ∀ b, b < q.2.2 → a ≠ b → (q.2.1 a).2.1 ≠ (q.2.1 b).2.1)
def FL (own : String) (idx ci j : Nat) (ty : FieldType) (fin : Bool) : Prop := ∃ (q : vw_C) (ref : String), vwCl[ci]? = some q ∧ CK q ∧ j < q.2.2 ∧ Cond.fieldLink own idx ref (q.2.1 j).2.1 (q.2.1 j).2.2.1 ∈ gW ∧ (ref = (q.2.1 j).1 ∨ Cond.sameField ref (q.2.1 j).1 (q.2.1 j).2.1 (q.2.1 j).2.2.1 ∈ gW) ∧ parseFieldDescriptor (q.2.1 j).2.2.1 = some ty ∧ (q.2.1 j).2.2.2 = fin
def FD (own : String) (ci j : Nat) : Prop := ∃ q : vw_C, vwCl[ci]? = some q ∧ (q.2.1 j).1 = own
def vset {ρ : Type} : List Value → Nat → Value → (List Value → Option ρ) → Option ρ
  | [], _, _, _ => none
  | _ :: l, 0, v, k => k (v :: l)
  | w :: l, n + 1, v, k => vset l n v (fun l' => k (w :: l'))
theorem vset_spec {ρ : Type} {v : Value} {r : ρ} : ∀ (l : List Value) (n : Nat) (k : List Value → Option ρ), vset l n v k = some r → k (l.set n v) = some r ∧ n < l.length := by
  intro l
  induction l with
  | nil => intro n k h; simp [vset] at h
  | cons a l ih =>
    intro n k h
    cases n with
    | zero => exact ⟨h, Nat.succ_pos _⟩
    | succ n =>
      obtain ⟨h1, h2⟩ := ih n _ h
      exact ⟨h1, by simp only [List.length_cons]; omega⟩
theorem g_get {idx ci j a : Nat} {ty : FieldType} {fin : Bool} {fs : List Value} {v : Value} (F : FL μ.1.cls idx ci j ty fin) (hd : decode μ.2.1 pc = .ok (.getfield idx, 3)) (hM : M a = some (eO ci fs)) (hv : fs[j]? = some v) (kk : G κ μ d M (pc + 3) lv (v :: rest) k n Q) : G κ μ d M pc lv (.ref a :: rest) k n Q := by
  intro p l e R s m args below meth c D A H locs cells slots ls C hS hM0 hl
  obtain ⟨hx, hb, hr, hml, hown, hts, hnw, hlk, hnm, hdf, hdl, hkc, hks, hA, hE0⟩ := id C
  obtain ⟨⟨C0, T0, N0⟩, ref, hc, ⟨hin, -, -⟩, hj, hlk2, hsm, -, -⟩ := F
  obtain ⟨ws, tys, bk, hK, hP, hD, hz, hEn⟩ := id hM0
  obtain ⟨q0, h2⟩ := List.getElem?_of_mem (hEn a _ hM)
  refine va_get hx hb hts hin hown hK hP q0 h2 hc j hj (hts _ hlk2) (fun x hxx => ?_) hv hd (kk p l e R s m args below meth c D A H locs cells slots ls C hS hM0 hl)
  rcases hsm with h | h
  · rw [h]; exact hxx
  · exact u_same (hts _ h) x hxx
theorem g_put {idx ci j a : Nat} {ty : FieldType} {fs fs' : List Value} {v : Value} (F : FL μ.1.cls idx ci j ty false) (hd : decode μ.2.1 pc = .ok (.putfield idx, 3)) (hM : M a = some (eO ci fs)) (hv : vset fs j v some = some fs') (hn1 : narrow ty v = v) (hf1 : fits ty v = true) (kk : G κ μ d (up M a (eO ci fs')) (pc + 3) lv rest k n Q) : G κ μ d M pc lv (v :: .ref a :: rest) k n Q := by
  intro p l e R s m args below meth c D A H locs cells slots ls C hS hM0 hl
  obtain ⟨hx, hb, hr, hml, hown, hts, hnw, hlk, hnm, hdf, hdl, hkc, hks, hA, hE0⟩ := id C
  obtain ⟨⟨C0, T0, N0⟩, ref, hc, ⟨hin, ⟨ty0, hty⟩, hnm2⟩, hj, hlk2, hsm, hpt, hfi⟩ := F
  obtain ⟨ws, tys, bk, hK, hP, hD, hz, hEn⟩ := id hM0
  obtain ⟨q0, h2⟩ := List.getElem?_of_mem (hEn a _ hM)
  obtain ⟨hv1, hv2⟩ := vset_spec _ _ _ hv
  have hv3 := Option.some.inj hv1
  subst hv3
  refine va_put hx hb hts hin ty0 hty hnm2 hown hK hP hD hS q0 h2 hc j hj (hts _ hlk2) (fun x hxx => ?_) hfi hpt hn1 hf1 hv2 hd (fun H1 locs1 hP1 hD1 hS1 => ?_)
  · rcases hsm with h | h
    · rw [h]; exact hxx
    · exact u_same (hts _ h) x hxx
  · exact kk p l e R s m args below meth c D A H1 locs1 cells slots ls C hS1 (mm_set hK hD hz hEn h2 hM (fun xs h => by cases h) (mem_self h2) hP1 hD1) hl
theorem g_putF {idx ci j a : Nat} {ty : FieldType} {fs fs' : List Value} {v : Value} (F : FL μ.1.cls idx ci j ty true) (hdc : FD μ.1.cls ci j) (hin2 : μ.1.name = "<init>") (hd : decode μ.2.1 pc = .ok (.putfield idx, 3)) (hM : M a = some (eO ci fs)) (hv : vset fs j v some = some fs') (hn1 : narrow ty v = v) (hf1 : fits ty v = true) (kk : G κ μ d (up M a (eO ci fs')) (pc + 3) lv rest k n Q) : G κ μ d M pc lv (v :: .ref a :: rest) k n Q := by
  intro p l e R s m args below meth c D A H locs cells slots ls C hS hM0 hl
  obtain ⟨hx, hb, hr, hml, hown, hts, hnw, hlk, hnm, hdf, hdl, hkc, hks, hA, hE0⟩ := id C
  obtain ⟨⟨C0, T0, N0⟩, ref, hc, ⟨hin, ⟨ty0, hty⟩, hnm2⟩, hj, hlk2, hsm, hpt, hfi⟩ := F
  obtain ⟨q9, hq9, hdcl⟩ := hdc
  cases hc.symm.trans hq9
  obtain ⟨ws, tys, bk, hK, hP, hD, hz, hEn⟩ := id hM0
  obtain ⟨q0, h2⟩ := List.getElem?_of_mem (hEn a _ hM)
  obtain ⟨hv1, hv2⟩ := vset_spec _ _ _ hv
  have hv3 := Option.some.inj hv1
  subst hv3
  refine va_putF hx hb hts hin ty0 hty hnm2 hown hK hP hD hS q0 h2 hc j hj (hts _ hlk2) (fun x hxx => ?_) hfi (hnm.trans hin2) hdcl hpt hn1 hf1 hv2 hd (fun H1 locs1 hP1 hD1 hS1 => ?_)
  · rcases hsm with h | h
    · rw [h]; exact hxx
    · exact u_same (hts _ h) x hxx
  · exact kk p l e R s m args below meth c D A H1 locs1 cells slots ls C hS1 (mm_set hK hD hz hEn h2 hM (fun xs h => by cases h) (mem_self h2) hP1 hD1) hl
end GR
end
section
section GN
variable {κ : Nat × Nat} {μ ν : MD} {d : Nat} {M : Mm} {pc : Nat} {lv : LV} {st rest : List Value} {k n : Nat} {Q : Option Value → Mm → Prop}
/-! making -/
def NL (own : String) (idx ci : Nat) (fs : List Value) : Prop := ∃ q : vw_C, vwCl[ci]? = some q ∧ (∀ w ∈ u_ws q.1 q.2.1 q.2.2, w ∈ gW) ∧ (∃ ty : Nat → FieldType, (∀ k, k < q.2.2 → parseFieldDescriptor (q.2.1 k).2.2.1 = some (ty k)) ∧ ∀ j, j < q.2.2 → defaultValue (ty j) = vp_V fs j) ∧ Cond.classLink own idx q.1 ∈ gW ∧ Cond.instantiable q.1 q.2.2 ∈ gW ∧ Cond.initialized q.1 ∈ gW ∧ fs.length = q.2.2
theorem g_new {idx ci k' n' : Nat} {fs : List Value} (L : NL μ.1.cls idx ci fs) (hd : decode μ.2.1 pc = .ok (.new idx, 3)) (hk' : k' + 1 ≤ k) (hn' : n' + fs.length ≤ n) (kk : ∀ q, M q = none → q ≠ κ.1 → G κ μ d (up M q (eO ci fs)) (pc + 3) lv (.ref q :: rest) k' n' Q) : G κ μ d M pc lv rest k n Q := by
  intro p l e R s m args below meth c D A H locs cells slots ls C hS hM0 hl
  obtain ⟨hx, hb, hr, hml, hown, hts, hnw, hlk, hnm, hdf, hdl, hkc, hks, hA, hE0⟩ := id C
  obtain ⟨ws, tys, bk, hK, hP, hD, hz, hEn⟩ := id hM0
  obtain ⟨⟨C0, T0, N0⟩, hc, hin, ⟨ty, hty, hdf2⟩, hcl, hins, hini, hlen⟩ := L
  refine va_new hx hb hts hin ty hty hown (hts _ hcl) (hts _ hins) (hts _ hini) hK hP hD hS hA hc hdf2 (by omega) (by have : fs.length = N0 := hlen; omega) hd (fun q H1 hP1 hD1 hS1 => ?_)
  obtain ⟨h1, h2, h3⟩ := mm_new (e' := eO ci fs) hK (fun _ h => h) hz hEn (fun xs h => by cases h) (fun M' => List.mem_append_right _ (List.mem_singleton.mpr rfl)) hP1 hD1
  exact kk q h1 h2 p l e R s m args below meth c D A H1 locs _ _ ls (C.mono (by omega) (by have : fs.length = N0 := hlen; omega)) hS1 h3 hl
theorem g_newI {x : Int32} {N k' n' : Nat} (hw : Cond.arrayClass .int ∈ gW) (hd : decode μ.2.1 pc = .ok (.newarray .int, 2)) (h0 : ¬ x < 0) (hN : x.toNatClampNeg = N) (hbt : N ≤ 100000) (hk' : k' + 1 ≤ k) (hn' : n' + N ≤ n) (kk : ∀ q, M q = none → q ≠ κ.1 → G κ μ d (up M q (aI N (fun _ => 0))) (pc + 2) lv (.ref q :: rest) k' n' Q) : G κ μ d M pc lv (.int x :: rest) k n Q := by
  intro p l e R s m args below meth c D A H locs cells slots ls C hS hM0 hl
  obtain ⟨hx, hb, hr, hml, hown, hts, hnw, hlk, hnm, hdf, hdl, hkc, hks, hA, hE0⟩ := id C
  obtain ⟨ws, tys, bk, hK, hP, hD, hz, hEn⟩ := id hM0
  refine va_newa (atype := .int) hx hb (hts _ hw) rfl hK hP hD hS hA (a0 := (N, .inl (fun _ => 0))) (fun cA => rfl) h0 hN (by show N * 4 ≤ _; omega) (by omega) (by omega) hd (fun q cA H1 hK1 hP1 hD1 hS1 => ?_)
  obtain ⟨h1, h2, h3⟩ := mm_new (e' := aI N (fun _ => 0)) hK1 (fun _ h => List.mem_append_left _ h) hz hEn (fun xs h => by cases h) (fun M' => ⟨cA, List.mem_append_right _ (List.mem_singleton.mpr rfl), List.mem_append_right _ (List.mem_singleton.mpr rfl)⟩) hP1 hD1
  exact kk q h1 h2 p l e R s m args below meth c D A H1 locs _ _ ls (C.mono (by omega) (by omega)) hS1 h3 hl
theorem g_newJ {x : Int32} {N k' n' : Nat} (hw : Cond.arrayClass .long ∈ gW) (hd : decode μ.2.1 pc = .ok (.newarray .long, 2)) (h0 : ¬ x < 0) (hN : x.toNatClampNeg = N) (hbt : N ≤ 100000) (hk' : k' + 1 ≤ k) (hn' : n' + N ≤ n) (kk : ∀ q, M q = none → q ≠ κ.1 → G κ μ d (up M q (aJ N (fun _ => 0))) (pc + 2) lv (.ref q :: rest) k' n' Q) : G κ μ d M pc lv (.int x :: rest) k n Q := by
  intro p l e R s m args below meth c D A H locs cells slots ls C hS hM0 hl
  obtain ⟨hx, hb, hr, hml, hown, hts, hnw, hlk, hnm, hdf, hdl, hkc, hks, hA, hE0⟩ := id C
  obtain ⟨ws, tys, bk, hK, hP, hD, hz, hEn⟩ := id hM0
  refine va_newa (atype := .long) hx hb (hts _ hw) rfl hK hP hD hS hA (a0 := (N, .inr (.inl (fun _ => 0)))) (fun cA => rfl) h0 hN (by show N * 8 ≤ _; omega) (by omega) (by omega) hd (fun q cA H1 hK1 hP1 hD1 hS1 => ?_)
  obtain ⟨h1, h2, h3⟩ := mm_new (e' := aJ N (fun _ => 0)) hK1 (fun _ h => List.mem_append_left _ h) hz hEn (fun xs h => by cases h) (fun M' => ⟨cA, List.mem_append_right _ (List.mem_singleton.mpr rfl), List.mem_append_right _ (List.mem_singleton.mpr rfl)⟩) hP1 hD1
  exact kk q h1 h2 p l e R s m args below meth c D A H1 locs _ _ ls (C.mono (by omega) (by omega)) hS1 h3 hl
theorem g_newR {x : Int32} {idx N k' n' : Nat} {E : String} (hcl : Cond.classLink μ.1.cls idx E ∈ gW) (hw : Cond.arrayOver (.object E) ∈ nW) (hd : decode μ.2.1 pc = .ok (.anewarray idx, 3)) (h0 : ¬ x < 0) (hN : x.toNatClampNeg = N) (hbt : N ≤ 100000) (hk' : k' + 1 ≤ k) (hn' : n' + N ≤ n) (kk : ∀ q, M q = none → q ≠ κ.1 → G κ μ d (up M q (aR E N (fun _ => none))) (pc + 3) lv (.ref q :: rest) k' n' Q) : G κ μ d M pc lv (.int x :: rest) k n Q := by
  intro p l e R s m args below meth c D A H locs cells slots ls C hS hM0 hl
  obtain ⟨hx, hb, hr, hml, hown, hts, hnw, hlk, hnm, hdf, hdl, hkc, hks, hA, hE0⟩ := id C
  obtain ⟨ws, tys, bk, hK, hP, hD, hz, hEn⟩ := id hM0
  refine va_newq hx hb hown (hts _ hcl) (hnw.2 _ hw) hK hP hD hS hA h0 hN (by omega) (by omega) (by omega) hd (fun q cA H1 hK1 hP1 hD1 hS1 => ?_)
  obtain ⟨h1, h2, h3⟩ := mm_new (e' := aR E N (fun _ => none)) hK1 (fun _ h => List.mem_append_left _ h) hz hEn (fun xs h => by cases h) (fun M' => ⟨cA, List.mem_append_right _ (List.mem_singleton.mpr rfl), List.mem_append_right _ (List.mem_singleton.mpr rfl)⟩) hP1 hD1
  exact kk q h1 h2 p l e R s m args below meth c D A H1 locs _ _ ls (C.mono (by omega) (by omega)) hS1 h3 hl
/-! arrays -/
theorem g_alen {a : Nat} {ty : FieldType} {x : vp_A} {v : Int32} (hd : decode μ.2.1 pc = .ok (.arraylength, 1)) (hM : M a = some (eA ty x)) (hv : nI x.1 = v) (kk : G κ μ d M (pc + 1) lv (.int v :: rest) k n Q) : G κ μ d M pc lv (.ref a :: rest) k n Q := by
  intro p l e R s m args below meth c D A H locs cells slots ls C hS hM0 hl
  obtain ⟨hx, hb, hr, hml, hown, hts, hnw, hlk, hnm, hdf, hdl, hkc, hks, hA, hE0⟩ := id C
  obtain ⟨ws, tys, bk, hK, hP, hD, hz, hEn⟩ := id hM0
  obtain ⟨cA, h1, h2⟩ := hEn a _ hM
  obtain ⟨q0, h3⟩ := List.getElem?_of_mem h1
  obtain ⟨t0, h4⟩ := List.getElem?_of_mem h2
  exact va_alen hx hb hK hP q0 t0 h3 h4 hv hd (kk p l e R s m args below meth c D A H locs cells slots ls C hS hM0 hl)
theorem g_alenE (hd : decode μ.2.1 pc = .ok (.arraylength, 1)) (kk : G κ μ d M (pc + 1) lv (.int 0 :: rest) k n Q) : G κ μ d M pc lv (.ref κ.1 :: rest) k n Q := by
  intro p l e R s m args below meth c D A H locs cells slots ls C hS hM0 hl
  obtain ⟨hx, hb, hr, hml, hown, hts, hnw, hlk, hnm, hdf, hdl, hkc, hks, hA, hE0⟩ := id C
  exact va_tlen hx hb hE0.2.1 hS rfl hd (kk p l e R s m args below meth c D A H locs cells slots ls C hS hM0 hl)

theorem g_iald {a N : Nat} {f : Nat → Int32} {i : Int32} (hd : decode μ.2.1 pc = .ok (.iaload, 1)) (hM : M a = some (aI N f)) (hi : vp_in i N) (kk : G κ μ d M (pc + 1) lv (.int (f i.toNatClampNeg) :: rest) k n Q) : G κ μ d M pc lv (.int i :: .ref a :: rest) k n Q := by
  intro p l e R s m args below meth c D A H locs cells slots ls C hS hM0 hl
  obtain ⟨hx, hb, hr, hml, hown, hts, hnw, hlk, hnm, hdf, hdl, hkc, hks, hA, hE0⟩ := id C
  obtain ⟨ws, tys, bk, hK, hP, hD, hz, hEn⟩ := id hM0
  obtain ⟨cA, h1, h2⟩ := hEn a _ hM
  obtain ⟨q0, h3⟩ := List.getElem?_of_mem h1
  obtain ⟨t0, h4⟩ := List.getElem?_of_mem h2
  exact va_iald hx hb hK hP q0 t0 h3 h4 hi hd (kk p l e R s m args below meth c D A H locs cells slots ls C hS hM0 hl)
theorem g_lald {a N : Nat} {f : Nat → Int64} {i : Int32} (hd : decode μ.2.1 pc = .ok (.laload, 1)) (hM : M a = some (aJ N f)) (hi : vp_in i N) (kk : G κ μ d M (pc + 1) lv (.long (f i.toNatClampNeg) :: rest) k n Q) : G κ μ d M pc lv (.int i :: .ref a :: rest) k n Q := by
  intro p l e R s m args below meth c D A H locs cells slots ls C hS hM0 hl
  obtain ⟨hx, hb, hr, hml, hown, hts, hnw, hlk, hnm, hdf, hdl, hkc, hks, hA, hE0⟩ := id C
  obtain ⟨ws, tys, bk, hK, hP, hD, hz, hEn⟩ := id hM0
  obtain ⟨cA, h1, h2⟩ := hEn a _ hM
  obtain ⟨q0, h3⟩ := List.getElem?_of_mem h1
  obtain ⟨t0, h4⟩ := List.getElem?_of_mem h2
  exact va_lald hx hb hK hP q0 t0 h3 h4 hi hd (kk p l e R s m args below meth c D A H locs cells slots ls C hS hM0 hl)
theorem g_aald {a N : Nat} {E : String} {f : Nat → Option Nat} {i : Int32} (hd : decode μ.2.1 pc = .ok (.aaload, 1)) (hM : M a = some (aR E N f)) (hi : vp_in i N) (kk : G κ μ d M (pc + 1) lv (va_rf (f i.toNatClampNeg) :: rest) k n Q) : G κ μ d M pc lv (.int i :: .ref a :: rest) k n Q := by
  intro p l e R s m args below meth c D A H locs cells slots ls C hS hM0 hl
  obtain ⟨hx, hb, hr, hml, hown, hts, hnw, hlk, hnm, hdf, hdl, hkc, hks, hA, hE0⟩ := id C
  obtain ⟨ws, tys, bk, hK, hP, hD, hz, hEn⟩ := id hM0
  obtain ⟨cA, h1, h2⟩ := hEn a _ hM
  obtain ⟨q0, h3⟩ := List.getElem?_of_mem h1
  obtain ⟨t0, h4⟩ := List.getElem?_of_mem h2
  exact va_aldq hx hb hK hP q0 t0 h3 h4 hi hd (kk p l e R s m args below meth c D A H locs cells slots ls C hS hM0 hl)
theorem g_iast {a N : Nat} {f : Nat → Int32} {i : Int32} {x : Int32} (hd : decode μ.2.1 pc = .ok (.iastore, 1)) (hM : M a = some (aI N f)) (hi : vp_in i N)  (kk : G κ μ d (up M a (aI N (upd f i.toNatClampNeg x))) (pc + 1) lv rest k n Q) : G κ μ d M pc lv (.int x :: .int i :: .ref a :: rest) k n Q := by
  intro p l e R s m args below meth c D A H locs cells slots ls C hS hM0 hl
  obtain ⟨hx, hb, hr, hml, hown, hts, hnw, hlk, hnm, hdf, hdl, hkc, hks, hA, hE0⟩ := id C
  obtain ⟨ws, tys, bk, hK, hP, hD, hz, hEn⟩ := id hM0
  obtain ⟨cA, h1, h2⟩ := hEn a _ hM
  obtain ⟨q0, h3⟩ := List.getElem?_of_mem h1
  obtain ⟨t0, h4⟩ := List.getElem?_of_mem h2
  refine va_iast hx hb hK hP hD hS q0 t0 h3 h4 hi hd (fun H1 locs1 hP1 hD1 hS1 => ?_)
  exact kk p l e R s m args below meth c D A H1 locs1 cells slots ls C hS1 (mm_set hK hD hz hEn h3 hM (fun xs h => by cases h) ⟨cA, mem_self h3, h2⟩ hP1 hD1) hl
theorem g_last {a N : Nat} {f : Nat → Int64} {i : Int32} {x : Int64} (hd : decode μ.2.1 pc = .ok (.lastore, 1)) (hM : M a = some (aJ N f)) (hi : vp_in i N)  (kk : G κ μ d (up M a (aJ N (vp_updL f i.toNatClampNeg x))) (pc + 1) lv rest k n Q) : G κ μ d M pc lv (.long x :: .int i :: .ref a :: rest) k n Q := by
  intro p l e R s m args below meth c D A H locs cells slots ls C hS hM0 hl
  obtain ⟨hx, hb, hr, hml, hown, hts, hnw, hlk, hnm, hdf, hdl, hkc, hks, hA, hE0⟩ := id C
  obtain ⟨ws, tys, bk, hK, hP, hD, hz, hEn⟩ := id hM0
  obtain ⟨cA, h1, h2⟩ := hEn a _ hM
  obtain ⟨q0, h3⟩ := List.getElem?_of_mem h1
  obtain ⟨t0, h4⟩ := List.getElem?_of_mem h2
  refine va_last hx hb hK hP hD hS q0 t0 h3 h4 hi hd (fun H1 locs1 hP1 hD1 hS1 => ?_)
  exact kk p l e R s m args below meth c D A H1 locs1 cells slots ls C hS1 (mm_set hK hD hz hEn h3 hM (fun xs h => by cases h) ⟨cA, mem_self h3, h2⟩ hP1 hD1) hl
theorem g_aastN {a N : Nat} {f : Nat → Option Nat} {i : Int32} {E : String} (hd : decode μ.2.1 pc = .ok (.aastore, 1)) (hM : M a = some (aR E N f)) (hi : vp_in i N)  (kk : G κ μ d (up M a (aR E N (va_up f i.toNatClampNeg none))) (pc + 1) lv rest k n Q) : G κ μ d M pc lv (.null :: .int i :: .ref a :: rest) k n Q := by
  intro p l e R s m args below meth c D A H locs cells slots ls C hS hM0 hl
  obtain ⟨hx, hb, hr, hml, hown, hts, hnw, hlk, hnm, hdf, hdl, hkc, hks, hA, hE0⟩ := id C
  obtain ⟨ws, tys, bk, hK, hP, hD, hz, hEn⟩ := id hM0
  obtain ⟨cA, h1, h2⟩ := hEn a _ hM
  obtain ⟨q0, h3⟩ := List.getElem?_of_mem h1
  obtain ⟨t0, h4⟩ := List.getElem?_of_mem h2
  refine va_astqN hx hb hK hP hD hS q0 t0 h3 h4 hi hd (fun H1 locs1 hP1 hD1 hS1 => ?_)
  exact kk p l e R s m args below meth c D A H1 locs1 cells slots ls C hS1 (mm_set hK hD hz hEn h3 hM (fun xs h => by cases h) ⟨cA, mem_self h3, h2⟩ hP1 hD1) hl
/-- v may stand in an array of E: it is an object of a class that the words say is castable -/
def Can (E : String) (M : Mm) (v : Nat) : Prop := ∃ (ci : Nat) (fs : List Value) (q : vw_C), M v = some (eO ci fs) ∧ vwCl[ci]? = some q ∧ Cond.castable q.1 E ∈ nW
theorem Can.any {E : String} {M : Mm} {v : Nat} (h : Can E M v) {D : va_G} {z : Nat} {s : State} {H : Heap} {ws : va_W} {tys : List (ClassId × FieldType)} {bk : Nat → Nat} (hK : va_K D vwCl tys s) (hP : va_P D vwCl ws H) (hEn : ∀ q e, M q = some e → Ent z ws tys M bk q e) (hnw : Nws s) : va_Any E s H v := by
  obtain ⟨ci, fs, q, h1, h2, h3⟩ := h
  obtain ⟨q0, h4⟩ := List.getElem?_of_mem (hEn v _ h1)
  refine va_rAny hK hP h4 h2 (fun comp c0 g1 g2 => ?_)
  obtain ⟨c1, t1, f1, f2, f3⟩ := Cond.castable_spec (va_Nw.use (A := #[]) rfl (hnw.2 _ h3))
  cases g2.symm.trans f1
  cases g1.symm.trans f2
  exact f3
theorem g_aast {a N : Nat} {f : Nat → Option Nat} {i : Int32} {E : String} {v : Nat} (hd : decode μ.2.1 pc = .ok (.aastore, 1)) (hM : M a = some (aR E N f)) (hi : vp_in i N) (hv : Can E M v) (kk : G κ μ d (up M a (aR E N (va_up f i.toNatClampNeg (some v)))) (pc + 1) lv rest k n Q) : G κ μ d M pc lv (.ref v :: .int i :: .ref a :: rest) k n Q := by
  intro p l e R s m args below meth c D A H locs cells slots ls C hS hM0 hl
  obtain ⟨hx, hb, hr, hml, hown, hts, hnw, hlk, hnm, hdf, hdl, hkc, hks, hA, hE0⟩ := id C
  obtain ⟨ws, tys, bk, hK, hP, hD, hz, hEn⟩ := id hM0
  obtain ⟨cA, h1, h2⟩ := hEn a _ hM
  obtain ⟨q0, h3⟩ := List.getElem?_of_mem h1
  obtain ⟨t0, h4⟩ := List.getElem?_of_mem h2
  refine va_astqM hx hb hK hP hD hS q0 t0 h3 h4 (hv.any hK hP hEn hnw) hi hd (fun H1 locs1 hP1 hD1 hS1 => ?_)
  exact kk p l e R s m args below meth c D A H1 locs1 cells slots ls C hS1 (mm_set hK hD hz hEn h3 hM (fun xs h => by cases h) ⟨cA, mem_self h3, h2⟩ hP1 hD1) hl
/-! casts -/
theorem g_castN {idx : Nat} (hd : decode μ.2.1 pc = .ok (.checkcast idx, 3)) (kk : G κ μ d M (pc + 3) lv (.null :: rest) k n Q) : G κ μ d M pc lv (.null :: rest) k n Q := by
  intro p l e R s m args below meth c D A H locs cells slots ls C hS hM0 hl
  obtain ⟨hx, hb, hr, hml, hown, hts, hnw, hlk, hnm, hdf, hdl, hkc, hks, hA, hE0⟩ := id C
  exact lv_castN hx hb hd (kk p l e R s m args below meth c D A H locs cells slots ls C hS hM0 hl)
theorem g_cast {idx a ci : Nat} {fs : List Value} {nm : String} {q : vw_C} (hcl : Cond.classLink μ.1.cls idx nm ∈ gW) (hq : vwCl[ci]? = some q) (hw : Cond.castable q.1 nm ∈ nW) (hd : decode μ.2.1 pc = .ok (.checkcast idx, 3)) (hM : M a = some (eO ci fs)) (kk : G κ μ d M (pc + 3) lv (.ref a :: rest) k n Q) : G κ μ d M pc lv (.ref a :: rest) k n Q := by
  intro p l e R s m args below meth c D A H locs cells slots ls C hS hM0 hl
  obtain ⟨hx, hb, hr, hml, hown, hts, hnw, hlk, hnm, hdf, hdl, hkc, hks, hA, hE0⟩ := id C
  obtain ⟨ws, tys, bk, hK, hP, hD, hz, hEn⟩ := id hM0
  obtain ⟨q0, h2⟩ := List.getElem?_of_mem (hEn a _ hM)
  exact va_castY hx hb hown (hts _ hcl) (hnw.2 _ hw) (va_recv hK hP hq h2) hd (kk p l e R s m args below meth c D A H locs cells slots ls C hS hM0 hl)
/-! returns -/
theorem g_iret {x : Int32} (hret : μ.2.2.2 = some .int) (hd : decode μ.2.1 pc = .ok (.ireturn, 1)) (hq : Q (some (.int x)) M) : G κ μ d M pc lv [.int x] k n Q := by
  intro p l e R s m args below meth c D A H locs cells slots ls C hS hM0 hl
  obtain ⟨hx, hb, hr, hml, hown, hts, hnw, hlk, hnm, hdf, hdl, hkc, hks, hA, hE0⟩ := id C
  refine W.widen (k := R.cells) (n := R.slots) (by omega) (by omega) ?_
  exact W.iret hx hb (hr.trans hret) (fun t ht hW => ⟨⟨_, M, rfl, hq, by rw [ht]; exact hM0.moved hW.alike⟩, hS.F ht⟩) hS.2.2 hd
theorem g_zret {x : Int32} (hret : μ.2.2.2 = some .boolean) (hn0 : narrow .boolean (.int x) = .int x) (hd : decode μ.2.1 pc = .ok (.ireturn, 1)) (hq : Q (some (.int x)) M) : G κ μ d M pc lv [.int x] k n Q := by
  intro p l e R s m args below meth c D A H locs cells slots ls C hS hM0 hl
  obtain ⟨hx, hb, hr, hml, hown, hts, hnw, hlk, hnm, hdf, hdl, hkc, hks, hA, hE0⟩ := id C
  refine W.widen (k := R.cells) (n := R.slots) (by omega) (by omega) ?_
  exact W.zret hx hb (hr.trans hret) hn0 (fun t ht hW => ⟨⟨_, M, rfl, hq, by rw [ht]; exact hM0.moved hW.alike⟩, hS.F ht⟩) hS.2.2 hd
theorem g_lret {x : Int64} (hret : μ.2.2.2 = some .long) (hd : decode μ.2.1 pc = .ok (.lreturn, 1)) (hq : Q (some (.long x)) M) : G κ μ d M pc lv [.long x] k n Q := by
  intro p l e R s m args below meth c D A H locs cells slots ls C hS hM0 hl
  obtain ⟨hx, hb, hr, hml, hown, hts, hnw, hlk, hnm, hdf, hdl, hkc, hks, hA, hE0⟩ := id C
  refine W.widen (k := R.cells) (n := R.slots) (by omega) (by omega) ?_
  exact W.lret hx hb (hr.trans hret) (fun t ht hW => ⟨⟨_, M, rfl, hq, by rw [ht]; exact hM0.moved hW.alike⟩, hS.F ht⟩) hS.2.2 hd
theorem g_vret (hret : μ.2.2.2 = none) (hd : decode μ.2.1 pc = .ok (.return_, 1)) (hq : Q none M) : G κ μ d M pc lv [] k n Q := by
  intro p l e R s m args below meth c D A H locs cells slots ls C hS hM0 hl
  obtain ⟨hx, hb, hr, hml, hown, hts, hnw, hlk, hnm, hdf, hdl, hkc, hks, hA, hE0⟩ := id C
  refine W.widen (k := R.cells) (n := R.slots) (by omega) (by omega) ?_
  exact W.vret hx hb (hr.trans hret) (fun t ht hW => ⟨⟨_, M, rfl, hq, by rw [ht]; exact hM0.moved hW.alike⟩, hS.F ht⟩) hS.2.2 hd
theorem g_aret {a : Nat} {rt : FieldType} (hret : μ.2.2.2 = some rt) (hrt : (∃ n, rt = .object n) ∨ ∃ t, rt = .array t) (hd : decode μ.2.1 pc = .ok (.areturn, 1)) (hq : Q (some (.ref a)) M) : G κ μ d M pc lv [.ref a] k n Q := by
  intro p l e R s m args below meth c D A H locs cells slots ls C hS hM0 hl
  obtain ⟨hx, hb, hr, hml, hown, hts, hnw, hlk, hnm, hdf, hdl, hkc, hks, hA, hE0⟩ := id C
  refine W.widen (k := R.cells) (n := R.slots) (by omega) (by omega) ?_
  exact W.aret hx hb (hr.trans hret) hrt (Or.inr ⟨a, rfl⟩) (fun t ht hW => ⟨⟨_, M, rfl, hq, by rw [ht]; exact hM0.moved hW.alike⟩, hS.F ht⟩) hS.2.2 hd
theorem g_aretN {rt : FieldType} (hret : μ.2.2.2 = some rt) (hrt : (∃ n, rt = .object n) ∨ ∃ t, rt = .array t) (hd : decode μ.2.1 pc = .ok (.areturn, 1)) (hq : Q (some .null) M) : G κ μ d M pc lv [.null] k n Q := by
  intro p l e R s m args below meth c D A H locs cells slots ls C hS hM0 hl
  obtain ⟨hx, hb, hr, hml, hown, hts, hnw, hlk, hnm, hdf, hdl, hkc, hks, hA, hE0⟩ := id C
  refine W.widen (k := R.cells) (n := R.slots) (by omega) (by omega) ?_
  exact W.aret hx hb (hr.trans hret) hrt (Or.inl rfl) (fun t ht hW => ⟨⟨_, M, rfl, hq, by rw [ht]; exact hM0.moved hW.alike⟩, hS.F ht⟩) hS.2.2 hd
theorem g_lcmp {x y : Int64} (hd : decode μ.2.1 pc = .ok (.lcmp, 1)) (kk : G κ μ d M (pc + 1) lv (.int (lg_cmp x y) :: rest) k n Q) : G κ μ d M pc lv (.long y :: .long x :: rest) k n Q := by
  intro p l e R s m args below meth c D A H locs cells slots ls C hS hM0 hl
  obtain ⟨hx, hb, hr, hml, hown, hts, hnw, hlk, hnm, hdf, hdl, hkc, hks, hA, hE0⟩ := id C
  exact W.lcmp hx hb hd (kk p l e R s m args below meth c D A H locs cells slots ls C hS hM0 hl)
theorem g_gets {idx : Nat} (hlk3 : Cond.fieldLink μ.1.cls idx "java/util/ArrayList" "DEFAULTCAPACITY_EMPTY_ELEMENTDATA" "[Ljava/lang/Object;" ∈ gW) (hd : decode μ.2.1 pc = .ok (.getstatic idx, 3)) (kk : G κ μ d M (pc + 3) lv (.ref κ.1 :: rest) k n Q) : G κ μ d M pc lv rest k n Q := by
  intro p l e R s m args below meth c D A H locs cells slots ls C hS hM0 hl
  obtain ⟨hx, hb, hr, hml, hown, hts, hnw, hlk, hnm, hdf, hdl, hkc, hks, hA, hE0⟩ := id C
  exact va_gets hx hb hE0.1 hS hown (hts _ hlk3) (fun _ h => h) hd (kk p l e R s m args below meth c D A H locs cells slots ls C hS hM0 hl)
theorem g_ldcM {idx : Nat} (hcl : Cond.classLink μ.1.cls idx "[Ljava/lang/Object;" ∈ gW) (hd : decode μ.2.1 pc = .ok (.ldc idx, 2)) (kk : G κ μ d M (pc + 2) lv (.ref κ.2 :: rest) k n Q) : G κ μ d M pc lv rest k n Q := by
  intro p l e R s m args below meth c D A H locs cells slots ls C hS hM0 hl
  obtain ⟨hx, hb, hr, hml, hown, hts, hnw, hlk, hnm, hdf, hdl, hkc, hks, hA, hE0⟩ := id C
  exact va_ldcM hx hb hown (hts _ hcl) hE0.2.2 hd (kk p l e R s m args below meth c D A H locs cells slots ls C hS hM0 hl)
/-! calls -/
def ent : List Value → Nat → LV
  | [], n => List.replicate n none
  | _ :: _, 0 => []
  | v :: vs, n + 1 => match v with
    | .long _ => []
    | .double _ => []
    | v => some v :: ent vs n
def tk {ρ : Type} : Nat → List Value → List Value → (List Value → List Value → Option ρ) → Option ρ
  | 0, st, acc, k => k acc st
  | _ + 1, [], _, _ => none
  | n + 1, v :: st, acc, k => tk n st (v :: acc) k
theorem tk_spec {ρ : Type} {r : ρ} {k : List Value → List Value → Option ρ} : ∀ (n : Nat) (st acc : List Value), tk n st acc k = some r → ∃ as rest, st = as.reverse ++ rest ∧ as.length = n ∧ k (as ++ acc) rest = some r := by
  intro n
  induction n with
  | zero => intro st acc h; exact ⟨[], st, rfl, rfl, h⟩
  | succ n ih =>
    intro st acc h
    cases st with
    | nil => simp [tk] at h
    | cons v st =>
      obtain ⟨as, rest, h1, h2, h3⟩ := ih st (v :: acc) h
      refine ⟨as ++ [v], rest, by simp [h1], by simp [h2], by simpa using h3⟩
def c1s (vs : List Value) : Bool := vs.all (fun v => !c2 (some v))
theorem c1s_len : ∀ (vs : List Value), c1s vs = true → (lg_sl vs).length = vs.length ∧ ∀ i, lv_args i vs = (vs.zipIdx i).map (fun q => (q.2, q.1)) := by
  intro vs
  induction vs with
  | nil => intro _; exact ⟨rfl, fun i => rfl⟩
  | cons v vs ih =>
    intro h
    simp only [c1s, List.all_cons, Bool.and_eq_true] at h
    obtain ⟨h1, h2⟩ := ih h.2
    have hc : v.category = 1 := by cases v <;> first | rfl | (simp [c2] at h)
    constructor
    · have he : lg_sl (v :: vs) = Slot.val v :: lg_sl vs := by simp [lg_sl, hc]
      rw [he, List.length_cons, h1, List.length_cons]
    · intro i
      simp [lv_args, hc, h2]
theorem ent_len : ∀ (vs : List Value) (n : Nat), c1s vs = true → vs.length ≤ n → (ent vs n).length = n ∧ ∀ (i : Nat) (v : Value), (ent vs n)[i]? = some (some v) → vs[i]? = some v := by
  intro vs
  induction vs with
  | nil =>
    intro n _ _
    refine ⟨by simp [ent], fun i v h => ?_⟩
    simp only [ent, List.getElem?_replicate] at h
    split at h <;> simp at h
  | cons v vs ih =>
    intro n h hn
    simp only [c1s, List.all_cons, Bool.and_eq_true] at h
    cases n with
    | zero => simp at hn
    | succ n =>
      obtain ⟨h1, h2⟩ := ih n h.2 (by simpa using hn)
      have he : ent (v :: vs) (n + 1) = some v :: ent vs n := by cases v <;> first | rfl | (simp [c2] at h)
      rw [he]
      refine ⟨by simp [h1], fun i w hw => ?_⟩
      cases i with
      | zero => simpa using hw
      | succ i => simpa using h2 i w (by simpa using hw)
theorem lh_ent {vs : List Value} {n : Nat} (h : c1s vs = true) (hn : vs.length ≤ n) : lh ((lg_sl vs ++ List.replicate (n - (lg_sl vs).length) Slot.unset).toArray) n (ent vs n) := by
  obtain ⟨h1, h2⟩ := c1s_len vs h
  obtain ⟨h3, h4⟩ := ent_len vs n h hn
  have hE := lv_entry vs (n := n) (by rw [h1]; exact hn)
  refine ⟨h3, hE.1, hE.2.1, fun i v hv => hE.2.2 (i, v) ?_⟩
  rw [h2 0]
  have h5 := h4 i v hv
  refine List.mem_map.mpr ⟨(v, i), ?_, rfl⟩
  rw [List.mem_iff_getElem?]
  exact ⟨i, by simp [List.getElem?_zipIdx, h5]⟩
def MC (ν : MD) (np : Nat) : Prop := Cond.code ν.1 ν.2.1 ν.2.2.1 ν.2.2.2 ∈ gW ∧ plainName ν.1.cls = true ∧ Cond.initialized ν.1.cls ∈ gW ∧ (ν.1.cls ≠ "java/lang/invoke/MethodHandle" ∧ ν.1.cls ≠ "java/lang/invoke/VarHandle" ∧ (parseMethodDescriptor ν.1.desc).map (fun d => d.parameters.length) = some np) ∧ ν.2.2.1 ≤ 21
abbrev gRm (d k n : Nat) : Room := { frames := d, cells := k, slots := n, locals := d * 40 }
abbrev gWs (ν : MD) : List Cond := Cond.code ν.1 ν.2.1 ν.2.2.1 ν.2.2.2 :: gW
abbrev gPc (κ : Nat × Nat) (D : va_G) (A : Nat → Prop) (M : Mm) (As : List Value) : Array Value → State → Prop := va_Pc As (fun U => mm D A κ.1 M U U.heap ∧ Nws U ∧ (∀ q, U.heap.size ≤ q → A q) ∧ Ez A U κ)
theorem gWs_good {ν : MD} {np : Nat} (h : MC ν np) : GoodIn gW (gWs ν) := fun w hw => by
  rcases List.mem_cons.mp hw with h1 | h1
  · rw [h1]; exact gW_good _ h.1
  · exact gW_good w h1
theorem Ez.moved {A : Nat → Prop} {κ : Nat × Nat} {s U : State} (hv : s.vm.Alike U.vm) (hS : ∀ a : Nat, a < s.heap.size → ¬ A a → U.heap[a]? = s.heap[a]?) (h : Ez A s κ) : Ez A U κ :=
  ⟨(h.1.kept hS).moved hv, (h.2.1.kept hS).moved hv, h.2.2.moved hv⟩
theorem G.met {M : Mm} {As : List Value} {np : Nat} (l : Launch) (D : va_G) (A : Nat → Prop) (hC : MC ν np) (h1 : c1s As = true) (h2 : As.length ≤ ν.2.2.1) (h : G κ ν d M 0 (ent As ν.2.2.1) [] k n Q) : Met l ν.1 (gWs ν) (gRm d k n) (gPc κ D A M As) (Qp Q D A κ.1) k n A := by
  refine Met.ofW (cc := ν.2.1) (maxL := ν.2.2.1) (ret := ν.2.2.2) hC.2.1 rfl ?_
  intro p e s m args below meth c s₁ B hml hv
  obtain ⟨rfl, hM, hnw, hA, hE⟩ := hv
  rw [lg_entry_eq]
  have hts := atoms_spec (ws := gWs ν) B.pre
  exact h p l e (gRm d k n) s m _ below meth c D A s.heap [] 0 0 _ ⟨B.exec, B.bytes, B.returns, hml, findClass_of_methodNamed B.named, fun w hw => hts w (List.mem_cons_of_mem _ hw), hnw, B.notSynchronized, (name_of_methodNamed B.named B.method).1, Nat.le_refl _, Nat.le_refl _, by show 0 + k ≤ k; omega, by show 0 + n ≤ n; omega, hA, hE⟩ va_S.rf hM (lh_ent h1 h2)
theorem gPre {p : Program} {R : Room} {s : State} {m : MethodId} {args : Array Value} {meth : Method} {c : Code} {cells slots : Nat} {D : va_G} {A : Nat → Prop} {H : Heap} {locs : List Loc} {As : List Value} (C : Cx κ μ d k n A p R s m args meth c cells slots) (hS : va_S A s.heap H locs) (hM : mm D A κ.1 M s H) : PreS s H (gPc κ D A M As) As := by
  obtain ⟨hx, hb, hr, hml, hown, hts, hnw, hlk, hnm, hdf, hdl, hkc, hks, hA, hE0⟩ := id C
  refine ⟨fun a U g mk q => ?_, fun U hU hW => ?_⟩
  · obtain ⟨q0, q1, q2, q3, q4⟩ := q
    exact ⟨q0, mm.moved (s := U) (U := U.calling g mk a) (Vm.Alike.refl U.vm) q1, Nws.same (s := U) (U := U.calling g mk a) rfl q2, q3, Ez.moved (s := U) (U := U.calling g mk a) (Vm.Alike.refl U.vm) (fun _ _ _ => rfl) q4⟩
  · refine ⟨rfl, ?_, hnw.moved hW, ?_, ?_⟩
    · rw [hU]; exact hM.moved hW.alike
    · intro q hq
      rw [hU] at hq
      exact hA q (Nat.le_trans hS.1 hq)
    · exact hE0.moved hW.alike (fun a h1 h2 => by rw [hU]; exact hS.2.1 a h1 h2)
theorem g_after {p : Program} {l : Launch} {e : Env} {R : Room} {s : State} {m : MethodId} {args : Array Value} {below : List Frame} {meth : Method} {c : Code} {H : Heap} {locs : List Loc} {cells slots mc ms : Nat} {D : va_G} {A : Nat → Prop} {ls : Array Slot} {a : Array Value} {Q1 : Option Value → Mm → Prop} {k' n' : Nat}
    (hr : va_Run p l e R s m args below meth c H locs cells slots mc ms (F0 m pc ls st) rest (Qp Q1 D A κ.1 a) A) (C : Cx κ μ d k n A p R s m args meth c cells slots) (h1 : mc + k' ≤ k) (h2 : ms + n' ≤ n) (hS : va_S A s.heap H locs) (hl : lh ls μ.2.2.1 lv)
    (kk : ∀ v M', Q1 v M' → G κ μ d M' (pc + 3) lv (v.toList ++ rest) k' n' Q) : W p l e R s m args below meth c H locs cells slots (MQ below (Qp Q D A κ.1) args s R.cells R.slots A) (F0 m pc ls st) := by
  intro T hT X
  obtain ⟨v, st₀, t, T', L, h0, X', hL, e1, e2, ⟨⟨v', M', hv, hp, hm⟩, hz, hk⟩, stp⟩ := hr T hT X
  cases hv
  rw [h0] at hz hk
  have hS' : va_S A s.heap T'.heap (locs ++ L) := ⟨Nat.le_trans hS.1 (by rw [e1]; exact hz), fun q g1 g2 => by rw [e1, hk q (Nat.lt_of_lt_of_le g1 hS.1) g2]; exact hS.2.1 q g1 g2, fun q hq => by
      rcases List.mem_append.mp hq with h | h
      · exact hS.2.2 q h
      · exact hL q h⟩
  have hal : s.vm.Alike t.vm := by rw [← e2]; exact X'.warmed.alike
  obtain ⟨t2, a1, b1⟩ := kk v M' hp p l e R s m args below meth c D A T'.heap (locs ++ L) (cells + mc) (slots + ms) ls (C.mono (by omega) (by omega)) hS' (by rw [e1]; exact hm.moved hal.symm) hl T' rfl X'
  exact ⟨t2, stp t2 a1, b1⟩
/-- a static method of a class of ours -/
def MS (own : String) (idx : Nat) (ν : MD) (np : Nat) : Prop := MC ν np ∧ Cond.methodLink own idx ν.1 ∈ gW ∧ Cond.static ν.1 ∈ gW
theorem g_invS {idx np k1 n1 k2 n2 : Nat} {As : List Value} {Q1 : Option Value → Mm → Prop} (L : MS μ.1.cls idx ν np) (hd : decode μ.2.1 pc = .ok (.invokestatic idx, 3)) (hst : tk np st [] (fun a b => some (a, b)) = some (As, rest)) (hok : c1s As = true ∧ As.length ≤ ν.2.2.1 ∧ (rest.map fun v => v.category).sum ≤ 8)
    (hc : G κ ν d M 0 (ent As ν.2.2.1) [] k1 n1 Q1) (hk : k1 + k2 ≤ k) (hn : n1 + n2 ≤ n) (kk : ∀ v M', Q1 v M' → G κ μ (d + 1) M' (pc + 3) lv (v.toList ++ rest) k2 n2 Q) : G κ μ (d + 1) M pc lv st k n Q := by
  intro p l e R s m args below meth c D A H locs cells slots ls C hS hM0 hl
  obtain ⟨hx, hb, hr, hml, hown, hts, hnw, hlk, hnm, hdf, hdl, hkc, hks, hA, hE0⟩ := id C
  obtain ⟨hC, hl1, hl2⟩ := L
  obtain ⟨as, rest', h1, h2, h3⟩ := tk_spec _ _ _ hst
  rw [List.append_nil] at h3
  cases h3
  have hM := hc.met l D A hC hok.1 hok.2.1
  have hcb : CallB R s args μ.1.cls idx ν.1 ν.2.1 ν.2.2.1 ν.2.2.2 (gWs ν) (gRm d k1 n1) k1 n1 np := callB_of np hts (gWs_good hC) rfl rfl rfl (hts _ hC.2.2.1) (hts _ hl1) hC.2.2.2.1 ⟨hdf, by show 8 + (ν.2.2.1 + 11) + d * 40 ≤ _; have := hC.2.2.2.2; omega⟩
  exact g_after (va_runS ⟨hx, hb, hml, hown, hts⟩ hM ⟨hcb, hts _ hl2⟩ (gPre C hS hM0) rfl h2 hl.2.1 h1 (lv_room hok.2.2) hd ⟨by omega, by omega⟩) C hk hn hS hl kk
/-- an instance method of the receiver's own class, public or private -/
def MV (own : String) (idx ci : Nat) (ν : MD) (np : Nat) : Prop := MC ν np ∧ Cond.methodLink own idx ν.1 ∈ gW ∧ Cond.instanceMethod ν.1 ∈ gW ∧ ∃ q : vw_C, vwCl[ci]? = some q ∧ Cond.selects q.1 ν.1 ν.1 ∈ gW
theorem g_invV {idx np ci b k1 n1 k2 n2 : Nat} {fs As : List Value} {Q1 : Option Value → Mm → Prop} (L : MV μ.1.cls idx ci ν np) (hd : decode μ.2.1 pc = .ok (.invokevirtual idx, 3)) (hst : tk np st [] (fun a b => some (a, b)) = some (As, .ref b :: rest)) (hok : c1s As = true ∧ As.length + 1 ≤ ν.2.2.1 ∧ (rest.map fun v => v.category).sum ≤ 8) (hMb : M b = some (eO ci fs))
    (hc : G κ ν d M 0 (ent (.ref b :: As) ν.2.2.1) [] k1 n1 Q1) (hk : k1 + k2 ≤ k) (hn : n1 + n2 ≤ n) (kk : ∀ v M', Q1 v M' → G κ μ (d + 1) M' (pc + 3) lv (v.toList ++ rest) k2 n2 Q) : G κ μ (d + 1) M pc lv st k n Q := by
  intro p l e R s m args below meth c D A H locs cells slots ls C hS hM0 hl
  obtain ⟨hx, hb, hr, hml, hown, hts, hnw, hlk, hnm, hdf, hdl, hkc, hks, hA, hE0⟩ := id C
  obtain ⟨hC, hl1, hl2, q, hq, hsel⟩ := L
  obtain ⟨as, rest', h1, h2, h3⟩ := tk_spec _ _ _ hst
  rw [List.append_nil] at h3
  cases h3
  have hM := hc.met l D A hC (by simpa [c1s, c2] using hok.1) (by simpa using hok.2.1)
  have hcb : CallB R s args μ.1.cls idx ν.1 ν.2.1 ν.2.2.1 ν.2.2.2 (gWs ν) (gRm d k1 n1) k1 n1 np := callB_of np hts (gWs_good hC) rfl rfl rfl (hts _ hC.2.2.1) (hts _ hl1) hC.2.2.2.1 ⟨hdf, by show 8 + (ν.2.2.1 + 11) + d * 40 ≤ _; have := hC.2.2.2.2; omega⟩
  obtain ⟨ws, tys, bk, hK, hP, hD, hz, hEn⟩ := id hM0
  obtain ⟨q0, g2⟩ := List.getElem?_of_mem (hEn b _ hMb)
  have hpr := gPre (As := .ref b :: As) C hS hM0
  exact g_after (va_runV ⟨hx, hb, hml, hown, hts⟩ hM ⟨hcb, hts _ hl2, hts _ hsel⟩ ⟨hpr.1, va_recv hK hP hq g2, hpr.2⟩ rfl h2 hl.2.1 h1 (lv_room hok.2.2) hd ⟨by omega, by omega⟩) C hk hn hS hl kk
/-- a list's own methods: the receiver is a list of the memory -/
theorem g_invL {idx np b k1 n1 k2 n2 : Nat} {As : List Value} {xs : List Nat} {Q1 : Option Value → Mm → Prop} (L : MV μ.1.cls idx 8 ν np) (hd : decode μ.2.1 pc = .ok (.invokevirtual idx, 3)) (hst : tk np st [] (fun a b => some (a, b)) = some (As, .ref b :: rest)) (hok : c1s As = true ∧ As.length + 1 ≤ ν.2.2.1 ∧ (rest.map fun v => v.category).sum ≤ 8) (hMb : M b = some (eL xs))
    (hc : G κ ν d M 0 (ent (.ref b :: As) ν.2.2.1) [] k1 n1 Q1) (hk : k1 + k2 ≤ k) (hn : n1 + n2 ≤ n) (kk : ∀ v M', Q1 v M' → G κ μ (d + 1) M' (pc + 3) lv (v.toList ++ rest) k2 n2 Q) : G κ μ (d + 1) M pc lv st k n Q := by
  intro p l e R s m args below meth c D A H locs cells slots ls C hS hM0 hl
  obtain ⟨hx, hb, hr, hml, hown, hts, hnw, hlk, hnm, hdf, hdl, hkc, hks, hA, hE0⟩ := id C
  obtain ⟨hC, hl1, hl2, q, hq, hsel⟩ := L
  obtain ⟨as, rest', h1, h2, h3⟩ := tk_spec _ _ _ hst
  rw [List.append_nil] at h3
  cases h3
  have hM := hc.met l D A hC (by simpa [c1s, c2] using hok.1) (by simpa using hok.2.1)
  have hcb : CallB R s args μ.1.cls idx ν.1 ν.2.1 ν.2.2.1 ν.2.2.2 (gWs ν) (gRm d k1 n1) k1 n1 np := callB_of np hts (gWs_good hC) rfl rfl rfl (hts _ hC.2.2.1) (hts _ hl1) hC.2.2.2.1 ⟨hdf, by show 8 + (ν.2.2.1 + 11) + d * 40 ≤ _; have := hC.2.2.2.2; omega⟩
  obtain ⟨ws, tys, bk, hK, hP, hD, hz, hEn⟩ := id hM0
  obtain ⟨⟨mc, hmc⟩, -⟩ := hEn b _ hMb
  obtain ⟨q0, g2⟩ := List.getElem?_of_mem hmc
  have hpr := gPre (As := .ref b :: As) C hS hM0
  exact g_after (va_runV ⟨hx, hb, hml, hown, hts⟩ hM ⟨hcb, hts _ hl2, hts _ hsel⟩ ⟨hpr.1, va_recv hK hP hq g2, hpr.2⟩ rfl h2 hl.2.1 h1 (lv_room hok.2.2) hd ⟨by omega, by omega⟩) C hk hn hS hl kk
/-- a constructor -/
def MI (own : String) (idx : Nat) (ν : MD) (np : Nat) : Prop := MC ν np ∧ Cond.methodLink own idx ν.1 ∈ gW ∧ ν.1.name = "<init>" ∧ Cond.instanceMethod ν.1 ∈ gW ∧ ν.2.2.2 = none
theorem g_invI {idx np b k1 n1 k2 n2 : Nat} {As : List Value} {Q1 : Option Value → Mm → Prop} (L : MI μ.1.cls idx ν np) (hd : decode μ.2.1 pc = .ok (.invokespecial idx, 3)) (hst : tk np st [] (fun a b => some (a, b)) = some (As, .ref b :: rest)) (hok : c1s As = true ∧ As.length + 1 ≤ ν.2.2.1 ∧ (rest.map fun v => v.category).sum ≤ 8)
    (hc : G κ ν d M 0 (ent (.ref b :: As) ν.2.2.1) [] k1 n1 Q1) (hk : k1 + k2 ≤ k) (hn : n1 + n2 ≤ n) (kk : ∀ v M', Q1 v M' → G κ μ (d + 1) M' (pc + 3) lv (v.toList ++ rest) k2 n2 Q) : G κ μ (d + 1) M pc lv st k n Q := by
  intro p l e R s m args below meth c D A H locs cells slots ls C hS hM0 hl
  obtain ⟨hx, hb, hr, hml, hown, hts, hnw, hlk, hnm, hdf, hdl, hkc, hks, hA, hE0⟩ := id C
  obtain ⟨hC, hl1, hy1, hl2, hno⟩ := L
  obtain ⟨as, rest', h1, h2, h3⟩ := tk_spec _ _ _ hst
  rw [List.append_nil] at h3
  cases h3
  have hM := hc.met l D A hC (by simpa [c1s, c2] using hok.1) (by simpa using hok.2.1)
  have hcb : CallB R s args μ.1.cls idx ν.1 ν.2.1 ν.2.2.1 none (gWs ν) (gRm d k1 n1) k1 n1 np := by
    rw [← hno]
    exact callB_of np hts (gWs_good hC) rfl rfl rfl (hts _ hC.2.2.1) (hts _ hl1) hC.2.2.2.1 ⟨hdf, by show 8 + (ν.2.2.1 + 11) + d * 40 ≤ _; have := hC.2.2.2.2; omega⟩
  exact g_after (va_runI ⟨hx, hb, hml, hown, hts⟩ hM ⟨hcb, hy1, hts _ hl2⟩ (gPre C hS hM0) rfl h2 hl.2.1 h1 (lv_room hok.2.2) hd ⟨by omega, by omega⟩) C hk hn hS hl kk
/-- a private constructor of a nest mate -/
def MIN (own : String) (idx : Nat) (ν : MD) (np : Nat) : Prop := MC ν np ∧ (∃ host, Cond.methodLinkNest own idx ν.1 host ∈ nW) ∧ ν.1.name = "<init>" ∧ Cond.instanceMethod ν.1 ∈ gW ∧ ν.2.2.2 = none
theorem g_invIN {idx np b k1 n1 k2 n2 : Nat} {As : List Value} {Q1 : Option Value → Mm → Prop} (L : MIN μ.1.cls idx ν np) (hd : decode μ.2.1 pc = .ok (.invokespecial idx, 3)) (hst : tk np st [] (fun a b => some (a, b)) = some (As, .ref b :: rest)) (hok : c1s As = true ∧ As.length + 1 ≤ ν.2.2.1 ∧ (rest.map fun v => v.category).sum ≤ 8)
    (hc : G κ ν d M 0 (ent (.ref b :: As) ν.2.2.1) [] k1 n1 Q1) (hk : k1 + k2 ≤ k) (hn : n1 + n2 ≤ n) (kk : ∀ v M', Q1 v M' → G κ μ (d + 1) M' (pc + 3) lv (v.toList ++ rest) k2 n2 Q) : G κ μ (d + 1) M pc lv st k n Q := by
  intro p l e R s m args below meth c D A H locs cells slots ls C hS hM0 hl
  obtain ⟨hx, hb, hr, hml, hown, hts, hnw, hlk, hnm, hdf, hdl, hkc, hks, hA, hE0⟩ := id C
  obtain ⟨hC, ⟨host, hl1⟩, hy1, hl2, hno⟩ := L
  obtain ⟨as, rest', h1, h2, h3⟩ := tk_spec _ _ _ hst
  rw [List.append_nil] at h3
  cases h3
  have hM := hc.met l D A hC (by simpa [c1s, c2] using hok.1) (by simpa using hok.2.1)
  have hcb : va_CN R s args μ.1.cls idx ν.1 host ν.2.1 ν.2.2.1 none (gWs ν) (gRm d k1 n1) k1 n1 np := by
    rw [← hno]
    exact va_cnB np hts (gWs_good hC) rfl rfl rfl (hnw.2 _ hl1) (hts _ hC.2.2.1) hC.2.2.2.1 ⟨hdf, by show 8 + (ν.2.2.1 + 11) + d * 40 ≤ _; have := hC.2.2.2.2; omega⟩
  exact g_after (va_runIN ⟨hx, hb, hml, hown, hts⟩ hM ⟨hcb, hy1, hts _ hl2⟩ (gPre C hS hM0) rfl h2 hl.2.1 h1 (lv_room hok.2.2) hd ⟨by omega, by omega⟩) C hk hn hS hl kk
theorem g_objInit {idx a : Nat} (hl1 : Cond.methodLink μ.1.cls idx Lib.objectInit ∈ gW) (hl2 : Cond.instanceMethod Lib.objectInit ∈ gW) (hl3 : Cond.code Lib.objectInit ⟨#[0xb1]⟩ 1 none ∈ gW) (hd : decode μ.2.1 pc = .ok (.invokespecial idx, 3)) (hsm : (rest.map fun v => v.category).sum ≤ 8) (kk : G κ μ (d + 1) M (pc + 3) lv rest k n Q) : G κ μ (d + 1) M pc lv (.ref a :: rest) k n Q := by
  intro p l e R s m args below meth c D A H locs cells slots ls C hS hM0 hl
  obtain ⟨hx, hb, hr, hml, hown, hts, hnw, hlk, hnm, hdf, hdl, hkc, hks, hA, hE0⟩ := id C
  refine W.objInit hx hb hown (hts _ hl1) (hts _ hl2) (hts _ hl3) rfl (by rw [hml]; exact hl.2.1) rfl hd (by omega) ?_ ?_
  · have := lv_room (m := m) (pc := pc) (ls := ls) (rest := .ref a :: rest) hsm
    omega
  · exact kk p l e R s m args below meth c D A H locs cells slots ls C hS hM0 hl
end GN
end
section
section GL
variable {κ : Nat × Nat} {μ ν : MD} {d : Nat} {M : Mm} {pc : Nat} {lv : LV} {st rest : List Value} {k n : Nat} {Q : Option Value → Mm → Prop}
theorem mem_A {A : Nat → Prop} {ws : va_W} {q : Nat} {e : va_E} (hD : va_D A ws) (h : (q, e) ∈ ws) : A q := by
  obtain ⟨i, hi⟩ := List.getElem?_of_mem h
  exact hD.2 i _ hi
theorem mem_one {A : Nat → Prop} {ws : va_W} {q : Nat} {e e' : va_E} (hD : va_D A ws) (h : (q, e) ∈ ws) (h' : (q, e') ∈ ws) : e = e' := by
  obtain ⟨i, hi⟩ := List.getElem?_of_mem h
  obtain ⟨j, hj⟩ := List.getElem?_of_mem h'
  have := hD.1 i j _ _ hi hj rfl
  subst this
  rw [hi] at hj
  exact congrArg Prod.snd (Option.some.inj hj)
/-- a list is looked into: its cell, and what holds its elements -/
theorem g_open {a : Nat} {xs : List Nat} (hM : M a = some (eL xs)) (k1 : ∀ mc : Int32, xs = [] → G κ μ d (up M a (eO 8 [.int mc, .ref κ.1, .int (nI xs.length)])) pc lv st k n Q)
    (k2 : ∀ (mc : Int32) (b cap : Nat) (f : Nat → Option Nat), M b = none → b ≠ a → b ≠ κ.1 → xs.length ≤ cap → cap ≤ 100000 → (∀ i, i < xs.length → f i = xs[i]?) → G κ μ d (up (up M a (eO 8 [.int mc, .ref b, .int (nI xs.length)])) b (aR sOb cap f)) pc lv st k n Q) : G κ μ d M pc lv st k n Q := by
  intro p l e R s m args below meth c D A H locs cells slots ls C hS hM0 hl
  obtain ⟨hx, hb, hr, hml, hown, hts, hnw, hlk, hnm, hdf, hdl, hkc, hks, hA, hE0⟩ := id C
  obtain ⟨ws, tys, bk, hK, hP, hD, hz, hEn⟩ := id hM0
  obtain ⟨⟨mc, h1⟩, h2⟩ := hEn a _ hM
  have haz : a ≠ κ.1 := fun x => hz (by rw [← x]; exact mem_A hD h1)
  have hMn : M a ≠ none := by rw [hM]; exact fun h => by cases h
  have step1 : ∀ (e1 : Value) (q : Nat) (e : EE), q ≠ a → M q = some e → Ent κ.1 ws tys (up M a (eO 8 [.int mc, e1, .int (nI xs.length)])) bk q e := by
    intro e1 q e hq h
    refine (hEn q e h).keep a (fun _ _ h _ => h) (fun _ h => h) hq (fun ys he => ?_) (fun _ h => up_n h) (fun ys hx => ?_)
    · subst he
      exact (hEn q _ h).lists haz hMn
    · rw [up_s] at hx
      cases hx
  rcases h2 with ⟨hbz, hnil⟩ | ⟨g1, g2, g3, cA, cap, f, g4, g5, g6, g7⟩
  · refine k1 mc hnil p l e R s m args below meth c D A H locs cells slots ls C hS ⟨ws, tys, bk, hK, hP, hD, hz, fun q e h => ?_⟩ hl
    by_cases hq : q = a
    · subst hq
      rw [up_s] at h
      cases h
      rw [hbz] at h1
      exact h1
    · rw [up_n hq] at h
      exact step1 _ q e hq h
  · have hba : bk a ≠ a := fun x => hMn (by rw [← x]; exact g2)
    refine k2 mc (bk a) cap f g2 hba g1 g6 g7.1 g7.2 p l e R s m args below meth c D A H locs cells slots ls C hS ⟨ws, tys, bk, hK, hP, hD, hz, fun q e h => ?_⟩ hl
    by_cases hqb : q = bk a
    · rw [hqb, up_s] at h
      cases h
      rw [hqb]
      exact ⟨cA, g4, g5⟩
    · rw [up_n hqb] at h
      by_cases hq : q = a
      · subst hq
        rw [up_s] at h
        cases h
        exact h1
      · rw [up_n hq] at h
        refine (step1 (.ref (bk a)) q e hq h).keep (bk a) (fun _ _ h _ => h) (fun _ h => h) hqb (fun ys he => ?_) (fun _ h => up_n h) (fun ys hx => ?_)
        · subst he
          exact fun x => hq (g3 q ys h x)
        · rw [up_s] at hx
          cases hx
/-- a list that is new -/
theorem g_closeE {a : Nat} {mc : Int32} (M' : Mm) (hM : M a = some (eO 8 [.int mc, .ref κ.1, .int 0])) (hM' : ∀ q, M' q = if q = a then some (eL []) else M q) (kk : G κ μ d M' pc lv st k n Q) : G κ μ d M pc lv st k n Q := by
  intro p l e R s m args below meth c D A H locs cells slots ls C hS hM0 hl
  obtain ⟨hx, hb, hr, hml, hown, hts, hnw, hlk, hnm, hdf, hdl, hkc, hks, hA, hE0⟩ := id C
  obtain ⟨ws, tys, bk, hK, hP, hD, hz, hEn⟩ := id hM0
  refine kk p l e R s m args below meth c D A H locs cells slots ls C hS ⟨ws, tys, va_up bk a κ.1, hK, hP, hD, hz, fun q e h => ?_⟩ hl
  have ha := hEn a _ hM
  have haz : a ≠ κ.1 := fun x => hz (by rw [← x]; exact mem_A hD ha)
  rw [hM'] at h
  by_cases hq : q = a
  · rw [if_pos hq] at h
    cases h
    subst hq
    exact ⟨⟨mc, by rw [va_up_self]; exact ha⟩, Or.inl ⟨va_up_self _ _ _, rfl⟩⟩
  · rw [if_neg hq] at h
    have h0 := hEn q e h
    match e, h, h0 with
    | .inl o, h, h0 => exact h0
    | .inr (.inl x), h, h0 => exact h0
    | .inr (.inr ys), h, ⟨⟨mc2, g0⟩, h2⟩ =>
      have hka := (hEn q _ h).lists haz (by rw [hM]; exact fun h => by cases h)
      refine ⟨⟨mc2, by rw [va_up_ne _ _ hq]; exact g0⟩, ?_⟩
      rw [va_up_ne _ _ hq]
      rcases h2 with h2 | ⟨g1, g2, g3, cA2, cap2, f2, g4, g5, g6, g7⟩
      · exact Or.inl h2
      · refine Or.inr ⟨g1, by rw [hM', if_neg hka]; exact g2, fun q' xs' h3 h4 => ?_, cA2, cap2, f2, g4, g5, g6, g7⟩
        by_cases hq' : q' = a
        · rw [hq', va_up_self] at h4
          exact absurd h4.symm g1
        · rw [va_up_ne _ _ hq'] at h4
          rw [hM', if_neg hq'] at h3
          exact g3 q' xs' h3 h4
theorem g_acopy {idx a b na nb : Nat} {f g : Nat → Option Nat} {sp dp nn : Int32} {E0 E1 : String} (hl1 : Cond.methodLink μ.1.cls idx arraycopyName ∈ gW) (hl2 : Cond.native arraycopyName ∈ gW) (hl3 : Cond.static arraycopyName ∈ gW) (hl4 : Cond.initialized "java/lang/System" ∈ gW) (hd : decode μ.2.1 pc = .ok (.invokestatic idx, 3))
    (hMa : M a = some (aR E0 na f)) (hMb : M b = some (aR E1 nb g)) (h1 : ¬ sp < 0) (h2 : ¬ dp < 0) (h3 : ¬ nn < 0) (h4 : sp.toNatClampNeg + nn.toNatClampNeg ≤ na) (h5 : dp.toNatClampNeg + nn.toNatClampNeg ≤ nb) (hel : ∀ i : Nat, i < nn.toNatClampNeg → ∀ y : Nat, f (sp.toNatClampNeg + i) = some y → Can E1 M y)
    (hsm : (rest.map fun v => v.category).sum ≤ 8) (kk : G κ μ (d + 1) (up M b (aR E1 nb (va_cpy f g sp.toNatClampNeg dp.toNatClampNeg nn.toNatClampNeg))) (pc + 3) lv rest k n Q) : G κ μ (d + 1) M pc lv (.int nn :: .int dp :: .ref b :: .int sp :: .ref a :: rest) k n Q := by
  intro p l e R s m args below meth c D A H locs cells slots ls C hS hM0 hl
  obtain ⟨hx, hb, hr, hml, hown, hts, hnw, hlk, hnm, hdf, hdl, hkc, hks, hA, hE0⟩ := id C
  obtain ⟨ws, tys, bk, hK, hP, hD, hz, hEn⟩ := id hM0
  obtain ⟨cA, a1, a2⟩ := hEn a _ hMa
  obtain ⟨cB, b1, b2⟩ := hEn b _ hMb
  obtain ⟨q0, a3⟩ := List.getElem?_of_mem a1
  obtain ⟨t0, a4⟩ := List.getElem?_of_mem a2
  obtain ⟨q1, b3⟩ := List.getElem?_of_mem b1
  obtain ⟨t1, b4⟩ := List.getElem?_of_mem b2
  have hw : nativeFrameWords "java/lang/System" "arraycopy" 5 = 7 := by decide
  refine va_copyM hx hb (by rw [hml]; exact hl.2.1.symm) hown (hts _ hl1) (hts _ hl2) (hts _ hl3) (hts _ hl4) hK hP hD hS q0 q1 t0 t1 a3 b3 a4 b4 h1 h2 h3 h4 h5 (fun i hi y hy => (hel i hi y hy).any hK hP hEn hnw) (by omega) (by rw [hw]; omega) hd (fun H1 locs1 hP1 hD1 hS1 => ?_)
  exact kk p l e R s m args below meth c D A H1 locs1 cells slots ls C hS1 (mm_set hK hD hz hEn b3 hMb (fun xs h => by cases h) ⟨cB, mem_self b3, b2⟩ hP1 hD1) hl
theorem g_mmax {idx : Nat} {x y : Int32} (hl1 : Cond.methodLink μ.1.cls idx Lib.Math.max.name ∈ gW) (hl2 : Cond.static Lib.Math.max.name ∈ gW) (hl3 : Cond.initialized "java/lang/Math" ∈ gW) (hl4 : Cond.code Lib.Math.max.name Lib.Math.max.code 2 (some .int) ∈ gW) (hd : decode μ.2.1 pc = .ok (.invokestatic idx, 3)) (hsm : (rest.map fun v => v.category).sum ≤ 8) (kk : G κ μ (d + 1) M (pc + 3) lv (.int (if x < y then y else x) :: rest) k n Q) : G κ μ (d + 1) M pc lv (.int y :: .int x :: rest) k n Q := by
  intro p l e R s m args below meth c D A H locs cells slots ls C hS hM0 hl
  obtain ⟨hx, hb, hr, hml, hown, hts, hnw, hlk, hnm, hdf, hdl, hkc, hks, hA, hE0⟩ := id C
  exact va_mmax hx hb (by rw [hml]; exact hl.2.1.symm) hown (hts _ hl1) (hts _ hl2) (hts _ hl3) (hts _ hl4) (by omega) (by omega) (by omega) (by omega) hd (kk p l e R s m args below meth c D A H locs cells slots ls C hS hM0 hl)
theorem g_mmin {idx : Nat} {x y : Int32} (hl1 : Cond.methodLink μ.1.cls idx Lib.Math.min.name ∈ gW) (hl2 : Cond.static Lib.Math.min.name ∈ gW) (hl3 : Cond.initialized "java/lang/Math" ∈ gW) (hl4 : Cond.code Lib.Math.min.name Lib.Math.min.code 2 (some .int) ∈ gW) (hd : decode μ.2.1 pc = .ok (.invokestatic idx, 3)) (hsm : (rest.map fun v => v.category).sum ≤ 8) (kk : G κ μ (d + 1) M (pc + 3) lv (.int (if y < x then y else x) :: rest) k n Q) : G κ μ (d + 1) M pc lv (.int y :: .int x :: rest) k n Q := by
  intro p l e R s m args below meth c D A H locs cells slots ls C hS hM0 hl
  obtain ⟨hx, hb, hr, hml, hown, hts, hnw, hlk, hnm, hdf, hdl, hkc, hks, hA, hE0⟩ := id C
  exact va_mmin hx hb (by rw [hml]; exact hl.2.1.symm) hown (hts _ hl1) (hts _ hl2) (hts _ hl3) (hts _ hl4) (by omega) (by omega) (by omega) (by omega) hd (kk p l e R s m args below meth c D A H locs cells slots ls C hS hM0 hl)
theorem g_getC {idx a N : Nat} {f : Nat → Option Nat} (hl1 : Cond.methodLink μ.1.cls idx ⟨"java/lang/Object", "getClass", "()Ljava/lang/Class;"⟩ ∈ gW) (hl2 : Cond.selects "[Ljava/lang/Object;" ⟨"java/lang/Object", "getClass", "()Ljava/lang/Class;"⟩ ⟨"java/lang/Object", "getClass", "()Ljava/lang/Class;"⟩ ∈ gW) (hl3 : Cond.instanceMethod ⟨"java/lang/Object", "getClass", "()Ljava/lang/Class;"⟩ ∈ gW) (hl4 : Cond.native ⟨"java/lang/Object", "getClass", "()Ljava/lang/Class;"⟩ ∈ gW)
    (hd : decode μ.2.1 pc = .ok (.invokevirtual idx, 3)) (hM : M a = some (aR sOb N f)) (hsm : (rest.map fun v => v.category).sum ≤ 8) (kk : G κ μ (d + 1) M (pc + 3) lv (.ref κ.2 :: rest) k n Q) : G κ μ (d + 1) M pc lv (.ref a :: rest) k n Q := by
  intro p l e R s m args below meth c D A H locs cells slots ls C hS hM0 hl
  obtain ⟨hx, hb, hr, hml, hown, hts, hnw, hlk, hnm, hdf, hdl, hkc, hks, hA, hE0⟩ := id C
  obtain ⟨ws, tys, bk, hK, hP, hD, hz, hEn⟩ := id hM0
  obtain ⟨cA, a1, a2⟩ := hEn a _ hM
  obtain ⟨q0, a3⟩ := List.getElem?_of_mem a1
  obtain ⟨t0, a4⟩ := List.getElem?_of_mem a2
  exact va_getC hx hb (by rw [hml]; exact hl.2.1.symm) hown (hts _ hl1) (va_Dc.use hnw.1) (hts _ hl2) (hts _ hl3) (hts _ hl4) hE0.2.2 ⟨_, hP q0 _ a3, rfl, va_nmO (hK.2 t0 _ a4).2 rfl⟩ (by omega) (by omega) hd (kk p l e R s m args below meth c D A H locs cells slots ls C hS hM0 hl)
end GL
end
section
theorem ck_LH : CK ("LeaseHouse", F_LH, 7) := ⟨by decide +kernel, ⟨t_LH, by decide +kernel⟩, by decide +kernel⟩
theorem ck_Thing : CK ("LeaseHouse$Thing", F_Thing, 6) := ⟨by decide +kernel, ⟨t_Thing, by decide +kernel⟩, by decide +kernel⟩
theorem ck_Waiter : CK ("LeaseHouse$Waiter", F_Waiter, 3) := ⟨by decide +kernel, ⟨t_Waiter, by decide +kernel⟩, by decide +kernel⟩
theorem ck_Job : CK ("LeaseHouse$Job", F_Job, 3) := ⟨by decide +kernel, ⟨t_Job, by decide +kernel⟩, by decide +kernel⟩
theorem ck_Cached : CK ("LeaseHouse$Cached", F_Cached, 2) := ⟨by decide +kernel, ⟨t_Cached, by decide +kernel⟩, by decide +kernel⟩
theorem ck_Note : CK ("LeaseHouse$Note", F_Note, 2) := ⟨by decide +kernel, ⟨t_Note, by decide +kernel⟩, by decide +kernel⟩
theorem ck_NoteBox : CK ("LeaseHouse$NoteBox", F_NoteBox, 1) := ⟨by decide +kernel, ⟨t_NoteBox, by decide +kernel⟩, by decide +kernel⟩
theorem ck_WaitTimes : CK ("LeaseHouse$WaitTimes", F_WaitTimes, 2) := ⟨by decide +kernel, ⟨t_WaitTimes, by decide +kernel⟩, by decide +kernel⟩
theorem ck_AL : CK ("java/util/ArrayList", F_AL, 3) := ⟨by decide +kernel, ⟨t_AL, by decide +kernel⟩, by decide +kernel⟩
theorem ck_Mo : CK ("LeaseHouseModel", F_Mo, 27) := ⟨by decide +kernel, ⟨t_Mo, by decide +kernel⟩, by decide +kernel⟩
theorem fs_AL_39 : Cond.fieldLink "java/util/ArrayList" 39 "java/util/ArrayList" "DEFAULTCAPACITY_EMPTY_ELEMENTDATA" "[Ljava/lang/Object;" ∈ gW := (gW_of (List.mem_of_getElem? (i := 73) (by decide +kernel)) (by decide +kernel))
theorem f_AL_9 : FL "java/util/ArrayList" 9 8 1 (.array (.object "java/lang/Object")) false := ⟨("java/util/ArrayList", F_AL, 3), "java/util/ArrayList", rfl, ck_AL, by decide, (gW_of (List.mem_of_getElem? (i := 75) (by decide +kernel)) (by decide +kernel)), Or.inl rfl, by decide +kernel, rfl⟩
theorem f_AL_48 : FL "java/util/ArrayList" 48 8 2 (.int) false := ⟨("java/util/ArrayList", F_AL, 3), "java/util/ArrayList", rfl, ck_AL, by decide, (gW_of (List.mem_of_getElem? (i := 76) (by decide +kernel)) (by decide +kernel)), Or.inl rfl, by decide +kernel, rfl⟩
theorem f_AbL_7 : FL "java/util/AbstractList" 7 8 0 (.int) false := ⟨("java/util/ArrayList", F_AL, 3), "java/util/AbstractList", rfl, ck_AL, by decide, (gW_of (List.mem_of_getElem? (i := 77) (by decide +kernel)) (by decide +kernel)), Or.inl rfl, by decide +kernel, rfl⟩
theorem f_AL_63 : FL "java/util/ArrayList" 63 8 0 (.int) false := ⟨("java/util/ArrayList", F_AL, 3), "java/util/ArrayList", rfl, ck_AL, by decide, (gW_of (List.mem_of_getElem? (i := 78) (by decide +kernel)) (by decide +kernel)), Or.inr (gW_of (List.mem_of_getElem? (i := 79) (by decide +kernel)) (by decide +kernel)), by decide +kernel, rfl⟩
theorem f_WaitTimes_9 : FL "LeaseHouse$WaitTimes" 9 7 0 (.array (.int)) true := ⟨("LeaseHouse$WaitTimes", F_WaitTimes, 2), "LeaseHouse$WaitTimes", rfl, ck_WaitTimes, by decide, (gW_of (List.mem_of_getElem? (i := 95) (by decide +kernel)) (by decide +kernel)), Or.inl rfl, by decide +kernel, rfl⟩
theorem f_WaitTimes_15 : FL "LeaseHouse$WaitTimes" 15 7 1 (.int) false := ⟨("LeaseHouse$WaitTimes", F_WaitTimes, 2), "LeaseHouse$WaitTimes", rfl, ck_WaitTimes, by decide, (gW_of (List.mem_of_getElem? (i := 96) (by decide +kernel)) (by decide +kernel)), Or.inl rfl, by decide +kernel, rfl⟩
theorem f_NoteBox_12 : FL "LeaseHouse$NoteBox" 12 6 0 (.object "java/util/ArrayList") true := ⟨("LeaseHouse$NoteBox", F_NoteBox, 1), "LeaseHouse$NoteBox", rfl, ck_NoteBox, by decide, (gW_of (List.mem_of_getElem? (i := 110) (by decide +kernel)) (by decide +kernel)), Or.inl rfl, by decide +kernel, rfl⟩
theorem f_LH_10 : FL "LeaseHouse" 10 0 0 (.object "java/util/ArrayList") true := ⟨("LeaseHouse", F_LH, 7), "LeaseHouse", rfl, ck_LH, by decide, (gW_of (List.mem_of_getElem? (i := 114) (by decide +kernel)) (by decide +kernel)), Or.inl rfl, by decide +kernel, rfl⟩
theorem f_LH_16 : FL "LeaseHouse" 16 0 1 (.object "java/util/ArrayList") true := ⟨("LeaseHouse", F_LH, 7), "LeaseHouse", rfl, ck_LH, by decide, (gW_of (List.mem_of_getElem? (i := 115) (by decide +kernel)) (by decide +kernel)), Or.inl rfl, by decide +kernel, rfl⟩
theorem f_LH_19 : FL "LeaseHouse" 19 0 2 (.object "java/util/ArrayList") true := ⟨("LeaseHouse", F_LH, 7), "LeaseHouse", rfl, ck_LH, by decide, (gW_of (List.mem_of_getElem? (i := 116) (by decide +kernel)) (by decide +kernel)), Or.inl rfl, by decide +kernel, rfl⟩
theorem f_LH_24 : FL "LeaseHouse" 24 0 3 (.array (.object "LeaseHouse$NoteBox")) true := ⟨("LeaseHouse", F_LH, 7), "LeaseHouse", rfl, ck_LH, by decide, (gW_of (List.mem_of_getElem? (i := 117) (by decide +kernel)) (by decide +kernel)), Or.inl rfl, by decide +kernel, rfl⟩
theorem f_LH_31 : FL "LeaseHouse" 31 0 4 (.object "LeaseHouse$WaitTimes") true := ⟨("LeaseHouse", F_LH, 7), "LeaseHouse", rfl, ck_LH, by decide, (gW_of (List.mem_of_getElem? (i := 118) (by decide +kernel)) (by decide +kernel)), Or.inl rfl, by decide +kernel, rfl⟩
theorem f_LH_35 : FL "LeaseHouse" 35 0 5 (.int) false := ⟨("LeaseHouse", F_LH, 7), "LeaseHouse", rfl, ck_LH, by decide, (gW_of (List.mem_of_getElem? (i := 119) (by decide +kernel)) (by decide +kernel)), Or.inl rfl, by decide +kernel, rfl⟩
theorem f_LH_39 : FL "LeaseHouse" 39 0 6 (.int) false := ⟨("LeaseHouse", F_LH, 7), "LeaseHouse", rfl, ck_LH, by decide, (gW_of (List.mem_of_getElem? (i := 120) (by decide +kernel)) (by decide +kernel)), Or.inl rfl, by decide +kernel, rfl⟩
theorem f_Thing_31 : FL "LeaseHouse$Thing" 31 1 0 (.int) true := ⟨("LeaseHouse$Thing", F_Thing, 6), "LeaseHouse$Thing", rfl, ck_Thing, by decide, (gW_of (List.mem_of_getElem? (i := 198) (by decide +kernel)) (by decide +kernel)), Or.inl rfl, by decide +kernel, rfl⟩
theorem f_LH_114 : FL "LeaseHouse" 114 1 0 (.int) true := ⟨("LeaseHouse$Thing", F_Thing, 6), "LeaseHouse$Thing", rfl, ck_Thing, by decide, (gW_of (List.mem_of_getElem? (i := 199) (by decide +kernel)) (by decide +kernel)), Or.inl rfl, by decide +kernel, rfl⟩
theorem f_Thing_12 : FL "LeaseHouse$Thing" 12 1 1 (.object "java/util/ArrayList") true := ⟨("LeaseHouse$Thing", F_Thing, 6), "LeaseHouse$Thing", rfl, ck_Thing, by decide, (gW_of (List.mem_of_getElem? (i := 200) (by decide +kernel)) (by decide +kernel)), Or.inl rfl, by decide +kernel, rfl⟩
theorem f_LH_91 : FL "LeaseHouse" 91 1 1 (.object "java/util/ArrayList") true := ⟨("LeaseHouse$Thing", F_Thing, 6), "LeaseHouse$Thing", rfl, ck_Thing, by decide, (gW_of (List.mem_of_getElem? (i := 201) (by decide +kernel)) (by decide +kernel)), Or.inl rfl, by decide +kernel, rfl⟩
theorem f_Thing_18 : FL "LeaseHouse$Thing" 18 1 2 (.int) false := ⟨("LeaseHouse$Thing", F_Thing, 6), "LeaseHouse$Thing", rfl, ck_Thing, by decide, (gW_of (List.mem_of_getElem? (i := 202) (by decide +kernel)) (by decide +kernel)), Or.inl rfl, by decide +kernel, rfl⟩
theorem f_LH_79 : FL "LeaseHouse" 79 1 2 (.int) false := ⟨("LeaseHouse$Thing", F_Thing, 6), "LeaseHouse$Thing", rfl, ck_Thing, by decide, (gW_of (List.mem_of_getElem? (i := 203) (by decide +kernel)) (by decide +kernel)), Or.inl rfl, by decide +kernel, rfl⟩
theorem f_Thing_22 : FL "LeaseHouse$Thing" 22 1 3 (.int) false := ⟨("LeaseHouse$Thing", F_Thing, 6), "LeaseHouse$Thing", rfl, ck_Thing, by decide, (gW_of (List.mem_of_getElem? (i := 204) (by decide +kernel)) (by decide +kernel)), Or.inl rfl, by decide +kernel, rfl⟩
theorem f_LH_82 : FL "LeaseHouse" 82 1 3 (.int) false := ⟨("LeaseHouse$Thing", F_Thing, 6), "LeaseHouse$Thing", rfl, ck_Thing, by decide, (gW_of (List.mem_of_getElem? (i := 205) (by decide +kernel)) (by decide +kernel)), Or.inl rfl, by decide +kernel, rfl⟩
theorem f_Thing_25 : FL "LeaseHouse$Thing" 25 1 4 (.int) false := ⟨("LeaseHouse$Thing", F_Thing, 6), "LeaseHouse$Thing", rfl, ck_Thing, by decide, (gW_of (List.mem_of_getElem? (i := 206) (by decide +kernel)) (by decide +kernel)), Or.inl rfl, by decide +kernel, rfl⟩
theorem f_LH_223 : FL "LeaseHouse" 223 1 4 (.int) false := ⟨("LeaseHouse$Thing", F_Thing, 6), "LeaseHouse$Thing", rfl, ck_Thing, by decide, (gW_of (List.mem_of_getElem? (i := 207) (by decide +kernel)) (by decide +kernel)), Or.inl rfl, by decide +kernel, rfl⟩
theorem f_Thing_28 : FL "LeaseHouse$Thing" 28 1 5 (.int) false := ⟨("LeaseHouse$Thing", F_Thing, 6), "LeaseHouse$Thing", rfl, ck_Thing, by decide, (gW_of (List.mem_of_getElem? (i := 208) (by decide +kernel)) (by decide +kernel)), Or.inl rfl, by decide +kernel, rfl⟩
theorem f_LH_160 : FL "LeaseHouse" 160 1 5 (.int) false := ⟨("LeaseHouse$Thing", F_Thing, 6), "LeaseHouse$Thing", rfl, ck_Thing, by decide, (gW_of (List.mem_of_getElem? (i := 209) (by decide +kernel)) (by decide +kernel)), Or.inl rfl, by decide +kernel, rfl⟩
theorem f_Waiter_7 : FL "LeaseHouse$Waiter" 7 2 0 (.int) true := ⟨("LeaseHouse$Waiter", F_Waiter, 3), "LeaseHouse$Waiter", rfl, ck_Waiter, by decide, (gW_of (List.mem_of_getElem? (i := 308) (by decide +kernel)) (by decide +kernel)), Or.inl rfl, by decide +kernel, rfl⟩
theorem f_Waiter_13 : FL "LeaseHouse$Waiter" 13 2 1 (.int) true := ⟨("LeaseHouse$Waiter", F_Waiter, 3), "LeaseHouse$Waiter", rfl, ck_Waiter, by decide, (gW_of (List.mem_of_getElem? (i := 309) (by decide +kernel)) (by decide +kernel)), Or.inl rfl, by decide +kernel, rfl⟩
theorem f_Waiter_16 : FL "LeaseHouse$Waiter" 16 2 2 (.int) true := ⟨("LeaseHouse$Waiter", F_Waiter, 3), "LeaseHouse$Waiter", rfl, ck_Waiter, by decide, (gW_of (List.mem_of_getElem? (i := 310) (by decide +kernel)) (by decide +kernel)), Or.inl rfl, by decide +kernel, rfl⟩
theorem f_Note_7 : FL "LeaseHouse$Note" 7 5 0 (.int) true := ⟨("LeaseHouse$Note", F_Note, 2), "LeaseHouse$Note", rfl, ck_Note, by decide, (gW_of (List.mem_of_getElem? (i := 332) (by decide +kernel)) (by decide +kernel)), Or.inl rfl, by decide +kernel, rfl⟩
theorem f_Note_13 : FL "LeaseHouse$Note" 13 5 1 (.int) true := ⟨("LeaseHouse$Note", F_Note, 2), "LeaseHouse$Note", rfl, ck_Note, by decide, (gW_of (List.mem_of_getElem? (i := 333) (by decide +kernel)) (by decide +kernel)), Or.inl rfl, by decide +kernel, rfl⟩
theorem f_Job_7 : FL "LeaseHouse$Job" 7 3 0 (.int) true := ⟨("LeaseHouse$Job", F_Job, 3), "LeaseHouse$Job", rfl, ck_Job, by decide, (gW_of (List.mem_of_getElem? (i := 434) (by decide +kernel)) (by decide +kernel)), Or.inl rfl, by decide +kernel, rfl⟩
theorem f_Job_13 : FL "LeaseHouse$Job" 13 3 1 (.int) true := ⟨("LeaseHouse$Job", F_Job, 3), "LeaseHouse$Job", rfl, ck_Job, by decide, (gW_of (List.mem_of_getElem? (i := 435) (by decide +kernel)) (by decide +kernel)), Or.inl rfl, by decide +kernel, rfl⟩
theorem f_Job_16 : FL "LeaseHouse$Job" 16 3 2 (.int) true := ⟨("LeaseHouse$Job", F_Job, 3), "LeaseHouse$Job", rfl, ck_Job, by decide, (gW_of (List.mem_of_getElem? (i := 436) (by decide +kernel)) (by decide +kernel)), Or.inl rfl, by decide +kernel, rfl⟩
theorem f_Cached_7 : FL "LeaseHouse$Cached" 7 4 0 (.int) true := ⟨("LeaseHouse$Cached", F_Cached, 2), "LeaseHouse$Cached", rfl, ck_Cached, by decide, (gW_of (List.mem_of_getElem? (i := 503) (by decide +kernel)) (by decide +kernel)), Or.inl rfl, by decide +kernel, rfl⟩
theorem f_Cached_13 : FL "LeaseHouse$Cached" 13 4 1 (.int) true := ⟨("LeaseHouse$Cached", F_Cached, 2), "LeaseHouse$Cached", rfl, ck_Cached, by decide, (gW_of (List.mem_of_getElem? (i := 504) (by decide +kernel)) (by decide +kernel)), Or.inl rfl, by decide +kernel, rfl⟩
theorem f_Mo_7 : FL "LeaseHouseModel" 7 9 0 (.array (.int)) true := ⟨("LeaseHouseModel", F_Mo, 27), "LeaseHouseModel", rfl, ck_Mo, by decide, (gW_of (List.mem_of_getElem? (i := 600) (by decide +kernel)) (by decide +kernel)), Or.inl rfl, by decide +kernel, rfl⟩
theorem f_Mo_75 : FL "LeaseHouseModel" 75 9 21 (.int) false := ⟨("LeaseHouseModel", F_Mo, 27), "LeaseHouseModel", rfl, ck_Mo, by decide, (gW_of (List.mem_of_getElem? (i := 601) (by decide +kernel)) (by decide +kernel)), Or.inl rfl, by decide +kernel, rfl⟩
theorem f_Mo_96 : FL "LeaseHouseModel" 96 9 22 (.int) false := ⟨("LeaseHouseModel", F_Mo, 27), "LeaseHouseModel", rfl, ck_Mo, by decide, (gW_of (List.mem_of_getElem? (i := 602) (by decide +kernel)) (by decide +kernel)), Or.inl rfl, by decide +kernel, rfl⟩
theorem f_Mo_13 : FL "LeaseHouseModel" 13 9 1 (.array (.long)) true := ⟨("LeaseHouseModel", F_Mo, 27), "LeaseHouseModel", rfl, ck_Mo, by decide, (gW_of (List.mem_of_getElem? (i := 603) (by decide +kernel)) (by decide +kernel)), Or.inl rfl, by decide +kernel, rfl⟩
theorem f_Mo_17 : FL "LeaseHouseModel" 17 9 2 (.array (.int)) true := ⟨("LeaseHouseModel", F_Mo, 27), "LeaseHouseModel", rfl, ck_Mo, by decide, (gW_of (List.mem_of_getElem? (i := 604) (by decide +kernel)) (by decide +kernel)), Or.inl rfl, by decide +kernel, rfl⟩
theorem f_Mo_20 : FL "LeaseHouseModel" 20 9 3 (.array (.int)) true := ⟨("LeaseHouseModel", F_Mo, 27), "LeaseHouseModel", rfl, ck_Mo, by decide, (gW_of (List.mem_of_getElem? (i := 605) (by decide +kernel)) (by decide +kernel)), Or.inl rfl, by decide +kernel, rfl⟩
theorem f_Mo_24 : FL "LeaseHouseModel" 24 9 4 (.array (.int)) true := ⟨("LeaseHouseModel", F_Mo, 27), "LeaseHouseModel", rfl, ck_Mo, by decide, (gW_of (List.mem_of_getElem? (i := 606) (by decide +kernel)) (by decide +kernel)), Or.inl rfl, by decide +kernel, rfl⟩
theorem f_Mo_85 : FL "LeaseHouseModel" 85 9 23 (.int) false := ⟨("LeaseHouseModel", F_Mo, 27), "LeaseHouseModel", rfl, ck_Mo, by decide, (gW_of (List.mem_of_getElem? (i := 607) (by decide +kernel)) (by decide +kernel)), Or.inl rfl, by decide +kernel, rfl⟩
theorem f_Mo_27 : FL "LeaseHouseModel" 27 9 5 (.array (.int)) true := ⟨("LeaseHouseModel", F_Mo, 27), "LeaseHouseModel", rfl, ck_Mo, by decide, (gW_of (List.mem_of_getElem? (i := 608) (by decide +kernel)) (by decide +kernel)), Or.inl rfl, by decide +kernel, rfl⟩
theorem f_Mo_30 : FL "LeaseHouseModel" 30 9 6 (.array (.int)) true := ⟨("LeaseHouseModel", F_Mo, 27), "LeaseHouseModel", rfl, ck_Mo, by decide, (gW_of (List.mem_of_getElem? (i := 609) (by decide +kernel)) (by decide +kernel)), Or.inl rfl, by decide +kernel, rfl⟩
theorem f_Mo_33 : FL "LeaseHouseModel" 33 9 7 (.array (.int)) true := ⟨("LeaseHouseModel", F_Mo, 27), "LeaseHouseModel", rfl, ck_Mo, by decide, (gW_of (List.mem_of_getElem? (i := 610) (by decide +kernel)) (by decide +kernel)), Or.inl rfl, by decide +kernel, rfl⟩
theorem f_Mo_36 : FL "LeaseHouseModel" 36 9 8 (.array (.int)) true := ⟨("LeaseHouseModel", F_Mo, 27), "LeaseHouseModel", rfl, ck_Mo, by decide, (gW_of (List.mem_of_getElem? (i := 611) (by decide +kernel)) (by decide +kernel)), Or.inl rfl, by decide +kernel, rfl⟩
theorem f_Mo_39 : FL "LeaseHouseModel" 39 9 9 (.array (.int)) true := ⟨("LeaseHouseModel", F_Mo, 27), "LeaseHouseModel", rfl, ck_Mo, by decide, (gW_of (List.mem_of_getElem? (i := 612) (by decide +kernel)) (by decide +kernel)), Or.inl rfl, by decide +kernel, rfl⟩
theorem f_Mo_42 : FL "LeaseHouseModel" 42 9 10 (.array (.int)) true := ⟨("LeaseHouseModel", F_Mo, 27), "LeaseHouseModel", rfl, ck_Mo, by decide, (gW_of (List.mem_of_getElem? (i := 613) (by decide +kernel)) (by decide +kernel)), Or.inl rfl, by decide +kernel, rfl⟩
theorem f_Mo_45 : FL "LeaseHouseModel" 45 9 11 (.array (.int)) true := ⟨("LeaseHouseModel", F_Mo, 27), "LeaseHouseModel", rfl, ck_Mo, by decide, (gW_of (List.mem_of_getElem? (i := 614) (by decide +kernel)) (by decide +kernel)), Or.inl rfl, by decide +kernel, rfl⟩
theorem f_Mo_99 : FL "LeaseHouseModel" 99 9 24 (.int) false := ⟨("LeaseHouseModel", F_Mo, 27), "LeaseHouseModel", rfl, ck_Mo, by decide, (gW_of (List.mem_of_getElem? (i := 615) (by decide +kernel)) (by decide +kernel)), Or.inl rfl, by decide +kernel, rfl⟩
theorem f_Mo_48 : FL "LeaseHouseModel" 48 9 12 (.array (.int)) true := ⟨("LeaseHouseModel", F_Mo, 27), "LeaseHouseModel", rfl, ck_Mo, by decide, (gW_of (List.mem_of_getElem? (i := 616) (by decide +kernel)) (by decide +kernel)), Or.inl rfl, by decide +kernel, rfl⟩
theorem f_Mo_51 : FL "LeaseHouseModel" 51 9 13 (.array (.int)) true := ⟨("LeaseHouseModel", F_Mo, 27), "LeaseHouseModel", rfl, ck_Mo, by decide, (gW_of (List.mem_of_getElem? (i := 617) (by decide +kernel)) (by decide +kernel)), Or.inl rfl, by decide +kernel, rfl⟩
theorem f_Mo_54 : FL "LeaseHouseModel" 54 9 14 (.array (.int)) true := ⟨("LeaseHouseModel", F_Mo, 27), "LeaseHouseModel", rfl, ck_Mo, by decide, (gW_of (List.mem_of_getElem? (i := 618) (by decide +kernel)) (by decide +kernel)), Or.inl rfl, by decide +kernel, rfl⟩
theorem f_Mo_126 : FL "LeaseHouseModel" 126 9 25 (.int) false := ⟨("LeaseHouseModel", F_Mo, 27), "LeaseHouseModel", rfl, ck_Mo, by decide, (gW_of (List.mem_of_getElem? (i := 619) (by decide +kernel)) (by decide +kernel)), Or.inl rfl, by decide +kernel, rfl⟩
theorem f_Mo_57 : FL "LeaseHouseModel" 57 9 15 (.array (.int)) true := ⟨("LeaseHouseModel", F_Mo, 27), "LeaseHouseModel", rfl, ck_Mo, by decide, (gW_of (List.mem_of_getElem? (i := 620) (by decide +kernel)) (by decide +kernel)), Or.inl rfl, by decide +kernel, rfl⟩
theorem f_Mo_60 : FL "LeaseHouseModel" 60 9 16 (.array (.int)) true := ⟨("LeaseHouseModel", F_Mo, 27), "LeaseHouseModel", rfl, ck_Mo, by decide, (gW_of (List.mem_of_getElem? (i := 621) (by decide +kernel)) (by decide +kernel)), Or.inl rfl, by decide +kernel, rfl⟩
theorem f_Mo_134 : FL "LeaseHouseModel" 134 9 26 (.int) false := ⟨("LeaseHouseModel", F_Mo, 27), "LeaseHouseModel", rfl, ck_Mo, by decide, (gW_of (List.mem_of_getElem? (i := 622) (by decide +kernel)) (by decide +kernel)), Or.inl rfl, by decide +kernel, rfl⟩
theorem f_Mo_63 : FL "LeaseHouseModel" 63 9 17 (.array (.int)) true := ⟨("LeaseHouseModel", F_Mo, 27), "LeaseHouseModel", rfl, ck_Mo, by decide, (gW_of (List.mem_of_getElem? (i := 623) (by decide +kernel)) (by decide +kernel)), Or.inl rfl, by decide +kernel, rfl⟩
theorem f_Mo_66 : FL "LeaseHouseModel" 66 9 18 (.array (.int)) true := ⟨("LeaseHouseModel", F_Mo, 27), "LeaseHouseModel", rfl, ck_Mo, by decide, (gW_of (List.mem_of_getElem? (i := 624) (by decide +kernel)) (by decide +kernel)), Or.inl rfl, by decide +kernel, rfl⟩
theorem f_Mo_69 : FL "LeaseHouseModel" 69 9 19 (.array (.int)) true := ⟨("LeaseHouseModel", F_Mo, 27), "LeaseHouseModel", rfl, ck_Mo, by decide, (gW_of (List.mem_of_getElem? (i := 625) (by decide +kernel)) (by decide +kernel)), Or.inl rfl, by decide +kernel, rfl⟩
theorem f_Mo_72 : FL "LeaseHouseModel" 72 9 20 (.array (.int)) true := ⟨("LeaseHouseModel", F_Mo, 27), "LeaseHouseModel", rfl, ck_Mo, by decide, (gW_of (List.mem_of_getElem? (i := 626) (by decide +kernel)) (by decide +kernel)), Or.inl rfl, by decide +kernel, rfl⟩
theorem mc_LH_init : MC m_LH_init 1 := ⟨(gW_of (List.mem_of_getElem? (i := 57) (by decide +kernel)) (by decide +kernel)), by decide +kernel, (gW_of (List.mem_of_getElem? (i := 33) (by decide +kernel)) (by decide +kernel)), ⟨by decide +kernel, by decide +kernel, by decide +kernel⟩, by decide⟩
theorem mc_AL_init : MC m_AL_init 0 := ⟨(gW_of (List.mem_of_getElem? (i := 65) (by decide +kernel)) (by decide +kernel)), by decide +kernel, (gW_of (List.mem_of_getElem? (i := 36) (by decide +kernel)) (by decide +kernel)), ⟨by decide +kernel, by decide +kernel, by decide +kernel⟩, by decide⟩
theorem mc_AbL_init : MC m_AbL_init 0 := ⟨(gW_of (List.mem_of_getElem? (i := 68) (by decide +kernel)) (by decide +kernel)), by decide +kernel, (gW_of (List.mem_of_getElem? (i := 35) (by decide +kernel)) (by decide +kernel)), ⟨by decide +kernel, by decide +kernel, by decide +kernel⟩, by decide⟩
theorem mc_AbC_init : MC m_AbC_init 0 := ⟨(gW_of (List.mem_of_getElem? (i := 71) (by decide +kernel)) (by decide +kernel)), by decide +kernel, (gW_of (List.mem_of_getElem? (i := 34) (by decide +kernel)) (by decide +kernel)), ⟨by decide +kernel, by decide +kernel, by decide +kernel⟩, by decide⟩
theorem mc_WaitTimes_init : MC m_WaitTimes_init 0 := ⟨(gW_of (List.mem_of_getElem? (i := 93) (by decide +kernel)) (by decide +kernel)), by decide +kernel, (gW_of (List.mem_of_getElem? (i := 37) (by decide +kernel)) (by decide +kernel)), ⟨by decide +kernel, by decide +kernel, by decide +kernel⟩, by decide⟩
theorem mc_NoteBox_init : MC m_NoteBox_init 0 := ⟨(gW_of (List.mem_of_getElem? (i := 106) (by decide +kernel)) (by decide +kernel)), by decide +kernel, (gW_of (List.mem_of_getElem? (i := 38) (by decide +kernel)) (by decide +kernel)), ⟨by decide +kernel, by decide +kernel, by decide +kernel⟩, by decide⟩
theorem mc_LH_sign : MC m_LH_sign 1 := ⟨(gW_of (List.mem_of_getElem? (i := 139) (by decide +kernel)) (by decide +kernel)), by decide +kernel, (gW_of (List.mem_of_getElem? (i := 33) (by decide +kernel)) (by decide +kernel)), ⟨by decide +kernel, by decide +kernel, by decide +kernel⟩, by decide⟩
theorem mc_LH_lengthOf : MC m_LH_lengthOf 1 := ⟨(gW_of (List.mem_of_getElem? (i := 142) (by decide +kernel)) (by decide +kernel)), by decide +kernel, (gW_of (List.mem_of_getElem? (i := 33) (by decide +kernel)) (by decide +kernel)), ⟨by decide +kernel, by decide +kernel, by decide +kernel⟩, by decide⟩
theorem mc_LH_withoutLastLetter : MC m_LH_withoutLastLetter 1 := ⟨(gW_of (List.mem_of_getElem? (i := 145) (by decide +kernel)) (by decide +kernel)), by decide +kernel, (gW_of (List.mem_of_getElem? (i := 33) (by decide +kernel)) (by decide +kernel)), ⟨by decide +kernel, by decide +kernel, by decide +kernel⟩, by decide⟩
theorem mc_LH_erase : MC m_LH_erase 0 := ⟨(gW_of (List.mem_of_getElem? (i := 149) (by decide +kernel)) (by decide +kernel)), by decide +kernel, (gW_of (List.mem_of_getElem? (i := 33) (by decide +kernel)) (by decide +kernel)), ⟨by decide +kernel, by decide +kernel, by decide +kernel⟩, by decide⟩
theorem mc_LH_want : MC m_LH_want 2 := ⟨(gW_of (List.mem_of_getElem? (i := 153) (by decide +kernel)) (by decide +kernel)), by decide +kernel, (gW_of (List.mem_of_getElem? (i := 33) (by decide +kernel)) (by decide +kernel)), ⟨by decide +kernel, by decide +kernel, by decide +kernel⟩, by decide⟩
theorem mc_LH_hasNameAnd : MC m_LH_hasNameAnd 1 := ⟨(gW_of (List.mem_of_getElem? (i := 157) (by decide +kernel)) (by decide +kernel)), by decide +kernel, (gW_of (List.mem_of_getElem? (i := 33) (by decide +kernel)) (by decide +kernel)), ⟨by decide +kernel, by decide +kernel, by decide +kernel⟩, by decide⟩
theorem mc_LH_isClient : MC m_LH_isClient 1 := ⟨(gW_of (List.mem_of_getElem? (i := 160) (by decide +kernel)) (by decide +kernel)), by decide +kernel, (gW_of (List.mem_of_getElem? (i := 33) (by decide +kernel)) (by decide +kernel)), ⟨by decide +kernel, by decide +kernel, by decide +kernel⟩, by decide⟩
theorem mc_LH_isLeaseTime : MC m_LH_isLeaseTime 1 := ⟨(gW_of (List.mem_of_getElem? (i := 163) (by decide +kernel)) (by decide +kernel)), by decide +kernel, (gW_of (List.mem_of_getElem? (i := 33) (by decide +kernel)) (by decide +kernel)), ⟨by decide +kernel, by decide +kernel, by decide +kernel⟩, by decide⟩
theorem mc_LH_findOrAddThing : MC m_LH_findOrAddThing 1 := ⟨(gW_of (List.mem_of_getElem? (i := 167) (by decide +kernel)) (by decide +kernel)), by decide +kernel, (gW_of (List.mem_of_getElem? (i := 33) (by decide +kernel)) (by decide +kernel)), ⟨by decide +kernel, by decide +kernel, by decide +kernel⟩, by decide⟩
theorem mc_LH_findThing : MC m_LH_findThing 1 := ⟨(gW_of (List.mem_of_getElem? (i := 171) (by decide +kernel)) (by decide +kernel)), by decide +kernel, (gW_of (List.mem_of_getElem? (i := 33) (by decide +kernel)) (by decide +kernel)), ⟨by decide +kernel, by decide +kernel, by decide +kernel⟩, by decide⟩
theorem mc_AL_size : MC m_AL_size 0 := ⟨(gW_of (List.mem_of_getElem? (i := 175) (by decide +kernel)) (by decide +kernel)), by decide +kernel, (gW_of (List.mem_of_getElem? (i := 36) (by decide +kernel)) (by decide +kernel)), ⟨by decide +kernel, by decide +kernel, by decide +kernel⟩, by decide⟩
theorem mc_AL_get : MC m_AL_get 1 := ⟨(gW_of (List.mem_of_getElem? (i := 179) (by decide +kernel)) (by decide +kernel)), by decide +kernel, (gW_of (List.mem_of_getElem? (i := 36) (by decide +kernel)) (by decide +kernel)), ⟨by decide +kernel, by decide +kernel, by decide +kernel⟩, by decide⟩
theorem mc_Obs_checkIndex : MC m_Obs_checkIndex 2 := ⟨(gW_of (List.mem_of_getElem? (i := 182) (by decide +kernel)) (by decide +kernel)), by decide +kernel, (gW_of (List.mem_of_getElem? (i := 40) (by decide +kernel)) (by decide +kernel)), ⟨by decide +kernel, by decide +kernel, by decide +kernel⟩, by decide⟩
theorem mc_Prec_checkIndex : MC m_Prec_checkIndex 3 := ⟨(gW_of (List.mem_of_getElem? (i := 185) (by decide +kernel)) (by decide +kernel)), by decide +kernel, (gW_of (List.mem_of_getElem? (i := 41) (by decide +kernel)) (by decide +kernel)), ⟨by decide +kernel, by decide +kernel, by decide +kernel⟩, by decide⟩
theorem mc_AL_elementData : MC m_AL_elementData 1 := ⟨(gW_of (List.mem_of_getElem? (i := 189) (by decide +kernel)) (by decide +kernel)), by decide +kernel, (gW_of (List.mem_of_getElem? (i := 36) (by decide +kernel)) (by decide +kernel)), ⟨by decide +kernel, by decide +kernel, by decide +kernel⟩, by decide⟩
theorem mc_Thing_init : MC m_Thing_init 1 := ⟨(gW_of (List.mem_of_getElem? (i := 194) (by decide +kernel)) (by decide +kernel)), by decide +kernel, (gW_of (List.mem_of_getElem? (i := 42) (by decide +kernel)) (by decide +kernel)), ⟨by decide +kernel, by decide +kernel, by decide +kernel⟩, by decide⟩
theorem mc_AL_add : MC m_AL_add 1 := ⟨(gW_of (List.mem_of_getElem? (i := 226) (by decide +kernel)) (by decide +kernel)), by decide +kernel, (gW_of (List.mem_of_getElem? (i := 36) (by decide +kernel)) (by decide +kernel)), ⟨by decide +kernel, by decide +kernel, by decide +kernel⟩, by decide⟩
theorem mc_AL_add3 : MC m_AL_add3 3 := ⟨(gW_of (List.mem_of_getElem? (i := 230) (by decide +kernel)) (by decide +kernel)), by decide +kernel, (gW_of (List.mem_of_getElem? (i := 36) (by decide +kernel)) (by decide +kernel)), ⟨by decide +kernel, by decide +kernel, by decide +kernel⟩, by decide⟩
theorem mc_AL_grow : MC m_AL_grow 0 := ⟨(gW_of (List.mem_of_getElem? (i := 234) (by decide +kernel)) (by decide +kernel)), by decide +kernel, (gW_of (List.mem_of_getElem? (i := 36) (by decide +kernel)) (by decide +kernel)), ⟨by decide +kernel, by decide +kernel, by decide +kernel⟩, by decide⟩
theorem mc_AL_growI : MC m_AL_growI 1 := ⟨(gW_of (List.mem_of_getElem? (i := 238) (by decide +kernel)) (by decide +kernel)), by decide +kernel, (gW_of (List.mem_of_getElem? (i := 36) (by decide +kernel)) (by decide +kernel)), ⟨by decide +kernel, by decide +kernel, by decide +kernel⟩, by decide⟩
theorem mc_AS_newLength : MC m_AS_newLength 3 := ⟨(gW_of (List.mem_of_getElem? (i := 241) (by decide +kernel)) (by decide +kernel)), by decide +kernel, (gW_of (List.mem_of_getElem? (i := 43) (by decide +kernel)) (by decide +kernel)), ⟨by decide +kernel, by decide +kernel, by decide +kernel⟩, by decide⟩
theorem mc_AS_hugeLength : MC m_AS_hugeLength 2 := ⟨(gW_of (List.mem_of_getElem? (i := 248) (by decide +kernel)) (by decide +kernel)), by decide +kernel, (gW_of (List.mem_of_getElem? (i := 43) (by decide +kernel)) (by decide +kernel)), ⟨by decide +kernel, by decide +kernel, by decide +kernel⟩, by decide⟩
theorem mc_Arrs_copyOf : MC m_Arrs_copyOf 2 := ⟨(gW_of (List.mem_of_getElem? (i := 251) (by decide +kernel)) (by decide +kernel)), by decide +kernel, (gW_of (List.mem_of_getElem? (i := 45) (by decide +kernel)) (by decide +kernel)), ⟨by decide +kernel, by decide +kernel, by decide +kernel⟩, by decide⟩
theorem mc_Arrs_copyOf3 : MC m_Arrs_copyOf3 3 := ⟨(gW_of (List.mem_of_getElem? (i := 268) (by decide +kernel)) (by decide +kernel)), by decide +kernel, (gW_of (List.mem_of_getElem? (i := 45) (by decide +kernel)) (by decide +kernel)), ⟨by decide +kernel, by decide +kernel, by decide +kernel⟩, by decide⟩
theorem mc_Thing_isLent : MC m_Thing_isLent 0 := ⟨(gW_of (List.mem_of_getElem? (i := 283) (by decide +kernel)) (by decide +kernel)), by decide +kernel, (gW_of (List.mem_of_getElem? (i := 42) (by decide +kernel)) (by decide +kernel)), ⟨by decide +kernel, by decide +kernel, by decide +kernel⟩, by decide⟩
theorem mc_LH_lineUp : MC m_LH_lineUp 3 := ⟨(gW_of (List.mem_of_getElem? (i := 287) (by decide +kernel)) (by decide +kernel)), by decide +kernel, (gW_of (List.mem_of_getElem? (i := 33) (by decide +kernel)) (by decide +kernel)), ⟨by decide +kernel, by decide +kernel, by decide +kernel⟩, by decide⟩
theorem mc_Thing_placeOf : MC m_Thing_placeOf 1 := ⟨(gW_of (List.mem_of_getElem? (i := 291) (by decide +kernel)) (by decide +kernel)), by decide +kernel, (gW_of (List.mem_of_getElem? (i := 42) (by decide +kernel)) (by decide +kernel)), ⟨by decide +kernel, by decide +kernel, by decide +kernel⟩, by decide⟩
theorem mc_Waiter_client : MC m_Waiter_client 0 := ⟨(gW_of (List.mem_of_getElem? (i := 298) (by decide +kernel)) (by decide +kernel)), by decide +kernel, (gW_of (List.mem_of_getElem? (i := 48) (by decide +kernel)) (by decide +kernel)), ⟨by decide +kernel, by decide +kernel, by decide +kernel⟩, by decide⟩
theorem mc_Waiter_init : MC m_Waiter_init 3 := ⟨(gW_of (List.mem_of_getElem? (i := 303) (by decide +kernel)) (by decide +kernel)), by decide +kernel, (gW_of (List.mem_of_getElem? (i := 48) (by decide +kernel)) (by decide +kernel)), ⟨by decide +kernel, by decide +kernel, by decide +kernel⟩, by decide⟩
theorem mc_Rcd_init : MC m_Rcd_init 0 := ⟨(gW_of (List.mem_of_getElem? (i := 306) (by decide +kernel)) (by decide +kernel)), by decide +kernel, (gW_of (List.mem_of_getElem? (i := 47) (by decide +kernel)) (by decide +kernel)), ⟨by decide +kernel, by decide +kernel, by decide +kernel⟩, by decide⟩
theorem mc_LH_lend : MC m_LH_lend 4 := ⟨(gW_of (List.mem_of_getElem? (i := 321) (by decide +kernel)) (by decide +kernel)), by decide +kernel, (gW_of (List.mem_of_getElem? (i := 33) (by decide +kernel)) (by decide +kernel)), ⟨by decide +kernel, by decide +kernel, by decide +kernel⟩, by decide⟩
theorem mc_LH_tellChange : MC m_LH_tellChange 2 := ⟨(gW_of (List.mem_of_getElem? (i := 325) (by decide +kernel)) (by decide +kernel)), by decide +kernel, (gW_of (List.mem_of_getElem? (i := 33) (by decide +kernel)) (by decide +kernel)), ⟨by decide +kernel, by decide +kernel, by decide +kernel⟩, by decide⟩
theorem mc_Note_init : MC m_Note_init 2 := ⟨(gW_of (List.mem_of_getElem? (i := 330) (by decide +kernel)) (by decide +kernel)), by decide +kernel, (gW_of (List.mem_of_getElem? (i := 49) (by decide +kernel)) (by decide +kernel)), ⟨by decide +kernel, by decide +kernel, by decide +kernel⟩, by decide⟩
theorem mc_Thing_isWatchedBy : MC m_Thing_isWatchedBy 1 := ⟨(gW_of (List.mem_of_getElem? (i := 342) (by decide +kernel)) (by decide +kernel)), by decide +kernel, (gW_of (List.mem_of_getElem? (i := 42) (by decide +kernel)) (by decide +kernel)), ⟨by decide +kernel, by decide +kernel, by decide +kernel⟩, by decide⟩
theorem mc_NoteBox_put : MC m_NoteBox_put 1 := ⟨(gW_of (List.mem_of_getElem? (i := 346) (by decide +kernel)) (by decide +kernel)), by decide +kernel, (gW_of (List.mem_of_getElem? (i := 38) (by decide +kernel)) (by decide +kernel)), ⟨by decide +kernel, by decide +kernel, by decide +kernel⟩, by decide⟩
theorem mc_AL_remove : MC m_AL_remove 1 := ⟨(gW_of (List.mem_of_getElem? (i := 351) (by decide +kernel)) (by decide +kernel)), by decide +kernel, (gW_of (List.mem_of_getElem? (i := 36) (by decide +kernel)) (by decide +kernel)), ⟨by decide +kernel, by decide +kernel, by decide +kernel⟩, by decide⟩
theorem mc_AL_fastRemove : MC m_AL_fastRemove 2 := ⟨(gW_of (List.mem_of_getElem? (i := 355) (by decide +kernel)) (by decide +kernel)), by decide +kernel, (gW_of (List.mem_of_getElem? (i := 36) (by decide +kernel)) (by decide +kernel)), ⟨by decide +kernel, by decide +kernel, by decide +kernel⟩, by decide⟩
theorem mc_LH_free : MC m_LH_free 1 := ⟨(gW_of (List.mem_of_getElem? (i := 361) (by decide +kernel)) (by decide +kernel)), by decide +kernel, (gW_of (List.mem_of_getElem? (i := 33) (by decide +kernel)) (by decide +kernel)), ⟨by decide +kernel, by decide +kernel, by decide +kernel⟩, by decide⟩
theorem mc_LH_findThingHeldBy : MC m_LH_findThingHeldBy 1 := ⟨(gW_of (List.mem_of_getElem? (i := 365) (by decide +kernel)) (by decide +kernel)), by decide +kernel, (gW_of (List.mem_of_getElem? (i := 33) (by decide +kernel)) (by decide +kernel)), ⟨by decide +kernel, by decide +kernel, by decide +kernel⟩, by decide⟩
theorem mc_LH_endLease : MC m_LH_endLease 1 := ⟨(gW_of (List.mem_of_getElem? (i := 369) (by decide +kernel)) (by decide +kernel)), by decide +kernel, (gW_of (List.mem_of_getElem? (i := 33) (by decide +kernel)) (by decide +kernel)), ⟨by decide +kernel, by decide +kernel, by decide +kernel⟩, by decide⟩
theorem mc_AL_isEmpty : MC m_AL_isEmpty 0 := ⟨(gW_of (List.mem_of_getElem? (i := 373) (by decide +kernel)) (by decide +kernel)), by decide +kernel, (gW_of (List.mem_of_getElem? (i := 36) (by decide +kernel)) (by decide +kernel)), ⟨by decide +kernel, by decide +kernel, by decide +kernel⟩, by decide⟩
theorem mc_Waiter_since : MC m_Waiter_since 0 := ⟨(gW_of (List.mem_of_getElem? (i := 378) (by decide +kernel)) (by decide +kernel)), by decide +kernel, (gW_of (List.mem_of_getElem? (i := 48) (by decide +kernel)) (by decide +kernel)), ⟨by decide +kernel, by decide +kernel, by decide +kernel⟩, by decide⟩
theorem mc_WaitTimes_add : MC m_WaitTimes_add 1 := ⟨(gW_of (List.mem_of_getElem? (i := 382) (by decide +kernel)) (by decide +kernel)), by decide +kernel, (gW_of (List.mem_of_getElem? (i := 37) (by decide +kernel)) (by decide +kernel)), ⟨by decide +kernel, by decide +kernel, by decide +kernel⟩, by decide⟩
theorem mc_Waiter_ticks : MC m_Waiter_ticks 0 := ⟨(gW_of (List.mem_of_getElem? (i := 387) (by decide +kernel)) (by decide +kernel)), by decide +kernel, (gW_of (List.mem_of_getElem? (i := 48) (by decide +kernel)) (by decide +kernel)), ⟨by decide +kernel, by decide +kernel, by decide +kernel⟩, by decide⟩
theorem mc_LH_renew : MC m_LH_renew 2 := ⟨(gW_of (List.mem_of_getElem? (i := 391) (by decide +kernel)) (by decide +kernel)), by decide +kernel, (gW_of (List.mem_of_getElem? (i := 33) (by decide +kernel)) (by decide +kernel)), ⟨by decide +kernel, by decide +kernel, by decide +kernel⟩, by decide⟩
theorem mc_LH_leave : MC m_LH_leave 1 := ⟨(gW_of (List.mem_of_getElem? (i := 395) (by decide +kernel)) (by decide +kernel)), by decide +kernel, (gW_of (List.mem_of_getElem? (i := 33) (by decide +kernel)) (by decide +kernel)), ⟨by decide +kernel, by decide +kernel, by decide +kernel⟩, by decide⟩
theorem mc_LH_tick : MC m_LH_tick 1 := ⟨(gW_of (List.mem_of_getElem? (i := 399) (by decide +kernel)) (by decide +kernel)), by decide +kernel, (gW_of (List.mem_of_getElem? (i := 33) (by decide +kernel)) (by decide +kernel)), ⟨by decide +kernel, by decide +kernel, by decide +kernel⟩, by decide⟩
theorem mc_LH_findNextToEnd : MC m_LH_findNextToEnd 0 := ⟨(gW_of (List.mem_of_getElem? (i := 403) (by decide +kernel)) (by decide +kernel)), by decide +kernel, (gW_of (List.mem_of_getElem? (i := 33) (by decide +kernel)) (by decide +kernel)), ⟨by decide +kernel, by decide +kernel, by decide +kernel⟩, by decide⟩
theorem mc_Thing_endsBefore : MC m_Thing_endsBefore 1 := ⟨(gW_of (List.mem_of_getElem? (i := 407) (by decide +kernel)) (by decide +kernel)), by decide +kernel, (gW_of (List.mem_of_getElem? (i := 42) (by decide +kernel)) (by decide +kernel)), ⟨by decide +kernel, by decide +kernel, by decide +kernel⟩, by decide⟩
theorem mc_LH_holder : MC m_LH_holder 0 := ⟨(gW_of (List.mem_of_getElem? (i := 411) (by decide +kernel)) (by decide +kernel)), by decide +kernel, (gW_of (List.mem_of_getElem? (i := 33) (by decide +kernel)) (by decide +kernel)), ⟨by decide +kernel, by decide +kernel, by decide +kernel⟩, by decide⟩
theorem mc_LH_left : MC m_LH_left 0 := ⟨(gW_of (List.mem_of_getElem? (i := 415) (by decide +kernel)) (by decide +kernel)), by decide +kernel, (gW_of (List.mem_of_getElem? (i := 33) (by decide +kernel)) (by decide +kernel)), ⟨by decide +kernel, by decide +kernel, by decide +kernel⟩, by decide⟩
theorem mc_LH_waiting : MC m_LH_waiting 1 := ⟨(gW_of (List.mem_of_getElem? (i := 419) (by decide +kernel)) (by decide +kernel)), by decide +kernel, (gW_of (List.mem_of_getElem? (i := 33) (by decide +kernel)) (by decide +kernel)), ⟨by decide +kernel, by decide +kernel, by decide +kernel⟩, by decide⟩
theorem mc_LH_first : MC m_LH_first 0 := ⟨(gW_of (List.mem_of_getElem? (i := 423) (by decide +kernel)) (by decide +kernel)), by decide +kernel, (gW_of (List.mem_of_getElem? (i := 33) (by decide +kernel)) (by decide +kernel)), ⟨by decide +kernel, by decide +kernel, by decide +kernel⟩, by decide⟩
theorem mc_LH_job : MC m_LH_job 2 := ⟨(gW_of (List.mem_of_getElem? (i := 427) (by decide +kernel)) (by decide +kernel)), by decide +kernel, (gW_of (List.mem_of_getElem? (i := 33) (by decide +kernel)) (by decide +kernel)), ⟨by decide +kernel, by decide +kernel, by decide +kernel⟩, by decide⟩
theorem mc_Job_init : MC m_Job_init 3 := ⟨(gW_of (List.mem_of_getElem? (i := 432) (by decide +kernel)) (by decide +kernel)), by decide +kernel, (gW_of (List.mem_of_getElem? (i := 50) (by decide +kernel)) (by decide +kernel)), ⟨by decide +kernel, by decide +kernel, by decide +kernel⟩, by decide⟩
theorem mc_LH_findTurnOf : MC m_LH_findTurnOf 1 := ⟨(gW_of (List.mem_of_getElem? (i := 447) (by decide +kernel)) (by decide +kernel)), by decide +kernel, (gW_of (List.mem_of_getElem? (i := 33) (by decide +kernel)) (by decide +kernel)), ⟨by decide +kernel, by decide +kernel, by decide +kernel⟩, by decide⟩
theorem mc_Job_goesBefore : MC m_Job_goesBefore 1 := ⟨(gW_of (List.mem_of_getElem? (i := 451) (by decide +kernel)) (by decide +kernel)), by decide +kernel, (gW_of (List.mem_of_getElem? (i := 50) (by decide +kernel)) (by decide +kernel)), ⟨by decide +kernel, by decide +kernel, by decide +kernel⟩, by decide⟩
theorem mc_AL_addAt : MC m_AL_addAt 2 := ⟨(gW_of (List.mem_of_getElem? (i := 455) (by decide +kernel)) (by decide +kernel)), by decide +kernel, (gW_of (List.mem_of_getElem? (i := 36) (by decide +kernel)) (by decide +kernel)), ⟨by decide +kernel, by decide +kernel, by decide +kernel⟩, by decide⟩
theorem mc_AL_rangeCheckForAdd : MC m_AL_rangeCheckForAdd 1 := ⟨(gW_of (List.mem_of_getElem? (i := 459) (by decide +kernel)) (by decide +kernel)), by decide +kernel, (gW_of (List.mem_of_getElem? (i := 36) (by decide +kernel)) (by decide +kernel)), ⟨by decide +kernel, by decide +kernel, by decide +kernel⟩, by decide⟩
theorem mc_LH_work : MC m_LH_work 0 := ⟨(gW_of (List.mem_of_getElem? (i := 463) (by decide +kernel)) (by decide +kernel)), by decide +kernel, (gW_of (List.mem_of_getElem? (i := 33) (by decide +kernel)) (by decide +kernel)), ⟨by decide +kernel, by decide +kernel, by decide +kernel⟩, by decide⟩
theorem mc_Job_due : MC m_Job_due 0 := ⟨(gW_of (List.mem_of_getElem? (i := 467) (by decide +kernel)) (by decide +kernel)), by decide +kernel, (gW_of (List.mem_of_getElem? (i := 50) (by decide +kernel)) (by decide +kernel)), ⟨by decide +kernel, by decide +kernel, by decide +kernel⟩, by decide⟩
theorem mc_Job_name : MC m_Job_name 0 := ⟨(gW_of (List.mem_of_getElem? (i := 472) (by decide +kernel)) (by decide +kernel)), by decide +kernel, (gW_of (List.mem_of_getElem? (i := 50) (by decide +kernel)) (by decide +kernel)), ⟨by decide +kernel, by decide +kernel, by decide +kernel⟩, by decide⟩
theorem mc_Job_rank : MC m_Job_rank 0 := ⟨(gW_of (List.mem_of_getElem? (i := 476) (by decide +kernel)) (by decide +kernel)), by decide +kernel, (gW_of (List.mem_of_getElem? (i := 50) (by decide +kernel)) (by decide +kernel)), ⟨by decide +kernel, by decide +kernel, by decide +kernel⟩, by decide⟩
theorem mc_LH_cancel : MC m_LH_cancel 0 := ⟨(gW_of (List.mem_of_getElem? (i := 480) (by decide +kernel)) (by decide +kernel)), by decide +kernel, (gW_of (List.mem_of_getElem? (i := 33) (by decide +kernel)) (by decide +kernel)), ⟨by decide +kernel, by decide +kernel, by decide +kernel⟩, by decide⟩
theorem mc_LH_ask : MC m_LH_ask 0 := ⟨(gW_of (List.mem_of_getElem? (i := 484) (by decide +kernel)) (by decide +kernel)), by decide +kernel, (gW_of (List.mem_of_getElem? (i := 33) (by decide +kernel)) (by decide +kernel)), ⟨by decide +kernel, by decide +kernel, by decide +kernel⟩, by decide⟩
theorem mc_LH_findInCache : MC m_LH_findInCache 1 := ⟨(gW_of (List.mem_of_getElem? (i := 488) (by decide +kernel)) (by decide +kernel)), by decide +kernel, (gW_of (List.mem_of_getElem? (i := 33) (by decide +kernel)) (by decide +kernel)), ⟨by decide +kernel, by decide +kernel, by decide +kernel⟩, by decide⟩
theorem mc_Cached_name : MC m_Cached_name 0 := ⟨(gW_of (List.mem_of_getElem? (i := 493) (by decide +kernel)) (by decide +kernel)), by decide +kernel, (gW_of (List.mem_of_getElem? (i := 51) (by decide +kernel)) (by decide +kernel)), ⟨by decide +kernel, by decide +kernel, by decide +kernel⟩, by decide⟩
theorem mc_LH_changesOf : MC m_LH_changesOf 1 := ⟨(gW_of (List.mem_of_getElem? (i := 498) (by decide +kernel)) (by decide +kernel)), by decide +kernel, (gW_of (List.mem_of_getElem? (i := 33) (by decide +kernel)) (by decide +kernel)), ⟨by decide +kernel, by decide +kernel, by decide +kernel⟩, by decide⟩
theorem mc_Cached_init : MC m_Cached_init 2 := ⟨(gW_of (List.mem_of_getElem? (i := 501) (by decide +kernel)) (by decide +kernel)), by decide +kernel, (gW_of (List.mem_of_getElem? (i := 51) (by decide +kernel)) (by decide +kernel)), ⟨by decide +kernel, by decide +kernel, by decide +kernel⟩, by decide⟩
theorem mc_Cached_number : MC m_Cached_number 0 := ⟨(gW_of (List.mem_of_getElem? (i := 513) (by decide +kernel)) (by decide +kernel)), by decide +kernel, (gW_of (List.mem_of_getElem? (i := 51) (by decide +kernel)) (by decide +kernel)), ⟨by decide +kernel, by decide +kernel, by decide +kernel⟩, by decide⟩
theorem mc_LH_known : MC m_LH_known 0 := ⟨(gW_of (List.mem_of_getElem? (i := 517) (by decide +kernel)) (by decide +kernel)), by decide +kernel, (gW_of (List.mem_of_getElem? (i := 33) (by decide +kernel)) (by decide +kernel)), ⟨by decide +kernel, by decide +kernel, by decide +kernel⟩, by decide⟩
theorem mc_LH_watch : MC m_LH_watch 1 := ⟨(gW_of (List.mem_of_getElem? (i := 521) (by decide +kernel)) (by decide +kernel)), by decide +kernel, (gW_of (List.mem_of_getElem? (i := 33) (by decide +kernel)) (by decide +kernel)), ⟨by decide +kernel, by decide +kernel, by decide +kernel⟩, by decide⟩
theorem mc_Intg_bitCount : MC m_Intg_bitCount 1 := ⟨(gW_of (List.mem_of_getElem? (i := 524) (by decide +kernel)) (by decide +kernel)), by decide +kernel, (gW_of (List.mem_of_getElem? (i := 52) (by decide +kernel)) (by decide +kernel)), ⟨by decide +kernel, by decide +kernel, by decide +kernel⟩, by decide⟩
theorem mc_LH_note : MC m_LH_note 1 := ⟨(gW_of (List.mem_of_getElem? (i := 531) (by decide +kernel)) (by decide +kernel)), by decide +kernel, (gW_of (List.mem_of_getElem? (i := 33) (by decide +kernel)) (by decide +kernel)), ⟨by decide +kernel, by decide +kernel, by decide +kernel⟩, by decide⟩
theorem mc_NoteBox_takeOldest : MC m_NoteBox_takeOldest 0 := ⟨(gW_of (List.mem_of_getElem? (i := 535) (by decide +kernel)) (by decide +kernel)), by decide +kernel, (gW_of (List.mem_of_getElem? (i := 38) (by decide +kernel)) (by decide +kernel)), ⟨by decide +kernel, by decide +kernel, by decide +kernel⟩, by decide⟩
theorem mc_Note_name : MC m_Note_name 0 := ⟨(gW_of (List.mem_of_getElem? (i := 541) (by decide +kernel)) (by decide +kernel)), by decide +kernel, (gW_of (List.mem_of_getElem? (i := 49) (by decide +kernel)) (by decide +kernel)), ⟨by decide +kernel, by decide +kernel, by decide +kernel⟩, by decide⟩
theorem mc_Note_kind : MC m_Note_kind 0 := ⟨(gW_of (List.mem_of_getElem? (i := 545) (by decide +kernel)) (by decide +kernel)), by decide +kernel, (gW_of (List.mem_of_getElem? (i := 49) (by decide +kernel)) (by decide +kernel)), ⟨by decide +kernel, by decide +kernel, by decide +kernel⟩, by decide⟩
theorem mc_LH_waits : MC m_LH_waits 2 := ⟨(gW_of (List.mem_of_getElem? (i := 549) (by decide +kernel)) (by decide +kernel)), by decide +kernel, (gW_of (List.mem_of_getElem? (i := 33) (by decide +kernel)) (by decide +kernel)), ⟨by decide +kernel, by decide +kernel, by decide +kernel⟩, by decide⟩
theorem mc_WaitTimes_countFrom : MC m_WaitTimes_countFrom 2 := ⟨(gW_of (List.mem_of_getElem? (i := 553) (by decide +kernel)) (by decide +kernel)), by decide +kernel, (gW_of (List.mem_of_getElem? (i := 37) (by decide +kernel)) (by decide +kernel)), ⟨by decide +kernel, by decide +kernel, by decide +kernel⟩, by decide⟩
theorem mc_LH_waited : MC m_LH_waited 1 := ⟨(gW_of (List.mem_of_getElem? (i := 557) (by decide +kernel)) (by decide +kernel)), by decide +kernel, (gW_of (List.mem_of_getElem? (i := 33) (by decide +kernel)) (by decide +kernel)), ⟨by decide +kernel, by decide +kernel, by decide +kernel⟩, by decide⟩
theorem mc_WaitTimes_greatestUpTo : MC m_WaitTimes_greatestUpTo 1 := ⟨(gW_of (List.mem_of_getElem? (i := 561) (by decide +kernel)) (by decide +kernel)), by decide +kernel, (gW_of (List.mem_of_getElem? (i := 37) (by decide +kernel)) (by decide +kernel)), ⟨by decide +kernel, by decide +kernel, by decide +kernel⟩, by decide⟩
theorem mc_LH_letter : MC m_LH_letter 1 := ⟨(gW_of (List.mem_of_getElem? (i := 565) (by decide +kernel)) (by decide +kernel)), by decide +kernel, (gW_of (List.mem_of_getElem? (i := 33) (by decide +kernel)) (by decide +kernel)), ⟨by decide +kernel, by decide +kernel, by decide +kernel⟩, by decide⟩
theorem mc_LH_count : MC m_LH_count 1 := ⟨(gW_of (List.mem_of_getElem? (i := 569) (by decide +kernel)) (by decide +kernel)), by decide +kernel, (gW_of (List.mem_of_getElem? (i := 33) (by decide +kernel)) (by decide +kernel)), ⟨by decide +kernel, by decide +kernel, by decide +kernel⟩, by decide⟩
theorem mc_LH_countLeases : MC m_LH_countLeases 0 := ⟨(gW_of (List.mem_of_getElem? (i := 573) (by decide +kernel)) (by decide +kernel)), by decide +kernel, (gW_of (List.mem_of_getElem? (i := 33) (by decide +kernel)) (by decide +kernel)), ⟨by decide +kernel, by decide +kernel, by decide +kernel⟩, by decide⟩
theorem mc_LH_countWaiting : MC m_LH_countWaiting 0 := ⟨(gW_of (List.mem_of_getElem? (i := 577) (by decide +kernel)) (by decide +kernel)), by decide +kernel, (gW_of (List.mem_of_getElem? (i := 33) (by decide +kernel)) (by decide +kernel)), ⟨by decide +kernel, by decide +kernel, by decide +kernel⟩, by decide⟩
theorem mc_LH_countWatchedNames : MC m_LH_countWatchedNames 0 := ⟨(gW_of (List.mem_of_getElem? (i := 581) (by decide +kernel)) (by decide +kernel)), by decide +kernel, (gW_of (List.mem_of_getElem? (i := 33) (by decide +kernel)) (by decide +kernel)), ⟨by decide +kernel, by decide +kernel, by decide +kernel⟩, by decide⟩
theorem mc_LH_countNotes : MC m_LH_countNotes 0 := ⟨(gW_of (List.mem_of_getElem? (i := 585) (by decide +kernel)) (by decide +kernel)), by decide +kernel, (gW_of (List.mem_of_getElem? (i := 33) (by decide +kernel)) (by decide +kernel)), ⟨by decide +kernel, by decide +kernel, by decide +kernel⟩, by decide⟩
theorem mc_NoteBox_size : MC m_NoteBox_size 0 := ⟨(gW_of (List.mem_of_getElem? (i := 589) (by decide +kernel)) (by decide +kernel)), by decide +kernel, (gW_of (List.mem_of_getElem? (i := 38) (by decide +kernel)) (by decide +kernel)), ⟨by decide +kernel, by decide +kernel, by decide +kernel⟩, by decide⟩
theorem mc_Law_cell : MC m_Law_cell 2 := ⟨(gW_of (List.mem_of_getElem? (i := 592) (by decide +kernel)) (by decide +kernel)), by decide +kernel, (gW_of (List.mem_of_getElem? (i := 32) (by decide +kernel)) (by decide +kernel)), ⟨by decide +kernel, by decide +kernel, by decide +kernel⟩, by decide⟩
theorem mc_Mo_init : MC m_Mo_init 1 := ⟨(gW_of (List.mem_of_getElem? (i := 597) (by decide +kernel)) (by decide +kernel)), by decide +kernel, (gW_of (List.mem_of_getElem? (i := 39) (by decide +kernel)) (by decide +kernel)), ⟨by decide +kernel, by decide +kernel, by decide +kernel⟩, by decide⟩
theorem mc_Mo_sign : MC m_Mo_sign 1 := ⟨(gW_of (List.mem_of_getElem? (i := 686) (by decide +kernel)) (by decide +kernel)), by decide +kernel, (gW_of (List.mem_of_getElem? (i := 39) (by decide +kernel)) (by decide +kernel)), ⟨by decide +kernel, by decide +kernel, by decide +kernel⟩, by decide⟩
theorem mc_Mo_erase : MC m_Mo_erase 0 := ⟨(gW_of (List.mem_of_getElem? (i := 690) (by decide +kernel)) (by decide +kernel)), by decide +kernel, (gW_of (List.mem_of_getElem? (i := 39) (by decide +kernel)) (by decide +kernel)), ⟨by decide +kernel, by decide +kernel, by decide +kernel⟩, by decide⟩
theorem mc_Mo_want : MC m_Mo_want 2 := ⟨(gW_of (List.mem_of_getElem? (i := 694) (by decide +kernel)) (by decide +kernel)), by decide +kernel, (gW_of (List.mem_of_getElem? (i := 39) (by decide +kernel)) (by decide +kernel)), ⟨by decide +kernel, by decide +kernel, by decide +kernel⟩, by decide⟩
theorem mc_Mo_isClient : MC m_Mo_isClient 1 := ⟨(gW_of (List.mem_of_getElem? (i := 697) (by decide +kernel)) (by decide +kernel)), by decide +kernel, (gW_of (List.mem_of_getElem? (i := 39) (by decide +kernel)) (by decide +kernel)), ⟨by decide +kernel, by decide +kernel, by decide +kernel⟩, by decide⟩
theorem mc_Mo_here : MC m_Mo_here 0 := ⟨(gW_of (List.mem_of_getElem? (i := 701) (by decide +kernel)) (by decide +kernel)), by decide +kernel, (gW_of (List.mem_of_getElem? (i := 39) (by decide +kernel)) (by decide +kernel)), ⟨by decide +kernel, by decide +kernel, by decide +kernel⟩, by decide⟩
theorem mc_Mo_code : MC m_Mo_code 0 := ⟨(gW_of (List.mem_of_getElem? (i := 705) (by decide +kernel)) (by decide +kernel)), by decide +kernel, (gW_of (List.mem_of_getElem? (i := 39) (by decide +kernel)) (by decide +kernel)), ⟨by decide +kernel, by decide +kernel, by decide +kernel⟩, by decide⟩
theorem mc_Mo_change : MC m_Mo_change 2 := ⟨(gW_of (List.mem_of_getElem? (i := 710) (by decide +kernel)) (by decide +kernel)), by decide +kernel, (gW_of (List.mem_of_getElem? (i := 39) (by decide +kernel)) (by decide +kernel)), ⟨by decide +kernel, by decide +kernel, by decide +kernel⟩, by decide⟩
theorem mc_Mo_drop : MC m_Mo_drop 1 := ⟨(gW_of (List.mem_of_getElem? (i := 714) (by decide +kernel)) (by decide +kernel)), by decide +kernel, (gW_of (List.mem_of_getElem? (i := 39) (by decide +kernel)) (by decide +kernel)), ⟨by decide +kernel, by decide +kernel, by decide +kernel⟩, by decide⟩
theorem mc_Mo_place : MC m_Mo_place 2 := ⟨(gW_of (List.mem_of_getElem? (i := 718) (by decide +kernel)) (by decide +kernel)), by decide +kernel, (gW_of (List.mem_of_getElem? (i := 39) (by decide +kernel)) (by decide +kernel)), ⟨by decide +kernel, by decide +kernel, by decide +kernel⟩, by decide⟩
theorem mc_Mo_free : MC m_Mo_free 1 := ⟨(gW_of (List.mem_of_getElem? (i := 722) (by decide +kernel)) (by decide +kernel)), by decide +kernel, (gW_of (List.mem_of_getElem? (i := 39) (by decide +kernel)) (by decide +kernel)), ⟨by decide +kernel, by decide +kernel, by decide +kernel⟩, by decide⟩
theorem mc_Mo_end : MC m_Mo_end 1 := ⟨(gW_of (List.mem_of_getElem? (i := 726) (by decide +kernel)) (by decide +kernel)), by decide +kernel, (gW_of (List.mem_of_getElem? (i := 39) (by decide +kernel)) (by decide +kernel)), ⟨by decide +kernel, by decide +kernel, by decide +kernel⟩, by decide⟩
theorem mc_Mo_out : MC m_Mo_out 2 := ⟨(gW_of (List.mem_of_getElem? (i := 730) (by decide +kernel)) (by decide +kernel)), by decide +kernel, (gW_of (List.mem_of_getElem? (i := 39) (by decide +kernel)) (by decide +kernel)), ⟨by decide +kernel, by decide +kernel, by decide +kernel⟩, by decide⟩
theorem mc_Mo_renew : MC m_Mo_renew 2 := ⟨(gW_of (List.mem_of_getElem? (i := 734) (by decide +kernel)) (by decide +kernel)), by decide +kernel, (gW_of (List.mem_of_getElem? (i := 39) (by decide +kernel)) (by decide +kernel)), ⟨by decide +kernel, by decide +kernel, by decide +kernel⟩, by decide⟩
theorem mc_Mo_leave : MC m_Mo_leave 1 := ⟨(gW_of (List.mem_of_getElem? (i := 738) (by decide +kernel)) (by decide +kernel)), by decide +kernel, (gW_of (List.mem_of_getElem? (i := 39) (by decide +kernel)) (by decide +kernel)), ⟨by decide +kernel, by decide +kernel, by decide +kernel⟩, by decide⟩
theorem mc_Mo_tick : MC m_Mo_tick 1 := ⟨(gW_of (List.mem_of_getElem? (i := 742) (by decide +kernel)) (by decide +kernel)), by decide +kernel, (gW_of (List.mem_of_getElem? (i := 39) (by decide +kernel)) (by decide +kernel)), ⟨by decide +kernel, by decide +kernel, by decide +kernel⟩, by decide⟩
theorem mc_Mo_next : MC m_Mo_next 0 := ⟨(gW_of (List.mem_of_getElem? (i := 746) (by decide +kernel)) (by decide +kernel)), by decide +kernel, (gW_of (List.mem_of_getElem? (i := 39) (by decide +kernel)) (by decide +kernel)), ⟨by decide +kernel, by decide +kernel, by decide +kernel⟩, by decide⟩
theorem mc_Mo_holder : MC m_Mo_holder 0 := ⟨(gW_of (List.mem_of_getElem? (i := 750) (by decide +kernel)) (by decide +kernel)), by decide +kernel, (gW_of (List.mem_of_getElem? (i := 39) (by decide +kernel)) (by decide +kernel)), ⟨by decide +kernel, by decide +kernel, by decide +kernel⟩, by decide⟩
theorem mc_Mo_left : MC m_Mo_left 0 := ⟨(gW_of (List.mem_of_getElem? (i := 754) (by decide +kernel)) (by decide +kernel)), by decide +kernel, (gW_of (List.mem_of_getElem? (i := 39) (by decide +kernel)) (by decide +kernel)), ⟨by decide +kernel, by decide +kernel, by decide +kernel⟩, by decide⟩
theorem mc_Mo_waiting : MC m_Mo_waiting 1 := ⟨(gW_of (List.mem_of_getElem? (i := 758) (by decide +kernel)) (by decide +kernel)), by decide +kernel, (gW_of (List.mem_of_getElem? (i := 39) (by decide +kernel)) (by decide +kernel)), ⟨by decide +kernel, by decide +kernel, by decide +kernel⟩, by decide⟩
theorem mc_Mo_first : MC m_Mo_first 0 := ⟨(gW_of (List.mem_of_getElem? (i := 762) (by decide +kernel)) (by decide +kernel)), by decide +kernel, (gW_of (List.mem_of_getElem? (i := 39) (by decide +kernel)) (by decide +kernel)), ⟨by decide +kernel, by decide +kernel, by decide +kernel⟩, by decide⟩
theorem mc_Mo_write : MC m_Mo_write 1 := ⟨(gW_of (List.mem_of_getElem? (i := 766) (by decide +kernel)) (by decide +kernel)), by decide +kernel, (gW_of (List.mem_of_getElem? (i := 39) (by decide +kernel)) (by decide +kernel)), ⟨by decide +kernel, by decide +kernel, by decide +kernel⟩, by decide⟩
theorem mc_Mo_job : MC m_Mo_job 2 := ⟨(gW_of (List.mem_of_getElem? (i := 770) (by decide +kernel)) (by decide +kernel)), by decide +kernel, (gW_of (List.mem_of_getElem? (i := 39) (by decide +kernel)) (by decide +kernel)), ⟨by decide +kernel, by decide +kernel, by decide +kernel⟩, by decide⟩
theorem mc_Mo_work : MC m_Mo_work 0 := ⟨(gW_of (List.mem_of_getElem? (i := 774) (by decide +kernel)) (by decide +kernel)), by decide +kernel, (gW_of (List.mem_of_getElem? (i := 39) (by decide +kernel)) (by decide +kernel)), ⟨by decide +kernel, by decide +kernel, by decide +kernel⟩, by decide⟩
theorem mc_Mo_gone : MC m_Mo_gone 1 := ⟨(gW_of (List.mem_of_getElem? (i := 779) (by decide +kernel)) (by decide +kernel)), by decide +kernel, (gW_of (List.mem_of_getElem? (i := 39) (by decide +kernel)) (by decide +kernel)), ⟨by decide +kernel, by decide +kernel, by decide +kernel⟩, by decide⟩
theorem mc_Mo_cancel : MC m_Mo_cancel 0 := ⟨(gW_of (List.mem_of_getElem? (i := 783) (by decide +kernel)) (by decide +kernel)), by decide +kernel, (gW_of (List.mem_of_getElem? (i := 39) (by decide +kernel)) (by decide +kernel)), ⟨by decide +kernel, by decide +kernel, by decide +kernel⟩, by decide⟩
theorem mc_Mo_ask : MC m_Mo_ask 0 := ⟨(gW_of (List.mem_of_getElem? (i := 787) (by decide +kernel)) (by decide +kernel)), by decide +kernel, (gW_of (List.mem_of_getElem? (i := 39) (by decide +kernel)) (by decide +kernel)), ⟨by decide +kernel, by decide +kernel, by decide +kernel⟩, by decide⟩
theorem mc_Mo_inCache : MC m_Mo_inCache 1 := ⟨(gW_of (List.mem_of_getElem? (i := 791) (by decide +kernel)) (by decide +kernel)), by decide +kernel, (gW_of (List.mem_of_getElem? (i := 39) (by decide +kernel)) (by decide +kernel)), ⟨by decide +kernel, by decide +kernel, by decide +kernel⟩, by decide⟩
theorem mc_Mo_known : MC m_Mo_known 0 := ⟨(gW_of (List.mem_of_getElem? (i := 795) (by decide +kernel)) (by decide +kernel)), by decide +kernel, (gW_of (List.mem_of_getElem? (i := 39) (by decide +kernel)) (by decide +kernel)), ⟨by decide +kernel, by decide +kernel, by decide +kernel⟩, by decide⟩
theorem mc_Mo_watch : MC m_Mo_watch 1 := ⟨(gW_of (List.mem_of_getElem? (i := 799) (by decide +kernel)) (by decide +kernel)), by decide +kernel, (gW_of (List.mem_of_getElem? (i := 39) (by decide +kernel)) (by decide +kernel)), ⟨by decide +kernel, by decide +kernel, by decide +kernel⟩, by decide⟩
theorem mc_Mo_note : MC m_Mo_note 1 := ⟨(gW_of (List.mem_of_getElem? (i := 803) (by decide +kernel)) (by decide +kernel)), by decide +kernel, (gW_of (List.mem_of_getElem? (i := 39) (by decide +kernel)) (by decide +kernel)), ⟨by decide +kernel, by decide +kernel, by decide +kernel⟩, by decide⟩
theorem mc_Mo_waits : MC m_Mo_waits 2 := ⟨(gW_of (List.mem_of_getElem? (i := 807) (by decide +kernel)) (by decide +kernel)), by decide +kernel, (gW_of (List.mem_of_getElem? (i := 39) (by decide +kernel)) (by decide +kernel)), ⟨by decide +kernel, by decide +kernel, by decide +kernel⟩, by decide⟩
theorem mc_Mo_waited : MC m_Mo_waited 1 := ⟨(gW_of (List.mem_of_getElem? (i := 811) (by decide +kernel)) (by decide +kernel)), by decide +kernel, (gW_of (List.mem_of_getElem? (i := 39) (by decide +kernel)) (by decide +kernel)), ⟨by decide +kernel, by decide +kernel, by decide +kernel⟩, by decide⟩
theorem mc_Mo_letter : MC m_Mo_letter 1 := ⟨(gW_of (List.mem_of_getElem? (i := 815) (by decide +kernel)) (by decide +kernel)), by decide +kernel, (gW_of (List.mem_of_getElem? (i := 39) (by decide +kernel)) (by decide +kernel)), ⟨by decide +kernel, by decide +kernel, by decide +kernel⟩, by decide⟩
theorem mc_Mo_count : MC m_Mo_count 1 := ⟨(gW_of (List.mem_of_getElem? (i := 819) (by decide +kernel)) (by decide +kernel)), by decide +kernel, (gW_of (List.mem_of_getElem? (i := 39) (by decide +kernel)) (by decide +kernel)), ⟨by decide +kernel, by decide +kernel, by decide +kernel⟩, by decide⟩
theorem l_Law_15 : MI "LeaseHouseLaw" 15 m_LH_init 1 := ⟨mc_LH_init, (gW_of (List.mem_of_getElem? (i := 55) (by decide +kernel)) (by decide +kernel)), rfl, (gW_of (List.mem_of_getElem? (i := 56) (by decide +kernel)) (by decide +kernel)), rfl⟩
theorem l_LH_1 : Cond.methodLink "LeaseHouse" 1 Lib.objectInit ∈ gW := (gW_of (List.mem_of_getElem? (i := 58) (by decide +kernel)) (by decide +kernel))
theorem l_LH_9 : MI "LeaseHouse" 9 m_AL_init 0 := ⟨mc_AL_init, (gW_of (List.mem_of_getElem? (i := 63) (by decide +kernel)) (by decide +kernel)), rfl, (gW_of (List.mem_of_getElem? (i := 64) (by decide +kernel)) (by decide +kernel)), rfl⟩
theorem l_AL_1 : MI "java/util/ArrayList" 1 m_AbL_init 0 := ⟨mc_AbL_init, (gW_of (List.mem_of_getElem? (i := 66) (by decide +kernel)) (by decide +kernel)), rfl, (gW_of (List.mem_of_getElem? (i := 67) (by decide +kernel)) (by decide +kernel)), rfl⟩
theorem l_AbL_1 : MI "java/util/AbstractList" 1 m_AbC_init 0 := ⟨mc_AbC_init, (gW_of (List.mem_of_getElem? (i := 69) (by decide +kernel)) (by decide +kernel)), rfl, (gW_of (List.mem_of_getElem? (i := 70) (by decide +kernel)) (by decide +kernel)), rfl⟩
theorem l_AbC_1 : Cond.methodLink "java/util/AbstractCollection" 1 Lib.objectInit ∈ gW := (gW_of (List.mem_of_getElem? (i := 72) (by decide +kernel)) (by decide +kernel))
theorem l_LH_30 : MIN "LeaseHouse" 30 m_WaitTimes_init 0 := ⟨mc_WaitTimes_init, ⟨"LeaseHouse", (nW_of (List.mem_of_getElem? (i := 91) (by decide +kernel)) (by decide +kernel))⟩, rfl, (gW_of (List.mem_of_getElem? (i := 92) (by decide +kernel)) (by decide +kernel)), rfl⟩
theorem l_WaitTimes_3 : Cond.methodLink "LeaseHouse$WaitTimes" 3 Lib.objectInit ∈ gW := (gW_of (List.mem_of_getElem? (i := 94) (by decide +kernel)) (by decide +kernel))
theorem l_LH_42 : MIN "LeaseHouse" 42 m_NoteBox_init 0 := ⟨mc_NoteBox_init, ⟨"LeaseHouse", (nW_of (List.mem_of_getElem? (i := 104) (by decide +kernel)) (by decide +kernel))⟩, rfl, (gW_of (List.mem_of_getElem? (i := 105) (by decide +kernel)) (by decide +kernel)), rfl⟩
theorem l_NoteBox_3 : Cond.methodLink "LeaseHouse$NoteBox" 3 Lib.objectInit ∈ gW := (gW_of (List.mem_of_getElem? (i := 107) (by decide +kernel)) (by decide +kernel))
theorem l_NoteBox_11 : MI "LeaseHouse$NoteBox" 11 m_AL_init 0 := ⟨mc_AL_init, (gW_of (List.mem_of_getElem? (i := 109) (by decide +kernel)) (by decide +kernel)), rfl, (gW_of (List.mem_of_getElem? (i := 64) (by decide +kernel)) (by decide +kernel)), rfl⟩
theorem l_Law_21 : MV "LeaseHouseLaw" 21 0 m_LH_sign 1 := ⟨mc_LH_sign, (gW_of (List.mem_of_getElem? (i := 136) (by decide +kernel)) (by decide +kernel)), (gW_of (List.mem_of_getElem? (i := 137) (by decide +kernel)) (by decide +kernel)), ("LeaseHouse", F_LH, 7), rfl, (gW_of (List.mem_of_getElem? (i := 138) (by decide +kernel)) (by decide +kernel))⟩
theorem l_LH_43 : MS "LeaseHouse" 43 m_LH_lengthOf 1 := ⟨mc_LH_lengthOf, (gW_of (List.mem_of_getElem? (i := 140) (by decide +kernel)) (by decide +kernel)), (gW_of (List.mem_of_getElem? (i := 141) (by decide +kernel)) (by decide +kernel))⟩
theorem l_LH_188 : MS "LeaseHouse" 188 m_LH_withoutLastLetter 1 := ⟨mc_LH_withoutLastLetter, (gW_of (List.mem_of_getElem? (i := 143) (by decide +kernel)) (by decide +kernel)), (gW_of (List.mem_of_getElem? (i := 144) (by decide +kernel)) (by decide +kernel))⟩
theorem l_Law_26 : MV "LeaseHouseLaw" 26 0 m_LH_erase 0 := ⟨mc_LH_erase, (gW_of (List.mem_of_getElem? (i := 146) (by decide +kernel)) (by decide +kernel)), (gW_of (List.mem_of_getElem? (i := 147) (by decide +kernel)) (by decide +kernel)), ("LeaseHouse", F_LH, 7), rfl, (gW_of (List.mem_of_getElem? (i := 148) (by decide +kernel)) (by decide +kernel))⟩
theorem l_Law_31 : MV "LeaseHouseLaw" 31 0 m_LH_want 2 := ⟨mc_LH_want, (gW_of (List.mem_of_getElem? (i := 150) (by decide +kernel)) (by decide +kernel)), (gW_of (List.mem_of_getElem? (i := 151) (by decide +kernel)) (by decide +kernel)), ("LeaseHouse", F_LH, 7), rfl, (gW_of (List.mem_of_getElem? (i := 152) (by decide +kernel)) (by decide +kernel))⟩
theorem l_LH_47 : MV "LeaseHouse" 47 0 m_LH_hasNameAnd 1 := ⟨mc_LH_hasNameAnd, (gW_of (List.mem_of_getElem? (i := 154) (by decide +kernel)) (by decide +kernel)), (gW_of (List.mem_of_getElem? (i := 156) (by decide +kernel)) (by decide +kernel)), ("LeaseHouse", F_LH, 7), rfl, (gW_of (List.mem_of_getElem? (i := 0) (by decide +kernel)) (by decide +kernel))⟩
theorem l_LH_168 : MS "LeaseHouse" 168 m_LH_isClient 1 := ⟨mc_LH_isClient, (gW_of (List.mem_of_getElem? (i := 158) (by decide +kernel)) (by decide +kernel)), (gW_of (List.mem_of_getElem? (i := 159) (by decide +kernel)) (by decide +kernel))⟩
theorem l_LH_51 : MS "LeaseHouse" 51 m_LH_isLeaseTime 1 := ⟨mc_LH_isLeaseTime, (gW_of (List.mem_of_getElem? (i := 161) (by decide +kernel)) (by decide +kernel)), (gW_of (List.mem_of_getElem? (i := 162) (by decide +kernel)) (by decide +kernel))⟩
theorem l_LH_54 : MV "LeaseHouse" 54 0 m_LH_findOrAddThing 1 := ⟨mc_LH_findOrAddThing, (gW_of (List.mem_of_getElem? (i := 164) (by decide +kernel)) (by decide +kernel)), (gW_of (List.mem_of_getElem? (i := 166) (by decide +kernel)) (by decide +kernel)), ("LeaseHouse", F_LH, 7), rfl, (gW_of (List.mem_of_getElem? (i := 1) (by decide +kernel)) (by decide +kernel))⟩
theorem l_LH_85 : MV "LeaseHouse" 85 0 m_LH_findThing 1 := ⟨mc_LH_findThing, (gW_of (List.mem_of_getElem? (i := 168) (by decide +kernel)) (by decide +kernel)), (gW_of (List.mem_of_getElem? (i := 170) (by decide +kernel)) (by decide +kernel)), ("LeaseHouse", F_LH, 7), rfl, (gW_of (List.mem_of_getElem? (i := 2) (by decide +kernel)) (by decide +kernel))⟩
theorem l_LH_98 : MV "LeaseHouse" 98 8 m_AL_size 0 := ⟨mc_AL_size, (gW_of (List.mem_of_getElem? (i := 172) (by decide +kernel)) (by decide +kernel)), (gW_of (List.mem_of_getElem? (i := 173) (by decide +kernel)) (by decide +kernel)), ("java/util/ArrayList", F_AL, 3), rfl, (gW_of (List.mem_of_getElem? (i := 174) (by decide +kernel)) (by decide +kernel))⟩
theorem l_LH_106 : MV "LeaseHouse" 106 8 m_AL_get 1 := ⟨mc_AL_get, (gW_of (List.mem_of_getElem? (i := 176) (by decide +kernel)) (by decide +kernel)), (gW_of (List.mem_of_getElem? (i := 177) (by decide +kernel)) (by decide +kernel)), ("java/util/ArrayList", F_AL, 3), rfl, (gW_of (List.mem_of_getElem? (i := 178) (by decide +kernel)) (by decide +kernel))⟩
theorem l_AL_118 : MS "java/util/ArrayList" 118 m_Obs_checkIndex 2 := ⟨mc_Obs_checkIndex, (gW_of (List.mem_of_getElem? (i := 180) (by decide +kernel)) (by decide +kernel)), (gW_of (List.mem_of_getElem? (i := 181) (by decide +kernel)) (by decide +kernel))⟩
theorem l_Obs_105 : MS "java/util/Objects" 105 m_Prec_checkIndex 3 := ⟨mc_Prec_checkIndex, (gW_of (List.mem_of_getElem? (i := 183) (by decide +kernel)) (by decide +kernel)), (gW_of (List.mem_of_getElem? (i := 184) (by decide +kernel)) (by decide +kernel))⟩
theorem l_AL_123 : MV "java/util/ArrayList" 123 8 m_AL_elementData 1 := ⟨mc_AL_elementData, (gW_of (List.mem_of_getElem? (i := 186) (by decide +kernel)) (by decide +kernel)), (gW_of (List.mem_of_getElem? (i := 187) (by decide +kernel)) (by decide +kernel)), ("java/util/ArrayList", F_AL, 3), rfl, (gW_of (List.mem_of_getElem? (i := 188) (by decide +kernel)) (by decide +kernel))⟩
theorem l_LH_203 : MI "LeaseHouse" 203 m_Thing_init 1 := ⟨mc_Thing_init, (gW_of (List.mem_of_getElem? (i := 192) (by decide +kernel)) (by decide +kernel)), rfl, (gW_of (List.mem_of_getElem? (i := 193) (by decide +kernel)) (by decide +kernel)), rfl⟩
theorem l_Thing_3 : Cond.methodLink "LeaseHouse$Thing" 3 Lib.objectInit ∈ gW := (gW_of (List.mem_of_getElem? (i := 195) (by decide +kernel)) (by decide +kernel))
theorem l_Thing_11 : MI "LeaseHouse$Thing" 11 m_AL_init 0 := ⟨mc_AL_init, (gW_of (List.mem_of_getElem? (i := 197) (by decide +kernel)) (by decide +kernel)), rfl, (gW_of (List.mem_of_getElem? (i := 64) (by decide +kernel)) (by decide +kernel)), rfl⟩
theorem l_LH_154 : MV "LeaseHouse" 154 8 m_AL_add 1 := ⟨mc_AL_add, (gW_of (List.mem_of_getElem? (i := 223) (by decide +kernel)) (by decide +kernel)), (gW_of (List.mem_of_getElem? (i := 224) (by decide +kernel)) (by decide +kernel)), ("java/util/ArrayList", F_AL, 3), rfl, (gW_of (List.mem_of_getElem? (i := 225) (by decide +kernel)) (by decide +kernel))⟩
theorem l_AL_131 : MV "java/util/ArrayList" 131 8 m_AL_add3 3 := ⟨mc_AL_add3, (gW_of (List.mem_of_getElem? (i := 227) (by decide +kernel)) (by decide +kernel)), (gW_of (List.mem_of_getElem? (i := 229) (by decide +kernel)) (by decide +kernel)), ("java/util/ArrayList", F_AL, 3), rfl, (gW_of (List.mem_of_getElem? (i := 3) (by decide +kernel)) (by decide +kernel))⟩
theorem l_AL_129 : MV "java/util/ArrayList" 129 8 m_AL_grow 0 := ⟨mc_AL_grow, (gW_of (List.mem_of_getElem? (i := 231) (by decide +kernel)) (by decide +kernel)), (gW_of (List.mem_of_getElem? (i := 233) (by decide +kernel)) (by decide +kernel)), ("java/util/ArrayList", F_AL, 3), rfl, (gW_of (List.mem_of_getElem? (i := 4) (by decide +kernel)) (by decide +kernel))⟩
theorem l_AL_69 : MV "java/util/ArrayList" 69 8 m_AL_growI 1 := ⟨mc_AL_growI, (gW_of (List.mem_of_getElem? (i := 235) (by decide +kernel)) (by decide +kernel)), (gW_of (List.mem_of_getElem? (i := 237) (by decide +kernel)) (by decide +kernel)), ("java/util/ArrayList", F_AL, 3), rfl, (gW_of (List.mem_of_getElem? (i := 5) (by decide +kernel)) (by decide +kernel))⟩
theorem l_AL_73 : MS "java/util/ArrayList" 73 m_AS_newLength 3 := ⟨mc_AS_newLength, (gW_of (List.mem_of_getElem? (i := 239) (by decide +kernel)) (by decide +kernel)), (gW_of (List.mem_of_getElem? (i := 240) (by decide +kernel)) (by decide +kernel))⟩
theorem l_AS_194 : Cond.methodLink "jdk/internal/util/ArraysSupport" 194 Lib.Math.max.name ∈ gW := (gW_of (List.mem_of_getElem? (i := 242) (by decide +kernel)) (by decide +kernel))
theorem l_AS_201 : MS "jdk/internal/util/ArraysSupport" 201 m_AS_hugeLength 2 := ⟨mc_AS_hugeLength, (gW_of (List.mem_of_getElem? (i := 246) (by decide +kernel)) (by decide +kernel)), (gW_of (List.mem_of_getElem? (i := 247) (by decide +kernel)) (by decide +kernel))⟩
theorem l_AL_66 : MS "java/util/ArrayList" 66 m_Arrs_copyOf 2 := ⟨mc_Arrs_copyOf, (gW_of (List.mem_of_getElem? (i := 249) (by decide +kernel)) (by decide +kernel)), (gW_of (List.mem_of_getElem? (i := 250) (by decide +kernel)) (by decide +kernel))⟩
theorem l_Arrs_86 : Cond.methodLink "java/util/Arrays" 86 ⟨"java/lang/Object", "getClass", "()Ljava/lang/Class;"⟩ ∈ gW := (gW_of (List.mem_of_getElem? (i := 252) (by decide +kernel)) (by decide +kernel))
theorem l_Arrs_300 : MS "java/util/Arrays" 300 m_Arrs_copyOf3 3 := ⟨mc_Arrs_copyOf3, (gW_of (List.mem_of_getElem? (i := 266) (by decide +kernel)) (by decide +kernel)), (gW_of (List.mem_of_getElem? (i := 267) (by decide +kernel)) (by decide +kernel))⟩
theorem l_Arrs_304 : Cond.methodLink "java/util/Arrays" 304 Lib.Math.min.name ∈ gW := (gW_of (List.mem_of_getElem? (i := 272) (by decide +kernel)) (by decide +kernel))
theorem l_Arrs_150 : Cond.methodLink "java/util/Arrays" 150 arraycopyName ∈ gW := (gW_of (List.mem_of_getElem? (i := 275) (by decide +kernel)) (by decide +kernel))
theorem l_AL_79 : Cond.methodLink "java/util/ArrayList" 79 Lib.Math.max.name ∈ gW := (gW_of (List.mem_of_getElem? (i := 278) (by decide +kernel)) (by decide +kernel))
theorem l_LH_58 : MV "LeaseHouse" 58 1 m_Thing_isLent 0 := ⟨mc_Thing_isLent, (gW_of (List.mem_of_getElem? (i := 280) (by decide +kernel)) (by decide +kernel)), (gW_of (List.mem_of_getElem? (i := 281) (by decide +kernel)) (by decide +kernel)), ("LeaseHouse$Thing", F_Thing, 6), rfl, (gW_of (List.mem_of_getElem? (i := 282) (by decide +kernel)) (by decide +kernel))⟩
theorem l_LH_64 : MV "LeaseHouse" 64 0 m_LH_lineUp 3 := ⟨mc_LH_lineUp, (gW_of (List.mem_of_getElem? (i := 284) (by decide +kernel)) (by decide +kernel)), (gW_of (List.mem_of_getElem? (i := 286) (by decide +kernel)) (by decide +kernel)), ("LeaseHouse", F_LH, 7), rfl, (gW_of (List.mem_of_getElem? (i := 6) (by decide +kernel)) (by decide +kernel))⟩
theorem l_LH_88 : MV "LeaseHouse" 88 1 m_Thing_placeOf 1 := ⟨mc_Thing_placeOf, (gW_of (List.mem_of_getElem? (i := 288) (by decide +kernel)) (by decide +kernel)), (gW_of (List.mem_of_getElem? (i := 289) (by decide +kernel)) (by decide +kernel)), ("LeaseHouse$Thing", F_Thing, 6), rfl, (gW_of (List.mem_of_getElem? (i := 290) (by decide +kernel)) (by decide +kernel))⟩
theorem l_Thing_34 : MV "LeaseHouse$Thing" 34 8 m_AL_size 0 := ⟨mc_AL_size, (gW_of (List.mem_of_getElem? (i := 292) (by decide +kernel)) (by decide +kernel)), (gW_of (List.mem_of_getElem? (i := 173) (by decide +kernel)) (by decide +kernel)), ("java/util/ArrayList", F_AL, 3), rfl, (gW_of (List.mem_of_getElem? (i := 174) (by decide +kernel)) (by decide +kernel))⟩
theorem l_Thing_38 : MV "LeaseHouse$Thing" 38 8 m_AL_get 1 := ⟨mc_AL_get, (gW_of (List.mem_of_getElem? (i := 293) (by decide +kernel)) (by decide +kernel)), (gW_of (List.mem_of_getElem? (i := 177) (by decide +kernel)) (by decide +kernel)), ("java/util/ArrayList", F_AL, 3), rfl, (gW_of (List.mem_of_getElem? (i := 178) (by decide +kernel)) (by decide +kernel))⟩
theorem l_Thing_44 : MV "LeaseHouse$Thing" 44 2 m_Waiter_client 0 := ⟨mc_Waiter_client, (gW_of (List.mem_of_getElem? (i := 295) (by decide +kernel)) (by decide +kernel)), (gW_of (List.mem_of_getElem? (i := 296) (by decide +kernel)) (by decide +kernel)), ("LeaseHouse$Waiter", F_Waiter, 3), rfl, (gW_of (List.mem_of_getElem? (i := 297) (by decide +kernel)) (by decide +kernel))⟩
theorem l_LH_210 : MIN "LeaseHouse" 210 m_Waiter_init 3 := ⟨mc_Waiter_init, ⟨"LeaseHouse", (nW_of (List.mem_of_getElem? (i := 301) (by decide +kernel)) (by decide +kernel))⟩, rfl, (gW_of (List.mem_of_getElem? (i := 302) (by decide +kernel)) (by decide +kernel)), rfl⟩
theorem l_Waiter_1 : MI "LeaseHouse$Waiter" 1 m_Rcd_init 0 := ⟨mc_Rcd_init, (gW_of (List.mem_of_getElem? (i := 304) (by decide +kernel)) (by decide +kernel)), rfl, (gW_of (List.mem_of_getElem? (i := 305) (by decide +kernel)) (by decide +kernel)), rfl⟩
theorem l_Rcd_1 : Cond.methodLink "java/lang/Record" 1 Lib.objectInit ∈ gW := (gW_of (List.mem_of_getElem? (i := 307) (by decide +kernel)) (by decide +kernel))
theorem l_LH_68 : MV "LeaseHouse" 68 0 m_LH_lend 4 := ⟨mc_LH_lend, (gW_of (List.mem_of_getElem? (i := 318) (by decide +kernel)) (by decide +kernel)), (gW_of (List.mem_of_getElem? (i := 320) (by decide +kernel)) (by decide +kernel)), ("LeaseHouse", F_LH, 7), rfl, (gW_of (List.mem_of_getElem? (i := 7) (by decide +kernel)) (by decide +kernel))⟩
theorem l_LH_211 : MV "LeaseHouse" 211 0 m_LH_tellChange 2 := ⟨mc_LH_tellChange, (gW_of (List.mem_of_getElem? (i := 322) (by decide +kernel)) (by decide +kernel)), (gW_of (List.mem_of_getElem? (i := 324) (by decide +kernel)) (by decide +kernel)), ("LeaseHouse", F_LH, 7), rfl, (gW_of (List.mem_of_getElem? (i := 8) (by decide +kernel)) (by decide +kernel))⟩
theorem l_LH_226 : MIN "LeaseHouse" 226 m_Note_init 2 := ⟨mc_Note_init, ⟨"LeaseHouse", (nW_of (List.mem_of_getElem? (i := 328) (by decide +kernel)) (by decide +kernel))⟩, rfl, (gW_of (List.mem_of_getElem? (i := 329) (by decide +kernel)) (by decide +kernel)), rfl⟩
theorem l_Note_1 : MI "LeaseHouse$Note" 1 m_Rcd_init 0 := ⟨mc_Rcd_init, (gW_of (List.mem_of_getElem? (i := 331) (by decide +kernel)) (by decide +kernel)), rfl, (gW_of (List.mem_of_getElem? (i := 305) (by decide +kernel)) (by decide +kernel)), rfl⟩
theorem l_LH_227 : MV "LeaseHouse" 227 1 m_Thing_isWatchedBy 1 := ⟨mc_Thing_isWatchedBy, (gW_of (List.mem_of_getElem? (i := 339) (by decide +kernel)) (by decide +kernel)), (gW_of (List.mem_of_getElem? (i := 340) (by decide +kernel)) (by decide +kernel)), ("LeaseHouse$Thing", F_Thing, 6), rfl, (gW_of (List.mem_of_getElem? (i := 341) (by decide +kernel)) (by decide +kernel))⟩
theorem l_LH_230 : MV "LeaseHouse" 230 6 m_NoteBox_put 1 := ⟨mc_NoteBox_put, (gW_of (List.mem_of_getElem? (i := 343) (by decide +kernel)) (by decide +kernel)), (gW_of (List.mem_of_getElem? (i := 344) (by decide +kernel)) (by decide +kernel)), ("LeaseHouse$NoteBox", F_NoteBox, 1), rfl, (gW_of (List.mem_of_getElem? (i := 345) (by decide +kernel)) (by decide +kernel))⟩
theorem l_NoteBox_18 : MV "LeaseHouse$NoteBox" 18 8 m_AL_size 0 := ⟨mc_AL_size, (gW_of (List.mem_of_getElem? (i := 347) (by decide +kernel)) (by decide +kernel)), (gW_of (List.mem_of_getElem? (i := 173) (by decide +kernel)) (by decide +kernel)), ("java/util/ArrayList", F_AL, 3), rfl, (gW_of (List.mem_of_getElem? (i := 174) (by decide +kernel)) (by decide +kernel))⟩
theorem l_NoteBox_22 : MV "LeaseHouse$NoteBox" 22 8 m_AL_remove 1 := ⟨mc_AL_remove, (gW_of (List.mem_of_getElem? (i := 348) (by decide +kernel)) (by decide +kernel)), (gW_of (List.mem_of_getElem? (i := 349) (by decide +kernel)) (by decide +kernel)), ("java/util/ArrayList", F_AL, 3), rfl, (gW_of (List.mem_of_getElem? (i := 350) (by decide +kernel)) (by decide +kernel))⟩
theorem l_AL_144 : MV "java/util/ArrayList" 144 8 m_AL_fastRemove 2 := ⟨mc_AL_fastRemove, (gW_of (List.mem_of_getElem? (i := 352) (by decide +kernel)) (by decide +kernel)), (gW_of (List.mem_of_getElem? (i := 354) (by decide +kernel)) (by decide +kernel)), ("java/util/ArrayList", F_AL, 3), rfl, (gW_of (List.mem_of_getElem? (i := 9) (by decide +kernel)) (by decide +kernel))⟩
theorem l_AL_112 : Cond.methodLink "java/util/ArrayList" 112 arraycopyName ∈ gW := (gW_of (List.mem_of_getElem? (i := 356) (by decide +kernel)) (by decide +kernel))
theorem l_NoteBox_26 : MV "LeaseHouse$NoteBox" 26 8 m_AL_add 1 := ⟨mc_AL_add, (gW_of (List.mem_of_getElem? (i := 357) (by decide +kernel)) (by decide +kernel)), (gW_of (List.mem_of_getElem? (i := 224) (by decide +kernel)) (by decide +kernel)), ("java/util/ArrayList", F_AL, 3), rfl, (gW_of (List.mem_of_getElem? (i := 225) (by decide +kernel)) (by decide +kernel))⟩
theorem l_Law_36 : MV "LeaseHouseLaw" 36 0 m_LH_free 1 := ⟨mc_LH_free, (gW_of (List.mem_of_getElem? (i := 358) (by decide +kernel)) (by decide +kernel)), (gW_of (List.mem_of_getElem? (i := 359) (by decide +kernel)) (by decide +kernel)), ("LeaseHouse", F_LH, 7), rfl, (gW_of (List.mem_of_getElem? (i := 360) (by decide +kernel)) (by decide +kernel))⟩
theorem l_LH_72 : MV "LeaseHouse" 72 0 m_LH_findThingHeldBy 1 := ⟨mc_LH_findThingHeldBy, (gW_of (List.mem_of_getElem? (i := 362) (by decide +kernel)) (by decide +kernel)), (gW_of (List.mem_of_getElem? (i := 364) (by decide +kernel)) (by decide +kernel)), ("LeaseHouse", F_LH, 7), rfl, (gW_of (List.mem_of_getElem? (i := 10) (by decide +kernel)) (by decide +kernel))⟩
theorem l_LH_75 : MV "LeaseHouse" 75 0 m_LH_endLease 1 := ⟨mc_LH_endLease, (gW_of (List.mem_of_getElem? (i := 366) (by decide +kernel)) (by decide +kernel)), (gW_of (List.mem_of_getElem? (i := 368) (by decide +kernel)) (by decide +kernel)), ("LeaseHouse", F_LH, 7), rfl, (gW_of (List.mem_of_getElem? (i := 11) (by decide +kernel)) (by decide +kernel))⟩
theorem l_LH_130 : MV "LeaseHouse" 130 8 m_AL_isEmpty 0 := ⟨mc_AL_isEmpty, (gW_of (List.mem_of_getElem? (i := 370) (by decide +kernel)) (by decide +kernel)), (gW_of (List.mem_of_getElem? (i := 371) (by decide +kernel)) (by decide +kernel)), ("java/util/ArrayList", F_AL, 3), rfl, (gW_of (List.mem_of_getElem? (i := 372) (by decide +kernel)) (by decide +kernel))⟩
theorem l_LH_94 : MV "LeaseHouse" 94 8 m_AL_remove 1 := ⟨mc_AL_remove, (gW_of (List.mem_of_getElem? (i := 374) (by decide +kernel)) (by decide +kernel)), (gW_of (List.mem_of_getElem? (i := 349) (by decide +kernel)) (by decide +kernel)), ("java/util/ArrayList", F_AL, 3), rfl, (gW_of (List.mem_of_getElem? (i := 350) (by decide +kernel)) (by decide +kernel))⟩
theorem l_LH_215 : MV "LeaseHouse" 215 2 m_Waiter_since 0 := ⟨mc_Waiter_since, (gW_of (List.mem_of_getElem? (i := 375) (by decide +kernel)) (by decide +kernel)), (gW_of (List.mem_of_getElem? (i := 376) (by decide +kernel)) (by decide +kernel)), ("LeaseHouse$Waiter", F_Waiter, 3), rfl, (gW_of (List.mem_of_getElem? (i := 377) (by decide +kernel)) (by decide +kernel))⟩
theorem l_LH_218 : MV "LeaseHouse" 218 7 m_WaitTimes_add 1 := ⟨mc_WaitTimes_add, (gW_of (List.mem_of_getElem? (i := 379) (by decide +kernel)) (by decide +kernel)), (gW_of (List.mem_of_getElem? (i := 380) (by decide +kernel)) (by decide +kernel)), ("LeaseHouse$WaitTimes", F_WaitTimes, 2), rfl, (gW_of (List.mem_of_getElem? (i := 381) (by decide +kernel)) (by decide +kernel))⟩
theorem l_LH_111 : MV "LeaseHouse" 111 2 m_Waiter_client 0 := ⟨mc_Waiter_client, (gW_of (List.mem_of_getElem? (i := 383) (by decide +kernel)) (by decide +kernel)), (gW_of (List.mem_of_getElem? (i := 296) (by decide +kernel)) (by decide +kernel)), ("LeaseHouse$Waiter", F_Waiter, 3), rfl, (gW_of (List.mem_of_getElem? (i := 297) (by decide +kernel)) (by decide +kernel))⟩
theorem l_LH_220 : MV "LeaseHouse" 220 2 m_Waiter_ticks 0 := ⟨mc_Waiter_ticks, (gW_of (List.mem_of_getElem? (i := 384) (by decide +kernel)) (by decide +kernel)), (gW_of (List.mem_of_getElem? (i := 385) (by decide +kernel)) (by decide +kernel)), ("LeaseHouse$Waiter", F_Waiter, 3), rfl, (gW_of (List.mem_of_getElem? (i := 386) (by decide +kernel)) (by decide +kernel))⟩
theorem l_Law_40 : MV "LeaseHouseLaw" 40 0 m_LH_renew 2 := ⟨mc_LH_renew, (gW_of (List.mem_of_getElem? (i := 388) (by decide +kernel)) (by decide +kernel)), (gW_of (List.mem_of_getElem? (i := 389) (by decide +kernel)) (by decide +kernel)), ("LeaseHouse", F_LH, 7), rfl, (gW_of (List.mem_of_getElem? (i := 390) (by decide +kernel)) (by decide +kernel))⟩
theorem l_Law_44 : MV "LeaseHouseLaw" 44 0 m_LH_leave 1 := ⟨mc_LH_leave, (gW_of (List.mem_of_getElem? (i := 392) (by decide +kernel)) (by decide +kernel)), (gW_of (List.mem_of_getElem? (i := 393) (by decide +kernel)) (by decide +kernel)), ("LeaseHouse", F_LH, 7), rfl, (gW_of (List.mem_of_getElem? (i := 394) (by decide +kernel)) (by decide +kernel))⟩
theorem l_Law_48 : MV "LeaseHouseLaw" 48 0 m_LH_tick 1 := ⟨mc_LH_tick, (gW_of (List.mem_of_getElem? (i := 396) (by decide +kernel)) (by decide +kernel)), (gW_of (List.mem_of_getElem? (i := 397) (by decide +kernel)) (by decide +kernel)), ("LeaseHouse", F_LH, 7), rfl, (gW_of (List.mem_of_getElem? (i := 398) (by decide +kernel)) (by decide +kernel))⟩
theorem l_LH_102 : MV "LeaseHouse" 102 0 m_LH_findNextToEnd 0 := ⟨mc_LH_findNextToEnd, (gW_of (List.mem_of_getElem? (i := 400) (by decide +kernel)) (by decide +kernel)), (gW_of (List.mem_of_getElem? (i := 402) (by decide +kernel)) (by decide +kernel)), ("LeaseHouse", F_LH, 7), rfl, (gW_of (List.mem_of_getElem? (i := 12) (by decide +kernel)) (by decide +kernel))⟩
theorem l_LH_206 : MV "LeaseHouse" 206 1 m_Thing_endsBefore 1 := ⟨mc_Thing_endsBefore, (gW_of (List.mem_of_getElem? (i := 404) (by decide +kernel)) (by decide +kernel)), (gW_of (List.mem_of_getElem? (i := 405) (by decide +kernel)) (by decide +kernel)), ("LeaseHouse$Thing", F_Thing, 6), rfl, (gW_of (List.mem_of_getElem? (i := 406) (by decide +kernel)) (by decide +kernel))⟩
theorem l_Law_52 : MV "LeaseHouseLaw" 52 0 m_LH_holder 0 := ⟨mc_LH_holder, (gW_of (List.mem_of_getElem? (i := 408) (by decide +kernel)) (by decide +kernel)), (gW_of (List.mem_of_getElem? (i := 409) (by decide +kernel)) (by decide +kernel)), ("LeaseHouse", F_LH, 7), rfl, (gW_of (List.mem_of_getElem? (i := 410) (by decide +kernel)) (by decide +kernel))⟩
theorem l_Law_56 : MV "LeaseHouseLaw" 56 0 m_LH_left 0 := ⟨mc_LH_left, (gW_of (List.mem_of_getElem? (i := 412) (by decide +kernel)) (by decide +kernel)), (gW_of (List.mem_of_getElem? (i := 413) (by decide +kernel)) (by decide +kernel)), ("LeaseHouse", F_LH, 7), rfl, (gW_of (List.mem_of_getElem? (i := 414) (by decide +kernel)) (by decide +kernel))⟩
theorem l_Law_60 : MV "LeaseHouseLaw" 60 0 m_LH_waiting 1 := ⟨mc_LH_waiting, (gW_of (List.mem_of_getElem? (i := 416) (by decide +kernel)) (by decide +kernel)), (gW_of (List.mem_of_getElem? (i := 417) (by decide +kernel)) (by decide +kernel)), ("LeaseHouse", F_LH, 7), rfl, (gW_of (List.mem_of_getElem? (i := 418) (by decide +kernel)) (by decide +kernel))⟩
theorem l_Law_64 : MV "LeaseHouseLaw" 64 0 m_LH_first 0 := ⟨mc_LH_first, (gW_of (List.mem_of_getElem? (i := 420) (by decide +kernel)) (by decide +kernel)), (gW_of (List.mem_of_getElem? (i := 421) (by decide +kernel)) (by decide +kernel)), ("LeaseHouse", F_LH, 7), rfl, (gW_of (List.mem_of_getElem? (i := 422) (by decide +kernel)) (by decide +kernel))⟩
theorem l_Law_68 : MV "LeaseHouseLaw" 68 0 m_LH_job 2 := ⟨mc_LH_job, (gW_of (List.mem_of_getElem? (i := 424) (by decide +kernel)) (by decide +kernel)), (gW_of (List.mem_of_getElem? (i := 425) (by decide +kernel)) (by decide +kernel)), ("LeaseHouse", F_LH, 7), rfl, (gW_of (List.mem_of_getElem? (i := 426) (by decide +kernel)) (by decide +kernel))⟩
theorem l_LH_119 : MIN "LeaseHouse" 119 m_Job_init 3 := ⟨mc_Job_init, ⟨"LeaseHouse", (nW_of (List.mem_of_getElem? (i := 430) (by decide +kernel)) (by decide +kernel))⟩, rfl, (gW_of (List.mem_of_getElem? (i := 431) (by decide +kernel)) (by decide +kernel)), rfl⟩
theorem l_Job_1 : MI "LeaseHouse$Job" 1 m_Rcd_init 0 := ⟨mc_Rcd_init, (gW_of (List.mem_of_getElem? (i := 433) (by decide +kernel)) (by decide +kernel)), rfl, (gW_of (List.mem_of_getElem? (i := 305) (by decide +kernel)) (by decide +kernel)), rfl⟩
theorem l_LH_122 : MV "LeaseHouse" 122 0 m_LH_findTurnOf 1 := ⟨mc_LH_findTurnOf, (gW_of (List.mem_of_getElem? (i := 444) (by decide +kernel)) (by decide +kernel)), (gW_of (List.mem_of_getElem? (i := 446) (by decide +kernel)) (by decide +kernel)), ("LeaseHouse", F_LH, 7), rfl, (gW_of (List.mem_of_getElem? (i := 13) (by decide +kernel)) (by decide +kernel))⟩
theorem l_LH_234 : MV "LeaseHouse" 234 3 m_Job_goesBefore 1 := ⟨mc_Job_goesBefore, (gW_of (List.mem_of_getElem? (i := 448) (by decide +kernel)) (by decide +kernel)), (gW_of (List.mem_of_getElem? (i := 449) (by decide +kernel)) (by decide +kernel)), ("LeaseHouse$Job", F_Job, 3), rfl, (gW_of (List.mem_of_getElem? (i := 450) (by decide +kernel)) (by decide +kernel))⟩
theorem l_LH_126 : MV "LeaseHouse" 126 8 m_AL_addAt 2 := ⟨mc_AL_addAt, (gW_of (List.mem_of_getElem? (i := 452) (by decide +kernel)) (by decide +kernel)), (gW_of (List.mem_of_getElem? (i := 453) (by decide +kernel)) (by decide +kernel)), ("java/util/ArrayList", F_AL, 3), rfl, (gW_of (List.mem_of_getElem? (i := 454) (by decide +kernel)) (by decide +kernel))⟩
theorem l_AL_135 : MV "java/util/ArrayList" 135 8 m_AL_rangeCheckForAdd 1 := ⟨mc_AL_rangeCheckForAdd, (gW_of (List.mem_of_getElem? (i := 456) (by decide +kernel)) (by decide +kernel)), (gW_of (List.mem_of_getElem? (i := 458) (by decide +kernel)) (by decide +kernel)), ("java/util/ArrayList", F_AL, 3), rfl, (gW_of (List.mem_of_getElem? (i := 14) (by decide +kernel)) (by decide +kernel))⟩
theorem l_Law_72 : MV "LeaseHouseLaw" 72 0 m_LH_work 0 := ⟨mc_LH_work, (gW_of (List.mem_of_getElem? (i := 460) (by decide +kernel)) (by decide +kernel)), (gW_of (List.mem_of_getElem? (i := 461) (by decide +kernel)) (by decide +kernel)), ("LeaseHouse", F_LH, 7), rfl, (gW_of (List.mem_of_getElem? (i := 462) (by decide +kernel)) (by decide +kernel))⟩
theorem l_LH_133 : MV "LeaseHouse" 133 3 m_Job_due 0 := ⟨mc_Job_due, (gW_of (List.mem_of_getElem? (i := 464) (by decide +kernel)) (by decide +kernel)), (gW_of (List.mem_of_getElem? (i := 465) (by decide +kernel)) (by decide +kernel)), ("LeaseHouse$Job", F_Job, 3), rfl, (gW_of (List.mem_of_getElem? (i := 466) (by decide +kernel)) (by decide +kernel))⟩
theorem l_LH_138 : MV "LeaseHouse" 138 3 m_Job_name 0 := ⟨mc_Job_name, (gW_of (List.mem_of_getElem? (i := 469) (by decide +kernel)) (by decide +kernel)), (gW_of (List.mem_of_getElem? (i := 470) (by decide +kernel)) (by decide +kernel)), ("LeaseHouse$Job", F_Job, 3), rfl, (gW_of (List.mem_of_getElem? (i := 471) (by decide +kernel)) (by decide +kernel))⟩
theorem l_LH_140 : MV "LeaseHouse" 140 3 m_Job_rank 0 := ⟨mc_Job_rank, (gW_of (List.mem_of_getElem? (i := 473) (by decide +kernel)) (by decide +kernel)), (gW_of (List.mem_of_getElem? (i := 474) (by decide +kernel)) (by decide +kernel)), ("LeaseHouse$Job", F_Job, 3), rfl, (gW_of (List.mem_of_getElem? (i := 475) (by decide +kernel)) (by decide +kernel))⟩
theorem l_Law_77 : MV "LeaseHouseLaw" 77 0 m_LH_cancel 0 := ⟨mc_LH_cancel, (gW_of (List.mem_of_getElem? (i := 477) (by decide +kernel)) (by decide +kernel)), (gW_of (List.mem_of_getElem? (i := 478) (by decide +kernel)) (by decide +kernel)), ("LeaseHouse", F_LH, 7), rfl, (gW_of (List.mem_of_getElem? (i := 479) (by decide +kernel)) (by decide +kernel))⟩
theorem l_Law_81 : MV "LeaseHouseLaw" 81 0 m_LH_ask 0 := ⟨mc_LH_ask, (gW_of (List.mem_of_getElem? (i := 481) (by decide +kernel)) (by decide +kernel)), (gW_of (List.mem_of_getElem? (i := 482) (by decide +kernel)) (by decide +kernel)), ("LeaseHouse", F_LH, 7), rfl, (gW_of (List.mem_of_getElem? (i := 483) (by decide +kernel)) (by decide +kernel))⟩
theorem l_LH_143 : MV "LeaseHouse" 143 0 m_LH_findInCache 1 := ⟨mc_LH_findInCache, (gW_of (List.mem_of_getElem? (i := 485) (by decide +kernel)) (by decide +kernel)), (gW_of (List.mem_of_getElem? (i := 487) (by decide +kernel)) (by decide +kernel)), ("LeaseHouse", F_LH, 7), rfl, (gW_of (List.mem_of_getElem? (i := 15) (by decide +kernel)) (by decide +kernel))⟩
theorem l_LH_238 : MV "LeaseHouse" 238 4 m_Cached_name 0 := ⟨mc_Cached_name, (gW_of (List.mem_of_getElem? (i := 490) (by decide +kernel)) (by decide +kernel)), (gW_of (List.mem_of_getElem? (i := 491) (by decide +kernel)) (by decide +kernel)), ("LeaseHouse$Cached", F_Cached, 2), rfl, (gW_of (List.mem_of_getElem? (i := 492) (by decide +kernel)) (by decide +kernel))⟩
theorem l_LH_148 : MV "LeaseHouse" 148 0 m_LH_changesOf 1 := ⟨mc_LH_changesOf, (gW_of (List.mem_of_getElem? (i := 495) (by decide +kernel)) (by decide +kernel)), (gW_of (List.mem_of_getElem? (i := 497) (by decide +kernel)) (by decide +kernel)), ("LeaseHouse", F_LH, 7), rfl, (gW_of (List.mem_of_getElem? (i := 16) (by decide +kernel)) (by decide +kernel))⟩
theorem l_LH_151 : MIN "LeaseHouse" 151 m_Cached_init 2 := ⟨mc_Cached_init, ⟨"LeaseHouse", (nW_of (List.mem_of_getElem? (i := 499) (by decide +kernel)) (by decide +kernel))⟩, rfl, (gW_of (List.mem_of_getElem? (i := 500) (by decide +kernel)) (by decide +kernel)), rfl⟩
theorem l_Cached_1 : MI "LeaseHouse$Cached" 1 m_Rcd_init 0 := ⟨mc_Rcd_init, (gW_of (List.mem_of_getElem? (i := 502) (by decide +kernel)) (by decide +kernel)), rfl, (gW_of (List.mem_of_getElem? (i := 305) (by decide +kernel)) (by decide +kernel)), rfl⟩
theorem l_LH_157 : MV "LeaseHouse" 157 4 m_Cached_number 0 := ⟨mc_Cached_number, (gW_of (List.mem_of_getElem? (i := 510) (by decide +kernel)) (by decide +kernel)), (gW_of (List.mem_of_getElem? (i := 511) (by decide +kernel)) (by decide +kernel)), ("LeaseHouse$Cached", F_Cached, 2), rfl, (gW_of (List.mem_of_getElem? (i := 512) (by decide +kernel)) (by decide +kernel))⟩
theorem l_Law_85 : MV "LeaseHouseLaw" 85 0 m_LH_known 0 := ⟨mc_LH_known, (gW_of (List.mem_of_getElem? (i := 514) (by decide +kernel)) (by decide +kernel)), (gW_of (List.mem_of_getElem? (i := 515) (by decide +kernel)) (by decide +kernel)), ("LeaseHouse", F_LH, 7), rfl, (gW_of (List.mem_of_getElem? (i := 516) (by decide +kernel)) (by decide +kernel))⟩
theorem l_Law_90 : MV "LeaseHouseLaw" 90 0 m_LH_watch 1 := ⟨mc_LH_watch, (gW_of (List.mem_of_getElem? (i := 518) (by decide +kernel)) (by decide +kernel)), (gW_of (List.mem_of_getElem? (i := 519) (by decide +kernel)) (by decide +kernel)), ("LeaseHouse", F_LH, 7), rfl, (gW_of (List.mem_of_getElem? (i := 520) (by decide +kernel)) (by decide +kernel))⟩
theorem l_LH_163 : MS "LeaseHouse" 163 m_Intg_bitCount 1 := ⟨mc_Intg_bitCount, (gW_of (List.mem_of_getElem? (i := 522) (by decide +kernel)) (by decide +kernel)), (gW_of (List.mem_of_getElem? (i := 523) (by decide +kernel)) (by decide +kernel))⟩
theorem l_Law_94 : MV "LeaseHouseLaw" 94 0 m_LH_note 1 := ⟨mc_LH_note, (gW_of (List.mem_of_getElem? (i := 528) (by decide +kernel)) (by decide +kernel)), (gW_of (List.mem_of_getElem? (i := 529) (by decide +kernel)) (by decide +kernel)), ("LeaseHouse", F_LH, 7), rfl, (gW_of (List.mem_of_getElem? (i := 530) (by decide +kernel)) (by decide +kernel))⟩
theorem l_LH_171 : MV "LeaseHouse" 171 6 m_NoteBox_takeOldest 0 := ⟨mc_NoteBox_takeOldest, (gW_of (List.mem_of_getElem? (i := 532) (by decide +kernel)) (by decide +kernel)), (gW_of (List.mem_of_getElem? (i := 533) (by decide +kernel)) (by decide +kernel)), ("LeaseHouse$NoteBox", F_NoteBox, 1), rfl, (gW_of (List.mem_of_getElem? (i := 534) (by decide +kernel)) (by decide +kernel))⟩
theorem l_NoteBox_30 : MV "LeaseHouse$NoteBox" 30 8 m_AL_isEmpty 0 := ⟨mc_AL_isEmpty, (gW_of (List.mem_of_getElem? (i := 536) (by decide +kernel)) (by decide +kernel)), (gW_of (List.mem_of_getElem? (i := 371) (by decide +kernel)) (by decide +kernel)), ("java/util/ArrayList", F_AL, 3), rfl, (gW_of (List.mem_of_getElem? (i := 372) (by decide +kernel)) (by decide +kernel))⟩
theorem l_LH_175 : MV "LeaseHouse" 175 5 m_Note_name 0 := ⟨mc_Note_name, (gW_of (List.mem_of_getElem? (i := 538) (by decide +kernel)) (by decide +kernel)), (gW_of (List.mem_of_getElem? (i := 539) (by decide +kernel)) (by decide +kernel)), ("LeaseHouse$Note", F_Note, 2), rfl, (gW_of (List.mem_of_getElem? (i := 540) (by decide +kernel)) (by decide +kernel))⟩
theorem l_LH_178 : MV "LeaseHouse" 178 5 m_Note_kind 0 := ⟨mc_Note_kind, (gW_of (List.mem_of_getElem? (i := 542) (by decide +kernel)) (by decide +kernel)), (gW_of (List.mem_of_getElem? (i := 543) (by decide +kernel)) (by decide +kernel)), ("LeaseHouse$Note", F_Note, 2), rfl, (gW_of (List.mem_of_getElem? (i := 544) (by decide +kernel)) (by decide +kernel))⟩
theorem l_Law_98 : MV "LeaseHouseLaw" 98 0 m_LH_waits 2 := ⟨mc_LH_waits, (gW_of (List.mem_of_getElem? (i := 546) (by decide +kernel)) (by decide +kernel)), (gW_of (List.mem_of_getElem? (i := 547) (by decide +kernel)) (by decide +kernel)), ("LeaseHouse", F_LH, 7), rfl, (gW_of (List.mem_of_getElem? (i := 548) (by decide +kernel)) (by decide +kernel))⟩
theorem l_LH_181 : MV "LeaseHouse" 181 7 m_WaitTimes_countFrom 2 := ⟨mc_WaitTimes_countFrom, (gW_of (List.mem_of_getElem? (i := 550) (by decide +kernel)) (by decide +kernel)), (gW_of (List.mem_of_getElem? (i := 551) (by decide +kernel)) (by decide +kernel)), ("LeaseHouse$WaitTimes", F_WaitTimes, 2), rfl, (gW_of (List.mem_of_getElem? (i := 552) (by decide +kernel)) (by decide +kernel))⟩
theorem l_Law_102 : MV "LeaseHouseLaw" 102 0 m_LH_waited 1 := ⟨mc_LH_waited, (gW_of (List.mem_of_getElem? (i := 554) (by decide +kernel)) (by decide +kernel)), (gW_of (List.mem_of_getElem? (i := 555) (by decide +kernel)) (by decide +kernel)), ("LeaseHouse", F_LH, 7), rfl, (gW_of (List.mem_of_getElem? (i := 556) (by decide +kernel)) (by decide +kernel))⟩
theorem l_LH_185 : MV "LeaseHouse" 185 7 m_WaitTimes_greatestUpTo 1 := ⟨mc_WaitTimes_greatestUpTo, (gW_of (List.mem_of_getElem? (i := 558) (by decide +kernel)) (by decide +kernel)), (gW_of (List.mem_of_getElem? (i := 559) (by decide +kernel)) (by decide +kernel)), ("LeaseHouse$WaitTimes", F_WaitTimes, 2), rfl, (gW_of (List.mem_of_getElem? (i := 560) (by decide +kernel)) (by decide +kernel))⟩
theorem l_Law_106 : MV "LeaseHouseLaw" 106 0 m_LH_letter 1 := ⟨mc_LH_letter, (gW_of (List.mem_of_getElem? (i := 562) (by decide +kernel)) (by decide +kernel)), (gW_of (List.mem_of_getElem? (i := 563) (by decide +kernel)) (by decide +kernel)), ("LeaseHouse", F_LH, 7), rfl, (gW_of (List.mem_of_getElem? (i := 564) (by decide +kernel)) (by decide +kernel))⟩
theorem l_Law_110 : MV "LeaseHouseLaw" 110 0 m_LH_count 1 := ⟨mc_LH_count, (gW_of (List.mem_of_getElem? (i := 566) (by decide +kernel)) (by decide +kernel)), (gW_of (List.mem_of_getElem? (i := 567) (by decide +kernel)) (by decide +kernel)), ("LeaseHouse", F_LH, 7), rfl, (gW_of (List.mem_of_getElem? (i := 568) (by decide +kernel)) (by decide +kernel))⟩
theorem l_LH_191 : MV "LeaseHouse" 191 0 m_LH_countLeases 0 := ⟨mc_LH_countLeases, (gW_of (List.mem_of_getElem? (i := 570) (by decide +kernel)) (by decide +kernel)), (gW_of (List.mem_of_getElem? (i := 572) (by decide +kernel)) (by decide +kernel)), ("LeaseHouse", F_LH, 7), rfl, (gW_of (List.mem_of_getElem? (i := 17) (by decide +kernel)) (by decide +kernel))⟩
theorem l_LH_194 : MV "LeaseHouse" 194 0 m_LH_countWaiting 0 := ⟨mc_LH_countWaiting, (gW_of (List.mem_of_getElem? (i := 574) (by decide +kernel)) (by decide +kernel)), (gW_of (List.mem_of_getElem? (i := 576) (by decide +kernel)) (by decide +kernel)), ("LeaseHouse", F_LH, 7), rfl, (gW_of (List.mem_of_getElem? (i := 18) (by decide +kernel)) (by decide +kernel))⟩
theorem l_LH_197 : MV "LeaseHouse" 197 0 m_LH_countWatchedNames 0 := ⟨mc_LH_countWatchedNames, (gW_of (List.mem_of_getElem? (i := 578) (by decide +kernel)) (by decide +kernel)), (gW_of (List.mem_of_getElem? (i := 580) (by decide +kernel)) (by decide +kernel)), ("LeaseHouse", F_LH, 7), rfl, (gW_of (List.mem_of_getElem? (i := 19) (by decide +kernel)) (by decide +kernel))⟩
theorem l_LH_200 : MV "LeaseHouse" 200 0 m_LH_countNotes 0 := ⟨mc_LH_countNotes, (gW_of (List.mem_of_getElem? (i := 582) (by decide +kernel)) (by decide +kernel)), (gW_of (List.mem_of_getElem? (i := 584) (by decide +kernel)) (by decide +kernel)), ("LeaseHouse", F_LH, 7), rfl, (gW_of (List.mem_of_getElem? (i := 20) (by decide +kernel)) (by decide +kernel))⟩
theorem l_LH_239 : MV "LeaseHouse" 239 6 m_NoteBox_size 0 := ⟨mc_NoteBox_size, (gW_of (List.mem_of_getElem? (i := 586) (by decide +kernel)) (by decide +kernel)), (gW_of (List.mem_of_getElem? (i := 587) (by decide +kernel)) (by decide +kernel)), ("LeaseHouse$NoteBox", F_NoteBox, 1), rfl, (gW_of (List.mem_of_getElem? (i := 588) (by decide +kernel)) (by decide +kernel))⟩
theorem l_Law_9 : MS "LeaseHouseLaw" 9 m_Law_cell 2 := ⟨mc_Law_cell, (gW_of (List.mem_of_getElem? (i := 590) (by decide +kernel)) (by decide +kernel)), (gW_of (List.mem_of_getElem? (i := 591) (by decide +kernel)) (by decide +kernel))⟩
theorem l_Law_20 : MI "LeaseHouseLaw" 20 m_Mo_init 1 := ⟨mc_Mo_init, (gW_of (List.mem_of_getElem? (i := 595) (by decide +kernel)) (by decide +kernel)), rfl, (gW_of (List.mem_of_getElem? (i := 596) (by decide +kernel)) (by decide +kernel)), rfl⟩
theorem l_Mo_1 : Cond.methodLink "LeaseHouseModel" 1 Lib.objectInit ∈ gW := (gW_of (List.mem_of_getElem? (i := 598) (by decide +kernel)) (by decide +kernel))
theorem l_Law_25 : MV "LeaseHouseLaw" 25 9 m_Mo_sign 1 := ⟨mc_Mo_sign, (gW_of (List.mem_of_getElem? (i := 683) (by decide +kernel)) (by decide +kernel)), (gW_of (List.mem_of_getElem? (i := 684) (by decide +kernel)) (by decide +kernel)), ("LeaseHouseModel", F_Mo, 27), rfl, (gW_of (List.mem_of_getElem? (i := 685) (by decide +kernel)) (by decide +kernel))⟩
theorem l_Law_30 : MV "LeaseHouseLaw" 30 9 m_Mo_erase 0 := ⟨mc_Mo_erase, (gW_of (List.mem_of_getElem? (i := 687) (by decide +kernel)) (by decide +kernel)), (gW_of (List.mem_of_getElem? (i := 688) (by decide +kernel)) (by decide +kernel)), ("LeaseHouseModel", F_Mo, 27), rfl, (gW_of (List.mem_of_getElem? (i := 689) (by decide +kernel)) (by decide +kernel))⟩
theorem l_Law_35 : MV "LeaseHouseLaw" 35 9 m_Mo_want 2 := ⟨mc_Mo_want, (gW_of (List.mem_of_getElem? (i := 691) (by decide +kernel)) (by decide +kernel)), (gW_of (List.mem_of_getElem? (i := 692) (by decide +kernel)) (by decide +kernel)), ("LeaseHouseModel", F_Mo, 27), rfl, (gW_of (List.mem_of_getElem? (i := 693) (by decide +kernel)) (by decide +kernel))⟩
theorem l_Mo_105 : MS "LeaseHouseModel" 105 m_Mo_isClient 1 := ⟨mc_Mo_isClient, (gW_of (List.mem_of_getElem? (i := 695) (by decide +kernel)) (by decide +kernel)), (gW_of (List.mem_of_getElem? (i := 696) (by decide +kernel)) (by decide +kernel))⟩
theorem l_Mo_109 : MV "LeaseHouseModel" 109 9 m_Mo_here 0 := ⟨mc_Mo_here, (gW_of (List.mem_of_getElem? (i := 698) (by decide +kernel)) (by decide +kernel)), (gW_of (List.mem_of_getElem? (i := 700) (by decide +kernel)) (by decide +kernel)), ("LeaseHouseModel", F_Mo, 27), rfl, (gW_of (List.mem_of_getElem? (i := 21) (by decide +kernel)) (by decide +kernel))⟩
theorem l_Mo_81 : MV "LeaseHouseModel" 81 9 m_Mo_code 0 := ⟨mc_Mo_code, (gW_of (List.mem_of_getElem? (i := 702) (by decide +kernel)) (by decide +kernel)), (gW_of (List.mem_of_getElem? (i := 704) (by decide +kernel)) (by decide +kernel)), ("LeaseHouseModel", F_Mo, 27), rfl, (gW_of (List.mem_of_getElem? (i := 22) (by decide +kernel)) (by decide +kernel))⟩
theorem l_Mo_92 : MV "LeaseHouseModel" 92 9 m_Mo_change 2 := ⟨mc_Mo_change, (gW_of (List.mem_of_getElem? (i := 707) (by decide +kernel)) (by decide +kernel)), (gW_of (List.mem_of_getElem? (i := 709) (by decide +kernel)) (by decide +kernel)), ("LeaseHouseModel", F_Mo, 27), rfl, (gW_of (List.mem_of_getElem? (i := 23) (by decide +kernel)) (by decide +kernel))⟩
theorem l_Mo_88 : MV "LeaseHouseModel" 88 9 m_Mo_drop 1 := ⟨mc_Mo_drop, (gW_of (List.mem_of_getElem? (i := 711) (by decide +kernel)) (by decide +kernel)), (gW_of (List.mem_of_getElem? (i := 713) (by decide +kernel)) (by decide +kernel)), ("LeaseHouseModel", F_Mo, 27), rfl, (gW_of (List.mem_of_getElem? (i := 24) (by decide +kernel)) (by decide +kernel))⟩
theorem l_Mo_113 : MV "LeaseHouseModel" 113 9 m_Mo_place 2 := ⟨mc_Mo_place, (gW_of (List.mem_of_getElem? (i := 715) (by decide +kernel)) (by decide +kernel)), (gW_of (List.mem_of_getElem? (i := 717) (by decide +kernel)) (by decide +kernel)), ("LeaseHouseModel", F_Mo, 27), rfl, (gW_of (List.mem_of_getElem? (i := 25) (by decide +kernel)) (by decide +kernel))⟩
theorem l_Law_39 : MV "LeaseHouseLaw" 39 9 m_Mo_free 1 := ⟨mc_Mo_free, (gW_of (List.mem_of_getElem? (i := 719) (by decide +kernel)) (by decide +kernel)), (gW_of (List.mem_of_getElem? (i := 720) (by decide +kernel)) (by decide +kernel)), ("LeaseHouseModel", F_Mo, 27), rfl, (gW_of (List.mem_of_getElem? (i := 721) (by decide +kernel)) (by decide +kernel))⟩
theorem l_Mo_117 : MV "LeaseHouseModel" 117 9 m_Mo_end 1 := ⟨mc_Mo_end, (gW_of (List.mem_of_getElem? (i := 723) (by decide +kernel)) (by decide +kernel)), (gW_of (List.mem_of_getElem? (i := 725) (by decide +kernel)) (by decide +kernel)), ("LeaseHouseModel", F_Mo, 27), rfl, (gW_of (List.mem_of_getElem? (i := 26) (by decide +kernel)) (by decide +kernel))⟩
theorem l_Mo_102 : MV "LeaseHouseModel" 102 9 m_Mo_out 2 := ⟨mc_Mo_out, (gW_of (List.mem_of_getElem? (i := 727) (by decide +kernel)) (by decide +kernel)), (gW_of (List.mem_of_getElem? (i := 729) (by decide +kernel)) (by decide +kernel)), ("LeaseHouseModel", F_Mo, 27), rfl, (gW_of (List.mem_of_getElem? (i := 27) (by decide +kernel)) (by decide +kernel))⟩
theorem l_Law_43 : MV "LeaseHouseLaw" 43 9 m_Mo_renew 2 := ⟨mc_Mo_renew, (gW_of (List.mem_of_getElem? (i := 731) (by decide +kernel)) (by decide +kernel)), (gW_of (List.mem_of_getElem? (i := 732) (by decide +kernel)) (by decide +kernel)), ("LeaseHouseModel", F_Mo, 27), rfl, (gW_of (List.mem_of_getElem? (i := 733) (by decide +kernel)) (by decide +kernel))⟩
theorem l_Law_47 : MV "LeaseHouseLaw" 47 9 m_Mo_leave 1 := ⟨mc_Mo_leave, (gW_of (List.mem_of_getElem? (i := 735) (by decide +kernel)) (by decide +kernel)), (gW_of (List.mem_of_getElem? (i := 736) (by decide +kernel)) (by decide +kernel)), ("LeaseHouseModel", F_Mo, 27), rfl, (gW_of (List.mem_of_getElem? (i := 737) (by decide +kernel)) (by decide +kernel))⟩
theorem l_Law_51 : MV "LeaseHouseLaw" 51 9 m_Mo_tick 1 := ⟨mc_Mo_tick, (gW_of (List.mem_of_getElem? (i := 739) (by decide +kernel)) (by decide +kernel)), (gW_of (List.mem_of_getElem? (i := 740) (by decide +kernel)) (by decide +kernel)), ("LeaseHouseModel", F_Mo, 27), rfl, (gW_of (List.mem_of_getElem? (i := 741) (by decide +kernel)) (by decide +kernel))⟩
theorem l_Mo_120 : MV "LeaseHouseModel" 120 9 m_Mo_next 0 := ⟨mc_Mo_next, (gW_of (List.mem_of_getElem? (i := 743) (by decide +kernel)) (by decide +kernel)), (gW_of (List.mem_of_getElem? (i := 745) (by decide +kernel)) (by decide +kernel)), ("LeaseHouseModel", F_Mo, 27), rfl, (gW_of (List.mem_of_getElem? (i := 28) (by decide +kernel)) (by decide +kernel))⟩
theorem l_Law_55 : MV "LeaseHouseLaw" 55 9 m_Mo_holder 0 := ⟨mc_Mo_holder, (gW_of (List.mem_of_getElem? (i := 747) (by decide +kernel)) (by decide +kernel)), (gW_of (List.mem_of_getElem? (i := 748) (by decide +kernel)) (by decide +kernel)), ("LeaseHouseModel", F_Mo, 27), rfl, (gW_of (List.mem_of_getElem? (i := 749) (by decide +kernel)) (by decide +kernel))⟩
theorem l_Law_59 : MV "LeaseHouseLaw" 59 9 m_Mo_left 0 := ⟨mc_Mo_left, (gW_of (List.mem_of_getElem? (i := 751) (by decide +kernel)) (by decide +kernel)), (gW_of (List.mem_of_getElem? (i := 752) (by decide +kernel)) (by decide +kernel)), ("LeaseHouseModel", F_Mo, 27), rfl, (gW_of (List.mem_of_getElem? (i := 753) (by decide +kernel)) (by decide +kernel))⟩
theorem l_Law_63 : MV "LeaseHouseLaw" 63 9 m_Mo_waiting 1 := ⟨mc_Mo_waiting, (gW_of (List.mem_of_getElem? (i := 755) (by decide +kernel)) (by decide +kernel)), (gW_of (List.mem_of_getElem? (i := 756) (by decide +kernel)) (by decide +kernel)), ("LeaseHouseModel", F_Mo, 27), rfl, (gW_of (List.mem_of_getElem? (i := 757) (by decide +kernel)) (by decide +kernel))⟩
theorem l_Law_67 : MV "LeaseHouseLaw" 67 9 m_Mo_first 0 := ⟨mc_Mo_first, (gW_of (List.mem_of_getElem? (i := 759) (by decide +kernel)) (by decide +kernel)), (gW_of (List.mem_of_getElem? (i := 760) (by decide +kernel)) (by decide +kernel)), ("LeaseHouseModel", F_Mo, 27), rfl, (gW_of (List.mem_of_getElem? (i := 761) (by decide +kernel)) (by decide +kernel))⟩
theorem l_Mo_123 : MV "LeaseHouseModel" 123 9 m_Mo_write 1 := ⟨mc_Mo_write, (gW_of (List.mem_of_getElem? (i := 763) (by decide +kernel)) (by decide +kernel)), (gW_of (List.mem_of_getElem? (i := 765) (by decide +kernel)) (by decide +kernel)), ("LeaseHouseModel", F_Mo, 27), rfl, (gW_of (List.mem_of_getElem? (i := 29) (by decide +kernel)) (by decide +kernel))⟩
theorem l_Law_71 : MV "LeaseHouseLaw" 71 9 m_Mo_job 2 := ⟨mc_Mo_job, (gW_of (List.mem_of_getElem? (i := 767) (by decide +kernel)) (by decide +kernel)), (gW_of (List.mem_of_getElem? (i := 768) (by decide +kernel)) (by decide +kernel)), ("LeaseHouseModel", F_Mo, 27), rfl, (gW_of (List.mem_of_getElem? (i := 769) (by decide +kernel)) (by decide +kernel))⟩
theorem l_Law_76 : MV "LeaseHouseLaw" 76 9 m_Mo_work 0 := ⟨mc_Mo_work, (gW_of (List.mem_of_getElem? (i := 771) (by decide +kernel)) (by decide +kernel)), (gW_of (List.mem_of_getElem? (i := 772) (by decide +kernel)) (by decide +kernel)), ("LeaseHouseModel", F_Mo, 27), rfl, (gW_of (List.mem_of_getElem? (i := 773) (by decide +kernel)) (by decide +kernel))⟩
theorem l_Mo_131 : MV "LeaseHouseModel" 131 9 m_Mo_gone 1 := ⟨mc_Mo_gone, (gW_of (List.mem_of_getElem? (i := 776) (by decide +kernel)) (by decide +kernel)), (gW_of (List.mem_of_getElem? (i := 778) (by decide +kernel)) (by decide +kernel)), ("LeaseHouseModel", F_Mo, 27), rfl, (gW_of (List.mem_of_getElem? (i := 30) (by decide +kernel)) (by decide +kernel))⟩
theorem l_Law_80 : MV "LeaseHouseLaw" 80 9 m_Mo_cancel 0 := ⟨mc_Mo_cancel, (gW_of (List.mem_of_getElem? (i := 780) (by decide +kernel)) (by decide +kernel)), (gW_of (List.mem_of_getElem? (i := 781) (by decide +kernel)) (by decide +kernel)), ("LeaseHouseModel", F_Mo, 27), rfl, (gW_of (List.mem_of_getElem? (i := 782) (by decide +kernel)) (by decide +kernel))⟩
theorem l_Law_84 : MV "LeaseHouseLaw" 84 9 m_Mo_ask 0 := ⟨mc_Mo_ask, (gW_of (List.mem_of_getElem? (i := 784) (by decide +kernel)) (by decide +kernel)), (gW_of (List.mem_of_getElem? (i := 785) (by decide +kernel)) (by decide +kernel)), ("LeaseHouseModel", F_Mo, 27), rfl, (gW_of (List.mem_of_getElem? (i := 786) (by decide +kernel)) (by decide +kernel))⟩
theorem l_Mo_137 : MV "LeaseHouseModel" 137 9 m_Mo_inCache 1 := ⟨mc_Mo_inCache, (gW_of (List.mem_of_getElem? (i := 788) (by decide +kernel)) (by decide +kernel)), (gW_of (List.mem_of_getElem? (i := 790) (by decide +kernel)) (by decide +kernel)), ("LeaseHouseModel", F_Mo, 27), rfl, (gW_of (List.mem_of_getElem? (i := 31) (by decide +kernel)) (by decide +kernel))⟩
theorem l_Law_89 : MV "LeaseHouseLaw" 89 9 m_Mo_known 0 := ⟨mc_Mo_known, (gW_of (List.mem_of_getElem? (i := 792) (by decide +kernel)) (by decide +kernel)), (gW_of (List.mem_of_getElem? (i := 793) (by decide +kernel)) (by decide +kernel)), ("LeaseHouseModel", F_Mo, 27), rfl, (gW_of (List.mem_of_getElem? (i := 794) (by decide +kernel)) (by decide +kernel))⟩
theorem l_Law_93 : MV "LeaseHouseLaw" 93 9 m_Mo_watch 1 := ⟨mc_Mo_watch, (gW_of (List.mem_of_getElem? (i := 796) (by decide +kernel)) (by decide +kernel)), (gW_of (List.mem_of_getElem? (i := 797) (by decide +kernel)) (by decide +kernel)), ("LeaseHouseModel", F_Mo, 27), rfl, (gW_of (List.mem_of_getElem? (i := 798) (by decide +kernel)) (by decide +kernel))⟩
theorem l_Law_97 : MV "LeaseHouseLaw" 97 9 m_Mo_note 1 := ⟨mc_Mo_note, (gW_of (List.mem_of_getElem? (i := 800) (by decide +kernel)) (by decide +kernel)), (gW_of (List.mem_of_getElem? (i := 801) (by decide +kernel)) (by decide +kernel)), ("LeaseHouseModel", F_Mo, 27), rfl, (gW_of (List.mem_of_getElem? (i := 802) (by decide +kernel)) (by decide +kernel))⟩
theorem l_Law_101 : MV "LeaseHouseLaw" 101 9 m_Mo_waits 2 := ⟨mc_Mo_waits, (gW_of (List.mem_of_getElem? (i := 804) (by decide +kernel)) (by decide +kernel)), (gW_of (List.mem_of_getElem? (i := 805) (by decide +kernel)) (by decide +kernel)), ("LeaseHouseModel", F_Mo, 27), rfl, (gW_of (List.mem_of_getElem? (i := 806) (by decide +kernel)) (by decide +kernel))⟩
theorem l_Law_105 : MV "LeaseHouseLaw" 105 9 m_Mo_waited 1 := ⟨mc_Mo_waited, (gW_of (List.mem_of_getElem? (i := 808) (by decide +kernel)) (by decide +kernel)), (gW_of (List.mem_of_getElem? (i := 809) (by decide +kernel)) (by decide +kernel)), ("LeaseHouseModel", F_Mo, 27), rfl, (gW_of (List.mem_of_getElem? (i := 810) (by decide +kernel)) (by decide +kernel))⟩
theorem l_Law_109 : MV "LeaseHouseLaw" 109 9 m_Mo_letter 1 := ⟨mc_Mo_letter, (gW_of (List.mem_of_getElem? (i := 812) (by decide +kernel)) (by decide +kernel)), (gW_of (List.mem_of_getElem? (i := 813) (by decide +kernel)) (by decide +kernel)), ("LeaseHouseModel", F_Mo, 27), rfl, (gW_of (List.mem_of_getElem? (i := 814) (by decide +kernel)) (by decide +kernel))⟩
theorem l_Law_113 : MV "LeaseHouseLaw" 113 9 m_Mo_count 1 := ⟨mc_Mo_count, (gW_of (List.mem_of_getElem? (i := 816) (by decide +kernel)) (by decide +kernel)), (gW_of (List.mem_of_getElem? (i := 817) (by decide +kernel)) (by decide +kernel)), ("LeaseHouseModel", F_Mo, 27), rfl, (gW_of (List.mem_of_getElem? (i := 818) (by decide +kernel)) (by decide +kernel))⟩
theorem oi_1 : Cond.instanceMethod Lib.objectInit ∈ gW := (gW_of (List.mem_of_getElem? (i := 59) (by decide +kernel)) (by decide +kernel))
theorem oi_2 : Cond.code Lib.objectInit ⟨#[0xb1]⟩ 1 none ∈ gW := (gW_of (List.mem_of_getElem? (i := 60) (by decide +kernel)) (by decide +kernel))
theorem ac_1 : Cond.native arraycopyName ∈ gW := (gW_of (List.mem_of_getElem? (i := 277) (by decide +kernel)) (by decide +kernel))
theorem ac_2 : Cond.static arraycopyName ∈ gW := (gW_of (List.mem_of_getElem? (i := 276) (by decide +kernel)) (by decide +kernel))
theorem ac_3 : Cond.initialized "java/lang/System" ∈ gW := (gW_of (List.mem_of_getElem? (i := 46) (by decide +kernel)) (by decide +kernel))
theorem mx_max1 : Cond.static Lib.Math.max.name ∈ gW := (gW_of (List.mem_of_getElem? (i := 243) (by decide +kernel)) (by decide +kernel))
theorem mx_max2 : Cond.code Lib.Math.max.name Lib.Math.max.code 2 (some .int) ∈ gW := (gW_of (List.mem_of_getElem? (i := 244) (by decide +kernel)) (by decide +kernel))
theorem mx_min1 : Cond.static Lib.Math.min.name ∈ gW := (gW_of (List.mem_of_getElem? (i := 273) (by decide +kernel)) (by decide +kernel))
theorem mx_min2 : Cond.code Lib.Math.min.name Lib.Math.min.code 2 (some .int) ∈ gW := (gW_of (List.mem_of_getElem? (i := 274) (by decide +kernel)) (by decide +kernel))
theorem mx_i : Cond.initialized "java/lang/Math" ∈ gW := (gW_of (List.mem_of_getElem? (i := 44) (by decide +kernel)) (by decide +kernel))
theorem gc_1 : Cond.selects "[Ljava/lang/Object;" ⟨"java/lang/Object", "getClass", "()Ljava/lang/Class;"⟩ ⟨"java/lang/Object", "getClass", "()Ljava/lang/Class;"⟩ ∈ gW := (gW_of (List.mem_of_getElem? (i := 826) (by decide +kernel)) (by decide +kernel))
theorem gc_2 : Cond.instanceMethod ⟨"java/lang/Object", "getClass", "()Ljava/lang/Class;"⟩ ∈ gW := (gW_of (List.mem_of_getElem? (i := 253) (by decide +kernel)) (by decide +kernel))
theorem gc_3 : Cond.native ⟨"java/lang/Object", "getClass", "()Ljava/lang/Class;"⟩ ∈ gW := (gW_of (List.mem_of_getElem? (i := 265) (by decide +kernel)) (by decide +kernel))
theorem cl_Law_7 : Cond.classLink "LeaseHouseLaw" 7 "LeaseHouse" ∈ gW := (gW_of (List.mem_of_getElem? (i := 53) (by decide +kernel)) (by decide +kernel))
theorem n_Law_7 : NL "LeaseHouseLaw" 7 0 [.null, .null, .null, .null, .null, .int 0, .int 0] := ⟨("LeaseHouse", F_LH, 7), rfl, ck_LH.1, ⟨t_LH, by decide +kernel, by decide +kernel⟩, cl_Law_7, (gW_of (List.mem_of_getElem? (i := 54) (by decide +kernel)) (by decide +kernel)), (gW_of (List.mem_of_getElem? (i := 33) (by decide +kernel)) (by decide +kernel)), rfl⟩
theorem cl_LH_7 : Cond.classLink "LeaseHouse" 7 "java/util/ArrayList" ∈ gW := (gW_of (List.mem_of_getElem? (i := 61) (by decide +kernel)) (by decide +kernel))
theorem n_LH_7 : NL "LeaseHouse" 7 8 [.int 0, .null, .int 0] := ⟨("java/util/ArrayList", F_AL, 3), rfl, ck_AL.1, ⟨t_AL, by decide +kernel, by decide +kernel⟩, cl_LH_7, (gW_of (List.mem_of_getElem? (i := 62) (by decide +kernel)) (by decide +kernel)), (gW_of (List.mem_of_getElem? (i := 36) (by decide +kernel)) (by decide +kernel)), rfl⟩
theorem cl_LH_22 : Cond.classLink "LeaseHouse" 22 "LeaseHouse$NoteBox" ∈ gW := (gW_of (List.mem_of_getElem? (i := 87) (by decide +kernel)) (by decide +kernel))
theorem n_LH_22 : NL "LeaseHouse" 22 6 [.null] := ⟨("LeaseHouse$NoteBox", F_NoteBox, 1), rfl, ck_NoteBox.1, ⟨t_NoteBox, by decide +kernel, by decide +kernel⟩, cl_LH_22, (gW_of (List.mem_of_getElem? (i := 103) (by decide +kernel)) (by decide +kernel)), (gW_of (List.mem_of_getElem? (i := 38) (by decide +kernel)) (by decide +kernel)), rfl⟩
theorem ao_NoteBox : Cond.arrayOver (.object "LeaseHouse$NoteBox") ∈ nW := (nW_of (List.mem_of_getElem? (i := 88) (by decide +kernel)) (by decide +kernel))
theorem cl_LH_28 : Cond.classLink "LeaseHouse" 28 "LeaseHouse$WaitTimes" ∈ gW := (gW_of (List.mem_of_getElem? (i := 89) (by decide +kernel)) (by decide +kernel))
theorem n_LH_28 : NL "LeaseHouse" 28 7 [.null, .int 0] := ⟨("LeaseHouse$WaitTimes", F_WaitTimes, 2), rfl, ck_WaitTimes.1, ⟨t_WaitTimes, by decide +kernel, by decide +kernel⟩, cl_LH_28, (gW_of (List.mem_of_getElem? (i := 90) (by decide +kernel)) (by decide +kernel)), (gW_of (List.mem_of_getElem? (i := 37) (by decide +kernel)) (by decide +kernel)), rfl⟩
theorem ay_int : Cond.arrayClass .int ∈ gW := (gW_of (List.mem_of_getElem? (i := 102) (by decide +kernel)) (by decide +kernel))
theorem cl_NoteBox_9 : Cond.classLink "LeaseHouse$NoteBox" 9 "java/util/ArrayList" ∈ gW := (gW_of (List.mem_of_getElem? (i := 108) (by decide +kernel)) (by decide +kernel))
theorem n_NoteBox_9 : NL "LeaseHouse$NoteBox" 9 8 [.int 0, .null, .int 0] := ⟨("java/util/ArrayList", F_AL, 3), rfl, ck_AL.1, ⟨t_AL, by decide +kernel, by decide +kernel⟩, cl_NoteBox_9, (gW_of (List.mem_of_getElem? (i := 62) (by decide +kernel)) (by decide +kernel)), (gW_of (List.mem_of_getElem? (i := 36) (by decide +kernel)) (by decide +kernel)), rfl⟩
theorem cl_LH_59 : Cond.classLink "LeaseHouse" 59 "LeaseHouse$Thing" ∈ gW := (gW_of (List.mem_of_getElem? (i := 190) (by decide +kernel)) (by decide +kernel))
theorem n_LH_59 : NL "LeaseHouse" 59 1 [.int 0, .null, .int 0, .int 0, .int 0, .int 0] := ⟨("LeaseHouse$Thing", F_Thing, 6), rfl, ck_Thing.1, ⟨t_Thing, by decide +kernel, by decide +kernel⟩, cl_LH_59, (gW_of (List.mem_of_getElem? (i := 191) (by decide +kernel)) (by decide +kernel)), (gW_of (List.mem_of_getElem? (i := 42) (by decide +kernel)) (by decide +kernel)), rfl⟩
theorem cl_Thing_9 : Cond.classLink "LeaseHouse$Thing" 9 "java/util/ArrayList" ∈ gW := (gW_of (List.mem_of_getElem? (i := 196) (by decide +kernel)) (by decide +kernel))
theorem n_Thing_9 : NL "LeaseHouse$Thing" 9 8 [.int 0, .null, .int 0] := ⟨("java/util/ArrayList", F_AL, 3), rfl, ck_AL.1, ⟨t_AL, by decide +kernel, by decide +kernel⟩, cl_Thing_9, (gW_of (List.mem_of_getElem? (i := 62) (by decide +kernel)) (by decide +kernel)), (gW_of (List.mem_of_getElem? (i := 36) (by decide +kernel)) (by decide +kernel)), rfl⟩
theorem k_AS_200 : Cond.constant "jdk/internal/util/ArraysSupport" 200 2147483639 ∈ gW := (gW_of (List.mem_of_getElem? (i := 245) (by decide +kernel)) (by decide +kernel))
theorem cl_Arrs_110 : Cond.classLink "java/util/Arrays" 110 "[Ljava/lang/Object;" ∈ gW := (gW_of (List.mem_of_getElem? (i := 269) (by decide +kernel)) (by decide +kernel))
theorem ao_Obj : Cond.arrayOver (.object "java/lang/Object") ∈ nW := (nW_of (List.mem_of_getElem? (i := 270) (by decide +kernel)) (by decide +kernel))
theorem cl_Arrs_2 : Cond.classLink "java/util/Arrays" 2 "java/lang/Object" ∈ gW := (gW_of (List.mem_of_getElem? (i := 271) (by decide +kernel)) (by decide +kernel))
theorem cl_AL_7 : Cond.classLink "java/util/ArrayList" 7 "java/lang/Object" ∈ gW := (gW_of (List.mem_of_getElem? (i := 279) (by decide +kernel)) (by decide +kernel))
theorem cl_Thing_42 : Cond.classLink "LeaseHouse$Thing" 42 "LeaseHouse$Waiter" ∈ gW := (gW_of (List.mem_of_getElem? (i := 294) (by decide +kernel)) (by decide +kernel))
theorem n_Thing_42 : NL "LeaseHouse$Thing" 42 2 [.int 0, .int 0, .int 0] := ⟨("LeaseHouse$Waiter", F_Waiter, 3), rfl, ck_Waiter.1, ⟨t_Waiter, by decide +kernel, by decide +kernel⟩, cl_Thing_42, (gW_of (List.mem_of_getElem? (i := 300) (by decide +kernel)) (by decide +kernel)), (gW_of (List.mem_of_getElem? (i := 48) (by decide +kernel)) (by decide +kernel)), rfl⟩
theorem cl_LH_109 : Cond.classLink "LeaseHouse" 109 "LeaseHouse$Waiter" ∈ gW := (gW_of (List.mem_of_getElem? (i := 299) (by decide +kernel)) (by decide +kernel))
theorem n_LH_109 : NL "LeaseHouse" 109 2 [.int 0, .int 0, .int 0] := ⟨("LeaseHouse$Waiter", F_Waiter, 3), rfl, ck_Waiter.1, ⟨t_Waiter, by decide +kernel, by decide +kernel⟩, cl_LH_109, (gW_of (List.mem_of_getElem? (i := 300) (by decide +kernel)) (by decide +kernel)), (gW_of (List.mem_of_getElem? (i := 48) (by decide +kernel)) (by decide +kernel)), rfl⟩
theorem cl_LH_176 : Cond.classLink "LeaseHouse" 176 "LeaseHouse$Note" ∈ gW := (gW_of (List.mem_of_getElem? (i := 326) (by decide +kernel)) (by decide +kernel))
theorem n_LH_176 : NL "LeaseHouse" 176 5 [.int 0, .int 0] := ⟨("LeaseHouse$Note", F_Note, 2), rfl, ck_Note.1, ⟨t_Note, by decide +kernel, by decide +kernel⟩, cl_LH_176, (gW_of (List.mem_of_getElem? (i := 327) (by decide +kernel)) (by decide +kernel)), (gW_of (List.mem_of_getElem? (i := 49) (by decide +kernel)) (by decide +kernel)), rfl⟩
theorem cl_LH_117 : Cond.classLink "LeaseHouse" 117 "LeaseHouse$Job" ∈ gW := (gW_of (List.mem_of_getElem? (i := 428) (by decide +kernel)) (by decide +kernel))
theorem n_LH_117 : NL "LeaseHouse" 117 3 [.int 0, .int 0, .int 0] := ⟨("LeaseHouse$Job", F_Job, 3), rfl, ck_Job.1, ⟨t_Job, by decide +kernel, by decide +kernel⟩, cl_LH_117, (gW_of (List.mem_of_getElem? (i := 429) (by decide +kernel)) (by decide +kernel)), (gW_of (List.mem_of_getElem? (i := 50) (by decide +kernel)) (by decide +kernel)), rfl⟩
theorem k_LH_136 : Cond.constantLong "LeaseHouse" 136 1099511627776 ∈ gW := (gW_of (List.mem_of_getElem? (i := 468) (by decide +kernel)) (by decide +kernel))
theorem cl_LH_146 : Cond.classLink "LeaseHouse" 146 "LeaseHouse$Cached" ∈ gW := (gW_of (List.mem_of_getElem? (i := 489) (by decide +kernel)) (by decide +kernel))
theorem n_LH_146 : NL "LeaseHouse" 146 4 [.int 0, .int 0] := ⟨("LeaseHouse$Cached", F_Cached, 2), rfl, ck_Cached.1, ⟨t_Cached, by decide +kernel, by decide +kernel⟩, cl_LH_146, (gW_of (List.mem_of_getElem? (i := 494) (by decide +kernel)) (by decide +kernel)), (gW_of (List.mem_of_getElem? (i := 51) (by decide +kernel)) (by decide +kernel)), rfl⟩
theorem k_Intg_265 : Cond.constant "java/lang/Integer" 265 1431655765 ∈ gW := (gW_of (List.mem_of_getElem? (i := 525) (by decide +kernel)) (by decide +kernel))
theorem k_Intg_266 : Cond.constant "java/lang/Integer" 266 858993459 ∈ gW := (gW_of (List.mem_of_getElem? (i := 526) (by decide +kernel)) (by decide +kernel))
theorem k_Intg_267 : Cond.constant "java/lang/Integer" 267 252645135 ∈ gW := (gW_of (List.mem_of_getElem? (i := 527) (by decide +kernel)) (by decide +kernel))
theorem cl_NoteBox_34 : Cond.classLink "LeaseHouse$NoteBox" 34 "LeaseHouse$Note" ∈ gW := (gW_of (List.mem_of_getElem? (i := 537) (by decide +kernel)) (by decide +kernel))
theorem n_NoteBox_34 : NL "LeaseHouse$NoteBox" 34 5 [.int 0, .int 0] := ⟨("LeaseHouse$Note", F_Note, 2), rfl, ck_Note.1, ⟨t_Note, by decide +kernel, by decide +kernel⟩, cl_NoteBox_34, (gW_of (List.mem_of_getElem? (i := 327) (by decide +kernel)) (by decide +kernel)), (gW_of (List.mem_of_getElem? (i := 49) (by decide +kernel)) (by decide +kernel)), rfl⟩
theorem cl_Law_18 : Cond.classLink "LeaseHouseLaw" 18 "LeaseHouseModel" ∈ gW := (gW_of (List.mem_of_getElem? (i := 593) (by decide +kernel)) (by decide +kernel))
theorem n_Law_18 : NL "LeaseHouseLaw" 18 9 [.null, .null, .null, .null, .null, .null, .null, .null, .null, .null, .null, .null, .null, .null, .null, .null, .null, .null, .null, .null, .null, .int 0, .int 0, .int 0, .int 0, .int 0, .int 0] := ⟨("LeaseHouseModel", F_Mo, 27), rfl, ck_Mo.1, ⟨t_Mo, by decide +kernel, by decide +kernel⟩, cl_Law_18, (gW_of (List.mem_of_getElem? (i := 594) (by decide +kernel)) (by decide +kernel)), (gW_of (List.mem_of_getElem? (i := 39) (by decide +kernel)) (by decide +kernel)), rfl⟩
theorem k_Mo_23 : Cond.constant "LeaseHouseModel" 23 67200 ∈ gW := (gW_of (List.mem_of_getElem? (i := 599) (by decide +kernel)) (by decide +kernel))
theorem ay_long : Cond.arrayClass .long ∈ gW := (gW_of (List.mem_of_getElem? (i := 682) (by decide +kernel)) (by decide +kernel))
theorem k_Mo_79 : Cond.constantLong "LeaseHouseModel" 79 27 ∈ gW := (gW_of (List.mem_of_getElem? (i := 706) (by decide +kernel)) (by decide +kernel))
theorem k_Mo_129 : Cond.constantLong "LeaseHouseModel" 129 1099511627776 ∈ gW := (gW_of (List.mem_of_getElem? (i := 775) (by decide +kernel)) (by decide +kernel))
theorem ca_Thing_Thing : Cond.castable "LeaseHouse$Thing" "LeaseHouse$Thing" ∈ nW := (nW_of (List.mem_of_getElem? (i := 820) (by decide +kernel)) (by decide +kernel))
theorem ca_Waiter_Waiter : Cond.castable "LeaseHouse$Waiter" "LeaseHouse$Waiter" ∈ nW := (nW_of (List.mem_of_getElem? (i := 821) (by decide +kernel)) (by decide +kernel))
theorem ca_Job_Job : Cond.castable "LeaseHouse$Job" "LeaseHouse$Job" ∈ nW := (nW_of (List.mem_of_getElem? (i := 822) (by decide +kernel)) (by decide +kernel))
theorem ca_Cached_Cached : Cond.castable "LeaseHouse$Cached" "LeaseHouse$Cached" ∈ nW := (nW_of (List.mem_of_getElem? (i := 823) (by decide +kernel)) (by decide +kernel))
theorem ca_Note_Note : Cond.castable "LeaseHouse$Note" "LeaseHouse$Note" ∈ nW := (nW_of (List.mem_of_getElem? (i := 824) (by decide +kernel)) (by decide +kernel))
theorem ca_LH_Obj : Cond.castable "LeaseHouse" "java/lang/Object" ∈ nW := (nW_of (List.mem_of_getElem? (i := 828) (by decide +kernel)) (by decide +kernel))
theorem ca_WaitTimes_Obj : Cond.castable "LeaseHouse$WaitTimes" "java/lang/Object" ∈ nW := (nW_of (List.mem_of_getElem? (i := 829) (by decide +kernel)) (by decide +kernel))
theorem ca_NoteBox_Obj : Cond.castable "LeaseHouse$NoteBox" "java/lang/Object" ∈ nW := (nW_of (List.mem_of_getElem? (i := 830) (by decide +kernel)) (by decide +kernel))
theorem ca_Mo_Obj : Cond.castable "LeaseHouseModel" "java/lang/Object" ∈ nW := (nW_of (List.mem_of_getElem? (i := 831) (by decide +kernel)) (by decide +kernel))
theorem ca_Thing_Obj : Cond.castable "LeaseHouse$Thing" "java/lang/Object" ∈ nW := (nW_of (List.mem_of_getElem? (i := 832) (by decide +kernel)) (by decide +kernel))
theorem ca_Waiter_Obj : Cond.castable "LeaseHouse$Waiter" "java/lang/Object" ∈ nW := (nW_of (List.mem_of_getElem? (i := 833) (by decide +kernel)) (by decide +kernel))
theorem ca_Note_Obj : Cond.castable "LeaseHouse$Note" "java/lang/Object" ∈ nW := (nW_of (List.mem_of_getElem? (i := 834) (by decide +kernel)) (by decide +kernel))
theorem ca_Job_Obj : Cond.castable "LeaseHouse$Job" "java/lang/Object" ∈ nW := (nW_of (List.mem_of_getElem? (i := 835) (by decide +kernel)) (by decide +kernel))
theorem ca_Cached_Obj : Cond.castable "LeaseHouse$Cached" "java/lang/Object" ∈ nW := (nW_of (List.mem_of_getElem? (i := 836) (by decide +kernel)) (by decide +kernel))
end
section
theorem s_AL_init_0 : dsq c_AL_init 0 [(.aload_n 0, 1, 0)] 1 = true := by decide +kernel
theorem s_AL_init_4 : dsq c_AL_init 4 [(.aload_n 0, 1, 0)] 5 = true := by decide +kernel
theorem d_AL_init_1 : decode c_AL_init 1 = .ok (.invokespecial 1, 3) := by decide +kernel
theorem d_AL_init_5 : decode c_AL_init 5 = .ok (.getstatic 39, 3) := by decide +kernel
theorem d_AL_init_8 : decode c_AL_init 8 = .ok (.putfield 9, 3) := by decide +kernel
theorem d_AL_init_11 : decode c_AL_init 11 = .ok (.return_, 1) := by decide +kernel
theorem s_AbL_init_0 : dsq c_AbL_init 0 [(.aload_n 0, 1, 0)] 1 = true := by decide +kernel
theorem s_AbL_init_4 : dsq c_AbL_init 4 [(.aload_n 0, 1, 0), (.iconst 0, 1, 0)] 6 = true := by decide +kernel
theorem d_AbL_init_1 : decode c_AbL_init 1 = .ok (.invokespecial 1, 3) := by decide +kernel
theorem d_AbL_init_6 : decode c_AbL_init 6 = .ok (.putfield 7, 3) := by decide +kernel
theorem d_AbL_init_9 : decode c_AbL_init 9 = .ok (.return_, 1) := by decide +kernel
theorem s_AbC_init_0 : dsq c_AbC_init 0 [(.aload_n 0, 1, 0)] 1 = true := by decide +kernel
theorem d_AbC_init_1 : decode c_AbC_init 1 = .ok (.invokespecial 1, 3) := by decide +kernel
theorem d_AbC_init_4 : decode c_AbC_init 4 = .ok (.return_, 1) := by decide +kernel
theorem s_AL_size_0 : dsq c_AL_size 0 [(.aload_n 0, 1, 0)] 1 = true := by decide +kernel
theorem d_AL_size_1 : decode c_AL_size 1 = .ok (.getfield 48, 3) := by decide +kernel
theorem d_AL_size_4 : decode c_AL_size 4 = .ok (.ireturn, 1) := by decide +kernel
theorem s_AL_get_0 : dsq c_AL_get 0 [(.iload_n 1, 1, 0), (.aload_n 0, 1, 0)] 2 = true := by decide +kernel
theorem s_AL_get_8 : dsq c_AL_get 8 [(.pop, 1, 0), (.aload_n 0, 1, 0), (.iload_n 1, 1, 0)] 11 = true := by decide +kernel
theorem d_AL_get_2 : decode c_AL_get 2 = .ok (.getfield 48, 3) := by decide +kernel
theorem d_AL_get_5 : decode c_AL_get 5 = .ok (.invokestatic 118, 3) := by decide +kernel
theorem d_AL_get_11 : decode c_AL_get 11 = .ok (.invokevirtual 123, 3) := by decide +kernel
theorem d_AL_get_14 : decode c_AL_get 14 = .ok (.areturn, 1) := by decide +kernel
theorem s_Obs_checkIndex_0 : dsq c_Obs_checkIndex 0 [(.iload_n 0, 1, 0), (.iload_n 1, 1, 0), (.aconst_null, 1, 0)] 3 = true := by decide +kernel
theorem d_Obs_checkIndex_3 : decode c_Obs_checkIndex 3 = .ok (.invokestatic 105, 3) := by decide +kernel
theorem d_Obs_checkIndex_6 : decode c_Obs_checkIndex 6 = .ok (.ireturn, 1) := by decide +kernel
theorem s_Prec_checkIndex_0 : dsq c_Prec_checkIndex 0 [(.iload_n 0, 1, 0)] 1 = true := by decide +kernel
theorem s_Prec_checkIndex_4 : dsq c_Prec_checkIndex 4 [(.iload_n 0, 1, 0), (.iload_n 1, 1, 0)] 6 = true := by decide +kernel
theorem s_Prec_checkIndex_9 : dsq c_Prec_checkIndex 9 [(.aload_n 2, 1, 0), (.iload_n 0, 1, 0), (.iload_n 1, 1, 0)] 12 = true := by decide +kernel
theorem s_Prec_checkIndex_16 : dsq c_Prec_checkIndex 16 [(.iload_n 0, 1, 0)] 17 = true := by decide +kernel
theorem d_Prec_checkIndex_1 : decode c_Prec_checkIndex 1 = .ok (.ifCond .lt 8, 3) := by decide +kernel
theorem d_Prec_checkIndex_6 : decode c_Prec_checkIndex 6 = .ok (.if_icmp .lt 10, 3) := by decide +kernel
theorem d_Prec_checkIndex_12 : decode c_Prec_checkIndex 12 = .ok (.invokestatic 95, 3) := by decide +kernel
theorem d_Prec_checkIndex_15 : decode c_Prec_checkIndex 15 = .ok (.athrow, 1) := by decide +kernel
theorem d_Prec_checkIndex_17 : decode c_Prec_checkIndex 17 = .ok (.ireturn, 1) := by decide +kernel
theorem s_AL_elementData_0 : dsq c_AL_elementData 0 [(.aload_n 0, 1, 0)] 1 = true := by decide +kernel
theorem s_AL_elementData_4 : dsq c_AL_elementData 4 [(.iload_n 1, 1, 0)] 5 = true := by decide +kernel
theorem d_AL_elementData_1 : decode c_AL_elementData 1 = .ok (.getfield 9, 3) := by decide +kernel
theorem d_AL_elementData_5 : decode c_AL_elementData 5 = .ok (.aaload, 1) := by decide +kernel
theorem d_AL_elementData_6 : decode c_AL_elementData 6 = .ok (.areturn, 1) := by decide +kernel
theorem s_AL_add_0 : dsq c_AL_add 0 [(.aload_n 0, 1, 0), (.dup, 1, 0)] 2 = true := by decide +kernel
theorem s_AL_add_5 : dsq c_AL_add 5 [(.iconst 1, 1, 1), (.iadd, 1, 0)] 7 = true := by decide +kernel
theorem s_AL_add_10 : dsq c_AL_add 10 [(.aload_n 0, 1, 0), (.aload_n 1, 1, 0), (.aload_n 0, 1, 0)] 13 = true := by decide +kernel
theorem s_AL_add_16 : dsq c_AL_add 16 [(.aload_n 0, 1, 0)] 17 = true := by decide +kernel
theorem s_AL_add_23 : dsq c_AL_add 23 [(.iconst 1, 1, 1)] 24 = true := by decide +kernel
theorem d_AL_add_2 : decode c_AL_add 2 = .ok (.getfield 63, 3) := by decide +kernel
theorem d_AL_add_7 : decode c_AL_add 7 = .ok (.putfield 63, 3) := by decide +kernel
theorem d_AL_add_13 : decode c_AL_add 13 = .ok (.getfield 9, 3) := by decide +kernel
theorem d_AL_add_17 : decode c_AL_add 17 = .ok (.getfield 48, 3) := by decide +kernel
theorem d_AL_add_20 : decode c_AL_add 20 = .ok (.invokevirtual 131, 3) := by decide +kernel
theorem d_AL_add_24 : decode c_AL_add 24 = .ok (.ireturn, 1) := by decide +kernel
theorem s_AL_add3_0 : dsq c_AL_add3 0 [(.iload_n 3, 1, 0), (.aload_n 2, 1, 0)] 2 = true := by decide +kernel
theorem s_AL_add3_6 : dsq c_AL_add3 6 [(.aload_n 0, 1, 0)] 7 = true := by decide +kernel
theorem s_AL_add3_10 : dsq c_AL_add3 10 [(.astore_n 2, 1, 0), (.aload_n 2, 1, 0), (.iload_n 3, 1, 0), (.aload_n 1, 1, 0)] 14 = true := by decide +kernel
theorem s_AL_add3_11 : dsq c_AL_add3 11 [(.aload_n 2, 1, 0), (.iload_n 3, 1, 0), (.aload_n 1, 1, 0)] 14 = true := by decide +kernel
theorem s_AL_add3_15 : dsq c_AL_add3 15 [(.aload_n 0, 1, 0), (.iload_n 3, 1, 0), (.iconst 1, 1, 1), (.iadd, 1, 0)] 19 = true := by decide +kernel
theorem d_AL_add3_2 : decode c_AL_add3 2 = .ok (.arraylength, 1) := by decide +kernel
theorem d_AL_add3_3 : decode c_AL_add3 3 = .ok (.if_icmp .ne 8, 3) := by decide +kernel
theorem d_AL_add3_7 : decode c_AL_add3 7 = .ok (.invokevirtual 129, 3) := by decide +kernel
theorem d_AL_add3_14 : decode c_AL_add3 14 = .ok (.aastore, 1) := by decide +kernel
theorem d_AL_add3_19 : decode c_AL_add3 19 = .ok (.putfield 48, 3) := by decide +kernel
theorem d_AL_add3_22 : decode c_AL_add3 22 = .ok (.return_, 1) := by decide +kernel
theorem s_AL_grow_0 : dsq c_AL_grow 0 [(.aload_n 0, 1, 0), (.aload_n 0, 1, 0)] 2 = true := by decide +kernel
theorem s_AL_grow_5 : dsq c_AL_grow 5 [(.iconst 1, 1, 1), (.iadd, 1, 0)] 7 = true := by decide +kernel
theorem d_AL_grow_2 : decode c_AL_grow 2 = .ok (.getfield 48, 3) := by decide +kernel
theorem d_AL_grow_7 : decode c_AL_grow 7 = .ok (.invokevirtual 69, 3) := by decide +kernel
theorem d_AL_grow_10 : decode c_AL_grow 10 = .ok (.areturn, 1) := by decide +kernel
theorem s_AL_growI_0 : dsq c_AL_growI 0 [(.aload_n 0, 1, 0)] 1 = true := by decide +kernel
theorem s_AL_growI_5 : dsq c_AL_growI 5 [(.istore_n 2, 1, 0), (.iload_n 2, 1, 0)] 7 = true := by decide +kernel
theorem s_AL_growI_10 : dsq c_AL_growI 10 [(.aload_n 0, 1, 0)] 11 = true := by decide +kernel
theorem s_AL_growI_20 : dsq c_AL_growI 20 [(.iload_n 2, 1, 0), (.iload_n 1, 1, 0), (.iload_n 2, 1, 0), (.isub, 1, 0), (.iload_n 2, 1, 0), (.iconst 1, 1, 1), (.ishr, 1, 0)] 27 = true := by decide +kernel
theorem s_AL_growI_30 : dsq c_AL_growI 30 [(.istore_n 3, 1, 0), (.aload_n 0, 1, 0), (.aload_n 0, 1, 0)] 33 = true := by decide +kernel
theorem s_AL_growI_36 : dsq c_AL_growI 36 [(.iload_n 3, 1, 0)] 37 = true := by decide +kernel
theorem s_AL_growI_40 : dsq c_AL_growI 40 [(.dup_x1, 1, 0)] 41 = true := by decide +kernel
theorem s_AL_growI_45 : dsq c_AL_growI 45 [(.aload_n 0, 1, 0), (.bipush 10, 2, 10), (.iload_n 1, 1, 0)] 49 = true := by decide +kernel
theorem s_AL_growI_55 : dsq c_AL_growI 55 [(.dup_x1, 1, 0)] 56 = true := by decide +kernel
theorem d_AL_growI_1 : decode c_AL_growI 1 = .ok (.getfield 9, 3) := by decide +kernel
theorem d_AL_growI_4 : decode c_AL_growI 4 = .ok (.arraylength, 1) := by decide +kernel
theorem d_AL_growI_7 : decode c_AL_growI 7 = .ok (.ifCond .gt 13, 3) := by decide +kernel
theorem d_AL_growI_11 : decode c_AL_growI 11 = .ok (.getfield 9, 3) := by decide +kernel
theorem d_AL_growI_14 : decode c_AL_growI 14 = .ok (.getstatic 39, 3) := by decide +kernel
theorem d_AL_growI_17 : decode c_AL_growI 17 = .ok (.if_acmp .eq 28, 3) := by decide +kernel
theorem d_AL_growI_27 : decode c_AL_growI 27 = .ok (.invokestatic 73, 3) := by decide +kernel
theorem d_AL_growI_33 : decode c_AL_growI 33 = .ok (.getfield 9, 3) := by decide +kernel
theorem d_AL_growI_37 : decode c_AL_growI 37 = .ok (.invokestatic 66, 3) := by decide +kernel
theorem d_AL_growI_41 : decode c_AL_growI 41 = .ok (.putfield 9, 3) := by decide +kernel
theorem d_AL_growI_44 : decode c_AL_growI 44 = .ok (.areturn, 1) := by decide +kernel
theorem d_AL_growI_49 : decode c_AL_growI 49 = .ok (.invokestatic 79, 3) := by decide +kernel
theorem d_AL_growI_52 : decode c_AL_growI 52 = .ok (.anewarray 7, 3) := by decide +kernel
theorem d_AL_growI_56 : decode c_AL_growI 56 = .ok (.putfield 9, 3) := by decide +kernel
theorem d_AL_growI_59 : decode c_AL_growI 59 = .ok (.areturn, 1) := by decide +kernel
theorem s_AS_newLength_0 : dsq c_AS_newLength 0 [(.iload_n 0, 1, 0), (.iload_n 1, 1, 0), (.iload_n 2, 1, 0)] 3 = true := by decide +kernel
theorem s_AS_newLength_6 : dsq c_AS_newLength 6 [(.iadd, 1, 0), (.istore_n 3, 1, 0), (.iconst 0, 1, 0), (.iload_n 3, 1, 0)] 10 = true := by decide +kernel
theorem s_AS_newLength_13 : dsq c_AS_newLength 13 [(.iload_n 3, 1, 0)] 14 = true := by decide +kernel
theorem s_AS_newLength_19 : dsq c_AS_newLength 19 [(.iload_n 3, 1, 0)] 20 = true := by decide +kernel
theorem s_AS_newLength_21 : dsq c_AS_newLength 21 [(.iload_n 0, 1, 0), (.iload_n 1, 1, 0)] 23 = true := by decide +kernel
theorem d_AS_newLength_3 : decode c_AS_newLength 3 = .ok (.invokestatic 194, 3) := by decide +kernel
theorem d_AS_newLength_10 : decode c_AS_newLength 10 = .ok (.if_icmp .ge 11, 3) := by decide +kernel
theorem d_AS_newLength_14 : decode c_AS_newLength 14 = .ok (.ldc 200, 2) := by decide +kernel
theorem d_AS_newLength_16 : decode c_AS_newLength 16 = .ok (.if_icmp .gt 5, 3) := by decide +kernel
theorem d_AS_newLength_20 : decode c_AS_newLength 20 = .ok (.ireturn, 1) := by decide +kernel
theorem d_AS_newLength_23 : decode c_AS_newLength 23 = .ok (.invokestatic 201, 3) := by decide +kernel
theorem d_AS_newLength_26 : decode c_AS_newLength 26 = .ok (.ireturn, 1) := by decide +kernel
theorem s_Arrs_copyOf_0 : dsq c_Arrs_copyOf 0 [(.aload_n 0, 1, 0), (.iload_n 1, 1, 0), (.aload_n 0, 1, 0)] 3 = true := by decide +kernel
theorem d_Arrs_copyOf_3 : decode c_Arrs_copyOf 3 = .ok (.invokevirtual 86, 3) := by decide +kernel
theorem d_Arrs_copyOf_6 : decode c_Arrs_copyOf 6 = .ok (.invokestatic 300, 3) := by decide +kernel
theorem d_Arrs_copyOf_9 : decode c_Arrs_copyOf 9 = .ok (.areturn, 1) := by decide +kernel
theorem s_Arrs_copyOf3_0 : dsq c_Arrs_copyOf3 0 [(.aload_n 2, 1, 0)] 1 = true := by decide +kernel
theorem s_Arrs_copyOf3_6 : dsq c_Arrs_copyOf3 6 [(.iload_n 1, 1, 0)] 7 = true := by decide +kernel
theorem s_Arrs_copyOf3_10 : dsq c_Arrs_copyOf3 10 [(.goto 14, 3, 0), (.astore_n 3, 1, 0), (.aload_n 0, 1, 0), (.iconst 0, 1, 0), (.aload_n 3, 1, 0), (.iconst 0, 1, 0), (.aload_n 0, 1, 0)] 30 = true := by decide +kernel
theorem s_Arrs_copyOf3_13 : dsq c_Arrs_copyOf3 13 [(.aload_n 2, 1, 0)] 14 = true := by decide +kernel
theorem s_Arrs_copyOf3_17 : dsq c_Arrs_copyOf3 17 [(.iload_n 1, 1, 0)] 18 = true := by decide +kernel
theorem s_Arrs_copyOf3_24 : dsq c_Arrs_copyOf3 24 [(.astore_n 3, 1, 0), (.aload_n 0, 1, 0), (.iconst 0, 1, 0), (.aload_n 3, 1, 0), (.iconst 0, 1, 0), (.aload_n 0, 1, 0)] 30 = true := by decide +kernel
theorem s_Arrs_copyOf3_31 : dsq c_Arrs_copyOf3 31 [(.iload_n 1, 1, 0)] 32 = true := by decide +kernel
theorem s_Arrs_copyOf3_38 : dsq c_Arrs_copyOf3 38 [(.aload_n 3, 1, 0)] 39 = true := by decide +kernel
theorem d_Arrs_copyOf3_1 : decode c_Arrs_copyOf3 1 = .ok (.ldc 110, 2) := by decide +kernel
theorem d_Arrs_copyOf3_3 : decode c_Arrs_copyOf3 3 = .ok (.if_acmp .ne 10, 3) := by decide +kernel
theorem d_Arrs_copyOf3_7 : decode c_Arrs_copyOf3 7 = .ok (.anewarray 2, 3) := by decide +kernel
theorem d_Arrs_copyOf3_14 : decode c_Arrs_copyOf3 14 = .ok (.invokevirtual 90, 3) := by decide +kernel
theorem d_Arrs_copyOf3_18 : decode c_Arrs_copyOf3 18 = .ok (.invokestatic 95, 3) := by decide +kernel
theorem d_Arrs_copyOf3_21 : decode c_Arrs_copyOf3 21 = .ok (.checkcast 110, 3) := by decide +kernel
theorem d_Arrs_copyOf3_30 : decode c_Arrs_copyOf3 30 = .ok (.arraylength, 1) := by decide +kernel
theorem d_Arrs_copyOf3_32 : decode c_Arrs_copyOf3 32 = .ok (.invokestatic 304, 3) := by decide +kernel
theorem d_Arrs_copyOf3_35 : decode c_Arrs_copyOf3 35 = .ok (.invokestatic 150, 3) := by decide +kernel
theorem d_Arrs_copyOf3_39 : decode c_Arrs_copyOf3 39 = .ok (.areturn, 1) := by decide +kernel
theorem s_AL_remove_0 : dsq c_AL_remove 0 [(.iload_n 1, 1, 0), (.aload_n 0, 1, 0)] 2 = true := by decide +kernel
theorem s_AL_remove_8 : dsq c_AL_remove 8 [(.pop, 1, 0), (.aload_n 0, 1, 0)] 10 = true := by decide +kernel
theorem s_AL_remove_13 : dsq c_AL_remove 13 [(.astore_n 2, 1, 0), (.aload_n 2, 1, 0), (.iload_n 1, 1, 0)] 16 = true := by decide +kernel
theorem s_AL_remove_17 : dsq c_AL_remove 17 [(.astore_n 3, 1, 0), (.aload_n 0, 1, 0), (.aload_n 2, 1, 0), (.iload_n 1, 1, 0)] 21 = true := by decide +kernel
theorem s_AL_remove_24 : dsq c_AL_remove 24 [(.aload_n 3, 1, 0)] 25 = true := by decide +kernel
theorem d_AL_remove_2 : decode c_AL_remove 2 = .ok (.getfield 48, 3) := by decide +kernel
theorem d_AL_remove_5 : decode c_AL_remove 5 = .ok (.invokestatic 118, 3) := by decide +kernel
theorem d_AL_remove_10 : decode c_AL_remove 10 = .ok (.getfield 9, 3) := by decide +kernel
theorem d_AL_remove_16 : decode c_AL_remove 16 = .ok (.aaload, 1) := by decide +kernel
theorem d_AL_remove_21 : decode c_AL_remove 21 = .ok (.invokevirtual 144, 3) := by decide +kernel
theorem d_AL_remove_25 : decode c_AL_remove 25 = .ok (.areturn, 1) := by decide +kernel
theorem s_AL_fastRemove_0 : dsq c_AL_fastRemove 0 [(.aload_n 0, 1, 0), (.dup, 1, 0)] 2 = true := by decide +kernel
theorem s_AL_fastRemove_5 : dsq c_AL_fastRemove 5 [(.iconst 1, 1, 1), (.iadd, 1, 0)] 7 = true := by decide +kernel
theorem s_AL_fastRemove_10 : dsq c_AL_fastRemove 10 [(.aload_n 0, 1, 0)] 11 = true := by decide +kernel
theorem s_AL_fastRemove_14 : dsq c_AL_fastRemove 14 [(.iconst 1, 1, 1), (.isub, 1, 0), (.dup, 1, 0), (.istore_n 3, 1, 0), (.iload_n 2, 1, 0)] 19 = true := by decide +kernel
theorem s_AL_fastRemove_22 : dsq c_AL_fastRemove 22 [(.aload_n 1, 1, 0), (.iload_n 2, 1, 0), (.iconst 1, 1, 1), (.iadd, 1, 0), (.aload_n 1, 1, 0), (.iload_n 2, 1, 0), (.iload_n 3, 1, 0), (.iload_n 2, 1, 0), (.isub, 1, 0)] 31 = true := by decide +kernel
theorem s_AL_fastRemove_34 : dsq c_AL_fastRemove 34 [(.aload_n 1, 1, 0), (.aload_n 0, 1, 0), (.iload_n 3, 1, 0), (.dup_x1, 1, 0)] 38 = true := by decide +kernel
theorem s_AL_fastRemove_41 : dsq c_AL_fastRemove 41 [(.aconst_null, 1, 0)] 42 = true := by decide +kernel
theorem d_AL_fastRemove_2 : decode c_AL_fastRemove 2 = .ok (.getfield 63, 3) := by decide +kernel
theorem d_AL_fastRemove_7 : decode c_AL_fastRemove 7 = .ok (.putfield 63, 3) := by decide +kernel
theorem d_AL_fastRemove_11 : decode c_AL_fastRemove 11 = .ok (.getfield 48, 3) := by decide +kernel
theorem d_AL_fastRemove_19 : decode c_AL_fastRemove 19 = .ok (.if_icmp .le 15, 3) := by decide +kernel
theorem d_AL_fastRemove_31 : decode c_AL_fastRemove 31 = .ok (.invokestatic 112, 3) := by decide +kernel
theorem d_AL_fastRemove_38 : decode c_AL_fastRemove 38 = .ok (.putfield 48, 3) := by decide +kernel
theorem d_AL_fastRemove_42 : decode c_AL_fastRemove 42 = .ok (.aastore, 1) := by decide +kernel
theorem d_AL_fastRemove_43 : decode c_AL_fastRemove 43 = .ok (.return_, 1) := by decide +kernel
theorem s_AL_isEmpty_0 : dsq c_AL_isEmpty 0 [(.aload_n 0, 1, 0)] 1 = true := by decide +kernel
theorem s_AL_isEmpty_7 : dsq c_AL_isEmpty 7 [(.iconst 1, 1, 1), (.goto 4, 3, 0)] 12 = true := by decide +kernel
theorem s_AL_isEmpty_11 : dsq c_AL_isEmpty 11 [(.iconst 0, 1, 0)] 12 = true := by decide +kernel
theorem d_AL_isEmpty_1 : decode c_AL_isEmpty 1 = .ok (.getfield 48, 3) := by decide +kernel
theorem d_AL_isEmpty_4 : decode c_AL_isEmpty 4 = .ok (.ifCond .ne 7, 3) := by decide +kernel
theorem d_AL_isEmpty_12 : decode c_AL_isEmpty 12 = .ok (.ireturn, 1) := by decide +kernel
theorem s_AL_addAt_0 : dsq c_AL_addAt 0 [(.aload_n 0, 1, 0), (.iload_n 1, 1, 0)] 2 = true := by decide +kernel
theorem s_AL_addAt_5 : dsq c_AL_addAt 5 [(.aload_n 0, 1, 0), (.dup, 1, 0)] 7 = true := by decide +kernel
theorem s_AL_addAt_10 : dsq c_AL_addAt 10 [(.iconst 1, 1, 1), (.iadd, 1, 0)] 12 = true := by decide +kernel
theorem s_AL_addAt_15 : dsq c_AL_addAt 15 [(.aload_n 0, 1, 0)] 16 = true := by decide +kernel
theorem s_AL_addAt_19 : dsq c_AL_addAt 19 [(.dup, 1, 0), (.istore_n 3, 1, 0), (.aload_n 0, 1, 0)] 22 = true := by decide +kernel
theorem s_AL_addAt_25 : dsq c_AL_addAt 25 [(.dup, 1, 0), (.astore 4, 2, 0)] 28 = true := by decide +kernel
theorem s_AL_addAt_32 : dsq c_AL_addAt 32 [(.aload_n 0, 1, 0)] 33 = true := by decide +kernel
theorem s_AL_addAt_36 : dsq c_AL_addAt 36 [(.astore 4, 2, 0), (.aload 4, 2, 0), (.iload_n 1, 1, 0), (.aload 4, 2, 0), (.iload_n 1, 1, 0), (.iconst 1, 1, 1), (.iadd, 1, 0), (.iload_n 3, 1, 0), (.iload_n 1, 1, 0), (.isub, 1, 0)] 49 = true := by decide +kernel
theorem s_AL_addAt_38 : dsq c_AL_addAt 38 [(.aload 4, 2, 0), (.iload_n 1, 1, 0), (.aload 4, 2, 0), (.iload_n 1, 1, 0), (.iconst 1, 1, 1), (.iadd, 1, 0), (.iload_n 3, 1, 0), (.iload_n 1, 1, 0), (.isub, 1, 0)] 49 = true := by decide +kernel
theorem s_AL_addAt_52 : dsq c_AL_addAt 52 [(.aload 4, 2, 0), (.iload_n 1, 1, 0), (.aload_n 2, 1, 0)] 56 = true := by decide +kernel
theorem s_AL_addAt_57 : dsq c_AL_addAt 57 [(.aload_n 0, 1, 0), (.iload_n 3, 1, 0), (.iconst 1, 1, 1), (.iadd, 1, 0)] 61 = true := by decide +kernel
theorem d_AL_addAt_2 : decode c_AL_addAt 2 = .ok (.invokevirtual 135, 3) := by decide +kernel
theorem d_AL_addAt_7 : decode c_AL_addAt 7 = .ok (.getfield 63, 3) := by decide +kernel
theorem d_AL_addAt_12 : decode c_AL_addAt 12 = .ok (.putfield 63, 3) := by decide +kernel
theorem d_AL_addAt_16 : decode c_AL_addAt 16 = .ok (.getfield 48, 3) := by decide +kernel
theorem d_AL_addAt_22 : decode c_AL_addAt 22 = .ok (.getfield 9, 3) := by decide +kernel
theorem d_AL_addAt_28 : decode c_AL_addAt 28 = .ok (.arraylength, 1) := by decide +kernel
theorem d_AL_addAt_29 : decode c_AL_addAt 29 = .ok (.if_icmp .ne 9, 3) := by decide +kernel
theorem d_AL_addAt_33 : decode c_AL_addAt 33 = .ok (.invokevirtual 129, 3) := by decide +kernel
theorem d_AL_addAt_49 : decode c_AL_addAt 49 = .ok (.invokestatic 112, 3) := by decide +kernel
theorem d_AL_addAt_56 : decode c_AL_addAt 56 = .ok (.aastore, 1) := by decide +kernel
theorem d_AL_addAt_61 : decode c_AL_addAt 61 = .ok (.putfield 48, 3) := by decide +kernel
theorem d_AL_addAt_64 : decode c_AL_addAt 64 = .ok (.return_, 1) := by decide +kernel
theorem s_AL_rangeCheckForAdd_0 : dsq c_AL_rangeCheckForAdd 0 [(.iload_n 1, 1, 0), (.aload_n 0, 1, 0)] 2 = true := by decide +kernel
theorem s_AL_rangeCheckForAdd_8 : dsq c_AL_rangeCheckForAdd 8 [(.iload_n 1, 1, 0)] 9 = true := by decide +kernel
theorem s_AL_rangeCheckForAdd_15 : dsq c_AL_rangeCheckForAdd 15 [(.dup, 1, 0), (.aload_n 0, 1, 0), (.iload_n 1, 1, 0)] 18 = true := by decide +kernel
theorem d_AL_rangeCheckForAdd_2 : decode c_AL_rangeCheckForAdd 2 = .ok (.getfield 48, 3) := by decide +kernel
theorem d_AL_rangeCheckForAdd_5 : decode c_AL_rangeCheckForAdd 5 = .ok (.if_icmp .gt 7, 3) := by decide +kernel
theorem d_AL_rangeCheckForAdd_9 : decode c_AL_rangeCheckForAdd 9 = .ok (.ifCond .ge 16, 3) := by decide +kernel
theorem d_AL_rangeCheckForAdd_12 : decode c_AL_rangeCheckForAdd 12 = .ok (.new 187, 3) := by decide +kernel
theorem d_AL_rangeCheckForAdd_18 : decode c_AL_rangeCheckForAdd 18 = .ok (.invokevirtual 198, 3) := by decide +kernel
theorem d_AL_rangeCheckForAdd_21 : decode c_AL_rangeCheckForAdd 21 = .ok (.invokespecial 193, 3) := by decide +kernel
theorem d_AL_rangeCheckForAdd_24 : decode c_AL_rangeCheckForAdd 24 = .ok (.athrow, 1) := by decide +kernel
theorem d_AL_rangeCheckForAdd_25 : decode c_AL_rangeCheckForAdd 25 = .ok (.return_, 1) := by decide +kernel
theorem s_Intg_bitCount_0 : dsq c_Intg_bitCount 0 [(.iload_n 0, 1, 0), (.iload_n 0, 1, 0), (.iconst 1, 1, 1), (.iushr, 1, 0)] 4 = true := by decide +kernel
theorem s_Intg_bitCount_7 : dsq c_Intg_bitCount 7 [(.iand, 1, 0), (.isub, 1, 0), (.istore_n 0, 1, 0), (.iload_n 0, 1, 0)] 11 = true := by decide +kernel
theorem s_Intg_bitCount_14 : dsq c_Intg_bitCount 14 [(.iand, 1, 0), (.iload_n 0, 1, 0), (.iconst 2, 1, 2), (.iushr, 1, 0)] 18 = true := by decide +kernel
theorem s_Intg_bitCount_21 : dsq c_Intg_bitCount 21 [(.iand, 1, 0), (.iadd, 1, 0), (.istore_n 0, 1, 0), (.iload_n 0, 1, 0), (.iload_n 0, 1, 0), (.iconst 4, 1, 4), (.iushr, 1, 0), (.iadd, 1, 0)] 29 = true := by decide +kernel
theorem s_Intg_bitCount_32 : dsq c_Intg_bitCount 32 [(.iand, 1, 0), (.istore_n 0, 1, 0), (.iload_n 0, 1, 0), (.iload_n 0, 1, 0), (.bipush 8, 2, 8), (.iushr, 1, 0), (.iadd, 1, 0), (.istore_n 0, 1, 0), (.iload_n 0, 1, 0), (.iload_n 0, 1, 0), (.bipush 16, 2, 16), (.iushr, 1, 0), (.iadd, 1, 0), (.istore_n 0, 1, 0), (.iload_n 0, 1, 0), (.bipush 63, 2, 63), (.iand, 1, 0)] 52 = true := by decide +kernel
theorem d_Intg_bitCount_4 : decode c_Intg_bitCount 4 = .ok (.ldc_w 265, 3) := by decide +kernel
theorem d_Intg_bitCount_11 : decode c_Intg_bitCount 11 = .ok (.ldc_w 266, 3) := by decide +kernel
theorem d_Intg_bitCount_18 : decode c_Intg_bitCount 18 = .ok (.ldc_w 266, 3) := by decide +kernel
theorem d_Intg_bitCount_29 : decode c_Intg_bitCount 29 = .ok (.ldc_w 267, 3) := by decide +kernel
theorem d_Intg_bitCount_52 : decode c_Intg_bitCount 52 = .ok (.ireturn, 1) := by decide +kernel
end
section
theorem s_LH_init_0 : dsq c_LH_init 0 [(.aload_n 0, 1, 0)] 1 = true := by decide +kernel
theorem s_LH_init_4 : dsq c_LH_init 4 [(.aload_n 0, 1, 0)] 5 = true := by decide +kernel
theorem s_LH_init_8 : dsq c_LH_init 8 [(.dup, 1, 0)] 9 = true := by decide +kernel
theorem s_LH_init_15 : dsq c_LH_init 15 [(.aload_n 0, 1, 0)] 16 = true := by decide +kernel
theorem s_LH_init_19 : dsq c_LH_init 19 [(.dup, 1, 0)] 20 = true := by decide +kernel
theorem s_LH_init_26 : dsq c_LH_init 26 [(.aload_n 0, 1, 0)] 27 = true := by decide +kernel
theorem s_LH_init_30 : dsq c_LH_init 30 [(.dup, 1, 0)] 31 = true := by decide +kernel
theorem s_LH_init_37 : dsq c_LH_init 37 [(.aload_n 0, 1, 0), (.bipush 16, 2, 16)] 40 = true := by decide +kernel
theorem s_LH_init_46 : dsq c_LH_init 46 [(.aload_n 0, 1, 0)] 47 = true := by decide +kernel
theorem s_LH_init_50 : dsq c_LH_init 50 [(.dup, 1, 0)] 51 = true := by decide +kernel
theorem s_LH_init_57 : dsq c_LH_init 57 [(.aload_n 0, 1, 0), (.iconst 0, 1, 0)] 59 = true := by decide +kernel
theorem s_LH_init_62 : dsq c_LH_init 62 [(.aload_n 0, 1, 0), (.iconst 0, 1, 0)] 64 = true := by decide +kernel
theorem s_LH_init_67 : dsq c_LH_init 67 [(.iconst 0, 1, 0), (.istore_n 2, 1, 0)] 69 = true := by decide +kernel
theorem s_LH_init_69 : dsq c_LH_init 69 [(.iload_n 2, 1, 0), (.bipush 16, 2, 16)] 72 = true := by decide +kernel
theorem s_LH_init_75 : dsq c_LH_init 75 [(.aload_n 0, 1, 0)] 76 = true := by decide +kernel
theorem s_LH_init_79 : dsq c_LH_init 79 [(.iload_n 2, 1, 0)] 80 = true := by decide +kernel
theorem s_LH_init_83 : dsq c_LH_init 83 [(.dup, 1, 0)] 84 = true := by decide +kernel
theorem s_LH_init_88 : dsq c_LH_init 88 [(.iinc 2 1, 3, 1), (.goto (-22), 3, 0)] 69 = true := by decide +kernel
theorem d_LH_init_1 : decode c_LH_init 1 = .ok (.invokespecial 1, 3) := by decide +kernel
theorem d_LH_init_5 : decode c_LH_init 5 = .ok (.new 7, 3) := by decide +kernel
theorem d_LH_init_9 : decode c_LH_init 9 = .ok (.invokespecial 9, 3) := by decide +kernel
theorem d_LH_init_12 : decode c_LH_init 12 = .ok (.putfield 10, 3) := by decide +kernel
theorem d_LH_init_16 : decode c_LH_init 16 = .ok (.new 7, 3) := by decide +kernel
theorem d_LH_init_20 : decode c_LH_init 20 = .ok (.invokespecial 9, 3) := by decide +kernel
theorem d_LH_init_23 : decode c_LH_init 23 = .ok (.putfield 16, 3) := by decide +kernel
theorem d_LH_init_27 : decode c_LH_init 27 = .ok (.new 7, 3) := by decide +kernel
theorem d_LH_init_31 : decode c_LH_init 31 = .ok (.invokespecial 9, 3) := by decide +kernel
theorem d_LH_init_34 : decode c_LH_init 34 = .ok (.putfield 19, 3) := by decide +kernel
theorem d_LH_init_40 : decode c_LH_init 40 = .ok (.anewarray 22, 3) := by decide +kernel
theorem d_LH_init_43 : decode c_LH_init 43 = .ok (.putfield 24, 3) := by decide +kernel
theorem d_LH_init_47 : decode c_LH_init 47 = .ok (.new 28, 3) := by decide +kernel
theorem d_LH_init_51 : decode c_LH_init 51 = .ok (.invokespecial 30, 3) := by decide +kernel
theorem d_LH_init_54 : decode c_LH_init 54 = .ok (.putfield 31, 3) := by decide +kernel
theorem d_LH_init_59 : decode c_LH_init 59 = .ok (.putfield 35, 3) := by decide +kernel
theorem d_LH_init_64 : decode c_LH_init 64 = .ok (.putfield 39, 3) := by decide +kernel
theorem d_LH_init_72 : decode c_LH_init 72 = .ok (.if_icmp .ge 22, 3) := by decide +kernel
theorem d_LH_init_76 : decode c_LH_init 76 = .ok (.getfield 24, 3) := by decide +kernel
theorem d_LH_init_80 : decode c_LH_init 80 = .ok (.new 22, 3) := by decide +kernel
theorem d_LH_init_84 : decode c_LH_init 84 = .ok (.invokespecial 42, 3) := by decide +kernel
theorem d_LH_init_87 : decode c_LH_init 87 = .ok (.aastore, 1) := by decide +kernel
theorem d_LH_init_94 : decode c_LH_init 94 = .ok (.return_, 1) := by decide +kernel
theorem s_WaitTimes_init_0 : dsq c_WaitTimes_init 0 [(.aload_n 0, 1, 0)] 1 = true := by decide +kernel
theorem s_WaitTimes_init_4 : dsq c_WaitTimes_init 4 [(.aload_n 0, 1, 0), (.sipush 512, 3, 512)] 8 = true := by decide +kernel
theorem s_WaitTimes_init_13 : dsq c_WaitTimes_init 13 [(.aload_n 0, 1, 0), (.iconst 0, 1, 0)] 15 = true := by decide +kernel
theorem d_WaitTimes_init_1 : decode c_WaitTimes_init 1 = .ok (.invokespecial 3, 3) := by decide +kernel
theorem d_WaitTimes_init_8 : decode c_WaitTimes_init 8 = .ok (.newarray .int, 2) := by decide +kernel
theorem d_WaitTimes_init_10 : decode c_WaitTimes_init 10 = .ok (.putfield 9, 3) := by decide +kernel
theorem d_WaitTimes_init_15 : decode c_WaitTimes_init 15 = .ok (.putfield 15, 3) := by decide +kernel
theorem d_WaitTimes_init_18 : decode c_WaitTimes_init 18 = .ok (.return_, 1) := by decide +kernel
theorem s_NoteBox_init_0 : dsq c_NoteBox_init 0 [(.aload_n 0, 1, 0)] 1 = true := by decide +kernel
theorem s_NoteBox_init_4 : dsq c_NoteBox_init 4 [(.aload_n 0, 1, 0)] 5 = true := by decide +kernel
theorem s_NoteBox_init_8 : dsq c_NoteBox_init 8 [(.dup, 1, 0)] 9 = true := by decide +kernel
theorem d_NoteBox_init_1 : decode c_NoteBox_init 1 = .ok (.invokespecial 3, 3) := by decide +kernel
theorem d_NoteBox_init_5 : decode c_NoteBox_init 5 = .ok (.new 9, 3) := by decide +kernel
theorem d_NoteBox_init_9 : decode c_NoteBox_init 9 = .ok (.invokespecial 11, 3) := by decide +kernel
theorem d_NoteBox_init_12 : decode c_NoteBox_init 12 = .ok (.putfield 12, 3) := by decide +kernel
theorem d_NoteBox_init_15 : decode c_NoteBox_init 15 = .ok (.return_, 1) := by decide +kernel
theorem s_LH_sign_0 : dsq c_LH_sign 0 [(.iload_n 1, 1, 0), (.bipush 97, 2, 97)] 3 = true := by decide +kernel
theorem s_LH_sign_6 : dsq c_LH_sign 6 [(.iload_n 1, 1, 0), (.bipush 122, 2, 122)] 9 = true := by decide +kernel
theorem s_LH_sign_12 : dsq c_LH_sign 12 [(.iconst (-1), 1, (-1))] 13 = true := by decide +kernel
theorem s_LH_sign_14 : dsq c_LH_sign 14 [(.aload_n 0, 1, 0)] 15 = true := by decide +kernel
theorem s_LH_sign_21 : dsq c_LH_sign 21 [(.istore_n 2, 1, 0), (.iload_n 2, 1, 0), (.bipush 6, 2, 6)] 25 = true := by decide +kernel
theorem s_LH_sign_28 : dsq c_LH_sign 28 [(.bipush (-3), 2, (-3))] 30 = true := by decide +kernel
theorem s_LH_sign_31 : dsq c_LH_sign 31 [(.aload_n 0, 1, 0), (.aload_n 0, 1, 0)] 33 = true := by decide +kernel
theorem s_LH_sign_36 : dsq c_LH_sign 36 [(.bipush 26, 2, 26), (.imul, 1, 0), (.iload_n 1, 1, 0), (.bipush 97, 2, 97), (.isub, 1, 0), (.iconst 1, 1, 1), (.iadd, 1, 0), (.iadd, 1, 0)] 46 = true := by decide +kernel
theorem s_LH_sign_49 : dsq c_LH_sign 49 [(.iload_n 2, 1, 0), (.iconst 1, 1, 1), (.iadd, 1, 0)] 52 = true := by decide +kernel
theorem d_LH_sign_3 : decode c_LH_sign 3 = .ok (.if_icmp .lt 9, 3) := by decide +kernel
theorem d_LH_sign_9 : decode c_LH_sign 9 = .ok (.if_icmp .le 5, 3) := by decide +kernel
theorem d_LH_sign_13 : decode c_LH_sign 13 = .ok (.ireturn, 1) := by decide +kernel
theorem d_LH_sign_15 : decode c_LH_sign 15 = .ok (.getfield 35, 3) := by decide +kernel
theorem d_LH_sign_18 : decode c_LH_sign 18 = .ok (.invokestatic 43, 3) := by decide +kernel
theorem d_LH_sign_25 : decode c_LH_sign 25 = .ok (.if_icmp .lt 6, 3) := by decide +kernel
theorem d_LH_sign_30 : decode c_LH_sign 30 = .ok (.ireturn, 1) := by decide +kernel
theorem d_LH_sign_33 : decode c_LH_sign 33 = .ok (.getfield 35, 3) := by decide +kernel
theorem d_LH_sign_46 : decode c_LH_sign 46 = .ok (.putfield 35, 3) := by decide +kernel
theorem d_LH_sign_52 : decode c_LH_sign 52 = .ok (.ireturn, 1) := by decide +kernel
theorem s_LH_lengthOf_0 : dsq c_LH_lengthOf 0 [(.iconst 0, 1, 0), (.istore_n 1, 1, 0), (.iload_n 0, 1, 0), (.istore_n 2, 1, 0)] 4 = true := by decide +kernel
theorem s_LH_lengthOf_4 : dsq c_LH_lengthOf 4 [(.iload_n 1, 1, 0), (.bipush 6, 2, 6)] 7 = true := by decide +kernel
theorem s_LH_lengthOf_10 : dsq c_LH_lengthOf 10 [(.iload_n 2, 1, 0)] 11 = true := by decide +kernel
theorem s_LH_lengthOf_14 : dsq c_LH_lengthOf 14 [(.iload_n 2, 1, 0)] 15 = true := by decide +kernel
theorem s_LH_lengthOf_18 : dsq c_LH_lengthOf 18 [(.istore_n 2, 1, 0), (.iinc 1 1, 3, 1), (.goto (-18), 3, 0)] 4 = true := by decide +kernel
theorem s_LH_lengthOf_25 : dsq c_LH_lengthOf 25 [(.iload_n 1, 1, 0)] 26 = true := by decide +kernel
theorem d_LH_lengthOf_7 : decode c_LH_lengthOf 7 = .ok (.if_icmp .ge 18, 3) := by decide +kernel
theorem d_LH_lengthOf_11 : decode c_LH_lengthOf 11 = .ok (.ifCond .eq 14, 3) := by decide +kernel
theorem d_LH_lengthOf_15 : decode c_LH_lengthOf 15 = .ok (.invokestatic 188, 3) := by decide +kernel
theorem d_LH_lengthOf_26 : decode c_LH_lengthOf 26 = .ok (.ireturn, 1) := by decide +kernel
theorem s_LH_withoutLastLetter_0 : dsq c_LH_withoutLastLetter 0 [(.iload_n 0, 1, 0), (.iconst 1, 1, 1), (.isub, 1, 0), (.bipush 26, 2, 26)] 5 = true := by decide +kernel
theorem d_LH_withoutLastLetter_5 : decode c_LH_withoutLastLetter 5 = .ok (.idiv, 1) := by decide +kernel
theorem d_LH_withoutLastLetter_6 : decode c_LH_withoutLastLetter 6 = .ok (.ireturn, 1) := by decide +kernel
theorem s_LH_erase_0 : dsq c_LH_erase 0 [(.aload_n 0, 1, 0)] 1 = true := by decide +kernel
theorem s_LH_erase_7 : dsq c_LH_erase 7 [(.istore_n 1, 1, 0), (.aload_n 0, 1, 0), (.iconst 0, 1, 0)] 10 = true := by decide +kernel
theorem s_LH_erase_13 : dsq c_LH_erase 13 [(.iload_n 1, 1, 0)] 14 = true := by decide +kernel
theorem d_LH_erase_1 : decode c_LH_erase 1 = .ok (.getfield 35, 3) := by decide +kernel
theorem d_LH_erase_4 : decode c_LH_erase 4 = .ok (.invokestatic 43, 3) := by decide +kernel
theorem d_LH_erase_10 : decode c_LH_erase 10 = .ok (.putfield 35, 3) := by decide +kernel
theorem d_LH_erase_14 : decode c_LH_erase 14 = .ok (.ireturn, 1) := by decide +kernel
theorem s_LH_want_0 : dsq c_LH_want 0 [(.aload_n 0, 1, 0), (.iload_n 1, 1, 0)] 2 = true := by decide +kernel
theorem s_LH_want_8 : dsq c_LH_want 8 [(.iload_n 2, 1, 0)] 9 = true := by decide +kernel
theorem s_LH_want_15 : dsq c_LH_want 15 [(.iconst (-1), 1, (-1))] 16 = true := by decide +kernel
theorem s_LH_want_17 : dsq c_LH_want 17 [(.aload_n 0, 1, 0), (.aload_n 0, 1, 0)] 19 = true := by decide +kernel
theorem s_LH_want_25 : dsq c_LH_want 25 [(.astore_n 3, 1, 0), (.aload_n 3, 1, 0)] 27 = true := by decide +kernel
theorem s_LH_want_30 : dsq c_LH_want 30 [(.iconst (-1), 1, (-1))] 31 = true := by decide +kernel
theorem s_LH_want_32 : dsq c_LH_want 32 [(.aload_n 3, 1, 0)] 33 = true := by decide +kernel
theorem s_LH_want_39 : dsq c_LH_want 39 [(.aload_n 0, 1, 0), (.aload_n 3, 1, 0), (.iload_n 1, 1, 0), (.iload_n 2, 1, 0)] 43 = true := by decide +kernel
theorem s_LH_want_47 : dsq c_LH_want 47 [(.aload_n 0, 1, 0), (.aload_n 3, 1, 0), (.iload_n 1, 1, 0), (.iload_n 2, 1, 0), (.iconst 1, 1, 1)] 52 = true := by decide +kernel
theorem s_LH_want_55 : dsq c_LH_want 55 [(.iconst 0, 1, 0)] 56 = true := by decide +kernel
theorem d_LH_want_2 : decode c_LH_want 2 = .ok (.invokevirtual 47, 3) := by decide +kernel
theorem d_LH_want_5 : decode c_LH_want 5 = .ok (.ifCond .eq 10, 3) := by decide +kernel
theorem d_LH_want_9 : decode c_LH_want 9 = .ok (.invokestatic 51, 3) := by decide +kernel
theorem d_LH_want_12 : decode c_LH_want 12 = .ok (.ifCond .ne 5, 3) := by decide +kernel
theorem d_LH_want_16 : decode c_LH_want 16 = .ok (.ireturn, 1) := by decide +kernel
theorem d_LH_want_19 : decode c_LH_want 19 = .ok (.getfield 35, 3) := by decide +kernel
theorem d_LH_want_22 : decode c_LH_want 22 = .ok (.invokevirtual 54, 3) := by decide +kernel
theorem d_LH_want_27 : decode c_LH_want 27 = .ok (.ifnonnull 5, 3) := by decide +kernel
theorem d_LH_want_31 : decode c_LH_want 31 = .ok (.ireturn, 1) := by decide +kernel
theorem d_LH_want_33 : decode c_LH_want 33 = .ok (.invokevirtual 58, 3) := by decide +kernel
theorem d_LH_want_36 : decode c_LH_want 36 = .ok (.ifCond .eq 11, 3) := by decide +kernel
theorem d_LH_want_43 : decode c_LH_want 43 = .ok (.invokevirtual 64, 3) := by decide +kernel
theorem d_LH_want_46 : decode c_LH_want 46 = .ok (.ireturn, 1) := by decide +kernel
theorem d_LH_want_52 : decode c_LH_want 52 = .ok (.invokevirtual 68, 3) := by decide +kernel
theorem d_LH_want_56 : decode c_LH_want 56 = .ok (.ireturn, 1) := by decide +kernel
theorem s_LH_hasNameAnd_0 : dsq c_LH_hasNameAnd 0 [(.aload_n 0, 1, 0)] 1 = true := by decide +kernel
theorem s_LH_hasNameAnd_7 : dsq c_LH_hasNameAnd 7 [(.iload_n 1, 1, 0)] 8 = true := by decide +kernel
theorem s_LH_hasNameAnd_14 : dsq c_LH_hasNameAnd 14 [(.iconst 1, 1, 1), (.goto 4, 3, 0)] 19 = true := by decide +kernel
theorem s_LH_hasNameAnd_18 : dsq c_LH_hasNameAnd 18 [(.iconst 0, 1, 0)] 19 = true := by decide +kernel
theorem d_LH_hasNameAnd_1 : decode c_LH_hasNameAnd 1 = .ok (.getfield 35, 3) := by decide +kernel
theorem d_LH_hasNameAnd_4 : decode c_LH_hasNameAnd 4 = .ok (.ifCond .eq 14, 3) := by decide +kernel
theorem d_LH_hasNameAnd_8 : decode c_LH_hasNameAnd 8 = .ok (.invokestatic 168, 3) := by decide +kernel
theorem d_LH_hasNameAnd_11 : decode c_LH_hasNameAnd 11 = .ok (.ifCond .eq 7, 3) := by decide +kernel
theorem d_LH_hasNameAnd_19 : decode c_LH_hasNameAnd 19 = .ok (.ireturn, 1) := by decide +kernel
theorem s_LH_isClient_0 : dsq c_LH_isClient 0 [(.iload_n 0, 1, 0)] 1 = true := by decide +kernel
theorem s_LH_isClient_4 : dsq c_LH_isClient 4 [(.iload_n 0, 1, 0), (.bipush 16, 2, 16)] 7 = true := by decide +kernel
theorem s_LH_isClient_10 : dsq c_LH_isClient 10 [(.iconst 1, 1, 1), (.goto 4, 3, 0)] 15 = true := by decide +kernel
theorem s_LH_isClient_14 : dsq c_LH_isClient 14 [(.iconst 0, 1, 0)] 15 = true := by decide +kernel
theorem d_LH_isClient_1 : decode c_LH_isClient 1 = .ok (.ifCond .lt 13, 3) := by decide +kernel
theorem d_LH_isClient_7 : decode c_LH_isClient 7 = .ok (.if_icmp .ge 7, 3) := by decide +kernel
theorem d_LH_isClient_15 : decode c_LH_isClient 15 = .ok (.ireturn, 1) := by decide +kernel
theorem s_LH_isLeaseTime_0 : dsq c_LH_isLeaseTime 0 [(.iload_n 0, 1, 0), (.iconst 1, 1, 1)] 2 = true := by decide +kernel
theorem s_LH_isLeaseTime_5 : dsq c_LH_isLeaseTime 5 [(.iload_n 0, 1, 0), (.bipush 100, 2, 100)] 8 = true := by decide +kernel
theorem s_LH_isLeaseTime_11 : dsq c_LH_isLeaseTime 11 [(.iconst 1, 1, 1), (.goto 4, 3, 0)] 16 = true := by decide +kernel
theorem s_LH_isLeaseTime_15 : dsq c_LH_isLeaseTime 15 [(.iconst 0, 1, 0)] 16 = true := by decide +kernel
theorem d_LH_isLeaseTime_2 : decode c_LH_isLeaseTime 2 = .ok (.if_icmp .lt 13, 3) := by decide +kernel
theorem d_LH_isLeaseTime_8 : decode c_LH_isLeaseTime 8 = .ok (.if_icmp .gt 7, 3) := by decide +kernel
theorem d_LH_isLeaseTime_16 : decode c_LH_isLeaseTime 16 = .ok (.ireturn, 1) := by decide +kernel
theorem s_LH_findOrAddThing_0 : dsq c_LH_findOrAddThing 0 [(.aload_n 0, 1, 0), (.iload_n 1, 1, 0)] 2 = true := by decide +kernel
theorem s_LH_findOrAddThing_5 : dsq c_LH_findOrAddThing 5 [(.astore_n 2, 1, 0), (.aload_n 2, 1, 0)] 7 = true := by decide +kernel
theorem s_LH_findOrAddThing_10 : dsq c_LH_findOrAddThing 10 [(.aload_n 0, 1, 0)] 11 = true := by decide +kernel
theorem s_LH_findOrAddThing_17 : dsq c_LH_findOrAddThing 17 [(.sipush 512, 3, 512)] 20 = true := by decide +kernel
theorem s_LH_findOrAddThing_26 : dsq c_LH_findOrAddThing 26 [(.dup, 1, 0), (.iload_n 1, 1, 0)] 28 = true := by decide +kernel
theorem s_LH_findOrAddThing_31 : dsq c_LH_findOrAddThing 31 [(.astore_n 2, 1, 0), (.aload_n 0, 1, 0)] 33 = true := by decide +kernel
theorem s_LH_findOrAddThing_36 : dsq c_LH_findOrAddThing 36 [(.aload_n 2, 1, 0)] 37 = true := by decide +kernel
theorem s_LH_findOrAddThing_40 : dsq c_LH_findOrAddThing 40 [(.pop, 1, 0), (.aload_n 2, 1, 0)] 42 = true := by decide +kernel
theorem s_LH_findOrAddThing_41 : dsq c_LH_findOrAddThing 41 [(.aload_n 2, 1, 0)] 42 = true := by decide +kernel
theorem d_LH_findOrAddThing_2 : decode c_LH_findOrAddThing 2 = .ok (.invokevirtual 85, 3) := by decide +kernel
theorem d_LH_findOrAddThing_7 : decode c_LH_findOrAddThing 7 = .ok (.ifnonnull 34, 3) := by decide +kernel
theorem d_LH_findOrAddThing_11 : decode c_LH_findOrAddThing 11 = .ok (.getfield 10, 3) := by decide +kernel
theorem d_LH_findOrAddThing_14 : decode c_LH_findOrAddThing 14 = .ok (.invokevirtual 98, 3) := by decide +kernel
theorem d_LH_findOrAddThing_20 : decode c_LH_findOrAddThing 20 = .ok (.if_icmp .ge 21, 3) := by decide +kernel
theorem d_LH_findOrAddThing_23 : decode c_LH_findOrAddThing 23 = .ok (.new 59, 3) := by decide +kernel
theorem d_LH_findOrAddThing_28 : decode c_LH_findOrAddThing 28 = .ok (.invokespecial 203, 3) := by decide +kernel
theorem d_LH_findOrAddThing_33 : decode c_LH_findOrAddThing 33 = .ok (.getfield 10, 3) := by decide +kernel
theorem d_LH_findOrAddThing_37 : decode c_LH_findOrAddThing 37 = .ok (.invokevirtual 154, 3) := by decide +kernel
theorem d_LH_findOrAddThing_42 : decode c_LH_findOrAddThing 42 = .ok (.areturn, 1) := by decide +kernel
theorem s_LH_findThing_0 : dsq c_LH_findThing 0 [(.iconst 0, 1, 0), (.istore_n 2, 1, 0)] 2 = true := by decide +kernel
theorem s_LH_findThing_2 : dsq c_LH_findThing 2 [(.iload_n 2, 1, 0), (.aload_n 0, 1, 0)] 4 = true := by decide +kernel
theorem s_LH_findThing_13 : dsq c_LH_findThing 13 [(.aload_n 0, 1, 0)] 14 = true := by decide +kernel
theorem s_LH_findThing_17 : dsq c_LH_findThing 17 [(.iload_n 2, 1, 0)] 18 = true := by decide +kernel
theorem s_LH_findThing_27 : dsq c_LH_findThing 27 [(.iload_n 1, 1, 0)] 28 = true := by decide +kernel
theorem s_LH_findThing_31 : dsq c_LH_findThing 31 [(.aload_n 0, 1, 0)] 32 = true := by decide +kernel
theorem s_LH_findThing_35 : dsq c_LH_findThing 35 [(.iload_n 2, 1, 0)] 36 = true := by decide +kernel
theorem s_LH_findThing_43 : dsq c_LH_findThing 43 [(.iinc 2 1, 3, 1), (.goto (-44), 3, 0)] 2 = true := by decide +kernel
theorem s_LH_findThing_49 : dsq c_LH_findThing 49 [(.aconst_null, 1, 0)] 50 = true := by decide +kernel
theorem d_LH_findThing_4 : decode c_LH_findThing 4 = .ok (.getfield 10, 3) := by decide +kernel
theorem d_LH_findThing_7 : decode c_LH_findThing 7 = .ok (.invokevirtual 98, 3) := by decide +kernel
theorem d_LH_findThing_10 : decode c_LH_findThing 10 = .ok (.if_icmp .ge 39, 3) := by decide +kernel
theorem d_LH_findThing_14 : decode c_LH_findThing 14 = .ok (.getfield 10, 3) := by decide +kernel
theorem d_LH_findThing_18 : decode c_LH_findThing 18 = .ok (.invokevirtual 106, 3) := by decide +kernel
theorem d_LH_findThing_21 : decode c_LH_findThing 21 = .ok (.checkcast 59, 3) := by decide +kernel
theorem d_LH_findThing_24 : decode c_LH_findThing 24 = .ok (.getfield 114, 3) := by decide +kernel
theorem d_LH_findThing_28 : decode c_LH_findThing 28 = .ok (.if_icmp .ne 15, 3) := by decide +kernel
theorem d_LH_findThing_32 : decode c_LH_findThing 32 = .ok (.getfield 10, 3) := by decide +kernel
theorem d_LH_findThing_36 : decode c_LH_findThing 36 = .ok (.invokevirtual 106, 3) := by decide +kernel
theorem d_LH_findThing_39 : decode c_LH_findThing 39 = .ok (.checkcast 59, 3) := by decide +kernel
theorem d_LH_findThing_42 : decode c_LH_findThing 42 = .ok (.areturn, 1) := by decide +kernel
theorem d_LH_findThing_50 : decode c_LH_findThing 50 = .ok (.areturn, 1) := by decide +kernel
theorem s_Thing_init_0 : dsq c_Thing_init 0 [(.aload_n 0, 1, 0)] 1 = true := by decide +kernel
theorem s_Thing_init_4 : dsq c_Thing_init 4 [(.aload_n 0, 1, 0)] 5 = true := by decide +kernel
theorem s_Thing_init_8 : dsq c_Thing_init 8 [(.dup, 1, 0)] 9 = true := by decide +kernel
theorem s_Thing_init_15 : dsq c_Thing_init 15 [(.aload_n 0, 1, 0), (.bipush (-2), 2, (-2))] 18 = true := by decide +kernel
theorem s_Thing_init_21 : dsq c_Thing_init 21 [(.aload_n 0, 1, 0), (.iconst 0, 1, 0)] 23 = true := by decide +kernel
theorem s_Thing_init_26 : dsq c_Thing_init 26 [(.aload_n 0, 1, 0), (.iconst 0, 1, 0)] 28 = true := by decide +kernel
theorem s_Thing_init_31 : dsq c_Thing_init 31 [(.aload_n 0, 1, 0), (.iconst 0, 1, 0)] 33 = true := by decide +kernel
theorem s_Thing_init_36 : dsq c_Thing_init 36 [(.aload_n 0, 1, 0), (.iload_n 1, 1, 0)] 38 = true := by decide +kernel
theorem d_Thing_init_1 : decode c_Thing_init 1 = .ok (.invokespecial 3, 3) := by decide +kernel
theorem d_Thing_init_5 : decode c_Thing_init 5 = .ok (.new 9, 3) := by decide +kernel
theorem d_Thing_init_9 : decode c_Thing_init 9 = .ok (.invokespecial 11, 3) := by decide +kernel
theorem d_Thing_init_12 : decode c_Thing_init 12 = .ok (.putfield 12, 3) := by decide +kernel
theorem d_Thing_init_18 : decode c_Thing_init 18 = .ok (.putfield 18, 3) := by decide +kernel
theorem d_Thing_init_23 : decode c_Thing_init 23 = .ok (.putfield 22, 3) := by decide +kernel
theorem d_Thing_init_28 : decode c_Thing_init 28 = .ok (.putfield 25, 3) := by decide +kernel
theorem d_Thing_init_33 : decode c_Thing_init 33 = .ok (.putfield 28, 3) := by decide +kernel
theorem d_Thing_init_38 : decode c_Thing_init 38 = .ok (.putfield 31, 3) := by decide +kernel
theorem d_Thing_init_41 : decode c_Thing_init 41 = .ok (.return_, 1) := by decide +kernel
theorem s_Thing_isLent_0 : dsq c_Thing_isLent 0 [(.aload_n 0, 1, 0)] 1 = true := by decide +kernel
theorem s_Thing_isLent_4 : dsq c_Thing_isLent 4 [(.bipush (-2), 2, (-2))] 6 = true := by decide +kernel
theorem s_Thing_isLent_9 : dsq c_Thing_isLent 9 [(.iconst 1, 1, 1), (.goto 4, 3, 0)] 14 = true := by decide +kernel
theorem s_Thing_isLent_13 : dsq c_Thing_isLent 13 [(.iconst 0, 1, 0)] 14 = true := by decide +kernel
theorem d_Thing_isLent_1 : decode c_Thing_isLent 1 = .ok (.getfield 18, 3) := by decide +kernel
theorem d_Thing_isLent_6 : decode c_Thing_isLent 6 = .ok (.if_icmp .eq 7, 3) := by decide +kernel
theorem d_Thing_isLent_14 : decode c_Thing_isLent 14 = .ok (.ireturn, 1) := by decide +kernel
theorem s_LH_lineUp_0 : dsq c_LH_lineUp 0 [(.aload_n 1, 1, 0)] 1 = true := by decide +kernel
theorem s_LH_lineUp_4 : dsq c_LH_lineUp 4 [(.iload_n 2, 1, 0)] 5 = true := by decide +kernel
theorem s_LH_lineUp_8 : dsq c_LH_lineUp 8 [(.aload_n 1, 1, 0), (.iload_n 2, 1, 0)] 10 = true := by decide +kernel
theorem s_LH_lineUp_13 : dsq c_LH_lineUp 13 [(.bipush (-2), 2, (-2))] 15 = true := by decide +kernel
theorem s_LH_lineUp_18 : dsq c_LH_lineUp 18 [(.bipush (-2), 2, (-2))] 20 = true := by decide +kernel
theorem s_LH_lineUp_21 : dsq c_LH_lineUp 21 [(.aload_n 1, 1, 0)] 22 = true := by decide +kernel
theorem s_LH_lineUp_28 : dsq c_LH_lineUp 28 [(.iconst 5, 1, 5)] 29 = true := by decide +kernel
theorem s_LH_lineUp_32 : dsq c_LH_lineUp 32 [(.bipush (-3), 2, (-3))] 34 = true := by decide +kernel
theorem s_LH_lineUp_35 : dsq c_LH_lineUp 35 [(.aload_n 1, 1, 0)] 36 = true := by decide +kernel
theorem s_LH_lineUp_42 : dsq c_LH_lineUp 42 [(.dup, 1, 0), (.iload_n 2, 1, 0), (.iload_n 3, 1, 0), (.aload_n 0, 1, 0)] 46 = true := by decide +kernel
theorem s_LH_lineUp_55 : dsq c_LH_lineUp 55 [(.pop, 1, 0), (.aload_n 1, 1, 0)] 57 = true := by decide +kernel
theorem d_LH_lineUp_1 : decode c_LH_lineUp 1 = .ok (.getfield 79, 3) := by decide +kernel
theorem d_LH_lineUp_5 : decode c_LH_lineUp 5 = .ok (.if_icmp .eq 13, 3) := by decide +kernel
theorem d_LH_lineUp_10 : decode c_LH_lineUp 10 = .ok (.invokevirtual 88, 3) := by decide +kernel
theorem d_LH_lineUp_15 : decode c_LH_lineUp 15 = .ok (.if_icmp .eq 6, 3) := by decide +kernel
theorem d_LH_lineUp_20 : decode c_LH_lineUp 20 = .ok (.ireturn, 1) := by decide +kernel
theorem d_LH_lineUp_22 : decode c_LH_lineUp 22 = .ok (.getfield 91, 3) := by decide +kernel
theorem d_LH_lineUp_25 : decode c_LH_lineUp 25 = .ok (.invokevirtual 98, 3) := by decide +kernel
theorem d_LH_lineUp_29 : decode c_LH_lineUp 29 = .ok (.if_icmp .lt 6, 3) := by decide +kernel
theorem d_LH_lineUp_34 : decode c_LH_lineUp 34 = .ok (.ireturn, 1) := by decide +kernel
theorem d_LH_lineUp_36 : decode c_LH_lineUp 36 = .ok (.getfield 91, 3) := by decide +kernel
theorem d_LH_lineUp_39 : decode c_LH_lineUp 39 = .ok (.new 109, 3) := by decide +kernel
theorem d_LH_lineUp_46 : decode c_LH_lineUp 46 = .ok (.getfield 39, 3) := by decide +kernel
theorem d_LH_lineUp_49 : decode c_LH_lineUp 49 = .ok (.invokespecial 210, 3) := by decide +kernel
theorem d_LH_lineUp_52 : decode c_LH_lineUp 52 = .ok (.invokevirtual 154, 3) := by decide +kernel
theorem d_LH_lineUp_57 : decode c_LH_lineUp 57 = .ok (.getfield 91, 3) := by decide +kernel
theorem d_LH_lineUp_60 : decode c_LH_lineUp 60 = .ok (.invokevirtual 98, 3) := by decide +kernel
theorem d_LH_lineUp_63 : decode c_LH_lineUp 63 = .ok (.ireturn, 1) := by decide +kernel
theorem s_Thing_placeOf_0 : dsq c_Thing_placeOf 0 [(.iconst 0, 1, 0), (.istore_n 2, 1, 0)] 2 = true := by decide +kernel
theorem s_Thing_placeOf_2 : dsq c_Thing_placeOf 2 [(.iload_n 2, 1, 0), (.aload_n 0, 1, 0)] 4 = true := by decide +kernel
theorem s_Thing_placeOf_13 : dsq c_Thing_placeOf 13 [(.aload_n 0, 1, 0)] 14 = true := by decide +kernel
theorem s_Thing_placeOf_17 : dsq c_Thing_placeOf 17 [(.iload_n 2, 1, 0)] 18 = true := by decide +kernel
theorem s_Thing_placeOf_27 : dsq c_Thing_placeOf 27 [(.iload_n 1, 1, 0)] 28 = true := by decide +kernel
theorem s_Thing_placeOf_31 : dsq c_Thing_placeOf 31 [(.iload_n 2, 1, 0)] 32 = true := by decide +kernel
theorem s_Thing_placeOf_33 : dsq c_Thing_placeOf 33 [(.iinc 2 1, 3, 1), (.goto (-34), 3, 0)] 2 = true := by decide +kernel
theorem s_Thing_placeOf_39 : dsq c_Thing_placeOf 39 [(.bipush (-2), 2, (-2))] 41 = true := by decide +kernel
theorem d_Thing_placeOf_4 : decode c_Thing_placeOf 4 = .ok (.getfield 12, 3) := by decide +kernel
theorem d_Thing_placeOf_7 : decode c_Thing_placeOf 7 = .ok (.invokevirtual 34, 3) := by decide +kernel
theorem d_Thing_placeOf_10 : decode c_Thing_placeOf 10 = .ok (.if_icmp .ge 29, 3) := by decide +kernel
theorem d_Thing_placeOf_14 : decode c_Thing_placeOf 14 = .ok (.getfield 12, 3) := by decide +kernel
theorem d_Thing_placeOf_18 : decode c_Thing_placeOf 18 = .ok (.invokevirtual 38, 3) := by decide +kernel
theorem d_Thing_placeOf_21 : decode c_Thing_placeOf 21 = .ok (.checkcast 42, 3) := by decide +kernel
theorem d_Thing_placeOf_24 : decode c_Thing_placeOf 24 = .ok (.invokevirtual 44, 3) := by decide +kernel
theorem d_Thing_placeOf_28 : decode c_Thing_placeOf 28 = .ok (.if_icmp .ne 5, 3) := by decide +kernel
theorem d_Thing_placeOf_32 : decode c_Thing_placeOf 32 = .ok (.ireturn, 1) := by decide +kernel
theorem d_Thing_placeOf_41 : decode c_Thing_placeOf 41 = .ok (.ireturn, 1) := by decide +kernel
theorem s_Waiter_client_0 : dsq c_Waiter_client 0 [(.aload_n 0, 1, 0)] 1 = true := by decide +kernel
theorem d_Waiter_client_1 : decode c_Waiter_client 1 = .ok (.getfield 7, 3) := by decide +kernel
theorem d_Waiter_client_4 : decode c_Waiter_client 4 = .ok (.ireturn, 1) := by decide +kernel
theorem s_Waiter_init_0 : dsq c_Waiter_init 0 [(.aload_n 0, 1, 0)] 1 = true := by decide +kernel
theorem s_Waiter_init_4 : dsq c_Waiter_init 4 [(.aload_n 0, 1, 0), (.iload_n 1, 1, 0)] 6 = true := by decide +kernel
theorem s_Waiter_init_9 : dsq c_Waiter_init 9 [(.aload_n 0, 1, 0), (.iload_n 2, 1, 0)] 11 = true := by decide +kernel
theorem s_Waiter_init_14 : dsq c_Waiter_init 14 [(.aload_n 0, 1, 0), (.iload_n 3, 1, 0)] 16 = true := by decide +kernel
theorem d_Waiter_init_1 : decode c_Waiter_init 1 = .ok (.invokespecial 1, 3) := by decide +kernel
theorem d_Waiter_init_6 : decode c_Waiter_init 6 = .ok (.putfield 7, 3) := by decide +kernel
theorem d_Waiter_init_11 : decode c_Waiter_init 11 = .ok (.putfield 13, 3) := by decide +kernel
theorem d_Waiter_init_16 : decode c_Waiter_init 16 = .ok (.putfield 16, 3) := by decide +kernel
theorem d_Waiter_init_19 : decode c_Waiter_init 19 = .ok (.return_, 1) := by decide +kernel
theorem s_Rcd_init_0 : dsq c_Rcd_init 0 [(.aload_n 0, 1, 0)] 1 = true := by decide +kernel
theorem d_Rcd_init_1 : decode c_Rcd_init 1 = .ok (.invokespecial 1, 3) := by decide +kernel
theorem d_Rcd_init_4 : decode c_Rcd_init 4 = .ok (.return_, 1) := by decide +kernel
theorem s_LH_lend_0 : dsq c_LH_lend 0 [(.aload_n 1, 1, 0), (.iload_n 2, 1, 0)] 2 = true := by decide +kernel
theorem s_LH_lend_5 : dsq c_LH_lend 5 [(.aload_n 1, 1, 0), (.aload_n 0, 1, 0)] 7 = true := by decide +kernel
theorem s_LH_lend_10 : dsq c_LH_lend 10 [(.iload_n 3, 1, 0), (.iadd, 1, 0)] 12 = true := by decide +kernel
theorem s_LH_lend_15 : dsq c_LH_lend 15 [(.aload_n 0, 1, 0), (.aload_n 1, 1, 0), (.iload 4, 2, 0)] 19 = true := by decide +kernel
theorem d_LH_lend_2 : decode c_LH_lend 2 = .ok (.putfield 79, 3) := by decide +kernel
theorem d_LH_lend_7 : decode c_LH_lend 7 = .ok (.getfield 39, 3) := by decide +kernel
theorem d_LH_lend_12 : decode c_LH_lend 12 = .ok (.putfield 82, 3) := by decide +kernel
theorem d_LH_lend_19 : decode c_LH_lend 19 = .ok (.invokevirtual 211, 3) := by decide +kernel
theorem d_LH_lend_22 : decode c_LH_lend 22 = .ok (.return_, 1) := by decide +kernel
theorem s_LH_tellChange_0 : dsq c_LH_tellChange 0 [(.aload_n 1, 1, 0), (.dup, 1, 0)] 2 = true := by decide +kernel
theorem s_LH_tellChange_5 : dsq c_LH_tellChange 5 [(.iconst 1, 1, 1), (.iadd, 1, 0)] 7 = true := by decide +kernel
theorem s_LH_tellChange_10 : dsq c_LH_tellChange 10 [(.aload_n 1, 1, 0)] 11 = true := by decide +kernel
theorem s_LH_tellChange_21 : dsq c_LH_tellChange 21 [(.dup, 1, 0), (.aload_n 1, 1, 0)] 23 = true := by decide +kernel
theorem s_LH_tellChange_26 : dsq c_LH_tellChange 26 [(.iload_n 2, 1, 0)] 27 = true := by decide +kernel
theorem s_LH_tellChange_30 : dsq c_LH_tellChange 30 [(.astore_n 3, 1, 0), (.iconst 0, 1, 0), (.istore 4, 2, 0)] 34 = true := by decide +kernel
theorem s_LH_tellChange_34 : dsq c_LH_tellChange 34 [(.iload 4, 2, 0), (.bipush 16, 2, 16)] 38 = true := by decide +kernel
theorem s_LH_tellChange_41 : dsq c_LH_tellChange 41 [(.aload_n 1, 1, 0), (.iload 4, 2, 0)] 44 = true := by decide +kernel
theorem s_LH_tellChange_50 : dsq c_LH_tellChange 50 [(.aload_n 0, 1, 0)] 51 = true := by decide +kernel
theorem s_LH_tellChange_54 : dsq c_LH_tellChange 54 [(.iload 4, 2, 0)] 56 = true := by decide +kernel
theorem s_LH_tellChange_57 : dsq c_LH_tellChange 57 [(.aload_n 3, 1, 0)] 58 = true := by decide +kernel
theorem s_LH_tellChange_61 : dsq c_LH_tellChange 61 [(.iinc 4 1, 3, 1), (.goto (-30), 3, 0)] 34 = true := by decide +kernel
theorem d_LH_tellChange_2 : decode c_LH_tellChange 2 = .ok (.getfield 223, 3) := by decide +kernel
theorem d_LH_tellChange_7 : decode c_LH_tellChange 7 = .ok (.putfield 223, 3) := by decide +kernel
theorem d_LH_tellChange_11 : decode c_LH_tellChange 11 = .ok (.getfield 160, 3) := by decide +kernel
theorem d_LH_tellChange_14 : decode c_LH_tellChange 14 = .ok (.ifCond .ne 4, 3) := by decide +kernel
theorem d_LH_tellChange_17 : decode c_LH_tellChange 17 = .ok (.return_, 1) := by decide +kernel
theorem d_LH_tellChange_18 : decode c_LH_tellChange 18 = .ok (.new 176, 3) := by decide +kernel
theorem d_LH_tellChange_23 : decode c_LH_tellChange 23 = .ok (.getfield 114, 3) := by decide +kernel
theorem d_LH_tellChange_27 : decode c_LH_tellChange 27 = .ok (.invokespecial 226, 3) := by decide +kernel
theorem d_LH_tellChange_38 : decode c_LH_tellChange 38 = .ok (.if_icmp .ge 29, 3) := by decide +kernel
theorem d_LH_tellChange_44 : decode c_LH_tellChange 44 = .ok (.invokevirtual 227, 3) := by decide +kernel
theorem d_LH_tellChange_47 : decode c_LH_tellChange 47 = .ok (.ifCond .eq 14, 3) := by decide +kernel
theorem d_LH_tellChange_51 : decode c_LH_tellChange 51 = .ok (.getfield 24, 3) := by decide +kernel
theorem d_LH_tellChange_56 : decode c_LH_tellChange 56 = .ok (.aaload, 1) := by decide +kernel
theorem d_LH_tellChange_58 : decode c_LH_tellChange 58 = .ok (.invokevirtual 230, 3) := by decide +kernel
theorem d_LH_tellChange_67 : decode c_LH_tellChange 67 = .ok (.return_, 1) := by decide +kernel
theorem s_Note_init_0 : dsq c_Note_init 0 [(.aload_n 0, 1, 0)] 1 = true := by decide +kernel
theorem s_Note_init_4 : dsq c_Note_init 4 [(.aload_n 0, 1, 0), (.iload_n 1, 1, 0)] 6 = true := by decide +kernel
theorem s_Note_init_9 : dsq c_Note_init 9 [(.aload_n 0, 1, 0), (.iload_n 2, 1, 0)] 11 = true := by decide +kernel
theorem d_Note_init_1 : decode c_Note_init 1 = .ok (.invokespecial 1, 3) := by decide +kernel
theorem d_Note_init_6 : decode c_Note_init 6 = .ok (.putfield 7, 3) := by decide +kernel
theorem d_Note_init_11 : decode c_Note_init 11 = .ok (.putfield 13, 3) := by decide +kernel
theorem d_Note_init_14 : decode c_Note_init 14 = .ok (.return_, 1) := by decide +kernel
theorem s_Thing_isWatchedBy_0 : dsq c_Thing_isWatchedBy 0 [(.aload_n 0, 1, 0)] 1 = true := by decide +kernel
theorem s_Thing_isWatchedBy_4 : dsq c_Thing_isWatchedBy 4 [(.iload_n 1, 1, 0), (.ishr, 1, 0), (.iconst 1, 1, 1), (.iand, 1, 0), (.iconst 1, 1, 1)] 9 = true := by decide +kernel
theorem s_Thing_isWatchedBy_12 : dsq c_Thing_isWatchedBy 12 [(.iconst 1, 1, 1), (.goto 4, 3, 0)] 17 = true := by decide +kernel
theorem s_Thing_isWatchedBy_16 : dsq c_Thing_isWatchedBy 16 [(.iconst 0, 1, 0)] 17 = true := by decide +kernel
theorem d_Thing_isWatchedBy_1 : decode c_Thing_isWatchedBy 1 = .ok (.getfield 28, 3) := by decide +kernel
theorem d_Thing_isWatchedBy_9 : decode c_Thing_isWatchedBy 9 = .ok (.if_icmp .ne 7, 3) := by decide +kernel
theorem d_Thing_isWatchedBy_17 : decode c_Thing_isWatchedBy 17 = .ok (.ireturn, 1) := by decide +kernel
theorem s_NoteBox_put_0 : dsq c_NoteBox_put 0 [(.aload_n 0, 1, 0)] 1 = true := by decide +kernel
theorem s_NoteBox_put_7 : dsq c_NoteBox_put 7 [(.bipush 8, 2, 8)] 9 = true := by decide +kernel
theorem s_NoteBox_put_12 : dsq c_NoteBox_put 12 [(.aload_n 0, 1, 0)] 13 = true := by decide +kernel
theorem s_NoteBox_put_16 : dsq c_NoteBox_put 16 [(.iconst 0, 1, 0)] 17 = true := by decide +kernel
theorem s_NoteBox_put_20 : dsq c_NoteBox_put 20 [(.pop, 1, 0), (.aload_n 0, 1, 0)] 22 = true := by decide +kernel
theorem s_NoteBox_put_21 : dsq c_NoteBox_put 21 [(.aload_n 0, 1, 0)] 22 = true := by decide +kernel
theorem s_NoteBox_put_25 : dsq c_NoteBox_put 25 [(.aload_n 1, 1, 0)] 26 = true := by decide +kernel
theorem s_NoteBox_put_29 : dsq c_NoteBox_put 29 [(.pop, 1, 0)] 30 = true := by decide +kernel
theorem d_NoteBox_put_1 : decode c_NoteBox_put 1 = .ok (.getfield 12, 3) := by decide +kernel
theorem d_NoteBox_put_4 : decode c_NoteBox_put 4 = .ok (.invokevirtual 18, 3) := by decide +kernel
theorem d_NoteBox_put_9 : decode c_NoteBox_put 9 = .ok (.if_icmp .lt 12, 3) := by decide +kernel
theorem d_NoteBox_put_13 : decode c_NoteBox_put 13 = .ok (.getfield 12, 3) := by decide +kernel
theorem d_NoteBox_put_17 : decode c_NoteBox_put 17 = .ok (.invokevirtual 22, 3) := by decide +kernel
theorem d_NoteBox_put_22 : decode c_NoteBox_put 22 = .ok (.getfield 12, 3) := by decide +kernel
theorem d_NoteBox_put_26 : decode c_NoteBox_put 26 = .ok (.invokevirtual 26, 3) := by decide +kernel
theorem d_NoteBox_put_30 : decode c_NoteBox_put 30 = .ok (.return_, 1) := by decide +kernel
theorem s_LH_free_0 : dsq c_LH_free 0 [(.aload_n 0, 1, 0), (.iload_n 1, 1, 0)] 2 = true := by decide +kernel
theorem s_LH_free_5 : dsq c_LH_free 5 [(.astore_n 2, 1, 0), (.aload_n 2, 1, 0)] 7 = true := by decide +kernel
theorem s_LH_free_10 : dsq c_LH_free 10 [(.iconst (-1), 1, (-1))] 11 = true := by decide +kernel
theorem s_LH_free_12 : dsq c_LH_free 12 [(.aload_n 0, 1, 0), (.aload_n 2, 1, 0)] 14 = true := by decide +kernel
theorem s_LH_free_17 : dsq c_LH_free 17 [(.aload_n 2, 1, 0)] 18 = true := by decide +kernel
theorem d_LH_free_2 : decode c_LH_free 2 = .ok (.invokevirtual 72, 3) := by decide +kernel
theorem d_LH_free_7 : decode c_LH_free 7 = .ok (.ifnonnull 5, 3) := by decide +kernel
theorem d_LH_free_11 : decode c_LH_free 11 = .ok (.ireturn, 1) := by decide +kernel
theorem d_LH_free_14 : decode c_LH_free 14 = .ok (.invokevirtual 75, 3) := by decide +kernel
theorem d_LH_free_18 : decode c_LH_free 18 = .ok (.getfield 79, 3) := by decide +kernel
theorem d_LH_free_21 : decode c_LH_free 21 = .ok (.ireturn, 1) := by decide +kernel
theorem s_LH_findThingHeldBy_0 : dsq c_LH_findThingHeldBy 0 [(.aload_n 0, 1, 0), (.iload_n 1, 1, 0)] 2 = true := by decide +kernel
theorem s_LH_findThingHeldBy_8 : dsq c_LH_findThingHeldBy 8 [(.aconst_null, 1, 0)] 9 = true := by decide +kernel
theorem s_LH_findThingHeldBy_10 : dsq c_LH_findThingHeldBy 10 [(.aload_n 0, 1, 0), (.aload_n 0, 1, 0)] 12 = true := by decide +kernel
theorem s_LH_findThingHeldBy_18 : dsq c_LH_findThingHeldBy 18 [(.astore_n 2, 1, 0), (.aload_n 2, 1, 0)] 20 = true := by decide +kernel
theorem s_LH_findThingHeldBy_23 : dsq c_LH_findThingHeldBy 23 [(.aload_n 2, 1, 0)] 24 = true := by decide +kernel
theorem s_LH_findThingHeldBy_27 : dsq c_LH_findThingHeldBy 27 [(.iload_n 1, 1, 0)] 28 = true := by decide +kernel
theorem s_LH_findThingHeldBy_31 : dsq c_LH_findThingHeldBy 31 [(.aload_n 2, 1, 0), (.goto 4, 3, 0)] 36 = true := by decide +kernel
theorem s_LH_findThingHeldBy_35 : dsq c_LH_findThingHeldBy 35 [(.aconst_null, 1, 0)] 36 = true := by decide +kernel
theorem d_LH_findThingHeldBy_2 : decode c_LH_findThingHeldBy 2 = .ok (.invokevirtual 47, 3) := by decide +kernel
theorem d_LH_findThingHeldBy_5 : decode c_LH_findThingHeldBy 5 = .ok (.ifCond .ne 5, 3) := by decide +kernel
theorem d_LH_findThingHeldBy_9 : decode c_LH_findThingHeldBy 9 = .ok (.areturn, 1) := by decide +kernel
theorem d_LH_findThingHeldBy_12 : decode c_LH_findThingHeldBy 12 = .ok (.getfield 35, 3) := by decide +kernel
theorem d_LH_findThingHeldBy_15 : decode c_LH_findThingHeldBy 15 = .ok (.invokevirtual 85, 3) := by decide +kernel
theorem d_LH_findThingHeldBy_20 : decode c_LH_findThingHeldBy 20 = .ok (.ifnull 15, 3) := by decide +kernel
theorem d_LH_findThingHeldBy_24 : decode c_LH_findThingHeldBy 24 = .ok (.getfield 79, 3) := by decide +kernel
theorem d_LH_findThingHeldBy_28 : decode c_LH_findThingHeldBy 28 = .ok (.if_icmp .ne 7, 3) := by decide +kernel
theorem d_LH_findThingHeldBy_36 : decode c_LH_findThingHeldBy 36 = .ok (.areturn, 1) := by decide +kernel
theorem s_LH_endLease_0 : dsq c_LH_endLease 0 [(.aload_n 1, 1, 0)] 1 = true := by decide +kernel
theorem s_LH_endLease_10 : dsq c_LH_endLease 10 [(.aload_n 1, 1, 0), (.bipush (-2), 2, (-2))] 13 = true := by decide +kernel
theorem s_LH_endLease_16 : dsq c_LH_endLease 16 [(.aload_n 0, 1, 0), (.aload_n 1, 1, 0), (.iconst 4, 1, 4)] 19 = true := by decide +kernel
theorem s_LH_endLease_23 : dsq c_LH_endLease 23 [(.aload_n 1, 1, 0)] 24 = true := by decide +kernel
theorem s_LH_endLease_27 : dsq c_LH_endLease 27 [(.iconst 0, 1, 0)] 28 = true := by decide +kernel
theorem s_LH_endLease_34 : dsq c_LH_endLease 34 [(.astore_n 2, 1, 0), (.aload_n 0, 1, 0)] 36 = true := by decide +kernel
theorem s_LH_endLease_39 : dsq c_LH_endLease 39 [(.aload_n 0, 1, 0)] 40 = true := by decide +kernel
theorem s_LH_endLease_43 : dsq c_LH_endLease 43 [(.aload_n 2, 1, 0)] 44 = true := by decide +kernel
theorem s_LH_endLease_47 : dsq c_LH_endLease 47 [(.isub, 1, 0)] 48 = true := by decide +kernel
theorem s_LH_endLease_51 : dsq c_LH_endLease 51 [(.aload_n 0, 1, 0), (.aload_n 1, 1, 0), (.aload_n 2, 1, 0)] 54 = true := by decide +kernel
theorem s_LH_endLease_57 : dsq c_LH_endLease 57 [(.aload_n 2, 1, 0)] 58 = true := by decide +kernel
theorem s_LH_endLease_61 : dsq c_LH_endLease 61 [(.iconst 2, 1, 2)] 62 = true := by decide +kernel
theorem d_LH_endLease_1 : decode c_LH_endLease 1 = .ok (.getfield 91, 3) := by decide +kernel
theorem d_LH_endLease_4 : decode c_LH_endLease 4 = .ok (.invokevirtual 130, 3) := by decide +kernel
theorem d_LH_endLease_7 : decode c_LH_endLease 7 = .ok (.ifCond .eq 16, 3) := by decide +kernel
theorem d_LH_endLease_13 : decode c_LH_endLease 13 = .ok (.putfield 79, 3) := by decide +kernel
theorem d_LH_endLease_19 : decode c_LH_endLease 19 = .ok (.invokevirtual 211, 3) := by decide +kernel
theorem d_LH_endLease_22 : decode c_LH_endLease 22 = .ok (.return_, 1) := by decide +kernel
theorem d_LH_endLease_24 : decode c_LH_endLease 24 = .ok (.getfield 91, 3) := by decide +kernel
theorem d_LH_endLease_28 : decode c_LH_endLease 28 = .ok (.invokevirtual 94, 3) := by decide +kernel
theorem d_LH_endLease_31 : decode c_LH_endLease 31 = .ok (.checkcast 109, 3) := by decide +kernel
theorem d_LH_endLease_36 : decode c_LH_endLease 36 = .ok (.getfield 31, 3) := by decide +kernel
theorem d_LH_endLease_40 : decode c_LH_endLease 40 = .ok (.getfield 39, 3) := by decide +kernel
theorem d_LH_endLease_44 : decode c_LH_endLease 44 = .ok (.invokevirtual 215, 3) := by decide +kernel
theorem d_LH_endLease_48 : decode c_LH_endLease 48 = .ok (.invokevirtual 218, 3) := by decide +kernel
theorem d_LH_endLease_54 : decode c_LH_endLease 54 = .ok (.invokevirtual 111, 3) := by decide +kernel
theorem d_LH_endLease_58 : decode c_LH_endLease 58 = .ok (.invokevirtual 220, 3) := by decide +kernel
theorem d_LH_endLease_62 : decode c_LH_endLease 62 = .ok (.invokevirtual 68, 3) := by decide +kernel
theorem d_LH_endLease_65 : decode c_LH_endLease 65 = .ok (.return_, 1) := by decide +kernel
theorem s_Waiter_since_0 : dsq c_Waiter_since 0 [(.aload_n 0, 1, 0)] 1 = true := by decide +kernel
theorem d_Waiter_since_1 : decode c_Waiter_since 1 = .ok (.getfield 16, 3) := by decide +kernel
theorem d_Waiter_since_4 : decode c_Waiter_since 4 = .ok (.ireturn, 1) := by decide +kernel
theorem s_WaitTimes_add_0 : dsq c_WaitTimes_add 0 [(.aload_n 0, 1, 0)] 1 = true := by decide +kernel
theorem s_WaitTimes_add_4 : dsq c_WaitTimes_add 4 [(.aload_n 0, 1, 0)] 5 = true := by decide +kernel
theorem s_WaitTimes_add_12 : dsq c_WaitTimes_add 12 [(.aload_n 0, 1, 0)] 13 = true := by decide +kernel
theorem s_WaitTimes_add_16 : dsq c_WaitTimes_add 16 [(.aload_n 0, 1, 0)] 17 = true := by decide +kernel
theorem s_WaitTimes_add_20 : dsq c_WaitTimes_add 20 [(.iload_n 1, 1, 0)] 21 = true := by decide +kernel
theorem s_WaitTimes_add_22 : dsq c_WaitTimes_add 22 [(.aload_n 0, 1, 0), (.dup, 1, 0)] 24 = true := by decide +kernel
theorem s_WaitTimes_add_27 : dsq c_WaitTimes_add 27 [(.iconst 1, 1, 1), (.iadd, 1, 0)] 29 = true := by decide +kernel
theorem d_WaitTimes_add_1 : decode c_WaitTimes_add 1 = .ok (.getfield 15, 3) := by decide +kernel
theorem d_WaitTimes_add_5 : decode c_WaitTimes_add 5 = .ok (.getfield 9, 3) := by decide +kernel
theorem d_WaitTimes_add_8 : decode c_WaitTimes_add 8 = .ok (.arraylength, 1) := by decide +kernel
theorem d_WaitTimes_add_9 : decode c_WaitTimes_add 9 = .ok (.if_icmp .ge 23, 3) := by decide +kernel
theorem d_WaitTimes_add_13 : decode c_WaitTimes_add 13 = .ok (.getfield 9, 3) := by decide +kernel
theorem d_WaitTimes_add_17 : decode c_WaitTimes_add 17 = .ok (.getfield 15, 3) := by decide +kernel
theorem d_WaitTimes_add_21 : decode c_WaitTimes_add 21 = .ok (.iastore, 1) := by decide +kernel
theorem d_WaitTimes_add_24 : decode c_WaitTimes_add 24 = .ok (.getfield 15, 3) := by decide +kernel
theorem d_WaitTimes_add_29 : decode c_WaitTimes_add 29 = .ok (.putfield 15, 3) := by decide +kernel
theorem d_WaitTimes_add_32 : decode c_WaitTimes_add 32 = .ok (.return_, 1) := by decide +kernel
theorem s_Waiter_ticks_0 : dsq c_Waiter_ticks 0 [(.aload_n 0, 1, 0)] 1 = true := by decide +kernel
theorem d_Waiter_ticks_1 : decode c_Waiter_ticks 1 = .ok (.getfield 13, 3) := by decide +kernel
theorem d_Waiter_ticks_4 : decode c_Waiter_ticks 4 = .ok (.ireturn, 1) := by decide +kernel
theorem s_LH_renew_0 : dsq c_LH_renew 0 [(.aload_n 0, 1, 0), (.iload_n 1, 1, 0)] 2 = true := by decide +kernel
theorem s_LH_renew_5 : dsq c_LH_renew 5 [(.astore_n 3, 1, 0), (.aload_n 3, 1, 0)] 7 = true := by decide +kernel
theorem s_LH_renew_10 : dsq c_LH_renew 10 [(.iload_n 2, 1, 0)] 11 = true := by decide +kernel
theorem s_LH_renew_17 : dsq c_LH_renew 17 [(.iconst (-1), 1, (-1))] 18 = true := by decide +kernel
theorem s_LH_renew_19 : dsq c_LH_renew 19 [(.aload_n 0, 1, 0), (.aload_n 3, 1, 0), (.iload_n 1, 1, 0), (.iload_n 2, 1, 0), (.iconst 3, 1, 3)] 24 = true := by decide +kernel
theorem s_LH_renew_27 : dsq c_LH_renew 27 [(.aload_n 3, 1, 0)] 28 = true := by decide +kernel
theorem d_LH_renew_2 : decode c_LH_renew 2 = .ok (.invokevirtual 72, 3) := by decide +kernel
theorem d_LH_renew_7 : decode c_LH_renew 7 = .ok (.ifnull 10, 3) := by decide +kernel
theorem d_LH_renew_11 : decode c_LH_renew 11 = .ok (.invokestatic 51, 3) := by decide +kernel
theorem d_LH_renew_14 : decode c_LH_renew 14 = .ok (.ifCond .ne 5, 3) := by decide +kernel
theorem d_LH_renew_18 : decode c_LH_renew 18 = .ok (.ireturn, 1) := by decide +kernel
theorem d_LH_renew_24 : decode c_LH_renew 24 = .ok (.invokevirtual 68, 3) := by decide +kernel
theorem d_LH_renew_28 : decode c_LH_renew 28 = .ok (.getfield 82, 3) := by decide +kernel
theorem d_LH_renew_31 : decode c_LH_renew 31 = .ok (.ireturn, 1) := by decide +kernel
theorem s_LH_leave_0 : dsq c_LH_leave 0 [(.aload_n 0, 1, 0), (.iload_n 1, 1, 0)] 2 = true := by decide +kernel
theorem s_LH_leave_8 : dsq c_LH_leave 8 [(.iconst (-1), 1, (-1))] 9 = true := by decide +kernel
theorem s_LH_leave_10 : dsq c_LH_leave 10 [(.aload_n 0, 1, 0), (.aload_n 0, 1, 0)] 12 = true := by decide +kernel
theorem s_LH_leave_18 : dsq c_LH_leave 18 [(.astore_n 2, 1, 0), (.aload_n 2, 1, 0)] 20 = true := by decide +kernel
theorem s_LH_leave_23 : dsq c_LH_leave 23 [(.bipush (-2), 2, (-2))] 25 = true := by decide +kernel
theorem s_LH_leave_26 : dsq c_LH_leave 26 [(.aload_n 2, 1, 0), (.iload_n 1, 1, 0)] 28 = true := by decide +kernel
theorem s_LH_leave_31 : dsq c_LH_leave 31 [(.istore_n 3, 1, 0), (.iload_n 3, 1, 0), (.bipush (-2), 2, (-2))] 35 = true := by decide +kernel
theorem s_LH_leave_38 : dsq c_LH_leave 38 [(.bipush (-2), 2, (-2))] 40 = true := by decide +kernel
theorem s_LH_leave_41 : dsq c_LH_leave 41 [(.aload_n 2, 1, 0)] 42 = true := by decide +kernel
theorem s_LH_leave_45 : dsq c_LH_leave 45 [(.iload_n 3, 1, 0)] 46 = true := by decide +kernel
theorem s_LH_leave_49 : dsq c_LH_leave 49 [(.pop, 1, 0), (.aload_n 2, 1, 0)] 51 = true := by decide +kernel
theorem d_LH_leave_2 : decode c_LH_leave 2 = .ok (.invokevirtual 47, 3) := by decide +kernel
theorem d_LH_leave_5 : decode c_LH_leave 5 = .ok (.ifCond .ne 5, 3) := by decide +kernel
theorem d_LH_leave_9 : decode c_LH_leave 9 = .ok (.ireturn, 1) := by decide +kernel
theorem d_LH_leave_12 : decode c_LH_leave 12 = .ok (.getfield 35, 3) := by decide +kernel
theorem d_LH_leave_15 : decode c_LH_leave 15 = .ok (.invokevirtual 85, 3) := by decide +kernel
theorem d_LH_leave_20 : decode c_LH_leave 20 = .ok (.ifnonnull 6, 3) := by decide +kernel
theorem d_LH_leave_25 : decode c_LH_leave 25 = .ok (.ireturn, 1) := by decide +kernel
theorem d_LH_leave_28 : decode c_LH_leave 28 = .ok (.invokevirtual 88, 3) := by decide +kernel
theorem d_LH_leave_35 : decode c_LH_leave 35 = .ok (.if_icmp .ne 6, 3) := by decide +kernel
theorem d_LH_leave_40 : decode c_LH_leave 40 = .ok (.ireturn, 1) := by decide +kernel
theorem d_LH_leave_42 : decode c_LH_leave 42 = .ok (.getfield 91, 3) := by decide +kernel
theorem d_LH_leave_46 : decode c_LH_leave 46 = .ok (.invokevirtual 94, 3) := by decide +kernel
theorem d_LH_leave_51 : decode c_LH_leave 51 = .ok (.getfield 91, 3) := by decide +kernel
theorem d_LH_leave_54 : decode c_LH_leave 54 = .ok (.invokevirtual 98, 3) := by decide +kernel
theorem d_LH_leave_57 : decode c_LH_leave 57 = .ok (.ireturn, 1) := by decide +kernel
theorem s_LH_tick_0 : dsq c_LH_tick 0 [(.iload_n 1, 1, 0)] 1 = true := by decide +kernel
theorem s_LH_tick_4 : dsq c_LH_tick 4 [(.iload_n 1, 1, 0), (.bipush 60, 2, 60)] 7 = true := by decide +kernel
theorem s_LH_tick_10 : dsq c_LH_tick 10 [(.iconst (-1), 1, (-1))] 11 = true := by decide +kernel
theorem s_LH_tick_12 : dsq c_LH_tick 12 [(.aload_n 0, 1, 0)] 13 = true := by decide +kernel
theorem s_LH_tick_16 : dsq c_LH_tick 16 [(.iload_n 1, 1, 0), (.iadd, 1, 0), (.istore_n 2, 1, 0), (.iload_n 1, 1, 0), (.aload_n 0, 1, 0)] 21 = true := by decide +kernel
theorem s_LH_tick_27 : dsq c_LH_tick 27 [(.imul, 1, 0), (.istore_n 3, 1, 0), (.iconst 0, 1, 0), (.istore 4, 2, 0), (.aload_n 0, 1, 0)] 33 = true := by decide +kernel
theorem s_LH_tick_36 : dsq c_LH_tick 36 [(.astore 5, 2, 0)] 38 = true := by decide +kernel
theorem s_LH_tick_38 : dsq c_LH_tick 38 [(.iload 4, 2, 0), (.iload_n 3, 1, 0)] 41 = true := by decide +kernel
theorem s_LH_tick_44 : dsq c_LH_tick 44 [(.aload 5, 2, 0)] 46 = true := by decide +kernel
theorem s_LH_tick_49 : dsq c_LH_tick 49 [(.aload 5, 2, 0)] 51 = true := by decide +kernel
theorem s_LH_tick_54 : dsq c_LH_tick 54 [(.iload_n 2, 1, 0)] 55 = true := by decide +kernel
theorem s_LH_tick_58 : dsq c_LH_tick 58 [(.aload_n 0, 1, 0), (.aload 5, 2, 0)] 61 = true := by decide +kernel
theorem s_LH_tick_67 : dsq c_LH_tick 67 [(.aload_n 0, 1, 0), (.aload 5, 2, 0)] 70 = true := by decide +kernel
theorem s_LH_tick_73 : dsq c_LH_tick 73 [(.iinc 4 1, 3, 1), (.aload_n 0, 1, 0)] 77 = true := by decide +kernel
theorem s_LH_tick_80 : dsq c_LH_tick 80 [(.astore 5, 2, 0), (.goto (-44), 3, 0)] 38 = true := by decide +kernel
theorem s_LH_tick_85 : dsq c_LH_tick 85 [(.aload_n 0, 1, 0), (.iload_n 2, 1, 0)] 87 = true := by decide +kernel
theorem s_LH_tick_90 : dsq c_LH_tick 90 [(.iload 4, 2, 0)] 92 = true := by decide +kernel
theorem d_LH_tick_1 : decode c_LH_tick 1 = .ok (.ifCond .lt 9, 3) := by decide +kernel
theorem d_LH_tick_7 : decode c_LH_tick 7 = .ok (.if_icmp .le 5, 3) := by decide +kernel
theorem d_LH_tick_11 : decode c_LH_tick 11 = .ok (.ireturn, 1) := by decide +kernel
theorem d_LH_tick_13 : decode c_LH_tick 13 = .ok (.getfield 39, 3) := by decide +kernel
theorem d_LH_tick_21 : decode c_LH_tick 21 = .ok (.getfield 10, 3) := by decide +kernel
theorem d_LH_tick_24 : decode c_LH_tick 24 = .ok (.invokevirtual 98, 3) := by decide +kernel
theorem d_LH_tick_33 : decode c_LH_tick 33 = .ok (.invokevirtual 102, 3) := by decide +kernel
theorem d_LH_tick_41 : decode c_LH_tick 41 = .ok (.if_icmp .ge 44, 3) := by decide +kernel
theorem d_LH_tick_46 : decode c_LH_tick 46 = .ok (.ifnull 39, 3) := by decide +kernel
theorem d_LH_tick_51 : decode c_LH_tick 51 = .ok (.getfield 82, 3) := by decide +kernel
theorem d_LH_tick_55 : decode c_LH_tick 55 = .ok (.if_icmp .gt 30, 3) := by decide +kernel
theorem d_LH_tick_61 : decode c_LH_tick 61 = .ok (.getfield 82, 3) := by decide +kernel
theorem d_LH_tick_64 : decode c_LH_tick 64 = .ok (.putfield 39, 3) := by decide +kernel
theorem d_LH_tick_70 : decode c_LH_tick 70 = .ok (.invokevirtual 75, 3) := by decide +kernel
theorem d_LH_tick_77 : decode c_LH_tick 77 = .ok (.invokevirtual 102, 3) := by decide +kernel
theorem d_LH_tick_87 : decode c_LH_tick 87 = .ok (.putfield 39, 3) := by decide +kernel
theorem d_LH_tick_92 : decode c_LH_tick 92 = .ok (.ireturn, 1) := by decide +kernel
theorem s_LH_findNextToEnd_0 : dsq c_LH_findNextToEnd 0 [(.aconst_null, 1, 0), (.astore_n 1, 1, 0), (.iconst 0, 1, 0), (.istore_n 2, 1, 0)] 4 = true := by decide +kernel
theorem s_LH_findNextToEnd_4 : dsq c_LH_findNextToEnd 4 [(.iload_n 2, 1, 0), (.aload_n 0, 1, 0)] 6 = true := by decide +kernel
theorem s_LH_findNextToEnd_15 : dsq c_LH_findNextToEnd 15 [(.aload_n 0, 1, 0)] 16 = true := by decide +kernel
theorem s_LH_findNextToEnd_19 : dsq c_LH_findNextToEnd 19 [(.iload_n 2, 1, 0)] 20 = true := by decide +kernel
theorem s_LH_findNextToEnd_26 : dsq c_LH_findNextToEnd 26 [(.astore_n 3, 1, 0), (.aload_n 3, 1, 0)] 28 = true := by decide +kernel
theorem s_LH_findNextToEnd_34 : dsq c_LH_findNextToEnd 34 [(.aload_n 1, 1, 0)] 35 = true := by decide +kernel
theorem s_LH_findNextToEnd_38 : dsq c_LH_findNextToEnd 38 [(.aload_n 3, 1, 0), (.aload_n 1, 1, 0)] 40 = true := by decide +kernel
theorem s_LH_findNextToEnd_46 : dsq c_LH_findNextToEnd 46 [(.aload_n 3, 1, 0), (.astore_n 1, 1, 0), (.iinc 2 1, 3, 1), (.goto (-47), 3, 0)] 4 = true := by decide +kernel
theorem s_LH_findNextToEnd_48 : dsq c_LH_findNextToEnd 48 [(.iinc 2 1, 3, 1), (.goto (-47), 3, 0)] 4 = true := by decide +kernel
theorem s_LH_findNextToEnd_54 : dsq c_LH_findNextToEnd 54 [(.aload_n 1, 1, 0)] 55 = true := by decide +kernel
theorem d_LH_findNextToEnd_6 : decode c_LH_findNextToEnd 6 = .ok (.getfield 10, 3) := by decide +kernel
theorem d_LH_findNextToEnd_9 : decode c_LH_findNextToEnd 9 = .ok (.invokevirtual 98, 3) := by decide +kernel
theorem d_LH_findNextToEnd_12 : decode c_LH_findNextToEnd 12 = .ok (.if_icmp .ge 42, 3) := by decide +kernel
theorem d_LH_findNextToEnd_16 : decode c_LH_findNextToEnd 16 = .ok (.getfield 10, 3) := by decide +kernel
theorem d_LH_findNextToEnd_20 : decode c_LH_findNextToEnd 20 = .ok (.invokevirtual 106, 3) := by decide +kernel
theorem d_LH_findNextToEnd_23 : decode c_LH_findNextToEnd 23 = .ok (.checkcast 59, 3) := by decide +kernel
theorem d_LH_findNextToEnd_28 : decode c_LH_findNextToEnd 28 = .ok (.invokevirtual 58, 3) := by decide +kernel
theorem d_LH_findNextToEnd_31 : decode c_LH_findNextToEnd 31 = .ok (.ifCond .eq 17, 3) := by decide +kernel
theorem d_LH_findNextToEnd_35 : decode c_LH_findNextToEnd 35 = .ok (.ifnull 11, 3) := by decide +kernel
theorem d_LH_findNextToEnd_40 : decode c_LH_findNextToEnd 40 = .ok (.invokevirtual 206, 3) := by decide +kernel
theorem d_LH_findNextToEnd_43 : decode c_LH_findNextToEnd 43 = .ok (.ifCond .eq 5, 3) := by decide +kernel
theorem d_LH_findNextToEnd_55 : decode c_LH_findNextToEnd 55 = .ok (.areturn, 1) := by decide +kernel
theorem s_Thing_endsBefore_0 : dsq c_Thing_endsBefore 0 [(.aload_n 0, 1, 0)] 1 = true := by decide +kernel
theorem s_Thing_endsBefore_4 : dsq c_Thing_endsBefore 4 [(.aload_n 1, 1, 0)] 5 = true := by decide +kernel
theorem s_Thing_endsBefore_11 : dsq c_Thing_endsBefore 11 [(.aload_n 0, 1, 0)] 12 = true := by decide +kernel
theorem s_Thing_endsBefore_15 : dsq c_Thing_endsBefore 15 [(.aload_n 1, 1, 0)] 16 = true := by decide +kernel
theorem s_Thing_endsBefore_22 : dsq c_Thing_endsBefore 22 [(.iconst 1, 1, 1), (.goto 23, 3, 0)] 46 = true := by decide +kernel
theorem s_Thing_endsBefore_26 : dsq c_Thing_endsBefore 26 [(.iconst 0, 1, 0), (.goto 19, 3, 0)] 46 = true := by decide +kernel
theorem s_Thing_endsBefore_30 : dsq c_Thing_endsBefore 30 [(.aload_n 0, 1, 0)] 31 = true := by decide +kernel
theorem s_Thing_endsBefore_34 : dsq c_Thing_endsBefore 34 [(.aload_n 1, 1, 0)] 35 = true := by decide +kernel
theorem s_Thing_endsBefore_41 : dsq c_Thing_endsBefore 41 [(.iconst 1, 1, 1), (.goto 4, 3, 0)] 46 = true := by decide +kernel
theorem s_Thing_endsBefore_45 : dsq c_Thing_endsBefore 45 [(.iconst 0, 1, 0)] 46 = true := by decide +kernel
theorem d_Thing_endsBefore_1 : decode c_Thing_endsBefore 1 = .ok (.getfield 22, 3) := by decide +kernel
theorem d_Thing_endsBefore_5 : decode c_Thing_endsBefore 5 = .ok (.getfield 22, 3) := by decide +kernel
theorem d_Thing_endsBefore_8 : decode c_Thing_endsBefore 8 = .ok (.if_icmp .eq 22, 3) := by decide +kernel
theorem d_Thing_endsBefore_12 : decode c_Thing_endsBefore 12 = .ok (.getfield 22, 3) := by decide +kernel
theorem d_Thing_endsBefore_16 : decode c_Thing_endsBefore 16 = .ok (.getfield 22, 3) := by decide +kernel
theorem d_Thing_endsBefore_19 : decode c_Thing_endsBefore 19 = .ok (.if_icmp .ge 7, 3) := by decide +kernel
theorem d_Thing_endsBefore_31 : decode c_Thing_endsBefore 31 = .ok (.getfield 31, 3) := by decide +kernel
theorem d_Thing_endsBefore_35 : decode c_Thing_endsBefore 35 = .ok (.getfield 31, 3) := by decide +kernel
theorem d_Thing_endsBefore_38 : decode c_Thing_endsBefore 38 = .ok (.if_icmp .ge 7, 3) := by decide +kernel
theorem d_Thing_endsBefore_46 : decode c_Thing_endsBefore 46 = .ok (.ireturn, 1) := by decide +kernel
theorem s_LH_holder_0 : dsq c_LH_holder 0 [(.aload_n 0, 1, 0)] 1 = true := by decide +kernel
theorem s_LH_holder_7 : dsq c_LH_holder 7 [(.iconst (-1), 1, (-1))] 8 = true := by decide +kernel
theorem s_LH_holder_9 : dsq c_LH_holder 9 [(.aload_n 0, 1, 0), (.aload_n 0, 1, 0)] 11 = true := by decide +kernel
theorem s_LH_holder_17 : dsq c_LH_holder 17 [(.astore_n 1, 1, 0), (.aload_n 1, 1, 0)] 19 = true := by decide +kernel
theorem s_LH_holder_22 : dsq c_LH_holder 22 [(.bipush (-2), 2, (-2)), (.goto 7, 3, 0)] 31 = true := by decide +kernel
theorem s_LH_holder_27 : dsq c_LH_holder 27 [(.aload_n 1, 1, 0)] 28 = true := by decide +kernel
theorem d_LH_holder_1 : decode c_LH_holder 1 = .ok (.getfield 35, 3) := by decide +kernel
theorem d_LH_holder_4 : decode c_LH_holder 4 = .ok (.ifCond .ne 5, 3) := by decide +kernel
theorem d_LH_holder_8 : decode c_LH_holder 8 = .ok (.ireturn, 1) := by decide +kernel
theorem d_LH_holder_11 : decode c_LH_holder 11 = .ok (.getfield 35, 3) := by decide +kernel
theorem d_LH_holder_14 : decode c_LH_holder 14 = .ok (.invokevirtual 85, 3) := by decide +kernel
theorem d_LH_holder_19 : decode c_LH_holder 19 = .ok (.ifnonnull 8, 3) := by decide +kernel
theorem d_LH_holder_28 : decode c_LH_holder 28 = .ok (.getfield 79, 3) := by decide +kernel
theorem d_LH_holder_31 : decode c_LH_holder 31 = .ok (.ireturn, 1) := by decide +kernel
theorem s_LH_left_0 : dsq c_LH_left 0 [(.aload_n 0, 1, 0)] 1 = true := by decide +kernel
theorem s_LH_left_7 : dsq c_LH_left 7 [(.iconst (-1), 1, (-1))] 8 = true := by decide +kernel
theorem s_LH_left_9 : dsq c_LH_left 9 [(.aload_n 0, 1, 0), (.aload_n 0, 1, 0)] 11 = true := by decide +kernel
theorem s_LH_left_17 : dsq c_LH_left 17 [(.astore_n 1, 1, 0), (.aload_n 1, 1, 0)] 19 = true := by decide +kernel
theorem s_LH_left_22 : dsq c_LH_left 22 [(.aload_n 1, 1, 0)] 23 = true := by decide +kernel
theorem s_LH_left_29 : dsq c_LH_left 29 [(.bipush (-2), 2, (-2)), (.goto 12, 3, 0)] 43 = true := by decide +kernel
theorem s_LH_left_34 : dsq c_LH_left 34 [(.aload_n 1, 1, 0)] 35 = true := by decide +kernel
theorem s_LH_left_38 : dsq c_LH_left 38 [(.aload_n 0, 1, 0)] 39 = true := by decide +kernel
theorem s_LH_left_42 : dsq c_LH_left 42 [(.isub, 1, 0)] 43 = true := by decide +kernel
theorem d_LH_left_1 : decode c_LH_left 1 = .ok (.getfield 35, 3) := by decide +kernel
theorem d_LH_left_4 : decode c_LH_left 4 = .ok (.ifCond .ne 5, 3) := by decide +kernel
theorem d_LH_left_8 : decode c_LH_left 8 = .ok (.ireturn, 1) := by decide +kernel
theorem d_LH_left_11 : decode c_LH_left 11 = .ok (.getfield 35, 3) := by decide +kernel
theorem d_LH_left_14 : decode c_LH_left 14 = .ok (.invokevirtual 85, 3) := by decide +kernel
theorem d_LH_left_19 : decode c_LH_left 19 = .ok (.ifnull 10, 3) := by decide +kernel
theorem d_LH_left_23 : decode c_LH_left 23 = .ok (.invokevirtual 58, 3) := by decide +kernel
theorem d_LH_left_26 : decode c_LH_left 26 = .ok (.ifCond .ne 8, 3) := by decide +kernel
theorem d_LH_left_35 : decode c_LH_left 35 = .ok (.getfield 82, 3) := by decide +kernel
theorem d_LH_left_39 : decode c_LH_left 39 = .ok (.getfield 39, 3) := by decide +kernel
theorem d_LH_left_43 : decode c_LH_left 43 = .ok (.ireturn, 1) := by decide +kernel
theorem s_LH_waiting_0 : dsq c_LH_waiting 0 [(.aload_n 0, 1, 0)] 1 = true := by decide +kernel
theorem s_LH_waiting_7 : dsq c_LH_waiting 7 [(.iconst (-1), 1, (-1))] 8 = true := by decide +kernel
theorem s_LH_waiting_9 : dsq c_LH_waiting 9 [(.aload_n 0, 1, 0), (.aload_n 0, 1, 0)] 11 = true := by decide +kernel
theorem s_LH_waiting_17 : dsq c_LH_waiting 17 [(.astore_n 2, 1, 0), (.aload_n 2, 1, 0)] 19 = true := by decide +kernel
theorem s_LH_waiting_22 : dsq c_LH_waiting 22 [(.iload_n 1, 1, 0)] 23 = true := by decide +kernel
theorem s_LH_waiting_26 : dsq c_LH_waiting 26 [(.iload_n 1, 1, 0), (.aload_n 2, 1, 0)] 28 = true := by decide +kernel
theorem s_LH_waiting_37 : dsq c_LH_waiting 37 [(.bipush (-2), 2, (-2))] 39 = true := by decide +kernel
theorem s_LH_waiting_40 : dsq c_LH_waiting 40 [(.aload_n 2, 1, 0)] 41 = true := by decide +kernel
theorem s_LH_waiting_44 : dsq c_LH_waiting 44 [(.iload_n 1, 1, 0)] 45 = true := by decide +kernel
theorem d_LH_waiting_1 : decode c_LH_waiting 1 = .ok (.getfield 35, 3) := by decide +kernel
theorem d_LH_waiting_4 : decode c_LH_waiting 4 = .ok (.ifCond .ne 5, 3) := by decide +kernel
theorem d_LH_waiting_8 : decode c_LH_waiting 8 = .ok (.ireturn, 1) := by decide +kernel
theorem d_LH_waiting_11 : decode c_LH_waiting 11 = .ok (.getfield 35, 3) := by decide +kernel
theorem d_LH_waiting_14 : decode c_LH_waiting 14 = .ok (.invokevirtual 85, 3) := by decide +kernel
theorem d_LH_waiting_19 : decode c_LH_waiting 19 = .ok (.ifnull 18, 3) := by decide +kernel
theorem d_LH_waiting_23 : decode c_LH_waiting 23 = .ok (.ifCond .lt 14, 3) := by decide +kernel
theorem d_LH_waiting_28 : decode c_LH_waiting 28 = .ok (.getfield 91, 3) := by decide +kernel
theorem d_LH_waiting_31 : decode c_LH_waiting 31 = .ok (.invokevirtual 98, 3) := by decide +kernel
theorem d_LH_waiting_34 : decode c_LH_waiting 34 = .ok (.if_icmp .lt 6, 3) := by decide +kernel
theorem d_LH_waiting_39 : decode c_LH_waiting 39 = .ok (.ireturn, 1) := by decide +kernel
theorem d_LH_waiting_41 : decode c_LH_waiting 41 = .ok (.getfield 91, 3) := by decide +kernel
theorem d_LH_waiting_45 : decode c_LH_waiting 45 = .ok (.invokevirtual 106, 3) := by decide +kernel
theorem d_LH_waiting_48 : decode c_LH_waiting 48 = .ok (.checkcast 109, 3) := by decide +kernel
theorem d_LH_waiting_51 : decode c_LH_waiting 51 = .ok (.invokevirtual 111, 3) := by decide +kernel
theorem d_LH_waiting_54 : decode c_LH_waiting 54 = .ok (.ireturn, 1) := by decide +kernel
theorem s_LH_first_0 : dsq c_LH_first 0 [(.aload_n 0, 1, 0)] 1 = true := by decide +kernel
theorem s_LH_first_4 : dsq c_LH_first 4 [(.astore_n 1, 1, 0), (.aload_n 1, 1, 0)] 6 = true := by decide +kernel
theorem s_LH_first_9 : dsq c_LH_first 9 [(.bipush (-2), 2, (-2))] 11 = true := by decide +kernel
theorem s_LH_first_12 : dsq c_LH_first 12 [(.aload_n 0, 1, 0), (.aload_n 1, 1, 0)] 14 = true := by decide +kernel
theorem s_LH_first_20 : dsq c_LH_first 20 [(.aload_n 1, 1, 0)] 21 = true := by decide +kernel
theorem d_LH_first_1 : decode c_LH_first 1 = .ok (.invokevirtual 102, 3) := by decide +kernel
theorem d_LH_first_6 : decode c_LH_first 6 = .ok (.ifnonnull 6, 3) := by decide +kernel
theorem d_LH_first_11 : decode c_LH_first 11 = .ok (.ireturn, 1) := by decide +kernel
theorem d_LH_first_14 : decode c_LH_first 14 = .ok (.getfield 114, 3) := by decide +kernel
theorem d_LH_first_17 : decode c_LH_first 17 = .ok (.putfield 35, 3) := by decide +kernel
theorem d_LH_first_21 : decode c_LH_first 21 = .ok (.getfield 79, 3) := by decide +kernel
theorem d_LH_first_24 : decode c_LH_first 24 = .ok (.ireturn, 1) := by decide +kernel
theorem s_LH_job_0 : dsq c_LH_job 0 [(.aload_n 0, 1, 0)] 1 = true := by decide +kernel
theorem s_LH_job_7 : dsq c_LH_job 7 [(.iconst (-1), 1, (-1))] 8 = true := by decide +kernel
theorem s_LH_job_9 : dsq c_LH_job 9 [(.aload_n 0, 1, 0)] 10 = true := by decide +kernel
theorem s_LH_job_16 : dsq c_LH_job 16 [(.bipush 30, 2, 30)] 18 = true := by decide +kernel
theorem s_LH_job_21 : dsq c_LH_job 21 [(.bipush (-3), 2, (-3))] 23 = true := by decide +kernel
theorem s_LH_job_27 : dsq c_LH_job 27 [(.dup, 1, 0), (.aload_n 0, 1, 0)] 29 = true := by decide +kernel
theorem s_LH_job_32 : dsq c_LH_job 32 [(.iload_n 1, 1, 0), (.iload_n 2, 1, 0)] 34 = true := by decide +kernel
theorem s_LH_job_37 : dsq c_LH_job 37 [(.astore_n 3, 1, 0), (.aload_n 0, 1, 0)] 39 = true := by decide +kernel
theorem s_LH_job_42 : dsq c_LH_job 42 [(.aload_n 0, 1, 0), (.aload_n 3, 1, 0)] 44 = true := by decide +kernel
theorem s_LH_job_47 : dsq c_LH_job 47 [(.aload_n 3, 1, 0)] 48 = true := by decide +kernel
theorem s_LH_job_51 : dsq c_LH_job 51 [(.aload_n 0, 1, 0)] 52 = true := by decide +kernel
theorem d_LH_job_1 : decode c_LH_job 1 = .ok (.getfield 35, 3) := by decide +kernel
theorem d_LH_job_4 : decode c_LH_job 4 = .ok (.ifCond .ne 5, 3) := by decide +kernel
theorem d_LH_job_8 : decode c_LH_job 8 = .ok (.ireturn, 1) := by decide +kernel
theorem d_LH_job_10 : decode c_LH_job 10 = .ok (.getfield 16, 3) := by decide +kernel
theorem d_LH_job_13 : decode c_LH_job 13 = .ok (.invokevirtual 98, 3) := by decide +kernel
theorem d_LH_job_18 : decode c_LH_job 18 = .ok (.if_icmp .lt 6, 3) := by decide +kernel
theorem d_LH_job_23 : decode c_LH_job 23 = .ok (.ireturn, 1) := by decide +kernel
theorem d_LH_job_24 : decode c_LH_job 24 = .ok (.new 117, 3) := by decide +kernel
theorem d_LH_job_29 : decode c_LH_job 29 = .ok (.getfield 35, 3) := by decide +kernel
theorem d_LH_job_34 : decode c_LH_job 34 = .ok (.invokespecial 119, 3) := by decide +kernel
theorem d_LH_job_39 : decode c_LH_job 39 = .ok (.getfield 16, 3) := by decide +kernel
theorem d_LH_job_44 : decode c_LH_job 44 = .ok (.invokevirtual 122, 3) := by decide +kernel
theorem d_LH_job_48 : decode c_LH_job 48 = .ok (.invokevirtual 126, 3) := by decide +kernel
theorem d_LH_job_52 : decode c_LH_job 52 = .ok (.getfield 16, 3) := by decide +kernel
theorem d_LH_job_55 : decode c_LH_job 55 = .ok (.invokevirtual 98, 3) := by decide +kernel
theorem d_LH_job_58 : decode c_LH_job 58 = .ok (.ireturn, 1) := by decide +kernel
theorem s_Job_init_0 : dsq c_Job_init 0 [(.aload_n 0, 1, 0)] 1 = true := by decide +kernel
theorem s_Job_init_4 : dsq c_Job_init 4 [(.aload_n 0, 1, 0), (.iload_n 1, 1, 0)] 6 = true := by decide +kernel
theorem s_Job_init_9 : dsq c_Job_init 9 [(.aload_n 0, 1, 0), (.iload_n 2, 1, 0)] 11 = true := by decide +kernel
theorem s_Job_init_14 : dsq c_Job_init 14 [(.aload_n 0, 1, 0), (.iload_n 3, 1, 0)] 16 = true := by decide +kernel
theorem d_Job_init_1 : decode c_Job_init 1 = .ok (.invokespecial 1, 3) := by decide +kernel
theorem d_Job_init_6 : decode c_Job_init 6 = .ok (.putfield 7, 3) := by decide +kernel
theorem d_Job_init_11 : decode c_Job_init 11 = .ok (.putfield 13, 3) := by decide +kernel
theorem d_Job_init_16 : decode c_Job_init 16 = .ok (.putfield 16, 3) := by decide +kernel
theorem d_Job_init_19 : decode c_Job_init 19 = .ok (.return_, 1) := by decide +kernel
theorem s_LH_findTurnOf_0 : dsq c_LH_findTurnOf 0 [(.iconst 0, 1, 0), (.istore_n 2, 1, 0)] 2 = true := by decide +kernel
theorem s_LH_findTurnOf_2 : dsq c_LH_findTurnOf 2 [(.iload_n 2, 1, 0), (.aload_n 0, 1, 0)] 4 = true := by decide +kernel
theorem s_LH_findTurnOf_13 : dsq c_LH_findTurnOf 13 [(.aload_n 1, 1, 0), (.aload_n 0, 1, 0)] 15 = true := by decide +kernel
theorem s_LH_findTurnOf_18 : dsq c_LH_findTurnOf 18 [(.iload_n 2, 1, 0)] 19 = true := by decide +kernel
theorem s_LH_findTurnOf_31 : dsq c_LH_findTurnOf 31 [(.iinc 2 1, 3, 1), (.goto (-32), 3, 0)] 2 = true := by decide +kernel
theorem s_LH_findTurnOf_37 : dsq c_LH_findTurnOf 37 [(.iload_n 2, 1, 0)] 38 = true := by decide +kernel
theorem d_LH_findTurnOf_4 : decode c_LH_findTurnOf 4 = .ok (.getfield 16, 3) := by decide +kernel
theorem d_LH_findTurnOf_7 : decode c_LH_findTurnOf 7 = .ok (.invokevirtual 98, 3) := by decide +kernel
theorem d_LH_findTurnOf_10 : decode c_LH_findTurnOf 10 = .ok (.if_icmp .ge 27, 3) := by decide +kernel
theorem d_LH_findTurnOf_15 : decode c_LH_findTurnOf 15 = .ok (.getfield 16, 3) := by decide +kernel
theorem d_LH_findTurnOf_19 : decode c_LH_findTurnOf 19 = .ok (.invokevirtual 106, 3) := by decide +kernel
theorem d_LH_findTurnOf_22 : decode c_LH_findTurnOf 22 = .ok (.checkcast 117, 3) := by decide +kernel
theorem d_LH_findTurnOf_25 : decode c_LH_findTurnOf 25 = .ok (.invokevirtual 234, 3) := by decide +kernel
theorem d_LH_findTurnOf_28 : decode c_LH_findTurnOf 28 = .ok (.ifCond .ne 9, 3) := by decide +kernel
theorem d_LH_findTurnOf_38 : decode c_LH_findTurnOf 38 = .ok (.ireturn, 1) := by decide +kernel
theorem s_Job_goesBefore_0 : dsq c_Job_goesBefore 0 [(.aload_n 0, 1, 0)] 1 = true := by decide +kernel
theorem s_Job_goesBefore_4 : dsq c_Job_goesBefore 4 [(.aload_n 1, 1, 0)] 5 = true := by decide +kernel
theorem s_Job_goesBefore_11 : dsq c_Job_goesBefore 11 [(.aload_n 0, 1, 0)] 12 = true := by decide +kernel
theorem s_Job_goesBefore_15 : dsq c_Job_goesBefore 15 [(.aload_n 1, 1, 0)] 16 = true := by decide +kernel
theorem s_Job_goesBefore_22 : dsq c_Job_goesBefore 22 [(.iconst 1, 1, 1), (.goto 23, 3, 0)] 46 = true := by decide +kernel
theorem s_Job_goesBefore_26 : dsq c_Job_goesBefore 26 [(.iconst 0, 1, 0), (.goto 19, 3, 0)] 46 = true := by decide +kernel
theorem s_Job_goesBefore_30 : dsq c_Job_goesBefore 30 [(.aload_n 0, 1, 0)] 31 = true := by decide +kernel
theorem s_Job_goesBefore_34 : dsq c_Job_goesBefore 34 [(.aload_n 1, 1, 0)] 35 = true := by decide +kernel
theorem s_Job_goesBefore_41 : dsq c_Job_goesBefore 41 [(.iconst 1, 1, 1), (.goto 4, 3, 0)] 46 = true := by decide +kernel
theorem s_Job_goesBefore_45 : dsq c_Job_goesBefore 45 [(.iconst 0, 1, 0)] 46 = true := by decide +kernel
theorem d_Job_goesBefore_1 : decode c_Job_goesBefore 1 = .ok (.getfield 13, 3) := by decide +kernel
theorem d_Job_goesBefore_5 : decode c_Job_goesBefore 5 = .ok (.getfield 13, 3) := by decide +kernel
theorem d_Job_goesBefore_8 : decode c_Job_goesBefore 8 = .ok (.if_icmp .eq 22, 3) := by decide +kernel
theorem d_Job_goesBefore_12 : decode c_Job_goesBefore 12 = .ok (.getfield 13, 3) := by decide +kernel
theorem d_Job_goesBefore_16 : decode c_Job_goesBefore 16 = .ok (.getfield 13, 3) := by decide +kernel
theorem d_Job_goesBefore_19 : decode c_Job_goesBefore 19 = .ok (.if_icmp .ge 7, 3) := by decide +kernel
theorem d_Job_goesBefore_31 : decode c_Job_goesBefore 31 = .ok (.getfield 16, 3) := by decide +kernel
theorem d_Job_goesBefore_35 : decode c_Job_goesBefore 35 = .ok (.getfield 16, 3) := by decide +kernel
theorem d_Job_goesBefore_38 : decode c_Job_goesBefore 38 = .ok (.if_icmp .ge 7, 3) := by decide +kernel
theorem d_Job_goesBefore_46 : decode c_Job_goesBefore 46 = .ok (.ireturn, 1) := by decide +kernel
theorem s_LH_work_0 : dsq c_LH_work 0 [(.aload_n 0, 1, 0)] 1 = true := by decide +kernel
theorem s_LH_work_10 : dsq c_LH_work 10 [(.aload_n 0, 1, 0)] 11 = true := by decide +kernel
theorem s_LH_work_14 : dsq c_LH_work 14 [(.iconst 0, 1, 0)] 15 = true := by decide +kernel
theorem s_LH_work_24 : dsq c_LH_work 24 [(.aload_n 0, 1, 0)] 25 = true := by decide +kernel
theorem s_LH_work_35 : dsq c_LH_work 35 [(.aload_n 0, 1, 0)] 36 = true := by decide +kernel
theorem s_LH_work_39 : dsq c_LH_work 39 [(.iconst 0, 1, 0)] 40 = true := by decide +kernel
theorem s_LH_work_46 : dsq c_LH_work 46 [(.astore_n 1, 1, 0), (.aload_n 0, 1, 0), (.aload_n 1, 1, 0)] 49 = true := by decide +kernel
theorem s_LH_work_55 : dsq c_LH_work 55 [(.aload_n 1, 1, 0)] 56 = true := by decide +kernel
theorem s_LH_work_59 : dsq c_LH_work 59 [(.i2l, 1, 0)] 60 = true := by decide +kernel
theorem d_LH_work_1 : decode c_LH_work 1 = .ok (.getfield 16, 3) := by decide +kernel
theorem d_LH_work_4 : decode c_LH_work 4 = .ok (.invokevirtual 130, 3) := by decide +kernel
theorem d_LH_work_7 : decode c_LH_work 7 = .ok (.ifCond .ne 24, 3) := by decide +kernel
theorem d_LH_work_11 : decode c_LH_work 11 = .ok (.getfield 16, 3) := by decide +kernel
theorem d_LH_work_15 : decode c_LH_work 15 = .ok (.invokevirtual 106, 3) := by decide +kernel
theorem d_LH_work_18 : decode c_LH_work 18 = .ok (.checkcast 117, 3) := by decide +kernel
theorem d_LH_work_21 : decode c_LH_work 21 = .ok (.invokevirtual 133, 3) := by decide +kernel
theorem d_LH_work_25 : decode c_LH_work 25 = .ok (.getfield 39, 3) := by decide +kernel
theorem d_LH_work_28 : decode c_LH_work 28 = .ok (.if_icmp .le 7, 3) := by decide +kernel
theorem d_LH_work_31 : decode c_LH_work 31 = .ok (.ldc2_w 136, 3) := by decide +kernel
theorem d_LH_work_34 : decode c_LH_work 34 = .ok (.lreturn, 1) := by decide +kernel
theorem d_LH_work_36 : decode c_LH_work 36 = .ok (.getfield 16, 3) := by decide +kernel
theorem d_LH_work_40 : decode c_LH_work 40 = .ok (.invokevirtual 94, 3) := by decide +kernel
theorem d_LH_work_43 : decode c_LH_work 43 = .ok (.checkcast 117, 3) := by decide +kernel
theorem d_LH_work_49 : decode c_LH_work 49 = .ok (.invokevirtual 138, 3) := by decide +kernel
theorem d_LH_work_52 : decode c_LH_work 52 = .ok (.putfield 35, 3) := by decide +kernel
theorem d_LH_work_56 : decode c_LH_work 56 = .ok (.invokevirtual 140, 3) := by decide +kernel
theorem d_LH_work_60 : decode c_LH_work 60 = .ok (.lreturn, 1) := by decide +kernel
theorem s_Job_due_0 : dsq c_Job_due 0 [(.aload_n 0, 1, 0)] 1 = true := by decide +kernel
theorem d_Job_due_1 : decode c_Job_due 1 = .ok (.getfield 16, 3) := by decide +kernel
theorem d_Job_due_4 : decode c_Job_due 4 = .ok (.ireturn, 1) := by decide +kernel
theorem s_Job_name_0 : dsq c_Job_name 0 [(.aload_n 0, 1, 0)] 1 = true := by decide +kernel
theorem d_Job_name_1 : decode c_Job_name 1 = .ok (.getfield 7, 3) := by decide +kernel
theorem d_Job_name_4 : decode c_Job_name 4 = .ok (.ireturn, 1) := by decide +kernel
theorem s_Job_rank_0 : dsq c_Job_rank 0 [(.aload_n 0, 1, 0)] 1 = true := by decide +kernel
theorem d_Job_rank_1 : decode c_Job_rank 1 = .ok (.getfield 13, 3) := by decide +kernel
theorem d_Job_rank_4 : decode c_Job_rank 4 = .ok (.ireturn, 1) := by decide +kernel
theorem s_LH_cancel_0 : dsq c_LH_cancel 0 [(.aload_n 0, 1, 0)] 1 = true := by decide +kernel
theorem s_LH_cancel_7 : dsq c_LH_cancel 7 [(.iconst (-1), 1, (-1))] 8 = true := by decide +kernel
theorem s_LH_cancel_9 : dsq c_LH_cancel 9 [(.aload_n 0, 1, 0)] 10 = true := by decide +kernel
theorem s_LH_cancel_16 : dsq c_LH_cancel 16 [(.istore_n 1, 1, 0), (.iload_n 1, 1, 0), (.iconst 1, 1, 1), (.isub, 1, 0), (.istore_n 2, 1, 0)] 21 = true := by decide +kernel
theorem s_LH_cancel_21 : dsq c_LH_cancel 21 [(.iload_n 2, 1, 0)] 22 = true := by decide +kernel
theorem s_LH_cancel_25 : dsq c_LH_cancel 25 [(.aload_n 0, 1, 0)] 26 = true := by decide +kernel
theorem s_LH_cancel_29 : dsq c_LH_cancel 29 [(.iload_n 2, 1, 0)] 30 = true := by decide +kernel
theorem s_LH_cancel_39 : dsq c_LH_cancel 39 [(.aload_n 0, 1, 0)] 40 = true := by decide +kernel
theorem s_LH_cancel_46 : dsq c_LH_cancel 46 [(.aload_n 0, 1, 0)] 47 = true := by decide +kernel
theorem s_LH_cancel_50 : dsq c_LH_cancel 50 [(.iload_n 2, 1, 0)] 51 = true := by decide +kernel
theorem s_LH_cancel_54 : dsq c_LH_cancel 54 [(.pop, 1, 0), (.iinc 2 (-1), 3, (-1)), (.goto (-37), 3, 0)] 21 = true := by decide +kernel
theorem s_LH_cancel_55 : dsq c_LH_cancel 55 [(.iinc 2 (-1), 3, (-1)), (.goto (-37), 3, 0)] 21 = true := by decide +kernel
theorem s_LH_cancel_61 : dsq c_LH_cancel 61 [(.iload_n 1, 1, 0), (.aload_n 0, 1, 0)] 63 = true := by decide +kernel
theorem s_LH_cancel_69 : dsq c_LH_cancel 69 [(.isub, 1, 0)] 70 = true := by decide +kernel
theorem d_LH_cancel_1 : decode c_LH_cancel 1 = .ok (.getfield 35, 3) := by decide +kernel
theorem d_LH_cancel_4 : decode c_LH_cancel 4 = .ok (.ifCond .ne 5, 3) := by decide +kernel
theorem d_LH_cancel_8 : decode c_LH_cancel 8 = .ok (.ireturn, 1) := by decide +kernel
theorem d_LH_cancel_10 : decode c_LH_cancel 10 = .ok (.getfield 16, 3) := by decide +kernel
theorem d_LH_cancel_13 : decode c_LH_cancel 13 = .ok (.invokevirtual 98, 3) := by decide +kernel
theorem d_LH_cancel_22 : decode c_LH_cancel 22 = .ok (.ifCond .lt 39, 3) := by decide +kernel
theorem d_LH_cancel_26 : decode c_LH_cancel 26 = .ok (.getfield 16, 3) := by decide +kernel
theorem d_LH_cancel_30 : decode c_LH_cancel 30 = .ok (.invokevirtual 106, 3) := by decide +kernel
theorem d_LH_cancel_33 : decode c_LH_cancel 33 = .ok (.checkcast 117, 3) := by decide +kernel
theorem d_LH_cancel_36 : decode c_LH_cancel 36 = .ok (.invokevirtual 138, 3) := by decide +kernel
theorem d_LH_cancel_40 : decode c_LH_cancel 40 = .ok (.getfield 35, 3) := by decide +kernel
theorem d_LH_cancel_43 : decode c_LH_cancel 43 = .ok (.if_icmp .ne 12, 3) := by decide +kernel
theorem d_LH_cancel_47 : decode c_LH_cancel 47 = .ok (.getfield 16, 3) := by decide +kernel
theorem d_LH_cancel_51 : decode c_LH_cancel 51 = .ok (.invokevirtual 94, 3) := by decide +kernel
theorem d_LH_cancel_63 : decode c_LH_cancel 63 = .ok (.getfield 16, 3) := by decide +kernel
theorem d_LH_cancel_66 : decode c_LH_cancel 66 = .ok (.invokevirtual 98, 3) := by decide +kernel
theorem d_LH_cancel_70 : decode c_LH_cancel 70 = .ok (.ireturn, 1) := by decide +kernel
theorem s_LH_ask_0 : dsq c_LH_ask 0 [(.aload_n 0, 1, 0)] 1 = true := by decide +kernel
theorem s_LH_ask_7 : dsq c_LH_ask 7 [(.iconst (-1), 1, (-1))] 8 = true := by decide +kernel
theorem s_LH_ask_9 : dsq c_LH_ask 9 [(.aload_n 0, 1, 0), (.aload_n 0, 1, 0)] 11 = true := by decide +kernel
theorem s_LH_ask_17 : dsq c_LH_ask 17 [(.istore_n 1, 1, 0), (.iload_n 1, 1, 0), (.bipush (-2), 2, (-2))] 21 = true := by decide +kernel
theorem s_LH_ask_27 : dsq c_LH_ask 27 [(.dup, 1, 0), (.aload_n 0, 1, 0)] 29 = true := by decide +kernel
theorem s_LH_ask_32 : dsq c_LH_ask 32 [(.sipush 1000, 3, 1000), (.aload_n 0, 1, 0), (.aload_n 0, 1, 0)] 37 = true := by decide +kernel
theorem s_LH_ask_43 : dsq c_LH_ask 43 [(.imul, 1, 0), (.aload_n 0, 1, 0)] 45 = true := by decide +kernel
theorem s_LH_ask_48 : dsq c_LH_ask 48 [(.iadd, 1, 0)] 49 = true := by decide +kernel
theorem s_LH_ask_52 : dsq c_LH_ask 52 [(.goto 14, 3, 0), (.astore_n 2, 1, 0), (.aload_n 0, 1, 0)] 68 = true := by decide +kernel
theorem s_LH_ask_55 : dsq c_LH_ask 55 [(.aload_n 0, 1, 0)] 56 = true := by decide +kernel
theorem s_LH_ask_59 : dsq c_LH_ask 59 [(.iload_n 1, 1, 0)] 60 = true := by decide +kernel
theorem s_LH_ask_66 : dsq c_LH_ask 66 [(.astore_n 2, 1, 0), (.aload_n 0, 1, 0)] 68 = true := by decide +kernel
theorem s_LH_ask_74 : dsq c_LH_ask 74 [(.iconst 4, 1, 4)] 75 = true := by decide +kernel
theorem s_LH_ask_78 : dsq c_LH_ask 78 [(.aload_n 0, 1, 0)] 79 = true := by decide +kernel
theorem s_LH_ask_82 : dsq c_LH_ask 82 [(.iconst 0, 1, 0)] 83 = true := by decide +kernel
theorem s_LH_ask_86 : dsq c_LH_ask 86 [(.pop, 1, 0), (.aload_n 0, 1, 0)] 88 = true := by decide +kernel
theorem s_LH_ask_87 : dsq c_LH_ask 87 [(.aload_n 0, 1, 0)] 88 = true := by decide +kernel
theorem s_LH_ask_91 : dsq c_LH_ask 91 [(.aload_n 2, 1, 0)] 92 = true := by decide +kernel
theorem s_LH_ask_95 : dsq c_LH_ask 95 [(.pop, 1, 0), (.aload_n 2, 1, 0)] 97 = true := by decide +kernel
theorem d_LH_ask_1 : decode c_LH_ask 1 = .ok (.getfield 35, 3) := by decide +kernel
theorem d_LH_ask_4 : decode c_LH_ask 4 = .ok (.ifCond .ne 5, 3) := by decide +kernel
theorem d_LH_ask_8 : decode c_LH_ask 8 = .ok (.ireturn, 1) := by decide +kernel
theorem d_LH_ask_11 : decode c_LH_ask 11 = .ok (.getfield 35, 3) := by decide +kernel
theorem d_LH_ask_14 : decode c_LH_ask 14 = .ok (.invokevirtual 143, 3) := by decide +kernel
theorem d_LH_ask_21 : decode c_LH_ask 21 = .ok (.if_icmp .ne 34, 3) := by decide +kernel
theorem d_LH_ask_24 : decode c_LH_ask 24 = .ok (.new 146, 3) := by decide +kernel
theorem d_LH_ask_29 : decode c_LH_ask 29 = .ok (.getfield 35, 3) := by decide +kernel
theorem d_LH_ask_37 : decode c_LH_ask 37 = .ok (.getfield 35, 3) := by decide +kernel
theorem d_LH_ask_40 : decode c_LH_ask 40 = .ok (.invokevirtual 148, 3) := by decide +kernel
theorem d_LH_ask_45 : decode c_LH_ask 45 = .ok (.getfield 39, 3) := by decide +kernel
theorem d_LH_ask_49 : decode c_LH_ask 49 = .ok (.invokespecial 151, 3) := by decide +kernel
theorem d_LH_ask_56 : decode c_LH_ask 56 = .ok (.getfield 19, 3) := by decide +kernel
theorem d_LH_ask_60 : decode c_LH_ask 60 = .ok (.invokevirtual 94, 3) := by decide +kernel
theorem d_LH_ask_63 : decode c_LH_ask 63 = .ok (.checkcast 146, 3) := by decide +kernel
theorem d_LH_ask_68 : decode c_LH_ask 68 = .ok (.getfield 19, 3) := by decide +kernel
theorem d_LH_ask_71 : decode c_LH_ask 71 = .ok (.invokevirtual 98, 3) := by decide +kernel
theorem d_LH_ask_75 : decode c_LH_ask 75 = .ok (.if_icmp .lt 12, 3) := by decide +kernel
theorem d_LH_ask_79 : decode c_LH_ask 79 = .ok (.getfield 19, 3) := by decide +kernel
theorem d_LH_ask_83 : decode c_LH_ask 83 = .ok (.invokevirtual 94, 3) := by decide +kernel
theorem d_LH_ask_88 : decode c_LH_ask 88 = .ok (.getfield 19, 3) := by decide +kernel
theorem d_LH_ask_92 : decode c_LH_ask 92 = .ok (.invokevirtual 154, 3) := by decide +kernel
theorem d_LH_ask_97 : decode c_LH_ask 97 = .ok (.invokevirtual 157, 3) := by decide +kernel
theorem d_LH_ask_100 : decode c_LH_ask 100 = .ok (.ireturn, 1) := by decide +kernel
theorem s_LH_findInCache_0 : dsq c_LH_findInCache 0 [(.iconst 0, 1, 0), (.istore_n 2, 1, 0)] 2 = true := by decide +kernel
theorem s_LH_findInCache_2 : dsq c_LH_findInCache 2 [(.iload_n 2, 1, 0), (.aload_n 0, 1, 0)] 4 = true := by decide +kernel
theorem s_LH_findInCache_13 : dsq c_LH_findInCache 13 [(.aload_n 0, 1, 0)] 14 = true := by decide +kernel
theorem s_LH_findInCache_17 : dsq c_LH_findInCache 17 [(.iload_n 2, 1, 0)] 18 = true := by decide +kernel
theorem s_LH_findInCache_27 : dsq c_LH_findInCache 27 [(.iload_n 1, 1, 0)] 28 = true := by decide +kernel
theorem s_LH_findInCache_31 : dsq c_LH_findInCache 31 [(.iload_n 2, 1, 0)] 32 = true := by decide +kernel
theorem s_LH_findInCache_33 : dsq c_LH_findInCache 33 [(.iinc 2 1, 3, 1), (.goto (-34), 3, 0)] 2 = true := by decide +kernel
theorem s_LH_findInCache_39 : dsq c_LH_findInCache 39 [(.bipush (-2), 2, (-2))] 41 = true := by decide +kernel
theorem d_LH_findInCache_4 : decode c_LH_findInCache 4 = .ok (.getfield 19, 3) := by decide +kernel
theorem d_LH_findInCache_7 : decode c_LH_findInCache 7 = .ok (.invokevirtual 98, 3) := by decide +kernel
theorem d_LH_findInCache_10 : decode c_LH_findInCache 10 = .ok (.if_icmp .ge 29, 3) := by decide +kernel
theorem d_LH_findInCache_14 : decode c_LH_findInCache 14 = .ok (.getfield 19, 3) := by decide +kernel
theorem d_LH_findInCache_18 : decode c_LH_findInCache 18 = .ok (.invokevirtual 106, 3) := by decide +kernel
theorem d_LH_findInCache_21 : decode c_LH_findInCache 21 = .ok (.checkcast 146, 3) := by decide +kernel
theorem d_LH_findInCache_24 : decode c_LH_findInCache 24 = .ok (.invokevirtual 238, 3) := by decide +kernel
theorem d_LH_findInCache_28 : decode c_LH_findInCache 28 = .ok (.if_icmp .ne 5, 3) := by decide +kernel
theorem d_LH_findInCache_32 : decode c_LH_findInCache 32 = .ok (.ireturn, 1) := by decide +kernel
theorem d_LH_findInCache_41 : decode c_LH_findInCache 41 = .ok (.ireturn, 1) := by decide +kernel
theorem s_Cached_name_0 : dsq c_Cached_name 0 [(.aload_n 0, 1, 0)] 1 = true := by decide +kernel
theorem d_Cached_name_1 : decode c_Cached_name 1 = .ok (.getfield 7, 3) := by decide +kernel
theorem d_Cached_name_4 : decode c_Cached_name 4 = .ok (.ireturn, 1) := by decide +kernel
theorem s_LH_changesOf_0 : dsq c_LH_changesOf 0 [(.aload_n 0, 1, 0), (.iload_n 1, 1, 0)] 2 = true := by decide +kernel
theorem s_LH_changesOf_5 : dsq c_LH_changesOf 5 [(.astore_n 2, 1, 0), (.aload_n 2, 1, 0)] 7 = true := by decide +kernel
theorem s_LH_changesOf_10 : dsq c_LH_changesOf 10 [(.iconst 0, 1, 0), (.goto 7, 3, 0)] 18 = true := by decide +kernel
theorem s_LH_changesOf_14 : dsq c_LH_changesOf 14 [(.aload_n 2, 1, 0)] 15 = true := by decide +kernel
theorem d_LH_changesOf_2 : decode c_LH_changesOf 2 = .ok (.invokevirtual 85, 3) := by decide +kernel
theorem d_LH_changesOf_7 : decode c_LH_changesOf 7 = .ok (.ifnonnull 7, 3) := by decide +kernel
theorem d_LH_changesOf_15 : decode c_LH_changesOf 15 = .ok (.getfield 223, 3) := by decide +kernel
theorem d_LH_changesOf_18 : decode c_LH_changesOf 18 = .ok (.ireturn, 1) := by decide +kernel
theorem s_Cached_init_0 : dsq c_Cached_init 0 [(.aload_n 0, 1, 0)] 1 = true := by decide +kernel
theorem s_Cached_init_4 : dsq c_Cached_init 4 [(.aload_n 0, 1, 0), (.iload_n 1, 1, 0)] 6 = true := by decide +kernel
theorem s_Cached_init_9 : dsq c_Cached_init 9 [(.aload_n 0, 1, 0), (.iload_n 2, 1, 0)] 11 = true := by decide +kernel
theorem d_Cached_init_1 : decode c_Cached_init 1 = .ok (.invokespecial 1, 3) := by decide +kernel
theorem d_Cached_init_6 : decode c_Cached_init 6 = .ok (.putfield 7, 3) := by decide +kernel
theorem d_Cached_init_11 : decode c_Cached_init 11 = .ok (.putfield 13, 3) := by decide +kernel
theorem d_Cached_init_14 : decode c_Cached_init 14 = .ok (.return_, 1) := by decide +kernel
theorem s_Cached_number_0 : dsq c_Cached_number 0 [(.aload_n 0, 1, 0)] 1 = true := by decide +kernel
theorem d_Cached_number_1 : decode c_Cached_number 1 = .ok (.getfield 13, 3) := by decide +kernel
theorem d_Cached_number_4 : decode c_Cached_number 4 = .ok (.ireturn, 1) := by decide +kernel
theorem s_LH_known_0 : dsq c_LH_known 0 [(.aload_n 0, 1, 0)] 1 = true := by decide +kernel
theorem s_LH_known_7 : dsq c_LH_known 7 [(.aload_n 0, 1, 0), (.aload_n 0, 1, 0)] 9 = true := by decide +kernel
theorem s_LH_known_15 : dsq c_LH_known 15 [(.bipush (-2), 2, (-2))] 17 = true := by decide +kernel
theorem s_LH_known_20 : dsq c_LH_known 20 [(.iconst 1, 1, 1), (.goto 4, 3, 0)] 25 = true := by decide +kernel
theorem s_LH_known_24 : dsq c_LH_known 24 [(.iconst 0, 1, 0)] 25 = true := by decide +kernel
theorem d_LH_known_1 : decode c_LH_known 1 = .ok (.getfield 35, 3) := by decide +kernel
theorem d_LH_known_4 : decode c_LH_known 4 = .ok (.ifCond .eq 20, 3) := by decide +kernel
theorem d_LH_known_9 : decode c_LH_known 9 = .ok (.getfield 35, 3) := by decide +kernel
theorem d_LH_known_12 : decode c_LH_known 12 = .ok (.invokevirtual 143, 3) := by decide +kernel
theorem d_LH_known_17 : decode c_LH_known 17 = .ok (.if_icmp .eq 7, 3) := by decide +kernel
theorem d_LH_known_25 : decode c_LH_known 25 = .ok (.ireturn, 1) := by decide +kernel
theorem s_LH_watch_0 : dsq c_LH_watch 0 [(.aload_n 0, 1, 0), (.iload_n 1, 1, 0)] 2 = true := by decide +kernel
theorem s_LH_watch_8 : dsq c_LH_watch 8 [(.iconst (-1), 1, (-1))] 9 = true := by decide +kernel
theorem s_LH_watch_10 : dsq c_LH_watch 10 [(.aload_n 0, 1, 0), (.aload_n 0, 1, 0)] 12 = true := by decide +kernel
theorem s_LH_watch_18 : dsq c_LH_watch 18 [(.astore_n 2, 1, 0), (.aload_n 2, 1, 0)] 20 = true := by decide +kernel
theorem s_LH_watch_23 : dsq c_LH_watch 23 [(.iconst (-1), 1, (-1))] 24 = true := by decide +kernel
theorem s_LH_watch_25 : dsq c_LH_watch 25 [(.aload_n 2, 1, 0), (.dup, 1, 0)] 27 = true := by decide +kernel
theorem s_LH_watch_30 : dsq c_LH_watch 30 [(.iconst 1, 1, 1), (.iload_n 1, 1, 0), (.ishl, 1, 0), (.ixor, 1, 0)] 34 = true := by decide +kernel
theorem s_LH_watch_37 : dsq c_LH_watch 37 [(.aload_n 2, 1, 0)] 38 = true := by decide +kernel
theorem d_LH_watch_2 : decode c_LH_watch 2 = .ok (.invokevirtual 47, 3) := by decide +kernel
theorem d_LH_watch_5 : decode c_LH_watch 5 = .ok (.ifCond .ne 5, 3) := by decide +kernel
theorem d_LH_watch_9 : decode c_LH_watch 9 = .ok (.ireturn, 1) := by decide +kernel
theorem d_LH_watch_12 : decode c_LH_watch 12 = .ok (.getfield 35, 3) := by decide +kernel
theorem d_LH_watch_15 : decode c_LH_watch 15 = .ok (.invokevirtual 54, 3) := by decide +kernel
theorem d_LH_watch_20 : decode c_LH_watch 20 = .ok (.ifnonnull 5, 3) := by decide +kernel
theorem d_LH_watch_24 : decode c_LH_watch 24 = .ok (.ireturn, 1) := by decide +kernel
theorem d_LH_watch_27 : decode c_LH_watch 27 = .ok (.getfield 160, 3) := by decide +kernel
theorem d_LH_watch_34 : decode c_LH_watch 34 = .ok (.putfield 160, 3) := by decide +kernel
theorem d_LH_watch_38 : decode c_LH_watch 38 = .ok (.getfield 160, 3) := by decide +kernel
theorem d_LH_watch_41 : decode c_LH_watch 41 = .ok (.invokestatic 163, 3) := by decide +kernel
theorem d_LH_watch_44 : decode c_LH_watch 44 = .ok (.ireturn, 1) := by decide +kernel
theorem s_LH_note_0 : dsq c_LH_note 0 [(.iload_n 1, 1, 0)] 1 = true := by decide +kernel
theorem s_LH_note_7 : dsq c_LH_note 7 [(.iconst (-1), 1, (-1))] 8 = true := by decide +kernel
theorem s_LH_note_9 : dsq c_LH_note 9 [(.aload_n 0, 1, 0)] 10 = true := by decide +kernel
theorem s_LH_note_13 : dsq c_LH_note 13 [(.iload_n 1, 1, 0)] 14 = true := by decide +kernel
theorem s_LH_note_18 : dsq c_LH_note 18 [(.astore_n 2, 1, 0), (.aload_n 2, 1, 0)] 20 = true := by decide +kernel
theorem s_LH_note_23 : dsq c_LH_note 23 [(.bipush (-2), 2, (-2))] 25 = true := by decide +kernel
theorem s_LH_note_26 : dsq c_LH_note 26 [(.aload_n 0, 1, 0), (.aload_n 2, 1, 0)] 28 = true := by decide +kernel
theorem s_LH_note_34 : dsq c_LH_note 34 [(.aload_n 2, 1, 0)] 35 = true := by decide +kernel
theorem d_LH_note_1 : decode c_LH_note 1 = .ok (.invokestatic 168, 3) := by decide +kernel
theorem d_LH_note_4 : decode c_LH_note 4 = .ok (.ifCond .ne 5, 3) := by decide +kernel
theorem d_LH_note_8 : decode c_LH_note 8 = .ok (.ireturn, 1) := by decide +kernel
theorem d_LH_note_10 : decode c_LH_note 10 = .ok (.getfield 24, 3) := by decide +kernel
theorem d_LH_note_14 : decode c_LH_note 14 = .ok (.aaload, 1) := by decide +kernel
theorem d_LH_note_15 : decode c_LH_note 15 = .ok (.invokevirtual 171, 3) := by decide +kernel
theorem d_LH_note_20 : decode c_LH_note 20 = .ok (.ifnonnull 6, 3) := by decide +kernel
theorem d_LH_note_25 : decode c_LH_note 25 = .ok (.ireturn, 1) := by decide +kernel
theorem d_LH_note_28 : decode c_LH_note 28 = .ok (.invokevirtual 175, 3) := by decide +kernel
theorem d_LH_note_31 : decode c_LH_note 31 = .ok (.putfield 35, 3) := by decide +kernel
theorem d_LH_note_35 : decode c_LH_note 35 = .ok (.invokevirtual 178, 3) := by decide +kernel
theorem d_LH_note_38 : decode c_LH_note 38 = .ok (.ireturn, 1) := by decide +kernel
theorem s_NoteBox_takeOldest_0 : dsq c_NoteBox_takeOldest 0 [(.aload_n 0, 1, 0)] 1 = true := by decide +kernel
theorem s_NoteBox_takeOldest_10 : dsq c_NoteBox_takeOldest 10 [(.aconst_null, 1, 0), (.goto 14, 3, 0)] 25 = true := by decide +kernel
theorem s_NoteBox_takeOldest_14 : dsq c_NoteBox_takeOldest 14 [(.aload_n 0, 1, 0)] 15 = true := by decide +kernel
theorem s_NoteBox_takeOldest_18 : dsq c_NoteBox_takeOldest 18 [(.iconst 0, 1, 0)] 19 = true := by decide +kernel
theorem d_NoteBox_takeOldest_1 : decode c_NoteBox_takeOldest 1 = .ok (.getfield 12, 3) := by decide +kernel
theorem d_NoteBox_takeOldest_4 : decode c_NoteBox_takeOldest 4 = .ok (.invokevirtual 30, 3) := by decide +kernel
theorem d_NoteBox_takeOldest_7 : decode c_NoteBox_takeOldest 7 = .ok (.ifCond .eq 7, 3) := by decide +kernel
theorem d_NoteBox_takeOldest_15 : decode c_NoteBox_takeOldest 15 = .ok (.getfield 12, 3) := by decide +kernel
theorem d_NoteBox_takeOldest_19 : decode c_NoteBox_takeOldest 19 = .ok (.invokevirtual 22, 3) := by decide +kernel
theorem d_NoteBox_takeOldest_22 : decode c_NoteBox_takeOldest 22 = .ok (.checkcast 34, 3) := by decide +kernel
theorem d_NoteBox_takeOldest_25 : decode c_NoteBox_takeOldest 25 = .ok (.areturn, 1) := by decide +kernel
theorem s_Note_name_0 : dsq c_Note_name 0 [(.aload_n 0, 1, 0)] 1 = true := by decide +kernel
theorem d_Note_name_1 : decode c_Note_name 1 = .ok (.getfield 7, 3) := by decide +kernel
theorem d_Note_name_4 : decode c_Note_name 4 = .ok (.ireturn, 1) := by decide +kernel
theorem s_Note_kind_0 : dsq c_Note_kind 0 [(.aload_n 0, 1, 0)] 1 = true := by decide +kernel
theorem d_Note_kind_1 : decode c_Note_kind 1 = .ok (.getfield 13, 3) := by decide +kernel
theorem d_Note_kind_4 : decode c_Note_kind 4 = .ok (.ireturn, 1) := by decide +kernel
theorem s_LH_waits_0 : dsq c_LH_waits 0 [(.aload_n 0, 1, 0)] 1 = true := by decide +kernel
theorem s_LH_waits_4 : dsq c_LH_waits 4 [(.iload_n 1, 1, 0), (.iload_n 2, 1, 0)] 6 = true := by decide +kernel
theorem d_LH_waits_1 : decode c_LH_waits 1 = .ok (.getfield 31, 3) := by decide +kernel
theorem d_LH_waits_6 : decode c_LH_waits 6 = .ok (.invokevirtual 181, 3) := by decide +kernel
theorem d_LH_waits_9 : decode c_LH_waits 9 = .ok (.ireturn, 1) := by decide +kernel
theorem s_WaitTimes_countFrom_0 : dsq c_WaitTimes_countFrom 0 [(.iconst 0, 1, 0), (.istore_n 3, 1, 0), (.iconst 0, 1, 0), (.istore 4, 2, 0)] 5 = true := by decide +kernel
theorem s_WaitTimes_countFrom_5 : dsq c_WaitTimes_countFrom 5 [(.iload 4, 2, 0), (.aload_n 0, 1, 0)] 8 = true := by decide +kernel
theorem s_WaitTimes_countFrom_14 : dsq c_WaitTimes_countFrom 14 [(.aload_n 0, 1, 0)] 15 = true := by decide +kernel
theorem s_WaitTimes_countFrom_18 : dsq c_WaitTimes_countFrom 18 [(.iload 4, 2, 0)] 20 = true := by decide +kernel
theorem s_WaitTimes_countFrom_21 : dsq c_WaitTimes_countFrom 21 [(.iload_n 1, 1, 0)] 22 = true := by decide +kernel
theorem s_WaitTimes_countFrom_25 : dsq c_WaitTimes_countFrom 25 [(.aload_n 0, 1, 0)] 26 = true := by decide +kernel
theorem s_WaitTimes_countFrom_29 : dsq c_WaitTimes_countFrom 29 [(.iload 4, 2, 0)] 31 = true := by decide +kernel
theorem s_WaitTimes_countFrom_32 : dsq c_WaitTimes_countFrom 32 [(.iload_n 2, 1, 0)] 33 = true := by decide +kernel
theorem s_WaitTimes_countFrom_36 : dsq c_WaitTimes_countFrom 36 [(.iinc 3 1, 3, 1), (.iinc 4 1, 3, 1), (.goto (-37), 3, 0)] 5 = true := by decide +kernel
theorem s_WaitTimes_countFrom_39 : dsq c_WaitTimes_countFrom 39 [(.iinc 4 1, 3, 1), (.goto (-37), 3, 0)] 5 = true := by decide +kernel
theorem s_WaitTimes_countFrom_45 : dsq c_WaitTimes_countFrom 45 [(.iload_n 3, 1, 0)] 46 = true := by decide +kernel
theorem d_WaitTimes_countFrom_8 : decode c_WaitTimes_countFrom 8 = .ok (.getfield 15, 3) := by decide +kernel
theorem d_WaitTimes_countFrom_11 : decode c_WaitTimes_countFrom 11 = .ok (.if_icmp .ge 34, 3) := by decide +kernel
theorem d_WaitTimes_countFrom_15 : decode c_WaitTimes_countFrom 15 = .ok (.getfield 9, 3) := by decide +kernel
theorem d_WaitTimes_countFrom_20 : decode c_WaitTimes_countFrom 20 = .ok (.iaload, 1) := by decide +kernel
theorem d_WaitTimes_countFrom_22 : decode c_WaitTimes_countFrom 22 = .ok (.if_icmp .lt 17, 3) := by decide +kernel
theorem d_WaitTimes_countFrom_26 : decode c_WaitTimes_countFrom 26 = .ok (.getfield 9, 3) := by decide +kernel
theorem d_WaitTimes_countFrom_31 : decode c_WaitTimes_countFrom 31 = .ok (.iaload, 1) := by decide +kernel
theorem d_WaitTimes_countFrom_33 : decode c_WaitTimes_countFrom 33 = .ok (.if_icmp .ge 6, 3) := by decide +kernel
theorem d_WaitTimes_countFrom_46 : decode c_WaitTimes_countFrom 46 = .ok (.ireturn, 1) := by decide +kernel
theorem s_LH_waited_0 : dsq c_LH_waited 0 [(.aload_n 0, 1, 0)] 1 = true := by decide +kernel
theorem s_LH_waited_4 : dsq c_LH_waited 4 [(.iload_n 1, 1, 0)] 5 = true := by decide +kernel
theorem d_LH_waited_1 : decode c_LH_waited 1 = .ok (.getfield 31, 3) := by decide +kernel
theorem d_LH_waited_5 : decode c_LH_waited 5 = .ok (.invokevirtual 185, 3) := by decide +kernel
theorem d_LH_waited_8 : decode c_LH_waited 8 = .ok (.ireturn, 1) := by decide +kernel
theorem s_WaitTimes_greatestUpTo_0 : dsq c_WaitTimes_greatestUpTo 0 [(.bipush (-2), 2, (-2)), (.istore_n 2, 1, 0), (.iconst 0, 1, 0), (.istore_n 3, 1, 0)] 5 = true := by decide +kernel
theorem s_WaitTimes_greatestUpTo_5 : dsq c_WaitTimes_greatestUpTo 5 [(.iload_n 3, 1, 0), (.aload_n 0, 1, 0)] 7 = true := by decide +kernel
theorem s_WaitTimes_greatestUpTo_13 : dsq c_WaitTimes_greatestUpTo 13 [(.aload_n 0, 1, 0)] 14 = true := by decide +kernel
theorem s_WaitTimes_greatestUpTo_17 : dsq c_WaitTimes_greatestUpTo 17 [(.iload_n 3, 1, 0)] 18 = true := by decide +kernel
theorem s_WaitTimes_greatestUpTo_19 : dsq c_WaitTimes_greatestUpTo 19 [(.iload_n 1, 1, 0)] 20 = true := by decide +kernel
theorem s_WaitTimes_greatestUpTo_23 : dsq c_WaitTimes_greatestUpTo 23 [(.aload_n 0, 1, 0)] 24 = true := by decide +kernel
theorem s_WaitTimes_greatestUpTo_27 : dsq c_WaitTimes_greatestUpTo 27 [(.iload_n 3, 1, 0)] 28 = true := by decide +kernel
theorem s_WaitTimes_greatestUpTo_29 : dsq c_WaitTimes_greatestUpTo 29 [(.iload_n 2, 1, 0)] 30 = true := by decide +kernel
theorem s_WaitTimes_greatestUpTo_33 : dsq c_WaitTimes_greatestUpTo 33 [(.aload_n 0, 1, 0)] 34 = true := by decide +kernel
theorem s_WaitTimes_greatestUpTo_37 : dsq c_WaitTimes_greatestUpTo 37 [(.iload_n 3, 1, 0)] 38 = true := by decide +kernel
theorem s_WaitTimes_greatestUpTo_39 : dsq c_WaitTimes_greatestUpTo 39 [(.istore_n 2, 1, 0), (.iinc 3 1, 3, 1), (.goto (-38), 3, 0)] 5 = true := by decide +kernel
theorem s_WaitTimes_greatestUpTo_40 : dsq c_WaitTimes_greatestUpTo 40 [(.iinc 3 1, 3, 1), (.goto (-38), 3, 0)] 5 = true := by decide +kernel
theorem s_WaitTimes_greatestUpTo_46 : dsq c_WaitTimes_greatestUpTo 46 [(.iload_n 2, 1, 0)] 47 = true := by decide +kernel
theorem d_WaitTimes_greatestUpTo_7 : decode c_WaitTimes_greatestUpTo 7 = .ok (.getfield 15, 3) := by decide +kernel
theorem d_WaitTimes_greatestUpTo_10 : decode c_WaitTimes_greatestUpTo 10 = .ok (.if_icmp .ge 36, 3) := by decide +kernel
theorem d_WaitTimes_greatestUpTo_14 : decode c_WaitTimes_greatestUpTo 14 = .ok (.getfield 9, 3) := by decide +kernel
theorem d_WaitTimes_greatestUpTo_18 : decode c_WaitTimes_greatestUpTo 18 = .ok (.iaload, 1) := by decide +kernel
theorem d_WaitTimes_greatestUpTo_20 : decode c_WaitTimes_greatestUpTo 20 = .ok (.if_icmp .gt 20, 3) := by decide +kernel
theorem d_WaitTimes_greatestUpTo_24 : decode c_WaitTimes_greatestUpTo 24 = .ok (.getfield 9, 3) := by decide +kernel
theorem d_WaitTimes_greatestUpTo_28 : decode c_WaitTimes_greatestUpTo 28 = .ok (.iaload, 1) := by decide +kernel
theorem d_WaitTimes_greatestUpTo_30 : decode c_WaitTimes_greatestUpTo 30 = .ok (.if_icmp .le 10, 3) := by decide +kernel
theorem d_WaitTimes_greatestUpTo_34 : decode c_WaitTimes_greatestUpTo 34 = .ok (.getfield 9, 3) := by decide +kernel
theorem d_WaitTimes_greatestUpTo_38 : decode c_WaitTimes_greatestUpTo 38 = .ok (.iaload, 1) := by decide +kernel
theorem d_WaitTimes_greatestUpTo_47 : decode c_WaitTimes_greatestUpTo 47 = .ok (.ireturn, 1) := by decide +kernel
theorem s_LH_letter_0 : dsq c_LH_letter 0 [(.aload_n 0, 1, 0)] 1 = true := by decide +kernel
theorem s_LH_letter_7 : dsq c_LH_letter 7 [(.istore_n 2, 1, 0), (.iload_n 1, 1, 0)] 9 = true := by decide +kernel
theorem s_LH_letter_12 : dsq c_LH_letter 12 [(.iload_n 1, 1, 0), (.iload_n 2, 1, 0)] 14 = true := by decide +kernel
theorem s_LH_letter_17 : dsq c_LH_letter 17 [(.bipush (-2), 2, (-2))] 19 = true := by decide +kernel
theorem s_LH_letter_20 : dsq c_LH_letter 20 [(.aload_n 0, 1, 0)] 21 = true := by decide +kernel
theorem s_LH_letter_24 : dsq c_LH_letter 24 [(.istore_n 3, 1, 0), (.iload_n 2, 1, 0), (.iconst 1, 1, 1), (.isub, 1, 0), (.istore 4, 2, 0)] 30 = true := by decide +kernel
theorem s_LH_letter_30 : dsq c_LH_letter 30 [(.iload 4, 2, 0), (.iload_n 1, 1, 0)] 33 = true := by decide +kernel
theorem s_LH_letter_36 : dsq c_LH_letter 36 [(.iload_n 3, 1, 0)] 37 = true := by decide +kernel
theorem s_LH_letter_40 : dsq c_LH_letter 40 [(.istore_n 3, 1, 0), (.iinc 4 (-1), 3, (-1)), (.goto (-14), 3, 0)] 30 = true := by decide +kernel
theorem s_LH_letter_47 : dsq c_LH_letter 47 [(.bipush 97, 2, 97), (.iload_n 3, 1, 0), (.iconst 1, 1, 1), (.isub, 1, 0), (.bipush 26, 2, 26)] 54 = true := by decide +kernel
theorem s_LH_letter_55 : dsq c_LH_letter 55 [(.iadd, 1, 0)] 56 = true := by decide +kernel
theorem d_LH_letter_1 : decode c_LH_letter 1 = .ok (.getfield 35, 3) := by decide +kernel
theorem d_LH_letter_4 : decode c_LH_letter 4 = .ok (.invokestatic 43, 3) := by decide +kernel
theorem d_LH_letter_9 : decode c_LH_letter 9 = .ok (.ifCond .lt 8, 3) := by decide +kernel
theorem d_LH_letter_14 : decode c_LH_letter 14 = .ok (.if_icmp .lt 6, 3) := by decide +kernel
theorem d_LH_letter_19 : decode c_LH_letter 19 = .ok (.ireturn, 1) := by decide +kernel
theorem d_LH_letter_21 : decode c_LH_letter 21 = .ok (.getfield 35, 3) := by decide +kernel
theorem d_LH_letter_33 : decode c_LH_letter 33 = .ok (.if_icmp .le 14, 3) := by decide +kernel
theorem d_LH_letter_37 : decode c_LH_letter 37 = .ok (.invokestatic 188, 3) := by decide +kernel
theorem d_LH_letter_54 : decode c_LH_letter 54 = .ok (.irem, 1) := by decide +kernel
theorem d_LH_letter_56 : decode c_LH_letter 56 = .ok (.ireturn, 1) := by decide +kernel
theorem s_LH_count_0 : dsq c_LH_count 0 [(.iload_n 1, 1, 0)] 1 = true := by decide +kernel
theorem s_LH_count_48 : dsq c_LH_count 48 [(.aload_n 0, 1, 0)] 49 = true := by decide +kernel
theorem s_LH_count_53 : dsq c_LH_count 53 [(.aload_n 0, 1, 0)] 54 = true := by decide +kernel
theorem s_LH_count_58 : dsq c_LH_count 58 [(.aload_n 0, 1, 0)] 59 = true := by decide +kernel
theorem s_LH_count_63 : dsq c_LH_count 63 [(.aload_n 0, 1, 0)] 64 = true := by decide +kernel
theorem s_LH_count_71 : dsq c_LH_count 71 [(.aload_n 0, 1, 0)] 72 = true := by decide +kernel
theorem s_LH_count_79 : dsq c_LH_count 79 [(.aload_n 0, 1, 0)] 80 = true := by decide +kernel
theorem s_LH_count_84 : dsq c_LH_count 84 [(.aload_n 0, 1, 0), (.aload_n 0, 1, 0)] 86 = true := by decide +kernel
theorem s_LH_count_93 : dsq c_LH_count 93 [(.aload_n 0, 1, 0)] 94 = true := by decide +kernel
theorem s_LH_count_98 : dsq c_LH_count 98 [(.iconst (-1), 1, (-1))] 99 = true := by decide +kernel
theorem d_LH_count_1 : decode c_LH_count 1 = .ok (.tableswitch 97 0 7 #[47, 52, 57, 62, 70, 78, 83, 92], 47) := by decide +kernel
theorem d_LH_count_49 : decode c_LH_count 49 = .ok (.getfield 39, 3) := by decide +kernel
theorem d_LH_count_52 : decode c_LH_count 52 = .ok (.ireturn, 1) := by decide +kernel
theorem d_LH_count_54 : decode c_LH_count 54 = .ok (.invokevirtual 191, 3) := by decide +kernel
theorem d_LH_count_57 : decode c_LH_count 57 = .ok (.ireturn, 1) := by decide +kernel
theorem d_LH_count_59 : decode c_LH_count 59 = .ok (.invokevirtual 194, 3) := by decide +kernel
theorem d_LH_count_62 : decode c_LH_count 62 = .ok (.ireturn, 1) := by decide +kernel
theorem d_LH_count_64 : decode c_LH_count 64 = .ok (.getfield 16, 3) := by decide +kernel
theorem d_LH_count_67 : decode c_LH_count 67 = .ok (.invokevirtual 98, 3) := by decide +kernel
theorem d_LH_count_70 : decode c_LH_count 70 = .ok (.ireturn, 1) := by decide +kernel
theorem d_LH_count_72 : decode c_LH_count 72 = .ok (.getfield 19, 3) := by decide +kernel
theorem d_LH_count_75 : decode c_LH_count 75 = .ok (.invokevirtual 98, 3) := by decide +kernel
theorem d_LH_count_78 : decode c_LH_count 78 = .ok (.ireturn, 1) := by decide +kernel
theorem d_LH_count_80 : decode c_LH_count 80 = .ok (.invokevirtual 197, 3) := by decide +kernel
theorem d_LH_count_83 : decode c_LH_count 83 = .ok (.ireturn, 1) := by decide +kernel
theorem d_LH_count_86 : decode c_LH_count 86 = .ok (.getfield 35, 3) := by decide +kernel
theorem d_LH_count_89 : decode c_LH_count 89 = .ok (.invokevirtual 148, 3) := by decide +kernel
theorem d_LH_count_92 : decode c_LH_count 92 = .ok (.ireturn, 1) := by decide +kernel
theorem d_LH_count_94 : decode c_LH_count 94 = .ok (.invokevirtual 200, 3) := by decide +kernel
theorem d_LH_count_97 : decode c_LH_count 97 = .ok (.ireturn, 1) := by decide +kernel
theorem d_LH_count_99 : decode c_LH_count 99 = .ok (.ireturn, 1) := by decide +kernel
theorem s_LH_countLeases_0 : dsq c_LH_countLeases 0 [(.iconst 0, 1, 0), (.istore_n 1, 1, 0), (.iconst 0, 1, 0), (.istore_n 2, 1, 0)] 4 = true := by decide +kernel
theorem s_LH_countLeases_4 : dsq c_LH_countLeases 4 [(.iload_n 2, 1, 0), (.aload_n 0, 1, 0)] 6 = true := by decide +kernel
theorem s_LH_countLeases_15 : dsq c_LH_countLeases 15 [(.aload_n 0, 1, 0)] 16 = true := by decide +kernel
theorem s_LH_countLeases_19 : dsq c_LH_countLeases 19 [(.iload_n 2, 1, 0)] 20 = true := by decide +kernel
theorem s_LH_countLeases_32 : dsq c_LH_countLeases 32 [(.iinc 1 1, 3, 1), (.iinc 2 1, 3, 1), (.goto (-34), 3, 0)] 4 = true := by decide +kernel
theorem s_LH_countLeases_35 : dsq c_LH_countLeases 35 [(.iinc 2 1, 3, 1), (.goto (-34), 3, 0)] 4 = true := by decide +kernel
theorem s_LH_countLeases_41 : dsq c_LH_countLeases 41 [(.iload_n 1, 1, 0)] 42 = true := by decide +kernel
theorem d_LH_countLeases_6 : decode c_LH_countLeases 6 = .ok (.getfield 10, 3) := by decide +kernel
theorem d_LH_countLeases_9 : decode c_LH_countLeases 9 = .ok (.invokevirtual 98, 3) := by decide +kernel
theorem d_LH_countLeases_12 : decode c_LH_countLeases 12 = .ok (.if_icmp .ge 29, 3) := by decide +kernel
theorem d_LH_countLeases_16 : decode c_LH_countLeases 16 = .ok (.getfield 10, 3) := by decide +kernel
theorem d_LH_countLeases_20 : decode c_LH_countLeases 20 = .ok (.invokevirtual 106, 3) := by decide +kernel
theorem d_LH_countLeases_23 : decode c_LH_countLeases 23 = .ok (.checkcast 59, 3) := by decide +kernel
theorem d_LH_countLeases_26 : decode c_LH_countLeases 26 = .ok (.invokevirtual 58, 3) := by decide +kernel
theorem d_LH_countLeases_29 : decode c_LH_countLeases 29 = .ok (.ifCond .eq 6, 3) := by decide +kernel
theorem d_LH_countLeases_42 : decode c_LH_countLeases 42 = .ok (.ireturn, 1) := by decide +kernel
theorem s_LH_countWaiting_0 : dsq c_LH_countWaiting 0 [(.iconst 0, 1, 0), (.istore_n 1, 1, 0), (.iconst 0, 1, 0), (.istore_n 2, 1, 0)] 4 = true := by decide +kernel
theorem s_LH_countWaiting_4 : dsq c_LH_countWaiting 4 [(.iload_n 2, 1, 0), (.aload_n 0, 1, 0)] 6 = true := by decide +kernel
theorem s_LH_countWaiting_15 : dsq c_LH_countWaiting 15 [(.iload_n 1, 1, 0), (.aload_n 0, 1, 0)] 17 = true := by decide +kernel
theorem s_LH_countWaiting_20 : dsq c_LH_countWaiting 20 [(.iload_n 2, 1, 0)] 21 = true := by decide +kernel
theorem s_LH_countWaiting_33 : dsq c_LH_countWaiting 33 [(.iadd, 1, 0), (.istore_n 1, 1, 0), (.iinc 2 1, 3, 1), (.goto (-34), 3, 0)] 4 = true := by decide +kernel
theorem s_LH_countWaiting_41 : dsq c_LH_countWaiting 41 [(.iload_n 1, 1, 0)] 42 = true := by decide +kernel
theorem d_LH_countWaiting_6 : decode c_LH_countWaiting 6 = .ok (.getfield 10, 3) := by decide +kernel
theorem d_LH_countWaiting_9 : decode c_LH_countWaiting 9 = .ok (.invokevirtual 98, 3) := by decide +kernel
theorem d_LH_countWaiting_12 : decode c_LH_countWaiting 12 = .ok (.if_icmp .ge 29, 3) := by decide +kernel
theorem d_LH_countWaiting_17 : decode c_LH_countWaiting 17 = .ok (.getfield 10, 3) := by decide +kernel
theorem d_LH_countWaiting_21 : decode c_LH_countWaiting 21 = .ok (.invokevirtual 106, 3) := by decide +kernel
theorem d_LH_countWaiting_24 : decode c_LH_countWaiting 24 = .ok (.checkcast 59, 3) := by decide +kernel
theorem d_LH_countWaiting_27 : decode c_LH_countWaiting 27 = .ok (.getfield 91, 3) := by decide +kernel
theorem d_LH_countWaiting_30 : decode c_LH_countWaiting 30 = .ok (.invokevirtual 98, 3) := by decide +kernel
theorem d_LH_countWaiting_42 : decode c_LH_countWaiting 42 = .ok (.ireturn, 1) := by decide +kernel
theorem s_LH_countWatchedNames_0 : dsq c_LH_countWatchedNames 0 [(.iconst 0, 1, 0), (.istore_n 1, 1, 0), (.iconst 0, 1, 0), (.istore_n 2, 1, 0)] 4 = true := by decide +kernel
theorem s_LH_countWatchedNames_4 : dsq c_LH_countWatchedNames 4 [(.iload_n 2, 1, 0), (.aload_n 0, 1, 0)] 6 = true := by decide +kernel
theorem s_LH_countWatchedNames_15 : dsq c_LH_countWatchedNames 15 [(.aload_n 0, 1, 0)] 16 = true := by decide +kernel
theorem s_LH_countWatchedNames_19 : dsq c_LH_countWatchedNames 19 [(.iload_n 2, 1, 0)] 20 = true := by decide +kernel
theorem s_LH_countWatchedNames_32 : dsq c_LH_countWatchedNames 32 [(.iinc 1 1, 3, 1), (.iinc 2 1, 3, 1), (.goto (-34), 3, 0)] 4 = true := by decide +kernel
theorem s_LH_countWatchedNames_35 : dsq c_LH_countWatchedNames 35 [(.iinc 2 1, 3, 1), (.goto (-34), 3, 0)] 4 = true := by decide +kernel
theorem s_LH_countWatchedNames_41 : dsq c_LH_countWatchedNames 41 [(.iload_n 1, 1, 0)] 42 = true := by decide +kernel
theorem d_LH_countWatchedNames_6 : decode c_LH_countWatchedNames 6 = .ok (.getfield 10, 3) := by decide +kernel
theorem d_LH_countWatchedNames_9 : decode c_LH_countWatchedNames 9 = .ok (.invokevirtual 98, 3) := by decide +kernel
theorem d_LH_countWatchedNames_12 : decode c_LH_countWatchedNames 12 = .ok (.if_icmp .ge 29, 3) := by decide +kernel
theorem d_LH_countWatchedNames_16 : decode c_LH_countWatchedNames 16 = .ok (.getfield 10, 3) := by decide +kernel
theorem d_LH_countWatchedNames_20 : decode c_LH_countWatchedNames 20 = .ok (.invokevirtual 106, 3) := by decide +kernel
theorem d_LH_countWatchedNames_23 : decode c_LH_countWatchedNames 23 = .ok (.checkcast 59, 3) := by decide +kernel
theorem d_LH_countWatchedNames_26 : decode c_LH_countWatchedNames 26 = .ok (.getfield 160, 3) := by decide +kernel
theorem d_LH_countWatchedNames_29 : decode c_LH_countWatchedNames 29 = .ok (.ifCond .eq 6, 3) := by decide +kernel
theorem d_LH_countWatchedNames_42 : decode c_LH_countWatchedNames 42 = .ok (.ireturn, 1) := by decide +kernel
theorem s_LH_countNotes_0 : dsq c_LH_countNotes 0 [(.iconst 0, 1, 0), (.istore_n 1, 1, 0), (.iconst 0, 1, 0), (.istore_n 2, 1, 0)] 4 = true := by decide +kernel
theorem s_LH_countNotes_4 : dsq c_LH_countNotes 4 [(.iload_n 2, 1, 0), (.bipush 16, 2, 16)] 7 = true := by decide +kernel
theorem s_LH_countNotes_10 : dsq c_LH_countNotes 10 [(.iload_n 1, 1, 0), (.aload_n 0, 1, 0)] 12 = true := by decide +kernel
theorem s_LH_countNotes_15 : dsq c_LH_countNotes 15 [(.iload_n 2, 1, 0)] 16 = true := by decide +kernel
theorem s_LH_countNotes_20 : dsq c_LH_countNotes 20 [(.iadd, 1, 0), (.istore_n 1, 1, 0), (.iinc 2 1, 3, 1), (.goto (-21), 3, 0)] 4 = true := by decide +kernel
theorem s_LH_countNotes_28 : dsq c_LH_countNotes 28 [(.iload_n 1, 1, 0)] 29 = true := by decide +kernel
theorem d_LH_countNotes_7 : decode c_LH_countNotes 7 = .ok (.if_icmp .ge 21, 3) := by decide +kernel
theorem d_LH_countNotes_12 : decode c_LH_countNotes 12 = .ok (.getfield 24, 3) := by decide +kernel
theorem d_LH_countNotes_16 : decode c_LH_countNotes 16 = .ok (.aaload, 1) := by decide +kernel
theorem d_LH_countNotes_17 : decode c_LH_countNotes 17 = .ok (.invokevirtual 239, 3) := by decide +kernel
theorem d_LH_countNotes_29 : decode c_LH_countNotes 29 = .ok (.ireturn, 1) := by decide +kernel
theorem s_NoteBox_size_0 : dsq c_NoteBox_size 0 [(.aload_n 0, 1, 0)] 1 = true := by decide +kernel
theorem d_NoteBox_size_1 : decode c_NoteBox_size 1 = .ok (.getfield 12, 3) := by decide +kernel
theorem d_NoteBox_size_4 : decode c_NoteBox_size 4 = .ok (.invokevirtual 18, 3) := by decide +kernel
theorem d_NoteBox_size_7 : decode c_NoteBox_size 7 = .ok (.ireturn, 1) := by decide +kernel
end
section
theorem s_Mo_init_0 : dsq c_Mo_init 0 [(.aload_n 0, 1, 0)] 1 = true := by decide +kernel
theorem s_Mo_init_4 : dsq c_Mo_init 4 [(.aload_n 0, 1, 0), (.bipush 6, 2, 6)] 7 = true := by decide +kernel
theorem s_Mo_init_12 : dsq c_Mo_init 12 [(.aload_n 0, 1, 0), (.sipush 4200, 3, 4200)] 16 = true := by decide +kernel
theorem s_Mo_init_21 : dsq c_Mo_init 21 [(.aload_n 0, 1, 0), (.sipush 4200, 3, 4200)] 25 = true := by decide +kernel
theorem s_Mo_init_30 : dsq c_Mo_init 30 [(.aload_n 0, 1, 0), (.sipush 4200, 3, 4200)] 34 = true := by decide +kernel
theorem s_Mo_init_39 : dsq c_Mo_init 39 [(.aload_n 0, 1, 0)] 40 = true := by decide +kernel
theorem s_Mo_init_47 : dsq c_Mo_init 47 [(.aload_n 0, 1, 0), (.sipush 4200, 3, 4200)] 51 = true := by decide +kernel
theorem s_Mo_init_56 : dsq c_Mo_init 56 [(.aload_n 0, 1, 0), (.sipush 4200, 3, 4200)] 60 = true := by decide +kernel
theorem s_Mo_init_65 : dsq c_Mo_init 65 [(.aload_n 0, 1, 0), (.sipush 4200, 3, 4200)] 69 = true := by decide +kernel
theorem s_Mo_init_74 : dsq c_Mo_init 74 [(.aload_n 0, 1, 0), (.sipush 21000, 3, 21000)] 78 = true := by decide +kernel
theorem s_Mo_init_83 : dsq c_Mo_init 83 [(.aload_n 0, 1, 0), (.sipush 21000, 3, 21000)] 87 = true := by decide +kernel
theorem s_Mo_init_92 : dsq c_Mo_init 92 [(.aload_n 0, 1, 0), (.sipush 21000, 3, 21000)] 96 = true := by decide +kernel
theorem s_Mo_init_101 : dsq c_Mo_init 101 [(.aload_n 0, 1, 0), (.sipush 4200, 3, 4200)] 105 = true := by decide +kernel
theorem s_Mo_init_110 : dsq c_Mo_init 110 [(.aload_n 0, 1, 0), (.bipush 30, 2, 30)] 113 = true := by decide +kernel
theorem s_Mo_init_118 : dsq c_Mo_init 118 [(.aload_n 0, 1, 0), (.bipush 30, 2, 30)] 121 = true := by decide +kernel
theorem s_Mo_init_126 : dsq c_Mo_init 126 [(.aload_n 0, 1, 0), (.bipush 30, 2, 30)] 129 = true := by decide +kernel
theorem s_Mo_init_134 : dsq c_Mo_init 134 [(.aload_n 0, 1, 0), (.iconst 4, 1, 4)] 136 = true := by decide +kernel
theorem s_Mo_init_141 : dsq c_Mo_init 141 [(.aload_n 0, 1, 0), (.iconst 4, 1, 4)] 143 = true := by decide +kernel
theorem s_Mo_init_148 : dsq c_Mo_init 148 [(.aload_n 0, 1, 0), (.sipush 128, 3, 128)] 152 = true := by decide +kernel
theorem s_Mo_init_157 : dsq c_Mo_init 157 [(.aload_n 0, 1, 0), (.sipush 128, 3, 128)] 161 = true := by decide +kernel
theorem s_Mo_init_166 : dsq c_Mo_init 166 [(.aload_n 0, 1, 0), (.bipush 16, 2, 16)] 169 = true := by decide +kernel
theorem s_Mo_init_174 : dsq c_Mo_init 174 [(.aload_n 0, 1, 0), (.bipush 6, 2, 6)] 177 = true := by decide +kernel
theorem d_Mo_init_1 : decode c_Mo_init 1 = .ok (.invokespecial 1, 3) := by decide +kernel
theorem d_Mo_init_7 : decode c_Mo_init 7 = .ok (.newarray .int, 2) := by decide +kernel
theorem d_Mo_init_9 : decode c_Mo_init 9 = .ok (.putfield 7, 3) := by decide +kernel
theorem d_Mo_init_16 : decode c_Mo_init 16 = .ok (.newarray .long, 2) := by decide +kernel
theorem d_Mo_init_18 : decode c_Mo_init 18 = .ok (.putfield 13, 3) := by decide +kernel
theorem d_Mo_init_25 : decode c_Mo_init 25 = .ok (.newarray .int, 2) := by decide +kernel
theorem d_Mo_init_27 : decode c_Mo_init 27 = .ok (.putfield 17, 3) := by decide +kernel
theorem d_Mo_init_34 : decode c_Mo_init 34 = .ok (.newarray .int, 2) := by decide +kernel
theorem d_Mo_init_36 : decode c_Mo_init 36 = .ok (.putfield 20, 3) := by decide +kernel
theorem d_Mo_init_40 : decode c_Mo_init 40 = .ok (.ldc 23, 2) := by decide +kernel
theorem d_Mo_init_42 : decode c_Mo_init 42 = .ok (.newarray .int, 2) := by decide +kernel
theorem d_Mo_init_44 : decode c_Mo_init 44 = .ok (.putfield 24, 3) := by decide +kernel
theorem d_Mo_init_51 : decode c_Mo_init 51 = .ok (.newarray .int, 2) := by decide +kernel
theorem d_Mo_init_53 : decode c_Mo_init 53 = .ok (.putfield 27, 3) := by decide +kernel
theorem d_Mo_init_60 : decode c_Mo_init 60 = .ok (.newarray .int, 2) := by decide +kernel
theorem d_Mo_init_62 : decode c_Mo_init 62 = .ok (.putfield 30, 3) := by decide +kernel
theorem d_Mo_init_69 : decode c_Mo_init 69 = .ok (.newarray .int, 2) := by decide +kernel
theorem d_Mo_init_71 : decode c_Mo_init 71 = .ok (.putfield 33, 3) := by decide +kernel
theorem d_Mo_init_78 : decode c_Mo_init 78 = .ok (.newarray .int, 2) := by decide +kernel
theorem d_Mo_init_80 : decode c_Mo_init 80 = .ok (.putfield 36, 3) := by decide +kernel
theorem d_Mo_init_87 : decode c_Mo_init 87 = .ok (.newarray .int, 2) := by decide +kernel
theorem d_Mo_init_89 : decode c_Mo_init 89 = .ok (.putfield 39, 3) := by decide +kernel
theorem d_Mo_init_96 : decode c_Mo_init 96 = .ok (.newarray .int, 2) := by decide +kernel
theorem d_Mo_init_98 : decode c_Mo_init 98 = .ok (.putfield 42, 3) := by decide +kernel
theorem d_Mo_init_105 : decode c_Mo_init 105 = .ok (.newarray .int, 2) := by decide +kernel
theorem d_Mo_init_107 : decode c_Mo_init 107 = .ok (.putfield 45, 3) := by decide +kernel
theorem d_Mo_init_113 : decode c_Mo_init 113 = .ok (.newarray .int, 2) := by decide +kernel
theorem d_Mo_init_115 : decode c_Mo_init 115 = .ok (.putfield 48, 3) := by decide +kernel
theorem d_Mo_init_121 : decode c_Mo_init 121 = .ok (.newarray .int, 2) := by decide +kernel
theorem d_Mo_init_123 : decode c_Mo_init 123 = .ok (.putfield 51, 3) := by decide +kernel
theorem d_Mo_init_129 : decode c_Mo_init 129 = .ok (.newarray .int, 2) := by decide +kernel
theorem d_Mo_init_131 : decode c_Mo_init 131 = .ok (.putfield 54, 3) := by decide +kernel
theorem d_Mo_init_136 : decode c_Mo_init 136 = .ok (.newarray .int, 2) := by decide +kernel
theorem d_Mo_init_138 : decode c_Mo_init 138 = .ok (.putfield 57, 3) := by decide +kernel
theorem d_Mo_init_143 : decode c_Mo_init 143 = .ok (.newarray .int, 2) := by decide +kernel
theorem d_Mo_init_145 : decode c_Mo_init 145 = .ok (.putfield 60, 3) := by decide +kernel
theorem d_Mo_init_152 : decode c_Mo_init 152 = .ok (.newarray .int, 2) := by decide +kernel
theorem d_Mo_init_154 : decode c_Mo_init 154 = .ok (.putfield 63, 3) := by decide +kernel
theorem d_Mo_init_161 : decode c_Mo_init 161 = .ok (.newarray .int, 2) := by decide +kernel
theorem d_Mo_init_163 : decode c_Mo_init 163 = .ok (.putfield 66, 3) := by decide +kernel
theorem d_Mo_init_169 : decode c_Mo_init 169 = .ok (.newarray .int, 2) := by decide +kernel
theorem d_Mo_init_171 : decode c_Mo_init 171 = .ok (.putfield 69, 3) := by decide +kernel
theorem d_Mo_init_177 : decode c_Mo_init 177 = .ok (.newarray .int, 2) := by decide +kernel
theorem d_Mo_init_179 : decode c_Mo_init 179 = .ok (.putfield 72, 3) := by decide +kernel
theorem d_Mo_init_182 : decode c_Mo_init 182 = .ok (.return_, 1) := by decide +kernel
theorem s_Mo_sign_0 : dsq c_Mo_sign 0 [(.iload_n 1, 1, 0), (.bipush 97, 2, 97)] 3 = true := by decide +kernel
theorem s_Mo_sign_6 : dsq c_Mo_sign 6 [(.iload_n 1, 1, 0), (.bipush 122, 2, 122)] 9 = true := by decide +kernel
theorem s_Mo_sign_12 : dsq c_Mo_sign 12 [(.iconst (-1), 1, (-1))] 13 = true := by decide +kernel
theorem s_Mo_sign_14 : dsq c_Mo_sign 14 [(.aload_n 0, 1, 0)] 15 = true := by decide +kernel
theorem s_Mo_sign_18 : dsq c_Mo_sign 18 [(.bipush 6, 2, 6)] 20 = true := by decide +kernel
theorem s_Mo_sign_23 : dsq c_Mo_sign 23 [(.bipush (-3), 2, (-3))] 25 = true := by decide +kernel
theorem s_Mo_sign_26 : dsq c_Mo_sign 26 [(.aload_n 0, 1, 0)] 27 = true := by decide +kernel
theorem s_Mo_sign_30 : dsq c_Mo_sign 30 [(.aload_n 0, 1, 0), (.dup, 1, 0)] 32 = true := by decide +kernel
theorem s_Mo_sign_35 : dsq c_Mo_sign 35 [(.dup_x1, 1, 0), (.iconst 1, 1, 1), (.iadd, 1, 0)] 38 = true := by decide +kernel
theorem s_Mo_sign_41 : dsq c_Mo_sign 41 [(.iload_n 1, 1, 0)] 42 = true := by decide +kernel
theorem s_Mo_sign_43 : dsq c_Mo_sign 43 [(.aload_n 0, 1, 0)] 44 = true := by decide +kernel
theorem d_Mo_sign_3 : decode c_Mo_sign 3 = .ok (.if_icmp .lt 9, 3) := by decide +kernel
theorem d_Mo_sign_9 : decode c_Mo_sign 9 = .ok (.if_icmp .le 5, 3) := by decide +kernel
theorem d_Mo_sign_13 : decode c_Mo_sign 13 = .ok (.ireturn, 1) := by decide +kernel
theorem d_Mo_sign_15 : decode c_Mo_sign 15 = .ok (.getfield 75, 3) := by decide +kernel
theorem d_Mo_sign_20 : decode c_Mo_sign 20 = .ok (.if_icmp .ne 6, 3) := by decide +kernel
theorem d_Mo_sign_25 : decode c_Mo_sign 25 = .ok (.ireturn, 1) := by decide +kernel
theorem d_Mo_sign_27 : decode c_Mo_sign 27 = .ok (.getfield 7, 3) := by decide +kernel
theorem d_Mo_sign_32 : decode c_Mo_sign 32 = .ok (.getfield 75, 3) := by decide +kernel
theorem d_Mo_sign_38 : decode c_Mo_sign 38 = .ok (.putfield 75, 3) := by decide +kernel
theorem d_Mo_sign_42 : decode c_Mo_sign 42 = .ok (.iastore, 1) := by decide +kernel
theorem d_Mo_sign_44 : decode c_Mo_sign 44 = .ok (.getfield 75, 3) := by decide +kernel
theorem d_Mo_sign_47 : decode c_Mo_sign 47 = .ok (.ireturn, 1) := by decide +kernel
theorem s_Mo_erase_0 : dsq c_Mo_erase 0 [(.aload_n 0, 1, 0)] 1 = true := by decide +kernel
theorem s_Mo_erase_4 : dsq c_Mo_erase 4 [(.istore_n 1, 1, 0), (.aload_n 0, 1, 0), (.iconst 0, 1, 0)] 7 = true := by decide +kernel
theorem s_Mo_erase_10 : dsq c_Mo_erase 10 [(.iload_n 1, 1, 0)] 11 = true := by decide +kernel
theorem d_Mo_erase_1 : decode c_Mo_erase 1 = .ok (.getfield 75, 3) := by decide +kernel
theorem d_Mo_erase_7 : decode c_Mo_erase 7 = .ok (.putfield 75, 3) := by decide +kernel
theorem d_Mo_erase_11 : decode c_Mo_erase 11 = .ok (.ireturn, 1) := by decide +kernel
theorem s_Mo_want_0 : dsq c_Mo_want 0 [(.aload_n 0, 1, 0)] 1 = true := by decide +kernel
theorem s_Mo_want_7 : dsq c_Mo_want 7 [(.iload_n 1, 1, 0)] 8 = true := by decide +kernel
theorem s_Mo_want_14 : dsq c_Mo_want 14 [(.iload_n 2, 1, 0), (.iconst 1, 1, 1)] 16 = true := by decide +kernel
theorem s_Mo_want_19 : dsq c_Mo_want 19 [(.iload_n 2, 1, 0), (.bipush 100, 2, 100)] 22 = true := by decide +kernel
theorem s_Mo_want_25 : dsq c_Mo_want 25 [(.iconst (-1), 1, (-1))] 26 = true := by decide +kernel
theorem s_Mo_want_27 : dsq c_Mo_want 27 [(.aload_n 0, 1, 0)] 28 = true := by decide +kernel
theorem s_Mo_want_31 : dsq c_Mo_want 31 [(.istore_n 3, 1, 0), (.aload_n 0, 1, 0)] 33 = true := by decide +kernel
theorem s_Mo_want_36 : dsq c_Mo_want 36 [(.iload_n 3, 1, 0)] 37 = true := by decide +kernel
theorem s_Mo_want_41 : dsq c_Mo_want 41 [(.aload_n 0, 1, 0)] 42 = true := by decide +kernel
theorem s_Mo_want_45 : dsq c_Mo_want 45 [(.iload_n 3, 1, 0), (.iload_n 1, 1, 0)] 47 = true := by decide +kernel
theorem s_Mo_want_48 : dsq c_Mo_want 48 [(.aload_n 0, 1, 0)] 49 = true := by decide +kernel
theorem s_Mo_want_52 : dsq c_Mo_want 52 [(.iload_n 3, 1, 0), (.aload_n 0, 1, 0)] 54 = true := by decide +kernel
theorem s_Mo_want_57 : dsq c_Mo_want 57 [(.iload_n 2, 1, 0), (.iadd, 1, 0)] 59 = true := by decide +kernel
theorem s_Mo_want_60 : dsq c_Mo_want 60 [(.aload_n 0, 1, 0), (.iload_n 3, 1, 0), (.iconst 1, 1, 1)] 63 = true := by decide +kernel
theorem s_Mo_want_66 : dsq c_Mo_want 66 [(.iconst 0, 1, 0)] 67 = true := by decide +kernel
theorem s_Mo_want_68 : dsq c_Mo_want 68 [(.aload_n 0, 1, 0)] 69 = true := by decide +kernel
theorem s_Mo_want_72 : dsq c_Mo_want 72 [(.iload_n 3, 1, 0)] 73 = true := by decide +kernel
theorem s_Mo_want_74 : dsq c_Mo_want 74 [(.iload_n 1, 1, 0)] 75 = true := by decide +kernel
theorem s_Mo_want_78 : dsq c_Mo_want 78 [(.aload_n 0, 1, 0), (.iload_n 3, 1, 0), (.iload_n 1, 1, 0)] 81 = true := by decide +kernel
theorem s_Mo_want_87 : dsq c_Mo_want 87 [(.bipush (-2), 2, (-2))] 89 = true := by decide +kernel
theorem s_Mo_want_90 : dsq c_Mo_want 90 [(.aload_n 0, 1, 0)] 91 = true := by decide +kernel
theorem s_Mo_want_94 : dsq c_Mo_want 94 [(.iload_n 3, 1, 0)] 95 = true := by decide +kernel
theorem s_Mo_want_96 : dsq c_Mo_want 96 [(.iconst 5, 1, 5)] 97 = true := by decide +kernel
theorem s_Mo_want_100 : dsq c_Mo_want 100 [(.bipush (-3), 2, (-3))] 102 = true := by decide +kernel
theorem s_Mo_want_103 : dsq c_Mo_want 103 [(.iconst 5, 1, 5), (.iload_n 3, 1, 0), (.imul, 1, 0), (.aload_n 0, 1, 0)] 107 = true := by decide +kernel
theorem s_Mo_want_110 : dsq c_Mo_want 110 [(.iload_n 3, 1, 0), (.dup2, 1, 0)] 112 = true := by decide +kernel
theorem s_Mo_want_113 : dsq c_Mo_want 113 [(.dup_x2, 1, 0), (.iconst 1, 1, 1), (.iadd, 1, 0)] 116 = true := by decide +kernel
theorem s_Mo_want_117 : dsq c_Mo_want 117 [(.iadd, 1, 0), (.istore 4, 2, 0), (.aload_n 0, 1, 0)] 121 = true := by decide +kernel
theorem s_Mo_want_124 : dsq c_Mo_want 124 [(.iload 4, 2, 0), (.iload_n 1, 1, 0)] 127 = true := by decide +kernel
theorem s_Mo_want_128 : dsq c_Mo_want 128 [(.aload_n 0, 1, 0)] 129 = true := by decide +kernel
theorem s_Mo_want_132 : dsq c_Mo_want 132 [(.iload 4, 2, 0), (.iload_n 2, 1, 0)] 135 = true := by decide +kernel
theorem s_Mo_want_136 : dsq c_Mo_want 136 [(.aload_n 0, 1, 0)] 137 = true := by decide +kernel
theorem s_Mo_want_140 : dsq c_Mo_want 140 [(.iload 4, 2, 0), (.aload_n 0, 1, 0)] 143 = true := by decide +kernel
theorem s_Mo_want_147 : dsq c_Mo_want 147 [(.aload_n 0, 1, 0)] 148 = true := by decide +kernel
theorem s_Mo_want_151 : dsq c_Mo_want 151 [(.iload_n 3, 1, 0)] 152 = true := by decide +kernel
theorem d_Mo_want_1 : decode c_Mo_want 1 = .ok (.getfield 75, 3) := by decide +kernel
theorem d_Mo_want_4 : decode c_Mo_want 4 = .ok (.ifCond .eq 21, 3) := by decide +kernel
theorem d_Mo_want_8 : decode c_Mo_want 8 = .ok (.invokestatic 105, 3) := by decide +kernel
theorem d_Mo_want_11 : decode c_Mo_want 11 = .ok (.ifCond .eq 14, 3) := by decide +kernel
theorem d_Mo_want_16 : decode c_Mo_want 16 = .ok (.if_icmp .lt 9, 3) := by decide +kernel
theorem d_Mo_want_22 : decode c_Mo_want 22 = .ok (.if_icmp .le 5, 3) := by decide +kernel
theorem d_Mo_want_26 : decode c_Mo_want 26 = .ok (.ireturn, 1) := by decide +kernel
theorem d_Mo_want_28 : decode c_Mo_want 28 = .ok (.invokevirtual 109, 3) := by decide +kernel
theorem d_Mo_want_33 : decode c_Mo_want 33 = .ok (.getfield 27, 3) := by decide +kernel
theorem d_Mo_want_37 : decode c_Mo_want 37 = .ok (.iaload, 1) := by decide +kernel
theorem d_Mo_want_38 : decode c_Mo_want 38 = .ok (.ifCond .ge 30, 3) := by decide +kernel
theorem d_Mo_want_42 : decode c_Mo_want 42 = .ok (.getfield 27, 3) := by decide +kernel
theorem d_Mo_want_47 : decode c_Mo_want 47 = .ok (.iastore, 1) := by decide +kernel
theorem d_Mo_want_49 : decode c_Mo_want 49 = .ok (.getfield 30, 3) := by decide +kernel
theorem d_Mo_want_54 : decode c_Mo_want 54 = .ok (.getfield 96, 3) := by decide +kernel
theorem d_Mo_want_59 : decode c_Mo_want 59 = .ok (.iastore, 1) := by decide +kernel
theorem d_Mo_want_63 : decode c_Mo_want 63 = .ok (.invokevirtual 92, 3) := by decide +kernel
theorem d_Mo_want_67 : decode c_Mo_want 67 = .ok (.ireturn, 1) := by decide +kernel
theorem d_Mo_want_69 : decode c_Mo_want 69 = .ok (.getfield 27, 3) := by decide +kernel
theorem d_Mo_want_73 : decode c_Mo_want 73 = .ok (.iaload, 1) := by decide +kernel
theorem d_Mo_want_75 : decode c_Mo_want 75 = .ok (.if_icmp .eq 12, 3) := by decide +kernel
theorem d_Mo_want_81 : decode c_Mo_want 81 = .ok (.invokevirtual 113, 3) := by decide +kernel
theorem d_Mo_want_84 : decode c_Mo_want 84 = .ok (.ifCond .lt 6, 3) := by decide +kernel
theorem d_Mo_want_89 : decode c_Mo_want 89 = .ok (.ireturn, 1) := by decide +kernel
theorem d_Mo_want_91 : decode c_Mo_want 91 = .ok (.getfield 33, 3) := by decide +kernel
theorem d_Mo_want_95 : decode c_Mo_want 95 = .ok (.iaload, 1) := by decide +kernel
theorem d_Mo_want_97 : decode c_Mo_want 97 = .ok (.if_icmp .ne 6, 3) := by decide +kernel
theorem d_Mo_want_102 : decode c_Mo_want 102 = .ok (.ireturn, 1) := by decide +kernel
theorem d_Mo_want_107 : decode c_Mo_want 107 = .ok (.getfield 33, 3) := by decide +kernel
theorem d_Mo_want_112 : decode c_Mo_want 112 = .ok (.iaload, 1) := by decide +kernel
theorem d_Mo_want_116 : decode c_Mo_want 116 = .ok (.iastore, 1) := by decide +kernel
theorem d_Mo_want_121 : decode c_Mo_want 121 = .ok (.getfield 36, 3) := by decide +kernel
theorem d_Mo_want_127 : decode c_Mo_want 127 = .ok (.iastore, 1) := by decide +kernel
theorem d_Mo_want_129 : decode c_Mo_want 129 = .ok (.getfield 39, 3) := by decide +kernel
theorem d_Mo_want_135 : decode c_Mo_want 135 = .ok (.iastore, 1) := by decide +kernel
theorem d_Mo_want_137 : decode c_Mo_want 137 = .ok (.getfield 42, 3) := by decide +kernel
theorem d_Mo_want_143 : decode c_Mo_want 143 = .ok (.getfield 96, 3) := by decide +kernel
theorem d_Mo_want_146 : decode c_Mo_want 146 = .ok (.iastore, 1) := by decide +kernel
theorem d_Mo_want_148 : decode c_Mo_want 148 = .ok (.getfield 33, 3) := by decide +kernel
theorem d_Mo_want_152 : decode c_Mo_want 152 = .ok (.iaload, 1) := by decide +kernel
theorem d_Mo_want_153 : decode c_Mo_want 153 = .ok (.ireturn, 1) := by decide +kernel
theorem s_Mo_isClient_0 : dsq c_Mo_isClient 0 [(.iload_n 0, 1, 0)] 1 = true := by decide +kernel
theorem s_Mo_isClient_4 : dsq c_Mo_isClient 4 [(.iload_n 0, 1, 0), (.bipush 16, 2, 16)] 7 = true := by decide +kernel
theorem s_Mo_isClient_10 : dsq c_Mo_isClient 10 [(.iconst 1, 1, 1), (.goto 4, 3, 0)] 15 = true := by decide +kernel
theorem s_Mo_isClient_14 : dsq c_Mo_isClient 14 [(.iconst 0, 1, 0)] 15 = true := by decide +kernel
theorem d_Mo_isClient_1 : decode c_Mo_isClient 1 = .ok (.ifCond .lt 13, 3) := by decide +kernel
theorem d_Mo_isClient_7 : decode c_Mo_isClient 7 = .ok (.if_icmp .ge 7, 3) := by decide +kernel
theorem d_Mo_isClient_15 : decode c_Mo_isClient 15 = .ok (.ireturn, 1) := by decide +kernel
theorem s_Mo_here_0 : dsq c_Mo_here 0 [(.aload_n 0, 1, 0)] 1 = true := by decide +kernel
theorem s_Mo_here_4 : dsq c_Mo_here 4 [(.lstore_n 1, 1, 0), (.iconst 0, 1, 0), (.istore_n 3, 1, 0)] 7 = true := by decide +kernel
theorem s_Mo_here_7 : dsq c_Mo_here 7 [(.iload_n 3, 1, 0), (.aload_n 0, 1, 0)] 9 = true := by decide +kernel
theorem s_Mo_here_15 : dsq c_Mo_here 15 [(.aload_n 0, 1, 0)] 16 = true := by decide +kernel
theorem s_Mo_here_19 : dsq c_Mo_here 19 [(.iload_n 3, 1, 0)] 20 = true := by decide +kernel
theorem s_Mo_here_21 : dsq c_Mo_here 21 [(.lload_n 1, 1, 0)] 22 = true := by decide +kernel
theorem s_Mo_here_26 : dsq c_Mo_here 26 [(.iload_n 3, 1, 0)] 27 = true := by decide +kernel
theorem s_Mo_here_28 : dsq c_Mo_here 28 [(.iinc 3 1, 3, 1), (.goto (-24), 3, 0)] 7 = true := by decide +kernel
theorem s_Mo_here_34 : dsq c_Mo_here 34 [(.aload_n 0, 1, 0)] 35 = true := by decide +kernel
theorem s_Mo_here_38 : dsq c_Mo_here 38 [(.aload_n 0, 1, 0)] 39 = true := by decide +kernel
theorem s_Mo_here_42 : dsq c_Mo_here 42 [(.lload_n 1, 1, 0)] 43 = true := by decide +kernel
theorem s_Mo_here_44 : dsq c_Mo_here 44 [(.aload_n 0, 1, 0)] 45 = true := by decide +kernel
theorem s_Mo_here_48 : dsq c_Mo_here 48 [(.aload_n 0, 1, 0)] 49 = true := by decide +kernel
theorem s_Mo_here_52 : dsq c_Mo_here 52 [(.iconst 0, 1, 0)] 53 = true := by decide +kernel
theorem s_Mo_here_54 : dsq c_Mo_here 54 [(.aload_n 0, 1, 0)] 55 = true := by decide +kernel
theorem s_Mo_here_58 : dsq c_Mo_here 58 [(.aload_n 0, 1, 0)] 59 = true := by decide +kernel
theorem s_Mo_here_62 : dsq c_Mo_here 62 [(.iconst 0, 1, 0)] 63 = true := by decide +kernel
theorem s_Mo_here_64 : dsq c_Mo_here 64 [(.aload_n 0, 1, 0)] 65 = true := by decide +kernel
theorem s_Mo_here_68 : dsq c_Mo_here 68 [(.aload_n 0, 1, 0)] 69 = true := by decide +kernel
theorem s_Mo_here_72 : dsq c_Mo_here 72 [(.iconst (-1), 1, (-1))] 73 = true := by decide +kernel
theorem s_Mo_here_74 : dsq c_Mo_here 74 [(.aload_n 0, 1, 0)] 75 = true := by decide +kernel
theorem s_Mo_here_78 : dsq c_Mo_here 78 [(.aload_n 0, 1, 0)] 79 = true := by decide +kernel
theorem s_Mo_here_82 : dsq c_Mo_here 82 [(.iconst 0, 1, 0)] 83 = true := by decide +kernel
theorem s_Mo_here_84 : dsq c_Mo_here 84 [(.aload_n 0, 1, 0), (.dup, 1, 0)] 86 = true := by decide +kernel
theorem s_Mo_here_89 : dsq c_Mo_here 89 [(.dup_x1, 1, 0), (.iconst 1, 1, 1), (.iadd, 1, 0)] 92 = true := by decide +kernel
theorem d_Mo_here_1 : decode c_Mo_here 1 = .ok (.invokevirtual 81, 3) := by decide +kernel
theorem d_Mo_here_9 : decode c_Mo_here 9 = .ok (.getfield 85, 3) := by decide +kernel
theorem d_Mo_here_12 : decode c_Mo_here 12 = .ok (.if_icmp .ge 22, 3) := by decide +kernel
theorem d_Mo_here_16 : decode c_Mo_here 16 = .ok (.getfield 13, 3) := by decide +kernel
theorem d_Mo_here_20 : decode c_Mo_here 20 = .ok (.laload, 1) := by decide +kernel
theorem d_Mo_here_22 : decode c_Mo_here 22 = .ok (.lcmp, 1) := by decide +kernel
theorem d_Mo_here_23 : decode c_Mo_here 23 = .ok (.ifCond .ne 5, 3) := by decide +kernel
theorem d_Mo_here_27 : decode c_Mo_here 27 = .ok (.ireturn, 1) := by decide +kernel
theorem d_Mo_here_35 : decode c_Mo_here 35 = .ok (.getfield 13, 3) := by decide +kernel
theorem d_Mo_here_39 : decode c_Mo_here 39 = .ok (.getfield 85, 3) := by decide +kernel
theorem d_Mo_here_43 : decode c_Mo_here 43 = .ok (.lastore, 1) := by decide +kernel
theorem d_Mo_here_45 : decode c_Mo_here 45 = .ok (.getfield 17, 3) := by decide +kernel
theorem d_Mo_here_49 : decode c_Mo_here 49 = .ok (.getfield 85, 3) := by decide +kernel
theorem d_Mo_here_53 : decode c_Mo_here 53 = .ok (.iastore, 1) := by decide +kernel
theorem d_Mo_here_55 : decode c_Mo_here 55 = .ok (.getfield 20, 3) := by decide +kernel
theorem d_Mo_here_59 : decode c_Mo_here 59 = .ok (.getfield 85, 3) := by decide +kernel
theorem d_Mo_here_63 : decode c_Mo_here 63 = .ok (.iastore, 1) := by decide +kernel
theorem d_Mo_here_65 : decode c_Mo_here 65 = .ok (.getfield 27, 3) := by decide +kernel
theorem d_Mo_here_69 : decode c_Mo_here 69 = .ok (.getfield 85, 3) := by decide +kernel
theorem d_Mo_here_73 : decode c_Mo_here 73 = .ok (.iastore, 1) := by decide +kernel
theorem d_Mo_here_75 : decode c_Mo_here 75 = .ok (.getfield 33, 3) := by decide +kernel
theorem d_Mo_here_79 : decode c_Mo_here 79 = .ok (.getfield 85, 3) := by decide +kernel
theorem d_Mo_here_83 : decode c_Mo_here 83 = .ok (.iastore, 1) := by decide +kernel
theorem d_Mo_here_86 : decode c_Mo_here 86 = .ok (.getfield 85, 3) := by decide +kernel
theorem d_Mo_here_92 : decode c_Mo_here 92 = .ok (.putfield 85, 3) := by decide +kernel
theorem d_Mo_here_95 : decode c_Mo_here 95 = .ok (.ireturn, 1) := by decide +kernel
theorem s_Mo_code_0 : dsq c_Mo_code 0 [(.aload_n 0, 1, 0)] 1 = true := by decide +kernel
theorem s_Mo_code_4 : dsq c_Mo_code 4 [(.i2l, 1, 0), (.lstore_n 1, 1, 0), (.iconst 0, 1, 0), (.istore_n 3, 1, 0)] 8 = true := by decide +kernel
theorem s_Mo_code_8 : dsq c_Mo_code 8 [(.iload_n 3, 1, 0), (.bipush 6, 2, 6)] 11 = true := by decide +kernel
theorem s_Mo_code_17 : dsq c_Mo_code 17 [(.lload_n 1, 1, 0), (.lmul, 1, 0), (.iload_n 3, 1, 0), (.aload_n 0, 1, 0)] 21 = true := by decide +kernel
theorem s_Mo_code_27 : dsq c_Mo_code 27 [(.aload_n 0, 1, 0)] 28 = true := by decide +kernel
theorem s_Mo_code_31 : dsq c_Mo_code 31 [(.iload_n 3, 1, 0)] 32 = true := by decide +kernel
theorem s_Mo_code_33 : dsq c_Mo_code 33 [(.bipush 96, 2, 96), (.isub, 1, 0), (.goto 4, 3, 0), (.i2l, 1, 0), (.ladd, 1, 0), (.lstore_n 1, 1, 0), (.iinc 3 1, 3, 1), (.goto (-38), 3, 0)] 8 = true := by decide +kernel
theorem s_Mo_code_39 : dsq c_Mo_code 39 [(.iconst 0, 1, 0), (.i2l, 1, 0), (.ladd, 1, 0), (.lstore_n 1, 1, 0), (.iinc 3 1, 3, 1), (.goto (-38), 3, 0)] 8 = true := by decide +kernel
theorem s_Mo_code_40 : dsq c_Mo_code 40 [(.i2l, 1, 0), (.ladd, 1, 0), (.lstore_n 1, 1, 0), (.iinc 3 1, 3, 1), (.goto (-38), 3, 0)] 8 = true := by decide +kernel
theorem s_Mo_code_49 : dsq c_Mo_code 49 [(.lload_n 1, 1, 0)] 50 = true := by decide +kernel
theorem d_Mo_code_1 : decode c_Mo_code 1 = .ok (.getfield 75, 3) := by decide +kernel
theorem d_Mo_code_11 : decode c_Mo_code 11 = .ok (.if_icmp .ge 38, 3) := by decide +kernel
theorem d_Mo_code_14 : decode c_Mo_code 14 = .ok (.ldc2_w 79, 3) := by decide +kernel
theorem d_Mo_code_21 : decode c_Mo_code 21 = .ok (.getfield 75, 3) := by decide +kernel
theorem d_Mo_code_24 : decode c_Mo_code 24 = .ok (.if_icmp .ge 15, 3) := by decide +kernel
theorem d_Mo_code_28 : decode c_Mo_code 28 = .ok (.getfield 7, 3) := by decide +kernel
theorem d_Mo_code_32 : decode c_Mo_code 32 = .ok (.iaload, 1) := by decide +kernel
theorem d_Mo_code_50 : decode c_Mo_code 50 = .ok (.lreturn, 1) := by decide +kernel
theorem s_Mo_change_0 : dsq c_Mo_change 0 [(.aload_n 0, 1, 0)] 1 = true := by decide +kernel
theorem s_Mo_change_4 : dsq c_Mo_change 4 [(.iload_n 1, 1, 0), (.dup2, 1, 0)] 6 = true := by decide +kernel
theorem s_Mo_change_7 : dsq c_Mo_change 7 [(.iconst 1, 1, 1), (.iadd, 1, 0)] 9 = true := by decide +kernel
theorem s_Mo_change_10 : dsq c_Mo_change 10 [(.iconst 0, 1, 0), (.istore_n 3, 1, 0)] 12 = true := by decide +kernel
theorem s_Mo_change_12 : dsq c_Mo_change 12 [(.iload_n 3, 1, 0), (.aload_n 0, 1, 0)] 14 = true := by decide +kernel
theorem s_Mo_change_17 : dsq c_Mo_change 17 [(.iload_n 1, 1, 0)] 18 = true := by decide +kernel
theorem s_Mo_change_22 : dsq c_Mo_change 22 [(.aload_n 0, 1, 0)] 23 = true := by decide +kernel
theorem s_Mo_change_26 : dsq c_Mo_change 26 [(.bipush 16, 2, 16), (.iload_n 1, 1, 0), (.imul, 1, 0), (.iload_n 3, 1, 0), (.iadd, 1, 0)] 32 = true := by decide +kernel
theorem s_Mo_change_33 : dsq c_Mo_change 33 [(.istore 4, 2, 0), (.aload_n 0, 1, 0)] 36 = true := by decide +kernel
theorem s_Mo_change_39 : dsq c_Mo_change 39 [(.iload 4, 2, 0)] 41 = true := by decide +kernel
theorem s_Mo_change_42 : dsq c_Mo_change 42 [(.bipush 8, 2, 8)] 44 = true := by decide +kernel
theorem s_Mo_change_47 : dsq c_Mo_change 47 [(.aload_n 0, 1, 0), (.iload 4, 2, 0)] 50 = true := by decide +kernel
theorem s_Mo_change_53 : dsq c_Mo_change 53 [(.aload_n 0, 1, 0)] 54 = true := by decide +kernel
theorem s_Mo_change_57 : dsq c_Mo_change 57 [(.bipush 8, 2, 8), (.iload 4, 2, 0), (.imul, 1, 0), (.aload_n 0, 1, 0)] 63 = true := by decide +kernel
theorem s_Mo_change_66 : dsq c_Mo_change 66 [(.iload 4, 2, 0)] 68 = true := by decide +kernel
theorem s_Mo_change_69 : dsq c_Mo_change 69 [(.iadd, 1, 0), (.iload_n 1, 1, 0)] 71 = true := by decide +kernel
theorem s_Mo_change_72 : dsq c_Mo_change 72 [(.aload_n 0, 1, 0)] 73 = true := by decide +kernel
theorem s_Mo_change_76 : dsq c_Mo_change 76 [(.bipush 8, 2, 8), (.iload 4, 2, 0), (.imul, 1, 0), (.aload_n 0, 1, 0)] 82 = true := by decide +kernel
theorem s_Mo_change_85 : dsq c_Mo_change 85 [(.iload 4, 2, 0), (.dup2, 1, 0)] 88 = true := by decide +kernel
theorem s_Mo_change_89 : dsq c_Mo_change 89 [(.dup_x2, 1, 0), (.iconst 1, 1, 1), (.iadd, 1, 0)] 92 = true := by decide +kernel
theorem s_Mo_change_93 : dsq c_Mo_change 93 [(.iadd, 1, 0), (.iload_n 2, 1, 0)] 95 = true := by decide +kernel
theorem s_Mo_change_96 : dsq c_Mo_change 96 [(.iinc 3 1, 3, 1), (.goto (-87), 3, 0)] 12 = true := by decide +kernel
theorem d_Mo_change_1 : decode c_Mo_change 1 = .ok (.getfield 17, 3) := by decide +kernel
theorem d_Mo_change_6 : decode c_Mo_change 6 = .ok (.iaload, 1) := by decide +kernel
theorem d_Mo_change_9 : decode c_Mo_change 9 = .ok (.iastore, 1) := by decide +kernel
theorem d_Mo_change_14 : decode c_Mo_change 14 = .ok (.getfield 20, 3) := by decide +kernel
theorem d_Mo_change_18 : decode c_Mo_change 18 = .ok (.iaload, 1) := by decide +kernel
theorem d_Mo_change_19 : decode c_Mo_change 19 = .ok (.if_icmp .ge 83, 3) := by decide +kernel
theorem d_Mo_change_23 : decode c_Mo_change 23 = .ok (.getfield 24, 3) := by decide +kernel
theorem d_Mo_change_32 : decode c_Mo_change 32 = .ok (.iaload, 1) := by decide +kernel
theorem d_Mo_change_36 : decode c_Mo_change 36 = .ok (.getfield 69, 3) := by decide +kernel
theorem d_Mo_change_41 : decode c_Mo_change 41 = .ok (.iaload, 1) := by decide +kernel
theorem d_Mo_change_44 : decode c_Mo_change 44 = .ok (.if_icmp .ne 9, 3) := by decide +kernel
theorem d_Mo_change_50 : decode c_Mo_change 50 = .ok (.invokevirtual 88, 3) := by decide +kernel
theorem d_Mo_change_54 : decode c_Mo_change 54 = .ok (.getfield 63, 3) := by decide +kernel
theorem d_Mo_change_63 : decode c_Mo_change 63 = .ok (.getfield 69, 3) := by decide +kernel
theorem d_Mo_change_68 : decode c_Mo_change 68 = .ok (.iaload, 1) := by decide +kernel
theorem d_Mo_change_71 : decode c_Mo_change 71 = .ok (.iastore, 1) := by decide +kernel
theorem d_Mo_change_73 : decode c_Mo_change 73 = .ok (.getfield 66, 3) := by decide +kernel
theorem d_Mo_change_82 : decode c_Mo_change 82 = .ok (.getfield 69, 3) := by decide +kernel
theorem d_Mo_change_88 : decode c_Mo_change 88 = .ok (.iaload, 1) := by decide +kernel
theorem d_Mo_change_92 : decode c_Mo_change 92 = .ok (.iastore, 1) := by decide +kernel
theorem d_Mo_change_95 : decode c_Mo_change 95 = .ok (.iastore, 1) := by decide +kernel
theorem d_Mo_change_102 : decode c_Mo_change 102 = .ok (.return_, 1) := by decide +kernel
theorem s_Mo_drop_0 : dsq c_Mo_drop 0 [(.aload_n 0, 1, 0)] 1 = true := by decide +kernel
theorem s_Mo_drop_4 : dsq c_Mo_drop 4 [(.iload_n 1, 1, 0), (.dup2, 1, 0)] 6 = true := by decide +kernel
theorem s_Mo_drop_7 : dsq c_Mo_drop 7 [(.iconst 1, 1, 1), (.isub, 1, 0)] 9 = true := by decide +kernel
theorem s_Mo_drop_10 : dsq c_Mo_drop 10 [(.iconst 0, 1, 0), (.istore_n 2, 1, 0)] 12 = true := by decide +kernel
theorem s_Mo_drop_12 : dsq c_Mo_drop 12 [(.iload_n 2, 1, 0), (.aload_n 0, 1, 0)] 14 = true := by decide +kernel
theorem s_Mo_drop_17 : dsq c_Mo_drop 17 [(.iload_n 1, 1, 0)] 18 = true := by decide +kernel
theorem s_Mo_drop_22 : dsq c_Mo_drop 22 [(.aload_n 0, 1, 0)] 23 = true := by decide +kernel
theorem s_Mo_drop_26 : dsq c_Mo_drop 26 [(.bipush 8, 2, 8), (.iload_n 1, 1, 0), (.imul, 1, 0), (.iload_n 2, 1, 0), (.iadd, 1, 0), (.aload_n 0, 1, 0)] 33 = true := by decide +kernel
theorem s_Mo_drop_36 : dsq c_Mo_drop 36 [(.bipush 8, 2, 8), (.iload_n 1, 1, 0), (.imul, 1, 0), (.iload_n 2, 1, 0), (.iadd, 1, 0), (.iconst 1, 1, 1), (.iadd, 1, 0)] 44 = true := by decide +kernel
theorem s_Mo_drop_46 : dsq c_Mo_drop 46 [(.aload_n 0, 1, 0)] 47 = true := by decide +kernel
theorem s_Mo_drop_50 : dsq c_Mo_drop 50 [(.bipush 8, 2, 8), (.iload_n 1, 1, 0), (.imul, 1, 0), (.iload_n 2, 1, 0), (.iadd, 1, 0), (.aload_n 0, 1, 0)] 57 = true := by decide +kernel
theorem s_Mo_drop_60 : dsq c_Mo_drop 60 [(.bipush 8, 2, 8), (.iload_n 1, 1, 0), (.imul, 1, 0), (.iload_n 2, 1, 0), (.iadd, 1, 0), (.iconst 1, 1, 1), (.iadd, 1, 0)] 68 = true := by decide +kernel
theorem s_Mo_drop_70 : dsq c_Mo_drop 70 [(.iinc 2 1, 3, 1), (.goto (-61), 3, 0)] 12 = true := by decide +kernel
theorem d_Mo_drop_1 : decode c_Mo_drop 1 = .ok (.getfield 69, 3) := by decide +kernel
theorem d_Mo_drop_6 : decode c_Mo_drop 6 = .ok (.iaload, 1) := by decide +kernel
theorem d_Mo_drop_9 : decode c_Mo_drop 9 = .ok (.iastore, 1) := by decide +kernel
theorem d_Mo_drop_14 : decode c_Mo_drop 14 = .ok (.getfield 69, 3) := by decide +kernel
theorem d_Mo_drop_18 : decode c_Mo_drop 18 = .ok (.iaload, 1) := by decide +kernel
theorem d_Mo_drop_19 : decode c_Mo_drop 19 = .ok (.if_icmp .ge 57, 3) := by decide +kernel
theorem d_Mo_drop_23 : decode c_Mo_drop 23 = .ok (.getfield 63, 3) := by decide +kernel
theorem d_Mo_drop_33 : decode c_Mo_drop 33 = .ok (.getfield 63, 3) := by decide +kernel
theorem d_Mo_drop_44 : decode c_Mo_drop 44 = .ok (.iaload, 1) := by decide +kernel
theorem d_Mo_drop_45 : decode c_Mo_drop 45 = .ok (.iastore, 1) := by decide +kernel
theorem d_Mo_drop_47 : decode c_Mo_drop 47 = .ok (.getfield 66, 3) := by decide +kernel
theorem d_Mo_drop_57 : decode c_Mo_drop 57 = .ok (.getfield 66, 3) := by decide +kernel
theorem d_Mo_drop_68 : decode c_Mo_drop 68 = .ok (.iaload, 1) := by decide +kernel
theorem d_Mo_drop_69 : decode c_Mo_drop 69 = .ok (.iastore, 1) := by decide +kernel
theorem d_Mo_drop_76 : decode c_Mo_drop 76 = .ok (.return_, 1) := by decide +kernel
theorem s_Mo_place_0 : dsq c_Mo_place 0 [(.iconst 0, 1, 0), (.istore_n 3, 1, 0)] 2 = true := by decide +kernel
theorem s_Mo_place_2 : dsq c_Mo_place 2 [(.iload_n 3, 1, 0), (.aload_n 0, 1, 0)] 4 = true := by decide +kernel
theorem s_Mo_place_7 : dsq c_Mo_place 7 [(.iload_n 1, 1, 0)] 8 = true := by decide +kernel
theorem s_Mo_place_12 : dsq c_Mo_place 12 [(.aload_n 0, 1, 0)] 13 = true := by decide +kernel
theorem s_Mo_place_16 : dsq c_Mo_place 16 [(.iconst 5, 1, 5), (.iload_n 1, 1, 0), (.imul, 1, 0), (.iload_n 3, 1, 0), (.iadd, 1, 0)] 21 = true := by decide +kernel
theorem s_Mo_place_22 : dsq c_Mo_place 22 [(.iload_n 2, 1, 0)] 23 = true := by decide +kernel
theorem s_Mo_place_26 : dsq c_Mo_place 26 [(.iload_n 3, 1, 0)] 27 = true := by decide +kernel
theorem s_Mo_place_28 : dsq c_Mo_place 28 [(.iinc 3 1, 3, 1), (.goto (-29), 3, 0)] 2 = true := by decide +kernel
theorem s_Mo_place_34 : dsq c_Mo_place 34 [(.iconst (-1), 1, (-1))] 35 = true := by decide +kernel
theorem d_Mo_place_4 : decode c_Mo_place 4 = .ok (.getfield 33, 3) := by decide +kernel
theorem d_Mo_place_8 : decode c_Mo_place 8 = .ok (.iaload, 1) := by decide +kernel
theorem d_Mo_place_9 : decode c_Mo_place 9 = .ok (.if_icmp .ge 25, 3) := by decide +kernel
theorem d_Mo_place_13 : decode c_Mo_place 13 = .ok (.getfield 36, 3) := by decide +kernel
theorem d_Mo_place_21 : decode c_Mo_place 21 = .ok (.iaload, 1) := by decide +kernel
theorem d_Mo_place_23 : decode c_Mo_place 23 = .ok (.if_icmp .ne 5, 3) := by decide +kernel
theorem d_Mo_place_27 : decode c_Mo_place 27 = .ok (.ireturn, 1) := by decide +kernel
theorem d_Mo_place_35 : decode c_Mo_place 35 = .ok (.ireturn, 1) := by decide +kernel
theorem s_Mo_free_0 : dsq c_Mo_free 0 [(.aload_n 0, 1, 0)] 1 = true := by decide +kernel
theorem s_Mo_free_7 : dsq c_Mo_free 7 [(.iload_n 1, 1, 0)] 8 = true := by decide +kernel
theorem s_Mo_free_14 : dsq c_Mo_free 14 [(.iconst (-1), 1, (-1))] 15 = true := by decide +kernel
theorem s_Mo_free_16 : dsq c_Mo_free 16 [(.aload_n 0, 1, 0)] 17 = true := by decide +kernel
theorem s_Mo_free_20 : dsq c_Mo_free 20 [(.istore_n 2, 1, 0), (.aload_n 0, 1, 0)] 22 = true := by decide +kernel
theorem s_Mo_free_25 : dsq c_Mo_free 25 [(.iload_n 2, 1, 0)] 26 = true := by decide +kernel
theorem s_Mo_free_27 : dsq c_Mo_free 27 [(.iload_n 1, 1, 0)] 28 = true := by decide +kernel
theorem s_Mo_free_31 : dsq c_Mo_free 31 [(.iconst (-1), 1, (-1))] 32 = true := by decide +kernel
theorem s_Mo_free_33 : dsq c_Mo_free 33 [(.aload_n 0, 1, 0), (.iload_n 2, 1, 0)] 35 = true := by decide +kernel
theorem s_Mo_free_38 : dsq c_Mo_free 38 [(.aload_n 0, 1, 0)] 39 = true := by decide +kernel
theorem s_Mo_free_42 : dsq c_Mo_free 42 [(.iload_n 2, 1, 0)] 43 = true := by decide +kernel
theorem s_Mo_free_47 : dsq c_Mo_free 47 [(.bipush (-2), 2, (-2)), (.goto 9, 3, 0)] 58 = true := by decide +kernel
theorem s_Mo_free_52 : dsq c_Mo_free 52 [(.aload_n 0, 1, 0)] 53 = true := by decide +kernel
theorem s_Mo_free_56 : dsq c_Mo_free 56 [(.iload_n 2, 1, 0)] 57 = true := by decide +kernel
theorem d_Mo_free_1 : decode c_Mo_free 1 = .ok (.getfield 75, 3) := by decide +kernel
theorem d_Mo_free_4 : decode c_Mo_free 4 = .ok (.ifCond .eq 10, 3) := by decide +kernel
theorem d_Mo_free_8 : decode c_Mo_free 8 = .ok (.invokestatic 105, 3) := by decide +kernel
theorem d_Mo_free_11 : decode c_Mo_free 11 = .ok (.ifCond .ne 5, 3) := by decide +kernel
theorem d_Mo_free_15 : decode c_Mo_free 15 = .ok (.ireturn, 1) := by decide +kernel
theorem d_Mo_free_17 : decode c_Mo_free 17 = .ok (.invokevirtual 109, 3) := by decide +kernel
theorem d_Mo_free_22 : decode c_Mo_free 22 = .ok (.getfield 27, 3) := by decide +kernel
theorem d_Mo_free_26 : decode c_Mo_free 26 = .ok (.iaload, 1) := by decide +kernel
theorem d_Mo_free_28 : decode c_Mo_free 28 = .ok (.if_icmp .eq 5, 3) := by decide +kernel
theorem d_Mo_free_32 : decode c_Mo_free 32 = .ok (.ireturn, 1) := by decide +kernel
theorem d_Mo_free_35 : decode c_Mo_free 35 = .ok (.invokevirtual 117, 3) := by decide +kernel
theorem d_Mo_free_39 : decode c_Mo_free 39 = .ok (.getfield 27, 3) := by decide +kernel
theorem d_Mo_free_43 : decode c_Mo_free 43 = .ok (.iaload, 1) := by decide +kernel
theorem d_Mo_free_44 : decode c_Mo_free 44 = .ok (.ifCond .ge 8, 3) := by decide +kernel
theorem d_Mo_free_53 : decode c_Mo_free 53 = .ok (.getfield 27, 3) := by decide +kernel
theorem d_Mo_free_57 : decode c_Mo_free 57 = .ok (.iaload, 1) := by decide +kernel
theorem d_Mo_free_58 : decode c_Mo_free 58 = .ok (.ireturn, 1) := by decide +kernel
theorem s_Mo_end_0 : dsq c_Mo_end 0 [(.aload_n 0, 1, 0)] 1 = true := by decide +kernel
theorem s_Mo_end_4 : dsq c_Mo_end 4 [(.iload_n 1, 1, 0)] 5 = true := by decide +kernel
theorem s_Mo_end_9 : dsq c_Mo_end 9 [(.aload_n 0, 1, 0)] 10 = true := by decide +kernel
theorem s_Mo_end_13 : dsq c_Mo_end 13 [(.iload_n 1, 1, 0), (.iconst (-1), 1, (-1))] 15 = true := by decide +kernel
theorem s_Mo_end_16 : dsq c_Mo_end 16 [(.aload_n 0, 1, 0), (.iload_n 1, 1, 0), (.iconst 4, 1, 4)] 19 = true := by decide +kernel
theorem s_Mo_end_23 : dsq c_Mo_end 23 [(.aload_n 0, 1, 0)] 24 = true := by decide +kernel
theorem s_Mo_end_27 : dsq c_Mo_end 27 [(.iload_n 1, 1, 0), (.aload_n 0, 1, 0)] 29 = true := by decide +kernel
theorem s_Mo_end_32 : dsq c_Mo_end 32 [(.iconst 5, 1, 5), (.iload_n 1, 1, 0), (.imul, 1, 0)] 35 = true := by decide +kernel
theorem s_Mo_end_37 : dsq c_Mo_end 37 [(.aload_n 0, 1, 0)] 38 = true := by decide +kernel
theorem s_Mo_end_41 : dsq c_Mo_end 41 [(.iload_n 1, 1, 0), (.aload_n 0, 1, 0)] 43 = true := by decide +kernel
theorem s_Mo_end_46 : dsq c_Mo_end 46 [(.aload_n 0, 1, 0)] 47 = true := by decide +kernel
theorem s_Mo_end_50 : dsq c_Mo_end 50 [(.iconst 5, 1, 5), (.iload_n 1, 1, 0), (.imul, 1, 0)] 53 = true := by decide +kernel
theorem s_Mo_end_54 : dsq c_Mo_end 54 [(.iadd, 1, 0)] 55 = true := by decide +kernel
theorem s_Mo_end_56 : dsq c_Mo_end 56 [(.aload_n 0, 1, 0)] 57 = true := by decide +kernel
theorem s_Mo_end_60 : dsq c_Mo_end 60 [(.aload_n 0, 1, 0), (.dup, 1, 0)] 62 = true := by decide +kernel
theorem s_Mo_end_65 : dsq c_Mo_end 65 [(.dup_x1, 1, 0), (.iconst 1, 1, 1), (.iadd, 1, 0)] 68 = true := by decide +kernel
theorem s_Mo_end_71 : dsq c_Mo_end 71 [(.aload_n 0, 1, 0)] 72 = true := by decide +kernel
theorem s_Mo_end_75 : dsq c_Mo_end 75 [(.aload_n 0, 1, 0)] 76 = true := by decide +kernel
theorem s_Mo_end_79 : dsq c_Mo_end 79 [(.iconst 5, 1, 5), (.iload_n 1, 1, 0), (.imul, 1, 0)] 82 = true := by decide +kernel
theorem s_Mo_end_83 : dsq c_Mo_end 83 [(.isub, 1, 0)] 84 = true := by decide +kernel
theorem s_Mo_end_85 : dsq c_Mo_end 85 [(.aload_n 0, 1, 0), (.iload_n 1, 1, 0), (.iconst 0, 1, 0)] 88 = true := by decide +kernel
theorem s_Mo_end_91 : dsq c_Mo_end 91 [(.aload_n 0, 1, 0), (.iload_n 1, 1, 0), (.iconst 2, 1, 2)] 94 = true := by decide +kernel
theorem d_Mo_end_1 : decode c_Mo_end 1 = .ok (.getfield 33, 3) := by decide +kernel
theorem d_Mo_end_5 : decode c_Mo_end 5 = .ok (.iaload, 1) := by decide +kernel
theorem d_Mo_end_6 : decode c_Mo_end 6 = .ok (.ifCond .ne 17, 3) := by decide +kernel
theorem d_Mo_end_10 : decode c_Mo_end 10 = .ok (.getfield 27, 3) := by decide +kernel
theorem d_Mo_end_15 : decode c_Mo_end 15 = .ok (.iastore, 1) := by decide +kernel
theorem d_Mo_end_19 : decode c_Mo_end 19 = .ok (.invokevirtual 92, 3) := by decide +kernel
theorem d_Mo_end_22 : decode c_Mo_end 22 = .ok (.return_, 1) := by decide +kernel
theorem d_Mo_end_24 : decode c_Mo_end 24 = .ok (.getfield 27, 3) := by decide +kernel
theorem d_Mo_end_29 : decode c_Mo_end 29 = .ok (.getfield 36, 3) := by decide +kernel
theorem d_Mo_end_35 : decode c_Mo_end 35 = .ok (.iaload, 1) := by decide +kernel
theorem d_Mo_end_36 : decode c_Mo_end 36 = .ok (.iastore, 1) := by decide +kernel
theorem d_Mo_end_38 : decode c_Mo_end 38 = .ok (.getfield 30, 3) := by decide +kernel
theorem d_Mo_end_43 : decode c_Mo_end 43 = .ok (.getfield 96, 3) := by decide +kernel
theorem d_Mo_end_47 : decode c_Mo_end 47 = .ok (.getfield 39, 3) := by decide +kernel
theorem d_Mo_end_53 : decode c_Mo_end 53 = .ok (.iaload, 1) := by decide +kernel
theorem d_Mo_end_55 : decode c_Mo_end 55 = .ok (.iastore, 1) := by decide +kernel
theorem d_Mo_end_57 : decode c_Mo_end 57 = .ok (.getfield 45, 3) := by decide +kernel
theorem d_Mo_end_62 : decode c_Mo_end 62 = .ok (.getfield 99, 3) := by decide +kernel
theorem d_Mo_end_68 : decode c_Mo_end 68 = .ok (.putfield 99, 3) := by decide +kernel
theorem d_Mo_end_72 : decode c_Mo_end 72 = .ok (.getfield 96, 3) := by decide +kernel
theorem d_Mo_end_76 : decode c_Mo_end 76 = .ok (.getfield 42, 3) := by decide +kernel
theorem d_Mo_end_82 : decode c_Mo_end 82 = .ok (.iaload, 1) := by decide +kernel
theorem d_Mo_end_84 : decode c_Mo_end 84 = .ok (.iastore, 1) := by decide +kernel
theorem d_Mo_end_88 : decode c_Mo_end 88 = .ok (.invokevirtual 102, 3) := by decide +kernel
theorem d_Mo_end_94 : decode c_Mo_end 94 = .ok (.invokevirtual 92, 3) := by decide +kernel
theorem d_Mo_end_97 : decode c_Mo_end 97 = .ok (.return_, 1) := by decide +kernel
theorem s_Mo_out_0 : dsq c_Mo_out 0 [(.aload_n 0, 1, 0)] 1 = true := by decide +kernel
theorem s_Mo_out_4 : dsq c_Mo_out 4 [(.iload_n 1, 1, 0), (.dup2, 1, 0)] 6 = true := by decide +kernel
theorem s_Mo_out_7 : dsq c_Mo_out 7 [(.iconst 1, 1, 1), (.isub, 1, 0)] 9 = true := by decide +kernel
theorem s_Mo_out_10 : dsq c_Mo_out 10 [(.iconst 5, 1, 5), (.iload_n 1, 1, 0), (.imul, 1, 0), (.iload_n 2, 1, 0), (.iadd, 1, 0), (.istore_n 3, 1, 0)] 16 = true := by decide +kernel
theorem s_Mo_out_16 : dsq c_Mo_out 16 [(.iload_n 3, 1, 0), (.iconst 5, 1, 5), (.iload_n 1, 1, 0), (.imul, 1, 0), (.aload_n 0, 1, 0)] 21 = true := by decide +kernel
theorem s_Mo_out_24 : dsq c_Mo_out 24 [(.iload_n 1, 1, 0)] 25 = true := by decide +kernel
theorem s_Mo_out_26 : dsq c_Mo_out 26 [(.iadd, 1, 0)] 27 = true := by decide +kernel
theorem s_Mo_out_30 : dsq c_Mo_out 30 [(.aload_n 0, 1, 0)] 31 = true := by decide +kernel
theorem s_Mo_out_34 : dsq c_Mo_out 34 [(.iload_n 3, 1, 0), (.aload_n 0, 1, 0)] 36 = true := by decide +kernel
theorem s_Mo_out_39 : dsq c_Mo_out 39 [(.iload_n 3, 1, 0), (.iconst 1, 1, 1), (.iadd, 1, 0)] 42 = true := by decide +kernel
theorem s_Mo_out_44 : dsq c_Mo_out 44 [(.aload_n 0, 1, 0)] 45 = true := by decide +kernel
theorem s_Mo_out_48 : dsq c_Mo_out 48 [(.iload_n 3, 1, 0), (.aload_n 0, 1, 0)] 50 = true := by decide +kernel
theorem s_Mo_out_53 : dsq c_Mo_out 53 [(.iload_n 3, 1, 0), (.iconst 1, 1, 1), (.iadd, 1, 0)] 56 = true := by decide +kernel
theorem s_Mo_out_58 : dsq c_Mo_out 58 [(.aload_n 0, 1, 0)] 59 = true := by decide +kernel
theorem s_Mo_out_62 : dsq c_Mo_out 62 [(.iload_n 3, 1, 0), (.aload_n 0, 1, 0)] 64 = true := by decide +kernel
theorem s_Mo_out_67 : dsq c_Mo_out 67 [(.iload_n 3, 1, 0), (.iconst 1, 1, 1), (.iadd, 1, 0)] 70 = true := by decide +kernel
theorem s_Mo_out_72 : dsq c_Mo_out 72 [(.iinc 3 1, 3, 1), (.goto (-59), 3, 0)] 16 = true := by decide +kernel
theorem d_Mo_out_1 : decode c_Mo_out 1 = .ok (.getfield 33, 3) := by decide +kernel
theorem d_Mo_out_6 : decode c_Mo_out 6 = .ok (.iaload, 1) := by decide +kernel
theorem d_Mo_out_9 : decode c_Mo_out 9 = .ok (.iastore, 1) := by decide +kernel
theorem d_Mo_out_21 : decode c_Mo_out 21 = .ok (.getfield 33, 3) := by decide +kernel
theorem d_Mo_out_25 : decode c_Mo_out 25 = .ok (.iaload, 1) := by decide +kernel
theorem d_Mo_out_27 : decode c_Mo_out 27 = .ok (.if_icmp .ge 51, 3) := by decide +kernel
theorem d_Mo_out_31 : decode c_Mo_out 31 = .ok (.getfield 36, 3) := by decide +kernel
theorem d_Mo_out_36 : decode c_Mo_out 36 = .ok (.getfield 36, 3) := by decide +kernel
theorem d_Mo_out_42 : decode c_Mo_out 42 = .ok (.iaload, 1) := by decide +kernel
theorem d_Mo_out_43 : decode c_Mo_out 43 = .ok (.iastore, 1) := by decide +kernel
theorem d_Mo_out_45 : decode c_Mo_out 45 = .ok (.getfield 39, 3) := by decide +kernel
theorem d_Mo_out_50 : decode c_Mo_out 50 = .ok (.getfield 39, 3) := by decide +kernel
theorem d_Mo_out_56 : decode c_Mo_out 56 = .ok (.iaload, 1) := by decide +kernel
theorem d_Mo_out_57 : decode c_Mo_out 57 = .ok (.iastore, 1) := by decide +kernel
theorem d_Mo_out_59 : decode c_Mo_out 59 = .ok (.getfield 42, 3) := by decide +kernel
theorem d_Mo_out_64 : decode c_Mo_out 64 = .ok (.getfield 42, 3) := by decide +kernel
theorem d_Mo_out_70 : decode c_Mo_out 70 = .ok (.iaload, 1) := by decide +kernel
theorem d_Mo_out_71 : decode c_Mo_out 71 = .ok (.iastore, 1) := by decide +kernel
theorem d_Mo_out_78 : decode c_Mo_out 78 = .ok (.return_, 1) := by decide +kernel
theorem s_Mo_renew_0 : dsq c_Mo_renew 0 [(.aload_n 0, 1, 0)] 1 = true := by decide +kernel
theorem s_Mo_renew_7 : dsq c_Mo_renew 7 [(.iload_n 1, 1, 0)] 8 = true := by decide +kernel
theorem s_Mo_renew_14 : dsq c_Mo_renew 14 [(.iload_n 2, 1, 0), (.iconst 1, 1, 1)] 16 = true := by decide +kernel
theorem s_Mo_renew_19 : dsq c_Mo_renew 19 [(.iload_n 2, 1, 0), (.bipush 100, 2, 100)] 22 = true := by decide +kernel
theorem s_Mo_renew_25 : dsq c_Mo_renew 25 [(.iconst (-1), 1, (-1))] 26 = true := by decide +kernel
theorem s_Mo_renew_27 : dsq c_Mo_renew 27 [(.aload_n 0, 1, 0)] 28 = true := by decide +kernel
theorem s_Mo_renew_31 : dsq c_Mo_renew 31 [(.istore_n 3, 1, 0), (.aload_n 0, 1, 0)] 33 = true := by decide +kernel
theorem s_Mo_renew_36 : dsq c_Mo_renew 36 [(.iload_n 3, 1, 0)] 37 = true := by decide +kernel
theorem s_Mo_renew_38 : dsq c_Mo_renew 38 [(.iload_n 1, 1, 0)] 39 = true := by decide +kernel
theorem s_Mo_renew_42 : dsq c_Mo_renew 42 [(.iconst (-1), 1, (-1))] 43 = true := by decide +kernel
theorem s_Mo_renew_44 : dsq c_Mo_renew 44 [(.aload_n 0, 1, 0)] 45 = true := by decide +kernel
theorem s_Mo_renew_48 : dsq c_Mo_renew 48 [(.iload_n 3, 1, 0), (.aload_n 0, 1, 0)] 50 = true := by decide +kernel
theorem s_Mo_renew_53 : dsq c_Mo_renew 53 [(.iload_n 2, 1, 0), (.iadd, 1, 0)] 55 = true := by decide +kernel
theorem s_Mo_renew_56 : dsq c_Mo_renew 56 [(.aload_n 0, 1, 0), (.iload_n 3, 1, 0), (.iconst 3, 1, 3)] 59 = true := by decide +kernel
theorem s_Mo_renew_62 : dsq c_Mo_renew 62 [(.aload_n 0, 1, 0)] 63 = true := by decide +kernel
theorem s_Mo_renew_66 : dsq c_Mo_renew 66 [(.iload_n 3, 1, 0)] 67 = true := by decide +kernel
theorem d_Mo_renew_1 : decode c_Mo_renew 1 = .ok (.getfield 75, 3) := by decide +kernel
theorem d_Mo_renew_4 : decode c_Mo_renew 4 = .ok (.ifCond .eq 21, 3) := by decide +kernel
theorem d_Mo_renew_8 : decode c_Mo_renew 8 = .ok (.invokestatic 105, 3) := by decide +kernel
theorem d_Mo_renew_11 : decode c_Mo_renew 11 = .ok (.ifCond .eq 14, 3) := by decide +kernel
theorem d_Mo_renew_16 : decode c_Mo_renew 16 = .ok (.if_icmp .lt 9, 3) := by decide +kernel
theorem d_Mo_renew_22 : decode c_Mo_renew 22 = .ok (.if_icmp .le 5, 3) := by decide +kernel
theorem d_Mo_renew_26 : decode c_Mo_renew 26 = .ok (.ireturn, 1) := by decide +kernel
theorem d_Mo_renew_28 : decode c_Mo_renew 28 = .ok (.invokevirtual 109, 3) := by decide +kernel
theorem d_Mo_renew_33 : decode c_Mo_renew 33 = .ok (.getfield 27, 3) := by decide +kernel
theorem d_Mo_renew_37 : decode c_Mo_renew 37 = .ok (.iaload, 1) := by decide +kernel
theorem d_Mo_renew_39 : decode c_Mo_renew 39 = .ok (.if_icmp .eq 5, 3) := by decide +kernel
theorem d_Mo_renew_43 : decode c_Mo_renew 43 = .ok (.ireturn, 1) := by decide +kernel
theorem d_Mo_renew_45 : decode c_Mo_renew 45 = .ok (.getfield 30, 3) := by decide +kernel
theorem d_Mo_renew_50 : decode c_Mo_renew 50 = .ok (.getfield 96, 3) := by decide +kernel
theorem d_Mo_renew_55 : decode c_Mo_renew 55 = .ok (.iastore, 1) := by decide +kernel
theorem d_Mo_renew_59 : decode c_Mo_renew 59 = .ok (.invokevirtual 92, 3) := by decide +kernel
theorem d_Mo_renew_63 : decode c_Mo_renew 63 = .ok (.getfield 30, 3) := by decide +kernel
theorem d_Mo_renew_67 : decode c_Mo_renew 67 = .ok (.iaload, 1) := by decide +kernel
theorem d_Mo_renew_68 : decode c_Mo_renew 68 = .ok (.ireturn, 1) := by decide +kernel
theorem s_Mo_leave_0 : dsq c_Mo_leave 0 [(.aload_n 0, 1, 0)] 1 = true := by decide +kernel
theorem s_Mo_leave_7 : dsq c_Mo_leave 7 [(.iload_n 1, 1, 0)] 8 = true := by decide +kernel
theorem s_Mo_leave_14 : dsq c_Mo_leave 14 [(.iconst (-1), 1, (-1))] 15 = true := by decide +kernel
theorem s_Mo_leave_16 : dsq c_Mo_leave 16 [(.aload_n 0, 1, 0)] 17 = true := by decide +kernel
theorem s_Mo_leave_20 : dsq c_Mo_leave 20 [(.istore_n 2, 1, 0), (.aload_n 0, 1, 0), (.iload_n 2, 1, 0), (.iload_n 1, 1, 0)] 24 = true := by decide +kernel
theorem s_Mo_leave_27 : dsq c_Mo_leave 27 [(.istore_n 3, 1, 0), (.iload_n 3, 1, 0)] 29 = true := by decide +kernel
theorem s_Mo_leave_32 : dsq c_Mo_leave 32 [(.bipush (-2), 2, (-2))] 34 = true := by decide +kernel
theorem s_Mo_leave_35 : dsq c_Mo_leave 35 [(.aload_n 0, 1, 0), (.iload_n 2, 1, 0), (.iload_n 3, 1, 0)] 38 = true := by decide +kernel
theorem s_Mo_leave_41 : dsq c_Mo_leave 41 [(.aload_n 0, 1, 0)] 42 = true := by decide +kernel
theorem s_Mo_leave_45 : dsq c_Mo_leave 45 [(.iload_n 2, 1, 0)] 46 = true := by decide +kernel
theorem d_Mo_leave_1 : decode c_Mo_leave 1 = .ok (.getfield 75, 3) := by decide +kernel
theorem d_Mo_leave_4 : decode c_Mo_leave 4 = .ok (.ifCond .eq 10, 3) := by decide +kernel
theorem d_Mo_leave_8 : decode c_Mo_leave 8 = .ok (.invokestatic 105, 3) := by decide +kernel
theorem d_Mo_leave_11 : decode c_Mo_leave 11 = .ok (.ifCond .ne 5, 3) := by decide +kernel
theorem d_Mo_leave_15 : decode c_Mo_leave 15 = .ok (.ireturn, 1) := by decide +kernel
theorem d_Mo_leave_17 : decode c_Mo_leave 17 = .ok (.invokevirtual 109, 3) := by decide +kernel
theorem d_Mo_leave_24 : decode c_Mo_leave 24 = .ok (.invokevirtual 113, 3) := by decide +kernel
theorem d_Mo_leave_29 : decode c_Mo_leave 29 = .ok (.ifCond .ge 6, 3) := by decide +kernel
theorem d_Mo_leave_34 : decode c_Mo_leave 34 = .ok (.ireturn, 1) := by decide +kernel
theorem d_Mo_leave_38 : decode c_Mo_leave 38 = .ok (.invokevirtual 102, 3) := by decide +kernel
theorem d_Mo_leave_42 : decode c_Mo_leave 42 = .ok (.getfield 33, 3) := by decide +kernel
theorem d_Mo_leave_46 : decode c_Mo_leave 46 = .ok (.iaload, 1) := by decide +kernel
theorem d_Mo_leave_47 : decode c_Mo_leave 47 = .ok (.ireturn, 1) := by decide +kernel
theorem s_Mo_tick_0 : dsq c_Mo_tick 0 [(.iload_n 1, 1, 0)] 1 = true := by decide +kernel
theorem s_Mo_tick_4 : dsq c_Mo_tick 4 [(.iload_n 1, 1, 0), (.bipush 60, 2, 60)] 7 = true := by decide +kernel
theorem s_Mo_tick_10 : dsq c_Mo_tick 10 [(.iconst (-1), 1, (-1))] 11 = true := by decide +kernel
theorem s_Mo_tick_12 : dsq c_Mo_tick 12 [(.iconst 0, 1, 0), (.istore_n 2, 1, 0), (.iconst 0, 1, 0), (.istore_n 3, 1, 0)] 16 = true := by decide +kernel
theorem s_Mo_tick_16 : dsq c_Mo_tick 16 [(.iload_n 3, 1, 0), (.iload_n 1, 1, 0)] 18 = true := by decide +kernel
theorem s_Mo_tick_21 : dsq c_Mo_tick 21 [(.aload_n 0, 1, 0), (.dup, 1, 0)] 23 = true := by decide +kernel
theorem s_Mo_tick_26 : dsq c_Mo_tick 26 [(.iconst 1, 1, 1), (.iadd, 1, 0)] 28 = true := by decide +kernel
theorem s_Mo_tick_31 : dsq c_Mo_tick 31 [(.aload_n 0, 1, 0)] 32 = true := by decide +kernel
theorem s_Mo_tick_35 : dsq c_Mo_tick 35 [(.istore 4, 2, 0)] 37 = true := by decide +kernel
theorem s_Mo_tick_37 : dsq c_Mo_tick 37 [(.iload 4, 2, 0)] 39 = true := by decide +kernel
theorem s_Mo_tick_42 : dsq c_Mo_tick 42 [(.aload_n 0, 1, 0), (.iload 4, 2, 0)] 45 = true := by decide +kernel
theorem s_Mo_tick_48 : dsq c_Mo_tick 48 [(.iinc 2 1, 3, 1), (.aload_n 0, 1, 0)] 52 = true := by decide +kernel
theorem s_Mo_tick_55 : dsq c_Mo_tick 55 [(.istore 4, 2, 0), (.goto (-20), 3, 0)] 37 = true := by decide +kernel
theorem s_Mo_tick_60 : dsq c_Mo_tick 60 [(.iinc 3 1, 3, 1), (.goto (-47), 3, 0)] 16 = true := by decide +kernel
theorem s_Mo_tick_66 : dsq c_Mo_tick 66 [(.iload_n 2, 1, 0)] 67 = true := by decide +kernel
theorem d_Mo_tick_1 : decode c_Mo_tick 1 = .ok (.ifCond .lt 9, 3) := by decide +kernel
theorem d_Mo_tick_7 : decode c_Mo_tick 7 = .ok (.if_icmp .le 5, 3) := by decide +kernel
theorem d_Mo_tick_11 : decode c_Mo_tick 11 = .ok (.ireturn, 1) := by decide +kernel
theorem d_Mo_tick_18 : decode c_Mo_tick 18 = .ok (.if_icmp .ge 48, 3) := by decide +kernel
theorem d_Mo_tick_23 : decode c_Mo_tick 23 = .ok (.getfield 96, 3) := by decide +kernel
theorem d_Mo_tick_28 : decode c_Mo_tick 28 = .ok (.putfield 96, 3) := by decide +kernel
theorem d_Mo_tick_32 : decode c_Mo_tick 32 = .ok (.invokevirtual 120, 3) := by decide +kernel
theorem d_Mo_tick_39 : decode c_Mo_tick 39 = .ok (.ifCond .lt 21, 3) := by decide +kernel
theorem d_Mo_tick_45 : decode c_Mo_tick 45 = .ok (.invokevirtual 117, 3) := by decide +kernel
theorem d_Mo_tick_52 : decode c_Mo_tick 52 = .ok (.invokevirtual 120, 3) := by decide +kernel
theorem d_Mo_tick_67 : decode c_Mo_tick 67 = .ok (.ireturn, 1) := by decide +kernel
theorem s_Mo_next_0 : dsq c_Mo_next 0 [(.iconst (-1), 1, (-1)), (.istore_n 1, 1, 0), (.iconst 0, 1, 0), (.istore_n 2, 1, 0)] 4 = true := by decide +kernel
theorem s_Mo_next_4 : dsq c_Mo_next 4 [(.iload_n 2, 1, 0), (.aload_n 0, 1, 0)] 6 = true := by decide +kernel
theorem s_Mo_next_12 : dsq c_Mo_next 12 [(.aload_n 0, 1, 0)] 13 = true := by decide +kernel
theorem s_Mo_next_16 : dsq c_Mo_next 16 [(.iload_n 2, 1, 0)] 17 = true := by decide +kernel
theorem s_Mo_next_21 : dsq c_Mo_next 21 [(.aload_n 0, 1, 0)] 22 = true := by decide +kernel
theorem s_Mo_next_25 : dsq c_Mo_next 25 [(.iload_n 2, 1, 0)] 26 = true := by decide +kernel
theorem s_Mo_next_27 : dsq c_Mo_next 27 [(.aload_n 0, 1, 0)] 28 = true := by decide +kernel
theorem s_Mo_next_34 : dsq c_Mo_next 34 [(.iload_n 1, 1, 0)] 35 = true := by decide +kernel
theorem s_Mo_next_38 : dsq c_Mo_next 38 [(.aload_n 0, 1, 0)] 39 = true := by decide +kernel
theorem s_Mo_next_42 : dsq c_Mo_next 42 [(.iload_n 2, 1, 0)] 43 = true := by decide +kernel
theorem s_Mo_next_44 : dsq c_Mo_next 44 [(.aload_n 0, 1, 0)] 45 = true := by decide +kernel
theorem s_Mo_next_48 : dsq c_Mo_next 48 [(.iload_n 1, 1, 0)] 49 = true := by decide +kernel
theorem s_Mo_next_54 : dsq c_Mo_next 54 [(.iload_n 2, 1, 0), (.istore_n 1, 1, 0), (.iinc 2 1, 3, 1), (.goto (-55), 3, 0)] 4 = true := by decide +kernel
theorem s_Mo_next_56 : dsq c_Mo_next 56 [(.iinc 2 1, 3, 1), (.goto (-55), 3, 0)] 4 = true := by decide +kernel
theorem s_Mo_next_62 : dsq c_Mo_next 62 [(.iload_n 1, 1, 0)] 63 = true := by decide +kernel
theorem d_Mo_next_6 : decode c_Mo_next 6 = .ok (.getfield 85, 3) := by decide +kernel
theorem d_Mo_next_9 : decode c_Mo_next 9 = .ok (.if_icmp .ge 53, 3) := by decide +kernel
theorem d_Mo_next_13 : decode c_Mo_next 13 = .ok (.getfield 27, 3) := by decide +kernel
theorem d_Mo_next_17 : decode c_Mo_next 17 = .ok (.iaload, 1) := by decide +kernel
theorem d_Mo_next_18 : decode c_Mo_next 18 = .ok (.ifCond .lt 38, 3) := by decide +kernel
theorem d_Mo_next_22 : decode c_Mo_next 22 = .ok (.getfield 30, 3) := by decide +kernel
theorem d_Mo_next_26 : decode c_Mo_next 26 = .ok (.iaload, 1) := by decide +kernel
theorem d_Mo_next_28 : decode c_Mo_next 28 = .ok (.getfield 96, 3) := by decide +kernel
theorem d_Mo_next_31 : decode c_Mo_next 31 = .ok (.if_icmp .gt 25, 3) := by decide +kernel
theorem d_Mo_next_35 : decode c_Mo_next 35 = .ok (.ifCond .lt 19, 3) := by decide +kernel
theorem d_Mo_next_39 : decode c_Mo_next 39 = .ok (.getfield 13, 3) := by decide +kernel
theorem d_Mo_next_43 : decode c_Mo_next 43 = .ok (.laload, 1) := by decide +kernel
theorem d_Mo_next_45 : decode c_Mo_next 45 = .ok (.getfield 13, 3) := by decide +kernel
theorem d_Mo_next_49 : decode c_Mo_next 49 = .ok (.laload, 1) := by decide +kernel
theorem d_Mo_next_50 : decode c_Mo_next 50 = .ok (.lcmp, 1) := by decide +kernel
theorem d_Mo_next_51 : decode c_Mo_next 51 = .ok (.ifCond .ge 5, 3) := by decide +kernel
theorem d_Mo_next_63 : decode c_Mo_next 63 = .ok (.ireturn, 1) := by decide +kernel
theorem s_Mo_holder_0 : dsq c_Mo_holder 0 [(.aload_n 0, 1, 0)] 1 = true := by decide +kernel
theorem s_Mo_holder_7 : dsq c_Mo_holder 7 [(.iconst (-1), 1, (-1))] 8 = true := by decide +kernel
theorem s_Mo_holder_9 : dsq c_Mo_holder 9 [(.aload_n 0, 1, 0)] 10 = true := by decide +kernel
theorem s_Mo_holder_13 : dsq c_Mo_holder 13 [(.istore_n 1, 1, 0), (.aload_n 0, 1, 0)] 15 = true := by decide +kernel
theorem s_Mo_holder_18 : dsq c_Mo_holder 18 [(.iload_n 1, 1, 0)] 19 = true := by decide +kernel
theorem s_Mo_holder_23 : dsq c_Mo_holder 23 [(.bipush (-2), 2, (-2)), (.goto 9, 3, 0)] 34 = true := by decide +kernel
theorem s_Mo_holder_28 : dsq c_Mo_holder 28 [(.aload_n 0, 1, 0)] 29 = true := by decide +kernel
theorem s_Mo_holder_32 : dsq c_Mo_holder 32 [(.iload_n 1, 1, 0)] 33 = true := by decide +kernel
theorem d_Mo_holder_1 : decode c_Mo_holder 1 = .ok (.getfield 75, 3) := by decide +kernel
theorem d_Mo_holder_4 : decode c_Mo_holder 4 = .ok (.ifCond .ne 5, 3) := by decide +kernel
theorem d_Mo_holder_8 : decode c_Mo_holder 8 = .ok (.ireturn, 1) := by decide +kernel
theorem d_Mo_holder_10 : decode c_Mo_holder 10 = .ok (.invokevirtual 109, 3) := by decide +kernel
theorem d_Mo_holder_15 : decode c_Mo_holder 15 = .ok (.getfield 27, 3) := by decide +kernel
theorem d_Mo_holder_19 : decode c_Mo_holder 19 = .ok (.iaload, 1) := by decide +kernel
theorem d_Mo_holder_20 : decode c_Mo_holder 20 = .ok (.ifCond .ge 8, 3) := by decide +kernel
theorem d_Mo_holder_29 : decode c_Mo_holder 29 = .ok (.getfield 27, 3) := by decide +kernel
theorem d_Mo_holder_33 : decode c_Mo_holder 33 = .ok (.iaload, 1) := by decide +kernel
theorem d_Mo_holder_34 : decode c_Mo_holder 34 = .ok (.ireturn, 1) := by decide +kernel
theorem s_Mo_left_0 : dsq c_Mo_left 0 [(.aload_n 0, 1, 0)] 1 = true := by decide +kernel
theorem s_Mo_left_7 : dsq c_Mo_left 7 [(.iconst (-1), 1, (-1))] 8 = true := by decide +kernel
theorem s_Mo_left_9 : dsq c_Mo_left 9 [(.aload_n 0, 1, 0)] 10 = true := by decide +kernel
theorem s_Mo_left_13 : dsq c_Mo_left 13 [(.istore_n 1, 1, 0), (.aload_n 0, 1, 0)] 15 = true := by decide +kernel
theorem s_Mo_left_18 : dsq c_Mo_left 18 [(.iload_n 1, 1, 0)] 19 = true := by decide +kernel
theorem s_Mo_left_23 : dsq c_Mo_left 23 [(.bipush (-2), 2, (-2)), (.goto 14, 3, 0)] 39 = true := by decide +kernel
theorem s_Mo_left_28 : dsq c_Mo_left 28 [(.aload_n 0, 1, 0)] 29 = true := by decide +kernel
theorem s_Mo_left_32 : dsq c_Mo_left 32 [(.iload_n 1, 1, 0)] 33 = true := by decide +kernel
theorem s_Mo_left_34 : dsq c_Mo_left 34 [(.aload_n 0, 1, 0)] 35 = true := by decide +kernel
theorem s_Mo_left_38 : dsq c_Mo_left 38 [(.isub, 1, 0)] 39 = true := by decide +kernel
theorem d_Mo_left_1 : decode c_Mo_left 1 = .ok (.getfield 75, 3) := by decide +kernel
theorem d_Mo_left_4 : decode c_Mo_left 4 = .ok (.ifCond .ne 5, 3) := by decide +kernel
theorem d_Mo_left_8 : decode c_Mo_left 8 = .ok (.ireturn, 1) := by decide +kernel
theorem d_Mo_left_10 : decode c_Mo_left 10 = .ok (.invokevirtual 109, 3) := by decide +kernel
theorem d_Mo_left_15 : decode c_Mo_left 15 = .ok (.getfield 27, 3) := by decide +kernel
theorem d_Mo_left_19 : decode c_Mo_left 19 = .ok (.iaload, 1) := by decide +kernel
theorem d_Mo_left_20 : decode c_Mo_left 20 = .ok (.ifCond .ge 8, 3) := by decide +kernel
theorem d_Mo_left_29 : decode c_Mo_left 29 = .ok (.getfield 30, 3) := by decide +kernel
theorem d_Mo_left_33 : decode c_Mo_left 33 = .ok (.iaload, 1) := by decide +kernel
theorem d_Mo_left_35 : decode c_Mo_left 35 = .ok (.getfield 96, 3) := by decide +kernel
theorem d_Mo_left_39 : decode c_Mo_left 39 = .ok (.ireturn, 1) := by decide +kernel
theorem s_Mo_waiting_0 : dsq c_Mo_waiting 0 [(.aload_n 0, 1, 0)] 1 = true := by decide +kernel
theorem s_Mo_waiting_7 : dsq c_Mo_waiting 7 [(.iconst (-1), 1, (-1))] 8 = true := by decide +kernel
theorem s_Mo_waiting_9 : dsq c_Mo_waiting 9 [(.aload_n 0, 1, 0)] 10 = true := by decide +kernel
theorem s_Mo_waiting_13 : dsq c_Mo_waiting 13 [(.istore_n 2, 1, 0), (.iload_n 1, 1, 0)] 15 = true := by decide +kernel
theorem s_Mo_waiting_18 : dsq c_Mo_waiting 18 [(.iload_n 1, 1, 0), (.aload_n 0, 1, 0)] 20 = true := by decide +kernel
theorem s_Mo_waiting_23 : dsq c_Mo_waiting 23 [(.iload_n 2, 1, 0)] 24 = true := by decide +kernel
theorem s_Mo_waiting_28 : dsq c_Mo_waiting 28 [(.bipush (-2), 2, (-2)), (.goto 13, 3, 0)] 43 = true := by decide +kernel
theorem s_Mo_waiting_33 : dsq c_Mo_waiting 33 [(.aload_n 0, 1, 0)] 34 = true := by decide +kernel
theorem s_Mo_waiting_37 : dsq c_Mo_waiting 37 [(.iconst 5, 1, 5), (.iload_n 2, 1, 0), (.imul, 1, 0), (.iload_n 1, 1, 0), (.iadd, 1, 0)] 42 = true := by decide +kernel
theorem d_Mo_waiting_1 : decode c_Mo_waiting 1 = .ok (.getfield 75, 3) := by decide +kernel
theorem d_Mo_waiting_4 : decode c_Mo_waiting 4 = .ok (.ifCond .ne 5, 3) := by decide +kernel
theorem d_Mo_waiting_8 : decode c_Mo_waiting 8 = .ok (.ireturn, 1) := by decide +kernel
theorem d_Mo_waiting_10 : decode c_Mo_waiting 10 = .ok (.invokevirtual 109, 3) := by decide +kernel
theorem d_Mo_waiting_15 : decode c_Mo_waiting 15 = .ok (.ifCond .lt 13, 3) := by decide +kernel
theorem d_Mo_waiting_20 : decode c_Mo_waiting 20 = .ok (.getfield 33, 3) := by decide +kernel
theorem d_Mo_waiting_24 : decode c_Mo_waiting 24 = .ok (.iaload, 1) := by decide +kernel
theorem d_Mo_waiting_25 : decode c_Mo_waiting 25 = .ok (.if_icmp .lt 8, 3) := by decide +kernel
theorem d_Mo_waiting_34 : decode c_Mo_waiting 34 = .ok (.getfield 36, 3) := by decide +kernel
theorem d_Mo_waiting_42 : decode c_Mo_waiting 42 = .ok (.iaload, 1) := by decide +kernel
theorem d_Mo_waiting_43 : decode c_Mo_waiting 43 = .ok (.ireturn, 1) := by decide +kernel
theorem s_Mo_first_0 : dsq c_Mo_first 0 [(.iconst (-1), 1, (-1)), (.istore_n 1, 1, 0), (.iconst 0, 1, 0), (.istore_n 2, 1, 0)] 4 = true := by decide +kernel
theorem s_Mo_first_4 : dsq c_Mo_first 4 [(.iload_n 2, 1, 0), (.aload_n 0, 1, 0)] 6 = true := by decide +kernel
theorem s_Mo_first_12 : dsq c_Mo_first 12 [(.aload_n 0, 1, 0)] 13 = true := by decide +kernel
theorem s_Mo_first_16 : dsq c_Mo_first 16 [(.iload_n 2, 1, 0)] 17 = true := by decide +kernel
theorem s_Mo_first_21 : dsq c_Mo_first 21 [(.iload_n 1, 1, 0)] 22 = true := by decide +kernel
theorem s_Mo_first_25 : dsq c_Mo_first 25 [(.aload_n 0, 1, 0)] 26 = true := by decide +kernel
theorem s_Mo_first_29 : dsq c_Mo_first 29 [(.iload_n 2, 1, 0)] 30 = true := by decide +kernel
theorem s_Mo_first_31 : dsq c_Mo_first 31 [(.aload_n 0, 1, 0)] 32 = true := by decide +kernel
theorem s_Mo_first_35 : dsq c_Mo_first 35 [(.iload_n 1, 1, 0)] 36 = true := by decide +kernel
theorem s_Mo_first_40 : dsq c_Mo_first 40 [(.aload_n 0, 1, 0)] 41 = true := by decide +kernel
theorem s_Mo_first_44 : dsq c_Mo_first 44 [(.iload_n 2, 1, 0)] 45 = true := by decide +kernel
theorem s_Mo_first_46 : dsq c_Mo_first 46 [(.aload_n 0, 1, 0)] 47 = true := by decide +kernel
theorem s_Mo_first_50 : dsq c_Mo_first 50 [(.iload_n 1, 1, 0)] 51 = true := by decide +kernel
theorem s_Mo_first_55 : dsq c_Mo_first 55 [(.aload_n 0, 1, 0)] 56 = true := by decide +kernel
theorem s_Mo_first_59 : dsq c_Mo_first 59 [(.iload_n 2, 1, 0)] 60 = true := by decide +kernel
theorem s_Mo_first_61 : dsq c_Mo_first 61 [(.aload_n 0, 1, 0)] 62 = true := by decide +kernel
theorem s_Mo_first_65 : dsq c_Mo_first 65 [(.iload_n 1, 1, 0)] 66 = true := by decide +kernel
theorem s_Mo_first_71 : dsq c_Mo_first 71 [(.iload_n 2, 1, 0), (.istore_n 1, 1, 0), (.iinc 2 1, 3, 1), (.goto (-72), 3, 0)] 4 = true := by decide +kernel
theorem s_Mo_first_73 : dsq c_Mo_first 73 [(.iinc 2 1, 3, 1), (.goto (-72), 3, 0)] 4 = true := by decide +kernel
theorem s_Mo_first_79 : dsq c_Mo_first 79 [(.iload_n 1, 1, 0)] 80 = true := by decide +kernel
theorem s_Mo_first_83 : dsq c_Mo_first 83 [(.bipush (-2), 2, (-2))] 85 = true := by decide +kernel
theorem s_Mo_first_86 : dsq c_Mo_first 86 [(.aload_n 0, 1, 0), (.iload_n 1, 1, 0)] 88 = true := by decide +kernel
theorem s_Mo_first_91 : dsq c_Mo_first 91 [(.aload_n 0, 1, 0)] 92 = true := by decide +kernel
theorem s_Mo_first_95 : dsq c_Mo_first 95 [(.iload_n 1, 1, 0)] 96 = true := by decide +kernel
theorem d_Mo_first_6 : decode c_Mo_first 6 = .ok (.getfield 85, 3) := by decide +kernel
theorem d_Mo_first_9 : decode c_Mo_first 9 = .ok (.if_icmp .ge 70, 3) := by decide +kernel
theorem d_Mo_first_13 : decode c_Mo_first 13 = .ok (.getfield 27, 3) := by decide +kernel
theorem d_Mo_first_17 : decode c_Mo_first 17 = .ok (.iaload, 1) := by decide +kernel
theorem d_Mo_first_18 : decode c_Mo_first 18 = .ok (.ifCond .lt 55, 3) := by decide +kernel
theorem d_Mo_first_22 : decode c_Mo_first 22 = .ok (.ifCond .lt 49, 3) := by decide +kernel
theorem d_Mo_first_26 : decode c_Mo_first 26 = .ok (.getfield 30, 3) := by decide +kernel
theorem d_Mo_first_30 : decode c_Mo_first 30 = .ok (.iaload, 1) := by decide +kernel
theorem d_Mo_first_32 : decode c_Mo_first 32 = .ok (.getfield 30, 3) := by decide +kernel
theorem d_Mo_first_36 : decode c_Mo_first 36 = .ok (.iaload, 1) := by decide +kernel
theorem d_Mo_first_37 : decode c_Mo_first 37 = .ok (.if_icmp .lt 34, 3) := by decide +kernel
theorem d_Mo_first_41 : decode c_Mo_first 41 = .ok (.getfield 30, 3) := by decide +kernel
theorem d_Mo_first_45 : decode c_Mo_first 45 = .ok (.iaload, 1) := by decide +kernel
theorem d_Mo_first_47 : decode c_Mo_first 47 = .ok (.getfield 30, 3) := by decide +kernel
theorem d_Mo_first_51 : decode c_Mo_first 51 = .ok (.iaload, 1) := by decide +kernel
theorem d_Mo_first_52 : decode c_Mo_first 52 = .ok (.if_icmp .ne 21, 3) := by decide +kernel
theorem d_Mo_first_56 : decode c_Mo_first 56 = .ok (.getfield 13, 3) := by decide +kernel
theorem d_Mo_first_60 : decode c_Mo_first 60 = .ok (.laload, 1) := by decide +kernel
theorem d_Mo_first_62 : decode c_Mo_first 62 = .ok (.getfield 13, 3) := by decide +kernel
theorem d_Mo_first_66 : decode c_Mo_first 66 = .ok (.laload, 1) := by decide +kernel
theorem d_Mo_first_67 : decode c_Mo_first 67 = .ok (.lcmp, 1) := by decide +kernel
theorem d_Mo_first_68 : decode c_Mo_first 68 = .ok (.ifCond .ge 5, 3) := by decide +kernel
theorem d_Mo_first_80 : decode c_Mo_first 80 = .ok (.ifCond .ge 6, 3) := by decide +kernel
theorem d_Mo_first_85 : decode c_Mo_first 85 = .ok (.ireturn, 1) := by decide +kernel
theorem d_Mo_first_88 : decode c_Mo_first 88 = .ok (.invokevirtual 123, 3) := by decide +kernel
theorem d_Mo_first_92 : decode c_Mo_first 92 = .ok (.getfield 27, 3) := by decide +kernel
theorem d_Mo_first_96 : decode c_Mo_first 96 = .ok (.iaload, 1) := by decide +kernel
theorem d_Mo_first_97 : decode c_Mo_first 97 = .ok (.ireturn, 1) := by decide +kernel
theorem s_Mo_write_0 : dsq c_Mo_write 0 [(.aload_n 0, 1, 0)] 1 = true := by decide +kernel
theorem s_Mo_write_4 : dsq c_Mo_write 4 [(.iload_n 1, 1, 0)] 5 = true := by decide +kernel
theorem s_Mo_write_6 : dsq c_Mo_write 6 [(.lstore_n 2, 1, 0), (.iconst 5, 1, 5), (.istore 4, 2, 0)] 10 = true := by decide +kernel
theorem s_Mo_write_10 : dsq c_Mo_write 10 [(.iload 4, 2, 0)] 12 = true := by decide +kernel
theorem s_Mo_write_15 : dsq c_Mo_write 15 [(.aload_n 0, 1, 0)] 16 = true := by decide +kernel
theorem s_Mo_write_19 : dsq c_Mo_write 19 [(.iload 4, 2, 0), (.lload_n 2, 1, 0)] 22 = true := by decide +kernel
theorem s_Mo_write_26 : dsq c_Mo_write 26 [(.l2i, 1, 0)] 27 = true := by decide +kernel
theorem s_Mo_write_28 : dsq c_Mo_write 28 [(.lload_n 2, 1, 0)] 29 = true := by decide +kernel
theorem s_Mo_write_33 : dsq c_Mo_write 33 [(.lstore_n 2, 1, 0), (.iinc 4 (-1), 3, (-1)), (.goto (-27), 3, 0)] 10 = true := by decide +kernel
theorem s_Mo_write_40 : dsq c_Mo_write 40 [(.aload_n 0, 1, 0), (.lload_n 2, 1, 0), (.l2i, 1, 0)] 43 = true := by decide +kernel
theorem s_Mo_write_46 : dsq c_Mo_write 46 [(.iconst 0, 1, 0), (.istore 4, 2, 0)] 49 = true := by decide +kernel
theorem s_Mo_write_49 : dsq c_Mo_write 49 [(.iload 4, 2, 0), (.aload_n 0, 1, 0)] 52 = true := by decide +kernel
theorem s_Mo_write_58 : dsq c_Mo_write 58 [(.aload_n 0, 1, 0)] 59 = true := by decide +kernel
theorem s_Mo_write_62 : dsq c_Mo_write 62 [(.iload 4, 2, 0), (.aload_n 0, 1, 0)] 65 = true := by decide +kernel
theorem s_Mo_write_68 : dsq c_Mo_write 68 [(.iload 4, 2, 0)] 70 = true := by decide +kernel
theorem s_Mo_write_71 : dsq c_Mo_write 71 [(.bipush 96, 2, 96), (.iadd, 1, 0)] 74 = true := by decide +kernel
theorem s_Mo_write_75 : dsq c_Mo_write 75 [(.iinc 4 1, 3, 1), (.goto (-29), 3, 0)] 49 = true := by decide +kernel
theorem d_Mo_write_1 : decode c_Mo_write 1 = .ok (.getfield 13, 3) := by decide +kernel
theorem d_Mo_write_5 : decode c_Mo_write 5 = .ok (.laload, 1) := by decide +kernel
theorem d_Mo_write_12 : decode c_Mo_write 12 = .ok (.ifCond .lt 28, 3) := by decide +kernel
theorem d_Mo_write_16 : decode c_Mo_write 16 = .ok (.getfield 72, 3) := by decide +kernel
theorem d_Mo_write_22 : decode c_Mo_write 22 = .ok (.ldc2_w 79, 3) := by decide +kernel
theorem d_Mo_write_25 : decode c_Mo_write 25 = .ok (.lrem, 1) := by decide +kernel
theorem d_Mo_write_27 : decode c_Mo_write 27 = .ok (.iastore, 1) := by decide +kernel
theorem d_Mo_write_29 : decode c_Mo_write 29 = .ok (.ldc2_w 79, 3) := by decide +kernel
theorem d_Mo_write_32 : decode c_Mo_write 32 = .ok (.ldiv, 1) := by decide +kernel
theorem d_Mo_write_43 : decode c_Mo_write 43 = .ok (.putfield 75, 3) := by decide +kernel
theorem d_Mo_write_52 : decode c_Mo_write 52 = .ok (.getfield 75, 3) := by decide +kernel
theorem d_Mo_write_55 : decode c_Mo_write 55 = .ok (.if_icmp .ge 26, 3) := by decide +kernel
theorem d_Mo_write_59 : decode c_Mo_write 59 = .ok (.getfield 7, 3) := by decide +kernel
theorem d_Mo_write_65 : decode c_Mo_write 65 = .ok (.getfield 72, 3) := by decide +kernel
theorem d_Mo_write_70 : decode c_Mo_write 70 = .ok (.iaload, 1) := by decide +kernel
theorem d_Mo_write_74 : decode c_Mo_write 74 = .ok (.iastore, 1) := by decide +kernel
theorem d_Mo_write_81 : decode c_Mo_write 81 = .ok (.return_, 1) := by decide +kernel
theorem s_Mo_job_0 : dsq c_Mo_job 0 [(.aload_n 0, 1, 0)] 1 = true := by decide +kernel
theorem s_Mo_job_7 : dsq c_Mo_job 7 [(.iconst (-1), 1, (-1))] 8 = true := by decide +kernel
theorem s_Mo_job_9 : dsq c_Mo_job 9 [(.aload_n 0, 1, 0)] 10 = true := by decide +kernel
theorem s_Mo_job_13 : dsq c_Mo_job 13 [(.istore_n 3, 1, 0), (.aload_n 0, 1, 0)] 15 = true := by decide +kernel
theorem s_Mo_job_18 : dsq c_Mo_job 18 [(.bipush 30, 2, 30)] 20 = true := by decide +kernel
theorem s_Mo_job_23 : dsq c_Mo_job 23 [(.bipush (-3), 2, (-3))] 25 = true := by decide +kernel
theorem s_Mo_job_26 : dsq c_Mo_job 26 [(.aload_n 0, 1, 0)] 27 = true := by decide +kernel
theorem s_Mo_job_30 : dsq c_Mo_job 30 [(.aload_n 0, 1, 0)] 31 = true := by decide +kernel
theorem s_Mo_job_34 : dsq c_Mo_job 34 [(.iload_n 3, 1, 0)] 35 = true := by decide +kernel
theorem s_Mo_job_36 : dsq c_Mo_job 36 [(.aload_n 0, 1, 0)] 37 = true := by decide +kernel
theorem s_Mo_job_40 : dsq c_Mo_job 40 [(.aload_n 0, 1, 0)] 41 = true := by decide +kernel
theorem s_Mo_job_44 : dsq c_Mo_job 44 [(.iload_n 1, 1, 0)] 45 = true := by decide +kernel
theorem s_Mo_job_46 : dsq c_Mo_job 46 [(.aload_n 0, 1, 0)] 47 = true := by decide +kernel
theorem s_Mo_job_50 : dsq c_Mo_job 50 [(.aload_n 0, 1, 0), (.dup, 1, 0)] 52 = true := by decide +kernel
theorem s_Mo_job_55 : dsq c_Mo_job 55 [(.dup_x1, 1, 0), (.iconst 1, 1, 1), (.iadd, 1, 0)] 58 = true := by decide +kernel
theorem s_Mo_job_61 : dsq c_Mo_job 61 [(.iload_n 2, 1, 0)] 62 = true := by decide +kernel
theorem s_Mo_job_63 : dsq c_Mo_job 63 [(.aload_n 0, 1, 0)] 64 = true := by decide +kernel
theorem d_Mo_job_1 : decode c_Mo_job 1 = .ok (.getfield 75, 3) := by decide +kernel
theorem d_Mo_job_4 : decode c_Mo_job 4 = .ok (.ifCond .ne 5, 3) := by decide +kernel
theorem d_Mo_job_8 : decode c_Mo_job 8 = .ok (.ireturn, 1) := by decide +kernel
theorem d_Mo_job_10 : decode c_Mo_job 10 = .ok (.invokevirtual 109, 3) := by decide +kernel
theorem d_Mo_job_15 : decode c_Mo_job 15 = .ok (.getfield 126, 3) := by decide +kernel
theorem d_Mo_job_20 : decode c_Mo_job 20 = .ok (.if_icmp .ne 6, 3) := by decide +kernel
theorem d_Mo_job_25 : decode c_Mo_job 25 = .ok (.ireturn, 1) := by decide +kernel
theorem d_Mo_job_27 : decode c_Mo_job 27 = .ok (.getfield 48, 3) := by decide +kernel
theorem d_Mo_job_31 : decode c_Mo_job 31 = .ok (.getfield 126, 3) := by decide +kernel
theorem d_Mo_job_35 : decode c_Mo_job 35 = .ok (.iastore, 1) := by decide +kernel
theorem d_Mo_job_37 : decode c_Mo_job 37 = .ok (.getfield 51, 3) := by decide +kernel
theorem d_Mo_job_41 : decode c_Mo_job 41 = .ok (.getfield 126, 3) := by decide +kernel
theorem d_Mo_job_45 : decode c_Mo_job 45 = .ok (.iastore, 1) := by decide +kernel
theorem d_Mo_job_47 : decode c_Mo_job 47 = .ok (.getfield 54, 3) := by decide +kernel
theorem d_Mo_job_52 : decode c_Mo_job 52 = .ok (.getfield 126, 3) := by decide +kernel
theorem d_Mo_job_58 : decode c_Mo_job 58 = .ok (.putfield 126, 3) := by decide +kernel
theorem d_Mo_job_62 : decode c_Mo_job 62 = .ok (.iastore, 1) := by decide +kernel
theorem d_Mo_job_64 : decode c_Mo_job 64 = .ok (.getfield 126, 3) := by decide +kernel
theorem d_Mo_job_67 : decode c_Mo_job 67 = .ok (.ireturn, 1) := by decide +kernel
theorem s_Mo_work_0 : dsq c_Mo_work 0 [(.iconst (-1), 1, (-1)), (.istore_n 1, 1, 0), (.iconst 0, 1, 0), (.istore_n 2, 1, 0)] 4 = true := by decide +kernel
theorem s_Mo_work_4 : dsq c_Mo_work 4 [(.iload_n 2, 1, 0), (.aload_n 0, 1, 0)] 6 = true := by decide +kernel
theorem s_Mo_work_12 : dsq c_Mo_work 12 [(.iload_n 1, 1, 0)] 13 = true := by decide +kernel
theorem s_Mo_work_16 : dsq c_Mo_work 16 [(.aload_n 0, 1, 0)] 17 = true := by decide +kernel
theorem s_Mo_work_20 : dsq c_Mo_work 20 [(.iload_n 2, 1, 0)] 21 = true := by decide +kernel
theorem s_Mo_work_22 : dsq c_Mo_work 22 [(.aload_n 0, 1, 0)] 23 = true := by decide +kernel
theorem s_Mo_work_26 : dsq c_Mo_work 26 [(.iload_n 1, 1, 0)] 27 = true := by decide +kernel
theorem s_Mo_work_31 : dsq c_Mo_work 31 [(.aload_n 0, 1, 0)] 32 = true := by decide +kernel
theorem s_Mo_work_35 : dsq c_Mo_work 35 [(.iload_n 2, 1, 0)] 36 = true := by decide +kernel
theorem s_Mo_work_37 : dsq c_Mo_work 37 [(.aload_n 0, 1, 0)] 38 = true := by decide +kernel
theorem s_Mo_work_41 : dsq c_Mo_work 41 [(.iload_n 1, 1, 0)] 42 = true := by decide +kernel
theorem s_Mo_work_46 : dsq c_Mo_work 46 [(.aload_n 0, 1, 0)] 47 = true := by decide +kernel
theorem s_Mo_work_50 : dsq c_Mo_work 50 [(.iload_n 2, 1, 0)] 51 = true := by decide +kernel
theorem s_Mo_work_52 : dsq c_Mo_work 52 [(.aload_n 0, 1, 0)] 53 = true := by decide +kernel
theorem s_Mo_work_56 : dsq c_Mo_work 56 [(.iload_n 1, 1, 0)] 57 = true := by decide +kernel
theorem s_Mo_work_61 : dsq c_Mo_work 61 [(.iload_n 2, 1, 0), (.istore_n 1, 1, 0), (.iinc 2 1, 3, 1), (.goto (-62), 3, 0)] 4 = true := by decide +kernel
theorem s_Mo_work_63 : dsq c_Mo_work 63 [(.iinc 2 1, 3, 1), (.goto (-62), 3, 0)] 4 = true := by decide +kernel
theorem s_Mo_work_69 : dsq c_Mo_work 69 [(.iload_n 1, 1, 0)] 70 = true := by decide +kernel
theorem s_Mo_work_73 : dsq c_Mo_work 73 [(.aload_n 0, 1, 0)] 74 = true := by decide +kernel
theorem s_Mo_work_77 : dsq c_Mo_work 77 [(.iload_n 1, 1, 0)] 78 = true := by decide +kernel
theorem s_Mo_work_79 : dsq c_Mo_work 79 [(.aload_n 0, 1, 0)] 80 = true := by decide +kernel
theorem s_Mo_work_90 : dsq c_Mo_work 90 [(.aload_n 0, 1, 0)] 91 = true := by decide +kernel
theorem s_Mo_work_94 : dsq c_Mo_work 94 [(.iload_n 1, 1, 0)] 95 = true := by decide +kernel
theorem s_Mo_work_96 : dsq c_Mo_work 96 [(.istore_n 2, 1, 0), (.aload_n 0, 1, 0), (.aload_n 0, 1, 0)] 99 = true := by decide +kernel
theorem s_Mo_work_102 : dsq c_Mo_work 102 [(.iload_n 1, 1, 0)] 103 = true := by decide +kernel
theorem s_Mo_work_107 : dsq c_Mo_work 107 [(.aload_n 0, 1, 0), (.iload_n 1, 1, 0)] 109 = true := by decide +kernel
theorem s_Mo_work_112 : dsq c_Mo_work 112 [(.iload_n 2, 1, 0), (.i2l, 1, 0)] 114 = true := by decide +kernel
theorem d_Mo_work_6 : decode c_Mo_work 6 = .ok (.getfield 126, 3) := by decide +kernel
theorem d_Mo_work_9 : decode c_Mo_work 9 = .ok (.if_icmp .ge 60, 3) := by decide +kernel
theorem d_Mo_work_13 : decode c_Mo_work 13 = .ok (.ifCond .lt 48, 3) := by decide +kernel
theorem d_Mo_work_17 : decode c_Mo_work 17 = .ok (.getfield 51, 3) := by decide +kernel
theorem d_Mo_work_21 : decode c_Mo_work 21 = .ok (.iaload, 1) := by decide +kernel
theorem d_Mo_work_23 : decode c_Mo_work 23 = .ok (.getfield 51, 3) := by decide +kernel
theorem d_Mo_work_27 : decode c_Mo_work 27 = .ok (.iaload, 1) := by decide +kernel
theorem d_Mo_work_28 : decode c_Mo_work 28 = .ok (.if_icmp .lt 33, 3) := by decide +kernel
theorem d_Mo_work_32 : decode c_Mo_work 32 = .ok (.getfield 51, 3) := by decide +kernel
theorem d_Mo_work_36 : decode c_Mo_work 36 = .ok (.iaload, 1) := by decide +kernel
theorem d_Mo_work_38 : decode c_Mo_work 38 = .ok (.getfield 51, 3) := by decide +kernel
theorem d_Mo_work_42 : decode c_Mo_work 42 = .ok (.iaload, 1) := by decide +kernel
theorem d_Mo_work_43 : decode c_Mo_work 43 = .ok (.if_icmp .ne 20, 3) := by decide +kernel
theorem d_Mo_work_47 : decode c_Mo_work 47 = .ok (.getfield 54, 3) := by decide +kernel
theorem d_Mo_work_51 : decode c_Mo_work 51 = .ok (.iaload, 1) := by decide +kernel
theorem d_Mo_work_53 : decode c_Mo_work 53 = .ok (.getfield 54, 3) := by decide +kernel
theorem d_Mo_work_57 : decode c_Mo_work 57 = .ok (.iaload, 1) := by decide +kernel
theorem d_Mo_work_58 : decode c_Mo_work 58 = .ok (.if_icmp .ge 5, 3) := by decide +kernel
theorem d_Mo_work_70 : decode c_Mo_work 70 = .ok (.ifCond .lt 16, 3) := by decide +kernel
theorem d_Mo_work_74 : decode c_Mo_work 74 = .ok (.getfield 54, 3) := by decide +kernel
theorem d_Mo_work_78 : decode c_Mo_work 78 = .ok (.iaload, 1) := by decide +kernel
theorem d_Mo_work_80 : decode c_Mo_work 80 = .ok (.getfield 96, 3) := by decide +kernel
theorem d_Mo_work_83 : decode c_Mo_work 83 = .ok (.if_icmp .le 7, 3) := by decide +kernel
theorem d_Mo_work_86 : decode c_Mo_work 86 = .ok (.ldc2_w 129, 3) := by decide +kernel
theorem d_Mo_work_89 : decode c_Mo_work 89 = .ok (.lreturn, 1) := by decide +kernel
theorem d_Mo_work_91 : decode c_Mo_work 91 = .ok (.getfield 51, 3) := by decide +kernel
theorem d_Mo_work_95 : decode c_Mo_work 95 = .ok (.iaload, 1) := by decide +kernel
theorem d_Mo_work_99 : decode c_Mo_work 99 = .ok (.getfield 48, 3) := by decide +kernel
theorem d_Mo_work_103 : decode c_Mo_work 103 = .ok (.iaload, 1) := by decide +kernel
theorem d_Mo_work_104 : decode c_Mo_work 104 = .ok (.invokevirtual 123, 3) := by decide +kernel
theorem d_Mo_work_109 : decode c_Mo_work 109 = .ok (.invokevirtual 131, 3) := by decide +kernel
theorem d_Mo_work_114 : decode c_Mo_work 114 = .ok (.lreturn, 1) := by decide +kernel
theorem s_Mo_gone_0 : dsq c_Mo_gone 0 [(.aload_n 0, 1, 0), (.dup, 1, 0)] 2 = true := by decide +kernel
theorem s_Mo_gone_5 : dsq c_Mo_gone 5 [(.iconst 1, 1, 1), (.isub, 1, 0)] 7 = true := by decide +kernel
theorem s_Mo_gone_10 : dsq c_Mo_gone 10 [(.iload_n 1, 1, 0), (.istore_n 2, 1, 0)] 12 = true := by decide +kernel
theorem s_Mo_gone_12 : dsq c_Mo_gone 12 [(.iload_n 2, 1, 0), (.aload_n 0, 1, 0)] 14 = true := by decide +kernel
theorem s_Mo_gone_20 : dsq c_Mo_gone 20 [(.aload_n 0, 1, 0)] 21 = true := by decide +kernel
theorem s_Mo_gone_24 : dsq c_Mo_gone 24 [(.iload_n 2, 1, 0), (.aload_n 0, 1, 0)] 26 = true := by decide +kernel
theorem s_Mo_gone_29 : dsq c_Mo_gone 29 [(.iload_n 2, 1, 0), (.iconst 1, 1, 1), (.iadd, 1, 0)] 32 = true := by decide +kernel
theorem s_Mo_gone_34 : dsq c_Mo_gone 34 [(.aload_n 0, 1, 0)] 35 = true := by decide +kernel
theorem s_Mo_gone_38 : dsq c_Mo_gone 38 [(.iload_n 2, 1, 0), (.aload_n 0, 1, 0)] 40 = true := by decide +kernel
theorem s_Mo_gone_43 : dsq c_Mo_gone 43 [(.iload_n 2, 1, 0), (.iconst 1, 1, 1), (.iadd, 1, 0)] 46 = true := by decide +kernel
theorem s_Mo_gone_48 : dsq c_Mo_gone 48 [(.aload_n 0, 1, 0)] 49 = true := by decide +kernel
theorem s_Mo_gone_52 : dsq c_Mo_gone 52 [(.iload_n 2, 1, 0), (.aload_n 0, 1, 0)] 54 = true := by decide +kernel
theorem s_Mo_gone_57 : dsq c_Mo_gone 57 [(.iload_n 2, 1, 0), (.iconst 1, 1, 1), (.iadd, 1, 0)] 60 = true := by decide +kernel
theorem s_Mo_gone_62 : dsq c_Mo_gone 62 [(.iinc 2 1, 3, 1), (.goto (-53), 3, 0)] 12 = true := by decide +kernel
theorem d_Mo_gone_2 : decode c_Mo_gone 2 = .ok (.getfield 126, 3) := by decide +kernel
theorem d_Mo_gone_7 : decode c_Mo_gone 7 = .ok (.putfield 126, 3) := by decide +kernel
theorem d_Mo_gone_14 : decode c_Mo_gone 14 = .ok (.getfield 126, 3) := by decide +kernel
theorem d_Mo_gone_17 : decode c_Mo_gone 17 = .ok (.if_icmp .ge 51, 3) := by decide +kernel
theorem d_Mo_gone_21 : decode c_Mo_gone 21 = .ok (.getfield 48, 3) := by decide +kernel
theorem d_Mo_gone_26 : decode c_Mo_gone 26 = .ok (.getfield 48, 3) := by decide +kernel
theorem d_Mo_gone_32 : decode c_Mo_gone 32 = .ok (.iaload, 1) := by decide +kernel
theorem d_Mo_gone_33 : decode c_Mo_gone 33 = .ok (.iastore, 1) := by decide +kernel
theorem d_Mo_gone_35 : decode c_Mo_gone 35 = .ok (.getfield 51, 3) := by decide +kernel
theorem d_Mo_gone_40 : decode c_Mo_gone 40 = .ok (.getfield 51, 3) := by decide +kernel
theorem d_Mo_gone_46 : decode c_Mo_gone 46 = .ok (.iaload, 1) := by decide +kernel
theorem d_Mo_gone_47 : decode c_Mo_gone 47 = .ok (.iastore, 1) := by decide +kernel
theorem d_Mo_gone_49 : decode c_Mo_gone 49 = .ok (.getfield 54, 3) := by decide +kernel
theorem d_Mo_gone_54 : decode c_Mo_gone 54 = .ok (.getfield 54, 3) := by decide +kernel
theorem d_Mo_gone_60 : decode c_Mo_gone 60 = .ok (.iaload, 1) := by decide +kernel
theorem d_Mo_gone_61 : decode c_Mo_gone 61 = .ok (.iastore, 1) := by decide +kernel
theorem d_Mo_gone_68 : decode c_Mo_gone 68 = .ok (.return_, 1) := by decide +kernel
theorem s_Mo_cancel_0 : dsq c_Mo_cancel 0 [(.aload_n 0, 1, 0)] 1 = true := by decide +kernel
theorem s_Mo_cancel_7 : dsq c_Mo_cancel 7 [(.iconst (-1), 1, (-1))] 8 = true := by decide +kernel
theorem s_Mo_cancel_9 : dsq c_Mo_cancel 9 [(.aload_n 0, 1, 0)] 10 = true := by decide +kernel
theorem s_Mo_cancel_13 : dsq c_Mo_cancel 13 [(.istore_n 1, 1, 0), (.iconst 0, 1, 0), (.istore_n 2, 1, 0), (.aload_n 0, 1, 0)] 17 = true := by decide +kernel
theorem s_Mo_cancel_20 : dsq c_Mo_cancel 20 [(.iconst 1, 1, 1), (.isub, 1, 0), (.istore_n 3, 1, 0)] 23 = true := by decide +kernel
theorem s_Mo_cancel_23 : dsq c_Mo_cancel 23 [(.iload_n 3, 1, 0)] 24 = true := by decide +kernel
theorem s_Mo_cancel_27 : dsq c_Mo_cancel 27 [(.aload_n 0, 1, 0)] 28 = true := by decide +kernel
theorem s_Mo_cancel_31 : dsq c_Mo_cancel 31 [(.iload_n 3, 1, 0)] 32 = true := by decide +kernel
theorem s_Mo_cancel_33 : dsq c_Mo_cancel 33 [(.iload_n 1, 1, 0)] 34 = true := by decide +kernel
theorem s_Mo_cancel_37 : dsq c_Mo_cancel 37 [(.goto 11, 3, 0), (.iinc 3 (-1), 3, (-1)), (.goto (-28), 3, 0)] 23 = true := by decide +kernel
theorem s_Mo_cancel_40 : dsq c_Mo_cancel 40 [(.aload_n 0, 1, 0), (.iload_n 3, 1, 0)] 42 = true := by decide +kernel
theorem s_Mo_cancel_45 : dsq c_Mo_cancel 45 [(.iinc 2 1, 3, 1), (.iinc 3 (-1), 3, (-1)), (.goto (-28), 3, 0)] 23 = true := by decide +kernel
theorem s_Mo_cancel_48 : dsq c_Mo_cancel 48 [(.iinc 3 (-1), 3, (-1)), (.goto (-28), 3, 0)] 23 = true := by decide +kernel
theorem s_Mo_cancel_54 : dsq c_Mo_cancel 54 [(.iload_n 2, 1, 0)] 55 = true := by decide +kernel
theorem d_Mo_cancel_1 : decode c_Mo_cancel 1 = .ok (.getfield 75, 3) := by decide +kernel
theorem d_Mo_cancel_4 : decode c_Mo_cancel 4 = .ok (.ifCond .ne 5, 3) := by decide +kernel
theorem d_Mo_cancel_8 : decode c_Mo_cancel 8 = .ok (.ireturn, 1) := by decide +kernel
theorem d_Mo_cancel_10 : decode c_Mo_cancel 10 = .ok (.invokevirtual 109, 3) := by decide +kernel
theorem d_Mo_cancel_17 : decode c_Mo_cancel 17 = .ok (.getfield 126, 3) := by decide +kernel
theorem d_Mo_cancel_24 : decode c_Mo_cancel 24 = .ok (.ifCond .lt 30, 3) := by decide +kernel
theorem d_Mo_cancel_28 : decode c_Mo_cancel 28 = .ok (.getfield 48, 3) := by decide +kernel
theorem d_Mo_cancel_32 : decode c_Mo_cancel 32 = .ok (.iaload, 1) := by decide +kernel
theorem d_Mo_cancel_34 : decode c_Mo_cancel 34 = .ok (.if_icmp .eq 6, 3) := by decide +kernel
theorem d_Mo_cancel_42 : decode c_Mo_cancel 42 = .ok (.invokevirtual 131, 3) := by decide +kernel
theorem d_Mo_cancel_55 : decode c_Mo_cancel 55 = .ok (.ireturn, 1) := by decide +kernel
theorem s_Mo_ask_0 : dsq c_Mo_ask 0 [(.aload_n 0, 1, 0)] 1 = true := by decide +kernel
theorem s_Mo_ask_7 : dsq c_Mo_ask 7 [(.iconst (-1), 1, (-1))] 8 = true := by decide +kernel
theorem s_Mo_ask_9 : dsq c_Mo_ask 9 [(.aload_n 0, 1, 0)] 10 = true := by decide +kernel
theorem s_Mo_ask_13 : dsq c_Mo_ask 13 [(.istore_n 1, 1, 0), (.aload_n 0, 1, 0), (.iload_n 1, 1, 0)] 16 = true := by decide +kernel
theorem s_Mo_ask_19 : dsq c_Mo_ask 19 [(.istore_n 2, 1, 0), (.iload_n 2, 1, 0)] 21 = true := by decide +kernel
theorem s_Mo_ask_24 : dsq c_Mo_ask 24 [(.aload_n 0, 1, 0)] 25 = true := by decide +kernel
theorem s_Mo_ask_28 : dsq c_Mo_ask 28 [(.iload_n 2, 1, 0)] 29 = true := by decide +kernel
theorem s_Mo_ask_30 : dsq c_Mo_ask 30 [(.goto 18, 3, 0), (.istore_n 3, 1, 0), (.iload_n 2, 1, 0)] 50 = true := by decide +kernel
theorem s_Mo_ask_33 : dsq c_Mo_ask 33 [(.sipush 1000, 3, 1000), (.aload_n 0, 1, 0)] 37 = true := by decide +kernel
theorem s_Mo_ask_40 : dsq c_Mo_ask 40 [(.iload_n 1, 1, 0)] 41 = true := by decide +kernel
theorem s_Mo_ask_42 : dsq c_Mo_ask 42 [(.imul, 1, 0), (.aload_n 0, 1, 0)] 44 = true := by decide +kernel
theorem s_Mo_ask_47 : dsq c_Mo_ask 47 [(.iadd, 1, 0), (.istore_n 3, 1, 0), (.iload_n 2, 1, 0)] 50 = true := by decide +kernel
theorem s_Mo_ask_48 : dsq c_Mo_ask 48 [(.istore_n 3, 1, 0), (.iload_n 2, 1, 0)] 50 = true := by decide +kernel
theorem s_Mo_ask_53 : dsq c_Mo_ask 53 [(.aload_n 0, 1, 0)] 54 = true := by decide +kernel
theorem s_Mo_ask_57 : dsq c_Mo_ask 57 [(.iconst 4, 1, 4)] 58 = true := by decide +kernel
theorem s_Mo_ask_61 : dsq c_Mo_ask 61 [(.aload_n 0, 1, 0), (.dup, 1, 0)] 63 = true := by decide +kernel
theorem s_Mo_ask_66 : dsq c_Mo_ask 66 [(.dup_x1, 1, 0), (.iconst 1, 1, 1), (.iadd, 1, 0)] 69 = true := by decide +kernel
theorem s_Mo_ask_72 : dsq c_Mo_ask 72 [(.goto 4, 3, 0), (.istore_n 2, 1, 0), (.iload_n 2, 1, 0), (.istore 4, 2, 0)] 80 = true := by decide +kernel
theorem s_Mo_ask_75 : dsq c_Mo_ask 75 [(.iconst 0, 1, 0), (.istore_n 2, 1, 0), (.iload_n 2, 1, 0), (.istore 4, 2, 0)] 80 = true := by decide +kernel
theorem s_Mo_ask_76 : dsq c_Mo_ask 76 [(.istore_n 2, 1, 0), (.iload_n 2, 1, 0), (.istore 4, 2, 0)] 80 = true := by decide +kernel
theorem s_Mo_ask_77 : dsq c_Mo_ask 77 [(.iload_n 2, 1, 0), (.istore 4, 2, 0)] 80 = true := by decide +kernel
theorem s_Mo_ask_80 : dsq c_Mo_ask 80 [(.iload 4, 2, 0), (.aload_n 0, 1, 0)] 83 = true := by decide +kernel
theorem s_Mo_ask_86 : dsq c_Mo_ask 86 [(.iconst 1, 1, 1), (.isub, 1, 0)] 88 = true := by decide +kernel
theorem s_Mo_ask_91 : dsq c_Mo_ask 91 [(.aload_n 0, 1, 0)] 92 = true := by decide +kernel
theorem s_Mo_ask_95 : dsq c_Mo_ask 95 [(.iload 4, 2, 0), (.aload_n 0, 1, 0)] 98 = true := by decide +kernel
theorem s_Mo_ask_101 : dsq c_Mo_ask 101 [(.iload 4, 2, 0), (.iconst 1, 1, 1), (.iadd, 1, 0)] 105 = true := by decide +kernel
theorem s_Mo_ask_107 : dsq c_Mo_ask 107 [(.aload_n 0, 1, 0)] 108 = true := by decide +kernel
theorem s_Mo_ask_111 : dsq c_Mo_ask 111 [(.iload 4, 2, 0), (.aload_n 0, 1, 0)] 114 = true := by decide +kernel
theorem s_Mo_ask_117 : dsq c_Mo_ask 117 [(.iload 4, 2, 0), (.iconst 1, 1, 1), (.iadd, 1, 0)] 121 = true := by decide +kernel
theorem s_Mo_ask_123 : dsq c_Mo_ask 123 [(.iinc 4 1, 3, 1), (.goto (-46), 3, 0)] 80 = true := by decide +kernel
theorem s_Mo_ask_129 : dsq c_Mo_ask 129 [(.aload_n 0, 1, 0)] 130 = true := by decide +kernel
theorem s_Mo_ask_133 : dsq c_Mo_ask 133 [(.aload_n 0, 1, 0)] 134 = true := by decide +kernel
theorem s_Mo_ask_137 : dsq c_Mo_ask 137 [(.iconst 1, 1, 1), (.isub, 1, 0), (.iload_n 1, 1, 0)] 140 = true := by decide +kernel
theorem s_Mo_ask_141 : dsq c_Mo_ask 141 [(.aload_n 0, 1, 0)] 142 = true := by decide +kernel
theorem s_Mo_ask_145 : dsq c_Mo_ask 145 [(.aload_n 0, 1, 0)] 146 = true := by decide +kernel
theorem s_Mo_ask_149 : dsq c_Mo_ask 149 [(.iconst 1, 1, 1), (.isub, 1, 0), (.iload_n 3, 1, 0)] 152 = true := by decide +kernel
theorem s_Mo_ask_153 : dsq c_Mo_ask 153 [(.iload_n 3, 1, 0)] 154 = true := by decide +kernel
theorem d_Mo_ask_1 : decode c_Mo_ask 1 = .ok (.getfield 75, 3) := by decide +kernel
theorem d_Mo_ask_4 : decode c_Mo_ask 4 = .ok (.ifCond .ne 5, 3) := by decide +kernel
theorem d_Mo_ask_8 : decode c_Mo_ask 8 = .ok (.ireturn, 1) := by decide +kernel
theorem d_Mo_ask_10 : decode c_Mo_ask 10 = .ok (.invokevirtual 109, 3) := by decide +kernel
theorem d_Mo_ask_16 : decode c_Mo_ask 16 = .ok (.invokevirtual 137, 3) := by decide +kernel
theorem d_Mo_ask_21 : decode c_Mo_ask 21 = .ok (.ifCond .lt 12, 3) := by decide +kernel
theorem d_Mo_ask_25 : decode c_Mo_ask 25 = .ok (.getfield 60, 3) := by decide +kernel
theorem d_Mo_ask_29 : decode c_Mo_ask 29 = .ok (.iaload, 1) := by decide +kernel
theorem d_Mo_ask_37 : decode c_Mo_ask 37 = .ok (.getfield 17, 3) := by decide +kernel
theorem d_Mo_ask_41 : decode c_Mo_ask 41 = .ok (.iaload, 1) := by decide +kernel
theorem d_Mo_ask_44 : decode c_Mo_ask 44 = .ok (.getfield 96, 3) := by decide +kernel
theorem d_Mo_ask_50 : decode c_Mo_ask 50 = .ok (.ifCond .ge 27, 3) := by decide +kernel
theorem d_Mo_ask_54 : decode c_Mo_ask 54 = .ok (.getfield 134, 3) := by decide +kernel
theorem d_Mo_ask_58 : decode c_Mo_ask 58 = .ok (.if_icmp .ge 17, 3) := by decide +kernel
theorem d_Mo_ask_63 : decode c_Mo_ask 63 = .ok (.getfield 134, 3) := by decide +kernel
theorem d_Mo_ask_69 : decode c_Mo_ask 69 = .ok (.putfield 134, 3) := by decide +kernel
theorem d_Mo_ask_83 : decode c_Mo_ask 83 = .ok (.getfield 134, 3) := by decide +kernel
theorem d_Mo_ask_88 : decode c_Mo_ask 88 = .ok (.if_icmp .ge 41, 3) := by decide +kernel
theorem d_Mo_ask_92 : decode c_Mo_ask 92 = .ok (.getfield 57, 3) := by decide +kernel
theorem d_Mo_ask_98 : decode c_Mo_ask 98 = .ok (.getfield 57, 3) := by decide +kernel
theorem d_Mo_ask_105 : decode c_Mo_ask 105 = .ok (.iaload, 1) := by decide +kernel
theorem d_Mo_ask_106 : decode c_Mo_ask 106 = .ok (.iastore, 1) := by decide +kernel
theorem d_Mo_ask_108 : decode c_Mo_ask 108 = .ok (.getfield 60, 3) := by decide +kernel
theorem d_Mo_ask_114 : decode c_Mo_ask 114 = .ok (.getfield 60, 3) := by decide +kernel
theorem d_Mo_ask_121 : decode c_Mo_ask 121 = .ok (.iaload, 1) := by decide +kernel
theorem d_Mo_ask_122 : decode c_Mo_ask 122 = .ok (.iastore, 1) := by decide +kernel
theorem d_Mo_ask_130 : decode c_Mo_ask 130 = .ok (.getfield 57, 3) := by decide +kernel
theorem d_Mo_ask_134 : decode c_Mo_ask 134 = .ok (.getfield 134, 3) := by decide +kernel
theorem d_Mo_ask_140 : decode c_Mo_ask 140 = .ok (.iastore, 1) := by decide +kernel
theorem d_Mo_ask_142 : decode c_Mo_ask 142 = .ok (.getfield 60, 3) := by decide +kernel
theorem d_Mo_ask_146 : decode c_Mo_ask 146 = .ok (.getfield 134, 3) := by decide +kernel
theorem d_Mo_ask_152 : decode c_Mo_ask 152 = .ok (.iastore, 1) := by decide +kernel
theorem d_Mo_ask_154 : decode c_Mo_ask 154 = .ok (.ireturn, 1) := by decide +kernel
theorem s_Mo_inCache_0 : dsq c_Mo_inCache 0 [(.iconst 0, 1, 0), (.istore_n 2, 1, 0)] 2 = true := by decide +kernel
theorem s_Mo_inCache_2 : dsq c_Mo_inCache 2 [(.iload_n 2, 1, 0), (.aload_n 0, 1, 0)] 4 = true := by decide +kernel
theorem s_Mo_inCache_10 : dsq c_Mo_inCache 10 [(.aload_n 0, 1, 0)] 11 = true := by decide +kernel
theorem s_Mo_inCache_14 : dsq c_Mo_inCache 14 [(.iload_n 2, 1, 0)] 15 = true := by decide +kernel
theorem s_Mo_inCache_16 : dsq c_Mo_inCache 16 [(.iload_n 1, 1, 0)] 17 = true := by decide +kernel
theorem s_Mo_inCache_20 : dsq c_Mo_inCache 20 [(.iload_n 2, 1, 0)] 21 = true := by decide +kernel
theorem s_Mo_inCache_22 : dsq c_Mo_inCache 22 [(.iinc 2 1, 3, 1), (.goto (-23), 3, 0)] 2 = true := by decide +kernel
theorem s_Mo_inCache_28 : dsq c_Mo_inCache 28 [(.iconst (-1), 1, (-1))] 29 = true := by decide +kernel
theorem d_Mo_inCache_4 : decode c_Mo_inCache 4 = .ok (.getfield 134, 3) := by decide +kernel
theorem d_Mo_inCache_7 : decode c_Mo_inCache 7 = .ok (.if_icmp .ge 21, 3) := by decide +kernel
theorem d_Mo_inCache_11 : decode c_Mo_inCache 11 = .ok (.getfield 57, 3) := by decide +kernel
theorem d_Mo_inCache_15 : decode c_Mo_inCache 15 = .ok (.iaload, 1) := by decide +kernel
theorem d_Mo_inCache_17 : decode c_Mo_inCache 17 = .ok (.if_icmp .ne 5, 3) := by decide +kernel
theorem d_Mo_inCache_21 : decode c_Mo_inCache 21 = .ok (.ireturn, 1) := by decide +kernel
theorem d_Mo_inCache_29 : decode c_Mo_inCache 29 = .ok (.ireturn, 1) := by decide +kernel
theorem s_Mo_known_0 : dsq c_Mo_known 0 [(.aload_n 0, 1, 0)] 1 = true := by decide +kernel
theorem s_Mo_known_7 : dsq c_Mo_known 7 [(.aload_n 0, 1, 0), (.aload_n 0, 1, 0)] 9 = true := by decide +kernel
theorem s_Mo_known_18 : dsq c_Mo_known 18 [(.iconst 1, 1, 1), (.goto 4, 3, 0)] 23 = true := by decide +kernel
theorem s_Mo_known_22 : dsq c_Mo_known 22 [(.iconst 0, 1, 0)] 23 = true := by decide +kernel
theorem d_Mo_known_1 : decode c_Mo_known 1 = .ok (.getfield 75, 3) := by decide +kernel
theorem d_Mo_known_4 : decode c_Mo_known 4 = .ok (.ifCond .le 18, 3) := by decide +kernel
theorem d_Mo_known_9 : decode c_Mo_known 9 = .ok (.invokevirtual 109, 3) := by decide +kernel
theorem d_Mo_known_12 : decode c_Mo_known 12 = .ok (.invokevirtual 137, 3) := by decide +kernel
theorem d_Mo_known_15 : decode c_Mo_known 15 = .ok (.ifCond .lt 7, 3) := by decide +kernel
theorem d_Mo_known_23 : decode c_Mo_known 23 = .ok (.ireturn, 1) := by decide +kernel
theorem s_Mo_watch_0 : dsq c_Mo_watch 0 [(.aload_n 0, 1, 0)] 1 = true := by decide +kernel
theorem s_Mo_watch_7 : dsq c_Mo_watch 7 [(.iload_n 1, 1, 0)] 8 = true := by decide +kernel
theorem s_Mo_watch_14 : dsq c_Mo_watch 14 [(.iconst (-1), 1, (-1))] 15 = true := by decide +kernel
theorem s_Mo_watch_16 : dsq c_Mo_watch 16 [(.aload_n 0, 1, 0)] 17 = true := by decide +kernel
theorem s_Mo_watch_20 : dsq c_Mo_watch 20 [(.istore_n 2, 1, 0), (.iconst 0, 1, 0), (.istore_n 3, 1, 0)] 23 = true := by decide +kernel
theorem s_Mo_watch_23 : dsq c_Mo_watch 23 [(.iload_n 3, 1, 0), (.aload_n 0, 1, 0)] 25 = true := by decide +kernel
theorem s_Mo_watch_28 : dsq c_Mo_watch 28 [(.iload_n 2, 1, 0)] 29 = true := by decide +kernel
theorem s_Mo_watch_33 : dsq c_Mo_watch 33 [(.aload_n 0, 1, 0)] 34 = true := by decide +kernel
theorem s_Mo_watch_37 : dsq c_Mo_watch 37 [(.bipush 16, 2, 16), (.iload_n 2, 1, 0), (.imul, 1, 0), (.iload_n 3, 1, 0), (.iadd, 1, 0)] 43 = true := by decide +kernel
theorem s_Mo_watch_44 : dsq c_Mo_watch 44 [(.iload_n 1, 1, 0)] 45 = true := by decide +kernel
theorem s_Mo_watch_48 : dsq c_Mo_watch 48 [(.iinc 3 1, 3, 1), (.goto (-28), 3, 0)] 23 = true := by decide +kernel
theorem s_Mo_watch_54 : dsq c_Mo_watch 54 [(.iload_n 3, 1, 0), (.aload_n 0, 1, 0)] 56 = true := by decide +kernel
theorem s_Mo_watch_59 : dsq c_Mo_watch 59 [(.iload_n 2, 1, 0)] 60 = true := by decide +kernel
theorem s_Mo_watch_64 : dsq c_Mo_watch 64 [(.aload_n 0, 1, 0)] 65 = true := by decide +kernel
theorem s_Mo_watch_68 : dsq c_Mo_watch 68 [(.bipush 16, 2, 16), (.iload_n 2, 1, 0), (.imul, 1, 0), (.aload_n 0, 1, 0)] 73 = true := by decide +kernel
theorem s_Mo_watch_76 : dsq c_Mo_watch 76 [(.iload_n 2, 1, 0), (.dup2, 1, 0)] 78 = true := by decide +kernel
theorem s_Mo_watch_79 : dsq c_Mo_watch 79 [(.dup_x2, 1, 0), (.iconst 1, 1, 1), (.iadd, 1, 0)] 82 = true := by decide +kernel
theorem s_Mo_watch_83 : dsq c_Mo_watch 83 [(.iadd, 1, 0), (.iload_n 1, 1, 0)] 85 = true := by decide +kernel
theorem s_Mo_watch_86 : dsq c_Mo_watch 86 [(.aload_n 0, 1, 0)] 87 = true := by decide +kernel
theorem s_Mo_watch_90 : dsq c_Mo_watch 90 [(.iload_n 2, 1, 0)] 91 = true := by decide +kernel
theorem s_Mo_watch_93 : dsq c_Mo_watch 93 [(.aload_n 0, 1, 0)] 94 = true := by decide +kernel
theorem s_Mo_watch_97 : dsq c_Mo_watch 97 [(.iload_n 2, 1, 0), (.dup2, 1, 0)] 99 = true := by decide +kernel
theorem s_Mo_watch_100 : dsq c_Mo_watch 100 [(.iconst 1, 1, 1), (.isub, 1, 0)] 102 = true := by decide +kernel
theorem s_Mo_watch_103 : dsq c_Mo_watch 103 [(.bipush 16, 2, 16), (.iload_n 2, 1, 0), (.imul, 1, 0), (.iload_n 3, 1, 0), (.iadd, 1, 0), (.istore 4, 2, 0)] 111 = true := by decide +kernel
theorem s_Mo_watch_111 : dsq c_Mo_watch 111 [(.iload 4, 2, 0), (.bipush 16, 2, 16), (.iload_n 2, 1, 0), (.imul, 1, 0), (.aload_n 0, 1, 0)] 118 = true := by decide +kernel
theorem s_Mo_watch_121 : dsq c_Mo_watch 121 [(.iload_n 2, 1, 0)] 122 = true := by decide +kernel
theorem s_Mo_watch_123 : dsq c_Mo_watch 123 [(.iadd, 1, 0)] 124 = true := by decide +kernel
theorem s_Mo_watch_127 : dsq c_Mo_watch 127 [(.aload_n 0, 1, 0)] 128 = true := by decide +kernel
theorem s_Mo_watch_131 : dsq c_Mo_watch 131 [(.iload 4, 2, 0), (.aload_n 0, 1, 0)] 134 = true := by decide +kernel
theorem s_Mo_watch_137 : dsq c_Mo_watch 137 [(.iload 4, 2, 0), (.iconst 1, 1, 1), (.iadd, 1, 0)] 141 = true := by decide +kernel
theorem s_Mo_watch_143 : dsq c_Mo_watch 143 [(.iinc 4 1, 3, 1), (.goto (-35), 3, 0)] 111 = true := by decide +kernel
theorem s_Mo_watch_149 : dsq c_Mo_watch 149 [(.aload_n 0, 1, 0)] 150 = true := by decide +kernel
theorem s_Mo_watch_153 : dsq c_Mo_watch 153 [(.iload_n 2, 1, 0)] 154 = true := by decide +kernel
theorem d_Mo_watch_1 : decode c_Mo_watch 1 = .ok (.getfield 75, 3) := by decide +kernel
theorem d_Mo_watch_4 : decode c_Mo_watch 4 = .ok (.ifCond .eq 10, 3) := by decide +kernel
theorem d_Mo_watch_8 : decode c_Mo_watch 8 = .ok (.invokestatic 105, 3) := by decide +kernel
theorem d_Mo_watch_11 : decode c_Mo_watch 11 = .ok (.ifCond .ne 5, 3) := by decide +kernel
theorem d_Mo_watch_15 : decode c_Mo_watch 15 = .ok (.ireturn, 1) := by decide +kernel
theorem d_Mo_watch_17 : decode c_Mo_watch 17 = .ok (.invokevirtual 109, 3) := by decide +kernel
theorem d_Mo_watch_25 : decode c_Mo_watch 25 = .ok (.getfield 20, 3) := by decide +kernel
theorem d_Mo_watch_29 : decode c_Mo_watch 29 = .ok (.iaload, 1) := by decide +kernel
theorem d_Mo_watch_30 : decode c_Mo_watch 30 = .ok (.if_icmp .ge 24, 3) := by decide +kernel
theorem d_Mo_watch_34 : decode c_Mo_watch 34 = .ok (.getfield 24, 3) := by decide +kernel
theorem d_Mo_watch_43 : decode c_Mo_watch 43 = .ok (.iaload, 1) := by decide +kernel
theorem d_Mo_watch_45 : decode c_Mo_watch 45 = .ok (.if_icmp .eq 9, 3) := by decide +kernel
theorem d_Mo_watch_56 : decode c_Mo_watch 56 = .ok (.getfield 20, 3) := by decide +kernel
theorem d_Mo_watch_60 : decode c_Mo_watch 60 = .ok (.iaload, 1) := by decide +kernel
theorem d_Mo_watch_61 : decode c_Mo_watch 61 = .ok (.if_icmp .ne 32, 3) := by decide +kernel
theorem d_Mo_watch_65 : decode c_Mo_watch 65 = .ok (.getfield 24, 3) := by decide +kernel
theorem d_Mo_watch_73 : decode c_Mo_watch 73 = .ok (.getfield 20, 3) := by decide +kernel
theorem d_Mo_watch_78 : decode c_Mo_watch 78 = .ok (.iaload, 1) := by decide +kernel
theorem d_Mo_watch_82 : decode c_Mo_watch 82 = .ok (.iastore, 1) := by decide +kernel
theorem d_Mo_watch_85 : decode c_Mo_watch 85 = .ok (.iastore, 1) := by decide +kernel
theorem d_Mo_watch_87 : decode c_Mo_watch 87 = .ok (.getfield 20, 3) := by decide +kernel
theorem d_Mo_watch_91 : decode c_Mo_watch 91 = .ok (.iaload, 1) := by decide +kernel
theorem d_Mo_watch_92 : decode c_Mo_watch 92 = .ok (.ireturn, 1) := by decide +kernel
theorem d_Mo_watch_94 : decode c_Mo_watch 94 = .ok (.getfield 20, 3) := by decide +kernel
theorem d_Mo_watch_99 : decode c_Mo_watch 99 = .ok (.iaload, 1) := by decide +kernel
theorem d_Mo_watch_102 : decode c_Mo_watch 102 = .ok (.iastore, 1) := by decide +kernel
theorem d_Mo_watch_118 : decode c_Mo_watch 118 = .ok (.getfield 20, 3) := by decide +kernel
theorem d_Mo_watch_122 : decode c_Mo_watch 122 = .ok (.iaload, 1) := by decide +kernel
theorem d_Mo_watch_124 : decode c_Mo_watch 124 = .ok (.if_icmp .ge 25, 3) := by decide +kernel
theorem d_Mo_watch_128 : decode c_Mo_watch 128 = .ok (.getfield 24, 3) := by decide +kernel
theorem d_Mo_watch_134 : decode c_Mo_watch 134 = .ok (.getfield 24, 3) := by decide +kernel
theorem d_Mo_watch_141 : decode c_Mo_watch 141 = .ok (.iaload, 1) := by decide +kernel
theorem d_Mo_watch_142 : decode c_Mo_watch 142 = .ok (.iastore, 1) := by decide +kernel
theorem d_Mo_watch_150 : decode c_Mo_watch 150 = .ok (.getfield 20, 3) := by decide +kernel
theorem d_Mo_watch_154 : decode c_Mo_watch 154 = .ok (.iaload, 1) := by decide +kernel
theorem d_Mo_watch_155 : decode c_Mo_watch 155 = .ok (.ireturn, 1) := by decide +kernel
theorem s_Mo_note_0 : dsq c_Mo_note 0 [(.iload_n 1, 1, 0)] 1 = true := by decide +kernel
theorem s_Mo_note_7 : dsq c_Mo_note 7 [(.iconst (-1), 1, (-1))] 8 = true := by decide +kernel
theorem s_Mo_note_9 : dsq c_Mo_note 9 [(.aload_n 0, 1, 0)] 10 = true := by decide +kernel
theorem s_Mo_note_13 : dsq c_Mo_note 13 [(.iload_n 1, 1, 0)] 14 = true := by decide +kernel
theorem s_Mo_note_18 : dsq c_Mo_note 18 [(.bipush (-2), 2, (-2))] 20 = true := by decide +kernel
theorem s_Mo_note_21 : dsq c_Mo_note 21 [(.aload_n 0, 1, 0)] 22 = true := by decide +kernel
theorem s_Mo_note_25 : dsq c_Mo_note 25 [(.bipush 8, 2, 8), (.iload_n 1, 1, 0), (.imul, 1, 0)] 29 = true := by decide +kernel
theorem s_Mo_note_30 : dsq c_Mo_note 30 [(.istore_n 2, 1, 0), (.aload_n 0, 1, 0), (.aload_n 0, 1, 0)] 33 = true := by decide +kernel
theorem s_Mo_note_36 : dsq c_Mo_note 36 [(.bipush 8, 2, 8), (.iload_n 1, 1, 0), (.imul, 1, 0)] 40 = true := by decide +kernel
theorem s_Mo_note_44 : dsq c_Mo_note 44 [(.aload_n 0, 1, 0), (.iload_n 1, 1, 0)] 46 = true := by decide +kernel
theorem s_Mo_note_49 : dsq c_Mo_note 49 [(.iload_n 2, 1, 0)] 50 = true := by decide +kernel
theorem d_Mo_note_1 : decode c_Mo_note 1 = .ok (.invokestatic 105, 3) := by decide +kernel
theorem d_Mo_note_4 : decode c_Mo_note 4 = .ok (.ifCond .ne 5, 3) := by decide +kernel
theorem d_Mo_note_8 : decode c_Mo_note 8 = .ok (.ireturn, 1) := by decide +kernel
theorem d_Mo_note_10 : decode c_Mo_note 10 = .ok (.getfield 69, 3) := by decide +kernel
theorem d_Mo_note_14 : decode c_Mo_note 14 = .ok (.iaload, 1) := by decide +kernel
theorem d_Mo_note_15 : decode c_Mo_note 15 = .ok (.ifCond .ne 6, 3) := by decide +kernel
theorem d_Mo_note_20 : decode c_Mo_note 20 = .ok (.ireturn, 1) := by decide +kernel
theorem d_Mo_note_22 : decode c_Mo_note 22 = .ok (.getfield 66, 3) := by decide +kernel
theorem d_Mo_note_29 : decode c_Mo_note 29 = .ok (.iaload, 1) := by decide +kernel
theorem d_Mo_note_33 : decode c_Mo_note 33 = .ok (.getfield 63, 3) := by decide +kernel
theorem d_Mo_note_40 : decode c_Mo_note 40 = .ok (.iaload, 1) := by decide +kernel
theorem d_Mo_note_41 : decode c_Mo_note 41 = .ok (.invokevirtual 123, 3) := by decide +kernel
theorem d_Mo_note_46 : decode c_Mo_note 46 = .ok (.invokevirtual 88, 3) := by decide +kernel
theorem d_Mo_note_50 : decode c_Mo_note 50 = .ok (.ireturn, 1) := by decide +kernel
theorem s_Mo_waits_0 : dsq c_Mo_waits 0 [(.iconst 0, 1, 0), (.istore_n 3, 1, 0), (.iconst 0, 1, 0), (.istore 4, 2, 0)] 5 = true := by decide +kernel
theorem s_Mo_waits_5 : dsq c_Mo_waits 5 [(.iload 4, 2, 0), (.aload_n 0, 1, 0)] 8 = true := by decide +kernel
theorem s_Mo_waits_14 : dsq c_Mo_waits 14 [(.aload_n 0, 1, 0)] 15 = true := by decide +kernel
theorem s_Mo_waits_18 : dsq c_Mo_waits 18 [(.iload 4, 2, 0)] 20 = true := by decide +kernel
theorem s_Mo_waits_21 : dsq c_Mo_waits 21 [(.iload_n 1, 1, 0)] 22 = true := by decide +kernel
theorem s_Mo_waits_25 : dsq c_Mo_waits 25 [(.aload_n 0, 1, 0)] 26 = true := by decide +kernel
theorem s_Mo_waits_29 : dsq c_Mo_waits 29 [(.iload 4, 2, 0)] 31 = true := by decide +kernel
theorem s_Mo_waits_32 : dsq c_Mo_waits 32 [(.iload_n 2, 1, 0)] 33 = true := by decide +kernel
theorem s_Mo_waits_36 : dsq c_Mo_waits 36 [(.iinc 3 1, 3, 1), (.iinc 4 1, 3, 1), (.goto (-37), 3, 0)] 5 = true := by decide +kernel
theorem s_Mo_waits_39 : dsq c_Mo_waits 39 [(.iinc 4 1, 3, 1), (.goto (-37), 3, 0)] 5 = true := by decide +kernel
theorem s_Mo_waits_45 : dsq c_Mo_waits 45 [(.iload_n 3, 1, 0)] 46 = true := by decide +kernel
theorem d_Mo_waits_8 : decode c_Mo_waits 8 = .ok (.getfield 99, 3) := by decide +kernel
theorem d_Mo_waits_11 : decode c_Mo_waits 11 = .ok (.if_icmp .ge 34, 3) := by decide +kernel
theorem d_Mo_waits_15 : decode c_Mo_waits 15 = .ok (.getfield 45, 3) := by decide +kernel
theorem d_Mo_waits_20 : decode c_Mo_waits 20 = .ok (.iaload, 1) := by decide +kernel
theorem d_Mo_waits_22 : decode c_Mo_waits 22 = .ok (.if_icmp .lt 17, 3) := by decide +kernel
theorem d_Mo_waits_26 : decode c_Mo_waits 26 = .ok (.getfield 45, 3) := by decide +kernel
theorem d_Mo_waits_31 : decode c_Mo_waits 31 = .ok (.iaload, 1) := by decide +kernel
theorem d_Mo_waits_33 : decode c_Mo_waits 33 = .ok (.if_icmp .ge 6, 3) := by decide +kernel
theorem d_Mo_waits_46 : decode c_Mo_waits 46 = .ok (.ireturn, 1) := by decide +kernel
theorem s_Mo_waited_0 : dsq c_Mo_waited 0 [(.bipush (-2), 2, (-2)), (.istore_n 2, 1, 0), (.iconst 0, 1, 0), (.istore_n 3, 1, 0)] 5 = true := by decide +kernel
theorem s_Mo_waited_5 : dsq c_Mo_waited 5 [(.iload_n 3, 1, 0), (.aload_n 0, 1, 0)] 7 = true := by decide +kernel
theorem s_Mo_waited_13 : dsq c_Mo_waited 13 [(.aload_n 0, 1, 0)] 14 = true := by decide +kernel
theorem s_Mo_waited_17 : dsq c_Mo_waited 17 [(.iload_n 3, 1, 0)] 18 = true := by decide +kernel
theorem s_Mo_waited_19 : dsq c_Mo_waited 19 [(.iload_n 1, 1, 0)] 20 = true := by decide +kernel
theorem s_Mo_waited_23 : dsq c_Mo_waited 23 [(.aload_n 0, 1, 0)] 24 = true := by decide +kernel
theorem s_Mo_waited_27 : dsq c_Mo_waited 27 [(.iload_n 3, 1, 0)] 28 = true := by decide +kernel
theorem s_Mo_waited_29 : dsq c_Mo_waited 29 [(.iload_n 2, 1, 0)] 30 = true := by decide +kernel
theorem s_Mo_waited_33 : dsq c_Mo_waited 33 [(.aload_n 0, 1, 0)] 34 = true := by decide +kernel
theorem s_Mo_waited_37 : dsq c_Mo_waited 37 [(.iload_n 3, 1, 0)] 38 = true := by decide +kernel
theorem s_Mo_waited_39 : dsq c_Mo_waited 39 [(.istore_n 2, 1, 0), (.iinc 3 1, 3, 1), (.goto (-38), 3, 0)] 5 = true := by decide +kernel
theorem s_Mo_waited_40 : dsq c_Mo_waited 40 [(.iinc 3 1, 3, 1), (.goto (-38), 3, 0)] 5 = true := by decide +kernel
theorem s_Mo_waited_46 : dsq c_Mo_waited 46 [(.iload_n 2, 1, 0)] 47 = true := by decide +kernel
theorem d_Mo_waited_7 : decode c_Mo_waited 7 = .ok (.getfield 99, 3) := by decide +kernel
theorem d_Mo_waited_10 : decode c_Mo_waited 10 = .ok (.if_icmp .ge 36, 3) := by decide +kernel
theorem d_Mo_waited_14 : decode c_Mo_waited 14 = .ok (.getfield 45, 3) := by decide +kernel
theorem d_Mo_waited_18 : decode c_Mo_waited 18 = .ok (.iaload, 1) := by decide +kernel
theorem d_Mo_waited_20 : decode c_Mo_waited 20 = .ok (.if_icmp .gt 20, 3) := by decide +kernel
theorem d_Mo_waited_24 : decode c_Mo_waited 24 = .ok (.getfield 45, 3) := by decide +kernel
theorem d_Mo_waited_28 : decode c_Mo_waited 28 = .ok (.iaload, 1) := by decide +kernel
theorem d_Mo_waited_30 : decode c_Mo_waited 30 = .ok (.if_icmp .le 10, 3) := by decide +kernel
theorem d_Mo_waited_34 : decode c_Mo_waited 34 = .ok (.getfield 45, 3) := by decide +kernel
theorem d_Mo_waited_38 : decode c_Mo_waited 38 = .ok (.iaload, 1) := by decide +kernel
theorem d_Mo_waited_47 : decode c_Mo_waited 47 = .ok (.ireturn, 1) := by decide +kernel
theorem s_Mo_letter_0 : dsq c_Mo_letter 0 [(.iload_n 1, 1, 0)] 1 = true := by decide +kernel
theorem s_Mo_letter_4 : dsq c_Mo_letter 4 [(.iload_n 1, 1, 0), (.aload_n 0, 1, 0)] 6 = true := by decide +kernel
theorem s_Mo_letter_12 : dsq c_Mo_letter 12 [(.bipush (-2), 2, (-2)), (.goto 9, 3, 0)] 23 = true := by decide +kernel
theorem s_Mo_letter_17 : dsq c_Mo_letter 17 [(.aload_n 0, 1, 0)] 18 = true := by decide +kernel
theorem s_Mo_letter_21 : dsq c_Mo_letter 21 [(.iload_n 1, 1, 0)] 22 = true := by decide +kernel
theorem d_Mo_letter_1 : decode c_Mo_letter 1 = .ok (.ifCond .lt 11, 3) := by decide +kernel
theorem d_Mo_letter_6 : decode c_Mo_letter 6 = .ok (.getfield 75, 3) := by decide +kernel
theorem d_Mo_letter_9 : decode c_Mo_letter 9 = .ok (.if_icmp .lt 8, 3) := by decide +kernel
theorem d_Mo_letter_18 : decode c_Mo_letter 18 = .ok (.getfield 7, 3) := by decide +kernel
theorem d_Mo_letter_22 : decode c_Mo_letter 22 = .ok (.iaload, 1) := by decide +kernel
theorem d_Mo_letter_23 : decode c_Mo_letter 23 = .ok (.ireturn, 1) := by decide +kernel
theorem s_Mo_count_0 : dsq c_Mo_count 0 [(.iconst 0, 1, 0), (.istore_n 2, 1, 0), (.iload_n 1, 1, 0)] 3 = true := by decide +kernel
theorem s_Mo_count_48 : dsq c_Mo_count 48 [(.aload_n 0, 1, 0)] 49 = true := by decide +kernel
theorem s_Mo_count_53 : dsq c_Mo_count 53 [(.iconst 0, 1, 0), (.istore_n 3, 1, 0)] 55 = true := by decide +kernel
theorem s_Mo_count_55 : dsq c_Mo_count 55 [(.iload_n 3, 1, 0), (.aload_n 0, 1, 0)] 57 = true := by decide +kernel
theorem s_Mo_count_63 : dsq c_Mo_count 63 [(.aload_n 0, 1, 0)] 64 = true := by decide +kernel
theorem s_Mo_count_67 : dsq c_Mo_count 67 [(.iload_n 3, 1, 0)] 68 = true := by decide +kernel
theorem s_Mo_count_72 : dsq c_Mo_count 72 [(.iinc 2 1, 3, 1), (.iinc 3 1, 3, 1), (.goto (-23), 3, 0)] 55 = true := by decide +kernel
theorem s_Mo_count_75 : dsq c_Mo_count 75 [(.iinc 3 1, 3, 1), (.goto (-23), 3, 0)] 55 = true := by decide +kernel
theorem s_Mo_count_81 : dsq c_Mo_count 81 [(.iload_n 2, 1, 0)] 82 = true := by decide +kernel
theorem s_Mo_count_83 : dsq c_Mo_count 83 [(.iconst 0, 1, 0), (.istore_n 3, 1, 0)] 85 = true := by decide +kernel
theorem s_Mo_count_85 : dsq c_Mo_count 85 [(.iload_n 3, 1, 0), (.aload_n 0, 1, 0)] 87 = true := by decide +kernel
theorem s_Mo_count_93 : dsq c_Mo_count 93 [(.iload_n 2, 1, 0), (.aload_n 0, 1, 0)] 95 = true := by decide +kernel
theorem s_Mo_count_98 : dsq c_Mo_count 98 [(.iload_n 3, 1, 0)] 99 = true := by decide +kernel
theorem s_Mo_count_100 : dsq c_Mo_count 100 [(.iadd, 1, 0), (.istore_n 2, 1, 0), (.iinc 3 1, 3, 1), (.goto (-20), 3, 0)] 85 = true := by decide +kernel
theorem s_Mo_count_108 : dsq c_Mo_count 108 [(.iload_n 2, 1, 0)] 109 = true := by decide +kernel
theorem s_Mo_count_110 : dsq c_Mo_count 110 [(.aload_n 0, 1, 0)] 111 = true := by decide +kernel
theorem s_Mo_count_115 : dsq c_Mo_count 115 [(.aload_n 0, 1, 0)] 116 = true := by decide +kernel
theorem s_Mo_count_120 : dsq c_Mo_count 120 [(.iconst 0, 1, 0), (.istore_n 3, 1, 0)] 122 = true := by decide +kernel
theorem s_Mo_count_122 : dsq c_Mo_count 122 [(.iload_n 3, 1, 0), (.aload_n 0, 1, 0)] 124 = true := by decide +kernel
theorem s_Mo_count_130 : dsq c_Mo_count 130 [(.aload_n 0, 1, 0)] 131 = true := by decide +kernel
theorem s_Mo_count_134 : dsq c_Mo_count 134 [(.iload_n 3, 1, 0)] 135 = true := by decide +kernel
theorem s_Mo_count_139 : dsq c_Mo_count 139 [(.iinc 2 1, 3, 1), (.iinc 3 1, 3, 1), (.goto (-23), 3, 0)] 122 = true := by decide +kernel
theorem s_Mo_count_142 : dsq c_Mo_count 142 [(.iinc 3 1, 3, 1), (.goto (-23), 3, 0)] 122 = true := by decide +kernel
theorem s_Mo_count_148 : dsq c_Mo_count 148 [(.iload_n 2, 1, 0)] 149 = true := by decide +kernel
theorem s_Mo_count_150 : dsq c_Mo_count 150 [(.aload_n 0, 1, 0)] 151 = true := by decide +kernel
theorem s_Mo_count_157 : dsq c_Mo_count 157 [(.iconst 0, 1, 0), (.goto 12, 3, 0)] 170 = true := by decide +kernel
theorem s_Mo_count_161 : dsq c_Mo_count 161 [(.aload_n 0, 1, 0)] 162 = true := by decide +kernel
theorem s_Mo_count_165 : dsq c_Mo_count 165 [(.aload_n 0, 1, 0)] 166 = true := by decide +kernel
theorem s_Mo_count_171 : dsq c_Mo_count 171 [(.iconst 0, 1, 0), (.istore_n 3, 1, 0)] 173 = true := by decide +kernel
theorem s_Mo_count_173 : dsq c_Mo_count 173 [(.iload_n 3, 1, 0), (.bipush 16, 2, 16)] 176 = true := by decide +kernel
theorem s_Mo_count_179 : dsq c_Mo_count 179 [(.iload_n 2, 1, 0), (.aload_n 0, 1, 0)] 181 = true := by decide +kernel
theorem s_Mo_count_184 : dsq c_Mo_count 184 [(.iload_n 3, 1, 0)] 185 = true := by decide +kernel
theorem s_Mo_count_186 : dsq c_Mo_count 186 [(.iadd, 1, 0), (.istore_n 2, 1, 0), (.iinc 3 1, 3, 1), (.goto (-18), 3, 0)] 173 = true := by decide +kernel
theorem s_Mo_count_194 : dsq c_Mo_count 194 [(.iload_n 2, 1, 0)] 195 = true := by decide +kernel
theorem s_Mo_count_196 : dsq c_Mo_count 196 [(.iconst (-1), 1, (-1))] 197 = true := by decide +kernel
theorem d_Mo_count_3 : decode c_Mo_count 3 = .ok (.tableswitch 193 0 7 #[45, 50, 80, 107, 112, 117, 147, 168], 45) := by decide +kernel
theorem d_Mo_count_49 : decode c_Mo_count 49 = .ok (.getfield 96, 3) := by decide +kernel
theorem d_Mo_count_52 : decode c_Mo_count 52 = .ok (.ireturn, 1) := by decide +kernel
theorem d_Mo_count_57 : decode c_Mo_count 57 = .ok (.getfield 85, 3) := by decide +kernel
theorem d_Mo_count_60 : decode c_Mo_count 60 = .ok (.if_icmp .ge 21, 3) := by decide +kernel
theorem d_Mo_count_64 : decode c_Mo_count 64 = .ok (.getfield 27, 3) := by decide +kernel
theorem d_Mo_count_68 : decode c_Mo_count 68 = .ok (.iaload, 1) := by decide +kernel
theorem d_Mo_count_69 : decode c_Mo_count 69 = .ok (.ifCond .lt 6, 3) := by decide +kernel
theorem d_Mo_count_82 : decode c_Mo_count 82 = .ok (.ireturn, 1) := by decide +kernel
theorem d_Mo_count_87 : decode c_Mo_count 87 = .ok (.getfield 85, 3) := by decide +kernel
theorem d_Mo_count_90 : decode c_Mo_count 90 = .ok (.if_icmp .ge 18, 3) := by decide +kernel
theorem d_Mo_count_95 : decode c_Mo_count 95 = .ok (.getfield 33, 3) := by decide +kernel
theorem d_Mo_count_99 : decode c_Mo_count 99 = .ok (.iaload, 1) := by decide +kernel
theorem d_Mo_count_109 : decode c_Mo_count 109 = .ok (.ireturn, 1) := by decide +kernel
theorem d_Mo_count_111 : decode c_Mo_count 111 = .ok (.getfield 126, 3) := by decide +kernel
theorem d_Mo_count_114 : decode c_Mo_count 114 = .ok (.ireturn, 1) := by decide +kernel
theorem d_Mo_count_116 : decode c_Mo_count 116 = .ok (.getfield 134, 3) := by decide +kernel
theorem d_Mo_count_119 : decode c_Mo_count 119 = .ok (.ireturn, 1) := by decide +kernel
theorem d_Mo_count_124 : decode c_Mo_count 124 = .ok (.getfield 85, 3) := by decide +kernel
theorem d_Mo_count_127 : decode c_Mo_count 127 = .ok (.if_icmp .ge 21, 3) := by decide +kernel
theorem d_Mo_count_131 : decode c_Mo_count 131 = .ok (.getfield 20, 3) := by decide +kernel
theorem d_Mo_count_135 : decode c_Mo_count 135 = .ok (.iaload, 1) := by decide +kernel
theorem d_Mo_count_136 : decode c_Mo_count 136 = .ok (.ifCond .le 6, 3) := by decide +kernel
theorem d_Mo_count_149 : decode c_Mo_count 149 = .ok (.ireturn, 1) := by decide +kernel
theorem d_Mo_count_151 : decode c_Mo_count 151 = .ok (.getfield 75, 3) := by decide +kernel
theorem d_Mo_count_154 : decode c_Mo_count 154 = .ok (.ifCond .ne 7, 3) := by decide +kernel
theorem d_Mo_count_162 : decode c_Mo_count 162 = .ok (.getfield 17, 3) := by decide +kernel
theorem d_Mo_count_166 : decode c_Mo_count 166 = .ok (.invokevirtual 109, 3) := by decide +kernel
theorem d_Mo_count_169 : decode c_Mo_count 169 = .ok (.iaload, 1) := by decide +kernel
theorem d_Mo_count_170 : decode c_Mo_count 170 = .ok (.ireturn, 1) := by decide +kernel
theorem d_Mo_count_176 : decode c_Mo_count 176 = .ok (.if_icmp .ge 18, 3) := by decide +kernel
theorem d_Mo_count_181 : decode c_Mo_count 181 = .ok (.getfield 69, 3) := by decide +kernel
theorem d_Mo_count_185 : decode c_Mo_count 185 = .ok (.iaload, 1) := by decide +kernel
theorem d_Mo_count_195 : decode c_Mo_count 195 = .ok (.ireturn, 1) := by decide +kernel
theorem d_Mo_count_197 : decode c_Mo_count 197 = .ok (.ireturn, 1) := by decide +kernel
end
section
section GC
variable {κ : Nat × Nat} {μ ν : MD} {d : Nat} {M : Mm} {pc : Nat} {lv : LV} {st rest : List Value} {k n : Nat} {Q : Option Value → Mm → Prop}
theorem g_deep {d' : Nat} (h : G κ μ d M pc lv st k n Q) (hd : d ≤ d') : G κ μ d' M pc lv st k n Q := by
  intro p l e R s m args below meth c D A H locs cells slots ls C hS hM0 hl
  obtain ⟨hx, hb, hr, hml, hown, hts, hnw, hlk, hnm, hdf, hdl, hkc, hks, hA, hE0⟩ := C
  exact h p l e R s m args below meth c D A H locs cells slots ls ⟨hx, hb, hr, hml, hown, hts, hnw, hlk, hnm, by omega, by omega, hkc, hks, hA, hE0⟩ hS hM0 hl
/-- a list is shut, and what is no more needed is forgotten -/
theorem g_shut {a b cap : Nat} {mc : Int32} {xs : List Nat} {f : Nat → Option Nat} (M' : Mm) (hM : M a = some (eO 8 [.int mc, .ref b, .int (nI xs.length)])) (hMb : M b = some (aR sOb cap f)) (hcap : xs.length ≤ cap) (hc1 : cap ≤ 100000) (hf : ∀ i, i < xs.length → f i = xs[i]?)
    (hM1 : M' a = some (eL xs)) (hM2 : M' b = none) (hM3 : ∀ q, q ≠ a → M' q = M q ∨ M' q = none) (kk : G κ μ d M' pc lv st k n Q) : G κ μ d M pc lv st k n Q := by
  intro p l e R s m args below meth c D A H locs cells slots ls C hS hM0 hl
  obtain ⟨ws, tys, bk, hK, hP, hD, hz, hEn⟩ := id hM0
  refine kk p l e R s m args below meth c D A H locs cells slots ls C hS ⟨ws, tys, va_up bk a b, hK, hP, hD, hz, fun q e h => ?_⟩ hl
  have ha := hEn a _ hM
  obtain ⟨cA, hb1, hb2⟩ := hEn b _ hMb
  have hab : b ≠ a := fun x => by rw [x, hM] at hMb; cases hMb
  have hbz : b ≠ κ.1 := fun x => hz (by rw [← x]; exact mem_A hD hb1)
  have haz : a ≠ κ.1 := fun x => hz (by rw [← x]; exact mem_A hD ha)
  have hbk : ∀ q xs', M q = some (eL xs') → bk q ≠ a ∧ bk q ≠ b := fun q xs' h => ⟨(hEn q _ h).lists haz (by rw [hM]; exact fun h => by cases h), (hEn q _ h).lists hbz (by rw [hMb]; exact fun h => by cases h)⟩
  have hsub : ∀ q e, q ≠ a → M' q = some e → M q = some e := fun q e hq h => by
    rcases hM3 q hq with h1 | h1
    · rw [← h1]; exact h
    · rw [h1] at h; cases h
  by_cases hq : q = a
  · subst hq
    rw [hM1] at h
    cases h
    refine ⟨⟨mc, by rw [va_up_self]; exact ha⟩, Or.inr ⟨by rw [va_up_self]; exact hbz, by rw [va_up_self]; exact hM2, fun q' xs' h3 h4 => ?_, cA, cap, f, by rw [va_up_self]; exact hb1, hb2, hcap, hc1, hf⟩⟩
    rw [va_up_self] at h4
    by_cases hq' : q' = q
    · exact hq'
    · exfalso
      rw [va_up_ne _ _ hq'] at h4
      exact (hbk q' xs' (hsub q' _ hq' h3)).2 h4
  · have h := hsub q e hq h
    have h0 := hEn q e h
    match e, h, h0 with
    | .inl o, h, h0 => exact h0
    | .inr (.inl x), h, h0 => exact h0
    | .inr (.inr ys), h, ⟨⟨mc2, g0⟩, h2⟩ =>
      obtain ⟨hka, hkb⟩ := hbk q ys h
      refine ⟨⟨mc2, by rw [va_up_ne _ _ hq]; exact g0⟩, ?_⟩
      rw [va_up_ne _ _ hq]
      rcases h2 with h2 | ⟨g1, g2, g3, cA2, cap2, f2, g4, g5, g6, g7⟩
      · exact Or.inl h2
      · refine Or.inr ⟨g1, ?_, fun q' xs' h3 h4 => ?_, cA2, cap2, f2, g4, g5, g6, g7⟩
        · rcases hM3 _ hka with h1 | h1
          · rw [h1]; exact g2
          · exact h1
        · by_cases hq' : q' = a
          · rw [hq', va_up_self] at h4
            exact absurd h4.symm hkb
          · rw [va_up_ne _ _ hq'] at h4
            exact g3 q' xs' (hsub q' _ hq' h3) h4
theorem Can.up {E : String} {v a : Nat} {e : EE} (h : Can E M v) (hn : ∀ ci fs, M a ≠ some (eO ci fs)) : Can E (up M a e) v := by
  obtain ⟨ci, fs, q, h1, h2⟩ := h
  refine ⟨ci, fs, q, ?_, h2⟩
  rw [up_n (fun x => hn ci fs (by rw [← x]; exact h1))]
  exact h1
end GC
/-! the JDK's lists -/
section AL
variable {κ : Nat × Nat} {d : Nat} {M : Mm} {a : Nat} {xs : List Nat}
theorem abc_init : G κ m_AbC_init (d + 1) M 0 [some (.ref a)] [] 0 0 (fun v M' => v = none ∧ M' = M) := by
  refine g_seq s_AbC_init_0 rfl ?_
  refine g_objInit l_AbC_1 oi_1 oi_2 d_AbC_init_1 (Nat.le_of_ble_eq_true rfl) ?_
  exact g_vret rfl d_AbC_init_4 (⟨rfl, rfl⟩)
theorem abl_init {mc : Int32} {e2 e3 : Value} (hM : M a = some (eO 8 [.int mc, e2, e3])) : G κ m_AbL_init (d + 2) M 0 [some (.ref a)] [] 0 0 (fun v M' => v = none ∧ M' = up M a (eO 8 [.int 0, e2, e3])) := by
  refine g_seq s_AbL_init_0 rfl ?_
  refine g_invI  l_AbL_1 d_AbL_init_1 rfl ⟨rfl, Nat.le_of_ble_eq_true rfl, Nat.le_of_ble_eq_true rfl⟩ (abc_init) (Nat.le_of_eq (Nat.zero_add _)) (Nat.le_of_eq (Nat.zero_add _)) ?_
  rintro v M' ⟨rfl, rfl⟩
  refine g_seq s_AbL_init_4 rfl ?_
  refine g_put f_AbL_7 d_AbL_init_6 (hM) rfl rfl rfl ?_
  exact g_vret rfl d_AbL_init_9 (⟨rfl, rfl⟩)
theorem al_init {mc : Int32} {e2 : Value} (hM : M a = some (eO 8 [.int mc, e2, .int 0])) : G κ m_AL_init (d + 3) M 0 [some (.ref a)] [] 0 0 (fun v M' => v = none ∧ M' = up M a (eL [])) := by
  refine g_seq s_AL_init_0 rfl ?_
  refine g_invI  l_AL_1 d_AL_init_1 rfl ⟨rfl, Nat.le_of_ble_eq_true rfl, Nat.le_of_ble_eq_true rfl⟩ (abl_init hM) (Nat.le_of_eq (Nat.zero_add _)) (Nat.le_of_eq (Nat.zero_add _)) ?_
  rintro v M' ⟨rfl, rfl⟩
  refine g_seq s_AL_init_4 rfl ?_
  refine g_gets fs_AL_39 d_AL_init_5  ?_
  refine g_put f_AL_9 d_AL_init_8 (up_s) rfl rfl rfl ?_
  refine g_closeE (a := a) (mc := 0) (up M a (eL [])) up_s (fun q => ?_) ?_
  · by_cases hq : q = a <;> simp [up, hq]
  exact g_vret rfl d_AL_init_11 (⟨rfl, rfl⟩)
theorem al_size (hM : M a = some (eL xs)) : G κ m_AL_size d M 0 [some (.ref a)] [] 0 0 (fun v M' => v = some (.int (nI xs.length)) ∧ M' = M) := by
  refine g_open hM (fun mc hnil => ?_) (fun mc b cap f hb hba hbz hcap hc1 hf => ?_)
  · skip
    refine g_seq s_AL_size_0 rfl ?_
    refine g_get f_AL_48 d_AL_size_1 (up_s) rfl ?_
    subst hnil
    refine g_closeE (a := a) (mc := mc) M up_s (fun q => ?_) ?_
    · by_cases hq : q = a <;> simp [up, hq, hM]
    exact g_iret rfl d_AL_size_4 (⟨rfl, rfl⟩)
  · skip
    refine g_seq s_AL_size_0 rfl ?_
    refine g_get f_AL_48 d_AL_size_1 (by rw [up_n hba.symm]; exact up_s) rfl ?_
    refine g_shut (a := a) (b := b) (mc := mc) M (by rw [up_n hba.symm]; exact up_s) up_s hcap hc1 hf hM hb (fun q hq => ?_) ?_
    · by_cases hqb : q = b
      · rw [hqb]; exact Or.inr hb
      · exact Or.inl (by rw [up_n hqb, up_n hq])
    exact g_iret rfl d_AL_size_4 (⟨rfl, rfl⟩)
end AL
end
section
section AL2
variable {κ : Nat × Nat} {d : Nat} {M : Mm} {a : Nat} {xs : List Nat}
theorem nI_lt0 {j : Nat} (h : j ≤ 100000) : ¬ nI j < 0 := nI_pos (by omega)
theorem nI_cl {j : Nat} (h : j ≤ 100000) : (nI j).toNatClampNeg = j := nI_clamp (by omega)
theorem al_isEmpty (hM : M a = some (eL xs)) (hlen : xs.length ≤ 100000) : G κ m_AL_isEmpty d M 0 [some (.ref a)] [] 0 0 (fun v M' => v = some (.int (if xs = [] then 1 else 0)) ∧ M' = M) := by
  refine g_open hM (fun mc hnil => ?_) (fun mc b cap f hb hba hbz hcap hc1 hf => ?_)
  · skip
    refine g_seq s_AL_isEmpty_0 rfl ?_
    refine g_get f_AL_48 d_AL_isEmpty_1 (up_s) rfl ?_
    subst hnil
    refine g_closeE (a := a) (mc := mc) M up_s (fun q => ?_) ?_
    · by_cases hq : q = a <;> simp [up, hq, hM]
    refine g_if_ne (tgt := 11) d_AL_isEmpty_4 (by decide) (fun hc => absurd hc (fun h => h rfl)) (fun hc => ?_)
    refine g_seq s_AL_isEmpty_7 rfl ?_
    exact g_zret rfl rfl d_AL_isEmpty_12 (⟨rfl, rfl⟩)
  · skip
    refine g_seq s_AL_isEmpty_0 rfl ?_
    refine g_get f_AL_48 d_AL_isEmpty_1 (by rw [up_n hba.symm]; exact up_s) rfl ?_
    refine g_shut (a := a) (b := b) (mc := mc) M (by rw [up_n hba.symm]; exact up_s) up_s hcap hc1 hf hM hb (fun q hq => ?_) ?_
    · by_cases hqb : q = b
      · rw [hqb]; exact Or.inr hb
      · exact Or.inl (by rw [up_n hqb, up_n hq])
    refine g_if_ne (tgt := 11) d_AL_isEmpty_4 (by decide) (fun h => ?_) (fun h => ?_)
    · skip
      refine g_seq s_AL_isEmpty_11 rfl ?_
      have hne : ¬ xs = [] := fun e => h (by rw [e]; rfl)
      exact g_zret rfl rfl d_AL_isEmpty_12 (⟨by rw [if_neg hne], rfl⟩)
    · skip
      refine g_seq s_AL_isEmpty_7 rfl ?_
      have hne : xs = [] := by
        cases xs with
        | nil => rfl
        | cons x l => exact absurd h (nI_ne0 (by simp) (by omega))
      exact g_zret rfl rfl d_AL_isEmpty_12 (⟨by rw [if_pos hne], rfl⟩)
theorem prec_checkIndex {x y : Int32} (h0 : ¬ x < 0) (h1 : x < y) : G κ m_Prec_checkIndex d M 0 [some (.int x), some (.int y), some .null] [] 0 0 (fun v M' => v = some (.int x) ∧ M' = M) := by
  refine g_seq s_Prec_checkIndex_0 rfl ?_
  refine g_if_lt (tgt := 9) d_Prec_checkIndex_1 (by decide) (fun hc => absurd hc (h0)) (fun hc => ?_)
  refine g_seq s_Prec_checkIndex_4 rfl ?_
  refine g_icmp_lt (tgt := 16) d_Prec_checkIndex_6 (by decide) (fun hc => ?_) (fun hc => absurd hc (fun h => h h1))
  refine g_seq s_Prec_checkIndex_16 rfl ?_
  exact g_iret rfl d_Prec_checkIndex_17 (⟨rfl, rfl⟩)
theorem obs_checkIndex {x y : Int32} (h0 : ¬ x < 0) (h1 : x < y) : G κ m_Obs_checkIndex (d + 1) M 0 [some (.int x), some (.int y)] [] 0 0 (fun v M' => v = some (.int x) ∧ M' = M) := by
  refine g_seq s_Obs_checkIndex_0 rfl ?_
  refine g_invS  l_Obs_105 d_Obs_checkIndex_3 rfl ⟨rfl, Nat.le_of_ble_eq_true rfl, Nat.le_of_ble_eq_true rfl⟩ (prec_checkIndex h0 h1) (Nat.le_of_eq (Nat.zero_add _)) (Nat.le_of_eq (Nat.zero_add _)) ?_
  rintro v M' ⟨rfl, rfl⟩
  exact g_iret rfl d_Obs_checkIndex_6 (⟨rfl, rfl⟩)
theorem al_elementData {b cap j : Nat} {f : Nat → Option Nat} {e1 e3 : Value} (hM : M a = some (eO 8 [e1, .ref b, e3])) (hMb : M b = some (aR sOb cap f)) (hj : j < cap) (hj2 : j ≤ 100000) : G κ m_AL_elementData d M 0 [some (.ref a), some (.int (nI j))] [] 0 0 (fun v M' => v = some (va_rf (f j)) ∧ M' = M) := by
  refine g_seq s_AL_elementData_0 rfl ?_
  refine g_get f_AL_9 d_AL_elementData_1 (hM) rfl ?_
  refine g_seq s_AL_elementData_4 rfl ?_
  refine g_aald d_AL_elementData_5 hMb (by unfold vp_in; rw [nI_cl hj2]; exact fun h => h.elim (nI_lt0 hj2) (fun h => by omega)) ?_
  rw [nI_cl hj2]
  cases f j with
  | none =>
    exact g_aretN rfl (by first | exact Or.inl ⟨_, rfl⟩ | exact Or.inr ⟨_, rfl⟩) d_AL_elementData_6 (⟨rfl, rfl⟩)
  | some y =>
    exact g_aret rfl (by first | exact Or.inl ⟨_, rfl⟩ | exact Or.inr ⟨_, rfl⟩) d_AL_elementData_6 (⟨rfl, rfl⟩)
theorem al_get {j y : Nat} (hM : M a = some (eL xs)) (hj : xs[j]? = some y) (hlen : xs.length ≤ 100000) : G κ m_AL_get (d + 2) M 0 [some (.ref a), some (.int (nI j))] [] 0 0 (fun v M' => v = some (.ref y) ∧ M' = M) := by
  have hjl : j < xs.length := (List.getElem?_eq_some_iff.mp hj).1
  refine g_open hM (fun mc hnil => ?_) (fun mc b cap f hb hba hbz hcap hc1 hf => ?_)
  · subst hnil
    simp at hjl
  · have hA : up (up M a (eO 8 [.int mc, .ref b, .int (nI xs.length)])) b (aR sOb cap f) a = some (eO 8 [.int mc, .ref b, .int (nI xs.length)]) := by rw [up_n hba.symm]; exact up_s
    refine g_seq s_AL_get_0 rfl ?_
    refine g_get f_AL_48 d_AL_get_2 (hA) rfl ?_
    refine g_invS  l_AL_118 d_AL_get_5 rfl ⟨rfl, Nat.le_of_ble_eq_true rfl, Nat.le_of_ble_eq_true rfl⟩ (obs_checkIndex (nI_lt0 (by omega)) (nI_lt hjl (by omega))) (Nat.le_of_eq (Nat.zero_add _)) (Nat.le_of_eq (Nat.zero_add _)) ?_
    rintro v M' ⟨rfl, rfl⟩
    refine g_seq s_AL_get_8 rfl ?_
    refine g_invV  l_AL_123 d_AL_get_11 rfl ⟨rfl, Nat.le_of_ble_eq_true rfl, Nat.le_of_ble_eq_true rfl⟩ (hA) (al_elementData hA up_s (by omega) (by omega)) (Nat.le_of_eq (Nat.zero_add _)) (Nat.le_of_eq (Nat.zero_add _)) ?_
    rintro v M' ⟨rfl, rfl⟩
    rw [hf j hjl, hj]
    refine g_shut (a := a) (b := b) (mc := mc) M hA up_s hcap hc1 hf hM hb (fun q hq => ?_) ?_
    · by_cases hqb : q = b
      · rw [hqb]; exact Or.inr hb
      · exact Or.inl (by rw [up_n hqb, up_n hq])
    exact g_aret rfl (by first | exact Or.inl ⟨_, rfl⟩ | exact Or.inr ⟨_, rfl⟩) d_AL_get_14 (⟨rfl, rfl⟩)
end AL2
end
section
section AL3
variable {κ : Nat × Nat} {d : Nat} {M : Mm} {a : Nat} {xs : List Nat}
theorem up_up {a : Nat} {e e' : EE} : up (up M a e) a e' = up M a e' := by
  funext q
  by_cases hq : q = a <;> simp [up, hq]
theorem vp_nI {j cap : Nat} (h : j < cap) (h2 : j ≤ 100000) : vp_in (nI j) cap := by
  unfold vp_in
  rw [nI_cl h2]
  exact fun h3 => h3.elim (nI_lt0 h2) (fun h3 => by omega)
theorem as_newLength {o x y N : Nat} (ho : o + x + y ≤ 100000) (hN : N = o + (if x < y then y else x)) (h0 : 0 < N) : G κ m_AS_newLength (d + 1) M 0 [some (.int (nI o)), some (.int (nI x)), some (.int (nI y)), none] [] 0 0 (fun v M' => v = some (.int (nI N)) ∧ M' = M) := by
  have e1 : nI o + (if nI x < nI y then nI y else nI x) = nI N := by
    rw [hN]
    by_cases h : x < y
    · rw [if_pos h, if_pos (nI_lt h (by omega)), nI_add]
    · rw [if_neg h, if_neg (nI_nlt (by omega) (by omega)), nI_add]
  have hN2 : N ≤ 100000 := by rw [hN]; split <;> omega
  refine g_seq s_AS_newLength_0 rfl ?_
  refine g_mmax l_AS_194 mx_max1 mx_i mx_max2 d_AS_newLength_3 (Nat.le_of_ble_eq_true rfl) ?_
  refine g_seq s_AS_newLength_6 rfl ?_
  rw [e1]
  refine g_icmp_ge (tgt := 21) d_AS_newLength_10 (by decide) (fun hc => absurd hc (fun h => nI_nle h0 (by omega) h)) (fun hc => ?_)
  refine g_seq s_AS_newLength_13 rfl ?_
  refine g_ldc k_AS_200 d_AS_newLength_14  ?_
  have hmx : ¬ (2147483639 : Int32) < nI N := by
    rw [show (2147483639 : Int32) = nI 2147483639 from rfl]
    exact nI_nlt (by omega) (by omega)
  refine g_icmp_gt (tgt := 21) d_AS_newLength_16 (by decide) (fun hc => absurd hc (hmx)) (fun hc => ?_)
  refine g_seq s_AS_newLength_19 rfl ?_
  exact g_iret rfl d_AS_newLength_20 (⟨rfl, rfl⟩)
theorem arrs_copyOf3 {b cap N : Nat} {f : Nat → Option Nat} (hMb : M b = some (aR sOb cap f)) (hcap : cap ≤ N) (hN : N ≤ 100000) (hel : ∀ i, i < cap → ∀ y, f i = some y → Can sOb M y) : G κ m_Arrs_copyOf3 (d + 1) M 0 [some (.ref b), some (.int (nI N)), some (.ref κ.2), none] [] 1 N (fun v M' => ∃ q g, v = some (.ref q) ∧ M q = none ∧ q ≠ κ.1 ∧ M' = up M q (aR sOb N g) ∧ ∀ i, i < cap → g i = f i) := by
  refine g_seq s_Arrs_copyOf3_0 rfl ?_
  refine g_ldcM cl_Arrs_110 d_Arrs_copyOf3_1  ?_
  refine g_acmp_ne (tgt := 13) d_Arrs_copyOf3_3 (by decide) (fun hc => absurd hc (fun h => h rfl)) (fun hc => ?_)
  refine g_seq s_Arrs_copyOf3_6 rfl ?_
  refine g_newR (k' := 0) (n' := 0) (N := N) cl_Arrs_2 ao_Obj d_Arrs_copyOf3_7 (nI_lt0 hN) (nI_cl hN) hN (by omega) (by omega) (fun q hq hz => ?_)
  have hbq : b ≠ q := fun x => by rw [x, hq] at hMb; cases hMb
  refine g_seq s_Arrs_copyOf3_10 rfl ?_
  refine g_alen d_Arrs_copyOf3_30 ((up_n hbq).trans hMb) rfl ?_
  refine g_seq s_Arrs_copyOf3_31 rfl ?_
  refine g_mmin l_Arrs_304 mx_min1 mx_i mx_min2 d_Arrs_copyOf3_32 (Nat.le_of_ble_eq_true rfl) ?_
  rw [if_neg (show ¬ nI N < nI cap from nI_nlt hcap (by omega))]
  refine g_acopy (a := b) (b := q) (na := cap) (nb := N) (f := f) (g := fun _ => none) l_Arrs_150 ac_1 ac_2 ac_3 d_Arrs_copyOf3_35 (by rw [up_n hbq]; exact hMb) up_s (by decide) (by decide) (nI_lt0 (by omega)) (by rw [nI_cl (by omega)]; show 0 + cap ≤ cap; omega) (by rw [nI_cl (by omega)]; show 0 + cap ≤ N; omega) (fun i hi y hy => ?_) (Nat.le_of_ble_eq_true rfl) ?_
  · rw [nI_cl (by omega)] at hi
    have hy2 : f i = some y := by
      have : (0 : Int32).toNatClampNeg + i = i := by show 0 + i = i; omega
      rw [this] at hy; exact hy
    exact (hel i hi y hy2).up (fun ci fs h => by rw [hq] at h; cases h)
  · skip
    refine g_seq s_Arrs_copyOf3_38 rfl ?_
    exact g_aret rfl (by first | exact Or.inl ⟨_, rfl⟩ | exact Or.inr ⟨_, rfl⟩) d_Arrs_copyOf3_39 (⟨q, _, rfl, hq, hz, up_up, fun i hi => by rw [nI_cl (by omega)]; show va_cpy f _ 0 0 cap i = f i; rw [pk_cpy_in (by omega) (by omega)]; congr 1; omega⟩)
theorem arrs_copyOf {b cap N : Nat} {f : Nat → Option Nat} (hMb : M b = some (aR sOb cap f)) (hcap : cap ≤ N) (hN : N ≤ 100000) (hel : ∀ i, i < cap → ∀ y, f i = some y → Can sOb M y) : G κ m_Arrs_copyOf (d + 2) M 0 [some (.ref b), some (.int (nI N))] [] 1 N (fun v M' => ∃ q g, v = some (.ref q) ∧ M q = none ∧ q ≠ κ.1 ∧ M' = up M q (aR sOb N g) ∧ ∀ i, i < cap → g i = f i) := by
  refine g_seq s_Arrs_copyOf_0 rfl ?_
  refine g_getC l_Arrs_86 gc_1 gc_2 gc_3 d_Arrs_copyOf_3 hMb (Nat.le_of_ble_eq_true rfl) ?_
  refine g_invS (k2 := 0) (n2 := 0) l_Arrs_300 d_Arrs_copyOf_6 rfl ⟨rfl, Nat.le_of_ble_eq_true rfl, Nat.le_of_ble_eq_true rfl⟩ (arrs_copyOf3 hMb hcap hN hel) (by first | omega | (simp; omega)) (by first | omega | (simp; omega)) ?_
  rintro v M' ⟨q, g, rfl, h⟩
  exact g_aret rfl (by first | exact Or.inl ⟨_, rfl⟩ | exact Or.inr ⟨_, rfl⟩) d_Arrs_copyOf_9 (⟨q, g, rfl, h⟩)
/-- the room that a full list of n elements comes to -/
def gN (n : Nat) : Nat := n + (if 1 < n / 2 then n / 2 else 1)
theorem al_growI {b cap : Nat} {mc : Int32} {e3 : Value} {f : Nat → Option Nat} (hM : M a = some (eO 8 [.int mc, .ref b, e3])) (hMb : M b = some (aR sOb cap f)) (hbz : b ≠ κ.1) (hcap : cap ≤ 10000) (hel : ∀ i, i < cap → ∀ y, f i = some y → Can sOb M y) : G κ m_AL_growI (d + 3) M 0 [some (.ref a), some (.int (nI (cap + 1))), none, none] [] 1 (gN cap) (fun v M' => ∃ q g, v = some (.ref q) ∧ M q = none ∧ q ≠ κ.1 ∧ M' = up (up M q (aR sOb (gN cap) g)) a (eO 8 [.int mc, .ref q, e3]) ∧ ∀ i, i < cap → g i = f i) := by
  have hgN : gN cap ≤ 100000 ∧ cap ≤ gN cap ∧ 0 < gN cap := by unfold gN; split <;> omega
  have e1 : nI (cap + 1) - nI cap = nI 1 := by rw [pk_sub (by omega)]; congr 1; omega
  have e2 : nI cap >>> ((1 : Int32) &&& 31) = nI (cap / 2) := pk_shrN (by omega) _ 1 (by decide)
  have key : G κ m_AL_growI (d + 3) M 20 [some (.ref a), some (.int (nI (cap + 1))), some (.int (nI cap)), none] [] 1 (gN cap) (fun v M' => ∃ q g, v = some (.ref q) ∧ M q = none ∧ q ≠ κ.1 ∧ M' = up (up M q (aR sOb (gN cap) g)) a (eO 8 [.int mc, .ref q, e3]) ∧ ∀ i, i < cap → g i = f i) := by
    refine g_seq s_AL_growI_20 rfl ?_
    rw [e1, e2]
    refine g_invS (k2 := 1) (n2 := gN cap) l_AL_73 d_AL_growI_27 rfl ⟨rfl, Nat.le_of_ble_eq_true rfl, Nat.le_of_ble_eq_true rfl⟩ (as_newLength (N := gN cap) (by omega) rfl hgN.2.2) (by first | omega | (simp; omega)) (by first | omega | (simp; omega)) ?_
    rintro v M' ⟨rfl, rfl⟩
    refine g_seq s_AL_growI_30 rfl ?_
    refine g_get f_AL_9 d_AL_growI_33 (hM) rfl ?_
    refine g_seq s_AL_growI_36 rfl ?_
    refine g_invS (k2 := 0) (n2 := 0) l_AL_66 d_AL_growI_37 rfl ⟨rfl, Nat.le_of_ble_eq_true rfl, Nat.le_of_ble_eq_true rfl⟩ (arrs_copyOf hMb hgN.2.1 hgN.1 hel) (by first | omega | (simp; omega)) (by first | omega | (simp; omega)) ?_
    rintro v M' ⟨q, g, rfl, hq, hz, rfl, hg⟩
    have haq : a ≠ q := fun x => by rw [x, hq] at hM; cases hM
    refine g_seq s_AL_growI_40 rfl ?_
    refine g_put f_AL_9 d_AL_growI_41 (by rw [up_n haq]; exact hM) rfl rfl rfl ?_
    exact g_aret rfl (by first | exact Or.inl ⟨_, rfl⟩ | exact Or.inr ⟨_, rfl⟩) d_AL_growI_44 (⟨q, g, rfl, hq, hz, rfl, hg⟩)
  refine g_seq s_AL_growI_0 rfl ?_
  refine g_get f_AL_9 d_AL_growI_1 (hM) rfl ?_
  refine g_alen d_AL_growI_4 hMb rfl ?_
  refine g_seq s_AL_growI_5 rfl ?_
  refine g_if_gt (tgt := 20) d_AL_growI_7 (by decide) (fun h => ?_) (fun h => ?_)
  · skip
    exact key
  · skip
    refine g_seq s_AL_growI_10 rfl ?_
    refine g_get f_AL_9 d_AL_growI_11 (hM) rfl ?_
    refine g_gets fs_AL_39 d_AL_growI_14  ?_
    refine g_acmp_eq (tgt := 45) d_AL_growI_17 (by decide) (fun hc => absurd hc (hbz)) (fun hc => ?_)
    exact key
theorem al_growE {mc : Int32} {e3 : Value} (hM : M a = some (eO 8 [.int mc, .ref κ.1, e3])) : G κ m_AL_growI (d + 3) M 0 [some (.ref a), some (.int 1), none, none] [] 1 10 (fun v M' => ∃ q, v = some (.ref q) ∧ M q = none ∧ q ≠ κ.1 ∧ M' = up (up M q (aR sOb 10 (fun _ => none))) a (eO 8 [.int mc, .ref q, e3])) := by
  refine g_seq s_AL_growI_0 rfl ?_
  refine g_get f_AL_9 d_AL_growI_1 (hM) rfl ?_
  refine g_alenE d_AL_growI_4  ?_
  refine g_seq s_AL_growI_5 rfl ?_
  refine g_if_gt (tgt := 20) d_AL_growI_7 (by decide) (fun hc => absurd hc (by decide)) (fun hc => ?_)
  refine g_seq s_AL_growI_10 rfl ?_
  refine g_get f_AL_9 d_AL_growI_11 (hM) rfl ?_
  refine g_gets fs_AL_39 d_AL_growI_14  ?_
  refine g_acmp_eq (tgt := 45) d_AL_growI_17 (by decide) (fun hc => ?_) (fun hc => absurd hc (fun h => h rfl))
  refine g_seq s_AL_growI_45 rfl ?_
  refine g_mmax l_AL_79 mx_max1 mx_i mx_max2 d_AL_growI_49 (Nat.le_of_ble_eq_true rfl) ?_
  rw [if_neg (show ¬ (10 : Int32) < 1 by decide)]
  refine g_newR (k' := 0) (n' := 0) (N := 10) cl_AL_7 ao_Obj d_AL_growI_52 (by decide) (by decide) (by decide) (by omega) (by omega) (fun q hq hz => ?_)
  have haq : a ≠ q := fun x => by rw [x, hq] at hM; cases hM
  refine g_seq s_AL_growI_55 rfl ?_
  refine g_put f_AL_9 d_AL_growI_56 (by rw [up_n haq]; exact hM) rfl rfl rfl ?_
  exact g_aret rfl (by first | exact Or.inl ⟨_, rfl⟩ | exact Or.inr ⟨_, rfl⟩) d_AL_growI_59 (⟨q, rfl, hq, hz, rfl⟩)
/-- an open list: its cell, what holds its elements (or the empty one) -/
def LO (κ : Nat × Nat) (M : Mm) (a b : Nat) (mc : Int32) (xs : List Nat) (cap : Nat) (f : Nat → Option Nat) : Prop := M a = some (eO 8 [.int mc, .ref b, .int (nI xs.length)]) ∧ ((b = κ.1 ∧ xs = [] ∧ cap = 0) ∨ (b ≠ κ.1 ∧ M b = some (aR sOb cap f))) ∧ xs.length ≤ cap ∧ cap ≤ 100000 ∧ ∀ i, i < xs.length → f i = xs[i]?
theorem al_grow {b cap : Nat} {mc : Int32} {f : Nat → Option Nat} (h : LO κ M a b mc xs cap f) (hfull : xs.length = cap) (hlen : xs.length ≤ 10000) (hel : ∀ y ∈ xs, Can sOb M y) : G κ m_AL_grow (d + 4) M 0 [some (.ref a)] [] 1 (2 * xs.length + 10) (fun v M' => ∃ q N g, v = some (.ref q) ∧ M q = none ∧ q ≠ κ.1 ∧ M' = up (up M q (aR sOb N g)) a (eO 8 [.int mc, .ref q, .int (nI xs.length)]) ∧ xs.length < N ∧ N ≤ 100000 ∧ ∀ i, i < xs.length → g i = xs[i]?) := by
  obtain ⟨hM, hb, hcap, hc1, hf⟩ := h
  refine g_seq s_AL_grow_0 rfl ?_
  refine g_get f_AL_48 d_AL_grow_2 (hM) rfl ?_
  refine g_seq s_AL_grow_5 rfl ?_
  rcases hb with ⟨rfl, rfl, rfl⟩ | ⟨hbz, hMb⟩
  · refine g_invV (k2 := 0) (n2 := 0) l_AL_69 d_AL_grow_7 rfl ⟨rfl, Nat.le_of_ble_eq_true rfl, Nat.le_of_ble_eq_true rfl⟩ (hM) (al_growE hM) (by first | omega | (simp; omega)) (by first | omega | (simp; omega)) ?_
    rintro v M' ⟨q, rfl, h1, h2, rfl⟩
    exact g_aret rfl (by first | exact Or.inl ⟨_, rfl⟩ | exact Or.inr ⟨_, rfl⟩) d_AL_grow_10 (⟨q, 10, _, rfl, h1, h2, rfl, by decide, by decide, fun i hi => absurd hi (Nat.not_lt_zero _)⟩)
  · have hgN : gN cap ≤ 2 * xs.length + 10 ∧ xs.length < gN cap ∧ gN cap ≤ 100000 := by unfold gN; split <;> omega
    rw [nI_1, hfull]
    refine g_invV (k2 := 0) (n2 := 0) l_AL_69 d_AL_grow_7 rfl ⟨rfl, Nat.le_of_ble_eq_true rfl, Nat.le_of_ble_eq_true rfl⟩ (hM) (al_growI hM hMb hbz (by omega) (fun i hi y hy => hel y (by rw [hf i (by omega)] at hy; exact List.mem_of_getElem? hy))) (by first | omega | (simp; omega)) (by first | omega | (simp; omega)) ?_
    rintro v M' ⟨q, g, rfl, h1, h2, rfl, hg⟩
    exact g_aret rfl (by first | exact Or.inl ⟨_, rfl⟩ | exact Or.inr ⟨_, rfl⟩) d_AL_grow_10 (⟨q, _, g, rfl, h1, h2, by rw [hfull], by omega, hgN.2.2, fun i hi => by rw [hg i (by omega)]; exact hf i (by omega)⟩)
end AL3
end
section
section AL4
variable {κ : Nat × Nat} {d : Nat} {M : Mm} {a : Nat} {xs : List Nat}
theorem nI_eqI {a b : Nat} (ha : a ≤ 100000) (hb : b ≤ 100000) : nI a = nI b ↔ a = b := nI_eq (by omega) (by omega)
theorem can_no8 : Cond.castable "java/util/ArrayList" sOb ∉ nW := by decide +kernel
theorem Can.nel {x : Nat} {fs : List Value} (h : Can sOb M x) (hM : M a = some (eO 8 fs)) : x ≠ a := fun e => by
  obtain ⟨ci, fs', q, h1, h2, h3⟩ := h
  rw [e, hM] at h1
  cases h1
  cases h2
  exact can_no8 h3
theorem Can.nn {x : Nat} {E : String} (h : Can E M x) (hM : ∀ ci fs, M a ≠ some (eO ci fs)) : x ≠ a := fun e => by
  obtain ⟨ci, fs', q, h1, h2, h3⟩ := h
  exact hM ci fs' (by rw [← e]; exact h1)
theorem can_upn {x : Nat} {E : String} {e : EE} (h : Can E M x) (hne : x ≠ a) : Can E (up M a e) x := by
  obtain ⟨ci, fs', q, h1, h2, h3⟩ := h
  exact ⟨ci, fs', q, by rw [up_n hne]; exact h1, h2, h3⟩
theorem al_add3 {b cap x : Nat} {mc : Int32} {f : Nat → Option Nat} (h : LO κ M a b mc xs cap f) (hlen : xs.length ≤ 10000) (hx : Can sOb M x) (hel : ∀ y ∈ xs, Can sOb M y) : G κ m_AL_add3 (d + 5) M 0 [some (.ref a), some (.ref x), some (.ref b), some (.int (nI xs.length))] [] 1 (2 * xs.length + 10)
    (fun v M' => v = none ∧ ∃ b' cap' f', (b' = b ∨ M b' = none) ∧ b' ≠ κ.1 ∧ (∀ q, q ≠ a → q ≠ b' → M' q = M q) ∧ M' a = some (eO 8 [.int mc, .ref b', .int (nI (xs.length + 1))]) ∧ M' b' = some (aR sOb cap' f') ∧ xs.length + 1 ≤ cap' ∧ cap' ≤ 100000 ∧ ∀ i, i < xs.length + 1 → f' i = (xs ++ [x])[i]?) := by
  have hLO := h
  obtain ⟨hM, hb, hcap, hc1, hf⟩ := h
  have key : ∀ (M1 : Mm) (b1 cap1 k n : Nat) (f1 : Nat → Option Nat), M1 a = some (eO 8 [.int mc, .ref b1, .int (nI xs.length)]) → M1 b1 = some (aR sOb cap1 f1) → Can sOb M1 x → xs.length < cap1 → cap1 ≤ 100000 → (∀ i, i < xs.length → f1 i = xs[i]?) → (b1 = b ∨ M b1 = none) → b1 ≠ κ.1 → (∀ q, q ≠ a → q ≠ b1 → M1 q = M q) →
      G κ m_AL_add3 (d + 5) M1 11 [some (.ref a), some (.ref x), some (.ref b1), some (.int (nI xs.length))] [] k n
    (fun v M' => v = none ∧ ∃ b' cap' f', (b' = b ∨ M b' = none) ∧ b' ≠ κ.1 ∧ (∀ q, q ≠ a → q ≠ b' → M' q = M q) ∧ M' a = some (eO 8 [.int mc, .ref b', .int (nI (xs.length + 1))]) ∧ M' b' = some (aR sOb cap' f') ∧ xs.length + 1 ≤ cap' ∧ cap' ≤ 100000 ∧ ∀ i, i < xs.length + 1 → f' i = (xs ++ [x])[i]?) := by
    intro M1 b1 cap1 k n f1 h1 h2 h3 h4 h9 h5 h6 h7 h8
    have hab : a ≠ b1 := fun e => by rw [← e, h1] at h2; cases h2
    refine g_seq s_AL_add3_11 rfl ?_
    refine g_aast d_AL_add3_14 h2 (vp_nI h4 (by omega)) h3 ?_
    rw [nI_cl (by omega)]
    refine g_seq s_AL_add3_15 rfl ?_
    refine g_put f_AL_48 d_AL_add3_19 (by rw [up_n hab]; exact h1) rfl rfl rfl ?_
    have hg : ∀ i, i < xs.length + 1 → va_up f1 xs.length (some x) i = (xs ++ [x])[i]? := by
      intro i hi
      by_cases hie : i = xs.length
      · subst hie
        rw [va_up_self]; simp
      · rw [va_up_ne _ _ hie, h5 i (by omega), List.getElem?_append_left (by omega)]
    exact g_vret rfl d_AL_add3_22 (⟨rfl, b1, cap1, va_up f1 xs.length (some x), h6, h7, fun q hq hqb => by rw [up_n hq, up_n hqb]; exact h8 q hq hqb, by rw [up_s, nI_1], by rw [up_n hab.symm]; exact up_s, h4, h9, hg⟩)
  have grown : ∀ k n : Nat, xs.length = cap → G κ m_AL_add3 (d + 5) M 6 [some (.ref a), some (.ref x), some (.ref b), some (.int (nI xs.length))] [] 1 (2 * xs.length + 10)
    (fun v M' => v = none ∧ ∃ b' cap' f', (b' = b ∨ M b' = none) ∧ b' ≠ κ.1 ∧ (∀ q, q ≠ a → q ≠ b' → M' q = M q) ∧ M' a = some (eO 8 [.int mc, .ref b', .int (nI (xs.length + 1))]) ∧ M' b' = some (aR sOb cap' f') ∧ xs.length + 1 ≤ cap' ∧ cap' ≤ 100000 ∧ ∀ i, i < xs.length + 1 → f' i = (xs ++ [x])[i]?) := by
    intro k n hfull
    refine g_seq s_AL_add3_6 rfl ?_
    refine g_invV (k2 := 0) (n2 := 0) l_AL_129 d_AL_add3_7 rfl ⟨rfl, Nat.le_of_ble_eq_true rfl, Nat.le_of_ble_eq_true rfl⟩ (hM) (al_grow hLO hfull hlen hel) (by first | omega | (simp; omega)) (by first | omega | (simp; omega)) ?_
    rintro v M' ⟨q, N, g, rfl, h1, h2, rfl, h3, h4, h5⟩
    have haq : a ≠ q := fun e => by rw [e, h1] at hM; cases hM
    refine g_seq (is := [(.astore_n 2, 1, 0)]) (pc' := 11) (by decide +kernel) rfl ?_
    exact key _ q N 0 0 g up_s (by rw [up_n haq.symm]; exact up_s) (can_upn (can_upn hx (hx.nn (fun ci fs h => by rw [h1] at h; cases h))) (hx.nel hM)) h3 h4 h5 (Or.inr h1) h2 (fun q' hq hqb => by rw [up_n hq, up_n hqb])
  rcases hb with ⟨hbz, hnil, hc0⟩ | ⟨hbz, hMb⟩
  · subst hnil
    subst hbz
    refine g_seq s_AL_add3_0 rfl ?_
    refine g_alenE d_AL_add3_2  ?_
    refine g_icmp_ne (tgt := 11) d_AL_add3_3 (by decide) (fun hc => absurd hc (fun h => h rfl)) (fun hc => ?_)
    exact grown 0 0 hc0.symm
  · skip
    refine g_seq s_AL_add3_0 rfl ?_
    refine g_alen d_AL_add3_2 hMb rfl ?_
    refine g_icmp_ne (tgt := 11) d_AL_add3_3 (by decide) (fun hc => ?_) (fun hc => ?_)
    · skip
      have hne : xs.length ≠ cap := fun e => hc (by rw [e])
      exact key M b cap _ _ f hM hMb hx (by omega) hc1 hf (Or.inl rfl) hbz (fun _ _ _ => rfl)
    · skip
      exact grown 0 0 ((nI_eqI (by omega) hc1).mp hc)
end AL4
end
section
section AL5
variable {κ : Nat × Nat} {d : Nat} {M : Mm} {a : Nat} {xs : List Nat}
/-- an open list, and the memory in which it was shut -/
def LQ (κ : Nat × Nat) (M Mo : Mm) (a b : Nat) (mc : Int32) (xs : List Nat) (cap : Nat) (f : Nat → Option Nat) : Prop := LO κ Mo a b mc xs cap f ∧ (∀ q, q ≠ a → Mo q = M q ∨ M q = none) ∧ (b ≠ κ.1 → M b = none) ∧ M a = some (eL xs)
theorem g_openQ {μ : MD} {pc : Nat} {lv : LV} {st : List Value} {k n : Nat} {Q : Option Value → Mm → Prop} (hM : M a = some (eL xs)) (kk : ∀ Mo b mc cap f, LQ κ M Mo a b mc xs cap f → G κ μ d Mo pc lv st k n Q) : G κ μ d M pc lv st k n Q := by
  refine g_open hM (fun mc hnil => ?_) (fun mc b cap f hb hba hbz hcap hc1 hf => ?_)
  · exact kk _ κ.1 mc 0 (fun _ => none) ⟨⟨up_s, Or.inl ⟨rfl, hnil, rfl⟩, by rw [hnil]; exact Nat.le_refl _, by omega, fun i hi => by rw [hnil] at hi; exact absurd hi (Nat.not_lt_zero _)⟩, fun q hq => Or.inl (up_n hq), fun h => absurd rfl h, hM⟩
  · refine kk _ b mc cap f ⟨⟨by rw [up_n hba.symm]; exact up_s, Or.inr ⟨hbz, up_s⟩, hcap, hc1, hf⟩, fun q hq => ?_, fun _ => hb, hM⟩
    by_cases hqb : q = b
    · rw [hqb]; exact Or.inr hb
    · exact Or.inl (by rw [up_n hqb, up_n hq])
theorem LQ.can {Mo : Mm} {b cap x : Nat} {mc : Int32} {f : Nat → Option Nat} (h : LQ κ M Mo a b mc xs cap f) (hx : Can sOb M x) : Can sOb Mo x := by
  obtain ⟨ci, fs, q, h1, h2⟩ := hx
  refine ⟨ci, fs, q, ?_, h2⟩
  have hxa : x ≠ a := fun e => by rw [e, h.2.2.2] at h1; cases h1
  rcases h.2.1 x hxa with h3 | h3
  · rw [h3]; exact h1
  · rw [h3] at h1; cases h1
theorem g_shutQ {μ : MD} {pc : Nat} {lv : LV} {st : List Value} {k n : Nat} {Q : Option Value → Mm → Prop} {Mo M2 : Mm} {b b' cap cap' : Nat} {mc mc' : Int32} {f f' : Nat → Option Nat} {ys : List Nat} (h : LQ κ M Mo a b mc xs cap f) (h1 : M2 a = some (eO 8 [.int mc', .ref b', .int (nI ys.length)])) (h2 : M2 b' = some (aR sOb cap' f')) (h3 : ys.length ≤ cap') (h4 : cap' ≤ 100000) (h5 : ∀ i, i < ys.length → f' i = ys[i]?)
    (h6 : b' = b ∨ Mo b' = none) (h7 : b' ≠ κ.1) (h8 : ∀ q, q ≠ a → q ≠ b' → M2 q = Mo q) (kk : G κ μ d (up M a (eL ys)) pc lv st k n Q) : G κ μ d M2 pc lv st k n Q := by
  obtain ⟨-, g2, g3, g4⟩ := h
  have hba : b' ≠ a := fun e => by rw [e, h1] at h2; cases h2
  have hbn : M b' = none := by
    rcases h6 with h6 | h6
    · rw [h6]; exact g3 (by rw [← h6]; exact h7)
    · rcases g2 b' hba with h9 | h9
      · rw [← h9]; exact h6
      · exact h9
  refine g_shut (a := a) (b := b') (mc := mc') (up M a (eL ys)) h1 h2 h3 h4 h5 up_s (by rw [up_n hba]; exact hbn) (fun q hq => ?_) kk
  rw [up_n hq]
  by_cases hqb : q = b'
  · rw [hqb]; exact Or.inr hbn
  · rw [h8 q hq hqb]
    rcases g2 q hq with h9 | h9
    · exact Or.inl h9.symm
    · exact Or.inr h9
theorem LO.bump {b cap : Nat} {mc mc' : Int32} {f : Nat → Option Nat} (h : LO κ M a b mc xs cap f) : LO κ (up M a (eO 8 [.int mc', .ref b, .int (nI xs.length)])) a b mc' xs cap f := by
  obtain ⟨h1, h2, h3⟩ := h
  refine ⟨up_s, ?_, h3⟩
  rcases h2 with h2 | ⟨h2, h4⟩
  · exact Or.inl h2
  · exact Or.inr ⟨h2, by rw [up_n (fun e => by rw [e, h1] at h4; cases h4)]; exact h4⟩
theorem al_add {x : Nat} (hM : M a = some (eL xs)) (hlen : xs.length ≤ 10000) (hx : Can sOb M x) (hel : ∀ y ∈ xs, Can sOb M y) : G κ m_AL_add (d + 6) M 0 [some (.ref a), some (.ref x)] [] 1 (2 * xs.length + 10) (fun v M' => v = some (.int 1) ∧ M' = up M a (eL (xs ++ [x]))) := by
  refine g_openQ hM (fun Mo b mc cap f h => ?_)
  have hMo := h.1.1
  refine g_seq s_AL_add_0 rfl ?_
  refine g_get f_AL_63 d_AL_add_2 (hMo) rfl ?_
  refine g_seq s_AL_add_5 rfl ?_
  refine g_put f_AL_63 d_AL_add_7 (hMo) rfl rfl rfl ?_
  refine g_seq s_AL_add_10 rfl ?_
  refine g_get f_AL_9 d_AL_add_13 (up_s) rfl ?_
  refine g_seq s_AL_add_16 rfl ?_
  refine g_get f_AL_48 d_AL_add_17 (up_s) rfl ?_
  refine g_invV (k2 := 0) (n2 := 0) l_AL_131 d_AL_add_20 rfl ⟨rfl, Nat.le_of_ble_eq_true rfl, Nat.le_of_ble_eq_true rfl⟩ (up_s) (al_add3 h.1.bump hlen (can_upn (h.can hx) ((h.can hx).nel hMo)) (fun y hy => can_upn (h.can (hel y hy)) ((h.can (hel y hy)).nel hMo))) (by first | omega | (simp; omega)) (by first | omega | (simp; omega)) ?_
  rintro v M' ⟨rfl, b', cap', f', h1, h2, h3, h4, h5, h6, h7, h8⟩
  have hba : b' ≠ a := fun e => by rw [e, h4] at h5; cases h5
  have hl1 : (xs ++ [x]).length = xs.length + 1 := by simp
  refine g_shutQ (mc' := mc + 1) (ys := xs ++ [x]) h (by rw [h4, hl1]) h5 (by simpa using h6) h7 (by simpa using h8) (h1.imp id (fun e => by rw [up_n hba] at e; exact e)) h2 (fun q hq hqb => by rw [h3 q hq hqb, up_n hq]) ?_
  refine g_seq s_AL_add_23 rfl ?_
  exact g_zret rfl rfl d_AL_add_24 (⟨rfl, rfl⟩)
theorem al_fastRemove {b cap j : Nat} {mc : Int32} {f : Nat → Option Nat} (hMa : M a = some (eO 8 [.int mc, .ref b, .int (nI xs.length)])) (hMb : M b = some (aR sOb cap f)) (hcap : xs.length ≤ cap) (hf : ∀ i, i < xs.length → f i = xs[i]?) (hj : j < xs.length) (hlen : xs.length ≤ 100000) (hel : ∀ y ∈ xs, Can sOb M y) : G κ m_AL_fastRemove (d + 1) M 0 [some (.ref a), some (.ref b), some (.int (nI j)), none] [] 0 0
    (fun v M' => v = none ∧ ∃ f', M' a = some (eO 8 [.int (mc + 1), .ref b, .int (nI (xs.eraseIdx j).length)]) ∧ M' b = some (aR sOb cap f') ∧ (∀ q, q ≠ a → q ≠ b → M' q = M q) ∧ ∀ i, i < (xs.eraseIdx j).length → f' i = (xs.eraseIdx j)[i]?) := by
  have hba : b ≠ a := fun e => by rw [e, hMa] at hMb; cases hMb
  have hel2 : (xs.eraseIdx j).length = xs.length - 1 := by rw [List.length_eraseIdx_of_lt hj]
  have e1 : nI xs.length - 1 = nI (xs.length - 1) := pk_sub (b := 1) (by omega)
  have tail : ∀ (M1 : Mm) (f1 : Nat → Option Nat), M1 a = some (eO 8 [.int (mc + 1), .ref b, .int (nI xs.length)]) → M1 b = some (aR sOb cap f1) → (∀ q, q ≠ a → q ≠ b → M1 q = M q) → (∀ i, i < xs.length - 1 → f1 i = (xs.eraseIdx j)[i]?) →
      G κ m_AL_fastRemove (d + 1) M1 34 [some (.ref a), some (.ref b), some (.int (nI j)), some (.int (nI (xs.length - 1)))] [] 0 0
    (fun v M' => v = none ∧ ∃ f', M' a = some (eO 8 [.int (mc + 1), .ref b, .int (nI (xs.eraseIdx j).length)]) ∧ M' b = some (aR sOb cap f') ∧ (∀ q, q ≠ a → q ≠ b → M' q = M q) ∧ ∀ i, i < (xs.eraseIdx j).length → f' i = (xs.eraseIdx j)[i]?) := by
    intro M1 f1 h1 h2 h3 h4
    refine g_seq s_AL_fastRemove_34 rfl ?_
    refine g_put f_AL_48 d_AL_fastRemove_38 (h1) rfl rfl rfl ?_
    refine g_seq s_AL_fastRemove_41 rfl ?_
    refine g_aastN d_AL_fastRemove_42 (by rw [up_n hba]; exact h2) (vp_nI (by omega) (by omega)) ?_
    rw [nI_cl (by omega)]
    exact g_vret rfl d_AL_fastRemove_43 (⟨rfl, _, by rw [up_n hba.symm, up_s, hel2], up_s, fun q hq hqb => by rw [up_n hqb, up_n hq]; exact h3 q hq hqb, fun i hi => by rw [va_up_ne _ _ (by omega)]; exact h4 i (by omega)⟩)
  refine g_seq s_AL_fastRemove_0 rfl ?_
  refine g_get f_AL_63 d_AL_fastRemove_2 (hMa) rfl ?_
  refine g_seq s_AL_fastRemove_5 rfl ?_
  refine g_put f_AL_63 d_AL_fastRemove_7 (hMa) rfl rfl rfl ?_
  refine g_seq s_AL_fastRemove_10 rfl ?_
  refine g_get f_AL_48 d_AL_fastRemove_11 (up_s) rfl ?_
  refine g_seq s_AL_fastRemove_14 rfl ?_
  rw [e1]
  refine g_icmp_le (tgt := 34) d_AL_fastRemove_19 (by decide) (fun hc => ?_) (fun hc => ?_)
  · skip
    have hjl : ¬ (j < xs.length - 1) := fun e => absurd hc (nI_ge e (by omega))
    refine tail _ f up_s (by rw [up_n hba]; exact hMb) (fun q hq hqb => up_n hq) (fun i hi => ?_)
    rw [hf i (by omega), List.getElem?_eraseIdx, if_pos (by omega)]
  · skip
    have hjl : j < xs.length - 1 := by
      rcases Nat.lt_or_ge j (xs.length - 1) with h | h
      · exact h
      · exact absurd (nI_le h (by omega)) hc
    refine g_seq s_AL_fastRemove_22 rfl ?_
    rw [nI_1, pk_sub (by omega)]
    refine g_acopy (a := b) (b := b) (na := cap) (nb := cap) (f := f) (g := f) l_AL_112 ac_1 ac_2 ac_3 d_AL_fastRemove_31 (by rw [up_n hba]; exact hMb) (by rw [up_n hba]; exact hMb) (nI_lt0 (by omega)) (nI_lt0 (by omega)) (nI_lt0 (by omega)) (by rw [nI_cl (by omega), nI_cl (by omega)]; omega) (by rw [nI_cl (by omega), nI_cl (by omega)]; omega) (fun i hi y hy => ?_) (Nat.le_of_ble_eq_true rfl) ?_
    · rw [nI_cl (by omega)] at hi hy
      rw [hf _ (by omega)] at hy
      have hcn := hel y (List.mem_of_getElem? hy)
      exact can_upn hcn (hcn.nel hMa)
    · rw [nI_cl (by omega), nI_cl (by omega), nI_cl (by omega)]
      refine tail _ _ (by rw [up_n hba.symm]; exact up_s) up_s (fun q hq hqb => by rw [up_n hqb, up_n hq]) (fun i hi => ?_)
      rw [List.getElem?_eraseIdx]
      by_cases hij : i < j
      · rw [if_pos hij, pk_cpy_out (Or.inl hij)]; exact hf i (by omega)
      · rw [if_neg hij, pk_cpy_in (by omega) (by omega), ← hf (i + 1) (by omega)]; congr 1; omega
theorem al_remove {j y : Nat} (hM : M a = some (eL xs)) (hj : xs[j]? = some y) (hlen : xs.length ≤ 100000) (hel : ∀ y ∈ xs, Can sOb M y) : G κ m_AL_remove (d + 2) M 0 [some (.ref a), some (.int (nI j)), none, none] [] 0 0 (fun v M' => v = some (.ref y) ∧ M' = up M a (eL (xs.eraseIdx j))) := by
  have hjl : j < xs.length := (List.getElem?_eq_some_iff.mp hj).1
  refine g_openQ hM (fun Mo b mc cap f h => ?_)
  obtain ⟨hMo, hb, hcap, hc1, hf⟩ := id h.1
  rcases hb with ⟨-, hnil, -⟩ | ⟨hbz, hMb⟩
  · rw [hnil] at hjl; exact absurd hjl (Nat.not_lt_zero _)
  refine g_seq s_AL_remove_0 rfl ?_
  refine g_get f_AL_48 d_AL_remove_2 (hMo) rfl ?_
  refine g_invS  l_AL_118 d_AL_remove_5 rfl ⟨rfl, Nat.le_of_ble_eq_true rfl, Nat.le_of_ble_eq_true rfl⟩ (obs_checkIndex (nI_lt0 (by omega)) (nI_lt hjl (by omega))) (Nat.le_of_eq (Nat.zero_add _)) (Nat.le_of_eq (Nat.zero_add _)) ?_
  rintro v M' ⟨rfl, rfl⟩
  refine g_seq s_AL_remove_8 rfl ?_
  refine g_get f_AL_9 d_AL_remove_10 (hMo) rfl ?_
  refine g_seq s_AL_remove_13 rfl ?_
  refine g_aald d_AL_remove_16 hMb (vp_nI (by omega) (by omega)) ?_
  rw [nI_cl (by omega), hf j hjl, hj]
  refine g_seq s_AL_remove_17 rfl ?_
  refine g_invV  l_AL_144 d_AL_remove_21 rfl ⟨rfl, Nat.le_of_ble_eq_true rfl, Nat.le_of_ble_eq_true rfl⟩ (hMo) (al_fastRemove hMo hMb hcap hf hjl hlen (fun y hy => h.can (hel y hy))) (Nat.le_of_eq (Nat.zero_add _)) (Nat.le_of_eq (Nat.zero_add _)) ?_
  rintro v M' ⟨rfl, f', h1, h2, h3, h4⟩
  refine g_shutQ h h1 h2 (by rw [List.length_eraseIdx_of_lt hjl]; omega) hc1 h4 (Or.inl rfl) hbz h3 ?_
  refine g_seq s_AL_remove_24 rfl ?_
  exact g_aret rfl (by first | exact Or.inl ⟨_, rfl⟩ | exact Or.inr ⟨_, rfl⟩) d_AL_remove_25 (⟨rfl, rfl⟩)
end AL5
end
section
section AL6
variable {κ : Nat × Nat} {d : Nat} {M : Mm} {a : Nat} {xs : List Nat}
theorem al_rangeCheckForAdd {j : Nat} {e1 e2 : Value} (hM : M a = some (eO 8 [e1, e2, .int (nI xs.length)])) (hj : j ≤ xs.length) (hlen : xs.length ≤ 100000) : G κ m_AL_rangeCheckForAdd d M 0 [some (.ref a), some (.int (nI j))] [] 0 0 (fun v M' => v = none ∧ M' = M) := by
  refine g_seq s_AL_rangeCheckForAdd_0 rfl ?_
  refine g_get f_AL_48 d_AL_rangeCheckForAdd_2 (hM) rfl ?_
  refine g_icmp_gt (tgt := 12) d_AL_rangeCheckForAdd_5 (by decide) (fun hc => absurd hc (nI_nlt hj (by omega))) (fun hc => ?_)
  refine g_seq s_AL_rangeCheckForAdd_8 rfl ?_
  refine g_if_ge (tgt := 25) d_AL_rangeCheckForAdd_9 (by decide) (fun hc => ?_) (fun hc => absurd hc (fun h => h (nI_pos' (by omega))))
  exact g_vret rfl d_AL_rangeCheckForAdd_25 (⟨rfl, rfl⟩)
def insAt (xs : List Nat) (j x : Nat) : List Nat := xs.take j ++ x :: xs.drop j
theorem insAt_len {j x : Nat} (hj : j ≤ xs.length) : (insAt xs j x).length = xs.length + 1 := by
  simp [insAt]; omega
theorem insAt_lo {j x i : Nat} (hj : j ≤ xs.length) (h : i < j) : (insAt xs j x)[i]? = xs[i]? := by
  unfold insAt
  rw [List.getElem?_append_left (by simp; omega), List.getElem?_take, if_pos h]
theorem insAt_eq {j x : Nat} (hj : j ≤ xs.length) : (insAt xs j x)[j]? = some x := by
  unfold insAt
  rw [List.getElem?_append_right (by simp; omega)]
  simp [Nat.min_eq_left hj]
theorem insAt_hi {j x i : Nat} (hj : j ≤ xs.length) (h : j ≤ i) : (insAt xs j x)[i + 1]? = xs[i]? := by
  unfold insAt
  rw [List.getElem?_append_right (by simp; omega)]
  have : i + 1 - (xs.take j).length = (i - j) + 1 := by simp [Nat.min_eq_left hj]; omega
  rw [this, List.getElem?_cons_succ, List.getElem?_drop]
  congr 1; omega
theorem al_addAt {j x : Nat} (hM : M a = some (eL xs)) (hj : j ≤ xs.length) (hlen : xs.length ≤ 10000) (hx : Can sOb M x) (hel : ∀ y ∈ xs, Can sOb M y) : G κ m_AL_addAt (d + 5) M 0 [some (.ref a), some (.int (nI j)), some (.ref x), none, none] [] 1 (2 * xs.length + 10) (fun v M' => v = none ∧ M' = up M a (eL (insAt xs j x))) := by
  refine g_openQ hM (fun Mo b mc cap f h => ?_)
  have hMo := h.1.1
  have hLO := h.1.bump (mc' := mc + 1)
  have hcx : ∀ y, Can sOb M y → Can sOb (up Mo a (eO 8 [.int (mc + 1), .ref b, .int (nI xs.length)])) y := fun y hy => can_upn (h.can hy) ((h.can hy).nel hMo)
  have hil := insAt_len (x := x) hj
  -- behind the room's making
  have key : ∀ (M1 : Mm) (b1 cap1 k n : Nat) (f1 : Nat → Option Nat), M1 a = some (eO 8 [.int (mc + 1), .ref b1, .int (nI xs.length)]) → M1 b1 = some (aR sOb cap1 f1) → (∀ y, Can sOb M y → Can sOb M1 y) → xs.length < cap1 → cap1 ≤ 100000 → (∀ i, i < xs.length → f1 i = xs[i]?) → (b1 = b ∨ Mo b1 = none) → b1 ≠ κ.1 → (∀ q, q ≠ a → q ≠ b1 → M1 q = Mo q) →
      G κ m_AL_addAt (d + 5) M1 38 [some (.ref a), some (.int (nI j)), some (.ref x), some (.int (nI xs.length)), some (.ref b1)] [] k n (fun v M' => v = none ∧ M' = up M a (eL (insAt xs j x))) := by
    intro M1 b1 cap1 k n f1 h1 h2 h3 h4 h9 h5 h6 h7 h8
    have hab : a ≠ b1 := fun e => by rw [← e, h1] at h2; cases h2
    refine g_seq s_AL_addAt_38 rfl ?_
    rw [nI_1, pk_sub hj]
    refine g_acopy (a := b1) (b := b1) (na := cap1) (nb := cap1) (f := f1) (g := f1) l_AL_112 ac_1 ac_2 ac_3 d_AL_addAt_49 h2 h2 (nI_lt0 (by omega)) (nI_lt0 (by omega)) (nI_lt0 (by omega)) (by rw [nI_cl (by omega), nI_cl (by omega)]; omega) (by rw [nI_cl (by omega), nI_cl (by omega)]; omega) (fun i hi y hy => ?_) (Nat.le_of_ble_eq_true rfl) ?_
    · rw [nI_cl (by omega)] at hi hy
      rw [h5 _ (by omega)] at hy
      exact h3 y (hel y (List.mem_of_getElem? hy))
    · rw [nI_cl (by omega), nI_cl (by omega), nI_cl (by omega)]
      refine g_seq s_AL_addAt_52 rfl ?_
      refine g_aast d_AL_addAt_56 up_s (vp_nI (by omega) (by omega)) (can_upn (h3 x hx) ((h3 x hx).nn (fun ci fs hh => by rw [h2] at hh; cases hh))) ?_
      rw [nI_cl (by omega)]
      refine g_seq s_AL_addAt_57 rfl ?_
      refine g_put f_AL_48 d_AL_addAt_61 (by rw [up_n hab, up_n hab]; exact h1) rfl rfl rfl ?_
      rw [nI_1]
      refine g_shutQ (mc' := mc + 1) (b' := b1) (ys := insAt xs j x) h (by rw [up_s, hil]) (by rw [up_n hab.symm]; exact up_s) (by omega) h9 (fun i hi => ?_) h6 h7 (fun q hq hqb => by rw [up_n hq, up_n hqb, up_n hqb]; exact h8 q hq hqb) ?_
      · rcases Nat.lt_trichotomy i j with hij | hij | hij
        · rw [va_up_ne _ _ (by omega), pk_cpy_out (Or.inl (by omega)), insAt_lo hj hij]; exact h5 i (by omega)
        · rw [hij, va_up_self, insAt_eq hj]
        · obtain ⟨i', rfl⟩ : ∃ i', i = i' + 1 := ⟨i - 1, by omega⟩
          rw [va_up_ne _ _ (by omega), pk_cpy_in (by omega) (by omega), insAt_hi hj (by omega), ← h5 i' (by omega)]; congr 1; omega
      exact g_vret rfl d_AL_addAt_64 (⟨rfl, rfl⟩)
  have grown : xs.length = cap → G κ m_AL_addAt (d + 5) (up Mo a (eO 8 [.int (mc + 1), .ref b, .int (nI xs.length)])) 32 [some (.ref a), some (.int (nI j)), some (.ref x), some (.int (nI xs.length)), some (.ref b)] [] 1 (2 * xs.length + 10) (fun v M' => v = none ∧ M' = up M a (eL (insAt xs j x))) := by
    intro hfull
    refine g_seq s_AL_addAt_32 rfl ?_
    refine g_invV (k2 := 0) (n2 := 0) l_AL_129 d_AL_addAt_33 rfl ⟨rfl, Nat.le_of_ble_eq_true rfl, Nat.le_of_ble_eq_true rfl⟩ (up_s) (al_grow hLO hfull hlen (fun y hy => hcx y (hel y hy))) (by first | omega | (simp; omega)) (by first | omega | (simp; omega)) ?_
    rintro v M' ⟨q, N, g, rfl, h1, h2, rfl, h3, h4, h5⟩
    have haq : a ≠ q := fun e => by rw [← e, up_s] at h1; cases h1
    refine g_seq (is := [(.astore 4, 2, 0)]) (pc' := 38) (by decide +kernel) rfl ?_
    refine key _ q N 0 0 g up_s (by rw [up_n haq.symm]; exact up_s) (fun y hy => ?_) h3 h4 h5 (Or.inr (by rw [up_n haq.symm] at h1; exact h1)) h2 (fun q' hq hqb => by rw [up_n hq, up_n hqb, up_n hq])
    have hc1 := hcx y hy
    exact can_upn (can_upn hc1 (hc1.nn (fun ci fs h => by rw [h1] at h; cases h))) (hc1.nel up_s)
  refine g_seq s_AL_addAt_0 rfl ?_
  refine g_invV  l_AL_135 d_AL_addAt_2 rfl ⟨rfl, Nat.le_of_ble_eq_true rfl, Nat.le_of_ble_eq_true rfl⟩ (hMo) (al_rangeCheckForAdd hMo hj (by omega)) (Nat.le_of_eq (Nat.zero_add _)) (Nat.le_of_eq (Nat.zero_add _)) ?_
  rintro v M' ⟨rfl, rfl⟩
  refine g_seq s_AL_addAt_5 rfl ?_
  refine g_get f_AL_63 d_AL_addAt_7 (hMo) rfl ?_
  refine g_seq s_AL_addAt_10 rfl ?_
  refine g_put f_AL_63 d_AL_addAt_12 (hMo) rfl rfl rfl ?_
  refine g_seq s_AL_addAt_15 rfl ?_
  refine g_get f_AL_48 d_AL_addAt_16 (up_s) rfl ?_
  refine g_seq s_AL_addAt_19 rfl ?_
  refine g_get f_AL_9 d_AL_addAt_22 (up_s) rfl ?_
  refine g_seq s_AL_addAt_25 rfl ?_
  obtain ⟨-, hb, hcap, hc1, hf⟩ := id hLO
  rcases hb with ⟨hbz, hnil, hc0⟩ | ⟨hbz, hMb⟩
  · subst hbz
    refine g_alenE d_AL_addAt_28  ?_
    refine g_icmp_ne (tgt := 38) d_AL_addAt_29 (by decide) (fun hc => absurd hc (fun h => h (by rw [hnil]; rfl))) (fun hc => ?_)
    exact grown (by rw [hc0, hnil]; rfl)
  · skip
    refine g_alen d_AL_addAt_28 hMb rfl ?_
    refine g_icmp_ne (tgt := 38) d_AL_addAt_29 (by decide) (fun hc => ?_) (fun hc => ?_)
    · skip
      have hne : xs.length ≠ cap := fun e => hc (by rw [e])
      exact key _ b cap _ _ f up_s hMb hcx (by omega) hc1 hf (Or.inl rfl) hbz (fun q hq _ => up_n hq)
    · skip
      exact grown ((nI_eqI (by omega) hc1).mp hc)
end AL6
end
section
/-! leaves of the class -/
def b2i (b : Bool) : Int32 := if b then 1 else 0
theorem b2i_0 {b : Bool} : b2i b = 0 ↔ b = false := by cases b <;> decide
theorem b2i_n {b : Bool} : ¬ b2i b = 0 ↔ b = true := by cases b <;> decide
theorem b2i_nar (b : Bool) : narrow .boolean (.int (b2i b)) = .int (b2i b) := by cases b <;> rfl
section XL
variable {κ : Nat × Nat} {d : Nat} {M : Mm} {a : Nat}
theorem w_client {c t s : Int32} (hM : M a = some (eO 2 [.int c, .int t, .int s])) : G κ m_Waiter_client d M 0 [some (.ref a)] [] 0 0 (fun v M' => v = some (.int c) ∧ M' = M) := by
  refine g_seq s_Waiter_client_0 rfl ?_
  refine g_get f_Waiter_7 d_Waiter_client_1 (hM) rfl ?_
  exact g_iret rfl d_Waiter_client_4 (⟨rfl, rfl⟩)
theorem w_ticks {c t s : Int32} (hM : M a = some (eO 2 [.int c, .int t, .int s])) : G κ m_Waiter_ticks d M 0 [some (.ref a)] [] 0 0 (fun v M' => v = some (.int t) ∧ M' = M) := by
  refine g_seq s_Waiter_ticks_0 rfl ?_
  refine g_get f_Waiter_13 d_Waiter_ticks_1 (hM) rfl ?_
  exact g_iret rfl d_Waiter_ticks_4 (⟨rfl, rfl⟩)
theorem w_since {c t s : Int32} (hM : M a = some (eO 2 [.int c, .int t, .int s])) : G κ m_Waiter_since d M 0 [some (.ref a)] [] 0 0 (fun v M' => v = some (.int s) ∧ M' = M) := by
  refine g_seq s_Waiter_since_0 rfl ?_
  refine g_get f_Waiter_16 d_Waiter_since_1 (hM) rfl ?_
  exact g_iret rfl d_Waiter_since_4 (⟨rfl, rfl⟩)
theorem j_name {c t s : Int32} (hM : M a = some (eO 3 [.int c, .int t, .int s])) : G κ m_Job_name d M 0 [some (.ref a)] [] 0 0 (fun v M' => v = some (.int c) ∧ M' = M) := by
  refine g_seq s_Job_name_0 rfl ?_
  refine g_get f_Job_7 d_Job_name_1 (hM) rfl ?_
  exact g_iret rfl d_Job_name_4 (⟨rfl, rfl⟩)
theorem j_rank {c t s : Int32} (hM : M a = some (eO 3 [.int c, .int t, .int s])) : G κ m_Job_rank d M 0 [some (.ref a)] [] 0 0 (fun v M' => v = some (.int t) ∧ M' = M) := by
  refine g_seq s_Job_rank_0 rfl ?_
  refine g_get f_Job_13 d_Job_rank_1 (hM) rfl ?_
  exact g_iret rfl d_Job_rank_4 (⟨rfl, rfl⟩)
theorem j_due {c t s : Int32} (hM : M a = some (eO 3 [.int c, .int t, .int s])) : G κ m_Job_due d M 0 [some (.ref a)] [] 0 0 (fun v M' => v = some (.int s) ∧ M' = M) := by
  refine g_seq s_Job_due_0 rfl ?_
  refine g_get f_Job_16 d_Job_due_1 (hM) rfl ?_
  exact g_iret rfl d_Job_due_4 (⟨rfl, rfl⟩)
theorem c_name {c t : Int32} (hM : M a = some (eO 4 [.int c, .int t])) : G κ m_Cached_name d M 0 [some (.ref a)] [] 0 0 (fun v M' => v = some (.int c) ∧ M' = M) := by
  refine g_seq s_Cached_name_0 rfl ?_
  refine g_get f_Cached_7 d_Cached_name_1 (hM) rfl ?_
  exact g_iret rfl d_Cached_name_4 (⟨rfl, rfl⟩)
theorem c_number {c t : Int32} (hM : M a = some (eO 4 [.int c, .int t])) : G κ m_Cached_number d M 0 [some (.ref a)] [] 0 0 (fun v M' => v = some (.int t) ∧ M' = M) := by
  refine g_seq s_Cached_number_0 rfl ?_
  refine g_get f_Cached_13 d_Cached_number_1 (hM) rfl ?_
  exact g_iret rfl d_Cached_number_4 (⟨rfl, rfl⟩)
theorem n_name {c t : Int32} (hM : M a = some (eO 5 [.int c, .int t])) : G κ m_Note_name d M 0 [some (.ref a)] [] 0 0 (fun v M' => v = some (.int c) ∧ M' = M) := by
  refine g_seq s_Note_name_0 rfl ?_
  refine g_get f_Note_7 d_Note_name_1 (hM) rfl ?_
  exact g_iret rfl d_Note_name_4 (⟨rfl, rfl⟩)
theorem n_kind {c t : Int32} (hM : M a = some (eO 5 [.int c, .int t])) : G κ m_Note_kind d M 0 [some (.ref a)] [] 0 0 (fun v M' => v = some (.int t) ∧ M' = M) := by
  refine g_seq s_Note_kind_0 rfl ?_
  refine g_get f_Note_13 d_Note_kind_1 (hM) rfl ?_
  exact g_iret rfl d_Note_kind_4 (⟨rfl, rfl⟩)
theorem rcd_init : G κ m_Rcd_init (d + 1) M 0 [some (.ref a)] [] 0 0 (fun v M' => v = none ∧ M' = M) := by
  refine g_seq s_Rcd_init_0 rfl ?_
  refine g_objInit l_Rcd_1 oi_1 oi_2 d_Rcd_init_1 (Nat.le_of_ble_eq_true rfl) ?_
  exact g_vret rfl d_Rcd_init_4 (⟨rfl, rfl⟩)
theorem w_init {x y z : Int32} {e1 e2 e3 : Value} (hM : M a = some (eO 2 [e1, e2, e3])) : G κ m_Waiter_init (d + 2) M 0 [some (.ref a), some (.int x), some (.int y), some (.int z)] [] 0 0 (fun v M' => v = none ∧ M' = up M a (eO 2 [.int x, .int y, .int z])) := by
  refine g_seq s_Waiter_init_0 rfl ?_
  refine g_invI  l_Waiter_1 d_Waiter_init_1 rfl ⟨rfl, Nat.le_of_ble_eq_true rfl, Nat.le_of_ble_eq_true rfl⟩ (rcd_init) (Nat.le_of_eq (Nat.zero_add _)) (Nat.le_of_eq (Nat.zero_add _)) ?_
  rintro v M' ⟨rfl, rfl⟩
  refine g_seq s_Waiter_init_4 rfl ?_
  refine g_putF f_Waiter_7 ⟨_, rfl, rfl⟩ rfl d_Waiter_init_6 (hM) rfl rfl rfl ?_
  refine g_seq s_Waiter_init_9 rfl ?_
  refine g_putF f_Waiter_13 ⟨_, rfl, rfl⟩ rfl d_Waiter_init_11 (up_s) rfl rfl rfl ?_
  refine g_seq s_Waiter_init_14 rfl ?_
  refine g_putF f_Waiter_16 ⟨_, rfl, rfl⟩ rfl d_Waiter_init_16 (up_s) rfl rfl rfl ?_
  exact g_vret rfl d_Waiter_init_19 (⟨rfl, by rw [up_up, up_up]⟩)
theorem j_init {x y z : Int32} {e1 e2 e3 : Value} (hM : M a = some (eO 3 [e1, e2, e3])) : G κ m_Job_init (d + 2) M 0 [some (.ref a), some (.int x), some (.int y), some (.int z)] [] 0 0 (fun v M' => v = none ∧ M' = up M a (eO 3 [.int x, .int y, .int z])) := by
  refine g_seq s_Job_init_0 rfl ?_
  refine g_invI  l_Job_1 d_Job_init_1 rfl ⟨rfl, Nat.le_of_ble_eq_true rfl, Nat.le_of_ble_eq_true rfl⟩ (rcd_init) (Nat.le_of_eq (Nat.zero_add _)) (Nat.le_of_eq (Nat.zero_add _)) ?_
  rintro v M' ⟨rfl, rfl⟩
  refine g_seq s_Job_init_4 rfl ?_
  refine g_putF f_Job_7 ⟨_, rfl, rfl⟩ rfl d_Job_init_6 (hM) rfl rfl rfl ?_
  refine g_seq s_Job_init_9 rfl ?_
  refine g_putF f_Job_13 ⟨_, rfl, rfl⟩ rfl d_Job_init_11 (up_s) rfl rfl rfl ?_
  refine g_seq s_Job_init_14 rfl ?_
  refine g_putF f_Job_16 ⟨_, rfl, rfl⟩ rfl d_Job_init_16 (up_s) rfl rfl rfl ?_
  exact g_vret rfl d_Job_init_19 (⟨rfl, by rw [up_up, up_up]⟩)
theorem c_init {x y : Int32} {e1 e2 : Value} (hM : M a = some (eO 4 [e1, e2])) : G κ m_Cached_init (d + 2) M 0 [some (.ref a), some (.int x), some (.int y)] [] 0 0 (fun v M' => v = none ∧ M' = up M a (eO 4 [.int x, .int y])) := by
  refine g_seq s_Cached_init_0 rfl ?_
  refine g_invI  l_Cached_1 d_Cached_init_1 rfl ⟨rfl, Nat.le_of_ble_eq_true rfl, Nat.le_of_ble_eq_true rfl⟩ (rcd_init) (Nat.le_of_eq (Nat.zero_add _)) (Nat.le_of_eq (Nat.zero_add _)) ?_
  rintro v M' ⟨rfl, rfl⟩
  refine g_seq s_Cached_init_4 rfl ?_
  refine g_putF f_Cached_7 ⟨_, rfl, rfl⟩ rfl d_Cached_init_6 (hM) rfl rfl rfl ?_
  refine g_seq s_Cached_init_9 rfl ?_
  refine g_putF f_Cached_13 ⟨_, rfl, rfl⟩ rfl d_Cached_init_11 (up_s) rfl rfl rfl ?_
  exact g_vret rfl d_Cached_init_14 (⟨rfl, by rw [up_up]⟩)
theorem n_init {x y : Int32} {e1 e2 : Value} (hM : M a = some (eO 5 [e1, e2])) : G κ m_Note_init (d + 2) M 0 [some (.ref a), some (.int x), some (.int y)] [] 0 0 (fun v M' => v = none ∧ M' = up M a (eO 5 [.int x, .int y])) := by
  refine g_seq s_Note_init_0 rfl ?_
  refine g_invI  l_Note_1 d_Note_init_1 rfl ⟨rfl, Nat.le_of_ble_eq_true rfl, Nat.le_of_ble_eq_true rfl⟩ (rcd_init) (Nat.le_of_eq (Nat.zero_add _)) (Nat.le_of_eq (Nat.zero_add _)) ?_
  rintro v M' ⟨rfl, rfl⟩
  refine g_seq s_Note_init_4 rfl ?_
  refine g_putF f_Note_7 ⟨_, rfl, rfl⟩ rfl d_Note_init_6 (hM) rfl rfl rfl ?_
  refine g_seq s_Note_init_9 rfl ?_
  refine g_putF f_Note_13 ⟨_, rfl, rfl⟩ rfl d_Note_init_11 (up_s) rfl rfl rfl ?_
  exact g_vret rfl d_Note_init_14 (⟨rfl, by rw [up_up]⟩)
theorem t_init {x : Int32} {e1 e2 e3 e4 e5 e6 : Value} (hM : M a = some (eO 1 [e1, e2, e3, e4, e5, e6])) : G κ m_Thing_init (d + 4) M 0 [some (.ref a), some (.int x)] [] 1 3 (fun v M' => v = none ∧ ∃ r, M r = none ∧ r ≠ κ.1 ∧ M' = up (up M r (eL [])) a (eO 1 [.int x, .ref r, .int (-2), .int 0, .int 0, .int 0])) := by
  refine g_seq s_Thing_init_0 rfl ?_
  refine g_objInit l_Thing_3 oi_1 oi_2 d_Thing_init_1 (Nat.le_of_ble_eq_true rfl) ?_
  refine g_seq s_Thing_init_4 rfl ?_
  refine g_new (k' := 0) (n' := 0) n_Thing_9 d_Thing_init_5 (by first | omega | (simp <;> omega)) (by first | omega | (simp <;> omega)) (fun r hr hzr => ?_)
  have har : a ≠ r := fun e => by rw [e, hr] at hM; cases hM
  refine g_seq s_Thing_init_8 rfl ?_
  refine g_invI  l_Thing_11 d_Thing_init_9 rfl ⟨rfl, Nat.le_of_ble_eq_true rfl, Nat.le_of_ble_eq_true rfl⟩ (al_init (mc := 0) (e2 := .null) up_s) (Nat.le_of_eq (Nat.zero_add _)) (Nat.le_of_eq (Nat.zero_add _)) ?_
  rintro v M' ⟨rfl, rfl⟩
  refine g_putF f_Thing_12 ⟨_, rfl, rfl⟩ rfl d_Thing_init_12 (by rw [up_up, up_n har]; exact hM) rfl rfl rfl ?_
  refine g_seq s_Thing_init_15 rfl ?_
  refine g_put f_Thing_18 d_Thing_init_18 (up_s) rfl rfl rfl ?_
  refine g_seq s_Thing_init_21 rfl ?_
  refine g_put f_Thing_22 d_Thing_init_23 (up_s) rfl rfl rfl ?_
  refine g_seq s_Thing_init_26 rfl ?_
  refine g_put f_Thing_25 d_Thing_init_28 (up_s) rfl rfl rfl ?_
  refine g_seq s_Thing_init_31 rfl ?_
  refine g_put f_Thing_28 d_Thing_init_33 (up_s) rfl rfl rfl ?_
  refine g_seq s_Thing_init_36 rfl ?_
  refine g_putF f_Thing_31 ⟨_, rfl, rfl⟩ rfl d_Thing_init_38 (up_s) rfl rfl rfl ?_
  exact g_vret rfl d_Thing_init_41 (⟨rfl, r, hr, hzr, by rw [up_up, up_up, up_up, up_up, up_up, up_up]⟩)
theorem t_isLent {e1 e2 e4 e5 e6 : Value} {ho : Int32} (hM : M a = some (eO 1 [e1, e2, .int ho, e4, e5, e6])) : G κ m_Thing_isLent d M 0 [some (.ref a)] [] 0 0 (fun v M' => v = some (.int (b2i (ho != -2))) ∧ M' = M) := by
  refine g_seq s_Thing_isLent_0 rfl ?_
  refine g_get f_Thing_18 d_Thing_isLent_1 (hM) rfl ?_
  refine g_seq s_Thing_isLent_4 rfl ?_
  refine g_icmp_eq (tgt := 13) d_Thing_isLent_6 (by decide) (fun h => ?_) (fun h => ?_)
  · skip
    refine g_seq s_Thing_isLent_13 rfl ?_
    exact g_zret rfl rfl d_Thing_isLent_14 (⟨by rw [show (ho != -2) = false from by simp [h]]; rfl, rfl⟩)
  · skip
    refine g_seq s_Thing_isLent_9 rfl ?_
    exact g_zret rfl rfl d_Thing_isLent_14 (⟨by rw [show (ho != -2) = true from by simp [h]]; rfl, rfl⟩)
theorem t_endsBefore {b : Nat} {x x' u u' : Int32} {e2 e3 e5 e6 g2 g3 g5 g6 : Value} (hM : M a = some (eO 1 [.int x, e2, e3, .int u, e5, e6])) (hMb : M b = some (eO 1 [.int x', g2, g3, .int u', g5, g6])) : G κ m_Thing_endsBefore d M 0 [some (.ref a), some (.ref b)] [] 0 0 (fun v M' => v = some (.int (b2i (decide (u < u' ∨ (u = u' ∧ x < x'))))) ∧ M' = M) := by
  refine g_seq s_Thing_endsBefore_0 rfl ?_
  refine g_get f_Thing_22 d_Thing_endsBefore_1 (hM) rfl ?_
  refine g_seq s_Thing_endsBefore_4 rfl ?_
  refine g_get f_Thing_22 d_Thing_endsBefore_5 (hMb) rfl ?_
  refine g_icmp_eq (tgt := 30) d_Thing_endsBefore_8 (by decide) (fun h => ?_) (fun h => ?_)
  · skip
    refine g_seq s_Thing_endsBefore_30 rfl ?_
    refine g_get f_Thing_31 d_Thing_endsBefore_31 (hM) rfl ?_
    refine g_seq s_Thing_endsBefore_34 rfl ?_
    refine g_get f_Thing_31 d_Thing_endsBefore_35 (hMb) rfl ?_
    have hlt : ¬ u < u' := by rw [h]; exact Int32.lt_irrefl
    refine g_icmp_ge (tgt := 45) d_Thing_endsBefore_38 (by decide) (fun h2 => ?_) (fun h2 => ?_)
    · skip
      refine g_seq s_Thing_endsBefore_45 rfl ?_
      exact g_zret rfl rfl d_Thing_endsBefore_46 (⟨by rw [decide_eq_false (fun q => q.elim hlt (fun q => absurd q.2 (Int32.not_lt.mpr h2)))]; rfl, rfl⟩)
    · skip
      refine g_seq s_Thing_endsBefore_41 rfl ?_
      exact g_zret rfl rfl d_Thing_endsBefore_46 (⟨by rw [decide_eq_true (Or.inr ⟨h, Int32.not_le.mp h2⟩)]; rfl, rfl⟩)
  · skip
    refine g_seq s_Thing_endsBefore_11 rfl ?_
    refine g_get f_Thing_22 d_Thing_endsBefore_12 (hM) rfl ?_
    refine g_seq s_Thing_endsBefore_15 rfl ?_
    refine g_get f_Thing_22 d_Thing_endsBefore_16 (hMb) rfl ?_
    refine g_icmp_ge (tgt := 26) d_Thing_endsBefore_19 (by decide) (fun h2 => ?_) (fun h2 => ?_)
    · skip
      refine g_seq s_Thing_endsBefore_26 rfl ?_
      exact g_zret rfl rfl d_Thing_endsBefore_46 (⟨by rw [decide_eq_false (fun q => q.elim (fun q => absurd q (Int32.not_lt.mpr h2)) (fun q => h q.1))]; rfl, rfl⟩)
    · skip
      refine g_seq s_Thing_endsBefore_22 rfl ?_
      exact g_zret rfl rfl d_Thing_endsBefore_46 (⟨by rw [decide_eq_true (Or.inl (Int32.not_le.mp h2))]; rfl, rfl⟩)
theorem t_goesBefore {b : Nat} {x x' u u' : Int32} {e1 g1 : Value} (hM : M a = some (eO 3 [e1, .int u, .int x])) (hMb : M b = some (eO 3 [g1, .int u', .int x'])) : G κ m_Job_goesBefore d M 0 [some (.ref a), some (.ref b)] [] 0 0 (fun v M' => v = some (.int (b2i (decide (u < u' ∨ (u = u' ∧ x < x'))))) ∧ M' = M) := by
  refine g_seq s_Job_goesBefore_0 rfl ?_
  refine g_get f_Job_13 d_Job_goesBefore_1 (hM) rfl ?_
  refine g_seq s_Job_goesBefore_4 rfl ?_
  refine g_get f_Job_13 d_Job_goesBefore_5 (hMb) rfl ?_
  refine g_icmp_eq (tgt := 30) d_Job_goesBefore_8 (by decide) (fun h => ?_) (fun h => ?_)
  · skip
    refine g_seq s_Job_goesBefore_30 rfl ?_
    refine g_get f_Job_16 d_Job_goesBefore_31 (hM) rfl ?_
    refine g_seq s_Job_goesBefore_34 rfl ?_
    refine g_get f_Job_16 d_Job_goesBefore_35 (hMb) rfl ?_
    have hlt : ¬ u < u' := by rw [h]; exact Int32.lt_irrefl
    refine g_icmp_ge (tgt := 45) d_Job_goesBefore_38 (by decide) (fun h2 => ?_) (fun h2 => ?_)
    · skip
      refine g_seq s_Job_goesBefore_45 rfl ?_
      exact g_zret rfl rfl d_Job_goesBefore_46 (⟨by rw [decide_eq_false (fun q => q.elim hlt (fun q => absurd q.2 (Int32.not_lt.mpr h2)))]; rfl, rfl⟩)
    · skip
      refine g_seq s_Job_goesBefore_41 rfl ?_
      exact g_zret rfl rfl d_Job_goesBefore_46 (⟨by rw [decide_eq_true (Or.inr ⟨h, Int32.not_le.mp h2⟩)]; rfl, rfl⟩)
  · skip
    refine g_seq s_Job_goesBefore_11 rfl ?_
    refine g_get f_Job_13 d_Job_goesBefore_12 (hM) rfl ?_
    refine g_seq s_Job_goesBefore_15 rfl ?_
    refine g_get f_Job_13 d_Job_goesBefore_16 (hMb) rfl ?_
    refine g_icmp_ge (tgt := 26) d_Job_goesBefore_19 (by decide) (fun h2 => ?_) (fun h2 => ?_)
    · skip
      refine g_seq s_Job_goesBefore_26 rfl ?_
      exact g_zret rfl rfl d_Job_goesBefore_46 (⟨by rw [decide_eq_false (fun q => q.elim (fun q => absurd q (Int32.not_lt.mpr h2)) (fun q => h q.1))]; rfl, rfl⟩)
    · skip
      refine g_seq s_Job_goesBefore_22 rfl ?_
      exact g_zret rfl rfl d_Job_goesBefore_46 (⟨by rw [decide_eq_true (Or.inl (Int32.not_le.mp h2))]; rfl, rfl⟩)
theorem t_isWatchedBy {e1 e2 e3 e4 e5 : Value} {wa c : Int32} (hM : M a = some (eO 1 [e1, e2, e3, e4, e5, .int wa])) : G κ m_Thing_isWatchedBy d M 0 [some (.ref a), some (.int c)] [] 0 0 (fun v M' => v = some (.int (b2i (decide ((wa >>> (c &&& 31)) &&& 1 = 1)))) ∧ M' = M) := by
  refine g_seq s_Thing_isWatchedBy_0 rfl ?_
  refine g_get f_Thing_28 d_Thing_isWatchedBy_1 (hM) rfl ?_
  refine g_seq s_Thing_isWatchedBy_4 rfl ?_
  refine g_icmp_ne (tgt := 16) d_Thing_isWatchedBy_9 (by decide) (fun h => ?_) (fun h => ?_)
  · skip
    refine g_seq s_Thing_isWatchedBy_16 rfl ?_
    exact g_zret rfl rfl d_Thing_isWatchedBy_17 (⟨by rw [decide_eq_false h]; rfl, rfl⟩)
  · skip
    refine g_seq s_Thing_isWatchedBy_12 rfl ?_
    exact g_zret rfl rfl d_Thing_isWatchedBy_17 (⟨by rw [decide_eq_true h]; rfl, rfl⟩)
theorem x_isClient {c : Int32} : G κ m_LH_isClient d M 0 [some (.int c)] [] 0 0 (fun v M' => v = some (.int (b2i (decide (0 ≤ c ∧ c < 16)))) ∧ M' = M) := by
  refine g_seq s_LH_isClient_0 rfl ?_
  refine g_if_lt (tgt := 14) d_LH_isClient_1 (by decide) (fun h => ?_) (fun h => ?_)
  · skip
    refine g_seq s_LH_isClient_14 rfl ?_
    exact g_zret rfl rfl d_LH_isClient_15 (⟨by rw [decide_eq_false (fun q => absurd h (Int32.not_lt.mpr q.1))]; rfl, rfl⟩)
  · skip
    refine g_seq s_LH_isClient_4 rfl ?_
    refine g_icmp_ge (tgt := 14) d_LH_isClient_7 (by decide) (fun h2 => ?_) (fun h2 => ?_)
    · skip
      refine g_seq s_LH_isClient_14 rfl ?_
      exact g_zret rfl rfl d_LH_isClient_15 (⟨by rw [decide_eq_false (fun q => absurd q.2 (Int32.not_lt.mpr h2))]; rfl, rfl⟩)
    · skip
      refine g_seq s_LH_isClient_10 rfl ?_
      exact g_zret rfl rfl d_LH_isClient_15 (⟨by rw [decide_eq_true ⟨Int32.not_lt.mp h, Int32.not_le.mp h2⟩]; rfl, rfl⟩)
theorem x_isLeaseTime {c : Int32} : G κ m_LH_isLeaseTime d M 0 [some (.int c)] [] 0 0 (fun v M' => v = some (.int (b2i (decide (1 ≤ c ∧ c ≤ 100)))) ∧ M' = M) := by
  refine g_seq s_LH_isLeaseTime_0 rfl ?_
  refine g_icmp_lt (tgt := 15) d_LH_isLeaseTime_2 (by decide) (fun h => ?_) (fun h => ?_)
  · skip
    refine g_seq s_LH_isLeaseTime_15 rfl ?_
    exact g_zret rfl rfl d_LH_isLeaseTime_16 (⟨by rw [decide_eq_false (fun q => absurd h (Int32.not_lt.mpr q.1))]; rfl, rfl⟩)
  · skip
    refine g_seq s_LH_isLeaseTime_5 rfl ?_
    refine g_icmp_gt (tgt := 15) d_LH_isLeaseTime_8 (by decide) (fun h2 => ?_) (fun h2 => ?_)
    · skip
      refine g_seq s_LH_isLeaseTime_15 rfl ?_
      exact g_zret rfl rfl d_LH_isLeaseTime_16 (⟨by rw [decide_eq_false (fun q => absurd h2 (Int32.not_lt.mpr q.2))]; rfl, rfl⟩)
    · skip
      refine g_seq s_LH_isLeaseTime_11 rfl ?_
      exact g_zret rfl rfl d_LH_isLeaseTime_16 (⟨by rw [decide_eq_true ⟨Int32.not_lt.mp h, Int32.not_lt.mp h2⟩]; rfl, rfl⟩)
theorem x_hasNameAnd {e1 e2 e3 e4 e5 e7 : Value} {tp c : Int32} (hM : M a = some (eO 0 [e1, e2, e3, e4, e5, .int tp, e7])) : G κ m_LH_hasNameAnd (d + 1) M 0 [some (.ref a), some (.int c)] [] 0 0 (fun v M' => v = some (.int (b2i (decide (tp ≠ 0 ∧ 0 ≤ c ∧ c < 16)))) ∧ M' = M) := by
  refine g_seq s_LH_hasNameAnd_0 rfl ?_
  refine g_get f_LH_35 d_LH_hasNameAnd_1 (hM) rfl ?_
  refine g_if_eq (tgt := 18) d_LH_hasNameAnd_4 (by decide) (fun h => ?_) (fun h => ?_)
  · skip
    refine g_seq s_LH_hasNameAnd_18 rfl ?_
    exact g_zret rfl rfl d_LH_hasNameAnd_19 (⟨by rw [decide_eq_false (fun q => q.1 h)]; rfl, rfl⟩)
  · skip
    refine g_seq s_LH_hasNameAnd_7 rfl ?_
    refine g_invS  l_LH_168 d_LH_hasNameAnd_8 rfl ⟨rfl, Nat.le_of_ble_eq_true rfl, Nat.le_of_ble_eq_true rfl⟩ (x_isClient) (Nat.le_of_eq (Nat.zero_add _)) (Nat.le_of_eq (Nat.zero_add _)) ?_
    rintro v M' ⟨rfl, rfl⟩
    refine g_if_eq (tgt := 18) d_LH_hasNameAnd_11 (by decide) (fun h2 => ?_) (fun h2 => ?_)
    · skip
      refine g_seq s_LH_hasNameAnd_18 rfl ?_
      exact g_zret rfl rfl d_LH_hasNameAnd_19 (⟨by rw [decide_eq_false (fun q => of_decide_eq_false (b2i_0.mp h2) q.2)]; rfl, rfl⟩)
    · skip
      refine g_seq s_LH_hasNameAnd_14 rfl ?_
      exact g_zret rfl rfl d_LH_hasNameAnd_19 (⟨by rw [decide_eq_true ⟨h, of_decide_eq_true (b2i_n.mp h2)⟩]; rfl, rfl⟩)
theorem x_withoutLastLetter {c : Int32} : G κ m_LH_withoutLastLetter d M 0 [some (.int c)] [] 0 0 (fun v M' => v = some (.int ((c - 1) / 26)) ∧ M' = M) := by
  refine g_seq s_LH_withoutLastLetter_0 rfl ?_
  refine g_idiv d_LH_withoutLastLetter_5 (by decide) ?_
  exact g_iret rfl d_LH_withoutLastLetter_6 (⟨rfl, rfl⟩)
end XL
end
section
/-! what the class's objects stand for -/
abbrev Wt : Type := Int32 × Int32 × Int32
abbrev Th : Type := Int32 × List Wt × Int32 × Int32 × Int32 × Int32
/-- two lists of one length, R place by place -/
def R2 {α : Type} (R : Nat → α → Prop) (xs : List Nat) (ys : List α) : Prop := xs.length = ys.length ∧ ∀ (i x : Nat) (y : α), xs[i]? = some x → ys[i]? = some y → R x y
theorem R2.at {α : Type} {R : Nat → α → Prop} {xs : List Nat} {ys : List α} (h : R2 R xs ys) {i : Nat} {y : α} (hy : ys[i]? = some y) : ∃ x, xs[i]? = some x ∧ R x y := by
  have hi : i < xs.length := by rw [h.1]; exact (List.getElem?_eq_some_iff.mp hy).1
  exact ⟨xs[i], List.getElem?_eq_getElem hi, h.2 i _ _ (List.getElem?_eq_getElem hi) hy⟩
theorem R2.mem {α : Type} {R : Nat → α → Prop} {xs : List Nat} {ys : List α} (h : R2 R xs ys) {x : Nat} (hx : x ∈ xs) : ∃ y, R x y := by
  obtain ⟨i, hi⟩ := List.getElem?_of_mem hx
  have hl : i < ys.length := by rw [← h.1]; exact (List.getElem?_eq_some_iff.mp hi).1
  exact ⟨_, h.2 i _ _ hi (List.getElem?_eq_getElem hl)⟩
theorem R2.mono {α : Type} {R R' : Nat → α → Prop} {xs : List Nat} {ys : List α} (h : R2 R xs ys) (hm : ∀ x y, x ∈ xs → R x y → R' x y) : R2 R' xs ys := ⟨h.1, fun i x y hx hy => hm x y (List.mem_of_getElem? hx) (h.2 i x y hx hy)⟩
theorem R2.nil {α : Type} {R : Nat → α → Prop} : R2 R [] ([] : List α) := ⟨rfl, fun i x y hx => by simp at hx⟩
theorem R2.snoc {α : Type} {R : Nat → α → Prop} {xs : List Nat} {ys : List α} {x : Nat} {y : α} (h : R2 R xs ys) (hxy : R x y) : R2 R (xs ++ [x]) (ys ++ [y]) := by
  refine ⟨by simp [h.1], fun i a b ha hb => ?_⟩
  by_cases hi : i < xs.length
  · rw [List.getElem?_append_left hi] at ha
    rw [List.getElem?_append_left (by rw [← h.1]; exact hi)] at hb
    exact h.2 i a b ha hb
  · rw [List.getElem?_append_right (by omega)] at ha
    rw [List.getElem?_append_right (by rw [← h.1]; omega), ← h.1] at hb
    have hz : i - xs.length < 1 := (List.getElem?_eq_some_iff.mp ha).1
    have h0 : i - xs.length = 0 := by omega
    rw [h0] at ha hb
    cases ha
    cases hb
    exact hxy
theorem R2.erase {α : Type} {R : Nat → α → Prop} {xs : List Nat} {ys : List α} (h : R2 R xs ys) (j : Nat) : R2 R (xs.eraseIdx j) (ys.eraseIdx j) := by
  refine ⟨by rw [List.length_eraseIdx, List.length_eraseIdx, h.1], fun i a b ha hb => ?_⟩
  rw [List.getElem?_eraseIdx] at ha hb
  by_cases hij : i < j
  · rw [if_pos hij] at ha hb; exact h.2 i a b ha hb
  · rw [if_neg hij] at ha hb; exact h.2 (i + 1) a b ha hb
/-- the first place in l where p holds -/
def FI {α : Type} (p : α → Bool) (l : List α) (r : Option Nat) : Prop := match r with
  | none => ∀ (j : Nat) (y : α), l[j]? = some y → p y = false
  | some i => ∃ x, l[i]? = some x ∧ p x = true ∧ ∀ (j : Nat) (y : α), j < i → l[j]? = some y → p y = false
def oI (r : Option Nat) : Int32 := match r with
  | none => -2
  | some i => nI i
def WaR (M : Mm) (a : Nat) (w : Wt) : Prop := M a = some (eO 2 [.int w.1, .int w.2.1, .int w.2.2])
def JoR (M : Mm) (a : Nat) (w : Wt) : Prop := M a = some (eO 3 [.int w.1, .int w.2.1, .int w.2.2])
def CaR (M : Mm) (a : Nat) (w : Int32 × Int32) : Prop := M a = some (eO 4 [.int w.1, .int w.2])
def NoR (M : Mm) (a : Nat) (w : Int32 × Int32) : Prop := M a = some (eO 5 [.int w.1, .int w.2])
/-- a thing: its cell, its row's list (whose owner it is) -/
def ThC (M : Mm) (a r : Nat) (t : Th) : Prop := M a = some (eO 1 [.int t.1, .ref r, .int t.2.2.1, .int t.2.2.2.1, .int t.2.2.2.2.1, .int t.2.2.2.2.2])
def ThR (M : Mm) (own : Nat → Nat × Nat) (a : Nat) (t : Th) : Prop := ∃ r ws, ThC M a r t ∧ M r = some (eL ws) ∧ own r = (3, a) ∧ R2 (WaR M) ws t.2.1
section XS
variable {κ : Nat × Nat} {d : Nat} {M : Mm} {a : Nat} {own : Nat → Nat × Nat}
theorem t_placeOf {r : Nat} {ws : List Nat} {t : Th} {c : Int32} (hM : ThC M a r t) (hr : M r = some (eL ws)) (hR : R2 (WaR M) ws t.2.1) (hlen : ws.length ≤ 10000) : G κ m_Thing_placeOf (d + 3) M 0 [some (.ref a), some (.int c), none] [] 0 0 (fun v M' => ∃ o, FI (fun w : Wt => w.1 == c) t.2.1 o ∧ v = some (.int (oI o)) ∧ M' = M) := by
  have loop : ∀ n i, i + n = ws.length → (∀ (j : Nat) (y : Wt), j < i → t.2.1[j]? = some y → (y.1 == c) = false) → G κ m_Thing_placeOf (d + 3) M 2 [some (.ref a), some (.int c), some (.int (nI i))] [] 0 0 (fun v M' => ∃ o, FI (fun w : Wt => w.1 == c) t.2.1 o ∧ v = some (.int (oI o)) ∧ M' = M) := by
    intro n
    induction n with
    | zero =>
      intro i hi hno
      refine g_seq s_Thing_placeOf_2 rfl ?_
      refine g_get f_Thing_12 d_Thing_placeOf_4 (hM) rfl ?_
      refine g_invL  l_Thing_34 d_Thing_placeOf_7 rfl ⟨rfl, Nat.le_of_ble_eq_true rfl, Nat.le_of_ble_eq_true rfl⟩ (hr) (al_size hr) (Nat.le_of_eq (Nat.zero_add _)) (Nat.le_of_eq (Nat.zero_add _)) ?_
      rintro v M' ⟨rfl, rfl⟩
      refine g_icmp_ge (tgt := 39) d_Thing_placeOf_10 (by decide) (fun hc => ?_) (fun hc => absurd hc (fun h => h (nI_le (by omega) (by omega))))
      refine g_seq s_Thing_placeOf_39 rfl ?_
      exact g_iret rfl d_Thing_placeOf_41 (⟨none, fun j y hy => hno j y (by have := (List.getElem?_eq_some_iff.mp hy).1; rw [← hR.1] at this; omega) hy, rfl, rfl⟩)
    | succ n ih =>
      intro i hi hno
      have hil : i < t.2.1.length := by rw [← hR.1]; omega
      obtain ⟨x, hx, hw⟩ := hR.at (List.getElem?_eq_getElem hil)
      refine g_seq s_Thing_placeOf_2 rfl ?_
      refine g_get f_Thing_12 d_Thing_placeOf_4 (hM) rfl ?_
      refine g_invL  l_Thing_34 d_Thing_placeOf_7 rfl ⟨rfl, Nat.le_of_ble_eq_true rfl, Nat.le_of_ble_eq_true rfl⟩ (hr) (al_size hr) (Nat.le_of_eq (Nat.zero_add _)) (Nat.le_of_eq (Nat.zero_add _)) ?_
      rintro v M' ⟨rfl, rfl⟩
      refine g_icmp_ge (tgt := 39) d_Thing_placeOf_10 (by decide) (fun hc => absurd hc (nI_ge (by omega) (by omega))) (fun hc => ?_)
      refine g_seq s_Thing_placeOf_13 rfl ?_
      refine g_get f_Thing_12 d_Thing_placeOf_14 (hM) rfl ?_
      refine g_seq s_Thing_placeOf_17 rfl ?_
      refine g_invL  l_Thing_38 d_Thing_placeOf_18 rfl ⟨rfl, Nat.le_of_ble_eq_true rfl, Nat.le_of_ble_eq_true rfl⟩ (hr) (al_get hr hx (by omega)) (Nat.le_of_eq (Nat.zero_add _)) (Nat.le_of_eq (Nat.zero_add _)) ?_
      rintro v M' ⟨rfl, rfl⟩
      refine g_cast cl_Thing_42 rfl ca_Waiter_Waiter d_Thing_placeOf_21 (hw) ?_
      refine g_invV  l_Thing_44 d_Thing_placeOf_24 rfl ⟨rfl, Nat.le_of_ble_eq_true rfl, Nat.le_of_ble_eq_true rfl⟩ (hw) (w_client hw) (Nat.le_of_eq (Nat.zero_add _)) (Nat.le_of_eq (Nat.zero_add _)) ?_
      rintro v M' ⟨rfl, rfl⟩
      refine g_seq s_Thing_placeOf_27 rfl ?_
      refine g_icmp_ne (tgt := 33) d_Thing_placeOf_28 (by decide) (fun hc => ?_) (fun hc => ?_)
      · skip
        refine g_seq s_Thing_placeOf_33 rfl ?_
        rw [nI_1]
        refine ih (i + 1) (by omega) (fun j y hj hy => ?_)
        by_cases hji : j = i
        · subst hji
          rw [List.getElem?_eq_getElem hil] at hy
          cases hy
          simpa using hc
        · exact hno j y (by omega) hy
      · skip
        refine g_seq s_Thing_placeOf_31 rfl ?_
        exact g_iret rfl d_Thing_placeOf_32 (⟨some i, ⟨_, List.getElem?_eq_getElem hil, by simpa using hc, hno⟩, rfl, rfl⟩)
  refine g_seq s_Thing_placeOf_0 rfl ?_
  exact loop ws.length 0 (by omega) (fun j y hj => absurd hj (Nat.not_lt_zero _))
/-- the house's cell -/
def HoC (M : Mm) (h aT aJ aC aB aW : Nat) (tp nw : Int32) : Prop := M h = some (eO 0 [.ref aT, .ref aJ, .ref aC, .ref aB, .ref aW, .int tp, .int nw])
theorem x_findThing {h aT aJ aC aB aW : Nat} {tp nw nm : Int32} {ts : List Nat} {T : List Th} (hH : HoC M h aT aJ aC aB aW tp nw) (hT : M aT = some (eL ts)) (hR : R2 (ThR M own) ts T) (hlen : ts.length ≤ 10000) : G κ m_LH_findThing (d + 3) M 0 [some (.ref h), some (.int nm), none] [] 0 0 (fun v M' => ∃ o, FI (fun t : Th => t.1 == nm) T o ∧ v = some (va_rf (o.bind (fun i => ts[i]?))) ∧ M' = M) := by
  have loop : ∀ n i, i + n = ts.length → (∀ (j : Nat) (y : Th), j < i → T[j]? = some y → (y.1 == nm) = false) → G κ m_LH_findThing (d + 3) M 2 [some (.ref h), some (.int nm), some (.int (nI i))] [] 0 0 (fun v M' => ∃ o, FI (fun t : Th => t.1 == nm) T o ∧ v = some (va_rf (o.bind (fun i => ts[i]?))) ∧ M' = M) := by
    intro n
    induction n with
    | zero =>
      intro i hi hno
      refine g_seq s_LH_findThing_2 rfl ?_
      refine g_get f_LH_10 d_LH_findThing_4 (hH) rfl ?_
      refine g_invL  l_LH_98 d_LH_findThing_7 rfl ⟨rfl, Nat.le_of_ble_eq_true rfl, Nat.le_of_ble_eq_true rfl⟩ (hT) (al_size hT) (Nat.le_of_eq (Nat.zero_add _)) (Nat.le_of_eq (Nat.zero_add _)) ?_
      rintro v M' ⟨rfl, rfl⟩
      refine g_icmp_ge (tgt := 49) d_LH_findThing_10 (by decide) (fun hc => ?_) (fun hc => absurd hc (fun h => h (nI_le (by omega) (by omega))))
      refine g_seq s_LH_findThing_49 rfl ?_
      exact g_aretN rfl (by first | exact Or.inl ⟨_, rfl⟩ | exact Or.inr ⟨_, rfl⟩) d_LH_findThing_50 (⟨none, fun j y hy => hno j y (by have := (List.getElem?_eq_some_iff.mp hy).1; rw [← hR.1] at this; omega) hy, rfl, rfl⟩)
    | succ n ih =>
      intro i hi hno
      have hil : i < T.length := by rw [← hR.1]; omega
      obtain ⟨x, hx, r, ws, hc1, hr1, ho1, hw1⟩ := hR.at (List.getElem?_eq_getElem hil)
      refine g_seq s_LH_findThing_2 rfl ?_
      refine g_get f_LH_10 d_LH_findThing_4 (hH) rfl ?_
      refine g_invL  l_LH_98 d_LH_findThing_7 rfl ⟨rfl, Nat.le_of_ble_eq_true rfl, Nat.le_of_ble_eq_true rfl⟩ (hT) (al_size hT) (Nat.le_of_eq (Nat.zero_add _)) (Nat.le_of_eq (Nat.zero_add _)) ?_
      rintro v M' ⟨rfl, rfl⟩
      refine g_icmp_ge (tgt := 49) d_LH_findThing_10 (by decide) (fun hc => absurd hc (nI_ge (by omega) (by omega))) (fun hc => ?_)
      refine g_seq s_LH_findThing_13 rfl ?_
      refine g_get f_LH_10 d_LH_findThing_14 (hH) rfl ?_
      refine g_seq s_LH_findThing_17 rfl ?_
      refine g_invL  l_LH_106 d_LH_findThing_18 rfl ⟨rfl, Nat.le_of_ble_eq_true rfl, Nat.le_of_ble_eq_true rfl⟩ (hT) (al_get hT hx (by omega)) (Nat.le_of_eq (Nat.zero_add _)) (Nat.le_of_eq (Nat.zero_add _)) ?_
      rintro v M' ⟨rfl, rfl⟩
      refine g_cast cl_LH_59 rfl ca_Thing_Thing d_LH_findThing_21 (hc1) ?_
      refine g_get f_LH_114 d_LH_findThing_24 (hc1) rfl ?_
      refine g_seq s_LH_findThing_27 rfl ?_
      refine g_icmp_ne (tgt := 43) d_LH_findThing_28 (by decide) (fun hc => ?_) (fun hc => ?_)
      · skip
        refine g_seq s_LH_findThing_43 rfl ?_
        rw [nI_1]
        refine ih (i + 1) (by omega) (fun j y hj hy => ?_)
        by_cases hji : j = i
        · subst hji
          rw [List.getElem?_eq_getElem hil] at hy
          cases hy
          simpa using hc
        · exact hno j y (by omega) hy
      · skip
        refine g_seq s_LH_findThing_31 rfl ?_
        refine g_get f_LH_10 d_LH_findThing_32 (hH) rfl ?_
        refine g_seq s_LH_findThing_35 rfl ?_
        refine g_invL  l_LH_106 d_LH_findThing_36 rfl ⟨rfl, Nat.le_of_ble_eq_true rfl, Nat.le_of_ble_eq_true rfl⟩ (hT) (al_get hT hx (by omega)) (Nat.le_of_eq (Nat.zero_add _)) (Nat.le_of_eq (Nat.zero_add _)) ?_
        rintro v M' ⟨rfl, rfl⟩
        refine g_cast cl_LH_59 rfl ca_Thing_Thing d_LH_findThing_39 (hc1) ?_
        exact g_aret rfl (by first | exact Or.inl ⟨_, rfl⟩ | exact Or.inr ⟨_, rfl⟩) d_LH_findThing_42 (⟨some i, ⟨_, List.getElem?_eq_getElem hil, by simpa using hc, hno⟩, by rw [Option.bind_some, hx]; rfl, rfl⟩)
  refine g_seq s_LH_findThing_0 rfl ?_
  exact loop ts.length 0 (by omega) (fun j y hj => absurd hj (Nat.not_lt_zero _))
end XS
end
section
def sm {α : Type} (f : α → Nat) (l : List α) : Nat := (l.map f).sum
theorem sm_step {α : Type} {f : α → Nat} {l : List α} {i : Nat} {x : α} (h : l[i]? = some x) : sm f (l.take (i + 1)) = sm f (l.take i) + f x := by
  unfold sm
  rw [List.take_add_one, h]
  simp
theorem sm_all {α : Type} {f : α → Nat} {l : List α} {i : Nat} (h : l.length ≤ i) : sm f (l.take i) = sm f l := by
  rw [List.take_of_length_le h]
def lent (t : Th) : Bool := t.2.2.1 != -2
/-- t ends ahead of u -/
def bef (t u : Th) : Bool := decide (t.2.2.2.1 < u.2.2.2.1 ∨ (t.2.2.2.1 = u.2.2.2.1 ∧ t.1 < u.1))
theorem bef_tr {t u w : Th} (h1 : bef t u = true) (h2 : bef u w = true) : bef t w = true := by
  simp only [bef, decide_eq_true_eq] at *
  simp only [Int32.lt_iff_toInt_lt, ← Int32.toInt_inj] at *
  omega
theorem bef_as {t u : Th} (h1 : bef t u = true) : bef u t = false := by
  simp only [bef, decide_eq_true_eq, decide_eq_false_iff_not] at *
  simp only [Int32.lt_iff_toInt_lt, ← Int32.toInt_inj] at *
  omega
/-- which of the first n things ends first -/
def MinT (T : List Th) (n : Nat) (r : Option Nat) : Prop := match r with
  | none => ∀ (j : Nat) (y : Th), j < n → T[j]? = some y → lent y = false
  | some i => i < n ∧ ∃ t, T[i]? = some t ∧ lent t = true ∧ ∀ (j : Nat) (y : Th), j < n → T[j]? = some y → lent y = true → bef y t = false
section XO
variable {κ : Nat × Nat} {d : Nat} {M : Mm} {a : Nat} {own : Nat → Nat × Nat} {h aT aJ aC aB aW : Nat} {tp nw : Int32} {ts : List Nat} {T : List Th}
theorem x_findNextToEnd (hH : HoC M h aT aJ aC aB aW tp nw) (hT : M aT = some (eL ts)) (hR : R2 (ThR M own) ts T) (hlen : ts.length ≤ 10000) : G κ m_LH_findNextToEnd (d + 3) M 0 [some (.ref h), none, none, none] [] 0 0 (fun v M' => ∃ o, MinT T T.length o ∧ v = some (va_rf (o.bind (fun i => ts[i]?))) ∧ M' = M) := by
  have loop : ∀ n i r o3, i + n = ts.length → MinT T i r → G κ m_LH_findNextToEnd (d + 3) M 4 [some (.ref h), some (va_rf (r.bind (fun i => ts[i]?))), some (.int (nI i)), o3] [] 0 0 (fun v M' => ∃ o, MinT T T.length o ∧ v = some (va_rf (o.bind (fun i => ts[i]?))) ∧ M' = M) := by
    intro n
    induction n with
    | zero =>
      intro i r o3 hi hmin
      have hiT : i = T.length := by rw [← hR.1]; omega
      refine g_seq s_LH_findNextToEnd_4 rfl ?_
      refine g_get f_LH_10 d_LH_findNextToEnd_6 (hH) rfl ?_
      refine g_invL  l_LH_98 d_LH_findNextToEnd_9 rfl ⟨rfl, Nat.le_of_ble_eq_true rfl, Nat.le_of_ble_eq_true rfl⟩ (hT) (al_size hT) (Nat.le_of_eq (Nat.zero_add _)) (Nat.le_of_eq (Nat.zero_add _)) ?_
      rintro v M' ⟨rfl, rfl⟩
      refine g_icmp_ge (tgt := 54) d_LH_findNextToEnd_12 (by decide) (fun hc => ?_) (fun hc => absurd hc (fun h => h (nI_le (by omega) (by omega))))
      cases hr : r.bind (fun i => ts[i]?) with
      | none =>
        refine g_seq s_LH_findNextToEnd_54 rfl ?_
        exact g_aretN rfl (by first | exact Or.inl ⟨_, rfl⟩ | exact Or.inr ⟨_, rfl⟩) d_LH_findNextToEnd_55 (⟨r, hiT ▸ hmin, by rw [hr]; rfl, rfl⟩)
      | some y =>
        refine g_seq s_LH_findNextToEnd_54 rfl ?_
        exact g_aret rfl (by first | exact Or.inl ⟨_, rfl⟩ | exact Or.inr ⟨_, rfl⟩) d_LH_findNextToEnd_55 (⟨r, hiT ▸ hmin, by rw [hr]; rfl, rfl⟩)
    | succ n ih =>
      intro i r o3 hi hmin
      have hil : i < T.length := by rw [← hR.1]; omega
      have hTi := List.getElem?_eq_getElem hil
      generalize T[i] = ti at hTi
      obtain ⟨x, hx, r1, ws, hc1, hr1, ho1, hw1⟩ := hR.at hTi
      have skip : (lent ti = false ∨ ∃ b tb, r = some b ∧ T[b]? = some tb ∧ bef ti tb = false) → MinT T (i + 1) r := by
        intro hs
        cases r with
        | none =>
          intro j y hj hy
          by_cases hji : j = i
          · subst hji
            rw [hTi] at hy
            cases hy
            rcases hs with hs | ⟨b, tb, hs, -⟩
            · exact hs
            · cases hs
          · exact hmin j y (by omega) hy
        | some b =>
          obtain ⟨hb1, t, hb2, hb3, hb4⟩ := hmin
          refine ⟨by omega, t, hb2, hb3, fun j y hj hy hly => ?_⟩
          by_cases hji : j = i
          · subst hji
            rw [hTi] at hy
            cases hy
            rcases hs with hs | ⟨b', tb, hs, hs2, hs3⟩
            · rw [hs] at hly; cases hly
            · cases hs
              rw [hb2] at hs2
              cases hs2
              exact hs3
          · exact hb4 j y (by omega) hy hly
      have cont : ∀ o3', MinT T (i + 1) r → G κ m_LH_findNextToEnd (d + 3) M 48 [some (.ref h), some (va_rf (r.bind (fun i => ts[i]?))), some (.int (nI i)), o3'] [] 0 0 (fun v M' => ∃ o, MinT T T.length o ∧ v = some (va_rf (o.bind (fun i => ts[i]?))) ∧ M' = M) := by
        intro o3' hm
        have hih := ih (i + 1) r o3' (by omega) hm
        cases hrb : r.bind (fun i => ts[i]?) with
        | none =>
          rw [hrb] at hih
          refine g_seq s_LH_findNextToEnd_48 rfl ?_
          rw [nI_1]
          exact hih
        | some y =>
          rw [hrb] at hih
          refine g_seq s_LH_findNextToEnd_48 rfl ?_
          rw [nI_1]
          exact hih
      have take : lent ti = true → (∀ (j : Nat) (y : Th), j < i → T[j]? = some y → lent y = true → bef y ti = false) → G κ m_LH_findNextToEnd (d + 3) M 46 [some (.ref h), some (va_rf (r.bind (fun i => ts[i]?))), some (.int (nI i)), some (.ref x)] [] 0 0 (fun v M' => ∃ o, MinT T T.length o ∧ v = some (va_rf (o.bind (fun i => ts[i]?))) ∧ M' = M) := by
        intro hlt hb
        refine g_seq s_LH_findNextToEnd_46 rfl ?_
        rw [nI_1]
        have hm : MinT T (i + 1) (some i) := by
          refine ⟨by omega, ti, hTi, hlt, fun j y hj hy hly => ?_⟩
          by_cases hji : j = i
          · subst hji
            rw [hTi] at hy
            cases hy
            cases hbb : bef ti ti with
            | false => rfl
            | true => rw [bef_as hbb] at hbb; cases hbb
          · exact hb j y (by omega) hy hly
        have := ih (i + 1) (some i) (some (.ref x)) (by omega) hm
        rw [Option.bind_some, hx] at this
        exact this
      refine g_seq s_LH_findNextToEnd_4 rfl ?_
      refine g_get f_LH_10 d_LH_findNextToEnd_6 (hH) rfl ?_
      refine g_invL  l_LH_98 d_LH_findNextToEnd_9 rfl ⟨rfl, Nat.le_of_ble_eq_true rfl, Nat.le_of_ble_eq_true rfl⟩ (hT) (al_size hT) (Nat.le_of_eq (Nat.zero_add _)) (Nat.le_of_eq (Nat.zero_add _)) ?_
      rintro v M' ⟨rfl, rfl⟩
      refine g_icmp_ge (tgt := 54) d_LH_findNextToEnd_12 (by decide) (fun hc => absurd hc (nI_ge (by omega) (by omega))) (fun hc => ?_)
      refine g_seq s_LH_findNextToEnd_15 rfl ?_
      refine g_get f_LH_10 d_LH_findNextToEnd_16 (hH) rfl ?_
      refine g_seq s_LH_findNextToEnd_19 rfl ?_
      refine g_invL  l_LH_106 d_LH_findNextToEnd_20 rfl ⟨rfl, Nat.le_of_ble_eq_true rfl, Nat.le_of_ble_eq_true rfl⟩ (hT) (al_get hT hx (by omega)) (Nat.le_of_eq (Nat.zero_add _)) (Nat.le_of_eq (Nat.zero_add _)) ?_
      rintro v M' ⟨rfl, rfl⟩
      refine g_cast cl_LH_59 rfl ca_Thing_Thing d_LH_findNextToEnd_23 (hc1) ?_
      refine g_seq s_LH_findNextToEnd_26 rfl ?_
      refine g_invV  l_LH_58 d_LH_findNextToEnd_28 rfl ⟨rfl, Nat.le_of_ble_eq_true rfl, Nat.le_of_ble_eq_true rfl⟩ (hc1) (t_isLent hc1) (Nat.le_of_eq (Nat.zero_add _)) (Nat.le_of_eq (Nat.zero_add _)) ?_
      rintro v M' ⟨rfl, rfl⟩
      refine g_if_eq (tgt := 48) d_LH_findNextToEnd_31 (by decide) (fun hc => ?_) (fun hc => ?_)
      · skip
        exact cont _ (skip (Or.inl (b2i_0.mp hc)))
      · skip
        have hlt : lent ti = true := b2i_n.mp hc
        cases r with
        | none =>
          refine g_seq s_LH_findNextToEnd_34 rfl ?_
          refine g_ifnullN (tgt := 46) d_LH_findNextToEnd_35 (by decide) ?_
          exact take hlt (fun j y hj hy hly => by rw [hmin j y hj hy] at hly; cases hly)
        | some b =>
          obtain ⟨hb1, tb, hb2, hb3, hb4⟩ := id hmin
          obtain ⟨xb, hxb, r2, ws2, hc2, hr2, ho2, hw2⟩ := hR.at hb2
          simp only [Option.bind_some, hxb] at cont take ⊢
          refine g_seq s_LH_findNextToEnd_34 rfl ?_
          refine g_ifnull d_LH_findNextToEnd_35 ?_
          refine g_seq s_LH_findNextToEnd_38 rfl ?_
          refine g_invV  l_LH_206 d_LH_findNextToEnd_40 rfl ⟨rfl, Nat.le_of_ble_eq_true rfl, Nat.le_of_ble_eq_true rfl⟩ (hc1) (t_endsBefore hc1 hc2) (Nat.le_of_eq (Nat.zero_add _)) (Nat.le_of_eq (Nat.zero_add _)) ?_
          rintro v M' ⟨rfl, rfl⟩
          refine g_if_eq (tgt := 48) d_LH_findNextToEnd_43 (by decide) (fun hd => ?_) (fun hd => ?_)
          · skip
            exact cont _ (skip (Or.inr ⟨b, tb, rfl, hb2, b2i_0.mp hd⟩))
          · skip
            have hbe : bef ti tb = true := b2i_n.mp hd
            refine take hlt (fun j y hj hy hly => ?_)
            cases hyy : bef y ti with
            | false => rfl
            | true => exact absurd (bef_tr hyy hbe) (by rw [hb4 j y hj hy hly]; decide)
  refine g_seq s_LH_findNextToEnd_0 rfl ?_
  exact loop ts.length 0 none none (by omega) (fun j y hj => absurd hj (Nat.not_lt_zero _))
theorem x_countLeases (hH : HoC M h aT aJ aC aB aW tp nw) (hT : M aT = some (eL ts)) (hR : R2 (ThR M own) ts T) (hlen : ts.length ≤ 10000) : G κ m_LH_countLeases (d + 3) M 0 [some (.ref h), none, none] [] 0 0 (fun v M' => v = some (.int (nI (sm (fun t : Th => if lent t then 1 else 0) T))) ∧ M' = M) := by
  have loop : ∀ n i, i + n = ts.length → G κ m_LH_countLeases (d + 3) M 4 [some (.ref h), some (.int (nI (sm (fun t : Th => if lent t then 1 else 0) (T.take i)))), some (.int (nI i))] [] 0 0 (fun v M' => v = some (.int (nI (sm (fun t : Th => if lent t then 1 else 0) T))) ∧ M' = M) := by
    intro n
    induction n with
    | zero =>
      intro i hi
      refine g_seq s_LH_countLeases_4 rfl ?_
      refine g_get f_LH_10 d_LH_countLeases_6 (hH) rfl ?_
      refine g_invL  l_LH_98 d_LH_countLeases_9 rfl ⟨rfl, Nat.le_of_ble_eq_true rfl, Nat.le_of_ble_eq_true rfl⟩ (hT) (al_size hT) (Nat.le_of_eq (Nat.zero_add _)) (Nat.le_of_eq (Nat.zero_add _)) ?_
      rintro v M' ⟨rfl, rfl⟩
      refine g_icmp_ge (tgt := 41) d_LH_countLeases_12 (by decide) (fun hc => ?_) (fun hc => absurd hc (fun h => h (nI_le (by omega) (by omega))))
      refine g_seq s_LH_countLeases_41 rfl ?_
      rw [sm_all (by rw [← hR.1]; omega)]
      exact g_iret rfl d_LH_countLeases_42 (⟨rfl, rfl⟩)
    | succ n ih =>
      intro i hi
      have hil : i < T.length := by rw [← hR.1]; omega
      have hTi := List.getElem?_eq_getElem hil
      generalize T[i] = ti at hTi
      obtain ⟨x, hx, r1, ws, hc1, hr1, ho1, hw1⟩ := hR.at hTi
      have hst := sm_step (f := fun t : Th => if lent t then 1 else 0) hTi
      refine g_seq s_LH_countLeases_4 rfl ?_
      refine g_get f_LH_10 d_LH_countLeases_6 (hH) rfl ?_
      refine g_invL  l_LH_98 d_LH_countLeases_9 rfl ⟨rfl, Nat.le_of_ble_eq_true rfl, Nat.le_of_ble_eq_true rfl⟩ (hT) (al_size hT) (Nat.le_of_eq (Nat.zero_add _)) (Nat.le_of_eq (Nat.zero_add _)) ?_
      rintro v M' ⟨rfl, rfl⟩
      refine g_icmp_ge (tgt := 41) d_LH_countLeases_12 (by decide) (fun hc => absurd hc (nI_ge (by omega) (by omega))) (fun hc => ?_)
      refine g_seq s_LH_countLeases_15 rfl ?_
      refine g_get f_LH_10 d_LH_countLeases_16 (hH) rfl ?_
      refine g_seq s_LH_countLeases_19 rfl ?_
      refine g_invL  l_LH_106 d_LH_countLeases_20 rfl ⟨rfl, Nat.le_of_ble_eq_true rfl, Nat.le_of_ble_eq_true rfl⟩ (hT) (al_get hT hx (by omega)) (Nat.le_of_eq (Nat.zero_add _)) (Nat.le_of_eq (Nat.zero_add _)) ?_
      rintro v M' ⟨rfl, rfl⟩
      refine g_cast cl_LH_59 rfl ca_Thing_Thing d_LH_countLeases_23 (hc1) ?_
      refine g_invV  l_LH_58 d_LH_countLeases_26 rfl ⟨rfl, Nat.le_of_ble_eq_true rfl, Nat.le_of_ble_eq_true rfl⟩ (hc1) (t_isLent hc1) (Nat.le_of_eq (Nat.zero_add _)) (Nat.le_of_eq (Nat.zero_add _)) ?_
      rintro v M' ⟨rfl, rfl⟩
      refine g_if_eq (tgt := 35) d_LH_countLeases_29 (by decide) (fun hc => ?_) (fun hc => ?_)
      · skip
        refine g_seq s_LH_countLeases_35 rfl ?_
        have hl : lent ti = false := b2i_0.mp hc
        rw [nI_1]
        have := ih (i + 1) (by omega)
        rw [hst, hl] at this
        exact this
      · skip
        refine g_seq s_LH_countLeases_32 rfl ?_
        have hl : lent ti = true := b2i_n.mp hc
        rw [nI_1, nI_1]
        have := ih (i + 1) (by omega)
        rw [hst, hl] at this
        exact this
  refine g_seq s_LH_countLeases_0 rfl ?_
  exact loop ts.length 0 (by omega)
theorem x_countWatchedNames (hH : HoC M h aT aJ aC aB aW tp nw) (hT : M aT = some (eL ts)) (hR : R2 (ThR M own) ts T) (hlen : ts.length ≤ 10000) : G κ m_LH_countWatchedNames (d + 3) M 0 [some (.ref h), none, none] [] 0 0 (fun v M' => v = some (.int (nI (sm (fun t : Th => if t.2.2.2.2.2 = 0 then 0 else 1) T))) ∧ M' = M) := by
  have loop : ∀ n i, i + n = ts.length → G κ m_LH_countWatchedNames (d + 3) M 4 [some (.ref h), some (.int (nI (sm (fun t : Th => if t.2.2.2.2.2 = 0 then 0 else 1) (T.take i)))), some (.int (nI i))] [] 0 0 (fun v M' => v = some (.int (nI (sm (fun t : Th => if t.2.2.2.2.2 = 0 then 0 else 1) T))) ∧ M' = M) := by
    intro n
    induction n with
    | zero =>
      intro i hi
      refine g_seq s_LH_countWatchedNames_4 rfl ?_
      refine g_get f_LH_10 d_LH_countWatchedNames_6 (hH) rfl ?_
      refine g_invL  l_LH_98 d_LH_countWatchedNames_9 rfl ⟨rfl, Nat.le_of_ble_eq_true rfl, Nat.le_of_ble_eq_true rfl⟩ (hT) (al_size hT) (Nat.le_of_eq (Nat.zero_add _)) (Nat.le_of_eq (Nat.zero_add _)) ?_
      rintro v M' ⟨rfl, rfl⟩
      refine g_icmp_ge (tgt := 41) d_LH_countWatchedNames_12 (by decide) (fun hc => ?_) (fun hc => absurd hc (fun h => h (nI_le (by omega) (by omega))))
      refine g_seq s_LH_countWatchedNames_41 rfl ?_
      rw [sm_all (by rw [← hR.1]; omega)]
      exact g_iret rfl d_LH_countWatchedNames_42 (⟨rfl, rfl⟩)
    | succ n ih =>
      intro i hi
      have hil : i < T.length := by rw [← hR.1]; omega
      have hTi := List.getElem?_eq_getElem hil
      generalize T[i] = ti at hTi
      obtain ⟨x, hx, r1, ws, hc1, hr1, ho1, hw1⟩ := hR.at hTi
      have hst := sm_step (f := fun t : Th => if t.2.2.2.2.2 = 0 then 0 else 1) hTi
      refine g_seq s_LH_countWatchedNames_4 rfl ?_
      refine g_get f_LH_10 d_LH_countWatchedNames_6 (hH) rfl ?_
      refine g_invL  l_LH_98 d_LH_countWatchedNames_9 rfl ⟨rfl, Nat.le_of_ble_eq_true rfl, Nat.le_of_ble_eq_true rfl⟩ (hT) (al_size hT) (Nat.le_of_eq (Nat.zero_add _)) (Nat.le_of_eq (Nat.zero_add _)) ?_
      rintro v M' ⟨rfl, rfl⟩
      refine g_icmp_ge (tgt := 41) d_LH_countWatchedNames_12 (by decide) (fun hc => absurd hc (nI_ge (by omega) (by omega))) (fun hc => ?_)
      refine g_seq s_LH_countWatchedNames_15 rfl ?_
      refine g_get f_LH_10 d_LH_countWatchedNames_16 (hH) rfl ?_
      refine g_seq s_LH_countWatchedNames_19 rfl ?_
      refine g_invL  l_LH_106 d_LH_countWatchedNames_20 rfl ⟨rfl, Nat.le_of_ble_eq_true rfl, Nat.le_of_ble_eq_true rfl⟩ (hT) (al_get hT hx (by omega)) (Nat.le_of_eq (Nat.zero_add _)) (Nat.le_of_eq (Nat.zero_add _)) ?_
      rintro v M' ⟨rfl, rfl⟩
      refine g_cast cl_LH_59 rfl ca_Thing_Thing d_LH_countWatchedNames_23 (hc1) ?_
      refine g_get f_LH_160 d_LH_countWatchedNames_26 (hc1) rfl ?_
      refine g_if_eq (tgt := 35) d_LH_countWatchedNames_29 (by decide) (fun hc => ?_) (fun hc => ?_)
      · skip
        refine g_seq s_LH_countWatchedNames_35 rfl ?_
        rw [nI_1]
        have := ih (i + 1) (by omega)
        rw [hst, if_pos hc] at this
        exact this
      · skip
        refine g_seq s_LH_countWatchedNames_32 rfl ?_
        rw [nI_1, nI_1]
        have := ih (i + 1) (by omega)
        rw [hst, if_neg hc] at this
        exact this
  refine g_seq s_LH_countWatchedNames_0 rfl ?_
  exact loop ts.length 0 (by omega)
theorem x_countWaiting (hH : HoC M h aT aJ aC aB aW tp nw) (hT : M aT = some (eL ts)) (hR : R2 (ThR M own) ts T) (hlen : ts.length ≤ 10000) : G κ m_LH_countWaiting (d + 3) M 0 [some (.ref h), none, none] [] 0 0 (fun v M' => v = some (.int (nI (sm (fun t : Th => t.2.1.length) T))) ∧ M' = M) := by
  have loop : ∀ n i, i + n = ts.length → G κ m_LH_countWaiting (d + 3) M 4 [some (.ref h), some (.int (nI (sm (fun t : Th => t.2.1.length) (T.take i)))), some (.int (nI i))] [] 0 0 (fun v M' => v = some (.int (nI (sm (fun t : Th => t.2.1.length) T))) ∧ M' = M) := by
    intro n
    induction n with
    | zero =>
      intro i hi
      refine g_seq s_LH_countWaiting_4 rfl ?_
      refine g_get f_LH_10 d_LH_countWaiting_6 (hH) rfl ?_
      refine g_invL  l_LH_98 d_LH_countWaiting_9 rfl ⟨rfl, Nat.le_of_ble_eq_true rfl, Nat.le_of_ble_eq_true rfl⟩ (hT) (al_size hT) (Nat.le_of_eq (Nat.zero_add _)) (Nat.le_of_eq (Nat.zero_add _)) ?_
      rintro v M' ⟨rfl, rfl⟩
      refine g_icmp_ge (tgt := 41) d_LH_countWaiting_12 (by decide) (fun hc => ?_) (fun hc => absurd hc (fun h => h (nI_le (by omega) (by omega))))
      refine g_seq s_LH_countWaiting_41 rfl ?_
      rw [sm_all (by rw [← hR.1]; omega)]
      exact g_iret rfl d_LH_countWaiting_42 (⟨rfl, rfl⟩)
    | succ n ih =>
      intro i hi
      have hil : i < T.length := by rw [← hR.1]; omega
      have hTi := List.getElem?_eq_getElem hil
      generalize T[i] = ti at hTi
      obtain ⟨x, hx, r1, ws, hc1, hr1, ho1, hw1⟩ := hR.at hTi
      have hst := sm_step (f := fun t : Th => t.2.1.length) hTi
      refine g_seq s_LH_countWaiting_4 rfl ?_
      refine g_get f_LH_10 d_LH_countWaiting_6 (hH) rfl ?_
      refine g_invL  l_LH_98 d_LH_countWaiting_9 rfl ⟨rfl, Nat.le_of_ble_eq_true rfl, Nat.le_of_ble_eq_true rfl⟩ (hT) (al_size hT) (Nat.le_of_eq (Nat.zero_add _)) (Nat.le_of_eq (Nat.zero_add _)) ?_
      rintro v M' ⟨rfl, rfl⟩
      refine g_icmp_ge (tgt := 41) d_LH_countWaiting_12 (by decide) (fun hc => absurd hc (nI_ge (by omega) (by omega))) (fun hc => ?_)
      refine g_seq s_LH_countWaiting_15 rfl ?_
      refine g_get f_LH_10 d_LH_countWaiting_17 (hH) rfl ?_
      refine g_seq s_LH_countWaiting_20 rfl ?_
      refine g_invL  l_LH_106 d_LH_countWaiting_21 rfl ⟨rfl, Nat.le_of_ble_eq_true rfl, Nat.le_of_ble_eq_true rfl⟩ (hT) (al_get hT hx (by omega)) (Nat.le_of_eq (Nat.zero_add _)) (Nat.le_of_eq (Nat.zero_add _)) ?_
      rintro v M' ⟨rfl, rfl⟩
      refine g_cast cl_LH_59 rfl ca_Thing_Thing d_LH_countWaiting_24 (hc1) ?_
      refine g_get f_LH_91 d_LH_countWaiting_27 (hc1) rfl ?_
      refine g_invL  l_LH_98 d_LH_countWaiting_30 rfl ⟨rfl, Nat.le_of_ble_eq_true rfl, Nat.le_of_ble_eq_true rfl⟩ (hr1) (al_size hr1) (Nat.le_of_eq (Nat.zero_add _)) (Nat.le_of_eq (Nat.zero_add _)) ?_
      rintro v M' ⟨rfl, rfl⟩
      refine g_seq s_LH_countWaiting_33 rfl ?_
      rw [nI_1, nI_add, hw1.1]
      have := ih (i + 1) (by omega)
      rw [hst] at this
      exact this
  refine g_seq s_LH_countWaiting_0 rfl ?_
  exact loop ts.length 0 (by omega)
end XO
end
section
def gob (j e : Wt) : Bool := decide (j.2.1 < e.2.1 ∨ (j.2.1 = e.2.1 ∧ j.2.2 < e.2.2))
/-- a client's box: its list, whose owner it is -/
def BoR (M : Mm) (own : Nat → Nat × Nat) (i a : Nat) (ns : List (Int32 × Int32)) : Prop := ∃ l ws, M a = some (eO 6 [.ref l]) ∧ M l = some (eL ws) ∧ own l = (4, i) ∧ R2 (NoR M) ws ns
section XM
variable {κ : Nat × Nat} {d : Nat} {M : Mm} {a : Nat} {own : Nat → Nat × Nat} {h aT aJ aC aB aW : Nat} {tp nw : Int32} {ts : List Nat} {T : List Th}
theorem can_wa {x : Nat} {w : Wt} (h : WaR M x w) : Can sOb M x := ⟨2, _, _, h, rfl, ca_Waiter_Obj⟩
theorem can_jo {x : Nat} {w : Wt} (h : JoR M x w) : Can sOb M x := ⟨3, _, _, h, rfl, ca_Job_Obj⟩
theorem can_ca {x : Nat} {w : Int32 × Int32} (h : CaR M x w) : Can sOb M x := ⟨4, _, _, h, rfl, ca_Cached_Obj⟩
theorem can_no {x : Nat} {w : Int32 × Int32} (h : NoR M x w) : Can sOb M x := ⟨5, _, _, h, rfl, ca_Note_Obj⟩
theorem can_th {x r : Nat} {t : Th} (h : ThC M x r t) : Can sOb M x := ⟨1, _, _, h, rfl, ca_Thing_Obj⟩
theorem x_findTurnOf {js : List Nat} {J : List Wt} {j : Wt} {x : Nat} (hH : HoC M h aT aJ aC aB aW tp nw) (hJ : M aJ = some (eL js)) (hR : R2 (JoR M) js J) (hj : JoR M x j) (hlen : js.length ≤ 10000) : G κ m_LH_findTurnOf (d + 3) M 0 [some (.ref h), some (.ref x), none] [] 0 0 (fun v M' => ∃ o, FI (fun e : Wt => gob j e) J o ∧ v = some (.int (nI (o.getD J.length))) ∧ M' = M) := by
  have loop : ∀ n i, i + n = js.length → (∀ (k : Nat) (y : Wt), k < i → J[k]? = some y → gob j y = false) → G κ m_LH_findTurnOf (d + 3) M 2 [some (.ref h), some (.ref x), some (.int (nI i))] [] 0 0 (fun v M' => ∃ o, FI (fun e : Wt => gob j e) J o ∧ v = some (.int (nI (o.getD J.length))) ∧ M' = M) := by
    intro n
    induction n with
    | zero =>
      intro i hi hno
      have hiJ : i = J.length := by rw [← hR.1]; omega
      refine g_seq s_LH_findTurnOf_2 rfl ?_
      refine g_get f_LH_16 d_LH_findTurnOf_4 (hH) rfl ?_
      refine g_invL  l_LH_98 d_LH_findTurnOf_7 rfl ⟨rfl, Nat.le_of_ble_eq_true rfl, Nat.le_of_ble_eq_true rfl⟩ (hJ) (al_size hJ) (Nat.le_of_eq (Nat.zero_add _)) (Nat.le_of_eq (Nat.zero_add _)) ?_
      rintro v M' ⟨rfl, rfl⟩
      refine g_icmp_ge (tgt := 37) d_LH_findTurnOf_10 (by decide) (fun hc => ?_) (fun hc => absurd hc (fun h => h (nI_le (by omega) (by omega))))
      refine g_seq s_LH_findTurnOf_37 rfl ?_
      exact g_iret rfl d_LH_findTurnOf_38 (⟨none, fun k y hy => hno k y (by have := (List.getElem?_eq_some_iff.mp hy).1; omega) hy, by rw [hiJ]; rfl, rfl⟩)
    | succ n ih =>
      intro i hi hno
      have hil : i < J.length := by rw [← hR.1]; omega
      have hJi := List.getElem?_eq_getElem hil
      generalize J[i] = ji at hJi
      obtain ⟨y, hy, hw⟩ := hR.at hJi
      refine g_seq s_LH_findTurnOf_2 rfl ?_
      refine g_get f_LH_16 d_LH_findTurnOf_4 (hH) rfl ?_
      refine g_invL  l_LH_98 d_LH_findTurnOf_7 rfl ⟨rfl, Nat.le_of_ble_eq_true rfl, Nat.le_of_ble_eq_true rfl⟩ (hJ) (al_size hJ) (Nat.le_of_eq (Nat.zero_add _)) (Nat.le_of_eq (Nat.zero_add _)) ?_
      rintro v M' ⟨rfl, rfl⟩
      refine g_icmp_ge (tgt := 37) d_LH_findTurnOf_10 (by decide) (fun hc => absurd hc (nI_ge (by omega) (by omega))) (fun hc => ?_)
      refine g_seq s_LH_findTurnOf_13 rfl ?_
      refine g_get f_LH_16 d_LH_findTurnOf_15 (hH) rfl ?_
      refine g_seq s_LH_findTurnOf_18 rfl ?_
      refine g_invL  l_LH_106 d_LH_findTurnOf_19 rfl ⟨rfl, Nat.le_of_ble_eq_true rfl, Nat.le_of_ble_eq_true rfl⟩ (hJ) (al_get hJ hy (by omega)) (Nat.le_of_eq (Nat.zero_add _)) (Nat.le_of_eq (Nat.zero_add _)) ?_
      rintro v M' ⟨rfl, rfl⟩
      refine g_cast cl_LH_117 rfl ca_Job_Job d_LH_findTurnOf_22 (hw) ?_
      refine g_invV  l_LH_234 d_LH_findTurnOf_25 rfl ⟨rfl, Nat.le_of_ble_eq_true rfl, Nat.le_of_ble_eq_true rfl⟩ (hj) (t_goesBefore hj hw) (Nat.le_of_eq (Nat.zero_add _)) (Nat.le_of_eq (Nat.zero_add _)) ?_
      rintro v M' ⟨rfl, rfl⟩
      refine g_if_ne (tgt := 37) d_LH_findTurnOf_28 (by decide) (fun hc2 => ?_) (fun hc2 => ?_)
      · skip
        refine g_seq s_LH_findTurnOf_37 rfl ?_
        exact g_iret rfl d_LH_findTurnOf_38 (⟨some i, ⟨_, hJi, b2i_n.mp hc2, hno⟩, rfl, rfl⟩)
      · skip
        refine g_seq s_LH_findTurnOf_31 rfl ?_
        rw [nI_1]
        refine ih (i + 1) (by omega) (fun k z hk hz => ?_)
        by_cases hki : k = i
        · subst hki
          rw [hJi] at hz
          cases hz
          exact b2i_0.mp hc2
        · exact hno k z (by omega) hz
  refine g_seq s_LH_findTurnOf_0 rfl ?_
  exact loop js.length 0 (by omega) (fun j y hj => absurd hj (Nat.not_lt_zero _))
theorem x_findInCache {cs : List Nat} {C : List (Int32 × Int32)} {nm : Int32} (hH : HoC M h aT aJ aC aB aW tp nw) (hC : M aC = some (eL cs)) (hR : R2 (CaR M) cs C) (hlen : cs.length ≤ 10000) : G κ m_LH_findInCache (d + 3) M 0 [some (.ref h), some (.int nm), none] [] 0 0 (fun v M' => ∃ o, FI (fun e : Int32 × Int32 => e.1 == nm) C o ∧ v = some (.int (oI o)) ∧ M' = M) := by
  have loop : ∀ n i, i + n = cs.length → (∀ (k : Nat) (y : Int32 × Int32), k < i → C[k]? = some y → (y.1 == nm) = false) → G κ m_LH_findInCache (d + 3) M 2 [some (.ref h), some (.int nm), some (.int (nI i))] [] 0 0 (fun v M' => ∃ o, FI (fun e : Int32 × Int32 => e.1 == nm) C o ∧ v = some (.int (oI o)) ∧ M' = M) := by
    intro n
    induction n with
    | zero =>
      intro i hi hno
      refine g_seq s_LH_findInCache_2 rfl ?_
      refine g_get f_LH_19 d_LH_findInCache_4 (hH) rfl ?_
      refine g_invL  l_LH_98 d_LH_findInCache_7 rfl ⟨rfl, Nat.le_of_ble_eq_true rfl, Nat.le_of_ble_eq_true rfl⟩ (hC) (al_size hC) (Nat.le_of_eq (Nat.zero_add _)) (Nat.le_of_eq (Nat.zero_add _)) ?_
      rintro v M' ⟨rfl, rfl⟩
      refine g_icmp_ge (tgt := 39) d_LH_findInCache_10 (by decide) (fun hc => ?_) (fun hc => absurd hc (fun h => h (nI_le (by omega) (by omega))))
      refine g_seq s_LH_findInCache_39 rfl ?_
      exact g_iret rfl d_LH_findInCache_41 (⟨none, fun k y hy => hno k y (by have := (List.getElem?_eq_some_iff.mp hy).1; rw [← hR.1] at this; omega) hy, rfl, rfl⟩)
    | succ n ih =>
      intro i hi hno
      have hil : i < C.length := by rw [← hR.1]; omega
      have hJi := List.getElem?_eq_getElem hil
      generalize C[i] = ji at hJi
      obtain ⟨y, hy, hw⟩ := hR.at hJi
      refine g_seq s_LH_findInCache_2 rfl ?_
      refine g_get f_LH_19 d_LH_findInCache_4 (hH) rfl ?_
      refine g_invL  l_LH_98 d_LH_findInCache_7 rfl ⟨rfl, Nat.le_of_ble_eq_true rfl, Nat.le_of_ble_eq_true rfl⟩ (hC) (al_size hC) (Nat.le_of_eq (Nat.zero_add _)) (Nat.le_of_eq (Nat.zero_add _)) ?_
      rintro v M' ⟨rfl, rfl⟩
      refine g_icmp_ge (tgt := 39) d_LH_findInCache_10 (by decide) (fun hc => absurd hc (nI_ge (by omega) (by omega))) (fun hc => ?_)
      refine g_seq s_LH_findInCache_13 rfl ?_
      refine g_get f_LH_19 d_LH_findInCache_14 (hH) rfl ?_
      refine g_seq s_LH_findInCache_17 rfl ?_
      refine g_invL  l_LH_106 d_LH_findInCache_18 rfl ⟨rfl, Nat.le_of_ble_eq_true rfl, Nat.le_of_ble_eq_true rfl⟩ (hC) (al_get hC hy (by omega)) (Nat.le_of_eq (Nat.zero_add _)) (Nat.le_of_eq (Nat.zero_add _)) ?_
      rintro v M' ⟨rfl, rfl⟩
      refine g_cast cl_LH_146 rfl ca_Cached_Cached d_LH_findInCache_21 (hw) ?_
      refine g_invV  l_LH_238 d_LH_findInCache_24 rfl ⟨rfl, Nat.le_of_ble_eq_true rfl, Nat.le_of_ble_eq_true rfl⟩ (hw) (c_name hw) (Nat.le_of_eq (Nat.zero_add _)) (Nat.le_of_eq (Nat.zero_add _)) ?_
      rintro v M' ⟨rfl, rfl⟩
      refine g_seq s_LH_findInCache_27 rfl ?_
      refine g_icmp_ne (tgt := 33) d_LH_findInCache_28 (by decide) (fun hc2 => ?_) (fun hc2 => ?_)
      · skip
        refine g_seq s_LH_findInCache_33 rfl ?_
        rw [nI_1]
        refine ih (i + 1) (by omega) (fun k z hk hz => ?_)
        by_cases hki : k = i
        · subst hki
          rw [hJi] at hz
          cases hz
          simpa using hc2
        · exact hno k z (by omega) hz
      · skip
        refine g_seq s_LH_findInCache_31 rfl ?_
        exact g_iret rfl d_LH_findInCache_32 (⟨some i, ⟨_, hJi, by simpa using hc2, hno⟩, rfl, rfl⟩)
  refine g_seq s_LH_findInCache_0 rfl ?_
  exact loop cs.length 0 (by omega) (fun j y hj => absurd hj (Nat.not_lt_zero _))
theorem b_init {e1 : Value} (hM : M a = some (eO 6 [e1])) : G κ m_NoteBox_init (d + 4) M 0 [some (.ref a)] [] 1 3 (fun v M' => v = none ∧ ∃ r, M r = none ∧ r ≠ κ.1 ∧ M' = up (up M r (eL [])) a (eO 6 [.ref r])) := by
  refine g_seq s_NoteBox_init_0 rfl ?_
  refine g_objInit l_NoteBox_3 oi_1 oi_2 d_NoteBox_init_1 (Nat.le_of_ble_eq_true rfl) ?_
  refine g_seq s_NoteBox_init_4 rfl ?_
  refine g_new (k' := 0) (n' := 0) n_NoteBox_9 d_NoteBox_init_5 (by first | omega | (simp <;> omega)) (by first | omega | (simp <;> omega)) (fun r hr hzr => ?_)
  have har : a ≠ r := fun e => by rw [e, hr] at hM; cases hM
  refine g_seq s_NoteBox_init_8 rfl ?_
  refine g_invI  l_NoteBox_11 d_NoteBox_init_9 rfl ⟨rfl, Nat.le_of_ble_eq_true rfl, Nat.le_of_ble_eq_true rfl⟩ (al_init (mc := 0) (e2 := .null) up_s) (Nat.le_of_eq (Nat.zero_add _)) (Nat.le_of_eq (Nat.zero_add _)) ?_
  rintro v M' ⟨rfl, rfl⟩
  refine g_putF f_NoteBox_12 ⟨_, rfl, rfl⟩ rfl d_NoteBox_init_12 (by rw [up_up, up_n har]; exact hM) rfl rfl rfl ?_
  exact g_vret rfl d_NoteBox_init_15 (⟨rfl, r, hr, hzr, by rw [up_up]⟩)
theorem b_size {l : Nat} {ws : List Nat} (hM : M a = some (eO 6 [.ref l])) (hl : M l = some (eL ws)) : G κ m_NoteBox_size (d + 1) M 0 [some (.ref a)] [] 0 0 (fun v M' => v = some (.int (nI ws.length)) ∧ M' = M) := by
  refine g_seq s_NoteBox_size_0 rfl ?_
  refine g_get f_NoteBox_12 d_NoteBox_size_1 (hM) rfl ?_
  refine g_invL  l_NoteBox_18 d_NoteBox_size_4 rfl ⟨rfl, Nat.le_of_ble_eq_true rfl, Nat.le_of_ble_eq_true rfl⟩ (hl) (al_size hl) (Nat.le_of_eq (Nat.zero_add _)) (Nat.le_of_eq (Nat.zero_add _)) ?_
  rintro v M' ⟨rfl, rfl⟩
  exact g_iret rfl d_NoteBox_size_7 (⟨rfl, rfl⟩)
theorem b_put {l x : Nat} {ws : List Nat} (hM : M a = some (eO 6 [.ref l])) (hl : M l = some (eL ws)) (hx : Can sOb M x) (hel : ∀ y ∈ ws, Can sOb M y) (h8 : ws.length ≤ 8) : G κ m_NoteBox_put (d + 7) M 0 [some (.ref a), some (.ref x)] [] 1 26 (fun v M' => v = none ∧ M' = up M l (eL ((if ws.length < 8 then ws else ws.eraseIdx 0) ++ [x]))) := by
  have hal : a ≠ l := fun e => by rw [e, hl] at hM; cases hM
  have add : ∀ (M1 : Mm) (ws1 : List Nat), M1 a = some (eO 6 [.ref l]) → M1 l = some (eL ws1) → Can sOb M1 x → (∀ y ∈ ws1, Can sOb M1 y) → ws1.length ≤ 8 → up M1 l (eL (ws1 ++ [x])) = up M l (eL ((if ws.length < 8 then ws else ws.eraseIdx 0) ++ [x])) → G κ m_NoteBox_put (d + 7) M1 21 [some (.ref a), some (.ref x)] [] 1 26 (fun v M' => v = none ∧ M' = up M l (eL ((if ws.length < 8 then ws else ws.eraseIdx 0) ++ [x]))) := by
    intro M1 ws1 h1 h2 h3 h4 h5 h6
    refine g_seq s_NoteBox_put_21 rfl ?_
    refine g_get f_NoteBox_12 d_NoteBox_put_22 (h1) rfl ?_
    refine g_seq s_NoteBox_put_25 rfl ?_
    refine g_invL (k2 := 0) (n2 := 0) l_NoteBox_26 d_NoteBox_put_26 rfl ⟨rfl, Nat.le_of_ble_eq_true rfl, Nat.le_of_ble_eq_true rfl⟩ (h2) (al_add h2 (by omega) h3 h4) (by first | omega | (simp <;> omega)) (by first | omega | (simp <;> omega)) ?_
    rintro v M' ⟨rfl, rfl⟩
    refine g_seq s_NoteBox_put_29 rfl ?_
    exact g_vret rfl d_NoteBox_put_30 (⟨rfl, h6⟩)
  refine g_seq s_NoteBox_put_0 rfl ?_
  refine g_get f_NoteBox_12 d_NoteBox_put_1 (hM) rfl ?_
  refine g_invL  l_NoteBox_18 d_NoteBox_put_4 rfl ⟨rfl, Nat.le_of_ble_eq_true rfl, Nat.le_of_ble_eq_true rfl⟩ (hl) (al_size hl) (Nat.le_of_eq (Nat.zero_add _)) (Nat.le_of_eq (Nat.zero_add _)) ?_
  rintro v M' ⟨rfl, rfl⟩
  refine g_seq s_NoteBox_put_7 rfl ?_
  refine g_icmp_lt (tgt := 21) d_NoteBox_put_9 (by decide) (fun hc => ?_) (fun hc => ?_)
  · skip
    have hlt : ws.length < 8 := by
      rcases Nat.lt_or_ge ws.length 8 with q | q
      · exact q
      · exact absurd hc (show ¬ nI ws.length < nI 8 from nI_nlt q (by omega))
    exact add _ ws hM hl hx hel h8 (by rw [if_pos hlt])
  · skip
    have hlt : ¬ ws.length < 8 := fun q => hc (show nI ws.length < nI 8 from nI_lt q (by omega))
    have h0 : ws[0]? = some (ws[0]'(by omega)) := List.getElem?_eq_getElem _
    refine g_seq s_NoteBox_put_12 rfl ?_
    refine g_get f_NoteBox_12 d_NoteBox_put_13 (hM) rfl ?_
    refine g_seq s_NoteBox_put_16 rfl ?_
    refine g_invL  l_NoteBox_22 d_NoteBox_put_17 rfl ⟨rfl, Nat.le_of_ble_eq_true rfl, Nat.le_of_ble_eq_true rfl⟩ (hl) (al_remove (j := 0) hl h0 (by omega) hel) (Nat.le_of_eq (Nat.zero_add _)) (Nat.le_of_eq (Nat.zero_add _)) ?_
    rintro v M' ⟨rfl, rfl⟩
    refine g_seq (is := [(.pop, 1, 0)]) (pc' := 21) (by decide +kernel) rfl ?_
    exact add _ (ws.eraseIdx 0) (by rw [up_n hal]; exact hM) up_s (hx.up (fun ci fs hh => by rw [hl] at hh; cases hh)) (fun y hy => (hel y (List.mem_of_mem_eraseIdx hy)).up (fun ci fs hh => by rw [hl] at hh; cases hh)) (by rw [List.length_eraseIdx_of_lt (by omega)]; omega) (by rw [if_neg hlt, up_up])
theorem b_takeOldest {l : Nat} {ws : List Nat} {N : List (Int32 × Int32)} (hM : M a = some (eO 6 [.ref l])) (hl : M l = some (eL ws)) (hR : R2 (NoR M) ws N) (h8 : ws.length ≤ 8) : G κ m_NoteBox_takeOldest (d + 3) M 0 [some (.ref a)] [] 0 0 (fun v M' => (ws = [] ∧ v = some .null ∧ M' = M) ∨ ∃ x, ws[0]? = some x ∧ v = some (.ref x) ∧ M' = up M l (eL (ws.eraseIdx 0))) := by
  refine g_seq s_NoteBox_takeOldest_0 rfl ?_
  refine g_get f_NoteBox_12 d_NoteBox_takeOldest_1 (hM) rfl ?_
  refine g_invL  l_NoteBox_30 d_NoteBox_takeOldest_4 rfl ⟨rfl, Nat.le_of_ble_eq_true rfl, Nat.le_of_ble_eq_true rfl⟩ (hl) (al_isEmpty hl (by omega)) (Nat.le_of_eq (Nat.zero_add _)) (Nat.le_of_eq (Nat.zero_add _)) ?_
  rintro v M' ⟨rfl, rfl⟩
  cases hws : ws with
  | nil =>
    rw [if_pos rfl]
    refine g_if_eq (tgt := 14) d_NoteBox_takeOldest_7 (by decide) (fun hc => absurd hc (by decide)) (fun hc => ?_)
    refine g_seq s_NoteBox_takeOldest_10 rfl ?_
    exact g_aretN rfl (by first | exact Or.inl ⟨_, rfl⟩ | exact Or.inr ⟨_, rfl⟩) d_NoteBox_takeOldest_25 (Or.inl ⟨rfl, rfl, rfl⟩)
  | cons x ws' =>
    rw [if_neg (by simp)]
    rw [hws] at hl hR h8
    obtain ⟨n0, hn0⟩ := hR.mem (x := x) List.mem_cons_self
    refine g_if_eq (tgt := 14) d_NoteBox_takeOldest_7 (by decide) (fun hc => ?_) (fun hc => absurd hc (fun h => h rfl))
    refine g_seq s_NoteBox_takeOldest_14 rfl ?_
    refine g_get f_NoteBox_12 d_NoteBox_takeOldest_15 (hM) rfl ?_
    refine g_seq s_NoteBox_takeOldest_18 rfl ?_
    refine g_invL  l_NoteBox_22 d_NoteBox_takeOldest_19 rfl ⟨rfl, Nat.le_of_ble_eq_true rfl, Nat.le_of_ble_eq_true rfl⟩ (hl) (al_remove (j := 0) hl rfl (by omega) (fun y hy => by obtain ⟨z, hz⟩ := hR.mem hy; exact can_no hz)) (Nat.le_of_eq (Nat.zero_add _)) (Nat.le_of_eq (Nat.zero_add _)) ?_
    rintro v M' ⟨rfl, rfl⟩
    have hxl : x ≠ l := fun e => by rw [e] at hn0; unfold NoR at hn0; rw [hl] at hn0; cases hn0
    refine g_cast cl_NoteBox_34 rfl ca_Note_Note d_NoteBox_takeOldest_22 ((up_n hxl).trans hn0) ?_
    exact g_aret rfl (by first | exact Or.inl ⟨_, rfl⟩ | exact Or.inr ⟨_, rfl⟩) d_NoteBox_takeOldest_25 (Or.inr ⟨x, rfl, rfl, rfl⟩)
end XM
end
section
/-! what a step leaves as it was: kind by kind (an object's kind is its class; 100 an array, 101 a list) -/
def kd (e : EE) : Nat := match e with
  | .inl o => o.1
  | .inr (.inl _) => 100
  | .inr (.inr _) => 101
def Kp (Ch : Nat → Nat → Prop) (M M' : Mm) : Prop := ∀ q e, M q = some e → ¬ Ch (kd e) q → M' q = some e
theorem Kp.rf {Ch : Nat → Nat → Prop} {M : Mm} : Kp Ch M M := fun _ _ h _ => h
theorem Kp.tr {Ch : Nat → Nat → Prop} {M M' M'' : Mm} (h : Kp Ch M M') (h' : Kp Ch M' M'') : Kp Ch M M'' := fun q e h1 h2 => h' q e (h q e h1 h2) h2
theorem Kp.wk {Ch Ch' : Nat → Nat → Prop} {M M' : Mm} (h : Kp Ch M M') (hw : ∀ k q, Ch k q → Ch' k q) : Kp Ch' M M' := fun q e h1 h2 => h q e h1 (fun h3 => h2 (hw _ _ h3))
theorem up_kp {Ch : Nat → Nat → Prop} {M : Mm} {a : Nat} {e e0 : EE} (h : M a = some e0) (hc : Ch (kd e0) a) : Kp Ch M (up M a e) := fun q e1 h1 h2 => by
  by_cases hq : q = a
  · subst hq
    rw [h] at h1
    cases h1
    exact absurd hc h2
  · rw [up_n hq]; exact h1
theorem up_kpn {Ch : Nat → Nat → Prop} {M : Mm} {a : Nat} {e : EE} (h : M a = none) : Kp Ch M (up M a e) := fun q e1 h1 h2 => by
  have hq : q ≠ a := fun x => by rw [x, h] at h1; cases h1
  rw [up_n hq]; exact h1
/-! the parts of a house -/
def PT (M : Mm) (own : Nat → Nat × Nat) (aT : Nat) (ts : List Nat) (T : List Th) : Prop := M aT = some (eL ts) ∧ own aT = (0, 0) ∧ ts.Nodup ∧ R2 (ThR M own) ts T
def PJ (M : Mm) (own : Nat → Nat × Nat) (aJ : Nat) (J : List Wt) : Prop := ∃ js, M aJ = some (eL js) ∧ own aJ = (1, 0) ∧ R2 (JoR M) js J
def PC (M : Mm) (own : Nat → Nat × Nat) (aC : Nat) (C : List (Int32 × Int32)) : Prop := ∃ cs, M aC = some (eL cs) ∧ own aC = (2, 0) ∧ R2 (CaR M) cs C
def PB (M : Mm) (own : Nat → Nat × Nat) (aB : Nat) (B : Nat → List (Int32 × Int32)) : Prop := ∃ f, M aB = some (aR "LeaseHouse$NoteBox" 16 f) ∧ ∀ i, i < 16 → ∃ b, f i = some b ∧ BoR M own i b (B i)
def PW (M : Mm) (aW : Nat) (W : List Int32) : Prop := ∃ aw f, M aW = some (eO 7 [.ref aw, .int (nI W.length)]) ∧ M aw = some (aI 512 f) ∧ W.length ≤ 512 ∧ ∀ i x, W[i]? = some x → f i = x
section PK
variable {Ch : Nat → Nat → Prop} {M M' : Mm} {own : Nat → Nat × Nat}
theorem ThR.keep {a : Nat} {t : Th} (h : ThR M own a t) (hK : Kp Ch M M') (h1 : ¬ Ch 1 a) (h2 : ∀ x, ¬ Ch 2 x) (h3 : ∀ r, own r = (3, a) → ¬ Ch 101 r) : ThR M' own a t := by
  obtain ⟨r, ws, g1, g2, g3, g4⟩ := h
  exact ⟨r, ws, hK a _ g1 h1, hK r _ g2 (h3 r g3), g3, g4.mono (fun x y _ hw => hK x _ hw (h2 x))⟩
theorem PT.keep {aT : Nat} {ts : List Nat} {T : List Th} (h : PT M own aT ts T) (hK : Kp Ch M M') (h1 : ∀ a ∈ ts, ¬ Ch 1 a) (h2 : ∀ x, ¬ Ch 2 x) (h3 : ∀ r a, own r = (3, a) → ¬ Ch 101 r) (h4 : ∀ r, own r = (0, 0) → ¬ Ch 101 r) : PT M' own aT ts T :=
  ⟨hK aT _ h.1 (h4 aT h.2.1), h.2.1, h.2.2.1, h.2.2.2.mono (fun x y hx hw => hw.keep hK (h1 x hx) h2 (fun r hr => h3 r x hr))⟩
theorem PJ.keep {aJ : Nat} {J : List Wt} (h : PJ M own aJ J) (hK : Kp Ch M M') (h3 : ∀ x, ¬ Ch 3 x) (h4 : ∀ r, own r = (1, 0) → ¬ Ch 101 r) : PJ M' own aJ J := by
  obtain ⟨js, g1, g2, g3⟩ := h
  exact ⟨js, hK aJ _ g1 (h4 aJ g2), g2, g3.mono (fun x y _ hw => hK x _ hw (h3 x))⟩
theorem PC.keep {aC : Nat} {C : List (Int32 × Int32)} (h : PC M own aC C) (hK : Kp Ch M M') (h3 : ∀ x, ¬ Ch 4 x) (h4 : ∀ r, own r = (2, 0) → ¬ Ch 101 r) : PC M' own aC C := by
  obtain ⟨js, g1, g2, g3⟩ := h
  exact ⟨js, hK aC _ g1 (h4 aC g2), g2, g3.mono (fun x y _ hw => hK x _ hw (h3 x))⟩
theorem BoR.keep {i b : Nat} {N : List (Int32 × Int32)} (h : BoR M own i b N) (hK : Kp Ch M M') (h5 : ∀ x, ¬ Ch 5 x) (h6 : ¬ Ch 6 b) (h4 : ∀ r, own r = (4, i) → ¬ Ch 101 r) : BoR M' own i b N := by
  obtain ⟨l, ws, g1, g2, g3, g4⟩ := h
  exact ⟨l, ws, hK b _ g1 h6, hK l _ g2 (h4 l g3), g3, g4.mono (fun x y _ hw => hK x _ hw (h5 x))⟩
theorem PB.keep {aB : Nat} {B : Nat → List (Int32 × Int32)} (h : PB M own aB B) (hK : Kp Ch M M') (h5 : ∀ x, ¬ Ch 5 x) (h6 : ∀ x, ¬ Ch 6 x) (h1 : ¬ Ch 100 aB) (h4 : ∀ r i, own r = (4, i) → ¬ Ch 101 r) : PB M' own aB B := by
  obtain ⟨f, g1, g2⟩ := h
  refine ⟨f, hK aB _ g1 h1, fun i hi => ?_⟩
  obtain ⟨b, g3, g4⟩ := g2 i hi
  exact ⟨b, g3, g4.keep hK h5 (h6 b) (fun r hr => h4 r i hr)⟩
theorem PW.keep {aW : Nat} {W : List Int32} (h : PW M aW W) (hK : Kp Ch M M') (h7 : ¬ Ch 7 aW) (h1 : ∀ x, ¬ Ch 100 x) : PW M' aW W := by
  obtain ⟨aw, f, g1, g2, g3⟩ := h
  exact ⟨aw, f, hK aW _ g1 h7, hK aw _ g2 (h1 aw), g3⟩
theorem HoC.keep {h aT aJ aC aB aW : Nat} {tp nw : Int32} (hH : HoC M h aT aJ aC aB aW tp nw) (hK : Kp Ch M M') (h0 : ¬ Ch 0 h) : HoC M' h aT aJ aC aB aW tp nw := hK h _ hH h0
end PK
/-! the wait times -/
section XW
variable {κ : Nat × Nat} {d : Nat} {M : Mm} {a : Nat}
theorem wt_init {e1 e2 : Value} (hM : M a = some (eO 7 [e1, e2])) : G κ m_WaitTimes_init (d + 1) M 0 [some (.ref a)] [] 1 512 (fun v M' => v = none ∧ ∃ r, M r = none ∧ r ≠ κ.1 ∧ M' = up (up M r (aI 512 (fun _ => 0))) a (eO 7 [.ref r, .int 0])) := by
  refine g_seq s_WaitTimes_init_0 rfl ?_
  refine g_objInit l_WaitTimes_3 oi_1 oi_2 d_WaitTimes_init_1 (Nat.le_of_ble_eq_true rfl) ?_
  refine g_seq s_WaitTimes_init_4 rfl ?_
  refine g_newI (k' := 0) (n' := 0) (N := 512) ay_int d_WaitTimes_init_8 (by decide) (by decide) (by decide) (by omega) (by omega) (fun r hr hzr => ?_)
  have har : a ≠ r := fun e => by rw [e, hr] at hM; cases hM
  refine g_putF f_WaitTimes_9 ⟨_, rfl, rfl⟩ rfl d_WaitTimes_init_10 (by rw [up_n har]; exact hM) rfl rfl rfl ?_
  refine g_seq s_WaitTimes_init_13 rfl ?_
  refine g_put f_WaitTimes_15 d_WaitTimes_init_15 (up_s) rfl rfl rfl ?_
  exact g_vret rfl d_WaitTimes_init_18 (⟨rfl, r, hr, hzr, by rw [up_up]⟩)
theorem wt_add {W : List Int32} {x : Int32} (h : PW M a W) (hlen : W.length < 512) : G κ m_WaitTimes_add d M 0 [some (.ref a), some (.int x)] [] 0 0 (fun v M' => v = none ∧ PW M' a (W ++ [x]) ∧ Kp (fun k q => (k = 7 ∧ q = a) ∨ (k = 100 ∧ ∃ aw n, M a = some (eO 7 [.ref aw, n]) ∧ q = aw)) M M') := by
  obtain ⟨aw, f, g1, g2, g3, g4⟩ := h
  have haw : a ≠ aw := fun e => by rw [e, g2] at g1; cases g1
  refine g_seq s_WaitTimes_add_0 rfl ?_
  refine g_get f_WaitTimes_15 d_WaitTimes_add_1 (g1) rfl ?_
  refine g_seq s_WaitTimes_add_4 rfl ?_
  refine g_get f_WaitTimes_9 d_WaitTimes_add_5 (g1) rfl ?_
  refine g_alen d_WaitTimes_add_8 g2 rfl ?_
  refine g_icmp_ge (tgt := 32) d_WaitTimes_add_9 (by decide) (fun hc => absurd hc (nI_ge (show W.length < 512 by omega) (by show 512 < 2 ^ 31; decide))) (fun hc => ?_)
  refine g_seq s_WaitTimes_add_12 rfl ?_
  refine g_get f_WaitTimes_9 d_WaitTimes_add_13 (g1) rfl ?_
  refine g_seq s_WaitTimes_add_16 rfl ?_
  refine g_get f_WaitTimes_15 d_WaitTimes_add_17 (g1) rfl ?_
  refine g_seq s_WaitTimes_add_20 rfl ?_
  refine g_iast d_WaitTimes_add_21 g2 (vp_nI hlen (by omega)) ?_
  rw [nI_cl (by omega)]
  refine g_seq s_WaitTimes_add_22 rfl ?_
  refine g_get f_WaitTimes_15 d_WaitTimes_add_24 (by rw [up_n haw]; exact g1) rfl ?_
  refine g_seq s_WaitTimes_add_27 rfl ?_
  refine g_put f_WaitTimes_15 d_WaitTimes_add_29 (by rw [up_n haw]; exact g1) rfl rfl rfl ?_
  rw [nI_1]
  have hpw : PW (up (up M aw (aI 512 (upd f W.length x))) a (eO 7 [.ref aw, .int (nI (W.length + 1))])) a (W ++ [x]) := by
    refine ⟨aw, upd f W.length x, by rw [up_s]; simp, by rw [up_n haw.symm]; exact up_s, by simp; omega, fun i y hy => ?_⟩
    by_cases hi : i < W.length
    · rw [List.getElem?_append_left hi] at hy
      rw [pk_un (by omega)]
      exact g4 i y hy
    · rw [List.getElem?_append_right (by omega)] at hy
      have hz : i - W.length < 1 := (List.getElem?_eq_some_iff.mp hy).1
      have h0 : i = W.length := by omega
      subst h0
      rw [Nat.sub_self] at hy
      cases hy
      exact pk_us
  exact g_vret rfl d_WaitTimes_add_32 (⟨rfl, hpw, (up_kp g2 (Or.inr ⟨rfl, aw, _, g1, rfl⟩)).tr (up_kp (by rw [up_n haw]; exact g1) (Or.inl ⟨rfl, rfl⟩))⟩)
theorem wt_countFrom {W : List Int32} {lo hh : Int32} (h : PW M a W) : G κ m_WaitTimes_countFrom d M 0 [some (.ref a), some (.int lo), some (.int hh), none, none] [] 0 0 (fun v M' => v = some (.int (nI (sm (fun x : Int32 => if lo ≤ x ∧ x < hh then 1 else 0) W))) ∧ M' = M) := by
  obtain ⟨aw, f, g1, g2, g3, g4⟩ := h
  have loop : ∀ n i, i + n = W.length → G κ m_WaitTimes_countFrom d M 5 [some (.ref a), some (.int lo), some (.int hh), some (.int (nI (sm (fun x : Int32 => if lo ≤ x ∧ x < hh then 1 else 0) (W.take i)))), some (.int (nI i))] [] 0 0 (fun v M' => v = some (.int (nI (sm (fun x : Int32 => if lo ≤ x ∧ x < hh then 1 else 0) W))) ∧ M' = M) := by
    intro n
    induction n with
    | zero =>
      intro i hi
      refine g_seq s_WaitTimes_countFrom_5 rfl ?_
      refine g_get f_WaitTimes_15 d_WaitTimes_countFrom_8 (g1) rfl ?_
      refine g_icmp_ge (tgt := 45) d_WaitTimes_countFrom_11 (by decide) (fun hc => ?_) (fun hc => absurd hc (fun h => h (nI_le (by omega) (by omega))))
      refine g_seq s_WaitTimes_countFrom_45 rfl ?_
      rw [sm_all (by omega)]
      exact g_iret rfl d_WaitTimes_countFrom_46 (⟨rfl, rfl⟩)
    | succ n ih =>
      intro i hi
      have hil : i < W.length := by omega
      have hWi := List.getElem?_eq_getElem hil
      generalize W[i] = wi at hWi
      have hfi := g4 i wi hWi
      have hst := sm_step (f := fun x : Int32 => if lo ≤ x ∧ x < hh then 1 else 0) hWi
      have hih := ih (i + 1) (by omega)
      rw [hst] at hih
      refine g_seq s_WaitTimes_countFrom_5 rfl ?_
      refine g_get f_WaitTimes_15 d_WaitTimes_countFrom_8 (g1) rfl ?_
      refine g_icmp_ge (tgt := 45) d_WaitTimes_countFrom_11 (by decide) (fun hc => absurd hc (nI_ge (by omega) (by omega))) (fun hc => ?_)
      refine g_seq s_WaitTimes_countFrom_14 rfl ?_
      refine g_get f_WaitTimes_9 d_WaitTimes_countFrom_15 (g1) rfl ?_
      refine g_seq s_WaitTimes_countFrom_18 rfl ?_
      refine g_iald d_WaitTimes_countFrom_20 g2 (vp_nI (by omega) (by omega)) ?_
      rw [nI_cl (by omega), hfi]
      refine g_seq s_WaitTimes_countFrom_21 rfl ?_
      refine g_icmp_lt (tgt := 39) d_WaitTimes_countFrom_22 (by decide) (fun h1 => ?_) (fun h1 => ?_)
      · skip
        refine g_seq s_WaitTimes_countFrom_39 rfl ?_
        rw [nI_1]
        rw [if_neg (fun q => absurd h1 (Int32.not_lt.mpr q.1))] at hih
        exact hih
      · skip
        refine g_seq s_WaitTimes_countFrom_25 rfl ?_
        refine g_get f_WaitTimes_9 d_WaitTimes_countFrom_26 (g1) rfl ?_
        refine g_seq s_WaitTimes_countFrom_29 rfl ?_
        refine g_iald d_WaitTimes_countFrom_31 g2 (vp_nI (by omega) (by omega)) ?_
        rw [nI_cl (by omega), hfi]
        refine g_seq s_WaitTimes_countFrom_32 rfl ?_
        refine g_icmp_ge (tgt := 39) d_WaitTimes_countFrom_33 (by decide) (fun h2 => ?_) (fun h2 => ?_)
        · skip
          refine g_seq s_WaitTimes_countFrom_39 rfl ?_
          rw [nI_1]
          rw [if_neg (fun q => absurd q.2 (Int32.not_lt.mpr h2))] at hih
          exact hih
        · skip
          refine g_seq s_WaitTimes_countFrom_36 rfl ?_
          rw [nI_1, nI_1]
          rw [if_pos ⟨Int32.not_lt.mp h1, Int32.not_le.mp h2⟩] at hih
          exact hih
  refine g_seq s_WaitTimes_countFrom_0 rfl ?_
  exact loop W.length 0 (by omega)
def gUp (tk : Int32) (g x : Int32) : Int32 := if x ≤ tk ∧ g < x then x else g
theorem fl_step {α β : Type} {f : β → α → β} {b : β} {l : List α} {i : Nat} {x : α} (h : l[i]? = some x) : (l.take (i + 1)).foldl f b = f ((l.take i).foldl f b) x := by
  rw [List.take_add_one, h]; simp
theorem wt_greatestUpTo {W : List Int32} {tk : Int32} (h : PW M a W) : G κ m_WaitTimes_greatestUpTo d M 0 [some (.ref a), some (.int tk), none, none] [] 0 0 (fun v M' => v = some (.int (W.foldl (gUp tk) (-2))) ∧ M' = M) := by
  obtain ⟨aw, f, g1, g2, g3, g4⟩ := h
  have loop : ∀ n i, i + n = W.length → G κ m_WaitTimes_greatestUpTo d M 5 [some (.ref a), some (.int tk), some (.int ((W.take i).foldl (gUp tk) (-2))), some (.int (nI i))] [] 0 0 (fun v M' => v = some (.int (W.foldl (gUp tk) (-2))) ∧ M' = M) := by
    intro n
    induction n with
    | zero =>
      intro i hi
      refine g_seq s_WaitTimes_greatestUpTo_5 rfl ?_
      refine g_get f_WaitTimes_15 d_WaitTimes_greatestUpTo_7 (g1) rfl ?_
      refine g_icmp_ge (tgt := 46) d_WaitTimes_greatestUpTo_10 (by decide) (fun hc => ?_) (fun hc => absurd hc (fun h => h (nI_le (by omega) (by omega))))
      refine g_seq s_WaitTimes_greatestUpTo_46 rfl ?_
      rw [List.take_of_length_le (by omega)]
      exact g_iret rfl d_WaitTimes_greatestUpTo_47 (⟨rfl, rfl⟩)
    | succ n ih =>
      intro i hi
      have hil : i < W.length := by omega
      have hWi := List.getElem?_eq_getElem hil
      generalize W[i] = wi at hWi
      have hfi := g4 i wi hWi
      have hih := ih (i + 1) (by omega)
      rw [fl_step hWi] at hih
      unfold gUp at hih
      refine g_seq s_WaitTimes_greatestUpTo_5 rfl ?_
      refine g_get f_WaitTimes_15 d_WaitTimes_greatestUpTo_7 (g1) rfl ?_
      refine g_icmp_ge (tgt := 46) d_WaitTimes_greatestUpTo_10 (by decide) (fun hc => absurd hc (nI_ge (by omega) (by omega))) (fun hc => ?_)
      refine g_seq s_WaitTimes_greatestUpTo_13 rfl ?_
      refine g_get f_WaitTimes_9 d_WaitTimes_greatestUpTo_14 (g1) rfl ?_
      refine g_seq s_WaitTimes_greatestUpTo_17 rfl ?_
      refine g_iald d_WaitTimes_greatestUpTo_18 g2 (vp_nI (by omega) (by omega)) ?_
      rw [nI_cl (by omega), hfi]
      refine g_seq s_WaitTimes_greatestUpTo_19 rfl ?_
      refine g_icmp_gt (tgt := 40) d_WaitTimes_greatestUpTo_20 (by decide) (fun h1 => ?_) (fun h1 => ?_)
      · skip
        refine g_seq s_WaitTimes_greatestUpTo_40 rfl ?_
        rw [nI_1]
        rw [if_neg (fun q => absurd h1 (Int32.not_lt.mpr q.1))] at hih
        exact hih
      · skip
        refine g_seq s_WaitTimes_greatestUpTo_23 rfl ?_
        refine g_get f_WaitTimes_9 d_WaitTimes_greatestUpTo_24 (g1) rfl ?_
        refine g_seq s_WaitTimes_greatestUpTo_27 rfl ?_
        refine g_iald d_WaitTimes_greatestUpTo_28 g2 (vp_nI (by omega) (by omega)) ?_
        rw [nI_cl (by omega), hfi]
        refine g_seq s_WaitTimes_greatestUpTo_29 rfl ?_
        refine g_icmp_le (tgt := 40) d_WaitTimes_greatestUpTo_30 (by decide) (fun h2 => ?_) (fun h2 => ?_)
        · skip
          refine g_seq s_WaitTimes_greatestUpTo_40 rfl ?_
          rw [nI_1]
          rw [if_neg (fun q => absurd q.2 (Int32.not_lt.mpr h2))] at hih
          exact hih
        · skip
          refine g_seq s_WaitTimes_greatestUpTo_33 rfl ?_
          refine g_get f_WaitTimes_9 d_WaitTimes_greatestUpTo_34 (g1) rfl ?_
          refine g_seq s_WaitTimes_greatestUpTo_37 rfl ?_
          refine g_iald d_WaitTimes_greatestUpTo_38 g2 (vp_nI (by omega) (by omega)) ?_
          rw [nI_cl (by omega), hfi]
          refine g_seq s_WaitTimes_greatestUpTo_39 rfl ?_
          rw [nI_1]
          rw [if_pos ⟨Int32.not_lt.mp h1, Int32.not_le.mp h2⟩] at hih
          exact hih
  refine g_seq s_WaitTimes_greatestUpTo_0 rfl ?_
  exact loop W.length 0 (by omega)
end XW
end
section
def wbit (wa : Int32) (c : Nat) : Bool := decide ((wa >>> (nI c &&& 31)) &&& 1 = 1)
def push8 (N : List (Int32 × Int32)) (x : Int32 × Int32) : List (Int32 × Int32) := (if N.length < 8 then N else N.eraseIdx 0) ++ [x]
theorem push8_len {N : List (Int32 × Int32)} {x : Int32 × Int32} (h : N.length ≤ 8) : (push8 N x).length ≤ 8 := by
  unfold push8
  split
  · simp; omega
  · rw [List.length_append, List.length_eraseIdx_of_lt (by omega)]; simp; omega
/-- what the boxes hold when the first n clients have been told -/
def tellB (wa : Int32) (x : Int32 × Int32) (n : Nat) (B : Nat → List (Int32 × Int32)) : Nat → List (Int32 × Int32) := fun i => if i < n ∧ wbit wa i = true then push8 (B i) x else B i
theorem wbit_0 (c : Nat) : wbit 0 c = false := by
  unfold wbit
  simp
def setCh (t : Th) : Th := (t.1, t.2.1, t.2.2.1, t.2.2.2.1, t.2.2.2.2.1 + 1, t.2.2.2.2.2)
/-- what telling a change may touch -/
def ChT (own : Nat → Nat × Nat) (a : Nat) : Nat → Nat → Prop := fun k q => (k = 1 ∧ q = a) ∨ (k = 101 ∧ ∃ i, own q = (4, i))
section XT
variable {κ : Nat × Nat} {d : Nat} {M : Mm} {a : Nat} {own : Nat → Nat × Nat} {h aT aJ aC aB aW : Nat} {tp nw : Int32}
theorem PB_box {M' : Mm} {B B' : Nat → List (Int32 × Int32)} {f : Nat → Option Nat} {c b l : Nat} {ws ws' : List Nat} (h1 : M aB = some (aR "LeaseHouse$NoteBox" 16 f)) (h2 : ∀ i, i < 16 → ∃ b, f i = some b ∧ BoR M own i b (B i)) (hb : f c = some b) (hMb : M b = some (eO 6 [.ref l])) (hl : M l = some (eL ws)) (ho : own l = (4, c)) (hM' : M' = up M l (eL ws')) (hR : R2 (NoR M) ws' (B' c)) (hB : ∀ i, i ≠ c → B' i = B i) : PB M' own aB B' := by
  have nl : ∀ q e, M q = some e → (∀ xs, e ≠ eL xs) → q ≠ l := fun q e hq hn x => by rw [x, hl] at hq; cases hq; exact hn ws rfl
  subst hM'
  refine ⟨f, by rw [up_n (nl aB _ h1 (fun xs h => by cases h))]; exact h1, fun i hi => ?_⟩
  obtain ⟨b', g1, l', ws0, g2, g3, g4, g5⟩ := h2 i hi
  refine ⟨b', g1, ?_⟩
  by_cases hic : i = c
  · subst hic
    rw [hb] at g1
    cases g1
    rw [hMb] at g2
    cases g2
    refine ⟨l, ws', by rw [up_n (nl b _ hMb (fun xs h => by cases h))]; exact hMb, up_s, ho, hR.mono (fun x y _ hw => ?_)⟩
    exact (up_n (nl x _ hw (fun xs h => by cases h))).trans hw
  · have hll : l' ≠ l := fun e => by rw [e, ho] at g4; exact hic (congrArg Prod.snd g4).symm
    rw [hB i hic]
    refine ⟨l', ws0, by rw [up_n (nl b' _ g2 (fun xs h => by cases h))]; exact g2, by rw [up_n hll]; exact g3, g4, g5.mono (fun x y _ hw => ?_)⟩
    exact (up_n (nl x _ hw (fun xs h => by cases h))).trans hw
theorem x_tellChange {r : Nat} {t : Th} {kind : Int32} {B : Nat → List (Int32 × Int32)} (hH : HoC M h aT aJ aC aB aW tp nw) (hT : ThC M a r t) (hB : PB M own aB B) (h8 : ∀ i, i < 16 → (B i).length ≤ 8) : G κ m_LH_tellChange (d + 8) M 0 [some (.ref h), some (.ref a), some (.int kind), none, none] [] 17 418 (fun v M' => v = none ∧ Kp (ChT own a) M M' ∧ ThC M' a r (setCh t) ∧ PB M' own aB (tellB t.2.2.2.2.2 (t.1, kind) 16 B)) := by
  have hha : h ≠ a := fun e => by unfold HoC at hH; unfold ThC at hT; rw [e, hT] at hH; cases hH
  have hM1T : ThC (up M a (eO 1 [.int t.1, .ref r, .int t.2.2.1, .int t.2.2.2.1, .int (t.2.2.2.2.1 + 1), .int t.2.2.2.2.2])) a r (setCh t) := up_s
  have hK1 : Kp (ChT own a) M (up M a (eO 1 [.int t.1, .ref r, .int t.2.2.1, .int t.2.2.2.1, .int (t.2.2.2.2.1 + 1), .int t.2.2.2.2.2])) := up_kp hT (Or.inl ⟨rfl, rfl⟩)
  have hB1 : PB (up M a (eO 1 [.int t.1, .ref r, .int t.2.2.1, .int t.2.2.2.1, .int (t.2.2.2.2.1 + 1), .int t.2.2.2.2.2])) own aB B := hB.keep (Ch := fun k q => k = 1 ∧ q = a) (up_kp hT ⟨rfl, rfl⟩) (fun x hx => by cases hx.1) (fun x hx => by cases hx.1) (fun hx => by cases hx.1) (fun _ _ _ hx => by cases hx.1)
  have hH1 : HoC (up M a (eO 1 [.int t.1, .ref r, .int t.2.2.1, .int t.2.2.2.1, .int (t.2.2.2.2.1 + 1), .int t.2.2.2.2.2])) h aT aJ aC aB aW tp nw := (up_n hha).trans hH
  generalize hM1 : up M a (eO 1 [.int t.1, .ref r, .int t.2.2.1, .int t.2.2.2.1, .int (t.2.2.2.2.1 + 1), .int t.2.2.2.2.2]) = M1 at hM1T hK1 hB1 hH1
  have loop : ∀ n c (Mc : Mm) (q k m : Nat), c + n = 16 → n ≤ k → 26 * n ≤ m → HoC Mc h aT aJ aC aB aW tp nw → ThC Mc a r (setCh t) → Kp (ChT own a) M Mc → PB Mc own aB (tellB t.2.2.2.2.2 (t.1, kind) c B) → NoR Mc q (t.1, kind) →
      G κ m_LH_tellChange (d + 8) Mc 34 [some (.ref h), some (.ref a), some (.int kind), some (.ref q), some (.int (nI c))] [] k m (fun v M' => v = none ∧ Kp (ChT own a) M M' ∧ ThC M' a r (setCh t) ∧ PB M' own aB (tellB t.2.2.2.2.2 (t.1, kind) 16 B)) := by
    intro n
    induction n with
    | zero =>
      intro c Mc q k m hc hk hm g1 g2 g3 g4 g5
      have hc16 : c = 16 := by omega
      subst hc16
      refine g_seq s_LH_tellChange_34 rfl ?_
      refine g_icmp_ge (tgt := 67) d_LH_tellChange_38 (by decide) (fun hc => ?_) (fun hc => absurd hc (fun h => h (by decide)))
      exact g_vret rfl d_LH_tellChange_67 (⟨rfl, g3, g2, g4⟩)
    | succ n ih =>
      intro c Mc q k m hc hk hm g1 g2 g3 g4 g5
      have hcl : c < 16 := by omega
      refine g_seq s_LH_tellChange_34 rfl ?_
      refine g_icmp_ge (tgt := 67) d_LH_tellChange_38 (by decide) (fun hc => absurd hc ((show ¬ nI 16 ≤ nI c from nI_ge hcl (by omega)))) (fun hc => ?_)
      refine g_seq s_LH_tellChange_41 rfl ?_
      refine g_invV  l_LH_227 d_LH_tellChange_44 rfl ⟨rfl, Nat.le_of_ble_eq_true rfl, Nat.le_of_ble_eq_true rfl⟩ (g2) (t_isWatchedBy g2) (Nat.le_of_eq (Nat.zero_add _)) (Nat.le_of_eq (Nat.zero_add _)) ?_
      rintro v M' ⟨rfl, rfl⟩
      refine g_if_eq (tgt := 61) d_LH_tellChange_47 (by decide) (fun hw => ?_) (fun hw => ?_)
      · skip
        refine g_seq s_LH_tellChange_61 rfl ?_
        rw [nI_1]
        have hwf : wbit t.2.2.2.2.2 c = false := b2i_0.mp hw
        refine ih (c + 1) _ q k m (by omega) (by omega) (by omega) g1 g2 g3 ?_ g5
        have he : tellB t.2.2.2.2.2 (t.1, kind) (c + 1) B = tellB t.2.2.2.2.2 (t.1, kind) c B := by
          funext i
          unfold tellB
          by_cases hic : i = c
          · subst hic; simp [hwf]
          · have : (i < c + 1) ↔ i < c := by omega
            simp [this]
        rw [he]; exact g4
      · skip
        have hwt : wbit t.2.2.2.2.2 c = true := b2i_n.mp hw
        obtain ⟨f, f1, f2⟩ := id g4
        obtain ⟨b, hfb, l, ws, hb1, hb2, hb3, hb4⟩ := f2 c hcl
        have hBc : tellB t.2.2.2.2.2 (t.1, kind) c B c = B c := by unfold tellB; simp
        rw [hBc] at hb4
        have hwl : ws.length ≤ 8 := by rw [hb4.1]; exact h8 c hcl
        refine g_seq s_LH_tellChange_50 rfl ?_
        refine g_get f_LH_24 d_LH_tellChange_51 (g1) rfl ?_
        refine g_seq s_LH_tellChange_54 rfl ?_
        refine g_aald d_LH_tellChange_56 f1 (vp_nI hcl (by omega)) ?_
        rw [nI_cl (by omega), hfb]
        refine g_seq s_LH_tellChange_57 rfl ?_
        refine g_invV (k2 := n) (n2 := 26 * n) l_LH_230 d_LH_tellChange_58 rfl ⟨rfl, Nat.le_of_ble_eq_true rfl, Nat.le_of_ble_eq_true rfl⟩ (hb1) (b_put hb1 hb2 (can_no g5) (fun y hy => by obtain ⟨z, hz⟩ := hb4.mem hy; exact can_no hz) hwl) (by first | omega | (simp <;> omega)) (by first | omega | (simp <;> omega)) ?_
        rintro v M' ⟨rfl, rfl⟩
        refine g_seq s_LH_tellChange_61 rfl ?_
        rw [nI_1]
        have nl : ∀ q e, M' q = some e → (∀ xs, e ≠ eL xs) → q ≠ l := fun q e hq hn x => by rw [x, hb2] at hq; cases hq; exact hn ws rfl
        refine ih (c + 1) _ q n (26 * n) (by omega) (by omega) (by omega) ((up_n (nl h _ g1 (fun xs h => by cases h))).trans g1) ((up_n (nl a _ g2 (fun xs h => by cases h))).trans g2) (g3.tr (up_kp hb2 (Or.inr ⟨rfl, c, hb3⟩))) (PB_box f1 f2 hfb hb1 hb2 hb3 rfl ?_ ?_) ((up_n (nl q _ g5 (fun xs h => by cases h))).trans g5)
        · have he : tellB t.2.2.2.2.2 (t.1, kind) (c + 1) B c = push8 (B c) (t.1, kind) := by unfold tellB; simp [hwt]
          rw [he]
          unfold push8
          rw [hb4.1]
          split
          · exact hb4.snoc g5
          · exact (hb4.erase 0).snoc g5
        · intro i hic
          unfold tellB
          have : (i < c + 1) ↔ i < c := by omega
          simp [this]
  refine g_seq s_LH_tellChange_0 rfl ?_
  refine g_get f_LH_223 d_LH_tellChange_2 (hT) rfl ?_
  refine g_seq s_LH_tellChange_5 rfl ?_
  refine g_put f_LH_223 d_LH_tellChange_7 (hT) rfl rfl rfl ?_
  rw [hM1]
  refine g_seq s_LH_tellChange_10 rfl ?_
  refine g_get f_LH_160 d_LH_tellChange_11 (hM1T) rfl ?_
  refine g_if_ne (tgt := 18) d_LH_tellChange_14 (by decide) (fun hw => ?_) (fun hw => ?_)
  · skip
    refine g_new (k' := 16) (n' := 416) n_LH_176 d_LH_tellChange_18 (by first | omega | (simp <;> omega)) (by first | omega | (simp <;> omega)) (fun q hq hzq => ?_)
    have nq : ∀ x e, M1 x = some e → x ≠ q := fun x e hx e2 => by rw [e2, hq] at hx; cases hx
    refine g_seq s_LH_tellChange_21 rfl ?_
    refine g_get f_LH_114 d_LH_tellChange_23 ((up_n (nq a _ hM1T)).trans hM1T) rfl ?_
    refine g_seq s_LH_tellChange_26 rfl ?_
    refine g_invIN  l_LH_226 d_LH_tellChange_27 rfl ⟨rfl, Nat.le_of_ble_eq_true rfl, Nat.le_of_ble_eq_true rfl⟩ (n_init up_s) (Nat.le_of_eq (Nat.zero_add _)) (Nat.le_of_eq (Nat.zero_add _)) ?_
    rintro v M' ⟨rfl, rfl⟩
    rw [up_up]
    refine g_seq s_LH_tellChange_30 rfl ?_
    refine loop 16 0 _ q 16 416 (by omega) (by omega) (by omega) ((up_n (nq h _ hH1)).trans hH1) ((up_n (nq a _ hM1T)).trans hM1T) (hK1.tr (up_kpn hq)) ?_ up_s
    have he : tellB t.2.2.2.2.2 (t.1, kind) 0 B = B := by funext i; unfold tellB; simp
    rw [he]
    exact hB1.keep (Ch := fun _ _ => False) (up_kpn hq) (fun _ h => h) (fun _ h => h) (fun h => h) (fun _ _ _ h => h)
  · skip
    have he : tellB t.2.2.2.2.2 (t.1, kind) 16 B = B := by
      funext i
      unfold tellB
      have hz : t.2.2.2.2.2 = 0 := hw
      rw [hz, wbit_0]; simp
    exact g_vret rfl d_LH_tellChange_17 (⟨rfl, hK1, hM1T, by rw [he]; exact hB1⟩)
end XT
end
section
def lendT (t : Th) (c u : Int32) : Th := (t.1, t.2.1, c, u, t.2.2.2.2.1 + 1, t.2.2.2.2.2)
def endT (nw : Int32) (t : Th) : Th := match t.2.1 with
  | [] => (t.1, [], -2, t.2.2.2.1, t.2.2.2.2.1 + 1, t.2.2.2.2.2)
  | w :: ws => (t.1, ws, w.1, nw + w.2.1, t.2.2.2.2.1 + 1, t.2.2.2.2.2)
def endW (nw : Int32) (t : Th) (W : List Int32) : List Int32 := match t.2.1 with
  | [] => W
  | w :: _ => W ++ [nw - w.2.2]
def endK (t : Th) : Int32 := match t.2.1 with
  | [] => 4
  | _ :: _ => 2
/-- what an end of a lease may touch -/
def ChE (own : Nat → Nat × Nat) (a aW aw : Nat) : Nat → Nat → Prop := fun k q => (k = 1 ∧ q = a) ∨ (k = 101 ∧ ((∃ i, own q = (4, i)) ∨ own q = (3, a))) ∨ (k = 7 ∧ q = aW) ∨ (k = 100 ∧ q = aw)
section XC
variable {κ : Nat × Nat} {d : Nat} {M : Mm} {a : Nat} {own : Nat → Nat × Nat} {h aT aJ aC aB aW : Nat} {tp nw : Int32}
theorem ThR.cell {t : Th} (h : ThR M own a t) : ∃ r, ThC M a r t := by
  obtain ⟨r, _, h1, _⟩ := h
  exact ⟨r, h1⟩
theorem HoC.nth {r : Nat} {t : Th} (hH : HoC M h aT aJ aC aB aW tp nw) (hT : ThC M a r t) : h ≠ a := fun e => by unfold HoC at hH; unfold ThC at hT; rw [e, hT] at hH; cases hH
theorem ThC.k1 {r : Nat} {t : Th} {e : EE} {Ch : Nat → Nat → Prop} (h : ThC M a r t) (hc : Ch 1 a) : Kp Ch M (up M a e) := up_kp h hc
theorem PB.thing {r : Nat} {t : Th} {e : EE} {B : Nat → List (Int32 × Int32)} (hB : PB M own aB B) (h : ThC M a r t) : PB (up M a e) own aB B := hB.keep (Ch := fun k q => k = 1 ∧ q = a) (up_kp h ⟨rfl, rfl⟩) (fun x hx => by cases hx.1) (fun x hx => by cases hx.1) (fun hx => by cases hx.1) (fun _ _ _ hx => by cases hx.1)
theorem x_lend {r : Nat} {t : Th} {c tk kind : Int32} {B : Nat → List (Int32 × Int32)} (hH : HoC M h aT aJ aC aB aW tp nw) (hT : ThC M a r t) (hB : PB M own aB B) (h8 : ∀ i, i < 16 → (B i).length ≤ 8) : G κ m_LH_lend (d + 9) M 0 [some (.ref h), some (.ref a), some (.int c), some (.int tk), some (.int kind)] [] 17 418 (fun v M' => v = none ∧ Kp (ChT own a) M M' ∧ ThC M' a r (lendT t c (nw + tk)) ∧ PB M' own aB (tellB t.2.2.2.2.2 (t.1, kind) 16 B)) := by
  have hha := hH.nth hT
  refine g_seq s_LH_lend_0 rfl ?_
  refine g_put f_LH_79 d_LH_lend_2 (hT) rfl rfl rfl ?_
  refine g_seq s_LH_lend_5 rfl ?_
  refine g_get f_LH_39 d_LH_lend_7 ((up_n hha).trans hH) rfl ?_
  refine g_seq s_LH_lend_10 rfl ?_
  refine g_put f_LH_82 d_LH_lend_12 (up_s) rfl rfl rfl ?_
  rw [up_up]
  refine g_seq s_LH_lend_15 rfl ?_
  refine g_invV (k2 := 0) (n2 := 0) l_LH_211 d_LH_lend_19 rfl ⟨rfl, Nat.le_of_ble_eq_true rfl, Nat.le_of_ble_eq_true rfl⟩ ((up_n hha).trans hH) (x_tellChange (t := (t.1, t.2.1, c, nw + tk, t.2.2.2.2.1, t.2.2.2.2.2)) ((up_n hha).trans hH) up_s (hB.thing hT) h8) (by first | omega | (simp <;> omega)) (by first | omega | (simp <;> omega)) ?_
  rintro v M' ⟨rfl, h1, h2, h3⟩
  exact g_vret rfl d_LH_lend_22 (⟨rfl, (hT.k1 (Or.inl ⟨rfl, rfl⟩)).tr h1, h2, h3⟩)
theorem x_endLease {t : Th} {B : Nat → List (Int32 × Int32)} {W : List Int32} (hH : HoC M h aT aJ aC aB aW tp nw) (hT : ThR M own a t) (hB : PB M own aB B) (h8 : ∀ i, i < 16 → (B i).length ≤ 8) (hW : PW M aW W) (hWl : W.length < 512) (hrow : t.2.1.length ≤ 10000) : G κ m_LH_endLease (d + 10) M 0 [some (.ref h), some (.ref a), none] [] 17 418 (fun v M' => v = none ∧ (∃ aw, (∃ n, M aW = some (eO 7 [.ref aw, n])) ∧ Kp (ChE own a aW aw) M M') ∧ ThR M' own a (endT nw t) ∧ PB M' own aB (tellB t.2.2.2.2.2 (t.1, endK t) 16 B) ∧ PW M' aW (endW nw t W)) := by
  obtain ⟨r, ws, hc, hr, ho, hR⟩ := hT
  obtain ⟨aw, f, hw1, hw2, hw3, hw4⟩ := id hW
  have hha := hH.nth hc
  have hws : ws.length ≤ 100000 := by rw [hR.1]; omega
  have tsub : ∀ k q, ChT own a k q → ChE own a aW aw k q := fun k q hh => hh.elim Or.inl (fun hh => Or.inr (Or.inl ⟨hh.1, Or.inl hh.2⟩))
  refine g_seq s_LH_endLease_0 rfl ?_
  refine g_get f_LH_91 d_LH_endLease_1 (hc) rfl ?_
  refine g_invL  l_LH_130 d_LH_endLease_4 rfl ⟨rfl, Nat.le_of_ble_eq_true rfl, Nat.le_of_ble_eq_true rfl⟩ (hr) (al_isEmpty hr hws) (Nat.le_of_eq (Nat.zero_add _)) (Nat.le_of_eq (Nat.zero_add _)) ?_
  rintro v M' ⟨rfl, rfl⟩
  obtain ⟨nm, row, hoT, un, chg, wa⟩ := t
  cases row with
  | nil =>
    have hwn : ws = [] := List.length_eq_zero_iff.mp hR.1
    rw [if_pos hwn]
    refine g_if_eq (tgt := 23) d_LH_endLease_7 (by decide) (fun hbr => absurd hbr (by decide)) (fun hbr => ?_)
    refine g_seq s_LH_endLease_10 rfl ?_
    refine g_put f_LH_79 d_LH_endLease_13 (hc) rfl rfl rfl ?_
    refine g_seq s_LH_endLease_16 rfl ?_
    refine g_invV (k2 := 0) (n2 := 0) l_LH_211 d_LH_endLease_19 rfl ⟨rfl, Nat.le_of_ble_eq_true rfl, Nat.le_of_ble_eq_true rfl⟩ ((up_n hha).trans hH) (x_tellChange (t := (nm, [], -2, un, chg, wa)) ((up_n hha).trans hH) up_s (hB.thing hc) h8) (by first | omega | (simp <;> omega)) (by first | omega | (simp <;> omega)) ?_
    rintro v M2 ⟨rfl, h1, h2, h3⟩
    have hK := (hc.k1 (Ch := ChT own a) (Or.inl ⟨rfl, rfl⟩)).tr h1
    have hnot : ∀ q, own q = (3, a) → ¬ ChT own a 101 q := fun q e hh => by
      rcases hh with hh | ⟨-, i, hh⟩
      · cases hh.1
      · rw [e] at hh; cases hh
    exact g_vret rfl d_LH_endLease_22 (⟨rfl, ⟨aw, ⟨_, hw1⟩, hK.wk tsub⟩, ⟨r, ws, h2, hK r _ hr (hnot r ho), ho, by rw [hwn]; exact R2.nil⟩, h3, hW.keep hK (fun hh => by rcases hh with hh | hh <;> cases hh.1) (fun x hh => by rcases hh with hh | hh <;> cases hh.1)⟩)
  | cons w row =>
    have hwn : ¬ ws = [] := fun e => by have := hR.1; rw [e] at this; cases this
    rw [if_neg hwn]
    obtain ⟨x, hx, hxw⟩ := hR.at (i := 0) (y := w) rfl
    have hxr : x ≠ r := fun e => by unfold WaR at hxw; rw [e, hr] at hxw; cases hxw
    have har : a ≠ r := fun e => by unfold ThC at hc; rw [e, hr] at hc; cases hc
    have hhr : h ≠ r := fun e => by unfold HoC at hH; rw [e, hr] at hH; cases hH
    refine g_if_eq (tgt := 23) d_LH_endLease_7 (by decide) (fun hbr => ?_) (fun hbr => absurd hbr (fun h => h rfl))
    refine g_seq s_LH_endLease_23 rfl ?_
    refine g_get f_LH_91 d_LH_endLease_24 (hc) rfl ?_
    refine g_seq s_LH_endLease_27 rfl ?_
    refine g_invL  l_LH_94 d_LH_endLease_28 rfl ⟨rfl, Nat.le_of_ble_eq_true rfl, Nat.le_of_ble_eq_true rfl⟩ (hr) (al_remove (j := 0) hr hx hws (fun y hy => by obtain ⟨z, hz⟩ := hR.mem hy; exact can_wa hz)) (Nat.le_of_eq (Nat.zero_add _)) (Nat.le_of_eq (Nat.zero_add _)) ?_
    rintro v M2 ⟨rfl, rfl⟩
    have hxw2 : WaR (up M' r (eL (ws.eraseIdx 0))) x w := (up_n hxr).trans hxw
    have hH2 : HoC (up M' r (eL (ws.eraseIdx 0))) h aT aJ aC aB aW tp nw := (up_n hhr).trans hH
    have hc2 : ThC (up M' r (eL (ws.eraseIdx 0))) a r (nm, row, hoT, un, chg, wa) := (up_n har).trans hc
    have hK2 : Kp (ChE own a aW aw) M' (up M' r (eL (ws.eraseIdx 0))) := up_kp hr (Or.inr (Or.inl ⟨rfl, Or.inr ho⟩))
    have hK2' : Kp (fun k q => k = 101 ∧ own q = (3, a)) M' (up M' r (eL (ws.eraseIdx 0))) := up_kp hr ⟨rfl, ho⟩
    have hB2 := hB.keep hK2' (fun x hh => by cases hh.1) (fun x hh => by cases hh.1) (fun hh => by cases hh.1) (fun r i e hh => by rw [e] at hh; cases hh.2)
    have hW2 := hW.keep hK2' (fun hh => by cases hh.1) (fun x hh => by cases hh.1)
    have hR2 : R2 (WaR (up M' r (eL (ws.eraseIdx 0)))) (ws.eraseIdx 0) row := (hR.erase 0).mono (fun y z _ hz => hK2' y _ hz (fun hh => by cases hh.1))
    have hr2 : up M' r (eL (ws.eraseIdx 0)) r = some (eL (ws.eraseIdx 0)) := up_s
    have hw12 : up M' r (eL (ws.eraseIdx 0)) aW = some (eO 7 [.ref aw, .int (nI W.length)]) := hK2' aW _ hw1 (fun hh => by cases hh.1)
    generalize up M' r (eL (ws.eraseIdx 0)) = M3 at hxw2 hH2 hc2 hK2 hB2 hW2 hR2 hr2 hw12
    refine g_cast cl_LH_109 rfl ca_Waiter_Waiter d_LH_endLease_31 (hxw2) ?_
    refine g_seq s_LH_endLease_34 rfl ?_
    refine g_get f_LH_31 d_LH_endLease_36 (hH2) rfl ?_
    refine g_seq s_LH_endLease_39 rfl ?_
    refine g_get f_LH_39 d_LH_endLease_40 (hH2) rfl ?_
    refine g_seq s_LH_endLease_43 rfl ?_
    refine g_invV  l_LH_215 d_LH_endLease_44 rfl ⟨rfl, Nat.le_of_ble_eq_true rfl, Nat.le_of_ble_eq_true rfl⟩ (hxw2) (w_since hxw2) (Nat.le_of_eq (Nat.zero_add _)) (Nat.le_of_eq (Nat.zero_add _)) ?_
    rintro v M4 ⟨rfl, rfl⟩
    refine g_seq s_LH_endLease_47 rfl ?_
    refine g_invV  l_LH_218 d_LH_endLease_48 rfl ⟨rfl, Nat.le_of_ble_eq_true rfl, Nat.le_of_ble_eq_true rfl⟩ (hw12) (wt_add (x := nw - w.2.2) hW2 hWl) (Nat.le_of_eq (Nat.zero_add _)) (Nat.le_of_eq (Nat.zero_add _)) ?_
    rintro v M5 ⟨rfl, hW5, hK5⟩
    have hK5' : Kp (fun k q => (k = 7 ∧ q = aW) ∨ (k = 100 ∧ q = aw)) M4 M5 := hK5.wk (fun k q hh => hh.imp id (fun hh => ⟨hh.1, by obtain ⟨-, aw2, n2, e1, e2⟩ := hh; rw [hw12] at e1; cases e1; exact e2⟩))
    have hB5a : aB ≠ aw := fun e => by
      obtain ⟨f2, q1, -⟩ := hB
      rw [e, hw2] at q1; cases q1
    have hxw5 : WaR M5 x w := hK5' x _ hxw2 (fun hh => by rcases hh with hh | hh <;> cases hh.1)
    have hH5 := hH2.keep hK5' (fun hh => by rcases hh with hh | hh <;> cases hh.1)
    have hc5 : ThC M5 a r (nm, row, hoT, un, chg, wa) := hK5' a _ hc2 (fun hh => by rcases hh with hh | hh <;> cases hh.1)
    have hB5 := hB2.keep hK5' (fun x hh => by rcases hh with hh | hh <;> cases hh.1) (fun x hh => by rcases hh with hh | hh <;> cases hh.1) (fun hh => hh.elim (fun hh => by cases hh.1) (fun hh => hB5a hh.2)) (fun _ _ _ hh => by rcases hh with hh | hh <;> cases hh.1)
    refine g_seq s_LH_endLease_51 rfl ?_
    refine g_invV  l_LH_111 d_LH_endLease_54 rfl ⟨rfl, Nat.le_of_ble_eq_true rfl, Nat.le_of_ble_eq_true rfl⟩ (hxw5) (w_client hxw5) (Nat.le_of_eq (Nat.zero_add _)) (Nat.le_of_eq (Nat.zero_add _)) ?_
    rintro v M6 ⟨rfl, rfl⟩
    refine g_seq s_LH_endLease_57 rfl ?_
    refine g_invV  l_LH_220 d_LH_endLease_58 rfl ⟨rfl, Nat.le_of_ble_eq_true rfl, Nat.le_of_ble_eq_true rfl⟩ (hxw5) (w_ticks hxw5) (Nat.le_of_eq (Nat.zero_add _)) (Nat.le_of_eq (Nat.zero_add _)) ?_
    rintro v M7 ⟨rfl, rfl⟩
    refine g_seq s_LH_endLease_61 rfl ?_
    refine g_invV (k2 := 0) (n2 := 0) l_LH_68 d_LH_endLease_62 rfl ⟨rfl, Nat.le_of_ble_eq_true rfl, Nat.le_of_ble_eq_true rfl⟩ (hH5) (x_lend hH5 hc5 hB5 h8) (by first | omega | (simp <;> omega)) (by first | omega | (simp <;> omega)) ?_
    rintro v M8 ⟨rfl, h1, h2, h3⟩
    have hnot : ∀ q, own q = (3, a) → ¬ ChT own a 101 q := fun q e hh => by
      rcases hh with hh | ⟨-, i, hh⟩
      · cases hh.1
      · rw [e] at hh; cases hh
    have hr5 : M7 r = some (eL (ws.eraseIdx 0)) := hK5' r _ hr2 (fun hh => by rcases hh with hh | hh <;> cases hh.1)
    have hR5 := hR2.mono (fun y z _ hz => hK5' y _ hz (fun hh => by rcases hh with hh | hh <;> cases hh.1))
    exact g_vret rfl d_LH_endLease_65 (⟨rfl, ⟨aw, ⟨_, hw1⟩, (hK2.tr (hK5'.wk (fun k q hh => Or.inr (Or.inr hh)))).tr (h1.wk tsub)⟩, ⟨r, _, h2, h1 r _ hr5 (hnot r ho), ho, hR5.mono (fun y z _ hz => h1 y _ hz (fun hh => by rcases hh with hh | hh <;> cases hh.1))⟩, h3, hW5.keep h1 (fun hh => by rcases hh with hh | hh <;> cases hh.1) (fun x hh => by rcases hh with hh | hh <;> cases hh.1)⟩)
end XC
end
section
def addW (t : Th) (w : Wt) : Th := (t.1, t.2.1 ++ [w], t.2.2)
def newT (nm : Int32) : Th := (nm, [], -2, 0, 0, 0)
/-- the client holds the thing or waits for it -/
def inT (t : Th) (c : Int32) : Prop := t.2.2.1 = c ∨ ∃ (j : Nat) (w : Wt), t.2.1[j]? = some w ∧ w.1 = c
section XF
variable {κ : Nat × Nat} {d : Nat} {M : Mm} {a : Nat} {own : Nat → Nat × Nat} {h aT aJ aC aB aW : Nat} {tp nw : Int32} {ts : List Nat} {T : List Th}
theorem x_lineUp {t : Th} {c tk : Int32} (hH : HoC M h aT aJ aC aB aW tp nw) (hT : ThR M own a t) (hrow : t.2.1.length ≤ 5) : G κ m_LH_lineUp (d + 7) M 0 [some (.ref h), some (.ref a), some (.int c), some (.int tk)] [] 2 23 (fun v M' =>
    (inT t c ∧ v = some (.int (-2)) ∧ M' = M) ∨ (¬ inT t c ∧ t.2.1.length = 5 ∧ v = some (.int (-3)) ∧ M' = M) ∨
    (¬ inT t c ∧ t.2.1.length < 5 ∧ v = some (.int (nI (t.2.1.length + 1))) ∧ ThR M' own a (addW t (c, tk, nw)) ∧ Kp (fun k q => k = 101 ∧ own q = (3, a)) M M')) := by
  obtain ⟨r, ws, hc, hr, ho, hR⟩ := hT
  have hwl : ws.length = t.2.1.length := hR.1
  have no2 : ∀ M', M' = M → inT t c → G κ m_LH_lineUp (d + 7) M' 18 [some (.ref h), some (.ref a), some (.int c), some (.int tk)] [] 2 23 (fun v M' =>
    (inT t c ∧ v = some (.int (-2)) ∧ M' = M) ∨ (¬ inT t c ∧ t.2.1.length = 5 ∧ v = some (.int (-3)) ∧ M' = M) ∨
    (¬ inT t c ∧ t.2.1.length < 5 ∧ v = some (.int (nI (t.2.1.length + 1))) ∧ ThR M' own a (addW t (c, tk, nw)) ∧ Kp (fun k q => k = 101 ∧ own q = (3, a)) M M')) := by
    intro M' e hh
    refine g_seq s_LH_lineUp_18 rfl ?_
    exact g_iret rfl d_LH_lineUp_20 (Or.inl ⟨hh, rfl, e⟩)
  refine g_seq s_LH_lineUp_0 rfl ?_
  refine g_get f_LH_79 d_LH_lineUp_1 (hc) rfl ?_
  refine g_seq s_LH_lineUp_4 rfl ?_
  refine g_icmp_eq (tgt := 18) d_LH_lineUp_5 (by decide) (fun h1 => ?_) (fun h1 => ?_)
  · skip
    exact no2 _ rfl (Or.inl h1)
  · skip
    refine g_seq s_LH_lineUp_8 rfl ?_
    refine g_invV  l_LH_88 d_LH_lineUp_10 rfl ⟨rfl, Nat.le_of_ble_eq_true rfl, Nat.le_of_ble_eq_true rfl⟩ (hc) (t_placeOf hc hr hR (by omega)) (Nat.le_of_eq (Nat.zero_add _)) (Nat.le_of_eq (Nat.zero_add _)) ?_
    rintro v M1 ⟨o, hFI, rfl, rfl⟩
    refine g_seq s_LH_lineUp_13 rfl ?_
    cases o with
    | some i =>
      obtain ⟨w, hw1, hw2, hw3⟩ := hFI
      have hil := (List.getElem?_eq_some_iff.mp hw1).1
      have hne : ¬ oI (some i) = -2 := by
        show ¬ nI i = -2
        intro e
        have h1 := nI_lt0 (j := i) (by omega)
        rw [e] at h1
        exact h1 (by decide)
      refine g_icmp_eq (tgt := 21) d_LH_lineUp_15 (by decide) (fun hbr => absurd hbr (hne)) (fun hbr => ?_)
      exact no2 _ rfl (Or.inr ⟨i, w, hw1, by simpa using hw2⟩)
    | none =>
      have hnot : ¬ inT t c := by
        rintro (e | ⟨j, w, e1, e2⟩)
        · exact h1 e
        · have := hFI j w e1
          simp [e2] at this
      refine g_icmp_eq (tgt := 21) d_LH_lineUp_15 (by decide) (fun hbr => ?_) (fun hbr => absurd hbr (fun h => h rfl))
      refine g_seq s_LH_lineUp_21 rfl ?_
      refine g_get f_LH_91 d_LH_lineUp_22 (hc) rfl ?_
      refine g_invL  l_LH_98 d_LH_lineUp_25 rfl ⟨rfl, Nat.le_of_ble_eq_true rfl, Nat.le_of_ble_eq_true rfl⟩ (hr) (al_size hr) (Nat.le_of_eq (Nat.zero_add _)) (Nat.le_of_eq (Nat.zero_add _)) ?_
      rintro v M2 ⟨rfl, rfl⟩
      refine g_seq s_LH_lineUp_28 rfl ?_
      refine g_icmp_lt (tgt := 35) d_LH_lineUp_29 (by decide) (fun h2 => ?_) (fun h2 => ?_)
      · skip
        have hlt : ws.length < 5 := by
          rcases Nat.lt_or_ge ws.length 5 with q | q
          · exact q
          · exact absurd h2 (show ¬ nI ws.length < nI 5 from nI_nlt q (by omega))
        refine g_seq s_LH_lineUp_35 rfl ?_
        refine g_get f_LH_91 d_LH_lineUp_36 (hc) rfl ?_
        refine g_new (k' := 1) (n' := 20) n_LH_109 d_LH_lineUp_39 (by first | omega | (simp <;> omega)) (by first | omega | (simp <;> omega)) (fun q hq hzq => ?_)
        have nq : ∀ x e, M2 x = some e → x ≠ q := fun x e hx e2 => by rw [e2, hq] at hx; cases hx
        refine g_seq s_LH_lineUp_42 rfl ?_
        refine g_get f_LH_39 d_LH_lineUp_46 ((up_n (nq h _ hH)).trans hH) rfl ?_
        refine g_invIN  l_LH_210 d_LH_lineUp_49 rfl ⟨rfl, Nat.le_of_ble_eq_true rfl, Nat.le_of_ble_eq_true rfl⟩ (w_init up_s) (Nat.le_of_eq (Nat.zero_add _)) (Nat.le_of_eq (Nat.zero_add _)) ?_
        rintro v M3 ⟨rfl, rfl⟩
        rw [up_up]
        have hr3 : up M2 q (eO 2 [.int c, .int tk, .int nw]) r = some (eL ws) := (up_n (nq r _ hr)).trans hr
        have hwq : WaR (up M2 q (eO 2 [.int c, .int tk, .int nw])) q (c, tk, nw) := up_s
        have hc3 : ThC (up M2 q (eO 2 [.int c, .int tk, .int nw])) a r t := (up_n (nq a _ hc)).trans hc
        have hR3 : R2 (WaR (up M2 q (eO 2 [.int c, .int tk, .int nw]))) ws t.2.1 := hR.mono (fun x y _ hz => (up_n (nq x _ hz)).trans hz)
        have hK3 : Kp (fun k q => k = 101 ∧ own q = (3, a)) M2 (up M2 q (eO 2 [.int c, .int tk, .int nw])) := up_kpn hq
        generalize up M2 q (eO 2 [.int c, .int tk, .int nw]) = M3 at hr3 hwq hc3 hR3 hK3
        have har : a ≠ r := fun e => by unfold ThC at hc3; rw [e, hr3] at hc3; cases hc3
        refine g_invL (k2 := 0) (n2 := 0) l_LH_154 d_LH_lineUp_52 rfl ⟨rfl, Nat.le_of_ble_eq_true rfl, Nat.le_of_ble_eq_true rfl⟩ (hr3) (al_add hr3 (by omega) (can_wa hwq) (fun y hy => by obtain ⟨z, hz⟩ := hR3.mem hy; exact can_wa hz)) (by first | omega | (simp <;> omega)) (by first | omega | (simp <;> omega)) ?_
        rintro v M4 ⟨rfl, rfl⟩
        refine g_seq s_LH_lineUp_55 rfl ?_
        refine g_get f_LH_91 d_LH_lineUp_57 ((up_n har).trans hc3) rfl ?_
        refine g_invL  l_LH_98 d_LH_lineUp_60 rfl ⟨rfl, Nat.le_of_ble_eq_true rfl, Nat.le_of_ble_eq_true rfl⟩ (up_s) (al_size up_s) (Nat.le_of_eq (Nat.zero_add _)) (Nat.le_of_eq (Nat.zero_add _)) ?_
        rintro v M5 ⟨rfl, rfl⟩
        have hK4 : Kp (fun k q => k = 101 ∧ own q = (3, a)) M3 (up M3 r (eL (ws ++ [q]))) := up_kp hr3 ⟨rfl, ho⟩
        have hRf := (hR3.snoc hwq).mono (fun x y _ hz => hK4 x _ hz (fun hh => by cases hh.1))
        exact g_iret rfl d_LH_lineUp_63 (Or.inr (Or.inr ⟨hnot, by omega, by rw [List.length_append, hwl]; rfl, ⟨r, _, (up_n har).trans hc3, up_s, ho, hRf⟩, hK3.tr hK4⟩))
      · skip
        refine g_seq s_LH_lineUp_32 rfl ?_
        have h5 : t.2.1.length = 5 := by
          rcases Nat.lt_or_ge ws.length 5 with q | q
          · exact absurd (show nI ws.length < nI 5 from nI_lt q (by omega)) h2
          · omega
        exact g_iret rfl d_LH_lineUp_34 (Or.inr (Or.inl ⟨hnot, h5, rfl, rfl⟩))
theorem PT.tag {own' : Nat → Nat × Nat} (h : PT M own aT ts T) (ho : ∀ x xs, M x = some (eL xs) → own' x = own x) : PT M own' aT ts T :=
  ⟨h.1, (ho aT _ h.1).trans h.2.1, h.2.2.1, h.2.2.2.mono (fun x y _ hw => by obtain ⟨r, ws, g1, g2, g3, g4⟩ := hw; exact ⟨r, ws, g1, g2, (ho r _ g2).trans g3, g4⟩)⟩
theorem PJ.tag {own' : Nat → Nat × Nat} {J : List Wt} (h : PJ M own aJ J) (ho : ∀ x xs, M x = some (eL xs) → own' x = own x) : PJ M own' aJ J := by
  obtain ⟨js, g1, g2, g3⟩ := h
  exact ⟨js, g1, (ho _ _ g1).trans g2, g3⟩
theorem PC.tag {own' : Nat → Nat × Nat} {C : List (Int32 × Int32)} (h : PC M own aC C) (ho : ∀ x xs, M x = some (eL xs) → own' x = own x) : PC M own' aC C := by
  obtain ⟨js, g1, g2, g3⟩ := h
  exact ⟨js, g1, (ho _ _ g1).trans g2, g3⟩
theorem PB.tag {own' : Nat → Nat × Nat} {B : Nat → List (Int32 × Int32)} (h : PB M own aB B) (ho : ∀ x xs, M x = some (eL xs) → own' x = own x) : PB M own' aB B := by
  obtain ⟨f, g1, g2⟩ := h
  refine ⟨f, g1, fun i hi => ?_⟩
  obtain ⟨b, h1, l, ws, h2, h3, h4, h5⟩ := g2 i hi
  exact ⟨b, h1, l, ws, h2, h3, (ho _ _ h3).trans h4, h5⟩
theorem x_findOrAddThing {nm : Int32} (hH : HoC M h aT aJ aC aB aW tp nw) (hT : PT M own aT ts T) (hlen : ts.length < 512) : G κ m_LH_findOrAddThing (d + 7) M 0 [some (.ref h), some (.int nm), none] [] 3 (2 * ts.length + 19) (fun v M' => ∃ o, FI (fun t : Th => t.1 == nm) T o ∧ ((∃ i x, o = some i ∧ ts[i]? = some x ∧ v = some (.ref x) ∧ M' = M) ∨
    (o = none ∧ ∃ q own', v = some (.ref q) ∧ PT M' own' aT (ts ++ [q]) (T ++ [newT nm]) ∧ (∀ x xs, M x = some (eL xs) → own' x = own x) ∧ Kp (fun k x => k = 101 ∧ x = aT) M M'))) := by
  obtain ⟨hT1, hT2, hT3, hT4⟩ := id hT
  refine g_seq s_LH_findOrAddThing_0 rfl ?_
  refine g_invV (k2 := 3) (n2 := 2 * ts.length + 19) l_LH_85 d_LH_findOrAddThing_2 rfl ⟨rfl, Nat.le_of_ble_eq_true rfl, Nat.le_of_ble_eq_true rfl⟩ (hH) (x_findThing hH hT1 hT4 (by omega)) (by first | omega | (simp <;> omega)) (by first | omega | (simp <;> omega)) ?_
  rintro v M1 ⟨o, hFI, rfl, rfl⟩
  cases o with
  | some i =>
    obtain ⟨t, ht1, ht2, ht3⟩ := id hFI
    obtain ⟨x, hx, hx2⟩ := hT4.at ht1
    rw [Option.bind_some, hx]
    refine g_seq s_LH_findOrAddThing_5 rfl ?_
    refine g_ifnonnull (tgt := 41) d_LH_findOrAddThing_7 (by decide) ?_
    refine g_seq s_LH_findOrAddThing_41 rfl ?_
    exact g_aret rfl (by first | exact Or.inl ⟨_, rfl⟩ | exact Or.inr ⟨_, rfl⟩) d_LH_findOrAddThing_42 (⟨some i, hFI, Or.inl ⟨i, x, rfl, hx, rfl, rfl⟩⟩)
  | none =>
    rw [Option.bind_none]
    refine g_seq s_LH_findOrAddThing_5 rfl ?_
    refine g_ifnonnullN d_LH_findOrAddThing_7 ?_
    refine g_seq s_LH_findOrAddThing_10 rfl ?_
    refine g_get f_LH_10 d_LH_findOrAddThing_11 (hH) rfl ?_
    refine g_invL (k2 := 3) (n2 := 2 * ts.length + 19) l_LH_98 d_LH_findOrAddThing_14 rfl ⟨rfl, Nat.le_of_ble_eq_true rfl, Nat.le_of_ble_eq_true rfl⟩ (hT1) (al_size hT1) (by first | omega | (simp <;> omega)) (by first | omega | (simp <;> omega)) ?_
    rintro v M2 ⟨rfl, rfl⟩
    refine g_seq s_LH_findOrAddThing_17 rfl ?_
    refine g_icmp_ge (tgt := 41) d_LH_findOrAddThing_20 (by decide) (fun hbr => absurd hbr ((show ¬ nI 512 ≤ nI ts.length from nI_ge hlen (by omega)))) (fun hbr => ?_)
    refine g_new (k' := 2) (n' := (2*ts.length+13)) n_LH_59 d_LH_findOrAddThing_23 (by first | omega | (simp <;> omega)) (by first | omega | (simp <;> omega)) (fun q hq hzq => ?_)
    have nq : ∀ x e, M2 x = some e → x ≠ q := fun x e hx e2 => by rw [e2, hq] at hx; cases hx
    refine g_seq s_LH_findOrAddThing_26 rfl ?_
    refine g_invI (k2 := 1) (n2 := 2 * ts.length + 10) l_LH_203 d_LH_findOrAddThing_28 rfl ⟨rfl, Nat.le_of_ble_eq_true rfl, Nat.le_of_ble_eq_true rfl⟩ (t_init up_s) (by first | omega | (simp <;> omega)) (by first | omega | (simp <;> omega)) ?_
    rintro v M3 ⟨rfl, r, hr, hrz, rfl⟩
    have hrq : r ≠ q := fun e => by rw [e, up_s] at hr; cases hr
    have hr0 : M2 r = none := by rw [up_n hrq] at hr; exact hr
    have nr : ∀ x e, M2 x = some e → x ≠ r := fun x e hx e2 => by rw [e2, hr0] at hx; cases hx
    have hk3 : ∀ x e, M2 x = some e → up (up (up M2 q (eO 1 [.int 0, .null, .int 0, .int 0, .int 0, .int 0])) r (eL [])) q (eO 1 [.int nm, .ref r, .int (-2), .int 0, .int 0, .int 0]) x = some e := fun x e hx => by rw [up_n (nq x e hx), up_n (nr x e hx), up_n (nq x e hx)]; exact hx
    have hcq : ThC (up (up (up M2 q (eO 1 [.int 0, .null, .int 0, .int 0, .int 0, .int 0])) r (eL [])) q (eO 1 [.int nm, .ref r, .int (-2), .int 0, .int 0, .int 0])) q r (newT nm) := up_s
    have hrr : up (up (up M2 q (eO 1 [.int 0, .null, .int 0, .int 0, .int 0, .int 0])) r (eL [])) q (eO 1 [.int nm, .ref r, .int (-2), .int 0, .int 0, .int 0]) r = some (eL []) := by rw [up_n hrq]; exact up_s
    generalize up (up (up M2 q (eO 1 [.int 0, .null, .int 0, .int 0, .int 0, .int 0])) r (eL [])) q (eO 1 [.int nm, .ref r, .int (-2), .int 0, .int 0, .int 0]) = M3 at hk3 hcq hrr
    have hK3 : ∀ Ch, Kp Ch M2 M3 := fun Ch x e hx _ => hk3 x e hx
    refine g_seq s_LH_findOrAddThing_31 rfl ?_
    refine g_get f_LH_10 d_LH_findOrAddThing_33 (hk3 h _ hH) rfl ?_
    refine g_seq s_LH_findOrAddThing_36 rfl ?_
    refine g_invL (k2 := 0) (n2 := 0) l_LH_154 d_LH_findOrAddThing_37 rfl ⟨rfl, Nat.le_of_ble_eq_true rfl, Nat.le_of_ble_eq_true rfl⟩ (hk3 aT _ hT1) (al_add (hk3 aT _ hT1) (by omega) (can_th hcq) (fun y hy => by obtain ⟨z, hz⟩ := hT4.mem hy; obtain ⟨r9, hz9⟩ := hz.cell; exact can_th (hk3 y _ hz9))) (by first | omega | (simp <;> omega)) (by first | omega | (simp <;> omega)) ?_
    rintro v M4 ⟨rfl, rfl⟩
    refine g_seq s_LH_findOrAddThing_40 rfl ?_
    have hraT : r ≠ aT := fun e => by rw [e, hT1] at hr0; cases hr0
    have hqaT : q ≠ aT := fun e => by rw [e, hT1] at hq; cases hq
    have hoo : ∀ x xs, M2 x = some (eL xs) → (if x = r then (3, q) else own x) = own x := fun x xs hx => if_neg (nr x _ hx)
    have hK4 : Kp (fun k x => k = 101 ∧ x = aT) M3 (up M3 aT (eL (ts ++ [q]))) := up_kp (hk3 aT _ hT1) ⟨rfl, rfl⟩
    have hP := ((hT.tag (own' := fun x => if x = r then (3, q) else own x) hoo).keep (hK3 (fun _ _ => False)) (fun _ _ h => h) (fun _ h => h) (fun _ _ _ h => h) (fun _ _ h => h)).2.2.2
    have hfin : PT (up M3 aT (eL (ts ++ [q]))) (fun x => if x = r then (3, q) else own x) aT (ts ++ [q]) (T ++ [newT nm]) := by
      refine ⟨up_s, by show (if aT = r then (3, q) else own aT) = (0, 0); rw [if_neg hraT.symm]; exact hT2, ?_, ?_⟩
      · rw [List.nodup_append]
        refine ⟨hT3, by simp, fun x hx y hy e => ?_⟩
        obtain ⟨z, hz⟩ := hT4.mem hx
        obtain ⟨r9, hz9⟩ := hz.cell
        exact nq x _ hz9 (e.trans (List.mem_singleton.mp hy))
      · refine (hP.mono (fun x y hx hw => ?_)).snoc ?_
        · refine hw.keep hK4 (fun hh => by cases hh.1) (fun _ hh => by cases hh.1) (fun r9 he hh => ?_)
          rw [hh.2] at he
          simp only [if_neg hraT.symm, hT2] at he
          cases he
        · exact ⟨r, [], (up_n hqaT).trans hcq, (up_n hraT).trans hrr, if_pos rfl, R2.nil⟩
    exact g_aret rfl (by first | exact Or.inl ⟨_, rfl⟩ | exact Or.inr ⟨_, rfl⟩) d_LH_findOrAddThing_42 (⟨none, hFI, Or.inr ⟨rfl, q, _, rfl, hfin, hoo, (hK3 _).tr hK4⟩⟩)
theorem x_findThingHeldBy {c : Int32} (hH : HoC M h aT aJ aC aB aW tp nw) (hT : PT M own aT ts T) (hlen : ts.length ≤ 10000) : G κ m_LH_findThingHeldBy (d + 4) M 0 [some (.ref h), some (.int c), none] [] 0 0 (fun v M' => M' = M ∧ ((v = some .null ∧ ¬ (tp ≠ 0 ∧ 0 ≤ c ∧ c < 16)) ∨ (tp ≠ 0 ∧ 0 ≤ c ∧ c < 16) ∧ ∃ o, FI (fun t : Th => t.1 == tp) T o ∧ ((o = none ∧ v = some .null) ∨ ∃ i t x, o = some i ∧ T[i]? = some t ∧ ts[i]? = some x ∧ ((t.2.2.1 = c ∧ v = some (.ref x)) ∨ (t.2.2.1 ≠ c ∧ v = some .null))))) := by
  obtain ⟨hT1, hT2, hT3, hT4⟩ := id hT
  refine g_seq s_LH_findThingHeldBy_0 rfl ?_
  refine g_invV  l_LH_47 d_LH_findThingHeldBy_2 rfl ⟨rfl, Nat.le_of_ble_eq_true rfl, Nat.le_of_ble_eq_true rfl⟩ (hH) (x_hasNameAnd hH) (Nat.le_of_eq (Nat.zero_add _)) (Nat.le_of_eq (Nat.zero_add _)) ?_
  rintro v M1 ⟨rfl, rfl⟩
  refine g_if_ne (tgt := 10) d_LH_findThingHeldBy_5 (by decide) (fun h1 => ?_) (fun h1 => ?_)
  · skip
    have hok : tp ≠ 0 ∧ 0 ≤ c ∧ c < 16 := of_decide_eq_true (b2i_n.mp h1)
    refine g_seq s_LH_findThingHeldBy_10 rfl ?_
    refine g_get f_LH_35 d_LH_findThingHeldBy_12 (hH) rfl ?_
    refine g_invV  l_LH_85 d_LH_findThingHeldBy_15 rfl ⟨rfl, Nat.le_of_ble_eq_true rfl, Nat.le_of_ble_eq_true rfl⟩ (hH) (x_findThing hH hT1 hT4 hlen) (Nat.le_of_eq (Nat.zero_add _)) (Nat.le_of_eq (Nat.zero_add _)) ?_
    rintro v M2 ⟨o, hFI, rfl, rfl⟩
    cases o with
    | none =>
      rw [Option.bind_none]
      refine g_seq s_LH_findThingHeldBy_18 rfl ?_
      refine g_ifnullN (tgt := 35) d_LH_findThingHeldBy_20 (by decide) ?_
      refine g_seq s_LH_findThingHeldBy_35 rfl ?_
      exact g_aretN rfl (by first | exact Or.inl ⟨_, rfl⟩ | exact Or.inr ⟨_, rfl⟩) d_LH_findThingHeldBy_36 (⟨rfl, Or.inr ⟨hok, none, hFI, Or.inl ⟨rfl, rfl⟩⟩⟩)
    | some i =>
      obtain ⟨t, ht1, ht2, ht3⟩ := id hFI
      obtain ⟨x, hx, hx2⟩ := hT4.at ht1
      obtain ⟨r, hxc⟩ := hx2.cell
      rw [Option.bind_some, hx]
      refine g_seq s_LH_findThingHeldBy_18 rfl ?_
      refine g_ifnull d_LH_findThingHeldBy_20 ?_
      refine g_seq s_LH_findThingHeldBy_23 rfl ?_
      refine g_get f_LH_79 d_LH_findThingHeldBy_24 (hxc) rfl ?_
      refine g_seq s_LH_findThingHeldBy_27 rfl ?_
      refine g_icmp_ne (tgt := 35) d_LH_findThingHeldBy_28 (by decide) (fun h2 => ?_) (fun h2 => ?_)
      · skip
        refine g_seq s_LH_findThingHeldBy_35 rfl ?_
        exact g_aretN rfl (by first | exact Or.inl ⟨_, rfl⟩ | exact Or.inr ⟨_, rfl⟩) d_LH_findThingHeldBy_36 (⟨rfl, Or.inr ⟨hok, some i, hFI, Or.inr ⟨i, t, x, rfl, ht1, hx, Or.inr ⟨h2, rfl⟩⟩⟩⟩)
      · skip
        refine g_seq s_LH_findThingHeldBy_31 rfl ?_
        exact g_aret rfl (by first | exact Or.inl ⟨_, rfl⟩ | exact Or.inr ⟨_, rfl⟩) d_LH_findThingHeldBy_36 (⟨rfl, Or.inr ⟨hok, some i, hFI, Or.inr ⟨i, t, x, rfl, ht1, hx, Or.inl ⟨h2, rfl⟩⟩⟩⟩)
  · skip
    refine g_seq s_LH_findThingHeldBy_8 rfl ?_
    exact g_aretN rfl (by first | exact Or.inl ⟨_, rfl⟩ | exact Or.inr ⟨_, rfl⟩) d_LH_findThingHeldBy_9 (⟨rfl, Or.inl ⟨rfl, of_decide_eq_false (b2i_0.mp h1)⟩⟩)
theorem x_changesOf {nm : Int32} (hH : HoC M h aT aJ aC aB aW tp nw) (hT : PT M own aT ts T) (hlen : ts.length ≤ 10000) : G κ m_LH_changesOf (d + 4) M 0 [some (.ref h), some (.int nm), none] [] 0 0 (fun v M' => M' = M ∧ ∃ o, FI (fun t : Th => t.1 == nm) T o ∧ v = some (.int (match o with | none => 0 | some i => match T[i]? with | none => 0 | some t => t.2.2.2.2.1))) := by
  obtain ⟨hT1, hT2, hT3, hT4⟩ := id hT
  refine g_seq s_LH_changesOf_0 rfl ?_
  refine g_invV  l_LH_85 d_LH_changesOf_2 rfl ⟨rfl, Nat.le_of_ble_eq_true rfl, Nat.le_of_ble_eq_true rfl⟩ (hH) (x_findThing hH hT1 hT4 hlen) (Nat.le_of_eq (Nat.zero_add _)) (Nat.le_of_eq (Nat.zero_add _)) ?_
  rintro v M2 ⟨o, hFI, rfl, rfl⟩
  cases o with
  | none =>
    rw [Option.bind_none]
    refine g_seq s_LH_changesOf_5 rfl ?_
    refine g_ifnonnullN d_LH_changesOf_7 ?_
    refine g_seq s_LH_changesOf_10 rfl ?_
    exact g_iret rfl d_LH_changesOf_18 (⟨rfl, none, hFI, rfl⟩)
  | some i =>
    obtain ⟨t, ht1, ht2, ht3⟩ := id hFI
    obtain ⟨x, hx, hx2⟩ := hT4.at ht1
    obtain ⟨r, hxc⟩ := hx2.cell
    rw [Option.bind_some, hx]
    refine g_seq s_LH_changesOf_5 rfl ?_
    refine g_ifnonnull (tgt := 14) d_LH_changesOf_7 (by decide) ?_
    refine g_seq s_LH_changesOf_14 rfl ?_
    refine g_get f_LH_223 d_LH_changesOf_15 (hxc) rfl ?_
    exact g_iret rfl d_LH_changesOf_18 (⟨rfl, some i, hFI, by simp only [ht1]⟩)
theorem x_countNotes {B : Nat → List (Int32 × Int32)} (hH : HoC M h aT aJ aC aB aW tp nw) (hB : PB M own aB B) : G κ m_LH_countNotes (d + 2) M 0 [some (.ref h), none, none] [] 0 0 (fun v M' => v = some (.int (nI (sm (fun i => (B i).length) (List.range 16)))) ∧ M' = M) := by
  obtain ⟨f, f1, f2⟩ := hB
  have loop : ∀ n i, i + n = 16 → G κ m_LH_countNotes (d + 2) M 4 [some (.ref h), some (.int (nI (sm (fun i => (B i).length) ((List.range 16).take i)))), some (.int (nI i))] [] 0 0 (fun v M' => v = some (.int (nI (sm (fun i => (B i).length) (List.range 16)))) ∧ M' = M) := by
    intro n
    induction n with
    | zero =>
      intro i hi
      have h16 : i = 16 := by omega
      subst h16
      refine g_seq s_LH_countNotes_4 rfl ?_
      refine g_icmp_ge (tgt := 28) d_LH_countNotes_7 (by decide) (fun hbr => ?_) (fun hbr => absurd hbr (fun h => h (by decide)))
      refine g_seq s_LH_countNotes_28 rfl ?_
      exact g_iret rfl d_LH_countNotes_29 (⟨rfl, rfl⟩)
    | succ n ih =>
      intro i hi
      have hil : i < 16 := by omega
      obtain ⟨b, hfb, l, ws, hb1, hb2, hb3, hb4⟩ := f2 i hil
      have hri : (List.range 16)[i]? = some i := by simp [hil]
      have hih := ih (i + 1) (by omega)
      rw [sm_step hri, ← hb4.1] at hih
      refine g_seq s_LH_countNotes_4 rfl ?_
      refine g_icmp_ge (tgt := 28) d_LH_countNotes_7 (by decide) (fun hbr => absurd hbr ((show ¬ nI 16 ≤ nI i from nI_ge hil (by omega)))) (fun hbr => ?_)
      refine g_seq s_LH_countNotes_10 rfl ?_
      refine g_get f_LH_24 d_LH_countNotes_12 (hH) rfl ?_
      refine g_seq s_LH_countNotes_15 rfl ?_
      refine g_aald d_LH_countNotes_16 f1 (vp_nI hil (by omega)) ?_
      rw [nI_cl (by omega), hfb]
      refine g_invV  l_LH_239 d_LH_countNotes_17 rfl ⟨rfl, Nat.le_of_ble_eq_true rfl, Nat.le_of_ble_eq_true rfl⟩ (hb1) (b_size hb1 hb2) (Nat.le_of_eq (Nat.zero_add _)) (Nat.le_of_eq (Nat.zero_add _)) ?_
      rintro v M2 ⟨rfl, rfl⟩
      refine g_seq s_LH_countNotes_20 rfl ?_
      rw [nI_1, nI_add]
      exact hih
  refine g_seq s_LH_countNotes_0 rfl ?_
  exact loop 16 0 (by omega)
end XF
end
section
/-! names -/
def enc (ls : List Nat) : Nat := ls.foldl (fun acc l => acc * 26 + l) 0
def okL (ls : List Nat) : Prop := ∀ l ∈ ls, 1 ≤ l ∧ l ≤ 26
theorem enc_snoc (ls : List Nat) (l : Nat) : enc (ls ++ [l]) = enc ls * 26 + l := by simp [enc]
theorem okL_snoc {ls : List Nat} {l : Nat} : okL (ls ++ [l]) ↔ okL ls ∧ 1 ≤ l ∧ l ≤ 26 := by
  unfold okL
  constructor
  · intro h
    exact ⟨fun x hx => h x (List.mem_append_left _ hx), h l (List.mem_append_right _ (List.mem_singleton.mpr rfl))⟩
  · rintro ⟨h1, h2⟩ x hx
    rcases List.mem_append.mp hx with h | h
    · exact h1 x h
    · rw [List.mem_singleton.mp h]; exact h2
/-- lists by their last element -/
theorem snocRec {α : Type} {P : List α → Prop} (h0 : P []) (h1 : ∀ l x, P l → P (l ++ [x])) : ∀ l, P l := by
  have : ∀ n (l : List α), l.length = n → P l := by
    intro n
    induction n with
    | zero => intro l hl; rw [List.length_eq_zero_iff.mp hl]; exact h0
    | succ n ih =>
      intro l hl
      have hne : l ≠ [] := fun e => by rw [e] at hl; cases hl
      rw [← List.dropLast_concat_getLast hne]
      exact h1 _ _ (ih _ (by simp [hl]))
  exact fun l => this _ l rfl
theorem enc_lt : ∀ ls : List Nat, okL ls → enc ls < 27 ^ ls.length := by
  refine snocRec ?_ ?_
  · intro _; decide
  · intro l x ih h
    obtain ⟨h1, h2, h3⟩ := okL_snoc.mp h
    have := ih h1
    rw [enc_snoc, List.length_append, List.length_singleton, Nat.pow_succ]
    omega
theorem enc_b {ls : List Nat} (h : okL ls) (h6 : ls.length ≤ 6) : enc ls < 387420489 := Nat.lt_of_lt_of_le (enc_lt ls h) (Nat.pow_le_pow_right (by omega) h6)
theorem enc_0 {ls : List Nat} (h : okL ls) : enc ls = 0 ↔ ls = [] := by
  refine snocRec (P := fun ls => okL ls → (enc ls = 0 ↔ ls = [])) (fun _ => by simp [enc]) (fun l x _ h => ?_) ls h
  obtain ⟨h1, h2, h3⟩ := okL_snoc.mp h
  rw [enc_snoc]
  constructor
  · intro e; omega
  · intro e; simp at e
theorem enc_pre {l : List Nat} {x : Nat} (h : okL (l ++ [x])) (h6 : (l ++ [x]).length ≤ 6) : (nI (enc (l ++ [x])) - 1) / 26 = nI (enc l) := by
  have hb := enc_b h h6
  obtain ⟨h1, h2, h3⟩ := okL_snoc.mp h
  rw [enc_snoc] at hb ⊢
  rw [show (1 : Int32) = nI 1 from rfl, show (26 : Int32) = nI 26 from rfl, pk_sub (by omega), pk_div (by omega) (by decide) (by decide)]
  congr 1
  omega
theorem enc_rem {l : List Nat} {x : Nat} (h : okL (l ++ [x])) (h6 : (l ++ [x]).length ≤ 6) : (97 : Int32) + (nI (enc (l ++ [x])) - 1 - (nI (enc (l ++ [x])) - 1) / 26 * 26) = nI (x + 96) := by
  have hb := enc_b h h6
  obtain ⟨h1, h2, h3⟩ := okL_snoc.mp h
  rw [enc_snoc] at hb ⊢
  rw [show (1 : Int32) = nI 1 from rfl, show (26 : Int32) = nI 26 from rfl, show (97 : Int32) = nI 97 from rfl, pk_sub (by omega), pk_rem (by omega) (by decide) (by decide), nI_add]
  congr 1
  omega
section XN
variable {κ : Nat × Nat} {d : Nat} {M : Mm} {a : Nat}
theorem x_lengthOf {ls : List Nat} (h : okL ls) (h6 : ls.length ≤ 6) : G κ m_LH_lengthOf (d + 1) M 0 [some (.int (nI (enc ls))), none, none] [] 0 0 (fun v M' => v = some (.int (nI ls.length)) ∧ M' = M) := by
  have loop : ∀ l' : List Nat, okL l' → ∀ i, i + l'.length = ls.length → G κ m_LH_lengthOf (d + 1) M 4 [some (.int (nI (enc ls))), some (.int (nI i)), some (.int (nI (enc l')))] [] 0 0 (fun v M' => v = some (.int (nI ls.length)) ∧ M' = M) := by
    refine snocRec ?_ ?_
    · intro _ i hi
      have hi2 : i = ls.length := by simpa using hi
      have fin : G κ m_LH_lengthOf (d + 1) M 25 [some (.int (nI (enc ls))), some (.int (nI i)), some (.int (nI (enc [])))] [] 0 0 (fun v M' => v = some (.int (nI ls.length)) ∧ M' = M) := by
        refine g_seq s_LH_lengthOf_25 rfl ?_
        exact g_iret rfl d_LH_lengthOf_26 (⟨by rw [hi2], rfl⟩)
      refine g_seq s_LH_lengthOf_4 rfl ?_
      refine g_icmp_ge (tgt := 25) d_LH_lengthOf_7 (by decide) (fun h1 => ?_) (fun h1 => ?_)
      · skip
        exact fin
      · skip
        refine g_seq s_LH_lengthOf_10 rfl ?_
        refine g_if_eq (tgt := 25) d_LH_lengthOf_11 (by decide) (fun hbr => ?_) (fun hbr => absurd hbr (fun h => h rfl))
        exact fin
    · intro l x ih hok i hi
      have hi2 : i + l.length + 1 = ls.length := by simpa [Nat.add_assoc] using hi
      have hl6 : (l ++ [x]).length ≤ 6 := by simp; omega
      have hne : ¬ enc (l ++ [x]) = 0 := fun e => by simpa using (enc_0 hok).mp e
      refine g_seq s_LH_lengthOf_4 rfl ?_
      refine g_icmp_ge (tgt := 25) d_LH_lengthOf_7 (by decide) (fun hbr => absurd hbr ((show ¬ nI 6 ≤ nI i from nI_ge (by omega) (by omega)))) (fun hbr => ?_)
      refine g_seq s_LH_lengthOf_10 rfl ?_
      refine g_if_eq (tgt := 25) d_LH_lengthOf_11 (by decide) (fun hbr => absurd hbr (nI_ne0 (by omega) (by have := enc_b hok hl6; omega))) (fun hbr => ?_)
      refine g_seq s_LH_lengthOf_14 rfl ?_
      refine g_invS  l_LH_188 d_LH_lengthOf_15 rfl ⟨rfl, Nat.le_of_ble_eq_true rfl, Nat.le_of_ble_eq_true rfl⟩ (x_withoutLastLetter) (Nat.le_of_eq (Nat.zero_add _)) (Nat.le_of_eq (Nat.zero_add _)) ?_
      rintro v M' ⟨rfl, rfl⟩
      rw [enc_pre hok hl6]
      refine g_seq s_LH_lengthOf_18 rfl ?_
      rw [nI_1]
      exact ih (okL_snoc.mp hok).1 (i + 1) (by omega)
  refine g_seq s_LH_lengthOf_0 rfl ?_
  exact loop ls h 0 (by omega)
end XN
/-! the house -/
abbrev XS : Type := List Th × List Wt × List (Int32 × Int32) × (Nat → List (Int32 × Int32)) × List Int32 × List Nat × Int32
/-- the house's parts -/
def XP (M : Mm) (own : Nat → Nat × Nat) (h aT aJ aC aB aW : Nat) (ts : List Nat) (T : List Th) (J : List Wt) (C : List (Int32 × Int32)) (B : Nat → List (Int32 × Int32)) (W : List Int32) (tp nw : Int32) : Prop :=
  HoC M h aT aJ aC aB aW tp nw ∧ PT M own aT ts T ∧ PJ M own aJ J ∧ PC M own aC C ∧ PB M own aB B ∧ PW M aW W
def XR (M : Mm) (h : Nat) (X : XS) : Prop := ∃ own aT aJ aC aB aW ts, XP M own h aT aJ aC aB aW ts X.1 X.2.1 X.2.2.1 X.2.2.2.1 X.2.2.2.2.1 (nI (enc X.2.2.2.2.2.1)) X.2.2.2.2.2.2
section XH
variable {κ : Nat × Nat} {d : Nat} {M : Mm} {own : Nat → Nat × Nat} {h aT aJ aC aB aW : Nat} {ts : List Nat} {T : List Th} {J : List Wt} {C : List (Int32 × Int32)} {B : Nat → List (Int32 × Int32)} {W : List Int32} {tp : List Nat} {nw : Int32}
theorem XP.house {tp nw tp' nw' : Int32} (hX : XP M own h aT aJ aC aB aW ts T J C B W tp nw) : XP (up M h (eO 0 [.ref aT, .ref aJ, .ref aC, .ref aB, .ref aW, .int tp', .int nw'])) own h aT aJ aC aB aW ts T J C B W tp' nw' := by
  obtain ⟨h1, h2, h3, h4, h5, h6⟩ := hX
  have hK : Kp (fun k q => k = 0 ∧ q = h) M (up M h (eO 0 [.ref aT, .ref aJ, .ref aC, .ref aB, .ref aW, .int tp', .int nw'])) := up_kp h1 ⟨rfl, rfl⟩
  have n : ∀ {k q : Nat}, k ≠ 0 → ¬ (k = 0 ∧ q = h) := fun hk hh => hk hh.1
  exact ⟨up_s, h2.keep hK (fun _ _ => n (by decide)) (fun _ => n (by decide)) (fun _ _ _ => n (by decide)) (fun _ _ => n (by decide)), h3.keep hK (fun _ => n (by decide)) (fun _ _ => n (by decide)), h4.keep hK (fun _ => n (by decide)) (fun _ _ => n (by decide)), h5.keep hK (fun _ => n (by decide)) (fun _ => n (by decide)) (n (by decide)) (fun _ _ _ => n (by decide)), h6.keep hK (n (by decide)) (fun _ => n (by decide))⟩
theorem x_sign {c : Int32} (hX : XR M h (T, J, C, B, W, tp, nw)) (hok : okL tp) (h6 : tp.length ≤ 6) : G κ m_LH_sign (d + 2) M 0 [some (.ref h), some (.int c), none] [] 0 0 (fun v M' => ∃ tp', XR M' h (T, J, C, B, W, tp', nw) ∧
    ((¬ (97 ≤ c ∧ c ≤ 122) ∧ v = some (.int (-1)) ∧ tp' = tp) ∨ ((97 ≤ c ∧ c ≤ 122) ∧ tp.length = 6 ∧ v = some (.int (-3)) ∧ tp' = tp) ∨ (tp.length < 6 ∧ v = some (.int (nI (tp.length + 1))) ∧ ∃ l, 1 ≤ l ∧ l ≤ 26 ∧ c = nI (l + 96) ∧ tp' = tp ++ [l]))) := by
  have hX0 := hX
  obtain ⟨own, aT, aJ, aC, aB, aW, ts, hP⟩ := hX
  have hH := hP.1
  have bad : ¬ (97 ≤ c ∧ c ≤ 122) → G κ m_LH_sign (d + 2) M 12 [some (.ref h), some (.int c), none] [] 0 0 (fun v M' => ∃ tp', XR M' h (T, J, C, B, W, tp', nw) ∧
    ((¬ (97 ≤ c ∧ c ≤ 122) ∧ v = some (.int (-1)) ∧ tp' = tp) ∨ ((97 ≤ c ∧ c ≤ 122) ∧ tp.length = 6 ∧ v = some (.int (-3)) ∧ tp' = tp) ∨ (tp.length < 6 ∧ v = some (.int (nI (tp.length + 1))) ∧ ∃ l, 1 ≤ l ∧ l ≤ 26 ∧ c = nI (l + 96) ∧ tp' = tp ++ [l]))) := by
    intro hb
    refine g_seq s_LH_sign_12 rfl ?_
    exact g_iret rfl d_LH_sign_13 (⟨tp, hX0, Or.inl ⟨hb, rfl, rfl⟩⟩)
  refine g_seq s_LH_sign_0 rfl ?_
  refine g_icmp_lt (tgt := 12) d_LH_sign_3 (by decide) (fun h1 => ?_) (fun h1 => ?_)
  · skip
    exact bad (fun q => absurd h1 (Int32.not_lt.mpr q.1))
  · skip
    refine g_seq s_LH_sign_6 rfl ?_
    refine g_icmp_le (tgt := 14) d_LH_sign_9 (by decide) (fun h2 => ?_) (fun h2 => ?_)
    · skip
      have h97 : 97 ≤ c := Int32.not_lt.mp h1
      refine g_seq s_LH_sign_14 rfl ?_
      refine g_get f_LH_35 d_LH_sign_15 (hH) rfl ?_
      refine g_invS  l_LH_43 d_LH_sign_18 rfl ⟨rfl, Nat.le_of_ble_eq_true rfl, Nat.le_of_ble_eq_true rfl⟩ (x_lengthOf hok h6) (Nat.le_of_eq (Nat.zero_add _)) (Nat.le_of_eq (Nat.zero_add _)) ?_
      rintro v M' ⟨rfl, rfl⟩
      refine g_seq s_LH_sign_21 rfl ?_
      refine g_icmp_lt (tgt := 31) d_LH_sign_25 (by decide) (fun h3 => ?_) (fun h3 => ?_)
      · skip
        have hl6 : tp.length < 6 := by
          rcases Nat.lt_or_ge tp.length 6 with q | q
          · exact q
          · exact absurd h3 (show ¬ nI tp.length < nI 6 from nI_nlt q (by omega))
        obtain ⟨l, hl1, hl2, hl3⟩ : ∃ l, 1 ≤ l ∧ l ≤ 26 ∧ c = nI (l + 96) := by
          obtain ⟨j, hj1, hj2⟩ := nI_of (x := c) (fun q => absurd h97 (Int32.not_le.mpr (Int32.lt_trans q (by decide))))
          rw [hj2] at h97 h2
          have a1 := (nI_leI (a := 97) (by decide) hj1).mp h97
          have a2 := (nI_leI (b := 122) hj1 (by decide)).mp h2
          exact ⟨j - 96, by omega, by omega, by rw [hj2]; congr 1; omega⟩
        have hb := enc_b (okL_snoc.mpr ⟨hok, hl1, hl2⟩) (by simp; omega)
        rw [enc_snoc] at hb
        have he : nI (enc tp) * 26 + (c - 97 + 1) = nI (enc (tp ++ [l])) := by
          rw [hl3, enc_snoc, show (26 : Int32) = nI 26 from rfl, show (97 : Int32) = nI 97 from rfl, show (1 : Int32) = nI 1 from rfl, pk_mul, pk_sub (by omega), nI_add, nI_add]
          congr 1
          omega
        refine g_seq s_LH_sign_31 rfl ?_
        refine g_get f_LH_35 d_LH_sign_33 (hH) rfl ?_
        refine g_seq s_LH_sign_36 rfl ?_
        refine g_put f_LH_35 d_LH_sign_46 (hH) rfl rfl rfl ?_
        rw [he]
        refine g_seq s_LH_sign_49 rfl ?_
        rw [nI_1]
        exact g_iret rfl d_LH_sign_52 (⟨tp ++ [l], ⟨own, aT, aJ, aC, aB, aW, ts, hP.house⟩, Or.inr (Or.inr ⟨hl6, rfl, l, hl1, hl2, hl3, rfl⟩)⟩)
      · skip
        have hl6 : tp.length = 6 := by
          rcases Nat.lt_or_ge tp.length 6 with q | q
          · exact absurd (show nI tp.length < nI 6 from nI_lt q (by omega)) h3
          · omega
        refine g_seq s_LH_sign_28 rfl ?_
        exact g_iret rfl d_LH_sign_30 (⟨tp, hX0, Or.inr (Or.inl ⟨⟨h97, h2⟩, hl6, rfl, rfl⟩)⟩)
    · skip
      exact bad (fun q => h2 q.2)
theorem x_erase (hX : XR M h (T, J, C, B, W, tp, nw)) (hok : okL tp) (h6 : tp.length ≤ 6) : G κ m_LH_erase (d + 2) M 0 [some (.ref h), none] [] 0 0 (fun v M' => XR M' h (T, J, C, B, W, [], nw) ∧ v = some (.int (nI tp.length))) := by
  obtain ⟨own, aT, aJ, aC, aB, aW, ts, hP⟩ := hX
  have hH := hP.1
  refine g_seq s_LH_erase_0 rfl ?_
  refine g_get f_LH_35 d_LH_erase_1 (hH) rfl ?_
  refine g_invS  l_LH_43 d_LH_erase_4 rfl ⟨rfl, Nat.le_of_ble_eq_true rfl, Nat.le_of_ble_eq_true rfl⟩ (x_lengthOf hok h6) (Nat.le_of_eq (Nat.zero_add _)) (Nat.le_of_eq (Nat.zero_add _)) ?_
  rintro v M' ⟨rfl, rfl⟩
  refine g_seq s_LH_erase_7 rfl ?_
  refine g_put f_LH_35 d_LH_erase_10 (hH) rfl rfl rfl ?_
  refine g_seq s_LH_erase_13 rfl ?_
  exact g_iret rfl d_LH_erase_14 (⟨⟨own, aT, aJ, aC, aB, aW, ts, hP.house⟩, rfl⟩)
theorem x_letter {c : Int32} (hX : XR M h (T, J, C, B, W, tp, nw)) (hok : okL tp) (h6 : tp.length ≤ 6) : G κ m_LH_letter (d + 2) M 0 [some (.ref h), some (.int c), none, none, none] [] 0 0 (fun v M' => M' = M ∧ ((∃ j l, c = nI j ∧ tp[j]? = some l ∧ v = some (.int (nI (l + 96)))) ∨ ((∀ j, j < tp.length → c ≠ nI j) ∧ v = some (.int (-2))))) := by
  obtain ⟨own, aT, aJ, aC, aB, aW, ts, hP⟩ := hX
  have hH := hP.1
  have bad : (∀ j, j < tp.length → c ≠ nI j) → G κ m_LH_letter (d + 2) M 17 [some (.ref h), some (.int c), some (.int (nI tp.length)), none, none] [] 0 0 (fun v M' => M' = M ∧ ((∃ j l, c = nI j ∧ tp[j]? = some l ∧ v = some (.int (nI (l + 96)))) ∨ ((∀ j, j < tp.length → c ≠ nI j) ∧ v = some (.int (-2))))) := by
    intro hb
    refine g_seq s_LH_letter_17 rfl ?_
    exact g_iret rfl d_LH_letter_19 (⟨rfl, Or.inr ⟨hb, rfl⟩⟩)
  refine g_seq s_LH_letter_0 rfl ?_
  refine g_get f_LH_35 d_LH_letter_1 (hH) rfl ?_
  refine g_invS  l_LH_43 d_LH_letter_4 rfl ⟨rfl, Nat.le_of_ble_eq_true rfl, Nat.le_of_ble_eq_true rfl⟩ (x_lengthOf hok h6) (Nat.le_of_eq (Nat.zero_add _)) (Nat.le_of_eq (Nat.zero_add _)) ?_
  rintro v M' ⟨rfl, rfl⟩
  refine g_seq s_LH_letter_7 rfl ?_
  refine g_if_lt (tgt := 17) d_LH_letter_9 (by decide) (fun h1 => ?_) (fun h1 => ?_)
  · skip
    exact bad (fun j hj e => by rw [e] at h1; exact nI_lt0 (by omega) h1)
  · skip
    obtain ⟨j, hj1, hj2⟩ := nI_of h1
    subst hj2
    refine g_seq s_LH_letter_12 rfl ?_
    refine g_icmp_lt (tgt := 20) d_LH_letter_14 (by decide) (fun h2 => ?_) (fun h2 => ?_)
    · skip
      have hjl : j < tp.length := (nI_ltI hj1 (by omega)).mp h2
      have hTj := List.getElem?_eq_getElem hjl
      generalize tp[j] = l at hTj
      have loop : ∀ n i, i = j + n → i < tp.length → G κ m_LH_letter (d + 2) M' 30 [some (.ref h), some (.int (nI j)), some (.int (nI tp.length)), some (.int (nI (enc (tp.take (i + 1))))), some (.int (nI i))] [] 0 0 (fun v M'' => M'' = M' ∧ ((∃ j' l, nI j = nI j' ∧ tp[j']? = some l ∧ v = some (.int (nI (l + 96)))) ∨ ((∀ j', j' < tp.length → nI j ≠ nI j') ∧ v = some (.int (-2))))) := by
        intro n
        induction n with
        | zero =>
          intro i hi hil
          have hij : i = j := by omega
          subst hij
          have ht : tp.take (i + 1) = tp.take i ++ [l] := by rw [List.take_add_one, hTj]; rfl
          have hok1 : okL (tp.take i ++ [l]) := by rw [← ht]; exact fun x hx => hok x (List.mem_of_mem_take hx)
          refine g_seq s_LH_letter_30 rfl ?_
          refine g_icmp_le (tgt := 47) d_LH_letter_33 (by decide) (fun hbr => ?_) (fun hbr => absurd hbr (fun h => h (nI_le (Nat.le_refl _) (by omega))))
          refine g_seq s_LH_letter_47 rfl ?_
          refine g_irem d_LH_letter_54 (by decide) ?_
          refine g_seq s_LH_letter_55 rfl ?_
          rw [ht, enc_rem hok1 (by simp; omega)]
          exact g_iret rfl d_LH_letter_56 (⟨rfl, Or.inl ⟨i, l, rfl, hTj, rfl⟩⟩)
        | succ n ih =>
          intro i hi hil
          have hTi := List.getElem?_eq_getElem hil
          have ht : tp.take (i + 1) = tp.take i ++ [tp[i]] := by rw [List.take_add_one, hTi]; rfl
          have hok1 : okL (tp.take i ++ [tp[i]]) := by rw [← ht]; exact fun x hx => hok x (List.mem_of_mem_take hx)
          obtain ⟨i', rfl⟩ : ∃ i', i = i' + 1 := ⟨i - 1, by omega⟩
          have hih := ih i' (by omega) (by omega)
          refine g_seq s_LH_letter_30 rfl ?_
          refine g_icmp_le (tgt := 47) d_LH_letter_33 (by decide) (fun hbr => absurd hbr (nI_ge (by omega) (by omega))) (fun hbr => ?_)
          refine g_seq s_LH_letter_36 rfl ?_
          refine g_invS  l_LH_188 d_LH_letter_37 rfl ⟨rfl, Nat.le_of_ble_eq_true rfl, Nat.le_of_ble_eq_true rfl⟩ (x_withoutLastLetter) (Nat.le_of_eq (Nat.zero_add _)) (Nat.le_of_eq (Nat.zero_add _)) ?_
          rintro v M2 ⟨rfl, rfl⟩
          rw [ht, enc_pre hok1 (by simp; omega)]
          refine g_seq s_LH_letter_40 rfl ?_
          rw [pk_m1]
          exact hih
      refine g_seq s_LH_letter_20 rfl ?_
      refine g_get f_LH_35 d_LH_letter_21 (hH) rfl ?_
      refine g_seq s_LH_letter_24 rfl ?_
      obtain ⟨n, hn⟩ : ∃ n, tp.length = n + 1 := ⟨tp.length - 1, by omega⟩
      have hlp := loop (n - j) n (by omega) (by omega)
      rw [← hn, List.take_length] at hlp
      have e1 : nI tp.length - 1 = nI n := by rw [hn]; exact nI_pred n
      rw [e1]
      exact hlp
    · skip
      exact bad (fun j' hj' e => h2 (by rw [e]; exact nI_lt hj' (show tp.length < 2 ^ 31 by omega)))
end XH
end
section
def XQ (M : Mm) (h : Nat) (T : List Th) (J : List Wt) (C : List (Int32 × Int32)) (B : Nat → List (Int32 × Int32)) (W : List Int32) (tp nw : Int32) : Prop := ∃ own aT aJ aC aB aW ts, XP M own h aT aJ aC aB aW ts T J C B W tp nw
/-- the name's thing, found or made -/
def Add (T : List Th) (nm : Int32) (T1 : List Th) (i : Nat) (t : Th) : Prop := T1[i]? = some t ∧ ((FI (fun t : Th => t.1 == nm) T (some i) ∧ T1 = T) ∨ (FI (fun t : Th => t.1 == nm) T none ∧ T1 = T ++ [newT nm] ∧ i = T.length ∧ t = newT nm))
section XU
variable {κ : Nat × Nat} {d : Nat} {M M' : Mm} {a i : Nat} {own : Nat → Nat × Nat} {h aT aJ aC aB aW : Nat} {ts : List Nat} {T : List Th} {J : List Wt} {C : List (Int32 × Int32)} {B B' : Nat → List (Int32 × Int32)} {W W' : List Int32} {tp nw : Int32}
theorem XP.thing {aw : Nat} {t' : Th} (hX : XP M own h aT aJ aC aB aW ts T J C B W tp nw) (hx : ts[i]? = some a) (hK : Kp (ChE own a aW aw) M M') (ht : ThR M' own a t') (hB' : PB M' own aB B') (hW' : PW M' aW W') : XP M' own h aT aJ aC aB aW ts (T.set i t') J C B' W' tp nw := by
  obtain ⟨h1, ⟨g1, g2, g3, g4⟩, h3, h4, h5, h6⟩ := hX
  have nE : ∀ {k q : Nat}, k ≠ 1 → k ≠ 101 → k ≠ 7 → k ≠ 100 → ¬ ChE own a aW aw k q := by
    intro k q n1 n2 n3 n4 hh
    rcases hh with hh | hh | hh | hh
    · exact n1 hh.1
    · exact n2 hh.1
    · exact n3 hh.1
    · exact n4 hh.1
  have nL : ∀ {q x y : Nat}, own q = (x, y) → x ≠ 4 → (x, y) ≠ (3, a) → ¬ ChE own a aW aw 101 q := by
    intro q x y ho n4 n3 hh
    rcases hh with hh | ⟨-, ⟨i, hh⟩ | hh⟩ | hh | hh
    · cases hh.1
    · rw [ho] at hh; exact n4 (congrArg Prod.fst hh)
    · rw [ho] at hh; exact n3 hh
    · cases hh.1
    · cases hh.1
  refine ⟨h1.keep hK (nE (by decide) (by decide) (by decide) (by decide)), ⟨hK aT _ g1 (nL g2 (by decide) (by simp)), g2, g3, ⟨by simpa using g4.1, fun j x y hxj hy => ?_⟩⟩, h3.keep hK (fun _ => nE (by decide) (by decide) (by decide) (by decide)) (fun r hr => nL hr (by decide) (by simp)), h4.keep hK (fun _ => nE (by decide) (by decide) (by decide) (by decide)) (fun r hr => nL hr (by decide) (by simp)), hB', hW'⟩
  by_cases hji : j = i
  · subst hji
    rw [hx] at hxj
    cases hxj
    have hjl : j < T.length := by rw [← g4.1]; exact (List.getElem?_eq_some_iff.mp hx).1
    rw [List.getElem?_set_self hjl] at hy
    cases hy
    exact ht
  · rw [List.getElem?_set_ne (Ne.symm hji)] at hy
    have hxa : x ≠ a := fun e => by
      subst e
      have h1 := (List.getElem?_eq_some_iff.mp hxj)
      have h2 := (List.getElem?_eq_some_iff.mp hx)
      exact hji ((List.getElem_inj g3).mp (h1.2.trans h2.2.symm))
    refine (g4.2 j x y hxj hy).keep hK (fun hh => ?_) (fun _ => nE (by decide) (by decide) (by decide) (by decide)) (fun r hr => nL hr (by decide) (fun e => hxa (congrArg Prod.snd e)))
    rcases hh with hh | hh | hh | hh
    · exact hxa hh.2
    · cases hh.1
    · cases hh.1
    · cases hh.1
theorem ChT.e {aW aw : Nat} : ∀ k q, ChT own a k q → ChE own a aW aw k q := fun k q hh => hh.elim Or.inl (fun hh => Or.inr (Or.inl ⟨hh.1, Or.inl hh.2⟩))
/-- a change that was told: the rest stands -/
theorem XP.told {r : Nat} {t t' : Th} (hX : XP M own h aT aJ aC aB aW ts T J C B W tp nw) (hx : ts[i]? = some a) (hT : ThR M own a t) (hK : Kp (ChT own a) M M') (hc : ThC M' a r t') (hc0 : ThC M a r t) (hrow : t'.2.1 = t.2.1) (hB' : PB M' own aB B') : XP M' own h aT aJ aC aB aW ts (T.set i t') J C B' W tp nw := by
  obtain ⟨aw, f, w1, w2, w3⟩ := id hX.2.2.2.2.2
  have n : ∀ {k q : Nat}, k ≠ 1 → k ≠ 101 → ¬ ChT own a k q := fun n1 n2 hh => hh.elim (fun hh => n1 hh.1) (fun hh => n2 hh.1)
  refine hX.thing hx (hK.wk (ChT.e (aw := aw))) ?_ hB' (hX.2.2.2.2.2.keep hK (n (by decide) (by decide)) (fun _ => n (by decide) (by decide)))
  obtain ⟨r0, ws, g1, g2, g3, g4⟩ := hT
  have hrr : r0 = r := by unfold ThC at g1 hc0; rw [g1] at hc0; cases hc0; rfl
  subst hrr
  refine ⟨r0, ws, hc, hK r0 _ g2 (fun hh => ?_), g3, by rw [hrow]; exact g4.mono (fun x y _ hw => hK x _ hw (n (k := 2) (by decide) (by decide)))⟩
  rcases hh with hh | ⟨-, i, hh⟩
  · cases hh.1
  · rw [g3] at hh; cases hh
/-- what findOrAddThing gives, in the house's words -/
theorem x_foat {nm : Int32} (hX : XP M own h aT aJ aC aB aW ts T J C B W tp nw) (hlen : T.length < 512) : G κ m_LH_findOrAddThing (d + 7) M 0 [some (.ref h), some (.int nm), none] [] 3 1041 (fun v M' => ∃ T1 i t own' ts' x, Add T nm T1 i t ∧ v = some (.ref x) ∧ ts'[i]? = some x ∧ XP M' own' h aT aJ aC aB aW ts' T1 J C B W tp nw) := by
  obtain ⟨h1, h2, h3, h4, h5, h6⟩ := id hX
  have htl : ts.length = T.length := h2.2.2.2.1
  refine g_le (g_mono (x_findOrAddThing h1 h2 (by omega)) ?_) (by omega) (by omega)
  rintro v M' ⟨o, hFI, ⟨i, x, rfl, hx, rfl, rfl⟩ | ⟨rfl, q, own', rfl, hP, ho, hK⟩⟩
  · obtain ⟨t, ht, -⟩ := id hFI
    exact ⟨T, i, t, own, ts, x, ⟨ht, Or.inl ⟨hFI, rfl⟩⟩, rfl, hx, hX⟩
  · have n : ∀ {k q : Nat}, k ≠ 101 → ¬ (k = 101 ∧ q = aT) := fun n1 hh => n1 hh.1
    have nL : ∀ {r x y : Nat}, own' r = (x, y) → x ≠ 0 → ¬ (101 = 101 ∧ r = aT) := fun hr hx hh => by rw [hh.2, hP.2.1] at hr; exact hx (congrArg Prod.fst hr).symm
    refine ⟨T ++ [newT nm], T.length, newT nm, own', ts ++ [q], q, ⟨by simp, Or.inr ⟨hFI, rfl, rfl, rfl⟩⟩, rfl, by rw [← htl]; simp, h1.keep hK (n (by decide)), hP, (h3.tag ho).keep hK (fun _ => n (by decide)) (fun r hr => nL hr (by decide)), (h4.tag ho).keep hK (fun _ => n (by decide)) (fun r hr => nL hr (by decide)), (h5.tag ho).keep hK (fun _ => n (by decide)) (fun _ => n (by decide)) (n (by decide)) (fun r i hr => nL hr (by decide)), h6.keep hK (n (by decide)) (fun _ => n (by decide))⟩
theorem XP.at {t : Th} (hX : XP M own h aT aJ aC aB aW ts T J C B W tp nw) (ht : T[i]? = some t) (hx : ts[i]? = some a) : ThR M own a t := hX.2.1.2.2.2.2 i a t hx ht
theorem x_want {c tk : Int32} (hX : XQ M h T J C B W tp nw) (hlen : T.length < 512) (h8 : ∀ i, i < 16 → (B i).length ≤ 8) (hrow : ∀ (i : Nat) (t : Th), T[i]? = some t → t.2.1.length ≤ 5) : G κ m_LH_want (d + 10) M 0 [some (.ref h), some (.int c), some (.int tk), none] [] 20 1500 (fun v M' =>
    (¬ ((tp ≠ 0 ∧ 0 ≤ c ∧ c < 16) ∧ 1 ≤ tk ∧ tk ≤ 100) ∧ v = some (.int (-1)) ∧ M' = M) ∨
    (((tp ≠ 0 ∧ 0 ≤ c ∧ c < 16) ∧ 1 ≤ tk ∧ tk ≤ 100) ∧ ∃ T1 i t, Add T tp T1 i t ∧
      ((lent t = false ∧ v = some (.int 0) ∧ XQ M' h (T1.set i (lendT t c (nw + tk))) J C (tellB t.2.2.2.2.2 (t.1, 1) 16 B) W tp nw) ∨
       (lent t = true ∧ inT t c ∧ v = some (.int (-2)) ∧ XQ M' h T1 J C B W tp nw) ∨
       (lent t = true ∧ ¬ inT t c ∧ t.2.1.length = 5 ∧ v = some (.int (-3)) ∧ XQ M' h T1 J C B W tp nw) ∨
       (lent t = true ∧ ¬ inT t c ∧ t.2.1.length < 5 ∧ v = some (.int (nI (t.2.1.length + 1))) ∧ XQ M' h (T1.set i (addW t (c, tk, nw))) J C B W tp nw)))) := by
  obtain ⟨own, aT, aJ, aC, aB, aW, ts, hP⟩ := hX
  have hH := hP.1
  have bad : ∀ M', M' = M → ¬ ((tp ≠ 0 ∧ 0 ≤ c ∧ c < 16) ∧ 1 ≤ tk ∧ tk ≤ 100) → G κ m_LH_want (d + 10) M' 15 [some (.ref h), some (.int c), some (.int tk), none] [] 20 1500 (fun v M' =>
    (¬ ((tp ≠ 0 ∧ 0 ≤ c ∧ c < 16) ∧ 1 ≤ tk ∧ tk ≤ 100) ∧ v = some (.int (-1)) ∧ M' = M) ∨
    (((tp ≠ 0 ∧ 0 ≤ c ∧ c < 16) ∧ 1 ≤ tk ∧ tk ≤ 100) ∧ ∃ T1 i t, Add T tp T1 i t ∧
      ((lent t = false ∧ v = some (.int 0) ∧ XQ M' h (T1.set i (lendT t c (nw + tk))) J C (tellB t.2.2.2.2.2 (t.1, 1) 16 B) W tp nw) ∨
       (lent t = true ∧ inT t c ∧ v = some (.int (-2)) ∧ XQ M' h T1 J C B W tp nw) ∨
       (lent t = true ∧ ¬ inT t c ∧ t.2.1.length = 5 ∧ v = some (.int (-3)) ∧ XQ M' h T1 J C B W tp nw) ∨
       (lent t = true ∧ ¬ inT t c ∧ t.2.1.length < 5 ∧ v = some (.int (nI (t.2.1.length + 1))) ∧ XQ M' h (T1.set i (addW t (c, tk, nw))) J C B W tp nw)))) := by
    intro M' e hb
    refine g_seq s_LH_want_15 rfl ?_
    exact g_iret rfl d_LH_want_16 (Or.inl ⟨hb, rfl, e⟩)
  refine g_seq s_LH_want_0 rfl ?_
  refine g_invV (k2 := 20) (n2 := 1500) l_LH_47 d_LH_want_2 rfl ⟨rfl, Nat.le_of_ble_eq_true rfl, Nat.le_of_ble_eq_true rfl⟩ (hH) (x_hasNameAnd hH) (by first | omega | (simp <;> omega)) (by first | omega | (simp <;> omega)) ?_
  rintro v M1 ⟨rfl, rfl⟩
  refine g_if_eq (tgt := 15) d_LH_want_5 (by decide) (fun h1 => ?_) (fun h1 => ?_)
  · skip
    exact bad _ rfl (fun q => of_decide_eq_false (b2i_0.mp h1) q.1)
  · skip
    have ok1 : tp ≠ 0 ∧ 0 ≤ c ∧ c < 16 := of_decide_eq_true (b2i_n.mp h1)
    refine g_seq s_LH_want_8 rfl ?_
    refine g_invS (k2 := 20) (n2 := 1500) l_LH_51 d_LH_want_9 rfl ⟨rfl, Nat.le_of_ble_eq_true rfl, Nat.le_of_ble_eq_true rfl⟩ (x_isLeaseTime) (by first | omega | (simp <;> omega)) (by first | omega | (simp <;> omega)) ?_
    rintro v M2 ⟨rfl, rfl⟩
    refine g_if_ne (tgt := 17) d_LH_want_12 (by decide) (fun h2 => ?_) (fun h2 => ?_)
    · skip
      have ok2 : 1 ≤ tk ∧ tk ≤ 100 := of_decide_eq_true (b2i_n.mp h2)
      refine g_seq s_LH_want_17 rfl ?_
      refine g_get f_LH_35 d_LH_want_19 (hH) rfl ?_
      refine g_invV (k2 := 17) (n2 := 459) l_LH_54 d_LH_want_22 rfl ⟨rfl, Nat.le_of_ble_eq_true rfl, Nat.le_of_ble_eq_true rfl⟩ (hH) (x_foat hP hlen) (by first | omega | (simp <;> omega)) (by first | omega | (simp <;> omega)) ?_
      rintro v M3 ⟨T1, i, t, own', ts', x, hA, rfl, hx, hP3⟩
      have hth := hP3.at hA.1 hx
      obtain ⟨r, hc3⟩ := hth.cell
      have hrow3 : t.2.1.length ≤ 5 := by
        rcases hA.2 with ⟨-, e⟩ | ⟨-, -, -, e⟩
        · rw [e] at hA; exact hrow i t hA.1
        · rw [e]; exact Nat.zero_le _
      refine g_seq s_LH_want_25 rfl ?_
      refine g_ifnonnull (tgt := 32) d_LH_want_27 (by decide) ?_
      refine g_seq s_LH_want_32 rfl ?_
      refine g_invV (k2 := 17) (n2 := 459) l_LH_58 d_LH_want_33 rfl ⟨rfl, Nat.le_of_ble_eq_true rfl, Nat.le_of_ble_eq_true rfl⟩ (hc3) (t_isLent hc3) (by first | omega | (simp <;> omega)) (by first | omega | (simp <;> omega)) ?_
      rintro v M4 ⟨rfl, rfl⟩
      refine g_if_eq (tgt := 47) d_LH_want_36 (by decide) (fun h3 => ?_) (fun h3 => ?_)
      · skip
        have hl : lent t = false := b2i_0.mp h3
        refine g_seq s_LH_want_47 rfl ?_
        refine g_invV (k2 := 0) (n2 := 0) l_LH_68 d_LH_want_52 rfl ⟨rfl, Nat.le_of_ble_eq_true rfl, Nat.le_of_ble_eq_true rfl⟩ (hP3.1) (x_lend hP3.1 hc3 hP3.2.2.2.2.1 h8) (by first | omega | (simp <;> omega)) (by first | omega | (simp <;> omega)) ?_
        rintro v M5 ⟨rfl, hK, hc5, hB5⟩
        refine g_seq s_LH_want_55 rfl ?_
        exact g_iret rfl d_LH_want_56 (Or.inr ⟨⟨ok1, ok2⟩, T1, i, t, hA, Or.inl ⟨hl, rfl, own', aT, aJ, aC, aB, aW, ts', hP3.told hx hth hK hc5 hc3 rfl hB5⟩⟩)
      · skip
        have hl : lent t = true := b2i_n.mp h3
        refine g_seq s_LH_want_39 rfl ?_
        refine g_invV (k2 := 0) (n2 := 0) l_LH_64 d_LH_want_43 rfl ⟨rfl, Nat.le_of_ble_eq_true rfl, Nat.le_of_ble_eq_true rfl⟩ (hP3.1) (x_lineUp hP3.1 hth hrow3) (by first | omega | (simp <;> omega)) (by first | omega | (simp <;> omega)) ?_
        rintro v M5 (⟨e1, rfl, rfl⟩ | ⟨e1, e2, rfl, rfl⟩ | ⟨e1, e2, rfl, e3, e4⟩)
        · skip
          exact g_iret rfl d_LH_want_46 (Or.inr ⟨⟨ok1, ok2⟩, T1, i, t, hA, Or.inr (Or.inl ⟨hl, e1, rfl, own', aT, aJ, aC, aB, aW, ts', hP3⟩)⟩)
        · skip
          exact g_iret rfl d_LH_want_46 (Or.inr ⟨⟨ok1, ok2⟩, T1, i, t, hA, Or.inr (Or.inr (Or.inl ⟨hl, e1, e2, rfl, own', aT, aJ, aC, aB, aW, ts', hP3⟩))⟩)
        · obtain ⟨aw, f, w1, w2, w3⟩ := id hP3.2.2.2.2.2
          have n : ∀ {k q : Nat}, k ≠ 101 → ¬ (k = 101 ∧ own' q = (3, x)) := fun n1 hh => n1 hh.1
          have hX5 := hP3.thing (aw := aw) hx (e4.wk (fun k q hh => Or.inr (Or.inl ⟨hh.1, Or.inr hh.2⟩))) e3 (hP3.2.2.2.2.1.keep e4 (fun _ => n (by decide)) (fun _ => n (by decide)) (n (by decide)) (fun r i hr hh => by rw [hr] at hh; cases hh.2)) (hP3.2.2.2.2.2.keep e4 (n (by decide)) (fun _ => n (by decide)))
          exact g_iret rfl d_LH_want_46 (Or.inr ⟨⟨ok1, ok2⟩, T1, i, t, hA, Or.inr (Or.inr (Or.inr ⟨hl, e1, e2, rfl, own', aT, aJ, aC, aB, aW, ts', hX5⟩))⟩)
    · skip
      exact bad _ rfl (fun q => of_decide_eq_false (b2i_0.mp h2) q.2)
end XU
end
section
def delW (t : Th) (j : Nat) : Th := (t.1, t.2.1.eraseIdx j, t.2.2)
abbrev byN (nm : Int32) : Th → Bool := fun t => t.1 == nm
section XV
variable {κ : Nat × Nat} {d : Nat} {M M' : Mm} {a i : Nat} {own : Nat → Nat × Nat} {h aT aJ aC aB aW : Nat} {ts : List Nat} {T : List Th} {J : List Wt} {C : List (Int32 × Int32)} {B B' : Nat → List (Int32 × Int32)} {W W' : List Int32} {tp nw : Int32}
theorem XP.len (hX : XP M own h aT aJ aC aB aW ts T J C B W tp nw) : ts.length = T.length := hX.2.1.2.2.2.1
theorem XP.row {r : Nat} {t : Th} {ws' : List Nat} {row' : List Wt} {ws : List Nat} (hX : XP M own h aT aJ aC aB aW ts T J C B W tp nw) (hx : ts[i]? = some a) (hc : ThC M a r t) (hr : M r = some (eL ws)) (ho : own r = (3, a)) (hR : R2 (WaR M) ws' row') : XP (up M r (eL ws')) own h aT aJ aC aB aW ts (T.set i (t.1, row', t.2.2)) J C B W tp nw := by
  have hK : Kp (fun k q => k = 101 ∧ own q = (3, a)) M (up M r (eL ws')) := up_kp hr ⟨rfl, ho⟩
  have n : ∀ {k q : Nat}, k ≠ 101 → ¬ (k = 101 ∧ own q = (3, a)) := fun n1 hh => n1 hh.1
  obtain ⟨aw, f, w1, w2, w3⟩ := id hX.2.2.2.2.2
  have har : a ≠ r := fun e => by unfold ThC at hc; rw [e, hr] at hc; cases hc
  exact hX.thing (aw := aw) hx (hK.wk (fun k q hh => Or.inr (Or.inl ⟨hh.1, Or.inr hh.2⟩))) ⟨r, ws', (up_n har).trans hc, up_s, ho, hR.mono (fun x y _ hw => hK x _ hw (n (k := 2) (by decide)))⟩ (hX.2.2.2.2.1.keep hK (fun _ => n (by decide)) (fun _ => n (by decide)) (n (by decide)) (fun r i hr hh => by rw [hr] at hh; cases hh.2)) (hX.2.2.2.2.2.keep hK (n (by decide)) (fun _ => n (by decide)))
theorem x_free {c : Int32} (hX : XQ M h T J C B W tp nw) (hlen : T.length ≤ 512) (h8 : ∀ i, i < 16 → (B i).length ≤ 8) (hrow : ∀ (i : Nat) (t : Th), T[i]? = some t → t.2.1.length ≤ 5) (hW : W.length < 512) : G κ m_LH_free (d + 11) M 0 [some (.ref h), some (.int c), none] [] 17 418 (fun v M' =>
    (¬ ((tp ≠ 0 ∧ 0 ≤ c ∧ c < 16) ∧ ∃ i t, FI (byN tp) T (some i) ∧ T[i]? = some t ∧ t.2.2.1 = c) ∧ v = some (.int (-1)) ∧ M' = M) ∨
    ((tp ≠ 0 ∧ 0 ≤ c ∧ c < 16) ∧ ∃ i t, FI (byN tp) T (some i) ∧ T[i]? = some t ∧ t.2.2.1 = c ∧ v = some (.int (endT nw t).2.2.1) ∧ XQ M' h (T.set i (endT nw t)) J C (tellB t.2.2.2.2.2 (t.1, endK t) 16 B) (endW nw t W) tp nw)) := by
  obtain ⟨own, aT, aJ, aC, aB, aW, ts, hP⟩ := hX
  have hH := hP.1
  have htl := hP.len
  have bad : ∀ M', M' = M → ¬ ((tp ≠ 0 ∧ 0 ≤ c ∧ c < 16) ∧ ∃ i t, FI (byN tp) T (some i) ∧ T[i]? = some t ∧ t.2.2.1 = c) → G κ m_LH_free (d + 11) M' 5 [some (.ref h), some (.int c), none] [.null] 17 418 (fun v M' =>
    (¬ ((tp ≠ 0 ∧ 0 ≤ c ∧ c < 16) ∧ ∃ i t, FI (byN tp) T (some i) ∧ T[i]? = some t ∧ t.2.2.1 = c) ∧ v = some (.int (-1)) ∧ M' = M) ∨
    ((tp ≠ 0 ∧ 0 ≤ c ∧ c < 16) ∧ ∃ i t, FI (byN tp) T (some i) ∧ T[i]? = some t ∧ t.2.2.1 = c ∧ v = some (.int (endT nw t).2.2.1) ∧ XQ M' h (T.set i (endT nw t)) J C (tellB t.2.2.2.2.2 (t.1, endK t) 16 B) (endW nw t W) tp nw)) := by
    intro M' e hb
    refine g_seq s_LH_free_5 rfl ?_
    refine g_ifnonnullN d_LH_free_7 ?_
    refine g_seq s_LH_free_10 rfl ?_
    exact g_iret rfl d_LH_free_11 (Or.inl ⟨hb, rfl, e⟩)
  have uniq : ∀ i j, FI (byN tp) T (some i) → FI (byN tp) T (some j) → i = j := by
    rintro i j ⟨x, hx1, hx2, hx3⟩ ⟨y, hy1, hy2, hy3⟩
    rcases Nat.lt_trichotomy i j with q | q | q
    · rw [hy3 i x q hx1] at hx2; cases hx2
    · exact q
    · rw [hx3 j y q hy1] at hy2; cases hy2
  refine g_seq s_LH_free_0 rfl ?_
  refine g_invV (k2 := 17) (n2 := 418) l_LH_72 d_LH_free_2 rfl ⟨rfl, Nat.le_of_ble_eq_true rfl, Nat.le_of_ble_eq_true rfl⟩ (hH) (x_findThingHeldBy hH hP.2.1 (by omega)) (by first | omega | (simp <;> omega)) (by first | omega | (simp <;> omega)) ?_
  rintro v M1 ⟨rfl, ⟨rfl, hb⟩ | ⟨hok, o, hFI, ⟨rfl, rfl⟩ | ⟨i, t, x, rfl, ht, hx, ⟨hc, rfl⟩ | ⟨hc, rfl⟩⟩⟩⟩
  · exact bad _ rfl (fun q => hb q.1)
  · refine bad _ rfl ?_
    rintro ⟨-, i, t, ⟨y, hy1, hy2, hy3⟩, h2, h3⟩
    exact absurd (hy2.symm.trans (hFI i y hy1)) (by decide)
  · have hth := hP.at ht hx
    refine g_seq s_LH_free_5 rfl ?_
    refine g_ifnonnull (tgt := 12) d_LH_free_7 (by decide) ?_
    refine g_seq s_LH_free_12 rfl ?_
    refine g_invV (k2 := 0) (n2 := 0) l_LH_75 d_LH_free_14 rfl ⟨rfl, Nat.le_of_ble_eq_true rfl, Nat.le_of_ble_eq_true rfl⟩ (hH) (x_endLease hH hth hP.2.2.2.2.1 h8 hP.2.2.2.2.2 hW (by have := hrow i t ht; omega)) (by first | omega | (simp <;> omega)) (by first | omega | (simp <;> omega)) ?_
    rintro v M2 ⟨rfl, ⟨aw, -, hK⟩, h1, h2, h3⟩
    obtain ⟨r2, hc2⟩ := h1.cell
    refine g_seq s_LH_free_17 rfl ?_
    refine g_get f_LH_79 d_LH_free_18 (hc2) rfl ?_
    exact g_iret rfl d_LH_free_21 (Or.inr ⟨hok, i, t, hFI, ht, hc, rfl, own, aT, aJ, aC, aB, aW, ts, hP.thing hx hK h1 h2 h3⟩)
  · refine bad _ rfl ?_
    rintro ⟨-, i', t', h1, h2, h3⟩
    have := uniq i' i h1 hFI
    subst this
    rw [ht] at h2
    cases h2
    exact hc h3
theorem x_renew {c tk : Int32} (hX : XQ M h T J C B W tp nw) (hlen : T.length ≤ 512) (h8 : ∀ i, i < 16 → (B i).length ≤ 8) : G κ m_LH_renew (d + 10) M 0 [some (.ref h), some (.int c), some (.int tk), none] [] 17 418 (fun v M' =>
    (¬ ((tp ≠ 0 ∧ 0 ≤ c ∧ c < 16) ∧ (1 ≤ tk ∧ tk ≤ 100) ∧ ∃ i t, FI (byN tp) T (some i) ∧ T[i]? = some t ∧ t.2.2.1 = c) ∧ v = some (.int (-1)) ∧ M' = M) ∨
    ((tp ≠ 0 ∧ 0 ≤ c ∧ c < 16) ∧ (1 ≤ tk ∧ tk ≤ 100) ∧ ∃ i t, FI (byN tp) T (some i) ∧ T[i]? = some t ∧ t.2.2.1 = c ∧ v = some (.int (nw + tk)) ∧ XQ M' h (T.set i (lendT t c (nw + tk))) J C (tellB t.2.2.2.2.2 (t.1, 3) 16 B) W tp nw)) := by
  obtain ⟨own, aT, aJ, aC, aB, aW, ts, hP⟩ := hX
  have hH := hP.1
  have htl := hP.len
  have fin : ∀ M' o3, M' = M → ¬ ((tp ≠ 0 ∧ 0 ≤ c ∧ c < 16) ∧ (1 ≤ tk ∧ tk ≤ 100) ∧ ∃ i t, FI (byN tp) T (some i) ∧ T[i]? = some t ∧ t.2.2.1 = c) → G κ m_LH_renew (d + 10) M' 17 [some (.ref h), some (.int c), some (.int tk), o3] [] 17 418 (fun v M' =>
    (¬ ((tp ≠ 0 ∧ 0 ≤ c ∧ c < 16) ∧ (1 ≤ tk ∧ tk ≤ 100) ∧ ∃ i t, FI (byN tp) T (some i) ∧ T[i]? = some t ∧ t.2.2.1 = c) ∧ v = some (.int (-1)) ∧ M' = M) ∨
    ((tp ≠ 0 ∧ 0 ≤ c ∧ c < 16) ∧ (1 ≤ tk ∧ tk ≤ 100) ∧ ∃ i t, FI (byN tp) T (some i) ∧ T[i]? = some t ∧ t.2.2.1 = c ∧ v = some (.int (nw + tk)) ∧ XQ M' h (T.set i (lendT t c (nw + tk))) J C (tellB t.2.2.2.2.2 (t.1, 3) 16 B) W tp nw)) := by
    intro M' o3 e hb
    refine g_seq s_LH_renew_17 rfl ?_
    exact g_iret rfl d_LH_renew_18 (Or.inl ⟨hb, rfl, e⟩)
  have bad : ∀ M', M' = M → ¬ ((tp ≠ 0 ∧ 0 ≤ c ∧ c < 16) ∧ ∃ i t, FI (byN tp) T (some i) ∧ T[i]? = some t ∧ t.2.2.1 = c) → G κ m_LH_renew (d + 10) M' 5 [some (.ref h), some (.int c), some (.int tk), none] [.null] 17 418 (fun v M' =>
    (¬ ((tp ≠ 0 ∧ 0 ≤ c ∧ c < 16) ∧ (1 ≤ tk ∧ tk ≤ 100) ∧ ∃ i t, FI (byN tp) T (some i) ∧ T[i]? = some t ∧ t.2.2.1 = c) ∧ v = some (.int (-1)) ∧ M' = M) ∨
    ((tp ≠ 0 ∧ 0 ≤ c ∧ c < 16) ∧ (1 ≤ tk ∧ tk ≤ 100) ∧ ∃ i t, FI (byN tp) T (some i) ∧ T[i]? = some t ∧ t.2.2.1 = c ∧ v = some (.int (nw + tk)) ∧ XQ M' h (T.set i (lendT t c (nw + tk))) J C (tellB t.2.2.2.2.2 (t.1, 3) 16 B) W tp nw)) := by
    intro M' e hb
    refine g_seq s_LH_renew_5 rfl ?_
    refine g_ifnullN (tgt := 17) d_LH_renew_7 (by decide) ?_
    exact fin _ _ e (fun q => hb ⟨q.1, q.2.2⟩)
  have uniq : ∀ i j, FI (byN tp) T (some i) → FI (byN tp) T (some j) → i = j := by
    rintro i j ⟨x, hx1, hx2, hx3⟩ ⟨y, hy1, hy2, hy3⟩
    rcases Nat.lt_trichotomy i j with q | q | q
    · rw [hy3 i x q hx1] at hx2; cases hx2
    · exact q
    · rw [hx3 j y q hy1] at hy2; cases hy2
  refine g_seq s_LH_renew_0 rfl ?_
  refine g_invV (k2 := 17) (n2 := 418) l_LH_72 d_LH_renew_2 rfl ⟨rfl, Nat.le_of_ble_eq_true rfl, Nat.le_of_ble_eq_true rfl⟩ (hH) (x_findThingHeldBy hH hP.2.1 (by omega)) (by first | omega | (simp <;> omega)) (by first | omega | (simp <;> omega)) ?_
  rintro v M1 ⟨rfl, ⟨rfl, hb⟩ | ⟨hok, o, hFI, ⟨rfl, rfl⟩ | ⟨i, t, x, rfl, ht, hx, ⟨hc, rfl⟩ | ⟨hc, rfl⟩⟩⟩⟩
  · exact bad _ rfl (fun q => hb q.1)
  · refine bad _ rfl ?_
    rintro ⟨-, i, t, ⟨y, hy1, hy2, hy3⟩, h2, h3⟩
    exact absurd (hy2.symm.trans (hFI i y hy1)) (by decide)
  · have hth := hP.at ht hx
    obtain ⟨r, hc1⟩ := hth.cell
    refine g_seq s_LH_renew_5 rfl ?_
    refine g_ifnull d_LH_renew_7 ?_
    refine g_seq s_LH_renew_10 rfl ?_
    refine g_invS (k2 := 17) (n2 := 418) l_LH_51 d_LH_renew_11 rfl ⟨rfl, Nat.le_of_ble_eq_true rfl, Nat.le_of_ble_eq_true rfl⟩ (x_isLeaseTime) (by first | omega | (simp <;> omega)) (by first | omega | (simp <;> omega)) ?_
    rintro v M2 ⟨rfl, rfl⟩
    refine g_if_ne (tgt := 19) d_LH_renew_14 (by decide) (fun h2 => ?_) (fun h2 => ?_)
    · skip
      have ok2 : 1 ≤ tk ∧ tk ≤ 100 := of_decide_eq_true (b2i_n.mp h2)
      refine g_seq s_LH_renew_19 rfl ?_
      refine g_invV (k2 := 0) (n2 := 0) l_LH_68 d_LH_renew_24 rfl ⟨rfl, Nat.le_of_ble_eq_true rfl, Nat.le_of_ble_eq_true rfl⟩ (hH) (x_lend hH hc1 hP.2.2.2.2.1 h8) (by first | omega | (simp <;> omega)) (by first | omega | (simp <;> omega)) ?_
      rintro v M3 ⟨rfl, hK, hc3, hB3⟩
      refine g_seq s_LH_renew_27 rfl ?_
      refine g_get f_LH_82 d_LH_renew_28 (hc3) rfl ?_
      exact g_iret rfl d_LH_renew_31 (Or.inr ⟨hok, ok2, i, t, hFI, ht, hc, rfl, own, aT, aJ, aC, aB, aW, ts, hP.told hx hth hK hc3 hc1 rfl hB3⟩)
    · skip
      exact fin _ _ rfl (fun q => of_decide_eq_false (b2i_0.mp h2) q.2.1)
  · refine bad _ rfl ?_
    rintro ⟨-, i', t', h1, h2, h3⟩
    have := uniq i' i h1 hFI
    subst this
    rw [ht] at h2
    cases h2
    exact hc h3
theorem x_leave {c : Int32} (hX : XQ M h T J C B W tp nw) (hlen : T.length ≤ 512) (hrow : ∀ (i : Nat) (t : Th), T[i]? = some t → t.2.1.length ≤ 5) : G κ m_LH_leave (d + 4) M 0 [some (.ref h), some (.int c), none, none] [] 0 0 (fun v M' =>
    (¬ (tp ≠ 0 ∧ 0 ≤ c ∧ c < 16) ∧ v = some (.int (-1)) ∧ M' = M) ∨
    ((tp ≠ 0 ∧ 0 ≤ c ∧ c < 16) ∧ ∃ o, FI (byN tp) T o ∧ ((o = none ∧ v = some (.int (-2)) ∧ M' = M) ∨ ∃ i t, o = some i ∧ T[i]? = some t ∧ ∃ o2, FI (fun w : Wt => w.1 == c) t.2.1 o2 ∧ ((o2 = none ∧ v = some (.int (-2)) ∧ M' = M) ∨ ∃ j, o2 = some j ∧ v = some (.int (nI (t.2.1.length - 1))) ∧ XQ M' h (T.set i (delW t j)) J C B W tp nw)))) := by
  obtain ⟨own, aT, aJ, aC, aB, aW, ts, hP⟩ := hX
  have hH := hP.1
  have htl := hP.len
  refine g_seq s_LH_leave_0 rfl ?_
  refine g_invV  l_LH_47 d_LH_leave_2 rfl ⟨rfl, Nat.le_of_ble_eq_true rfl, Nat.le_of_ble_eq_true rfl⟩ (hH) (x_hasNameAnd hH) (Nat.le_of_eq (Nat.zero_add _)) (Nat.le_of_eq (Nat.zero_add _)) ?_
  rintro v M1 ⟨rfl, rfl⟩
  refine g_if_ne (tgt := 10) d_LH_leave_5 (by decide) (fun h1 => ?_) (fun h1 => ?_)
  · skip
    have hok : tp ≠ 0 ∧ 0 ≤ c ∧ c < 16 := of_decide_eq_true (b2i_n.mp h1)
    refine g_seq s_LH_leave_10 rfl ?_
    refine g_get f_LH_35 d_LH_leave_12 (hH) rfl ?_
    refine g_invV  l_LH_85 d_LH_leave_15 rfl ⟨rfl, Nat.le_of_ble_eq_true rfl, Nat.le_of_ble_eq_true rfl⟩ (hH) (x_findThing hH hP.2.1.1 hP.2.1.2.2.2 (by omega)) (Nat.le_of_eq (Nat.zero_add _)) (Nat.le_of_eq (Nat.zero_add _)) ?_
    rintro v M2 ⟨o, hFI, rfl, rfl⟩
    cases o with
    | none =>
      rw [Option.bind_none]
      refine g_seq s_LH_leave_18 rfl ?_
      refine g_ifnonnullN d_LH_leave_20 ?_
      refine g_seq s_LH_leave_23 rfl ?_
      exact g_iret rfl d_LH_leave_25 (Or.inr ⟨hok, none, hFI, Or.inl ⟨rfl, rfl, rfl⟩⟩)
    | some i =>
      obtain ⟨t, ht1, ht2, ht3⟩ := id hFI
      obtain ⟨x, hx, r, ws, hc1, hr, ho, hR⟩ := hP.2.1.2.2.2.at ht1
      have h5 := hrow i t ht1
      have hwl : ws.length ≤ 5 := by rw [hR.1]; exact h5
      rw [Option.bind_some, hx]
      refine g_seq s_LH_leave_18 rfl ?_
      refine g_ifnonnull (tgt := 26) d_LH_leave_20 (by decide) ?_
      refine g_seq s_LH_leave_26 rfl ?_
      refine g_invV  l_LH_88 d_LH_leave_28 rfl ⟨rfl, Nat.le_of_ble_eq_true rfl, Nat.le_of_ble_eq_true rfl⟩ (hc1) (t_placeOf hc1 hr hR (by omega)) (Nat.le_of_eq (Nat.zero_add _)) (Nat.le_of_eq (Nat.zero_add _)) ?_
      rintro v M3 ⟨o2, hF2, rfl, rfl⟩
      refine g_seq s_LH_leave_31 rfl ?_
      cases o2 with
      | none =>
        refine g_icmp_ne (tgt := 41) d_LH_leave_35 (by decide) (fun hbr => absurd hbr (fun h => h rfl)) (fun hbr => ?_)
        refine g_seq s_LH_leave_38 rfl ?_
        exact g_iret rfl d_LH_leave_40 (Or.inr ⟨hok, some i, hFI, Or.inr ⟨i, t, rfl, ht1, none, hF2, Or.inl ⟨rfl, rfl, rfl⟩⟩⟩)
      | some j =>
        obtain ⟨w, hw1, hw2, hw3⟩ := id hF2
        have hjl := (List.getElem?_eq_some_iff.mp hw1).1
        obtain ⟨y, hy, hyw⟩ := hR.at hw1
        have hne : ¬ oI (some j) = -2 := by
          show ¬ nI j = -2
          intro e
          have h1 := nI_lt0 (j := j) (by omega)
          rw [e] at h1
          exact h1 (by decide)
        refine g_icmp_ne (tgt := 41) d_LH_leave_35 (by decide) (fun hbr => ?_) (fun hbr => absurd hbr (hne))
        refine g_seq s_LH_leave_41 rfl ?_
        refine g_get f_LH_91 d_LH_leave_42 (hc1) rfl ?_
        refine g_seq s_LH_leave_45 rfl ?_
        refine g_invL  l_LH_94 d_LH_leave_46 rfl ⟨rfl, Nat.le_of_ble_eq_true rfl, Nat.le_of_ble_eq_true rfl⟩ (hr) (al_remove hr hy (by omega) (fun y hy => by obtain ⟨z, hz⟩ := hR.mem hy; exact can_wa hz)) (Nat.le_of_eq (Nat.zero_add _)) (Nat.le_of_eq (Nat.zero_add _)) ?_
        rintro v M4 ⟨rfl, rfl⟩
        have har : x ≠ r := fun e => by unfold ThC at hc1; rw [e, hr] at hc1; cases hc1
        refine g_seq s_LH_leave_49 rfl ?_
        refine g_get f_LH_91 d_LH_leave_51 ((up_n har).trans hc1) rfl ?_
        refine g_invL  l_LH_98 d_LH_leave_54 rfl ⟨rfl, Nat.le_of_ble_eq_true rfl, Nat.le_of_ble_eq_true rfl⟩ (up_s) (al_size up_s) (Nat.le_of_eq (Nat.zero_add _)) (Nat.le_of_eq (Nat.zero_add _)) ?_
        rintro v M5 ⟨rfl, rfl⟩
        have hle : (ws.eraseIdx j).length = t.2.1.length - 1 := by rw [List.length_eraseIdx_of_lt (by rw [hR.1]; exact hjl), hR.1]
        exact g_iret rfl d_LH_leave_57 (Or.inr ⟨hok, some i, hFI, Or.inr ⟨i, t, rfl, ht1, some j, hF2, Or.inr ⟨j, rfl, by rw [hle], own, aT, aJ, aC, aB, aW, ts, hP.row hx hc1 hr ho (hR.erase j)⟩⟩⟩)
  · skip
    refine g_seq s_LH_leave_8 rfl ?_
    exact g_iret rfl d_LH_leave_9 (Or.inl ⟨of_decide_eq_false (b2i_0.mp h1), rfl, rfl⟩)
theorem x_holder (hX : XQ M h T J C B W tp nw) (hlen : T.length ≤ 512) : G κ m_LH_holder (d + 4) M 0 [some (.ref h), none] [] 0 0 (fun v M' => M' = M ∧ ((tp = 0 ∧ v = some (.int (-1))) ∨ (tp ≠ 0 ∧ ∃ o, FI (byN tp) T o ∧ ((o = none ∧ v = some (.int (-2))) ∨ ∃ i t, o = some i ∧ T[i]? = some t ∧ v = some (.int t.2.2.1))))) := by
  obtain ⟨own, aT, aJ, aC, aB, aW, ts, hP⟩ := hX
  have hH := hP.1
  have htl := hP.len
  refine g_seq s_LH_holder_0 rfl ?_
  refine g_get f_LH_35 d_LH_holder_1 (hH) rfl ?_
  refine g_if_ne (tgt := 9) d_LH_holder_4 (by decide) (fun h1 => ?_) (fun h1 => ?_)
  · skip
    refine g_seq s_LH_holder_9 rfl ?_
    refine g_get f_LH_35 d_LH_holder_11 (hH) rfl ?_
    refine g_invV  l_LH_85 d_LH_holder_14 rfl ⟨rfl, Nat.le_of_ble_eq_true rfl, Nat.le_of_ble_eq_true rfl⟩ (hH) (x_findThing hH hP.2.1.1 hP.2.1.2.2.2 (by omega)) (Nat.le_of_eq (Nat.zero_add _)) (Nat.le_of_eq (Nat.zero_add _)) ?_
    rintro v M2 ⟨o, hFI, rfl, rfl⟩
    cases o with
    | none =>
      rw [Option.bind_none]
      refine g_seq s_LH_holder_17 rfl ?_
      refine g_ifnonnullN d_LH_holder_19 ?_
      refine g_seq s_LH_holder_22 rfl ?_
      exact g_iret rfl d_LH_holder_31 (⟨rfl, Or.inr ⟨h1, none, hFI, Or.inl ⟨rfl, rfl⟩⟩⟩)
    | some i =>
      obtain ⟨t, ht1, ht2, ht3⟩ := id hFI
      obtain ⟨x, hx, r, ws, hc1, hr, ho, hR⟩ := hP.2.1.2.2.2.at ht1
      rw [Option.bind_some, hx]
      refine g_seq s_LH_holder_17 rfl ?_
      refine g_ifnonnull (tgt := 27) d_LH_holder_19 (by decide) ?_
      refine g_seq s_LH_holder_27 rfl ?_
      refine g_get f_LH_79 d_LH_holder_28 (hc1) rfl ?_
      exact g_iret rfl d_LH_holder_31 (⟨rfl, Or.inr ⟨h1, some i, hFI, Or.inr ⟨i, t, rfl, ht1, rfl⟩⟩⟩)
  · skip
    refine g_seq s_LH_holder_7 rfl ?_
    exact g_iret rfl d_LH_holder_8 (⟨rfl, Or.inl ⟨h1, rfl⟩⟩)
theorem x_left (hX : XQ M h T J C B W tp nw) (hlen : T.length ≤ 512) : G κ m_LH_left (d + 4) M 0 [some (.ref h), none] [] 0 0 (fun v M' => M' = M ∧ ((tp = 0 ∧ v = some (.int (-1))) ∨ (tp ≠ 0 ∧ ∃ o, FI (byN tp) T o ∧ ((o = none ∧ v = some (.int (-2))) ∨ ∃ i t, o = some i ∧ T[i]? = some t ∧ ((lent t = false ∧ v = some (.int (-2))) ∨ (lent t = true ∧ v = some (.int (t.2.2.2.1 - nw)))))))) := by
  obtain ⟨own, aT, aJ, aC, aB, aW, ts, hP⟩ := hX
  have hH := hP.1
  have htl := hP.len
  refine g_seq s_LH_left_0 rfl ?_
  refine g_get f_LH_35 d_LH_left_1 (hH) rfl ?_
  refine g_if_ne (tgt := 9) d_LH_left_4 (by decide) (fun h1 => ?_) (fun h1 => ?_)
  · skip
    refine g_seq s_LH_left_9 rfl ?_
    refine g_get f_LH_35 d_LH_left_11 (hH) rfl ?_
    refine g_invV  l_LH_85 d_LH_left_14 rfl ⟨rfl, Nat.le_of_ble_eq_true rfl, Nat.le_of_ble_eq_true rfl⟩ (hH) (x_findThing hH hP.2.1.1 hP.2.1.2.2.2 (by omega)) (Nat.le_of_eq (Nat.zero_add _)) (Nat.le_of_eq (Nat.zero_add _)) ?_
    rintro v M2 ⟨o, hFI, rfl, rfl⟩
    cases o with
    | none =>
      rw [Option.bind_none]
      refine g_seq s_LH_left_17 rfl ?_
      refine g_ifnullN (tgt := 29) d_LH_left_19 (by decide) ?_
      refine g_seq s_LH_left_29 rfl ?_
      exact g_iret rfl d_LH_left_43 (⟨rfl, Or.inr ⟨h1, none, hFI, Or.inl ⟨rfl, rfl⟩⟩⟩)
    | some i =>
      obtain ⟨t, ht1, ht2, ht3⟩ := id hFI
      obtain ⟨x, hx, r, ws, hc1, hr, ho, hR⟩ := hP.2.1.2.2.2.at ht1
      rw [Option.bind_some, hx]
      refine g_seq s_LH_left_17 rfl ?_
      refine g_ifnull d_LH_left_19 ?_
      refine g_seq s_LH_left_22 rfl ?_
      refine g_invV  l_LH_58 d_LH_left_23 rfl ⟨rfl, Nat.le_of_ble_eq_true rfl, Nat.le_of_ble_eq_true rfl⟩ (hc1) (t_isLent hc1) (Nat.le_of_eq (Nat.zero_add _)) (Nat.le_of_eq (Nat.zero_add _)) ?_
      rintro v M3 ⟨rfl, rfl⟩
      refine g_if_ne (tgt := 34) d_LH_left_26 (by decide) (fun h2 => ?_) (fun h2 => ?_)
      · skip
        refine g_seq s_LH_left_34 rfl ?_
        refine g_get f_LH_82 d_LH_left_35 (hc1) rfl ?_
        refine g_seq s_LH_left_38 rfl ?_
        refine g_get f_LH_39 d_LH_left_39 (hH) rfl ?_
        refine g_seq s_LH_left_42 rfl ?_
        exact g_iret rfl d_LH_left_43 (⟨rfl, Or.inr ⟨h1, some i, hFI, Or.inr ⟨i, t, rfl, ht1, Or.inr ⟨b2i_n.mp h2, rfl⟩⟩⟩⟩)
      · skip
        refine g_seq s_LH_left_29 rfl ?_
        exact g_iret rfl d_LH_left_43 (⟨rfl, Or.inr ⟨h1, some i, hFI, Or.inr ⟨i, t, rfl, ht1, Or.inl ⟨b2i_0.mp h2, rfl⟩⟩⟩⟩)
  · skip
    refine g_seq s_LH_left_7 rfl ?_
    exact g_iret rfl d_LH_left_8 (⟨rfl, Or.inl ⟨h1, rfl⟩⟩)
theorem x_waiting {c : Int32} (hX : XQ M h T J C B W tp nw) (hlen : T.length ≤ 512) (hrow : ∀ (i : Nat) (t : Th), T[i]? = some t → t.2.1.length ≤ 5) : G κ m_LH_waiting (d + 4) M 0 [some (.ref h), some (.int c), none] [] 0 0 (fun v M' => M' = M ∧ ((tp = 0 ∧ v = some (.int (-1))) ∨ (tp ≠ 0 ∧ ∃ o, FI (byN tp) T o ∧ ((o = none ∧ v = some (.int (-2))) ∨ ∃ i t, o = some i ∧ T[i]? = some t ∧ ((∃ j w, c = nI j ∧ t.2.1[j]? = some w ∧ v = some (.int w.1)) ∨ ((∀ j, j < t.2.1.length → c ≠ nI j) ∧ v = some (.int (-2)))))))) := by
  obtain ⟨own, aT, aJ, aC, aB, aW, ts, hP⟩ := hX
  have hH := hP.1
  have htl := hP.len
  refine g_seq s_LH_waiting_0 rfl ?_
  refine g_get f_LH_35 d_LH_waiting_1 (hH) rfl ?_
  refine g_if_ne (tgt := 9) d_LH_waiting_4 (by decide) (fun h1 => ?_) (fun h1 => ?_)
  · skip
    refine g_seq s_LH_waiting_9 rfl ?_
    refine g_get f_LH_35 d_LH_waiting_11 (hH) rfl ?_
    refine g_invV  l_LH_85 d_LH_waiting_14 rfl ⟨rfl, Nat.le_of_ble_eq_true rfl, Nat.le_of_ble_eq_true rfl⟩ (hH) (x_findThing hH hP.2.1.1 hP.2.1.2.2.2 (by omega)) (Nat.le_of_eq (Nat.zero_add _)) (Nat.le_of_eq (Nat.zero_add _)) ?_
    rintro v M2 ⟨o, hFI, rfl, rfl⟩
    cases o with
    | none =>
      rw [Option.bind_none]
      refine g_seq s_LH_waiting_17 rfl ?_
      refine g_ifnullN (tgt := 37) d_LH_waiting_19 (by decide) ?_
      refine g_seq s_LH_waiting_37 rfl ?_
      exact g_iret rfl d_LH_waiting_39 (⟨rfl, Or.inr ⟨h1, none, hFI, Or.inl ⟨rfl, rfl⟩⟩⟩)
    | some i =>
      obtain ⟨t, ht1, ht2, ht3⟩ := id hFI
      obtain ⟨x, hx, r, ws, hc1, hr, ho, hR⟩ := hP.2.1.2.2.2.at ht1
      have h5 := hrow i t ht1
      have hwl : ws.length = t.2.1.length := hR.1
      rw [Option.bind_some, hx]
      refine g_seq s_LH_waiting_17 rfl ?_
      refine g_ifnull d_LH_waiting_19 ?_
      refine g_seq s_LH_waiting_22 rfl ?_
      refine g_if_lt (tgt := 37) d_LH_waiting_23 (by decide) (fun h2 => ?_) (fun h2 => ?_)
      · skip
        refine g_seq s_LH_waiting_37 rfl ?_
        exact g_iret rfl d_LH_waiting_39 (⟨rfl, Or.inr ⟨h1, some i, hFI, Or.inr ⟨i, t, rfl, ht1, Or.inr ⟨fun j hj e => by rw [e] at h2; exact nI_lt0 (by omega) h2, rfl⟩⟩⟩⟩)
      · skip
        obtain ⟨j, hj1, hj2⟩ := nI_of h2
        subst hj2
        refine g_seq s_LH_waiting_26 rfl ?_
        refine g_get f_LH_91 d_LH_waiting_28 (hc1) rfl ?_
        refine g_invL  l_LH_98 d_LH_waiting_31 rfl ⟨rfl, Nat.le_of_ble_eq_true rfl, Nat.le_of_ble_eq_true rfl⟩ (hr) (al_size hr) (Nat.le_of_eq (Nat.zero_add _)) (Nat.le_of_eq (Nat.zero_add _)) ?_
        rintro v M3 ⟨rfl, rfl⟩
        refine g_icmp_lt (tgt := 40) d_LH_waiting_34 (by decide) (fun h3 => ?_) (fun h3 => ?_)
        · skip
          have hjl : j < t.2.1.length := by rw [← hwl]; exact (nI_ltI hj1 (by omega)).mp h3
          have hw1 := List.getElem?_eq_getElem hjl
          generalize t.2.1[j] = w at hw1
          obtain ⟨y, hy, hyw⟩ := hR.at hw1
          refine g_seq s_LH_waiting_40 rfl ?_
          refine g_get f_LH_91 d_LH_waiting_41 (hc1) rfl ?_
          refine g_seq s_LH_waiting_44 rfl ?_
          refine g_invL  l_LH_106 d_LH_waiting_45 rfl ⟨rfl, Nat.le_of_ble_eq_true rfl, Nat.le_of_ble_eq_true rfl⟩ (hr) (al_get hr hy (by omega)) (Nat.le_of_eq (Nat.zero_add _)) (Nat.le_of_eq (Nat.zero_add _)) ?_
          rintro v M4 ⟨rfl, rfl⟩
          refine g_cast cl_LH_109 rfl ca_Waiter_Waiter d_LH_waiting_48 (hyw) ?_
          refine g_invV  l_LH_111 d_LH_waiting_51 rfl ⟨rfl, Nat.le_of_ble_eq_true rfl, Nat.le_of_ble_eq_true rfl⟩ (hyw) (w_client hyw) (Nat.le_of_eq (Nat.zero_add _)) (Nat.le_of_eq (Nat.zero_add _)) ?_
          rintro v M5 ⟨rfl, rfl⟩
          exact g_iret rfl d_LH_waiting_54 (⟨rfl, Or.inr ⟨h1, some i, hFI, Or.inr ⟨i, t, rfl, ht1, Or.inl ⟨j, w, rfl, hw1, rfl⟩⟩⟩⟩)
        · skip
          refine g_seq s_LH_waiting_37 rfl ?_
          exact g_iret rfl d_LH_waiting_39 (⟨rfl, Or.inr ⟨h1, some i, hFI, Or.inr ⟨i, t, rfl, ht1, Or.inr ⟨fun j' hj' e => h3 (by rw [e]; exact nI_lt (by omega) (by omega)), rfl⟩⟩⟩⟩)
  · skip
    refine g_seq s_LH_waiting_7 rfl ?_
    exact g_iret rfl d_LH_waiting_8 (⟨rfl, Or.inl ⟨h1, rfl⟩⟩)
theorem x_first (hX : XQ M h T J C B W tp nw) (hlen : T.length ≤ 512) : G κ m_LH_first (d + 4) M 0 [some (.ref h), none] [] 0 0 (fun v M' => ∃ o, MinT T T.length o ∧ ((o = none ∧ v = some (.int (-2)) ∧ M' = M) ∨ ∃ i t, o = some i ∧ T[i]? = some t ∧ v = some (.int t.2.2.1) ∧ XQ M' h T J C B W t.1 nw)) := by
  obtain ⟨own, aT, aJ, aC, aB, aW, ts, hP⟩ := hX
  have hH := hP.1
  have htl := hP.len
  refine g_seq s_LH_first_0 rfl ?_
  refine g_invV  l_LH_102 d_LH_first_1 rfl ⟨rfl, Nat.le_of_ble_eq_true rfl, Nat.le_of_ble_eq_true rfl⟩ (hH) (x_findNextToEnd hH hP.2.1.1 hP.2.1.2.2.2 (by omega)) (Nat.le_of_eq (Nat.zero_add _)) (Nat.le_of_eq (Nat.zero_add _)) ?_
  rintro v M2 ⟨o, hMin, rfl, rfl⟩
  cases o with
  | none =>
    rw [Option.bind_none]
    refine g_seq s_LH_first_4 rfl ?_
    refine g_ifnonnullN d_LH_first_6 ?_
    refine g_seq s_LH_first_9 rfl ?_
    exact g_iret rfl d_LH_first_11 (⟨none, hMin, Or.inl ⟨rfl, rfl, rfl⟩⟩)
  | some i =>
    obtain ⟨hi, t, ht1, ht2, ht3⟩ := id hMin
    obtain ⟨x, hx, r, ws, hc1, hr, ho, hR⟩ := hP.2.1.2.2.2.at ht1
    have hhx := hH.nth hc1
    rw [Option.bind_some, hx]
    refine g_seq s_LH_first_4 rfl ?_
    refine g_ifnonnull (tgt := 12) d_LH_first_6 (by decide) ?_
    refine g_seq s_LH_first_12 rfl ?_
    refine g_get f_LH_114 d_LH_first_14 (hc1) rfl ?_
    refine g_put f_LH_35 d_LH_first_17 (hH) rfl rfl rfl ?_
    refine g_seq s_LH_first_20 rfl ?_
    refine g_get f_LH_79 d_LH_first_21 ((up_n hhx.symm).trans hc1) rfl ?_
    exact g_iret rfl d_LH_first_24 (⟨some i, hMin, Or.inr ⟨i, t, rfl, ht1, rfl, own, aT, aJ, aC, aB, aW, ts, hP.house⟩⟩)
end XV
end
section
def insA {α : Type} (xs : List α) (j : Nat) (x : α) : List α := xs.take j ++ x :: xs.drop j
theorem R2.ap {α : Type} {R : Nat → α → Prop} {xs xs' : List Nat} {ys ys' : List α} (h : R2 R xs ys) (h' : R2 R xs' ys') : R2 R (xs ++ xs') (ys ++ ys') := by
  refine ⟨by simp [h.1, h'.1], fun i a b ha hb => ?_⟩
  by_cases hi : i < xs.length
  · rw [List.getElem?_append_left hi] at ha
    rw [List.getElem?_append_left (by rw [← h.1]; exact hi)] at hb
    exact h.2 i a b ha hb
  · rw [List.getElem?_append_right (by omega)] at ha
    rw [List.getElem?_append_right (by rw [← h.1]; omega), ← h.1] at hb
    exact h'.2 _ a b ha hb
theorem R2.take {α : Type} {R : Nat → α → Prop} {xs : List Nat} {ys : List α} (h : R2 R xs ys) (j : Nat) : R2 R (xs.take j) (ys.take j) := by
  refine ⟨by simp [h.1], fun i a b ha hb => ?_⟩
  rw [List.getElem?_take] at ha hb
  split at ha
  · rename_i hij
    rw [if_pos hij] at hb
    exact h.2 i a b ha hb
  · cases ha
theorem R2.drop {α : Type} {R : Nat → α → Prop} {xs : List Nat} {ys : List α} (h : R2 R xs ys) (j : Nat) : R2 R (xs.drop j) (ys.drop j) := by
  refine ⟨by simp [h.1], fun i a b ha hb => ?_⟩
  rw [List.getElem?_drop] at ha hb
  exact h.2 _ a b ha hb
theorem R2.one {α : Type} {R : Nat → α → Prop} {x : Nat} {y : α} (h : R x y) : R2 R [x] [y] := by
  have := (R2.nil (R := R)).snoc h
  exact this
theorem R2.ins {α : Type} {R : Nat → α → Prop} {xs : List Nat} {ys : List α} {x : Nat} {y : α} (h : R2 R xs ys) (j : Nat) (hxy : R x y) : R2 R (insA xs j x) (insA ys j y) := (h.take j).ap ((R2.one hxy).ap (h.drop j))
section XJ
variable {κ : Nat × Nat} {d : Nat} {M M' : Mm} {a i : Nat} {own : Nat → Nat × Nat} {h aT aJ aC aB aW : Nat} {ts : List Nat} {T : List Th} {J J' : List Wt} {C C' : List (Int32 × Int32)} {B B' : Nat → List (Int32 × Int32)} {W W' : List Int32} {tp nw : Int32}
theorem XP.new {q : Nat} {e : EE} (hX : XP M own h aT aJ aC aB aW ts T J C B W tp nw) (hq : M q = none) : XP (up M q e) own h aT aJ aC aB aW ts T J C B W tp nw := by
  obtain ⟨h1, h2, h3, h4, h5, h6⟩ := hX
  have hK : Kp (fun _ _ => False) M (up M q e) := up_kpn hq
  exact ⟨h1.keep hK (fun h => h), h2.keep hK (fun _ _ h => h) (fun _ h => h) (fun _ _ _ h => h) (fun _ _ h => h), h3.keep hK (fun _ h => h) (fun _ _ h => h), h4.keep hK (fun _ h => h) (fun _ _ h => h), h5.keep hK (fun _ h => h) (fun _ h => h) (fun h => h) (fun _ _ _ h => h), h6.keep hK (fun h => h) (fun _ h => h)⟩
theorem XP.jobs {js js' : List Nat} (hX : XP M own h aT aJ aC aB aW ts T J C B W tp nw) (hJ : M aJ = some (eL js)) (hR : R2 (JoR M) js' J') : XP (up M aJ (eL js')) own h aT aJ aC aB aW ts T J' C B W tp nw := by
  obtain ⟨h1, h2, h3, h4, h5, h6⟩ := hX
  have ho : own aJ = (1, 0) := by obtain ⟨_, _, g, _⟩ := h3; exact g
  have hK : Kp (fun k q => k = 101 ∧ q = aJ) M (up M aJ (eL js')) := up_kp hJ ⟨rfl, rfl⟩
  have n : ∀ {k q : Nat}, k ≠ 101 → ¬ (k = 101 ∧ q = aJ) := fun n1 hh => n1 hh.1
  have nL : ∀ {r x y : Nat}, own r = (x, y) → x ≠ 1 → ¬ (101 = 101 ∧ r = aJ) := fun hr hx hh => by rw [hh.2, ho] at hr; exact hx (congrArg Prod.fst hr).symm
  exact ⟨h1.keep hK (n (by decide)), h2.keep hK (fun _ _ => n (by decide)) (fun _ => n (by decide)) (fun _ _ hr => nL hr (by decide)) (fun _ hr => nL hr (by decide)), ⟨js', up_s, ho, hR.mono (fun x y _ hw => hK x _ hw (n (k := 3) (by decide)))⟩, h4.keep hK (fun _ => n (by decide)) (fun _ hr => nL hr (by decide)), h5.keep hK (fun _ => n (by decide)) (fun _ => n (by decide)) (n (by decide)) (fun _ _ hr => nL hr (by decide)), h6.keep hK (n (by decide)) (fun _ => n (by decide))⟩
theorem XP.cach {js js' : List Nat} (hX : XP M own h aT aJ aC aB aW ts T J C B W tp nw) (hC : M aC = some (eL js)) (hR : R2 (CaR M) js' C') : XP (up M aC (eL js')) own h aT aJ aC aB aW ts T J C' B W tp nw := by
  obtain ⟨h1, h2, h3, h4, h5, h6⟩ := hX
  have ho : own aC = (2, 0) := by obtain ⟨_, _, g, _⟩ := h4; exact g
  have hK : Kp (fun k q => k = 101 ∧ q = aC) M (up M aC (eL js')) := up_kp hC ⟨rfl, rfl⟩
  have n : ∀ {k q : Nat}, k ≠ 101 → ¬ (k = 101 ∧ q = aC) := fun n1 hh => n1 hh.1
  have nL : ∀ {r x y : Nat}, own r = (x, y) → x ≠ 2 → ¬ (101 = 101 ∧ r = aC) := fun hr hx hh => by rw [hh.2, ho] at hr; exact hx (congrArg Prod.fst hr).symm
  exact ⟨h1.keep hK (n (by decide)), h2.keep hK (fun _ _ => n (by decide)) (fun _ => n (by decide)) (fun _ _ hr => nL hr (by decide)) (fun _ hr => nL hr (by decide)), h3.keep hK (fun _ => n (by decide)) (fun _ hr => nL hr (by decide)), ⟨js', up_s, ho, hR.mono (fun x y _ hw => hK x _ hw (n (k := 4) (by decide)))⟩, h5.keep hK (fun _ => n (by decide)) (fun _ => n (by decide)) (n (by decide)) (fun _ _ hr => nL hr (by decide)), h6.keep hK (n (by decide)) (fun _ => n (by decide))⟩
theorem XP.box {f : Nat → Option Nat} {c b l : Nat} {ws ws' : List Nat} (hX : XP M own h aT aJ aC aB aW ts T J C B W tp nw) (h1 : M aB = some (aR "LeaseHouse$NoteBox" 16 f)) (h2 : ∀ i, i < 16 → ∃ b, f i = some b ∧ BoR M own i b (B i)) (hb : f c = some b) (hMb : M b = some (eO 6 [.ref l])) (hl : M l = some (eL ws)) (ho : own l = (4, c)) (hR : R2 (NoR M) ws' (B' c)) (hB : ∀ i, i ≠ c → B' i = B i) : XP (up M l (eL ws')) own h aT aJ aC aB aW ts T J C B' W tp nw := by
  obtain ⟨g1, g2, g3, g4, g5, g6⟩ := hX
  have hK : Kp (fun k q => k = 101 ∧ q = l) M (up M l (eL ws')) := up_kp hl ⟨rfl, rfl⟩
  have n : ∀ {k q : Nat}, k ≠ 101 → ¬ (k = 101 ∧ q = l) := fun n1 hh => n1 hh.1
  have nL : ∀ {r x y : Nat}, own r = (x, y) → x ≠ 4 → ¬ (101 = 101 ∧ r = l) := fun hr hx hh => by rw [hh.2, ho] at hr; exact hx (congrArg Prod.fst hr).symm
  exact ⟨g1.keep hK (n (by decide)), g2.keep hK (fun _ _ => n (by decide)) (fun _ => n (by decide)) (fun _ _ hr => nL hr (by decide)) (fun _ hr => nL hr (by decide)), g3.keep hK (fun _ => n (by decide)) (fun _ hr => nL hr (by decide)), g4.keep hK (fun _ => n (by decide)) (fun _ hr => nL hr (by decide)), PB_box h1 h2 hb hMb hl ho rfl hR hB, g6.keep hK (n (by decide)) (fun _ => n (by decide))⟩
theorem x_job {rk du : Int32} (hX : XQ M h T J C B W tp nw) (h30 : J.length ≤ 30) : G κ m_LH_job (d + 6) M 0 [some (.ref h), some (.int rk), some (.int du), none] [] 2 80 (fun v M' => (tp = 0 ∧ v = some (.int (-1)) ∧ M' = M) ∨ (tp ≠ 0 ∧ J.length = 30 ∧ v = some (.int (-3)) ∧ M' = M) ∨ (tp ≠ 0 ∧ J.length < 30 ∧ v = some (.int (nI (J.length + 1))) ∧ ∃ o, FI (fun e : Wt => gob (tp, rk, du) e) J o ∧ XQ M' h T (insA J (o.getD J.length) (tp, rk, du)) C B W tp nw)) := by
  obtain ⟨own, aT, aJ, aC, aB, aW, ts, hP⟩ := hX
  have hH := hP.1
  obtain ⟨js, hj1, hj2, hj3⟩ := id hP.2.2.1
  have hjl : js.length = J.length := hj3.1
  refine g_seq s_LH_job_0 rfl ?_
  refine g_get f_LH_35 d_LH_job_1 (hH) rfl ?_
  refine g_if_ne (tgt := 9) d_LH_job_4 (by decide) (fun h1 => ?_) (fun h1 => ?_)
  · skip
    refine g_seq s_LH_job_9 rfl ?_
    refine g_get f_LH_16 d_LH_job_10 (hH) rfl ?_
    refine g_invL (k2 := 2) (n2 := 80) l_LH_98 d_LH_job_13 rfl ⟨rfl, Nat.le_of_ble_eq_true rfl, Nat.le_of_ble_eq_true rfl⟩ (hj1) (al_size hj1) (by first | omega | (simp <;> omega)) (by first | omega | (simp <;> omega)) ?_
    rintro v M1 ⟨rfl, rfl⟩
    refine g_seq s_LH_job_16 rfl ?_
    refine g_icmp_lt (tgt := 24) d_LH_job_18 (by decide) (fun h2 => ?_) (fun h2 => ?_)
    · skip
      have hlt : J.length < 30 := by
        rcases Nat.lt_or_ge J.length 30 with q | q
        · exact q
        · exact absurd h2 (show ¬ nI js.length < nI 30 from nI_nlt (by omega) (by omega))
      refine g_new (k' := 1) (n' := 77) n_LH_117 d_LH_job_24 (by first | omega | (simp <;> omega)) (by first | omega | (simp <;> omega)) (fun q hq hzq => ?_)
      have nq : ∀ x e, M1 x = some e → x ≠ q := fun x e hx e2 => by rw [e2, hq] at hx; cases hx
      refine g_seq s_LH_job_27 rfl ?_
      refine g_get f_LH_35 d_LH_job_29 ((up_n (nq h _ hH)).trans hH) rfl ?_
      refine g_seq s_LH_job_32 rfl ?_
      refine g_invIN (k2 := 1) (n2 := 77) l_LH_119 d_LH_job_34 rfl ⟨rfl, Nat.le_of_ble_eq_true rfl, Nat.le_of_ble_eq_true rfl⟩ (j_init up_s) (by first | omega | (simp <;> omega)) (by first | omega | (simp <;> omega)) ?_
      rintro v M2 ⟨rfl, rfl⟩
      rw [up_up]
      have hP2 := hP.new (e := eO 3 [.int tp, .int rk, .int du]) hq
      have hjq : JoR (up M1 q (eO 3 [.int tp, .int rk, .int du])) q (tp, rk, du) := up_s
      have hj1' : up M1 q (eO 3 [.int tp, .int rk, .int du]) aJ = some (eL js) := (up_n (nq aJ _ hj1)).trans hj1
      have hj3' : R2 (JoR (up M1 q (eO 3 [.int tp, .int rk, .int du]))) js J := hj3.mono (fun x y _ hz => (up_n (nq x _ hz)).trans hz)
      generalize up M1 q (eO 3 [.int tp, .int rk, .int du]) = M2 at hP2 hjq hj1' hj3'
      refine g_seq s_LH_job_37 rfl ?_
      refine g_get f_LH_16 d_LH_job_39 (hP2.1) rfl ?_
      refine g_seq s_LH_job_42 rfl ?_
      refine g_invV (k2 := 1) (n2 := 77) l_LH_122 d_LH_job_44 rfl ⟨rfl, Nat.le_of_ble_eq_true rfl, Nat.le_of_ble_eq_true rfl⟩ (hP2.1) (x_findTurnOf hP2.1 hj1' hj3' hjq (by omega)) (by first | omega | (simp <;> omega)) (by first | omega | (simp <;> omega)) ?_
      rintro v M3 ⟨o, hFI, rfl, rfl⟩
      have hle : o.getD J.length ≤ js.length := by
        cases o with
        | none => rw [hjl]; exact Nat.le_refl _
        | some i =>
          obtain ⟨y, hy, -⟩ := hFI
          have := (List.getElem?_eq_some_iff.mp hy).1
          show i ≤ js.length
          omega
      refine g_seq s_LH_job_47 rfl ?_
      refine g_invL (k2 := 0) (n2 := 0) l_LH_126 d_LH_job_48 rfl ⟨rfl, Nat.le_of_ble_eq_true rfl, Nat.le_of_ble_eq_true rfl⟩ (hj1') (al_addAt hj1' hle (by omega) (can_jo hjq) (fun y hy => by obtain ⟨z, hz⟩ := hj3'.mem hy; exact can_jo hz)) (by first | omega | (simp <;> omega)) (by first | omega | (simp <;> omega)) ?_
      rintro v M4 ⟨rfl, rfl⟩
      have hP4 := hP2.jobs hj1' (hj3'.ins (o.getD J.length) hjq)
      refine g_seq s_LH_job_51 rfl ?_
      refine g_get f_LH_16 d_LH_job_52 (hP4.1) rfl ?_
      refine g_invL (k2 := 0) (n2 := 0) l_LH_98 d_LH_job_55 rfl ⟨rfl, Nat.le_of_ble_eq_true rfl, Nat.le_of_ble_eq_true rfl⟩ (up_s) (al_size up_s) (by first | omega | (simp <;> omega)) (by first | omega | (simp <;> omega)) ?_
      rintro v M5 ⟨rfl, rfl⟩
      exact g_iret rfl d_LH_job_58 (Or.inr (Or.inr ⟨h1, hlt, by rw [insAt_len hle, hjl], o, hFI, own, aT, aJ, aC, aB, aW, ts, hP4⟩))
    · skip
      have hge : J.length = 30 := by
        rcases Nat.lt_or_ge J.length 30 with q | q
        · exact absurd (show nI js.length < nI 30 from nI_lt (by omega) (by omega)) h2
        · omega
      refine g_seq s_LH_job_21 rfl ?_
      exact g_iret rfl d_LH_job_23 (Or.inr (Or.inl ⟨h1, hge, rfl, rfl⟩))
  · skip
    refine g_seq s_LH_job_7 rfl ?_
    exact g_iret rfl d_LH_job_8 (Or.inl ⟨h1, rfl, rfl⟩)
theorem x_work (hX : XQ M h T J C B W tp nw) (h30 : J.length ≤ 30) : G κ m_LH_work (d + 3) M 0 [some (.ref h), none] [] 0 0 (fun v M' => ((∀ j, J[0]? = some j → ¬ j.2.2 ≤ nw) ∧ v = some (.long 1099511627776) ∧ M' = M) ∨ ∃ j, J[0]? = some j ∧ j.2.2 ≤ nw ∧ v = some (.long j.2.1.toInt64) ∧ XQ M' h T (J.eraseIdx 0) C B W j.1 nw) := by
  obtain ⟨own, aT, aJ, aC, aB, aW, ts, hP⟩ := hX
  have hH := hP.1
  obtain ⟨js, hj1, hj2, hj3⟩ := id hP.2.2.1
  have hjl : js.length = J.length := hj3.1
  have bad : ∀ M', M' = M → (∀ j, J[0]? = some j → ¬ j.2.2 ≤ nw) → G κ m_LH_work (d + 3) M' 31 [some (.ref h), none] [] 0 0 (fun v M' => ((∀ j, J[0]? = some j → ¬ j.2.2 ≤ nw) ∧ v = some (.long 1099511627776) ∧ M' = M) ∨ ∃ j, J[0]? = some j ∧ j.2.2 ≤ nw ∧ v = some (.long j.2.1.toInt64) ∧ XQ M' h T (J.eraseIdx 0) C B W j.1 nw) := by
    intro M' e hb
    refine g_ldc2 k_LH_136 d_LH_work_31  ?_
    exact g_lret rfl d_LH_work_34 (Or.inl ⟨hb, rfl, e⟩)
  refine g_seq s_LH_work_0 rfl ?_
  refine g_get f_LH_16 d_LH_work_1 (hH) rfl ?_
  refine g_invL  l_LH_130 d_LH_work_4 rfl ⟨rfl, Nat.le_of_ble_eq_true rfl, Nat.le_of_ble_eq_true rfl⟩ (hj1) (al_isEmpty hj1 (by omega)) (Nat.le_of_eq (Nat.zero_add _)) (Nat.le_of_eq (Nat.zero_add _)) ?_
  rintro v M1 ⟨rfl, rfl⟩
  obtain hJ | ⟨j, hJ⟩ : J[0]? = none ∨ ∃ j, J[0]? = some j := by cases J[0]? <;> simp
  · have hn : js = [] := by
      apply List.length_eq_zero_iff.mp
      rw [hjl]
      rcases Nat.eq_zero_or_pos J.length with q | q
      · exact q
      · rw [List.getElem?_eq_getElem q] at hJ; cases hJ
    rw [if_pos hn]
    refine g_if_ne (tgt := 31) d_LH_work_7 (by decide) (fun hbr => ?_) (fun hbr => absurd hbr (by decide))
    exact bad _ rfl (fun j hj => by rw [hJ] at hj; cases hj)
  · obtain ⟨x, hx, hxj⟩ := hj3.at hJ
    have hn : ¬ js = [] := fun e => by rw [e] at hx; cases hx
    rw [if_neg hn]
    refine g_if_ne (tgt := 31) d_LH_work_7 (by decide) (fun hbr => absurd hbr (fun h => h rfl)) (fun hbr => ?_)
    refine g_seq s_LH_work_10 rfl ?_
    refine g_get f_LH_16 d_LH_work_11 (hH) rfl ?_
    refine g_seq s_LH_work_14 rfl ?_
    refine g_invL  l_LH_106 d_LH_work_15 rfl ⟨rfl, Nat.le_of_ble_eq_true rfl, Nat.le_of_ble_eq_true rfl⟩ (hj1) (al_get (j := 0) hj1 hx (by omega)) (Nat.le_of_eq (Nat.zero_add _)) (Nat.le_of_eq (Nat.zero_add _)) ?_
    rintro v M2 ⟨rfl, rfl⟩
    refine g_cast cl_LH_117 rfl ca_Job_Job d_LH_work_18 (hxj) ?_
    refine g_invV  l_LH_133 d_LH_work_21 rfl ⟨rfl, Nat.le_of_ble_eq_true rfl, Nat.le_of_ble_eq_true rfl⟩ (hxj) (j_due hxj) (Nat.le_of_eq (Nat.zero_add _)) (Nat.le_of_eq (Nat.zero_add _)) ?_
    rintro v M3 ⟨rfl, rfl⟩
    refine g_seq s_LH_work_24 rfl ?_
    refine g_get f_LH_39 d_LH_work_25 (hH) rfl ?_
    refine g_icmp_le (tgt := 35) d_LH_work_28 (by decide) (fun h2 => ?_) (fun h2 => ?_)
    · skip
      refine g_seq s_LH_work_35 rfl ?_
      refine g_get f_LH_16 d_LH_work_36 (hH) rfl ?_
      refine g_seq s_LH_work_39 rfl ?_
      refine g_invL  l_LH_94 d_LH_work_40 rfl ⟨rfl, Nat.le_of_ble_eq_true rfl, Nat.le_of_ble_eq_true rfl⟩ (hj1) (al_remove (j := 0) hj1 hx (by omega) (fun y hy => by obtain ⟨z, hz⟩ := hj3.mem hy; exact can_jo hz)) (Nat.le_of_eq (Nat.zero_add _)) (Nat.le_of_eq (Nat.zero_add _)) ?_
      rintro v M4 ⟨rfl, rfl⟩
      have hP4 := hP.jobs hj1 (hj3.erase 0)
      have hxa : x ≠ aJ := fun e => by unfold JoR at hxj; rw [e, hj1] at hxj; cases hxj
      have hxj4 : JoR (up M3 aJ (eL (js.eraseIdx 0))) x j := (up_n hxa).trans hxj
      generalize up M3 aJ (eL (js.eraseIdx 0)) = M4 at hP4 hxj4
      refine g_cast cl_LH_117 rfl ca_Job_Job d_LH_work_43 (hxj4) ?_
      refine g_seq s_LH_work_46 rfl ?_
      refine g_invV  l_LH_138 d_LH_work_49 rfl ⟨rfl, Nat.le_of_ble_eq_true rfl, Nat.le_of_ble_eq_true rfl⟩ (hxj4) (j_name hxj4) (Nat.le_of_eq (Nat.zero_add _)) (Nat.le_of_eq (Nat.zero_add _)) ?_
      rintro v M5 ⟨rfl, rfl⟩
      refine g_put f_LH_35 d_LH_work_52 (hP4.1) rfl rfl rfl ?_
      have hhx : h ≠ x := fun e => by have := hP4.1; unfold HoC at this; unfold JoR at hxj4; rw [e, hxj4] at this; cases this
      refine g_seq s_LH_work_55 rfl ?_
      refine g_invV  l_LH_140 d_LH_work_56 rfl ⟨rfl, Nat.le_of_ble_eq_true rfl, Nat.le_of_ble_eq_true rfl⟩ ((up_n hhx.symm).trans hxj4) (j_rank ((up_n hhx.symm).trans hxj4)) (Nat.le_of_eq (Nat.zero_add _)) (Nat.le_of_eq (Nat.zero_add _)) ?_
      rintro v M6 ⟨rfl, rfl⟩
      refine g_seq s_LH_work_59 rfl ?_
      exact g_lret rfl d_LH_work_60 (Or.inr ⟨j, hJ, h2, rfl, own, aT, aJ, aC, aB, aW, ts, hP4.house⟩)
    · skip
      exact bad _ rfl (fun j' hj' => by rw [hJ] at hj'; cases hj'; exact h2)
end XJ
end
section
def chOf (T : List Th) (o : Option Nat) : Int32 := match o with
  | none => 0
  | some i => match T[i]? with
    | none => 0
    | some t => t.2.2.2.2.1
section XK
variable {κ : Nat × Nat} {d : Nat} {M M' : Mm} {a i : Nat} {own : Nat → Nat × Nat} {h aT aJ aC aB aW : Nat} {ts : List Nat} {T : List Th} {J J' : List Wt} {C C' : List (Int32 × Int32)} {B B' : Nat → List (Int32 × Int32)} {W W' : List Int32} {tp nw : Int32}
theorem x_cancel (hX : XQ M h T J C B W tp nw) (h30 : J.length ≤ 30) : G κ m_LH_cancel (d + 3) M 0 [some (.ref h), none, none] [] 0 0 (fun v M' => (tp = 0 ∧ v = some (.int (-1)) ∧ M' = M) ∨ (tp ≠ 0 ∧ v = some (.int (nI (J.length - (J.filter (fun j : Wt => j.1 != tp)).length))) ∧ XQ M' h T (J.filter (fun j : Wt => j.1 != tp)) C B W tp nw)) := by
  obtain ⟨own, aT, aJ, aC, aB, aW, ts, hP⟩ := hX
  have hH := hP.1
  obtain ⟨js, hj1, hj2, hj3⟩ := id hP.2.2.1
  have hjl : js.length = J.length := hj3.1
  have hfl : (J.filter (fun j : Wt => j.1 != tp)).length ≤ J.length := List.length_filter_le _ _
  have loop : ∀ n (Mc : Mm), n ≤ J.length → tp ≠ 0 → XP Mc own h aT aJ aC aB aW ts T (J.take n ++ (J.drop n).filter (fun j : Wt => j.1 != tp)) C B W tp nw →
      G κ m_LH_cancel (d + 3) Mc 21 [some (.ref h), some (.int (nI J.length)), some (.int (nI n - 1))] [] 0 0 (fun v M' => (tp = 0 ∧ v = some (.int (-1)) ∧ M' = M) ∨ (tp ≠ 0 ∧ v = some (.int (nI (J.length - (J.filter (fun j : Wt => j.1 != tp)).length))) ∧ XQ M' h T (J.filter (fun j : Wt => j.1 != tp)) C B W tp nw)) := by
    intro n
    induction n with
    | zero =>
      intro Mc hn h0 hPc
      have he : J.take 0 ++ (J.drop 0).filter (fun j : Wt => j.1 != tp) = J.filter (fun j : Wt => j.1 != tp) := by simp
      rw [he] at hPc
      obtain ⟨jc, hc1, hc2, hc3⟩ := id hPc.2.2.1
      refine g_seq s_LH_cancel_21 rfl ?_
      refine g_if_lt (tgt := 61) d_LH_cancel_22 (by decide) (fun hbr => ?_) (fun hbr => absurd hbr (by decide))
      refine g_seq s_LH_cancel_61 rfl ?_
      refine g_get f_LH_16 d_LH_cancel_63 (hPc.1) rfl ?_
      refine g_invL  l_LH_98 d_LH_cancel_66 rfl ⟨rfl, Nat.le_of_ble_eq_true rfl, Nat.le_of_ble_eq_true rfl⟩ (hc1) (al_size hc1) (Nat.le_of_eq (Nat.zero_add _)) (Nat.le_of_eq (Nat.zero_add _)) ?_
      rintro v M2 ⟨rfl, rfl⟩
      refine g_seq s_LH_cancel_69 rfl ?_
      exact g_iret rfl d_LH_cancel_70 (Or.inr ⟨h0, by rw [hc3.1, pk_sub hfl], own, aT, aJ, aC, aB, aW, ts, hPc⟩)
    | succ n ih =>
      intro Mc hn h0 hPc
      rw [nI_pred]
      have hnl : n < J.length := by omega
      have hJn := List.getElem?_eq_getElem hnl
      generalize J[n] = jn at hJn
      obtain ⟨jc, hc1, hc2, hc3⟩ := id hPc.2.2.1
      have hat : (J.take (n + 1) ++ (J.drop (n + 1)).filter (fun j : Wt => j.1 != tp))[n]? = some jn := by
        rw [List.getElem?_append_left (by simp; omega), List.getElem?_take, if_pos (by omega)]; exact hJn
      have hdr : J.drop n = jn :: J.drop (n + 1) := by
        have h1 := List.drop_eq_getElem_cons hnl
        rw [List.getElem?_eq_getElem hnl] at hJn
        rw [h1, Option.some.inj hJn]
      have htk : J.take (n + 1) = J.take n ++ [jn] := by rw [List.take_add_one, hJn]; rfl
      obtain ⟨x, hx, hxj⟩ := hc3.at hat
      have hcl : jc.length ≤ 30 := by
        rw [hc3.1]
        have := List.length_filter_le (fun j : Wt => j.1 != tp) (J.drop (n + 1))
        simp at this ⊢
        omega
      refine g_seq s_LH_cancel_21 rfl ?_
      refine g_if_lt (tgt := 61) d_LH_cancel_22 (by decide) (fun hbr => absurd hbr (nI_lt0 (by omega))) (fun hbr => ?_)
      refine g_seq s_LH_cancel_25 rfl ?_
      refine g_get f_LH_16 d_LH_cancel_26 (hPc.1) rfl ?_
      refine g_seq s_LH_cancel_29 rfl ?_
      refine g_invL  l_LH_106 d_LH_cancel_30 rfl ⟨rfl, Nat.le_of_ble_eq_true rfl, Nat.le_of_ble_eq_true rfl⟩ (hc1) (al_get hc1 hx (by omega)) (Nat.le_of_eq (Nat.zero_add _)) (Nat.le_of_eq (Nat.zero_add _)) ?_
      rintro v M2 ⟨rfl, rfl⟩
      refine g_cast cl_LH_117 rfl ca_Job_Job d_LH_cancel_33 (hxj) ?_
      refine g_invV  l_LH_138 d_LH_cancel_36 rfl ⟨rfl, Nat.le_of_ble_eq_true rfl, Nat.le_of_ble_eq_true rfl⟩ (hxj) (j_name hxj) (Nat.le_of_eq (Nat.zero_add _)) (Nat.le_of_eq (Nat.zero_add _)) ?_
      rintro v M3 ⟨rfl, rfl⟩
      refine g_seq s_LH_cancel_39 rfl ?_
      refine g_get f_LH_35 d_LH_cancel_40 (hPc.1) rfl ?_
      refine g_icmp_ne (tgt := 55) d_LH_cancel_43 (by decide) (fun h2 => ?_) (fun h2 => ?_)
      · skip
        have he : J.take n ++ (J.drop n).filter (fun j : Wt => j.1 != tp) = J.take (n + 1) ++ (J.drop (n + 1)).filter (fun j : Wt => j.1 != tp) := by
          rw [hdr, htk, List.filter_cons_of_pos (by simpa using h2)]; simp
        refine g_seq s_LH_cancel_55 rfl ?_
        rw [← Int32.sub_eq_add_neg]
        exact ih _ (by omega) h0 (by rw [he]; exact hPc)
      · skip
        have he : (J.take (n + 1) ++ (J.drop (n + 1)).filter (fun j : Wt => j.1 != tp)).eraseIdx n = J.take n ++ (J.drop n).filter (fun j : Wt => j.1 != tp) := by
          rw [hdr, htk, List.filter_cons_of_neg (by simpa using h2), List.append_assoc, List.eraseIdx_append_of_length_le (by simp; omega)]
          have : n - (J.take n).length = 0 := by simp; omega
          rw [this]
          simp
        refine g_seq s_LH_cancel_46 rfl ?_
        refine g_get f_LH_16 d_LH_cancel_47 (hPc.1) rfl ?_
        refine g_seq s_LH_cancel_50 rfl ?_
        refine g_invL  l_LH_94 d_LH_cancel_51 rfl ⟨rfl, Nat.le_of_ble_eq_true rfl, Nat.le_of_ble_eq_true rfl⟩ (hc1) (al_remove hc1 hx (by omega) (fun y hy => by obtain ⟨z, hz⟩ := hc3.mem hy; exact can_jo hz)) (Nat.le_of_eq (Nat.zero_add _)) (Nat.le_of_eq (Nat.zero_add _)) ?_
        rintro v M4 ⟨rfl, rfl⟩
        refine g_seq s_LH_cancel_54 rfl ?_
        have hP4 := hPc.jobs hc1 (hc3.erase n)
        rw [he] at hP4
        rw [← Int32.sub_eq_add_neg]
        exact ih _ (by omega) h0 hP4
  refine g_seq s_LH_cancel_0 rfl ?_
  refine g_get f_LH_35 d_LH_cancel_1 (hH) rfl ?_
  refine g_if_ne (tgt := 9) d_LH_cancel_4 (by decide) (fun h1 => ?_) (fun h1 => ?_)
  · skip
    refine g_seq s_LH_cancel_9 rfl ?_
    refine g_get f_LH_16 d_LH_cancel_10 (hH) rfl ?_
    refine g_invL  l_LH_98 d_LH_cancel_13 rfl ⟨rfl, Nat.le_of_ble_eq_true rfl, Nat.le_of_ble_eq_true rfl⟩ (hj1) (al_size hj1) (Nat.le_of_eq (Nat.zero_add _)) (Nat.le_of_eq (Nat.zero_add _)) ?_
    rintro v M1 ⟨rfl, rfl⟩
    rw [hjl]
    refine g_seq s_LH_cancel_16 rfl ?_
    exact loop J.length _ (Nat.le_refl _) h1 (by simpa using hP)
  · skip
    refine g_seq s_LH_cancel_7 rfl ?_
    exact g_iret rfl d_LH_cancel_8 (Or.inl ⟨h1, rfl, rfl⟩)
theorem x_known (hX : XQ M h T J C B W tp nw) (h4 : C.length ≤ 4) : G κ m_LH_known (d + 4) M 0 [some (.ref h)] [] 0 0 (fun v M' => M' = M ∧ ((tp = 0 ∧ v = some (.int 0)) ∨ (tp ≠ 0 ∧ ∃ o, FI (fun e : Int32 × Int32 => e.1 == tp) C o ∧ v = some (.int (b2i o.isSome))))) := by
  obtain ⟨own, aT, aJ, aC, aB, aW, ts, hP⟩ := hX
  have hH := hP.1
  obtain ⟨cs, hc1, hc2, hc3⟩ := id hP.2.2.2.1
  refine g_seq s_LH_known_0 rfl ?_
  refine g_get f_LH_35 d_LH_known_1 (hH) rfl ?_
  refine g_if_eq (tgt := 24) d_LH_known_4 (by decide) (fun h1 => ?_) (fun h1 => ?_)
  · skip
    refine g_seq s_LH_known_24 rfl ?_
    exact g_zret rfl rfl d_LH_known_25 (⟨rfl, Or.inl ⟨h1, rfl⟩⟩)
  · skip
    refine g_seq s_LH_known_7 rfl ?_
    refine g_get f_LH_35 d_LH_known_9 (hH) rfl ?_
    refine g_invV  l_LH_143 d_LH_known_12 rfl ⟨rfl, Nat.le_of_ble_eq_true rfl, Nat.le_of_ble_eq_true rfl⟩ (hH) (x_findInCache hH hc1 hc3 (by rw [hc3.1]; omega)) (Nat.le_of_eq (Nat.zero_add _)) (Nat.le_of_eq (Nat.zero_add _)) ?_
    rintro v M1 ⟨o, hFI, rfl, rfl⟩
    refine g_seq s_LH_known_15 rfl ?_
    cases o with
    | none =>
      refine g_icmp_eq (tgt := 24) d_LH_known_17 (by decide) (fun hbr => ?_) (fun hbr => absurd hbr (fun h => h rfl))
      refine g_seq s_LH_known_24 rfl ?_
      exact g_zret rfl rfl d_LH_known_25 (⟨rfl, Or.inr ⟨h1, none, hFI, rfl⟩⟩)
    | some i =>
      obtain ⟨y, hy, -⟩ := id hFI
      have hil := (List.getElem?_eq_some_iff.mp hy).1
      have hne : ¬ oI (some i) = -2 := by
        show ¬ nI i = -2
        intro e
        have h1 := nI_lt0 (j := i) (by omega)
        rw [e] at h1
        exact h1 (by decide)
      refine g_icmp_eq (tgt := 24) d_LH_known_17 (by decide) (fun hbr => absurd hbr (hne)) (fun hbr => ?_)
      refine g_seq s_LH_known_20 rfl ?_
      exact g_zret rfl rfl d_LH_known_25 (⟨rfl, Or.inr ⟨h1, some i, hFI, rfl⟩⟩)
theorem x_ask (hX : XQ M h T J C B W tp nw) (hlen : T.length ≤ 512) (h4 : C.length ≤ 4) : G κ m_LH_ask (d + 7) M 0 [some (.ref h), none, none] [] 2 24 (fun v M' => (tp = 0 ∧ v = some (.int (-1)) ∧ M' = M) ∨ (tp ≠ 0 ∧ ∃ o asked C1, FI (fun e : Int32 × Int32 => e.1 == tp) C o ∧ ((o = none ∧ C1 = C ∧ ∃ o2, FI (byN tp) T o2 ∧ asked = (tp, 1000 * chOf T o2 + nw)) ∨ ∃ i, o = some i ∧ C[i]? = some asked ∧ C1 = C.eraseIdx i) ∧ v = some (.int asked.2) ∧ XQ M' h T J ((if C1.length < 4 then C1 else C1.eraseIdx 0) ++ [asked]) B W tp nw)) := by
  obtain ⟨own, aT, aJ, aC, aB, aW, ts, hP⟩ := hX
  have hH := hP.1
  have htl := hP.len
  obtain ⟨cs, hc1, hc2, hc3⟩ := id hP.2.2.2.1
  have last : ∀ (Mc : Mm) (C1 : List (Int32 × Int32)) (asked : Int32 × Int32) (cs1 : List Nat) (x : Nat) (o1 : Value), tp ≠ 0 → XP Mc own h aT aJ aC aB aW ts T J C1 B W tp nw → Mc aC = some (eL cs1) → R2 (CaR Mc) cs1 C1 → CaR Mc x asked → C1.length < 4 → (∃ o C1', FI (fun e : Int32 × Int32 => e.1 == tp) C o ∧ ((o = none ∧ C1' = C ∧ ∃ o2, FI (byN tp) T o2 ∧ asked = (tp, 1000 * chOf T o2 + nw)) ∨ ∃ i, o = some i ∧ C[i]? = some asked ∧ C1' = C.eraseIdx i) ∧ C1 = (if C1'.length < 4 then C1' else C1'.eraseIdx 0)) →
      G κ m_LH_ask (d + 7) Mc 87 [some (.ref h), some o1, some (.ref x)] [] 1 21 (fun v M' => (tp = 0 ∧ v = some (.int (-1)) ∧ M' = M) ∨ (tp ≠ 0 ∧ ∃ o asked C1, FI (fun e : Int32 × Int32 => e.1 == tp) C o ∧ ((o = none ∧ C1 = C ∧ ∃ o2, FI (byN tp) T o2 ∧ asked = (tp, 1000 * chOf T o2 + nw)) ∨ ∃ i, o = some i ∧ C[i]? = some asked ∧ C1 = C.eraseIdx i) ∧ v = some (.int asked.2) ∧ XQ M' h T J ((if C1.length < 4 then C1 else C1.eraseIdx 0) ++ [asked]) B W tp nw)) := by
    intro Mc C1 asked cs1 x o1 h0 hPc g1 g2 g3 g4 g5
    have hcl : cs1.length = C1.length := g2.1
    have hxa : x ≠ aC := fun e => by unfold CaR at g3; rw [e, g1] at g3; cases g3
    refine g_seq s_LH_ask_87 rfl ?_
    refine g_get f_LH_19 d_LH_ask_88 (hPc.1) rfl ?_
    refine g_seq s_LH_ask_91 rfl ?_
    refine g_invL (k2 := 0) (n2 := 0) l_LH_154 d_LH_ask_92 rfl ⟨rfl, Nat.le_of_ble_eq_true rfl, Nat.le_of_ble_eq_true rfl⟩ (g1) (al_add g1 (by rw [g2.1]; omega) (can_ca g3) (fun y hy => by obtain ⟨z, hz⟩ := g2.mem hy; exact can_ca hz)) (by first | omega | (simp <;> omega)) (by first | omega | (simp <;> omega)) ?_
    rintro v M2 ⟨rfl, rfl⟩
    have hP2 := hPc.cach g1 (g2.snoc g3)
    refine g_seq s_LH_ask_95 rfl ?_
    refine g_invV  l_LH_157 d_LH_ask_97 rfl ⟨rfl, Nat.le_of_ble_eq_true rfl, Nat.le_of_ble_eq_true rfl⟩ ((up_n hxa).trans g3) (c_number ((up_n hxa).trans g3)) (Nat.le_of_eq (Nat.zero_add _)) (Nat.le_of_eq (Nat.zero_add _)) ?_
    rintro v M3 ⟨rfl, rfl⟩
    obtain ⟨o, C1', e1, e2, e3⟩ := g5
    exact g_iret rfl d_LH_ask_100 (Or.inr ⟨h0, o, asked, C1', e1, e2, rfl, own, aT, aJ, aC, aB, aW, ts, by rw [← e3]; exact hP2⟩)
  have tail : ∀ (Mc : Mm) (C1 : List (Int32 × Int32)) (asked : Int32 × Int32) (cs1 : List Nat) (x : Nat) (o1 : Value), tp ≠ 0 → XP Mc own h aT aJ aC aB aW ts T J C1 B W tp nw → Mc aC = some (eL cs1) → R2 (CaR Mc) cs1 C1 → CaR Mc x asked → C1.length ≤ 4 → (∃ o, FI (fun e : Int32 × Int32 => e.1 == tp) C o ∧ ((o = none ∧ C1 = C ∧ ∃ o2, FI (byN tp) T o2 ∧ asked = (tp, 1000 * chOf T o2 + nw)) ∨ ∃ i, o = some i ∧ C[i]? = some asked ∧ C1 = C.eraseIdx i)) →
      G κ m_LH_ask (d + 7) Mc 68 [some (.ref h), some o1, some (.ref x)] [.ref h] 1 21 (fun v M' => (tp = 0 ∧ v = some (.int (-1)) ∧ M' = M) ∨ (tp ≠ 0 ∧ ∃ o asked C1, FI (fun e : Int32 × Int32 => e.1 == tp) C o ∧ ((o = none ∧ C1 = C ∧ ∃ o2, FI (byN tp) T o2 ∧ asked = (tp, 1000 * chOf T o2 + nw)) ∨ ∃ i, o = some i ∧ C[i]? = some asked ∧ C1 = C.eraseIdx i) ∧ v = some (.int asked.2) ∧ XQ M' h T J ((if C1.length < 4 then C1 else C1.eraseIdx 0) ++ [asked]) B W tp nw)) := by
    intro Mc C1 asked cs1 x o1 h0 hPc g1 g2 g3 g4 ⟨o, e1, e2⟩
    refine g_get f_LH_19 d_LH_ask_68 (hPc.1) rfl ?_
    refine g_invL (k2 := 1) (n2 := 21) l_LH_98 d_LH_ask_71 rfl ⟨rfl, Nat.le_of_ble_eq_true rfl, Nat.le_of_ble_eq_true rfl⟩ (g1) (al_size g1) (by first | omega | (simp <;> omega)) (by first | omega | (simp <;> omega)) ?_
    rintro v M2 ⟨rfl, rfl⟩
    refine g_seq s_LH_ask_74 rfl ?_
    refine g_icmp_lt (tgt := 87) d_LH_ask_75 (by decide) (fun h2 => ?_) (fun h2 => ?_)
    · skip
      have hlt : C1.length < 4 := by
        rcases Nat.lt_or_ge C1.length 4 with q | q
        · exact q
        · exact absurd h2 (show ¬ nI cs1.length < nI 4 from nI_nlt (by rw [g2.1]; exact q) (by rw [g2.1]; omega))
      exact last _ C1 asked cs1 x o1 h0 hPc g1 g2 g3 hlt ⟨o, C1, e1, e2, by rw [if_pos hlt]⟩
    · skip
      have hlt : ¬ C1.length < 4 := fun q => h2 (show nI cs1.length < nI 4 from nI_lt (by rw [g2.1]; exact q) (by omega))
      obtain ⟨y, hy, hyc⟩ := g2.at (i := 0) (List.getElem?_eq_getElem (by omega))
      have hxa : x ≠ aC := fun e => by unfold CaR at g3; rw [e, g1] at g3; cases g3
      refine g_seq s_LH_ask_78 rfl ?_
      refine g_get f_LH_19 d_LH_ask_79 (hPc.1) rfl ?_
      refine g_seq s_LH_ask_82 rfl ?_
      refine g_invL (k2 := 1) (n2 := 21) l_LH_94 d_LH_ask_83 rfl ⟨rfl, Nat.le_of_ble_eq_true rfl, Nat.le_of_ble_eq_true rfl⟩ (g1) (al_remove (j := 0) g1 hy (by rw [g2.1]; omega) (fun y hy => by obtain ⟨z, hz⟩ := g2.mem hy; exact can_ca hz)) (by first | omega | (simp <;> omega)) (by first | omega | (simp <;> omega)) ?_
      rintro v M3 ⟨rfl, rfl⟩
      have hP3 := hPc.cach g1 (g2.erase 0)
      have hl2 := last _ (C1.eraseIdx 0) asked (cs1.eraseIdx 0) x o1 h0 hP3 up_s ((g2.erase 0).mono (fun z w _ hz => (up_n (fun e => by unfold CaR at hz; rw [e, g1] at hz; cases hz)).trans hz)) ((up_n hxa).trans g3) (by rw [List.length_eraseIdx_of_lt (by omega)]; omega) ⟨o, C1, e1, e2, by rw [if_neg hlt]⟩
      refine g_seq (is := [(.pop, 1, 0)]) (pc' := 87) (by decide +kernel) rfl ?_
      exact hl2
  refine g_seq s_LH_ask_0 rfl ?_
  refine g_get f_LH_35 d_LH_ask_1 (hH) rfl ?_
  refine g_if_ne (tgt := 9) d_LH_ask_4 (by decide) (fun h1 => ?_) (fun h1 => ?_)
  · skip
    refine g_seq s_LH_ask_9 rfl ?_
    refine g_get f_LH_35 d_LH_ask_11 (hH) rfl ?_
    refine g_invV (k2 := 2) (n2 := 24) l_LH_143 d_LH_ask_14 rfl ⟨rfl, Nat.le_of_ble_eq_true rfl, Nat.le_of_ble_eq_true rfl⟩ (hH) (x_findInCache hH hc1 hc3 (by rw [hc3.1]; omega)) (by first | omega | (simp <;> omega)) (by first | omega | (simp <;> omega)) ?_
    rintro v M1 ⟨o, hFI, rfl, rfl⟩
    refine g_seq s_LH_ask_17 rfl ?_
    cases o with
    | none =>
      refine g_icmp_ne (tgt := 55) d_LH_ask_21 (by decide) (fun hbr => absurd hbr (fun h => h rfl)) (fun hbr => ?_)
      refine g_new (k' := 1) (n' := 22) n_LH_146 d_LH_ask_24 (by first | omega | (simp <;> omega)) (by first | omega | (simp <;> omega)) (fun q hq hzq => ?_)
      have nq : ∀ x e, M1 x = some e → x ≠ q := fun x e hx e2 => by rw [e2, hq] at hx; cases hx
      have hP2 := hP.new (e := eO 4 [.int 0, .int 0]) hq
      refine g_seq s_LH_ask_27 rfl ?_
      refine g_get f_LH_35 d_LH_ask_29 (hP2.1) rfl ?_
      refine g_seq s_LH_ask_32 rfl ?_
      refine g_get f_LH_35 d_LH_ask_37 (hP2.1) rfl ?_
      refine g_invV (k2 := 1) (n2 := 22) l_LH_148 d_LH_ask_40 rfl ⟨rfl, Nat.le_of_ble_eq_true rfl, Nat.le_of_ble_eq_true rfl⟩ (hP2.1) (x_changesOf hP2.1 hP2.2.1 (by omega)) (by first | omega | (simp <;> omega)) (by first | omega | (simp <;> omega)) ?_
      rintro v M2 ⟨rfl, o2, hF2, rfl⟩
      refine g_seq s_LH_ask_43 rfl ?_
      refine g_get f_LH_39 d_LH_ask_45 (hP2.1) rfl ?_
      refine g_seq s_LH_ask_48 rfl ?_
      refine g_invIN (k2 := 1) (n2 := 22) l_LH_151 d_LH_ask_49 rfl ⟨rfl, Nat.le_of_ble_eq_true rfl, Nat.le_of_ble_eq_true rfl⟩ (c_init up_s) (by first | omega | (simp <;> omega)) (by first | omega | (simp <;> omega)) ?_
      rintro v M3 ⟨rfl, rfl⟩
      rw [up_up]
      refine g_seq s_LH_ask_52 rfl ?_
      exact g_le (tail _ C (tp, 1000 * chOf T o2 + nw) cs q _ h1 (hP.new hq) ((up_n (nq aC _ hc1)).trans hc1) (hc3.mono (fun x y _ hz => (up_n (nq x _ hz)).trans hz)) up_s h4 ⟨none, hFI, Or.inl ⟨rfl, rfl, o2, hF2, rfl⟩⟩) (by omega) (by omega)
    | some i =>
      obtain ⟨y, hy, -⟩ := id hFI
      have hil := (List.getElem?_eq_some_iff.mp hy).1
      have hne : ¬ oI (some i) = -2 := by
        show ¬ nI i = -2
        intro e
        have h1 := nI_lt0 (j := i) (by omega)
        rw [e] at h1
        exact h1 (by decide)
      obtain ⟨x, hx, hxc⟩ := hc3.at hy
      have hxa : x ≠ aC := fun e => by unfold CaR at hxc; rw [e, hc1] at hxc; cases hxc
      refine g_icmp_ne (tgt := 55) d_LH_ask_21 (by decide) (fun hbr => ?_) (fun hbr => absurd hbr (hne))
      refine g_seq s_LH_ask_55 rfl ?_
      refine g_get f_LH_19 d_LH_ask_56 (hH) rfl ?_
      refine g_seq s_LH_ask_59 rfl ?_
      refine g_invL (k2 := 2) (n2 := 24) l_LH_94 d_LH_ask_60 rfl ⟨rfl, Nat.le_of_ble_eq_true rfl, Nat.le_of_ble_eq_true rfl⟩ (hc1) (al_remove (j := i) hc1 hx (by rw [hc3.1]; omega) (fun y hy => by obtain ⟨z, hz⟩ := hc3.mem hy; exact can_ca hz)) (by first | omega | (simp <;> omega)) (by first | omega | (simp <;> omega)) ?_
      rintro v M2 ⟨rfl, rfl⟩
      have hP2 := hP.cach hc1 (hc3.erase i)
      refine g_cast cl_LH_146 rfl ca_Cached_Cached d_LH_ask_63 ((up_n hxa).trans hxc) ?_
      refine g_seq s_LH_ask_66 rfl ?_
      exact g_le (tail _ (C.eraseIdx i) y (cs.eraseIdx i) x _ h1 hP2 up_s ((hc3.erase i).mono (fun z w _ hz => (up_n (fun e => by unfold CaR at hz; rw [e, hc1] at hz; cases hz)).trans hz)) ((up_n hxa).trans hxc) (by rw [List.length_eraseIdx_of_lt hil]; omega) ⟨some i, hFI, Or.inr ⟨i, rfl, hy, rfl⟩⟩) (by omega) (by omega)
  · skip
    refine g_seq s_LH_ask_7 rfl ?_
    exact g_iret rfl d_LH_ask_8 (Or.inl ⟨h1, rfl, rfl⟩)
theorem x_note {c : Int32} (hX : XQ M h T J C B W tp nw) (h8 : ∀ i, i < 16 → (B i).length ≤ 8) : G κ m_LH_note (d + 4) M 0 [some (.ref h), some (.int c), none] [] 0 0 (fun v M' => (¬ (0 ≤ c ∧ c < 16) ∧ v = some (.int (-1)) ∧ M' = M) ∨ ∃ i, i < 16 ∧ c = nI i ∧ ((B i = [] ∧ v = some (.int (-2)) ∧ M' = M) ∨ ∃ x N, B i = x :: N ∧ v = some (.int x.2) ∧ XQ M' h T J C (fun j => if j = i then N else B j) W x.1 nw)) := by
  obtain ⟨own, aT, aJ, aC, aB, aW, ts, hP⟩ := hX
  have hH := hP.1
  refine g_seq s_LH_note_0 rfl ?_
  refine g_invS  l_LH_168 d_LH_note_1 rfl ⟨rfl, Nat.le_of_ble_eq_true rfl, Nat.le_of_ble_eq_true rfl⟩ (x_isClient) (Nat.le_of_eq (Nat.zero_add _)) (Nat.le_of_eq (Nat.zero_add _)) ?_
  rintro v M1 ⟨rfl, rfl⟩
  refine g_if_ne (tgt := 9) d_LH_note_4 (by decide) (fun h1 => ?_) (fun h1 => ?_)
  · skip
    have hok : 0 ≤ c ∧ c < 16 := of_decide_eq_true (b2i_n.mp h1)
    obtain ⟨i, hi1, hi2⟩ := nI_of (x := c) (Int32.not_lt.mpr hok.1)
    subst hi2
    have hi : i < 16 := (nI_ltI hi1 (by decide)).mp (show nI i < nI 16 from hok.2)
    obtain ⟨f, f1, f2⟩ := id hP.2.2.2.2.1
    obtain ⟨b, hfb, l, ws, hb1, hb2, hb3, hb4⟩ := f2 i hi
    have hwl : ws.length ≤ 8 := by rw [hb4.1]; exact h8 i hi
    refine g_seq s_LH_note_9 rfl ?_
    refine g_get f_LH_24 d_LH_note_10 (hH) rfl ?_
    refine g_seq s_LH_note_13 rfl ?_
    refine g_aald d_LH_note_14 f1 (vp_nI hi (by omega)) ?_
    rw [nI_cl (by omega), hfb]
    refine g_invV  l_LH_171 d_LH_note_15 rfl ⟨rfl, Nat.le_of_ble_eq_true rfl, Nat.le_of_ble_eq_true rfl⟩ (hb1) (b_takeOldest hb1 hb2 hb4 hwl) (Nat.le_of_eq (Nat.zero_add _)) (Nat.le_of_eq (Nat.zero_add _)) ?_
    rintro v M2 (⟨hn, rfl, rfl⟩ | ⟨x, hx, rfl, rfl⟩)
    · have hBn : B i = [] := List.length_eq_zero_iff.mp (by rw [← hb4.1, hn]; rfl)
      refine g_seq s_LH_note_18 rfl ?_
      refine g_ifnonnullN d_LH_note_20 ?_
      refine g_seq s_LH_note_23 rfl ?_
      exact g_iret rfl d_LH_note_25 (Or.inr ⟨i, hi, rfl, Or.inl ⟨hBn, rfl, rfl⟩⟩)
    · cases hB : B i with
      | nil =>
        rw [hB] at hb4
        have := hb4.1
        rw [List.length_eq_zero_iff.mp this] at hx
        cases hx
      | cons n0 N =>
        rw [hB] at hb4
        have hxn : NoR M1 x n0 := hb4.2 0 x n0 hx rfl
        have hxl : x ≠ l := fun e => by unfold NoR at hxn; rw [e, hb2] at hxn; cases hxn
        have hP2 := hP.box (B' := fun j => if j = i then N else B j) f1 f2 hfb hb1 hb2 hb3 (ws' := ws.eraseIdx 0) (by simpa using hb4.erase 0) (fun j hj => if_neg hj)
        have hxn2 : NoR (up M1 l (eL (ws.eraseIdx 0))) x n0 := (up_n hxl).trans hxn
        generalize up M1 l (eL (ws.eraseIdx 0)) = M2 at hP2 hxn2
        refine g_seq s_LH_note_18 rfl ?_
        refine g_ifnonnull (tgt := 26) d_LH_note_20 (by decide) ?_
        refine g_seq s_LH_note_26 rfl ?_
        refine g_invV  l_LH_175 d_LH_note_28 rfl ⟨rfl, Nat.le_of_ble_eq_true rfl, Nat.le_of_ble_eq_true rfl⟩ (hxn2) (n_name hxn2) (Nat.le_of_eq (Nat.zero_add _)) (Nat.le_of_eq (Nat.zero_add _)) ?_
        rintro v M3 ⟨rfl, rfl⟩
        refine g_put f_LH_35 d_LH_note_31 (hP2.1) rfl rfl rfl ?_
        have hhx : h ≠ x := fun e => by have := hP2.1; unfold HoC at this; unfold NoR at hxn2; rw [e, hxn2] at this; cases this
        refine g_seq s_LH_note_34 rfl ?_
        refine g_invV  l_LH_178 d_LH_note_35 rfl ⟨rfl, Nat.le_of_ble_eq_true rfl, Nat.le_of_ble_eq_true rfl⟩ ((up_n hhx.symm).trans hxn2) (n_kind ((up_n hhx.symm).trans hxn2)) (Nat.le_of_eq (Nat.zero_add _)) (Nat.le_of_eq (Nat.zero_add _)) ?_
        rintro v M4 ⟨rfl, rfl⟩
        exact g_iret rfl d_LH_note_38 (Or.inr ⟨i, hi, rfl, Or.inr ⟨n0, N, hB, rfl, own, aT, aJ, aC, aB, aW, ts, hP2.house⟩⟩)
  · skip
    refine g_seq s_LH_note_7 rfl ?_
    exact g_iret rfl d_LH_note_8 (Or.inl ⟨of_decide_eq_false (b2i_0.mp h1), rfl, rfl⟩)
theorem x_waits {lo hh : Int32} (hX : XQ M h T J C B W tp nw) : G κ m_LH_waits (d + 1) M 0 [some (.ref h), some (.int lo), some (.int hh)] [] 0 0 (fun v M' => v = some (.int (nI (sm (fun x : Int32 => if lo ≤ x ∧ x < hh then 1 else 0) W))) ∧ M' = M) := by
  obtain ⟨own, aT, aJ, aC, aB, aW, ts, hP⟩ := hX
  obtain ⟨aw, f, w1, w2, w3⟩ := id hP.2.2.2.2.2
  refine g_seq s_LH_waits_0 rfl ?_
  refine g_get f_LH_31 d_LH_waits_1 (hP.1) rfl ?_
  refine g_seq s_LH_waits_4 rfl ?_
  refine g_invV  l_LH_181 d_LH_waits_6 rfl ⟨rfl, Nat.le_of_ble_eq_true rfl, Nat.le_of_ble_eq_true rfl⟩ (w1) (wt_countFrom hP.2.2.2.2.2) (Nat.le_of_eq (Nat.zero_add _)) (Nat.le_of_eq (Nat.zero_add _)) ?_
  rintro v M1 ⟨rfl, rfl⟩
  exact g_iret rfl d_LH_waits_9 (⟨rfl, rfl⟩)
theorem x_waited {tk : Int32} (hX : XQ M h T J C B W tp nw) : G κ m_LH_waited (d + 1) M 0 [some (.ref h), some (.int tk)] [] 0 0 (fun v M' => v = some (.int (W.foldl (gUp tk) (-2))) ∧ M' = M) := by
  obtain ⟨own, aT, aJ, aC, aB, aW, ts, hP⟩ := hX
  obtain ⟨aw, f, w1, w2, w3⟩ := id hP.2.2.2.2.2
  refine g_seq s_LH_waited_0 rfl ?_
  refine g_get f_LH_31 d_LH_waited_1 (hP.1) rfl ?_
  refine g_seq s_LH_waited_4 rfl ?_
  refine g_invV  l_LH_185 d_LH_waited_5 rfl ⟨rfl, Nat.le_of_ble_eq_true rfl, Nat.le_of_ble_eq_true rfl⟩ (w1) (wt_greatestUpTo hP.2.2.2.2.2) (Nat.le_of_eq (Nat.zero_add _)) (Nat.le_of_eq (Nat.zero_add _)) ?_
  rintro v M1 ⟨rfl, rfl⟩
  exact g_iret rfl d_LH_waited_8 (⟨rfl, rfl⟩)
end XK
end
section
theorem c8 (c : Int32) : (c.toInt < 0 ∨ 7 < c.toInt) ∨ c = 0 ∨ c = 1 ∨ c = 2 ∨ c = 3 ∨ c = 4 ∨ c = 5 ∨ c = 6 ∨ c = 7 := by
  simp only [← Int32.toInt_inj]
  have e0 : (0 : Int32).toInt = 0 := by decide
  have e1 : (1 : Int32).toInt = 1 := by decide
  have e2 : (2 : Int32).toInt = 2 := by decide
  have e3 : (3 : Int32).toInt = 3 := by decide
  have e4 : (4 : Int32).toInt = 4 := by decide
  have e5 : (5 : Int32).toInt = 5 := by decide
  have e6 : (6 : Int32).toInt = 6 := by decide
  have e7 : (7 : Int32).toInt = 7 := by decide
  omega
def bcF (x : Int32) : Int32 :=
  let a := x - ((x.toUInt32 >>> ((1 : Int32).toUInt32 &&& Int32.toUInt32 31)).toInt32 &&& 1431655765)
  let b := (a &&& 858993459) + ((a.toUInt32 >>> ((2 : Int32).toUInt32 &&& Int32.toUInt32 31)).toInt32 &&& 858993459)
  let c := (b + (b.toUInt32 >>> ((4 : Int32).toUInt32 &&& Int32.toUInt32 31)).toInt32) &&& 252645135
  let e := c + (c.toUInt32 >>> ((8 : Int32).toUInt32 &&& Int32.toUInt32 31)).toInt32
  let f := e + (e.toUInt32 >>> ((16 : Int32).toUInt32 &&& Int32.toUInt32 31)).toInt32
  f &&& 63
def wXor (t : Th) (c : Int32) : Th := (t.1, t.2.1, t.2.2.1, t.2.2.2.1, t.2.2.2.2.1, t.2.2.2.2.2 ^^^ ((1 : Int32) <<< (c &&& 31)))
section XY
variable {κ : Nat × Nat} {d : Nat} {M M' : Mm} {a i : Nat} {own : Nat → Nat × Nat} {h aT aJ aC aB aW : Nat} {ts : List Nat} {T : List Th} {J J' : List Wt} {C C' : List (Int32 × Int32)} {B B' : Nat → List (Int32 × Int32)} {W W' : List Int32} {tp nw : Int32}
theorem i_bitCount {x : Int32} : G κ m_Intg_bitCount d M 0 [some (.int x)] [] 0 0 (fun v M' => v = some (.int (bcF x)) ∧ M' = M) := by
  refine g_seq s_Intg_bitCount_0 rfl ?_
  refine g_ldcw k_Intg_265 d_Intg_bitCount_4  ?_
  refine g_seq s_Intg_bitCount_7 rfl ?_
  refine g_ldcw k_Intg_266 d_Intg_bitCount_11  ?_
  refine g_seq s_Intg_bitCount_14 rfl ?_
  refine g_ldcw k_Intg_266 d_Intg_bitCount_18  ?_
  refine g_seq s_Intg_bitCount_21 rfl ?_
  refine g_ldcw k_Intg_267 d_Intg_bitCount_29  ?_
  refine g_seq s_Intg_bitCount_32 rfl ?_
  exact g_iret rfl d_Intg_bitCount_52 (⟨rfl, rfl⟩)
theorem x_watch {c : Int32} (hX : XQ M h T J C B W tp nw) (hlen : T.length < 512) : G κ m_LH_watch (d + 8) M 0 [some (.ref h), some (.int c), none] [] 3 1041 (fun v M' => (¬ (tp ≠ 0 ∧ 0 ≤ c ∧ c < 16) ∧ v = some (.int (-1)) ∧ M' = M) ∨ ((tp ≠ 0 ∧ 0 ≤ c ∧ c < 16) ∧ ∃ T1 i t, Add T tp T1 i t ∧ v = some (.int (bcF (wXor t c).2.2.2.2.2)) ∧ XQ M' h (T1.set i (wXor t c)) J C B W tp nw)) := by
  obtain ⟨own, aT, aJ, aC, aB, aW, ts, hP⟩ := hX
  have hH := hP.1
  refine g_seq s_LH_watch_0 rfl ?_
  refine g_invV (k2 := 3) (n2 := 1041) l_LH_47 d_LH_watch_2 rfl ⟨rfl, Nat.le_of_ble_eq_true rfl, Nat.le_of_ble_eq_true rfl⟩ (hH) (x_hasNameAnd hH) (by first | omega | (simp <;> omega)) (by first | omega | (simp <;> omega)) ?_
  rintro v M1 ⟨rfl, rfl⟩
  refine g_if_ne (tgt := 10) d_LH_watch_5 (by decide) (fun h1 => ?_) (fun h1 => ?_)
  · skip
    have ok1 : tp ≠ 0 ∧ 0 ≤ c ∧ c < 16 := of_decide_eq_true (b2i_n.mp h1)
    refine g_seq s_LH_watch_10 rfl ?_
    refine g_get f_LH_35 d_LH_watch_12 (hH) rfl ?_
    refine g_invV (k2 := 0) (n2 := 0) l_LH_54 d_LH_watch_15 rfl ⟨rfl, Nat.le_of_ble_eq_true rfl, Nat.le_of_ble_eq_true rfl⟩ (hH) (x_foat hP hlen) (by first | omega | (simp <;> omega)) (by first | omega | (simp <;> omega)) ?_
    rintro v M3 ⟨T1, i, t, own', ts', x, hA, rfl, hx, hP3⟩
    have hth := hP3.at hA.1 hx
    obtain ⟨r, ws, hc3, hr3, ho3, hR3⟩ := id hth
    refine g_seq s_LH_watch_18 rfl ?_
    refine g_ifnonnull (tgt := 25) d_LH_watch_20 (by decide) ?_
    refine g_seq s_LH_watch_25 rfl ?_
    refine g_get f_LH_160 d_LH_watch_27 (hc3) rfl ?_
    refine g_seq s_LH_watch_30 rfl ?_
    refine g_put f_LH_160 d_LH_watch_34 (hc3) rfl rfl rfl ?_
    refine g_seq s_LH_watch_37 rfl ?_
    refine g_get f_LH_160 d_LH_watch_38 (up_s) rfl ?_
    refine g_invS  l_LH_163 d_LH_watch_41 rfl ⟨rfl, Nat.le_of_ble_eq_true rfl, Nat.le_of_ble_eq_true rfl⟩ (i_bitCount) (Nat.le_of_eq (Nat.zero_add _)) (Nat.le_of_eq (Nat.zero_add _)) ?_
    rintro v M4 ⟨rfl, rfl⟩
    have hX4 := hP3.told (t' := wXor t c) hx hth (hc3.k1 (Or.inl ⟨rfl, rfl⟩)) (up_s : ThC (up M3 x (eO 1 [.int t.1, .ref r, .int t.2.2.1, .int t.2.2.2.1, .int t.2.2.2.2.1, .int (t.2.2.2.2.2 ^^^ ((1 : Int32) <<< (c &&& 31)))])) x r (wXor t c)) hc3 rfl (hP3.2.2.2.2.1.thing hc3)
    exact g_iret rfl d_LH_watch_44 (Or.inr ⟨ok1, T1, i, t, hA, rfl, own', aT, aJ, aC, aB, aW, ts', hX4⟩)
  · skip
    refine g_seq s_LH_watch_8 rfl ?_
    exact g_iret rfl d_LH_watch_9 (Or.inl ⟨of_decide_eq_false (b2i_0.mp h1), rfl, rfl⟩)
theorem x_count {c : Int32} (hX : XQ M h T J C B W tp nw) (hlen : T.length ≤ 512) : G κ m_LH_count (d + 5) M 0 [some (.ref h), some (.int c)] [] 0 0 (fun v M' => M' = M ∧ ((c = 0 ∧ v = some (.int nw)) ∨ (c = 1 ∧ v = some (.int (nI (sm (fun t : Th => if lent t then 1 else 0) T)))) ∨ (c = 2 ∧ v = some (.int (nI (sm (fun t : Th => t.2.1.length) T)))) ∨ (c = 3 ∧ v = some (.int (nI J.length))) ∨ (c = 4 ∧ v = some (.int (nI C.length))) ∨ (c = 5 ∧ v = some (.int (nI (sm (fun t : Th => if t.2.2.2.2.2 = 0 then 0 else 1) T)))) ∨ (c = 6 ∧ ∃ o, FI (byN tp) T o ∧ v = some (.int (chOf T o))) ∨ (c = 7 ∧ v = some (.int (nI (sm (fun i => (B i).length) (List.range 16))))) ∨ ((c.toInt < 0 ∨ 7 < c.toInt) ∧ v = some (.int (-1))))) := by
  obtain ⟨own, aT, aJ, aC, aB, aW, ts, hP⟩ := hX
  have hH := hP.1
  have htl := hP.len
  obtain ⟨js, hj1, hj2, hj3⟩ := id hP.2.2.1
  obtain ⟨cs, hc1, hc2, hc3⟩ := id hP.2.2.2.1
  rcases c8 c with hc | rfl | rfl | rfl | rfl | rfl | rfl | rfl | rfl
  · skip
    refine g_seq s_LH_count_0 rfl ?_
    refine g_tableOut (tgt := 98) d_LH_count_1 hc (by decide) ?_
    refine g_seq s_LH_count_98 rfl ?_
    exact g_iret rfl d_LH_count_99 (⟨rfl, Or.inr (Or.inr (Or.inr (Or.inr (Or.inr (Or.inr (Or.inr (Or.inr ⟨hc, rfl⟩)))))))⟩)
  · skip
    refine g_seq s_LH_count_0 rfl ?_
    refine g_tableIn (tgt := 48) d_LH_count_1 (by decide) (by decide) (off := 47) (by decide) (by decide) ?_
    refine g_seq s_LH_count_48 rfl ?_
    refine g_get f_LH_39 d_LH_count_49 (hH) rfl ?_
    exact g_iret rfl d_LH_count_52 (⟨rfl, Or.inl ⟨rfl, rfl⟩⟩)
  · skip
    refine g_seq s_LH_count_0 rfl ?_
    refine g_tableIn (tgt := 53) d_LH_count_1 (by decide) (by decide) (off := 52) (by decide) (by decide) ?_
    refine g_seq s_LH_count_53 rfl ?_
    refine g_invV  l_LH_191 d_LH_count_54 rfl ⟨rfl, Nat.le_of_ble_eq_true rfl, Nat.le_of_ble_eq_true rfl⟩ (hH) (x_countLeases hH hP.2.1.1 hP.2.1.2.2.2 (by omega)) (Nat.le_of_eq (Nat.zero_add _)) (Nat.le_of_eq (Nat.zero_add _)) ?_
    rintro v M1 ⟨rfl, rfl⟩
    exact g_iret rfl d_LH_count_57 (⟨rfl, Or.inr (Or.inl ⟨rfl, rfl⟩)⟩)
  · skip
    refine g_seq s_LH_count_0 rfl ?_
    refine g_tableIn (tgt := 58) d_LH_count_1 (by decide) (by decide) (off := 57) (by decide) (by decide) ?_
    refine g_seq s_LH_count_58 rfl ?_
    refine g_invV  l_LH_194 d_LH_count_59 rfl ⟨rfl, Nat.le_of_ble_eq_true rfl, Nat.le_of_ble_eq_true rfl⟩ (hH) (x_countWaiting hH hP.2.1.1 hP.2.1.2.2.2 (by omega)) (Nat.le_of_eq (Nat.zero_add _)) (Nat.le_of_eq (Nat.zero_add _)) ?_
    rintro v M1 ⟨rfl, rfl⟩
    exact g_iret rfl d_LH_count_62 (⟨rfl, Or.inr (Or.inr (Or.inl ⟨rfl, rfl⟩))⟩)
  · skip
    refine g_seq s_LH_count_0 rfl ?_
    refine g_tableIn (tgt := 63) d_LH_count_1 (by decide) (by decide) (off := 62) (by decide) (by decide) ?_
    refine g_seq s_LH_count_63 rfl ?_
    refine g_get f_LH_16 d_LH_count_64 (hH) rfl ?_
    refine g_invL  l_LH_98 d_LH_count_67 rfl ⟨rfl, Nat.le_of_ble_eq_true rfl, Nat.le_of_ble_eq_true rfl⟩ (hj1) (al_size hj1) (Nat.le_of_eq (Nat.zero_add _)) (Nat.le_of_eq (Nat.zero_add _)) ?_
    rintro v M1 ⟨rfl, rfl⟩
    exact g_iret rfl d_LH_count_70 (⟨rfl, Or.inr (Or.inr (Or.inr (Or.inl ⟨rfl, by rw [hj3.1]⟩)))⟩)
  · skip
    refine g_seq s_LH_count_0 rfl ?_
    refine g_tableIn (tgt := 71) d_LH_count_1 (by decide) (by decide) (off := 70) (by decide) (by decide) ?_
    refine g_seq s_LH_count_71 rfl ?_
    refine g_get f_LH_19 d_LH_count_72 (hH) rfl ?_
    refine g_invL  l_LH_98 d_LH_count_75 rfl ⟨rfl, Nat.le_of_ble_eq_true rfl, Nat.le_of_ble_eq_true rfl⟩ (hc1) (al_size hc1) (Nat.le_of_eq (Nat.zero_add _)) (Nat.le_of_eq (Nat.zero_add _)) ?_
    rintro v M1 ⟨rfl, rfl⟩
    exact g_iret rfl d_LH_count_78 (⟨rfl, Or.inr (Or.inr (Or.inr (Or.inr (Or.inl ⟨rfl, by rw [hc3.1]⟩))))⟩)
  · skip
    refine g_seq s_LH_count_0 rfl ?_
    refine g_tableIn (tgt := 79) d_LH_count_1 (by decide) (by decide) (off := 78) (by decide) (by decide) ?_
    refine g_seq s_LH_count_79 rfl ?_
    refine g_invV  l_LH_197 d_LH_count_80 rfl ⟨rfl, Nat.le_of_ble_eq_true rfl, Nat.le_of_ble_eq_true rfl⟩ (hH) (x_countWatchedNames hH hP.2.1.1 hP.2.1.2.2.2 (by omega)) (Nat.le_of_eq (Nat.zero_add _)) (Nat.le_of_eq (Nat.zero_add _)) ?_
    rintro v M1 ⟨rfl, rfl⟩
    exact g_iret rfl d_LH_count_83 (⟨rfl, Or.inr (Or.inr (Or.inr (Or.inr (Or.inr (Or.inl ⟨rfl, rfl⟩)))))⟩)
  · skip
    refine g_seq s_LH_count_0 rfl ?_
    refine g_tableIn (tgt := 84) d_LH_count_1 (by decide) (by decide) (off := 83) (by decide) (by decide) ?_
    refine g_seq s_LH_count_84 rfl ?_
    refine g_get f_LH_35 d_LH_count_86 (hH) rfl ?_
    refine g_invV  l_LH_148 d_LH_count_89 rfl ⟨rfl, Nat.le_of_ble_eq_true rfl, Nat.le_of_ble_eq_true rfl⟩ (hH) (x_changesOf hH hP.2.1 (by omega)) (Nat.le_of_eq (Nat.zero_add _)) (Nat.le_of_eq (Nat.zero_add _)) ?_
    rintro v M1 ⟨rfl, o, hFI, rfl⟩
    exact g_iret rfl d_LH_count_92 (⟨rfl, Or.inr (Or.inr (Or.inr (Or.inr (Or.inr (Or.inr (Or.inl ⟨rfl, o, hFI, rfl⟩))))))⟩)
  · skip
    refine g_seq s_LH_count_0 rfl ?_
    refine g_tableIn (tgt := 93) d_LH_count_1 (by decide) (by decide) (off := 92) (by decide) (by decide) ?_
    refine g_seq s_LH_count_93 rfl ?_
    refine g_invV  l_LH_200 d_LH_count_94 rfl ⟨rfl, Nat.le_of_ble_eq_true rfl, Nat.le_of_ble_eq_true rfl⟩ (hH) (x_countNotes hH hP.2.2.2.2.1) (Nat.le_of_eq (Nat.zero_add _)) (Nat.le_of_eq (Nat.zero_add _)) ?_
    rintro v M1 ⟨rfl, rfl⟩
    exact g_iret rfl d_LH_count_97 (⟨rfl, Or.inr (Or.inr (Or.inr (Or.inr (Or.inr (Or.inr (Or.inr (Or.inl ⟨rfl, rfl⟩)))))))⟩)
end XY
end
section
abbrev TS : Type := List Th × (Nat → List (Int32 × Int32)) × List Int32 × Int32
/-- one lease ends: that of thing i, at its time -/
def tkS (i : Nat) (t : Th) (s : TS) : TS := (s.1.set i (endT t.2.2.2.1 t), tellB t.2.2.2.2.2 (t.1, endK t) 16 s.2.1, endW t.2.2.2.1 t s.2.2.1, t.2.2.2.1)
/-- k leases end, one after the other, up to the time tg; then none is left -/
def TkR (tg : Int32) : Nat → TS → TS → Prop
  | 0, s, s' => s' = s ∧ ∀ i t, MinT s.1 s.1.length (some i) → s.1[i]? = some t → ¬ t.2.2.2.1 ≤ tg
  | k + 1, s, s' => ∃ i t, MinT s.1 s.1.length (some i) ∧ s.1[i]? = some t ∧ t.2.2.2.1 ≤ tg ∧ TkR tg k (tkS i t s) s'
def phT (t : Th) : Nat := (if lent t then 1 else 0) + t.2.1.length
def cpT (tg : Int32) (t : Th) : Nat := if lent t = true ∧ t.2.2.2.1 ≤ tg then (tg.toInt + 1 - t.2.2.2.1.toInt).toNat else 0
/-- a thing as it may stand -/
def okT (t : Th) : Prop := t.2.1.length ≤ 5 ∧ (∀ (j : Nat) (w : Wt), t.2.1[j]? = some w → 1 ≤ w.2.1.toInt ∧ w.2.1.toInt ≤ 100) ∧ (lent t = true → 0 ≤ t.2.2.2.1.toInt ∧ t.2.2.2.1.toInt ≤ 100000)
theorem addT {x y : Int32} (h1 : -2147483648 ≤ x.toInt + y.toInt) (h2 : x.toInt + y.toInt < 2147483648) : (x + y).toInt = x.toInt + y.toInt := by
  rw [Int32.toInt_add]
  exact Int.bmod_eq_of_le (by omega) (by omega)
theorem sm_set {α : Type} {f : α → Nat} : ∀ {l : List α} {i : Nat} {x y : α}, l[i]? = some x → sm f (l.set i y) + f x = sm f l + f y := by
  intro l
  induction l with
  | nil => intro i x y h; simp at h
  | cons a l ih =>
    intro i x y h
    cases i with
    | zero => simp at h; subst h; simp [sm]; omega
    | succ i =>
      have := ih (y := y) (by simpa using h)
      simp [sm] at this ⊢
      omega
theorem sm_ge {α : Type} {f : α → Nat} {l : List α} {i : Nat} {x : α} (h : l[i]? = some x) : f x ≤ sm f l := by
  have := sm_set (f := f) (y := x) h
  have hx := List.mem_of_getElem? h
  unfold sm
  induction l generalizing i with
  | nil => simp at h
  | cons a l ih =>
    cases i with
    | zero => simp at h; subst h; simp
    | succ i =>
      have h2 : l[i]? = some x := by simpa using h
      have := ih h2 (sm_set h2) (List.mem_of_getElem? h2)
      simp
      omega
theorem sm_le {α : Type} {f : α → Nat} {c : Nat} {l : List α} (h : ∀ x ∈ l, f x ≤ c) : sm f l ≤ c * l.length := by
  unfold sm
  induction l with
  | nil => simp
  | cons a l ih =>
    have h1 := h a List.mem_cons_self
    have h2 := ih (fun x hx => h x (List.mem_cons_of_mem _ hx))
    simp [Nat.mul_add]
    omega
theorem endT_ok {t : Th} (h : okT t) (hl : lent t = true) (hu : t.2.2.2.1.toInt ≤ 50000) : okT (endT t.2.2.2.1 t) ∧ phT (endT t.2.2.2.1 t) + 1 ≤ phT t ∧ ∀ tg, t.2.2.2.1 ≤ tg → cpT tg (endT t.2.2.2.1 t) + 1 ≤ cpT tg t := by
  obtain ⟨nm, row, ho, un, ch, wa⟩ := t
  obtain ⟨h1, h2, h3⟩ := h
  have h3' := h3 hl
  cases row with
  | nil =>
    refine ⟨⟨Nat.zero_le _, fun j w hw => by simp [endT] at hw, fun hh => by simp [endT, lent] at hh⟩, ?_, fun tg htg => ?_⟩
    · have e1 : phT (endT un (nm, [], ho, un, ch, wa)) = 0 := by simp [phT, endT, lent]
      have e2 : phT (nm, [], ho, un, ch, wa) = 1 := by simp only [phT, hl]; rfl
      show phT (endT un (nm, [], ho, un, ch, wa)) + 1 ≤ _
      omega
    · have e1 : cpT tg (endT un (nm, [], ho, un, ch, wa)) = 0 := by simp [cpT, endT, lent]
      show cpT tg (endT un (nm, [], ho, un, ch, wa)) + 1 ≤ _
      rw [e1]
      unfold cpT
      rw [if_pos ⟨hl, htg⟩]
      have : un.toInt ≤ tg.toInt := Int32.le_iff_toInt_le.mp htg
      show 0 + 1 ≤ (tg.toInt + 1 - un.toInt).toNat
      omega
  | cons w row =>
    have hw := h2 0 w rfl
    have hadd : (un + w.2.1).toInt = un.toInt + w.2.1.toInt := addT (by have := h3'.1; simp at this ⊢; omega) (by have := h3'.2; simp at this ⊢; omega)
    have hu0 : 0 ≤ un.toInt := h3'.1
    have hu1 : un.toInt ≤ 50000 := hu
    refine ⟨⟨?_, fun j w' hw' => h2 (j + 1) w' (by simpa [endT] using hw'), fun _ => ?_⟩, ?_, fun tg htg => ?_⟩
    · simp at h1; show row.length ≤ 5; omega
    · show 0 ≤ (un + w.2.1).toInt ∧ (un + w.2.1).toInt ≤ 100000
      rw [hadd]; omega
    · have e1 : phT (endT un (nm, w :: row, ho, un, ch, wa)) ≤ 1 + row.length := Nat.add_le_add_right (by cases lent (endT un (nm, w :: row, ho, un, ch, wa)) <;> decide) _
      have e2 : phT (nm, w :: row, ho, un, ch, wa) = 1 + (row.length + 1) := by simp only [phT, hl]; rfl
      show phT (endT un (nm, w :: row, ho, un, ch, wa)) + 1 ≤ _
      omega
    · have hle : un.toInt ≤ tg.toInt := Int32.le_iff_toInt_le.mp htg
      have e2 : cpT tg (nm, w :: row, ho, un, ch, wa) = (tg.toInt + 1 - un.toInt).toNat := by unfold cpT; rw [if_pos ⟨hl, htg⟩]
      have e1 : cpT tg (endT un (nm, w :: row, ho, un, ch, wa)) ≤ (tg.toInt + 1 - (un.toInt + w.2.1.toInt)).toNat := by
        unfold cpT
        split
        · show (tg.toInt + 1 - (un + w.2.1).toInt).toNat ≤ _
          rw [hadd]; exact Nat.le_refl _
        · exact Nat.zero_le _
      show cpT tg (endT un (nm, w :: row, ho, un, ch, wa)) + 1 ≤ _
      omega
theorem endW_len {u : Int32} {t : Th} {W : List Int32} : (endW u t W).length + (endT u t).2.1.length ≤ W.length + t.2.1.length := by
  obtain ⟨nm, row, ho, un, ch, wa⟩ := t
  cases row with
  | nil => simp [endW, endT]
  | cons w row => simp [endW, endT]; omega
theorem tellB_len {wa : Int32} {x : Int32 × Int32} {n : Nat} {B : Nat → List (Int32 × Int32)} (h8 : ∀ i, i < 16 → (B i).length ≤ 8) : ∀ i, i < 16 → (tellB wa x n B i).length ≤ 8 := by
  intro i hi
  unfold tellB
  split
  · exact push8_len (h8 i hi)
  · exact h8 i hi
section XI
variable {κ : Nat × Nat} {d : Nat} {M M' : Mm} {a i : Nat} {own : Nat → Nat × Nat} {h aT aJ aC aB aW : Nat} {ts : List Nat} {T : List Th} {J J' : List Wt} {C C' : List (Int32 × Int32)} {B B' : Nat → List (Int32 × Int32)} {W W' : List Int32} {tp nw : Int32}
theorem x_tick {n : Nat} {nwN : Nat} (hX : XQ M h T J C B W tp (nI nwN)) (hn : n ≤ 60) (hnw : nwN ≤ 40000) (hlen : T.length ≤ 512) (h8 : ∀ i, i < 16 → (B i).length ≤ 8) (hok : ∀ (i : Nat) (t : Th), T[i]? = some t → okT t) (hun : ∀ (i : Nat) (t : Th), T[i]? = some t → lent t = true → (nwN : Int) < t.2.2.2.1.toInt) (hWl : W.length + sm (fun t : Th => t.2.1.length) T ≤ 511) :
    G κ m_LH_tick (d + 11) M 0 [some (.ref h), some (.int (nI n)), none, none, none, none] [] (17 * sm phT T) (418 * sm phT T) (fun v M' => ∃ k s', TkR (nI (nwN + n)) k (T, B, W, nI nwN) s' ∧ v = some (.int (nI k)) ∧ XQ M' h s'.1 J C s'.2.1 s'.2.2.1 tp (nI (nwN + n))) := by
  obtain ⟨own, aT, aJ, aC, aB, aW, ts, hP⟩ := hX
  have htl := hP.len
  have htg : (nI (nwN + n)).toInt = nwN + n := by have := nI_toInt (n := nwN + n) (by omega); omega
  have loop : ∀ F (Mc : Mm) (Tc : List Th) (Bc : Nat → List (Int32 × Int32)) (Wc : List Int32) (nc : Int32) (e : Nat) (o : Option Nat), sm phT Tc ≤ F → Tc.length = T.length → XP Mc own h aT aJ aC aB aW ts Tc J C Bc Wc tp nc → (∀ i, i < 16 → (Bc i).length ≤ 8) → (∀ (i : Nat) (t : Th), Tc[i]? = some t → okT t) → Wc.length + sm (fun t : Th => t.2.1.length) Tc ≤ 511 → e + sm (cpT (nI (nwN + n))) Tc ≤ n * ts.length → MinT Tc Tc.length o →
      G κ m_LH_tick (d + 11) Mc 38 [some (.ref h), some (.int (nI n)), some (.int (nI (nwN + n))), some (.int (nI (n * ts.length))), some (.int (nI e)), some (va_rf (o.bind (fun i => ts[i]?)))] [] (17 * F) (418 * F) (fun v M' => ∃ k s', TkR (nI (nwN + n)) k (Tc, Bc, Wc, nc) s' ∧ v = some (.int (nI (e + k))) ∧ XQ M' h s'.1 J C s'.2.1 s'.2.2.1 tp (nI (nwN + n))) := by
    have body : ∀ F, (∀ F', F = F' + 1 → ∀ (Mc : Mm) (Tc : List Th) (Bc : Nat → List (Int32 × Int32)) (Wc : List Int32) (nc : Int32) (e : Nat) (o : Option Nat), sm phT Tc ≤ F' → Tc.length = T.length → XP Mc own h aT aJ aC aB aW ts Tc J C Bc Wc tp nc → (∀ i, i < 16 → (Bc i).length ≤ 8) → (∀ (i : Nat) (t : Th), Tc[i]? = some t → okT t) → Wc.length + sm (fun t : Th => t.2.1.length) Tc ≤ 511 → e + sm (cpT (nI (nwN + n))) Tc ≤ n * ts.length → MinT Tc Tc.length o →
      G κ m_LH_tick (d + 11) Mc 38 [some (.ref h), some (.int (nI n)), some (.int (nI (nwN + n))), some (.int (nI (n * ts.length))), some (.int (nI e)), some (va_rf (o.bind (fun i => ts[i]?)))] [] (17 * F') (418 * F') (fun v M' => ∃ k s', TkR (nI (nwN + n)) k (Tc, Bc, Wc, nc) s' ∧ v = some (.int (nI (e + k))) ∧ XQ M' h s'.1 J C s'.2.1 s'.2.2.1 tp (nI (nwN + n)))) → ∀ (Mc : Mm) (Tc : List Th) (Bc : Nat → List (Int32 × Int32)) (Wc : List Int32) (nc : Int32) (e : Nat) (o : Option Nat), sm phT Tc ≤ F → Tc.length = T.length → XP Mc own h aT aJ aC aB aW ts Tc J C Bc Wc tp nc → (∀ i, i < 16 → (Bc i).length ≤ 8) → (∀ (i : Nat) (t : Th), Tc[i]? = some t → okT t) → Wc.length + sm (fun t : Th => t.2.1.length) Tc ≤ 511 → e + sm (cpT (nI (nwN + n))) Tc ≤ n * ts.length → MinT Tc Tc.length o →
      G κ m_LH_tick (d + 11) Mc 38 [some (.ref h), some (.int (nI n)), some (.int (nI (nwN + n))), some (.int (nI (n * ts.length))), some (.int (nI e)), some (va_rf (o.bind (fun i => ts[i]?)))] [] (17 * F) (418 * F) (fun v M' => ∃ k s', TkR (nI (nwN + n)) k (Tc, Bc, Wc, nc) s' ∧ v = some (.int (nI (e + k))) ∧ XQ M' h s'.1 J C s'.2.1 s'.2.2.1 tp (nI (nwN + n))) := by
      intro F IH Mc Tc Bc Wc nc e o hF hTl hPc g8 gok gW gcap hmin
      have hmul : n * ts.length ≤ 60 * 512 := Nat.mul_le_mul hn (by omega)
      have fin : ∀ o5, (∀ i t, MinT Tc Tc.length (some i) → Tc[i]? = some t → ¬ t.2.2.2.1 ≤ nI (nwN + n)) → G κ m_LH_tick (d + 11) Mc 85 [some (.ref h), some (.int (nI n)), some (.int (nI (nwN + n))), some (.int (nI (n * ts.length))), some (.int (nI e)), some o5] [] (17 * F) (418 * F) (fun v M' => ∃ k s', TkR (nI (nwN + n)) k (Tc, Bc, Wc, nc) s' ∧ v = some (.int (nI (e + k))) ∧ XQ M' h s'.1 J C s'.2.1 s'.2.2.1 tp (nI (nwN + n))) := by
        intro o5 hdone
        refine g_seq s_LH_tick_85 rfl ?_
        refine g_put f_LH_39 d_LH_tick_87 (hPc.1) rfl rfl rfl ?_
        refine g_seq s_LH_tick_90 rfl ?_
        exact g_iret rfl d_LH_tick_92 (⟨0, (Tc, Bc, Wc, nc), ⟨rfl, hdone⟩, rfl, own, aT, aJ, aC, aB, aW, ts, hPc.house⟩)
      cases o with
      | none =>
        have hdone : ∀ i t, MinT Tc Tc.length (some i) → Tc[i]? = some t → ¬ t.2.2.2.1 ≤ nI (nwN + n) := by
          rintro i t ⟨hi, t2, ht2, hl, -⟩ ht
          exact absurd (hl.symm.trans (hmin i t2 hi ht2)) (by decide)
        rw [Option.bind_none]
        refine g_seq s_LH_tick_38 rfl ?_
        refine g_icmp_ge (tgt := 85) d_LH_tick_41 (by decide) (fun h1 => ?_) (fun h1 => ?_)
        · skip
          exact fin _ hdone
        · skip
          refine g_seq s_LH_tick_44 rfl ?_
          refine g_ifnullN (tgt := 85) d_LH_tick_46 (by decide) ?_
          exact fin _ hdone
      | some i =>
        obtain ⟨hi, t, ht, hl, hb⟩ := id hmin
        obtain ⟨x, hx, hxt⟩ := hPc.2.1.2.2.2.at ht
        obtain ⟨r, hxc⟩ := hxt.cell
        have hotk := gok i t ht
        have key : t.2.2.2.1 ≤ nI (nwN + n) ∨ ∀ i t, MinT Tc Tc.length (some i) → Tc[i]? = some t → ¬ t.2.2.2.1 ≤ nI (nwN + n) := by
          by_cases hle : t.2.2.2.1 ≤ nI (nwN + n)
          · exact Or.inl hle
          · refine Or.inr ?_
            rintro i' t' ⟨hi', t2, ht2, hl2, hb2⟩ ht' hle'
            rw [ht'] at ht2
            cases ht2
            have b1 := hb i' t' hi' ht' hl2
            simp only [bef, decide_eq_false_iff_not, Int32.lt_iff_toInt_lt, ← Int32.toInt_inj] at b1
            rw [Int32.le_iff_toInt_le] at hle hle'
            omega
        rw [Option.bind_some, hx]
        refine g_seq s_LH_tick_38 rfl ?_
        rcases key with hle | hdone
        · have hcp : 1 ≤ cpT (nI (nwN + n)) t := by
            unfold cpT
            rw [if_pos ⟨hl, hle⟩]
            have := Int32.le_iff_toInt_le.mp hle
            omega
          have hcs := sm_ge (f := cpT (nI (nwN + n))) ht
          have hph : 1 ≤ phT t := by simp only [phT, hl]; show 1 ≤ 1 + _; omega
          have hps := sm_ge (f := phT) ht
          obtain ⟨F', rfl⟩ : ∃ F', F = F' + 1 := ⟨F - 1, by omega⟩
          have hule : t.2.2.2.1.toInt ≤ 50000 := by
            have := Int32.le_iff_toInt_le.mp hle
            omega
          obtain ⟨e1, e2, e3⟩ := endT_ok hotk hl hule
          have hrl := sm_ge (f := fun t : Th => t.2.1.length) ht
          refine g_icmp_ge (tgt := 85) d_LH_tick_41 (by decide) (fun hbr => absurd hbr (nI_ge (by omega) (by omega))) (fun hbr => ?_)
          refine g_seq s_LH_tick_44 rfl ?_
          refine g_ifnull d_LH_tick_46 ?_
          refine g_seq s_LH_tick_49 rfl ?_
          refine g_get f_LH_82 d_LH_tick_51 (hxc) rfl ?_
          refine g_seq s_LH_tick_54 rfl ?_
          refine g_icmp_gt (tgt := 85) d_LH_tick_55 (by decide) (fun hbr => absurd hbr (Int32.not_lt.mpr hle)) (fun hbr => ?_)
          refine g_seq s_LH_tick_58 rfl ?_
          refine g_get f_LH_82 d_LH_tick_61 (hxc) rfl ?_
          refine g_put f_LH_39 d_LH_tick_64 (hPc.1) rfl rfl rfl ?_
          have hP2 := hPc.house (tp' := tp) (nw' := t.2.2.2.1)
          refine g_seq s_LH_tick_67 rfl ?_
          refine g_invV (k2 := 17 * F') (n2 := 418 * F') l_LH_75 d_LH_tick_70 rfl ⟨rfl, Nat.le_of_ble_eq_true rfl, Nat.le_of_ble_eq_true rfl⟩ (hP2.1) (x_endLease hP2.1 (hP2.at ht hx) hP2.2.2.2.2.1 g8 hP2.2.2.2.2.2 (by omega) (by have := hotk.1; omega)) (by first | omega | (simp <;> omega)) (by first | omega | (simp <;> omega)) ?_
          rintro v M3 ⟨rfl, ⟨aw, -, hK⟩, q1, q2, q3⟩
          have hP3 := hP2.thing hx hK q1 q2 q3
          refine g_seq s_LH_tick_73 rfl ?_
          refine g_invV (k2 := 17 * F') (n2 := 418 * F') l_LH_102 d_LH_tick_77 rfl ⟨rfl, Nat.le_of_ble_eq_true rfl, Nat.le_of_ble_eq_true rfl⟩ (hP3.1) (x_findNextToEnd hP3.1 hP3.2.1.1 hP3.2.1.2.2.2 (by omega)) (by first | omega | (simp <;> omega)) (by first | omega | (simp <;> omega)) ?_
          rintro v M4 ⟨o', hmin', rfl, rfl⟩
          have s1 := sm_set (f := phT) (y := endT t.2.2.2.1 t) ht
          have s2 := sm_set (f := cpT (nI (nwN + n))) (y := endT t.2.2.2.1 t) ht
          have s3 := sm_set (f := fun t : Th => t.2.1.length) (y := endT t.2.2.2.1 t) ht
          have s4 := endW_len (u := t.2.2.2.1) (t := t) (W := Wc)
          have e4 := e3 _ hle
          have hih := IH F' rfl _ (Tc.set i (endT t.2.2.2.1 t)) (tellB t.2.2.2.2.2 (t.1, endK t) 16 Bc) (endW t.2.2.2.1 t Wc) t.2.2.2.1 (e + 1) o' (by omega) (by simpa using hTl) hP3 (tellB_len g8) (fun j tj hj => ?_) (by omega) (by omega) hmin'
          · have hfin := g_mono hih (Q' := fun v M' => ∃ k s', TkR (nI (nwN + n)) k (Tc, Bc, Wc, nc) s' ∧ v = some (.int (nI (e + k))) ∧ XQ M' h s'.1 J C s'.2.1 s'.2.2.1 tp (nI (nwN + n))) (fun v M' hh => by
              obtain ⟨k, s', h1, h2, h3⟩ := hh
              exact ⟨k + 1, s', ⟨i, t, hmin, ht, hle, h1⟩, by rw [h2]; congr 3; omega, h3⟩)
            cases hbb : o'.bind (fun i => ts[i]?) with
            | none =>
              rw [hbb] at hfin
              refine g_seq s_LH_tick_80 rfl ?_
              rw [nI_1]
              exact hfin
            | some y =>
              rw [hbb] at hfin
              refine g_seq s_LH_tick_80 rfl ?_
              rw [nI_1]
              exact hfin
          · by_cases hji : j = i
            · subst hji
              rw [List.getElem?_set_self (List.getElem?_eq_some_iff.mp ht).1] at hj
              cases hj
              exact e1
            · rw [List.getElem?_set_ne (Ne.symm hji)] at hj
              exact gok j tj hj
        · skip
          refine g_icmp_ge (tgt := 85) d_LH_tick_41 (by decide) (fun h1 => ?_) (fun h1 => ?_)
          · skip
            exact fin _ hdone
          · skip
            refine g_seq s_LH_tick_44 rfl ?_
            refine g_ifnull d_LH_tick_46 ?_
            refine g_seq s_LH_tick_49 rfl ?_
            refine g_get f_LH_82 d_LH_tick_51 (hxc) rfl ?_
            refine g_seq s_LH_tick_54 rfl ?_
            refine g_icmp_gt (tgt := 85) d_LH_tick_55 (by decide) (fun hbr => ?_) (fun hbr => absurd hbr (fun h => h (Int32.not_le.mp (hdone i t hmin ht))))
            exact fin _ hdone
    intro F
    induction F with
    | zero => exact body 0 (fun F' e => by omega)
    | succ F ih => exact body (F + 1) (fun F' e => by cases e; exact ih)
  refine g_seq s_LH_tick_0 rfl ?_
  refine g_if_lt (tgt := 10) d_LH_tick_1 (by decide) (fun hbr => absurd hbr (nI_lt0 (by omega))) (fun hbr => ?_)
  refine g_seq s_LH_tick_4 rfl ?_
  refine g_icmp_le (tgt := 12) d_LH_tick_7 (by decide) (fun hbr => ?_) (fun hbr => absurd hbr (fun h => h (show nI n ≤ nI 60 from nI_le hn (by omega))))
  refine g_seq s_LH_tick_12 rfl ?_
  refine g_get f_LH_39 d_LH_tick_13 (hP.1) rfl ?_
  refine g_seq s_LH_tick_16 rfl ?_
  rw [nI_add]
  refine g_get f_LH_10 d_LH_tick_21 (hP.1) rfl ?_
  refine g_invL (k2 := 17 * sm phT T) (n2 := 418 * sm phT T) l_LH_98 d_LH_tick_24 rfl ⟨rfl, Nat.le_of_ble_eq_true rfl, Nat.le_of_ble_eq_true rfl⟩ (hP.2.1.1) (al_size hP.2.1.1) (by first | omega | (simp <;> omega)) (by first | omega | (simp <;> omega)) ?_
  rintro v M1 ⟨rfl, rfl⟩
  refine g_seq s_LH_tick_27 rfl ?_
  rw [pk_mul]
  refine g_invV (k2 := 17 * sm phT T) (n2 := 418 * sm phT T) l_LH_102 d_LH_tick_33 rfl ⟨rfl, Nat.le_of_ble_eq_true rfl, Nat.le_of_ble_eq_true rfl⟩ (hP.1) (x_findNextToEnd hP.1 hP.2.1.1 hP.2.1.2.2.2 (by omega)) (by first | omega | (simp <;> omega)) (by first | omega | (simp <;> omega)) ?_
  rintro v M2 ⟨o, hmin, rfl, rfl⟩
  have hcap : sm (cpT (nI (nwN + n))) T ≤ n * ts.length := by
    rw [htl]
    refine sm_le (fun t ht => ?_)
    obtain ⟨j, hj⟩ := List.getElem?_of_mem ht
    unfold cpT
    split
    · rename_i hh
      have := hun j t hj hh.1
      omega
    · exact Nat.zero_le _
  have hl := loop (sm phT T) _ T B W (nI nwN) 0 o (Nat.le_refl _) rfl hP h8 hok hWl (by omega) hmin
  have hl2 := g_mono hl (Q' := fun v M' => ∃ k s', TkR (nI (nwN + n)) k (T, B, W, nI nwN) s' ∧ v = some (.int (nI k)) ∧ XQ M' h s'.1 J C s'.2.1 s'.2.2.1 tp (nI (nwN + n))) (fun v M' hh => by
    obtain ⟨k, s', h1, h2, h3⟩ := hh
    exact ⟨k, s', h1, by rw [h2, Nat.zero_add], h3⟩)
  cases hbb : o.bind (fun i => ts[i]?) with
  | none =>
    rw [hbb] at hl2
    refine g_seq s_LH_tick_36 rfl ?_
    exact hl2
  | some y =>
    rw [hbb] at hl2
    refine g_seq s_LH_tick_36 rfl ?_
    exact hl2
end XI
end
section
section GS
variable {κ : Nat × Nat} {μ : MD} {d : Nat} {M : Mm} {pc : Nat} {lv : LV} {rest : List Value} {k n : Nat} {Q : Option Value → Mm → Prop}
/-- an object comes into an array of its own class -/
theorem g_aastS {a N ci v : Nat} {f : Nat → Option Nat} {i : Int32} {q : vw_C} {vs : List Value} (hd : decode μ.2.1 pc = .ok (.aastore, 1)) (hq : vwCl[ci]? = some q) (hM : M a = some (aR q.1 N f)) (hi : vp_in i N) (hv : M v = some (eO ci vs)) (kk : G κ μ d (up M a (aR q.1 N (va_up f i.toNatClampNeg (some v)))) (pc + 1) lv rest k n Q) : G κ μ d M pc lv (.ref v :: .int i :: .ref a :: rest) k n Q := by
  intro p l e R s m args below meth c D A H locs cells slots ls C hS hM0 hl
  obtain ⟨hx, hb, hr, hml, hown, hts, hnw, hlk, hnm, hdf, hdl, hkc, hks, hA, hE0⟩ := id C
  obtain ⟨ws, tys, bk, hK, hP, hD, hz, hEn⟩ := id hM0
  obtain ⟨cA, h1, h2⟩ := hEn a _ hM
  obtain ⟨q0, h3⟩ := List.getElem?_of_mem h1
  obtain ⟨t0, h4⟩ := List.getElem?_of_mem h2
  obtain ⟨qk, h5⟩ := List.getElem?_of_mem (hEn v _ hv)
  refine va_astq hx hb hK hP hD hS q0 t0 qk ci h3 h4 h5 hq hi hd (fun H1 locs1 hP1 hD1 hS1 => ?_)
  exact kk p l e R s m args below meth c D A H1 locs1 cells slots ls C hS1 (mm_set hK hD hz hEn h3 hM (fun xs h => by cases h) ⟨cA, mem_self h3, h2⟩ hP1 hD1) hl
end GS
section XB
variable {κ : Nat × Nat} {d : Nat} {M : Mm} {h : Nat}
theorem x_tickB {c : Int32} (hc : ¬ (0 ≤ c ∧ c ≤ 60)) : G κ m_LH_tick d M 0 [some (.ref h), some (.int c), none, none, none, none] [] 0 0 (fun v M' => v = some (.int (-1)) ∧ M' = M) := by
  refine g_seq s_LH_tick_0 rfl ?_
  refine g_if_lt (tgt := 10) d_LH_tick_1 (by decide) (fun h1 => ?_) (fun h1 => ?_)
  · skip
    refine g_seq s_LH_tick_10 rfl ?_
    exact g_iret rfl d_LH_tick_11 (⟨rfl, rfl⟩)
  · skip
    refine g_seq s_LH_tick_4 rfl ?_
    refine g_icmp_le (tgt := 12) d_LH_tick_7 (by decide) (fun hbr => absurd hbr (fun h2 => hc ⟨Int32.not_lt.mp h1, h2⟩)) (fun hbr => ?_)
    refine g_seq s_LH_tick_10 rfl ?_
    exact g_iret rfl d_LH_tick_11 (⟨rfl, rfl⟩)
/-- the boxes' part, the first n made -/
def PBn (M : Mm) (own : Nat → Nat × Nat) (aB n : Nat) : Prop := ∃ f, M aB = some (aR "LeaseHouse$NoteBox" 16 f) ∧ ∀ i, i < n → ∃ b, f i = some b ∧ BoR M own i b []
theorem x_init {s : Int32} (hM : M h = some (eO 0 [.null, .null, .null, .null, .null, .int 0, .int 0])) : G κ m_LH_init (d + 5) M 0 [some (.ref h), some (.int s), none] [] 38 603 (fun v M' => v = none ∧ XQ M' h [] [] [] (fun _ => []) [] 0 0) := by
  have loop : ∀ n c (Mc : Mm) (own : Nat → Nat × Nat) (q1 q2 q3 qB qW : Nat), c + n = 16 → HoC Mc h q1 q2 q3 qB qW 0 0 → Mc q1 = some (eL []) → own q1 = (0, 0) → Mc q2 = some (eL []) → own q2 = (1, 0) → Mc q3 = some (eL []) → own q3 = (2, 0) → PBn Mc own qB c → PW Mc qW [] →
      G κ m_LH_init (d + 5) Mc 69 [some (.ref h), some (.int s), some (.int (nI c))] [] (2 * n) (4 * n) (fun v M' => v = none ∧ XQ M' h [] [] [] (fun _ => []) [] 0 0) := by
    intro n
    induction n with
    | zero =>
      intro c Mc own q1 q2 q3 qB qW hc g1 g2 g3 g4 g5 g6 g7 g8 g9
      have h16 : c = 16 := by omega
      subst h16
      obtain ⟨f, f1, f2⟩ := g8
      refine g_seq s_LH_init_69 rfl ?_
      refine g_icmp_ge (tgt := 94) d_LH_init_72 (by decide) (fun hbr => ?_) (fun hbr => absurd hbr (fun h => h (by decide)))
      exact g_vret rfl d_LH_init_94 (⟨rfl, own, q1, q2, q3, qB, qW, [], g1, ⟨g2, g3, by simp, R2.nil⟩, ⟨[], g4, g5, R2.nil⟩, ⟨[], g6, g7, R2.nil⟩, ⟨f, f1, f2⟩, g9⟩)
    | succ n ih =>
      intro c Mc own q1 q2 q3 qB qW hc g1 g2 g3 g4 g5 g6 g7 g8 g9
      have hcl : c < 16 := by omega
      obtain ⟨f, f1, f2⟩ := g8
      refine g_seq s_LH_init_69 rfl ?_
      refine g_icmp_ge (tgt := 94) d_LH_init_72 (by decide) (fun hbr => absurd hbr ((show ¬ nI 16 ≤ nI c from nI_ge hcl (by omega)))) (fun hbr => ?_)
      refine g_seq s_LH_init_75 rfl ?_
      refine g_get f_LH_24 d_LH_init_76 (g1) rfl ?_
      refine g_seq s_LH_init_79 rfl ?_
      refine g_new (k' := (2*n+1)) (n' := (4*n+3)) n_LH_22 d_LH_init_80 (by first | omega | (simp <;> omega)) (by first | omega | (simp <;> omega)) (fun b hb hzb => ?_)
      have nb : ∀ x e, Mc x = some e → x ≠ b := fun x e hx e2 => by rw [e2, hb] at hx; cases hx
      refine g_seq s_LH_init_83 rfl ?_
      refine g_invIN (k2 := 2 * n) (n2 := 4 * n) l_LH_42 d_LH_init_84 rfl ⟨rfl, Nat.le_of_ble_eq_true rfl, Nat.le_of_ble_eq_true rfl⟩ (b_init up_s) (by first | omega | (simp <;> omega)) (by first | omega | (simp <;> omega)) ?_
      rintro v M2 ⟨rfl, r, hr, hrz, rfl⟩
      have hrb : r ≠ b := fun e => by rw [e, up_s] at hr; cases hr
      have hr0 : Mc r = none := by rw [up_n hrb] at hr; exact hr
      have nr : ∀ x e, Mc x = some e → x ≠ r := fun x e hx e2 => by rw [e2, hr0] at hx; cases hx
      have hk : ∀ x e, Mc x = some e → up (up (up Mc b (eO 6 [.null])) r (eL [])) b (eO 6 [.ref r]) x = some e := fun x e hx => by rw [up_n (nb x e hx), up_n (nr x e hx), up_n (nb x e hx)]; exact hx
      have hbb : up (up (up Mc b (eO 6 [.null])) r (eL [])) b (eO 6 [.ref r]) b = some (eO 6 [.ref r]) := up_s
      have hrr : up (up (up Mc b (eO 6 [.null])) r (eL [])) b (eO 6 [.ref r]) r = some (eL []) := by rw [up_n hrb]; exact up_s
      generalize up (up (up Mc b (eO 6 [.null])) r (eL [])) b (eO 6 [.ref r]) = M2 at hk hbb hrr
      refine g_aastS d_LH_init_87 rfl (hk qB _ f1) (vp_nI hcl (by omega)) hbb ?_
      rw [nI_cl (by omega)]
      refine g_seq s_LH_init_88 rfl ?_
      rw [nI_1]
      have hk3 : ∀ x e, Mc x = some e → x ≠ qB → up M2 qB (aR "LeaseHouse$NoteBox" 16 (va_up f c (some b))) x = some e := fun x e hx hne => by rw [up_n hne]; exact hk x e hx
      have nqB : ∀ x e, Mc x = some e → (kd e == 100) = false → x ≠ qB := fun x e hx hne e2 => by rw [e2, f1] at hx; cases hx; cases hne
      have hrq : r ≠ qB := fun e => by rw [e, f1] at hr0; cases hr0
      have hbq : b ≠ qB := fun e => by rw [e, f1] at hb; cases hb
      obtain ⟨aw, fw, w1, w2, w3⟩ := id g9
      have hawq : aw ≠ qB := fun e => by rw [e, f1] at w2; cases w2
      refine ih (c + 1) _ (fun x => if x = r then (4, c) else own x) q1 q2 q3 qB qW (by omega) (hk3 h _ g1 (nqB h _ g1 rfl)) (hk3 q1 _ g2 (nqB q1 _ g2 rfl)) ((if_neg (nr q1 _ g2)).trans g3) (hk3 q2 _ g4 (nqB q2 _ g4 rfl)) ((if_neg (nr q2 _ g4)).trans g5) (hk3 q3 _ g6 (nqB q3 _ g6 rfl)) ((if_neg (nr q3 _ g6)).trans g7) ?_ ⟨aw, fw, hk3 qW _ w1 (nqB qW _ w1 rfl), hk3 aw _ w2 hawq, w3⟩
      refine ⟨_, up_s, fun i hi => ?_⟩
      by_cases hic : i = c
      · subst hic
        exact ⟨b, va_up_self _ _ _, r, [], (up_n hbq).trans hbb, (up_n hrq).trans hrr, if_pos rfl, R2.nil⟩
      · obtain ⟨b', e1, l, ws, e2, e3, e4, e5⟩ := f2 i (by omega)
        have hws : ws = [] := List.length_eq_zero_iff.mp e5.1
        subst hws
        exact ⟨b', by rw [va_up_ne _ _ hic]; exact e1, l, [], hk3 b' _ e2 (nqB b' _ e2 rfl), hk3 l _ e3 (nqB l _ e3 rfl), (if_neg (nr l _ e3)).trans e4, R2.nil⟩
  refine g_seq s_LH_init_0 rfl ?_
  refine g_objInit l_LH_1 oi_1 oi_2 d_LH_init_1 (Nat.le_of_ble_eq_true rfl) ?_
  refine g_seq s_LH_init_4 rfl ?_
  refine g_new (k' := 37) (n' := 600) n_LH_7 d_LH_init_5 (by first | omega | (simp <;> omega)) (by first | omega | (simp <;> omega)) (fun q1 hq1 hzq1 => ?_)
  have n1 : h ≠ q1 := fun e => by rw [e, hq1] at hM; cases hM
  refine g_seq s_LH_init_8 rfl ?_
  refine g_invI (k2 := 37) (n2 := 600) l_LH_9 d_LH_init_9 rfl ⟨rfl, Nat.le_of_ble_eq_true rfl, Nat.le_of_ble_eq_true rfl⟩ (al_init (mc := 0) (e2 := .null) up_s) (by first | omega | (simp <;> omega)) (by first | omega | (simp <;> omega)) ?_
  rintro v M1 ⟨rfl, rfl⟩
  rw [up_up]
  refine g_putF f_LH_10 ⟨_, rfl, rfl⟩ rfl d_LH_init_12 ((up_n n1).trans hM) rfl rfl rfl ?_
  have a1 : up (up M q1 (eL [])) h (eO 0 [.ref q1, .null, .null, .null, .null, .int 0, .int 0]) q1 = some (eL []) := by rw [up_n n1.symm]; exact up_s
  have a0 : up (up M q1 (eL [])) h (eO 0 [.ref q1, .null, .null, .null, .null, .int 0, .int 0]) h = some (eO 0 [.ref q1, .null, .null, .null, .null, .int 0, .int 0]) := up_s
  generalize up (up M q1 (eL [])) h (eO 0 [.ref q1, .null, .null, .null, .null, .int 0, .int 0]) = M1 at a1 a0
  refine g_seq s_LH_init_15 rfl ?_
  refine g_new (k' := 36) (n' := 597) n_LH_7 d_LH_init_16 (by first | omega | (simp <;> omega)) (by first | omega | (simp <;> omega)) (fun q2 hq2 hzq2 => ?_)
  have n2 : ∀ x e, M1 x = some e → x ≠ q2 := fun x e hx e2 => by rw [e2, hq2] at hx; cases hx
  refine g_seq s_LH_init_19 rfl ?_
  refine g_invI (k2 := 36) (n2 := 597) l_LH_9 d_LH_init_20 rfl ⟨rfl, Nat.le_of_ble_eq_true rfl, Nat.le_of_ble_eq_true rfl⟩ (al_init (mc := 0) (e2 := .null) up_s) (by first | omega | (simp <;> omega)) (by first | omega | (simp <;> omega)) ?_
  rintro v M2 ⟨rfl, rfl⟩
  rw [up_up]
  refine g_putF f_LH_16 ⟨_, rfl, rfl⟩ rfl d_LH_init_23 ((up_n (n2 h _ a0)).trans a0) rfl rfl rfl ?_
  have b0 : up (up M1 q2 (eL [])) h (eO 0 [.ref q1, .ref q2, .null, .null, .null, .int 0, .int 0]) h = some (eO 0 [.ref q1, .ref q2, .null, .null, .null, .int 0, .int 0]) := up_s
  have h1 : q1 ≠ h := n1.symm
  have b1 : up (up M1 q2 (eL [])) h (eO 0 [.ref q1, .ref q2, .null, .null, .null, .int 0, .int 0]) q1 = some (eL []) := by rw [up_n h1, up_n (n2 q1 _ a1)]; exact a1
  have b2 : up (up M1 q2 (eL [])) h (eO 0 [.ref q1, .ref q2, .null, .null, .null, .int 0, .int 0]) q2 = some (eL []) := by rw [up_n (n2 h _ a0).symm]; exact up_s
  have h2 : q2 ≠ h := (n2 h _ a0).symm
  have d12 : q1 ≠ q2 := n2 q1 _ a1
  generalize up (up M1 q2 (eL [])) h (eO 0 [.ref q1, .ref q2, .null, .null, .null, .int 0, .int 0]) = M2 at b0 b1 b2
  refine g_seq s_LH_init_26 rfl ?_
  refine g_new (k' := 35) (n' := 594) n_LH_7 d_LH_init_27 (by first | omega | (simp <;> omega)) (by first | omega | (simp <;> omega)) (fun q3 hq3 hzq3 => ?_)
  have n3 : ∀ x e, M2 x = some e → x ≠ q3 := fun x e hx e2 => by rw [e2, hq3] at hx; cases hx
  refine g_seq s_LH_init_30 rfl ?_
  refine g_invI (k2 := 35) (n2 := 594) l_LH_9 d_LH_init_31 rfl ⟨rfl, Nat.le_of_ble_eq_true rfl, Nat.le_of_ble_eq_true rfl⟩ (al_init (mc := 0) (e2 := .null) up_s) (by first | omega | (simp <;> omega)) (by first | omega | (simp <;> omega)) ?_
  rintro v M3 ⟨rfl, rfl⟩
  rw [up_up]
  refine g_putF f_LH_19 ⟨_, rfl, rfl⟩ rfl d_LH_init_34 ((up_n (n3 h _ b0)).trans b0) rfl rfl rfl ?_
  have c0 : up (up M2 q3 (eL [])) h (eO 0 [.ref q1, .ref q2, .ref q3, .null, .null, .int 0, .int 0]) h = some (eO 0 [.ref q1, .ref q2, .ref q3, .null, .null, .int 0, .int 0]) := up_s
  have c1 : up (up M2 q3 (eL [])) h (eO 0 [.ref q1, .ref q2, .ref q3, .null, .null, .int 0, .int 0]) q1 = some (eL []) := by rw [up_n h1, up_n (n3 q1 _ b1)]; exact b1
  have c2 : up (up M2 q3 (eL [])) h (eO 0 [.ref q1, .ref q2, .ref q3, .null, .null, .int 0, .int 0]) q2 = some (eL []) := by rw [up_n h2, up_n (n3 q2 _ b2)]; exact b2
  have h3 : q3 ≠ h := (n3 h _ b0).symm
  have c3 : up (up M2 q3 (eL [])) h (eO 0 [.ref q1, .ref q2, .ref q3, .null, .null, .int 0, .int 0]) q3 = some (eL []) := by rw [up_n h3]; exact up_s
  have d13 : q1 ≠ q3 := n3 q1 _ b1
  have d23 : q2 ≠ q3 := n3 q2 _ b2
  generalize up (up M2 q3 (eL [])) h (eO 0 [.ref q1, .ref q2, .ref q3, .null, .null, .int 0, .int 0]) = M3 at c0 c1 c2 c3
  refine g_seq s_LH_init_37 rfl ?_
  refine g_newR (k' := 34) (n' := 578) (N := 16) cl_LH_22 ao_NoteBox d_LH_init_40 (by decide) (by decide) (by decide) (by omega) (by omega) (fun qB hqB hzB => ?_)
  have nB : ∀ x e, M3 x = some e → x ≠ qB := fun x e hx e2 => by rw [e2, hqB] at hx; cases hx
  refine g_putF f_LH_24 ⟨_, rfl, rfl⟩ rfl d_LH_init_43 ((up_n (nB h _ c0)).trans c0) rfl rfl rfl ?_
  have hB : qB ≠ h := (nB h _ c0).symm
  have k4 : ∀ x e, M3 x = some e → x ≠ h → up (up M3 qB (aR "LeaseHouse$NoteBox" 16 (fun _ => none))) h (eO 0 [.ref q1, .ref q2, .ref q3, .ref qB, .null, .int 0, .int 0]) x = some e := fun x e hx hne => by rw [up_n hne, up_n (nB x e hx)]; exact hx
  have e0 : up (up M3 qB (aR "LeaseHouse$NoteBox" 16 (fun _ => none))) h (eO 0 [.ref q1, .ref q2, .ref q3, .ref qB, .null, .int 0, .int 0]) h = some (eO 0 [.ref q1, .ref q2, .ref q3, .ref qB, .null, .int 0, .int 0]) := up_s
  have eB : up (up M3 qB (aR "LeaseHouse$NoteBox" 16 (fun _ => none))) h (eO 0 [.ref q1, .ref q2, .ref q3, .ref qB, .null, .int 0, .int 0]) qB = some (aR "LeaseHouse$NoteBox" 16 (fun _ => none)) := by rw [up_n hB]; exact up_s
  have e1 := k4 q1 _ c1 h1
  have e2 := k4 q2 _ c2 h2
  have e3 := k4 q3 _ c3 h3
  clear k4
  generalize up (up M3 qB (aR "LeaseHouse$NoteBox" 16 (fun _ => none))) h (eO 0 [.ref q1, .ref q2, .ref q3, .ref qB, .null, .int 0, .int 0]) = M4 at e0 eB e1 e2 e3
  refine g_seq s_LH_init_46 rfl ?_
  refine g_new (k' := 33) (n' := 576) n_LH_28 d_LH_init_47 (by first | omega | (simp <;> omega)) (by first | omega | (simp <;> omega)) (fun qW hqW hzqW => ?_)
  have nW2 : ∀ x e, M4 x = some e → x ≠ qW := fun x e hx e2 => by rw [e2, hqW] at hx; cases hx
  refine g_seq s_LH_init_50 rfl ?_
  refine g_invIN (k2 := 32) (n2 := 64) l_LH_30 d_LH_init_51 rfl ⟨rfl, Nat.le_of_ble_eq_true rfl, Nat.le_of_ble_eq_true rfl⟩ (wt_init up_s) (by first | omega | (simp <;> omega)) (by first | omega | (simp <;> omega)) ?_
  rintro v M5 ⟨rfl, aw, haw, hawz, rfl⟩
  have hawW : aw ≠ qW := fun e => by rw [e, up_s] at haw; cases haw
  have haw0 : M4 aw = none := by rw [up_n hawW] at haw; exact haw
  have nw2 : ∀ x e, M4 x = some e → x ≠ aw := fun x e hx e2 => by rw [e2, haw0] at hx; cases hx
  have hW : qW ≠ h := (nW2 h _ e0).symm
  have k5 : ∀ x e, M4 x = some e → up (up (up M4 qW (eO 7 [.null, .int 0])) aw (aI 512 (fun _ => 0))) qW (eO 7 [.ref aw, .int 0]) x = some e := fun x e hx => by rw [up_n (nW2 x e hx), up_n (nw2 x e hx), up_n (nW2 x e hx)]; exact hx
  have f0 : up (up (up M4 qW (eO 7 [.null, .int 0])) aw (aI 512 (fun _ => 0))) qW (eO 7 [.ref aw, .int 0]) qW = some (eO 7 [.ref aw, .int 0]) := up_s
  have fw : up (up (up M4 qW (eO 7 [.null, .int 0])) aw (aI 512 (fun _ => 0))) qW (eO 7 [.ref aw, .int 0]) aw = some (aI 512 (fun _ => 0)) := by rw [up_n hawW]; exact up_s
  have hawh : aw ≠ h := (nw2 h _ e0).symm
  generalize up (up (up M4 qW (eO 7 [.null, .int 0])) aw (aI 512 (fun _ => 0))) qW (eO 7 [.ref aw, .int 0]) = M5 at k5 f0 fw
  refine g_putF f_LH_31 ⟨_, rfl, rfl⟩ rfl d_LH_init_54 (k5 h _ e0) rfl rfl rfl ?_
  refine g_seq s_LH_init_57 rfl ?_
  refine g_put f_LH_35 d_LH_init_59 (up_s) rfl rfl rfl ?_
  rw [up_up]
  refine g_seq s_LH_init_62 rfl ?_
  refine g_put f_LH_39 d_LH_init_64 (up_s) rfl rfl rfl ?_
  rw [up_up]
  refine g_seq s_LH_init_67 rfl ?_
  refine loop 16 0 _ (fun x => if x = q1 then (0, 0) else if x = q2 then (1, 0) else (2, 0)) q1 q2 q3 qB qW (by omega) up_s ((up_n h1).trans (k5 q1 _ e1)) (if_pos rfl) ((up_n h2).trans (k5 q2 _ e2)) ?_ ((up_n h3).trans (k5 q3 _ e3)) ?_ ⟨_, (up_n hB).trans (k5 qB _ eB), fun i hi => absurd hi (Nat.not_lt_zero _)⟩ ⟨aw, _, (up_n hW).trans f0, (up_n hawh).trans fw, Nat.zero_le _, fun i x hx => by simp at hx⟩
  · rw [if_neg d12.symm, if_pos rfl]
  · rw [if_neg d13.symm, if_neg d23.symm]
end XB
end
section
/-! THE REFERENCE: its arrays as functions; the memory is hidden -/
def ln (i : Nat) : Nat := match i with
  | 0 => 6
  | 4 => 67200
  | 8 => 21000
  | 9 => 21000
  | 10 => 21000
  | 12 => 30
  | 13 => 30
  | 14 => 30
  | 15 => 4
  | 16 => 4
  | 17 => 128
  | 18 => 128
  | 19 => 16
  | 20 => 6
  | _ => 4200
abbrev Ar : Type := Nat → Nat → Int32
abbrev Sc : Type := Nat → Int32
def moF (ad : Nat → Nat) (sc : Sc) : List Value := (List.range 21).map (fun i => Value.ref (ad i)) ++ [.int (sc 21), .int (sc 22), .int (sc 23), .int (sc 24), .int (sc 25), .int (sc 26)]
def MoR (M : Mm) (m : Nat) (ad : Nat → Nat) (ar : Ar) (nm : Nat → Int64) (sc : Sc) : Prop := M m = some (eO 9 (moF ad sc)) ∧ (∀ i, i < 21 → i ≠ 1 → M (ad i) = some (aI (ln i) (ar i))) ∧ M (ad 1) = some (aJ 4200 nm) ∧ ∀ i j, i < 21 → j < 21 → ad i = ad j → i = j
/-- row i of the arrays becomes f -/
def arR (ar : Ar) (i : Nat) (f : Nat → Int32) : Ar := fun j => if j = i then f else ar j
def scR (sc : Sc) (i : Nat) (x : Int32) : Sc := fun j => if j = i then x else sc j
theorem arR_s {ar : Ar} {i : Nat} {f : Nat → Int32} : arR ar i f i = f := if_pos rfl
theorem arR_n {ar : Ar} {i j : Nat} {f : Nat → Int32} (h : j ≠ i) : arR ar i f j = ar j := if_neg h
theorem scR_s {sc : Sc} {i : Nat} {x : Int32} : scR sc i x i = x := if_pos rfl
theorem scR_n {sc : Sc} {i j : Nat} {x : Int32} (h : j ≠ i) : scR sc i x j = sc j := if_neg h
theorem moF_a {ad : Nat → Nat} {sc : Sc} {j : Nat} (h : j < 21) : (moF ad sc)[j]? = some (.ref (ad j)) := by
  unfold moF
  rw [List.getElem?_append_left (by simp; exact h)]
  simp [h]
theorem moF_set {ad : Nat → Nat} {sc : Sc} {x : Int32} : moF ad (scR sc 21 x) = (moF ad sc).set 21 (.int x) ∧ moF ad (scR sc 22 x) = (moF ad sc).set 22 (.int x) ∧ moF ad (scR sc 23 x) = (moF ad sc).set 23 (.int x) ∧ moF ad (scR sc 24 x) = (moF ad sc).set 24 (.int x) ∧ moF ad (scR sc 25 x) = (moF ad sc).set 25 (.int x) ∧ moF ad (scR sc 26 x) = (moF ad sc).set 26 (.int x) := ⟨rfl, rfl, rfl, rfl, rfl, rfl⟩
/-- as G, over the reference's state -/
def GN (κ : Nat × Nat) (μ : MD) (d m : Nat) (ad : Nat → Nat) (ar : Ar) (nm : Nat → Int64) (sc : Sc) (pc : Nat) (lv : LV) (st : List Value) (Q : Option Value → Ar → (Nat → Int64) → Sc → Prop) : Prop :=
  ∀ M, MoR M m ad ar nm sc → G κ μ d M pc lv st 0 0 (fun v M' => ∃ ar' nm' sc', MoR M' m ad ar' nm' sc' ∧ Q v ar' nm' sc')
section NR
variable {κ : Nat × Nat} {μ ν : MD} {d m : Nat} {ad : Nat → Nat} {ar : Ar} {nm : Nat → Int64} {sc : Sc} {pc : Nat} {lv : LV} {st rest : List Value} {Q : Option Value → Ar → (Nat → Int64) → Sc → Prop}
theorem n_seq {pc' : Nat} {lv' : LV} {st' : List Value} {is : List (Instr × Nat × Int32)} (hs : dsq μ.2.1 pc is pc' = true) (h : pxs is lv st (fun a b => some (a, b)) = some (lv', st')) (kk : GN κ μ d m ad ar nm sc pc' lv' st' Q) : GN κ μ d m ad ar nm sc pc lv st Q := fun M hM => g_seq hs h (kk M hM)
theorem n_mono {Q' : Option Value → Ar → (Nat → Int64) → Sc → Prop} (h : GN κ μ d m ad ar nm sc pc lv st Q) (hQ : ∀ v a n s, Q v a n s → Q' v a n s) : GN κ μ d m ad ar nm sc pc lv st Q' := fun M hM => g_mono (h M hM) (fun v M' ⟨a, n, s, h1, h2⟩ => ⟨a, n, s, h1, hQ v a n s h2⟩)
theorem n_geta {idx j : Nat} {ty : FieldType} {fin : Bool} (F : FL μ.1.cls idx 9 j ty fin) (hd : decode μ.2.1 pc = .ok (.getfield idx, 3)) (hj : j < 21) (kk : GN κ μ d m ad ar nm sc (pc + 3) lv (.ref (ad j) :: rest) Q) : GN κ μ d m ad ar nm sc pc lv (.ref m :: rest) Q := fun M hM => g_get F hd hM.1 (moF_a hj) (kk M hM)
theorem n_gets {idx j : Nat} {ty : FieldType} {fin : Bool} {x : Int32} (F : FL μ.1.cls idx 9 j ty fin) (hd : decode μ.2.1 pc = .ok (.getfield idx, 3)) (hj : (moF ad sc)[j]? = some (.int x)) (kk : GN κ μ d m ad ar nm sc (pc + 3) lv (.int x :: rest) Q) : GN κ μ d m ad ar nm sc pc lv (.ref m :: rest) Q := fun M hM => g_get F hd hM.1 hj (kk M hM)
theorem n_puts {idx j : Nat} {x : Int32} (F : FL μ.1.cls idx 9 j .int false) (hd : decode μ.2.1 pc = .ok (.putfield idx, 3)) (hj : vset (moF ad sc) j (.int x) some = some (moF ad (scR sc j x))) (kk : GN κ μ d m ad ar nm (scR sc j x) (pc + 3) lv rest Q) : GN κ μ d m ad ar nm sc pc lv (.int x :: .ref m :: rest) Q := fun M hM => by
  refine g_put F hd hM.1 hj rfl rfl (kk _ ⟨up_s, fun i hi h1 => ?_, ?_, hM.2.2.2⟩)
  · have h := hM.2.1 i hi h1
    rw [up_n (fun e => by rw [e, hM.1] at h; cases h)]; exact h
  · have h := hM.2.2.1
    rw [up_n (fun e => by rw [e, hM.1] at h; cases h)]; exact h
theorem n_ald {i j : Nat} {x : Int32} (hd : decode μ.2.1 pc = .ok (.iaload, 1)) (hi : i < 21 ∧ i ≠ 1) (hx : x = nI j) (hj : j < ln i) (kk : GN κ μ d m ad ar nm sc (pc + 1) lv (.int (ar i j) :: rest) Q) : GN κ μ d m ad ar nm sc pc lv (.int x :: .ref (ad i) :: rest) Q := fun M hM => by
  have hl : ln i ≤ 67200 := by unfold ln; split <;> decide
  subst hx
  have h := kk M hM
  rw [← nI_cl (j := j) (by omega)] at h
  exact g_iald hd (hM.2.1 i hi.1 hi.2) (vp_nI hj (by omega)) (by rw [nI_cl (by omega)] at h ⊢; exact h)
theorem n_ast {i j : Nat} {x y : Int32} (hd : decode μ.2.1 pc = .ok (.iastore, 1)) (hi : i < 21 ∧ i ≠ 1) (hx : x = nI j) (hj : j < ln i) (kk : GN κ μ d m ad (arR ar i (upd (ar i) j y)) nm sc (pc + 1) lv rest Q) : GN κ μ d m ad ar nm sc pc lv (.int y :: .int x :: .ref (ad i) :: rest) Q := fun M hM => by
  have hl : ln i ≤ 67200 := by unfold ln; split <;> decide
  subst hx
  refine g_iast hd (hM.2.1 i hi.1 hi.2) (vp_nI hj (by omega)) ?_
  rw [nI_cl (by omega)]
  refine kk _ ⟨?_, fun i' hi' h1 => ?_, ?_, hM.2.2.2⟩
  · have h := hM.2.1 i hi.1 hi.2
    rw [up_n (fun e => by rw [← e, hM.1] at h; cases h)]; exact hM.1
  · by_cases hii : i' = i
    · subst hii
      rw [up_s, arR_s]
    · rw [arR_n hii, up_n (fun e => hii (hM.2.2.2 i' i hi' hi.1 e))]
      exact hM.2.1 i' hi' h1
  · rw [up_n (fun e => hi.2 (hM.2.2.2 1 i (by decide) hi.1 e).symm)]
    exact hM.2.2.1
theorem n_lald {j : Nat} {x : Int32} (hd : decode μ.2.1 pc = .ok (.laload, 1)) (hx : x = nI j) (hj : j < 4200) (kk : GN κ μ d m ad ar nm sc (pc + 1) lv (.long (nm j) :: rest) Q) : GN κ μ d m ad ar nm sc pc lv (.int x :: .ref (ad 1) :: rest) Q := fun M hM => by
  subst hx
  exact g_lald hd hM.2.2.1 (vp_nI hj (by omega)) (by rw [nI_cl (by omega)]; exact kk M hM)
theorem n_last {j : Nat} {x : Int32} {y : Int64} (hd : decode μ.2.1 pc = .ok (.lastore, 1)) (hx : x = nI j) (hj : j < 4200) (kk : GN κ μ d m ad ar (vp_updL nm j y) sc (pc + 1) lv rest Q) : GN κ μ d m ad ar nm sc pc lv (.long y :: .int x :: .ref (ad 1) :: rest) Q := fun M hM => by
  subst hx
  refine g_last hd hM.2.2.1 (vp_nI hj (by omega)) ?_
  rw [nI_cl (by omega)]
  refine kk _ ⟨?_, fun i hi h1 => ?_, up_s, hM.2.2.2⟩
  · have h := hM.2.2.1
    rw [up_n (fun e => by rw [← e, hM.1] at h; cases h)]; exact hM.1
  · rw [up_n (fun e => h1 (hM.2.2.2 i 1 hi (by decide) e))]
    exact hM.2.1 i hi h1
theorem n_ldc2 {idx : Nat} {v : Int64} (hw : Cond.constantLong μ.1.cls idx v ∈ gW) (hd : decode μ.2.1 pc = .ok (.ldc2_w idx, 3)) (kk : GN κ μ d m ad ar nm sc (pc + 3) lv (.long v :: rest) Q) : GN κ μ d m ad ar nm sc pc lv rest Q := fun M hM => g_ldc2 hw hd (kk M hM)
theorem n_lcmp {x y : Int64} (hd : decode μ.2.1 pc = .ok (.lcmp, 1)) (kk : GN κ μ d m ad ar nm sc (pc + 1) lv (.int (lg_cmp x y) :: rest) Q) : GN κ μ d m ad ar nm sc pc lv (.long y :: .long x :: rest) Q := fun M hM => g_lcmp hd (kk M hM)
theorem n_ldiv {x y : Int64} (hd : decode μ.2.1 pc = .ok (.ldiv, 1)) (hne : ¬ y = 0) (kk : GN κ μ d m ad ar nm sc (pc + 1) lv (.long (x / y) :: rest) Q) : GN κ μ d m ad ar nm sc pc lv (.long y :: .long x :: rest) Q := fun M hM => g_ldiv hd hne (kk M hM)
theorem n_lrem {x y : Int64} (hd : decode μ.2.1 pc = .ok (.lrem, 1)) (hne : ¬ y = 0) (kk : GN κ μ d m ad ar nm sc (pc + 1) lv (.long (x - x / y * y) :: rest) Q) : GN κ μ d m ad ar nm sc pc lv (.long y :: .long x :: rest) Q := fun M hM => g_lrem hd hne (kk M hM)
theorem n_tableOut {dflt lo hi : Int} {offs : Array Int} {len : Nat} {x : Int32} {tgt : Nat} (hd : decode μ.2.1 pc = .ok (.tableswitch dflt lo hi offs, len)) (h : x.toInt < lo ∨ hi < x.toInt) (ht : (pc : Int) + dflt = (tgt : Int)) (kk : GN κ μ d m ad ar nm sc tgt lv rest Q) : GN κ μ d m ad ar nm sc pc lv (.int x :: rest) Q := fun M hM => g_tableOut hd h ht (kk M hM)
theorem n_tableIn {dflt lo hi : Int} {offs : Array Int} {len : Nat} {x : Int32} {off : Int} {tgt : Nat} (hd : decode μ.2.1 pc = .ok (.tableswitch dflt lo hi offs, len)) (h1 : ¬ x.toInt < lo) (h2 : ¬ hi < x.toInt) (ho : offs[(x.toInt - lo).toNat]? = some off) (ht : (pc : Int) + off = (tgt : Int)) (kk : GN κ μ d m ad ar nm sc tgt lv rest Q) : GN κ μ d m ad ar nm sc pc lv (.int x :: rest) Q := fun M hM => g_tableIn hd h1 h2 ho ht (kk M hM)
theorem n_iret {x : Int32} (hret : μ.2.2.2 = some .int) (hd : decode μ.2.1 pc = .ok (.ireturn, 1)) (hq : Q (some (.int x)) ar nm sc) : GN κ μ d m ad ar nm sc pc lv [.int x] Q := fun M hM => g_iret hret hd ⟨ar, nm, sc, hM, hq⟩
theorem n_zret {x : Int32} (hret : μ.2.2.2 = some .boolean) (hn0 : narrow .boolean (.int x) = .int x) (hd : decode μ.2.1 pc = .ok (.ireturn, 1)) (hq : Q (some (.int x)) ar nm sc) : GN κ μ d m ad ar nm sc pc lv [.int x] Q := fun M hM => g_zret hret hn0 hd ⟨ar, nm, sc, hM, hq⟩
theorem n_lret {x : Int64} (hret : μ.2.2.2 = some .long) (hd : decode μ.2.1 pc = .ok (.lreturn, 1)) (hq : Q (some (.long x)) ar nm sc) : GN κ μ d m ad ar nm sc pc lv [.long x] Q := fun M hM => g_lret hret hd ⟨ar, nm, sc, hM, hq⟩
theorem n_vret (hret : μ.2.2.2 = none) (hd : decode μ.2.1 pc = .ok (.return_, 1)) (hq : Q none ar nm sc) : GN κ μ d m ad ar nm sc pc lv [] Q := fun M hM => g_vret hret hd ⟨ar, nm, sc, hM, hq⟩
theorem n_invV {idx np : Nat} {As : List Value} {Q1 : Option Value → Ar → (Nat → Int64) → Sc → Prop} (L : MV μ.1.cls idx 9 ν np) (hd : decode μ.2.1 pc = .ok (.invokevirtual idx, 3)) (hst : tk np st [] (fun a b => some (a, b)) = some (As, .ref m :: rest)) (hok : c1s As = true ∧ As.length + 1 ≤ ν.2.2.1 ∧ (rest.map fun v => v.category).sum ≤ 8)
    (hc : GN κ ν d m ad ar nm sc 0 (ent (.ref m :: As) ν.2.2.1) [] Q1) (kk : ∀ v ar' nm' sc', Q1 v ar' nm' sc' → GN κ μ (d + 1) m ad ar' nm' sc' (pc + 3) lv (v.toList ++ rest) Q) : GN κ μ (d + 1) m ad ar nm sc pc lv st Q := fun M hM => g_invV L hd hst hok hM.1 (hc M hM) (Nat.le_of_eq (Nat.zero_add _)) (Nat.le_of_eq (Nat.zero_add _)) (fun v M' ⟨a, n, s, h1, h2⟩ => kk v a n s h2 M' h1)
theorem n_invS {idx np : Nat} {As : List Value} {P : Option Value → Prop} (L : MS μ.1.cls idx ν np) (hd : decode μ.2.1 pc = .ok (.invokestatic idx, 3)) (hst : tk np st [] (fun a b => some (a, b)) = some (As, rest)) (hok : c1s As = true ∧ As.length ≤ ν.2.2.1 ∧ (rest.map fun v => v.category).sum ≤ 8)
    (hc : ∀ M, G κ ν d M 0 (ent As ν.2.2.1) [] 0 0 (fun v M' => P v ∧ M' = M)) (kk : ∀ v, P v → GN κ μ (d + 1) m ad ar nm sc (pc + 3) lv (v.toList ++ rest) Q) : GN κ μ (d + 1) m ad ar nm sc pc lv st Q := fun M hM => g_invS L hd hst hok (hc M) (Nat.le_of_eq (Nat.zero_add _)) (Nat.le_of_eq (Nat.zero_add _)) (fun v M' ⟨h1, h2⟩ => by subst h2; exact kk v h1 M' hM)
theorem n_if_eq {x : Int32} {off : Int} {tgt : Nat} (hd : decode μ.2.1 pc = .ok (.ifCond .eq off, 3)) (ht : (pc : Int) + off = (tgt : Int)) (kt : x = 0 → GN κ μ d m ad ar nm sc tgt lv rest Q) (kf : ¬ x = 0 → GN κ μ d m ad ar nm sc (pc + 3) lv rest Q) : GN κ μ d m ad ar nm sc pc lv (.int x :: rest) Q := fun M hM => g_if_eq hd ht (fun h => kt h M hM) (fun h => kf h M hM)
theorem n_icmp_eq {x y : Int32} {off : Int} {tgt : Nat} (hd : decode μ.2.1 pc = .ok (.if_icmp .eq off, 3)) (ht : (pc : Int) + off = (tgt : Int)) (kt : x = y → GN κ μ d m ad ar nm sc tgt lv rest Q) (kf : ¬ x = y → GN κ μ d m ad ar nm sc (pc + 3) lv rest Q) : GN κ μ d m ad ar nm sc pc lv (.int y :: .int x :: rest) Q := fun M hM => g_icmp_eq hd ht (fun h => kt h M hM) (fun h => kf h M hM)
theorem n_if_ne {x : Int32} {off : Int} {tgt : Nat} (hd : decode μ.2.1 pc = .ok (.ifCond .ne off, 3)) (ht : (pc : Int) + off = (tgt : Int)) (kt : ¬ x = 0 → GN κ μ d m ad ar nm sc tgt lv rest Q) (kf : x = 0 → GN κ μ d m ad ar nm sc (pc + 3) lv rest Q) : GN κ μ d m ad ar nm sc pc lv (.int x :: rest) Q := fun M hM => g_if_ne hd ht (fun h => kt h M hM) (fun h => kf h M hM)
theorem n_icmp_ne {x y : Int32} {off : Int} {tgt : Nat} (hd : decode μ.2.1 pc = .ok (.if_icmp .ne off, 3)) (ht : (pc : Int) + off = (tgt : Int)) (kt : ¬ x = y → GN κ μ d m ad ar nm sc tgt lv rest Q) (kf : x = y → GN κ μ d m ad ar nm sc (pc + 3) lv rest Q) : GN κ μ d m ad ar nm sc pc lv (.int y :: .int x :: rest) Q := fun M hM => g_icmp_ne hd ht (fun h => kt h M hM) (fun h => kf h M hM)
theorem n_if_lt {x : Int32} {off : Int} {tgt : Nat} (hd : decode μ.2.1 pc = .ok (.ifCond .lt off, 3)) (ht : (pc : Int) + off = (tgt : Int)) (kt : x < 0 → GN κ μ d m ad ar nm sc tgt lv rest Q) (kf : ¬ x < 0 → GN κ μ d m ad ar nm sc (pc + 3) lv rest Q) : GN κ μ d m ad ar nm sc pc lv (.int x :: rest) Q := fun M hM => g_if_lt hd ht (fun h => kt h M hM) (fun h => kf h M hM)
theorem n_icmp_lt {x y : Int32} {off : Int} {tgt : Nat} (hd : decode μ.2.1 pc = .ok (.if_icmp .lt off, 3)) (ht : (pc : Int) + off = (tgt : Int)) (kt : x < y → GN κ μ d m ad ar nm sc tgt lv rest Q) (kf : ¬ x < y → GN κ μ d m ad ar nm sc (pc + 3) lv rest Q) : GN κ μ d m ad ar nm sc pc lv (.int y :: .int x :: rest) Q := fun M hM => g_icmp_lt hd ht (fun h => kt h M hM) (fun h => kf h M hM)
theorem n_if_ge {x : Int32} {off : Int} {tgt : Nat} (hd : decode μ.2.1 pc = .ok (.ifCond .ge off, 3)) (ht : (pc : Int) + off = (tgt : Int)) (kt : 0 ≤ x → GN κ μ d m ad ar nm sc tgt lv rest Q) (kf : ¬ 0 ≤ x → GN κ μ d m ad ar nm sc (pc + 3) lv rest Q) : GN κ μ d m ad ar nm sc pc lv (.int x :: rest) Q := fun M hM => g_if_ge hd ht (fun h => kt h M hM) (fun h => kf h M hM)
theorem n_icmp_ge {x y : Int32} {off : Int} {tgt : Nat} (hd : decode μ.2.1 pc = .ok (.if_icmp .ge off, 3)) (ht : (pc : Int) + off = (tgt : Int)) (kt : y ≤ x → GN κ μ d m ad ar nm sc tgt lv rest Q) (kf : ¬ y ≤ x → GN κ μ d m ad ar nm sc (pc + 3) lv rest Q) : GN κ μ d m ad ar nm sc pc lv (.int y :: .int x :: rest) Q := fun M hM => g_icmp_ge hd ht (fun h => kt h M hM) (fun h => kf h M hM)
theorem n_if_gt {x : Int32} {off : Int} {tgt : Nat} (hd : decode μ.2.1 pc = .ok (.ifCond .gt off, 3)) (ht : (pc : Int) + off = (tgt : Int)) (kt : 0 < x → GN κ μ d m ad ar nm sc tgt lv rest Q) (kf : ¬ 0 < x → GN κ μ d m ad ar nm sc (pc + 3) lv rest Q) : GN κ μ d m ad ar nm sc pc lv (.int x :: rest) Q := fun M hM => g_if_gt hd ht (fun h => kt h M hM) (fun h => kf h M hM)
theorem n_icmp_gt {x y : Int32} {off : Int} {tgt : Nat} (hd : decode μ.2.1 pc = .ok (.if_icmp .gt off, 3)) (ht : (pc : Int) + off = (tgt : Int)) (kt : y < x → GN κ μ d m ad ar nm sc tgt lv rest Q) (kf : ¬ y < x → GN κ μ d m ad ar nm sc (pc + 3) lv rest Q) : GN κ μ d m ad ar nm sc pc lv (.int y :: .int x :: rest) Q := fun M hM => g_icmp_gt hd ht (fun h => kt h M hM) (fun h => kf h M hM)
theorem n_if_le {x : Int32} {off : Int} {tgt : Nat} (hd : decode μ.2.1 pc = .ok (.ifCond .le off, 3)) (ht : (pc : Int) + off = (tgt : Int)) (kt : x ≤ 0 → GN κ μ d m ad ar nm sc tgt lv rest Q) (kf : ¬ x ≤ 0 → GN κ μ d m ad ar nm sc (pc + 3) lv rest Q) : GN κ μ d m ad ar nm sc pc lv (.int x :: rest) Q := fun M hM => g_if_le hd ht (fun h => kt h M hM) (fun h => kf h M hM)
theorem n_icmp_le {x y : Int32} {off : Int} {tgt : Nat} (hd : decode μ.2.1 pc = .ok (.if_icmp .le off, 3)) (ht : (pc : Int) + off = (tgt : Int)) (kt : x ≤ y → GN κ μ d m ad ar nm sc tgt lv rest Q) (kf : ¬ x ≤ y → GN κ μ d m ad ar nm sc (pc + 3) lv rest Q) : GN κ μ d m ad ar nm sc pc lv (.int y :: .int x :: rest) Q := fun M hM => g_icmp_le hd ht (fun h => kt h M hM) (fun h => kf h M hM)
end NR
end
section
/-! rows of the arrays that a loop writes: a list of them -/
def arS (ar : Ar) : List (Nat × (Nat → Int32)) → Ar
  | [] => ar
  | (a, f) :: l => fun i => if i = a then f else arS ar l i
def setC {ρ : Type} : List (Nat × (Nat → Int32)) → Nat → Nat → Int32 → (List (Nat × (Nat → Int32)) → Option ρ) → Option ρ
  | [], _, _, _, _ => none
  | (a, f) :: l, i, j, y, k => if i = a then k ((a, upd f j y) :: l) else setC l i j y (fun l' => k ((a, f) :: l'))
theorem setC_spec {ρ : Type} {ar : Ar} {r : ρ} {i jj : Nat} {y : Int32} : ∀ (l : List (Nat × (Nat → Int32))) (k : List (Nat × (Nat → Int32)) → Option ρ), setC l i jj y k = some r → ∃ l', k l' = some r ∧ arS ar l' = arR (arS ar l) i (upd (arS ar l i) jj y) := by
  intro l
  induction l with
  | nil => intro k h; cases h
  | cons q l ih =>
    obtain ⟨a, f⟩ := q
    intro k h
    unfold setC at h
    split at h
    · rename_i hia
      subst hia
      refine ⟨_, h, ?_⟩
      funext j
      by_cases hj : j = i <;> simp [arS, arR, hj]
    · rename_i hia
      obtain ⟨l', h1, h2⟩ := ih _ h
      refine ⟨_, h1, ?_⟩
      funext j
      show (if j = a then f else arS ar l' j) = arR (fun i => if i = a then f else arS ar l i) i (upd (if i = a then f else arS ar l i) jj y) j
      rw [h2, if_neg hia]
      unfold arR
      dsimp only
      by_cases hj : j = a
      · rw [if_pos hj, if_neg (fun e => hia (e.symm.trans hj)), if_pos hj]
      · rw [if_neg hj, if_neg hj]
def getC {ρ : Type} : List (Nat × (Nat → Int32)) → Nat → (Nat → Int32) → ((Nat → Int32) → Option ρ) → Option ρ
  | [], _, e, k => k e
  | (a, f) :: l, i, e, k => if i = a then k f else getC l i e k
theorem getC_spec {ar : Ar} {i : Nat} {f : Nat → Int32} : ∀ (l : List (Nat × (Nat → Int32))), getC l i (ar i) some = some f → arS ar l i = f := by
  intro l
  induction l with
  | nil => intro h; cases h; rfl
  | cons q l ih =>
    obtain ⟨a, g⟩ := q
    intro h
    unfold getC at h
    show (if i = a then g else arS ar l i) = f
    split at h
    · rename_i hia
      cases h
      rw [if_pos hia]
    · rename_i hia
      rw [if_neg hia]
      exact ih h
theorem arS_id {ar : Ar} : ∀ (l : List (Nat × (Nat → Int32))), (∀ q ∈ l, q.2 = ar q.1) → ar = arS ar l := by
  intro l
  induction l with
  | nil => intro _; rfl
  | cons q l ih =>
    obtain ⟨a, g⟩ := q
    intro h
    funext i
    show ar i = if i = a then g else arS ar l i
    have h1 := h (a, g) List.mem_cons_self
    have h2 := ih (fun q hq => h q (List.mem_cons_of_mem _ hq))
    by_cases hia : i = a
    · rw [if_pos hia, hia]; exact h1.symm
    · rw [if_neg hia, ← h2]
section NL
variable {κ : Nat × Nat} {μ ν : MD} {d m : Nat} {ad : Nat → Nat} {ar : Ar} {nm : Nat → Int64} {sc : Sc} {pc : Nat} {lv : LV} {st rest : List Value} {Q : Option Value → Ar → (Nat → Int64) → Sc → Prop} {l l' : List (Nat × (Nat → Int32))}
theorem n_aldL {i j : Nat} {x : Int32} {f : Nat → Int32} (hd : decode μ.2.1 pc = .ok (.iaload, 1)) (hi : i < 21 ∧ i ≠ 1) (hf : getC l i (ar i) some = some f) (hx : x = nI j) (hj : j < ln i) (kk : GN κ μ d m ad (arS ar l) nm sc (pc + 1) lv (.int (f j) :: rest) Q) : GN κ μ d m ad (arS ar l) nm sc pc lv (.int x :: .ref (ad i) :: rest) Q := n_ald hd hi hx hj (by rw [getC_spec l hf]; exact kk)
theorem n_astL {i j : Nat} {x y : Int32} (hd : decode μ.2.1 pc = .ok (.iastore, 1)) (hi : i < 21 ∧ i ≠ 1) (hl : setC l i j y some = some l') (hx : x = nI j) (hj : j < ln i) (kk : GN κ μ d m ad (arS ar l') nm sc (pc + 1) lv rest Q) : GN κ μ d m ad (arS ar l) nm sc pc lv (.int y :: .int x :: .ref (ad i) :: rest) Q := by
  obtain ⟨l2, h1, h2⟩ := setC_spec (ar := ar) l some hl
  cases h1
  exact n_ast hd hi hx hj (by rw [← h2]; exact kk)
theorem n_st {ar' : Ar} (h : ar = ar') (kk : GN κ μ d m ad ar' nm sc pc lv st Q) : GN κ μ d m ad ar nm sc pc lv st Q := h ▸ kk
end NL
/-- shifted down by one from lo to hi -/
def sh (f : Nat → Int32) (lo hi : Nat) : Nat → Int32 := fun j => if lo ≤ j ∧ j < hi then f (j + 1) else f j
theorem sh_0 {f : Nat → Int32} {lo : Nat} : sh f lo lo = f := by funext j; unfold sh; rw [if_neg (by omega)]
theorem sh_s {f : Nat → Int32} {lo j : Nat} (h : lo ≤ j) : upd (sh f lo j) j (sh f lo j (j + 1)) = sh f lo (j + 1) := by
  funext q
  unfold upd sh
  by_cases hq : q = j
  · subst hq
    rw [if_pos rfl, if_neg (by omega), if_pos (by omega)]
  · rw [if_neg hq]
    by_cases h2 : lo ≤ q ∧ q < j
    · rw [if_pos h2, if_pos (by omega)]
    · rw [if_neg h2, if_neg (by omega)]
def oM (r : Option Nat) : Int32 := match r with
  | none => -1
  | some i => nI i
section NB
variable {κ : Nat × Nat} {d m : Nat} {ad : Nat → Nat} {ar : Ar} {nm : Nat → Int64} {sc : Sc}
theorem m_isClient {M : Mm} {c : Int32} : G κ m_Mo_isClient d M 0 [some (.int c)] [] 0 0 (fun v M' => v = some (.int (b2i (decide (0 ≤ c ∧ c < 16)))) ∧ M' = M) := by
  refine g_seq s_Mo_isClient_0 rfl ?_
  refine g_if_lt (tgt := 14) d_Mo_isClient_1 (by decide) (fun h => ?_) (fun h => ?_)
  · skip
    refine g_seq s_Mo_isClient_14 rfl ?_
    exact g_zret rfl rfl d_Mo_isClient_15 (⟨by rw [decide_eq_false (fun q => absurd h (Int32.not_lt.mpr q.1))]; rfl, rfl⟩)
  · skip
    refine g_seq s_Mo_isClient_4 rfl ?_
    refine g_icmp_ge (tgt := 14) d_Mo_isClient_7 (by decide) (fun h2 => ?_) (fun h2 => ?_)
    · skip
      refine g_seq s_Mo_isClient_14 rfl ?_
      exact g_zret rfl rfl d_Mo_isClient_15 (⟨by rw [decide_eq_false (fun q => absurd q.2 (Int32.not_lt.mpr h2))]; rfl, rfl⟩)
    · skip
      refine g_seq s_Mo_isClient_10 rfl ?_
      exact g_zret rfl rfl d_Mo_isClient_15 (⟨by rw [decide_eq_true ⟨Int32.not_lt.mp h, Int32.not_le.mp h2⟩]; rfl, rfl⟩)
theorem n5 {n j : Nat} : (5 : Int32) * nI n + nI j = nI (5 * n + j) := by rw [show (5 : Int32) = nI 5 from rfl, pk_mul, nI_add]
theorem n16 {n j : Nat} : (16 : Int32) * nI n + nI j = nI (16 * n + j) := by rw [show (16 : Int32) = nI 16 from rfl, pk_mul, nI_add]
theorem n8 {n j : Nat} : (8 : Int32) * nI n + nI j = nI (8 * n + j) := by rw [show (8 : Int32) = nI 8 from rfl, pk_mul, nI_add]
theorem m_place {n : Nat} {c : Int32} {row : List Wt} (hn : n < 4200) (h7 : ar 7 n = nI row.length) (h5 : row.length ≤ 5) (h8 : ∀ (j : Nat) (w : Wt), row[j]? = some w → ar 8 (5 * n + j) = w.1) : GN κ m_Mo_place d m ad ar nm sc 0 [some (.ref m), some (.int (nI n)), some (.int c), none] [] (fun v ar' nm' sc' => ar' = ar ∧ nm' = nm ∧ sc' = sc ∧ ∃ o, FI (fun w : Wt => w.1 == c) row o ∧ v = some (.int (oM o))) := by
  have loop : ∀ k i, i + k = row.length → (∀ (j : Nat) (y : Wt), j < i → row[j]? = some y → (y.1 == c) = false) → GN κ m_Mo_place d m ad ar nm sc 2 [some (.ref m), some (.int (nI n)), some (.int c), some (.int (nI i))] [] (fun v ar' nm' sc' => ar' = ar ∧ nm' = nm ∧ sc' = sc ∧ ∃ o, FI (fun w : Wt => w.1 == c) row o ∧ v = some (.int (oM o))) := by
    intro k
    induction k with
    | zero =>
      intro i hi hno
      refine n_seq s_Mo_place_2 rfl ?_
      refine n_geta f_Mo_33 d_Mo_place_4 (by decide) ?_
      refine n_seq s_Mo_place_7 rfl ?_
      refine n_ald d_Mo_place_8 ⟨by decide, by decide⟩ (rfl) (hn) ?_
      rw [h7]
      refine n_icmp_ge (tgt := 34) d_Mo_place_9 (by decide) (fun hbr => ?_) (fun hbr => absurd hbr (fun h => h (nI_le (by omega) (by omega))))
      refine n_seq s_Mo_place_34 rfl ?_
      exact n_iret rfl d_Mo_place_35 (⟨rfl, rfl, rfl, none, fun j y hy => hno j y (by have := (List.getElem?_eq_some_iff.mp hy).1; omega) hy, rfl⟩)
    | succ k ih =>
      intro i hi hno
      have hil : i < row.length := by omega
      have hri := List.getElem?_eq_getElem hil
      generalize row[i] = w at hri
      refine n_seq s_Mo_place_2 rfl ?_
      refine n_geta f_Mo_33 d_Mo_place_4 (by decide) ?_
      refine n_seq s_Mo_place_7 rfl ?_
      refine n_ald d_Mo_place_8 ⟨by decide, by decide⟩ (rfl) (hn) ?_
      rw [h7]
      refine n_icmp_ge (tgt := 34) d_Mo_place_9 (by decide) (fun hbr => absurd hbr (nI_ge (by omega) (by omega))) (fun hbr => ?_)
      refine n_seq s_Mo_place_12 rfl ?_
      refine n_geta f_Mo_36 d_Mo_place_13 (by decide) ?_
      refine n_seq s_Mo_place_16 rfl ?_
      refine n_ald d_Mo_place_21 ⟨by decide, by decide⟩ (n5) ((show 5 * n + i < 21000 by omega)) ?_
      rw [h8 i w hri]
      refine n_seq s_Mo_place_22 rfl ?_
      refine n_icmp_ne (tgt := 28) d_Mo_place_23 (by decide) (fun h1 => ?_) (fun h1 => ?_)
      · skip
        refine n_seq s_Mo_place_28 rfl ?_
        rw [nI_1]
        refine ih (i + 1) (by omega) (fun j y hj hy => ?_)
        by_cases hji : j = i
        · subst hji
          rw [hri] at hy
          cases hy
          simpa using h1
        · exact hno j y (by omega) hy
      · skip
        refine n_seq s_Mo_place_26 rfl ?_
        exact n_iret rfl d_Mo_place_27 (⟨rfl, rfl, rfl, some i, ⟨w, hri, by simpa using h1, hno⟩, rfl⟩)
  refine n_seq s_Mo_place_0 rfl ?_
  exact loop row.length 0 (by omega) (fun j y hj => absurd hj (Nat.not_lt_zero _))
theorem m_inCache {n : Nat} {CN : List (Nat × Int32)} (hn : n ≤ 100000) (h26 : sc 26 = nI CN.length) (h4 : CN.length ≤ 4) (h15 : ∀ (j : Nat) (x : Nat × Int32), CN[j]? = some x → ar 15 j = nI x.1 ∧ x.1 ≤ 100000) : GN κ m_Mo_inCache d m ad ar nm sc 0 [some (.ref m), some (.int (nI n)), none] [] (fun v ar' nm' sc' => ar' = ar ∧ nm' = nm ∧ sc' = sc ∧ ∃ o, FI (fun x : Nat × Int32 => x.1 == n) CN o ∧ v = some (.int (oM o))) := by
  have loop : ∀ k i, i + k = CN.length → (∀ (j : Nat) (y : Nat × Int32), j < i → CN[j]? = some y → (y.1 == n) = false) → GN κ m_Mo_inCache d m ad ar nm sc 2 [some (.ref m), some (.int (nI n)), some (.int (nI i))] [] (fun v ar' nm' sc' => ar' = ar ∧ nm' = nm ∧ sc' = sc ∧ ∃ o, FI (fun x : Nat × Int32 => x.1 == n) CN o ∧ v = some (.int (oM o))) := by
    intro k
    induction k with
    | zero =>
      intro i hi hno
      refine n_seq s_Mo_inCache_2 rfl ?_
      refine n_gets f_Mo_134 d_Mo_inCache_4 rfl ?_
      rw [h26]
      refine n_icmp_ge (tgt := 28) d_Mo_inCache_7 (by decide) (fun hbr => ?_) (fun hbr => absurd hbr (fun h => h (nI_le (by omega) (by omega))))
      refine n_seq s_Mo_inCache_28 rfl ?_
      exact n_iret rfl d_Mo_inCache_29 (⟨rfl, rfl, rfl, none, fun j y hy => hno j y (by have := (List.getElem?_eq_some_iff.mp hy).1; omega) hy, rfl⟩)
    | succ k ih =>
      intro i hi hno
      have hil : i < CN.length := by omega
      have hri := List.getElem?_eq_getElem hil
      generalize CN[i] = w at hri
      obtain ⟨e1, e2⟩ := h15 i w hri
      refine n_seq s_Mo_inCache_2 rfl ?_
      refine n_gets f_Mo_134 d_Mo_inCache_4 rfl ?_
      rw [h26]
      refine n_icmp_ge (tgt := 28) d_Mo_inCache_7 (by decide) (fun hbr => absurd hbr (nI_ge (by omega) (by omega))) (fun hbr => ?_)
      refine n_seq s_Mo_inCache_10 rfl ?_
      refine n_geta f_Mo_57 d_Mo_inCache_11 (by decide) ?_
      refine n_seq s_Mo_inCache_14 rfl ?_
      refine n_ald d_Mo_inCache_15 ⟨by decide, by decide⟩ (rfl) ((show i < 4 by omega)) ?_
      rw [e1]
      refine n_seq s_Mo_inCache_16 rfl ?_
      refine n_icmp_ne (tgt := 22) d_Mo_inCache_17 (by decide) (fun h1 => ?_) (fun h1 => ?_)
      · skip
        refine n_seq s_Mo_inCache_22 rfl ?_
        rw [nI_1]
        refine ih (i + 1) (by omega) (fun j y hj hy => ?_)
        by_cases hji : j = i
        · subst hji
          rw [hri] at hy
          cases hy
          simpa using fun e => h1 (by rw [e])
        · exact hno j y (by omega) hy
      · skip
        refine n_seq s_Mo_inCache_20 rfl ?_
        exact n_iret rfl d_Mo_inCache_21 (⟨rfl, rfl, rfl, some i, ⟨w, hri, by simpa using (nI_eqI e2 hn).mp h1, hno⟩, rfl⟩)
  refine n_seq s_Mo_inCache_0 rfl ?_
  exact loop CN.length 0 (by omega) (fun j y hj => absurd hj (Nat.not_lt_zero _))
theorem m_out {n k L : Nat} (hn : n < 4200) (h7 : ar 7 n = nI L) (h5 : L ≤ 5) (hk : k < L) : GN κ m_Mo_out d m ad ar nm sc 0 [some (.ref m), some (.int (nI n)), some (.int (nI k)), none] [] (fun v ar' nm' sc' => v = none ∧ nm' = nm ∧ sc' = sc ∧ ar' = arS ar [(7, upd (ar 7) n (nI (L - 1))), (8, sh (ar 8) (5 * n + k) (5 * n + (L - 1))), (9, sh (ar 9) (5 * n + k) (5 * n + (L - 1))), (10, sh (ar 10) (5 * n + k) (5 * n + (L - 1)))]) := by
  have e1 : nI L - 1 = nI (L - 1) := pk_sub (b := 1) (by omega)
  have loop : ∀ q i, i + q = 5 * n + (L - 1) → 5 * n + k ≤ i → GN κ m_Mo_out d m ad (arS ar [(7, upd (ar 7) n (nI (L - 1))), (8, sh (ar 8) (5 * n + k) i), (9, sh (ar 9) (5 * n + k) i), (10, sh (ar 10) (5 * n + k) i)]) nm sc 16 [some (.ref m), some (.int (nI n)), some (.int (nI k)), some (.int (nI i))] [] (fun v ar' nm' sc' => v = none ∧ nm' = nm ∧ sc' = sc ∧ ar' = arS ar [(7, upd (ar 7) n (nI (L - 1))), (8, sh (ar 8) (5 * n + k) (5 * n + (L - 1))), (9, sh (ar 9) (5 * n + k) (5 * n + (L - 1))), (10, sh (ar 10) (5 * n + k) (5 * n + (L - 1)))]) := by
    intro q
    induction q with
    | zero =>
      intro i hi hki
      have hie : i = 5 * n + (L - 1) := by omega
      subst hie
      refine n_seq s_Mo_out_16 rfl ?_
      refine n_geta f_Mo_33 d_Mo_out_21 (by decide) ?_
      refine n_seq s_Mo_out_24 rfl ?_
      refine n_aldL d_Mo_out_25 ⟨by decide, by decide⟩ rfl rfl hn ?_
      rw [pk_us]
      refine n_seq s_Mo_out_26 rfl ?_
      rw [n5]
      refine n_icmp_ge (tgt := 78) d_Mo_out_27 (by decide) (fun hbr => ?_) (fun hbr => absurd hbr (fun h => h (nI_le (Nat.le_refl _) (by omega))))
      exact n_vret rfl d_Mo_out_78 (⟨rfl, rfl, rfl, rfl⟩)
    | succ q ih =>
      intro i hi hki
      refine n_seq s_Mo_out_16 rfl ?_
      refine n_geta f_Mo_33 d_Mo_out_21 (by decide) ?_
      refine n_seq s_Mo_out_24 rfl ?_
      refine n_aldL d_Mo_out_25 ⟨by decide, by decide⟩ rfl rfl hn ?_
      rw [pk_us]
      refine n_seq s_Mo_out_26 rfl ?_
      rw [n5]
      refine n_icmp_ge (tgt := 78) d_Mo_out_27 (by decide) (fun hbr => absurd hbr (nI_ge (by omega) (by omega))) (fun hbr => ?_)
      refine n_seq s_Mo_out_30 rfl ?_
      refine n_geta f_Mo_36 d_Mo_out_31 (by decide) ?_
      refine n_seq s_Mo_out_34 rfl ?_
      refine n_geta f_Mo_36 d_Mo_out_36 (by decide) ?_
      refine n_seq s_Mo_out_39 rfl ?_
      refine n_aldL d_Mo_out_42 ⟨by decide, by decide⟩ rfl (nI_1 i) (show i + 1 < 21000 by omega) ?_
      refine n_astL d_Mo_out_43 ⟨by decide, by decide⟩ rfl rfl (show i < 21000 by omega) ?_
      rw [sh_s hki]
      refine n_seq s_Mo_out_44 rfl ?_
      refine n_geta f_Mo_39 d_Mo_out_45 (by decide) ?_
      refine n_seq s_Mo_out_48 rfl ?_
      refine n_geta f_Mo_39 d_Mo_out_50 (by decide) ?_
      refine n_seq s_Mo_out_53 rfl ?_
      refine n_aldL d_Mo_out_56 ⟨by decide, by decide⟩ rfl (nI_1 i) (show i + 1 < 21000 by omega) ?_
      refine n_astL d_Mo_out_57 ⟨by decide, by decide⟩ rfl rfl (show i < 21000 by omega) ?_
      rw [sh_s hki]
      refine n_seq s_Mo_out_58 rfl ?_
      refine n_geta f_Mo_42 d_Mo_out_59 (by decide) ?_
      refine n_seq s_Mo_out_62 rfl ?_
      refine n_geta f_Mo_42 d_Mo_out_64 (by decide) ?_
      refine n_seq s_Mo_out_67 rfl ?_
      refine n_aldL d_Mo_out_70 ⟨by decide, by decide⟩ rfl (nI_1 i) (show i + 1 < 21000 by omega) ?_
      refine n_astL d_Mo_out_71 ⟨by decide, by decide⟩ rfl rfl (show i < 21000 by omega) ?_
      rw [sh_s hki]
      refine n_seq s_Mo_out_72 rfl ?_
      rw [nI_1]
      exact ih (i + 1) (by omega) (by omega)
  have hst : ar = arS ar [(7, ar 7), (8, ar 8), (9, ar 9), (10, ar 10)] := arS_id _ (by simp)
  refine n_st hst ?_
  refine n_seq s_Mo_out_0 rfl ?_
  refine n_geta f_Mo_33 d_Mo_out_1 (by decide) ?_
  refine n_seq s_Mo_out_4 rfl ?_
  refine n_aldL d_Mo_out_6 ⟨by decide, by decide⟩ rfl rfl hn ?_
  rw [h7]
  refine n_seq s_Mo_out_7 rfl ?_
  rw [e1]
  refine n_astL d_Mo_out_9 ⟨by decide, by decide⟩ rfl rfl hn ?_
  refine n_seq s_Mo_out_10 rfl ?_
  rw [n5]
  have := loop (L - 1 - k) (5 * n + k) (by omega) (Nat.le_refl _)
  rw [sh_0, sh_0, sh_0] at this
  exact this
end NB
end
section
/-! names as the reference keeps them -/
def dg (ls : List Nat) (k : Nat) : Nat := (ls[k]?).getD 0
def cK (ls : List Nat) : Nat → Nat
  | 0 => ls.length
  | k + 1 => 27 * cK ls k + dg ls k
def ni (ls : List Nat) : Int32 := nI (enc ls)
theorem dg_le {ls : List Nat} (h : okL ls) (k : Nat) : dg ls k ≤ 26 := by
  unfold dg
  cases e : ls[k]? with
  | none => exact Nat.zero_le _
  | some l => exact (h l (List.mem_of_getElem? e)).2
theorem dg_at {ls : List Nat} (h : okL ls) {k : Nat} (hk : k < ls.length) : ls[k]? = some (dg ls k) ∧ 1 ≤ dg ls k := by
  unfold dg
  have e := List.getElem?_eq_getElem hk
  rw [e]
  exact ⟨rfl, (h _ (List.getElem_mem hk)).1⟩
theorem dg_out {ls : List Nat} {k : Nat} (hk : ls.length ≤ k) : dg ls k = 0 := by
  unfold dg
  rw [List.getElem?_eq_none hk]; rfl
theorem cK_b {ls : List Nat} (h : okL ls) (h6 : ls.length ≤ 6) : ∀ k, k ≤ 6 → cK ls k < 7 * 27 ^ k := by
  intro k
  induction k with
  | zero => intro _; show ls.length < 7 * 1; omega
  | succ k ih =>
    intro hk
    have h1 := ih (by omega)
    have h2 := dg_le h k
    show 27 * cK ls k + dg ls k < 7 * 27 ^ (k + 1)
    rw [Nat.pow_succ]
    omega
theorem cK_63 {ls : List Nat} (h : okL ls) (h6 : ls.length ≤ 6) {k : Nat} (hk : k ≤ 6) : cK ls k < 2 ^ 40 := Nat.lt_of_lt_of_le (cK_b h h6 k hk) (by
  have : 27 ^ k ≤ 27 ^ 6 := Nat.pow_le_pow_right (by decide) hk
  omega)
/-- the letters up to k, as the class counts them -/
def eK (ls : List Nat) (k : Nat) : Nat := enc (ls.take k)
theorem eK_s {ls : List Nat} {k : Nat} (hk : k < ls.length) : eK ls (k + 1) = eK ls k * 26 + dg ls k := by
  unfold eK dg
  rw [List.take_succ, List.getElem?_eq_getElem hk]
  exact enc_snoc _ _
theorem eK_o {ls : List Nat} {k : Nat} (hk : ls.length ≤ k) : eK ls k = enc ls := by
  unfold eK
  rw [List.take_of_length_le hk]
/-- both orders of names of one length are one -/
theorem ord_eq {a b : List Nat} (ha : okL a) (hb : okL b) (hl : a.length = b.length) : ∀ k, (eK a k < eK b k ∧ cK a k < cK b k) ∨ (eK a k = eK b k ∧ cK a k = cK b k ∧ ∀ j, j < k → dg a j = dg b j) ∨ (eK b k < eK a k ∧ cK b k < cK a k) := by
  intro k
  induction k with
  | zero => exact Or.inr (Or.inl ⟨by simp [eK], hl, fun j hj => absurd hj (Nat.not_lt_zero _)⟩)
  | succ k ih =>
    have c1 : cK a (k + 1) = 27 * cK a k + dg a k := rfl
    have c2 : cK b (k + 1) = 27 * cK b k + dg b k := rfl
    have d1 := dg_le ha k
    have d2 := dg_le hb k
    by_cases hk : k < a.length
    · have e1 := eK_s hk
      have e2 := eK_s (ls := b) (k := k) (by omega)
      have p1 := (dg_at ha hk).2
      have p2 := (dg_at hb (k := k) (by omega)).2
      rcases ih with ⟨h1, h2⟩ | ⟨h1, h2, h3⟩ | ⟨h1, h2⟩
      · exact Or.inl ⟨by omega, by omega⟩
      · rcases Nat.lt_trichotomy (dg a k) (dg b k) with h | h | h
        · exact Or.inl ⟨by omega, by omega⟩
        · refine Or.inr (Or.inl ⟨by omega, by omega, fun j hj => ?_⟩)
          by_cases hjk : j = k
          · rw [hjk]; exact h
          · exact h3 j (by omega)
        · exact Or.inr (Or.inr ⟨by omega, by omega⟩)
      · exact Or.inr (Or.inr ⟨by omega, by omega⟩)
    · have e1 := eK_o (ls := a) (k := k) (by omega)
      have e2 := eK_o (ls := b) (k := k) (by omega)
      have e3 := eK_o (ls := a) (k := k + 1) (by omega)
      have e4 := eK_o (ls := b) (k := k + 1) (by omega)
      have p1 := dg_out (ls := a) (k := k) (by omega)
      have p2 := dg_out (ls := b) (k := k) (by omega)
      rcases ih with ⟨h1, h2⟩ | ⟨h1, h2, h3⟩ | ⟨h1, h2⟩
      · exact Or.inl ⟨by omega, by omega⟩
      · refine Or.inr (Or.inl ⟨by omega, by omega, fun j hj => ?_⟩)
        by_cases hjk : j = k
        · rw [hjk]; omega
        · exact h3 j (by omega)
      · exact Or.inr (Or.inr ⟨by omega, by omega⟩)
theorem cK_lt {a b : List Nat} (ha : okL a) (hb : okL b) (hl : a.length < b.length) : ∀ k, cK a k < cK b k := by
  intro k
  induction k with
  | zero => exact hl
  | succ k ih =>
    have c1 : cK a (k + 1) = 27 * cK a k + dg a k := rfl
    have c2 : cK b (k + 1) = 27 * cK b k + dg b k := rfl
    have d1 := dg_le ha k
    omega
theorem enc_le : ∀ ls : List Nat, okL ls → 25 * enc ls + 26 ≤ 26 ^ (ls.length + 1) ∧ 26 ^ ls.length ≤ 25 * enc ls + 1 := by
  refine snocRec ?_ ?_
  · intro _; exact ⟨by decide, by decide⟩
  · intro l x ih h
    obtain ⟨h1, h2, h3⟩ := okL_snoc.mp h
    have := ih h1
    rw [enc_snoc, List.length_append, List.length_singleton, Nat.pow_succ 26 (l.length + 1), Nat.pow_succ 26 l.length]
    rw [Nat.pow_succ 26 l.length] at this
    omega
theorem enc_ltl {a b : List Nat} (ha : okL a) (hb : okL b) (hl : a.length < b.length) : enc a < enc b := by
  have h1 := (enc_le a ha).1
  have h2 := (enc_le b hb).2
  have h3 : 26 ^ (a.length + 1) ≤ 26 ^ b.length := Nat.pow_le_pow_right (by decide) hl
  omega
theorem ord_nm {a b : List Nat} (ha : okL a) (hb : okL b) (h6 : a.length ≤ 6) (h6b : b.length ≤ 6) : (enc a < enc b ∧ cK a 6 < cK b 6) ∨ a = b ∨ (enc b < enc a ∧ cK b 6 < cK a 6) := by
  rcases Nat.lt_trichotomy a.length b.length with hl | hl | hl
  · exact Or.inl ⟨enc_ltl ha hb hl, cK_lt ha hb hl 6⟩
  · have h := ord_eq ha hb hl 6
    rw [eK_o h6, eK_o h6b] at h
    rcases h with h | ⟨-, -, h⟩ | h
    · exact Or.inl h
    · refine Or.inr (Or.inl (List.ext_getElem? fun i => ?_))
      by_cases hi : i < a.length
      · rw [(dg_at ha hi).1, (dg_at hb (k := i) (by omega)).1, h i (by omega)]
      · rw [List.getElem?_eq_none (by omega), List.getElem?_eq_none (by omega)]
    · exact Or.inr (Or.inr h)
  · exact Or.inr (Or.inr ⟨enc_ltl hb ha hl, cK_lt hb ha hl 6⟩)
theorem ni_inj {a b : List Nat} (ha : okL a) (hb : okL b) (h6 : a.length ≤ 6) (h6b : b.length ≤ 6) (h : ni a = ni b) : a = b := by
  have b1 := enc_b ha h6
  have b2 := enc_b hb h6b
  have h1 := (nI_eq (a := enc a) (b := enc b) (by omega) (by omega)).mp h
  rcases ord_nm ha hb h6 h6b with h2 | h2 | h2
  · omega
  · exact h2
  · omega
theorem ni_lt {a b : List Nat} (ha : okL a) (hb : okL b) (h6 : a.length ≤ 6) (h6b : b.length ≤ 6) : (lN (cK a 6) < lN (cK b 6)) ↔ ni a < ni b := by
  have b1 := enc_b ha h6
  have b2 := enc_b hb h6b
  have c1 := cK_63 ha h6 (Nat.le_refl 6)
  have c2 := cK_63 hb h6b (Nat.le_refl 6)
  unfold ni
  rw [pk_lLT (by omega) (by omega), nI_ltI (by omega) (by omega)]
  rcases ord_nm ha hb h6 h6b with h2 | h2 | h2
  · omega
  · rw [h2]; omega
  · omega
theorem lN_cK {a b : List Nat} (ha : okL a) (hb : okL b) (h6 : a.length ≤ 6) (h6b : b.length ≤ 6) : lN (cK a 6) = lN (cK b 6) ↔ a = b := by
  have c1 := cK_63 ha h6 (Nat.le_refl 6)
  have c2 := cK_63 hb h6b (Nat.le_refl 6)
  rw [pk_lEQ (by omega) (by omega)]
  constructor
  · intro h
    rcases ord_nm ha hb h6 h6b with h2 | h2 | h2
    · omega
    · exact h2
    · omega
  · intro h; rw [h]
/-! an array holds a list -/
def RP {α : Type} (g : Nat → Int32) (R : Int32 → α → Prop) (L : List α) : Prop := ∀ (j : Nat) (x : α), L[j]? = some x → R (g j) x
theorem RP.keep {α : Type} {g g' : Nat → Int32} {R : Int32 → α → Prop} {L : List α} (h : RP g R L) (hg : ∀ j, j < L.length → g' j = g j) : RP g' R L := fun j x hx => by
  rw [hg j (List.getElem?_eq_some_iff.mp hx).1]; exact h j x hx
theorem RP.snoc {α : Type} {g g' : Nat → Int32} {R : Int32 → α → Prop} {L : List α} {x : α} (h : RP g R L) (hg : ∀ j, j < L.length → g' j = g j) (hx : R (g' L.length) x) : RP g' R (L ++ [x]) := fun j y hy => by
  by_cases hj : j < L.length
  · rw [List.getElem?_append_left hj] at hy
    rw [hg j hj]; exact h j y hy
  · rw [List.getElem?_append_right (by omega)] at hy
    have : j - L.length = 0 := by
      have := (List.getElem?_eq_some_iff.mp hy).1
      simp at this; omega
    rw [this] at hy
    cases hy
    rw [show j = L.length by omega]; exact hx
theorem RP.erase {α : Type} {g g' : Nat → Int32} {R : Int32 → α → Prop} {L : List α} {k : Nat} (h : RP g R L) (hk : k < L.length) (h1 : ∀ j, j < k → g' j = g j) (h2 : ∀ j, k ≤ j → j < L.length - 1 → g' j = g (j + 1)) : RP g' R (L.eraseIdx k) := fun j y hy => by
  rw [List.getElem?_eraseIdx] at hy
  split at hy
  · rename_i hj
    rw [h1 j hj]; exact h j y hy
  · rename_i hj
    have := (List.getElem?_eq_some_iff.mp hy).1
    rw [h2 j (by omega) (by omega)]; exact h (j + 1) y hy
theorem RP.mono {α : Type} {g : Nat → Int32} {R R' : Int32 → α → Prop} {L : List α} (h : RP g R L) (hR : ∀ v x, R v x → R' v x) : RP g R' L := fun j x hx => hR _ _ (h j x hx)
theorem sh_in {f : Nat → Int32} {lo hi j : Nat} (h : lo ≤ j) (h2 : j < hi) : sh f lo hi j = f (j + 1) := if_pos ⟨h, h2⟩
theorem sh_out {f : Nat → Int32} {lo hi j : Nat} (h : j < lo ∨ hi ≤ j) : sh f lo hi j = f j := if_neg (by omega)
section NC
variable {κ : Nat × Nat} {d m : Nat} {ad : Nat → Nat} {ar : Ar} {nm : Nat → Int64} {sc : Sc}
theorem m_inCacheP {α : Type} {n : Int32} {C : List α} {p : α → Bool} (h26 : sc 26 = nI C.length) (h4 : C.length ≤ 4) (h15 : ∀ (j : Nat) (x : α), C[j]? = some x → (ar 15 j = n ↔ p x = true)) : GN κ m_Mo_inCache d m ad ar nm sc 0 [some (.ref m), some (.int n), none] [] (fun v ar' nm' sc' => ar' = ar ∧ nm' = nm ∧ sc' = sc ∧ ∃ o, FI p C o ∧ v = some (.int (oM o))) := by
  have loop : ∀ k i, i + k = C.length → (∀ (j : Nat) (y : α), j < i → C[j]? = some y → p y = false) → GN κ m_Mo_inCache d m ad ar nm sc 2 [some (.ref m), some (.int n), some (.int (nI i))] [] (fun v ar' nm' sc' => ar' = ar ∧ nm' = nm ∧ sc' = sc ∧ ∃ o, FI p C o ∧ v = some (.int (oM o))) := by
    intro k
    induction k with
    | zero =>
      intro i hi hno
      refine n_seq s_Mo_inCache_2 rfl ?_
      refine n_gets f_Mo_134 d_Mo_inCache_4 rfl ?_
      rw [h26]
      refine n_icmp_ge (tgt := 28) d_Mo_inCache_7 (by decide) (fun hbr => ?_) (fun hbr => absurd hbr (fun h => h (nI_le (by omega) (by omega))))
      refine n_seq s_Mo_inCache_28 rfl ?_
      exact n_iret rfl d_Mo_inCache_29 (⟨rfl, rfl, rfl, none, fun j y hy => hno j y (by have := (List.getElem?_eq_some_iff.mp hy).1; omega) hy, rfl⟩)
    | succ k ih =>
      intro i hi hno
      have hil : i < C.length := by omega
      have hri := List.getElem?_eq_getElem hil
      generalize C[i] = w at hri
      have e1 := h15 i w hri
      refine n_seq s_Mo_inCache_2 rfl ?_
      refine n_gets f_Mo_134 d_Mo_inCache_4 rfl ?_
      rw [h26]
      refine n_icmp_ge (tgt := 28) d_Mo_inCache_7 (by decide) (fun hbr => absurd hbr (nI_ge (by omega) (by omega))) (fun hbr => ?_)
      refine n_seq s_Mo_inCache_10 rfl ?_
      refine n_geta f_Mo_57 d_Mo_inCache_11 (by decide) ?_
      refine n_seq s_Mo_inCache_14 rfl ?_
      refine n_ald d_Mo_inCache_15 ⟨by decide, by decide⟩ (rfl) ((show i < 4 by omega)) ?_
      refine n_seq s_Mo_inCache_16 rfl ?_
      refine n_icmp_ne (tgt := 22) d_Mo_inCache_17 (by decide) (fun h1 => ?_) (fun h1 => ?_)
      · skip
        refine n_seq s_Mo_inCache_22 rfl ?_
        rw [nI_1]
        refine ih (i + 1) (by omega) (fun j y hj hy => ?_)
        by_cases hji : j = i
        · subst hji
          rw [hri] at hy
          cases hy
          exact Bool.eq_false_iff.mpr (fun e => h1 (e1.mpr e))
        · exact hno j y (by omega) hy
      · skip
        refine n_seq s_Mo_inCache_20 rfl ?_
        exact n_iret rfl d_Mo_inCache_21 (⟨rfl, rfl, rfl, some i, ⟨w, hri, e1.mp h1, hno⟩, rfl⟩)
  refine n_seq s_Mo_inCache_0 rfl ?_
  exact loop C.length 0 (by omega) (fun j y hj => absurd hj (Nat.not_lt_zero _))
theorem m_drop {c L : Nat} (hc : c < 16) (h19 : ar 19 c = nI L) (h8 : L ≤ 8) (h1 : 1 ≤ L) : GN κ m_Mo_drop d m ad ar nm sc 0 [some (.ref m), some (.int (nI c)), none] [] (fun v ar' nm' sc' => v = none ∧ nm' = nm ∧ sc' = sc ∧ ar' = arS ar [(19, upd (ar 19) c (nI (L - 1))), (17, sh (ar 17) (8 * c) (8 * c + (L - 1))), (18, sh (ar 18) (8 * c) (8 * c + (L - 1)))]) := by
  have e1 : nI L - 1 = nI (L - 1) := pk_sub (b := 1) (by omega)
  have loop : ∀ q i, i + q = L - 1 → GN κ m_Mo_drop d m ad (arS ar [(19, upd (ar 19) c (nI (L - 1))), (17, sh (ar 17) (8 * c) (8 * c + i)), (18, sh (ar 18) (8 * c) (8 * c + i))]) nm sc 12 [some (.ref m), some (.int (nI c)), some (.int (nI i))] [] (fun v ar' nm' sc' => v = none ∧ nm' = nm ∧ sc' = sc ∧ ar' = arS ar [(19, upd (ar 19) c (nI (L - 1))), (17, sh (ar 17) (8 * c) (8 * c + (L - 1))), (18, sh (ar 18) (8 * c) (8 * c + (L - 1)))]) := by
    intro q
    induction q with
    | zero =>
      intro i hi
      have hie : i = L - 1 := by omega
      subst hie
      refine n_seq s_Mo_drop_12 rfl ?_
      refine n_geta f_Mo_69 d_Mo_drop_14 (by decide) ?_
      refine n_seq s_Mo_drop_17 rfl ?_
      refine n_aldL d_Mo_drop_18 ⟨by decide, by decide⟩ rfl (rfl) (hc) ?_
      rw [pk_us]
      refine n_icmp_ge (tgt := 76) d_Mo_drop_19 (by decide) (fun hbr => ?_) (fun hbr => absurd hbr (fun h => h (nI_le (Nat.le_refl _) (by omega))))
      exact n_vret rfl d_Mo_drop_76 (⟨rfl, rfl, rfl, rfl⟩)
    | succ q ih =>
      intro i hi
      refine n_seq s_Mo_drop_12 rfl ?_
      refine n_geta f_Mo_69 d_Mo_drop_14 (by decide) ?_
      refine n_seq s_Mo_drop_17 rfl ?_
      refine n_aldL d_Mo_drop_18 ⟨by decide, by decide⟩ rfl (rfl) (hc) ?_
      rw [pk_us]
      refine n_icmp_ge (tgt := 76) d_Mo_drop_19 (by decide) (fun hbr => absurd hbr (nI_ge (by omega) (by omega))) (fun hbr => ?_)
      refine n_seq s_Mo_drop_22 rfl ?_
      refine n_geta f_Mo_63 d_Mo_drop_23 (by decide) ?_
      refine n_seq s_Mo_drop_26 rfl ?_
      rw [n8]
      refine n_geta f_Mo_63 d_Mo_drop_33 (by decide) ?_
      refine n_seq s_Mo_drop_36 rfl ?_
      rw [n8]
      refine n_aldL d_Mo_drop_44 ⟨by decide, by decide⟩ rfl (nI_1 _) ((show 8 * c + i + 1 < 128 by omega)) ?_
      refine n_astL d_Mo_drop_45 ⟨by decide, by decide⟩ rfl (rfl) ((show 8 * c + i < 128 by omega)) ?_
      rw [sh_s (Nat.le_add_right _ _)]
      refine n_seq s_Mo_drop_46 rfl ?_
      refine n_geta f_Mo_66 d_Mo_drop_47 (by decide) ?_
      refine n_seq s_Mo_drop_50 rfl ?_
      rw [n8]
      refine n_geta f_Mo_66 d_Mo_drop_57 (by decide) ?_
      refine n_seq s_Mo_drop_60 rfl ?_
      rw [n8]
      refine n_aldL d_Mo_drop_68 ⟨by decide, by decide⟩ rfl (nI_1 _) ((show 8 * c + i + 1 < 128 by omega)) ?_
      refine n_astL d_Mo_drop_69 ⟨by decide, by decide⟩ rfl (rfl) ((show 8 * c + i < 128 by omega)) ?_
      rw [sh_s (Nat.le_add_right _ _)]
      refine n_seq s_Mo_drop_70 rfl ?_
      rw [nI_1]
      exact ih (i + 1) (by omega)
  have hst : ar = arS ar [(19, ar 19), (17, ar 17), (18, ar 18)] := arS_id _ (by simp)
  refine n_st hst ?_
  refine n_seq s_Mo_drop_0 rfl ?_
  refine n_geta f_Mo_69 d_Mo_drop_1 (by decide) ?_
  refine n_seq s_Mo_drop_4 rfl ?_
  refine n_aldL d_Mo_drop_6 ⟨by decide, by decide⟩ rfl (rfl) (hc) ?_
  rw [h19]
  refine n_seq s_Mo_drop_7 rfl ?_
  rw [e1]
  refine n_astL d_Mo_drop_9 ⟨by decide, by decide⟩ rfl (rfl) (hc) ?_
  refine n_seq s_Mo_drop_10 rfl ?_
  have := loop (L - 1) 0 (by omega)
  rw [Nat.add_zero, sh_0, sh_0] at this
  exact this
theorem m_gone {k L : Nat} (h25 : sc 25 = nI L) (h30 : L ≤ 30) (hk : k < L) : GN κ m_Mo_gone d m ad ar nm sc 0 [some (.ref m), some (.int (nI k)), none] [] (fun v ar' nm' sc' => v = none ∧ nm' = nm ∧ sc' = scR sc 25 (nI (L - 1)) ∧ ar' = arS ar [(12, sh (ar 12) k (L - 1)), (13, sh (ar 13) k (L - 1)), (14, sh (ar 14) k (L - 1))]) := by
  have e1 : nI L - 1 = nI (L - 1) := pk_sub (b := 1) (by omega)
  have loop : ∀ q i, i + q = L - 1 → k ≤ i → GN κ m_Mo_gone d m ad (arS ar [(12, sh (ar 12) k i), (13, sh (ar 13) k i), (14, sh (ar 14) k i)]) nm (scR sc 25 (nI (L - 1))) 12 [some (.ref m), some (.int (nI k)), some (.int (nI i))] [] (fun v ar' nm' sc' => v = none ∧ nm' = nm ∧ sc' = scR sc 25 (nI (L - 1)) ∧ ar' = arS ar [(12, sh (ar 12) k (L - 1)), (13, sh (ar 13) k (L - 1)), (14, sh (ar 14) k (L - 1))]) := by
    intro q
    induction q with
    | zero =>
      intro i hi hki
      have hie : i = L - 1 := by omega
      subst hie
      refine n_seq s_Mo_gone_12 rfl ?_
      refine n_gets f_Mo_126 d_Mo_gone_14 rfl ?_
      refine n_icmp_ge (tgt := 68) d_Mo_gone_17 (by decide) (fun hbr => ?_) (fun hbr => absurd hbr (fun h => h (nI_le (Nat.le_refl _) (by omega))))
      exact n_vret rfl d_Mo_gone_68 (⟨rfl, rfl, rfl, rfl⟩)
    | succ q ih =>
      intro i hi hki
      refine n_seq s_Mo_gone_12 rfl ?_
      refine n_gets f_Mo_126 d_Mo_gone_14 rfl ?_
      refine n_icmp_ge (tgt := 68) d_Mo_gone_17 (by decide) (fun hbr => absurd hbr (nI_ge (by omega) (by omega))) (fun hbr => ?_)
      refine n_seq s_Mo_gone_20 rfl ?_
      refine n_geta f_Mo_48 d_Mo_gone_21 (by decide) ?_
      refine n_seq s_Mo_gone_24 rfl ?_
      refine n_geta f_Mo_48 d_Mo_gone_26 (by decide) ?_
      refine n_seq s_Mo_gone_29 rfl ?_
      refine n_aldL d_Mo_gone_32 ⟨by decide, by decide⟩ rfl (nI_1 _) ((show i + 1 < 30 by omega)) ?_
      refine n_astL d_Mo_gone_33 ⟨by decide, by decide⟩ rfl (rfl) ((show i < 30 by omega)) ?_
      rw [sh_s hki]
      refine n_seq s_Mo_gone_34 rfl ?_
      refine n_geta f_Mo_51 d_Mo_gone_35 (by decide) ?_
      refine n_seq s_Mo_gone_38 rfl ?_
      refine n_geta f_Mo_51 d_Mo_gone_40 (by decide) ?_
      refine n_seq s_Mo_gone_43 rfl ?_
      refine n_aldL d_Mo_gone_46 ⟨by decide, by decide⟩ rfl (nI_1 _) ((show i + 1 < 30 by omega)) ?_
      refine n_astL d_Mo_gone_47 ⟨by decide, by decide⟩ rfl (rfl) ((show i < 30 by omega)) ?_
      rw [sh_s hki]
      refine n_seq s_Mo_gone_48 rfl ?_
      refine n_geta f_Mo_54 d_Mo_gone_49 (by decide) ?_
      refine n_seq s_Mo_gone_52 rfl ?_
      refine n_geta f_Mo_54 d_Mo_gone_54 (by decide) ?_
      refine n_seq s_Mo_gone_57 rfl ?_
      refine n_aldL d_Mo_gone_60 ⟨by decide, by decide⟩ rfl (nI_1 _) ((show i + 1 < 30 by omega)) ?_
      refine n_astL d_Mo_gone_61 ⟨by decide, by decide⟩ rfl (rfl) ((show i < 30 by omega)) ?_
      rw [sh_s hki]
      refine n_seq s_Mo_gone_62 rfl ?_
      rw [nI_1]
      exact ih (i + 1) (by omega) (by omega)
  have hst : ar = arS ar [(12, ar 12), (13, ar 13), (14, ar 14)] := arS_id _ (by simp)
  refine n_st hst ?_
  refine n_seq s_Mo_gone_0 rfl ?_
  refine n_gets f_Mo_126 d_Mo_gone_2 rfl ?_
  rw [h25]
  refine n_seq s_Mo_gone_5 rfl ?_
  rw [e1]
  refine n_puts f_Mo_126 d_Mo_gone_7 rfl ?_
  refine n_seq s_Mo_gone_10 rfl ?_
  have := loop (L - 1 - k) k (by omega) (Nat.le_refl _)
  rw [sh_0, sh_0, sh_0] at this
  exact this
end NC
end
section
/-! the reference's state -/
def Nx (K : Nat) (ls : Nat → List Nat) (v x : Int32) : Prop := ∃ k, k < K ∧ v = nI k ∧ x = ni (ls k)
def MN (nm : Nat → Int64) (sc : Sc) (K : Nat) (ls : Nat → List Nat) : Prop := sc 23 = nI K ∧ K ≤ 4000 ∧ (∀ k, k < K → nm k = lN (cK (ls k) 6) ∧ okL (ls k) ∧ (ls k).length ≤ 6 ∧ ls k ≠ []) ∧ ∀ k k', k < K → k' < K → ls k = ls k' → k = k'
def hoM (x : Int32) : Int32 := if x = -2 then -1 else x
def WL (g3 g4 : Nat → Int32) (k : Nat) (wa : Int32) (wl : List Nat) : Prop := g3 k = nI wl.length ∧ wl.Nodup ∧ (∀ c, c ∈ wl → c < 16) ∧ RP (fun j => g4 (16 * k + j)) (fun v c => v = nI c) wl ∧ (∀ c, c < 16 → (wbit wa c = true ↔ c ∈ wl)) ∧ ∃ q, q < 65536 ∧ wa = nI q
def RW (ar : Ar) (k : Nat) (row : List Wt) : Prop := ar 7 k = nI row.length ∧ row.length ≤ 5 ∧ RP (fun j => ar 8 (5 * k + j)) (fun v (w : Wt) => v = w.1) row ∧ RP (fun j => ar 9 (5 * k + j)) (fun v (w : Wt) => v = w.2.1) row ∧ RP (fun j => ar 10 (5 * k + j)) (fun v (w : Wt) => v = w.2.2) row ∧ ∀ w, w ∈ row → ∃ c, c < 16 ∧ w.1 = nI c
def ThM (ar : Ar) (k : Nat) (t : Th) : Prop := ar 2 k = t.2.2.2.2.1 ∧ (∃ wl, WL (ar 3) (ar 4) k t.2.2.2.2.2 wl) ∧ ar 5 k = hoM t.2.2.1 ∧ (t.2.2.1 = -2 ∨ ∃ c, c < 16 ∧ t.2.2.1 = nI c) ∧ (lent t = true → ar 6 k = t.2.2.2.1) ∧ RW ar k t.2.1
def MT (ar : Ar) (K : Nat) (ls : Nat → List Nat) (f : Int32 → Th) : Prop := (∀ k, k < K → ThM ar k (f (ni (ls k)))) ∧ (∀ x, (∀ k, k < K → x ≠ ni (ls k)) → f x = newT x) ∧ ∀ x, (f x).1 = x
def MJ (g12 g13 g14 : Nat → Int32) (c : Int32) (K : Nat) (ls : Nat → List Nat) (J : List Wt) : Prop := c = nI J.length ∧ J.length ≤ 30 ∧ RP g12 (fun v (w : Wt) => Nx K ls v w.1) J ∧ RP g13 (fun v (w : Wt) => v = w.2.1) J ∧ RP g14 (fun v (w : Wt) => v = w.2.2) J
def MCa (g15 g16 : Nat → Int32) (c : Int32) (K : Nat) (ls : Nat → List Nat) (C : List (Int32 × Int32)) : Prop := c = nI C.length ∧ C.length ≤ 4 ∧ RP g15 (fun v w => Nx K ls v w.1) C ∧ RP g16 (fun v w => v = w.2) C
def MB (g17 g18 g19 : Nat → Int32) (K : Nat) (ls : Nat → List Nat) (B : Nat → List (Int32 × Int32)) : Prop := ∀ c, c < 16 → g19 c = nI (B c).length ∧ (B c).length ≤ 8 ∧ RP (fun j => g17 (8 * c + j)) (fun v w => Nx K ls v w.1) (B c) ∧ RP (fun j => g18 (8 * c + j)) (fun v w => v = w.2) (B c)
def MW (g11 : Nat → Int32) (c : Int32) (W : List Int32) : Prop := c = nI W.length ∧ W.length ≤ 4000 ∧ RP g11 (fun v x => v = x) W
def MP (g0 : Nat → Int32) (c : Int32) (tp : List Nat) : Prop := c = nI tp.length ∧ okL tp ∧ tp.length ≤ 6 ∧ RP g0 (fun v l => v = nI (l + 96)) tp
def NS (ar : Ar) (nm : Nat → Int64) (sc : Sc) (K : Nat) (ls : Nat → List Nat) (f : Int32 → Th) (J : List Wt) (C : List (Int32 × Int32)) (B : Nat → List (Int32 × Int32)) (W : List Int32) (tp : List Nat) (nw : Int32) : Prop := MN nm sc K ls ∧ MT ar K ls f ∧ MJ (ar 12) (ar 13) (ar 14) (sc 25) K ls J ∧ MCa (ar 15) (ar 16) (sc 26) K ls C ∧ MB (ar 17) (ar 18) (ar 19) K ls B ∧ MW (ar 11) (sc 24) W ∧ MP (ar 0) (sc 21) tp ∧ sc 22 = nw
section NS1
variable {κ : Nat × Nat} {d m : Nat} {ad : Nat → Nat} {ar : Ar} {nm : Nat → Int64} {sc : Sc}
theorem m_code {tp : List Nat} (hp : MP (ar 0) (sc 21) tp) : GN κ m_Mo_code d m ad ar nm sc 0 [some (.ref m), none, none, none] [] (fun v ar' nm' sc' => ar' = ar ∧ nm' = nm ∧ sc' = sc ∧ v = some (.long (lN (cK tp 6)))) := by
  obtain ⟨p1, p2, p3, p4⟩ := hp
  have loop : ∀ q k, k + q = 6 → GN κ m_Mo_code d m ad ar nm sc 8 [some (.ref m), some (.long (lN (cK tp k))), none, some (.int (nI k))] [] (fun v ar' nm' sc' => ar' = ar ∧ nm' = nm ∧ sc' = sc ∧ v = some (.long (lN (cK tp 6)))) := by
    intro q
    induction q with
    | zero =>
      intro k hk
      have : k = 6 := by omega
      subst this
      refine n_seq s_Mo_code_8 rfl ?_
      refine n_icmp_ge (tgt := 49) d_Mo_code_11 (by decide) (fun hbr => ?_) (fun hbr => absurd hbr (fun h => h (nI_le (Nat.le_refl 6) (by omega))))
      refine n_seq s_Mo_code_49 rfl ?_
      exact n_lret rfl d_Mo_code_50 (⟨rfl, rfl, rfl, rfl⟩)
    | succ q ih =>
      intro k hk
      refine n_seq s_Mo_code_8 rfl ?_
      refine n_icmp_ge (tgt := 49) d_Mo_code_11 (by decide) (fun hbr => absurd hbr (nI_ge (a := k) (b := 6) (by omega) (by omega))) (fun hbr => ?_)
      refine n_ldc2 k_Mo_79 d_Mo_code_14  ?_
      refine n_seq s_Mo_code_17 rfl ?_
      refine n_gets f_Mo_75 d_Mo_code_21 rfl ?_
      rw [p1]
      have hs : cK tp (k + 1) = 27 * cK tp k + dg tp k := rfl
      refine n_icmp_ge (tgt := 39) d_Mo_code_24 (by decide) (fun h1 => ?_) (fun h1 => ?_)
      · skip
        have h2 := (nI_leI (by omega) (by omega)).mp h1
        rw [dg_out h2] at hs
        refine n_seq s_Mo_code_39 rfl ?_
        rw [nI_1, show (27 : Int64) = lN 27 from rfl, lN_mul, show (0 : Int32).toInt64 = lN 0 from rfl, lN_add, ← hs]
        exact ih (k + 1) (by omega)
      · skip
        have h2 : k < tp.length := by
          rw [nI_leI (by omega) (by omega)] at h1; omega
        refine n_seq s_Mo_code_27 rfl ?_
        refine n_geta f_Mo_7 d_Mo_code_28 (by decide) ?_
        refine n_seq s_Mo_code_31 rfl ?_
        refine n_ald d_Mo_code_32 ⟨by decide, by decide⟩ (rfl) ((show k < 6 by omega)) ?_
        rw [p4 k _ (dg_at p2 h2).1]
        refine n_seq s_Mo_code_33 rfl ?_
        rw [nI_1, show (96 : Int32) = nI 96 from rfl, pk_sub (by omega), Nat.add_sub_cancel, nI_l (by have := dg_le p2 k; omega), show (27 : Int64) = lN 27 from rfl, lN_mul, lN_add, ← hs]
        exact ih (k + 1) (by omega)
  refine n_seq s_Mo_code_0 rfl ?_
  refine n_gets f_Mo_75 d_Mo_code_1 rfl ?_
  rw [p1]
  refine n_seq s_Mo_code_4 rfl ?_
  rw [nI_l (by omega)]
  exact loop 6 0 rfl
theorem m_write {n : Nat} {ls : List Nat} (hn : n < 4200) (h1 : nm n = lN (cK ls 6)) (ho : okL ls) (h6 : ls.length ≤ 6) : GN κ m_Mo_write d m ad ar nm sc 0 [some (.ref m), some (.int (nI n)), none, none, none] [] (fun v ar' nm' sc' => v = none ∧ nm' = nm ∧ sc' = scR sc 21 (nI ls.length) ∧ ∃ g0 g20, ar' = arS ar [(0, g0), (20, g20)] ∧ RP g0 (fun v l => v = nI (l + 96)) ls) := by
  have loop2 : ∀ q k v (g0 g20 : Nat → Int32), k + q = ls.length → (∀ j, j < 6 → g20 j = nI (dg ls j)) → (∀ j, j < k → g0 j = nI (dg ls j + 96)) → GN κ m_Mo_write d m ad (arS ar [(0, g0), (20, g20)]) nm (scR sc 21 (nI ls.length)) 49 [some (.ref m), some (.int (nI n)), some (.long v), none, some (.int (nI k))] [] (fun v ar' nm' sc' => v = none ∧ nm' = nm ∧ sc' = scR sc 21 (nI ls.length) ∧ ∃ g0 g20, ar' = arS ar [(0, g0), (20, g20)] ∧ RP g0 (fun v l => v = nI (l + 96)) ls) := by
    intro q
    induction q with
    | zero =>
      intro k v g0 g20 hk hg hg0
      refine n_seq s_Mo_write_49 rfl ?_
      refine n_gets f_Mo_75 d_Mo_write_52 rfl ?_
      refine n_icmp_ge (tgt := 81) d_Mo_write_55 (by decide) (fun hbr => ?_) (fun hbr => absurd hbr (fun h => h (nI_le (show ls.length ≤ k by omega) (by omega))))
      exact n_vret rfl d_Mo_write_81 (⟨rfl, rfl, rfl, g0, g20, rfl, fun j l hl => by have h2 := (List.getElem?_eq_some_iff.mp hl).1; have h3 := (dg_at ho h2).1; rw [hl] at h3; cases h3; exact hg0 j (by omega)⟩)
    | succ q ih =>
      intro k v g0 g20 hk hg hg0
      refine n_seq s_Mo_write_49 rfl ?_
      refine n_gets f_Mo_75 d_Mo_write_52 rfl ?_
      refine n_icmp_ge (tgt := 81) d_Mo_write_55 (by decide) (fun hbr => absurd hbr (nI_ge (show k < ls.length by omega) (by omega))) (fun hbr => ?_)
      refine n_seq s_Mo_write_58 rfl ?_
      refine n_geta f_Mo_7 d_Mo_write_59 (by decide) ?_
      refine n_seq s_Mo_write_62 rfl ?_
      refine n_geta f_Mo_72 d_Mo_write_65 (by decide) ?_
      refine n_seq s_Mo_write_68 rfl ?_
      refine n_aldL d_Mo_write_70 ⟨by decide, by decide⟩ rfl (rfl) ((show k < 6 by omega)) ?_
      rw [hg k (by omega)]
      refine n_seq s_Mo_write_71 rfl ?_
      rw [show (96 : Int32) = nI 96 from rfl, nI_add]
      refine n_astL d_Mo_write_74 ⟨by decide, by decide⟩ rfl (rfl) ((show k < 6 by omega)) ?_
      refine n_seq s_Mo_write_75 rfl ?_
      rw [nI_1]
      refine ih (k + 1) _ _ _ (by omega) hg (fun j hj => ?_)
      by_cases hjk : j = k
      · rw [hjk, pk_us]
      · rw [pk_un hjk]; exact hg0 j (by omega)
  have loop : ∀ q (g20 : Nat → Int32), q ≤ 6 → (∀ j, q ≤ j → j < 6 → g20 j = nI (dg ls j)) → GN κ m_Mo_write d m ad (arS ar [(0, ar 0), (20, g20)]) nm sc 10 [some (.ref m), some (.int (nI n)), some (.long (lN (cK ls q))), none, some (.int (nI q + (-1)))] [] (fun v ar' nm' sc' => v = none ∧ nm' = nm ∧ sc' = scR sc 21 (nI ls.length) ∧ ∃ g0 g20, ar' = arS ar [(0, g0), (20, g20)] ∧ RP g0 (fun v l => v = nI (l + 96)) ls) := by
    intro q
    induction q with
    | zero =>
      intro g20 hq hg
      refine n_seq s_Mo_write_10 rfl ?_
      refine n_if_lt (tgt := 40) d_Mo_write_12 (by decide) (fun hbr => ?_) (fun hbr => absurd hbr (fun h => h (by decide)))
      refine n_seq s_Mo_write_40 rfl ?_
      rw [lN_i]
      refine n_puts f_Mo_75 d_Mo_write_43 rfl ?_
      refine n_seq s_Mo_write_46 rfl ?_
      exact loop2 ls.length 0 _ _ _ (by omega) (fun j hj => hg j (Nat.zero_le _) hj) (fun j hj => absurd hj (Nat.not_lt_zero _))
    | succ q ih =>
      intro g20 hq hg
      have c6 := cK_63 ho h6 (k := q + 1) hq
      have hs : cK ls (q + 1) = 27 * cK ls q + dg ls q := rfl
      have h26 := dg_le ho q
      rw [pk_m1]
      refine n_seq s_Mo_write_10 rfl ?_
      refine n_if_lt (tgt := 40) d_Mo_write_12 (by decide) (fun hbr => absurd hbr (nI_pos (by omega))) (fun hbr => ?_)
      refine n_seq s_Mo_write_15 rfl ?_
      refine n_geta f_Mo_72 d_Mo_write_16 (by decide) ?_
      refine n_seq s_Mo_write_19 rfl ?_
      refine n_ldc2 k_Mo_79 d_Mo_write_22  ?_
      refine n_lrem d_Mo_write_25 (by decide) ?_
      rw [show (27 : Int64) = lN 27 from rfl, pk_lRem (by omega) (by decide) (by decide)]
      refine n_seq s_Mo_write_26 rfl ?_
      rw [lN_i, show cK ls (q + 1) % 27 = dg ls q by omega]
      refine n_astL d_Mo_write_27 ⟨by decide, by decide⟩ rfl (rfl) ((show q < 6 by omega)) ?_
      refine n_seq s_Mo_write_28 rfl ?_
      refine n_ldc2 k_Mo_79 d_Mo_write_29  ?_
      refine n_ldiv d_Mo_write_32 (by decide) ?_
      rw [show (27 : Int64) = lN 27 from rfl, pk_lDiv (by omega) (by decide) (by decide), show cK ls (q + 1) / 27 = cK ls q by omega]
      refine n_seq s_Mo_write_33 rfl ?_
      refine ih _ (by omega) (fun j h1 h2 => ?_)
      by_cases hjk : j = q
      · rw [hjk, pk_us]
      · rw [pk_un hjk]; exact hg j (by omega) h2
  have hst : ar = arS ar [(0, ar 0), (20, ar 20)] := arS_id _ (by simp)
  refine n_st hst ?_
  refine n_seq s_Mo_write_0 rfl ?_
  refine n_geta f_Mo_13 d_Mo_write_1 (by decide) ?_
  refine n_seq s_Mo_write_4 rfl ?_
  refine n_lald d_Mo_write_5 (rfl) (hn) ?_
  rw [h1]
  refine n_seq s_Mo_write_6 rfl ?_
  exact loop 6 (ar 20) (Nat.le_refl _) (fun j h1 h2 => absurd h1 (by omega))
end NS1
end
section
/-! the reference: a name is found, or made -/
def Agr (ar ar' : Ar) (k : Nat) : Prop := ar' 2 k = ar 2 k ∧ ar' 3 k = ar 3 k ∧ ar' 5 k = ar 5 k ∧ ar' 6 k = ar 6 k ∧ ar' 7 k = ar 7 k ∧ (∀ j, j < 16 → ar' 4 (16 * k + j) = ar 4 (16 * k + j)) ∧ ∀ j, j < 5 → ar' 8 (5 * k + j) = ar 8 (5 * k + j) ∧ ar' 9 (5 * k + j) = ar 9 (5 * k + j) ∧ ar' 10 (5 * k + j) = ar 10 (5 * k + j)
theorem nodup_le : ∀ (n : Nat) {l : List Nat}, l.Nodup → (∀ c, c ∈ l → c < n) → l.length ≤ n := by
  intro n
  induction n with
  | zero =>
    intro l _ h
    cases l with
    | nil => exact Nat.le_refl _
    | cons a l => exact absurd (h a List.mem_cons_self) (Nat.not_lt_zero _)
  | succ n ih =>
    intro l hd h
    have h1 := ih (l := l.erase n) (hd.erase n) (fun c hc => by
      have h2 := h c (List.mem_of_mem_erase hc)
      have h3 : c ≠ n := fun e => by
        subst e
        exact absurd hc (List.Nodup.not_mem_erase hd)
      omega)
    have h2 := List.length_erase_of_mem (a := n) (l := l)
    by_cases hm : n ∈ l
    · have := h2 hm; omega
    · rw [List.erase_of_not_mem hm] at h1; omega
theorem WL.len {g3 g4 : Nat → Int32} {k : Nat} {wa : Int32} {wl : List Nat} (h : WL g3 g4 k wa wl) : wl.length ≤ 16 := nodup_le 16 h.2.1 h.2.2.1
theorem WL.agr {g3 g4 g3' g4' : Nat → Int32} {k : Nat} {wa : Int32} {wl : List Nat} (h : WL g3 g4 k wa wl) (h3 : g3' k = g3 k) (h4 : ∀ j, j < 16 → g4' (16 * k + j) = g4 (16 * k + j)) : WL g3' g4' k wa wl := by
  have hl := h.len
  obtain ⟨a1, a2, a3, a4, a5, a6⟩ := h
  exact ⟨h3.trans a1, a2, a3, a4.keep (fun j hj => h4 j (by omega)), a5, a6⟩
theorem ThM.agr {ar ar' : Ar} {k : Nat} {t : Th} (h : ThM ar k t) (g : Agr ar ar' k) : ThM ar' k t := by
  obtain ⟨a1, ⟨wl, a2⟩, a3, a4, a5, a6, a7, a8, a9, a10, a11⟩ := h
  obtain ⟨g1, g2, g3, g4, g5, g6, g7⟩ := g
  exact ⟨g1.trans a1, ⟨wl, a2.agr g2 g6⟩, g3.trans a3, a4, fun hl => g4.trans (a5 hl), g5.trans a6, a7, a8.keep (fun j hj => (g7 j (by omega)).1), a9.keep (fun j hj => (g7 j (by omega)).2.1), a10.keep (fun j hj => (g7 j (by omega)).2.2), a11⟩
theorem RP.nil {α : Type} {g : Nat → Int32} {R : Int32 → α → Prop} : RP g R ([] : List α) := fun j x hx => by simp at hx
theorem wbit_z : ∀ c, c < 16 → wbit 0 c = false := by decide
theorem ThM.fresh {ar : Ar} {k : Nat} {x : Int32} (h2 : ar 2 k = 0) (h3 : ar 3 k = 0) (h5 : ar 5 k = -1) (h7 : ar 7 k = 0) : ThM ar k (newT x) := ⟨h2, ⟨[], h3, List.nodup_nil, (fun c hc => by simp at hc), RP.nil, (fun c hc => by rw [show (newT x).2.2.2.2.2 = 0 from rfl, wbit_z c hc]; simp), 0, by decide, rfl⟩, h5, Or.inl rfl, (fun h => by cases h), h7, Nat.zero_le _, RP.nil, RP.nil, RP.nil, fun w hw => by cases hw⟩
def lsN (K : Nat) (tp : List Nat) (ls : Nat → List Nat) : Nat → List Nat := fun k => if k = K then tp else ls k
theorem lsN_s {K : Nat} {tp : List Nat} {ls : Nat → List Nat} : lsN K tp ls K = tp := if_pos rfl
theorem lsN_n {K k : Nat} {tp : List Nat} {ls : Nat → List Nat} (h : k ≠ K) : lsN K tp ls k = ls k := if_neg h
theorem Nx.mono {K : Nat} {ls : Nat → List Nat} {tp : List Nat} {v x : Int32} (h : Nx K ls v x) : Nx (K + 1) (lsN K tp ls) v x := by
  obtain ⟨k, h1, h2, h3⟩ := h
  exact ⟨k, by omega, h2, by rw [lsN_n (by omega)]; exact h3⟩
section NH
variable {κ : Nat × Nat} {d m : Nat} {ad : Nat → Nat} {ar : Ar} {nm : Nat → Int64} {sc : Sc} {K : Nat} {ls : Nat → List Nat} {f : Int32 → Th} {J : List Wt} {C : List (Int32 × Int32)} {B : Nat → List (Int32 × Int32)} {W : List Int32} {tp : List Nat} {nw : Int32}
theorem NS.new (h : NS ar nm sc K ls f J C B W tp nw) (hK : K < 4000) (hne : tp ≠ []) (hno : ∀ j, j < K → ls j ≠ tp) : NS (arS ar [(2, upd (ar 2) K 0), (3, upd (ar 3) K 0), (5, upd (ar 5) K (-1)), (7, upd (ar 7) K 0)]) (vp_updL nm K (lN (cK tp 6))) (scR sc 23 (nI (K + 1))) (K + 1) (lsN K tp ls) f J C B W tp nw := by
  obtain ⟨⟨n1, n2, n3, n4⟩, ⟨t1, t2, t3⟩, ⟨j1, j2, j3, j4, j5⟩, ⟨c1, c2, c3, c4⟩, hb, hw, hp, hnw⟩ := h
  obtain ⟨p1, p2, p3, p4⟩ := id hp
  have hf : f (ni tp) = newT (ni tp) := t2 _ (fun k hk e => hno k hk (ni_inj p2 (n3 k hk).2.1 p3 (n3 k hk).2.2.1 e).symm)
  refine ⟨⟨rfl, by omega, fun k hk => ?_, fun k k' hk hk' e => ?_⟩, ⟨fun k hk => ?_, fun x hx => ?_, t3⟩, ⟨j1, j2, j3.mono (fun v x h => h.mono), j4, j5⟩, ⟨c1, c2, c3.mono (fun v x h => h.mono), c4⟩, fun c hc => ?_, hw, hp, hnw⟩
  · by_cases hkK : k = K
    · subst hkK
      rw [lsN_s, pk_uLs]
      exact ⟨rfl, p2, p3, hne⟩
    · rw [lsN_n hkK, pk_uLn hkK]
      exact n3 k (by omega)
  · by_cases h1 : k = K
    · by_cases h2 : k' = K
      · omega
      · rw [h1, lsN_s, lsN_n h2] at e
        exact absurd e.symm (hno k' (by omega))
    · by_cases h2 : k' = K
      · rw [h2, lsN_s, lsN_n h1] at e
        exact absurd e (hno k (by omega))
      · rw [lsN_n h1, lsN_n h2] at e
        exact n4 k k' (by omega) (by omega) e
  · by_cases hkK : k = K
    · subst hkK
      rw [lsN_s, hf]
      exact ThM.fresh pk_us pk_us pk_us pk_us
    · rw [lsN_n hkK]
      exact (t1 k (by omega)).agr ⟨pk_un hkK, pk_un hkK, pk_un hkK, rfl, pk_un hkK, fun _ _ => rfl, fun _ _ => ⟨rfl, rfl, rfl⟩⟩
  · refine t2 x (fun k hk => ?_)
    have := hx k (by omega)
    rwa [lsN_n (by omega)] at this
  · obtain ⟨b1, b2, b3, b4⟩ := hb c hc
    exact ⟨b1, b2, b3.mono (fun v x h => h.mono), b4⟩
theorem m_here (h : NS ar nm sc K ls f J C B W tp nw) (hne : tp ≠ []) (hK : K < 4000) : GN κ m_Mo_here (d + 1) m ad ar nm sc 0 [some (.ref m), none, none, none] [] (fun v ar' nm' sc' => ∃ n K' ls', NS ar' nm' sc' K' ls' f J C B W tp nw ∧ n < K' ∧ ls' n = tp ∧ v = some (.int (nI n)) ∧ K' ≤ K + 1) := by
  obtain ⟨⟨n1, n2, n3, n4⟩, ht, hj, hc, hb, hw, hp, hnw⟩ := id h
  obtain ⟨p1, p2, p3, p4⟩ := id hp
  have loop : ∀ q k, k + q = K → (∀ j, j < k → ls j ≠ tp) → GN κ m_Mo_here (d + 1) m ad ar nm sc 7 [some (.ref m), some (.long (lN (cK tp 6))), none, some (.int (nI k))] [] (fun v ar' nm' sc' => ∃ n K' ls', NS ar' nm' sc' K' ls' f J C B W tp nw ∧ n < K' ∧ ls' n = tp ∧ v = some (.int (nI n)) ∧ K' ≤ K + 1) := by
    intro q
    induction q with
    | zero =>
      intro k hk hno
      have : k = K := by omega
      subst this
      have hst : ar = arS ar [(2, ar 2), (3, ar 3), (5, ar 5), (7, ar 7)] := arS_id _ (by simp)
      refine n_st hst ?_
      refine n_seq s_Mo_here_7 rfl ?_
      refine n_gets f_Mo_85 d_Mo_here_9 rfl ?_
      rw [n1]
      refine n_icmp_ge (tgt := 34) d_Mo_here_12 (by decide) (fun hbr => ?_) (fun hbr => absurd hbr (fun h => h (nI_le (Nat.le_refl _) (by omega))))
      refine n_seq s_Mo_here_34 rfl ?_
      refine n_geta f_Mo_13 d_Mo_here_35 (by decide) ?_
      refine n_seq s_Mo_here_38 rfl ?_
      refine n_gets f_Mo_85 d_Mo_here_39 rfl ?_
      rw [n1]
      refine n_seq s_Mo_here_42 rfl ?_
      refine n_last d_Mo_here_43 (rfl) ((by omega)) ?_
      refine n_seq s_Mo_here_44 rfl ?_
      refine n_geta f_Mo_17 d_Mo_here_45 (by decide) ?_
      refine n_seq s_Mo_here_48 rfl ?_
      refine n_gets f_Mo_85 d_Mo_here_49 rfl ?_
      rw [n1]
      refine n_seq s_Mo_here_52 rfl ?_
      refine n_astL d_Mo_here_53 ⟨by decide, by decide⟩ rfl (rfl) ((show k < 4200 by omega)) ?_
      refine n_seq s_Mo_here_54 rfl ?_
      refine n_geta f_Mo_20 d_Mo_here_55 (by decide) ?_
      refine n_seq s_Mo_here_58 rfl ?_
      refine n_gets f_Mo_85 d_Mo_here_59 rfl ?_
      rw [n1]
      refine n_seq s_Mo_here_62 rfl ?_
      refine n_astL d_Mo_here_63 ⟨by decide, by decide⟩ rfl (rfl) ((show k < 4200 by omega)) ?_
      refine n_seq s_Mo_here_64 rfl ?_
      refine n_geta f_Mo_27 d_Mo_here_65 (by decide) ?_
      refine n_seq s_Mo_here_68 rfl ?_
      refine n_gets f_Mo_85 d_Mo_here_69 rfl ?_
      rw [n1]
      refine n_seq s_Mo_here_72 rfl ?_
      refine n_astL d_Mo_here_73 ⟨by decide, by decide⟩ rfl (rfl) ((show k < 4200 by omega)) ?_
      refine n_seq s_Mo_here_74 rfl ?_
      refine n_geta f_Mo_33 d_Mo_here_75 (by decide) ?_
      refine n_seq s_Mo_here_78 rfl ?_
      refine n_gets f_Mo_85 d_Mo_here_79 rfl ?_
      rw [n1]
      refine n_seq s_Mo_here_82 rfl ?_
      refine n_astL d_Mo_here_83 ⟨by decide, by decide⟩ rfl (rfl) ((show k < 4200 by omega)) ?_
      refine n_seq s_Mo_here_84 rfl ?_
      refine n_gets f_Mo_85 d_Mo_here_86 rfl ?_
      rw [n1]
      refine n_seq s_Mo_here_89 rfl ?_
      rw [nI_1]
      refine n_puts f_Mo_85 d_Mo_here_92 rfl ?_
      exact n_iret rfl d_Mo_here_95 (⟨k, k + 1, _, h.new hK hne hno, by omega, lsN_s, rfl, Nat.le_refl _⟩)
    | succ q ih =>
      intro k hk hno
      obtain ⟨e1, e2, e3, e4⟩ := n3 k (by omega)
      refine n_seq s_Mo_here_7 rfl ?_
      refine n_gets f_Mo_85 d_Mo_here_9 rfl ?_
      rw [n1]
      refine n_icmp_ge (tgt := 34) d_Mo_here_12 (by decide) (fun hbr => absurd hbr (nI_ge (by omega) (by omega))) (fun hbr => ?_)
      refine n_seq s_Mo_here_15 rfl ?_
      refine n_geta f_Mo_13 d_Mo_here_16 (by decide) ?_
      refine n_seq s_Mo_here_19 rfl ?_
      refine n_lald d_Mo_here_20 (rfl) ((by omega)) ?_
      rw [e1]
      refine n_seq s_Mo_here_21 rfl ?_
      refine n_lcmp d_Mo_here_22  ?_
      refine n_if_ne (tgt := 28) d_Mo_here_23 (by decide) (fun h1 => ?_) (fun h1 => ?_)
      · skip
        refine n_seq s_Mo_here_28 rfl ?_
        rw [nI_1]
        refine ih (k + 1) (by omega) (fun j hj e => ?_)
        by_cases hjk : j = k
        · subst hjk
          exact h1 ((lg_cmp_eq _ _).mpr (by rw [e]))
        · exact hno j (by omega) e
      · skip
        refine n_seq s_Mo_here_26 rfl ?_
        exact n_iret rfl d_Mo_here_27 (⟨k, K, ls, h, by omega, (lN_cK e2 p2 e3 p3).mp ((lg_cmp_eq _ _).mp h1), rfl, by omega⟩)
  refine n_seq s_Mo_here_0 rfl ?_
  refine n_invV l_Mo_81 d_Mo_here_1 rfl ⟨rfl, Nat.le_of_ble_eq_true rfl, Nat.le_of_ble_eq_true rfl⟩ (m_code hp) ?_
  rintro v ar' nm' sc' ⟨rfl, rfl, rfl, rfl⟩
  refine n_seq s_Mo_here_4 rfl ?_
  exact loop K 0 (by omega) (fun j hj => absurd hj (Nat.not_lt_zero _))
end NH
end
section
/-! the reference: changes are told -/
def fU (f : Int32 → Th) (x : Int32) (t : Th) : Int32 → Th := fun y => if y = x then t else f y
theorem fU_s {f : Int32 → Th} {x : Int32} {t : Th} : fU f x t x = t := if_pos rfl
theorem fU_n {f : Int32 → Th} {x y : Int32} {t : Th} (h : y ≠ x) : fU f x t y = f y := if_neg h
section MBs
variable {g17 g18 g19 g17' g18' g19' : Nat → Int32} {K : Nat} {ls : Nat → List Nat} {B : Nat → List (Int32 × Int32)} {c : Nat} {N' : List (Int32 × Int32)} {x : Int32 × Int32}
theorem MB.set (h : MB g17 g18 g19 K ls B) (ha : ∀ c', c' ≠ c → c' < 16 → g19' c' = g19 c' ∧ ∀ j, j < 8 → g17' (8 * c' + j) = g17 (8 * c' + j) ∧ g18' (8 * c' + j) = g18 (8 * c' + j)) (hn : g19' c = nI N'.length ∧ N'.length ≤ 8 ∧ RP (fun j => g17' (8 * c + j)) (fun v w => Nx K ls v w.1) N' ∧ RP (fun j => g18' (8 * c + j)) (fun v w => v = w.2) N') : MB g17' g18' g19' K ls (fun i => if i = c then N' else B i) := by
  intro i hi
  by_cases hic : i = c
  · subst hic
    simp only [↓reduceIte]
    exact hn
  · obtain ⟨b1, b2, b3, b4⟩ := h i hi
    obtain ⟨a1, a2⟩ := ha i hic hi
    simp only [if_neg hic]
    exact ⟨a1.trans b1, b2, b3.keep (fun j hj => (a2 j (by omega)).1), b4.keep (fun j hj => (a2 j (by omega)).2)⟩
theorem MB.drop (h : MB g17 g18 g19 K ls B) (hc : c < 16) (h1 : 1 ≤ (B c).length) : MB (sh g17 (8 * c) (8 * c + ((B c).length - 1))) (sh g18 (8 * c) (8 * c + ((B c).length - 1))) (upd g19 c (nI ((B c).length - 1))) K ls (fun i => if i = c then (B c).eraseIdx 0 else B i) := by
  obtain ⟨b1, b2, b3, b4⟩ := h c hc
  refine h.set (fun c' hn hc' => ⟨pk_un hn, fun j hj => ⟨sh_out (by omega), sh_out (by omega)⟩⟩) ⟨?_, ?_, b3.erase (by omega) (fun j hj => absurd hj (Nat.not_lt_zero _)) (fun j _ hj => sh_in (by omega) (by omega)), b4.erase (by omega) (fun j hj => absurd hj (Nat.not_lt_zero _)) (fun j _ hj => sh_in (by omega) (by omega))⟩
  · rw [pk_us, List.length_eraseIdx_of_lt (by omega)]
  · rw [List.length_eraseIdx_of_lt (by omega)]; omega
theorem MB.push {v : Int32} (h : MB g17 g18 g19 K ls B) (hc : c < 16) (h1 : (B c).length < 8) (hv : Nx K ls v x.1) : MB (upd g17 (8 * c + (B c).length) v) (upd g18 (8 * c + (B c).length) x.2) (upd g19 c (nI ((B c).length + 1))) K ls (fun i => if i = c then B c ++ [x] else B i) := by
  obtain ⟨b1, b2, b3, b4⟩ := h c hc
  refine h.set (fun c' hn hc' => ⟨pk_un hn, fun j hj => ⟨pk_un (by omega), pk_un (by omega)⟩⟩) ⟨?_, ?_, b3.snoc (fun j hj => pk_un (by omega)) (by rw [pk_us]; exact hv), b4.snoc (fun j hj => pk_un (by omega)) (by rw [pk_us])⟩
  · rw [pk_us]; simp
  · simp; omega
end MBs
theorem arS_4 {ar : Ar} {a b c e b' c' e' : Nat → Int32} : arS (arS ar [(2, a), (17, b), (18, c), (19, e)]) [(19, e'), (17, b'), (18, c')] = arS ar [(2, a), (17, b'), (18, c'), (19, e')] := by
  funext i
  simp only [arS]
  by_cases h1 : i = 2 <;> by_cases h2 : i = 17 <;> by_cases h3 : i = 18 <;> by_cases h4 : i = 19 <;> simp_all
section NH2
variable {κ : Nat × Nat} {d m : Nat} {ad : Nat → Nat} {ar : Ar} {nm : Nat → Int64} {sc : Sc} {K : Nat} {ls : Nat → List Nat} {f : Int32 → Th} {J : List Wt} {C : List (Int32 × Int32)} {B : Nat → List (Int32 × Int32)} {W : List Int32} {tp : List Nat} {nw : Int32}
def BpL (B : Nat → List (Int32 × Int32)) (x : Int32 × Int32) (l : List Nat) : Nat → List (Int32 × Int32) := fun c => if c ∈ l then push8 (B c) x else B c
theorem MT.upd {ar ar' : Ar} {n : Nat} {t' : Th} (h : MT ar K ls f) (hN : MN nm sc K ls) (hn : n < K) (ha : ∀ k, k < K → k ≠ n → Agr ar ar' k) (ht : ThM ar' n t') (h1 : t'.1 = ni (ls n)) : MT ar' K ls (fU f (ni (ls n)) t') := by
  obtain ⟨t1, t2, t3⟩ := h
  obtain ⟨n1, n2, n3, n4⟩ := hN
  refine ⟨fun k hk => ?_, fun x hx => ?_, fun x => ?_⟩
  · by_cases hkn : k = n
    · subst hkn
      rw [fU_s]; exact ht
    · have : ni (ls k) ≠ ni (ls n) := fun e => hkn (n4 k n hk hn (ni_inj (n3 k hk).2.1 (n3 n hn).2.1 (n3 k hk).2.2.1 (n3 n hn).2.2.1 e))
      rw [fU_n this]
      exact (t1 k hk).agr (ha k hk hkn)
  · rw [fU_n (hx n hn)]; exact t2 x hx
  · by_cases hx : x = ni (ls n)
    · rw [hx, fU_s]; exact h1
    · rw [fU_n hx]; exact t3 x
theorem m_change {n : Nat} {kind : Int32} (h : NS ar nm sc K ls f J C B W tp nw) (hn : n < K) : GN κ m_Mo_change (d + 1) m ad ar nm sc 0 [some (.ref m), some (.int (nI n)), some (.int kind), none, none] [] (fun v ar' nm' sc' => v = none ∧ nm' = nm ∧ sc' = sc ∧ NS ar' nm sc K ls (fU f (ni (ls n)) (setCh (f (ni (ls n))))) J C (tellB (f (ni (ls n))).2.2.2.2.2 (ni (ls n), kind) 16 B) W tp nw) := by
  obtain ⟨hN, ht, hj, hc, hb, hw, hp, hnw⟩ := id h
  obtain ⟨n1, n2, n3, n4⟩ := id hN
  obtain ⟨t1, t2, t3⟩ := id ht
  obtain ⟨a1, ⟨wl, a2⟩, a3, a4, a5, a6⟩ := id (t1 n hn)
  have hl := a2.len
  obtain ⟨w1, w2, w3, w4, w5, w6⟩ := id a2
  have hx1 := t3 (ni (ls n))
  generalize hx : ni (ls n) = x at *
  generalize ht : f x = t at *
  have loop : ∀ q i (g17 g18 g19 : Nat → Int32), i + q = wl.length → MB g17 g18 g19 K ls (BpL B (x, kind) (wl.take i)) → ∀ u : Option Value, GN κ m_Mo_change (d + 1) m ad (arS ar [(2, upd (ar 2) n (t.2.2.2.2.1 + 1)), (17, g17), (18, g18), (19, g19)]) nm sc 12 [some (.ref m), some (.int (nI n)), some (.int kind), some (.int (nI i)), u] [] (fun v ar' nm' sc' => v = none ∧ nm' = nm ∧ sc' = sc ∧ ∃ g17 g18 g19, ar' = arS ar [(2, upd (ar 2) n (t.2.2.2.2.1 + 1)), (17, g17), (18, g18), (19, g19)] ∧ MB g17 g18 g19 K ls (BpL B (x, kind) wl)) := by
    intro q
    induction q with
    | zero =>
      intro i g17 g18 g19 hi hB u
      refine n_seq s_Mo_change_12 rfl ?_
      refine n_geta f_Mo_20 d_Mo_change_14 (by decide) ?_
      refine n_seq s_Mo_change_17 rfl ?_
      refine n_aldL d_Mo_change_18 ⟨by decide, by decide⟩ rfl (rfl) ((show n < 4200 by omega)) ?_
      rw [w1]
      refine n_icmp_ge (tgt := 102) d_Mo_change_19 (by decide) (fun hbr => ?_) (fun hbr => absurd hbr (fun h => h (nI_le (show wl.length ≤ i by omega) (by omega))))
      rw [List.take_of_length_le (by omega)] at hB
      exact n_vret rfl d_Mo_change_102 (⟨rfl, rfl, rfl, g17, g18, g19, rfl, hB⟩)
    | succ q ih =>
      intro i g17 g18 g19 hi hB u
      have hil : i < wl.length := by omega
      have hci := List.getElem?_eq_getElem hil
      generalize wl[i] = c at hci
      have hc16 : c < 16 := w3 c (List.mem_of_getElem? hci)
      have htk : wl.take (i + 1) = wl.take i ++ [c] := by rw [List.take_succ, hci]; rfl
      have hnot : c ∉ wl.take i := by
        intro hm
        obtain ⟨j, hj⟩ := List.getElem?_of_mem hm
        rw [List.getElem?_take] at hj
        split at hj
        · rename_i hji
          have := (List.getElem?_inj (by omega) w2).mp (hj.trans hci.symm)
          omega
        · cases hj
      have hBc : BpL B (x, kind) (wl.take i) c = B c := if_neg hnot
      have hB' : ∀ N', N' = push8 (B c) (x, kind) → (fun i' => if i' = c then N' else BpL B (x, kind) (wl.take i) i') = BpL B (x, kind) (wl.take (i + 1)) := by
        intro N' hN'
        funext i'
        unfold BpL
        rw [htk]
        by_cases h1 : i' = c
        · subst h1
          rw [if_pos rfl, if_pos (List.mem_append_right _ List.mem_cons_self)]
          exact hN'
        · rw [if_neg h1]
          by_cases h2 : i' ∈ wl.take i
          · rw [if_pos h2, if_pos (List.mem_append_left _ h2)]
          · rw [if_neg h2, if_neg (fun hm => (List.mem_append.mp hm).elim h2 (fun hm => h1 (List.mem_singleton.mp hm)))]
      obtain ⟨b1, b2, b3, b4⟩ := id (hB c hc16)
      rw [hBc] at b1 b2 b3 b4
      refine n_seq s_Mo_change_12 rfl ?_
      refine n_geta f_Mo_20 d_Mo_change_14 (by decide) ?_
      refine n_seq s_Mo_change_17 rfl ?_
      refine n_aldL d_Mo_change_18 ⟨by decide, by decide⟩ rfl (rfl) ((show n < 4200 by omega)) ?_
      rw [w1]
      refine n_icmp_ge (tgt := 102) d_Mo_change_19 (by decide) (fun hbr => absurd hbr (nI_ge hil (by omega))) (fun hbr => ?_)
      refine n_seq s_Mo_change_22 rfl ?_
      refine n_geta f_Mo_24 d_Mo_change_23 (by decide) ?_
      refine n_seq s_Mo_change_26 rfl ?_
      refine n_aldL d_Mo_change_32 ⟨by decide, by decide⟩ rfl (n16) ((show 16 * n + i < 67200 by omega)) ?_
      rw [show ar 4 (16 * n + i) = nI c from w4 i c hci]
      refine n_seq s_Mo_change_33 rfl ?_
      refine n_geta f_Mo_69 d_Mo_change_36 (by decide) ?_
      refine n_seq s_Mo_change_39 rfl ?_
      refine n_aldL d_Mo_change_41 ⟨by decide, by decide⟩ rfl (rfl) (hc16) ?_
      rw [b1]
      refine n_seq s_Mo_change_42 rfl ?_
      -- what follows once there is room
      have next : ∀ (h17 h18 h19 : Nat → Int32) (N1 : List (Int32 × Int32)), N1.length < 8 → N1 ++ [(x, kind)] = push8 (B c) (x, kind) → MB h17 h18 h19 K ls (fun i' => if i' = c then N1 else BpL B (x, kind) (wl.take i) i') → GN κ m_Mo_change (d + 1) m ad (arS ar [(2, upd (ar 2) n (t.2.2.2.2.1 + 1)), (17, h17), (18, h18), (19, h19)]) nm sc 53 [some (.ref m), some (.int (nI n)), some (.int kind), some (.int (nI i)), some (.int (nI c))] [] (fun v ar' nm' sc' => v = none ∧ nm' = nm ∧ sc' = sc ∧ ∃ g17 g18 g19, ar' = arS ar [(2, upd (ar 2) n (t.2.2.2.2.1 + 1)), (17, g17), (18, g18), (19, g19)] ∧ MB g17 g18 g19 K ls (BpL B (x, kind) wl)) := by
        intro h17 h18 h19 N1 hN8 hN1 hM1
        have e1 := (hM1 c hc16).1
        simp only [↓reduceIte] at e1
        refine n_seq s_Mo_change_53 rfl ?_
        refine n_geta f_Mo_63 d_Mo_change_54 (by decide) ?_
        refine n_seq s_Mo_change_57 rfl ?_
        refine n_geta f_Mo_69 d_Mo_change_63 (by decide) ?_
        refine n_seq s_Mo_change_66 rfl ?_
        refine n_aldL d_Mo_change_68 ⟨by decide, by decide⟩ rfl (rfl) (hc16) ?_
        rw [e1]
        refine n_seq s_Mo_change_69 rfl ?_
        rw [n8]
        refine n_astL d_Mo_change_71 ⟨by decide, by decide⟩ rfl (rfl) ((show 8 * c + N1.length < 128 by omega)) ?_
        refine n_seq s_Mo_change_72 rfl ?_
        refine n_geta f_Mo_66 d_Mo_change_73 (by decide) ?_
        refine n_seq s_Mo_change_76 rfl ?_
        refine n_geta f_Mo_69 d_Mo_change_82 (by decide) ?_
        refine n_seq s_Mo_change_85 rfl ?_
        refine n_aldL d_Mo_change_88 ⟨by decide, by decide⟩ rfl (rfl) (hc16) ?_
        rw [e1]
        refine n_seq s_Mo_change_89 rfl ?_
        rw [nI_1]
        refine n_astL d_Mo_change_92 ⟨by decide, by decide⟩ rfl (rfl) (hc16) ?_
        refine n_seq s_Mo_change_93 rfl ?_
        rw [n8]
        refine n_astL d_Mo_change_95 ⟨by decide, by decide⟩ rfl (rfl) ((show 8 * c + N1.length < 128 by omega)) ?_
        refine n_seq s_Mo_change_96 rfl ?_
        rw [nI_1]
        refine ih (i + 1) _ _ _ (by omega) ?_ _
        have hp := hM1.push (c := c) (x := (x, kind)) (v := nI n) hc16 (by simp only [↓reduceIte]; exact hN8) ⟨n, hn, rfl, hx.symm⟩
        simp only [↓reduceIte] at hp
        rw [← hB' _ hN1]
        refine cast (congrArg _ (funext fun i' => ?_)) hp
        by_cases hic : i' = c
        · rw [if_pos hic, if_pos hic]
        · rw [if_neg hic, if_neg hic, if_neg hic]
      refine n_icmp_ne (tgt := 53) d_Mo_change_44 (by decide) (fun h1 => ?_) (fun h1 => ?_)
      · skip
        have hlt : (B c).length < 8 := by
          rcases Nat.lt_or_ge (B c).length 8 with h | h
          · exact h
          · exact absurd (by rw [show (B c).length = 8 by omega]; rfl) h1
        refine next g17 g18 g19 (B c) hlt (by unfold push8; rw [if_pos hlt]) ?_
        refine cast (congrArg _ (funext fun i' => ?_)) hB
        by_cases hic : i' = c
        · rw [if_pos hic, hic, hBc]
        · rw [if_neg hic]
      · skip
        have h8 : (B c).length = 8 := (nI_eq (b := 8) (by omega) (by decide)).mp h1
        refine n_seq s_Mo_change_47 rfl ?_
        refine n_invV l_Mo_88 d_Mo_change_50 rfl ⟨rfl, Nat.le_of_ble_eq_true rfl, Nat.le_of_ble_eq_true rfl⟩ (m_drop hc16 b1 b2 (by omega)) ?_
        rintro v ar' nm' sc' ⟨rfl, rfl, rfl, rfl⟩
        rw [arS_4]
        have hd := hB.drop hc16 (by rw [hBc]; omega)
        rw [hBc] at hd
        refine next _ _ _ ((B c).eraseIdx 0) (by rw [List.length_eraseIdx_of_lt (by omega)]; omega) (by unfold push8; rw [if_neg (by omega)]) hd
  refine n_mono (Q := fun v ar' nm' sc' => v = none ∧ nm' = nm ∧ sc' = sc ∧ ∃ g17 g18 g19, ar' = arS ar [(2, upd (ar 2) n (t.2.2.2.2.1 + 1)), (17, g17), (18, g18), (19, g19)] ∧ MB g17 g18 g19 K ls (BpL B (x, kind) wl)) ?_ ?_
  · have hst : ar = arS ar [(2, ar 2), (17, ar 17), (18, ar 18), (19, ar 19)] := arS_id _ (by simp)
    refine n_st hst ?_
    refine n_seq s_Mo_change_0 rfl ?_
    refine n_geta f_Mo_17 d_Mo_change_1 (by decide) ?_
    refine n_seq s_Mo_change_4 rfl ?_
    refine n_aldL d_Mo_change_6 ⟨by decide, by decide⟩ rfl (rfl) ((show n < 4200 by omega)) ?_
    rw [a1]
    refine n_seq s_Mo_change_7 rfl ?_
    refine n_astL d_Mo_change_9 ⟨by decide, by decide⟩ rfl (rfl) ((show n < 4200 by omega)) ?_
    refine n_seq s_Mo_change_10 rfl ?_
    exact loop wl.length 0 _ _ _ (by omega) (cast (congrArg _ (funext fun i => by simp [BpL])) hb) _
  · rintro v ar' nm' sc' ⟨rfl, rfl, rfl, g17, g18, g19, rfl, hM⟩
    refine ⟨rfl, rfl, rfl, hN, ?_, hj, hc, ?_, hw, hp, hnw⟩
    · subst hx
      refine MT.upd ‹_› hN hn (fun k hk hkn => ⟨pk_un hkn, rfl, rfl, rfl, rfl, fun _ _ => rfl, fun _ _ => ⟨rfl, rfl, rfl⟩⟩) ?_ (by show t.1 = _; exact hx1)
      exact ⟨pk_us, ⟨wl, a2⟩, a3, a4, a5, a6⟩
    · refine cast (congrArg _ (funext fun i => ?_)) hM
      unfold BpL tellB
      by_cases hm : i ∈ wl
      · rw [if_pos hm, if_pos ⟨w3 i hm, (w5 i (w3 i hm)).mpr hm⟩]
      · rw [if_neg hm, if_neg (fun e => hm ((w5 i e.1).mp e.2))]
end NH2
end
section
/-! the reference: leases end -/
theorem fU_fU {f : Int32 → Th} {x : Int32} {a b : Th} : fU (fU f x a) x b = fU f x b := by
  funext y
  unfold fU
  by_cases h : y = x <;> simp [h]
theorem hoM_lt {ar : Ar} {k : Nat} {t : Th} (h : ThM ar k t) : ar 5 k < 0 ↔ lent t = false := by
  obtain ⟨-, -, a3, a4, -⟩ := h
  rw [a3]
  unfold hoM lent
  rcases a4 with h | ⟨c, hc, h⟩
  · rw [if_pos h, h]; decide
  · have h2 : ∀ c, c < 16 → (nI c ≠ -2 ∧ ¬ nI c < 0 ∧ (nI c != -2) = true) := by decide
    obtain ⟨e1, e2, e3⟩ := h2 c hc
    rw [h, if_neg e1, e3]
    exact ⟨fun e => absurd e e2, fun e => by cases e⟩
theorem hoM_ge {ar : Ar} {k : Nat} {t : Th} (h : ThM ar k t) : 0 ≤ ar 5 k ↔ lent t = true := by
  have := hoM_lt h
  constructor
  · intro h1
    rcases hl : lent t with _ | _
    · exact absurd (this.mpr hl) (Int32.not_lt.mpr h1)
    · rfl
  · intro h1
    exact Int32.not_lt.mp (fun h2 => by rw [this.mp h2] at h1; cases h1)
theorem hoM_v {ar : Ar} {k : Nat} {t : Th} (h : ThM ar k t) (hl : lent t = true) : ar 5 k = t.2.2.1 := by
  obtain ⟨-, -, a3, a4, -⟩ := h
  rw [a3]
  unfold hoM
  exact if_neg (fun e => by unfold lent at hl; rw [e] at hl; cases hl)
section NE
variable {κ : Nat × Nat} {d m : Nat} {ad : Nat → Nat} {ar : Ar} {nm : Nat → Int64} {sc : Sc} {K : Nat} {ls : Nat → List Nat} {f : Int32 → Th} {J : List Wt} {C : List (Int32 × Int32)} {B : Nat → List (Int32 × Int32)} {W : List Int32} {tp : List Nat} {nw : Int32}
theorem m_end {n : Nat} (h : NS ar nm sc K ls f J C B W tp nw) (hn : n < K) (hW : W.length < 4000) : GN κ m_Mo_end (d + 2) m ad ar nm sc 0 [some (.ref m), some (.int (nI n))] [] (fun v ar' nm' sc' => v = none ∧ NS ar' nm' sc' K ls (fU f (ni (ls n)) (endT nw (f (ni (ls n))))) J C (tellB (f (ni (ls n))).2.2.2.2.2 (ni (ls n), endK (f (ni (ls n)))) 16 B) (endW nw (f (ni (ls n))) W) tp nw) := by
  obtain ⟨hN, ht, hj, hc, hb, ⟨hw1, hw2, hw3⟩, hp, hnw⟩ := id h
  obtain ⟨n1, n2, n3, n4⟩ := id hN
  obtain ⟨t1, t2, t3⟩ := id ht
  obtain ⟨a1, a2, a3, a4, a5, a6, a7, a8, a9, a10, a11⟩ := id (t1 n hn)
  have hx1 := t3 (ni (ls n))
  generalize hx : ni (ls n) = x at *
  rcases htt : f x with ⟨nm0, row, ho, un, ch, wa⟩
  rw [htt] at a1 a2 a3 a4 a5 a6 a7 a8 a9 a10 a11 hx1
  dsimp only at a1 a2 a3 a4 a5 a6 a7 a8 a9 a10 a11 hx1
  have hn42 : n < 4200 := by omega
  obtain _ | ⟨w, ws⟩ := row
  · have hst : ar = arS ar [(5, ar 5)] := arS_id _ (by simp)
    refine n_st hst ?_
    refine n_seq s_Mo_end_0 rfl ?_
    refine n_geta f_Mo_33 d_Mo_end_1 (by decide) ?_
    refine n_seq s_Mo_end_4 rfl ?_
    refine n_aldL d_Mo_end_5 ⟨by decide, by decide⟩ rfl (rfl) (hn42) ?_
    rw [a6]
    refine n_if_ne (tgt := 23) d_Mo_end_6 (by decide) (fun hbr => absurd hbr (fun h => h rfl)) (fun hbr => ?_)
    refine n_seq s_Mo_end_9 rfl ?_
    refine n_geta f_Mo_27 d_Mo_end_10 (by decide) ?_
    refine n_seq s_Mo_end_13 rfl ?_
    refine n_astL d_Mo_end_15 ⟨by decide, by decide⟩ rfl (rfl) (hn42) ?_
    refine n_seq s_Mo_end_16 rfl ?_
    have hNS : NS (arS ar [(5, upd (ar 5) n (-1))]) nm sc K ls (fU f x (nm0, [], -2, un, ch, wa)) J C B W tp nw := by
      refine ⟨hN, ?_, hj, hc, hb, ⟨hw1, hw2, hw3⟩, hp, hnw⟩
      subst hx
      refine MT.upd ht hN hn (fun k hk hkn => ⟨rfl, rfl, pk_un hkn, rfl, rfl, fun _ _ => rfl, fun _ _ => ⟨rfl, rfl, rfl⟩⟩) ?_ hx1
      exact ⟨a1, a2, pk_us, Or.inl rfl, (fun h => by cases h), a6, a7, a8, a9, a10, a11⟩
    have hch := m_change (κ := κ) (d := d) (m := m) (ad := ad) (kind := 4) hNS hn
    rw [hx, fU_s, fU_fU] at hch
    refine n_invV l_Mo_92 d_Mo_end_19 rfl ⟨rfl, Nat.le_of_ble_eq_true rfl, Nat.le_of_ble_eq_true rfl⟩ (hch) ?_
    rintro v ar' nm' sc' ⟨rfl, rfl, rfl, h2⟩
    exact n_vret rfl d_Mo_end_22 (⟨rfl, h2⟩)
  · have hst : ar = arS ar [(5, ar 5), (6, ar 6), (11, ar 11)] := arS_id _ (by simp)
    have hc0 := a11 w List.mem_cons_self
    have e8 : ar 8 (5 * n) = w.1 := a8 0 w rfl
    have e9 : ar 9 (5 * n) = w.2.1 := a9 0 w rfl
    have e10 : ar 10 (5 * n) = w.2.2 := a10 0 w rfl
    have hm : (5 : Int32) * nI n = nI (5 * n) := pk_mul 5 n
    have hl : ws.length + 1 ≤ 5 := a7
    refine n_st hst ?_
    refine n_seq s_Mo_end_0 rfl ?_
    refine n_geta f_Mo_33 d_Mo_end_1 (by decide) ?_
    refine n_seq s_Mo_end_4 rfl ?_
    refine n_aldL d_Mo_end_5 ⟨by decide, by decide⟩ rfl (rfl) (hn42) ?_
    rw [a6]
    refine n_if_ne (tgt := 23) d_Mo_end_6 (by decide) (fun hbr => ?_) (fun hbr => absurd hbr (nI_ne0 (Nat.succ_pos _) (by simp only [List.length_cons]; omega)))
    refine n_seq s_Mo_end_23 rfl ?_
    refine n_geta f_Mo_27 d_Mo_end_24 (by decide) ?_
    refine n_seq s_Mo_end_27 rfl ?_
    refine n_geta f_Mo_36 d_Mo_end_29 (by decide) ?_
    refine n_seq s_Mo_end_32 rfl ?_
    refine n_aldL d_Mo_end_35 ⟨by decide, by decide⟩ rfl (hm) ((show 5 * n < 21000 by omega)) ?_
    rw [e8]
    refine n_astL d_Mo_end_36 ⟨by decide, by decide⟩ rfl (rfl) (hn42) ?_
    refine n_seq s_Mo_end_37 rfl ?_
    refine n_geta f_Mo_30 d_Mo_end_38 (by decide) ?_
    refine n_seq s_Mo_end_41 rfl ?_
    refine n_gets f_Mo_96 d_Mo_end_43 rfl ?_
    rw [hnw]
    refine n_seq s_Mo_end_46 rfl ?_
    refine n_geta f_Mo_39 d_Mo_end_47 (by decide) ?_
    refine n_seq s_Mo_end_50 rfl ?_
    refine n_aldL d_Mo_end_53 ⟨by decide, by decide⟩ rfl (hm) ((show 5 * n < 21000 by omega)) ?_
    rw [e9]
    refine n_seq s_Mo_end_54 rfl ?_
    refine n_astL d_Mo_end_55 ⟨by decide, by decide⟩ rfl (rfl) (hn42) ?_
    refine n_seq s_Mo_end_56 rfl ?_
    refine n_geta f_Mo_45 d_Mo_end_57 (by decide) ?_
    refine n_seq s_Mo_end_60 rfl ?_
    refine n_gets f_Mo_99 d_Mo_end_62 rfl ?_
    rw [hw1]
    refine n_seq s_Mo_end_65 rfl ?_
    rw [nI_1]
    refine n_puts f_Mo_99 d_Mo_end_68 rfl ?_
    refine n_seq s_Mo_end_71 rfl ?_
    refine n_gets f_Mo_96 d_Mo_end_72 rfl ?_
    rw [show scR sc 24 (nI (W.length + 1)) 22 = nw from hnw]
    refine n_seq s_Mo_end_75 rfl ?_
    refine n_geta f_Mo_42 d_Mo_end_76 (by decide) ?_
    refine n_seq s_Mo_end_79 rfl ?_
    refine n_aldL d_Mo_end_82 ⟨by decide, by decide⟩ rfl (hm) ((show 5 * n < 21000 by omega)) ?_
    rw [e10]
    refine n_seq s_Mo_end_83 rfl ?_
    refine n_astL d_Mo_end_84 ⟨by decide, by decide⟩ rfl (rfl) ((show W.length < 4200 by omega)) ?_
    refine n_seq s_Mo_end_85 rfl ?_
    refine n_invV l_Mo_102 d_Mo_end_88 rfl ⟨rfl, Nat.le_of_ble_eq_true rfl, Nat.le_of_ble_eq_true rfl⟩ (m_out (k := 0) (L := ws.length + 1) hn42 a6 hl (by omega)) ?_
    rintro v ar' nm' sc' ⟨rfl, rfl, rfl, rfl⟩
    generalize hA : arS _ _ = A
    have hNS : NS A nm' (scR sc 24 (nI (W.length + 1))) K ls (fU f x (nm0, ws, w.1, nw + w.2.1, ch, wa)) J C B (W ++ [nw - w.2.2]) tp nw := by
      subst hA
      refine ⟨hN, ?_, hj, hc, hb, ⟨?_, ?_, hw3.snoc (fun j hj => pk_un (by omega)) pk_us⟩, hp, hnw⟩
      · subst hx
        refine MT.upd ht hN hn (fun k hk hkn => ⟨rfl, rfl, pk_un hkn, pk_un hkn, pk_un hkn, fun _ _ => rfl, fun j hj => ⟨sh_out (by omega), sh_out (by omega), sh_out (by omega)⟩⟩) ?_ hx1
        refine ⟨a1, a2, ?_, Or.inr hc0, fun _ => pk_us, pk_us, by show ws.length ≤ 5; omega, ?_, ?_, ?_, fun w' hw' => a11 w' (List.mem_cons_of_mem _ hw')⟩
        · refine pk_us.trans ?_
          obtain ⟨c, hc, e⟩ := hc0
          have h2 : ∀ c, c < 16 → nI c ≠ -2 := by decide
          unfold hoM
          rw [if_neg (by rw [e]; exact h2 c hc)]
        · exact RP.erase (k := 0) a8 (Nat.succ_pos _) (fun j hj => absurd hj (Nat.not_lt_zero _)) (fun j _ hj => sh_in (by omega) (by simp at hj; omega))
        · exact RP.erase (k := 0) a9 (Nat.succ_pos _) (fun j hj => absurd hj (Nat.not_lt_zero _)) (fun j _ hj => sh_in (by omega) (by simp at hj; omega))
        · exact RP.erase (k := 0) a10 (Nat.succ_pos _) (fun j hj => absurd hj (Nat.not_lt_zero _)) (fun j _ hj => sh_in (by omega) (by simp at hj; omega))
      · rw [List.length_append]; rfl
      · rw [List.length_append]; exact hW
    have hch := m_change (κ := κ) (d := d) (m := m) (ad := ad) (kind := 2) hNS hn
    rw [hx, fU_s, fU_fU] at hch
    refine n_seq s_Mo_end_91 rfl ?_
    refine n_invV l_Mo_92 d_Mo_end_94 rfl ⟨rfl, Nat.le_of_ble_eq_true rfl, Nat.le_of_ble_eq_true rfl⟩ (hch) ?_
    rintro v ar' nm' sc' ⟨rfl, rfl, rfl, h2⟩
    exact n_vret rfl d_Mo_end_97 (⟨rfl, h2⟩)
end NE
/-- the best of the first i -/
def BestP (p : Nat → Prop) (lt : Nat → Nat → Prop) (i : Nat) (o : Option Nat) : Prop := match o with
  | none => ∀ k, k < i → ¬ p k
  | some b => b < i ∧ p b ∧ (∀ k, k < i → p k → ¬ lt k b) ∧ ∀ k, k < b → p k → lt b k
theorem BestP.no {p : Nat → Prop} {lt : Nat → Nat → Prop} {i : Nat} {o : Option Nat} (h : BestP p lt i o) (hp : ¬ p i) : BestP p lt (i + 1) o := by
  cases o with
  | none =>
    intro k hk
    by_cases e : k = i
    · rw [e]; exact hp
    · exact h k (by omega)
  | some b =>
    obtain ⟨h1, h2, h3, h4⟩ := h
    refine ⟨by omega, h2, fun k hk hpk => ?_, h4⟩
    by_cases e : k = i
    · rw [e] at hpk; exact absurd hpk hp
    · exact h3 k (by omega) hpk
theorem BestP.fst {p : Nat → Prop} {lt : Nat → Nat → Prop} {i : Nat} (hirr : ¬ lt i i) (h : BestP p lt i none) (hp : p i) : BestP p lt (i + 1) (some i) := by
  refine ⟨by omega, hp, fun k hk hpk => ?_, fun k hk hpk => absurd hpk (h k hk)⟩
  by_cases e : k = i
  · rw [e]; exact hirr
  · exact absurd hpk (h k (by omega))
theorem BestP.old {p : Nat → Prop} {lt : Nat → Nat → Prop} {i b : Nat} (h : BestP p lt i (some b)) (hl : ¬ lt i b) : BestP p lt (i + 1) (some b) := by
  obtain ⟨h1, h2, h3, h4⟩ := h
  refine ⟨by omega, h2, fun k hk hpk => ?_, h4⟩
  by_cases e : k = i
  · rw [e]; exact hl
  · exact h3 k (by omega) hpk
theorem BestP.nw {p : Nat → Prop} {lt : Nat → Nat → Prop} {i b : Nat} (hirr : ¬ lt i i) (hnt : ∀ k, lt i b → ¬ lt k b → lt i k) (has : ∀ k, lt i k → ¬ lt k i) (h : BestP p lt i (some b)) (hp : p i) (hl : lt i b) : BestP p lt (i + 1) (some i) := by
  obtain ⟨h1, h2, h3, h4⟩ := h
  refine ⟨by omega, hp, fun k hk hpk => ?_, fun k hk hpk => hnt k hl (h3 k hk hpk)⟩
  by_cases e : k = i
  · rw [e]; exact hirr
  · exact has k (hnt k hl (h3 k (by omega) hpk))
end
section
/-! what the public methods answer, and do -/
abbrev okC (tp : List Nat) (c : Int32) : Prop := tp ≠ [] ∧ 0 ≤ c ∧ c < 16
abbrev okK (tk : Int32) : Prop := 1 ≤ tk ∧ tk ≤ 100
abbrev BB : Type := Nat → List (Int32 × Int32)
def signA (tp : List Nat) (c : Int32) : Int32 := if 97 ≤ c ∧ c ≤ 122 then (if tp.length = 6 then -3 else nI (tp.length + 1)) else -1
def signT (tp : List Nat) (c : Int32) : List Nat := if 97 ≤ c ∧ c ≤ 122 then (if tp.length = 6 then tp else tp ++ [c.toNatClampNeg - 96]) else tp
def wantS (tp : List Nat) (nw c tk : Int32) (t : Th) (B : BB) : Int32 × Th × BB := if okC tp c ∧ okK tk then (if lent t = true then (if t.2.2.1 = c ∨ t.2.1.any (fun w => w.1 == c) = true then (-2, t, B) else if t.2.1.length = 5 then (-3, t, B) else (nI (t.2.1.length + 1), addW t (c, tk, nw), B)) else (0, lendT t c (nw + tk), tellB t.2.2.2.2.2 (t.1, 1) 16 B)) else (-1, t, B)
def freeS (tp : List Nat) (nw c : Int32) (t : Th) (B : BB) (W : List Int32) : Int32 × Th × BB × List Int32 := if okC tp c ∧ t.2.2.1 = c then ((endT nw t).2.2.1, endT nw t, tellB t.2.2.2.2.2 (t.1, endK t) 16 B, endW nw t W) else (-1, t, B, W)
def renewS (tp : List Nat) (nw c tk : Int32) (t : Th) (B : BB) : Int32 × Th × BB := if okC tp c ∧ okK tk ∧ t.2.2.1 = c then (nw + tk, lendT t c (nw + tk), tellB t.2.2.2.2.2 (t.1, 3) 16 B) else (-1, t, B)
def leaveS (tp : List Nat) (c : Int32) (t : Th) : Int32 × Th := if okC tp c then (match t.2.1.findIdx? (fun w => w.1 == c) with | none => (-2, t) | some j => (nI (t.2.1.length - 1), delW t j)) else (-1, t)
def holderA (tp : List Nat) (t : Th) : Int32 := if tp = [] then -1 else t.2.2.1
def leftA (tp : List Nat) (nw : Int32) (t : Th) : Int32 := if tp = [] then -1 else if lent t = true then t.2.2.2.1 - nw else -2
def atI {α : Type} (l : List α) (g : α → Int32) (c : Int32) : Int32 := if 0 ≤ c then ((l[c.toNatClampNeg]?).map g).getD (-2) else -2
def waitingA (tp : List Nat) (c : Int32) (t : Th) : Int32 := if tp = [] then -1 else atI t.2.1 (fun w => w.1) c
theorem FI_find {α : Type} {p : α → Bool} {l : List α} {o : Option Nat} (h : FI p l o) : l.findIdx? p = o := by
  cases o with
  | none =>
    rw [List.findIdx?_eq_none_iff]
    intro x hx
    obtain ⟨j, hj⟩ := List.getElem?_of_mem hx
    exact h j x hj
  | some i =>
    obtain ⟨x, h1, h2, h3⟩ := h
    rw [List.findIdx?_eq_some_iff_getElem]
    obtain ⟨hi, he⟩ := List.getElem?_eq_some_iff.mp h1
    refine ⟨hi, by rw [he]; exact h2, fun j hj => ?_⟩
    have := h3 j l[j] hj (List.getElem?_eq_getElem (by omega))
    simp [this]
theorem FI_any {α : Type} {p : α → Bool} {l : List α} {o : Option Nat} (h : FI p l o) : l.any p = o.isSome := by
  cases o with
  | none =>
    rw [Option.isSome_none, List.any_eq_false]
    intro x hx
    obtain ⟨j, hj⟩ := List.getElem?_of_mem hx
    rw [h j x hj]; decide
  | some i =>
    obtain ⟨x, h1, h2, h3⟩ := h
    rw [Option.isSome_some, List.any_eq_true]
    exact ⟨x, List.mem_of_getElem? h1, h2⟩
theorem fU_id {f : Int32 → Th} {x : Int32} : fU f x (f x) = f := by
  funext y
  unfold fU
  by_cases h : y = x <;> simp [h]
theorem atI_in {α : Type} {l : List α} {g : α → Int32} {j : Nat} {x : α} (hl : l.length ≤ 100000) (h : l[j]? = some x) : atI l g (nI j) = g x := by
  have := (List.getElem?_eq_some_iff.mp h).1
  unfold atI
  rw [if_pos (nI_pos' (by omega)), nI_cl (by omega), h]; rfl
theorem atI_out {α : Type} {l : List α} {g : α → Int32} {c : Int32} (hl : l.length ≤ 100000) (h : ∀ j, j < l.length → c ≠ nI j) : atI l g c = -2 := by
  unfold atI
  by_cases h0 : 0 ≤ c
  · rw [if_pos h0]
    obtain ⟨j, hj1, hj2⟩ := nI_of (Int32.not_lt.mpr h0)
    subst hj2
    rw [nI_clamp hj1, List.getElem?_eq_none]; rfl
    rcases Nat.lt_or_ge j l.length with h1 | h1
    · exact absurd rfl (h j h1)
    · exact h1
  · rw [if_neg h0]
def NY (ar : Ar) (nm : Nat → Int64) (sc : Sc) (b : Nat) (f : Int32 → Th) (J : List Wt) (C : List (Int32 × Int32)) (B : BB) (W : List Int32) (tp : List Nat) (nw : Int32) : Prop := ∃ K ls, K ≤ b ∧ NS ar nm sc K ls f J C B W tp nw
section NP
variable {κ : Nat × Nat} {d m : Nat} {ad : Nat → Nat} {ar : Ar} {nm : Nat → Int64} {sc : Sc} {K : Nat} {ls : Nat → List Nat} {f : Int32 → Th} {J : List Wt} {C : List (Int32 × Int32)} {B : Nat → List (Int32 × Int32)} {W : List Int32} {tp : List Nat} {nw : Int32}
theorem NS.y (h : NS ar nm sc K ls f J C B W tp nw) : NY ar nm sc (K + 1) f J C B W tp nw := ⟨K, ls, by omega, h⟩
theorem NS.yU (h : NS ar nm sc K ls f J C B W tp nw) {b : Nat} (hb : K ≤ b) {x : Int32} : NY ar nm sc b (fU f x (f x)) J C B W tp nw := ⟨K, ls, hb, by rw [fU_id]; exact h⟩
theorem tp_ne {tp : List Nat} {h6 : tp.length ≤ 6} : nI tp.length = 0 ↔ tp = [] := by
  rw [show (0 : Int32) = nI 0 from rfl, nI_eq (by omega) (by decide), List.length_eq_zero_iff]
theorem tp_0 (hp : MP (ar 0) (sc 21) tp) : sc 21 = 0 ↔ tp = [] := by
  rw [hp.1]; exact tp_ne (h6 := hp.2.2.1)
theorem m_sign {c : Int32} (h : NS ar nm sc K ls f J C B W tp nw) : GN κ m_Mo_sign d m ad ar nm sc 0 [some (.ref m), some (.int c)] [] (fun v ar' nm' sc' => v = some (.int (signA tp c)) ∧ NY ar' nm' sc' (K + 1) f J C B W (signT tp c) nw) := by
  obtain ⟨hN, ht, hj, hc, hb, hw, ⟨p1, p2, p3, p4⟩, hnw⟩ := id h
  have bad : ¬ (97 ≤ c ∧ c ≤ 122) → GN κ m_Mo_sign d m ad ar nm sc 12 [some (.ref m), some (.int c)] [] (fun v ar' nm' sc' => v = some (.int (signA tp c)) ∧ NY ar' nm' sc' (K + 1) f J C B W (signT tp c) nw) := by
    intro hb
    unfold signA signT
    rw [if_neg hb, if_neg hb]
    refine n_seq s_Mo_sign_12 rfl ?_
    exact n_iret rfl d_Mo_sign_13 (⟨rfl, h.y⟩)
  refine n_seq s_Mo_sign_0 rfl ?_
  refine n_icmp_lt (tgt := 12) d_Mo_sign_3 (by decide) (fun h1 => ?_) (fun h1 => ?_)
  · skip
    exact bad (fun q => absurd h1 (Int32.not_lt.mpr q.1))
  · skip
    refine n_seq s_Mo_sign_6 rfl ?_
    refine n_icmp_le (tgt := 14) d_Mo_sign_9 (by decide) (fun h2 => ?_) (fun h2 => ?_)
    · skip
      have hok : 97 ≤ c ∧ c ≤ 122 := ⟨Int32.not_lt.mp h1, h2⟩
      unfold signA signT
      rw [if_pos hok, if_pos hok]
      refine n_seq s_Mo_sign_14 rfl ?_
      refine n_gets f_Mo_75 d_Mo_sign_15 rfl ?_
      rw [p1]
      refine n_seq s_Mo_sign_18 rfl ?_
      refine n_icmp_ne (tgt := 26) d_Mo_sign_20 (by decide) (fun h3 => ?_) (fun h3 => ?_)
      · skip
        have h6 : tp.length ≠ 6 := fun e => h3 (by rw [e]; rfl)
        rw [if_neg h6, if_neg h6]
        have hst : ar = arS ar [(0, ar 0)] := arS_id _ (by simp)
        refine n_st hst ?_
        refine n_seq s_Mo_sign_26 rfl ?_
        refine n_geta f_Mo_7 d_Mo_sign_27 (by decide) ?_
        refine n_seq s_Mo_sign_30 rfl ?_
        refine n_gets f_Mo_75 d_Mo_sign_32 rfl ?_
        rw [p1]
        refine n_seq s_Mo_sign_35 rfl ?_
        rw [nI_1]
        refine n_puts f_Mo_75 d_Mo_sign_38 rfl ?_
        refine n_seq s_Mo_sign_41 rfl ?_
        refine n_astL d_Mo_sign_42 ⟨by decide, by decide⟩ rfl (rfl) ((show tp.length < 6 by omega)) ?_
        refine n_seq s_Mo_sign_43 rfl ?_
        refine n_gets f_Mo_75 d_Mo_sign_44 rfl ?_
        obtain ⟨l, hl, hcl⟩ := nI_of (x := c) (fun h => absurd (Int32.le_trans hok.1 (Int32.le_of_lt h)) (by decide))
        have l1 : 97 ≤ l := (nI_leI (a := 97) (by decide) hl).mp (by rw [← hcl]; exact hok.1)
        have l2 : l ≤ 122 := (nI_leI (b := 122) hl (by decide)).mp (by rw [← hcl]; exact hok.2)
        have hct : c.toNatClampNeg = l := by rw [hcl, nI_clamp hl]
        exact n_iret rfl d_Mo_sign_47 (⟨rfl, K, ls, by omega, hN, ht, hj, hc, hb, hw, ⟨by simp only [List.length_append]; rfl, okL_snoc.mpr ⟨p2, by omega, by omega⟩, by simp only [List.length_append, List.length_singleton]; omega, p4.snoc (fun j hj => pk_un (by omega)) (pk_us.trans (by rw [hct, show l - 96 + 96 = l by omega]; exact hcl))⟩, hnw⟩)
      · skip
        have h6 : tp.length = 6 := (nI_eq (b := 6) (by omega) (by decide)).mp h3
        rw [if_pos h6, if_pos h6]
        refine n_seq s_Mo_sign_23 rfl ?_
        exact n_iret rfl d_Mo_sign_25 (⟨rfl, h.y⟩)
    · skip
      exact bad (fun q => h2 q.2)
theorem m_erase (h : NS ar nm sc K ls f J C B W tp nw) : GN κ m_Mo_erase d m ad ar nm sc 0 [some (.ref m), none] [] (fun v ar' nm' sc' => v = some (.int (nI tp.length)) ∧ NY ar' nm' sc' (K + 1) f J C B W [] nw) := by
  obtain ⟨hN, ht, hj, hc, hb, hw, ⟨p1, p2, p3, p4⟩, hnw⟩ := id h
  refine n_seq s_Mo_erase_0 rfl ?_
  refine n_gets f_Mo_75 d_Mo_erase_1 rfl ?_
  refine n_seq s_Mo_erase_4 rfl ?_
  refine n_puts f_Mo_75 d_Mo_erase_7 rfl ?_
  refine n_seq s_Mo_erase_10 rfl ?_
  exact n_iret rfl d_Mo_erase_11 (⟨by rw [p1], K, ls, by omega, hN, ht, hj, hc, hb, hw, ⟨rfl, (fun l hl => by cases hl), Nat.zero_le _, RP.nil⟩, hnw⟩)
theorem m_letter {c : Int32} (h : NS ar nm sc K ls f J C B W tp nw) : GN κ m_Mo_letter d m ad ar nm sc 0 [some (.ref m), some (.int c)] [] (fun v ar' nm' sc' => v = some (.int (atI tp (fun l => nI (l + 96)) c)) ∧ NY ar' nm' sc' (K + 1) f J C B W tp nw) := by
  obtain ⟨hN, ht, hj, hc, hb, hw, ⟨p1, p2, p3, p4⟩, hnw⟩ := id h
  have bad : (∀ j, j < tp.length → c ≠ nI j) → GN κ m_Mo_letter d m ad ar nm sc 12 [some (.ref m), some (.int c)] [] (fun v ar' nm' sc' => v = some (.int (atI tp (fun l => nI (l + 96)) c)) ∧ NY ar' nm' sc' (K + 1) f J C B W tp nw) := by
    intro hb
    rw [atI_out (by omega) hb]
    refine n_seq s_Mo_letter_12 rfl ?_
    exact n_iret rfl d_Mo_letter_23 (⟨rfl, h.y⟩)
  refine n_seq s_Mo_letter_0 rfl ?_
  refine n_if_lt (tgt := 12) d_Mo_letter_1 (by decide) (fun h1 => ?_) (fun h1 => ?_)
  · skip
    exact bad (fun j hj e => by rw [e] at h1; exact nI_lt0 (by omega) h1)
  · skip
    obtain ⟨j, hj1, hj2⟩ := nI_of h1
    subst hj2
    refine n_seq s_Mo_letter_4 rfl ?_
    refine n_gets f_Mo_75 d_Mo_letter_6 rfl ?_
    rw [p1]
    refine n_icmp_lt (tgt := 17) d_Mo_letter_9 (by decide) (fun h2 => ?_) (fun h2 => ?_)
    · skip
      have hjl : j < tp.length := (nI_ltI hj1 (by omega)).mp h2
      have hTj := List.getElem?_eq_getElem hjl
      refine n_seq s_Mo_letter_17 rfl ?_
      refine n_geta f_Mo_7 d_Mo_letter_18 (by decide) ?_
      refine n_seq s_Mo_letter_21 rfl ?_
      refine n_ald d_Mo_letter_22 ⟨by decide, by decide⟩ (rfl) ((show j < 6 by omega)) ?_
      rw [p4 j _ hTj]
      exact n_iret rfl d_Mo_letter_23 (⟨by rw [atI_in (by omega) hTj], h.y⟩)
    · skip
      exact bad (fun j' hj' e => h2 (by rw [e]; exact nI_lt hj' (show tp.length < 2 ^ 31 by omega)))
theorem m_holder (h : NS ar nm sc K ls f J C B W tp nw) (hK : K < 4000) : GN κ m_Mo_holder (d + 2) m ad ar nm sc 0 [some (.ref m), none] [] (fun v ar' nm' sc' => v = some (.int (holderA tp (f (ni tp)))) ∧ NY ar' nm' sc' (K + 1) f J C B W tp nw) := by
  have hp := h.2.2.2.2.2.2.1
  unfold holderA
  refine n_seq s_Mo_holder_0 rfl ?_
  refine n_gets f_Mo_75 d_Mo_holder_1 rfl ?_
  refine n_if_ne (tgt := 9) d_Mo_holder_4 (by decide) (fun h1 => ?_) (fun h1 => ?_)
  · skip
    have hne : tp ≠ [] := fun e => h1 ((tp_0 hp).mpr e)
    rw [if_neg hne]
    refine n_seq s_Mo_holder_9 rfl ?_
    refine n_invV l_Mo_109 d_Mo_holder_10 rfl ⟨rfl, Nat.le_of_ble_eq_true rfl, Nat.le_of_ble_eq_true rfl⟩ (m_here h hne hK) ?_
    rintro v ar' nm' sc' ⟨n, K', ls', h', hn, hls, rfl, hK'⟩
    have hT := h'.2.1.1 n hn
    rw [hls] at hT
    have h40 := h'.1.2.1
    refine n_seq s_Mo_holder_13 rfl ?_
    refine n_geta f_Mo_27 d_Mo_holder_15 (by decide) ?_
    refine n_seq s_Mo_holder_18 rfl ?_
    refine n_ald d_Mo_holder_19 ⟨by decide, by decide⟩ (rfl) ((show n < 4200 by omega)) ?_
    refine n_if_ge (tgt := 28) d_Mo_holder_20 (by decide) (fun h2 => ?_) (fun h2 => ?_)
    · skip
      have hl := (hoM_ge hT).mp h2
      refine n_seq s_Mo_holder_28 rfl ?_
      refine n_geta f_Mo_27 d_Mo_holder_29 (by decide) ?_
      refine n_seq s_Mo_holder_32 rfl ?_
      refine n_ald d_Mo_holder_33 ⟨by decide, by decide⟩ (rfl) ((show n < 4200 by omega)) ?_
      rw [hoM_v hT hl]
      exact n_iret rfl d_Mo_holder_34 (⟨rfl, K', ls', hK', h'⟩)
    · skip
      have hl := (hoM_lt hT).mp (Int32.not_le.mp h2)
      refine n_seq s_Mo_holder_23 rfl ?_
      exact n_iret rfl d_Mo_holder_34 (⟨by unfold lent at hl; rw [show (f (ni tp)).2.2.1 = -2 by simpa using hl], K', ls', hK', h'⟩)
  · skip
    rw [if_pos ((tp_0 hp).mp h1)]
    refine n_seq s_Mo_holder_7 rfl ?_
    exact n_iret rfl d_Mo_holder_8 (⟨rfl, h.y⟩)
theorem m_left (h : NS ar nm sc K ls f J C B W tp nw) (hK : K < 4000) : GN κ m_Mo_left (d + 2) m ad ar nm sc 0 [some (.ref m), none] [] (fun v ar' nm' sc' => v = some (.int (leftA tp nw (f (ni tp)))) ∧ NY ar' nm' sc' (K + 1) f J C B W tp nw) := by
  have hp := h.2.2.2.2.2.2.1
  unfold leftA
  refine n_seq s_Mo_left_0 rfl ?_
  refine n_gets f_Mo_75 d_Mo_left_1 rfl ?_
  refine n_if_ne (tgt := 9) d_Mo_left_4 (by decide) (fun h1 => ?_) (fun h1 => ?_)
  · skip
    have hne : tp ≠ [] := fun e => h1 ((tp_0 hp).mpr e)
    rw [if_neg hne]
    refine n_seq s_Mo_left_9 rfl ?_
    refine n_invV l_Mo_109 d_Mo_left_10 rfl ⟨rfl, Nat.le_of_ble_eq_true rfl, Nat.le_of_ble_eq_true rfl⟩ (m_here h hne hK) ?_
    rintro v ar' nm' sc' ⟨n, K', ls', h', hn, hls, rfl, hK'⟩
    have hT := h'.2.1.1 n hn
    rw [hls] at hT
    have h40 := h'.1.2.1
    refine n_seq s_Mo_left_13 rfl ?_
    refine n_geta f_Mo_27 d_Mo_left_15 (by decide) ?_
    refine n_seq s_Mo_left_18 rfl ?_
    refine n_ald d_Mo_left_19 ⟨by decide, by decide⟩ (rfl) ((show n < 4200 by omega)) ?_
    refine n_if_ge (tgt := 28) d_Mo_left_20 (by decide) (fun h2 => ?_) (fun h2 => ?_)
    · skip
      have hl := (hoM_ge hT).mp h2
      rw [if_pos hl]
      refine n_seq s_Mo_left_28 rfl ?_
      refine n_geta f_Mo_30 d_Mo_left_29 (by decide) ?_
      refine n_seq s_Mo_left_32 rfl ?_
      refine n_ald d_Mo_left_33 ⟨by decide, by decide⟩ (rfl) ((show n < 4200 by omega)) ?_
      rw [hT.2.2.2.2.1 hl]
      refine n_seq s_Mo_left_34 rfl ?_
      refine n_gets f_Mo_96 d_Mo_left_35 rfl ?_
      rw [h'.2.2.2.2.2.2.2]
      refine n_seq s_Mo_left_38 rfl ?_
      exact n_iret rfl d_Mo_left_39 (⟨rfl, K', ls', hK', h'⟩)
    · skip
      have hl := (hoM_lt hT).mp (Int32.not_le.mp h2)
      rw [if_neg (by rw [hl]; decide)]
      refine n_seq s_Mo_left_23 rfl ?_
      exact n_iret rfl d_Mo_left_39 (⟨rfl, K', ls', hK', h'⟩)
  · skip
    rw [if_pos ((tp_0 hp).mp h1)]
    refine n_seq s_Mo_left_7 rfl ?_
    exact n_iret rfl d_Mo_left_8 (⟨rfl, h.y⟩)
theorem m_waiting {c : Int32} (h : NS ar nm sc K ls f J C B W tp nw) (hK : K < 4000) : GN κ m_Mo_waiting (d + 2) m ad ar nm sc 0 [some (.ref m), some (.int c), none] [] (fun v ar' nm' sc' => v = some (.int (waitingA tp c (f (ni tp)))) ∧ NY ar' nm' sc' (K + 1) f J C B W tp nw) := by
  have hp := h.2.2.2.2.2.2.1
  unfold waitingA
  refine n_seq s_Mo_waiting_0 rfl ?_
  refine n_gets f_Mo_75 d_Mo_waiting_1 rfl ?_
  refine n_if_ne (tgt := 9) d_Mo_waiting_4 (by decide) (fun h1 => ?_) (fun h1 => ?_)
  · skip
    have hne : tp ≠ [] := fun e => h1 ((tp_0 hp).mpr e)
    rw [if_neg hne]
    refine n_seq s_Mo_waiting_9 rfl ?_
    refine n_invV l_Mo_109 d_Mo_waiting_10 rfl ⟨rfl, Nat.le_of_ble_eq_true rfl, Nat.le_of_ble_eq_true rfl⟩ (m_here h hne hK) ?_
    rintro v ar' nm' sc' ⟨n, K', ls', h', hn, hls, rfl, hK'⟩
    have hT := h'.2.1.1 n hn
    rw [hls] at hT
    have h40 := h'.1.2.1
    obtain ⟨-, -, -, -, -, a6, a7, a8, -⟩ := hT
    generalize (f (ni tp)).2.1 = row at a6 a7 a8 ⊢
    have bad : ∀ u, (∀ j, j < row.length → c ≠ nI j) → GN κ m_Mo_waiting (d + 2) m ad ar' nm' sc' 28 [some (.ref m), some (.int c), u] [] (fun v ar' nm' sc' => v = some (.int (atI row (fun w => w.1) c)) ∧ NY ar' nm' sc' (K + 1) f J C B W tp nw) := by
      intro u hb
      rw [atI_out (by omega) hb]
      refine n_seq s_Mo_waiting_28 rfl ?_
      exact n_iret rfl d_Mo_waiting_43 (⟨rfl, K', ls', hK', h'⟩)
    refine n_seq s_Mo_waiting_13 rfl ?_
    refine n_if_lt (tgt := 28) d_Mo_waiting_15 (by decide) (fun h3 => ?_) (fun h3 => ?_)
    · skip
      exact bad _ (fun j hj e => by rw [e] at h3; exact nI_lt0 (by omega) h3)
    · skip
      obtain ⟨j, hj1, hj2⟩ := nI_of h3
      subst hj2
      refine n_seq s_Mo_waiting_18 rfl ?_
      refine n_geta f_Mo_33 d_Mo_waiting_20 (by decide) ?_
      refine n_seq s_Mo_waiting_23 rfl ?_
      refine n_ald d_Mo_waiting_24 ⟨by decide, by decide⟩ (rfl) ((show n < 4200 by omega)) ?_
      rw [a6]
      refine n_icmp_lt (tgt := 33) d_Mo_waiting_25 (by decide) (fun h2 => ?_) (fun h2 => ?_)
      · skip
        have hjl : j < row.length := (nI_ltI hj1 (by omega)).mp h2
        have hTj := List.getElem?_eq_getElem hjl
        refine n_seq s_Mo_waiting_33 rfl ?_
        refine n_geta f_Mo_36 d_Mo_waiting_34 (by decide) ?_
        refine n_seq s_Mo_waiting_37 rfl ?_
        refine n_ald d_Mo_waiting_42 ⟨by decide, by decide⟩ (n5) ((show 5 * n + j < 21000 by omega)) ?_
        rw [show ar' 8 (5 * n + j) = _ from a8 j _ hTj]
        exact n_iret rfl d_Mo_waiting_43 (⟨by rw [atI_in (by omega) hTj], K', ls', hK', h'⟩)
      · skip
        exact bad _ (fun j' hj' e => h2 (by rw [e]; exact nI_lt hj' (show row.length < 2 ^ 31 by omega)))
  · skip
    rw [if_pos ((tp_0 hp).mp h1)]
    refine n_seq s_Mo_waiting_7 rfl ?_
    exact n_iret rfl d_Mo_waiting_8 (⟨rfl, h.y⟩)
end NP
end
section
section NP2
variable {κ : Nat × Nat} {d m : Nat} {ad : Nat → Nat} {ar : Ar} {nm : Nat → Int64} {sc : Sc} {K : Nat} {ls : Nat → List Nat} {f : Int32 → Th} {J : List Wt} {C : List (Int32 × Int32)} {B : Nat → List (Int32 × Int32)} {W : List Int32} {tp : List Nat} {nw : Int32}
theorem c16_of {c : Int32} (h : 0 ≤ c ∧ c < 16) : ∃ i, i < 16 ∧ c = nI i := by
  obtain ⟨i, h1, h2⟩ := nI_of (Int32.not_lt.mpr h.1)
  subst h2
  exact ⟨i, (nI_ltI (b := 16) h1 (by decide)).mp h.2, rfl⟩
theorem c16_ne : ∀ i, i < 16 → (nI i ≠ -2 ∧ nI i ≠ -1 ∧ 0 ≤ nI i) := by decide
theorem lent_c {t : Th} {c : Int32} (hc : 0 ≤ c ∧ c < 16) (h : t.2.2.1 = c) : lent t = true := by
  obtain ⟨i, hi, rfl⟩ := c16_of hc
  unfold lent
  rw [h]
  have : ∀ i, i < 16 → (nI i != -2) = true := by decide
  exact this i hi
theorem hoM_eq {ar : Ar} {k : Nat} {t : Th} {c : Int32} (h : ThM ar k t) (hc : 0 ≤ c ∧ c < 16) : ar 5 k = c ↔ t.2.2.1 = c := by
  obtain ⟨i, hi, rfl⟩ := c16_of hc
  obtain ⟨-, -, a3, a4, -⟩ := h
  rw [a3]
  unfold hoM
  obtain ⟨e1, e2, -⟩ := c16_ne i hi
  by_cases h2 : t.2.2.1 = -2
  · rw [if_pos h2, h2]
    exact ⟨fun e => absurd e.symm e2, fun e => absurd e.symm e1⟩
  · rw [if_neg h2]
theorem lendM {n : Nat} {c tk : Int32} (h : NS ar nm sc K ls f J C B W tp nw) (hn : n < K) (hc : 0 ≤ c ∧ c < 16) (hx : ls n = tp) : NS (arS ar [(5, upd (ar 5) n c), (6, upd (ar 6) n (nw + tk))]) nm sc K ls (fU f (ni tp) ((f (ni tp)).1, (f (ni tp)).2.1, c, nw + tk, (f (ni tp)).2.2.2.2)) J C B W tp nw := by
  obtain ⟨hN, ht, hj, hcc, hb, hw, hp, hnw⟩ := id h
  obtain ⟨a1, a2, a3, a4, a5, a6, a7, a8, a9, a10, a11⟩ := ht.1 n hn
  have hx1 := ht.2.2 (ni tp)
  obtain ⟨i, hi, rfl⟩ := c16_of hc
  subst hx
  refine ⟨hN, MT.upd ht hN hn (fun k hk hkn => ⟨rfl, rfl, pk_un hkn, pk_un hkn, rfl, fun _ _ => rfl, fun _ _ => ⟨rfl, rfl, rfl⟩⟩) ?_ hx1, hj, hcc, hb, hw, hp, hnw⟩
  refine ⟨a1, a2, pk_us.trans ?_, Or.inr ⟨i, hi, rfl⟩, fun _ => pk_us, a6, a7, a8, a9, a10, a11⟩
  unfold hoM
  rw [if_neg (c16_ne i hi).1]
theorem m_want {c tk : Int32} (h : NS ar nm sc K ls f J C B W tp nw) (hK : K < 4000) : GN κ m_Mo_want (d + 2) m ad ar nm sc 0 [some (.ref m), some (.int c), some (.int tk), none, none] [] (fun v ar' nm' sc' => v = some (.int (wantS tp nw c tk (f (ni tp)) B).1) ∧ NY ar' nm' sc' (K + 1) (fU f (ni tp) (wantS tp nw c tk (f (ni tp)) B).2.1) J C (wantS tp nw c tk (f (ni tp)) B).2.2 W tp nw) := by
  have hp := h.2.2.2.2.2.2.1
  unfold wantS
  have bad : ¬ (okC tp c ∧ okK tk) → GN κ m_Mo_want (d + 2) m ad ar nm sc 25 [some (.ref m), some (.int c), some (.int tk), none, none] [] (fun v ar' nm' sc' => v = some (.int (wantS tp nw c tk (f (ni tp)) B).1) ∧ NY ar' nm' sc' (K + 1) (fU f (ni tp) (wantS tp nw c tk (f (ni tp)) B).2.1) J C (wantS tp nw c tk (f (ni tp)) B).2.2 W tp nw) := by
    intro hb
    unfold wantS
    rw [if_neg hb]
    refine n_seq s_Mo_want_25 rfl ?_
    exact n_iret rfl d_Mo_want_26 (⟨rfl, h.yU (by omega)⟩)
  unfold wantS at bad
  refine n_seq s_Mo_want_0 rfl ?_
  refine n_gets f_Mo_75 d_Mo_want_1 rfl ?_
  refine n_if_eq (tgt := 25) d_Mo_want_4 (by decide) (fun h1 => ?_) (fun h1 => ?_)
  · skip
    exact bad (fun q => q.1.1 ((tp_0 hp).mp h1))
  · skip
    have hne : tp ≠ [] := fun e => h1 ((tp_0 hp).mpr e)
    refine n_seq s_Mo_want_7 rfl ?_
    refine n_invS l_Mo_105 d_Mo_want_8 rfl ⟨rfl, Nat.le_of_ble_eq_true rfl, Nat.le_of_ble_eq_true rfl⟩ (fun M => m_isClient) ?_
    rintro v rfl
    refine n_if_eq (tgt := 25) d_Mo_want_11 (by decide) (fun h2 => ?_) (fun h2 => ?_)
    · skip
      exact bad (fun q => of_decide_eq_false (b2i_0.mp h2) q.1.2)
    · skip
      have hc := of_decide_eq_true (b2i_n.mp h2)
      refine n_seq s_Mo_want_14 rfl ?_
      refine n_icmp_lt (tgt := 25) d_Mo_want_16 (by decide) (fun h3 => ?_) (fun h3 => ?_)
      · skip
        exact bad (fun q => absurd h3 (Int32.not_lt.mpr q.2.1))
      · skip
        refine n_seq s_Mo_want_19 rfl ?_
        refine n_icmp_le (tgt := 27) d_Mo_want_22 (by decide) (fun h4 => ?_) (fun h4 => ?_)
        · skip
          rw [if_pos ⟨⟨hne, hc⟩, Int32.not_lt.mp h3, h4⟩]
          refine n_seq s_Mo_want_27 rfl ?_
          refine n_invV l_Mo_109 d_Mo_want_28 rfl ⟨rfl, Nat.le_of_ble_eq_true rfl, Nat.le_of_ble_eq_true rfl⟩ (m_here h hne hK) ?_
          rintro v ar' nm' sc' ⟨n, K', ls', h', hn, hls, rfl, hK'⟩
          have hT := h'.2.1.1 n hn
          rw [hls] at hT
          have h40 := h'.1.2.1
          have hnw := h'.2.2.2.2.2.2.2
          have hx1 := h'.2.1.2.2 (ni tp)
          have hn42 : n < 4200 := by omega
          refine n_seq s_Mo_want_31 rfl ?_
          refine n_geta f_Mo_27 d_Mo_want_33 (by decide) ?_
          refine n_seq s_Mo_want_36 rfl ?_
          refine n_ald d_Mo_want_37 ⟨by decide, by decide⟩ (rfl) (hn42) ?_
          refine n_if_ge (tgt := 68) d_Mo_want_38 (by decide) (fun h5 => ?_) (fun h5 => ?_)
          · skip
            have hl := (hoM_ge hT).mp h5
            rw [if_pos hl]
            have fin : ∀ u, ((f (ni tp)).2.2.1 = c ∨ (f (ni tp)).2.1.any (fun w => w.1 == c) = true) → GN κ m_Mo_want (d + 2) m ad ar' nm' sc' 87 [some (.ref m), some (.int c), some (.int tk), some (.int (nI n)), u] [] (fun v ar' nm' sc' => v = some (.int (if (f (ni tp)).2.2.1 = c ∨ (f (ni tp)).2.1.any (fun w => w.1 == c) = true then (-2, f (ni tp), B) else if (f (ni tp)).2.1.length = 5 then (-3, f (ni tp), B) else (nI ((f (ni tp)).2.1.length + 1), addW (f (ni tp)) (c, tk, nw), B)).1) ∧ NY ar' nm' sc' (K + 1) (fU f (ni tp) (if (f (ni tp)).2.2.1 = c ∨ (f (ni tp)).2.1.any (fun w => w.1 == c) = true then (-2, f (ni tp), B) else if (f (ni tp)).2.1.length = 5 then (-3, f (ni tp), B) else (nI ((f (ni tp)).2.1.length + 1), addW (f (ni tp)) (c, tk, nw), B)).2.1) J C (if (f (ni tp)).2.2.1 = c ∨ (f (ni tp)).2.1.any (fun w => w.1 == c) = true then (-2, f (ni tp), B) else if (f (ni tp)).2.1.length = 5 then (-3, f (ni tp), B) else (nI ((f (ni tp)).2.1.length + 1), addW (f (ni tp)) (c, tk, nw), B)).2.2 W tp nw) := by
              intro u hi
              rw [if_pos hi]
              refine n_seq s_Mo_want_87 rfl ?_
              exact n_iret rfl d_Mo_want_89 (⟨rfl, h'.yU hK'⟩)
            refine n_seq s_Mo_want_68 rfl ?_
            refine n_geta f_Mo_27 d_Mo_want_69 (by decide) ?_
            refine n_seq s_Mo_want_72 rfl ?_
            refine n_ald d_Mo_want_73 ⟨by decide, by decide⟩ (rfl) (hn42) ?_
            refine n_seq s_Mo_want_74 rfl ?_
            refine n_icmp_eq (tgt := 87) d_Mo_want_75 (by decide) (fun h6 => ?_) (fun h6 => ?_)
            · skip
              exact fin _ (Or.inl ((hoM_eq hT hc).mp h6))
            · skip
              obtain ⟨a1, a2, a3, a4, a5, a6, a7, a8, a9, a10, a11⟩ := id hT
              refine n_seq s_Mo_want_78 rfl ?_
              refine n_invV l_Mo_113 d_Mo_want_81 rfl ⟨rfl, Nat.le_of_ble_eq_true rfl, Nat.le_of_ble_eq_true rfl⟩ (m_place hn42 a6 a7 (fun j w hj => a8 j w hj)) ?_
              rintro v ar'' nm'' sc'' ⟨rfl, rfl, rfl, o, hFI, rfl⟩
              have hany := FI_any hFI
              refine n_if_lt (tgt := 90) d_Mo_want_84 (by decide) (fun h7 => ?_) (fun h7 => ?_)
              · skip
                obtain _ | j := o
                · have hi : ¬ ((f (ni tp)).2.2.1 = c ∨ (f (ni tp)).2.1.any (fun w => w.1 == c) = true) := fun q => q.elim (fun q => h6 ((hoM_eq hT hc).mpr q)) (fun q => by rw [hany] at q; cases q)
                  rw [if_neg hi]
                  refine n_seq s_Mo_want_90 rfl ?_
                  refine n_geta f_Mo_33 d_Mo_want_91 (by decide) ?_
                  refine n_seq s_Mo_want_94 rfl ?_
                  refine n_ald d_Mo_want_95 ⟨by decide, by decide⟩ (rfl) (hn42) ?_
                  rw [a6]
                  refine n_seq s_Mo_want_96 rfl ?_
                  refine n_icmp_ne (tgt := 103) d_Mo_want_97 (by decide) (fun h8 => ?_) (fun h8 => ?_)
                  · skip
                    have h5 : ¬ (f (ni tp)).2.1.length = 5 := fun e => h8 (by rw [e]; rfl)
                    rw [if_neg h5]
                    have hst : ar'' = arS ar'' [(7, ar'' 7), (8, ar'' 8), (9, ar'' 9), (10, ar'' 10)] := arS_id _ (by simp)
                    have hm : (5 : Int32) * nI n = nI (5 * n) := pk_mul 5 n
                    refine n_st hst ?_
                    refine n_seq s_Mo_want_103 rfl ?_
                    refine n_geta f_Mo_33 d_Mo_want_107 (by decide) ?_
                    refine n_seq s_Mo_want_110 rfl ?_
                    refine n_aldL d_Mo_want_112 ⟨by decide, by decide⟩ rfl (rfl) (hn42) ?_
                    rw [a6]
                    refine n_seq s_Mo_want_113 rfl ?_
                    rw [nI_1]
                    refine n_astL d_Mo_want_116 ⟨by decide, by decide⟩ rfl (rfl) (hn42) ?_
                    refine n_seq s_Mo_want_117 rfl ?_
                    rw [n5]
                    refine n_geta f_Mo_36 d_Mo_want_121 (by decide) ?_
                    refine n_seq s_Mo_want_124 rfl ?_
                    refine n_astL d_Mo_want_127 ⟨by decide, by decide⟩ rfl (rfl) ((show 5 * n + (f (ni tp)).2.1.length < 21000 by omega)) ?_
                    refine n_seq s_Mo_want_128 rfl ?_
                    refine n_geta f_Mo_39 d_Mo_want_129 (by decide) ?_
                    refine n_seq s_Mo_want_132 rfl ?_
                    refine n_astL d_Mo_want_135 ⟨by decide, by decide⟩ rfl (rfl) ((show 5 * n + (f (ni tp)).2.1.length < 21000 by omega)) ?_
                    refine n_seq s_Mo_want_136 rfl ?_
                    refine n_geta f_Mo_42 d_Mo_want_137 (by decide) ?_
                    refine n_seq s_Mo_want_140 rfl ?_
                    refine n_gets f_Mo_96 d_Mo_want_143 rfl ?_
                    rw [hnw]
                    refine n_astL d_Mo_want_146 ⟨by decide, by decide⟩ rfl (rfl) ((show 5 * n + (f (ni tp)).2.1.length < 21000 by omega)) ?_
                    refine n_seq s_Mo_want_147 rfl ?_
                    refine n_geta f_Mo_33 d_Mo_want_148 (by decide) ?_
                    refine n_seq s_Mo_want_151 rfl ?_
                    refine n_aldL d_Mo_want_152 ⟨by decide, by decide⟩ rfl (rfl) (hn42) ?_
                    rw [pk_us]
                    refine n_iret rfl d_Mo_want_153 ⟨rfl, K', ls', hK', ?_⟩
                    obtain ⟨hN, ht, hj, hcc, hb, hw, hp, hnw⟩ := id h'
                    subst hls
                    refine ⟨hN, MT.upd ht hN hn (fun k hk hkn => ⟨rfl, rfl, rfl, rfl, pk_un hkn, fun _ _ => rfl, fun j hj => ⟨pk_un (by omega), pk_un (by omega), pk_un (by omega)⟩⟩) ?_ hx1, hj, hcc, hb, hw, hp, hnw⟩
                    refine ⟨a1, a2, a3, a4, a5, pk_us.trans (by simp [addW]), by simp [addW]; omega, a8.snoc (fun j hj => pk_un (by omega)) pk_us, a9.snoc (fun j hj => pk_un (by omega)) pk_us, a10.snoc (fun j hj => pk_un (by omega)) pk_us, fun w hw => ?_⟩
                    rcases List.mem_append.mp hw with hw | hw
                    · exact a11 w hw
                    · rw [List.mem_singleton.mp hw]
                      exact c16_of hc
                  · skip
                    have h5 : (f (ni tp)).2.1.length = 5 := (nI_eq (b := 5) (by omega) (by decide)).mp h8
                    rw [if_pos h5]
                    refine n_seq s_Mo_want_100 rfl ?_
                    exact n_iret rfl d_Mo_want_102 (⟨rfl, h'.yU hK'⟩)
                · exact absurd h7 (nI_lt0 (by obtain ⟨w, hw, -⟩ := hFI; have := (List.getElem?_eq_some_iff.mp hw).1; omega))
              · skip
                obtain _ | j := o
                · exact absurd (by decide) h7
                · exact fin _ (Or.inr (by rw [hany]; rfl))
          · skip
            have hl := (hoM_lt hT).mp (Int32.not_le.mp h5)
            rw [if_neg (by rw [hl]; decide)]
            have hst : ar' = arS ar' [(5, ar' 5), (6, ar' 6)] := arS_id _ (by simp)
            refine n_st hst ?_
            refine n_seq s_Mo_want_41 rfl ?_
            refine n_geta f_Mo_27 d_Mo_want_42 (by decide) ?_
            refine n_seq s_Mo_want_45 rfl ?_
            refine n_astL d_Mo_want_47 ⟨by decide, by decide⟩ rfl (rfl) (hn42) ?_
            refine n_seq s_Mo_want_48 rfl ?_
            refine n_geta f_Mo_30 d_Mo_want_49 (by decide) ?_
            refine n_seq s_Mo_want_52 rfl ?_
            refine n_gets f_Mo_96 d_Mo_want_54 rfl ?_
            rw [hnw]
            refine n_seq s_Mo_want_57 rfl ?_
            refine n_astL d_Mo_want_59 ⟨by decide, by decide⟩ rfl (rfl) (hn42) ?_
            refine n_seq s_Mo_want_60 rfl ?_
            have hch := m_change (κ := κ) (d := d) (m := m) (ad := ad) (kind := 1) (lendM (tk := tk) h' hn hc hls) hn
            rw [hls, fU_s, fU_fU] at hch
            refine n_invV l_Mo_92 d_Mo_want_63 rfl ⟨rfl, Nat.le_of_ble_eq_true rfl, Nat.le_of_ble_eq_true rfl⟩ (hch) ?_
            rintro v ar'' nm'' sc'' ⟨rfl, rfl, rfl, h2⟩
            refine n_seq s_Mo_want_66 rfl ?_
            exact n_iret rfl d_Mo_want_67 (⟨rfl, K', ls', hK', by rw [hx1]; exact h2⟩)
        · skip
          exact bad (fun q => h4 q.2.2)
theorem m_free {c : Int32} (h : NS ar nm sc K ls f J C B W tp nw) (hK : K < 4000) (hW : W.length < 4000) : GN κ m_Mo_free (d + 3) m ad ar nm sc 0 [some (.ref m), some (.int c), none] [] (fun v ar' nm' sc' => v = some (.int (freeS tp nw c (f (ni tp)) B W).1) ∧ NY ar' nm' sc' (K + 1) (fU f (ni tp) (freeS tp nw c (f (ni tp)) B W).2.1) J C (freeS tp nw c (f (ni tp)) B W).2.2.1 (freeS tp nw c (f (ni tp)) B W).2.2.2 tp nw) := by
  have hp := h.2.2.2.2.2.2.1
  have bad : ¬ okC tp c → GN κ m_Mo_free (d + 3) m ad ar nm sc 14 [some (.ref m), some (.int c), none] [] (fun v ar' nm' sc' => v = some (.int (freeS tp nw c (f (ni tp)) B W).1) ∧ NY ar' nm' sc' (K + 1) (fU f (ni tp) (freeS tp nw c (f (ni tp)) B W).2.1) J C (freeS tp nw c (f (ni tp)) B W).2.2.1 (freeS tp nw c (f (ni tp)) B W).2.2.2 tp nw) := by
    intro hb
    unfold freeS
    rw [if_neg (fun q => hb q.1)]
    refine n_seq s_Mo_free_14 rfl ?_
    exact n_iret rfl d_Mo_free_15 (⟨rfl, h.yU (by omega)⟩)
  refine n_seq s_Mo_free_0 rfl ?_
  refine n_gets f_Mo_75 d_Mo_free_1 rfl ?_
  refine n_if_eq (tgt := 14) d_Mo_free_4 (by decide) (fun h1 => ?_) (fun h1 => ?_)
  · skip
    exact bad (fun q => q.1 ((tp_0 hp).mp h1))
  · skip
    have hne : tp ≠ [] := fun e => h1 ((tp_0 hp).mpr e)
    refine n_seq s_Mo_free_7 rfl ?_
    refine n_invS l_Mo_105 d_Mo_free_8 rfl ⟨rfl, Nat.le_of_ble_eq_true rfl, Nat.le_of_ble_eq_true rfl⟩ (fun M => m_isClient) ?_
    rintro v rfl
    refine n_if_ne (tgt := 16) d_Mo_free_11 (by decide) (fun h2 => ?_) (fun h2 => ?_)
    · skip
      have hc := of_decide_eq_true (b2i_n.mp h2)
      unfold freeS
      refine n_seq s_Mo_free_16 rfl ?_
      refine n_invV l_Mo_109 d_Mo_free_17 rfl ⟨rfl, Nat.le_of_ble_eq_true rfl, Nat.le_of_ble_eq_true rfl⟩ (m_here h hne hK) ?_
      rintro v ar' nm' sc' ⟨n, K', ls', h', hn, hls, rfl, hK'⟩
      have hT := h'.2.1.1 n hn
      rw [hls] at hT
      have h40 := h'.1.2.1
      have hx1 := h'.2.1.2.2 (ni tp)
      have hn42 : n < 4200 := by omega
      refine n_seq s_Mo_free_20 rfl ?_
      refine n_geta f_Mo_27 d_Mo_free_22 (by decide) ?_
      refine n_seq s_Mo_free_25 rfl ?_
      refine n_ald d_Mo_free_26 ⟨by decide, by decide⟩ (rfl) (hn42) ?_
      refine n_seq s_Mo_free_27 rfl ?_
      refine n_icmp_eq (tgt := 33) d_Mo_free_28 (by decide) (fun h3 => ?_) (fun h3 => ?_)
      · skip
        rw [if_pos ⟨⟨hne, hc⟩, (hoM_eq hT hc).mp h3⟩]
        refine n_seq s_Mo_free_33 rfl ?_
        have he := m_end (κ := κ) (d := d) (m := m) (ad := ad) h' hn hW
        rw [hls] at he
        refine n_invV l_Mo_117 d_Mo_free_35 rfl ⟨rfl, Nat.le_of_ble_eq_true rfl, Nat.le_of_ble_eq_true rfl⟩ (he) ?_
        rintro v ar'' nm'' sc'' ⟨rfl, h2⟩
        have hT2 := h2.2.1.1 n hn
        rw [hls, fU_s] at hT2
        refine n_seq s_Mo_free_38 rfl ?_
        refine n_geta f_Mo_27 d_Mo_free_39 (by decide) ?_
        refine n_seq s_Mo_free_42 rfl ?_
        refine n_ald d_Mo_free_43 ⟨by decide, by decide⟩ (rfl) (hn42) ?_
        rw [hx1]
        refine n_if_ge (tgt := 52) d_Mo_free_44 (by decide) (fun h5 => ?_) (fun h5 => ?_)
        · skip
          refine n_seq s_Mo_free_52 rfl ?_
          refine n_geta f_Mo_27 d_Mo_free_53 (by decide) ?_
          refine n_seq s_Mo_free_56 rfl ?_
          refine n_ald d_Mo_free_57 ⟨by decide, by decide⟩ (rfl) (hn42) ?_
          exact n_iret rfl d_Mo_free_58 (⟨by rw [hoM_v hT2 ((hoM_ge hT2).mp h5)], K', ls', hK', h2⟩)
        · skip
          have hl := (hoM_lt hT2).mp (Int32.not_le.mp h5)
          refine n_seq s_Mo_free_47 rfl ?_
          exact n_iret rfl d_Mo_free_58 (⟨by unfold lent at hl; rw [show (endT nw (f (ni tp))).2.2.1 = -2 by simpa using hl], K', ls', hK', h2⟩)
      · skip
        rw [if_neg (fun q => h3 ((hoM_eq hT hc).mpr q.2))]
        refine n_seq s_Mo_free_31 rfl ?_
        exact n_iret rfl d_Mo_free_32 (⟨rfl, h'.yU hK'⟩)
    · skip
      exact bad (fun q => of_decide_eq_false (b2i_0.mp h2) q.2)
theorem m_renew {c tk : Int32} (h : NS ar nm sc K ls f J C B W tp nw) (hK : K < 4000) : GN κ m_Mo_renew (d + 2) m ad ar nm sc 0 [some (.ref m), some (.int c), some (.int tk), none] [] (fun v ar' nm' sc' => v = some (.int (renewS tp nw c tk (f (ni tp)) B).1) ∧ NY ar' nm' sc' (K + 1) (fU f (ni tp) (renewS tp nw c tk (f (ni tp)) B).2.1) J C (renewS tp nw c tk (f (ni tp)) B).2.2 W tp nw) := by
  have hp := h.2.2.2.2.2.2.1
  have bad : ¬ (okC tp c ∧ okK tk) → GN κ m_Mo_renew (d + 2) m ad ar nm sc 25 [some (.ref m), some (.int c), some (.int tk), none] [] (fun v ar' nm' sc' => v = some (.int (renewS tp nw c tk (f (ni tp)) B).1) ∧ NY ar' nm' sc' (K + 1) (fU f (ni tp) (renewS tp nw c tk (f (ni tp)) B).2.1) J C (renewS tp nw c tk (f (ni tp)) B).2.2 W tp nw) := by
    intro hb
    unfold renewS
    rw [if_neg (fun q => hb ⟨q.1, q.2.1⟩)]
    refine n_seq s_Mo_renew_25 rfl ?_
    exact n_iret rfl d_Mo_renew_26 (⟨rfl, h.yU (by omega)⟩)
  refine n_seq s_Mo_renew_0 rfl ?_
  refine n_gets f_Mo_75 d_Mo_renew_1 rfl ?_
  refine n_if_eq (tgt := 25) d_Mo_renew_4 (by decide) (fun h1 => ?_) (fun h1 => ?_)
  · skip
    exact bad (fun q => q.1.1 ((tp_0 hp).mp h1))
  · skip
    have hne : tp ≠ [] := fun e => h1 ((tp_0 hp).mpr e)
    refine n_seq s_Mo_renew_7 rfl ?_
    refine n_invS l_Mo_105 d_Mo_renew_8 rfl ⟨rfl, Nat.le_of_ble_eq_true rfl, Nat.le_of_ble_eq_true rfl⟩ (fun M => m_isClient) ?_
    rintro v rfl
    refine n_if_eq (tgt := 25) d_Mo_renew_11 (by decide) (fun h2 => ?_) (fun h2 => ?_)
    · skip
      exact bad (fun q => of_decide_eq_false (b2i_0.mp h2) q.1.2)
    · skip
      have hc := of_decide_eq_true (b2i_n.mp h2)
      refine n_seq s_Mo_renew_14 rfl ?_
      refine n_icmp_lt (tgt := 25) d_Mo_renew_16 (by decide) (fun h3 => ?_) (fun h3 => ?_)
      · skip
        exact bad (fun q => absurd h3 (Int32.not_lt.mpr q.2.1))
      · skip
        refine n_seq s_Mo_renew_19 rfl ?_
        refine n_icmp_le (tgt := 27) d_Mo_renew_22 (by decide) (fun h4 => ?_) (fun h4 => ?_)
        · skip
          unfold renewS
          refine n_seq s_Mo_renew_27 rfl ?_
          refine n_invV l_Mo_109 d_Mo_renew_28 rfl ⟨rfl, Nat.le_of_ble_eq_true rfl, Nat.le_of_ble_eq_true rfl⟩ (m_here h hne hK) ?_
          rintro v ar' nm' sc' ⟨n, K', ls', h', hn, hls, rfl, hK'⟩
          have hT := h'.2.1.1 n hn
          rw [hls] at hT
          have h40 := h'.1.2.1
          have hnw := h'.2.2.2.2.2.2.2
          have hx1 := h'.2.1.2.2 (ni tp)
          have hn42 : n < 4200 := by omega
          refine n_seq s_Mo_renew_31 rfl ?_
          refine n_geta f_Mo_27 d_Mo_renew_33 (by decide) ?_
          refine n_seq s_Mo_renew_36 rfl ?_
          refine n_ald d_Mo_renew_37 ⟨by decide, by decide⟩ (rfl) (hn42) ?_
          refine n_seq s_Mo_renew_38 rfl ?_
          refine n_icmp_eq (tgt := 44) d_Mo_renew_39 (by decide) (fun h5 => ?_) (fun h5 => ?_)
          · skip
            have hho := (hoM_eq hT hc).mp h5
            rw [if_pos ⟨⟨hne, hc⟩, ⟨Int32.not_lt.mp h3, h4⟩, hho⟩]
            have hst : ar' = arS ar' [(5, upd (ar' 5) n c), (6, ar' 6)] := arS_id _ (by
              intro q hq
              rcases List.mem_cons.mp hq with rfl | hq
              · funext j
                by_cases hjn : j = n
                · rw [hjn]; exact pk_us.trans h5.symm
                · exact pk_un hjn
              · rw [List.mem_singleton.mp hq])
            refine n_st hst ?_
            refine n_seq s_Mo_renew_44 rfl ?_
            refine n_geta f_Mo_30 d_Mo_renew_45 (by decide) ?_
            refine n_seq s_Mo_renew_48 rfl ?_
            refine n_gets f_Mo_96 d_Mo_renew_50 rfl ?_
            rw [hnw]
            refine n_seq s_Mo_renew_53 rfl ?_
            refine n_astL d_Mo_renew_55 ⟨by decide, by decide⟩ rfl (rfl) (hn42) ?_
            refine n_seq s_Mo_renew_56 rfl ?_
            have hch := m_change (κ := κ) (d := d) (m := m) (ad := ad) (kind := 3) (lendM (tk := tk) h' hn hc hls) hn
            rw [hls, fU_s, fU_fU] at hch
            refine n_invV l_Mo_92 d_Mo_renew_59 rfl ⟨rfl, Nat.le_of_ble_eq_true rfl, Nat.le_of_ble_eq_true rfl⟩ (hch) ?_
            rintro v ar'' nm'' sc'' ⟨rfl, rfl, rfl, h2⟩
            have hT2 := h2.2.1.1 n hn
            rw [hls, fU_s] at hT2
            refine n_seq s_Mo_renew_62 rfl ?_
            refine n_geta f_Mo_30 d_Mo_renew_63 (by decide) ?_
            refine n_seq s_Mo_renew_66 rfl ?_
            refine n_ald d_Mo_renew_67 ⟨by decide, by decide⟩ (rfl) (hn42) ?_
            rw [hT2.2.2.2.2.1 (lent_c hc rfl)]
            exact n_iret rfl d_Mo_renew_68 (⟨rfl, K', ls', hK', by rw [hx1]; exact h2⟩)
          · skip
            rw [if_neg (fun q => h5 ((hoM_eq hT hc).mpr q.2.2))]
            refine n_seq s_Mo_renew_42 rfl ?_
            exact n_iret rfl d_Mo_renew_43 (⟨rfl, h'.yU hK'⟩)
        · skip
          exact bad (fun q => h4 q.2.2)
theorem m_leave {c : Int32} (h : NS ar nm sc K ls f J C B W tp nw) (hK : K < 4000) : GN κ m_Mo_leave (d + 2) m ad ar nm sc 0 [some (.ref m), some (.int c), none, none] [] (fun v ar' nm' sc' => v = some (.int (leaveS tp c (f (ni tp))).1) ∧ NY ar' nm' sc' (K + 1) (fU f (ni tp) (leaveS tp c (f (ni tp))).2) J C B W tp nw) := by
  have hp := h.2.2.2.2.2.2.1
  have bad : ¬ okC tp c → GN κ m_Mo_leave (d + 2) m ad ar nm sc 14 [some (.ref m), some (.int c), none, none] [] (fun v ar' nm' sc' => v = some (.int (leaveS tp c (f (ni tp))).1) ∧ NY ar' nm' sc' (K + 1) (fU f (ni tp) (leaveS tp c (f (ni tp))).2) J C B W tp nw) := by
    intro hb
    unfold leaveS
    rw [if_neg hb]
    refine n_seq s_Mo_leave_14 rfl ?_
    exact n_iret rfl d_Mo_leave_15 (⟨rfl, h.yU (by omega)⟩)
  refine n_seq s_Mo_leave_0 rfl ?_
  refine n_gets f_Mo_75 d_Mo_leave_1 rfl ?_
  refine n_if_eq (tgt := 14) d_Mo_leave_4 (by decide) (fun h1 => ?_) (fun h1 => ?_)
  · skip
    exact bad (fun q => q.1 ((tp_0 hp).mp h1))
  · skip
    have hne : tp ≠ [] := fun e => h1 ((tp_0 hp).mpr e)
    refine n_seq s_Mo_leave_7 rfl ?_
    refine n_invS l_Mo_105 d_Mo_leave_8 rfl ⟨rfl, Nat.le_of_ble_eq_true rfl, Nat.le_of_ble_eq_true rfl⟩ (fun M => m_isClient) ?_
    rintro v rfl
    refine n_if_ne (tgt := 16) d_Mo_leave_11 (by decide) (fun h2 => ?_) (fun h2 => ?_)
    · skip
      have hc := of_decide_eq_true (b2i_n.mp h2)
      unfold leaveS
      rw [if_pos ⟨hne, hc⟩]
      refine n_seq s_Mo_leave_16 rfl ?_
      refine n_invV l_Mo_109 d_Mo_leave_17 rfl ⟨rfl, Nat.le_of_ble_eq_true rfl, Nat.le_of_ble_eq_true rfl⟩ (m_here h hne hK) ?_
      rintro v ar' nm' sc' ⟨n, K', ls', h', hn, hls, rfl, hK'⟩
      have hT := h'.2.1.1 n hn
      rw [hls] at hT
      have h40 := h'.1.2.1
      have hx1 := h'.2.1.2.2 (ni tp)
      have hn42 : n < 4200 := by omega
      obtain ⟨a1, a2, a3, a4, a5, a6, a7, a8, a9, a10, a11⟩ := id hT
      refine n_seq s_Mo_leave_20 rfl ?_
      refine n_invV l_Mo_113 d_Mo_leave_24 rfl ⟨rfl, Nat.le_of_ble_eq_true rfl, Nat.le_of_ble_eq_true rfl⟩ (m_place hn42 a6 a7 (fun j w hj => a8 j w hj)) ?_
      rintro v ar'' nm'' sc'' ⟨rfl, rfl, rfl, o, hFI, rfl⟩
      rw [FI_find hFI]
      obtain _ | j := o
      · refine n_seq s_Mo_leave_27 rfl ?_
        refine n_if_ge (tgt := 35) d_Mo_leave_29 (by decide) (fun hbr => absurd hbr (by decide)) (fun hbr => ?_)
        refine n_seq s_Mo_leave_32 rfl ?_
        exact n_iret rfl d_Mo_leave_34 (⟨rfl, h'.yU hK'⟩)
      · obtain ⟨w, hw, -⟩ := hFI
        have hjl := (List.getElem?_eq_some_iff.mp hw).1
        refine n_seq s_Mo_leave_27 rfl ?_
        refine n_if_ge (tgt := 35) d_Mo_leave_29 (by decide) (fun hbr => ?_) (fun hbr => absurd hbr (fun h => h (nI_pos' (by omega))))
        refine n_seq s_Mo_leave_35 rfl ?_
        refine n_invV l_Mo_102 d_Mo_leave_38 rfl ⟨rfl, Nat.le_of_ble_eq_true rfl, Nat.le_of_ble_eq_true rfl⟩ (m_out hn42 a6 a7 hjl) ?_
        rintro v ar2 nm2 sc2 ⟨rfl, rfl, rfl, rfl⟩
        refine n_seq s_Mo_leave_41 rfl ?_
        refine n_geta f_Mo_33 d_Mo_leave_42 (by decide) ?_
        refine n_seq s_Mo_leave_45 rfl ?_
        refine n_aldL d_Mo_leave_46 ⟨by decide, by decide⟩ rfl (rfl) (hn42) ?_
        rw [pk_us]
        refine n_iret rfl d_Mo_leave_47 ⟨rfl, K', ls', hK', ?_⟩
        obtain ⟨hN, ht, hj, hcc, hb, hww, hp, hnw⟩ := id h'
        subst hls
        refine ⟨hN, MT.upd ht hN hn (fun k hk hkn => ⟨rfl, rfl, rfl, rfl, pk_un hkn, fun _ _ => rfl, fun j hj => ⟨sh_out (by omega), sh_out (by omega), sh_out (by omega)⟩⟩) ?_ hx1, hj, hcc, hb, hww, hp, hnw⟩
        refine ⟨a1, a2, a3, a4, a5, ?_, ?_, a8.erase hjl (fun j hj => sh_out (by omega)) (fun j h1 h2 => sh_in (by omega) (by omega)), a9.erase hjl (fun j hj => sh_out (by omega)) (fun j h1 h2 => sh_in (by omega) (by omega)), a10.erase hjl (fun j hj => sh_out (by omega)) (fun j h1 h2 => sh_in (by omega) (by omega)), fun w hw => a11 w (List.mem_of_mem_eraseIdx hw)⟩
        · refine pk_us.trans ?_
          show _ = nI ((f (ni (ls' n))).2.1.eraseIdx j).length
          rw [List.length_eraseIdx_of_lt hjl]
        · show ((f (ni (ls' n))).2.1.eraseIdx j).length ≤ 5
          rw [List.length_eraseIdx_of_lt hjl]; omega
    · skip
      exact bad (fun q => of_decide_eq_false (b2i_0.mp h2) q.2)
end NP2
end
