section
-- ===== PART A: goes FIRST, ahead of the names: the tables' words, and 'selects' of the private methods out of them =====
/-- a private method of a class that the tables say can be made, by its rows of tables_1 -/
def lw_okq (q : MethodName × Nat) : Prop := (q.1.cls ≠ "java/lang/invoke/MethodHandle" ∧ q.1.cls ≠ "java/lang/invoke/VarHandle") ∧ Cond.instantiable q.1.cls q.2 ∈ tables_1 ∧ Cond.privateMethod q.1 ∈ tables_1 ∧ Cond.instanceMethod q.1 ∈ tables_1
theorem lw_p0 : lw_okq (⟨"RoomLayouts$SliceTree", "forgetRooms", "()V"⟩, 7) := ⟨⟨by decide +kernel, by decide +kernel⟩, List.mem_of_getElem? (i := 66) (by decide +kernel), List.mem_of_getElem? (i := 72) (by decide +kernel), List.mem_of_getElem? (i := 73) (by decide +kernel)⟩
theorem lw_p1 : lw_okq (⟨"RoomLayouts$SliceTree", "setSign", "(II)V"⟩, 7) := ⟨⟨by decide +kernel, by decide +kernel⟩, List.mem_of_getElem? (i := 66) (by decide +kernel), List.mem_of_getElem? (i := 224) (by decide +kernel), List.mem_of_getElem? (i := 225) (by decide +kernel)⟩
theorem lw_p2 : lw_okq (⟨"RoomLayouts$SliceTree", "link", "(III)V"⟩, 7) := ⟨⟨by decide +kernel, by decide +kernel⟩, List.mem_of_getElem? (i := 66) (by decide +kernel), List.mem_of_getElem? (i := 230) (by decide +kernel), List.mem_of_getElem? (i := 231) (by decide +kernel)⟩
theorem lw_p3 : lw_okq (⟨"RoomLayouts$Plan", "join", "(I)V"⟩, 12) := ⟨⟨by decide +kernel, by decide +kernel⟩, List.mem_of_getElem? (i := 39) (by decide +kernel), List.mem_of_getElem? (i := 262) (by decide +kernel), List.mem_of_getElem? (i := 263) (by decide +kernel)⟩
theorem lw_p4 : lw_okq (⟨"RoomLayouts$Curve", "exchangeOutlines", "(II)V"⟩, 3) := ⟨⟨by decide +kernel, by decide +kernel⟩, List.mem_of_getElem? (i := 100) (by decide +kernel), List.mem_of_getElem? (i := 295) (by decide +kernel), List.mem_of_getElem? (i := 296) (by decide +kernel)⟩
theorem lw_p5 : lw_okq (⟨"RoomLayouts$Plan", "takeSizes", "(II)V"⟩, 12) := ⟨⟨by decide +kernel, by decide +kernel⟩, List.mem_of_getElem? (i := 39) (by decide +kernel), List.mem_of_getElem? (i := 299) (by decide +kernel), List.mem_of_getElem? (i := 300) (by decide +kernel)⟩
theorem lw_p6 : lw_okq (⟨"RoomLayouts$Curve", "dropAround", "(II)V"⟩, 3) := ⟨⟨by decide +kernel, by decide +kernel⟩, List.mem_of_getElem? (i := 100) (by decide +kernel), List.mem_of_getElem? (i := 324) (by decide +kernel), List.mem_of_getElem? (i := 325) (by decide +kernel)⟩
theorem lw_p7 : lw_okq (⟨"RoomLayouts$Plan", "chooseFirstSize", "(II)V"⟩, 12) := ⟨⟨by decide +kernel, by decide +kernel⟩, List.mem_of_getElem? (i := 39) (by decide +kernel), List.mem_of_getElem? (i := 345) (by decide +kernel), List.mem_of_getElem? (i := 346) (by decide +kernel)⟩
theorem lw_p8 : lw_okq (⟨"RoomLayouts$Plan", "pin", "(III)V"⟩, 12) := ⟨⟨by decide +kernel, by decide +kernel⟩, List.mem_of_getElem? (i := 39) (by decide +kernel), List.mem_of_getElem? (i := 365) (by decide +kernel), List.mem_of_getElem? (i := 366) (by decide +kernel)⟩
theorem lw_p9 : lw_okq (⟨"RoomLayouts$Plan", "setCorners", "()V"⟩, 12) := ⟨⟨by decide +kernel, by decide +kernel⟩, List.mem_of_getElem? (i := 39) (by decide +kernel), List.mem_of_getElem? (i := 375) (by decide +kernel), List.mem_of_getElem? (i := 376) (by decide +kernel)⟩
theorem lw_p10 : lw_okq (⟨"RoomLayouts$Plan", "setCornersOfParts", "(III)V"⟩, 12) := ⟨⟨by decide +kernel, by decide +kernel⟩, List.mem_of_getElem? (i := 39) (by decide +kernel), List.mem_of_getElem? (i := 379) (by decide +kernel), List.mem_of_getElem? (i := 380) (by decide +kernel)⟩
theorem lw_p11 : lw_okq (⟨"RoomLayouts$Plan", "nodeWidth", "(I)I"⟩, 12) := ⟨⟨by decide +kernel, by decide +kernel⟩, List.mem_of_getElem? (i := 39) (by decide +kernel), List.mem_of_getElem? (i := 383) (by decide +kernel), List.mem_of_getElem? (i := 384) (by decide +kernel)⟩
theorem lw_p12 : lw_okq (⟨"RoomLayouts$Plan", "nodeHeight", "(I)I"⟩, 12) := ⟨⟨by decide +kernel, by decide +kernel⟩, List.mem_of_getElem? (i := 39) (by decide +kernel), List.mem_of_getElem? (i := 387) (by decide +kernel), List.mem_of_getElem? (i := 388) (by decide +kernel)⟩
theorem lw_p13 : lw_okq (⟨"RoomLayouts$Plan", "nodeOfPlaced", "(I)I"⟩, 12) := ⟨⟨by decide +kernel, by decide +kernel⟩, List.mem_of_getElem? (i := 39) (by decide +kernel), List.mem_of_getElem? (i := 403) (by decide +kernel), List.mem_of_getElem? (i := 404) (by decide +kernel)⟩
theorem lw_p14 : lw_okq (⟨"RoomLayouts", "canExchange", "(II)Z"⟩, 3) := ⟨⟨by decide +kernel, by decide +kernel⟩, List.mem_of_getElem? (i := 16) (by decide +kernel), List.mem_of_getElem? (i := 419) (by decide +kernel), List.mem_of_getElem? (i := 420) (by decide +kernel)⟩
theorem lw_p15 : lw_okq (⟨"RoomLayouts", "changePlaces", "(II)V"⟩, 3) := ⟨⟨by decide +kernel, by decide +kernel⟩, List.mem_of_getElem? (i := 16) (by decide +kernel), List.mem_of_getElem? (i := 425) (by decide +kernel), List.mem_of_getElem? (i := 426) (by decide +kernel)⟩
def lw_privs_1 : List (MethodName × Nat) := [(⟨"RoomLayouts$SliceTree", "forgetRooms", "()V"⟩, 7), (⟨"RoomLayouts$SliceTree", "setSign", "(II)V"⟩, 7), (⟨"RoomLayouts$SliceTree", "link", "(III)V"⟩, 7), (⟨"RoomLayouts$Plan", "join", "(I)V"⟩, 12), (⟨"RoomLayouts$Curve", "exchangeOutlines", "(II)V"⟩, 3), (⟨"RoomLayouts$Plan", "takeSizes", "(II)V"⟩, 12), (⟨"RoomLayouts$Curve", "dropAround", "(II)V"⟩, 3), (⟨"RoomLayouts$Plan", "chooseFirstSize", "(II)V"⟩, 12), (⟨"RoomLayouts$Plan", "pin", "(III)V"⟩, 12), (⟨"RoomLayouts$Plan", "setCorners", "()V"⟩, 12), (⟨"RoomLayouts$Plan", "setCornersOfParts", "(III)V"⟩, 12), (⟨"RoomLayouts$Plan", "nodeWidth", "(I)I"⟩, 12), (⟨"RoomLayouts$Plan", "nodeHeight", "(I)I"⟩, 12), (⟨"RoomLayouts$Plan", "nodeOfPlaced", "(I)I"⟩, 12), (⟨"RoomLayouts", "canExchange", "(II)Z"⟩, 3), (⟨"RoomLayouts", "changePlaces", "(II)V"⟩, 3)]
theorem lw_r1 : ∀ q ∈ lw_privs_1, lw_okq q := List.forall_mem_cons.mpr ⟨lw_p0, List.forall_mem_cons.mpr ⟨lw_p1, List.forall_mem_cons.mpr ⟨lw_p2, List.forall_mem_cons.mpr ⟨lw_p3, List.forall_mem_cons.mpr ⟨lw_p4, List.forall_mem_cons.mpr ⟨lw_p5, List.forall_mem_cons.mpr ⟨lw_p6, List.forall_mem_cons.mpr ⟨lw_p7, List.forall_mem_cons.mpr ⟨lw_p8, List.forall_mem_cons.mpr ⟨lw_p9, List.forall_mem_cons.mpr ⟨lw_p10, List.forall_mem_cons.mpr ⟨lw_p11, List.forall_mem_cons.mpr ⟨lw_p12, List.forall_mem_cons.mpr ⟨lw_p13, List.forall_mem_cons.mpr ⟨lw_p14, List.forall_mem_cons.mpr ⟨lw_p15, fun _ h => absurd h List.not_mem_nil⟩⟩⟩⟩⟩⟩⟩⟩⟩⟩⟩⟩⟩⟩⟩⟩
theorem lw_p16 : lw_okq (⟨"RoomLayouts$SliceTree", "giveNode", "(II)V"⟩, 7) := ⟨⟨by decide +kernel, by decide +kernel⟩, List.mem_of_getElem? (i := 66) (by decide +kernel), List.mem_of_getElem? (i := 434) (by decide +kernel), List.mem_of_getElem? (i := 435) (by decide +kernel)⟩
theorem lw_p17 : lw_okq (⟨"java/lang/Throwable", "fillInStackTrace", "(I)Ljava/lang/Throwable;"⟩, 6) := ⟨⟨by decide +kernel, by decide +kernel⟩, List.mem_of_getElem? (i := 483) (by decide +kernel), List.mem_of_getElem? (i := 481) (by decide +kernel), List.mem_of_getElem? (i := 482) (by decide +kernel)⟩
theorem lw_p18 : lw_okq (⟨"RoomLayouts", "needRoom", "(I)V"⟩, 3) := ⟨⟨by decide +kernel, by decide +kernel⟩, List.mem_of_getElem? (i := 16) (by decide +kernel), List.mem_of_getElem? (i := 525) (by decide +kernel), List.mem_of_getElem? (i := 526) (by decide +kernel)⟩
theorem lw_p19 : lw_okq (⟨"RoomLayouts", "needTwoRooms", "(II)V"⟩, 3) := ⟨⟨by decide +kernel, by decide +kernel⟩, List.mem_of_getElem? (i := 16) (by decide +kernel), List.mem_of_getElem? (i := 607) (by decide +kernel), List.mem_of_getElem? (i := 608) (by decide +kernel)⟩
theorem lw_p20 : lw_okq (⟨"RoomLayoutsModel", "isRoom", "(I)Z"⟩, 27) := ⟨⟨by decide +kernel, by decide +kernel⟩, List.mem_of_getElem? (i := 648) (by decide +kernel), List.mem_of_getElem? (i := 748) (by decide +kernel), List.mem_of_getElem? (i := 749) (by decide +kernel)⟩
theorem lw_p21 : lw_okq (⟨"RoomLayoutsModel", "gather", "(JI)I"⟩, 27) := ⟨⟨by decide +kernel, by decide +kernel⟩, List.mem_of_getElem? (i := 648) (by decide +kernel), List.mem_of_getElem? (i := 763) (by decide +kernel), List.mem_of_getElem? (i := 764) (by decide +kernel)⟩
theorem lw_p22 : lw_okq (⟨"RoomLayoutsModel", "findBest", "()V"⟩, 27) := ⟨⟨by decide +kernel, by decide +kernel⟩, List.mem_of_getElem? (i := 648) (by decide +kernel), List.mem_of_getElem? (i := 772) (by decide +kernel), List.mem_of_getElem? (i := 773) (by decide +kernel)⟩
theorem lw_p23 : lw_okq (⟨"RoomLayoutsModel", "firstChoice", "()V"⟩, 27) := ⟨⟨by decide +kernel, by decide +kernel⟩, List.mem_of_getElem? (i := 648) (by decide +kernel), List.mem_of_getElem? (i := 776) (by decide +kernel), List.mem_of_getElem? (i := 777) (by decide +kernel)⟩
theorem lw_p24 : lw_okq (⟨"RoomLayoutsModel", "layOut", "()V"⟩, 27) := ⟨⟨by decide +kernel, by decide +kernel⟩, List.mem_of_getElem? (i := 648) (by decide +kernel), List.mem_of_getElem? (i := 780) (by decide +kernel), List.mem_of_getElem? (i := 781) (by decide +kernel)⟩
theorem lw_p25 : lw_okq (⟨"RoomLayoutsModel", "fits", "()Z"⟩, 27) := ⟨⟨by decide +kernel, by decide +kernel⟩, List.mem_of_getElem? (i := 648) (by decide +kernel), List.mem_of_getElem? (i := 784) (by decide +kernel), List.mem_of_getElem? (i := 785) (by decide +kernel)⟩
theorem lw_p26 : lw_okq (⟨"RoomLayoutsModel", "nextChoice", "()Z"⟩, 27) := ⟨⟨by decide +kernel, by decide +kernel⟩, List.mem_of_getElem? (i := 648) (by decide +kernel), List.mem_of_getElem? (i := 788) (by decide +kernel), List.mem_of_getElem? (i := 789) (by decide +kernel)⟩
theorem lw_p27 : lw_okq (⟨"RoomLayoutsModel", "placeOf", "(I)I"⟩, 27) := ⟨⟨by decide +kernel, by decide +kernel⟩, List.mem_of_getElem? (i := 648) (by decide +kernel), List.mem_of_getElem? (i := 792) (by decide +kernel), List.mem_of_getElem? (i := 793) (by decide +kernel)⟩
theorem lw_p28 : lw_okq (⟨"RoomLayoutsModel", "findCorners", "()V"⟩, 27) := ⟨⟨by decide +kernel, by decide +kernel⟩, List.mem_of_getElem? (i := 648) (by decide +kernel), List.mem_of_getElem? (i := 796) (by decide +kernel), List.mem_of_getElem? (i := 797) (by decide +kernel)⟩
theorem lw_p29 : lw_okq (⟨"RoomLayoutsModel", "shared", "(II)I"⟩, 27) := ⟨⟨by decide +kernel, by decide +kernel⟩, List.mem_of_getElem? (i := 648) (by decide +kernel), List.mem_of_getElem? (i := 812) (by decide +kernel), List.mem_of_getElem? (i := 813) (by decide +kernel)⟩
theorem lw_p30 : lw_okq (⟨"RoomLayoutsModel", "isMet", "(I)Z"⟩, 27) := ⟨⟨by decide +kernel, by decide +kernel⟩, List.mem_of_getElem? (i := 648) (by decide +kernel), List.mem_of_getElem? (i := 827) (by decide +kernel), List.mem_of_getElem? (i := 828) (by decide +kernel)⟩
theorem lw_p31 : lw_okq (⟨"RoomLayoutsModel", "allMet", "()I"⟩, 27) := ⟨⟨by decide +kernel, by decide +kernel⟩, List.mem_of_getElem? (i := 648) (by decide +kernel), List.mem_of_getElem? (i := 835) (by decide +kernel), List.mem_of_getElem? (i := 836) (by decide +kernel)⟩
def lw_privs_2 : List (MethodName × Nat) := [(⟨"RoomLayouts$SliceTree", "giveNode", "(II)V"⟩, 7), (⟨"java/lang/Throwable", "fillInStackTrace", "(I)Ljava/lang/Throwable;"⟩, 6), (⟨"RoomLayouts", "needRoom", "(I)V"⟩, 3), (⟨"RoomLayouts", "needTwoRooms", "(II)V"⟩, 3), (⟨"RoomLayoutsModel", "isRoom", "(I)Z"⟩, 27), (⟨"RoomLayoutsModel", "gather", "(JI)I"⟩, 27), (⟨"RoomLayoutsModel", "findBest", "()V"⟩, 27), (⟨"RoomLayoutsModel", "firstChoice", "()V"⟩, 27), (⟨"RoomLayoutsModel", "layOut", "()V"⟩, 27), (⟨"RoomLayoutsModel", "fits", "()Z"⟩, 27), (⟨"RoomLayoutsModel", "nextChoice", "()Z"⟩, 27), (⟨"RoomLayoutsModel", "placeOf", "(I)I"⟩, 27), (⟨"RoomLayoutsModel", "findCorners", "()V"⟩, 27), (⟨"RoomLayoutsModel", "shared", "(II)I"⟩, 27), (⟨"RoomLayoutsModel", "isMet", "(I)Z"⟩, 27), (⟨"RoomLayoutsModel", "allMet", "()I"⟩, 27)]
theorem lw_r2 : ∀ q ∈ lw_privs_2, lw_okq q := List.forall_mem_cons.mpr ⟨lw_p16, List.forall_mem_cons.mpr ⟨lw_p17, List.forall_mem_cons.mpr ⟨lw_p18, List.forall_mem_cons.mpr ⟨lw_p19, List.forall_mem_cons.mpr ⟨lw_p20, List.forall_mem_cons.mpr ⟨lw_p21, List.forall_mem_cons.mpr ⟨lw_p22, List.forall_mem_cons.mpr ⟨lw_p23, List.forall_mem_cons.mpr ⟨lw_p24, List.forall_mem_cons.mpr ⟨lw_p25, List.forall_mem_cons.mpr ⟨lw_p26, List.forall_mem_cons.mpr ⟨lw_p27, List.forall_mem_cons.mpr ⟨lw_p28, List.forall_mem_cons.mpr ⟨lw_p29, List.forall_mem_cons.mpr ⟨lw_p30, List.forall_mem_cons.mpr ⟨lw_p31, fun _ h => absurd h List.not_mem_nil⟩⟩⟩⟩⟩⟩⟩⟩⟩⟩⟩⟩⟩⟩⟩⟩
theorem lw_p32 : lw_okq (⟨"RoomLayoutsModel", "canChange", "(II)Z"⟩, 27) := ⟨⟨by decide +kernel, by decide +kernel⟩, List.mem_of_getElem? (i := 648) (by decide +kernel), List.mem_of_getElem? (i := 843) (by decide +kernel), List.mem_of_getElem? (i := 844) (by decide +kernel)⟩
theorem lw_p33 : lw_okq (⟨"RoomLayoutsModel", "change", "(II)V"⟩, 27) := ⟨⟨by decide +kernel, by decide +kernel⟩, List.mem_of_getElem? (i := 648) (by decide +kernel), List.mem_of_getElem? (i := 847) (by decide +kernel), List.mem_of_getElem? (i := 848) (by decide +kernel)⟩
def lw_privs_3 : List (MethodName × Nat) := [(⟨"RoomLayoutsModel", "canChange", "(II)Z"⟩, 27), (⟨"RoomLayoutsModel", "change", "(II)V"⟩, 27)]
theorem lw_r3 : ∀ q ∈ lw_privs_3, lw_okq q := List.forall_mem_cons.mpr ⟨lw_p32, List.forall_mem_cons.mpr ⟨lw_p33, fun _ h => absurd h List.not_mem_nil⟩⟩
def lw_privs : List (MethodName × Nat) := lw_privs_1 ++ (lw_privs_2 ++ (lw_privs_3))
def lw_tbl : List Cond := k2_sels lw_privs ++ tables_1
theorem lw_privs_ok : ∀ q ∈ lw_privs, lw_okq q := by
  show ∀ q ∈ lw_privs_1 ++ (lw_privs_2 ++ (lw_privs_3)), lw_okq q
  exact List.forall_mem_append.mpr ⟨lw_r1, List.forall_mem_append.mpr ⟨lw_r2, lw_r3⟩⟩
end
section
/-- the tables' words that hold behind every call -/
def rl_TT : List Cond := lw_tbl.filter goodWord
theorem rl_tin {w : Cond} (i : Nat) (h : lw_tbl[i]? = some w) (g : goodWord w = true) : w ∈ rl_TT := List.mem_filter.mpr ⟨List.mem_of_getElem? h, g⟩
def nR_Ro : String := "RoomLayouts"
def nT_Ro : u_T := fun k => match k with
  | 0 => ("RoomLayouts", "reading", "LRoomLayouts$SignRow;", true)
  | 1 => ("RoomLayouts", "plan", "LRoomLayouts$Plan;", true)
  | _ => ("RoomLayouts", "wishList", "LRoomLayouts$WishList;", true)
def nt_Ro : Nat → FieldType := fun k => match k with
  | 0 => .object "RoomLayouts$SignRow"
  | 1 => .object "RoomLayouts$Plan"
  | _ => .object "RoomLayouts$WishList"
theorem nn_Ro : ∀ a, a < 3 → ∀ b, b < 3 → a ≠ b → (nT_Ro a).2.1 ≠ (nT_Ro b).2.1 := by decide +kernel
theorem nto_Ro : ∀ k, k < 3 → parseFieldDescriptor (nT_Ro k).2.2.1 = some (nt_Ro k) := by decide +kernel
theorem ni_Ro : ∀ w ∈ u_ws nR_Ro nT_Ro 3, w ∈ rl_TT := by decide +kernel
def nR_Sr : String := "RoomLayouts$SignRow"
def nT_Sr : u_T := fun k => match k with
  | 0 => ("RoomLayouts$SignRow", "count", "I", false)
  | _ => ("RoomLayouts$SignRow", "signs", "[I", true)
def nt_Sr : Nat → FieldType := fun k => match k with
  | 0 => .int
  | _ => .array .int
theorem nn_Sr : ∀ a, a < 2 → ∀ b, b < 2 → a ≠ b → (nT_Sr a).2.1 ≠ (nT_Sr b).2.1 := by decide +kernel
theorem nto_Sr : ∀ k, k < 2 → parseFieldDescriptor (nT_Sr k).2.2.1 = some (nt_Sr k) := by decide +kernel
theorem ni_Sr : ∀ w ∈ u_ws nR_Sr nT_Sr 2, w ∈ rl_TT := by decide +kernel
def nR_Pl : String := "RoomLayouts$Plan"
def nT_Pl : u_T := fun k => match k with
  | 0 => ("RoomLayouts$Plan", "rooms", "LRoomLayouts$RoomList;", true)
  | 1 => ("RoomLayouts$Plan", "tree", "LRoomLayouts$SliceTree;", true)
  | 2 => ("RoomLayouts$Plan", "lotWidth", "I", false)
  | 3 => ("RoomLayouts$Plan", "lotHeight", "I", false)
  | 4 => ("RoomLayouts$Plan", "measured", "Z", false)
  | 5 => ("RoomLayouts$Plan", "settled", "Z", false)
  | 6 => ("RoomLayouts$Plan", "curves", "[LRoomLayouts$Curve;", true)
  | 7 => ("RoomLayouts$Plan", "fitting", "LRoomLayouts$Curve;", true)
  | 8 => ("RoomLayouts$Plan", "bestAt", "I", false)
  | 9 => ("RoomLayouts$Plan", "choice", "[I", true)
  | 10 => ("RoomLayouts$Plan", "left", "[I", true)
  | _ => ("RoomLayouts$Plan", "bottom", "[I", true)
def nt_Pl : Nat → FieldType := fun k => match k with
  | 0 => .object "RoomLayouts$RoomList"
  | 1 => .object "RoomLayouts$SliceTree"
  | 2 => .int
  | 3 => .int
  | 4 => .boolean
  | 5 => .boolean
  | 6 => .array (.object "RoomLayouts$Curve")
  | 7 => .object "RoomLayouts$Curve"
  | 8 => .int
  | 9 => .array .int
  | 10 => .array .int
  | _ => .array .int
theorem nn_Pl : ∀ a, a < 12 → ∀ b, b < 12 → a ≠ b → (nT_Pl a).2.1 ≠ (nT_Pl b).2.1 := by decide +kernel
theorem nto_Pl : ∀ k, k < 12 → parseFieldDescriptor (nT_Pl k).2.2.1 = some (nt_Pl k) := by decide +kernel
theorem ni_Pl : ∀ w ∈ u_ws nR_Pl nT_Pl 12, w ∈ rl_TT := by decide +kernel
def nR_Rl : String := "RoomLayouts$RoomList"
def nT_Rl : u_T := fun k => match k with
  | 0 => ("RoomLayouts$RoomList", "count", "I", false)
  | 1 => ("RoomLayouts$RoomList", "sizeCount", "[I", true)
  | 2 => ("RoomLayouts$RoomList", "width", "[I", true)
  | _ => ("RoomLayouts$RoomList", "height", "[I", true)
def nt_Rl : Nat → FieldType := fun k => match k with
  | 0 => .int
  | 1 => .array .int
  | 2 => .array .int
  | _ => .array .int
theorem nn_Rl : ∀ a, a < 4 → ∀ b, b < 4 → a ≠ b → (nT_Rl a).2.1 ≠ (nT_Rl b).2.1 := by decide +kernel
theorem nto_Rl : ∀ k, k < 4 → parseFieldDescriptor (nT_Rl k).2.2.1 = some (nt_Rl k) := by decide +kernel
theorem ni_Rl : ∀ w ∈ u_ws nR_Rl nT_Rl 4, w ∈ rl_TT := by decide +kernel
def nR_St : String := "RoomLayouts$SliceTree"
def nT_St : u_T := fun k => match k with
  | 0 => ("RoomLayouts$SliceTree", "count", "I", false)
  | 1 => ("RoomLayouts$SliceTree", "signs", "[I", true)
  | 2 => ("RoomLayouts$SliceTree", "first", "[I", true)
  | 3 => ("RoomLayouts$SliceTree", "second", "[I", true)
  | 4 => ("RoomLayouts$SliceTree", "parent", "[I", true)
  | 5 => ("RoomLayouts$SliceTree", "open", "[I", true)
  | _ => ("RoomLayouts$SliceTree", "roomNode", "[I", true)
def nt_St : Nat → FieldType := fun k => match k with
  | 0 => .int
  | 1 => .array .int
  | 2 => .array .int
  | 3 => .array .int
  | 4 => .array .int
  | 5 => .array .int
  | _ => .array .int
theorem nn_St : ∀ a, a < 7 → ∀ b, b < 7 → a ≠ b → (nT_St a).2.1 ≠ (nT_St b).2.1 := by decide +kernel
theorem nto_St : ∀ k, k < 7 → parseFieldDescriptor (nT_St k).2.2.1 = some (nt_St k) := by decide +kernel
theorem ni_St : ∀ w ∈ u_ws nR_St nT_St 7, w ∈ rl_TT := by decide +kernel
def nR_Wl : String := "RoomLayouts$WishList"
def nT_Wl : u_T := fun k => match k with
  | 0 => ("RoomLayouts$WishList", "count", "I", false)
  | 1 => ("RoomLayouts$WishList", "one", "[I", true)
  | 2 => ("RoomLayouts$WishList", "another", "[I", true)
  | _ => ("RoomLayouts$WishList", "length", "[I", true)
def nt_Wl : Nat → FieldType := fun k => match k with
  | 0 => .int
  | 1 => .array .int
  | 2 => .array .int
  | _ => .array .int
theorem nn_Wl : ∀ a, a < 4 → ∀ b, b < 4 → a ≠ b → (nT_Wl a).2.1 ≠ (nT_Wl b).2.1 := by decide +kernel
theorem nto_Wl : ∀ k, k < 4 → parseFieldDescriptor (nT_Wl k).2.2.1 = some (nt_Wl k) := by decide +kernel
theorem ni_Wl : ∀ w ∈ u_ws nR_Wl nT_Wl 4, w ∈ rl_TT := by decide +kernel
def nR_Cu : String := "RoomLayouts$Curve"
def nT_Cu : u_T := fun k => match k with
  | 0 => ("RoomLayouts$Curve", "count", "I", false)
  | 1 => ("RoomLayouts$Curve", "width", "[I", true)
  | _ => ("RoomLayouts$Curve", "height", "[I", true)
def nt_Cu : Nat → FieldType := fun k => match k with
  | 0 => .int
  | 1 => .array .int
  | _ => .array .int
theorem nn_Cu : ∀ a, a < 3 → ∀ b, b < 3 → a ≠ b → (nT_Cu a).2.1 ≠ (nT_Cu b).2.1 := by decide +kernel
theorem nto_Cu : ∀ k, k < 3 → parseFieldDescriptor (nT_Cu k).2.2.1 = some (nt_Cu k) := by decide +kernel
theorem ni_Cu : ∀ w ∈ u_ws nR_Cu nT_Cu 3, w ∈ rl_TT := by decide +kernel
def nR_Mo : String := "RoomLayoutsModel"
def nT_Mo : u_T := fun k => match k with
  | 0 => ("RoomLayoutsModel", "code", "I", false)
  | 1 => ("RoomLayoutsModel", "rooms", "I", false)
  | 2 => ("RoomLayoutsModel", "sizes", "[I", true)
  | 3 => ("RoomLayoutsModel", "widths", "[I", true)
  | 4 => ("RoomLayoutsModel", "heights", "[I", true)
  | 5 => ("RoomLayoutsModel", "lotWidth", "I", false)
  | 6 => ("RoomLayoutsModel", "lotHeight", "I", false)
  | 7 => ("RoomLayoutsModel", "signs", "I", false)
  | 8 => ("RoomLayoutsModel", "order", "[I", true)
  | 9 => ("RoomLayoutsModel", "wishes", "I", false)
  | 10 => ("RoomLayoutsModel", "ones", "[I", true)
  | 11 => ("RoomLayoutsModel", "others", "[I", true)
  | 12 => ("RoomLayoutsModel", "lengths", "[I", true)
  | 13 => ("RoomLayoutsModel", "choice", "[I", true)
  | 14 => ("RoomLayoutsModel", "best", "[I", true)
  | 15 => ("RoomLayoutsModel", "found", "Z", false)
  | 16 => ("RoomLayoutsModel", "bestWidth", "I", false)
  | 17 => ("RoomLayoutsModel", "bestHeight", "I", false)
  | 18 => ("RoomLayoutsModel", "partWidths", "[I", true)
  | 19 => ("RoomLayoutsModel", "partHeights", "[I", true)
  | 20 => ("RoomLayoutsModel", "xs", "[I", true)
  | 21 => ("RoomLayoutsModel", "ys", "[I", true)
  | 22 => ("RoomLayoutsModel", "firsts", "[I", true)
  | 23 => ("RoomLayoutsModel", "seconds", "[I", true)
  | 24 => ("RoomLayoutsModel", "stack", "[I", true)
  | 25 => ("RoomLayoutsModel", "least", "[I", true)
  | _ => ("RoomLayoutsModel", "coming", "[I", true)
def nt_Mo : Nat → FieldType := fun k => match k with
  | 0 => .int
  | 1 => .int
  | 2 => .array .int
  | 3 => .array .int
  | 4 => .array .int
  | 5 => .int
  | 6 => .int
  | 7 => .int
  | 8 => .array .int
  | 9 => .int
  | 10 => .array .int
  | 11 => .array .int
  | 12 => .array .int
  | 13 => .array .int
  | 14 => .array .int
  | 15 => .boolean
  | 16 => .int
  | 17 => .int
  | 18 => .array .int
  | 19 => .array .int
  | 20 => .array .int
  | 21 => .array .int
  | 22 => .array .int
  | 23 => .array .int
  | 24 => .array .int
  | 25 => .array .int
  | _ => .array .int
theorem nn_Mo : ∀ a, a < 27 → ∀ b, b < 27 → a ≠ b → (nT_Mo a).2.1 ≠ (nT_Mo b).2.1 := by decide +kernel
theorem nto_Mo : ∀ k, k < 27 → parseFieldDescriptor (nT_Mo k).2.2.1 = some (nt_Mo k) := by decide +kernel
theorem ni_Mo : ∀ w ∈ u_ws nR_Mo nT_Mo 27, w ∈ rl_TT := by decide +kernel
def nR_La : String := "RoomLayoutsLaw"
abbrev nc_Cu_init : ByteArray := prog_2_method_1_code
def ny_Cu_init : MethodName := ⟨nR_Cu, "<init>", "()V"⟩
abbrev nc_Cu_widthAt : ByteArray := prog_2_method_2_code
def ny_Cu_widthAt : MethodName := ⟨nR_Cu, "widthAt", "(I)I"⟩
abbrev nc_Cu_heightAt : ByteArray := prog_2_method_3_code
def ny_Cu_heightAt : MethodName := ⟨nR_Cu, "heightAt", "(I)I"⟩
abbrev nc_Cu_clear : ByteArray := prog_2_method_4_code
def ny_Cu_clear : MethodName := ⟨nR_Cu, "clear", "()V"⟩
abbrev nc_Cu_append : ByteArray := prog_2_method_5_code
def ny_Cu_append : MethodName := ⟨nR_Cu, "append", "(II)V"⟩
abbrev nc_Cu_offer : ByteArray := prog_2_method_6_code
def ny_Cu_offer : MethodName := ⟨nR_Cu, "offer", "(II)V"⟩
abbrev nc_Cu_hasWithin : ByteArray := prog_2_method_7_code
def ny_Cu_hasWithin : MethodName := ⟨nR_Cu, "hasWithin", "(II)Z"⟩
abbrev nc_Cu_dropAround : ByteArray := prog_2_method_8_code
def ny_Cu_dropAround : MethodName := ⟨nR_Cu, "dropAround", "(II)V"⟩
abbrev nc_Cu_exchangeOutlines : ByteArray := prog_2_method_9_code
def ny_Cu_exchangeOutlines : MethodName := ⟨nR_Cu, "exchangeOutlines", "(II)V"⟩
abbrev nc_Cu_joinBeside : ByteArray := prog_2_method_10_code
def ny_Cu_joinBeside : MethodName := ⟨nR_Cu, "joinBeside", "(LRoomLayouts$Curve;LRoomLayouts$Curve;)V"⟩
abbrev nc_Cu_joinAbove : ByteArray := prog_2_method_11_code
def ny_Cu_joinAbove : MethodName := ⟨nR_Cu, "joinAbove", "(LRoomLayouts$Curve;LRoomLayouts$Curve;)V"⟩
abbrev nc_Cu_takeFitting : ByteArray := prog_2_method_12_code
def ny_Cu_takeFitting : MethodName := ⟨nR_Cu, "takeFitting", "(LRoomLayouts$Curve;II)V"⟩
abbrev nc_Cu_leastArea : ByteArray := prog_2_method_13_code
def ny_Cu_leastArea : MethodName := ⟨nR_Cu, "leastArea", "()I"⟩
abbrev nc_Pl_init : ByteArray := prog_3_method_1_code
def ny_Pl_init : MethodName := ⟨nR_Pl, "<init>", "()V"⟩
abbrev nc_Pl_forget : ByteArray := prog_3_method_2_code
def ny_Pl_forget : MethodName := ⟨nR_Pl, "forget", "()V"⟩
abbrev nc_Pl_setLot : ByteArray := prog_3_method_3_code
def ny_Pl_setLot : MethodName := ⟨nR_Pl, "setLot", "(II)V"⟩
abbrev nc_Pl_hasBest : ByteArray := prog_3_method_4_code
def ny_Pl_hasBest : MethodName := ⟨nR_Pl, "hasBest", "()Z"⟩
abbrev nc_Pl_bestWidth : ByteArray := prog_3_method_5_code
def ny_Pl_bestWidth : MethodName := ⟨nR_Pl, "bestWidth", "()I"⟩
abbrev nc_Pl_bestHeight : ByteArray := prog_3_method_6_code
def ny_Pl_bestHeight : MethodName := ⟨nR_Pl, "bestHeight", "()I"⟩
abbrev nc_Pl_bestArea : ByteArray := prog_3_method_7_code
def ny_Pl_bestArea : MethodName := ⟨nR_Pl, "bestArea", "()I"⟩
abbrev nc_Pl_nodeOfPlaced : ByteArray := prog_3_method_8_code
def ny_Pl_nodeOfPlaced : MethodName := ⟨nR_Pl, "nodeOfPlaced", "(I)I"⟩
abbrev nc_Pl_readPlace : ByteArray := prog_3_method_9_code
def ny_Pl_readPlace : MethodName := ⟨nR_Pl, "readPlace", "(II)I"⟩
abbrev nc_Pl_nodeWidth : ByteArray := prog_3_method_10_code
def ny_Pl_nodeWidth : MethodName := ⟨nR_Pl, "nodeWidth", "(I)I"⟩
abbrev nc_Pl_nodeHeight : ByteArray := prog_3_method_11_code
def ny_Pl_nodeHeight : MethodName := ⟨nR_Pl, "nodeHeight", "(I)I"⟩
abbrev nc_Pl_sharedWall : ByteArray := prog_3_method_12_code
def ny_Pl_sharedWall : MethodName := ⟨nR_Pl, "sharedWall", "(II)I"⟩
abbrev nc_Pl_measure : ByteArray := prog_3_method_13_code
def ny_Pl_measure : MethodName := ⟨nR_Pl, "measure", "()V"⟩
abbrev nc_Pl_takeSizes : ByteArray := prog_3_method_14_code
def ny_Pl_takeSizes : MethodName := ⟨nR_Pl, "takeSizes", "(II)V"⟩
abbrev nc_Pl_join : ByteArray := prog_3_method_15_code
def ny_Pl_join : MethodName := ⟨nR_Pl, "join", "(I)V"⟩
abbrev nc_Pl_settle : ByteArray := prog_3_method_16_code
def ny_Pl_settle : MethodName := ⟨nR_Pl, "settle", "()V"⟩
abbrev nc_Pl_chooseFirstSize : ByteArray := prog_3_method_17_code
def ny_Pl_chooseFirstSize : MethodName := ⟨nR_Pl, "chooseFirstSize", "(II)V"⟩
abbrev nc_Pl_pin : ByteArray := prog_3_method_18_code
def ny_Pl_pin : MethodName := ⟨nR_Pl, "pin", "(III)V"⟩
abbrev nc_Pl_setCorners : ByteArray := prog_3_method_19_code
def ny_Pl_setCorners : MethodName := ⟨nR_Pl, "setCorners", "()V"⟩
abbrev nc_Pl_setCornersOfParts : ByteArray := prog_3_method_20_code
def ny_Pl_setCornersOfParts : MethodName := ⟨nR_Pl, "setCornersOfParts", "(III)V"⟩
abbrev nc_Rl_init : ByteArray := prog_4_method_1_code
def ny_Rl_init : MethodName := ⟨nR_Rl, "<init>", "()V"⟩
abbrev nc_Rl_addRoom : ByteArray := prog_4_method_2_code
def ny_Rl_addRoom : MethodName := ⟨nR_Rl, "addRoom", "()I"⟩
abbrev nc_Rl_addSize : ByteArray := prog_4_method_3_code
def ny_Rl_addSize : MethodName := ⟨nR_Rl, "addSize", "(III)I"⟩
abbrev nc_Rl_sizesOf : ByteArray := prog_4_method_4_code
def ny_Rl_sizesOf : MethodName := ⟨nR_Rl, "sizesOf", "(I)I"⟩
abbrev nc_Rl_widthOf : ByteArray := prog_4_method_5_code
def ny_Rl_widthOf : MethodName := ⟨nR_Rl, "widthOf", "(II)I"⟩
abbrev nc_Rl_heightOf : ByteArray := prog_4_method_6_code
def ny_Rl_heightOf : MethodName := ⟨nR_Rl, "heightOf", "(II)I"⟩
abbrev nc_Rl_slot : ByteArray := prog_4_method_7_code
def ny_Rl_slot : MethodName := ⟨nR_Rl, "slot", "(II)I"⟩
abbrev nc_Sr_init : ByteArray := prog_5_method_1_code
def ny_Sr_init : MethodName := ⟨nR_Sr, "<init>", "()V"⟩
abbrev nc_Sr_clear : ByteArray := prog_5_method_2_code
def ny_Sr_clear : MethodName := ⟨nR_Sr, "clear", "()V"⟩
abbrev nc_Sr_addBytes : ByteArray := prog_5_method_3_code
def ny_Sr_addBytes : MethodName := ⟨nR_Sr, "addBytes", "(J)V"⟩
abbrev nc_Sr_signAt : ByteArray := prog_5_method_4_code
def ny_Sr_signAt : MethodName := ⟨nR_Sr, "signAt", "(I)I"⟩
abbrev nc_Sr_firstFault : ByteArray := prog_5_method_5_code
def ny_Sr_firstFault : MethodName := ⟨nR_Sr, "firstFault", "(LRoomLayouts$RoomList;)I"⟩
abbrev nc_St_init : ByteArray := prog_6_method_1_code
def ny_St_init : MethodName := ⟨nR_St, "<init>", "()V"⟩
abbrev nc_St_build : ByteArray := prog_6_method_2_code
def ny_St_build : MethodName := ⟨nR_St, "build", "(LRoomLayouts$SignRow;)V"⟩
abbrev nc_St_forgetRooms : ByteArray := prog_6_method_3_code
def ny_St_forgetRooms : MethodName := ⟨nR_St, "forgetRooms", "()V"⟩
abbrev nc_St_setSign : ByteArray := prog_6_method_4_code
def ny_St_setSign : MethodName := ⟨nR_St, "setSign", "(II)V"⟩
abbrev nc_St_link : ByteArray := prog_6_method_5_code
def ny_St_link : MethodName := ⟨nR_St, "link", "(III)V"⟩
abbrev nc_St_has : ByteArray := prog_6_method_6_code
def ny_St_has : MethodName := ⟨nR_St, "has", "(I)Z"⟩
abbrev nc_St_signAt : ByteArray := prog_6_method_7_code
def ny_St_signAt : MethodName := ⟨nR_St, "signAt", "(I)I"⟩
abbrev nc_St_roomAt : ByteArray := prog_6_method_8_code
def ny_St_roomAt : MethodName := ⟨nR_St, "roomAt", "(I)I"⟩
abbrev nc_St_firstOf : ByteArray := prog_6_method_9_code
def ny_St_firstOf : MethodName := ⟨nR_St, "firstOf", "(I)I"⟩
abbrev nc_St_secondOf : ByteArray := prog_6_method_10_code
def ny_St_secondOf : MethodName := ⟨nR_St, "secondOf", "(I)I"⟩
abbrev nc_St_parentOf : ByteArray := prog_6_method_11_code
def ny_St_parentOf : MethodName := ⟨nR_St, "parentOf", "(I)I"⟩
abbrev nc_St_nodeOf : ByteArray := prog_6_method_12_code
def ny_St_nodeOf : MethodName := ⟨nR_St, "nodeOf", "(I)I"⟩
abbrev nc_St_exchange : ByteArray := prog_6_method_13_code
def ny_St_exchange : MethodName := ⟨nR_St, "exchange", "(II)V"⟩
abbrev nc_St_giveNode : ByteArray := prog_6_method_14_code
def ny_St_giveNode : MethodName := ⟨nR_St, "giveNode", "(II)V"⟩
abbrev nc_Wl_init : ByteArray := prog_7_method_1_code
def ny_Wl_init : MethodName := ⟨nR_Wl, "<init>", "()V"⟩
abbrev nc_Wl_add : ByteArray := prog_7_method_2_code
def ny_Wl_add : MethodName := ⟨nR_Wl, "add", "(III)I"⟩
abbrev nc_Wl_isMetIn : ByteArray := prog_7_method_3_code
def ny_Wl_isMetIn : MethodName := ⟨nR_Wl, "isMetIn", "(LRoomLayouts$Plan;I)Z"⟩
abbrev nc_Wl_countMetIn : ByteArray := prog_7_method_4_code
def ny_Wl_countMetIn : MethodName := ⟨nR_Wl, "countMetIn", "(LRoomLayouts$Plan;)I"⟩
abbrev nc_Ro_init : ByteArray := prog_1_method_1_code
def ny_Ro_init : MethodName := ⟨nR_Ro, "<init>", "()V"⟩
abbrev nc_Ro_room : ByteArray := prog_1_method_2_code
def ny_Ro_room : MethodName := ⟨nR_Ro, "room", "()I"⟩
abbrev nc_Ro_size : ByteArray := prog_1_method_3_code
def ny_Ro_size : MethodName := ⟨nR_Ro, "size", "(III)I"⟩
abbrev nc_Ro_lot : ByteArray := prog_1_method_4_code
def ny_Ro_lot : MethodName := ⟨nR_Ro, "lot", "(II)V"⟩
abbrev nc_Ro_order : ByteArray := prog_1_method_5_code
def ny_Ro_order : MethodName := ⟨nR_Ro, "order", "(JJ)I"⟩
abbrev nc_Ro_best : ByteArray := prog_1_method_6_code
def ny_Ro_best : MethodName := ⟨nR_Ro, "best", "(I)I"⟩
abbrev nc_Ro_place : ByteArray := prog_1_method_7_code
def ny_Ro_place : MethodName := ⟨nR_Ro, "place", "(II)I"⟩
abbrev nc_Ro_outline : ByteArray := prog_1_method_8_code
def ny_Ro_outline : MethodName := ⟨nR_Ro, "outline", "(II)I"⟩
abbrev nc_Ro_wall : ByteArray := prog_1_method_9_code
def ny_Ro_wall : MethodName := ⟨nR_Ro, "wall", "(II)I"⟩
abbrev nc_Ro_wish : ByteArray := prog_1_method_10_code
def ny_Ro_wish : MethodName := ⟨nR_Ro, "wish", "(III)I"⟩
abbrev nc_Ro_met0 : ByteArray := prog_1_method_11_code
def ny_Ro_met0 : MethodName := ⟨nR_Ro, "met", "(I)Z"⟩
abbrev nc_Ro_met1 : ByteArray := prog_1_method_12_code
def ny_Ro_met1 : MethodName := ⟨nR_Ro, "met", "()I"⟩
abbrev nc_Ro_swap : ByteArray := prog_1_method_13_code
def ny_Ro_swap : MethodName := ⟨nR_Ro, "swap", "(II)Z"⟩
abbrev nc_Ro_improve : ByteArray := prog_1_method_14_code
def ny_Ro_improve : MethodName := ⟨nR_Ro, "improve", "()Z"⟩
abbrev nc_Ro_sign : ByteArray := prog_1_method_15_code
def ny_Ro_sign : MethodName := ⟨nR_Ro, "sign", "(I)I"⟩
abbrev nc_Ro_canExchange : ByteArray := prog_1_method_16_code
def ny_Ro_canExchange : MethodName := ⟨nR_Ro, "canExchange", "(II)Z"⟩
abbrev nc_Ro_changePlaces : ByteArray := prog_1_method_17_code
def ny_Ro_changePlaces : MethodName := ⟨nR_Ro, "changePlaces", "(II)V"⟩
abbrev nc_Ro_needRoom : ByteArray := prog_1_method_18_code
def ny_Ro_needRoom : MethodName := ⟨nR_Ro, "needRoom", "(I)V"⟩
abbrev nc_Ro_needTwoRooms : ByteArray := prog_1_method_19_code
def ny_Ro_needTwoRooms : MethodName := ⟨nR_Ro, "needTwoRooms", "(II)V"⟩
abbrev nc_Ro_needWithin : ByteArray := prog_1_method_20_code
def ny_Ro_needWithin : MethodName := ⟨nR_Ro, "needWithin", "(III)V"⟩
abbrev nc_Ro_needNotBelowZero : ByteArray := prog_1_method_21_code
def ny_Ro_needNotBelowZero : MethodName := ⟨nR_Ro, "needNotBelowZero", "(I)V"⟩
abbrev nc_Ro_roomOfSign : ByteArray := prog_1_method_22_code
def ny_Ro_roomOfSign : MethodName := ⟨nR_Ro, "roomOfSign", "(I)I"⟩
abbrev nc_Ro_joins : ByteArray := prog_1_method_23_code
def ny_Ro_joins : MethodName := ⟨nR_Ro, "joins", "(I)Z"⟩
abbrev nc_Mo_init : ByteArray := prog_9_method_1_code
def ny_Mo_init : MethodName := ⟨nR_Mo, "<init>", "()V"⟩
abbrev nc_Mo_thrown : ByteArray := prog_9_method_2_code
def ny_Mo_thrown : MethodName := ⟨nR_Mo, "thrown", "()I"⟩
abbrev nc_Mo_isRoom : ByteArray := prog_9_method_3_code
def ny_Mo_isRoom : MethodName := ⟨nR_Mo, "isRoom", "(I)Z"⟩
abbrev nc_Mo_isIn : ByteArray := prog_9_method_4_code
def ny_Mo_isIn : MethodName := ⟨nR_Mo, "isIn", "(III)Z"⟩
abbrev nc_Mo_room : ByteArray := prog_9_method_5_code
def ny_Mo_room : MethodName := ⟨nR_Mo, "room", "()I"⟩
abbrev nc_Mo_size : ByteArray := prog_9_method_6_code
def ny_Mo_size : MethodName := ⟨nR_Mo, "size", "(III)I"⟩
abbrev nc_Mo_lot : ByteArray := prog_9_method_7_code
def ny_Mo_lot : MethodName := ⟨nR_Mo, "lot", "(II)V"⟩
abbrev nc_Mo_gather : ByteArray := prog_9_method_8_code
def ny_Mo_gather : MethodName := ⟨nR_Mo, "gather", "(JI)I"⟩
abbrev nc_Mo_order : ByteArray := prog_9_method_9_code
def ny_Mo_order : MethodName := ⟨nR_Mo, "order", "(JJ)I"⟩
abbrev nc_Mo_placeOf : ByteArray := prog_9_method_10_code
def ny_Mo_placeOf : MethodName := ⟨nR_Mo, "placeOf", "(I)I"⟩
abbrev nc_Mo_layOut : ByteArray := prog_9_method_11_code
def ny_Mo_layOut : MethodName := ⟨nR_Mo, "layOut", "()V"⟩
abbrev nc_Mo_findCorners : ByteArray := prog_9_method_12_code
def ny_Mo_findCorners : MethodName := ⟨nR_Mo, "findCorners", "()V"⟩
abbrev nc_Mo_firstChoice : ByteArray := prog_9_method_13_code
def ny_Mo_firstChoice : MethodName := ⟨nR_Mo, "firstChoice", "()V"⟩
abbrev nc_Mo_nextChoice : ByteArray := prog_9_method_14_code
def ny_Mo_nextChoice : MethodName := ⟨nR_Mo, "nextChoice", "()Z"⟩
abbrev nc_Mo_fits : ByteArray := prog_9_method_15_code
def ny_Mo_fits : MethodName := ⟨nR_Mo, "fits", "()Z"⟩
abbrev nc_Mo_findBest : ByteArray := prog_9_method_16_code
def ny_Mo_findBest : MethodName := ⟨nR_Mo, "findBest", "()V"⟩
abbrev nc_Mo_best : ByteArray := prog_9_method_17_code
def ny_Mo_best : MethodName := ⟨nR_Mo, "best", "(I)I"⟩
abbrev nc_Mo_place : ByteArray := prog_9_method_18_code
def ny_Mo_place : MethodName := ⟨nR_Mo, "place", "(II)I"⟩
abbrev nc_Mo_outline : ByteArray := prog_9_method_19_code
def ny_Mo_outline : MethodName := ⟨nR_Mo, "outline", "(II)I"⟩
abbrev nc_Mo_overlap : ByteArray := prog_9_method_20_code
def ny_Mo_overlap : MethodName := ⟨nR_Mo, "overlap", "(IIII)I"⟩
abbrev nc_Mo_shared : ByteArray := prog_9_method_21_code
def ny_Mo_shared : MethodName := ⟨nR_Mo, "shared", "(II)I"⟩
abbrev nc_Mo_wall : ByteArray := prog_9_method_22_code
def ny_Mo_wall : MethodName := ⟨nR_Mo, "wall", "(II)I"⟩
abbrev nc_Mo_wish : ByteArray := prog_9_method_23_code
def ny_Mo_wish : MethodName := ⟨nR_Mo, "wish", "(III)I"⟩
abbrev nc_Mo_isMet : ByteArray := prog_9_method_24_code
def ny_Mo_isMet : MethodName := ⟨nR_Mo, "isMet", "(I)Z"⟩
abbrev nc_Mo_met0 : ByteArray := prog_9_method_25_code
def ny_Mo_met0 : MethodName := ⟨nR_Mo, "met", "(I)Z"⟩
abbrev nc_Mo_allMet : ByteArray := prog_9_method_26_code
def ny_Mo_allMet : MethodName := ⟨nR_Mo, "allMet", "()I"⟩
abbrev nc_Mo_met1 : ByteArray := prog_9_method_27_code
def ny_Mo_met1 : MethodName := ⟨nR_Mo, "met", "()I"⟩
abbrev nc_Mo_canChange : ByteArray := prog_9_method_28_code
def ny_Mo_canChange : MethodName := ⟨nR_Mo, "canChange", "(II)Z"⟩
abbrev nc_Mo_change : ByteArray := prog_9_method_29_code
def ny_Mo_change : MethodName := ⟨nR_Mo, "change", "(II)V"⟩
abbrev nc_Mo_swap : ByteArray := prog_9_method_30_code
def ny_Mo_swap : MethodName := ⟨nR_Mo, "swap", "(II)Z"⟩
abbrev nc_Mo_improve : ByteArray := prog_9_method_31_code
def ny_Mo_improve : MethodName := ⟨nR_Mo, "improve", "()Z"⟩
abbrev nc_Mo_sign : ByteArray := prog_9_method_32_code
def ny_Mo_sign : MethodName := ⟨nR_Mo, "sign", "(I)I"⟩
def nw_Cu_widthAt : List Cond := .code ny_Cu_widthAt nc_Cu_widthAt 2 (some .int) :: rl_TT
abbrev nr_Cu_widthAt : Room := { frames := 0, cells := 0, slots := 0, locals := 0 }
def nw_Cu_heightAt : List Cond := .code ny_Cu_heightAt nc_Cu_heightAt 2 (some .int) :: rl_TT
abbrev nr_Cu_heightAt : Room := { frames := 0, cells := 0, slots := 0, locals := 0 }
def nw_Cu_clear : List Cond := .code ny_Cu_clear nc_Cu_clear 1 none :: rl_TT
abbrev nr_Cu_clear : Room := { frames := 0, cells := 0, slots := 0, locals := 0 }
def nw_Cu_append : List Cond := .code ny_Cu_append nc_Cu_append 3 none :: rl_TT
abbrev nr_Cu_append : Room := { frames := 0, cells := 0, slots := 0, locals := 0 }
def nw_Cu_hasWithin : List Cond := .code ny_Cu_hasWithin nc_Cu_hasWithin 4 (some .boolean) :: rl_TT
abbrev nr_Cu_hasWithin : Room := { frames := 0, cells := 0, slots := 0, locals := 0 }
def nw_Cu_dropAround : List Cond := .code ny_Cu_dropAround nc_Cu_dropAround 5 none :: rl_TT
abbrev nr_Cu_dropAround : Room := { frames := 1, cells := 0, slots := 0, locals := 22 }
def nw_Cu_exchangeOutlines : List Cond := .code ny_Cu_exchangeOutlines nc_Cu_exchangeOutlines 5 none :: rl_TT
abbrev nr_Cu_exchangeOutlines : Room := { frames := 0, cells := 0, slots := 0, locals := 0 }
def nw_Cu_offer : List Cond := .code ny_Cu_offer nc_Cu_offer 4 none :: rl_TT
abbrev nr_Cu_offer : Room := { frames := 2, cells := 0, slots := 0, locals := 46 }
def nw_Cu_joinBeside : List Cond := .code ny_Cu_joinBeside nc_Cu_joinBeside 7 none :: rl_TT
abbrev nr_Cu_joinBeside : Room := { frames := 1, cells := 0, slots := 0, locals := 22 }
def nw_Cu_joinAbove : List Cond := .code ny_Cu_joinAbove nc_Cu_joinAbove 7 none :: rl_TT
abbrev nr_Cu_joinAbove : Room := { frames := 1, cells := 0, slots := 0, locals := 24 }
def nw_Cu_takeFitting : List Cond := .code ny_Cu_takeFitting nc_Cu_takeFitting 5 none :: rl_TT
abbrev nr_Cu_takeFitting : Room := { frames := 1, cells := 0, slots := 0, locals := 22 }
def nw_Cu_leastArea : List Cond := .code ny_Cu_leastArea nc_Cu_leastArea 4 (some .int) :: rl_TT
abbrev nr_Cu_leastArea : Room := { frames := 0, cells := 0, slots := 0, locals := 0 }
def nw_Pl_forget : List Cond := .code ny_Pl_forget nc_Pl_forget 1 none :: rl_TT
abbrev nr_Pl_forget : Room := { frames := 0, cells := 0, slots := 0, locals := 0 }
def nw_Pl_setLot : List Cond := .code ny_Pl_setLot nc_Pl_setLot 3 none :: rl_TT
abbrev nr_Pl_setLot : Room := { frames := 1, cells := 0, slots := 0, locals := 20 }
def nw_Pl_hasBest : List Cond := .code ny_Pl_hasBest nc_Pl_hasBest 1 (some .boolean) :: rl_TT
abbrev nr_Pl_hasBest : Room := { frames := 0, cells := 0, slots := 0, locals := 0 }
def nw_Pl_bestWidth : List Cond := .code ny_Pl_bestWidth nc_Pl_bestWidth 1 (some .int) :: rl_TT
abbrev nr_Pl_bestWidth : Room := { frames := 1, cells := 0, slots := 0, locals := 21 }
def nw_Pl_bestHeight : List Cond := .code ny_Pl_bestHeight nc_Pl_bestHeight 1 (some .int) :: rl_TT
abbrev nr_Pl_bestHeight : Room := { frames := 1, cells := 0, slots := 0, locals := 21 }
def nw_Pl_bestArea : List Cond := .code ny_Pl_bestArea nc_Pl_bestArea 1 (some .int) :: rl_TT
abbrev nr_Pl_bestArea : Room := { frames := 2, cells := 0, slots := 0, locals := 41 }
def nw_St_nodeOf : List Cond := .code ny_St_nodeOf nc_St_nodeOf 2 (some .int) :: rl_TT
abbrev nr_St_nodeOf : Room := { frames := 0, cells := 0, slots := 0, locals := 0 }
def nw_Pl_nodeOfPlaced : List Cond := .code ny_Pl_nodeOfPlaced nc_Pl_nodeOfPlaced 2 (some .int) :: rl_TT
abbrev nr_Pl_nodeOfPlaced : Room := { frames := 1, cells := 0, slots := 0, locals := 21 }
def nw_St_has : List Cond := .code ny_St_has nc_St_has 2 (some .boolean) :: rl_TT
abbrev nr_St_has : Room := { frames := 0, cells := 0, slots := 0, locals := 0 }
def nw_Pl_nodeWidth : List Cond := .code ny_Pl_nodeWidth nc_Pl_nodeWidth 2 (some .int) :: rl_TT
abbrev nr_Pl_nodeWidth : Room := { frames := 1, cells := 0, slots := 0, locals := 21 }
def nw_Pl_nodeHeight : List Cond := .code ny_Pl_nodeHeight nc_Pl_nodeHeight 2 (some .int) :: rl_TT
abbrev nr_Pl_nodeHeight : Room := { frames := 1, cells := 0, slots := 0, locals := 21 }
def nw_Pl_readPlace : List Cond := .code ny_Pl_readPlace nc_Pl_readPlace 4 (some .int) :: rl_TT
abbrev nr_Pl_readPlace : Room := { frames := 2, cells := 0, slots := 0, locals := 42 }
def nw_Pl_sharedWall : List Cond := .code ny_Pl_sharedWall nc_Pl_sharedWall 10 (some .int) :: rl_TT
abbrev nr_Pl_sharedWall : Room := { frames := 2, cells := 0, slots := 0, locals := 42 }
def nw_St_signAt : List Cond := .code ny_St_signAt nc_St_signAt 2 (some .int) :: rl_TT
abbrev nr_St_signAt : Room := { frames := 1, cells := 0, slots := 0, locals := 21 }
def nw_Ro_roomOfSign : List Cond := .code ny_Ro_roomOfSign nc_Ro_roomOfSign 1 (some .int) :: rl_TT
abbrev nr_Ro_roomOfSign : Room := { frames := 0, cells := 0, slots := 0, locals := 0 }
def nw_St_roomAt : List Cond := .code ny_St_roomAt nc_St_roomAt 2 (some .int) :: rl_TT
abbrev nr_St_roomAt : Room := { frames := 2, cells := 0, slots := 0, locals := 42 }
def nw_St_firstOf : List Cond := .code ny_St_firstOf nc_St_firstOf 2 (some .int) :: rl_TT
abbrev nr_St_firstOf : Room := { frames := 1, cells := 0, slots := 0, locals := 21 }
def nw_St_secondOf : List Cond := .code ny_St_secondOf nc_St_secondOf 2 (some .int) :: rl_TT
abbrev nr_St_secondOf : Room := { frames := 1, cells := 0, slots := 0, locals := 21 }
def nw_Pl_join : List Cond := .code ny_Pl_join nc_Pl_join 4 none :: rl_TT
abbrev nr_Pl_join : Room := { frames := 2, cells := 0, slots := 0, locals := 50 }
def nw_Rl_sizesOf : List Cond := .code ny_Rl_sizesOf nc_Rl_sizesOf 2 (some .int) :: rl_TT
abbrev nr_Rl_sizesOf : Room := { frames := 0, cells := 0, slots := 0, locals := 0 }
def nw_Rl_slot : List Cond := .code ny_Rl_slot nc_Rl_slot 3 (some .int) :: rl_TT
abbrev nr_Rl_slot : Room := { frames := 0, cells := 0, slots := 0, locals := 0 }
def nw_Rl_widthOf : List Cond := .code ny_Rl_widthOf nc_Rl_widthOf 4 (some .int) :: rl_TT
abbrev nr_Rl_widthOf : Room := { frames := 1, cells := 0, slots := 0, locals := 22 }
def nw_Rl_heightOf : List Cond := .code ny_Rl_heightOf nc_Rl_heightOf 4 (some .int) :: rl_TT
abbrev nr_Rl_heightOf : Room := { frames := 1, cells := 0, slots := 0, locals := 22 }
def nw_Pl_takeSizes : List Cond := .code ny_Pl_takeSizes nc_Pl_takeSizes 4 none :: rl_TT
abbrev nr_Pl_takeSizes : Room := { frames := 3, cells := 0, slots := 0, locals := 69 }
def nw_Pl_measure : List Cond := .code ny_Pl_measure nc_Pl_measure 3 none :: rl_TT
abbrev nr_Pl_measure : Room := { frames := 4, cells := 0, slots := 0, locals := 92 }
def nw_St_parentOf : List Cond := .code ny_St_parentOf nc_St_parentOf 2 (some .int) :: rl_TT
abbrev nr_St_parentOf : Room := { frames := 1, cells := 0, slots := 0, locals := 21 }
def nw_Pl_pin : List Cond := .code ny_Pl_pin nc_Pl_pin 6 none :: rl_TT
abbrev nr_Pl_pin : Room := { frames := 3, cells := 0, slots := 0, locals := 73 }
def nw_Pl_chooseFirstSize : List Cond := .code ny_Pl_chooseFirstSize nc_Pl_chooseFirstSize 8 none :: rl_TT
abbrev nr_Pl_chooseFirstSize : Room := { frames := 4, cells := 0, slots := 0, locals := 98 }
def nw_Pl_setCornersOfParts : List Cond := .code ny_Pl_setCornersOfParts nc_Pl_setCornersOfParts 5 none :: rl_TT
abbrev nr_Pl_setCornersOfParts : Room := { frames := 2, cells := 0, slots := 0, locals := 42 }
def nw_Pl_setCorners : List Cond := .code ny_Pl_setCorners nc_Pl_setCorners 3 none :: rl_TT
abbrev nr_Pl_setCorners : Room := { frames := 3, cells := 0, slots := 0, locals := 66 }
def nw_Pl_settle : List Cond := .code ny_Pl_settle nc_Pl_settle 2 none :: rl_TT
abbrev nr_Pl_settle : Room := { frames := 5, cells := 0, slots := 0, locals := 125 }
def nw_Rl_addRoom : List Cond := .code ny_Rl_addRoom nc_Rl_addRoom 1 (some .int) :: rl_TT
abbrev nr_Rl_addRoom : Room := { frames := 0, cells := 0, slots := 0, locals := 0 }
def nw_Rl_addSize : List Cond := .code ny_Rl_addSize nc_Rl_addSize 6 (some .int) :: rl_TT
abbrev nr_Rl_addSize : Room := { frames := 1, cells := 0, slots := 0, locals := 22 }
def nw_Sr_clear : List Cond := .code ny_Sr_clear nc_Sr_clear 1 none :: rl_TT
abbrev nr_Sr_clear : Room := { frames := 0, cells := 0, slots := 0, locals := 0 }
def nw_Sr_addBytes : List Cond := .code ny_Sr_addBytes nc_Sr_addBytes 5 none :: rl_TT
abbrev nr_Sr_addBytes : Room := { frames := 0, cells := 0, slots := 0, locals := 0 }
def nw_Sr_signAt : List Cond := .code ny_Sr_signAt nc_Sr_signAt 2 (some .int) :: rl_TT
abbrev nr_Sr_signAt : Room := { frames := 0, cells := 0, slots := 0, locals := 0 }
def nw_Ro_joins : List Cond := .code ny_Ro_joins nc_Ro_joins 1 (some .boolean) :: rl_TT
abbrev nr_Ro_joins : Room := { frames := 0, cells := 0, slots := 0, locals := 0 }
def nw_Sr_firstFault : List Cond := .code ny_Sr_firstFault nc_Sr_firstFault 7 (some .int) :: rl_TT
abbrev nr_Sr_firstFault : Room := { frames := 1, cells := 0, slots := 0, locals := 21 }
def nw_St_forgetRooms : List Cond := .code ny_St_forgetRooms nc_St_forgetRooms 2 none :: rl_TT
abbrev nr_St_forgetRooms : Room := { frames := 0, cells := 0, slots := 0, locals := 0 }
def nw_St_setSign : List Cond := .code ny_St_setSign nc_St_setSign 4 none :: rl_TT
abbrev nr_St_setSign : Room := { frames := 1, cells := 0, slots := 0, locals := 20 }
def nw_St_link : List Cond := .code ny_St_link nc_St_link 4 none :: rl_TT
abbrev nr_St_link : Room := { frames := 0, cells := 0, slots := 0, locals := 0 }
def nw_St_build : List Cond := .code ny_St_build nc_St_build 4 none :: rl_TT
abbrev nr_St_build : Room := { frames := 2, cells := 0, slots := 0, locals := 43 }
def nw_St_giveNode : List Cond := .code ny_St_giveNode nc_St_giveNode 3 none :: rl_TT
abbrev nr_St_giveNode : Room := { frames := 1, cells := 0, slots := 0, locals := 21 }
def nw_St_exchange : List Cond := .code ny_St_exchange nc_St_exchange 5 none :: rl_TT
abbrev nr_St_exchange : Room := { frames := 2, cells := 0, slots := 0, locals := 43 }
def nw_Wl_add : List Cond := .code ny_Wl_add nc_Wl_add 4 (some .int) :: rl_TT
abbrev nr_Wl_add : Room := { frames := 0, cells := 0, slots := 0, locals := 0 }
def nw_Wl_isMetIn : List Cond := .code ny_Wl_isMetIn nc_Wl_isMetIn 3 (some .boolean) :: rl_TT
abbrev nr_Wl_isMetIn : Room := { frames := 3, cells := 0, slots := 0, locals := 71 }
def nw_Wl_countMetIn : List Cond := .code ny_Wl_countMetIn nc_Wl_countMetIn 4 (some .int) :: rl_TT
abbrev nr_Wl_countMetIn : Room := { frames := 4, cells := 0, slots := 0, locals := 93 }
def nw_Ro_order : List Cond := .code ny_Ro_order nc_Ro_order 6 (some .int) :: rl_TT
abbrev nr_Ro_order : Room := { frames := 3, cells := 0, slots := 0, locals := 66 }
def nw_Ro_met1 : List Cond := .code ny_Ro_met1 nc_Ro_met1 1 (some .int) :: rl_TT
abbrev nr_Ro_met1 : Room := { frames := 6, cells := 0, slots := 0, locals := 146 }
def nw_Ro_canExchange : List Cond := .code ny_Ro_canExchange nc_Ro_canExchange 3 (some .boolean) :: rl_TT
abbrev nr_Ro_canExchange : Room := { frames := 1, cells := 0, slots := 0, locals := 21 }
def nw_Ro_changePlaces : List Cond := .code ny_Ro_changePlaces nc_Ro_changePlaces 3 none :: rl_TT
abbrev nr_Ro_changePlaces : Room := { frames := 3, cells := 0, slots := 0, locals := 67 }
def nw_Ro_improve : List Cond := .code ny_Ro_improve nc_Ro_improve 10 (some .boolean) :: rl_TT
abbrev nr_Ro_improve : Room := { frames := 6, cells := 0, slots := 0, locals := 146 }
def nw_Mo_thrown : List Cond := .code ny_Mo_thrown nc_Mo_thrown 1 (some .int) :: rl_TT
abbrev nr_Mo_thrown : Room := { frames := 0, cells := 0, slots := 0, locals := 0 }
def nw_Mo_isRoom : List Cond := .code ny_Mo_isRoom nc_Mo_isRoom 2 (some .boolean) :: rl_TT
abbrev nr_Mo_isRoom : Room := { frames := 0, cells := 0, slots := 0, locals := 0 }
def nw_Mo_isIn : List Cond := .code ny_Mo_isIn nc_Mo_isIn 3 (some .boolean) :: rl_TT
abbrev nr_Mo_isIn : Room := { frames := 0, cells := 0, slots := 0, locals := 0 }
def nw_Mo_room : List Cond := .code ny_Mo_room nc_Mo_room 1 (some .int) :: rl_TT
abbrev nr_Mo_room : Room := { frames := 0, cells := 0, slots := 0, locals := 0 }
def nw_Mo_size : List Cond := .code ny_Mo_size nc_Mo_size 4 (some .int) :: rl_TT
abbrev nr_Mo_size : Room := { frames := 1, cells := 0, slots := 0, locals := 22 }
def nw_Mo_lot : List Cond := .code ny_Mo_lot nc_Mo_lot 3 none :: rl_TT
abbrev nr_Mo_lot : Room := { frames := 1, cells := 0, slots := 0, locals := 22 }
def nw_Mo_gather : List Cond := .code ny_Mo_gather nc_Mo_gather 7 (some .int) :: rl_TT
abbrev nr_Mo_gather : Room := { frames := 0, cells := 0, slots := 0, locals := 0 }
def nw_Mo_order : List Cond := .code ny_Mo_order nc_Mo_order 10 (some .int) :: rl_TT
abbrev nr_Mo_order : Room := { frames := 1, cells := 0, slots := 0, locals := 26 }
def nw_Mo_placeOf : List Cond := .code ny_Mo_placeOf nc_Mo_placeOf 3 (some .int) :: rl_TT
abbrev nr_Mo_placeOf : Room := { frames := 0, cells := 0, slots := 0, locals := 0 }
def nw_Mo_layOut : List Cond := .code ny_Mo_layOut nc_Mo_layOut 8 none :: rl_TT
abbrev nr_Mo_layOut : Room := { frames := 0, cells := 0, slots := 0, locals := 0 }
def nw_Mo_findCorners : List Cond := .code ny_Mo_findCorners nc_Mo_findCorners 4 none :: rl_TT
abbrev nr_Mo_findCorners : Room := { frames := 0, cells := 0, slots := 0, locals := 0 }
def nw_Mo_firstChoice : List Cond := .code ny_Mo_firstChoice nc_Mo_firstChoice 2 none :: rl_TT
abbrev nr_Mo_firstChoice : Room := { frames := 0, cells := 0, slots := 0, locals := 0 }
def nw_Mo_nextChoice : List Cond := .code ny_Mo_nextChoice nc_Mo_nextChoice 2 (some .boolean) :: rl_TT
abbrev nr_Mo_nextChoice : Room := { frames := 1, cells := 0, slots := 0, locals := 22 }
def nw_Mo_fits : List Cond := .code ny_Mo_fits nc_Mo_fits 1 (some .boolean) :: rl_TT
abbrev nr_Mo_fits : Room := { frames := 0, cells := 0, slots := 0, locals := 0 }
def nw_Mo_findBest : List Cond := .code ny_Mo_findBest nc_Mo_findBest 6 none :: rl_TT
abbrev nr_Mo_findBest : Room := { frames := 2, cells := 0, slots := 0, locals := 43 }
def nw_Mo_best : List Cond := .code ny_Mo_best nc_Mo_best 2 (some .int) :: rl_TT
abbrev nr_Mo_best : Room := { frames := 3, cells := 0, slots := 0, locals := 68 }
def nw_Mo_place : List Cond := .code ny_Mo_place nc_Mo_place 4 (some .int) :: rl_TT
abbrev nr_Mo_place : Room := { frames := 3, cells := 0, slots := 0, locals := 68 }
def nw_Mo_outline : List Cond := .code ny_Mo_outline nc_Mo_outline 7 (some .int) :: rl_TT
abbrev nr_Mo_outline : Room := { frames := 2, cells := 0, slots := 0, locals := 43 }
def nw_Mo_overlap : List Cond := .code ny_Mo_overlap nc_Mo_overlap 6 (some .int) :: rl_TT
abbrev nr_Mo_overlap : Room := { frames := 0, cells := 0, slots := 0, locals := 0 }
def nw_Mo_shared : List Cond := .code ny_Mo_shared nc_Mo_shared 7 (some .int) :: rl_TT
abbrev nr_Mo_shared : Room := { frames := 1, cells := 0, slots := 0, locals := 25 }
def nw_Mo_wall : List Cond := .code ny_Mo_wall nc_Mo_wall 5 (some .int) :: rl_TT
abbrev nr_Mo_wall : Room := { frames := 3, cells := 0, slots := 0, locals := 68 }
def nw_Mo_wish : List Cond := .code ny_Mo_wish nc_Mo_wish 5 (some .int) :: rl_TT
abbrev nr_Mo_wish : Room := { frames := 1, cells := 0, slots := 0, locals := 22 }
def nw_Mo_isMet : List Cond := .code ny_Mo_isMet nc_Mo_isMet 4 (some .boolean) :: rl_TT
abbrev nr_Mo_isMet : Room := { frames := 2, cells := 0, slots := 0, locals := 51 }
def nw_Mo_met0 : List Cond := .code ny_Mo_met0 nc_Mo_met0 2 (some .boolean) :: rl_TT
abbrev nr_Mo_met0 : Room := { frames := 3, cells := 0, slots := 0, locals := 74 }
def nw_Mo_allMet : List Cond := .code ny_Mo_allMet nc_Mo_allMet 3 (some .int) :: rl_TT
abbrev nr_Mo_allMet : Room := { frames := 3, cells := 0, slots := 0, locals := 74 }
def nw_Mo_met1 : List Cond := .code ny_Mo_met1 nc_Mo_met1 1 (some .int) :: rl_TT
abbrev nr_Mo_met1 : Room := { frames := 4, cells := 0, slots := 0, locals := 96 }
def nw_Mo_canChange : List Cond := .code ny_Mo_canChange nc_Mo_canChange 3 (some .boolean) :: rl_TT
abbrev nr_Mo_canChange : Room := { frames := 1, cells := 0, slots := 0, locals := 22 }
def nw_Mo_change : List Cond := .code ny_Mo_change nc_Mo_change 5 none :: rl_TT
abbrev nr_Mo_change : Room := { frames := 1, cells := 0, slots := 0, locals := 22 }
def nw_Mo_swap : List Cond := .code ny_Mo_swap nc_Mo_swap 3 (some .boolean) :: rl_TT
abbrev nr_Mo_swap : Room := { frames := 2, cells := 0, slots := 0, locals := 46 }
def nw_Mo_improve : List Cond := .code ny_Mo_improve nc_Mo_improve 10 (some .boolean) :: rl_TT
abbrev nr_Mo_improve : Room := { frames := 4, cells := 0, slots := 0, locals := 96 }
def nw_Mo_sign : List Cond := .code ny_Mo_sign nc_Mo_sign 2 (some .int) :: rl_TT
abbrev nr_Mo_sign : Room := { frames := 0, cells := 0, slots := 0, locals := 0 }
theorem nf_Cu_9 : Cond.fieldLink nR_Cu 9 (nT_Cu 0).1 (nT_Cu 0).2.1 (nT_Cu 0).2.2.1 ∈ rl_TT := rl_tin 139 (by decide +kernel) rfl
theorem nf_Cu_15 : Cond.fieldLink nR_Cu 15 (nT_Cu 1).1 (nT_Cu 1).2.1 (nT_Cu 1).2.2.1 ∈ rl_TT := rl_tin 140 (by decide +kernel) rfl
theorem nf_Cu_19 : Cond.fieldLink nR_Cu 19 (nT_Cu 2).1 (nT_Cu 2).2.1 (nT_Cu 2).2.2.1 ∈ rl_TT := rl_tin 141 (by decide +kernel) rfl
theorem nm_Cu_30 : Cond.methodLink nR_Cu 30 ny_Cu_append ∈ rl_TT := rl_tin 320 (by decide +kernel) rfl
theorem nm_ini_Cu : Cond.initialized nR_Cu ∈ rl_TT := rl_tin 40 (by decide +kernel) rfl
theorem nh_Cu_append : Cond.code ny_Cu_append nc_Cu_append 3 none ∈ rl_TT := rl_tin 323 (by decide +kernel) rfl
theorem nm_im_Cu_append : Cond.instanceMethod ny_Cu_append ∈ rl_TT := rl_tin 321 (by decide +kernel) rfl
theorem nm_se_Cu_append : Cond.selects nR_Cu ny_Cu_append ny_Cu_append ∈ rl_TT := rl_tin 322 (by decide +kernel) rfl
theorem nm_Cu_22 : Cond.methodLink nR_Cu 22 ny_Cu_hasWithin ∈ rl_TT := rl_tin 353 (by decide +kernel) rfl
theorem nh_Cu_hasWithin : Cond.code ny_Cu_hasWithin nc_Cu_hasWithin 4 (some .boolean) ∈ rl_TT := rl_tin 356 (by decide +kernel) rfl
theorem nm_im_Cu_hasWithin : Cond.instanceMethod ny_Cu_hasWithin ∈ rl_TT := rl_tin 354 (by decide +kernel) rfl
theorem nm_se_Cu_hasWithin : Cond.selects nR_Cu ny_Cu_hasWithin ny_Cu_hasWithin ∈ rl_TT := rl_tin 355 (by decide +kernel) rfl
theorem nm_Cu_26 : Cond.methodLink nR_Cu 26 ny_Cu_dropAround ∈ rl_TT := rl_tin 357 (by decide +kernel) rfl
theorem nh_Cu_dropAround : Cond.code ny_Cu_dropAround nc_Cu_dropAround 5 none ∈ rl_TT := rl_tin 360 (by decide +kernel) rfl
theorem nm_im_Cu_dropAround : Cond.instanceMethod ny_Cu_dropAround ∈ rl_TT := rl_tin 359 (by decide +kernel) rfl
theorem nm_se_Cu_dropAround : Cond.selects nR_Cu ny_Cu_dropAround ny_Cu_dropAround ∈ rl_TT := rl_tin 6 (by decide +kernel) rfl
theorem nm_Cu_33 : Cond.methodLink nR_Cu 33 ny_Cu_exchangeOutlines ∈ rl_TT := rl_tin 328 (by decide +kernel) rfl
theorem nh_Cu_exchangeOutlines : Cond.code ny_Cu_exchangeOutlines nc_Cu_exchangeOutlines 5 none ∈ rl_TT := rl_tin 331 (by decide +kernel) rfl
theorem nm_im_Cu_exchangeOutlines : Cond.instanceMethod ny_Cu_exchangeOutlines ∈ rl_TT := rl_tin 330 (by decide +kernel) rfl
theorem nm_se_Cu_exchangeOutlines : Cond.selects nR_Cu ny_Cu_exchangeOutlines ny_Cu_exchangeOutlines ∈ rl_TT := rl_tin 4 (by decide +kernel) rfl
theorem nm_Cu_36 : Cond.methodLink nR_Cu 36 ny_Cu_clear ∈ rl_TT := rl_tin 313 (by decide +kernel) rfl
theorem nh_Cu_clear : Cond.code ny_Cu_clear nc_Cu_clear 1 none ∈ rl_TT := rl_tin 316 (by decide +kernel) rfl
theorem nm_im_Cu_clear : Cond.instanceMethod ny_Cu_clear ∈ rl_TT := rl_tin 314 (by decide +kernel) rfl
theorem nm_se_Cu_clear : Cond.selects nR_Cu ny_Cu_clear ny_Cu_clear ∈ rl_TT := rl_tin 315 (by decide +kernel) rfl
theorem nm_Cu_39 : Cond.methodLink nR_Cu 39 Lib.Math.max.name ∈ rl_TT := rl_tin 317 (by decide +kernel) rfl
theorem nm_static_max : Cond.static Lib.Math.max.name ∈ rl_TT := rl_tin 318 (by decide +kernel) rfl
theorem nm_ini_Math : Cond.initialized "java/lang/Math" ∈ rl_TT := rl_tin 48 (by decide +kernel) rfl
theorem nm_code_max : Cond.code Lib.Math.max.name Lib.Math.max.code 2 (some .int) ∈ rl_TT := rl_tin 319 (by decide +kernel) rfl
theorem nk_Cu_45 : Cond.constant nR_Cu 45 160001 ∈ rl_TT := rl_tin 369 (by decide +kernel) rfl
theorem nf_Pl_32 : Cond.fieldLink nR_Pl 32 (nT_Pl 4).1 (nT_Pl 4).2.1 (nT_Pl 4).2.2.1 ∈ rl_TT := rl_tin 155 (by decide +kernel) rfl
theorem nf_Pl_36 : Cond.fieldLink nR_Pl 36 (nT_Pl 5).1 (nT_Pl 5).2.1 (nT_Pl 5).2.2.1 ∈ rl_TT := rl_tin 156 (by decide +kernel) rfl
theorem nf_Pl_25 : Cond.fieldLink nR_Pl 25 (nT_Pl 2).1 (nT_Pl 2).2.1 (nT_Pl 2).2.2.1 ∈ rl_TT := rl_tin 153 (by decide +kernel) rfl
theorem nf_Pl_29 : Cond.fieldLink nR_Pl 29 (nT_Pl 3).1 (nT_Pl 3).2.1 (nT_Pl 3).2.2.1 ∈ rl_TT := rl_tin 154 (by decide +kernel) rfl
theorem nm_Pl_63 : Cond.methodLink nR_Pl 63 ny_Pl_forget ∈ rl_TT := rl_tin 598 (by decide +kernel) rfl
theorem nm_ini_Pl : Cond.initialized nR_Pl ∈ rl_TT := rl_tin 37 (by decide +kernel) rfl
theorem nh_Pl_forget : Cond.code ny_Pl_forget nc_Pl_forget 1 none ∈ rl_TT := rl_tin 270 (by decide +kernel) rfl
theorem nm_im_Pl_forget : Cond.instanceMethod ny_Pl_forget ∈ rl_TT := rl_tin 268 (by decide +kernel) rfl
theorem nm_se_Pl_forget : Cond.selects nR_Pl ny_Pl_forget ny_Pl_forget ∈ rl_TT := rl_tin 269 (by decide +kernel) rfl
theorem nf_Pl_50 : Cond.fieldLink nR_Pl 50 (nT_Pl 8).1 (nT_Pl 8).2.1 (nT_Pl 8).2.2.1 ∈ rl_TT := rl_tin 160 (by decide +kernel) rfl
theorem nf_Pl_46 : Cond.fieldLink nR_Pl 46 (nT_Pl 7).1 (nT_Pl 7).2.1 (nT_Pl 7).2.2.1 ∈ rl_TT := rl_tin 158 (by decide +kernel) rfl
theorem nm_Pl_66 : Cond.methodLink nR_Pl 66 ny_Cu_widthAt ∈ rl_TT := rl_tin 386 (by decide +kernel) rfl
theorem nh_Cu_widthAt : Cond.code ny_Cu_widthAt nc_Cu_widthAt 2 (some .int) ∈ rl_TT := rl_tin 389 (by decide +kernel) rfl
theorem nm_im_Cu_widthAt : Cond.instanceMethod ny_Cu_widthAt ∈ rl_TT := rl_tin 387 (by decide +kernel) rfl
theorem nm_se_Cu_widthAt : Cond.selects nR_Cu ny_Cu_widthAt ny_Cu_widthAt ∈ rl_TT := rl_tin 388 (by decide +kernel) rfl
theorem nm_Pl_70 : Cond.methodLink nR_Pl 70 ny_Cu_heightAt ∈ rl_TT := rl_tin 394 (by decide +kernel) rfl
theorem nh_Cu_heightAt : Cond.code ny_Cu_heightAt nc_Cu_heightAt 2 (some .int) ∈ rl_TT := rl_tin 397 (by decide +kernel) rfl
theorem nm_im_Cu_heightAt : Cond.instanceMethod ny_Cu_heightAt ∈ rl_TT := rl_tin 395 (by decide +kernel) rfl
theorem nm_se_Cu_heightAt : Cond.selects nR_Cu ny_Cu_heightAt ny_Cu_heightAt ∈ rl_TT := rl_tin 396 (by decide +kernel) rfl
theorem nm_Pl_73 : Cond.methodLink nR_Pl 73 ny_Pl_hasBest ∈ rl_TT := rl_tin 370 (by decide +kernel) rfl
theorem nh_Pl_hasBest : Cond.code ny_Pl_hasBest nc_Pl_hasBest 1 (some .boolean) ∈ rl_TT := rl_tin 373 (by decide +kernel) rfl
theorem nm_im_Pl_hasBest : Cond.instanceMethod ny_Pl_hasBest ∈ rl_TT := rl_tin 371 (by decide +kernel) rfl
theorem nm_se_Pl_hasBest : Cond.selects nR_Pl ny_Pl_hasBest ny_Pl_hasBest ∈ rl_TT := rl_tin 372 (by decide +kernel) rfl
theorem nk_Pl_84 : Cond.constant nR_Pl 84 160001 ∈ rl_TT := rl_tin 451 (by decide +kernel) rfl
theorem nm_Pl_77 : Cond.methodLink nR_Pl 77 ny_Pl_bestWidth ∈ rl_TT := rl_tin 382 (by decide +kernel) rfl
theorem nh_Pl_bestWidth : Cond.code ny_Pl_bestWidth nc_Pl_bestWidth 1 (some .int) ∈ rl_TT := rl_tin 385 (by decide +kernel) rfl
theorem nm_im_Pl_bestWidth : Cond.instanceMethod ny_Pl_bestWidth ∈ rl_TT := rl_tin 383 (by decide +kernel) rfl
theorem nm_se_Pl_bestWidth : Cond.selects nR_Pl ny_Pl_bestWidth ny_Pl_bestWidth ∈ rl_TT := rl_tin 384 (by decide +kernel) rfl
theorem nm_Pl_81 : Cond.methodLink nR_Pl 81 ny_Pl_bestHeight ∈ rl_TT := rl_tin 390 (by decide +kernel) rfl
theorem nh_Pl_bestHeight : Cond.code ny_Pl_bestHeight nc_Pl_bestHeight 1 (some .int) ∈ rl_TT := rl_tin 393 (by decide +kernel) rfl
theorem nm_im_Pl_bestHeight : Cond.instanceMethod ny_Pl_bestHeight ∈ rl_TT := rl_tin 391 (by decide +kernel) rfl
theorem nm_se_Pl_bestHeight : Cond.selects nR_Pl ny_Pl_bestHeight ny_Pl_bestHeight ∈ rl_TT := rl_tin 392 (by decide +kernel) rfl
theorem nf_St_31 : Cond.fieldLink nR_St 31 (nT_St 6).1 (nT_St 6).2.1 (nT_St 6).2.2.1 ∈ rl_TT := rl_tin 116 (by decide +kernel) rfl
theorem nf_Pl_21 : Cond.fieldLink nR_Pl 21 (nT_Pl 1).1 (nT_Pl 1).2.1 (nT_Pl 1).2.2.1 ∈ rl_TT := rl_tin 151 (by decide +kernel) rfl
theorem nm_Pl_85 : Cond.methodLink nR_Pl 85 ny_St_nodeOf ∈ rl_TT := rl_tin 374 (by decide +kernel) rfl
theorem nm_ini_St : Cond.initialized nR_St ∈ rl_TT := rl_tin 39 (by decide +kernel) rfl
theorem nh_St_nodeOf : Cond.code ny_St_nodeOf nc_St_nodeOf 2 (some .int) ∈ rl_TT := rl_tin 377 (by decide +kernel) rfl
theorem nm_im_St_nodeOf : Cond.instanceMethod ny_St_nodeOf ∈ rl_TT := rl_tin 375 (by decide +kernel) rfl
theorem nm_se_St_nodeOf : Cond.selects nR_St ny_St_nodeOf ny_St_nodeOf ∈ rl_TT := rl_tin 376 (by decide +kernel) rfl
theorem nf_St_9 : Cond.fieldLink nR_St 9 (nT_St 0).1 (nT_St 0).2.1 (nT_St 0).2.2.1 ∈ rl_TT := rl_tin 109 (by decide +kernel) rfl
theorem nm_Pl_91 : Cond.methodLink nR_Pl 91 ny_St_has ∈ rl_TT := rl_tin 307 (by decide +kernel) rfl
theorem nh_St_has : Cond.code ny_St_has nc_St_has 2 (some .boolean) ∈ rl_TT := rl_tin 294 (by decide +kernel) rfl
theorem nm_im_St_has : Cond.instanceMethod ny_St_has ∈ rl_TT := rl_tin 292 (by decide +kernel) rfl
theorem nm_se_St_has : Cond.selects nR_St ny_St_has ny_St_has ∈ rl_TT := rl_tin 293 (by decide +kernel) rfl
theorem nf_Pl_41 : Cond.fieldLink nR_Pl 41 (nT_Pl 6).1 (nT_Pl 6).2.1 (nT_Pl 6).2.2.1 ∈ rl_TT := rl_tin 157 (by decide +kernel) rfl
theorem nm_Pl_88 : Cond.methodLink nR_Pl 88 ny_Pl_nodeOfPlaced ∈ rl_TT := rl_tin 436 (by decide +kernel) rfl
theorem nh_Pl_nodeOfPlaced : Cond.code ny_Pl_nodeOfPlaced nc_Pl_nodeOfPlaced 2 (some .int) ∈ rl_TT := rl_tin 439 (by decide +kernel) rfl
theorem nm_im_Pl_nodeOfPlaced : Cond.instanceMethod ny_Pl_nodeOfPlaced ∈ rl_TT := rl_tin 438 (by decide +kernel) rfl
theorem nm_se_Pl_nodeOfPlaced : Cond.selects nR_Pl ny_Pl_nodeOfPlaced ny_Pl_nodeOfPlaced ∈ rl_TT := rl_tin 13 (by decide +kernel) rfl
theorem nf_Pl_53 : Cond.fieldLink nR_Pl 53 (nT_Pl 9).1 (nT_Pl 9).2.1 (nT_Pl 9).2.2.1 ∈ rl_TT := rl_tin 161 (by decide +kernel) rfl
theorem nf_Pl_57 : Cond.fieldLink nR_Pl 57 (nT_Pl 10).1 (nT_Pl 10).2.1 (nT_Pl 10).2.2.1 ∈ rl_TT := rl_tin 162 (by decide +kernel) rfl
theorem nf_Pl_60 : Cond.fieldLink nR_Pl 60 (nT_Pl 11).1 (nT_Pl 11).2.1 (nT_Pl 11).2.2.1 ∈ rl_TT := rl_tin 163 (by decide +kernel) rfl
theorem nm_Pl_95 : Cond.methodLink nR_Pl 95 ny_Pl_nodeWidth ∈ rl_TT := rl_tin 416 (by decide +kernel) rfl
theorem nh_Pl_nodeWidth : Cond.code ny_Pl_nodeWidth nc_Pl_nodeWidth 2 (some .int) ∈ rl_TT := rl_tin 419 (by decide +kernel) rfl
theorem nm_im_Pl_nodeWidth : Cond.instanceMethod ny_Pl_nodeWidth ∈ rl_TT := rl_tin 418 (by decide +kernel) rfl
theorem nm_se_Pl_nodeWidth : Cond.selects nR_Pl ny_Pl_nodeWidth ny_Pl_nodeWidth ∈ rl_TT := rl_tin 11 (by decide +kernel) rfl
theorem nm_Pl_98 : Cond.methodLink nR_Pl 98 ny_Pl_nodeHeight ∈ rl_TT := rl_tin 420 (by decide +kernel) rfl
theorem nh_Pl_nodeHeight : Cond.code ny_Pl_nodeHeight nc_Pl_nodeHeight 2 (some .int) ∈ rl_TT := rl_tin 423 (by decide +kernel) rfl
theorem nm_im_Pl_nodeHeight : Cond.instanceMethod ny_Pl_nodeHeight ∈ rl_TT := rl_tin 422 (by decide +kernel) rfl
theorem nm_se_Pl_nodeHeight : Cond.selects nR_Pl ny_Pl_nodeHeight ny_Pl_nodeHeight ∈ rl_TT := rl_tin 12 (by decide +kernel) rfl
theorem nm_Pl_101 : Cond.methodLink nR_Pl 101 Lib.Math.min.name ∈ rl_TT := rl_tin 440 (by decide +kernel) rfl
theorem nm_static_min : Cond.static Lib.Math.min.name ∈ rl_TT := rl_tin 254 (by decide +kernel) rfl
theorem nm_code_min : Cond.code Lib.Math.min.name Lib.Math.min.code 2 (some .int) ∈ rl_TT := rl_tin 255 (by decide +kernel) rfl
theorem nm_Pl_107 : Cond.methodLink nR_Pl 107 Lib.Math.max.name ∈ rl_TT := rl_tin 441 (by decide +kernel) rfl
theorem nm_St_65 : Cond.methodLink nR_St 65 ny_St_has ∈ rl_TT := rl_tin 291 (by decide +kernel) rfl
theorem nf_St_15 : Cond.fieldLink nR_St 15 (nT_St 1).1 (nT_St 1).2.1 (nT_St 1).2.2.1 ∈ rl_TT := rl_tin 111 (by decide +kernel) rfl
theorem nm_St_68 : Cond.methodLink nR_St 68 ny_St_signAt ∈ rl_TT := rl_tin 287 (by decide +kernel) rfl
theorem nh_St_signAt : Cond.code ny_St_signAt nc_St_signAt 2 (some .int) ∈ rl_TT := rl_tin 290 (by decide +kernel) rfl
theorem nm_im_St_signAt : Cond.instanceMethod ny_St_signAt ∈ rl_TT := rl_tin 288 (by decide +kernel) rfl
theorem nm_se_St_signAt : Cond.selects nR_St ny_St_signAt ny_St_signAt ∈ rl_TT := rl_tin 289 (by decide +kernel) rfl
theorem nm_ini_Ro : Cond.initialized nR_Ro ∈ rl_TT := rl_tin 35 (by decide +kernel) rfl
theorem nh_Ro_roomOfSign : Cond.code ny_Ro_roomOfSign nc_Ro_roomOfSign 1 (some .int) ∈ rl_TT := rl_tin 241 (by decide +kernel) rfl
theorem nm_st_Ro_roomOfSign : Cond.static ny_Ro_roomOfSign ∈ rl_TT := rl_tin 240 (by decide +kernel) rfl
theorem nf_St_19 : Cond.fieldLink nR_St 19 (nT_St 2).1 (nT_St 2).2.1 (nT_St 2).2.2.1 ∈ rl_TT := rl_tin 112 (by decide +kernel) rfl
theorem nf_St_22 : Cond.fieldLink nR_St 22 (nT_St 3).1 (nT_St 3).2.1 (nT_St 3).2.2.1 ∈ rl_TT := rl_tin 113 (by decide +kernel) rfl
theorem nm_Pl_146 : Cond.methodLink nR_Pl 146 ny_St_firstOf ∈ rl_TT := rl_tin 299 (by decide +kernel) rfl
theorem nh_St_firstOf : Cond.code ny_St_firstOf nc_St_firstOf 2 (some .int) ∈ rl_TT := rl_tin 302 (by decide +kernel) rfl
theorem nm_im_St_firstOf : Cond.instanceMethod ny_St_firstOf ∈ rl_TT := rl_tin 300 (by decide +kernel) rfl
theorem nm_se_St_firstOf : Cond.selects nR_St ny_St_firstOf ny_St_firstOf ∈ rl_TT := rl_tin 301 (by decide +kernel) rfl
theorem nm_Pl_149 : Cond.methodLink nR_Pl 149 ny_St_secondOf ∈ rl_TT := rl_tin 303 (by decide +kernel) rfl
theorem nh_St_secondOf : Cond.code ny_St_secondOf nc_St_secondOf 2 (some .int) ∈ rl_TT := rl_tin 306 (by decide +kernel) rfl
theorem nm_im_St_secondOf : Cond.instanceMethod ny_St_secondOf ∈ rl_TT := rl_tin 304 (by decide +kernel) rfl
theorem nm_se_St_secondOf : Cond.selects nR_St ny_St_secondOf ny_St_secondOf ∈ rl_TT := rl_tin 305 (by decide +kernel) rfl
theorem nm_Pl_152 : Cond.methodLink nR_Pl 152 ny_St_signAt ∈ rl_TT := rl_tin 308 (by decide +kernel) rfl
theorem nm_Pl_159 : Cond.methodLink nR_Pl 159 ny_Cu_joinAbove ∈ rl_TT := rl_tin 324 (by decide +kernel) rfl
theorem nh_Cu_joinAbove : Cond.code ny_Cu_joinAbove nc_Cu_joinAbove 7 none ∈ rl_TT := rl_tin 327 (by decide +kernel) rfl
theorem nm_im_Cu_joinAbove : Cond.instanceMethod ny_Cu_joinAbove ∈ rl_TT := rl_tin 325 (by decide +kernel) rfl
theorem nm_se_Cu_joinAbove : Cond.selects nR_Cu ny_Cu_joinAbove ny_Cu_joinAbove ∈ rl_TT := rl_tin 326 (by decide +kernel) rfl
theorem nm_Pl_155 : Cond.methodLink nR_Pl 155 ny_Cu_joinBeside ∈ rl_TT := rl_tin 309 (by decide +kernel) rfl
theorem nh_Cu_joinBeside : Cond.code ny_Cu_joinBeside nc_Cu_joinBeside 7 none ∈ rl_TT := rl_tin 312 (by decide +kernel) rfl
theorem nm_im_Cu_joinBeside : Cond.instanceMethod ny_Cu_joinBeside ∈ rl_TT := rl_tin 310 (by decide +kernel) rfl
theorem nm_se_Cu_joinBeside : Cond.selects nR_Cu ny_Cu_joinBeside ny_Cu_joinBeside ∈ rl_TT := rl_tin 311 (by decide +kernel) rfl
theorem nf_Rl_15 : Cond.fieldLink nR_Rl 15 (nT_Rl 1).1 (nT_Rl 1).2.1 (nT_Rl 1).2.2.1 ∈ rl_TT := rl_tin 87 (by decide +kernel) rfl
theorem nm_Rl_29 : Cond.methodLink nR_Rl 29 ny_Rl_slot ∈ rl_TT := rl_tin 342 (by decide +kernel) rfl
theorem nm_ini_Rl : Cond.initialized nR_Rl ∈ rl_TT := rl_tin 38 (by decide +kernel) rfl
theorem nh_Rl_slot : Cond.code ny_Rl_slot nc_Rl_slot 3 (some .int) ∈ rl_TT := rl_tin 344 (by decide +kernel) rfl
theorem nm_st_Rl_slot : Cond.static ny_Rl_slot ∈ rl_TT := rl_tin 343 (by decide +kernel) rfl
theorem nf_Rl_19 : Cond.fieldLink nR_Rl 19 (nT_Rl 2).1 (nT_Rl 2).2.1 (nT_Rl 2).2.2.1 ∈ rl_TT := rl_tin 88 (by decide +kernel) rfl
theorem nf_Rl_22 : Cond.fieldLink nR_Rl 22 (nT_Rl 3).1 (nT_Rl 3).2.1 (nT_Rl 3).2.2.1 ∈ rl_TT := rl_tin 89 (by decide +kernel) rfl
theorem nm_Pl_124 : Cond.methodLink nR_Pl 124 ny_Cu_clear ∈ rl_TT := rl_tin 336 (by decide +kernel) rfl
theorem nf_Pl_12 : Cond.fieldLink nR_Pl 12 (nT_Pl 0).1 (nT_Pl 0).2.1 (nT_Pl 0).2.2.1 ∈ rl_TT := rl_tin 149 (by decide +kernel) rfl
theorem nm_Pl_134 : Cond.methodLink nR_Pl 134 ny_Rl_sizesOf ∈ rl_TT := rl_tin 337 (by decide +kernel) rfl
theorem nh_Rl_sizesOf : Cond.code ny_Rl_sizesOf nc_Rl_sizesOf 2 (some .int) ∈ rl_TT := rl_tin 245 (by decide +kernel) rfl
theorem nm_im_Rl_sizesOf : Cond.instanceMethod ny_Rl_sizesOf ∈ rl_TT := rl_tin 243 (by decide +kernel) rfl
theorem nm_se_Rl_sizesOf : Cond.selects nR_Rl ny_Rl_sizesOf ny_Rl_sizesOf ∈ rl_TT := rl_tin 244 (by decide +kernel) rfl
theorem nm_Pl_137 : Cond.methodLink nR_Pl 137 ny_Rl_widthOf ∈ rl_TT := rl_tin 338 (by decide +kernel) rfl
theorem nh_Rl_widthOf : Cond.code ny_Rl_widthOf nc_Rl_widthOf 4 (some .int) ∈ rl_TT := rl_tin 341 (by decide +kernel) rfl
theorem nm_im_Rl_widthOf : Cond.instanceMethod ny_Rl_widthOf ∈ rl_TT := rl_tin 339 (by decide +kernel) rfl
theorem nm_se_Rl_widthOf : Cond.selects nR_Rl ny_Rl_widthOf ny_Rl_widthOf ∈ rl_TT := rl_tin 340 (by decide +kernel) rfl
theorem nm_Pl_140 : Cond.methodLink nR_Pl 140 ny_Rl_heightOf ∈ rl_TT := rl_tin 345 (by decide +kernel) rfl
theorem nh_Rl_heightOf : Cond.code ny_Rl_heightOf nc_Rl_heightOf 4 (some .int) ∈ rl_TT := rl_tin 348 (by decide +kernel) rfl
theorem nm_im_Rl_heightOf : Cond.instanceMethod ny_Rl_heightOf ∈ rl_TT := rl_tin 346 (by decide +kernel) rfl
theorem nm_se_Rl_heightOf : Cond.selects nR_Rl ny_Rl_heightOf ny_Rl_heightOf ∈ rl_TT := rl_tin 347 (by decide +kernel) rfl
theorem nm_Pl_143 : Cond.methodLink nR_Pl 143 ny_Cu_offer ∈ rl_TT := rl_tin 349 (by decide +kernel) rfl
theorem nh_Cu_offer : Cond.code ny_Cu_offer nc_Cu_offer 4 none ∈ rl_TT := rl_tin 352 (by decide +kernel) rfl
theorem nm_im_Cu_offer : Cond.instanceMethod ny_Cu_offer ∈ rl_TT := rl_tin 350 (by decide +kernel) rfl
theorem nm_se_Cu_offer : Cond.selects nR_Cu ny_Cu_offer ny_Cu_offer ∈ rl_TT := rl_tin 351 (by decide +kernel) rfl
theorem nf_Pl_110 : Cond.fieldLink nR_Pl 110 (nT_St 0).1 (nT_St 0).2.1 (nT_St 0).2.2.1 ∈ rl_TT := rl_tin 110 (by decide +kernel) rfl
theorem nm_Pl_113 : Cond.methodLink nR_Pl 113 ny_St_roomAt ∈ rl_TT := rl_tin 283 (by decide +kernel) rfl
theorem nh_St_roomAt : Cond.code ny_St_roomAt nc_St_roomAt 2 (some .int) ∈ rl_TT := rl_tin 286 (by decide +kernel) rfl
theorem nm_im_St_roomAt : Cond.instanceMethod ny_St_roomAt ∈ rl_TT := rl_tin 284 (by decide +kernel) rfl
theorem nm_se_St_roomAt : Cond.selects nR_St ny_St_roomAt ny_St_roomAt ∈ rl_TT := rl_tin 285 (by decide +kernel) rfl
theorem nm_Pl_120 : Cond.methodLink nR_Pl 120 ny_Pl_takeSizes ∈ rl_TT := rl_tin 332 (by decide +kernel) rfl
theorem nh_Pl_takeSizes : Cond.code ny_Pl_takeSizes nc_Pl_takeSizes 4 none ∈ rl_TT := rl_tin 335 (by decide +kernel) rfl
theorem nm_im_Pl_takeSizes : Cond.instanceMethod ny_Pl_takeSizes ∈ rl_TT := rl_tin 334 (by decide +kernel) rfl
theorem nm_se_Pl_takeSizes : Cond.selects nR_Pl ny_Pl_takeSizes ny_Pl_takeSizes ∈ rl_TT := rl_tin 5 (by decide +kernel) rfl
theorem nm_Pl_116 : Cond.methodLink nR_Pl 116 ny_Pl_join ∈ rl_TT := rl_tin 295 (by decide +kernel) rfl
theorem nh_Pl_join : Cond.code ny_Pl_join nc_Pl_join 4 none ∈ rl_TT := rl_tin 298 (by decide +kernel) rfl
theorem nm_im_Pl_join : Cond.instanceMethod ny_Pl_join ∈ rl_TT := rl_tin 297 (by decide +kernel) rfl
theorem nm_se_Pl_join : Cond.selects nR_Pl ny_Pl_join ny_Pl_join ∈ rl_TT := rl_tin 3 (by decide +kernel) rfl
theorem nm_Pl_131 : Cond.methodLink nR_Pl 131 ny_Cu_leastArea ∈ rl_TT := rl_tin 365 (by decide +kernel) rfl
theorem nh_Cu_leastArea : Cond.code ny_Cu_leastArea nc_Cu_leastArea 4 (some .int) ∈ rl_TT := rl_tin 368 (by decide +kernel) rfl
theorem nm_im_Cu_leastArea : Cond.instanceMethod ny_Cu_leastArea ∈ rl_TT := rl_tin 366 (by decide +kernel) rfl
theorem nm_se_Cu_leastArea : Cond.selects nR_Cu ny_Cu_leastArea ny_Cu_leastArea ∈ rl_TT := rl_tin 367 (by decide +kernel) rfl
theorem nm_Pl_127 : Cond.methodLink nR_Pl 127 ny_Cu_takeFitting ∈ rl_TT := rl_tin 361 (by decide +kernel) rfl
theorem nh_Cu_takeFitting : Cond.code ny_Cu_takeFitting nc_Cu_takeFitting 5 none ∈ rl_TT := rl_tin 364 (by decide +kernel) rfl
theorem nm_im_Cu_takeFitting : Cond.instanceMethod ny_Cu_takeFitting ∈ rl_TT := rl_tin 362 (by decide +kernel) rfl
theorem nm_se_Cu_takeFitting : Cond.selects nR_Cu ny_Cu_takeFitting ny_Cu_takeFitting ∈ rl_TT := rl_tin 363 (by decide +kernel) rfl
theorem nf_St_25 : Cond.fieldLink nR_St 25 (nT_St 4).1 (nT_St 4).2.1 (nT_St 4).2.2.1 ∈ rl_TT := rl_tin 114 (by decide +kernel) rfl
theorem nm_Pl_180 : Cond.methodLink nR_Pl 180 ny_Cu_append ∈ rl_TT := rl_tin 402 (by decide +kernel) rfl
theorem nm_Pl_183 : Cond.methodLink nR_Pl 183 ny_St_parentOf ∈ rl_TT := rl_tin 403 (by decide +kernel) rfl
theorem nh_St_parentOf : Cond.code ny_St_parentOf nc_St_parentOf 2 (some .int) ∈ rl_TT := rl_tin 406 (by decide +kernel) rfl
theorem nm_im_St_parentOf : Cond.instanceMethod ny_St_parentOf ∈ rl_TT := rl_tin 404 (by decide +kernel) rfl
theorem nm_se_St_parentOf : Cond.selects nR_St ny_St_parentOf ny_St_parentOf ∈ rl_TT := rl_tin 405 (by decide +kernel) rfl
theorem nm_Pl_172 : Cond.methodLink nR_Pl 172 ny_Pl_pin ∈ rl_TT := rl_tin 398 (by decide +kernel) rfl
theorem nh_Pl_pin : Cond.code ny_Pl_pin nc_Pl_pin 6 none ∈ rl_TT := rl_tin 401 (by decide +kernel) rfl
theorem nm_im_Pl_pin : Cond.instanceMethod ny_Pl_pin ∈ rl_TT := rl_tin 400 (by decide +kernel) rfl
theorem nm_se_Pl_pin : Cond.selects nR_Pl ny_Pl_pin ny_Pl_pin ∈ rl_TT := rl_tin 8 (by decide +kernel) rfl
theorem nm_Pl_176 : Cond.methodLink nR_Pl 176 ny_Cu_hasWithin ∈ rl_TT := rl_tin 407 (by decide +kernel) rfl
theorem nm_Pl_186 : Cond.methodLink nR_Pl 186 ny_Pl_setCornersOfParts ∈ rl_TT := rl_tin 412 (by decide +kernel) rfl
theorem nh_Pl_setCornersOfParts : Cond.code ny_Pl_setCornersOfParts nc_Pl_setCornersOfParts 5 none ∈ rl_TT := rl_tin 415 (by decide +kernel) rfl
theorem nm_im_Pl_setCornersOfParts : Cond.instanceMethod ny_Pl_setCornersOfParts ∈ rl_TT := rl_tin 414 (by decide +kernel) rfl
theorem nm_se_Pl_setCornersOfParts : Cond.selects nR_Pl ny_Pl_setCornersOfParts ny_Pl_setCornersOfParts ∈ rl_TT := rl_tin 10 (by decide +kernel) rfl
theorem nm_Pl_162 : Cond.methodLink nR_Pl 162 ny_Pl_measure ∈ rl_TT := rl_tin 279 (by decide +kernel) rfl
theorem nh_Pl_measure : Cond.code ny_Pl_measure nc_Pl_measure 3 none ∈ rl_TT := rl_tin 282 (by decide +kernel) rfl
theorem nm_im_Pl_measure : Cond.instanceMethod ny_Pl_measure ∈ rl_TT := rl_tin 280 (by decide +kernel) rfl
theorem nm_se_Pl_measure : Cond.selects nR_Pl ny_Pl_measure ny_Pl_measure ∈ rl_TT := rl_tin 281 (by decide +kernel) rfl
theorem nf_Pl_165 : Cond.fieldLink nR_Pl 165 (nT_Rl 0).1 (nT_Rl 0).2.1 (nT_Rl 0).2.2.1 ∈ rl_TT := rl_tin 86 (by decide +kernel) rfl
theorem nm_Pl_166 : Cond.methodLink nR_Pl 166 ny_Pl_chooseFirstSize ∈ rl_TT := rl_tin 378 (by decide +kernel) rfl
theorem nh_Pl_chooseFirstSize : Cond.code ny_Pl_chooseFirstSize nc_Pl_chooseFirstSize 8 none ∈ rl_TT := rl_tin 381 (by decide +kernel) rfl
theorem nm_im_Pl_chooseFirstSize : Cond.instanceMethod ny_Pl_chooseFirstSize ∈ rl_TT := rl_tin 380 (by decide +kernel) rfl
theorem nm_se_Pl_chooseFirstSize : Cond.selects nR_Pl ny_Pl_chooseFirstSize ny_Pl_chooseFirstSize ∈ rl_TT := rl_tin 7 (by decide +kernel) rfl
theorem nm_Pl_169 : Cond.methodLink nR_Pl 169 ny_Pl_setCorners ∈ rl_TT := rl_tin 408 (by decide +kernel) rfl
theorem nh_Pl_setCorners : Cond.code ny_Pl_setCorners nc_Pl_setCorners 3 none ∈ rl_TT := rl_tin 411 (by decide +kernel) rfl
theorem nm_im_Pl_setCorners : Cond.instanceMethod ny_Pl_setCorners ∈ rl_TT := rl_tin 410 (by decide +kernel) rfl
theorem nm_se_Pl_setCorners : Cond.selects nR_Pl ny_Pl_setCorners ny_Pl_setCorners ∈ rl_TT := rl_tin 9 (by decide +kernel) rfl
theorem nf_Rl_9 : Cond.fieldLink nR_Rl 9 (nT_Rl 0).1 (nT_Rl 0).2.1 (nT_Rl 0).2.2.1 ∈ rl_TT := rl_tin 84 (by decide +kernel) rfl
theorem nm_Rl_25 : Cond.methodLink nR_Rl 25 ny_Rl_sizesOf ∈ rl_TT := rl_tin 586 (by decide +kernel) rfl
theorem nf_Sr_9 : Cond.fieldLink nR_Sr 9 (nT_Sr 0).1 (nT_Sr 0).2.1 (nT_Sr 0).2.2.1 ∈ rl_TT := rl_tin 63 (by decide +kernel) rfl
theorem nf_Sr_15 : Cond.fieldLink nR_Sr 15 (nT_Sr 1).1 (nT_Sr 1).2.1 (nT_Sr 1).2.2.1 ∈ rl_TT := rl_tin 65 (by decide +kernel) rfl
theorem nm_Sr_19 : Cond.methodLink nR_Sr 19 ny_Sr_signAt ∈ rl_TT := rl_tin 235 (by decide +kernel) rfl
theorem nm_ini_Sr : Cond.initialized nR_Sr ∈ rl_TT := rl_tin 36 (by decide +kernel) rfl
theorem nh_Sr_signAt : Cond.code ny_Sr_signAt nc_Sr_signAt 2 (some .int) ∈ rl_TT := rl_tin 238 (by decide +kernel) rfl
theorem nm_im_Sr_signAt : Cond.instanceMethod ny_Sr_signAt ∈ rl_TT := rl_tin 236 (by decide +kernel) rfl
theorem nm_se_Sr_signAt : Cond.selects nR_Sr ny_Sr_signAt ny_Sr_signAt ∈ rl_TT := rl_tin 237 (by decide +kernel) rfl
theorem nh_Ro_joins : Cond.code ny_Ro_joins nc_Ro_joins 1 (some .boolean) ∈ rl_TT := rl_tin 248 (by decide +kernel) rfl
theorem nm_st_Ro_joins : Cond.static ny_Ro_joins ∈ rl_TT := rl_tin 247 (by decide +kernel) rfl
theorem nm_Sr_26 : Cond.methodLink nR_Sr 26 ny_Rl_sizesOf ∈ rl_TT := rl_tin 242 (by decide +kernel) rfl
theorem nf_St_37 : Cond.fieldLink nR_St 37 (nT_Sr 0).1 (nT_Sr 0).2.1 (nT_Sr 0).2.2.1 ∈ rl_TT := rl_tin 64 (by decide +kernel) rfl
theorem nm_St_40 : Cond.methodLink nR_St 40 Lib.Math.min.name ∈ rl_TT := rl_tin 253 (by decide +kernel) rfl
theorem nm_St_34 : Cond.methodLink nR_St 34 ny_St_forgetRooms ∈ rl_TT := rl_tin 105 (by decide +kernel) rfl
theorem nh_St_forgetRooms : Cond.code ny_St_forgetRooms nc_St_forgetRooms 2 none ∈ rl_TT := rl_tin 108 (by decide +kernel) rfl
theorem nm_im_St_forgetRooms : Cond.instanceMethod ny_St_forgetRooms ∈ rl_TT := rl_tin 107 (by decide +kernel) rfl
theorem nm_se_St_forgetRooms : Cond.selects nR_St ny_St_forgetRooms ny_St_forgetRooms ∈ rl_TT := rl_tin 0 (by decide +kernel) rfl
theorem nm_St_46 : Cond.methodLink nR_St 46 ny_Sr_signAt ∈ rl_TT := rl_tin 256 (by decide +kernel) rfl
theorem nm_St_50 : Cond.methodLink nR_St 50 ny_St_setSign ∈ rl_TT := rl_tin 257 (by decide +kernel) rfl
theorem nh_St_setSign : Cond.code ny_St_setSign nc_St_setSign 4 none ∈ rl_TT := rl_tin 260 (by decide +kernel) rfl
theorem nm_im_St_setSign : Cond.instanceMethod ny_St_setSign ∈ rl_TT := rl_tin 259 (by decide +kernel) rfl
theorem nm_se_St_setSign : Cond.selects nR_St ny_St_setSign ny_St_setSign ∈ rl_TT := rl_tin 1 (by decide +kernel) rfl
theorem nf_St_28 : Cond.fieldLink nR_St 28 (nT_St 5).1 (nT_St 5).2.1 (nT_St 5).2.2.1 ∈ rl_TT := rl_tin 115 (by decide +kernel) rfl
theorem nm_St_58 : Cond.methodLink nR_St 58 ny_St_link ∈ rl_TT := rl_tin 263 (by decide +kernel) rfl
theorem nh_St_link : Cond.code ny_St_link nc_St_link 4 none ∈ rl_TT := rl_tin 266 (by decide +kernel) rfl
theorem nm_im_St_link : Cond.instanceMethod ny_St_link ∈ rl_TT := rl_tin 265 (by decide +kernel) rfl
theorem nm_se_St_link : Cond.selects nR_St ny_St_link ny_St_link ∈ rl_TT := rl_tin 2 (by decide +kernel) rfl
theorem nm_St_69 : Cond.methodLink nR_St 69 ny_St_nodeOf ∈ rl_TT := rl_tin 466 (by decide +kernel) rfl
theorem nm_St_72 : Cond.methodLink nR_St 72 ny_St_giveNode ∈ rl_TT := rl_tin 467 (by decide +kernel) rfl
theorem nh_St_giveNode : Cond.code ny_St_giveNode nc_St_giveNode 3 none ∈ rl_TT := rl_tin 470 (by decide +kernel) rfl
theorem nm_im_St_giveNode : Cond.instanceMethod ny_St_giveNode ∈ rl_TT := rl_tin 469 (by decide +kernel) rfl
theorem nm_se_St_giveNode : Cond.selects nR_St ny_St_giveNode ny_St_giveNode ∈ rl_TT := rl_tin 16 (by decide +kernel) rfl
theorem nf_Wl_9 : Cond.fieldLink nR_Wl 9 (nT_Wl 0).1 (nT_Wl 0).2.1 (nT_Wl 0).2.2.1 ∈ rl_TT := rl_tin 195 (by decide +kernel) rfl
theorem nf_Wl_15 : Cond.fieldLink nR_Wl 15 (nT_Wl 1).1 (nT_Wl 1).2.1 (nT_Wl 1).2.2.1 ∈ rl_TT := rl_tin 197 (by decide +kernel) rfl
theorem nf_Wl_19 : Cond.fieldLink nR_Wl 19 (nT_Wl 2).1 (nT_Wl 2).2.1 (nT_Wl 2).2.2.1 ∈ rl_TT := rl_tin 198 (by decide +kernel) rfl
theorem nf_Wl_22 : Cond.fieldLink nR_Wl 22 (nT_Wl 3).1 (nT_Wl 3).2.1 (nT_Wl 3).2.2.1 ∈ rl_TT := rl_tin 199 (by decide +kernel) rfl
theorem nm_Wl_25 : Cond.methodLink nR_Wl 25 ny_Pl_sharedWall ∈ rl_TT := rl_tin 432 (by decide +kernel) rfl
theorem nh_Pl_sharedWall : Cond.code ny_Pl_sharedWall nc_Pl_sharedWall 10 (some .int) ∈ rl_TT := rl_tin 435 (by decide +kernel) rfl
theorem nm_im_Pl_sharedWall : Cond.instanceMethod ny_Pl_sharedWall ∈ rl_TT := rl_tin 433 (by decide +kernel) rfl
theorem nm_se_Pl_sharedWall : Cond.selects nR_Pl ny_Pl_sharedWall ny_Pl_sharedWall ∈ rl_TT := rl_tin 434 (by decide +kernel) rfl
theorem nm_Wl_31 : Cond.methodLink nR_Wl 31 ny_Wl_isMetIn ∈ rl_TT := rl_tin 428 (by decide +kernel) rfl
theorem nm_ini_Wl : Cond.initialized nR_Wl ∈ rl_TT := rl_tin 41 (by decide +kernel) rfl
theorem nh_Wl_isMetIn : Cond.code ny_Wl_isMetIn nc_Wl_isMetIn 3 (some .boolean) ∈ rl_TT := rl_tin 431 (by decide +kernel) rfl
theorem nm_im_Wl_isMetIn : Cond.instanceMethod ny_Wl_isMetIn ∈ rl_TT := rl_tin 429 (by decide +kernel) rfl
theorem nm_se_Wl_isMetIn : Cond.selects nR_Wl ny_Wl_isMetIn ny_Wl_isMetIn ∈ rl_TT := rl_tin 430 (by decide +kernel) rfl
theorem nf_Ro_12 : Cond.fieldLink nR_Ro 12 (nT_Ro 0).1 (nT_Ro 0).2.1 (nT_Ro 0).2.2.1 ∈ rl_TT := rl_tin 209 (by decide +kernel) rfl
theorem nm_Ro_76 : Cond.methodLink nR_Ro 76 ny_Sr_clear ∈ rl_TT := rl_tin 223 (by decide +kernel) rfl
theorem nh_Sr_clear : Cond.code ny_Sr_clear nc_Sr_clear 1 none ∈ rl_TT := rl_tin 226 (by decide +kernel) rfl
theorem nm_im_Sr_clear : Cond.instanceMethod ny_Sr_clear ∈ rl_TT := rl_tin 224 (by decide +kernel) rfl
theorem nm_se_Sr_clear : Cond.selects nR_Sr ny_Sr_clear ny_Sr_clear ∈ rl_TT := rl_tin 225 (by decide +kernel) rfl
theorem nm_Ro_79 : Cond.methodLink nR_Ro 79 ny_Sr_addBytes ∈ rl_TT := rl_tin 227 (by decide +kernel) rfl
theorem nh_Sr_addBytes : Cond.code ny_Sr_addBytes nc_Sr_addBytes 5 none ∈ rl_TT := rl_tin 230 (by decide +kernel) rfl
theorem nm_im_Sr_addBytes : Cond.instanceMethod ny_Sr_addBytes ∈ rl_TT := rl_tin 228 (by decide +kernel) rfl
theorem nm_se_Sr_addBytes : Cond.selects nR_Sr ny_Sr_addBytes ny_Sr_addBytes ∈ rl_TT := rl_tin 229 (by decide +kernel) rfl
theorem nf_Ro_19 : Cond.fieldLink nR_Ro 19 (nT_Ro 1).1 (nT_Ro 1).2.1 (nT_Ro 1).2.2.1 ∈ rl_TT := rl_tin 210 (by decide +kernel) rfl
theorem nf_Ro_30 : Cond.fieldLink nR_Ro 30 (nT_Pl 0).1 (nT_Pl 0).2.1 (nT_Pl 0).2.2.1 ∈ rl_TT := rl_tin 150 (by decide +kernel) rfl
theorem nm_Ro_83 : Cond.methodLink nR_Ro 83 ny_Sr_firstFault ∈ rl_TT := rl_tin 231 (by decide +kernel) rfl
theorem nh_Sr_firstFault : Cond.code ny_Sr_firstFault nc_Sr_firstFault 7 (some .int) ∈ rl_TT := rl_tin 234 (by decide +kernel) rfl
theorem nm_im_Sr_firstFault : Cond.instanceMethod ny_Sr_firstFault ∈ rl_TT := rl_tin 232 (by decide +kernel) rfl
theorem nm_se_Sr_firstFault : Cond.selects nR_Sr ny_Sr_firstFault ny_Sr_firstFault ∈ rl_TT := rl_tin 233 (by decide +kernel) rfl
theorem nf_Ro_87 : Cond.fieldLink nR_Ro 87 (nT_Pl 1).1 (nT_Pl 1).2.1 (nT_Pl 1).2.2.1 ∈ rl_TT := rl_tin 152 (by decide +kernel) rfl
theorem nm_Ro_91 : Cond.methodLink nR_Ro 91 ny_St_build ∈ rl_TT := rl_tin 249 (by decide +kernel) rfl
theorem nh_St_build : Cond.code ny_St_build nc_St_build 4 none ∈ rl_TT := rl_tin 252 (by decide +kernel) rfl
theorem nm_im_St_build : Cond.instanceMethod ny_St_build ∈ rl_TT := rl_tin 250 (by decide +kernel) rfl
theorem nm_se_St_build : Cond.selects nR_St ny_St_build ny_St_build ∈ rl_TT := rl_tin 251 (by decide +kernel) rfl
theorem nm_Ro_65 : Cond.methodLink nR_Ro 65 ny_Pl_forget ∈ rl_TT := rl_tin 267 (by decide +kernel) rfl
theorem nm_Ro_113 : Cond.methodLink nR_Ro 113 ny_Pl_settle ∈ rl_TT := rl_tin 275 (by decide +kernel) rfl
theorem nh_Pl_settle : Cond.code ny_Pl_settle nc_Pl_settle 2 none ∈ rl_TT := rl_tin 278 (by decide +kernel) rfl
theorem nm_im_Pl_settle : Cond.instanceMethod ny_Pl_settle ∈ rl_TT := rl_tin 276 (by decide +kernel) rfl
theorem nm_se_Pl_settle : Cond.selects nR_Pl ny_Pl_settle ny_Pl_settle ∈ rl_TT := rl_tin 277 (by decide +kernel) rfl
theorem nf_Ro_26 : Cond.fieldLink nR_Ro 26 (nT_Ro 2).1 (nT_Ro 2).2.1 (nT_Ro 2).2.2.1 ∈ rl_TT := rl_tin 211 (by decide +kernel) rfl
theorem nm_Ro_151 : Cond.methodLink nR_Ro 151 ny_Wl_countMetIn ∈ rl_TT := rl_tin 424 (by decide +kernel) rfl
theorem nh_Wl_countMetIn : Cond.code ny_Wl_countMetIn nc_Wl_countMetIn 4 (some .int) ∈ rl_TT := rl_tin 427 (by decide +kernel) rfl
theorem nm_im_Wl_countMetIn : Cond.instanceMethod ny_Wl_countMetIn ∈ rl_TT := rl_tin 425 (by decide +kernel) rfl
theorem nm_se_Wl_countMetIn : Cond.selects nR_Wl ny_Wl_countMetIn ny_Wl_countMetIn ∈ rl_TT := rl_tin 426 (by decide +kernel) rfl
theorem nm_Ro_59 : Cond.methodLink nR_Ro 59 ny_Rl_sizesOf ∈ rl_TT := rl_tin 456 (by decide +kernel) rfl
theorem nm_Ro_165 : Cond.methodLink nR_Ro 165 ny_St_nodeOf ∈ rl_TT := rl_tin 457 (by decide +kernel) rfl
theorem nm_Ro_168 : Cond.methodLink nR_Ro 168 ny_St_exchange ∈ rl_TT := rl_tin 462 (by decide +kernel) rfl
theorem nh_St_exchange : Cond.code ny_St_exchange nc_St_exchange 5 none ∈ rl_TT := rl_tin 465 (by decide +kernel) rfl
theorem nm_im_St_exchange : Cond.instanceMethod ny_St_exchange ∈ rl_TT := rl_tin 463 (by decide +kernel) rfl
theorem nm_se_St_exchange : Cond.selects nR_St ny_St_exchange ny_St_exchange ∈ rl_TT := rl_tin 464 (by decide +kernel) rfl
theorem nf_Ro_141 : Cond.fieldLink nR_Ro 141 (nT_Wl 0).1 (nT_Wl 0).2.1 (nT_Wl 0).2.2.1 ∈ rl_TT := rl_tin 196 (by decide +kernel) rfl
theorem nm_Ro_97 : Cond.methodLink nR_Ro 97 ny_Pl_measure ∈ rl_TT := rl_tin 446 (by decide +kernel) rfl
theorem nm_Ro_104 : Cond.methodLink nR_Ro 104 ny_Pl_bestArea ∈ rl_TT := rl_tin 447 (by decide +kernel) rfl
theorem nh_Pl_bestArea : Cond.code ny_Pl_bestArea nc_Pl_bestArea 1 (some .int) ∈ rl_TT := rl_tin 450 (by decide +kernel) rfl
theorem nm_im_Pl_bestArea : Cond.instanceMethod ny_Pl_bestArea ∈ rl_TT := rl_tin 448 (by decide +kernel) rfl
theorem nm_se_Pl_bestArea : Cond.selects nR_Pl ny_Pl_bestArea ny_Pl_bestArea ∈ rl_TT := rl_tin 449 (by decide +kernel) rfl
theorem nf_Ro_34 : Cond.fieldLink nR_Ro 34 (nT_Rl 0).1 (nT_Rl 0).2.1 (nT_Rl 0).2.2.1 ∈ rl_TT := rl_tin 85 (by decide +kernel) rfl
theorem nm_Ro_155 : Cond.methodLink nR_Ro 155 ny_Ro_canExchange ∈ rl_TT := rl_tin 452 (by decide +kernel) rfl
theorem nh_Ro_canExchange : Cond.code ny_Ro_canExchange nc_Ro_canExchange 3 (some .boolean) ∈ rl_TT := rl_tin 455 (by decide +kernel) rfl
theorem nm_im_Ro_canExchange : Cond.instanceMethod ny_Ro_canExchange ∈ rl_TT := rl_tin 454 (by decide +kernel) rfl
theorem nm_se_Ro_canExchange : Cond.selects nR_Ro ny_Ro_canExchange ny_Ro_canExchange ∈ rl_TT := rl_tin 14 (by decide +kernel) rfl
theorem nm_Ro_159 : Cond.methodLink nR_Ro 159 ny_Ro_changePlaces ∈ rl_TT := rl_tin 458 (by decide +kernel) rfl
theorem nh_Ro_changePlaces : Cond.code ny_Ro_changePlaces nc_Ro_changePlaces 3 none ∈ rl_TT := rl_tin 461 (by decide +kernel) rfl
theorem nm_im_Ro_changePlaces : Cond.instanceMethod ny_Ro_changePlaces ∈ rl_TT := rl_tin 460 (by decide +kernel) rfl
theorem nm_se_Ro_changePlaces : Cond.selects nR_Ro ny_Ro_changePlaces ny_Ro_changePlaces ∈ rl_TT := rl_tin 15 (by decide +kernel) rfl
theorem nf_Mo_71 : Cond.fieldLink nR_Mo 71 (nT_Mo 0).1 (nT_Mo 0).2.1 (nT_Mo 0).2.2.1 ∈ rl_TT := rl_tin 687 (by decide +kernel) rfl
theorem nf_Mo_74 : Cond.fieldLink nR_Mo 74 (nT_Mo 1).1 (nT_Mo 1).2.1 (nT_Mo 1).2.2.1 ∈ rl_TT := rl_tin 688 (by decide +kernel) rfl
theorem nm_Mo_77 : Cond.methodLink nR_Mo 77 ny_Mo_isRoom ∈ rl_TT := rl_tin 781 (by decide +kernel) rfl
theorem nm_ini_Mo : Cond.initialized nR_Mo ∈ rl_TT := rl_tin 42 (by decide +kernel) rfl
theorem nh_Mo_isRoom : Cond.code ny_Mo_isRoom nc_Mo_isRoom 2 (some .boolean) ∈ rl_TT := rl_tin 784 (by decide +kernel) rfl
theorem nm_im_Mo_isRoom : Cond.instanceMethod ny_Mo_isRoom ∈ rl_TT := rl_tin 783 (by decide +kernel) rfl
theorem nm_se_Mo_isRoom : Cond.selects nR_Mo ny_Mo_isRoom ny_Mo_isRoom ∈ rl_TT := rl_tin 20 (by decide +kernel) rfl
theorem nf_Mo_13 : Cond.fieldLink nR_Mo 13 (nT_Mo 3).1 (nT_Mo 3).2.1 (nT_Mo 3).2.2.1 ∈ rl_TT := rl_tin 690 (by decide +kernel) rfl
theorem nf_Mo_7 : Cond.fieldLink nR_Mo 7 (nT_Mo 2).1 (nT_Mo 2).2.1 (nT_Mo 2).2.2.1 ∈ rl_TT := rl_tin 689 (by decide +kernel) rfl
theorem nf_Mo_16 : Cond.fieldLink nR_Mo 16 (nT_Mo 4).1 (nT_Mo 4).2.1 (nT_Mo 4).2.2.1 ∈ rl_TT := rl_tin 691 (by decide +kernel) rfl
theorem nm_Mo_81 : Cond.methodLink nR_Mo 81 ny_Mo_isIn ∈ rl_TT := rl_tin 785 (by decide +kernel) rfl
theorem nh_Mo_isIn : Cond.code ny_Mo_isIn nc_Mo_isIn 3 (some .boolean) ∈ rl_TT := rl_tin 787 (by decide +kernel) rfl
theorem nm_st_Mo_isIn : Cond.static ny_Mo_isIn ∈ rl_TT := rl_tin 786 (by decide +kernel) rfl
theorem nf_Mo_19 : Cond.fieldLink nR_Mo 19 (nT_Mo 5).1 (nT_Mo 5).2.1 (nT_Mo 5).2.2.1 ∈ rl_TT := rl_tin 692 (by decide +kernel) rfl
theorem nf_Mo_23 : Cond.fieldLink nR_Mo 23 (nT_Mo 6).1 (nT_Mo 6).2.1 (nT_Mo 6).2.2.1 ∈ rl_TT := rl_tin 693 (by decide +kernel) rfl
theorem nk_Mo_85 : Cond.constantLong nR_Mo 85 255 ∈ rl_TT := rl_tin 800 (by decide +kernel) rfl
theorem nf_Mo_68 : Cond.fieldLink nR_Mo 68 (nT_Mo 26).1 (nT_Mo 26).2.1 (nT_Mo 26).2.2.1 ∈ rl_TT := rl_tin 713 (by decide +kernel) rfl
theorem nm_Mo_87 : Cond.methodLink nR_Mo 87 ny_Mo_gather ∈ rl_TT := rl_tin 796 (by decide +kernel) rfl
theorem nh_Mo_gather : Cond.code ny_Mo_gather nc_Mo_gather 7 (some .int) ∈ rl_TT := rl_tin 799 (by decide +kernel) rfl
theorem nm_im_Mo_gather : Cond.instanceMethod ny_Mo_gather ∈ rl_TT := rl_tin 798 (by decide +kernel) rfl
theorem nm_se_Mo_gather : Cond.selects nR_Mo ny_Mo_gather ny_Mo_gather ∈ rl_TT := rl_tin 21 (by decide +kernel) rfl
theorem nf_Mo_91 : Cond.fieldLink nR_Mo 91 (nT_Mo 7).1 (nT_Mo 7).2.1 (nT_Mo 7).2.2.1 ∈ rl_TT := rl_tin 694 (by decide +kernel) rfl
theorem nf_Mo_26 : Cond.fieldLink nR_Mo 26 (nT_Mo 8).1 (nT_Mo 8).2.1 (nT_Mo 8).2.2.1 ∈ rl_TT := rl_tin 695 (by decide +kernel) rfl
theorem nf_Mo_62 : Cond.fieldLink nR_Mo 62 (nT_Mo 24).1 (nT_Mo 24).2.1 (nT_Mo 24).2.2.1 ∈ rl_TT := rl_tin 711 (by decide +kernel) rfl
theorem nf_Mo_56 : Cond.fieldLink nR_Mo 56 (nT_Mo 22).1 (nT_Mo 22).2.1 (nT_Mo 22).2.2.1 ∈ rl_TT := rl_tin 709 (by decide +kernel) rfl
theorem nf_Mo_59 : Cond.fieldLink nR_Mo 59 (nT_Mo 23).1 (nT_Mo 23).2.1 (nT_Mo 23).2.2.1 ∈ rl_TT := rl_tin 710 (by decide +kernel) rfl
theorem nf_Mo_44 : Cond.fieldLink nR_Mo 44 (nT_Mo 18).1 (nT_Mo 18).2.1 (nT_Mo 18).2.2.1 ∈ rl_TT := rl_tin 705 (by decide +kernel) rfl
theorem nf_Mo_47 : Cond.fieldLink nR_Mo 47 (nT_Mo 19).1 (nT_Mo 19).2.1 (nT_Mo 19).2.2.1 ∈ rl_TT := rl_tin 706 (by decide +kernel) rfl
theorem nf_Mo_38 : Cond.fieldLink nR_Mo 38 (nT_Mo 13).1 (nT_Mo 13).2.1 (nT_Mo 13).2.2.1 ∈ rl_TT := rl_tin 700 (by decide +kernel) rfl
theorem nf_Mo_50 : Cond.fieldLink nR_Mo 50 (nT_Mo 20).1 (nT_Mo 20).2.1 (nT_Mo 20).2.2.1 ∈ rl_TT := rl_tin 707 (by decide +kernel) rfl
theorem nf_Mo_53 : Cond.fieldLink nR_Mo 53 (nT_Mo 21).1 (nT_Mo 21).2.1 (nT_Mo 21).2.2.1 ∈ rl_TT := rl_tin 708 (by decide +kernel) rfl
theorem nm_Mo_94 : Cond.methodLink nR_Mo 94 ny_Mo_placeOf ∈ rl_TT := rl_tin 825 (by decide +kernel) rfl
theorem nh_Mo_placeOf : Cond.code ny_Mo_placeOf nc_Mo_placeOf 3 (some .int) ∈ rl_TT := rl_tin 828 (by decide +kernel) rfl
theorem nm_im_Mo_placeOf : Cond.instanceMethod ny_Mo_placeOf ∈ rl_TT := rl_tin 827 (by decide +kernel) rfl
theorem nm_se_Mo_placeOf : Cond.selects nR_Mo ny_Mo_placeOf ny_Mo_placeOf ∈ rl_TT := rl_tin 27 (by decide +kernel) rfl
theorem nf_Mo_98 : Cond.fieldLink nR_Mo 98 (nT_Mo 15).1 (nT_Mo 15).2.1 (nT_Mo 15).2.2.1 ∈ rl_TT := rl_tin 702 (by decide +kernel) rfl
theorem nm_Mo_102 : Cond.methodLink nR_Mo 102 ny_Mo_firstChoice ∈ rl_TT := rl_tin 809 (by decide +kernel) rfl
theorem nh_Mo_firstChoice : Cond.code ny_Mo_firstChoice nc_Mo_firstChoice 2 none ∈ rl_TT := rl_tin 812 (by decide +kernel) rfl
theorem nm_im_Mo_firstChoice : Cond.instanceMethod ny_Mo_firstChoice ∈ rl_TT := rl_tin 811 (by decide +kernel) rfl
theorem nm_se_Mo_firstChoice : Cond.selects nR_Mo ny_Mo_firstChoice ny_Mo_firstChoice ∈ rl_TT := rl_tin 23 (by decide +kernel) rfl
theorem nm_Mo_105 : Cond.methodLink nR_Mo 105 ny_Mo_layOut ∈ rl_TT := rl_tin 813 (by decide +kernel) rfl
theorem nh_Mo_layOut : Cond.code ny_Mo_layOut nc_Mo_layOut 8 none ∈ rl_TT := rl_tin 816 (by decide +kernel) rfl
theorem nm_im_Mo_layOut : Cond.instanceMethod ny_Mo_layOut ∈ rl_TT := rl_tin 815 (by decide +kernel) rfl
theorem nm_se_Mo_layOut : Cond.selects nR_Mo ny_Mo_layOut ny_Mo_layOut ∈ rl_TT := rl_tin 24 (by decide +kernel) rfl
theorem nm_Mo_114 : Cond.methodLink nR_Mo 114 ny_Mo_fits ∈ rl_TT := rl_tin 817 (by decide +kernel) rfl
theorem nh_Mo_fits : Cond.code ny_Mo_fits nc_Mo_fits 1 (some .boolean) ∈ rl_TT := rl_tin 820 (by decide +kernel) rfl
theorem nm_im_Mo_fits : Cond.instanceMethod ny_Mo_fits ∈ rl_TT := rl_tin 819 (by decide +kernel) rfl
theorem nm_se_Mo_fits : Cond.selects nR_Mo ny_Mo_fits ny_Mo_fits ∈ rl_TT := rl_tin 25 (by decide +kernel) rfl
theorem nm_Mo_118 : Cond.methodLink nR_Mo 118 ny_Mo_nextChoice ∈ rl_TT := rl_tin 821 (by decide +kernel) rfl
theorem nh_Mo_nextChoice : Cond.code ny_Mo_nextChoice nc_Mo_nextChoice 2 (some .boolean) ∈ rl_TT := rl_tin 824 (by decide +kernel) rfl
theorem nm_im_Mo_nextChoice : Cond.instanceMethod ny_Mo_nextChoice ∈ rl_TT := rl_tin 823 (by decide +kernel) rfl
theorem nm_se_Mo_nextChoice : Cond.selects nR_Mo ny_Mo_nextChoice ny_Mo_nextChoice ∈ rl_TT := rl_tin 26 (by decide +kernel) rfl
theorem nf_Mo_108 : Cond.fieldLink nR_Mo 108 (nT_Mo 16).1 (nT_Mo 16).2.1 (nT_Mo 16).2.2.1 ∈ rl_TT := rl_tin 703 (by decide +kernel) rfl
theorem nf_Mo_111 : Cond.fieldLink nR_Mo 111 (nT_Mo 17).1 (nT_Mo 17).2.1 (nT_Mo 17).2.2.1 ∈ rl_TT := rl_tin 704 (by decide +kernel) rfl
theorem nf_Mo_41 : Cond.fieldLink nR_Mo 41 (nT_Mo 14).1 (nT_Mo 14).2.1 (nT_Mo 14).2.2.1 ∈ rl_TT := rl_tin 701 (by decide +kernel) rfl
theorem nm_Mo_121 : Cond.methodLink nR_Mo 121 ny_Mo_findCorners ∈ rl_TT := rl_tin 829 (by decide +kernel) rfl
theorem nh_Mo_findCorners : Cond.code ny_Mo_findCorners nc_Mo_findCorners 4 none ∈ rl_TT := rl_tin 832 (by decide +kernel) rfl
theorem nm_im_Mo_findCorners : Cond.instanceMethod ny_Mo_findCorners ∈ rl_TT := rl_tin 831 (by decide +kernel) rfl
theorem nm_se_Mo_findCorners : Cond.selects nR_Mo ny_Mo_findCorners ny_Mo_findCorners ∈ rl_TT := rl_tin 28 (by decide +kernel) rfl
theorem nm_Mo_124 : Cond.methodLink nR_Mo 124 ny_Mo_findBest ∈ rl_TT := rl_tin 805 (by decide +kernel) rfl
theorem nh_Mo_findBest : Cond.code ny_Mo_findBest nc_Mo_findBest 6 none ∈ rl_TT := rl_tin 808 (by decide +kernel) rfl
theorem nm_im_Mo_findBest : Cond.instanceMethod ny_Mo_findBest ∈ rl_TT := rl_tin 807 (by decide +kernel) rfl
theorem nm_se_Mo_findBest : Cond.selects nR_Mo ny_Mo_findBest ny_Mo_findBest ∈ rl_TT := rl_tin 22 (by decide +kernel) rfl
theorem nf_Mo_65 : Cond.fieldLink nR_Mo 65 (nT_Mo 25).1 (nT_Mo 25).2.1 (nT_Mo 25).2.2.1 ∈ rl_TT := rl_tin 712 (by decide +kernel) rfl
theorem nm_Mo_127 : Cond.methodLink nR_Mo 127 ny_Mo_overlap ∈ rl_TT := rl_tin 849 (by decide +kernel) rfl
theorem nh_Mo_overlap : Cond.code ny_Mo_overlap nc_Mo_overlap 6 (some .int) ∈ rl_TT := rl_tin 851 (by decide +kernel) rfl
theorem nm_st_Mo_overlap : Cond.static ny_Mo_overlap ∈ rl_TT := rl_tin 850 (by decide +kernel) rfl
theorem nm_Mo_131 : Cond.methodLink nR_Mo 131 ny_Mo_shared ∈ rl_TT := rl_tin 845 (by decide +kernel) rfl
theorem nh_Mo_shared : Cond.code ny_Mo_shared nc_Mo_shared 7 (some .int) ∈ rl_TT := rl_tin 848 (by decide +kernel) rfl
theorem nm_im_Mo_shared : Cond.instanceMethod ny_Mo_shared ∈ rl_TT := rl_tin 847 (by decide +kernel) rfl
theorem nm_se_Mo_shared : Cond.selects nR_Mo ny_Mo_shared ny_Mo_shared ∈ rl_TT := rl_tin 29 (by decide +kernel) rfl
theorem nf_Mo_135 : Cond.fieldLink nR_Mo 135 (nT_Mo 9).1 (nT_Mo 9).2.1 (nT_Mo 9).2.2.1 ∈ rl_TT := rl_tin 696 (by decide +kernel) rfl
theorem nf_Mo_29 : Cond.fieldLink nR_Mo 29 (nT_Mo 10).1 (nT_Mo 10).2.1 (nT_Mo 10).2.2.1 ∈ rl_TT := rl_tin 697 (by decide +kernel) rfl
theorem nf_Mo_32 : Cond.fieldLink nR_Mo 32 (nT_Mo 11).1 (nT_Mo 11).2.1 (nT_Mo 11).2.2.1 ∈ rl_TT := rl_tin 698 (by decide +kernel) rfl
theorem nf_Mo_35 : Cond.fieldLink nR_Mo 35 (nT_Mo 12).1 (nT_Mo 12).2.1 (nT_Mo 12).2.2.1 ∈ rl_TT := rl_tin 699 (by decide +kernel) rfl
theorem nm_Mo_138 : Cond.methodLink nR_Mo 138 ny_Mo_isMet ∈ rl_TT := rl_tin 860 (by decide +kernel) rfl
theorem nh_Mo_isMet : Cond.code ny_Mo_isMet nc_Mo_isMet 4 (some .boolean) ∈ rl_TT := rl_tin 863 (by decide +kernel) rfl
theorem nm_im_Mo_isMet : Cond.instanceMethod ny_Mo_isMet ∈ rl_TT := rl_tin 862 (by decide +kernel) rfl
theorem nm_se_Mo_isMet : Cond.selects nR_Mo ny_Mo_isMet ny_Mo_isMet ∈ rl_TT := rl_tin 30 (by decide +kernel) rfl
theorem nm_Mo_141 : Cond.methodLink nR_Mo 141 ny_Mo_allMet ∈ rl_TT := rl_tin 868 (by decide +kernel) rfl
theorem nh_Mo_allMet : Cond.code ny_Mo_allMet nc_Mo_allMet 3 (some .int) ∈ rl_TT := rl_tin 871 (by decide +kernel) rfl
theorem nm_im_Mo_allMet : Cond.instanceMethod ny_Mo_allMet ∈ rl_TT := rl_tin 870 (by decide +kernel) rfl
theorem nm_se_Mo_allMet : Cond.selects nR_Mo ny_Mo_allMet ny_Mo_allMet ∈ rl_TT := rl_tin 31 (by decide +kernel) rfl
theorem nm_Mo_145 : Cond.methodLink nR_Mo 145 ny_Mo_canChange ∈ rl_TT := rl_tin 876 (by decide +kernel) rfl
theorem nh_Mo_canChange : Cond.code ny_Mo_canChange nc_Mo_canChange 3 (some .boolean) ∈ rl_TT := rl_tin 879 (by decide +kernel) rfl
theorem nm_im_Mo_canChange : Cond.instanceMethod ny_Mo_canChange ∈ rl_TT := rl_tin 878 (by decide +kernel) rfl
theorem nm_se_Mo_canChange : Cond.selects nR_Mo ny_Mo_canChange ny_Mo_canChange ∈ rl_TT := rl_tin 32 (by decide +kernel) rfl
theorem nm_Mo_149 : Cond.methodLink nR_Mo 149 ny_Mo_change ∈ rl_TT := rl_tin 880 (by decide +kernel) rfl
theorem nh_Mo_change : Cond.code ny_Mo_change nc_Mo_change 5 none ∈ rl_TT := rl_tin 883 (by decide +kernel) rfl
theorem nm_im_Mo_change : Cond.instanceMethod ny_Mo_change ∈ rl_TT := rl_tin 882 (by decide +kernel) rfl
theorem nm_se_Mo_change : Cond.selects nR_Mo ny_Mo_change ny_Mo_change ∈ rl_TT := rl_tin 33 (by decide +kernel) rfl
end
section
theorem nd_Cu_widthAt_0 : decode nc_Cu_widthAt 0 = .ok (.iload_n 1, 1) := by decide +kernel
theorem nd_Cu_widthAt_1 : decode nc_Cu_widthAt 1 = .ok (.ifCond .lt 20, 3) := by decide +kernel
theorem nd_Cu_widthAt_4 : decode nc_Cu_widthAt 4 = .ok (.iload_n 1, 1) := by decide +kernel
theorem nd_Cu_widthAt_5 : decode nc_Cu_widthAt 5 = .ok (.aload_n 0, 1) := by decide +kernel
theorem nd_Cu_widthAt_6 : decode nc_Cu_widthAt 6 = .ok (.getfield 9, 3) := by decide +kernel
theorem nd_Cu_widthAt_9 : decode nc_Cu_widthAt 9 = .ok (.if_icmp .ge 12, 3) := by decide +kernel
theorem nd_Cu_widthAt_12 : decode nc_Cu_widthAt 12 = .ok (.aload_n 0, 1) := by decide +kernel
theorem nd_Cu_widthAt_13 : decode nc_Cu_widthAt 13 = .ok (.getfield 15, 3) := by decide +kernel
theorem nd_Cu_widthAt_16 : decode nc_Cu_widthAt 16 = .ok (.iload_n 1, 1) := by decide +kernel
theorem nd_Cu_widthAt_17 : decode nc_Cu_widthAt 17 = .ok (.iaload, 1) := by decide +kernel
theorem nd_Cu_widthAt_18 : decode nc_Cu_widthAt 18 = .ok (.goto 4, 3) := by decide +kernel
theorem nd_Cu_widthAt_21 : decode nc_Cu_widthAt 21 = .ok (.iconst (-1), 1) := by decide +kernel
theorem nd_Cu_widthAt_22 : decode nc_Cu_widthAt 22 = .ok (.ireturn, 1) := by decide +kernel
theorem nd_Cu_heightAt_0 : decode nc_Cu_heightAt 0 = .ok (.iload_n 1, 1) := by decide +kernel
theorem nd_Cu_heightAt_1 : decode nc_Cu_heightAt 1 = .ok (.ifCond .lt 20, 3) := by decide +kernel
theorem nd_Cu_heightAt_4 : decode nc_Cu_heightAt 4 = .ok (.iload_n 1, 1) := by decide +kernel
theorem nd_Cu_heightAt_5 : decode nc_Cu_heightAt 5 = .ok (.aload_n 0, 1) := by decide +kernel
theorem nd_Cu_heightAt_6 : decode nc_Cu_heightAt 6 = .ok (.getfield 9, 3) := by decide +kernel
theorem nd_Cu_heightAt_9 : decode nc_Cu_heightAt 9 = .ok (.if_icmp .ge 12, 3) := by decide +kernel
theorem nd_Cu_heightAt_12 : decode nc_Cu_heightAt 12 = .ok (.aload_n 0, 1) := by decide +kernel
theorem nd_Cu_heightAt_13 : decode nc_Cu_heightAt 13 = .ok (.getfield 19, 3) := by decide +kernel
theorem nd_Cu_heightAt_16 : decode nc_Cu_heightAt 16 = .ok (.iload_n 1, 1) := by decide +kernel
theorem nd_Cu_heightAt_17 : decode nc_Cu_heightAt 17 = .ok (.iaload, 1) := by decide +kernel
theorem nd_Cu_heightAt_18 : decode nc_Cu_heightAt 18 = .ok (.goto 4, 3) := by decide +kernel
theorem nd_Cu_heightAt_21 : decode nc_Cu_heightAt 21 = .ok (.iconst (-1), 1) := by decide +kernel
theorem nd_Cu_heightAt_22 : decode nc_Cu_heightAt 22 = .ok (.ireturn, 1) := by decide +kernel
theorem nd_Cu_clear_0 : decode nc_Cu_clear 0 = .ok (.aload_n 0, 1) := by decide +kernel
theorem nd_Cu_clear_1 : decode nc_Cu_clear 1 = .ok (.iconst 0, 1) := by decide +kernel
theorem nd_Cu_clear_2 : decode nc_Cu_clear 2 = .ok (.putfield 9, 3) := by decide +kernel
theorem nd_Cu_clear_5 : decode nc_Cu_clear 5 = .ok (.return_, 1) := by decide +kernel
theorem nd_Cu_append_0 : decode nc_Cu_append 0 = .ok (.aload_n 0, 1) := by decide +kernel
theorem nd_Cu_append_1 : decode nc_Cu_append 1 = .ok (.getfield 9, 3) := by decide +kernel
theorem nd_Cu_append_4 : decode nc_Cu_append 4 = .ok (.bipush 24, 2) := by decide +kernel
theorem nd_Cu_append_6 : decode nc_Cu_append 6 = .ok (.if_icmp .ge 33, 3) := by decide +kernel
theorem nd_Cu_append_9 : decode nc_Cu_append 9 = .ok (.aload_n 0, 1) := by decide +kernel
theorem nd_Cu_append_10 : decode nc_Cu_append 10 = .ok (.getfield 15, 3) := by decide +kernel
theorem nd_Cu_append_13 : decode nc_Cu_append 13 = .ok (.aload_n 0, 1) := by decide +kernel
theorem nd_Cu_append_14 : decode nc_Cu_append 14 = .ok (.getfield 9, 3) := by decide +kernel
theorem nd_Cu_append_17 : decode nc_Cu_append 17 = .ok (.iload_n 1, 1) := by decide +kernel
theorem nd_Cu_append_18 : decode nc_Cu_append 18 = .ok (.iastore, 1) := by decide +kernel
theorem nd_Cu_append_19 : decode nc_Cu_append 19 = .ok (.aload_n 0, 1) := by decide +kernel
theorem nd_Cu_append_20 : decode nc_Cu_append 20 = .ok (.getfield 19, 3) := by decide +kernel
theorem nd_Cu_append_23 : decode nc_Cu_append 23 = .ok (.aload_n 0, 1) := by decide +kernel
theorem nd_Cu_append_24 : decode nc_Cu_append 24 = .ok (.getfield 9, 3) := by decide +kernel
theorem nd_Cu_append_27 : decode nc_Cu_append 27 = .ok (.iload_n 2, 1) := by decide +kernel
theorem nd_Cu_append_28 : decode nc_Cu_append 28 = .ok (.iastore, 1) := by decide +kernel
theorem nd_Cu_append_29 : decode nc_Cu_append 29 = .ok (.aload_n 0, 1) := by decide +kernel
theorem nd_Cu_append_30 : decode nc_Cu_append 30 = .ok (.dup, 1) := by decide +kernel
theorem nd_Cu_append_31 : decode nc_Cu_append 31 = .ok (.getfield 9, 3) := by decide +kernel
theorem nd_Cu_append_34 : decode nc_Cu_append 34 = .ok (.iconst 1, 1) := by decide +kernel
theorem nd_Cu_append_35 : decode nc_Cu_append 35 = .ok (.iadd, 1) := by decide +kernel
theorem nd_Cu_append_36 : decode nc_Cu_append 36 = .ok (.putfield 9, 3) := by decide +kernel
theorem nd_Cu_append_39 : decode nc_Cu_append 39 = .ok (.return_, 1) := by decide +kernel
theorem nd_Cu_hasWithin_0 : decode nc_Cu_hasWithin 0 = .ok (.iconst 0, 1) := by decide +kernel
theorem nd_Cu_hasWithin_1 : decode nc_Cu_hasWithin 1 = .ok (.istore_n 3, 1) := by decide +kernel
theorem nd_Cu_hasWithin_2 : decode nc_Cu_hasWithin 2 = .ok (.iload_n 3, 1) := by decide +kernel
theorem nd_Cu_hasWithin_3 : decode nc_Cu_hasWithin 3 = .ok (.aload_n 0, 1) := by decide +kernel
theorem nd_Cu_hasWithin_4 : decode nc_Cu_hasWithin 4 = .ok (.getfield 9, 3) := by decide +kernel
theorem nd_Cu_hasWithin_7 : decode nc_Cu_hasWithin 7 = .ok (.if_icmp .ge 31, 3) := by decide +kernel
theorem nd_Cu_hasWithin_10 : decode nc_Cu_hasWithin 10 = .ok (.aload_n 0, 1) := by decide +kernel
theorem nd_Cu_hasWithin_11 : decode nc_Cu_hasWithin 11 = .ok (.getfield 15, 3) := by decide +kernel
theorem nd_Cu_hasWithin_14 : decode nc_Cu_hasWithin 14 = .ok (.iload_n 3, 1) := by decide +kernel
theorem nd_Cu_hasWithin_15 : decode nc_Cu_hasWithin 15 = .ok (.iaload, 1) := by decide +kernel
theorem nd_Cu_hasWithin_16 : decode nc_Cu_hasWithin 16 = .ok (.iload_n 1, 1) := by decide +kernel
theorem nd_Cu_hasWithin_17 : decode nc_Cu_hasWithin 17 = .ok (.if_icmp .gt 15, 3) := by decide +kernel
theorem nd_Cu_hasWithin_20 : decode nc_Cu_hasWithin 20 = .ok (.aload_n 0, 1) := by decide +kernel
theorem nd_Cu_hasWithin_21 : decode nc_Cu_hasWithin 21 = .ok (.getfield 19, 3) := by decide +kernel
theorem nd_Cu_hasWithin_24 : decode nc_Cu_hasWithin 24 = .ok (.iload_n 3, 1) := by decide +kernel
theorem nd_Cu_hasWithin_25 : decode nc_Cu_hasWithin 25 = .ok (.iaload, 1) := by decide +kernel
theorem nd_Cu_hasWithin_26 : decode nc_Cu_hasWithin 26 = .ok (.iload_n 2, 1) := by decide +kernel
theorem nd_Cu_hasWithin_27 : decode nc_Cu_hasWithin 27 = .ok (.if_icmp .gt 5, 3) := by decide +kernel
theorem nd_Cu_hasWithin_30 : decode nc_Cu_hasWithin 30 = .ok (.iconst 1, 1) := by decide +kernel
theorem nd_Cu_hasWithin_31 : decode nc_Cu_hasWithin 31 = .ok (.ireturn, 1) := by decide +kernel
theorem nd_Cu_hasWithin_32 : decode nc_Cu_hasWithin 32 = .ok (.iinc 3 1, 3) := by decide +kernel
theorem nd_Cu_hasWithin_35 : decode nc_Cu_hasWithin 35 = .ok (.goto (-33), 3) := by decide +kernel
theorem nd_Cu_hasWithin_38 : decode nc_Cu_hasWithin 38 = .ok (.iconst 0, 1) := by decide +kernel
theorem nd_Cu_hasWithin_39 : decode nc_Cu_hasWithin 39 = .ok (.ireturn, 1) := by decide +kernel
theorem nd_Cu_dropAround_0 : decode nc_Cu_dropAround 0 = .ok (.aload_n 0, 1) := by decide +kernel
theorem nd_Cu_dropAround_1 : decode nc_Cu_dropAround 1 = .ok (.getfield 9, 3) := by decide +kernel
theorem nd_Cu_dropAround_4 : decode nc_Cu_dropAround 4 = .ok (.istore_n 3, 1) := by decide +kernel
theorem nd_Cu_dropAround_5 : decode nc_Cu_dropAround 5 = .ok (.aload_n 0, 1) := by decide +kernel
theorem nd_Cu_dropAround_6 : decode nc_Cu_dropAround 6 = .ok (.iconst 0, 1) := by decide +kernel
theorem nd_Cu_dropAround_7 : decode nc_Cu_dropAround 7 = .ok (.putfield 9, 3) := by decide +kernel
theorem nd_Cu_dropAround_10 : decode nc_Cu_dropAround 10 = .ok (.iconst 0, 1) := by decide +kernel
theorem nd_Cu_dropAround_11 : decode nc_Cu_dropAround 11 = .ok (.istore 4, 2) := by decide +kernel
theorem nd_Cu_dropAround_13 : decode nc_Cu_dropAround 13 = .ok (.iload 4, 2) := by decide +kernel
theorem nd_Cu_dropAround_15 : decode nc_Cu_dropAround 15 = .ok (.iload_n 3, 1) := by decide +kernel
theorem nd_Cu_dropAround_16 : decode nc_Cu_dropAround 16 = .ok (.if_icmp .ge 49, 3) := by decide +kernel
theorem nd_Cu_dropAround_19 : decode nc_Cu_dropAround 19 = .ok (.aload_n 0, 1) := by decide +kernel
theorem nd_Cu_dropAround_20 : decode nc_Cu_dropAround 20 = .ok (.getfield 15, 3) := by decide +kernel
theorem nd_Cu_dropAround_23 : decode nc_Cu_dropAround 23 = .ok (.iload 4, 2) := by decide +kernel
theorem nd_Cu_dropAround_25 : decode nc_Cu_dropAround 25 = .ok (.iaload, 1) := by decide +kernel
theorem nd_Cu_dropAround_26 : decode nc_Cu_dropAround 26 = .ok (.iload_n 1, 1) := by decide +kernel
theorem nd_Cu_dropAround_27 : decode nc_Cu_dropAround 27 = .ok (.if_icmp .lt 14, 3) := by decide +kernel
theorem nd_Cu_dropAround_30 : decode nc_Cu_dropAround 30 = .ok (.aload_n 0, 1) := by decide +kernel
theorem nd_Cu_dropAround_31 : decode nc_Cu_dropAround 31 = .ok (.getfield 19, 3) := by decide +kernel
theorem nd_Cu_dropAround_34 : decode nc_Cu_dropAround 34 = .ok (.iload 4, 2) := by decide +kernel
theorem nd_Cu_dropAround_36 : decode nc_Cu_dropAround 36 = .ok (.iaload, 1) := by decide +kernel
theorem nd_Cu_dropAround_37 : decode nc_Cu_dropAround 37 = .ok (.iload_n 2, 1) := by decide +kernel
theorem nd_Cu_dropAround_38 : decode nc_Cu_dropAround 38 = .ok (.if_icmp .ge 21, 3) := by decide +kernel
theorem nd_Cu_dropAround_41 : decode nc_Cu_dropAround 41 = .ok (.aload_n 0, 1) := by decide +kernel
theorem nd_Cu_dropAround_42 : decode nc_Cu_dropAround 42 = .ok (.aload_n 0, 1) := by decide +kernel
theorem nd_Cu_dropAround_43 : decode nc_Cu_dropAround 43 = .ok (.getfield 15, 3) := by decide +kernel
theorem nd_Cu_dropAround_46 : decode nc_Cu_dropAround 46 = .ok (.iload 4, 2) := by decide +kernel
theorem nd_Cu_dropAround_48 : decode nc_Cu_dropAround 48 = .ok (.iaload, 1) := by decide +kernel
theorem nd_Cu_dropAround_49 : decode nc_Cu_dropAround 49 = .ok (.aload_n 0, 1) := by decide +kernel
theorem nd_Cu_dropAround_50 : decode nc_Cu_dropAround 50 = .ok (.getfield 19, 3) := by decide +kernel
theorem nd_Cu_dropAround_53 : decode nc_Cu_dropAround 53 = .ok (.iload 4, 2) := by decide +kernel
theorem nd_Cu_dropAround_55 : decode nc_Cu_dropAround 55 = .ok (.iaload, 1) := by decide +kernel
theorem nd_Cu_dropAround_56 : decode nc_Cu_dropAround 56 = .ok (.invokevirtual 30, 3) := by decide +kernel
theorem nd_Cu_dropAround_59 : decode nc_Cu_dropAround 59 = .ok (.iinc 4 1, 3) := by decide +kernel
theorem nd_Cu_dropAround_62 : decode nc_Cu_dropAround 62 = .ok (.goto (-49), 3) := by decide +kernel
theorem nd_Cu_dropAround_65 : decode nc_Cu_dropAround 65 = .ok (.return_, 1) := by decide +kernel
theorem nd_Cu_exchangeOutlines_0 : decode nc_Cu_exchangeOutlines 0 = .ok (.aload_n 0, 1) := by decide +kernel
theorem nd_Cu_exchangeOutlines_1 : decode nc_Cu_exchangeOutlines 1 = .ok (.getfield 15, 3) := by decide +kernel
theorem nd_Cu_exchangeOutlines_4 : decode nc_Cu_exchangeOutlines 4 = .ok (.iload_n 1, 1) := by decide +kernel
theorem nd_Cu_exchangeOutlines_5 : decode nc_Cu_exchangeOutlines 5 = .ok (.iaload, 1) := by decide +kernel
theorem nd_Cu_exchangeOutlines_6 : decode nc_Cu_exchangeOutlines 6 = .ok (.istore_n 3, 1) := by decide +kernel
theorem nd_Cu_exchangeOutlines_7 : decode nc_Cu_exchangeOutlines 7 = .ok (.aload_n 0, 1) := by decide +kernel
theorem nd_Cu_exchangeOutlines_8 : decode nc_Cu_exchangeOutlines 8 = .ok (.getfield 19, 3) := by decide +kernel
theorem nd_Cu_exchangeOutlines_11 : decode nc_Cu_exchangeOutlines 11 = .ok (.iload_n 1, 1) := by decide +kernel
theorem nd_Cu_exchangeOutlines_12 : decode nc_Cu_exchangeOutlines 12 = .ok (.iaload, 1) := by decide +kernel
theorem nd_Cu_exchangeOutlines_13 : decode nc_Cu_exchangeOutlines 13 = .ok (.istore 4, 2) := by decide +kernel
theorem nd_Cu_exchangeOutlines_15 : decode nc_Cu_exchangeOutlines 15 = .ok (.aload_n 0, 1) := by decide +kernel
theorem nd_Cu_exchangeOutlines_16 : decode nc_Cu_exchangeOutlines 16 = .ok (.getfield 15, 3) := by decide +kernel
theorem nd_Cu_exchangeOutlines_19 : decode nc_Cu_exchangeOutlines 19 = .ok (.iload_n 1, 1) := by decide +kernel
theorem nd_Cu_exchangeOutlines_20 : decode nc_Cu_exchangeOutlines 20 = .ok (.aload_n 0, 1) := by decide +kernel
theorem nd_Cu_exchangeOutlines_21 : decode nc_Cu_exchangeOutlines 21 = .ok (.getfield 15, 3) := by decide +kernel
theorem nd_Cu_exchangeOutlines_24 : decode nc_Cu_exchangeOutlines 24 = .ok (.iload_n 2, 1) := by decide +kernel
theorem nd_Cu_exchangeOutlines_25 : decode nc_Cu_exchangeOutlines 25 = .ok (.iaload, 1) := by decide +kernel
theorem nd_Cu_exchangeOutlines_26 : decode nc_Cu_exchangeOutlines 26 = .ok (.iastore, 1) := by decide +kernel
theorem nd_Cu_exchangeOutlines_27 : decode nc_Cu_exchangeOutlines 27 = .ok (.aload_n 0, 1) := by decide +kernel
theorem nd_Cu_exchangeOutlines_28 : decode nc_Cu_exchangeOutlines 28 = .ok (.getfield 19, 3) := by decide +kernel
theorem nd_Cu_exchangeOutlines_31 : decode nc_Cu_exchangeOutlines 31 = .ok (.iload_n 1, 1) := by decide +kernel
theorem nd_Cu_exchangeOutlines_32 : decode nc_Cu_exchangeOutlines 32 = .ok (.aload_n 0, 1) := by decide +kernel
theorem nd_Cu_exchangeOutlines_33 : decode nc_Cu_exchangeOutlines 33 = .ok (.getfield 19, 3) := by decide +kernel
theorem nd_Cu_exchangeOutlines_36 : decode nc_Cu_exchangeOutlines 36 = .ok (.iload_n 2, 1) := by decide +kernel
theorem nd_Cu_exchangeOutlines_37 : decode nc_Cu_exchangeOutlines 37 = .ok (.iaload, 1) := by decide +kernel
theorem nd_Cu_exchangeOutlines_38 : decode nc_Cu_exchangeOutlines 38 = .ok (.iastore, 1) := by decide +kernel
theorem nd_Cu_exchangeOutlines_39 : decode nc_Cu_exchangeOutlines 39 = .ok (.aload_n 0, 1) := by decide +kernel
theorem nd_Cu_exchangeOutlines_40 : decode nc_Cu_exchangeOutlines 40 = .ok (.getfield 15, 3) := by decide +kernel
theorem nd_Cu_exchangeOutlines_43 : decode nc_Cu_exchangeOutlines 43 = .ok (.iload_n 2, 1) := by decide +kernel
theorem nd_Cu_exchangeOutlines_44 : decode nc_Cu_exchangeOutlines 44 = .ok (.iload_n 3, 1) := by decide +kernel
theorem nd_Cu_exchangeOutlines_45 : decode nc_Cu_exchangeOutlines 45 = .ok (.iastore, 1) := by decide +kernel
theorem nd_Cu_exchangeOutlines_46 : decode nc_Cu_exchangeOutlines 46 = .ok (.aload_n 0, 1) := by decide +kernel
theorem nd_Cu_exchangeOutlines_47 : decode nc_Cu_exchangeOutlines 47 = .ok (.getfield 19, 3) := by decide +kernel
theorem nd_Cu_exchangeOutlines_50 : decode nc_Cu_exchangeOutlines 50 = .ok (.iload_n 2, 1) := by decide +kernel
theorem nd_Cu_exchangeOutlines_51 : decode nc_Cu_exchangeOutlines 51 = .ok (.iload 4, 2) := by decide +kernel
theorem nd_Cu_exchangeOutlines_53 : decode nc_Cu_exchangeOutlines 53 = .ok (.iastore, 1) := by decide +kernel
theorem nd_Cu_exchangeOutlines_54 : decode nc_Cu_exchangeOutlines 54 = .ok (.return_, 1) := by decide +kernel
theorem nd_Cu_offer_0 : decode nc_Cu_offer 0 = .ok (.aload_n 0, 1) := by decide +kernel
theorem nd_Cu_offer_1 : decode nc_Cu_offer 1 = .ok (.iload_n 1, 1) := by decide +kernel
theorem nd_Cu_offer_2 : decode nc_Cu_offer 2 = .ok (.iload_n 2, 1) := by decide +kernel
theorem nd_Cu_offer_3 : decode nc_Cu_offer 3 = .ok (.invokevirtual 22, 3) := by decide +kernel
theorem nd_Cu_offer_6 : decode nc_Cu_offer 6 = .ok (.ifCond .eq 4, 3) := by decide +kernel
theorem nd_Cu_offer_9 : decode nc_Cu_offer 9 = .ok (.return_, 1) := by decide +kernel
theorem nd_Cu_offer_10 : decode nc_Cu_offer 10 = .ok (.aload_n 0, 1) := by decide +kernel
theorem nd_Cu_offer_11 : decode nc_Cu_offer 11 = .ok (.iload_n 1, 1) := by decide +kernel
theorem nd_Cu_offer_12 : decode nc_Cu_offer 12 = .ok (.iload_n 2, 1) := by decide +kernel
theorem nd_Cu_offer_13 : decode nc_Cu_offer 13 = .ok (.invokevirtual 26, 3) := by decide +kernel
theorem nd_Cu_offer_16 : decode nc_Cu_offer 16 = .ok (.aload_n 0, 1) := by decide +kernel
theorem nd_Cu_offer_17 : decode nc_Cu_offer 17 = .ok (.iload_n 1, 1) := by decide +kernel
theorem nd_Cu_offer_18 : decode nc_Cu_offer 18 = .ok (.iload_n 2, 1) := by decide +kernel
theorem nd_Cu_offer_19 : decode nc_Cu_offer 19 = .ok (.invokevirtual 30, 3) := by decide +kernel
theorem nd_Cu_offer_22 : decode nc_Cu_offer 22 = .ok (.aload_n 0, 1) := by decide +kernel
theorem nd_Cu_offer_23 : decode nc_Cu_offer 23 = .ok (.getfield 9, 3) := by decide +kernel
theorem nd_Cu_offer_26 : decode nc_Cu_offer 26 = .ok (.iconst 1, 1) := by decide +kernel
theorem nd_Cu_offer_27 : decode nc_Cu_offer 27 = .ok (.isub, 1) := by decide +kernel
theorem nd_Cu_offer_28 : decode nc_Cu_offer 28 = .ok (.istore_n 3, 1) := by decide +kernel
theorem nd_Cu_offer_29 : decode nc_Cu_offer 29 = .ok (.iload_n 3, 1) := by decide +kernel
theorem nd_Cu_offer_30 : decode nc_Cu_offer 30 = .ok (.ifCond .le 34, 3) := by decide +kernel
theorem nd_Cu_offer_33 : decode nc_Cu_offer 33 = .ok (.aload_n 0, 1) := by decide +kernel
theorem nd_Cu_offer_34 : decode nc_Cu_offer 34 = .ok (.getfield 15, 3) := by decide +kernel
theorem nd_Cu_offer_37 : decode nc_Cu_offer 37 = .ok (.iload_n 3, 1) := by decide +kernel
theorem nd_Cu_offer_38 : decode nc_Cu_offer 38 = .ok (.iconst 1, 1) := by decide +kernel
theorem nd_Cu_offer_39 : decode nc_Cu_offer 39 = .ok (.isub, 1) := by decide +kernel
theorem nd_Cu_offer_40 : decode nc_Cu_offer 40 = .ok (.iaload, 1) := by decide +kernel
theorem nd_Cu_offer_41 : decode nc_Cu_offer 41 = .ok (.aload_n 0, 1) := by decide +kernel
theorem nd_Cu_offer_42 : decode nc_Cu_offer 42 = .ok (.getfield 15, 3) := by decide +kernel
theorem nd_Cu_offer_45 : decode nc_Cu_offer 45 = .ok (.iload_n 3, 1) := by decide +kernel
theorem nd_Cu_offer_46 : decode nc_Cu_offer 46 = .ok (.iaload, 1) := by decide +kernel
theorem nd_Cu_offer_47 : decode nc_Cu_offer 47 = .ok (.if_icmp .le 17, 3) := by decide +kernel
theorem nd_Cu_offer_50 : decode nc_Cu_offer 50 = .ok (.aload_n 0, 1) := by decide +kernel
theorem nd_Cu_offer_51 : decode nc_Cu_offer 51 = .ok (.iload_n 3, 1) := by decide +kernel
theorem nd_Cu_offer_52 : decode nc_Cu_offer 52 = .ok (.iconst 1, 1) := by decide +kernel
theorem nd_Cu_offer_53 : decode nc_Cu_offer 53 = .ok (.isub, 1) := by decide +kernel
theorem nd_Cu_offer_54 : decode nc_Cu_offer 54 = .ok (.iload_n 3, 1) := by decide +kernel
theorem nd_Cu_offer_55 : decode nc_Cu_offer 55 = .ok (.invokevirtual 33, 3) := by decide +kernel
theorem nd_Cu_offer_58 : decode nc_Cu_offer 58 = .ok (.iinc 3 (-1), 3) := by decide +kernel
theorem nd_Cu_offer_61 : decode nc_Cu_offer 61 = .ok (.goto (-32), 3) := by decide +kernel
theorem nd_Cu_offer_64 : decode nc_Cu_offer 64 = .ok (.return_, 1) := by decide +kernel
theorem nd_Cu_joinBeside_0 : decode nc_Cu_joinBeside 0 = .ok (.aload_n 0, 1) := by decide +kernel
theorem nd_Cu_joinBeside_1 : decode nc_Cu_joinBeside 1 = .ok (.invokevirtual 36, 3) := by decide +kernel
theorem nd_Cu_joinBeside_4 : decode nc_Cu_joinBeside 4 = .ok (.iconst 0, 1) := by decide +kernel
theorem nd_Cu_joinBeside_5 : decode nc_Cu_joinBeside 5 = .ok (.istore_n 3, 1) := by decide +kernel
theorem nd_Cu_joinBeside_6 : decode nc_Cu_joinBeside 6 = .ok (.iconst 0, 1) := by decide +kernel
theorem nd_Cu_joinBeside_7 : decode nc_Cu_joinBeside 7 = .ok (.istore 4, 2) := by decide +kernel
theorem nd_Cu_joinBeside_9 : decode nc_Cu_joinBeside 9 = .ok (.iload_n 3, 1) := by decide +kernel
theorem nd_Cu_joinBeside_10 : decode nc_Cu_joinBeside 10 = .ok (.aload_n 1, 1) := by decide +kernel
theorem nd_Cu_joinBeside_11 : decode nc_Cu_joinBeside 11 = .ok (.getfield 9, 3) := by decide +kernel
theorem nd_Cu_joinBeside_14 : decode nc_Cu_joinBeside 14 = .ok (.if_icmp .ge 77, 3) := by decide +kernel
theorem nd_Cu_joinBeside_17 : decode nc_Cu_joinBeside 17 = .ok (.iload 4, 2) := by decide +kernel
theorem nd_Cu_joinBeside_19 : decode nc_Cu_joinBeside 19 = .ok (.aload_n 2, 1) := by decide +kernel
theorem nd_Cu_joinBeside_20 : decode nc_Cu_joinBeside 20 = .ok (.getfield 9, 3) := by decide +kernel
theorem nd_Cu_joinBeside_23 : decode nc_Cu_joinBeside 23 = .ok (.if_icmp .ge 68, 3) := by decide +kernel
theorem nd_Cu_joinBeside_26 : decode nc_Cu_joinBeside 26 = .ok (.aload_n 1, 1) := by decide +kernel
theorem nd_Cu_joinBeside_27 : decode nc_Cu_joinBeside 27 = .ok (.getfield 19, 3) := by decide +kernel
theorem nd_Cu_joinBeside_30 : decode nc_Cu_joinBeside 30 = .ok (.iload_n 3, 1) := by decide +kernel
theorem nd_Cu_joinBeside_31 : decode nc_Cu_joinBeside 31 = .ok (.iaload, 1) := by decide +kernel
theorem nd_Cu_joinBeside_32 : decode nc_Cu_joinBeside 32 = .ok (.istore 5, 2) := by decide +kernel
theorem nd_Cu_joinBeside_34 : decode nc_Cu_joinBeside 34 = .ok (.aload_n 2, 1) := by decide +kernel
theorem nd_Cu_joinBeside_35 : decode nc_Cu_joinBeside 35 = .ok (.getfield 19, 3) := by decide +kernel
theorem nd_Cu_joinBeside_38 : decode nc_Cu_joinBeside 38 = .ok (.iload 4, 2) := by decide +kernel
theorem nd_Cu_joinBeside_40 : decode nc_Cu_joinBeside 40 = .ok (.iaload, 1) := by decide +kernel
theorem nd_Cu_joinBeside_41 : decode nc_Cu_joinBeside 41 = .ok (.istore 6, 2) := by decide +kernel
theorem nd_Cu_joinBeside_43 : decode nc_Cu_joinBeside 43 = .ok (.aload_n 0, 1) := by decide +kernel
theorem nd_Cu_joinBeside_44 : decode nc_Cu_joinBeside 44 = .ok (.aload_n 1, 1) := by decide +kernel
theorem nd_Cu_joinBeside_45 : decode nc_Cu_joinBeside 45 = .ok (.getfield 15, 3) := by decide +kernel
theorem nd_Cu_joinBeside_48 : decode nc_Cu_joinBeside 48 = .ok (.iload_n 3, 1) := by decide +kernel
theorem nd_Cu_joinBeside_49 : decode nc_Cu_joinBeside 49 = .ok (.iaload, 1) := by decide +kernel
theorem nd_Cu_joinBeside_50 : decode nc_Cu_joinBeside 50 = .ok (.aload_n 2, 1) := by decide +kernel
theorem nd_Cu_joinBeside_51 : decode nc_Cu_joinBeside 51 = .ok (.getfield 15, 3) := by decide +kernel
theorem nd_Cu_joinBeside_54 : decode nc_Cu_joinBeside 54 = .ok (.iload 4, 2) := by decide +kernel
theorem nd_Cu_joinBeside_56 : decode nc_Cu_joinBeside 56 = .ok (.iaload, 1) := by decide +kernel
theorem nd_Cu_joinBeside_57 : decode nc_Cu_joinBeside 57 = .ok (.iadd, 1) := by decide +kernel
theorem nd_Cu_joinBeside_58 : decode nc_Cu_joinBeside 58 = .ok (.iload 5, 2) := by decide +kernel
theorem nd_Cu_joinBeside_60 : decode nc_Cu_joinBeside 60 = .ok (.iload 6, 2) := by decide +kernel
theorem nd_Cu_joinBeside_62 : decode nc_Cu_joinBeside 62 = .ok (.invokestatic 39, 3) := by decide +kernel
theorem nd_Cu_joinBeside_65 : decode nc_Cu_joinBeside 65 = .ok (.invokevirtual 30, 3) := by decide +kernel
theorem nd_Cu_joinBeside_68 : decode nc_Cu_joinBeside 68 = .ok (.iload 5, 2) := by decide +kernel
theorem nd_Cu_joinBeside_70 : decode nc_Cu_joinBeside 70 = .ok (.iload 6, 2) := by decide +kernel
theorem nd_Cu_joinBeside_72 : decode nc_Cu_joinBeside 72 = .ok (.if_icmp .lt 6, 3) := by decide +kernel
theorem nd_Cu_joinBeside_75 : decode nc_Cu_joinBeside 75 = .ok (.iinc 3 1, 3) := by decide +kernel
theorem nd_Cu_joinBeside_78 : decode nc_Cu_joinBeside 78 = .ok (.iload 6, 2) := by decide +kernel
theorem nd_Cu_joinBeside_80 : decode nc_Cu_joinBeside 80 = .ok (.iload 5, 2) := by decide +kernel
theorem nd_Cu_joinBeside_82 : decode nc_Cu_joinBeside 82 = .ok (.if_icmp .lt 6, 3) := by decide +kernel
theorem nd_Cu_joinBeside_85 : decode nc_Cu_joinBeside 85 = .ok (.iinc 4 1, 3) := by decide +kernel
theorem nd_Cu_joinBeside_88 : decode nc_Cu_joinBeside 88 = .ok (.goto (-79), 3) := by decide +kernel
theorem nd_Cu_joinBeside_91 : decode nc_Cu_joinBeside 91 = .ok (.return_, 1) := by decide +kernel
theorem nd_Cu_joinAbove_0 : decode nc_Cu_joinAbove 0 = .ok (.aload_n 0, 1) := by decide +kernel
theorem nd_Cu_joinAbove_1 : decode nc_Cu_joinAbove 1 = .ok (.invokevirtual 36, 3) := by decide +kernel
theorem nd_Cu_joinAbove_4 : decode nc_Cu_joinAbove 4 = .ok (.aload_n 1, 1) := by decide +kernel
theorem nd_Cu_joinAbove_5 : decode nc_Cu_joinAbove 5 = .ok (.getfield 9, 3) := by decide +kernel
theorem nd_Cu_joinAbove_8 : decode nc_Cu_joinAbove 8 = .ok (.iconst 1, 1) := by decide +kernel
theorem nd_Cu_joinAbove_9 : decode nc_Cu_joinAbove 9 = .ok (.isub, 1) := by decide +kernel
theorem nd_Cu_joinAbove_10 : decode nc_Cu_joinAbove 10 = .ok (.istore_n 3, 1) := by decide +kernel
theorem nd_Cu_joinAbove_11 : decode nc_Cu_joinAbove 11 = .ok (.aload_n 2, 1) := by decide +kernel
theorem nd_Cu_joinAbove_12 : decode nc_Cu_joinAbove 12 = .ok (.getfield 9, 3) := by decide +kernel
theorem nd_Cu_joinAbove_15 : decode nc_Cu_joinAbove 15 = .ok (.iconst 1, 1) := by decide +kernel
theorem nd_Cu_joinAbove_16 : decode nc_Cu_joinAbove 16 = .ok (.isub, 1) := by decide +kernel
theorem nd_Cu_joinAbove_17 : decode nc_Cu_joinAbove 17 = .ok (.istore 4, 2) := by decide +kernel
theorem nd_Cu_joinAbove_19 : decode nc_Cu_joinAbove 19 = .ok (.iload_n 3, 1) := by decide +kernel
theorem nd_Cu_joinAbove_20 : decode nc_Cu_joinAbove 20 = .ok (.ifCond .lt 73, 3) := by decide +kernel
theorem nd_Cu_joinAbove_23 : decode nc_Cu_joinAbove 23 = .ok (.iload 4, 2) := by decide +kernel
theorem nd_Cu_joinAbove_25 : decode nc_Cu_joinAbove 25 = .ok (.ifCond .lt 68, 3) := by decide +kernel
theorem nd_Cu_joinAbove_28 : decode nc_Cu_joinAbove 28 = .ok (.aload_n 1, 1) := by decide +kernel
theorem nd_Cu_joinAbove_29 : decode nc_Cu_joinAbove 29 = .ok (.getfield 15, 3) := by decide +kernel
theorem nd_Cu_joinAbove_32 : decode nc_Cu_joinAbove 32 = .ok (.iload_n 3, 1) := by decide +kernel
theorem nd_Cu_joinAbove_33 : decode nc_Cu_joinAbove 33 = .ok (.iaload, 1) := by decide +kernel
theorem nd_Cu_joinAbove_34 : decode nc_Cu_joinAbove 34 = .ok (.istore 5, 2) := by decide +kernel
theorem nd_Cu_joinAbove_36 : decode nc_Cu_joinAbove 36 = .ok (.aload_n 2, 1) := by decide +kernel
theorem nd_Cu_joinAbove_37 : decode nc_Cu_joinAbove 37 = .ok (.getfield 15, 3) := by decide +kernel
theorem nd_Cu_joinAbove_40 : decode nc_Cu_joinAbove 40 = .ok (.iload 4, 2) := by decide +kernel
theorem nd_Cu_joinAbove_42 : decode nc_Cu_joinAbove 42 = .ok (.iaload, 1) := by decide +kernel
theorem nd_Cu_joinAbove_43 : decode nc_Cu_joinAbove 43 = .ok (.istore 6, 2) := by decide +kernel
theorem nd_Cu_joinAbove_45 : decode nc_Cu_joinAbove 45 = .ok (.aload_n 0, 1) := by decide +kernel
theorem nd_Cu_joinAbove_46 : decode nc_Cu_joinAbove 46 = .ok (.iload 5, 2) := by decide +kernel
theorem nd_Cu_joinAbove_48 : decode nc_Cu_joinAbove 48 = .ok (.iload 6, 2) := by decide +kernel
theorem nd_Cu_joinAbove_50 : decode nc_Cu_joinAbove 50 = .ok (.invokestatic 39, 3) := by decide +kernel
theorem nd_Cu_joinAbove_53 : decode nc_Cu_joinAbove 53 = .ok (.aload_n 1, 1) := by decide +kernel
theorem nd_Cu_joinAbove_54 : decode nc_Cu_joinAbove 54 = .ok (.getfield 19, 3) := by decide +kernel
theorem nd_Cu_joinAbove_57 : decode nc_Cu_joinAbove 57 = .ok (.iload_n 3, 1) := by decide +kernel
theorem nd_Cu_joinAbove_58 : decode nc_Cu_joinAbove 58 = .ok (.iaload, 1) := by decide +kernel
theorem nd_Cu_joinAbove_59 : decode nc_Cu_joinAbove 59 = .ok (.aload_n 2, 1) := by decide +kernel
theorem nd_Cu_joinAbove_60 : decode nc_Cu_joinAbove 60 = .ok (.getfield 19, 3) := by decide +kernel
theorem nd_Cu_joinAbove_63 : decode nc_Cu_joinAbove 63 = .ok (.iload 4, 2) := by decide +kernel
theorem nd_Cu_joinAbove_65 : decode nc_Cu_joinAbove 65 = .ok (.iaload, 1) := by decide +kernel
theorem nd_Cu_joinAbove_66 : decode nc_Cu_joinAbove 66 = .ok (.iadd, 1) := by decide +kernel
theorem nd_Cu_joinAbove_67 : decode nc_Cu_joinAbove 67 = .ok (.invokevirtual 30, 3) := by decide +kernel
theorem nd_Cu_joinAbove_70 : decode nc_Cu_joinAbove 70 = .ok (.iload 5, 2) := by decide +kernel
theorem nd_Cu_joinAbove_72 : decode nc_Cu_joinAbove 72 = .ok (.iload 6, 2) := by decide +kernel
theorem nd_Cu_joinAbove_74 : decode nc_Cu_joinAbove 74 = .ok (.if_icmp .lt 6, 3) := by decide +kernel
theorem nd_Cu_joinAbove_77 : decode nc_Cu_joinAbove 77 = .ok (.iinc 3 (-1), 3) := by decide +kernel
theorem nd_Cu_joinAbove_80 : decode nc_Cu_joinAbove 80 = .ok (.iload 6, 2) := by decide +kernel
theorem nd_Cu_joinAbove_82 : decode nc_Cu_joinAbove 82 = .ok (.iload 5, 2) := by decide +kernel
theorem nd_Cu_joinAbove_84 : decode nc_Cu_joinAbove 84 = .ok (.if_icmp .lt 6, 3) := by decide +kernel
theorem nd_Cu_joinAbove_87 : decode nc_Cu_joinAbove 87 = .ok (.iinc 4 (-1), 3) := by decide +kernel
theorem nd_Cu_joinAbove_90 : decode nc_Cu_joinAbove 90 = .ok (.goto (-71), 3) := by decide +kernel
theorem nd_Cu_joinAbove_93 : decode nc_Cu_joinAbove 93 = .ok (.iconst 0, 1) := by decide +kernel
theorem nd_Cu_joinAbove_94 : decode nc_Cu_joinAbove 94 = .ok (.istore 5, 2) := by decide +kernel
theorem nd_Cu_joinAbove_96 : decode nc_Cu_joinAbove 96 = .ok (.iload 5, 2) := by decide +kernel
theorem nd_Cu_joinAbove_98 : decode nc_Cu_joinAbove 98 = .ok (.aload_n 0, 1) := by decide +kernel
theorem nd_Cu_joinAbove_99 : decode nc_Cu_joinAbove 99 = .ok (.getfield 9, 3) := by decide +kernel
theorem nd_Cu_joinAbove_102 : decode nc_Cu_joinAbove 102 = .ok (.iconst 2, 1) := by decide +kernel
theorem nd_Cu_joinAbove_103 : decode nc_Cu_joinAbove 103 = .ok (.idiv, 1) := by decide +kernel
theorem nd_Cu_joinAbove_104 : decode nc_Cu_joinAbove 104 = .ok (.if_icmp .ge 24, 3) := by decide +kernel
theorem nd_Cu_joinAbove_107 : decode nc_Cu_joinAbove 107 = .ok (.aload_n 0, 1) := by decide +kernel
theorem nd_Cu_joinAbove_108 : decode nc_Cu_joinAbove 108 = .ok (.iload 5, 2) := by decide +kernel
theorem nd_Cu_joinAbove_110 : decode nc_Cu_joinAbove 110 = .ok (.aload_n 0, 1) := by decide +kernel
theorem nd_Cu_joinAbove_111 : decode nc_Cu_joinAbove 111 = .ok (.getfield 9, 3) := by decide +kernel
theorem nd_Cu_joinAbove_114 : decode nc_Cu_joinAbove 114 = .ok (.iconst 1, 1) := by decide +kernel
theorem nd_Cu_joinAbove_115 : decode nc_Cu_joinAbove 115 = .ok (.isub, 1) := by decide +kernel
theorem nd_Cu_joinAbove_116 : decode nc_Cu_joinAbove 116 = .ok (.iload 5, 2) := by decide +kernel
theorem nd_Cu_joinAbove_118 : decode nc_Cu_joinAbove 118 = .ok (.isub, 1) := by decide +kernel
theorem nd_Cu_joinAbove_119 : decode nc_Cu_joinAbove 119 = .ok (.invokevirtual 33, 3) := by decide +kernel
theorem nd_Cu_joinAbove_122 : decode nc_Cu_joinAbove 122 = .ok (.iinc 5 1, 3) := by decide +kernel
theorem nd_Cu_joinAbove_125 : decode nc_Cu_joinAbove 125 = .ok (.goto (-29), 3) := by decide +kernel
theorem nd_Cu_joinAbove_128 : decode nc_Cu_joinAbove 128 = .ok (.return_, 1) := by decide +kernel
theorem nd_Cu_takeFitting_0 : decode nc_Cu_takeFitting 0 = .ok (.aload_n 0, 1) := by decide +kernel
theorem nd_Cu_takeFitting_1 : decode nc_Cu_takeFitting 1 = .ok (.invokevirtual 36, 3) := by decide +kernel
theorem nd_Cu_takeFitting_4 : decode nc_Cu_takeFitting 4 = .ok (.iconst 0, 1) := by decide +kernel
theorem nd_Cu_takeFitting_5 : decode nc_Cu_takeFitting 5 = .ok (.istore 4, 2) := by decide +kernel
theorem nd_Cu_takeFitting_7 : decode nc_Cu_takeFitting 7 = .ok (.iload 4, 2) := by decide +kernel
theorem nd_Cu_takeFitting_9 : decode nc_Cu_takeFitting 9 = .ok (.aload_n 1, 1) := by decide +kernel
theorem nd_Cu_takeFitting_10 : decode nc_Cu_takeFitting 10 = .ok (.getfield 9, 3) := by decide +kernel
theorem nd_Cu_takeFitting_13 : decode nc_Cu_takeFitting 13 = .ok (.if_icmp .ge 49, 3) := by decide +kernel
theorem nd_Cu_takeFitting_16 : decode nc_Cu_takeFitting 16 = .ok (.aload_n 1, 1) := by decide +kernel
theorem nd_Cu_takeFitting_17 : decode nc_Cu_takeFitting 17 = .ok (.getfield 15, 3) := by decide +kernel
theorem nd_Cu_takeFitting_20 : decode nc_Cu_takeFitting 20 = .ok (.iload 4, 2) := by decide +kernel
theorem nd_Cu_takeFitting_22 : decode nc_Cu_takeFitting 22 = .ok (.iaload, 1) := by decide +kernel
theorem nd_Cu_takeFitting_23 : decode nc_Cu_takeFitting 23 = .ok (.iload_n 2, 1) := by decide +kernel
theorem nd_Cu_takeFitting_24 : decode nc_Cu_takeFitting 24 = .ok (.if_icmp .gt 32, 3) := by decide +kernel
theorem nd_Cu_takeFitting_27 : decode nc_Cu_takeFitting 27 = .ok (.aload_n 1, 1) := by decide +kernel
theorem nd_Cu_takeFitting_28 : decode nc_Cu_takeFitting 28 = .ok (.getfield 19, 3) := by decide +kernel
theorem nd_Cu_takeFitting_31 : decode nc_Cu_takeFitting 31 = .ok (.iload 4, 2) := by decide +kernel
theorem nd_Cu_takeFitting_33 : decode nc_Cu_takeFitting 33 = .ok (.iaload, 1) := by decide +kernel
theorem nd_Cu_takeFitting_34 : decode nc_Cu_takeFitting 34 = .ok (.iload_n 3, 1) := by decide +kernel
theorem nd_Cu_takeFitting_35 : decode nc_Cu_takeFitting 35 = .ok (.if_icmp .gt 21, 3) := by decide +kernel
theorem nd_Cu_takeFitting_38 : decode nc_Cu_takeFitting 38 = .ok (.aload_n 0, 1) := by decide +kernel
theorem nd_Cu_takeFitting_39 : decode nc_Cu_takeFitting 39 = .ok (.aload_n 1, 1) := by decide +kernel
theorem nd_Cu_takeFitting_40 : decode nc_Cu_takeFitting 40 = .ok (.getfield 15, 3) := by decide +kernel
theorem nd_Cu_takeFitting_43 : decode nc_Cu_takeFitting 43 = .ok (.iload 4, 2) := by decide +kernel
theorem nd_Cu_takeFitting_45 : decode nc_Cu_takeFitting 45 = .ok (.iaload, 1) := by decide +kernel
theorem nd_Cu_takeFitting_46 : decode nc_Cu_takeFitting 46 = .ok (.aload_n 1, 1) := by decide +kernel
theorem nd_Cu_takeFitting_47 : decode nc_Cu_takeFitting 47 = .ok (.getfield 19, 3) := by decide +kernel
theorem nd_Cu_takeFitting_50 : decode nc_Cu_takeFitting 50 = .ok (.iload 4, 2) := by decide +kernel
theorem nd_Cu_takeFitting_52 : decode nc_Cu_takeFitting 52 = .ok (.iaload, 1) := by decide +kernel
theorem nd_Cu_takeFitting_53 : decode nc_Cu_takeFitting 53 = .ok (.invokevirtual 30, 3) := by decide +kernel
theorem nd_Cu_takeFitting_56 : decode nc_Cu_takeFitting 56 = .ok (.iinc 4 1, 3) := by decide +kernel
theorem nd_Cu_takeFitting_59 : decode nc_Cu_takeFitting 59 = .ok (.goto (-52), 3) := by decide +kernel
theorem nd_Cu_takeFitting_62 : decode nc_Cu_takeFitting 62 = .ok (.return_, 1) := by decide +kernel
theorem nd_Cu_leastArea_0 : decode nc_Cu_leastArea 0 = .ok (.iconst (-1), 1) := by decide +kernel
theorem nd_Cu_leastArea_1 : decode nc_Cu_leastArea 1 = .ok (.istore_n 1, 1) := by decide +kernel
theorem nd_Cu_leastArea_2 : decode nc_Cu_leastArea 2 = .ok (.ldc 45, 2) := by decide +kernel
theorem nd_Cu_leastArea_4 : decode nc_Cu_leastArea 4 = .ok (.istore_n 2, 1) := by decide +kernel
theorem nd_Cu_leastArea_5 : decode nc_Cu_leastArea 5 = .ok (.iconst 0, 1) := by decide +kernel
theorem nd_Cu_leastArea_6 : decode nc_Cu_leastArea 6 = .ok (.istore_n 3, 1) := by decide +kernel
theorem nd_Cu_leastArea_7 : decode nc_Cu_leastArea 7 = .ok (.iload_n 3, 1) := by decide +kernel
theorem nd_Cu_leastArea_8 : decode nc_Cu_leastArea 8 = .ok (.aload_n 0, 1) := by decide +kernel
theorem nd_Cu_leastArea_9 : decode nc_Cu_leastArea 9 = .ok (.getfield 9, 3) := by decide +kernel
theorem nd_Cu_leastArea_12 : decode nc_Cu_leastArea 12 = .ok (.if_icmp .ge 42, 3) := by decide +kernel
theorem nd_Cu_leastArea_15 : decode nc_Cu_leastArea 15 = .ok (.aload_n 0, 1) := by decide +kernel
theorem nd_Cu_leastArea_16 : decode nc_Cu_leastArea 16 = .ok (.getfield 15, 3) := by decide +kernel
theorem nd_Cu_leastArea_19 : decode nc_Cu_leastArea 19 = .ok (.iload_n 3, 1) := by decide +kernel
theorem nd_Cu_leastArea_20 : decode nc_Cu_leastArea 20 = .ok (.iaload, 1) := by decide +kernel
theorem nd_Cu_leastArea_21 : decode nc_Cu_leastArea 21 = .ok (.aload_n 0, 1) := by decide +kernel
theorem nd_Cu_leastArea_22 : decode nc_Cu_leastArea 22 = .ok (.getfield 19, 3) := by decide +kernel
theorem nd_Cu_leastArea_25 : decode nc_Cu_leastArea 25 = .ok (.iload_n 3, 1) := by decide +kernel
theorem nd_Cu_leastArea_26 : decode nc_Cu_leastArea 26 = .ok (.iaload, 1) := by decide +kernel
theorem nd_Cu_leastArea_27 : decode nc_Cu_leastArea 27 = .ok (.imul, 1) := by decide +kernel
theorem nd_Cu_leastArea_28 : decode nc_Cu_leastArea 28 = .ok (.iload_n 2, 1) := by decide +kernel
theorem nd_Cu_leastArea_29 : decode nc_Cu_leastArea 29 = .ok (.if_icmp .ge 19, 3) := by decide +kernel
theorem nd_Cu_leastArea_32 : decode nc_Cu_leastArea 32 = .ok (.aload_n 0, 1) := by decide +kernel
theorem nd_Cu_leastArea_33 : decode nc_Cu_leastArea 33 = .ok (.getfield 15, 3) := by decide +kernel
theorem nd_Cu_leastArea_36 : decode nc_Cu_leastArea 36 = .ok (.iload_n 3, 1) := by decide +kernel
theorem nd_Cu_leastArea_37 : decode nc_Cu_leastArea 37 = .ok (.iaload, 1) := by decide +kernel
theorem nd_Cu_leastArea_38 : decode nc_Cu_leastArea 38 = .ok (.aload_n 0, 1) := by decide +kernel
theorem nd_Cu_leastArea_39 : decode nc_Cu_leastArea 39 = .ok (.getfield 19, 3) := by decide +kernel
theorem nd_Cu_leastArea_42 : decode nc_Cu_leastArea 42 = .ok (.iload_n 3, 1) := by decide +kernel
theorem nd_Cu_leastArea_43 : decode nc_Cu_leastArea 43 = .ok (.iaload, 1) := by decide +kernel
theorem nd_Cu_leastArea_44 : decode nc_Cu_leastArea 44 = .ok (.imul, 1) := by decide +kernel
theorem nd_Cu_leastArea_45 : decode nc_Cu_leastArea 45 = .ok (.istore_n 2, 1) := by decide +kernel
theorem nd_Cu_leastArea_46 : decode nc_Cu_leastArea 46 = .ok (.iload_n 3, 1) := by decide +kernel
theorem nd_Cu_leastArea_47 : decode nc_Cu_leastArea 47 = .ok (.istore_n 1, 1) := by decide +kernel
theorem nd_Cu_leastArea_48 : decode nc_Cu_leastArea 48 = .ok (.iinc 3 1, 3) := by decide +kernel
theorem nd_Cu_leastArea_51 : decode nc_Cu_leastArea 51 = .ok (.goto (-44), 3) := by decide +kernel
theorem nd_Cu_leastArea_54 : decode nc_Cu_leastArea 54 = .ok (.iload_n 1, 1) := by decide +kernel
theorem nd_Cu_leastArea_55 : decode nc_Cu_leastArea 55 = .ok (.ireturn, 1) := by decide +kernel
theorem nd_Pl_forget_0 : decode nc_Pl_forget 0 = .ok (.aload_n 0, 1) := by decide +kernel
theorem nd_Pl_forget_1 : decode nc_Pl_forget 1 = .ok (.iconst 0, 1) := by decide +kernel
theorem nd_Pl_forget_2 : decode nc_Pl_forget 2 = .ok (.putfield 32, 3) := by decide +kernel
theorem nd_Pl_forget_5 : decode nc_Pl_forget 5 = .ok (.aload_n 0, 1) := by decide +kernel
theorem nd_Pl_forget_6 : decode nc_Pl_forget 6 = .ok (.iconst 0, 1) := by decide +kernel
theorem nd_Pl_forget_7 : decode nc_Pl_forget 7 = .ok (.putfield 36, 3) := by decide +kernel
theorem nd_Pl_forget_10 : decode nc_Pl_forget 10 = .ok (.return_, 1) := by decide +kernel
theorem nd_Pl_setLot_0 : decode nc_Pl_setLot 0 = .ok (.aload_n 0, 1) := by decide +kernel
theorem nd_Pl_setLot_1 : decode nc_Pl_setLot 1 = .ok (.iload_n 1, 1) := by decide +kernel
theorem nd_Pl_setLot_2 : decode nc_Pl_setLot 2 = .ok (.putfield 25, 3) := by decide +kernel
theorem nd_Pl_setLot_5 : decode nc_Pl_setLot 5 = .ok (.aload_n 0, 1) := by decide +kernel
theorem nd_Pl_setLot_6 : decode nc_Pl_setLot 6 = .ok (.iload_n 2, 1) := by decide +kernel
theorem nd_Pl_setLot_7 : decode nc_Pl_setLot 7 = .ok (.putfield 29, 3) := by decide +kernel
theorem nd_Pl_setLot_10 : decode nc_Pl_setLot 10 = .ok (.aload_n 0, 1) := by decide +kernel
theorem nd_Pl_setLot_11 : decode nc_Pl_setLot 11 = .ok (.invokevirtual 63, 3) := by decide +kernel
theorem nd_Pl_setLot_14 : decode nc_Pl_setLot 14 = .ok (.return_, 1) := by decide +kernel
theorem nd_Pl_hasBest_0 : decode nc_Pl_hasBest 0 = .ok (.aload_n 0, 1) := by decide +kernel
theorem nd_Pl_hasBest_1 : decode nc_Pl_hasBest 1 = .ok (.getfield 50, 3) := by decide +kernel
theorem nd_Pl_hasBest_4 : decode nc_Pl_hasBest 4 = .ok (.iconst (-1), 1) := by decide +kernel
theorem nd_Pl_hasBest_5 : decode nc_Pl_hasBest 5 = .ok (.if_icmp .eq 7, 3) := by decide +kernel
theorem nd_Pl_hasBest_8 : decode nc_Pl_hasBest 8 = .ok (.iconst 1, 1) := by decide +kernel
theorem nd_Pl_hasBest_9 : decode nc_Pl_hasBest 9 = .ok (.goto 4, 3) := by decide +kernel
theorem nd_Pl_hasBest_12 : decode nc_Pl_hasBest 12 = .ok (.iconst 0, 1) := by decide +kernel
theorem nd_Pl_hasBest_13 : decode nc_Pl_hasBest 13 = .ok (.ireturn, 1) := by decide +kernel
theorem nd_Pl_bestWidth_0 : decode nc_Pl_bestWidth 0 = .ok (.aload_n 0, 1) := by decide +kernel
theorem nd_Pl_bestWidth_1 : decode nc_Pl_bestWidth 1 = .ok (.getfield 46, 3) := by decide +kernel
theorem nd_Pl_bestWidth_4 : decode nc_Pl_bestWidth 4 = .ok (.aload_n 0, 1) := by decide +kernel
theorem nd_Pl_bestWidth_5 : decode nc_Pl_bestWidth 5 = .ok (.getfield 50, 3) := by decide +kernel
theorem nd_Pl_bestWidth_8 : decode nc_Pl_bestWidth 8 = .ok (.invokevirtual 66, 3) := by decide +kernel
theorem nd_Pl_bestWidth_11 : decode nc_Pl_bestWidth 11 = .ok (.ireturn, 1) := by decide +kernel
theorem nd_Pl_bestHeight_0 : decode nc_Pl_bestHeight 0 = .ok (.aload_n 0, 1) := by decide +kernel
theorem nd_Pl_bestHeight_1 : decode nc_Pl_bestHeight 1 = .ok (.getfield 46, 3) := by decide +kernel
theorem nd_Pl_bestHeight_4 : decode nc_Pl_bestHeight 4 = .ok (.aload_n 0, 1) := by decide +kernel
theorem nd_Pl_bestHeight_5 : decode nc_Pl_bestHeight 5 = .ok (.getfield 50, 3) := by decide +kernel
theorem nd_Pl_bestHeight_8 : decode nc_Pl_bestHeight 8 = .ok (.invokevirtual 70, 3) := by decide +kernel
theorem nd_Pl_bestHeight_11 : decode nc_Pl_bestHeight 11 = .ok (.ireturn, 1) := by decide +kernel
theorem nd_Pl_bestArea_0 : decode nc_Pl_bestArea 0 = .ok (.aload_n 0, 1) := by decide +kernel
theorem nd_Pl_bestArea_1 : decode nc_Pl_bestArea 1 = .ok (.invokevirtual 73, 3) := by decide +kernel
theorem nd_Pl_bestArea_4 : decode nc_Pl_bestArea 4 = .ok (.ifCond .eq 15, 3) := by decide +kernel
theorem nd_Pl_bestArea_7 : decode nc_Pl_bestArea 7 = .ok (.aload_n 0, 1) := by decide +kernel
theorem nd_Pl_bestArea_8 : decode nc_Pl_bestArea 8 = .ok (.invokevirtual 77, 3) := by decide +kernel
theorem nd_Pl_bestArea_11 : decode nc_Pl_bestArea 11 = .ok (.aload_n 0, 1) := by decide +kernel
theorem nd_Pl_bestArea_12 : decode nc_Pl_bestArea 12 = .ok (.invokevirtual 81, 3) := by decide +kernel
theorem nd_Pl_bestArea_15 : decode nc_Pl_bestArea 15 = .ok (.imul, 1) := by decide +kernel
theorem nd_Pl_bestArea_16 : decode nc_Pl_bestArea 16 = .ok (.goto 5, 3) := by decide +kernel
theorem nd_Pl_bestArea_19 : decode nc_Pl_bestArea 19 = .ok (.ldc 84, 2) := by decide +kernel
theorem nd_Pl_bestArea_21 : decode nc_Pl_bestArea 21 = .ok (.ireturn, 1) := by decide +kernel
theorem nd_St_nodeOf_0 : decode nc_St_nodeOf 0 = .ok (.iload_n 1, 1) := by decide +kernel
theorem nd_St_nodeOf_1 : decode nc_St_nodeOf 1 = .ok (.ifCond .lt 18, 3) := by decide +kernel
theorem nd_St_nodeOf_4 : decode nc_St_nodeOf 4 = .ok (.iload_n 1, 1) := by decide +kernel
theorem nd_St_nodeOf_5 : decode nc_St_nodeOf 5 = .ok (.bipush 6, 2) := by decide +kernel
theorem nd_St_nodeOf_7 : decode nc_St_nodeOf 7 = .ok (.if_icmp .ge 12, 3) := by decide +kernel
theorem nd_St_nodeOf_10 : decode nc_St_nodeOf 10 = .ok (.aload_n 0, 1) := by decide +kernel
theorem nd_St_nodeOf_11 : decode nc_St_nodeOf 11 = .ok (.getfield 31, 3) := by decide +kernel
theorem nd_St_nodeOf_14 : decode nc_St_nodeOf 14 = .ok (.iload_n 1, 1) := by decide +kernel
theorem nd_St_nodeOf_15 : decode nc_St_nodeOf 15 = .ok (.iaload, 1) := by decide +kernel
theorem nd_St_nodeOf_16 : decode nc_St_nodeOf 16 = .ok (.goto 4, 3) := by decide +kernel
theorem nd_St_nodeOf_19 : decode nc_St_nodeOf 19 = .ok (.iconst (-1), 1) := by decide +kernel
theorem nd_St_nodeOf_20 : decode nc_St_nodeOf 20 = .ok (.ireturn, 1) := by decide +kernel
theorem nd_Pl_nodeOfPlaced_0 : decode nc_Pl_nodeOfPlaced 0 = .ok (.aload_n 0, 1) := by decide +kernel
theorem nd_Pl_nodeOfPlaced_1 : decode nc_Pl_nodeOfPlaced 1 = .ok (.invokevirtual 73, 3) := by decide +kernel
theorem nd_Pl_nodeOfPlaced_4 : decode nc_Pl_nodeOfPlaced 4 = .ok (.ifCond .eq 14, 3) := by decide +kernel
theorem nd_Pl_nodeOfPlaced_7 : decode nc_Pl_nodeOfPlaced 7 = .ok (.aload_n 0, 1) := by decide +kernel
theorem nd_Pl_nodeOfPlaced_8 : decode nc_Pl_nodeOfPlaced 8 = .ok (.getfield 21, 3) := by decide +kernel
theorem nd_Pl_nodeOfPlaced_11 : decode nc_Pl_nodeOfPlaced 11 = .ok (.iload_n 1, 1) := by decide +kernel
theorem nd_Pl_nodeOfPlaced_12 : decode nc_Pl_nodeOfPlaced 12 = .ok (.invokevirtual 85, 3) := by decide +kernel
theorem nd_Pl_nodeOfPlaced_15 : decode nc_Pl_nodeOfPlaced 15 = .ok (.goto 4, 3) := by decide +kernel
theorem nd_Pl_nodeOfPlaced_18 : decode nc_Pl_nodeOfPlaced 18 = .ok (.iconst (-1), 1) := by decide +kernel
theorem nd_Pl_nodeOfPlaced_19 : decode nc_Pl_nodeOfPlaced 19 = .ok (.ireturn, 1) := by decide +kernel
theorem nd_St_has_0 : decode nc_St_has 0 = .ok (.iload_n 1, 1) := by decide +kernel
theorem nd_St_has_1 : decode nc_St_has 1 = .ok (.ifCond .lt 21, 3) := by decide +kernel
theorem nd_St_has_4 : decode nc_St_has 4 = .ok (.iload_n 1, 1) := by decide +kernel
theorem nd_St_has_5 : decode nc_St_has 5 = .ok (.aload_n 0, 1) := by decide +kernel
theorem nd_St_has_6 : decode nc_St_has 6 = .ok (.getfield 9, 3) := by decide +kernel
theorem nd_St_has_9 : decode nc_St_has 9 = .ok (.if_icmp .ge 13, 3) := by decide +kernel
theorem nd_St_has_12 : decode nc_St_has 12 = .ok (.iload_n 1, 1) := by decide +kernel
theorem nd_St_has_13 : decode nc_St_has 13 = .ok (.bipush 11, 2) := by decide +kernel
theorem nd_St_has_15 : decode nc_St_has 15 = .ok (.if_icmp .ge 7, 3) := by decide +kernel
theorem nd_St_has_18 : decode nc_St_has 18 = .ok (.iconst 1, 1) := by decide +kernel
theorem nd_St_has_19 : decode nc_St_has 19 = .ok (.goto 4, 3) := by decide +kernel
theorem nd_St_has_22 : decode nc_St_has 22 = .ok (.iconst 0, 1) := by decide +kernel
theorem nd_St_has_23 : decode nc_St_has 23 = .ok (.ireturn, 1) := by decide +kernel
theorem nd_Pl_nodeWidth_0 : decode nc_Pl_nodeWidth 0 = .ok (.aload_n 0, 1) := by decide +kernel
theorem nd_Pl_nodeWidth_1 : decode nc_Pl_nodeWidth 1 = .ok (.getfield 21, 3) := by decide +kernel
theorem nd_Pl_nodeWidth_4 : decode nc_Pl_nodeWidth 4 = .ok (.iload_n 1, 1) := by decide +kernel
theorem nd_Pl_nodeWidth_5 : decode nc_Pl_nodeWidth 5 = .ok (.invokevirtual 91, 3) := by decide +kernel
theorem nd_Pl_nodeWidth_8 : decode nc_Pl_nodeWidth 8 = .ok (.ifCond .eq 16, 3) := by decide +kernel
theorem nd_Pl_nodeWidth_11 : decode nc_Pl_nodeWidth 11 = .ok (.aload_n 0, 1) := by decide +kernel
theorem nd_Pl_nodeWidth_12 : decode nc_Pl_nodeWidth 12 = .ok (.getfield 41, 3) := by decide +kernel
theorem nd_Pl_nodeWidth_15 : decode nc_Pl_nodeWidth 15 = .ok (.iload_n 1, 1) := by decide +kernel
theorem nd_Pl_nodeWidth_16 : decode nc_Pl_nodeWidth 16 = .ok (.aaload, 1) := by decide +kernel
theorem nd_Pl_nodeWidth_17 : decode nc_Pl_nodeWidth 17 = .ok (.iconst 0, 1) := by decide +kernel
theorem nd_Pl_nodeWidth_18 : decode nc_Pl_nodeWidth 18 = .ok (.invokevirtual 66, 3) := by decide +kernel
theorem nd_Pl_nodeWidth_21 : decode nc_Pl_nodeWidth 21 = .ok (.goto 4, 3) := by decide +kernel
theorem nd_Pl_nodeWidth_24 : decode nc_Pl_nodeWidth 24 = .ok (.iconst (-1), 1) := by decide +kernel
theorem nd_Pl_nodeWidth_25 : decode nc_Pl_nodeWidth 25 = .ok (.ireturn, 1) := by decide +kernel
theorem nd_Pl_nodeHeight_0 : decode nc_Pl_nodeHeight 0 = .ok (.aload_n 0, 1) := by decide +kernel
theorem nd_Pl_nodeHeight_1 : decode nc_Pl_nodeHeight 1 = .ok (.getfield 21, 3) := by decide +kernel
theorem nd_Pl_nodeHeight_4 : decode nc_Pl_nodeHeight 4 = .ok (.iload_n 1, 1) := by decide +kernel
theorem nd_Pl_nodeHeight_5 : decode nc_Pl_nodeHeight 5 = .ok (.invokevirtual 91, 3) := by decide +kernel
theorem nd_Pl_nodeHeight_8 : decode nc_Pl_nodeHeight 8 = .ok (.ifCond .eq 16, 3) := by decide +kernel
theorem nd_Pl_nodeHeight_11 : decode nc_Pl_nodeHeight 11 = .ok (.aload_n 0, 1) := by decide +kernel
theorem nd_Pl_nodeHeight_12 : decode nc_Pl_nodeHeight 12 = .ok (.getfield 41, 3) := by decide +kernel
theorem nd_Pl_nodeHeight_15 : decode nc_Pl_nodeHeight 15 = .ok (.iload_n 1, 1) := by decide +kernel
theorem nd_Pl_nodeHeight_16 : decode nc_Pl_nodeHeight 16 = .ok (.aaload, 1) := by decide +kernel
theorem nd_Pl_nodeHeight_17 : decode nc_Pl_nodeHeight 17 = .ok (.iconst 0, 1) := by decide +kernel
theorem nd_Pl_nodeHeight_18 : decode nc_Pl_nodeHeight 18 = .ok (.invokevirtual 70, 3) := by decide +kernel
theorem nd_Pl_nodeHeight_21 : decode nc_Pl_nodeHeight 21 = .ok (.goto 4, 3) := by decide +kernel
theorem nd_Pl_nodeHeight_24 : decode nc_Pl_nodeHeight 24 = .ok (.iconst (-1), 1) := by decide +kernel
theorem nd_Pl_nodeHeight_25 : decode nc_Pl_nodeHeight 25 = .ok (.ireturn, 1) := by decide +kernel
theorem nd_Pl_readPlace_0 : decode nc_Pl_readPlace 0 = .ok (.aload_n 0, 1) := by decide +kernel
theorem nd_Pl_readPlace_1 : decode nc_Pl_readPlace 1 = .ok (.iload_n 1, 1) := by decide +kernel
theorem nd_Pl_readPlace_2 : decode nc_Pl_readPlace 2 = .ok (.invokevirtual 88, 3) := by decide +kernel
theorem nd_Pl_readPlace_5 : decode nc_Pl_readPlace 5 = .ok (.istore_n 3, 1) := by decide +kernel
theorem nd_Pl_readPlace_6 : decode nc_Pl_readPlace 6 = .ok (.aload_n 0, 1) := by decide +kernel
theorem nd_Pl_readPlace_7 : decode nc_Pl_readPlace 7 = .ok (.getfield 21, 3) := by decide +kernel
theorem nd_Pl_readPlace_10 : decode nc_Pl_readPlace 10 = .ok (.iload_n 3, 1) := by decide +kernel
theorem nd_Pl_readPlace_11 : decode nc_Pl_readPlace 11 = .ok (.invokevirtual 91, 3) := by decide +kernel
theorem nd_Pl_readPlace_14 : decode nc_Pl_readPlace 14 = .ok (.ifCond .ne 5, 3) := by decide +kernel
theorem nd_Pl_readPlace_17 : decode nc_Pl_readPlace 17 = .ok (.iconst (-1), 1) := by decide +kernel
theorem nd_Pl_readPlace_18 : decode nc_Pl_readPlace 18 = .ok (.ireturn, 1) := by decide +kernel
theorem nd_Pl_readPlace_19 : decode nc_Pl_readPlace 19 = .ok (.iload_n 2, 1) := by decide +kernel
theorem nd_Pl_readPlace_20 : decode nc_Pl_readPlace 20 = .ok (.tableswitch 59 0 3 #[32, 39, 46, 53], 32) := by decide +kernel
theorem nd_Pl_readPlace_52 : decode nc_Pl_readPlace 52 = .ok (.aload_n 0, 1) := by decide +kernel
theorem nd_Pl_readPlace_53 : decode nc_Pl_readPlace 53 = .ok (.getfield 53, 3) := by decide +kernel
theorem nd_Pl_readPlace_56 : decode nc_Pl_readPlace 56 = .ok (.iload_n 3, 1) := by decide +kernel
theorem nd_Pl_readPlace_57 : decode nc_Pl_readPlace 57 = .ok (.iaload, 1) := by decide +kernel
theorem nd_Pl_readPlace_58 : decode nc_Pl_readPlace 58 = .ok (.ireturn, 1) := by decide +kernel
theorem nd_Pl_readPlace_59 : decode nc_Pl_readPlace 59 = .ok (.aload_n 0, 1) := by decide +kernel
theorem nd_Pl_readPlace_60 : decode nc_Pl_readPlace 60 = .ok (.getfield 57, 3) := by decide +kernel
theorem nd_Pl_readPlace_63 : decode nc_Pl_readPlace 63 = .ok (.iload_n 3, 1) := by decide +kernel
theorem nd_Pl_readPlace_64 : decode nc_Pl_readPlace 64 = .ok (.iaload, 1) := by decide +kernel
theorem nd_Pl_readPlace_65 : decode nc_Pl_readPlace 65 = .ok (.ireturn, 1) := by decide +kernel
theorem nd_Pl_readPlace_66 : decode nc_Pl_readPlace 66 = .ok (.aload_n 0, 1) := by decide +kernel
theorem nd_Pl_readPlace_67 : decode nc_Pl_readPlace 67 = .ok (.getfield 60, 3) := by decide +kernel
theorem nd_Pl_readPlace_70 : decode nc_Pl_readPlace 70 = .ok (.iload_n 3, 1) := by decide +kernel
theorem nd_Pl_readPlace_71 : decode nc_Pl_readPlace 71 = .ok (.iaload, 1) := by decide +kernel
theorem nd_Pl_readPlace_72 : decode nc_Pl_readPlace 72 = .ok (.ireturn, 1) := by decide +kernel
theorem nd_Pl_readPlace_73 : decode nc_Pl_readPlace 73 = .ok (.aload_n 0, 1) := by decide +kernel
theorem nd_Pl_readPlace_74 : decode nc_Pl_readPlace 74 = .ok (.iload_n 3, 1) := by decide +kernel
theorem nd_Pl_readPlace_75 : decode nc_Pl_readPlace 75 = .ok (.invokevirtual 95, 3) := by decide +kernel
theorem nd_Pl_readPlace_78 : decode nc_Pl_readPlace 78 = .ok (.ireturn, 1) := by decide +kernel
theorem nd_Pl_readPlace_79 : decode nc_Pl_readPlace 79 = .ok (.aload_n 0, 1) := by decide +kernel
theorem nd_Pl_readPlace_80 : decode nc_Pl_readPlace 80 = .ok (.iload_n 3, 1) := by decide +kernel
theorem nd_Pl_readPlace_81 : decode nc_Pl_readPlace 81 = .ok (.invokevirtual 98, 3) := by decide +kernel
theorem nd_Pl_readPlace_84 : decode nc_Pl_readPlace 84 = .ok (.ireturn, 1) := by decide +kernel
theorem nd_Pl_sharedWall_0 : decode nc_Pl_sharedWall 0 = .ok (.aload_n 0, 1) := by decide +kernel
theorem nd_Pl_sharedWall_1 : decode nc_Pl_sharedWall 1 = .ok (.iload_n 1, 1) := by decide +kernel
theorem nd_Pl_sharedWall_2 : decode nc_Pl_sharedWall 2 = .ok (.invokevirtual 88, 3) := by decide +kernel
theorem nd_Pl_sharedWall_5 : decode nc_Pl_sharedWall 5 = .ok (.istore_n 3, 1) := by decide +kernel
theorem nd_Pl_sharedWall_6 : decode nc_Pl_sharedWall 6 = .ok (.aload_n 0, 1) := by decide +kernel
theorem nd_Pl_sharedWall_7 : decode nc_Pl_sharedWall 7 = .ok (.iload_n 2, 1) := by decide +kernel
theorem nd_Pl_sharedWall_8 : decode nc_Pl_sharedWall 8 = .ok (.invokevirtual 88, 3) := by decide +kernel
theorem nd_Pl_sharedWall_11 : decode nc_Pl_sharedWall 11 = .ok (.istore 4, 2) := by decide +kernel
theorem nd_Pl_sharedWall_13 : decode nc_Pl_sharedWall 13 = .ok (.aload_n 0, 1) := by decide +kernel
theorem nd_Pl_sharedWall_14 : decode nc_Pl_sharedWall 14 = .ok (.getfield 21, 3) := by decide +kernel
theorem nd_Pl_sharedWall_17 : decode nc_Pl_sharedWall 17 = .ok (.iload_n 3, 1) := by decide +kernel
theorem nd_Pl_sharedWall_18 : decode nc_Pl_sharedWall 18 = .ok (.invokevirtual 91, 3) := by decide +kernel
theorem nd_Pl_sharedWall_21 : decode nc_Pl_sharedWall 21 = .ok (.ifCond .eq 15, 3) := by decide +kernel
theorem nd_Pl_sharedWall_24 : decode nc_Pl_sharedWall 24 = .ok (.aload_n 0, 1) := by decide +kernel
theorem nd_Pl_sharedWall_25 : decode nc_Pl_sharedWall 25 = .ok (.getfield 21, 3) := by decide +kernel
theorem nd_Pl_sharedWall_28 : decode nc_Pl_sharedWall 28 = .ok (.iload 4, 2) := by decide +kernel
theorem nd_Pl_sharedWall_30 : decode nc_Pl_sharedWall 30 = .ok (.invokevirtual 91, 3) := by decide +kernel
theorem nd_Pl_sharedWall_33 : decode nc_Pl_sharedWall 33 = .ok (.ifCond .ne 5, 3) := by decide +kernel
theorem nd_Pl_sharedWall_36 : decode nc_Pl_sharedWall 36 = .ok (.iconst (-1), 1) := by decide +kernel
theorem nd_Pl_sharedWall_37 : decode nc_Pl_sharedWall 37 = .ok (.ireturn, 1) := by decide +kernel
theorem nd_Pl_sharedWall_38 : decode nc_Pl_sharedWall 38 = .ok (.aload_n 0, 1) := by decide +kernel
theorem nd_Pl_sharedWall_39 : decode nc_Pl_sharedWall 39 = .ok (.getfield 57, 3) := by decide +kernel
theorem nd_Pl_sharedWall_42 : decode nc_Pl_sharedWall 42 = .ok (.iload_n 3, 1) := by decide +kernel
theorem nd_Pl_sharedWall_43 : decode nc_Pl_sharedWall 43 = .ok (.iaload, 1) := by decide +kernel
theorem nd_Pl_sharedWall_44 : decode nc_Pl_sharedWall 44 = .ok (.aload_n 0, 1) := by decide +kernel
theorem nd_Pl_sharedWall_45 : decode nc_Pl_sharedWall 45 = .ok (.iload_n 3, 1) := by decide +kernel
theorem nd_Pl_sharedWall_46 : decode nc_Pl_sharedWall 46 = .ok (.invokevirtual 95, 3) := by decide +kernel
theorem nd_Pl_sharedWall_49 : decode nc_Pl_sharedWall 49 = .ok (.iadd, 1) := by decide +kernel
theorem nd_Pl_sharedWall_50 : decode nc_Pl_sharedWall 50 = .ok (.istore 5, 2) := by decide +kernel
theorem nd_Pl_sharedWall_52 : decode nc_Pl_sharedWall 52 = .ok (.aload_n 0, 1) := by decide +kernel
theorem nd_Pl_sharedWall_53 : decode nc_Pl_sharedWall 53 = .ok (.getfield 57, 3) := by decide +kernel
theorem nd_Pl_sharedWall_56 : decode nc_Pl_sharedWall 56 = .ok (.iload 4, 2) := by decide +kernel
theorem nd_Pl_sharedWall_58 : decode nc_Pl_sharedWall 58 = .ok (.iaload, 1) := by decide +kernel
theorem nd_Pl_sharedWall_59 : decode nc_Pl_sharedWall 59 = .ok (.aload_n 0, 1) := by decide +kernel
theorem nd_Pl_sharedWall_60 : decode nc_Pl_sharedWall 60 = .ok (.iload 4, 2) := by decide +kernel
theorem nd_Pl_sharedWall_62 : decode nc_Pl_sharedWall 62 = .ok (.invokevirtual 95, 3) := by decide +kernel
theorem nd_Pl_sharedWall_65 : decode nc_Pl_sharedWall 65 = .ok (.iadd, 1) := by decide +kernel
theorem nd_Pl_sharedWall_66 : decode nc_Pl_sharedWall 66 = .ok (.istore 6, 2) := by decide +kernel
theorem nd_Pl_sharedWall_68 : decode nc_Pl_sharedWall 68 = .ok (.aload_n 0, 1) := by decide +kernel
theorem nd_Pl_sharedWall_69 : decode nc_Pl_sharedWall 69 = .ok (.getfield 60, 3) := by decide +kernel
theorem nd_Pl_sharedWall_72 : decode nc_Pl_sharedWall 72 = .ok (.iload_n 3, 1) := by decide +kernel
theorem nd_Pl_sharedWall_73 : decode nc_Pl_sharedWall 73 = .ok (.iaload, 1) := by decide +kernel
theorem nd_Pl_sharedWall_74 : decode nc_Pl_sharedWall 74 = .ok (.aload_n 0, 1) := by decide +kernel
theorem nd_Pl_sharedWall_75 : decode nc_Pl_sharedWall 75 = .ok (.iload_n 3, 1) := by decide +kernel
theorem nd_Pl_sharedWall_76 : decode nc_Pl_sharedWall 76 = .ok (.invokevirtual 98, 3) := by decide +kernel
theorem nd_Pl_sharedWall_79 : decode nc_Pl_sharedWall 79 = .ok (.iadd, 1) := by decide +kernel
theorem nd_Pl_sharedWall_80 : decode nc_Pl_sharedWall 80 = .ok (.istore 7, 2) := by decide +kernel
theorem nd_Pl_sharedWall_82 : decode nc_Pl_sharedWall 82 = .ok (.aload_n 0, 1) := by decide +kernel
theorem nd_Pl_sharedWall_83 : decode nc_Pl_sharedWall 83 = .ok (.getfield 60, 3) := by decide +kernel
theorem nd_Pl_sharedWall_86 : decode nc_Pl_sharedWall 86 = .ok (.iload 4, 2) := by decide +kernel
theorem nd_Pl_sharedWall_88 : decode nc_Pl_sharedWall 88 = .ok (.iaload, 1) := by decide +kernel
theorem nd_Pl_sharedWall_89 : decode nc_Pl_sharedWall 89 = .ok (.aload_n 0, 1) := by decide +kernel
theorem nd_Pl_sharedWall_90 : decode nc_Pl_sharedWall 90 = .ok (.iload 4, 2) := by decide +kernel
theorem nd_Pl_sharedWall_92 : decode nc_Pl_sharedWall 92 = .ok (.invokevirtual 98, 3) := by decide +kernel
theorem nd_Pl_sharedWall_95 : decode nc_Pl_sharedWall 95 = .ok (.iadd, 1) := by decide +kernel
theorem nd_Pl_sharedWall_96 : decode nc_Pl_sharedWall 96 = .ok (.istore 8, 2) := by decide +kernel
theorem nd_Pl_sharedWall_98 : decode nc_Pl_sharedWall 98 = .ok (.iconst 0, 1) := by decide +kernel
theorem nd_Pl_sharedWall_99 : decode nc_Pl_sharedWall 99 = .ok (.istore 9, 2) := by decide +kernel
theorem nd_Pl_sharedWall_101 : decode nc_Pl_sharedWall 101 = .ok (.iload 5, 2) := by decide +kernel
theorem nd_Pl_sharedWall_103 : decode nc_Pl_sharedWall 103 = .ok (.aload_n 0, 1) := by decide +kernel
theorem nd_Pl_sharedWall_104 : decode nc_Pl_sharedWall 104 = .ok (.getfield 57, 3) := by decide +kernel
theorem nd_Pl_sharedWall_107 : decode nc_Pl_sharedWall 107 = .ok (.iload 4, 2) := by decide +kernel
theorem nd_Pl_sharedWall_109 : decode nc_Pl_sharedWall 109 = .ok (.iaload, 1) := by decide +kernel
theorem nd_Pl_sharedWall_110 : decode nc_Pl_sharedWall 110 = .ok (.if_icmp .eq 14, 3) := by decide +kernel
theorem nd_Pl_sharedWall_113 : decode nc_Pl_sharedWall 113 = .ok (.iload 6, 2) := by decide +kernel
theorem nd_Pl_sharedWall_115 : decode nc_Pl_sharedWall 115 = .ok (.aload_n 0, 1) := by decide +kernel
theorem nd_Pl_sharedWall_116 : decode nc_Pl_sharedWall 116 = .ok (.getfield 57, 3) := by decide +kernel
theorem nd_Pl_sharedWall_119 : decode nc_Pl_sharedWall 119 = .ok (.iload_n 3, 1) := by decide +kernel
theorem nd_Pl_sharedWall_120 : decode nc_Pl_sharedWall 120 = .ok (.iaload, 1) := by decide +kernel
theorem nd_Pl_sharedWall_121 : decode nc_Pl_sharedWall 121 = .ok (.if_icmp .ne 32, 3) := by decide +kernel
theorem nd_Pl_sharedWall_124 : decode nc_Pl_sharedWall 124 = .ok (.iload 7, 2) := by decide +kernel
theorem nd_Pl_sharedWall_126 : decode nc_Pl_sharedWall 126 = .ok (.iload 8, 2) := by decide +kernel
theorem nd_Pl_sharedWall_128 : decode nc_Pl_sharedWall 128 = .ok (.invokestatic 101, 3) := by decide +kernel
theorem nd_Pl_sharedWall_131 : decode nc_Pl_sharedWall 131 = .ok (.aload_n 0, 1) := by decide +kernel
theorem nd_Pl_sharedWall_132 : decode nc_Pl_sharedWall 132 = .ok (.getfield 60, 3) := by decide +kernel
theorem nd_Pl_sharedWall_135 : decode nc_Pl_sharedWall 135 = .ok (.iload_n 3, 1) := by decide +kernel
theorem nd_Pl_sharedWall_136 : decode nc_Pl_sharedWall 136 = .ok (.iaload, 1) := by decide +kernel
theorem nd_Pl_sharedWall_137 : decode nc_Pl_sharedWall 137 = .ok (.aload_n 0, 1) := by decide +kernel
theorem nd_Pl_sharedWall_138 : decode nc_Pl_sharedWall 138 = .ok (.getfield 60, 3) := by decide +kernel
theorem nd_Pl_sharedWall_141 : decode nc_Pl_sharedWall 141 = .ok (.iload 4, 2) := by decide +kernel
theorem nd_Pl_sharedWall_143 : decode nc_Pl_sharedWall 143 = .ok (.iaload, 1) := by decide +kernel
theorem nd_Pl_sharedWall_144 : decode nc_Pl_sharedWall 144 = .ok (.invokestatic 107, 3) := by decide +kernel
theorem nd_Pl_sharedWall_147 : decode nc_Pl_sharedWall 147 = .ok (.isub, 1) := by decide +kernel
theorem nd_Pl_sharedWall_148 : decode nc_Pl_sharedWall 148 = .ok (.istore 9, 2) := by decide +kernel
theorem nd_Pl_sharedWall_150 : decode nc_Pl_sharedWall 150 = .ok (.goto 52, 3) := by decide +kernel
theorem nd_Pl_sharedWall_153 : decode nc_Pl_sharedWall 153 = .ok (.iload 7, 2) := by decide +kernel
theorem nd_Pl_sharedWall_155 : decode nc_Pl_sharedWall 155 = .ok (.aload_n 0, 1) := by decide +kernel
theorem nd_Pl_sharedWall_156 : decode nc_Pl_sharedWall 156 = .ok (.getfield 60, 3) := by decide +kernel
theorem nd_Pl_sharedWall_159 : decode nc_Pl_sharedWall 159 = .ok (.iload 4, 2) := by decide +kernel
theorem nd_Pl_sharedWall_161 : decode nc_Pl_sharedWall 161 = .ok (.iaload, 1) := by decide +kernel
theorem nd_Pl_sharedWall_162 : decode nc_Pl_sharedWall 162 = .ok (.if_icmp .eq 14, 3) := by decide +kernel
theorem nd_Pl_sharedWall_165 : decode nc_Pl_sharedWall 165 = .ok (.iload 8, 2) := by decide +kernel
theorem nd_Pl_sharedWall_167 : decode nc_Pl_sharedWall 167 = .ok (.aload_n 0, 1) := by decide +kernel
theorem nd_Pl_sharedWall_168 : decode nc_Pl_sharedWall 168 = .ok (.getfield 60, 3) := by decide +kernel
theorem nd_Pl_sharedWall_171 : decode nc_Pl_sharedWall 171 = .ok (.iload_n 3, 1) := by decide +kernel
theorem nd_Pl_sharedWall_172 : decode nc_Pl_sharedWall 172 = .ok (.iaload, 1) := by decide +kernel
theorem nd_Pl_sharedWall_173 : decode nc_Pl_sharedWall 173 = .ok (.if_icmp .ne 29, 3) := by decide +kernel
theorem nd_Pl_sharedWall_176 : decode nc_Pl_sharedWall 176 = .ok (.iload 5, 2) := by decide +kernel
theorem nd_Pl_sharedWall_178 : decode nc_Pl_sharedWall 178 = .ok (.iload 6, 2) := by decide +kernel
theorem nd_Pl_sharedWall_180 : decode nc_Pl_sharedWall 180 = .ok (.invokestatic 101, 3) := by decide +kernel
theorem nd_Pl_sharedWall_183 : decode nc_Pl_sharedWall 183 = .ok (.aload_n 0, 1) := by decide +kernel
theorem nd_Pl_sharedWall_184 : decode nc_Pl_sharedWall 184 = .ok (.getfield 57, 3) := by decide +kernel
theorem nd_Pl_sharedWall_187 : decode nc_Pl_sharedWall 187 = .ok (.iload_n 3, 1) := by decide +kernel
theorem nd_Pl_sharedWall_188 : decode nc_Pl_sharedWall 188 = .ok (.iaload, 1) := by decide +kernel
theorem nd_Pl_sharedWall_189 : decode nc_Pl_sharedWall 189 = .ok (.aload_n 0, 1) := by decide +kernel
theorem nd_Pl_sharedWall_190 : decode nc_Pl_sharedWall 190 = .ok (.getfield 57, 3) := by decide +kernel
theorem nd_Pl_sharedWall_193 : decode nc_Pl_sharedWall 193 = .ok (.iload 4, 2) := by decide +kernel
theorem nd_Pl_sharedWall_195 : decode nc_Pl_sharedWall 195 = .ok (.iaload, 1) := by decide +kernel
theorem nd_Pl_sharedWall_196 : decode nc_Pl_sharedWall 196 = .ok (.invokestatic 107, 3) := by decide +kernel
theorem nd_Pl_sharedWall_199 : decode nc_Pl_sharedWall 199 = .ok (.isub, 1) := by decide +kernel
theorem nd_Pl_sharedWall_200 : decode nc_Pl_sharedWall 200 = .ok (.istore 9, 2) := by decide +kernel
theorem nd_Pl_sharedWall_202 : decode nc_Pl_sharedWall 202 = .ok (.iload 9, 2) := by decide +kernel
theorem nd_Pl_sharedWall_204 : decode nc_Pl_sharedWall 204 = .ok (.iconst 0, 1) := by decide +kernel
theorem nd_Pl_sharedWall_205 : decode nc_Pl_sharedWall 205 = .ok (.invokestatic 107, 3) := by decide +kernel
theorem nd_Pl_sharedWall_208 : decode nc_Pl_sharedWall 208 = .ok (.ireturn, 1) := by decide +kernel
theorem nd_St_signAt_0 : decode nc_St_signAt 0 = .ok (.aload_n 0, 1) := by decide +kernel
theorem nd_St_signAt_1 : decode nc_St_signAt 1 = .ok (.iload_n 1, 1) := by decide +kernel
theorem nd_St_signAt_2 : decode nc_St_signAt 2 = .ok (.invokevirtual 65, 3) := by decide +kernel
theorem nd_St_signAt_5 : decode nc_St_signAt 5 = .ok (.ifCond .eq 12, 3) := by decide +kernel
theorem nd_St_signAt_8 : decode nc_St_signAt 8 = .ok (.aload_n 0, 1) := by decide +kernel
theorem nd_St_signAt_9 : decode nc_St_signAt 9 = .ok (.getfield 15, 3) := by decide +kernel
theorem nd_St_signAt_12 : decode nc_St_signAt 12 = .ok (.iload_n 1, 1) := by decide +kernel
theorem nd_St_signAt_13 : decode nc_St_signAt 13 = .ok (.iaload, 1) := by decide +kernel
theorem nd_St_signAt_14 : decode nc_St_signAt 14 = .ok (.goto 4, 3) := by decide +kernel
theorem nd_St_signAt_17 : decode nc_St_signAt 17 = .ok (.iconst (-1), 1) := by decide +kernel
theorem nd_St_signAt_18 : decode nc_St_signAt 18 = .ok (.ireturn, 1) := by decide +kernel
theorem nd_Ro_roomOfSign_0 : decode nc_Ro_roomOfSign 0 = .ok (.iload_n 0, 1) := by decide +kernel
theorem nd_Ro_roomOfSign_1 : decode nc_Ro_roomOfSign 1 = .ok (.bipush 48, 2) := by decide +kernel
theorem nd_Ro_roomOfSign_3 : decode nc_Ro_roomOfSign 3 = .ok (.if_icmp .lt 16, 3) := by decide +kernel
theorem nd_Ro_roomOfSign_6 : decode nc_Ro_roomOfSign 6 = .ok (.iload_n 0, 1) := by decide +kernel
theorem nd_Ro_roomOfSign_7 : decode nc_Ro_roomOfSign 7 = .ok (.bipush 57, 2) := by decide +kernel
theorem nd_Ro_roomOfSign_9 : decode nc_Ro_roomOfSign 9 = .ok (.if_icmp .gt 10, 3) := by decide +kernel
theorem nd_Ro_roomOfSign_12 : decode nc_Ro_roomOfSign 12 = .ok (.iload_n 0, 1) := by decide +kernel
theorem nd_Ro_roomOfSign_13 : decode nc_Ro_roomOfSign 13 = .ok (.bipush 48, 2) := by decide +kernel
theorem nd_Ro_roomOfSign_15 : decode nc_Ro_roomOfSign 15 = .ok (.isub, 1) := by decide +kernel
theorem nd_Ro_roomOfSign_16 : decode nc_Ro_roomOfSign 16 = .ok (.goto 4, 3) := by decide +kernel
theorem nd_Ro_roomOfSign_19 : decode nc_Ro_roomOfSign 19 = .ok (.iconst (-1), 1) := by decide +kernel
theorem nd_Ro_roomOfSign_20 : decode nc_Ro_roomOfSign 20 = .ok (.ireturn, 1) := by decide +kernel
theorem nd_St_roomAt_0 : decode nc_St_roomAt 0 = .ok (.aload_n 0, 1) := by decide +kernel
theorem nd_St_roomAt_1 : decode nc_St_roomAt 1 = .ok (.iload_n 1, 1) := by decide +kernel
theorem nd_St_roomAt_2 : decode nc_St_roomAt 2 = .ok (.invokevirtual 68, 3) := by decide +kernel
theorem nd_St_roomAt_5 : decode nc_St_roomAt 5 = .ok (.invokestatic 62, 3) := by decide +kernel
theorem nd_St_roomAt_8 : decode nc_St_roomAt 8 = .ok (.ireturn, 1) := by decide +kernel
theorem nd_St_firstOf_0 : decode nc_St_firstOf 0 = .ok (.aload_n 0, 1) := by decide +kernel
theorem nd_St_firstOf_1 : decode nc_St_firstOf 1 = .ok (.iload_n 1, 1) := by decide +kernel
theorem nd_St_firstOf_2 : decode nc_St_firstOf 2 = .ok (.invokevirtual 65, 3) := by decide +kernel
theorem nd_St_firstOf_5 : decode nc_St_firstOf 5 = .ok (.ifCond .eq 12, 3) := by decide +kernel
theorem nd_St_firstOf_8 : decode nc_St_firstOf 8 = .ok (.aload_n 0, 1) := by decide +kernel
theorem nd_St_firstOf_9 : decode nc_St_firstOf 9 = .ok (.getfield 19, 3) := by decide +kernel
theorem nd_St_firstOf_12 : decode nc_St_firstOf 12 = .ok (.iload_n 1, 1) := by decide +kernel
theorem nd_St_firstOf_13 : decode nc_St_firstOf 13 = .ok (.iaload, 1) := by decide +kernel
theorem nd_St_firstOf_14 : decode nc_St_firstOf 14 = .ok (.goto 4, 3) := by decide +kernel
theorem nd_St_firstOf_17 : decode nc_St_firstOf 17 = .ok (.iconst (-1), 1) := by decide +kernel
theorem nd_St_firstOf_18 : decode nc_St_firstOf 18 = .ok (.ireturn, 1) := by decide +kernel
theorem nd_St_secondOf_0 : decode nc_St_secondOf 0 = .ok (.aload_n 0, 1) := by decide +kernel
theorem nd_St_secondOf_1 : decode nc_St_secondOf 1 = .ok (.iload_n 1, 1) := by decide +kernel
theorem nd_St_secondOf_2 : decode nc_St_secondOf 2 = .ok (.invokevirtual 65, 3) := by decide +kernel
theorem nd_St_secondOf_5 : decode nc_St_secondOf 5 = .ok (.ifCond .eq 12, 3) := by decide +kernel
theorem nd_St_secondOf_8 : decode nc_St_secondOf 8 = .ok (.aload_n 0, 1) := by decide +kernel
theorem nd_St_secondOf_9 : decode nc_St_secondOf 9 = .ok (.getfield 22, 3) := by decide +kernel
theorem nd_St_secondOf_12 : decode nc_St_secondOf 12 = .ok (.iload_n 1, 1) := by decide +kernel
theorem nd_St_secondOf_13 : decode nc_St_secondOf 13 = .ok (.iaload, 1) := by decide +kernel
theorem nd_St_secondOf_14 : decode nc_St_secondOf 14 = .ok (.goto 4, 3) := by decide +kernel
theorem nd_St_secondOf_17 : decode nc_St_secondOf 17 = .ok (.iconst (-1), 1) := by decide +kernel
theorem nd_St_secondOf_18 : decode nc_St_secondOf 18 = .ok (.ireturn, 1) := by decide +kernel
theorem nd_Pl_join_0 : decode nc_Pl_join 0 = .ok (.aload_n 0, 1) := by decide +kernel
theorem nd_Pl_join_1 : decode nc_Pl_join 1 = .ok (.getfield 21, 3) := by decide +kernel
theorem nd_Pl_join_4 : decode nc_Pl_join 4 = .ok (.iload_n 1, 1) := by decide +kernel
theorem nd_Pl_join_5 : decode nc_Pl_join 5 = .ok (.invokevirtual 146, 3) := by decide +kernel
theorem nd_Pl_join_8 : decode nc_Pl_join 8 = .ok (.istore_n 2, 1) := by decide +kernel
theorem nd_Pl_join_9 : decode nc_Pl_join 9 = .ok (.aload_n 0, 1) := by decide +kernel
theorem nd_Pl_join_10 : decode nc_Pl_join 10 = .ok (.getfield 21, 3) := by decide +kernel
theorem nd_Pl_join_13 : decode nc_Pl_join 13 = .ok (.iload_n 1, 1) := by decide +kernel
theorem nd_Pl_join_14 : decode nc_Pl_join 14 = .ok (.invokevirtual 149, 3) := by decide +kernel
theorem nd_Pl_join_17 : decode nc_Pl_join 17 = .ok (.istore_n 3, 1) := by decide +kernel
theorem nd_Pl_join_18 : decode nc_Pl_join 18 = .ok (.aload_n 0, 1) := by decide +kernel
end
section
/-- the numbers that the cells hold: a cell's number, a place in it -/
abbrev rl_M : Type := Nat → Nat → Int32
/-- where the cells lie; numbers of classes and slots; the classes of int[], long[], Curve[] -/
abbrev rl_E : Type := (Nat → Nat) × va_G × ClassId × ClassId × ClassId
def rl_su (σ : rl_M) (a j : Nat) (v : Int32) : rl_M := fun k => if k = a then upd (σ a) j v else σ k
theorem rl_su_s (σ : rl_M) (a j : Nat) (v : Int32) : rl_su σ a j v a = upd (σ a) j v := if_pos rfl
theorem rl_su_n {σ : rl_M} {a j : Nat} {v : Int32} {k : Nat} (h : k ≠ a) : rl_su σ a j v k = σ k := if_neg h
def rl_ib (i : Int32) (n : Nat) : Bool := decide (0 ≤ i.toInt) && decide (i.toInt < (n : Int))
theorem rl_ib_in {i : Int32} {n : Nat} (h : rl_ib i n = true) : vp_in i n := by
  rw [vp_in_iff]; simpa [rl_ib] using h
def rl_zb (v : Int32) : Bool := decide (v = 0) || decide (v = 1)
theorem rl_if {α : Type} {c : Prop} {i : Decidable c} {a : Option α} {r : α} (h : @ite _ c i a none = some r) : c ∧ a = some r := by
  by_cases hc : c
  · rw [if_pos hc] at h; exact ⟨hc, h⟩
  · rw [if_neg hc] at h; cases h
theorem rl_ift {α : Type} {c : Prop} {i : Decidable c} {a b : Option α} {r : α} (hc : c) (h : @ite _ c i a b = some r) : a = some r := by rwa [if_pos hc] at h
theorem rl_iff {α : Type} {c : Prop} {i : Decidable c} {a b : Option α} {r : α} (hc : ¬ c) (h : @ite _ c i a b = some r) : b = some r := by rwa [if_neg hc] at h
theorem rl_bd {α β : Type} {x : Option α} {f : α → Option β} {r : β} (h : x.bind f = some r) : ∃ q, x = some q ∧ f q = some r := by
  cases x with
  | none => cases h
  | some q => exact ⟨q, rfl, h⟩
theorem rl_ns {α : Type} {r : α} (h : none = some r) : False := by cases h
abbrev rl_Cl : List vw_C := [(nR_Ro, nT_Ro, 3), (nR_Sr, nT_Sr, 2), (nR_Pl, nT_Pl, 12), (nR_Rl, nT_Rl, 4), (nR_St, nT_St, 7), (nR_Wl, nT_Wl, 4), (nR_Cu, nT_Cu, 3), (nR_Mo, nT_Mo, 27)]
def rl_N : Nat := 79
def rl_cv (i : Int32) : Nat := 23 + 3 * i.toNatClampNeg
def rl_cvb (a : Nat) : Bool := decide (23 ≤ a) && (decide (a < 59) && decide ((a - 23) % 3 = 0))
theorem rl_cvb_iff {a : Nat} : rl_cvb a = true ↔ 23 ≤ a ∧ a < 59 ∧ (a - 23) % 3 = 0 := by simp [rl_cvb]
theorem rl_cv56 : rl_cvb 56 = true := by decide
theorem rl_cv_ok {i : Int32} (h : rl_ib i 11 = true) : rl_cvb (rl_cv i) = true := by
  have h1 : i.toNatClampNeg < 11 := by
    have := rl_ib_in h
    exact Nat.not_le.mp fun q => this (Or.inr q)
  rw [rl_cvb_iff, rl_cv]; omega
def rl_lo (E : rl_E) (k : Nat) (f : Nat → Int32) : va_E := match k with
  | 0 => .inr (0, [.ref (E.1 1), .ref (E.1 3), .ref (E.1 19)])
  | 1 => .inr (1, [.int (f 0), .ref (E.1 2)])
  | 2 => .inl (E.2.2.1, 16, .inl f)
  | 3 => .inr (2, [.ref (E.1 4), .ref (E.1 8), .int (f 2), .int (f 3), .int (f 4), .int (f 5), .ref (E.1 15), .ref (E.1 56), .int (f 8), .ref (E.1 16), .ref (E.1 17), .ref (E.1 18)])
  | 4 => .inr (3, [.int (f 0), .ref (E.1 5), .ref (E.1 6), .ref (E.1 7)])
  | 5 => .inl (E.2.2.1, 6, .inl f)
  | 6 => .inl (E.2.2.1, 24, .inl f)
  | 7 => .inl (E.2.2.1, 24, .inl f)
  | 8 => .inr (4, [.int (f 0), .ref (E.1 9), .ref (E.1 10), .ref (E.1 11), .ref (E.1 12), .ref (E.1 13), .ref (E.1 14)])
  | 9 => .inl (E.2.2.1, 11, .inl f)
  | 10 => .inl (E.2.2.1, 11, .inl f)
  | 11 => .inl (E.2.2.1, 11, .inl f)
  | 12 => .inl (E.2.2.1, 11, .inl f)
  | 13 => .inl (E.2.2.1, 11, .inl f)
  | 14 => .inl (E.2.2.1, 6, .inl f)
  | 15 => .inl (E.2.2.2.2, 11, .inr (.inr (.inr (.inr (fun i => some (E.1 (23 + 3 * i)))))))
  | 16 => .inl (E.2.2.1, 11, .inl f)
  | 17 => .inl (E.2.2.1, 11, .inl f)
  | 18 => .inl (E.2.2.1, 11, .inl f)
  | 19 => .inr (5, [.int (f 0), .ref (E.1 20), .ref (E.1 21), .ref (E.1 22)])
  | 20 => .inl (E.2.2.1, 10, .inl f)
  | 21 => .inl (E.2.2.1, 10, .inl f)
  | _ => .inl (E.2.2.1, 10, .inl f)
def rl_hi (E : rl_E) (k : Nat) (f : Nat → Int32) : va_E := match k with
  | 0 => .inr (7, [.int (f 0), .int (f 1), .ref (E.1 60), .ref (E.1 61), .ref (E.1 62), .int (f 5), .int (f 6), .int (f 7), .ref (E.1 63), .int (f 9), .ref (E.1 64), .ref (E.1 65), .ref (E.1 66), .ref (E.1 67), .ref (E.1 68), .int (f 15), .int (f 16), .int (f 17), .ref (E.1 69), .ref (E.1 70), .ref (E.1 71), .ref (E.1 72), .ref (E.1 73), .ref (E.1 74), .ref (E.1 75), .ref (E.1 76), .ref (E.1 77)])
  | 1 => .inl (E.2.2.1, 6, .inl f)
  | 2 => .inl (E.2.2.1, 24, .inl f)
  | 3 => .inl (E.2.2.1, 24, .inl f)
  | 4 => .inl (E.2.2.1, 16, .inl f)
  | 5 => .inl (E.2.2.1, 10, .inl f)
  | 6 => .inl (E.2.2.1, 10, .inl f)
  | 7 => .inl (E.2.2.1, 10, .inl f)
  | 8 => .inl (E.2.2.1, 6, .inl f)
  | 9 => .inl (E.2.2.1, 6, .inl f)
  | 10 => .inl (E.2.2.1, 16, .inl f)
  | 11 => .inl (E.2.2.1, 16, .inl f)
  | 12 => .inl (E.2.2.1, 16, .inl f)
  | 13 => .inl (E.2.2.1, 16, .inl f)
  | 14 => .inl (E.2.2.1, 16, .inl f)
  | 15 => .inl (E.2.2.1, 16, .inl f)
  | 16 => .inl (E.2.2.1, 16, .inl f)
  | 17 => .inl (E.2.2.1, 401, .inl f)
  | 18 => .inl (E.2.2.1, 16, .inl f)
  | _ => .inl (E.2.2.2.1, 1, .inr (.inl (fun j => (f j).toInt64)))
def rl_cr (E : rl_E) (k : Nat) (f : Nat → Int32) : va_E :=
  if k < 23 then rl_lo E k f else if k < 59 then (if (k - 23) % 3 = 0 then .inr (6, [.int (f 0), .ref (E.1 (k + 1)), .ref (E.1 (k + 2))]) else .inl (E.2.2.1, 24, .inl f)) else rl_hi E (k - 59) f
theorem rl_o0 (E : rl_E) : 0 < rl_N ∧ ∀ f : Nat → Int32, rl_cr E 0 f = .inr (0, [.ref (E.1 1), .ref (E.1 3), .ref (E.1 19)]) := ⟨by decide, fun _ => rfl⟩
theorem rl_o1 (E : rl_E) : 1 < rl_N ∧ ∀ f : Nat → Int32, rl_cr E 1 f = .inr (1, [.int (f 0), .ref (E.1 2)]) := ⟨by decide, fun _ => rfl⟩
theorem rl_a2 (E : rl_E) : 2 < rl_N ∧ ∀ f : Nat → Int32, rl_cr E 2 f = .inl (E.2.2.1, 16, .inl f) := ⟨by decide, fun _ => rfl⟩
theorem rl_o3 (E : rl_E) : 3 < rl_N ∧ ∀ f : Nat → Int32, rl_cr E 3 f = .inr (2, [.ref (E.1 4), .ref (E.1 8), .int (f 2), .int (f 3), .int (f 4), .int (f 5), .ref (E.1 15), .ref (E.1 56), .int (f 8), .ref (E.1 16), .ref (E.1 17), .ref (E.1 18)]) := ⟨by decide, fun _ => rfl⟩
theorem rl_o4 (E : rl_E) : 4 < rl_N ∧ ∀ f : Nat → Int32, rl_cr E 4 f = .inr (3, [.int (f 0), .ref (E.1 5), .ref (E.1 6), .ref (E.1 7)]) := ⟨by decide, fun _ => rfl⟩
theorem rl_a5 (E : rl_E) : 5 < rl_N ∧ ∀ f : Nat → Int32, rl_cr E 5 f = .inl (E.2.2.1, 6, .inl f) := ⟨by decide, fun _ => rfl⟩
theorem rl_a6 (E : rl_E) : 6 < rl_N ∧ ∀ f : Nat → Int32, rl_cr E 6 f = .inl (E.2.2.1, 24, .inl f) := ⟨by decide, fun _ => rfl⟩
theorem rl_a7 (E : rl_E) : 7 < rl_N ∧ ∀ f : Nat → Int32, rl_cr E 7 f = .inl (E.2.2.1, 24, .inl f) := ⟨by decide, fun _ => rfl⟩
theorem rl_o8 (E : rl_E) : 8 < rl_N ∧ ∀ f : Nat → Int32, rl_cr E 8 f = .inr (4, [.int (f 0), .ref (E.1 9), .ref (E.1 10), .ref (E.1 11), .ref (E.1 12), .ref (E.1 13), .ref (E.1 14)]) := ⟨by decide, fun _ => rfl⟩
theorem rl_a9 (E : rl_E) : 9 < rl_N ∧ ∀ f : Nat → Int32, rl_cr E 9 f = .inl (E.2.2.1, 11, .inl f) := ⟨by decide, fun _ => rfl⟩
theorem rl_a10 (E : rl_E) : 10 < rl_N ∧ ∀ f : Nat → Int32, rl_cr E 10 f = .inl (E.2.2.1, 11, .inl f) := ⟨by decide, fun _ => rfl⟩
theorem rl_a11 (E : rl_E) : 11 < rl_N ∧ ∀ f : Nat → Int32, rl_cr E 11 f = .inl (E.2.2.1, 11, .inl f) := ⟨by decide, fun _ => rfl⟩
theorem rl_a12 (E : rl_E) : 12 < rl_N ∧ ∀ f : Nat → Int32, rl_cr E 12 f = .inl (E.2.2.1, 11, .inl f) := ⟨by decide, fun _ => rfl⟩
theorem rl_a13 (E : rl_E) : 13 < rl_N ∧ ∀ f : Nat → Int32, rl_cr E 13 f = .inl (E.2.2.1, 11, .inl f) := ⟨by decide, fun _ => rfl⟩
theorem rl_a14 (E : rl_E) : 14 < rl_N ∧ ∀ f : Nat → Int32, rl_cr E 14 f = .inl (E.2.2.1, 6, .inl f) := ⟨by decide, fun _ => rfl⟩
theorem rl_a15 (E : rl_E) : 15 < rl_N ∧ ∀ f, rl_cr E 15 f = .inl (E.2.2.2.2, 11, .inr (.inr (.inr (.inr (fun i => some (E.1 (23 + 3 * i))))))) := ⟨by decide, fun _ => rfl⟩
theorem rl_a16 (E : rl_E) : 16 < rl_N ∧ ∀ f : Nat → Int32, rl_cr E 16 f = .inl (E.2.2.1, 11, .inl f) := ⟨by decide, fun _ => rfl⟩
theorem rl_a17 (E : rl_E) : 17 < rl_N ∧ ∀ f : Nat → Int32, rl_cr E 17 f = .inl (E.2.2.1, 11, .inl f) := ⟨by decide, fun _ => rfl⟩
theorem rl_a18 (E : rl_E) : 18 < rl_N ∧ ∀ f : Nat → Int32, rl_cr E 18 f = .inl (E.2.2.1, 11, .inl f) := ⟨by decide, fun _ => rfl⟩
theorem rl_o19 (E : rl_E) : 19 < rl_N ∧ ∀ f : Nat → Int32, rl_cr E 19 f = .inr (5, [.int (f 0), .ref (E.1 20), .ref (E.1 21), .ref (E.1 22)]) := ⟨by decide, fun _ => rfl⟩
theorem rl_a20 (E : rl_E) : 20 < rl_N ∧ ∀ f : Nat → Int32, rl_cr E 20 f = .inl (E.2.2.1, 10, .inl f) := ⟨by decide, fun _ => rfl⟩
theorem rl_a21 (E : rl_E) : 21 < rl_N ∧ ∀ f : Nat → Int32, rl_cr E 21 f = .inl (E.2.2.1, 10, .inl f) := ⟨by decide, fun _ => rfl⟩
theorem rl_a22 (E : rl_E) : 22 < rl_N ∧ ∀ f : Nat → Int32, rl_cr E 22 f = .inl (E.2.2.1, 10, .inl f) := ⟨by decide, fun _ => rfl⟩
theorem rl_o59 (E : rl_E) : 59 < rl_N ∧ ∀ f : Nat → Int32, rl_cr E 59 f = .inr (7, [.int (f 0), .int (f 1), .ref (E.1 60), .ref (E.1 61), .ref (E.1 62), .int (f 5), .int (f 6), .int (f 7), .ref (E.1 63), .int (f 9), .ref (E.1 64), .ref (E.1 65), .ref (E.1 66), .ref (E.1 67), .ref (E.1 68), .int (f 15), .int (f 16), .int (f 17), .ref (E.1 69), .ref (E.1 70), .ref (E.1 71), .ref (E.1 72), .ref (E.1 73), .ref (E.1 74), .ref (E.1 75), .ref (E.1 76), .ref (E.1 77)]) := ⟨by decide, fun _ => rfl⟩
theorem rl_a60 (E : rl_E) : 60 < rl_N ∧ ∀ f : Nat → Int32, rl_cr E 60 f = .inl (E.2.2.1, 6, .inl f) := ⟨by decide, fun _ => rfl⟩
theorem rl_a61 (E : rl_E) : 61 < rl_N ∧ ∀ f : Nat → Int32, rl_cr E 61 f = .inl (E.2.2.1, 24, .inl f) := ⟨by decide, fun _ => rfl⟩
theorem rl_a62 (E : rl_E) : 62 < rl_N ∧ ∀ f : Nat → Int32, rl_cr E 62 f = .inl (E.2.2.1, 24, .inl f) := ⟨by decide, fun _ => rfl⟩
theorem rl_a63 (E : rl_E) : 63 < rl_N ∧ ∀ f : Nat → Int32, rl_cr E 63 f = .inl (E.2.2.1, 16, .inl f) := ⟨by decide, fun _ => rfl⟩
theorem rl_a64 (E : rl_E) : 64 < rl_N ∧ ∀ f : Nat → Int32, rl_cr E 64 f = .inl (E.2.2.1, 10, .inl f) := ⟨by decide, fun _ => rfl⟩
theorem rl_a65 (E : rl_E) : 65 < rl_N ∧ ∀ f : Nat → Int32, rl_cr E 65 f = .inl (E.2.2.1, 10, .inl f) := ⟨by decide, fun _ => rfl⟩
theorem rl_a66 (E : rl_E) : 66 < rl_N ∧ ∀ f : Nat → Int32, rl_cr E 66 f = .inl (E.2.2.1, 10, .inl f) := ⟨by decide, fun _ => rfl⟩
theorem rl_a67 (E : rl_E) : 67 < rl_N ∧ ∀ f : Nat → Int32, rl_cr E 67 f = .inl (E.2.2.1, 6, .inl f) := ⟨by decide, fun _ => rfl⟩
theorem rl_a68 (E : rl_E) : 68 < rl_N ∧ ∀ f : Nat → Int32, rl_cr E 68 f = .inl (E.2.2.1, 6, .inl f) := ⟨by decide, fun _ => rfl⟩
theorem rl_a69 (E : rl_E) : 69 < rl_N ∧ ∀ f : Nat → Int32, rl_cr E 69 f = .inl (E.2.2.1, 16, .inl f) := ⟨by decide, fun _ => rfl⟩
theorem rl_a70 (E : rl_E) : 70 < rl_N ∧ ∀ f : Nat → Int32, rl_cr E 70 f = .inl (E.2.2.1, 16, .inl f) := ⟨by decide, fun _ => rfl⟩
theorem rl_a71 (E : rl_E) : 71 < rl_N ∧ ∀ f : Nat → Int32, rl_cr E 71 f = .inl (E.2.2.1, 16, .inl f) := ⟨by decide, fun _ => rfl⟩
theorem rl_a72 (E : rl_E) : 72 < rl_N ∧ ∀ f : Nat → Int32, rl_cr E 72 f = .inl (E.2.2.1, 16, .inl f) := ⟨by decide, fun _ => rfl⟩
theorem rl_a73 (E : rl_E) : 73 < rl_N ∧ ∀ f : Nat → Int32, rl_cr E 73 f = .inl (E.2.2.1, 16, .inl f) := ⟨by decide, fun _ => rfl⟩
theorem rl_a74 (E : rl_E) : 74 < rl_N ∧ ∀ f : Nat → Int32, rl_cr E 74 f = .inl (E.2.2.1, 16, .inl f) := ⟨by decide, fun _ => rfl⟩
theorem rl_a75 (E : rl_E) : 75 < rl_N ∧ ∀ f : Nat → Int32, rl_cr E 75 f = .inl (E.2.2.1, 16, .inl f) := ⟨by decide, fun _ => rfl⟩
theorem rl_a76 (E : rl_E) : 76 < rl_N ∧ ∀ f : Nat → Int32, rl_cr E 76 f = .inl (E.2.2.1, 401, .inl f) := ⟨by decide, fun _ => rfl⟩
theorem rl_a77 (E : rl_E) : 77 < rl_N ∧ ∀ f : Nat → Int32, rl_cr E 77 f = .inl (E.2.2.1, 16, .inl f) := ⟨by decide, fun _ => rfl⟩
theorem rl_a78 (E : rl_E) : 78 < rl_N ∧ ∀ f : Nat → Int32, rl_cr E 78 f = .inl (E.2.2.2.1, 1, .inr (.inl (fun j => (f j).toInt64))) := ⟨by decide, fun _ => rfl⟩
theorem rl_oC {E : rl_E} {a : Nat} (h : rl_cvb a = true) : a < rl_N ∧ ∀ f : Nat → Int32, rl_cr E a f = .inr (6, [.int (f 0), .ref (E.1 (a + 1)), .ref (E.1 (a + 2))]) := by
  rw [rl_cvb_iff] at h
  refine ⟨by unfold rl_N; omega, fun f => ?_⟩
  rw [rl_cr, if_neg (by omega), if_pos (by omega), if_pos (by omega)]
theorem rl_aC1 {E : rl_E} {a : Nat} (h : rl_cvb a = true) : a + 1 < rl_N ∧ ∀ f : Nat → Int32, rl_cr E (a + 1) f = .inl (E.2.2.1, 24, .inl f) := by
  rw [rl_cvb_iff] at h
  refine ⟨by unfold rl_N; omega, fun f => ?_⟩
  rw [rl_cr, if_neg (by omega), if_pos (by omega), if_neg (by omega)]
theorem rl_aC2 {E : rl_E} {a : Nat} (h : rl_cvb a = true) : a + 2 < rl_N ∧ ∀ f : Nat → Int32, rl_cr E (a + 2) f = .inl (E.2.2.1, 24, .inl f) := by
  rw [rl_cvb_iff] at h
  refine ⟨by unfold rl_N; omega, fun f => ?_⟩
  rw [rl_cr, if_neg (by omega), if_pos (by omega), if_neg (by omega)]
def rl_wo (E : rl_E) (σ : rl_M) : va_W := (List.range rl_N).map (fun k => (E.1 k, rl_cr E k (σ k)))
theorem rl_wo_at {E : rl_E} {σ : rl_M} {a : Nat} (h : a < rl_N) : (rl_wo E σ)[a]? = some (E.1 a, rl_cr E a (σ a)) := by
  unfold rl_wo
  rw [List.getElem?_map, List.getElem?_range h]; rfl
theorem rl_wo_of {E : rl_E} {σ : rl_M} {k : Nat} {q : Nat × va_E} (h : (rl_wo E σ)[k]? = some q) : k < rl_N ∧ q = (E.1 k, rl_cr E k (σ k)) := by
  by_cases hk : k < rl_N
  · rw [rl_wo_at hk] at h
    exact ⟨hk, (Option.some.inj h).symm⟩
  · have : (rl_wo E σ).length ≤ k := by unfold rl_wo; rw [List.length_map, List.length_range]; omega
    rw [List.getElem?_eq_none this] at h
    cases h
theorem rl_wo_set {E : rl_E} {σ : rl_M} {a j : Nat} {v : Int32} (h : a < rl_N) : (rl_wo E σ).set a (E.1 a, rl_cr E a (upd (σ a) j v)) = rl_wo E (rl_su σ a j v) := by
  apply List.ext_getElem?
  intro i
  have hlen : ∀ τ : rl_M, (rl_wo E τ).length = rl_N := fun τ => by unfold rl_wo; rw [List.length_map, List.length_range]
  by_cases hi : i = a
  · subst hi
    rw [List.getElem?_set_self (by rw [hlen]; exact h), rl_wo_at h, rl_su_s]
  · rw [List.getElem?_set_ne (Ne.symm hi)]
    by_cases hN : i < rl_N
    · rw [rl_wo_at hN, rl_wo_at hN, rl_su_n hi]
    · rw [List.getElem?_eq_none (by rw [hlen]; omega), List.getElem?_eq_none (by rw [hlen]; omega)]
def rl_A (E : rl_E) : Nat → Prop := fun q => ∃ k, k < rl_N ∧ q = E.1 k
/-- what else is carried: links into the nest, the texts of the exceptions, two statics of Throwable -/
def rl_Ex (E : rl_E) (U : State) : Prop :=
  (va_Nw (.methodLinkNest nR_Sr 23 ny_Ro_roomOfSign nR_Ro) U ∧ va_Nw (.methodLinkNest nR_Sr 31 ny_Ro_joins nR_Ro) U ∧ va_Nw (.methodLinkNest nR_St 62 ny_Ro_roomOfSign nR_Ro) U ∧ va_Nw (.methodLinkNest nR_St 54 ny_Ro_joins nR_Ro) U) ∧
  ((∃ a, vk_R nR_Ro 42 "there are 6 rooms" a U) ∧ (∃ a, vk_R nR_Ro 176 "a number is out of its bounds" a U) ∧ (∃ a, vk_R nR_Ro 63 "the room has 4 sizes" a U) ∧ (∃ a, vk_R nR_Ro 178 "k is below 0" a U) ∧ (∃ a, vk_R nR_Ro 173 "both rooms are one" a U) ∧ (∃ a, vk_R nR_Ro 142 "there are 10 wishes" a U)) ∧
  va_Zq "java/lang/Throwable" "UNASSIGNED_STACK" "[Ljava/lang/StackTraceElement;" (rl_A E) U U.heap ∧ va_Zq "java/lang/Throwable" "SUPPRESSED_SENTINEL" "Ljava/util/List;" (rl_A E) U U.heap
theorem rl_Ex.moved {E : rl_E} {u U : State} (hW : u.WarmedH U.vm) (hq : ∀ a : Nat, a < u.heap.size → ¬ rl_A E a → U.heap[a]? = u.heap[a]?) (h : rl_Ex E u) : rl_Ex E U := by
  obtain ⟨⟨n1, n2, n3, n4⟩, ⟨⟨a1, s1⟩, ⟨a2, s2⟩, ⟨a3, s3⟩, ⟨a4, s4⟩, ⟨a5, s5⟩, ⟨a6, s6⟩⟩, z1, z2⟩ := h
  exact ⟨⟨n1.warmM hW, n2.warmM hW, n3.warmM hW, n4.warmM hW⟩, ⟨⟨a1, s1.warm hW⟩, ⟨a2, s2.warm hW⟩, ⟨a3, s3.warm hW⟩, ⟨a4, s4.warm hW⟩, ⟨a5, s5.warm hW⟩, ⟨a6, s6.warm hW⟩⟩, (z1.moved hW.alike).kept hq, (z2.moved hW.alike).kept hq⟩
theorem rl_Ex.same {E : rl_E} {u U : State} (hv : U.vm = u.vm) (hh : U.heap = u.heap) (h : rl_Ex E u) : rl_Ex E U := by
  obtain ⟨⟨n1, n2, n3, n4⟩, ⟨⟨a1, s1⟩, ⟨a2, s2⟩, ⟨a3, s3⟩, ⟨a4, s4⟩, ⟨a5, s5⟩, ⟨a6, s6⟩⟩, z1, z2⟩ := h
  have al : u.vm.Alike U.vm := by rw [hv]; exact Vm.Alike.refl _
  exact ⟨⟨n1.same rfl hv.symm, n2.same rfl hv.symm, n3.same rfl hv.symm, n4.same rfl hv.symm⟩, ⟨⟨a1, s1.same hv⟩, ⟨a2, s2.same hv⟩, ⟨a3, s3.same hv⟩, ⟨a4, s4.same hv⟩, ⟨a5, s5.same hv⟩, ⟨a6, s6.same hv⟩⟩, by rw [hh]; exact z1.moved al, by rw [hh]; exact z2.moved al⟩
def rl_Ok (E : rl_E) (U : State) : Prop := va_K E.2.1 rl_Cl [(E.2.2.1, .int), (E.2.2.2.1, .long), (E.2.2.2.2, .object "RoomLayouts$Curve")] U ∧ (∀ i j, i < rl_N → j < rl_N → E.1 i = E.1 j → i = j) ∧ rl_Ex E U
theorem rl_Ok.moved {E : rl_E} {u U : State} (hW : u.WarmedH U.vm) (hq : ∀ a : Nat, a < u.heap.size → ¬ rl_A E a → U.heap[a]? = u.heap[a]?) (h : rl_Ok E u) : rl_Ok E U := ⟨va_K.moved hW.alike h.1, h.2.1, h.2.2.moved hW hq⟩
theorem rl_D {E : rl_E} {U : State} (hO : rl_Ok E U) (σ : rl_M) : va_D (rl_A E) (rl_wo E σ) := by
  refine ⟨fun i j p q hi hj hpq => ?_, fun k q hk => ?_⟩
  · obtain ⟨a1, a2⟩ := rl_wo_of hi
    obtain ⟨b1, b2⟩ := rl_wo_of hj
    rw [a2, b2] at hpq
    exact hO.2.1 i j a1 b1 hpq
  · obtain ⟨a1, a2⟩ := rl_wo_of hk
    exact ⟨k, a1, by rw [a2]⟩
def rl_P (E : rl_E) (av : List Value) (σ : rl_M) : Array Value → State → Prop := va_Pc av (fun U => va_P E.2.1 rl_Cl (rl_wo E σ) U.heap ∧ rl_Ok E U)
theorem rl_P_blind (E : rl_E) (av : List Value) (σ : rl_M) : FrameBlind (rl_P E av σ) := fun a U g mk q => by
  obtain ⟨q0, q1, q2⟩ := q
  exact ⟨q0, q1, va_K.moved (u := U) (U := U.calling g mk a) (Vm.Alike.refl U.vm) q2.1, q2.2.1, q2.2.2.same (U := U.calling g mk a) rfl rfl⟩
def rl_Q (E : rl_E) (v : Option Value) (σ : rl_M) : Array Value → State → Outcome → State → Prop := fun _ st oc t => oc = .returned v ∧ va_P E.2.1 rl_Cl (rl_wo E σ) t.heap ∧ va_F (rl_A E) st t
def rl_rv : Int32 → Option Value := fun _ => none
def rl_ri : Int32 → Option Value := fun v => some (.int v)
def rl_QM (below : List Frame) (args : Array Value) (s : State) (E : rl_E) (rv : Int32 → Option Value) (r : Int32 × rl_M) : State → Prop := MQ below (rl_Q E (rv r.1) r.2) args s 0 0 (rl_A E)
/-- THE JUDGEMENT: from the frame at pc with these locals and this stack, over every heap that holds the cells with the numbers σ, the machine comes to a state with Q -/
def rl_G (p : Program) (l : Launch) (e : Env) (R : Room) (s : State) (m : MethodId) (args : Array Value) (below : List Frame) (meth : Method) (c : Code) (nL : Nat) (E : rl_E) (cells slots : Nat) (Q : State → Prop) (σ : rl_M) (pc : Nat) (L : List (Nat × Value)) (st : List Value) : Prop :=
  ∀ (H : Heap) (locs : List Loc) (ls : Array Slot), va_P E.2.1 rl_Cl (rl_wo E σ) H → va_S (rl_A E) s.heap H locs → lv_has ls nL L → W p l e R s m args below meth c H locs cells slots Q (F0 m pc ls st)
theorem rl_TT_good : rl_TT.all goodWord = true := List.all_eq_true.mpr fun w h => (List.mem_filter.mp h).2
theorem rl_gd {w : Cond} (h : w ∈ rl_TT) : w ∈ rl_TT ∧ ((w.onTables && w.keeps) = true ∨ ∃ ty, w = .arrayClass ty) := ⟨h, good_of_word (List.all_eq_true.mp rl_TT_good w h)⟩
theorem rl_GI {w : Cond} (h : w ∈ rl_TT) : GoodIn rl_TT (w :: rl_TT) := fun z hz => by
  rcases List.mem_cons.mp hz with h1 | h1
  · rw [h1]; exact rl_gd h
  · exact rl_gd h1
section RLG
variable {p : Program} {l : Launch} {e : Env} {R : Room} {s : State} {m : MethodId} {args : Array Value} {below : List Frame} {meth : Method} {c : Code} {cells slots : Nat} {Q : State → Prop}
variable {cc : ByteArray} {nL : Nat} {Ts : List Cond} {own : String} {E : rl_E} {σ : rl_M} {pc : Nat} {L : List (Nat × Value)} {st : List Value}
theorem rl_iconst (Γ : CallFix p m c cc nL s args Ts own) {n : Int} {v : Int32} (d : decode cc pc = .ok (.iconst n, 1)) (hv : Int32.ofInt n = v) (k : rl_G p l e R s m args below meth c nL E cells slots Q σ (pc + 1) L (.int v :: st)) : rl_G p l e R s m args below meth c nL E cells slots Q σ (pc) L st := fun H locs ls h1 h2 h3 => lv_iconst Γ.1 Γ.2.1 d hv (k H locs ls h1 h2 h3)
theorem rl_bipush (Γ : CallFix p m c cc nL s args Ts own) {n : Int} {v : Int32} (d : decode cc pc = .ok (.bipush n, 2)) (hv : (Int8.ofInt n).toInt32 = v) (k : rl_G p l e R s m args below meth c nL E cells slots Q σ (pc + 2) L (.int v :: st)) : rl_G p l e R s m args below meth c nL E cells slots Q σ (pc) L st := fun H locs ls h1 h2 h3 => lv_bipush Γ.1 Γ.2.1 d hv (k H locs ls h1 h2 h3)
theorem rl_sipush (Γ : CallFix p m c cc nL s args Ts own) {n : Int} {v : Int32} (d : decode cc pc = .ok (.sipush n, 3)) (hv : (Int16.ofInt n).toInt32 = v) (k : rl_G p l e R s m args below meth c nL E cells slots Q σ (pc + 3) L (.int v :: st)) : rl_G p l e R s m args below meth c nL E cells slots Q σ (pc) L st := fun H locs ls h1 h2 h3 => lv_sipush Γ.1 Γ.2.1 d hv (k H locs ls h1 h2 h3)
theorem rl_ldc (Γ : CallFix p m c cc nL s args Ts own) {v : Int32} {index : Nat} (d : decode cc pc = .ok (.ldc index, 2)) (hc : (Jvm.Cond.constant own index v).before args s = true) (k : rl_G p l e R s m args below meth c nL E cells slots Q σ (pc + 2) L (.int v :: st)) : rl_G p l e R s m args below meth c nL E cells slots Q σ (pc) L st := fun H locs ls h1 h2 h3 => lv_ldc Γ.1 Γ.2.1 Γ.2.2.2.1 hc d (k H locs ls h1 h2 h3)
theorem rl_lconst (Γ : CallFix p m c cc nL s args Ts own) {n : Fin 2} {v : Int64} (d : decode cc pc = .ok (.lconst n, 1)) (hv : Int64.ofNat (n : Nat) = v) (k : rl_G p l e R s m args below meth c nL E cells slots Q σ (pc + 1) L (.long v :: st)) : rl_G p l e R s m args below meth c nL E cells slots Q σ (pc) L st := fun H locs ls h1 h2 h3 => lv_lconst Γ.1 Γ.2.1 d hv (k H locs ls h1 h2 h3)
theorem rl_iload_n (Γ : CallFix p m c cc nL s args Ts own) {z : Fin 4} {x : Int32} (d : decode cc pc = .ok (.iload_n z, 1)) (j : Nat) (hl : L[j]? = some ((z : Nat), .int x)) (k : rl_G p l e R s m args below meth c nL E cells slots Q σ (pc + 1) L (.int x :: st)) : rl_G p l e R s m args below meth c nL E cells slots Q σ (pc) L st := fun H locs ls h1 h2 h3 => lv_iload_n Γ.1 Γ.2.1 d rfl (lv_at h3 j hl) (k H locs ls h1 h2 h3)
theorem rl_iload (Γ : CallFix p m c cc nL s args Ts own) {z : Nat} {x : Int32} (d : decode cc pc = .ok (.iload z, 2)) (j : Nat) (hl : L[j]? = some (z, .int x)) (k : rl_G p l e R s m args below meth c nL E cells slots Q σ (pc + 2) L (.int x :: st)) : rl_G p l e R s m args below meth c nL E cells slots Q σ (pc) L st := fun H locs ls h1 h2 h3 => lv_iload Γ.1 Γ.2.1 d (lv_at h3 j hl) (k H locs ls h1 h2 h3)
theorem rl_lload_n (Γ : CallFix p m c cc nL s args Ts own) {z : Fin 4} {x : Int64} (d : decode cc pc = .ok (.lload_n z, 1)) (j : Nat) (hl : L[j]? = some ((z : Nat), .long x)) (k : rl_G p l e R s m args below meth c nL E cells slots Q σ (pc + 1) L (.long x :: st)) : rl_G p l e R s m args below meth c nL E cells slots Q σ (pc) L st := fun H locs ls h1 h2 h3 => lv_lload_n Γ.1 Γ.2.1 d rfl (lv_at h3 j hl) (k H locs ls h1 h2 h3)
theorem rl_lload (Γ : CallFix p m c cc nL s args Ts own) {z : Nat} {x : Int64} (d : decode cc pc = .ok (.lload z, 2)) (j : Nat) (hl : L[j]? = some (z, .long x)) (k : rl_G p l e R s m args below meth c nL E cells slots Q σ (pc + 2) L (.long x :: st)) : rl_G p l e R s m args below meth c nL E cells slots Q σ (pc) L st := fun H locs ls h1 h2 h3 => lv_lload Γ.1 Γ.2.1 d (lv_at h3 j hl) (k H locs ls h1 h2 h3)
theorem rl_aload_n (Γ : CallFix p m c cc nL s args Ts own) {z : Fin 4} {x : Nat} (d : decode cc pc = .ok (.aload_n z, 1)) (j : Nat) (hl : L[j]? = some ((z : Nat), .ref x)) (k : rl_G p l e R s m args below meth c nL E cells slots Q σ (pc + 1) L (.ref x :: st)) : rl_G p l e R s m args below meth c nL E cells slots Q σ (pc) L st := fun H locs ls h1 h2 h3 => lv_aload_n Γ.1 Γ.2.1 d rfl (lv_at h3 j hl) (k H locs ls h1 h2 h3)
theorem rl_aload (Γ : CallFix p m c cc nL s args Ts own) {z : Nat} {x : Nat} (d : decode cc pc = .ok (.aload z, 2)) (j : Nat) (hl : L[j]? = some (z, .ref x)) (k : rl_G p l e R s m args below meth c nL E cells slots Q σ (pc + 2) L (.ref x :: st)) : rl_G p l e R s m args below meth c nL E cells slots Q σ (pc) L st := fun H locs ls h1 h2 h3 => lv_aload Γ.1 Γ.2.1 d (lv_at h3 j hl) (k H locs ls h1 h2 h3)
theorem rl_istore_n (Γ : CallFix p m c cc nL s args Ts own) {z : Fin 4} {x : Int32} {L' : List (Nat × Value)} (d : decode cc pc = .ok (.istore_n z, 1)) (hn : (z : Nat) < nL) (hl : ((z : Nat), Value.int x) :: L.filter (fun q => !(q.1 == (z : Nat)) && !(q.1 + 1 == (z : Nat) && q.2.category == 2)) = L') (k : rl_G p l e R s m args below meth c nL E cells slots Q σ (pc + 1) L' st) : rl_G p l e R s m args below meth c nL E cells slots Q σ (pc) L (.int x :: st) := fun H locs ls h1 h2 h3 => lv_istore_n Γ.1 Γ.2.1 d rfl h3 hn hl (fun ls' h => k H locs ls' h1 h2 h)
theorem rl_istore (Γ : CallFix p m c cc nL s args Ts own) {z : Nat} {x : Int32} {L' : List (Nat × Value)} (d : decode cc pc = .ok (.istore z, 2)) (hn : z < nL) (hl : (z, Value.int x) :: L.filter (fun q => !(q.1 == z) && !(q.1 + 1 == z && q.2.category == 2)) = L') (k : rl_G p l e R s m args below meth c nL E cells slots Q σ (pc + 2) L' st) : rl_G p l e R s m args below meth c nL E cells slots Q σ (pc) L (.int x :: st) := fun H locs ls h1 h2 h3 => lv_istore Γ.1 Γ.2.1 d h3 hn hl (fun ls' h => k H locs ls' h1 h2 h)
theorem rl_lstore_n (Γ : CallFix p m c cc nL s args Ts own) {z : Fin 4} {x : Int64} {L' : List (Nat × Value)} (d : decode cc pc = .ok (.lstore_n z, 1)) (hn : (z : Nat) + 1 < nL) (hl : ((z : Nat), Value.long x) :: L.filter (fun q => !(q.1 == (z : Nat)) && (!(q.1 == (z : Nat) + 1) && !(q.1 + 1 == (z : Nat) && q.2.category == 2))) = L') (k : rl_G p l e R s m args below meth c nL E cells slots Q σ (pc + 1) L' st) : rl_G p l e R s m args below meth c nL E cells slots Q σ (pc) L (.long x :: st) := fun H locs ls h1 h2 h3 => lv_lstore_n Γ.1 Γ.2.1 d rfl h3 hn hl (fun ls' h => k H locs ls' h1 h2 h)
theorem rl_lstore (Γ : CallFix p m c cc nL s args Ts own) {z : Nat} {x : Int64} {L' : List (Nat × Value)} (d : decode cc pc = .ok (.lstore z, 2)) (hn : z + 1 < nL) (hl : (z, Value.long x) :: L.filter (fun q => !(q.1 == z) && (!(q.1 == z + 1) && !(q.1 + 1 == z && q.2.category == 2))) = L') (k : rl_G p l e R s m args below meth c nL E cells slots Q σ (pc + 2) L' st) : rl_G p l e R s m args below meth c nL E cells slots Q σ (pc) L (.long x :: st) := fun H locs ls h1 h2 h3 => lv_lstore Γ.1 Γ.2.1 d h3 hn hl (fun ls' h => k H locs ls' h1 h2 h)
theorem rl_astore_n (Γ : CallFix p m c cc nL s args Ts own) {z : Fin 4} {x : Nat} {L' : List (Nat × Value)} (d : decode cc pc = .ok (.astore_n z, 1)) (hn : (z : Nat) < nL) (hl : ((z : Nat), Value.ref x) :: L.filter (fun q => !(q.1 == (z : Nat)) && !(q.1 + 1 == (z : Nat) && q.2.category == 2)) = L') (k : rl_G p l e R s m args below meth c nL E cells slots Q σ (pc + 1) L' st) : rl_G p l e R s m args below meth c nL E cells slots Q σ (pc) L (.ref x :: st) := fun H locs ls h1 h2 h3 => lv_astore_n Γ.1 Γ.2.1 d rfl h3 hn hl (fun ls' h => k H locs ls' h1 h2 h)
theorem rl_astore (Γ : CallFix p m c cc nL s args Ts own) {z : Nat} {x : Nat} {L' : List (Nat × Value)} (d : decode cc pc = .ok (.astore z, 2)) (hn : z < nL) (hl : (z, Value.ref x) :: L.filter (fun q => !(q.1 == z) && !(q.1 + 1 == z && q.2.category == 2)) = L') (k : rl_G p l e R s m args below meth c nL E cells slots Q σ (pc + 2) L' st) : rl_G p l e R s m args below meth c nL E cells slots Q σ (pc) L (.ref x :: st) := fun H locs ls h1 h2 h3 => lv_astore Γ.1 Γ.2.1 d h3 hn hl (fun ls' h => k H locs ls' h1 h2 h)
theorem rl_iinc (Γ : CallFix p m c cc nL s args Ts own) {z : Nat} {n : Int} {x v : Int32} {L' : List (Nat × Value)} (d : decode cc pc = .ok (.iinc z n, 3)) (j : Nat) (hj : L[j]? = some (z, .int x)) (hv : x + Int32.ofInt n = v) (hn : z < nL) (hl : (z, Value.int v) :: L.filter (fun q => !(q.1 == z) && !(q.1 + 1 == z && q.2.category == 2)) = L') (k : rl_G p l e R s m args below meth c nL E cells slots Q σ (pc + 3) L' st) : rl_G p l e R s m args below meth c nL E cells slots Q σ (pc) L st := fun H locs ls h1 h2 h3 => lv_iinc Γ.1 Γ.2.1 d h3 hj hv hn hl (fun ls' h => k H locs ls' h1 h2 h)
theorem rl_iadd (Γ : CallFix p m c cc nL s args Ts own) {x y : Int32} (d : decode cc pc = .ok (.iadd, 1))  (k : rl_G p l e R s m args below meth c nL E cells slots Q σ (pc + 1) L (.int (x + y) :: st)) : rl_G p l e R s m args below meth c nL E cells slots Q σ (pc) L (.int y :: .int x :: st) := fun H locs ls h1 h2 h3 => lv_iadd Γ.1 Γ.2.1 d (k H locs ls h1 h2 h3)
theorem rl_isub (Γ : CallFix p m c cc nL s args Ts own) {x y : Int32} (d : decode cc pc = .ok (.isub, 1))  (k : rl_G p l e R s m args below meth c nL E cells slots Q σ (pc + 1) L (.int (x - y) :: st)) : rl_G p l e R s m args below meth c nL E cells slots Q σ (pc) L (.int y :: .int x :: st) := fun H locs ls h1 h2 h3 => lv_isub Γ.1 Γ.2.1 d (k H locs ls h1 h2 h3)
theorem rl_imul (Γ : CallFix p m c cc nL s args Ts own) {x y : Int32} (d : decode cc pc = .ok (.imul, 1))  (k : rl_G p l e R s m args below meth c nL E cells slots Q σ (pc + 1) L (.int (x * y) :: st)) : rl_G p l e R s m args below meth c nL E cells slots Q σ (pc) L (.int y :: .int x :: st) := fun H locs ls h1 h2 h3 => lv_imul Γ.1 Γ.2.1 d (k H locs ls h1 h2 h3)
theorem rl_iand (Γ : CallFix p m c cc nL s args Ts own) {x y : Int32} (d : decode cc pc = .ok (.iand, 1))  (k : rl_G p l e R s m args below meth c nL E cells slots Q σ (pc + 1) L (.int (x &&& y) :: st)) : rl_G p l e R s m args below meth c nL E cells slots Q σ (pc) L (.int y :: .int x :: st) := fun H locs ls h1 h2 h3 => lv_iand Γ.1 Γ.2.1 d (k H locs ls h1 h2 h3)
theorem rl_ior (Γ : CallFix p m c cc nL s args Ts own) {x y : Int32} (d : decode cc pc = .ok (.ior, 1))  (k : rl_G p l e R s m args below meth c nL E cells slots Q σ (pc + 1) L (.int (x ||| y) :: st)) : rl_G p l e R s m args below meth c nL E cells slots Q σ (pc) L (.int y :: .int x :: st) := fun H locs ls h1 h2 h3 => lv_ior Γ.1 Γ.2.1 d (k H locs ls h1 h2 h3)
theorem rl_ixor (Γ : CallFix p m c cc nL s args Ts own) {x y : Int32} (d : decode cc pc = .ok (.ixor, 1))  (k : rl_G p l e R s m args below meth c nL E cells slots Q σ (pc + 1) L (.int (x ^^^ y) :: st)) : rl_G p l e R s m args below meth c nL E cells slots Q σ (pc) L (.int y :: .int x :: st) := fun H locs ls h1 h2 h3 => lv_ixor Γ.1 Γ.2.1 d (k H locs ls h1 h2 h3)
theorem rl_ishl (Γ : CallFix p m c cc nL s args Ts own) {x y : Int32} (d : decode cc pc = .ok (.ishl, 1))  (k : rl_G p l e R s m args below meth c nL E cells slots Q σ (pc + 1) L (.int (x <<< (y &&& 31)) :: st)) : rl_G p l e R s m args below meth c nL E cells slots Q σ (pc) L (.int y :: .int x :: st) := fun H locs ls h1 h2 h3 => lv_ishl Γ.1 Γ.2.1 d (k H locs ls h1 h2 h3)
theorem rl_ishr (Γ : CallFix p m c cc nL s args Ts own) {x y : Int32} (d : decode cc pc = .ok (.ishr, 1))  (k : rl_G p l e R s m args below meth c nL E cells slots Q σ (pc + 1) L (.int (x >>> (y &&& 31)) :: st)) : rl_G p l e R s m args below meth c nL E cells slots Q σ (pc) L (.int y :: .int x :: st) := fun H locs ls h1 h2 h3 => lv_ishr Γ.1 Γ.2.1 d (k H locs ls h1 h2 h3)
theorem rl_idiv (Γ : CallFix p m c cc nL s args Ts own) {x y : Int32} (d : decode cc pc = .ok (.idiv, 1)) (hne : ¬ y = 0) (k : rl_G p l e R s m args below meth c nL E cells slots Q σ (pc + 1) L (.int (x / y) :: st)) : rl_G p l e R s m args below meth c nL E cells slots Q σ (pc) L (.int y :: .int x :: st) := fun H locs ls h1 h2 h3 => lv_idiv Γ.1 Γ.2.1 d hne (k H locs ls h1 h2 h3)
theorem rl_irem (Γ : CallFix p m c cc nL s args Ts own) {x y : Int32} (d : decode cc pc = .ok (.irem, 1)) (hne : ¬ y = 0) (k : rl_G p l e R s m args below meth c nL E cells slots Q σ (pc + 1) L (.int (x - x / y * y) :: st)) : rl_G p l e R s m args below meth c nL E cells slots Q σ (pc) L (.int y :: .int x :: st) := fun H locs ls h1 h2 h3 => lv_irem Γ.1 Γ.2.1 d hne (k H locs ls h1 h2 h3)
theorem rl_ineg (Γ : CallFix p m c cc nL s args Ts own) {x : Int32} (d : decode cc pc = .ok (.ineg, 1))  (k : rl_G p l e R s m args below meth c nL E cells slots Q σ (pc + 1) L (.int (-x) :: st)) : rl_G p l e R s m args below meth c nL E cells slots Q σ (pc) L (.int x :: st) := fun H locs ls h1 h2 h3 => lv_ineg Γ.1 Γ.2.1 d (k H locs ls h1 h2 h3)
theorem rl_land (Γ : CallFix p m c cc nL s args Ts own) {x y : Int64} (d : decode cc pc = .ok (.land, 1))  (k : rl_G p l e R s m args below meth c nL E cells slots Q σ (pc + 1) L (.long (x &&& y) :: st)) : rl_G p l e R s m args below meth c nL E cells slots Q σ (pc) L (.long y :: .long x :: st) := fun H locs ls h1 h2 h3 => lv_land Γ.1 Γ.2.1 d (k H locs ls h1 h2 h3)
theorem rl_lor (Γ : CallFix p m c cc nL s args Ts own) {x y : Int64} (d : decode cc pc = .ok (.lor, 1))  (k : rl_G p l e R s m args below meth c nL E cells slots Q σ (pc + 1) L (.long (x ||| y) :: st)) : rl_G p l e R s m args below meth c nL E cells slots Q σ (pc) L (.long y :: .long x :: st) := fun H locs ls h1 h2 h3 => lv_lor Γ.1 Γ.2.1 d (k H locs ls h1 h2 h3)
theorem rl_lxor (Γ : CallFix p m c cc nL s args Ts own) {x y : Int64} (d : decode cc pc = .ok (.lxor, 1))  (k : rl_G p l e R s m args below meth c nL E cells slots Q σ (pc + 1) L (.long (x ^^^ y) :: st)) : rl_G p l e R s m args below meth c nL E cells slots Q σ (pc) L (.long y :: .long x :: st) := fun H locs ls h1 h2 h3 => lv_lxor Γ.1 Γ.2.1 d (k H locs ls h1 h2 h3)
theorem rl_ladd (Γ : CallFix p m c cc nL s args Ts own) {x y : Int64} (d : decode cc pc = .ok (.ladd, 1))  (k : rl_G p l e R s m args below meth c nL E cells slots Q σ (pc + 1) L (.long (x + y) :: st)) : rl_G p l e R s m args below meth c nL E cells slots Q σ (pc) L (.long y :: .long x :: st) := fun H locs ls h1 h2 h3 => lv_ladd Γ.1 Γ.2.1 d (k H locs ls h1 h2 h3)
theorem rl_lsub (Γ : CallFix p m c cc nL s args Ts own) {x y : Int64} (d : decode cc pc = .ok (.lsub, 1))  (k : rl_G p l e R s m args below meth c nL E cells slots Q σ (pc + 1) L (.long (x - y) :: st)) : rl_G p l e R s m args below meth c nL E cells slots Q σ (pc) L (.long y :: .long x :: st) := fun H locs ls h1 h2 h3 => lv_lsub Γ.1 Γ.2.1 d (k H locs ls h1 h2 h3)
theorem rl_lmul (Γ : CallFix p m c cc nL s args Ts own) {x y : Int64} (d : decode cc pc = .ok (.lmul, 1))  (k : rl_G p l e R s m args below meth c nL E cells slots Q σ (pc + 1) L (.long (x * y) :: st)) : rl_G p l e R s m args below meth c nL E cells slots Q σ (pc) L (.long y :: .long x :: st) := fun H locs ls h1 h2 h3 => lv_lmul Γ.1 Γ.2.1 d (k H locs ls h1 h2 h3)
theorem rl_i2l (Γ : CallFix p m c cc nL s args Ts own) {x : Int32} (d : decode cc pc = .ok (.i2l, 1))  (k : rl_G p l e R s m args below meth c nL E cells slots Q σ (pc + 1) L (.long x.toInt64 :: st)) : rl_G p l e R s m args below meth c nL E cells slots Q σ (pc) L (.int x :: st) := fun H locs ls h1 h2 h3 => lv_i2l Γ.1 Γ.2.1 d rfl (k H locs ls h1 h2 h3)
theorem rl_l2i (Γ : CallFix p m c cc nL s args Ts own) {x : Int64} (d : decode cc pc = .ok (.l2i, 1))  (k : rl_G p l e R s m args below meth c nL E cells slots Q σ (pc + 1) L (.int x.toInt32 :: st)) : rl_G p l e R s m args below meth c nL E cells slots Q σ (pc) L (.long x :: st) := fun H locs ls h1 h2 h3 => lv_l2i Γ.1 Γ.2.1 d rfl (k H locs ls h1 h2 h3)
theorem rl_lushr (Γ : CallFix p m c cc nL s args Ts own) {x : Int64} {y : Int32} (d : decode cc pc = .ok (.lushr, 1))  (k : rl_G p l e R s m args below meth c nL E cells slots Q σ (pc + 1) L (.long (x.toUInt64 >>> (y.toInt64.toUInt64 &&& Int64.toUInt64 63)).toInt64 :: st)) : rl_G p l e R s m args below meth c nL E cells slots Q σ (pc) L (.int y :: .long x :: st) := fun H locs ls h1 h2 h3 => lv_lushr Γ.1 Γ.2.1 d rfl (k H locs ls h1 h2 h3)
theorem rl_lshl (Γ : CallFix p m c cc nL s args Ts own) {x : Int64} {y : Int32} (d : decode cc pc = .ok (.lshl, 1))  (k : rl_G p l e R s m args below meth c nL E cells slots Q σ (pc + 1) L (.long (x <<< (y.toInt64 &&& 63)) :: st)) : rl_G p l e R s m args below meth c nL E cells slots Q σ (pc) L (.int y :: .long x :: st) := fun H locs ls h1 h2 h3 => lv_lshl Γ.1 Γ.2.1 d rfl (k H locs ls h1 h2 h3)
theorem rl_lshr (Γ : CallFix p m c cc nL s args Ts own) {x : Int64} {y : Int32} (d : decode cc pc = .ok (.lshr, 1))  (k : rl_G p l e R s m args below meth c nL E cells slots Q σ (pc + 1) L (.long (x >>> (y.toInt64 &&& 63)) :: st)) : rl_G p l e R s m args below meth c nL E cells slots Q σ (pc) L (.int y :: .long x :: st) := fun H locs ls h1 h2 h3 => lv_lshr Γ.1 Γ.2.1 d rfl (k H locs ls h1 h2 h3)
theorem rl_iushr (Γ : CallFix p m c cc nL s args Ts own) {x y : Int32} (d : decode cc pc = .ok (.iushr, 1))  (k : rl_G p l e R s m args below meth c nL E cells slots Q σ (pc + 1) L (.int (x.toUInt32 >>> (y.toUInt32 &&& Int32.toUInt32 31)).toInt32 :: st)) : rl_G p l e R s m args below meth c nL E cells slots Q σ (pc) L (.int y :: .int x :: st) := fun H locs ls h1 h2 h3 => lv_iushr Γ.1 Γ.2.1 d rfl (k H locs ls h1 h2 h3)
theorem rl_dup (Γ : CallFix p m c cc nL s args Ts own) {a : Value} (d : decode cc pc = .ok (.dup, 1)) (ha : a.category = 1) (k : rl_G p l e R s m args below meth c nL E cells slots Q σ (pc + 1) L (a :: a :: st)) : rl_G p l e R s m args below meth c nL E cells slots Q σ (pc) L (a :: st) := fun H locs ls h1 h2 h3 => lv_dup Γ.1 Γ.2.1 d ha (k H locs ls h1 h2 h3)
theorem rl_pop (Γ : CallFix p m c cc nL s args Ts own) {a : Value} (d : decode cc pc = .ok (.pop, 1)) (ha : a.category = 1) (k : rl_G p l e R s m args below meth c nL E cells slots Q σ (pc + 1) L st) : rl_G p l e R s m args below meth c nL E cells slots Q σ (pc) L (a :: st) := fun H locs ls h1 h2 h3 => lv_pop Γ.1 Γ.2.1 d ha (k H locs ls h1 h2 h3)
theorem rl_dup_x1 (Γ : CallFix p m c cc nL s args Ts own) {a b : Value} (d : decode cc pc = .ok (.dup_x1, 1)) (ha : a.category = 1) (hb : b.category = 1) (k : rl_G p l e R s m args below meth c nL E cells slots Q σ (pc + 1) L (a :: b :: a :: st)) : rl_G p l e R s m args below meth c nL E cells slots Q σ (pc) L (a :: b :: st) := fun H locs ls h1 h2 h3 => lv_dup_x1 Γ.1 Γ.2.1 d ha hb (k H locs ls h1 h2 h3)
theorem rl_dup2 (Γ : CallFix p m c cc nL s args Ts own) {a b : Value} (d : decode cc pc = .ok (.dup2, 1)) (ha : a.category = 1) (hb : b.category = 1) (k : rl_G p l e R s m args below meth c nL E cells slots Q σ (pc + 1) L (a :: b :: a :: b :: st)) : rl_G p l e R s m args below meth c nL E cells slots Q σ (pc) L (a :: b :: st) := fun H locs ls h1 h2 h3 => lv_dup2_11 Γ.1 Γ.2.1 d ha hb (k H locs ls h1 h2 h3)
theorem rl_if_eq (Γ : CallFix p m c cc nL s args Ts own) {x : Int32} {off : Int} {tgt : Nat} (d : decode cc pc = .ok (.ifCond .eq off, 3)) (ht : (pc : Int) + off = (tgt : Int)) (kt : x = 0 → rl_G p l e R s m args below meth c nL E cells slots Q σ (tgt) L st) (kf : ¬ x = 0 → rl_G p l e R s m args below meth c nL E cells slots Q σ (pc + 3) L st) : rl_G p l e R s m args below meth c nL E cells slots Q σ (pc) L (.int x :: st) := fun H locs ls h1 h2 h3 => lv_if_eq Γ.1 Γ.2.1 d ht (fun z => kt z H locs ls h1 h2 h3) (fun z => kf z H locs ls h1 h2 h3)
theorem rl_icmp_eq (Γ : CallFix p m c cc nL s args Ts own) {x y : Int32} {off : Int} {tgt : Nat} (d : decode cc pc = .ok (.if_icmp .eq off, 3)) (ht : (pc : Int) + off = (tgt : Int)) (kt : x = y → rl_G p l e R s m args below meth c nL E cells slots Q σ (tgt) L st) (kf : ¬ x = y → rl_G p l e R s m args below meth c nL E cells slots Q σ (pc + 3) L st) : rl_G p l e R s m args below meth c nL E cells slots Q σ (pc) L (.int y :: .int x :: st) := fun H locs ls h1 h2 h3 => lv_icmp_eq Γ.1 Γ.2.1 d ht (fun z => kt z H locs ls h1 h2 h3) (fun z => kf z H locs ls h1 h2 h3)
theorem rl_if_ne (Γ : CallFix p m c cc nL s args Ts own) {x : Int32} {off : Int} {tgt : Nat} (d : decode cc pc = .ok (.ifCond .ne off, 3)) (ht : (pc : Int) + off = (tgt : Int)) (kt : ¬ x = 0 → rl_G p l e R s m args below meth c nL E cells slots Q σ (tgt) L st) (kf : x = 0 → rl_G p l e R s m args below meth c nL E cells slots Q σ (pc + 3) L st) : rl_G p l e R s m args below meth c nL E cells slots Q σ (pc) L (.int x :: st) := fun H locs ls h1 h2 h3 => lv_if_ne Γ.1 Γ.2.1 d ht (fun z => kt z H locs ls h1 h2 h3) (fun z => kf z H locs ls h1 h2 h3)
theorem rl_icmp_ne (Γ : CallFix p m c cc nL s args Ts own) {x y : Int32} {off : Int} {tgt : Nat} (d : decode cc pc = .ok (.if_icmp .ne off, 3)) (ht : (pc : Int) + off = (tgt : Int)) (kt : ¬ x = y → rl_G p l e R s m args below meth c nL E cells slots Q σ (tgt) L st) (kf : x = y → rl_G p l e R s m args below meth c nL E cells slots Q σ (pc + 3) L st) : rl_G p l e R s m args below meth c nL E cells slots Q σ (pc) L (.int y :: .int x :: st) := fun H locs ls h1 h2 h3 => lv_icmp_ne Γ.1 Γ.2.1 d ht (fun z => kt z H locs ls h1 h2 h3) (fun z => kf z H locs ls h1 h2 h3)
theorem rl_if_lt (Γ : CallFix p m c cc nL s args Ts own) {x : Int32} {off : Int} {tgt : Nat} (d : decode cc pc = .ok (.ifCond .lt off, 3)) (ht : (pc : Int) + off = (tgt : Int)) (kt : x < 0 → rl_G p l e R s m args below meth c nL E cells slots Q σ (tgt) L st) (kf : ¬ x < 0 → rl_G p l e R s m args below meth c nL E cells slots Q σ (pc + 3) L st) : rl_G p l e R s m args below meth c nL E cells slots Q σ (pc) L (.int x :: st) := fun H locs ls h1 h2 h3 => lv_if_lt Γ.1 Γ.2.1 d ht (fun z => kt z H locs ls h1 h2 h3) (fun z => kf z H locs ls h1 h2 h3)
theorem rl_icmp_lt (Γ : CallFix p m c cc nL s args Ts own) {x y : Int32} {off : Int} {tgt : Nat} (d : decode cc pc = .ok (.if_icmp .lt off, 3)) (ht : (pc : Int) + off = (tgt : Int)) (kt : x < y → rl_G p l e R s m args below meth c nL E cells slots Q σ (tgt) L st) (kf : ¬ x < y → rl_G p l e R s m args below meth c nL E cells slots Q σ (pc + 3) L st) : rl_G p l e R s m args below meth c nL E cells slots Q σ (pc) L (.int y :: .int x :: st) := fun H locs ls h1 h2 h3 => lv_icmp_lt Γ.1 Γ.2.1 d ht (fun z => kt z H locs ls h1 h2 h3) (fun z => kf z H locs ls h1 h2 h3)
theorem rl_if_ge (Γ : CallFix p m c cc nL s args Ts own) {x : Int32} {off : Int} {tgt : Nat} (d : decode cc pc = .ok (.ifCond .ge off, 3)) (ht : (pc : Int) + off = (tgt : Int)) (kt : 0 ≤ x → rl_G p l e R s m args below meth c nL E cells slots Q σ (tgt) L st) (kf : ¬ 0 ≤ x → rl_G p l e R s m args below meth c nL E cells slots Q σ (pc + 3) L st) : rl_G p l e R s m args below meth c nL E cells slots Q σ (pc) L (.int x :: st) := fun H locs ls h1 h2 h3 => lv_if_ge Γ.1 Γ.2.1 d ht (fun z => kt z H locs ls h1 h2 h3) (fun z => kf z H locs ls h1 h2 h3)
theorem rl_icmp_ge (Γ : CallFix p m c cc nL s args Ts own) {x y : Int32} {off : Int} {tgt : Nat} (d : decode cc pc = .ok (.if_icmp .ge off, 3)) (ht : (pc : Int) + off = (tgt : Int)) (kt : y ≤ x → rl_G p l e R s m args below meth c nL E cells slots Q σ (tgt) L st) (kf : ¬ y ≤ x → rl_G p l e R s m args below meth c nL E cells slots Q σ (pc + 3) L st) : rl_G p l e R s m args below meth c nL E cells slots Q σ (pc) L (.int y :: .int x :: st) := fun H locs ls h1 h2 h3 => lv_icmp_ge Γ.1 Γ.2.1 d ht (fun z => kt z H locs ls h1 h2 h3) (fun z => kf z H locs ls h1 h2 h3)
theorem rl_if_gt (Γ : CallFix p m c cc nL s args Ts own) {x : Int32} {off : Int} {tgt : Nat} (d : decode cc pc = .ok (.ifCond .gt off, 3)) (ht : (pc : Int) + off = (tgt : Int)) (kt : 0 < x → rl_G p l e R s m args below meth c nL E cells slots Q σ (tgt) L st) (kf : ¬ 0 < x → rl_G p l e R s m args below meth c nL E cells slots Q σ (pc + 3) L st) : rl_G p l e R s m args below meth c nL E cells slots Q σ (pc) L (.int x :: st) := fun H locs ls h1 h2 h3 => lv_if_gt Γ.1 Γ.2.1 d ht (fun z => kt z H locs ls h1 h2 h3) (fun z => kf z H locs ls h1 h2 h3)
theorem rl_icmp_gt (Γ : CallFix p m c cc nL s args Ts own) {x y : Int32} {off : Int} {tgt : Nat} (d : decode cc pc = .ok (.if_icmp .gt off, 3)) (ht : (pc : Int) + off = (tgt : Int)) (kt : y < x → rl_G p l e R s m args below meth c nL E cells slots Q σ (tgt) L st) (kf : ¬ y < x → rl_G p l e R s m args below meth c nL E cells slots Q σ (pc + 3) L st) : rl_G p l e R s m args below meth c nL E cells slots Q σ (pc) L (.int y :: .int x :: st) := fun H locs ls h1 h2 h3 => lv_icmp_gt Γ.1 Γ.2.1 d ht (fun z => kt z H locs ls h1 h2 h3) (fun z => kf z H locs ls h1 h2 h3)
theorem rl_if_le (Γ : CallFix p m c cc nL s args Ts own) {x : Int32} {off : Int} {tgt : Nat} (d : decode cc pc = .ok (.ifCond .le off, 3)) (ht : (pc : Int) + off = (tgt : Int)) (kt : x ≤ 0 → rl_G p l e R s m args below meth c nL E cells slots Q σ (tgt) L st) (kf : ¬ x ≤ 0 → rl_G p l e R s m args below meth c nL E cells slots Q σ (pc + 3) L st) : rl_G p l e R s m args below meth c nL E cells slots Q σ (pc) L (.int x :: st) := fun H locs ls h1 h2 h3 => lv_if_le Γ.1 Γ.2.1 d ht (fun z => kt z H locs ls h1 h2 h3) (fun z => kf z H locs ls h1 h2 h3)
theorem rl_icmp_le (Γ : CallFix p m c cc nL s args Ts own) {x y : Int32} {off : Int} {tgt : Nat} (d : decode cc pc = .ok (.if_icmp .le off, 3)) (ht : (pc : Int) + off = (tgt : Int)) (kt : x ≤ y → rl_G p l e R s m args below meth c nL E cells slots Q σ (tgt) L st) (kf : ¬ x ≤ y → rl_G p l e R s m args below meth c nL E cells slots Q σ (pc + 3) L st) : rl_G p l e R s m args below meth c nL E cells slots Q σ (pc) L (.int y :: .int x :: st) := fun H locs ls h1 h2 h3 => lv_icmp_le Γ.1 Γ.2.1 d ht (fun z => kt z H locs ls h1 h2 h3) (fun z => kf z H locs ls h1 h2 h3)
theorem rl_goto (Γ : CallFix p m c cc nL s args Ts own) {off : Int} {tgt : Nat} (d : decode cc pc = .ok (.goto off, 3)) (ht : (pc : Int) + off = (tgt : Int)) (k : rl_G p l e R s m args below meth c nL E cells slots Q σ (tgt) L st) : rl_G p l e R s m args below meth c nL E cells slots Q σ (pc) L st := fun H locs ls h1 h2 h3 => lv_goto Γ.1 Γ.2.1 d ht (k H locs ls h1 h2 h3)

theorem rl_Gsub {L' : List (Nat × Value)} (ks : List Nat) (hl : lv_pick L ks = L') (k : rl_G p l e R s m args below meth c nL E cells slots Q σ pc L' st) : rl_G p l e R s m args below meth c nL E cells slots Q σ pc L st := fun H locs ls h1 h2 h3 => k H locs ls h1 h2 (lv_sub h3 ks hl)
theorem rl_start {av : List Value} (hP : va_P E.2.1 rl_Cl (rl_wo E σ) s.heap) (hn : (lg_sl av).length ≤ nL) (k : rl_G p l e R s m args below meth c nL E cells slots Q σ 0 (lv_args 0 av) []) : W p l e R s m args below meth c s.heap [] cells slots Q (entryFrame m av.toArray nL) := by
  rw [lg_entry_eq]
  exact k s.heap [] _ hP va_S.rf (lv_entry av hn)
theorem rl_get (Γ : CallFix p m c cc nL s args rl_TT own) {index : Nat} (d : decode cc pc = .ok (.getfield index, 3)) (hO : rl_Ok E s) {a ci k : Nat} {fs : (Nat → Int32) → List Value} (ho : a < rl_N ∧ ∀ f, rl_cr E a f = .inr (ci, fs f)) {C : String} {T : u_T} {Nf : Nat} (hc : rl_Cl[ci]? = some (C, T, Nf)) (hk : k < Nf) {v : Value} (hv : (fs (σ a))[k]? = some v) (hl : (∀ w ∈ u_ws C T Nf, w ∈ rl_TT) ∧ Cond.fieldLink own index (T k).1 (T k).2.1 (T k).2.2.1 ∈ rl_TT) (kk : rl_G p l e R s m args below meth c nL E cells slots Q σ (pc + 3) L (v :: st)) : rl_G p l e R s m args below meth c nL E cells slots Q σ (pc) L (.ref (E.1 a) :: st) := fun H locs ls h1 h2 h3 =>
  va_get (D := E.2.1) (cl := rl_Cl) (ws := rl_wo E σ) Γ.1 Γ.2.1 Γ.2.2.2.2 hl.1 Γ.2.2.2.1 hO.1 h1 a ((rl_wo_at ho.1).trans (by rw [ho.2])) hc k hk (Γ.2.2.2.2 _ hl.2) (fun _ h => h) hv d (kk H locs ls h1 h2 h3)
theorem rl_put (Γ : CallFix p m c cc nL s args rl_TT own) {index : Nat} (d : decode cc pc = .ok (.putfield index, 3)) (hO : rl_Ok E s) {a ci k : Nat} {fs : (Nat → Int32) → List Value} (ho : a < rl_N ∧ ∀ f, rl_cr E a f = .inr (ci, fs f)) {C : String} {T : u_T} {Nf : Nat} (hc : rl_Cl[ci]? = some (C, T, Nf)) (hk : k < Nf) {v : Int32} (hs : ∀ (f : Nat → Int32) (x : Int32), fs (upd f k x) = (fs f).set k (.int x)) (hl : (∀ w ∈ u_ws C T Nf, w ∈ rl_TT) ∧ Cond.fieldLink own index (T k).1 (T k).2.1 (T k).2.2.1 ∈ rl_TT) (ty0 : Nat → FieldType) (hty : ∀ k, k < Nf → parseFieldDescriptor (T k).2.2.1 = some (ty0 k)) (hnm : ∀ a, a < Nf → ∀ b, b < Nf → a ≠ b → (T a).2.1 ≠ (T b).2.1) (hfin : (T k).2.2.2 = false) (hlen : ∀ f, k < (fs f).length) (hn : narrow (ty0 k) (.int v) = .int v ∧ fits (ty0 k) (.int v) = true) (kk : rl_G p l e R s m args below meth c nL E cells slots Q (rl_su σ a k v) (pc + 3) L (st)) : rl_G p l e R s m args below meth c nL E cells slots Q σ (pc) L (.int v :: .ref (E.1 a) :: st) := fun H locs ls h1 h2 h3 =>
  va_put (D := E.2.1) (cl := rl_Cl) (ws := rl_wo E σ) (H0 := s.heap) Γ.1 Γ.2.1 Γ.2.2.2.2 hl.1 ty0 hty hnm Γ.2.2.2.1 hO.1 h1 (rl_D hO σ) h2 a ((rl_wo_at ho.1).trans (by rw [ho.2])) hc k hk (Γ.2.2.2.2 _ hl.2) (fun _ h => h) hfin (hty k hk) hn.1 hn.2 (hlen _) d (fun H1 locs1 hP _ hS => kk H1 locs1 ls (by rw [← hs, ← ho.2, rl_wo_set ho.1] at hP; exact hP) hS h3)
theorem rl_ild (Γ : CallFix p m c cc nL s args rl_TT own) (d : decode cc pc = .ok (.iaload, 1)) (hO : rl_Ok E s) {a n : Nat} {i : Int32} (ho : a < rl_N ∧ ∀ f : Nat → Int32, rl_cr E a f = .inl (E.2.2.1, n, .inl f)) (hi : vp_in i n) (kk : rl_G p l e R s m args below meth c nL E cells slots Q σ (pc + 1) L (.int (σ a i.toNatClampNeg) :: st)) : rl_G p l e R s m args below meth c nL E cells slots Q σ (pc) L (.int i :: .ref (E.1 a) :: st) := fun H locs ls h1 h2 h3 =>
  va_iald (D := E.2.1) (cl := rl_Cl) (ws := rl_wo E σ) Γ.1 Γ.2.1 hO.1 h1 a 0 ((rl_wo_at ho.1).trans (by rw [ho.2])) rfl hi d (kk H locs ls h1 h2 h3)
theorem rl_ist (Γ : CallFix p m c cc nL s args rl_TT own) (d : decode cc pc = .ok (.iastore, 1)) (hO : rl_Ok E s) {a n : Nat} {i x : Int32} (ho : a < rl_N ∧ ∀ f : Nat → Int32, rl_cr E a f = .inl (E.2.2.1, n, .inl f)) (hi : vp_in i n) (kk : rl_G p l e R s m args below meth c nL E cells slots Q (rl_su σ a i.toNatClampNeg x) (pc + 1) L (st)) : rl_G p l e R s m args below meth c nL E cells slots Q σ (pc) L (.int x :: .int i :: .ref (E.1 a) :: st) := fun H locs ls h1 h2 h3 =>
  va_iast (D := E.2.1) (cl := rl_Cl) (ws := rl_wo E σ) (H0 := s.heap) Γ.1 Γ.2.1 hO.1 h1 (rl_D hO σ) h2 a 0 ((rl_wo_at ho.1).trans (by rw [ho.2])) rfl hi d (fun H1 locs1 hP _ hS => kk H1 locs1 ls (by rw [← ho.2, rl_wo_set ho.1] at hP; exact hP) hS h3)
theorem rl_ald (Γ : CallFix p m c cc nL s args rl_TT own) (d : decode cc pc = .ok (.aaload, 1)) (hO : rl_Ok E s) {i : Int32} (ho : 15 < rl_N ∧ ∀ f : Nat → Int32, rl_cr E 15 f = .inl (E.2.2.2.2, 11, .inr (.inr (.inr (.inr (fun i => some (E.1 (23 + 3 * i)))))))) (hi : vp_in i 11) (kk : rl_G p l e R s m args below meth c nL E cells slots Q σ (pc + 1) L (.ref (E.1 (rl_cv i)) :: st)) : rl_G p l e R s m args below meth c nL E cells slots Q σ (pc) L (.int i :: .ref (E.1 15) :: st) := fun H locs ls h1 h2 h3 =>
  va_aldq (D := E.2.1) (cl := rl_Cl) (ws := rl_wo E σ) (f := fun i => some (E.1 (23 + 3 * i))) Γ.1 Γ.2.1 hO.1 h1 15 2 ((rl_wo_at ho.1).trans (by rw [ho.2])) rfl hi d (kk H locs ls h1 h2 h3)
theorem rl_mmax (Γ : CallFix p m c cc nL s args rl_TT own) {index : Nat} (d : decode cc pc = .ok (.invokestatic index, 3)) (g1 : (Cond.methodLink own index Lib.Math.max.name).before args s = true) (g2 : (Cond.static Lib.Math.max.name).before args s = true) (g3 : (Cond.initialized "java/lang/Math").before args s = true) (g4 : (Cond.code Lib.Math.max.name Lib.Math.max.code 2 (some .int)).before args s = true) (hf : 1 ≤ R.frames) (hlo : (st.map fun v => v.category).sum + 13 ≤ R.locals) (hcl : cells ≤ R.cells ∧ slots ≤ R.slots) {x y : Int32} (kk : rl_G p l e R s m args below meth c nL E cells slots Q σ (pc + 3) L (.int (if x < y then y else x) :: st)) : rl_G p l e R s m args below meth c nL E cells slots Q σ (pc) L (.int y :: .int x :: st) := fun H locs ls h1 h2 h3 =>
  va_mmax Γ.1 Γ.2.1 (Γ.2.2.1.trans h3.1.symm) Γ.2.2.2.1 g1 g2 g3 g4 hf hlo hcl.1 hcl.2 d (kk H locs ls h1 h2 h3)
theorem rl_mmin (Γ : CallFix p m c cc nL s args rl_TT own) {index : Nat} (d : decode cc pc = .ok (.invokestatic index, 3)) (g1 : (Cond.methodLink own index Lib.Math.min.name).before args s = true) (g2 : (Cond.static Lib.Math.min.name).before args s = true) (g3 : (Cond.initialized "java/lang/Math").before args s = true) (g4 : (Cond.code Lib.Math.min.name Lib.Math.min.code 2 (some .int)).before args s = true) (hf : 1 ≤ R.frames) (hlo : (st.map fun v => v.category).sum + 13 ≤ R.locals) (hcl : cells ≤ R.cells ∧ slots ≤ R.slots) {x y : Int32} (kk : rl_G p l e R s m args below meth c nL E cells slots Q σ (pc + 3) L (.int (if y < x then y else x) :: st)) : rl_G p l e R s m args below meth c nL E cells slots Q σ (pc) L (.int y :: .int x :: st) := fun H locs ls h1 h2 h3 =>
  va_mmin Γ.1 Γ.2.1 (Γ.2.2.1.trans h3.1.symm) Γ.2.2.2.1 g1 g2 g3 g4 hf hlo hcl.1 hcl.2 d (kk H locs ls h1 h2 h3)
/-- behind a call -/
theorem rl_goon {v : Option Value} {τ : rl_M} {H : Heap} {locs : List Loc} {ls : Array Slot} {st0 : List Value} {a : Array Value} (hr : va_Run p l e R s m args below meth c H locs cells slots 0 0 (F0 m pc ls st0) st (rl_Q E v τ a) (rl_A E)) (hS : va_S (rl_A E) s.heap H locs) (h3 : lv_has ls nL L) (kk : rl_G p l e R s m args below meth c nL E cells slots Q τ (pc + 3) L (v.toList ++ st)) : W p l e R s m args below meth c H locs cells slots Q (F0 m pc ls st0) := by
  intro T hT X
  obtain ⟨v', st₀, t, T', L', h0, X', hL, e1, e2, ⟨hv, hP, hz, hk⟩, stp⟩ := hr T hT X
  cases hv
  rw [h0] at hz hk
  obtain ⟨t2, a1, b1⟩ := kk T'.heap (locs ++ L') ls (by rw [e1]; exact hP) ⟨Nat.le_trans hS.1 (by rw [e1]; exact hz), fun q h1 h2 => by rw [e1, hk q (Nat.lt_of_lt_of_le h1 hS.1) h2]; exact hS.2.1 q h1 h2, fun q hq => by
      rcases List.mem_append.mp hq with h | h
      · exact hS.2.2 q h
      · exact hL q h⟩ h3 T' rfl X'
  exact ⟨t2, stp t2 a1, b1⟩
theorem rl_callV {y : MethodName} {bytes : ByteArray} {maxL index : Nat} {ret : Option FieldType} {rm : Room} {v : Option Value} {τ : rl_M} {a ci : Nat} {fs : (Nat → Int32) → List Value} {C : String} {T : u_T} {Nf : Nat} {As st0 : List Value} (Γ : CallFix p m c cc nL s args rl_TT own) (d : decode cc pc = .ok (.invokevirtual index, 3)) (hO : rl_Ok E s) (hM : Met l y (Cond.code y bytes maxL ret :: rl_TT) rm (rl_P E (.ref (E.1 a) :: As) σ) (rl_Q E v τ) 0 0 (rl_A E)) (n : Nat) (g1 : Cond.methodLink own index y ∈ rl_TT) (g2 : Cond.instanceMethod y ∈ rl_TT) (g3 : Cond.selects C y y ∈ rl_TT) (g4 : Cond.initialized C ∈ rl_TT) (g5 : Cond.code y bytes maxL ret ∈ rl_TT) (ho : a < rl_N ∧ ∀ f, rl_cr E a f = .inr (ci, fs f)) (hc : rl_Cl[ci]? = some (C, T, Nf)) (hrm : rm.cells = 0 ∧ rm.slots = 0) (hd : y.cls = C ∧ y.cls ≠ "java/lang/invoke/MethodHandle" ∧ y.cls ≠ "java/lang/invoke/VarHandle" ∧ (parseMethodDescriptor y.desc).map (fun d => d.parameters.length) = some n) (hf : rm.frames + 1 ≤ R.frames) (hlo : 8 + (maxL + 11) + rm.locals ≤ R.locals) (hcl : cells ≤ R.cells ∧ slots ≤ R.slots) (hw : (st.map fun v => v.category).sum ≤ 8) (hn : As.length = n) (hst : st0 = As.reverse ++ .ref (E.1 a) :: st) (kk : rl_G p l e R s m args below meth c nL E cells slots Q τ (pc + 3) L (v.toList ++ st)) : rl_G p l e R s m args below meth c nL E cells slots Q σ (pc) L (st0) := by
  intro H locs ls h1 h2 h3
  have hG : GoodIn rl_TT (wsV own index C y (Cond.code y bytes maxL ret :: rl_TT)) := by
    intro w hw
    rcases List.mem_append.mp hw with h | h
    · simp only [List.mem_cons, List.not_mem_nil, or_false] at h
      rcases h with rfl | rfl | rfl | rfl
      · exact rl_gd g1
      · exact rl_gd g2
      · exact rl_gd g3
      · exact rl_gd g4
    · exact rl_GI g5 w h
  exact rl_goon (va_runV (As := As) (rest := st) Γ hM (cwV n Γ.2.2.2.2 hG rfl hrm.1 hrm.2 hd ⟨hf, hlo⟩) ⟨rl_P_blind E _ σ, va_recv hO.1 h1 hc (q0 := a) ((rl_wo_at ho.1).trans (by rw [ho.2])), fun U hU hW => ⟨rfl, by rw [hU]; exact h1, hO.moved hW (fun q q1 q2 => by rw [hU]; exact h2.2.1 q q1 q2)⟩⟩ rfl hn h3.1 hst (lv_room hw) d hcl) h2 h3 kk
theorem rl_callS {y : MethodName} {bytes : ByteArray} {maxL index : Nat} {ret : Option FieldType} {rm : Room} {v : Option Value} {τ : rl_M} {C : String} {As st0 : List Value} (Γ : CallFix p m c cc nL s args rl_TT own) (d : decode cc pc = .ok (.invokestatic index, 3)) (hO : rl_Ok E s) (hM : Met l y (Cond.code y bytes maxL ret :: rl_TT) rm (rl_P E As σ) (rl_Q E v τ) 0 0 (rl_A E)) (n : Nat) (g1 : Cond.methodLink own index y ∈ rl_TT) (g2 : Cond.static y ∈ rl_TT) (g4 : Cond.initialized C ∈ rl_TT) (g5 : Cond.code y bytes maxL ret ∈ rl_TT) (hrm : rm.cells = 0 ∧ rm.slots = 0) (hd : y.cls = C ∧ y.cls ≠ "java/lang/invoke/MethodHandle" ∧ y.cls ≠ "java/lang/invoke/VarHandle" ∧ (parseMethodDescriptor y.desc).map (fun d => d.parameters.length) = some n) (hf : rm.frames + 1 ≤ R.frames) (hlo : 8 + (maxL + 11) + rm.locals ≤ R.locals) (hcl : cells ≤ R.cells ∧ slots ≤ R.slots) (hw : (st.map fun v => v.category).sum ≤ 8) (hn : As.length = n) (hst : st0 = As.reverse ++ st) (kk : rl_G p l e R s m args below meth c nL E cells slots Q τ (pc + 3) L (v.toList ++ st)) : rl_G p l e R s m args below meth c nL E cells slots Q σ (pc) L (st0) := by
  intro H locs ls h1 h2 h3
  obtain ⟨hC, hd⟩ := hd
  subst hC
  exact rl_goon (va_runS (As := As) (rest := st) Γ hM ⟨callB_of n Γ.2.2.2.2 (rl_GI g5) rfl hrm.1 hrm.2 (Γ.2.2.2.2 _ g4) (Γ.2.2.2.2 _ g1) hd ⟨hf, hlo⟩, Γ.2.2.2.2 _ g2⟩ ⟨rl_P_blind E _ σ, fun U hU hW => ⟨rfl, by rw [hU]; exact h1, hO.moved hW (fun q q1 q2 => by rw [hU]; exact h2.2.1 q q1 q2)⟩⟩ rfl hn h3.1 hst (lv_room hw) d hcl) h2 h3 kk
theorem rl_callSN {y : MethodName} {bytes : ByteArray} {maxL index : Nat} {ret : Option FieldType} {rm : Room} {v : Option Value} {τ : rl_M} {C host : String} {As st0 : List Value} (Γ : CallFix p m c cc nL s args rl_TT own) (d : decode cc pc = .ok (.invokestatic index, 3)) (hO : rl_Ok E s) (hM : Met l y (Cond.code y bytes maxL ret :: rl_TT) rm (rl_P E As σ) (rl_Q E v τ) 0 0 (rl_A E)) (n : Nat) (g1 : va_Nw (.methodLinkNest own index y host) s) (g2 : Cond.static y ∈ rl_TT) (g4 : Cond.initialized C ∈ rl_TT) (g5 : Cond.code y bytes maxL ret ∈ rl_TT) (hrm : rm.cells = 0 ∧ rm.slots = 0) (hd : y.cls = C ∧ y.cls ≠ "java/lang/invoke/MethodHandle" ∧ y.cls ≠ "java/lang/invoke/VarHandle" ∧ (parseMethodDescriptor y.desc).map (fun d => d.parameters.length) = some n) (hf : rm.frames + 1 ≤ R.frames) (hlo : 8 + (maxL + 11) + rm.locals ≤ R.locals) (hcl : cells ≤ R.cells ∧ slots ≤ R.slots) (hw : (st.map fun v => v.category).sum ≤ 8) (hn : As.length = n) (hst : st0 = As.reverse ++ st) (kk : rl_G p l e R s m args below meth c nL E cells slots Q τ (pc + 3) L (v.toList ++ st)) : rl_G p l e R s m args below meth c nL E cells slots Q σ (pc) L (st0) := by
  intro H locs ls h1 h2 h3
  obtain ⟨hC, hd⟩ := hd
  subst hC
  have hc : Cond.code y bytes maxL ret ∈ (Cond.code y bytes maxL ret :: rl_TT) := List.mem_cons_self
  exact rl_goon (va_runSN (As := As) (rest := st) Γ hM ⟨⟨⟨hrm.1, hrm.2, hf, hlo, pay_in Γ.2.2.2.2 (rl_GI g5), hc⟩, Γ.2.2.2.2 _ g5, Γ.2.2.2.2 _ g4, ⟨hd.1, hd.2.1⟩, fun sig h => by
      have h9 := hd.2.2
      rw [h] at h9
      exact (Option.some.inj h9).symm, va_Nw.use rfl g1⟩, Γ.2.2.2.2 _ g2, trivial⟩ ⟨rl_P_blind E _ σ, fun U hU hW => ⟨rfl, by rw [hU]; exact h1, hO.moved hW (fun q q1 q2 => by rw [hU]; exact h2.2.1 q q1 q2)⟩⟩ rfl hn h3.1 hst (lv_room hw) d hcl) h2 h3 kk
theorem rl_callVi {y : MethodName} {bytes : ByteArray} {maxL index : Nat} {ret : Option FieldType} {rm : Room} {r : Int32} {τ : rl_M} {a ci : Nat} {fs : (Nat → Int32) → List Value} {C : String} {T : u_T} {Nf : Nat} {As st0 : List Value} (Γ : CallFix p m c cc nL s args rl_TT own) (d : decode cc pc = .ok (.invokevirtual index, 3)) (hO : rl_Ok E s) (hM : Met l y (Cond.code y bytes maxL ret :: rl_TT) rm (rl_P E (.ref (E.1 a) :: As) σ) (rl_Q E (rl_ri r) τ) 0 0 (rl_A E)) (n : Nat) (g1 : Cond.methodLink own index y ∈ rl_TT) (g2 : Cond.instanceMethod y ∈ rl_TT) (g3 : Cond.selects C y y ∈ rl_TT) (g4 : Cond.initialized C ∈ rl_TT) (g5 : Cond.code y bytes maxL ret ∈ rl_TT) (ho : a < rl_N ∧ ∀ f, rl_cr E a f = .inr (ci, fs f)) (hc : rl_Cl[ci]? = some (C, T, Nf)) (hrm : rm.cells = 0 ∧ rm.slots = 0) (hd : y.cls = C ∧ y.cls ≠ "java/lang/invoke/MethodHandle" ∧ y.cls ≠ "java/lang/invoke/VarHandle" ∧ (parseMethodDescriptor y.desc).map (fun d => d.parameters.length) = some n) (hf : rm.frames + 1 ≤ R.frames) (hlo : 8 + (maxL + 11) + rm.locals ≤ R.locals) (hcl : cells ≤ R.cells ∧ slots ≤ R.slots) (hw : (st.map fun v => v.category).sum ≤ 8) (hn : As.length = n) (hst : st0 = As.reverse ++ .ref (E.1 a) :: st) (kk : rl_G p l e R s m args below meth c nL E cells slots Q τ (pc + 3) L (.int r :: st)) : rl_G p l e R s m args below meth c nL E cells slots Q σ (pc) L (st0) := rl_callV Γ d hO hM n g1 g2 g3 g4 g5 ho hc hrm hd hf hlo hcl hw hn hst kk
theorem rl_callVv {y : MethodName} {bytes : ByteArray} {maxL index : Nat} {ret : Option FieldType} {rm : Room} {r : Int32} {τ : rl_M} {a ci : Nat} {fs : (Nat → Int32) → List Value} {C : String} {T : u_T} {Nf : Nat} {As st0 : List Value} (Γ : CallFix p m c cc nL s args rl_TT own) (d : decode cc pc = .ok (.invokevirtual index, 3)) (hO : rl_Ok E s) (hM : Met l y (Cond.code y bytes maxL ret :: rl_TT) rm (rl_P E (.ref (E.1 a) :: As) σ) (rl_Q E (rl_rv r) τ) 0 0 (rl_A E)) (n : Nat) (g1 : Cond.methodLink own index y ∈ rl_TT) (g2 : Cond.instanceMethod y ∈ rl_TT) (g3 : Cond.selects C y y ∈ rl_TT) (g4 : Cond.initialized C ∈ rl_TT) (g5 : Cond.code y bytes maxL ret ∈ rl_TT) (ho : a < rl_N ∧ ∀ f, rl_cr E a f = .inr (ci, fs f)) (hc : rl_Cl[ci]? = some (C, T, Nf)) (hrm : rm.cells = 0 ∧ rm.slots = 0) (hd : y.cls = C ∧ y.cls ≠ "java/lang/invoke/MethodHandle" ∧ y.cls ≠ "java/lang/invoke/VarHandle" ∧ (parseMethodDescriptor y.desc).map (fun d => d.parameters.length) = some n) (hf : rm.frames + 1 ≤ R.frames) (hlo : 8 + (maxL + 11) + rm.locals ≤ R.locals) (hcl : cells ≤ R.cells ∧ slots ≤ R.slots) (hw : (st.map fun v => v.category).sum ≤ 8) (hn : As.length = n) (hst : st0 = As.reverse ++ .ref (E.1 a) :: st) (kk : rl_G p l e R s m args below meth c nL E cells slots Q τ (pc + 3) L (st)) : rl_G p l e R s m args below meth c nL E cells slots Q σ (pc) L (st0) := rl_callV Γ d hO hM n g1 g2 g3 g4 g5 ho hc hrm hd hf hlo hcl hw hn hst kk
theorem rl_callSi {y : MethodName} {bytes : ByteArray} {maxL index : Nat} {ret : Option FieldType} {rm : Room} {r : Int32} {τ : rl_M} {C : String} {As st0 : List Value} (Γ : CallFix p m c cc nL s args rl_TT own) (d : decode cc pc = .ok (.invokestatic index, 3)) (hO : rl_Ok E s) (hM : Met l y (Cond.code y bytes maxL ret :: rl_TT) rm (rl_P E As σ) (rl_Q E (rl_ri r) τ) 0 0 (rl_A E)) (n : Nat) (g1 : Cond.methodLink own index y ∈ rl_TT) (g2 : Cond.static y ∈ rl_TT) (g4 : Cond.initialized C ∈ rl_TT) (g5 : Cond.code y bytes maxL ret ∈ rl_TT) (hrm : rm.cells = 0 ∧ rm.slots = 0) (hd : y.cls = C ∧ y.cls ≠ "java/lang/invoke/MethodHandle" ∧ y.cls ≠ "java/lang/invoke/VarHandle" ∧ (parseMethodDescriptor y.desc).map (fun d => d.parameters.length) = some n) (hf : rm.frames + 1 ≤ R.frames) (hlo : 8 + (maxL + 11) + rm.locals ≤ R.locals) (hcl : cells ≤ R.cells ∧ slots ≤ R.slots) (hw : (st.map fun v => v.category).sum ≤ 8) (hn : As.length = n) (hst : st0 = As.reverse ++ st) (kk : rl_G p l e R s m args below meth c nL E cells slots Q τ (pc + 3) L (.int r :: st)) : rl_G p l e R s m args below meth c nL E cells slots Q σ (pc) L (st0) := rl_callS Γ d hO hM n g1 g2 g4 g5 hrm hd hf hlo hcl hw hn hst kk
theorem rl_callSv {y : MethodName} {bytes : ByteArray} {maxL index : Nat} {ret : Option FieldType} {rm : Room} {r : Int32} {τ : rl_M} {C : String} {As st0 : List Value} (Γ : CallFix p m c cc nL s args rl_TT own) (d : decode cc pc = .ok (.invokestatic index, 3)) (hO : rl_Ok E s) (hM : Met l y (Cond.code y bytes maxL ret :: rl_TT) rm (rl_P E As σ) (rl_Q E (rl_rv r) τ) 0 0 (rl_A E)) (n : Nat) (g1 : Cond.methodLink own index y ∈ rl_TT) (g2 : Cond.static y ∈ rl_TT) (g4 : Cond.initialized C ∈ rl_TT) (g5 : Cond.code y bytes maxL ret ∈ rl_TT) (hrm : rm.cells = 0 ∧ rm.slots = 0) (hd : y.cls = C ∧ y.cls ≠ "java/lang/invoke/MethodHandle" ∧ y.cls ≠ "java/lang/invoke/VarHandle" ∧ (parseMethodDescriptor y.desc).map (fun d => d.parameters.length) = some n) (hf : rm.frames + 1 ≤ R.frames) (hlo : 8 + (maxL + 11) + rm.locals ≤ R.locals) (hcl : cells ≤ R.cells ∧ slots ≤ R.slots) (hw : (st.map fun v => v.category).sum ≤ 8) (hn : As.length = n) (hst : st0 = As.reverse ++ st) (kk : rl_G p l e R s m args below meth c nL E cells slots Q τ (pc + 3) L (st)) : rl_G p l e R s m args below meth c nL E cells slots Q σ (pc) L (st0) := rl_callS Γ d hO hM n g1 g2 g4 g5 hrm hd hf hlo hcl hw hn hst kk
theorem rl_callSNi {y : MethodName} {bytes : ByteArray} {maxL index : Nat} {ret : Option FieldType} {rm : Room} {r : Int32} {τ : rl_M} {C host : String} {As st0 : List Value} (Γ : CallFix p m c cc nL s args rl_TT own) (d : decode cc pc = .ok (.invokestatic index, 3)) (hO : rl_Ok E s) (hM : Met l y (Cond.code y bytes maxL ret :: rl_TT) rm (rl_P E As σ) (rl_Q E (rl_ri r) τ) 0 0 (rl_A E)) (n : Nat) (g1 : va_Nw (.methodLinkNest own index y host) s) (g2 : Cond.static y ∈ rl_TT) (g4 : Cond.initialized C ∈ rl_TT) (g5 : Cond.code y bytes maxL ret ∈ rl_TT) (hrm : rm.cells = 0 ∧ rm.slots = 0) (hd : y.cls = C ∧ y.cls ≠ "java/lang/invoke/MethodHandle" ∧ y.cls ≠ "java/lang/invoke/VarHandle" ∧ (parseMethodDescriptor y.desc).map (fun d => d.parameters.length) = some n) (hf : rm.frames + 1 ≤ R.frames) (hlo : 8 + (maxL + 11) + rm.locals ≤ R.locals) (hcl : cells ≤ R.cells ∧ slots ≤ R.slots) (hw : (st.map fun v => v.category).sum ≤ 8) (hn : As.length = n) (hst : st0 = As.reverse ++ st) (kk : rl_G p l e R s m args below meth c nL E cells slots Q τ (pc + 3) L (.int r :: st)) : rl_G p l e R s m args below meth c nL E cells slots Q σ (pc) L (st0) := rl_callSN Γ d hO hM n g1 g2 g4 g5 hrm hd hf hlo hcl hw hn hst kk
theorem rl_callSNv {y : MethodName} {bytes : ByteArray} {maxL index : Nat} {ret : Option FieldType} {rm : Room} {r : Int32} {τ : rl_M} {C host : String} {As st0 : List Value} (Γ : CallFix p m c cc nL s args rl_TT own) (d : decode cc pc = .ok (.invokestatic index, 3)) (hO : rl_Ok E s) (hM : Met l y (Cond.code y bytes maxL ret :: rl_TT) rm (rl_P E As σ) (rl_Q E (rl_rv r) τ) 0 0 (rl_A E)) (n : Nat) (g1 : va_Nw (.methodLinkNest own index y host) s) (g2 : Cond.static y ∈ rl_TT) (g4 : Cond.initialized C ∈ rl_TT) (g5 : Cond.code y bytes maxL ret ∈ rl_TT) (hrm : rm.cells = 0 ∧ rm.slots = 0) (hd : y.cls = C ∧ y.cls ≠ "java/lang/invoke/MethodHandle" ∧ y.cls ≠ "java/lang/invoke/VarHandle" ∧ (parseMethodDescriptor y.desc).map (fun d => d.parameters.length) = some n) (hf : rm.frames + 1 ≤ R.frames) (hlo : 8 + (maxL + 11) + rm.locals ≤ R.locals) (hcl : cells ≤ R.cells ∧ slots ≤ R.slots) (hw : (st.map fun v => v.category).sum ≤ 8) (hn : As.length = n) (hst : st0 = As.reverse ++ st) (kk : rl_G p l e R s m args below meth c nL E cells slots Q τ (pc + 3) L (st)) : rl_G p l e R s m args below meth c nL E cells slots Q σ (pc) L (st0) := rl_callSN Γ d hO hM n g1 g2 g4 g5 hrm hd hf hlo hcl hw hn hst kk
theorem rl_iret (Γ : CallFix p m c cc nL s args rl_TT own) (d : decode cc pc = .ok (.ireturn, 1)) (hr : meth.sig.returnType = some .int) (hk : meth.locks = false) {v : Int32} {r : Int32 × rl_M} (h : some (v, σ) = some r) : rl_G p l e R s m args below meth c nL E 0 0 (rl_QM below args s E rl_ri r) σ pc L [.int v] := by
  cases h
  exact fun H locs ls h1 h2 h3 => W.iret (v := v) Γ.1 Γ.2.1 hr (fun t ht hW => ⟨rfl, by rw [ht]; exact h1, h2.F ht⟩) h2.2.2 d
theorem rl_zret (Γ : CallFix p m c cc nL s args rl_TT own) (d : decode cc pc = .ok (.ireturn, 1)) (hr : meth.sig.returnType = some .boolean) (hk : meth.locks = false) {v : Int32} {r : Int32 × rl_M} (hz : rl_zb v = true) (h : some (v, σ) = some r) : rl_G p l e R s m args below meth c nL E 0 0 (rl_QM below args s E rl_ri r) σ pc L [.int v] := by
  cases h
  have hn : narrow .boolean (.int v) = .int v := by
    simp only [rl_zb, Bool.or_eq_true, decide_eq_true_eq] at hz
    rcases hz with rfl | rfl <;> decide
  exact fun H locs ls h1 h2 h3 => W.zret (v := v) Γ.1 Γ.2.1 hr hn (fun t ht hW => ⟨rfl, by rw [ht]; exact h1, h2.F ht⟩) h2.2.2 d
theorem rl_vret (Γ : CallFix p m c cc nL s args rl_TT own) (d : decode cc pc = .ok (.return_, 1)) (hr : meth.sig.returnType = none) (hk : meth.locks = false) {v : Int32} {r : Int32 × rl_M} (h : some (v, σ) = some r) : rl_G p l e R s m args below meth c nL E 0 0 (rl_QM below args s E rl_rv r) σ pc L [] := by
  cases h
  exact fun H locs ls h1 h2 h3 => W.vret Γ.1 Γ.2.1 hr (fun t ht hW => ⟨rfl, by rw [ht]; exact h1, h2.F ht⟩) h2.2.2 d
theorem rl_swIn (Γ : CallFix p m c cc nL s args rl_TT own) {dflt lo hi : Int} {offs : Array Int} {len : Nat} {x k : Int32} {off : Int} {tgt : Nat} (d : decode cc pc = .ok (.tableswitch dflt lo hi offs, len)) (hx : x = k) (h1 : ¬ k.toInt < lo) (h2 : ¬ hi < k.toInt) (ho : offs[(k.toInt - lo).toNat]? = some off) (ht : (pc : Int) + off = (tgt : Int)) (kk : rl_G p l e R s m args below meth c nL E cells slots Q σ (tgt) L (st)) : rl_G p l e R s m args below meth c nL E cells slots Q σ (pc) L (.int x :: st) := by
  subst hx
  exact fun H locs ls a1 a2 a3 => lv_tableIn Γ.1 Γ.2.1 d h1 h2 ho ht (kk H locs ls a1 a2 a3)
theorem rl_swOut (Γ : CallFix p m c cc nL s args rl_TT own) {dflt lo hi : Int} {offs : Array Int} {len : Nat} {x : Int32} {tgt : Nat} (d : decode cc pc = .ok (.tableswitch dflt lo hi offs, len)) (h : x.toInt < lo ∨ hi < x.toInt) (ht : (pc : Int) + dflt = (tgt : Int)) (kk : rl_G p l e R s m args below meth c nL E cells slots Q σ (tgt) L (st)) : rl_G p l e R s m args below meth c nL E cells slots Q σ (pc) L (.int x :: st) :=
  fun H locs ls a1 a2 a3 => lv_tableOut Γ.1 Γ.2.1 d h ht (kk H locs ls a1 a2 a3)
theorem rl_ldc2 (Γ : CallFix p m c cc nL s args rl_TT own) {index : Nat} {v : Int64} (d : decode cc pc = .ok (.ldc2_w index, 3)) (hc : Cond.constantLong own index v ∈ rl_TT) (kk : rl_G p l e R s m args below meth c nL E cells slots Q σ (pc + 3) L (.long v :: st)) : rl_G p l e R s m args below meth c nL E cells slots Q σ (pc) L (st) := fun H locs ls h1 h2 h3 => lv_ldc2 Γ.1 Γ.2.1 Γ.2.2.2.1 (Γ.2.2.2.2 _ hc) d (kk H locs ls h1 h2 h3)
end RLG
theorem rl_n0 {E : rl_E} {s : State} (h : rl_Ok E s) : va_Nw (.methodLinkNest nR_Sr 23 ny_Ro_roomOfSign nR_Ro) s := h.2.2.1.1
theorem rl_n1 {E : rl_E} {s : State} (h : rl_Ok E s) : va_Nw (.methodLinkNest nR_Sr 31 ny_Ro_joins nR_Ro) s := h.2.2.1.2.1
theorem rl_n2 {E : rl_E} {s : State} (h : rl_Ok E s) : va_Nw (.methodLinkNest nR_St 62 ny_Ro_roomOfSign nR_Ro) s := h.2.2.1.2.2.1
theorem rl_n3 {E : rl_E} {s : State} (h : rl_Ok E s) : va_Nw (.methodLinkNest nR_St 54 ny_Ro_joins nR_Ro) s := h.2.2.1.2.2.2
theorem rl_ni {v : Int32} : narrow .int (.int v) = .int v ∧ fits .int (.int v) = true := ⟨rfl, rfl⟩
theorem rl_nz {v : Int32} (h : rl_zb v = true) : narrow .boolean (.int v) = .int v ∧ fits .boolean (.int v) = true := by
  simp only [rl_zb, Bool.or_eq_true, decide_eq_true_eq] at h
  rcases h with rfl | rfl <;> decide
end
