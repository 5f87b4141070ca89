/-- the tables' words that hold behind every call -/
def rl_TT : List Cond := lw_tbl.filter goodWord
theorem rl_tin {w : Cond} (i : Nat) (h : lw_tbl[i]? = some w) (g : goodWord w = true) : w ∈ rl_TT := List.mem_filter.mpr ⟨List.mem_of_getElem? h, g⟩
def nR_Ro : String := "RoomLayouts"
def nT_Ro : u_T := fun k => match k with
  | 0 => ("RoomLayouts", "reading", "LRoomLayouts$SignRow;", true)
  | 1 => ("RoomLayouts", "plan", "LRoomLayouts$Plan;", true)
  | _ => ("RoomLayouts", "wishList", "LRoomLayouts$WishList;", true)
def nt_Ro : Nat → FieldType := fun k => match k with
  | 0 => .object "RoomLayouts$SignRow"
  | 1 => .object "RoomLayouts$Plan"
  | _ => .object "RoomLayouts$WishList"
theorem nn_Ro : ∀ a, a < 3 → ∀ b, b < 3 → a ≠ b → (nT_Ro a).2.1 ≠ (nT_Ro b).2.1 := by decide +kernel
theorem nto_Ro : ∀ k, k < 3 → parseFieldDescriptor (nT_Ro k).2.2.1 = some (nt_Ro k) := by decide +kernel
theorem ni_Ro : ∀ w ∈ u_ws nR_Ro nT_Ro 3, w ∈ rl_TT := by decide +kernel
def nR_Sr : String := "RoomLayouts$SignRow"
def nT_Sr : u_T := fun k => match k with
  | 0 => ("RoomLayouts$SignRow", "count", "I", false)
  | _ => ("RoomLayouts$SignRow", "signs", "[I", true)
def nt_Sr : Nat → FieldType := fun k => match k with
  | 0 => .int
  | _ => .array .int
theorem nn_Sr : ∀ a, a < 2 → ∀ b, b < 2 → a ≠ b → (nT_Sr a).2.1 ≠ (nT_Sr b).2.1 := by decide +kernel
theorem nto_Sr : ∀ k, k < 2 → parseFieldDescriptor (nT_Sr k).2.2.1 = some (nt_Sr k) := by decide +kernel
theorem ni_Sr : ∀ w ∈ u_ws nR_Sr nT_Sr 2, w ∈ rl_TT := by decide +kernel
def nR_Pl : String := "RoomLayouts$Plan"
def nT_Pl : u_T := fun k => match k with
  | 0 => ("RoomLayouts$Plan", "rooms", "LRoomLayouts$RoomList;", true)
  | 1 => ("RoomLayouts$Plan", "tree", "LRoomLayouts$SliceTree;", true)
  | 2 => ("RoomLayouts$Plan", "lotWidth", "I", false)
  | 3 => ("RoomLayouts$Plan", "lotHeight", "I", false)
  | 4 => ("RoomLayouts$Plan", "measured", "Z", false)
  | 5 => ("RoomLayouts$Plan", "settled", "Z", false)
  | 6 => ("RoomLayouts$Plan", "curves", "[LRoomLayouts$Curve;", true)
  | 7 => ("RoomLayouts$Plan", "fitting", "LRoomLayouts$Curve;", true)
  | 8 => ("RoomLayouts$Plan", "bestAt", "I", false)
  | 9 => ("RoomLayouts$Plan", "choice", "[I", true)
  | 10 => ("RoomLayouts$Plan", "left", "[I", true)
  | _ => ("RoomLayouts$Plan", "bottom", "[I", true)
def nt_Pl : Nat → FieldType := fun k => match k with
  | 0 => .object "RoomLayouts$RoomList"
  | 1 => .object "RoomLayouts$SliceTree"
  | 2 => .int
  | 3 => .int
  | 4 => .boolean
  | 5 => .boolean
  | 6 => .array (.object "RoomLayouts$Curve")
  | 7 => .object "RoomLayouts$Curve"
  | 8 => .int
  | 9 => .array .int
  | 10 => .array .int
  | _ => .array .int
theorem nn_Pl : ∀ a, a < 12 → ∀ b, b < 12 → a ≠ b → (nT_Pl a).2.1 ≠ (nT_Pl b).2.1 := by decide +kernel
theorem nto_Pl : ∀ k, k < 12 → parseFieldDescriptor (nT_Pl k).2.2.1 = some (nt_Pl k) := by decide +kernel
theorem ni_Pl : ∀ w ∈ u_ws nR_Pl nT_Pl 12, w ∈ rl_TT := by decide +kernel
def nR_Rl : String := "RoomLayouts$RoomList"
def nT_Rl : u_T := fun k => match k with
  | 0 => ("RoomLayouts$RoomList", "count", "I", false)
  | 1 => ("RoomLayouts$RoomList", "sizeCount", "[I", true)
  | 2 => ("RoomLayouts$RoomList", "width", "[I", true)
  | _ => ("RoomLayouts$RoomList", "height", "[I", true)
def nt_Rl : Nat → FieldType := fun k => match k with
  | 0 => .int
  | 1 => .array .int
  | 2 => .array .int
  | _ => .array .int
theorem nn_Rl : ∀ a, a < 4 → ∀ b, b < 4 → a ≠ b → (nT_Rl a).2.1 ≠ (nT_Rl b).2.1 := by decide +kernel
theorem nto_Rl : ∀ k, k < 4 → parseFieldDescriptor (nT_Rl k).2.2.1 = some (nt_Rl k) := by decide +kernel
theorem ni_Rl : ∀ w ∈ u_ws nR_Rl nT_Rl 4, w ∈ rl_TT := by decide +kernel
def nR_St : String := "RoomLayouts$SliceTree"
def nT_St : u_T := fun k => match k with
  | 0 => ("RoomLayouts$SliceTree", "count", "I", false)
  | 1 => ("RoomLayouts$SliceTree", "signs", "[I", true)
  | 2 => ("RoomLayouts$SliceTree", "first", "[I", true)
  | 3 => ("RoomLayouts$SliceTree", "second", "[I", true)
  | 4 => ("RoomLayouts$SliceTree", "parent", "[I", true)
  | 5 => ("RoomLayouts$SliceTree", "open", "[I", true)
  | _ => ("RoomLayouts$SliceTree", "roomNode", "[I", true)
def nt_St : Nat → FieldType := fun k => match k with
  | 0 => .int
  | 1 => .array .int
  | 2 => .array .int
  | 3 => .array .int
  | 4 => .array .int
  | 5 => .array .int
  | _ => .array .int
theorem nn_St : ∀ a, a < 7 → ∀ b, b < 7 → a ≠ b → (nT_St a).2.1 ≠ (nT_St b).2.1 := by decide +kernel
theorem nto_St : ∀ k, k < 7 → parseFieldDescriptor (nT_St k).2.2.1 = some (nt_St k) := by decide +kernel
theorem ni_St : ∀ w ∈ u_ws nR_St nT_St 7, w ∈ rl_TT := by decide +kernel
def nR_Wl : String := "RoomLayouts$WishList"
def nT_Wl : u_T := fun k => match k with
  | 0 => ("RoomLayouts$WishList", "count", "I", false)
  | 1 => ("RoomLayouts$WishList", "one", "[I", true)
  | 2 => ("RoomLayouts$WishList", "another", "[I", true)
  | _ => ("RoomLayouts$WishList", "length", "[I", true)
def nt_Wl : Nat → FieldType := fun k => match k with
  | 0 => .int
  | 1 => .array .int
  | 2 => .array .int
  | _ => .array .int
theorem nn_Wl : ∀ a, a < 4 → ∀ b, b < 4 → a ≠ b → (nT_Wl a).2.1 ≠ (nT_Wl b).2.1 := by decide +kernel
theorem nto_Wl : ∀ k, k < 4 → parseFieldDescriptor (nT_Wl k).2.2.1 = some (nt_Wl k) := by decide +kernel
theorem ni_Wl : ∀ w ∈ u_ws nR_Wl nT_Wl 4, w ∈ rl_TT := by decide +kernel
def nR_Cu : String := "RoomLayouts$Curve"
def nT_Cu : u_T := fun k => match k with
  | 0 => ("RoomLayouts$Curve", "count", "I", false)
  | 1 => ("RoomLayouts$Curve", "width", "[I", true)
  | _ => ("RoomLayouts$Curve", "height", "[I", true)
def nt_Cu : Nat → FieldType := fun k => match k with
  | 0 => .int
  | 1 => .array .int
  | _ => .array .int
theorem nn_Cu : ∀ a, a < 3 → ∀ b, b < 3 → a ≠ b → (nT_Cu a).2.1 ≠ (nT_Cu b).2.1 := by decide +kernel
theorem nto_Cu : ∀ k, k < 3 → parseFieldDescriptor (nT_Cu k).2.2.1 = some (nt_Cu k) := by decide +kernel
theorem ni_Cu : ∀ w ∈ u_ws nR_Cu nT_Cu 3, w ∈ rl_TT := by decide +kernel
def nR_Mo : String := "RoomLayoutsModel"
def nT_Mo : u_T := fun k => match k with
  | 0 => ("RoomLayoutsModel", "code", "I", false)
  | 1 => ("RoomLayoutsModel", "rooms", "I", false)
  | 2 => ("RoomLayoutsModel", "sizes", "[I", true)
  | 3 => ("RoomLayoutsModel", "widths", "[I", true)
  | 4 => ("RoomLayoutsModel", "heights", "[I", true)
  | 5 => ("RoomLayoutsModel", "lotWidth", "I", false)
  | 6 => ("RoomLayoutsModel", "lotHeight", "I", false)
  | 7 => ("RoomLayoutsModel", "signs", "I", false)
  | 8 => ("RoomLayoutsModel", "order", "[I", true)
  | 9 => ("RoomLayoutsModel", "wishes", "I", false)
  | 10 => ("RoomLayoutsModel", "ones", "[I", true)
  | 11 => ("RoomLayoutsModel", "others", "[I", true)
  | 12 => ("RoomLayoutsModel", "lengths", "[I", true)
  | 13 => ("RoomLayoutsModel", "choice", "[I", true)
  | 14 => ("RoomLayoutsModel", "best", "[I", true)
  | 15 => ("RoomLayoutsModel", "found", "Z", false)
  | 16 => ("RoomLayoutsModel", "bestWidth", "I", false)
  | 17 => ("RoomLayoutsModel", "bestHeight", "I", false)
  | 18 => ("RoomLayoutsModel", "partWidths", "[I", true)
  | 19 => ("RoomLayoutsModel", "partHeights", "[I", true)
  | 20 => ("RoomLayoutsModel", "xs", "[I", true)
  | 21 => ("RoomLayoutsModel", "ys", "[I", true)
  | 22 => ("RoomLayoutsModel", "firsts", "[I", true)
  | 23 => ("RoomLayoutsModel", "seconds", "[I", true)
  | 24 => ("RoomLayoutsModel", "stack", "[I", true)
  | 25 => ("RoomLayoutsModel", "least", "[I", true)
  | _ => ("RoomLayoutsModel", "coming", "[I", true)
def nt_Mo : Nat → FieldType := fun k => match k with
  | 0 => .int
  | 1 => .int
  | 2 => .array .int
  | 3 => .array .int
  | 4 => .array .int
  | 5 => .int
  | 6 => .int
  | 7 => .int
  | 8 => .array .int
  | 9 => .int
  | 10 => .array .int
  | 11 => .array .int
  | 12 => .array .int
  | 13 => .array .int
  | 14 => .array .int
  | 15 => .boolean
  | 16 => .int
  | 17 => .int
  | 18 => .array .int
  | 19 => .array .int
  | 20 => .array .int
  | 21 => .array .int
  | 22 => .array .int
  | 23 => .array .int
  | 24 => .array .int
  | 25 => .array .int
  | _ => .array .int
theorem nn_Mo : ∀ a, a < 27 → ∀ b, b < 27 → a ≠ b → (nT_Mo a).2.1 ≠ (nT_Mo b).2.1 := by decide +kernel
theorem nto_Mo : ∀ k, k < 27 → parseFieldDescriptor (nT_Mo k).2.2.1 = some (nt_Mo k) := by decide +kernel
theorem ni_Mo : ∀ w ∈ u_ws nR_Mo nT_Mo 27, w ∈ rl_TT := by decide +kernel
def nR_La : String := "RoomLayoutsLaw"
abbrev nc_Cu_init : ByteArray := prog_2_method_1_code
def ny_Cu_init : MethodName := ⟨nR_Cu, "<init>", "()V"⟩
abbrev nc_Cu_widthAt : ByteArray := prog_2_method_2_code
def ny_Cu_widthAt : MethodName := ⟨nR_Cu, "widthAt", "(I)I"⟩
abbrev nc_Cu_heightAt : ByteArray := prog_2_method_3_code
def ny_Cu_heightAt : MethodName := ⟨nR_Cu, "heightAt", "(I)I"⟩
abbrev nc_Cu_clear : ByteArray := prog_2_method_4_code
def ny_Cu_clear : MethodName := ⟨nR_Cu, "clear", "()V"⟩
abbrev nc_Cu_append : ByteArray := prog_2_method_5_code
def ny_Cu_append : MethodName := ⟨nR_Cu, "append", "(II)V"⟩
abbrev nc_Cu_offer : ByteArray := prog_2_method_6_code
def ny_Cu_offer : MethodName := ⟨nR_Cu, "offer", "(II)V"⟩
abbrev nc_Cu_hasWithin : ByteArray := prog_2_method_7_code
def ny_Cu_hasWithin : MethodName := ⟨nR_Cu, "hasWithin", "(II)Z"⟩
abbrev nc_Cu_dropAround : ByteArray := prog_2_method_8_code
def ny_Cu_dropAround : MethodName := ⟨nR_Cu, "dropAround", "(II)V"⟩
abbrev nc_Cu_exchangeOutlines : ByteArray := prog_2_method_9_code
def ny_Cu_exchangeOutlines : MethodName := ⟨nR_Cu, "exchangeOutlines", "(II)V"⟩
abbrev nc_Cu_joinBeside : ByteArray := prog_2_method_10_code
def ny_Cu_joinBeside : MethodName := ⟨nR_Cu, "joinBeside", "(LRoomLayouts$Curve;LRoomLayouts$Curve;)V"⟩
abbrev nc_Cu_joinAbove : ByteArray := prog_2_method_11_code
def ny_Cu_joinAbove : MethodName := ⟨nR_Cu, "joinAbove", "(LRoomLayouts$Curve;LRoomLayouts$Curve;)V"⟩
abbrev nc_Cu_takeFitting : ByteArray := prog_2_method_12_code
def ny_Cu_takeFitting : MethodName := ⟨nR_Cu, "takeFitting", "(LRoomLayouts$Curve;II)V"⟩
abbrev nc_Cu_leastArea : ByteArray := prog_2_method_13_code
def ny_Cu_leastArea : MethodName := ⟨nR_Cu, "leastArea", "()I"⟩
abbrev nc_Pl_init : ByteArray := prog_3_method_1_code
def ny_Pl_init : MethodName := ⟨nR_Pl, "<init>", "()V"⟩
abbrev nc_Pl_forget : ByteArray := prog_3_method_2_code
def ny_Pl_forget : MethodName := ⟨nR_Pl, "forget", "()V"⟩
abbrev nc_Pl_setLot : ByteArray := prog_3_method_3_code
def ny_Pl_setLot : MethodName := ⟨nR_Pl, "setLot", "(II)V"⟩
abbrev nc_Pl_hasBest : ByteArray := prog_3_method_4_code
def ny_Pl_hasBest : MethodName := ⟨nR_Pl, "hasBest", "()Z"⟩
abbrev nc_Pl_bestWidth : ByteArray := prog_3_method_5_code
def ny_Pl_bestWidth : MethodName := ⟨nR_Pl, "bestWidth", "()I"⟩
abbrev nc_Pl_bestHeight : ByteArray := prog_3_method_6_code
def ny_Pl_bestHeight : MethodName := ⟨nR_Pl, "bestHeight", "()I"⟩
abbrev nc_Pl_bestArea : ByteArray := prog_3_method_7_code
def ny_Pl_bestArea : MethodName := ⟨nR_Pl, "bestArea", "()I"⟩
abbrev nc_Pl_nodeOfPlaced : ByteArray := prog_3_method_8_code
def ny_Pl_nodeOfPlaced : MethodName := ⟨nR_Pl, "nodeOfPlaced", "(I)I"⟩
abbrev nc_Pl_readPlace : ByteArray := prog_3_method_9_code
def ny_Pl_readPlace : MethodName := ⟨nR_Pl, "readPlace", "(II)I"⟩
abbrev nc_Pl_nodeWidth : ByteArray := prog_3_method_10_code
def ny_Pl_nodeWidth : MethodName := ⟨nR_Pl, "nodeWidth", "(I)I"⟩
abbrev nc_Pl_nodeHeight : ByteArray := prog_3_method_11_code
def ny_Pl_nodeHeight : MethodName := ⟨nR_Pl, "nodeHeight", "(I)I"⟩
abbrev nc_Pl_sharedWall : ByteArray := prog_3_method_12_code
def ny_Pl_sharedWall : MethodName := ⟨nR_Pl, "sharedWall", "(II)I"⟩
abbrev nc_Pl_measure : ByteArray := prog_3_method_13_code
def ny_Pl_measure : MethodName := ⟨nR_Pl, "measure", "()V"⟩
abbrev nc_Pl_takeSizes : ByteArray := prog_3_method_14_code
def ny_Pl_takeSizes : MethodName := ⟨nR_Pl, "takeSizes", "(II)V"⟩
abbrev nc_Pl_join : ByteArray := prog_3_method_15_code
def ny_Pl_join : MethodName := ⟨nR_Pl, "join", "(I)V"⟩
abbrev nc_Pl_settle : ByteArray := prog_3_method_16_code
def ny_Pl_settle : MethodName := ⟨nR_Pl, "settle", "()V"⟩
abbrev nc_Pl_chooseFirstSize : ByteArray := prog_3_method_17_code
def ny_Pl_chooseFirstSize : MethodName := ⟨nR_Pl, "chooseFirstSize", "(II)V"⟩
abbrev nc_Pl_pin : ByteArray := prog_3_method_18_code
def ny_Pl_pin : MethodName := ⟨nR_Pl, "pin", "(III)V"⟩
abbrev nc_Pl_setCorners : ByteArray := prog_3_method_19_code
def ny_Pl_setCorners : MethodName := ⟨nR_Pl, "setCorners", "()V"⟩
abbrev nc_Pl_setCornersOfParts : ByteArray := prog_3_method_20_code
def ny_Pl_setCornersOfParts : MethodName := ⟨nR_Pl, "setCornersOfParts", "(III)V"⟩
abbrev nc_Rl_init : ByteArray := prog_4_method_1_code
def ny_Rl_init : MethodName := ⟨nR_Rl, "<init>", "()V"⟩
abbrev nc_Rl_addRoom : ByteArray := prog_4_method_2_code
def ny_Rl_addRoom : MethodName := ⟨nR_Rl, "addRoom", "()I"⟩
abbrev nc_Rl_addSize : ByteArray := prog_4_method_3_code
def ny_Rl_addSize : MethodName := ⟨nR_Rl, "addSize", "(III)I"⟩
abbrev nc_Rl_sizesOf : ByteArray := prog_4_method_4_code
def ny_Rl_sizesOf : MethodName := ⟨nR_Rl, "sizesOf", "(I)I"⟩
abbrev nc_Rl_widthOf : ByteArray := prog_4_method_5_code
def ny_Rl_widthOf : MethodName := ⟨nR_Rl, "widthOf", "(II)I"⟩
abbrev nc_Rl_heightOf : ByteArray := prog_4_method_6_code
def ny_Rl_heightOf : MethodName := ⟨nR_Rl, "heightOf", "(II)I"⟩
abbrev nc_Rl_slot : ByteArray := prog_4_method_7_code
def ny_Rl_slot : MethodName := ⟨nR_Rl, "slot", "(II)I"⟩
abbrev nc_Sr_init : ByteArray := prog_5_method_1_code
def ny_Sr_init : MethodName := ⟨nR_Sr, "<init>", "()V"⟩
abbrev nc_Sr_clear : ByteArray := prog_5_method_2_code
def ny_Sr_clear : MethodName := ⟨nR_Sr, "clear", "()V"⟩
abbrev nc_Sr_addBytes : ByteArray := prog_5_method_3_code
def ny_Sr_addBytes : MethodName := ⟨nR_Sr, "addBytes", "(J)V"⟩
abbrev nc_Sr_signAt : ByteArray := prog_5_method_4_code
def ny_Sr_signAt : MethodName := ⟨nR_Sr, "signAt", "(I)I"⟩
abbrev nc_Sr_firstFault : ByteArray := prog_5_method_5_code
def ny_Sr_firstFault : MethodName := ⟨nR_Sr, "firstFault", "(LRoomLayouts$RoomList;)I"⟩
abbrev nc_St_init : ByteArray := prog_6_method_1_code
def ny_St_init : MethodName := ⟨nR_St, "<init>", "()V"⟩
abbrev nc_St_build : ByteArray := prog_6_method_2_code
def ny_St_build : MethodName := ⟨nR_St, "build", "(LRoomLayouts$SignRow;)V"⟩
abbrev nc_St_forgetRooms : ByteArray := prog_6_method_3_code
def ny_St_forgetRooms : MethodName := ⟨nR_St, "forgetRooms", "()V"⟩
abbrev nc_St_setSign : ByteArray := prog_6_method_4_code
def ny_St_setSign : MethodName := ⟨nR_St, "setSign", "(II)V"⟩
abbrev nc_St_link : ByteArray := prog_6_method_5_code
def ny_St_link : MethodName := ⟨nR_St, "link", "(III)V"⟩
abbrev nc_St_has : ByteArray := prog_6_method_6_code
def ny_St_has : MethodName := ⟨nR_St, "has", "(I)Z"⟩
abbrev nc_St_signAt : ByteArray := prog_6_method_7_code
def ny_St_signAt : MethodName := ⟨nR_St, "signAt", "(I)I"⟩
abbrev nc_St_roomAt : ByteArray := prog_6_method_8_code
def ny_St_roomAt : MethodName := ⟨nR_St, "roomAt", "(I)I"⟩
abbrev nc_St_firstOf : ByteArray := prog_6_method_9_code
def ny_St_firstOf : MethodName := ⟨nR_St, "firstOf", "(I)I"⟩
abbrev nc_St_secondOf : ByteArray := prog_6_method_10_code
def ny_St_secondOf : MethodName := ⟨nR_St, "secondOf", "(I)I"⟩
abbrev nc_St_parentOf : ByteArray := prog_6_method_11_code
def ny_St_parentOf : MethodName := ⟨nR_St, "parentOf", "(I)I"⟩
abbrev nc_St_nodeOf : ByteArray := prog_6_method_12_code
def ny_St_nodeOf : MethodName := ⟨nR_St, "nodeOf", "(I)I"⟩
abbrev nc_St_exchange : ByteArray := prog_6_method_13_code
def ny_St_exchange : MethodName := ⟨nR_St, "exchange", "(II)V"⟩
abbrev nc_St_giveNode : ByteArray := prog_6_method_14_code
def ny_St_giveNode : MethodName := ⟨nR_St, "giveNode", "(II)V"⟩
abbrev nc_Wl_init : ByteArray := prog_7_method_1_code
def ny_Wl_init : MethodName := ⟨nR_Wl, "<init>", "()V"⟩
abbrev nc_Wl_add : ByteArray := prog_7_method_2_code
def ny_Wl_add : MethodName := ⟨nR_Wl, "add", "(III)I"⟩
abbrev nc_Wl_isMetIn : ByteArray := prog_7_method_3_code
def ny_Wl_isMetIn : MethodName := ⟨nR_Wl, "isMetIn", "(LRoomLayouts$Plan;I)Z"⟩
abbrev nc_Wl_countMetIn : ByteArray := prog_7_method_4_code
def ny_Wl_countMetIn : MethodName := ⟨nR_Wl, "countMetIn", "(LRoomLayouts$Plan;)I"⟩
abbrev nc_Ro_init : ByteArray := prog_1_method_1_code
def ny_Ro_init : MethodName := ⟨nR_Ro, "<init>", "()V"⟩
abbrev nc_Ro_room : ByteArray := prog_1_method_2_code
def ny_Ro_room : MethodName := ⟨nR_Ro, "room", "()I"⟩
abbrev nc_Ro_size : ByteArray := prog_1_method_3_code
def ny_Ro_size : MethodName := ⟨nR_Ro, "size", "(III)I"⟩
abbrev nc_Ro_lot : ByteArray := prog_1_method_4_code
def ny_Ro_lot : MethodName := ⟨nR_Ro, "lot", "(II)V"⟩
abbrev nc_Ro_order : ByteArray := prog_1_method_5_code
def ny_Ro_order : MethodName := ⟨nR_Ro, "order", "(JJ)I"⟩
abbrev nc_Ro_best : ByteArray := prog_1_method_6_code
def ny_Ro_best : MethodName := ⟨nR_Ro, "best", "(I)I"⟩
abbrev nc_Ro_place : ByteArray := prog_1_method_7_code
def ny_Ro_place : MethodName := ⟨nR_Ro, "place", "(II)I"⟩
abbrev nc_Ro_outline : ByteArray := prog_1_method_8_code
def ny_Ro_outline : MethodName := ⟨nR_Ro, "outline", "(II)I"⟩
abbrev nc_Ro_wall : ByteArray := prog_1_method_9_code
def ny_Ro_wall : MethodName := ⟨nR_Ro, "wall", "(II)I"⟩
abbrev nc_Ro_wish : ByteArray := prog_1_method_10_code
def ny_Ro_wish : MethodName := ⟨nR_Ro, "wish", "(III)I"⟩
abbrev nc_Ro_met0 : ByteArray := prog_1_method_11_code
def ny_Ro_met0 : MethodName := ⟨nR_Ro, "met", "(I)Z"⟩
abbrev nc_Ro_met1 : ByteArray := prog_1_method_12_code
def ny_Ro_met1 : MethodName := ⟨nR_Ro, "met", "()I"⟩
abbrev nc_Ro_swap : ByteArray := prog_1_method_13_code
def ny_Ro_swap : MethodName := ⟨nR_Ro, "swap", "(II)Z"⟩
abbrev nc_Ro_improve : ByteArray := prog_1_method_14_code
def ny_Ro_improve : MethodName := ⟨nR_Ro, "improve", "()Z"⟩
abbrev nc_Ro_sign : ByteArray := prog_1_method_15_code
def ny_Ro_sign : MethodName := ⟨nR_Ro, "sign", "(I)I"⟩
abbrev nc_Ro_canExchange : ByteArray := prog_1_method_16_code
def ny_Ro_canExchange : MethodName := ⟨nR_Ro, "canExchange", "(II)Z"⟩
abbrev nc_Ro_changePlaces : ByteArray := prog_1_method_17_code
def ny_Ro_changePlaces : MethodName := ⟨nR_Ro, "changePlaces", "(II)V"⟩
abbrev nc_Ro_needRoom : ByteArray := prog_1_method_18_code
def ny_Ro_needRoom : MethodName := ⟨nR_Ro, "needRoom", "(I)V"⟩
abbrev nc_Ro_needTwoRooms : ByteArray := prog_1_method_19_code
def ny_Ro_needTwoRooms : MethodName := ⟨nR_Ro, "needTwoRooms", "(II)V"⟩
abbrev nc_Ro_needWithin : ByteArray := prog_1_method_20_code
def ny_Ro_needWithin : MethodName := ⟨nR_Ro, "needWithin", "(III)V"⟩
abbrev nc_Ro_needNotBelowZero : ByteArray := prog_1_method_21_code
def ny_Ro_needNotBelowZero : MethodName := ⟨nR_Ro, "needNotBelowZero", "(I)V"⟩
abbrev nc_Ro_roomOfSign : ByteArray := prog_1_method_22_code
def ny_Ro_roomOfSign : MethodName := ⟨nR_Ro, "roomOfSign", "(I)I"⟩
abbrev nc_Ro_joins : ByteArray := prog_1_method_23_code
def ny_Ro_joins : MethodName := ⟨nR_Ro, "joins", "(I)Z"⟩
abbrev nc_Mo_init : ByteArray := prog_9_method_1_code
def ny_Mo_init : MethodName := ⟨nR_Mo, "<init>", "()V"⟩
abbrev nc_Mo_thrown : ByteArray := prog_9_method_2_code
def ny_Mo_thrown : MethodName := ⟨nR_Mo, "thrown", "()I"⟩
abbrev nc_Mo_isRoom : ByteArray := prog_9_method_3_code
def ny_Mo_isRoom : MethodName := ⟨nR_Mo, "isRoom", "(I)Z"⟩
abbrev nc_Mo_isIn : ByteArray := prog_9_method_4_code
def ny_Mo_isIn : MethodName := ⟨nR_Mo, "isIn", "(III)Z"⟩
abbrev nc_Mo_room : ByteArray := prog_9_method_5_code
def ny_Mo_room : MethodName := ⟨nR_Mo, "room", "()I"⟩
abbrev nc_Mo_size : ByteArray := prog_9_method_6_code
def ny_Mo_size : MethodName := ⟨nR_Mo, "size", "(III)I"⟩
abbrev nc_Mo_lot : ByteArray := prog_9_method_7_code
def ny_Mo_lot : MethodName := ⟨nR_Mo, "lot", "(II)V"⟩
abbrev nc_Mo_gather : ByteArray := prog_9_method_8_code
def ny_Mo_gather : MethodName := ⟨nR_Mo, "gather", "(JI)I"⟩
abbrev nc_Mo_order : ByteArray := prog_9_method_9_code
def ny_Mo_order : MethodName := ⟨nR_Mo, "order", "(JJ)I"⟩
abbrev nc_Mo_placeOf : ByteArray := prog_9_method_10_code
def ny_Mo_placeOf : MethodName := ⟨nR_Mo, "placeOf", "(I)I"⟩
abbrev nc_Mo_layOut : ByteArray := prog_9_method_11_code
def ny_Mo_layOut : MethodName := ⟨nR_Mo, "layOut", "()V"⟩
abbrev nc_Mo_findCorners : ByteArray := prog_9_method_12_code
def ny_Mo_findCorners : MethodName := ⟨nR_Mo, "findCorners", "()V"⟩
abbrev nc_Mo_firstChoice : ByteArray := prog_9_method_13_code
def ny_Mo_firstChoice : MethodName := ⟨nR_Mo, "firstChoice", "()V"⟩
abbrev nc_Mo_nextChoice : ByteArray := prog_9_method_14_code
def ny_Mo_nextChoice : MethodName := ⟨nR_Mo, "nextChoice", "()Z"⟩
abbrev nc_Mo_fits : ByteArray := prog_9_method_15_code
def ny_Mo_fits : MethodName := ⟨nR_Mo, "fits", "()Z"⟩
abbrev nc_Mo_findBest : ByteArray := prog_9_method_16_code
def ny_Mo_findBest : MethodName := ⟨nR_Mo, "findBest", "()V"⟩
abbrev nc_Mo_best : ByteArray := prog_9_method_17_code
def ny_Mo_best : MethodName := ⟨nR_Mo, "best", "(I)I"⟩
abbrev nc_Mo_place : ByteArray := prog_9_method_18_code
def ny_Mo_place : MethodName := ⟨nR_Mo, "place", "(II)I"⟩
abbrev nc_Mo_outline : ByteArray := prog_9_method_19_code
def ny_Mo_outline : MethodName := ⟨nR_Mo, "outline", "(II)I"⟩
abbrev nc_Mo_overlap : ByteArray := prog_9_method_20_code
def ny_Mo_overlap : MethodName := ⟨nR_Mo, "overlap", "(IIII)I"⟩
abbrev nc_Mo_shared : ByteArray := prog_9_method_21_code
def ny_Mo_shared : MethodName := ⟨nR_Mo, "shared", "(II)I"⟩
abbrev nc_Mo_wall : ByteArray := prog_9_method_22_code
def ny_Mo_wall : MethodName := ⟨nR_Mo, "wall", "(II)I"⟩
abbrev nc_Mo_wish : ByteArray := prog_9_method_23_code
def ny_Mo_wish : MethodName := ⟨nR_Mo, "wish", "(III)I"⟩
abbrev nc_Mo_isMet : ByteArray := prog_9_method_24_code
def ny_Mo_isMet : MethodName := ⟨nR_Mo, "isMet", "(I)Z"⟩
abbrev nc_Mo_met0 : ByteArray := prog_9_method_25_code
def ny_Mo_met0 : MethodName := ⟨nR_Mo, "met", "(I)Z"⟩
abbrev nc_Mo_allMet : ByteArray := prog_9_method_26_code
def ny_Mo_allMet : MethodName := ⟨nR_Mo, "allMet", "()I"⟩
abbrev nc_Mo_met1 : ByteArray := prog_9_method_27_code
def ny_Mo_met1 : MethodName := ⟨nR_Mo, "met", "()I"⟩
abbrev nc_Mo_canChange : ByteArray := prog_9_method_28_code
def ny_Mo_canChange : MethodName := ⟨nR_Mo, "canChange", "(II)Z"⟩
abbrev nc_Mo_change : ByteArray := prog_9_method_29_code
def ny_Mo_change : MethodName := ⟨nR_Mo, "change", "(II)V"⟩
abbrev nc_Mo_swap : ByteArray := prog_9_method_30_code
def ny_Mo_swap : MethodName := ⟨nR_Mo, "swap", "(II)Z"⟩
abbrev nc_Mo_improve : ByteArray := prog_9_method_31_code
def ny_Mo_improve : MethodName := ⟨nR_Mo, "improve", "()Z"⟩
abbrev nc_Mo_sign : ByteArray := prog_9_method_32_code
def ny_Mo_sign : MethodName := ⟨nR_Mo, "sign", "(I)I"⟩
def nw_Cu_widthAt : List Cond := .code ny_Cu_widthAt nc_Cu_widthAt 2 (some .int) :: rl_TT
abbrev nr_Cu_widthAt : Room := { frames := 0, cells := 0, slots := 0, locals := 0 }
def nw_Cu_heightAt : List Cond := .code ny_Cu_heightAt nc_Cu_heightAt 2 (some .int) :: rl_TT
abbrev nr_Cu_heightAt : Room := { frames := 0, cells := 0, slots := 0, locals := 0 }
def nw_Cu_clear : List Cond := .code ny_Cu_clear nc_Cu_clear 1 none :: rl_TT
abbrev nr_Cu_clear : Room := { frames := 0, cells := 0, slots := 0, locals := 0 }
def nw_Cu_append : List Cond := .code ny_Cu_append nc_Cu_append 3 none :: rl_TT
abbrev nr_Cu_append : Room := { frames := 0, cells := 0, slots := 0, locals := 0 }
def nw_Cu_hasWithin : List Cond := .code ny_Cu_hasWithin nc_Cu_hasWithin 4 (some .boolean) :: rl_TT
abbrev nr_Cu_hasWithin : Room := { frames := 0, cells := 0, slots := 0, locals := 0 }
def nw_Cu_dropAround : List Cond := .code ny_Cu_dropAround nc_Cu_dropAround 5 none :: rl_TT
abbrev nr_Cu_dropAround : Room := { frames := 1, cells := 0, slots := 0, locals := 22 }
def nw_Cu_exchangeOutlines : List Cond := .code ny_Cu_exchangeOutlines nc_Cu_exchangeOutlines 5 none :: rl_TT
abbrev nr_Cu_exchangeOutlines : Room := { frames := 0, cells := 0, slots := 0, locals := 0 }
def nw_Cu_offer : List Cond := .code ny_Cu_offer nc_Cu_offer 4 none :: rl_TT
abbrev nr_Cu_offer : Room := { frames := 2, cells := 0, slots := 0, locals := 46 }
def nw_Cu_joinBeside : List Cond := .code ny_Cu_joinBeside nc_Cu_joinBeside 7 none :: rl_TT
abbrev nr_Cu_joinBeside : Room := { frames := 1, cells := 0, slots := 0, locals := 22 }
def nw_Cu_joinAbove : List Cond := .code ny_Cu_joinAbove nc_Cu_joinAbove 7 none :: rl_TT
abbrev nr_Cu_joinAbove : Room := { frames := 1, cells := 0, slots := 0, locals := 24 }
def nw_Cu_takeFitting : List Cond := .code ny_Cu_takeFitting nc_Cu_takeFitting 5 none :: rl_TT
abbrev nr_Cu_takeFitting : Room := { frames := 1, cells := 0, slots := 0, locals := 22 }
def nw_Cu_leastArea : List Cond := .code ny_Cu_leastArea nc_Cu_leastArea 4 (some .int) :: rl_TT
abbrev nr_Cu_leastArea : Room := { frames := 0, cells := 0, slots := 0, locals := 0 }
def nw_Pl_forget : List Cond := .code ny_Pl_forget nc_Pl_forget 1 none :: rl_TT
abbrev nr_Pl_forget : Room := { frames := 0, cells := 0, slots := 0, locals := 0 }
def nw_Pl_setLot : List Cond := .code ny_Pl_setLot nc_Pl_setLot 3 none :: rl_TT
abbrev nr_Pl_setLot : Room := { frames := 1, cells := 0, slots := 0, locals := 20 }
def nw_Pl_hasBest : List Cond := .code ny_Pl_hasBest nc_Pl_hasBest 1 (some .boolean) :: rl_TT
abbrev nr_Pl_hasBest : Room := { frames := 0, cells := 0, slots := 0, locals := 0 }
def nw_Pl_bestWidth : List Cond := .code ny_Pl_bestWidth nc_Pl_bestWidth 1 (some .int) :: rl_TT
abbrev nr_Pl_bestWidth : Room := { frames := 1, cells := 0, slots := 0, locals := 21 }
def nw_Pl_bestHeight : List Cond := .code ny_Pl_bestHeight nc_Pl_bestHeight 1 (some .int) :: rl_TT
abbrev nr_Pl_bestHeight : Room := { frames := 1, cells := 0, slots := 0, locals := 21 }
def nw_Pl_bestArea : List Cond := .code ny_Pl_bestArea nc_Pl_bestArea 1 (some .int) :: rl_TT
abbrev nr_Pl_bestArea : Room := { frames := 2, cells := 0, slots := 0, locals := 41 }
def nw_St_nodeOf : List Cond := .code ny_St_nodeOf nc_St_nodeOf 2 (some .int) :: rl_TT
abbrev nr_St_nodeOf : Room := { frames := 0, cells := 0, slots := 0, locals := 0 }
def nw_Pl_nodeOfPlaced : List Cond := .code ny_Pl_nodeOfPlaced nc_Pl_nodeOfPlaced 2 (some .int) :: rl_TT
abbrev nr_Pl_nodeOfPlaced : Room := { frames := 1, cells := 0, slots := 0, locals := 21 }
def nw_St_has : List Cond := .code ny_St_has nc_St_has 2 (some .boolean) :: rl_TT
abbrev nr_St_has : Room := { frames := 0, cells := 0, slots := 0, locals := 0 }
def nw_Pl_nodeWidth : List Cond := .code ny_Pl_nodeWidth nc_Pl_nodeWidth 2 (some .int) :: rl_TT
abbrev nr_Pl_nodeWidth : Room := { frames := 1, cells := 0, slots := 0, locals := 21 }
def nw_Pl_nodeHeight : List Cond := .code ny_Pl_nodeHeight nc_Pl_nodeHeight 2 (some .int) :: rl_TT
abbrev nr_Pl_nodeHeight : Room := { frames := 1, cells := 0, slots := 0, locals := 21 }
def nw_Pl_readPlace : List Cond := .code ny_Pl_readPlace nc_Pl_readPlace 4 (some .int) :: rl_TT
abbrev nr_Pl_readPlace : Room := { frames := 2, cells := 0, slots := 0, locals := 42 }
def nw_Pl_sharedWall : List Cond := .code ny_Pl_sharedWall nc_Pl_sharedWall 10 (some .int) :: rl_TT
abbrev nr_Pl_sharedWall : Room := { frames := 2, cells := 0, slots := 0, locals := 42 }
def nw_St_signAt : List Cond := .code ny_St_signAt nc_St_signAt 2 (some .int) :: rl_TT
abbrev nr_St_signAt : Room := { frames := 1, cells := 0, slots := 0, locals := 21 }
def nw_Ro_roomOfSign : List Cond := .code ny_Ro_roomOfSign nc_Ro_roomOfSign 1 (some .int) :: rl_TT
abbrev nr_Ro_roomOfSign : Room := { frames := 0, cells := 0, slots := 0, locals := 0 }
def nw_St_roomAt : List Cond := .code ny_St_roomAt nc_St_roomAt 2 (some .int) :: rl_TT
abbrev nr_St_roomAt : Room := { frames := 2, cells := 0, slots := 0, locals := 42 }
def nw_St_firstOf : List Cond := .code ny_St_firstOf nc_St_firstOf 2 (some .int) :: rl_TT
abbrev nr_St_firstOf : Room := { frames := 1, cells := 0, slots := 0, locals := 21 }
def nw_St_secondOf : List Cond := .code ny_St_secondOf nc_St_secondOf 2 (some .int) :: rl_TT
abbrev nr_St_secondOf : Room := { frames := 1, cells := 0, slots := 0, locals := 21 }
def nw_Pl_join : List Cond := .code ny_Pl_join nc_Pl_join 4 none :: rl_TT
abbrev nr_Pl_join : Room := { frames := 2, cells := 0, slots := 0, locals := 50 }
def nw_Rl_sizesOf : List Cond := .code ny_Rl_sizesOf nc_Rl_sizesOf 2 (some .int) :: rl_TT
abbrev nr_Rl_sizesOf : Room := { frames := 0, cells := 0, slots := 0, locals := 0 }
def nw_Rl_slot : List Cond := .code ny_Rl_slot nc_Rl_slot 3 (some .int) :: rl_TT
abbrev nr_Rl_slot : Room := { frames := 0, cells := 0, slots := 0, locals := 0 }
def nw_Rl_widthOf : List Cond := .code ny_Rl_widthOf nc_Rl_widthOf 4 (some .int) :: rl_TT
abbrev nr_Rl_widthOf : Room := { frames := 1, cells := 0, slots := 0, locals := 22 }
def nw_Rl_heightOf : List Cond := .code ny_Rl_heightOf nc_Rl_heightOf 4 (some .int) :: rl_TT
abbrev nr_Rl_heightOf : Room := { frames := 1, cells := 0, slots := 0, locals := 22 }
def nw_Pl_takeSizes : List Cond := .code ny_Pl_takeSizes nc_Pl_takeSizes 4 none :: rl_TT
abbrev nr_Pl_takeSizes : Room := { frames := 3, cells := 0, slots := 0, locals := 69 }
def nw_Pl_measure : List Cond := .code ny_Pl_measure nc_Pl_measure 3 none :: rl_TT
abbrev nr_Pl_measure : Room := { frames := 4, cells := 0, slots := 0, locals := 92 }
def nw_St_parentOf : List Cond := .code ny_St_parentOf nc_St_parentOf 2 (some .int) :: rl_TT
abbrev nr_St_parentOf : Room := { frames := 1, cells := 0, slots := 0, locals := 21 }
def nw_Pl_pin : List Cond := .code ny_Pl_pin nc_Pl_pin 6 none :: rl_TT
abbrev nr_Pl_pin : Room := { frames := 3, cells := 0, slots := 0, locals := 73 }
def nw_Pl_chooseFirstSize : List Cond := .code ny_Pl_chooseFirstSize nc_Pl_chooseFirstSize 8 none :: rl_TT
abbrev nr_Pl_chooseFirstSize : Room := { frames := 4, cells := 0, slots := 0, locals := 98 }
def nw_Pl_setCornersOfParts : List Cond := .code ny_Pl_setCornersOfParts nc_Pl_setCornersOfParts 5 none :: rl_TT
abbrev nr_Pl_setCornersOfParts : Room := { frames := 2, cells := 0, slots := 0, locals := 42 }
def nw_Pl_setCorners : List Cond := .code ny_Pl_setCorners nc_Pl_setCorners 3 none :: rl_TT
abbrev nr_Pl_setCorners : Room := { frames := 3, cells := 0, slots := 0, locals := 66 }
def nw_Pl_settle : List Cond := .code ny_Pl_settle nc_Pl_settle 2 none :: rl_TT
abbrev nr_Pl_settle : Room := { frames := 5, cells := 0, slots := 0, locals := 125 }
def nw_Rl_addRoom : List Cond := .code ny_Rl_addRoom nc_Rl_addRoom 1 (some .int) :: rl_TT
abbrev nr_Rl_addRoom : Room := { frames := 0, cells := 0, slots := 0, locals := 0 }
def nw_Rl_addSize : List Cond := .code ny_Rl_addSize nc_Rl_addSize 6 (some .int) :: rl_TT
abbrev nr_Rl_addSize : Room := { frames := 1, cells := 0, slots := 0, locals := 22 }
def nw_Sr_clear : List Cond := .code ny_Sr_clear nc_Sr_clear 1 none :: rl_TT
abbrev nr_Sr_clear : Room := { frames := 0, cells := 0, slots := 0, locals := 0 }
def nw_Sr_addBytes : List Cond := .code ny_Sr_addBytes nc_Sr_addBytes 5 none :: rl_TT
abbrev nr_Sr_addBytes : Room := { frames := 0, cells := 0, slots := 0, locals := 0 }
def nw_Sr_signAt : List Cond := .code ny_Sr_signAt nc_Sr_signAt 2 (some .int) :: rl_TT
abbrev nr_Sr_signAt : Room := { frames := 0, cells := 0, slots := 0, locals := 0 }
def nw_Ro_joins : List Cond := .code ny_Ro_joins nc_Ro_joins 1 (some .boolean) :: rl_TT
abbrev nr_Ro_joins : Room := { frames := 0, cells := 0, slots := 0, locals := 0 }
def nw_Sr_firstFault : List Cond := .code ny_Sr_firstFault nc_Sr_firstFault 7 (some .int) :: rl_TT
abbrev nr_Sr_firstFault : Room := { frames := 1, cells := 0, slots := 0, locals := 21 }
def nw_St_forgetRooms : List Cond := .code ny_St_forgetRooms nc_St_forgetRooms 2 none :: rl_TT
abbrev nr_St_forgetRooms : Room := { frames := 0, cells := 0, slots := 0, locals := 0 }
def nw_St_setSign : List Cond := .code ny_St_setSign nc_St_setSign 4 none :: rl_TT
abbrev nr_St_setSign : Room := { frames := 1, cells := 0, slots := 0, locals := 20 }
def nw_St_link : List Cond := .code ny_St_link nc_St_link 4 none :: rl_TT
abbrev nr_St_link : Room := { frames := 0, cells := 0, slots := 0, locals := 0 }
def nw_St_build : List Cond := .code ny_St_build nc_St_build 4 none :: rl_TT
abbrev nr_St_build : Room := { frames := 2, cells := 0, slots := 0, locals := 43 }
def nw_St_giveNode : List Cond := .code ny_St_giveNode nc_St_giveNode 3 none :: rl_TT
abbrev nr_St_giveNode : Room := { frames := 1, cells := 0, slots := 0, locals := 21 }
def nw_St_exchange : List Cond := .code ny_St_exchange nc_St_exchange 5 none :: rl_TT
abbrev nr_St_exchange : Room := { frames := 2, cells := 0, slots := 0, locals := 43 }
def nw_Wl_add : List Cond := .code ny_Wl_add nc_Wl_add 4 (some .int) :: rl_TT
abbrev nr_Wl_add : Room := { frames := 0, cells := 0, slots := 0, locals := 0 }
def nw_Wl_isMetIn : List Cond := .code ny_Wl_isMetIn nc_Wl_isMetIn 3 (some .boolean) :: rl_TT
abbrev nr_Wl_isMetIn : Room := { frames := 3, cells := 0, slots := 0, locals := 71 }
def nw_Wl_countMetIn : List Cond := .code ny_Wl_countMetIn nc_Wl_countMetIn 4 (some .int) :: rl_TT
abbrev nr_Wl_countMetIn : Room := { frames := 4, cells := 0, slots := 0, locals := 93 }
def nw_Ro_order : List Cond := .code ny_Ro_order nc_Ro_order 6 (some .int) :: rl_TT
abbrev nr_Ro_order : Room := { frames := 3, cells := 0, slots := 0, locals := 66 }
def nw_Ro_met1 : List Cond := .code ny_Ro_met1 nc_Ro_met1 1 (some .int) :: rl_TT
abbrev nr_Ro_met1 : Room := { frames := 6, cells := 0, slots := 0, locals := 146 }
def nw_Ro_canExchange : List Cond := .code ny_Ro_canExchange nc_Ro_canExchange 3 (some .boolean) :: rl_TT
abbrev nr_Ro_canExchange : Room := { frames := 1, cells := 0, slots := 0, locals := 21 }
def nw_Ro_changePlaces : List Cond := .code ny_Ro_changePlaces nc_Ro_changePlaces 3 none :: rl_TT
abbrev nr_Ro_changePlaces : Room := { frames := 3, cells := 0, slots := 0, locals := 67 }
def nw_Ro_improve : List Cond := .code ny_Ro_improve nc_Ro_improve 10 (some .boolean) :: rl_TT
abbrev nr_Ro_improve : Room := { frames := 6, cells := 0, slots := 0, locals := 146 }
def nw_Mo_thrown : List Cond := .code ny_Mo_thrown nc_Mo_thrown 1 (some .int) :: rl_TT
abbrev nr_Mo_thrown : Room := { frames := 0, cells := 0, slots := 0, locals := 0 }
def nw_Mo_isRoom : List Cond := .code ny_Mo_isRoom nc_Mo_isRoom 2 (some .boolean) :: rl_TT
abbrev nr_Mo_isRoom : Room := { frames := 0, cells := 0, slots := 0, locals := 0 }
def nw_Mo_isIn : List Cond := .code ny_Mo_isIn nc_Mo_isIn 3 (some .boolean) :: rl_TT
abbrev nr_Mo_isIn : Room := { frames := 0, cells := 0, slots := 0, locals := 0 }
def nw_Mo_room : List Cond := .code ny_Mo_room nc_Mo_room 1 (some .int) :: rl_TT
abbrev nr_Mo_room : Room := { frames := 0, cells := 0, slots := 0, locals := 0 }
def nw_Mo_size : List Cond := .code ny_Mo_size nc_Mo_size 4 (some .int) :: rl_TT
abbrev nr_Mo_size : Room := { frames := 1, cells := 0, slots := 0, locals := 22 }
def nw_Mo_lot : List Cond := .code ny_Mo_lot nc_Mo_lot 3 none :: rl_TT
abbrev nr_Mo_lot : Room := { frames := 1, cells := 0, slots := 0, locals := 22 }
def nw_Mo_gather : List Cond := .code ny_Mo_gather nc_Mo_gather 7 (some .int) :: rl_TT
abbrev nr_Mo_gather : Room := { frames := 0, cells := 0, slots := 0, locals := 0 }
def nw_Mo_order : List Cond := .code ny_Mo_order nc_Mo_order 10 (some .int) :: rl_TT
abbrev nr_Mo_order : Room := { frames := 1, cells := 0, slots := 0, locals := 26 }
def nw_Mo_placeOf : List Cond := .code ny_Mo_placeOf nc_Mo_placeOf 3 (some .int) :: rl_TT
abbrev nr_Mo_placeOf : Room := { frames := 0, cells := 0, slots := 0, locals := 0 }
def nw_Mo_layOut : List Cond := .code ny_Mo_layOut nc_Mo_layOut 8 none :: rl_TT
abbrev nr_Mo_layOut : Room := { frames := 0, cells := 0, slots := 0, locals := 0 }
def nw_Mo_findCorners : List Cond := .code ny_Mo_findCorners nc_Mo_findCorners 4 none :: rl_TT
abbrev nr_Mo_findCorners : Room := { frames := 0, cells := 0, slots := 0, locals := 0 }
def nw_Mo_firstChoice : List Cond := .code ny_Mo_firstChoice nc_Mo_firstChoice 2 none :: rl_TT
abbrev nr_Mo_firstChoice : Room := { frames := 0, cells := 0, slots := 0, locals := 0 }
def nw_Mo_nextChoice : List Cond := .code ny_Mo_nextChoice nc_Mo_nextChoice 2 (some .boolean) :: rl_TT
abbrev nr_Mo_nextChoice : Room := { frames := 1, cells := 0, slots := 0, locals := 22 }
def nw_Mo_fits : List Cond := .code ny_Mo_fits nc_Mo_fits 1 (some .boolean) :: rl_TT
abbrev nr_Mo_fits : Room := { frames := 0, cells := 0, slots := 0, locals := 0 }
def nw_Mo_findBest : List Cond := .code ny_Mo_findBest nc_Mo_findBest 6 none :: rl_TT
abbrev nr_Mo_findBest : Room := { frames := 2, cells := 0, slots := 0, locals := 43 }
def nw_Mo_best : List Cond := .code ny_Mo_best nc_Mo_best 2 (some .int) :: rl_TT
abbrev nr_Mo_best : Room := { frames := 3, cells := 0, slots := 0, locals := 68 }
def nw_Mo_place : List Cond := .code ny_Mo_place nc_Mo_place 4 (some .int) :: rl_TT
abbrev nr_Mo_place : Room := { frames := 3, cells := 0, slots := 0, locals := 68 }
def nw_Mo_outline : List Cond := .code ny_Mo_outline nc_Mo_outline 7 (some .int) :: rl_TT
abbrev nr_Mo_outline : Room := { frames := 2, cells := 0, slots := 0, locals := 43 }
def nw_Mo_overlap : List Cond := .code ny_Mo_overlap nc_Mo_overlap 6 (some .int) :: rl_TT
abbrev nr_Mo_overlap : Room := { frames := 0, cells := 0, slots := 0, locals := 0 }
def nw_Mo_shared : List Cond := .code ny_Mo_shared nc_Mo_shared 7 (some .int) :: rl_TT
abbrev nr_Mo_shared : Room := { frames := 1, cells := 0, slots := 0, locals := 25 }
def nw_Mo_wall : List Cond := .code ny_Mo_wall nc_Mo_wall 5 (some .int) :: rl_TT
abbrev nr_Mo_wall : Room := { frames := 3, cells := 0, slots := 0, locals := 68 }
def nw_Mo_wish : List Cond := .code ny_Mo_wish nc_Mo_wish 5 (some .int) :: rl_TT
abbrev nr_Mo_wish : Room := { frames := 1, cells := 0, slots := 0, locals := 22 }
def nw_Mo_isMet : List Cond := .code ny_Mo_isMet nc_Mo_isMet 4 (some .boolean) :: rl_TT
abbrev nr_Mo_isMet : Room := { frames := 2, cells := 0, slots := 0, locals := 51 }
def nw_Mo_met0 : List Cond := .code ny_Mo_met0 nc_Mo_met0 2 (some .boolean) :: rl_TT
abbrev nr_Mo_met0 : Room := { frames := 3, cells := 0, slots := 0, locals := 74 }
def nw_Mo_allMet : List Cond := .code ny_Mo_allMet nc_Mo_allMet 3 (some .int) :: rl_TT
abbrev nr_Mo_allMet : Room := { frames := 3, cells := 0, slots := 0, locals := 74 }
def nw_Mo_met1 : List Cond := .code ny_Mo_met1 nc_Mo_met1 1 (some .int) :: rl_TT
abbrev nr_Mo_met1 : Room := { frames := 4, cells := 0, slots := 0, locals := 96 }
def nw_Mo_canChange : List Cond := .code ny_Mo_canChange nc_Mo_canChange 3 (some .boolean) :: rl_TT
abbrev nr_Mo_canChange : Room := { frames := 1, cells := 0, slots := 0, locals := 22 }
def nw_Mo_change : List Cond := .code ny_Mo_change nc_Mo_change 5 none :: rl_TT
abbrev nr_Mo_change : Room := { frames := 1, cells := 0, slots := 0, locals := 22 }
def nw_Mo_swap : List Cond := .code ny_Mo_swap nc_Mo_swap 3 (some .boolean) :: rl_TT
abbrev nr_Mo_swap : Room := { frames := 2, cells := 0, slots := 0, locals := 46 }
def nw_Mo_improve : List Cond := .code ny_Mo_improve nc_Mo_improve 10 (some .boolean) :: rl_TT
abbrev nr_Mo_improve : Room := { frames := 4, cells := 0, slots := 0, locals := 96 }
def nw_Mo_sign : List Cond := .code ny_Mo_sign nc_Mo_sign 2 (some .int) :: rl_TT
abbrev nr_Mo_sign : Room := { frames := 0, cells := 0, slots := 0, locals := 0 }
theorem nf_Cu_9 : Cond.fieldLink nR_Cu 9 (nT_Cu 0).1 (nT_Cu 0).2.1 (nT_Cu 0).2.2.1 ∈ rl_TT := rl_tin 139 (by decide +kernel) rfl
theorem nf_Cu_15 : Cond.fieldLink nR_Cu 15 (nT_Cu 1).1 (nT_Cu 1).2.1 (nT_Cu 1).2.2.1 ∈ rl_TT := rl_tin 140 (by decide +kernel) rfl
theorem nf_Cu_19 : Cond.fieldLink nR_Cu 19 (nT_Cu 2).1 (nT_Cu 2).2.1 (nT_Cu 2).2.2.1 ∈ rl_TT := rl_tin 141 (by decide +kernel) rfl
theorem nm_Cu_30 : Cond.methodLink nR_Cu 30 ny_Cu_append ∈ rl_TT := rl_tin 320 (by decide +kernel) rfl
theorem nm_ini_Cu : Cond.initialized nR_Cu ∈ rl_TT := rl_tin 40 (by decide +kernel) rfl
theorem nh_Cu_append : Cond.code ny_Cu_append nc_Cu_append 3 none ∈ rl_TT := rl_tin 323 (by decide +kernel) rfl
theorem nm_im_Cu_append : Cond.instanceMethod ny_Cu_append ∈ rl_TT := rl_tin 321 (by decide +kernel) rfl
theorem nm_se_Cu_append : Cond.selects nR_Cu ny_Cu_append ny_Cu_append ∈ rl_TT := rl_tin 322 (by decide +kernel) rfl
theorem nm_Cu_22 : Cond.methodLink nR_Cu 22 ny_Cu_hasWithin ∈ rl_TT := rl_tin 353 (by decide +kernel) rfl
theorem nh_Cu_hasWithin : Cond.code ny_Cu_hasWithin nc_Cu_hasWithin 4 (some .boolean) ∈ rl_TT := rl_tin 356 (by decide +kernel) rfl
theorem nm_im_Cu_hasWithin : Cond.instanceMethod ny_Cu_hasWithin ∈ rl_TT := rl_tin 354 (by decide +kernel) rfl
theorem nm_se_Cu_hasWithin : Cond.selects nR_Cu ny_Cu_hasWithin ny_Cu_hasWithin ∈ rl_TT := rl_tin 355 (by decide +kernel) rfl
theorem nm_Cu_26 : Cond.methodLink nR_Cu 26 ny_Cu_dropAround ∈ rl_TT := rl_tin 357 (by decide +kernel) rfl
theorem nh_Cu_dropAround : Cond.code ny_Cu_dropAround nc_Cu_dropAround 5 none ∈ rl_TT := rl_tin 360 (by decide +kernel) rfl
theorem nm_im_Cu_dropAround : Cond.instanceMethod ny_Cu_dropAround ∈ rl_TT := rl_tin 359 (by decide +kernel) rfl
theorem nm_se_Cu_dropAround : Cond.selects nR_Cu ny_Cu_dropAround ny_Cu_dropAround ∈ rl_TT := rl_tin 6 (by decide +kernel) rfl
theorem nm_Cu_33 : Cond.methodLink nR_Cu 33 ny_Cu_exchangeOutlines ∈ rl_TT := rl_tin 328 (by decide +kernel) rfl
theorem nh_Cu_exchangeOutlines : Cond.code ny_Cu_exchangeOutlines nc_Cu_exchangeOutlines 5 none ∈ rl_TT := rl_tin 331 (by decide +kernel) rfl
theorem nm_im_Cu_exchangeOutlines : Cond.instanceMethod ny_Cu_exchangeOutlines ∈ rl_TT := rl_tin 330 (by decide +kernel) rfl
theorem nm_se_Cu_exchangeOutlines : Cond.selects nR_Cu ny_Cu_exchangeOutlines ny_Cu_exchangeOutlines ∈ rl_TT := rl_tin 4 (by decide +kernel) rfl
theorem nm_Cu_36 : Cond.methodLink nR_Cu 36 ny_Cu_clear ∈ rl_TT := rl_tin 313 (by decide +kernel) rfl
theorem nh_Cu_clear : Cond.code ny_Cu_clear nc_Cu_clear 1 none ∈ rl_TT := rl_tin 316 (by decide +kernel) rfl
theorem nm_im_Cu_clear : Cond.instanceMethod ny_Cu_clear ∈ rl_TT := rl_tin 314 (by decide +kernel) rfl
theorem nm_se_Cu_clear : Cond.selects nR_Cu ny_Cu_clear ny_Cu_clear ∈ rl_TT := rl_tin 315 (by decide +kernel) rfl
theorem nm_Cu_39 : Cond.methodLink nR_Cu 39 Lib.Math.max.name ∈ rl_TT := rl_tin 317 (by decide +kernel) rfl
theorem nm_static_max : Cond.static Lib.Math.max.name ∈ rl_TT := rl_tin 318 (by decide +kernel) rfl
theorem nm_ini_Math : Cond.initialized "java/lang/Math" ∈ rl_TT := rl_tin 48 (by decide +kernel) rfl
theorem nm_code_max : Cond.code Lib.Math.max.name Lib.Math.max.code 2 (some .int) ∈ rl_TT := rl_tin 319 (by decide +kernel) rfl
theorem nk_Cu_45 : Cond.constant nR_Cu 45 160001 ∈ rl_TT := rl_tin 369 (by decide +kernel) rfl
theorem nf_Pl_32 : Cond.fieldLink nR_Pl 32 (nT_Pl 4).1 (nT_Pl 4).2.1 (nT_Pl 4).2.2.1 ∈ rl_TT := rl_tin 155 (by decide +kernel) rfl
theorem nf_Pl_36 : Cond.fieldLink nR_Pl 36 (nT_Pl 5).1 (nT_Pl 5).2.1 (nT_Pl 5).2.2.1 ∈ rl_TT := rl_tin 156 (by decide +kernel) rfl
theorem nf_Pl_25 : Cond.fieldLink nR_Pl 25 (nT_Pl 2).1 (nT_Pl 2).2.1 (nT_Pl 2).2.2.1 ∈ rl_TT := rl_tin 153 (by decide +kernel) rfl
theorem nf_Pl_29 : Cond.fieldLink nR_Pl 29 (nT_Pl 3).1 (nT_Pl 3).2.1 (nT_Pl 3).2.2.1 ∈ rl_TT := rl_tin 154 (by decide +kernel) rfl
theorem nm_Pl_63 : Cond.methodLink nR_Pl 63 ny_Pl_forget ∈ rl_TT := rl_tin 598 (by decide +kernel) rfl
theorem nm_ini_Pl : Cond.initialized nR_Pl ∈ rl_TT := rl_tin 37 (by decide +kernel) rfl
theorem nh_Pl_forget : Cond.code ny_Pl_forget nc_Pl_forget 1 none ∈ rl_TT := rl_tin 270 (by decide +kernel) rfl
theorem nm_im_Pl_forget : Cond.instanceMethod ny_Pl_forget ∈ rl_TT := rl_tin 268 (by decide +kernel) rfl
theorem nm_se_Pl_forget : Cond.selects nR_Pl ny_Pl_forget ny_Pl_forget ∈ rl_TT := rl_tin 269 (by decide +kernel) rfl
theorem nf_Pl_50 : Cond.fieldLink nR_Pl 50 (nT_Pl 8).1 (nT_Pl 8).2.1 (nT_Pl 8).2.2.1 ∈ rl_TT := rl_tin 160 (by decide +kernel) rfl
theorem nf_Pl_46 : Cond.fieldLink nR_Pl 46 (nT_Pl 7).1 (nT_Pl 7).2.1 (nT_Pl 7).2.2.1 ∈ rl_TT := rl_tin 158 (by decide +kernel) rfl
theorem nm_Pl_66 : Cond.methodLink nR_Pl 66 ny_Cu_widthAt ∈ rl_TT := rl_tin 386 (by decide +kernel) rfl
theorem nh_Cu_widthAt : Cond.code ny_Cu_widthAt nc_Cu_widthAt 2 (some .int) ∈ rl_TT := rl_tin 389 (by decide +kernel) rfl
theorem nm_im_Cu_widthAt : Cond.instanceMethod ny_Cu_widthAt ∈ rl_TT := rl_tin 387 (by decide +kernel) rfl
theorem nm_se_Cu_widthAt : Cond.selects nR_Cu ny_Cu_widthAt ny_Cu_widthAt ∈ rl_TT := rl_tin 388 (by decide +kernel) rfl
theorem nm_Pl_70 : Cond.methodLink nR_Pl 70 ny_Cu_heightAt ∈ rl_TT := rl_tin 394 (by decide +kernel) rfl
theorem nh_Cu_heightAt : Cond.code ny_Cu_heightAt nc_Cu_heightAt 2 (some .int) ∈ rl_TT := rl_tin 397 (by decide +kernel) rfl
theorem nm_im_Cu_heightAt : Cond.instanceMethod ny_Cu_heightAt ∈ rl_TT := rl_tin 395 (by decide +kernel) rfl
theorem nm_se_Cu_heightAt : Cond.selects nR_Cu ny_Cu_heightAt ny_Cu_heightAt ∈ rl_TT := rl_tin 396 (by decide +kernel) rfl
theorem nm_Pl_73 : Cond.methodLink nR_Pl 73 ny_Pl_hasBest ∈ rl_TT := rl_tin 370 (by decide +kernel) rfl
theorem nh_Pl_hasBest : Cond.code ny_Pl_hasBest nc_Pl_hasBest 1 (some .boolean) ∈ rl_TT := rl_tin 373 (by decide +kernel) rfl
theorem nm_im_Pl_hasBest : Cond.instanceMethod ny_Pl_hasBest ∈ rl_TT := rl_tin 371 (by decide +kernel) rfl
theorem nm_se_Pl_hasBest : Cond.selects nR_Pl ny_Pl_hasBest ny_Pl_hasBest ∈ rl_TT := rl_tin 372 (by decide +kernel) rfl
theorem nk_Pl_84 : Cond.constant nR_Pl 84 160001 ∈ rl_TT := rl_tin 451 (by decide +kernel) rfl
theorem nm_Pl_77 : Cond.methodLink nR_Pl 77 ny_Pl_bestWidth ∈ rl_TT := rl_tin 382 (by decide +kernel) rfl
theorem nh_Pl_bestWidth : Cond.code ny_Pl_bestWidth nc_Pl_bestWidth 1 (some .int) ∈ rl_TT := rl_tin 385 (by decide +kernel) rfl
theorem nm_im_Pl_bestWidth : Cond.instanceMethod ny_Pl_bestWidth ∈ rl_TT := rl_tin 383 (by decide +kernel) rfl
theorem nm_se_Pl_bestWidth : Cond.selects nR_Pl ny_Pl_bestWidth ny_Pl_bestWidth ∈ rl_TT := rl_tin 384 (by decide +kernel) rfl
theorem nm_Pl_81 : Cond.methodLink nR_Pl 81 ny_Pl_bestHeight ∈ rl_TT := rl_tin 390 (by decide +kernel) rfl
theorem nh_Pl_bestHeight : Cond.code ny_Pl_bestHeight nc_Pl_bestHeight 1 (some .int) ∈ rl_TT := rl_tin 393 (by decide +kernel) rfl
theorem nm_im_Pl_bestHeight : Cond.instanceMethod ny_Pl_bestHeight ∈ rl_TT := rl_tin 391 (by decide +kernel) rfl
theorem nm_se_Pl_bestHeight : Cond.selects nR_Pl ny_Pl_bestHeight ny_Pl_bestHeight ∈ rl_TT := rl_tin 392 (by decide +kernel) rfl
theorem nf_St_31 : Cond.fieldLink nR_St 31 (nT_St 6).1 (nT_St 6).2.1 (nT_St 6).2.2.1 ∈ rl_TT := rl_tin 116 (by decide +kernel) rfl
theorem nf_Pl_21 : Cond.fieldLink nR_Pl 21 (nT_Pl 1).1 (nT_Pl 1).2.1 (nT_Pl 1).2.2.1 ∈ rl_TT := rl_tin 151 (by decide +kernel) rfl
theorem nm_Pl_85 : Cond.methodLink nR_Pl 85 ny_St_nodeOf ∈ rl_TT := rl_tin 374 (by decide +kernel) rfl
theorem nm_ini_St : Cond.initialized nR_St ∈ rl_TT := rl_tin 39 (by decide +kernel) rfl
theorem nh_St_nodeOf : Cond.code ny_St_nodeOf nc_St_nodeOf 2 (some .int) ∈ rl_TT := rl_tin 377 (by decide +kernel) rfl
theorem nm_im_St_nodeOf : Cond.instanceMethod ny_St_nodeOf ∈ rl_TT := rl_tin 375 (by decide +kernel) rfl
theorem nm_se_St_nodeOf : Cond.selects nR_St ny_St_nodeOf ny_St_nodeOf ∈ rl_TT := rl_tin 376 (by decide +kernel) rfl
theorem nf_St_9 : Cond.fieldLink nR_St 9 (nT_St 0).1 (nT_St 0).2.1 (nT_St 0).2.2.1 ∈ rl_TT := rl_tin 109 (by decide +kernel) rfl
theorem nm_Pl_91 : Cond.methodLink nR_Pl 91 ny_St_has ∈ rl_TT := rl_tin 307 (by decide +kernel) rfl
theorem nh_St_has : Cond.code ny_St_has nc_St_has 2 (some .boolean) ∈ rl_TT := rl_tin 294 (by decide +kernel) rfl
theorem nm_im_St_has : Cond.instanceMethod ny_St_has ∈ rl_TT := rl_tin 292 (by decide +kernel) rfl
theorem nm_se_St_has : Cond.selects nR_St ny_St_has ny_St_has ∈ rl_TT := rl_tin 293 (by decide +kernel) rfl
theorem nf_Pl_41 : Cond.fieldLink nR_Pl 41 (nT_Pl 6).1 (nT_Pl 6).2.1 (nT_Pl 6).2.2.1 ∈ rl_TT := rl_tin 157 (by decide +kernel) rfl
theorem nm_Pl_88 : Cond.methodLink nR_Pl 88 ny_Pl_nodeOfPlaced ∈ rl_TT := rl_tin 436 (by decide +kernel) rfl
theorem nh_Pl_nodeOfPlaced : Cond.code ny_Pl_nodeOfPlaced nc_Pl_nodeOfPlaced 2 (some .int) ∈ rl_TT := rl_tin 439 (by decide +kernel) rfl
theorem nm_im_Pl_nodeOfPlaced : Cond.instanceMethod ny_Pl_nodeOfPlaced ∈ rl_TT := rl_tin 438 (by decide +kernel) rfl
theorem nm_se_Pl_nodeOfPlaced : Cond.selects nR_Pl ny_Pl_nodeOfPlaced ny_Pl_nodeOfPlaced ∈ rl_TT := rl_tin 13 (by decide +kernel) rfl
theorem nf_Pl_53 : Cond.fieldLink nR_Pl 53 (nT_Pl 9).1 (nT_Pl 9).2.1 (nT_Pl 9).2.2.1 ∈ rl_TT := rl_tin 161 (by decide +kernel) rfl
theorem nf_Pl_57 : Cond.fieldLink nR_Pl 57 (nT_Pl 10).1 (nT_Pl 10).2.1 (nT_Pl 10).2.2.1 ∈ rl_TT := rl_tin 162 (by decide +kernel) rfl
theorem nf_Pl_60 : Cond.fieldLink nR_Pl 60 (nT_Pl 11).1 (nT_Pl 11).2.1 (nT_Pl 11).2.2.1 ∈ rl_TT := rl_tin 163 (by decide +kernel) rfl
theorem nm_Pl_95 : Cond.methodLink nR_Pl 95 ny_Pl_nodeWidth ∈ rl_TT := rl_tin 416 (by decide +kernel) rfl
theorem nh_Pl_nodeWidth : Cond.code ny_Pl_nodeWidth nc_Pl_nodeWidth 2 (some .int) ∈ rl_TT := rl_tin 419 (by decide +kernel) rfl
theorem nm_im_Pl_nodeWidth : Cond.instanceMethod ny_Pl_nodeWidth ∈ rl_TT := rl_tin 418 (by decide +kernel) rfl
theorem nm_se_Pl_nodeWidth : Cond.selects nR_Pl ny_Pl_nodeWidth ny_Pl_nodeWidth ∈ rl_TT := rl_tin 11 (by decide +kernel) rfl
theorem nm_Pl_98 : Cond.methodLink nR_Pl 98 ny_Pl_nodeHeight ∈ rl_TT := rl_tin 420 (by decide +kernel) rfl
theorem nh_Pl_nodeHeight : Cond.code ny_Pl_nodeHeight nc_Pl_nodeHeight 2 (some .int) ∈ rl_TT := rl_tin 423 (by decide +kernel) rfl
theorem nm_im_Pl_nodeHeight : Cond.instanceMethod ny_Pl_nodeHeight ∈ rl_TT := rl_tin 422 (by decide +kernel) rfl
theorem nm_se_Pl_nodeHeight : Cond.selects nR_Pl ny_Pl_nodeHeight ny_Pl_nodeHeight ∈ rl_TT := rl_tin 12 (by decide +kernel) rfl
theorem nm_Pl_101 : Cond.methodLink nR_Pl 101 Lib.Math.min.name ∈ rl_TT := rl_tin 440 (by decide +kernel) rfl
theorem nm_static_min : Cond.static Lib.Math.min.name ∈ rl_TT := rl_tin 254 (by decide +kernel) rfl
theorem nm_code_min : Cond.code Lib.Math.min.name Lib.Math.min.code 2 (some .int) ∈ rl_TT := rl_tin 255 (by decide +kernel) rfl
theorem nm_Pl_107 : Cond.methodLink nR_Pl 107 Lib.Math.max.name ∈ rl_TT := rl_tin 441 (by decide +kernel) rfl
theorem nm_St_65 : Cond.methodLink nR_St 65 ny_St_has ∈ rl_TT := rl_tin 291 (by decide +kernel) rfl
theorem nf_St_15 : Cond.fieldLink nR_St 15 (nT_St 1).1 (nT_St 1).2.1 (nT_St 1).2.2.1 ∈ rl_TT := rl_tin 111 (by decide +kernel) rfl
theorem nm_St_68 : Cond.methodLink nR_St 68 ny_St_signAt ∈ rl_TT := rl_tin 287 (by decide +kernel) rfl
theorem nh_St_signAt : Cond.code ny_St_signAt nc_St_signAt 2 (some .int) ∈ rl_TT := rl_tin 290 (by decide +kernel) rfl
theorem nm_im_St_signAt : Cond.instanceMethod ny_St_signAt ∈ rl_TT := rl_tin 288 (by decide +kernel) rfl
theorem nm_se_St_signAt : Cond.selects nR_St ny_St_signAt ny_St_signAt ∈ rl_TT := rl_tin 289 (by decide +kernel) rfl
theorem nm_ini_Ro : Cond.initialized nR_Ro ∈ rl_TT := rl_tin 35 (by decide +kernel) rfl
theorem nh_Ro_roomOfSign : Cond.code ny_Ro_roomOfSign nc_Ro_roomOfSign 1 (some .int) ∈ rl_TT := rl_tin 241 (by decide +kernel) rfl
theorem nm_st_Ro_roomOfSign : Cond.static ny_Ro_roomOfSign ∈ rl_TT := rl_tin 240 (by decide +kernel) rfl
theorem nf_St_19 : Cond.fieldLink nR_St 19 (nT_St 2).1 (nT_St 2).2.1 (nT_St 2).2.2.1 ∈ rl_TT := rl_tin 112 (by decide +kernel) rfl
theorem nf_St_22 : Cond.fieldLink nR_St 22 (nT_St 3).1 (nT_St 3).2.1 (nT_St 3).2.2.1 ∈ rl_TT := rl_tin 113 (by decide +kernel) rfl
theorem nm_Pl_146 : Cond.methodLink nR_Pl 146 ny_St_firstOf ∈ rl_TT := rl_tin 299 (by decide +kernel) rfl
theorem nh_St_firstOf : Cond.code ny_St_firstOf nc_St_firstOf 2 (some .int) ∈ rl_TT := rl_tin 302 (by decide +kernel) rfl
theorem nm_im_St_firstOf : Cond.instanceMethod ny_St_firstOf ∈ rl_TT := rl_tin 300 (by decide +kernel) rfl
theorem nm_se_St_firstOf : Cond.selects nR_St ny_St_firstOf ny_St_firstOf ∈ rl_TT := rl_tin 301 (by decide +kernel) rfl
theorem nm_Pl_149 : Cond.methodLink nR_Pl 149 ny_St_secondOf ∈ rl_TT := rl_tin 303 (by decide +kernel) rfl
theorem nh_St_secondOf : Cond.code ny_St_secondOf nc_St_secondOf 2 (some .int) ∈ rl_TT := rl_tin 306 (by decide +kernel) rfl
theorem nm_im_St_secondOf : Cond.instanceMethod ny_St_secondOf ∈ rl_TT := rl_tin 304 (by decide +kernel) rfl
theorem nm_se_St_secondOf : Cond.selects nR_St ny_St_secondOf ny_St_secondOf ∈ rl_TT := rl_tin 305 (by decide +kernel) rfl
theorem nm_Pl_152 : Cond.methodLink nR_Pl 152 ny_St_signAt ∈ rl_TT := rl_tin 308 (by decide +kernel) rfl
theorem nm_Pl_159 : Cond.methodLink nR_Pl 159 ny_Cu_joinAbove ∈ rl_TT := rl_tin 324 (by decide +kernel) rfl
theorem nh_Cu_joinAbove : Cond.code ny_Cu_joinAbove nc_Cu_joinAbove 7 none ∈ rl_TT := rl_tin 327 (by decide +kernel) rfl
theorem nm_im_Cu_joinAbove : Cond.instanceMethod ny_Cu_joinAbove ∈ rl_TT := rl_tin 325 (by decide +kernel) rfl
theorem nm_se_Cu_joinAbove : Cond.selects nR_Cu ny_Cu_joinAbove ny_Cu_joinAbove ∈ rl_TT := rl_tin 326 (by decide +kernel) rfl
theorem nm_Pl_155 : Cond.methodLink nR_Pl 155 ny_Cu_joinBeside ∈ rl_TT := rl_tin 309 (by decide +kernel) rfl
theorem nh_Cu_joinBeside : Cond.code ny_Cu_joinBeside nc_Cu_joinBeside 7 none ∈ rl_TT := rl_tin 312 (by decide +kernel) rfl
theorem nm_im_Cu_joinBeside : Cond.instanceMethod ny_Cu_joinBeside ∈ rl_TT := rl_tin 310 (by decide +kernel) rfl
theorem nm_se_Cu_joinBeside : Cond.selects nR_Cu ny_Cu_joinBeside ny_Cu_joinBeside ∈ rl_TT := rl_tin 311 (by decide +kernel) rfl
theorem nf_Rl_15 : Cond.fieldLink nR_Rl 15 (nT_Rl 1).1 (nT_Rl 1).2.1 (nT_Rl 1).2.2.1 ∈ rl_TT := rl_tin 87 (by decide +kernel) rfl
theorem nm_Rl_29 : Cond.methodLink nR_Rl 29 ny_Rl_slot ∈ rl_TT := rl_tin 342 (by decide +kernel) rfl
theorem nm_ini_Rl : Cond.initialized nR_Rl ∈ rl_TT := rl_tin 38 (by decide +kernel) rfl
theorem nh_Rl_slot : Cond.code ny_Rl_slot nc_Rl_slot 3 (some .int) ∈ rl_TT := rl_tin 344 (by decide +kernel) rfl
theorem nm_st_Rl_slot : Cond.static ny_Rl_slot ∈ rl_TT := rl_tin 343 (by decide +kernel) rfl
theorem nf_Rl_19 : Cond.fieldLink nR_Rl 19 (nT_Rl 2).1 (nT_Rl 2).2.1 (nT_Rl 2).2.2.1 ∈ rl_TT := rl_tin 88 (by decide +kernel) rfl
theorem nf_Rl_22 : Cond.fieldLink nR_Rl 22 (nT_Rl 3).1 (nT_Rl 3).2.1 (nT_Rl 3).2.2.1 ∈ rl_TT := rl_tin 89 (by decide +kernel) rfl
theorem nm_Pl_124 : Cond.methodLink nR_Pl 124 ny_Cu_clear ∈ rl_TT := rl_tin 336 (by decide +kernel) rfl
theorem nf_Pl_12 : Cond.fieldLink nR_Pl 12 (nT_Pl 0).1 (nT_Pl 0).2.1 (nT_Pl 0).2.2.1 ∈ rl_TT := rl_tin 149 (by decide +kernel) rfl
theorem nm_Pl_134 : Cond.methodLink nR_Pl 134 ny_Rl_sizesOf ∈ rl_TT := rl_tin 337 (by decide +kernel) rfl
theorem nh_Rl_sizesOf : Cond.code ny_Rl_sizesOf nc_Rl_sizesOf 2 (some .int) ∈ rl_TT := rl_tin 245 (by decide +kernel) rfl
theorem nm_im_Rl_sizesOf : Cond.instanceMethod ny_Rl_sizesOf ∈ rl_TT := rl_tin 243 (by decide +kernel) rfl
theorem nm_se_Rl_sizesOf : Cond.selects nR_Rl ny_Rl_sizesOf ny_Rl_sizesOf ∈ rl_TT := rl_tin 244 (by decide +kernel) rfl
theorem nm_Pl_137 : Cond.methodLink nR_Pl 137 ny_Rl_widthOf ∈ rl_TT := rl_tin 338 (by decide +kernel) rfl
theorem nh_Rl_widthOf : Cond.code ny_Rl_widthOf nc_Rl_widthOf 4 (some .int) ∈ rl_TT := rl_tin 341 (by decide +kernel) rfl
theorem nm_im_Rl_widthOf : Cond.instanceMethod ny_Rl_widthOf ∈ rl_TT := rl_tin 339 (by decide +kernel) rfl
theorem nm_se_Rl_widthOf : Cond.selects nR_Rl ny_Rl_widthOf ny_Rl_widthOf ∈ rl_TT := rl_tin 340 (by decide +kernel) rfl
theorem nm_Pl_140 : Cond.methodLink nR_Pl 140 ny_Rl_heightOf ∈ rl_TT := rl_tin 345 (by decide +kernel) rfl
theorem nh_Rl_heightOf : Cond.code ny_Rl_heightOf nc_Rl_heightOf 4 (some .int) ∈ rl_TT := rl_tin 348 (by decide +kernel) rfl
theorem nm_im_Rl_heightOf : Cond.instanceMethod ny_Rl_heightOf ∈ rl_TT := rl_tin 346 (by decide +kernel) rfl
theorem nm_se_Rl_heightOf : Cond.selects nR_Rl ny_Rl_heightOf ny_Rl_heightOf ∈ rl_TT := rl_tin 347 (by decide +kernel) rfl
theorem nm_Pl_143 : Cond.methodLink nR_Pl 143 ny_Cu_offer ∈ rl_TT := rl_tin 349 (by decide +kernel) rfl
theorem nh_Cu_offer : Cond.code ny_Cu_offer nc_Cu_offer 4 none ∈ rl_TT := rl_tin 352 (by decide +kernel) rfl
theorem nm_im_Cu_offer : Cond.instanceMethod ny_Cu_offer ∈ rl_TT := rl_tin 350 (by decide +kernel) rfl
theorem nm_se_Cu_offer : Cond.selects nR_Cu ny_Cu_offer ny_Cu_offer ∈ rl_TT := rl_tin 351 (by decide +kernel) rfl
theorem nf_Pl_110 : Cond.fieldLink nR_Pl 110 (nT_St 0).1 (nT_St 0).2.1 (nT_St 0).2.2.1 ∈ rl_TT := rl_tin 110 (by decide +kernel) rfl
theorem nm_Pl_113 : Cond.methodLink nR_Pl 113 ny_St_roomAt ∈ rl_TT := rl_tin 283 (by decide +kernel) rfl
theorem nh_St_roomAt : Cond.code ny_St_roomAt nc_St_roomAt 2 (some .int) ∈ rl_TT := rl_tin 286 (by decide +kernel) rfl
theorem nm_im_St_roomAt : Cond.instanceMethod ny_St_roomAt ∈ rl_TT := rl_tin 284 (by decide +kernel) rfl
theorem nm_se_St_roomAt : Cond.selects nR_St ny_St_roomAt ny_St_roomAt ∈ rl_TT := rl_tin 285 (by decide +kernel) rfl
theorem nm_Pl_120 : Cond.methodLink nR_Pl 120 ny_Pl_takeSizes ∈ rl_TT := rl_tin 332 (by decide +kernel) rfl
theorem nh_Pl_takeSizes : Cond.code ny_Pl_takeSizes nc_Pl_takeSizes 4 none ∈ rl_TT := rl_tin 335 (by decide +kernel) rfl
theorem nm_im_Pl_takeSizes : Cond.instanceMethod ny_Pl_takeSizes ∈ rl_TT := rl_tin 334 (by decide +kernel) rfl
theorem nm_se_Pl_takeSizes : Cond.selects nR_Pl ny_Pl_takeSizes ny_Pl_takeSizes ∈ rl_TT := rl_tin 5 (by decide +kernel) rfl
theorem nm_Pl_116 : Cond.methodLink nR_Pl 116 ny_Pl_join ∈ rl_TT := rl_tin 295 (by decide +kernel) rfl
theorem nh_Pl_join : Cond.code ny_Pl_join nc_Pl_join 4 none ∈ rl_TT := rl_tin 298 (by decide +kernel) rfl
theorem nm_im_Pl_join : Cond.instanceMethod ny_Pl_join ∈ rl_TT := rl_tin 297 (by decide +kernel) rfl
theorem nm_se_Pl_join : Cond.selects nR_Pl ny_Pl_join ny_Pl_join ∈ rl_TT := rl_tin 3 (by decide +kernel) rfl
theorem nm_Pl_131 : Cond.methodLink nR_Pl 131 ny_Cu_leastArea ∈ rl_TT := rl_tin 365 (by decide +kernel) rfl
theorem nh_Cu_leastArea : Cond.code ny_Cu_leastArea nc_Cu_leastArea 4 (some .int) ∈ rl_TT := rl_tin 368 (by decide +kernel) rfl
theorem nm_im_Cu_leastArea : Cond.instanceMethod ny_Cu_leastArea ∈ rl_TT := rl_tin 366 (by decide +kernel) rfl
theorem nm_se_Cu_leastArea : Cond.selects nR_Cu ny_Cu_leastArea ny_Cu_leastArea ∈ rl_TT := rl_tin 367 (by decide +kernel) rfl
theorem nm_Pl_127 : Cond.methodLink nR_Pl 127 ny_Cu_takeFitting ∈ rl_TT := rl_tin 361 (by decide +kernel) rfl
theorem nh_Cu_takeFitting : Cond.code ny_Cu_takeFitting nc_Cu_takeFitting 5 none ∈ rl_TT := rl_tin 364 (by decide +kernel) rfl
theorem nm_im_Cu_takeFitting : Cond.instanceMethod ny_Cu_takeFitting ∈ rl_TT := rl_tin 362 (by decide +kernel) rfl
theorem nm_se_Cu_takeFitting : Cond.selects nR_Cu ny_Cu_takeFitting ny_Cu_takeFitting ∈ rl_TT := rl_tin 363 (by decide +kernel) rfl
theorem nf_St_25 : Cond.fieldLink nR_St 25 (nT_St 4).1 (nT_St 4).2.1 (nT_St 4).2.2.1 ∈ rl_TT := rl_tin 114 (by decide +kernel) rfl
theorem nm_Pl_180 : Cond.methodLink nR_Pl 180 ny_Cu_append ∈ rl_TT := rl_tin 402 (by decide +kernel) rfl
theorem nm_Pl_183 : Cond.methodLink nR_Pl 183 ny_St_parentOf ∈ rl_TT := rl_tin 403 (by decide +kernel) rfl
theorem nh_St_parentOf : Cond.code ny_St_parentOf nc_St_parentOf 2 (some .int) ∈ rl_TT := rl_tin 406 (by decide +kernel) rfl
theorem nm_im_St_parentOf : Cond.instanceMethod ny_St_parentOf ∈ rl_TT := rl_tin 404 (by decide +kernel) rfl
theorem nm_se_St_parentOf : Cond.selects nR_St ny_St_parentOf ny_St_parentOf ∈ rl_TT := rl_tin 405 (by decide +kernel) rfl
theorem nm_Pl_172 : Cond.methodLink nR_Pl 172 ny_Pl_pin ∈ rl_TT := rl_tin 398 (by decide +kernel) rfl
theorem nh_Pl_pin : Cond.code ny_Pl_pin nc_Pl_pin 6 none ∈ rl_TT := rl_tin 401 (by decide +kernel) rfl
theorem nm_im_Pl_pin : Cond.instanceMethod ny_Pl_pin ∈ rl_TT := rl_tin 400 (by decide +kernel) rfl
theorem nm_se_Pl_pin : Cond.selects nR_Pl ny_Pl_pin ny_Pl_pin ∈ rl_TT := rl_tin 8 (by decide +kernel) rfl
theorem nm_Pl_176 : Cond.methodLink nR_Pl 176 ny_Cu_hasWithin ∈ rl_TT := rl_tin 407 (by decide +kernel) rfl
theorem nm_Pl_186 : Cond.methodLink nR_Pl 186 ny_Pl_setCornersOfParts ∈ rl_TT := rl_tin 412 (by decide +kernel) rfl
theorem nh_Pl_setCornersOfParts : Cond.code ny_Pl_setCornersOfParts nc_Pl_setCornersOfParts 5 none ∈ rl_TT := rl_tin 415 (by decide +kernel) rfl
theorem nm_im_Pl_setCornersOfParts : Cond.instanceMethod ny_Pl_setCornersOfParts ∈ rl_TT := rl_tin 414 (by decide +kernel) rfl
theorem nm_se_Pl_setCornersOfParts : Cond.selects nR_Pl ny_Pl_setCornersOfParts ny_Pl_setCornersOfParts ∈ rl_TT := rl_tin 10 (by decide +kernel) rfl
theorem nm_Pl_162 : Cond.methodLink nR_Pl 162 ny_Pl_measure ∈ rl_TT := rl_tin 279 (by decide +kernel) rfl
theorem nh_Pl_measure : Cond.code ny_Pl_measure nc_Pl_measure 3 none ∈ rl_TT := rl_tin 282 (by decide +kernel) rfl
theorem nm_im_Pl_measure : Cond.instanceMethod ny_Pl_measure ∈ rl_TT := rl_tin 280 (by decide +kernel) rfl
theorem nm_se_Pl_measure : Cond.selects nR_Pl ny_Pl_measure ny_Pl_measure ∈ rl_TT := rl_tin 281 (by decide +kernel) rfl
theorem nf_Pl_165 : Cond.fieldLink nR_Pl 165 (nT_Rl 0).1 (nT_Rl 0).2.1 (nT_Rl 0).2.2.1 ∈ rl_TT := rl_tin 86 (by decide +kernel) rfl
theorem nm_Pl_166 : Cond.methodLink nR_Pl 166 ny_Pl_chooseFirstSize ∈ rl_TT := rl_tin 378 (by decide +kernel) rfl
theorem nh_Pl_chooseFirstSize : Cond.code ny_Pl_chooseFirstSize nc_Pl_chooseFirstSize 8 none ∈ rl_TT := rl_tin 381 (by decide +kernel) rfl
theorem nm_im_Pl_chooseFirstSize : Cond.instanceMethod ny_Pl_chooseFirstSize ∈ rl_TT := rl_tin 380 (by decide +kernel) rfl
theorem nm_se_Pl_chooseFirstSize : Cond.selects nR_Pl ny_Pl_chooseFirstSize ny_Pl_chooseFirstSize ∈ rl_TT := rl_tin 7 (by decide +kernel) rfl
theorem nm_Pl_169 : Cond.methodLink nR_Pl 169 ny_Pl_setCorners ∈ rl_TT := rl_tin 408 (by decide +kernel) rfl
theorem nh_Pl_setCorners : Cond.code ny_Pl_setCorners nc_Pl_setCorners 3 none ∈ rl_TT := rl_tin 411 (by decide +kernel) rfl
theorem nm_im_Pl_setCorners : Cond.instanceMethod ny_Pl_setCorners ∈ rl_TT := rl_tin 410 (by decide +kernel) rfl
theorem nm_se_Pl_setCorners : Cond.selects nR_Pl ny_Pl_setCorners ny_Pl_setCorners ∈ rl_TT := rl_tin 9 (by decide +kernel) rfl
theorem nf_Rl_9 : Cond.fieldLink nR_Rl 9 (nT_Rl 0).1 (nT_Rl 0).2.1 (nT_Rl 0).2.2.1 ∈ rl_TT := rl_tin 84 (by decide +kernel) rfl
theorem nm_Rl_25 : Cond.methodLink nR_Rl 25 ny_Rl_sizesOf ∈ rl_TT := rl_tin 586 (by decide +kernel) rfl
theorem nf_Sr_9 : Cond.fieldLink nR_Sr 9 (nT_Sr 0).1 (nT_Sr 0).2.1 (nT_Sr 0).2.2.1 ∈ rl_TT := rl_tin 63 (by decide +kernel) rfl
theorem nf_Sr_15 : Cond.fieldLink nR_Sr 15 (nT_Sr 1).1 (nT_Sr 1).2.1 (nT_Sr 1).2.2.1 ∈ rl_TT := rl_tin 65 (by decide +kernel) rfl
theorem nm_Sr_19 : Cond.methodLink nR_Sr 19 ny_Sr_signAt ∈ rl_TT := rl_tin 235 (by decide +kernel) rfl
theorem nm_ini_Sr : Cond.initialized nR_Sr ∈ rl_TT := rl_tin 36 (by decide +kernel) rfl
theorem nh_Sr_signAt : Cond.code ny_Sr_signAt nc_Sr_signAt 2 (some .int) ∈ rl_TT := rl_tin 238 (by decide +kernel) rfl
theorem nm_im_Sr_signAt : Cond.instanceMethod ny_Sr_signAt ∈ rl_TT := rl_tin 236 (by decide +kernel) rfl
theorem nm_se_Sr_signAt : Cond.selects nR_Sr ny_Sr_signAt ny_Sr_signAt ∈ rl_TT := rl_tin 237 (by decide +kernel) rfl
theorem nh_Ro_joins : Cond.code ny_Ro_joins nc_Ro_joins 1 (some .boolean) ∈ rl_TT := rl_tin 248 (by decide +kernel) rfl
theorem nm_st_Ro_joins : Cond.static ny_Ro_joins ∈ rl_TT := rl_tin 247 (by decide +kernel) rfl
theorem nm_Sr_26 : Cond.methodLink nR_Sr 26 ny_Rl_sizesOf ∈ rl_TT := rl_tin 242 (by decide +kernel) rfl
theorem nf_St_37 : Cond.fieldLink nR_St 37 (nT_Sr 0).1 (nT_Sr 0).2.1 (nT_Sr 0).2.2.1 ∈ rl_TT := rl_tin 64 (by decide +kernel) rfl
theorem nm_St_40 : Cond.methodLink nR_St 40 Lib.Math.min.name ∈ rl_TT := rl_tin 253 (by decide +kernel) rfl
theorem nm_St_34 : Cond.methodLink nR_St 34 ny_St_forgetRooms ∈ rl_TT := rl_tin 105 (by decide +kernel) rfl
theorem nh_St_forgetRooms : Cond.code ny_St_forgetRooms nc_St_forgetRooms 2 none ∈ rl_TT := rl_tin 108 (by decide +kernel) rfl
theorem nm_im_St_forgetRooms : Cond.instanceMethod ny_St_forgetRooms ∈ rl_TT := rl_tin 107 (by decide +kernel) rfl
theorem nm_se_St_forgetRooms : Cond.selects nR_St ny_St_forgetRooms ny_St_forgetRooms ∈ rl_TT := rl_tin 0 (by decide +kernel) rfl
theorem nm_St_46 : Cond.methodLink nR_St 46 ny_Sr_signAt ∈ rl_TT := rl_tin 256 (by decide +kernel) rfl
theorem nm_St_50 : Cond.methodLink nR_St 50 ny_St_setSign ∈ rl_TT := rl_tin 257 (by decide +kernel) rfl
theorem nh_St_setSign : Cond.code ny_St_setSign nc_St_setSign 4 none ∈ rl_TT := rl_tin 260 (by decide +kernel) rfl
theorem nm_im_St_setSign : Cond.instanceMethod ny_St_setSign ∈ rl_TT := rl_tin 259 (by decide +kernel) rfl
theorem nm_se_St_setSign : Cond.selects nR_St ny_St_setSign ny_St_setSign ∈ rl_TT := rl_tin 1 (by decide +kernel) rfl
theorem nf_St_28 : Cond.fieldLink nR_St 28 (nT_St 5).1 (nT_St 5).2.1 (nT_St 5).2.2.1 ∈ rl_TT := rl_tin 115 (by decide +kernel) rfl
theorem nm_St_58 : Cond.methodLink nR_St 58 ny_St_link ∈ rl_TT := rl_tin 263 (by decide +kernel) rfl
theorem nh_St_link : Cond.code ny_St_link nc_St_link 4 none ∈ rl_TT := rl_tin 266 (by decide +kernel) rfl
theorem nm_im_St_link : Cond.instanceMethod ny_St_link ∈ rl_TT := rl_tin 265 (by decide +kernel) rfl
theorem nm_se_St_link : Cond.selects nR_St ny_St_link ny_St_link ∈ rl_TT := rl_tin 2 (by decide +kernel) rfl
theorem nm_St_69 : Cond.methodLink nR_St 69 ny_St_nodeOf ∈ rl_TT := rl_tin 466 (by decide +kernel) rfl
theorem nm_St_72 : Cond.methodLink nR_St 72 ny_St_giveNode ∈ rl_TT := rl_tin 467 (by decide +kernel) rfl
theorem nh_St_giveNode : Cond.code ny_St_giveNode nc_St_giveNode 3 none ∈ rl_TT := rl_tin 470 (by decide +kernel) rfl
theorem nm_im_St_giveNode : Cond.instanceMethod ny_St_giveNode ∈ rl_TT := rl_tin 469 (by decide +kernel) rfl
theorem nm_se_St_giveNode : Cond.selects nR_St ny_St_giveNode ny_St_giveNode ∈ rl_TT := rl_tin 16 (by decide +kernel) rfl
theorem nf_Wl_9 : Cond.fieldLink nR_Wl 9 (nT_Wl 0).1 (nT_Wl 0).2.1 (nT_Wl 0).2.2.1 ∈ rl_TT := rl_tin 195 (by decide +kernel) rfl
theorem nf_Wl_15 : Cond.fieldLink nR_Wl 15 (nT_Wl 1).1 (nT_Wl 1).2.1 (nT_Wl 1).2.2.1 ∈ rl_TT := rl_tin 197 (by decide +kernel) rfl
theorem nf_Wl_19 : Cond.fieldLink nR_Wl 19 (nT_Wl 2).1 (nT_Wl 2).2.1 (nT_Wl 2).2.2.1 ∈ rl_TT := rl_tin 198 (by decide +kernel) rfl
theorem nf_Wl_22 : Cond.fieldLink nR_Wl 22 (nT_Wl 3).1 (nT_Wl 3).2.1 (nT_Wl 3).2.2.1 ∈ rl_TT := rl_tin 199 (by decide +kernel) rfl
theorem nm_Wl_25 : Cond.methodLink nR_Wl 25 ny_Pl_sharedWall ∈ rl_TT := rl_tin 432 (by decide +kernel) rfl
theorem nh_Pl_sharedWall : Cond.code ny_Pl_sharedWall nc_Pl_sharedWall 10 (some .int) ∈ rl_TT := rl_tin 435 (by decide +kernel) rfl
theorem nm_im_Pl_sharedWall : Cond.instanceMethod ny_Pl_sharedWall ∈ rl_TT := rl_tin 433 (by decide +kernel) rfl
theorem nm_se_Pl_sharedWall : Cond.selects nR_Pl ny_Pl_sharedWall ny_Pl_sharedWall ∈ rl_TT := rl_tin 434 (by decide +kernel) rfl
theorem nm_Wl_31 : Cond.methodLink nR_Wl 31 ny_Wl_isMetIn ∈ rl_TT := rl_tin 428 (by decide +kernel) rfl
theorem nm_ini_Wl : Cond.initialized nR_Wl ∈ rl_TT := rl_tin 41 (by decide +kernel) rfl
theorem nh_Wl_isMetIn : Cond.code ny_Wl_isMetIn nc_Wl_isMetIn 3 (some .boolean) ∈ rl_TT := rl_tin 431 (by decide +kernel) rfl
theorem nm_im_Wl_isMetIn : Cond.instanceMethod ny_Wl_isMetIn ∈ rl_TT := rl_tin 429 (by decide +kernel) rfl
theorem nm_se_Wl_isMetIn : Cond.selects nR_Wl ny_Wl_isMetIn ny_Wl_isMetIn ∈ rl_TT := rl_tin 430 (by decide +kernel) rfl
theorem nf_Ro_12 : Cond.fieldLink nR_Ro 12 (nT_Ro 0).1 (nT_Ro 0).2.1 (nT_Ro 0).2.2.1 ∈ rl_TT := rl_tin 209 (by decide +kernel) rfl
theorem nm_Ro_76 : Cond.methodLink nR_Ro 76 ny_Sr_clear ∈ rl_TT := rl_tin 223 (by decide +kernel) rfl
theorem nh_Sr_clear : Cond.code ny_Sr_clear nc_Sr_clear 1 none ∈ rl_TT := rl_tin 226 (by decide +kernel) rfl
theorem nm_im_Sr_clear : Cond.instanceMethod ny_Sr_clear ∈ rl_TT := rl_tin 224 (by decide +kernel) rfl
theorem nm_se_Sr_clear : Cond.selects nR_Sr ny_Sr_clear ny_Sr_clear ∈ rl_TT := rl_tin 225 (by decide +kernel) rfl
theorem nm_Ro_79 : Cond.methodLink nR_Ro 79 ny_Sr_addBytes ∈ rl_TT := rl_tin 227 (by decide +kernel) rfl
theorem nh_Sr_addBytes : Cond.code ny_Sr_addBytes nc_Sr_addBytes 5 none ∈ rl_TT := rl_tin 230 (by decide +kernel) rfl
theorem nm_im_Sr_addBytes : Cond.instanceMethod ny_Sr_addBytes ∈ rl_TT := rl_tin 228 (by decide +kernel) rfl
theorem nm_se_Sr_addBytes : Cond.selects nR_Sr ny_Sr_addBytes ny_Sr_addBytes ∈ rl_TT := rl_tin 229 (by decide +kernel) rfl
theorem nf_Ro_19 : Cond.fieldLink nR_Ro 19 (nT_Ro 1).1 (nT_Ro 1).2.1 (nT_Ro 1).2.2.1 ∈ rl_TT := rl_tin 210 (by decide +kernel) rfl
theorem nf_Ro_30 : Cond.fieldLink nR_Ro 30 (nT_Pl 0).1 (nT_Pl 0).2.1 (nT_Pl 0).2.2.1 ∈ rl_TT := rl_tin 150 (by decide +kernel) rfl
theorem nm_Ro_83 : Cond.methodLink nR_Ro 83 ny_Sr_firstFault ∈ rl_TT := rl_tin 231 (by decide +kernel) rfl
theorem nh_Sr_firstFault : Cond.code ny_Sr_firstFault nc_Sr_firstFault 7 (some .int) ∈ rl_TT := rl_tin 234 (by decide +kernel) rfl
theorem nm_im_Sr_firstFault : Cond.instanceMethod ny_Sr_firstFault ∈ rl_TT := rl_tin 232 (by decide +kernel) rfl
theorem nm_se_Sr_firstFault : Cond.selects nR_Sr ny_Sr_firstFault ny_Sr_firstFault ∈ rl_TT := rl_tin 233 (by decide +kernel) rfl
theorem nf_Ro_87 : Cond.fieldLink nR_Ro 87 (nT_Pl 1).1 (nT_Pl 1).2.1 (nT_Pl 1).2.2.1 ∈ rl_TT := rl_tin 152 (by decide +kernel) rfl
theorem nm_Ro_91 : Cond.methodLink nR_Ro 91 ny_St_build ∈ rl_TT := rl_tin 249 (by decide +kernel) rfl
theorem nh_St_build : Cond.code ny_St_build nc_St_build 4 none ∈ rl_TT := rl_tin 252 (by decide +kernel) rfl
theorem nm_im_St_build : Cond.instanceMethod ny_St_build ∈ rl_TT := rl_tin 250 (by decide +kernel) rfl
theorem nm_se_St_build : Cond.selects nR_St ny_St_build ny_St_build ∈ rl_TT := rl_tin 251 (by decide +kernel) rfl
theorem nm_Ro_65 : Cond.methodLink nR_Ro 65 ny_Pl_forget ∈ rl_TT := rl_tin 267 (by decide +kernel) rfl
theorem nm_Ro_113 : Cond.methodLink nR_Ro 113 ny_Pl_settle ∈ rl_TT := rl_tin 275 (by decide +kernel) rfl
theorem nh_Pl_settle : Cond.code ny_Pl_settle nc_Pl_settle 2 none ∈ rl_TT := rl_tin 278 (by decide +kernel) rfl
theorem nm_im_Pl_settle : Cond.instanceMethod ny_Pl_settle ∈ rl_TT := rl_tin 276 (by decide +kernel) rfl
theorem nm_se_Pl_settle : Cond.selects nR_Pl ny_Pl_settle ny_Pl_settle ∈ rl_TT := rl_tin 277 (by decide +kernel) rfl
theorem nf_Ro_26 : Cond.fieldLink nR_Ro 26 (nT_Ro 2).1 (nT_Ro 2).2.1 (nT_Ro 2).2.2.1 ∈ rl_TT := rl_tin 211 (by decide +kernel) rfl
theorem nm_Ro_151 : Cond.methodLink nR_Ro 151 ny_Wl_countMetIn ∈ rl_TT := rl_tin 424 (by decide +kernel) rfl
theorem nh_Wl_countMetIn : Cond.code ny_Wl_countMetIn nc_Wl_countMetIn 4 (some .int) ∈ rl_TT := rl_tin 427 (by decide +kernel) rfl
theorem nm_im_Wl_countMetIn : Cond.instanceMethod ny_Wl_countMetIn ∈ rl_TT := rl_tin 425 (by decide +kernel) rfl
theorem nm_se_Wl_countMetIn : Cond.selects nR_Wl ny_Wl_countMetIn ny_Wl_countMetIn ∈ rl_TT := rl_tin 426 (by decide +kernel) rfl
theorem nm_Ro_59 : Cond.methodLink nR_Ro 59 ny_Rl_sizesOf ∈ rl_TT := rl_tin 456 (by decide +kernel) rfl
theorem nm_Ro_165 : Cond.methodLink nR_Ro 165 ny_St_nodeOf ∈ rl_TT := rl_tin 457 (by decide +kernel) rfl
theorem nm_Ro_168 : Cond.methodLink nR_Ro 168 ny_St_exchange ∈ rl_TT := rl_tin 462 (by decide +kernel) rfl
theorem nh_St_exchange : Cond.code ny_St_exchange nc_St_exchange 5 none ∈ rl_TT := rl_tin 465 (by decide +kernel) rfl
theorem nm_im_St_exchange : Cond.instanceMethod ny_St_exchange ∈ rl_TT := rl_tin 463 (by decide +kernel) rfl
theorem nm_se_St_exchange : Cond.selects nR_St ny_St_exchange ny_St_exchange ∈ rl_TT := rl_tin 464 (by decide +kernel) rfl
theorem nf_Ro_141 : Cond.fieldLink nR_Ro 141 (nT_Wl 0).1 (nT_Wl 0).2.1 (nT_Wl 0).2.2.1 ∈ rl_TT := rl_tin 196 (by decide +kernel) rfl
theorem nm_Ro_97 : Cond.methodLink nR_Ro 97 ny_Pl_measure ∈ rl_TT := rl_tin 446 (by decide +kernel) rfl
theorem nm_Ro_104 : Cond.methodLink nR_Ro 104 ny_Pl_bestArea ∈ rl_TT := rl_tin 447 (by decide +kernel) rfl
theorem nh_Pl_bestArea : Cond.code ny_Pl_bestArea nc_Pl_bestArea 1 (some .int) ∈ rl_TT := rl_tin 450 (by decide +kernel) rfl
theorem nm_im_Pl_bestArea : Cond.instanceMethod ny_Pl_bestArea ∈ rl_TT := rl_tin 448 (by decide +kernel) rfl
theorem nm_se_Pl_bestArea : Cond.selects nR_Pl ny_Pl_bestArea ny_Pl_bestArea ∈ rl_TT := rl_tin 449 (by decide +kernel) rfl
theorem nf_Ro_34 : Cond.fieldLink nR_Ro 34 (nT_Rl 0).1 (nT_Rl 0).2.1 (nT_Rl 0).2.2.1 ∈ rl_TT := rl_tin 85 (by decide +kernel) rfl
theorem nm_Ro_155 : Cond.methodLink nR_Ro 155 ny_Ro_canExchange ∈ rl_TT := rl_tin 452 (by decide +kernel) rfl
theorem nh_Ro_canExchange : Cond.code ny_Ro_canExchange nc_Ro_canExchange 3 (some .boolean) ∈ rl_TT := rl_tin 455 (by decide +kernel) rfl
theorem nm_im_Ro_canExchange : Cond.instanceMethod ny_Ro_canExchange ∈ rl_TT := rl_tin 454 (by decide +kernel) rfl
theorem nm_se_Ro_canExchange : Cond.selects nR_Ro ny_Ro_canExchange ny_Ro_canExchange ∈ rl_TT := rl_tin 14 (by decide +kernel) rfl
theorem nm_Ro_159 : Cond.methodLink nR_Ro 159 ny_Ro_changePlaces ∈ rl_TT := rl_tin 458 (by decide +kernel) rfl
theorem nh_Ro_changePlaces : Cond.code ny_Ro_changePlaces nc_Ro_changePlaces 3 none ∈ rl_TT := rl_tin 461 (by decide +kernel) rfl
theorem nm_im_Ro_changePlaces : Cond.instanceMethod ny_Ro_changePlaces ∈ rl_TT := rl_tin 460 (by decide +kernel) rfl
theorem nm_se_Ro_changePlaces : Cond.selects nR_Ro ny_Ro_changePlaces ny_Ro_changePlaces ∈ rl_TT := rl_tin 15 (by decide +kernel) rfl
theorem nf_Mo_71 : Cond.fieldLink nR_Mo 71 (nT_Mo 0).1 (nT_Mo 0).2.1 (nT_Mo 0).2.2.1 ∈ rl_TT := rl_tin 687 (by decide +kernel) rfl
theorem nf_Mo_74 : Cond.fieldLink nR_Mo 74 (nT_Mo 1).1 (nT_Mo 1).2.1 (nT_Mo 1).2.2.1 ∈ rl_TT := rl_tin 688 (by decide +kernel) rfl
theorem nm_Mo_77 : Cond.methodLink nR_Mo 77 ny_Mo_isRoom ∈ rl_TT := rl_tin 781 (by decide +kernel) rfl
theorem nm_ini_Mo : Cond.initialized nR_Mo ∈ rl_TT := rl_tin 42 (by decide +kernel) rfl
theorem nh_Mo_isRoom : Cond.code ny_Mo_isRoom nc_Mo_isRoom 2 (some .boolean) ∈ rl_TT := rl_tin 784 (by decide +kernel) rfl
theorem nm_im_Mo_isRoom : Cond.instanceMethod ny_Mo_isRoom ∈ rl_TT := rl_tin 783 (by decide +kernel) rfl
theorem nm_se_Mo_isRoom : Cond.selects nR_Mo ny_Mo_isRoom ny_Mo_isRoom ∈ rl_TT := rl_tin 20 (by decide +kernel) rfl
theorem nf_Mo_13 : Cond.fieldLink nR_Mo 13 (nT_Mo 3).1 (nT_Mo 3).2.1 (nT_Mo 3).2.2.1 ∈ rl_TT := rl_tin 690 (by decide +kernel) rfl
theorem nf_Mo_7 : Cond.fieldLink nR_Mo 7 (nT_Mo 2).1 (nT_Mo 2).2.1 (nT_Mo 2).2.2.1 ∈ rl_TT := rl_tin 689 (by decide +kernel) rfl
theorem nf_Mo_16 : Cond.fieldLink nR_Mo 16 (nT_Mo 4).1 (nT_Mo 4).2.1 (nT_Mo 4).2.2.1 ∈ rl_TT := rl_tin 691 (by decide +kernel) rfl
theorem nm_Mo_81 : Cond.methodLink nR_Mo 81 ny_Mo_isIn ∈ rl_TT := rl_tin 785 (by decide +kernel) rfl
theorem nh_Mo_isIn : Cond.code ny_Mo_isIn nc_Mo_isIn 3 (some .boolean) ∈ rl_TT := rl_tin 787 (by decide +kernel) rfl
theorem nm_st_Mo_isIn : Cond.static ny_Mo_isIn ∈ rl_TT := rl_tin 786 (by decide +kernel) rfl
theorem nf_Mo_19 : Cond.fieldLink nR_Mo 19 (nT_Mo 5).1 (nT_Mo 5).2.1 (nT_Mo 5).2.2.1 ∈ rl_TT := rl_tin 692 (by decide +kernel) rfl
theorem nf_Mo_23 : Cond.fieldLink nR_Mo 23 (nT_Mo 6).1 (nT_Mo 6).2.1 (nT_Mo 6).2.2.1 ∈ rl_TT := rl_tin 693 (by decide +kernel) rfl
theorem nk_Mo_85 : Cond.constantLong nR_Mo 85 255 ∈ rl_TT := rl_tin 800 (by decide +kernel) rfl
theorem nf_Mo_68 : Cond.fieldLink nR_Mo 68 (nT_Mo 26).1 (nT_Mo 26).2.1 (nT_Mo 26).2.2.1 ∈ rl_TT := rl_tin 713 (by decide +kernel) rfl
theorem nm_Mo_87 : Cond.methodLink nR_Mo 87 ny_Mo_gather ∈ rl_TT := rl_tin 796 (by decide +kernel) rfl
theorem nh_Mo_gather : Cond.code ny_Mo_gather nc_Mo_gather 7 (some .int) ∈ rl_TT := rl_tin 799 (by decide +kernel) rfl
theorem nm_im_Mo_gather : Cond.instanceMethod ny_Mo_gather ∈ rl_TT := rl_tin 798 (by decide +kernel) rfl
theorem nm_se_Mo_gather : Cond.selects nR_Mo ny_Mo_gather ny_Mo_gather ∈ rl_TT := rl_tin 21 (by decide +kernel) rfl
theorem nf_Mo_91 : Cond.fieldLink nR_Mo 91 (nT_Mo 7).1 (nT_Mo 7).2.1 (nT_Mo 7).2.2.1 ∈ rl_TT := rl_tin 694 (by decide +kernel) rfl
theorem nf_Mo_26 : Cond.fieldLink nR_Mo 26 (nT_Mo 8).1 (nT_Mo 8).2.1 (nT_Mo 8).2.2.1 ∈ rl_TT := rl_tin 695 (by decide +kernel) rfl
theorem nf_Mo_62 : Cond.fieldLink nR_Mo 62 (nT_Mo 24).1 (nT_Mo 24).2.1 (nT_Mo 24).2.2.1 ∈ rl_TT := rl_tin 711 (by decide +kernel) rfl
theorem nf_Mo_56 : Cond.fieldLink nR_Mo 56 (nT_Mo 22).1 (nT_Mo 22).2.1 (nT_Mo 22).2.2.1 ∈ rl_TT := rl_tin 709 (by decide +kernel) rfl
theorem nf_Mo_59 : Cond.fieldLink nR_Mo 59 (nT_Mo 23).1 (nT_Mo 23).2.1 (nT_Mo 23).2.2.1 ∈ rl_TT := rl_tin 710 (by decide +kernel) rfl
theorem nf_Mo_44 : Cond.fieldLink nR_Mo 44 (nT_Mo 18).1 (nT_Mo 18).2.1 (nT_Mo 18).2.2.1 ∈ rl_TT := rl_tin 705 (by decide +kernel) rfl
theorem nf_Mo_47 : Cond.fieldLink nR_Mo 47 (nT_Mo 19).1 (nT_Mo 19).2.1 (nT_Mo 19).2.2.1 ∈ rl_TT := rl_tin 706 (by decide +kernel) rfl
theorem nf_Mo_38 : Cond.fieldLink nR_Mo 38 (nT_Mo 13).1 (nT_Mo 13).2.1 (nT_Mo 13).2.2.1 ∈ rl_TT := rl_tin 700 (by decide +kernel) rfl
theorem nf_Mo_50 : Cond.fieldLink nR_Mo 50 (nT_Mo 20).1 (nT_Mo 20).2.1 (nT_Mo 20).2.2.1 ∈ rl_TT := rl_tin 707 (by decide +kernel) rfl
theorem nf_Mo_53 : Cond.fieldLink nR_Mo 53 (nT_Mo 21).1 (nT_Mo 21).2.1 (nT_Mo 21).2.2.1 ∈ rl_TT := rl_tin 708 (by decide +kernel) rfl
theorem nm_Mo_94 : Cond.methodLink nR_Mo 94 ny_Mo_placeOf ∈ rl_TT := rl_tin 825 (by decide +kernel) rfl
theorem nh_Mo_placeOf : Cond.code ny_Mo_placeOf nc_Mo_placeOf 3 (some .int) ∈ rl_TT := rl_tin 828 (by decide +kernel) rfl
theorem nm_im_Mo_placeOf : Cond.instanceMethod ny_Mo_placeOf ∈ rl_TT := rl_tin 827 (by decide +kernel) rfl
theorem nm_se_Mo_placeOf : Cond.selects nR_Mo ny_Mo_placeOf ny_Mo_placeOf ∈ rl_TT := rl_tin 27 (by decide +kernel) rfl
theorem nf_Mo_98 : Cond.fieldLink nR_Mo 98 (nT_Mo 15).1 (nT_Mo 15).2.1 (nT_Mo 15).2.2.1 ∈ rl_TT := rl_tin 702 (by decide +kernel) rfl
theorem nm_Mo_102 : Cond.methodLink nR_Mo 102 ny_Mo_firstChoice ∈ rl_TT := rl_tin 809 (by decide +kernel) rfl
theorem nh_Mo_firstChoice : Cond.code ny_Mo_firstChoice nc_Mo_firstChoice 2 none ∈ rl_TT := rl_tin 812 (by decide +kernel) rfl
theorem nm_im_Mo_firstChoice : Cond.instanceMethod ny_Mo_firstChoice ∈ rl_TT := rl_tin 811 (by decide +kernel) rfl
theorem nm_se_Mo_firstChoice : Cond.selects nR_Mo ny_Mo_firstChoice ny_Mo_firstChoice ∈ rl_TT := rl_tin 23 (by decide +kernel) rfl
theorem nm_Mo_105 : Cond.methodLink nR_Mo 105 ny_Mo_layOut ∈ rl_TT := rl_tin 813 (by decide +kernel) rfl
theorem nh_Mo_layOut : Cond.code ny_Mo_layOut nc_Mo_layOut 8 none ∈ rl_TT := rl_tin 816 (by decide +kernel) rfl
theorem nm_im_Mo_layOut : Cond.instanceMethod ny_Mo_layOut ∈ rl_TT := rl_tin 815 (by decide +kernel) rfl
theorem nm_se_Mo_layOut : Cond.selects nR_Mo ny_Mo_layOut ny_Mo_layOut ∈ rl_TT := rl_tin 24 (by decide +kernel) rfl
theorem nm_Mo_114 : Cond.methodLink nR_Mo 114 ny_Mo_fits ∈ rl_TT := rl_tin 817 (by decide +kernel) rfl
theorem nh_Mo_fits : Cond.code ny_Mo_fits nc_Mo_fits 1 (some .boolean) ∈ rl_TT := rl_tin 820 (by decide +kernel) rfl
theorem nm_im_Mo_fits : Cond.instanceMethod ny_Mo_fits ∈ rl_TT := rl_tin 819 (by decide +kernel) rfl
theorem nm_se_Mo_fits : Cond.selects nR_Mo ny_Mo_fits ny_Mo_fits ∈ rl_TT := rl_tin 25 (by decide +kernel) rfl
theorem nm_Mo_118 : Cond.methodLink nR_Mo 118 ny_Mo_nextChoice ∈ rl_TT := rl_tin 821 (by decide +kernel) rfl
theorem nh_Mo_nextChoice : Cond.code ny_Mo_nextChoice nc_Mo_nextChoice 2 (some .boolean) ∈ rl_TT := rl_tin 824 (by decide +kernel) rfl
theorem nm_im_Mo_nextChoice : Cond.instanceMethod ny_Mo_nextChoice ∈ rl_TT := rl_tin 823 (by decide +kernel) rfl
theorem nm_se_Mo_nextChoice : Cond.selects nR_Mo ny_Mo_nextChoice ny_Mo_nextChoice ∈ rl_TT := rl_tin 26 (by decide +kernel) rfl
theorem nf_Mo_108 : Cond.fieldLink nR_Mo 108 (nT_Mo 16).1 (nT_Mo 16).2.1 (nT_Mo 16).2.2.1 ∈ rl_TT := rl_tin 703 (by decide +kernel) rfl
theorem nf_Mo_111 : Cond.fieldLink nR_Mo 111 (nT_Mo 17).1 (nT_Mo 17).2.1 (nT_Mo 17).2.2.1 ∈ rl_TT := rl_tin 704 (by decide +kernel) rfl
theorem nf_Mo_41 : Cond.fieldLink nR_Mo 41 (nT_Mo 14).1 (nT_Mo 14).2.1 (nT_Mo 14).2.2.1 ∈ rl_TT := rl_tin 701 (by decide +kernel) rfl
theorem nm_Mo_121 : Cond.methodLink nR_Mo 121 ny_Mo_findCorners ∈ rl_TT := rl_tin 829 (by decide +kernel) rfl
theorem nh_Mo_findCorners : Cond.code ny_Mo_findCorners nc_Mo_findCorners 4 none ∈ rl_TT := rl_tin 832 (by decide +kernel) rfl
theorem nm_im_Mo_findCorners : Cond.instanceMethod ny_Mo_findCorners ∈ rl_TT := rl_tin 831 (by decide +kernel) rfl
theorem nm_se_Mo_findCorners : Cond.selects nR_Mo ny_Mo_findCorners ny_Mo_findCorners ∈ rl_TT := rl_tin 28 (by decide +kernel) rfl
theorem nm_Mo_124 : Cond.methodLink nR_Mo 124 ny_Mo_findBest ∈ rl_TT := rl_tin 805 (by decide +kernel) rfl
theorem nh_Mo_findBest : Cond.code ny_Mo_findBest nc_Mo_findBest 6 none ∈ rl_TT := rl_tin 808 (by decide +kernel) rfl
theorem nm_im_Mo_findBest : Cond.instanceMethod ny_Mo_findBest ∈ rl_TT := rl_tin 807 (by decide +kernel) rfl
theorem nm_se_Mo_findBest : Cond.selects nR_Mo ny_Mo_findBest ny_Mo_findBest ∈ rl_TT := rl_tin 22 (by decide +kernel) rfl
theorem nf_Mo_65 : Cond.fieldLink nR_Mo 65 (nT_Mo 25).1 (nT_Mo 25).2.1 (nT_Mo 25).2.2.1 ∈ rl_TT := rl_tin 712 (by decide +kernel) rfl
theorem nm_Mo_127 : Cond.methodLink nR_Mo 127 ny_Mo_overlap ∈ rl_TT := rl_tin 849 (by decide +kernel) rfl
theorem nh_Mo_overlap : Cond.code ny_Mo_overlap nc_Mo_overlap 6 (some .int) ∈ rl_TT := rl_tin 851 (by decide +kernel) rfl
theorem nm_st_Mo_overlap : Cond.static ny_Mo_overlap ∈ rl_TT := rl_tin 850 (by decide +kernel) rfl
theorem nm_Mo_131 : Cond.methodLink nR_Mo 131 ny_Mo_shared ∈ rl_TT := rl_tin 845 (by decide +kernel) rfl
theorem nh_Mo_shared : Cond.code ny_Mo_shared nc_Mo_shared 7 (some .int) ∈ rl_TT := rl_tin 848 (by decide +kernel) rfl
theorem nm_im_Mo_shared : Cond.instanceMethod ny_Mo_shared ∈ rl_TT := rl_tin 847 (by decide +kernel) rfl
theorem nm_se_Mo_shared : Cond.selects nR_Mo ny_Mo_shared ny_Mo_shared ∈ rl_TT := rl_tin 29 (by decide +kernel) rfl
theorem nf_Mo_135 : Cond.fieldLink nR_Mo 135 (nT_Mo 9).1 (nT_Mo 9).2.1 (nT_Mo 9).2.2.1 ∈ rl_TT := rl_tin 696 (by decide +kernel) rfl
theorem nf_Mo_29 : Cond.fieldLink nR_Mo 29 (nT_Mo 10).1 (nT_Mo 10).2.1 (nT_Mo 10).2.2.1 ∈ rl_TT := rl_tin 697 (by decide +kernel) rfl
theorem nf_Mo_32 : Cond.fieldLink nR_Mo 32 (nT_Mo 11).1 (nT_Mo 11).2.1 (nT_Mo 11).2.2.1 ∈ rl_TT := rl_tin 698 (by decide +kernel) rfl
theorem nf_Mo_35 : Cond.fieldLink nR_Mo 35 (nT_Mo 12).1 (nT_Mo 12).2.1 (nT_Mo 12).2.2.1 ∈ rl_TT := rl_tin 699 (by decide +kernel) rfl
theorem nm_Mo_138 : Cond.methodLink nR_Mo 138 ny_Mo_isMet ∈ rl_TT := rl_tin 860 (by decide +kernel) rfl
theorem nh_Mo_isMet : Cond.code ny_Mo_isMet nc_Mo_isMet 4 (some .boolean) ∈ rl_TT := rl_tin 863 (by decide +kernel) rfl
theorem nm_im_Mo_isMet : Cond.instanceMethod ny_Mo_isMet ∈ rl_TT := rl_tin 862 (by decide +kernel) rfl
theorem nm_se_Mo_isMet : Cond.selects nR_Mo ny_Mo_isMet ny_Mo_isMet ∈ rl_TT := rl_tin 30 (by decide +kernel) rfl
theorem nm_Mo_141 : Cond.methodLink nR_Mo 141 ny_Mo_allMet ∈ rl_TT := rl_tin 868 (by decide +kernel) rfl
theorem nh_Mo_allMet : Cond.code ny_Mo_allMet nc_Mo_allMet 3 (some .int) ∈ rl_TT := rl_tin 871 (by decide +kernel) rfl
theorem nm_im_Mo_allMet : Cond.instanceMethod ny_Mo_allMet ∈ rl_TT := rl_tin 870 (by decide +kernel) rfl
theorem nm_se_Mo_allMet : Cond.selects nR_Mo ny_Mo_allMet ny_Mo_allMet ∈ rl_TT := rl_tin 31 (by decide +kernel) rfl
theorem nm_Mo_145 : Cond.methodLink nR_Mo 145 ny_Mo_canChange ∈ rl_TT := rl_tin 876 (by decide +kernel) rfl
theorem nh_Mo_canChange : Cond.code ny_Mo_canChange nc_Mo_canChange 3 (some .boolean) ∈ rl_TT := rl_tin 879 (by decide +kernel) rfl
theorem nm_im_Mo_canChange : Cond.instanceMethod ny_Mo_canChange ∈ rl_TT := rl_tin 878 (by decide +kernel) rfl
theorem nm_se_Mo_canChange : Cond.selects nR_Mo ny_Mo_canChange ny_Mo_canChange ∈ rl_TT := rl_tin 32 (by decide +kernel) rfl
theorem nm_Mo_149 : Cond.methodLink nR_Mo 149 ny_Mo_change ∈ rl_TT := rl_tin 880 (by decide +kernel) rfl
theorem nh_Mo_change : Cond.code ny_Mo_change nc_Mo_change 5 none ∈ rl_TT := rl_tin 883 (by decide +kernel) rfl
theorem nm_im_Mo_change : Cond.instanceMethod ny_Mo_change ∈ rl_TT := rl_tin 882 (by decide +kernel) rfl
theorem nm_se_Mo_change : Cond.selects nR_Mo ny_Mo_change ny_Mo_change ∈ rl_TT := rl_tin 33 (by decide +kernel) rfl
