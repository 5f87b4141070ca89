abbrev nc_La_room : ByteArray := method_3_code
def ny_La_room : MethodName := ⟨nR_La, "room", "(LRoomLayouts;[J)I"⟩
def nw_La_room : List Cond := .codeWith ny_La_room nc_La_room 3 (some .int) [(0, 8, 11, 13)] :: rl_TT
abbrev nr_La_room : Room := { frames := 7, cells := 1, slots := 6, locals := 110 }
theorem nd_La_room_0 : decode nc_La_room 0 = .ok (.aload_n 1, 1) := by decide +kernel
theorem nd_La_room_1 : decode nc_La_room 1 = .ok (.iconst 0, 1) := by decide +kernel
theorem nd_La_room_2 : decode nc_La_room 2 = .ok (.aload_n 0, 1) := by decide +kernel
theorem nd_La_room_3 : decode nc_La_room 3 = .ok (.invokevirtual 7, 3) := by decide +kernel
theorem nd_La_room_6 : decode nc_La_room 6 = .ok (.i2l, 1) := by decide +kernel
theorem nd_La_room_7 : decode nc_La_room 7 = .ok (.lastore, 1) := by decide +kernel
theorem nd_La_room_8 : decode nc_La_room 8 = .ok (.goto 6, 3) := by decide +kernel
theorem nd_La_room_11 : decode nc_La_room 11 = .ok (.astore_n 2, 1) := by decide +kernel
theorem nd_La_room_12 : decode nc_La_room 12 = .ok (.iconst 1, 1) := by decide +kernel
theorem nd_La_room_13 : decode nc_La_room 13 = .ok (.ireturn, 1) := by decide +kernel
theorem nd_La_room_14 : decode nc_La_room 14 = .ok (.iconst 0, 1) := by decide +kernel
theorem nd_La_room_15 : decode nc_La_room 15 = .ok (.ireturn, 1) := by decide +kernel
theorem nh_La_room : Cond.codeWith ny_La_room nc_La_room 3 (some .int) [(0, 8, 11, 13)] ∈ rl_TT := rl_tin 473 (by decide +kernel) rfl
abbrev nc_La_size : ByteArray := method_4_code
def ny_La_size : MethodName := ⟨nR_La, "size", "(LRoomLayouts;III[J)I"⟩
def nw_La_size : List Cond := .codeWith ny_La_size nc_La_size 6 (some .int) [(0, 12, 15, 19), (0, 12, 19, 13)] :: rl_TT
abbrev nr_La_size : Room := { frames := 9, cells := 1, slots := 6, locals := 156 }
theorem nd_La_size_0 : decode nc_La_size 0 = .ok (.aload 4, 2) := by decide +kernel
theorem nd_La_size_2 : decode nc_La_size 2 = .ok (.iconst 0, 1) := by decide +kernel
theorem nd_La_size_3 : decode nc_La_size 3 = .ok (.aload_n 0, 1) := by decide +kernel
theorem nd_La_size_4 : decode nc_La_size 4 = .ok (.iload_n 1, 1) := by decide +kernel
theorem nd_La_size_5 : decode nc_La_size 5 = .ok (.iload_n 2, 1) := by decide +kernel
theorem nd_La_size_6 : decode nc_La_size 6 = .ok (.iload_n 3, 1) := by decide +kernel
theorem nd_La_size_7 : decode nc_La_size 7 = .ok (.invokevirtual 15, 3) := by decide +kernel
theorem nd_La_size_10 : decode nc_La_size 10 = .ok (.i2l, 1) := by decide +kernel
theorem nd_La_size_11 : decode nc_La_size 11 = .ok (.lastore, 1) := by decide +kernel
theorem nd_La_size_12 : decode nc_La_size 12 = .ok (.goto 11, 3) := by decide +kernel
theorem nd_La_size_15 : decode nc_La_size 15 = .ok (.astore 5, 2) := by decide +kernel
theorem nd_La_size_17 : decode nc_La_size 17 = .ok (.iconst 1, 1) := by decide +kernel
theorem nd_La_size_18 : decode nc_La_size 18 = .ok (.ireturn, 1) := by decide +kernel
theorem nd_La_size_19 : decode nc_La_size 19 = .ok (.astore 5, 2) := by decide +kernel
theorem nd_La_size_21 : decode nc_La_size 21 = .ok (.iconst 2, 1) := by decide +kernel
theorem nd_La_size_22 : decode nc_La_size 22 = .ok (.ireturn, 1) := by decide +kernel
theorem nd_La_size_23 : decode nc_La_size 23 = .ok (.iconst 0, 1) := by decide +kernel
theorem nd_La_size_24 : decode nc_La_size 24 = .ok (.ireturn, 1) := by decide +kernel
theorem nh_La_size : Cond.codeWith ny_La_size nc_La_size 6 (some .int) [(0, 12, 15, 19), (0, 12, 19, 13)] ∈ rl_TT := rl_tin 552 (by decide +kernel) rfl
abbrev nc_La_lot : ByteArray := method_5_code
def ny_La_lot : MethodName := ⟨nR_La, "lot", "(LRoomLayouts;II)I"⟩
def nw_La_lot : List Cond := .codeWith ny_La_lot nc_La_lot 4 (some .int) [(0, 6, 9, 19)] :: rl_TT
abbrev nr_La_lot : Room := { frames := 8, cells := 1, slots := 6, locals := 134 }
theorem nd_La_lot_0 : decode nc_La_lot 0 = .ok (.aload_n 0, 1) := by decide +kernel
theorem nd_La_lot_1 : decode nc_La_lot 1 = .ok (.iload_n 1, 1) := by decide +kernel
theorem nd_La_lot_2 : decode nc_La_lot 2 = .ok (.iload_n 2, 1) := by decide +kernel
theorem nd_La_lot_3 : decode nc_La_lot 3 = .ok (.invokevirtual 21, 3) := by decide +kernel
theorem nd_La_lot_6 : decode nc_La_lot 6 = .ok (.goto 6, 3) := by decide +kernel
theorem nd_La_lot_9 : decode nc_La_lot 9 = .ok (.astore_n 3, 1) := by decide +kernel
theorem nd_La_lot_10 : decode nc_La_lot 10 = .ok (.iconst 1, 1) := by decide +kernel
theorem nd_La_lot_11 : decode nc_La_lot 11 = .ok (.ireturn, 1) := by decide +kernel
theorem nd_La_lot_12 : decode nc_La_lot 12 = .ok (.iconst 0, 1) := by decide +kernel
theorem nd_La_lot_13 : decode nc_La_lot 13 = .ok (.ireturn, 1) := by decide +kernel
theorem nh_La_lot : Cond.codeWith ny_La_lot nc_La_lot 4 (some .int) [(0, 6, 9, 19)] ∈ rl_TT := rl_tin 589 (by decide +kernel) rfl
abbrev nc_La_best : ByteArray := method_6_code
def ny_La_best : MethodName := ⟨nR_La, "best", "(LRoomLayouts;I[J)I"⟩
def nw_La_best : List Cond := .codeWith ny_La_best nc_La_best 4 (some .int) [(0, 9, 12, 19)] :: rl_TT
abbrev nr_La_best : Room := { frames := 8, cells := 1, slots := 6, locals := 135 }
theorem nd_La_best_0 : decode nc_La_best 0 = .ok (.aload_n 2, 1) := by decide +kernel
theorem nd_La_best_1 : decode nc_La_best 1 = .ok (.iconst 0, 1) := by decide +kernel
theorem nd_La_best_2 : decode nc_La_best 2 = .ok (.aload_n 0, 1) := by decide +kernel
theorem nd_La_best_3 : decode nc_La_best 3 = .ok (.iload_n 1, 1) := by decide +kernel
theorem nd_La_best_4 : decode nc_La_best 4 = .ok (.invokevirtual 25, 3) := by decide +kernel
theorem nd_La_best_7 : decode nc_La_best 7 = .ok (.i2l, 1) := by decide +kernel
theorem nd_La_best_8 : decode nc_La_best 8 = .ok (.lastore, 1) := by decide +kernel
theorem nd_La_best_9 : decode nc_La_best 9 = .ok (.goto 6, 3) := by decide +kernel
theorem nd_La_best_12 : decode nc_La_best 12 = .ok (.astore_n 3, 1) := by decide +kernel
theorem nd_La_best_13 : decode nc_La_best 13 = .ok (.iconst 1, 1) := by decide +kernel
theorem nd_La_best_14 : decode nc_La_best 14 = .ok (.ireturn, 1) := by decide +kernel
theorem nd_La_best_15 : decode nc_La_best 15 = .ok (.iconst 0, 1) := by decide +kernel
theorem nd_La_best_16 : decode nc_La_best 16 = .ok (.ireturn, 1) := by decide +kernel
theorem nh_La_best : Cond.codeWith ny_La_best nc_La_best 4 (some .int) [(0, 9, 12, 19)] ∈ rl_TT := rl_tin 601 (by decide +kernel) rfl
abbrev nc_La_place : ByteArray := method_7_code
def ny_La_place : MethodName := ⟨nR_La, "place", "(LRoomLayouts;II[J)I"⟩
def nw_La_place : List Cond := .codeWith ny_La_place nc_La_place 5 (some .int) [(0, 10, 13, 19)] :: rl_TT
abbrev nr_La_place : Room := { frames := 9, cells := 1, slots := 6, locals := 168 }
theorem nd_La_place_0 : decode nc_La_place 0 = .ok (.aload_n 3, 1) := by decide +kernel
theorem nd_La_place_1 : decode nc_La_place 1 = .ok (.iconst 0, 1) := by decide +kernel
theorem nd_La_place_2 : decode nc_La_place 2 = .ok (.aload_n 0, 1) := by decide +kernel
theorem nd_La_place_3 : decode nc_La_place 3 = .ok (.iload_n 1, 1) := by decide +kernel
theorem nd_La_place_4 : decode nc_La_place 4 = .ok (.iload_n 2, 1) := by decide +kernel
theorem nd_La_place_5 : decode nc_La_place 5 = .ok (.invokevirtual 29, 3) := by decide +kernel
theorem nd_La_place_8 : decode nc_La_place 8 = .ok (.i2l, 1) := by decide +kernel
theorem nd_La_place_9 : decode nc_La_place 9 = .ok (.lastore, 1) := by decide +kernel
theorem nd_La_place_10 : decode nc_La_place 10 = .ok (.goto 7, 3) := by decide +kernel
theorem nd_La_place_13 : decode nc_La_place 13 = .ok (.astore 4, 2) := by decide +kernel
theorem nd_La_place_15 : decode nc_La_place 15 = .ok (.iconst 1, 1) := by decide +kernel
theorem nd_La_place_16 : decode nc_La_place 16 = .ok (.ireturn, 1) := by decide +kernel
theorem nd_La_place_17 : decode nc_La_place 17 = .ok (.iconst 0, 1) := by decide +kernel
theorem nd_La_place_18 : decode nc_La_place 18 = .ok (.ireturn, 1) := by decide +kernel
theorem nh_La_place : Cond.codeWith ny_La_place nc_La_place 5 (some .int) [(0, 10, 13, 19)] ∈ rl_TT := rl_tin 611 (by decide +kernel) rfl
abbrev nc_La_outline : ByteArray := method_8_code
def ny_La_outline : MethodName := ⟨nR_La, "outline", "(LRoomLayouts;II[J)I"⟩
def nw_La_outline : List Cond := .codeWith ny_La_outline nc_La_outline 5 (some .int) [(0, 10, 13, 19)] :: rl_TT
abbrev nr_La_outline : Room := { frames := 8, cells := 1, slots := 6, locals := 136 }
theorem nd_La_outline_0 : decode nc_La_outline 0 = .ok (.aload_n 3, 1) := by decide +kernel
theorem nd_La_outline_1 : decode nc_La_outline 1 = .ok (.iconst 0, 1) := by decide +kernel
theorem nd_La_outline_2 : decode nc_La_outline 2 = .ok (.aload_n 0, 1) := by decide +kernel
theorem nd_La_outline_3 : decode nc_La_outline 3 = .ok (.iload_n 1, 1) := by decide +kernel
theorem nd_La_outline_4 : decode nc_La_outline 4 = .ok (.iload_n 2, 1) := by decide +kernel
theorem nd_La_outline_5 : decode nc_La_outline 5 = .ok (.invokevirtual 33, 3) := by decide +kernel
theorem nd_La_outline_8 : decode nc_La_outline 8 = .ok (.i2l, 1) := by decide +kernel
theorem nd_La_outline_9 : decode nc_La_outline 9 = .ok (.lastore, 1) := by decide +kernel
theorem nd_La_outline_10 : decode nc_La_outline 10 = .ok (.goto 7, 3) := by decide +kernel
theorem nd_La_outline_13 : decode nc_La_outline 13 = .ok (.astore 4, 2) := by decide +kernel
theorem nd_La_outline_15 : decode nc_La_outline 15 = .ok (.iconst 1, 1) := by decide +kernel
theorem nd_La_outline_16 : decode nc_La_outline 16 = .ok (.ireturn, 1) := by decide +kernel
theorem nd_La_outline_17 : decode nc_La_outline 17 = .ok (.iconst 0, 1) := by decide +kernel
theorem nd_La_outline_18 : decode nc_La_outline 18 = .ok (.ireturn, 1) := by decide +kernel
theorem nh_La_outline : Cond.codeWith ny_La_outline nc_La_outline 5 (some .int) [(0, 10, 13, 19)] ∈ rl_TT := rl_tin 622 (by decide +kernel) rfl
abbrev nc_La_wall : ByteArray := method_9_code
def ny_La_wall : MethodName := ⟨nR_La, "wall", "(LRoomLayouts;II[J)I"⟩
def nw_La_wall : List Cond := .codeWith ny_La_wall nc_La_wall 5 (some .int) [(0, 10, 13, 19)] :: rl_TT
abbrev nr_La_wall : Room := { frames := 10, cells := 1, slots := 6, locals := 177 }
theorem nd_La_wall_0 : decode nc_La_wall 0 = .ok (.aload_n 3, 1) := by decide +kernel
theorem nd_La_wall_1 : decode nc_La_wall 1 = .ok (.iconst 0, 1) := by decide +kernel
theorem nd_La_wall_2 : decode nc_La_wall 2 = .ok (.aload_n 0, 1) := by decide +kernel
theorem nd_La_wall_3 : decode nc_La_wall 3 = .ok (.iload_n 1, 1) := by decide +kernel
theorem nd_La_wall_4 : decode nc_La_wall 4 = .ok (.iload_n 2, 1) := by decide +kernel
theorem nd_La_wall_5 : decode nc_La_wall 5 = .ok (.invokevirtual 36, 3) := by decide +kernel
theorem nd_La_wall_8 : decode nc_La_wall 8 = .ok (.i2l, 1) := by decide +kernel
theorem nd_La_wall_9 : decode nc_La_wall 9 = .ok (.lastore, 1) := by decide +kernel
theorem nd_La_wall_10 : decode nc_La_wall 10 = .ok (.goto 7, 3) := by decide +kernel
theorem nd_La_wall_13 : decode nc_La_wall 13 = .ok (.astore 4, 2) := by decide +kernel
theorem nd_La_wall_15 : decode nc_La_wall 15 = .ok (.iconst 1, 1) := by decide +kernel
theorem nd_La_wall_16 : decode nc_La_wall 16 = .ok (.ireturn, 1) := by decide +kernel
theorem nd_La_wall_17 : decode nc_La_wall 17 = .ok (.iconst 0, 1) := by decide +kernel
theorem nd_La_wall_18 : decode nc_La_wall 18 = .ok (.ireturn, 1) := by decide +kernel
theorem nh_La_wall : Cond.codeWith ny_La_wall nc_La_wall 5 (some .int) [(0, 10, 13, 19)] ∈ rl_TT := rl_tin 635 (by decide +kernel) rfl
abbrev nc_La_wish : ByteArray := method_10_code
def ny_La_wish : MethodName := ⟨nR_La, "wish", "(LRoomLayouts;III[J)I"⟩
def nw_La_wish : List Cond := .codeWith ny_La_wish nc_La_wish 6 (some .int) [(0, 12, 15, 19), (0, 12, 19, 13)] :: rl_TT
abbrev nr_La_wish : Room := { frames := 10, cells := 1, slots := 6, locals := 178 }
theorem nd_La_wish_0 : decode nc_La_wish 0 = .ok (.aload 4, 2) := by decide +kernel
theorem nd_La_wish_2 : decode nc_La_wish 2 = .ok (.iconst 0, 1) := by decide +kernel
theorem nd_La_wish_3 : decode nc_La_wish 3 = .ok (.aload_n 0, 1) := by decide +kernel
theorem nd_La_wish_4 : decode nc_La_wish 4 = .ok (.iload_n 1, 1) := by decide +kernel
theorem nd_La_wish_5 : decode nc_La_wish 5 = .ok (.iload_n 2, 1) := by decide +kernel
theorem nd_La_wish_6 : decode nc_La_wish 6 = .ok (.iload_n 3, 1) := by decide +kernel
theorem nd_La_wish_7 : decode nc_La_wish 7 = .ok (.invokevirtual 39, 3) := by decide +kernel
theorem nd_La_wish_10 : decode nc_La_wish 10 = .ok (.i2l, 1) := by decide +kernel
theorem nd_La_wish_11 : decode nc_La_wish 11 = .ok (.lastore, 1) := by decide +kernel
theorem nd_La_wish_12 : decode nc_La_wish 12 = .ok (.goto 11, 3) := by decide +kernel
theorem nd_La_wish_15 : decode nc_La_wish 15 = .ok (.astore 5, 2) := by decide +kernel
theorem nd_La_wish_17 : decode nc_La_wish 17 = .ok (.iconst 1, 1) := by decide +kernel
theorem nd_La_wish_18 : decode nc_La_wish 18 = .ok (.ireturn, 1) := by decide +kernel
theorem nd_La_wish_19 : decode nc_La_wish 19 = .ok (.astore 5, 2) := by decide +kernel
theorem nd_La_wish_21 : decode nc_La_wish 21 = .ok (.iconst 2, 1) := by decide +kernel
theorem nd_La_wish_22 : decode nc_La_wish 22 = .ok (.ireturn, 1) := by decide +kernel
theorem nd_La_wish_23 : decode nc_La_wish 23 = .ok (.iconst 0, 1) := by decide +kernel
theorem nd_La_wish_24 : decode nc_La_wish 24 = .ok (.ireturn, 1) := by decide +kernel
theorem nh_La_wish : Cond.codeWith ny_La_wish nc_La_wish 6 (some .int) [(0, 12, 15, 19), (0, 12, 19, 13)] ∈ rl_TT := rl_tin 648 (by decide +kernel) rfl
abbrev nc_La_met : ByteArray := method_11_code
def ny_La_met : MethodName := ⟨nR_La, "met", "(LRoomLayouts;I[J)I"⟩
def nw_La_met : List Cond := .codeWith ny_La_met nc_La_met 4 (some .int) [(0, 16, 19, 19)] :: rl_TT
abbrev nr_La_met : Room := { frames := 8, cells := 1, slots := 6, locals := 167 }
theorem nd_La_met_0 : decode nc_La_met 0 = .ok (.aload_n 2, 1) := by decide +kernel
theorem nd_La_met_1 : decode nc_La_met 1 = .ok (.iconst 0, 1) := by decide +kernel
theorem nd_La_met_2 : decode nc_La_met 2 = .ok (.aload_n 0, 1) := by decide +kernel
theorem nd_La_met_3 : decode nc_La_met 3 = .ok (.iload_n 1, 1) := by decide +kernel
theorem nd_La_met_4 : decode nc_La_met 4 = .ok (.invokevirtual 42, 3) := by decide +kernel
theorem nd_La_met_7 : decode nc_La_met 7 = .ok (.ifCond .eq 7, 3) := by decide +kernel
theorem nd_La_met_10 : decode nc_La_met 10 = .ok (.lconst 1, 1) := by decide +kernel
theorem nd_La_met_11 : decode nc_La_met 11 = .ok (.goto 4, 3) := by decide +kernel
theorem nd_La_met_14 : decode nc_La_met 14 = .ok (.lconst 0, 1) := by decide +kernel
theorem nd_La_met_15 : decode nc_La_met 15 = .ok (.lastore, 1) := by decide +kernel
theorem nd_La_met_16 : decode nc_La_met 16 = .ok (.goto 6, 3) := by decide +kernel
theorem nd_La_met_19 : decode nc_La_met 19 = .ok (.astore_n 3, 1) := by decide +kernel
theorem nd_La_met_20 : decode nc_La_met 20 = .ok (.iconst 1, 1) := by decide +kernel
theorem nd_La_met_21 : decode nc_La_met 21 = .ok (.ireturn, 1) := by decide +kernel
theorem nd_La_met_22 : decode nc_La_met 22 = .ok (.iconst 0, 1) := by decide +kernel
theorem nd_La_met_23 : decode nc_La_met 23 = .ok (.ireturn, 1) := by decide +kernel
theorem nh_La_met : Cond.codeWith ny_La_met nc_La_met 4 (some .int) [(0, 16, 19, 19)] ∈ rl_TT := rl_tin 660 (by decide +kernel) rfl
abbrev nc_La_swap : ByteArray := method_12_code
def ny_La_swap : MethodName := ⟨nR_La, "swap", "(LRoomLayouts;II[J)I"⟩
def nw_La_swap : List Cond := .codeWith ny_La_swap nc_La_swap 5 (some .int) [(0, 17, 20, 19)] :: rl_TT
abbrev nr_La_swap : Room := { frames := 10, cells := 1, slots := 6, locals := 177 }
theorem nd_La_swap_0 : decode nc_La_swap 0 = .ok (.aload_n 3, 1) := by decide +kernel
theorem nd_La_swap_1 : decode nc_La_swap 1 = .ok (.iconst 0, 1) := by decide +kernel
theorem nd_La_swap_2 : decode nc_La_swap 2 = .ok (.aload_n 0, 1) := by decide +kernel
theorem nd_La_swap_3 : decode nc_La_swap 3 = .ok (.iload_n 1, 1) := by decide +kernel
theorem nd_La_swap_4 : decode nc_La_swap 4 = .ok (.iload_n 2, 1) := by decide +kernel
theorem nd_La_swap_5 : decode nc_La_swap 5 = .ok (.invokevirtual 46, 3) := by decide +kernel
theorem nd_La_swap_8 : decode nc_La_swap 8 = .ok (.ifCond .eq 7, 3) := by decide +kernel
theorem nd_La_swap_11 : decode nc_La_swap 11 = .ok (.lconst 1, 1) := by decide +kernel
theorem nd_La_swap_12 : decode nc_La_swap 12 = .ok (.goto 4, 3) := by decide +kernel
theorem nd_La_swap_15 : decode nc_La_swap 15 = .ok (.lconst 0, 1) := by decide +kernel
theorem nd_La_swap_16 : decode nc_La_swap 16 = .ok (.lastore, 1) := by decide +kernel
theorem nd_La_swap_17 : decode nc_La_swap 17 = .ok (.goto 7, 3) := by decide +kernel
theorem nd_La_swap_20 : decode nc_La_swap 20 = .ok (.astore 4, 2) := by decide +kernel
theorem nd_La_swap_22 : decode nc_La_swap 22 = .ok (.iconst 1, 1) := by decide +kernel
theorem nd_La_swap_23 : decode nc_La_swap 23 = .ok (.ireturn, 1) := by decide +kernel
theorem nd_La_swap_24 : decode nc_La_swap 24 = .ok (.iconst 0, 1) := by decide +kernel
theorem nd_La_swap_25 : decode nc_La_swap 25 = .ok (.ireturn, 1) := by decide +kernel
theorem nh_La_swap : Cond.codeWith ny_La_swap nc_La_swap 5 (some .int) [(0, 17, 20, 19)] ∈ rl_TT := rl_tin 668 (by decide +kernel) rfl
abbrev nc_La_sign : ByteArray := method_13_code
def ny_La_sign : MethodName := ⟨nR_La, "sign", "(LRoomLayouts;I[J)I"⟩
def nw_La_sign : List Cond := .codeWith ny_La_sign nc_La_sign 4 (some .int) [(0, 9, 12, 19)] :: rl_TT
abbrev nr_La_sign : Room := { frames := 8, cells := 1, slots := 6, locals := 131 }
theorem nd_La_sign_0 : decode nc_La_sign 0 = .ok (.aload_n 2, 1) := by decide +kernel
theorem nd_La_sign_1 : decode nc_La_sign 1 = .ok (.iconst 0, 1) := by decide +kernel
theorem nd_La_sign_2 : decode nc_La_sign 2 = .ok (.aload_n 0, 1) := by decide +kernel
theorem nd_La_sign_3 : decode nc_La_sign 3 = .ok (.iload_n 1, 1) := by decide +kernel
theorem nd_La_sign_4 : decode nc_La_sign 4 = .ok (.invokevirtual 50, 3) := by decide +kernel
theorem nd_La_sign_7 : decode nc_La_sign 7 = .ok (.i2l, 1) := by decide +kernel
theorem nd_La_sign_8 : decode nc_La_sign 8 = .ok (.lastore, 1) := by decide +kernel
theorem nd_La_sign_9 : decode nc_La_sign 9 = .ok (.goto 6, 3) := by decide +kernel
theorem nd_La_sign_12 : decode nc_La_sign 12 = .ok (.astore_n 3, 1) := by decide +kernel
theorem nd_La_sign_13 : decode nc_La_sign 13 = .ok (.iconst 1, 1) := by decide +kernel
theorem nd_La_sign_14 : decode nc_La_sign 14 = .ok (.ireturn, 1) := by decide +kernel
theorem nd_La_sign_15 : decode nc_La_sign 15 = .ok (.iconst 0, 1) := by decide +kernel
theorem nd_La_sign_16 : decode nc_La_sign 16 = .ok (.ireturn, 1) := by decide +kernel
theorem nh_La_sign : Cond.codeWith ny_La_sign nc_La_sign 4 (some .int) [(0, 9, 12, 19)] ∈ rl_TT := rl_tin 675 (by decide +kernel) rfl
theorem nm_La_7 : Cond.methodLink nR_La 7 ny_Ro_room ∈ rl_TT := rl_tin 475 (by decide +kernel) rfl
theorem nh_Ro_room : Cond.code ny_Ro_room nc_Ro_room 1 (some .int) ∈ rl_TT := rl_tin 478 (by decide +kernel) rfl
theorem nm_im_Ro_room : Cond.instanceMethod ny_Ro_room ∈ rl_TT := rl_tin 476 (by decide +kernel) rfl
theorem nm_se_Ro_room : Cond.selects nR_Ro ny_Ro_room ny_Ro_room ∈ rl_TT := rl_tin 477 (by decide +kernel) rfl
theorem nm_La_15 : Cond.methodLink nR_La 15 ny_Ro_size ∈ rl_TT := rl_tin 554 (by decide +kernel) rfl
theorem nh_Ro_size : Cond.code ny_Ro_size nc_Ro_size 4 (some .int) ∈ rl_TT := rl_tin 557 (by decide +kernel) rfl
theorem nm_im_Ro_size : Cond.instanceMethod ny_Ro_size ∈ rl_TT := rl_tin 555 (by decide +kernel) rfl
theorem nm_se_Ro_size : Cond.selects nR_Ro ny_Ro_size ny_Ro_size ∈ rl_TT := rl_tin 556 (by decide +kernel) rfl
theorem nm_La_21 : Cond.methodLink nR_La 21 ny_Ro_lot ∈ rl_TT := rl_tin 590 (by decide +kernel) rfl
theorem nh_Ro_lot : Cond.code ny_Ro_lot nc_Ro_lot 3 none ∈ rl_TT := rl_tin 593 (by decide +kernel) rfl
theorem nm_im_Ro_lot : Cond.instanceMethod ny_Ro_lot ∈ rl_TT := rl_tin 591 (by decide +kernel) rfl
theorem nm_se_Ro_lot : Cond.selects nR_Ro ny_Ro_lot ny_Ro_lot ∈ rl_TT := rl_tin 592 (by decide +kernel) rfl
theorem nm_La_25 : Cond.methodLink nR_La 25 ny_Ro_best ∈ rl_TT := rl_tin 602 (by decide +kernel) rfl
theorem nh_Ro_best : Cond.code ny_Ro_best nc_Ro_best 2 (some .int) ∈ rl_TT := rl_tin 605 (by decide +kernel) rfl
theorem nm_im_Ro_best : Cond.instanceMethod ny_Ro_best ∈ rl_TT := rl_tin 603 (by decide +kernel) rfl
theorem nm_se_Ro_best : Cond.selects nR_Ro ny_Ro_best ny_Ro_best ∈ rl_TT := rl_tin 604 (by decide +kernel) rfl
theorem nm_La_29 : Cond.methodLink nR_La 29 ny_Ro_place ∈ rl_TT := rl_tin 612 (by decide +kernel) rfl
theorem nh_Ro_place : Cond.code ny_Ro_place nc_Ro_place 3 (some .int) ∈ rl_TT := rl_tin 615 (by decide +kernel) rfl
theorem nm_im_Ro_place : Cond.instanceMethod ny_Ro_place ∈ rl_TT := rl_tin 613 (by decide +kernel) rfl
theorem nm_se_Ro_place : Cond.selects nR_Ro ny_Ro_place ny_Ro_place ∈ rl_TT := rl_tin 614 (by decide +kernel) rfl
theorem nm_La_33 : Cond.methodLink nR_La 33 ny_Ro_outline ∈ rl_TT := rl_tin 623 (by decide +kernel) rfl
theorem nh_Ro_outline : Cond.code ny_Ro_outline nc_Ro_outline 3 (some .int) ∈ rl_TT := rl_tin 626 (by decide +kernel) rfl
theorem nm_im_Ro_outline : Cond.instanceMethod ny_Ro_outline ∈ rl_TT := rl_tin 624 (by decide +kernel) rfl
theorem nm_se_Ro_outline : Cond.selects nR_Ro ny_Ro_outline ny_Ro_outline ∈ rl_TT := rl_tin 625 (by decide +kernel) rfl
theorem nm_La_36 : Cond.methodLink nR_La 36 ny_Ro_wall ∈ rl_TT := rl_tin 636 (by decide +kernel) rfl
theorem nh_Ro_wall : Cond.code ny_Ro_wall nc_Ro_wall 3 (some .int) ∈ rl_TT := rl_tin 639 (by decide +kernel) rfl
theorem nm_im_Ro_wall : Cond.instanceMethod ny_Ro_wall ∈ rl_TT := rl_tin 637 (by decide +kernel) rfl
theorem nm_se_Ro_wall : Cond.selects nR_Ro ny_Ro_wall ny_Ro_wall ∈ rl_TT := rl_tin 638 (by decide +kernel) rfl
theorem nm_La_39 : Cond.methodLink nR_La 39 ny_Ro_wish ∈ rl_TT := rl_tin 649 (by decide +kernel) rfl
theorem nh_Ro_wish : Cond.code ny_Ro_wish nc_Ro_wish 4 (some .int) ∈ rl_TT := rl_tin 652 (by decide +kernel) rfl
theorem nm_im_Ro_wish : Cond.instanceMethod ny_Ro_wish ∈ rl_TT := rl_tin 650 (by decide +kernel) rfl
theorem nm_se_Ro_wish : Cond.selects nR_Ro ny_Ro_wish ny_Ro_wish ∈ rl_TT := rl_tin 651 (by decide +kernel) rfl
theorem nm_La_42 : Cond.methodLink nR_La 42 ny_Ro_met0 ∈ rl_TT := rl_tin 661 (by decide +kernel) rfl
theorem nh_Ro_met0 : Cond.code ny_Ro_met0 nc_Ro_met0 2 (some .boolean) ∈ rl_TT := rl_tin 664 (by decide +kernel) rfl
theorem nm_im_Ro_met0 : Cond.instanceMethod ny_Ro_met0 ∈ rl_TT := rl_tin 662 (by decide +kernel) rfl
theorem nm_se_Ro_met0 : Cond.selects nR_Ro ny_Ro_met0 ny_Ro_met0 ∈ rl_TT := rl_tin 663 (by decide +kernel) rfl
theorem nm_La_46 : Cond.methodLink nR_La 46 ny_Ro_swap ∈ rl_TT := rl_tin 669 (by decide +kernel) rfl
theorem nh_Ro_swap : Cond.code ny_Ro_swap nc_Ro_swap 3 (some .boolean) ∈ rl_TT := rl_tin 672 (by decide +kernel) rfl
theorem nm_im_Ro_swap : Cond.instanceMethod ny_Ro_swap ∈ rl_TT := rl_tin 670 (by decide +kernel) rfl
theorem nm_se_Ro_swap : Cond.selects nR_Ro ny_Ro_swap ny_Ro_swap ∈ rl_TT := rl_tin 671 (by decide +kernel) rfl
theorem nm_La_50 : Cond.methodLink nR_La 50 ny_Ro_sign ∈ rl_TT := rl_tin 676 (by decide +kernel) rfl
theorem nh_Ro_sign : Cond.code ny_Ro_sign nc_Ro_sign 2 (some .int) ∈ rl_TT := rl_tin 679 (by decide +kernel) rfl
theorem nm_im_Ro_sign : Cond.instanceMethod ny_Ro_sign ∈ rl_TT := rl_tin 677 (by decide +kernel) rfl
theorem nm_se_Ro_sign : Cond.selects nR_Ro ny_Ro_sign ny_Ro_sign ∈ rl_TT := rl_tin 678 (by decide +kernel) rfl
theorem nx_lA : Cond.classLink nR_La 19 "java/lang/IllegalArgumentException" ∈ rl_TT := by decide +kernel
theorem nx_lS : Cond.classLink nR_La 13 "java/lang/IllegalStateException" ∈ rl_TT := by decide +kernel
theorem rl_tab {p : Program} {l : Launch} {y : MethodName} {S : Spec} {cc : ByteArray} {maxL : Nat} {ret : Option FieldType} {e : Env} {s : State} {m : MethodId} {args : Array Value} {below : List Frame} {meth : Method} {c : Code} {s₁ : State} {hh : List (Nat × Nat × Nat × Nat)} (B : BodyLoose p l y S cc maxL ret e s m args below meth c s₁) (h : (Cond.codeWith y cc maxL ret hh).before args s = true) : c.exceptionTable.toList = tableOf hh := by
  obtain ⟨m9, meth9, c9, a1, a2, a3, -, -, a6, -⟩ := Cond.codeWith_spec h
  cases B.named.symm.trans a1
  cases B.method.symm.trans a2
  cases (Stand.of_body B).code.symm.trans a3
  rw [← a6, table_eq]
