def nw_Ro_room : List Cond := .code ny_Ro_room nc_Ro_room 1 (some .int) :: rl_TT
abbrev nr_Ro_room : Room := { frames := 6, cells := 0, slots := 0, locals := 90 }
abbrev nr_Ro_roomT : Room := { frames := 6, cells := 1, slots := 6, locals := 90 }
def nw_Ro_needWithin : List Cond := .code ny_Ro_needWithin nc_Ro_needWithin 3 none :: rl_TT
abbrev nr_Ro_needWithin : Room := { frames := 6, cells := 0, slots := 0, locals := 90 }
abbrev nr_Ro_needWithinT : Room := { frames := 6, cells := 1, slots := 6, locals := 90 }
def nw_Ro_needRoom : List Cond := .code ny_Ro_needRoom nc_Ro_needRoom 2 none :: rl_TT
abbrev nr_Ro_needRoom : Room := { frames := 7, cells := 0, slots := 0, locals := 112 }
abbrev nr_Ro_needRoomT : Room := { frames := 7, cells := 1, slots := 6, locals := 112 }
def nw_Ro_size : List Cond := .code ny_Ro_size nc_Ro_size 4 (some .int) :: rl_TT
abbrev nr_Ro_size : Room := { frames := 8, cells := 0, slots := 0, locals := 133 }
abbrev nr_Ro_sizeT : Room := { frames := 8, cells := 1, slots := 6, locals := 133 }
def nw_Ro_lot : List Cond := .code ny_Ro_lot nc_Ro_lot 3 none :: rl_TT
abbrev nr_Ro_lot : Room := { frames := 7, cells := 0, slots := 0, locals := 112 }
abbrev nr_Ro_lotT : Room := { frames := 7, cells := 1, slots := 6, locals := 112 }
def nw_Ro_best : List Cond := .code ny_Ro_best nc_Ro_best 2 (some .int) :: rl_TT
abbrev nr_Ro_best : Room := { frames := 7, cells := 0, slots := 0, locals := 114 }
abbrev nr_Ro_bestT : Room := { frames := 7, cells := 1, slots := 6, locals := 114 }
def nw_Ro_place : List Cond := .code ny_Ro_place nc_Ro_place 3 (some .int) :: rl_TT
abbrev nr_Ro_place : Room := { frames := 8, cells := 0, slots := 0, locals := 146 }
abbrev nr_Ro_placeT : Room := { frames := 8, cells := 1, slots := 6, locals := 146 }
def nw_Ro_needNotBelowZero : List Cond := .code ny_Ro_needNotBelowZero nc_Ro_needNotBelowZero 1 none :: rl_TT
abbrev nr_Ro_needNotBelowZero : Room := { frames := 6, cells := 0, slots := 0, locals := 90 }
abbrev nr_Ro_needNotBelowZeroT : Room := { frames := 6, cells := 1, slots := 6, locals := 90 }
def nw_Ro_outline : List Cond := .code ny_Ro_outline nc_Ro_outline 3 (some .int) :: rl_TT
abbrev nr_Ro_outline : Room := { frames := 7, cells := 0, slots := 0, locals := 114 }
abbrev nr_Ro_outlineT : Room := { frames := 7, cells := 1, slots := 6, locals := 114 }
def nw_Ro_needTwoRooms : List Cond := .code ny_Ro_needTwoRooms nc_Ro_needTwoRooms 3 none :: rl_TT
abbrev nr_Ro_needTwoRooms : Room := { frames := 8, cells := 0, slots := 0, locals := 133 }
abbrev nr_Ro_needTwoRoomsT : Room := { frames := 8, cells := 1, slots := 6, locals := 133 }
def nw_Ro_wall : List Cond := .code ny_Ro_wall nc_Ro_wall 3 (some .int) :: rl_TT
abbrev nr_Ro_wall : Room := { frames := 9, cells := 0, slots := 0, locals := 155 }
abbrev nr_Ro_wallT : Room := { frames := 9, cells := 1, slots := 6, locals := 155 }
def nw_Ro_wish : List Cond := .code ny_Ro_wish nc_Ro_wish 4 (some .int) :: rl_TT
abbrev nr_Ro_wish : Room := { frames := 9, cells := 0, slots := 0, locals := 155 }
abbrev nr_Ro_wishT : Room := { frames := 9, cells := 1, slots := 6, locals := 155 }
def nw_Ro_met0 : List Cond := .code ny_Ro_met0 nc_Ro_met0 2 (some .boolean) :: rl_TT
abbrev nr_Ro_met0 : Room := { frames := 7, cells := 0, slots := 0, locals := 146 }
abbrev nr_Ro_met0T : Room := { frames := 7, cells := 1, slots := 6, locals := 146 }
def nw_Ro_swap : List Cond := .code ny_Ro_swap nc_Ro_swap 3 (some .boolean) :: rl_TT
abbrev nr_Ro_swap : Room := { frames := 9, cells := 0, slots := 0, locals := 155 }
abbrev nr_Ro_swapT : Room := { frames := 9, cells := 1, slots := 6, locals := 155 }
def nw_Ro_sign : List Cond := .code ny_Ro_sign nc_Ro_sign 2 (some .int) :: rl_TT
abbrev nr_Ro_sign : Room := { frames := 7, cells := 0, slots := 0, locals := 110 }
abbrev nr_Ro_signT : Room := { frames := 7, cells := 1, slots := 6, locals := 110 }
theorem nm_Ro_47 : Cond.methodLink nR_Ro 47 ny_Rl_addRoom ∈ rl_TT := rl_tin 546 (by decide +kernel) rfl
theorem nh_Rl_addRoom : Cond.code ny_Rl_addRoom nc_Rl_addRoom 1 (some .int) ∈ rl_TT := rl_tin 549 (by decide +kernel) rfl
theorem nm_im_Rl_addRoom : Cond.instanceMethod ny_Rl_addRoom ∈ rl_TT := rl_tin 547 (by decide +kernel) rfl
theorem nm_se_Rl_addRoom : Cond.selects nR_Rl ny_Rl_addRoom ny_Rl_addRoom ∈ rl_TT := rl_tin 548 (by decide +kernel) rfl
theorem nm_Ro_55 : Cond.methodLink nR_Ro 55 ny_Ro_needWithin ∈ rl_TT := rl_tin 562 (by decide +kernel) rfl
theorem nh_Ro_needWithin : Cond.code ny_Ro_needWithin nc_Ro_needWithin 3 none ∈ rl_TT := rl_tin 564 (by decide +kernel) rfl
theorem nm_st_Ro_needWithin : Cond.static ny_Ro_needWithin ∈ rl_TT := rl_tin 563 (by decide +kernel) rfl
theorem nm_Ro_51 : Cond.methodLink nR_Ro 51 ny_Ro_needRoom ∈ rl_TT := rl_tin 558 (by decide +kernel) rfl
theorem nh_Ro_needRoom : Cond.code ny_Ro_needRoom nc_Ro_needRoom 2 none ∈ rl_TT := rl_tin 561 (by decide +kernel) rfl
theorem nm_im_Ro_needRoom : Cond.instanceMethod ny_Ro_needRoom ∈ rl_TT := rl_tin 560 (by decide +kernel) rfl
theorem nm_se_Ro_needRoom : Cond.selects nR_Ro ny_Ro_needRoom ny_Ro_needRoom ∈ rl_TT := rl_tin 18 (by decide +kernel) rfl
theorem nm_Ro_68 : Cond.methodLink nR_Ro 68 ny_Rl_addSize ∈ rl_TT := rl_tin 582 (by decide +kernel) rfl
theorem nh_Rl_addSize : Cond.code ny_Rl_addSize nc_Rl_addSize 6 (some .int) ∈ rl_TT := rl_tin 585 (by decide +kernel) rfl
theorem nm_im_Rl_addSize : Cond.instanceMethod ny_Rl_addSize ∈ rl_TT := rl_tin 583 (by decide +kernel) rfl
theorem nm_se_Rl_addSize : Cond.selects nR_Rl ny_Rl_addSize ny_Rl_addSize ∈ rl_TT := rl_tin 584 (by decide +kernel) rfl
theorem nm_Ro_72 : Cond.methodLink nR_Ro 72 ny_Pl_setLot ∈ rl_TT := rl_tin 594 (by decide +kernel) rfl
theorem nh_Pl_setLot : Cond.code ny_Pl_setLot nc_Pl_setLot 3 none ∈ rl_TT := rl_tin 597 (by decide +kernel) rfl
theorem nm_im_Pl_setLot : Cond.instanceMethod ny_Pl_setLot ∈ rl_TT := rl_tin 595 (by decide +kernel) rfl
theorem nm_se_Pl_setLot : Cond.selects nR_Pl ny_Pl_setLot ny_Pl_setLot ∈ rl_TT := rl_tin 596 (by decide +kernel) rfl
theorem nm_Ro_100 : Cond.methodLink nR_Ro 100 ny_Pl_hasBest ∈ rl_TT := rl_tin 606 (by decide +kernel) rfl
theorem nm_Ro_110 : Cond.methodLink nR_Ro 110 ny_Pl_bestHeight ∈ rl_TT := rl_tin 608 (by decide +kernel) rfl
theorem nm_Ro_107 : Cond.methodLink nR_Ro 107 ny_Pl_bestWidth ∈ rl_TT := rl_tin 607 (by decide +kernel) rfl
theorem nm_Ro_116 : Cond.methodLink nR_Ro 116 ny_Pl_readPlace ∈ rl_TT := rl_tin 616 (by decide +kernel) rfl
theorem nh_Pl_readPlace : Cond.code ny_Pl_readPlace nc_Pl_readPlace 4 (some .int) ∈ rl_TT := rl_tin 619 (by decide +kernel) rfl
theorem nm_im_Pl_readPlace : Cond.instanceMethod ny_Pl_readPlace ∈ rl_TT := rl_tin 617 (by decide +kernel) rfl
theorem nm_se_Pl_readPlace : Cond.selects nR_Pl ny_Pl_readPlace ny_Pl_readPlace ∈ rl_TT := rl_tin 618 (by decide +kernel) rfl
theorem nf_Ro_123 : Cond.fieldLink nR_Ro 123 (nT_Pl 7).1 (nT_Pl 7).2.1 (nT_Pl 7).2.2.1 ∈ rl_TT := rl_tin 159 (by decide +kernel) rfl
theorem nm_Ro_120 : Cond.methodLink nR_Ro 120 ny_Ro_needNotBelowZero ∈ rl_TT := rl_tin 627 (by decide +kernel) rfl
theorem nh_Ro_needNotBelowZero : Cond.code ny_Ro_needNotBelowZero nc_Ro_needNotBelowZero 1 none ∈ rl_TT := rl_tin 629 (by decide +kernel) rfl
theorem nm_st_Ro_needNotBelowZero : Cond.static ny_Ro_needNotBelowZero ∈ rl_TT := rl_tin 628 (by decide +kernel) rfl
theorem nm_Ro_132 : Cond.methodLink nR_Ro 132 ny_Cu_heightAt ∈ rl_TT := rl_tin 632 (by decide +kernel) rfl
theorem nm_Ro_127 : Cond.methodLink nR_Ro 127 ny_Cu_widthAt ∈ rl_TT := rl_tin 631 (by decide +kernel) rfl
theorem nm_Ro_135 : Cond.methodLink nR_Ro 135 ny_Ro_needTwoRooms ∈ rl_TT := rl_tin 640 (by decide +kernel) rfl
theorem nh_Ro_needTwoRooms : Cond.code ny_Ro_needTwoRooms nc_Ro_needTwoRooms 3 none ∈ rl_TT := rl_tin 643 (by decide +kernel) rfl
theorem nm_im_Ro_needTwoRooms : Cond.instanceMethod ny_Ro_needTwoRooms ∈ rl_TT := rl_tin 642 (by decide +kernel) rfl
theorem nm_se_Ro_needTwoRooms : Cond.selects nR_Ro ny_Ro_needTwoRooms ny_Ro_needTwoRooms ∈ rl_TT := rl_tin 19 (by decide +kernel) rfl
theorem nm_Ro_138 : Cond.methodLink nR_Ro 138 ny_Pl_sharedWall ∈ rl_TT := rl_tin 645 (by decide +kernel) rfl
theorem nm_Ro_144 : Cond.methodLink nR_Ro 144 ny_Wl_add ∈ rl_TT := rl_tin 654 (by decide +kernel) rfl
theorem nh_Wl_add : Cond.code ny_Wl_add nc_Wl_add 4 (some .int) ∈ rl_TT := rl_tin 657 (by decide +kernel) rfl
theorem nm_im_Wl_add : Cond.instanceMethod ny_Wl_add ∈ rl_TT := rl_tin 655 (by decide +kernel) rfl
theorem nm_se_Wl_add : Cond.selects nR_Wl ny_Wl_add ny_Wl_add ∈ rl_TT := rl_tin 656 (by decide +kernel) rfl
theorem nm_Ro_147 : Cond.methodLink nR_Ro 147 ny_Wl_isMetIn ∈ rl_TT := rl_tin 665 (by decide +kernel) rfl
theorem nm_Ro_162 : Cond.methodLink nR_Ro 162 ny_St_signAt ∈ rl_TT := rl_tin 680 (by decide +kernel) rfl
theorem nd_Ro_room_0 : decode nc_Ro_room 0 = .ok (.aload_n 0, 1) := by decide +kernel
theorem nd_Ro_room_1 : decode nc_Ro_room 1 = .ok (.getfield 19, 3) := by decide +kernel
theorem nd_Ro_room_4 : decode nc_Ro_room 4 = .ok (.getfield 30, 3) := by decide +kernel
theorem nd_Ro_room_7 : decode nc_Ro_room 7 = .ok (.getfield 34, 3) := by decide +kernel
theorem nd_Ro_room_10 : decode nc_Ro_room 10 = .ok (.bipush 6, 2) := by decide +kernel
theorem nd_Ro_room_12 : decode nc_Ro_room 12 = .ok (.if_icmp .lt 13, 3) := by decide +kernel
theorem nd_Ro_room_15 : decode nc_Ro_room 15 = .ok (.new 40, 3) := by decide +kernel
theorem nd_Ro_room_18 : decode nc_Ro_room 18 = .ok (.dup, 1) := by decide +kernel
theorem nd_Ro_room_19 : decode nc_Ro_room 19 = .ok (.ldc 42, 2) := by decide +kernel
theorem nd_Ro_room_21 : decode nc_Ro_room 21 = .ok (.invokespecial 44, 3) := by decide +kernel
theorem nd_Ro_room_24 : decode nc_Ro_room 24 = .ok (.athrow, 1) := by decide +kernel
theorem nd_Ro_room_25 : decode nc_Ro_room 25 = .ok (.aload_n 0, 1) := by decide +kernel
theorem nd_Ro_room_26 : decode nc_Ro_room 26 = .ok (.getfield 19, 3) := by decide +kernel
theorem nd_Ro_room_29 : decode nc_Ro_room 29 = .ok (.getfield 30, 3) := by decide +kernel
theorem nd_Ro_room_32 : decode nc_Ro_room 32 = .ok (.invokevirtual 47, 3) := by decide +kernel
theorem nd_Ro_room_35 : decode nc_Ro_room 35 = .ok (.ireturn, 1) := by decide +kernel
theorem nd_Ro_needWithin_0 : decode nc_Ro_needWithin 0 = .ok (.iload_n 0, 1) := by decide +kernel
theorem nd_Ro_needWithin_1 : decode nc_Ro_needWithin 1 = .ok (.iload_n 1, 1) := by decide +kernel
theorem nd_Ro_needWithin_2 : decode nc_Ro_needWithin 2 = .ok (.if_icmp .lt 8, 3) := by decide +kernel
theorem nd_Ro_needWithin_5 : decode nc_Ro_needWithin 5 = .ok (.iload_n 0, 1) := by decide +kernel
theorem nd_Ro_needWithin_6 : decode nc_Ro_needWithin 6 = .ok (.iload_n 2, 1) := by decide +kernel
theorem nd_Ro_needWithin_7 : decode nc_Ro_needWithin 7 = .ok (.if_icmp .le 13, 3) := by decide +kernel
theorem nd_Ro_needWithin_10 : decode nc_Ro_needWithin 10 = .ok (.new 171, 3) := by decide +kernel
theorem nd_Ro_needWithin_13 : decode nc_Ro_needWithin 13 = .ok (.dup, 1) := by decide +kernel
theorem nd_Ro_needWithin_14 : decode nc_Ro_needWithin 14 = .ok (.ldc 176, 2) := by decide +kernel
theorem nd_Ro_needWithin_16 : decode nc_Ro_needWithin 16 = .ok (.invokespecial 175, 3) := by decide +kernel
theorem nd_Ro_needWithin_19 : decode nc_Ro_needWithin 19 = .ok (.athrow, 1) := by decide +kernel
theorem nd_Ro_needWithin_20 : decode nc_Ro_needWithin 20 = .ok (.return_, 1) := by decide +kernel
theorem nd_Ro_needRoom_0 : decode nc_Ro_needRoom 0 = .ok (.iload_n 1, 1) := by decide +kernel
theorem nd_Ro_needRoom_1 : decode nc_Ro_needRoom 1 = .ok (.iconst 0, 1) := by decide +kernel
theorem nd_Ro_needRoom_2 : decode nc_Ro_needRoom 2 = .ok (.aload_n 0, 1) := by decide +kernel
theorem nd_Ro_needRoom_3 : decode nc_Ro_needRoom 3 = .ok (.getfield 19, 3) := by decide +kernel
theorem nd_Ro_needRoom_6 : decode nc_Ro_needRoom 6 = .ok (.getfield 30, 3) := by decide +kernel
theorem nd_Ro_needRoom_9 : decode nc_Ro_needRoom 9 = .ok (.getfield 34, 3) := by decide +kernel
theorem nd_Ro_needRoom_12 : decode nc_Ro_needRoom 12 = .ok (.iconst 1, 1) := by decide +kernel
theorem nd_Ro_needRoom_13 : decode nc_Ro_needRoom 13 = .ok (.isub, 1) := by decide +kernel
theorem nd_Ro_needRoom_14 : decode nc_Ro_needRoom 14 = .ok (.invokestatic 55, 3) := by decide +kernel
theorem nd_Ro_needRoom_17 : decode nc_Ro_needRoom 17 = .ok (.return_, 1) := by decide +kernel
theorem nd_Ro_size_0 : decode nc_Ro_size 0 = .ok (.aload_n 0, 1) := by decide +kernel
theorem nd_Ro_size_1 : decode nc_Ro_size 1 = .ok (.iload_n 1, 1) := by decide +kernel
theorem nd_Ro_size_2 : decode nc_Ro_size 2 = .ok (.invokevirtual 51, 3) := by decide +kernel
theorem nd_Ro_size_5 : decode nc_Ro_size 5 = .ok (.iload_n 2, 1) := by decide +kernel
theorem nd_Ro_size_6 : decode nc_Ro_size 6 = .ok (.iconst 1, 1) := by decide +kernel
theorem nd_Ro_size_7 : decode nc_Ro_size 7 = .ok (.bipush 60, 2) := by decide +kernel
theorem nd_Ro_size_9 : decode nc_Ro_size 9 = .ok (.invokestatic 55, 3) := by decide +kernel
theorem nd_Ro_size_12 : decode nc_Ro_size 12 = .ok (.iload_n 3, 1) := by decide +kernel
theorem nd_Ro_size_13 : decode nc_Ro_size 13 = .ok (.iconst 1, 1) := by decide +kernel
theorem nd_Ro_size_14 : decode nc_Ro_size 14 = .ok (.bipush 60, 2) := by decide +kernel
theorem nd_Ro_size_16 : decode nc_Ro_size 16 = .ok (.invokestatic 55, 3) := by decide +kernel
theorem nd_Ro_size_19 : decode nc_Ro_size 19 = .ok (.aload_n 0, 1) := by decide +kernel
theorem nd_Ro_size_20 : decode nc_Ro_size 20 = .ok (.getfield 19, 3) := by decide +kernel
theorem nd_Ro_size_23 : decode nc_Ro_size 23 = .ok (.getfield 30, 3) := by decide +kernel
theorem nd_Ro_size_26 : decode nc_Ro_size 26 = .ok (.iload_n 1, 1) := by decide +kernel
theorem nd_Ro_size_27 : decode nc_Ro_size 27 = .ok (.invokevirtual 59, 3) := by decide +kernel
theorem nd_Ro_size_30 : decode nc_Ro_size 30 = .ok (.iconst 4, 1) := by decide +kernel
theorem nd_Ro_size_31 : decode nc_Ro_size 31 = .ok (.if_icmp .lt 13, 3) := by decide +kernel
theorem nd_Ro_size_34 : decode nc_Ro_size 34 = .ok (.new 40, 3) := by decide +kernel
theorem nd_Ro_size_37 : decode nc_Ro_size 37 = .ok (.dup, 1) := by decide +kernel
theorem nd_Ro_size_38 : decode nc_Ro_size 38 = .ok (.ldc 63, 2) := by decide +kernel
theorem nd_Ro_size_40 : decode nc_Ro_size 40 = .ok (.invokespecial 44, 3) := by decide +kernel
theorem nd_Ro_size_43 : decode nc_Ro_size 43 = .ok (.athrow, 1) := by decide +kernel
theorem nd_Ro_size_44 : decode nc_Ro_size 44 = .ok (.aload_n 0, 1) := by decide +kernel
theorem nd_Ro_size_45 : decode nc_Ro_size 45 = .ok (.getfield 19, 3) := by decide +kernel
theorem nd_Ro_size_48 : decode nc_Ro_size 48 = .ok (.invokevirtual 65, 3) := by decide +kernel
theorem nd_Ro_size_51 : decode nc_Ro_size 51 = .ok (.aload_n 0, 1) := by decide +kernel
theorem nd_Ro_size_52 : decode nc_Ro_size 52 = .ok (.getfield 19, 3) := by decide +kernel
theorem nd_Ro_size_55 : decode nc_Ro_size 55 = .ok (.getfield 30, 3) := by decide +kernel
theorem nd_Ro_size_58 : decode nc_Ro_size 58 = .ok (.iload_n 1, 1) := by decide +kernel
theorem nd_Ro_size_59 : decode nc_Ro_size 59 = .ok (.iload_n 2, 1) := by decide +kernel
theorem nd_Ro_size_60 : decode nc_Ro_size 60 = .ok (.iload_n 3, 1) := by decide +kernel
theorem nd_Ro_size_61 : decode nc_Ro_size 61 = .ok (.invokevirtual 68, 3) := by decide +kernel
theorem nd_Ro_size_64 : decode nc_Ro_size 64 = .ok (.ireturn, 1) := by decide +kernel
theorem nd_Ro_lot_0 : decode nc_Ro_lot 0 = .ok (.iload_n 1, 1) := by decide +kernel
theorem nd_Ro_lot_1 : decode nc_Ro_lot 1 = .ok (.iconst 1, 1) := by decide +kernel
theorem nd_Ro_lot_2 : decode nc_Ro_lot 2 = .ok (.sipush 400, 3) := by decide +kernel
theorem nd_Ro_lot_5 : decode nc_Ro_lot 5 = .ok (.invokestatic 55, 3) := by decide +kernel
theorem nd_Ro_lot_8 : decode nc_Ro_lot 8 = .ok (.iload_n 2, 1) := by decide +kernel
theorem nd_Ro_lot_9 : decode nc_Ro_lot 9 = .ok (.iconst 1, 1) := by decide +kernel
theorem nd_Ro_lot_10 : decode nc_Ro_lot 10 = .ok (.sipush 400, 3) := by decide +kernel
theorem nd_Ro_lot_13 : decode nc_Ro_lot 13 = .ok (.invokestatic 55, 3) := by decide +kernel
theorem nd_Ro_lot_16 : decode nc_Ro_lot 16 = .ok (.aload_n 0, 1) := by decide +kernel
theorem nd_Ro_lot_17 : decode nc_Ro_lot 17 = .ok (.getfield 19, 3) := by decide +kernel
theorem nd_Ro_lot_20 : decode nc_Ro_lot 20 = .ok (.iload_n 1, 1) := by decide +kernel
theorem nd_Ro_lot_21 : decode nc_Ro_lot 21 = .ok (.iload_n 2, 1) := by decide +kernel
theorem nd_Ro_lot_22 : decode nc_Ro_lot 22 = .ok (.invokevirtual 72, 3) := by decide +kernel
theorem nd_Ro_lot_25 : decode nc_Ro_lot 25 = .ok (.return_, 1) := by decide +kernel
theorem nd_Ro_best_0 : decode nc_Ro_best 0 = .ok (.iload_n 1, 1) := by decide +kernel
theorem nd_Ro_best_1 : decode nc_Ro_best 1 = .ok (.iconst 0, 1) := by decide +kernel
theorem nd_Ro_best_2 : decode nc_Ro_best 2 = .ok (.iconst 2, 1) := by decide +kernel
theorem nd_Ro_best_3 : decode nc_Ro_best 3 = .ok (.invokestatic 55, 3) := by decide +kernel
theorem nd_Ro_best_6 : decode nc_Ro_best 6 = .ok (.aload_n 0, 1) := by decide +kernel
theorem nd_Ro_best_7 : decode nc_Ro_best 7 = .ok (.getfield 19, 3) := by decide +kernel
theorem nd_Ro_best_10 : decode nc_Ro_best 10 = .ok (.invokevirtual 97, 3) := by decide +kernel
theorem nd_Ro_best_13 : decode nc_Ro_best 13 = .ok (.aload_n 0, 1) := by decide +kernel
theorem nd_Ro_best_14 : decode nc_Ro_best 14 = .ok (.getfield 19, 3) := by decide +kernel
theorem nd_Ro_best_17 : decode nc_Ro_best 17 = .ok (.invokevirtual 100, 3) := by decide +kernel
theorem nd_Ro_best_20 : decode nc_Ro_best 20 = .ok (.ifCond .ne 5, 3) := by decide +kernel
theorem nd_Ro_best_23 : decode nc_Ro_best 23 = .ok (.iconst (-1), 1) := by decide +kernel
theorem nd_Ro_best_24 : decode nc_Ro_best 24 = .ok (.ireturn, 1) := by decide +kernel
theorem nd_Ro_best_25 : decode nc_Ro_best 25 = .ok (.iload_n 1, 1) := by decide +kernel
theorem nd_Ro_best_26 : decode nc_Ro_best 26 = .ok (.ifCond .ne 11, 3) := by decide +kernel
theorem nd_Ro_best_29 : decode nc_Ro_best 29 = .ok (.aload_n 0, 1) := by decide +kernel
theorem nd_Ro_best_30 : decode nc_Ro_best 30 = .ok (.getfield 19, 3) := by decide +kernel
theorem nd_Ro_best_33 : decode nc_Ro_best 33 = .ok (.invokevirtual 104, 3) := by decide +kernel
theorem nd_Ro_best_36 : decode nc_Ro_best 36 = .ok (.ireturn, 1) := by decide +kernel
theorem nd_Ro_best_37 : decode nc_Ro_best 37 = .ok (.iload_n 1, 1) := by decide +kernel
theorem nd_Ro_best_38 : decode nc_Ro_best 38 = .ok (.iconst 1, 1) := by decide +kernel
theorem nd_Ro_best_39 : decode nc_Ro_best 39 = .ok (.if_icmp .ne 13, 3) := by decide +kernel
theorem nd_Ro_best_42 : decode nc_Ro_best 42 = .ok (.aload_n 0, 1) := by decide +kernel
theorem nd_Ro_best_43 : decode nc_Ro_best 43 = .ok (.getfield 19, 3) := by decide +kernel
theorem nd_Ro_best_46 : decode nc_Ro_best 46 = .ok (.invokevirtual 107, 3) := by decide +kernel
theorem nd_Ro_best_49 : decode nc_Ro_best 49 = .ok (.goto 10, 3) := by decide +kernel
theorem nd_Ro_best_52 : decode nc_Ro_best 52 = .ok (.aload_n 0, 1) := by decide +kernel
theorem nd_Ro_best_53 : decode nc_Ro_best 53 = .ok (.getfield 19, 3) := by decide +kernel
theorem nd_Ro_best_56 : decode nc_Ro_best 56 = .ok (.invokevirtual 110, 3) := by decide +kernel
theorem nd_Ro_best_59 : decode nc_Ro_best 59 = .ok (.ireturn, 1) := by decide +kernel
theorem nd_Ro_place_0 : decode nc_Ro_place 0 = .ok (.aload_n 0, 1) := by decide +kernel
theorem nd_Ro_place_1 : decode nc_Ro_place 1 = .ok (.iload_n 1, 1) := by decide +kernel
theorem nd_Ro_place_2 : decode nc_Ro_place 2 = .ok (.invokevirtual 51, 3) := by decide +kernel
theorem nd_Ro_place_5 : decode nc_Ro_place 5 = .ok (.iload_n 2, 1) := by decide +kernel
theorem nd_Ro_place_6 : decode nc_Ro_place 6 = .ok (.iconst 0, 1) := by decide +kernel
theorem nd_Ro_place_7 : decode nc_Ro_place 7 = .ok (.iconst 4, 1) := by decide +kernel
theorem nd_Ro_place_8 : decode nc_Ro_place 8 = .ok (.invokestatic 55, 3) := by decide +kernel
theorem nd_Ro_place_11 : decode nc_Ro_place 11 = .ok (.aload_n 0, 1) := by decide +kernel
theorem nd_Ro_place_12 : decode nc_Ro_place 12 = .ok (.getfield 19, 3) := by decide +kernel
theorem nd_Ro_place_15 : decode nc_Ro_place 15 = .ok (.invokevirtual 113, 3) := by decide +kernel
theorem nd_Ro_place_18 : decode nc_Ro_place 18 = .ok (.aload_n 0, 1) := by decide +kernel
theorem nd_Ro_place_19 : decode nc_Ro_place 19 = .ok (.getfield 19, 3) := by decide +kernel
theorem nd_Ro_place_22 : decode nc_Ro_place 22 = .ok (.iload_n 1, 1) := by decide +kernel
theorem nd_Ro_place_23 : decode nc_Ro_place 23 = .ok (.iload_n 2, 1) := by decide +kernel
theorem nd_Ro_place_24 : decode nc_Ro_place 24 = .ok (.invokevirtual 116, 3) := by decide +kernel
theorem nd_Ro_place_27 : decode nc_Ro_place 27 = .ok (.ireturn, 1) := by decide +kernel
theorem nd_Ro_needNotBelowZero_0 : decode nc_Ro_needNotBelowZero 0 = .ok (.iload_n 0, 1) := by decide +kernel
theorem nd_Ro_needNotBelowZero_1 : decode nc_Ro_needNotBelowZero 1 = .ok (.ifCond .ge 13, 3) := by decide +kernel
theorem nd_Ro_needNotBelowZero_4 : decode nc_Ro_needNotBelowZero 4 = .ok (.new 171, 3) := by decide +kernel
theorem nd_Ro_needNotBelowZero_7 : decode nc_Ro_needNotBelowZero 7 = .ok (.dup, 1) := by decide +kernel
theorem nd_Ro_needNotBelowZero_8 : decode nc_Ro_needNotBelowZero 8 = .ok (.ldc 178, 2) := by decide +kernel
theorem nd_Ro_needNotBelowZero_10 : decode nc_Ro_needNotBelowZero 10 = .ok (.invokespecial 175, 3) := by decide +kernel
theorem nd_Ro_needNotBelowZero_13 : decode nc_Ro_needNotBelowZero 13 = .ok (.athrow, 1) := by decide +kernel
theorem nd_Ro_needNotBelowZero_14 : decode nc_Ro_needNotBelowZero 14 = .ok (.return_, 1) := by decide +kernel
theorem nd_Ro_outline_0 : decode nc_Ro_outline 0 = .ok (.iload_n 1, 1) := by decide +kernel
theorem nd_Ro_outline_1 : decode nc_Ro_outline 1 = .ok (.invokestatic 120, 3) := by decide +kernel
theorem nd_Ro_outline_4 : decode nc_Ro_outline 4 = .ok (.iload_n 2, 1) := by decide +kernel
theorem nd_Ro_outline_5 : decode nc_Ro_outline 5 = .ok (.iconst 0, 1) := by decide +kernel
theorem nd_Ro_outline_6 : decode nc_Ro_outline 6 = .ok (.iconst 1, 1) := by decide +kernel
theorem nd_Ro_outline_7 : decode nc_Ro_outline 7 = .ok (.invokestatic 55, 3) := by decide +kernel
theorem nd_Ro_outline_10 : decode nc_Ro_outline 10 = .ok (.aload_n 0, 1) := by decide +kernel
theorem nd_Ro_outline_11 : decode nc_Ro_outline 11 = .ok (.getfield 19, 3) := by decide +kernel
theorem nd_Ro_outline_14 : decode nc_Ro_outline 14 = .ok (.invokevirtual 97, 3) := by decide +kernel
theorem nd_Ro_outline_17 : decode nc_Ro_outline 17 = .ok (.iload_n 2, 1) := by decide +kernel
theorem nd_Ro_outline_18 : decode nc_Ro_outline 18 = .ok (.ifCond .ne 17, 3) := by decide +kernel
theorem nd_Ro_outline_21 : decode nc_Ro_outline 21 = .ok (.aload_n 0, 1) := by decide +kernel
theorem nd_Ro_outline_22 : decode nc_Ro_outline 22 = .ok (.getfield 19, 3) := by decide +kernel
theorem nd_Ro_outline_25 : decode nc_Ro_outline 25 = .ok (.getfield 123, 3) := by decide +kernel
theorem nd_Ro_outline_28 : decode nc_Ro_outline 28 = .ok (.iload_n 1, 1) := by decide +kernel
theorem nd_Ro_outline_29 : decode nc_Ro_outline 29 = .ok (.invokevirtual 127, 3) := by decide +kernel
theorem nd_Ro_outline_32 : decode nc_Ro_outline 32 = .ok (.goto 14, 3) := by decide +kernel
theorem nd_Ro_outline_35 : decode nc_Ro_outline 35 = .ok (.aload_n 0, 1) := by decide +kernel
theorem nd_Ro_outline_36 : decode nc_Ro_outline 36 = .ok (.getfield 19, 3) := by decide +kernel
theorem nd_Ro_outline_39 : decode nc_Ro_outline 39 = .ok (.getfield 123, 3) := by decide +kernel
theorem nd_Ro_outline_42 : decode nc_Ro_outline 42 = .ok (.iload_n 1, 1) := by decide +kernel
theorem nd_Ro_outline_43 : decode nc_Ro_outline 43 = .ok (.invokevirtual 132, 3) := by decide +kernel
theorem nd_Ro_outline_46 : decode nc_Ro_outline 46 = .ok (.ireturn, 1) := by decide +kernel
theorem nd_Ro_needTwoRooms_0 : decode nc_Ro_needTwoRooms 0 = .ok (.aload_n 0, 1) := by decide +kernel
theorem nd_Ro_needTwoRooms_1 : decode nc_Ro_needTwoRooms 1 = .ok (.iload_n 1, 1) := by decide +kernel
theorem nd_Ro_needTwoRooms_2 : decode nc_Ro_needTwoRooms 2 = .ok (.invokevirtual 51, 3) := by decide +kernel
theorem nd_Ro_needTwoRooms_5 : decode nc_Ro_needTwoRooms 5 = .ok (.aload_n 0, 1) := by decide +kernel
theorem nd_Ro_needTwoRooms_6 : decode nc_Ro_needTwoRooms 6 = .ok (.iload_n 2, 1) := by decide +kernel
theorem nd_Ro_needTwoRooms_7 : decode nc_Ro_needTwoRooms 7 = .ok (.invokevirtual 51, 3) := by decide +kernel
theorem nd_Ro_needTwoRooms_10 : decode nc_Ro_needTwoRooms 10 = .ok (.iload_n 1, 1) := by decide +kernel
theorem nd_Ro_needTwoRooms_11 : decode nc_Ro_needTwoRooms 11 = .ok (.iload_n 2, 1) := by decide +kernel
theorem nd_Ro_needTwoRooms_12 : decode nc_Ro_needTwoRooms 12 = .ok (.if_icmp .ne 13, 3) := by decide +kernel
theorem nd_Ro_needTwoRooms_15 : decode nc_Ro_needTwoRooms 15 = .ok (.new 171, 3) := by decide +kernel
theorem nd_Ro_needTwoRooms_18 : decode nc_Ro_needTwoRooms 18 = .ok (.dup, 1) := by decide +kernel
theorem nd_Ro_needTwoRooms_19 : decode nc_Ro_needTwoRooms 19 = .ok (.ldc 173, 2) := by decide +kernel
theorem nd_Ro_needTwoRooms_21 : decode nc_Ro_needTwoRooms 21 = .ok (.invokespecial 175, 3) := by decide +kernel
theorem nd_Ro_needTwoRooms_24 : decode nc_Ro_needTwoRooms 24 = .ok (.athrow, 1) := by decide +kernel
theorem nd_Ro_needTwoRooms_25 : decode nc_Ro_needTwoRooms 25 = .ok (.return_, 1) := by decide +kernel
theorem nd_Ro_wall_0 : decode nc_Ro_wall 0 = .ok (.aload_n 0, 1) := by decide +kernel
theorem nd_Ro_wall_1 : decode nc_Ro_wall 1 = .ok (.iload_n 1, 1) := by decide +kernel
theorem nd_Ro_wall_2 : decode nc_Ro_wall 2 = .ok (.iload_n 2, 1) := by decide +kernel
theorem nd_Ro_wall_3 : decode nc_Ro_wall 3 = .ok (.invokevirtual 135, 3) := by decide +kernel
theorem nd_Ro_wall_6 : decode nc_Ro_wall 6 = .ok (.aload_n 0, 1) := by decide +kernel
theorem nd_Ro_wall_7 : decode nc_Ro_wall 7 = .ok (.getfield 19, 3) := by decide +kernel
theorem nd_Ro_wall_10 : decode nc_Ro_wall 10 = .ok (.invokevirtual 113, 3) := by decide +kernel
theorem nd_Ro_wall_13 : decode nc_Ro_wall 13 = .ok (.aload_n 0, 1) := by decide +kernel
theorem nd_Ro_wall_14 : decode nc_Ro_wall 14 = .ok (.getfield 19, 3) := by decide +kernel
theorem nd_Ro_wall_17 : decode nc_Ro_wall 17 = .ok (.iload_n 1, 1) := by decide +kernel
theorem nd_Ro_wall_18 : decode nc_Ro_wall 18 = .ok (.iload_n 2, 1) := by decide +kernel
theorem nd_Ro_wall_19 : decode nc_Ro_wall 19 = .ok (.invokevirtual 138, 3) := by decide +kernel
theorem nd_Ro_wall_22 : decode nc_Ro_wall 22 = .ok (.ireturn, 1) := by decide +kernel
theorem nd_Ro_wish_0 : decode nc_Ro_wish 0 = .ok (.aload_n 0, 1) := by decide +kernel
theorem nd_Ro_wish_1 : decode nc_Ro_wish 1 = .ok (.iload_n 1, 1) := by decide +kernel
theorem nd_Ro_wish_2 : decode nc_Ro_wish 2 = .ok (.iload_n 2, 1) := by decide +kernel
theorem nd_Ro_wish_3 : decode nc_Ro_wish 3 = .ok (.invokevirtual 135, 3) := by decide +kernel
theorem nd_Ro_wish_6 : decode nc_Ro_wish 6 = .ok (.iload_n 3, 1) := by decide +kernel
theorem nd_Ro_wish_7 : decode nc_Ro_wish 7 = .ok (.iconst 1, 1) := by decide +kernel
theorem nd_Ro_wish_8 : decode nc_Ro_wish 8 = .ok (.bipush 60, 2) := by decide +kernel
theorem nd_Ro_wish_10 : decode nc_Ro_wish 10 = .ok (.invokestatic 55, 3) := by decide +kernel
theorem nd_Ro_wish_13 : decode nc_Ro_wish 13 = .ok (.aload_n 0, 1) := by decide +kernel
theorem nd_Ro_wish_14 : decode nc_Ro_wish 14 = .ok (.getfield 26, 3) := by decide +kernel
theorem nd_Ro_wish_17 : decode nc_Ro_wish 17 = .ok (.getfield 141, 3) := by decide +kernel
theorem nd_Ro_wish_20 : decode nc_Ro_wish 20 = .ok (.bipush 10, 2) := by decide +kernel
theorem nd_Ro_wish_22 : decode nc_Ro_wish 22 = .ok (.if_icmp .lt 13, 3) := by decide +kernel
theorem nd_Ro_wish_25 : decode nc_Ro_wish 25 = .ok (.new 40, 3) := by decide +kernel
theorem nd_Ro_wish_28 : decode nc_Ro_wish 28 = .ok (.dup, 1) := by decide +kernel
theorem nd_Ro_wish_29 : decode nc_Ro_wish 29 = .ok (.ldc 142, 2) := by decide +kernel
theorem nd_Ro_wish_31 : decode nc_Ro_wish 31 = .ok (.invokespecial 44, 3) := by decide +kernel
theorem nd_Ro_wish_34 : decode nc_Ro_wish 34 = .ok (.athrow, 1) := by decide +kernel
theorem nd_Ro_wish_35 : decode nc_Ro_wish 35 = .ok (.aload_n 0, 1) := by decide +kernel
theorem nd_Ro_wish_36 : decode nc_Ro_wish 36 = .ok (.getfield 26, 3) := by decide +kernel
theorem nd_Ro_wish_39 : decode nc_Ro_wish 39 = .ok (.iload_n 1, 1) := by decide +kernel
theorem nd_Ro_wish_40 : decode nc_Ro_wish 40 = .ok (.iload_n 2, 1) := by decide +kernel
theorem nd_Ro_wish_41 : decode nc_Ro_wish 41 = .ok (.iload_n 3, 1) := by decide +kernel
theorem nd_Ro_wish_42 : decode nc_Ro_wish 42 = .ok (.invokevirtual 144, 3) := by decide +kernel
theorem nd_Ro_wish_45 : decode nc_Ro_wish 45 = .ok (.ireturn, 1) := by decide +kernel
theorem nd_Ro_met0_0 : decode nc_Ro_met0 0 = .ok (.iload_n 1, 1) := by decide +kernel
theorem nd_Ro_met0_1 : decode nc_Ro_met0 1 = .ok (.iconst 0, 1) := by decide +kernel
theorem nd_Ro_met0_2 : decode nc_Ro_met0 2 = .ok (.aload_n 0, 1) := by decide +kernel
theorem nd_Ro_met0_3 : decode nc_Ro_met0 3 = .ok (.getfield 26, 3) := by decide +kernel
theorem nd_Ro_met0_6 : decode nc_Ro_met0 6 = .ok (.getfield 141, 3) := by decide +kernel
theorem nd_Ro_met0_9 : decode nc_Ro_met0 9 = .ok (.iconst 1, 1) := by decide +kernel
theorem nd_Ro_met0_10 : decode nc_Ro_met0 10 = .ok (.isub, 1) := by decide +kernel
theorem nd_Ro_met0_11 : decode nc_Ro_met0 11 = .ok (.invokestatic 55, 3) := by decide +kernel
theorem nd_Ro_met0_14 : decode nc_Ro_met0 14 = .ok (.aload_n 0, 1) := by decide +kernel
theorem nd_Ro_met0_15 : decode nc_Ro_met0 15 = .ok (.getfield 19, 3) := by decide +kernel
theorem nd_Ro_met0_18 : decode nc_Ro_met0 18 = .ok (.invokevirtual 113, 3) := by decide +kernel
theorem nd_Ro_met0_21 : decode nc_Ro_met0 21 = .ok (.aload_n 0, 1) := by decide +kernel
theorem nd_Ro_met0_22 : decode nc_Ro_met0 22 = .ok (.getfield 26, 3) := by decide +kernel
theorem nd_Ro_met0_25 : decode nc_Ro_met0 25 = .ok (.aload_n 0, 1) := by decide +kernel
theorem nd_Ro_met0_26 : decode nc_Ro_met0 26 = .ok (.getfield 19, 3) := by decide +kernel
theorem nd_Ro_met0_29 : decode nc_Ro_met0 29 = .ok (.iload_n 1, 1) := by decide +kernel
theorem nd_Ro_met0_30 : decode nc_Ro_met0 30 = .ok (.invokevirtual 147, 3) := by decide +kernel
theorem nd_Ro_met0_33 : decode nc_Ro_met0 33 = .ok (.ireturn, 1) := by decide +kernel
theorem nd_Ro_swap_0 : decode nc_Ro_swap 0 = .ok (.aload_n 0, 1) := by decide +kernel
theorem nd_Ro_swap_1 : decode nc_Ro_swap 1 = .ok (.iload_n 1, 1) := by decide +kernel
theorem nd_Ro_swap_2 : decode nc_Ro_swap 2 = .ok (.iload_n 2, 1) := by decide +kernel
theorem nd_Ro_swap_3 : decode nc_Ro_swap 3 = .ok (.invokevirtual 135, 3) := by decide +kernel
theorem nd_Ro_swap_6 : decode nc_Ro_swap 6 = .ok (.aload_n 0, 1) := by decide +kernel
theorem nd_Ro_swap_7 : decode nc_Ro_swap 7 = .ok (.iload_n 1, 1) := by decide +kernel
theorem nd_Ro_swap_8 : decode nc_Ro_swap 8 = .ok (.iload_n 2, 1) := by decide +kernel
theorem nd_Ro_swap_9 : decode nc_Ro_swap 9 = .ok (.invokevirtual 155, 3) := by decide +kernel
theorem nd_Ro_swap_12 : decode nc_Ro_swap 12 = .ok (.ifCond .ne 5, 3) := by decide +kernel
theorem nd_Ro_swap_15 : decode nc_Ro_swap 15 = .ok (.iconst 0, 1) := by decide +kernel
theorem nd_Ro_swap_16 : decode nc_Ro_swap 16 = .ok (.ireturn, 1) := by decide +kernel
theorem nd_Ro_swap_17 : decode nc_Ro_swap 17 = .ok (.aload_n 0, 1) := by decide +kernel
theorem nd_Ro_swap_18 : decode nc_Ro_swap 18 = .ok (.iload_n 1, 1) := by decide +kernel
theorem nd_Ro_swap_19 : decode nc_Ro_swap 19 = .ok (.iload_n 2, 1) := by decide +kernel
theorem nd_Ro_swap_20 : decode nc_Ro_swap 20 = .ok (.invokevirtual 159, 3) := by decide +kernel
theorem nd_Ro_swap_23 : decode nc_Ro_swap 23 = .ok (.iconst 1, 1) := by decide +kernel
theorem nd_Ro_swap_24 : decode nc_Ro_swap 24 = .ok (.ireturn, 1) := by decide +kernel
theorem nd_Ro_sign_0 : decode nc_Ro_sign 0 = .ok (.iload_n 1, 1) := by decide +kernel
theorem nd_Ro_sign_1 : decode nc_Ro_sign 1 = .ok (.invokestatic 120, 3) := by decide +kernel
theorem nd_Ro_sign_4 : decode nc_Ro_sign 4 = .ok (.aload_n 0, 1) := by decide +kernel
theorem nd_Ro_sign_5 : decode nc_Ro_sign 5 = .ok (.getfield 19, 3) := by decide +kernel
theorem nd_Ro_sign_8 : decode nc_Ro_sign 8 = .ok (.getfield 87, 3) := by decide +kernel
theorem nd_Ro_sign_11 : decode nc_Ro_sign 11 = .ok (.iload_n 1, 1) := by decide +kernel
theorem nd_Ro_sign_12 : decode nc_Ro_sign 12 = .ok (.invokevirtual 162, 3) := by decide +kernel
theorem nd_Ro_sign_15 : decode nc_Ro_sign 15 = .ok (.ireturn, 1) := by decide +kernel
