theorem nd_Cu_widthAt_0 : decode nc_Cu_widthAt 0 = .ok (.iload_n 1, 1) := by decide +kernel
theorem nd_Cu_widthAt_1 : decode nc_Cu_widthAt 1 = .ok (.ifCond .lt 20, 3) := by decide +kernel
theorem nd_Cu_widthAt_4 : decode nc_Cu_widthAt 4 = .ok (.iload_n 1, 1) := by decide +kernel
theorem nd_Cu_widthAt_5 : decode nc_Cu_widthAt 5 = .ok (.aload_n 0, 1) := by decide +kernel
theorem nd_Cu_widthAt_6 : decode nc_Cu_widthAt 6 = .ok (.getfield 9, 3) := by decide +kernel
theorem nd_Cu_widthAt_9 : decode nc_Cu_widthAt 9 = .ok (.if_icmp .ge 12, 3) := by decide +kernel
theorem nd_Cu_widthAt_12 : decode nc_Cu_widthAt 12 = .ok (.aload_n 0, 1) := by decide +kernel
theorem nd_Cu_widthAt_13 : decode nc_Cu_widthAt 13 = .ok (.getfield 15, 3) := by decide +kernel
theorem nd_Cu_widthAt_16 : decode nc_Cu_widthAt 16 = .ok (.iload_n 1, 1) := by decide +kernel
theorem nd_Cu_widthAt_17 : decode nc_Cu_widthAt 17 = .ok (.iaload, 1) := by decide +kernel
theorem nd_Cu_widthAt_18 : decode nc_Cu_widthAt 18 = .ok (.goto 4, 3) := by decide +kernel
theorem nd_Cu_widthAt_21 : decode nc_Cu_widthAt 21 = .ok (.iconst (-1), 1) := by decide +kernel
theorem nd_Cu_widthAt_22 : decode nc_Cu_widthAt 22 = .ok (.ireturn, 1) := by decide +kernel
theorem nd_Cu_heightAt_0 : decode nc_Cu_heightAt 0 = .ok (.iload_n 1, 1) := by decide +kernel
theorem nd_Cu_heightAt_1 : decode nc_Cu_heightAt 1 = .ok (.ifCond .lt 20, 3) := by decide +kernel
theorem nd_Cu_heightAt_4 : decode nc_Cu_heightAt 4 = .ok (.iload_n 1, 1) := by decide +kernel
theorem nd_Cu_heightAt_5 : decode nc_Cu_heightAt 5 = .ok (.aload_n 0, 1) := by decide +kernel
theorem nd_Cu_heightAt_6 : decode nc_Cu_heightAt 6 = .ok (.getfield 9, 3) := by decide +kernel
theorem nd_Cu_heightAt_9 : decode nc_Cu_heightAt 9 = .ok (.if_icmp .ge 12, 3) := by decide +kernel
theorem nd_Cu_heightAt_12 : decode nc_Cu_heightAt 12 = .ok (.aload_n 0, 1) := by decide +kernel
theorem nd_Cu_heightAt_13 : decode nc_Cu_heightAt 13 = .ok (.getfield 19, 3) := by decide +kernel
theorem nd_Cu_heightAt_16 : decode nc_Cu_heightAt 16 = .ok (.iload_n 1, 1) := by decide +kernel
theorem nd_Cu_heightAt_17 : decode nc_Cu_heightAt 17 = .ok (.iaload, 1) := by decide +kernel
theorem nd_Cu_heightAt_18 : decode nc_Cu_heightAt 18 = .ok (.goto 4, 3) := by decide +kernel
theorem nd_Cu_heightAt_21 : decode nc_Cu_heightAt 21 = .ok (.iconst (-1), 1) := by decide +kernel
theorem nd_Cu_heightAt_22 : decode nc_Cu_heightAt 22 = .ok (.ireturn, 1) := by decide +kernel
theorem nd_Cu_clear_0 : decode nc_Cu_clear 0 = .ok (.aload_n 0, 1) := by decide +kernel
theorem nd_Cu_clear_1 : decode nc_Cu_clear 1 = .ok (.iconst 0, 1) := by decide +kernel
theorem nd_Cu_clear_2 : decode nc_Cu_clear 2 = .ok (.putfield 9, 3) := by decide +kernel
theorem nd_Cu_clear_5 : decode nc_Cu_clear 5 = .ok (.return_, 1) := by decide +kernel
theorem nd_Cu_append_0 : decode nc_Cu_append 0 = .ok (.aload_n 0, 1) := by decide +kernel
theorem nd_Cu_append_1 : decode nc_Cu_append 1 = .ok (.getfield 9, 3) := by decide +kernel
theorem nd_Cu_append_4 : decode nc_Cu_append 4 = .ok (.bipush 24, 2) := by decide +kernel
theorem nd_Cu_append_6 : decode nc_Cu_append 6 = .ok (.if_icmp .ge 33, 3) := by decide +kernel
theorem nd_Cu_append_9 : decode nc_Cu_append 9 = .ok (.aload_n 0, 1) := by decide +kernel
theorem nd_Cu_append_10 : decode nc_Cu_append 10 = .ok (.getfield 15, 3) := by decide +kernel
theorem nd_Cu_append_13 : decode nc_Cu_append 13 = .ok (.aload_n 0, 1) := by decide +kernel
theorem nd_Cu_append_14 : decode nc_Cu_append 14 = .ok (.getfield 9, 3) := by decide +kernel
theorem nd_Cu_append_17 : decode nc_Cu_append 17 = .ok (.iload_n 1, 1) := by decide +kernel
theorem nd_Cu_append_18 : decode nc_Cu_append 18 = .ok (.iastore, 1) := by decide +kernel
theorem nd_Cu_append_19 : decode nc_Cu_append 19 = .ok (.aload_n 0, 1) := by decide +kernel
theorem nd_Cu_append_20 : decode nc_Cu_append 20 = .ok (.getfield 19, 3) := by decide +kernel
theorem nd_Cu_append_23 : decode nc_Cu_append 23 = .ok (.aload_n 0, 1) := by decide +kernel
theorem nd_Cu_append_24 : decode nc_Cu_append 24 = .ok (.getfield 9, 3) := by decide +kernel
theorem nd_Cu_append_27 : decode nc_Cu_append 27 = .ok (.iload_n 2, 1) := by decide +kernel
theorem nd_Cu_append_28 : decode nc_Cu_append 28 = .ok (.iastore, 1) := by decide +kernel
theorem nd_Cu_append_29 : decode nc_Cu_append 29 = .ok (.aload_n 0, 1) := by decide +kernel
theorem nd_Cu_append_30 : decode nc_Cu_append 30 = .ok (.dup, 1) := by decide +kernel
theorem nd_Cu_append_31 : decode nc_Cu_append 31 = .ok (.getfield 9, 3) := by decide +kernel
theorem nd_Cu_append_34 : decode nc_Cu_append 34 = .ok (.iconst 1, 1) := by decide +kernel
theorem nd_Cu_append_35 : decode nc_Cu_append 35 = .ok (.iadd, 1) := by decide +kernel
theorem nd_Cu_append_36 : decode nc_Cu_append 36 = .ok (.putfield 9, 3) := by decide +kernel
theorem nd_Cu_append_39 : decode nc_Cu_append 39 = .ok (.return_, 1) := by decide +kernel
theorem nd_Cu_hasWithin_0 : decode nc_Cu_hasWithin 0 = .ok (.iconst 0, 1) := by decide +kernel
theorem nd_Cu_hasWithin_1 : decode nc_Cu_hasWithin 1 = .ok (.istore_n 3, 1) := by decide +kernel
theorem nd_Cu_hasWithin_2 : decode nc_Cu_hasWithin 2 = .ok (.iload_n 3, 1) := by decide +kernel
theorem nd_Cu_hasWithin_3 : decode nc_Cu_hasWithin 3 = .ok (.aload_n 0, 1) := by decide +kernel
theorem nd_Cu_hasWithin_4 : decode nc_Cu_hasWithin 4 = .ok (.getfield 9, 3) := by decide +kernel
theorem nd_Cu_hasWithin_7 : decode nc_Cu_hasWithin 7 = .ok (.if_icmp .ge 31, 3) := by decide +kernel
theorem nd_Cu_hasWithin_10 : decode nc_Cu_hasWithin 10 = .ok (.aload_n 0, 1) := by decide +kernel
theorem nd_Cu_hasWithin_11 : decode nc_Cu_hasWithin 11 = .ok (.getfield 15, 3) := by decide +kernel
theorem nd_Cu_hasWithin_14 : decode nc_Cu_hasWithin 14 = .ok (.iload_n 3, 1) := by decide +kernel
theorem nd_Cu_hasWithin_15 : decode nc_Cu_hasWithin 15 = .ok (.iaload, 1) := by decide +kernel
theorem nd_Cu_hasWithin_16 : decode nc_Cu_hasWithin 16 = .ok (.iload_n 1, 1) := by decide +kernel
theorem nd_Cu_hasWithin_17 : decode nc_Cu_hasWithin 17 = .ok (.if_icmp .gt 15, 3) := by decide +kernel
theorem nd_Cu_hasWithin_20 : decode nc_Cu_hasWithin 20 = .ok (.aload_n 0, 1) := by decide +kernel
theorem nd_Cu_hasWithin_21 : decode nc_Cu_hasWithin 21 = .ok (.getfield 19, 3) := by decide +kernel
theorem nd_Cu_hasWithin_24 : decode nc_Cu_hasWithin 24 = .ok (.iload_n 3, 1) := by decide +kernel
theorem nd_Cu_hasWithin_25 : decode nc_Cu_hasWithin 25 = .ok (.iaload, 1) := by decide +kernel
theorem nd_Cu_hasWithin_26 : decode nc_Cu_hasWithin 26 = .ok (.iload_n 2, 1) := by decide +kernel
theorem nd_Cu_hasWithin_27 : decode nc_Cu_hasWithin 27 = .ok (.if_icmp .gt 5, 3) := by decide +kernel
theorem nd_Cu_hasWithin_30 : decode nc_Cu_hasWithin 30 = .ok (.iconst 1, 1) := by decide +kernel
theorem nd_Cu_hasWithin_31 : decode nc_Cu_hasWithin 31 = .ok (.ireturn, 1) := by decide +kernel
theorem nd_Cu_hasWithin_32 : decode nc_Cu_hasWithin 32 = .ok (.iinc 3 1, 3) := by decide +kernel
theorem nd_Cu_hasWithin_35 : decode nc_Cu_hasWithin 35 = .ok (.goto (-33), 3) := by decide +kernel
theorem nd_Cu_hasWithin_38 : decode nc_Cu_hasWithin 38 = .ok (.iconst 0, 1) := by decide +kernel
theorem nd_Cu_hasWithin_39 : decode nc_Cu_hasWithin 39 = .ok (.ireturn, 1) := by decide +kernel
theorem nd_Cu_dropAround_0 : decode nc_Cu_dropAround 0 = .ok (.aload_n 0, 1) := by decide +kernel
theorem nd_Cu_dropAround_1 : decode nc_Cu_dropAround 1 = .ok (.getfield 9, 3) := by decide +kernel
theorem nd_Cu_dropAround_4 : decode nc_Cu_dropAround 4 = .ok (.istore_n 3, 1) := by decide +kernel
theorem nd_Cu_dropAround_5 : decode nc_Cu_dropAround 5 = .ok (.aload_n 0, 1) := by decide +kernel
theorem nd_Cu_dropAround_6 : decode nc_Cu_dropAround 6 = .ok (.iconst 0, 1) := by decide +kernel
theorem nd_Cu_dropAround_7 : decode nc_Cu_dropAround 7 = .ok (.putfield 9, 3) := by decide +kernel
theorem nd_Cu_dropAround_10 : decode nc_Cu_dropAround 10 = .ok (.iconst 0, 1) := by decide +kernel
theorem nd_Cu_dropAround_11 : decode nc_Cu_dropAround 11 = .ok (.istore 4, 2) := by decide +kernel
theorem nd_Cu_dropAround_13 : decode nc_Cu_dropAround 13 = .ok (.iload 4, 2) := by decide +kernel
theorem nd_Cu_dropAround_15 : decode nc_Cu_dropAround 15 = .ok (.iload_n 3, 1) := by decide +kernel
theorem nd_Cu_dropAround_16 : decode nc_Cu_dropAround 16 = .ok (.if_icmp .ge 49, 3) := by decide +kernel
theorem nd_Cu_dropAround_19 : decode nc_Cu_dropAround 19 = .ok (.aload_n 0, 1) := by decide +kernel
theorem nd_Cu_dropAround_20 : decode nc_Cu_dropAround 20 = .ok (.getfield 15, 3) := by decide +kernel
theorem nd_Cu_dropAround_23 : decode nc_Cu_dropAround 23 = .ok (.iload 4, 2) := by decide +kernel
theorem nd_Cu_dropAround_25 : decode nc_Cu_dropAround 25 = .ok (.iaload, 1) := by decide +kernel
theorem nd_Cu_dropAround_26 : decode nc_Cu_dropAround 26 = .ok (.iload_n 1, 1) := by decide +kernel
theorem nd_Cu_dropAround_27 : decode nc_Cu_dropAround 27 = .ok (.if_icmp .lt 14, 3) := by decide +kernel
theorem nd_Cu_dropAround_30 : decode nc_Cu_dropAround 30 = .ok (.aload_n 0, 1) := by decide +kernel
theorem nd_Cu_dropAround_31 : decode nc_Cu_dropAround 31 = .ok (.getfield 19, 3) := by decide +kernel
theorem nd_Cu_dropAround_34 : decode nc_Cu_dropAround 34 = .ok (.iload 4, 2) := by decide +kernel
theorem nd_Cu_dropAround_36 : decode nc_Cu_dropAround 36 = .ok (.iaload, 1) := by decide +kernel
theorem nd_Cu_dropAround_37 : decode nc_Cu_dropAround 37 = .ok (.iload_n 2, 1) := by decide +kernel
theorem nd_Cu_dropAround_38 : decode nc_Cu_dropAround 38 = .ok (.if_icmp .ge 21, 3) := by decide +kernel
theorem nd_Cu_dropAround_41 : decode nc_Cu_dropAround 41 = .ok (.aload_n 0, 1) := by decide +kernel
theorem nd_Cu_dropAround_42 : decode nc_Cu_dropAround 42 = .ok (.aload_n 0, 1) := by decide +kernel
theorem nd_Cu_dropAround_43 : decode nc_Cu_dropAround 43 = .ok (.getfield 15, 3) := by decide +kernel
theorem nd_Cu_dropAround_46 : decode nc_Cu_dropAround 46 = .ok (.iload 4, 2) := by decide +kernel
theorem nd_Cu_dropAround_48 : decode nc_Cu_dropAround 48 = .ok (.iaload, 1) := by decide +kernel
theorem nd_Cu_dropAround_49 : decode nc_Cu_dropAround 49 = .ok (.aload_n 0, 1) := by decide +kernel
theorem nd_Cu_dropAround_50 : decode nc_Cu_dropAround 50 = .ok (.getfield 19, 3) := by decide +kernel
theorem nd_Cu_dropAround_53 : decode nc_Cu_dropAround 53 = .ok (.iload 4, 2) := by decide +kernel
theorem nd_Cu_dropAround_55 : decode nc_Cu_dropAround 55 = .ok (.iaload, 1) := by decide +kernel
theorem nd_Cu_dropAround_56 : decode nc_Cu_dropAround 56 = .ok (.invokevirtual 30, 3) := by decide +kernel
theorem nd_Cu_dropAround_59 : decode nc_Cu_dropAround 59 = .ok (.iinc 4 1, 3) := by decide +kernel
theorem nd_Cu_dropAround_62 : decode nc_Cu_dropAround 62 = .ok (.goto (-49), 3) := by decide +kernel
theorem nd_Cu_dropAround_65 : decode nc_Cu_dropAround 65 = .ok (.return_, 1) := by decide +kernel
theorem nd_Cu_exchangeOutlines_0 : decode nc_Cu_exchangeOutlines 0 = .ok (.aload_n 0, 1) := by decide +kernel
theorem nd_Cu_exchangeOutlines_1 : decode nc_Cu_exchangeOutlines 1 = .ok (.getfield 15, 3) := by decide +kernel
theorem nd_Cu_exchangeOutlines_4 : decode nc_Cu_exchangeOutlines 4 = .ok (.iload_n 1, 1) := by decide +kernel
theorem nd_Cu_exchangeOutlines_5 : decode nc_Cu_exchangeOutlines 5 = .ok (.iaload, 1) := by decide +kernel
theorem nd_Cu_exchangeOutlines_6 : decode nc_Cu_exchangeOutlines 6 = .ok (.istore_n 3, 1) := by decide +kernel
theorem nd_Cu_exchangeOutlines_7 : decode nc_Cu_exchangeOutlines 7 = .ok (.aload_n 0, 1) := by decide +kernel
theorem nd_Cu_exchangeOutlines_8 : decode nc_Cu_exchangeOutlines 8 = .ok (.getfield 19, 3) := by decide +kernel
theorem nd_Cu_exchangeOutlines_11 : decode nc_Cu_exchangeOutlines 11 = .ok (.iload_n 1, 1) := by decide +kernel
theorem nd_Cu_exchangeOutlines_12 : decode nc_Cu_exchangeOutlines 12 = .ok (.iaload, 1) := by decide +kernel
theorem nd_Cu_exchangeOutlines_13 : decode nc_Cu_exchangeOutlines 13 = .ok (.istore 4, 2) := by decide +kernel
theorem nd_Cu_exchangeOutlines_15 : decode nc_Cu_exchangeOutlines 15 = .ok (.aload_n 0, 1) := by decide +kernel
theorem nd_Cu_exchangeOutlines_16 : decode nc_Cu_exchangeOutlines 16 = .ok (.getfield 15, 3) := by decide +kernel
theorem nd_Cu_exchangeOutlines_19 : decode nc_Cu_exchangeOutlines 19 = .ok (.iload_n 1, 1) := by decide +kernel
theorem nd_Cu_exchangeOutlines_20 : decode nc_Cu_exchangeOutlines 20 = .ok (.aload_n 0, 1) := by decide +kernel
theorem nd_Cu_exchangeOutlines_21 : decode nc_Cu_exchangeOutlines 21 = .ok (.getfield 15, 3) := by decide +kernel
theorem nd_Cu_exchangeOutlines_24 : decode nc_Cu_exchangeOutlines 24 = .ok (.iload_n 2, 1) := by decide +kernel
theorem nd_Cu_exchangeOutlines_25 : decode nc_Cu_exchangeOutlines 25 = .ok (.iaload, 1) := by decide +kernel
theorem nd_Cu_exchangeOutlines_26 : decode nc_Cu_exchangeOutlines 26 = .ok (.iastore, 1) := by decide +kernel
theorem nd_Cu_exchangeOutlines_27 : decode nc_Cu_exchangeOutlines 27 = .ok (.aload_n 0, 1) := by decide +kernel
theorem nd_Cu_exchangeOutlines_28 : decode nc_Cu_exchangeOutlines 28 = .ok (.getfield 19, 3) := by decide +kernel
theorem nd_Cu_exchangeOutlines_31 : decode nc_Cu_exchangeOutlines 31 = .ok (.iload_n 1, 1) := by decide +kernel
theorem nd_Cu_exchangeOutlines_32 : decode nc_Cu_exchangeOutlines 32 = .ok (.aload_n 0, 1) := by decide +kernel
theorem nd_Cu_exchangeOutlines_33 : decode nc_Cu_exchangeOutlines 33 = .ok (.getfield 19, 3) := by decide +kernel
theorem nd_Cu_exchangeOutlines_36 : decode nc_Cu_exchangeOutlines 36 = .ok (.iload_n 2, 1) := by decide +kernel
theorem nd_Cu_exchangeOutlines_37 : decode nc_Cu_exchangeOutlines 37 = .ok (.iaload, 1) := by decide +kernel
theorem nd_Cu_exchangeOutlines_38 : decode nc_Cu_exchangeOutlines 38 = .ok (.iastore, 1) := by decide +kernel
theorem nd_Cu_exchangeOutlines_39 : decode nc_Cu_exchangeOutlines 39 = .ok (.aload_n 0, 1) := by decide +kernel
theorem nd_Cu_exchangeOutlines_40 : decode nc_Cu_exchangeOutlines 40 = .ok (.getfield 15, 3) := by decide +kernel
theorem nd_Cu_exchangeOutlines_43 : decode nc_Cu_exchangeOutlines 43 = .ok (.iload_n 2, 1) := by decide +kernel
theorem nd_Cu_exchangeOutlines_44 : decode nc_Cu_exchangeOutlines 44 = .ok (.iload_n 3, 1) := by decide +kernel
theorem nd_Cu_exchangeOutlines_45 : decode nc_Cu_exchangeOutlines 45 = .ok (.iastore, 1) := by decide +kernel
theorem nd_Cu_exchangeOutlines_46 : decode nc_Cu_exchangeOutlines 46 = .ok (.aload_n 0, 1) := by decide +kernel
theorem nd_Cu_exchangeOutlines_47 : decode nc_Cu_exchangeOutlines 47 = .ok (.getfield 19, 3) := by decide +kernel
theorem nd_Cu_exchangeOutlines_50 : decode nc_Cu_exchangeOutlines 50 = .ok (.iload_n 2, 1) := by decide +kernel
theorem nd_Cu_exchangeOutlines_51 : decode nc_Cu_exchangeOutlines 51 = .ok (.iload 4, 2) := by decide +kernel
theorem nd_Cu_exchangeOutlines_53 : decode nc_Cu_exchangeOutlines 53 = .ok (.iastore, 1) := by decide +kernel
theorem nd_Cu_exchangeOutlines_54 : decode nc_Cu_exchangeOutlines 54 = .ok (.return_, 1) := by decide +kernel
theorem nd_Cu_offer_0 : decode nc_Cu_offer 0 = .ok (.aload_n 0, 1) := by decide +kernel
theorem nd_Cu_offer_1 : decode nc_Cu_offer 1 = .ok (.iload_n 1, 1) := by decide +kernel
theorem nd_Cu_offer_2 : decode nc_Cu_offer 2 = .ok (.iload_n 2, 1) := by decide +kernel
theorem nd_Cu_offer_3 : decode nc_Cu_offer 3 = .ok (.invokevirtual 22, 3) := by decide +kernel
theorem nd_Cu_offer_6 : decode nc_Cu_offer 6 = .ok (.ifCond .eq 4, 3) := by decide +kernel
theorem nd_Cu_offer_9 : decode nc_Cu_offer 9 = .ok (.return_, 1) := by decide +kernel
theorem nd_Cu_offer_10 : decode nc_Cu_offer 10 = .ok (.aload_n 0, 1) := by decide +kernel
theorem nd_Cu_offer_11 : decode nc_Cu_offer 11 = .ok (.iload_n 1, 1) := by decide +kernel
theorem nd_Cu_offer_12 : decode nc_Cu_offer 12 = .ok (.iload_n 2, 1) := by decide +kernel
theorem nd_Cu_offer_13 : decode nc_Cu_offer 13 = .ok (.invokevirtual 26, 3) := by decide +kernel
theorem nd_Cu_offer_16 : decode nc_Cu_offer 16 = .ok (.aload_n 0, 1) := by decide +kernel
theorem nd_Cu_offer_17 : decode nc_Cu_offer 17 = .ok (.iload_n 1, 1) := by decide +kernel
theorem nd_Cu_offer_18 : decode nc_Cu_offer 18 = .ok (.iload_n 2, 1) := by decide +kernel
theorem nd_Cu_offer_19 : decode nc_Cu_offer 19 = .ok (.invokevirtual 30, 3) := by decide +kernel
theorem nd_Cu_offer_22 : decode nc_Cu_offer 22 = .ok (.aload_n 0, 1) := by decide +kernel
theorem nd_Cu_offer_23 : decode nc_Cu_offer 23 = .ok (.getfield 9, 3) := by decide +kernel
theorem nd_Cu_offer_26 : decode nc_Cu_offer 26 = .ok (.iconst 1, 1) := by decide +kernel
theorem nd_Cu_offer_27 : decode nc_Cu_offer 27 = .ok (.isub, 1) := by decide +kernel
theorem nd_Cu_offer_28 : decode nc_Cu_offer 28 = .ok (.istore_n 3, 1) := by decide +kernel
theorem nd_Cu_offer_29 : decode nc_Cu_offer 29 = .ok (.iload_n 3, 1) := by decide +kernel
theorem nd_Cu_offer_30 : decode nc_Cu_offer 30 = .ok (.ifCond .le 34, 3) := by decide +kernel
theorem nd_Cu_offer_33 : decode nc_Cu_offer 33 = .ok (.aload_n 0, 1) := by decide +kernel
theorem nd_Cu_offer_34 : decode nc_Cu_offer 34 = .ok (.getfield 15, 3) := by decide +kernel
theorem nd_Cu_offer_37 : decode nc_Cu_offer 37 = .ok (.iload_n 3, 1) := by decide +kernel
theorem nd_Cu_offer_38 : decode nc_Cu_offer 38 = .ok (.iconst 1, 1) := by decide +kernel
theorem nd_Cu_offer_39 : decode nc_Cu_offer 39 = .ok (.isub, 1) := by decide +kernel
theorem nd_Cu_offer_40 : decode nc_Cu_offer 40 = .ok (.iaload, 1) := by decide +kernel
theorem nd_Cu_offer_41 : decode nc_Cu_offer 41 = .ok (.aload_n 0, 1) := by decide +kernel
theorem nd_Cu_offer_42 : decode nc_Cu_offer 42 = .ok (.getfield 15, 3) := by decide +kernel
theorem nd_Cu_offer_45 : decode nc_Cu_offer 45 = .ok (.iload_n 3, 1) := by decide +kernel
theorem nd_Cu_offer_46 : decode nc_Cu_offer 46 = .ok (.iaload, 1) := by decide +kernel
theorem nd_Cu_offer_47 : decode nc_Cu_offer 47 = .ok (.if_icmp .le 17, 3) := by decide +kernel
theorem nd_Cu_offer_50 : decode nc_Cu_offer 50 = .ok (.aload_n 0, 1) := by decide +kernel
theorem nd_Cu_offer_51 : decode nc_Cu_offer 51 = .ok (.iload_n 3, 1) := by decide +kernel
theorem nd_Cu_offer_52 : decode nc_Cu_offer 52 = .ok (.iconst 1, 1) := by decide +kernel
theorem nd_Cu_offer_53 : decode nc_Cu_offer 53 = .ok (.isub, 1) := by decide +kernel
theorem nd_Cu_offer_54 : decode nc_Cu_offer 54 = .ok (.iload_n 3, 1) := by decide +kernel
theorem nd_Cu_offer_55 : decode nc_Cu_offer 55 = .ok (.invokevirtual 33, 3) := by decide +kernel
theorem nd_Cu_offer_58 : decode nc_Cu_offer 58 = .ok (.iinc 3 (-1), 3) := by decide +kernel
theorem nd_Cu_offer_61 : decode nc_Cu_offer 61 = .ok (.goto (-32), 3) := by decide +kernel
theorem nd_Cu_offer_64 : decode nc_Cu_offer 64 = .ok (.return_, 1) := by decide +kernel
theorem nd_Cu_joinBeside_0 : decode nc_Cu_joinBeside 0 = .ok (.aload_n 0, 1) := by decide +kernel
theorem nd_Cu_joinBeside_1 : decode nc_Cu_joinBeside 1 = .ok (.invokevirtual 36, 3) := by decide +kernel
theorem nd_Cu_joinBeside_4 : decode nc_Cu_joinBeside 4 = .ok (.iconst 0, 1) := by decide +kernel
theorem nd_Cu_joinBeside_5 : decode nc_Cu_joinBeside 5 = .ok (.istore_n 3, 1) := by decide +kernel
theorem nd_Cu_joinBeside_6 : decode nc_Cu_joinBeside 6 = .ok (.iconst 0, 1) := by decide +kernel
theorem nd_Cu_joinBeside_7 : decode nc_Cu_joinBeside 7 = .ok (.istore 4, 2) := by decide +kernel
theorem nd_Cu_joinBeside_9 : decode nc_Cu_joinBeside 9 = .ok (.iload_n 3, 1) := by decide +kernel
theorem nd_Cu_joinBeside_10 : decode nc_Cu_joinBeside 10 = .ok (.aload_n 1, 1) := by decide +kernel
theorem nd_Cu_joinBeside_11 : decode nc_Cu_joinBeside 11 = .ok (.getfield 9, 3) := by decide +kernel
theorem nd_Cu_joinBeside_14 : decode nc_Cu_joinBeside 14 = .ok (.if_icmp .ge 77, 3) := by decide +kernel
theorem nd_Cu_joinBeside_17 : decode nc_Cu_joinBeside 17 = .ok (.iload 4, 2) := by decide +kernel
theorem nd_Cu_joinBeside_19 : decode nc_Cu_joinBeside 19 = .ok (.aload_n 2, 1) := by decide +kernel
theorem nd_Cu_joinBeside_20 : decode nc_Cu_joinBeside 20 = .ok (.getfield 9, 3) := by decide +kernel
theorem nd_Cu_joinBeside_23 : decode nc_Cu_joinBeside 23 = .ok (.if_icmp .ge 68, 3) := by decide +kernel
theorem nd_Cu_joinBeside_26 : decode nc_Cu_joinBeside 26 = .ok (.aload_n 1, 1) := by decide +kernel
theorem nd_Cu_joinBeside_27 : decode nc_Cu_joinBeside 27 = .ok (.getfield 19, 3) := by decide +kernel
theorem nd_Cu_joinBeside_30 : decode nc_Cu_joinBeside 30 = .ok (.iload_n 3, 1) := by decide +kernel
theorem nd_Cu_joinBeside_31 : decode nc_Cu_joinBeside 31 = .ok (.iaload, 1) := by decide +kernel
theorem nd_Cu_joinBeside_32 : decode nc_Cu_joinBeside 32 = .ok (.istore 5, 2) := by decide +kernel
theorem nd_Cu_joinBeside_34 : decode nc_Cu_joinBeside 34 = .ok (.aload_n 2, 1) := by decide +kernel
theorem nd_Cu_joinBeside_35 : decode nc_Cu_joinBeside 35 = .ok (.getfield 19, 3) := by decide +kernel
theorem nd_Cu_joinBeside_38 : decode nc_Cu_joinBeside 38 = .ok (.iload 4, 2) := by decide +kernel
theorem nd_Cu_joinBeside_40 : decode nc_Cu_joinBeside 40 = .ok (.iaload, 1) := by decide +kernel
theorem nd_Cu_joinBeside_41 : decode nc_Cu_joinBeside 41 = .ok (.istore 6, 2) := by decide +kernel
theorem nd_Cu_joinBeside_43 : decode nc_Cu_joinBeside 43 = .ok (.aload_n 0, 1) := by decide +kernel
theorem nd_Cu_joinBeside_44 : decode nc_Cu_joinBeside 44 = .ok (.aload_n 1, 1) := by decide +kernel
theorem nd_Cu_joinBeside_45 : decode nc_Cu_joinBeside 45 = .ok (.getfield 15, 3) := by decide +kernel
theorem nd_Cu_joinBeside_48 : decode nc_Cu_joinBeside 48 = .ok (.iload_n 3, 1) := by decide +kernel
theorem nd_Cu_joinBeside_49 : decode nc_Cu_joinBeside 49 = .ok (.iaload, 1) := by decide +kernel
theorem nd_Cu_joinBeside_50 : decode nc_Cu_joinBeside 50 = .ok (.aload_n 2, 1) := by decide +kernel
theorem nd_Cu_joinBeside_51 : decode nc_Cu_joinBeside 51 = .ok (.getfield 15, 3) := by decide +kernel
theorem nd_Cu_joinBeside_54 : decode nc_Cu_joinBeside 54 = .ok (.iload 4, 2) := by decide +kernel
theorem nd_Cu_joinBeside_56 : decode nc_Cu_joinBeside 56 = .ok (.iaload, 1) := by decide +kernel
theorem nd_Cu_joinBeside_57 : decode nc_Cu_joinBeside 57 = .ok (.iadd, 1) := by decide +kernel
theorem nd_Cu_joinBeside_58 : decode nc_Cu_joinBeside 58 = .ok (.iload 5, 2) := by decide +kernel
theorem nd_Cu_joinBeside_60 : decode nc_Cu_joinBeside 60 = .ok (.iload 6, 2) := by decide +kernel
theorem nd_Cu_joinBeside_62 : decode nc_Cu_joinBeside 62 = .ok (.invokestatic 39, 3) := by decide +kernel
theorem nd_Cu_joinBeside_65 : decode nc_Cu_joinBeside 65 = .ok (.invokevirtual 30, 3) := by decide +kernel
theorem nd_Cu_joinBeside_68 : decode nc_Cu_joinBeside 68 = .ok (.iload 5, 2) := by decide +kernel
theorem nd_Cu_joinBeside_70 : decode nc_Cu_joinBeside 70 = .ok (.iload 6, 2) := by decide +kernel
theorem nd_Cu_joinBeside_72 : decode nc_Cu_joinBeside 72 = .ok (.if_icmp .lt 6, 3) := by decide +kernel
theorem nd_Cu_joinBeside_75 : decode nc_Cu_joinBeside 75 = .ok (.iinc 3 1, 3) := by decide +kernel
theorem nd_Cu_joinBeside_78 : decode nc_Cu_joinBeside 78 = .ok (.iload 6, 2) := by decide +kernel
theorem nd_Cu_joinBeside_80 : decode nc_Cu_joinBeside 80 = .ok (.iload 5, 2) := by decide +kernel
theorem nd_Cu_joinBeside_82 : decode nc_Cu_joinBeside 82 = .ok (.if_icmp .lt 6, 3) := by decide +kernel
theorem nd_Cu_joinBeside_85 : decode nc_Cu_joinBeside 85 = .ok (.iinc 4 1, 3) := by decide +kernel
theorem nd_Cu_joinBeside_88 : decode nc_Cu_joinBeside 88 = .ok (.goto (-79), 3) := by decide +kernel
theorem nd_Cu_joinBeside_91 : decode nc_Cu_joinBeside 91 = .ok (.return_, 1) := by decide +kernel
theorem nd_Cu_joinAbove_0 : decode nc_Cu_joinAbove 0 = .ok (.aload_n 0, 1) := by decide +kernel
theorem nd_Cu_joinAbove_1 : decode nc_Cu_joinAbove 1 = .ok (.invokevirtual 36, 3) := by decide +kernel
theorem nd_Cu_joinAbove_4 : decode nc_Cu_joinAbove 4 = .ok (.aload_n 1, 1) := by decide +kernel
theorem nd_Cu_joinAbove_5 : decode nc_Cu_joinAbove 5 = .ok (.getfield 9, 3) := by decide +kernel
theorem nd_Cu_joinAbove_8 : decode nc_Cu_joinAbove 8 = .ok (.iconst 1, 1) := by decide +kernel
theorem nd_Cu_joinAbove_9 : decode nc_Cu_joinAbove 9 = .ok (.isub, 1) := by decide +kernel
theorem nd_Cu_joinAbove_10 : decode nc_Cu_joinAbove 10 = .ok (.istore_n 3, 1) := by decide +kernel
theorem nd_Cu_joinAbove_11 : decode nc_Cu_joinAbove 11 = .ok (.aload_n 2, 1) := by decide +kernel
theorem nd_Cu_joinAbove_12 : decode nc_Cu_joinAbove 12 = .ok (.getfield 9, 3) := by decide +kernel
theorem nd_Cu_joinAbove_15 : decode nc_Cu_joinAbove 15 = .ok (.iconst 1, 1) := by decide +kernel
theorem nd_Cu_joinAbove_16 : decode nc_Cu_joinAbove 16 = .ok (.isub, 1) := by decide +kernel
theorem nd_Cu_joinAbove_17 : decode nc_Cu_joinAbove 17 = .ok (.istore 4, 2) := by decide +kernel
theorem nd_Cu_joinAbove_19 : decode nc_Cu_joinAbove 19 = .ok (.iload_n 3, 1) := by decide +kernel
theorem nd_Cu_joinAbove_20 : decode nc_Cu_joinAbove 20 = .ok (.ifCond .lt 73, 3) := by decide +kernel
theorem nd_Cu_joinAbove_23 : decode nc_Cu_joinAbove 23 = .ok (.iload 4, 2) := by decide +kernel
theorem nd_Cu_joinAbove_25 : decode nc_Cu_joinAbove 25 = .ok (.ifCond .lt 68, 3) := by decide +kernel
theorem nd_Cu_joinAbove_28 : decode nc_Cu_joinAbove 28 = .ok (.aload_n 1, 1) := by decide +kernel
theorem nd_Cu_joinAbove_29 : decode nc_Cu_joinAbove 29 = .ok (.getfield 15, 3) := by decide +kernel
theorem nd_Cu_joinAbove_32 : decode nc_Cu_joinAbove 32 = .ok (.iload_n 3, 1) := by decide +kernel
theorem nd_Cu_joinAbove_33 : decode nc_Cu_joinAbove 33 = .ok (.iaload, 1) := by decide +kernel
theorem nd_Cu_joinAbove_34 : decode nc_Cu_joinAbove 34 = .ok (.istore 5, 2) := by decide +kernel
theorem nd_Cu_joinAbove_36 : decode nc_Cu_joinAbove 36 = .ok (.aload_n 2, 1) := by decide +kernel
theorem nd_Cu_joinAbove_37 : decode nc_Cu_joinAbove 37 = .ok (.getfield 15, 3) := by decide +kernel
theorem nd_Cu_joinAbove_40 : decode nc_Cu_joinAbove 40 = .ok (.iload 4, 2) := by decide +kernel
theorem nd_Cu_joinAbove_42 : decode nc_Cu_joinAbove 42 = .ok (.iaload, 1) := by decide +kernel
theorem nd_Cu_joinAbove_43 : decode nc_Cu_joinAbove 43 = .ok (.istore 6, 2) := by decide +kernel
theorem nd_Cu_joinAbove_45 : decode nc_Cu_joinAbove 45 = .ok (.aload_n 0, 1) := by decide +kernel
theorem nd_Cu_joinAbove_46 : decode nc_Cu_joinAbove 46 = .ok (.iload 5, 2) := by decide +kernel
theorem nd_Cu_joinAbove_48 : decode nc_Cu_joinAbove 48 = .ok (.iload 6, 2) := by decide +kernel
theorem nd_Cu_joinAbove_50 : decode nc_Cu_joinAbove 50 = .ok (.invokestatic 39, 3) := by decide +kernel
theorem nd_Cu_joinAbove_53 : decode nc_Cu_joinAbove 53 = .ok (.aload_n 1, 1) := by decide +kernel
theorem nd_Cu_joinAbove_54 : decode nc_Cu_joinAbove 54 = .ok (.getfield 19, 3) := by decide +kernel
theorem nd_Cu_joinAbove_57 : decode nc_Cu_joinAbove 57 = .ok (.iload_n 3, 1) := by decide +kernel
theorem nd_Cu_joinAbove_58 : decode nc_Cu_joinAbove 58 = .ok (.iaload, 1) := by decide +kernel
theorem nd_Cu_joinAbove_59 : decode nc_Cu_joinAbove 59 = .ok (.aload_n 2, 1) := by decide +kernel
theorem nd_Cu_joinAbove_60 : decode nc_Cu_joinAbove 60 = .ok (.getfield 19, 3) := by decide +kernel
theorem nd_Cu_joinAbove_63 : decode nc_Cu_joinAbove 63 = .ok (.iload 4, 2) := by decide +kernel
theorem nd_Cu_joinAbove_65 : decode nc_Cu_joinAbove 65 = .ok (.iaload, 1) := by decide +kernel
theorem nd_Cu_joinAbove_66 : decode nc_Cu_joinAbove 66 = .ok (.iadd, 1) := by decide +kernel
theorem nd_Cu_joinAbove_67 : decode nc_Cu_joinAbove 67 = .ok (.invokevirtual 30, 3) := by decide +kernel
theorem nd_Cu_joinAbove_70 : decode nc_Cu_joinAbove 70 = .ok (.iload 5, 2) := by decide +kernel
theorem nd_Cu_joinAbove_72 : decode nc_Cu_joinAbove 72 = .ok (.iload 6, 2) := by decide +kernel
theorem nd_Cu_joinAbove_74 : decode nc_Cu_joinAbove 74 = .ok (.if_icmp .lt 6, 3) := by decide +kernel
theorem nd_Cu_joinAbove_77 : decode nc_Cu_joinAbove 77 = .ok (.iinc 3 (-1), 3) := by decide +kernel
theorem nd_Cu_joinAbove_80 : decode nc_Cu_joinAbove 80 = .ok (.iload 6, 2) := by decide +kernel
theorem nd_Cu_joinAbove_82 : decode nc_Cu_joinAbove 82 = .ok (.iload 5, 2) := by decide +kernel
theorem nd_Cu_joinAbove_84 : decode nc_Cu_joinAbove 84 = .ok (.if_icmp .lt 6, 3) := by decide +kernel
theorem nd_Cu_joinAbove_87 : decode nc_Cu_joinAbove 87 = .ok (.iinc 4 (-1), 3) := by decide +kernel
theorem nd_Cu_joinAbove_90 : decode nc_Cu_joinAbove 90 = .ok (.goto (-71), 3) := by decide +kernel
theorem nd_Cu_joinAbove_93 : decode nc_Cu_joinAbove 93 = .ok (.iconst 0, 1) := by decide +kernel
theorem nd_Cu_joinAbove_94 : decode nc_Cu_joinAbove 94 = .ok (.istore 5, 2) := by decide +kernel
theorem nd_Cu_joinAbove_96 : decode nc_Cu_joinAbove 96 = .ok (.iload 5, 2) := by decide +kernel
theorem nd_Cu_joinAbove_98 : decode nc_Cu_joinAbove 98 = .ok (.aload_n 0, 1) := by decide +kernel
theorem nd_Cu_joinAbove_99 : decode nc_Cu_joinAbove 99 = .ok (.getfield 9, 3) := by decide +kernel
theorem nd_Cu_joinAbove_102 : decode nc_Cu_joinAbove 102 = .ok (.iconst 2, 1) := by decide +kernel
theorem nd_Cu_joinAbove_103 : decode nc_Cu_joinAbove 103 = .ok (.idiv, 1) := by decide +kernel
theorem nd_Cu_joinAbove_104 : decode nc_Cu_joinAbove 104 = .ok (.if_icmp .ge 24, 3) := by decide +kernel
theorem nd_Cu_joinAbove_107 : decode nc_Cu_joinAbove 107 = .ok (.aload_n 0, 1) := by decide +kernel
theorem nd_Cu_joinAbove_108 : decode nc_Cu_joinAbove 108 = .ok (.iload 5, 2) := by decide +kernel
theorem nd_Cu_joinAbove_110 : decode nc_Cu_joinAbove 110 = .ok (.aload_n 0, 1) := by decide +kernel
theorem nd_Cu_joinAbove_111 : decode nc_Cu_joinAbove 111 = .ok (.getfield 9, 3) := by decide +kernel
theorem nd_Cu_joinAbove_114 : decode nc_Cu_joinAbove 114 = .ok (.iconst 1, 1) := by decide +kernel
theorem nd_Cu_joinAbove_115 : decode nc_Cu_joinAbove 115 = .ok (.isub, 1) := by decide +kernel
theorem nd_Cu_joinAbove_116 : decode nc_Cu_joinAbove 116 = .ok (.iload 5, 2) := by decide +kernel
theorem nd_Cu_joinAbove_118 : decode nc_Cu_joinAbove 118 = .ok (.isub, 1) := by decide +kernel
theorem nd_Cu_joinAbove_119 : decode nc_Cu_joinAbove 119 = .ok (.invokevirtual 33, 3) := by decide +kernel
theorem nd_Cu_joinAbove_122 : decode nc_Cu_joinAbove 122 = .ok (.iinc 5 1, 3) := by decide +kernel
theorem nd_Cu_joinAbove_125 : decode nc_Cu_joinAbove 125 = .ok (.goto (-29), 3) := by decide +kernel
theorem nd_Cu_joinAbove_128 : decode nc_Cu_joinAbove 128 = .ok (.return_, 1) := by decide +kernel
theorem nd_Cu_takeFitting_0 : decode nc_Cu_takeFitting 0 = .ok (.aload_n 0, 1) := by decide +kernel
theorem nd_Cu_takeFitting_1 : decode nc_Cu_takeFitting 1 = .ok (.invokevirtual 36, 3) := by decide +kernel
theorem nd_Cu_takeFitting_4 : decode nc_Cu_takeFitting 4 = .ok (.iconst 0, 1) := by decide +kernel
theorem nd_Cu_takeFitting_5 : decode nc_Cu_takeFitting 5 = .ok (.istore 4, 2) := by decide +kernel
theorem nd_Cu_takeFitting_7 : decode nc_Cu_takeFitting 7 = .ok (.iload 4, 2) := by decide +kernel
theorem nd_Cu_takeFitting_9 : decode nc_Cu_takeFitting 9 = .ok (.aload_n 1, 1) := by decide +kernel
theorem nd_Cu_takeFitting_10 : decode nc_Cu_takeFitting 10 = .ok (.getfield 9, 3) := by decide +kernel
theorem nd_Cu_takeFitting_13 : decode nc_Cu_takeFitting 13 = .ok (.if_icmp .ge 49, 3) := by decide +kernel
theorem nd_Cu_takeFitting_16 : decode nc_Cu_takeFitting 16 = .ok (.aload_n 1, 1) := by decide +kernel
theorem nd_Cu_takeFitting_17 : decode nc_Cu_takeFitting 17 = .ok (.getfield 15, 3) := by decide +kernel
theorem nd_Cu_takeFitting_20 : decode nc_Cu_takeFitting 20 = .ok (.iload 4, 2) := by decide +kernel
theorem nd_Cu_takeFitting_22 : decode nc_Cu_takeFitting 22 = .ok (.iaload, 1) := by decide +kernel
theorem nd_Cu_takeFitting_23 : decode nc_Cu_takeFitting 23 = .ok (.iload_n 2, 1) := by decide +kernel
theorem nd_Cu_takeFitting_24 : decode nc_Cu_takeFitting 24 = .ok (.if_icmp .gt 32, 3) := by decide +kernel
theorem nd_Cu_takeFitting_27 : decode nc_Cu_takeFitting 27 = .ok (.aload_n 1, 1) := by decide +kernel
theorem nd_Cu_takeFitting_28 : decode nc_Cu_takeFitting 28 = .ok (.getfield 19, 3) := by decide +kernel
theorem nd_Cu_takeFitting_31 : decode nc_Cu_takeFitting 31 = .ok (.iload 4, 2) := by decide +kernel
theorem nd_Cu_takeFitting_33 : decode nc_Cu_takeFitting 33 = .ok (.iaload, 1) := by decide +kernel
theorem nd_Cu_takeFitting_34 : decode nc_Cu_takeFitting 34 = .ok (.iload_n 3, 1) := by decide +kernel
theorem nd_Cu_takeFitting_35 : decode nc_Cu_takeFitting 35 = .ok (.if_icmp .gt 21, 3) := by decide +kernel
theorem nd_Cu_takeFitting_38 : decode nc_Cu_takeFitting 38 = .ok (.aload_n 0, 1) := by decide +kernel
theorem nd_Cu_takeFitting_39 : decode nc_Cu_takeFitting 39 = .ok (.aload_n 1, 1) := by decide +kernel
theorem nd_Cu_takeFitting_40 : decode nc_Cu_takeFitting 40 = .ok (.getfield 15, 3) := by decide +kernel
theorem nd_Cu_takeFitting_43 : decode nc_Cu_takeFitting 43 = .ok (.iload 4, 2) := by decide +kernel
theorem nd_Cu_takeFitting_45 : decode nc_Cu_takeFitting 45 = .ok (.iaload, 1) := by decide +kernel
theorem nd_Cu_takeFitting_46 : decode nc_Cu_takeFitting 46 = .ok (.aload_n 1, 1) := by decide +kernel
theorem nd_Cu_takeFitting_47 : decode nc_Cu_takeFitting 47 = .ok (.getfield 19, 3) := by decide +kernel
theorem nd_Cu_takeFitting_50 : decode nc_Cu_takeFitting 50 = .ok (.iload 4, 2) := by decide +kernel
theorem nd_Cu_takeFitting_52 : decode nc_Cu_takeFitting 52 = .ok (.iaload, 1) := by decide +kernel
theorem nd_Cu_takeFitting_53 : decode nc_Cu_takeFitting 53 = .ok (.invokevirtual 30, 3) := by decide +kernel
theorem nd_Cu_takeFitting_56 : decode nc_Cu_takeFitting 56 = .ok (.iinc 4 1, 3) := by decide +kernel
theorem nd_Cu_takeFitting_59 : decode nc_Cu_takeFitting 59 = .ok (.goto (-52), 3) := by decide +kernel
theorem nd_Cu_takeFitting_62 : decode nc_Cu_takeFitting 62 = .ok (.return_, 1) := by decide +kernel
theorem nd_Cu_leastArea_0 : decode nc_Cu_leastArea 0 = .ok (.iconst (-1), 1) := by decide +kernel
theorem nd_Cu_leastArea_1 : decode nc_Cu_leastArea 1 = .ok (.istore_n 1, 1) := by decide +kernel
theorem nd_Cu_leastArea_2 : decode nc_Cu_leastArea 2 = .ok (.ldc 45, 2) := by decide +kernel
theorem nd_Cu_leastArea_4 : decode nc_Cu_leastArea 4 = .ok (.istore_n 2, 1) := by decide +kernel
theorem nd_Cu_leastArea_5 : decode nc_Cu_leastArea 5 = .ok (.iconst 0, 1) := by decide +kernel
theorem nd_Cu_leastArea_6 : decode nc_Cu_leastArea 6 = .ok (.istore_n 3, 1) := by decide +kernel
theorem nd_Cu_leastArea_7 : decode nc_Cu_leastArea 7 = .ok (.iload_n 3, 1) := by decide +kernel
theorem nd_Cu_leastArea_8 : decode nc_Cu_leastArea 8 = .ok (.aload_n 0, 1) := by decide +kernel
theorem nd_Cu_leastArea_9 : decode nc_Cu_leastArea 9 = .ok (.getfield 9, 3) := by decide +kernel
theorem nd_Cu_leastArea_12 : decode nc_Cu_leastArea 12 = .ok (.if_icmp .ge 42, 3) := by decide +kernel
theorem nd_Cu_leastArea_15 : decode nc_Cu_leastArea 15 = .ok (.aload_n 0, 1) := by decide +kernel
theorem nd_Cu_leastArea_16 : decode nc_Cu_leastArea 16 = .ok (.getfield 15, 3) := by decide +kernel
theorem nd_Cu_leastArea_19 : decode nc_Cu_leastArea 19 = .ok (.iload_n 3, 1) := by decide +kernel
theorem nd_Cu_leastArea_20 : decode nc_Cu_leastArea 20 = .ok (.iaload, 1) := by decide +kernel
theorem nd_Cu_leastArea_21 : decode nc_Cu_leastArea 21 = .ok (.aload_n 0, 1) := by decide +kernel
theorem nd_Cu_leastArea_22 : decode nc_Cu_leastArea 22 = .ok (.getfield 19, 3) := by decide +kernel
theorem nd_Cu_leastArea_25 : decode nc_Cu_leastArea 25 = .ok (.iload_n 3, 1) := by decide +kernel
theorem nd_Cu_leastArea_26 : decode nc_Cu_leastArea 26 = .ok (.iaload, 1) := by decide +kernel
theorem nd_Cu_leastArea_27 : decode nc_Cu_leastArea 27 = .ok (.imul, 1) := by decide +kernel
theorem nd_Cu_leastArea_28 : decode nc_Cu_leastArea 28 = .ok (.iload_n 2, 1) := by decide +kernel
theorem nd_Cu_leastArea_29 : decode nc_Cu_leastArea 29 = .ok (.if_icmp .ge 19, 3) := by decide +kernel
theorem nd_Cu_leastArea_32 : decode nc_Cu_leastArea 32 = .ok (.aload_n 0, 1) := by decide +kernel
theorem nd_Cu_leastArea_33 : decode nc_Cu_leastArea 33 = .ok (.getfield 15, 3) := by decide +kernel
theorem nd_Cu_leastArea_36 : decode nc_Cu_leastArea 36 = .ok (.iload_n 3, 1) := by decide +kernel
theorem nd_Cu_leastArea_37 : decode nc_Cu_leastArea 37 = .ok (.iaload, 1) := by decide +kernel
theorem nd_Cu_leastArea_38 : decode nc_Cu_leastArea 38 = .ok (.aload_n 0, 1) := by decide +kernel
theorem nd_Cu_leastArea_39 : decode nc_Cu_leastArea 39 = .ok (.getfield 19, 3) := by decide +kernel
theorem nd_Cu_leastArea_42 : decode nc_Cu_leastArea 42 = .ok (.iload_n 3, 1) := by decide +kernel
theorem nd_Cu_leastArea_43 : decode nc_Cu_leastArea 43 = .ok (.iaload, 1) := by decide +kernel
theorem nd_Cu_leastArea_44 : decode nc_Cu_leastArea 44 = .ok (.imul, 1) := by decide +kernel
theorem nd_Cu_leastArea_45 : decode nc_Cu_leastArea 45 = .ok (.istore_n 2, 1) := by decide +kernel
theorem nd_Cu_leastArea_46 : decode nc_Cu_leastArea 46 = .ok (.iload_n 3, 1) := by decide +kernel
theorem nd_Cu_leastArea_47 : decode nc_Cu_leastArea 47 = .ok (.istore_n 1, 1) := by decide +kernel
theorem nd_Cu_leastArea_48 : decode nc_Cu_leastArea 48 = .ok (.iinc 3 1, 3) := by decide +kernel
theorem nd_Cu_leastArea_51 : decode nc_Cu_leastArea 51 = .ok (.goto (-44), 3) := by decide +kernel
theorem nd_Cu_leastArea_54 : decode nc_Cu_leastArea 54 = .ok (.iload_n 1, 1) := by decide +kernel
theorem nd_Cu_leastArea_55 : decode nc_Cu_leastArea 55 = .ok (.ireturn, 1) := by decide +kernel
theorem nd_Pl_forget_0 : decode nc_Pl_forget 0 = .ok (.aload_n 0, 1) := by decide +kernel
theorem nd_Pl_forget_1 : decode nc_Pl_forget 1 = .ok (.iconst 0, 1) := by decide +kernel
theorem nd_Pl_forget_2 : decode nc_Pl_forget 2 = .ok (.putfield 32, 3) := by decide +kernel
theorem nd_Pl_forget_5 : decode nc_Pl_forget 5 = .ok (.aload_n 0, 1) := by decide +kernel
theorem nd_Pl_forget_6 : decode nc_Pl_forget 6 = .ok (.iconst 0, 1) := by decide +kernel
theorem nd_Pl_forget_7 : decode nc_Pl_forget 7 = .ok (.putfield 36, 3) := by decide +kernel
theorem nd_Pl_forget_10 : decode nc_Pl_forget 10 = .ok (.return_, 1) := by decide +kernel
theorem nd_Pl_setLot_0 : decode nc_Pl_setLot 0 = .ok (.aload_n 0, 1) := by decide +kernel
theorem nd_Pl_setLot_1 : decode nc_Pl_setLot 1 = .ok (.iload_n 1, 1) := by decide +kernel
theorem nd_Pl_setLot_2 : decode nc_Pl_setLot 2 = .ok (.putfield 25, 3) := by decide +kernel
theorem nd_Pl_setLot_5 : decode nc_Pl_setLot 5 = .ok (.aload_n 0, 1) := by decide +kernel
theorem nd_Pl_setLot_6 : decode nc_Pl_setLot 6 = .ok (.iload_n 2, 1) := by decide +kernel
theorem nd_Pl_setLot_7 : decode nc_Pl_setLot 7 = .ok (.putfield 29, 3) := by decide +kernel
theorem nd_Pl_setLot_10 : decode nc_Pl_setLot 10 = .ok (.aload_n 0, 1) := by decide +kernel
theorem nd_Pl_setLot_11 : decode nc_Pl_setLot 11 = .ok (.invokevirtual 63, 3) := by decide +kernel
theorem nd_Pl_setLot_14 : decode nc_Pl_setLot 14 = .ok (.return_, 1) := by decide +kernel
theorem nd_Pl_hasBest_0 : decode nc_Pl_hasBest 0 = .ok (.aload_n 0, 1) := by decide +kernel
theorem nd_Pl_hasBest_1 : decode nc_Pl_hasBest 1 = .ok (.getfield 50, 3) := by decide +kernel
theorem nd_Pl_hasBest_4 : decode nc_Pl_hasBest 4 = .ok (.iconst (-1), 1) := by decide +kernel
theorem nd_Pl_hasBest_5 : decode nc_Pl_hasBest 5 = .ok (.if_icmp .eq 7, 3) := by decide +kernel
theorem nd_Pl_hasBest_8 : decode nc_Pl_hasBest 8 = .ok (.iconst 1, 1) := by decide +kernel
theorem nd_Pl_hasBest_9 : decode nc_Pl_hasBest 9 = .ok (.goto 4, 3) := by decide +kernel
theorem nd_Pl_hasBest_12 : decode nc_Pl_hasBest 12 = .ok (.iconst 0, 1) := by decide +kernel
theorem nd_Pl_hasBest_13 : decode nc_Pl_hasBest 13 = .ok (.ireturn, 1) := by decide +kernel
theorem nd_Pl_bestWidth_0 : decode nc_Pl_bestWidth 0 = .ok (.aload_n 0, 1) := by decide +kernel
theorem nd_Pl_bestWidth_1 : decode nc_Pl_bestWidth 1 = .ok (.getfield 46, 3) := by decide +kernel
theorem nd_Pl_bestWidth_4 : decode nc_Pl_bestWidth 4 = .ok (.aload_n 0, 1) := by decide +kernel
theorem nd_Pl_bestWidth_5 : decode nc_Pl_bestWidth 5 = .ok (.getfield 50, 3) := by decide +kernel
theorem nd_Pl_bestWidth_8 : decode nc_Pl_bestWidth 8 = .ok (.invokevirtual 66, 3) := by decide +kernel
theorem nd_Pl_bestWidth_11 : decode nc_Pl_bestWidth 11 = .ok (.ireturn, 1) := by decide +kernel
theorem nd_Pl_bestHeight_0 : decode nc_Pl_bestHeight 0 = .ok (.aload_n 0, 1) := by decide +kernel
theorem nd_Pl_bestHeight_1 : decode nc_Pl_bestHeight 1 = .ok (.getfield 46, 3) := by decide +kernel
theorem nd_Pl_bestHeight_4 : decode nc_Pl_bestHeight 4 = .ok (.aload_n 0, 1) := by decide +kernel
theorem nd_Pl_bestHeight_5 : decode nc_Pl_bestHeight 5 = .ok (.getfield 50, 3) := by decide +kernel
theorem nd_Pl_bestHeight_8 : decode nc_Pl_bestHeight 8 = .ok (.invokevirtual 70, 3) := by decide +kernel
theorem nd_Pl_bestHeight_11 : decode nc_Pl_bestHeight 11 = .ok (.ireturn, 1) := by decide +kernel
theorem nd_Pl_bestArea_0 : decode nc_Pl_bestArea 0 = .ok (.aload_n 0, 1) := by decide +kernel
theorem nd_Pl_bestArea_1 : decode nc_Pl_bestArea 1 = .ok (.invokevirtual 73, 3) := by decide +kernel
theorem nd_Pl_bestArea_4 : decode nc_Pl_bestArea 4 = .ok (.ifCond .eq 15, 3) := by decide +kernel
theorem nd_Pl_bestArea_7 : decode nc_Pl_bestArea 7 = .ok (.aload_n 0, 1) := by decide +kernel
theorem nd_Pl_bestArea_8 : decode nc_Pl_bestArea 8 = .ok (.invokevirtual 77, 3) := by decide +kernel
theorem nd_Pl_bestArea_11 : decode nc_Pl_bestArea 11 = .ok (.aload_n 0, 1) := by decide +kernel
theorem nd_Pl_bestArea_12 : decode nc_Pl_bestArea 12 = .ok (.invokevirtual 81, 3) := by decide +kernel
theorem nd_Pl_bestArea_15 : decode nc_Pl_bestArea 15 = .ok (.imul, 1) := by decide +kernel
theorem nd_Pl_bestArea_16 : decode nc_Pl_bestArea 16 = .ok (.goto 5, 3) := by decide +kernel
theorem nd_Pl_bestArea_19 : decode nc_Pl_bestArea 19 = .ok (.ldc 84, 2) := by decide +kernel
theorem nd_Pl_bestArea_21 : decode nc_Pl_bestArea 21 = .ok (.ireturn, 1) := by decide +kernel
theorem nd_St_nodeOf_0 : decode nc_St_nodeOf 0 = .ok (.iload_n 1, 1) := by decide +kernel
theorem nd_St_nodeOf_1 : decode nc_St_nodeOf 1 = .ok (.ifCond .lt 18, 3) := by decide +kernel
theorem nd_St_nodeOf_4 : decode nc_St_nodeOf 4 = .ok (.iload_n 1, 1) := by decide +kernel
theorem nd_St_nodeOf_5 : decode nc_St_nodeOf 5 = .ok (.bipush 6, 2) := by decide +kernel
theorem nd_St_nodeOf_7 : decode nc_St_nodeOf 7 = .ok (.if_icmp .ge 12, 3) := by decide +kernel
theorem nd_St_nodeOf_10 : decode nc_St_nodeOf 10 = .ok (.aload_n 0, 1) := by decide +kernel
theorem nd_St_nodeOf_11 : decode nc_St_nodeOf 11 = .ok (.getfield 31, 3) := by decide +kernel
theorem nd_St_nodeOf_14 : decode nc_St_nodeOf 14 = .ok (.iload_n 1, 1) := by decide +kernel
theorem nd_St_nodeOf_15 : decode nc_St_nodeOf 15 = .ok (.iaload, 1) := by decide +kernel
theorem nd_St_nodeOf_16 : decode nc_St_nodeOf 16 = .ok (.goto 4, 3) := by decide +kernel
theorem nd_St_nodeOf_19 : decode nc_St_nodeOf 19 = .ok (.iconst (-1), 1) := by decide +kernel
theorem nd_St_nodeOf_20 : decode nc_St_nodeOf 20 = .ok (.ireturn, 1) := by decide +kernel
theorem nd_Pl_nodeOfPlaced_0 : decode nc_Pl_nodeOfPlaced 0 = .ok (.aload_n 0, 1) := by decide +kernel
theorem nd_Pl_nodeOfPlaced_1 : decode nc_Pl_nodeOfPlaced 1 = .ok (.invokevirtual 73, 3) := by decide +kernel
theorem nd_Pl_nodeOfPlaced_4 : decode nc_Pl_nodeOfPlaced 4 = .ok (.ifCond .eq 14, 3) := by decide +kernel
theorem nd_Pl_nodeOfPlaced_7 : decode nc_Pl_nodeOfPlaced 7 = .ok (.aload_n 0, 1) := by decide +kernel
theorem nd_Pl_nodeOfPlaced_8 : decode nc_Pl_nodeOfPlaced 8 = .ok (.getfield 21, 3) := by decide +kernel
theorem nd_Pl_nodeOfPlaced_11 : decode nc_Pl_nodeOfPlaced 11 = .ok (.iload_n 1, 1) := by decide +kernel
theorem nd_Pl_nodeOfPlaced_12 : decode nc_Pl_nodeOfPlaced 12 = .ok (.invokevirtual 85, 3) := by decide +kernel
theorem nd_Pl_nodeOfPlaced_15 : decode nc_Pl_nodeOfPlaced 15 = .ok (.goto 4, 3) := by decide +kernel
theorem nd_Pl_nodeOfPlaced_18 : decode nc_Pl_nodeOfPlaced 18 = .ok (.iconst (-1), 1) := by decide +kernel
theorem nd_Pl_nodeOfPlaced_19 : decode nc_Pl_nodeOfPlaced 19 = .ok (.ireturn, 1) := by decide +kernel
theorem nd_St_has_0 : decode nc_St_has 0 = .ok (.iload_n 1, 1) := by decide +kernel
theorem nd_St_has_1 : decode nc_St_has 1 = .ok (.ifCond .lt 21, 3) := by decide +kernel
theorem nd_St_has_4 : decode nc_St_has 4 = .ok (.iload_n 1, 1) := by decide +kernel
theorem nd_St_has_5 : decode nc_St_has 5 = .ok (.aload_n 0, 1) := by decide +kernel
theorem nd_St_has_6 : decode nc_St_has 6 = .ok (.getfield 9, 3) := by decide +kernel
theorem nd_St_has_9 : decode nc_St_has 9 = .ok (.if_icmp .ge 13, 3) := by decide +kernel
theorem nd_St_has_12 : decode nc_St_has 12 = .ok (.iload_n 1, 1) := by decide +kernel
theorem nd_St_has_13 : decode nc_St_has 13 = .ok (.bipush 11, 2) := by decide +kernel
theorem nd_St_has_15 : decode nc_St_has 15 = .ok (.if_icmp .ge 7, 3) := by decide +kernel
theorem nd_St_has_18 : decode nc_St_has 18 = .ok (.iconst 1, 1) := by decide +kernel
theorem nd_St_has_19 : decode nc_St_has 19 = .ok (.goto 4, 3) := by decide +kernel
theorem nd_St_has_22 : decode nc_St_has 22 = .ok (.iconst 0, 1) := by decide +kernel
theorem nd_St_has_23 : decode nc_St_has 23 = .ok (.ireturn, 1) := by decide +kernel
theorem nd_Pl_nodeWidth_0 : decode nc_Pl_nodeWidth 0 = .ok (.aload_n 0, 1) := by decide +kernel
theorem nd_Pl_nodeWidth_1 : decode nc_Pl_nodeWidth 1 = .ok (.getfield 21, 3) := by decide +kernel
theorem nd_Pl_nodeWidth_4 : decode nc_Pl_nodeWidth 4 = .ok (.iload_n 1, 1) := by decide +kernel
theorem nd_Pl_nodeWidth_5 : decode nc_Pl_nodeWidth 5 = .ok (.invokevirtual 91, 3) := by decide +kernel
theorem nd_Pl_nodeWidth_8 : decode nc_Pl_nodeWidth 8 = .ok (.ifCond .eq 16, 3) := by decide +kernel
theorem nd_Pl_nodeWidth_11 : decode nc_Pl_nodeWidth 11 = .ok (.aload_n 0, 1) := by decide +kernel
theorem nd_Pl_nodeWidth_12 : decode nc_Pl_nodeWidth 12 = .ok (.getfield 41, 3) := by decide +kernel
theorem nd_Pl_nodeWidth_15 : decode nc_Pl_nodeWidth 15 = .ok (.iload_n 1, 1) := by decide +kernel
theorem nd_Pl_nodeWidth_16 : decode nc_Pl_nodeWidth 16 = .ok (.aaload, 1) := by decide +kernel
theorem nd_Pl_nodeWidth_17 : decode nc_Pl_nodeWidth 17 = .ok (.iconst 0, 1) := by decide +kernel
theorem nd_Pl_nodeWidth_18 : decode nc_Pl_nodeWidth 18 = .ok (.invokevirtual 66, 3) := by decide +kernel
theorem nd_Pl_nodeWidth_21 : decode nc_Pl_nodeWidth 21 = .ok (.goto 4, 3) := by decide +kernel
theorem nd_Pl_nodeWidth_24 : decode nc_Pl_nodeWidth 24 = .ok (.iconst (-1), 1) := by decide +kernel
theorem nd_Pl_nodeWidth_25 : decode nc_Pl_nodeWidth 25 = .ok (.ireturn, 1) := by decide +kernel
theorem nd_Pl_nodeHeight_0 : decode nc_Pl_nodeHeight 0 = .ok (.aload_n 0, 1) := by decide +kernel
theorem nd_Pl_nodeHeight_1 : decode nc_Pl_nodeHeight 1 = .ok (.getfield 21, 3) := by decide +kernel
theorem nd_Pl_nodeHeight_4 : decode nc_Pl_nodeHeight 4 = .ok (.iload_n 1, 1) := by decide +kernel
theorem nd_Pl_nodeHeight_5 : decode nc_Pl_nodeHeight 5 = .ok (.invokevirtual 91, 3) := by decide +kernel
theorem nd_Pl_nodeHeight_8 : decode nc_Pl_nodeHeight 8 = .ok (.ifCond .eq 16, 3) := by decide +kernel
theorem nd_Pl_nodeHeight_11 : decode nc_Pl_nodeHeight 11 = .ok (.aload_n 0, 1) := by decide +kernel
theorem nd_Pl_nodeHeight_12 : decode nc_Pl_nodeHeight 12 = .ok (.getfield 41, 3) := by decide +kernel
theorem nd_Pl_nodeHeight_15 : decode nc_Pl_nodeHeight 15 = .ok (.iload_n 1, 1) := by decide +kernel
theorem nd_Pl_nodeHeight_16 : decode nc_Pl_nodeHeight 16 = .ok (.aaload, 1) := by decide +kernel
theorem nd_Pl_nodeHeight_17 : decode nc_Pl_nodeHeight 17 = .ok (.iconst 0, 1) := by decide +kernel
theorem nd_Pl_nodeHeight_18 : decode nc_Pl_nodeHeight 18 = .ok (.invokevirtual 70, 3) := by decide +kernel
theorem nd_Pl_nodeHeight_21 : decode nc_Pl_nodeHeight 21 = .ok (.goto 4, 3) := by decide +kernel
theorem nd_Pl_nodeHeight_24 : decode nc_Pl_nodeHeight 24 = .ok (.iconst (-1), 1) := by decide +kernel
theorem nd_Pl_nodeHeight_25 : decode nc_Pl_nodeHeight 25 = .ok (.ireturn, 1) := by decide +kernel
theorem nd_Pl_readPlace_0 : decode nc_Pl_readPlace 0 = .ok (.aload_n 0, 1) := by decide +kernel
theorem nd_Pl_readPlace_1 : decode nc_Pl_readPlace 1 = .ok (.iload_n 1, 1) := by decide +kernel
theorem nd_Pl_readPlace_2 : decode nc_Pl_readPlace 2 = .ok (.invokevirtual 88, 3) := by decide +kernel
theorem nd_Pl_readPlace_5 : decode nc_Pl_readPlace 5 = .ok (.istore_n 3, 1) := by decide +kernel
theorem nd_Pl_readPlace_6 : decode nc_Pl_readPlace 6 = .ok (.aload_n 0, 1) := by decide +kernel
theorem nd_Pl_readPlace_7 : decode nc_Pl_readPlace 7 = .ok (.getfield 21, 3) := by decide +kernel
theorem nd_Pl_readPlace_10 : decode nc_Pl_readPlace 10 = .ok (.iload_n 3, 1) := by decide +kernel
theorem nd_Pl_readPlace_11 : decode nc_Pl_readPlace 11 = .ok (.invokevirtual 91, 3) := by decide +kernel
theorem nd_Pl_readPlace_14 : decode nc_Pl_readPlace 14 = .ok (.ifCond .ne 5, 3) := by decide +kernel
theorem nd_Pl_readPlace_17 : decode nc_Pl_readPlace 17 = .ok (.iconst (-1), 1) := by decide +kernel
theorem nd_Pl_readPlace_18 : decode nc_Pl_readPlace 18 = .ok (.ireturn, 1) := by decide +kernel
theorem nd_Pl_readPlace_19 : decode nc_Pl_readPlace 19 = .ok (.iload_n 2, 1) := by decide +kernel
theorem nd_Pl_readPlace_20 : decode nc_Pl_readPlace 20 = .ok (.tableswitch 59 0 3 #[32, 39, 46, 53], 32) := by decide +kernel
theorem nd_Pl_readPlace_52 : decode nc_Pl_readPlace 52 = .ok (.aload_n 0, 1) := by decide +kernel
theorem nd_Pl_readPlace_53 : decode nc_Pl_readPlace 53 = .ok (.getfield 53, 3) := by decide +kernel
theorem nd_Pl_readPlace_56 : decode nc_Pl_readPlace 56 = .ok (.iload_n 3, 1) := by decide +kernel
theorem nd_Pl_readPlace_57 : decode nc_Pl_readPlace 57 = .ok (.iaload, 1) := by decide +kernel
theorem nd_Pl_readPlace_58 : decode nc_Pl_readPlace 58 = .ok (.ireturn, 1) := by decide +kernel
theorem nd_Pl_readPlace_59 : decode nc_Pl_readPlace 59 = .ok (.aload_n 0, 1) := by decide +kernel
theorem nd_Pl_readPlace_60 : decode nc_Pl_readPlace 60 = .ok (.getfield 57, 3) := by decide +kernel
theorem nd_Pl_readPlace_63 : decode nc_Pl_readPlace 63 = .ok (.iload_n 3, 1) := by decide +kernel
theorem nd_Pl_readPlace_64 : decode nc_Pl_readPlace 64 = .ok (.iaload, 1) := by decide +kernel
theorem nd_Pl_readPlace_65 : decode nc_Pl_readPlace 65 = .ok (.ireturn, 1) := by decide +kernel
theorem nd_Pl_readPlace_66 : decode nc_Pl_readPlace 66 = .ok (.aload_n 0, 1) := by decide +kernel
theorem nd_Pl_readPlace_67 : decode nc_Pl_readPlace 67 = .ok (.getfield 60, 3) := by decide +kernel
theorem nd_Pl_readPlace_70 : decode nc_Pl_readPlace 70 = .ok (.iload_n 3, 1) := by decide +kernel
theorem nd_Pl_readPlace_71 : decode nc_Pl_readPlace 71 = .ok (.iaload, 1) := by decide +kernel
theorem nd_Pl_readPlace_72 : decode nc_Pl_readPlace 72 = .ok (.ireturn, 1) := by decide +kernel
theorem nd_Pl_readPlace_73 : decode nc_Pl_readPlace 73 = .ok (.aload_n 0, 1) := by decide +kernel
theorem nd_Pl_readPlace_74 : decode nc_Pl_readPlace 74 = .ok (.iload_n 3, 1) := by decide +kernel
theorem nd_Pl_readPlace_75 : decode nc_Pl_readPlace 75 = .ok (.invokevirtual 95, 3) := by decide +kernel
theorem nd_Pl_readPlace_78 : decode nc_Pl_readPlace 78 = .ok (.ireturn, 1) := by decide +kernel
theorem nd_Pl_readPlace_79 : decode nc_Pl_readPlace 79 = .ok (.aload_n 0, 1) := by decide +kernel
theorem nd_Pl_readPlace_80 : decode nc_Pl_readPlace 80 = .ok (.iload_n 3, 1) := by decide +kernel
theorem nd_Pl_readPlace_81 : decode nc_Pl_readPlace 81 = .ok (.invokevirtual 98, 3) := by decide +kernel
theorem nd_Pl_readPlace_84 : decode nc_Pl_readPlace 84 = .ok (.ireturn, 1) := by decide +kernel
theorem nd_Pl_sharedWall_0 : decode nc_Pl_sharedWall 0 = .ok (.aload_n 0, 1) := by decide +kernel
theorem nd_Pl_sharedWall_1 : decode nc_Pl_sharedWall 1 = .ok (.iload_n 1, 1) := by decide +kernel
theorem nd_Pl_sharedWall_2 : decode nc_Pl_sharedWall 2 = .ok (.invokevirtual 88, 3) := by decide +kernel
theorem nd_Pl_sharedWall_5 : decode nc_Pl_sharedWall 5 = .ok (.istore_n 3, 1) := by decide +kernel
theorem nd_Pl_sharedWall_6 : decode nc_Pl_sharedWall 6 = .ok (.aload_n 0, 1) := by decide +kernel
theorem nd_Pl_sharedWall_7 : decode nc_Pl_sharedWall 7 = .ok (.iload_n 2, 1) := by decide +kernel
theorem nd_Pl_sharedWall_8 : decode nc_Pl_sharedWall 8 = .ok (.invokevirtual 88, 3) := by decide +kernel
theorem nd_Pl_sharedWall_11 : decode nc_Pl_sharedWall 11 = .ok (.istore 4, 2) := by decide +kernel
theorem nd_Pl_sharedWall_13 : decode nc_Pl_sharedWall 13 = .ok (.aload_n 0, 1) := by decide +kernel
theorem nd_Pl_sharedWall_14 : decode nc_Pl_sharedWall 14 = .ok (.getfield 21, 3) := by decide +kernel
theorem nd_Pl_sharedWall_17 : decode nc_Pl_sharedWall 17 = .ok (.iload_n 3, 1) := by decide +kernel
theorem nd_Pl_sharedWall_18 : decode nc_Pl_sharedWall 18 = .ok (.invokevirtual 91, 3) := by decide +kernel
theorem nd_Pl_sharedWall_21 : decode nc_Pl_sharedWall 21 = .ok (.ifCond .eq 15, 3) := by decide +kernel
theorem nd_Pl_sharedWall_24 : decode nc_Pl_sharedWall 24 = .ok (.aload_n 0, 1) := by decide +kernel
theorem nd_Pl_sharedWall_25 : decode nc_Pl_sharedWall 25 = .ok (.getfield 21, 3) := by decide +kernel
theorem nd_Pl_sharedWall_28 : decode nc_Pl_sharedWall 28 = .ok (.iload 4, 2) := by decide +kernel
theorem nd_Pl_sharedWall_30 : decode nc_Pl_sharedWall 30 = .ok (.invokevirtual 91, 3) := by decide +kernel
theorem nd_Pl_sharedWall_33 : decode nc_Pl_sharedWall 33 = .ok (.ifCond .ne 5, 3) := by decide +kernel
theorem nd_Pl_sharedWall_36 : decode nc_Pl_sharedWall 36 = .ok (.iconst (-1), 1) := by decide +kernel
theorem nd_Pl_sharedWall_37 : decode nc_Pl_sharedWall 37 = .ok (.ireturn, 1) := by decide +kernel
theorem nd_Pl_sharedWall_38 : decode nc_Pl_sharedWall 38 = .ok (.aload_n 0, 1) := by decide +kernel
theorem nd_Pl_sharedWall_39 : decode nc_Pl_sharedWall 39 = .ok (.getfield 57, 3) := by decide +kernel
theorem nd_Pl_sharedWall_42 : decode nc_Pl_sharedWall 42 = .ok (.iload_n 3, 1) := by decide +kernel
theorem nd_Pl_sharedWall_43 : decode nc_Pl_sharedWall 43 = .ok (.iaload, 1) := by decide +kernel
theorem nd_Pl_sharedWall_44 : decode nc_Pl_sharedWall 44 = .ok (.aload_n 0, 1) := by decide +kernel
theorem nd_Pl_sharedWall_45 : decode nc_Pl_sharedWall 45 = .ok (.iload_n 3, 1) := by decide +kernel
theorem nd_Pl_sharedWall_46 : decode nc_Pl_sharedWall 46 = .ok (.invokevirtual 95, 3) := by decide +kernel
theorem nd_Pl_sharedWall_49 : decode nc_Pl_sharedWall 49 = .ok (.iadd, 1) := by decide +kernel
theorem nd_Pl_sharedWall_50 : decode nc_Pl_sharedWall 50 = .ok (.istore 5, 2) := by decide +kernel
theorem nd_Pl_sharedWall_52 : decode nc_Pl_sharedWall 52 = .ok (.aload_n 0, 1) := by decide +kernel
theorem nd_Pl_sharedWall_53 : decode nc_Pl_sharedWall 53 = .ok (.getfield 57, 3) := by decide +kernel
theorem nd_Pl_sharedWall_56 : decode nc_Pl_sharedWall 56 = .ok (.iload 4, 2) := by decide +kernel
theorem nd_Pl_sharedWall_58 : decode nc_Pl_sharedWall 58 = .ok (.iaload, 1) := by decide +kernel
theorem nd_Pl_sharedWall_59 : decode nc_Pl_sharedWall 59 = .ok (.aload_n 0, 1) := by decide +kernel
theorem nd_Pl_sharedWall_60 : decode nc_Pl_sharedWall 60 = .ok (.iload 4, 2) := by decide +kernel
theorem nd_Pl_sharedWall_62 : decode nc_Pl_sharedWall 62 = .ok (.invokevirtual 95, 3) := by decide +kernel
theorem nd_Pl_sharedWall_65 : decode nc_Pl_sharedWall 65 = .ok (.iadd, 1) := by decide +kernel
theorem nd_Pl_sharedWall_66 : decode nc_Pl_sharedWall 66 = .ok (.istore 6, 2) := by decide +kernel
theorem nd_Pl_sharedWall_68 : decode nc_Pl_sharedWall 68 = .ok (.aload_n 0, 1) := by decide +kernel
theorem nd_Pl_sharedWall_69 : decode nc_Pl_sharedWall 69 = .ok (.getfield 60, 3) := by decide +kernel
theorem nd_Pl_sharedWall_72 : decode nc_Pl_sharedWall 72 = .ok (.iload_n 3, 1) := by decide +kernel
theorem nd_Pl_sharedWall_73 : decode nc_Pl_sharedWall 73 = .ok (.iaload, 1) := by decide +kernel
theorem nd_Pl_sharedWall_74 : decode nc_Pl_sharedWall 74 = .ok (.aload_n 0, 1) := by decide +kernel
theorem nd_Pl_sharedWall_75 : decode nc_Pl_sharedWall 75 = .ok (.iload_n 3, 1) := by decide +kernel
theorem nd_Pl_sharedWall_76 : decode nc_Pl_sharedWall 76 = .ok (.invokevirtual 98, 3) := by decide +kernel
theorem nd_Pl_sharedWall_79 : decode nc_Pl_sharedWall 79 = .ok (.iadd, 1) := by decide +kernel
theorem nd_Pl_sharedWall_80 : decode nc_Pl_sharedWall 80 = .ok (.istore 7, 2) := by decide +kernel
theorem nd_Pl_sharedWall_82 : decode nc_Pl_sharedWall 82 = .ok (.aload_n 0, 1) := by decide +kernel
theorem nd_Pl_sharedWall_83 : decode nc_Pl_sharedWall 83 = .ok (.getfield 60, 3) := by decide +kernel
theorem nd_Pl_sharedWall_86 : decode nc_Pl_sharedWall 86 = .ok (.iload 4, 2) := by decide +kernel
theorem nd_Pl_sharedWall_88 : decode nc_Pl_sharedWall 88 = .ok (.iaload, 1) := by decide +kernel
theorem nd_Pl_sharedWall_89 : decode nc_Pl_sharedWall 89 = .ok (.aload_n 0, 1) := by decide +kernel
theorem nd_Pl_sharedWall_90 : decode nc_Pl_sharedWall 90 = .ok (.iload 4, 2) := by decide +kernel
theorem nd_Pl_sharedWall_92 : decode nc_Pl_sharedWall 92 = .ok (.invokevirtual 98, 3) := by decide +kernel
theorem nd_Pl_sharedWall_95 : decode nc_Pl_sharedWall 95 = .ok (.iadd, 1) := by decide +kernel
theorem nd_Pl_sharedWall_96 : decode nc_Pl_sharedWall 96 = .ok (.istore 8, 2) := by decide +kernel
theorem nd_Pl_sharedWall_98 : decode nc_Pl_sharedWall 98 = .ok (.iconst 0, 1) := by decide +kernel
theorem nd_Pl_sharedWall_99 : decode nc_Pl_sharedWall 99 = .ok (.istore 9, 2) := by decide +kernel
theorem nd_Pl_sharedWall_101 : decode nc_Pl_sharedWall 101 = .ok (.iload 5, 2) := by decide +kernel
theorem nd_Pl_sharedWall_103 : decode nc_Pl_sharedWall 103 = .ok (.aload_n 0, 1) := by decide +kernel
theorem nd_Pl_sharedWall_104 : decode nc_Pl_sharedWall 104 = .ok (.getfield 57, 3) := by decide +kernel
theorem nd_Pl_sharedWall_107 : decode nc_Pl_sharedWall 107 = .ok (.iload 4, 2) := by decide +kernel
theorem nd_Pl_sharedWall_109 : decode nc_Pl_sharedWall 109 = .ok (.iaload, 1) := by decide +kernel
theorem nd_Pl_sharedWall_110 : decode nc_Pl_sharedWall 110 = .ok (.if_icmp .eq 14, 3) := by decide +kernel
theorem nd_Pl_sharedWall_113 : decode nc_Pl_sharedWall 113 = .ok (.iload 6, 2) := by decide +kernel
theorem nd_Pl_sharedWall_115 : decode nc_Pl_sharedWall 115 = .ok (.aload_n 0, 1) := by decide +kernel
theorem nd_Pl_sharedWall_116 : decode nc_Pl_sharedWall 116 = .ok (.getfield 57, 3) := by decide +kernel
theorem nd_Pl_sharedWall_119 : decode nc_Pl_sharedWall 119 = .ok (.iload_n 3, 1) := by decide +kernel
theorem nd_Pl_sharedWall_120 : decode nc_Pl_sharedWall 120 = .ok (.iaload, 1) := by decide +kernel
theorem nd_Pl_sharedWall_121 : decode nc_Pl_sharedWall 121 = .ok (.if_icmp .ne 32, 3) := by decide +kernel
theorem nd_Pl_sharedWall_124 : decode nc_Pl_sharedWall 124 = .ok (.iload 7, 2) := by decide +kernel
theorem nd_Pl_sharedWall_126 : decode nc_Pl_sharedWall 126 = .ok (.iload 8, 2) := by decide +kernel
theorem nd_Pl_sharedWall_128 : decode nc_Pl_sharedWall 128 = .ok (.invokestatic 101, 3) := by decide +kernel
theorem nd_Pl_sharedWall_131 : decode nc_Pl_sharedWall 131 = .ok (.aload_n 0, 1) := by decide +kernel
theorem nd_Pl_sharedWall_132 : decode nc_Pl_sharedWall 132 = .ok (.getfield 60, 3) := by decide +kernel
theorem nd_Pl_sharedWall_135 : decode nc_Pl_sharedWall 135 = .ok (.iload_n 3, 1) := by decide +kernel
theorem nd_Pl_sharedWall_136 : decode nc_Pl_sharedWall 136 = .ok (.iaload, 1) := by decide +kernel
theorem nd_Pl_sharedWall_137 : decode nc_Pl_sharedWall 137 = .ok (.aload_n 0, 1) := by decide +kernel
theorem nd_Pl_sharedWall_138 : decode nc_Pl_sharedWall 138 = .ok (.getfield 60, 3) := by decide +kernel
theorem nd_Pl_sharedWall_141 : decode nc_Pl_sharedWall 141 = .ok (.iload 4, 2) := by decide +kernel
theorem nd_Pl_sharedWall_143 : decode nc_Pl_sharedWall 143 = .ok (.iaload, 1) := by decide +kernel
theorem nd_Pl_sharedWall_144 : decode nc_Pl_sharedWall 144 = .ok (.invokestatic 107, 3) := by decide +kernel
theorem nd_Pl_sharedWall_147 : decode nc_Pl_sharedWall 147 = .ok (.isub, 1) := by decide +kernel
theorem nd_Pl_sharedWall_148 : decode nc_Pl_sharedWall 148 = .ok (.istore 9, 2) := by decide +kernel
theorem nd_Pl_sharedWall_150 : decode nc_Pl_sharedWall 150 = .ok (.goto 52, 3) := by decide +kernel
theorem nd_Pl_sharedWall_153 : decode nc_Pl_sharedWall 153 = .ok (.iload 7, 2) := by decide +kernel
theorem nd_Pl_sharedWall_155 : decode nc_Pl_sharedWall 155 = .ok (.aload_n 0, 1) := by decide +kernel
theorem nd_Pl_sharedWall_156 : decode nc_Pl_sharedWall 156 = .ok (.getfield 60, 3) := by decide +kernel
theorem nd_Pl_sharedWall_159 : decode nc_Pl_sharedWall 159 = .ok (.iload 4, 2) := by decide +kernel
theorem nd_Pl_sharedWall_161 : decode nc_Pl_sharedWall 161 = .ok (.iaload, 1) := by decide +kernel
theorem nd_Pl_sharedWall_162 : decode nc_Pl_sharedWall 162 = .ok (.if_icmp .eq 14, 3) := by decide +kernel
theorem nd_Pl_sharedWall_165 : decode nc_Pl_sharedWall 165 = .ok (.iload 8, 2) := by decide +kernel
theorem nd_Pl_sharedWall_167 : decode nc_Pl_sharedWall 167 = .ok (.aload_n 0, 1) := by decide +kernel
theorem nd_Pl_sharedWall_168 : decode nc_Pl_sharedWall 168 = .ok (.getfield 60, 3) := by decide +kernel
theorem nd_Pl_sharedWall_171 : decode nc_Pl_sharedWall 171 = .ok (.iload_n 3, 1) := by decide +kernel
theorem nd_Pl_sharedWall_172 : decode nc_Pl_sharedWall 172 = .ok (.iaload, 1) := by decide +kernel
theorem nd_Pl_sharedWall_173 : decode nc_Pl_sharedWall 173 = .ok (.if_icmp .ne 29, 3) := by decide +kernel
theorem nd_Pl_sharedWall_176 : decode nc_Pl_sharedWall 176 = .ok (.iload 5, 2) := by decide +kernel
theorem nd_Pl_sharedWall_178 : decode nc_Pl_sharedWall 178 = .ok (.iload 6, 2) := by decide +kernel
theorem nd_Pl_sharedWall_180 : decode nc_Pl_sharedWall 180 = .ok (.invokestatic 101, 3) := by decide +kernel
theorem nd_Pl_sharedWall_183 : decode nc_Pl_sharedWall 183 = .ok (.aload_n 0, 1) := by decide +kernel
theorem nd_Pl_sharedWall_184 : decode nc_Pl_sharedWall 184 = .ok (.getfield 57, 3) := by decide +kernel
theorem nd_Pl_sharedWall_187 : decode nc_Pl_sharedWall 187 = .ok (.iload_n 3, 1) := by decide +kernel
theorem nd_Pl_sharedWall_188 : decode nc_Pl_sharedWall 188 = .ok (.iaload, 1) := by decide +kernel
theorem nd_Pl_sharedWall_189 : decode nc_Pl_sharedWall 189 = .ok (.aload_n 0, 1) := by decide +kernel
theorem nd_Pl_sharedWall_190 : decode nc_Pl_sharedWall 190 = .ok (.getfield 57, 3) := by decide +kernel
theorem nd_Pl_sharedWall_193 : decode nc_Pl_sharedWall 193 = .ok (.iload 4, 2) := by decide +kernel
theorem nd_Pl_sharedWall_195 : decode nc_Pl_sharedWall 195 = .ok (.iaload, 1) := by decide +kernel
theorem nd_Pl_sharedWall_196 : decode nc_Pl_sharedWall 196 = .ok (.invokestatic 107, 3) := by decide +kernel
theorem nd_Pl_sharedWall_199 : decode nc_Pl_sharedWall 199 = .ok (.isub, 1) := by decide +kernel
theorem nd_Pl_sharedWall_200 : decode nc_Pl_sharedWall 200 = .ok (.istore 9, 2) := by decide +kernel
theorem nd_Pl_sharedWall_202 : decode nc_Pl_sharedWall 202 = .ok (.iload 9, 2) := by decide +kernel
theorem nd_Pl_sharedWall_204 : decode nc_Pl_sharedWall 204 = .ok (.iconst 0, 1) := by decide +kernel
theorem nd_Pl_sharedWall_205 : decode nc_Pl_sharedWall 205 = .ok (.invokestatic 107, 3) := by decide +kernel
theorem nd_Pl_sharedWall_208 : decode nc_Pl_sharedWall 208 = .ok (.ireturn, 1) := by decide +kernel
theorem nd_St_signAt_0 : decode nc_St_signAt 0 = .ok (.aload_n 0, 1) := by decide +kernel
theorem nd_St_signAt_1 : decode nc_St_signAt 1 = .ok (.iload_n 1, 1) := by decide +kernel
theorem nd_St_signAt_2 : decode nc_St_signAt 2 = .ok (.invokevirtual 65, 3) := by decide +kernel
theorem nd_St_signAt_5 : decode nc_St_signAt 5 = .ok (.ifCond .eq 12, 3) := by decide +kernel
theorem nd_St_signAt_8 : decode nc_St_signAt 8 = .ok (.aload_n 0, 1) := by decide +kernel
theorem nd_St_signAt_9 : decode nc_St_signAt 9 = .ok (.getfield 15, 3) := by decide +kernel
theorem nd_St_signAt_12 : decode nc_St_signAt 12 = .ok (.iload_n 1, 1) := by decide +kernel
theorem nd_St_signAt_13 : decode nc_St_signAt 13 = .ok (.iaload, 1) := by decide +kernel
theorem nd_St_signAt_14 : decode nc_St_signAt 14 = .ok (.goto 4, 3) := by decide +kernel
theorem nd_St_signAt_17 : decode nc_St_signAt 17 = .ok (.iconst (-1), 1) := by decide +kernel
theorem nd_St_signAt_18 : decode nc_St_signAt 18 = .ok (.ireturn, 1) := by decide +kernel
theorem nd_Ro_roomOfSign_0 : decode nc_Ro_roomOfSign 0 = .ok (.iload_n 0, 1) := by decide +kernel
theorem nd_Ro_roomOfSign_1 : decode nc_Ro_roomOfSign 1 = .ok (.bipush 48, 2) := by decide +kernel
theorem nd_Ro_roomOfSign_3 : decode nc_Ro_roomOfSign 3 = .ok (.if_icmp .lt 16, 3) := by decide +kernel
theorem nd_Ro_roomOfSign_6 : decode nc_Ro_roomOfSign 6 = .ok (.iload_n 0, 1) := by decide +kernel
theorem nd_Ro_roomOfSign_7 : decode nc_Ro_roomOfSign 7 = .ok (.bipush 57, 2) := by decide +kernel
theorem nd_Ro_roomOfSign_9 : decode nc_Ro_roomOfSign 9 = .ok (.if_icmp .gt 10, 3) := by decide +kernel
theorem nd_Ro_roomOfSign_12 : decode nc_Ro_roomOfSign 12 = .ok (.iload_n 0, 1) := by decide +kernel
theorem nd_Ro_roomOfSign_13 : decode nc_Ro_roomOfSign 13 = .ok (.bipush 48, 2) := by decide +kernel
theorem nd_Ro_roomOfSign_15 : decode nc_Ro_roomOfSign 15 = .ok (.isub, 1) := by decide +kernel
theorem nd_Ro_roomOfSign_16 : decode nc_Ro_roomOfSign 16 = .ok (.goto 4, 3) := by decide +kernel
theorem nd_Ro_roomOfSign_19 : decode nc_Ro_roomOfSign 19 = .ok (.iconst (-1), 1) := by decide +kernel
theorem nd_Ro_roomOfSign_20 : decode nc_Ro_roomOfSign 20 = .ok (.ireturn, 1) := by decide +kernel
theorem nd_St_roomAt_0 : decode nc_St_roomAt 0 = .ok (.aload_n 0, 1) := by decide +kernel
theorem nd_St_roomAt_1 : decode nc_St_roomAt 1 = .ok (.iload_n 1, 1) := by decide +kernel
theorem nd_St_roomAt_2 : decode nc_St_roomAt 2 = .ok (.invokevirtual 68, 3) := by decide +kernel
theorem nd_St_roomAt_5 : decode nc_St_roomAt 5 = .ok (.invokestatic 62, 3) := by decide +kernel
theorem nd_St_roomAt_8 : decode nc_St_roomAt 8 = .ok (.ireturn, 1) := by decide +kernel
theorem nd_St_firstOf_0 : decode nc_St_firstOf 0 = .ok (.aload_n 0, 1) := by decide +kernel
theorem nd_St_firstOf_1 : decode nc_St_firstOf 1 = .ok (.iload_n 1, 1) := by decide +kernel
theorem nd_St_firstOf_2 : decode nc_St_firstOf 2 = .ok (.invokevirtual 65, 3) := by decide +kernel
theorem nd_St_firstOf_5 : decode nc_St_firstOf 5 = .ok (.ifCond .eq 12, 3) := by decide +kernel
theorem nd_St_firstOf_8 : decode nc_St_firstOf 8 = .ok (.aload_n 0, 1) := by decide +kernel
theorem nd_St_firstOf_9 : decode nc_St_firstOf 9 = .ok (.getfield 19, 3) := by decide +kernel
theorem nd_St_firstOf_12 : decode nc_St_firstOf 12 = .ok (.iload_n 1, 1) := by decide +kernel
theorem nd_St_firstOf_13 : decode nc_St_firstOf 13 = .ok (.iaload, 1) := by decide +kernel
theorem nd_St_firstOf_14 : decode nc_St_firstOf 14 = .ok (.goto 4, 3) := by decide +kernel
theorem nd_St_firstOf_17 : decode nc_St_firstOf 17 = .ok (.iconst (-1), 1) := by decide +kernel
theorem nd_St_firstOf_18 : decode nc_St_firstOf 18 = .ok (.ireturn, 1) := by decide +kernel
theorem nd_St_secondOf_0 : decode nc_St_secondOf 0 = .ok (.aload_n 0, 1) := by decide +kernel
theorem nd_St_secondOf_1 : decode nc_St_secondOf 1 = .ok (.iload_n 1, 1) := by decide +kernel
theorem nd_St_secondOf_2 : decode nc_St_secondOf 2 = .ok (.invokevirtual 65, 3) := by decide +kernel
theorem nd_St_secondOf_5 : decode nc_St_secondOf 5 = .ok (.ifCond .eq 12, 3) := by decide +kernel
theorem nd_St_secondOf_8 : decode nc_St_secondOf 8 = .ok (.aload_n 0, 1) := by decide +kernel
theorem nd_St_secondOf_9 : decode nc_St_secondOf 9 = .ok (.getfield 22, 3) := by decide +kernel
theorem nd_St_secondOf_12 : decode nc_St_secondOf 12 = .ok (.iload_n 1, 1) := by decide +kernel
theorem nd_St_secondOf_13 : decode nc_St_secondOf 13 = .ok (.iaload, 1) := by decide +kernel
theorem nd_St_secondOf_14 : decode nc_St_secondOf 14 = .ok (.goto 4, 3) := by decide +kernel
theorem nd_St_secondOf_17 : decode nc_St_secondOf 17 = .ok (.iconst (-1), 1) := by decide +kernel
theorem nd_St_secondOf_18 : decode nc_St_secondOf 18 = .ok (.ireturn, 1) := by decide +kernel
theorem nd_Pl_join_0 : decode nc_Pl_join 0 = .ok (.aload_n 0, 1) := by decide +kernel
theorem nd_Pl_join_1 : decode nc_Pl_join 1 = .ok (.getfield 21, 3) := by decide +kernel
theorem nd_Pl_join_4 : decode nc_Pl_join 4 = .ok (.iload_n 1, 1) := by decide +kernel
theorem nd_Pl_join_5 : decode nc_Pl_join 5 = .ok (.invokevirtual 146, 3) := by decide +kernel
theorem nd_Pl_join_8 : decode nc_Pl_join 8 = .ok (.istore_n 2, 1) := by decide +kernel
theorem nd_Pl_join_9 : decode nc_Pl_join 9 = .ok (.aload_n 0, 1) := by decide +kernel
theorem nd_Pl_join_10 : decode nc_Pl_join 10 = .ok (.getfield 21, 3) := by decide +kernel
theorem nd_Pl_join_13 : decode nc_Pl_join 13 = .ok (.iload_n 1, 1) := by decide +kernel
theorem nd_Pl_join_14 : decode nc_Pl_join 14 = .ok (.invokevirtual 149, 3) := by decide +kernel
theorem nd_Pl_join_17 : decode nc_Pl_join 17 = .ok (.istore_n 3, 1) := by decide +kernel
theorem nd_Pl_join_18 : decode nc_Pl_join 18 = .ok (.aload_n 0, 1) := by decide +kernel
