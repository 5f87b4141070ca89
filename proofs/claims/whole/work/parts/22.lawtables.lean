theorem ng_in_Ro : Cond.instantiable nR_Ro 3 ∈ rl_TT := rl_tin 50 (by decide +kernel) rfl
theorem ng_in_Mo : Cond.instantiable nR_Mo 27 ∈ rl_TT := rl_tin 682 (by decide +kernel) rfl
theorem ng_arr_long : Cond.arrayClass .long ∈ rl_TT := rl_tin 893 (by decide +kernel) rfl
theorem ng_La_8 : Cond.classLink nR_La 8 nR_Ro ∈ rl_TT := rl_tin 49 (by decide +kernel) rfl
theorem ng_La_54 : Cond.classLink nR_La 54 nR_Mo ∈ rl_TT := rl_tin 681 (by decide +kernel) rfl
theorem nm_law_53 : Cond.methodLink nR_La 53 ny_Ro_init ∈ rl_TT := rl_tin 51 (by decide +kernel) rfl
theorem nm_law_56 : Cond.methodLink nR_La 56 ny_Mo_init ∈ rl_TT := rl_tin 683 (by decide +kernel) rfl
theorem nm_im_Ro_init : Cond.instanceMethod ny_Ro_init ∈ rl_TT := rl_tin 52 (by decide +kernel) rfl
theorem nm_im_Mo_init : Cond.instanceMethod ny_Mo_init ∈ rl_TT := rl_tin 684 (by decide +kernel) rfl
theorem nh_Ro_init : Cond.code ny_Ro_init nc_Ro_init 1 none ∈ rl_TT := rl_tin 53 (by decide +kernel) rfl
theorem nh_Mo_init : Cond.code ny_Mo_init nc_Mo_init 1 none ∈ rl_TT := rl_tin 685 (by decide +kernel) rfl
/-- where the cells lie, in the order in which they are made -/
def rl_pm (k : Nat) : Nat := if k < 16 then k else if k < 19 then k + 3 else if k < 23 then k + 36 else if k < 56 then k - 1 else if k < 59 then k - 40 else k
theorem rl_pm_lt : ∀ k, k < 79 → rl_pm k < 79 := by decide +kernel
theorem rl_pm_inj : ∀ i, i < 79 → ∀ j, j < 79 → rl_pm i = rl_pm j → i = j := by decide +kernel
/-- the numbers at the start -/
def rl_s0 : rl_M := fun k => if k = 3 then (fun j => if j = 2 then 400 else if j = 3 then 400 else if j = 8 then (-1) else 0) else if k = 14 then (upd (upd (upd (upd (upd (upd (fun _ => 0) 0 (-1)) 1 (-1)) 2 (-1)) 3 (-1)) 4 (-1)) 5 (-1)) else if k = 59 then (fun j => if j = 5 then 400 else if j = 6 then 400 else 0) else fun _ => 0
def rl_Ef (b : Nat) (F : cg_F) : rl_E := (fun k => b + rl_pm k, F)
theorem rl_string {args : Array Value} {s : State} {own tx : String} {k : Nat} (h1 : (Cond.stringRef own k tx).before args s = true) (h2 : (Cond.exactly (.string own k) "java/lang/String").before args s = true) : ∃ a, vk_R own k tx a s := by
  obtain ⟨a2, c, cA, kA, q1, -⟩ := Cond.exactly_spec (args := args) (first := s) (o := none) (s := s) (idx := []) (t := .string own k) (cls := "java/lang/String") h2
  exact ⟨a2, vk_R.of (A := #[]) (by first | exact h1 | exact va_tabs rfl rfl h1) (by first | exact q1 | (rw [Term.string_eval_of_vm (args := args) rfl]; exact q1))⟩
theorem rl_Ls_of {args : Array Value} {s : State} {n d : String} {E : rl_E} (h1 : (Cond.laysStatic "java/lang/Throwable" n d).before args s = true) (h2 : (Cond.isRef (.static "java/lang/Throwable" n d)).before args s = true) (hA : ∀ q, rl_A E q → s.heap.size ≤ q) : rl_Ls n d E s := by
  obtain ⟨c, k, i, f, a, cell, hc, hf, hst, ha, hcell, hiss, hcls, hlt, hty⟩ := Cond.laysStatic_spec h1
  have hv : cell.slots[f.slot]? = some cell.slots[f.slot] := Array.getElem?_eq_getElem hlt
  have hev : (Term.static "java/lang/Throwable" n d).eval args s none [] s = some cell.slots[f.slot] := Term.static_eval hf hst ha hcell hiss hv
  refine ⟨c, k, i, f, a, cell, cell.slots[f.slot], hc, hf, hst, ha, hcell, hiss, hcls, hlt, hty, hv, ?_, fun h => ?_⟩
  · simp only [Cond.before, Cond.holds, Cond.value, hev] at h2
    generalize cell.slots[f.slot] = w at h2
    cases w with
    | null => exact Or.inl rfl
    | ref t => exact Or.inr ⟨t, rfl⟩
    | _ => simp at h2
  · exact Nat.lt_irrefl _ (Nat.lt_of_lt_of_le (Array.getElem?_eq_some_iff.mp hcell).1 (hA a h))
/-- what the tables give at the law's entry -/
theorem law_K {p : Program} {s : State} {m : MethodId} {meth : Method} {c : Code} {b0 Ln : Nat} {xs : Nat → Int32} (C0 : lw_At p s m meth c b0 Ln xs) : ∃ F : cg_F, cg_O F s := by
  obtain ⟨hx, hb, hr, hml, hown, hts, hX, hbl, hlocks, hgv⟩ := C0
  have ht : ∀ w ∈ rl_TT, w.before #[Value.ref b0] s = true := fun w h => hts w (List.mem_filter.mp h).1
  obtain ⟨c0, i0, k0⟩ := u_known (C := nR_Ro) (T := nT_Ro) (N := 3) (n := 3) ht ni_Ro (ht _ ng_in_Ro)
  obtain ⟨c1, i1, k1⟩ := u_known (C := nR_Sr) (T := nT_Sr) (N := 2) (n := 2) ht ni_Sr (ht _ ng_in_Sr)
  obtain ⟨c2, i2, k2⟩ := u_known (C := nR_Pl) (T := nT_Pl) (N := 12) (n := 12) ht ni_Pl (ht _ ng_in_Pl)
  obtain ⟨c3, i3, k3⟩ := u_known (C := nR_Rl) (T := nT_Rl) (N := 4) (n := 4) ht ni_Rl (ht _ ng_in_Rl)
  obtain ⟨c4, i4, k4⟩ := u_known (C := nR_St) (T := nT_St) (N := 7) (n := 7) ht ni_St (ht _ ng_in_St)
  obtain ⟨c5, i5, k5⟩ := u_known (C := nR_Wl) (T := nT_Wl) (N := 4) (n := 4) ht ni_Wl (ht _ ng_in_Wl)
  obtain ⟨c6, i6, k6⟩ := u_known (C := nR_Cu) (T := nT_Cu) (N := 3) (n := 3) ht ni_Cu (ht _ ng_in_Cu)
  obtain ⟨c7, i7, k7⟩ := u_known (C := nR_Mo) (T := nT_Mo) (N := 27) (n := 27) ht ni_Mo (ht _ ng_in_Mo)
  obtain ⟨cI, kI, pI, f1, f2, f3⟩ := Cond.arrayClass_spec (ht _ ng_arr_int)
  obtain ⟨cL, kL, pL, g1, g2, g3⟩ := Cond.arrayClass_spec (ht _ ng_arr_long)
  have hao := (hts (.arrayOver (.object "RoomLayouts$Curve")) (List.mem_of_getElem? (i := 133) (by decide +kernel)))
  obtain ⟨pC, cC, kC, w1, -, w3, w4, w5⟩ := Cond.arrayOver_spec hao
  refine ⟨((fun k => if k = 0 then c0 else if k = 1 then c1 else if k = 2 then c2 else if k = 3 then c3 else if k = 4 then c4 else if k = 5 then c5 else if k = 6 then c6 else c7, fun k => if k = 0 then i0 else if k = 1 then i1 else if k = 2 then i2 else if k = 3 then i3 else if k = 4 then i4 else if k = 5 then i5 else if k = 6 then i6 else i7), cI, cL, cC), ⟨?_, ?_⟩, ⟨?_, ?_, ?_, ?_⟩, ?_⟩
  · intro k q hq
    match k, hq with
    | 0, hq => cases hq; exact k0
    | 1, hq => cases hq; exact k1
    | 2, hq => cases hq; exact k2
    | 3, hq => cases hq; exact k3
    | 4, hq => cases hq; exact k4
    | 5, hq => cases hq; exact k5
    | 6, hq => cases hq; exact k6
    | 7, hq => cases hq; exact k7
    | k + 8, hq => simp [rl_Cl] at hq
  · intro k q hq
    match k, hq with
    | 0, hq => cases hq; exact ⟨fun n z => ⟨fun k h => (by cases h), kI, f2, pI, f3⟩, f1⟩
    | 1, hq => cases hq; exact ⟨fun n z => ⟨fun k h => (by cases h), kL, g2, pL, g3⟩, g1⟩
    | 2, hq => cases hq; exact ⟨fun n z => ⟨fun k h => (by cases h), kC, w3, pC, w4⟩, kC, pC, w3, w4, w1, w5⟩
    | k + 3, hq => simp at hq
  · exact va_Nw.of rfl (hts (.methodLinkNest nR_Ro 11 ny_Sr_init nR_Ro) (List.mem_of_getElem? (i := 59) (by decide +kernel)))
  · exact va_Nw.of rfl (hts (.methodLinkNest nR_Pl 11 ny_Rl_init nR_Ro) (List.mem_of_getElem? (i := 80) (by decide +kernel)))
  · exact va_Nw.of rfl (hts (.methodLinkNest nR_Pl 45 ny_Cu_init nR_Ro) (List.mem_of_getElem? (i := 135) (by decide +kernel)))
  · exact va_Nw.of rfl (hts (.methodLinkNest nR_Ro 25 ny_Wl_init nR_Ro) (List.mem_of_getElem? (i := 191) (by decide +kernel)))
  · exact va_AO.of hao
theorem law_Ok {p : Program} {s : State} {m : MethodId} {meth : Method} {c : Code} {b0 Ln : Nat} {xs : Nat → Int32} (C0 : lw_At p s m meth c b0 Ln xs) {F : cg_F} (hO : cg_O F s) : rl_Ok (rl_Ef s.heap.size F) s := by
  obtain ⟨hx, hb, hr, hml, hown, hts, hX, hbl, hlocks, hgv⟩ := C0
  have hs := flat_of_before _ hgv
  have hA : ∀ q, rl_A (rl_Ef s.heap.size F) q → s.heap.size ≤ q := fun q ⟨k, _, h⟩ => by rw [h]; exact Nat.le_add_right _ _
  refine ⟨hO.1, fun i j hi hj h => rl_pm_inj i hi j hj (Nat.add_left_cancel h), ⟨?_, ?_, ?_, ?_⟩, ⟨?_, ?_, ?_, ?_, ?_, ?_⟩, ⟨?_, ?_, ?_⟩, ⟨?_, ?_, ?_⟩, ?_, ?_⟩
  · exact va_Nw.of rfl (hts (.methodLinkNest nR_Sr 23 ny_Ro_roomOfSign nR_Ro) (List.mem_of_getElem? (i := 239) (by decide +kernel)))
  · exact va_Nw.of rfl (hts (.methodLinkNest nR_Sr 31 ny_Ro_joins nR_Ro) (List.mem_of_getElem? (i := 246) (by decide +kernel)))
  · exact va_Nw.of rfl (hts (.methodLinkNest nR_St 62 ny_Ro_roomOfSign nR_Ro) (List.mem_of_getElem? (i := 261) (by decide +kernel)))
  · exact va_Nw.of rfl (hts (.methodLinkNest nR_St 54 ny_Ro_joins nR_Ro) (List.mem_of_getElem? (i := 262) (by decide +kernel)))
  · exact rl_string (hts (.stringRef nR_Ro 42 "there are 6 rooms") (List.mem_of_getElem? (i := 519) (by decide +kernel))) (hs (.exactly (.string nR_Ro 42) "java/lang/String") (by decide +kernel))
  · exact rl_string (hts (.stringRef nR_Ro 176 "a number is out of its bounds") (List.mem_of_getElem? (i := 574) (by decide +kernel))) (hs (.exactly (.string nR_Ro 176) "java/lang/String") (by decide +kernel))
  · exact rl_string (hts (.stringRef nR_Ro 63 "the room has 4 sizes") (List.mem_of_getElem? (i := 581) (by decide +kernel))) (hs (.exactly (.string nR_Ro 63) "java/lang/String") (by decide +kernel))
  · exact rl_string (hts (.stringRef nR_Ro 178 "k is below 0") (List.mem_of_getElem? (i := 630) (by decide +kernel))) (hs (.exactly (.string nR_Ro 178) "java/lang/String") (by decide +kernel))
  · exact rl_string (hts (.stringRef nR_Ro 173 "both rooms are one") (List.mem_of_getElem? (i := 644) (by decide +kernel))) (hs (.exactly (.string nR_Ro 173) "java/lang/String") (by decide +kernel))
  · exact rl_string (hts (.stringRef nR_Ro 142 "there are 10 wishes") (List.mem_of_getElem? (i := 653) (by decide +kernel))) (hs (.exactly (.string nR_Ro 142) "java/lang/String") (by decide +kernel))
  · exact va_Nw.of rfl (hts (.declares (Bundle.initS "java/lang/RuntimeException")) (List.mem_of_getElem? (i := 483) (by decide +kernel)))
  · exact va_Nw.of rfl (hts (.declares (Bundle.initS "java/lang/Exception")) (List.mem_of_getElem? (i := 485) (by decide +kernel)))
  · exact va_Nw.of rfl (hts (.declares (Bundle.initS "java/lang/Throwable")) (List.mem_of_getElem? (i := 487) (by decide +kernel)))
  · exact va_Nw.of rfl (hts (.castable "java/lang/IllegalArgumentException" "java/lang/IllegalArgumentException") (List.mem_of_getElem? (i := 567) (by decide +kernel)))
  · exact va_Nw.of rfl (hts (.castable "java/lang/IllegalStateException" "java/lang/IllegalStateException") (List.mem_of_getElem? (i := 481) (by decide +kernel)))
  · exact va_Nc.of (hs (.not (.castable "java/lang/IllegalStateException" "java/lang/IllegalArgumentException")) (by decide +kernel))
  · exact rl_Ls_of (hts (.laysStatic "java/lang/Throwable" "UNASSIGNED_STACK" "[Ljava/lang/StackTraceElement;") (List.mem_of_getElem? (i := 506) (by decide +kernel))) (hs (.isRef (.static "java/lang/Throwable" "UNASSIGNED_STACK" "[Ljava/lang/StackTraceElement;")) (by decide +kernel)) hA
  · exact rl_Ls_of (hts (.laysStatic "java/lang/Throwable" "SUPPRESSED_SENTINEL" "Ljava/util/List;") (List.mem_of_getElem? (i := 508) (by decide +kernel))) (hs (.isRef (.static "java/lang/Throwable" "SUPPRESSED_SENTINEL" "Ljava/util/List;")) (by decide +kernel)) hA
