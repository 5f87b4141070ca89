/-! THE CONSTRUCTORS: cells come one behind another, from the address b on -/
abbrev cg_F : Type := va_G × ClassId × ClassId × ClassId
def cg_w (b : Nat) (ct : Nat → va_E) (n : Nat) : va_W := (List.range n).map (fun k => (b + k, ct k))
theorem cg_at {b : Nat} {ct : Nat → va_E} {n k : Nat} (h : k < n) : (cg_w b ct n)[k]? = some (b + k, ct k) := by
  unfold cg_w
  rw [List.getElem?_map, List.getElem?_range h]; rfl
theorem cg_of {b : Nat} {ct : Nat → va_E} {n k : Nat} {q : Nat × va_E} (h : (cg_w b ct n)[k]? = some q) : k < n ∧ q = (b + k, ct k) := by
  by_cases hk : k < n
  · rw [cg_at hk] at h
    exact ⟨hk, (Option.some.inj h).symm⟩
  · have : (cg_w b ct n).length ≤ k := by unfold cg_w; rw [List.length_map, List.length_range]; omega
    rw [List.getElem?_eq_none this] at h
    cases h
theorem cg_set {D : va_G} {cl : List vw_C} {b : Nat} {ct : Nat → va_E} {n a : Nat} {e : va_E} {H H1 : Heap} (h : a < n) (h1 : va_P D cl (cg_w b ct n) H) (he : va_at D cl (b + a, e) H1) (oq : ∀ q : Nat, q ≠ b + a → H1[q]? = H[q]?) : va_P D cl (cg_w b (va_up ct a e) n) H1 := by
  intro k q hk
  obtain ⟨k1, k2⟩ := cg_of hk
  by_cases hka : k = a
  · subst hka
    rw [k2]
    show va_at D cl (b + k, va_up ct k e k) H1
    rw [show va_up ct k e k = e from if_pos rfl]
    exact he
  · rw [k2]
    show va_at D cl (b + k, va_up ct a e k) H1
    rw [show va_up ct a e k = ct k from if_neg hka]
    exact (h1 k _ (cg_at k1)).kept (oq (b + k) (by omega))
theorem cg_push {D : va_G} {cl : List vw_C} {b : Nat} {ct : Nat → va_E} {n : Nat} {e : va_E} {H H1 : Heap} (h1 : va_P D cl (cg_w b ct n) H) (hz : H.size = b + n) (he : va_at D cl (b + n, e) H1) (oq : ∀ q : Nat, q < b + n → H1[q]? = H[q]?) : va_P D cl (cg_w b (va_up ct n e) (n + 1)) H1 := by
  intro k q hk
  obtain ⟨k1, k2⟩ := cg_of hk
  by_cases hka : k = n
  · subst hka
    rw [k2]
    show va_at D cl (b + k, va_up ct k e k) H1
    rw [show va_up ct k e k = e from if_pos rfl]
    exact he
  · rw [k2]
    show va_at D cl (b + k, va_up ct n e k) H1
    rw [show va_up ct n e k = ct k from if_neg hka]
    exact (h1 k _ (cg_at (by omega))).kept (oq (b + k) (by omega))
def cg_O (F : cg_F) (U : State) : Prop := va_K F.1 rl_Cl [(F.2.1, .int), (F.2.2.1, .long), (F.2.2.2, .object "RoomLayouts$Curve")] U ∧ (va_Nw (.methodLinkNest nR_Ro 11 ny_Sr_init nR_Ro) U ∧ va_Nw (.methodLinkNest nR_Pl 11 ny_Rl_init nR_Ro) U ∧ va_Nw (.methodLinkNest nR_Pl 45 ny_Cu_init nR_Ro) U ∧ va_Nw (.methodLinkNest nR_Ro 25 ny_Wl_init nR_Ro) U) ∧ va_AO "RoomLayouts$Curve" U
theorem cg_O.moved {F : cg_F} {u U : State} (hW : u.WarmedH U.vm) (h : cg_O F u) : cg_O F U := ⟨va_K.moved hW.alike h.1, ⟨h.2.1.1.warmM hW, h.2.1.2.1.warmM hW, h.2.1.2.2.1.warmM hW, h.2.1.2.2.2.warmM hW⟩, va_AO.moved hW.alike h.2.2⟩
def cg_P (F : cg_F) (b : Nat) (av : List Value) (ct : Nat → va_E) (n : Nat) : Array Value → State → Prop := va_Pc av (fun U => U.heap.size = b + n ∧ va_P F.1 rl_Cl (cg_w b ct n) U.heap ∧ cg_O F U)
theorem cg_P_blind (F : cg_F) (b : Nat) (av : List Value) (ct : Nat → va_E) (n : Nat) : FrameBlind (cg_P F b av ct n) := fun a U g mk q => by
  obtain ⟨q0, q1, q2, q3⟩ := q
  exact ⟨q0, q1, q2, q3.moved (U := U.calling g mk a) (State.WarmedH.refl U)⟩
def cg_Q (F : cg_F) (b : Nat) (ct : Nat → va_E) (n : Nat) : Array Value → State → Outcome → State → Prop := fun _ st oc t => oc = .returned none ∧ t.heap.size = b + n ∧ va_P F.1 rl_Cl (cg_w b ct n) t.heap ∧ va_F (fun q => b ≤ q) st t
def cg_G (p : Program) (l : Launch) (e : Env) (R : Room) (s : State) (m : MethodId) (args : Array Value) (below : List Frame) (meth : Method) (c : Code) (nL : Nat) (F : cg_F) (b : Nat) (cells slots : Nat) (Q : State → Prop) (ct : Nat → va_E) (n : Nat) (pc : Nat) (L : List (Nat × Value)) (st : List Value) : Prop :=
  ∀ (H : Heap) (locs : List Loc) (ls : Array Slot), H.size = b + n → va_P F.1 rl_Cl (cg_w b ct n) H → va_S (fun q => b ≤ q) s.heap H locs → lv_has ls nL L → W p l e R s m args below meth c H locs cells slots Q (F0 m pc ls st)
section CGG
variable {p : Program} {l : Launch} {e : Env} {R : Room} {s : State} {m : MethodId} {args : Array Value} {below : List Frame} {meth : Method} {c : Code} {cells slots : Nat} {Q : State → Prop}
variable {cc : ByteArray} {nL : Nat} {Ts : List Cond} {own : String} {F : cg_F} {b n : Nat} {ct : Nat → va_E} {pc : Nat} {L : List (Nat × Value)} {st : List Value}
theorem cg_iconst (Γ : CallFix p m c cc nL s args Ts own) {n0 : Int} {v : Int32} (d : decode cc pc = .ok (.iconst n0, 1)) (hv : Int32.ofInt n0 = v) (k : cg_G p l e R s m args below meth c nL F b cells slots Q ct n (pc + 1) L (.int v :: st)) : cg_G p l e R s m args below meth c nL F b cells slots Q ct n (pc) L st := fun H locs ls hz h1 h2 h3 => lv_iconst Γ.1 Γ.2.1 d hv (k H locs ls hz h1 h2 h3)
theorem cg_bipush (Γ : CallFix p m c cc nL s args Ts own) {n0 : Int} {v : Int32} (d : decode cc pc = .ok (.bipush n0, 2)) (hv : (Int8.ofInt n0).toInt32 = v) (k : cg_G p l e R s m args below meth c nL F b cells slots Q ct n (pc + 2) L (.int v :: st)) : cg_G p l e R s m args below meth c nL F b cells slots Q ct n (pc) L st := fun H locs ls hz h1 h2 h3 => lv_bipush Γ.1 Γ.2.1 d hv (k H locs ls hz h1 h2 h3)
theorem cg_sipush (Γ : CallFix p m c cc nL s args Ts own) {n0 : Int} {v : Int32} (d : decode cc pc = .ok (.sipush n0, 3)) (hv : (Int16.ofInt n0).toInt32 = v) (k : cg_G p l e R s m args below meth c nL F b cells slots Q ct n (pc + 3) L (.int v :: st)) : cg_G p l e R s m args below meth c nL F b cells slots Q ct n (pc) L st := fun H locs ls hz h1 h2 h3 => lv_sipush Γ.1 Γ.2.1 d hv (k H locs ls hz h1 h2 h3)
theorem cg_iload_n (Γ : CallFix p m c cc nL s args Ts own) {z : Fin 4} {x : Int32} (d : decode cc pc = .ok (.iload_n z, 1)) (j : Nat) (hl : L[j]? = some ((z : Nat), .int x)) (k : cg_G p l e R s m args below meth c nL F b cells slots Q ct n (pc + 1) L (.int x :: st)) : cg_G p l e R s m args below meth c nL F b cells slots Q ct n (pc) L st := fun H locs ls hz h1 h2 h3 => lv_iload_n Γ.1 Γ.2.1 d rfl (lv_at h3 j hl) (k H locs ls hz h1 h2 h3)
theorem cg_iload (Γ : CallFix p m c cc nL s args Ts own) {z : Nat} {x : Int32} (d : decode cc pc = .ok (.iload z, 2)) (j : Nat) (hl : L[j]? = some (z, .int x)) (k : cg_G p l e R s m args below meth c nL F b cells slots Q ct n (pc + 2) L (.int x :: st)) : cg_G p l e R s m args below meth c nL F b cells slots Q ct n (pc) L st := fun H locs ls hz h1 h2 h3 => lv_iload Γ.1 Γ.2.1 d (lv_at h3 j hl) (k H locs ls hz h1 h2 h3)
theorem cg_aload_n (Γ : CallFix p m c cc nL s args Ts own) {z : Fin 4} {x : Nat} (d : decode cc pc = .ok (.aload_n z, 1)) (j : Nat) (hl : L[j]? = some ((z : Nat), .ref x)) (k : cg_G p l e R s m args below meth c nL F b cells slots Q ct n (pc + 1) L (.ref x :: st)) : cg_G p l e R s m args below meth c nL F b cells slots Q ct n (pc) L st := fun H locs ls hz h1 h2 h3 => lv_aload_n Γ.1 Γ.2.1 d rfl (lv_at h3 j hl) (k H locs ls hz h1 h2 h3)
theorem cg_aload (Γ : CallFix p m c cc nL s args Ts own) {z : Nat} {x : Nat} (d : decode cc pc = .ok (.aload z, 2)) (j : Nat) (hl : L[j]? = some (z, .ref x)) (k : cg_G p l e R s m args below meth c nL F b cells slots Q ct n (pc + 2) L (.ref x :: st)) : cg_G p l e R s m args below meth c nL F b cells slots Q ct n (pc) L st := fun H locs ls hz h1 h2 h3 => lv_aload Γ.1 Γ.2.1 d (lv_at h3 j hl) (k H locs ls hz h1 h2 h3)
theorem cg_istore_n (Γ : CallFix p m c cc nL s args Ts own) {z : Fin 4} {x : Int32} {L' : List (Nat × Value)} (d : decode cc pc = .ok (.istore_n z, 1)) (hn : (z : Nat) < nL) (hl : ((z : Nat), Value.int x) :: L.filter (fun q => !(q.1 == (z : Nat)) && !(q.1 + 1 == (z : Nat) && q.2.category == 2)) = L') (k : cg_G p l e R s m args below meth c nL F b cells slots Q ct n (pc + 1) L' st) : cg_G p l e R s m args below meth c nL F b cells slots Q ct n (pc) L (.int x :: st) := fun H locs ls hz h1 h2 h3 => lv_istore_n Γ.1 Γ.2.1 d rfl h3 hn hl (fun ls' h => k H locs ls' hz h1 h2 h)
theorem cg_istore (Γ : CallFix p m c cc nL s args Ts own) {z : Nat} {x : Int32} {L' : List (Nat × Value)} (d : decode cc pc = .ok (.istore z, 2)) (hn : z < nL) (hl : (z, Value.int x) :: L.filter (fun q => !(q.1 == z) && !(q.1 + 1 == z && q.2.category == 2)) = L') (k : cg_G p l e R s m args below meth c nL F b cells slots Q ct n (pc + 2) L' st) : cg_G p l e R s m args below meth c nL F b cells slots Q ct n (pc) L (.int x :: st) := fun H locs ls hz h1 h2 h3 => lv_istore Γ.1 Γ.2.1 d h3 hn hl (fun ls' h => k H locs ls' hz h1 h2 h)
theorem cg_astore_n (Γ : CallFix p m c cc nL s args Ts own) {z : Fin 4} {x : Nat} {L' : List (Nat × Value)} (d : decode cc pc = .ok (.astore_n z, 1)) (hn : (z : Nat) < nL) (hl : ((z : Nat), Value.ref x) :: L.filter (fun q => !(q.1 == (z : Nat)) && !(q.1 + 1 == (z : Nat) && q.2.category == 2)) = L') (k : cg_G p l e R s m args below meth c nL F b cells slots Q ct n (pc + 1) L' st) : cg_G p l e R s m args below meth c nL F b cells slots Q ct n (pc) L (.ref x :: st) := fun H locs ls hz h1 h2 h3 => lv_astore_n Γ.1 Γ.2.1 d rfl h3 hn hl (fun ls' h => k H locs ls' hz h1 h2 h)
theorem cg_astore (Γ : CallFix p m c cc nL s args Ts own) {z : Nat} {x : Nat} {L' : List (Nat × Value)} (d : decode cc pc = .ok (.astore z, 2)) (hn : z < nL) (hl : (z, Value.ref x) :: L.filter (fun q => !(q.1 == z) && !(q.1 + 1 == z && q.2.category == 2)) = L') (k : cg_G p l e R s m args below meth c nL F b cells slots Q ct n (pc + 2) L' st) : cg_G p l e R s m args below meth c nL F b cells slots Q ct n (pc) L (.ref x :: st) := fun H locs ls hz h1 h2 h3 => lv_astore Γ.1 Γ.2.1 d h3 hn hl (fun ls' h => k H locs ls' hz h1 h2 h)
theorem cg_iinc (Γ : CallFix p m c cc nL s args Ts own) {z : Nat} {n0 : Int} {x v : Int32} {L' : List (Nat × Value)} (d : decode cc pc = .ok (.iinc z n0, 3)) (j : Nat) (hj : L[j]? = some (z, .int x)) (hv : x + Int32.ofInt n0 = v) (hn : z < nL) (hl : (z, Value.int v) :: L.filter (fun q => !(q.1 == z) && !(q.1 + 1 == z && q.2.category == 2)) = L') (k : cg_G p l e R s m args below meth c nL F b cells slots Q ct n (pc + 3) L' st) : cg_G p l e R s m args below meth c nL F b cells slots Q ct n (pc) L st := fun H locs ls hz h1 h2 h3 => lv_iinc Γ.1 Γ.2.1 d h3 hj hv hn hl (fun ls' h => k H locs ls' hz h1 h2 h)
theorem cg_dup (Γ : CallFix p m c cc nL s args Ts own) {a : Value} (d : decode cc pc = .ok (.dup, 1)) (ha : a.category = 1) (k : cg_G p l e R s m args below meth c nL F b cells slots Q ct n (pc + 1) L (a :: a :: st)) : cg_G p l e R s m args below meth c nL F b cells slots Q ct n (pc) L (a :: st) := fun H locs ls hz h1 h2 h3 => lv_dup Γ.1 Γ.2.1 d ha (k H locs ls hz h1 h2 h3)
theorem cg_icmp_ge (Γ : CallFix p m c cc nL s args Ts own) {x y : Int32} {off : Int} {tgt : Nat} (d : decode cc pc = .ok (.if_icmp .ge off, 3)) (ht : (pc : Int) + off = (tgt : Int)) (kt : y ≤ x → cg_G p l e R s m args below meth c nL F b cells slots Q ct n (tgt) L st) (kf : ¬ y ≤ x → cg_G p l e R s m args below meth c nL F b cells slots Q ct n (pc + 3) L st) : cg_G p l e R s m args below meth c nL F b cells slots Q ct n (pc) L (.int y :: .int x :: st) := fun H locs ls hz h1 h2 h3 => lv_icmp_ge Γ.1 Γ.2.1 d ht (fun z => kt z H locs ls hz h1 h2 h3) (fun z => kf z H locs ls hz h1 h2 h3)
theorem cg_goto (Γ : CallFix p m c cc nL s args Ts own) {off : Int} {tgt : Nat} (d : decode cc pc = .ok (.goto off, 3)) (ht : (pc : Int) + off = (tgt : Int)) (k : cg_G p l e R s m args below meth c nL F b cells slots Q ct n (tgt) L st) : cg_G p l e R s m args below meth c nL F b cells slots Q ct n (pc) L st := fun H locs ls hz h1 h2 h3 => lv_goto Γ.1 Γ.2.1 d ht (k H locs ls hz h1 h2 h3)
theorem cg_start {av : List Value} (hz : s.heap.size = b + n) (hP : va_P F.1 rl_Cl (cg_w b ct n) s.heap) (hn : (lg_sl av).length ≤ nL) (k : cg_G p l e R s m args below meth c nL F b cells slots Q ct n 0 (lv_args 0 av) []) : W p l e R s m args below meth c s.heap [] cells slots Q (entryFrame m av.toArray nL) := by
  rw [lg_entry_eq]
  exact k s.heap [] _ hz hP va_S.rf (lv_entry av hn)
theorem cg_new (Γ : CallFix p m c cc nL s args rl_TT own) {index ci N : Nat} {C : String} {T : u_T} {fs : List Value} (d : decode cc pc = .ok (.new index, 3)) (hO : cg_O F s) (hb : b ≤ s.heap.size) (hin : ∀ w ∈ u_ws C T N, w ∈ rl_TT) (ty : Nat → FieldType) (hty : ∀ k, k < N → parseFieldDescriptor (T k).2.2.1 = some (ty k)) (g1 : Cond.classLink own index C ∈ rl_TT) (g2 : Cond.instantiable C N ∈ rl_TT) (g3 : Cond.initialized C ∈ rl_TT) (hc : rl_Cl[ci]? = some (C, T, N)) (hfs : ∀ j, j < N → defaultValue (ty j) = vp_V fs j) (hcells : cells + 1 ≤ R.cells) (hslots : slots + N ≤ R.slots)
    (kk : cg_G p l e R s m args below meth c nL F b (cells + 1) (slots + N) Q (va_up ct n (.inr (ci, fs))) (n + 1) (pc + 3) L (.ref (b + n) :: st)) : cg_G p l e R s m args below meth c nL F b cells slots Q ct (n) (pc) L (st) := by
  intro H locs ls hz h1 h2 h3
  have hKn := hO.1.1 ci _ hc
  have ht := Γ.2.2.2.2
  refine W.newcK Γ.1 Γ.2.1 Γ.2.2.2.1 (ht _ g1) (ht _ g2) (ht _ g3) rfl d hcells hslots hKn.2.1 hz fun H1 kC hkC e1 z1 o1 => ?_
  exact kk H1 locs ls (by omega) (cg_push h1 hz ⟨_, hc, (u_born ty ht hin hKn hkC e1 hty).to hfs⟩ o1) ⟨Nat.le_trans h2.1 (by omega), fun x w1 w2 => (o1 x (by have := h2.1; omega)).trans (h2.2.1 x w1 w2), h2.2.2⟩ h3
theorem cg_newa (Γ : CallFix p m c cc nL s args rl_TT own) {n1 : Int32} {N : Nat} (d : decode cc pc = .ok (.newarray .int, 2)) (hO : cg_O F s) (hb : b ≤ s.heap.size) (g1 : Cond.arrayClass .int ∈ rl_TT) (hn : ¬ n1 < 0) (hN : n1.toNatClampNeg = N) (hby : N * 4 ≤ 536870912) (hcells : cells + 1 ≤ R.cells) (hslots : slots + N ≤ R.slots)
    (kk : cg_G p l e R s m args below meth c nL F b (cells + 1) (slots + N) Q (va_up ct n (.inl (F.2.1, N, .inl (fun _ => 0)))) (n + 1) (pc + 2) L (.ref (b + n) :: st)) : cg_G p l e R s m args below meth c nL F b cells slots Q ct (n) (pc) L (.int n1 :: st) := by
  intro H locs ls hz h1 h2 h3
  refine va_newaK Γ.1 Γ.2.1 (atype := .int) (Γ.2.2.2.2 _ g1) rfl d rfl hn hN hby hcells hslots hz fun H1 cA e1 z1 o1 hAr hNm => ?_
  have hcA : s.vm.findClass ("[" ++ FieldType.int.toString) = some F.2.1 := (hO.1.2 0 _ rfl).2
  cases hNm.symm.trans hcA
  exact kk H1 locs ls (by omega) (cg_push h1 hz (by show H1[b + n]? = some (vp_cell _ _); rw [vp_cell_i]; exact e1) o1) ⟨Nat.le_trans h2.1 (by omega), fun x w1 w2 => (o1 x (by have := h2.1; omega)).trans (h2.2.1 x w1 w2), h2.2.2⟩ h3
theorem cg_newl (Γ : CallFix p m c cc nL s args rl_TT own) {n1 : Int32} {N : Nat} (d : decode cc pc = .ok (.newarray .long, 2)) (hO : cg_O F s) (hb : b ≤ s.heap.size) (g1 : Cond.arrayClass .long ∈ rl_TT) (hn : ¬ n1 < 0) (hN : n1.toNatClampNeg = N) (hby : N * 8 ≤ 536870912) (hcells : cells + 1 ≤ R.cells) (hslots : slots + N ≤ R.slots)
    (kk : cg_G p l e R s m args below meth c nL F b (cells + 1) (slots + N) Q (va_up ct n (.inl (F.2.2.1, N, .inr (.inl (fun _ => 0))))) (n + 1) (pc + 2) L (.ref (b + n) :: st)) : cg_G p l e R s m args below meth c nL F b cells slots Q ct (n) (pc) L (.int n1 :: st) := by
  intro H locs ls hz h1 h2 h3
  refine va_newaK Γ.1 Γ.2.1 (atype := .long) (Γ.2.2.2.2 _ g1) rfl d rfl hn hN hby hcells hslots hz fun H1 cA e1 z1 o1 hAr hNm => ?_
  have hcA : s.vm.findClass ("[" ++ FieldType.long.toString) = some F.2.2.1 := (hO.1.2 1 _ rfl).2
  cases hNm.symm.trans hcA
  exact kk H1 locs ls (by omega) (cg_push h1 hz (by show H1[b + n]? = some (vp_cell _ _); rw [vp_cell_l]; exact e1) o1) ⟨Nat.le_trans h2.1 (by omega), fun x w1 w2 => (o1 x (by have := h2.1; omega)).trans (h2.2.1 x w1 w2), h2.2.2⟩ h3
theorem cg_newq (Γ : CallFix p m c cc nL s args rl_TT own) {n1 : Int32} {index N : Nat} (d : decode cc pc = .ok (.anewarray index, 3)) (hO : cg_O F s) (hb : b ≤ s.heap.size) (g1 : Cond.classLink own index "RoomLayouts$Curve" ∈ rl_TT) (hn : ¬ n1 < 0) (hN : n1.toNatClampNeg = N) (hby : N * 4 ≤ 536870912) (hcells : cells + 1 ≤ R.cells) (hslots : slots + N ≤ R.slots)
    (kk : cg_G p l e R s m args below meth c nL F b (cells + 1) (slots + N) Q (va_up ct n (.inl (F.2.2.2, N, .inr (.inr (.inr (.inr (fun _ => none))))))) (n + 1) (pc + 3) L (.ref (b + n) :: st)) : cg_G p l e R s m args below meth c nL F b cells slots Q ct (n) (pc) L (.int n1 :: st) := by
  intro H locs ls hz h1 h2 h3
  subst hN
  refine W.anew Γ.1 Γ.2.1 Γ.2.2.2.1 (Γ.2.2.2.2 _ g1) (va_AO.use hO.2.2) rfl d rfl hn hby hcells hslots fun cA kA comp f1 f2 f3 f4 => ?_
  obtain ⟨kA', comp', w1, w2, w3, w4⟩ := (hO.1.2 2 _ rfl).2
  cases f1.symm.trans w4
  generalize hH1 : H.push ({ cls := F.2.2.2, slots := Array.replicate n1.toNatClampNeg .null, vm := .none } : Cell) = H1
  have z1 : H1.size = H.size + 1 := by rw [← hH1, Array.size_push]
  have e1 : H1[H.size]? = some (arrV F.2.2.2 n1.toNatClampNeg (fun _ => .null)) := by rw [← hH1, Array.getElem?_push_size, ← arrV_new]
  have o1 : ∀ q : Nat, q < b + n → H1[q]? = H[q]? := fun q hq => by rw [← hH1, Array.getElem?_push, if_neg (by omega)]
  rw [hz] at e1 ⊢
  exact kk H1 locs ls (by omega) (cg_push h1 hz (by show H1[b + n]? = some (vp_cell _ _); rw [vp_cell_q]; exact e1) o1) ⟨Nat.le_trans h2.1 (by omega), fun x w1 w2 => (o1 x (by have := h2.1; omega)).trans (h2.2.1 x w1 w2), h2.2.2⟩ h3
theorem cg_get (Γ : CallFix p m c cc nL s args rl_TT own) {index : Nat} (d : decode cc pc = .ok (.getfield index, 3)) (hO : cg_O F s) {a ci k : Nat} {fs : List Value} (ha : a < n) (ho : ct a = .inr (ci, fs)) {C : String} {T : u_T} {Nf : Nat} (hc : rl_Cl[ci]? = some (C, T, Nf)) (hk : k < Nf) {v : Value} (hv : fs[k]? = some v) (hl : (∀ w ∈ u_ws C T Nf, w ∈ rl_TT) ∧ Cond.fieldLink own index (T k).1 (T k).2.1 (T k).2.2.1 ∈ rl_TT) (kk : cg_G p l e R s m args below meth c nL F b cells slots Q ct (n) (pc + 3) L (v :: st)) : cg_G p l e R s m args below meth c nL F b cells slots Q ct (n) (pc) L (.ref (b + a) :: st) := fun H locs ls hz h1 h2 h3 =>
  va_get (D := F.1) (cl := rl_Cl) (ws := cg_w b ct n) Γ.1 Γ.2.1 Γ.2.2.2.2 hl.1 Γ.2.2.2.1 hO.1 h1 a ((cg_at ha).trans (by rw [ho])) hc k hk (Γ.2.2.2.2 _ hl.2) (fun _ h => h) hv d (kk H locs ls hz h1 h2 h3)
theorem cg_put (Γ : CallFix p m c cc nL s args rl_TT own) {index : Nat} (d : decode cc pc = .ok (.putfield index, 3)) (hO : cg_O F s) (hb : b ≤ s.heap.size) {a ci k : Nat} {fs : List Value} (ha : a < n) (ho : ct a = .inr (ci, fs)) {C : String} {T : u_T} {Nf : Nat} (hc : rl_Cl[ci]? = some (C, T, Nf)) (hk : k < Nf) {v : Value} (hl : (∀ w ∈ u_ws C T Nf, w ∈ rl_TT) ∧ Cond.fieldLink own index (T k).1 (T k).2.1 (T k).2.2.1 ∈ rl_TT) (ty0 : Nat → FieldType) (hty : ∀ k, k < Nf → parseFieldDescriptor (T k).2.2.1 = some (ty0 k)) (hnm : ∀ a, a < Nf → ∀ b, b < Nf → a ≠ b → (T a).2.1 ≠ (T b).2.1) (hfin : (T k).2.2.2 = false) (hlen : k < fs.length) (hn : narrow (ty0 k) v = v) (hfit : fits (ty0 k) v = true) (kk : cg_G p l e R s m args below meth c nL F b cells slots Q (va_up ct a (.inr (ci, fs.set k v))) (n) (pc + 3) L (st)) : cg_G p l e R s m args below meth c nL F b cells slots Q ct (n) (pc) L (v :: .ref (b + a) :: st) := by
  intro H locs ls hz h1 h2 h3
  have hts := Γ.2.2.2.2
  have hap := va_apart (own := own) hts hl.1 ty0 hty hnm hO.1 hc
  obtain ⟨r, h1', cell, q1, q2, q3, q4⟩ := h1 a _ ((cg_at ha).trans (by rw [ho]))
  have hr : r = (C, T, Nf) := Option.some.inj (h1'.symm.trans hc)
  subst hr
  obtain ⟨hS, hfc, kC, hkC, hkind⟩ := hO.1.1 ci _ hc
  obtain ⟨cf, kf, fi, f, hi, hsl⟩ := hS k hk
  have hlay := hts _ (hl.1 _ (u_in_lay hk))
  unfold u_lay at hlay
  rw [if_neg (by rw [hfin]; decide)] at hlay
  have hst := (u_facts hfc hkC (u_lays hts hl.1 hk) hi).1
  have h6 := u_store hfc hkC hkind hlay hi (hty k hk) hn hfit
  refine W.putK Γ.1 Γ.2.1 (f := f) ⟨Γ.2.2.2.1, hts _ hl.2, ⟨_, _, _, hi⟩, hst⟩ (by rw [q2]; exact h6) q1 q3 (by rw [hsl]; exact k2_hasslot (q4 k hk)) rfl rfl d fun H' e1 e2 e3 => ?_
  rw [hsl] at e1 ⊢
  exact kk H' _ ls (by omega) (cg_set ha h1 ⟨_, hc, t_OB.to (V := updV (vp_V fs) k v) ⟨_, e1, q2, q3, t_set q4 hap hk v⟩ (fun j _ => vp_updV_set hlen v j)⟩ e3) (h2.put e2 e3 (Nat.le_add_right b a)) h3
theorem cg_putF (Γ : CallFix p m c cc nL s args rl_TT own) {index : Nat} (d : decode cc pc = .ok (.putfield index, 3)) (hO : cg_O F s) (hb : b ≤ s.heap.size) (hinit : meth.name = "<init>") {a ci k : Nat} {fs : List Value} (ha : a < n) (ho : ct a = .inr (ci, fs)) {C : String} {T : u_T} {Nf : Nat} (hc : rl_Cl[ci]? = some (C, T, Nf)) (hk : k < Nf) {v : Value} (hl : (∀ w ∈ u_ws C T Nf, w ∈ rl_TT) ∧ Cond.fieldLink own index (T k).1 (T k).2.1 (T k).2.2.1 ∈ rl_TT) (ty0 : Nat → FieldType) (hty : ∀ k, k < Nf → parseFieldDescriptor (T k).2.2.1 = some (ty0 k)) (hnm : ∀ a, a < Nf → ∀ b, b < Nf → a ≠ b → (T a).2.1 ≠ (T b).2.1) (hfin : (T k).2.2.2 = true) (hdecl : (T k).1 = own) (hlen : k < fs.length) (hn : narrow (ty0 k) v = v) (hfit : fits (ty0 k) v = true) (kk : cg_G p l e R s m args below meth c nL F b cells slots Q (va_up ct a (.inr (ci, fs.set k v))) (n) (pc + 3) L (st)) : cg_G p l e R s m args below meth c nL F b cells slots Q ct (n) (pc) L (v :: .ref (b + a) :: st) := by
  intro H locs ls hz h1 h2 h3
  have hts := Γ.2.2.2.2
  have hap := va_apart (own := own) hts hl.1 ty0 hty hnm hO.1 hc
  obtain ⟨r, h1', cell, q1, q2, q3, q4⟩ := h1 a _ ((cg_at ha).trans (by rw [ho]))
  have hr : r = (C, T, Nf) := Option.some.inj (h1'.symm.trans hc)
  subst hr
  obtain ⟨hS, hfc, kC, hkC, hkind⟩ := hO.1.1 ci _ hc
  obtain ⟨cf, kf, fi, f, hi, hsl⟩ := hS k hk
  have hlay := hts _ (hl.1 _ (u_in_lay hk))
  unfold u_lay at hlay
  rw [if_pos hfin] at hlay
  have hst := (u_facts hfc hkC (u_lays hts hl.1 hk) hi).1
  have hcf : m.cls = cf := by
    obtain ⟨_, _, c', _, _, _, -, -, hf', -, -, -, hown2, -⟩ := Cond.laysFinal_spec hlay
    have e1 : c' = cf := by have := hi.symm.trans hf'; simp at this; exact this.1.symm
    rw [hdecl] at hown2
    rw [← e1]; exact Option.some.inj (Γ.2.2.2.1.symm.trans hown2)
  have h6 := u_fits hfc hkC hkind (Or.inr hlay) hi (hty k hk) hn hfit
  refine W.putFinK Γ.1 Γ.2.1 Γ.2.2.2.1 (hts _ hl.2) hi hst hcf hinit (by rw [q2]; exact h6) q1 q3 (by rw [hsl]; exact k2_hasslot (q4 k hk)) rfl rfl d fun H' e1 e2 e3 => ?_
  rw [hsl] at e1 ⊢
  exact kk H' _ ls (by omega) (cg_set ha h1 ⟨_, hc, t_OB.to (V := updV (vp_V fs) k v) ⟨_, e1, q2, q3, t_set q4 hap hk v⟩ (fun j _ => vp_updV_set hlen v j)⟩ e3) (h2.put e2 e3 (Nat.le_add_right b a)) h3
theorem cg_ast (Γ : CallFix p m c cc nL s args rl_TT own) (d : decode cc pc = .ok (.aastore, 1)) (hO : cg_O F s) (hb : b ≤ s.heap.size) {a v N : Nat} {vs : List Value} {f : Nat → Option Nat} {i : Int32} (ha : a < n) (ho : ct a = .inl (F.2.2.2, N, .inr (.inr (.inr (.inr f))))) (hv : v < n) (hov : ct v = .inr (6, vs)) (hi : vp_in i N) (kk : cg_G p l e R s m args below meth c nL F b cells slots Q (va_up ct a (.inl (F.2.2.2, N, .inr (.inr (.inr (.inr (va_up f i.toNatClampNeg (some (b + v))))))))) (n) (pc + 1) L (st)) : cg_G p l e R s m args below meth c nL F b cells slots Q ct (n) (pc) L (.ref (b + v) :: .int i :: .ref (b + a) :: st) := by
  intro H locs ls hz h1 h2 h3
  have hlt : i.toNatClampNeg < N := Nat.not_le.mp fun q => hi (Or.inr q)
  have h0 : ¬ i < 0 := fun q => hi (Or.inl q)
  have hA : H[b + a]? = some (vp_cell F.2.2.2 (N, .inr (.inr (.inr (.inr f))))) := by
    have := h1 a _ (cg_at ha)
    rw [ho] at this
    exact this
  have hV := h1 v _ (cg_at hv)
  rw [hov] at hV
  obtain ⟨r', hr', cellV, g1, g2, g3, -⟩ := hV
  cases hr'
  have hcls := (hO.1.1 6 (nR_Cu, nT_Cu, 3) rfl).2
  obtain ⟨kA, comp, k1, k2, k3, -⟩ := (hO.1.2 2 _ rfl).2
  have hcomp : comp = F.1.1 6 := Option.some.inj (k3.symm.trans hcls.1)
  subst hcomp
  obtain ⟨kC, hkC, -⟩ := hcls.2
  refine W.aast Γ.1 Γ.2.1 hA (fun q h => by cases h) (fun h => by cases h) k1 k2 rfl hkC ⟨h0, by show _ < (arrV _ _ _).slots.size; rw [arrV_size]; exact hlt⟩ g1 (fun q h => by rw [g3] at h; cases h) (by rw [g2]; exact hkC) (by rw [g2]; exact va_assign hcls) rfl rfl d fun H1 e1 z oq => ?_
  refine kk H1 _ ls (by omega) (cg_set ha h1 ?_ oq) (h2.put z oq (Nat.le_add_right b a)) h3
  show H1[b + a]? = some (vp_cell _ _)
  rw [e1]
  rw [vp_cell_q, vp_cell_q, arrV_store]
  congr 2
  funext q
  by_cases hq : q = i.toNatClampNeg
  · subst hq
    simp [updV, va_up, va_rf]
  · simp [updV, va_up, hq]
theorem cg_ist (Γ : CallFix p m c cc nL s args rl_TT own) (d : decode cc pc = .ok (.iastore, 1)) (hO : cg_O F s) (hb : b ≤ s.heap.size) {a N : Nat} {f : Nat → Int32} {i x : Int32} (ha : a < n) (ho : ct a = .inl (F.2.1, N, .inl f)) (hi : vp_in i N) (kk : cg_G p l e R s m args below meth c nL F b cells slots Q (va_up ct a (.inl (F.2.1, N, .inl (upd f i.toNatClampNeg x)))) (n) (pc + 1) L (st)) : cg_G p l e R s m args below meth c nL F b cells slots Q ct (n) (pc) L (.int x :: .int i :: .ref (b + a) :: st) := by
  intro H locs ls hz h1 h2 h3
  have hA : H[b + a]? = some (vp_cell F.2.1 (N, .inl f)) := by
    have := h1 a _ (cg_at ha)
    rw [ho] at this
    exact this
  refine W.iast Γ.1 Γ.2.1 hA ((hO.1.2 0 _ rfl).1 N (fun j => .int (f j))) (fun q => by cases q) (by show ¬ (i < 0 ∨ (arrV _ _ _).slots.size ≤ _); rw [arrV_size]; exact hi) rfl rfl d fun H1 e1 z oq => ?_
  refine kk H1 _ ls (by omega) (cg_set ha h1 ?_ oq) (h2.put z oq (Nat.le_add_right b a)) h3
  show H1[b + a]? = some (vp_cell _ _)
  rw [e1, vp_cell_i, vp_cell_i, arrV_store]
  congr 2
  funext q
  by_cases hq : q = i.toNatClampNeg
  · subst hq
    simp [updV, upd]
  · simp [updV, upd, hq]
theorem cg_obj (Γ : CallFix p m c cc nL s args rl_TT own) {index a : Nat} (d : decode cc pc = .ok (.invokespecial index, 3)) (g1 : Cond.methodLink own index objectInit ∈ rl_TT) (g2 : Cond.instanceMethod objectInit ∈ rl_TT) (g3 : Cond.code objectInit ⟨#[0xb1]⟩ 1 none ∈ rl_TT) (hf : 1 ≤ R.frames) (hlo : (st.map fun v => v.category).sum + 12 ≤ R.locals) (kk : cg_G p l e R s m args below meth c nL F b cells slots Q ct (n) (pc + 3) L (st)) : cg_G p l e R s m args below meth c nL F b cells slots Q ct (n) (pc) L (.ref a :: st) := fun H locs ls hz h1 h2 h3 =>
  W.objInit Γ.1 Γ.2.1 Γ.2.2.2.1 (Γ.2.2.2.2 _ g1) (Γ.2.2.2.2 _ g2) (Γ.2.2.2.2 _ g3) rfl (h3.1.trans Γ.2.2.1.symm) rfl d hf (by show 2 * 0 + _ + 12 ≤ _; omega) (kk H locs ls hz h1 h2 h3)
theorem cg_goon {ct' : Nat → va_E} {n' mc ms : Nat} {H : Heap} {locs : List Loc} {ls : Array Slot} {st0 : List Value} {a : Array Value} (hr : va_Run p l e R s m args below meth c H locs cells slots mc ms (F0 m pc ls st0) st (cg_Q F b ct' n' a) (fun q => b ≤ q)) (hS : va_S (fun q => b ≤ q) s.heap H locs) (h3 : lv_has ls nL L) (kk : cg_G p l e R s m args below meth c nL F b (cells + mc) (slots + ms) Q ct' (n') (pc + 3) L (st)) : W p l e R s m args below meth c H locs cells slots Q (F0 m pc ls st0) := by
  intro T hT X
  obtain ⟨v', st₀, t, T', L', h0, X', hL, e1, e2, ⟨hv, hz, hP, hz2, hk⟩, stp⟩ := hr T hT X
  cases hv
  rw [h0] at hz2 hk
  obtain ⟨t2, a1, b1⟩ := kk T'.heap (locs ++ L') ls (by rw [e1]; exact hz) (by rw [e1]; exact hP) ⟨Nat.le_trans hS.1 (by rw [e1]; exact hz2), fun q w1 w2 => by rw [e1, hk q (Nat.lt_of_lt_of_le w1 hS.1) w2]; exact hS.2.1 q w1 w2, fun q hq => by
      rcases List.mem_append.mp hq with h | h
      · exact hS.2.2 q h
      · exact hL q h⟩ h3 T' rfl X'
  exact ⟨t2, stp t2 a1, b1⟩
/-- a constructor's call (no arguments but the object) -/
theorem cg_callI {y : MethodName} {bytes : ByteArray} {maxL index : Nat} {rm : Room} {ct' : Nat → va_E} {n' mc ms a : Nat} (Γ : CallFix p m c cc nL s args rl_TT own) (d : decode cc pc = .ok (.invokespecial index, 3)) (hO : cg_O F s) (hM : Met l y (Cond.code y bytes maxL none :: rl_TT) rm (cg_P F b [.ref (b + a)] ct n) (cg_Q F b ct' n') mc ms (fun q => b ≤ q)) (hlk : Cond.methodLink own index y ∈ rl_TT) (g2 : Cond.instanceMethod y ∈ rl_TT) (g4 : Cond.initialized y.cls ∈ rl_TT) (g5 : Cond.code y bytes maxL none ∈ rl_TT) (hrm : rm.cells = mc ∧ rm.slots = ms) (hd : y.cls ≠ "java/lang/invoke/MethodHandle" ∧ y.cls ≠ "java/lang/invoke/VarHandle" ∧ (parseMethodDescriptor y.desc).map (fun d => d.parameters.length) = some 0) (hy : y.name = "<init>") (hf : rm.frames + 1 ≤ R.frames) (hlo : 8 + (maxL + 11) + rm.locals ≤ R.locals) (hcl : cells + mc ≤ R.cells ∧ slots + ms ≤ R.slots) (hw : (st.map fun v => v.category).sum ≤ 8) (kk : cg_G p l e R s m args below meth c nL F b (cells + mc) (slots + ms) Q ct' (n') (pc + 3) L (st)) : cg_G p l e R s m args below meth c nL F b cells slots Q ct (n) (pc) L (.ref (b + a) :: st) := by
  intro H locs ls hz h1 h2 h3
  exact cg_goon (va_runI (As := []) (rest := st) Γ hM ⟨callB_of 0 Γ.2.2.2.2 (rl_GI g5) rfl hrm.1 hrm.2 (Γ.2.2.2.2 _ g4) (Γ.2.2.2.2 _ hlk) hd ⟨hf, hlo⟩, hy, Γ.2.2.2.2 _ g2⟩ ⟨cg_P_blind F b _ ct n, fun U hU hW => ⟨rfl, by rw [hU]; exact hz, by rw [hU]; exact h1, hO.moved hW⟩⟩ rfl rfl h3.1 rfl (lv_room hw) d hcl) h2 h3 kk
theorem cg_callIN {y : MethodName} {bytes : ByteArray} {maxL index : Nat} {rm : Room} {host : String} {ct' : Nat → va_E} {n' mc ms a : Nat} (Γ : CallFix p m c cc nL s args rl_TT own) (d : decode cc pc = .ok (.invokespecial index, 3)) (hO : cg_O F s) (hM : Met l y (Cond.code y bytes maxL none :: rl_TT) rm (cg_P F b [.ref (b + a)] ct n) (cg_Q F b ct' n') mc ms (fun q => b ≤ q)) (hlk : va_Nw (.methodLinkNest own index y host) s) (g2 : Cond.instanceMethod y ∈ rl_TT) (g4 : Cond.initialized y.cls ∈ rl_TT) (g5 : Cond.code y bytes maxL none ∈ rl_TT) (hrm : rm.cells = mc ∧ rm.slots = ms) (hd : y.cls ≠ "java/lang/invoke/MethodHandle" ∧ y.cls ≠ "java/lang/invoke/VarHandle" ∧ (parseMethodDescriptor y.desc).map (fun d => d.parameters.length) = some 0) (hy : y.name = "<init>") (hf : rm.frames + 1 ≤ R.frames) (hlo : 8 + (maxL + 11) + rm.locals ≤ R.locals) (hcl : cells + mc ≤ R.cells ∧ slots + ms ≤ R.slots) (hw : (st.map fun v => v.category).sum ≤ 8) (kk : cg_G p l e R s m args below meth c nL F b (cells + mc) (slots + ms) Q ct' (n') (pc + 3) L (st)) : cg_G p l e R s m args below meth c nL F b cells slots Q ct (n) (pc) L (.ref (b + a) :: st) := by
  intro H locs ls hz h1 h2 h3
  exact cg_goon (va_runIN (As := []) (rest := st) Γ hM ⟨va_cnB 0 Γ.2.2.2.2 (rl_GI g5) rfl hrm.1 hrm.2 hlk (Γ.2.2.2.2 _ g4) hd ⟨hf, hlo⟩, hy, Γ.2.2.2.2 _ g2⟩ ⟨cg_P_blind F b _ ct n, fun U hU hW => ⟨rfl, by rw [hU]; exact hz, by rw [hU]; exact h1, hO.moved hW⟩⟩ rfl rfl h3.1 rfl (lv_room hw) d hcl) h2 h3 kk
/-- a void method of an object that is being made -/
theorem cg_callV {y : MethodName} {bytes : ByteArray} {maxL index : Nat} {rm : Room} {C : String} {T : u_T} {Nf ci : Nat} {fs : List Value} {ct' : Nat → va_E} {n' mc ms a : Nat} (Γ : CallFix p m c cc nL s args rl_TT own) (d : decode cc pc = .ok (.invokevirtual index, 3)) (hO : cg_O F s) (hM : Met l y (Cond.code y bytes maxL none :: rl_TT) rm (cg_P F b [.ref (b + a)] ct n) (cg_Q F b ct' n') mc ms (fun q => b ≤ q)) (g1 : Cond.methodLink own index y ∈ rl_TT) (g2 : Cond.instanceMethod y ∈ rl_TT) (g3 : Cond.selects C y y ∈ rl_TT) (g4 : Cond.initialized C ∈ rl_TT) (g5 : Cond.code y bytes maxL none ∈ rl_TT) (ha : a < n) (ho : ct a = .inr (ci, fs)) (hc : rl_Cl[ci]? = some (C, T, Nf)) (hrm : rm.cells = mc ∧ rm.slots = ms) (hd : y.cls = C ∧ y.cls ≠ "java/lang/invoke/MethodHandle" ∧ y.cls ≠ "java/lang/invoke/VarHandle" ∧ (parseMethodDescriptor y.desc).map (fun d => d.parameters.length) = some 0) (hf : rm.frames + 1 ≤ R.frames) (hlo : 8 + (maxL + 11) + rm.locals ≤ R.locals) (hcl : cells + mc ≤ R.cells ∧ slots + ms ≤ R.slots) (hw : (st.map fun v => v.category).sum ≤ 8) (kk : cg_G p l e R s m args below meth c nL F b (cells + mc) (slots + ms) Q ct' (n') (pc + 3) L (st)) : cg_G p l e R s m args below meth c nL F b cells slots Q ct (n) (pc) L (.ref (b + a) :: st) := by
  intro H locs ls hz h1 h2 h3
  have hG : GoodIn rl_TT (wsV own index C y (Cond.code y bytes maxL none :: rl_TT)) := by
    intro w hw
    rcases List.mem_append.mp hw with h | h
    · simp only [List.mem_cons, List.not_mem_nil, or_false] at h
      rcases h with rfl | rfl | rfl | rfl
      · exact rl_gd g1
      · exact rl_gd g2
      · exact rl_gd g3
      · exact rl_gd g4
    · exact rl_GI g5 w h
  exact cg_goon (va_runV (As := []) (rest := st) Γ hM (cwV 0 Γ.2.2.2.2 hG rfl hrm.1 hrm.2 hd ⟨hf, hlo⟩) ⟨cg_P_blind F b _ ct n, va_recv hO.1 h1 hc (q0 := a) ((cg_at ha).trans (by rw [ho])), fun U hU hW => ⟨rfl, by rw [hU]; exact hz, by rw [hU]; exact h1, hO.moved hW⟩⟩ rfl rfl h3.1 rfl (lv_room hw) d hcl) h2 h3 kk
theorem cg_vret {mc ms : Nat} (Γ : CallFix p m c cc nL s args rl_TT own) (d : decode cc pc = .ok (.return_, 1)) (hr : meth.sig.returnType = none) (hk : meth.locks = false) (hc : cells ≤ mc ∧ slots ≤ ms) : cg_G p l e R s m args below meth c nL F b cells slots (MQ below (cg_Q F b ct n) args s mc ms (fun q => b ≤ q)) ct n pc L [] :=
  fun H locs ls hz h1 h2 h3 => W.widen hc.1 hc.2 (W.vret Γ.1 Γ.2.1 hr (fun t ht hW => ⟨rfl, by rw [ht]; exact hz, by rw [ht]; exact h1, h2.F ht⟩) h2.2.2 d)
end CGG
