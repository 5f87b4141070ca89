def z_sw (a b x : Nat) : Nat := if x = a then b else if x = b then a else x
def z_sg (a b x : Nat) : Nat := if x = 48 + a then 48 + b else if x = 48 + b then 48 + a else x
/-- the order with two rooms changed -/
def z_rl (a b : Nat) : Lean.Data.AC.Expr → Lean.Data.AC.Expr
  | .var x => .var (z_sw a b x)
  | .op l r => .op (z_rl a b l) (z_rl a b r)
theorem z_sw_sw (a b x : Nat) : z_sw a b (z_sw a b x) = x := by
  unfold z_sw
  by_cases h1 : x = a
  · rw [if_pos h1]
    by_cases h2 : b = a
    · rw [if_pos h2]; omega
    · rw [if_neg h2, if_pos rfl]; omega
  · rw [if_neg h1]
    by_cases h2 : x = b
    · rw [if_pos h2, if_pos rfl]; omega
    · rw [if_neg h2, if_neg h1, if_neg h2]
theorem z_sg_sg (a b x : Nat) : z_sg a b (z_sg a b x) = x := by
  unfold z_sg
  by_cases h1 : x = 48 + a
  · rw [if_pos h1]
    by_cases h2 : 48 + b = 48 + a
    · rw [if_pos h2]; omega
    · rw [if_neg h2, if_pos rfl]; omega
  · rw [if_neg h1]
    by_cases h2 : x = 48 + b
    · rw [if_pos h2, if_pos rfl]; omega
    · rw [if_neg h2, if_neg h1, if_neg h2]
theorem z_sg_sw (a b x : Nat) : z_sg a b (48 + x) = 48 + z_sw a b x := by
  unfold z_sg z_sw
  by_cases h1 : x = a
  · rw [if_pos (by omega), if_pos h1]
  · rw [if_neg (by omega), if_neg h1]
    by_cases h2 : x = b
    · rw [if_pos (by omega), if_pos h2]
    · rw [if_neg (by omega), if_neg h2]
theorem z_sw_6 {a b x : Nat} (ha : a < 6) (hb : b < 6) (hx : x < 6) : z_sw a b x < 6 := by
  unfold z_sw; split
  · exact hb
  · split
    · exact ha
    · exact hx
theorem z_rl_nd (a b : Nat) (t : Lean.Data.AC.Expr) : z_nd (z_rl a b t) = z_nd t := by
  induction t with
  | var x => rfl
  | op l r il ir => simp only [z_rl, z_nd, il, ir]
theorem z_rl_rm (a b : Nat) (t : Lean.Data.AC.Expr) : z_rm (z_rl a b t) = (z_rm t).map (z_sw a b) := by
  induction t with
  | var x => rfl
  | op l r il ir => simp only [z_rl, z_rm, il, ir, List.map_append]
theorem z_rl_rl (a b : Nat) (t : Lean.Data.AC.Expr) : z_rl a b (z_rl a b t) = t := by
  induction t with
  | var x => simp only [z_rl, z_sw_sw]
  | op l r il ir => simp only [z_rl, il, ir]
theorem z_rl_in {a b r : Nat} {t : Lean.Data.AC.Expr} : r ∈ z_rm (z_rl a b t) ↔ z_sw a b r ∈ z_rm t := by
  rw [z_rl_rm, List.mem_map]
  constructor
  · rintro ⟨x, hx, e⟩
    rw [← e, z_sw_sw]; exact hx
  · intro h; exact ⟨_, h, z_sw_sw a b r⟩
theorem z_rl_fl {a b : Nat} {g : Nat → Nat} (ha : a < 6) (hb : b < 6) : ∀ (t : Lean.Data.AC.Expr) (i : Nat), z_Fl g i t → z_Fl (fun k => z_sg a b (g k)) i (z_rl a b t) := by
  intro t
  induction t with
  | var x =>
    intro i h
    refine ⟨?_, z_sw_6 ha hb h.2⟩
    show z_sg a b (g i) = 48 + z_sw a b x
    rw [h.1, z_sg_sw]
  | op l r il ir =>
    intro i h
    simp only [z_rl, z_Fl, z_rl_nd]
    refine ⟨il i h.1, ir _ h.2.1, ?_⟩
    rcases h.2.2 with e | e
    · left; rw [e]; unfold z_sg; rw [if_neg (by omega), if_neg (by omega)]
    · right; rw [e]; unfold z_sg; rw [if_neg (by omega), if_neg (by omega)]
theorem z_rl_tr {a b : Nat} {σ : rl_M} : ∀ (t : Lean.Data.AC.Expr) (i : Nat), z_Tr σ i t → z_Tr σ i (z_rl a b t) := by
  intro t
  induction t with
  | var x => intro i h; trivial
  | op l r il ir =>
    intro i h
    simp only [z_rl, z_Tr, z_rl_nd]
    exact ⟨il i h.1, ir _ h.2.1, h.2.2⟩
theorem z_rl_dup {a b : Nat} {t : Lean.Data.AC.Expr} (h : (z_rm t).Nodup) : (z_rm (z_rl a b t)).Nodup := by
  rw [z_rl_rm]
  refine List.pairwise_map.mpr (List.Pairwise.imp ?_ h)
  intro x y hxy e
  apply hxy
  rw [← z_sw_sw a b x, e, z_sw_sw]
def z_xs (A : z_A) (a b : Nat) : z_A := (z_aN A, z_an A, z_as A, A.2.2.2.1, fun k => z_sg a b (z_ag A k), (z_ao A).map (z_rl a b), A.2.2.2.2.2.2)
theorem z_xs_sm (A : z_A) (a b : Nat) : z_xs (z_xs A a b) a b = A := by
  obtain ⟨N, n, s, WH, g, o, w⟩ := A
  unfold z_xs
  have e1 : (fun k => z_sg a b (z_sg a b (g k))) = g := funext (fun k => z_sg_sg a b (g k))
  have e2 : ((o.map (z_rl a b)).map (z_rl a b)) = o := by
    cases o with
    | none => rfl
    | some t => show some (z_rl a b (z_rl a b t)) = some t; rw [z_rl_rl]
  show (N, n, s, WH, (fun k => z_sg a b (z_sg a b (g k))), ((o.map (z_rl a b)).map (z_rl a b)), w) = (N, n, s, WH, g, o, w)
  rw [e1, e2]
def z_can (A : z_A) (a b : Nat) : Prop := z_an A a ≠ 0 ∧ z_an A b ≠ 0 ∧ ∃ t, z_ao A = some t ∧ (a ∈ z_rm t ∨ b ∈ z_rm t)
theorem z_xs_o {A : z_A} {a b : Nat} {t : Lean.Data.AC.Expr} (h : z_ao (z_xs A a b) = some t) : ∃ u, z_ao A = some u ∧ t = z_rl a b u := by
  have h' : (z_ao A).map (z_rl a b) = some t := h
  cases e : z_ao A with
  | none => rw [e] at h'; simp at h'
  | some u => rw [e] at h'; exact ⟨u, rfl, (Option.some.inj h').symm⟩
theorem z_xs_ok {A : z_A} {a b : Nat} (ok : z_Ok A) (ha : a < 6) (hb : b < 6) (hna : z_an A a ≠ 0) (hnb : z_an A b ≠ 0) : z_Ok (z_xs A a b) := by
  refine ⟨ok.1, ok.2.1, ok.2.2.1, ?_⟩
  intro t ht
  obtain ⟨u, hu, rfl⟩ := z_xs_o ht
  obtain ⟨o1, o2, o3, o4⟩ := ok.2.2.2 u hu
  refine ⟨by rw [z_rl_nd]; exact o1, z_rl_fl ha hb u 0 o2, z_rl_dup o3, fun r hr => ?_⟩
  rw [z_rl_rm, List.mem_map] at hr
  obtain ⟨x, hx, rfl⟩ := hr
  have h4 := o4 x hx
  refine ⟨z_sw_6 ha hb h4.1, ?_⟩
  show z_an A (z_sw a b x) ≠ 0
  unfold z_sw
  split
  · exact hnb
  · split
    · exact hna
    · exact h4.2
theorem z_xs_can {A : z_A} {a b : Nat} (h : z_can A a b) : z_can (z_xs A a b) a b := by
  obtain ⟨h1, h2, t, h3, h4⟩ := h
  refine ⟨h1, h2, z_rl a b t, ?_, ?_⟩
  · show (z_ao A).map (z_rl a b) = some (z_rl a b t)
    rw [h3]; rfl
  · rw [z_rl_in, z_rl_in]
    have e1 : z_sw a b a = b := by unfold z_sw; rw [if_pos rfl]
    have e2 : z_sw a b b = a := by
      unfold z_sw
      by_cases h : b = a
      · rw [if_pos h]; exact h
      · rw [if_neg h, if_pos rfl]
    rw [e1, e2]
    exact h4.symm
theorem z_ceC {σ : rl_M} {A : z_A} {a b : Nat} (ok : z_Ok A) (hc : z_Cs σ A) (ha : a < 6) (hb : b < 6) : (z_can A a b ∧ rf_Ro_canExchange (nI a) (nI b) σ = some (1, σ)) ∨ (¬ z_can A a b ∧ rf_Ro_canExchange (nI a) (nI b) σ = some (0, σ)) := by
  have na := (ok.1.2.2 a ha).1
  have nb := (ok.1.2.2 b hb).1
  have sa := z_so hc.2.1 ha
  have sb := z_so hc.2.1 hb
  by_cases q1 : z_an A a = 0
  · right
    refine ⟨fun h => h.1 q1, ?_⟩
    unfold rf_Ro_canExchange
    simp (disch := omega) only [sa, z_lt, z_le, z_eq, z_ltl, z_lel, z_llt, z_lle, z_eql, z_add, z_addl, z_ladd, z_mul, z_mull, z_lmul, z_sub, z_subl, z_cl, z_ib, z_nm, z_m1, z_mlt, if_pos, if_neg, ge_iff_le, gt_iff_lt, ite_true, ite_false, if_true, if_false, Option.bind_some, z_10, eq_self]
  · by_cases q2 : z_an A b = 0
    · right
      refine ⟨fun h => h.2.1 q2, ?_⟩
      unfold rf_Ro_canExchange
      simp (disch := omega) only [sa, sb, z_lt, z_le, z_eq, z_ltl, z_lel, z_llt, z_lle, z_eql, z_add, z_addl, z_ladd, z_mul, z_mull, z_lmul, z_sub, z_subl, z_cl, z_ib, z_nm, z_m1, z_mlt, if_pos, if_neg, ge_iff_le, gt_iff_lt, ite_true, ite_false, if_true, if_false, Option.bind_some, z_10, eq_self]
    · rcases z_ndc hc ha with ⟨t, k, h1, h2, h3, h4, h5⟩ | ⟨h1, h2⟩
      · left
        have om := (ok.2.2.2 t h1).1
        refine ⟨⟨q1, q2, t, h1, Or.inl h2⟩, ?_⟩
        unfold rf_Ro_canExchange
        simp (disch := omega) only [sa, sb, z_no ha, h5, z_lt, z_le, z_eq, z_ltl, z_lel, z_llt, z_lle, z_eql, z_add, z_addl, z_ladd, z_mul, z_mull, z_lmul, z_sub, z_subl, z_cl, z_ib, z_nm, z_m1, z_mlt, if_pos, if_neg, ge_iff_le, gt_iff_lt, ite_true, ite_false, if_true, if_false, Option.bind_some, z_10, eq_self]
      · rcases z_ndc hc hb with ⟨t, k, d1, d2, d3, d4, d5⟩ | ⟨d1, d2⟩
        · left
          have om := (ok.2.2.2 t d1).1
          refine ⟨⟨q1, q2, t, d1, Or.inr d2⟩, ?_⟩
          unfold rf_Ro_canExchange
          simp (disch := omega) only [sa, sb, z_no ha, z_no hb, h2, d5, z_lt, z_le, z_eq, z_ltl, z_lel, z_llt, z_lle, z_eql, z_add, z_addl, z_ladd, z_mul, z_mull, z_lmul, z_sub, z_subl, z_cl, z_ib, z_nm, z_m1, z_mlt, if_pos, if_neg, ge_iff_le, gt_iff_lt, ite_true, ite_false, if_true, if_false, Option.bind_some, z_10, eq_self, eq_self]
        · right
          refine ⟨?_, ?_⟩
          · rintro ⟨-, -, t, e1, e2 | e2⟩
            · exact h1 t e1 e2
            · exact d1 t e1 e2
          · unfold rf_Ro_canExchange
            simp (disch := omega) only [sa, sb, z_no ha, z_no hb, h2, d2, z_lt, z_le, z_eq, z_ltl, z_lel, z_llt, z_lle, z_eql, z_add, z_addl, z_ladd, z_mul, z_mull, z_lmul, z_sub, z_subl, z_cl, z_ib, z_nm, z_m1, z_mlt, if_pos, if_neg, ge_iff_le, gt_iff_lt, ite_true, ite_false, if_true, if_false, Option.bind_some, z_10, eq_self, eq_self]
theorem z_ceR {σ : rl_M} {A : z_A} {a b : Nat} (ok : z_Ok A) (hr : z_Rs σ A) (ha : a < 6) (hb : b < 6) : (z_can A a b ∧ rf_Mo_canChange (nI a) (nI b) σ = some (1, σ)) ∨ (¬ z_can A a b ∧ rf_Mo_canChange (nI a) (nI b) σ = some (0, σ)) := by
  have na := (ok.1.2.2 a ha).1
  have nb := (ok.1.2.2 b hb).1
  have sa := (hr.2.1 a ha).1
  have sb := (hr.2.1 b hb).1
  have J : (z_an A a ≠ 0 ∧ z_an A b ≠ 0 → rf_Mo_canChange_J16 (nI a) (nI b) σ = some (1, σ)) ∧ (¬ (z_an A a ≠ 0 ∧ z_an A b ≠ 0) → rf_Mo_canChange_J16 (nI a) (nI b) σ = some (0, σ)) := by
    unfold rf_Mo_canChange_J16
    refine ⟨fun h => ?_, fun h => ?_⟩
    · have h1 := h.1
      have h2 := h.2
      simp (disch := omega) only [sa, sb, z_lt, z_le, z_eq, z_ltl, z_lel, z_llt, z_lle, z_eql, z_add, z_addl, z_ladd, z_mul, z_mull, z_lmul, z_sub, z_subl, z_cl, z_ib, z_nm, z_m1, z_mlt, if_pos, if_neg, ge_iff_le, gt_iff_lt, ite_true, ite_false, if_true, if_false, Option.bind_some, z_10, eq_self]
    · by_cases q1 : z_an A a = 0
      · simp (disch := omega) only [sa, sb, z_lt, z_le, z_eq, z_ltl, z_lel, z_llt, z_lle, z_eql, z_add, z_addl, z_ladd, z_mul, z_mull, z_lmul, z_sub, z_subl, z_cl, z_ib, z_nm, z_m1, z_mlt, if_pos, if_neg, ge_iff_le, gt_iff_lt, ite_true, ite_false, if_true, if_false, Option.bind_some, z_10, eq_self]
      · have q2 : z_an A b = 0 := by
          by_cases q2 : z_an A b = 0
          · exact q2
          · exact (h ⟨q1, q2⟩).elim
        simp (disch := omega) only [sa, sb, z_lt, z_le, z_eq, z_ltl, z_lel, z_llt, z_lle, z_eql, z_add, z_addl, z_ladd, z_mul, z_mull, z_lmul, z_sub, z_subl, z_cl, z_ib, z_nm, z_m1, z_mlt, if_pos, if_neg, ge_iff_le, gt_iff_lt, ite_true, ite_false, if_true, if_false, Option.bind_some, z_10, eq_self]
  have fin : (∃ t, z_ao A = some t ∧ (a ∈ z_rm t ∨ b ∈ z_rm t)) → rf_Mo_canChange (nI a) (nI b) σ = rf_Mo_canChange_J16 (nI a) (nI b) σ → (z_can A a b ∧ rf_Mo_canChange (nI a) (nI b) σ = some (1, σ)) ∨ (¬ z_can A a b ∧ rf_Mo_canChange (nI a) (nI b) σ = some (0, σ)) := by
    intro ht he
    by_cases q : z_an A a ≠ 0 ∧ z_an A b ≠ 0
    · exact Or.inl ⟨⟨q.1, q.2, ht⟩, he.trans (J.1 q)⟩
    · exact Or.inr ⟨fun h => q ⟨h.1, h.2.1⟩, he.trans (J.2 q)⟩
  rcases z_plc ok hr ha with ⟨t, k, h1, h2, h3, h4, h5⟩ | ⟨h1, h2⟩
  · have om := (ok.2.2.2 t h1).1
    refine fin ⟨t, h1, Or.inl h2⟩ ?_
    unfold rf_Mo_canChange
    simp (disch := omega) only [h5, z_lt, z_le, z_eq, z_ltl, z_lel, z_llt, z_lle, z_eql, z_add, z_addl, z_ladd, z_mul, z_mull, z_lmul, z_sub, z_subl, z_cl, z_ib, z_nm, z_m1, z_mlt, if_pos, if_neg, ge_iff_le, gt_iff_lt, ite_true, ite_false, if_true, if_false, Option.bind_some, z_10, eq_self]
  · rcases z_plc ok hr hb with ⟨t, k, d1, d2, d3, d4, d5⟩ | ⟨d1, d2⟩
    · have om := (ok.2.2.2 t d1).1
      refine fin ⟨t, d1, Or.inr d2⟩ ?_
      unfold rf_Mo_canChange
      simp (disch := omega) only [h2, d5, z_lt, z_le, z_eq, z_ltl, z_lel, z_llt, z_lle, z_eql, z_add, z_addl, z_ladd, z_mul, z_mull, z_lmul, z_sub, z_subl, z_cl, z_ib, z_nm, z_m1, z_mlt, if_pos, if_neg, ge_iff_le, gt_iff_lt, ite_true, ite_false, if_true, if_false, Option.bind_some, z_10, eq_self, z_0m]
    · right
      refine ⟨?_, ?_⟩
      · rintro ⟨-, -, t, e1, e2 | e2⟩
        · exact h1 t e1 e2
        · exact d1 t e1 e2
      · unfold rf_Mo_canChange
        simp (disch := omega) only [h2, d2, z_lt, z_le, z_eq, z_ltl, z_lel, z_llt, z_lle, z_eql, z_add, z_addl, z_ladd, z_mul, z_mull, z_lmul, z_sub, z_subl, z_cl, z_ib, z_nm, z_m1, z_mlt, if_pos, if_neg, ge_iff_le, gt_iff_lt, ite_true, ite_false, if_true, if_false, Option.bind_some, z_10, eq_self, z_0m]
theorem z_gn1 {σ : rl_M} {m k r : Nat} (h : σ 8 0 = nI m) (hm : m ≤ 11) (hk : k < m) (hr : r < 6) : rf_St_giveNode (nI r) (nI k) σ = some (0, rl_su (rl_su σ 14 r (nI k)) 9 k (nI (48 + r))) := by
  unfold rf_St_giveNode
  have hh := z_has (σ := rl_su σ 14 r (nI k)) (m := m) (k := k) (by rw [z_su_c (by omega)]; exact h) hm hk
  simp (disch := omega) only [hh, z_lt, z_le, z_eq, z_ltl, z_lel, z_llt, z_lle, z_eql, z_add, z_addl, z_ladd, z_mul, z_mull, z_lmul, z_sub, z_subl, z_cl, z_ib, z_nm, z_m1, z_mlt, if_pos, if_neg, ge_iff_le, gt_iff_lt, ite_true, ite_false, if_true, if_false, Option.bind_some, z_10, eq_self]
theorem z_gn0 {σ : rl_M} {r : Nat} (hr : r < 6) : rf_St_giveNode (nI r) (-1) σ = some (0, rl_su σ 14 r (-1)) := by
  unfold rf_St_giveNode
  simp (disch := omega) only [z_hasn, z_lt, z_le, z_eq, z_ltl, z_lel, z_llt, z_lle, z_eql, z_add, z_addl, z_ladd, z_mul, z_mull, z_lmul, z_sub, z_subl, z_cl, z_ib, z_nm, z_m1, z_mlt, if_pos, if_neg, ge_iff_le, gt_iff_lt, ite_true, ite_false, if_true, if_false, Option.bind_some, z_10, eq_self]
theorem z_exC {σ : rl_M} {A : z_A} {a b : Nat} (ok : z_Ok A) (hc : z_Cs σ A) (ha : a < 6) (hb : b < 6) (hab : a ≠ b) (hcan : z_can A a b) : ∃ τ, rf_Ro_changePlaces (nI a) (nI b) σ = some (0, τ) ∧ z_Cs τ (z_xs A a b) ∧ τ 3 4 = 0 ∧ τ 3 5 = 0 ∧ ∀ c, 15 ≤ c → τ c = σ c := by
  obtain ⟨hna, hnb, t, ht, hin⟩ := hcan
  obtain ⟨o1, o2, o3, o4⟩ := ok.2.2.2 t ht
  obtain ⟨p1, p2, p3, p4⟩ := hc.2.2.2.1.2 t ht
  have fin : ∀ υ : rl_M, rf_St_exchange (nI a) (nI b) σ = some (0, υ) → (∀ r, r < 6 → υ 14 r = σ 14 (z_sw a b r)) → (∀ k, k < z_nd t + 1 → υ 9 k = nI (z_sg a b (z_ag A k))) → (∀ c, c ≠ 9 → c ≠ 14 → υ c = σ c) → ∃ τ, rf_Ro_changePlaces (nI a) (nI b) σ = some (0, τ) ∧ z_Cs τ (z_xs A a b) ∧ τ 3 4 = 0 ∧ τ 3 5 = 0 ∧ ∀ c, 15 ≤ c → τ c = σ c := by
    intro υ e1 e2 e3 e4
    have f : ∀ c, c ≠ 3 → (rl_su (rl_su υ 3 4 0) 3 5 0) c = υ c := fun c hc => by rw [z_su_ce hc, z_su_ce hc]
    have f2 : ∀ c, c ≠ 3 → c ≠ 9 → c ≠ 14 → (rl_su (rl_su υ 3 4 0) 3 5 0) c = σ c := fun c h1 h2 h3 => (f c h1).trans (e4 c h2 h3)
    refine ⟨rl_su (rl_su υ 3 4 0) 3 5 0, ?_, ?_, ?_, ?_, fun c hc => f2 c (by omega) (by omega) (by omega)⟩
    · unfold rf_Ro_changePlaces rf_Pl_forget
      simp only [e1, Option.bind_some]
    · obtain ⟨c1, c2, c3, c4, c5⟩ := hc
      refine ⟨by rw [f2 4 (by omega) (by omega) (by omega)]; exact c1, z_Sz_e (f2 5 (by omega) (by omega) (by omega)) (f2 6 (by omega) (by omega) (by omega)) (f2 7 (by omega) (by omega) (by omega)) c2, ⟨?_, ?_⟩, ⟨fun hn => ?_, fun t' ht' => ?_⟩, z_Cw_e (fun c h1 h2 => f2 c (by omega) (by omega) (by omega)) c5⟩
      · rw [z_su_j (by omega), z_su_j (by omega), e4 3 (by omega) (by omega)]; exact c3.1
      · rw [z_su_j (by omega), z_su_j (by omega), e4 3 (by omega) (by omega)]; exact c3.2
      · have hn' : (z_ao A).map (z_rl a b) = none := hn
        rw [ht] at hn'; simp at hn'
      · obtain ⟨u, hu, rfl⟩ := z_xs_o ht'
        have : u = t := Option.some.inj (hu.symm.trans ht)
        subst this
        refine ⟨⟨?_, ?_⟩, ?_, ?_, ?_⟩
        · rw [z_rl_nd, f2 8 (by omega) (by omega) (by omega)]; exact p1.1
        · rw [z_rl_nd, f 9 (by omega)]; exact e3
        · exact z_rl_tr u 0 (z_Tr_g u 0 (fun j _ _ => by rw [f2 10 (by omega) (by omega) (by omega), f2 11 (by omega) (by omega) (by omega)]; exact ⟨rfl, rfl⟩) (fun j _ _ => by rw [f2 12 (by omega) (by omega) (by omega)]) p2)
        · rw [z_rl_nd, f2 12 (by omega) (by omega) (by omega)]; exact p3
        · intro r hr
          rw [f 14 (by omega), z_rl_nd, z_rl_in, e2 r hr]
          rcases p4 (z_sw a b r) (z_sw_6 ha hb hr) with ⟨q1, k, q2, q3, q4⟩ | ⟨q1, q2⟩
          · refine Or.inl ⟨q1, k, q2, q3, ?_⟩
            show z_sg a b (z_ag A k) = 48 + r
            rw [q4, z_sg_sw, z_sw_sw]
          · exact Or.inr ⟨q1, q2⟩
    · rw [z_su_j (by omega), z_su_s]
    · rw [z_su_s]
  have sa : z_sw a b a = b := by unfold z_sw; rw [if_pos rfl]
  have sb : z_sw a b b = a := by unfold z_sw; rw [if_neg (fun h => hab h.symm), if_pos rfl]
  have so : ∀ r, r ≠ a → r ≠ b → z_sw a b r = r := fun r h1 h2 => by unfold z_sw; rw [if_neg h1, if_neg h2]
  have go : ∀ k, z_ag A k ≠ 48 + a → z_ag A k ≠ 48 + b → z_sg a b (z_ag A k) = z_ag A k := fun k h1 h2 => by unfold z_sg; rw [if_neg h1, if_neg h2]
  have ga : z_sg a b (48 + a) = 48 + b := by rw [z_sg_sw, sa]
  have gb : z_sg a b (48 + b) = 48 + a := by rw [z_sg_sw, sb]
  have h8 := p1.1
  rcases z_ndc hc ha with ⟨t1, ka, h1, h2, h3, h4, h5⟩ | ⟨h1, h2⟩
  · have : t1 = t := Option.some.inj (h1.symm.trans ht)
    subst this
    have ua : ∀ k, k < z_nd t1 + 1 → z_ag A k = 48 + a → k = ka := fun k hk hg => z_one ha t1 0 k ka o2 o3 (by omega) (by omega) hg (by omega) (by omega) h4
    rcases z_ndc hc hb with ⟨t2, kb, d1, d2, d3, d4, d5⟩ | ⟨d1, d2⟩
    · have : t2 = t1 := Option.some.inj (d1.symm.trans ht)
      subst this
      have ub : ∀ k, k < z_nd t2 + 1 → z_ag A k = 48 + b → k = kb := fun k hk hg => z_one hb t2 0 k kb o2 o3 (by omega) (by omega) hg (by omega) (by omega) d4
      have kab : ka ≠ kb := fun h => by rw [h] at h4; omega
      refine fin (rl_su (rl_su (rl_su (rl_su σ 14 a (nI kb)) 9 kb (nI (48 + a))) 14 b (nI ka)) 9 ka (nI (48 + b))) ?_ ?_ ?_ ?_
      · unfold rf_St_exchange
        have g1 := z_gn1 (σ := σ) (r := a) h8 o1 (show kb < z_nd t2 + 1 by omega) ha
        have g2 := z_gn1 (σ := rl_su (rl_su σ 14 a (nI kb)) 9 kb (nI (48 + a))) (m := z_nd t2 + 1) (k := ka) (r := b) (by rw [z_su_c (by omega), z_su_c (by omega)]; exact h8) o1 (by omega) hb
        simp only [z_no ha, z_no hb, h5, d5, g1, g2, Option.bind_some]
      · intro r hr
        by_cases e1 : r = a
        · subst e1; rw [sa, d5]; simp (disch := omega) only [z_su_c, z_su_s, z_su_j]
        · by_cases e2 : r = b
          · subst e2; rw [sb, h5]; simp (disch := omega) only [z_su_c, z_su_s, z_su_j]
          · rw [so r e1 e2]; simp (disch := omega) only [z_su_c, z_su_s, z_su_j]
      · intro k hk
        by_cases e1 : k = ka
        · subst e1; rw [h4, ga]; simp (disch := omega) only [z_su_c, z_su_s, z_su_j]
        · by_cases e2 : k = kb
          · subst e2; rw [d4, gb]; simp (disch := omega) only [z_su_c, z_su_s, z_su_j]
          · rw [go k (fun h => e1 (ua k hk h)) (fun h => e2 (ub k hk h))]
            simp (disch := omega) only [z_su_c, z_su_s, z_su_j]
            exact p1.2 k hk
      · intro c h9 h14
        rw [z_su_ce h9, z_su_ce h14, z_su_ce h9, z_su_ce h14]
    · have nb : ∀ k, k < z_nd t1 + 1 → z_ag A k ≠ 48 + b := fun k hk hg => d1 t1 ht (z_in hb t1 0 k o2 (by omega) (by omega) hg)
      refine fin (rl_su (rl_su (rl_su σ 14 a (-1)) 14 b (nI ka)) 9 ka (nI (48 + b))) ?_ ?_ ?_ ?_
      · unfold rf_St_exchange
        have g1 := z_gn0 (σ := σ) ha
        have g2 := z_gn1 (σ := rl_su σ 14 a (-1)) (m := z_nd t1 + 1) (k := ka) (r := b) (by rw [z_su_c (by omega)]; exact h8) o1 (by omega) hb
        simp only [z_no ha, z_no hb, h5, d2, g1, g2, Option.bind_some]
      · intro r hr
        by_cases e1 : r = a
        · subst e1; rw [sa, d2]; simp (disch := omega) only [z_su_c, z_su_s, z_su_j]
        · by_cases e2 : r = b
          · subst e2; rw [sb, h5]; simp (disch := omega) only [z_su_c, z_su_s, z_su_j]
          · rw [so r e1 e2]; simp (disch := omega) only [z_su_c, z_su_s, z_su_j]
      · intro k hk
        by_cases e1 : k = ka
        · subst e1; rw [h4, ga]; simp (disch := omega) only [z_su_c, z_su_s, z_su_j]
        · rw [go k (fun h => e1 (ua k hk h)) (nb k hk)]
          simp (disch := omega) only [z_su_c, z_su_s, z_su_j]
          exact p1.2 k hk
      · intro c h9 h14
        rw [z_su_ce h9, z_su_ce h14, z_su_ce h14]
  · have na : ∀ k, k < z_nd t + 1 → z_ag A k ≠ 48 + a := fun k hk hg => h1 t ht (z_in ha t 0 k o2 (by omega) (by omega) hg)
    rcases z_ndc hc hb with ⟨t2, kb, d1, d2, d3, d4, d5⟩ | ⟨d1, d2⟩
    · have : t2 = t := Option.some.inj (d1.symm.trans ht)
      subst this
      have ub : ∀ k, k < z_nd t2 + 1 → z_ag A k = 48 + b → k = kb := fun k hk hg => z_one hb t2 0 k kb o2 o3 (by omega) (by omega) hg (by omega) (by omega) d4
      refine fin (rl_su (rl_su (rl_su σ 14 a (nI kb)) 9 kb (nI (48 + a))) 14 b (-1)) ?_ ?_ ?_ ?_
      · unfold rf_St_exchange
        have g1 := z_gn1 (σ := σ) (r := a) h8 o1 (show kb < z_nd t2 + 1 by omega) ha
        have g2 := z_gn0 (σ := rl_su (rl_su σ 14 a (nI kb)) 9 kb (nI (48 + a))) hb
        simp only [z_no ha, z_no hb, h2, d5, g1, g2, Option.bind_some]
      · intro r hr
        by_cases e1 : r = a
        · subst e1; rw [sa, d5]; simp (disch := omega) only [z_su_c, z_su_s, z_su_j]
        · by_cases e2 : r = b
          · subst e2; rw [sb, h2]; simp (disch := omega) only [z_su_c, z_su_s, z_su_j]
          · rw [so r e1 e2]; simp (disch := omega) only [z_su_c, z_su_s, z_su_j]
      · intro k hk
        by_cases e2 : k = kb
        · subst e2; rw [d4, gb]; simp (disch := omega) only [z_su_c, z_su_s, z_su_j]
        · rw [go k (na k hk) (fun h => e2 (ub k hk h))]
          simp (disch := omega) only [z_su_c, z_su_s, z_su_j]
          exact p1.2 k hk
      · intro c h9 h14
        rw [z_su_ce h14, z_su_ce h9, z_su_ce h14]
    · exfalso
      rcases hin with h | h
      · exact h1 t ht h
      · exact d1 t ht h
theorem z_exR {σ : rl_M} {A : z_A} {a b : Nat} (ok : z_Ok A) (hr : z_Rs σ A) (ha : a < 6) (hb : b < 6) (hab : a ≠ b) (hcan : z_can A a b) : ∃ τ, rf_Mo_change (nI a) (nI b) σ = some (0, τ) ∧ z_Rs τ (z_xs A a b) ∧ ∀ c, c ≠ 63 → τ c = σ c := by
  obtain ⟨hna, hnb, t, ht, hin⟩ := hcan
  obtain ⟨o1, o2, o3, o4⟩ := ok.2.2.2 t ht
  have p1 := hr.2.2.2.1.2 t ht
  have fin : ∀ υ : rl_M, rf_Mo_change (nI a) (nI b) σ = some (0, υ) → (∀ k, k < z_nd t + 1 → υ 63 k = nI (z_sg a b (z_ag A k))) → (∀ c, c ≠ 63 → υ c = σ c) → ∃ τ, rf_Mo_change (nI a) (nI b) σ = some (0, τ) ∧ z_Rs τ (z_xs A a b) ∧ ∀ c, c ≠ 63 → τ c = σ c := by
    intro υ e1 e3 e4
    refine ⟨υ, e1, ?_, e4⟩
    obtain ⟨c1, c2, c3, c4, c5⟩ := hr
    refine ⟨by rw [e4 59 (by omega)]; exact c1, z_Sq_e (e4 60 (by omega)) (e4 61 (by omega)) (e4 62 (by omega)) c2, by rw [e4 59 (by omega)]; exact c3, ⟨fun hn => ?_, fun t' ht' => ?_⟩, z_Rw_e (by rw [e4 59 (by omega)]) (fun c h1 h2 => e4 c (by omega)) c5⟩
    · have hn' : (z_ao A).map (z_rl a b) = none := hn
      rw [ht] at hn'; simp at hn'
    · obtain ⟨u, hu, rfl⟩ := z_xs_o ht'
      have : u = t := Option.some.inj (hu.symm.trans ht)
      subst this
      rw [z_rl_nd]
      refine ⟨by rw [e4 59 (by omega)]; exact p1.1, fun k hk => ⟨e3 k hk, ?_⟩⟩
      show z_sg a b (z_ag A k) ≤ 255
      have := (p1.2 k hk).2
      unfold z_sg
      split
      · omega
      · split <;> omega
  have sa : z_sw a b a = b := by unfold z_sw; rw [if_pos rfl]
  have sb : z_sw a b b = a := by unfold z_sw; rw [if_neg (fun h => hab h.symm), if_pos rfl]
  have go : ∀ k, z_ag A k ≠ 48 + a → z_ag A k ≠ 48 + b → z_sg a b (z_ag A k) = z_ag A k := fun k h1 h2 => by unfold z_sg; rw [if_neg h1, if_neg h2]
  have ga : z_sg a b (48 + a) = 48 + b := by rw [z_sg_sw, sa]
  have gb : z_sg a b (48 + b) = 48 + a := by rw [z_sg_sw, sb]
  rcases z_plc ok hr ha with ⟨t1, ka, h1, h2, h3, h4, h5⟩ | ⟨h1, h2⟩
  · have : t1 = t := Option.some.inj (h1.symm.trans ht)
    subst this
    have ua : ∀ k, k < z_nd t1 + 1 → z_ag A k = 48 + a → k = ka := fun k hk hg => z_one ha t1 0 k ka o2 o3 (by omega) (by omega) hg (by omega) (by omega) h4
    rcases z_plc ok hr hb with ⟨t2, kb, d1, d2, d3, d4, d5⟩ | ⟨d1, d2⟩
    · have : t2 = t1 := Option.some.inj (d1.symm.trans ht)
      subst this
      have ub : ∀ k, k < z_nd t2 + 1 → z_ag A k = 48 + b → k = kb := fun k hk hg => z_one hb t2 0 k kb o2 o3 (by omega) (by omega) hg (by omega) (by omega) d4
      have kab : ka ≠ kb := fun h => by rw [h] at h4; omega
      refine fin (rl_su (rl_su σ 63 ka (nI (48 + b))) 63 kb (nI (48 + a))) ?_ ?_ ?_
      · unfold rf_Mo_change rf_Mo_change_J27
        simp (disch := omega) only [h5, d5, z_lt, z_le, z_eq, z_ltl, z_lel, z_llt, z_lle, z_eql, z_add, z_addl, z_ladd, z_mul, z_mull, z_lmul, z_sub, z_subl, z_cl, z_ib, z_nm, z_m1, z_mlt, if_pos, if_neg, ge_iff_le, gt_iff_lt, ite_true, ite_false, if_true, if_false, Option.bind_some, z_10, eq_self]
      · intro k hk
        by_cases e1 : k = ka
        · subst e1; rw [h4, ga]; simp (disch := omega) only [z_su_c, z_su_s, z_su_j]
        · by_cases e2 : k = kb
          · subst e2; rw [d4, gb]; simp (disch := omega) only [z_su_c, z_su_s, z_su_j]
          · rw [go k (fun h => e1 (ua k hk h)) (fun h => e2 (ub k hk h))]
            simp (disch := omega) only [z_su_c, z_su_s, z_su_j]
            exact (p1.2 k hk).1
      · intro c h9
        rw [z_su_ce h9, z_su_ce h9]
    · have nb : ∀ k, k < z_nd t1 + 1 → z_ag A k ≠ 48 + b := fun k hk hg => d1 t1 ht (z_in hb t1 0 k o2 (by omega) (by omega) hg)
      refine fin (rl_su σ 63 ka (nI (48 + b))) ?_ ?_ ?_
      · unfold rf_Mo_change rf_Mo_change_J27
        simp (disch := omega) only [h5, d2, z_lt, z_le, z_eq, z_ltl, z_lel, z_llt, z_lle, z_eql, z_add, z_addl, z_ladd, z_mul, z_mull, z_lmul, z_sub, z_subl, z_cl, z_ib, z_nm, z_m1, z_mlt, if_pos, if_neg, ge_iff_le, gt_iff_lt, ite_true, ite_false, if_true, if_false, Option.bind_some, z_10, eq_self]
      · intro k hk
        by_cases e1 : k = ka
        · subst e1; rw [h4, ga]; simp (disch := omega) only [z_su_c, z_su_s, z_su_j]
        · rw [go k (fun h => e1 (ua k hk h)) (nb k hk)]
          simp (disch := omega) only [z_su_c, z_su_s, z_su_j]
          exact (p1.2 k hk).1
      · intro c h9
        rw [z_su_ce h9]
  · have na : ∀ k, k < z_nd t + 1 → z_ag A k ≠ 48 + a := fun k hk hg => h1 t ht (z_in ha t 0 k o2 (by omega) (by omega) hg)
    rcases z_plc ok hr hb with ⟨t2, kb, d1, d2, d3, d4, d5⟩ | ⟨d1, d2⟩
    · have : t2 = t := Option.some.inj (d1.symm.trans ht)
      subst this
      have ub : ∀ k, k < z_nd t2 + 1 → z_ag A k = 48 + b → k = kb := fun k hk hg => z_one hb t2 0 k kb o2 o3 (by omega) (by omega) hg (by omega) (by omega) d4
      refine fin (rl_su σ 63 kb (nI (48 + a))) ?_ ?_ ?_
      · unfold rf_Mo_change rf_Mo_change_J27
        simp (disch := omega) only [h2, d5, z_lt, z_le, z_eq, z_ltl, z_lel, z_llt, z_lle, z_eql, z_add, z_addl, z_ladd, z_mul, z_mull, z_lmul, z_sub, z_subl, z_cl, z_ib, z_nm, z_m1, z_mlt, if_pos, if_neg, ge_iff_le, gt_iff_lt, ite_true, ite_false, if_true, if_false, Option.bind_some, z_10, eq_self]
      · intro k hk
        by_cases e2 : k = kb
        · subst e2; rw [d4, gb]; simp (disch := omega) only [z_su_c, z_su_s, z_su_j]
        · rw [go k (na k hk) (fun h => e2 (ub k hk h))]
          simp (disch := omega) only [z_su_c, z_su_s, z_su_j]
          exact (p1.2 k hk).1
      · intro c h9
        rw [z_su_ce h9]
    · exfalso
      rcases hin with h | h
      · exact h1 t ht h
      · exact d1 t ht h
theorem z_case11 (P1 P2 P3 P4 : Int32) (σ : rl_M) (h : z_Inv σ) : ∃ τ, lf_11 P1 P2 P3 P4 σ = some τ ∧ z_Inv τ := by
  obtain ⟨A, ok, hc, hr, hf⟩ := h
  have e1 := z_120
  have hN := ok.1.1
  have J1 : ∀ τ : rl_M, rf_Mo_swap_J26 P1 P2 τ = some (0, rl_su τ 59 0 1) := by
    intro τ
    unfold rf_Mo_swap_J26 rf_Mo_swap_J27
    rw [z_su_s, if_pos (by decide)]
  rcases z_two P1 P2 (z_aN A) (by omega) with ⟨a, b, a1, a2, a3, a4, a5, a6, a7, a8⟩ | ⟨a7, a8⟩
  · have a7' := a7 σ hc.1
    subst a4 a5
    have e00 : ¬ ((0 : Int32) < 0) := by decide
    rcases z_ceC ok hc (show a < 6 by omega) (show b < 6 by omega) with ⟨c1, c2⟩ | ⟨c1, c2⟩
    · obtain ⟨τ, t1, t2, t3, t4, t5⟩ := z_exC ok hc (by omega) (by omega) a3 c1
      have w1 : wf_swap (nI a) (nI b) σ = some (0, rl_su τ 78 0 1) := by
        unfold wf_swap rf_Ro_swap
        simp only [a7', Option.bind_some, if_true, c2, z_10, if_false, t1]
      have hr1 : z_Rs τ A := z_Rs_c (fun c h1 h2 => t5 c (by omega)) hr
      have hr2 : z_Rs (rl_su (rl_su τ 78 0 1) 59 0 0) A := z_Rs_x (z_FX_8.tr z_FX_0) hr1
      have a8' := a8 (rl_su τ 78 0 1) (z_Rs_x z_FX_8 hr1).1
      obtain ⟨υ, u1, u2, u3⟩ := z_exR ok hr2 (show a < 6 by omega) (show b < 6 by omega) a3 c1
      have cc : rf_Mo_canChange (nI a) (nI b) (rl_su (rl_su τ 78 0 1) 59 0 0) = some (1, rl_su (rl_su τ 78 0 1) 59 0 0) := by
        rcases z_ceR ok hr2 (show a < 6 by omega) (show b < 6 by omega) with ⟨-, d2⟩ | ⟨d1, -⟩
        · exact d2
        · exact (d1 c1).elim
      have m1 : rf_Mo_swap (nI a) (nI b) (rl_su τ 78 0 1) = some (1, υ) := by
        unfold rf_Mo_swap rf_Mo_swap_J27
        simp only [a8'.1, a8'.2, Option.bind_some, z_10, if_false, if_neg a6, z_su_s, if_neg e00, cc, u1]
      refine ⟨υ, z_fin2 w1 m1 ?_ (fun _ => ⟨?_, Or.inr rfl⟩), z_xs A a b, z_xs_ok ok (by omega) (by omega) c1.1 c1.2.1, ?_, u2, Or.inl ⟨?_, ?_⟩⟩
      · rw [u3 59 (by omega), z_su_s]
      · rw [u3 78 (by omega), z_su_c (by omega), z_su_s]
      · exact z_Cs_l (fun c hh => by rw [u3 c (by omega), z_su_ce (by omega), z_su_ce (by omega)]) t2
      · rw [u3 3 (by omega), z_su_c (by omega), z_su_c (by omega)]; exact t3
      · rw [u3 3 (by omega), z_su_c (by omega), z_su_c (by omega)]; exact t4
    · have w1 : wf_swap (nI a) (nI b) σ = some (0, rl_su σ 78 0 0) := by
        unfold wf_swap rf_Ro_swap
        simp only [a7', Option.bind_some, if_true, c2]
      have hr2 : z_Rs (rl_su (rl_su σ 78 0 0) 59 0 0) A := z_Rs_x (z_FX_8.tr z_FX_0) hr
      have a8' := a8 (rl_su σ 78 0 0) (z_Rs_x z_FX_8 hr).1
      have cc : rf_Mo_canChange (nI a) (nI b) (rl_su (rl_su σ 78 0 0) 59 0 0) = some (0, rl_su (rl_su σ 78 0 0) 59 0 0) := by
        rcases z_ceR ok hr2 (show a < 6 by omega) (show b < 6 by omega) with ⟨d1, -⟩ | ⟨-, d2⟩
        · exact (c1 d1).elim
        · exact d2
      have m1 : rf_Mo_swap (nI a) (nI b) (rl_su σ 78 0 0) = some (0, rl_su (rl_su σ 78 0 0) 59 0 0) := by
        unfold rf_Mo_swap rf_Mo_swap_J27
        simp only [a8'.1, a8'.2, Option.bind_some, z_10, if_false, if_neg a6, z_su_s, if_neg e00, cc, if_true]
      exact ⟨_, z_fin2 w1 m1 (by rw [z_su_s]) (fun _ => ⟨by rw [z_su_c (by omega), z_su_s], Or.inl rfl⟩), z_keep ok hc hr hf (z_FX_8.tr z_FX_0)⟩
  · have a7' := a7 σ hc.1
    have w1 : wf_swap P1 P2 σ = some (1, σ) := by
      unfold wf_swap rf_Ro_swap
      simp only [a7', Option.bind_some, e1.1, if_false, if_true]
    have m1 : rf_Mo_swap P1 P2 σ = some (0, rl_su σ 59 0 1) := by
      unfold rf_Mo_swap
      rcases a8 σ hr.1 with a | ⟨a, b | ⟨a', a''⟩⟩
      · simp only [a, Option.bind_some, if_true, J1]
      · simp only [b, a, Option.bind_some, z_10, if_false, if_true, J1]
      · simp only [a, a', if_pos a'', Option.bind_some, z_10, if_false, if_true, J1]
    exact ⟨_, z_fin2 w1 m1 (by rw [z_su_s]) (fun h => absurd h (by decide)), z_keep ok hc hr hf z_FX_0⟩
